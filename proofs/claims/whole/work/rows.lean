section
-- ===== PART A: goes FIRST, ahead of the names: the tables' words, and 'selects' of the private methods out of them =====
/-- a private method of a class that the tables say can be made, by its rows of tables_1 -/
def lw_okq (q : MethodName × Nat) : Prop := (q.1.cls ≠ "java/lang/invoke/MethodHandle" ∧ q.1.cls ≠ "java/lang/invoke/VarHandle") ∧ Cond.instantiable q.1.cls q.2 ∈ tables_1 ∧ Cond.privateMethod q.1 ∈ tables_1 ∧ Cond.instanceMethod q.1 ∈ tables_1
theorem lw_p0 : lw_okq (⟨"RegattaTimes$Committee", "startAnew", "(I)V"⟩, 1) := ⟨⟨by decide +kernel, by decide +kernel⟩, List.mem_of_getElem? (i := 114) (by decide +kernel), List.mem_of_getElem? (i := 294) (by decide +kernel), List.mem_of_getElem? (i := 295) (by decide +kernel)⟩
theorem lw_p1 : lw_okq (⟨"RegattaTimes$Committee", "kindAfterLine", "(I)I"⟩, 1) := ⟨⟨by decide +kernel, by decide +kernel⟩, List.mem_of_getElem? (i := 114) (by decide +kernel), List.mem_of_getElem? (i := 366) (by decide +kernel), List.mem_of_getElem? (i := 367) (by decide +kernel)⟩
theorem lw_p2 : lw_okq (⟨"RegattaTimes$Committee", "hasAllRoundings", "(I)Z"⟩, 1) := ⟨⟨by decide +kernel, by decide +kernel⟩, List.mem_of_getElem? (i := 114) (by decide +kernel), List.mem_of_getElem? (i := 375) (by decide +kernel), List.mem_of_getElem? (i := 376) (by decide +kernel)⟩
theorem lw_p3 : lw_okq (⟨"RegattaTimes$Jury", "isOnCourse", "(I)Z"⟩, 1) := ⟨⟨by decide +kernel, by decide +kernel⟩, List.mem_of_getElem? (i := 124) (by decide +kernel), List.mem_of_getElem? (i := 422) (by decide +kernel), List.mem_of_getElem? (i := 423) (by decide +kernel)⟩
theorem lw_p4 : lw_okq (⟨"RegattaTimes$Log", "expectedAfter", "(IC)I"⟩, 1) := ⟨⟨by decide +kernel, by decide +kernel⟩, List.mem_of_getElem? (i := 177) (by decide +kernel), List.mem_of_getElem? (i := 629) (by decide +kernel), List.mem_of_getElem? (i := 630) (by decide +kernel)⟩
theorem lw_p5 : lw_okq (⟨"RegattaTimes$Log", "expectedAfterLetter", "(C)I"⟩, 1) := ⟨⟨by decide +kernel, by decide +kernel⟩, List.mem_of_getElem? (i := 177) (by decide +kernel), List.mem_of_getElem? (i := 633) (by decide +kernel), List.mem_of_getElem? (i := 634) (by decide +kernel)⟩
theorem lw_p6 : lw_okq (⟨"RegattaTimes$Log", "isIn", "(CCC)Z"⟩, 1) := ⟨⟨by decide +kernel, by decide +kernel⟩, List.mem_of_getElem? (i := 177) (by decide +kernel), List.mem_of_getElem? (i := 637) (by decide +kernel), List.mem_of_getElem? (i := 638) (by decide +kernel)⟩
theorem lw_p7 : lw_okq (⟨"RegattaTimes$Log", "expectedAfterEvent", "(C)I"⟩, 1) := ⟨⟨by decide +kernel, by decide +kernel⟩, List.mem_of_getElem? (i := 177) (by decide +kernel), List.mem_of_getElem? (i := 641) (by decide +kernel), List.mem_of_getElem? (i := 642) (by decide +kernel)⟩
theorem lw_p8 : lw_okq (⟨"RegattaTimes$Log", "canEnd", "(I)Z"⟩, 1) := ⟨⟨by decide +kernel, by decide +kernel⟩, List.mem_of_getElem? (i := 177) (by decide +kernel), List.mem_of_getElem? (i := 645) (by decide +kernel), List.mem_of_getElem? (i := 646) (by decide +kernel)⟩
theorem lw_p9 : lw_okq (⟨"RegattaTimes", "carryOutEvent", "(II)I"⟩, 10) := ⟨⟨by decide +kernel, by decide +kernel⟩, List.mem_of_getElem? (i := 21) (by decide +kernel), List.mem_of_getElem? (i := 665) (by decide +kernel), List.mem_of_getElem? (i := 666) (by decide +kernel)⟩
theorem lw_p10 : lw_okq (⟨"RegattaTimes$Scores", "readTimes", "(I)V"⟩, 5) := ⟨⟨by decide +kernel, by decide +kernel⟩, List.mem_of_getElem? (i := 134) (by decide +kernel), List.mem_of_getElem? (i := 735) (by decide +kernel), List.mem_of_getElem? (i := 736) (by decide +kernel)⟩
theorem lw_p11 : lw_okq (⟨"RegattaTimes$Scores", "place", "(I)I"⟩, 5) := ⟨⟨by decide +kernel, by decide +kernel⟩, List.mem_of_getElem? (i := 134) (by decide +kernel), List.mem_of_getElem? (i := 743) (by decide +kernel), List.mem_of_getElem? (i := 744) (by decide +kernel)⟩
theorem lw_p12 : lw_okq (⟨"RegattaTimes$Scores", "pointsFor", "(III)I"⟩, 5) := ⟨⟨by decide +kernel, by decide +kernel⟩, List.mem_of_getElem? (i := 134) (by decide +kernel), List.mem_of_getElem? (i := 752) (by decide +kernel), List.mem_of_getElem? (i := 753) (by decide +kernel)⟩
theorem lw_p13 : lw_okq (⟨"RegattaTimes$Scores", "recountRace", "(I)V"⟩, 5) := ⟨⟨by decide +kernel, by decide +kernel⟩, List.mem_of_getElem? (i := 134) (by decide +kernel), List.mem_of_getElem? (i := 766) (by decide +kernel), List.mem_of_getElem? (i := 767) (by decide +kernel)⟩
theorem lw_p14 : lw_okq (⟨"RegattaTimes$Scores", "sumUp", "(I)V"⟩, 5) := ⟨⟨by decide +kernel, by decide +kernel⟩, List.mem_of_getElem? (i := 134) (by decide +kernel), List.mem_of_getElem? (i := 771) (by decide +kernel), List.mem_of_getElem? (i := 772) (by decide +kernel)⟩
theorem lw_p15 : lw_okq (⟨"RegattaTimes$Scores", "isDropping", "()Z"⟩, 5) := ⟨⟨by decide +kernel, by decide +kernel⟩, List.mem_of_getElem? (i := 134) (by decide +kernel), List.mem_of_getElem? (i := 775) (by decide +kernel), List.mem_of_getElem? (i := 776) (by decide +kernel)⟩
def lw_privs_1 : List (MethodName × Nat) := [(⟨"RegattaTimes$Committee", "startAnew", "(I)V"⟩, 1), (⟨"RegattaTimes$Committee", "kindAfterLine", "(I)I"⟩, 1), (⟨"RegattaTimes$Committee", "hasAllRoundings", "(I)Z"⟩, 1), (⟨"RegattaTimes$Jury", "isOnCourse", "(I)Z"⟩, 1), (⟨"RegattaTimes$Log", "expectedAfter", "(IC)I"⟩, 1), (⟨"RegattaTimes$Log", "expectedAfterLetter", "(C)I"⟩, 1), (⟨"RegattaTimes$Log", "isIn", "(CCC)Z"⟩, 1), (⟨"RegattaTimes$Log", "expectedAfterEvent", "(C)I"⟩, 1), (⟨"RegattaTimes$Log", "canEnd", "(I)Z"⟩, 1), (⟨"RegattaTimes", "carryOutEvent", "(II)I"⟩, 10), (⟨"RegattaTimes$Scores", "readTimes", "(I)V"⟩, 5), (⟨"RegattaTimes$Scores", "place", "(I)I"⟩, 5), (⟨"RegattaTimes$Scores", "pointsFor", "(III)I"⟩, 5), (⟨"RegattaTimes$Scores", "recountRace", "(I)V"⟩, 5), (⟨"RegattaTimes$Scores", "sumUp", "(I)V"⟩, 5), (⟨"RegattaTimes$Scores", "isDropping", "()Z"⟩, 5)]
theorem lw_r1 : ∀ q ∈ lw_privs_1, lw_okq q := List.forall_mem_cons.mpr ⟨lw_p0, List.forall_mem_cons.mpr ⟨lw_p1, List.forall_mem_cons.mpr ⟨lw_p2, List.forall_mem_cons.mpr ⟨lw_p3, List.forall_mem_cons.mpr ⟨lw_p4, List.forall_mem_cons.mpr ⟨lw_p5, List.forall_mem_cons.mpr ⟨lw_p6, List.forall_mem_cons.mpr ⟨lw_p7, List.forall_mem_cons.mpr ⟨lw_p8, List.forall_mem_cons.mpr ⟨lw_p9, List.forall_mem_cons.mpr ⟨lw_p10, List.forall_mem_cons.mpr ⟨lw_p11, List.forall_mem_cons.mpr ⟨lw_p12, List.forall_mem_cons.mpr ⟨lw_p13, List.forall_mem_cons.mpr ⟨lw_p14, List.forall_mem_cons.mpr ⟨lw_p15, fun _ h => absurd h List.not_mem_nil⟩⟩⟩⟩⟩⟩⟩⟩⟩⟩⟩⟩⟩⟩⟩⟩
theorem lw_p16 : lw_okq (⟨"RegattaTimes$Scores", "isAhead", "(II)Z"⟩, 5) := ⟨⟨by decide +kernel, by decide +kernel⟩, List.mem_of_getElem? (i := 134) (by decide +kernel), List.mem_of_getElem? (i := 788) (by decide +kernel), List.mem_of_getElem? (i := 789) (by decide +kernel)⟩
theorem lw_p17 : lw_okq (⟨"RegattaTimesModel", "record", "()V"⟩, 12) := ⟨⟨by decide +kernel, by decide +kernel⟩, List.mem_of_getElem? (i := 863) (by decide +kernel), List.mem_of_getElem? (i := 913) (by decide +kernel), List.mem_of_getElem? (i := 914) (by decide +kernel)⟩
theorem lw_p18 : lw_okq (⟨"RegattaTimesModel", "isPrepared", "()Z"⟩, 12) := ⟨⟨by decide +kernel, by decide +kernel⟩, List.mem_of_getElem? (i := 863) (by decide +kernel), List.mem_of_getElem? (i := 924) (by decide +kernel), List.mem_of_getElem? (i := 925) (by decide +kernel)⟩
theorem lw_p19 : lw_okq (⟨"RegattaTimesModel", "latest", "()I"⟩, 12) := ⟨⟨by decide +kernel, by decide +kernel⟩, List.mem_of_getElem? (i := 863) (by decide +kernel), List.mem_of_getElem? (i := 928) (by decide +kernel), List.mem_of_getElem? (i := 929) (by decide +kernel)⟩
theorem lw_p20 : lw_okq (⟨"RegattaTimesModel", "ofRace", "(II)I"⟩, 12) := ⟨⟨by decide +kernel, by decide +kernel⟩, List.mem_of_getElem? (i := 863) (by decide +kernel), List.mem_of_getElem? (i := 932) (by decide +kernel), List.mem_of_getElem? (i := 933) (by decide +kernel)⟩
theorem lw_p21 : lw_okq (⟨"RegattaTimesModel", "clear", "()V"⟩, 12) := ⟨⟨by decide +kernel, by decide +kernel⟩, List.mem_of_getElem? (i := 863) (by decide +kernel), List.mem_of_getElem? (i := 936) (by decide +kernel), List.mem_of_getElem? (i := 937) (by decide +kernel)⟩
theorem lw_p22 : lw_okq (⟨"RegattaTimesModel", "lay", "(IIII)V"⟩, 12) := ⟨⟨by decide +kernel, by decide +kernel⟩, List.mem_of_getElem? (i := 863) (by decide +kernel), List.mem_of_getElem? (i := 940) (by decide +kernel), List.mem_of_getElem? (i := 941) (by decide +kernel)⟩
theorem lw_p23 : lw_okq (⟨"RegattaTimesModel", "start", "()I"⟩, 12) := ⟨⟨by decide +kernel, by decide +kernel⟩, List.mem_of_getElem? (i := 863) (by decide +kernel), List.mem_of_getElem? (i := 948) (by decide +kernel), List.mem_of_getElem? (i := 949) (by decide +kernel)⟩
theorem lw_p24 : lw_okq (⟨"RegattaTimesModel", "passError", "(I)I"⟩, 12) := ⟨⟨by decide +kernel, by decide +kernel⟩, List.mem_of_getElem? (i := 863) (by decide +kernel), List.mem_of_getElem? (i := 960) (by decide +kernel), List.mem_of_getElem? (i := 961) (by decide +kernel)⟩
theorem lw_p25 : lw_okq (⟨"RegattaTimesModel", "doPass", "(I)I"⟩, 12) := ⟨⟨by decide +kernel, by decide +kernel⟩, List.mem_of_getElem? (i := 863) (by decide +kernel), List.mem_of_getElem? (i := 965) (by decide +kernel), List.mem_of_getElem? (i := 966) (by decide +kernel)⟩
theorem lw_p26 : lw_okq (⟨"RegattaTimesModel", "lineError", "(I)I"⟩, 12) := ⟨⟨by decide +kernel, by decide +kernel⟩, List.mem_of_getElem? (i := 863) (by decide +kernel), List.mem_of_getElem? (i := 973) (by decide +kernel), List.mem_of_getElem? (i := 974) (by decide +kernel)⟩
theorem lw_p27 : lw_okq (⟨"RegattaTimesModel", "isBoat", "(I)Z"⟩, 12) := ⟨⟨by decide +kernel, by decide +kernel⟩, List.mem_of_getElem? (i := 863) (by decide +kernel), List.mem_of_getElem? (i := 977) (by decide +kernel), List.mem_of_getElem? (i := 978) (by decide +kernel)⟩
theorem lw_p28 : lw_okq (⟨"RegattaTimesModel", "status", "(I)I"⟩, 12) := ⟨⟨by decide +kernel, by decide +kernel⟩, List.mem_of_getElem? (i := 863) (by decide +kernel), List.mem_of_getElem? (i := 981) (by decide +kernel), List.mem_of_getElem? (i := 982) (by decide +kernel)⟩
theorem lw_p29 : lw_okq (⟨"RegattaTimesModel", "of", "(III)I"⟩, 12) := ⟨⟨by decide +kernel, by decide +kernel⟩, List.mem_of_getElem? (i := 863) (by decide +kernel), List.mem_of_getElem? (i := 985) (by decide +kernel), List.mem_of_getElem? (i := 986) (by decide +kernel)⟩
theorem lw_p30 : lw_okq (⟨"RegattaTimesModel", "isWhole", "(I)Z"⟩, 12) := ⟨⟨by decide +kernel, by decide +kernel⟩, List.mem_of_getElem? (i := 863) (by decide +kernel), List.mem_of_getElem? (i := 989) (by decide +kernel), List.mem_of_getElem? (i := 990) (by decide +kernel)⟩
theorem lw_p31 : lw_okq (⟨"RegattaTimesModel", "doLine", "(I)I"⟩, 12) := ⟨⟨by decide +kernel, by decide +kernel⟩, List.mem_of_getElem? (i := 863) (by decide +kernel), List.mem_of_getElem? (i := 993) (by decide +kernel), List.mem_of_getElem? (i := 994) (by decide +kernel)⟩
def lw_privs_2 : List (MethodName × Nat) := [(⟨"RegattaTimes$Scores", "isAhead", "(II)Z"⟩, 5), (⟨"RegattaTimesModel", "record", "()V"⟩, 12), (⟨"RegattaTimesModel", "isPrepared", "()Z"⟩, 12), (⟨"RegattaTimesModel", "latest", "()I"⟩, 12), (⟨"RegattaTimesModel", "ofRace", "(II)I"⟩, 12), (⟨"RegattaTimesModel", "clear", "()V"⟩, 12), (⟨"RegattaTimesModel", "lay", "(IIII)V"⟩, 12), (⟨"RegattaTimesModel", "start", "()I"⟩, 12), (⟨"RegattaTimesModel", "passError", "(I)I"⟩, 12), (⟨"RegattaTimesModel", "doPass", "(I)I"⟩, 12), (⟨"RegattaTimesModel", "lineError", "(I)I"⟩, 12), (⟨"RegattaTimesModel", "isBoat", "(I)Z"⟩, 12), (⟨"RegattaTimesModel", "status", "(I)I"⟩, 12), (⟨"RegattaTimesModel", "of", "(III)I"⟩, 12), (⟨"RegattaTimesModel", "isWhole", "(I)Z"⟩, 12), (⟨"RegattaTimesModel", "doLine", "(I)I"⟩, 12)]
theorem lw_r2 : ∀ q ∈ lw_privs_2, lw_okq q := List.forall_mem_cons.mpr ⟨lw_p16, List.forall_mem_cons.mpr ⟨lw_p17, List.forall_mem_cons.mpr ⟨lw_p18, List.forall_mem_cons.mpr ⟨lw_p19, List.forall_mem_cons.mpr ⟨lw_p20, List.forall_mem_cons.mpr ⟨lw_p21, List.forall_mem_cons.mpr ⟨lw_p22, List.forall_mem_cons.mpr ⟨lw_p23, List.forall_mem_cons.mpr ⟨lw_p24, List.forall_mem_cons.mpr ⟨lw_p25, List.forall_mem_cons.mpr ⟨lw_p26, List.forall_mem_cons.mpr ⟨lw_p27, List.forall_mem_cons.mpr ⟨lw_p28, List.forall_mem_cons.mpr ⟨lw_p29, List.forall_mem_cons.mpr ⟨lw_p30, List.forall_mem_cons.mpr ⟨lw_p31, fun _ h => absurd h List.not_mem_nil⟩⟩⟩⟩⟩⟩⟩⟩⟩⟩⟩⟩⟩⟩⟩⟩
theorem lw_p32 : lw_okq (⟨"RegattaTimesModel", "buoyError", "(II)I"⟩, 12) := ⟨⟨by decide +kernel, by decide +kernel⟩, List.mem_of_getElem? (i := 863) (by decide +kernel), List.mem_of_getElem? (i := 1001) (by decide +kernel), List.mem_of_getElem? (i := 1002) (by decide +kernel)⟩
theorem lw_p33 : lw_okq (⟨"RegattaTimesModel", "doBuoy", "(II)I"⟩, 12) := ⟨⟨by decide +kernel, by decide +kernel⟩, List.mem_of_getElem? (i := 863) (by decide +kernel), List.mem_of_getElem? (i := 1005) (by decide +kernel), List.mem_of_getElem? (i := 1006) (by decide +kernel)⟩
theorem lw_p34 : lw_okq (⟨"RegattaTimesModel", "retireError", "(I)I"⟩, 12) := ⟨⟨by decide +kernel, by decide +kernel⟩, List.mem_of_getElem? (i := 863) (by decide +kernel), List.mem_of_getElem? (i := 1013) (by decide +kernel), List.mem_of_getElem? (i := 1014) (by decide +kernel)⟩
theorem lw_p35 : lw_okq (⟨"RegattaTimesModel", "doRetire", "(I)I"⟩, 12) := ⟨⟨by decide +kernel, by decide +kernel⟩, List.mem_of_getElem? (i := 863) (by decide +kernel), List.mem_of_getElem? (i := 1017) (by decide +kernel), List.mem_of_getElem? (i := 1018) (by decide +kernel)⟩
theorem lw_p36 : lw_okq (⟨"RegattaTimesModel", "finishedIn", "(I)I"⟩, 12) := ⟨⟨by decide +kernel, by decide +kernel⟩, List.mem_of_getElem? (i := 863) (by decide +kernel), List.mem_of_getElem? (i := 1025) (by decide +kernel), List.mem_of_getElem? (i := 1026) (by decide +kernel)⟩
theorem lw_p37 : lw_okq (⟨"RegattaTimesModel", "hailError", "(II)I"⟩, 12) := ⟨⟨by decide +kernel, by decide +kernel⟩, List.mem_of_getElem? (i := 863) (by decide +kernel), List.mem_of_getElem? (i := 1033) (by decide +kernel), List.mem_of_getElem? (i := 1034) (by decide +kernel)⟩
theorem lw_p38 : lw_okq (⟨"RegattaTimesModel", "isOnWater", "(I)Z"⟩, 12) := ⟨⟨by decide +kernel, by decide +kernel⟩, List.mem_of_getElem? (i := 863) (by decide +kernel), List.mem_of_getElem? (i := 1037) (by decide +kernel), List.mem_of_getElem? (i := 1038) (by decide +kernel)⟩
theorem lw_p39 : lw_okq (⟨"RegattaTimesModel", "doHail", "(II)I"⟩, 12) := ⟨⟨by decide +kernel, by decide +kernel⟩, List.mem_of_getElem? (i := 863) (by decide +kernel), List.mem_of_getElem? (i := 1041) (by decide +kernel), List.mem_of_getElem? (i := 1042) (by decide +kernel)⟩
theorem lw_p40 : lw_okq (⟨"RegattaTimesModel", "isProtest", "(I)Z"⟩, 12) := ⟨⟨by decide +kernel, by decide +kernel⟩, List.mem_of_getElem? (i := 863) (by decide +kernel), List.mem_of_getElem? (i := 1049) (by decide +kernel), List.mem_of_getElem? (i := 1050) (by decide +kernel)⟩
theorem lw_p41 : lw_okq (⟨"RegattaTimesModel", "ofProtest", "(II)I"⟩, 12) := ⟨⟨by decide +kernel, by decide +kernel⟩, List.mem_of_getElem? (i := 863) (by decide +kernel), List.mem_of_getElem? (i := 1053) (by decide +kernel), List.mem_of_getElem? (i := 1054) (by decide +kernel)⟩
theorem lw_p42 : lw_okq (⟨"RegattaTimesModel", "stage", "(II)V"⟩, 12) := ⟨⟨by decide +kernel, by decide +kernel⟩, List.mem_of_getElem? (i := 863) (by decide +kernel), List.mem_of_getElem? (i := 1057) (by decide +kernel), List.mem_of_getElem? (i := 1058) (by decide +kernel)⟩
theorem lw_p43 : lw_okq (⟨"RegattaTimesModel", "outIn", "(I)I"⟩, 12) := ⟨⟨by decide +kernel, by decide +kernel⟩, List.mem_of_getElem? (i := 863) (by decide +kernel), List.mem_of_getElem? (i := 1069) (by decide +kernel), List.mem_of_getElem? (i := 1070) (by decide +kernel)⟩
theorem lw_p44 : lw_okq (⟨"RegattaTimesModel", "readText", "(Z)Z"⟩, 12) := ⟨⟨by decide +kernel, by decide +kernel⟩, List.mem_of_getElem? (i := 863) (by decide +kernel), List.mem_of_getElem? (i := 1089) (by decide +kernel), List.mem_of_getElem? (i := 1090) (by decide +kernel)⟩
theorem lw_p45 : lw_okq (⟨"RegattaTimesModel", "readEvent", "()Z"⟩, 12) := ⟨⟨by decide +kernel, by decide +kernel⟩, List.mem_of_getElem? (i := 863) (by decide +kernel), List.mem_of_getElem? (i := 1093) (by decide +kernel), List.mem_of_getElem? (i := 1094) (by decide +kernel)⟩
theorem lw_p46 : lw_okq (⟨"RegattaTimesModel", "readSeconds", "()I"⟩, 12) := ⟨⟨by decide +kernel, by decide +kernel⟩, List.mem_of_getElem? (i := 863) (by decide +kernel), List.mem_of_getElem? (i := 1097) (by decide +kernel), List.mem_of_getElem? (i := 1098) (by decide +kernel)⟩
theorem lw_p47 : lw_okq (⟨"RegattaTimesModel", "isNext", "(II)Z"⟩, 12) := ⟨⟨by decide +kernel, by decide +kernel⟩, List.mem_of_getElem? (i := 863) (by decide +kernel), List.mem_of_getElem? (i := 1101) (by decide +kernel), List.mem_of_getElem? (i := 1102) (by decide +kernel)⟩
def lw_privs_3 : List (MethodName × Nat) := [(⟨"RegattaTimesModel", "buoyError", "(II)I"⟩, 12), (⟨"RegattaTimesModel", "doBuoy", "(II)I"⟩, 12), (⟨"RegattaTimesModel", "retireError", "(I)I"⟩, 12), (⟨"RegattaTimesModel", "doRetire", "(I)I"⟩, 12), (⟨"RegattaTimesModel", "finishedIn", "(I)I"⟩, 12), (⟨"RegattaTimesModel", "hailError", "(II)I"⟩, 12), (⟨"RegattaTimesModel", "isOnWater", "(I)Z"⟩, 12), (⟨"RegattaTimesModel", "doHail", "(II)I"⟩, 12), (⟨"RegattaTimesModel", "isProtest", "(I)Z"⟩, 12), (⟨"RegattaTimesModel", "ofProtest", "(II)I"⟩, 12), (⟨"RegattaTimesModel", "stage", "(II)V"⟩, 12), (⟨"RegattaTimesModel", "outIn", "(I)I"⟩, 12), (⟨"RegattaTimesModel", "readText", "(Z)Z"⟩, 12), (⟨"RegattaTimesModel", "readEvent", "()Z"⟩, 12), (⟨"RegattaTimesModel", "readSeconds", "()I"⟩, 12), (⟨"RegattaTimesModel", "isNext", "(II)Z"⟩, 12)]
theorem lw_r3 : ∀ q ∈ lw_privs_3, lw_okq q := List.forall_mem_cons.mpr ⟨lw_p32, List.forall_mem_cons.mpr ⟨lw_p33, List.forall_mem_cons.mpr ⟨lw_p34, List.forall_mem_cons.mpr ⟨lw_p35, List.forall_mem_cons.mpr ⟨lw_p36, List.forall_mem_cons.mpr ⟨lw_p37, List.forall_mem_cons.mpr ⟨lw_p38, List.forall_mem_cons.mpr ⟨lw_p39, List.forall_mem_cons.mpr ⟨lw_p40, List.forall_mem_cons.mpr ⟨lw_p41, List.forall_mem_cons.mpr ⟨lw_p42, List.forall_mem_cons.mpr ⟨lw_p43, List.forall_mem_cons.mpr ⟨lw_p44, List.forall_mem_cons.mpr ⟨lw_p45, List.forall_mem_cons.mpr ⟨lw_p46, List.forall_mem_cons.mpr ⟨lw_p47, fun _ h => absurd h List.not_mem_nil⟩⟩⟩⟩⟩⟩⟩⟩⟩⟩⟩⟩⟩⟩⟩⟩
theorem lw_p48 : lw_okq (⟨"RegattaTimesModel", "readDigit", "(I)I"⟩, 12) := ⟨⟨by decide +kernel, by decide +kernel⟩, List.mem_of_getElem? (i := 863) (by decide +kernel), List.mem_of_getElem? (i := 1105) (by decide +kernel), List.mem_of_getElem? (i := 1106) (by decide +kernel)⟩
theorem lw_p49 : lw_okq (⟨"RegattaTimesModel", "errorOfEvent", "()I"⟩, 12) := ⟨⟨by decide +kernel, by decide +kernel⟩, List.mem_of_getElem? (i := 863) (by decide +kernel), List.mem_of_getElem? (i := 1109) (by decide +kernel), List.mem_of_getElem? (i := 1110) (by decide +kernel)⟩
theorem lw_p50 : lw_okq (⟨"RegattaTimesModel", "does", "()I"⟩, 12) := ⟨⟨by decide +kernel, by decide +kernel⟩, List.mem_of_getElem? (i := 863) (by decide +kernel), List.mem_of_getElem? (i := 1113) (by decide +kernel), List.mem_of_getElem? (i := 1114) (by decide +kernel)⟩
theorem lw_p51 : lw_okq (⟨"RegattaTimesModel", "takes", "(I)Z"⟩, 12) := ⟨⟨by decide +kernel, by decide +kernel⟩, List.mem_of_getElem? (i := 863) (by decide +kernel), List.mem_of_getElem? (i := 1117) (by decide +kernel), List.mem_of_getElem? (i := 1118) (by decide +kernel)⟩
theorem lw_p52 : lw_okq (⟨"RegattaTimesModel", "isRace", "(I)Z"⟩, 12) := ⟨⟨by decide +kernel, by decide +kernel⟩, List.mem_of_getElem? (i := 863) (by decide +kernel), List.mem_of_getElem? (i := 1141) (by decide +kernel), List.mem_of_getElem? (i := 1142) (by decide +kernel)⟩
theorem lw_p53 : lw_okq (⟨"RegattaTimesModel", "elapsed", "(II)I"⟩, 12) := ⟨⟨by decide +kernel, by decide +kernel⟩, List.mem_of_getElem? (i := 863) (by decide +kernel), List.mem_of_getElem? (i := 1145) (by decide +kernel), List.mem_of_getElem? (i := 1146) (by decide +kernel)⟩
theorem lw_p54 : lw_okq (⟨"RegattaTimesModel", "corrected", "(II)I"⟩, 12) := ⟨⟨by decide +kernel, by decide +kernel⟩, List.mem_of_getElem? (i := 863) (by decide +kernel), List.mem_of_getElem? (i := 1149) (by decide +kernel), List.mem_of_getElem? (i := 1150) (by decide +kernel)⟩
theorem lw_p55 : lw_okq (⟨"RegattaTimesModel", "placeIn", "(II)I"⟩, 12) := ⟨⟨by decide +kernel, by decide +kernel⟩, List.mem_of_getElem? (i := 863) (by decide +kernel), List.mem_of_getElem? (i := 1153) (by decide +kernel), List.mem_of_getElem? (i := 1154) (by decide +kernel)⟩
theorem lw_p56 : lw_okq (⟨"RegattaTimesModel", "counts", "(II)Z"⟩, 12) := ⟨⟨by decide +kernel, by decide +kernel⟩, List.mem_of_getElem? (i := 863) (by decide +kernel), List.mem_of_getElem? (i := 1157) (by decide +kernel), List.mem_of_getElem? (i := 1158) (by decide +kernel)⟩
theorem lw_p57 : lw_okq (⟨"RegattaTimesModel", "pointsIn", "(II)I"⟩, 12) := ⟨⟨by decide +kernel, by decide +kernel⟩, List.mem_of_getElem? (i := 863) (by decide +kernel), List.mem_of_getElem? (i := 1161) (by decide +kernel), List.mem_of_getElem? (i := 1162) (by decide +kernel)⟩
theorem lw_p58 : lw_okq (⟨"RegattaTimesModel", "total", "(I)I"⟩, 12) := ⟨⟨by decide +kernel, by decide +kernel⟩, List.mem_of_getElem? (i := 863) (by decide +kernel), List.mem_of_getElem? (i := 1169) (by decide +kernel), List.mem_of_getElem? (i := 1170) (by decide +kernel)⟩
theorem lw_p59 : lw_okq (⟨"RegattaTimesModel", "leftOut", "(I)I"⟩, 12) := ⟨⟨by decide +kernel, by decide +kernel⟩, List.mem_of_getElem? (i := 863) (by decide +kernel), List.mem_of_getElem? (i := 1173) (by decide +kernel), List.mem_of_getElem? (i := 1174) (by decide +kernel)⟩
theorem lw_p60 : lw_okq (⟨"RegattaTimesModel", "closed", "()I"⟩, 12) := ⟨⟨by decide +kernel, by decide +kernel⟩, List.mem_of_getElem? (i := 863) (by decide +kernel), List.mem_of_getElem? (i := 1177) (by decide +kernel), List.mem_of_getElem? (i := 1178) (by decide +kernel)⟩
theorem lw_p61 : lw_okq (⟨"RegattaTimesModel", "sumOf", "(I)I"⟩, 12) := ⟨⟨by decide +kernel, by decide +kernel⟩, List.mem_of_getElem? (i := 863) (by decide +kernel), List.mem_of_getElem? (i := 1181) (by decide +kernel), List.mem_of_getElem? (i := 1182) (by decide +kernel)⟩
theorem lw_p62 : lw_okq (⟨"RegattaTimesModel", "rank", "(I)I"⟩, 12) := ⟨⟨by decide +kernel, by decide +kernel⟩, List.mem_of_getElem? (i := 863) (by decide +kernel), List.mem_of_getElem? (i := 1185) (by decide +kernel), List.mem_of_getElem? (i := 1186) (by decide +kernel)⟩
theorem lw_p63 : lw_okq (⟨"RegattaTimesModel", "isAhead", "(II)Z"⟩, 12) := ⟨⟨by decide +kernel, by decide +kernel⟩, List.mem_of_getElem? (i := 863) (by decide +kernel), List.mem_of_getElem? (i := 1189) (by decide +kernel), List.mem_of_getElem? (i := 1190) (by decide +kernel)⟩
def lw_privs_4 : List (MethodName × Nat) := [(⟨"RegattaTimesModel", "readDigit", "(I)I"⟩, 12), (⟨"RegattaTimesModel", "errorOfEvent", "()I"⟩, 12), (⟨"RegattaTimesModel", "does", "()I"⟩, 12), (⟨"RegattaTimesModel", "takes", "(I)Z"⟩, 12), (⟨"RegattaTimesModel", "isRace", "(I)Z"⟩, 12), (⟨"RegattaTimesModel", "elapsed", "(II)I"⟩, 12), (⟨"RegattaTimesModel", "corrected", "(II)I"⟩, 12), (⟨"RegattaTimesModel", "placeIn", "(II)I"⟩, 12), (⟨"RegattaTimesModel", "counts", "(II)Z"⟩, 12), (⟨"RegattaTimesModel", "pointsIn", "(II)I"⟩, 12), (⟨"RegattaTimesModel", "total", "(I)I"⟩, 12), (⟨"RegattaTimesModel", "leftOut", "(I)I"⟩, 12), (⟨"RegattaTimesModel", "closed", "()I"⟩, 12), (⟨"RegattaTimesModel", "sumOf", "(I)I"⟩, 12), (⟨"RegattaTimesModel", "rank", "(I)I"⟩, 12), (⟨"RegattaTimesModel", "isAhead", "(II)Z"⟩, 12)]
theorem lw_r4 : ∀ q ∈ lw_privs_4, lw_okq q := List.forall_mem_cons.mpr ⟨lw_p48, List.forall_mem_cons.mpr ⟨lw_p49, List.forall_mem_cons.mpr ⟨lw_p50, List.forall_mem_cons.mpr ⟨lw_p51, List.forall_mem_cons.mpr ⟨lw_p52, List.forall_mem_cons.mpr ⟨lw_p53, List.forall_mem_cons.mpr ⟨lw_p54, List.forall_mem_cons.mpr ⟨lw_p55, List.forall_mem_cons.mpr ⟨lw_p56, List.forall_mem_cons.mpr ⟨lw_p57, List.forall_mem_cons.mpr ⟨lw_p58, List.forall_mem_cons.mpr ⟨lw_p59, List.forall_mem_cons.mpr ⟨lw_p60, List.forall_mem_cons.mpr ⟨lw_p61, List.forall_mem_cons.mpr ⟨lw_p62, List.forall_mem_cons.mpr ⟨lw_p63, fun _ h => absurd h List.not_mem_nil⟩⟩⟩⟩⟩⟩⟩⟩⟩⟩⟩⟩⟩⟩⟩⟩
theorem lw_p64 : lw_okq (⟨"RegattaTimesModel", "placesOf", "(II)I"⟩, 12) := ⟨⟨by decide +kernel, by decide +kernel⟩, List.mem_of_getElem? (i := 863) (by decide +kernel), List.mem_of_getElem? (i := 1193) (by decide +kernel), List.mem_of_getElem? (i := 1194) (by decide +kernel)⟩
theorem lw_p65 : lw_okq (⟨"RegattaTimesModel", "bestIn", "(I)I"⟩, 12) := ⟨⟨by decide +kernel, by decide +kernel⟩, List.mem_of_getElem? (i := 863) (by decide +kernel), List.mem_of_getElem? (i := 1205) (by decide +kernel), List.mem_of_getElem? (i := 1206) (by decide +kernel)⟩
def lw_privs_5 : List (MethodName × Nat) := [(⟨"RegattaTimesModel", "placesOf", "(II)I"⟩, 12), (⟨"RegattaTimesModel", "bestIn", "(I)I"⟩, 12)]
theorem lw_r5 : ∀ q ∈ lw_privs_5, lw_okq q := List.forall_mem_cons.mpr ⟨lw_p64, List.forall_mem_cons.mpr ⟨lw_p65, fun _ h => absurd h List.not_mem_nil⟩⟩
def lw_privs : List (MethodName × Nat) := lw_privs_1 ++ (lw_privs_2 ++ (lw_privs_3 ++ (lw_privs_4 ++ (lw_privs_5))))
def lw_tbl : List Cond := k2_sels lw_privs ++ tables_1
theorem lw_privs_ok : ∀ q ∈ lw_privs, lw_okq q := by
  show ∀ q ∈ lw_privs_1 ++ (lw_privs_2 ++ (lw_privs_3 ++ (lw_privs_4 ++ (lw_privs_5)))), lw_okq q
  exact List.forall_mem_append.mpr ⟨lw_r1, List.forall_mem_append.mpr ⟨lw_r2, List.forall_mem_append.mpr ⟨lw_r3, List.forall_mem_append.mpr ⟨lw_r4, lw_r5⟩⟩⟩⟩
/-- the streams that the claim lets the run draw from -/
abbrev lw_cs : List Choice := [Jvm.Choice.named "NaN.bits"]
theorem lw_bits : nanBits ∈ lw_cs := by first | decide | exact List.mem_cons_self | simp [lw_cs, nanBits]
-- ===== end of PART A; then your names; then what follows =====
end
section
def RX0 : String := "RegattaTimes$Committee"
def TX0 : u_T := fun k => match k with
  | _ => ("RegattaTimes$Committee", "state", "LRegattaTimes$State;", true)
def tyX0 : Nat → FieldType := fun k => match k with
  | _ => .object "RegattaTimes$State"
abbrev wsX00 : List Cond := u_ws RX0 TX0 1
theorem nmX0 : ∀ a, a < 1 → ∀ b, b < 1 → a ≠ b → (TX0 a).2.1 ≠ (TX0 b).2.1 := by decide +kernel
theorem tyX0_ok : ∀ k, k < 1 → parseFieldDescriptor (TX0 k).2.2.1 = some (tyX0 k) := by decide +kernel
abbrev cX0_init : ByteArray := prog_2_method_1_code
def yX0_init : MethodName := ⟨RX0, "<init>", "(LRegattaTimes$State;)V"⟩
abbrev cX0_enterBoat : ByteArray := prog_2_method_2_code
def yX0_enterBoat : MethodName := ⟨RX0, "enterBoat", "(I)I"⟩
abbrev cX0_prepareRace : ByteArray := prog_2_method_3_code
def yX0_prepareRace : MethodName := ⟨RX0, "prepareRace", "(III)I"⟩
abbrev cX0_startAnew : ByteArray := prog_2_method_4_code
def yX0_startAnew : MethodName := ⟨RX0, "startAnew", "(I)V"⟩
abbrev cX0_postponeStart : ByteArray := prog_2_method_5_code
def yX0_postponeStart : MethodName := ⟨RX0, "postponeStart", "(I)I"⟩
abbrev cX0_recallBoats : ByteArray := prog_2_method_6_code
def yX0_recallBoats : MethodName := ⟨RX0, "recallBoats", "()I"⟩
abbrev cX0_passTime : ByteArray := prog_2_method_7_code
def yX0_passTime : MethodName := ⟨RX0, "passTime", "(I)I"⟩
abbrev cX0_crossLine : ByteArray := prog_2_method_8_code
def yX0_crossLine : MethodName := ⟨RX0, "crossLine", "(I)I"⟩
abbrev cX0_kindAfterLine : ByteArray := prog_2_method_9_code
def yX0_kindAfterLine : MethodName := ⟨RX0, "kindAfterLine", "(I)I"⟩
abbrev cX0_hasAllRoundings : ByteArray := prog_2_method_10_code
def yX0_hasAllRoundings : MethodName := ⟨RX0, "hasAllRoundings", "(I)Z"⟩
abbrev cX0_passBuoy : ByteArray := prog_2_method_11_code
def yX0_passBuoy : MethodName := ⟨RX0, "passBuoy", "(II)I"⟩
abbrev cX0_retireBoat : ByteArray := prog_2_method_12_code
def yX0_retireBoat : MethodName := ⟨RX0, "retireBoat", "(I)I"⟩
abbrev cX0_closeRace : ByteArray := prog_2_method_13_code
def yX0_closeRace : MethodName := ⟨RX0, "closeRace", "()I"⟩
abbrev cX0_changeSetting : ByteArray := prog_2_method_14_code
def yX0_changeSetting : MethodName := ⟨RX0, "changeSetting", "(II)I"⟩
def RX1 : String := "RegattaTimes$History"
def TX1 : u_T := fun k => match k with
  | 0 => ("RegattaTimes$History", "slots", "[LRegattaTimes$State;", true)
  | 1 => ("RegattaTimes$History", "held", "I", false)
  | _ => ("RegattaTimes$History", "size", "I", false)
def tyX1 : Nat → FieldType := fun k => match k with
  | 0 => .array (.object "RegattaTimes$State")
  | 1 => .int
  | _ => .int
abbrev wsX10 : List Cond := u_ws RX1 TX1 3
theorem nmX1 : ∀ a, a < 3 → ∀ b, b < 3 → a ≠ b → (TX1 a).2.1 ≠ (TX1 b).2.1 := by decide +kernel
theorem tyX1_ok : ∀ k, k < 3 → parseFieldDescriptor (TX1 k).2.2.1 = some (tyX1 k) := by decide +kernel
abbrev cX1_init : ByteArray := prog_3_method_1_code
def yX1_init : MethodName := ⟨RX1, "<init>", "()V"⟩
abbrev cX1_size : ByteArray := prog_3_method_2_code
def yX1_size : MethodName := ⟨RX1, "size", "()I"⟩
abbrev cX1_hold : ByteArray := prog_3_method_3_code
def yX1_hold : MethodName := ⟨RX1, "hold", "(LRegattaTimes$State;)V"⟩
abbrev cX1_confirm : ByteArray := prog_3_method_4_code
def yX1_confirm : MethodName := ⟨RX1, "confirm", "(I)I"⟩
abbrev cX1_takeBack : ByteArray := prog_3_method_5_code
def yX1_takeBack : MethodName := ⟨RX1, "takeBack", "(LRegattaTimes$State;)I"⟩
def RX2 : String := "RegattaTimes$Jury"
def TX2 : u_T := fun k => match k with
  | _ => ("RegattaTimes$Jury", "state", "LRegattaTimes$State;", true)
def tyX2 : Nat → FieldType := fun k => match k with
  | _ => .object "RegattaTimes$State"
abbrev wsX20 : List Cond := u_ws RX2 TX2 1
theorem nmX2 : ∀ a, a < 1 → ∀ b, b < 1 → a ≠ b → (TX2 a).2.1 ≠ (TX2 b).2.1 := by decide +kernel
theorem tyX2_ok : ∀ k, k < 1 → parseFieldDescriptor (TX2 k).2.2.1 = some (tyX2 k) := by decide +kernel
abbrev cX2_init : ByteArray := prog_4_method_1_code
def yX2_init : MethodName := ⟨RX2, "<init>", "(LRegattaTimes$State;)V"⟩
abbrev cX2_hailProtest : ByteArray := prog_4_method_2_code
def yX2_hailProtest : MethodName := ⟨RX2, "hailProtest", "(II)I"⟩
abbrev cX2_isOnCourse : ByteArray := prog_4_method_3_code
def yX2_isOnCourse : MethodName := ⟨RX2, "isOnCourse", "(I)Z"⟩
abbrev cX2_fileProtest : ByteArray := prog_4_method_4_code
def yX2_fileProtest : MethodName := ⟨RX2, "fileProtest", "(I)I"⟩
abbrev cX2_acceptProtest : ByteArray := prog_4_method_5_code
def yX2_acceptProtest : MethodName := ⟨RX2, "acceptProtest", "(I)I"⟩
abbrev cX2_decideProtest : ByteArray := prog_4_method_6_code
def yX2_decideProtest : MethodName := ⟨RX2, "decideProtest", "(IZ)I"⟩
def RX3 : String := "RegattaTimes$Log"
def TX3 : u_T := fun k => match k with
  | _ => ("RegattaTimes$Log", "text", "Ljava/lang/StringBuilder;", true)
def tyX3 : Nat → FieldType := fun k => match k with
  | _ => .object "java/lang/StringBuilder"
abbrev wsX30 : List Cond := u_ws RX3 TX3 1
theorem nmX3 : ∀ a, a < 1 → ∀ b, b < 1 → a ≠ b → (TX3 a).2.1 ≠ (TX3 b).2.1 := by decide +kernel
theorem tyX3_ok : ∀ k, k < 1 → parseFieldDescriptor (TX3 k).2.2.1 = some (tyX3 k) := by decide +kernel
abbrev cX3_init : ByteArray := prog_5_method_1_code
def yX3_init : MethodName := ⟨RX3, "<init>", "()V"⟩
abbrev cX3_addSign : ByteArray := prog_5_method_2_code
def yX3_addSign : MethodName := ⟨RX3, "addSign", "(I)I"⟩
abbrev cX3_empty : ByteArray := prog_5_method_3_code
def yX3_empty : MethodName := ⟨RX3, "empty", "()I"⟩
abbrev cX3_length : ByteArray := prog_5_method_4_code
def yX3_length : MethodName := ⟨RX3, "length", "()I"⟩
abbrev cX3_signAt : ByteArray := prog_5_method_5_code
def yX3_signAt : MethodName := ⟨RX3, "signAt", "(I)C"⟩
abbrev cX3_endsEvent : ByteArray := prog_5_method_6_code
def yX3_endsEvent : MethodName := ⟨RX3, "endsEvent", "(I)Z"⟩
abbrev cX3_digitAt : ByteArray := prog_5_method_7_code
def yX3_digitAt : MethodName := ⟨RX3, "digitAt", "(I)I"⟩
abbrev cX3_numberAt : ByteArray := prog_5_method_8_code
def yX3_numberAt : MethodName := ⟨RX3, "numberAt", "(II)I"⟩
abbrev cX3_firstFault : ByteArray := prog_5_method_9_code
def yX3_firstFault : MethodName := ⟨RX3, "firstFault", "()I"⟩
abbrev cX3_canEnd : ByteArray := prog_5_method_10_code
def yX3_canEnd : MethodName := ⟨RX3, "canEnd", "(I)Z"⟩
abbrev cX3_expectedAfter : ByteArray := prog_5_method_11_code
def yX3_expectedAfter : MethodName := ⟨RX3, "expectedAfter", "(IC)I"⟩
abbrev cX3_expectedAfterLetter : ByteArray := prog_5_method_12_code
def yX3_expectedAfterLetter : MethodName := ⟨RX3, "expectedAfterLetter", "(C)I"⟩
abbrev cX3_expectedAfterEvent : ByteArray := prog_5_method_13_code
def yX3_expectedAfterEvent : MethodName := ⟨RX3, "expectedAfterEvent", "(C)I"⟩
abbrev cX3_isIn : ByteArray := prog_5_method_14_code
def yX3_isIn : MethodName := ⟨RX3, "isIn", "(CCC)Z"⟩
def RX4 : String := "RegattaTimes$Scores"
def TX4 : u_T := fun k => match k with
  | 0 => ("RegattaTimes$Scores", "state", "LRegattaTimes$State;", true)
  | 1 => ("RegattaTimes$Scores", "times", "LRegattaTimes$Table;", true)
  | 2 => ("RegattaTimes$Scores", "points", "LRegattaTimes$Table;", true)
  | 3 => ("RegattaTimes$Scores", "sums", "LRegattaTimes$Table;", true)
  | _ => ("RegattaTimes$Scores", "tallies", "LRegattaTimes$Table;", true)
def tyX4 : Nat → FieldType := fun k => match k with
  | 0 => .object "RegattaTimes$State"
  | 1 => .object "RegattaTimes$Table"
  | 2 => .object "RegattaTimes$Table"
  | 3 => .object "RegattaTimes$Table"
  | _ => .object "RegattaTimes$Table"
abbrev wsX40 : List Cond := u_ws RX4 TX4 5
theorem nmX4 : ∀ a, a < 5 → ∀ b, b < 5 → a ≠ b → (TX4 a).2.1 ≠ (TX4 b).2.1 := by decide +kernel
theorem tyX4_ok : ∀ k, k < 5 → parseFieldDescriptor (TX4 k).2.2.1 = some (tyX4 k) := by decide +kernel
abbrev cX4_init : ByteArray := prog_6_method_1_code
def yX4_init : MethodName := ⟨RX4, "<init>", "(LRegattaTimes$State;)V"⟩
abbrev cX4_readTimes : ByteArray := prog_6_method_2_code
def yX4_readTimes : MethodName := ⟨RX4, "readTimes", "(I)V"⟩
abbrev cX4_place : ByteArray := prog_6_method_3_code
def yX4_place : MethodName := ⟨RX4, "place", "(I)I"⟩
abbrev cX4_pointsFor : ByteArray := prog_6_method_4_code
def yX4_pointsFor : MethodName := ⟨RX4, "pointsFor", "(III)I"⟩
abbrev cX4_placeIn : ByteArray := prog_6_method_5_code
def yX4_placeIn : MethodName := ⟨RX4, "placeIn", "(II)I"⟩
abbrev cX4_pointsIn : ByteArray := prog_6_method_6_code
def yX4_pointsIn : MethodName := ⟨RX4, "pointsIn", "(II)I"⟩
abbrev cX4_leader : ByteArray := prog_6_method_7_code
def yX4_leader : MethodName := ⟨RX4, "leader", "(I)I"⟩
abbrev cX4_secondsToLead : ByteArray := prog_6_method_8_code
def yX4_secondsToLead : MethodName := ⟨RX4, "secondsToLead", "(I)I"⟩
abbrev cX4_recount : ByteArray := prog_6_method_9_code
def yX4_recount : MethodName := ⟨RX4, "recount", "()V"⟩
abbrev cX4_recountRace : ByteArray := prog_6_method_10_code
def yX4_recountRace : MethodName := ⟨RX4, "recountRace", "(I)V"⟩
abbrev cX4_sumUp : ByteArray := prog_6_method_11_code
def yX4_sumUp : MethodName := ⟨RX4, "sumUp", "(I)V"⟩
abbrev cX4_isDropping : ByteArray := prog_6_method_12_code
def yX4_isDropping : MethodName := ⟨RX4, "isDropping", "()Z"⟩
abbrev cX4_sum : ByteArray := prog_6_method_13_code
def yX4_sum : MethodName := ⟨RX4, "sum", "(I)I"⟩
abbrev cX4_total : ByteArray := prog_6_method_14_code
def yX4_total : MethodName := ⟨RX4, "total", "(I)I"⟩
abbrev cX4_dropped : ByteArray := prog_6_method_15_code
def yX4_dropped : MethodName := ⟨RX4, "dropped", "(I)I"⟩
abbrev cX4_firstPlaces : ByteArray := prog_6_method_16_code
def yX4_firstPlaces : MethodName := ⟨RX4, "firstPlaces", "(I)I"⟩
abbrev cX4_rank : ByteArray := prog_6_method_17_code
def yX4_rank : MethodName := ⟨RX4, "rank", "(I)I"⟩
abbrev cX4_isAhead : ByteArray := prog_6_method_18_code
def yX4_isAhead : MethodName := ⟨RX4, "isAhead", "(II)Z"⟩
def RX5 : String := "RegattaTimes$State"
def TX5 : u_T := fun k => match k with
  | 0 => ("RegattaTimes$State", "clock", "I", false)
  | 1 => ("RegattaTimes$State", "boats", "I", false)
  | 2 => ("RegattaTimes$State", "races", "I", false)
  | 3 => ("RegattaTimes$State", "latest", "I", false)
  | 4 => ("RegattaTimes$State", "protests", "I", false)
  | 5 => ("RegattaTimes$State", "ratings", "LRegattaTimes$Table;", true)
  | 6 => ("RegattaTimes$State", "settings", "LRegattaTimes$Table;", true)
  | 7 => ("RegattaTimes$State", "courses", "LRegattaTimes$Table;", true)
  | 8 => ("RegattaTimes$State", "entries", "LRegattaTimes$Table;", true)
  | _ => ("RegattaTimes$State", "cases", "LRegattaTimes$Table;", true)
def tyX5 : Nat → FieldType := fun k => match k with
  | 0 => .int
  | 1 => .int
  | 2 => .int
  | 3 => .int
  | 4 => .int
  | 5 => .object "RegattaTimes$Table"
  | 6 => .object "RegattaTimes$Table"
  | 7 => .object "RegattaTimes$Table"
  | 8 => .object "RegattaTimes$Table"
  | _ => .object "RegattaTimes$Table"
abbrev wsX50 : List Cond := u_ws RX5 TX5 10
theorem nmX5 : ∀ a, a < 10 → ∀ b, b < 10 → a ≠ b → (TX5 a).2.1 ≠ (TX5 b).2.1 := by decide +kernel
theorem tyX5_ok : ∀ k, k < 10 → parseFieldDescriptor (TX5 k).2.2.1 = some (tyX5 k) := by decide +kernel
abbrev cX5_init : ByteArray := prog_7_method_1_code
def yX5_init : MethodName := ⟨RX5, "<init>", "()V"⟩
abbrev cX5_copyFrom : ByteArray := prog_7_method_2_code
def yX5_copyFrom : MethodName := ⟨RX5, "copyFrom", "(LRegattaTimes$State;)V"⟩
abbrev cX5_hasBoat : ByteArray := prog_7_method_3_code
def yX5_hasBoat : MethodName := ⟨RX5, "hasBoat", "(I)Z"⟩
abbrev cX5_hasRace : ByteArray := prog_7_method_4_code
def yX5_hasRace : MethodName := ⟨RX5, "hasRace", "(I)Z"⟩
abbrev cX5_hasProtest : ByteArray := prog_7_method_5_code
def yX5_hasProtest : MethodName := ⟨RX5, "hasProtest", "(I)Z"⟩
abbrev cX5_isPrepared : ByteArray := prog_7_method_6_code
def yX5_isPrepared : MethodName := ⟨RX5, "isPrepared", "()Z"⟩
abbrev cX5_closedRaces : ByteArray := prog_7_method_7_code
def yX5_closedRaces : MethodName := ⟨RX5, "closedRaces", "()I"⟩
abbrev cX5_isClosed : ByteArray := prog_7_method_8_code
def yX5_isClosed : MethodName := ⟨RX5, "isClosed", "(I)Z"⟩
abbrev cX5_latestRace : ByteArray := prog_7_method_9_code
def yX5_latestRace : MethodName := ⟨RX5, "latestRace", "()I"⟩
abbrev cX5_start : ByteArray := prog_7_method_10_code
def yX5_start : MethodName := ⟨RX5, "start", "()I"⟩
abbrev cX5_isStarted : ByteArray := prog_7_method_11_code
def yX5_isStarted : MethodName := ⟨RX5, "isStarted", "()Z"⟩
abbrev cX5_setting : ByteArray := prog_7_method_12_code
def yX5_setting : MethodName := ⟨RX5, "setting", "(I)I"⟩
abbrev cX5_row : ByteArray := prog_7_method_13_code
def yX5_row : MethodName := ⟨RX5, "row", "(II)I"⟩
abbrev cX5_latestEntry : ByteArray := prog_7_method_14_code
def yX5_latestEntry : MethodName := ⟨RX5, "latestEntry", "(II)I"⟩
abbrev cX5_putLatestEntry : ByteArray := prog_7_method_15_code
def yX5_putLatestEntry : MethodName := ⟨RX5, "putLatestEntry", "(III)V"⟩
abbrev cX5_isFinished : ByteArray := prog_7_method_16_code
def yX5_isFinished : MethodName := ⟨RX5, "isFinished", "(II)Z"⟩
abbrev cX5_entriesWith : ByteArray := prog_7_method_17_code
def yX5_entriesWith : MethodName := ⟨RX5, "entriesWith", "(III)I"⟩
abbrev cX5_elapsedUntil : ByteArray := prog_7_method_18_code
def yX5_elapsedUntil : MethodName := ⟨RX5, "elapsedUntil", "(III)I"⟩
abbrev cX5_elapsed : ByteArray := prog_7_method_19_code
def yX5_elapsed : MethodName := ⟨RX5, "elapsed", "(II)I"⟩
abbrev cX5_corrected : ByteArray := prog_7_method_20_code
def yX5_corrected : MethodName := ⟨RX5, "corrected", "(II)I"⟩
def RX6 : String := "RegattaTimes$Table"
def TX6 : u_T := fun k => match k with
  | 0 => ("RegattaTimes$Table", "columns", "I", true)
  | _ => ("RegattaTimes$Table", "cells", "[I", true)
def tyX6 : Nat → FieldType := fun k => match k with
  | 0 => .int
  | _ => .array .int
abbrev wsX60 : List Cond := u_ws RX6 TX6 2
theorem nmX6 : ∀ a, a < 2 → ∀ b, b < 2 → a ≠ b → (TX6 a).2.1 ≠ (TX6 b).2.1 := by decide +kernel
theorem tyX6_ok : ∀ k, k < 2 → parseFieldDescriptor (TX6 k).2.2.1 = some (tyX6 k) := by decide +kernel
abbrev cX6_init : ByteArray := prog_8_method_1_code
def yX6_init : MethodName := ⟨RX6, "<init>", "(II)V"⟩
abbrev cX6_get : ByteArray := prog_8_method_2_code
def yX6_get : MethodName := ⟨RX6, "get", "(II)I"⟩
abbrev cX6_put : ByteArray := prog_8_method_3_code
def yX6_put : MethodName := ⟨RX6, "put", "(III)V"⟩
abbrev cX6_add : ByteArray := prog_8_method_4_code
def yX6_add : MethodName := ⟨RX6, "add", "(III)V"⟩
abbrev cX6_clearRow : ByteArray := prog_8_method_5_code
def yX6_clearRow : MethodName := ⟨RX6, "clearRow", "(I)V"⟩
abbrev cX6_copyFrom : ByteArray := prog_8_method_6_code
def yX6_copyFrom : MethodName := ⟨RX6, "copyFrom", "(LRegattaTimes$Table;)V"⟩
def RX7 : String := "RegattaTimes"
def TX7 : u_T := fun k => match k with
  | 0 => ("RegattaTimes", "now", "LRegattaTimes$State;", true)
  | 1 => ("RegattaTimes", "committee", "LRegattaTimes$Committee;", true)
  | 2 => ("RegattaTimes", "jury", "LRegattaTimes$Jury;", true)
  | 3 => ("RegattaTimes", "scores", "LRegattaTimes$Scores;", true)
  | 4 => ("RegattaTimes", "supposed", "LRegattaTimes$State;", true)
  | 5 => ("RegattaTimes", "supposedScores", "LRegattaTimes$Scores;", true)
  | 6 => ("RegattaTimes", "history", "LRegattaTimes$History;", true)
  | 7 => ("RegattaTimes", "snapshot", "LRegattaTimes$State;", true)
  | 8 => ("RegattaTimes", "hasSnapshot", "Z", false)
  | _ => ("RegattaTimes", "log", "LRegattaTimes$Log;", true)
def tyX7 : Nat → FieldType := fun k => match k with
  | 0 => .object "RegattaTimes$State"
  | 1 => .object "RegattaTimes$Committee"
  | 2 => .object "RegattaTimes$Jury"
  | 3 => .object "RegattaTimes$Scores"
  | 4 => .object "RegattaTimes$State"
  | 5 => .object "RegattaTimes$Scores"
  | 6 => .object "RegattaTimes$History"
  | 7 => .object "RegattaTimes$State"
  | 8 => .boolean
  | _ => .object "RegattaTimes$Log"
abbrev wsX70 : List Cond := u_ws RX7 TX7 10
theorem nmX7 : ∀ a, a < 10 → ∀ b, b < 10 → a ≠ b → (TX7 a).2.1 ≠ (TX7 b).2.1 := by decide +kernel
theorem tyX7_ok : ∀ k, k < 10 → parseFieldDescriptor (TX7 k).2.2.1 = some (tyX7 k) := by decide +kernel
abbrev cX7_init : ByteArray := prog_1_method_1_code
def yX7_init : MethodName := ⟨RX7, "<init>", "()V"⟩
abbrev cX7_enter : ByteArray := prog_1_method_2_code
def yX7_enter : MethodName := ⟨RX7, "enter", "(I)I"⟩
abbrev cX7_prepare : ByteArray := prog_1_method_3_code
def yX7_prepare : MethodName := ⟨RX7, "prepare", "(III)I"⟩
abbrev cX7_postpone : ByteArray := prog_1_method_4_code
def yX7_postpone : MethodName := ⟨RX7, "postpone", "(I)I"⟩
abbrev cX7_recall : ByteArray := prog_1_method_5_code
def yX7_recall : MethodName := ⟨RX7, "recall", "()I"⟩
abbrev cX7_pass : ByteArray := prog_1_method_6_code
def yX7_pass : MethodName := ⟨RX7, "pass", "(I)I"⟩
abbrev cX7_line : ByteArray := prog_1_method_7_code
def yX7_line : MethodName := ⟨RX7, "line", "(I)I"⟩
abbrev cX7_buoy : ByteArray := prog_1_method_8_code
def yX7_buoy : MethodName := ⟨RX7, "buoy", "(II)I"⟩
abbrev cX7_retire : ByteArray := prog_1_method_9_code
def yX7_retire : MethodName := ⟨RX7, "retire", "(I)I"⟩
abbrev cX7_close : ByteArray := prog_1_method_10_code
def yX7_close : MethodName := ⟨RX7, "close", "()I"⟩
abbrev cX7_hail : ByteArray := prog_1_method_11_code
def yX7_hail : MethodName := ⟨RX7, "hail", "(II)I"⟩
abbrev cX7_file : ByteArray := prog_1_method_12_code
def yX7_file : MethodName := ⟨RX7, "file", "(I)I"⟩
abbrev cX7_accept : ByteArray := prog_1_method_13_code
def yX7_accept : MethodName := ⟨RX7, "accept", "(I)I"⟩
abbrev cX7_decide : ByteArray := prog_1_method_14_code
def yX7_decide : MethodName := ⟨RX7, "decide", "(IZ)I"⟩
abbrev cX7_set : ByteArray := prog_1_method_15_code
def yX7_set : MethodName := ⟨RX7, "set", "(II)I"⟩
abbrev cX7_append : ByteArray := prog_1_method_16_code
def yX7_append : MethodName := ⟨RX7, "append", "(I)I"⟩
abbrev cX7_clearText : ByteArray := prog_1_method_17_code
def yX7_clearText : MethodName := ⟨RX7, "clearText", "()I"⟩
abbrev cX7_fault : ByteArray := prog_1_method_18_code
def yX7_fault : MethodName := ⟨RX7, "fault", "()I"⟩
abbrev cX7_run : ByteArray := prog_1_method_19_code
def yX7_run : MethodName := ⟨RX7, "run", "()I"⟩
abbrev cX7_carryOutEvent : ByteArray := prog_1_method_20_code
def yX7_carryOutEvent : MethodName := ⟨RX7, "carryOutEvent", "(II)I"⟩
abbrev cX7_undo : ByteArray := prog_1_method_21_code
def yX7_undo : MethodName := ⟨RX7, "undo", "()I"⟩
abbrev cX7_save : ByteArray := prog_1_method_22_code
def yX7_save : MethodName := ⟨RX7, "save", "()I"⟩
abbrev cX7_restore : ByteArray := prog_1_method_23_code
def yX7_restore : MethodName := ⟨RX7, "restore", "()I"⟩
abbrev cX7_result : ByteArray := prog_1_method_24_code
def yX7_result : MethodName := ⟨RX7, "result", "(III)I"⟩
abbrev cX7_boat : ByteArray := prog_1_method_25_code
def yX7_boat : MethodName := ⟨RX7, "boat", "(II)I"⟩
abbrev cX7_ranked : ByteArray := prog_1_method_26_code
def yX7_ranked : MethodName := ⟨RX7, "ranked", "(I)I"⟩
abbrev cX7_race : ByteArray := prog_1_method_27_code
def yX7_race : MethodName := ⟨RX7, "race", "(II)I"⟩
abbrev cX7_protest : ByteArray := prog_1_method_28_code
def yX7_protest : MethodName := ⟨RX7, "protest", "(II)I"⟩
abbrev cX7_count : ByteArray := prog_1_method_29_code
def yX7_count : MethodName := ⟨RX7, "count", "(I)I"⟩
abbrev cX7_placeNow : ByteArray := prog_1_method_30_code
def yX7_placeNow : MethodName := ⟨RX7, "placeNow", "(I)I"⟩
abbrev cX7_secondsLeft : ByteArray := prog_1_method_31_code
def yX7_secondsLeft : MethodName := ⟨RX7, "secondsLeft", "(I)I"⟩
abbrev cX7_rankIfDisqualified : ByteArray := prog_1_method_32_code
def yX7_rankIfDisqualified : MethodName := ⟨RX7, "rankIfDisqualified", "(II)I"⟩
abbrev cX7_mean : ByteArray := prog_1_method_33_code
def yX7_mean : MethodName := ⟨RX7, "mean", "(I)F"⟩
def RX8 : String := "RegattaTimesModel"
def TX8 : u_T := fun k => match k with
  | 0 => ("RegattaTimesModel", "s", "[I", true)
  | 1 => ("RegattaTimesModel", "history", "[I", true)
  | 2 => ("RegattaTimesModel", "kept", "I", false)
  | 3 => ("RegattaTimesModel", "snapshot", "[I", true)
  | 4 => ("RegattaTimesModel", "isTaken", "Z", false)
  | 5 => ("RegattaTimesModel", "text", "[I", true)
  | 6 => ("RegattaTimesModel", "length", "I", false)
  | 7 => ("RegattaTimesModel", "place", "I", false)
  | 8 => ("RegattaTimesModel", "letter", "I", false)
  | 9 => ("RegattaTimesModel", "one", "I", false)
  | 10 => ("RegattaTimesModel", "other", "I", false)
  | _ => ("RegattaTimesModel", "done", "I", false)
def tyX8 : Nat → FieldType := fun k => match k with
  | 0 => .array .int
  | 1 => .array .int
  | 2 => .int
  | 3 => .array .int
  | 4 => .boolean
  | 5 => .array .int
  | 6 => .int
  | 7 => .int
  | 8 => .int
  | 9 => .int
  | 10 => .int
  | _ => .int
abbrev wsX80 : List Cond := u_ws RX8 TX8 12
theorem nmX8 : ∀ a, a < 12 → ∀ b, b < 12 → a ≠ b → (TX8 a).2.1 ≠ (TX8 b).2.1 := by decide +kernel
theorem tyX8_ok : ∀ k, k < 12 → parseFieldDescriptor (TX8 k).2.2.1 = some (tyX8 k) := by decide +kernel
abbrev cX8_init : ByteArray := prog_10_method_1_code
def yX8_init : MethodName := ⟨RX8, "<init>", "()V"⟩
abbrev cX8_in : ByteArray := prog_10_method_3_code
def yX8_in : MethodName := ⟨RX8, "in", "(III)Z"⟩
abbrev cX8_isBoat : ByteArray := prog_10_method_4_code
def yX8_isBoat : MethodName := ⟨RX8, "isBoat", "(I)Z"⟩
abbrev cX8_isRace : ByteArray := prog_10_method_5_code
def yX8_isRace : MethodName := ⟨RX8, "isRace", "(I)Z"⟩
abbrev cX8_isProtest : ByteArray := prog_10_method_6_code
def yX8_isProtest : MethodName := ⟨RX8, "isProtest", "(I)Z"⟩
abbrev cX8_ofRace : ByteArray := prog_10_method_7_code
def yX8_ofRace : MethodName := ⟨RX8, "ofRace", "(II)I"⟩
abbrev cX8_of : ByteArray := prog_10_method_8_code
def yX8_of : MethodName := ⟨RX8, "of", "(III)I"⟩
abbrev cX8_lay : ByteArray := prog_10_method_9_code
def yX8_lay : MethodName := ⟨RX8, "lay", "(IIII)V"⟩
abbrev cX8_ofProtest : ByteArray := prog_10_method_10_code
def yX8_ofProtest : MethodName := ⟨RX8, "ofProtest", "(II)I"⟩
abbrev cX8_latest : ByteArray := prog_10_method_11_code
def yX8_latest : MethodName := ⟨RX8, "latest", "()I"⟩
abbrev cX8_isPrepared : ByteArray := prog_10_method_12_code
def yX8_isPrepared : MethodName := ⟨RX8, "isPrepared", "()Z"⟩
abbrev cX8_start : ByteArray := prog_10_method_13_code
def yX8_start : MethodName := ⟨RX8, "start", "()I"⟩
abbrev cX8_status : ByteArray := prog_10_method_14_code
def yX8_status : MethodName := ⟨RX8, "status", "(I)I"⟩
abbrev cX8_copy : ByteArray := prog_10_method_15_code
def yX8_copy : MethodName := ⟨RX8, "copy", "([II[II)V"⟩
abbrev cX8_record : ByteArray := prog_10_method_16_code
def yX8_record : MethodName := ⟨RX8, "record", "()V"⟩
abbrev cX8_elapsed : ByteArray := prog_10_method_17_code
def yX8_elapsed : MethodName := ⟨RX8, "elapsed", "(II)I"⟩
abbrev cX8_corrected : ByteArray := prog_10_method_18_code
def yX8_corrected : MethodName := ⟨RX8, "corrected", "(II)I"⟩
abbrev cX8_counts : ByteArray := prog_10_method_19_code
def yX8_counts : MethodName := ⟨RX8, "counts", "(II)Z"⟩
abbrev cX8_placeIn : ByteArray := prog_10_method_20_code
def yX8_placeIn : MethodName := ⟨RX8, "placeIn", "(II)I"⟩
abbrev cX8_pointsIn : ByteArray := prog_10_method_21_code
def yX8_pointsIn : MethodName := ⟨RX8, "pointsIn", "(II)I"⟩
abbrev cX8_closed : ByteArray := prog_10_method_22_code
def yX8_closed : MethodName := ⟨RX8, "closed", "()I"⟩
abbrev cX8_sumOf : ByteArray := prog_10_method_23_code
def yX8_sumOf : MethodName := ⟨RX8, "sumOf", "(I)I"⟩
abbrev cX8_leftOut : ByteArray := prog_10_method_24_code
def yX8_leftOut : MethodName := ⟨RX8, "leftOut", "(I)I"⟩
abbrev cX8_total : ByteArray := prog_10_method_25_code
def yX8_total : MethodName := ⟨RX8, "total", "(I)I"⟩
abbrev cX8_placesOf : ByteArray := prog_10_method_26_code
def yX8_placesOf : MethodName := ⟨RX8, "placesOf", "(II)I"⟩
abbrev cX8_isAhead : ByteArray := prog_10_method_27_code
def yX8_isAhead : MethodName := ⟨RX8, "isAhead", "(II)Z"⟩
abbrev cX8_rank : ByteArray := prog_10_method_28_code
def yX8_rank : MethodName := ⟨RX8, "rank", "(I)I"⟩
abbrev cX8_finishedIn : ByteArray := prog_10_method_29_code
def yX8_finishedIn : MethodName := ⟨RX8, "finishedIn", "(I)I"⟩
abbrev cX8_outIn : ByteArray := prog_10_method_30_code
def yX8_outIn : MethodName := ⟨RX8, "outIn", "(I)I"⟩
abbrev cX8_bestIn : ByteArray := prog_10_method_31_code
def yX8_bestIn : MethodName := ⟨RX8, "bestIn", "(I)I"⟩
abbrev cX8_enter : ByteArray := prog_10_method_32_code
def yX8_enter : MethodName := ⟨RX8, "enter", "(I)I"⟩
abbrev cX8_clear : ByteArray := prog_10_method_33_code
def yX8_clear : MethodName := ⟨RX8, "clear", "()V"⟩
abbrev cX8_prepare : ByteArray := prog_10_method_34_code
def yX8_prepare : MethodName := ⟨RX8, "prepare", "(III)I"⟩
abbrev cX8_postpone : ByteArray := prog_10_method_35_code
def yX8_postpone : MethodName := ⟨RX8, "postpone", "(I)I"⟩
abbrev cX8_recall : ByteArray := prog_10_method_36_code
def yX8_recall : MethodName := ⟨RX8, "recall", "()I"⟩
abbrev cX8_passError : ByteArray := prog_10_method_37_code
def yX8_passError : MethodName := ⟨RX8, "passError", "(I)I"⟩
abbrev cX8_doPass : ByteArray := prog_10_method_38_code
def yX8_doPass : MethodName := ⟨RX8, "doPass", "(I)I"⟩
abbrev cX8_pass : ByteArray := prog_10_method_39_code
def yX8_pass : MethodName := ⟨RX8, "pass", "(I)I"⟩
abbrev cX8_isWhole : ByteArray := prog_10_method_40_code
def yX8_isWhole : MethodName := ⟨RX8, "isWhole", "(I)Z"⟩
abbrev cX8_lineError : ByteArray := prog_10_method_41_code
def yX8_lineError : MethodName := ⟨RX8, "lineError", "(I)I"⟩
abbrev cX8_doLine : ByteArray := prog_10_method_42_code
def yX8_doLine : MethodName := ⟨RX8, "doLine", "(I)I"⟩
abbrev cX8_buoyError : ByteArray := prog_10_method_43_code
def yX8_buoyError : MethodName := ⟨RX8, "buoyError", "(II)I"⟩
abbrev cX8_doBuoy : ByteArray := prog_10_method_44_code
def yX8_doBuoy : MethodName := ⟨RX8, "doBuoy", "(II)I"⟩
abbrev cX8_retireError : ByteArray := prog_10_method_45_code
def yX8_retireError : MethodName := ⟨RX8, "retireError", "(I)I"⟩
abbrev cX8_doRetire : ByteArray := prog_10_method_46_code
def yX8_doRetire : MethodName := ⟨RX8, "doRetire", "(I)I"⟩
abbrev cX8_line : ByteArray := prog_10_method_47_code
def yX8_line : MethodName := ⟨RX8, "line", "(I)I"⟩
abbrev cX8_buoy : ByteArray := prog_10_method_48_code
def yX8_buoy : MethodName := ⟨RX8, "buoy", "(II)I"⟩
abbrev cX8_retire : ByteArray := prog_10_method_49_code
def yX8_retire : MethodName := ⟨RX8, "retire", "(I)I"⟩
abbrev cX8_close : ByteArray := prog_10_method_50_code
def yX8_close : MethodName := ⟨RX8, "close", "()I"⟩
abbrev cX8_isOnWater : ByteArray := prog_10_method_51_code
def yX8_isOnWater : MethodName := ⟨RX8, "isOnWater", "(I)Z"⟩
abbrev cX8_hailError : ByteArray := prog_10_method_52_code
def yX8_hailError : MethodName := ⟨RX8, "hailError", "(II)I"⟩
abbrev cX8_doHail : ByteArray := prog_10_method_53_code
def yX8_doHail : MethodName := ⟨RX8, "doHail", "(II)I"⟩
abbrev cX8_hail : ByteArray := prog_10_method_54_code
def yX8_hail : MethodName := ⟨RX8, "hail", "(II)I"⟩
abbrev cX8_stage : ByteArray := prog_10_method_55_code
def yX8_stage : MethodName := ⟨RX8, "stage", "(II)V"⟩
abbrev cX8_file : ByteArray := prog_10_method_56_code
def yX8_file : MethodName := ⟨RX8, "file", "(I)I"⟩
abbrev cX8_accept : ByteArray := prog_10_method_57_code
def yX8_accept : MethodName := ⟨RX8, "accept", "(I)I"⟩
abbrev cX8_decide : ByteArray := prog_10_method_58_code
def yX8_decide : MethodName := ⟨RX8, "decide", "(IZ)I"⟩
abbrev cX8_set : ByteArray := prog_10_method_59_code
def yX8_set : MethodName := ⟨RX8, "set", "(II)I"⟩
abbrev cX8_append : ByteArray := prog_10_method_60_code
def yX8_append : MethodName := ⟨RX8, "append", "(I)I"⟩
abbrev cX8_clearText : ByteArray := prog_10_method_61_code
def yX8_clearText : MethodName := ⟨RX8, "clearText", "()I"⟩
abbrev cX8_isNext : ByteArray := prog_10_method_62_code
def yX8_isNext : MethodName := ⟨RX8, "isNext", "(II)Z"⟩
abbrev cX8_takes : ByteArray := prog_10_method_63_code
def yX8_takes : MethodName := ⟨RX8, "takes", "(I)Z"⟩
abbrev cX8_readDigit : ByteArray := prog_10_method_64_code
def yX8_readDigit : MethodName := ⟨RX8, "readDigit", "(I)I"⟩
abbrev cX8_readSeconds : ByteArray := prog_10_method_65_code
def yX8_readSeconds : MethodName := ⟨RX8, "readSeconds", "()I"⟩
abbrev cX8_readEvent : ByteArray := prog_10_method_66_code
def yX8_readEvent : MethodName := ⟨RX8, "readEvent", "()Z"⟩
abbrev cX8_errorOfEvent : ByteArray := prog_10_method_67_code
def yX8_errorOfEvent : MethodName := ⟨RX8, "errorOfEvent", "()I"⟩
abbrev cX8_does : ByteArray := prog_10_method_68_code
def yX8_does : MethodName := ⟨RX8, "does", "()I"⟩
abbrev cX8_readText : ByteArray := prog_10_method_69_code
def yX8_readText : MethodName := ⟨RX8, "readText", "(Z)Z"⟩
abbrev cX8_fault : ByteArray := prog_10_method_70_code
def yX8_fault : MethodName := ⟨RX8, "fault", "()I"⟩
abbrev cX8_run : ByteArray := prog_10_method_71_code
def yX8_run : MethodName := ⟨RX8, "run", "()I"⟩
abbrev cX8_undo : ByteArray := prog_10_method_72_code
def yX8_undo : MethodName := ⟨RX8, "undo", "()I"⟩
abbrev cX8_save : ByteArray := prog_10_method_73_code
def yX8_save : MethodName := ⟨RX8, "save", "()I"⟩
abbrev cX8_restore : ByteArray := prog_10_method_74_code
def yX8_restore : MethodName := ⟨RX8, "restore", "()I"⟩
abbrev cX8_result : ByteArray := prog_10_method_75_code
def yX8_result : MethodName := ⟨RX8, "result", "(III)I"⟩
abbrev cX8_boat : ByteArray := prog_10_method_76_code
def yX8_boat : MethodName := ⟨RX8, "boat", "(II)I"⟩
abbrev cX8_ranked : ByteArray := prog_10_method_77_code
def yX8_ranked : MethodName := ⟨RX8, "ranked", "(I)I"⟩
abbrev cX8_race : ByteArray := prog_10_method_78_code
def yX8_race : MethodName := ⟨RX8, "race", "(II)I"⟩
abbrev cX8_protest : ByteArray := prog_10_method_79_code
def yX8_protest : MethodName := ⟨RX8, "protest", "(II)I"⟩
abbrev cX8_count : ByteArray := prog_10_method_80_code
def yX8_count : MethodName := ⟨RX8, "count", "(I)I"⟩
abbrev cX8_placeNow : ByteArray := prog_10_method_81_code
def yX8_placeNow : MethodName := ⟨RX8, "placeNow", "(I)I"⟩
abbrev cX8_secondsLeft : ByteArray := prog_10_method_82_code
def yX8_secondsLeft : MethodName := ⟨RX8, "secondsLeft", "(I)I"⟩
abbrev cX8_rankIfDisqualified : ByteArray := prog_10_method_83_code
def yX8_rankIfDisqualified : MethodName := ⟨RX8, "rankIfDisqualified", "(II)I"⟩
abbrev cX8_mean : ByteArray := prog_10_method_84_code
def yX8_mean : MethodName := ⟨RX8, "mean", "(I)F"⟩
def RJ5 : String := "java/lang/AbstractStringBuilder"
def TJ5 : u_T := fun k => match k with
  | _ => ("", "", "", false)
def tyJ5 : Nat → FieldType := fun k => match k with
  | _ => .int
abbrev wsJ50 : List Cond := u_ws RJ5 TJ5 0
theorem nmJ5 : ∀ a, a < 0 → ∀ b, b < 0 → a ≠ b → (TJ5 a).2.1 ≠ (TJ5 b).2.1 := by decide +kernel
theorem tyJ5_ok : ∀ k, k < 0 → parseFieldDescriptor (TJ5 k).2.2.1 = some (tyJ5 k) := by decide +kernel
abbrev cJ5_init_d00df : ByteArray := prog_11_method_2_code
def yJ5_init_d00df : MethodName := ⟨RJ5, "<init>", "(I)V"⟩
abbrev cJ5_length_8abf5 : ByteArray := prog_11_method_6_code
def yJ5_length_8abf5 : MethodName := ⟨RJ5, "length", "()I"⟩
abbrev cJ5_ensureCapacityInternal_d00df : ByteArray := prog_11_method_9_code
def yJ5_ensureCapacityInternal_d00df : MethodName := ⟨RJ5, "ensureCapacityInternal", "(I)V"⟩
abbrev cJ5_newCapacity_0f7a4 : ByteArray := prog_11_method_10_code
def yJ5_newCapacity_0f7a4 : MethodName := ⟨RJ5, "newCapacity", "(I)I"⟩
abbrev cJ5_inflate_da8c8 : ByteArray := prog_11_method_11_code
def yJ5_inflate_da8c8 : MethodName := ⟨RJ5, "inflate", "()V"⟩
abbrev cJ5_setLength_d00df : ByteArray := prog_11_method_13_code
def yJ5_setLength_d00df : MethodName := ⟨RJ5, "setLength", "(I)V"⟩
abbrev cJ5_charAt_5068e : ByteArray := prog_11_method_14_code
def yJ5_charAt_5068e : MethodName := ⟨RJ5, "charAt", "(I)C"⟩
abbrev cJ5_append_3fe6f : ByteArray := prog_11_method_31_code
def yJ5_append_3fe6f : MethodName := ⟨RJ5, "append", "(C)Ljava/lang/AbstractStringBuilder;"⟩
abbrev cJ5_isLatin1_aae02 : ByteArray := prog_11_method_68_code
def yJ5_isLatin1_aae02 : MethodName := ⟨RJ5, "isLatin1", "()Z"⟩
def RJx8e188 : String := "java/lang/Cloneable"
def TJx8e188 : u_T := fun k => match k with
  | _ => ("", "", "", false)
def tyJx8e188 : Nat → FieldType := fun k => match k with
  | _ => .int
theorem nmJx8e188 : ∀ a, a < 0 → ∀ b, b < 0 → a ≠ b → (TJx8e188 a).2.1 ≠ (TJx8e188 b).2.1 := by decide +kernel
theorem tyJx8e188_ok : ∀ k, k < 0 → parseFieldDescriptor (TJx8e188 k).2.2.1 = some (tyJx8e188 k) := by decide +kernel
def RJ9 : String := "java/lang/Math"
def TJ9 : u_T := fun k => match k with
  | _ => ("", "", "", false)
def tyJ9 : Nat → FieldType := fun k => match k with
  | _ => .int
abbrev wsJ90 : List Cond := u_ws RJ9 TJ9 0
theorem nmJ9 : ∀ a, a < 0 → ∀ b, b < 0 → a ≠ b → (TJ9 a).2.1 ≠ (TJ9 b).2.1 := by decide +kernel
theorem tyJ9_ok : ∀ k, k < 0 → parseFieldDescriptor (TJ9 k).2.2.1 = some (tyJ9 k) := by decide +kernel
abbrev cJ9_floorDiv_7cf53 : ByteArray := prog_13_method_47_code
def yJ9_floorDiv_7cf53 : MethodName := ⟨RJ9, "floorDiv", "(II)I"⟩
abbrev cJ9_max_7cf53 : ByteArray := prog_13_method_65_code
def yJ9_max_7cf53 : MethodName := ⟨RJ9, "max", "(II)I"⟩
abbrev cJ9_min_7cf53 : ByteArray := prog_13_method_69_code
def yJ9_min_7cf53 : MethodName := ⟨RJ9, "min", "(II)I"⟩
def RJ0 : String := "java/lang/String"
def TJ0 : u_T := fun k => match k with
  | _ => ("", "", "", false)
def tyJ0 : Nat → FieldType := fun k => match k with
  | _ => .int
abbrev wsJ00 : List Cond := u_ws RJ0 TJ0 0
theorem nmJ0 : ∀ a, a < 0 → ∀ b, b < 0 → a ≠ b → (TJ0 a).2.1 ≠ (TJ0 b).2.1 := by decide +kernel
theorem tyJ0_ok : ∀ k, k < 0 → parseFieldDescriptor (TJ0 k).2.2.1 = some (tyJ0 k) := by decide +kernel
abbrev cJ0_checkIndex_df160 : ByteArray := prog_14_method_155_code
def yJ0_checkIndex_df160 : MethodName := ⟨RJ0, "checkIndex", "(II)V"⟩
abbrev cJ0_checkBoundsOffCount_cabcc : ByteArray := prog_14_method_157_code
def yJ0_checkBoundsOffCount_cabcc : MethodName := ⟨RJ0, "checkBoundsOffCount", "(III)I"⟩
def RJ4 : String := "java/lang/StringBuilder"
def TJ4 : u_T := fun k => match k with
  | 0 => ("java/lang/AbstractStringBuilder", "value", "[B", false)
  | 1 => ("java/lang/AbstractStringBuilder", "coder", "B", false)
  | 2 => ("java/lang/AbstractStringBuilder", "maybeLatin1", "Z", false)
  | _ => ("java/lang/AbstractStringBuilder", "count", "I", false)
def tyJ4 : Nat → FieldType := fun k => match k with
  | 0 => .array .byte
  | 1 => .byte
  | 2 => .boolean
  | _ => .int
abbrev wsJ40 : List Cond := u_ws RJ4 TJ4 4
theorem nmJ4 : ∀ a, a < 4 → ∀ b, b < 4 → a ≠ b → (TJ4 a).2.1 ≠ (TJ4 b).2.1 := by decide +kernel
theorem tyJ4_ok : ∀ k, k < 4 → parseFieldDescriptor (TJ4 k).2.2.1 = some (tyJ4 k) := by decide +kernel
abbrev cJ4_init_da8c8 : ByteArray := prog_15_method_1_code
def yJ4_init_da8c8 : MethodName := ⟨RJ4, "<init>", "()V"⟩
abbrev cJ4_append_cf468 : ByteArray := prog_15_method_14_code
def yJ4_append_cf468 : MethodName := ⟨RJ4, "append", "(C)Ljava/lang/StringBuilder;"⟩
abbrev cJ4_charAt_5068e : ByteArray := prog_15_method_88_code
def yJ4_charAt_5068e : MethodName := ⟨RJ4, "charAt", "(I)C"⟩
abbrev cJ4_setLength_d00df : ByteArray := prog_15_method_89_code
def yJ4_setLength_d00df : MethodName := ⟨RJ4, "setLength", "(I)V"⟩
abbrev cJ4_length_8abf5 : ByteArray := prog_15_method_93_code
def yJ4_length_8abf5 : MethodName := ⟨RJ4, "length", "()I"⟩
def RJ1 : String := "java/lang/StringLatin1"
def TJ1 : u_T := fun k => match k with
  | _ => ("", "", "", false)
def tyJ1 : Nat → FieldType := fun k => match k with
  | _ => .int
abbrev wsJ10 : List Cond := u_ws RJ1 TJ1 0
theorem nmJ1 : ∀ a, a < 0 → ∀ b, b < 0 → a ≠ b → (TJ1 a).2.1 ≠ (TJ1 b).2.1 := by decide +kernel
theorem tyJ1_ok : ∀ k, k < 0 → parseFieldDescriptor (TJ1 k).2.2.1 = some (tyJ1 k) := by decide +kernel
abbrev cJ1_canEncode_fc78d : ByteArray := prog_16_method_3_code
def yJ1_canEncode_fc78d : MethodName := ⟨RJ1, "canEncode", "(C)Z"⟩
abbrev cJ1_fillNull_b72d1 : ByteArray := prog_16_method_48_code
def yJ1_fillNull_b72d1 : MethodName := ⟨RJ1, "fillNull", "([BII)V"⟩
abbrev cJ1_inflate_0e8fd : ByteArray := prog_16_method_50_code
def yJ1_inflate_0e8fd : MethodName := ⟨RJ1, "inflate", "([BI[BII)V"⟩
def RJ2 : String := "java/lang/StringUTF16"
def TJ2 : u_T := fun k => match k with
  | _ => ("", "", "", false)
def tyJ2 : Nat → FieldType := fun k => match k with
  | _ => .int
abbrev wsJ20 : List Cond := u_ws RJ2 TJ2 0
theorem nmJ2 : ∀ a, a < 0 → ∀ b, b < 0 → a ≠ b → (TJ2 a).2.1 ≠ (TJ2 b).2.1 := by decide +kernel
theorem tyJ2_ok : ∀ k, k < 0 → parseFieldDescriptor (TJ2 k).2.2.1 = some (tyJ2 k) := by decide +kernel
abbrev cJ2_newBytesFor_77867 : ByteArray := prog_17_method_2_code
def yJ2_newBytesFor_77867 : MethodName := ⟨RJ2, "newBytesFor", "(I)[B"⟩
abbrev cJ2_newBytesLength_0f7a4 : ByteArray := prog_17_method_3_code
def yJ2_newBytesLength_0f7a4 : MethodName := ⟨RJ2, "newBytesLength", "(I)I"⟩
abbrev cJ2_putChar_b72d1 : ByteArray := prog_17_method_4_code
def yJ2_putChar_b72d1 : MethodName := ⟨RJ2, "putChar", "([BII)V"⟩
abbrev cJ2_getChar_3b067 : ByteArray := prog_17_method_5_code
def yJ2_getChar_3b067 : MethodName := ⟨RJ2, "getChar", "([BI)C"⟩
abbrev cJ2_length_9d52b : ByteArray := prog_17_method_6_code
def yJ2_length_9d52b : MethodName := ⟨RJ2, "length", "([B)I"⟩
abbrev cJ2_fillNull_b72d1 : ByteArray := prog_17_method_70_code
def yJ2_fillNull_b72d1 : MethodName := ⟨RJ2, "fillNull", "([BII)V"⟩
abbrev cJ2_putCharSB_b72d1 : ByteArray := prog_17_method_71_code
def yJ2_putCharSB_b72d1 : MethodName := ⟨RJ2, "putCharSB", "([BII)V"⟩
abbrev cJ2_inflate_0e8fd : ByteArray := prog_17_method_86_code
def yJ2_inflate_0e8fd : MethodName := ⟨RJ2, "inflate", "([BI[BII)V"⟩
abbrev cJ2_checkIndex_2214a : ByteArray := prog_17_method_91_code
def yJ2_checkIndex_2214a : MethodName := ⟨RJ2, "checkIndex", "(I[B)V"⟩
abbrev cJ2_checkBoundsOffCount_d044e : ByteArray := prog_17_method_94_code
def yJ2_checkBoundsOffCount_d044e : MethodName := ⟨RJ2, "checkBoundsOffCount", "(II[B)V"⟩
def RJ10 : String := "java/lang/System"
def TJ10 : u_T := fun k => match k with
  | _ => ("", "", "", false)
def tyJ10 : Nat → FieldType := fun k => match k with
  | _ => .int
abbrev wsJ100 : List Cond := u_ws RJ10 TJ10 0
theorem nmJ10 : ∀ a, a < 0 → ∀ b, b < 0 → a ≠ b → (TJ10 a).2.1 ≠ (TJ10 b).2.1 := by decide +kernel
theorem tyJ10_ok : ∀ k, k < 0 → parseFieldDescriptor (TJ10 k).2.2.1 = some (tyJ10 k) := by decide +kernel
def RJ7 : String := "java/util/Arrays"
def TJ7 : u_T := fun k => match k with
  | _ => ("", "", "", false)
def tyJ7 : Nat → FieldType := fun k => match k with
  | _ => .int
abbrev wsJ70 : List Cond := u_ws RJ7 TJ7 0
theorem nmJ7 : ∀ a, a < 0 → ∀ b, b < 0 → a ≠ b → (TJ7 a).2.1 ≠ (TJ7 b).2.1 := by decide +kernel
theorem tyJ7_ok : ∀ k, k < 0 → parseFieldDescriptor (TJ7 k).2.2.1 = some (tyJ7 k) := by decide +kernel
abbrev cJ7_rangeCheck_23922 : ByteArray := prog_19_method_30_code
def yJ7_rangeCheck_23922 : MethodName := ⟨RJ7, "rangeCheck", "(III)V"⟩
abbrev cJ7_fill_eb02e : ByteArray := prog_19_method_110_code
def yJ7_fill_eb02e : MethodName := ⟨RJ7, "fill", "([BIIB)V"⟩
abbrev cJ7_copyOf_9075b : ByteArray := prog_19_method_121_code
def yJ7_copyOf_9075b : MethodName := ⟨RJ7, "copyOf", "([BI)[B"⟩
def RJ8 : String := "jdk/internal/util/ArraysSupport"
def TJ8 : u_T := fun k => match k with
  | _ => ("", "", "", false)
def tyJ8 : Nat → FieldType := fun k => match k with
  | _ => .int
abbrev wsJ80 : List Cond := u_ws RJ8 TJ8 0
theorem nmJ8 : ∀ a, a < 0 → ∀ b, b < 0 → a ≠ b → (TJ8 a).2.1 ≠ (TJ8 b).2.1 := by decide +kernel
theorem tyJ8_ok : ∀ k, k < 0 → parseFieldDescriptor (TJ8 k).2.2.1 = some (tyJ8 k) := by decide +kernel
abbrev cJ8_newLength_cabcc : ByteArray := prog_20_method_27_code
def yJ8_newLength_cabcc : MethodName := ⟨RJ8, "newLength", "(III)I"⟩
abbrev cJ8_hugeLength_7cf53 : ByteArray := prog_20_method_28_code
def yJ8_hugeLength_7cf53 : MethodName := ⟨RJ8, "hugeLength", "(II)I"⟩
def RJ3 : String := "jdk/internal/util/Preconditions"
def TJ3 : u_T := fun k => match k with
  | _ => ("", "", "", false)
def tyJ3 : Nat → FieldType := fun k => match k with
  | _ => .int
abbrev wsJ30 : List Cond := u_ws RJ3 TJ3 0
theorem nmJ3 : ∀ a, a < 0 → ∀ b, b < 0 → a ≠ b → (TJ3 a).2.1 ≠ (TJ3 b).2.1 := by decide +kernel
theorem tyJ3_ok : ∀ k, k < 0 → parseFieldDescriptor (TJ3 k).2.2.1 = some (tyJ3 k) := by decide +kernel
abbrev cJ3_checkIndex_8e157 : ByteArray := prog_21_method_11_code
def yJ3_checkIndex_8e157 : MethodName := ⟨RJ3, "checkIndex", "(IILjava/util/function/BiFunction;)I"⟩
abbrev cJ3_checkFromIndexSize_8c36e : ByteArray := prog_21_method_13_code
def yJ3_checkFromIndexSize_8c36e : MethodName := ⟨RJ3, "checkFromIndexSize", "(IIILjava/util/function/BiFunction;)I"⟩
def RL : String := "RegattaTimesLaw"
abbrev cL_law : ByteArray := code
def yL_law : MethodName := ⟨RL, "law", "([I)Z"⟩
abbrev vwCl : List vw_C := [(RJ4, TJ4, 4), (RX0, TX0, 1), (RX1, TX1, 3), (RX2, TX2, 1), (RX3, TX3, 1), (RX4, TX4, 5), (RX5, TX5, 10), (RX6, TX6, 2), (RX7, TX7, 10), (RX8, TX8, 12)]
end
section
theorem dX0_init_0 : decode cX0_init 0 = .ok (.aload_n 0, 1) := by decide +kernel
theorem dX0_init_1 : decode cX0_init 1 = .ok (.invokespecial 3, 3) := by decide +kernel
theorem dX0_init_4 : decode cX0_init 4 = .ok (.aload_n 0, 1) := by decide +kernel
theorem dX0_init_5 : decode cX0_init 5 = .ok (.aload_n 1, 1) := by decide +kernel
theorem dX0_init_6 : decode cX0_init 6 = .ok (.putfield 9, 3) := by decide +kernel
theorem dX0_init_9 : decode cX0_init 9 = .ok (.return_, 1) := by decide +kernel
theorem dX0_enterBoat_0 : decode cX0_enterBoat 0 = .ok (.iload_n 1, 1) := by decide +kernel
theorem dX0_enterBoat_1 : decode cX0_enterBoat 1 = .ok (.bipush 50, 2) := by decide +kernel
theorem dX0_enterBoat_3 : decode cX0_enterBoat 3 = .ok (.if_icmp .lt 10, 3) := by decide +kernel
theorem dX0_enterBoat_6 : decode cX0_enterBoat 6 = .ok (.iload_n 1, 1) := by decide +kernel
theorem dX0_enterBoat_7 : decode cX0_enterBoat 7 = .ok (.sipush 150, 3) := by decide +kernel
theorem dX0_enterBoat_10 : decode cX0_enterBoat 10 = .ok (.if_icmp .le 6, 3) := by decide +kernel
theorem dX0_enterBoat_13 : decode cX0_enterBoat 13 = .ok (.bipush (-2), 2) := by decide +kernel
theorem dX0_enterBoat_15 : decode cX0_enterBoat 15 = .ok (.ireturn, 1) := by decide +kernel
theorem dX0_enterBoat_16 : decode cX0_enterBoat 16 = .ok (.aload_n 0, 1) := by decide +kernel
theorem dX0_enterBoat_17 : decode cX0_enterBoat 17 = .ok (.getfield 9, 3) := by decide +kernel
theorem dX0_enterBoat_20 : decode cX0_enterBoat 20 = .ok (.getfield 15, 3) := by decide +kernel
theorem dX0_enterBoat_23 : decode cX0_enterBoat 23 = .ok (.ifCond .le 6, 3) := by decide +kernel
theorem dX0_enterBoat_26 : decode cX0_enterBoat 26 = .ok (.bipush (-4), 2) := by decide +kernel
theorem dX0_enterBoat_28 : decode cX0_enterBoat 28 = .ok (.ireturn, 1) := by decide +kernel
theorem dX0_enterBoat_29 : decode cX0_enterBoat 29 = .ok (.aload_n 0, 1) := by decide +kernel
theorem dX0_enterBoat_30 : decode cX0_enterBoat 30 = .ok (.getfield 9, 3) := by decide +kernel
theorem dX0_enterBoat_33 : decode cX0_enterBoat 33 = .ok (.getfield 21, 3) := by decide +kernel
theorem dX0_enterBoat_36 : decode cX0_enterBoat 36 = .ok (.bipush 9, 2) := by decide +kernel
theorem dX0_enterBoat_38 : decode cX0_enterBoat 38 = .ok (.if_icmp .lt 6, 3) := by decide +kernel
theorem dX0_enterBoat_41 : decode cX0_enterBoat 41 = .ok (.bipush (-3), 2) := by decide +kernel
theorem dX0_enterBoat_43 : decode cX0_enterBoat 43 = .ok (.ireturn, 1) := by decide +kernel
theorem dX0_enterBoat_44 : decode cX0_enterBoat 44 = .ok (.aload_n 0, 1) := by decide +kernel
theorem dX0_enterBoat_45 : decode cX0_enterBoat 45 = .ok (.getfield 9, 3) := by decide +kernel
theorem dX0_enterBoat_48 : decode cX0_enterBoat 48 = .ok (.getfield 21, 3) := by decide +kernel
theorem dX0_enterBoat_51 : decode cX0_enterBoat 51 = .ok (.istore_n 2, 1) := by decide +kernel
theorem dX0_enterBoat_52 : decode cX0_enterBoat 52 = .ok (.aload_n 0, 1) := by decide +kernel
theorem dX0_enterBoat_53 : decode cX0_enterBoat 53 = .ok (.getfield 9, 3) := by decide +kernel
theorem dX0_enterBoat_56 : decode cX0_enterBoat 56 = .ok (.getfield 24, 3) := by decide +kernel
theorem dX0_enterBoat_59 : decode cX0_enterBoat 59 = .ok (.iload_n 2, 1) := by decide +kernel
theorem dX0_enterBoat_60 : decode cX0_enterBoat 60 = .ok (.iconst 0, 1) := by decide +kernel
theorem dX0_enterBoat_61 : decode cX0_enterBoat 61 = .ok (.iload_n 1, 1) := by decide +kernel
theorem dX0_enterBoat_62 : decode cX0_enterBoat 62 = .ok (.invokevirtual 28, 3) := by decide +kernel
theorem dX0_enterBoat_65 : decode cX0_enterBoat 65 = .ok (.aload_n 0, 1) := by decide +kernel
theorem dX0_enterBoat_66 : decode cX0_enterBoat 66 = .ok (.getfield 9, 3) := by decide +kernel
theorem dX0_enterBoat_69 : decode cX0_enterBoat 69 = .ok (.dup, 1) := by decide +kernel
theorem dX0_enterBoat_70 : decode cX0_enterBoat 70 = .ok (.getfield 21, 3) := by decide +kernel
theorem dX0_enterBoat_73 : decode cX0_enterBoat 73 = .ok (.iconst 1, 1) := by decide +kernel
theorem dX0_enterBoat_74 : decode cX0_enterBoat 74 = .ok (.iadd, 1) := by decide +kernel
theorem dX0_enterBoat_75 : decode cX0_enterBoat 75 = .ok (.putfield 21, 3) := by decide +kernel
theorem dX0_enterBoat_78 : decode cX0_enterBoat 78 = .ok (.iload_n 2, 1) := by decide +kernel
theorem dX0_enterBoat_79 : decode cX0_enterBoat 79 = .ok (.ireturn, 1) := by decide +kernel
theorem dX0_prepareRace_0 : decode cX0_prepareRace 0 = .ok (.iload_n 1, 1) := by decide +kernel
theorem dX0_prepareRace_1 : decode cX0_prepareRace 1 = .ok (.iconst 1, 1) := by decide +kernel
theorem dX0_prepareRace_2 : decode cX0_prepareRace 2 = .ok (.if_icmp .lt 31, 3) := by decide +kernel
theorem dX0_prepareRace_5 : decode cX0_prepareRace 5 = .ok (.iload_n 1, 1) := by decide +kernel
theorem dX0_prepareRace_6 : decode cX0_prepareRace 6 = .ok (.iconst 5, 1) := by decide +kernel
theorem dX0_prepareRace_7 : decode cX0_prepareRace 7 = .ok (.if_icmp .gt 26, 3) := by decide +kernel
theorem dX0_prepareRace_10 : decode cX0_prepareRace 10 = .ok (.iload_n 2, 1) := by decide +kernel
theorem dX0_prepareRace_11 : decode cX0_prepareRace 11 = .ok (.iconst 1, 1) := by decide +kernel
theorem dX0_prepareRace_12 : decode cX0_prepareRace 12 = .ok (.if_icmp .lt 21, 3) := by decide +kernel
theorem dX0_prepareRace_15 : decode cX0_prepareRace 15 = .ok (.iload_n 2, 1) := by decide +kernel
theorem dX0_prepareRace_16 : decode cX0_prepareRace 16 = .ok (.iconst 3, 1) := by decide +kernel
theorem dX0_prepareRace_17 : decode cX0_prepareRace 17 = .ok (.if_icmp .gt 16, 3) := by decide +kernel
theorem dX0_prepareRace_20 : decode cX0_prepareRace 20 = .ok (.iload_n 3, 1) := by decide +kernel
theorem dX0_prepareRace_21 : decode cX0_prepareRace 21 = .ok (.bipush 60, 2) := by decide +kernel
theorem dX0_prepareRace_23 : decode cX0_prepareRace 23 = .ok (.if_icmp .lt 10, 3) := by decide +kernel
theorem dX0_prepareRace_26 : decode cX0_prepareRace 26 = .ok (.iload_n 3, 1) := by decide +kernel
theorem dX0_prepareRace_27 : decode cX0_prepareRace 27 = .ok (.sipush 3600, 3) := by decide +kernel
theorem dX0_prepareRace_30 : decode cX0_prepareRace 30 = .ok (.if_icmp .le 6, 3) := by decide +kernel
theorem dX0_prepareRace_33 : decode cX0_prepareRace 33 = .ok (.bipush (-2), 2) := by decide +kernel
theorem dX0_prepareRace_35 : decode cX0_prepareRace 35 = .ok (.ireturn, 1) := by decide +kernel
theorem dX0_prepareRace_36 : decode cX0_prepareRace 36 = .ok (.aload_n 0, 1) := by decide +kernel
theorem dX0_prepareRace_37 : decode cX0_prepareRace 37 = .ok (.getfield 9, 3) := by decide +kernel
theorem dX0_prepareRace_40 : decode cX0_prepareRace 40 = .ok (.getfield 21, 3) := by decide +kernel
theorem dX0_prepareRace_43 : decode cX0_prepareRace 43 = .ok (.ifCond .eq 13, 3) := by decide +kernel
theorem dX0_prepareRace_46 : decode cX0_prepareRace 46 = .ok (.aload_n 0, 1) := by decide +kernel
theorem dX0_prepareRace_47 : decode cX0_prepareRace 47 = .ok (.getfield 9, 3) := by decide +kernel
theorem dX0_prepareRace_50 : decode cX0_prepareRace 50 = .ok (.invokevirtual 34, 3) := by decide +kernel
theorem dX0_prepareRace_53 : decode cX0_prepareRace 53 = .ok (.ifCond .eq 6, 3) := by decide +kernel
theorem dX0_prepareRace_56 : decode cX0_prepareRace 56 = .ok (.bipush (-4), 2) := by decide +kernel
theorem dX0_prepareRace_58 : decode cX0_prepareRace 58 = .ok (.ireturn, 1) := by decide +kernel
theorem dX0_prepareRace_59 : decode cX0_prepareRace 59 = .ok (.aload_n 0, 1) := by decide +kernel
theorem dX0_prepareRace_60 : decode cX0_prepareRace 60 = .ok (.getfield 9, 3) := by decide +kernel
theorem dX0_prepareRace_63 : decode cX0_prepareRace 63 = .ok (.getfield 15, 3) := by decide +kernel
theorem dX0_prepareRace_66 : decode cX0_prepareRace 66 = .ok (.bipush 6, 2) := by decide +kernel
theorem dX0_prepareRace_68 : decode cX0_prepareRace 68 = .ok (.if_icmp .lt 6, 3) := by decide +kernel
theorem dX0_prepareRace_71 : decode cX0_prepareRace 71 = .ok (.bipush (-3), 2) := by decide +kernel
theorem dX0_prepareRace_73 : decode cX0_prepareRace 73 = .ok (.ireturn, 1) := by decide +kernel
theorem dX0_prepareRace_74 : decode cX0_prepareRace 74 = .ok (.aload_n 0, 1) := by decide +kernel
theorem dX0_prepareRace_75 : decode cX0_prepareRace 75 = .ok (.getfield 9, 3) := by decide +kernel
theorem dX0_prepareRace_78 : decode cX0_prepareRace 78 = .ok (.getfield 15, 3) := by decide +kernel
theorem dX0_prepareRace_81 : decode cX0_prepareRace 81 = .ok (.istore 4, 2) := by decide +kernel
theorem dX0_prepareRace_83 : decode cX0_prepareRace 83 = .ok (.aload_n 0, 1) := by decide +kernel
theorem dX0_prepareRace_84 : decode cX0_prepareRace 84 = .ok (.getfield 9, 3) := by decide +kernel
theorem dX0_prepareRace_87 : decode cX0_prepareRace 87 = .ok (.getfield 38, 3) := by decide +kernel
theorem dX0_prepareRace_90 : decode cX0_prepareRace 90 = .ok (.iload 4, 2) := by decide +kernel
theorem dX0_prepareRace_92 : decode cX0_prepareRace 92 = .ok (.iconst 0, 1) := by decide +kernel
theorem dX0_prepareRace_93 : decode cX0_prepareRace 93 = .ok (.iload_n 1, 1) := by decide +kernel
theorem dX0_prepareRace_94 : decode cX0_prepareRace 94 = .ok (.invokevirtual 28, 3) := by decide +kernel
theorem dX0_prepareRace_97 : decode cX0_prepareRace 97 = .ok (.aload_n 0, 1) := by decide +kernel
theorem dX0_prepareRace_98 : decode cX0_prepareRace 98 = .ok (.getfield 9, 3) := by decide +kernel
theorem dX0_prepareRace_101 : decode cX0_prepareRace 101 = .ok (.getfield 38, 3) := by decide +kernel
theorem dX0_prepareRace_104 : decode cX0_prepareRace 104 = .ok (.iload 4, 2) := by decide +kernel
theorem dX0_prepareRace_106 : decode cX0_prepareRace 106 = .ok (.iconst 1, 1) := by decide +kernel
theorem dX0_prepareRace_107 : decode cX0_prepareRace 107 = .ok (.iload_n 2, 1) := by decide +kernel
theorem dX0_prepareRace_108 : decode cX0_prepareRace 108 = .ok (.invokevirtual 28, 3) := by decide +kernel
theorem dX0_prepareRace_111 : decode cX0_prepareRace 111 = .ok (.aload_n 0, 1) := by decide +kernel
theorem dX0_prepareRace_112 : decode cX0_prepareRace 112 = .ok (.getfield 9, 3) := by decide +kernel
theorem dX0_prepareRace_115 : decode cX0_prepareRace 115 = .ok (.dup, 1) := by decide +kernel
theorem dX0_prepareRace_116 : decode cX0_prepareRace 116 = .ok (.getfield 15, 3) := by decide +kernel
theorem dX0_prepareRace_119 : decode cX0_prepareRace 119 = .ok (.iconst 1, 1) := by decide +kernel
theorem dX0_prepareRace_120 : decode cX0_prepareRace 120 = .ok (.iadd, 1) := by decide +kernel
theorem dX0_prepareRace_121 : decode cX0_prepareRace 121 = .ok (.putfield 15, 3) := by decide +kernel
theorem dX0_prepareRace_124 : decode cX0_prepareRace 124 = .ok (.aload_n 0, 1) := by decide +kernel
theorem dX0_prepareRace_125 : decode cX0_prepareRace 125 = .ok (.getfield 9, 3) := by decide +kernel
theorem dX0_prepareRace_128 : decode cX0_prepareRace 128 = .ok (.iconst 1, 1) := by decide +kernel
theorem dX0_prepareRace_129 : decode cX0_prepareRace 129 = .ok (.putfield 41, 3) := by decide +kernel
theorem dX0_prepareRace_132 : decode cX0_prepareRace 132 = .ok (.aload_n 0, 1) := by decide +kernel
theorem dX0_prepareRace_133 : decode cX0_prepareRace 133 = .ok (.iload_n 3, 1) := by decide +kernel
theorem dX0_prepareRace_134 : decode cX0_prepareRace 134 = .ok (.invokevirtual 44, 3) := by decide +kernel
theorem dX0_prepareRace_137 : decode cX0_prepareRace 137 = .ok (.iload 4, 2) := by decide +kernel
theorem dX0_prepareRace_139 : decode cX0_prepareRace 139 = .ok (.ireturn, 1) := by decide +kernel
theorem dX0_startAnew_0 : decode cX0_startAnew 0 = .ok (.aload_n 0, 1) := by decide +kernel
theorem dX0_startAnew_1 : decode cX0_startAnew 1 = .ok (.getfield 9, 3) := by decide +kernel
theorem dX0_startAnew_4 : decode cX0_startAnew 4 = .ok (.getfield 38, 3) := by decide +kernel
theorem dX0_startAnew_7 : decode cX0_startAnew 7 = .ok (.aload_n 0, 1) := by decide +kernel
theorem dX0_startAnew_8 : decode cX0_startAnew 8 = .ok (.getfield 9, 3) := by decide +kernel
theorem dX0_startAnew_11 : decode cX0_startAnew 11 = .ok (.invokevirtual 48, 3) := by decide +kernel
theorem dX0_startAnew_14 : decode cX0_startAnew 14 = .ok (.iconst 2, 1) := by decide +kernel
theorem dX0_startAnew_15 : decode cX0_startAnew 15 = .ok (.aload_n 0, 1) := by decide +kernel
theorem dX0_startAnew_16 : decode cX0_startAnew 16 = .ok (.getfield 9, 3) := by decide +kernel
theorem dX0_startAnew_19 : decode cX0_startAnew 19 = .ok (.getfield 52, 3) := by decide +kernel
theorem dX0_startAnew_22 : decode cX0_startAnew 22 = .ok (.iload_n 1, 1) := by decide +kernel
theorem dX0_startAnew_23 : decode cX0_startAnew 23 = .ok (.iadd, 1) := by decide +kernel
theorem dX0_startAnew_24 : decode cX0_startAnew 24 = .ok (.invokevirtual 28, 3) := by decide +kernel
theorem dX0_startAnew_27 : decode cX0_startAnew 27 = .ok (.iconst 0, 1) := by decide +kernel
theorem dX0_startAnew_28 : decode cX0_startAnew 28 = .ok (.istore_n 2, 1) := by decide +kernel
theorem dX0_startAnew_29 : decode cX0_startAnew 29 = .ok (.iload_n 2, 1) := by decide +kernel
theorem dX0_startAnew_30 : decode cX0_startAnew 30 = .ok (.aload_n 0, 1) := by decide +kernel
theorem dX0_startAnew_31 : decode cX0_startAnew 31 = .ok (.getfield 9, 3) := by decide +kernel
theorem dX0_startAnew_34 : decode cX0_startAnew 34 = .ok (.getfield 21, 3) := by decide +kernel
theorem dX0_startAnew_37 : decode cX0_startAnew 37 = .ok (.if_icmp .ge 34, 3) := by decide +kernel
theorem dX0_startAnew_40 : decode cX0_startAnew 40 = .ok (.aload_n 0, 1) := by decide +kernel
theorem dX0_startAnew_41 : decode cX0_startAnew 41 = .ok (.getfield 9, 3) := by decide +kernel
theorem dX0_startAnew_44 : decode cX0_startAnew 44 = .ok (.getfield 55, 3) := by decide +kernel
theorem dX0_startAnew_47 : decode cX0_startAnew 47 = .ok (.aload_n 0, 1) := by decide +kernel
theorem dX0_startAnew_48 : decode cX0_startAnew 48 = .ok (.getfield 9, 3) := by decide +kernel
theorem dX0_startAnew_51 : decode cX0_startAnew 51 = .ok (.aload_n 0, 1) := by decide +kernel
theorem dX0_startAnew_52 : decode cX0_startAnew 52 = .ok (.getfield 9, 3) := by decide +kernel
theorem dX0_startAnew_55 : decode cX0_startAnew 55 = .ok (.invokevirtual 48, 3) := by decide +kernel
theorem dX0_startAnew_58 : decode cX0_startAnew 58 = .ok (.iload_n 2, 1) := by decide +kernel
theorem dX0_startAnew_59 : decode cX0_startAnew 59 = .ok (.invokevirtual 58, 3) := by decide +kernel
theorem dX0_startAnew_62 : decode cX0_startAnew 62 = .ok (.invokevirtual 62, 3) := by decide +kernel
theorem dX0_startAnew_65 : decode cX0_startAnew 65 = .ok (.iinc 2 1, 3) := by decide +kernel
theorem dX0_startAnew_68 : decode cX0_startAnew 68 = .ok (.goto (-39), 3) := by decide +kernel
theorem dX0_startAnew_71 : decode cX0_startAnew 71 = .ok (.aload_n 0, 1) := by decide +kernel
theorem dX0_startAnew_72 : decode cX0_startAnew 72 = .ok (.getfield 9, 3) := by decide +kernel
theorem dX0_startAnew_75 : decode cX0_startAnew 75 = .ok (.iconst 0, 1) := by decide +kernel
theorem dX0_startAnew_76 : decode cX0_startAnew 76 = .ok (.putfield 65, 3) := by decide +kernel
theorem dX0_startAnew_79 : decode cX0_startAnew 79 = .ok (.return_, 1) := by decide +kernel
theorem dX0_postponeStart_0 : decode cX0_postponeStart 0 = .ok (.iload_n 1, 1) := by decide +kernel
theorem dX0_postponeStart_1 : decode cX0_postponeStart 1 = .ok (.iconst 1, 1) := by decide +kernel
theorem dX0_postponeStart_2 : decode cX0_postponeStart 2 = .ok (.if_icmp .lt 10, 3) := by decide +kernel
theorem dX0_postponeStart_5 : decode cX0_postponeStart 5 = .ok (.iload_n 1, 1) := by decide +kernel
theorem dX0_postponeStart_6 : decode cX0_postponeStart 6 = .ok (.sipush 3600, 3) := by decide +kernel
theorem dX0_postponeStart_9 : decode cX0_postponeStart 9 = .ok (.if_icmp .le 6, 3) := by decide +kernel
theorem dX0_postponeStart_12 : decode cX0_postponeStart 12 = .ok (.bipush (-2), 2) := by decide +kernel
theorem dX0_postponeStart_14 : decode cX0_postponeStart 14 = .ok (.ireturn, 1) := by decide +kernel
theorem dX0_postponeStart_15 : decode cX0_postponeStart 15 = .ok (.aload_n 0, 1) := by decide +kernel
theorem dX0_postponeStart_16 : decode cX0_postponeStart 16 = .ok (.getfield 9, 3) := by decide +kernel
theorem dX0_postponeStart_19 : decode cX0_postponeStart 19 = .ok (.invokevirtual 34, 3) := by decide +kernel
theorem dX0_postponeStart_22 : decode cX0_postponeStart 22 = .ok (.ifCond .eq 13, 3) := by decide +kernel
theorem dX0_postponeStart_25 : decode cX0_postponeStart 25 = .ok (.aload_n 0, 1) := by decide +kernel
theorem dX0_postponeStart_26 : decode cX0_postponeStart 26 = .ok (.getfield 9, 3) := by decide +kernel
theorem dX0_postponeStart_29 : decode cX0_postponeStart 29 = .ok (.invokevirtual 68, 3) := by decide +kernel
theorem dX0_postponeStart_32 : decode cX0_postponeStart 32 = .ok (.ifCond .eq 6, 3) := by decide +kernel
theorem dX0_postponeStart_35 : decode cX0_postponeStart 35 = .ok (.bipush (-4), 2) := by decide +kernel
theorem dX0_postponeStart_37 : decode cX0_postponeStart 37 = .ok (.ireturn, 1) := by decide +kernel
theorem dX0_postponeStart_38 : decode cX0_postponeStart 38 = .ok (.aload_n 0, 1) := by decide +kernel
theorem dX0_postponeStart_39 : decode cX0_postponeStart 39 = .ok (.getfield 9, 3) := by decide +kernel
theorem dX0_postponeStart_42 : decode cX0_postponeStart 42 = .ok (.getfield 38, 3) := by decide +kernel
theorem dX0_postponeStart_45 : decode cX0_postponeStart 45 = .ok (.aload_n 0, 1) := by decide +kernel
theorem dX0_postponeStart_46 : decode cX0_postponeStart 46 = .ok (.getfield 9, 3) := by decide +kernel
theorem dX0_postponeStart_49 : decode cX0_postponeStart 49 = .ok (.invokevirtual 48, 3) := by decide +kernel
theorem dX0_postponeStart_52 : decode cX0_postponeStart 52 = .ok (.iconst 2, 1) := by decide +kernel
theorem dX0_postponeStart_53 : decode cX0_postponeStart 53 = .ok (.iload_n 1, 1) := by decide +kernel
theorem dX0_postponeStart_54 : decode cX0_postponeStart 54 = .ok (.invokevirtual 71, 3) := by decide +kernel
theorem dX0_postponeStart_57 : decode cX0_postponeStart 57 = .ok (.aload_n 0, 1) := by decide +kernel
theorem dX0_postponeStart_58 : decode cX0_postponeStart 58 = .ok (.getfield 9, 3) := by decide +kernel
theorem dX0_postponeStart_61 : decode cX0_postponeStart 61 = .ok (.invokevirtual 74, 3) := by decide +kernel
theorem dX0_postponeStart_64 : decode cX0_postponeStart 64 = .ok (.ireturn, 1) := by decide +kernel
theorem dX0_recallBoats_0 : decode cX0_recallBoats 0 = .ok (.aload_n 0, 1) := by decide +kernel
theorem dX0_recallBoats_1 : decode cX0_recallBoats 1 = .ok (.getfield 9, 3) := by decide +kernel
theorem dX0_recallBoats_4 : decode cX0_recallBoats 4 = .ok (.invokevirtual 34, 3) := by decide +kernel
theorem dX0_recallBoats_7 : decode cX0_recallBoats 7 = .ok (.ifCond .eq 33, 3) := by decide +kernel
theorem dX0_recallBoats_10 : decode cX0_recallBoats 10 = .ok (.aload_n 0, 1) := by decide +kernel
theorem dX0_recallBoats_11 : decode cX0_recallBoats 11 = .ok (.getfield 9, 3) := by decide +kernel
theorem dX0_recallBoats_14 : decode cX0_recallBoats 14 = .ok (.invokevirtual 68, 3) := by decide +kernel
theorem dX0_recallBoats_17 : decode cX0_recallBoats 17 = .ok (.ifCond .eq 23, 3) := by decide +kernel
theorem dX0_recallBoats_20 : decode cX0_recallBoats 20 = .ok (.aload_n 0, 1) := by decide +kernel
theorem dX0_recallBoats_21 : decode cX0_recallBoats 21 = .ok (.getfield 9, 3) := by decide +kernel
theorem dX0_recallBoats_24 : decode cX0_recallBoats 24 = .ok (.getfield 52, 3) := by decide +kernel
theorem dX0_recallBoats_27 : decode cX0_recallBoats 27 = .ok (.aload_n 0, 1) := by decide +kernel
theorem dX0_recallBoats_28 : decode cX0_recallBoats 28 = .ok (.getfield 9, 3) := by decide +kernel
theorem dX0_recallBoats_31 : decode cX0_recallBoats 31 = .ok (.invokevirtual 74, 3) := by decide +kernel
theorem dX0_recallBoats_34 : decode cX0_recallBoats 34 = .ok (.bipush 60, 2) := by decide +kernel
theorem dX0_recallBoats_36 : decode cX0_recallBoats 36 = .ok (.iadd, 1) := by decide +kernel
theorem dX0_recallBoats_37 : decode cX0_recallBoats 37 = .ok (.if_icmp .le 6, 3) := by decide +kernel
theorem dX0_recallBoats_40 : decode cX0_recallBoats 40 = .ok (.bipush (-4), 2) := by decide +kernel
theorem dX0_recallBoats_42 : decode cX0_recallBoats 42 = .ok (.ireturn, 1) := by decide +kernel
theorem dX0_recallBoats_43 : decode cX0_recallBoats 43 = .ok (.aload_n 0, 1) := by decide +kernel
theorem dX0_recallBoats_44 : decode cX0_recallBoats 44 = .ok (.sipush 300, 3) := by decide +kernel
theorem dX0_recallBoats_47 : decode cX0_recallBoats 47 = .ok (.invokevirtual 44, 3) := by decide +kernel
theorem dX0_recallBoats_50 : decode cX0_recallBoats 50 = .ok (.aload_n 0, 1) := by decide +kernel
theorem dX0_recallBoats_51 : decode cX0_recallBoats 51 = .ok (.getfield 9, 3) := by decide +kernel
theorem dX0_recallBoats_54 : decode cX0_recallBoats 54 = .ok (.invokevirtual 74, 3) := by decide +kernel
theorem dX0_recallBoats_57 : decode cX0_recallBoats 57 = .ok (.ireturn, 1) := by decide +kernel
theorem dX0_passTime_0 : decode cX0_passTime 0 = .ok (.iload_n 1, 1) := by decide +kernel
theorem dX0_passTime_1 : decode cX0_passTime 1 = .ok (.iconst 1, 1) := by decide +kernel
theorem dX0_passTime_2 : decode cX0_passTime 2 = .ok (.if_icmp .lt 10, 3) := by decide +kernel
theorem dX0_passTime_5 : decode cX0_passTime 5 = .ok (.iload_n 1, 1) := by decide +kernel
theorem dX0_passTime_6 : decode cX0_passTime 6 = .ok (.sipush 9999, 3) := by decide +kernel
theorem dX0_passTime_9 : decode cX0_passTime 9 = .ok (.if_icmp .le 6, 3) := by decide +kernel
theorem dX0_passTime_12 : decode cX0_passTime 12 = .ok (.bipush (-2), 2) := by decide +kernel
theorem dX0_passTime_14 : decode cX0_passTime 14 = .ok (.ireturn, 1) := by decide +kernel
theorem dX0_passTime_15 : decode cX0_passTime 15 = .ok (.aload_n 0, 1) := by decide +kernel
theorem dX0_passTime_16 : decode cX0_passTime 16 = .ok (.getfield 9, 3) := by decide +kernel
theorem dX0_passTime_19 : decode cX0_passTime 19 = .ok (.getfield 52, 3) := by decide +kernel
theorem dX0_passTime_22 : decode cX0_passTime 22 = .ok (.iload_n 1, 1) := by decide +kernel
theorem dX0_passTime_23 : decode cX0_passTime 23 = .ok (.iadd, 1) := by decide +kernel
theorem dX0_passTime_24 : decode cX0_passTime 24 = .ok (.ldc 77, 2) := by decide +kernel
theorem dX0_passTime_26 : decode cX0_passTime 26 = .ok (.if_icmp .le 6, 3) := by decide +kernel
theorem dX0_passTime_29 : decode cX0_passTime 29 = .ok (.bipush (-3), 2) := by decide +kernel
theorem dX0_passTime_31 : decode cX0_passTime 31 = .ok (.ireturn, 1) := by decide +kernel
theorem dX0_passTime_32 : decode cX0_passTime 32 = .ok (.aload_n 0, 1) := by decide +kernel
theorem dX0_passTime_33 : decode cX0_passTime 33 = .ok (.getfield 9, 3) := by decide +kernel
theorem dX0_passTime_36 : decode cX0_passTime 36 = .ok (.dup, 1) := by decide +kernel
theorem dX0_passTime_37 : decode cX0_passTime 37 = .ok (.getfield 52, 3) := by decide +kernel
theorem dX0_passTime_40 : decode cX0_passTime 40 = .ok (.iload_n 1, 1) := by decide +kernel
theorem dX0_passTime_41 : decode cX0_passTime 41 = .ok (.iadd, 1) := by decide +kernel
theorem dX0_passTime_42 : decode cX0_passTime 42 = .ok (.putfield 52, 3) := by decide +kernel
theorem dX0_passTime_45 : decode cX0_passTime 45 = .ok (.aload_n 0, 1) := by decide +kernel
theorem dX0_passTime_46 : decode cX0_passTime 46 = .ok (.getfield 9, 3) := by decide +kernel
theorem dX0_passTime_49 : decode cX0_passTime 49 = .ok (.getfield 52, 3) := by decide +kernel
theorem dX0_passTime_52 : decode cX0_passTime 52 = .ok (.ireturn, 1) := by decide +kernel
theorem dX0_crossLine_0 : decode cX0_crossLine 0 = .ok (.aload_n 0, 1) := by decide +kernel
theorem dX0_crossLine_1 : decode cX0_crossLine 1 = .ok (.getfield 9, 3) := by decide +kernel
theorem dX0_crossLine_4 : decode cX0_crossLine 4 = .ok (.iload_n 1, 1) := by decide +kernel
theorem dX0_crossLine_5 : decode cX0_crossLine 5 = .ok (.invokevirtual 78, 3) := by decide +kernel
theorem dX0_crossLine_8 : decode cX0_crossLine 8 = .ok (.ifCond .ne 5, 3) := by decide +kernel
theorem dX0_crossLine_11 : decode cX0_crossLine 11 = .ok (.iconst (-1), 1) := by decide +kernel
theorem dX0_crossLine_12 : decode cX0_crossLine 12 = .ok (.ireturn, 1) := by decide +kernel
theorem dX0_crossLine_13 : decode cX0_crossLine 13 = .ok (.aload_n 0, 1) := by decide +kernel
theorem dX0_crossLine_14 : decode cX0_crossLine 14 = .ok (.getfield 9, 3) := by decide +kernel
theorem dX0_crossLine_17 : decode cX0_crossLine 17 = .ok (.invokevirtual 34, 3) := by decide +kernel
theorem dX0_crossLine_20 : decode cX0_crossLine 20 = .ok (.ifCond .ne 6, 3) := by decide +kernel
theorem dX0_crossLine_23 : decode cX0_crossLine 23 = .ok (.bipush (-4), 2) := by decide +kernel
theorem dX0_crossLine_25 : decode cX0_crossLine 25 = .ok (.ireturn, 1) := by decide +kernel
theorem dX0_crossLine_26 : decode cX0_crossLine 26 = .ok (.aload_n 0, 1) := by decide +kernel
theorem dX0_crossLine_27 : decode cX0_crossLine 27 = .ok (.iload_n 1, 1) := by decide +kernel
theorem dX0_crossLine_28 : decode cX0_crossLine 28 = .ok (.invokevirtual 82, 3) := by decide +kernel
theorem dX0_crossLine_31 : decode cX0_crossLine 31 = .ok (.istore_n 2, 1) := by decide +kernel
theorem dX0_crossLine_32 : decode cX0_crossLine 32 = .ok (.iload_n 2, 1) := by decide +kernel
theorem dX0_crossLine_33 : decode cX0_crossLine 33 = .ok (.bipush (-4), 2) := by decide +kernel
theorem dX0_crossLine_35 : decode cX0_crossLine 35 = .ok (.if_icmp .ne 6, 3) := by decide +kernel
theorem dX0_crossLine_38 : decode cX0_crossLine 38 = .ok (.bipush (-4), 2) := by decide +kernel
theorem dX0_crossLine_40 : decode cX0_crossLine 40 = .ok (.ireturn, 1) := by decide +kernel
theorem dX0_crossLine_41 : decode cX0_crossLine 41 = .ok (.iload_n 2, 1) := by decide +kernel
theorem dX0_crossLine_42 : decode cX0_crossLine 42 = .ok (.iconst 3, 1) := by decide +kernel
theorem dX0_crossLine_43 : decode cX0_crossLine 43 = .ok (.if_icmp .ne 19, 3) := by decide +kernel
theorem dX0_crossLine_46 : decode cX0_crossLine 46 = .ok (.aload_n 0, 1) := by decide +kernel
theorem dX0_crossLine_47 : decode cX0_crossLine 47 = .ok (.getfield 9, 3) := by decide +kernel
theorem dX0_crossLine_50 : decode cX0_crossLine 50 = .ok (.iload_n 1, 1) := by decide +kernel
theorem dX0_crossLine_51 : decode cX0_crossLine 51 = .ok (.iconst 5, 1) := by decide +kernel
theorem dX0_crossLine_52 : decode cX0_crossLine 52 = .ok (.aload_n 0, 1) := by decide +kernel
theorem dX0_crossLine_53 : decode cX0_crossLine 53 = .ok (.getfield 9, 3) := by decide +kernel
theorem dX0_crossLine_56 : decode cX0_crossLine 56 = .ok (.getfield 52, 3) := by decide +kernel
theorem dX0_crossLine_59 : decode cX0_crossLine 59 = .ok (.invokevirtual 86, 3) := by decide +kernel
theorem dX0_crossLine_62 : decode cX0_crossLine 62 = .ok (.aload_n 0, 1) := by decide +kernel
theorem dX0_crossLine_63 : decode cX0_crossLine 63 = .ok (.getfield 9, 3) := by decide +kernel
theorem dX0_crossLine_66 : decode cX0_crossLine 66 = .ok (.iload_n 1, 1) := by decide +kernel
theorem dX0_crossLine_67 : decode cX0_crossLine 67 = .ok (.iconst 0, 1) := by decide +kernel
theorem dX0_crossLine_68 : decode cX0_crossLine 68 = .ok (.iload_n 2, 1) := by decide +kernel
theorem dX0_crossLine_69 : decode cX0_crossLine 69 = .ok (.invokevirtual 86, 3) := by decide +kernel
theorem dX0_crossLine_72 : decode cX0_crossLine 72 = .ok (.iload_n 2, 1) := by decide +kernel
theorem dX0_crossLine_73 : decode cX0_crossLine 73 = .ok (.ireturn, 1) := by decide +kernel
theorem dX0_kindAfterLine_0 : decode cX0_kindAfterLine 0 = .ok (.aload_n 0, 1) := by decide +kernel
theorem dX0_kindAfterLine_1 : decode cX0_kindAfterLine 1 = .ok (.getfield 9, 3) := by decide +kernel
theorem dX0_kindAfterLine_4 : decode cX0_kindAfterLine 4 = .ok (.iload_n 1, 1) := by decide +kernel
theorem dX0_kindAfterLine_5 : decode cX0_kindAfterLine 5 = .ok (.iconst 0, 1) := by decide +kernel
theorem dX0_kindAfterLine_6 : decode cX0_kindAfterLine 6 = .ok (.invokevirtual 89, 3) := by decide +kernel
theorem dX0_kindAfterLine_9 : decode cX0_kindAfterLine 9 = .ok (.tableswitch 74 0 2 #[27, 43, 59], 27) := by decide +kernel
theorem dX0_kindAfterLine_36 : decode cX0_kindAfterLine 36 = .ok (.aload_n 0, 1) := by decide +kernel
theorem dX0_kindAfterLine_37 : decode cX0_kindAfterLine 37 = .ok (.getfield 9, 3) := by decide +kernel
theorem dX0_kindAfterLine_40 : decode cX0_kindAfterLine 40 = .ok (.invokevirtual 68, 3) := by decide +kernel
theorem dX0_kindAfterLine_43 : decode cX0_kindAfterLine 43 = .ok (.ifCond .eq 7, 3) := by decide +kernel
theorem dX0_kindAfterLine_46 : decode cX0_kindAfterLine 46 = .ok (.iconst 2, 1) := by decide +kernel
theorem dX0_kindAfterLine_47 : decode cX0_kindAfterLine 47 = .ok (.goto 4, 3) := by decide +kernel
theorem dX0_kindAfterLine_50 : decode cX0_kindAfterLine 50 = .ok (.iconst 1, 1) := by decide +kernel
theorem dX0_kindAfterLine_51 : decode cX0_kindAfterLine 51 = .ok (.ireturn, 1) := by decide +kernel
theorem dX0_kindAfterLine_52 : decode cX0_kindAfterLine 52 = .ok (.aload_n 0, 1) := by decide +kernel
theorem dX0_kindAfterLine_53 : decode cX0_kindAfterLine 53 = .ok (.getfield 9, 3) := by decide +kernel
theorem dX0_kindAfterLine_56 : decode cX0_kindAfterLine 56 = .ok (.invokevirtual 68, 3) := by decide +kernel
theorem dX0_kindAfterLine_59 : decode cX0_kindAfterLine 59 = .ok (.ifCond .eq 7, 3) := by decide +kernel
theorem dX0_kindAfterLine_62 : decode cX0_kindAfterLine 62 = .ok (.iconst 2, 1) := by decide +kernel
theorem dX0_kindAfterLine_63 : decode cX0_kindAfterLine 63 = .ok (.goto 4, 3) := by decide +kernel
theorem dX0_kindAfterLine_66 : decode cX0_kindAfterLine 66 = .ok (.iconst 0, 1) := by decide +kernel
theorem dX0_kindAfterLine_67 : decode cX0_kindAfterLine 67 = .ok (.ireturn, 1) := by decide +kernel
theorem dX0_kindAfterLine_68 : decode cX0_kindAfterLine 68 = .ok (.aload_n 0, 1) := by decide +kernel
theorem dX0_kindAfterLine_69 : decode cX0_kindAfterLine 69 = .ok (.iload_n 1, 1) := by decide +kernel
theorem dX0_kindAfterLine_70 : decode cX0_kindAfterLine 70 = .ok (.invokevirtual 92, 3) := by decide +kernel
theorem dX0_kindAfterLine_73 : decode cX0_kindAfterLine 73 = .ok (.ifCond .eq 7, 3) := by decide +kernel
theorem dX0_kindAfterLine_76 : decode cX0_kindAfterLine 76 = .ok (.iconst 3, 1) := by decide +kernel
theorem dX0_kindAfterLine_77 : decode cX0_kindAfterLine 77 = .ok (.goto 5, 3) := by decide +kernel
theorem dX0_kindAfterLine_80 : decode cX0_kindAfterLine 80 = .ok (.bipush (-4), 2) := by decide +kernel
theorem dX0_kindAfterLine_82 : decode cX0_kindAfterLine 82 = .ok (.ireturn, 1) := by decide +kernel
theorem dX0_kindAfterLine_83 : decode cX0_kindAfterLine 83 = .ok (.bipush (-4), 2) := by decide +kernel
theorem dX0_kindAfterLine_85 : decode cX0_kindAfterLine 85 = .ok (.ireturn, 1) := by decide +kernel
theorem dX0_hasAllRoundings_0 : decode cX0_hasAllRoundings 0 = .ok (.aload_n 0, 1) := by decide +kernel
theorem dX0_hasAllRoundings_1 : decode cX0_hasAllRoundings 1 = .ok (.getfield 9, 3) := by decide +kernel
theorem dX0_hasAllRoundings_4 : decode cX0_hasAllRoundings 4 = .ok (.invokevirtual 48, 3) := by decide +kernel
theorem dX0_hasAllRoundings_7 : decode cX0_hasAllRoundings 7 = .ok (.istore_n 2, 1) := by decide +kernel
theorem dX0_hasAllRoundings_8 : decode cX0_hasAllRoundings 8 = .ok (.aload_n 0, 1) := by decide +kernel
theorem dX0_hasAllRoundings_9 : decode cX0_hasAllRoundings 9 = .ok (.getfield 9, 3) := by decide +kernel
theorem dX0_hasAllRoundings_12 : decode cX0_hasAllRoundings 12 = .ok (.getfield 38, 3) := by decide +kernel
theorem dX0_hasAllRoundings_15 : decode cX0_hasAllRoundings 15 = .ok (.iload_n 2, 1) := by decide +kernel
theorem dX0_hasAllRoundings_16 : decode cX0_hasAllRoundings 16 = .ok (.iconst 0, 1) := by decide +kernel
theorem dX0_hasAllRoundings_17 : decode cX0_hasAllRoundings 17 = .ok (.invokevirtual 95, 3) := by decide +kernel
theorem dX0_hasAllRoundings_20 : decode cX0_hasAllRoundings 20 = .ok (.aload_n 0, 1) := by decide +kernel
theorem dX0_hasAllRoundings_21 : decode cX0_hasAllRoundings 21 = .ok (.getfield 9, 3) := by decide +kernel
theorem dX0_hasAllRoundings_24 : decode cX0_hasAllRoundings 24 = .ok (.getfield 38, 3) := by decide +kernel
theorem dX0_hasAllRoundings_27 : decode cX0_hasAllRoundings 27 = .ok (.iload_n 2, 1) := by decide +kernel
theorem dX0_hasAllRoundings_28 : decode cX0_hasAllRoundings 28 = .ok (.iconst 1, 1) := by decide +kernel
theorem dX0_hasAllRoundings_29 : decode cX0_hasAllRoundings 29 = .ok (.invokevirtual 95, 3) := by decide +kernel
theorem dX0_hasAllRoundings_32 : decode cX0_hasAllRoundings 32 = .ok (.imul, 1) := by decide +kernel
theorem dX0_hasAllRoundings_33 : decode cX0_hasAllRoundings 33 = .ok (.istore_n 3, 1) := by decide +kernel
theorem dX0_hasAllRoundings_34 : decode cX0_hasAllRoundings 34 = .ok (.aload_n 0, 1) := by decide +kernel
theorem dX0_hasAllRoundings_35 : decode cX0_hasAllRoundings 35 = .ok (.getfield 9, 3) := by decide +kernel
theorem dX0_hasAllRoundings_38 : decode cX0_hasAllRoundings 38 = .ok (.iload_n 1, 1) := by decide +kernel
theorem dX0_hasAllRoundings_39 : decode cX0_hasAllRoundings 39 = .ok (.iconst 1, 1) := by decide +kernel
theorem dX0_hasAllRoundings_40 : decode cX0_hasAllRoundings 40 = .ok (.invokevirtual 89, 3) := by decide +kernel
theorem dX0_hasAllRoundings_43 : decode cX0_hasAllRoundings 43 = .ok (.iload_n 3, 1) := by decide +kernel
theorem dX0_hasAllRoundings_44 : decode cX0_hasAllRoundings 44 = .ok (.if_icmp .lt 7, 3) := by decide +kernel
theorem dX0_hasAllRoundings_47 : decode cX0_hasAllRoundings 47 = .ok (.iconst 1, 1) := by decide +kernel
theorem dX0_hasAllRoundings_48 : decode cX0_hasAllRoundings 48 = .ok (.goto 4, 3) := by decide +kernel
theorem dX0_hasAllRoundings_51 : decode cX0_hasAllRoundings 51 = .ok (.iconst 0, 1) := by decide +kernel
theorem dX0_hasAllRoundings_52 : decode cX0_hasAllRoundings 52 = .ok (.ireturn, 1) := by decide +kernel
theorem dX0_passBuoy_0 : decode cX0_passBuoy 0 = .ok (.aload_n 0, 1) := by decide +kernel
theorem dX0_passBuoy_1 : decode cX0_passBuoy 1 = .ok (.getfield 9, 3) := by decide +kernel
theorem dX0_passBuoy_4 : decode cX0_passBuoy 4 = .ok (.iload_n 1, 1) := by decide +kernel
theorem dX0_passBuoy_5 : decode cX0_passBuoy 5 = .ok (.invokevirtual 78, 3) := by decide +kernel
theorem dX0_passBuoy_8 : decode cX0_passBuoy 8 = .ok (.ifCond .ne 5, 3) := by decide +kernel
theorem dX0_passBuoy_11 : decode cX0_passBuoy 11 = .ok (.iconst (-1), 1) := by decide +kernel
theorem dX0_passBuoy_12 : decode cX0_passBuoy 12 = .ok (.ireturn, 1) := by decide +kernel
theorem dX0_passBuoy_13 : decode cX0_passBuoy 13 = .ok (.aload_n 0, 1) := by decide +kernel
theorem dX0_passBuoy_14 : decode cX0_passBuoy 14 = .ok (.getfield 9, 3) := by decide +kernel
theorem dX0_passBuoy_17 : decode cX0_passBuoy 17 = .ok (.getfield 38, 3) := by decide +kernel
theorem dX0_passBuoy_20 : decode cX0_passBuoy 20 = .ok (.aload_n 0, 1) := by decide +kernel
theorem dX0_passBuoy_21 : decode cX0_passBuoy 21 = .ok (.getfield 9, 3) := by decide +kernel
theorem dX0_passBuoy_24 : decode cX0_passBuoy 24 = .ok (.invokevirtual 48, 3) := by decide +kernel
theorem dX0_passBuoy_27 : decode cX0_passBuoy 27 = .ok (.iconst 0, 1) := by decide +kernel
theorem dX0_passBuoy_28 : decode cX0_passBuoy 28 = .ok (.invokevirtual 95, 3) := by decide +kernel
theorem dX0_passBuoy_31 : decode cX0_passBuoy 31 = .ok (.istore_n 3, 1) := by decide +kernel
theorem dX0_passBuoy_32 : decode cX0_passBuoy 32 = .ok (.aload_n 0, 1) := by decide +kernel
theorem dX0_passBuoy_33 : decode cX0_passBuoy 33 = .ok (.getfield 9, 3) := by decide +kernel
theorem dX0_passBuoy_36 : decode cX0_passBuoy 36 = .ok (.invokevirtual 34, 3) := by decide +kernel
theorem dX0_passBuoy_39 : decode cX0_passBuoy 39 = .ok (.ifCond .eq 12, 3) := by decide +kernel
theorem dX0_passBuoy_42 : decode cX0_passBuoy 42 = .ok (.iload_n 2, 1) := by decide +kernel
theorem dX0_passBuoy_43 : decode cX0_passBuoy 43 = .ok (.ifCond .lt 8, 3) := by decide +kernel
theorem dX0_passBuoy_46 : decode cX0_passBuoy 46 = .ok (.iload_n 2, 1) := by decide +kernel
theorem dX0_passBuoy_47 : decode cX0_passBuoy 47 = .ok (.iload_n 3, 1) := by decide +kernel
theorem dX0_passBuoy_48 : decode cX0_passBuoy 48 = .ok (.if_icmp .lt 6, 3) := by decide +kernel
theorem dX0_passBuoy_51 : decode cX0_passBuoy 51 = .ok (.bipush (-2), 2) := by decide +kernel
theorem dX0_passBuoy_53 : decode cX0_passBuoy 53 = .ok (.ireturn, 1) := by decide +kernel
theorem dX0_passBuoy_54 : decode cX0_passBuoy 54 = .ok (.aload_n 0, 1) := by decide +kernel
theorem dX0_passBuoy_55 : decode cX0_passBuoy 55 = .ok (.getfield 9, 3) := by decide +kernel
theorem dX0_passBuoy_58 : decode cX0_passBuoy 58 = .ok (.iload_n 1, 1) := by decide +kernel
theorem dX0_passBuoy_59 : decode cX0_passBuoy 59 = .ok (.iconst 0, 1) := by decide +kernel
theorem dX0_passBuoy_60 : decode cX0_passBuoy 60 = .ok (.invokevirtual 89, 3) := by decide +kernel
theorem dX0_passBuoy_63 : decode cX0_passBuoy 63 = .ok (.iconst 2, 1) := by decide +kernel
theorem dX0_passBuoy_64 : decode cX0_passBuoy 64 = .ok (.if_icmp .eq 6, 3) := by decide +kernel
theorem dX0_passBuoy_67 : decode cX0_passBuoy 67 = .ok (.bipush (-4), 2) := by decide +kernel
theorem dX0_passBuoy_69 : decode cX0_passBuoy 69 = .ok (.ireturn, 1) := by decide +kernel
theorem dX0_passBuoy_70 : decode cX0_passBuoy 70 = .ok (.aload_n 0, 1) := by decide +kernel
theorem dX0_passBuoy_71 : decode cX0_passBuoy 71 = .ok (.getfield 9, 3) := by decide +kernel
theorem dX0_passBuoy_74 : decode cX0_passBuoy 74 = .ok (.iload_n 1, 1) := by decide +kernel
theorem dX0_passBuoy_75 : decode cX0_passBuoy 75 = .ok (.iconst 1, 1) := by decide +kernel
theorem dX0_passBuoy_76 : decode cX0_passBuoy 76 = .ok (.invokevirtual 89, 3) := by decide +kernel
theorem dX0_passBuoy_79 : decode cX0_passBuoy 79 = .ok (.istore 4, 2) := by decide +kernel
theorem dX0_passBuoy_81 : decode cX0_passBuoy 81 = .ok (.iload_n 3, 1) := by decide +kernel
theorem dX0_passBuoy_82 : decode cX0_passBuoy 82 = .ok (.ifCond .le 23, 3) := by decide +kernel
theorem dX0_passBuoy_85 : decode cX0_passBuoy 85 = .ok (.iload_n 2, 1) := by decide +kernel
theorem dX0_passBuoy_86 : decode cX0_passBuoy 86 = .ok (.iload 4, 2) := by decide +kernel
theorem dX0_passBuoy_88 : decode cX0_passBuoy 88 = .ok (.iload_n 3, 1) := by decide +kernel
theorem dX0_passBuoy_89 : decode cX0_passBuoy 89 = .ok (.irem, 1) := by decide +kernel
theorem dX0_passBuoy_90 : decode cX0_passBuoy 90 = .ok (.if_icmp .ne 15, 3) := by decide +kernel
theorem dX0_passBuoy_93 : decode cX0_passBuoy 93 = .ok (.aload_n 0, 1) := by decide +kernel
theorem dX0_passBuoy_94 : decode cX0_passBuoy 94 = .ok (.iload_n 1, 1) := by decide +kernel
theorem dX0_passBuoy_95 : decode cX0_passBuoy 95 = .ok (.invokevirtual 92, 3) := by decide +kernel
theorem dX0_passBuoy_98 : decode cX0_passBuoy 98 = .ok (.ifCond .ne 7, 3) := by decide +kernel
theorem dX0_passBuoy_101 : decode cX0_passBuoy 101 = .ok (.iconst 1, 1) := by decide +kernel
theorem dX0_passBuoy_102 : decode cX0_passBuoy 102 = .ok (.goto 4, 3) := by decide +kernel
theorem dX0_passBuoy_105 : decode cX0_passBuoy 105 = .ok (.iconst 0, 1) := by decide +kernel
theorem dX0_passBuoy_106 : decode cX0_passBuoy 106 = .ok (.istore 5, 2) := by decide +kernel
theorem dX0_passBuoy_108 : decode cX0_passBuoy 108 = .ok (.iload 5, 2) := by decide +kernel
theorem dX0_passBuoy_110 : decode cX0_passBuoy 110 = .ok (.ifCond .eq 7, 3) := by decide +kernel
theorem dX0_passBuoy_113 : decode cX0_passBuoy 113 = .ok (.iconst 1, 1) := by decide +kernel
theorem dX0_passBuoy_114 : decode cX0_passBuoy 114 = .ok (.goto 4, 3) := by decide +kernel
theorem dX0_passBuoy_117 : decode cX0_passBuoy 117 = .ok (.iconst 2, 1) := by decide +kernel
theorem dX0_passBuoy_118 : decode cX0_passBuoy 118 = .ok (.istore 6, 2) := by decide +kernel
theorem dX0_passBuoy_120 : decode cX0_passBuoy 120 = .ok (.aload_n 0, 1) := by decide +kernel
theorem dX0_passBuoy_121 : decode cX0_passBuoy 121 = .ok (.getfield 9, 3) := by decide +kernel
theorem dX0_passBuoy_124 : decode cX0_passBuoy 124 = .ok (.iload_n 1, 1) := by decide +kernel
theorem dX0_passBuoy_125 : decode cX0_passBuoy 125 = .ok (.iload 6, 2) := by decide +kernel
theorem dX0_passBuoy_127 : decode cX0_passBuoy 127 = .ok (.aload_n 0, 1) := by decide +kernel
theorem dX0_passBuoy_128 : decode cX0_passBuoy 128 = .ok (.getfield 9, 3) := by decide +kernel
theorem dX0_passBuoy_131 : decode cX0_passBuoy 131 = .ok (.iload_n 1, 1) := by decide +kernel
theorem dX0_passBuoy_132 : decode cX0_passBuoy 132 = .ok (.iload 6, 2) := by decide +kernel
theorem dX0_passBuoy_134 : decode cX0_passBuoy 134 = .ok (.invokevirtual 89, 3) := by decide +kernel
theorem dX0_passBuoy_137 : decode cX0_passBuoy 137 = .ok (.iconst 1, 1) := by decide +kernel
theorem dX0_passBuoy_138 : decode cX0_passBuoy 138 = .ok (.iadd, 1) := by decide +kernel
theorem dX0_passBuoy_139 : decode cX0_passBuoy 139 = .ok (.invokevirtual 86, 3) := by decide +kernel
theorem dX0_passBuoy_142 : decode cX0_passBuoy 142 = .ok (.aload_n 0, 1) := by decide +kernel
theorem dX0_passBuoy_143 : decode cX0_passBuoy 143 = .ok (.getfield 9, 3) := by decide +kernel
theorem dX0_passBuoy_146 : decode cX0_passBuoy 146 = .ok (.iload_n 1, 1) := by decide +kernel
theorem dX0_passBuoy_147 : decode cX0_passBuoy 147 = .ok (.iconst 1, 1) := by decide +kernel
theorem dX0_passBuoy_148 : decode cX0_passBuoy 148 = .ok (.invokevirtual 89, 3) := by decide +kernel
theorem dX0_passBuoy_151 : decode cX0_passBuoy 151 = .ok (.ireturn, 1) := by decide +kernel
theorem dX0_retireBoat_0 : decode cX0_retireBoat 0 = .ok (.aload_n 0, 1) := by decide +kernel
theorem dX0_retireBoat_1 : decode cX0_retireBoat 1 = .ok (.getfield 9, 3) := by decide +kernel
theorem dX0_retireBoat_4 : decode cX0_retireBoat 4 = .ok (.iload_n 1, 1) := by decide +kernel
theorem dX0_retireBoat_5 : decode cX0_retireBoat 5 = .ok (.invokevirtual 78, 3) := by decide +kernel
theorem dX0_retireBoat_8 : decode cX0_retireBoat 8 = .ok (.ifCond .ne 5, 3) := by decide +kernel
theorem dX0_retireBoat_11 : decode cX0_retireBoat 11 = .ok (.iconst (-1), 1) := by decide +kernel
theorem dX0_retireBoat_12 : decode cX0_retireBoat 12 = .ok (.ireturn, 1) := by decide +kernel
theorem dX0_retireBoat_13 : decode cX0_retireBoat 13 = .ok (.aload_n 0, 1) := by decide +kernel
theorem dX0_retireBoat_14 : decode cX0_retireBoat 14 = .ok (.getfield 9, 3) := by decide +kernel
theorem dX0_retireBoat_17 : decode cX0_retireBoat 17 = .ok (.iload_n 1, 1) := by decide +kernel
theorem dX0_retireBoat_18 : decode cX0_retireBoat 18 = .ok (.iconst 0, 1) := by decide +kernel
theorem dX0_retireBoat_19 : decode cX0_retireBoat 19 = .ok (.invokevirtual 89, 3) := by decide +kernel
theorem dX0_retireBoat_22 : decode cX0_retireBoat 22 = .ok (.istore_n 2, 1) := by decide +kernel
theorem dX0_retireBoat_23 : decode cX0_retireBoat 23 = .ok (.aload_n 0, 1) := by decide +kernel
theorem dX0_retireBoat_24 : decode cX0_retireBoat 24 = .ok (.getfield 9, 3) := by decide +kernel
theorem dX0_retireBoat_27 : decode cX0_retireBoat 27 = .ok (.invokevirtual 34, 3) := by decide +kernel
theorem dX0_retireBoat_30 : decode cX0_retireBoat 30 = .ok (.ifCond .eq 13, 3) := by decide +kernel
theorem dX0_retireBoat_33 : decode cX0_retireBoat 33 = .ok (.iload_n 2, 1) := by decide +kernel
theorem dX0_retireBoat_34 : decode cX0_retireBoat 34 = .ok (.iconst 3, 1) := by decide +kernel
theorem dX0_retireBoat_35 : decode cX0_retireBoat 35 = .ok (.if_icmp .eq 8, 3) := by decide +kernel
theorem dX0_retireBoat_38 : decode cX0_retireBoat 38 = .ok (.iload_n 2, 1) := by decide +kernel
theorem dX0_retireBoat_39 : decode cX0_retireBoat 39 = .ok (.iconst 4, 1) := by decide +kernel
theorem dX0_retireBoat_40 : decode cX0_retireBoat 40 = .ok (.if_icmp .ne 6, 3) := by decide +kernel
theorem dX0_retireBoat_43 : decode cX0_retireBoat 43 = .ok (.bipush (-4), 2) := by decide +kernel
theorem dX0_retireBoat_45 : decode cX0_retireBoat 45 = .ok (.ireturn, 1) := by decide +kernel
theorem dX0_retireBoat_46 : decode cX0_retireBoat 46 = .ok (.aload_n 0, 1) := by decide +kernel
theorem dX0_retireBoat_47 : decode cX0_retireBoat 47 = .ok (.getfield 9, 3) := by decide +kernel
theorem dX0_retireBoat_50 : decode cX0_retireBoat 50 = .ok (.iload_n 1, 1) := by decide +kernel
theorem dX0_retireBoat_51 : decode cX0_retireBoat 51 = .ok (.iconst 0, 1) := by decide +kernel
theorem dX0_retireBoat_52 : decode cX0_retireBoat 52 = .ok (.iconst 4, 1) := by decide +kernel
theorem dX0_retireBoat_53 : decode cX0_retireBoat 53 = .ok (.invokevirtual 86, 3) := by decide +kernel
theorem dX0_retireBoat_56 : decode cX0_retireBoat 56 = .ok (.iload_n 2, 1) := by decide +kernel
theorem dX0_retireBoat_57 : decode cX0_retireBoat 57 = .ok (.ireturn, 1) := by decide +kernel
theorem dX0_closeRace_0 : decode cX0_closeRace 0 = .ok (.aload_n 0, 1) := by decide +kernel
theorem dX0_closeRace_1 : decode cX0_closeRace 1 = .ok (.getfield 9, 3) := by decide +kernel
theorem dX0_closeRace_4 : decode cX0_closeRace 4 = .ok (.invokevirtual 34, 3) := by decide +kernel
theorem dX0_closeRace_7 : decode cX0_closeRace 7 = .ok (.ifCond .eq 13, 3) := by decide +kernel
theorem dX0_closeRace_10 : decode cX0_closeRace 10 = .ok (.aload_n 0, 1) := by decide +kernel
theorem dX0_closeRace_11 : decode cX0_closeRace 11 = .ok (.getfield 9, 3) := by decide +kernel
theorem dX0_closeRace_14 : decode cX0_closeRace 14 = .ok (.invokevirtual 68, 3) := by decide +kernel
theorem dX0_closeRace_17 : decode cX0_closeRace 17 = .ok (.ifCond .ne 6, 3) := by decide +kernel
theorem dX0_closeRace_20 : decode cX0_closeRace 20 = .ok (.bipush (-4), 2) := by decide +kernel
theorem dX0_closeRace_22 : decode cX0_closeRace 22 = .ok (.ireturn, 1) := by decide +kernel
theorem dX0_closeRace_23 : decode cX0_closeRace 23 = .ok (.aload_n 0, 1) := by decide +kernel
theorem dX0_closeRace_24 : decode cX0_closeRace 24 = .ok (.getfield 9, 3) := by decide +kernel
theorem dX0_closeRace_27 : decode cX0_closeRace 27 = .ok (.iconst 2, 1) := by decide +kernel
theorem dX0_closeRace_28 : decode cX0_closeRace 28 = .ok (.putfield 41, 3) := by decide +kernel
theorem dX0_closeRace_31 : decode cX0_closeRace 31 = .ok (.aload_n 0, 1) := by decide +kernel
theorem dX0_closeRace_32 : decode cX0_closeRace 32 = .ok (.getfield 9, 3) := by decide +kernel
theorem dX0_closeRace_35 : decode cX0_closeRace 35 = .ok (.aload_n 0, 1) := by decide +kernel
theorem dX0_closeRace_36 : decode cX0_closeRace 36 = .ok (.getfield 9, 3) := by decide +kernel
theorem dX0_closeRace_39 : decode cX0_closeRace 39 = .ok (.invokevirtual 48, 3) := by decide +kernel
theorem dX0_closeRace_42 : decode cX0_closeRace 42 = .ok (.iconst 0, 1) := by decide +kernel
theorem dX0_closeRace_43 : decode cX0_closeRace 43 = .ok (.iconst 3, 1) := by decide +kernel
theorem dX0_closeRace_44 : decode cX0_closeRace 44 = .ok (.invokevirtual 98, 3) := by decide +kernel
theorem dX0_closeRace_47 : decode cX0_closeRace 47 = .ok (.ireturn, 1) := by decide +kernel
theorem dX0_changeSetting_0 : decode cX0_changeSetting 0 = .ok (.iload_n 1, 1) := by decide +kernel
theorem dX0_changeSetting_1 : decode cX0_changeSetting 1 = .ok (.ifCond .lt 8, 3) := by decide +kernel
theorem dX0_changeSetting_4 : decode cX0_changeSetting 4 = .ok (.iload_n 1, 1) := by decide +kernel
theorem dX0_changeSetting_5 : decode cX0_changeSetting 5 = .ok (.iconst 3, 1) := by decide +kernel
theorem dX0_changeSetting_6 : decode cX0_changeSetting 6 = .ok (.if_icmp .lt 5, 3) := by decide +kernel
theorem dX0_changeSetting_9 : decode cX0_changeSetting 9 = .ok (.iconst (-1), 1) := by decide +kernel
theorem dX0_changeSetting_10 : decode cX0_changeSetting 10 = .ok (.ireturn, 1) := by decide +kernel
theorem dX0_changeSetting_11 : decode cX0_changeSetting 11 = .ok (.iload_n 2, 1) := by decide +kernel
theorem dX0_changeSetting_12 : decode cX0_changeSetting 12 = .ok (.getstatic 102, 3) := by decide +kernel
theorem dX0_changeSetting_15 : decode cX0_changeSetting 15 = .ok (.iload_n 1, 1) := by decide +kernel
theorem dX0_changeSetting_16 : decode cX0_changeSetting 16 = .ok (.iaload, 1) := by decide +kernel
theorem dX0_changeSetting_17 : decode cX0_changeSetting 17 = .ok (.if_icmp .lt 12, 3) := by decide +kernel
theorem dX0_changeSetting_20 : decode cX0_changeSetting 20 = .ok (.iload_n 2, 1) := by decide +kernel
theorem dX0_changeSetting_21 : decode cX0_changeSetting 21 = .ok (.getstatic 106, 3) := by decide +kernel
theorem dX0_changeSetting_24 : decode cX0_changeSetting 24 = .ok (.iload_n 1, 1) := by decide +kernel
theorem dX0_changeSetting_25 : decode cX0_changeSetting 25 = .ok (.iaload, 1) := by decide +kernel
theorem dX0_changeSetting_26 : decode cX0_changeSetting 26 = .ok (.if_icmp .le 6, 3) := by decide +kernel
theorem dX0_changeSetting_29 : decode cX0_changeSetting 29 = .ok (.bipush (-2), 2) := by decide +kernel
theorem dX0_changeSetting_31 : decode cX0_changeSetting 31 = .ok (.ireturn, 1) := by decide +kernel
theorem dX0_changeSetting_32 : decode cX0_changeSetting 32 = .ok (.aload_n 0, 1) := by decide +kernel
theorem dX0_changeSetting_33 : decode cX0_changeSetting 33 = .ok (.getfield 9, 3) := by decide +kernel
theorem dX0_changeSetting_36 : decode cX0_changeSetting 36 = .ok (.iload_n 1, 1) := by decide +kernel
theorem dX0_changeSetting_37 : decode cX0_changeSetting 37 = .ok (.invokevirtual 109, 3) := by decide +kernel
theorem dX0_changeSetting_40 : decode cX0_changeSetting 40 = .ok (.istore_n 3, 1) := by decide +kernel
theorem dX0_changeSetting_41 : decode cX0_changeSetting 41 = .ok (.aload_n 0, 1) := by decide +kernel
theorem dX0_changeSetting_42 : decode cX0_changeSetting 42 = .ok (.getfield 9, 3) := by decide +kernel
theorem dX0_changeSetting_45 : decode cX0_changeSetting 45 = .ok (.getfield 112, 3) := by decide +kernel
theorem dX0_changeSetting_48 : decode cX0_changeSetting 48 = .ok (.iload_n 1, 1) := by decide +kernel
theorem dX0_changeSetting_49 : decode cX0_changeSetting 49 = .ok (.iconst 0, 1) := by decide +kernel
theorem dX0_changeSetting_50 : decode cX0_changeSetting 50 = .ok (.iload_n 2, 1) := by decide +kernel
theorem dX0_changeSetting_51 : decode cX0_changeSetting 51 = .ok (.invokevirtual 28, 3) := by decide +kernel
theorem dX0_changeSetting_54 : decode cX0_changeSetting 54 = .ok (.iload_n 3, 1) := by decide +kernel
theorem dX0_changeSetting_55 : decode cX0_changeSetting 55 = .ok (.ireturn, 1) := by decide +kernel
theorem dX1_init_0 : decode cX1_init 0 = .ok (.aload_n 0, 1) := by decide +kernel
theorem dX1_init_1 : decode cX1_init 1 = .ok (.invokespecial 3, 3) := by decide +kernel
theorem dX1_init_4 : decode cX1_init 4 = .ok (.aload_n 0, 1) := by decide +kernel
theorem dX1_init_5 : decode cX1_init 5 = .ok (.iconst 5, 1) := by decide +kernel
theorem dX1_init_6 : decode cX1_init 6 = .ok (.anewarray 11, 3) := by decide +kernel
theorem dX1_init_9 : decode cX1_init 9 = .ok (.putfield 13, 3) := by decide +kernel
theorem dX1_init_12 : decode cX1_init 12 = .ok (.iconst 0, 1) := by decide +kernel
theorem dX1_init_13 : decode cX1_init 13 = .ok (.istore_n 1, 1) := by decide +kernel
theorem dX1_init_14 : decode cX1_init 14 = .ok (.iload_n 1, 1) := by decide +kernel
theorem dX1_init_15 : decode cX1_init 15 = .ok (.iconst 5, 1) := by decide +kernel
theorem dX1_init_16 : decode cX1_init 16 = .ok (.if_icmp .ge 22, 3) := by decide +kernel
theorem dX1_init_19 : decode cX1_init 19 = .ok (.aload_n 0, 1) := by decide +kernel
theorem dX1_init_20 : decode cX1_init 20 = .ok (.getfield 13, 3) := by decide +kernel
theorem dX1_init_23 : decode cX1_init 23 = .ok (.iload_n 1, 1) := by decide +kernel
theorem dX1_init_24 : decode cX1_init 24 = .ok (.new 11, 3) := by decide +kernel
theorem dX1_init_27 : decode cX1_init 27 = .ok (.dup, 1) := by decide +kernel
theorem dX1_init_28 : decode cX1_init 28 = .ok (.invokespecial 17, 3) := by decide +kernel
theorem dX1_init_31 : decode cX1_init 31 = .ok (.aastore, 1) := by decide +kernel
theorem dX1_init_32 : decode cX1_init 32 = .ok (.iinc 1 1, 3) := by decide +kernel
theorem dX1_init_35 : decode cX1_init 35 = .ok (.goto (-21), 3) := by decide +kernel
theorem dX1_init_38 : decode cX1_init 38 = .ok (.return_, 1) := by decide +kernel
theorem dX1_size_0 : decode cX1_size 0 = .ok (.aload_n 0, 1) := by decide +kernel
theorem dX1_size_1 : decode cX1_size 1 = .ok (.getfield 18, 3) := by decide +kernel
theorem dX1_size_4 : decode cX1_size 4 = .ok (.ireturn, 1) := by decide +kernel
theorem dX1_hold_0 : decode cX1_hold 0 = .ok (.aload_n 0, 1) := by decide +kernel
theorem dX1_hold_1 : decode cX1_hold 1 = .ok (.getfield 13, 3) := by decide +kernel
theorem dX1_hold_4 : decode cX1_hold 4 = .ok (.aload_n 0, 1) := by decide +kernel
theorem dX1_hold_5 : decode cX1_hold 5 = .ok (.getfield 22, 3) := by decide +kernel
theorem dX1_hold_8 : decode cX1_hold 8 = .ok (.aaload, 1) := by decide +kernel
theorem dX1_hold_9 : decode cX1_hold 9 = .ok (.astore_n 2, 1) := by decide +kernel
theorem dX1_hold_10 : decode cX1_hold 10 = .ok (.aload_n 2, 1) := by decide +kernel
theorem dX1_hold_11 : decode cX1_hold 11 = .ok (.ifnull 8, 3) := by decide +kernel
theorem dX1_hold_14 : decode cX1_hold 14 = .ok (.aload_n 2, 1) := by decide +kernel
theorem dX1_hold_15 : decode cX1_hold 15 = .ok (.aload_n 1, 1) := by decide +kernel
theorem dX1_hold_16 : decode cX1_hold 16 = .ok (.invokevirtual 25, 3) := by decide +kernel
theorem dX1_hold_19 : decode cX1_hold 19 = .ok (.return_, 1) := by decide +kernel
theorem dX1_confirm_0 : decode cX1_confirm 0 = .ok (.iload_n 1, 1) := by decide +kernel
theorem dX1_confirm_1 : decode cX1_confirm 1 = .ok (.ifCond .lt 41, 3) := by decide +kernel
theorem dX1_confirm_4 : decode cX1_confirm 4 = .ok (.aload_n 0, 1) := by decide +kernel
theorem dX1_confirm_5 : decode cX1_confirm 5 = .ok (.aload_n 0, 1) := by decide +kernel
theorem dX1_confirm_6 : decode cX1_confirm 6 = .ok (.getfield 22, 3) := by decide +kernel
theorem dX1_confirm_9 : decode cX1_confirm 9 = .ok (.iconst 1, 1) := by decide +kernel
theorem dX1_confirm_10 : decode cX1_confirm 10 = .ok (.iadd, 1) := by decide +kernel
theorem dX1_confirm_11 : decode cX1_confirm 11 = .ok (.iconst 5, 1) := by decide +kernel
theorem dX1_confirm_12 : decode cX1_confirm 12 = .ok (.if_icmp .ge 12, 3) := by decide +kernel
theorem dX1_confirm_15 : decode cX1_confirm 15 = .ok (.aload_n 0, 1) := by decide +kernel
theorem dX1_confirm_16 : decode cX1_confirm 16 = .ok (.getfield 22, 3) := by decide +kernel
theorem dX1_confirm_19 : decode cX1_confirm 19 = .ok (.iconst 1, 1) := by decide +kernel
theorem dX1_confirm_20 : decode cX1_confirm 20 = .ok (.iadd, 1) := by decide +kernel
theorem dX1_confirm_21 : decode cX1_confirm 21 = .ok (.goto 4, 3) := by decide +kernel
theorem dX1_confirm_24 : decode cX1_confirm 24 = .ok (.iconst 0, 1) := by decide +kernel
theorem dX1_confirm_25 : decode cX1_confirm 25 = .ok (.putfield 22, 3) := by decide +kernel
theorem dX1_confirm_28 : decode cX1_confirm 28 = .ok (.aload_n 0, 1) := by decide +kernel
theorem dX1_confirm_29 : decode cX1_confirm 29 = .ok (.aload_n 0, 1) := by decide +kernel
theorem dX1_confirm_30 : decode cX1_confirm 30 = .ok (.getfield 18, 3) := by decide +kernel
theorem dX1_confirm_33 : decode cX1_confirm 33 = .ok (.iconst 1, 1) := by decide +kernel
theorem dX1_confirm_34 : decode cX1_confirm 34 = .ok (.iadd, 1) := by decide +kernel
theorem dX1_confirm_35 : decode cX1_confirm 35 = .ok (.iconst 4, 1) := by decide +kernel
theorem dX1_confirm_36 : decode cX1_confirm 36 = .ok (.invokestatic 29, 3) := by decide +kernel
theorem dX1_confirm_39 : decode cX1_confirm 39 = .ok (.putfield 18, 3) := by decide +kernel
theorem dX1_confirm_42 : decode cX1_confirm 42 = .ok (.iload_n 1, 1) := by decide +kernel
theorem dX1_confirm_43 : decode cX1_confirm 43 = .ok (.ireturn, 1) := by decide +kernel
theorem dX1_takeBack_0 : decode cX1_takeBack 0 = .ok (.aload_n 0, 1) := by decide +kernel
theorem dX1_takeBack_1 : decode cX1_takeBack 1 = .ok (.getfield 18, 3) := by decide +kernel
theorem dX1_takeBack_4 : decode cX1_takeBack 4 = .ok (.ifCond .ne 6, 3) := by decide +kernel
theorem dX1_takeBack_7 : decode cX1_takeBack 7 = .ok (.bipush (-5), 2) := by decide +kernel
theorem dX1_takeBack_9 : decode cX1_takeBack 9 = .ok (.ireturn, 1) := by decide +kernel
theorem dX1_takeBack_10 : decode cX1_takeBack 10 = .ok (.aload_n 0, 1) := by decide +kernel
theorem dX1_takeBack_11 : decode cX1_takeBack 11 = .ok (.aload_n 0, 1) := by decide +kernel
theorem dX1_takeBack_12 : decode cX1_takeBack 12 = .ok (.getfield 22, 3) := by decide +kernel
theorem dX1_takeBack_15 : decode cX1_takeBack 15 = .ok (.ifCond .le 12, 3) := by decide +kernel
theorem dX1_takeBack_18 : decode cX1_takeBack 18 = .ok (.aload_n 0, 1) := by decide +kernel
theorem dX1_takeBack_19 : decode cX1_takeBack 19 = .ok (.getfield 22, 3) := by decide +kernel
theorem dX1_takeBack_22 : decode cX1_takeBack 22 = .ok (.iconst 1, 1) := by decide +kernel
theorem dX1_takeBack_23 : decode cX1_takeBack 23 = .ok (.isub, 1) := by decide +kernel
theorem dX1_takeBack_24 : decode cX1_takeBack 24 = .ok (.goto 4, 3) := by decide +kernel
theorem dX1_takeBack_27 : decode cX1_takeBack 27 = .ok (.iconst 4, 1) := by decide +kernel
theorem dX1_takeBack_28 : decode cX1_takeBack 28 = .ok (.putfield 22, 3) := by decide +kernel
theorem dX1_takeBack_31 : decode cX1_takeBack 31 = .ok (.aload_n 0, 1) := by decide +kernel
theorem dX1_takeBack_32 : decode cX1_takeBack 32 = .ok (.dup, 1) := by decide +kernel
theorem dX1_takeBack_33 : decode cX1_takeBack 33 = .ok (.getfield 18, 3) := by decide +kernel
theorem dX1_takeBack_36 : decode cX1_takeBack 36 = .ok (.iconst 1, 1) := by decide +kernel
theorem dX1_takeBack_37 : decode cX1_takeBack 37 = .ok (.isub, 1) := by decide +kernel
theorem dX1_takeBack_38 : decode cX1_takeBack 38 = .ok (.putfield 18, 3) := by decide +kernel
theorem dX1_takeBack_41 : decode cX1_takeBack 41 = .ok (.aload_n 0, 1) := by decide +kernel
theorem dX1_takeBack_42 : decode cX1_takeBack 42 = .ok (.getfield 13, 3) := by decide +kernel
theorem dX1_takeBack_45 : decode cX1_takeBack 45 = .ok (.aload_n 0, 1) := by decide +kernel
theorem dX1_takeBack_46 : decode cX1_takeBack 46 = .ok (.getfield 22, 3) := by decide +kernel
theorem dX1_takeBack_49 : decode cX1_takeBack 49 = .ok (.aaload, 1) := by decide +kernel
theorem dX1_takeBack_50 : decode cX1_takeBack 50 = .ok (.astore_n 2, 1) := by decide +kernel
theorem dX1_takeBack_51 : decode cX1_takeBack 51 = .ok (.aload_n 2, 1) := by decide +kernel
theorem dX1_takeBack_52 : decode cX1_takeBack 52 = .ok (.ifnull 8, 3) := by decide +kernel
theorem dX1_takeBack_55 : decode cX1_takeBack 55 = .ok (.aload_n 1, 1) := by decide +kernel
theorem dX1_takeBack_56 : decode cX1_takeBack 56 = .ok (.aload_n 2, 1) := by decide +kernel
theorem dX1_takeBack_57 : decode cX1_takeBack 57 = .ok (.invokevirtual 25, 3) := by decide +kernel
theorem dX1_takeBack_60 : decode cX1_takeBack 60 = .ok (.aload_n 0, 1) := by decide +kernel
theorem dX1_takeBack_61 : decode cX1_takeBack 61 = .ok (.getfield 18, 3) := by decide +kernel
theorem dX1_takeBack_64 : decode cX1_takeBack 64 = .ok (.ireturn, 1) := by decide +kernel
theorem dX2_init_0 : decode cX2_init 0 = .ok (.aload_n 0, 1) := by decide +kernel
theorem dX2_init_1 : decode cX2_init 1 = .ok (.invokespecial 3, 3) := by decide +kernel
theorem dX2_init_4 : decode cX2_init 4 = .ok (.aload_n 0, 1) := by decide +kernel
theorem dX2_init_5 : decode cX2_init 5 = .ok (.aload_n 1, 1) := by decide +kernel
theorem dX2_init_6 : decode cX2_init 6 = .ok (.putfield 9, 3) := by decide +kernel
theorem dX2_init_9 : decode cX2_init 9 = .ok (.return_, 1) := by decide +kernel
theorem dX2_hailProtest_0 : decode cX2_hailProtest 0 = .ok (.aload_n 0, 1) := by decide +kernel
theorem dX2_hailProtest_1 : decode cX2_hailProtest 1 = .ok (.getfield 9, 3) := by decide +kernel
theorem dX2_hailProtest_4 : decode cX2_hailProtest 4 = .ok (.iload_n 1, 1) := by decide +kernel
theorem dX2_hailProtest_5 : decode cX2_hailProtest 5 = .ok (.invokevirtual 15, 3) := by decide +kernel
theorem dX2_hailProtest_8 : decode cX2_hailProtest 8 = .ok (.ifCond .eq 14, 3) := by decide +kernel
theorem dX2_hailProtest_11 : decode cX2_hailProtest 11 = .ok (.aload_n 0, 1) := by decide +kernel
theorem dX2_hailProtest_12 : decode cX2_hailProtest 12 = .ok (.getfield 9, 3) := by decide +kernel
theorem dX2_hailProtest_15 : decode cX2_hailProtest 15 = .ok (.iload_n 2, 1) := by decide +kernel
theorem dX2_hailProtest_16 : decode cX2_hailProtest 16 = .ok (.invokevirtual 15, 3) := by decide +kernel
theorem dX2_hailProtest_19 : decode cX2_hailProtest 19 = .ok (.ifCond .ne 5, 3) := by decide +kernel
theorem dX2_hailProtest_22 : decode cX2_hailProtest 22 = .ok (.iconst (-1), 1) := by decide +kernel
theorem dX2_hailProtest_23 : decode cX2_hailProtest 23 = .ok (.ireturn, 1) := by decide +kernel
theorem dX2_hailProtest_24 : decode cX2_hailProtest 24 = .ok (.iload_n 1, 1) := by decide +kernel
theorem dX2_hailProtest_25 : decode cX2_hailProtest 25 = .ok (.iload_n 2, 1) := by decide +kernel
theorem dX2_hailProtest_26 : decode cX2_hailProtest 26 = .ok (.if_icmp .ne 6, 3) := by decide +kernel
theorem dX2_hailProtest_29 : decode cX2_hailProtest 29 = .ok (.bipush (-2), 2) := by decide +kernel
theorem dX2_hailProtest_31 : decode cX2_hailProtest 31 = .ok (.ireturn, 1) := by decide +kernel
theorem dX2_hailProtest_32 : decode cX2_hailProtest 32 = .ok (.aload_n 0, 1) := by decide +kernel
theorem dX2_hailProtest_33 : decode cX2_hailProtest 33 = .ok (.getfield 9, 3) := by decide +kernel
theorem dX2_hailProtest_36 : decode cX2_hailProtest 36 = .ok (.invokevirtual 21, 3) := by decide +kernel
theorem dX2_hailProtest_39 : decode cX2_hailProtest 39 = .ok (.ifCond .eq 19, 3) := by decide +kernel
theorem dX2_hailProtest_42 : decode cX2_hailProtest 42 = .ok (.aload_n 0, 1) := by decide +kernel
theorem dX2_hailProtest_43 : decode cX2_hailProtest 43 = .ok (.iload_n 1, 1) := by decide +kernel
theorem dX2_hailProtest_44 : decode cX2_hailProtest 44 = .ok (.invokevirtual 25, 3) := by decide +kernel
theorem dX2_hailProtest_47 : decode cX2_hailProtest 47 = .ok (.ifCond .eq 11, 3) := by decide +kernel
theorem dX2_hailProtest_50 : decode cX2_hailProtest 50 = .ok (.aload_n 0, 1) := by decide +kernel
theorem dX2_hailProtest_51 : decode cX2_hailProtest 51 = .ok (.iload_n 2, 1) := by decide +kernel
theorem dX2_hailProtest_52 : decode cX2_hailProtest 52 = .ok (.invokevirtual 25, 3) := by decide +kernel
theorem dX2_hailProtest_55 : decode cX2_hailProtest 55 = .ok (.ifCond .ne 6, 3) := by decide +kernel
theorem dX2_hailProtest_58 : decode cX2_hailProtest 58 = .ok (.bipush (-4), 2) := by decide +kernel
theorem dX2_hailProtest_60 : decode cX2_hailProtest 60 = .ok (.ireturn, 1) := by decide +kernel
theorem dX2_hailProtest_61 : decode cX2_hailProtest 61 = .ok (.aload_n 0, 1) := by decide +kernel
theorem dX2_hailProtest_62 : decode cX2_hailProtest 62 = .ok (.getfield 9, 3) := by decide +kernel
theorem dX2_hailProtest_65 : decode cX2_hailProtest 65 = .ok (.getfield 28, 3) := by decide +kernel
theorem dX2_hailProtest_68 : decode cX2_hailProtest 68 = .ok (.bipush 10, 2) := by decide +kernel
theorem dX2_hailProtest_70 : decode cX2_hailProtest 70 = .ok (.if_icmp .lt 6, 3) := by decide +kernel
theorem dX2_hailProtest_73 : decode cX2_hailProtest 73 = .ok (.bipush (-3), 2) := by decide +kernel
theorem dX2_hailProtest_75 : decode cX2_hailProtest 75 = .ok (.ireturn, 1) := by decide +kernel
theorem dX2_hailProtest_76 : decode cX2_hailProtest 76 = .ok (.aload_n 0, 1) := by decide +kernel
theorem dX2_hailProtest_77 : decode cX2_hailProtest 77 = .ok (.getfield 9, 3) := by decide +kernel
theorem dX2_hailProtest_80 : decode cX2_hailProtest 80 = .ok (.getfield 28, 3) := by decide +kernel
theorem dX2_hailProtest_83 : decode cX2_hailProtest 83 = .ok (.istore_n 3, 1) := by decide +kernel
theorem dX2_hailProtest_84 : decode cX2_hailProtest 84 = .ok (.aload_n 0, 1) := by decide +kernel
theorem dX2_hailProtest_85 : decode cX2_hailProtest 85 = .ok (.getfield 9, 3) := by decide +kernel
theorem dX2_hailProtest_88 : decode cX2_hailProtest 88 = .ok (.getfield 32, 3) := by decide +kernel
theorem dX2_hailProtest_91 : decode cX2_hailProtest 91 = .ok (.iload_n 3, 1) := by decide +kernel
theorem dX2_hailProtest_92 : decode cX2_hailProtest 92 = .ok (.iconst 0, 1) := by decide +kernel
theorem dX2_hailProtest_93 : decode cX2_hailProtest 93 = .ok (.iload_n 1, 1) := by decide +kernel
theorem dX2_hailProtest_94 : decode cX2_hailProtest 94 = .ok (.invokevirtual 36, 3) := by decide +kernel
theorem dX2_hailProtest_97 : decode cX2_hailProtest 97 = .ok (.aload_n 0, 1) := by decide +kernel
theorem dX2_hailProtest_98 : decode cX2_hailProtest 98 = .ok (.getfield 9, 3) := by decide +kernel
theorem dX2_hailProtest_101 : decode cX2_hailProtest 101 = .ok (.getfield 32, 3) := by decide +kernel
theorem dX2_hailProtest_104 : decode cX2_hailProtest 104 = .ok (.iload_n 3, 1) := by decide +kernel
theorem dX2_hailProtest_105 : decode cX2_hailProtest 105 = .ok (.iconst 1, 1) := by decide +kernel
theorem dX2_hailProtest_106 : decode cX2_hailProtest 106 = .ok (.iload_n 2, 1) := by decide +kernel
theorem dX2_hailProtest_107 : decode cX2_hailProtest 107 = .ok (.invokevirtual 36, 3) := by decide +kernel
theorem dX2_hailProtest_110 : decode cX2_hailProtest 110 = .ok (.aload_n 0, 1) := by decide +kernel
theorem dX2_hailProtest_111 : decode cX2_hailProtest 111 = .ok (.getfield 9, 3) := by decide +kernel
theorem dX2_hailProtest_114 : decode cX2_hailProtest 114 = .ok (.getfield 32, 3) := by decide +kernel
theorem dX2_hailProtest_117 : decode cX2_hailProtest 117 = .ok (.iload_n 3, 1) := by decide +kernel
theorem dX2_hailProtest_118 : decode cX2_hailProtest 118 = .ok (.iconst 2, 1) := by decide +kernel
theorem dX2_hailProtest_119 : decode cX2_hailProtest 119 = .ok (.aload_n 0, 1) := by decide +kernel
theorem dX2_hailProtest_120 : decode cX2_hailProtest 120 = .ok (.getfield 9, 3) := by decide +kernel
theorem dX2_hailProtest_123 : decode cX2_hailProtest 123 = .ok (.getfield 42, 3) := by decide +kernel
theorem dX2_hailProtest_126 : decode cX2_hailProtest 126 = .ok (.invokevirtual 36, 3) := by decide +kernel
theorem dX2_hailProtest_129 : decode cX2_hailProtest 129 = .ok (.aload_n 0, 1) := by decide +kernel
theorem dX2_hailProtest_130 : decode cX2_hailProtest 130 = .ok (.getfield 9, 3) := by decide +kernel
theorem dX2_hailProtest_133 : decode cX2_hailProtest 133 = .ok (.getfield 32, 3) := by decide +kernel
theorem dX2_hailProtest_136 : decode cX2_hailProtest 136 = .ok (.iload_n 3, 1) := by decide +kernel
theorem dX2_hailProtest_137 : decode cX2_hailProtest 137 = .ok (.iconst 3, 1) := by decide +kernel
theorem dX2_hailProtest_138 : decode cX2_hailProtest 138 = .ok (.iconst 0, 1) := by decide +kernel
theorem dX2_hailProtest_139 : decode cX2_hailProtest 139 = .ok (.invokevirtual 36, 3) := by decide +kernel
theorem dX2_hailProtest_142 : decode cX2_hailProtest 142 = .ok (.aload_n 0, 1) := by decide +kernel
theorem dX2_hailProtest_143 : decode cX2_hailProtest 143 = .ok (.getfield 9, 3) := by decide +kernel
theorem dX2_hailProtest_146 : decode cX2_hailProtest 146 = .ok (.dup, 1) := by decide +kernel
theorem dX2_hailProtest_147 : decode cX2_hailProtest 147 = .ok (.getfield 28, 3) := by decide +kernel
theorem dX2_hailProtest_150 : decode cX2_hailProtest 150 = .ok (.iconst 1, 1) := by decide +kernel
theorem dX2_hailProtest_151 : decode cX2_hailProtest 151 = .ok (.iadd, 1) := by decide +kernel
theorem dX2_hailProtest_152 : decode cX2_hailProtest 152 = .ok (.putfield 28, 3) := by decide +kernel
theorem dX2_hailProtest_155 : decode cX2_hailProtest 155 = .ok (.iload_n 3, 1) := by decide +kernel
theorem dX2_hailProtest_156 : decode cX2_hailProtest 156 = .ok (.ireturn, 1) := by decide +kernel
theorem dX2_isOnCourse_0 : decode cX2_isOnCourse 0 = .ok (.aload_n 0, 1) := by decide +kernel
theorem dX2_isOnCourse_1 : decode cX2_isOnCourse 1 = .ok (.getfield 9, 3) := by decide +kernel
theorem dX2_isOnCourse_4 : decode cX2_isOnCourse 4 = .ok (.iload_n 1, 1) := by decide +kernel
theorem dX2_isOnCourse_5 : decode cX2_isOnCourse 5 = .ok (.iconst 0, 1) := by decide +kernel
theorem dX2_isOnCourse_6 : decode cX2_isOnCourse 6 = .ok (.invokevirtual 45, 3) := by decide +kernel
theorem dX2_isOnCourse_9 : decode cX2_isOnCourse 9 = .ok (.istore_n 2, 1) := by decide +kernel
theorem dX2_isOnCourse_10 : decode cX2_isOnCourse 10 = .ok (.iload_n 2, 1) := by decide +kernel
theorem dX2_isOnCourse_11 : decode cX2_isOnCourse 11 = .ok (.iconst 2, 1) := by decide +kernel
theorem dX2_isOnCourse_12 : decode cX2_isOnCourse 12 = .ok (.if_icmp .eq 8, 3) := by decide +kernel
theorem dX2_isOnCourse_15 : decode cX2_isOnCourse 15 = .ok (.iload_n 2, 1) := by decide +kernel
theorem dX2_isOnCourse_16 : decode cX2_isOnCourse 16 = .ok (.iconst 3, 1) := by decide +kernel
theorem dX2_isOnCourse_17 : decode cX2_isOnCourse 17 = .ok (.if_icmp .ne 7, 3) := by decide +kernel
theorem dX2_isOnCourse_20 : decode cX2_isOnCourse 20 = .ok (.iconst 1, 1) := by decide +kernel
theorem dX2_isOnCourse_21 : decode cX2_isOnCourse 21 = .ok (.goto 4, 3) := by decide +kernel
theorem dX2_isOnCourse_24 : decode cX2_isOnCourse 24 = .ok (.iconst 0, 1) := by decide +kernel
theorem dX2_isOnCourse_25 : decode cX2_isOnCourse 25 = .ok (.ireturn, 1) := by decide +kernel
theorem dX2_fileProtest_0 : decode cX2_fileProtest 0 = .ok (.aload_n 0, 1) := by decide +kernel
theorem dX2_fileProtest_1 : decode cX2_fileProtest 1 = .ok (.getfield 9, 3) := by decide +kernel
theorem dX2_fileProtest_4 : decode cX2_fileProtest 4 = .ok (.iload_n 1, 1) := by decide +kernel
theorem dX2_fileProtest_5 : decode cX2_fileProtest 5 = .ok (.invokevirtual 49, 3) := by decide +kernel
theorem dX2_fileProtest_8 : decode cX2_fileProtest 8 = .ok (.ifCond .ne 5, 3) := by decide +kernel
theorem dX2_fileProtest_11 : decode cX2_fileProtest 11 = .ok (.iconst (-1), 1) := by decide +kernel
theorem dX2_fileProtest_12 : decode cX2_fileProtest 12 = .ok (.ireturn, 1) := by decide +kernel
theorem dX2_fileProtest_13 : decode cX2_fileProtest 13 = .ok (.aload_n 0, 1) := by decide +kernel
theorem dX2_fileProtest_14 : decode cX2_fileProtest 14 = .ok (.getfield 9, 3) := by decide +kernel
theorem dX2_fileProtest_17 : decode cX2_fileProtest 17 = .ok (.getfield 32, 3) := by decide +kernel
theorem dX2_fileProtest_20 : decode cX2_fileProtest 20 = .ok (.iload_n 1, 1) := by decide +kernel
theorem dX2_fileProtest_21 : decode cX2_fileProtest 21 = .ok (.iconst 0, 1) := by decide +kernel
theorem dX2_fileProtest_22 : decode cX2_fileProtest 22 = .ok (.invokevirtual 52, 3) := by decide +kernel
theorem dX2_fileProtest_25 : decode cX2_fileProtest 25 = .ok (.istore_n 2, 1) := by decide +kernel
theorem dX2_fileProtest_26 : decode cX2_fileProtest 26 = .ok (.aload_n 0, 1) := by decide +kernel
theorem dX2_fileProtest_27 : decode cX2_fileProtest 27 = .ok (.getfield 9, 3) := by decide +kernel
theorem dX2_fileProtest_30 : decode cX2_fileProtest 30 = .ok (.getfield 32, 3) := by decide +kernel
theorem dX2_fileProtest_33 : decode cX2_fileProtest 33 = .ok (.iload_n 1, 1) := by decide +kernel
theorem dX2_fileProtest_34 : decode cX2_fileProtest 34 = .ok (.iconst 3, 1) := by decide +kernel
theorem dX2_fileProtest_35 : decode cX2_fileProtest 35 = .ok (.invokevirtual 52, 3) := by decide +kernel
theorem dX2_fileProtest_38 : decode cX2_fileProtest 38 = .ok (.ifCond .ne 16, 3) := by decide +kernel
theorem dX2_fileProtest_41 : decode cX2_fileProtest 41 = .ok (.aload_n 0, 1) := by decide +kernel
theorem dX2_fileProtest_42 : decode cX2_fileProtest 42 = .ok (.getfield 9, 3) := by decide +kernel
theorem dX2_fileProtest_45 : decode cX2_fileProtest 45 = .ok (.iload_n 2, 1) := by decide +kernel
theorem dX2_fileProtest_46 : decode cX2_fileProtest 46 = .ok (.iconst 0, 1) := by decide +kernel
theorem dX2_fileProtest_47 : decode cX2_fileProtest 47 = .ok (.invokevirtual 45, 3) := by decide +kernel
theorem dX2_fileProtest_50 : decode cX2_fileProtest 50 = .ok (.iconst 3, 1) := by decide +kernel
theorem dX2_fileProtest_51 : decode cX2_fileProtest 51 = .ok (.if_icmp .eq 6, 3) := by decide +kernel
theorem dX2_fileProtest_54 : decode cX2_fileProtest 54 = .ok (.bipush (-4), 2) := by decide +kernel
theorem dX2_fileProtest_56 : decode cX2_fileProtest 56 = .ok (.ireturn, 1) := by decide +kernel
theorem dX2_fileProtest_57 : decode cX2_fileProtest 57 = .ok (.aload_n 0, 1) := by decide +kernel
theorem dX2_fileProtest_58 : decode cX2_fileProtest 58 = .ok (.getfield 9, 3) := by decide +kernel
theorem dX2_fileProtest_61 : decode cX2_fileProtest 61 = .ok (.iload_n 2, 1) := by decide +kernel
theorem dX2_fileProtest_62 : decode cX2_fileProtest 62 = .ok (.iconst 5, 1) := by decide +kernel
theorem dX2_fileProtest_63 : decode cX2_fileProtest 63 = .ok (.invokevirtual 45, 3) := by decide +kernel
theorem dX2_fileProtest_66 : decode cX2_fileProtest 66 = .ok (.aload_n 0, 1) := by decide +kernel
theorem dX2_fileProtest_67 : decode cX2_fileProtest 67 = .ok (.getfield 9, 3) := by decide +kernel
theorem dX2_fileProtest_70 : decode cX2_fileProtest 70 = .ok (.iconst 0, 1) := by decide +kernel
theorem dX2_fileProtest_71 : decode cX2_fileProtest 71 = .ok (.invokevirtual 55, 3) := by decide +kernel
theorem dX2_fileProtest_74 : decode cX2_fileProtest 74 = .ok (.iadd, 1) := by decide +kernel
theorem dX2_fileProtest_75 : decode cX2_fileProtest 75 = .ok (.aload_n 0, 1) := by decide +kernel
theorem dX2_fileProtest_76 : decode cX2_fileProtest 76 = .ok (.getfield 9, 3) := by decide +kernel
theorem dX2_fileProtest_79 : decode cX2_fileProtest 79 = .ok (.getfield 42, 3) := by decide +kernel
theorem dX2_fileProtest_82 : decode cX2_fileProtest 82 = .ok (.isub, 1) := by decide +kernel
theorem dX2_fileProtest_83 : decode cX2_fileProtest 83 = .ok (.istore_n 3, 1) := by decide +kernel
theorem dX2_fileProtest_84 : decode cX2_fileProtest 84 = .ok (.iload_n 3, 1) := by decide +kernel
theorem dX2_fileProtest_85 : decode cX2_fileProtest 85 = .ok (.ifCond .ge 6, 3) := by decide +kernel
theorem dX2_fileProtest_88 : decode cX2_fileProtest 88 = .ok (.bipush (-4), 2) := by decide +kernel
theorem dX2_fileProtest_90 : decode cX2_fileProtest 90 = .ok (.ireturn, 1) := by decide +kernel
theorem dX2_fileProtest_91 : decode cX2_fileProtest 91 = .ok (.aload_n 0, 1) := by decide +kernel
theorem dX2_fileProtest_92 : decode cX2_fileProtest 92 = .ok (.getfield 9, 3) := by decide +kernel
theorem dX2_fileProtest_95 : decode cX2_fileProtest 95 = .ok (.getfield 32, 3) := by decide +kernel
theorem dX2_fileProtest_98 : decode cX2_fileProtest 98 = .ok (.iload_n 1, 1) := by decide +kernel
theorem dX2_fileProtest_99 : decode cX2_fileProtest 99 = .ok (.iconst 3, 1) := by decide +kernel
theorem dX2_fileProtest_100 : decode cX2_fileProtest 100 = .ok (.iconst 1, 1) := by decide +kernel
theorem dX2_fileProtest_101 : decode cX2_fileProtest 101 = .ok (.invokevirtual 36, 3) := by decide +kernel
theorem dX2_fileProtest_104 : decode cX2_fileProtest 104 = .ok (.iload_n 3, 1) := by decide +kernel
theorem dX2_fileProtest_105 : decode cX2_fileProtest 105 = .ok (.ireturn, 1) := by decide +kernel
theorem dX2_acceptProtest_0 : decode cX2_acceptProtest 0 = .ok (.aload_n 0, 1) := by decide +kernel
theorem dX2_acceptProtest_1 : decode cX2_acceptProtest 1 = .ok (.getfield 9, 3) := by decide +kernel
theorem dX2_acceptProtest_4 : decode cX2_acceptProtest 4 = .ok (.iload_n 1, 1) := by decide +kernel
theorem dX2_acceptProtest_5 : decode cX2_acceptProtest 5 = .ok (.invokevirtual 49, 3) := by decide +kernel
theorem dX2_acceptProtest_8 : decode cX2_acceptProtest 8 = .ok (.ifCond .ne 5, 3) := by decide +kernel
theorem dX2_acceptProtest_11 : decode cX2_acceptProtest 11 = .ok (.iconst (-1), 1) := by decide +kernel
theorem dX2_acceptProtest_12 : decode cX2_acceptProtest 12 = .ok (.ireturn, 1) := by decide +kernel
theorem dX2_acceptProtest_13 : decode cX2_acceptProtest 13 = .ok (.aload_n 0, 1) := by decide +kernel
theorem dX2_acceptProtest_14 : decode cX2_acceptProtest 14 = .ok (.getfield 9, 3) := by decide +kernel
theorem dX2_acceptProtest_17 : decode cX2_acceptProtest 17 = .ok (.getfield 32, 3) := by decide +kernel
theorem dX2_acceptProtest_20 : decode cX2_acceptProtest 20 = .ok (.iload_n 1, 1) := by decide +kernel
theorem dX2_acceptProtest_21 : decode cX2_acceptProtest 21 = .ok (.iconst 3, 1) := by decide +kernel
theorem dX2_acceptProtest_22 : decode cX2_acceptProtest 22 = .ok (.invokevirtual 52, 3) := by decide +kernel
theorem dX2_acceptProtest_25 : decode cX2_acceptProtest 25 = .ok (.istore_n 2, 1) := by decide +kernel
theorem dX2_acceptProtest_26 : decode cX2_acceptProtest 26 = .ok (.aload_n 0, 1) := by decide +kernel
theorem dX2_acceptProtest_27 : decode cX2_acceptProtest 27 = .ok (.getfield 9, 3) := by decide +kernel
theorem dX2_acceptProtest_30 : decode cX2_acceptProtest 30 = .ok (.getfield 32, 3) := by decide +kernel
theorem dX2_acceptProtest_33 : decode cX2_acceptProtest 33 = .ok (.iload_n 1, 1) := by decide +kernel
theorem dX2_acceptProtest_34 : decode cX2_acceptProtest 34 = .ok (.iconst 1, 1) := by decide +kernel
theorem dX2_acceptProtest_35 : decode cX2_acceptProtest 35 = .ok (.invokevirtual 52, 3) := by decide +kernel
theorem dX2_acceptProtest_38 : decode cX2_acceptProtest 38 = .ok (.istore_n 3, 1) := by decide +kernel
theorem dX2_acceptProtest_39 : decode cX2_acceptProtest 39 = .ok (.iload_n 2, 1) := by decide +kernel
theorem dX2_acceptProtest_40 : decode cX2_acceptProtest 40 = .ok (.ifCond .eq 8, 3) := by decide +kernel
theorem dX2_acceptProtest_43 : decode cX2_acceptProtest 43 = .ok (.iload_n 2, 1) := by decide +kernel
theorem dX2_acceptProtest_44 : decode cX2_acceptProtest 44 = .ok (.iconst 1, 1) := by decide +kernel
theorem dX2_acceptProtest_45 : decode cX2_acceptProtest 45 = .ok (.if_icmp .ne 16, 3) := by decide +kernel
theorem dX2_acceptProtest_48 : decode cX2_acceptProtest 48 = .ok (.aload_n 0, 1) := by decide +kernel
theorem dX2_acceptProtest_49 : decode cX2_acceptProtest 49 = .ok (.getfield 9, 3) := by decide +kernel
theorem dX2_acceptProtest_52 : decode cX2_acceptProtest 52 = .ok (.iload_n 3, 1) := by decide +kernel
theorem dX2_acceptProtest_53 : decode cX2_acceptProtest 53 = .ok (.iconst 0, 1) := by decide +kernel
theorem dX2_acceptProtest_54 : decode cX2_acceptProtest 54 = .ok (.invokevirtual 45, 3) := by decide +kernel
theorem dX2_acceptProtest_57 : decode cX2_acceptProtest 57 = .ok (.iconst 4, 1) := by decide +kernel
theorem dX2_acceptProtest_58 : decode cX2_acceptProtest 58 = .ok (.if_icmp .ne 6, 3) := by decide +kernel
theorem dX2_acceptProtest_61 : decode cX2_acceptProtest 61 = .ok (.bipush (-4), 2) := by decide +kernel
theorem dX2_acceptProtest_63 : decode cX2_acceptProtest 63 = .ok (.ireturn, 1) := by decide +kernel
theorem dX2_acceptProtest_64 : decode cX2_acceptProtest 64 = .ok (.aload_n 0, 1) := by decide +kernel
theorem dX2_acceptProtest_65 : decode cX2_acceptProtest 65 = .ok (.getfield 9, 3) := by decide +kernel
theorem dX2_acceptProtest_68 : decode cX2_acceptProtest 68 = .ok (.iload_n 3, 1) := by decide +kernel
theorem dX2_acceptProtest_69 : decode cX2_acceptProtest 69 = .ok (.iconst 3, 1) := by decide +kernel
theorem dX2_acceptProtest_70 : decode cX2_acceptProtest 70 = .ok (.invokevirtual 45, 3) := by decide +kernel
theorem dX2_acceptProtest_73 : decode cX2_acceptProtest 73 = .ok (.aload_n 0, 1) := by decide +kernel
theorem dX2_acceptProtest_74 : decode cX2_acceptProtest 74 = .ok (.getfield 9, 3) := by decide +kernel
theorem dX2_acceptProtest_77 : decode cX2_acceptProtest 77 = .ok (.iconst 1, 1) := by decide +kernel
theorem dX2_acceptProtest_78 : decode cX2_acceptProtest 78 = .ok (.invokevirtual 55, 3) := by decide +kernel
theorem dX2_acceptProtest_81 : decode cX2_acceptProtest 81 = .ok (.iadd, 1) := by decide +kernel
theorem dX2_acceptProtest_82 : decode cX2_acceptProtest 82 = .ok (.istore 4, 2) := by decide +kernel
theorem dX2_acceptProtest_84 : decode cX2_acceptProtest 84 = .ok (.aload_n 0, 1) := by decide +kernel
theorem dX2_acceptProtest_85 : decode cX2_acceptProtest 85 = .ok (.getfield 9, 3) := by decide +kernel
theorem dX2_acceptProtest_88 : decode cX2_acceptProtest 88 = .ok (.iload_n 3, 1) := by decide +kernel
theorem dX2_acceptProtest_89 : decode cX2_acceptProtest 89 = .ok (.iconst 3, 1) := by decide +kernel
theorem dX2_acceptProtest_90 : decode cX2_acceptProtest 90 = .ok (.iload 4, 2) := by decide +kernel
theorem dX2_acceptProtest_92 : decode cX2_acceptProtest 92 = .ok (.invokevirtual 59, 3) := by decide +kernel
theorem dX2_acceptProtest_95 : decode cX2_acceptProtest 95 = .ok (.aload_n 0, 1) := by decide +kernel
theorem dX2_acceptProtest_96 : decode cX2_acceptProtest 96 = .ok (.getfield 9, 3) := by decide +kernel
theorem dX2_acceptProtest_99 : decode cX2_acceptProtest 99 = .ok (.getfield 32, 3) := by decide +kernel
theorem dX2_acceptProtest_102 : decode cX2_acceptProtest 102 = .ok (.iload_n 1, 1) := by decide +kernel
theorem dX2_acceptProtest_103 : decode cX2_acceptProtest 103 = .ok (.iconst 3, 1) := by decide +kernel
theorem dX2_acceptProtest_104 : decode cX2_acceptProtest 104 = .ok (.iconst 2, 1) := by decide +kernel
theorem dX2_acceptProtest_105 : decode cX2_acceptProtest 105 = .ok (.invokevirtual 36, 3) := by decide +kernel
theorem dX2_acceptProtest_108 : decode cX2_acceptProtest 108 = .ok (.iload 4, 2) := by decide +kernel
theorem dX2_acceptProtest_110 : decode cX2_acceptProtest 110 = .ok (.ireturn, 1) := by decide +kernel
theorem dX2_decideProtest_0 : decode cX2_decideProtest 0 = .ok (.aload_n 0, 1) := by decide +kernel
theorem dX2_decideProtest_1 : decode cX2_decideProtest 1 = .ok (.getfield 9, 3) := by decide +kernel
theorem dX2_decideProtest_4 : decode cX2_decideProtest 4 = .ok (.iload_n 1, 1) := by decide +kernel
theorem dX2_decideProtest_5 : decode cX2_decideProtest 5 = .ok (.invokevirtual 49, 3) := by decide +kernel
theorem dX2_decideProtest_8 : decode cX2_decideProtest 8 = .ok (.ifCond .ne 5, 3) := by decide +kernel
theorem dX2_decideProtest_11 : decode cX2_decideProtest 11 = .ok (.iconst (-1), 1) := by decide +kernel
theorem dX2_decideProtest_12 : decode cX2_decideProtest 12 = .ok (.ireturn, 1) := by decide +kernel
theorem dX2_decideProtest_13 : decode cX2_decideProtest 13 = .ok (.aload_n 0, 1) := by decide +kernel
theorem dX2_decideProtest_14 : decode cX2_decideProtest 14 = .ok (.getfield 9, 3) := by decide +kernel
theorem dX2_decideProtest_17 : decode cX2_decideProtest 17 = .ok (.getfield 32, 3) := by decide +kernel
theorem dX2_decideProtest_20 : decode cX2_decideProtest 20 = .ok (.iload_n 1, 1) := by decide +kernel
theorem dX2_decideProtest_21 : decode cX2_decideProtest 21 = .ok (.iconst 3, 1) := by decide +kernel
theorem dX2_decideProtest_22 : decode cX2_decideProtest 22 = .ok (.invokevirtual 52, 3) := by decide +kernel
theorem dX2_decideProtest_25 : decode cX2_decideProtest 25 = .ok (.iconst 1, 1) := by decide +kernel
theorem dX2_decideProtest_26 : decode cX2_decideProtest 26 = .ok (.if_icmp .eq 6, 3) := by decide +kernel
theorem dX2_decideProtest_29 : decode cX2_decideProtest 29 = .ok (.bipush (-4), 2) := by decide +kernel
theorem dX2_decideProtest_31 : decode cX2_decideProtest 31 = .ok (.ireturn, 1) := by decide +kernel
theorem dX2_decideProtest_32 : decode cX2_decideProtest 32 = .ok (.aload_n 0, 1) := by decide +kernel
theorem dX2_decideProtest_33 : decode cX2_decideProtest 33 = .ok (.getfield 9, 3) := by decide +kernel
theorem dX2_decideProtest_36 : decode cX2_decideProtest 36 = .ok (.getfield 32, 3) := by decide +kernel
theorem dX2_decideProtest_39 : decode cX2_decideProtest 39 = .ok (.iload_n 1, 1) := by decide +kernel
theorem dX2_decideProtest_40 : decode cX2_decideProtest 40 = .ok (.iconst 3, 1) := by decide +kernel
theorem dX2_decideProtest_41 : decode cX2_decideProtest 41 = .ok (.iload_n 2, 1) := by decide +kernel
theorem dX2_decideProtest_42 : decode cX2_decideProtest 42 = .ok (.ifCond .eq 7, 3) := by decide +kernel
theorem dX2_decideProtest_45 : decode cX2_decideProtest 45 = .ok (.iconst 3, 1) := by decide +kernel
theorem dX2_decideProtest_46 : decode cX2_decideProtest 46 = .ok (.goto 4, 3) := by decide +kernel
theorem dX2_decideProtest_49 : decode cX2_decideProtest 49 = .ok (.iconst 4, 1) := by decide +kernel
theorem dX2_decideProtest_50 : decode cX2_decideProtest 50 = .ok (.invokevirtual 36, 3) := by decide +kernel
theorem dX2_decideProtest_53 : decode cX2_decideProtest 53 = .ok (.iload_n 2, 1) := by decide +kernel
theorem dX2_decideProtest_54 : decode cX2_decideProtest 54 = .ok (.ifCond .eq 24, 3) := by decide +kernel
theorem dX2_decideProtest_57 : decode cX2_decideProtest 57 = .ok (.aload_n 0, 1) := by decide +kernel
theorem dX2_decideProtest_58 : decode cX2_decideProtest 58 = .ok (.getfield 9, 3) := by decide +kernel
theorem dX2_decideProtest_61 : decode cX2_decideProtest 61 = .ok (.aload_n 0, 1) := by decide +kernel
theorem dX2_decideProtest_62 : decode cX2_decideProtest 62 = .ok (.getfield 9, 3) := by decide +kernel
theorem dX2_decideProtest_65 : decode cX2_decideProtest 65 = .ok (.getfield 32, 3) := by decide +kernel
theorem dX2_decideProtest_68 : decode cX2_decideProtest 68 = .ok (.iload_n 1, 1) := by decide +kernel
theorem dX2_decideProtest_69 : decode cX2_decideProtest 69 = .ok (.iconst 1, 1) := by decide +kernel
theorem dX2_decideProtest_70 : decode cX2_decideProtest 70 = .ok (.invokevirtual 52, 3) := by decide +kernel
theorem dX2_decideProtest_73 : decode cX2_decideProtest 73 = .ok (.iconst 4, 1) := by decide +kernel
theorem dX2_decideProtest_74 : decode cX2_decideProtest 74 = .ok (.iconst 1, 1) := by decide +kernel
theorem dX2_decideProtest_75 : decode cX2_decideProtest 75 = .ok (.invokevirtual 59, 3) := by decide +kernel
theorem dX2_decideProtest_78 : decode cX2_decideProtest 78 = .ok (.aload_n 0, 1) := by decide +kernel
theorem dX2_decideProtest_79 : decode cX2_decideProtest 79 = .ok (.getfield 9, 3) := by decide +kernel
theorem dX2_decideProtest_82 : decode cX2_decideProtest 82 = .ok (.aload_n 0, 1) := by decide +kernel
theorem dX2_decideProtest_83 : decode cX2_decideProtest 83 = .ok (.getfield 9, 3) := by decide +kernel
theorem dX2_decideProtest_86 : decode cX2_decideProtest 86 = .ok (.invokevirtual 62, 3) := by decide +kernel
theorem dX2_decideProtest_89 : decode cX2_decideProtest 89 = .ok (.iconst 4, 1) := by decide +kernel
theorem dX2_decideProtest_90 : decode cX2_decideProtest 90 = .ok (.iconst 1, 1) := by decide +kernel
theorem dX2_decideProtest_91 : decode cX2_decideProtest 91 = .ok (.invokevirtual 66, 3) := by decide +kernel
theorem dX2_decideProtest_94 : decode cX2_decideProtest 94 = .ok (.ireturn, 1) := by decide +kernel
theorem dX3_init_0 : decode cX3_init 0 = .ok (.aload_n 0, 1) := by decide +kernel
theorem dX3_init_1 : decode cX3_init 1 = .ok (.invokespecial 3, 3) := by decide +kernel
theorem dX3_init_4 : decode cX3_init 4 = .ok (.aload_n 0, 1) := by decide +kernel
theorem dX3_init_5 : decode cX3_init 5 = .ok (.new 9, 3) := by decide +kernel
theorem dX3_init_8 : decode cX3_init 8 = .ok (.dup, 1) := by decide +kernel
theorem dX3_init_9 : decode cX3_init 9 = .ok (.invokespecial 11, 3) := by decide +kernel
theorem dX3_init_12 : decode cX3_init 12 = .ok (.putfield 12, 3) := by decide +kernel
theorem dX3_init_15 : decode cX3_init 15 = .ok (.return_, 1) := by decide +kernel
theorem dX3_addSign_0 : decode cX3_addSign 0 = .ok (.iload_n 1, 1) := by decide +kernel
theorem dX3_addSign_1 : decode cX3_addSign 1 = .ok (.bipush 32, 2) := by decide +kernel
theorem dX3_addSign_3 : decode cX3_addSign 3 = .ok (.if_icmp .lt 9, 3) := by decide +kernel
theorem dX3_addSign_6 : decode cX3_addSign 6 = .ok (.iload_n 1, 1) := by decide +kernel
theorem dX3_addSign_7 : decode cX3_addSign 7 = .ok (.bipush 126, 2) := by decide +kernel
theorem dX3_addSign_9 : decode cX3_addSign 9 = .ok (.if_icmp .le 6, 3) := by decide +kernel
theorem dX3_addSign_12 : decode cX3_addSign 12 = .ok (.bipush (-2), 2) := by decide +kernel
theorem dX3_addSign_14 : decode cX3_addSign 14 = .ok (.ireturn, 1) := by decide +kernel
theorem dX3_addSign_15 : decode cX3_addSign 15 = .ok (.aload_n 0, 1) := by decide +kernel
theorem dX3_addSign_16 : decode cX3_addSign 16 = .ok (.getfield 12, 3) := by decide +kernel
theorem dX3_addSign_19 : decode cX3_addSign 19 = .ok (.invokevirtual 18, 3) := by decide +kernel
theorem dX3_addSign_22 : decode cX3_addSign 22 = .ok (.bipush 80, 2) := by decide +kernel
theorem dX3_addSign_24 : decode cX3_addSign 24 = .ok (.if_icmp .lt 6, 3) := by decide +kernel
theorem dX3_addSign_27 : decode cX3_addSign 27 = .ok (.bipush (-3), 2) := by decide +kernel
theorem dX3_addSign_29 : decode cX3_addSign 29 = .ok (.ireturn, 1) := by decide +kernel
theorem dX3_addSign_30 : decode cX3_addSign 30 = .ok (.aload_n 0, 1) := by decide +kernel
theorem dX3_addSign_31 : decode cX3_addSign 31 = .ok (.getfield 12, 3) := by decide +kernel
theorem dX3_addSign_34 : decode cX3_addSign 34 = .ok (.iload_n 1, 1) := by decide +kernel
theorem dX3_addSign_35 : decode cX3_addSign 35 = .ok (.i2c, 1) := by decide +kernel
theorem dX3_addSign_36 : decode cX3_addSign 36 = .ok (.invokevirtual 22, 3) := by decide +kernel
theorem dX3_addSign_39 : decode cX3_addSign 39 = .ok (.pop, 1) := by decide +kernel
theorem dX3_addSign_40 : decode cX3_addSign 40 = .ok (.aload_n 0, 1) := by decide +kernel
theorem dX3_addSign_41 : decode cX3_addSign 41 = .ok (.getfield 12, 3) := by decide +kernel
theorem dX3_addSign_44 : decode cX3_addSign 44 = .ok (.invokevirtual 18, 3) := by decide +kernel
theorem dX3_addSign_47 : decode cX3_addSign 47 = .ok (.ireturn, 1) := by decide +kernel
theorem dX3_empty_0 : decode cX3_empty 0 = .ok (.aload_n 0, 1) := by decide +kernel
theorem dX3_empty_1 : decode cX3_empty 1 = .ok (.getfield 12, 3) := by decide +kernel
theorem dX3_empty_4 : decode cX3_empty 4 = .ok (.invokevirtual 18, 3) := by decide +kernel
theorem dX3_empty_7 : decode cX3_empty 7 = .ok (.istore_n 1, 1) := by decide +kernel
theorem dX3_empty_8 : decode cX3_empty 8 = .ok (.aload_n 0, 1) := by decide +kernel
theorem dX3_empty_9 : decode cX3_empty 9 = .ok (.getfield 12, 3) := by decide +kernel
theorem dX3_empty_12 : decode cX3_empty 12 = .ok (.iconst 0, 1) := by decide +kernel
theorem dX3_empty_13 : decode cX3_empty 13 = .ok (.invokevirtual 26, 3) := by decide +kernel
theorem dX3_empty_16 : decode cX3_empty 16 = .ok (.iload_n 1, 1) := by decide +kernel
theorem dX3_empty_17 : decode cX3_empty 17 = .ok (.ireturn, 1) := by decide +kernel
theorem dX3_length_0 : decode cX3_length 0 = .ok (.aload_n 0, 1) := by decide +kernel
theorem dX3_length_1 : decode cX3_length 1 = .ok (.getfield 12, 3) := by decide +kernel
theorem dX3_length_4 : decode cX3_length 4 = .ok (.invokevirtual 18, 3) := by decide +kernel
theorem dX3_length_7 : decode cX3_length 7 = .ok (.ireturn, 1) := by decide +kernel
theorem dX3_signAt_0 : decode cX3_signAt 0 = .ok (.iload_n 1, 1) := by decide +kernel
theorem dX3_signAt_1 : decode cX3_signAt 1 = .ok (.ifCond .lt 25, 3) := by decide +kernel
theorem dX3_signAt_4 : decode cX3_signAt 4 = .ok (.iload_n 1, 1) := by decide +kernel
theorem dX3_signAt_5 : decode cX3_signAt 5 = .ok (.aload_n 0, 1) := by decide +kernel
theorem dX3_signAt_6 : decode cX3_signAt 6 = .ok (.getfield 12, 3) := by decide +kernel
theorem dX3_signAt_9 : decode cX3_signAt 9 = .ok (.invokevirtual 18, 3) := by decide +kernel
theorem dX3_signAt_12 : decode cX3_signAt 12 = .ok (.if_icmp .ge 14, 3) := by decide +kernel
theorem dX3_signAt_15 : decode cX3_signAt 15 = .ok (.aload_n 0, 1) := by decide +kernel
theorem dX3_signAt_16 : decode cX3_signAt 16 = .ok (.getfield 12, 3) := by decide +kernel
theorem dX3_signAt_19 : decode cX3_signAt 19 = .ok (.iload_n 1, 1) := by decide +kernel
theorem dX3_signAt_20 : decode cX3_signAt 20 = .ok (.invokevirtual 30, 3) := by decide +kernel
theorem dX3_signAt_23 : decode cX3_signAt 23 = .ok (.goto 5, 3) := by decide +kernel
theorem dX3_signAt_26 : decode cX3_signAt 26 = .ok (.bipush 59, 2) := by decide +kernel
theorem dX3_signAt_28 : decode cX3_signAt 28 = .ok (.ireturn, 1) := by decide +kernel
theorem dX3_endsEvent_0 : decode cX3_endsEvent 0 = .ok (.aload_n 0, 1) := by decide +kernel
theorem dX3_endsEvent_1 : decode cX3_endsEvent 1 = .ok (.iload_n 1, 1) := by decide +kernel
theorem dX3_endsEvent_2 : decode cX3_endsEvent 2 = .ok (.invokevirtual 34, 3) := by decide +kernel
theorem dX3_endsEvent_5 : decode cX3_endsEvent 5 = .ok (.bipush 59, 2) := by decide +kernel
theorem dX3_endsEvent_7 : decode cX3_endsEvent 7 = .ok (.if_icmp .ne 7, 3) := by decide +kernel
theorem dX3_endsEvent_10 : decode cX3_endsEvent 10 = .ok (.iconst 1, 1) := by decide +kernel
theorem dX3_endsEvent_11 : decode cX3_endsEvent 11 = .ok (.goto 4, 3) := by decide +kernel
theorem dX3_endsEvent_14 : decode cX3_endsEvent 14 = .ok (.iconst 0, 1) := by decide +kernel
theorem dX3_endsEvent_15 : decode cX3_endsEvent 15 = .ok (.ireturn, 1) := by decide +kernel
theorem dX3_digitAt_0 : decode cX3_digitAt 0 = .ok (.aload_n 0, 1) := by decide +kernel
theorem dX3_digitAt_1 : decode cX3_digitAt 1 = .ok (.iload_n 1, 1) := by decide +kernel
theorem dX3_digitAt_2 : decode cX3_digitAt 2 = .ok (.invokevirtual 34, 3) := by decide +kernel
theorem dX3_digitAt_5 : decode cX3_digitAt 5 = .ok (.bipush 48, 2) := by decide +kernel
theorem dX3_digitAt_7 : decode cX3_digitAt 7 = .ok (.isub, 1) := by decide +kernel
theorem dX3_digitAt_8 : decode cX3_digitAt 8 = .ok (.ireturn, 1) := by decide +kernel
theorem dX3_numberAt_0 : decode cX3_numberAt 0 = .ok (.iconst 0, 1) := by decide +kernel
theorem dX3_numberAt_1 : decode cX3_numberAt 1 = .ok (.istore_n 3, 1) := by decide +kernel
theorem dX3_numberAt_2 : decode cX3_numberAt 2 = .ok (.iload_n 1, 1) := by decide +kernel
theorem dX3_numberAt_3 : decode cX3_numberAt 3 = .ok (.istore 4, 2) := by decide +kernel
theorem dX3_numberAt_5 : decode cX3_numberAt 5 = .ok (.iload 4, 2) := by decide +kernel
theorem dX3_numberAt_7 : decode cX3_numberAt 7 = .ok (.iload_n 2, 1) := by decide +kernel
theorem dX3_numberAt_8 : decode cX3_numberAt 8 = .ok (.if_icmp .ge 21, 3) := by decide +kernel
theorem dX3_numberAt_11 : decode cX3_numberAt 11 = .ok (.bipush 10, 2) := by decide +kernel
theorem dX3_numberAt_13 : decode cX3_numberAt 13 = .ok (.iload_n 3, 1) := by decide +kernel
theorem dX3_numberAt_14 : decode cX3_numberAt 14 = .ok (.imul, 1) := by decide +kernel
theorem dX3_numberAt_15 : decode cX3_numberAt 15 = .ok (.aload_n 0, 1) := by decide +kernel
theorem dX3_numberAt_16 : decode cX3_numberAt 16 = .ok (.iload 4, 2) := by decide +kernel
theorem dX3_numberAt_18 : decode cX3_numberAt 18 = .ok (.invokevirtual 37, 3) := by decide +kernel
theorem dX3_numberAt_21 : decode cX3_numberAt 21 = .ok (.iadd, 1) := by decide +kernel
theorem dX3_numberAt_22 : decode cX3_numberAt 22 = .ok (.istore_n 3, 1) := by decide +kernel
theorem dX3_numberAt_23 : decode cX3_numberAt 23 = .ok (.iinc 4 1, 3) := by decide +kernel
theorem dX3_numberAt_26 : decode cX3_numberAt 26 = .ok (.goto (-21), 3) := by decide +kernel
theorem dX3_numberAt_29 : decode cX3_numberAt 29 = .ok (.iload_n 3, 1) := by decide +kernel
theorem dX3_numberAt_30 : decode cX3_numberAt 30 = .ok (.ireturn, 1) := by decide +kernel
theorem dX3_firstFault_0 : decode cX3_firstFault 0 = .ok (.iconst 1, 1) := by decide +kernel
theorem dX3_firstFault_1 : decode cX3_firstFault 1 = .ok (.istore_n 1, 1) := by decide +kernel
theorem dX3_firstFault_2 : decode cX3_firstFault 2 = .ok (.iconst 0, 1) := by decide +kernel
theorem dX3_firstFault_3 : decode cX3_firstFault 3 = .ok (.istore_n 2, 1) := by decide +kernel
theorem dX3_firstFault_4 : decode cX3_firstFault 4 = .ok (.iload_n 2, 1) := by decide +kernel
theorem dX3_firstFault_5 : decode cX3_firstFault 5 = .ok (.aload_n 0, 1) := by decide +kernel
theorem dX3_firstFault_6 : decode cX3_firstFault 6 = .ok (.getfield 12, 3) := by decide +kernel
theorem dX3_firstFault_9 : decode cX3_firstFault 9 = .ok (.invokevirtual 18, 3) := by decide +kernel
theorem dX3_firstFault_12 : decode cX3_firstFault 12 = .ok (.if_icmp .ge 29, 3) := by decide +kernel
theorem dX3_firstFault_15 : decode cX3_firstFault 15 = .ok (.aload_n 0, 1) := by decide +kernel
theorem dX3_firstFault_16 : decode cX3_firstFault 16 = .ok (.iload_n 1, 1) := by decide +kernel
theorem dX3_firstFault_17 : decode cX3_firstFault 17 = .ok (.aload_n 0, 1) := by decide +kernel
theorem dX3_firstFault_18 : decode cX3_firstFault 18 = .ok (.getfield 12, 3) := by decide +kernel
theorem dX3_firstFault_21 : decode cX3_firstFault 21 = .ok (.iload_n 2, 1) := by decide +kernel
theorem dX3_firstFault_22 : decode cX3_firstFault 22 = .ok (.invokevirtual 30, 3) := by decide +kernel
theorem dX3_firstFault_25 : decode cX3_firstFault 25 = .ok (.invokevirtual 41, 3) := by decide +kernel
theorem dX3_firstFault_28 : decode cX3_firstFault 28 = .ok (.istore_n 1, 1) := by decide +kernel
theorem dX3_firstFault_29 : decode cX3_firstFault 29 = .ok (.iload_n 1, 1) := by decide +kernel
theorem dX3_firstFault_30 : decode cX3_firstFault 30 = .ok (.ifCond .ne 5, 3) := by decide +kernel
theorem dX3_firstFault_33 : decode cX3_firstFault 33 = .ok (.iload_n 2, 1) := by decide +kernel
theorem dX3_firstFault_34 : decode cX3_firstFault 34 = .ok (.ireturn, 1) := by decide +kernel
theorem dX3_firstFault_35 : decode cX3_firstFault 35 = .ok (.iinc 2 1, 3) := by decide +kernel
theorem dX3_firstFault_38 : decode cX3_firstFault 38 = .ok (.goto (-34), 3) := by decide +kernel
theorem dX3_firstFault_41 : decode cX3_firstFault 41 = .ok (.aload_n 0, 1) := by decide +kernel
theorem dX3_firstFault_42 : decode cX3_firstFault 42 = .ok (.iload_n 1, 1) := by decide +kernel
theorem dX3_firstFault_43 : decode cX3_firstFault 43 = .ok (.invokevirtual 45, 3) := by decide +kernel
theorem dX3_firstFault_46 : decode cX3_firstFault 46 = .ok (.ifCond .eq 8, 3) := by decide +kernel
theorem dX3_firstFault_49 : decode cX3_firstFault 49 = .ok (.bipush (-5), 2) := by decide +kernel
theorem dX3_firstFault_51 : decode cX3_firstFault 51 = .ok (.goto 10, 3) := by decide +kernel
theorem dX3_firstFault_54 : decode cX3_firstFault 54 = .ok (.aload_n 0, 1) := by decide +kernel
theorem dX3_firstFault_55 : decode cX3_firstFault 55 = .ok (.getfield 12, 3) := by decide +kernel
theorem dX3_firstFault_58 : decode cX3_firstFault 58 = .ok (.invokevirtual 18, 3) := by decide +kernel
theorem dX3_firstFault_61 : decode cX3_firstFault 61 = .ok (.ireturn, 1) := by decide +kernel
theorem dX3_canEnd_0 : decode cX3_canEnd 0 = .ok (.iload_n 1, 1) := by decide +kernel
theorem dX3_canEnd_1 : decode cX3_canEnd 1 = .ok (.iconst 3, 1) := by decide +kernel
theorem dX3_canEnd_2 : decode cX3_canEnd 2 = .ok (.if_icmp .eq 13, 3) := by decide +kernel
theorem dX3_canEnd_5 : decode cX3_canEnd 5 = .ok (.iload_n 1, 1) := by decide +kernel
theorem dX3_canEnd_6 : decode cX3_canEnd 6 = .ok (.iconst 4, 1) := by decide +kernel
theorem dX3_canEnd_7 : decode cX3_canEnd 7 = .ok (.if_icmp .eq 8, 3) := by decide +kernel
theorem dX3_canEnd_10 : decode cX3_canEnd 10 = .ok (.iload_n 1, 1) := by decide +kernel
theorem dX3_canEnd_11 : decode cX3_canEnd 11 = .ok (.iconst 5, 1) := by decide +kernel
theorem dX3_canEnd_12 : decode cX3_canEnd 12 = .ok (.if_icmp .ne 7, 3) := by decide +kernel
theorem dX3_canEnd_15 : decode cX3_canEnd 15 = .ok (.iconst 1, 1) := by decide +kernel
theorem dX3_canEnd_16 : decode cX3_canEnd 16 = .ok (.goto 4, 3) := by decide +kernel
theorem dX3_canEnd_19 : decode cX3_canEnd 19 = .ok (.iconst 0, 1) := by decide +kernel
theorem dX3_canEnd_20 : decode cX3_canEnd 20 = .ok (.ireturn, 1) := by decide +kernel
theorem dX3_expectedAfter_0 : decode cX3_expectedAfter 0 = .ok (.iload_n 1, 1) := by decide +kernel
theorem dX3_expectedAfter_1 : decode cX3_expectedAfter 1 = .ok (.tableswitch 199 1 9 #[51, 57, 75, 97, 119, 125, 143, 162, 181], 51) := by decide +kernel
theorem dX3_expectedAfter_52 : decode cX3_expectedAfter 52 = .ok (.aload_n 0, 1) := by decide +kernel
theorem dX3_expectedAfter_53 : decode cX3_expectedAfter 53 = .ok (.iload_n 2, 1) := by decide +kernel
theorem dX3_expectedAfter_54 : decode cX3_expectedAfter 54 = .ok (.invokevirtual 49, 3) := by decide +kernel
theorem dX3_expectedAfter_57 : decode cX3_expectedAfter 57 = .ok (.ireturn, 1) := by decide +kernel
theorem dX3_expectedAfter_58 : decode cX3_expectedAfter 58 = .ok (.aload_n 0, 1) := by decide +kernel
theorem dX3_expectedAfter_59 : decode cX3_expectedAfter 59 = .ok (.iload_n 2, 1) := by decide +kernel
theorem dX3_expectedAfter_60 : decode cX3_expectedAfter 60 = .ok (.bipush 49, 2) := by decide +kernel
theorem dX3_expectedAfter_62 : decode cX3_expectedAfter 62 = .ok (.bipush 57, 2) := by decide +kernel
theorem dX3_expectedAfter_64 : decode cX3_expectedAfter 64 = .ok (.invokevirtual 53, 3) := by decide +kernel
theorem dX3_expectedAfter_67 : decode cX3_expectedAfter 67 = .ok (.ifCond .eq 7, 3) := by decide +kernel
theorem dX3_expectedAfter_70 : decode cX3_expectedAfter 70 = .ok (.iconst 3, 1) := by decide +kernel
theorem dX3_expectedAfter_71 : decode cX3_expectedAfter 71 = .ok (.goto 4, 3) := by decide +kernel
theorem dX3_expectedAfter_74 : decode cX3_expectedAfter 74 = .ok (.iconst 0, 1) := by decide +kernel
theorem dX3_expectedAfter_75 : decode cX3_expectedAfter 75 = .ok (.ireturn, 1) := by decide +kernel
theorem dX3_expectedAfter_76 : decode cX3_expectedAfter 76 = .ok (.aload_n 0, 1) := by decide +kernel
theorem dX3_expectedAfter_77 : decode cX3_expectedAfter 77 = .ok (.iload_n 2, 1) := by decide +kernel
theorem dX3_expectedAfter_78 : decode cX3_expectedAfter 78 = .ok (.bipush 48, 2) := by decide +kernel
theorem dX3_expectedAfter_80 : decode cX3_expectedAfter 80 = .ok (.bipush 57, 2) := by decide +kernel
theorem dX3_expectedAfter_82 : decode cX3_expectedAfter 82 = .ok (.invokevirtual 53, 3) := by decide +kernel
theorem dX3_expectedAfter_85 : decode cX3_expectedAfter 85 = .ok (.ifCond .eq 7, 3) := by decide +kernel
theorem dX3_expectedAfter_88 : decode cX3_expectedAfter 88 = .ok (.iconst 4, 1) := by decide +kernel
theorem dX3_expectedAfter_89 : decode cX3_expectedAfter 89 = .ok (.goto 8, 3) := by decide +kernel
theorem dX3_expectedAfter_92 : decode cX3_expectedAfter 92 = .ok (.aload_n 0, 1) := by decide +kernel
theorem dX3_expectedAfter_93 : decode cX3_expectedAfter 93 = .ok (.iload_n 2, 1) := by decide +kernel
theorem dX3_expectedAfter_94 : decode cX3_expectedAfter 94 = .ok (.invokevirtual 57, 3) := by decide +kernel
theorem dX3_expectedAfter_97 : decode cX3_expectedAfter 97 = .ok (.ireturn, 1) := by decide +kernel
theorem dX3_expectedAfter_98 : decode cX3_expectedAfter 98 = .ok (.aload_n 0, 1) := by decide +kernel
theorem dX3_expectedAfter_99 : decode cX3_expectedAfter 99 = .ok (.iload_n 2, 1) := by decide +kernel
theorem dX3_expectedAfter_100 : decode cX3_expectedAfter 100 = .ok (.bipush 48, 2) := by decide +kernel
theorem dX3_expectedAfter_102 : decode cX3_expectedAfter 102 = .ok (.bipush 57, 2) := by decide +kernel
theorem dX3_expectedAfter_104 : decode cX3_expectedAfter 104 = .ok (.invokevirtual 53, 3) := by decide +kernel
theorem dX3_expectedAfter_107 : decode cX3_expectedAfter 107 = .ok (.ifCond .eq 7, 3) := by decide +kernel
theorem dX3_expectedAfter_110 : decode cX3_expectedAfter 110 = .ok (.iconst 5, 1) := by decide +kernel
theorem dX3_expectedAfter_111 : decode cX3_expectedAfter 111 = .ok (.goto 8, 3) := by decide +kernel
theorem dX3_expectedAfter_114 : decode cX3_expectedAfter 114 = .ok (.aload_n 0, 1) := by decide +kernel
theorem dX3_expectedAfter_115 : decode cX3_expectedAfter 115 = .ok (.iload_n 2, 1) := by decide +kernel
theorem dX3_expectedAfter_116 : decode cX3_expectedAfter 116 = .ok (.invokevirtual 57, 3) := by decide +kernel
theorem dX3_expectedAfter_119 : decode cX3_expectedAfter 119 = .ok (.ireturn, 1) := by decide +kernel
theorem dX3_expectedAfter_120 : decode cX3_expectedAfter 120 = .ok (.aload_n 0, 1) := by decide +kernel
theorem dX3_expectedAfter_121 : decode cX3_expectedAfter 121 = .ok (.iload_n 2, 1) := by decide +kernel
theorem dX3_expectedAfter_122 : decode cX3_expectedAfter 122 = .ok (.invokevirtual 57, 3) := by decide +kernel
theorem dX3_expectedAfter_125 : decode cX3_expectedAfter 125 = .ok (.ireturn, 1) := by decide +kernel
theorem dX3_expectedAfter_126 : decode cX3_expectedAfter 126 = .ok (.aload_n 0, 1) := by decide +kernel
theorem dX3_expectedAfter_127 : decode cX3_expectedAfter 127 = .ok (.iload_n 2, 1) := by decide +kernel
theorem dX3_expectedAfter_128 : decode cX3_expectedAfter 128 = .ok (.bipush 48, 2) := by decide +kernel
theorem dX3_expectedAfter_130 : decode cX3_expectedAfter 130 = .ok (.bipush 56, 2) := by decide +kernel
theorem dX3_expectedAfter_132 : decode cX3_expectedAfter 132 = .ok (.invokevirtual 53, 3) := by decide +kernel
theorem dX3_expectedAfter_135 : decode cX3_expectedAfter 135 = .ok (.ifCond .eq 7, 3) := by decide +kernel
theorem dX3_expectedAfter_138 : decode cX3_expectedAfter 138 = .ok (.iconst 5, 1) := by decide +kernel
theorem dX3_expectedAfter_139 : decode cX3_expectedAfter 139 = .ok (.goto 4, 3) := by decide +kernel
theorem dX3_expectedAfter_142 : decode cX3_expectedAfter 142 = .ok (.iconst 0, 1) := by decide +kernel
theorem dX3_expectedAfter_143 : decode cX3_expectedAfter 143 = .ok (.ireturn, 1) := by decide +kernel
theorem dX3_expectedAfter_144 : decode cX3_expectedAfter 144 = .ok (.aload_n 0, 1) := by decide +kernel
theorem dX3_expectedAfter_145 : decode cX3_expectedAfter 145 = .ok (.iload_n 2, 1) := by decide +kernel
theorem dX3_expectedAfter_146 : decode cX3_expectedAfter 146 = .ok (.bipush 48, 2) := by decide +kernel
theorem dX3_expectedAfter_148 : decode cX3_expectedAfter 148 = .ok (.bipush 56, 2) := by decide +kernel
theorem dX3_expectedAfter_150 : decode cX3_expectedAfter 150 = .ok (.invokevirtual 53, 3) := by decide +kernel
theorem dX3_expectedAfter_153 : decode cX3_expectedAfter 153 = .ok (.ifCond .eq 8, 3) := by decide +kernel
theorem dX3_expectedAfter_156 : decode cX3_expectedAfter 156 = .ok (.bipush 6, 2) := by decide +kernel
theorem dX3_expectedAfter_158 : decode cX3_expectedAfter 158 = .ok (.goto 4, 3) := by decide +kernel
theorem dX3_expectedAfter_161 : decode cX3_expectedAfter 161 = .ok (.iconst 0, 1) := by decide +kernel
theorem dX3_expectedAfter_162 : decode cX3_expectedAfter 162 = .ok (.ireturn, 1) := by decide +kernel
theorem dX3_expectedAfter_163 : decode cX3_expectedAfter 163 = .ok (.aload_n 0, 1) := by decide +kernel
theorem dX3_expectedAfter_164 : decode cX3_expectedAfter 164 = .ok (.iload_n 2, 1) := by decide +kernel
theorem dX3_expectedAfter_165 : decode cX3_expectedAfter 165 = .ok (.bipush 48, 2) := by decide +kernel
theorem dX3_expectedAfter_167 : decode cX3_expectedAfter 167 = .ok (.bipush 56, 2) := by decide +kernel
theorem dX3_expectedAfter_169 : decode cX3_expectedAfter 169 = .ok (.invokevirtual 53, 3) := by decide +kernel
theorem dX3_expectedAfter_172 : decode cX3_expectedAfter 172 = .ok (.ifCond .eq 8, 3) := by decide +kernel
theorem dX3_expectedAfter_175 : decode cX3_expectedAfter 175 = .ok (.bipush 9, 2) := by decide +kernel
theorem dX3_expectedAfter_177 : decode cX3_expectedAfter 177 = .ok (.goto 4, 3) := by decide +kernel
theorem dX3_expectedAfter_180 : decode cX3_expectedAfter 180 = .ok (.iconst 0, 1) := by decide +kernel
theorem dX3_expectedAfter_181 : decode cX3_expectedAfter 181 = .ok (.ireturn, 1) := by decide +kernel
theorem dX3_expectedAfter_182 : decode cX3_expectedAfter 182 = .ok (.aload_n 0, 1) := by decide +kernel
theorem dX3_expectedAfter_183 : decode cX3_expectedAfter 183 = .ok (.iload_n 2, 1) := by decide +kernel
theorem dX3_expectedAfter_184 : decode cX3_expectedAfter 184 = .ok (.bipush 48, 2) := by decide +kernel
theorem dX3_expectedAfter_186 : decode cX3_expectedAfter 186 = .ok (.bipush 52, 2) := by decide +kernel
theorem dX3_expectedAfter_188 : decode cX3_expectedAfter 188 = .ok (.invokevirtual 53, 3) := by decide +kernel
theorem dX3_expectedAfter_191 : decode cX3_expectedAfter 191 = .ok (.ifCond .eq 7, 3) := by decide +kernel
theorem dX3_expectedAfter_194 : decode cX3_expectedAfter 194 = .ok (.iconst 5, 1) := by decide +kernel
theorem dX3_expectedAfter_195 : decode cX3_expectedAfter 195 = .ok (.goto 4, 3) := by decide +kernel
theorem dX3_expectedAfter_198 : decode cX3_expectedAfter 198 = .ok (.iconst 0, 1) := by decide +kernel
theorem dX3_expectedAfter_199 : decode cX3_expectedAfter 199 = .ok (.ireturn, 1) := by decide +kernel
theorem dX3_expectedAfter_200 : decode cX3_expectedAfter 200 = .ok (.iconst 0, 1) := by decide +kernel
theorem dX3_expectedAfter_201 : decode cX3_expectedAfter 201 = .ok (.ireturn, 1) := by decide +kernel
theorem dX3_expectedAfterLetter_0 : decode cX3_expectedAfterLetter 0 = .ok (.iload_n 1, 1) := by decide +kernel
theorem dX3_expectedAfterLetter_1 : decode cX3_expectedAfterLetter 1 = .ok (.lookupswitch 62 #[(43, 51), (98, 56), (104, 59), (108, 53), (114, 53)], 51) := by decide +kernel
theorem dX3_expectedAfterLetter_52 : decode cX3_expectedAfterLetter 52 = .ok (.iconst 2, 1) := by decide +kernel
theorem dX3_expectedAfterLetter_53 : decode cX3_expectedAfterLetter 53 = .ok (.ireturn, 1) := by decide +kernel
theorem dX3_expectedAfterLetter_54 : decode cX3_expectedAfterLetter 54 = .ok (.bipush 6, 2) := by decide +kernel
theorem dX3_expectedAfterLetter_56 : decode cX3_expectedAfterLetter 56 = .ok (.ireturn, 1) := by decide +kernel
theorem dX3_expectedAfterLetter_57 : decode cX3_expectedAfterLetter 57 = .ok (.bipush 8, 2) := by decide +kernel
theorem dX3_expectedAfterLetter_59 : decode cX3_expectedAfterLetter 59 = .ok (.ireturn, 1) := by decide +kernel
theorem dX3_expectedAfterLetter_60 : decode cX3_expectedAfterLetter 60 = .ok (.bipush 7, 2) := by decide +kernel
theorem dX3_expectedAfterLetter_62 : decode cX3_expectedAfterLetter 62 = .ok (.ireturn, 1) := by decide +kernel
theorem dX3_expectedAfterLetter_63 : decode cX3_expectedAfterLetter 63 = .ok (.iconst 0, 1) := by decide +kernel
theorem dX3_expectedAfterLetter_64 : decode cX3_expectedAfterLetter 64 = .ok (.ireturn, 1) := by decide +kernel
theorem dX3_expectedAfterEvent_0 : decode cX3_expectedAfterEvent 0 = .ok (.iload_n 1, 1) := by decide +kernel
theorem dX3_expectedAfterEvent_1 : decode cX3_expectedAfterEvent 1 = .ok (.bipush 59, 2) := by decide +kernel
theorem dX3_expectedAfterEvent_3 : decode cX3_expectedAfterEvent 3 = .ok (.if_icmp .ne 7, 3) := by decide +kernel
theorem dX3_expectedAfterEvent_6 : decode cX3_expectedAfterEvent 6 = .ok (.iconst 1, 1) := by decide +kernel
theorem dX3_expectedAfterEvent_7 : decode cX3_expectedAfterEvent 7 = .ok (.goto 4, 3) := by decide +kernel
theorem dX3_expectedAfterEvent_10 : decode cX3_expectedAfterEvent 10 = .ok (.iconst 0, 1) := by decide +kernel
theorem dX3_expectedAfterEvent_11 : decode cX3_expectedAfterEvent 11 = .ok (.ireturn, 1) := by decide +kernel
theorem dX3_isIn_0 : decode cX3_isIn 0 = .ok (.iload_n 1, 1) := by decide +kernel
theorem dX3_isIn_1 : decode cX3_isIn 1 = .ok (.iload_n 2, 1) := by decide +kernel
theorem dX3_isIn_2 : decode cX3_isIn 2 = .ok (.if_icmp .lt 12, 3) := by decide +kernel
theorem dX3_isIn_5 : decode cX3_isIn 5 = .ok (.iload_n 1, 1) := by decide +kernel
theorem dX3_isIn_6 : decode cX3_isIn 6 = .ok (.iload_n 3, 1) := by decide +kernel
theorem dX3_isIn_7 : decode cX3_isIn 7 = .ok (.if_icmp .gt 7, 3) := by decide +kernel
theorem dX3_isIn_10 : decode cX3_isIn 10 = .ok (.iconst 1, 1) := by decide +kernel
theorem dX3_isIn_11 : decode cX3_isIn 11 = .ok (.goto 4, 3) := by decide +kernel
theorem dX3_isIn_14 : decode cX3_isIn 14 = .ok (.iconst 0, 1) := by decide +kernel
theorem dX3_isIn_15 : decode cX3_isIn 15 = .ok (.ireturn, 1) := by decide +kernel
theorem dX4_init_0 : decode cX4_init 0 = .ok (.aload_n 0, 1) := by decide +kernel
theorem dX4_init_1 : decode cX4_init 1 = .ok (.invokespecial 3, 3) := by decide +kernel
theorem dX4_init_4 : decode cX4_init 4 = .ok (.aload_n 0, 1) := by decide +kernel
theorem dX4_init_5 : decode cX4_init 5 = .ok (.aload_n 1, 1) := by decide +kernel
theorem dX4_init_6 : decode cX4_init 6 = .ok (.putfield 9, 3) := by decide +kernel
theorem dX4_init_9 : decode cX4_init 9 = .ok (.aload_n 0, 1) := by decide +kernel
theorem dX4_init_10 : decode cX4_init 10 = .ok (.new 15, 3) := by decide +kernel
theorem dX4_init_13 : decode cX4_init 13 = .ok (.dup, 1) := by decide +kernel
theorem dX4_init_14 : decode cX4_init 14 = .ok (.bipush 9, 2) := by decide +kernel
theorem dX4_init_16 : decode cX4_init 16 = .ok (.iconst 1, 1) := by decide +kernel
theorem dX4_init_17 : decode cX4_init 17 = .ok (.invokespecial 17, 3) := by decide +kernel
theorem dX4_init_20 : decode cX4_init 20 = .ok (.putfield 20, 3) := by decide +kernel
theorem dX4_init_23 : decode cX4_init 23 = .ok (.aload_n 0, 1) := by decide +kernel
theorem dX4_init_24 : decode cX4_init 24 = .ok (.new 15, 3) := by decide +kernel
theorem dX4_init_27 : decode cX4_init 27 = .ok (.dup, 1) := by decide +kernel
theorem dX4_init_28 : decode cX4_init 28 = .ok (.bipush 6, 2) := by decide +kernel
theorem dX4_init_30 : decode cX4_init 30 = .ok (.bipush 9, 2) := by decide +kernel
theorem dX4_init_32 : decode cX4_init 32 = .ok (.invokespecial 17, 3) := by decide +kernel
theorem dX4_init_35 : decode cX4_init 35 = .ok (.putfield 24, 3) := by decide +kernel
theorem dX4_init_38 : decode cX4_init 38 = .ok (.aload_n 0, 1) := by decide +kernel
theorem dX4_init_39 : decode cX4_init 39 = .ok (.new 15, 3) := by decide +kernel
theorem dX4_init_42 : decode cX4_init 42 = .ok (.dup, 1) := by decide +kernel
theorem dX4_init_43 : decode cX4_init 43 = .ok (.bipush 9, 2) := by decide +kernel
theorem dX4_init_45 : decode cX4_init 45 = .ok (.iconst 4, 1) := by decide +kernel
theorem dX4_init_46 : decode cX4_init 46 = .ok (.invokespecial 17, 3) := by decide +kernel
theorem dX4_init_49 : decode cX4_init 49 = .ok (.putfield 27, 3) := by decide +kernel
theorem dX4_init_52 : decode cX4_init 52 = .ok (.aload_n 0, 1) := by decide +kernel
theorem dX4_init_53 : decode cX4_init 53 = .ok (.new 15, 3) := by decide +kernel
theorem dX4_init_56 : decode cX4_init 56 = .ok (.dup, 1) := by decide +kernel
theorem dX4_init_57 : decode cX4_init 57 = .ok (.bipush 9, 2) := by decide +kernel
theorem dX4_init_59 : decode cX4_init 59 = .ok (.bipush 10, 2) := by decide +kernel
theorem dX4_init_61 : decode cX4_init 61 = .ok (.invokespecial 17, 3) := by decide +kernel
theorem dX4_init_64 : decode cX4_init 64 = .ok (.putfield 30, 3) := by decide +kernel
theorem dX4_init_67 : decode cX4_init 67 = .ok (.return_, 1) := by decide +kernel
theorem dX4_readTimes_0 : decode cX4_readTimes 0 = .ok (.iconst 0, 1) := by decide +kernel
theorem dX4_readTimes_1 : decode cX4_readTimes 1 = .ok (.istore_n 2, 1) := by decide +kernel
theorem dX4_readTimes_2 : decode cX4_readTimes 2 = .ok (.iload_n 2, 1) := by decide +kernel
theorem dX4_readTimes_3 : decode cX4_readTimes 3 = .ok (.aload_n 0, 1) := by decide +kernel
theorem dX4_readTimes_4 : decode cX4_readTimes 4 = .ok (.getfield 9, 3) := by decide +kernel
theorem dX4_readTimes_7 : decode cX4_readTimes 7 = .ok (.getfield 33, 3) := by decide +kernel
theorem dX4_readTimes_10 : decode cX4_readTimes 10 = .ok (.if_icmp .ge 66, 3) := by decide +kernel
theorem dX4_readTimes_13 : decode cX4_readTimes 13 = .ok (.aload_n 0, 1) := by decide +kernel
theorem dX4_readTimes_14 : decode cX4_readTimes 14 = .ok (.getfield 9, 3) := by decide +kernel
theorem dX4_readTimes_17 : decode cX4_readTimes 17 = .ok (.getfield 39, 3) := by decide +kernel
theorem dX4_readTimes_20 : decode cX4_readTimes 20 = .ok (.aload_n 0, 1) := by decide +kernel
theorem dX4_readTimes_21 : decode cX4_readTimes 21 = .ok (.getfield 9, 3) := by decide +kernel
theorem dX4_readTimes_24 : decode cX4_readTimes 24 = .ok (.iload_n 1, 1) := by decide +kernel
theorem dX4_readTimes_25 : decode cX4_readTimes 25 = .ok (.iload_n 2, 1) := by decide +kernel
theorem dX4_readTimes_26 : decode cX4_readTimes 26 = .ok (.invokevirtual 42, 3) := by decide +kernel
theorem dX4_readTimes_29 : decode cX4_readTimes 29 = .ok (.iconst 4, 1) := by decide +kernel
theorem dX4_readTimes_30 : decode cX4_readTimes 30 = .ok (.invokevirtual 46, 3) := by decide +kernel
theorem dX4_readTimes_33 : decode cX4_readTimes 33 = .ok (.iconst 1, 1) := by decide +kernel
theorem dX4_readTimes_34 : decode cX4_readTimes 34 = .ok (.if_icmp .ne 7, 3) := by decide +kernel
theorem dX4_readTimes_37 : decode cX4_readTimes 37 = .ok (.iconst 1, 1) := by decide +kernel
theorem dX4_readTimes_38 : decode cX4_readTimes 38 = .ok (.goto 4, 3) := by decide +kernel
theorem dX4_readTimes_41 : decode cX4_readTimes 41 = .ok (.iconst 0, 1) := by decide +kernel
theorem dX4_readTimes_42 : decode cX4_readTimes 42 = .ok (.istore_n 3, 1) := by decide +kernel
theorem dX4_readTimes_43 : decode cX4_readTimes 43 = .ok (.aload_n 0, 1) := by decide +kernel
theorem dX4_readTimes_44 : decode cX4_readTimes 44 = .ok (.getfield 20, 3) := by decide +kernel
theorem dX4_readTimes_47 : decode cX4_readTimes 47 = .ok (.iload_n 2, 1) := by decide +kernel
theorem dX4_readTimes_48 : decode cX4_readTimes 48 = .ok (.iconst 0, 1) := by decide +kernel
theorem dX4_readTimes_49 : decode cX4_readTimes 49 = .ok (.iload_n 3, 1) := by decide +kernel
theorem dX4_readTimes_50 : decode cX4_readTimes 50 = .ok (.ifCond .eq 8, 3) := by decide +kernel
theorem dX4_readTimes_53 : decode cX4_readTimes 53 = .ok (.bipush (-5), 2) := by decide +kernel
theorem dX4_readTimes_55 : decode cX4_readTimes 55 = .ok (.goto 12, 3) := by decide +kernel
theorem dX4_readTimes_58 : decode cX4_readTimes 58 = .ok (.aload_n 0, 1) := by decide +kernel
theorem dX4_readTimes_59 : decode cX4_readTimes 59 = .ok (.getfield 9, 3) := by decide +kernel
theorem dX4_readTimes_62 : decode cX4_readTimes 62 = .ok (.iload_n 1, 1) := by decide +kernel
theorem dX4_readTimes_63 : decode cX4_readTimes 63 = .ok (.iload_n 2, 1) := by decide +kernel
theorem dX4_readTimes_64 : decode cX4_readTimes 64 = .ok (.invokevirtual 49, 3) := by decide +kernel
theorem dX4_readTimes_67 : decode cX4_readTimes 67 = .ok (.invokevirtual 52, 3) := by decide +kernel
theorem dX4_readTimes_70 : decode cX4_readTimes 70 = .ok (.iinc 2 1, 3) := by decide +kernel
theorem dX4_readTimes_73 : decode cX4_readTimes 73 = .ok (.goto (-71), 3) := by decide +kernel
theorem dX4_readTimes_76 : decode cX4_readTimes 76 = .ok (.return_, 1) := by decide +kernel
theorem dX4_place_0 : decode cX4_place 0 = .ok (.aload_n 0, 1) := by decide +kernel
theorem dX4_place_1 : decode cX4_place 1 = .ok (.getfield 20, 3) := by decide +kernel
theorem dX4_place_4 : decode cX4_place 4 = .ok (.iload_n 1, 1) := by decide +kernel
theorem dX4_place_5 : decode cX4_place 5 = .ok (.iconst 0, 1) := by decide +kernel
theorem dX4_place_6 : decode cX4_place 6 = .ok (.invokevirtual 46, 3) := by decide +kernel
theorem dX4_place_9 : decode cX4_place 9 = .ok (.istore_n 2, 1) := by decide +kernel
theorem dX4_place_10 : decode cX4_place 10 = .ok (.iload_n 2, 1) := by decide +kernel
theorem dX4_place_11 : decode cX4_place 11 = .ok (.bipush (-5), 2) := by decide +kernel
theorem dX4_place_13 : decode cX4_place 13 = .ok (.if_icmp .ne 6, 3) := by decide +kernel
theorem dX4_place_16 : decode cX4_place 16 = .ok (.bipush (-5), 2) := by decide +kernel
theorem dX4_place_18 : decode cX4_place 18 = .ok (.ireturn, 1) := by decide +kernel
theorem dX4_place_19 : decode cX4_place 19 = .ok (.iconst 1, 1) := by decide +kernel
theorem dX4_place_20 : decode cX4_place 20 = .ok (.istore_n 3, 1) := by decide +kernel
theorem dX4_place_21 : decode cX4_place 21 = .ok (.iconst 0, 1) := by decide +kernel
theorem dX4_place_22 : decode cX4_place 22 = .ok (.istore 4, 2) := by decide +kernel
theorem dX4_place_24 : decode cX4_place 24 = .ok (.iload 4, 2) := by decide +kernel
theorem dX4_place_26 : decode cX4_place 26 = .ok (.aload_n 0, 1) := by decide +kernel
theorem dX4_place_27 : decode cX4_place 27 = .ok (.getfield 9, 3) := by decide +kernel
theorem dX4_place_30 : decode cX4_place 30 = .ok (.getfield 33, 3) := by decide +kernel
theorem dX4_place_33 : decode cX4_place 33 = .ok (.if_icmp .ge 37, 3) := by decide +kernel
theorem dX4_place_36 : decode cX4_place 36 = .ok (.aload_n 0, 1) := by decide +kernel
theorem dX4_place_37 : decode cX4_place 37 = .ok (.getfield 20, 3) := by decide +kernel
theorem dX4_place_40 : decode cX4_place 40 = .ok (.iload 4, 2) := by decide +kernel
theorem dX4_place_42 : decode cX4_place 42 = .ok (.iconst 0, 1) := by decide +kernel
theorem dX4_place_43 : decode cX4_place 43 = .ok (.invokevirtual 46, 3) := by decide +kernel
theorem dX4_place_46 : decode cX4_place 46 = .ok (.istore 5, 2) := by decide +kernel
theorem dX4_place_48 : decode cX4_place 48 = .ok (.iload 5, 2) := by decide +kernel
theorem dX4_place_50 : decode cX4_place 50 = .ok (.bipush (-5), 2) := by decide +kernel
theorem dX4_place_52 : decode cX4_place 52 = .ok (.if_icmp .eq 12, 3) := by decide +kernel
theorem dX4_place_55 : decode cX4_place 55 = .ok (.iload 5, 2) := by decide +kernel
theorem dX4_place_57 : decode cX4_place 57 = .ok (.iload_n 2, 1) := by decide +kernel
theorem dX4_place_58 : decode cX4_place 58 = .ok (.if_icmp .ge 6, 3) := by decide +kernel
theorem dX4_place_61 : decode cX4_place 61 = .ok (.iinc 3 1, 3) := by decide +kernel
theorem dX4_place_64 : decode cX4_place 64 = .ok (.iinc 4 1, 3) := by decide +kernel
theorem dX4_place_67 : decode cX4_place 67 = .ok (.goto (-43), 3) := by decide +kernel
theorem dX4_place_70 : decode cX4_place 70 = .ok (.iload_n 3, 1) := by decide +kernel
theorem dX4_place_71 : decode cX4_place 71 = .ok (.ireturn, 1) := by decide +kernel
theorem dX4_pointsFor_0 : decode cX4_pointsFor 0 = .ok (.aload_n 0, 1) := by decide +kernel
theorem dX4_pointsFor_1 : decode cX4_pointsFor 1 = .ok (.getfield 9, 3) := by decide +kernel
theorem dX4_pointsFor_4 : decode cX4_pointsFor 4 = .ok (.getfield 39, 3) := by decide +kernel
theorem dX4_pointsFor_7 : decode cX4_pointsFor 7 = .ok (.aload_n 0, 1) := by decide +kernel
theorem dX4_pointsFor_8 : decode cX4_pointsFor 8 = .ok (.getfield 9, 3) := by decide +kernel
theorem dX4_pointsFor_11 : decode cX4_pointsFor 11 = .ok (.iload_n 1, 1) := by decide +kernel
theorem dX4_pointsFor_12 : decode cX4_pointsFor 12 = .ok (.iload_n 2, 1) := by decide +kernel
theorem dX4_pointsFor_13 : decode cX4_pointsFor 13 = .ok (.invokevirtual 42, 3) := by decide +kernel
theorem dX4_pointsFor_16 : decode cX4_pointsFor 16 = .ok (.iconst 4, 1) := by decide +kernel
theorem dX4_pointsFor_17 : decode cX4_pointsFor 17 = .ok (.invokevirtual 46, 3) := by decide +kernel
theorem dX4_pointsFor_20 : decode cX4_pointsFor 20 = .ok (.iconst 1, 1) := by decide +kernel
theorem dX4_pointsFor_21 : decode cX4_pointsFor 21 = .ok (.if_icmp .ne 13, 3) := by decide +kernel
theorem dX4_pointsFor_24 : decode cX4_pointsFor 24 = .ok (.aload_n 0, 1) := by decide +kernel
theorem dX4_pointsFor_25 : decode cX4_pointsFor 25 = .ok (.getfield 9, 3) := by decide +kernel
theorem dX4_pointsFor_28 : decode cX4_pointsFor 28 = .ok (.getfield 33, 3) := by decide +kernel
theorem dX4_pointsFor_31 : decode cX4_pointsFor 31 = .ok (.iconst 2, 1) := by decide +kernel
theorem dX4_pointsFor_32 : decode cX4_pointsFor 32 = .ok (.iadd, 1) := by decide +kernel
theorem dX4_pointsFor_33 : decode cX4_pointsFor 33 = .ok (.ireturn, 1) := by decide +kernel
theorem dX4_pointsFor_34 : decode cX4_pointsFor 34 = .ok (.iload_n 3, 1) := by decide +kernel
theorem dX4_pointsFor_35 : decode cX4_pointsFor 35 = .ok (.bipush (-5), 2) := by decide +kernel
theorem dX4_pointsFor_37 : decode cX4_pointsFor 37 = .ok (.if_icmp .ne 15, 3) := by decide +kernel
theorem dX4_pointsFor_40 : decode cX4_pointsFor 40 = .ok (.aload_n 0, 1) := by decide +kernel
theorem dX4_pointsFor_41 : decode cX4_pointsFor 41 = .ok (.getfield 9, 3) := by decide +kernel
theorem dX4_pointsFor_44 : decode cX4_pointsFor 44 = .ok (.getfield 33, 3) := by decide +kernel
theorem dX4_pointsFor_47 : decode cX4_pointsFor 47 = .ok (.iconst 1, 1) := by decide +kernel
theorem dX4_pointsFor_48 : decode cX4_pointsFor 48 = .ok (.iadd, 1) := by decide +kernel
theorem dX4_pointsFor_49 : decode cX4_pointsFor 49 = .ok (.goto 4, 3) := by decide +kernel
theorem dX4_pointsFor_52 : decode cX4_pointsFor 52 = .ok (.iload_n 3, 1) := by decide +kernel
theorem dX4_pointsFor_53 : decode cX4_pointsFor 53 = .ok (.ireturn, 1) := by decide +kernel
theorem dX4_placeIn_0 : decode cX4_placeIn 0 = .ok (.aload_n 0, 1) := by decide +kernel
theorem dX4_placeIn_1 : decode cX4_placeIn 1 = .ok (.iload_n 1, 1) := by decide +kernel
theorem dX4_placeIn_2 : decode cX4_placeIn 2 = .ok (.invokevirtual 56, 3) := by decide +kernel
theorem dX4_placeIn_5 : decode cX4_placeIn 5 = .ok (.aload_n 0, 1) := by decide +kernel
theorem dX4_placeIn_6 : decode cX4_placeIn 6 = .ok (.iload_n 2, 1) := by decide +kernel
theorem dX4_placeIn_7 : decode cX4_placeIn 7 = .ok (.invokevirtual 60, 3) := by decide +kernel
theorem dX4_placeIn_10 : decode cX4_placeIn 10 = .ok (.ireturn, 1) := by decide +kernel
theorem dX4_pointsIn_0 : decode cX4_pointsIn 0 = .ok (.aload_n 0, 1) := by decide +kernel
theorem dX4_pointsIn_1 : decode cX4_pointsIn 1 = .ok (.iload_n 1, 1) := by decide +kernel
theorem dX4_pointsIn_2 : decode cX4_pointsIn 2 = .ok (.iload_n 2, 1) := by decide +kernel
theorem dX4_pointsIn_3 : decode cX4_pointsIn 3 = .ok (.aload_n 0, 1) := by decide +kernel
theorem dX4_pointsIn_4 : decode cX4_pointsIn 4 = .ok (.iload_n 1, 1) := by decide +kernel
theorem dX4_pointsIn_5 : decode cX4_pointsIn 5 = .ok (.iload_n 2, 1) := by decide +kernel
theorem dX4_pointsIn_6 : decode cX4_pointsIn 6 = .ok (.invokevirtual 64, 3) := by decide +kernel
theorem dX4_pointsIn_9 : decode cX4_pointsIn 9 = .ok (.invokevirtual 67, 3) := by decide +kernel
theorem dX4_pointsIn_12 : decode cX4_pointsIn 12 = .ok (.ireturn, 1) := by decide +kernel
theorem dX4_leader_0 : decode cX4_leader 0 = .ok (.aload_n 0, 1) := by decide +kernel
theorem dX4_leader_1 : decode cX4_leader 1 = .ok (.iload_n 1, 1) := by decide +kernel
theorem dX4_leader_2 : decode cX4_leader 2 = .ok (.invokevirtual 56, 3) := by decide +kernel
theorem dX4_leader_5 : decode cX4_leader 5 = .ok (.iconst 0, 1) := by decide +kernel
theorem dX4_leader_6 : decode cX4_leader 6 = .ok (.istore_n 2, 1) := by decide +kernel
theorem dX4_leader_7 : decode cX4_leader 7 = .ok (.iload_n 2, 1) := by decide +kernel
theorem dX4_leader_8 : decode cX4_leader 8 = .ok (.aload_n 0, 1) := by decide +kernel
theorem dX4_leader_9 : decode cX4_leader 9 = .ok (.getfield 9, 3) := by decide +kernel
theorem dX4_leader_12 : decode cX4_leader 12 = .ok (.getfield 33, 3) := by decide +kernel
theorem dX4_leader_15 : decode cX4_leader 15 = .ok (.if_icmp .ge 20, 3) := by decide +kernel
theorem dX4_leader_18 : decode cX4_leader 18 = .ok (.aload_n 0, 1) := by decide +kernel
theorem dX4_leader_19 : decode cX4_leader 19 = .ok (.iload_n 2, 1) := by decide +kernel
theorem dX4_leader_20 : decode cX4_leader 20 = .ok (.invokevirtual 60, 3) := by decide +kernel
theorem dX4_leader_23 : decode cX4_leader 23 = .ok (.iconst 1, 1) := by decide +kernel
theorem dX4_leader_24 : decode cX4_leader 24 = .ok (.if_icmp .ne 5, 3) := by decide +kernel
theorem dX4_leader_27 : decode cX4_leader 27 = .ok (.iload_n 2, 1) := by decide +kernel
theorem dX4_leader_28 : decode cX4_leader 28 = .ok (.ireturn, 1) := by decide +kernel
theorem dX4_leader_29 : decode cX4_leader 29 = .ok (.iinc 2 1, 3) := by decide +kernel
theorem dX4_leader_32 : decode cX4_leader 32 = .ok (.goto (-25), 3) := by decide +kernel
theorem dX4_leader_35 : decode cX4_leader 35 = .ok (.bipush (-5), 2) := by decide +kernel
theorem dX4_leader_37 : decode cX4_leader 37 = .ok (.ireturn, 1) := by decide +kernel
theorem dX4_secondsToLead_0 : decode cX4_secondsToLead 0 = .ok (.aload_n 0, 1) := by decide +kernel
theorem dX4_secondsToLead_1 : decode cX4_secondsToLead 1 = .ok (.getfield 9, 3) := by decide +kernel
theorem dX4_secondsToLead_4 : decode cX4_secondsToLead 4 = .ok (.invokevirtual 71, 3) := by decide +kernel
theorem dX4_secondsToLead_7 : decode cX4_secondsToLead 7 = .ok (.istore_n 2, 1) := by decide +kernel
theorem dX4_secondsToLead_8 : decode cX4_secondsToLead 8 = .ok (.aload_n 0, 1) := by decide +kernel
theorem dX4_secondsToLead_9 : decode cX4_secondsToLead 9 = .ok (.iload_n 2, 1) := by decide +kernel
theorem dX4_secondsToLead_10 : decode cX4_secondsToLead 10 = .ok (.invokevirtual 75, 3) := by decide +kernel
theorem dX4_secondsToLead_13 : decode cX4_secondsToLead 13 = .ok (.istore_n 3, 1) := by decide +kernel
theorem dX4_secondsToLead_14 : decode cX4_secondsToLead 14 = .ok (.iload_n 3, 1) := by decide +kernel
theorem dX4_secondsToLead_15 : decode cX4_secondsToLead 15 = .ok (.bipush (-5), 2) := by decide +kernel
theorem dX4_secondsToLead_17 : decode cX4_secondsToLead 17 = .ok (.if_icmp .ne 6, 3) := by decide +kernel
theorem dX4_secondsToLead_20 : decode cX4_secondsToLead 20 = .ok (.bipush (-5), 2) := by decide +kernel
theorem dX4_secondsToLead_22 : decode cX4_secondsToLead 22 = .ok (.ireturn, 1) := by decide +kernel
theorem dX4_secondsToLead_23 : decode cX4_secondsToLead 23 = .ok (.aload_n 0, 1) := by decide +kernel
theorem dX4_secondsToLead_24 : decode cX4_secondsToLead 24 = .ok (.getfield 20, 3) := by decide +kernel
theorem dX4_secondsToLead_27 : decode cX4_secondsToLead 27 = .ok (.iload_n 3, 1) := by decide +kernel
theorem dX4_secondsToLead_28 : decode cX4_secondsToLead 28 = .ok (.iconst 0, 1) := by decide +kernel
theorem dX4_secondsToLead_29 : decode cX4_secondsToLead 29 = .ok (.invokevirtual 46, 3) := by decide +kernel
theorem dX4_secondsToLead_32 : decode cX4_secondsToLead 32 = .ok (.aload_n 0, 1) := by decide +kernel
theorem dX4_secondsToLead_33 : decode cX4_secondsToLead 33 = .ok (.getfield 9, 3) := by decide +kernel
theorem dX4_secondsToLead_36 : decode cX4_secondsToLead 36 = .ok (.getfield 78, 3) := by decide +kernel
theorem dX4_secondsToLead_39 : decode cX4_secondsToLead 39 = .ok (.iload_n 1, 1) := by decide +kernel
theorem dX4_secondsToLead_40 : decode cX4_secondsToLead 40 = .ok (.iconst 0, 1) := by decide +kernel
theorem dX4_secondsToLead_41 : decode cX4_secondsToLead 41 = .ok (.invokevirtual 46, 3) := by decide +kernel
theorem dX4_secondsToLead_44 : decode cX4_secondsToLead 44 = .ok (.imul, 1) := by decide +kernel
theorem dX4_secondsToLead_45 : decode cX4_secondsToLead 45 = .ok (.istore 4, 2) := by decide +kernel
theorem dX4_secondsToLead_47 : decode cX4_secondsToLead 47 = .ok (.iload 4, 2) := by decide +kernel
theorem dX4_secondsToLead_49 : decode cX4_secondsToLead 49 = .ok (.iconst 1, 1) := by decide +kernel
theorem dX4_secondsToLead_50 : decode cX4_secondsToLead 50 = .ok (.isub, 1) := by decide +kernel
theorem dX4_secondsToLead_51 : decode cX4_secondsToLead 51 = .ok (.bipush 100, 2) := by decide +kernel
theorem dX4_secondsToLead_53 : decode cX4_secondsToLead 53 = .ok (.invokestatic 81, 3) := by decide +kernel
theorem dX4_secondsToLead_56 : decode cX4_secondsToLead 56 = .ok (.istore 5, 2) := by decide +kernel
theorem dX4_secondsToLead_58 : decode cX4_secondsToLead 58 = .ok (.iload 5, 2) := by decide +kernel
theorem dX4_secondsToLead_60 : decode cX4_secondsToLead 60 = .ok (.aload_n 0, 1) := by decide +kernel
theorem dX4_secondsToLead_61 : decode cX4_secondsToLead 61 = .ok (.getfield 9, 3) := by decide +kernel
theorem dX4_secondsToLead_64 : decode cX4_secondsToLead 64 = .ok (.aload_n 0, 1) := by decide +kernel
theorem dX4_secondsToLead_65 : decode cX4_secondsToLead 65 = .ok (.getfield 9, 3) := by decide +kernel
theorem dX4_secondsToLead_68 : decode cX4_secondsToLead 68 = .ok (.getfield 86, 3) := by decide +kernel
theorem dX4_secondsToLead_71 : decode cX4_secondsToLead 71 = .ok (.iload_n 2, 1) := by decide +kernel
theorem dX4_secondsToLead_72 : decode cX4_secondsToLead 72 = .ok (.iload_n 1, 1) := by decide +kernel
theorem dX4_secondsToLead_73 : decode cX4_secondsToLead 73 = .ok (.invokevirtual 89, 3) := by decide +kernel
theorem dX4_secondsToLead_76 : decode cX4_secondsToLead 76 = .ok (.isub, 1) := by decide +kernel
theorem dX4_secondsToLead_77 : decode cX4_secondsToLead 77 = .ok (.istore 6, 2) := by decide +kernel
theorem dX4_secondsToLead_79 : decode cX4_secondsToLead 79 = .ok (.iload 6, 2) := by decide +kernel
theorem dX4_secondsToLead_81 : decode cX4_secondsToLead 81 = .ok (.ifCond .ge 8, 3) := by decide +kernel
theorem dX4_secondsToLead_84 : decode cX4_secondsToLead 84 = .ok (.bipush (-5), 2) := by decide +kernel
theorem dX4_secondsToLead_86 : decode cX4_secondsToLead 86 = .ok (.goto 5, 3) := by decide +kernel
theorem dX4_secondsToLead_89 : decode cX4_secondsToLead 89 = .ok (.iload 6, 2) := by decide +kernel
theorem dX4_secondsToLead_91 : decode cX4_secondsToLead 91 = .ok (.ireturn, 1) := by decide +kernel
theorem dX4_recount_0 : decode cX4_recount 0 = .ok (.iconst 0, 1) := by decide +kernel
theorem dX4_recount_1 : decode cX4_recount 1 = .ok (.istore_n 1, 1) := by decide +kernel
theorem dX4_recount_2 : decode cX4_recount 2 = .ok (.iload_n 1, 1) := by decide +kernel
theorem dX4_recount_3 : decode cX4_recount 3 = .ok (.aload_n 0, 1) := by decide +kernel
theorem dX4_recount_4 : decode cX4_recount 4 = .ok (.getfield 9, 3) := by decide +kernel
theorem dX4_recount_7 : decode cX4_recount 7 = .ok (.getfield 33, 3) := by decide +kernel
theorem dX4_recount_10 : decode cX4_recount 10 = .ok (.if_icmp .ge 17, 3) := by decide +kernel
theorem dX4_recount_13 : decode cX4_recount 13 = .ok (.aload_n 0, 1) := by decide +kernel
theorem dX4_recount_14 : decode cX4_recount 14 = .ok (.getfield 30, 3) := by decide +kernel
theorem dX4_recount_17 : decode cX4_recount 17 = .ok (.iload_n 1, 1) := by decide +kernel
theorem dX4_recount_18 : decode cX4_recount 18 = .ok (.invokevirtual 92, 3) := by decide +kernel
theorem dX4_recount_21 : decode cX4_recount 21 = .ok (.iinc 1 1, 3) := by decide +kernel
theorem dX4_recount_24 : decode cX4_recount 24 = .ok (.goto (-22), 3) := by decide +kernel
theorem dX4_recount_27 : decode cX4_recount 27 = .ok (.iconst 0, 1) := by decide +kernel
theorem dX4_recount_28 : decode cX4_recount 28 = .ok (.istore_n 1, 1) := by decide +kernel
theorem dX4_recount_29 : decode cX4_recount 29 = .ok (.iload_n 1, 1) := by decide +kernel
theorem dX4_recount_30 : decode cX4_recount 30 = .ok (.aload_n 0, 1) := by decide +kernel
theorem dX4_recount_31 : decode cX4_recount 31 = .ok (.getfield 9, 3) := by decide +kernel
theorem dX4_recount_34 : decode cX4_recount 34 = .ok (.invokevirtual 95, 3) := by decide +kernel
theorem dX4_recount_37 : decode cX4_recount 37 = .ok (.if_icmp .ge 14, 3) := by decide +kernel
theorem dX4_recount_40 : decode cX4_recount 40 = .ok (.aload_n 0, 1) := by decide +kernel
theorem dX4_recount_41 : decode cX4_recount 41 = .ok (.iload_n 1, 1) := by decide +kernel
theorem dX4_recount_42 : decode cX4_recount 42 = .ok (.invokevirtual 98, 3) := by decide +kernel
theorem dX4_recount_45 : decode cX4_recount 45 = .ok (.iinc 1 1, 3) := by decide +kernel
theorem dX4_recount_48 : decode cX4_recount 48 = .ok (.goto (-19), 3) := by decide +kernel
theorem dX4_recount_51 : decode cX4_recount 51 = .ok (.iconst 0, 1) := by decide +kernel
theorem dX4_recount_52 : decode cX4_recount 52 = .ok (.istore_n 1, 1) := by decide +kernel
theorem dX4_recount_53 : decode cX4_recount 53 = .ok (.iload_n 1, 1) := by decide +kernel
theorem dX4_recount_54 : decode cX4_recount 54 = .ok (.aload_n 0, 1) := by decide +kernel
theorem dX4_recount_55 : decode cX4_recount 55 = .ok (.getfield 9, 3) := by decide +kernel
theorem dX4_recount_58 : decode cX4_recount 58 = .ok (.getfield 33, 3) := by decide +kernel
theorem dX4_recount_61 : decode cX4_recount 61 = .ok (.if_icmp .ge 14, 3) := by decide +kernel
theorem dX4_recount_64 : decode cX4_recount 64 = .ok (.aload_n 0, 1) := by decide +kernel
theorem dX4_recount_65 : decode cX4_recount 65 = .ok (.iload_n 1, 1) := by decide +kernel
theorem dX4_recount_66 : decode cX4_recount 66 = .ok (.invokevirtual 101, 3) := by decide +kernel
theorem dX4_recount_69 : decode cX4_recount 69 = .ok (.iinc 1 1, 3) := by decide +kernel
theorem dX4_recount_72 : decode cX4_recount 72 = .ok (.goto (-19), 3) := by decide +kernel
theorem dX4_recount_75 : decode cX4_recount 75 = .ok (.return_, 1) := by decide +kernel
theorem dX4_recountRace_0 : decode cX4_recountRace 0 = .ok (.aload_n 0, 1) := by decide +kernel
theorem dX4_recountRace_1 : decode cX4_recountRace 1 = .ok (.iload_n 1, 1) := by decide +kernel
theorem dX4_recountRace_2 : decode cX4_recountRace 2 = .ok (.invokevirtual 56, 3) := by decide +kernel
theorem dX4_recountRace_5 : decode cX4_recountRace 5 = .ok (.iconst 0, 1) := by decide +kernel
theorem dX4_recountRace_6 : decode cX4_recountRace 6 = .ok (.istore_n 2, 1) := by decide +kernel
theorem dX4_recountRace_7 : decode cX4_recountRace 7 = .ok (.iload_n 2, 1) := by decide +kernel
theorem dX4_recountRace_8 : decode cX4_recountRace 8 = .ok (.aload_n 0, 1) := by decide +kernel
theorem dX4_recountRace_9 : decode cX4_recountRace 9 = .ok (.getfield 9, 3) := by decide +kernel
theorem dX4_recountRace_12 : decode cX4_recountRace 12 = .ok (.getfield 33, 3) := by decide +kernel
theorem dX4_recountRace_15 : decode cX4_recountRace 15 = .ok (.if_icmp .ge 47, 3) := by decide +kernel
theorem dX4_recountRace_18 : decode cX4_recountRace 18 = .ok (.aload_n 0, 1) := by decide +kernel
theorem dX4_recountRace_19 : decode cX4_recountRace 19 = .ok (.iload_n 2, 1) := by decide +kernel
theorem dX4_recountRace_20 : decode cX4_recountRace 20 = .ok (.invokevirtual 60, 3) := by decide +kernel
theorem dX4_recountRace_23 : decode cX4_recountRace 23 = .ok (.istore_n 3, 1) := by decide +kernel
theorem dX4_recountRace_24 : decode cX4_recountRace 24 = .ok (.aload_n 0, 1) := by decide +kernel
theorem dX4_recountRace_25 : decode cX4_recountRace 25 = .ok (.getfield 24, 3) := by decide +kernel
theorem dX4_recountRace_28 : decode cX4_recountRace 28 = .ok (.iload_n 1, 1) := by decide +kernel
theorem dX4_recountRace_29 : decode cX4_recountRace 29 = .ok (.iload_n 2, 1) := by decide +kernel
theorem dX4_recountRace_30 : decode cX4_recountRace 30 = .ok (.aload_n 0, 1) := by decide +kernel
theorem dX4_recountRace_31 : decode cX4_recountRace 31 = .ok (.iload_n 1, 1) := by decide +kernel
theorem dX4_recountRace_32 : decode cX4_recountRace 32 = .ok (.iload_n 2, 1) := by decide +kernel
theorem dX4_recountRace_33 : decode cX4_recountRace 33 = .ok (.iload_n 3, 1) := by decide +kernel
theorem dX4_recountRace_34 : decode cX4_recountRace 34 = .ok (.invokevirtual 67, 3) := by decide +kernel
theorem dX4_recountRace_37 : decode cX4_recountRace 37 = .ok (.invokevirtual 52, 3) := by decide +kernel
theorem dX4_recountRace_40 : decode cX4_recountRace 40 = .ok (.iload_n 3, 1) := by decide +kernel
theorem dX4_recountRace_41 : decode cX4_recountRace 41 = .ok (.bipush (-5), 2) := by decide +kernel
theorem dX4_recountRace_43 : decode cX4_recountRace 43 = .ok (.if_icmp .eq 13, 3) := by decide +kernel
theorem dX4_recountRace_46 : decode cX4_recountRace 46 = .ok (.aload_n 0, 1) := by decide +kernel
theorem dX4_recountRace_47 : decode cX4_recountRace 47 = .ok (.getfield 30, 3) := by decide +kernel
theorem dX4_recountRace_50 : decode cX4_recountRace 50 = .ok (.iload_n 2, 1) := by decide +kernel
theorem dX4_recountRace_51 : decode cX4_recountRace 51 = .ok (.iload_n 3, 1) := by decide +kernel
theorem dX4_recountRace_52 : decode cX4_recountRace 52 = .ok (.iconst 1, 1) := by decide +kernel
theorem dX4_recountRace_53 : decode cX4_recountRace 53 = .ok (.invokevirtual 104, 3) := by decide +kernel
theorem dX4_recountRace_56 : decode cX4_recountRace 56 = .ok (.iinc 2 1, 3) := by decide +kernel
theorem dX4_recountRace_59 : decode cX4_recountRace 59 = .ok (.goto (-52), 3) := by decide +kernel
theorem dX4_recountRace_62 : decode cX4_recountRace 62 = .ok (.return_, 1) := by decide +kernel
theorem dX4_sumUp_0 : decode cX4_sumUp 0 = .ok (.iconst 0, 1) := by decide +kernel
theorem dX4_sumUp_1 : decode cX4_sumUp 1 = .ok (.istore_n 2, 1) := by decide +kernel
theorem dX4_sumUp_2 : decode cX4_sumUp 2 = .ok (.bipush (-5), 2) := by decide +kernel
theorem dX4_sumUp_4 : decode cX4_sumUp 4 = .ok (.istore_n 3, 1) := by decide +kernel
theorem dX4_sumUp_5 : decode cX4_sumUp 5 = .ok (.iconst 0, 1) := by decide +kernel
theorem dX4_sumUp_6 : decode cX4_sumUp 6 = .ok (.istore 4, 2) := by decide +kernel
theorem dX4_sumUp_8 : decode cX4_sumUp 8 = .ok (.iconst 0, 1) := by decide +kernel
theorem dX4_sumUp_9 : decode cX4_sumUp 9 = .ok (.istore 5, 2) := by decide +kernel
theorem dX4_sumUp_11 : decode cX4_sumUp 11 = .ok (.iconst 0, 1) := by decide +kernel
theorem dX4_sumUp_12 : decode cX4_sumUp 12 = .ok (.istore 6, 2) := by decide +kernel
theorem dX4_sumUp_14 : decode cX4_sumUp 14 = .ok (.iload 6, 2) := by decide +kernel
theorem dX4_sumUp_16 : decode cX4_sumUp 16 = .ok (.aload_n 0, 1) := by decide +kernel
theorem dX4_sumUp_17 : decode cX4_sumUp 17 = .ok (.getfield 9, 3) := by decide +kernel
theorem dX4_sumUp_20 : decode cX4_sumUp 20 = .ok (.invokevirtual 95, 3) := by decide +kernel
theorem dX4_sumUp_23 : decode cX4_sumUp 23 = .ok (.if_icmp .ge 40, 3) := by decide +kernel
theorem dX4_sumUp_26 : decode cX4_sumUp 26 = .ok (.aload_n 0, 1) := by decide +kernel
theorem dX4_sumUp_27 : decode cX4_sumUp 27 = .ok (.getfield 24, 3) := by decide +kernel
theorem dX4_sumUp_30 : decode cX4_sumUp 30 = .ok (.iload 6, 2) := by decide +kernel
theorem dX4_sumUp_32 : decode cX4_sumUp 32 = .ok (.iload_n 1, 1) := by decide +kernel
theorem dX4_sumUp_33 : decode cX4_sumUp 33 = .ok (.invokevirtual 46, 3) := by decide +kernel
theorem dX4_sumUp_36 : decode cX4_sumUp 36 = .ok (.istore 5, 2) := by decide +kernel
theorem dX4_sumUp_38 : decode cX4_sumUp 38 = .ok (.iload_n 2, 1) := by decide +kernel
theorem dX4_sumUp_39 : decode cX4_sumUp 39 = .ok (.iload 5, 2) := by decide +kernel
theorem dX4_sumUp_41 : decode cX4_sumUp 41 = .ok (.iadd, 1) := by decide +kernel
theorem dX4_sumUp_42 : decode cX4_sumUp 42 = .ok (.istore_n 2, 1) := by decide +kernel
theorem dX4_sumUp_43 : decode cX4_sumUp 43 = .ok (.iload 5, 2) := by decide +kernel
theorem dX4_sumUp_45 : decode cX4_sumUp 45 = .ok (.iload 4, 2) := by decide +kernel
theorem dX4_sumUp_47 : decode cX4_sumUp 47 = .ok (.if_icmp .lt 10, 3) := by decide +kernel
theorem dX4_sumUp_50 : decode cX4_sumUp 50 = .ok (.iload 5, 2) := by decide +kernel
theorem dX4_sumUp_52 : decode cX4_sumUp 52 = .ok (.istore 4, 2) := by decide +kernel
theorem dX4_sumUp_54 : decode cX4_sumUp 54 = .ok (.iload 6, 2) := by decide +kernel
theorem dX4_sumUp_56 : decode cX4_sumUp 56 = .ok (.istore_n 3, 1) := by decide +kernel
theorem dX4_sumUp_57 : decode cX4_sumUp 57 = .ok (.iinc 6 1, 3) := by decide +kernel
theorem dX4_sumUp_60 : decode cX4_sumUp 60 = .ok (.goto (-46), 3) := by decide +kernel
theorem dX4_sumUp_63 : decode cX4_sumUp 63 = .ok (.aload_n 0, 1) := by decide +kernel
theorem dX4_sumUp_64 : decode cX4_sumUp 64 = .ok (.invokevirtual 107, 3) := by decide +kernel
theorem dX4_sumUp_67 : decode cX4_sumUp 67 = .ok (.istore 6, 2) := by decide +kernel
theorem dX4_sumUp_69 : decode cX4_sumUp 69 = .ok (.aload_n 0, 1) := by decide +kernel
theorem dX4_sumUp_70 : decode cX4_sumUp 70 = .ok (.getfield 27, 3) := by decide +kernel
theorem dX4_sumUp_73 : decode cX4_sumUp 73 = .ok (.iload_n 1, 1) := by decide +kernel
theorem dX4_sumUp_74 : decode cX4_sumUp 74 = .ok (.iconst 0, 1) := by decide +kernel
theorem dX4_sumUp_75 : decode cX4_sumUp 75 = .ok (.iload_n 2, 1) := by decide +kernel
theorem dX4_sumUp_76 : decode cX4_sumUp 76 = .ok (.invokevirtual 52, 3) := by decide +kernel
theorem dX4_sumUp_79 : decode cX4_sumUp 79 = .ok (.aload_n 0, 1) := by decide +kernel
theorem dX4_sumUp_80 : decode cX4_sumUp 80 = .ok (.getfield 27, 3) := by decide +kernel
theorem dX4_sumUp_83 : decode cX4_sumUp 83 = .ok (.iload_n 1, 1) := by decide +kernel
theorem dX4_sumUp_84 : decode cX4_sumUp 84 = .ok (.iconst 1, 1) := by decide +kernel
theorem dX4_sumUp_85 : decode cX4_sumUp 85 = .ok (.iload 6, 2) := by decide +kernel
theorem dX4_sumUp_87 : decode cX4_sumUp 87 = .ok (.ifCond .eq 10, 3) := by decide +kernel
theorem dX4_sumUp_90 : decode cX4_sumUp 90 = .ok (.iload_n 2, 1) := by decide +kernel
theorem dX4_sumUp_91 : decode cX4_sumUp 91 = .ok (.iload 4, 2) := by decide +kernel
theorem dX4_sumUp_93 : decode cX4_sumUp 93 = .ok (.isub, 1) := by decide +kernel
theorem dX4_sumUp_94 : decode cX4_sumUp 94 = .ok (.goto 4, 3) := by decide +kernel
theorem dX4_sumUp_97 : decode cX4_sumUp 97 = .ok (.iload_n 2, 1) := by decide +kernel
theorem dX4_sumUp_98 : decode cX4_sumUp 98 = .ok (.invokevirtual 52, 3) := by decide +kernel
theorem dX4_sumUp_101 : decode cX4_sumUp 101 = .ok (.aload_n 0, 1) := by decide +kernel
theorem dX4_sumUp_102 : decode cX4_sumUp 102 = .ok (.getfield 27, 3) := by decide +kernel
theorem dX4_sumUp_105 : decode cX4_sumUp 105 = .ok (.iload_n 1, 1) := by decide +kernel
theorem dX4_sumUp_106 : decode cX4_sumUp 106 = .ok (.iconst 2, 1) := by decide +kernel
theorem dX4_sumUp_107 : decode cX4_sumUp 107 = .ok (.iload 6, 2) := by decide +kernel
theorem dX4_sumUp_109 : decode cX4_sumUp 109 = .ok (.ifCond .eq 7, 3) := by decide +kernel
theorem dX4_sumUp_112 : decode cX4_sumUp 112 = .ok (.iload_n 3, 1) := by decide +kernel
theorem dX4_sumUp_113 : decode cX4_sumUp 113 = .ok (.goto 5, 3) := by decide +kernel
theorem dX4_sumUp_116 : decode cX4_sumUp 116 = .ok (.bipush (-5), 2) := by decide +kernel
theorem dX4_sumUp_118 : decode cX4_sumUp 118 = .ok (.invokevirtual 52, 3) := by decide +kernel
theorem dX4_sumUp_121 : decode cX4_sumUp 121 = .ok (.aload_n 0, 1) := by decide +kernel
theorem dX4_sumUp_122 : decode cX4_sumUp 122 = .ok (.getfield 27, 3) := by decide +kernel
theorem dX4_sumUp_125 : decode cX4_sumUp 125 = .ok (.iload_n 1, 1) := by decide +kernel
theorem dX4_sumUp_126 : decode cX4_sumUp 126 = .ok (.iconst 3, 1) := by decide +kernel
theorem dX4_sumUp_127 : decode cX4_sumUp 127 = .ok (.iload 5, 2) := by decide +kernel
theorem dX4_sumUp_129 : decode cX4_sumUp 129 = .ok (.invokevirtual 52, 3) := by decide +kernel
theorem dX4_sumUp_132 : decode cX4_sumUp 132 = .ok (.return_, 1) := by decide +kernel
theorem dX4_isDropping_0 : decode cX4_isDropping 0 = .ok (.aload_n 0, 1) := by decide +kernel
theorem dX4_isDropping_1 : decode cX4_isDropping 1 = .ok (.getfield 9, 3) := by decide +kernel
theorem dX4_isDropping_4 : decode cX4_isDropping 4 = .ok (.iconst 2, 1) := by decide +kernel
theorem dX4_isDropping_5 : decode cX4_isDropping 5 = .ok (.invokevirtual 111, 3) := by decide +kernel
theorem dX4_isDropping_8 : decode cX4_isDropping 8 = .ok (.istore_n 1, 1) := by decide +kernel
theorem dX4_isDropping_9 : decode cX4_isDropping 9 = .ok (.iload_n 1, 1) := by decide +kernel
theorem dX4_isDropping_10 : decode cX4_isDropping 10 = .ok (.ifCond .eq 18, 3) := by decide +kernel
theorem dX4_isDropping_13 : decode cX4_isDropping 13 = .ok (.aload_n 0, 1) := by decide +kernel
theorem dX4_isDropping_14 : decode cX4_isDropping 14 = .ok (.getfield 9, 3) := by decide +kernel
theorem dX4_isDropping_17 : decode cX4_isDropping 17 = .ok (.invokevirtual 95, 3) := by decide +kernel
theorem dX4_isDropping_20 : decode cX4_isDropping 20 = .ok (.iload_n 1, 1) := by decide +kernel
theorem dX4_isDropping_21 : decode cX4_isDropping 21 = .ok (.if_icmp .lt 7, 3) := by decide +kernel
theorem dX4_isDropping_24 : decode cX4_isDropping 24 = .ok (.iconst 1, 1) := by decide +kernel
theorem dX4_isDropping_25 : decode cX4_isDropping 25 = .ok (.goto 4, 3) := by decide +kernel
theorem dX4_isDropping_28 : decode cX4_isDropping 28 = .ok (.iconst 0, 1) := by decide +kernel
theorem dX4_isDropping_29 : decode cX4_isDropping 29 = .ok (.ireturn, 1) := by decide +kernel
theorem dX4_sum_0 : decode cX4_sum 0 = .ok (.aload_n 0, 1) := by decide +kernel
theorem dX4_sum_1 : decode cX4_sum 1 = .ok (.getfield 27, 3) := by decide +kernel
theorem dX4_sum_4 : decode cX4_sum 4 = .ok (.iload_n 1, 1) := by decide +kernel
theorem dX4_sum_5 : decode cX4_sum 5 = .ok (.iconst 0, 1) := by decide +kernel
theorem dX4_sum_6 : decode cX4_sum 6 = .ok (.invokevirtual 46, 3) := by decide +kernel
theorem dX4_sum_9 : decode cX4_sum 9 = .ok (.ireturn, 1) := by decide +kernel
theorem dX4_total_0 : decode cX4_total 0 = .ok (.aload_n 0, 1) := by decide +kernel
theorem dX4_total_1 : decode cX4_total 1 = .ok (.getfield 27, 3) := by decide +kernel
theorem dX4_total_4 : decode cX4_total 4 = .ok (.iload_n 1, 1) := by decide +kernel
theorem dX4_total_5 : decode cX4_total 5 = .ok (.iconst 1, 1) := by decide +kernel
theorem dX4_total_6 : decode cX4_total 6 = .ok (.invokevirtual 46, 3) := by decide +kernel
theorem dX4_total_9 : decode cX4_total 9 = .ok (.ireturn, 1) := by decide +kernel
theorem dX4_dropped_0 : decode cX4_dropped 0 = .ok (.aload_n 0, 1) := by decide +kernel
theorem dX4_dropped_1 : decode cX4_dropped 1 = .ok (.getfield 27, 3) := by decide +kernel
theorem dX4_dropped_4 : decode cX4_dropped 4 = .ok (.iload_n 1, 1) := by decide +kernel
theorem dX4_dropped_5 : decode cX4_dropped 5 = .ok (.iconst 2, 1) := by decide +kernel
theorem dX4_dropped_6 : decode cX4_dropped 6 = .ok (.invokevirtual 46, 3) := by decide +kernel
theorem dX4_dropped_9 : decode cX4_dropped 9 = .ok (.ireturn, 1) := by decide +kernel
theorem dX4_firstPlaces_0 : decode cX4_firstPlaces 0 = .ok (.aload_n 0, 1) := by decide +kernel
theorem dX4_firstPlaces_1 : decode cX4_firstPlaces 1 = .ok (.getfield 30, 3) := by decide +kernel
theorem dX4_firstPlaces_4 : decode cX4_firstPlaces 4 = .ok (.iload_n 1, 1) := by decide +kernel
theorem dX4_firstPlaces_5 : decode cX4_firstPlaces 5 = .ok (.iconst 1, 1) := by decide +kernel
theorem dX4_firstPlaces_6 : decode cX4_firstPlaces 6 = .ok (.invokevirtual 46, 3) := by decide +kernel
theorem dX4_firstPlaces_9 : decode cX4_firstPlaces 9 = .ok (.ireturn, 1) := by decide +kernel
theorem dX4_rank_0 : decode cX4_rank 0 = .ok (.iconst 1, 1) := by decide +kernel
theorem dX4_rank_1 : decode cX4_rank 1 = .ok (.istore_n 2, 1) := by decide +kernel
theorem dX4_rank_2 : decode cX4_rank 2 = .ok (.iconst 0, 1) := by decide +kernel
theorem dX4_rank_3 : decode cX4_rank 3 = .ok (.istore_n 3, 1) := by decide +kernel
theorem dX4_rank_4 : decode cX4_rank 4 = .ok (.iload_n 3, 1) := by decide +kernel
theorem dX4_rank_5 : decode cX4_rank 5 = .ok (.aload_n 0, 1) := by decide +kernel
theorem dX4_rank_6 : decode cX4_rank 6 = .ok (.getfield 9, 3) := by decide +kernel
theorem dX4_rank_9 : decode cX4_rank 9 = .ok (.getfield 33, 3) := by decide +kernel
theorem dX4_rank_12 : decode cX4_rank 12 = .ok (.if_icmp .ge 21, 3) := by decide +kernel
theorem dX4_rank_15 : decode cX4_rank 15 = .ok (.aload_n 0, 1) := by decide +kernel
theorem dX4_rank_16 : decode cX4_rank 16 = .ok (.iload_n 3, 1) := by decide +kernel
theorem dX4_rank_17 : decode cX4_rank 17 = .ok (.iload_n 1, 1) := by decide +kernel
theorem dX4_rank_18 : decode cX4_rank 18 = .ok (.invokevirtual 114, 3) := by decide +kernel
theorem dX4_rank_21 : decode cX4_rank 21 = .ok (.ifCond .eq 6, 3) := by decide +kernel
theorem dX4_rank_24 : decode cX4_rank 24 = .ok (.iinc 2 1, 3) := by decide +kernel
theorem dX4_rank_27 : decode cX4_rank 27 = .ok (.iinc 3 1, 3) := by decide +kernel
theorem dX4_rank_30 : decode cX4_rank 30 = .ok (.goto (-26), 3) := by decide +kernel
theorem dX4_rank_33 : decode cX4_rank 33 = .ok (.iload_n 2, 1) := by decide +kernel
theorem dX4_rank_34 : decode cX4_rank 34 = .ok (.ireturn, 1) := by decide +kernel
theorem dX4_isAhead_0 : decode cX4_isAhead 0 = .ok (.aload_n 0, 1) := by decide +kernel
theorem dX4_isAhead_1 : decode cX4_isAhead 1 = .ok (.iload_n 1, 1) := by decide +kernel
theorem dX4_isAhead_2 : decode cX4_isAhead 2 = .ok (.invokevirtual 118, 3) := by decide +kernel
theorem dX4_isAhead_5 : decode cX4_isAhead 5 = .ok (.aload_n 0, 1) := by decide +kernel
theorem dX4_isAhead_6 : decode cX4_isAhead 6 = .ok (.iload_n 2, 1) := by decide +kernel
theorem dX4_isAhead_7 : decode cX4_isAhead 7 = .ok (.invokevirtual 118, 3) := by decide +kernel
theorem dX4_isAhead_10 : decode cX4_isAhead 10 = .ok (.if_icmp .eq 22, 3) := by decide +kernel
theorem dX4_isAhead_13 : decode cX4_isAhead 13 = .ok (.aload_n 0, 1) := by decide +kernel
theorem dX4_isAhead_14 : decode cX4_isAhead 14 = .ok (.iload_n 1, 1) := by decide +kernel
theorem dX4_isAhead_15 : decode cX4_isAhead 15 = .ok (.invokevirtual 118, 3) := by decide +kernel
theorem dX4_isAhead_18 : decode cX4_isAhead 18 = .ok (.aload_n 0, 1) := by decide +kernel
theorem dX4_isAhead_19 : decode cX4_isAhead 19 = .ok (.iload_n 2, 1) := by decide +kernel
theorem dX4_isAhead_20 : decode cX4_isAhead 20 = .ok (.invokevirtual 118, 3) := by decide +kernel
theorem dX4_isAhead_23 : decode cX4_isAhead 23 = .ok (.if_icmp .ge 7, 3) := by decide +kernel
theorem dX4_isAhead_26 : decode cX4_isAhead 26 = .ok (.iconst 1, 1) := by decide +kernel
theorem dX4_isAhead_27 : decode cX4_isAhead 27 = .ok (.goto 4, 3) := by decide +kernel
theorem dX4_isAhead_30 : decode cX4_isAhead 30 = .ok (.iconst 0, 1) := by decide +kernel
theorem dX4_isAhead_31 : decode cX4_isAhead 31 = .ok (.ireturn, 1) := by decide +kernel
theorem dX4_isAhead_32 : decode cX4_isAhead 32 = .ok (.iconst 1, 1) := by decide +kernel
theorem dX4_isAhead_33 : decode cX4_isAhead 33 = .ok (.istore_n 3, 1) := by decide +kernel
theorem dX4_isAhead_34 : decode cX4_isAhead 34 = .ok (.iload_n 3, 1) := by decide +kernel
theorem dX4_isAhead_35 : decode cX4_isAhead 35 = .ok (.bipush 9, 2) := by decide +kernel
theorem dX4_isAhead_37 : decode cX4_isAhead 37 = .ok (.if_icmp .gt 57, 3) := by decide +kernel
theorem dX4_isAhead_40 : decode cX4_isAhead 40 = .ok (.aload_n 0, 1) := by decide +kernel
theorem dX4_isAhead_41 : decode cX4_isAhead 41 = .ok (.getfield 30, 3) := by decide +kernel
theorem dX4_isAhead_44 : decode cX4_isAhead 44 = .ok (.iload_n 1, 1) := by decide +kernel
theorem dX4_isAhead_45 : decode cX4_isAhead 45 = .ok (.iload_n 3, 1) := by decide +kernel
theorem dX4_isAhead_46 : decode cX4_isAhead 46 = .ok (.invokevirtual 46, 3) := by decide +kernel
theorem dX4_isAhead_49 : decode cX4_isAhead 49 = .ok (.aload_n 0, 1) := by decide +kernel
theorem dX4_isAhead_50 : decode cX4_isAhead 50 = .ok (.getfield 30, 3) := by decide +kernel
theorem dX4_isAhead_53 : decode cX4_isAhead 53 = .ok (.iload_n 2, 1) := by decide +kernel
theorem dX4_isAhead_54 : decode cX4_isAhead 54 = .ok (.iload_n 3, 1) := by decide +kernel
theorem dX4_isAhead_55 : decode cX4_isAhead 55 = .ok (.invokevirtual 46, 3) := by decide +kernel
theorem dX4_isAhead_58 : decode cX4_isAhead 58 = .ok (.if_icmp .eq 30, 3) := by decide +kernel
theorem dX4_isAhead_61 : decode cX4_isAhead 61 = .ok (.aload_n 0, 1) := by decide +kernel
theorem dX4_isAhead_62 : decode cX4_isAhead 62 = .ok (.getfield 30, 3) := by decide +kernel
theorem dX4_isAhead_65 : decode cX4_isAhead 65 = .ok (.iload_n 1, 1) := by decide +kernel
theorem dX4_isAhead_66 : decode cX4_isAhead 66 = .ok (.iload_n 3, 1) := by decide +kernel
theorem dX4_isAhead_67 : decode cX4_isAhead 67 = .ok (.invokevirtual 46, 3) := by decide +kernel
theorem dX4_isAhead_70 : decode cX4_isAhead 70 = .ok (.aload_n 0, 1) := by decide +kernel
theorem dX4_isAhead_71 : decode cX4_isAhead 71 = .ok (.getfield 30, 3) := by decide +kernel
theorem dX4_isAhead_74 : decode cX4_isAhead 74 = .ok (.iload_n 2, 1) := by decide +kernel
theorem dX4_isAhead_75 : decode cX4_isAhead 75 = .ok (.iload_n 3, 1) := by decide +kernel
theorem dX4_isAhead_76 : decode cX4_isAhead 76 = .ok (.invokevirtual 46, 3) := by decide +kernel
theorem dX4_isAhead_79 : decode cX4_isAhead 79 = .ok (.if_icmp .le 7, 3) := by decide +kernel
theorem dX4_isAhead_82 : decode cX4_isAhead 82 = .ok (.iconst 1, 1) := by decide +kernel
theorem dX4_isAhead_83 : decode cX4_isAhead 83 = .ok (.goto 4, 3) := by decide +kernel
end
section
theorem dX4_isAhead_86 : decode cX4_isAhead 86 = .ok (.iconst 0, 1) := by decide +kernel
theorem dX4_isAhead_87 : decode cX4_isAhead 87 = .ok (.ireturn, 1) := by decide +kernel
theorem dX4_isAhead_88 : decode cX4_isAhead 88 = .ok (.iinc 3 1, 3) := by decide +kernel
theorem dX4_isAhead_91 : decode cX4_isAhead 91 = .ok (.goto (-57), 3) := by decide +kernel
theorem dX4_isAhead_94 : decode cX4_isAhead 94 = .ok (.aload_n 0, 1) := by decide +kernel
theorem dX4_isAhead_95 : decode cX4_isAhead 95 = .ok (.getfield 27, 3) := by decide +kernel
theorem dX4_isAhead_98 : decode cX4_isAhead 98 = .ok (.iload_n 1, 1) := by decide +kernel
theorem dX4_isAhead_99 : decode cX4_isAhead 99 = .ok (.iconst 3, 1) := by decide +kernel
theorem dX4_isAhead_100 : decode cX4_isAhead 100 = .ok (.invokevirtual 46, 3) := by decide +kernel
theorem dX4_isAhead_103 : decode cX4_isAhead 103 = .ok (.aload_n 0, 1) := by decide +kernel
theorem dX4_isAhead_104 : decode cX4_isAhead 104 = .ok (.getfield 27, 3) := by decide +kernel
theorem dX4_isAhead_107 : decode cX4_isAhead 107 = .ok (.iload_n 2, 1) := by decide +kernel
theorem dX4_isAhead_108 : decode cX4_isAhead 108 = .ok (.iconst 3, 1) := by decide +kernel
theorem dX4_isAhead_109 : decode cX4_isAhead 109 = .ok (.invokevirtual 46, 3) := by decide +kernel
theorem dX4_isAhead_112 : decode cX4_isAhead 112 = .ok (.if_icmp .eq 30, 3) := by decide +kernel
theorem dX4_isAhead_115 : decode cX4_isAhead 115 = .ok (.aload_n 0, 1) := by decide +kernel
theorem dX4_isAhead_116 : decode cX4_isAhead 116 = .ok (.getfield 27, 3) := by decide +kernel
theorem dX4_isAhead_119 : decode cX4_isAhead 119 = .ok (.iload_n 1, 1) := by decide +kernel
theorem dX4_isAhead_120 : decode cX4_isAhead 120 = .ok (.iconst 3, 1) := by decide +kernel
theorem dX4_isAhead_121 : decode cX4_isAhead 121 = .ok (.invokevirtual 46, 3) := by decide +kernel
theorem dX4_isAhead_124 : decode cX4_isAhead 124 = .ok (.aload_n 0, 1) := by decide +kernel
theorem dX4_isAhead_125 : decode cX4_isAhead 125 = .ok (.getfield 27, 3) := by decide +kernel
theorem dX4_isAhead_128 : decode cX4_isAhead 128 = .ok (.iload_n 2, 1) := by decide +kernel
theorem dX4_isAhead_129 : decode cX4_isAhead 129 = .ok (.iconst 3, 1) := by decide +kernel
theorem dX4_isAhead_130 : decode cX4_isAhead 130 = .ok (.invokevirtual 46, 3) := by decide +kernel
theorem dX4_isAhead_133 : decode cX4_isAhead 133 = .ok (.if_icmp .ge 7, 3) := by decide +kernel
theorem dX4_isAhead_136 : decode cX4_isAhead 136 = .ok (.iconst 1, 1) := by decide +kernel
theorem dX4_isAhead_137 : decode cX4_isAhead 137 = .ok (.goto 4, 3) := by decide +kernel
theorem dX4_isAhead_140 : decode cX4_isAhead 140 = .ok (.iconst 0, 1) := by decide +kernel
theorem dX4_isAhead_141 : decode cX4_isAhead 141 = .ok (.ireturn, 1) := by decide +kernel
theorem dX4_isAhead_142 : decode cX4_isAhead 142 = .ok (.iload_n 1, 1) := by decide +kernel
theorem dX4_isAhead_143 : decode cX4_isAhead 143 = .ok (.iload_n 2, 1) := by decide +kernel
theorem dX4_isAhead_144 : decode cX4_isAhead 144 = .ok (.if_icmp .ge 7, 3) := by decide +kernel
theorem dX4_isAhead_147 : decode cX4_isAhead 147 = .ok (.iconst 1, 1) := by decide +kernel
theorem dX4_isAhead_148 : decode cX4_isAhead 148 = .ok (.goto 4, 3) := by decide +kernel
theorem dX4_isAhead_151 : decode cX4_isAhead 151 = .ok (.iconst 0, 1) := by decide +kernel
theorem dX4_isAhead_152 : decode cX4_isAhead 152 = .ok (.ireturn, 1) := by decide +kernel
theorem dX5_init_0 : decode cX5_init 0 = .ok (.aload_n 0, 1) := by decide +kernel
theorem dX5_init_1 : decode cX5_init 1 = .ok (.invokespecial 3, 3) := by decide +kernel
theorem dX5_init_4 : decode cX5_init 4 = .ok (.aload_n 0, 1) := by decide +kernel
theorem dX5_init_5 : decode cX5_init 5 = .ok (.new 9, 3) := by decide +kernel
theorem dX5_init_8 : decode cX5_init 8 = .ok (.dup, 1) := by decide +kernel
theorem dX5_init_9 : decode cX5_init 9 = .ok (.bipush 9, 2) := by decide +kernel
theorem dX5_init_11 : decode cX5_init 11 = .ok (.iconst 1, 1) := by decide +kernel
theorem dX5_init_12 : decode cX5_init 12 = .ok (.invokespecial 11, 3) := by decide +kernel
theorem dX5_init_15 : decode cX5_init 15 = .ok (.putfield 14, 3) := by decide +kernel
theorem dX5_init_18 : decode cX5_init 18 = .ok (.aload_n 0, 1) := by decide +kernel
theorem dX5_init_19 : decode cX5_init 19 = .ok (.new 9, 3) := by decide +kernel
theorem dX5_init_22 : decode cX5_init 22 = .ok (.dup, 1) := by decide +kernel
theorem dX5_init_23 : decode cX5_init 23 = .ok (.iconst 3, 1) := by decide +kernel
theorem dX5_init_24 : decode cX5_init 24 = .ok (.iconst 1, 1) := by decide +kernel
theorem dX5_init_25 : decode cX5_init 25 = .ok (.invokespecial 11, 3) := by decide +kernel
theorem dX5_init_28 : decode cX5_init 28 = .ok (.putfield 20, 3) := by decide +kernel
theorem dX5_init_31 : decode cX5_init 31 = .ok (.aload_n 0, 1) := by decide +kernel
theorem dX5_init_32 : decode cX5_init 32 = .ok (.new 9, 3) := by decide +kernel
theorem dX5_init_35 : decode cX5_init 35 = .ok (.dup, 1) := by decide +kernel
theorem dX5_init_36 : decode cX5_init 36 = .ok (.bipush 6, 2) := by decide +kernel
theorem dX5_init_38 : decode cX5_init 38 = .ok (.iconst 3, 1) := by decide +kernel
theorem dX5_init_39 : decode cX5_init 39 = .ok (.invokespecial 11, 3) := by decide +kernel
theorem dX5_init_42 : decode cX5_init 42 = .ok (.putfield 23, 3) := by decide +kernel
theorem dX5_init_45 : decode cX5_init 45 = .ok (.aload_n 0, 1) := by decide +kernel
theorem dX5_init_46 : decode cX5_init 46 = .ok (.new 9, 3) := by decide +kernel
theorem dX5_init_49 : decode cX5_init 49 = .ok (.dup, 1) := by decide +kernel
theorem dX5_init_50 : decode cX5_init 50 = .ok (.bipush 54, 2) := by decide +kernel
theorem dX5_init_52 : decode cX5_init 52 = .ok (.bipush 6, 2) := by decide +kernel
theorem dX5_init_54 : decode cX5_init 54 = .ok (.invokespecial 11, 3) := by decide +kernel
theorem dX5_init_57 : decode cX5_init 57 = .ok (.putfield 26, 3) := by decide +kernel
theorem dX5_init_60 : decode cX5_init 60 = .ok (.aload_n 0, 1) := by decide +kernel
theorem dX5_init_61 : decode cX5_init 61 = .ok (.new 9, 3) := by decide +kernel
theorem dX5_init_64 : decode cX5_init 64 = .ok (.dup, 1) := by decide +kernel
theorem dX5_init_65 : decode cX5_init 65 = .ok (.bipush 10, 2) := by decide +kernel
theorem dX5_init_67 : decode cX5_init 67 = .ok (.iconst 4, 1) := by decide +kernel
theorem dX5_init_68 : decode cX5_init 68 = .ok (.invokespecial 11, 3) := by decide +kernel
theorem dX5_init_71 : decode cX5_init 71 = .ok (.putfield 29, 3) := by decide +kernel
theorem dX5_init_74 : decode cX5_init 74 = .ok (.iconst 0, 1) := by decide +kernel
theorem dX5_init_75 : decode cX5_init 75 = .ok (.istore_n 1, 1) := by decide +kernel
theorem dX5_init_76 : decode cX5_init 76 = .ok (.iload_n 1, 1) := by decide +kernel
theorem dX5_init_77 : decode cX5_init 77 = .ok (.getstatic 32, 3) := by decide +kernel
theorem dX5_init_80 : decode cX5_init 80 = .ok (.arraylength, 1) := by decide +kernel
theorem dX5_init_81 : decode cX5_init 81 = .ok (.if_icmp .ge 23, 3) := by decide +kernel
theorem dX5_init_84 : decode cX5_init 84 = .ok (.aload_n 0, 1) := by decide +kernel
theorem dX5_init_85 : decode cX5_init 85 = .ok (.getfield 20, 3) := by decide +kernel
theorem dX5_init_88 : decode cX5_init 88 = .ok (.iload_n 1, 1) := by decide +kernel
theorem dX5_init_89 : decode cX5_init 89 = .ok (.iconst 0, 1) := by decide +kernel
theorem dX5_init_90 : decode cX5_init 90 = .ok (.getstatic 32, 3) := by decide +kernel
theorem dX5_init_93 : decode cX5_init 93 = .ok (.iload_n 1, 1) := by decide +kernel
theorem dX5_init_94 : decode cX5_init 94 = .ok (.iaload, 1) := by decide +kernel
theorem dX5_init_95 : decode cX5_init 95 = .ok (.invokevirtual 36, 3) := by decide +kernel
theorem dX5_init_98 : decode cX5_init 98 = .ok (.iinc 1 1, 3) := by decide +kernel
theorem dX5_init_101 : decode cX5_init 101 = .ok (.goto (-25), 3) := by decide +kernel
theorem dX5_init_104 : decode cX5_init 104 = .ok (.return_, 1) := by decide +kernel
theorem dX5_copyFrom_0 : decode cX5_copyFrom 0 = .ok (.aload_n 0, 1) := by decide +kernel
theorem dX5_copyFrom_1 : decode cX5_copyFrom 1 = .ok (.aload_n 1, 1) := by decide +kernel
theorem dX5_copyFrom_2 : decode cX5_copyFrom 2 = .ok (.getfield 40, 3) := by decide +kernel
theorem dX5_copyFrom_5 : decode cX5_copyFrom 5 = .ok (.putfield 40, 3) := by decide +kernel
theorem dX5_copyFrom_8 : decode cX5_copyFrom 8 = .ok (.aload_n 0, 1) := by decide +kernel
theorem dX5_copyFrom_9 : decode cX5_copyFrom 9 = .ok (.aload_n 1, 1) := by decide +kernel
theorem dX5_copyFrom_10 : decode cX5_copyFrom 10 = .ok (.getfield 44, 3) := by decide +kernel
theorem dX5_copyFrom_13 : decode cX5_copyFrom 13 = .ok (.putfield 44, 3) := by decide +kernel
theorem dX5_copyFrom_16 : decode cX5_copyFrom 16 = .ok (.aload_n 0, 1) := by decide +kernel
theorem dX5_copyFrom_17 : decode cX5_copyFrom 17 = .ok (.aload_n 1, 1) := by decide +kernel
theorem dX5_copyFrom_18 : decode cX5_copyFrom 18 = .ok (.getfield 47, 3) := by decide +kernel
theorem dX5_copyFrom_21 : decode cX5_copyFrom 21 = .ok (.putfield 47, 3) := by decide +kernel
theorem dX5_copyFrom_24 : decode cX5_copyFrom 24 = .ok (.aload_n 0, 1) := by decide +kernel
theorem dX5_copyFrom_25 : decode cX5_copyFrom 25 = .ok (.aload_n 1, 1) := by decide +kernel
theorem dX5_copyFrom_26 : decode cX5_copyFrom 26 = .ok (.getfield 50, 3) := by decide +kernel
theorem dX5_copyFrom_29 : decode cX5_copyFrom 29 = .ok (.putfield 50, 3) := by decide +kernel
theorem dX5_copyFrom_32 : decode cX5_copyFrom 32 = .ok (.aload_n 0, 1) := by decide +kernel
theorem dX5_copyFrom_33 : decode cX5_copyFrom 33 = .ok (.aload_n 1, 1) := by decide +kernel
theorem dX5_copyFrom_34 : decode cX5_copyFrom 34 = .ok (.getfield 53, 3) := by decide +kernel
theorem dX5_copyFrom_37 : decode cX5_copyFrom 37 = .ok (.putfield 53, 3) := by decide +kernel
theorem dX5_copyFrom_40 : decode cX5_copyFrom 40 = .ok (.aload_n 0, 1) := by decide +kernel
theorem dX5_copyFrom_41 : decode cX5_copyFrom 41 = .ok (.getfield 14, 3) := by decide +kernel
theorem dX5_copyFrom_44 : decode cX5_copyFrom 44 = .ok (.aload_n 1, 1) := by decide +kernel
theorem dX5_copyFrom_45 : decode cX5_copyFrom 45 = .ok (.getfield 14, 3) := by decide +kernel
theorem dX5_copyFrom_48 : decode cX5_copyFrom 48 = .ok (.invokevirtual 56, 3) := by decide +kernel
theorem dX5_copyFrom_51 : decode cX5_copyFrom 51 = .ok (.aload_n 0, 1) := by decide +kernel
theorem dX5_copyFrom_52 : decode cX5_copyFrom 52 = .ok (.getfield 20, 3) := by decide +kernel
theorem dX5_copyFrom_55 : decode cX5_copyFrom 55 = .ok (.aload_n 1, 1) := by decide +kernel
theorem dX5_copyFrom_56 : decode cX5_copyFrom 56 = .ok (.getfield 20, 3) := by decide +kernel
theorem dX5_copyFrom_59 : decode cX5_copyFrom 59 = .ok (.invokevirtual 56, 3) := by decide +kernel
theorem dX5_copyFrom_62 : decode cX5_copyFrom 62 = .ok (.aload_n 0, 1) := by decide +kernel
theorem dX5_copyFrom_63 : decode cX5_copyFrom 63 = .ok (.getfield 23, 3) := by decide +kernel
theorem dX5_copyFrom_66 : decode cX5_copyFrom 66 = .ok (.aload_n 1, 1) := by decide +kernel
theorem dX5_copyFrom_67 : decode cX5_copyFrom 67 = .ok (.getfield 23, 3) := by decide +kernel
theorem dX5_copyFrom_70 : decode cX5_copyFrom 70 = .ok (.invokevirtual 56, 3) := by decide +kernel
theorem dX5_copyFrom_73 : decode cX5_copyFrom 73 = .ok (.aload_n 0, 1) := by decide +kernel
theorem dX5_copyFrom_74 : decode cX5_copyFrom 74 = .ok (.getfield 26, 3) := by decide +kernel
theorem dX5_copyFrom_77 : decode cX5_copyFrom 77 = .ok (.aload_n 1, 1) := by decide +kernel
theorem dX5_copyFrom_78 : decode cX5_copyFrom 78 = .ok (.getfield 26, 3) := by decide +kernel
theorem dX5_copyFrom_81 : decode cX5_copyFrom 81 = .ok (.invokevirtual 56, 3) := by decide +kernel
theorem dX5_copyFrom_84 : decode cX5_copyFrom 84 = .ok (.aload_n 0, 1) := by decide +kernel
theorem dX5_copyFrom_85 : decode cX5_copyFrom 85 = .ok (.getfield 29, 3) := by decide +kernel
theorem dX5_copyFrom_88 : decode cX5_copyFrom 88 = .ok (.aload_n 1, 1) := by decide +kernel
theorem dX5_copyFrom_89 : decode cX5_copyFrom 89 = .ok (.getfield 29, 3) := by decide +kernel
theorem dX5_copyFrom_92 : decode cX5_copyFrom 92 = .ok (.invokevirtual 56, 3) := by decide +kernel
theorem dX5_copyFrom_95 : decode cX5_copyFrom 95 = .ok (.return_, 1) := by decide +kernel
theorem dX5_hasBoat_0 : decode cX5_hasBoat 0 = .ok (.iload_n 1, 1) := by decide +kernel
theorem dX5_hasBoat_1 : decode cX5_hasBoat 1 = .ok (.ifCond .lt 15, 3) := by decide +kernel
theorem dX5_hasBoat_4 : decode cX5_hasBoat 4 = .ok (.iload_n 1, 1) := by decide +kernel
theorem dX5_hasBoat_5 : decode cX5_hasBoat 5 = .ok (.aload_n 0, 1) := by decide +kernel
theorem dX5_hasBoat_6 : decode cX5_hasBoat 6 = .ok (.getfield 44, 3) := by decide +kernel
theorem dX5_hasBoat_9 : decode cX5_hasBoat 9 = .ok (.if_icmp .ge 7, 3) := by decide +kernel
theorem dX5_hasBoat_12 : decode cX5_hasBoat 12 = .ok (.iconst 1, 1) := by decide +kernel
theorem dX5_hasBoat_13 : decode cX5_hasBoat 13 = .ok (.goto 4, 3) := by decide +kernel
theorem dX5_hasBoat_16 : decode cX5_hasBoat 16 = .ok (.iconst 0, 1) := by decide +kernel
theorem dX5_hasBoat_17 : decode cX5_hasBoat 17 = .ok (.ireturn, 1) := by decide +kernel
theorem dX5_hasRace_0 : decode cX5_hasRace 0 = .ok (.iload_n 1, 1) := by decide +kernel
theorem dX5_hasRace_1 : decode cX5_hasRace 1 = .ok (.ifCond .lt 15, 3) := by decide +kernel
theorem dX5_hasRace_4 : decode cX5_hasRace 4 = .ok (.iload_n 1, 1) := by decide +kernel
theorem dX5_hasRace_5 : decode cX5_hasRace 5 = .ok (.aload_n 0, 1) := by decide +kernel
theorem dX5_hasRace_6 : decode cX5_hasRace 6 = .ok (.getfield 47, 3) := by decide +kernel
theorem dX5_hasRace_9 : decode cX5_hasRace 9 = .ok (.if_icmp .ge 7, 3) := by decide +kernel
theorem dX5_hasRace_12 : decode cX5_hasRace 12 = .ok (.iconst 1, 1) := by decide +kernel
theorem dX5_hasRace_13 : decode cX5_hasRace 13 = .ok (.goto 4, 3) := by decide +kernel
theorem dX5_hasRace_16 : decode cX5_hasRace 16 = .ok (.iconst 0, 1) := by decide +kernel
theorem dX5_hasRace_17 : decode cX5_hasRace 17 = .ok (.ireturn, 1) := by decide +kernel
theorem dX5_hasProtest_0 : decode cX5_hasProtest 0 = .ok (.iload_n 1, 1) := by decide +kernel
theorem dX5_hasProtest_1 : decode cX5_hasProtest 1 = .ok (.ifCond .lt 15, 3) := by decide +kernel
theorem dX5_hasProtest_4 : decode cX5_hasProtest 4 = .ok (.iload_n 1, 1) := by decide +kernel
theorem dX5_hasProtest_5 : decode cX5_hasProtest 5 = .ok (.aload_n 0, 1) := by decide +kernel
theorem dX5_hasProtest_6 : decode cX5_hasProtest 6 = .ok (.getfield 53, 3) := by decide +kernel
theorem dX5_hasProtest_9 : decode cX5_hasProtest 9 = .ok (.if_icmp .ge 7, 3) := by decide +kernel
theorem dX5_hasProtest_12 : decode cX5_hasProtest 12 = .ok (.iconst 1, 1) := by decide +kernel
theorem dX5_hasProtest_13 : decode cX5_hasProtest 13 = .ok (.goto 4, 3) := by decide +kernel
theorem dX5_hasProtest_16 : decode cX5_hasProtest 16 = .ok (.iconst 0, 1) := by decide +kernel
theorem dX5_hasProtest_17 : decode cX5_hasProtest 17 = .ok (.ireturn, 1) := by decide +kernel
theorem dX5_isPrepared_0 : decode cX5_isPrepared 0 = .ok (.aload_n 0, 1) := by decide +kernel
theorem dX5_isPrepared_1 : decode cX5_isPrepared 1 = .ok (.getfield 50, 3) := by decide +kernel
theorem dX5_isPrepared_4 : decode cX5_isPrepared 4 = .ok (.iconst 1, 1) := by decide +kernel
theorem dX5_isPrepared_5 : decode cX5_isPrepared 5 = .ok (.if_icmp .ne 7, 3) := by decide +kernel
theorem dX5_isPrepared_8 : decode cX5_isPrepared 8 = .ok (.iconst 1, 1) := by decide +kernel
theorem dX5_isPrepared_9 : decode cX5_isPrepared 9 = .ok (.goto 4, 3) := by decide +kernel
theorem dX5_isPrepared_12 : decode cX5_isPrepared 12 = .ok (.iconst 0, 1) := by decide +kernel
theorem dX5_isPrepared_13 : decode cX5_isPrepared 13 = .ok (.ireturn, 1) := by decide +kernel
theorem dX5_closedRaces_0 : decode cX5_closedRaces 0 = .ok (.aload_n 0, 1) := by decide +kernel
theorem dX5_closedRaces_1 : decode cX5_closedRaces 1 = .ok (.getfield 50, 3) := by decide +kernel
theorem dX5_closedRaces_4 : decode cX5_closedRaces 4 = .ok (.iconst 1, 1) := by decide +kernel
theorem dX5_closedRaces_5 : decode cX5_closedRaces 5 = .ok (.if_icmp .ne 12, 3) := by decide +kernel
theorem dX5_closedRaces_8 : decode cX5_closedRaces 8 = .ok (.aload_n 0, 1) := by decide +kernel
theorem dX5_closedRaces_9 : decode cX5_closedRaces 9 = .ok (.getfield 47, 3) := by decide +kernel
theorem dX5_closedRaces_12 : decode cX5_closedRaces 12 = .ok (.iconst 1, 1) := by decide +kernel
theorem dX5_closedRaces_13 : decode cX5_closedRaces 13 = .ok (.isub, 1) := by decide +kernel
theorem dX5_closedRaces_14 : decode cX5_closedRaces 14 = .ok (.goto 7, 3) := by decide +kernel
theorem dX5_closedRaces_17 : decode cX5_closedRaces 17 = .ok (.aload_n 0, 1) := by decide +kernel
theorem dX5_closedRaces_18 : decode cX5_closedRaces 18 = .ok (.getfield 47, 3) := by decide +kernel
theorem dX5_closedRaces_21 : decode cX5_closedRaces 21 = .ok (.ireturn, 1) := by decide +kernel
theorem dX5_isClosed_0 : decode cX5_isClosed 0 = .ok (.iload_n 1, 1) := by decide +kernel
theorem dX5_isClosed_1 : decode cX5_isClosed 1 = .ok (.ifCond .lt 15, 3) := by decide +kernel
theorem dX5_isClosed_4 : decode cX5_isClosed 4 = .ok (.iload_n 1, 1) := by decide +kernel
theorem dX5_isClosed_5 : decode cX5_isClosed 5 = .ok (.aload_n 0, 1) := by decide +kernel
theorem dX5_isClosed_6 : decode cX5_isClosed 6 = .ok (.invokevirtual 60, 3) := by decide +kernel
theorem dX5_isClosed_9 : decode cX5_isClosed 9 = .ok (.if_icmp .ge 7, 3) := by decide +kernel
theorem dX5_isClosed_12 : decode cX5_isClosed 12 = .ok (.iconst 1, 1) := by decide +kernel
theorem dX5_isClosed_13 : decode cX5_isClosed 13 = .ok (.goto 4, 3) := by decide +kernel
theorem dX5_isClosed_16 : decode cX5_isClosed 16 = .ok (.iconst 0, 1) := by decide +kernel
theorem dX5_isClosed_17 : decode cX5_isClosed 17 = .ok (.ireturn, 1) := by decide +kernel
theorem dX5_latestRace_0 : decode cX5_latestRace 0 = .ok (.aload_n 0, 1) := by decide +kernel
theorem dX5_latestRace_1 : decode cX5_latestRace 1 = .ok (.getfield 47, 3) := by decide +kernel
theorem dX5_latestRace_4 : decode cX5_latestRace 4 = .ok (.iconst 1, 1) := by decide +kernel
theorem dX5_latestRace_5 : decode cX5_latestRace 5 = .ok (.isub, 1) := by decide +kernel
theorem dX5_latestRace_6 : decode cX5_latestRace 6 = .ok (.ireturn, 1) := by decide +kernel
theorem dX5_start_0 : decode cX5_start 0 = .ok (.aload_n 0, 1) := by decide +kernel
theorem dX5_start_1 : decode cX5_start 1 = .ok (.getfield 23, 3) := by decide +kernel
theorem dX5_start_4 : decode cX5_start 4 = .ok (.aload_n 0, 1) := by decide +kernel
theorem dX5_start_5 : decode cX5_start 5 = .ok (.getfield 47, 3) := by decide +kernel
theorem dX5_start_8 : decode cX5_start 8 = .ok (.iconst 1, 1) := by decide +kernel
theorem dX5_start_9 : decode cX5_start 9 = .ok (.isub, 1) := by decide +kernel
theorem dX5_start_10 : decode cX5_start 10 = .ok (.iconst 2, 1) := by decide +kernel
theorem dX5_start_11 : decode cX5_start 11 = .ok (.invokevirtual 64, 3) := by decide +kernel
theorem dX5_start_14 : decode cX5_start 14 = .ok (.ireturn, 1) := by decide +kernel
theorem dX5_isStarted_0 : decode cX5_isStarted 0 = .ok (.aload_n 0, 1) := by decide +kernel
theorem dX5_isStarted_1 : decode cX5_isStarted 1 = .ok (.getfield 40, 3) := by decide +kernel
theorem dX5_isStarted_4 : decode cX5_isStarted 4 = .ok (.aload_n 0, 1) := by decide +kernel
theorem dX5_isStarted_5 : decode cX5_isStarted 5 = .ok (.invokevirtual 68, 3) := by decide +kernel
theorem dX5_isStarted_8 : decode cX5_isStarted 8 = .ok (.if_icmp .lt 7, 3) := by decide +kernel
theorem dX5_isStarted_11 : decode cX5_isStarted 11 = .ok (.iconst 1, 1) := by decide +kernel
theorem dX5_isStarted_12 : decode cX5_isStarted 12 = .ok (.goto 4, 3) := by decide +kernel
theorem dX5_isStarted_15 : decode cX5_isStarted 15 = .ok (.iconst 0, 1) := by decide +kernel
theorem dX5_isStarted_16 : decode cX5_isStarted 16 = .ok (.ireturn, 1) := by decide +kernel
theorem dX5_setting_0 : decode cX5_setting 0 = .ok (.aload_n 0, 1) := by decide +kernel
theorem dX5_setting_1 : decode cX5_setting 1 = .ok (.getfield 20, 3) := by decide +kernel
theorem dX5_setting_4 : decode cX5_setting 4 = .ok (.iload_n 1, 1) := by decide +kernel
theorem dX5_setting_5 : decode cX5_setting 5 = .ok (.iconst 0, 1) := by decide +kernel
theorem dX5_setting_6 : decode cX5_setting 6 = .ok (.invokevirtual 64, 3) := by decide +kernel
theorem dX5_setting_9 : decode cX5_setting 9 = .ok (.ireturn, 1) := by decide +kernel
theorem dX5_row_0 : decode cX5_row 0 = .ok (.iload_n 1, 1) := by decide +kernel
theorem dX5_row_1 : decode cX5_row 1 = .ok (.bipush 9, 2) := by decide +kernel
theorem dX5_row_3 : decode cX5_row 3 = .ok (.imul, 1) := by decide +kernel
theorem dX5_row_4 : decode cX5_row 4 = .ok (.iload_n 2, 1) := by decide +kernel
theorem dX5_row_5 : decode cX5_row 5 = .ok (.iadd, 1) := by decide +kernel
theorem dX5_row_6 : decode cX5_row 6 = .ok (.ireturn, 1) := by decide +kernel
theorem dX5_latestEntry_0 : decode cX5_latestEntry 0 = .ok (.aload_n 0, 1) := by decide +kernel
theorem dX5_latestEntry_1 : decode cX5_latestEntry 1 = .ok (.getfield 26, 3) := by decide +kernel
theorem dX5_latestEntry_4 : decode cX5_latestEntry 4 = .ok (.aload_n 0, 1) := by decide +kernel
theorem dX5_latestEntry_5 : decode cX5_latestEntry 5 = .ok (.aload_n 0, 1) := by decide +kernel
theorem dX5_latestEntry_6 : decode cX5_latestEntry 6 = .ok (.getfield 47, 3) := by decide +kernel
theorem dX5_latestEntry_9 : decode cX5_latestEntry 9 = .ok (.iconst 1, 1) := by decide +kernel
theorem dX5_latestEntry_10 : decode cX5_latestEntry 10 = .ok (.isub, 1) := by decide +kernel
theorem dX5_latestEntry_11 : decode cX5_latestEntry 11 = .ok (.iload_n 1, 1) := by decide +kernel
theorem dX5_latestEntry_12 : decode cX5_latestEntry 12 = .ok (.invokevirtual 71, 3) := by decide +kernel
theorem dX5_latestEntry_15 : decode cX5_latestEntry 15 = .ok (.iload_n 2, 1) := by decide +kernel
theorem dX5_latestEntry_16 : decode cX5_latestEntry 16 = .ok (.invokevirtual 64, 3) := by decide +kernel
theorem dX5_latestEntry_19 : decode cX5_latestEntry 19 = .ok (.ireturn, 1) := by decide +kernel
theorem dX5_putLatestEntry_0 : decode cX5_putLatestEntry 0 = .ok (.aload_n 0, 1) := by decide +kernel
theorem dX5_putLatestEntry_1 : decode cX5_putLatestEntry 1 = .ok (.getfield 26, 3) := by decide +kernel
theorem dX5_putLatestEntry_4 : decode cX5_putLatestEntry 4 = .ok (.aload_n 0, 1) := by decide +kernel
theorem dX5_putLatestEntry_5 : decode cX5_putLatestEntry 5 = .ok (.aload_n 0, 1) := by decide +kernel
theorem dX5_putLatestEntry_6 : decode cX5_putLatestEntry 6 = .ok (.getfield 47, 3) := by decide +kernel
theorem dX5_putLatestEntry_9 : decode cX5_putLatestEntry 9 = .ok (.iconst 1, 1) := by decide +kernel
theorem dX5_putLatestEntry_10 : decode cX5_putLatestEntry 10 = .ok (.isub, 1) := by decide +kernel
theorem dX5_putLatestEntry_11 : decode cX5_putLatestEntry 11 = .ok (.iload_n 1, 1) := by decide +kernel
theorem dX5_putLatestEntry_12 : decode cX5_putLatestEntry 12 = .ok (.invokevirtual 71, 3) := by decide +kernel
theorem dX5_putLatestEntry_15 : decode cX5_putLatestEntry 15 = .ok (.iload_n 2, 1) := by decide +kernel
theorem dX5_putLatestEntry_16 : decode cX5_putLatestEntry 16 = .ok (.iload_n 3, 1) := by decide +kernel
theorem dX5_putLatestEntry_17 : decode cX5_putLatestEntry 17 = .ok (.invokevirtual 36, 3) := by decide +kernel
theorem dX5_putLatestEntry_20 : decode cX5_putLatestEntry 20 = .ok (.return_, 1) := by decide +kernel
theorem dX5_isFinished_0 : decode cX5_isFinished 0 = .ok (.aload_n 0, 1) := by decide +kernel
theorem dX5_isFinished_1 : decode cX5_isFinished 1 = .ok (.getfield 26, 3) := by decide +kernel
theorem dX5_isFinished_4 : decode cX5_isFinished 4 = .ok (.aload_n 0, 1) := by decide +kernel
theorem dX5_isFinished_5 : decode cX5_isFinished 5 = .ok (.iload_n 1, 1) := by decide +kernel
theorem dX5_isFinished_6 : decode cX5_isFinished 6 = .ok (.iload_n 2, 1) := by decide +kernel
theorem dX5_isFinished_7 : decode cX5_isFinished 7 = .ok (.invokevirtual 71, 3) := by decide +kernel
theorem dX5_isFinished_10 : decode cX5_isFinished 10 = .ok (.iconst 0, 1) := by decide +kernel
theorem dX5_isFinished_11 : decode cX5_isFinished 11 = .ok (.invokevirtual 64, 3) := by decide +kernel
theorem dX5_isFinished_14 : decode cX5_isFinished 14 = .ok (.iconst 3, 1) := by decide +kernel
theorem dX5_isFinished_15 : decode cX5_isFinished 15 = .ok (.if_icmp .ne 7, 3) := by decide +kernel
theorem dX5_isFinished_18 : decode cX5_isFinished 18 = .ok (.iconst 1, 1) := by decide +kernel
theorem dX5_isFinished_19 : decode cX5_isFinished 19 = .ok (.goto 4, 3) := by decide +kernel
theorem dX5_isFinished_22 : decode cX5_isFinished 22 = .ok (.iconst 0, 1) := by decide +kernel
theorem dX5_isFinished_23 : decode cX5_isFinished 23 = .ok (.ireturn, 1) := by decide +kernel
theorem dX5_entriesWith_0 : decode cX5_entriesWith 0 = .ok (.iconst 0, 1) := by decide +kernel
theorem dX5_entriesWith_1 : decode cX5_entriesWith 1 = .ok (.istore 4, 2) := by decide +kernel
theorem dX5_entriesWith_3 : decode cX5_entriesWith 3 = .ok (.iconst 0, 1) := by decide +kernel
theorem dX5_entriesWith_4 : decode cX5_entriesWith 4 = .ok (.istore 5, 2) := by decide +kernel
theorem dX5_entriesWith_6 : decode cX5_entriesWith 6 = .ok (.iload 5, 2) := by decide +kernel
theorem dX5_entriesWith_8 : decode cX5_entriesWith 8 = .ok (.aload_n 0, 1) := by decide +kernel
theorem dX5_entriesWith_9 : decode cX5_entriesWith 9 = .ok (.getfield 44, 3) := by decide +kernel
theorem dX5_entriesWith_12 : decode cX5_entriesWith 12 = .ok (.if_icmp .ge 31, 3) := by decide +kernel
theorem dX5_entriesWith_15 : decode cX5_entriesWith 15 = .ok (.aload_n 0, 1) := by decide +kernel
theorem dX5_entriesWith_16 : decode cX5_entriesWith 16 = .ok (.getfield 26, 3) := by decide +kernel
theorem dX5_entriesWith_19 : decode cX5_entriesWith 19 = .ok (.aload_n 0, 1) := by decide +kernel
theorem dX5_entriesWith_20 : decode cX5_entriesWith 20 = .ok (.iload_n 1, 1) := by decide +kernel
theorem dX5_entriesWith_21 : decode cX5_entriesWith 21 = .ok (.iload 5, 2) := by decide +kernel
theorem dX5_entriesWith_23 : decode cX5_entriesWith 23 = .ok (.invokevirtual 71, 3) := by decide +kernel
theorem dX5_entriesWith_26 : decode cX5_entriesWith 26 = .ok (.iload_n 2, 1) := by decide +kernel
theorem dX5_entriesWith_27 : decode cX5_entriesWith 27 = .ok (.invokevirtual 64, 3) := by decide +kernel
theorem dX5_entriesWith_30 : decode cX5_entriesWith 30 = .ok (.iload_n 3, 1) := by decide +kernel
theorem dX5_entriesWith_31 : decode cX5_entriesWith 31 = .ok (.if_icmp .ne 6, 3) := by decide +kernel
theorem dX5_entriesWith_34 : decode cX5_entriesWith 34 = .ok (.iinc 4 1, 3) := by decide +kernel
theorem dX5_entriesWith_37 : decode cX5_entriesWith 37 = .ok (.iinc 5 1, 3) := by decide +kernel
theorem dX5_entriesWith_40 : decode cX5_entriesWith 40 = .ok (.goto (-34), 3) := by decide +kernel
theorem dX5_entriesWith_43 : decode cX5_entriesWith 43 = .ok (.iload 4, 2) := by decide +kernel
theorem dX5_entriesWith_45 : decode cX5_entriesWith 45 = .ok (.ireturn, 1) := by decide +kernel
theorem dX5_elapsedUntil_0 : decode cX5_elapsedUntil 0 = .ok (.iload_n 1, 1) := by decide +kernel
theorem dX5_elapsedUntil_1 : decode cX5_elapsedUntil 1 = .ok (.aload_n 0, 1) := by decide +kernel
theorem dX5_elapsedUntil_2 : decode cX5_elapsedUntil 2 = .ok (.getfield 23, 3) := by decide +kernel
theorem dX5_elapsedUntil_5 : decode cX5_elapsedUntil 5 = .ok (.iload_n 2, 1) := by decide +kernel
theorem dX5_elapsedUntil_6 : decode cX5_elapsedUntil 6 = .ok (.iconst 2, 1) := by decide +kernel
theorem dX5_elapsedUntil_7 : decode cX5_elapsedUntil 7 = .ok (.invokevirtual 64, 3) := by decide +kernel
theorem dX5_elapsedUntil_10 : decode cX5_elapsedUntil 10 = .ok (.isub, 1) := by decide +kernel
theorem dX5_elapsedUntil_11 : decode cX5_elapsedUntil 11 = .ok (.aload_n 0, 1) := by decide +kernel
theorem dX5_elapsedUntil_12 : decode cX5_elapsedUntil 12 = .ok (.getfield 26, 3) := by decide +kernel
theorem dX5_elapsedUntil_15 : decode cX5_elapsedUntil 15 = .ok (.aload_n 0, 1) := by decide +kernel
theorem dX5_elapsedUntil_16 : decode cX5_elapsedUntil 16 = .ok (.iload_n 2, 1) := by decide +kernel
theorem dX5_elapsedUntil_17 : decode cX5_elapsedUntil 17 = .ok (.iload_n 3, 1) := by decide +kernel
theorem dX5_elapsedUntil_18 : decode cX5_elapsedUntil 18 = .ok (.invokevirtual 71, 3) := by decide +kernel
theorem dX5_elapsedUntil_21 : decode cX5_elapsedUntil 21 = .ok (.iconst 3, 1) := by decide +kernel
theorem dX5_elapsedUntil_22 : decode cX5_elapsedUntil 22 = .ok (.invokevirtual 64, 3) := by decide +kernel
theorem dX5_elapsedUntil_25 : decode cX5_elapsedUntil 25 = .ok (.iadd, 1) := by decide +kernel
theorem dX5_elapsedUntil_26 : decode cX5_elapsedUntil 26 = .ok (.ireturn, 1) := by decide +kernel
theorem dX5_elapsed_0 : decode cX5_elapsed 0 = .ok (.aload_n 0, 1) := by decide +kernel
theorem dX5_elapsed_1 : decode cX5_elapsed 1 = .ok (.iload_n 1, 1) := by decide +kernel
theorem dX5_elapsed_2 : decode cX5_elapsed 2 = .ok (.iload_n 2, 1) := by decide +kernel
theorem dX5_elapsed_3 : decode cX5_elapsed 3 = .ok (.invokevirtual 74, 3) := by decide +kernel
theorem dX5_elapsed_6 : decode cX5_elapsed 6 = .ok (.ifCond .ne 6, 3) := by decide +kernel
theorem dX5_elapsed_9 : decode cX5_elapsed 9 = .ok (.bipush (-5), 2) := by decide +kernel
theorem dX5_elapsed_11 : decode cX5_elapsed 11 = .ok (.ireturn, 1) := by decide +kernel
theorem dX5_elapsed_12 : decode cX5_elapsed 12 = .ok (.aload_n 0, 1) := by decide +kernel
theorem dX5_elapsed_13 : decode cX5_elapsed 13 = .ok (.aload_n 0, 1) := by decide +kernel
theorem dX5_elapsed_14 : decode cX5_elapsed 14 = .ok (.getfield 26, 3) := by decide +kernel
theorem dX5_elapsed_17 : decode cX5_elapsed 17 = .ok (.aload_n 0, 1) := by decide +kernel
theorem dX5_elapsed_18 : decode cX5_elapsed 18 = .ok (.iload_n 1, 1) := by decide +kernel
theorem dX5_elapsed_19 : decode cX5_elapsed 19 = .ok (.iload_n 2, 1) := by decide +kernel
theorem dX5_elapsed_20 : decode cX5_elapsed 20 = .ok (.invokevirtual 71, 3) := by decide +kernel
theorem dX5_elapsed_23 : decode cX5_elapsed 23 = .ok (.iconst 5, 1) := by decide +kernel
theorem dX5_elapsed_24 : decode cX5_elapsed 24 = .ok (.invokevirtual 64, 3) := by decide +kernel
theorem dX5_elapsed_27 : decode cX5_elapsed 27 = .ok (.iload_n 1, 1) := by decide +kernel
theorem dX5_elapsed_28 : decode cX5_elapsed 28 = .ok (.iload_n 2, 1) := by decide +kernel
theorem dX5_elapsed_29 : decode cX5_elapsed 29 = .ok (.invokevirtual 78, 3) := by decide +kernel
theorem dX5_elapsed_32 : decode cX5_elapsed 32 = .ok (.ireturn, 1) := by decide +kernel
theorem dX5_corrected_0 : decode cX5_corrected 0 = .ok (.aload_n 0, 1) := by decide +kernel
theorem dX5_corrected_1 : decode cX5_corrected 1 = .ok (.getfield 14, 3) := by decide +kernel
theorem dX5_corrected_4 : decode cX5_corrected 4 = .ok (.iload_n 2, 1) := by decide +kernel
theorem dX5_corrected_5 : decode cX5_corrected 5 = .ok (.iconst 0, 1) := by decide +kernel
theorem dX5_corrected_6 : decode cX5_corrected 6 = .ok (.invokevirtual 64, 3) := by decide +kernel
theorem dX5_corrected_9 : decode cX5_corrected 9 = .ok (.istore_n 3, 1) := by decide +kernel
theorem dX5_corrected_10 : decode cX5_corrected 10 = .ok (.aload_n 0, 1) := by decide +kernel
theorem dX5_corrected_11 : decode cX5_corrected 11 = .ok (.iload_n 1, 1) := by decide +kernel
theorem dX5_corrected_12 : decode cX5_corrected 12 = .ok (.iload_n 2, 1) := by decide +kernel
theorem dX5_corrected_13 : decode cX5_corrected 13 = .ok (.invokevirtual 74, 3) := by decide +kernel
theorem dX5_corrected_16 : decode cX5_corrected 16 = .ok (.ifCond .eq 7, 3) := by decide +kernel
theorem dX5_corrected_19 : decode cX5_corrected 19 = .ok (.iload_n 3, 1) := by decide +kernel
theorem dX5_corrected_20 : decode cX5_corrected 20 = .ok (.ifCond .gt 6, 3) := by decide +kernel
theorem dX5_corrected_23 : decode cX5_corrected 23 = .ok (.bipush (-5), 2) := by decide +kernel
theorem dX5_corrected_25 : decode cX5_corrected 25 = .ok (.ireturn, 1) := by decide +kernel
theorem dX5_corrected_26 : decode cX5_corrected 26 = .ok (.aload_n 0, 1) := by decide +kernel
theorem dX5_corrected_27 : decode cX5_corrected 27 = .ok (.getfield 26, 3) := by decide +kernel
theorem dX5_corrected_30 : decode cX5_corrected 30 = .ok (.aload_n 0, 1) := by decide +kernel
theorem dX5_corrected_31 : decode cX5_corrected 31 = .ok (.iload_n 1, 1) := by decide +kernel
theorem dX5_corrected_32 : decode cX5_corrected 32 = .ok (.iload_n 2, 1) := by decide +kernel
theorem dX5_corrected_33 : decode cX5_corrected 33 = .ok (.invokevirtual 71, 3) := by decide +kernel
theorem dX5_corrected_36 : decode cX5_corrected 36 = .ok (.iconst 5, 1) := by decide +kernel
theorem dX5_corrected_37 : decode cX5_corrected 37 = .ok (.invokevirtual 64, 3) := by decide +kernel
theorem dX5_corrected_40 : decode cX5_corrected 40 = .ok (.istore 4, 2) := by decide +kernel
theorem dX5_corrected_42 : decode cX5_corrected 42 = .ok (.bipush 100, 2) := by decide +kernel
theorem dX5_corrected_44 : decode cX5_corrected 44 = .ok (.aload_n 0, 1) := by decide +kernel
theorem dX5_corrected_45 : decode cX5_corrected 45 = .ok (.iload 4, 2) := by decide +kernel
theorem dX5_corrected_47 : decode cX5_corrected 47 = .ok (.iload_n 1, 1) := by decide +kernel
theorem dX5_corrected_48 : decode cX5_corrected 48 = .ok (.iload_n 2, 1) := by decide +kernel
theorem dX5_corrected_49 : decode cX5_corrected 49 = .ok (.invokevirtual 78, 3) := by decide +kernel
theorem dX5_corrected_52 : decode cX5_corrected 52 = .ok (.imul, 1) := by decide +kernel
theorem dX5_corrected_53 : decode cX5_corrected 53 = .ok (.iload_n 3, 1) := by decide +kernel
theorem dX5_corrected_54 : decode cX5_corrected 54 = .ok (.idiv, 1) := by decide +kernel
theorem dX5_corrected_55 : decode cX5_corrected 55 = .ok (.ireturn, 1) := by decide +kernel
theorem dX6_init_0 : decode cX6_init 0 = .ok (.aload_n 0, 1) := by decide +kernel
theorem dX6_init_1 : decode cX6_init 1 = .ok (.invokespecial 1, 3) := by decide +kernel
theorem dX6_init_4 : decode cX6_init 4 = .ok (.aload_n 0, 1) := by decide +kernel
theorem dX6_init_5 : decode cX6_init 5 = .ok (.iload_n 2, 1) := by decide +kernel
theorem dX6_init_6 : decode cX6_init 6 = .ok (.putfield 7, 3) := by decide +kernel
theorem dX6_init_9 : decode cX6_init 9 = .ok (.aload_n 0, 1) := by decide +kernel
theorem dX6_init_10 : decode cX6_init 10 = .ok (.iconst 0, 1) := by decide +kernel
theorem dX6_init_11 : decode cX6_init 11 = .ok (.iload_n 1, 1) := by decide +kernel
theorem dX6_init_12 : decode cX6_init 12 = .ok (.iload_n 2, 1) := by decide +kernel
theorem dX6_init_13 : decode cX6_init 13 = .ok (.imul, 1) := by decide +kernel
theorem dX6_init_14 : decode cX6_init 14 = .ok (.invokestatic 13, 3) := by decide +kernel
theorem dX6_init_17 : decode cX6_init 17 = .ok (.newarray .int, 2) := by decide +kernel
theorem dX6_init_19 : decode cX6_init 19 = .ok (.putfield 19, 3) := by decide +kernel
theorem dX6_init_22 : decode cX6_init 22 = .ok (.return_, 1) := by decide +kernel
theorem dX6_get_0 : decode cX6_get 0 = .ok (.iload_n 1, 1) := by decide +kernel
theorem dX6_get_1 : decode cX6_get 1 = .ok (.aload_n 0, 1) := by decide +kernel
theorem dX6_get_2 : decode cX6_get 2 = .ok (.getfield 7, 3) := by decide +kernel
theorem dX6_get_5 : decode cX6_get 5 = .ok (.imul, 1) := by decide +kernel
theorem dX6_get_6 : decode cX6_get 6 = .ok (.iload_n 2, 1) := by decide +kernel
theorem dX6_get_7 : decode cX6_get 7 = .ok (.iadd, 1) := by decide +kernel
theorem dX6_get_8 : decode cX6_get 8 = .ok (.istore_n 3, 1) := by decide +kernel
theorem dX6_get_9 : decode cX6_get 9 = .ok (.iload_n 3, 1) := by decide +kernel
theorem dX6_get_10 : decode cX6_get 10 = .ok (.ifCond .lt 21, 3) := by decide +kernel
theorem dX6_get_13 : decode cX6_get 13 = .ok (.iload_n 3, 1) := by decide +kernel
theorem dX6_get_14 : decode cX6_get 14 = .ok (.aload_n 0, 1) := by decide +kernel
theorem dX6_get_15 : decode cX6_get 15 = .ok (.getfield 19, 3) := by decide +kernel
theorem dX6_get_18 : decode cX6_get 18 = .ok (.arraylength, 1) := by decide +kernel
theorem dX6_get_19 : decode cX6_get 19 = .ok (.if_icmp .ge 12, 3) := by decide +kernel
theorem dX6_get_22 : decode cX6_get 22 = .ok (.aload_n 0, 1) := by decide +kernel
theorem dX6_get_23 : decode cX6_get 23 = .ok (.getfield 19, 3) := by decide +kernel
theorem dX6_get_26 : decode cX6_get 26 = .ok (.iload_n 3, 1) := by decide +kernel
theorem dX6_get_27 : decode cX6_get 27 = .ok (.iaload, 1) := by decide +kernel
theorem dX6_get_28 : decode cX6_get 28 = .ok (.goto 4, 3) := by decide +kernel
theorem dX6_get_31 : decode cX6_get 31 = .ok (.iconst 0, 1) := by decide +kernel
theorem dX6_get_32 : decode cX6_get 32 = .ok (.ireturn, 1) := by decide +kernel
theorem dX6_put_0 : decode cX6_put 0 = .ok (.iload_n 1, 1) := by decide +kernel
theorem dX6_put_1 : decode cX6_put 1 = .ok (.aload_n 0, 1) := by decide +kernel
theorem dX6_put_2 : decode cX6_put 2 = .ok (.getfield 7, 3) := by decide +kernel
theorem dX6_put_5 : decode cX6_put 5 = .ok (.imul, 1) := by decide +kernel
theorem dX6_put_6 : decode cX6_put 6 = .ok (.iload_n 2, 1) := by decide +kernel
theorem dX6_put_7 : decode cX6_put 7 = .ok (.iadd, 1) := by decide +kernel
theorem dX6_put_8 : decode cX6_put 8 = .ok (.istore 4, 2) := by decide +kernel
theorem dX6_put_10 : decode cX6_put 10 = .ok (.iload 4, 2) := by decide +kernel
theorem dX6_put_12 : decode cX6_put 12 = .ok (.ifCond .lt 21, 3) := by decide +kernel
theorem dX6_put_15 : decode cX6_put 15 = .ok (.iload 4, 2) := by decide +kernel
theorem dX6_put_17 : decode cX6_put 17 = .ok (.aload_n 0, 1) := by decide +kernel
theorem dX6_put_18 : decode cX6_put 18 = .ok (.getfield 19, 3) := by decide +kernel
theorem dX6_put_21 : decode cX6_put 21 = .ok (.arraylength, 1) := by decide +kernel
theorem dX6_put_22 : decode cX6_put 22 = .ok (.if_icmp .ge 11, 3) := by decide +kernel
theorem dX6_put_25 : decode cX6_put 25 = .ok (.aload_n 0, 1) := by decide +kernel
theorem dX6_put_26 : decode cX6_put 26 = .ok (.getfield 19, 3) := by decide +kernel
theorem dX6_put_29 : decode cX6_put 29 = .ok (.iload 4, 2) := by decide +kernel
theorem dX6_put_31 : decode cX6_put 31 = .ok (.iload_n 3, 1) := by decide +kernel
theorem dX6_put_32 : decode cX6_put 32 = .ok (.iastore, 1) := by decide +kernel
theorem dX6_put_33 : decode cX6_put 33 = .ok (.return_, 1) := by decide +kernel
theorem dX6_add_0 : decode cX6_add 0 = .ok (.aload_n 0, 1) := by decide +kernel
theorem dX6_add_1 : decode cX6_add 1 = .ok (.iload_n 1, 1) := by decide +kernel
theorem dX6_add_2 : decode cX6_add 2 = .ok (.iload_n 2, 1) := by decide +kernel
theorem dX6_add_3 : decode cX6_add 3 = .ok (.aload_n 0, 1) := by decide +kernel
theorem dX6_add_4 : decode cX6_add 4 = .ok (.iload_n 1, 1) := by decide +kernel
theorem dX6_add_5 : decode cX6_add 5 = .ok (.iload_n 2, 1) := by decide +kernel
theorem dX6_add_6 : decode cX6_add 6 = .ok (.invokevirtual 23, 3) := by decide +kernel
theorem dX6_add_9 : decode cX6_add 9 = .ok (.iload_n 3, 1) := by decide +kernel
theorem dX6_add_10 : decode cX6_add 10 = .ok (.iadd, 1) := by decide +kernel
theorem dX6_add_11 : decode cX6_add 11 = .ok (.invokevirtual 26, 3) := by decide +kernel
theorem dX6_add_14 : decode cX6_add 14 = .ok (.return_, 1) := by decide +kernel
theorem dX6_clearRow_0 : decode cX6_clearRow 0 = .ok (.iconst 0, 1) := by decide +kernel
theorem dX6_clearRow_1 : decode cX6_clearRow 1 = .ok (.istore_n 2, 1) := by decide +kernel
theorem dX6_clearRow_2 : decode cX6_clearRow 2 = .ok (.iload_n 2, 1) := by decide +kernel
theorem dX6_clearRow_3 : decode cX6_clearRow 3 = .ok (.aload_n 0, 1) := by decide +kernel
theorem dX6_clearRow_4 : decode cX6_clearRow 4 = .ok (.getfield 7, 3) := by decide +kernel
theorem dX6_clearRow_7 : decode cX6_clearRow 7 = .ok (.if_icmp .ge 16, 3) := by decide +kernel
theorem dX6_clearRow_10 : decode cX6_clearRow 10 = .ok (.aload_n 0, 1) := by decide +kernel
theorem dX6_clearRow_11 : decode cX6_clearRow 11 = .ok (.iload_n 1, 1) := by decide +kernel
theorem dX6_clearRow_12 : decode cX6_clearRow 12 = .ok (.iload_n 2, 1) := by decide +kernel
theorem dX6_clearRow_13 : decode cX6_clearRow 13 = .ok (.iconst 0, 1) := by decide +kernel
theorem dX6_clearRow_14 : decode cX6_clearRow 14 = .ok (.invokevirtual 26, 3) := by decide +kernel
theorem dX6_clearRow_17 : decode cX6_clearRow 17 = .ok (.iinc 2 1, 3) := by decide +kernel
theorem dX6_clearRow_20 : decode cX6_clearRow 20 = .ok (.goto (-18), 3) := by decide +kernel
theorem dX6_clearRow_23 : decode cX6_clearRow 23 = .ok (.return_, 1) := by decide +kernel
theorem dX6_copyFrom_0 : decode cX6_copyFrom 0 = .ok (.aload_n 0, 1) := by decide +kernel
theorem dX6_copyFrom_1 : decode cX6_copyFrom 1 = .ok (.getfield 19, 3) := by decide +kernel
theorem dX6_copyFrom_4 : decode cX6_copyFrom 4 = .ok (.arraylength, 1) := by decide +kernel
theorem dX6_copyFrom_5 : decode cX6_copyFrom 5 = .ok (.aload_n 1, 1) := by decide +kernel
theorem dX6_copyFrom_6 : decode cX6_copyFrom 6 = .ok (.getfield 19, 3) := by decide +kernel
theorem dX6_copyFrom_9 : decode cX6_copyFrom 9 = .ok (.arraylength, 1) := by decide +kernel
theorem dX6_copyFrom_10 : decode cX6_copyFrom 10 = .ok (.invokestatic 30, 3) := by decide +kernel
theorem dX6_copyFrom_13 : decode cX6_copyFrom 13 = .ok (.istore_n 2, 1) := by decide +kernel
theorem dX6_copyFrom_14 : decode cX6_copyFrom 14 = .ok (.aload_n 1, 1) := by decide +kernel
theorem dX6_copyFrom_15 : decode cX6_copyFrom 15 = .ok (.getfield 19, 3) := by decide +kernel
theorem dX6_copyFrom_18 : decode cX6_copyFrom 18 = .ok (.iconst 0, 1) := by decide +kernel
theorem dX6_copyFrom_19 : decode cX6_copyFrom 19 = .ok (.aload_n 0, 1) := by decide +kernel
theorem dX6_copyFrom_20 : decode cX6_copyFrom 20 = .ok (.getfield 19, 3) := by decide +kernel
theorem dX6_copyFrom_23 : decode cX6_copyFrom 23 = .ok (.iconst 0, 1) := by decide +kernel
theorem dX6_copyFrom_24 : decode cX6_copyFrom 24 = .ok (.iload_n 2, 1) := by decide +kernel
theorem dX6_copyFrom_25 : decode cX6_copyFrom 25 = .ok (.invokestatic 33, 3) := by decide +kernel
theorem dX6_copyFrom_28 : decode cX6_copyFrom 28 = .ok (.return_, 1) := by decide +kernel
theorem dX7_init_0 : decode cX7_init 0 = .ok (.aload_n 0, 1) := by decide +kernel
theorem dX7_init_1 : decode cX7_init 1 = .ok (.invokespecial 1, 3) := by decide +kernel
theorem dX7_init_4 : decode cX7_init 4 = .ok (.aload_n 0, 1) := by decide +kernel
theorem dX7_init_5 : decode cX7_init 5 = .ok (.new 7, 3) := by decide +kernel
theorem dX7_init_8 : decode cX7_init 8 = .ok (.dup, 1) := by decide +kernel
theorem dX7_init_9 : decode cX7_init 9 = .ok (.invokespecial 9, 3) := by decide +kernel
theorem dX7_init_12 : decode cX7_init 12 = .ok (.putfield 10, 3) := by decide +kernel
theorem dX7_init_15 : decode cX7_init 15 = .ok (.aload_n 0, 1) := by decide +kernel
theorem dX7_init_16 : decode cX7_init 16 = .ok (.new 16, 3) := by decide +kernel
theorem dX7_init_19 : decode cX7_init 19 = .ok (.dup, 1) := by decide +kernel
theorem dX7_init_20 : decode cX7_init 20 = .ok (.aload_n 0, 1) := by decide +kernel
theorem dX7_init_21 : decode cX7_init 21 = .ok (.getfield 10, 3) := by decide +kernel
theorem dX7_init_24 : decode cX7_init 24 = .ok (.invokespecial 18, 3) := by decide +kernel
theorem dX7_init_27 : decode cX7_init 27 = .ok (.putfield 21, 3) := by decide +kernel
theorem dX7_init_30 : decode cX7_init 30 = .ok (.aload_n 0, 1) := by decide +kernel
theorem dX7_init_31 : decode cX7_init 31 = .ok (.new 25, 3) := by decide +kernel
theorem dX7_init_34 : decode cX7_init 34 = .ok (.dup, 1) := by decide +kernel
theorem dX7_init_35 : decode cX7_init 35 = .ok (.aload_n 0, 1) := by decide +kernel
theorem dX7_init_36 : decode cX7_init 36 = .ok (.getfield 10, 3) := by decide +kernel
theorem dX7_init_39 : decode cX7_init 39 = .ok (.invokespecial 27, 3) := by decide +kernel
theorem dX7_init_42 : decode cX7_init 42 = .ok (.putfield 28, 3) := by decide +kernel
theorem dX7_init_45 : decode cX7_init 45 = .ok (.aload_n 0, 1) := by decide +kernel
theorem dX7_init_46 : decode cX7_init 46 = .ok (.new 32, 3) := by decide +kernel
theorem dX7_init_49 : decode cX7_init 49 = .ok (.dup, 1) := by decide +kernel
theorem dX7_init_50 : decode cX7_init 50 = .ok (.aload_n 0, 1) := by decide +kernel
theorem dX7_init_51 : decode cX7_init 51 = .ok (.getfield 10, 3) := by decide +kernel
theorem dX7_init_54 : decode cX7_init 54 = .ok (.invokespecial 34, 3) := by decide +kernel
theorem dX7_init_57 : decode cX7_init 57 = .ok (.putfield 35, 3) := by decide +kernel
theorem dX7_init_60 : decode cX7_init 60 = .ok (.aload_n 0, 1) := by decide +kernel
theorem dX7_init_61 : decode cX7_init 61 = .ok (.new 7, 3) := by decide +kernel
theorem dX7_init_64 : decode cX7_init 64 = .ok (.dup, 1) := by decide +kernel
theorem dX7_init_65 : decode cX7_init 65 = .ok (.invokespecial 9, 3) := by decide +kernel
theorem dX7_init_68 : decode cX7_init 68 = .ok (.putfield 39, 3) := by decide +kernel
theorem dX7_init_71 : decode cX7_init 71 = .ok (.aload_n 0, 1) := by decide +kernel
theorem dX7_init_72 : decode cX7_init 72 = .ok (.new 32, 3) := by decide +kernel
theorem dX7_init_75 : decode cX7_init 75 = .ok (.dup, 1) := by decide +kernel
theorem dX7_init_76 : decode cX7_init 76 = .ok (.aload_n 0, 1) := by decide +kernel
theorem dX7_init_77 : decode cX7_init 77 = .ok (.getfield 39, 3) := by decide +kernel
theorem dX7_init_80 : decode cX7_init 80 = .ok (.invokespecial 34, 3) := by decide +kernel
theorem dX7_init_83 : decode cX7_init 83 = .ok (.putfield 42, 3) := by decide +kernel
theorem dX7_init_86 : decode cX7_init 86 = .ok (.aload_n 0, 1) := by decide +kernel
theorem dX7_init_87 : decode cX7_init 87 = .ok (.new 45, 3) := by decide +kernel
theorem dX7_init_90 : decode cX7_init 90 = .ok (.dup, 1) := by decide +kernel
theorem dX7_init_91 : decode cX7_init 91 = .ok (.invokespecial 47, 3) := by decide +kernel
theorem dX7_init_94 : decode cX7_init 94 = .ok (.putfield 48, 3) := by decide +kernel
theorem dX7_init_97 : decode cX7_init 97 = .ok (.aload_n 0, 1) := by decide +kernel
theorem dX7_init_98 : decode cX7_init 98 = .ok (.new 7, 3) := by decide +kernel
theorem dX7_init_101 : decode cX7_init 101 = .ok (.dup, 1) := by decide +kernel
theorem dX7_init_102 : decode cX7_init 102 = .ok (.invokespecial 9, 3) := by decide +kernel
theorem dX7_init_105 : decode cX7_init 105 = .ok (.putfield 52, 3) := by decide +kernel
theorem dX7_init_108 : decode cX7_init 108 = .ok (.aload_n 0, 1) := by decide +kernel
theorem dX7_init_109 : decode cX7_init 109 = .ok (.iconst 0, 1) := by decide +kernel
theorem dX7_init_110 : decode cX7_init 110 = .ok (.putfield 55, 3) := by decide +kernel
theorem dX7_init_113 : decode cX7_init 113 = .ok (.aload_n 0, 1) := by decide +kernel
theorem dX7_init_114 : decode cX7_init 114 = .ok (.new 59, 3) := by decide +kernel
theorem dX7_init_117 : decode cX7_init 117 = .ok (.dup, 1) := by decide +kernel
theorem dX7_init_118 : decode cX7_init 118 = .ok (.invokespecial 61, 3) := by decide +kernel
theorem dX7_init_121 : decode cX7_init 121 = .ok (.putfield 62, 3) := by decide +kernel
theorem dX7_init_124 : decode cX7_init 124 = .ok (.return_, 1) := by decide +kernel
theorem dX7_enter_0 : decode cX7_enter 0 = .ok (.aload_n 0, 1) := by decide +kernel
theorem dX7_enter_1 : decode cX7_enter 1 = .ok (.getfield 48, 3) := by decide +kernel
theorem dX7_enter_4 : decode cX7_enter 4 = .ok (.aload_n 0, 1) := by decide +kernel
theorem dX7_enter_5 : decode cX7_enter 5 = .ok (.getfield 10, 3) := by decide +kernel
theorem dX7_enter_8 : decode cX7_enter 8 = .ok (.invokevirtual 66, 3) := by decide +kernel
theorem dX7_enter_11 : decode cX7_enter 11 = .ok (.aload_n 0, 1) := by decide +kernel
theorem dX7_enter_12 : decode cX7_enter 12 = .ok (.getfield 48, 3) := by decide +kernel
theorem dX7_enter_15 : decode cX7_enter 15 = .ok (.aload_n 0, 1) := by decide +kernel
theorem dX7_enter_16 : decode cX7_enter 16 = .ok (.getfield 21, 3) := by decide +kernel
theorem dX7_enter_19 : decode cX7_enter 19 = .ok (.iload_n 1, 1) := by decide +kernel
theorem dX7_enter_20 : decode cX7_enter 20 = .ok (.invokevirtual 69, 3) := by decide +kernel
theorem dX7_enter_23 : decode cX7_enter 23 = .ok (.invokevirtual 73, 3) := by decide +kernel
theorem dX7_enter_26 : decode cX7_enter 26 = .ok (.ireturn, 1) := by decide +kernel
theorem dX7_prepare_0 : decode cX7_prepare 0 = .ok (.aload_n 0, 1) := by decide +kernel
theorem dX7_prepare_1 : decode cX7_prepare 1 = .ok (.getfield 48, 3) := by decide +kernel
theorem dX7_prepare_4 : decode cX7_prepare 4 = .ok (.aload_n 0, 1) := by decide +kernel
theorem dX7_prepare_5 : decode cX7_prepare 5 = .ok (.getfield 10, 3) := by decide +kernel
theorem dX7_prepare_8 : decode cX7_prepare 8 = .ok (.invokevirtual 66, 3) := by decide +kernel
theorem dX7_prepare_11 : decode cX7_prepare 11 = .ok (.aload_n 0, 1) := by decide +kernel
theorem dX7_prepare_12 : decode cX7_prepare 12 = .ok (.getfield 48, 3) := by decide +kernel
theorem dX7_prepare_15 : decode cX7_prepare 15 = .ok (.aload_n 0, 1) := by decide +kernel
theorem dX7_prepare_16 : decode cX7_prepare 16 = .ok (.getfield 21, 3) := by decide +kernel
theorem dX7_prepare_19 : decode cX7_prepare 19 = .ok (.iload_n 1, 1) := by decide +kernel
theorem dX7_prepare_20 : decode cX7_prepare 20 = .ok (.iload_n 2, 1) := by decide +kernel
theorem dX7_prepare_21 : decode cX7_prepare 21 = .ok (.iload_n 3, 1) := by decide +kernel
theorem dX7_prepare_22 : decode cX7_prepare 22 = .ok (.invokevirtual 76, 3) := by decide +kernel
theorem dX7_prepare_25 : decode cX7_prepare 25 = .ok (.invokevirtual 73, 3) := by decide +kernel
theorem dX7_prepare_28 : decode cX7_prepare 28 = .ok (.ireturn, 1) := by decide +kernel
theorem dX7_postpone_0 : decode cX7_postpone 0 = .ok (.aload_n 0, 1) := by decide +kernel
theorem dX7_postpone_1 : decode cX7_postpone 1 = .ok (.getfield 48, 3) := by decide +kernel
theorem dX7_postpone_4 : decode cX7_postpone 4 = .ok (.aload_n 0, 1) := by decide +kernel
theorem dX7_postpone_5 : decode cX7_postpone 5 = .ok (.getfield 10, 3) := by decide +kernel
theorem dX7_postpone_8 : decode cX7_postpone 8 = .ok (.invokevirtual 66, 3) := by decide +kernel
theorem dX7_postpone_11 : decode cX7_postpone 11 = .ok (.aload_n 0, 1) := by decide +kernel
theorem dX7_postpone_12 : decode cX7_postpone 12 = .ok (.getfield 48, 3) := by decide +kernel
theorem dX7_postpone_15 : decode cX7_postpone 15 = .ok (.aload_n 0, 1) := by decide +kernel
theorem dX7_postpone_16 : decode cX7_postpone 16 = .ok (.getfield 21, 3) := by decide +kernel
theorem dX7_postpone_19 : decode cX7_postpone 19 = .ok (.iload_n 1, 1) := by decide +kernel
theorem dX7_postpone_20 : decode cX7_postpone 20 = .ok (.invokevirtual 80, 3) := by decide +kernel
theorem dX7_postpone_23 : decode cX7_postpone 23 = .ok (.invokevirtual 73, 3) := by decide +kernel
theorem dX7_postpone_26 : decode cX7_postpone 26 = .ok (.ireturn, 1) := by decide +kernel
theorem dX7_recall_0 : decode cX7_recall 0 = .ok (.aload_n 0, 1) := by decide +kernel
theorem dX7_recall_1 : decode cX7_recall 1 = .ok (.getfield 48, 3) := by decide +kernel
theorem dX7_recall_4 : decode cX7_recall 4 = .ok (.aload_n 0, 1) := by decide +kernel
theorem dX7_recall_5 : decode cX7_recall 5 = .ok (.getfield 10, 3) := by decide +kernel
theorem dX7_recall_8 : decode cX7_recall 8 = .ok (.invokevirtual 66, 3) := by decide +kernel
theorem dX7_recall_11 : decode cX7_recall 11 = .ok (.aload_n 0, 1) := by decide +kernel
theorem dX7_recall_12 : decode cX7_recall 12 = .ok (.getfield 48, 3) := by decide +kernel
theorem dX7_recall_15 : decode cX7_recall 15 = .ok (.aload_n 0, 1) := by decide +kernel
theorem dX7_recall_16 : decode cX7_recall 16 = .ok (.getfield 21, 3) := by decide +kernel
theorem dX7_recall_19 : decode cX7_recall 19 = .ok (.invokevirtual 83, 3) := by decide +kernel
theorem dX7_recall_22 : decode cX7_recall 22 = .ok (.invokevirtual 73, 3) := by decide +kernel
theorem dX7_recall_25 : decode cX7_recall 25 = .ok (.ireturn, 1) := by decide +kernel
theorem dX7_pass_0 : decode cX7_pass 0 = .ok (.aload_n 0, 1) := by decide +kernel
theorem dX7_pass_1 : decode cX7_pass 1 = .ok (.getfield 48, 3) := by decide +kernel
theorem dX7_pass_4 : decode cX7_pass 4 = .ok (.aload_n 0, 1) := by decide +kernel
theorem dX7_pass_5 : decode cX7_pass 5 = .ok (.getfield 10, 3) := by decide +kernel
theorem dX7_pass_8 : decode cX7_pass 8 = .ok (.invokevirtual 66, 3) := by decide +kernel
theorem dX7_pass_11 : decode cX7_pass 11 = .ok (.aload_n 0, 1) := by decide +kernel
theorem dX7_pass_12 : decode cX7_pass 12 = .ok (.getfield 48, 3) := by decide +kernel
theorem dX7_pass_15 : decode cX7_pass 15 = .ok (.aload_n 0, 1) := by decide +kernel
theorem dX7_pass_16 : decode cX7_pass 16 = .ok (.getfield 21, 3) := by decide +kernel
theorem dX7_pass_19 : decode cX7_pass 19 = .ok (.iload_n 1, 1) := by decide +kernel
theorem dX7_pass_20 : decode cX7_pass 20 = .ok (.invokevirtual 87, 3) := by decide +kernel
theorem dX7_pass_23 : decode cX7_pass 23 = .ok (.invokevirtual 73, 3) := by decide +kernel
theorem dX7_pass_26 : decode cX7_pass 26 = .ok (.ireturn, 1) := by decide +kernel
theorem dX7_line_0 : decode cX7_line 0 = .ok (.aload_n 0, 1) := by decide +kernel
theorem dX7_line_1 : decode cX7_line 1 = .ok (.getfield 48, 3) := by decide +kernel
theorem dX7_line_4 : decode cX7_line 4 = .ok (.aload_n 0, 1) := by decide +kernel
theorem dX7_line_5 : decode cX7_line 5 = .ok (.getfield 10, 3) := by decide +kernel
theorem dX7_line_8 : decode cX7_line 8 = .ok (.invokevirtual 66, 3) := by decide +kernel
theorem dX7_line_11 : decode cX7_line 11 = .ok (.aload_n 0, 1) := by decide +kernel
theorem dX7_line_12 : decode cX7_line 12 = .ok (.getfield 48, 3) := by decide +kernel
theorem dX7_line_15 : decode cX7_line 15 = .ok (.aload_n 0, 1) := by decide +kernel
theorem dX7_line_16 : decode cX7_line 16 = .ok (.getfield 21, 3) := by decide +kernel
theorem dX7_line_19 : decode cX7_line 19 = .ok (.iload_n 1, 1) := by decide +kernel
theorem dX7_line_20 : decode cX7_line 20 = .ok (.invokevirtual 90, 3) := by decide +kernel
theorem dX7_line_23 : decode cX7_line 23 = .ok (.invokevirtual 73, 3) := by decide +kernel
theorem dX7_line_26 : decode cX7_line 26 = .ok (.ireturn, 1) := by decide +kernel
theorem dX7_buoy_0 : decode cX7_buoy 0 = .ok (.aload_n 0, 1) := by decide +kernel
theorem dX7_buoy_1 : decode cX7_buoy 1 = .ok (.getfield 48, 3) := by decide +kernel
theorem dX7_buoy_4 : decode cX7_buoy 4 = .ok (.aload_n 0, 1) := by decide +kernel
theorem dX7_buoy_5 : decode cX7_buoy 5 = .ok (.getfield 10, 3) := by decide +kernel
theorem dX7_buoy_8 : decode cX7_buoy 8 = .ok (.invokevirtual 66, 3) := by decide +kernel
theorem dX7_buoy_11 : decode cX7_buoy 11 = .ok (.aload_n 0, 1) := by decide +kernel
theorem dX7_buoy_12 : decode cX7_buoy 12 = .ok (.getfield 48, 3) := by decide +kernel
theorem dX7_buoy_15 : decode cX7_buoy 15 = .ok (.aload_n 0, 1) := by decide +kernel
theorem dX7_buoy_16 : decode cX7_buoy 16 = .ok (.getfield 21, 3) := by decide +kernel
theorem dX7_buoy_19 : decode cX7_buoy 19 = .ok (.iload_n 1, 1) := by decide +kernel
theorem dX7_buoy_20 : decode cX7_buoy 20 = .ok (.iload_n 2, 1) := by decide +kernel
theorem dX7_buoy_21 : decode cX7_buoy 21 = .ok (.invokevirtual 93, 3) := by decide +kernel
theorem dX7_buoy_24 : decode cX7_buoy 24 = .ok (.invokevirtual 73, 3) := by decide +kernel
theorem dX7_buoy_27 : decode cX7_buoy 27 = .ok (.ireturn, 1) := by decide +kernel
theorem dX7_retire_0 : decode cX7_retire 0 = .ok (.aload_n 0, 1) := by decide +kernel
theorem dX7_retire_1 : decode cX7_retire 1 = .ok (.getfield 48, 3) := by decide +kernel
theorem dX7_retire_4 : decode cX7_retire 4 = .ok (.aload_n 0, 1) := by decide +kernel
theorem dX7_retire_5 : decode cX7_retire 5 = .ok (.getfield 10, 3) := by decide +kernel
theorem dX7_retire_8 : decode cX7_retire 8 = .ok (.invokevirtual 66, 3) := by decide +kernel
theorem dX7_retire_11 : decode cX7_retire 11 = .ok (.aload_n 0, 1) := by decide +kernel
theorem dX7_retire_12 : decode cX7_retire 12 = .ok (.getfield 48, 3) := by decide +kernel
theorem dX7_retire_15 : decode cX7_retire 15 = .ok (.aload_n 0, 1) := by decide +kernel
theorem dX7_retire_16 : decode cX7_retire 16 = .ok (.getfield 21, 3) := by decide +kernel
theorem dX7_retire_19 : decode cX7_retire 19 = .ok (.iload_n 1, 1) := by decide +kernel
theorem dX7_retire_20 : decode cX7_retire 20 = .ok (.invokevirtual 97, 3) := by decide +kernel
theorem dX7_retire_23 : decode cX7_retire 23 = .ok (.invokevirtual 73, 3) := by decide +kernel
theorem dX7_retire_26 : decode cX7_retire 26 = .ok (.ireturn, 1) := by decide +kernel
theorem dX7_close_0 : decode cX7_close 0 = .ok (.aload_n 0, 1) := by decide +kernel
theorem dX7_close_1 : decode cX7_close 1 = .ok (.getfield 48, 3) := by decide +kernel
theorem dX7_close_4 : decode cX7_close 4 = .ok (.aload_n 0, 1) := by decide +kernel
theorem dX7_close_5 : decode cX7_close 5 = .ok (.getfield 10, 3) := by decide +kernel
theorem dX7_close_8 : decode cX7_close 8 = .ok (.invokevirtual 66, 3) := by decide +kernel
theorem dX7_close_11 : decode cX7_close 11 = .ok (.aload_n 0, 1) := by decide +kernel
theorem dX7_close_12 : decode cX7_close 12 = .ok (.getfield 48, 3) := by decide +kernel
theorem dX7_close_15 : decode cX7_close 15 = .ok (.aload_n 0, 1) := by decide +kernel
theorem dX7_close_16 : decode cX7_close 16 = .ok (.getfield 21, 3) := by decide +kernel
theorem dX7_close_19 : decode cX7_close 19 = .ok (.invokevirtual 100, 3) := by decide +kernel
theorem dX7_close_22 : decode cX7_close 22 = .ok (.invokevirtual 73, 3) := by decide +kernel
theorem dX7_close_25 : decode cX7_close 25 = .ok (.ireturn, 1) := by decide +kernel
theorem dX7_hail_0 : decode cX7_hail 0 = .ok (.aload_n 0, 1) := by decide +kernel
theorem dX7_hail_1 : decode cX7_hail 1 = .ok (.getfield 48, 3) := by decide +kernel
theorem dX7_hail_4 : decode cX7_hail 4 = .ok (.aload_n 0, 1) := by decide +kernel
theorem dX7_hail_5 : decode cX7_hail 5 = .ok (.getfield 10, 3) := by decide +kernel
theorem dX7_hail_8 : decode cX7_hail 8 = .ok (.invokevirtual 66, 3) := by decide +kernel
theorem dX7_hail_11 : decode cX7_hail 11 = .ok (.aload_n 0, 1) := by decide +kernel
theorem dX7_hail_12 : decode cX7_hail 12 = .ok (.getfield 48, 3) := by decide +kernel
theorem dX7_hail_15 : decode cX7_hail 15 = .ok (.aload_n 0, 1) := by decide +kernel
theorem dX7_hail_16 : decode cX7_hail 16 = .ok (.getfield 28, 3) := by decide +kernel
theorem dX7_hail_19 : decode cX7_hail 19 = .ok (.iload_n 1, 1) := by decide +kernel
theorem dX7_hail_20 : decode cX7_hail 20 = .ok (.iload_n 2, 1) := by decide +kernel
theorem dX7_hail_21 : decode cX7_hail 21 = .ok (.invokevirtual 103, 3) := by decide +kernel
theorem dX7_hail_24 : decode cX7_hail 24 = .ok (.invokevirtual 73, 3) := by decide +kernel
theorem dX7_hail_27 : decode cX7_hail 27 = .ok (.ireturn, 1) := by decide +kernel
theorem dX7_file_0 : decode cX7_file 0 = .ok (.aload_n 0, 1) := by decide +kernel
theorem dX7_file_1 : decode cX7_file 1 = .ok (.getfield 48, 3) := by decide +kernel
theorem dX7_file_4 : decode cX7_file 4 = .ok (.aload_n 0, 1) := by decide +kernel
theorem dX7_file_5 : decode cX7_file 5 = .ok (.getfield 10, 3) := by decide +kernel
theorem dX7_file_8 : decode cX7_file 8 = .ok (.invokevirtual 66, 3) := by decide +kernel
theorem dX7_file_11 : decode cX7_file 11 = .ok (.aload_n 0, 1) := by decide +kernel
theorem dX7_file_12 : decode cX7_file 12 = .ok (.getfield 48, 3) := by decide +kernel
theorem dX7_file_15 : decode cX7_file 15 = .ok (.aload_n 0, 1) := by decide +kernel
theorem dX7_file_16 : decode cX7_file 16 = .ok (.getfield 28, 3) := by decide +kernel
theorem dX7_file_19 : decode cX7_file 19 = .ok (.iload_n 1, 1) := by decide +kernel
theorem dX7_file_20 : decode cX7_file 20 = .ok (.invokevirtual 106, 3) := by decide +kernel
theorem dX7_file_23 : decode cX7_file 23 = .ok (.invokevirtual 73, 3) := by decide +kernel
theorem dX7_file_26 : decode cX7_file 26 = .ok (.ireturn, 1) := by decide +kernel
theorem dX7_accept_0 : decode cX7_accept 0 = .ok (.aload_n 0, 1) := by decide +kernel
theorem dX7_accept_1 : decode cX7_accept 1 = .ok (.getfield 48, 3) := by decide +kernel
theorem dX7_accept_4 : decode cX7_accept 4 = .ok (.aload_n 0, 1) := by decide +kernel
theorem dX7_accept_5 : decode cX7_accept 5 = .ok (.getfield 10, 3) := by decide +kernel
theorem dX7_accept_8 : decode cX7_accept 8 = .ok (.invokevirtual 66, 3) := by decide +kernel
theorem dX7_accept_11 : decode cX7_accept 11 = .ok (.aload_n 0, 1) := by decide +kernel
theorem dX7_accept_12 : decode cX7_accept 12 = .ok (.getfield 48, 3) := by decide +kernel
theorem dX7_accept_15 : decode cX7_accept 15 = .ok (.aload_n 0, 1) := by decide +kernel
theorem dX7_accept_16 : decode cX7_accept 16 = .ok (.getfield 28, 3) := by decide +kernel
theorem dX7_accept_19 : decode cX7_accept 19 = .ok (.iload_n 1, 1) := by decide +kernel
theorem dX7_accept_20 : decode cX7_accept 20 = .ok (.invokevirtual 109, 3) := by decide +kernel
theorem dX7_accept_23 : decode cX7_accept 23 = .ok (.invokevirtual 73, 3) := by decide +kernel
theorem dX7_accept_26 : decode cX7_accept 26 = .ok (.ireturn, 1) := by decide +kernel
theorem dX7_decide_0 : decode cX7_decide 0 = .ok (.aload_n 0, 1) := by decide +kernel
theorem dX7_decide_1 : decode cX7_decide 1 = .ok (.getfield 48, 3) := by decide +kernel
theorem dX7_decide_4 : decode cX7_decide 4 = .ok (.aload_n 0, 1) := by decide +kernel
theorem dX7_decide_5 : decode cX7_decide 5 = .ok (.getfield 10, 3) := by decide +kernel
theorem dX7_decide_8 : decode cX7_decide 8 = .ok (.invokevirtual 66, 3) := by decide +kernel
theorem dX7_decide_11 : decode cX7_decide 11 = .ok (.aload_n 0, 1) := by decide +kernel
theorem dX7_decide_12 : decode cX7_decide 12 = .ok (.getfield 48, 3) := by decide +kernel
theorem dX7_decide_15 : decode cX7_decide 15 = .ok (.aload_n 0, 1) := by decide +kernel
theorem dX7_decide_16 : decode cX7_decide 16 = .ok (.getfield 28, 3) := by decide +kernel
theorem dX7_decide_19 : decode cX7_decide 19 = .ok (.iload_n 1, 1) := by decide +kernel
theorem dX7_decide_20 : decode cX7_decide 20 = .ok (.iload_n 2, 1) := by decide +kernel
theorem dX7_decide_21 : decode cX7_decide 21 = .ok (.invokevirtual 112, 3) := by decide +kernel
theorem dX7_decide_24 : decode cX7_decide 24 = .ok (.invokevirtual 73, 3) := by decide +kernel
theorem dX7_decide_27 : decode cX7_decide 27 = .ok (.ireturn, 1) := by decide +kernel
theorem dX7_set_0 : decode cX7_set 0 = .ok (.aload_n 0, 1) := by decide +kernel
theorem dX7_set_1 : decode cX7_set 1 = .ok (.getfield 48, 3) := by decide +kernel
theorem dX7_set_4 : decode cX7_set 4 = .ok (.aload_n 0, 1) := by decide +kernel
theorem dX7_set_5 : decode cX7_set 5 = .ok (.getfield 10, 3) := by decide +kernel
theorem dX7_set_8 : decode cX7_set 8 = .ok (.invokevirtual 66, 3) := by decide +kernel
theorem dX7_set_11 : decode cX7_set 11 = .ok (.aload_n 0, 1) := by decide +kernel
theorem dX7_set_12 : decode cX7_set 12 = .ok (.getfield 48, 3) := by decide +kernel
theorem dX7_set_15 : decode cX7_set 15 = .ok (.aload_n 0, 1) := by decide +kernel
theorem dX7_set_16 : decode cX7_set 16 = .ok (.getfield 21, 3) := by decide +kernel
theorem dX7_set_19 : decode cX7_set 19 = .ok (.iload_n 1, 1) := by decide +kernel
theorem dX7_set_20 : decode cX7_set 20 = .ok (.iload_n 2, 1) := by decide +kernel
theorem dX7_set_21 : decode cX7_set 21 = .ok (.invokevirtual 116, 3) := by decide +kernel
theorem dX7_set_24 : decode cX7_set 24 = .ok (.invokevirtual 73, 3) := by decide +kernel
theorem dX7_set_27 : decode cX7_set 27 = .ok (.ireturn, 1) := by decide +kernel
theorem dX7_append_0 : decode cX7_append 0 = .ok (.aload_n 0, 1) := by decide +kernel
theorem dX7_append_1 : decode cX7_append 1 = .ok (.getfield 62, 3) := by decide +kernel
theorem dX7_append_4 : decode cX7_append 4 = .ok (.iload_n 1, 1) := by decide +kernel
theorem dX7_append_5 : decode cX7_append 5 = .ok (.invokevirtual 119, 3) := by decide +kernel
theorem dX7_append_8 : decode cX7_append 8 = .ok (.ireturn, 1) := by decide +kernel
theorem dX7_clearText_0 : decode cX7_clearText 0 = .ok (.aload_n 0, 1) := by decide +kernel
theorem dX7_clearText_1 : decode cX7_clearText 1 = .ok (.getfield 62, 3) := by decide +kernel
theorem dX7_clearText_4 : decode cX7_clearText 4 = .ok (.invokevirtual 122, 3) := by decide +kernel
theorem dX7_clearText_7 : decode cX7_clearText 7 = .ok (.ireturn, 1) := by decide +kernel
theorem dX7_fault_0 : decode cX7_fault 0 = .ok (.aload_n 0, 1) := by decide +kernel
theorem dX7_fault_1 : decode cX7_fault 1 = .ok (.getfield 62, 3) := by decide +kernel
theorem dX7_fault_4 : decode cX7_fault 4 = .ok (.invokevirtual 125, 3) := by decide +kernel
theorem dX7_fault_7 : decode cX7_fault 7 = .ok (.ireturn, 1) := by decide +kernel
theorem dX7_run_0 : decode cX7_run 0 = .ok (.aload_n 0, 1) := by decide +kernel
theorem dX7_run_1 : decode cX7_run 1 = .ok (.getfield 62, 3) := by decide +kernel
theorem dX7_run_4 : decode cX7_run 4 = .ok (.invokevirtual 125, 3) := by decide +kernel
theorem dX7_run_7 : decode cX7_run 7 = .ok (.istore_n 1, 1) := by decide +kernel
theorem dX7_run_8 : decode cX7_run 8 = .ok (.iload_n 1, 1) := by decide +kernel
theorem dX7_run_9 : decode cX7_run 9 = .ok (.bipush (-5), 2) := by decide +kernel
theorem dX7_run_11 : decode cX7_run 11 = .ok (.if_icmp .eq 8, 3) := by decide +kernel
theorem dX7_run_14 : decode cX7_run 14 = .ok (.bipush (-100), 2) := by decide +kernel
theorem dX7_run_16 : decode cX7_run 16 = .ok (.iload_n 1, 1) := by decide +kernel
theorem dX7_run_17 : decode cX7_run 17 = .ok (.isub, 1) := by decide +kernel
theorem dX7_run_18 : decode cX7_run 18 = .ok (.ireturn, 1) := by decide +kernel
theorem dX7_run_19 : decode cX7_run 19 = .ok (.aload_n 0, 1) := by decide +kernel
theorem dX7_run_20 : decode cX7_run 20 = .ok (.getfield 48, 3) := by decide +kernel
theorem dX7_run_23 : decode cX7_run 23 = .ok (.aload_n 0, 1) := by decide +kernel
theorem dX7_run_24 : decode cX7_run 24 = .ok (.getfield 10, 3) := by decide +kernel
theorem dX7_run_27 : decode cX7_run 27 = .ok (.invokevirtual 66, 3) := by decide +kernel
theorem dX7_run_30 : decode cX7_run 30 = .ok (.iconst 0, 1) := by decide +kernel
theorem dX7_run_31 : decode cX7_run 31 = .ok (.istore_n 2, 1) := by decide +kernel
theorem dX7_run_32 : decode cX7_run 32 = .ok (.iconst 0, 1) := by decide +kernel
theorem dX7_run_33 : decode cX7_run 33 = .ok (.istore_n 3, 1) := by decide +kernel
theorem dX7_run_34 : decode cX7_run 34 = .ok (.iconst 0, 1) := by decide +kernel
theorem dX7_run_35 : decode cX7_run 35 = .ok (.istore 4, 2) := by decide +kernel
theorem dX7_run_37 : decode cX7_run 37 = .ok (.iload 4, 2) := by decide +kernel
theorem dX7_run_39 : decode cX7_run 39 = .ok (.aload_n 0, 1) := by decide +kernel
theorem dX7_run_40 : decode cX7_run 40 = .ok (.getfield 62, 3) := by decide +kernel
theorem dX7_run_43 : decode cX7_run 43 = .ok (.invokevirtual 128, 3) := by decide +kernel
theorem dX7_run_46 : decode cX7_run 46 = .ok (.if_icmp .gt 48, 3) := by decide +kernel
theorem dX7_run_49 : decode cX7_run 49 = .ok (.aload_n 0, 1) := by decide +kernel
theorem dX7_run_50 : decode cX7_run 50 = .ok (.getfield 62, 3) := by decide +kernel
theorem dX7_run_53 : decode cX7_run 53 = .ok (.iload 4, 2) := by decide +kernel
theorem dX7_run_55 : decode cX7_run 55 = .ok (.invokevirtual 131, 3) := by decide +kernel
theorem dX7_run_58 : decode cX7_run 58 = .ok (.ifCond .eq 30, 3) := by decide +kernel
theorem dX7_run_61 : decode cX7_run 61 = .ok (.aload_n 0, 1) := by decide +kernel
theorem dX7_run_62 : decode cX7_run 62 = .ok (.iload_n 3, 1) := by decide +kernel
theorem dX7_run_63 : decode cX7_run 63 = .ok (.iload 4, 2) := by decide +kernel
theorem dX7_run_65 : decode cX7_run 65 = .ok (.invokevirtual 135, 3) := by decide +kernel
theorem dX7_run_68 : decode cX7_run 68 = .ok (.ifCond .ge 12, 3) := by decide +kernel
theorem dX7_run_71 : decode cX7_run 71 = .ok (.aload_n 0, 1) := by decide +kernel
theorem dX7_run_72 : decode cX7_run 72 = .ok (.getfield 48, 3) := by decide +kernel
theorem dX7_run_75 : decode cX7_run 75 = .ok (.iload_n 2, 1) := by decide +kernel
theorem dX7_run_76 : decode cX7_run 76 = .ok (.invokevirtual 73, 3) := by decide +kernel
theorem dX7_run_79 : decode cX7_run 79 = .ok (.ireturn, 1) := by decide +kernel
theorem dX7_run_80 : decode cX7_run 80 = .ok (.iinc 2 1, 3) := by decide +kernel
theorem dX7_run_83 : decode cX7_run 83 = .ok (.iload 4, 2) := by decide +kernel
theorem dX7_run_85 : decode cX7_run 85 = .ok (.iconst 1, 1) := by decide +kernel
theorem dX7_run_86 : decode cX7_run 86 = .ok (.iadd, 1) := by decide +kernel
theorem dX7_run_87 : decode cX7_run 87 = .ok (.istore_n 3, 1) := by decide +kernel
theorem dX7_run_88 : decode cX7_run 88 = .ok (.iinc 4 1, 3) := by decide +kernel
theorem dX7_run_91 : decode cX7_run 91 = .ok (.goto (-54), 3) := by decide +kernel
theorem dX7_run_94 : decode cX7_run 94 = .ok (.aload_n 0, 1) := by decide +kernel
theorem dX7_run_95 : decode cX7_run 95 = .ok (.getfield 48, 3) := by decide +kernel
theorem dX7_run_98 : decode cX7_run 98 = .ok (.iload_n 2, 1) := by decide +kernel
theorem dX7_run_99 : decode cX7_run 99 = .ok (.invokevirtual 73, 3) := by decide +kernel
theorem dX7_run_102 : decode cX7_run 102 = .ok (.ireturn, 1) := by decide +kernel
theorem dX7_carryOutEvent_0 : decode cX7_carryOutEvent 0 = .ok (.aload_n 0, 1) := by decide +kernel
theorem dX7_carryOutEvent_1 : decode cX7_carryOutEvent 1 = .ok (.getfield 62, 3) := by decide +kernel
theorem dX7_carryOutEvent_4 : decode cX7_carryOutEvent 4 = .ok (.iload_n 1, 1) := by decide +kernel
theorem dX7_carryOutEvent_5 : decode cX7_carryOutEvent 5 = .ok (.invokevirtual 138, 3) := by decide +kernel
theorem dX7_carryOutEvent_8 : decode cX7_carryOutEvent 8 = .ok (.lookupswitch 163 #[(43, 52), (98, 89), (104, 135), (108, 71), (114, 117)], 52) := by decide +kernel
theorem dX7_carryOutEvent_60 : decode cX7_carryOutEvent 60 = .ok (.aload_n 0, 1) := by decide +kernel
theorem dX7_carryOutEvent_61 : decode cX7_carryOutEvent 61 = .ok (.getfield 21, 3) := by decide +kernel
theorem dX7_carryOutEvent_64 : decode cX7_carryOutEvent 64 = .ok (.aload_n 0, 1) := by decide +kernel
theorem dX7_carryOutEvent_65 : decode cX7_carryOutEvent 65 = .ok (.getfield 62, 3) := by decide +kernel
theorem dX7_carryOutEvent_68 : decode cX7_carryOutEvent 68 = .ok (.iload_n 1, 1) := by decide +kernel
theorem dX7_carryOutEvent_69 : decode cX7_carryOutEvent 69 = .ok (.iconst 1, 1) := by decide +kernel
theorem dX7_carryOutEvent_70 : decode cX7_carryOutEvent 70 = .ok (.iadd, 1) := by decide +kernel
theorem dX7_carryOutEvent_71 : decode cX7_carryOutEvent 71 = .ok (.iload_n 2, 1) := by decide +kernel
theorem dX7_carryOutEvent_72 : decode cX7_carryOutEvent 72 = .ok (.invokevirtual 142, 3) := by decide +kernel
theorem dX7_carryOutEvent_75 : decode cX7_carryOutEvent 75 = .ok (.invokevirtual 87, 3) := by decide +kernel
theorem dX7_carryOutEvent_78 : decode cX7_carryOutEvent 78 = .ok (.ireturn, 1) := by decide +kernel
theorem dX7_carryOutEvent_79 : decode cX7_carryOutEvent 79 = .ok (.aload_n 0, 1) := by decide +kernel
theorem dX7_carryOutEvent_80 : decode cX7_carryOutEvent 80 = .ok (.getfield 21, 3) := by decide +kernel
theorem dX7_carryOutEvent_83 : decode cX7_carryOutEvent 83 = .ok (.aload_n 0, 1) := by decide +kernel
theorem dX7_carryOutEvent_84 : decode cX7_carryOutEvent 84 = .ok (.getfield 62, 3) := by decide +kernel
theorem dX7_carryOutEvent_87 : decode cX7_carryOutEvent 87 = .ok (.iload_n 1, 1) := by decide +kernel
theorem dX7_carryOutEvent_88 : decode cX7_carryOutEvent 88 = .ok (.iconst 1, 1) := by decide +kernel
theorem dX7_carryOutEvent_89 : decode cX7_carryOutEvent 89 = .ok (.iadd, 1) := by decide +kernel
theorem dX7_carryOutEvent_90 : decode cX7_carryOutEvent 90 = .ok (.invokevirtual 145, 3) := by decide +kernel
theorem dX7_carryOutEvent_93 : decode cX7_carryOutEvent 93 = .ok (.invokevirtual 90, 3) := by decide +kernel
theorem dX7_carryOutEvent_96 : decode cX7_carryOutEvent 96 = .ok (.ireturn, 1) := by decide +kernel
theorem dX7_carryOutEvent_97 : decode cX7_carryOutEvent 97 = .ok (.aload_n 0, 1) := by decide +kernel
theorem dX7_carryOutEvent_98 : decode cX7_carryOutEvent 98 = .ok (.getfield 21, 3) := by decide +kernel
theorem dX7_carryOutEvent_101 : decode cX7_carryOutEvent 101 = .ok (.aload_n 0, 1) := by decide +kernel
theorem dX7_carryOutEvent_102 : decode cX7_carryOutEvent 102 = .ok (.getfield 62, 3) := by decide +kernel
theorem dX7_carryOutEvent_105 : decode cX7_carryOutEvent 105 = .ok (.iload_n 1, 1) := by decide +kernel
theorem dX7_carryOutEvent_106 : decode cX7_carryOutEvent 106 = .ok (.iconst 1, 1) := by decide +kernel
theorem dX7_carryOutEvent_107 : decode cX7_carryOutEvent 107 = .ok (.iadd, 1) := by decide +kernel
theorem dX7_carryOutEvent_108 : decode cX7_carryOutEvent 108 = .ok (.invokevirtual 145, 3) := by decide +kernel
theorem dX7_carryOutEvent_111 : decode cX7_carryOutEvent 111 = .ok (.aload_n 0, 1) := by decide +kernel
theorem dX7_carryOutEvent_112 : decode cX7_carryOutEvent 112 = .ok (.getfield 62, 3) := by decide +kernel
theorem dX7_carryOutEvent_115 : decode cX7_carryOutEvent 115 = .ok (.iload_n 1, 1) := by decide +kernel
theorem dX7_carryOutEvent_116 : decode cX7_carryOutEvent 116 = .ok (.iconst 2, 1) := by decide +kernel
theorem dX7_carryOutEvent_117 : decode cX7_carryOutEvent 117 = .ok (.iadd, 1) := by decide +kernel
theorem dX7_carryOutEvent_118 : decode cX7_carryOutEvent 118 = .ok (.invokevirtual 145, 3) := by decide +kernel
theorem dX7_carryOutEvent_121 : decode cX7_carryOutEvent 121 = .ok (.invokevirtual 93, 3) := by decide +kernel
theorem dX7_carryOutEvent_124 : decode cX7_carryOutEvent 124 = .ok (.ireturn, 1) := by decide +kernel
theorem dX7_carryOutEvent_125 : decode cX7_carryOutEvent 125 = .ok (.aload_n 0, 1) := by decide +kernel
theorem dX7_carryOutEvent_126 : decode cX7_carryOutEvent 126 = .ok (.getfield 21, 3) := by decide +kernel
theorem dX7_carryOutEvent_129 : decode cX7_carryOutEvent 129 = .ok (.aload_n 0, 1) := by decide +kernel
theorem dX7_carryOutEvent_130 : decode cX7_carryOutEvent 130 = .ok (.getfield 62, 3) := by decide +kernel
theorem dX7_carryOutEvent_133 : decode cX7_carryOutEvent 133 = .ok (.iload_n 1, 1) := by decide +kernel
theorem dX7_carryOutEvent_134 : decode cX7_carryOutEvent 134 = .ok (.iconst 1, 1) := by decide +kernel
theorem dX7_carryOutEvent_135 : decode cX7_carryOutEvent 135 = .ok (.iadd, 1) := by decide +kernel
theorem dX7_carryOutEvent_136 : decode cX7_carryOutEvent 136 = .ok (.invokevirtual 145, 3) := by decide +kernel
theorem dX7_carryOutEvent_139 : decode cX7_carryOutEvent 139 = .ok (.invokevirtual 97, 3) := by decide +kernel
theorem dX7_carryOutEvent_142 : decode cX7_carryOutEvent 142 = .ok (.ireturn, 1) := by decide +kernel
theorem dX7_carryOutEvent_143 : decode cX7_carryOutEvent 143 = .ok (.aload_n 0, 1) := by decide +kernel
theorem dX7_carryOutEvent_144 : decode cX7_carryOutEvent 144 = .ok (.getfield 28, 3) := by decide +kernel
theorem dX7_carryOutEvent_147 : decode cX7_carryOutEvent 147 = .ok (.aload_n 0, 1) := by decide +kernel
theorem dX7_carryOutEvent_148 : decode cX7_carryOutEvent 148 = .ok (.getfield 62, 3) := by decide +kernel
theorem dX7_carryOutEvent_151 : decode cX7_carryOutEvent 151 = .ok (.iload_n 1, 1) := by decide +kernel
theorem dX7_carryOutEvent_152 : decode cX7_carryOutEvent 152 = .ok (.iconst 1, 1) := by decide +kernel
theorem dX7_carryOutEvent_153 : decode cX7_carryOutEvent 153 = .ok (.iadd, 1) := by decide +kernel
theorem dX7_carryOutEvent_154 : decode cX7_carryOutEvent 154 = .ok (.invokevirtual 145, 3) := by decide +kernel
theorem dX7_carryOutEvent_157 : decode cX7_carryOutEvent 157 = .ok (.aload_n 0, 1) := by decide +kernel
theorem dX7_carryOutEvent_158 : decode cX7_carryOutEvent 158 = .ok (.getfield 62, 3) := by decide +kernel
theorem dX7_carryOutEvent_161 : decode cX7_carryOutEvent 161 = .ok (.iload_n 1, 1) := by decide +kernel
theorem dX7_carryOutEvent_162 : decode cX7_carryOutEvent 162 = .ok (.iconst 2, 1) := by decide +kernel
theorem dX7_carryOutEvent_163 : decode cX7_carryOutEvent 163 = .ok (.iadd, 1) := by decide +kernel
theorem dX7_carryOutEvent_164 : decode cX7_carryOutEvent 164 = .ok (.invokevirtual 145, 3) := by decide +kernel
theorem dX7_carryOutEvent_167 : decode cX7_carryOutEvent 167 = .ok (.invokevirtual 103, 3) := by decide +kernel
theorem dX7_carryOutEvent_170 : decode cX7_carryOutEvent 170 = .ok (.ireturn, 1) := by decide +kernel
theorem dX7_carryOutEvent_171 : decode cX7_carryOutEvent 171 = .ok (.bipush (-2), 2) := by decide +kernel
theorem dX7_carryOutEvent_173 : decode cX7_carryOutEvent 173 = .ok (.ireturn, 1) := by decide +kernel
theorem dX7_undo_0 : decode cX7_undo 0 = .ok (.aload_n 0, 1) := by decide +kernel
theorem dX7_undo_1 : decode cX7_undo 1 = .ok (.getfield 48, 3) := by decide +kernel
theorem dX7_undo_4 : decode cX7_undo 4 = .ok (.aload_n 0, 1) := by decide +kernel
theorem dX7_undo_5 : decode cX7_undo 5 = .ok (.getfield 10, 3) := by decide +kernel
theorem dX7_undo_8 : decode cX7_undo 8 = .ok (.invokevirtual 148, 3) := by decide +kernel
theorem dX7_undo_11 : decode cX7_undo 11 = .ok (.ireturn, 1) := by decide +kernel
theorem dX7_save_0 : decode cX7_save 0 = .ok (.aload_n 0, 1) := by decide +kernel
theorem dX7_save_1 : decode cX7_save 1 = .ok (.getfield 52, 3) := by decide +kernel
theorem dX7_save_4 : decode cX7_save 4 = .ok (.aload_n 0, 1) := by decide +kernel
theorem dX7_save_5 : decode cX7_save 5 = .ok (.getfield 10, 3) := by decide +kernel
theorem dX7_save_8 : decode cX7_save 8 = .ok (.invokevirtual 152, 3) := by decide +kernel
theorem dX7_save_11 : decode cX7_save 11 = .ok (.aload_n 0, 1) := by decide +kernel
theorem dX7_save_12 : decode cX7_save 12 = .ok (.iconst 1, 1) := by decide +kernel
theorem dX7_save_13 : decode cX7_save 13 = .ok (.putfield 55, 3) := by decide +kernel
theorem dX7_save_16 : decode cX7_save 16 = .ok (.aload_n 0, 1) := by decide +kernel
theorem dX7_save_17 : decode cX7_save 17 = .ok (.getfield 10, 3) := by decide +kernel
theorem dX7_save_20 : decode cX7_save 20 = .ok (.getfield 155, 3) := by decide +kernel
theorem dX7_save_23 : decode cX7_save 23 = .ok (.ireturn, 1) := by decide +kernel
theorem dX7_restore_0 : decode cX7_restore 0 = .ok (.aload_n 0, 1) := by decide +kernel
theorem dX7_restore_1 : decode cX7_restore 1 = .ok (.getfield 55, 3) := by decide +kernel
theorem dX7_restore_4 : decode cX7_restore 4 = .ok (.ifCond .ne 6, 3) := by decide +kernel
theorem dX7_restore_7 : decode cX7_restore 7 = .ok (.bipush (-4), 2) := by decide +kernel
theorem dX7_restore_9 : decode cX7_restore 9 = .ok (.ireturn, 1) := by decide +kernel
theorem dX7_restore_10 : decode cX7_restore 10 = .ok (.aload_n 0, 1) := by decide +kernel
theorem dX7_restore_11 : decode cX7_restore 11 = .ok (.getfield 48, 3) := by decide +kernel
theorem dX7_restore_14 : decode cX7_restore 14 = .ok (.aload_n 0, 1) := by decide +kernel
theorem dX7_restore_15 : decode cX7_restore 15 = .ok (.getfield 10, 3) := by decide +kernel
theorem dX7_restore_18 : decode cX7_restore 18 = .ok (.invokevirtual 66, 3) := by decide +kernel
theorem dX7_restore_21 : decode cX7_restore 21 = .ok (.aload_n 0, 1) := by decide +kernel
theorem dX7_restore_22 : decode cX7_restore 22 = .ok (.getfield 10, 3) := by decide +kernel
theorem dX7_restore_25 : decode cX7_restore 25 = .ok (.aload_n 0, 1) := by decide +kernel
theorem dX7_restore_26 : decode cX7_restore 26 = .ok (.getfield 52, 3) := by decide +kernel
theorem dX7_restore_29 : decode cX7_restore 29 = .ok (.invokevirtual 152, 3) := by decide +kernel
theorem dX7_restore_32 : decode cX7_restore 32 = .ok (.aload_n 0, 1) := by decide +kernel
theorem dX7_restore_33 : decode cX7_restore 33 = .ok (.getfield 48, 3) := by decide +kernel
theorem dX7_restore_36 : decode cX7_restore 36 = .ok (.aload_n 0, 1) := by decide +kernel
theorem dX7_restore_37 : decode cX7_restore 37 = .ok (.getfield 10, 3) := by decide +kernel
theorem dX7_restore_40 : decode cX7_restore 40 = .ok (.getfield 155, 3) := by decide +kernel
theorem dX7_restore_43 : decode cX7_restore 43 = .ok (.invokevirtual 73, 3) := by decide +kernel
theorem dX7_restore_46 : decode cX7_restore 46 = .ok (.ireturn, 1) := by decide +kernel
theorem dX7_result_0 : decode cX7_result 0 = .ok (.aload_n 0, 1) := by decide +kernel
theorem dX7_result_1 : decode cX7_result 1 = .ok (.getfield 10, 3) := by decide +kernel
theorem dX7_result_4 : decode cX7_result 4 = .ok (.iload_n 1, 1) := by decide +kernel
theorem dX7_result_5 : decode cX7_result 5 = .ok (.invokevirtual 159, 3) := by decide +kernel
theorem dX7_result_8 : decode cX7_result 8 = .ok (.ifCond .eq 14, 3) := by decide +kernel
theorem dX7_result_11 : decode cX7_result 11 = .ok (.aload_n 0, 1) := by decide +kernel
theorem dX7_result_12 : decode cX7_result 12 = .ok (.getfield 10, 3) := by decide +kernel
theorem dX7_result_15 : decode cX7_result 15 = .ok (.iload_n 2, 1) := by decide +kernel
theorem dX7_result_16 : decode cX7_result 16 = .ok (.invokevirtual 162, 3) := by decide +kernel
theorem dX7_result_19 : decode cX7_result 19 = .ok (.ifCond .ne 5, 3) := by decide +kernel
theorem dX7_result_22 : decode cX7_result 22 = .ok (.iconst (-1), 1) := by decide +kernel
theorem dX7_result_23 : decode cX7_result 23 = .ok (.ireturn, 1) := by decide +kernel
theorem dX7_result_24 : decode cX7_result 24 = .ok (.iload_n 3, 1) := by decide +kernel
theorem dX7_result_25 : decode cX7_result 25 = .ok (.tableswitch 144 0 8 #[51, 51, 51, 51, 51, 72, 82, 92, 118], 51) := by decide +kernel
theorem dX7_result_76 : decode cX7_result 76 = .ok (.aload_n 0, 1) := by decide +kernel
theorem dX7_result_77 : decode cX7_result 77 = .ok (.getfield 10, 3) := by decide +kernel
theorem dX7_result_80 : decode cX7_result 80 = .ok (.getfield 165, 3) := by decide +kernel
theorem dX7_result_83 : decode cX7_result 83 = .ok (.aload_n 0, 1) := by decide +kernel
theorem dX7_result_84 : decode cX7_result 84 = .ok (.getfield 10, 3) := by decide +kernel
theorem dX7_result_87 : decode cX7_result 87 = .ok (.iload_n 1, 1) := by decide +kernel
theorem dX7_result_88 : decode cX7_result 88 = .ok (.iload_n 2, 1) := by decide +kernel
theorem dX7_result_89 : decode cX7_result 89 = .ok (.invokevirtual 169, 3) := by decide +kernel
theorem dX7_result_92 : decode cX7_result 92 = .ok (.iload_n 3, 1) := by decide +kernel
theorem dX7_result_93 : decode cX7_result 93 = .ok (.invokevirtual 172, 3) := by decide +kernel
theorem dX7_result_96 : decode cX7_result 96 = .ok (.ireturn, 1) := by decide +kernel
theorem dX7_result_97 : decode cX7_result 97 = .ok (.aload_n 0, 1) := by decide +kernel
theorem dX7_result_98 : decode cX7_result 98 = .ok (.getfield 10, 3) := by decide +kernel
theorem dX7_result_101 : decode cX7_result 101 = .ok (.iload_n 1, 1) := by decide +kernel
theorem dX7_result_102 : decode cX7_result 102 = .ok (.iload_n 2, 1) := by decide +kernel
theorem dX7_result_103 : decode cX7_result 103 = .ok (.invokevirtual 177, 3) := by decide +kernel
theorem dX7_result_106 : decode cX7_result 106 = .ok (.ireturn, 1) := by decide +kernel
theorem dX7_result_107 : decode cX7_result 107 = .ok (.aload_n 0, 1) := by decide +kernel
theorem dX7_result_108 : decode cX7_result 108 = .ok (.getfield 10, 3) := by decide +kernel
theorem dX7_result_111 : decode cX7_result 111 = .ok (.iload_n 1, 1) := by decide +kernel
theorem dX7_result_112 : decode cX7_result 112 = .ok (.iload_n 2, 1) := by decide +kernel
theorem dX7_result_113 : decode cX7_result 113 = .ok (.invokevirtual 180, 3) := by decide +kernel
theorem dX7_result_116 : decode cX7_result 116 = .ok (.ireturn, 1) := by decide +kernel
theorem dX7_result_117 : decode cX7_result 117 = .ok (.aload_n 0, 1) := by decide +kernel
theorem dX7_result_118 : decode cX7_result 118 = .ok (.getfield 10, 3) := by decide +kernel
theorem dX7_result_121 : decode cX7_result 121 = .ok (.iload_n 1, 1) := by decide +kernel
theorem dX7_result_122 : decode cX7_result 122 = .ok (.invokevirtual 183, 3) := by decide +kernel
theorem dX7_result_125 : decode cX7_result 125 = .ok (.ifCond .eq 15, 3) := by decide +kernel
theorem dX7_result_128 : decode cX7_result 128 = .ok (.aload_n 0, 1) := by decide +kernel
theorem dX7_result_129 : decode cX7_result 129 = .ok (.getfield 35, 3) := by decide +kernel
theorem dX7_result_132 : decode cX7_result 132 = .ok (.iload_n 1, 1) := by decide +kernel
theorem dX7_result_133 : decode cX7_result 133 = .ok (.iload_n 2, 1) := by decide +kernel
theorem dX7_result_134 : decode cX7_result 134 = .ok (.invokevirtual 186, 3) := by decide +kernel
theorem dX7_result_137 : decode cX7_result 137 = .ok (.goto 5, 3) := by decide +kernel
theorem dX7_result_140 : decode cX7_result 140 = .ok (.bipush (-5), 2) := by decide +kernel
theorem dX7_result_142 : decode cX7_result 142 = .ok (.ireturn, 1) := by decide +kernel
theorem dX7_result_143 : decode cX7_result 143 = .ok (.aload_n 0, 1) := by decide +kernel
theorem dX7_result_144 : decode cX7_result 144 = .ok (.getfield 10, 3) := by decide +kernel
theorem dX7_result_147 : decode cX7_result 147 = .ok (.iload_n 1, 1) := by decide +kernel
theorem dX7_result_148 : decode cX7_result 148 = .ok (.invokevirtual 183, 3) := by decide +kernel
theorem dX7_result_151 : decode cX7_result 151 = .ok (.ifCond .eq 15, 3) := by decide +kernel
theorem dX7_result_154 : decode cX7_result 154 = .ok (.aload_n 0, 1) := by decide +kernel
theorem dX7_result_155 : decode cX7_result 155 = .ok (.getfield 35, 3) := by decide +kernel
theorem dX7_result_158 : decode cX7_result 158 = .ok (.iload_n 1, 1) := by decide +kernel
theorem dX7_result_159 : decode cX7_result 159 = .ok (.iload_n 2, 1) := by decide +kernel
theorem dX7_result_160 : decode cX7_result 160 = .ok (.invokevirtual 189, 3) := by decide +kernel
theorem dX7_result_163 : decode cX7_result 163 = .ok (.goto 5, 3) := by decide +kernel
theorem dX7_result_166 : decode cX7_result 166 = .ok (.bipush (-5), 2) := by decide +kernel
theorem dX7_result_168 : decode cX7_result 168 = .ok (.ireturn, 1) := by decide +kernel
theorem dX7_result_169 : decode cX7_result 169 = .ok (.bipush (-2), 2) := by decide +kernel
theorem dX7_result_171 : decode cX7_result 171 = .ok (.ireturn, 1) := by decide +kernel
theorem dX7_boat_0 : decode cX7_boat 0 = .ok (.aload_n 0, 1) := by decide +kernel
theorem dX7_boat_1 : decode cX7_boat 1 = .ok (.getfield 10, 3) := by decide +kernel
theorem dX7_boat_4 : decode cX7_boat 4 = .ok (.iload_n 1, 1) := by decide +kernel
theorem dX7_boat_5 : decode cX7_boat 5 = .ok (.invokevirtual 162, 3) := by decide +kernel
theorem dX7_boat_8 : decode cX7_boat 8 = .ok (.ifCond .ne 5, 3) := by decide +kernel
theorem dX7_boat_11 : decode cX7_boat 11 = .ok (.iconst (-1), 1) := by decide +kernel
theorem dX7_boat_12 : decode cX7_boat 12 = .ok (.ireturn, 1) := by decide +kernel
theorem dX7_boat_13 : decode cX7_boat 13 = .ok (.aload_n 0, 1) := by decide +kernel
theorem dX7_boat_14 : decode cX7_boat 14 = .ok (.getfield 35, 3) := by decide +kernel
theorem dX7_boat_17 : decode cX7_boat 17 = .ok (.invokevirtual 192, 3) := by decide +kernel
theorem dX7_boat_20 : decode cX7_boat 20 = .ok (.iload_n 2, 1) := by decide +kernel
theorem dX7_boat_21 : decode cX7_boat 21 = .ok (.tableswitch 84 0 4 #[35, 48, 57, 66, 75], 35) := by decide +kernel
theorem dX7_boat_56 : decode cX7_boat 56 = .ok (.aload_n 0, 1) := by decide +kernel
theorem dX7_boat_57 : decode cX7_boat 57 = .ok (.getfield 10, 3) := by decide +kernel
theorem dX7_boat_60 : decode cX7_boat 60 = .ok (.getfield 195, 3) := by decide +kernel
theorem dX7_boat_63 : decode cX7_boat 63 = .ok (.iload_n 1, 1) := by decide +kernel
theorem dX7_boat_64 : decode cX7_boat 64 = .ok (.iconst 0, 1) := by decide +kernel
theorem dX7_boat_65 : decode cX7_boat 65 = .ok (.invokevirtual 172, 3) := by decide +kernel
theorem dX7_boat_68 : decode cX7_boat 68 = .ok (.ireturn, 1) := by decide +kernel
theorem dX7_boat_69 : decode cX7_boat 69 = .ok (.aload_n 0, 1) := by decide +kernel
theorem dX7_boat_70 : decode cX7_boat 70 = .ok (.getfield 35, 3) := by decide +kernel
theorem dX7_boat_73 : decode cX7_boat 73 = .ok (.iload_n 1, 1) := by decide +kernel
theorem dX7_boat_74 : decode cX7_boat 74 = .ok (.invokevirtual 198, 3) := by decide +kernel
theorem dX7_boat_77 : decode cX7_boat 77 = .ok (.ireturn, 1) := by decide +kernel
theorem dX7_boat_78 : decode cX7_boat 78 = .ok (.aload_n 0, 1) := by decide +kernel
theorem dX7_boat_79 : decode cX7_boat 79 = .ok (.getfield 35, 3) := by decide +kernel
theorem dX7_boat_82 : decode cX7_boat 82 = .ok (.iload_n 1, 1) := by decide +kernel
theorem dX7_boat_83 : decode cX7_boat 83 = .ok (.invokevirtual 201, 3) := by decide +kernel
theorem dX7_boat_86 : decode cX7_boat 86 = .ok (.ireturn, 1) := by decide +kernel
theorem dX7_boat_87 : decode cX7_boat 87 = .ok (.aload_n 0, 1) := by decide +kernel
theorem dX7_boat_88 : decode cX7_boat 88 = .ok (.getfield 35, 3) := by decide +kernel
theorem dX7_boat_91 : decode cX7_boat 91 = .ok (.iload_n 1, 1) := by decide +kernel
theorem dX7_boat_92 : decode cX7_boat 92 = .ok (.invokevirtual 204, 3) := by decide +kernel
theorem dX7_boat_95 : decode cX7_boat 95 = .ok (.ireturn, 1) := by decide +kernel
theorem dX7_boat_96 : decode cX7_boat 96 = .ok (.aload_n 0, 1) := by decide +kernel
theorem dX7_boat_97 : decode cX7_boat 97 = .ok (.getfield 35, 3) := by decide +kernel
theorem dX7_boat_100 : decode cX7_boat 100 = .ok (.iload_n 1, 1) := by decide +kernel
theorem dX7_boat_101 : decode cX7_boat 101 = .ok (.invokevirtual 207, 3) := by decide +kernel
theorem dX7_boat_104 : decode cX7_boat 104 = .ok (.ireturn, 1) := by decide +kernel
theorem dX7_boat_105 : decode cX7_boat 105 = .ok (.bipush (-2), 2) := by decide +kernel
theorem dX7_boat_107 : decode cX7_boat 107 = .ok (.ireturn, 1) := by decide +kernel
theorem dX7_ranked_0 : decode cX7_ranked 0 = .ok (.iload_n 1, 1) := by decide +kernel
theorem dX7_ranked_1 : decode cX7_ranked 1 = .ok (.iconst 1, 1) := by decide +kernel
theorem dX7_ranked_2 : decode cX7_ranked 2 = .ok (.if_icmp .ge 6, 3) := by decide +kernel
theorem dX7_ranked_5 : decode cX7_ranked 5 = .ok (.bipush (-2), 2) := by decide +kernel
theorem dX7_ranked_7 : decode cX7_ranked 7 = .ok (.ireturn, 1) := by decide +kernel
theorem dX7_ranked_8 : decode cX7_ranked 8 = .ok (.aload_n 0, 1) := by decide +kernel
theorem dX7_ranked_9 : decode cX7_ranked 9 = .ok (.getfield 35, 3) := by decide +kernel
theorem dX7_ranked_12 : decode cX7_ranked 12 = .ok (.invokevirtual 192, 3) := by decide +kernel
theorem dX7_ranked_15 : decode cX7_ranked 15 = .ok (.iconst 0, 1) := by decide +kernel
theorem dX7_ranked_16 : decode cX7_ranked 16 = .ok (.istore_n 2, 1) := by decide +kernel
theorem dX7_ranked_17 : decode cX7_ranked 17 = .ok (.iload_n 2, 1) := by decide +kernel
theorem dX7_ranked_18 : decode cX7_ranked 18 = .ok (.aload_n 0, 1) := by decide +kernel
theorem dX7_ranked_19 : decode cX7_ranked 19 = .ok (.getfield 10, 3) := by decide +kernel
theorem dX7_ranked_22 : decode cX7_ranked 22 = .ok (.getfield 210, 3) := by decide +kernel
theorem dX7_ranked_25 : decode cX7_ranked 25 = .ok (.if_icmp .ge 23, 3) := by decide +kernel
theorem dX7_ranked_28 : decode cX7_ranked 28 = .ok (.aload_n 0, 1) := by decide +kernel
theorem dX7_ranked_29 : decode cX7_ranked 29 = .ok (.getfield 35, 3) := by decide +kernel
theorem dX7_ranked_32 : decode cX7_ranked 32 = .ok (.iload_n 2, 1) := by decide +kernel
theorem dX7_ranked_33 : decode cX7_ranked 33 = .ok (.invokevirtual 201, 3) := by decide +kernel
theorem dX7_ranked_36 : decode cX7_ranked 36 = .ok (.iload_n 1, 1) := by decide +kernel
theorem dX7_ranked_37 : decode cX7_ranked 37 = .ok (.if_icmp .ne 5, 3) := by decide +kernel
theorem dX7_ranked_40 : decode cX7_ranked 40 = .ok (.iload_n 2, 1) := by decide +kernel
theorem dX7_ranked_41 : decode cX7_ranked 41 = .ok (.ireturn, 1) := by decide +kernel
theorem dX7_ranked_42 : decode cX7_ranked 42 = .ok (.iinc 2 1, 3) := by decide +kernel
theorem dX7_ranked_45 : decode cX7_ranked 45 = .ok (.goto (-28), 3) := by decide +kernel
theorem dX7_ranked_48 : decode cX7_ranked 48 = .ok (.bipush (-5), 2) := by decide +kernel
theorem dX7_ranked_50 : decode cX7_ranked 50 = .ok (.ireturn, 1) := by decide +kernel
theorem dX7_race_0 : decode cX7_race 0 = .ok (.aload_n 0, 1) := by decide +kernel
theorem dX7_race_1 : decode cX7_race 1 = .ok (.getfield 10, 3) := by decide +kernel
theorem dX7_race_4 : decode cX7_race 4 = .ok (.iload_n 1, 1) := by decide +kernel
theorem dX7_race_5 : decode cX7_race 5 = .ok (.invokevirtual 159, 3) := by decide +kernel
theorem dX7_race_8 : decode cX7_race 8 = .ok (.ifCond .ne 5, 3) := by decide +kernel
theorem dX7_race_11 : decode cX7_race 11 = .ok (.iconst (-1), 1) := by decide +kernel
theorem dX7_race_12 : decode cX7_race 12 = .ok (.ireturn, 1) := by decide +kernel
theorem dX7_race_13 : decode cX7_race 13 = .ok (.iload_n 2, 1) := by decide +kernel
theorem dX7_race_14 : decode cX7_race 14 = .ok (.tableswitch 103 0 6 #[42, 42, 42, 55, 72, 83, 94], 42) := by decide +kernel
theorem dX7_race_56 : decode cX7_race 56 = .ok (.aload_n 0, 1) := by decide +kernel
theorem dX7_race_57 : decode cX7_race 57 = .ok (.getfield 10, 3) := by decide +kernel
theorem dX7_race_60 : decode cX7_race 60 = .ok (.getfield 213, 3) := by decide +kernel
theorem dX7_race_63 : decode cX7_race 63 = .ok (.iload_n 1, 1) := by decide +kernel
theorem dX7_race_64 : decode cX7_race 64 = .ok (.iload_n 2, 1) := by decide +kernel
theorem dX7_race_65 : decode cX7_race 65 = .ok (.invokevirtual 172, 3) := by decide +kernel
theorem dX7_race_68 : decode cX7_race 68 = .ok (.ireturn, 1) := by decide +kernel
theorem dX7_race_69 : decode cX7_race 69 = .ok (.aload_n 0, 1) := by decide +kernel
theorem dX7_race_70 : decode cX7_race 70 = .ok (.getfield 10, 3) := by decide +kernel
theorem dX7_race_73 : decode cX7_race 73 = .ok (.iload_n 1, 1) := by decide +kernel
theorem dX7_race_74 : decode cX7_race 74 = .ok (.invokevirtual 183, 3) := by decide +kernel
theorem dX7_race_77 : decode cX7_race 77 = .ok (.ifCond .eq 7, 3) := by decide +kernel
theorem dX7_race_80 : decode cX7_race 80 = .ok (.iconst 2, 1) := by decide +kernel
theorem dX7_race_81 : decode cX7_race 81 = .ok (.goto 4, 3) := by decide +kernel
theorem dX7_race_84 : decode cX7_race 84 = .ok (.iconst 1, 1) := by decide +kernel
theorem dX7_race_85 : decode cX7_race 85 = .ok (.ireturn, 1) := by decide +kernel
theorem dX7_race_86 : decode cX7_race 86 = .ok (.aload_n 0, 1) := by decide +kernel
theorem dX7_race_87 : decode cX7_race 87 = .ok (.getfield 10, 3) := by decide +kernel
theorem dX7_race_90 : decode cX7_race 90 = .ok (.iload_n 1, 1) := by decide +kernel
theorem dX7_race_91 : decode cX7_race 91 = .ok (.iconst 0, 1) := by decide +kernel
theorem dX7_race_92 : decode cX7_race 92 = .ok (.iconst 3, 1) := by decide +kernel
theorem dX7_race_93 : decode cX7_race 93 = .ok (.invokevirtual 216, 3) := by decide +kernel
theorem dX7_race_96 : decode cX7_race 96 = .ok (.ireturn, 1) := by decide +kernel
theorem dX7_race_97 : decode cX7_race 97 = .ok (.aload_n 0, 1) := by decide +kernel
theorem dX7_race_98 : decode cX7_race 98 = .ok (.getfield 10, 3) := by decide +kernel
theorem dX7_race_101 : decode cX7_race 101 = .ok (.iload_n 1, 1) := by decide +kernel
theorem dX7_race_102 : decode cX7_race 102 = .ok (.iconst 4, 1) := by decide +kernel
theorem dX7_race_103 : decode cX7_race 103 = .ok (.iconst 1, 1) := by decide +kernel
theorem dX7_race_104 : decode cX7_race 104 = .ok (.invokevirtual 216, 3) := by decide +kernel
theorem dX7_race_107 : decode cX7_race 107 = .ok (.ireturn, 1) := by decide +kernel
theorem dX7_race_108 : decode cX7_race 108 = .ok (.aload_n 0, 1) := by decide +kernel
theorem dX7_race_109 : decode cX7_race 109 = .ok (.getfield 35, 3) := by decide +kernel
theorem dX7_race_112 : decode cX7_race 112 = .ok (.iload_n 1, 1) := by decide +kernel
theorem dX7_race_113 : decode cX7_race 113 = .ok (.invokevirtual 219, 3) := by decide +kernel
theorem dX7_race_116 : decode cX7_race 116 = .ok (.ireturn, 1) := by decide +kernel
theorem dX7_race_117 : decode cX7_race 117 = .ok (.bipush (-2), 2) := by decide +kernel
theorem dX7_race_119 : decode cX7_race 119 = .ok (.ireturn, 1) := by decide +kernel
theorem dX7_protest_0 : decode cX7_protest 0 = .ok (.aload_n 0, 1) := by decide +kernel
theorem dX7_protest_1 : decode cX7_protest 1 = .ok (.getfield 10, 3) := by decide +kernel
theorem dX7_protest_4 : decode cX7_protest 4 = .ok (.iload_n 1, 1) := by decide +kernel
theorem dX7_protest_5 : decode cX7_protest 5 = .ok (.invokevirtual 222, 3) := by decide +kernel
theorem dX7_protest_8 : decode cX7_protest 8 = .ok (.ifCond .ne 5, 3) := by decide +kernel
theorem dX7_protest_11 : decode cX7_protest 11 = .ok (.iconst (-1), 1) := by decide +kernel
theorem dX7_protest_12 : decode cX7_protest 12 = .ok (.ireturn, 1) := by decide +kernel
theorem dX7_protest_13 : decode cX7_protest 13 = .ok (.iload_n 2, 1) := by decide +kernel
theorem dX7_protest_14 : decode cX7_protest 14 = .ok (.ifCond .lt 8, 3) := by decide +kernel
theorem dX7_protest_17 : decode cX7_protest 17 = .ok (.iload_n 2, 1) := by decide +kernel
theorem dX7_protest_18 : decode cX7_protest 18 = .ok (.iconst 3, 1) := by decide +kernel
theorem dX7_protest_19 : decode cX7_protest 19 = .ok (.if_icmp .le 6, 3) := by decide +kernel
theorem dX7_protest_22 : decode cX7_protest 22 = .ok (.bipush (-2), 2) := by decide +kernel
theorem dX7_protest_24 : decode cX7_protest 24 = .ok (.ireturn, 1) := by decide +kernel
theorem dX7_protest_25 : decode cX7_protest 25 = .ok (.aload_n 0, 1) := by decide +kernel
theorem dX7_protest_26 : decode cX7_protest 26 = .ok (.getfield 10, 3) := by decide +kernel
theorem dX7_protest_29 : decode cX7_protest 29 = .ok (.getfield 225, 3) := by decide +kernel
theorem dX7_protest_32 : decode cX7_protest 32 = .ok (.iload_n 1, 1) := by decide +kernel
theorem dX7_protest_33 : decode cX7_protest 33 = .ok (.iload_n 2, 1) := by decide +kernel
theorem dX7_protest_34 : decode cX7_protest 34 = .ok (.invokevirtual 172, 3) := by decide +kernel
theorem dX7_protest_37 : decode cX7_protest 37 = .ok (.ireturn, 1) := by decide +kernel
theorem dX7_count_0 : decode cX7_count 0 = .ok (.iload_n 1, 1) := by decide +kernel
theorem dX7_count_1 : decode cX7_count 1 = .ok (.tableswitch 150 0 10 #[59, 67, 75, 83, 91, 99, 107, 116, 125, 134, 142], 59) := by decide +kernel
theorem dX7_count_60 : decode cX7_count 60 = .ok (.aload_n 0, 1) := by decide +kernel
theorem dX7_count_61 : decode cX7_count 61 = .ok (.getfield 10, 3) := by decide +kernel
theorem dX7_count_64 : decode cX7_count 64 = .ok (.getfield 210, 3) := by decide +kernel
theorem dX7_count_67 : decode cX7_count 67 = .ok (.ireturn, 1) := by decide +kernel
theorem dX7_count_68 : decode cX7_count 68 = .ok (.aload_n 0, 1) := by decide +kernel
theorem dX7_count_69 : decode cX7_count 69 = .ok (.getfield 10, 3) := by decide +kernel
theorem dX7_count_72 : decode cX7_count 72 = .ok (.getfield 228, 3) := by decide +kernel
theorem dX7_count_75 : decode cX7_count 75 = .ok (.ireturn, 1) := by decide +kernel
theorem dX7_count_76 : decode cX7_count 76 = .ok (.aload_n 0, 1) := by decide +kernel
theorem dX7_count_77 : decode cX7_count 77 = .ok (.getfield 10, 3) := by decide +kernel
theorem dX7_count_80 : decode cX7_count 80 = .ok (.invokevirtual 231, 3) := by decide +kernel
theorem dX7_count_83 : decode cX7_count 83 = .ok (.ireturn, 1) := by decide +kernel
theorem dX7_count_84 : decode cX7_count 84 = .ok (.aload_n 0, 1) := by decide +kernel
theorem dX7_count_85 : decode cX7_count 85 = .ok (.getfield 10, 3) := by decide +kernel
theorem dX7_count_88 : decode cX7_count 88 = .ok (.getfield 155, 3) := by decide +kernel
theorem dX7_count_91 : decode cX7_count 91 = .ok (.ireturn, 1) := by decide +kernel
theorem dX7_count_92 : decode cX7_count 92 = .ok (.aload_n 0, 1) := by decide +kernel
theorem dX7_count_93 : decode cX7_count 93 = .ok (.getfield 10, 3) := by decide +kernel
theorem dX7_count_96 : decode cX7_count 96 = .ok (.getfield 234, 3) := by decide +kernel
theorem dX7_count_99 : decode cX7_count 99 = .ok (.ireturn, 1) := by decide +kernel
theorem dX7_count_100 : decode cX7_count 100 = .ok (.aload_n 0, 1) := by decide +kernel
theorem dX7_count_101 : decode cX7_count 101 = .ok (.getfield 10, 3) := by decide +kernel
theorem dX7_count_104 : decode cX7_count 104 = .ok (.getfield 237, 3) := by decide +kernel
theorem dX7_count_107 : decode cX7_count 107 = .ok (.ireturn, 1) := by decide +kernel
theorem dX7_count_108 : decode cX7_count 108 = .ok (.aload_n 0, 1) := by decide +kernel
theorem dX7_count_109 : decode cX7_count 109 = .ok (.getfield 10, 3) := by decide +kernel
theorem dX7_count_112 : decode cX7_count 112 = .ok (.iconst 0, 1) := by decide +kernel
theorem dX7_count_113 : decode cX7_count 113 = .ok (.invokevirtual 240, 3) := by decide +kernel
theorem dX7_count_116 : decode cX7_count 116 = .ok (.ireturn, 1) := by decide +kernel
theorem dX7_count_117 : decode cX7_count 117 = .ok (.aload_n 0, 1) := by decide +kernel
theorem dX7_count_118 : decode cX7_count 118 = .ok (.getfield 10, 3) := by decide +kernel
theorem dX7_count_121 : decode cX7_count 121 = .ok (.iconst 1, 1) := by decide +kernel
theorem dX7_count_122 : decode cX7_count 122 = .ok (.invokevirtual 240, 3) := by decide +kernel
theorem dX7_count_125 : decode cX7_count 125 = .ok (.ireturn, 1) := by decide +kernel
theorem dX7_count_126 : decode cX7_count 126 = .ok (.aload_n 0, 1) := by decide +kernel
theorem dX7_count_127 : decode cX7_count 127 = .ok (.getfield 10, 3) := by decide +kernel
theorem dX7_count_130 : decode cX7_count 130 = .ok (.iconst 2, 1) := by decide +kernel
theorem dX7_count_131 : decode cX7_count 131 = .ok (.invokevirtual 240, 3) := by decide +kernel
theorem dX7_count_134 : decode cX7_count 134 = .ok (.ireturn, 1) := by decide +kernel
theorem dX7_count_135 : decode cX7_count 135 = .ok (.aload_n 0, 1) := by decide +kernel
theorem dX7_count_136 : decode cX7_count 136 = .ok (.getfield 48, 3) := by decide +kernel
theorem dX7_count_139 : decode cX7_count 139 = .ok (.invokevirtual 243, 3) := by decide +kernel
theorem dX7_count_142 : decode cX7_count 142 = .ok (.ireturn, 1) := by decide +kernel
theorem dX7_count_143 : decode cX7_count 143 = .ok (.aload_n 0, 1) := by decide +kernel
theorem dX7_count_144 : decode cX7_count 144 = .ok (.getfield 62, 3) := by decide +kernel
theorem dX7_count_147 : decode cX7_count 147 = .ok (.invokevirtual 128, 3) := by decide +kernel
theorem dX7_count_150 : decode cX7_count 150 = .ok (.ireturn, 1) := by decide +kernel
theorem dX7_count_151 : decode cX7_count 151 = .ok (.bipush (-2), 2) := by decide +kernel
theorem dX7_count_153 : decode cX7_count 153 = .ok (.ireturn, 1) := by decide +kernel
theorem dX7_placeNow_0 : decode cX7_placeNow 0 = .ok (.aload_n 0, 1) := by decide +kernel
theorem dX7_placeNow_1 : decode cX7_placeNow 1 = .ok (.getfield 10, 3) := by decide +kernel
theorem dX7_placeNow_4 : decode cX7_placeNow 4 = .ok (.iload_n 1, 1) := by decide +kernel
theorem dX7_placeNow_5 : decode cX7_placeNow 5 = .ok (.invokevirtual 162, 3) := by decide +kernel
theorem dX7_placeNow_8 : decode cX7_placeNow 8 = .ok (.ifCond .ne 5, 3) := by decide +kernel
theorem dX7_placeNow_11 : decode cX7_placeNow 11 = .ok (.iconst (-1), 1) := by decide +kernel
theorem dX7_placeNow_12 : decode cX7_placeNow 12 = .ok (.ireturn, 1) := by decide +kernel
theorem dX7_placeNow_13 : decode cX7_placeNow 13 = .ok (.aload_n 0, 1) := by decide +kernel
theorem dX7_placeNow_14 : decode cX7_placeNow 14 = .ok (.getfield 10, 3) := by decide +kernel
theorem dX7_placeNow_17 : decode cX7_placeNow 17 = .ok (.invokevirtual 246, 3) := by decide +kernel
theorem dX7_placeNow_20 : decode cX7_placeNow 20 = .ok (.ifCond .ne 6, 3) := by decide +kernel
theorem dX7_placeNow_23 : decode cX7_placeNow 23 = .ok (.bipush (-4), 2) := by decide +kernel
theorem dX7_placeNow_25 : decode cX7_placeNow 25 = .ok (.ireturn, 1) := by decide +kernel
theorem dX7_placeNow_26 : decode cX7_placeNow 26 = .ok (.aload_n 0, 1) := by decide +kernel
theorem dX7_placeNow_27 : decode cX7_placeNow 27 = .ok (.getfield 35, 3) := by decide +kernel
theorem dX7_placeNow_30 : decode cX7_placeNow 30 = .ok (.aload_n 0, 1) := by decide +kernel
theorem dX7_placeNow_31 : decode cX7_placeNow 31 = .ok (.getfield 10, 3) := by decide +kernel
theorem dX7_placeNow_34 : decode cX7_placeNow 34 = .ok (.invokevirtual 250, 3) := by decide +kernel
theorem dX7_placeNow_37 : decode cX7_placeNow 37 = .ok (.iload_n 1, 1) := by decide +kernel
theorem dX7_placeNow_38 : decode cX7_placeNow 38 = .ok (.invokevirtual 186, 3) := by decide +kernel
theorem dX7_placeNow_41 : decode cX7_placeNow 41 = .ok (.ireturn, 1) := by decide +kernel
theorem dX7_secondsLeft_0 : decode cX7_secondsLeft 0 = .ok (.aload_n 0, 1) := by decide +kernel
theorem dX7_secondsLeft_1 : decode cX7_secondsLeft 1 = .ok (.getfield 10, 3) := by decide +kernel
theorem dX7_secondsLeft_4 : decode cX7_secondsLeft 4 = .ok (.iload_n 1, 1) := by decide +kernel
theorem dX7_secondsLeft_5 : decode cX7_secondsLeft 5 = .ok (.invokevirtual 162, 3) := by decide +kernel
theorem dX7_secondsLeft_8 : decode cX7_secondsLeft 8 = .ok (.ifCond .ne 5, 3) := by decide +kernel
theorem dX7_secondsLeft_11 : decode cX7_secondsLeft 11 = .ok (.iconst (-1), 1) := by decide +kernel
theorem dX7_secondsLeft_12 : decode cX7_secondsLeft 12 = .ok (.ireturn, 1) := by decide +kernel
theorem dX7_secondsLeft_13 : decode cX7_secondsLeft 13 = .ok (.aload_n 0, 1) := by decide +kernel
theorem dX7_secondsLeft_14 : decode cX7_secondsLeft 14 = .ok (.getfield 10, 3) := by decide +kernel
theorem dX7_secondsLeft_17 : decode cX7_secondsLeft 17 = .ok (.invokevirtual 246, 3) := by decide +kernel
theorem dX7_secondsLeft_20 : decode cX7_secondsLeft 20 = .ok (.ifCond .eq 16, 3) := by decide +kernel
theorem dX7_secondsLeft_23 : decode cX7_secondsLeft 23 = .ok (.aload_n 0, 1) := by decide +kernel
theorem dX7_secondsLeft_24 : decode cX7_secondsLeft 24 = .ok (.getfield 10, 3) := by decide +kernel
theorem dX7_secondsLeft_27 : decode cX7_secondsLeft 27 = .ok (.iload_n 1, 1) := by decide +kernel
theorem dX7_secondsLeft_28 : decode cX7_secondsLeft 28 = .ok (.iconst 0, 1) := by decide +kernel
theorem dX7_secondsLeft_29 : decode cX7_secondsLeft 29 = .ok (.invokevirtual 253, 3) := by decide +kernel
theorem dX7_secondsLeft_32 : decode cX7_secondsLeft 32 = .ok (.iconst 2, 1) := by decide +kernel
theorem dX7_secondsLeft_33 : decode cX7_secondsLeft 33 = .ok (.if_icmp .eq 6, 3) := by decide +kernel
theorem dX7_secondsLeft_36 : decode cX7_secondsLeft 36 = .ok (.bipush (-4), 2) := by decide +kernel
theorem dX7_secondsLeft_38 : decode cX7_secondsLeft 38 = .ok (.ireturn, 1) := by decide +kernel
theorem dX7_secondsLeft_39 : decode cX7_secondsLeft 39 = .ok (.aload_n 0, 1) := by decide +kernel
theorem dX7_secondsLeft_40 : decode cX7_secondsLeft 40 = .ok (.getfield 35, 3) := by decide +kernel
theorem dX7_secondsLeft_43 : decode cX7_secondsLeft 43 = .ok (.iload_n 1, 1) := by decide +kernel
theorem dX7_secondsLeft_44 : decode cX7_secondsLeft 44 = .ok (.invokevirtual 256, 3) := by decide +kernel
theorem dX7_secondsLeft_47 : decode cX7_secondsLeft 47 = .ok (.ireturn, 1) := by decide +kernel
theorem dX7_rankIfDisqualified_0 : decode cX7_rankIfDisqualified 0 = .ok (.aload_n 0, 1) := by decide +kernel
theorem dX7_rankIfDisqualified_1 : decode cX7_rankIfDisqualified 1 = .ok (.getfield 10, 3) := by decide +kernel
theorem dX7_rankIfDisqualified_4 : decode cX7_rankIfDisqualified 4 = .ok (.iload_n 1, 1) := by decide +kernel
theorem dX7_rankIfDisqualified_5 : decode cX7_rankIfDisqualified 5 = .ok (.invokevirtual 162, 3) := by decide +kernel
theorem dX7_rankIfDisqualified_8 : decode cX7_rankIfDisqualified 8 = .ok (.ifCond .eq 14, 3) := by decide +kernel
theorem dX7_rankIfDisqualified_11 : decode cX7_rankIfDisqualified 11 = .ok (.aload_n 0, 1) := by decide +kernel
theorem dX7_rankIfDisqualified_12 : decode cX7_rankIfDisqualified 12 = .ok (.getfield 10, 3) := by decide +kernel
theorem dX7_rankIfDisqualified_15 : decode cX7_rankIfDisqualified 15 = .ok (.iload_n 2, 1) := by decide +kernel
theorem dX7_rankIfDisqualified_16 : decode cX7_rankIfDisqualified 16 = .ok (.invokevirtual 159, 3) := by decide +kernel
theorem dX7_rankIfDisqualified_19 : decode cX7_rankIfDisqualified 19 = .ok (.ifCond .ne 5, 3) := by decide +kernel
theorem dX7_rankIfDisqualified_22 : decode cX7_rankIfDisqualified 22 = .ok (.iconst (-1), 1) := by decide +kernel
theorem dX7_rankIfDisqualified_23 : decode cX7_rankIfDisqualified 23 = .ok (.ireturn, 1) := by decide +kernel
theorem dX7_rankIfDisqualified_24 : decode cX7_rankIfDisqualified 24 = .ok (.aload_n 0, 1) := by decide +kernel
theorem dX7_rankIfDisqualified_25 : decode cX7_rankIfDisqualified 25 = .ok (.getfield 10, 3) := by decide +kernel
theorem dX7_rankIfDisqualified_28 : decode cX7_rankIfDisqualified 28 = .ok (.iload_n 2, 1) := by decide +kernel
theorem dX7_rankIfDisqualified_29 : decode cX7_rankIfDisqualified 29 = .ok (.invokevirtual 183, 3) := by decide +kernel
theorem dX7_rankIfDisqualified_32 : decode cX7_rankIfDisqualified 32 = .ok (.ifCond .ne 6, 3) := by decide +kernel
theorem dX7_rankIfDisqualified_35 : decode cX7_rankIfDisqualified 35 = .ok (.bipush (-4), 2) := by decide +kernel
theorem dX7_rankIfDisqualified_37 : decode cX7_rankIfDisqualified 37 = .ok (.ireturn, 1) := by decide +kernel
theorem dX7_rankIfDisqualified_38 : decode cX7_rankIfDisqualified 38 = .ok (.aload_n 0, 1) := by decide +kernel
theorem dX7_rankIfDisqualified_39 : decode cX7_rankIfDisqualified 39 = .ok (.getfield 39, 3) := by decide +kernel
theorem dX7_rankIfDisqualified_42 : decode cX7_rankIfDisqualified 42 = .ok (.aload_n 0, 1) := by decide +kernel
theorem dX7_rankIfDisqualified_43 : decode cX7_rankIfDisqualified 43 = .ok (.getfield 10, 3) := by decide +kernel
theorem dX7_rankIfDisqualified_46 : decode cX7_rankIfDisqualified 46 = .ok (.invokevirtual 152, 3) := by decide +kernel
theorem dX7_rankIfDisqualified_49 : decode cX7_rankIfDisqualified 49 = .ok (.aload_n 0, 1) := by decide +kernel
theorem dX7_rankIfDisqualified_50 : decode cX7_rankIfDisqualified 50 = .ok (.getfield 39, 3) := by decide +kernel
theorem dX7_rankIfDisqualified_53 : decode cX7_rankIfDisqualified 53 = .ok (.getfield 165, 3) := by decide +kernel
theorem dX7_rankIfDisqualified_56 : decode cX7_rankIfDisqualified 56 = .ok (.aload_n 0, 1) := by decide +kernel
theorem dX7_rankIfDisqualified_57 : decode cX7_rankIfDisqualified 57 = .ok (.getfield 39, 3) := by decide +kernel
theorem dX7_rankIfDisqualified_60 : decode cX7_rankIfDisqualified 60 = .ok (.iload_n 2, 1) := by decide +kernel
theorem dX7_rankIfDisqualified_61 : decode cX7_rankIfDisqualified 61 = .ok (.iload_n 1, 1) := by decide +kernel
theorem dX7_rankIfDisqualified_62 : decode cX7_rankIfDisqualified 62 = .ok (.invokevirtual 169, 3) := by decide +kernel
theorem dX7_rankIfDisqualified_65 : decode cX7_rankIfDisqualified 65 = .ok (.iconst 4, 1) := by decide +kernel
theorem dX7_rankIfDisqualified_66 : decode cX7_rankIfDisqualified 66 = .ok (.iconst 1, 1) := by decide +kernel
theorem dX7_rankIfDisqualified_67 : decode cX7_rankIfDisqualified 67 = .ok (.invokevirtual 259, 3) := by decide +kernel
theorem dX7_rankIfDisqualified_70 : decode cX7_rankIfDisqualified 70 = .ok (.aload_n 0, 1) := by decide +kernel
theorem dX7_rankIfDisqualified_71 : decode cX7_rankIfDisqualified 71 = .ok (.getfield 42, 3) := by decide +kernel
theorem dX7_rankIfDisqualified_74 : decode cX7_rankIfDisqualified 74 = .ok (.invokevirtual 192, 3) := by decide +kernel
theorem dX7_rankIfDisqualified_77 : decode cX7_rankIfDisqualified 77 = .ok (.aload_n 0, 1) := by decide +kernel
theorem dX7_rankIfDisqualified_78 : decode cX7_rankIfDisqualified 78 = .ok (.getfield 42, 3) := by decide +kernel
theorem dX7_rankIfDisqualified_81 : decode cX7_rankIfDisqualified 81 = .ok (.iload_n 1, 1) := by decide +kernel
theorem dX7_rankIfDisqualified_82 : decode cX7_rankIfDisqualified 82 = .ok (.invokevirtual 201, 3) := by decide +kernel
theorem dX7_rankIfDisqualified_85 : decode cX7_rankIfDisqualified 85 = .ok (.ireturn, 1) := by decide +kernel
theorem dX7_mean_0 : decode cX7_mean 0 = .ok (.aload_n 0, 1) := by decide +kernel
theorem dX7_mean_1 : decode cX7_mean 1 = .ok (.getfield 10, 3) := by decide +kernel
theorem dX7_mean_4 : decode cX7_mean 4 = .ok (.invokevirtual 231, 3) := by decide +kernel
theorem dX7_mean_7 : decode cX7_mean 7 = .ok (.istore_n 2, 1) := by decide +kernel
theorem dX7_mean_8 : decode cX7_mean 8 = .ok (.aload_n 0, 1) := by decide +kernel
theorem dX7_mean_9 : decode cX7_mean 9 = .ok (.getfield 10, 3) := by decide +kernel
theorem dX7_mean_12 : decode cX7_mean 12 = .ok (.iload_n 1, 1) := by decide +kernel
theorem dX7_mean_13 : decode cX7_mean 13 = .ok (.invokevirtual 162, 3) := by decide +kernel
theorem dX7_mean_16 : decode cX7_mean 16 = .ok (.ifCond .eq 7, 3) := by decide +kernel
theorem dX7_mean_19 : decode cX7_mean 19 = .ok (.iload_n 2, 1) := by decide +kernel
theorem dX7_mean_20 : decode cX7_mean 20 = .ok (.ifCond .gt 5, 3) := by decide +kernel
theorem dX7_mean_23 : decode cX7_mean 23 = .ok (.fconst 0, 1) := by decide +kernel
theorem dX7_mean_24 : decode cX7_mean 24 = .ok (.freturn, 1) := by decide +kernel
theorem dX7_mean_25 : decode cX7_mean 25 = .ok (.aload_n 0, 1) := by decide +kernel
theorem dX7_mean_26 : decode cX7_mean 26 = .ok (.getfield 35, 3) := by decide +kernel
theorem dX7_mean_29 : decode cX7_mean 29 = .ok (.invokevirtual 192, 3) := by decide +kernel
theorem dX7_mean_32 : decode cX7_mean 32 = .ok (.aload_n 0, 1) := by decide +kernel
theorem dX7_mean_33 : decode cX7_mean 33 = .ok (.getfield 35, 3) := by decide +kernel
theorem dX7_mean_36 : decode cX7_mean 36 = .ok (.iload_n 1, 1) := by decide +kernel
theorem dX7_mean_37 : decode cX7_mean 37 = .ok (.invokevirtual 263, 3) := by decide +kernel
theorem dX7_mean_40 : decode cX7_mean 40 = .ok (.i2f, 1) := by decide +kernel
theorem dX7_mean_41 : decode cX7_mean 41 = .ok (.iload_n 2, 1) := by decide +kernel
theorem dX7_mean_42 : decode cX7_mean 42 = .ok (.i2f, 1) := by decide +kernel
theorem dX7_mean_43 : decode cX7_mean 43 = .ok (.fdiv, 1) := by decide +kernel
theorem dX7_mean_44 : decode cX7_mean 44 = .ok (.freturn, 1) := by decide +kernel
theorem dX8_init_0 : decode cX8_init 0 = .ok (.aload_n 0, 1) := by decide +kernel
theorem dX8_init_1 : decode cX8_init 1 = .ok (.invokespecial 1, 3) := by decide +kernel
theorem dX8_init_4 : decode cX8_init 4 = .ok (.aload_n 0, 1) := by decide +kernel
theorem dX8_init_5 : decode cX8_init 5 = .ok (.sipush 404, 3) := by decide +kernel
theorem dX8_init_8 : decode cX8_init 8 = .ok (.newarray .int, 2) := by decide +kernel
theorem dX8_init_10 : decode cX8_init 10 = .ok (.putfield 7, 3) := by decide +kernel
theorem dX8_init_13 : decode cX8_init 13 = .ok (.aload_n 0, 1) := by decide +kernel
theorem dX8_init_14 : decode cX8_init 14 = .ok (.sipush 1616, 3) := by decide +kernel
theorem dX8_init_17 : decode cX8_init 17 = .ok (.newarray .int, 2) := by decide +kernel
theorem dX8_init_19 : decode cX8_init 19 = .ok (.putfield 13, 3) := by decide +kernel
theorem dX8_init_22 : decode cX8_init 22 = .ok (.aload_n 0, 1) := by decide +kernel
theorem dX8_init_23 : decode cX8_init 23 = .ok (.sipush 404, 3) := by decide +kernel
theorem dX8_init_26 : decode cX8_init 26 = .ok (.newarray .int, 2) := by decide +kernel
theorem dX8_init_28 : decode cX8_init 28 = .ok (.putfield 16, 3) := by decide +kernel
theorem dX8_init_31 : decode cX8_init 31 = .ok (.aload_n 0, 1) := by decide +kernel
theorem dX8_init_32 : decode cX8_init 32 = .ok (.bipush 80, 2) := by decide +kernel
theorem dX8_init_34 : decode cX8_init 34 = .ok (.newarray .int, 2) := by decide +kernel
theorem dX8_init_36 : decode cX8_init 36 = .ok (.putfield 19, 3) := by decide +kernel
theorem dX8_init_39 : decode cX8_init 39 = .ok (.aload_n 0, 1) := by decide +kernel
theorem dX8_init_40 : decode cX8_init 40 = .ok (.getfield 7, 3) := by decide +kernel
theorem dX8_init_43 : decode cX8_init 43 = .ok (.iconst 4, 1) := by decide +kernel
theorem dX8_init_44 : decode cX8_init 44 = .ok (.sipush 600, 3) := by decide +kernel
theorem dX8_init_47 : decode cX8_init 47 = .ok (.iastore, 1) := by decide +kernel
theorem dX8_init_48 : decode cX8_init 48 = .ok (.aload_n 0, 1) := by decide +kernel
theorem dX8_init_49 : decode cX8_init 49 = .ok (.getfield 7, 3) := by decide +kernel
theorem dX8_init_52 : decode cX8_init 52 = .ok (.iconst 5, 1) := by decide +kernel
theorem dX8_init_53 : decode cX8_init 53 = .ok (.bipush 60, 2) := by decide +kernel
theorem dX8_init_55 : decode cX8_init 55 = .ok (.iastore, 1) := by decide +kernel
theorem dX8_init_56 : decode cX8_init 56 = .ok (.aload_n 0, 1) := by decide +kernel
theorem dX8_init_57 : decode cX8_init 57 = .ok (.getfield 7, 3) := by decide +kernel
theorem dX8_init_60 : decode cX8_init 60 = .ok (.bipush 6, 2) := by decide +kernel
theorem dX8_init_62 : decode cX8_init 62 = .ok (.iconst 4, 1) := by decide +kernel
theorem dX8_init_63 : decode cX8_init 63 = .ok (.iastore, 1) := by decide +kernel
theorem dX8_init_64 : decode cX8_init 64 = .ok (.return_, 1) := by decide +kernel
theorem dX8_in_0 : decode cX8_in 0 = .ok (.iload_n 0, 1) := by decide +kernel
theorem dX8_in_1 : decode cX8_in 1 = .ok (.iload_n 1, 1) := by decide +kernel
theorem dX8_in_2 : decode cX8_in 2 = .ok (.if_icmp .lt 12, 3) := by decide +kernel
theorem dX8_in_5 : decode cX8_in 5 = .ok (.iload_n 0, 1) := by decide +kernel
theorem dX8_in_6 : decode cX8_in 6 = .ok (.iload_n 2, 1) := by decide +kernel
theorem dX8_in_7 : decode cX8_in 7 = .ok (.if_icmp .gt 7, 3) := by decide +kernel
theorem dX8_in_10 : decode cX8_in 10 = .ok (.iconst 1, 1) := by decide +kernel
theorem dX8_in_11 : decode cX8_in 11 = .ok (.goto 4, 3) := by decide +kernel
theorem dX8_in_14 : decode cX8_in 14 = .ok (.iconst 0, 1) := by decide +kernel
theorem dX8_in_15 : decode cX8_in 15 = .ok (.ireturn, 1) := by decide +kernel
theorem dX8_isBoat_0 : decode cX8_isBoat 0 = .ok (.iload_n 1, 1) := by decide +kernel
theorem dX8_isBoat_1 : decode cX8_isBoat 1 = .ok (.iconst 0, 1) := by decide +kernel
theorem dX8_isBoat_2 : decode cX8_isBoat 2 = .ok (.aload_n 0, 1) := by decide +kernel
theorem dX8_isBoat_3 : decode cX8_isBoat 3 = .ok (.getfield 7, 3) := by decide +kernel
theorem dX8_isBoat_6 : decode cX8_isBoat 6 = .ok (.iconst 1, 1) := by decide +kernel
theorem dX8_isBoat_7 : decode cX8_isBoat 7 = .ok (.iaload, 1) := by decide +kernel
theorem dX8_isBoat_8 : decode cX8_isBoat 8 = .ok (.iconst 1, 1) := by decide +kernel
theorem dX8_isBoat_9 : decode cX8_isBoat 9 = .ok (.isub, 1) := by decide +kernel
theorem dX8_isBoat_10 : decode cX8_isBoat 10 = .ok (.invokestatic 22, 3) := by decide +kernel
theorem dX8_isBoat_13 : decode cX8_isBoat 13 = .ok (.ireturn, 1) := by decide +kernel
theorem dX8_isRace_0 : decode cX8_isRace 0 = .ok (.iload_n 1, 1) := by decide +kernel
theorem dX8_isRace_1 : decode cX8_isRace 1 = .ok (.iconst 0, 1) := by decide +kernel
theorem dX8_isRace_2 : decode cX8_isRace 2 = .ok (.aload_n 0, 1) := by decide +kernel
theorem dX8_isRace_3 : decode cX8_isRace 3 = .ok (.getfield 7, 3) := by decide +kernel
theorem dX8_isRace_6 : decode cX8_isRace 6 = .ok (.iconst 2, 1) := by decide +kernel
theorem dX8_isRace_7 : decode cX8_isRace 7 = .ok (.iaload, 1) := by decide +kernel
theorem dX8_isRace_8 : decode cX8_isRace 8 = .ok (.iconst 1, 1) := by decide +kernel
theorem dX8_isRace_9 : decode cX8_isRace 9 = .ok (.isub, 1) := by decide +kernel
theorem dX8_isRace_10 : decode cX8_isRace 10 = .ok (.invokestatic 22, 3) := by decide +kernel
theorem dX8_isRace_13 : decode cX8_isRace 13 = .ok (.ireturn, 1) := by decide +kernel
theorem dX8_isProtest_0 : decode cX8_isProtest 0 = .ok (.iload_n 1, 1) := by decide +kernel
theorem dX8_isProtest_1 : decode cX8_isProtest 1 = .ok (.iconst 0, 1) := by decide +kernel
theorem dX8_isProtest_2 : decode cX8_isProtest 2 = .ok (.aload_n 0, 1) := by decide +kernel
theorem dX8_isProtest_3 : decode cX8_isProtest 3 = .ok (.getfield 7, 3) := by decide +kernel
theorem dX8_isProtest_6 : decode cX8_isProtest 6 = .ok (.iconst 3, 1) := by decide +kernel
theorem dX8_isProtest_7 : decode cX8_isProtest 7 = .ok (.iaload, 1) := by decide +kernel
theorem dX8_isProtest_8 : decode cX8_isProtest 8 = .ok (.iconst 1, 1) := by decide +kernel
theorem dX8_isProtest_9 : decode cX8_isProtest 9 = .ok (.isub, 1) := by decide +kernel
theorem dX8_isProtest_10 : decode cX8_isProtest 10 = .ok (.invokestatic 22, 3) := by decide +kernel
theorem dX8_isProtest_13 : decode cX8_isProtest 13 = .ok (.ireturn, 1) := by decide +kernel
theorem dX8_ofRace_0 : decode cX8_ofRace 0 = .ok (.aload_n 0, 1) := by decide +kernel
theorem dX8_ofRace_1 : decode cX8_ofRace 1 = .ok (.getfield 7, 3) := by decide +kernel
theorem dX8_ofRace_4 : decode cX8_ofRace 4 = .ok (.bipush 16, 2) := by decide +kernel
theorem dX8_ofRace_6 : decode cX8_ofRace 6 = .ok (.iconst 4, 1) := by decide +kernel
theorem dX8_ofRace_7 : decode cX8_ofRace 7 = .ok (.iload_n 1, 1) := by decide +kernel
theorem dX8_ofRace_8 : decode cX8_ofRace 8 = .ok (.imul, 1) := by decide +kernel
theorem dX8_ofRace_9 : decode cX8_ofRace 9 = .ok (.iadd, 1) := by decide +kernel
theorem dX8_ofRace_10 : decode cX8_ofRace 10 = .ok (.iload_n 2, 1) := by decide +kernel
theorem dX8_ofRace_11 : decode cX8_ofRace 11 = .ok (.iadd, 1) := by decide +kernel
theorem dX8_ofRace_12 : decode cX8_ofRace 12 = .ok (.iaload, 1) := by decide +kernel
theorem dX8_ofRace_13 : decode cX8_ofRace 13 = .ok (.ireturn, 1) := by decide +kernel
theorem dX8_of_0 : decode cX8_of 0 = .ok (.aload_n 0, 1) := by decide +kernel
theorem dX8_of_1 : decode cX8_of 1 = .ok (.getfield 7, 3) := by decide +kernel
theorem dX8_of_4 : decode cX8_of 4 = .ok (.bipush 80, 2) := by decide +kernel
theorem dX8_of_6 : decode cX8_of 6 = .ok (.bipush 6, 2) := by decide +kernel
theorem dX8_of_8 : decode cX8_of 8 = .ok (.bipush 9, 2) := by decide +kernel
theorem dX8_of_10 : decode cX8_of 10 = .ok (.iload_n 1, 1) := by decide +kernel
theorem dX8_of_11 : decode cX8_of 11 = .ok (.imul, 1) := by decide +kernel
theorem dX8_of_12 : decode cX8_of 12 = .ok (.iload_n 2, 1) := by decide +kernel
theorem dX8_of_13 : decode cX8_of 13 = .ok (.iadd, 1) := by decide +kernel
theorem dX8_of_14 : decode cX8_of 14 = .ok (.imul, 1) := by decide +kernel
theorem dX8_of_15 : decode cX8_of 15 = .ok (.iadd, 1) := by decide +kernel
theorem dX8_of_16 : decode cX8_of 16 = .ok (.iload_n 3, 1) := by decide +kernel
theorem dX8_of_17 : decode cX8_of 17 = .ok (.iadd, 1) := by decide +kernel
theorem dX8_of_18 : decode cX8_of 18 = .ok (.iaload, 1) := by decide +kernel
theorem dX8_of_19 : decode cX8_of 19 = .ok (.ireturn, 1) := by decide +kernel
theorem dX8_lay_0 : decode cX8_lay 0 = .ok (.aload_n 0, 1) := by decide +kernel
theorem dX8_lay_1 : decode cX8_lay 1 = .ok (.getfield 7, 3) := by decide +kernel
theorem dX8_lay_4 : decode cX8_lay 4 = .ok (.bipush 80, 2) := by decide +kernel
theorem dX8_lay_6 : decode cX8_lay 6 = .ok (.bipush 6, 2) := by decide +kernel
theorem dX8_lay_8 : decode cX8_lay 8 = .ok (.bipush 9, 2) := by decide +kernel
theorem dX8_lay_10 : decode cX8_lay 10 = .ok (.iload_n 1, 1) := by decide +kernel
theorem dX8_lay_11 : decode cX8_lay 11 = .ok (.imul, 1) := by decide +kernel
theorem dX8_lay_12 : decode cX8_lay 12 = .ok (.iload_n 2, 1) := by decide +kernel
theorem dX8_lay_13 : decode cX8_lay 13 = .ok (.iadd, 1) := by decide +kernel
theorem dX8_lay_14 : decode cX8_lay 14 = .ok (.imul, 1) := by decide +kernel
theorem dX8_lay_15 : decode cX8_lay 15 = .ok (.iadd, 1) := by decide +kernel
theorem dX8_lay_16 : decode cX8_lay 16 = .ok (.iload_n 3, 1) := by decide +kernel
theorem dX8_lay_17 : decode cX8_lay 17 = .ok (.iadd, 1) := by decide +kernel
theorem dX8_lay_18 : decode cX8_lay 18 = .ok (.iload 4, 2) := by decide +kernel
theorem dX8_lay_20 : decode cX8_lay 20 = .ok (.iastore, 1) := by decide +kernel
theorem dX8_lay_21 : decode cX8_lay 21 = .ok (.return_, 1) := by decide +kernel
theorem dX8_ofProtest_0 : decode cX8_ofProtest 0 = .ok (.aload_n 0, 1) := by decide +kernel
theorem dX8_ofProtest_1 : decode cX8_ofProtest 1 = .ok (.getfield 7, 3) := by decide +kernel
theorem dX8_ofProtest_4 : decode cX8_ofProtest 4 = .ok (.bipush 40, 2) := by decide +kernel
theorem dX8_ofProtest_6 : decode cX8_ofProtest 6 = .ok (.iconst 4, 1) := by decide +kernel
theorem dX8_ofProtest_7 : decode cX8_ofProtest 7 = .ok (.iload_n 1, 1) := by decide +kernel
theorem dX8_ofProtest_8 : decode cX8_ofProtest 8 = .ok (.imul, 1) := by decide +kernel
theorem dX8_ofProtest_9 : decode cX8_ofProtest 9 = .ok (.iadd, 1) := by decide +kernel
theorem dX8_ofProtest_10 : decode cX8_ofProtest 10 = .ok (.iload_n 2, 1) := by decide +kernel
theorem dX8_ofProtest_11 : decode cX8_ofProtest 11 = .ok (.iadd, 1) := by decide +kernel
theorem dX8_ofProtest_12 : decode cX8_ofProtest 12 = .ok (.iaload, 1) := by decide +kernel
theorem dX8_ofProtest_13 : decode cX8_ofProtest 13 = .ok (.ireturn, 1) := by decide +kernel
theorem dX8_latest_0 : decode cX8_latest 0 = .ok (.aload_n 0, 1) := by decide +kernel
theorem dX8_latest_1 : decode cX8_latest 1 = .ok (.getfield 7, 3) := by decide +kernel
theorem dX8_latest_4 : decode cX8_latest 4 = .ok (.iconst 2, 1) := by decide +kernel
theorem dX8_latest_5 : decode cX8_latest 5 = .ok (.iaload, 1) := by decide +kernel
theorem dX8_latest_6 : decode cX8_latest 6 = .ok (.iconst 1, 1) := by decide +kernel
theorem dX8_latest_7 : decode cX8_latest 7 = .ok (.isub, 1) := by decide +kernel
theorem dX8_latest_8 : decode cX8_latest 8 = .ok (.ireturn, 1) := by decide +kernel
theorem dX8_isPrepared_0 : decode cX8_isPrepared 0 = .ok (.aload_n 0, 1) := by decide +kernel
theorem dX8_isPrepared_1 : decode cX8_isPrepared 1 = .ok (.getfield 7, 3) := by decide +kernel
theorem dX8_isPrepared_4 : decode cX8_isPrepared 4 = .ok (.iconst 2, 1) := by decide +kernel
theorem dX8_isPrepared_5 : decode cX8_isPrepared 5 = .ok (.iaload, 1) := by decide +kernel
theorem dX8_isPrepared_6 : decode cX8_isPrepared 6 = .ok (.ifCond .le 19, 3) := by decide +kernel
theorem dX8_isPrepared_9 : decode cX8_isPrepared 9 = .ok (.aload_n 0, 1) := by decide +kernel
theorem dX8_isPrepared_10 : decode cX8_isPrepared 10 = .ok (.aload_n 0, 1) := by decide +kernel
theorem dX8_isPrepared_11 : decode cX8_isPrepared 11 = .ok (.invokevirtual 26, 3) := by decide +kernel
theorem dX8_isPrepared_14 : decode cX8_isPrepared 14 = .ok (.iconst 3, 1) := by decide +kernel
theorem dX8_isPrepared_15 : decode cX8_isPrepared 15 = .ok (.invokevirtual 30, 3) := by decide +kernel
theorem dX8_isPrepared_18 : decode cX8_isPrepared 18 = .ok (.ifCond .ne 7, 3) := by decide +kernel
theorem dX8_isPrepared_21 : decode cX8_isPrepared 21 = .ok (.iconst 1, 1) := by decide +kernel
theorem dX8_isPrepared_22 : decode cX8_isPrepared 22 = .ok (.goto 4, 3) := by decide +kernel
theorem dX8_isPrepared_25 : decode cX8_isPrepared 25 = .ok (.iconst 0, 1) := by decide +kernel
theorem dX8_isPrepared_26 : decode cX8_isPrepared 26 = .ok (.ireturn, 1) := by decide +kernel
theorem dX8_start_0 : decode cX8_start 0 = .ok (.aload_n 0, 1) := by decide +kernel
theorem dX8_start_1 : decode cX8_start 1 = .ok (.aload_n 0, 1) := by decide +kernel
theorem dX8_start_2 : decode cX8_start 2 = .ok (.invokevirtual 26, 3) := by decide +kernel
theorem dX8_start_5 : decode cX8_start 5 = .ok (.iconst 2, 1) := by decide +kernel
theorem dX8_start_6 : decode cX8_start 6 = .ok (.invokevirtual 30, 3) := by decide +kernel
theorem dX8_start_9 : decode cX8_start 9 = .ok (.ireturn, 1) := by decide +kernel
theorem dX8_status_0 : decode cX8_status 0 = .ok (.aload_n 0, 1) := by decide +kernel
theorem dX8_status_1 : decode cX8_status 1 = .ok (.aload_n 0, 1) := by decide +kernel
theorem dX8_status_2 : decode cX8_status 2 = .ok (.invokevirtual 26, 3) := by decide +kernel
theorem dX8_status_5 : decode cX8_status 5 = .ok (.iload_n 1, 1) := by decide +kernel
theorem dX8_status_6 : decode cX8_status 6 = .ok (.iconst 0, 1) := by decide +kernel
theorem dX8_status_7 : decode cX8_status 7 = .ok (.invokevirtual 34, 3) := by decide +kernel
theorem dX8_status_10 : decode cX8_status 10 = .ok (.ireturn, 1) := by decide +kernel
theorem dX8_copy_0 : decode cX8_copy 0 = .ok (.iconst 0, 1) := by decide +kernel
theorem dX8_copy_1 : decode cX8_copy 1 = .ok (.istore 4, 2) := by decide +kernel
theorem dX8_copy_3 : decode cX8_copy 3 = .ok (.iload 4, 2) := by decide +kernel
theorem dX8_copy_5 : decode cX8_copy 5 = .ok (.sipush 404, 3) := by decide +kernel
theorem dX8_copy_8 : decode cX8_copy 8 = .ok (.if_icmp .ge 21, 3) := by decide +kernel
theorem dX8_copy_11 : decode cX8_copy 11 = .ok (.aload_n 2, 1) := by decide +kernel
theorem dX8_copy_12 : decode cX8_copy 12 = .ok (.iload_n 3, 1) := by decide +kernel
theorem dX8_copy_13 : decode cX8_copy 13 = .ok (.iload 4, 2) := by decide +kernel
theorem dX8_copy_15 : decode cX8_copy 15 = .ok (.iadd, 1) := by decide +kernel
theorem dX8_copy_16 : decode cX8_copy 16 = .ok (.aload_n 0, 1) := by decide +kernel
theorem dX8_copy_17 : decode cX8_copy 17 = .ok (.iload_n 1, 1) := by decide +kernel
theorem dX8_copy_18 : decode cX8_copy 18 = .ok (.iload 4, 2) := by decide +kernel
theorem dX8_copy_20 : decode cX8_copy 20 = .ok (.iadd, 1) := by decide +kernel
theorem dX8_copy_21 : decode cX8_copy 21 = .ok (.iaload, 1) := by decide +kernel
theorem dX8_copy_22 : decode cX8_copy 22 = .ok (.iastore, 1) := by decide +kernel
theorem dX8_copy_23 : decode cX8_copy 23 = .ok (.iinc 4 1, 3) := by decide +kernel
theorem dX8_copy_26 : decode cX8_copy 26 = .ok (.goto (-23), 3) := by decide +kernel
theorem dX8_copy_29 : decode cX8_copy 29 = .ok (.return_, 1) := by decide +kernel
theorem dX8_record_0 : decode cX8_record 0 = .ok (.aload_n 0, 1) := by decide +kernel
theorem dX8_record_1 : decode cX8_record 1 = .ok (.getfield 38, 3) := by decide +kernel
theorem dX8_record_4 : decode cX8_record 4 = .ok (.iconst 4, 1) := by decide +kernel
theorem dX8_record_5 : decode cX8_record 5 = .ok (.if_icmp .ne 44, 3) := by decide +kernel
theorem dX8_record_8 : decode cX8_record 8 = .ok (.iconst 0, 1) := by decide +kernel
theorem dX8_record_9 : decode cX8_record 9 = .ok (.istore_n 1, 1) := by decide +kernel
theorem dX8_record_10 : decode cX8_record 10 = .ok (.iload_n 1, 1) := by decide +kernel
theorem dX8_record_11 : decode cX8_record 11 = .ok (.sipush 1212, 3) := by decide +kernel
theorem dX8_record_14 : decode cX8_record 14 = .ok (.if_icmp .ge 25, 3) := by decide +kernel
theorem dX8_record_17 : decode cX8_record 17 = .ok (.aload_n 0, 1) := by decide +kernel
theorem dX8_record_18 : decode cX8_record 18 = .ok (.getfield 13, 3) := by decide +kernel
theorem dX8_record_21 : decode cX8_record 21 = .ok (.iload_n 1, 1) := by decide +kernel
theorem dX8_record_22 : decode cX8_record 22 = .ok (.aload_n 0, 1) := by decide +kernel
theorem dX8_record_23 : decode cX8_record 23 = .ok (.getfield 13, 3) := by decide +kernel
theorem dX8_record_26 : decode cX8_record 26 = .ok (.sipush 404, 3) := by decide +kernel
theorem dX8_record_29 : decode cX8_record 29 = .ok (.iload_n 1, 1) := by decide +kernel
theorem dX8_record_30 : decode cX8_record 30 = .ok (.iadd, 1) := by decide +kernel
theorem dX8_record_31 : decode cX8_record 31 = .ok (.iaload, 1) := by decide +kernel
theorem dX8_record_32 : decode cX8_record 32 = .ok (.iastore, 1) := by decide +kernel
theorem dX8_record_33 : decode cX8_record 33 = .ok (.iinc 1 1, 3) := by decide +kernel
theorem dX8_record_36 : decode cX8_record 36 = .ok (.goto (-26), 3) := by decide +kernel
theorem dX8_record_39 : decode cX8_record 39 = .ok (.aload_n 0, 1) := by decide +kernel
theorem dX8_record_40 : decode cX8_record 40 = .ok (.dup, 1) := by decide +kernel
theorem dX8_record_41 : decode cX8_record 41 = .ok (.getfield 38, 3) := by decide +kernel
theorem dX8_record_44 : decode cX8_record 44 = .ok (.iconst 1, 1) := by decide +kernel
theorem dX8_record_45 : decode cX8_record 45 = .ok (.isub, 1) := by decide +kernel
theorem dX8_record_46 : decode cX8_record 46 = .ok (.putfield 38, 3) := by decide +kernel
theorem dX8_record_49 : decode cX8_record 49 = .ok (.aload_n 0, 1) := by decide +kernel
theorem dX8_record_50 : decode cX8_record 50 = .ok (.getfield 7, 3) := by decide +kernel
theorem dX8_record_53 : decode cX8_record 53 = .ok (.iconst 0, 1) := by decide +kernel
theorem dX8_record_54 : decode cX8_record 54 = .ok (.aload_n 0, 1) := by decide +kernel
theorem dX8_record_55 : decode cX8_record 55 = .ok (.getfield 13, 3) := by decide +kernel
theorem dX8_record_58 : decode cX8_record 58 = .ok (.sipush 404, 3) := by decide +kernel
theorem dX8_record_61 : decode cX8_record 61 = .ok (.aload_n 0, 1) := by decide +kernel
theorem dX8_record_62 : decode cX8_record 62 = .ok (.getfield 38, 3) := by decide +kernel
theorem dX8_record_65 : decode cX8_record 65 = .ok (.imul, 1) := by decide +kernel
theorem dX8_record_66 : decode cX8_record 66 = .ok (.invokestatic 42, 3) := by decide +kernel
theorem dX8_record_69 : decode cX8_record 69 = .ok (.aload_n 0, 1) := by decide +kernel
theorem dX8_record_70 : decode cX8_record 70 = .ok (.dup, 1) := by decide +kernel
theorem dX8_record_71 : decode cX8_record 71 = .ok (.getfield 38, 3) := by decide +kernel
theorem dX8_record_74 : decode cX8_record 74 = .ok (.iconst 1, 1) := by decide +kernel
theorem dX8_record_75 : decode cX8_record 75 = .ok (.iadd, 1) := by decide +kernel
theorem dX8_record_76 : decode cX8_record 76 = .ok (.putfield 38, 3) := by decide +kernel
theorem dX8_record_79 : decode cX8_record 79 = .ok (.return_, 1) := by decide +kernel
theorem dX8_elapsed_0 : decode cX8_elapsed 0 = .ok (.aload_n 0, 1) := by decide +kernel
theorem dX8_elapsed_1 : decode cX8_elapsed 1 = .ok (.iload_n 1, 1) := by decide +kernel
theorem dX8_elapsed_2 : decode cX8_elapsed 2 = .ok (.iload_n 2, 1) := by decide +kernel
theorem dX8_elapsed_3 : decode cX8_elapsed 3 = .ok (.iconst 0, 1) := by decide +kernel
theorem dX8_elapsed_4 : decode cX8_elapsed 4 = .ok (.invokevirtual 34, 3) := by decide +kernel
theorem dX8_elapsed_7 : decode cX8_elapsed 7 = .ok (.iconst 3, 1) := by decide +kernel
theorem dX8_elapsed_8 : decode cX8_elapsed 8 = .ok (.if_icmp .ne 28, 3) := by decide +kernel
theorem dX8_elapsed_11 : decode cX8_elapsed 11 = .ok (.aload_n 0, 1) := by decide +kernel
theorem dX8_elapsed_12 : decode cX8_elapsed 12 = .ok (.iload_n 1, 1) := by decide +kernel
theorem dX8_elapsed_13 : decode cX8_elapsed 13 = .ok (.iload_n 2, 1) := by decide +kernel
theorem dX8_elapsed_14 : decode cX8_elapsed 14 = .ok (.iconst 5, 1) := by decide +kernel
theorem dX8_elapsed_15 : decode cX8_elapsed 15 = .ok (.invokevirtual 34, 3) := by decide +kernel
theorem dX8_elapsed_18 : decode cX8_elapsed 18 = .ok (.aload_n 0, 1) := by decide +kernel
theorem dX8_elapsed_19 : decode cX8_elapsed 19 = .ok (.iload_n 1, 1) := by decide +kernel
theorem dX8_elapsed_20 : decode cX8_elapsed 20 = .ok (.iconst 2, 1) := by decide +kernel
theorem dX8_elapsed_21 : decode cX8_elapsed 21 = .ok (.invokevirtual 30, 3) := by decide +kernel
theorem dX8_elapsed_24 : decode cX8_elapsed 24 = .ok (.isub, 1) := by decide +kernel
theorem dX8_elapsed_25 : decode cX8_elapsed 25 = .ok (.aload_n 0, 1) := by decide +kernel
theorem dX8_elapsed_26 : decode cX8_elapsed 26 = .ok (.iload_n 1, 1) := by decide +kernel
theorem dX8_elapsed_27 : decode cX8_elapsed 27 = .ok (.iload_n 2, 1) := by decide +kernel
theorem dX8_elapsed_28 : decode cX8_elapsed 28 = .ok (.iconst 3, 1) := by decide +kernel
theorem dX8_elapsed_29 : decode cX8_elapsed 29 = .ok (.invokevirtual 34, 3) := by decide +kernel
theorem dX8_elapsed_32 : decode cX8_elapsed 32 = .ok (.iadd, 1) := by decide +kernel
theorem dX8_elapsed_33 : decode cX8_elapsed 33 = .ok (.goto 5, 3) := by decide +kernel
theorem dX8_elapsed_36 : decode cX8_elapsed 36 = .ok (.bipush (-5), 2) := by decide +kernel
theorem dX8_elapsed_38 : decode cX8_elapsed 38 = .ok (.ireturn, 1) := by decide +kernel
theorem dX8_corrected_0 : decode cX8_corrected 0 = .ok (.aload_n 0, 1) := by decide +kernel
theorem dX8_corrected_1 : decode cX8_corrected 1 = .ok (.iload_n 1, 1) := by decide +kernel
theorem dX8_corrected_2 : decode cX8_corrected 2 = .ok (.iload_n 2, 1) := by decide +kernel
theorem dX8_corrected_3 : decode cX8_corrected 3 = .ok (.iconst 0, 1) := by decide +kernel
theorem dX8_corrected_4 : decode cX8_corrected 4 = .ok (.invokevirtual 34, 3) := by decide +kernel
theorem dX8_corrected_7 : decode cX8_corrected 7 = .ok (.iconst 3, 1) := by decide +kernel
theorem dX8_corrected_8 : decode cX8_corrected 8 = .ok (.if_icmp .ne 25, 3) := by decide +kernel
theorem dX8_corrected_11 : decode cX8_corrected 11 = .ok (.bipush 100, 2) := by decide +kernel
theorem dX8_corrected_13 : decode cX8_corrected 13 = .ok (.aload_n 0, 1) := by decide +kernel
theorem dX8_corrected_14 : decode cX8_corrected 14 = .ok (.iload_n 1, 1) := by decide +kernel
theorem dX8_corrected_15 : decode cX8_corrected 15 = .ok (.iload_n 2, 1) := by decide +kernel
theorem dX8_corrected_16 : decode cX8_corrected 16 = .ok (.invokevirtual 46, 3) := by decide +kernel
theorem dX8_corrected_19 : decode cX8_corrected 19 = .ok (.imul, 1) := by decide +kernel
theorem dX8_corrected_20 : decode cX8_corrected 20 = .ok (.aload_n 0, 1) := by decide +kernel
theorem dX8_corrected_21 : decode cX8_corrected 21 = .ok (.getfield 7, 3) := by decide +kernel
theorem dX8_corrected_24 : decode cX8_corrected 24 = .ok (.bipush 7, 2) := by decide +kernel
theorem dX8_corrected_26 : decode cX8_corrected 26 = .ok (.iload_n 2, 1) := by decide +kernel
theorem dX8_corrected_27 : decode cX8_corrected 27 = .ok (.iadd, 1) := by decide +kernel
theorem dX8_corrected_28 : decode cX8_corrected 28 = .ok (.iaload, 1) := by decide +kernel
theorem dX8_corrected_29 : decode cX8_corrected 29 = .ok (.idiv, 1) := by decide +kernel
theorem dX8_corrected_30 : decode cX8_corrected 30 = .ok (.goto 5, 3) := by decide +kernel
theorem dX8_corrected_33 : decode cX8_corrected 33 = .ok (.bipush (-5), 2) := by decide +kernel
theorem dX8_corrected_35 : decode cX8_corrected 35 = .ok (.ireturn, 1) := by decide +kernel
theorem dX8_counts_0 : decode cX8_counts 0 = .ok (.aload_n 0, 1) := by decide +kernel
theorem dX8_counts_1 : decode cX8_counts 1 = .ok (.iload_n 1, 1) := by decide +kernel
theorem dX8_counts_2 : decode cX8_counts 2 = .ok (.iload_n 2, 1) := by decide +kernel
theorem dX8_counts_3 : decode cX8_counts 3 = .ok (.iconst 0, 1) := by decide +kernel
theorem dX8_counts_4 : decode cX8_counts 4 = .ok (.invokevirtual 34, 3) := by decide +kernel
theorem dX8_counts_7 : decode cX8_counts 7 = .ok (.iconst 3, 1) := by decide +kernel
theorem dX8_counts_8 : decode cX8_counts 8 = .ok (.if_icmp .ne 17, 3) := by decide +kernel
theorem dX8_counts_11 : decode cX8_counts 11 = .ok (.aload_n 0, 1) := by decide +kernel
theorem dX8_counts_12 : decode cX8_counts 12 = .ok (.iload_n 1, 1) := by decide +kernel
theorem dX8_counts_13 : decode cX8_counts 13 = .ok (.iload_n 2, 1) := by decide +kernel
theorem dX8_counts_14 : decode cX8_counts 14 = .ok (.iconst 4, 1) := by decide +kernel
theorem dX8_counts_15 : decode cX8_counts 15 = .ok (.invokevirtual 34, 3) := by decide +kernel
theorem dX8_counts_18 : decode cX8_counts 18 = .ok (.ifCond .ne 7, 3) := by decide +kernel
theorem dX8_counts_21 : decode cX8_counts 21 = .ok (.iconst 1, 1) := by decide +kernel
theorem dX8_counts_22 : decode cX8_counts 22 = .ok (.goto 4, 3) := by decide +kernel
theorem dX8_counts_25 : decode cX8_counts 25 = .ok (.iconst 0, 1) := by decide +kernel
theorem dX8_counts_26 : decode cX8_counts 26 = .ok (.ireturn, 1) := by decide +kernel
theorem dX8_placeIn_0 : decode cX8_placeIn 0 = .ok (.aload_n 0, 1) := by decide +kernel
theorem dX8_placeIn_1 : decode cX8_placeIn 1 = .ok (.iload_n 1, 1) := by decide +kernel
theorem dX8_placeIn_2 : decode cX8_placeIn 2 = .ok (.iload_n 2, 1) := by decide +kernel
theorem dX8_placeIn_3 : decode cX8_placeIn 3 = .ok (.invokevirtual 49, 3) := by decide +kernel
theorem dX8_placeIn_6 : decode cX8_placeIn 6 = .ok (.ifCond .ne 6, 3) := by decide +kernel
theorem dX8_placeIn_9 : decode cX8_placeIn 9 = .ok (.bipush (-5), 2) := by decide +kernel
theorem dX8_placeIn_11 : decode cX8_placeIn 11 = .ok (.ireturn, 1) := by decide +kernel
theorem dX8_placeIn_12 : decode cX8_placeIn 12 = .ok (.iconst 1, 1) := by decide +kernel
theorem dX8_placeIn_13 : decode cX8_placeIn 13 = .ok (.istore_n 3, 1) := by decide +kernel
theorem dX8_placeIn_14 : decode cX8_placeIn 14 = .ok (.iconst 0, 1) := by decide +kernel
theorem dX8_placeIn_15 : decode cX8_placeIn 15 = .ok (.istore 4, 2) := by decide +kernel
theorem dX8_placeIn_17 : decode cX8_placeIn 17 = .ok (.iload 4, 2) := by decide +kernel
theorem dX8_placeIn_19 : decode cX8_placeIn 19 = .ok (.aload_n 0, 1) := by decide +kernel
theorem dX8_placeIn_20 : decode cX8_placeIn 20 = .ok (.getfield 7, 3) := by decide +kernel
theorem dX8_placeIn_23 : decode cX8_placeIn 23 = .ok (.iconst 1, 1) := by decide +kernel
theorem dX8_placeIn_24 : decode cX8_placeIn 24 = .ok (.iaload, 1) := by decide +kernel
theorem dX8_placeIn_25 : decode cX8_placeIn 25 = .ok (.if_icmp .ge 43, 3) := by decide +kernel
theorem dX8_placeIn_28 : decode cX8_placeIn 28 = .ok (.iload_n 3, 1) := by decide +kernel
theorem dX8_placeIn_29 : decode cX8_placeIn 29 = .ok (.aload_n 0, 1) := by decide +kernel
theorem dX8_placeIn_30 : decode cX8_placeIn 30 = .ok (.iload_n 1, 1) := by decide +kernel
theorem dX8_placeIn_31 : decode cX8_placeIn 31 = .ok (.iload 4, 2) := by decide +kernel
theorem dX8_placeIn_33 : decode cX8_placeIn 33 = .ok (.invokevirtual 49, 3) := by decide +kernel
theorem dX8_placeIn_36 : decode cX8_placeIn 36 = .ok (.ifCond .eq 23, 3) := by decide +kernel
theorem dX8_placeIn_39 : decode cX8_placeIn 39 = .ok (.aload_n 0, 1) := by decide +kernel
theorem dX8_placeIn_40 : decode cX8_placeIn 40 = .ok (.iload_n 1, 1) := by decide +kernel
theorem dX8_placeIn_41 : decode cX8_placeIn 41 = .ok (.iload 4, 2) := by decide +kernel
theorem dX8_placeIn_43 : decode cX8_placeIn 43 = .ok (.invokevirtual 53, 3) := by decide +kernel
theorem dX8_placeIn_46 : decode cX8_placeIn 46 = .ok (.aload_n 0, 1) := by decide +kernel
theorem dX8_placeIn_47 : decode cX8_placeIn 47 = .ok (.iload_n 1, 1) := by decide +kernel
theorem dX8_placeIn_48 : decode cX8_placeIn 48 = .ok (.iload_n 2, 1) := by decide +kernel
theorem dX8_placeIn_49 : decode cX8_placeIn 49 = .ok (.invokevirtual 53, 3) := by decide +kernel
theorem dX8_placeIn_52 : decode cX8_placeIn 52 = .ok (.if_icmp .ge 7, 3) := by decide +kernel
theorem dX8_placeIn_55 : decode cX8_placeIn 55 = .ok (.iconst 1, 1) := by decide +kernel
theorem dX8_placeIn_56 : decode cX8_placeIn 56 = .ok (.goto 4, 3) := by decide +kernel
theorem dX8_placeIn_59 : decode cX8_placeIn 59 = .ok (.iconst 0, 1) := by decide +kernel
theorem dX8_placeIn_60 : decode cX8_placeIn 60 = .ok (.iadd, 1) := by decide +kernel
theorem dX8_placeIn_61 : decode cX8_placeIn 61 = .ok (.istore_n 3, 1) := by decide +kernel
theorem dX8_placeIn_62 : decode cX8_placeIn 62 = .ok (.iinc 4 1, 3) := by decide +kernel
theorem dX8_placeIn_65 : decode cX8_placeIn 65 = .ok (.goto (-48), 3) := by decide +kernel
theorem dX8_placeIn_68 : decode cX8_placeIn 68 = .ok (.iload_n 3, 1) := by decide +kernel
theorem dX8_placeIn_69 : decode cX8_placeIn 69 = .ok (.ireturn, 1) := by decide +kernel
theorem dX8_pointsIn_0 : decode cX8_pointsIn 0 = .ok (.aload_n 0, 1) := by decide +kernel
theorem dX8_pointsIn_1 : decode cX8_pointsIn 1 = .ok (.iload_n 1, 1) := by decide +kernel
theorem dX8_pointsIn_2 : decode cX8_pointsIn 2 = .ok (.iload_n 2, 1) := by decide +kernel
theorem dX8_pointsIn_3 : decode cX8_pointsIn 3 = .ok (.invokevirtual 56, 3) := by decide +kernel
theorem dX8_pointsIn_6 : decode cX8_pointsIn 6 = .ok (.istore_n 3, 1) := by decide +kernel
theorem dX8_pointsIn_7 : decode cX8_pointsIn 7 = .ok (.iload_n 3, 1) := by decide +kernel
theorem dX8_pointsIn_8 : decode cX8_pointsIn 8 = .ok (.bipush (-5), 2) := by decide +kernel
theorem dX8_pointsIn_10 : decode cX8_pointsIn 10 = .ok (.if_icmp .eq 7, 3) := by decide +kernel
theorem dX8_pointsIn_13 : decode cX8_pointsIn 13 = .ok (.iload_n 3, 1) := by decide +kernel
theorem dX8_pointsIn_14 : decode cX8_pointsIn 14 = .ok (.goto 26, 3) := by decide +kernel
theorem dX8_pointsIn_17 : decode cX8_pointsIn 17 = .ok (.aload_n 0, 1) := by decide +kernel
theorem dX8_pointsIn_18 : decode cX8_pointsIn 18 = .ok (.getfield 7, 3) := by decide +kernel
theorem dX8_pointsIn_21 : decode cX8_pointsIn 21 = .ok (.iconst 1, 1) := by decide +kernel
theorem dX8_pointsIn_22 : decode cX8_pointsIn 22 = .ok (.iaload, 1) := by decide +kernel
theorem dX8_pointsIn_23 : decode cX8_pointsIn 23 = .ok (.aload_n 0, 1) := by decide +kernel
theorem dX8_pointsIn_24 : decode cX8_pointsIn 24 = .ok (.iload_n 1, 1) := by decide +kernel
theorem dX8_pointsIn_25 : decode cX8_pointsIn 25 = .ok (.iload_n 2, 1) := by decide +kernel
theorem dX8_pointsIn_26 : decode cX8_pointsIn 26 = .ok (.iconst 4, 1) := by decide +kernel
theorem dX8_pointsIn_27 : decode cX8_pointsIn 27 = .ok (.invokevirtual 34, 3) := by decide +kernel
theorem dX8_pointsIn_30 : decode cX8_pointsIn 30 = .ok (.iconst 1, 1) := by decide +kernel
theorem dX8_pointsIn_31 : decode cX8_pointsIn 31 = .ok (.if_icmp .ne 7, 3) := by decide +kernel
theorem dX8_pointsIn_34 : decode cX8_pointsIn 34 = .ok (.iconst 2, 1) := by decide +kernel
theorem dX8_pointsIn_35 : decode cX8_pointsIn 35 = .ok (.goto 4, 3) := by decide +kernel
theorem dX8_pointsIn_38 : decode cX8_pointsIn 38 = .ok (.iconst 1, 1) := by decide +kernel
theorem dX8_pointsIn_39 : decode cX8_pointsIn 39 = .ok (.iadd, 1) := by decide +kernel
theorem dX8_pointsIn_40 : decode cX8_pointsIn 40 = .ok (.ireturn, 1) := by decide +kernel
theorem dX8_closed_0 : decode cX8_closed 0 = .ok (.iconst 0, 1) := by decide +kernel
theorem dX8_closed_1 : decode cX8_closed 1 = .ok (.istore_n 1, 1) := by decide +kernel
theorem dX8_closed_2 : decode cX8_closed 2 = .ok (.iconst 0, 1) := by decide +kernel
theorem dX8_closed_3 : decode cX8_closed 3 = .ok (.istore_n 2, 1) := by decide +kernel
theorem dX8_closed_4 : decode cX8_closed 4 = .ok (.iload_n 2, 1) := by decide +kernel
theorem dX8_closed_5 : decode cX8_closed 5 = .ok (.aload_n 0, 1) := by decide +kernel
theorem dX8_closed_6 : decode cX8_closed 6 = .ok (.getfield 7, 3) := by decide +kernel
theorem dX8_closed_9 : decode cX8_closed 9 = .ok (.iconst 2, 1) := by decide +kernel
theorem dX8_closed_10 : decode cX8_closed 10 = .ok (.iaload, 1) := by decide +kernel
theorem dX8_closed_11 : decode cX8_closed 11 = .ok (.if_icmp .ge 18, 3) := by decide +kernel
theorem dX8_closed_14 : decode cX8_closed 14 = .ok (.iload_n 1, 1) := by decide +kernel
end
section
theorem dX8_closed_15 : decode cX8_closed 15 = .ok (.aload_n 0, 1) := by decide +kernel
theorem dX8_closed_16 : decode cX8_closed 16 = .ok (.iload_n 2, 1) := by decide +kernel
theorem dX8_closed_17 : decode cX8_closed 17 = .ok (.iconst 3, 1) := by decide +kernel
theorem dX8_closed_18 : decode cX8_closed 18 = .ok (.invokevirtual 30, 3) := by decide +kernel
theorem dX8_closed_21 : decode cX8_closed 21 = .ok (.iadd, 1) := by decide +kernel
theorem dX8_closed_22 : decode cX8_closed 22 = .ok (.istore_n 1, 1) := by decide +kernel
theorem dX8_closed_23 : decode cX8_closed 23 = .ok (.iinc 2 1, 3) := by decide +kernel
theorem dX8_closed_26 : decode cX8_closed 26 = .ok (.goto (-22), 3) := by decide +kernel
theorem dX8_closed_29 : decode cX8_closed 29 = .ok (.iload_n 1, 1) := by decide +kernel
theorem dX8_closed_30 : decode cX8_closed 30 = .ok (.ireturn, 1) := by decide +kernel
theorem dX8_sumOf_0 : decode cX8_sumOf 0 = .ok (.iconst 0, 1) := by decide +kernel
theorem dX8_sumOf_1 : decode cX8_sumOf 1 = .ok (.istore_n 2, 1) := by decide +kernel
theorem dX8_sumOf_2 : decode cX8_sumOf 2 = .ok (.iconst 0, 1) := by decide +kernel
theorem dX8_sumOf_3 : decode cX8_sumOf 3 = .ok (.istore_n 3, 1) := by decide +kernel
theorem dX8_sumOf_4 : decode cX8_sumOf 4 = .ok (.iload_n 3, 1) := by decide +kernel
theorem dX8_sumOf_5 : decode cX8_sumOf 5 = .ok (.aload_n 0, 1) := by decide +kernel
theorem dX8_sumOf_6 : decode cX8_sumOf 6 = .ok (.invokevirtual 59, 3) := by decide +kernel
theorem dX8_sumOf_9 : decode cX8_sumOf 9 = .ok (.if_icmp .ge 18, 3) := by decide +kernel
theorem dX8_sumOf_12 : decode cX8_sumOf 12 = .ok (.iload_n 2, 1) := by decide +kernel
theorem dX8_sumOf_13 : decode cX8_sumOf 13 = .ok (.aload_n 0, 1) := by decide +kernel
theorem dX8_sumOf_14 : decode cX8_sumOf 14 = .ok (.iload_n 3, 1) := by decide +kernel
theorem dX8_sumOf_15 : decode cX8_sumOf 15 = .ok (.iload_n 1, 1) := by decide +kernel
theorem dX8_sumOf_16 : decode cX8_sumOf 16 = .ok (.invokevirtual 62, 3) := by decide +kernel
theorem dX8_sumOf_19 : decode cX8_sumOf 19 = .ok (.iadd, 1) := by decide +kernel
theorem dX8_sumOf_20 : decode cX8_sumOf 20 = .ok (.istore_n 2, 1) := by decide +kernel
theorem dX8_sumOf_21 : decode cX8_sumOf 21 = .ok (.iinc 3 1, 3) := by decide +kernel
theorem dX8_sumOf_24 : decode cX8_sumOf 24 = .ok (.goto (-20), 3) := by decide +kernel
theorem dX8_sumOf_27 : decode cX8_sumOf 27 = .ok (.iload_n 2, 1) := by decide +kernel
theorem dX8_sumOf_28 : decode cX8_sumOf 28 = .ok (.ireturn, 1) := by decide +kernel
theorem dX8_leftOut_0 : decode cX8_leftOut 0 = .ok (.bipush (-5), 2) := by decide +kernel
theorem dX8_leftOut_2 : decode cX8_leftOut 2 = .ok (.istore_n 2, 1) := by decide +kernel
theorem dX8_leftOut_3 : decode cX8_leftOut 3 = .ok (.aload_n 0, 1) := by decide +kernel
theorem dX8_leftOut_4 : decode cX8_leftOut 4 = .ok (.getfield 7, 3) := by decide +kernel
theorem dX8_leftOut_7 : decode cX8_leftOut 7 = .ok (.bipush 6, 2) := by decide +kernel
theorem dX8_leftOut_9 : decode cX8_leftOut 9 = .ok (.iaload, 1) := by decide +kernel
theorem dX8_leftOut_10 : decode cX8_leftOut 10 = .ok (.ifCond .le 21, 3) := by decide +kernel
theorem dX8_leftOut_13 : decode cX8_leftOut 13 = .ok (.aload_n 0, 1) := by decide +kernel
theorem dX8_leftOut_14 : decode cX8_leftOut 14 = .ok (.invokevirtual 59, 3) := by decide +kernel
theorem dX8_leftOut_17 : decode cX8_leftOut 17 = .ok (.aload_n 0, 1) := by decide +kernel
theorem dX8_leftOut_18 : decode cX8_leftOut 18 = .ok (.getfield 7, 3) := by decide +kernel
theorem dX8_leftOut_21 : decode cX8_leftOut 21 = .ok (.bipush 6, 2) := by decide +kernel
theorem dX8_leftOut_23 : decode cX8_leftOut 23 = .ok (.iaload, 1) := by decide +kernel
theorem dX8_leftOut_24 : decode cX8_leftOut 24 = .ok (.if_icmp .lt 7, 3) := by decide +kernel
theorem dX8_leftOut_27 : decode cX8_leftOut 27 = .ok (.iconst 1, 1) := by decide +kernel
theorem dX8_leftOut_28 : decode cX8_leftOut 28 = .ok (.goto 4, 3) := by decide +kernel
theorem dX8_leftOut_31 : decode cX8_leftOut 31 = .ok (.iconst 0, 1) := by decide +kernel
theorem dX8_leftOut_32 : decode cX8_leftOut 32 = .ok (.istore_n 3, 1) := by decide +kernel
theorem dX8_leftOut_33 : decode cX8_leftOut 33 = .ok (.iconst 0, 1) := by decide +kernel
theorem dX8_leftOut_34 : decode cX8_leftOut 34 = .ok (.istore 4, 2) := by decide +kernel
theorem dX8_leftOut_36 : decode cX8_leftOut 36 = .ok (.iload 4, 2) := by decide +kernel
theorem dX8_leftOut_38 : decode cX8_leftOut 38 = .ok (.aload_n 0, 1) := by decide +kernel
theorem dX8_leftOut_39 : decode cX8_leftOut 39 = .ok (.invokevirtual 59, 3) := by decide +kernel
theorem dX8_leftOut_42 : decode cX8_leftOut 42 = .ok (.if_icmp .ge 42, 3) := by decide +kernel
theorem dX8_leftOut_45 : decode cX8_leftOut 45 = .ok (.iload_n 3, 1) := by decide +kernel
theorem dX8_leftOut_46 : decode cX8_leftOut 46 = .ok (.ifCond .eq 38, 3) := by decide +kernel
theorem dX8_leftOut_49 : decode cX8_leftOut 49 = .ok (.iload_n 2, 1) := by decide +kernel
theorem dX8_leftOut_50 : decode cX8_leftOut 50 = .ok (.bipush (-5), 2) := by decide +kernel
theorem dX8_leftOut_52 : decode cX8_leftOut 52 = .ok (.if_icmp .eq 19, 3) := by decide +kernel
theorem dX8_leftOut_55 : decode cX8_leftOut 55 = .ok (.aload_n 0, 1) := by decide +kernel
theorem dX8_leftOut_56 : decode cX8_leftOut 56 = .ok (.iload 4, 2) := by decide +kernel
theorem dX8_leftOut_58 : decode cX8_leftOut 58 = .ok (.iload_n 1, 1) := by decide +kernel
theorem dX8_leftOut_59 : decode cX8_leftOut 59 = .ok (.invokevirtual 62, 3) := by decide +kernel
theorem dX8_leftOut_62 : decode cX8_leftOut 62 = .ok (.aload_n 0, 1) := by decide +kernel
theorem dX8_leftOut_63 : decode cX8_leftOut 63 = .ok (.iload_n 2, 1) := by decide +kernel
theorem dX8_leftOut_64 : decode cX8_leftOut 64 = .ok (.iload_n 1, 1) := by decide +kernel
theorem dX8_leftOut_65 : decode cX8_leftOut 65 = .ok (.invokevirtual 62, 3) := by decide +kernel
theorem dX8_leftOut_68 : decode cX8_leftOut 68 = .ok (.if_icmp .lt 8, 3) := by decide +kernel
theorem dX8_leftOut_71 : decode cX8_leftOut 71 = .ok (.iload 4, 2) := by decide +kernel
theorem dX8_leftOut_73 : decode cX8_leftOut 73 = .ok (.goto 4, 3) := by decide +kernel
theorem dX8_leftOut_76 : decode cX8_leftOut 76 = .ok (.iload_n 2, 1) := by decide +kernel
theorem dX8_leftOut_77 : decode cX8_leftOut 77 = .ok (.istore_n 2, 1) := by decide +kernel
theorem dX8_leftOut_78 : decode cX8_leftOut 78 = .ok (.iinc 4 1, 3) := by decide +kernel
theorem dX8_leftOut_81 : decode cX8_leftOut 81 = .ok (.goto (-45), 3) := by decide +kernel
theorem dX8_leftOut_84 : decode cX8_leftOut 84 = .ok (.iload_n 2, 1) := by decide +kernel
theorem dX8_leftOut_85 : decode cX8_leftOut 85 = .ok (.ireturn, 1) := by decide +kernel
theorem dX8_total_0 : decode cX8_total 0 = .ok (.aload_n 0, 1) := by decide +kernel
theorem dX8_total_1 : decode cX8_total 1 = .ok (.iload_n 1, 1) := by decide +kernel
theorem dX8_total_2 : decode cX8_total 2 = .ok (.invokevirtual 65, 3) := by decide +kernel
theorem dX8_total_5 : decode cX8_total 5 = .ok (.istore_n 2, 1) := by decide +kernel
theorem dX8_total_6 : decode cX8_total 6 = .ok (.aload_n 0, 1) := by decide +kernel
theorem dX8_total_7 : decode cX8_total 7 = .ok (.iload_n 1, 1) := by decide +kernel
theorem dX8_total_8 : decode cX8_total 8 = .ok (.invokevirtual 69, 3) := by decide +kernel
theorem dX8_total_11 : decode cX8_total 11 = .ok (.iload_n 2, 1) := by decide +kernel
theorem dX8_total_12 : decode cX8_total 12 = .ok (.bipush (-5), 2) := by decide +kernel
theorem dX8_total_14 : decode cX8_total 14 = .ok (.if_icmp .ne 7, 3) := by decide +kernel
theorem dX8_total_17 : decode cX8_total 17 = .ok (.iconst 0, 1) := by decide +kernel
theorem dX8_total_18 : decode cX8_total 18 = .ok (.goto 9, 3) := by decide +kernel
theorem dX8_total_21 : decode cX8_total 21 = .ok (.aload_n 0, 1) := by decide +kernel
theorem dX8_total_22 : decode cX8_total 22 = .ok (.iload_n 2, 1) := by decide +kernel
theorem dX8_total_23 : decode cX8_total 23 = .ok (.iload_n 1, 1) := by decide +kernel
theorem dX8_total_24 : decode cX8_total 24 = .ok (.invokevirtual 62, 3) := by decide +kernel
theorem dX8_total_27 : decode cX8_total 27 = .ok (.isub, 1) := by decide +kernel
theorem dX8_total_28 : decode cX8_total 28 = .ok (.ireturn, 1) := by decide +kernel
theorem dX8_placesOf_0 : decode cX8_placesOf 0 = .ok (.iconst 0, 1) := by decide +kernel
theorem dX8_placesOf_1 : decode cX8_placesOf 1 = .ok (.istore_n 3, 1) := by decide +kernel
theorem dX8_placesOf_2 : decode cX8_placesOf 2 = .ok (.iconst 0, 1) := by decide +kernel
theorem dX8_placesOf_3 : decode cX8_placesOf 3 = .ok (.istore 4, 2) := by decide +kernel
theorem dX8_placesOf_5 : decode cX8_placesOf 5 = .ok (.iload 4, 2) := by decide +kernel
theorem dX8_placesOf_7 : decode cX8_placesOf 7 = .ok (.aload_n 0, 1) := by decide +kernel
theorem dX8_placesOf_8 : decode cX8_placesOf 8 = .ok (.invokevirtual 59, 3) := by decide +kernel
theorem dX8_placesOf_11 : decode cX8_placesOf 11 = .ok (.if_icmp .ge 28, 3) := by decide +kernel
theorem dX8_placesOf_14 : decode cX8_placesOf 14 = .ok (.iload_n 3, 1) := by decide +kernel
theorem dX8_placesOf_15 : decode cX8_placesOf 15 = .ok (.aload_n 0, 1) := by decide +kernel
theorem dX8_placesOf_16 : decode cX8_placesOf 16 = .ok (.iload 4, 2) := by decide +kernel
theorem dX8_placesOf_18 : decode cX8_placesOf 18 = .ok (.iload_n 1, 1) := by decide +kernel
theorem dX8_placesOf_19 : decode cX8_placesOf 19 = .ok (.invokevirtual 56, 3) := by decide +kernel
theorem dX8_placesOf_22 : decode cX8_placesOf 22 = .ok (.iload_n 2, 1) := by decide +kernel
theorem dX8_placesOf_23 : decode cX8_placesOf 23 = .ok (.if_icmp .ne 7, 3) := by decide +kernel
theorem dX8_placesOf_26 : decode cX8_placesOf 26 = .ok (.iconst 1, 1) := by decide +kernel
theorem dX8_placesOf_27 : decode cX8_placesOf 27 = .ok (.goto 4, 3) := by decide +kernel
theorem dX8_placesOf_30 : decode cX8_placesOf 30 = .ok (.iconst 0, 1) := by decide +kernel
theorem dX8_placesOf_31 : decode cX8_placesOf 31 = .ok (.iadd, 1) := by decide +kernel
theorem dX8_placesOf_32 : decode cX8_placesOf 32 = .ok (.istore_n 3, 1) := by decide +kernel
theorem dX8_placesOf_33 : decode cX8_placesOf 33 = .ok (.iinc 4 1, 3) := by decide +kernel
theorem dX8_placesOf_36 : decode cX8_placesOf 36 = .ok (.goto (-31), 3) := by decide +kernel
theorem dX8_placesOf_39 : decode cX8_placesOf 39 = .ok (.iload_n 3, 1) := by decide +kernel
theorem dX8_placesOf_40 : decode cX8_placesOf 40 = .ok (.ireturn, 1) := by decide +kernel
theorem dX8_isAhead_0 : decode cX8_isAhead 0 = .ok (.aload_n 0, 1) := by decide +kernel
theorem dX8_isAhead_1 : decode cX8_isAhead 1 = .ok (.iload_n 2, 1) := by decide +kernel
theorem dX8_isAhead_2 : decode cX8_isAhead 2 = .ok (.invokevirtual 72, 3) := by decide +kernel
theorem dX8_isAhead_5 : decode cX8_isAhead 5 = .ok (.aload_n 0, 1) := by decide +kernel
theorem dX8_isAhead_6 : decode cX8_isAhead 6 = .ok (.iload_n 1, 1) := by decide +kernel
theorem dX8_isAhead_7 : decode cX8_isAhead 7 = .ok (.invokevirtual 72, 3) := by decide +kernel
theorem dX8_isAhead_10 : decode cX8_isAhead 10 = .ok (.isub, 1) := by decide +kernel
theorem dX8_isAhead_11 : decode cX8_isAhead 11 = .ok (.istore_n 3, 1) := by decide +kernel
theorem dX8_isAhead_12 : decode cX8_isAhead 12 = .ok (.iconst 1, 1) := by decide +kernel
theorem dX8_isAhead_13 : decode cX8_isAhead 13 = .ok (.istore 4, 2) := by decide +kernel
theorem dX8_isAhead_15 : decode cX8_isAhead 15 = .ok (.iload 4, 2) := by decide +kernel
theorem dX8_isAhead_17 : decode cX8_isAhead 17 = .ok (.bipush 9, 2) := by decide +kernel
theorem dX8_isAhead_19 : decode cX8_isAhead 19 = .ok (.if_icmp .gt 29, 3) := by decide +kernel
theorem dX8_isAhead_22 : decode cX8_isAhead 22 = .ok (.iload_n 3, 1) := by decide +kernel
theorem dX8_isAhead_23 : decode cX8_isAhead 23 = .ok (.ifCond .ne 25, 3) := by decide +kernel
theorem dX8_isAhead_26 : decode cX8_isAhead 26 = .ok (.aload_n 0, 1) := by decide +kernel
theorem dX8_isAhead_27 : decode cX8_isAhead 27 = .ok (.iload_n 1, 1) := by decide +kernel
theorem dX8_isAhead_28 : decode cX8_isAhead 28 = .ok (.iload 4, 2) := by decide +kernel
theorem dX8_isAhead_30 : decode cX8_isAhead 30 = .ok (.invokevirtual 75, 3) := by decide +kernel
theorem dX8_isAhead_33 : decode cX8_isAhead 33 = .ok (.aload_n 0, 1) := by decide +kernel
theorem dX8_isAhead_34 : decode cX8_isAhead 34 = .ok (.iload_n 2, 1) := by decide +kernel
theorem dX8_isAhead_35 : decode cX8_isAhead 35 = .ok (.iload 4, 2) := by decide +kernel
theorem dX8_isAhead_37 : decode cX8_isAhead 37 = .ok (.invokevirtual 75, 3) := by decide +kernel
theorem dX8_isAhead_40 : decode cX8_isAhead 40 = .ok (.isub, 1) := by decide +kernel
theorem dX8_isAhead_41 : decode cX8_isAhead 41 = .ok (.istore_n 3, 1) := by decide +kernel
theorem dX8_isAhead_42 : decode cX8_isAhead 42 = .ok (.iinc 4 1, 3) := by decide +kernel
theorem dX8_isAhead_45 : decode cX8_isAhead 45 = .ok (.goto (-30), 3) := by decide +kernel
theorem dX8_isAhead_48 : decode cX8_isAhead 48 = .ok (.iload_n 3, 1) := by decide +kernel
theorem dX8_isAhead_49 : decode cX8_isAhead 49 = .ok (.ifCond .ne 34, 3) := by decide +kernel
theorem dX8_isAhead_52 : decode cX8_isAhead 52 = .ok (.aload_n 0, 1) := by decide +kernel
theorem dX8_isAhead_53 : decode cX8_isAhead 53 = .ok (.invokevirtual 59, 3) := by decide +kernel
theorem dX8_isAhead_56 : decode cX8_isAhead 56 = .ok (.ifCond .le 27, 3) := by decide +kernel
theorem dX8_isAhead_59 : decode cX8_isAhead 59 = .ok (.aload_n 0, 1) := by decide +kernel
theorem dX8_isAhead_60 : decode cX8_isAhead 60 = .ok (.aload_n 0, 1) := by decide +kernel
theorem dX8_isAhead_61 : decode cX8_isAhead 61 = .ok (.invokevirtual 59, 3) := by decide +kernel
theorem dX8_isAhead_64 : decode cX8_isAhead 64 = .ok (.iconst 1, 1) := by decide +kernel
theorem dX8_isAhead_65 : decode cX8_isAhead 65 = .ok (.isub, 1) := by decide +kernel
theorem dX8_isAhead_66 : decode cX8_isAhead 66 = .ok (.iload_n 2, 1) := by decide +kernel
theorem dX8_isAhead_67 : decode cX8_isAhead 67 = .ok (.invokevirtual 62, 3) := by decide +kernel
theorem dX8_isAhead_70 : decode cX8_isAhead 70 = .ok (.aload_n 0, 1) := by decide +kernel
theorem dX8_isAhead_71 : decode cX8_isAhead 71 = .ok (.aload_n 0, 1) := by decide +kernel
theorem dX8_isAhead_72 : decode cX8_isAhead 72 = .ok (.invokevirtual 59, 3) := by decide +kernel
theorem dX8_isAhead_75 : decode cX8_isAhead 75 = .ok (.iconst 1, 1) := by decide +kernel
theorem dX8_isAhead_76 : decode cX8_isAhead 76 = .ok (.isub, 1) := by decide +kernel
theorem dX8_isAhead_77 : decode cX8_isAhead 77 = .ok (.iload_n 1, 1) := by decide +kernel
theorem dX8_isAhead_78 : decode cX8_isAhead 78 = .ok (.invokevirtual 62, 3) := by decide +kernel
theorem dX8_isAhead_81 : decode cX8_isAhead 81 = .ok (.isub, 1) := by decide +kernel
theorem dX8_isAhead_82 : decode cX8_isAhead 82 = .ok (.istore_n 3, 1) := by decide +kernel
theorem dX8_isAhead_83 : decode cX8_isAhead 83 = .ok (.iload_n 3, 1) := by decide +kernel
theorem dX8_isAhead_84 : decode cX8_isAhead 84 = .ok (.ifCond .gt 12, 3) := by decide +kernel
theorem dX8_isAhead_87 : decode cX8_isAhead 87 = .ok (.iload_n 3, 1) := by decide +kernel
theorem dX8_isAhead_88 : decode cX8_isAhead 88 = .ok (.ifCond .ne 12, 3) := by decide +kernel
theorem dX8_isAhead_91 : decode cX8_isAhead 91 = .ok (.iload_n 1, 1) := by decide +kernel
theorem dX8_isAhead_92 : decode cX8_isAhead 92 = .ok (.iload_n 2, 1) := by decide +kernel
theorem dX8_isAhead_93 : decode cX8_isAhead 93 = .ok (.if_icmp .ge 7, 3) := by decide +kernel
theorem dX8_isAhead_96 : decode cX8_isAhead 96 = .ok (.iconst 1, 1) := by decide +kernel
theorem dX8_isAhead_97 : decode cX8_isAhead 97 = .ok (.goto 4, 3) := by decide +kernel
theorem dX8_isAhead_100 : decode cX8_isAhead 100 = .ok (.iconst 0, 1) := by decide +kernel
theorem dX8_isAhead_101 : decode cX8_isAhead 101 = .ok (.ireturn, 1) := by decide +kernel
theorem dX8_rank_0 : decode cX8_rank 0 = .ok (.iconst 1, 1) := by decide +kernel
theorem dX8_rank_1 : decode cX8_rank 1 = .ok (.istore_n 2, 1) := by decide +kernel
theorem dX8_rank_2 : decode cX8_rank 2 = .ok (.iconst 0, 1) := by decide +kernel
theorem dX8_rank_3 : decode cX8_rank 3 = .ok (.istore_n 3, 1) := by decide +kernel
theorem dX8_rank_4 : decode cX8_rank 4 = .ok (.iload_n 3, 1) := by decide +kernel
theorem dX8_rank_5 : decode cX8_rank 5 = .ok (.aload_n 0, 1) := by decide +kernel
theorem dX8_rank_6 : decode cX8_rank 6 = .ok (.getfield 7, 3) := by decide +kernel
theorem dX8_rank_9 : decode cX8_rank 9 = .ok (.iconst 1, 1) := by decide +kernel
theorem dX8_rank_10 : decode cX8_rank 10 = .ok (.iaload, 1) := by decide +kernel
theorem dX8_rank_11 : decode cX8_rank 11 = .ok (.if_icmp .ge 31, 3) := by decide +kernel
theorem dX8_rank_14 : decode cX8_rank 14 = .ok (.iload_n 2, 1) := by decide +kernel
theorem dX8_rank_15 : decode cX8_rank 15 = .ok (.iload_n 3, 1) := by decide +kernel
theorem dX8_rank_16 : decode cX8_rank 16 = .ok (.iload_n 1, 1) := by decide +kernel
theorem dX8_rank_17 : decode cX8_rank 17 = .ok (.if_icmp .eq 16, 3) := by decide +kernel
theorem dX8_rank_20 : decode cX8_rank 20 = .ok (.aload_n 0, 1) := by decide +kernel
theorem dX8_rank_21 : decode cX8_rank 21 = .ok (.iload_n 3, 1) := by decide +kernel
theorem dX8_rank_22 : decode cX8_rank 22 = .ok (.iload_n 1, 1) := by decide +kernel
theorem dX8_rank_23 : decode cX8_rank 23 = .ok (.invokevirtual 78, 3) := by decide +kernel
theorem dX8_rank_26 : decode cX8_rank 26 = .ok (.ifCond .eq 7, 3) := by decide +kernel
theorem dX8_rank_29 : decode cX8_rank 29 = .ok (.iconst 1, 1) := by decide +kernel
theorem dX8_rank_30 : decode cX8_rank 30 = .ok (.goto 4, 3) := by decide +kernel
theorem dX8_rank_33 : decode cX8_rank 33 = .ok (.iconst 0, 1) := by decide +kernel
theorem dX8_rank_34 : decode cX8_rank 34 = .ok (.iadd, 1) := by decide +kernel
theorem dX8_rank_35 : decode cX8_rank 35 = .ok (.istore_n 2, 1) := by decide +kernel
theorem dX8_rank_36 : decode cX8_rank 36 = .ok (.iinc 3 1, 3) := by decide +kernel
theorem dX8_rank_39 : decode cX8_rank 39 = .ok (.goto (-35), 3) := by decide +kernel
theorem dX8_rank_42 : decode cX8_rank 42 = .ok (.iload_n 2, 1) := by decide +kernel
theorem dX8_rank_43 : decode cX8_rank 43 = .ok (.ireturn, 1) := by decide +kernel
theorem dX8_finishedIn_0 : decode cX8_finishedIn 0 = .ok (.iconst 0, 1) := by decide +kernel
theorem dX8_finishedIn_1 : decode cX8_finishedIn 1 = .ok (.istore_n 2, 1) := by decide +kernel
theorem dX8_finishedIn_2 : decode cX8_finishedIn 2 = .ok (.iconst 0, 1) := by decide +kernel
theorem dX8_finishedIn_3 : decode cX8_finishedIn 3 = .ok (.istore_n 3, 1) := by decide +kernel
theorem dX8_finishedIn_4 : decode cX8_finishedIn 4 = .ok (.iload_n 3, 1) := by decide +kernel
theorem dX8_finishedIn_5 : decode cX8_finishedIn 5 = .ok (.aload_n 0, 1) := by decide +kernel
theorem dX8_finishedIn_6 : decode cX8_finishedIn 6 = .ok (.getfield 7, 3) := by decide +kernel
theorem dX8_finishedIn_9 : decode cX8_finishedIn 9 = .ok (.iconst 1, 1) := by decide +kernel
theorem dX8_finishedIn_10 : decode cX8_finishedIn 10 = .ok (.iaload, 1) := by decide +kernel
theorem dX8_finishedIn_11 : decode cX8_finishedIn 11 = .ok (.if_icmp .ge 28, 3) := by decide +kernel
theorem dX8_finishedIn_14 : decode cX8_finishedIn 14 = .ok (.iload_n 2, 1) := by decide +kernel
theorem dX8_finishedIn_15 : decode cX8_finishedIn 15 = .ok (.aload_n 0, 1) := by decide +kernel
theorem dX8_finishedIn_16 : decode cX8_finishedIn 16 = .ok (.iload_n 1, 1) := by decide +kernel
theorem dX8_finishedIn_17 : decode cX8_finishedIn 17 = .ok (.iload_n 3, 1) := by decide +kernel
theorem dX8_finishedIn_18 : decode cX8_finishedIn 18 = .ok (.iconst 0, 1) := by decide +kernel
theorem dX8_finishedIn_19 : decode cX8_finishedIn 19 = .ok (.invokevirtual 34, 3) := by decide +kernel
theorem dX8_finishedIn_22 : decode cX8_finishedIn 22 = .ok (.iconst 3, 1) := by decide +kernel
theorem dX8_finishedIn_23 : decode cX8_finishedIn 23 = .ok (.if_icmp .ne 7, 3) := by decide +kernel
theorem dX8_finishedIn_26 : decode cX8_finishedIn 26 = .ok (.iconst 1, 1) := by decide +kernel
theorem dX8_finishedIn_27 : decode cX8_finishedIn 27 = .ok (.goto 4, 3) := by decide +kernel
theorem dX8_finishedIn_30 : decode cX8_finishedIn 30 = .ok (.iconst 0, 1) := by decide +kernel
theorem dX8_finishedIn_31 : decode cX8_finishedIn 31 = .ok (.iadd, 1) := by decide +kernel
theorem dX8_finishedIn_32 : decode cX8_finishedIn 32 = .ok (.istore_n 2, 1) := by decide +kernel
theorem dX8_finishedIn_33 : decode cX8_finishedIn 33 = .ok (.iinc 3 1, 3) := by decide +kernel
theorem dX8_finishedIn_36 : decode cX8_finishedIn 36 = .ok (.goto (-32), 3) := by decide +kernel
theorem dX8_finishedIn_39 : decode cX8_finishedIn 39 = .ok (.iload_n 2, 1) := by decide +kernel
theorem dX8_finishedIn_40 : decode cX8_finishedIn 40 = .ok (.ireturn, 1) := by decide +kernel
theorem dX8_outIn_0 : decode cX8_outIn 0 = .ok (.iconst 0, 1) := by decide +kernel
theorem dX8_outIn_1 : decode cX8_outIn 1 = .ok (.istore_n 2, 1) := by decide +kernel
theorem dX8_outIn_2 : decode cX8_outIn 2 = .ok (.iconst 0, 1) := by decide +kernel
theorem dX8_outIn_3 : decode cX8_outIn 3 = .ok (.istore_n 3, 1) := by decide +kernel
theorem dX8_outIn_4 : decode cX8_outIn 4 = .ok (.iload_n 3, 1) := by decide +kernel
theorem dX8_outIn_5 : decode cX8_outIn 5 = .ok (.aload_n 0, 1) := by decide +kernel
theorem dX8_outIn_6 : decode cX8_outIn 6 = .ok (.getfield 7, 3) := by decide +kernel
theorem dX8_outIn_9 : decode cX8_outIn 9 = .ok (.iconst 1, 1) := by decide +kernel
theorem dX8_outIn_10 : decode cX8_outIn 10 = .ok (.iaload, 1) := by decide +kernel
theorem dX8_outIn_11 : decode cX8_outIn 11 = .ok (.if_icmp .ge 19, 3) := by decide +kernel
theorem dX8_outIn_14 : decode cX8_outIn 14 = .ok (.iload_n 2, 1) := by decide +kernel
theorem dX8_outIn_15 : decode cX8_outIn 15 = .ok (.aload_n 0, 1) := by decide +kernel
theorem dX8_outIn_16 : decode cX8_outIn 16 = .ok (.iload_n 1, 1) := by decide +kernel
theorem dX8_outIn_17 : decode cX8_outIn 17 = .ok (.iload_n 3, 1) := by decide +kernel
theorem dX8_outIn_18 : decode cX8_outIn 18 = .ok (.iconst 4, 1) := by decide +kernel
theorem dX8_outIn_19 : decode cX8_outIn 19 = .ok (.invokevirtual 34, 3) := by decide +kernel
theorem dX8_outIn_22 : decode cX8_outIn 22 = .ok (.iadd, 1) := by decide +kernel
theorem dX8_outIn_23 : decode cX8_outIn 23 = .ok (.istore_n 2, 1) := by decide +kernel
theorem dX8_outIn_24 : decode cX8_outIn 24 = .ok (.iinc 3 1, 3) := by decide +kernel
theorem dX8_outIn_27 : decode cX8_outIn 27 = .ok (.goto (-23), 3) := by decide +kernel
theorem dX8_outIn_30 : decode cX8_outIn 30 = .ok (.iload_n 2, 1) := by decide +kernel
theorem dX8_outIn_31 : decode cX8_outIn 31 = .ok (.ireturn, 1) := by decide +kernel
theorem dX8_bestIn_0 : decode cX8_bestIn 0 = .ok (.bipush (-5), 2) := by decide +kernel
theorem dX8_bestIn_2 : decode cX8_bestIn 2 = .ok (.istore_n 2, 1) := by decide +kernel
theorem dX8_bestIn_3 : decode cX8_bestIn 3 = .ok (.iconst 0, 1) := by decide +kernel
theorem dX8_bestIn_4 : decode cX8_bestIn 4 = .ok (.istore_n 3, 1) := by decide +kernel
theorem dX8_bestIn_5 : decode cX8_bestIn 5 = .ok (.iload_n 3, 1) := by decide +kernel
theorem dX8_bestIn_6 : decode cX8_bestIn 6 = .ok (.aload_n 0, 1) := by decide +kernel
theorem dX8_bestIn_7 : decode cX8_bestIn 7 = .ok (.getfield 7, 3) := by decide +kernel
theorem dX8_bestIn_10 : decode cX8_bestIn 10 = .ok (.iconst 1, 1) := by decide +kernel
theorem dX8_bestIn_11 : decode cX8_bestIn 11 = .ok (.iaload, 1) := by decide +kernel
theorem dX8_bestIn_12 : decode cX8_bestIn 12 = .ok (.if_icmp .ge 45, 3) := by decide +kernel
theorem dX8_bestIn_15 : decode cX8_bestIn 15 = .ok (.aload_n 0, 1) := by decide +kernel
theorem dX8_bestIn_16 : decode cX8_bestIn 16 = .ok (.iload_n 1, 1) := by decide +kernel
theorem dX8_bestIn_17 : decode cX8_bestIn 17 = .ok (.iload_n 3, 1) := by decide +kernel
theorem dX8_bestIn_18 : decode cX8_bestIn 18 = .ok (.invokevirtual 49, 3) := by decide +kernel
theorem dX8_bestIn_21 : decode cX8_bestIn 21 = .ok (.ifCond .eq 28, 3) := by decide +kernel
theorem dX8_bestIn_24 : decode cX8_bestIn 24 = .ok (.iload_n 2, 1) := by decide +kernel
theorem dX8_bestIn_25 : decode cX8_bestIn 25 = .ok (.bipush (-5), 2) := by decide +kernel
theorem dX8_bestIn_27 : decode cX8_bestIn 27 = .ok (.if_icmp .eq 18, 3) := by decide +kernel
theorem dX8_bestIn_30 : decode cX8_bestIn 30 = .ok (.aload_n 0, 1) := by decide +kernel
theorem dX8_bestIn_31 : decode cX8_bestIn 31 = .ok (.iload_n 1, 1) := by decide +kernel
theorem dX8_bestIn_32 : decode cX8_bestIn 32 = .ok (.iload_n 3, 1) := by decide +kernel
theorem dX8_bestIn_33 : decode cX8_bestIn 33 = .ok (.invokevirtual 53, 3) := by decide +kernel
theorem dX8_bestIn_36 : decode cX8_bestIn 36 = .ok (.aload_n 0, 1) := by decide +kernel
theorem dX8_bestIn_37 : decode cX8_bestIn 37 = .ok (.iload_n 1, 1) := by decide +kernel
theorem dX8_bestIn_38 : decode cX8_bestIn 38 = .ok (.iload_n 2, 1) := by decide +kernel
theorem dX8_bestIn_39 : decode cX8_bestIn 39 = .ok (.invokevirtual 53, 3) := by decide +kernel
theorem dX8_bestIn_42 : decode cX8_bestIn 42 = .ok (.if_icmp .ge 7, 3) := by decide +kernel
theorem dX8_bestIn_45 : decode cX8_bestIn 45 = .ok (.iload_n 3, 1) := by decide +kernel
theorem dX8_bestIn_46 : decode cX8_bestIn 46 = .ok (.goto 4, 3) := by decide +kernel
theorem dX8_bestIn_49 : decode cX8_bestIn 49 = .ok (.iload_n 2, 1) := by decide +kernel
theorem dX8_bestIn_50 : decode cX8_bestIn 50 = .ok (.istore_n 2, 1) := by decide +kernel
theorem dX8_bestIn_51 : decode cX8_bestIn 51 = .ok (.iinc 3 1, 3) := by decide +kernel
theorem dX8_bestIn_54 : decode cX8_bestIn 54 = .ok (.goto (-49), 3) := by decide +kernel
theorem dX8_bestIn_57 : decode cX8_bestIn 57 = .ok (.iload_n 2, 1) := by decide +kernel
theorem dX8_bestIn_58 : decode cX8_bestIn 58 = .ok (.ireturn, 1) := by decide +kernel
theorem dX8_enter_0 : decode cX8_enter 0 = .ok (.iload_n 1, 1) := by decide +kernel
theorem dX8_enter_1 : decode cX8_enter 1 = .ok (.bipush 50, 2) := by decide +kernel
theorem dX8_enter_3 : decode cX8_enter 3 = .ok (.sipush 150, 3) := by decide +kernel
theorem dX8_enter_6 : decode cX8_enter 6 = .ok (.invokestatic 22, 3) := by decide +kernel
theorem dX8_enter_9 : decode cX8_enter 9 = .ok (.ifCond .ne 6, 3) := by decide +kernel
theorem dX8_enter_12 : decode cX8_enter 12 = .ok (.bipush (-2), 2) := by decide +kernel
theorem dX8_enter_14 : decode cX8_enter 14 = .ok (.ireturn, 1) := by decide +kernel
theorem dX8_enter_15 : decode cX8_enter 15 = .ok (.aload_n 0, 1) := by decide +kernel
theorem dX8_enter_16 : decode cX8_enter 16 = .ok (.getfield 7, 3) := by decide +kernel
theorem dX8_enter_19 : decode cX8_enter 19 = .ok (.iconst 2, 1) := by decide +kernel
theorem dX8_enter_20 : decode cX8_enter 20 = .ok (.iaload, 1) := by decide +kernel
theorem dX8_enter_21 : decode cX8_enter 21 = .ok (.ifCond .le 6, 3) := by decide +kernel
theorem dX8_enter_24 : decode cX8_enter 24 = .ok (.bipush (-4), 2) := by decide +kernel
theorem dX8_enter_26 : decode cX8_enter 26 = .ok (.ireturn, 1) := by decide +kernel
theorem dX8_enter_27 : decode cX8_enter 27 = .ok (.aload_n 0, 1) := by decide +kernel
theorem dX8_enter_28 : decode cX8_enter 28 = .ok (.getfield 7, 3) := by decide +kernel
theorem dX8_enter_31 : decode cX8_enter 31 = .ok (.iconst 1, 1) := by decide +kernel
theorem dX8_enter_32 : decode cX8_enter 32 = .ok (.iaload, 1) := by decide +kernel
theorem dX8_enter_33 : decode cX8_enter 33 = .ok (.bipush 9, 2) := by decide +kernel
theorem dX8_enter_35 : decode cX8_enter 35 = .ok (.if_icmp .ne 6, 3) := by decide +kernel
theorem dX8_enter_38 : decode cX8_enter 38 = .ok (.bipush (-3), 2) := by decide +kernel
theorem dX8_enter_40 : decode cX8_enter 40 = .ok (.ireturn, 1) := by decide +kernel
theorem dX8_enter_41 : decode cX8_enter 41 = .ok (.aload_n 0, 1) := by decide +kernel
theorem dX8_enter_42 : decode cX8_enter 42 = .ok (.invokevirtual 81, 3) := by decide +kernel
theorem dX8_enter_45 : decode cX8_enter 45 = .ok (.aload_n 0, 1) := by decide +kernel
theorem dX8_enter_46 : decode cX8_enter 46 = .ok (.getfield 7, 3) := by decide +kernel
theorem dX8_enter_49 : decode cX8_enter 49 = .ok (.bipush 7, 2) := by decide +kernel
theorem dX8_enter_51 : decode cX8_enter 51 = .ok (.aload_n 0, 1) := by decide +kernel
theorem dX8_enter_52 : decode cX8_enter 52 = .ok (.getfield 7, 3) := by decide +kernel
theorem dX8_enter_55 : decode cX8_enter 55 = .ok (.iconst 1, 1) := by decide +kernel
theorem dX8_enter_56 : decode cX8_enter 56 = .ok (.iaload, 1) := by decide +kernel
theorem dX8_enter_57 : decode cX8_enter 57 = .ok (.iadd, 1) := by decide +kernel
theorem dX8_enter_58 : decode cX8_enter 58 = .ok (.iload_n 1, 1) := by decide +kernel
theorem dX8_enter_59 : decode cX8_enter 59 = .ok (.iastore, 1) := by decide +kernel
theorem dX8_enter_60 : decode cX8_enter 60 = .ok (.aload_n 0, 1) := by decide +kernel
theorem dX8_enter_61 : decode cX8_enter 61 = .ok (.getfield 7, 3) := by decide +kernel
theorem dX8_enter_64 : decode cX8_enter 64 = .ok (.iconst 1, 1) := by decide +kernel
theorem dX8_enter_65 : decode cX8_enter 65 = .ok (.dup2, 1) := by decide +kernel
theorem dX8_enter_66 : decode cX8_enter 66 = .ok (.iaload, 1) := by decide +kernel
theorem dX8_enter_67 : decode cX8_enter 67 = .ok (.iconst 1, 1) := by decide +kernel
theorem dX8_enter_68 : decode cX8_enter 68 = .ok (.iadd, 1) := by decide +kernel
theorem dX8_enter_69 : decode cX8_enter 69 = .ok (.iastore, 1) := by decide +kernel
theorem dX8_enter_70 : decode cX8_enter 70 = .ok (.aload_n 0, 1) := by decide +kernel
theorem dX8_enter_71 : decode cX8_enter 71 = .ok (.getfield 7, 3) := by decide +kernel
theorem dX8_enter_74 : decode cX8_enter 74 = .ok (.iconst 1, 1) := by decide +kernel
theorem dX8_enter_75 : decode cX8_enter 75 = .ok (.iaload, 1) := by decide +kernel
theorem dX8_enter_76 : decode cX8_enter 76 = .ok (.iconst 1, 1) := by decide +kernel
theorem dX8_enter_77 : decode cX8_enter 77 = .ok (.isub, 1) := by decide +kernel
theorem dX8_enter_78 : decode cX8_enter 78 = .ok (.ireturn, 1) := by decide +kernel
theorem dX8_clear_0 : decode cX8_clear 0 = .ok (.iconst 0, 1) := by decide +kernel
theorem dX8_clear_1 : decode cX8_clear 1 = .ok (.istore_n 1, 1) := by decide +kernel
theorem dX8_clear_2 : decode cX8_clear 2 = .ok (.iload_n 1, 1) := by decide +kernel
theorem dX8_clear_3 : decode cX8_clear 3 = .ok (.bipush 9, 2) := by decide +kernel
theorem dX8_clear_5 : decode cX8_clear 5 = .ok (.if_icmp .ge 34, 3) := by decide +kernel
theorem dX8_clear_8 : decode cX8_clear 8 = .ok (.iconst 0, 1) := by decide +kernel
theorem dX8_clear_9 : decode cX8_clear 9 = .ok (.istore_n 2, 1) := by decide +kernel
theorem dX8_clear_10 : decode cX8_clear 10 = .ok (.iload_n 2, 1) := by decide +kernel
theorem dX8_clear_11 : decode cX8_clear 11 = .ok (.bipush 6, 2) := by decide +kernel
theorem dX8_clear_13 : decode cX8_clear 13 = .ok (.if_icmp .ge 20, 3) := by decide +kernel
theorem dX8_clear_16 : decode cX8_clear 16 = .ok (.aload_n 0, 1) := by decide +kernel
theorem dX8_clear_17 : decode cX8_clear 17 = .ok (.aload_n 0, 1) := by decide +kernel
theorem dX8_clear_18 : decode cX8_clear 18 = .ok (.invokevirtual 26, 3) := by decide +kernel
theorem dX8_clear_21 : decode cX8_clear 21 = .ok (.iload_n 1, 1) := by decide +kernel
theorem dX8_clear_22 : decode cX8_clear 22 = .ok (.iload_n 2, 1) := by decide +kernel
theorem dX8_clear_23 : decode cX8_clear 23 = .ok (.iconst 0, 1) := by decide +kernel
theorem dX8_clear_24 : decode cX8_clear 24 = .ok (.invokevirtual 84, 3) := by decide +kernel
theorem dX8_clear_27 : decode cX8_clear 27 = .ok (.iinc 2 1, 3) := by decide +kernel
theorem dX8_clear_30 : decode cX8_clear 30 = .ok (.goto (-20), 3) := by decide +kernel
theorem dX8_clear_33 : decode cX8_clear 33 = .ok (.iinc 1 1, 3) := by decide +kernel
theorem dX8_clear_36 : decode cX8_clear 36 = .ok (.goto (-34), 3) := by decide +kernel
theorem dX8_clear_39 : decode cX8_clear 39 = .ok (.aload_n 0, 1) := by decide +kernel
theorem dX8_clear_40 : decode cX8_clear 40 = .ok (.getfield 7, 3) := by decide +kernel
theorem dX8_clear_43 : decode cX8_clear 43 = .ok (.iconst 3, 1) := by decide +kernel
theorem dX8_clear_44 : decode cX8_clear 44 = .ok (.iconst 0, 1) := by decide +kernel
theorem dX8_clear_45 : decode cX8_clear 45 = .ok (.iastore, 1) := by decide +kernel
theorem dX8_clear_46 : decode cX8_clear 46 = .ok (.return_, 1) := by decide +kernel
theorem dX8_prepare_0 : decode cX8_prepare 0 = .ok (.iload_n 1, 1) := by decide +kernel
theorem dX8_prepare_1 : decode cX8_prepare 1 = .ok (.iconst 1, 1) := by decide +kernel
theorem dX8_prepare_2 : decode cX8_prepare 2 = .ok (.iconst 5, 1) := by decide +kernel
theorem dX8_prepare_3 : decode cX8_prepare 3 = .ok (.invokestatic 22, 3) := by decide +kernel
theorem dX8_prepare_6 : decode cX8_prepare 6 = .ok (.ifCond .eq 24, 3) := by decide +kernel
theorem dX8_prepare_9 : decode cX8_prepare 9 = .ok (.iload_n 2, 1) := by decide +kernel
theorem dX8_prepare_10 : decode cX8_prepare 10 = .ok (.iconst 1, 1) := by decide +kernel
theorem dX8_prepare_11 : decode cX8_prepare 11 = .ok (.iconst 3, 1) := by decide +kernel
theorem dX8_prepare_12 : decode cX8_prepare 12 = .ok (.invokestatic 22, 3) := by decide +kernel
theorem dX8_prepare_15 : decode cX8_prepare 15 = .ok (.ifCond .eq 15, 3) := by decide +kernel
theorem dX8_prepare_18 : decode cX8_prepare 18 = .ok (.iload_n 3, 1) := by decide +kernel
theorem dX8_prepare_19 : decode cX8_prepare 19 = .ok (.bipush 60, 2) := by decide +kernel
theorem dX8_prepare_21 : decode cX8_prepare 21 = .ok (.sipush 3600, 3) := by decide +kernel
theorem dX8_prepare_24 : decode cX8_prepare 24 = .ok (.invokestatic 22, 3) := by decide +kernel
theorem dX8_prepare_27 : decode cX8_prepare 27 = .ok (.ifCond .ne 6, 3) := by decide +kernel
theorem dX8_prepare_30 : decode cX8_prepare 30 = .ok (.bipush (-2), 2) := by decide +kernel
theorem dX8_prepare_32 : decode cX8_prepare 32 = .ok (.ireturn, 1) := by decide +kernel
theorem dX8_prepare_33 : decode cX8_prepare 33 = .ok (.aload_n 0, 1) := by decide +kernel
theorem dX8_prepare_34 : decode cX8_prepare 34 = .ok (.getfield 7, 3) := by decide +kernel
theorem dX8_prepare_37 : decode cX8_prepare 37 = .ok (.iconst 1, 1) := by decide +kernel
theorem dX8_prepare_38 : decode cX8_prepare 38 = .ok (.iaload, 1) := by decide +kernel
theorem dX8_prepare_39 : decode cX8_prepare 39 = .ok (.ifCond .eq 10, 3) := by decide +kernel
theorem dX8_prepare_42 : decode cX8_prepare 42 = .ok (.aload_n 0, 1) := by decide +kernel
theorem dX8_prepare_43 : decode cX8_prepare 43 = .ok (.invokevirtual 88, 3) := by decide +kernel
theorem dX8_prepare_46 : decode cX8_prepare 46 = .ok (.ifCond .eq 6, 3) := by decide +kernel
theorem dX8_prepare_49 : decode cX8_prepare 49 = .ok (.bipush (-4), 2) := by decide +kernel
theorem dX8_prepare_51 : decode cX8_prepare 51 = .ok (.ireturn, 1) := by decide +kernel
theorem dX8_prepare_52 : decode cX8_prepare 52 = .ok (.aload_n 0, 1) := by decide +kernel
theorem dX8_prepare_53 : decode cX8_prepare 53 = .ok (.getfield 7, 3) := by decide +kernel
theorem dX8_prepare_56 : decode cX8_prepare 56 = .ok (.iconst 2, 1) := by decide +kernel
theorem dX8_prepare_57 : decode cX8_prepare 57 = .ok (.iaload, 1) := by decide +kernel
theorem dX8_prepare_58 : decode cX8_prepare 58 = .ok (.bipush 6, 2) := by decide +kernel
theorem dX8_prepare_60 : decode cX8_prepare 60 = .ok (.if_icmp .ne 6, 3) := by decide +kernel
theorem dX8_prepare_63 : decode cX8_prepare 63 = .ok (.bipush (-3), 2) := by decide +kernel
theorem dX8_prepare_65 : decode cX8_prepare 65 = .ok (.ireturn, 1) := by decide +kernel
theorem dX8_prepare_66 : decode cX8_prepare 66 = .ok (.aload_n 0, 1) := by decide +kernel
theorem dX8_prepare_67 : decode cX8_prepare 67 = .ok (.invokevirtual 81, 3) := by decide +kernel
theorem dX8_prepare_70 : decode cX8_prepare 70 = .ok (.bipush 16, 2) := by decide +kernel
theorem dX8_prepare_72 : decode cX8_prepare 72 = .ok (.iconst 4, 1) := by decide +kernel
theorem dX8_prepare_73 : decode cX8_prepare 73 = .ok (.aload_n 0, 1) := by decide +kernel
theorem dX8_prepare_74 : decode cX8_prepare 74 = .ok (.getfield 7, 3) := by decide +kernel
theorem dX8_prepare_77 : decode cX8_prepare 77 = .ok (.iconst 2, 1) := by decide +kernel
theorem dX8_prepare_78 : decode cX8_prepare 78 = .ok (.iaload, 1) := by decide +kernel
theorem dX8_prepare_79 : decode cX8_prepare 79 = .ok (.imul, 1) := by decide +kernel
theorem dX8_prepare_80 : decode cX8_prepare 80 = .ok (.iadd, 1) := by decide +kernel
theorem dX8_prepare_81 : decode cX8_prepare 81 = .ok (.istore 4, 2) := by decide +kernel
theorem dX8_prepare_83 : decode cX8_prepare 83 = .ok (.aload_n 0, 1) := by decide +kernel
theorem dX8_prepare_84 : decode cX8_prepare 84 = .ok (.getfield 7, 3) := by decide +kernel
theorem dX8_prepare_87 : decode cX8_prepare 87 = .ok (.iload 4, 2) := by decide +kernel
theorem dX8_prepare_89 : decode cX8_prepare 89 = .ok (.iconst 0, 1) := by decide +kernel
theorem dX8_prepare_90 : decode cX8_prepare 90 = .ok (.iadd, 1) := by decide +kernel
theorem dX8_prepare_91 : decode cX8_prepare 91 = .ok (.iload_n 1, 1) := by decide +kernel
theorem dX8_prepare_92 : decode cX8_prepare 92 = .ok (.iastore, 1) := by decide +kernel
theorem dX8_prepare_93 : decode cX8_prepare 93 = .ok (.aload_n 0, 1) := by decide +kernel
theorem dX8_prepare_94 : decode cX8_prepare 94 = .ok (.getfield 7, 3) := by decide +kernel
theorem dX8_prepare_97 : decode cX8_prepare 97 = .ok (.iload 4, 2) := by decide +kernel
theorem dX8_prepare_99 : decode cX8_prepare 99 = .ok (.iconst 1, 1) := by decide +kernel
theorem dX8_prepare_100 : decode cX8_prepare 100 = .ok (.iadd, 1) := by decide +kernel
theorem dX8_prepare_101 : decode cX8_prepare 101 = .ok (.iload_n 2, 1) := by decide +kernel
theorem dX8_prepare_102 : decode cX8_prepare 102 = .ok (.iastore, 1) := by decide +kernel
theorem dX8_prepare_103 : decode cX8_prepare 103 = .ok (.aload_n 0, 1) := by decide +kernel
theorem dX8_prepare_104 : decode cX8_prepare 104 = .ok (.getfield 7, 3) := by decide +kernel
theorem dX8_prepare_107 : decode cX8_prepare 107 = .ok (.iload 4, 2) := by decide +kernel
theorem dX8_prepare_109 : decode cX8_prepare 109 = .ok (.iconst 2, 1) := by decide +kernel
theorem dX8_prepare_110 : decode cX8_prepare 110 = .ok (.iadd, 1) := by decide +kernel
theorem dX8_prepare_111 : decode cX8_prepare 111 = .ok (.aload_n 0, 1) := by decide +kernel
theorem dX8_prepare_112 : decode cX8_prepare 112 = .ok (.getfield 7, 3) := by decide +kernel
theorem dX8_prepare_115 : decode cX8_prepare 115 = .ok (.iconst 0, 1) := by decide +kernel
theorem dX8_prepare_116 : decode cX8_prepare 116 = .ok (.iaload, 1) := by decide +kernel
theorem dX8_prepare_117 : decode cX8_prepare 117 = .ok (.iload_n 3, 1) := by decide +kernel
theorem dX8_prepare_118 : decode cX8_prepare 118 = .ok (.iadd, 1) := by decide +kernel
theorem dX8_prepare_119 : decode cX8_prepare 119 = .ok (.iastore, 1) := by decide +kernel
theorem dX8_prepare_120 : decode cX8_prepare 120 = .ok (.aload_n 0, 1) := by decide +kernel
theorem dX8_prepare_121 : decode cX8_prepare 121 = .ok (.getfield 7, 3) := by decide +kernel
theorem dX8_prepare_124 : decode cX8_prepare 124 = .ok (.iload 4, 2) := by decide +kernel
theorem dX8_prepare_126 : decode cX8_prepare 126 = .ok (.iconst 3, 1) := by decide +kernel
theorem dX8_prepare_127 : decode cX8_prepare 127 = .ok (.iadd, 1) := by decide +kernel
theorem dX8_prepare_128 : decode cX8_prepare 128 = .ok (.iconst 0, 1) := by decide +kernel
theorem dX8_prepare_129 : decode cX8_prepare 129 = .ok (.iastore, 1) := by decide +kernel
theorem dX8_prepare_130 : decode cX8_prepare 130 = .ok (.aload_n 0, 1) := by decide +kernel
theorem dX8_prepare_131 : decode cX8_prepare 131 = .ok (.getfield 7, 3) := by decide +kernel
theorem dX8_prepare_134 : decode cX8_prepare 134 = .ok (.iconst 2, 1) := by decide +kernel
theorem dX8_prepare_135 : decode cX8_prepare 135 = .ok (.dup2, 1) := by decide +kernel
theorem dX8_prepare_136 : decode cX8_prepare 136 = .ok (.iaload, 1) := by decide +kernel
theorem dX8_prepare_137 : decode cX8_prepare 137 = .ok (.iconst 1, 1) := by decide +kernel
theorem dX8_prepare_138 : decode cX8_prepare 138 = .ok (.iadd, 1) := by decide +kernel
theorem dX8_prepare_139 : decode cX8_prepare 139 = .ok (.iastore, 1) := by decide +kernel
theorem dX8_prepare_140 : decode cX8_prepare 140 = .ok (.aload_n 0, 1) := by decide +kernel
theorem dX8_prepare_141 : decode cX8_prepare 141 = .ok (.invokevirtual 92, 3) := by decide +kernel
theorem dX8_prepare_144 : decode cX8_prepare 144 = .ok (.aload_n 0, 1) := by decide +kernel
theorem dX8_prepare_145 : decode cX8_prepare 145 = .ok (.invokevirtual 26, 3) := by decide +kernel
theorem dX8_prepare_148 : decode cX8_prepare 148 = .ok (.ireturn, 1) := by decide +kernel
theorem dX8_postpone_0 : decode cX8_postpone 0 = .ok (.iload_n 1, 1) := by decide +kernel
theorem dX8_postpone_1 : decode cX8_postpone 1 = .ok (.iconst 1, 1) := by decide +kernel
theorem dX8_postpone_2 : decode cX8_postpone 2 = .ok (.sipush 3600, 3) := by decide +kernel
theorem dX8_postpone_5 : decode cX8_postpone 5 = .ok (.invokestatic 22, 3) := by decide +kernel
theorem dX8_postpone_8 : decode cX8_postpone 8 = .ok (.ifCond .ne 6, 3) := by decide +kernel
theorem dX8_postpone_11 : decode cX8_postpone 11 = .ok (.bipush (-2), 2) := by decide +kernel
theorem dX8_postpone_13 : decode cX8_postpone 13 = .ok (.ireturn, 1) := by decide +kernel
theorem dX8_postpone_14 : decode cX8_postpone 14 = .ok (.aload_n 0, 1) := by decide +kernel
theorem dX8_postpone_15 : decode cX8_postpone 15 = .ok (.invokevirtual 88, 3) := by decide +kernel
theorem dX8_postpone_18 : decode cX8_postpone 18 = .ok (.ifCond .eq 16, 3) := by decide +kernel
theorem dX8_postpone_21 : decode cX8_postpone 21 = .ok (.aload_n 0, 1) := by decide +kernel
theorem dX8_postpone_22 : decode cX8_postpone 22 = .ok (.getfield 7, 3) := by decide +kernel
theorem dX8_postpone_25 : decode cX8_postpone 25 = .ok (.iconst 0, 1) := by decide +kernel
theorem dX8_postpone_26 : decode cX8_postpone 26 = .ok (.iaload, 1) := by decide +kernel
theorem dX8_postpone_27 : decode cX8_postpone 27 = .ok (.aload_n 0, 1) := by decide +kernel
theorem dX8_postpone_28 : decode cX8_postpone 28 = .ok (.invokevirtual 95, 3) := by decide +kernel
theorem dX8_postpone_31 : decode cX8_postpone 31 = .ok (.if_icmp .lt 6, 3) := by decide +kernel
theorem dX8_postpone_34 : decode cX8_postpone 34 = .ok (.bipush (-4), 2) := by decide +kernel
theorem dX8_postpone_36 : decode cX8_postpone 36 = .ok (.ireturn, 1) := by decide +kernel
theorem dX8_postpone_37 : decode cX8_postpone 37 = .ok (.aload_n 0, 1) := by decide +kernel
theorem dX8_postpone_38 : decode cX8_postpone 38 = .ok (.invokevirtual 81, 3) := by decide +kernel
theorem dX8_postpone_41 : decode cX8_postpone 41 = .ok (.aload_n 0, 1) := by decide +kernel
theorem dX8_postpone_42 : decode cX8_postpone 42 = .ok (.getfield 7, 3) := by decide +kernel
theorem dX8_postpone_45 : decode cX8_postpone 45 = .ok (.bipush 16, 2) := by decide +kernel
theorem dX8_postpone_47 : decode cX8_postpone 47 = .ok (.iconst 4, 1) := by decide +kernel
theorem dX8_postpone_48 : decode cX8_postpone 48 = .ok (.aload_n 0, 1) := by decide +kernel
theorem dX8_postpone_49 : decode cX8_postpone 49 = .ok (.invokevirtual 26, 3) := by decide +kernel
theorem dX8_postpone_52 : decode cX8_postpone 52 = .ok (.imul, 1) := by decide +kernel
theorem dX8_postpone_53 : decode cX8_postpone 53 = .ok (.iadd, 1) := by decide +kernel
theorem dX8_postpone_54 : decode cX8_postpone 54 = .ok (.iconst 2, 1) := by decide +kernel
theorem dX8_postpone_55 : decode cX8_postpone 55 = .ok (.iadd, 1) := by decide +kernel
theorem dX8_postpone_56 : decode cX8_postpone 56 = .ok (.dup2, 1) := by decide +kernel
theorem dX8_postpone_57 : decode cX8_postpone 57 = .ok (.iaload, 1) := by decide +kernel
theorem dX8_postpone_58 : decode cX8_postpone 58 = .ok (.iload_n 1, 1) := by decide +kernel
theorem dX8_postpone_59 : decode cX8_postpone 59 = .ok (.iadd, 1) := by decide +kernel
theorem dX8_postpone_60 : decode cX8_postpone 60 = .ok (.iastore, 1) := by decide +kernel
theorem dX8_postpone_61 : decode cX8_postpone 61 = .ok (.aload_n 0, 1) := by decide +kernel
theorem dX8_postpone_62 : decode cX8_postpone 62 = .ok (.invokevirtual 95, 3) := by decide +kernel
theorem dX8_postpone_65 : decode cX8_postpone 65 = .ok (.ireturn, 1) := by decide +kernel
theorem dX8_recall_0 : decode cX8_recall 0 = .ok (.aload_n 0, 1) := by decide +kernel
theorem dX8_recall_1 : decode cX8_recall 1 = .ok (.invokevirtual 88, 3) := by decide +kernel
theorem dX8_recall_4 : decode cX8_recall 4 = .ok (.ifCond .eq 26, 3) := by decide +kernel
theorem dX8_recall_7 : decode cX8_recall 7 = .ok (.aload_n 0, 1) := by decide +kernel
theorem dX8_recall_8 : decode cX8_recall 8 = .ok (.getfield 7, 3) := by decide +kernel
theorem dX8_recall_11 : decode cX8_recall 11 = .ok (.iconst 0, 1) := by decide +kernel
theorem dX8_recall_12 : decode cX8_recall 12 = .ok (.iaload, 1) := by decide +kernel
theorem dX8_recall_13 : decode cX8_recall 13 = .ok (.aload_n 0, 1) := by decide +kernel
theorem dX8_recall_14 : decode cX8_recall 14 = .ok (.invokevirtual 95, 3) := by decide +kernel
theorem dX8_recall_17 : decode cX8_recall 17 = .ok (.aload_n 0, 1) := by decide +kernel
theorem dX8_recall_18 : decode cX8_recall 18 = .ok (.invokevirtual 95, 3) := by decide +kernel
theorem dX8_recall_21 : decode cX8_recall 21 = .ok (.bipush 60, 2) := by decide +kernel
theorem dX8_recall_23 : decode cX8_recall 23 = .ok (.iadd, 1) := by decide +kernel
theorem dX8_recall_24 : decode cX8_recall 24 = .ok (.invokestatic 22, 3) := by decide +kernel
theorem dX8_recall_27 : decode cX8_recall 27 = .ok (.ifCond .ne 6, 3) := by decide +kernel
theorem dX8_recall_30 : decode cX8_recall 30 = .ok (.bipush (-4), 2) := by decide +kernel
theorem dX8_recall_32 : decode cX8_recall 32 = .ok (.ireturn, 1) := by decide +kernel
theorem dX8_recall_33 : decode cX8_recall 33 = .ok (.aload_n 0, 1) := by decide +kernel
theorem dX8_recall_34 : decode cX8_recall 34 = .ok (.invokevirtual 81, 3) := by decide +kernel
theorem dX8_recall_37 : decode cX8_recall 37 = .ok (.aload_n 0, 1) := by decide +kernel
theorem dX8_recall_38 : decode cX8_recall 38 = .ok (.getfield 7, 3) := by decide +kernel
theorem dX8_recall_41 : decode cX8_recall 41 = .ok (.bipush 16, 2) := by decide +kernel
theorem dX8_recall_43 : decode cX8_recall 43 = .ok (.iconst 4, 1) := by decide +kernel
theorem dX8_recall_44 : decode cX8_recall 44 = .ok (.aload_n 0, 1) := by decide +kernel
theorem dX8_recall_45 : decode cX8_recall 45 = .ok (.invokevirtual 26, 3) := by decide +kernel
theorem dX8_recall_48 : decode cX8_recall 48 = .ok (.imul, 1) := by decide +kernel
theorem dX8_recall_49 : decode cX8_recall 49 = .ok (.iadd, 1) := by decide +kernel
theorem dX8_recall_50 : decode cX8_recall 50 = .ok (.iconst 2, 1) := by decide +kernel
theorem dX8_recall_51 : decode cX8_recall 51 = .ok (.iadd, 1) := by decide +kernel
theorem dX8_recall_52 : decode cX8_recall 52 = .ok (.aload_n 0, 1) := by decide +kernel
theorem dX8_recall_53 : decode cX8_recall 53 = .ok (.getfield 7, 3) := by decide +kernel
theorem dX8_recall_56 : decode cX8_recall 56 = .ok (.iconst 0, 1) := by decide +kernel
theorem dX8_recall_57 : decode cX8_recall 57 = .ok (.iaload, 1) := by decide +kernel
theorem dX8_recall_58 : decode cX8_recall 58 = .ok (.sipush 300, 3) := by decide +kernel
theorem dX8_recall_61 : decode cX8_recall 61 = .ok (.iadd, 1) := by decide +kernel
theorem dX8_recall_62 : decode cX8_recall 62 = .ok (.iastore, 1) := by decide +kernel
theorem dX8_recall_63 : decode cX8_recall 63 = .ok (.aload_n 0, 1) := by decide +kernel
theorem dX8_recall_64 : decode cX8_recall 64 = .ok (.invokevirtual 92, 3) := by decide +kernel
theorem dX8_recall_67 : decode cX8_recall 67 = .ok (.aload_n 0, 1) := by decide +kernel
theorem dX8_recall_68 : decode cX8_recall 68 = .ok (.invokevirtual 95, 3) := by decide +kernel
theorem dX8_recall_71 : decode cX8_recall 71 = .ok (.ireturn, 1) := by decide +kernel
theorem dX8_passError_0 : decode cX8_passError 0 = .ok (.iload_n 1, 1) := by decide +kernel
theorem dX8_passError_1 : decode cX8_passError 1 = .ok (.iconst 1, 1) := by decide +kernel
theorem dX8_passError_2 : decode cX8_passError 2 = .ok (.sipush 9999, 3) := by decide +kernel
theorem dX8_passError_5 : decode cX8_passError 5 = .ok (.invokestatic 22, 3) := by decide +kernel
theorem dX8_passError_8 : decode cX8_passError 8 = .ok (.ifCond .ne 8, 3) := by decide +kernel
theorem dX8_passError_11 : decode cX8_passError 11 = .ok (.bipush (-2), 2) := by decide +kernel
theorem dX8_passError_13 : decode cX8_passError 13 = .ok (.goto 22, 3) := by decide +kernel
theorem dX8_passError_16 : decode cX8_passError 16 = .ok (.aload_n 0, 1) := by decide +kernel
theorem dX8_passError_17 : decode cX8_passError 17 = .ok (.getfield 7, 3) := by decide +kernel
theorem dX8_passError_20 : decode cX8_passError 20 = .ok (.iconst 0, 1) := by decide +kernel
theorem dX8_passError_21 : decode cX8_passError 21 = .ok (.iaload, 1) := by decide +kernel
theorem dX8_passError_22 : decode cX8_passError 22 = .ok (.iload_n 1, 1) := by decide +kernel
theorem dX8_passError_23 : decode cX8_passError 23 = .ok (.iadd, 1) := by decide +kernel
theorem dX8_passError_24 : decode cX8_passError 24 = .ok (.ldc 98, 2) := by decide +kernel
theorem dX8_passError_26 : decode cX8_passError 26 = .ok (.if_icmp .le 8, 3) := by decide +kernel
theorem dX8_passError_29 : decode cX8_passError 29 = .ok (.bipush (-3), 2) := by decide +kernel
theorem dX8_passError_31 : decode cX8_passError 31 = .ok (.goto 4, 3) := by decide +kernel
theorem dX8_passError_34 : decode cX8_passError 34 = .ok (.iconst 0, 1) := by decide +kernel
theorem dX8_passError_35 : decode cX8_passError 35 = .ok (.ireturn, 1) := by decide +kernel
theorem dX8_doPass_0 : decode cX8_doPass 0 = .ok (.aload_n 0, 1) := by decide +kernel
theorem dX8_doPass_1 : decode cX8_doPass 1 = .ok (.getfield 7, 3) := by decide +kernel
theorem dX8_doPass_4 : decode cX8_doPass 4 = .ok (.iconst 0, 1) := by decide +kernel
theorem dX8_doPass_5 : decode cX8_doPass 5 = .ok (.dup2, 1) := by decide +kernel
theorem dX8_doPass_6 : decode cX8_doPass 6 = .ok (.iaload, 1) := by decide +kernel
theorem dX8_doPass_7 : decode cX8_doPass 7 = .ok (.iload_n 1, 1) := by decide +kernel
theorem dX8_doPass_8 : decode cX8_doPass 8 = .ok (.iadd, 1) := by decide +kernel
theorem dX8_doPass_9 : decode cX8_doPass 9 = .ok (.iastore, 1) := by decide +kernel
theorem dX8_doPass_10 : decode cX8_doPass 10 = .ok (.aload_n 0, 1) := by decide +kernel
theorem dX8_doPass_11 : decode cX8_doPass 11 = .ok (.getfield 7, 3) := by decide +kernel
theorem dX8_doPass_14 : decode cX8_doPass 14 = .ok (.iconst 0, 1) := by decide +kernel
theorem dX8_doPass_15 : decode cX8_doPass 15 = .ok (.iaload, 1) := by decide +kernel
theorem dX8_doPass_16 : decode cX8_doPass 16 = .ok (.ireturn, 1) := by decide +kernel
theorem dX8_pass_0 : decode cX8_pass 0 = .ok (.aload_n 0, 1) := by decide +kernel
theorem dX8_pass_1 : decode cX8_pass 1 = .ok (.iload_n 1, 1) := by decide +kernel
theorem dX8_pass_2 : decode cX8_pass 2 = .ok (.invokevirtual 99, 3) := by decide +kernel
theorem dX8_pass_5 : decode cX8_pass 5 = .ok (.istore_n 2, 1) := by decide +kernel
theorem dX8_pass_6 : decode cX8_pass 6 = .ok (.iload_n 2, 1) := by decide +kernel
theorem dX8_pass_7 : decode cX8_pass 7 = .ok (.ifCond .ge 5, 3) := by decide +kernel
theorem dX8_pass_10 : decode cX8_pass 10 = .ok (.iload_n 2, 1) := by decide +kernel
theorem dX8_pass_11 : decode cX8_pass 11 = .ok (.ireturn, 1) := by decide +kernel
theorem dX8_pass_12 : decode cX8_pass 12 = .ok (.aload_n 0, 1) := by decide +kernel
theorem dX8_pass_13 : decode cX8_pass 13 = .ok (.invokevirtual 81, 3) := by decide +kernel
theorem dX8_pass_16 : decode cX8_pass 16 = .ok (.aload_n 0, 1) := by decide +kernel
theorem dX8_pass_17 : decode cX8_pass 17 = .ok (.iload_n 1, 1) := by decide +kernel
theorem dX8_pass_18 : decode cX8_pass 18 = .ok (.invokevirtual 102, 3) := by decide +kernel
theorem dX8_pass_21 : decode cX8_pass 21 = .ok (.ireturn, 1) := by decide +kernel
theorem dX8_isWhole_0 : decode cX8_isWhole 0 = .ok (.aload_n 0, 1) := by decide +kernel
theorem dX8_isWhole_1 : decode cX8_isWhole 1 = .ok (.aload_n 0, 1) := by decide +kernel
theorem dX8_isWhole_2 : decode cX8_isWhole 2 = .ok (.invokevirtual 26, 3) := by decide +kernel
theorem dX8_isWhole_5 : decode cX8_isWhole 5 = .ok (.iload_n 1, 1) := by decide +kernel
theorem dX8_isWhole_6 : decode cX8_isWhole 6 = .ok (.iconst 1, 1) := by decide +kernel
theorem dX8_isWhole_7 : decode cX8_isWhole 7 = .ok (.invokevirtual 34, 3) := by decide +kernel
theorem dX8_isWhole_10 : decode cX8_isWhole 10 = .ok (.aload_n 0, 1) := by decide +kernel
theorem dX8_isWhole_11 : decode cX8_isWhole 11 = .ok (.aload_n 0, 1) := by decide +kernel
theorem dX8_isWhole_12 : decode cX8_isWhole 12 = .ok (.invokevirtual 26, 3) := by decide +kernel
theorem dX8_isWhole_15 : decode cX8_isWhole 15 = .ok (.iconst 0, 1) := by decide +kernel
theorem dX8_isWhole_16 : decode cX8_isWhole 16 = .ok (.invokevirtual 30, 3) := by decide +kernel
theorem dX8_isWhole_19 : decode cX8_isWhole 19 = .ok (.aload_n 0, 1) := by decide +kernel
theorem dX8_isWhole_20 : decode cX8_isWhole 20 = .ok (.aload_n 0, 1) := by decide +kernel
theorem dX8_isWhole_21 : decode cX8_isWhole 21 = .ok (.invokevirtual 26, 3) := by decide +kernel
theorem dX8_isWhole_24 : decode cX8_isWhole 24 = .ok (.iconst 1, 1) := by decide +kernel
theorem dX8_isWhole_25 : decode cX8_isWhole 25 = .ok (.invokevirtual 30, 3) := by decide +kernel
theorem dX8_isWhole_28 : decode cX8_isWhole 28 = .ok (.imul, 1) := by decide +kernel
theorem dX8_isWhole_29 : decode cX8_isWhole 29 = .ok (.if_icmp .ne 7, 3) := by decide +kernel
theorem dX8_isWhole_32 : decode cX8_isWhole 32 = .ok (.iconst 1, 1) := by decide +kernel
theorem dX8_isWhole_33 : decode cX8_isWhole 33 = .ok (.goto 4, 3) := by decide +kernel
theorem dX8_isWhole_36 : decode cX8_isWhole 36 = .ok (.iconst 0, 1) := by decide +kernel
theorem dX8_isWhole_37 : decode cX8_isWhole 37 = .ok (.ireturn, 1) := by decide +kernel
theorem dX8_lineError_0 : decode cX8_lineError 0 = .ok (.aload_n 0, 1) := by decide +kernel
theorem dX8_lineError_1 : decode cX8_lineError 1 = .ok (.iload_n 1, 1) := by decide +kernel
theorem dX8_lineError_2 : decode cX8_lineError 2 = .ok (.invokevirtual 105, 3) := by decide +kernel
theorem dX8_lineError_5 : decode cX8_lineError 5 = .ok (.ifCond .ne 5, 3) := by decide +kernel
theorem dX8_lineError_8 : decode cX8_lineError 8 = .ok (.iconst (-1), 1) := by decide +kernel
theorem dX8_lineError_9 : decode cX8_lineError 9 = .ok (.ireturn, 1) := by decide +kernel
theorem dX8_lineError_10 : decode cX8_lineError 10 = .ok (.aload_n 0, 1) := by decide +kernel
theorem dX8_lineError_11 : decode cX8_lineError 11 = .ok (.invokevirtual 88, 3) := by decide +kernel
theorem dX8_lineError_14 : decode cX8_lineError 14 = .ok (.ifCond .eq 33, 3) := by decide +kernel
theorem dX8_lineError_17 : decode cX8_lineError 17 = .ok (.aload_n 0, 1) := by decide +kernel
theorem dX8_lineError_18 : decode cX8_lineError 18 = .ok (.iload_n 1, 1) := by decide +kernel
theorem dX8_lineError_19 : decode cX8_lineError 19 = .ok (.invokevirtual 109, 3) := by decide +kernel
theorem dX8_lineError_22 : decode cX8_lineError 22 = .ok (.iconst 2, 1) := by decide +kernel
theorem dX8_lineError_23 : decode cX8_lineError 23 = .ok (.if_icmp .lt 20, 3) := by decide +kernel
theorem dX8_lineError_26 : decode cX8_lineError 26 = .ok (.aload_n 0, 1) := by decide +kernel
theorem dX8_lineError_27 : decode cX8_lineError 27 = .ok (.iload_n 1, 1) := by decide +kernel
theorem dX8_lineError_28 : decode cX8_lineError 28 = .ok (.invokevirtual 109, 3) := by decide +kernel
theorem dX8_lineError_31 : decode cX8_lineError 31 = .ok (.iconst 2, 1) := by decide +kernel
theorem dX8_lineError_32 : decode cX8_lineError 32 = .ok (.if_icmp .ne 15, 3) := by decide +kernel
theorem dX8_lineError_35 : decode cX8_lineError 35 = .ok (.aload_n 0, 1) := by decide +kernel
theorem dX8_lineError_36 : decode cX8_lineError 36 = .ok (.iload_n 1, 1) := by decide +kernel
theorem dX8_lineError_37 : decode cX8_lineError 37 = .ok (.invokevirtual 112, 3) := by decide +kernel
theorem dX8_lineError_40 : decode cX8_lineError 40 = .ok (.ifCond .eq 7, 3) := by decide +kernel
theorem dX8_lineError_43 : decode cX8_lineError 43 = .ok (.iconst 1, 1) := by decide +kernel
theorem dX8_lineError_44 : decode cX8_lineError 44 = .ok (.goto 4, 3) := by decide +kernel
theorem dX8_lineError_47 : decode cX8_lineError 47 = .ok (.iconst 0, 1) := by decide +kernel
theorem dX8_lineError_48 : decode cX8_lineError 48 = .ok (.istore_n 2, 1) := by decide +kernel
theorem dX8_lineError_49 : decode cX8_lineError 49 = .ok (.iload_n 2, 1) := by decide +kernel
theorem dX8_lineError_50 : decode cX8_lineError 50 = .ok (.ifCond .eq 7, 3) := by decide +kernel
theorem dX8_lineError_53 : decode cX8_lineError 53 = .ok (.iconst 0, 1) := by decide +kernel
theorem dX8_lineError_54 : decode cX8_lineError 54 = .ok (.goto 5, 3) := by decide +kernel
theorem dX8_lineError_57 : decode cX8_lineError 57 = .ok (.bipush (-4), 2) := by decide +kernel
theorem dX8_lineError_59 : decode cX8_lineError 59 = .ok (.ireturn, 1) := by decide +kernel
theorem dX8_doLine_0 : decode cX8_doLine 0 = .ok (.aload_n 0, 1) := by decide +kernel
theorem dX8_doLine_1 : decode cX8_doLine 1 = .ok (.iload_n 1, 1) := by decide +kernel
theorem dX8_doLine_2 : decode cX8_doLine 2 = .ok (.invokevirtual 109, 3) := by decide +kernel
theorem dX8_doLine_5 : decode cX8_doLine 5 = .ok (.istore_n 2, 1) := by decide +kernel
theorem dX8_doLine_6 : decode cX8_doLine 6 = .ok (.iload_n 2, 1) := by decide +kernel
theorem dX8_doLine_7 : decode cX8_doLine 7 = .ok (.iconst 2, 1) := by decide +kernel
theorem dX8_doLine_8 : decode cX8_doLine 8 = .ok (.if_icmp .ne 7, 3) := by decide +kernel
theorem dX8_doLine_11 : decode cX8_doLine 11 = .ok (.iconst 3, 1) := by decide +kernel
theorem dX8_doLine_12 : decode cX8_doLine 12 = .ok (.goto 29, 3) := by decide +kernel
theorem dX8_doLine_15 : decode cX8_doLine 15 = .ok (.aload_n 0, 1) := by decide +kernel
theorem dX8_doLine_16 : decode cX8_doLine 16 = .ok (.getfield 7, 3) := by decide +kernel
theorem dX8_doLine_19 : decode cX8_doLine 19 = .ok (.iconst 0, 1) := by decide +kernel
theorem dX8_doLine_20 : decode cX8_doLine 20 = .ok (.iaload, 1) := by decide +kernel
theorem dX8_doLine_21 : decode cX8_doLine 21 = .ok (.aload_n 0, 1) := by decide +kernel
theorem dX8_doLine_22 : decode cX8_doLine 22 = .ok (.invokevirtual 95, 3) := by decide +kernel
theorem dX8_doLine_25 : decode cX8_doLine 25 = .ok (.if_icmp .lt 7, 3) := by decide +kernel
theorem dX8_doLine_28 : decode cX8_doLine 28 = .ok (.iconst 2, 1) := by decide +kernel
theorem dX8_doLine_29 : decode cX8_doLine 29 = .ok (.goto 12, 3) := by decide +kernel
theorem dX8_doLine_32 : decode cX8_doLine 32 = .ok (.iload_n 2, 1) := by decide +kernel
theorem dX8_doLine_33 : decode cX8_doLine 33 = .ok (.ifCond .ne 7, 3) := by decide +kernel
theorem dX8_doLine_36 : decode cX8_doLine 36 = .ok (.iconst 1, 1) := by decide +kernel
theorem dX8_doLine_37 : decode cX8_doLine 37 = .ok (.goto 4, 3) := by decide +kernel
theorem dX8_doLine_40 : decode cX8_doLine 40 = .ok (.iconst 0, 1) := by decide +kernel
theorem dX8_doLine_41 : decode cX8_doLine 41 = .ok (.istore_n 3, 1) := by decide +kernel
theorem dX8_doLine_42 : decode cX8_doLine 42 = .ok (.aload_n 0, 1) := by decide +kernel
theorem dX8_doLine_43 : decode cX8_doLine 43 = .ok (.aload_n 0, 1) := by decide +kernel
theorem dX8_doLine_44 : decode cX8_doLine 44 = .ok (.invokevirtual 26, 3) := by decide +kernel
theorem dX8_doLine_47 : decode cX8_doLine 47 = .ok (.iload_n 1, 1) := by decide +kernel
theorem dX8_doLine_48 : decode cX8_doLine 48 = .ok (.iconst 0, 1) := by decide +kernel
theorem dX8_doLine_49 : decode cX8_doLine 49 = .ok (.iload_n 3, 1) := by decide +kernel
theorem dX8_doLine_50 : decode cX8_doLine 50 = .ok (.invokevirtual 84, 3) := by decide +kernel
theorem dX8_doLine_53 : decode cX8_doLine 53 = .ok (.aload_n 0, 1) := by decide +kernel
theorem dX8_doLine_54 : decode cX8_doLine 54 = .ok (.aload_n 0, 1) := by decide +kernel
theorem dX8_doLine_55 : decode cX8_doLine 55 = .ok (.invokevirtual 26, 3) := by decide +kernel
theorem dX8_doLine_58 : decode cX8_doLine 58 = .ok (.iload_n 1, 1) := by decide +kernel
theorem dX8_doLine_59 : decode cX8_doLine 59 = .ok (.iconst 5, 1) := by decide +kernel
theorem dX8_doLine_60 : decode cX8_doLine 60 = .ok (.iload_n 3, 1) := by decide +kernel
theorem dX8_doLine_61 : decode cX8_doLine 61 = .ok (.iconst 3, 1) := by decide +kernel
theorem dX8_doLine_62 : decode cX8_doLine 62 = .ok (.if_icmp .ne 12, 3) := by decide +kernel
theorem dX8_doLine_65 : decode cX8_doLine 65 = .ok (.aload_n 0, 1) := by decide +kernel
theorem dX8_doLine_66 : decode cX8_doLine 66 = .ok (.getfield 7, 3) := by decide +kernel
theorem dX8_doLine_69 : decode cX8_doLine 69 = .ok (.iconst 0, 1) := by decide +kernel
theorem dX8_doLine_70 : decode cX8_doLine 70 = .ok (.iaload, 1) := by decide +kernel
theorem dX8_doLine_71 : decode cX8_doLine 71 = .ok (.goto 4, 3) := by decide +kernel
theorem dX8_doLine_74 : decode cX8_doLine 74 = .ok (.iconst 0, 1) := by decide +kernel
theorem dX8_doLine_75 : decode cX8_doLine 75 = .ok (.invokevirtual 84, 3) := by decide +kernel
theorem dX8_doLine_78 : decode cX8_doLine 78 = .ok (.iload_n 3, 1) := by decide +kernel
theorem dX8_doLine_79 : decode cX8_doLine 79 = .ok (.ireturn, 1) := by decide +kernel
theorem dX8_buoyError_0 : decode cX8_buoyError 0 = .ok (.aload_n 0, 1) := by decide +kernel
theorem dX8_buoyError_1 : decode cX8_buoyError 1 = .ok (.iload_n 1, 1) := by decide +kernel
theorem dX8_buoyError_2 : decode cX8_buoyError 2 = .ok (.invokevirtual 105, 3) := by decide +kernel
theorem dX8_buoyError_5 : decode cX8_buoyError 5 = .ok (.ifCond .ne 5, 3) := by decide +kernel
theorem dX8_buoyError_8 : decode cX8_buoyError 8 = .ok (.iconst (-1), 1) := by decide +kernel
theorem dX8_buoyError_9 : decode cX8_buoyError 9 = .ok (.ireturn, 1) := by decide +kernel
theorem dX8_buoyError_10 : decode cX8_buoyError 10 = .ok (.aload_n 0, 1) := by decide +kernel
theorem dX8_buoyError_11 : decode cX8_buoyError 11 = .ok (.invokevirtual 88, 3) := by decide +kernel
theorem dX8_buoyError_14 : decode cX8_buoyError 14 = .ok (.ifCond .eq 22, 3) := by decide +kernel
theorem dX8_buoyError_17 : decode cX8_buoyError 17 = .ok (.iload_n 2, 1) := by decide +kernel
theorem dX8_buoyError_18 : decode cX8_buoyError 18 = .ok (.iconst 0, 1) := by decide +kernel
theorem dX8_buoyError_19 : decode cX8_buoyError 19 = .ok (.aload_n 0, 1) := by decide +kernel
theorem dX8_buoyError_20 : decode cX8_buoyError 20 = .ok (.aload_n 0, 1) := by decide +kernel
theorem dX8_buoyError_21 : decode cX8_buoyError 21 = .ok (.invokevirtual 26, 3) := by decide +kernel
theorem dX8_buoyError_24 : decode cX8_buoyError 24 = .ok (.iconst 0, 1) := by decide +kernel
theorem dX8_buoyError_25 : decode cX8_buoyError 25 = .ok (.invokevirtual 30, 3) := by decide +kernel
theorem dX8_buoyError_28 : decode cX8_buoyError 28 = .ok (.iconst 1, 1) := by decide +kernel
theorem dX8_buoyError_29 : decode cX8_buoyError 29 = .ok (.isub, 1) := by decide +kernel
theorem dX8_buoyError_30 : decode cX8_buoyError 30 = .ok (.invokestatic 22, 3) := by decide +kernel
theorem dX8_buoyError_33 : decode cX8_buoyError 33 = .ok (.ifCond .ne 6, 3) := by decide +kernel
theorem dX8_buoyError_36 : decode cX8_buoyError 36 = .ok (.bipush (-2), 2) := by decide +kernel
theorem dX8_buoyError_38 : decode cX8_buoyError 38 = .ok (.ireturn, 1) := by decide +kernel
theorem dX8_buoyError_39 : decode cX8_buoyError 39 = .ok (.aload_n 0, 1) := by decide +kernel
theorem dX8_buoyError_40 : decode cX8_buoyError 40 = .ok (.iload_n 1, 1) := by decide +kernel
theorem dX8_buoyError_41 : decode cX8_buoyError 41 = .ok (.invokevirtual 109, 3) := by decide +kernel
theorem dX8_buoyError_44 : decode cX8_buoyError 44 = .ok (.iconst 2, 1) := by decide +kernel
theorem dX8_buoyError_45 : decode cX8_buoyError 45 = .ok (.if_icmp .ne 7, 3) := by decide +kernel
theorem dX8_buoyError_48 : decode cX8_buoyError 48 = .ok (.iconst 0, 1) := by decide +kernel
theorem dX8_buoyError_49 : decode cX8_buoyError 49 = .ok (.goto 5, 3) := by decide +kernel
theorem dX8_buoyError_52 : decode cX8_buoyError 52 = .ok (.bipush (-4), 2) := by decide +kernel
theorem dX8_buoyError_54 : decode cX8_buoyError 54 = .ok (.ireturn, 1) := by decide +kernel
theorem dX8_doBuoy_0 : decode cX8_doBuoy 0 = .ok (.aload_n 0, 1) := by decide +kernel
theorem dX8_doBuoy_1 : decode cX8_doBuoy 1 = .ok (.aload_n 0, 1) := by decide +kernel
theorem dX8_doBuoy_2 : decode cX8_doBuoy 2 = .ok (.invokevirtual 26, 3) := by decide +kernel
theorem dX8_doBuoy_5 : decode cX8_doBuoy 5 = .ok (.iload_n 1, 1) := by decide +kernel
theorem dX8_doBuoy_6 : decode cX8_doBuoy 6 = .ok (.iconst 1, 1) := by decide +kernel
theorem dX8_doBuoy_7 : decode cX8_doBuoy 7 = .ok (.invokevirtual 34, 3) := by decide +kernel
theorem dX8_doBuoy_10 : decode cX8_doBuoy 10 = .ok (.istore_n 3, 1) := by decide +kernel
theorem dX8_doBuoy_11 : decode cX8_doBuoy 11 = .ok (.aload_n 0, 1) := by decide +kernel
theorem dX8_doBuoy_12 : decode cX8_doBuoy 12 = .ok (.iload_n 1, 1) := by decide +kernel
theorem dX8_doBuoy_13 : decode cX8_doBuoy 13 = .ok (.invokevirtual 112, 3) := by decide +kernel
theorem dX8_doBuoy_16 : decode cX8_doBuoy 16 = .ok (.ifCond .ne 35, 3) := by decide +kernel
theorem dX8_doBuoy_19 : decode cX8_doBuoy 19 = .ok (.iload_n 3, 1) := by decide +kernel
theorem dX8_doBuoy_20 : decode cX8_doBuoy 20 = .ok (.aload_n 0, 1) := by decide +kernel
theorem dX8_doBuoy_21 : decode cX8_doBuoy 21 = .ok (.aload_n 0, 1) := by decide +kernel
theorem dX8_doBuoy_22 : decode cX8_doBuoy 22 = .ok (.invokevirtual 26, 3) := by decide +kernel
theorem dX8_doBuoy_25 : decode cX8_doBuoy 25 = .ok (.iconst 0, 1) := by decide +kernel
theorem dX8_doBuoy_26 : decode cX8_doBuoy 26 = .ok (.invokevirtual 30, 3) := by decide +kernel
theorem dX8_doBuoy_29 : decode cX8_doBuoy 29 = .ok (.irem, 1) := by decide +kernel
theorem dX8_doBuoy_30 : decode cX8_doBuoy 30 = .ok (.iload_n 2, 1) := by decide +kernel
theorem dX8_doBuoy_31 : decode cX8_doBuoy 31 = .ok (.if_icmp .ne 20, 3) := by decide +kernel
theorem dX8_doBuoy_34 : decode cX8_doBuoy 34 = .ok (.aload_n 0, 1) := by decide +kernel
theorem dX8_doBuoy_35 : decode cX8_doBuoy 35 = .ok (.aload_n 0, 1) := by decide +kernel
theorem dX8_doBuoy_36 : decode cX8_doBuoy 36 = .ok (.invokevirtual 26, 3) := by decide +kernel
theorem dX8_doBuoy_39 : decode cX8_doBuoy 39 = .ok (.iload_n 1, 1) := by decide +kernel
theorem dX8_doBuoy_40 : decode cX8_doBuoy 40 = .ok (.iconst 1, 1) := by decide +kernel
theorem dX8_doBuoy_41 : decode cX8_doBuoy 41 = .ok (.iload_n 3, 1) := by decide +kernel
theorem dX8_doBuoy_42 : decode cX8_doBuoy 42 = .ok (.iconst 1, 1) := by decide +kernel
theorem dX8_doBuoy_43 : decode cX8_doBuoy 43 = .ok (.iadd, 1) := by decide +kernel
theorem dX8_doBuoy_44 : decode cX8_doBuoy 44 = .ok (.invokevirtual 84, 3) := by decide +kernel
theorem dX8_doBuoy_47 : decode cX8_doBuoy 47 = .ok (.iload_n 3, 1) := by decide +kernel
theorem dX8_doBuoy_48 : decode cX8_doBuoy 48 = .ok (.iconst 1, 1) := by decide +kernel
theorem dX8_doBuoy_49 : decode cX8_doBuoy 49 = .ok (.iadd, 1) := by decide +kernel
theorem dX8_doBuoy_50 : decode cX8_doBuoy 50 = .ok (.ireturn, 1) := by decide +kernel
theorem dX8_doBuoy_51 : decode cX8_doBuoy 51 = .ok (.aload_n 0, 1) := by decide +kernel
theorem dX8_doBuoy_52 : decode cX8_doBuoy 52 = .ok (.aload_n 0, 1) := by decide +kernel
theorem dX8_doBuoy_53 : decode cX8_doBuoy 53 = .ok (.invokevirtual 26, 3) := by decide +kernel
theorem dX8_doBuoy_56 : decode cX8_doBuoy 56 = .ok (.iload_n 1, 1) := by decide +kernel
theorem dX8_doBuoy_57 : decode cX8_doBuoy 57 = .ok (.iconst 2, 1) := by decide +kernel
theorem dX8_doBuoy_58 : decode cX8_doBuoy 58 = .ok (.aload_n 0, 1) := by decide +kernel
theorem dX8_doBuoy_59 : decode cX8_doBuoy 59 = .ok (.aload_n 0, 1) := by decide +kernel
theorem dX8_doBuoy_60 : decode cX8_doBuoy 60 = .ok (.invokevirtual 26, 3) := by decide +kernel
theorem dX8_doBuoy_63 : decode cX8_doBuoy 63 = .ok (.iload_n 1, 1) := by decide +kernel
theorem dX8_doBuoy_64 : decode cX8_doBuoy 64 = .ok (.iconst 2, 1) := by decide +kernel
theorem dX8_doBuoy_65 : decode cX8_doBuoy 65 = .ok (.invokevirtual 34, 3) := by decide +kernel
theorem dX8_doBuoy_68 : decode cX8_doBuoy 68 = .ok (.iconst 1, 1) := by decide +kernel
theorem dX8_doBuoy_69 : decode cX8_doBuoy 69 = .ok (.iadd, 1) := by decide +kernel
theorem dX8_doBuoy_70 : decode cX8_doBuoy 70 = .ok (.invokevirtual 84, 3) := by decide +kernel
theorem dX8_doBuoy_73 : decode cX8_doBuoy 73 = .ok (.iload_n 3, 1) := by decide +kernel
theorem dX8_doBuoy_74 : decode cX8_doBuoy 74 = .ok (.ireturn, 1) := by decide +kernel
theorem dX8_retireError_0 : decode cX8_retireError 0 = .ok (.aload_n 0, 1) := by decide +kernel
theorem dX8_retireError_1 : decode cX8_retireError 1 = .ok (.iload_n 1, 1) := by decide +kernel
theorem dX8_retireError_2 : decode cX8_retireError 2 = .ok (.invokevirtual 105, 3) := by decide +kernel
theorem dX8_retireError_5 : decode cX8_retireError 5 = .ok (.ifCond .ne 7, 3) := by decide +kernel
theorem dX8_retireError_8 : decode cX8_retireError 8 = .ok (.iconst (-1), 1) := by decide +kernel
theorem dX8_retireError_9 : decode cX8_retireError 9 = .ok (.goto 25, 3) := by decide +kernel
theorem dX8_retireError_12 : decode cX8_retireError 12 = .ok (.aload_n 0, 1) := by decide +kernel
theorem dX8_retireError_13 : decode cX8_retireError 13 = .ok (.invokevirtual 88, 3) := by decide +kernel
theorem dX8_retireError_16 : decode cX8_retireError 16 = .ok (.ifCond .eq 16, 3) := by decide +kernel
theorem dX8_retireError_19 : decode cX8_retireError 19 = .ok (.aload_n 0, 1) := by decide +kernel
theorem dX8_retireError_20 : decode cX8_retireError 20 = .ok (.iload_n 1, 1) := by decide +kernel
theorem dX8_retireError_21 : decode cX8_retireError 21 = .ok (.invokevirtual 109, 3) := by decide +kernel
theorem dX8_retireError_24 : decode cX8_retireError 24 = .ok (.iconst 3, 1) := by decide +kernel
theorem dX8_retireError_25 : decode cX8_retireError 25 = .ok (.if_icmp .ge 7, 3) := by decide +kernel
theorem dX8_retireError_28 : decode cX8_retireError 28 = .ok (.iconst 0, 1) := by decide +kernel
theorem dX8_retireError_29 : decode cX8_retireError 29 = .ok (.goto 5, 3) := by decide +kernel
theorem dX8_retireError_32 : decode cX8_retireError 32 = .ok (.bipush (-4), 2) := by decide +kernel
theorem dX8_retireError_34 : decode cX8_retireError 34 = .ok (.ireturn, 1) := by decide +kernel
theorem dX8_doRetire_0 : decode cX8_doRetire 0 = .ok (.aload_n 0, 1) := by decide +kernel
theorem dX8_doRetire_1 : decode cX8_doRetire 1 = .ok (.iload_n 1, 1) := by decide +kernel
theorem dX8_doRetire_2 : decode cX8_doRetire 2 = .ok (.invokevirtual 109, 3) := by decide +kernel
theorem dX8_doRetire_5 : decode cX8_doRetire 5 = .ok (.istore_n 2, 1) := by decide +kernel
theorem dX8_doRetire_6 : decode cX8_doRetire 6 = .ok (.aload_n 0, 1) := by decide +kernel
theorem dX8_doRetire_7 : decode cX8_doRetire 7 = .ok (.aload_n 0, 1) := by decide +kernel
theorem dX8_doRetire_8 : decode cX8_doRetire 8 = .ok (.invokevirtual 26, 3) := by decide +kernel
theorem dX8_doRetire_11 : decode cX8_doRetire 11 = .ok (.iload_n 1, 1) := by decide +kernel
theorem dX8_doRetire_12 : decode cX8_doRetire 12 = .ok (.iconst 0, 1) := by decide +kernel
theorem dX8_doRetire_13 : decode cX8_doRetire 13 = .ok (.iconst 4, 1) := by decide +kernel
theorem dX8_doRetire_14 : decode cX8_doRetire 14 = .ok (.invokevirtual 84, 3) := by decide +kernel
theorem dX8_doRetire_17 : decode cX8_doRetire 17 = .ok (.iload_n 2, 1) := by decide +kernel
theorem dX8_doRetire_18 : decode cX8_doRetire 18 = .ok (.ireturn, 1) := by decide +kernel
theorem dX8_line_0 : decode cX8_line 0 = .ok (.aload_n 0, 1) := by decide +kernel
theorem dX8_line_1 : decode cX8_line 1 = .ok (.iload_n 1, 1) := by decide +kernel
theorem dX8_line_2 : decode cX8_line 2 = .ok (.invokevirtual 115, 3) := by decide +kernel
theorem dX8_line_5 : decode cX8_line 5 = .ok (.istore_n 2, 1) := by decide +kernel
theorem dX8_line_6 : decode cX8_line 6 = .ok (.iload_n 2, 1) := by decide +kernel
theorem dX8_line_7 : decode cX8_line 7 = .ok (.ifCond .ge 5, 3) := by decide +kernel
theorem dX8_line_10 : decode cX8_line 10 = .ok (.iload_n 2, 1) := by decide +kernel
theorem dX8_line_11 : decode cX8_line 11 = .ok (.ireturn, 1) := by decide +kernel
theorem dX8_line_12 : decode cX8_line 12 = .ok (.aload_n 0, 1) := by decide +kernel
theorem dX8_line_13 : decode cX8_line 13 = .ok (.invokevirtual 81, 3) := by decide +kernel
theorem dX8_line_16 : decode cX8_line 16 = .ok (.aload_n 0, 1) := by decide +kernel
theorem dX8_line_17 : decode cX8_line 17 = .ok (.iload_n 1, 1) := by decide +kernel
theorem dX8_line_18 : decode cX8_line 18 = .ok (.invokevirtual 118, 3) := by decide +kernel
theorem dX8_line_21 : decode cX8_line 21 = .ok (.ireturn, 1) := by decide +kernel
theorem dX8_buoy_0 : decode cX8_buoy 0 = .ok (.aload_n 0, 1) := by decide +kernel
theorem dX8_buoy_1 : decode cX8_buoy 1 = .ok (.iload_n 1, 1) := by decide +kernel
theorem dX8_buoy_2 : decode cX8_buoy 2 = .ok (.iload_n 2, 1) := by decide +kernel
theorem dX8_buoy_3 : decode cX8_buoy 3 = .ok (.invokevirtual 121, 3) := by decide +kernel
theorem dX8_buoy_6 : decode cX8_buoy 6 = .ok (.istore_n 3, 1) := by decide +kernel
theorem dX8_buoy_7 : decode cX8_buoy 7 = .ok (.iload_n 3, 1) := by decide +kernel
theorem dX8_buoy_8 : decode cX8_buoy 8 = .ok (.ifCond .ge 5, 3) := by decide +kernel
theorem dX8_buoy_11 : decode cX8_buoy 11 = .ok (.iload_n 3, 1) := by decide +kernel
theorem dX8_buoy_12 : decode cX8_buoy 12 = .ok (.ireturn, 1) := by decide +kernel
theorem dX8_buoy_13 : decode cX8_buoy 13 = .ok (.aload_n 0, 1) := by decide +kernel
theorem dX8_buoy_14 : decode cX8_buoy 14 = .ok (.invokevirtual 81, 3) := by decide +kernel
theorem dX8_buoy_17 : decode cX8_buoy 17 = .ok (.aload_n 0, 1) := by decide +kernel
theorem dX8_buoy_18 : decode cX8_buoy 18 = .ok (.iload_n 1, 1) := by decide +kernel
theorem dX8_buoy_19 : decode cX8_buoy 19 = .ok (.iload_n 2, 1) := by decide +kernel
theorem dX8_buoy_20 : decode cX8_buoy 20 = .ok (.invokevirtual 124, 3) := by decide +kernel
theorem dX8_buoy_23 : decode cX8_buoy 23 = .ok (.ireturn, 1) := by decide +kernel
theorem dX8_retire_0 : decode cX8_retire 0 = .ok (.aload_n 0, 1) := by decide +kernel
theorem dX8_retire_1 : decode cX8_retire 1 = .ok (.iload_n 1, 1) := by decide +kernel
theorem dX8_retire_2 : decode cX8_retire 2 = .ok (.invokevirtual 127, 3) := by decide +kernel
theorem dX8_retire_5 : decode cX8_retire 5 = .ok (.istore_n 2, 1) := by decide +kernel
theorem dX8_retire_6 : decode cX8_retire 6 = .ok (.iload_n 2, 1) := by decide +kernel
theorem dX8_retire_7 : decode cX8_retire 7 = .ok (.ifCond .ge 5, 3) := by decide +kernel
theorem dX8_retire_10 : decode cX8_retire 10 = .ok (.iload_n 2, 1) := by decide +kernel
theorem dX8_retire_11 : decode cX8_retire 11 = .ok (.ireturn, 1) := by decide +kernel
theorem dX8_retire_12 : decode cX8_retire 12 = .ok (.aload_n 0, 1) := by decide +kernel
theorem dX8_retire_13 : decode cX8_retire 13 = .ok (.invokevirtual 81, 3) := by decide +kernel
theorem dX8_retire_16 : decode cX8_retire 16 = .ok (.aload_n 0, 1) := by decide +kernel
theorem dX8_retire_17 : decode cX8_retire 17 = .ok (.iload_n 1, 1) := by decide +kernel
theorem dX8_retire_18 : decode cX8_retire 18 = .ok (.invokevirtual 130, 3) := by decide +kernel
theorem dX8_retire_21 : decode cX8_retire 21 = .ok (.ireturn, 1) := by decide +kernel
theorem dX8_close_0 : decode cX8_close 0 = .ok (.aload_n 0, 1) := by decide +kernel
theorem dX8_close_1 : decode cX8_close 1 = .ok (.invokevirtual 88, 3) := by decide +kernel
theorem dX8_close_4 : decode cX8_close 4 = .ok (.ifCond .eq 16, 3) := by decide +kernel
theorem dX8_close_7 : decode cX8_close 7 = .ok (.aload_n 0, 1) := by decide +kernel
theorem dX8_close_8 : decode cX8_close 8 = .ok (.getfield 7, 3) := by decide +kernel
theorem dX8_close_11 : decode cX8_close 11 = .ok (.iconst 0, 1) := by decide +kernel
theorem dX8_close_12 : decode cX8_close 12 = .ok (.iaload, 1) := by decide +kernel
theorem dX8_close_13 : decode cX8_close 13 = .ok (.aload_n 0, 1) := by decide +kernel
theorem dX8_close_14 : decode cX8_close 14 = .ok (.invokevirtual 95, 3) := by decide +kernel
theorem dX8_close_17 : decode cX8_close 17 = .ok (.if_icmp .ge 6, 3) := by decide +kernel
theorem dX8_close_20 : decode cX8_close 20 = .ok (.bipush (-4), 2) := by decide +kernel
theorem dX8_close_22 : decode cX8_close 22 = .ok (.ireturn, 1) := by decide +kernel
theorem dX8_close_23 : decode cX8_close 23 = .ok (.aload_n 0, 1) := by decide +kernel
theorem dX8_close_24 : decode cX8_close 24 = .ok (.invokevirtual 81, 3) := by decide +kernel
theorem dX8_close_27 : decode cX8_close 27 = .ok (.aload_n 0, 1) := by decide +kernel
theorem dX8_close_28 : decode cX8_close 28 = .ok (.getfield 7, 3) := by decide +kernel
theorem dX8_close_31 : decode cX8_close 31 = .ok (.bipush 16, 2) := by decide +kernel
theorem dX8_close_33 : decode cX8_close 33 = .ok (.iconst 4, 1) := by decide +kernel
theorem dX8_close_34 : decode cX8_close 34 = .ok (.aload_n 0, 1) := by decide +kernel
theorem dX8_close_35 : decode cX8_close 35 = .ok (.invokevirtual 26, 3) := by decide +kernel
theorem dX8_close_38 : decode cX8_close 38 = .ok (.imul, 1) := by decide +kernel
theorem dX8_close_39 : decode cX8_close 39 = .ok (.iadd, 1) := by decide +kernel
theorem dX8_close_40 : decode cX8_close 40 = .ok (.iconst 3, 1) := by decide +kernel
theorem dX8_close_41 : decode cX8_close 41 = .ok (.iadd, 1) := by decide +kernel
theorem dX8_close_42 : decode cX8_close 42 = .ok (.iconst 1, 1) := by decide +kernel
theorem dX8_close_43 : decode cX8_close 43 = .ok (.iastore, 1) := by decide +kernel
theorem dX8_close_44 : decode cX8_close 44 = .ok (.aload_n 0, 1) := by decide +kernel
theorem dX8_close_45 : decode cX8_close 45 = .ok (.aload_n 0, 1) := by decide +kernel
theorem dX8_close_46 : decode cX8_close 46 = .ok (.invokevirtual 26, 3) := by decide +kernel
theorem dX8_close_49 : decode cX8_close 49 = .ok (.invokevirtual 133, 3) := by decide +kernel
theorem dX8_close_52 : decode cX8_close 52 = .ok (.ireturn, 1) := by decide +kernel
theorem dX8_isOnWater_0 : decode cX8_isOnWater 0 = .ok (.aload_n 0, 1) := by decide +kernel
theorem dX8_isOnWater_1 : decode cX8_isOnWater 1 = .ok (.iload_n 1, 1) := by decide +kernel
theorem dX8_isOnWater_2 : decode cX8_isOnWater 2 = .ok (.invokevirtual 109, 3) := by decide +kernel
theorem dX8_isOnWater_5 : decode cX8_isOnWater 5 = .ok (.iconst 2, 1) := by decide +kernel
theorem dX8_isOnWater_6 : decode cX8_isOnWater 6 = .ok (.iconst 3, 1) := by decide +kernel
theorem dX8_isOnWater_7 : decode cX8_isOnWater 7 = .ok (.invokestatic 22, 3) := by decide +kernel
theorem dX8_isOnWater_10 : decode cX8_isOnWater 10 = .ok (.ireturn, 1) := by decide +kernel
theorem dX8_hailError_0 : decode cX8_hailError 0 = .ok (.aload_n 0, 1) := by decide +kernel
theorem dX8_hailError_1 : decode cX8_hailError 1 = .ok (.iload_n 1, 1) := by decide +kernel
theorem dX8_hailError_2 : decode cX8_hailError 2 = .ok (.invokevirtual 105, 3) := by decide +kernel
theorem dX8_hailError_5 : decode cX8_hailError 5 = .ok (.ifCond .eq 11, 3) := by decide +kernel
theorem dX8_hailError_8 : decode cX8_hailError 8 = .ok (.aload_n 0, 1) := by decide +kernel
theorem dX8_hailError_9 : decode cX8_hailError 9 = .ok (.iload_n 2, 1) := by decide +kernel
theorem dX8_hailError_10 : decode cX8_hailError 10 = .ok (.invokevirtual 105, 3) := by decide +kernel
theorem dX8_hailError_13 : decode cX8_hailError 13 = .ok (.ifCond .ne 5, 3) := by decide +kernel
theorem dX8_hailError_16 : decode cX8_hailError 16 = .ok (.iconst (-1), 1) := by decide +kernel
theorem dX8_hailError_17 : decode cX8_hailError 17 = .ok (.ireturn, 1) := by decide +kernel
theorem dX8_hailError_18 : decode cX8_hailError 18 = .ok (.iload_n 1, 1) := by decide +kernel
theorem dX8_hailError_19 : decode cX8_hailError 19 = .ok (.iload_n 2, 1) := by decide +kernel
theorem dX8_hailError_20 : decode cX8_hailError 20 = .ok (.if_icmp .ne 6, 3) := by decide +kernel
theorem dX8_hailError_23 : decode cX8_hailError 23 = .ok (.bipush (-2), 2) := by decide +kernel
theorem dX8_hailError_25 : decode cX8_hailError 25 = .ok (.ireturn, 1) := by decide +kernel
theorem dX8_hailError_26 : decode cX8_hailError 26 = .ok (.aload_n 0, 1) := by decide +kernel
theorem dX8_hailError_27 : decode cX8_hailError 27 = .ok (.invokevirtual 88, 3) := by decide +kernel
theorem dX8_hailError_30 : decode cX8_hailError 30 = .ok (.ifCond .eq 19, 3) := by decide +kernel
theorem dX8_hailError_33 : decode cX8_hailError 33 = .ok (.aload_n 0, 1) := by decide +kernel
theorem dX8_hailError_34 : decode cX8_hailError 34 = .ok (.iload_n 1, 1) := by decide +kernel
theorem dX8_hailError_35 : decode cX8_hailError 35 = .ok (.invokevirtual 136, 3) := by decide +kernel
theorem dX8_hailError_38 : decode cX8_hailError 38 = .ok (.ifCond .eq 11, 3) := by decide +kernel
theorem dX8_hailError_41 : decode cX8_hailError 41 = .ok (.aload_n 0, 1) := by decide +kernel
theorem dX8_hailError_42 : decode cX8_hailError 42 = .ok (.iload_n 2, 1) := by decide +kernel
theorem dX8_hailError_43 : decode cX8_hailError 43 = .ok (.invokevirtual 136, 3) := by decide +kernel
theorem dX8_hailError_46 : decode cX8_hailError 46 = .ok (.ifCond .ne 6, 3) := by decide +kernel
theorem dX8_hailError_49 : decode cX8_hailError 49 = .ok (.bipush (-4), 2) := by decide +kernel
theorem dX8_hailError_51 : decode cX8_hailError 51 = .ok (.ireturn, 1) := by decide +kernel
theorem dX8_hailError_52 : decode cX8_hailError 52 = .ok (.aload_n 0, 1) := by decide +kernel
theorem dX8_hailError_53 : decode cX8_hailError 53 = .ok (.getfield 7, 3) := by decide +kernel
theorem dX8_hailError_56 : decode cX8_hailError 56 = .ok (.iconst 3, 1) := by decide +kernel
theorem dX8_hailError_57 : decode cX8_hailError 57 = .ok (.iaload, 1) := by decide +kernel
theorem dX8_hailError_58 : decode cX8_hailError 58 = .ok (.bipush 10, 2) := by decide +kernel
theorem dX8_hailError_60 : decode cX8_hailError 60 = .ok (.if_icmp .ne 8, 3) := by decide +kernel
theorem dX8_hailError_63 : decode cX8_hailError 63 = .ok (.bipush (-3), 2) := by decide +kernel
theorem dX8_hailError_65 : decode cX8_hailError 65 = .ok (.goto 4, 3) := by decide +kernel
theorem dX8_hailError_68 : decode cX8_hailError 68 = .ok (.iconst 0, 1) := by decide +kernel
theorem dX8_hailError_69 : decode cX8_hailError 69 = .ok (.ireturn, 1) := by decide +kernel
theorem dX8_doHail_0 : decode cX8_doHail 0 = .ok (.bipush 40, 2) := by decide +kernel
theorem dX8_doHail_2 : decode cX8_doHail 2 = .ok (.iconst 4, 1) := by decide +kernel
theorem dX8_doHail_3 : decode cX8_doHail 3 = .ok (.aload_n 0, 1) := by decide +kernel
theorem dX8_doHail_4 : decode cX8_doHail 4 = .ok (.getfield 7, 3) := by decide +kernel
theorem dX8_doHail_7 : decode cX8_doHail 7 = .ok (.iconst 3, 1) := by decide +kernel
theorem dX8_doHail_8 : decode cX8_doHail 8 = .ok (.iaload, 1) := by decide +kernel
theorem dX8_doHail_9 : decode cX8_doHail 9 = .ok (.imul, 1) := by decide +kernel
theorem dX8_doHail_10 : decode cX8_doHail 10 = .ok (.iadd, 1) := by decide +kernel
theorem dX8_doHail_11 : decode cX8_doHail 11 = .ok (.istore_n 3, 1) := by decide +kernel
theorem dX8_doHail_12 : decode cX8_doHail 12 = .ok (.aload_n 0, 1) := by decide +kernel
theorem dX8_doHail_13 : decode cX8_doHail 13 = .ok (.getfield 7, 3) := by decide +kernel
theorem dX8_doHail_16 : decode cX8_doHail 16 = .ok (.iload_n 3, 1) := by decide +kernel
theorem dX8_doHail_17 : decode cX8_doHail 17 = .ok (.iconst 0, 1) := by decide +kernel
theorem dX8_doHail_18 : decode cX8_doHail 18 = .ok (.iadd, 1) := by decide +kernel
theorem dX8_doHail_19 : decode cX8_doHail 19 = .ok (.iload_n 1, 1) := by decide +kernel
theorem dX8_doHail_20 : decode cX8_doHail 20 = .ok (.iastore, 1) := by decide +kernel
theorem dX8_doHail_21 : decode cX8_doHail 21 = .ok (.aload_n 0, 1) := by decide +kernel
theorem dX8_doHail_22 : decode cX8_doHail 22 = .ok (.getfield 7, 3) := by decide +kernel
theorem dX8_doHail_25 : decode cX8_doHail 25 = .ok (.iload_n 3, 1) := by decide +kernel
theorem dX8_doHail_26 : decode cX8_doHail 26 = .ok (.iconst 1, 1) := by decide +kernel
theorem dX8_doHail_27 : decode cX8_doHail 27 = .ok (.iadd, 1) := by decide +kernel
theorem dX8_doHail_28 : decode cX8_doHail 28 = .ok (.iload_n 2, 1) := by decide +kernel
theorem dX8_doHail_29 : decode cX8_doHail 29 = .ok (.iastore, 1) := by decide +kernel
theorem dX8_doHail_30 : decode cX8_doHail 30 = .ok (.aload_n 0, 1) := by decide +kernel
theorem dX8_doHail_31 : decode cX8_doHail 31 = .ok (.getfield 7, 3) := by decide +kernel
theorem dX8_doHail_34 : decode cX8_doHail 34 = .ok (.iload_n 3, 1) := by decide +kernel
theorem dX8_doHail_35 : decode cX8_doHail 35 = .ok (.iconst 2, 1) := by decide +kernel
theorem dX8_doHail_36 : decode cX8_doHail 36 = .ok (.iadd, 1) := by decide +kernel
theorem dX8_doHail_37 : decode cX8_doHail 37 = .ok (.aload_n 0, 1) := by decide +kernel
theorem dX8_doHail_38 : decode cX8_doHail 38 = .ok (.getfield 7, 3) := by decide +kernel
theorem dX8_doHail_41 : decode cX8_doHail 41 = .ok (.iconst 0, 1) := by decide +kernel
theorem dX8_doHail_42 : decode cX8_doHail 42 = .ok (.iaload, 1) := by decide +kernel
theorem dX8_doHail_43 : decode cX8_doHail 43 = .ok (.iastore, 1) := by decide +kernel
theorem dX8_doHail_44 : decode cX8_doHail 44 = .ok (.aload_n 0, 1) := by decide +kernel
theorem dX8_doHail_45 : decode cX8_doHail 45 = .ok (.getfield 7, 3) := by decide +kernel
theorem dX8_doHail_48 : decode cX8_doHail 48 = .ok (.iload_n 3, 1) := by decide +kernel
theorem dX8_doHail_49 : decode cX8_doHail 49 = .ok (.iconst 3, 1) := by decide +kernel
theorem dX8_doHail_50 : decode cX8_doHail 50 = .ok (.iadd, 1) := by decide +kernel
theorem dX8_doHail_51 : decode cX8_doHail 51 = .ok (.iconst 0, 1) := by decide +kernel
theorem dX8_doHail_52 : decode cX8_doHail 52 = .ok (.iastore, 1) := by decide +kernel
theorem dX8_doHail_53 : decode cX8_doHail 53 = .ok (.aload_n 0, 1) := by decide +kernel
theorem dX8_doHail_54 : decode cX8_doHail 54 = .ok (.getfield 7, 3) := by decide +kernel
theorem dX8_doHail_57 : decode cX8_doHail 57 = .ok (.iconst 3, 1) := by decide +kernel
theorem dX8_doHail_58 : decode cX8_doHail 58 = .ok (.dup2, 1) := by decide +kernel
theorem dX8_doHail_59 : decode cX8_doHail 59 = .ok (.iaload, 1) := by decide +kernel
theorem dX8_doHail_60 : decode cX8_doHail 60 = .ok (.iconst 1, 1) := by decide +kernel
theorem dX8_doHail_61 : decode cX8_doHail 61 = .ok (.iadd, 1) := by decide +kernel
theorem dX8_doHail_62 : decode cX8_doHail 62 = .ok (.iastore, 1) := by decide +kernel
theorem dX8_doHail_63 : decode cX8_doHail 63 = .ok (.aload_n 0, 1) := by decide +kernel
theorem dX8_doHail_64 : decode cX8_doHail 64 = .ok (.getfield 7, 3) := by decide +kernel
theorem dX8_doHail_67 : decode cX8_doHail 67 = .ok (.iconst 3, 1) := by decide +kernel
theorem dX8_doHail_68 : decode cX8_doHail 68 = .ok (.iaload, 1) := by decide +kernel
theorem dX8_doHail_69 : decode cX8_doHail 69 = .ok (.iconst 1, 1) := by decide +kernel
theorem dX8_doHail_70 : decode cX8_doHail 70 = .ok (.isub, 1) := by decide +kernel
theorem dX8_doHail_71 : decode cX8_doHail 71 = .ok (.ireturn, 1) := by decide +kernel
theorem dX8_hail_0 : decode cX8_hail 0 = .ok (.aload_n 0, 1) := by decide +kernel
theorem dX8_hail_1 : decode cX8_hail 1 = .ok (.iload_n 1, 1) := by decide +kernel
theorem dX8_hail_2 : decode cX8_hail 2 = .ok (.iload_n 2, 1) := by decide +kernel
theorem dX8_hail_3 : decode cX8_hail 3 = .ok (.invokevirtual 139, 3) := by decide +kernel
theorem dX8_hail_6 : decode cX8_hail 6 = .ok (.istore_n 3, 1) := by decide +kernel
theorem dX8_hail_7 : decode cX8_hail 7 = .ok (.iload_n 3, 1) := by decide +kernel
theorem dX8_hail_8 : decode cX8_hail 8 = .ok (.ifCond .ge 5, 3) := by decide +kernel
theorem dX8_hail_11 : decode cX8_hail 11 = .ok (.iload_n 3, 1) := by decide +kernel
theorem dX8_hail_12 : decode cX8_hail 12 = .ok (.ireturn, 1) := by decide +kernel
theorem dX8_hail_13 : decode cX8_hail 13 = .ok (.aload_n 0, 1) := by decide +kernel
theorem dX8_hail_14 : decode cX8_hail 14 = .ok (.invokevirtual 81, 3) := by decide +kernel
theorem dX8_hail_17 : decode cX8_hail 17 = .ok (.aload_n 0, 1) := by decide +kernel
theorem dX8_hail_18 : decode cX8_hail 18 = .ok (.iload_n 1, 1) := by decide +kernel
theorem dX8_hail_19 : decode cX8_hail 19 = .ok (.iload_n 2, 1) := by decide +kernel
theorem dX8_hail_20 : decode cX8_hail 20 = .ok (.invokevirtual 142, 3) := by decide +kernel
theorem dX8_hail_23 : decode cX8_hail 23 = .ok (.ireturn, 1) := by decide +kernel
theorem dX8_stage_0 : decode cX8_stage 0 = .ok (.aload_n 0, 1) := by decide +kernel
theorem dX8_stage_1 : decode cX8_stage 1 = .ok (.getfield 7, 3) := by decide +kernel
theorem dX8_stage_4 : decode cX8_stage 4 = .ok (.bipush 40, 2) := by decide +kernel
theorem dX8_stage_6 : decode cX8_stage 6 = .ok (.iconst 4, 1) := by decide +kernel
theorem dX8_stage_7 : decode cX8_stage 7 = .ok (.iload_n 1, 1) := by decide +kernel
theorem dX8_stage_8 : decode cX8_stage 8 = .ok (.imul, 1) := by decide +kernel
theorem dX8_stage_9 : decode cX8_stage 9 = .ok (.iadd, 1) := by decide +kernel
theorem dX8_stage_10 : decode cX8_stage 10 = .ok (.iconst 3, 1) := by decide +kernel
theorem dX8_stage_11 : decode cX8_stage 11 = .ok (.iadd, 1) := by decide +kernel
theorem dX8_stage_12 : decode cX8_stage 12 = .ok (.iload_n 2, 1) := by decide +kernel
theorem dX8_stage_13 : decode cX8_stage 13 = .ok (.iastore, 1) := by decide +kernel
theorem dX8_stage_14 : decode cX8_stage 14 = .ok (.return_, 1) := by decide +kernel
theorem dX8_file_0 : decode cX8_file 0 = .ok (.aload_n 0, 1) := by decide +kernel
theorem dX8_file_1 : decode cX8_file 1 = .ok (.iload_n 1, 1) := by decide +kernel
theorem dX8_file_2 : decode cX8_file 2 = .ok (.invokevirtual 145, 3) := by decide +kernel
theorem dX8_file_5 : decode cX8_file 5 = .ok (.ifCond .ne 5, 3) := by decide +kernel
theorem dX8_file_8 : decode cX8_file 8 = .ok (.iconst (-1), 1) := by decide +kernel
theorem dX8_file_9 : decode cX8_file 9 = .ok (.ireturn, 1) := by decide +kernel
theorem dX8_file_10 : decode cX8_file 10 = .ok (.aload_n 0, 1) := by decide +kernel
theorem dX8_file_11 : decode cX8_file 11 = .ok (.iload_n 1, 1) := by decide +kernel
theorem dX8_file_12 : decode cX8_file 12 = .ok (.iconst 0, 1) := by decide +kernel
theorem dX8_file_13 : decode cX8_file 13 = .ok (.invokevirtual 148, 3) := by decide +kernel
theorem dX8_file_16 : decode cX8_file 16 = .ok (.istore_n 2, 1) := by decide +kernel
theorem dX8_file_17 : decode cX8_file 17 = .ok (.aload_n 0, 1) := by decide +kernel
theorem dX8_file_18 : decode cX8_file 18 = .ok (.aload_n 0, 1) := by decide +kernel
theorem dX8_file_19 : decode cX8_file 19 = .ok (.invokevirtual 26, 3) := by decide +kernel
theorem dX8_file_22 : decode cX8_file 22 = .ok (.iload_n 2, 1) := by decide +kernel
theorem dX8_file_23 : decode cX8_file 23 = .ok (.iconst 5, 1) := by decide +kernel
theorem dX8_file_24 : decode cX8_file 24 = .ok (.invokevirtual 34, 3) := by decide +kernel
theorem dX8_file_27 : decode cX8_file 27 = .ok (.aload_n 0, 1) := by decide +kernel
theorem dX8_file_28 : decode cX8_file 28 = .ok (.getfield 7, 3) := by decide +kernel
theorem dX8_file_31 : decode cX8_file 31 = .ok (.iconst 4, 1) := by decide +kernel
theorem dX8_file_32 : decode cX8_file 32 = .ok (.iaload, 1) := by decide +kernel
theorem dX8_file_33 : decode cX8_file 33 = .ok (.iadd, 1) := by decide +kernel
theorem dX8_file_34 : decode cX8_file 34 = .ok (.aload_n 0, 1) := by decide +kernel
theorem dX8_file_35 : decode cX8_file 35 = .ok (.getfield 7, 3) := by decide +kernel
theorem dX8_file_38 : decode cX8_file 38 = .ok (.iconst 0, 1) := by decide +kernel
theorem dX8_file_39 : decode cX8_file 39 = .ok (.iaload, 1) := by decide +kernel
theorem dX8_file_40 : decode cX8_file 40 = .ok (.isub, 1) := by decide +kernel
theorem dX8_file_41 : decode cX8_file 41 = .ok (.istore_n 3, 1) := by decide +kernel
theorem dX8_file_42 : decode cX8_file 42 = .ok (.aload_n 0, 1) := by decide +kernel
theorem dX8_file_43 : decode cX8_file 43 = .ok (.iload_n 1, 1) := by decide +kernel
theorem dX8_file_44 : decode cX8_file 44 = .ok (.iconst 3, 1) := by decide +kernel
theorem dX8_file_45 : decode cX8_file 45 = .ok (.invokevirtual 148, 3) := by decide +kernel
theorem dX8_file_48 : decode cX8_file 48 = .ok (.ifCond .ne 16, 3) := by decide +kernel
theorem dX8_file_51 : decode cX8_file 51 = .ok (.aload_n 0, 1) := by decide +kernel
theorem dX8_file_52 : decode cX8_file 52 = .ok (.iload_n 2, 1) := by decide +kernel
theorem dX8_file_53 : decode cX8_file 53 = .ok (.invokevirtual 109, 3) := by decide +kernel
theorem dX8_file_56 : decode cX8_file 56 = .ok (.iconst 3, 1) := by decide +kernel
theorem dX8_file_57 : decode cX8_file 57 = .ok (.if_icmp .ne 7, 3) := by decide +kernel
theorem dX8_file_60 : decode cX8_file 60 = .ok (.iload_n 3, 1) := by decide +kernel
theorem dX8_file_61 : decode cX8_file 61 = .ok (.ifCond .ge 6, 3) := by decide +kernel
theorem dX8_file_64 : decode cX8_file 64 = .ok (.bipush (-4), 2) := by decide +kernel
theorem dX8_file_66 : decode cX8_file 66 = .ok (.ireturn, 1) := by decide +kernel
theorem dX8_file_67 : decode cX8_file 67 = .ok (.aload_n 0, 1) := by decide +kernel
theorem dX8_file_68 : decode cX8_file 68 = .ok (.invokevirtual 81, 3) := by decide +kernel
theorem dX8_file_71 : decode cX8_file 71 = .ok (.aload_n 0, 1) := by decide +kernel
theorem dX8_file_72 : decode cX8_file 72 = .ok (.iload_n 1, 1) := by decide +kernel
theorem dX8_file_73 : decode cX8_file 73 = .ok (.iconst 1, 1) := by decide +kernel
theorem dX8_file_74 : decode cX8_file 74 = .ok (.invokevirtual 151, 3) := by decide +kernel
theorem dX8_file_77 : decode cX8_file 77 = .ok (.iload_n 3, 1) := by decide +kernel
theorem dX8_file_78 : decode cX8_file 78 = .ok (.ireturn, 1) := by decide +kernel
theorem dX8_accept_0 : decode cX8_accept 0 = .ok (.aload_n 0, 1) := by decide +kernel
theorem dX8_accept_1 : decode cX8_accept 1 = .ok (.iload_n 1, 1) := by decide +kernel
theorem dX8_accept_2 : decode cX8_accept 2 = .ok (.invokevirtual 145, 3) := by decide +kernel
theorem dX8_accept_5 : decode cX8_accept 5 = .ok (.ifCond .ne 5, 3) := by decide +kernel
theorem dX8_accept_8 : decode cX8_accept 8 = .ok (.iconst (-1), 1) := by decide +kernel
theorem dX8_accept_9 : decode cX8_accept 9 = .ok (.ireturn, 1) := by decide +kernel
theorem dX8_accept_10 : decode cX8_accept 10 = .ok (.aload_n 0, 1) := by decide +kernel
theorem dX8_accept_11 : decode cX8_accept 11 = .ok (.iload_n 1, 1) := by decide +kernel
theorem dX8_accept_12 : decode cX8_accept 12 = .ok (.iconst 1, 1) := by decide +kernel
theorem dX8_accept_13 : decode cX8_accept 13 = .ok (.invokevirtual 148, 3) := by decide +kernel
theorem dX8_accept_16 : decode cX8_accept 16 = .ok (.istore_n 2, 1) := by decide +kernel
theorem dX8_accept_17 : decode cX8_accept 17 = .ok (.aload_n 0, 1) := by decide +kernel
theorem dX8_accept_18 : decode cX8_accept 18 = .ok (.iload_n 1, 1) := by decide +kernel
theorem dX8_accept_19 : decode cX8_accept 19 = .ok (.iconst 3, 1) := by decide +kernel
theorem dX8_accept_20 : decode cX8_accept 20 = .ok (.invokevirtual 148, 3) := by decide +kernel
theorem dX8_accept_23 : decode cX8_accept 23 = .ok (.iconst 1, 1) := by decide +kernel
theorem dX8_accept_24 : decode cX8_accept 24 = .ok (.if_icmp .gt 12, 3) := by decide +kernel
theorem dX8_accept_27 : decode cX8_accept 27 = .ok (.aload_n 0, 1) := by decide +kernel
theorem dX8_accept_28 : decode cX8_accept 28 = .ok (.iload_n 2, 1) := by decide +kernel
theorem dX8_accept_29 : decode cX8_accept 29 = .ok (.invokevirtual 109, 3) := by decide +kernel
theorem dX8_accept_32 : decode cX8_accept 32 = .ok (.iconst 4, 1) := by decide +kernel
theorem dX8_accept_33 : decode cX8_accept 33 = .ok (.if_icmp .ne 6, 3) := by decide +kernel
theorem dX8_accept_36 : decode cX8_accept 36 = .ok (.bipush (-4), 2) := by decide +kernel
theorem dX8_accept_38 : decode cX8_accept 38 = .ok (.ireturn, 1) := by decide +kernel
theorem dX8_accept_39 : decode cX8_accept 39 = .ok (.aload_n 0, 1) := by decide +kernel
theorem dX8_accept_40 : decode cX8_accept 40 = .ok (.invokevirtual 81, 3) := by decide +kernel
theorem dX8_accept_43 : decode cX8_accept 43 = .ok (.aload_n 0, 1) := by decide +kernel
theorem dX8_accept_44 : decode cX8_accept 44 = .ok (.iload_n 1, 1) := by decide +kernel
theorem dX8_accept_45 : decode cX8_accept 45 = .ok (.iconst 2, 1) := by decide +kernel
theorem dX8_accept_46 : decode cX8_accept 46 = .ok (.invokevirtual 151, 3) := by decide +kernel
theorem dX8_accept_49 : decode cX8_accept 49 = .ok (.aload_n 0, 1) := by decide +kernel
theorem dX8_accept_50 : decode cX8_accept 50 = .ok (.aload_n 0, 1) := by decide +kernel
theorem dX8_accept_51 : decode cX8_accept 51 = .ok (.invokevirtual 26, 3) := by decide +kernel
theorem dX8_accept_54 : decode cX8_accept 54 = .ok (.iload_n 2, 1) := by decide +kernel
theorem dX8_accept_55 : decode cX8_accept 55 = .ok (.iconst 3, 1) := by decide +kernel
theorem dX8_accept_56 : decode cX8_accept 56 = .ok (.invokevirtual 34, 3) := by decide +kernel
theorem dX8_accept_59 : decode cX8_accept 59 = .ok (.aload_n 0, 1) := by decide +kernel
theorem dX8_accept_60 : decode cX8_accept 60 = .ok (.getfield 7, 3) := by decide +kernel
theorem dX8_accept_63 : decode cX8_accept 63 = .ok (.iconst 5, 1) := by decide +kernel
theorem dX8_accept_64 : decode cX8_accept 64 = .ok (.iaload, 1) := by decide +kernel
theorem dX8_accept_65 : decode cX8_accept 65 = .ok (.iadd, 1) := by decide +kernel
theorem dX8_accept_66 : decode cX8_accept 66 = .ok (.istore_n 3, 1) := by decide +kernel
theorem dX8_accept_67 : decode cX8_accept 67 = .ok (.aload_n 0, 1) := by decide +kernel
theorem dX8_accept_68 : decode cX8_accept 68 = .ok (.aload_n 0, 1) := by decide +kernel
theorem dX8_accept_69 : decode cX8_accept 69 = .ok (.invokevirtual 26, 3) := by decide +kernel
theorem dX8_accept_72 : decode cX8_accept 72 = .ok (.iload_n 2, 1) := by decide +kernel
theorem dX8_accept_73 : decode cX8_accept 73 = .ok (.iconst 3, 1) := by decide +kernel
theorem dX8_accept_74 : decode cX8_accept 74 = .ok (.iload_n 3, 1) := by decide +kernel
theorem dX8_accept_75 : decode cX8_accept 75 = .ok (.invokevirtual 84, 3) := by decide +kernel
theorem dX8_accept_78 : decode cX8_accept 78 = .ok (.iload_n 3, 1) := by decide +kernel
theorem dX8_accept_79 : decode cX8_accept 79 = .ok (.ireturn, 1) := by decide +kernel
theorem dX8_decide_0 : decode cX8_decide 0 = .ok (.aload_n 0, 1) := by decide +kernel
theorem dX8_decide_1 : decode cX8_decide 1 = .ok (.iload_n 1, 1) := by decide +kernel
theorem dX8_decide_2 : decode cX8_decide 2 = .ok (.invokevirtual 145, 3) := by decide +kernel
theorem dX8_decide_5 : decode cX8_decide 5 = .ok (.ifCond .ne 5, 3) := by decide +kernel
theorem dX8_decide_8 : decode cX8_decide 8 = .ok (.iconst (-1), 1) := by decide +kernel
theorem dX8_decide_9 : decode cX8_decide 9 = .ok (.ireturn, 1) := by decide +kernel
theorem dX8_decide_10 : decode cX8_decide 10 = .ok (.aload_n 0, 1) := by decide +kernel
theorem dX8_decide_11 : decode cX8_decide 11 = .ok (.iload_n 1, 1) := by decide +kernel
theorem dX8_decide_12 : decode cX8_decide 12 = .ok (.iconst 3, 1) := by decide +kernel
theorem dX8_decide_13 : decode cX8_decide 13 = .ok (.invokevirtual 148, 3) := by decide +kernel
theorem dX8_decide_16 : decode cX8_decide 16 = .ok (.iconst 1, 1) := by decide +kernel
theorem dX8_decide_17 : decode cX8_decide 17 = .ok (.if_icmp .eq 6, 3) := by decide +kernel
theorem dX8_decide_20 : decode cX8_decide 20 = .ok (.bipush (-4), 2) := by decide +kernel
theorem dX8_decide_22 : decode cX8_decide 22 = .ok (.ireturn, 1) := by decide +kernel
theorem dX8_decide_23 : decode cX8_decide 23 = .ok (.aload_n 0, 1) := by decide +kernel
theorem dX8_decide_24 : decode cX8_decide 24 = .ok (.invokevirtual 81, 3) := by decide +kernel
theorem dX8_decide_27 : decode cX8_decide 27 = .ok (.aload_n 0, 1) := by decide +kernel
theorem dX8_decide_28 : decode cX8_decide 28 = .ok (.iload_n 1, 1) := by decide +kernel
theorem dX8_decide_29 : decode cX8_decide 29 = .ok (.iload_n 2, 1) := by decide +kernel
theorem dX8_decide_30 : decode cX8_decide 30 = .ok (.ifCond .eq 7, 3) := by decide +kernel
theorem dX8_decide_33 : decode cX8_decide 33 = .ok (.iconst 3, 1) := by decide +kernel
theorem dX8_decide_34 : decode cX8_decide 34 = .ok (.goto 4, 3) := by decide +kernel
theorem dX8_decide_37 : decode cX8_decide 37 = .ok (.iconst 4, 1) := by decide +kernel
theorem dX8_decide_38 : decode cX8_decide 38 = .ok (.invokevirtual 151, 3) := by decide +kernel
theorem dX8_decide_41 : decode cX8_decide 41 = .ok (.iload_n 2, 1) := by decide +kernel
theorem dX8_decide_42 : decode cX8_decide 42 = .ok (.ifCond .eq 19, 3) := by decide +kernel
theorem dX8_decide_45 : decode cX8_decide 45 = .ok (.aload_n 0, 1) := by decide +kernel
theorem dX8_decide_46 : decode cX8_decide 46 = .ok (.aload_n 0, 1) := by decide +kernel
theorem dX8_decide_47 : decode cX8_decide 47 = .ok (.invokevirtual 26, 3) := by decide +kernel
theorem dX8_decide_50 : decode cX8_decide 50 = .ok (.aload_n 0, 1) := by decide +kernel
theorem dX8_decide_51 : decode cX8_decide 51 = .ok (.iload_n 1, 1) := by decide +kernel
theorem dX8_decide_52 : decode cX8_decide 52 = .ok (.iconst 1, 1) := by decide +kernel
theorem dX8_decide_53 : decode cX8_decide 53 = .ok (.invokevirtual 148, 3) := by decide +kernel
theorem dX8_decide_56 : decode cX8_decide 56 = .ok (.iconst 4, 1) := by decide +kernel
theorem dX8_decide_57 : decode cX8_decide 57 = .ok (.iconst 1, 1) := by decide +kernel
theorem dX8_decide_58 : decode cX8_decide 58 = .ok (.invokevirtual 84, 3) := by decide +kernel
theorem dX8_decide_61 : decode cX8_decide 61 = .ok (.aload_n 0, 1) := by decide +kernel
theorem dX8_decide_62 : decode cX8_decide 62 = .ok (.aload_n 0, 1) := by decide +kernel
theorem dX8_decide_63 : decode cX8_decide 63 = .ok (.invokevirtual 26, 3) := by decide +kernel
theorem dX8_decide_66 : decode cX8_decide 66 = .ok (.invokevirtual 155, 3) := by decide +kernel
theorem dX8_decide_69 : decode cX8_decide 69 = .ok (.ireturn, 1) := by decide +kernel
theorem dX8_set_0 : decode cX8_set 0 = .ok (.iload_n 1, 1) := by decide +kernel
theorem dX8_set_1 : decode cX8_set 1 = .ok (.iconst 0, 1) := by decide +kernel
theorem dX8_set_2 : decode cX8_set 2 = .ok (.iconst 2, 1) := by decide +kernel
theorem dX8_set_3 : decode cX8_set 3 = .ok (.invokestatic 22, 3) := by decide +kernel
theorem dX8_set_6 : decode cX8_set 6 = .ok (.ifCond .ne 5, 3) := by decide +kernel
theorem dX8_set_9 : decode cX8_set 9 = .ok (.iconst (-1), 1) := by decide +kernel
theorem dX8_set_10 : decode cX8_set 10 = .ok (.ireturn, 1) := by decide +kernel
theorem dX8_set_11 : decode cX8_set 11 = .ok (.iload_n 2, 1) := by decide +kernel
theorem dX8_set_12 : decode cX8_set 12 = .ok (.iload_n 1, 1) := by decide +kernel
theorem dX8_set_13 : decode cX8_set 13 = .ok (.iconst 2, 1) := by decide +kernel
theorem dX8_set_14 : decode cX8_set 14 = .ok (.if_icmp .ne 7, 3) := by decide +kernel
theorem dX8_set_17 : decode cX8_set 17 = .ok (.iconst 0, 1) := by decide +kernel
theorem dX8_set_18 : decode cX8_set 18 = .ok (.goto 4, 3) := by decide +kernel
theorem dX8_set_21 : decode cX8_set 21 = .ok (.iconst 1, 1) := by decide +kernel
theorem dX8_set_22 : decode cX8_set 22 = .ok (.iload_n 1, 1) := by decide +kernel
theorem dX8_set_23 : decode cX8_set 23 = .ok (.ifCond .ne 9, 3) := by decide +kernel
theorem dX8_set_26 : decode cX8_set 26 = .ok (.sipush 3600, 3) := by decide +kernel
theorem dX8_set_29 : decode cX8_set 29 = .ok (.goto 16, 3) := by decide +kernel
theorem dX8_set_32 : decode cX8_set 32 = .ok (.iload_n 1, 1) := by decide +kernel
theorem dX8_set_33 : decode cX8_set 33 = .ok (.iconst 1, 1) := by decide +kernel
theorem dX8_set_34 : decode cX8_set 34 = .ok (.if_icmp .ne 9, 3) := by decide +kernel
theorem dX8_set_37 : decode cX8_set 37 = .ok (.sipush 300, 3) := by decide +kernel
theorem dX8_set_40 : decode cX8_set 40 = .ok (.goto 5, 3) := by decide +kernel
theorem dX8_set_43 : decode cX8_set 43 = .ok (.bipush 6, 2) := by decide +kernel
theorem dX8_set_45 : decode cX8_set 45 = .ok (.invokestatic 22, 3) := by decide +kernel
theorem dX8_set_48 : decode cX8_set 48 = .ok (.ifCond .ne 6, 3) := by decide +kernel
theorem dX8_set_51 : decode cX8_set 51 = .ok (.bipush (-2), 2) := by decide +kernel
theorem dX8_set_53 : decode cX8_set 53 = .ok (.ireturn, 1) := by decide +kernel
theorem dX8_set_54 : decode cX8_set 54 = .ok (.aload_n 0, 1) := by decide +kernel
theorem dX8_set_55 : decode cX8_set 55 = .ok (.invokevirtual 81, 3) := by decide +kernel
theorem dX8_set_58 : decode cX8_set 58 = .ok (.aload_n 0, 1) := by decide +kernel
theorem dX8_set_59 : decode cX8_set 59 = .ok (.getfield 7, 3) := by decide +kernel
theorem dX8_set_62 : decode cX8_set 62 = .ok (.iconst 4, 1) := by decide +kernel
theorem dX8_set_63 : decode cX8_set 63 = .ok (.iload_n 1, 1) := by decide +kernel
theorem dX8_set_64 : decode cX8_set 64 = .ok (.iadd, 1) := by decide +kernel
theorem dX8_set_65 : decode cX8_set 65 = .ok (.iaload, 1) := by decide +kernel
theorem dX8_set_66 : decode cX8_set 66 = .ok (.istore_n 3, 1) := by decide +kernel
theorem dX8_set_67 : decode cX8_set 67 = .ok (.aload_n 0, 1) := by decide +kernel
theorem dX8_set_68 : decode cX8_set 68 = .ok (.getfield 7, 3) := by decide +kernel
theorem dX8_set_71 : decode cX8_set 71 = .ok (.iconst 4, 1) := by decide +kernel
theorem dX8_set_72 : decode cX8_set 72 = .ok (.iload_n 1, 1) := by decide +kernel
theorem dX8_set_73 : decode cX8_set 73 = .ok (.iadd, 1) := by decide +kernel
theorem dX8_set_74 : decode cX8_set 74 = .ok (.iload_n 2, 1) := by decide +kernel
theorem dX8_set_75 : decode cX8_set 75 = .ok (.iastore, 1) := by decide +kernel
theorem dX8_set_76 : decode cX8_set 76 = .ok (.iload_n 3, 1) := by decide +kernel
theorem dX8_set_77 : decode cX8_set 77 = .ok (.ireturn, 1) := by decide +kernel
theorem dX8_append_0 : decode cX8_append 0 = .ok (.iload_n 1, 1) := by decide +kernel
theorem dX8_append_1 : decode cX8_append 1 = .ok (.bipush 32, 2) := by decide +kernel
theorem dX8_append_3 : decode cX8_append 3 = .ok (.bipush 126, 2) := by decide +kernel
theorem dX8_append_5 : decode cX8_append 5 = .ok (.invokestatic 22, 3) := by decide +kernel
theorem dX8_append_8 : decode cX8_append 8 = .ok (.ifCond .ne 6, 3) := by decide +kernel
theorem dX8_append_11 : decode cX8_append 11 = .ok (.bipush (-2), 2) := by decide +kernel
theorem dX8_append_13 : decode cX8_append 13 = .ok (.ireturn, 1) := by decide +kernel
theorem dX8_append_14 : decode cX8_append 14 = .ok (.aload_n 0, 1) := by decide +kernel
theorem dX8_append_15 : decode cX8_append 15 = .ok (.getfield 158, 3) := by decide +kernel
theorem dX8_append_18 : decode cX8_append 18 = .ok (.bipush 80, 2) := by decide +kernel
theorem dX8_append_20 : decode cX8_append 20 = .ok (.if_icmp .ne 6, 3) := by decide +kernel
theorem dX8_append_23 : decode cX8_append 23 = .ok (.bipush (-3), 2) := by decide +kernel
theorem dX8_append_25 : decode cX8_append 25 = .ok (.ireturn, 1) := by decide +kernel
theorem dX8_append_26 : decode cX8_append 26 = .ok (.aload_n 0, 1) := by decide +kernel
theorem dX8_append_27 : decode cX8_append 27 = .ok (.getfield 19, 3) := by decide +kernel
theorem dX8_append_30 : decode cX8_append 30 = .ok (.aload_n 0, 1) := by decide +kernel
theorem dX8_append_31 : decode cX8_append 31 = .ok (.getfield 158, 3) := by decide +kernel
theorem dX8_append_34 : decode cX8_append 34 = .ok (.iload_n 1, 1) := by decide +kernel
theorem dX8_append_35 : decode cX8_append 35 = .ok (.iastore, 1) := by decide +kernel
theorem dX8_append_36 : decode cX8_append 36 = .ok (.aload_n 0, 1) := by decide +kernel
theorem dX8_append_37 : decode cX8_append 37 = .ok (.dup, 1) := by decide +kernel
theorem dX8_append_38 : decode cX8_append 38 = .ok (.getfield 158, 3) := by decide +kernel
theorem dX8_append_41 : decode cX8_append 41 = .ok (.iconst 1, 1) := by decide +kernel
theorem dX8_append_42 : decode cX8_append 42 = .ok (.iadd, 1) := by decide +kernel
theorem dX8_append_43 : decode cX8_append 43 = .ok (.putfield 158, 3) := by decide +kernel
theorem dX8_append_46 : decode cX8_append 46 = .ok (.aload_n 0, 1) := by decide +kernel
theorem dX8_append_47 : decode cX8_append 47 = .ok (.getfield 158, 3) := by decide +kernel
theorem dX8_append_50 : decode cX8_append 50 = .ok (.ireturn, 1) := by decide +kernel
theorem dX8_clearText_0 : decode cX8_clearText 0 = .ok (.aload_n 0, 1) := by decide +kernel
theorem dX8_clearText_1 : decode cX8_clearText 1 = .ok (.getfield 158, 3) := by decide +kernel
theorem dX8_clearText_4 : decode cX8_clearText 4 = .ok (.istore_n 1, 1) := by decide +kernel
theorem dX8_clearText_5 : decode cX8_clearText 5 = .ok (.aload_n 0, 1) := by decide +kernel
theorem dX8_clearText_6 : decode cX8_clearText 6 = .ok (.iconst 0, 1) := by decide +kernel
theorem dX8_clearText_7 : decode cX8_clearText 7 = .ok (.putfield 158, 3) := by decide +kernel
theorem dX8_clearText_10 : decode cX8_clearText 10 = .ok (.iload_n 1, 1) := by decide +kernel
theorem dX8_clearText_11 : decode cX8_clearText 11 = .ok (.ireturn, 1) := by decide +kernel
theorem dX8_isNext_0 : decode cX8_isNext 0 = .ok (.aload_n 0, 1) := by decide +kernel
theorem dX8_isNext_1 : decode cX8_isNext 1 = .ok (.getfield 161, 3) := by decide +kernel
theorem dX8_isNext_4 : decode cX8_isNext 4 = .ok (.aload_n 0, 1) := by decide +kernel
theorem dX8_isNext_5 : decode cX8_isNext 5 = .ok (.getfield 158, 3) := by decide +kernel
theorem dX8_isNext_8 : decode cX8_isNext 8 = .ok (.if_icmp .ge 24, 3) := by decide +kernel
theorem dX8_isNext_11 : decode cX8_isNext 11 = .ok (.aload_n 0, 1) := by decide +kernel
theorem dX8_isNext_12 : decode cX8_isNext 12 = .ok (.getfield 19, 3) := by decide +kernel
theorem dX8_isNext_15 : decode cX8_isNext 15 = .ok (.aload_n 0, 1) := by decide +kernel
theorem dX8_isNext_16 : decode cX8_isNext 16 = .ok (.getfield 161, 3) := by decide +kernel
theorem dX8_isNext_19 : decode cX8_isNext 19 = .ok (.iaload, 1) := by decide +kernel
theorem dX8_isNext_20 : decode cX8_isNext 20 = .ok (.iload_n 1, 1) := by decide +kernel
theorem dX8_isNext_21 : decode cX8_isNext 21 = .ok (.iload_n 2, 1) := by decide +kernel
theorem dX8_isNext_22 : decode cX8_isNext 22 = .ok (.invokestatic 22, 3) := by decide +kernel
theorem dX8_isNext_25 : decode cX8_isNext 25 = .ok (.ifCond .eq 7, 3) := by decide +kernel
theorem dX8_isNext_28 : decode cX8_isNext 28 = .ok (.iconst 1, 1) := by decide +kernel
theorem dX8_isNext_29 : decode cX8_isNext 29 = .ok (.goto 4, 3) := by decide +kernel
theorem dX8_isNext_32 : decode cX8_isNext 32 = .ok (.iconst 0, 1) := by decide +kernel
theorem dX8_isNext_33 : decode cX8_isNext 33 = .ok (.ireturn, 1) := by decide +kernel
theorem dX8_takes_0 : decode cX8_takes 0 = .ok (.aload_n 0, 1) := by decide +kernel
theorem dX8_takes_1 : decode cX8_takes 1 = .ok (.iload_n 1, 1) := by decide +kernel
theorem dX8_takes_2 : decode cX8_takes 2 = .ok (.iload_n 1, 1) := by decide +kernel
theorem dX8_takes_3 : decode cX8_takes 3 = .ok (.invokevirtual 164, 3) := by decide +kernel
theorem dX8_takes_6 : decode cX8_takes 6 = .ok (.istore_n 2, 1) := by decide +kernel
theorem dX8_takes_7 : decode cX8_takes 7 = .ok (.aload_n 0, 1) := by decide +kernel
theorem dX8_takes_8 : decode cX8_takes 8 = .ok (.dup, 1) := by decide +kernel
theorem dX8_takes_9 : decode cX8_takes 9 = .ok (.getfield 161, 3) := by decide +kernel
theorem dX8_takes_12 : decode cX8_takes 12 = .ok (.iload_n 2, 1) := by decide +kernel
theorem dX8_takes_13 : decode cX8_takes 13 = .ok (.ifCond .eq 7, 3) := by decide +kernel
theorem dX8_takes_16 : decode cX8_takes 16 = .ok (.iconst 1, 1) := by decide +kernel
theorem dX8_takes_17 : decode cX8_takes 17 = .ok (.goto 4, 3) := by decide +kernel
theorem dX8_takes_20 : decode cX8_takes 20 = .ok (.iconst 0, 1) := by decide +kernel
theorem dX8_takes_21 : decode cX8_takes 21 = .ok (.iadd, 1) := by decide +kernel
theorem dX8_takes_22 : decode cX8_takes 22 = .ok (.putfield 161, 3) := by decide +kernel
theorem dX8_takes_25 : decode cX8_takes 25 = .ok (.iload_n 2, 1) := by decide +kernel
theorem dX8_takes_26 : decode cX8_takes 26 = .ok (.ireturn, 1) := by decide +kernel
theorem dX8_readDigit_0 : decode cX8_readDigit 0 = .ok (.aload_n 0, 1) := by decide +kernel
theorem dX8_readDigit_1 : decode cX8_readDigit 1 = .ok (.bipush 48, 2) := by decide +kernel
theorem dX8_readDigit_3 : decode cX8_readDigit 3 = .ok (.bipush 48, 2) := by decide +kernel
theorem dX8_readDigit_5 : decode cX8_readDigit 5 = .ok (.iload_n 1, 1) := by decide +kernel
theorem dX8_readDigit_6 : decode cX8_readDigit 6 = .ok (.iadd, 1) := by decide +kernel
theorem dX8_readDigit_7 : decode cX8_readDigit 7 = .ok (.invokevirtual 164, 3) := by decide +kernel
theorem dX8_readDigit_10 : decode cX8_readDigit 10 = .ok (.ifCond .eq 18, 3) := by decide +kernel
theorem dX8_readDigit_13 : decode cX8_readDigit 13 = .ok (.aload_n 0, 1) := by decide +kernel
theorem dX8_readDigit_14 : decode cX8_readDigit 14 = .ok (.getfield 19, 3) := by decide +kernel
theorem dX8_readDigit_17 : decode cX8_readDigit 17 = .ok (.aload_n 0, 1) := by decide +kernel
theorem dX8_readDigit_18 : decode cX8_readDigit 18 = .ok (.getfield 161, 3) := by decide +kernel
theorem dX8_readDigit_21 : decode cX8_readDigit 21 = .ok (.iaload, 1) := by decide +kernel
theorem dX8_readDigit_22 : decode cX8_readDigit 22 = .ok (.bipush 48, 2) := by decide +kernel
theorem dX8_readDigit_24 : decode cX8_readDigit 24 = .ok (.isub, 1) := by decide +kernel
theorem dX8_readDigit_25 : decode cX8_readDigit 25 = .ok (.goto 5, 3) := by decide +kernel
theorem dX8_readDigit_28 : decode cX8_readDigit 28 = .ok (.bipush (-5), 2) := by decide +kernel
theorem dX8_readDigit_30 : decode cX8_readDigit 30 = .ok (.istore_n 2, 1) := by decide +kernel
theorem dX8_readDigit_31 : decode cX8_readDigit 31 = .ok (.aload_n 0, 1) := by decide +kernel
theorem dX8_readDigit_32 : decode cX8_readDigit 32 = .ok (.dup, 1) := by decide +kernel
theorem dX8_readDigit_33 : decode cX8_readDigit 33 = .ok (.getfield 161, 3) := by decide +kernel
theorem dX8_readDigit_36 : decode cX8_readDigit 36 = .ok (.iload_n 2, 1) := by decide +kernel
theorem dX8_readDigit_37 : decode cX8_readDigit 37 = .ok (.bipush (-5), 2) := by decide +kernel
theorem dX8_readDigit_39 : decode cX8_readDigit 39 = .ok (.if_icmp .ne 7, 3) := by decide +kernel
theorem dX8_readDigit_42 : decode cX8_readDigit 42 = .ok (.iconst 0, 1) := by decide +kernel
theorem dX8_readDigit_43 : decode cX8_readDigit 43 = .ok (.goto 4, 3) := by decide +kernel
theorem dX8_readDigit_46 : decode cX8_readDigit 46 = .ok (.iconst 1, 1) := by decide +kernel
theorem dX8_readDigit_47 : decode cX8_readDigit 47 = .ok (.iadd, 1) := by decide +kernel
theorem dX8_readDigit_48 : decode cX8_readDigit 48 = .ok (.putfield 161, 3) := by decide +kernel
theorem dX8_readDigit_51 : decode cX8_readDigit 51 = .ok (.iload_n 2, 1) := by decide +kernel
theorem dX8_readDigit_52 : decode cX8_readDigit 52 = .ok (.ireturn, 1) := by decide +kernel
theorem dX8_readSeconds_0 : decode cX8_readSeconds 0 = .ok (.aload_n 0, 1) := by decide +kernel
theorem dX8_readSeconds_1 : decode cX8_readSeconds 1 = .ok (.bipush 49, 2) := by decide +kernel
theorem dX8_readSeconds_3 : decode cX8_readSeconds 3 = .ok (.bipush 57, 2) := by decide +kernel
theorem dX8_readSeconds_5 : decode cX8_readSeconds 5 = .ok (.invokevirtual 164, 3) := by decide +kernel
theorem dX8_readSeconds_8 : decode cX8_readSeconds 8 = .ok (.ifCond .ne 6, 3) := by decide +kernel
theorem dX8_readSeconds_11 : decode cX8_readSeconds 11 = .ok (.bipush (-5), 2) := by decide +kernel
theorem dX8_readSeconds_13 : decode cX8_readSeconds 13 = .ok (.ireturn, 1) := by decide +kernel
theorem dX8_readSeconds_14 : decode cX8_readSeconds 14 = .ok (.iconst 0, 1) := by decide +kernel
theorem dX8_readSeconds_15 : decode cX8_readSeconds 15 = .ok (.istore_n 1, 1) := by decide +kernel
theorem dX8_readSeconds_16 : decode cX8_readSeconds 16 = .ok (.aload_n 0, 1) := by decide +kernel
theorem dX8_readSeconds_17 : decode cX8_readSeconds 17 = .ok (.bipush 48, 2) := by decide +kernel
theorem dX8_readSeconds_19 : decode cX8_readSeconds 19 = .ok (.bipush 57, 2) := by decide +kernel
theorem dX8_readSeconds_21 : decode cX8_readSeconds 21 = .ok (.invokevirtual 164, 3) := by decide +kernel
theorem dX8_readSeconds_24 : decode cX8_readSeconds 24 = .ok (.ifCond .eq 40, 3) := by decide +kernel
theorem dX8_readSeconds_27 : decode cX8_readSeconds 27 = .ok (.iload_n 1, 1) := by decide +kernel
theorem dX8_readSeconds_28 : decode cX8_readSeconds 28 = .ok (.bipush 100, 2) := by decide +kernel
theorem dX8_readSeconds_30 : decode cX8_readSeconds 30 = .ok (.if_icmp .ge 34, 3) := by decide +kernel
theorem dX8_readSeconds_33 : decode cX8_readSeconds 33 = .ok (.bipush 10, 2) := by decide +kernel
theorem dX8_readSeconds_35 : decode cX8_readSeconds 35 = .ok (.iload_n 1, 1) := by decide +kernel
theorem dX8_readSeconds_36 : decode cX8_readSeconds 36 = .ok (.imul, 1) := by decide +kernel
theorem dX8_readSeconds_37 : decode cX8_readSeconds 37 = .ok (.aload_n 0, 1) := by decide +kernel
theorem dX8_readSeconds_38 : decode cX8_readSeconds 38 = .ok (.getfield 19, 3) := by decide +kernel
theorem dX8_readSeconds_41 : decode cX8_readSeconds 41 = .ok (.aload_n 0, 1) := by decide +kernel
theorem dX8_readSeconds_42 : decode cX8_readSeconds 42 = .ok (.getfield 161, 3) := by decide +kernel
theorem dX8_readSeconds_45 : decode cX8_readSeconds 45 = .ok (.iaload, 1) := by decide +kernel
theorem dX8_readSeconds_46 : decode cX8_readSeconds 46 = .ok (.iadd, 1) := by decide +kernel
theorem dX8_readSeconds_47 : decode cX8_readSeconds 47 = .ok (.bipush 48, 2) := by decide +kernel
theorem dX8_readSeconds_49 : decode cX8_readSeconds 49 = .ok (.isub, 1) := by decide +kernel
theorem dX8_readSeconds_50 : decode cX8_readSeconds 50 = .ok (.istore_n 1, 1) := by decide +kernel
theorem dX8_readSeconds_51 : decode cX8_readSeconds 51 = .ok (.aload_n 0, 1) := by decide +kernel
theorem dX8_readSeconds_52 : decode cX8_readSeconds 52 = .ok (.dup, 1) := by decide +kernel
theorem dX8_readSeconds_53 : decode cX8_readSeconds 53 = .ok (.getfield 161, 3) := by decide +kernel
theorem dX8_readSeconds_56 : decode cX8_readSeconds 56 = .ok (.iconst 1, 1) := by decide +kernel
theorem dX8_readSeconds_57 : decode cX8_readSeconds 57 = .ok (.iadd, 1) := by decide +kernel
theorem dX8_readSeconds_58 : decode cX8_readSeconds 58 = .ok (.putfield 161, 3) := by decide +kernel
theorem dX8_readSeconds_61 : decode cX8_readSeconds 61 = .ok (.goto (-45), 3) := by decide +kernel
theorem dX8_readSeconds_64 : decode cX8_readSeconds 64 = .ok (.iload_n 1, 1) := by decide +kernel
theorem dX8_readSeconds_65 : decode cX8_readSeconds 65 = .ok (.ireturn, 1) := by decide +kernel
theorem dX8_readEvent_0 : decode cX8_readEvent 0 = .ok (.aload_n 0, 1) := by decide +kernel
theorem dX8_readEvent_1 : decode cX8_readEvent 1 = .ok (.aload_n 0, 1) := by decide +kernel
theorem dX8_readEvent_2 : decode cX8_readEvent 2 = .ok (.getfield 161, 3) := by decide +kernel
theorem dX8_readEvent_5 : decode cX8_readEvent 5 = .ok (.aload_n 0, 1) := by decide +kernel
theorem dX8_readEvent_6 : decode cX8_readEvent 6 = .ok (.getfield 158, 3) := by decide +kernel
theorem dX8_readEvent_9 : decode cX8_readEvent 9 = .ok (.if_icmp .ge 15, 3) := by decide +kernel
theorem dX8_readEvent_12 : decode cX8_readEvent 12 = .ok (.aload_n 0, 1) := by decide +kernel
theorem dX8_readEvent_13 : decode cX8_readEvent 13 = .ok (.getfield 19, 3) := by decide +kernel
theorem dX8_readEvent_16 : decode cX8_readEvent 16 = .ok (.aload_n 0, 1) := by decide +kernel
theorem dX8_readEvent_17 : decode cX8_readEvent 17 = .ok (.getfield 161, 3) := by decide +kernel
theorem dX8_readEvent_20 : decode cX8_readEvent 20 = .ok (.iaload, 1) := by decide +kernel
theorem dX8_readEvent_21 : decode cX8_readEvent 21 = .ok (.goto 4, 3) := by decide +kernel
theorem dX8_readEvent_24 : decode cX8_readEvent 24 = .ok (.iconst 0, 1) := by decide +kernel
theorem dX8_readEvent_25 : decode cX8_readEvent 25 = .ok (.putfield 167, 3) := by decide +kernel
theorem dX8_readEvent_28 : decode cX8_readEvent 28 = .ok (.aload_n 0, 1) := by decide +kernel
theorem dX8_readEvent_29 : decode cX8_readEvent 29 = .ok (.dup, 1) := by decide +kernel
theorem dX8_readEvent_30 : decode cX8_readEvent 30 = .ok (.getfield 161, 3) := by decide +kernel
theorem dX8_readEvent_33 : decode cX8_readEvent 33 = .ok (.iconst 1, 1) := by decide +kernel
theorem dX8_readEvent_34 : decode cX8_readEvent 34 = .ok (.iadd, 1) := by decide +kernel
theorem dX8_readEvent_35 : decode cX8_readEvent 35 = .ok (.putfield 161, 3) := by decide +kernel
theorem dX8_readEvent_38 : decode cX8_readEvent 38 = .ok (.aload_n 0, 1) := by decide +kernel
theorem dX8_readEvent_39 : decode cX8_readEvent 39 = .ok (.getfield 167, 3) := by decide +kernel
theorem dX8_readEvent_42 : decode cX8_readEvent 42 = .ok (.lookupswitch 160 #[(43, 50), (98, 98), (104, 98), (108, 73), (114, 73)], 50) := by decide +kernel
theorem dX8_readEvent_92 : decode cX8_readEvent 92 = .ok (.aload_n 0, 1) := by decide +kernel
theorem dX8_readEvent_93 : decode cX8_readEvent 93 = .ok (.aload_n 0, 1) := by decide +kernel
theorem dX8_readEvent_94 : decode cX8_readEvent 94 = .ok (.invokevirtual 170, 3) := by decide +kernel
theorem dX8_readEvent_97 : decode cX8_readEvent 97 = .ok (.putfield 173, 3) := by decide +kernel
theorem dX8_readEvent_100 : decode cX8_readEvent 100 = .ok (.aload_n 0, 1) := by decide +kernel
theorem dX8_readEvent_101 : decode cX8_readEvent 101 = .ok (.getfield 173, 3) := by decide +kernel
theorem dX8_readEvent_104 : decode cX8_readEvent 104 = .ok (.bipush (-5), 2) := by decide +kernel
theorem dX8_readEvent_106 : decode cX8_readEvent 106 = .ok (.if_icmp .eq 7, 3) := by decide +kernel
theorem dX8_readEvent_109 : decode cX8_readEvent 109 = .ok (.iconst 1, 1) := by decide +kernel
theorem dX8_readEvent_110 : decode cX8_readEvent 110 = .ok (.goto 4, 3) := by decide +kernel
theorem dX8_readEvent_113 : decode cX8_readEvent 113 = .ok (.iconst 0, 1) := by decide +kernel
theorem dX8_readEvent_114 : decode cX8_readEvent 114 = .ok (.ireturn, 1) := by decide +kernel
theorem dX8_readEvent_115 : decode cX8_readEvent 115 = .ok (.aload_n 0, 1) := by decide +kernel
theorem dX8_readEvent_116 : decode cX8_readEvent 116 = .ok (.aload_n 0, 1) := by decide +kernel
theorem dX8_readEvent_117 : decode cX8_readEvent 117 = .ok (.bipush 8, 2) := by decide +kernel
theorem dX8_readEvent_119 : decode cX8_readEvent 119 = .ok (.invokevirtual 176, 3) := by decide +kernel
theorem dX8_readEvent_122 : decode cX8_readEvent 122 = .ok (.putfield 173, 3) := by decide +kernel
theorem dX8_readEvent_125 : decode cX8_readEvent 125 = .ok (.aload_n 0, 1) := by decide +kernel
theorem dX8_readEvent_126 : decode cX8_readEvent 126 = .ok (.getfield 173, 3) := by decide +kernel
theorem dX8_readEvent_129 : decode cX8_readEvent 129 = .ok (.bipush (-5), 2) := by decide +kernel
theorem dX8_readEvent_131 : decode cX8_readEvent 131 = .ok (.if_icmp .eq 7, 3) := by decide +kernel
theorem dX8_readEvent_134 : decode cX8_readEvent 134 = .ok (.iconst 1, 1) := by decide +kernel
theorem dX8_readEvent_135 : decode cX8_readEvent 135 = .ok (.goto 4, 3) := by decide +kernel
theorem dX8_readEvent_138 : decode cX8_readEvent 138 = .ok (.iconst 0, 1) := by decide +kernel
theorem dX8_readEvent_139 : decode cX8_readEvent 139 = .ok (.ireturn, 1) := by decide +kernel
theorem dX8_readEvent_140 : decode cX8_readEvent 140 = .ok (.aload_n 0, 1) := by decide +kernel
theorem dX8_readEvent_141 : decode cX8_readEvent 141 = .ok (.aload_n 0, 1) := by decide +kernel
theorem dX8_readEvent_142 : decode cX8_readEvent 142 = .ok (.bipush 8, 2) := by decide +kernel
theorem dX8_readEvent_144 : decode cX8_readEvent 144 = .ok (.invokevirtual 176, 3) := by decide +kernel
theorem dX8_readEvent_147 : decode cX8_readEvent 147 = .ok (.putfield 173, 3) := by decide +kernel
theorem dX8_readEvent_150 : decode cX8_readEvent 150 = .ok (.aload_n 0, 1) := by decide +kernel
theorem dX8_readEvent_151 : decode cX8_readEvent 151 = .ok (.aload_n 0, 1) := by decide +kernel
theorem dX8_readEvent_152 : decode cX8_readEvent 152 = .ok (.getfield 173, 3) := by decide +kernel
theorem dX8_readEvent_155 : decode cX8_readEvent 155 = .ok (.bipush (-5), 2) := by decide +kernel
theorem dX8_readEvent_157 : decode cX8_readEvent 157 = .ok (.if_icmp .ne 8, 3) := by decide +kernel
theorem dX8_readEvent_160 : decode cX8_readEvent 160 = .ok (.bipush (-5), 2) := by decide +kernel
theorem dX8_readEvent_162 : decode cX8_readEvent 162 = .ok (.goto 22, 3) := by decide +kernel
theorem dX8_readEvent_165 : decode cX8_readEvent 165 = .ok (.aload_n 0, 1) := by decide +kernel
theorem dX8_readEvent_166 : decode cX8_readEvent 166 = .ok (.aload_n 0, 1) := by decide +kernel
theorem dX8_readEvent_167 : decode cX8_readEvent 167 = .ok (.getfield 167, 3) := by decide +kernel
theorem dX8_readEvent_170 : decode cX8_readEvent 170 = .ok (.bipush 98, 2) := by decide +kernel
theorem dX8_readEvent_172 : decode cX8_readEvent 172 = .ok (.if_icmp .ne 7, 3) := by decide +kernel
theorem dX8_readEvent_175 : decode cX8_readEvent 175 = .ok (.iconst 4, 1) := by decide +kernel
theorem dX8_readEvent_176 : decode cX8_readEvent 176 = .ok (.goto 5, 3) := by decide +kernel
theorem dX8_readEvent_179 : decode cX8_readEvent 179 = .ok (.bipush 8, 2) := by decide +kernel
theorem dX8_readEvent_181 : decode cX8_readEvent 181 = .ok (.invokevirtual 176, 3) := by decide +kernel
theorem dX8_readEvent_184 : decode cX8_readEvent 184 = .ok (.putfield 179, 3) := by decide +kernel
theorem dX8_readEvent_187 : decode cX8_readEvent 187 = .ok (.aload_n 0, 1) := by decide +kernel
theorem dX8_readEvent_188 : decode cX8_readEvent 188 = .ok (.getfield 179, 3) := by decide +kernel
theorem dX8_readEvent_191 : decode cX8_readEvent 191 = .ok (.bipush (-5), 2) := by decide +kernel
theorem dX8_readEvent_193 : decode cX8_readEvent 193 = .ok (.if_icmp .eq 7, 3) := by decide +kernel
theorem dX8_readEvent_196 : decode cX8_readEvent 196 = .ok (.iconst 1, 1) := by decide +kernel
theorem dX8_readEvent_197 : decode cX8_readEvent 197 = .ok (.goto 4, 3) := by decide +kernel
theorem dX8_readEvent_200 : decode cX8_readEvent 200 = .ok (.iconst 0, 1) := by decide +kernel
theorem dX8_readEvent_201 : decode cX8_readEvent 201 = .ok (.ireturn, 1) := by decide +kernel
theorem dX8_readEvent_202 : decode cX8_readEvent 202 = .ok (.aload_n 0, 1) := by decide +kernel
theorem dX8_readEvent_203 : decode cX8_readEvent 203 = .ok (.dup, 1) := by decide +kernel
theorem dX8_readEvent_204 : decode cX8_readEvent 204 = .ok (.getfield 161, 3) := by decide +kernel
theorem dX8_readEvent_207 : decode cX8_readEvent 207 = .ok (.iconst 1, 1) := by decide +kernel
theorem dX8_readEvent_208 : decode cX8_readEvent 208 = .ok (.isub, 1) := by decide +kernel
theorem dX8_readEvent_209 : decode cX8_readEvent 209 = .ok (.putfield 161, 3) := by decide +kernel
theorem dX8_readEvent_212 : decode cX8_readEvent 212 = .ok (.iconst 0, 1) := by decide +kernel
theorem dX8_readEvent_213 : decode cX8_readEvent 213 = .ok (.ireturn, 1) := by decide +kernel
theorem dX8_errorOfEvent_0 : decode cX8_errorOfEvent 0 = .ok (.aload_n 0, 1) := by decide +kernel
theorem dX8_errorOfEvent_1 : decode cX8_errorOfEvent 1 = .ok (.getfield 167, 3) := by decide +kernel
theorem dX8_errorOfEvent_4 : decode cX8_errorOfEvent 4 = .ok (.lookupswitch 84 #[(43, 44), (98, 71), (108, 53), (114, 62)], 44) := by decide +kernel
theorem dX8_errorOfEvent_48 : decode cX8_errorOfEvent 48 = .ok (.aload_n 0, 1) := by decide +kernel
theorem dX8_errorOfEvent_49 : decode cX8_errorOfEvent 49 = .ok (.aload_n 0, 1) := by decide +kernel
theorem dX8_errorOfEvent_50 : decode cX8_errorOfEvent 50 = .ok (.getfield 173, 3) := by decide +kernel
theorem dX8_errorOfEvent_53 : decode cX8_errorOfEvent 53 = .ok (.invokevirtual 99, 3) := by decide +kernel
theorem dX8_errorOfEvent_56 : decode cX8_errorOfEvent 56 = .ok (.ireturn, 1) := by decide +kernel
theorem dX8_errorOfEvent_57 : decode cX8_errorOfEvent 57 = .ok (.aload_n 0, 1) := by decide +kernel
theorem dX8_errorOfEvent_58 : decode cX8_errorOfEvent 58 = .ok (.aload_n 0, 1) := by decide +kernel
theorem dX8_errorOfEvent_59 : decode cX8_errorOfEvent 59 = .ok (.getfield 173, 3) := by decide +kernel
theorem dX8_errorOfEvent_62 : decode cX8_errorOfEvent 62 = .ok (.invokevirtual 115, 3) := by decide +kernel
theorem dX8_errorOfEvent_65 : decode cX8_errorOfEvent 65 = .ok (.ireturn, 1) := by decide +kernel
theorem dX8_errorOfEvent_66 : decode cX8_errorOfEvent 66 = .ok (.aload_n 0, 1) := by decide +kernel
theorem dX8_errorOfEvent_67 : decode cX8_errorOfEvent 67 = .ok (.aload_n 0, 1) := by decide +kernel
theorem dX8_errorOfEvent_68 : decode cX8_errorOfEvent 68 = .ok (.getfield 173, 3) := by decide +kernel
theorem dX8_errorOfEvent_71 : decode cX8_errorOfEvent 71 = .ok (.invokevirtual 127, 3) := by decide +kernel
theorem dX8_errorOfEvent_74 : decode cX8_errorOfEvent 74 = .ok (.ireturn, 1) := by decide +kernel
theorem dX8_errorOfEvent_75 : decode cX8_errorOfEvent 75 = .ok (.aload_n 0, 1) := by decide +kernel
theorem dX8_errorOfEvent_76 : decode cX8_errorOfEvent 76 = .ok (.aload_n 0, 1) := by decide +kernel
theorem dX8_errorOfEvent_77 : decode cX8_errorOfEvent 77 = .ok (.getfield 173, 3) := by decide +kernel
theorem dX8_errorOfEvent_80 : decode cX8_errorOfEvent 80 = .ok (.aload_n 0, 1) := by decide +kernel
theorem dX8_errorOfEvent_81 : decode cX8_errorOfEvent 81 = .ok (.getfield 179, 3) := by decide +kernel
theorem dX8_errorOfEvent_84 : decode cX8_errorOfEvent 84 = .ok (.invokevirtual 121, 3) := by decide +kernel
theorem dX8_errorOfEvent_87 : decode cX8_errorOfEvent 87 = .ok (.ireturn, 1) := by decide +kernel
theorem dX8_errorOfEvent_88 : decode cX8_errorOfEvent 88 = .ok (.aload_n 0, 1) := by decide +kernel
theorem dX8_errorOfEvent_89 : decode cX8_errorOfEvent 89 = .ok (.aload_n 0, 1) := by decide +kernel
theorem dX8_errorOfEvent_90 : decode cX8_errorOfEvent 90 = .ok (.getfield 173, 3) := by decide +kernel
theorem dX8_errorOfEvent_93 : decode cX8_errorOfEvent 93 = .ok (.aload_n 0, 1) := by decide +kernel
theorem dX8_errorOfEvent_94 : decode cX8_errorOfEvent 94 = .ok (.getfield 179, 3) := by decide +kernel
theorem dX8_errorOfEvent_97 : decode cX8_errorOfEvent 97 = .ok (.invokevirtual 139, 3) := by decide +kernel
theorem dX8_errorOfEvent_100 : decode cX8_errorOfEvent 100 = .ok (.ireturn, 1) := by decide +kernel
theorem dX8_does_0 : decode cX8_does 0 = .ok (.aload_n 0, 1) := by decide +kernel
theorem dX8_does_1 : decode cX8_does 1 = .ok (.getfield 167, 3) := by decide +kernel
theorem dX8_does_4 : decode cX8_does 4 = .ok (.lookupswitch 84 #[(43, 44), (98, 71), (108, 53), (114, 62)], 44) := by decide +kernel
theorem dX8_does_48 : decode cX8_does 48 = .ok (.aload_n 0, 1) := by decide +kernel
theorem dX8_does_49 : decode cX8_does 49 = .ok (.aload_n 0, 1) := by decide +kernel
theorem dX8_does_50 : decode cX8_does 50 = .ok (.getfield 173, 3) := by decide +kernel
theorem dX8_does_53 : decode cX8_does 53 = .ok (.invokevirtual 102, 3) := by decide +kernel
theorem dX8_does_56 : decode cX8_does 56 = .ok (.ireturn, 1) := by decide +kernel
theorem dX8_does_57 : decode cX8_does 57 = .ok (.aload_n 0, 1) := by decide +kernel
theorem dX8_does_58 : decode cX8_does 58 = .ok (.aload_n 0, 1) := by decide +kernel
theorem dX8_does_59 : decode cX8_does 59 = .ok (.getfield 173, 3) := by decide +kernel
theorem dX8_does_62 : decode cX8_does 62 = .ok (.invokevirtual 118, 3) := by decide +kernel
theorem dX8_does_65 : decode cX8_does 65 = .ok (.ireturn, 1) := by decide +kernel
theorem dX8_does_66 : decode cX8_does 66 = .ok (.aload_n 0, 1) := by decide +kernel
theorem dX8_does_67 : decode cX8_does 67 = .ok (.aload_n 0, 1) := by decide +kernel
theorem dX8_does_68 : decode cX8_does 68 = .ok (.getfield 173, 3) := by decide +kernel
theorem dX8_does_71 : decode cX8_does 71 = .ok (.invokevirtual 130, 3) := by decide +kernel
theorem dX8_does_74 : decode cX8_does 74 = .ok (.ireturn, 1) := by decide +kernel
theorem dX8_does_75 : decode cX8_does 75 = .ok (.aload_n 0, 1) := by decide +kernel
theorem dX8_does_76 : decode cX8_does 76 = .ok (.aload_n 0, 1) := by decide +kernel
theorem dX8_does_77 : decode cX8_does 77 = .ok (.getfield 173, 3) := by decide +kernel
theorem dX8_does_80 : decode cX8_does 80 = .ok (.aload_n 0, 1) := by decide +kernel
theorem dX8_does_81 : decode cX8_does 81 = .ok (.getfield 179, 3) := by decide +kernel
theorem dX8_does_84 : decode cX8_does 84 = .ok (.invokevirtual 124, 3) := by decide +kernel
theorem dX8_does_87 : decode cX8_does 87 = .ok (.ireturn, 1) := by decide +kernel
theorem dX8_does_88 : decode cX8_does 88 = .ok (.aload_n 0, 1) := by decide +kernel
theorem dX8_does_89 : decode cX8_does 89 = .ok (.aload_n 0, 1) := by decide +kernel
theorem dX8_does_90 : decode cX8_does 90 = .ok (.getfield 173, 3) := by decide +kernel
theorem dX8_does_93 : decode cX8_does 93 = .ok (.aload_n 0, 1) := by decide +kernel
theorem dX8_does_94 : decode cX8_does 94 = .ok (.getfield 179, 3) := by decide +kernel
theorem dX8_does_97 : decode cX8_does 97 = .ok (.invokevirtual 142, 3) := by decide +kernel
theorem dX8_does_100 : decode cX8_does 100 = .ok (.ireturn, 1) := by decide +kernel
theorem dX8_readText_0 : decode cX8_readText 0 = .ok (.aload_n 0, 1) := by decide +kernel
theorem dX8_readText_1 : decode cX8_readText 1 = .ok (.iconst 0, 1) := by decide +kernel
theorem dX8_readText_2 : decode cX8_readText 2 = .ok (.putfield 161, 3) := by decide +kernel
theorem dX8_readText_5 : decode cX8_readText 5 = .ok (.aload_n 0, 1) := by decide +kernel
theorem dX8_readText_6 : decode cX8_readText 6 = .ok (.iconst 0, 1) := by decide +kernel
theorem dX8_readText_7 : decode cX8_readText 7 = .ok (.putfield 182, 3) := by decide +kernel
theorem dX8_readText_10 : decode cX8_readText 10 = .ok (.aload_n 0, 1) := by decide +kernel
theorem dX8_readText_11 : decode cX8_readText 11 = .ok (.invokevirtual 185, 3) := by decide +kernel
theorem dX8_readText_14 : decode cX8_readText 14 = .ok (.istore_n 2, 1) := by decide +kernel
theorem dX8_readText_15 : decode cX8_readText 15 = .ok (.iload_n 2, 1) := by decide +kernel
theorem dX8_readText_16 : decode cX8_readText 16 = .ok (.ifCond .eq 69, 3) := by decide +kernel
theorem dX8_readText_19 : decode cX8_readText 19 = .ok (.iload_n 1, 1) := by decide +kernel
theorem dX8_readText_20 : decode cX8_readText 20 = .ok (.ifCond .eq 17, 3) := by decide +kernel
theorem dX8_readText_23 : decode cX8_readText 23 = .ok (.aload_n 0, 1) := by decide +kernel
theorem dX8_readText_24 : decode cX8_readText 24 = .ok (.invokevirtual 188, 3) := by decide +kernel
theorem dX8_readText_27 : decode cX8_readText 27 = .ok (.ifCond .ge 5, 3) := by decide +kernel
theorem dX8_readText_30 : decode cX8_readText 30 = .ok (.iconst 1, 1) := by decide +kernel
theorem dX8_readText_31 : decode cX8_readText 31 = .ok (.ireturn, 1) := by decide +kernel
theorem dX8_readText_32 : decode cX8_readText 32 = .ok (.aload_n 0, 1) := by decide +kernel
theorem dX8_readText_33 : decode cX8_readText 33 = .ok (.invokevirtual 191, 3) := by decide +kernel
theorem dX8_readText_36 : decode cX8_readText 36 = .ok (.pop, 1) := by decide +kernel
theorem dX8_readText_37 : decode cX8_readText 37 = .ok (.aload_n 0, 1) := by decide +kernel
theorem dX8_readText_38 : decode cX8_readText 38 = .ok (.dup, 1) := by decide +kernel
theorem dX8_readText_39 : decode cX8_readText 39 = .ok (.getfield 182, 3) := by decide +kernel
theorem dX8_readText_42 : decode cX8_readText 42 = .ok (.iconst 1, 1) := by decide +kernel
theorem dX8_readText_43 : decode cX8_readText 43 = .ok (.iadd, 1) := by decide +kernel
theorem dX8_readText_44 : decode cX8_readText 44 = .ok (.putfield 182, 3) := by decide +kernel
theorem dX8_readText_47 : decode cX8_readText 47 = .ok (.aload_n 0, 1) := by decide +kernel
theorem dX8_readText_48 : decode cX8_readText 48 = .ok (.getfield 161, 3) := by decide +kernel
theorem dX8_readText_51 : decode cX8_readText 51 = .ok (.aload_n 0, 1) := by decide +kernel
theorem dX8_readText_52 : decode cX8_readText 52 = .ok (.getfield 158, 3) := by decide +kernel
theorem dX8_readText_55 : decode cX8_readText 55 = .ok (.if_icmp .ne 5, 3) := by decide +kernel
theorem dX8_readText_58 : decode cX8_readText 58 = .ok (.iconst 1, 1) := by decide +kernel
theorem dX8_readText_59 : decode cX8_readText 59 = .ok (.ireturn, 1) := by decide +kernel
theorem dX8_readText_60 : decode cX8_readText 60 = .ok (.aload_n 0, 1) := by decide +kernel
theorem dX8_readText_61 : decode cX8_readText 61 = .ok (.bipush 59, 2) := by decide +kernel
theorem dX8_readText_63 : decode cX8_readText 63 = .ok (.invokevirtual 194, 3) := by decide +kernel
theorem dX8_readText_66 : decode cX8_readText 66 = .ok (.ifCond .eq 14, 3) := by decide +kernel
theorem dX8_readText_69 : decode cX8_readText 69 = .ok (.aload_n 0, 1) := by decide +kernel
theorem dX8_readText_70 : decode cX8_readText 70 = .ok (.invokevirtual 185, 3) := by decide +kernel
theorem dX8_readText_73 : decode cX8_readText 73 = .ok (.ifCond .eq 7, 3) := by decide +kernel
theorem dX8_readText_76 : decode cX8_readText 76 = .ok (.iconst 1, 1) := by decide +kernel
theorem dX8_readText_77 : decode cX8_readText 77 = .ok (.goto 4, 3) := by decide +kernel
theorem dX8_readText_80 : decode cX8_readText 80 = .ok (.iconst 0, 1) := by decide +kernel
theorem dX8_readText_81 : decode cX8_readText 81 = .ok (.istore_n 2, 1) := by decide +kernel
theorem dX8_readText_82 : decode cX8_readText 82 = .ok (.goto (-67), 3) := by decide +kernel
theorem dX8_readText_85 : decode cX8_readText 85 = .ok (.iconst 0, 1) := by decide +kernel
theorem dX8_readText_86 : decode cX8_readText 86 = .ok (.ireturn, 1) := by decide +kernel
theorem dX8_fault_0 : decode cX8_fault 0 = .ok (.aload_n 0, 1) := by decide +kernel
theorem dX8_fault_1 : decode cX8_fault 1 = .ok (.iconst 0, 1) := by decide +kernel
theorem dX8_fault_2 : decode cX8_fault 2 = .ok (.invokevirtual 197, 3) := by decide +kernel
theorem dX8_fault_5 : decode cX8_fault 5 = .ok (.ifCond .eq 8, 3) := by decide +kernel
theorem dX8_fault_8 : decode cX8_fault 8 = .ok (.bipush (-5), 2) := by decide +kernel
theorem dX8_fault_10 : decode cX8_fault 10 = .ok (.goto 7, 3) := by decide +kernel
theorem dX8_fault_13 : decode cX8_fault 13 = .ok (.aload_n 0, 1) := by decide +kernel
theorem dX8_fault_14 : decode cX8_fault 14 = .ok (.getfield 161, 3) := by decide +kernel
theorem dX8_fault_17 : decode cX8_fault 17 = .ok (.ireturn, 1) := by decide +kernel
theorem dX8_run_0 : decode cX8_run 0 = .ok (.aload_n 0, 1) := by decide +kernel
theorem dX8_run_1 : decode cX8_run 1 = .ok (.iconst 0, 1) := by decide +kernel
theorem dX8_run_2 : decode cX8_run 2 = .ok (.invokevirtual 197, 3) := by decide +kernel
theorem dX8_run_5 : decode cX8_run 5 = .ok (.ifCond .ne 11, 3) := by decide +kernel
theorem dX8_run_8 : decode cX8_run 8 = .ok (.bipush (-100), 2) := by decide +kernel
theorem dX8_run_10 : decode cX8_run 10 = .ok (.aload_n 0, 1) := by decide +kernel
theorem dX8_run_11 : decode cX8_run 11 = .ok (.getfield 161, 3) := by decide +kernel
theorem dX8_run_14 : decode cX8_run 14 = .ok (.isub, 1) := by decide +kernel
theorem dX8_run_15 : decode cX8_run 15 = .ok (.ireturn, 1) := by decide +kernel
theorem dX8_run_16 : decode cX8_run 16 = .ok (.aload_n 0, 1) := by decide +kernel
theorem dX8_run_17 : decode cX8_run 17 = .ok (.invokevirtual 81, 3) := by decide +kernel
theorem dX8_run_20 : decode cX8_run 20 = .ok (.aload_n 0, 1) := by decide +kernel
theorem dX8_run_21 : decode cX8_run 21 = .ok (.iconst 1, 1) := by decide +kernel
theorem dX8_run_22 : decode cX8_run 22 = .ok (.invokevirtual 197, 3) := by decide +kernel
theorem dX8_run_25 : decode cX8_run 25 = .ok (.ifCond .eq 10, 3) := by decide +kernel
theorem dX8_run_28 : decode cX8_run 28 = .ok (.aload_n 0, 1) := by decide +kernel
theorem dX8_run_29 : decode cX8_run 29 = .ok (.getfield 182, 3) := by decide +kernel
theorem dX8_run_32 : decode cX8_run 32 = .ok (.goto 4, 3) := by decide +kernel
theorem dX8_run_35 : decode cX8_run 35 = .ok (.iconst 0, 1) := by decide +kernel
theorem dX8_run_36 : decode cX8_run 36 = .ok (.ireturn, 1) := by decide +kernel
theorem dX8_undo_0 : decode cX8_undo 0 = .ok (.aload_n 0, 1) := by decide +kernel
theorem dX8_undo_1 : decode cX8_undo 1 = .ok (.getfield 38, 3) := by decide +kernel
theorem dX8_undo_4 : decode cX8_undo 4 = .ok (.ifCond .ne 6, 3) := by decide +kernel
theorem dX8_undo_7 : decode cX8_undo 7 = .ok (.bipush (-5), 2) := by decide +kernel
theorem dX8_undo_9 : decode cX8_undo 9 = .ok (.ireturn, 1) := by decide +kernel
theorem dX8_undo_10 : decode cX8_undo 10 = .ok (.aload_n 0, 1) := by decide +kernel
theorem dX8_undo_11 : decode cX8_undo 11 = .ok (.dup, 1) := by decide +kernel
theorem dX8_undo_12 : decode cX8_undo 12 = .ok (.getfield 38, 3) := by decide +kernel
theorem dX8_undo_15 : decode cX8_undo 15 = .ok (.iconst 1, 1) := by decide +kernel
theorem dX8_undo_16 : decode cX8_undo 16 = .ok (.isub, 1) := by decide +kernel
theorem dX8_undo_17 : decode cX8_undo 17 = .ok (.putfield 38, 3) := by decide +kernel
theorem dX8_undo_20 : decode cX8_undo 20 = .ok (.aload_n 0, 1) := by decide +kernel
theorem dX8_undo_21 : decode cX8_undo 21 = .ok (.getfield 13, 3) := by decide +kernel
theorem dX8_undo_24 : decode cX8_undo 24 = .ok (.sipush 404, 3) := by decide +kernel
theorem dX8_undo_27 : decode cX8_undo 27 = .ok (.aload_n 0, 1) := by decide +kernel
theorem dX8_undo_28 : decode cX8_undo 28 = .ok (.getfield 38, 3) := by decide +kernel
theorem dX8_undo_31 : decode cX8_undo 31 = .ok (.imul, 1) := by decide +kernel
theorem dX8_undo_32 : decode cX8_undo 32 = .ok (.aload_n 0, 1) := by decide +kernel
theorem dX8_undo_33 : decode cX8_undo 33 = .ok (.getfield 7, 3) := by decide +kernel
theorem dX8_undo_36 : decode cX8_undo 36 = .ok (.iconst 0, 1) := by decide +kernel
theorem dX8_undo_37 : decode cX8_undo 37 = .ok (.invokestatic 42, 3) := by decide +kernel
theorem dX8_undo_40 : decode cX8_undo 40 = .ok (.aload_n 0, 1) := by decide +kernel
theorem dX8_undo_41 : decode cX8_undo 41 = .ok (.getfield 38, 3) := by decide +kernel
theorem dX8_undo_44 : decode cX8_undo 44 = .ok (.ireturn, 1) := by decide +kernel
theorem dX8_save_0 : decode cX8_save 0 = .ok (.aload_n 0, 1) := by decide +kernel
theorem dX8_save_1 : decode cX8_save 1 = .ok (.getfield 7, 3) := by decide +kernel
theorem dX8_save_4 : decode cX8_save 4 = .ok (.iconst 0, 1) := by decide +kernel
theorem dX8_save_5 : decode cX8_save 5 = .ok (.aload_n 0, 1) := by decide +kernel
theorem dX8_save_6 : decode cX8_save 6 = .ok (.getfield 16, 3) := by decide +kernel
theorem dX8_save_9 : decode cX8_save 9 = .ok (.iconst 0, 1) := by decide +kernel
theorem dX8_save_10 : decode cX8_save 10 = .ok (.invokestatic 42, 3) := by decide +kernel
theorem dX8_save_13 : decode cX8_save 13 = .ok (.aload_n 0, 1) := by decide +kernel
theorem dX8_save_14 : decode cX8_save 14 = .ok (.iconst 1, 1) := by decide +kernel
theorem dX8_save_15 : decode cX8_save 15 = .ok (.putfield 201, 3) := by decide +kernel
theorem dX8_save_18 : decode cX8_save 18 = .ok (.aload_n 0, 1) := by decide +kernel
theorem dX8_save_19 : decode cX8_save 19 = .ok (.getfield 7, 3) := by decide +kernel
theorem dX8_save_22 : decode cX8_save 22 = .ok (.iconst 0, 1) := by decide +kernel
theorem dX8_save_23 : decode cX8_save 23 = .ok (.iaload, 1) := by decide +kernel
theorem dX8_save_24 : decode cX8_save 24 = .ok (.ireturn, 1) := by decide +kernel
theorem dX8_restore_0 : decode cX8_restore 0 = .ok (.aload_n 0, 1) := by decide +kernel
theorem dX8_restore_1 : decode cX8_restore 1 = .ok (.getfield 201, 3) := by decide +kernel
theorem dX8_restore_4 : decode cX8_restore 4 = .ok (.ifCond .ne 6, 3) := by decide +kernel
theorem dX8_restore_7 : decode cX8_restore 7 = .ok (.bipush (-4), 2) := by decide +kernel
theorem dX8_restore_9 : decode cX8_restore 9 = .ok (.ireturn, 1) := by decide +kernel
theorem dX8_restore_10 : decode cX8_restore 10 = .ok (.aload_n 0, 1) := by decide +kernel
theorem dX8_restore_11 : decode cX8_restore 11 = .ok (.invokevirtual 81, 3) := by decide +kernel
theorem dX8_restore_14 : decode cX8_restore 14 = .ok (.aload_n 0, 1) := by decide +kernel
theorem dX8_restore_15 : decode cX8_restore 15 = .ok (.getfield 16, 3) := by decide +kernel
theorem dX8_restore_18 : decode cX8_restore 18 = .ok (.iconst 0, 1) := by decide +kernel
theorem dX8_restore_19 : decode cX8_restore 19 = .ok (.aload_n 0, 1) := by decide +kernel
theorem dX8_restore_20 : decode cX8_restore 20 = .ok (.getfield 7, 3) := by decide +kernel
theorem dX8_restore_23 : decode cX8_restore 23 = .ok (.iconst 0, 1) := by decide +kernel
theorem dX8_restore_24 : decode cX8_restore 24 = .ok (.invokestatic 42, 3) := by decide +kernel
theorem dX8_restore_27 : decode cX8_restore 27 = .ok (.aload_n 0, 1) := by decide +kernel
theorem dX8_restore_28 : decode cX8_restore 28 = .ok (.getfield 7, 3) := by decide +kernel
theorem dX8_restore_31 : decode cX8_restore 31 = .ok (.iconst 0, 1) := by decide +kernel
theorem dX8_restore_32 : decode cX8_restore 32 = .ok (.iaload, 1) := by decide +kernel
theorem dX8_restore_33 : decode cX8_restore 33 = .ok (.ireturn, 1) := by decide +kernel
theorem dX8_result_0 : decode cX8_result 0 = .ok (.aload_n 0, 1) := by decide +kernel
theorem dX8_result_1 : decode cX8_result 1 = .ok (.iload_n 1, 1) := by decide +kernel
theorem dX8_result_2 : decode cX8_result 2 = .ok (.invokevirtual 205, 3) := by decide +kernel
theorem dX8_result_5 : decode cX8_result 5 = .ok (.ifCond .eq 11, 3) := by decide +kernel
theorem dX8_result_8 : decode cX8_result 8 = .ok (.aload_n 0, 1) := by decide +kernel
theorem dX8_result_9 : decode cX8_result 9 = .ok (.iload_n 2, 1) := by decide +kernel
end
section
theorem dX8_result_10 : decode cX8_result 10 = .ok (.invokevirtual 105, 3) := by decide +kernel
theorem dX8_result_13 : decode cX8_result 13 = .ok (.ifCond .ne 5, 3) := by decide +kernel
theorem dX8_result_16 : decode cX8_result 16 = .ok (.iconst (-1), 1) := by decide +kernel
theorem dX8_result_17 : decode cX8_result 17 = .ok (.ireturn, 1) := by decide +kernel
theorem dX8_result_18 : decode cX8_result 18 = .ok (.aload_n 0, 1) := by decide +kernel
theorem dX8_result_19 : decode cX8_result 19 = .ok (.iload_n 1, 1) := by decide +kernel
theorem dX8_result_20 : decode cX8_result 20 = .ok (.iconst 3, 1) := by decide +kernel
theorem dX8_result_21 : decode cX8_result 21 = .ok (.invokevirtual 30, 3) := by decide +kernel
theorem dX8_result_24 : decode cX8_result 24 = .ok (.iconst 1, 1) := by decide +kernel
theorem dX8_result_25 : decode cX8_result 25 = .ok (.if_icmp .ne 7, 3) := by decide +kernel
theorem dX8_result_28 : decode cX8_result 28 = .ok (.iconst 1, 1) := by decide +kernel
theorem dX8_result_29 : decode cX8_result 29 = .ok (.goto 4, 3) := by decide +kernel
theorem dX8_result_32 : decode cX8_result 32 = .ok (.iconst 0, 1) := by decide +kernel
theorem dX8_result_33 : decode cX8_result 33 = .ok (.istore 4, 2) := by decide +kernel
theorem dX8_result_35 : decode cX8_result 35 = .ok (.iload_n 3, 1) := by decide +kernel
theorem dX8_result_36 : decode cX8_result 36 = .ok (.tableswitch 108 0 8 #[52, 52, 52, 52, 52, 60, 67, 74, 91], 52) := by decide +kernel
theorem dX8_result_88 : decode cX8_result 88 = .ok (.aload_n 0, 1) := by decide +kernel
theorem dX8_result_89 : decode cX8_result 89 = .ok (.iload_n 1, 1) := by decide +kernel
theorem dX8_result_90 : decode cX8_result 90 = .ok (.iload_n 2, 1) := by decide +kernel
theorem dX8_result_91 : decode cX8_result 91 = .ok (.iload_n 3, 1) := by decide +kernel
theorem dX8_result_92 : decode cX8_result 92 = .ok (.invokevirtual 34, 3) := by decide +kernel
theorem dX8_result_95 : decode cX8_result 95 = .ok (.ireturn, 1) := by decide +kernel
theorem dX8_result_96 : decode cX8_result 96 = .ok (.aload_n 0, 1) := by decide +kernel
theorem dX8_result_97 : decode cX8_result 97 = .ok (.iload_n 1, 1) := by decide +kernel
theorem dX8_result_98 : decode cX8_result 98 = .ok (.iload_n 2, 1) := by decide +kernel
theorem dX8_result_99 : decode cX8_result 99 = .ok (.invokevirtual 46, 3) := by decide +kernel
theorem dX8_result_102 : decode cX8_result 102 = .ok (.ireturn, 1) := by decide +kernel
theorem dX8_result_103 : decode cX8_result 103 = .ok (.aload_n 0, 1) := by decide +kernel
theorem dX8_result_104 : decode cX8_result 104 = .ok (.iload_n 1, 1) := by decide +kernel
theorem dX8_result_105 : decode cX8_result 105 = .ok (.iload_n 2, 1) := by decide +kernel
theorem dX8_result_106 : decode cX8_result 106 = .ok (.invokevirtual 53, 3) := by decide +kernel
theorem dX8_result_109 : decode cX8_result 109 = .ok (.ireturn, 1) := by decide +kernel
theorem dX8_result_110 : decode cX8_result 110 = .ok (.iload 4, 2) := by decide +kernel
theorem dX8_result_112 : decode cX8_result 112 = .ok (.ifCond .eq 12, 3) := by decide +kernel
theorem dX8_result_115 : decode cX8_result 115 = .ok (.aload_n 0, 1) := by decide +kernel
theorem dX8_result_116 : decode cX8_result 116 = .ok (.iload_n 1, 1) := by decide +kernel
theorem dX8_result_117 : decode cX8_result 117 = .ok (.iload_n 2, 1) := by decide +kernel
theorem dX8_result_118 : decode cX8_result 118 = .ok (.invokevirtual 56, 3) := by decide +kernel
theorem dX8_result_121 : decode cX8_result 121 = .ok (.goto 5, 3) := by decide +kernel
theorem dX8_result_124 : decode cX8_result 124 = .ok (.bipush (-5), 2) := by decide +kernel
theorem dX8_result_126 : decode cX8_result 126 = .ok (.ireturn, 1) := by decide +kernel
theorem dX8_result_127 : decode cX8_result 127 = .ok (.iload 4, 2) := by decide +kernel
theorem dX8_result_129 : decode cX8_result 129 = .ok (.ifCond .eq 12, 3) := by decide +kernel
theorem dX8_result_132 : decode cX8_result 132 = .ok (.aload_n 0, 1) := by decide +kernel
theorem dX8_result_133 : decode cX8_result 133 = .ok (.iload_n 1, 1) := by decide +kernel
theorem dX8_result_134 : decode cX8_result 134 = .ok (.iload_n 2, 1) := by decide +kernel
theorem dX8_result_135 : decode cX8_result 135 = .ok (.invokevirtual 62, 3) := by decide +kernel
theorem dX8_result_138 : decode cX8_result 138 = .ok (.goto 5, 3) := by decide +kernel
theorem dX8_result_141 : decode cX8_result 141 = .ok (.bipush (-5), 2) := by decide +kernel
theorem dX8_result_143 : decode cX8_result 143 = .ok (.ireturn, 1) := by decide +kernel
theorem dX8_result_144 : decode cX8_result 144 = .ok (.bipush (-2), 2) := by decide +kernel
theorem dX8_result_146 : decode cX8_result 146 = .ok (.ireturn, 1) := by decide +kernel
theorem dX8_boat_0 : decode cX8_boat 0 = .ok (.aload_n 0, 1) := by decide +kernel
theorem dX8_boat_1 : decode cX8_boat 1 = .ok (.iload_n 1, 1) := by decide +kernel
theorem dX8_boat_2 : decode cX8_boat 2 = .ok (.invokevirtual 105, 3) := by decide +kernel
theorem dX8_boat_5 : decode cX8_boat 5 = .ok (.ifCond .ne 5, 3) := by decide +kernel
theorem dX8_boat_8 : decode cX8_boat 8 = .ok (.iconst (-1), 1) := by decide +kernel
theorem dX8_boat_9 : decode cX8_boat 9 = .ok (.ireturn, 1) := by decide +kernel
theorem dX8_boat_10 : decode cX8_boat 10 = .ok (.iload_n 2, 1) := by decide +kernel
theorem dX8_boat_11 : decode cX8_boat 11 = .ok (.tableswitch 68 0 4 #[33, 43, 49, 55, 61], 33) := by decide +kernel
theorem dX8_boat_44 : decode cX8_boat 44 = .ok (.aload_n 0, 1) := by decide +kernel
theorem dX8_boat_45 : decode cX8_boat 45 = .ok (.getfield 7, 3) := by decide +kernel
theorem dX8_boat_48 : decode cX8_boat 48 = .ok (.bipush 7, 2) := by decide +kernel
theorem dX8_boat_50 : decode cX8_boat 50 = .ok (.iload_n 1, 1) := by decide +kernel
theorem dX8_boat_51 : decode cX8_boat 51 = .ok (.iadd, 1) := by decide +kernel
theorem dX8_boat_52 : decode cX8_boat 52 = .ok (.iaload, 1) := by decide +kernel
theorem dX8_boat_53 : decode cX8_boat 53 = .ok (.ireturn, 1) := by decide +kernel
theorem dX8_boat_54 : decode cX8_boat 54 = .ok (.aload_n 0, 1) := by decide +kernel
theorem dX8_boat_55 : decode cX8_boat 55 = .ok (.iload_n 1, 1) := by decide +kernel
theorem dX8_boat_56 : decode cX8_boat 56 = .ok (.invokevirtual 72, 3) := by decide +kernel
theorem dX8_boat_59 : decode cX8_boat 59 = .ok (.ireturn, 1) := by decide +kernel
theorem dX8_boat_60 : decode cX8_boat 60 = .ok (.aload_n 0, 1) := by decide +kernel
theorem dX8_boat_61 : decode cX8_boat 61 = .ok (.iload_n 1, 1) := by decide +kernel
theorem dX8_boat_62 : decode cX8_boat 62 = .ok (.invokevirtual 208, 3) := by decide +kernel
theorem dX8_boat_65 : decode cX8_boat 65 = .ok (.ireturn, 1) := by decide +kernel
theorem dX8_boat_66 : decode cX8_boat 66 = .ok (.aload_n 0, 1) := by decide +kernel
theorem dX8_boat_67 : decode cX8_boat 67 = .ok (.iload_n 1, 1) := by decide +kernel
theorem dX8_boat_68 : decode cX8_boat 68 = .ok (.invokevirtual 65, 3) := by decide +kernel
theorem dX8_boat_71 : decode cX8_boat 71 = .ok (.ireturn, 1) := by decide +kernel
theorem dX8_boat_72 : decode cX8_boat 72 = .ok (.aload_n 0, 1) := by decide +kernel
theorem dX8_boat_73 : decode cX8_boat 73 = .ok (.iload_n 1, 1) := by decide +kernel
theorem dX8_boat_74 : decode cX8_boat 74 = .ok (.iconst 1, 1) := by decide +kernel
theorem dX8_boat_75 : decode cX8_boat 75 = .ok (.invokevirtual 75, 3) := by decide +kernel
theorem dX8_boat_78 : decode cX8_boat 78 = .ok (.ireturn, 1) := by decide +kernel
theorem dX8_boat_79 : decode cX8_boat 79 = .ok (.bipush (-2), 2) := by decide +kernel
theorem dX8_boat_81 : decode cX8_boat 81 = .ok (.ireturn, 1) := by decide +kernel
theorem dX8_ranked_0 : decode cX8_ranked 0 = .ok (.iload_n 1, 1) := by decide +kernel
theorem dX8_ranked_1 : decode cX8_ranked 1 = .ok (.iconst 1, 1) := by decide +kernel
theorem dX8_ranked_2 : decode cX8_ranked 2 = .ok (.if_icmp .ge 6, 3) := by decide +kernel
theorem dX8_ranked_5 : decode cX8_ranked 5 = .ok (.bipush (-2), 2) := by decide +kernel
theorem dX8_ranked_7 : decode cX8_ranked 7 = .ok (.ireturn, 1) := by decide +kernel
theorem dX8_ranked_8 : decode cX8_ranked 8 = .ok (.bipush (-5), 2) := by decide +kernel
theorem dX8_ranked_10 : decode cX8_ranked 10 = .ok (.istore_n 2, 1) := by decide +kernel
theorem dX8_ranked_11 : decode cX8_ranked 11 = .ok (.iconst 0, 1) := by decide +kernel
theorem dX8_ranked_12 : decode cX8_ranked 12 = .ok (.istore_n 3, 1) := by decide +kernel
theorem dX8_ranked_13 : decode cX8_ranked 13 = .ok (.iload_n 3, 1) := by decide +kernel
theorem dX8_ranked_14 : decode cX8_ranked 14 = .ok (.aload_n 0, 1) := by decide +kernel
theorem dX8_ranked_15 : decode cX8_ranked 15 = .ok (.getfield 7, 3) := by decide +kernel
theorem dX8_ranked_18 : decode cX8_ranked 18 = .ok (.iconst 1, 1) := by decide +kernel
theorem dX8_ranked_19 : decode cX8_ranked 19 = .ok (.iaload, 1) := by decide +kernel
theorem dX8_ranked_20 : decode cX8_ranked 20 = .ok (.if_icmp .ge 24, 3) := by decide +kernel
theorem dX8_ranked_23 : decode cX8_ranked 23 = .ok (.aload_n 0, 1) := by decide +kernel
theorem dX8_ranked_24 : decode cX8_ranked 24 = .ok (.iload_n 3, 1) := by decide +kernel
theorem dX8_ranked_25 : decode cX8_ranked 25 = .ok (.invokevirtual 208, 3) := by decide +kernel
theorem dX8_ranked_28 : decode cX8_ranked 28 = .ok (.iload_n 1, 1) := by decide +kernel
theorem dX8_ranked_29 : decode cX8_ranked 29 = .ok (.if_icmp .ne 7, 3) := by decide +kernel
theorem dX8_ranked_32 : decode cX8_ranked 32 = .ok (.iload_n 3, 1) := by decide +kernel
theorem dX8_ranked_33 : decode cX8_ranked 33 = .ok (.goto 4, 3) := by decide +kernel
theorem dX8_ranked_36 : decode cX8_ranked 36 = .ok (.iload_n 2, 1) := by decide +kernel
theorem dX8_ranked_37 : decode cX8_ranked 37 = .ok (.istore_n 2, 1) := by decide +kernel
theorem dX8_ranked_38 : decode cX8_ranked 38 = .ok (.iinc 3 1, 3) := by decide +kernel
theorem dX8_ranked_41 : decode cX8_ranked 41 = .ok (.goto (-28), 3) := by decide +kernel
theorem dX8_ranked_44 : decode cX8_ranked 44 = .ok (.iload_n 2, 1) := by decide +kernel
theorem dX8_ranked_45 : decode cX8_ranked 45 = .ok (.ireturn, 1) := by decide +kernel
theorem dX8_race_0 : decode cX8_race 0 = .ok (.aload_n 0, 1) := by decide +kernel
theorem dX8_race_1 : decode cX8_race 1 = .ok (.iload_n 1, 1) := by decide +kernel
theorem dX8_race_2 : decode cX8_race 2 = .ok (.invokevirtual 205, 3) := by decide +kernel
theorem dX8_race_5 : decode cX8_race 5 = .ok (.ifCond .ne 5, 3) := by decide +kernel
theorem dX8_race_8 : decode cX8_race 8 = .ok (.iconst (-1), 1) := by decide +kernel
theorem dX8_race_9 : decode cX8_race 9 = .ok (.ireturn, 1) := by decide +kernel
theorem dX8_race_10 : decode cX8_race 10 = .ok (.iload_n 2, 1) := by decide +kernel
theorem dX8_race_11 : decode cX8_race 11 = .ok (.tableswitch 75 0 6 #[41, 41, 41, 48, 57, 63, 69], 41) := by decide +kernel
theorem dX8_race_52 : decode cX8_race 52 = .ok (.aload_n 0, 1) := by decide +kernel
theorem dX8_race_53 : decode cX8_race 53 = .ok (.iload_n 1, 1) := by decide +kernel
theorem dX8_race_54 : decode cX8_race 54 = .ok (.iload_n 2, 1) := by decide +kernel
theorem dX8_race_55 : decode cX8_race 55 = .ok (.invokevirtual 30, 3) := by decide +kernel
theorem dX8_race_58 : decode cX8_race 58 = .ok (.ireturn, 1) := by decide +kernel
theorem dX8_race_59 : decode cX8_race 59 = .ok (.aload_n 0, 1) := by decide +kernel
theorem dX8_race_60 : decode cX8_race 60 = .ok (.iload_n 1, 1) := by decide +kernel
theorem dX8_race_61 : decode cX8_race 61 = .ok (.iconst 3, 1) := by decide +kernel
theorem dX8_race_62 : decode cX8_race 62 = .ok (.invokevirtual 30, 3) := by decide +kernel
theorem dX8_race_65 : decode cX8_race 65 = .ok (.iconst 1, 1) := by decide +kernel
theorem dX8_race_66 : decode cX8_race 66 = .ok (.iadd, 1) := by decide +kernel
theorem dX8_race_67 : decode cX8_race 67 = .ok (.ireturn, 1) := by decide +kernel
theorem dX8_race_68 : decode cX8_race 68 = .ok (.aload_n 0, 1) := by decide +kernel
theorem dX8_race_69 : decode cX8_race 69 = .ok (.iload_n 1, 1) := by decide +kernel
theorem dX8_race_70 : decode cX8_race 70 = .ok (.invokevirtual 133, 3) := by decide +kernel
theorem dX8_race_73 : decode cX8_race 73 = .ok (.ireturn, 1) := by decide +kernel
theorem dX8_race_74 : decode cX8_race 74 = .ok (.aload_n 0, 1) := by decide +kernel
theorem dX8_race_75 : decode cX8_race 75 = .ok (.iload_n 1, 1) := by decide +kernel
theorem dX8_race_76 : decode cX8_race 76 = .ok (.invokevirtual 155, 3) := by decide +kernel
theorem dX8_race_79 : decode cX8_race 79 = .ok (.ireturn, 1) := by decide +kernel
theorem dX8_race_80 : decode cX8_race 80 = .ok (.aload_n 0, 1) := by decide +kernel
theorem dX8_race_81 : decode cX8_race 81 = .ok (.iload_n 1, 1) := by decide +kernel
theorem dX8_race_82 : decode cX8_race 82 = .ok (.invokevirtual 211, 3) := by decide +kernel
theorem dX8_race_85 : decode cX8_race 85 = .ok (.ireturn, 1) := by decide +kernel
theorem dX8_race_86 : decode cX8_race 86 = .ok (.bipush (-2), 2) := by decide +kernel
theorem dX8_race_88 : decode cX8_race 88 = .ok (.ireturn, 1) := by decide +kernel
theorem dX8_protest_0 : decode cX8_protest 0 = .ok (.aload_n 0, 1) := by decide +kernel
theorem dX8_protest_1 : decode cX8_protest 1 = .ok (.iload_n 1, 1) := by decide +kernel
theorem dX8_protest_2 : decode cX8_protest 2 = .ok (.invokevirtual 145, 3) := by decide +kernel
theorem dX8_protest_5 : decode cX8_protest 5 = .ok (.ifCond .ne 5, 3) := by decide +kernel
theorem dX8_protest_8 : decode cX8_protest 8 = .ok (.iconst (-1), 1) := by decide +kernel
theorem dX8_protest_9 : decode cX8_protest 9 = .ok (.ireturn, 1) := by decide +kernel
theorem dX8_protest_10 : decode cX8_protest 10 = .ok (.iload_n 2, 1) := by decide +kernel
theorem dX8_protest_11 : decode cX8_protest 11 = .ok (.iconst 0, 1) := by decide +kernel
theorem dX8_protest_12 : decode cX8_protest 12 = .ok (.iconst 3, 1) := by decide +kernel
theorem dX8_protest_13 : decode cX8_protest 13 = .ok (.invokestatic 22, 3) := by decide +kernel
theorem dX8_protest_16 : decode cX8_protest 16 = .ok (.ifCond .eq 12, 3) := by decide +kernel
theorem dX8_protest_19 : decode cX8_protest 19 = .ok (.aload_n 0, 1) := by decide +kernel
theorem dX8_protest_20 : decode cX8_protest 20 = .ok (.iload_n 1, 1) := by decide +kernel
theorem dX8_protest_21 : decode cX8_protest 21 = .ok (.iload_n 2, 1) := by decide +kernel
theorem dX8_protest_22 : decode cX8_protest 22 = .ok (.invokevirtual 148, 3) := by decide +kernel
theorem dX8_protest_25 : decode cX8_protest 25 = .ok (.goto 5, 3) := by decide +kernel
theorem dX8_protest_28 : decode cX8_protest 28 = .ok (.bipush (-2), 2) := by decide +kernel
theorem dX8_protest_30 : decode cX8_protest 30 = .ok (.ireturn, 1) := by decide +kernel
theorem dX8_count_0 : decode cX8_count 0 = .ok (.iload_n 1, 1) := by decide +kernel
theorem dX8_count_1 : decode cX8_count 1 = .ok (.tableswitch 140 0 10 #[59, 66, 73, 78, 85, 111, 118, 118, 118, 130, 135], 59) := by decide +kernel
theorem dX8_count_60 : decode cX8_count 60 = .ok (.aload_n 0, 1) := by decide +kernel
theorem dX8_count_61 : decode cX8_count 61 = .ok (.getfield 7, 3) := by decide +kernel
theorem dX8_count_64 : decode cX8_count 64 = .ok (.iconst 1, 1) := by decide +kernel
theorem dX8_count_65 : decode cX8_count 65 = .ok (.iaload, 1) := by decide +kernel
theorem dX8_count_66 : decode cX8_count 66 = .ok (.ireturn, 1) := by decide +kernel
theorem dX8_count_67 : decode cX8_count 67 = .ok (.aload_n 0, 1) := by decide +kernel
theorem dX8_count_68 : decode cX8_count 68 = .ok (.getfield 7, 3) := by decide +kernel
theorem dX8_count_71 : decode cX8_count 71 = .ok (.iconst 2, 1) := by decide +kernel
theorem dX8_count_72 : decode cX8_count 72 = .ok (.iaload, 1) := by decide +kernel
theorem dX8_count_73 : decode cX8_count 73 = .ok (.ireturn, 1) := by decide +kernel
theorem dX8_count_74 : decode cX8_count 74 = .ok (.aload_n 0, 1) := by decide +kernel
theorem dX8_count_75 : decode cX8_count 75 = .ok (.invokevirtual 59, 3) := by decide +kernel
theorem dX8_count_78 : decode cX8_count 78 = .ok (.ireturn, 1) := by decide +kernel
theorem dX8_count_79 : decode cX8_count 79 = .ok (.aload_n 0, 1) := by decide +kernel
theorem dX8_count_80 : decode cX8_count 80 = .ok (.getfield 7, 3) := by decide +kernel
theorem dX8_count_83 : decode cX8_count 83 = .ok (.iconst 0, 1) := by decide +kernel
theorem dX8_count_84 : decode cX8_count 84 = .ok (.iaload, 1) := by decide +kernel
theorem dX8_count_85 : decode cX8_count 85 = .ok (.ireturn, 1) := by decide +kernel
theorem dX8_count_86 : decode cX8_count 86 = .ok (.aload_n 0, 1) := by decide +kernel
theorem dX8_count_87 : decode cX8_count 87 = .ok (.getfield 7, 3) := by decide +kernel
theorem dX8_count_90 : decode cX8_count 90 = .ok (.iconst 2, 1) := by decide +kernel
theorem dX8_count_91 : decode cX8_count 91 = .ok (.iaload, 1) := by decide +kernel
theorem dX8_count_92 : decode cX8_count 92 = .ok (.ifCond .ne 7, 3) := by decide +kernel
theorem dX8_count_95 : decode cX8_count 95 = .ok (.iconst 0, 1) := by decide +kernel
theorem dX8_count_96 : decode cX8_count 96 = .ok (.goto 15, 3) := by decide +kernel
theorem dX8_count_99 : decode cX8_count 99 = .ok (.aload_n 0, 1) := by decide +kernel
theorem dX8_count_100 : decode cX8_count 100 = .ok (.invokevirtual 88, 3) := by decide +kernel
theorem dX8_count_103 : decode cX8_count 103 = .ok (.ifCond .eq 7, 3) := by decide +kernel
theorem dX8_count_106 : decode cX8_count 106 = .ok (.iconst 1, 1) := by decide +kernel
theorem dX8_count_107 : decode cX8_count 107 = .ok (.goto 4, 3) := by decide +kernel
theorem dX8_count_110 : decode cX8_count 110 = .ok (.iconst 2, 1) := by decide +kernel
theorem dX8_count_111 : decode cX8_count 111 = .ok (.ireturn, 1) := by decide +kernel
theorem dX8_count_112 : decode cX8_count 112 = .ok (.aload_n 0, 1) := by decide +kernel
theorem dX8_count_113 : decode cX8_count 113 = .ok (.getfield 7, 3) := by decide +kernel
theorem dX8_count_116 : decode cX8_count 116 = .ok (.iconst 3, 1) := by decide +kernel
theorem dX8_count_117 : decode cX8_count 117 = .ok (.iaload, 1) := by decide +kernel
theorem dX8_count_118 : decode cX8_count 118 = .ok (.ireturn, 1) := by decide +kernel
theorem dX8_count_119 : decode cX8_count 119 = .ok (.aload_n 0, 1) := by decide +kernel
theorem dX8_count_120 : decode cX8_count 120 = .ok (.getfield 7, 3) := by decide +kernel
theorem dX8_count_123 : decode cX8_count 123 = .ok (.iconst 4, 1) := by decide +kernel
theorem dX8_count_124 : decode cX8_count 124 = .ok (.iload_n 1, 1) := by decide +kernel
theorem dX8_count_125 : decode cX8_count 125 = .ok (.iadd, 1) := by decide +kernel
theorem dX8_count_126 : decode cX8_count 126 = .ok (.bipush 6, 2) := by decide +kernel
theorem dX8_count_128 : decode cX8_count 128 = .ok (.isub, 1) := by decide +kernel
theorem dX8_count_129 : decode cX8_count 129 = .ok (.iaload, 1) := by decide +kernel
theorem dX8_count_130 : decode cX8_count 130 = .ok (.ireturn, 1) := by decide +kernel
theorem dX8_count_131 : decode cX8_count 131 = .ok (.aload_n 0, 1) := by decide +kernel
theorem dX8_count_132 : decode cX8_count 132 = .ok (.getfield 38, 3) := by decide +kernel
theorem dX8_count_135 : decode cX8_count 135 = .ok (.ireturn, 1) := by decide +kernel
theorem dX8_count_136 : decode cX8_count 136 = .ok (.aload_n 0, 1) := by decide +kernel
theorem dX8_count_137 : decode cX8_count 137 = .ok (.getfield 158, 3) := by decide +kernel
theorem dX8_count_140 : decode cX8_count 140 = .ok (.ireturn, 1) := by decide +kernel
theorem dX8_count_141 : decode cX8_count 141 = .ok (.bipush (-2), 2) := by decide +kernel
theorem dX8_count_143 : decode cX8_count 143 = .ok (.ireturn, 1) := by decide +kernel
theorem dX8_placeNow_0 : decode cX8_placeNow 0 = .ok (.aload_n 0, 1) := by decide +kernel
theorem dX8_placeNow_1 : decode cX8_placeNow 1 = .ok (.iload_n 1, 1) := by decide +kernel
theorem dX8_placeNow_2 : decode cX8_placeNow 2 = .ok (.invokevirtual 105, 3) := by decide +kernel
theorem dX8_placeNow_5 : decode cX8_placeNow 5 = .ok (.ifCond .ne 5, 3) := by decide +kernel
theorem dX8_placeNow_8 : decode cX8_placeNow 8 = .ok (.iconst (-1), 1) := by decide +kernel
theorem dX8_placeNow_9 : decode cX8_placeNow 9 = .ok (.ireturn, 1) := by decide +kernel
theorem dX8_placeNow_10 : decode cX8_placeNow 10 = .ok (.aload_n 0, 1) := by decide +kernel
theorem dX8_placeNow_11 : decode cX8_placeNow 11 = .ok (.invokevirtual 88, 3) := by decide +kernel
theorem dX8_placeNow_14 : decode cX8_placeNow 14 = .ok (.ifCond .eq 15, 3) := by decide +kernel
theorem dX8_placeNow_17 : decode cX8_placeNow 17 = .ok (.aload_n 0, 1) := by decide +kernel
theorem dX8_placeNow_18 : decode cX8_placeNow 18 = .ok (.aload_n 0, 1) := by decide +kernel
theorem dX8_placeNow_19 : decode cX8_placeNow 19 = .ok (.invokevirtual 26, 3) := by decide +kernel
theorem dX8_placeNow_22 : decode cX8_placeNow 22 = .ok (.iload_n 1, 1) := by decide +kernel
theorem dX8_placeNow_23 : decode cX8_placeNow 23 = .ok (.invokevirtual 56, 3) := by decide +kernel
theorem dX8_placeNow_26 : decode cX8_placeNow 26 = .ok (.goto 5, 3) := by decide +kernel
theorem dX8_placeNow_29 : decode cX8_placeNow 29 = .ok (.bipush (-4), 2) := by decide +kernel
theorem dX8_placeNow_31 : decode cX8_placeNow 31 = .ok (.ireturn, 1) := by decide +kernel
theorem dX8_secondsLeft_0 : decode cX8_secondsLeft 0 = .ok (.aload_n 0, 1) := by decide +kernel
theorem dX8_secondsLeft_1 : decode cX8_secondsLeft 1 = .ok (.iload_n 1, 1) := by decide +kernel
theorem dX8_secondsLeft_2 : decode cX8_secondsLeft 2 = .ok (.invokevirtual 105, 3) := by decide +kernel
theorem dX8_secondsLeft_5 : decode cX8_secondsLeft 5 = .ok (.ifCond .ne 5, 3) := by decide +kernel
theorem dX8_secondsLeft_8 : decode cX8_secondsLeft 8 = .ok (.iconst (-1), 1) := by decide +kernel
theorem dX8_secondsLeft_9 : decode cX8_secondsLeft 9 = .ok (.ireturn, 1) := by decide +kernel
theorem dX8_secondsLeft_10 : decode cX8_secondsLeft 10 = .ok (.aload_n 0, 1) := by decide +kernel
theorem dX8_secondsLeft_11 : decode cX8_secondsLeft 11 = .ok (.invokevirtual 88, 3) := by decide +kernel
theorem dX8_secondsLeft_14 : decode cX8_secondsLeft 14 = .ok (.ifCond .eq 12, 3) := by decide +kernel
theorem dX8_secondsLeft_17 : decode cX8_secondsLeft 17 = .ok (.aload_n 0, 1) := by decide +kernel
theorem dX8_secondsLeft_18 : decode cX8_secondsLeft 18 = .ok (.iload_n 1, 1) := by decide +kernel
theorem dX8_secondsLeft_19 : decode cX8_secondsLeft 19 = .ok (.invokevirtual 109, 3) := by decide +kernel
theorem dX8_secondsLeft_22 : decode cX8_secondsLeft 22 = .ok (.iconst 2, 1) := by decide +kernel
theorem dX8_secondsLeft_23 : decode cX8_secondsLeft 23 = .ok (.if_icmp .eq 6, 3) := by decide +kernel
theorem dX8_secondsLeft_26 : decode cX8_secondsLeft 26 = .ok (.bipush (-4), 2) := by decide +kernel
theorem dX8_secondsLeft_28 : decode cX8_secondsLeft 28 = .ok (.ireturn, 1) := by decide +kernel
theorem dX8_secondsLeft_29 : decode cX8_secondsLeft 29 = .ok (.aload_n 0, 1) := by decide +kernel
theorem dX8_secondsLeft_30 : decode cX8_secondsLeft 30 = .ok (.aload_n 0, 1) := by decide +kernel
theorem dX8_secondsLeft_31 : decode cX8_secondsLeft 31 = .ok (.invokevirtual 26, 3) := by decide +kernel
theorem dX8_secondsLeft_34 : decode cX8_secondsLeft 34 = .ok (.invokevirtual 211, 3) := by decide +kernel
theorem dX8_secondsLeft_37 : decode cX8_secondsLeft 37 = .ok (.istore_n 2, 1) := by decide +kernel
theorem dX8_secondsLeft_38 : decode cX8_secondsLeft 38 = .ok (.iload_n 2, 1) := by decide +kernel
theorem dX8_secondsLeft_39 : decode cX8_secondsLeft 39 = .ok (.bipush (-5), 2) := by decide +kernel
theorem dX8_secondsLeft_41 : decode cX8_secondsLeft 41 = .ok (.if_icmp .ne 7, 3) := by decide +kernel
theorem dX8_secondsLeft_44 : decode cX8_secondsLeft 44 = .ok (.iconst 0, 1) := by decide +kernel
theorem dX8_secondsLeft_45 : decode cX8_secondsLeft 45 = .ok (.goto 22, 3) := by decide +kernel
theorem dX8_secondsLeft_48 : decode cX8_secondsLeft 48 = .ok (.aload_n 0, 1) := by decide +kernel
theorem dX8_secondsLeft_49 : decode cX8_secondsLeft 49 = .ok (.aload_n 0, 1) := by decide +kernel
theorem dX8_secondsLeft_50 : decode cX8_secondsLeft 50 = .ok (.invokevirtual 26, 3) := by decide +kernel
theorem dX8_secondsLeft_53 : decode cX8_secondsLeft 53 = .ok (.iload_n 2, 1) := by decide +kernel
theorem dX8_secondsLeft_54 : decode cX8_secondsLeft 54 = .ok (.invokevirtual 53, 3) := by decide +kernel
theorem dX8_secondsLeft_57 : decode cX8_secondsLeft 57 = .ok (.aload_n 0, 1) := by decide +kernel
theorem dX8_secondsLeft_58 : decode cX8_secondsLeft 58 = .ok (.getfield 7, 3) := by decide +kernel
theorem dX8_secondsLeft_61 : decode cX8_secondsLeft 61 = .ok (.bipush 7, 2) := by decide +kernel
theorem dX8_secondsLeft_63 : decode cX8_secondsLeft 63 = .ok (.iload_n 1, 1) := by decide +kernel
theorem dX8_secondsLeft_64 : decode cX8_secondsLeft 64 = .ok (.iadd, 1) := by decide +kernel
theorem dX8_secondsLeft_65 : decode cX8_secondsLeft 65 = .ok (.iaload, 1) := by decide +kernel
theorem dX8_secondsLeft_66 : decode cX8_secondsLeft 66 = .ok (.imul, 1) := by decide +kernel
theorem dX8_secondsLeft_67 : decode cX8_secondsLeft 67 = .ok (.istore_n 3, 1) := by decide +kernel
theorem dX8_secondsLeft_68 : decode cX8_secondsLeft 68 = .ok (.iload_n 3, 1) := by decide +kernel
theorem dX8_secondsLeft_69 : decode cX8_secondsLeft 69 = .ok (.ifCond .ne 6, 3) := by decide +kernel
theorem dX8_secondsLeft_72 : decode cX8_secondsLeft 72 = .ok (.bipush (-5), 2) := by decide +kernel
theorem dX8_secondsLeft_74 : decode cX8_secondsLeft 74 = .ok (.ireturn, 1) := by decide +kernel
theorem dX8_secondsLeft_75 : decode cX8_secondsLeft 75 = .ok (.iload_n 3, 1) := by decide +kernel
theorem dX8_secondsLeft_76 : decode cX8_secondsLeft 76 = .ok (.iconst 1, 1) := by decide +kernel
theorem dX8_secondsLeft_77 : decode cX8_secondsLeft 77 = .ok (.isub, 1) := by decide +kernel
theorem dX8_secondsLeft_78 : decode cX8_secondsLeft 78 = .ok (.bipush 100, 2) := by decide +kernel
theorem dX8_secondsLeft_80 : decode cX8_secondsLeft 80 = .ok (.idiv, 1) := by decide +kernel
theorem dX8_secondsLeft_81 : decode cX8_secondsLeft 81 = .ok (.aload_n 0, 1) := by decide +kernel
theorem dX8_secondsLeft_82 : decode cX8_secondsLeft 82 = .ok (.getfield 7, 3) := by decide +kernel
theorem dX8_secondsLeft_85 : decode cX8_secondsLeft 85 = .ok (.iconst 0, 1) := by decide +kernel
theorem dX8_secondsLeft_86 : decode cX8_secondsLeft 86 = .ok (.iaload, 1) := by decide +kernel
theorem dX8_secondsLeft_87 : decode cX8_secondsLeft 87 = .ok (.aload_n 0, 1) := by decide +kernel
theorem dX8_secondsLeft_88 : decode cX8_secondsLeft 88 = .ok (.invokevirtual 95, 3) := by decide +kernel
theorem dX8_secondsLeft_91 : decode cX8_secondsLeft 91 = .ok (.isub, 1) := by decide +kernel
theorem dX8_secondsLeft_92 : decode cX8_secondsLeft 92 = .ok (.aload_n 0, 1) := by decide +kernel
theorem dX8_secondsLeft_93 : decode cX8_secondsLeft 93 = .ok (.aload_n 0, 1) := by decide +kernel
theorem dX8_secondsLeft_94 : decode cX8_secondsLeft 94 = .ok (.invokevirtual 26, 3) := by decide +kernel
theorem dX8_secondsLeft_97 : decode cX8_secondsLeft 97 = .ok (.iload_n 1, 1) := by decide +kernel
theorem dX8_secondsLeft_98 : decode cX8_secondsLeft 98 = .ok (.iconst 3, 1) := by decide +kernel
theorem dX8_secondsLeft_99 : decode cX8_secondsLeft 99 = .ok (.invokevirtual 34, 3) := by decide +kernel
theorem dX8_secondsLeft_102 : decode cX8_secondsLeft 102 = .ok (.iadd, 1) := by decide +kernel
theorem dX8_secondsLeft_103 : decode cX8_secondsLeft 103 = .ok (.isub, 1) := by decide +kernel
theorem dX8_secondsLeft_104 : decode cX8_secondsLeft 104 = .ok (.istore 4, 2) := by decide +kernel
theorem dX8_secondsLeft_106 : decode cX8_secondsLeft 106 = .ok (.iload 4, 2) := by decide +kernel
theorem dX8_secondsLeft_108 : decode cX8_secondsLeft 108 = .ok (.ifCond .ge 8, 3) := by decide +kernel
theorem dX8_secondsLeft_111 : decode cX8_secondsLeft 111 = .ok (.bipush (-5), 2) := by decide +kernel
theorem dX8_secondsLeft_113 : decode cX8_secondsLeft 113 = .ok (.goto 5, 3) := by decide +kernel
theorem dX8_secondsLeft_116 : decode cX8_secondsLeft 116 = .ok (.iload 4, 2) := by decide +kernel
theorem dX8_secondsLeft_118 : decode cX8_secondsLeft 118 = .ok (.ireturn, 1) := by decide +kernel
theorem dX8_rankIfDisqualified_0 : decode cX8_rankIfDisqualified 0 = .ok (.aload_n 0, 1) := by decide +kernel
theorem dX8_rankIfDisqualified_1 : decode cX8_rankIfDisqualified 1 = .ok (.iload_n 1, 1) := by decide +kernel
theorem dX8_rankIfDisqualified_2 : decode cX8_rankIfDisqualified 2 = .ok (.invokevirtual 105, 3) := by decide +kernel
theorem dX8_rankIfDisqualified_5 : decode cX8_rankIfDisqualified 5 = .ok (.ifCond .eq 11, 3) := by decide +kernel
theorem dX8_rankIfDisqualified_8 : decode cX8_rankIfDisqualified 8 = .ok (.aload_n 0, 1) := by decide +kernel
theorem dX8_rankIfDisqualified_9 : decode cX8_rankIfDisqualified 9 = .ok (.iload_n 2, 1) := by decide +kernel
theorem dX8_rankIfDisqualified_10 : decode cX8_rankIfDisqualified 10 = .ok (.invokevirtual 205, 3) := by decide +kernel
theorem dX8_rankIfDisqualified_13 : decode cX8_rankIfDisqualified 13 = .ok (.ifCond .ne 5, 3) := by decide +kernel
theorem dX8_rankIfDisqualified_16 : decode cX8_rankIfDisqualified 16 = .ok (.iconst (-1), 1) := by decide +kernel
theorem dX8_rankIfDisqualified_17 : decode cX8_rankIfDisqualified 17 = .ok (.ireturn, 1) := by decide +kernel
theorem dX8_rankIfDisqualified_18 : decode cX8_rankIfDisqualified 18 = .ok (.aload_n 0, 1) := by decide +kernel
theorem dX8_rankIfDisqualified_19 : decode cX8_rankIfDisqualified 19 = .ok (.iload_n 2, 1) := by decide +kernel
theorem dX8_rankIfDisqualified_20 : decode cX8_rankIfDisqualified 20 = .ok (.iconst 3, 1) := by decide +kernel
theorem dX8_rankIfDisqualified_21 : decode cX8_rankIfDisqualified 21 = .ok (.invokevirtual 30, 3) := by decide +kernel
theorem dX8_rankIfDisqualified_24 : decode cX8_rankIfDisqualified 24 = .ok (.ifCond .ne 6, 3) := by decide +kernel
theorem dX8_rankIfDisqualified_27 : decode cX8_rankIfDisqualified 27 = .ok (.bipush (-4), 2) := by decide +kernel
theorem dX8_rankIfDisqualified_29 : decode cX8_rankIfDisqualified 29 = .ok (.ireturn, 1) := by decide +kernel
theorem dX8_rankIfDisqualified_30 : decode cX8_rankIfDisqualified 30 = .ok (.aload_n 0, 1) := by decide +kernel
theorem dX8_rankIfDisqualified_31 : decode cX8_rankIfDisqualified 31 = .ok (.iload_n 2, 1) := by decide +kernel
theorem dX8_rankIfDisqualified_32 : decode cX8_rankIfDisqualified 32 = .ok (.iload_n 1, 1) := by decide +kernel
theorem dX8_rankIfDisqualified_33 : decode cX8_rankIfDisqualified 33 = .ok (.iconst 4, 1) := by decide +kernel
theorem dX8_rankIfDisqualified_34 : decode cX8_rankIfDisqualified 34 = .ok (.invokevirtual 34, 3) := by decide +kernel
theorem dX8_rankIfDisqualified_37 : decode cX8_rankIfDisqualified 37 = .ok (.istore_n 3, 1) := by decide +kernel
theorem dX8_rankIfDisqualified_38 : decode cX8_rankIfDisqualified 38 = .ok (.aload_n 0, 1) := by decide +kernel
theorem dX8_rankIfDisqualified_39 : decode cX8_rankIfDisqualified 39 = .ok (.iload_n 2, 1) := by decide +kernel
theorem dX8_rankIfDisqualified_40 : decode cX8_rankIfDisqualified 40 = .ok (.iload_n 1, 1) := by decide +kernel
theorem dX8_rankIfDisqualified_41 : decode cX8_rankIfDisqualified 41 = .ok (.iconst 4, 1) := by decide +kernel
theorem dX8_rankIfDisqualified_42 : decode cX8_rankIfDisqualified 42 = .ok (.iconst 1, 1) := by decide +kernel
theorem dX8_rankIfDisqualified_43 : decode cX8_rankIfDisqualified 43 = .ok (.invokevirtual 84, 3) := by decide +kernel
theorem dX8_rankIfDisqualified_46 : decode cX8_rankIfDisqualified 46 = .ok (.aload_n 0, 1) := by decide +kernel
theorem dX8_rankIfDisqualified_47 : decode cX8_rankIfDisqualified 47 = .ok (.iload_n 1, 1) := by decide +kernel
theorem dX8_rankIfDisqualified_48 : decode cX8_rankIfDisqualified 48 = .ok (.invokevirtual 208, 3) := by decide +kernel
theorem dX8_rankIfDisqualified_51 : decode cX8_rankIfDisqualified 51 = .ok (.istore 4, 2) := by decide +kernel
theorem dX8_rankIfDisqualified_53 : decode cX8_rankIfDisqualified 53 = .ok (.aload_n 0, 1) := by decide +kernel
theorem dX8_rankIfDisqualified_54 : decode cX8_rankIfDisqualified 54 = .ok (.iload_n 2, 1) := by decide +kernel
theorem dX8_rankIfDisqualified_55 : decode cX8_rankIfDisqualified 55 = .ok (.iload_n 1, 1) := by decide +kernel
theorem dX8_rankIfDisqualified_56 : decode cX8_rankIfDisqualified 56 = .ok (.iconst 4, 1) := by decide +kernel
theorem dX8_rankIfDisqualified_57 : decode cX8_rankIfDisqualified 57 = .ok (.iload_n 3, 1) := by decide +kernel
theorem dX8_rankIfDisqualified_58 : decode cX8_rankIfDisqualified 58 = .ok (.invokevirtual 84, 3) := by decide +kernel
theorem dX8_rankIfDisqualified_61 : decode cX8_rankIfDisqualified 61 = .ok (.iload 4, 2) := by decide +kernel
theorem dX8_rankIfDisqualified_63 : decode cX8_rankIfDisqualified 63 = .ok (.ireturn, 1) := by decide +kernel
theorem dX8_mean_0 : decode cX8_mean 0 = .ok (.aload_n 0, 1) := by decide +kernel
theorem dX8_mean_1 : decode cX8_mean 1 = .ok (.iload_n 1, 1) := by decide +kernel
theorem dX8_mean_2 : decode cX8_mean 2 = .ok (.invokevirtual 105, 3) := by decide +kernel
theorem dX8_mean_5 : decode cX8_mean 5 = .ok (.ifCond .eq 10, 3) := by decide +kernel
theorem dX8_mean_8 : decode cX8_mean 8 = .ok (.aload_n 0, 1) := by decide +kernel
theorem dX8_mean_9 : decode cX8_mean 9 = .ok (.invokevirtual 59, 3) := by decide +kernel
theorem dX8_mean_12 : decode cX8_mean 12 = .ok (.ifCond .ne 7, 3) := by decide +kernel
theorem dX8_mean_15 : decode cX8_mean 15 = .ok (.fconst 0, 1) := by decide +kernel
theorem dX8_mean_16 : decode cX8_mean 16 = .ok (.goto 15, 3) := by decide +kernel
theorem dX8_mean_19 : decode cX8_mean 19 = .ok (.aload_n 0, 1) := by decide +kernel
theorem dX8_mean_20 : decode cX8_mean 20 = .ok (.iload_n 1, 1) := by decide +kernel
theorem dX8_mean_21 : decode cX8_mean 21 = .ok (.invokevirtual 69, 3) := by decide +kernel
theorem dX8_mean_24 : decode cX8_mean 24 = .ok (.i2f, 1) := by decide +kernel
theorem dX8_mean_25 : decode cX8_mean 25 = .ok (.aload_n 0, 1) := by decide +kernel
theorem dX8_mean_26 : decode cX8_mean 26 = .ok (.invokevirtual 59, 3) := by decide +kernel
theorem dX8_mean_29 : decode cX8_mean 29 = .ok (.i2f, 1) := by decide +kernel
theorem dX8_mean_30 : decode cX8_mean 30 = .ok (.fdiv, 1) := by decide +kernel
theorem dX8_mean_31 : decode cX8_mean 31 = .ok (.freturn, 1) := by decide +kernel
theorem dJ5_init_d00df_0 : decode cJ5_init_d00df 0 = .ok (.aload_n 0, 1) := by decide +kernel
theorem dJ5_init_d00df_1 : decode cJ5_init_d00df 1 = .ok (.invokespecial 3, 3) := by decide +kernel
theorem dJ5_init_d00df_4 : decode cJ5_init_d00df 4 = .ok (.getstatic 18, 3) := by decide +kernel
theorem dJ5_init_d00df_7 : decode cJ5_init_d00df 7 = .ok (.ifCond .eq 18, 3) := by decide +kernel
theorem dJ5_init_d00df_10 : decode cJ5_init_d00df 10 = .ok (.aload_n 0, 1) := by decide +kernel
theorem dJ5_init_d00df_11 : decode cJ5_init_d00df 11 = .ok (.iload_n 1, 1) := by decide +kernel
theorem dJ5_init_d00df_12 : decode cJ5_init_d00df 12 = .ok (.newarray .byte, 2) := by decide +kernel
theorem dJ5_init_d00df_14 : decode cJ5_init_d00df 14 = .ok (.putfield 15, 3) := by decide +kernel
theorem dJ5_init_d00df_17 : decode cJ5_init_d00df 17 = .ok (.aload_n 0, 1) := by decide +kernel
theorem dJ5_init_d00df_18 : decode cJ5_init_d00df 18 = .ok (.iconst 0, 1) := by decide +kernel
theorem dJ5_init_d00df_19 : decode cJ5_init_d00df 19 = .ok (.putfield 22, 3) := by decide +kernel
theorem dJ5_init_d00df_22 : decode cJ5_init_d00df 22 = .ok (.goto 16, 3) := by decide +kernel
theorem dJ5_init_d00df_25 : decode cJ5_init_d00df 25 = .ok (.aload_n 0, 1) := by decide +kernel
theorem dJ5_init_d00df_26 : decode cJ5_init_d00df 26 = .ok (.iload_n 1, 1) := by decide +kernel
theorem dJ5_init_d00df_27 : decode cJ5_init_d00df 27 = .ok (.invokestatic 26, 3) := by decide +kernel
theorem dJ5_init_d00df_30 : decode cJ5_init_d00df 30 = .ok (.putfield 15, 3) := by decide +kernel
theorem dJ5_init_d00df_33 : decode cJ5_init_d00df 33 = .ok (.aload_n 0, 1) := by decide +kernel
theorem dJ5_init_d00df_34 : decode cJ5_init_d00df 34 = .ok (.iconst 1, 1) := by decide +kernel
theorem dJ5_init_d00df_35 : decode cJ5_init_d00df 35 = .ok (.putfield 22, 3) := by decide +kernel
theorem dJ5_init_d00df_38 : decode cJ5_init_d00df 38 = .ok (.return_, 1) := by decide +kernel
theorem dJ5_length_8abf5_0 : decode cJ5_length_8abf5 0 = .ok (.aload_n 0, 1) := by decide +kernel
theorem dJ5_length_8abf5_1 : decode cJ5_length_8abf5 1 = .ok (.getfield 79, 3) := by decide +kernel
theorem dJ5_length_8abf5_4 : decode cJ5_length_8abf5 4 = .ok (.ireturn, 1) := by decide +kernel
theorem dJ5_ensureCapacityInternal_d00df_0 : decode cJ5_ensureCapacityInternal_d00df 0 = .ok (.aload_n 0, 1) := by decide +kernel
theorem dJ5_ensureCapacityInternal_d00df_1 : decode cJ5_ensureCapacityInternal_d00df 1 = .ok (.getfield 15, 3) := by decide +kernel
theorem dJ5_ensureCapacityInternal_d00df_4 : decode cJ5_ensureCapacityInternal_d00df 4 = .ok (.arraylength, 1) := by decide +kernel
theorem dJ5_ensureCapacityInternal_d00df_5 : decode cJ5_ensureCapacityInternal_d00df 5 = .ok (.aload_n 0, 1) := by decide +kernel
theorem dJ5_ensureCapacityInternal_d00df_6 : decode cJ5_ensureCapacityInternal_d00df 6 = .ok (.getfield 22, 3) := by decide +kernel
theorem dJ5_ensureCapacityInternal_d00df_9 : decode cJ5_ensureCapacityInternal_d00df 9 = .ok (.ishr, 1) := by decide +kernel
theorem dJ5_ensureCapacityInternal_d00df_10 : decode cJ5_ensureCapacityInternal_d00df 10 = .ok (.istore_n 2, 1) := by decide +kernel
theorem dJ5_ensureCapacityInternal_d00df_11 : decode cJ5_ensureCapacityInternal_d00df 11 = .ok (.iload_n 1, 1) := by decide +kernel
theorem dJ5_ensureCapacityInternal_d00df_12 : decode cJ5_ensureCapacityInternal_d00df 12 = .ok (.iload_n 2, 1) := by decide +kernel
theorem dJ5_ensureCapacityInternal_d00df_13 : decode cJ5_ensureCapacityInternal_d00df 13 = .ok (.isub, 1) := by decide +kernel
theorem dJ5_ensureCapacityInternal_d00df_14 : decode cJ5_ensureCapacityInternal_d00df 14 = .ok (.ifCond .le 24, 3) := by decide +kernel
theorem dJ5_ensureCapacityInternal_d00df_17 : decode cJ5_ensureCapacityInternal_d00df 17 = .ok (.aload_n 0, 1) := by decide +kernel
theorem dJ5_ensureCapacityInternal_d00df_18 : decode cJ5_ensureCapacityInternal_d00df 18 = .ok (.aload_n 0, 1) := by decide +kernel
theorem dJ5_ensureCapacityInternal_d00df_19 : decode cJ5_ensureCapacityInternal_d00df 19 = .ok (.getfield 15, 3) := by decide +kernel
theorem dJ5_ensureCapacityInternal_d00df_22 : decode cJ5_ensureCapacityInternal_d00df 22 = .ok (.aload_n 0, 1) := by decide +kernel
theorem dJ5_ensureCapacityInternal_d00df_23 : decode cJ5_ensureCapacityInternal_d00df 23 = .ok (.iload_n 1, 1) := by decide +kernel
theorem dJ5_ensureCapacityInternal_d00df_24 : decode cJ5_ensureCapacityInternal_d00df 24 = .ok (.invokevirtual 104, 3) := by decide +kernel
theorem dJ5_ensureCapacityInternal_d00df_27 : decode cJ5_ensureCapacityInternal_d00df 27 = .ok (.aload_n 0, 1) := by decide +kernel
theorem dJ5_ensureCapacityInternal_d00df_28 : decode cJ5_ensureCapacityInternal_d00df 28 = .ok (.getfield 22, 3) := by decide +kernel
theorem dJ5_ensureCapacityInternal_d00df_31 : decode cJ5_ensureCapacityInternal_d00df 31 = .ok (.ishl, 1) := by decide +kernel
theorem dJ5_ensureCapacityInternal_d00df_32 : decode cJ5_ensureCapacityInternal_d00df 32 = .ok (.invokestatic 108, 3) := by decide +kernel
theorem dJ5_ensureCapacityInternal_d00df_35 : decode cJ5_ensureCapacityInternal_d00df 35 = .ok (.putfield 15, 3) := by decide +kernel
theorem dJ5_ensureCapacityInternal_d00df_38 : decode cJ5_ensureCapacityInternal_d00df 38 = .ok (.return_, 1) := by decide +kernel
theorem dJ5_newCapacity_0f7a4_0 : decode cJ5_newCapacity_0f7a4 0 = .ok (.aload_n 0, 1) := by decide +kernel
theorem dJ5_newCapacity_0f7a4_1 : decode cJ5_newCapacity_0f7a4 1 = .ok (.getfield 15, 3) := by decide +kernel
theorem dJ5_newCapacity_0f7a4_4 : decode cJ5_newCapacity_0f7a4 4 = .ok (.arraylength, 1) := by decide +kernel
theorem dJ5_newCapacity_0f7a4_5 : decode cJ5_newCapacity_0f7a4 5 = .ok (.istore_n 2, 1) := by decide +kernel
theorem dJ5_newCapacity_0f7a4_6 : decode cJ5_newCapacity_0f7a4 6 = .ok (.iload_n 1, 1) := by decide +kernel
theorem dJ5_newCapacity_0f7a4_7 : decode cJ5_newCapacity_0f7a4 7 = .ok (.aload_n 0, 1) := by decide +kernel
theorem dJ5_newCapacity_0f7a4_8 : decode cJ5_newCapacity_0f7a4 8 = .ok (.getfield 22, 3) := by decide +kernel
theorem dJ5_newCapacity_0f7a4_11 : decode cJ5_newCapacity_0f7a4 11 = .ok (.ishl, 1) := by decide +kernel
theorem dJ5_newCapacity_0f7a4_12 : decode cJ5_newCapacity_0f7a4 12 = .ok (.istore_n 3, 1) := by decide +kernel
theorem dJ5_newCapacity_0f7a4_13 : decode cJ5_newCapacity_0f7a4 13 = .ok (.iload_n 3, 1) := by decide +kernel
theorem dJ5_newCapacity_0f7a4_14 : decode cJ5_newCapacity_0f7a4 14 = .ok (.iload_n 2, 1) := by decide +kernel
theorem dJ5_newCapacity_0f7a4_15 : decode cJ5_newCapacity_0f7a4 15 = .ok (.isub, 1) := by decide +kernel
theorem dJ5_newCapacity_0f7a4_16 : decode cJ5_newCapacity_0f7a4 16 = .ok (.istore 4, 2) := by decide +kernel
theorem dJ5_newCapacity_0f7a4_18 : decode cJ5_newCapacity_0f7a4 18 = .ok (.iload_n 2, 1) := by decide +kernel
theorem dJ5_newCapacity_0f7a4_19 : decode cJ5_newCapacity_0f7a4 19 = .ok (.iload 4, 2) := by decide +kernel
theorem dJ5_newCapacity_0f7a4_21 : decode cJ5_newCapacity_0f7a4 21 = .ok (.iload_n 2, 1) := by decide +kernel
theorem dJ5_newCapacity_0f7a4_22 : decode cJ5_newCapacity_0f7a4 22 = .ok (.iconst 2, 1) := by decide +kernel
theorem dJ5_newCapacity_0f7a4_23 : decode cJ5_newCapacity_0f7a4 23 = .ok (.aload_n 0, 1) := by decide +kernel
theorem dJ5_newCapacity_0f7a4_24 : decode cJ5_newCapacity_0f7a4 24 = .ok (.getfield 22, 3) := by decide +kernel
theorem dJ5_newCapacity_0f7a4_27 : decode cJ5_newCapacity_0f7a4 27 = .ok (.ishl, 1) := by decide +kernel
theorem dJ5_newCapacity_0f7a4_28 : decode cJ5_newCapacity_0f7a4 28 = .ok (.iadd, 1) := by decide +kernel
theorem dJ5_newCapacity_0f7a4_29 : decode cJ5_newCapacity_0f7a4 29 = .ok (.invokestatic 114, 3) := by decide +kernel
theorem dJ5_newCapacity_0f7a4_32 : decode cJ5_newCapacity_0f7a4 32 = .ok (.istore 5, 2) := by decide +kernel
theorem dJ5_newCapacity_0f7a4_34 : decode cJ5_newCapacity_0f7a4 34 = .ok (.iload 5, 2) := by decide +kernel
theorem dJ5_newCapacity_0f7a4_36 : decode cJ5_newCapacity_0f7a4 36 = .ok (.ldc 39, 2) := by decide +kernel
theorem dJ5_newCapacity_0f7a4_38 : decode cJ5_newCapacity_0f7a4 38 = .ok (.if_icmp .ne 13, 3) := by decide +kernel
theorem dJ5_newCapacity_0f7a4_41 : decode cJ5_newCapacity_0f7a4 41 = .ok (.new 120, 3) := by decide +kernel
theorem dJ5_newCapacity_0f7a4_44 : decode cJ5_newCapacity_0f7a4 44 = .ok (.dup, 1) := by decide +kernel
theorem dJ5_newCapacity_0f7a4_45 : decode cJ5_newCapacity_0f7a4 45 = .ok (.ldc 122, 2) := by decide +kernel
theorem dJ5_newCapacity_0f7a4_47 : decode cJ5_newCapacity_0f7a4 47 = .ok (.invokespecial 124, 3) := by decide +kernel
theorem dJ5_newCapacity_0f7a4_50 : decode cJ5_newCapacity_0f7a4 50 = .ok (.athrow, 1) := by decide +kernel
theorem dJ5_newCapacity_0f7a4_51 : decode cJ5_newCapacity_0f7a4 51 = .ok (.iload 5, 2) := by decide +kernel
theorem dJ5_newCapacity_0f7a4_53 : decode cJ5_newCapacity_0f7a4 53 = .ok (.aload_n 0, 1) := by decide +kernel
theorem dJ5_newCapacity_0f7a4_54 : decode cJ5_newCapacity_0f7a4 54 = .ok (.getfield 22, 3) := by decide +kernel
theorem dJ5_newCapacity_0f7a4_57 : decode cJ5_newCapacity_0f7a4 57 = .ok (.ishr, 1) := by decide +kernel
theorem dJ5_newCapacity_0f7a4_58 : decode cJ5_newCapacity_0f7a4 58 = .ok (.ireturn, 1) := by decide +kernel
theorem dJ5_inflate_da8c8_0 : decode cJ5_inflate_da8c8 0 = .ok (.aload_n 0, 1) := by decide +kernel
theorem dJ5_inflate_da8c8_1 : decode cJ5_inflate_da8c8 1 = .ok (.invokevirtual 83, 3) := by decide +kernel
theorem dJ5_inflate_da8c8_4 : decode cJ5_inflate_da8c8 4 = .ok (.ifCond .ne 4, 3) := by decide +kernel
theorem dJ5_inflate_da8c8_7 : decode cJ5_inflate_da8c8 7 = .ok (.return_, 1) := by decide +kernel
theorem dJ5_inflate_da8c8_8 : decode cJ5_inflate_da8c8 8 = .ok (.aload_n 0, 1) := by decide +kernel
theorem dJ5_inflate_da8c8_9 : decode cJ5_inflate_da8c8 9 = .ok (.getfield 15, 3) := by decide +kernel
theorem dJ5_inflate_da8c8_12 : decode cJ5_inflate_da8c8 12 = .ok (.arraylength, 1) := by decide +kernel
theorem dJ5_inflate_da8c8_13 : decode cJ5_inflate_da8c8 13 = .ok (.invokestatic 26, 3) := by decide +kernel
theorem dJ5_inflate_da8c8_16 : decode cJ5_inflate_da8c8 16 = .ok (.astore_n 1, 1) := by decide +kernel
theorem dJ5_inflate_da8c8_17 : decode cJ5_inflate_da8c8 17 = .ok (.aload_n 0, 1) := by decide +kernel
theorem dJ5_inflate_da8c8_18 : decode cJ5_inflate_da8c8 18 = .ok (.getfield 15, 3) := by decide +kernel
theorem dJ5_inflate_da8c8_21 : decode cJ5_inflate_da8c8 21 = .ok (.iconst 0, 1) := by decide +kernel
theorem dJ5_inflate_da8c8_22 : decode cJ5_inflate_da8c8 22 = .ok (.aload_n 1, 1) := by decide +kernel
theorem dJ5_inflate_da8c8_23 : decode cJ5_inflate_da8c8 23 = .ok (.iconst 0, 1) := by decide +kernel
theorem dJ5_inflate_da8c8_24 : decode cJ5_inflate_da8c8 24 = .ok (.aload_n 0, 1) := by decide +kernel
theorem dJ5_inflate_da8c8_25 : decode cJ5_inflate_da8c8 25 = .ok (.getfield 79, 3) := by decide +kernel
theorem dJ5_inflate_da8c8_28 : decode cJ5_inflate_da8c8 28 = .ok (.invokestatic 125, 3) := by decide +kernel
theorem dJ5_inflate_da8c8_31 : decode cJ5_inflate_da8c8 31 = .ok (.aload_n 0, 1) := by decide +kernel
theorem dJ5_inflate_da8c8_32 : decode cJ5_inflate_da8c8 32 = .ok (.aload_n 1, 1) := by decide +kernel
theorem dJ5_inflate_da8c8_33 : decode cJ5_inflate_da8c8 33 = .ok (.putfield 15, 3) := by decide +kernel
theorem dJ5_inflate_da8c8_36 : decode cJ5_inflate_da8c8 36 = .ok (.aload_n 0, 1) := by decide +kernel
theorem dJ5_inflate_da8c8_37 : decode cJ5_inflate_da8c8 37 = .ok (.iconst 1, 1) := by decide +kernel
theorem dJ5_inflate_da8c8_38 : decode cJ5_inflate_da8c8 38 = .ok (.putfield 22, 3) := by decide +kernel
theorem dJ5_inflate_da8c8_41 : decode cJ5_inflate_da8c8 41 = .ok (.return_, 1) := by decide +kernel
theorem dJ5_setLength_d00df_0 : decode cJ5_setLength_d00df 0 = .ok (.iload_n 1, 1) := by decide +kernel
theorem dJ5_setLength_d00df_1 : decode cJ5_setLength_d00df 1 = .ok (.ifCond .ge 12, 3) := by decide +kernel
theorem dJ5_setLength_d00df_4 : decode cJ5_setLength_d00df 4 = .ok (.new 129, 3) := by decide +kernel
theorem dJ5_setLength_d00df_7 : decode cJ5_setLength_d00df 7 = .ok (.dup, 1) := by decide +kernel
theorem dJ5_setLength_d00df_8 : decode cJ5_setLength_d00df 8 = .ok (.iload_n 1, 1) := by decide +kernel
theorem dJ5_setLength_d00df_9 : decode cJ5_setLength_d00df 9 = .ok (.invokespecial 131, 3) := by decide +kernel
theorem dJ5_setLength_d00df_12 : decode cJ5_setLength_d00df 12 = .ok (.athrow, 1) := by decide +kernel
theorem dJ5_setLength_d00df_13 : decode cJ5_setLength_d00df 13 = .ok (.aload_n 0, 1) := by decide +kernel
theorem dJ5_setLength_d00df_14 : decode cJ5_setLength_d00df 14 = .ok (.iload_n 1, 1) := by decide +kernel
theorem dJ5_setLength_d00df_15 : decode cJ5_setLength_d00df 15 = .ok (.invokevirtual 100, 3) := by decide +kernel
theorem dJ5_setLength_d00df_18 : decode cJ5_setLength_d00df 18 = .ok (.aload_n 0, 1) := by decide +kernel
theorem dJ5_setLength_d00df_19 : decode cJ5_setLength_d00df 19 = .ok (.getfield 79, 3) := by decide +kernel
theorem dJ5_setLength_d00df_22 : decode cJ5_setLength_d00df 22 = .ok (.iload_n 1, 1) := by decide +kernel
theorem dJ5_setLength_d00df_23 : decode cJ5_setLength_d00df 23 = .ok (.if_icmp .ge 40, 3) := by decide +kernel
theorem dJ5_setLength_d00df_26 : decode cJ5_setLength_d00df 26 = .ok (.aload_n 0, 1) := by decide +kernel
theorem dJ5_setLength_d00df_27 : decode cJ5_setLength_d00df 27 = .ok (.invokevirtual 83, 3) := by decide +kernel
theorem dJ5_setLength_d00df_30 : decode cJ5_setLength_d00df 30 = .ok (.ifCond .eq 18, 3) := by decide +kernel
theorem dJ5_setLength_d00df_33 : decode cJ5_setLength_d00df 33 = .ok (.aload_n 0, 1) := by decide +kernel
theorem dJ5_setLength_d00df_34 : decode cJ5_setLength_d00df 34 = .ok (.getfield 15, 3) := by decide +kernel
theorem dJ5_setLength_d00df_37 : decode cJ5_setLength_d00df 37 = .ok (.aload_n 0, 1) := by decide +kernel
theorem dJ5_setLength_d00df_38 : decode cJ5_setLength_d00df 38 = .ok (.getfield 79, 3) := by decide +kernel
theorem dJ5_setLength_d00df_41 : decode cJ5_setLength_d00df 41 = .ok (.iload_n 1, 1) := by decide +kernel
theorem dJ5_setLength_d00df_42 : decode cJ5_setLength_d00df 42 = .ok (.invokestatic 133, 3) := by decide +kernel
theorem dJ5_setLength_d00df_45 : decode cJ5_setLength_d00df 45 = .ok (.goto 31, 3) := by decide +kernel
theorem dJ5_setLength_d00df_48 : decode cJ5_setLength_d00df 48 = .ok (.aload_n 0, 1) := by decide +kernel
theorem dJ5_setLength_d00df_49 : decode cJ5_setLength_d00df 49 = .ok (.getfield 15, 3) := by decide +kernel
theorem dJ5_setLength_d00df_52 : decode cJ5_setLength_d00df 52 = .ok (.aload_n 0, 1) := by decide +kernel
theorem dJ5_setLength_d00df_53 : decode cJ5_setLength_d00df 53 = .ok (.getfield 79, 3) := by decide +kernel
theorem dJ5_setLength_d00df_56 : decode cJ5_setLength_d00df 56 = .ok (.iload_n 1, 1) := by decide +kernel
theorem dJ5_setLength_d00df_57 : decode cJ5_setLength_d00df 57 = .ok (.invokestatic 137, 3) := by decide +kernel
theorem dJ5_setLength_d00df_60 : decode cJ5_setLength_d00df 60 = .ok (.goto 16, 3) := by decide +kernel
theorem dJ5_setLength_d00df_63 : decode cJ5_setLength_d00df 63 = .ok (.aload_n 0, 1) := by decide +kernel
theorem dJ5_setLength_d00df_64 : decode cJ5_setLength_d00df 64 = .ok (.getfield 79, 3) := by decide +kernel
theorem dJ5_setLength_d00df_67 : decode cJ5_setLength_d00df 67 = .ok (.iload_n 1, 1) := by decide +kernel
theorem dJ5_setLength_d00df_68 : decode cJ5_setLength_d00df 68 = .ok (.if_icmp .le 8, 3) := by decide +kernel
theorem dJ5_setLength_d00df_71 : decode cJ5_setLength_d00df 71 = .ok (.aload_n 0, 1) := by decide +kernel
theorem dJ5_setLength_d00df_72 : decode cJ5_setLength_d00df 72 = .ok (.iconst 1, 1) := by decide +kernel
theorem dJ5_setLength_d00df_73 : decode cJ5_setLength_d00df 73 = .ok (.putfield 73, 3) := by decide +kernel
theorem dJ5_setLength_d00df_76 : decode cJ5_setLength_d00df 76 = .ok (.aload_n 0, 1) := by decide +kernel
theorem dJ5_setLength_d00df_77 : decode cJ5_setLength_d00df 77 = .ok (.iload_n 1, 1) := by decide +kernel
theorem dJ5_setLength_d00df_78 : decode cJ5_setLength_d00df 78 = .ok (.putfield 79, 3) := by decide +kernel
theorem dJ5_setLength_d00df_81 : decode cJ5_setLength_d00df 81 = .ok (.return_, 1) := by decide +kernel
theorem dJ5_charAt_5068e_0 : decode cJ5_charAt_5068e 0 = .ok (.aload_n 0, 1) := by decide +kernel
theorem dJ5_charAt_5068e_1 : decode cJ5_charAt_5068e 1 = .ok (.getfield 22, 3) := by decide +kernel
theorem dJ5_charAt_5068e_4 : decode cJ5_charAt_5068e 4 = .ok (.istore_n 2, 1) := by decide +kernel
theorem dJ5_charAt_5068e_5 : decode cJ5_charAt_5068e 5 = .ok (.aload_n 0, 1) := by decide +kernel
theorem dJ5_charAt_5068e_6 : decode cJ5_charAt_5068e 6 = .ok (.getfield 15, 3) := by decide +kernel
theorem dJ5_charAt_5068e_9 : decode cJ5_charAt_5068e 9 = .ok (.astore_n 3, 1) := by decide +kernel
theorem dJ5_charAt_5068e_10 : decode cJ5_charAt_5068e 10 = .ok (.aload_n 0, 1) := by decide +kernel
theorem dJ5_charAt_5068e_11 : decode cJ5_charAt_5068e 11 = .ok (.getfield 79, 3) := by decide +kernel
theorem dJ5_charAt_5068e_14 : decode cJ5_charAt_5068e 14 = .ok (.aload_n 3, 1) := by decide +kernel
theorem dJ5_charAt_5068e_15 : decode cJ5_charAt_5068e 15 = .ok (.arraylength, 1) := by decide +kernel
theorem dJ5_charAt_5068e_16 : decode cJ5_charAt_5068e 16 = .ok (.iload_n 2, 1) := by decide +kernel
theorem dJ5_charAt_5068e_17 : decode cJ5_charAt_5068e 17 = .ok (.ishr, 1) := by decide +kernel
theorem dJ5_charAt_5068e_18 : decode cJ5_charAt_5068e 18 = .ok (.invokestatic 138, 3) := by decide +kernel
theorem dJ5_charAt_5068e_21 : decode cJ5_charAt_5068e 21 = .ok (.istore 4, 2) := by decide +kernel
theorem dJ5_charAt_5068e_23 : decode cJ5_charAt_5068e 23 = .ok (.iload_n 1, 1) := by decide +kernel
theorem dJ5_charAt_5068e_24 : decode cJ5_charAt_5068e 24 = .ok (.iload 4, 2) := by decide +kernel
theorem dJ5_charAt_5068e_26 : decode cJ5_charAt_5068e 26 = .ok (.invokestatic 144, 3) := by decide +kernel
theorem dJ5_charAt_5068e_29 : decode cJ5_charAt_5068e 29 = .ok (.iload_n 2, 1) := by decide +kernel
theorem dJ5_charAt_5068e_30 : decode cJ5_charAt_5068e 30 = .ok (.ifCond .ne 12, 3) := by decide +kernel
theorem dJ5_charAt_5068e_33 : decode cJ5_charAt_5068e 33 = .ok (.aload_n 3, 1) := by decide +kernel
theorem dJ5_charAt_5068e_34 : decode cJ5_charAt_5068e 34 = .ok (.iload_n 1, 1) := by decide +kernel
theorem dJ5_charAt_5068e_35 : decode cJ5_charAt_5068e 35 = .ok (.baload, 1) := by decide +kernel
theorem dJ5_charAt_5068e_36 : decode cJ5_charAt_5068e 36 = .ok (.sipush 255, 3) := by decide +kernel
theorem dJ5_charAt_5068e_39 : decode cJ5_charAt_5068e 39 = .ok (.iand, 1) := by decide +kernel
theorem dJ5_charAt_5068e_40 : decode cJ5_charAt_5068e 40 = .ok (.i2c, 1) := by decide +kernel
theorem dJ5_charAt_5068e_41 : decode cJ5_charAt_5068e 41 = .ok (.ireturn, 1) := by decide +kernel
theorem dJ5_charAt_5068e_42 : decode cJ5_charAt_5068e 42 = .ok (.aload_n 3, 1) := by decide +kernel
theorem dJ5_charAt_5068e_43 : decode cJ5_charAt_5068e 43 = .ok (.iload_n 1, 1) := by decide +kernel
theorem dJ5_charAt_5068e_44 : decode cJ5_charAt_5068e 44 = .ok (.invokestatic 148, 3) := by decide +kernel
theorem dJ5_charAt_5068e_47 : decode cJ5_charAt_5068e 47 = .ok (.ireturn, 1) := by decide +kernel
theorem dJ5_append_3fe6f_0 : decode cJ5_append_3fe6f 0 = .ok (.aload_n 0, 1) := by decide +kernel
theorem dJ5_append_3fe6f_1 : decode cJ5_append_3fe6f 1 = .ok (.aload_n 0, 1) := by decide +kernel
theorem dJ5_append_3fe6f_2 : decode cJ5_append_3fe6f 2 = .ok (.getfield 79, 3) := by decide +kernel
theorem dJ5_append_3fe6f_5 : decode cJ5_append_3fe6f 5 = .ok (.iconst 1, 1) := by decide +kernel
theorem dJ5_append_3fe6f_6 : decode cJ5_append_3fe6f 6 = .ok (.iadd, 1) := by decide +kernel
theorem dJ5_append_3fe6f_7 : decode cJ5_append_3fe6f 7 = .ok (.invokevirtual 100, 3) := by decide +kernel
theorem dJ5_append_3fe6f_10 : decode cJ5_append_3fe6f 10 = .ok (.aload_n 0, 1) := by decide +kernel
theorem dJ5_append_3fe6f_11 : decode cJ5_append_3fe6f 11 = .ok (.invokevirtual 83, 3) := by decide +kernel
theorem dJ5_append_3fe6f_14 : decode cJ5_append_3fe6f 14 = .ok (.ifCond .eq 31, 3) := by decide +kernel
theorem dJ5_append_3fe6f_17 : decode cJ5_append_3fe6f 17 = .ok (.iload_n 1, 1) := by decide +kernel
theorem dJ5_append_3fe6f_18 : decode cJ5_append_3fe6f 18 = .ok (.invokestatic 191, 3) := by decide +kernel
theorem dJ5_append_3fe6f_21 : decode cJ5_append_3fe6f 21 = .ok (.ifCond .eq 24, 3) := by decide +kernel
theorem dJ5_append_3fe6f_24 : decode cJ5_append_3fe6f 24 = .ok (.aload_n 0, 1) := by decide +kernel
theorem dJ5_append_3fe6f_25 : decode cJ5_append_3fe6f 25 = .ok (.getfield 15, 3) := by decide +kernel
theorem dJ5_append_3fe6f_28 : decode cJ5_append_3fe6f 28 = .ok (.aload_n 0, 1) := by decide +kernel
theorem dJ5_append_3fe6f_29 : decode cJ5_append_3fe6f 29 = .ok (.dup, 1) := by decide +kernel
theorem dJ5_append_3fe6f_30 : decode cJ5_append_3fe6f 30 = .ok (.getfield 79, 3) := by decide +kernel
theorem dJ5_append_3fe6f_33 : decode cJ5_append_3fe6f 33 = .ok (.dup_x1, 1) := by decide +kernel
theorem dJ5_append_3fe6f_34 : decode cJ5_append_3fe6f 34 = .ok (.iconst 1, 1) := by decide +kernel
theorem dJ5_append_3fe6f_35 : decode cJ5_append_3fe6f 35 = .ok (.iadd, 1) := by decide +kernel
theorem dJ5_append_3fe6f_36 : decode cJ5_append_3fe6f 36 = .ok (.putfield 79, 3) := by decide +kernel
theorem dJ5_append_3fe6f_39 : decode cJ5_append_3fe6f 39 = .ok (.iload_n 1, 1) := by decide +kernel
theorem dJ5_append_3fe6f_40 : decode cJ5_append_3fe6f 40 = .ok (.i2b, 1) := by decide +kernel
theorem dJ5_append_3fe6f_41 : decode cJ5_append_3fe6f 41 = .ok (.bastore, 1) := by decide +kernel
theorem dJ5_append_3fe6f_42 : decode cJ5_append_3fe6f 42 = .ok (.goto 33, 3) := by decide +kernel
theorem dJ5_append_3fe6f_45 : decode cJ5_append_3fe6f 45 = .ok (.aload_n 0, 1) := by decide +kernel
theorem dJ5_append_3fe6f_46 : decode cJ5_append_3fe6f 46 = .ok (.invokevirtual 83, 3) := by decide +kernel
theorem dJ5_append_3fe6f_49 : decode cJ5_append_3fe6f 49 = .ok (.ifCond .eq 7, 3) := by decide +kernel
theorem dJ5_append_3fe6f_52 : decode cJ5_append_3fe6f 52 = .ok (.aload_n 0, 1) := by decide +kernel
theorem dJ5_append_3fe6f_53 : decode cJ5_append_3fe6f 53 = .ok (.invokevirtual 195, 3) := by decide +kernel
theorem dJ5_append_3fe6f_56 : decode cJ5_append_3fe6f 56 = .ok (.aload_n 0, 1) := by decide +kernel
theorem dJ5_append_3fe6f_57 : decode cJ5_append_3fe6f 57 = .ok (.getfield 15, 3) := by decide +kernel
theorem dJ5_append_3fe6f_60 : decode cJ5_append_3fe6f 60 = .ok (.aload_n 0, 1) := by decide +kernel
theorem dJ5_append_3fe6f_61 : decode cJ5_append_3fe6f 61 = .ok (.dup, 1) := by decide +kernel
theorem dJ5_append_3fe6f_62 : decode cJ5_append_3fe6f 62 = .ok (.getfield 79, 3) := by decide +kernel
theorem dJ5_append_3fe6f_65 : decode cJ5_append_3fe6f 65 = .ok (.dup_x1, 1) := by decide +kernel
theorem dJ5_append_3fe6f_66 : decode cJ5_append_3fe6f 66 = .ok (.iconst 1, 1) := by decide +kernel
theorem dJ5_append_3fe6f_67 : decode cJ5_append_3fe6f 67 = .ok (.iadd, 1) := by decide +kernel
theorem dJ5_append_3fe6f_68 : decode cJ5_append_3fe6f 68 = .ok (.putfield 79, 3) := by decide +kernel
theorem dJ5_append_3fe6f_71 : decode cJ5_append_3fe6f 71 = .ok (.iload_n 1, 1) := by decide +kernel
theorem dJ5_append_3fe6f_72 : decode cJ5_append_3fe6f 72 = .ok (.invokestatic 197, 3) := by decide +kernel
theorem dJ5_append_3fe6f_75 : decode cJ5_append_3fe6f 75 = .ok (.aload_n 0, 1) := by decide +kernel
theorem dJ5_append_3fe6f_76 : decode cJ5_append_3fe6f 76 = .ok (.areturn, 1) := by decide +kernel
theorem dJ5_isLatin1_aae02_0 : decode cJ5_isLatin1_aae02 0 = .ok (.getstatic 18, 3) := by decide +kernel
theorem dJ5_isLatin1_aae02_3 : decode cJ5_isLatin1_aae02 3 = .ok (.ifCond .eq 14, 3) := by decide +kernel
theorem dJ5_isLatin1_aae02_6 : decode cJ5_isLatin1_aae02 6 = .ok (.aload_n 0, 1) := by decide +kernel
theorem dJ5_isLatin1_aae02_7 : decode cJ5_isLatin1_aae02 7 = .ok (.getfield 22, 3) := by decide +kernel
theorem dJ5_isLatin1_aae02_10 : decode cJ5_isLatin1_aae02 10 = .ok (.ifCond .ne 7, 3) := by decide +kernel
theorem dJ5_isLatin1_aae02_13 : decode cJ5_isLatin1_aae02 13 = .ok (.iconst 1, 1) := by decide +kernel
theorem dJ5_isLatin1_aae02_14 : decode cJ5_isLatin1_aae02 14 = .ok (.goto 4, 3) := by decide +kernel
theorem dJ5_isLatin1_aae02_17 : decode cJ5_isLatin1_aae02 17 = .ok (.iconst 0, 1) := by decide +kernel
theorem dJ5_isLatin1_aae02_18 : decode cJ5_isLatin1_aae02 18 = .ok (.ireturn, 1) := by decide +kernel
theorem dJ9_floorDiv_7cf53_0 : decode cJ9_floorDiv_7cf53 0 = .ok (.iload_n 0, 1) := by decide +kernel
theorem dJ9_floorDiv_7cf53_1 : decode cJ9_floorDiv_7cf53 1 = .ok (.iload_n 1, 1) := by decide +kernel
theorem dJ9_floorDiv_7cf53_2 : decode cJ9_floorDiv_7cf53 2 = .ok (.idiv, 1) := by decide +kernel
theorem dJ9_floorDiv_7cf53_3 : decode cJ9_floorDiv_7cf53 3 = .ok (.istore_n 2, 1) := by decide +kernel
theorem dJ9_floorDiv_7cf53_4 : decode cJ9_floorDiv_7cf53 4 = .ok (.iload_n 0, 1) := by decide +kernel
theorem dJ9_floorDiv_7cf53_5 : decode cJ9_floorDiv_7cf53 5 = .ok (.iload_n 1, 1) := by decide +kernel
theorem dJ9_floorDiv_7cf53_6 : decode cJ9_floorDiv_7cf53 6 = .ok (.ixor, 1) := by decide +kernel
theorem dJ9_floorDiv_7cf53_7 : decode cJ9_floorDiv_7cf53 7 = .ok (.ifCond .ge 14, 3) := by decide +kernel
theorem dJ9_floorDiv_7cf53_10 : decode cJ9_floorDiv_7cf53 10 = .ok (.iload_n 2, 1) := by decide +kernel
theorem dJ9_floorDiv_7cf53_11 : decode cJ9_floorDiv_7cf53 11 = .ok (.iload_n 1, 1) := by decide +kernel
theorem dJ9_floorDiv_7cf53_12 : decode cJ9_floorDiv_7cf53 12 = .ok (.imul, 1) := by decide +kernel
theorem dJ9_floorDiv_7cf53_13 : decode cJ9_floorDiv_7cf53 13 = .ok (.iload_n 0, 1) := by decide +kernel
theorem dJ9_floorDiv_7cf53_14 : decode cJ9_floorDiv_7cf53 14 = .ok (.if_icmp .eq 7, 3) := by decide +kernel
theorem dJ9_floorDiv_7cf53_17 : decode cJ9_floorDiv_7cf53 17 = .ok (.iload_n 2, 1) := by decide +kernel
theorem dJ9_floorDiv_7cf53_18 : decode cJ9_floorDiv_7cf53 18 = .ok (.iconst 1, 1) := by decide +kernel
theorem dJ9_floorDiv_7cf53_19 : decode cJ9_floorDiv_7cf53 19 = .ok (.isub, 1) := by decide +kernel
theorem dJ9_floorDiv_7cf53_20 : decode cJ9_floorDiv_7cf53 20 = .ok (.ireturn, 1) := by decide +kernel
theorem dJ9_floorDiv_7cf53_21 : decode cJ9_floorDiv_7cf53 21 = .ok (.iload_n 2, 1) := by decide +kernel
theorem dJ9_floorDiv_7cf53_22 : decode cJ9_floorDiv_7cf53 22 = .ok (.ireturn, 1) := by decide +kernel
theorem dJ9_max_7cf53_0 : decode cJ9_max_7cf53 0 = .ok (.iload_n 0, 1) := by decide +kernel
theorem dJ9_max_7cf53_1 : decode cJ9_max_7cf53 1 = .ok (.iload_n 1, 1) := by decide +kernel
theorem dJ9_max_7cf53_2 : decode cJ9_max_7cf53 2 = .ok (.if_icmp .lt 7, 3) := by decide +kernel
theorem dJ9_max_7cf53_5 : decode cJ9_max_7cf53 5 = .ok (.iload_n 0, 1) := by decide +kernel
theorem dJ9_max_7cf53_6 : decode cJ9_max_7cf53 6 = .ok (.goto 4, 3) := by decide +kernel
theorem dJ9_max_7cf53_9 : decode cJ9_max_7cf53 9 = .ok (.iload_n 1, 1) := by decide +kernel
theorem dJ9_max_7cf53_10 : decode cJ9_max_7cf53 10 = .ok (.ireturn, 1) := by decide +kernel
theorem dJ9_min_7cf53_0 : decode cJ9_min_7cf53 0 = .ok (.iload_n 0, 1) := by decide +kernel
theorem dJ9_min_7cf53_1 : decode cJ9_min_7cf53 1 = .ok (.iload_n 1, 1) := by decide +kernel
theorem dJ9_min_7cf53_2 : decode cJ9_min_7cf53 2 = .ok (.if_icmp .gt 7, 3) := by decide +kernel
theorem dJ9_min_7cf53_5 : decode cJ9_min_7cf53 5 = .ok (.iload_n 0, 1) := by decide +kernel
theorem dJ9_min_7cf53_6 : decode cJ9_min_7cf53 6 = .ok (.goto 4, 3) := by decide +kernel
theorem dJ9_min_7cf53_9 : decode cJ9_min_7cf53 9 = .ok (.iload_n 1, 1) := by decide +kernel
theorem dJ9_min_7cf53_10 : decode cJ9_min_7cf53 10 = .ok (.ireturn, 1) := by decide +kernel
theorem dJ0_checkIndex_df160_0 : decode cJ0_checkIndex_df160 0 = .ok (.iload_n 0, 1) := by decide +kernel
theorem dJ0_checkIndex_df160_1 : decode cJ0_checkIndex_df160 1 = .ok (.iload_n 1, 1) := by decide +kernel
theorem dJ0_checkIndex_df160_2 : decode cJ0_checkIndex_df160 2 = .ok (.getstatic 1053, 3) := by decide +kernel
theorem dJ0_checkIndex_df160_5 : decode cJ0_checkIndex_df160 5 = .ok (.invokestatic 1059, 3) := by decide +kernel
theorem dJ0_checkIndex_df160_8 : decode cJ0_checkIndex_df160 8 = .ok (.pop, 1) := by decide +kernel
theorem dJ0_checkIndex_df160_9 : decode cJ0_checkIndex_df160 9 = .ok (.return_, 1) := by decide +kernel
theorem dJ0_checkBoundsOffCount_cabcc_0 : decode cJ0_checkBoundsOffCount_cabcc 0 = .ok (.iload_n 0, 1) := by decide +kernel
theorem dJ0_checkBoundsOffCount_cabcc_1 : decode cJ0_checkBoundsOffCount_cabcc 1 = .ok (.iload_n 1, 1) := by decide +kernel
theorem dJ0_checkBoundsOffCount_cabcc_2 : decode cJ0_checkBoundsOffCount_cabcc 2 = .ok (.iload_n 2, 1) := by decide +kernel
theorem dJ0_checkBoundsOffCount_cabcc_3 : decode cJ0_checkBoundsOffCount_cabcc 3 = .ok (.getstatic 1053, 3) := by decide +kernel
theorem dJ0_checkBoundsOffCount_cabcc_6 : decode cJ0_checkBoundsOffCount_cabcc 6 = .ok (.invokestatic 1065, 3) := by decide +kernel
theorem dJ0_checkBoundsOffCount_cabcc_9 : decode cJ0_checkBoundsOffCount_cabcc 9 = .ok (.ireturn, 1) := by decide +kernel
theorem dJ4_init_da8c8_0 : decode cJ4_init_da8c8 0 = .ok (.aload_n 0, 1) := by decide +kernel
theorem dJ4_init_da8c8_1 : decode cJ4_init_da8c8 1 = .ok (.bipush 16, 2) := by decide +kernel
theorem dJ4_init_da8c8_3 : decode cJ4_init_da8c8 3 = .ok (.invokespecial 1, 3) := by decide +kernel
theorem dJ4_init_da8c8_6 : decode cJ4_init_da8c8 6 = .ok (.return_, 1) := by decide +kernel
theorem dJ4_append_cf468_0 : decode cJ4_append_cf468 0 = .ok (.aload_n 0, 1) := by decide +kernel
theorem dJ4_append_cf468_1 : decode cJ4_append_cf468 1 = .ok (.iload_n 1, 1) := by decide +kernel
theorem dJ4_append_cf468_2 : decode cJ4_append_cf468 2 = .ok (.invokespecial 50, 3) := by decide +kernel
theorem dJ4_append_cf468_5 : decode cJ4_append_cf468 5 = .ok (.pop, 1) := by decide +kernel
theorem dJ4_append_cf468_6 : decode cJ4_append_cf468 6 = .ok (.aload_n 0, 1) := by decide +kernel
theorem dJ4_append_cf468_7 : decode cJ4_append_cf468 7 = .ok (.areturn, 1) := by decide +kernel
theorem dJ4_charAt_5068e_0 : decode cJ4_charAt_5068e 0 = .ok (.aload_n 0, 1) := by decide +kernel
theorem dJ4_charAt_5068e_1 : decode cJ4_charAt_5068e 1 = .ok (.iload_n 1, 1) := by decide +kernel
theorem dJ4_charAt_5068e_2 : decode cJ4_charAt_5068e 2 = .ok (.invokespecial 329, 3) := by decide +kernel
theorem dJ4_charAt_5068e_5 : decode cJ4_charAt_5068e 5 = .ok (.ireturn, 1) := by decide +kernel
theorem dJ4_setLength_d00df_0 : decode cJ4_setLength_d00df 0 = .ok (.aload_n 0, 1) := by decide +kernel
theorem dJ4_setLength_d00df_1 : decode cJ4_setLength_d00df 1 = .ok (.iload_n 1, 1) := by decide +kernel
theorem dJ4_setLength_d00df_2 : decode cJ4_setLength_d00df 2 = .ok (.invokespecial 333, 3) := by decide +kernel
theorem dJ4_setLength_d00df_5 : decode cJ4_setLength_d00df 5 = .ok (.return_, 1) := by decide +kernel
theorem dJ4_length_8abf5_0 : decode cJ4_length_8abf5 0 = .ok (.aload_n 0, 1) := by decide +kernel
theorem dJ4_length_8abf5_1 : decode cJ4_length_8abf5 1 = .ok (.invokespecial 343, 3) := by decide +kernel
theorem dJ4_length_8abf5_4 : decode cJ4_length_8abf5 4 = .ok (.ireturn, 1) := by decide +kernel
theorem dJ1_canEncode_fc78d_0 : decode cJ1_canEncode_fc78d 0 = .ok (.iload_n 0, 1) := by decide +kernel
theorem dJ1_canEncode_fc78d_1 : decode cJ1_canEncode_fc78d 1 = .ok (.sipush 255, 3) := by decide +kernel
theorem dJ1_canEncode_fc78d_4 : decode cJ1_canEncode_fc78d 4 = .ok (.if_icmp .gt 7, 3) := by decide +kernel
theorem dJ1_canEncode_fc78d_7 : decode cJ1_canEncode_fc78d 7 = .ok (.iconst 1, 1) := by decide +kernel
theorem dJ1_canEncode_fc78d_8 : decode cJ1_canEncode_fc78d 8 = .ok (.goto 4, 3) := by decide +kernel
theorem dJ1_canEncode_fc78d_11 : decode cJ1_canEncode_fc78d 11 = .ok (.iconst 0, 1) := by decide +kernel
theorem dJ1_canEncode_fc78d_12 : decode cJ1_canEncode_fc78d 12 = .ok (.ireturn, 1) := by decide +kernel
theorem dJ1_fillNull_b72d1_0 : decode cJ1_fillNull_b72d1 0 = .ok (.aload_n 0, 1) := by decide +kernel
theorem dJ1_fillNull_b72d1_1 : decode cJ1_fillNull_b72d1 1 = .ok (.iload_n 1, 1) := by decide +kernel
theorem dJ1_fillNull_b72d1_2 : decode cJ1_fillNull_b72d1 2 = .ok (.iload_n 2, 1) := by decide +kernel
theorem dJ1_fillNull_b72d1_3 : decode cJ1_fillNull_b72d1 3 = .ok (.iconst 0, 1) := by decide +kernel
theorem dJ1_fillNull_b72d1_4 : decode cJ1_fillNull_b72d1 4 = .ok (.invokestatic 236, 3) := by decide +kernel
theorem dJ1_fillNull_b72d1_7 : decode cJ1_fillNull_b72d1 7 = .ok (.return_, 1) := by decide +kernel
theorem dJ1_inflate_0e8fd_0 : decode cJ1_inflate_0e8fd 0 = .ok (.aload_n 0, 1) := by decide +kernel
theorem dJ1_inflate_0e8fd_1 : decode cJ1_inflate_0e8fd 1 = .ok (.iload_n 1, 1) := by decide +kernel
theorem dJ1_inflate_0e8fd_2 : decode cJ1_inflate_0e8fd 2 = .ok (.aload_n 2, 1) := by decide +kernel
theorem dJ1_inflate_0e8fd_3 : decode cJ1_inflate_0e8fd 3 = .ok (.iload_n 3, 1) := by decide +kernel
theorem dJ1_inflate_0e8fd_4 : decode cJ1_inflate_0e8fd 4 = .ok (.iload 4, 2) := by decide +kernel
theorem dJ1_inflate_0e8fd_6 : decode cJ1_inflate_0e8fd 6 = .ok (.invokestatic 240, 3) := by decide +kernel
theorem dJ1_inflate_0e8fd_9 : decode cJ1_inflate_0e8fd 9 = .ok (.return_, 1) := by decide +kernel
theorem dJ2_newBytesFor_77867_0 : decode cJ2_newBytesFor_77867 0 = .ok (.iload_n 0, 1) := by decide +kernel
theorem dJ2_newBytesFor_77867_1 : decode cJ2_newBytesFor_77867 1 = .ok (.invokestatic 11, 3) := by decide +kernel
theorem dJ2_newBytesFor_77867_4 : decode cJ2_newBytesFor_77867 4 = .ok (.newarray .byte, 2) := by decide +kernel
theorem dJ2_newBytesFor_77867_6 : decode cJ2_newBytesFor_77867 6 = .ok (.areturn, 1) := by decide +kernel
theorem dJ2_newBytesLength_0f7a4_0 : decode cJ2_newBytesLength_0f7a4 0 = .ok (.iload_n 0, 1) := by decide +kernel
theorem dJ2_newBytesLength_0f7a4_1 : decode cJ2_newBytesLength_0f7a4 1 = .ok (.ifCond .ge 11, 3) := by decide +kernel
theorem dJ2_newBytesLength_0f7a4_4 : decode cJ2_newBytesLength_0f7a4 4 = .ok (.new 17, 3) := by decide +kernel
theorem dJ2_newBytesLength_0f7a4_7 : decode cJ2_newBytesLength_0f7a4 7 = .ok (.dup, 1) := by decide +kernel
theorem dJ2_newBytesLength_0f7a4_8 : decode cJ2_newBytesLength_0f7a4 8 = .ok (.invokespecial 19, 3) := by decide +kernel
theorem dJ2_newBytesLength_0f7a4_11 : decode cJ2_newBytesLength_0f7a4 11 = .ok (.athrow, 1) := by decide +kernel
theorem dJ2_newBytesLength_0f7a4_12 : decode cJ2_newBytesLength_0f7a4 12 = .ok (.iload_n 0, 1) := by decide +kernel
theorem dJ2_newBytesLength_0f7a4_13 : decode cJ2_newBytesLength_0f7a4 13 = .ok (.ldc 20, 2) := by decide +kernel
theorem dJ2_newBytesLength_0f7a4_15 : decode cJ2_newBytesLength_0f7a4 15 = .ok (.if_icmp .lt 40, 3) := by decide +kernel
theorem dJ2_newBytesLength_0f7a4_18 : decode cJ2_newBytesLength_0f7a4 18 = .ok (.new 21, 3) := by decide +kernel
theorem dJ2_newBytesLength_0f7a4_21 : decode cJ2_newBytesLength_0f7a4 21 = .ok (.dup, 1) := by decide +kernel
theorem dJ2_newBytesLength_0f7a4_22 : decode cJ2_newBytesLength_0f7a4 22 = .ok (.new 23, 3) := by decide +kernel
theorem dJ2_newBytesLength_0f7a4_25 : decode cJ2_newBytesLength_0f7a4 25 = .ok (.dup, 1) := by decide +kernel
theorem dJ2_newBytesLength_0f7a4_26 : decode cJ2_newBytesLength_0f7a4 26 = .ok (.invokespecial 25, 3) := by decide +kernel
theorem dJ2_newBytesLength_0f7a4_29 : decode cJ2_newBytesLength_0f7a4 29 = .ok (.ldc 26, 2) := by decide +kernel
theorem dJ2_newBytesLength_0f7a4_31 : decode cJ2_newBytesLength_0f7a4 31 = .ok (.invokevirtual 28, 3) := by decide +kernel
theorem dJ2_newBytesLength_0f7a4_34 : decode cJ2_newBytesLength_0f7a4 34 = .ok (.iload_n 0, 1) := by decide +kernel
theorem dJ2_newBytesLength_0f7a4_35 : decode cJ2_newBytesLength_0f7a4 35 = .ok (.invokevirtual 32, 3) := by decide +kernel
theorem dJ2_newBytesLength_0f7a4_38 : decode cJ2_newBytesLength_0f7a4 38 = .ok (.ldc 35, 2) := by decide +kernel
theorem dJ2_newBytesLength_0f7a4_40 : decode cJ2_newBytesLength_0f7a4 40 = .ok (.invokevirtual 28, 3) := by decide +kernel
theorem dJ2_newBytesLength_0f7a4_43 : decode cJ2_newBytesLength_0f7a4 43 = .ok (.ldc 20, 2) := by decide +kernel
theorem dJ2_newBytesLength_0f7a4_45 : decode cJ2_newBytesLength_0f7a4 45 = .ok (.invokevirtual 32, 3) := by decide +kernel
theorem dJ2_newBytesLength_0f7a4_48 : decode cJ2_newBytesLength_0f7a4 48 = .ok (.invokevirtual 37, 3) := by decide +kernel
theorem dJ2_newBytesLength_0f7a4_51 : decode cJ2_newBytesLength_0f7a4 51 = .ok (.invokespecial 41, 3) := by decide +kernel
theorem dJ2_newBytesLength_0f7a4_54 : decode cJ2_newBytesLength_0f7a4 54 = .ok (.athrow, 1) := by decide +kernel
theorem dJ2_newBytesLength_0f7a4_55 : decode cJ2_newBytesLength_0f7a4 55 = .ok (.iload_n 0, 1) := by decide +kernel
theorem dJ2_newBytesLength_0f7a4_56 : decode cJ2_newBytesLength_0f7a4 56 = .ok (.iconst 1, 1) := by decide +kernel
theorem dJ2_newBytesLength_0f7a4_57 : decode cJ2_newBytesLength_0f7a4 57 = .ok (.ishl, 1) := by decide +kernel
theorem dJ2_newBytesLength_0f7a4_58 : decode cJ2_newBytesLength_0f7a4 58 = .ok (.ireturn, 1) := by decide +kernel
theorem dJ2_putChar_b72d1_0 : decode cJ2_putChar_b72d1 0 = .ok (.getstatic 44, 3) := by decide +kernel
theorem dJ2_putChar_b72d1_3 : decode cJ2_putChar_b72d1 3 = .ok (.ifCond .ne 25, 3) := by decide +kernel
theorem dJ2_putChar_b72d1_6 : decode cJ2_putChar_b72d1 6 = .ok (.iload_n 1, 1) := by decide +kernel
theorem dJ2_putChar_b72d1_7 : decode cJ2_putChar_b72d1 7 = .ok (.ifCond .lt 11, 3) := by decide +kernel
theorem dJ2_putChar_b72d1_10 : decode cJ2_putChar_b72d1 10 = .ok (.iload_n 1, 1) := by decide +kernel
theorem dJ2_putChar_b72d1_11 : decode cJ2_putChar_b72d1 11 = .ok (.aload_n 0, 1) := by decide +kernel
theorem dJ2_putChar_b72d1_12 : decode cJ2_putChar_b72d1 12 = .ok (.invokestatic 48, 3) := by decide +kernel
theorem dJ2_putChar_b72d1_15 : decode cJ2_putChar_b72d1 15 = .ok (.if_icmp .lt 13, 3) := by decide +kernel
theorem dJ2_putChar_b72d1_18 : decode cJ2_putChar_b72d1 18 = .ok (.new 52, 3) := by decide +kernel
theorem dJ2_putChar_b72d1_21 : decode cJ2_putChar_b72d1 21 = .ok (.dup, 1) := by decide +kernel
theorem dJ2_putChar_b72d1_22 : decode cJ2_putChar_b72d1 22 = .ok (.ldc 54, 2) := by decide +kernel
theorem dJ2_putChar_b72d1_24 : decode cJ2_putChar_b72d1 24 = .ok (.invokespecial 56, 3) := by decide +kernel
theorem dJ2_putChar_b72d1_27 : decode cJ2_putChar_b72d1 27 = .ok (.athrow, 1) := by decide +kernel
theorem dJ2_putChar_b72d1_28 : decode cJ2_putChar_b72d1 28 = .ok (.iload_n 1, 1) := by decide +kernel
theorem dJ2_putChar_b72d1_29 : decode cJ2_putChar_b72d1 29 = .ok (.iconst 1, 1) := by decide +kernel
theorem dJ2_putChar_b72d1_30 : decode cJ2_putChar_b72d1 30 = .ok (.ishl, 1) := by decide +kernel
theorem dJ2_putChar_b72d1_31 : decode cJ2_putChar_b72d1 31 = .ok (.istore_n 1, 1) := by decide +kernel
theorem dJ2_putChar_b72d1_32 : decode cJ2_putChar_b72d1 32 = .ok (.aload_n 0, 1) := by decide +kernel
theorem dJ2_putChar_b72d1_33 : decode cJ2_putChar_b72d1 33 = .ok (.iload_n 1, 1) := by decide +kernel
theorem dJ2_putChar_b72d1_34 : decode cJ2_putChar_b72d1 34 = .ok (.iinc 1 1, 3) := by decide +kernel
theorem dJ2_putChar_b72d1_37 : decode cJ2_putChar_b72d1 37 = .ok (.iload_n 2, 1) := by decide +kernel
theorem dJ2_putChar_b72d1_38 : decode cJ2_putChar_b72d1 38 = .ok (.getstatic 59, 3) := by decide +kernel
theorem dJ2_putChar_b72d1_41 : decode cJ2_putChar_b72d1 41 = .ok (.ishr, 1) := by decide +kernel
theorem dJ2_putChar_b72d1_42 : decode cJ2_putChar_b72d1 42 = .ok (.i2b, 1) := by decide +kernel
theorem dJ2_putChar_b72d1_43 : decode cJ2_putChar_b72d1 43 = .ok (.bastore, 1) := by decide +kernel
theorem dJ2_putChar_b72d1_44 : decode cJ2_putChar_b72d1 44 = .ok (.aload_n 0, 1) := by decide +kernel
theorem dJ2_putChar_b72d1_45 : decode cJ2_putChar_b72d1 45 = .ok (.iload_n 1, 1) := by decide +kernel
theorem dJ2_putChar_b72d1_46 : decode cJ2_putChar_b72d1 46 = .ok (.iload_n 2, 1) := by decide +kernel
theorem dJ2_putChar_b72d1_47 : decode cJ2_putChar_b72d1 47 = .ok (.getstatic 63, 3) := by decide +kernel
theorem dJ2_putChar_b72d1_50 : decode cJ2_putChar_b72d1 50 = .ok (.ishr, 1) := by decide +kernel
theorem dJ2_putChar_b72d1_51 : decode cJ2_putChar_b72d1 51 = .ok (.i2b, 1) := by decide +kernel
theorem dJ2_putChar_b72d1_52 : decode cJ2_putChar_b72d1 52 = .ok (.bastore, 1) := by decide +kernel
theorem dJ2_putChar_b72d1_53 : decode cJ2_putChar_b72d1 53 = .ok (.return_, 1) := by decide +kernel
theorem dJ2_getChar_3b067_0 : decode cJ2_getChar_3b067 0 = .ok (.getstatic 44, 3) := by decide +kernel
theorem dJ2_getChar_3b067_3 : decode cJ2_getChar_3b067 3 = .ok (.ifCond .ne 25, 3) := by decide +kernel
theorem dJ2_getChar_3b067_6 : decode cJ2_getChar_3b067 6 = .ok (.iload_n 1, 1) := by decide +kernel
theorem dJ2_getChar_3b067_7 : decode cJ2_getChar_3b067 7 = .ok (.ifCond .lt 11, 3) := by decide +kernel
theorem dJ2_getChar_3b067_10 : decode cJ2_getChar_3b067 10 = .ok (.iload_n 1, 1) := by decide +kernel
theorem dJ2_getChar_3b067_11 : decode cJ2_getChar_3b067 11 = .ok (.aload_n 0, 1) := by decide +kernel
theorem dJ2_getChar_3b067_12 : decode cJ2_getChar_3b067 12 = .ok (.invokestatic 48, 3) := by decide +kernel
theorem dJ2_getChar_3b067_15 : decode cJ2_getChar_3b067 15 = .ok (.if_icmp .lt 13, 3) := by decide +kernel
theorem dJ2_getChar_3b067_18 : decode cJ2_getChar_3b067 18 = .ok (.new 52, 3) := by decide +kernel
theorem dJ2_getChar_3b067_21 : decode cJ2_getChar_3b067 21 = .ok (.dup, 1) := by decide +kernel
theorem dJ2_getChar_3b067_22 : decode cJ2_getChar_3b067 22 = .ok (.ldc 54, 2) := by decide +kernel
theorem dJ2_getChar_3b067_24 : decode cJ2_getChar_3b067 24 = .ok (.invokespecial 56, 3) := by decide +kernel
theorem dJ2_getChar_3b067_27 : decode cJ2_getChar_3b067 27 = .ok (.athrow, 1) := by decide +kernel
theorem dJ2_getChar_3b067_28 : decode cJ2_getChar_3b067 28 = .ok (.iload_n 1, 1) := by decide +kernel
theorem dJ2_getChar_3b067_29 : decode cJ2_getChar_3b067 29 = .ok (.iconst 1, 1) := by decide +kernel
theorem dJ2_getChar_3b067_30 : decode cJ2_getChar_3b067 30 = .ok (.ishl, 1) := by decide +kernel
theorem dJ2_getChar_3b067_31 : decode cJ2_getChar_3b067 31 = .ok (.istore_n 1, 1) := by decide +kernel
theorem dJ2_getChar_3b067_32 : decode cJ2_getChar_3b067 32 = .ok (.aload_n 0, 1) := by decide +kernel
theorem dJ2_getChar_3b067_33 : decode cJ2_getChar_3b067 33 = .ok (.iload_n 1, 1) := by decide +kernel
theorem dJ2_getChar_3b067_34 : decode cJ2_getChar_3b067 34 = .ok (.iinc 1 1, 3) := by decide +kernel
theorem dJ2_getChar_3b067_37 : decode cJ2_getChar_3b067 37 = .ok (.baload, 1) := by decide +kernel
theorem dJ2_getChar_3b067_38 : decode cJ2_getChar_3b067 38 = .ok (.sipush 255, 3) := by decide +kernel
theorem dJ2_getChar_3b067_41 : decode cJ2_getChar_3b067 41 = .ok (.iand, 1) := by decide +kernel
theorem dJ2_getChar_3b067_42 : decode cJ2_getChar_3b067 42 = .ok (.getstatic 59, 3) := by decide +kernel
theorem dJ2_getChar_3b067_45 : decode cJ2_getChar_3b067 45 = .ok (.ishl, 1) := by decide +kernel
theorem dJ2_getChar_3b067_46 : decode cJ2_getChar_3b067 46 = .ok (.aload_n 0, 1) := by decide +kernel
theorem dJ2_getChar_3b067_47 : decode cJ2_getChar_3b067 47 = .ok (.iload_n 1, 1) := by decide +kernel
theorem dJ2_getChar_3b067_48 : decode cJ2_getChar_3b067 48 = .ok (.baload, 1) := by decide +kernel
theorem dJ2_getChar_3b067_49 : decode cJ2_getChar_3b067 49 = .ok (.sipush 255, 3) := by decide +kernel
theorem dJ2_getChar_3b067_52 : decode cJ2_getChar_3b067 52 = .ok (.iand, 1) := by decide +kernel
theorem dJ2_getChar_3b067_53 : decode cJ2_getChar_3b067 53 = .ok (.getstatic 63, 3) := by decide +kernel
theorem dJ2_getChar_3b067_56 : decode cJ2_getChar_3b067 56 = .ok (.ishl, 1) := by decide +kernel
theorem dJ2_getChar_3b067_57 : decode cJ2_getChar_3b067 57 = .ok (.ior, 1) := by decide +kernel
theorem dJ2_getChar_3b067_58 : decode cJ2_getChar_3b067 58 = .ok (.i2c, 1) := by decide +kernel
theorem dJ2_getChar_3b067_59 : decode cJ2_getChar_3b067 59 = .ok (.ireturn, 1) := by decide +kernel
theorem dJ2_length_9d52b_0 : decode cJ2_length_9d52b 0 = .ok (.aload_n 0, 1) := by decide +kernel
theorem dJ2_length_9d52b_1 : decode cJ2_length_9d52b 1 = .ok (.arraylength, 1) := by decide +kernel
theorem dJ2_length_9d52b_2 : decode cJ2_length_9d52b 2 = .ok (.iconst 1, 1) := by decide +kernel
theorem dJ2_length_9d52b_3 : decode cJ2_length_9d52b 3 = .ok (.ishr, 1) := by decide +kernel
theorem dJ2_length_9d52b_4 : decode cJ2_length_9d52b 4 = .ok (.ireturn, 1) := by decide +kernel
theorem dJ2_fillNull_b72d1_0 : decode cJ2_fillNull_b72d1 0 = .ok (.aload_n 0, 1) := by decide +kernel
theorem dJ2_fillNull_b72d1_1 : decode cJ2_fillNull_b72d1 1 = .ok (.iload_n 1, 1) := by decide +kernel
theorem dJ2_fillNull_b72d1_2 : decode cJ2_fillNull_b72d1 2 = .ok (.iconst 1, 1) := by decide +kernel
theorem dJ2_fillNull_b72d1_3 : decode cJ2_fillNull_b72d1 3 = .ok (.ishl, 1) := by decide +kernel
theorem dJ2_fillNull_b72d1_4 : decode cJ2_fillNull_b72d1 4 = .ok (.iload_n 2, 1) := by decide +kernel
theorem dJ2_fillNull_b72d1_5 : decode cJ2_fillNull_b72d1 5 = .ok (.iconst 1, 1) := by decide +kernel
theorem dJ2_fillNull_b72d1_6 : decode cJ2_fillNull_b72d1 6 = .ok (.ishl, 1) := by decide +kernel
theorem dJ2_fillNull_b72d1_7 : decode cJ2_fillNull_b72d1 7 = .ok (.iconst 0, 1) := by decide +kernel
theorem dJ2_fillNull_b72d1_8 : decode cJ2_fillNull_b72d1 8 = .ok (.invokestatic 380, 3) := by decide +kernel
theorem dJ2_fillNull_b72d1_11 : decode cJ2_fillNull_b72d1 11 = .ok (.return_, 1) := by decide +kernel
theorem dJ2_putCharSB_b72d1_0 : decode cJ2_putCharSB_b72d1 0 = .ok (.iload_n 1, 1) := by decide +kernel
theorem dJ2_putCharSB_b72d1_1 : decode cJ2_putCharSB_b72d1 1 = .ok (.aload_n 0, 1) := by decide +kernel
theorem dJ2_putCharSB_b72d1_2 : decode cJ2_putCharSB_b72d1 2 = .ok (.invokestatic 67, 3) := by decide +kernel
theorem dJ2_putCharSB_b72d1_5 : decode cJ2_putCharSB_b72d1 5 = .ok (.aload_n 0, 1) := by decide +kernel
theorem dJ2_putCharSB_b72d1_6 : decode cJ2_putCharSB_b72d1 6 = .ok (.iload_n 1, 1) := by decide +kernel
theorem dJ2_putCharSB_b72d1_7 : decode cJ2_putCharSB_b72d1 7 = .ok (.iload_n 2, 1) := by decide +kernel
theorem dJ2_putCharSB_b72d1_8 : decode cJ2_putCharSB_b72d1 8 = .ok (.invokestatic 111, 3) := by decide +kernel
theorem dJ2_putCharSB_b72d1_11 : decode cJ2_putCharSB_b72d1 11 = .ok (.return_, 1) := by decide +kernel
theorem dJ2_inflate_0e8fd_0 : decode cJ2_inflate_0e8fd 0 = .ok (.iload_n 3, 1) := by decide +kernel
theorem dJ2_inflate_0e8fd_1 : decode cJ2_inflate_0e8fd 1 = .ok (.iload 4, 2) := by decide +kernel
theorem dJ2_inflate_0e8fd_3 : decode cJ2_inflate_0e8fd 3 = .ok (.aload_n 2, 1) := by decide +kernel
theorem dJ2_inflate_0e8fd_4 : decode cJ2_inflate_0e8fd 4 = .ok (.invokestatic 173, 3) := by decide +kernel
theorem dJ2_inflate_0e8fd_7 : decode cJ2_inflate_0e8fd 7 = .ok (.iconst 0, 1) := by decide +kernel
theorem dJ2_inflate_0e8fd_8 : decode cJ2_inflate_0e8fd 8 = .ok (.istore 5, 2) := by decide +kernel
theorem dJ2_inflate_0e8fd_10 : decode cJ2_inflate_0e8fd 10 = .ok (.iload 5, 2) := by decide +kernel
theorem dJ2_inflate_0e8fd_12 : decode cJ2_inflate_0e8fd 12 = .ok (.iload 4, 2) := by decide +kernel
theorem dJ2_inflate_0e8fd_14 : decode cJ2_inflate_0e8fd 14 = .ok (.if_icmp .ge 27, 3) := by decide +kernel
theorem dJ2_inflate_0e8fd_17 : decode cJ2_inflate_0e8fd 17 = .ok (.aload_n 2, 1) := by decide +kernel
theorem dJ2_inflate_0e8fd_18 : decode cJ2_inflate_0e8fd 18 = .ok (.iload_n 3, 1) := by decide +kernel
theorem dJ2_inflate_0e8fd_19 : decode cJ2_inflate_0e8fd 19 = .ok (.iinc 3 1, 3) := by decide +kernel
theorem dJ2_inflate_0e8fd_22 : decode cJ2_inflate_0e8fd 22 = .ok (.aload_n 0, 1) := by decide +kernel
theorem dJ2_inflate_0e8fd_23 : decode cJ2_inflate_0e8fd 23 = .ok (.iload_n 1, 1) := by decide +kernel
theorem dJ2_inflate_0e8fd_24 : decode cJ2_inflate_0e8fd 24 = .ok (.iinc 1 1, 3) := by decide +kernel
theorem dJ2_inflate_0e8fd_27 : decode cJ2_inflate_0e8fd 27 = .ok (.baload, 1) := by decide +kernel
theorem dJ2_inflate_0e8fd_28 : decode cJ2_inflate_0e8fd 28 = .ok (.sipush 255, 3) := by decide +kernel
theorem dJ2_inflate_0e8fd_31 : decode cJ2_inflate_0e8fd 31 = .ok (.iand, 1) := by decide +kernel
theorem dJ2_inflate_0e8fd_32 : decode cJ2_inflate_0e8fd 32 = .ok (.invokestatic 111, 3) := by decide +kernel
theorem dJ2_inflate_0e8fd_35 : decode cJ2_inflate_0e8fd 35 = .ok (.iinc 5 1, 3) := by decide +kernel
theorem dJ2_inflate_0e8fd_38 : decode cJ2_inflate_0e8fd 38 = .ok (.goto (-28), 3) := by decide +kernel
theorem dJ2_inflate_0e8fd_41 : decode cJ2_inflate_0e8fd 41 = .ok (.return_, 1) := by decide +kernel
theorem dJ2_checkIndex_2214a_0 : decode cJ2_checkIndex_2214a 0 = .ok (.iload_n 0, 1) := by decide +kernel
theorem dJ2_checkIndex_2214a_1 : decode cJ2_checkIndex_2214a 1 = .ok (.aload_n 1, 1) := by decide +kernel
theorem dJ2_checkIndex_2214a_2 : decode cJ2_checkIndex_2214a 2 = .ok (.invokestatic 48, 3) := by decide +kernel
theorem dJ2_checkIndex_2214a_5 : decode cJ2_checkIndex_2214a 5 = .ok (.invokestatic 414, 3) := by decide +kernel
theorem dJ2_checkIndex_2214a_8 : decode cJ2_checkIndex_2214a 8 = .ok (.return_, 1) := by decide +kernel
theorem dJ2_checkBoundsOffCount_d044e_0 : decode cJ2_checkBoundsOffCount_d044e 0 = .ok (.iload_n 0, 1) := by decide +kernel
theorem dJ2_checkBoundsOffCount_d044e_1 : decode cJ2_checkBoundsOffCount_d044e 1 = .ok (.iload_n 1, 1) := by decide +kernel
theorem dJ2_checkBoundsOffCount_d044e_2 : decode cJ2_checkBoundsOffCount_d044e 2 = .ok (.aload_n 2, 1) := by decide +kernel
theorem dJ2_checkBoundsOffCount_d044e_3 : decode cJ2_checkBoundsOffCount_d044e 3 = .ok (.invokestatic 48, 3) := by decide +kernel
theorem dJ2_checkBoundsOffCount_d044e_6 : decode cJ2_checkBoundsOffCount_d044e 6 = .ok (.invokestatic 419, 3) := by decide +kernel
theorem dJ2_checkBoundsOffCount_d044e_9 : decode cJ2_checkBoundsOffCount_d044e 9 = .ok (.pop, 1) := by decide +kernel
theorem dJ2_checkBoundsOffCount_d044e_10 : decode cJ2_checkBoundsOffCount_d044e 10 = .ok (.return_, 1) := by decide +kernel
theorem dJ7_rangeCheck_23922_0 : decode cJ7_rangeCheck_23922 0 = .ok (.iload_n 1, 1) := by decide +kernel
theorem dJ7_rangeCheck_23922_1 : decode cJ7_rangeCheck_23922 1 = .ok (.iload_n 2, 1) := by decide +kernel
theorem dJ7_rangeCheck_23922_2 : decode cJ7_rangeCheck_23922 2 = .ok (.if_icmp .le 44, 3) := by decide +kernel
theorem dJ7_rangeCheck_23922_5 : decode cJ7_rangeCheck_23922 5 = .ok (.new 43, 3) := by decide +kernel
theorem dJ7_rangeCheck_23922_8 : decode cJ7_rangeCheck_23922 8 = .ok (.dup, 1) := by decide +kernel
theorem dJ7_rangeCheck_23922_9 : decode cJ7_rangeCheck_23922 9 = .ok (.new 45, 3) := by decide +kernel
theorem dJ7_rangeCheck_23922_12 : decode cJ7_rangeCheck_23922 12 = .ok (.dup, 1) := by decide +kernel
theorem dJ7_rangeCheck_23922_13 : decode cJ7_rangeCheck_23922 13 = .ok (.invokespecial 47, 3) := by decide +kernel
theorem dJ7_rangeCheck_23922_16 : decode cJ7_rangeCheck_23922 16 = .ok (.ldc 48, 2) := by decide +kernel
theorem dJ7_rangeCheck_23922_18 : decode cJ7_rangeCheck_23922 18 = .ok (.invokevirtual 50, 3) := by decide +kernel
theorem dJ7_rangeCheck_23922_21 : decode cJ7_rangeCheck_23922 21 = .ok (.iload_n 1, 1) := by decide +kernel
theorem dJ7_rangeCheck_23922_22 : decode cJ7_rangeCheck_23922 22 = .ok (.invokevirtual 54, 3) := by decide +kernel
theorem dJ7_rangeCheck_23922_25 : decode cJ7_rangeCheck_23922 25 = .ok (.ldc 57, 2) := by decide +kernel
theorem dJ7_rangeCheck_23922_27 : decode cJ7_rangeCheck_23922 27 = .ok (.invokevirtual 50, 3) := by decide +kernel
theorem dJ7_rangeCheck_23922_30 : decode cJ7_rangeCheck_23922 30 = .ok (.iload_n 2, 1) := by decide +kernel
theorem dJ7_rangeCheck_23922_31 : decode cJ7_rangeCheck_23922 31 = .ok (.invokevirtual 54, 3) := by decide +kernel
theorem dJ7_rangeCheck_23922_34 : decode cJ7_rangeCheck_23922 34 = .ok (.ldc 59, 2) := by decide +kernel
theorem dJ7_rangeCheck_23922_36 : decode cJ7_rangeCheck_23922 36 = .ok (.invokevirtual 50, 3) := by decide +kernel
theorem dJ7_rangeCheck_23922_39 : decode cJ7_rangeCheck_23922 39 = .ok (.invokevirtual 61, 3) := by decide +kernel
theorem dJ7_rangeCheck_23922_42 : decode cJ7_rangeCheck_23922 42 = .ok (.invokespecial 65, 3) := by decide +kernel
theorem dJ7_rangeCheck_23922_45 : decode cJ7_rangeCheck_23922 45 = .ok (.athrow, 1) := by decide +kernel
theorem dJ7_rangeCheck_23922_46 : decode cJ7_rangeCheck_23922 46 = .ok (.iload_n 1, 1) := by decide +kernel
theorem dJ7_rangeCheck_23922_47 : decode cJ7_rangeCheck_23922 47 = .ok (.ifCond .ge 12, 3) := by decide +kernel
theorem dJ7_rangeCheck_23922_50 : decode cJ7_rangeCheck_23922 50 = .ok (.new 68, 3) := by decide +kernel
theorem dJ7_rangeCheck_23922_53 : decode cJ7_rangeCheck_23922 53 = .ok (.dup, 1) := by decide +kernel
theorem dJ7_rangeCheck_23922_54 : decode cJ7_rangeCheck_23922 54 = .ok (.iload_n 1, 1) := by decide +kernel
theorem dJ7_rangeCheck_23922_55 : decode cJ7_rangeCheck_23922 55 = .ok (.invokespecial 70, 3) := by decide +kernel
theorem dJ7_rangeCheck_23922_58 : decode cJ7_rangeCheck_23922 58 = .ok (.athrow, 1) := by decide +kernel
theorem dJ7_rangeCheck_23922_59 : decode cJ7_rangeCheck_23922 59 = .ok (.iload_n 2, 1) := by decide +kernel
theorem dJ7_rangeCheck_23922_60 : decode cJ7_rangeCheck_23922 60 = .ok (.iload_n 0, 1) := by decide +kernel
theorem dJ7_rangeCheck_23922_61 : decode cJ7_rangeCheck_23922 61 = .ok (.if_icmp .le 12, 3) := by decide +kernel
theorem dJ7_rangeCheck_23922_64 : decode cJ7_rangeCheck_23922 64 = .ok (.new 68, 3) := by decide +kernel
theorem dJ7_rangeCheck_23922_67 : decode cJ7_rangeCheck_23922 67 = .ok (.dup, 1) := by decide +kernel
theorem dJ7_rangeCheck_23922_68 : decode cJ7_rangeCheck_23922 68 = .ok (.iload_n 2, 1) := by decide +kernel
theorem dJ7_rangeCheck_23922_69 : decode cJ7_rangeCheck_23922 69 = .ok (.invokespecial 70, 3) := by decide +kernel
theorem dJ7_rangeCheck_23922_72 : decode cJ7_rangeCheck_23922 72 = .ok (.athrow, 1) := by decide +kernel
theorem dJ7_rangeCheck_23922_73 : decode cJ7_rangeCheck_23922 73 = .ok (.return_, 1) := by decide +kernel
theorem dJ7_fill_eb02e_0 : decode cJ7_fill_eb02e 0 = .ok (.aload_n 0, 1) := by decide +kernel
theorem dJ7_fill_eb02e_1 : decode cJ7_fill_eb02e 1 = .ok (.arraylength, 1) := by decide +kernel
theorem dJ7_fill_eb02e_2 : decode cJ7_fill_eb02e 2 = .ok (.iload_n 1, 1) := by decide +kernel
theorem dJ7_fill_eb02e_3 : decode cJ7_fill_eb02e 3 = .ok (.iload_n 2, 1) := by decide +kernel
theorem dJ7_fill_eb02e_4 : decode cJ7_fill_eb02e 4 = .ok (.invokestatic 13, 3) := by decide +kernel
theorem dJ7_fill_eb02e_7 : decode cJ7_fill_eb02e 7 = .ok (.iload_n 1, 1) := by decide +kernel
theorem dJ7_fill_eb02e_8 : decode cJ7_fill_eb02e 8 = .ok (.istore 4, 2) := by decide +kernel
theorem dJ7_fill_eb02e_10 : decode cJ7_fill_eb02e 10 = .ok (.iload 4, 2) := by decide +kernel
theorem dJ7_fill_eb02e_12 : decode cJ7_fill_eb02e 12 = .ok (.iload_n 2, 1) := by decide +kernel
theorem dJ7_fill_eb02e_13 : decode cJ7_fill_eb02e 13 = .ok (.if_icmp .ge 14, 3) := by decide +kernel
theorem dJ7_fill_eb02e_16 : decode cJ7_fill_eb02e 16 = .ok (.aload_n 0, 1) := by decide +kernel
theorem dJ7_fill_eb02e_17 : decode cJ7_fill_eb02e 17 = .ok (.iload 4, 2) := by decide +kernel
theorem dJ7_fill_eb02e_19 : decode cJ7_fill_eb02e 19 = .ok (.iload_n 3, 1) := by decide +kernel
theorem dJ7_fill_eb02e_20 : decode cJ7_fill_eb02e 20 = .ok (.bastore, 1) := by decide +kernel
theorem dJ7_fill_eb02e_21 : decode cJ7_fill_eb02e 21 = .ok (.iinc 4 1, 3) := by decide +kernel
theorem dJ7_fill_eb02e_24 : decode cJ7_fill_eb02e 24 = .ok (.goto (-14), 3) := by decide +kernel
theorem dJ7_fill_eb02e_27 : decode cJ7_fill_eb02e 27 = .ok (.return_, 1) := by decide +kernel
theorem dJ7_copyOf_9075b_0 : decode cJ7_copyOf_9075b 0 = .ok (.iload_n 1, 1) := by decide +kernel
theorem dJ7_copyOf_9075b_1 : decode cJ7_copyOf_9075b 1 = .ok (.aload_n 0, 1) := by decide +kernel
theorem dJ7_copyOf_9075b_2 : decode cJ7_copyOf_9075b 2 = .ok (.arraylength, 1) := by decide +kernel
theorem dJ7_copyOf_9075b_3 : decode cJ7_copyOf_9075b 3 = .ok (.if_icmp .ne 11, 3) := by decide +kernel
theorem dJ7_copyOf_9075b_6 : decode cJ7_copyOf_9075b 6 = .ok (.aload_n 0, 1) := by decide +kernel
theorem dJ7_copyOf_9075b_7 : decode cJ7_copyOf_9075b 7 = .ok (.invokevirtual 310, 3) := by decide +kernel
theorem dJ7_copyOf_9075b_10 : decode cJ7_copyOf_9075b 10 = .ok (.checkcast 311, 3) := by decide +kernel
theorem dJ7_copyOf_9075b_13 : decode cJ7_copyOf_9075b 13 = .ok (.areturn, 1) := by decide +kernel
theorem dJ7_copyOf_9075b_14 : decode cJ7_copyOf_9075b 14 = .ok (.iload_n 1, 1) := by decide +kernel
theorem dJ7_copyOf_9075b_15 : decode cJ7_copyOf_9075b 15 = .ok (.newarray .byte, 2) := by decide +kernel
theorem dJ7_copyOf_9075b_17 : decode cJ7_copyOf_9075b 17 = .ok (.astore_n 2, 1) := by decide +kernel
theorem dJ7_copyOf_9075b_18 : decode cJ7_copyOf_9075b 18 = .ok (.aload_n 0, 1) := by decide +kernel
theorem dJ7_copyOf_9075b_19 : decode cJ7_copyOf_9075b 19 = .ok (.iconst 0, 1) := by decide +kernel
theorem dJ7_copyOf_9075b_20 : decode cJ7_copyOf_9075b 20 = .ok (.aload_n 2, 1) := by decide +kernel
theorem dJ7_copyOf_9075b_21 : decode cJ7_copyOf_9075b 21 = .ok (.iconst 0, 1) := by decide +kernel
theorem dJ7_copyOf_9075b_22 : decode cJ7_copyOf_9075b 22 = .ok (.aload_n 0, 1) := by decide +kernel
theorem dJ7_copyOf_9075b_23 : decode cJ7_copyOf_9075b 23 = .ok (.arraylength, 1) := by decide +kernel
theorem dJ7_copyOf_9075b_24 : decode cJ7_copyOf_9075b 24 = .ok (.iload_n 1, 1) := by decide +kernel
theorem dJ7_copyOf_9075b_25 : decode cJ7_copyOf_9075b 25 = .ok (.invokestatic 304, 3) := by decide +kernel
theorem dJ7_copyOf_9075b_28 : decode cJ7_copyOf_9075b 28 = .ok (.invokestatic 150, 3) := by decide +kernel
theorem dJ7_copyOf_9075b_31 : decode cJ7_copyOf_9075b 31 = .ok (.aload_n 2, 1) := by decide +kernel
theorem dJ7_copyOf_9075b_32 : decode cJ7_copyOf_9075b 32 = .ok (.areturn, 1) := by decide +kernel
theorem dJ8_newLength_cabcc_0 : decode cJ8_newLength_cabcc 0 = .ok (.iload_n 0, 1) := by decide +kernel
theorem dJ8_newLength_cabcc_1 : decode cJ8_newLength_cabcc 1 = .ok (.iload_n 1, 1) := by decide +kernel
theorem dJ8_newLength_cabcc_2 : decode cJ8_newLength_cabcc 2 = .ok (.iload_n 2, 1) := by decide +kernel
theorem dJ8_newLength_cabcc_3 : decode cJ8_newLength_cabcc 3 = .ok (.invokestatic 194, 3) := by decide +kernel
theorem dJ8_newLength_cabcc_6 : decode cJ8_newLength_cabcc 6 = .ok (.iadd, 1) := by decide +kernel
theorem dJ8_newLength_cabcc_7 : decode cJ8_newLength_cabcc 7 = .ok (.istore_n 3, 1) := by decide +kernel
theorem dJ8_newLength_cabcc_8 : decode cJ8_newLength_cabcc 8 = .ok (.iconst 0, 1) := by decide +kernel
theorem dJ8_newLength_cabcc_9 : decode cJ8_newLength_cabcc 9 = .ok (.iload_n 3, 1) := by decide +kernel
theorem dJ8_newLength_cabcc_10 : decode cJ8_newLength_cabcc 10 = .ok (.if_icmp .ge 11, 3) := by decide +kernel
theorem dJ8_newLength_cabcc_13 : decode cJ8_newLength_cabcc 13 = .ok (.iload_n 3, 1) := by decide +kernel
theorem dJ8_newLength_cabcc_14 : decode cJ8_newLength_cabcc 14 = .ok (.ldc 200, 2) := by decide +kernel
theorem dJ8_newLength_cabcc_16 : decode cJ8_newLength_cabcc 16 = .ok (.if_icmp .gt 5, 3) := by decide +kernel
theorem dJ8_newLength_cabcc_19 : decode cJ8_newLength_cabcc 19 = .ok (.iload_n 3, 1) := by decide +kernel
theorem dJ8_newLength_cabcc_20 : decode cJ8_newLength_cabcc 20 = .ok (.ireturn, 1) := by decide +kernel
theorem dJ8_newLength_cabcc_21 : decode cJ8_newLength_cabcc 21 = .ok (.iload_n 0, 1) := by decide +kernel
theorem dJ8_newLength_cabcc_22 : decode cJ8_newLength_cabcc 22 = .ok (.iload_n 1, 1) := by decide +kernel
theorem dJ8_newLength_cabcc_23 : decode cJ8_newLength_cabcc 23 = .ok (.invokestatic 201, 3) := by decide +kernel
theorem dJ8_newLength_cabcc_26 : decode cJ8_newLength_cabcc 26 = .ok (.ireturn, 1) := by decide +kernel
theorem dJ8_hugeLength_7cf53_0 : decode cJ8_hugeLength_7cf53 0 = .ok (.iload_n 0, 1) := by decide +kernel
theorem dJ8_hugeLength_7cf53_1 : decode cJ8_hugeLength_7cf53 1 = .ok (.iload_n 1, 1) := by decide +kernel
theorem dJ8_hugeLength_7cf53_2 : decode cJ8_hugeLength_7cf53 2 = .ok (.iadd, 1) := by decide +kernel
theorem dJ8_hugeLength_7cf53_3 : decode cJ8_hugeLength_7cf53 3 = .ok (.istore_n 2, 1) := by decide +kernel
theorem dJ8_hugeLength_7cf53_4 : decode cJ8_hugeLength_7cf53 4 = .ok (.iload_n 2, 1) := by decide +kernel
theorem dJ8_hugeLength_7cf53_5 : decode cJ8_hugeLength_7cf53 5 = .ok (.ifCond .ge 44, 3) := by decide +kernel
theorem dJ8_hugeLength_7cf53_8 : decode cJ8_hugeLength_7cf53 8 = .ok (.new 204, 3) := by decide +kernel
theorem dJ8_hugeLength_7cf53_11 : decode cJ8_hugeLength_7cf53 11 = .ok (.dup, 1) := by decide +kernel
theorem dJ8_hugeLength_7cf53_12 : decode cJ8_hugeLength_7cf53 12 = .ok (.new 89, 3) := by decide +kernel
theorem dJ8_hugeLength_7cf53_15 : decode cJ8_hugeLength_7cf53 15 = .ok (.dup, 1) := by decide +kernel
theorem dJ8_hugeLength_7cf53_16 : decode cJ8_hugeLength_7cf53 16 = .ok (.invokespecial 91, 3) := by decide +kernel
theorem dJ8_hugeLength_7cf53_19 : decode cJ8_hugeLength_7cf53 19 = .ok (.ldc 206, 2) := by decide +kernel
theorem dJ8_hugeLength_7cf53_21 : decode cJ8_hugeLength_7cf53 21 = .ok (.invokevirtual 94, 3) := by decide +kernel
theorem dJ8_hugeLength_7cf53_24 : decode cJ8_hugeLength_7cf53 24 = .ok (.iload_n 0, 1) := by decide +kernel
theorem dJ8_hugeLength_7cf53_25 : decode cJ8_hugeLength_7cf53 25 = .ok (.invokevirtual 98, 3) := by decide +kernel
theorem dJ8_hugeLength_7cf53_28 : decode cJ8_hugeLength_7cf53 28 = .ok (.ldc 208, 2) := by decide +kernel
theorem dJ8_hugeLength_7cf53_30 : decode cJ8_hugeLength_7cf53 30 = .ok (.invokevirtual 94, 3) := by decide +kernel
theorem dJ8_hugeLength_7cf53_33 : decode cJ8_hugeLength_7cf53 33 = .ok (.iload_n 1, 1) := by decide +kernel
theorem dJ8_hugeLength_7cf53_34 : decode cJ8_hugeLength_7cf53 34 = .ok (.invokevirtual 98, 3) := by decide +kernel
theorem dJ8_hugeLength_7cf53_37 : decode cJ8_hugeLength_7cf53 37 = .ok (.ldc 210, 2) := by decide +kernel
theorem dJ8_hugeLength_7cf53_39 : decode cJ8_hugeLength_7cf53 39 = .ok (.invokevirtual 94, 3) := by decide +kernel
theorem dJ8_hugeLength_7cf53_42 : decode cJ8_hugeLength_7cf53 42 = .ok (.invokevirtual 101, 3) := by decide +kernel
theorem dJ8_hugeLength_7cf53_45 : decode cJ8_hugeLength_7cf53 45 = .ok (.invokespecial 212, 3) := by decide +kernel
theorem dJ8_hugeLength_7cf53_48 : decode cJ8_hugeLength_7cf53 48 = .ok (.athrow, 1) := by decide +kernel
theorem dJ8_hugeLength_7cf53_49 : decode cJ8_hugeLength_7cf53 49 = .ok (.iload_n 2, 1) := by decide +kernel
theorem dJ8_hugeLength_7cf53_50 : decode cJ8_hugeLength_7cf53 50 = .ok (.ldc 200, 2) := by decide +kernel
theorem dJ8_hugeLength_7cf53_52 : decode cJ8_hugeLength_7cf53 52 = .ok (.if_icmp .gt 6, 3) := by decide +kernel
theorem dJ8_hugeLength_7cf53_55 : decode cJ8_hugeLength_7cf53 55 = .ok (.ldc 200, 2) := by decide +kernel
theorem dJ8_hugeLength_7cf53_57 : decode cJ8_hugeLength_7cf53 57 = .ok (.ireturn, 1) := by decide +kernel
theorem dJ8_hugeLength_7cf53_58 : decode cJ8_hugeLength_7cf53 58 = .ok (.iload_n 2, 1) := by decide +kernel
theorem dJ8_hugeLength_7cf53_59 : decode cJ8_hugeLength_7cf53 59 = .ok (.ireturn, 1) := by decide +kernel
theorem dJ3_checkIndex_8e157_0 : decode cJ3_checkIndex_8e157 0 = .ok (.iload_n 0, 1) := by decide +kernel
theorem dJ3_checkIndex_8e157_1 : decode cJ3_checkIndex_8e157 1 = .ok (.ifCond .lt 8, 3) := by decide +kernel
theorem dJ3_checkIndex_8e157_4 : decode cJ3_checkIndex_8e157 4 = .ok (.iload_n 0, 1) := by decide +kernel
theorem dJ3_checkIndex_8e157_5 : decode cJ3_checkIndex_8e157 5 = .ok (.iload_n 1, 1) := by decide +kernel
theorem dJ3_checkIndex_8e157_6 : decode cJ3_checkIndex_8e157 6 = .ok (.if_icmp .lt 10, 3) := by decide +kernel
theorem dJ3_checkIndex_8e157_9 : decode cJ3_checkIndex_8e157 9 = .ok (.aload_n 2, 1) := by decide +kernel
theorem dJ3_checkIndex_8e157_10 : decode cJ3_checkIndex_8e157 10 = .ok (.iload_n 0, 1) := by decide +kernel
theorem dJ3_checkIndex_8e157_11 : decode cJ3_checkIndex_8e157 11 = .ok (.iload_n 1, 1) := by decide +kernel
theorem dJ3_checkIndex_8e157_12 : decode cJ3_checkIndex_8e157 12 = .ok (.invokestatic 95, 3) := by decide +kernel
theorem dJ3_checkIndex_8e157_15 : decode cJ3_checkIndex_8e157 15 = .ok (.athrow, 1) := by decide +kernel
theorem dJ3_checkIndex_8e157_16 : decode cJ3_checkIndex_8e157 16 = .ok (.iload_n 0, 1) := by decide +kernel
theorem dJ3_checkIndex_8e157_17 : decode cJ3_checkIndex_8e157 17 = .ok (.ireturn, 1) := by decide +kernel
theorem dJ3_checkFromIndexSize_8c36e_0 : decode cJ3_checkFromIndexSize_8c36e 0 = .ok (.iload_n 2, 1) := by decide +kernel
theorem dJ3_checkFromIndexSize_8c36e_1 : decode cJ3_checkFromIndexSize_8c36e 1 = .ok (.iload_n 0, 1) := by decide +kernel
theorem dJ3_checkFromIndexSize_8c36e_2 : decode cJ3_checkFromIndexSize_8c36e 2 = .ok (.ior, 1) := by decide +kernel
theorem dJ3_checkFromIndexSize_8c36e_3 : decode cJ3_checkFromIndexSize_8c36e 3 = .ok (.iload_n 1, 1) := by decide +kernel
theorem dJ3_checkFromIndexSize_8c36e_4 : decode cJ3_checkFromIndexSize_8c36e 4 = .ok (.ior, 1) := by decide +kernel
theorem dJ3_checkFromIndexSize_8c36e_5 : decode cJ3_checkFromIndexSize_8c36e 5 = .ok (.ifCond .lt 10, 3) := by decide +kernel
theorem dJ3_checkFromIndexSize_8c36e_8 : decode cJ3_checkFromIndexSize_8c36e 8 = .ok (.iload_n 1, 1) := by decide +kernel
theorem dJ3_checkFromIndexSize_8c36e_9 : decode cJ3_checkFromIndexSize_8c36e 9 = .ok (.iload_n 2, 1) := by decide +kernel
theorem dJ3_checkFromIndexSize_8c36e_10 : decode cJ3_checkFromIndexSize_8c36e 10 = .ok (.iload_n 0, 1) := by decide +kernel
theorem dJ3_checkFromIndexSize_8c36e_11 : decode cJ3_checkFromIndexSize_8c36e 11 = .ok (.isub, 1) := by decide +kernel
theorem dJ3_checkFromIndexSize_8c36e_12 : decode cJ3_checkFromIndexSize_8c36e 12 = .ok (.if_icmp .le 11, 3) := by decide +kernel
theorem dJ3_checkFromIndexSize_8c36e_15 : decode cJ3_checkFromIndexSize_8c36e 15 = .ok (.aload_n 3, 1) := by decide +kernel
theorem dJ3_checkFromIndexSize_8c36e_16 : decode cJ3_checkFromIndexSize_8c36e 16 = .ok (.iload_n 0, 1) := by decide +kernel
theorem dJ3_checkFromIndexSize_8c36e_17 : decode cJ3_checkFromIndexSize_8c36e 17 = .ok (.iload_n 1, 1) := by decide +kernel
theorem dJ3_checkFromIndexSize_8c36e_18 : decode cJ3_checkFromIndexSize_8c36e 18 = .ok (.iload_n 2, 1) := by decide +kernel
theorem dJ3_checkFromIndexSize_8c36e_19 : decode cJ3_checkFromIndexSize_8c36e 19 = .ok (.invokestatic 103, 3) := by decide +kernel
theorem dJ3_checkFromIndexSize_8c36e_22 : decode cJ3_checkFromIndexSize_8c36e 22 = .ok (.athrow, 1) := by decide +kernel
theorem dJ3_checkFromIndexSize_8c36e_23 : decode cJ3_checkFromIndexSize_8c36e 23 = .ok (.iload_n 0, 1) := by decide +kernel
theorem dJ3_checkFromIndexSize_8c36e_24 : decode cJ3_checkFromIndexSize_8c36e 24 = .ok (.ireturn, 1) := by decide +kernel
theorem dL_law_0 : decode cL_law 0 = .ok (.new 7, 3) := by decide +kernel
theorem dL_law_3 : decode cL_law 3 = .ok (.dup, 1) := by decide +kernel
theorem dL_law_4 : decode cL_law 4 = .ok (.invokespecial 9, 3) := by decide +kernel
theorem dL_law_7 : decode cL_law 7 = .ok (.astore_n 1, 1) := by decide +kernel
theorem dL_law_8 : decode cL_law 8 = .ok (.new 10, 3) := by decide +kernel
theorem dL_law_11 : decode cL_law 11 = .ok (.dup, 1) := by decide +kernel
theorem dL_law_12 : decode cL_law 12 = .ok (.invokespecial 12, 3) := by decide +kernel
theorem dL_law_15 : decode cL_law 15 = .ok (.astore_n 2, 1) := by decide +kernel
theorem dL_law_16 : decode cL_law 16 = .ok (.iconst 0, 1) := by decide +kernel
theorem dL_law_17 : decode cL_law 17 = .ok (.istore_n 3, 1) := by decide +kernel
theorem dL_law_18 : decode cL_law 18 = .ok (.iload_n 3, 1) := by decide +kernel
theorem dL_law_19 : decode cL_law 19 = .ok (.aload_n 0, 1) := by decide +kernel
theorem dL_law_20 : decode cL_law 20 = .ok (.arraylength, 1) := by decide +kernel
theorem dL_law_21 : decode cL_law 21 = .ok (.iconst 4, 1) := by decide +kernel
theorem dL_law_22 : decode cL_law 22 = .ok (.isub, 1) := by decide +kernel
theorem dL_law_23 : decode cL_law 23 = .ok (.if_icmp .gt 954, 3) := by decide +kernel
theorem dL_law_26 : decode cL_law 26 = .ok (.aload_n 0, 1) := by decide +kernel
theorem dL_law_27 : decode cL_law 27 = .ok (.iload_n 3, 1) := by decide +kernel
theorem dL_law_28 : decode cL_law 28 = .ok (.iaload, 1) := by decide +kernel
theorem dL_law_29 : decode cL_law 29 = .ok (.bipush 31, 2) := by decide +kernel
theorem dL_law_31 : decode cL_law 31 = .ok (.iand, 1) := by decide +kernel
theorem dL_law_32 : decode cL_law 32 = .ok (.tableswitch 939 0 30 #[140, 163, 206, 229, 242, 265, 288, 321, 344, 357, 390, 413, 436, 485, 518, 541, 554, 567, 580, 593, 606, 619, 662, 695, 718, 751, 784, 807, 830, 853, 886], 140) := by decide +kernel
theorem dL_law_172 : decode cL_law 172 = .ok (.aload_n 1, 1) := by decide +kernel
theorem dL_law_173 : decode cL_law 173 = .ok (.aload_n 0, 1) := by decide +kernel
theorem dL_law_174 : decode cL_law 174 = .ok (.iload_n 3, 1) := by decide +kernel
theorem dL_law_175 : decode cL_law 175 = .ok (.iconst 1, 1) := by decide +kernel
theorem dL_law_176 : decode cL_law 176 = .ok (.iadd, 1) := by decide +kernel
theorem dL_law_177 : decode cL_law 177 = .ok (.iaload, 1) := by decide +kernel
theorem dL_law_178 : decode cL_law 178 = .ok (.invokevirtual 13, 3) := by decide +kernel
theorem dL_law_181 : decode cL_law 181 = .ok (.aload_n 2, 1) := by decide +kernel
theorem dL_law_182 : decode cL_law 182 = .ok (.aload_n 0, 1) := by decide +kernel
theorem dL_law_183 : decode cL_law 183 = .ok (.iload_n 3, 1) := by decide +kernel
theorem dL_law_184 : decode cL_law 184 = .ok (.iconst 1, 1) := by decide +kernel
theorem dL_law_185 : decode cL_law 185 = .ok (.iadd, 1) := by decide +kernel
theorem dL_law_186 : decode cL_law 186 = .ok (.iaload, 1) := by decide +kernel
theorem dL_law_187 : decode cL_law 187 = .ok (.invokevirtual 17, 3) := by decide +kernel
theorem dL_law_190 : decode cL_law 190 = .ok (.if_icmp .eq 781, 3) := by decide +kernel
theorem dL_law_193 : decode cL_law 193 = .ok (.iconst 0, 1) := by decide +kernel
theorem dL_law_194 : decode cL_law 194 = .ok (.ireturn, 1) := by decide +kernel
theorem dL_law_195 : decode cL_law 195 = .ok (.aload_n 1, 1) := by decide +kernel
theorem dL_law_196 : decode cL_law 196 = .ok (.aload_n 0, 1) := by decide +kernel
theorem dL_law_197 : decode cL_law 197 = .ok (.iload_n 3, 1) := by decide +kernel
theorem dL_law_198 : decode cL_law 198 = .ok (.iconst 1, 1) := by decide +kernel
theorem dL_law_199 : decode cL_law 199 = .ok (.iadd, 1) := by decide +kernel
theorem dL_law_200 : decode cL_law 200 = .ok (.iaload, 1) := by decide +kernel
theorem dL_law_201 : decode cL_law 201 = .ok (.aload_n 0, 1) := by decide +kernel
theorem dL_law_202 : decode cL_law 202 = .ok (.iload_n 3, 1) := by decide +kernel
theorem dL_law_203 : decode cL_law 203 = .ok (.iconst 2, 1) := by decide +kernel
theorem dL_law_204 : decode cL_law 204 = .ok (.iadd, 1) := by decide +kernel
theorem dL_law_205 : decode cL_law 205 = .ok (.iaload, 1) := by decide +kernel
theorem dL_law_206 : decode cL_law 206 = .ok (.aload_n 0, 1) := by decide +kernel
theorem dL_law_207 : decode cL_law 207 = .ok (.iload_n 3, 1) := by decide +kernel
theorem dL_law_208 : decode cL_law 208 = .ok (.iconst 3, 1) := by decide +kernel
theorem dL_law_209 : decode cL_law 209 = .ok (.iadd, 1) := by decide +kernel
theorem dL_law_210 : decode cL_law 210 = .ok (.iaload, 1) := by decide +kernel
theorem dL_law_211 : decode cL_law 211 = .ok (.invokevirtual 18, 3) := by decide +kernel
theorem dL_law_214 : decode cL_law 214 = .ok (.aload_n 2, 1) := by decide +kernel
theorem dL_law_215 : decode cL_law 215 = .ok (.aload_n 0, 1) := by decide +kernel
theorem dL_law_216 : decode cL_law 216 = .ok (.iload_n 3, 1) := by decide +kernel
theorem dL_law_217 : decode cL_law 217 = .ok (.iconst 1, 1) := by decide +kernel
theorem dL_law_218 : decode cL_law 218 = .ok (.iadd, 1) := by decide +kernel
theorem dL_law_219 : decode cL_law 219 = .ok (.iaload, 1) := by decide +kernel
theorem dL_law_220 : decode cL_law 220 = .ok (.aload_n 0, 1) := by decide +kernel
theorem dL_law_221 : decode cL_law 221 = .ok (.iload_n 3, 1) := by decide +kernel
theorem dL_law_222 : decode cL_law 222 = .ok (.iconst 2, 1) := by decide +kernel
theorem dL_law_223 : decode cL_law 223 = .ok (.iadd, 1) := by decide +kernel
theorem dL_law_224 : decode cL_law 224 = .ok (.iaload, 1) := by decide +kernel
theorem dL_law_225 : decode cL_law 225 = .ok (.aload_n 0, 1) := by decide +kernel
theorem dL_law_226 : decode cL_law 226 = .ok (.iload_n 3, 1) := by decide +kernel
theorem dL_law_227 : decode cL_law 227 = .ok (.iconst 3, 1) := by decide +kernel
theorem dL_law_228 : decode cL_law 228 = .ok (.iadd, 1) := by decide +kernel
theorem dL_law_229 : decode cL_law 229 = .ok (.iaload, 1) := by decide +kernel
theorem dL_law_230 : decode cL_law 230 = .ok (.invokevirtual 22, 3) := by decide +kernel
theorem dL_law_233 : decode cL_law 233 = .ok (.if_icmp .eq 738, 3) := by decide +kernel
theorem dL_law_236 : decode cL_law 236 = .ok (.iconst 0, 1) := by decide +kernel
theorem dL_law_237 : decode cL_law 237 = .ok (.ireturn, 1) := by decide +kernel
theorem dL_law_238 : decode cL_law 238 = .ok (.aload_n 1, 1) := by decide +kernel
theorem dL_law_239 : decode cL_law 239 = .ok (.aload_n 0, 1) := by decide +kernel
theorem dL_law_240 : decode cL_law 240 = .ok (.iload_n 3, 1) := by decide +kernel
theorem dL_law_241 : decode cL_law 241 = .ok (.iconst 1, 1) := by decide +kernel
theorem dL_law_242 : decode cL_law 242 = .ok (.iadd, 1) := by decide +kernel
theorem dL_law_243 : decode cL_law 243 = .ok (.iaload, 1) := by decide +kernel
theorem dL_law_244 : decode cL_law 244 = .ok (.invokevirtual 23, 3) := by decide +kernel
theorem dL_law_247 : decode cL_law 247 = .ok (.aload_n 2, 1) := by decide +kernel
theorem dL_law_248 : decode cL_law 248 = .ok (.aload_n 0, 1) := by decide +kernel
theorem dL_law_249 : decode cL_law 249 = .ok (.iload_n 3, 1) := by decide +kernel
theorem dL_law_250 : decode cL_law 250 = .ok (.iconst 1, 1) := by decide +kernel
theorem dL_law_251 : decode cL_law 251 = .ok (.iadd, 1) := by decide +kernel
theorem dL_law_252 : decode cL_law 252 = .ok (.iaload, 1) := by decide +kernel
theorem dL_law_253 : decode cL_law 253 = .ok (.invokevirtual 26, 3) := by decide +kernel
theorem dL_law_256 : decode cL_law 256 = .ok (.if_icmp .eq 715, 3) := by decide +kernel
theorem dL_law_259 : decode cL_law 259 = .ok (.iconst 0, 1) := by decide +kernel
theorem dL_law_260 : decode cL_law 260 = .ok (.ireturn, 1) := by decide +kernel
theorem dL_law_261 : decode cL_law 261 = .ok (.aload_n 1, 1) := by decide +kernel
theorem dL_law_262 : decode cL_law 262 = .ok (.invokevirtual 27, 3) := by decide +kernel
theorem dL_law_265 : decode cL_law 265 = .ok (.aload_n 2, 1) := by decide +kernel
theorem dL_law_266 : decode cL_law 266 = .ok (.invokevirtual 31, 3) := by decide +kernel
theorem dL_law_269 : decode cL_law 269 = .ok (.if_icmp .eq 702, 3) := by decide +kernel
theorem dL_law_272 : decode cL_law 272 = .ok (.iconst 0, 1) := by decide +kernel
theorem dL_law_273 : decode cL_law 273 = .ok (.ireturn, 1) := by decide +kernel
theorem dL_law_274 : decode cL_law 274 = .ok (.aload_n 1, 1) := by decide +kernel
theorem dL_law_275 : decode cL_law 275 = .ok (.aload_n 0, 1) := by decide +kernel
theorem dL_law_276 : decode cL_law 276 = .ok (.iload_n 3, 1) := by decide +kernel
theorem dL_law_277 : decode cL_law 277 = .ok (.iconst 1, 1) := by decide +kernel
theorem dL_law_278 : decode cL_law 278 = .ok (.iadd, 1) := by decide +kernel
theorem dL_law_279 : decode cL_law 279 = .ok (.iaload, 1) := by decide +kernel
theorem dL_law_280 : decode cL_law 280 = .ok (.invokevirtual 32, 3) := by decide +kernel
theorem dL_law_283 : decode cL_law 283 = .ok (.aload_n 2, 1) := by decide +kernel
theorem dL_law_284 : decode cL_law 284 = .ok (.aload_n 0, 1) := by decide +kernel
theorem dL_law_285 : decode cL_law 285 = .ok (.iload_n 3, 1) := by decide +kernel
theorem dL_law_286 : decode cL_law 286 = .ok (.iconst 1, 1) := by decide +kernel
theorem dL_law_287 : decode cL_law 287 = .ok (.iadd, 1) := by decide +kernel
theorem dL_law_288 : decode cL_law 288 = .ok (.iaload, 1) := by decide +kernel
theorem dL_law_289 : decode cL_law 289 = .ok (.invokevirtual 35, 3) := by decide +kernel
theorem dL_law_292 : decode cL_law 292 = .ok (.if_icmp .eq 679, 3) := by decide +kernel
theorem dL_law_295 : decode cL_law 295 = .ok (.iconst 0, 1) := by decide +kernel
theorem dL_law_296 : decode cL_law 296 = .ok (.ireturn, 1) := by decide +kernel
theorem dL_law_297 : decode cL_law 297 = .ok (.aload_n 1, 1) := by decide +kernel
theorem dL_law_298 : decode cL_law 298 = .ok (.aload_n 0, 1) := by decide +kernel
theorem dL_law_299 : decode cL_law 299 = .ok (.iload_n 3, 1) := by decide +kernel
theorem dL_law_300 : decode cL_law 300 = .ok (.iconst 1, 1) := by decide +kernel
theorem dL_law_301 : decode cL_law 301 = .ok (.iadd, 1) := by decide +kernel
theorem dL_law_302 : decode cL_law 302 = .ok (.iaload, 1) := by decide +kernel
theorem dL_law_303 : decode cL_law 303 = .ok (.invokevirtual 36, 3) := by decide +kernel
theorem dL_law_306 : decode cL_law 306 = .ok (.aload_n 2, 1) := by decide +kernel
theorem dL_law_307 : decode cL_law 307 = .ok (.aload_n 0, 1) := by decide +kernel
theorem dL_law_308 : decode cL_law 308 = .ok (.iload_n 3, 1) := by decide +kernel
theorem dL_law_309 : decode cL_law 309 = .ok (.iconst 1, 1) := by decide +kernel
theorem dL_law_310 : decode cL_law 310 = .ok (.iadd, 1) := by decide +kernel
theorem dL_law_311 : decode cL_law 311 = .ok (.iaload, 1) := by decide +kernel
theorem dL_law_312 : decode cL_law 312 = .ok (.invokevirtual 39, 3) := by decide +kernel
theorem dL_law_315 : decode cL_law 315 = .ok (.if_icmp .eq 656, 3) := by decide +kernel
theorem dL_law_318 : decode cL_law 318 = .ok (.iconst 0, 1) := by decide +kernel
theorem dL_law_319 : decode cL_law 319 = .ok (.ireturn, 1) := by decide +kernel
theorem dL_law_320 : decode cL_law 320 = .ok (.aload_n 1, 1) := by decide +kernel
theorem dL_law_321 : decode cL_law 321 = .ok (.aload_n 0, 1) := by decide +kernel
theorem dL_law_322 : decode cL_law 322 = .ok (.iload_n 3, 1) := by decide +kernel
theorem dL_law_323 : decode cL_law 323 = .ok (.iconst 1, 1) := by decide +kernel
theorem dL_law_324 : decode cL_law 324 = .ok (.iadd, 1) := by decide +kernel
theorem dL_law_325 : decode cL_law 325 = .ok (.iaload, 1) := by decide +kernel
theorem dL_law_326 : decode cL_law 326 = .ok (.aload_n 0, 1) := by decide +kernel
theorem dL_law_327 : decode cL_law 327 = .ok (.iload_n 3, 1) := by decide +kernel
theorem dL_law_328 : decode cL_law 328 = .ok (.iconst 2, 1) := by decide +kernel
theorem dL_law_329 : decode cL_law 329 = .ok (.iadd, 1) := by decide +kernel
theorem dL_law_330 : decode cL_law 330 = .ok (.iaload, 1) := by decide +kernel
theorem dL_law_331 : decode cL_law 331 = .ok (.invokevirtual 40, 3) := by decide +kernel
theorem dL_law_334 : decode cL_law 334 = .ok (.aload_n 2, 1) := by decide +kernel
theorem dL_law_335 : decode cL_law 335 = .ok (.aload_n 0, 1) := by decide +kernel
theorem dL_law_336 : decode cL_law 336 = .ok (.iload_n 3, 1) := by decide +kernel
theorem dL_law_337 : decode cL_law 337 = .ok (.iconst 1, 1) := by decide +kernel
theorem dL_law_338 : decode cL_law 338 = .ok (.iadd, 1) := by decide +kernel
theorem dL_law_339 : decode cL_law 339 = .ok (.iaload, 1) := by decide +kernel
theorem dL_law_340 : decode cL_law 340 = .ok (.aload_n 0, 1) := by decide +kernel
theorem dL_law_341 : decode cL_law 341 = .ok (.iload_n 3, 1) := by decide +kernel
theorem dL_law_342 : decode cL_law 342 = .ok (.iconst 2, 1) := by decide +kernel
theorem dL_law_343 : decode cL_law 343 = .ok (.iadd, 1) := by decide +kernel
theorem dL_law_344 : decode cL_law 344 = .ok (.iaload, 1) := by decide +kernel
theorem dL_law_345 : decode cL_law 345 = .ok (.invokevirtual 44, 3) := by decide +kernel
theorem dL_law_348 : decode cL_law 348 = .ok (.if_icmp .eq 623, 3) := by decide +kernel
theorem dL_law_351 : decode cL_law 351 = .ok (.iconst 0, 1) := by decide +kernel
theorem dL_law_352 : decode cL_law 352 = .ok (.ireturn, 1) := by decide +kernel
theorem dL_law_353 : decode cL_law 353 = .ok (.aload_n 1, 1) := by decide +kernel
theorem dL_law_354 : decode cL_law 354 = .ok (.aload_n 0, 1) := by decide +kernel
theorem dL_law_355 : decode cL_law 355 = .ok (.iload_n 3, 1) := by decide +kernel
theorem dL_law_356 : decode cL_law 356 = .ok (.iconst 1, 1) := by decide +kernel
theorem dL_law_357 : decode cL_law 357 = .ok (.iadd, 1) := by decide +kernel
theorem dL_law_358 : decode cL_law 358 = .ok (.iaload, 1) := by decide +kernel
theorem dL_law_359 : decode cL_law 359 = .ok (.invokevirtual 45, 3) := by decide +kernel
theorem dL_law_362 : decode cL_law 362 = .ok (.aload_n 2, 1) := by decide +kernel
theorem dL_law_363 : decode cL_law 363 = .ok (.aload_n 0, 1) := by decide +kernel
theorem dL_law_364 : decode cL_law 364 = .ok (.iload_n 3, 1) := by decide +kernel
theorem dL_law_365 : decode cL_law 365 = .ok (.iconst 1, 1) := by decide +kernel
theorem dL_law_366 : decode cL_law 366 = .ok (.iadd, 1) := by decide +kernel
theorem dL_law_367 : decode cL_law 367 = .ok (.iaload, 1) := by decide +kernel
theorem dL_law_368 : decode cL_law 368 = .ok (.invokevirtual 48, 3) := by decide +kernel
theorem dL_law_371 : decode cL_law 371 = .ok (.if_icmp .eq 600, 3) := by decide +kernel
theorem dL_law_374 : decode cL_law 374 = .ok (.iconst 0, 1) := by decide +kernel
theorem dL_law_375 : decode cL_law 375 = .ok (.ireturn, 1) := by decide +kernel
theorem dL_law_376 : decode cL_law 376 = .ok (.aload_n 1, 1) := by decide +kernel
theorem dL_law_377 : decode cL_law 377 = .ok (.invokevirtual 49, 3) := by decide +kernel
theorem dL_law_380 : decode cL_law 380 = .ok (.aload_n 2, 1) := by decide +kernel
theorem dL_law_381 : decode cL_law 381 = .ok (.invokevirtual 52, 3) := by decide +kernel
theorem dL_law_384 : decode cL_law 384 = .ok (.if_icmp .eq 587, 3) := by decide +kernel
theorem dL_law_387 : decode cL_law 387 = .ok (.iconst 0, 1) := by decide +kernel
theorem dL_law_388 : decode cL_law 388 = .ok (.ireturn, 1) := by decide +kernel
theorem dL_law_389 : decode cL_law 389 = .ok (.aload_n 1, 1) := by decide +kernel
theorem dL_law_390 : decode cL_law 390 = .ok (.aload_n 0, 1) := by decide +kernel
theorem dL_law_391 : decode cL_law 391 = .ok (.iload_n 3, 1) := by decide +kernel
theorem dL_law_392 : decode cL_law 392 = .ok (.iconst 1, 1) := by decide +kernel
theorem dL_law_393 : decode cL_law 393 = .ok (.iadd, 1) := by decide +kernel
theorem dL_law_394 : decode cL_law 394 = .ok (.iaload, 1) := by decide +kernel
theorem dL_law_395 : decode cL_law 395 = .ok (.aload_n 0, 1) := by decide +kernel
theorem dL_law_396 : decode cL_law 396 = .ok (.iload_n 3, 1) := by decide +kernel
theorem dL_law_397 : decode cL_law 397 = .ok (.iconst 2, 1) := by decide +kernel
theorem dL_law_398 : decode cL_law 398 = .ok (.iadd, 1) := by decide +kernel
theorem dL_law_399 : decode cL_law 399 = .ok (.iaload, 1) := by decide +kernel
theorem dL_law_400 : decode cL_law 400 = .ok (.invokevirtual 53, 3) := by decide +kernel
theorem dL_law_403 : decode cL_law 403 = .ok (.aload_n 2, 1) := by decide +kernel
theorem dL_law_404 : decode cL_law 404 = .ok (.aload_n 0, 1) := by decide +kernel
theorem dL_law_405 : decode cL_law 405 = .ok (.iload_n 3, 1) := by decide +kernel
theorem dL_law_406 : decode cL_law 406 = .ok (.iconst 1, 1) := by decide +kernel
theorem dL_law_407 : decode cL_law 407 = .ok (.iadd, 1) := by decide +kernel
theorem dL_law_408 : decode cL_law 408 = .ok (.iaload, 1) := by decide +kernel
theorem dL_law_409 : decode cL_law 409 = .ok (.aload_n 0, 1) := by decide +kernel
theorem dL_law_410 : decode cL_law 410 = .ok (.iload_n 3, 1) := by decide +kernel
theorem dL_law_411 : decode cL_law 411 = .ok (.iconst 2, 1) := by decide +kernel
theorem dL_law_412 : decode cL_law 412 = .ok (.iadd, 1) := by decide +kernel
theorem dL_law_413 : decode cL_law 413 = .ok (.iaload, 1) := by decide +kernel
theorem dL_law_414 : decode cL_law 414 = .ok (.invokevirtual 56, 3) := by decide +kernel
theorem dL_law_417 : decode cL_law 417 = .ok (.if_icmp .eq 554, 3) := by decide +kernel
theorem dL_law_420 : decode cL_law 420 = .ok (.iconst 0, 1) := by decide +kernel
theorem dL_law_421 : decode cL_law 421 = .ok (.ireturn, 1) := by decide +kernel
theorem dL_law_422 : decode cL_law 422 = .ok (.aload_n 1, 1) := by decide +kernel
theorem dL_law_423 : decode cL_law 423 = .ok (.aload_n 0, 1) := by decide +kernel
theorem dL_law_424 : decode cL_law 424 = .ok (.iload_n 3, 1) := by decide +kernel
theorem dL_law_425 : decode cL_law 425 = .ok (.iconst 1, 1) := by decide +kernel
theorem dL_law_426 : decode cL_law 426 = .ok (.iadd, 1) := by decide +kernel
theorem dL_law_427 : decode cL_law 427 = .ok (.iaload, 1) := by decide +kernel
theorem dL_law_428 : decode cL_law 428 = .ok (.invokevirtual 57, 3) := by decide +kernel
theorem dL_law_431 : decode cL_law 431 = .ok (.aload_n 2, 1) := by decide +kernel
theorem dL_law_432 : decode cL_law 432 = .ok (.aload_n 0, 1) := by decide +kernel
theorem dL_law_433 : decode cL_law 433 = .ok (.iload_n 3, 1) := by decide +kernel
theorem dL_law_434 : decode cL_law 434 = .ok (.iconst 1, 1) := by decide +kernel
theorem dL_law_435 : decode cL_law 435 = .ok (.iadd, 1) := by decide +kernel
theorem dL_law_436 : decode cL_law 436 = .ok (.iaload, 1) := by decide +kernel
theorem dL_law_437 : decode cL_law 437 = .ok (.invokevirtual 60, 3) := by decide +kernel
theorem dL_law_440 : decode cL_law 440 = .ok (.if_icmp .eq 531, 3) := by decide +kernel
theorem dL_law_443 : decode cL_law 443 = .ok (.iconst 0, 1) := by decide +kernel
theorem dL_law_444 : decode cL_law 444 = .ok (.ireturn, 1) := by decide +kernel
theorem dL_law_445 : decode cL_law 445 = .ok (.aload_n 1, 1) := by decide +kernel
theorem dL_law_446 : decode cL_law 446 = .ok (.aload_n 0, 1) := by decide +kernel
theorem dL_law_447 : decode cL_law 447 = .ok (.iload_n 3, 1) := by decide +kernel
theorem dL_law_448 : decode cL_law 448 = .ok (.iconst 1, 1) := by decide +kernel
theorem dL_law_449 : decode cL_law 449 = .ok (.iadd, 1) := by decide +kernel
theorem dL_law_450 : decode cL_law 450 = .ok (.iaload, 1) := by decide +kernel
theorem dL_law_451 : decode cL_law 451 = .ok (.invokevirtual 61, 3) := by decide +kernel
theorem dL_law_454 : decode cL_law 454 = .ok (.aload_n 2, 1) := by decide +kernel
theorem dL_law_455 : decode cL_law 455 = .ok (.aload_n 0, 1) := by decide +kernel
theorem dL_law_456 : decode cL_law 456 = .ok (.iload_n 3, 1) := by decide +kernel
theorem dL_law_457 : decode cL_law 457 = .ok (.iconst 1, 1) := by decide +kernel
theorem dL_law_458 : decode cL_law 458 = .ok (.iadd, 1) := by decide +kernel
theorem dL_law_459 : decode cL_law 459 = .ok (.iaload, 1) := by decide +kernel
theorem dL_law_460 : decode cL_law 460 = .ok (.invokevirtual 64, 3) := by decide +kernel
theorem dL_law_463 : decode cL_law 463 = .ok (.if_icmp .eq 508, 3) := by decide +kernel
theorem dL_law_466 : decode cL_law 466 = .ok (.iconst 0, 1) := by decide +kernel
theorem dL_law_467 : decode cL_law 467 = .ok (.ireturn, 1) := by decide +kernel
theorem dL_law_468 : decode cL_law 468 = .ok (.aload_n 1, 1) := by decide +kernel
theorem dL_law_469 : decode cL_law 469 = .ok (.aload_n 0, 1) := by decide +kernel
theorem dL_law_470 : decode cL_law 470 = .ok (.iload_n 3, 1) := by decide +kernel
theorem dL_law_471 : decode cL_law 471 = .ok (.iconst 1, 1) := by decide +kernel
theorem dL_law_472 : decode cL_law 472 = .ok (.iadd, 1) := by decide +kernel
theorem dL_law_473 : decode cL_law 473 = .ok (.iaload, 1) := by decide +kernel
theorem dL_law_474 : decode cL_law 474 = .ok (.aload_n 0, 1) := by decide +kernel
theorem dL_law_475 : decode cL_law 475 = .ok (.iload_n 3, 1) := by decide +kernel
theorem dL_law_476 : decode cL_law 476 = .ok (.iconst 2, 1) := by decide +kernel
theorem dL_law_477 : decode cL_law 477 = .ok (.iadd, 1) := by decide +kernel
theorem dL_law_478 : decode cL_law 478 = .ok (.iaload, 1) := by decide +kernel
theorem dL_law_479 : decode cL_law 479 = .ok (.ifCond .eq 7, 3) := by decide +kernel
theorem dL_law_482 : decode cL_law 482 = .ok (.iconst 1, 1) := by decide +kernel
theorem dL_law_483 : decode cL_law 483 = .ok (.goto 4, 3) := by decide +kernel
theorem dL_law_486 : decode cL_law 486 = .ok (.iconst 0, 1) := by decide +kernel
theorem dL_law_487 : decode cL_law 487 = .ok (.invokevirtual 65, 3) := by decide +kernel
theorem dL_law_490 : decode cL_law 490 = .ok (.aload_n 2, 1) := by decide +kernel
theorem dL_law_491 : decode cL_law 491 = .ok (.aload_n 0, 1) := by decide +kernel
theorem dL_law_492 : decode cL_law 492 = .ok (.iload_n 3, 1) := by decide +kernel
theorem dL_law_493 : decode cL_law 493 = .ok (.iconst 1, 1) := by decide +kernel
theorem dL_law_494 : decode cL_law 494 = .ok (.iadd, 1) := by decide +kernel
theorem dL_law_495 : decode cL_law 495 = .ok (.iaload, 1) := by decide +kernel
theorem dL_law_496 : decode cL_law 496 = .ok (.aload_n 0, 1) := by decide +kernel
theorem dL_law_497 : decode cL_law 497 = .ok (.iload_n 3, 1) := by decide +kernel
theorem dL_law_498 : decode cL_law 498 = .ok (.iconst 2, 1) := by decide +kernel
theorem dL_law_499 : decode cL_law 499 = .ok (.iadd, 1) := by decide +kernel
theorem dL_law_500 : decode cL_law 500 = .ok (.iaload, 1) := by decide +kernel
theorem dL_law_501 : decode cL_law 501 = .ok (.ifCond .eq 7, 3) := by decide +kernel
theorem dL_law_504 : decode cL_law 504 = .ok (.iconst 1, 1) := by decide +kernel
theorem dL_law_505 : decode cL_law 505 = .ok (.goto 4, 3) := by decide +kernel
theorem dL_law_508 : decode cL_law 508 = .ok (.iconst 0, 1) := by decide +kernel
theorem dL_law_509 : decode cL_law 509 = .ok (.invokevirtual 69, 3) := by decide +kernel
theorem dL_law_512 : decode cL_law 512 = .ok (.if_icmp .eq 459, 3) := by decide +kernel
theorem dL_law_515 : decode cL_law 515 = .ok (.iconst 0, 1) := by decide +kernel
theorem dL_law_516 : decode cL_law 516 = .ok (.ireturn, 1) := by decide +kernel
theorem dL_law_517 : decode cL_law 517 = .ok (.aload_n 1, 1) := by decide +kernel
theorem dL_law_518 : decode cL_law 518 = .ok (.aload_n 0, 1) := by decide +kernel
theorem dL_law_519 : decode cL_law 519 = .ok (.iload_n 3, 1) := by decide +kernel
theorem dL_law_520 : decode cL_law 520 = .ok (.iconst 1, 1) := by decide +kernel
theorem dL_law_521 : decode cL_law 521 = .ok (.iadd, 1) := by decide +kernel
theorem dL_law_522 : decode cL_law 522 = .ok (.iaload, 1) := by decide +kernel
theorem dL_law_523 : decode cL_law 523 = .ok (.aload_n 0, 1) := by decide +kernel
theorem dL_law_524 : decode cL_law 524 = .ok (.iload_n 3, 1) := by decide +kernel
theorem dL_law_525 : decode cL_law 525 = .ok (.iconst 2, 1) := by decide +kernel
theorem dL_law_526 : decode cL_law 526 = .ok (.iadd, 1) := by decide +kernel
theorem dL_law_527 : decode cL_law 527 = .ok (.iaload, 1) := by decide +kernel
theorem dL_law_528 : decode cL_law 528 = .ok (.invokevirtual 70, 3) := by decide +kernel
theorem dL_law_531 : decode cL_law 531 = .ok (.aload_n 2, 1) := by decide +kernel
theorem dL_law_532 : decode cL_law 532 = .ok (.aload_n 0, 1) := by decide +kernel
theorem dL_law_533 : decode cL_law 533 = .ok (.iload_n 3, 1) := by decide +kernel
theorem dL_law_534 : decode cL_law 534 = .ok (.iconst 1, 1) := by decide +kernel
theorem dL_law_535 : decode cL_law 535 = .ok (.iadd, 1) := by decide +kernel
theorem dL_law_536 : decode cL_law 536 = .ok (.iaload, 1) := by decide +kernel
theorem dL_law_537 : decode cL_law 537 = .ok (.aload_n 0, 1) := by decide +kernel
theorem dL_law_538 : decode cL_law 538 = .ok (.iload_n 3, 1) := by decide +kernel
theorem dL_law_539 : decode cL_law 539 = .ok (.iconst 2, 1) := by decide +kernel
theorem dL_law_540 : decode cL_law 540 = .ok (.iadd, 1) := by decide +kernel
theorem dL_law_541 : decode cL_law 541 = .ok (.iaload, 1) := by decide +kernel
theorem dL_law_542 : decode cL_law 542 = .ok (.invokevirtual 73, 3) := by decide +kernel
theorem dL_law_545 : decode cL_law 545 = .ok (.if_icmp .eq 426, 3) := by decide +kernel
theorem dL_law_548 : decode cL_law 548 = .ok (.iconst 0, 1) := by decide +kernel
theorem dL_law_549 : decode cL_law 549 = .ok (.ireturn, 1) := by decide +kernel
theorem dL_law_550 : decode cL_law 550 = .ok (.aload_n 1, 1) := by decide +kernel
theorem dL_law_551 : decode cL_law 551 = .ok (.aload_n 0, 1) := by decide +kernel
theorem dL_law_552 : decode cL_law 552 = .ok (.iload_n 3, 1) := by decide +kernel
theorem dL_law_553 : decode cL_law 553 = .ok (.iconst 1, 1) := by decide +kernel
theorem dL_law_554 : decode cL_law 554 = .ok (.iadd, 1) := by decide +kernel
theorem dL_law_555 : decode cL_law 555 = .ok (.iaload, 1) := by decide +kernel
theorem dL_law_556 : decode cL_law 556 = .ok (.invokevirtual 74, 3) := by decide +kernel
theorem dL_law_559 : decode cL_law 559 = .ok (.aload_n 2, 1) := by decide +kernel
theorem dL_law_560 : decode cL_law 560 = .ok (.aload_n 0, 1) := by decide +kernel
theorem dL_law_561 : decode cL_law 561 = .ok (.iload_n 3, 1) := by decide +kernel
theorem dL_law_562 : decode cL_law 562 = .ok (.iconst 1, 1) := by decide +kernel
theorem dL_law_563 : decode cL_law 563 = .ok (.iadd, 1) := by decide +kernel
theorem dL_law_564 : decode cL_law 564 = .ok (.iaload, 1) := by decide +kernel
theorem dL_law_565 : decode cL_law 565 = .ok (.invokevirtual 77, 3) := by decide +kernel
theorem dL_law_568 : decode cL_law 568 = .ok (.if_icmp .eq 403, 3) := by decide +kernel
theorem dL_law_571 : decode cL_law 571 = .ok (.iconst 0, 1) := by decide +kernel
theorem dL_law_572 : decode cL_law 572 = .ok (.ireturn, 1) := by decide +kernel
theorem dL_law_573 : decode cL_law 573 = .ok (.aload_n 1, 1) := by decide +kernel
theorem dL_law_574 : decode cL_law 574 = .ok (.invokevirtual 78, 3) := by decide +kernel
theorem dL_law_577 : decode cL_law 577 = .ok (.aload_n 2, 1) := by decide +kernel
theorem dL_law_578 : decode cL_law 578 = .ok (.invokevirtual 81, 3) := by decide +kernel
theorem dL_law_581 : decode cL_law 581 = .ok (.if_icmp .eq 390, 3) := by decide +kernel
theorem dL_law_584 : decode cL_law 584 = .ok (.iconst 0, 1) := by decide +kernel
theorem dL_law_585 : decode cL_law 585 = .ok (.ireturn, 1) := by decide +kernel
theorem dL_law_586 : decode cL_law 586 = .ok (.aload_n 1, 1) := by decide +kernel
theorem dL_law_587 : decode cL_law 587 = .ok (.invokevirtual 82, 3) := by decide +kernel
theorem dL_law_590 : decode cL_law 590 = .ok (.aload_n 2, 1) := by decide +kernel
theorem dL_law_591 : decode cL_law 591 = .ok (.invokevirtual 85, 3) := by decide +kernel
theorem dL_law_594 : decode cL_law 594 = .ok (.if_icmp .eq 377, 3) := by decide +kernel
theorem dL_law_597 : decode cL_law 597 = .ok (.iconst 0, 1) := by decide +kernel
theorem dL_law_598 : decode cL_law 598 = .ok (.ireturn, 1) := by decide +kernel
theorem dL_law_599 : decode cL_law 599 = .ok (.aload_n 1, 1) := by decide +kernel
theorem dL_law_600 : decode cL_law 600 = .ok (.invokevirtual 86, 3) := by decide +kernel
theorem dL_law_603 : decode cL_law 603 = .ok (.aload_n 2, 1) := by decide +kernel
theorem dL_law_604 : decode cL_law 604 = .ok (.invokevirtual 89, 3) := by decide +kernel
theorem dL_law_607 : decode cL_law 607 = .ok (.if_icmp .eq 364, 3) := by decide +kernel
theorem dL_law_610 : decode cL_law 610 = .ok (.iconst 0, 1) := by decide +kernel
theorem dL_law_611 : decode cL_law 611 = .ok (.ireturn, 1) := by decide +kernel
theorem dL_law_612 : decode cL_law 612 = .ok (.aload_n 1, 1) := by decide +kernel
theorem dL_law_613 : decode cL_law 613 = .ok (.invokevirtual 90, 3) := by decide +kernel
theorem dL_law_616 : decode cL_law 616 = .ok (.aload_n 2, 1) := by decide +kernel
theorem dL_law_617 : decode cL_law 617 = .ok (.invokevirtual 93, 3) := by decide +kernel
theorem dL_law_620 : decode cL_law 620 = .ok (.if_icmp .eq 351, 3) := by decide +kernel
theorem dL_law_623 : decode cL_law 623 = .ok (.iconst 0, 1) := by decide +kernel
theorem dL_law_624 : decode cL_law 624 = .ok (.ireturn, 1) := by decide +kernel
theorem dL_law_625 : decode cL_law 625 = .ok (.aload_n 1, 1) := by decide +kernel
theorem dL_law_626 : decode cL_law 626 = .ok (.invokevirtual 94, 3) := by decide +kernel
theorem dL_law_629 : decode cL_law 629 = .ok (.aload_n 2, 1) := by decide +kernel
theorem dL_law_630 : decode cL_law 630 = .ok (.invokevirtual 97, 3) := by decide +kernel
theorem dL_law_633 : decode cL_law 633 = .ok (.if_icmp .eq 338, 3) := by decide +kernel
theorem dL_law_636 : decode cL_law 636 = .ok (.iconst 0, 1) := by decide +kernel
theorem dL_law_637 : decode cL_law 637 = .ok (.ireturn, 1) := by decide +kernel
theorem dL_law_638 : decode cL_law 638 = .ok (.aload_n 1, 1) := by decide +kernel
theorem dL_law_639 : decode cL_law 639 = .ok (.invokevirtual 98, 3) := by decide +kernel
theorem dL_law_642 : decode cL_law 642 = .ok (.aload_n 2, 1) := by decide +kernel
theorem dL_law_643 : decode cL_law 643 = .ok (.invokevirtual 101, 3) := by decide +kernel
theorem dL_law_646 : decode cL_law 646 = .ok (.if_icmp .eq 325, 3) := by decide +kernel
theorem dL_law_649 : decode cL_law 649 = .ok (.iconst 0, 1) := by decide +kernel
theorem dL_law_650 : decode cL_law 650 = .ok (.ireturn, 1) := by decide +kernel
theorem dL_law_651 : decode cL_law 651 = .ok (.aload_n 1, 1) := by decide +kernel
theorem dL_law_652 : decode cL_law 652 = .ok (.aload_n 0, 1) := by decide +kernel
theorem dL_law_653 : decode cL_law 653 = .ok (.iload_n 3, 1) := by decide +kernel
theorem dL_law_654 : decode cL_law 654 = .ok (.iconst 1, 1) := by decide +kernel
theorem dL_law_655 : decode cL_law 655 = .ok (.iadd, 1) := by decide +kernel
theorem dL_law_656 : decode cL_law 656 = .ok (.iaload, 1) := by decide +kernel
theorem dL_law_657 : decode cL_law 657 = .ok (.aload_n 0, 1) := by decide +kernel
theorem dL_law_658 : decode cL_law 658 = .ok (.iload_n 3, 1) := by decide +kernel
theorem dL_law_659 : decode cL_law 659 = .ok (.iconst 2, 1) := by decide +kernel
theorem dL_law_660 : decode cL_law 660 = .ok (.iadd, 1) := by decide +kernel
theorem dL_law_661 : decode cL_law 661 = .ok (.iaload, 1) := by decide +kernel
theorem dL_law_662 : decode cL_law 662 = .ok (.aload_n 0, 1) := by decide +kernel
theorem dL_law_663 : decode cL_law 663 = .ok (.iload_n 3, 1) := by decide +kernel
theorem dL_law_664 : decode cL_law 664 = .ok (.iconst 3, 1) := by decide +kernel
theorem dL_law_665 : decode cL_law 665 = .ok (.iadd, 1) := by decide +kernel
theorem dL_law_666 : decode cL_law 666 = .ok (.iaload, 1) := by decide +kernel
theorem dL_law_667 : decode cL_law 667 = .ok (.invokevirtual 102, 3) := by decide +kernel
theorem dL_law_670 : decode cL_law 670 = .ok (.aload_n 2, 1) := by decide +kernel
theorem dL_law_671 : decode cL_law 671 = .ok (.aload_n 0, 1) := by decide +kernel
theorem dL_law_672 : decode cL_law 672 = .ok (.iload_n 3, 1) := by decide +kernel
theorem dL_law_673 : decode cL_law 673 = .ok (.iconst 1, 1) := by decide +kernel
theorem dL_law_674 : decode cL_law 674 = .ok (.iadd, 1) := by decide +kernel
theorem dL_law_675 : decode cL_law 675 = .ok (.iaload, 1) := by decide +kernel
theorem dL_law_676 : decode cL_law 676 = .ok (.aload_n 0, 1) := by decide +kernel
theorem dL_law_677 : decode cL_law 677 = .ok (.iload_n 3, 1) := by decide +kernel
theorem dL_law_678 : decode cL_law 678 = .ok (.iconst 2, 1) := by decide +kernel
theorem dL_law_679 : decode cL_law 679 = .ok (.iadd, 1) := by decide +kernel
theorem dL_law_680 : decode cL_law 680 = .ok (.iaload, 1) := by decide +kernel
theorem dL_law_681 : decode cL_law 681 = .ok (.aload_n 0, 1) := by decide +kernel
theorem dL_law_682 : decode cL_law 682 = .ok (.iload_n 3, 1) := by decide +kernel
theorem dL_law_683 : decode cL_law 683 = .ok (.iconst 3, 1) := by decide +kernel
theorem dL_law_684 : decode cL_law 684 = .ok (.iadd, 1) := by decide +kernel
theorem dL_law_685 : decode cL_law 685 = .ok (.iaload, 1) := by decide +kernel
theorem dL_law_686 : decode cL_law 686 = .ok (.invokevirtual 105, 3) := by decide +kernel
theorem dL_law_689 : decode cL_law 689 = .ok (.if_icmp .eq 282, 3) := by decide +kernel
theorem dL_law_692 : decode cL_law 692 = .ok (.iconst 0, 1) := by decide +kernel
theorem dL_law_693 : decode cL_law 693 = .ok (.ireturn, 1) := by decide +kernel
theorem dL_law_694 : decode cL_law 694 = .ok (.aload_n 1, 1) := by decide +kernel
theorem dL_law_695 : decode cL_law 695 = .ok (.aload_n 0, 1) := by decide +kernel
theorem dL_law_696 : decode cL_law 696 = .ok (.iload_n 3, 1) := by decide +kernel
theorem dL_law_697 : decode cL_law 697 = .ok (.iconst 1, 1) := by decide +kernel
theorem dL_law_698 : decode cL_law 698 = .ok (.iadd, 1) := by decide +kernel
theorem dL_law_699 : decode cL_law 699 = .ok (.iaload, 1) := by decide +kernel
theorem dL_law_700 : decode cL_law 700 = .ok (.aload_n 0, 1) := by decide +kernel
theorem dL_law_701 : decode cL_law 701 = .ok (.iload_n 3, 1) := by decide +kernel
theorem dL_law_702 : decode cL_law 702 = .ok (.iconst 2, 1) := by decide +kernel
theorem dL_law_703 : decode cL_law 703 = .ok (.iadd, 1) := by decide +kernel
theorem dL_law_704 : decode cL_law 704 = .ok (.iaload, 1) := by decide +kernel
theorem dL_law_705 : decode cL_law 705 = .ok (.invokevirtual 106, 3) := by decide +kernel
theorem dL_law_708 : decode cL_law 708 = .ok (.aload_n 2, 1) := by decide +kernel
theorem dL_law_709 : decode cL_law 709 = .ok (.aload_n 0, 1) := by decide +kernel
theorem dL_law_710 : decode cL_law 710 = .ok (.iload_n 3, 1) := by decide +kernel
theorem dL_law_711 : decode cL_law 711 = .ok (.iconst 1, 1) := by decide +kernel
theorem dL_law_712 : decode cL_law 712 = .ok (.iadd, 1) := by decide +kernel
theorem dL_law_713 : decode cL_law 713 = .ok (.iaload, 1) := by decide +kernel
theorem dL_law_714 : decode cL_law 714 = .ok (.aload_n 0, 1) := by decide +kernel
theorem dL_law_715 : decode cL_law 715 = .ok (.iload_n 3, 1) := by decide +kernel
theorem dL_law_716 : decode cL_law 716 = .ok (.iconst 2, 1) := by decide +kernel
theorem dL_law_717 : decode cL_law 717 = .ok (.iadd, 1) := by decide +kernel
theorem dL_law_718 : decode cL_law 718 = .ok (.iaload, 1) := by decide +kernel
theorem dL_law_719 : decode cL_law 719 = .ok (.invokevirtual 109, 3) := by decide +kernel
theorem dL_law_722 : decode cL_law 722 = .ok (.if_icmp .eq 249, 3) := by decide +kernel
theorem dL_law_725 : decode cL_law 725 = .ok (.iconst 0, 1) := by decide +kernel
theorem dL_law_726 : decode cL_law 726 = .ok (.ireturn, 1) := by decide +kernel
theorem dL_law_727 : decode cL_law 727 = .ok (.aload_n 1, 1) := by decide +kernel
theorem dL_law_728 : decode cL_law 728 = .ok (.aload_n 0, 1) := by decide +kernel
theorem dL_law_729 : decode cL_law 729 = .ok (.iload_n 3, 1) := by decide +kernel
theorem dL_law_730 : decode cL_law 730 = .ok (.iconst 1, 1) := by decide +kernel
theorem dL_law_731 : decode cL_law 731 = .ok (.iadd, 1) := by decide +kernel
theorem dL_law_732 : decode cL_law 732 = .ok (.iaload, 1) := by decide +kernel
theorem dL_law_733 : decode cL_law 733 = .ok (.invokevirtual 110, 3) := by decide +kernel
theorem dL_law_736 : decode cL_law 736 = .ok (.aload_n 2, 1) := by decide +kernel
theorem dL_law_737 : decode cL_law 737 = .ok (.aload_n 0, 1) := by decide +kernel
theorem dL_law_738 : decode cL_law 738 = .ok (.iload_n 3, 1) := by decide +kernel
theorem dL_law_739 : decode cL_law 739 = .ok (.iconst 1, 1) := by decide +kernel
theorem dL_law_740 : decode cL_law 740 = .ok (.iadd, 1) := by decide +kernel
theorem dL_law_741 : decode cL_law 741 = .ok (.iaload, 1) := by decide +kernel
theorem dL_law_742 : decode cL_law 742 = .ok (.invokevirtual 113, 3) := by decide +kernel
theorem dL_law_745 : decode cL_law 745 = .ok (.if_icmp .eq 226, 3) := by decide +kernel
theorem dL_law_748 : decode cL_law 748 = .ok (.iconst 0, 1) := by decide +kernel
theorem dL_law_749 : decode cL_law 749 = .ok (.ireturn, 1) := by decide +kernel
theorem dL_law_750 : decode cL_law 750 = .ok (.aload_n 1, 1) := by decide +kernel
theorem dL_law_751 : decode cL_law 751 = .ok (.aload_n 0, 1) := by decide +kernel
theorem dL_law_752 : decode cL_law 752 = .ok (.iload_n 3, 1) := by decide +kernel
theorem dL_law_753 : decode cL_law 753 = .ok (.iconst 1, 1) := by decide +kernel
theorem dL_law_754 : decode cL_law 754 = .ok (.iadd, 1) := by decide +kernel
theorem dL_law_755 : decode cL_law 755 = .ok (.iaload, 1) := by decide +kernel
theorem dL_law_756 : decode cL_law 756 = .ok (.aload_n 0, 1) := by decide +kernel
theorem dL_law_757 : decode cL_law 757 = .ok (.iload_n 3, 1) := by decide +kernel
theorem dL_law_758 : decode cL_law 758 = .ok (.iconst 2, 1) := by decide +kernel
theorem dL_law_759 : decode cL_law 759 = .ok (.iadd, 1) := by decide +kernel
theorem dL_law_760 : decode cL_law 760 = .ok (.iaload, 1) := by decide +kernel
theorem dL_law_761 : decode cL_law 761 = .ok (.invokevirtual 114, 3) := by decide +kernel
theorem dL_law_764 : decode cL_law 764 = .ok (.aload_n 2, 1) := by decide +kernel
theorem dL_law_765 : decode cL_law 765 = .ok (.aload_n 0, 1) := by decide +kernel
theorem dL_law_766 : decode cL_law 766 = .ok (.iload_n 3, 1) := by decide +kernel
theorem dL_law_767 : decode cL_law 767 = .ok (.iconst 1, 1) := by decide +kernel
theorem dL_law_768 : decode cL_law 768 = .ok (.iadd, 1) := by decide +kernel
theorem dL_law_769 : decode cL_law 769 = .ok (.iaload, 1) := by decide +kernel
theorem dL_law_770 : decode cL_law 770 = .ok (.aload_n 0, 1) := by decide +kernel
theorem dL_law_771 : decode cL_law 771 = .ok (.iload_n 3, 1) := by decide +kernel
theorem dL_law_772 : decode cL_law 772 = .ok (.iconst 2, 1) := by decide +kernel
theorem dL_law_773 : decode cL_law 773 = .ok (.iadd, 1) := by decide +kernel
theorem dL_law_774 : decode cL_law 774 = .ok (.iaload, 1) := by decide +kernel
theorem dL_law_775 : decode cL_law 775 = .ok (.invokevirtual 117, 3) := by decide +kernel
theorem dL_law_778 : decode cL_law 778 = .ok (.if_icmp .eq 193, 3) := by decide +kernel
theorem dL_law_781 : decode cL_law 781 = .ok (.iconst 0, 1) := by decide +kernel
theorem dL_law_782 : decode cL_law 782 = .ok (.ireturn, 1) := by decide +kernel
theorem dL_law_783 : decode cL_law 783 = .ok (.aload_n 1, 1) := by decide +kernel
theorem dL_law_784 : decode cL_law 784 = .ok (.aload_n 0, 1) := by decide +kernel
theorem dL_law_785 : decode cL_law 785 = .ok (.iload_n 3, 1) := by decide +kernel
theorem dL_law_786 : decode cL_law 786 = .ok (.iconst 1, 1) := by decide +kernel
theorem dL_law_787 : decode cL_law 787 = .ok (.iadd, 1) := by decide +kernel
theorem dL_law_788 : decode cL_law 788 = .ok (.iaload, 1) := by decide +kernel
theorem dL_law_789 : decode cL_law 789 = .ok (.aload_n 0, 1) := by decide +kernel
theorem dL_law_790 : decode cL_law 790 = .ok (.iload_n 3, 1) := by decide +kernel
theorem dL_law_791 : decode cL_law 791 = .ok (.iconst 2, 1) := by decide +kernel
theorem dL_law_792 : decode cL_law 792 = .ok (.iadd, 1) := by decide +kernel
theorem dL_law_793 : decode cL_law 793 = .ok (.iaload, 1) := by decide +kernel
theorem dL_law_794 : decode cL_law 794 = .ok (.invokevirtual 118, 3) := by decide +kernel
theorem dL_law_797 : decode cL_law 797 = .ok (.aload_n 2, 1) := by decide +kernel
theorem dL_law_798 : decode cL_law 798 = .ok (.aload_n 0, 1) := by decide +kernel
theorem dL_law_799 : decode cL_law 799 = .ok (.iload_n 3, 1) := by decide +kernel
theorem dL_law_800 : decode cL_law 800 = .ok (.iconst 1, 1) := by decide +kernel
theorem dL_law_801 : decode cL_law 801 = .ok (.iadd, 1) := by decide +kernel
theorem dL_law_802 : decode cL_law 802 = .ok (.iaload, 1) := by decide +kernel
theorem dL_law_803 : decode cL_law 803 = .ok (.aload_n 0, 1) := by decide +kernel
theorem dL_law_804 : decode cL_law 804 = .ok (.iload_n 3, 1) := by decide +kernel
theorem dL_law_805 : decode cL_law 805 = .ok (.iconst 2, 1) := by decide +kernel
theorem dL_law_806 : decode cL_law 806 = .ok (.iadd, 1) := by decide +kernel
theorem dL_law_807 : decode cL_law 807 = .ok (.iaload, 1) := by decide +kernel
theorem dL_law_808 : decode cL_law 808 = .ok (.invokevirtual 121, 3) := by decide +kernel
theorem dL_law_811 : decode cL_law 811 = .ok (.if_icmp .eq 160, 3) := by decide +kernel
theorem dL_law_814 : decode cL_law 814 = .ok (.iconst 0, 1) := by decide +kernel
theorem dL_law_815 : decode cL_law 815 = .ok (.ireturn, 1) := by decide +kernel
theorem dL_law_816 : decode cL_law 816 = .ok (.aload_n 1, 1) := by decide +kernel
theorem dL_law_817 : decode cL_law 817 = .ok (.aload_n 0, 1) := by decide +kernel
theorem dL_law_818 : decode cL_law 818 = .ok (.iload_n 3, 1) := by decide +kernel
theorem dL_law_819 : decode cL_law 819 = .ok (.iconst 1, 1) := by decide +kernel
theorem dL_law_820 : decode cL_law 820 = .ok (.iadd, 1) := by decide +kernel
theorem dL_law_821 : decode cL_law 821 = .ok (.iaload, 1) := by decide +kernel
theorem dL_law_822 : decode cL_law 822 = .ok (.invokevirtual 122, 3) := by decide +kernel
theorem dL_law_825 : decode cL_law 825 = .ok (.aload_n 2, 1) := by decide +kernel
theorem dL_law_826 : decode cL_law 826 = .ok (.aload_n 0, 1) := by decide +kernel
theorem dL_law_827 : decode cL_law 827 = .ok (.iload_n 3, 1) := by decide +kernel
theorem dL_law_828 : decode cL_law 828 = .ok (.iconst 1, 1) := by decide +kernel
theorem dL_law_829 : decode cL_law 829 = .ok (.iadd, 1) := by decide +kernel
theorem dL_law_830 : decode cL_law 830 = .ok (.iaload, 1) := by decide +kernel
theorem dL_law_831 : decode cL_law 831 = .ok (.invokevirtual 125, 3) := by decide +kernel
theorem dL_law_834 : decode cL_law 834 = .ok (.if_icmp .eq 137, 3) := by decide +kernel
theorem dL_law_837 : decode cL_law 837 = .ok (.iconst 0, 1) := by decide +kernel
theorem dL_law_838 : decode cL_law 838 = .ok (.ireturn, 1) := by decide +kernel
theorem dL_law_839 : decode cL_law 839 = .ok (.aload_n 1, 1) := by decide +kernel
theorem dL_law_840 : decode cL_law 840 = .ok (.aload_n 0, 1) := by decide +kernel
theorem dL_law_841 : decode cL_law 841 = .ok (.iload_n 3, 1) := by decide +kernel
theorem dL_law_842 : decode cL_law 842 = .ok (.iconst 1, 1) := by decide +kernel
theorem dL_law_843 : decode cL_law 843 = .ok (.iadd, 1) := by decide +kernel
theorem dL_law_844 : decode cL_law 844 = .ok (.iaload, 1) := by decide +kernel
theorem dL_law_845 : decode cL_law 845 = .ok (.invokevirtual 126, 3) := by decide +kernel
theorem dL_law_848 : decode cL_law 848 = .ok (.aload_n 2, 1) := by decide +kernel
theorem dL_law_849 : decode cL_law 849 = .ok (.aload_n 0, 1) := by decide +kernel
theorem dL_law_850 : decode cL_law 850 = .ok (.iload_n 3, 1) := by decide +kernel
theorem dL_law_851 : decode cL_law 851 = .ok (.iconst 1, 1) := by decide +kernel
theorem dL_law_852 : decode cL_law 852 = .ok (.iadd, 1) := by decide +kernel
theorem dL_law_853 : decode cL_law 853 = .ok (.iaload, 1) := by decide +kernel
theorem dL_law_854 : decode cL_law 854 = .ok (.invokevirtual 129, 3) := by decide +kernel
theorem dL_law_857 : decode cL_law 857 = .ok (.if_icmp .eq 114, 3) := by decide +kernel
theorem dL_law_860 : decode cL_law 860 = .ok (.iconst 0, 1) := by decide +kernel
theorem dL_law_861 : decode cL_law 861 = .ok (.ireturn, 1) := by decide +kernel
theorem dL_law_862 : decode cL_law 862 = .ok (.aload_n 1, 1) := by decide +kernel
theorem dL_law_863 : decode cL_law 863 = .ok (.aload_n 0, 1) := by decide +kernel
theorem dL_law_864 : decode cL_law 864 = .ok (.iload_n 3, 1) := by decide +kernel
theorem dL_law_865 : decode cL_law 865 = .ok (.iconst 1, 1) := by decide +kernel
theorem dL_law_866 : decode cL_law 866 = .ok (.iadd, 1) := by decide +kernel
theorem dL_law_867 : decode cL_law 867 = .ok (.iaload, 1) := by decide +kernel
theorem dL_law_868 : decode cL_law 868 = .ok (.invokevirtual 130, 3) := by decide +kernel
theorem dL_law_871 : decode cL_law 871 = .ok (.aload_n 2, 1) := by decide +kernel
theorem dL_law_872 : decode cL_law 872 = .ok (.aload_n 0, 1) := by decide +kernel
theorem dL_law_873 : decode cL_law 873 = .ok (.iload_n 3, 1) := by decide +kernel
theorem dL_law_874 : decode cL_law 874 = .ok (.iconst 1, 1) := by decide +kernel
theorem dL_law_875 : decode cL_law 875 = .ok (.iadd, 1) := by decide +kernel
theorem dL_law_876 : decode cL_law 876 = .ok (.iaload, 1) := by decide +kernel
theorem dL_law_877 : decode cL_law 877 = .ok (.invokevirtual 133, 3) := by decide +kernel
theorem dL_law_880 : decode cL_law 880 = .ok (.if_icmp .eq 91, 3) := by decide +kernel
theorem dL_law_883 : decode cL_law 883 = .ok (.iconst 0, 1) := by decide +kernel
theorem dL_law_884 : decode cL_law 884 = .ok (.ireturn, 1) := by decide +kernel
theorem dL_law_885 : decode cL_law 885 = .ok (.aload_n 1, 1) := by decide +kernel
theorem dL_law_886 : decode cL_law 886 = .ok (.aload_n 0, 1) := by decide +kernel
theorem dL_law_887 : decode cL_law 887 = .ok (.iload_n 3, 1) := by decide +kernel
theorem dL_law_888 : decode cL_law 888 = .ok (.iconst 1, 1) := by decide +kernel
theorem dL_law_889 : decode cL_law 889 = .ok (.iadd, 1) := by decide +kernel
theorem dL_law_890 : decode cL_law 890 = .ok (.iaload, 1) := by decide +kernel
theorem dL_law_891 : decode cL_law 891 = .ok (.aload_n 0, 1) := by decide +kernel
theorem dL_law_892 : decode cL_law 892 = .ok (.iload_n 3, 1) := by decide +kernel
theorem dL_law_893 : decode cL_law 893 = .ok (.iconst 2, 1) := by decide +kernel
theorem dL_law_894 : decode cL_law 894 = .ok (.iadd, 1) := by decide +kernel
theorem dL_law_895 : decode cL_law 895 = .ok (.iaload, 1) := by decide +kernel
theorem dL_law_896 : decode cL_law 896 = .ok (.invokevirtual 134, 3) := by decide +kernel
theorem dL_law_899 : decode cL_law 899 = .ok (.aload_n 2, 1) := by decide +kernel
theorem dL_law_900 : decode cL_law 900 = .ok (.aload_n 0, 1) := by decide +kernel
theorem dL_law_901 : decode cL_law 901 = .ok (.iload_n 3, 1) := by decide +kernel
theorem dL_law_902 : decode cL_law 902 = .ok (.iconst 1, 1) := by decide +kernel
theorem dL_law_903 : decode cL_law 903 = .ok (.iadd, 1) := by decide +kernel
theorem dL_law_904 : decode cL_law 904 = .ok (.iaload, 1) := by decide +kernel
theorem dL_law_905 : decode cL_law 905 = .ok (.aload_n 0, 1) := by decide +kernel
theorem dL_law_906 : decode cL_law 906 = .ok (.iload_n 3, 1) := by decide +kernel
theorem dL_law_907 : decode cL_law 907 = .ok (.iconst 2, 1) := by decide +kernel
theorem dL_law_908 : decode cL_law 908 = .ok (.iadd, 1) := by decide +kernel
theorem dL_law_909 : decode cL_law 909 = .ok (.iaload, 1) := by decide +kernel
theorem dL_law_910 : decode cL_law 910 = .ok (.invokevirtual 137, 3) := by decide +kernel
theorem dL_law_913 : decode cL_law 913 = .ok (.if_icmp .eq 58, 3) := by decide +kernel
theorem dL_law_916 : decode cL_law 916 = .ok (.iconst 0, 1) := by decide +kernel
theorem dL_law_917 : decode cL_law 917 = .ok (.ireturn, 1) := by decide +kernel
theorem dL_law_918 : decode cL_law 918 = .ok (.aload_n 1, 1) := by decide +kernel
theorem dL_law_919 : decode cL_law 919 = .ok (.aload_n 0, 1) := by decide +kernel
theorem dL_law_920 : decode cL_law 920 = .ok (.iload_n 3, 1) := by decide +kernel
theorem dL_law_921 : decode cL_law 921 = .ok (.iconst 1, 1) := by decide +kernel
theorem dL_law_922 : decode cL_law 922 = .ok (.iadd, 1) := by decide +kernel
theorem dL_law_923 : decode cL_law 923 = .ok (.iaload, 1) := by decide +kernel
theorem dL_law_924 : decode cL_law 924 = .ok (.invokevirtual 138, 3) := by decide +kernel
theorem dL_law_927 : decode cL_law 927 = .ok (.f2d, 1) := by decide +kernel
theorem dL_law_928 : decode cL_law 928 = .ok (.dstore 4, 2) := by decide +kernel
theorem dL_law_930 : decode cL_law 930 = .ok (.aload_n 2, 1) := by decide +kernel
theorem dL_law_931 : decode cL_law 931 = .ok (.aload_n 0, 1) := by decide +kernel
theorem dL_law_932 : decode cL_law 932 = .ok (.iload_n 3, 1) := by decide +kernel
theorem dL_law_933 : decode cL_law 933 = .ok (.iconst 1, 1) := by decide +kernel
theorem dL_law_934 : decode cL_law 934 = .ok (.iadd, 1) := by decide +kernel
theorem dL_law_935 : decode cL_law 935 = .ok (.iaload, 1) := by decide +kernel
theorem dL_law_936 : decode cL_law 936 = .ok (.invokevirtual 142, 3) := by decide +kernel
theorem dL_law_939 : decode cL_law 939 = .ok (.f2d, 1) := by decide +kernel
theorem dL_law_940 : decode cL_law 940 = .ok (.dstore 6, 2) := by decide +kernel
theorem dL_law_942 : decode cL_law 942 = .ok (.dload 4, 2) := by decide +kernel
theorem dL_law_944 : decode cL_law 944 = .ok (.dload 6, 2) := by decide +kernel
theorem dL_law_946 : decode cL_law 946 = .ok (.dcmp .l, 1) := by decide +kernel
theorem dL_law_947 : decode cL_law 947 = .ok (.ifCond .eq 21, 3) := by decide +kernel
theorem dL_law_950 : decode cL_law 950 = .ok (.dload 4, 2) := by decide +kernel
theorem dL_law_952 : decode cL_law 952 = .ok (.dload 4, 2) := by decide +kernel
theorem dL_law_954 : decode cL_law 954 = .ok (.dcmp .l, 1) := by decide +kernel
theorem dL_law_955 : decode cL_law 955 = .ok (.ifCond .eq 11, 3) := by decide +kernel
theorem dL_law_958 : decode cL_law 958 = .ok (.dload 6, 2) := by decide +kernel
theorem dL_law_960 : decode cL_law 960 = .ok (.dload 6, 2) := by decide +kernel
theorem dL_law_962 : decode cL_law 962 = .ok (.dcmp .l, 1) := by decide +kernel
theorem dL_law_963 : decode cL_law 963 = .ok (.ifCond .ne 5, 3) := by decide +kernel
theorem dL_law_966 : decode cL_law 966 = .ok (.iconst 0, 1) := by decide +kernel
theorem dL_law_967 : decode cL_law 967 = .ok (.ireturn, 1) := by decide +kernel
theorem dL_law_968 : decode cL_law 968 = .ok (.goto 3, 3) := by decide +kernel
theorem dL_law_971 : decode cL_law 971 = .ok (.iinc 3 4, 3) := by decide +kernel
theorem dL_law_974 : decode cL_law 974 = .ok (.goto (-956), 3) := by decide +kernel
theorem dL_law_977 : decode cL_law 977 = .ok (.iconst 1, 1) := by decide +kernel
theorem dL_law_978 : decode cL_law 978 = .ok (.ireturn, 1) := by decide +kernel
end
section
theorem mem_r {big ws : List Cond} (ps : List Nat) (hp : ws = ps.filterMap (fun i => big[i]?)) : ∀ w ∈ ws, w ∈ big := by
  intro w hw
  rw [hp] at hw
  obtain ⟨i, -, hi⟩ := List.mem_filterMap.mp hw
  exact List.mem_of_getElem? hi
def lw_g : List Cond := lw_tbl.filter goodWord
theorem mem_g {w : Cond} (i : Nat) (h : (match lw_tbl[i]? with | some v => decide (v = w) && goodWord v | none => false) = true) : w ∈ lw_g := by
  cases hv : lw_tbl[i]? with
  | none => rw [hv] at h; cases h
  | some v =>
    rw [hv] at h
    simp only [Bool.and_eq_true, decide_eq_true_eq] at h
    obtain ⟨rfl, hg⟩ := h
    exact List.mem_filter.mpr ⟨List.mem_of_getElem? hv, hg⟩
theorem mem_rg {ws : List Cond} (ps : List Nat) (hp : ws = ps.filterMap (fun i => lw_tbl[i]?)) (hg : ws.all goodWord = true) : ∀ w ∈ ws, w ∈ lw_g := fun w hw => List.mem_filter.mpr ⟨mem_r ps hp w hw, List.all_eq_true.mp hg w hw⟩
theorem q0 : (Jvm.Cond.initialized "RegattaTimesLaw") ∈ lw_g := mem_g 66 (by decide +kernel)
theorem q1 : (Jvm.Cond.initialized "RegattaTimes") ∈ lw_g := mem_g 67 (by decide +kernel)
theorem q2 : (Jvm.Cond.initialized "RegattaTimes$State") ∈ lw_g := mem_g 68 (by decide +kernel)
theorem q3 : (Jvm.Cond.initialized "RegattaTimes$Table") ∈ lw_g := mem_g 69 (by decide +kernel)
theorem q4 : (Jvm.Cond.initialized "java/lang/Math") ∈ lw_g := mem_g 70 (by decide +kernel)
theorem q5 : (Jvm.Cond.initialized "RegattaTimes$Committee") ∈ lw_g := mem_g 71 (by decide +kernel)
theorem q6 : (Jvm.Cond.initialized "RegattaTimes$Jury") ∈ lw_g := mem_g 72 (by decide +kernel)
theorem q7 : (Jvm.Cond.initialized "RegattaTimes$Scores") ∈ lw_g := mem_g 73 (by decide +kernel)
theorem q8 : (Jvm.Cond.initialized "RegattaTimes$History") ∈ lw_g := mem_g 74 (by decide +kernel)
theorem q9 : (Jvm.Cond.initialized "RegattaTimes$Log") ∈ lw_g := mem_g 75 (by decide +kernel)
theorem q10 : (Jvm.Cond.initialized "java/lang/AbstractStringBuilder") ∈ lw_g := mem_g 76 (by decide +kernel)
theorem q11 : (Jvm.Cond.initialized "java/lang/StringBuilder") ∈ lw_g := mem_g 77 (by decide +kernel)
theorem q12 : (Jvm.Cond.initialized "java/lang/String") ∈ lw_g := mem_g 78 (by decide +kernel)
theorem q13 : (Jvm.Cond.initialized "java/lang/StringUTF16") ∈ lw_g := mem_g 79 (by decide +kernel)
theorem q14 : (Jvm.Cond.initialized "RegattaTimesModel") ∈ lw_g := mem_g 80 (by decide +kernel)
theorem q15 : (Jvm.Cond.initialized "java/lang/System") ∈ lw_g := mem_g 81 (by decide +kernel)
theorem q16 : (Jvm.Cond.initialized "jdk/internal/util/ArraysSupport") ∈ lw_g := mem_g 82 (by decide +kernel)
theorem q17 : (Jvm.Cond.initialized "java/util/Arrays") ∈ lw_g := mem_g 83 (by decide +kernel)
theorem q18 : (Jvm.Cond.initialized "java/lang/StringLatin1") ∈ lw_g := mem_g 84 (by decide +kernel)
theorem q19 : (Jvm.Cond.initialized "jdk/internal/util/Preconditions") ∈ lw_g := mem_g 85 (by decide +kernel)
theorem q20 : (Jvm.Cond.classLink "RegattaTimesLaw" (7 : Nat) "RegattaTimes") ∈ lw_g := mem_g 86 (by decide +kernel)
theorem q21 : (Jvm.Cond.instantiable "RegattaTimes" (10 : Nat)) ∈ lw_g := mem_g 87 (by decide +kernel)
theorem q22 : (Jvm.Cond.methodLink "RegattaTimesLaw" (9 : Nat) ({ cls := "RegattaTimes", name := "<init>", desc := "()V" } : Jvm.MethodName)) ∈ lw_g := mem_g 88 (by decide +kernel)
theorem q23 : (Jvm.Cond.instanceMethod ({ cls := "RegattaTimes", name := "<init>", desc := "()V" } : Jvm.MethodName)) ∈ lw_g := mem_g 89 (by decide +kernel)
theorem q24 : (Jvm.Cond.code ({ cls := "RegattaTimes", name := "<init>", desc := "()V" } : Jvm.MethodName) prog_1_method_1_code (1 : Nat) (Option.none : Option Jvm.ClassFile.FieldType)) ∈ lw_g := mem_g 90 (by decide +kernel)
theorem q25 : (Jvm.Cond.methodLink "RegattaTimes" (1 : Nat) ({ cls := "java/lang/Object", name := "<init>", desc := "()V" } : Jvm.MethodName)) ∈ lw_g := mem_g 91 (by decide +kernel)
theorem q26 : (Jvm.Cond.instanceMethod ({ cls := "java/lang/Object", name := "<init>", desc := "()V" } : Jvm.MethodName)) ∈ lw_g := mem_g 92 (by decide +kernel)
theorem q27 : (Jvm.Cond.code ({ cls := "java/lang/Object", name := "<init>", desc := "()V" } : Jvm.MethodName) object_method_1_code (1 : Nat) (Option.none : Option Jvm.ClassFile.FieldType)) ∈ lw_g := mem_g 93 (by decide +kernel)
theorem q28 : (Jvm.Cond.classLink "RegattaTimes" (7 : Nat) "RegattaTimes$State") ∈ lw_g := mem_g 94 (by decide +kernel)
theorem q29 : (Jvm.Cond.instantiable "RegattaTimes$State" (10 : Nat)) ∈ lw_g := mem_g 95 (by decide +kernel)
theorem q30 : (Jvm.Cond.methodLink "RegattaTimes" (9 : Nat) ({ cls := "RegattaTimes$State", name := "<init>", desc := "()V" } : Jvm.MethodName)) ∈ lw_g := mem_g 96 (by decide +kernel)
theorem q31 : (Jvm.Cond.instanceMethod ({ cls := "RegattaTimes$State", name := "<init>", desc := "()V" } : Jvm.MethodName)) ∈ lw_g := mem_g 97 (by decide +kernel)
theorem q32 : (Jvm.Cond.code ({ cls := "RegattaTimes$State", name := "<init>", desc := "()V" } : Jvm.MethodName) prog_7_method_1_code (2 : Nat) (Option.none : Option Jvm.ClassFile.FieldType)) ∈ lw_g := mem_g 98 (by decide +kernel)
theorem q33 : (Jvm.Cond.methodLink "RegattaTimes$State" (3 : Nat) ({ cls := "java/lang/Object", name := "<init>", desc := "()V" } : Jvm.MethodName)) ∈ lw_g := mem_g 99 (by decide +kernel)
theorem q34 : (Jvm.Cond.classLink "RegattaTimes$State" (9 : Nat) "RegattaTimes$Table") ∈ lw_g := mem_g 100 (by decide +kernel)
theorem q35 : (Jvm.Cond.instantiable "RegattaTimes$Table" (2 : Nat)) ∈ lw_g := mem_g 101 (by decide +kernel)
theorem q36 : (Jvm.Cond.methodLink "RegattaTimes$State" (11 : Nat) ({ cls := "RegattaTimes$Table", name := "<init>", desc := "(II)V" } : Jvm.MethodName)) ∈ lw_g := mem_g 102 (by decide +kernel)
theorem q37 : (Jvm.Cond.instanceMethod ({ cls := "RegattaTimes$Table", name := "<init>", desc := "(II)V" } : Jvm.MethodName)) ∈ lw_g := mem_g 103 (by decide +kernel)
theorem q38 : (Jvm.Cond.code ({ cls := "RegattaTimes$Table", name := "<init>", desc := "(II)V" } : Jvm.MethodName) prog_8_method_1_code (3 : Nat) (Option.none : Option Jvm.ClassFile.FieldType)) ∈ lw_g := mem_g 104 (by decide +kernel)
theorem q39 : (Jvm.Cond.methodLink "RegattaTimes$Table" (1 : Nat) ({ cls := "java/lang/Object", name := "<init>", desc := "()V" } : Jvm.MethodName)) ∈ lw_g := mem_g 105 (by decide +kernel)
theorem q40 : (Jvm.Cond.methodLink "RegattaTimes$Table" (13 : Nat) ({ cls := "java/lang/Math", name := "max", desc := "(II)I" } : Jvm.MethodName)) ∈ lw_g := mem_g 106 (by decide +kernel)
theorem q41 : (Jvm.Cond.static ({ cls := "java/lang/Math", name := "max", desc := "(II)I" } : Jvm.MethodName)) ∈ lw_g := mem_g 107 (by decide +kernel)
theorem q42 : (Jvm.Cond.code ({ cls := "java/lang/Math", name := "max", desc := "(II)I" } : Jvm.MethodName) prog_13_method_65_code (2 : Nat) (Option.some Jvm.ClassFile.FieldType.int)) ∈ lw_g := mem_g 108 (by decide +kernel)
theorem q43 : (Jvm.Cond.fieldLink "RegattaTimes$Table" (7 : Nat) "RegattaTimes$Table" "columns" "I") ∈ lw_g := mem_g 109 (by decide +kernel)
theorem q44 : (Jvm.Cond.fieldLink "RegattaTimes$Table" (19 : Nat) "RegattaTimes$Table" "cells" "[I") ∈ lw_g := mem_g 110 (by decide +kernel)
theorem q45 : (Jvm.Cond.laysFinal "RegattaTimes$Table" "RegattaTimes$Table" "columns" "I") ∈ lw_g := mem_g 111 (by decide +kernel)
theorem q47 : (Jvm.Cond.laysFinal "RegattaTimes$Table" "RegattaTimes$Table" "cells" "[I") ∈ lw_g := mem_g 113 (by decide +kernel)
theorem q49 : (Jvm.Cond.superclass "RegattaTimes$Table" "java/lang/Object") ∈ lw_g := mem_g 115 (by decide +kernel)
theorem q50 : (Jvm.Cond.arrayClass Jvm.ClassFile.FieldType.int) ∈ lw_g := mem_g 116 (by decide +kernel)
theorem q53 : (Jvm.Cond.methodLink "RegattaTimes$State" (36 : Nat) ({ cls := "RegattaTimes$Table", name := "put", desc := "(III)V" } : Jvm.MethodName)) ∈ lw_g := mem_g 119 (by decide +kernel)
theorem q54 : (Jvm.Cond.instanceMethod ({ cls := "RegattaTimes$Table", name := "put", desc := "(III)V" } : Jvm.MethodName)) ∈ lw_g := mem_g 120 (by decide +kernel)
theorem q55 : (Jvm.Cond.selects "RegattaTimes$Table" ({ cls := "RegattaTimes$Table", name := "put", desc := "(III)V" } : Jvm.MethodName) ({ cls := "RegattaTimes$Table", name := "put", desc := "(III)V" } : Jvm.MethodName)) ∈ lw_g := mem_g 121 (by decide +kernel)
theorem q56 : (Jvm.Cond.code ({ cls := "RegattaTimes$Table", name := "put", desc := "(III)V" } : Jvm.MethodName) prog_8_method_3_code (5 : Nat) (Option.none : Option Jvm.ClassFile.FieldType)) ∈ lw_g := mem_g 122 (by decide +kernel)
theorem q57 : (Jvm.Cond.fieldLink "RegattaTimes$State" (40 : Nat) "RegattaTimes$State" "clock" "I") ∈ lw_g := mem_g 123 (by decide +kernel)
theorem q58 : (Jvm.Cond.fieldLink "RegattaTimes$Jury" (42 : Nat) "RegattaTimes$State" "clock" "I") ∈ lw_g := mem_g 124 (by decide +kernel)
theorem q59 : (Jvm.Cond.fieldLink "RegattaTimes$Committee" (52 : Nat) "RegattaTimes$State" "clock" "I") ∈ lw_g := mem_g 125 (by decide +kernel)
theorem q60 : (Jvm.Cond.fieldLink "RegattaTimes$Scores" (86 : Nat) "RegattaTimes$State" "clock" "I") ∈ lw_g := mem_g 126 (by decide +kernel)
theorem q61 : (Jvm.Cond.fieldLink "RegattaTimes" (155 : Nat) "RegattaTimes$State" "clock" "I") ∈ lw_g := mem_g 127 (by decide +kernel)
theorem q62 : (Jvm.Cond.fieldLink "RegattaTimes$Scores" (33 : Nat) "RegattaTimes$State" "boats" "I") ∈ lw_g := mem_g 128 (by decide +kernel)
theorem q63 : (Jvm.Cond.fieldLink "RegattaTimes$State" (44 : Nat) "RegattaTimes$State" "boats" "I") ∈ lw_g := mem_g 129 (by decide +kernel)
theorem q64 : (Jvm.Cond.fieldLink "RegattaTimes$Committee" (21 : Nat) "RegattaTimes$State" "boats" "I") ∈ lw_g := mem_g 130 (by decide +kernel)
theorem q65 : (Jvm.Cond.fieldLink "RegattaTimes" (210 : Nat) "RegattaTimes$State" "boats" "I") ∈ lw_g := mem_g 131 (by decide +kernel)
theorem q66 : (Jvm.Cond.fieldLink "RegattaTimes$State" (47 : Nat) "RegattaTimes$State" "races" "I") ∈ lw_g := mem_g 132 (by decide +kernel)
theorem q67 : (Jvm.Cond.fieldLink "RegattaTimes$Committee" (15 : Nat) "RegattaTimes$State" "races" "I") ∈ lw_g := mem_g 133 (by decide +kernel)
theorem q68 : (Jvm.Cond.fieldLink "RegattaTimes" (228 : Nat) "RegattaTimes$State" "races" "I") ∈ lw_g := mem_g 134 (by decide +kernel)
theorem q69 : (Jvm.Cond.fieldLink "RegattaTimes$State" (50 : Nat) "RegattaTimes$State" "latest" "I") ∈ lw_g := mem_g 135 (by decide +kernel)
theorem q70 : (Jvm.Cond.fieldLink "RegattaTimes$Committee" (41 : Nat) "RegattaTimes$State" "latest" "I") ∈ lw_g := mem_g 136 (by decide +kernel)
theorem q71 : (Jvm.Cond.fieldLink "RegattaTimes" (234 : Nat) "RegattaTimes$State" "latest" "I") ∈ lw_g := mem_g 137 (by decide +kernel)
theorem q72 : (Jvm.Cond.fieldLink "RegattaTimes$State" (53 : Nat) "RegattaTimes$State" "protests" "I") ∈ lw_g := mem_g 138 (by decide +kernel)
theorem q73 : (Jvm.Cond.fieldLink "RegattaTimes$Jury" (28 : Nat) "RegattaTimes$State" "protests" "I") ∈ lw_g := mem_g 139 (by decide +kernel)
theorem q74 : (Jvm.Cond.fieldLink "RegattaTimes$Committee" (65 : Nat) "RegattaTimes$State" "protests" "I") ∈ lw_g := mem_g 140 (by decide +kernel)
theorem q75 : (Jvm.Cond.fieldLink "RegattaTimes" (237 : Nat) "RegattaTimes$State" "protests" "I") ∈ lw_g := mem_g 141 (by decide +kernel)
theorem q76 : (Jvm.Cond.fieldLink "RegattaTimes$State" (14 : Nat) "RegattaTimes$State" "ratings" "LRegattaTimes$Table;") ∈ lw_g := mem_g 142 (by decide +kernel)
theorem q77 : (Jvm.Cond.fieldLink "RegattaTimes$Committee" (24 : Nat) "RegattaTimes$State" "ratings" "LRegattaTimes$Table;") ∈ lw_g := mem_g 143 (by decide +kernel)
theorem q78 : (Jvm.Cond.fieldLink "RegattaTimes$Scores" (78 : Nat) "RegattaTimes$State" "ratings" "LRegattaTimes$Table;") ∈ lw_g := mem_g 144 (by decide +kernel)
theorem q79 : (Jvm.Cond.fieldLink "RegattaTimes" (195 : Nat) "RegattaTimes$State" "ratings" "LRegattaTimes$Table;") ∈ lw_g := mem_g 145 (by decide +kernel)
theorem q80 : (Jvm.Cond.fieldLink "RegattaTimes$State" (20 : Nat) "RegattaTimes$State" "settings" "LRegattaTimes$Table;") ∈ lw_g := mem_g 146 (by decide +kernel)
theorem q81 : (Jvm.Cond.fieldLink "RegattaTimes$Committee" (112 : Nat) "RegattaTimes$State" "settings" "LRegattaTimes$Table;") ∈ lw_g := mem_g 147 (by decide +kernel)
theorem q82 : (Jvm.Cond.fieldLink "RegattaTimes$State" (23 : Nat) "RegattaTimes$State" "courses" "LRegattaTimes$Table;") ∈ lw_g := mem_g 148 (by decide +kernel)
theorem q83 : (Jvm.Cond.fieldLink "RegattaTimes$Committee" (38 : Nat) "RegattaTimes$State" "courses" "LRegattaTimes$Table;") ∈ lw_g := mem_g 149 (by decide +kernel)
theorem q84 : (Jvm.Cond.fieldLink "RegattaTimes" (213 : Nat) "RegattaTimes$State" "courses" "LRegattaTimes$Table;") ∈ lw_g := mem_g 150 (by decide +kernel)
theorem q85 : (Jvm.Cond.fieldLink "RegattaTimes$State" (26 : Nat) "RegattaTimes$State" "entries" "LRegattaTimes$Table;") ∈ lw_g := mem_g 151 (by decide +kernel)
theorem q86 : (Jvm.Cond.fieldLink "RegattaTimes$Scores" (39 : Nat) "RegattaTimes$State" "entries" "LRegattaTimes$Table;") ∈ lw_g := mem_g 152 (by decide +kernel)
theorem q87 : (Jvm.Cond.fieldLink "RegattaTimes$Committee" (55 : Nat) "RegattaTimes$State" "entries" "LRegattaTimes$Table;") ∈ lw_g := mem_g 153 (by decide +kernel)
theorem q88 : (Jvm.Cond.fieldLink "RegattaTimes" (165 : Nat) "RegattaTimes$State" "entries" "LRegattaTimes$Table;") ∈ lw_g := mem_g 154 (by decide +kernel)
theorem q89 : (Jvm.Cond.fieldLink "RegattaTimes$State" (29 : Nat) "RegattaTimes$State" "cases" "LRegattaTimes$Table;") ∈ lw_g := mem_g 155 (by decide +kernel)
theorem q90 : (Jvm.Cond.fieldLink "RegattaTimes$Jury" (32 : Nat) "RegattaTimes$State" "cases" "LRegattaTimes$Table;") ∈ lw_g := mem_g 156 (by decide +kernel)
theorem q91 : (Jvm.Cond.fieldLink "RegattaTimes" (225 : Nat) "RegattaTimes$State" "cases" "LRegattaTimes$Table;") ∈ lw_g := mem_g 157 (by decide +kernel)
theorem q92 : (Jvm.Cond.lays "RegattaTimes$State" "RegattaTimes$State" "clock" "I") ∈ lw_g := mem_g 158 (by decide +kernel)
theorem q94 : (Jvm.Cond.lays "RegattaTimes$State" "RegattaTimes$State" "boats" "I") ∈ lw_g := mem_g 160 (by decide +kernel)
theorem q96 : (Jvm.Cond.lays "RegattaTimes$State" "RegattaTimes$State" "races" "I") ∈ lw_g := mem_g 162 (by decide +kernel)
theorem q98 : (Jvm.Cond.lays "RegattaTimes$State" "RegattaTimes$State" "latest" "I") ∈ lw_g := mem_g 164 (by decide +kernel)
theorem q100 : (Jvm.Cond.lays "RegattaTimes$State" "RegattaTimes$State" "protests" "I") ∈ lw_g := mem_g 166 (by decide +kernel)
theorem q102 : (Jvm.Cond.laysFinal "RegattaTimes$State" "RegattaTimes$State" "ratings" "LRegattaTimes$Table;") ∈ lw_g := mem_g 168 (by decide +kernel)
theorem q104 : (Jvm.Cond.laysFinal "RegattaTimes$State" "RegattaTimes$State" "settings" "LRegattaTimes$Table;") ∈ lw_g := mem_g 170 (by decide +kernel)
theorem q106 : (Jvm.Cond.laysFinal "RegattaTimes$State" "RegattaTimes$State" "courses" "LRegattaTimes$Table;") ∈ lw_g := mem_g 172 (by decide +kernel)
theorem q108 : (Jvm.Cond.laysFinal "RegattaTimes$State" "RegattaTimes$State" "entries" "LRegattaTimes$Table;") ∈ lw_g := mem_g 174 (by decide +kernel)
theorem q110 : (Jvm.Cond.laysFinal "RegattaTimes$State" "RegattaTimes$State" "cases" "LRegattaTimes$Table;") ∈ lw_g := mem_g 176 (by decide +kernel)
theorem q112 : (Jvm.Cond.superclass "RegattaTimes$State" "java/lang/Object") ∈ lw_g := mem_g 178 (by decide +kernel)
theorem q113 : (Jvm.Cond.classLink "RegattaTimes" (16 : Nat) "RegattaTimes$Committee") ∈ lw_g := mem_g 179 (by decide +kernel)
theorem q114 : (Jvm.Cond.instantiable "RegattaTimes$Committee" (1 : Nat)) ∈ lw_g := mem_g 180 (by decide +kernel)
theorem q115 : (Jvm.Cond.methodLink "RegattaTimes" (18 : Nat) ({ cls := "RegattaTimes$Committee", name := "<init>", desc := "(LRegattaTimes$State;)V" } : Jvm.MethodName)) ∈ lw_g := mem_g 181 (by decide +kernel)
theorem q116 : (Jvm.Cond.instanceMethod ({ cls := "RegattaTimes$Committee", name := "<init>", desc := "(LRegattaTimes$State;)V" } : Jvm.MethodName)) ∈ lw_g := mem_g 182 (by decide +kernel)
theorem q117 : (Jvm.Cond.code ({ cls := "RegattaTimes$Committee", name := "<init>", desc := "(LRegattaTimes$State;)V" } : Jvm.MethodName) prog_2_method_1_code (2 : Nat) (Option.none : Option Jvm.ClassFile.FieldType)) ∈ lw_g := mem_g 183 (by decide +kernel)
theorem q118 : (Jvm.Cond.methodLink "RegattaTimes$Committee" (3 : Nat) ({ cls := "java/lang/Object", name := "<init>", desc := "()V" } : Jvm.MethodName)) ∈ lw_g := mem_g 184 (by decide +kernel)
theorem q119 : (Jvm.Cond.fieldLink "RegattaTimes$Committee" (9 : Nat) "RegattaTimes$Committee" "state" "LRegattaTimes$State;") ∈ lw_g := mem_g 185 (by decide +kernel)
theorem q120 : (Jvm.Cond.laysFinal "RegattaTimes$Committee" "RegattaTimes$Committee" "state" "LRegattaTimes$State;") ∈ lw_g := mem_g 186 (by decide +kernel)
theorem q122 : (Jvm.Cond.superclass "RegattaTimes$Committee" "java/lang/Object") ∈ lw_g := mem_g 188 (by decide +kernel)
theorem q123 : (Jvm.Cond.classLink "RegattaTimes" (25 : Nat) "RegattaTimes$Jury") ∈ lw_g := mem_g 189 (by decide +kernel)
theorem q124 : (Jvm.Cond.instantiable "RegattaTimes$Jury" (1 : Nat)) ∈ lw_g := mem_g 190 (by decide +kernel)
theorem q125 : (Jvm.Cond.methodLink "RegattaTimes" (27 : Nat) ({ cls := "RegattaTimes$Jury", name := "<init>", desc := "(LRegattaTimes$State;)V" } : Jvm.MethodName)) ∈ lw_g := mem_g 191 (by decide +kernel)
theorem q126 : (Jvm.Cond.instanceMethod ({ cls := "RegattaTimes$Jury", name := "<init>", desc := "(LRegattaTimes$State;)V" } : Jvm.MethodName)) ∈ lw_g := mem_g 192 (by decide +kernel)
theorem q127 : (Jvm.Cond.code ({ cls := "RegattaTimes$Jury", name := "<init>", desc := "(LRegattaTimes$State;)V" } : Jvm.MethodName) prog_4_method_1_code (2 : Nat) (Option.none : Option Jvm.ClassFile.FieldType)) ∈ lw_g := mem_g 193 (by decide +kernel)
theorem q128 : (Jvm.Cond.methodLink "RegattaTimes$Jury" (3 : Nat) ({ cls := "java/lang/Object", name := "<init>", desc := "()V" } : Jvm.MethodName)) ∈ lw_g := mem_g 194 (by decide +kernel)
theorem q129 : (Jvm.Cond.fieldLink "RegattaTimes$Jury" (9 : Nat) "RegattaTimes$Jury" "state" "LRegattaTimes$State;") ∈ lw_g := mem_g 195 (by decide +kernel)
theorem q130 : (Jvm.Cond.laysFinal "RegattaTimes$Jury" "RegattaTimes$Jury" "state" "LRegattaTimes$State;") ∈ lw_g := mem_g 196 (by decide +kernel)
theorem q132 : (Jvm.Cond.superclass "RegattaTimes$Jury" "java/lang/Object") ∈ lw_g := mem_g 198 (by decide +kernel)
theorem q133 : (Jvm.Cond.classLink "RegattaTimes" (32 : Nat) "RegattaTimes$Scores") ∈ lw_g := mem_g 199 (by decide +kernel)
theorem q134 : (Jvm.Cond.instantiable "RegattaTimes$Scores" (5 : Nat)) ∈ lw_g := mem_g 200 (by decide +kernel)
theorem q135 : (Jvm.Cond.methodLink "RegattaTimes" (34 : Nat) ({ cls := "RegattaTimes$Scores", name := "<init>", desc := "(LRegattaTimes$State;)V" } : Jvm.MethodName)) ∈ lw_g := mem_g 201 (by decide +kernel)
theorem q136 : (Jvm.Cond.instanceMethod ({ cls := "RegattaTimes$Scores", name := "<init>", desc := "(LRegattaTimes$State;)V" } : Jvm.MethodName)) ∈ lw_g := mem_g 202 (by decide +kernel)
theorem q137 : (Jvm.Cond.code ({ cls := "RegattaTimes$Scores", name := "<init>", desc := "(LRegattaTimes$State;)V" } : Jvm.MethodName) prog_6_method_1_code (2 : Nat) (Option.none : Option Jvm.ClassFile.FieldType)) ∈ lw_g := mem_g 203 (by decide +kernel)
theorem q138 : (Jvm.Cond.methodLink "RegattaTimes$Scores" (3 : Nat) ({ cls := "java/lang/Object", name := "<init>", desc := "()V" } : Jvm.MethodName)) ∈ lw_g := mem_g 204 (by decide +kernel)
theorem q139 : (Jvm.Cond.classLink "RegattaTimes$Scores" (15 : Nat) "RegattaTimes$Table") ∈ lw_g := mem_g 205 (by decide +kernel)
theorem q140 : (Jvm.Cond.methodLink "RegattaTimes$Scores" (17 : Nat) ({ cls := "RegattaTimes$Table", name := "<init>", desc := "(II)V" } : Jvm.MethodName)) ∈ lw_g := mem_g 206 (by decide +kernel)
theorem q141 : (Jvm.Cond.fieldLink "RegattaTimes$Scores" (9 : Nat) "RegattaTimes$Scores" "state" "LRegattaTimes$State;") ∈ lw_g := mem_g 207 (by decide +kernel)
theorem q142 : (Jvm.Cond.fieldLink "RegattaTimes$Scores" (20 : Nat) "RegattaTimes$Scores" "times" "LRegattaTimes$Table;") ∈ lw_g := mem_g 208 (by decide +kernel)
theorem q143 : (Jvm.Cond.fieldLink "RegattaTimes$Scores" (24 : Nat) "RegattaTimes$Scores" "points" "LRegattaTimes$Table;") ∈ lw_g := mem_g 209 (by decide +kernel)
theorem q144 : (Jvm.Cond.fieldLink "RegattaTimes$Scores" (27 : Nat) "RegattaTimes$Scores" "sums" "LRegattaTimes$Table;") ∈ lw_g := mem_g 210 (by decide +kernel)
theorem q145 : (Jvm.Cond.fieldLink "RegattaTimes$Scores" (30 : Nat) "RegattaTimes$Scores" "tallies" "LRegattaTimes$Table;") ∈ lw_g := mem_g 211 (by decide +kernel)
theorem q146 : (Jvm.Cond.laysFinal "RegattaTimes$Scores" "RegattaTimes$Scores" "state" "LRegattaTimes$State;") ∈ lw_g := mem_g 212 (by decide +kernel)
theorem q148 : (Jvm.Cond.laysFinal "RegattaTimes$Scores" "RegattaTimes$Scores" "times" "LRegattaTimes$Table;") ∈ lw_g := mem_g 214 (by decide +kernel)
theorem q150 : (Jvm.Cond.laysFinal "RegattaTimes$Scores" "RegattaTimes$Scores" "points" "LRegattaTimes$Table;") ∈ lw_g := mem_g 216 (by decide +kernel)
theorem q152 : (Jvm.Cond.laysFinal "RegattaTimes$Scores" "RegattaTimes$Scores" "sums" "LRegattaTimes$Table;") ∈ lw_g := mem_g 218 (by decide +kernel)
theorem q154 : (Jvm.Cond.laysFinal "RegattaTimes$Scores" "RegattaTimes$Scores" "tallies" "LRegattaTimes$Table;") ∈ lw_g := mem_g 220 (by decide +kernel)
theorem q156 : (Jvm.Cond.superclass "RegattaTimes$Scores" "java/lang/Object") ∈ lw_g := mem_g 222 (by decide +kernel)
theorem q157 : (Jvm.Cond.classLink "RegattaTimes" (45 : Nat) "RegattaTimes$History") ∈ lw_g := mem_g 223 (by decide +kernel)
theorem q158 : (Jvm.Cond.instantiable "RegattaTimes$History" (3 : Nat)) ∈ lw_g := mem_g 224 (by decide +kernel)
theorem q159 : (Jvm.Cond.methodLink "RegattaTimes" (47 : Nat) ({ cls := "RegattaTimes$History", name := "<init>", desc := "()V" } : Jvm.MethodName)) ∈ lw_g := mem_g 225 (by decide +kernel)
theorem q160 : (Jvm.Cond.instanceMethod ({ cls := "RegattaTimes$History", name := "<init>", desc := "()V" } : Jvm.MethodName)) ∈ lw_g := mem_g 226 (by decide +kernel)
theorem q161 : (Jvm.Cond.code ({ cls := "RegattaTimes$History", name := "<init>", desc := "()V" } : Jvm.MethodName) prog_3_method_1_code (2 : Nat) (Option.none : Option Jvm.ClassFile.FieldType)) ∈ lw_g := mem_g 227 (by decide +kernel)
theorem q162 : (Jvm.Cond.methodLink "RegattaTimes$History" (3 : Nat) ({ cls := "java/lang/Object", name := "<init>", desc := "()V" } : Jvm.MethodName)) ∈ lw_g := mem_g 228 (by decide +kernel)
theorem q163 : (Jvm.Cond.classLink "RegattaTimes$History" (11 : Nat) "RegattaTimes$State") ∈ lw_g := mem_g 229 (by decide +kernel)
theorem q165 : (Jvm.Cond.methodLink "RegattaTimes$History" (17 : Nat) ({ cls := "RegattaTimes$State", name := "<init>", desc := "()V" } : Jvm.MethodName)) ∈ lw_g := mem_g 231 (by decide +kernel)
theorem q166 : (Jvm.Cond.fieldLink "RegattaTimes$History" (13 : Nat) "RegattaTimes$History" "slots" "[LRegattaTimes$State;") ∈ lw_g := mem_g 232 (by decide +kernel)
theorem q167 : (Jvm.Cond.fieldLink "RegattaTimes$History" (22 : Nat) "RegattaTimes$History" "held" "I") ∈ lw_g := mem_g 233 (by decide +kernel)
theorem q168 : (Jvm.Cond.fieldLink "RegattaTimes$History" (18 : Nat) "RegattaTimes$History" "size" "I") ∈ lw_g := mem_g 234 (by decide +kernel)
theorem q169 : (Jvm.Cond.laysFinal "RegattaTimes$History" "RegattaTimes$History" "slots" "[LRegattaTimes$State;") ∈ lw_g := mem_g 235 (by decide +kernel)
theorem q171 : (Jvm.Cond.lays "RegattaTimes$History" "RegattaTimes$History" "held" "I") ∈ lw_g := mem_g 237 (by decide +kernel)
theorem q173 : (Jvm.Cond.lays "RegattaTimes$History" "RegattaTimes$History" "size" "I") ∈ lw_g := mem_g 239 (by decide +kernel)
theorem q175 : (Jvm.Cond.superclass "RegattaTimes$History" "java/lang/Object") ∈ lw_g := mem_g 241 (by decide +kernel)
theorem q176 : (Jvm.Cond.classLink "RegattaTimes" (59 : Nat) "RegattaTimes$Log") ∈ lw_g := mem_g 242 (by decide +kernel)
theorem q177 : (Jvm.Cond.instantiable "RegattaTimes$Log" (1 : Nat)) ∈ lw_g := mem_g 243 (by decide +kernel)
theorem q178 : (Jvm.Cond.methodLink "RegattaTimes" (61 : Nat) ({ cls := "RegattaTimes$Log", name := "<init>", desc := "()V" } : Jvm.MethodName)) ∈ lw_g := mem_g 244 (by decide +kernel)
theorem q179 : (Jvm.Cond.instanceMethod ({ cls := "RegattaTimes$Log", name := "<init>", desc := "()V" } : Jvm.MethodName)) ∈ lw_g := mem_g 245 (by decide +kernel)
theorem q180 : (Jvm.Cond.code ({ cls := "RegattaTimes$Log", name := "<init>", desc := "()V" } : Jvm.MethodName) prog_5_method_1_code (1 : Nat) (Option.none : Option Jvm.ClassFile.FieldType)) ∈ lw_g := mem_g 246 (by decide +kernel)
theorem q181 : (Jvm.Cond.methodLink "RegattaTimes$Log" (3 : Nat) ({ cls := "java/lang/Object", name := "<init>", desc := "()V" } : Jvm.MethodName)) ∈ lw_g := mem_g 247 (by decide +kernel)
theorem q182 : (Jvm.Cond.classLink "RegattaTimes$Log" (9 : Nat) "java/lang/StringBuilder") ∈ lw_g := mem_g 248 (by decide +kernel)
theorem q183 : (Jvm.Cond.instantiable "java/lang/StringBuilder" (4 : Nat)) ∈ lw_g := mem_g 249 (by decide +kernel)
theorem q184 : (Jvm.Cond.methodLink "RegattaTimes$Log" (11 : Nat) ({ cls := "java/lang/StringBuilder", name := "<init>", desc := "()V" } : Jvm.MethodName)) ∈ lw_g := mem_g 250 (by decide +kernel)
theorem q185 : (Jvm.Cond.instanceMethod ({ cls := "java/lang/StringBuilder", name := "<init>", desc := "()V" } : Jvm.MethodName)) ∈ lw_g := mem_g 251 (by decide +kernel)
theorem q186 : (Jvm.Cond.code ({ cls := "java/lang/StringBuilder", name := "<init>", desc := "()V" } : Jvm.MethodName) prog_15_method_1_code (1 : Nat) (Option.none : Option Jvm.ClassFile.FieldType)) ∈ lw_g := mem_g 252 (by decide +kernel)
theorem q187 : (Jvm.Cond.methodLink "java/lang/StringBuilder" (1 : Nat) ({ cls := "java/lang/AbstractStringBuilder", name := "<init>", desc := "(I)V" } : Jvm.MethodName)) ∈ lw_g := mem_g 253 (by decide +kernel)
theorem q188 : (Jvm.Cond.instanceMethod ({ cls := "java/lang/AbstractStringBuilder", name := "<init>", desc := "(I)V" } : Jvm.MethodName)) ∈ lw_g := mem_g 254 (by decide +kernel)
theorem q189 : (Jvm.Cond.code ({ cls := "java/lang/AbstractStringBuilder", name := "<init>", desc := "(I)V" } : Jvm.MethodName) prog_11_method_2_code (2 : Nat) (Option.none : Option Jvm.ClassFile.FieldType)) ∈ lw_g := mem_g 255 (by decide +kernel)
theorem q190 : (Jvm.Cond.methodLink "java/lang/AbstractStringBuilder" (3 : Nat) ({ cls := "java/lang/Object", name := "<init>", desc := "()V" } : Jvm.MethodName)) ∈ lw_g := mem_g 256 (by decide +kernel)
theorem q191 : (Jvm.Cond.fieldLink "java/lang/AbstractStringBuilder" (18 : Nat) "java/lang/String" "COMPACT_STRINGS" "Z") ∈ lw_g := mem_g 257 (by decide +kernel)
theorem q193 : (Jvm.Cond.methodLink "java/lang/AbstractStringBuilder" (26 : Nat) ({ cls := "java/lang/StringUTF16", name := "newBytesFor", desc := "(I)[B" } : Jvm.MethodName)) ∈ lw_g := mem_g 259 (by decide +kernel)
theorem q194 : (Jvm.Cond.static ({ cls := "java/lang/StringUTF16", name := "newBytesFor", desc := "(I)[B" } : Jvm.MethodName)) ∈ lw_g := mem_g 260 (by decide +kernel)
theorem q195 : (Jvm.Cond.code ({ cls := "java/lang/StringUTF16", name := "newBytesFor", desc := "(I)[B" } : Jvm.MethodName) prog_17_method_2_code (1 : Nat) (Option.some (Jvm.ClassFile.FieldType.array Jvm.ClassFile.FieldType.byte))) ∈ lw_g := mem_g 261 (by decide +kernel)
theorem q196 : (Jvm.Cond.methodLink "java/lang/StringUTF16" (11 : Nat) ({ cls := "java/lang/StringUTF16", name := "newBytesLength", desc := "(I)I" } : Jvm.MethodName)) ∈ lw_g := mem_g 262 (by decide +kernel)
theorem q197 : (Jvm.Cond.static ({ cls := "java/lang/StringUTF16", name := "newBytesLength", desc := "(I)I" } : Jvm.MethodName)) ∈ lw_g := mem_g 263 (by decide +kernel)
theorem q198 : (Jvm.Cond.code ({ cls := "java/lang/StringUTF16", name := "newBytesLength", desc := "(I)I" } : Jvm.MethodName) prog_17_method_3_code (1 : Nat) (Option.some Jvm.ClassFile.FieldType.int)) ∈ lw_g := mem_g 264 (by decide +kernel)
theorem q199 : (Jvm.Cond.constant "java/lang/StringUTF16" (20 : Nat) (1073741823 : Int32)) ∈ lw_g := mem_g 265 (by decide +kernel)
theorem q200 : (Jvm.Cond.fieldLink "java/lang/AbstractStringBuilder" (15 : Nat) "java/lang/AbstractStringBuilder" "value" "[B") ∈ lw_g := mem_g 266 (by decide +kernel)
theorem q201 : (Jvm.Cond.fieldLink "java/lang/AbstractStringBuilder" (22 : Nat) "java/lang/AbstractStringBuilder" "coder" "B") ∈ lw_g := mem_g 267 (by decide +kernel)
theorem q202 : (Jvm.Cond.fieldLink "java/lang/AbstractStringBuilder" (73 : Nat) "java/lang/AbstractStringBuilder" "maybeLatin1" "Z") ∈ lw_g := mem_g 268 (by decide +kernel)
theorem q203 : (Jvm.Cond.fieldLink "java/lang/AbstractStringBuilder" (79 : Nat) "java/lang/AbstractStringBuilder" "count" "I") ∈ lw_g := mem_g 269 (by decide +kernel)
theorem q204 : (Jvm.Cond.lays "java/lang/StringBuilder" "java/lang/AbstractStringBuilder" "value" "[B") ∈ lw_g := mem_g 270 (by decide +kernel)
theorem q206 : (Jvm.Cond.lays "java/lang/StringBuilder" "java/lang/AbstractStringBuilder" "coder" "B") ∈ lw_g := mem_g 272 (by decide +kernel)
theorem q208 : (Jvm.Cond.lays "java/lang/StringBuilder" "java/lang/AbstractStringBuilder" "maybeLatin1" "Z") ∈ lw_g := mem_g 274 (by decide +kernel)
theorem q210 : (Jvm.Cond.lays "java/lang/StringBuilder" "java/lang/AbstractStringBuilder" "count" "I") ∈ lw_g := mem_g 276 (by decide +kernel)
theorem q212 : (Jvm.Cond.superclass "java/lang/StringBuilder" "java/lang/AbstractStringBuilder") ∈ lw_g := mem_g 278 (by decide +kernel)
theorem q213 : (Jvm.Cond.arrayClass Jvm.ClassFile.FieldType.byte) ∈ lw_g := mem_g 279 (by decide +kernel)
theorem q214 : (Jvm.Cond.fieldLink "RegattaTimes$Log" (12 : Nat) "RegattaTimes$Log" "text" "Ljava/lang/StringBuilder;") ∈ lw_g := mem_g 280 (by decide +kernel)
theorem q215 : (Jvm.Cond.laysFinal "RegattaTimes$Log" "RegattaTimes$Log" "text" "Ljava/lang/StringBuilder;") ∈ lw_g := mem_g 281 (by decide +kernel)
theorem q217 : (Jvm.Cond.superclass "RegattaTimes$Log" "java/lang/Object") ∈ lw_g := mem_g 283 (by decide +kernel)
theorem q218 : (Jvm.Cond.fieldLink "RegattaTimes" (10 : Nat) "RegattaTimes" "now" "LRegattaTimes$State;") ∈ lw_g := mem_g 284 (by decide +kernel)
theorem q219 : (Jvm.Cond.fieldLink "RegattaTimes" (21 : Nat) "RegattaTimes" "committee" "LRegattaTimes$Committee;") ∈ lw_g := mem_g 285 (by decide +kernel)
theorem q220 : (Jvm.Cond.fieldLink "RegattaTimes" (28 : Nat) "RegattaTimes" "jury" "LRegattaTimes$Jury;") ∈ lw_g := mem_g 286 (by decide +kernel)
theorem q221 : (Jvm.Cond.fieldLink "RegattaTimes" (35 : Nat) "RegattaTimes" "scores" "LRegattaTimes$Scores;") ∈ lw_g := mem_g 287 (by decide +kernel)
theorem q222 : (Jvm.Cond.fieldLink "RegattaTimes" (39 : Nat) "RegattaTimes" "supposed" "LRegattaTimes$State;") ∈ lw_g := mem_g 288 (by decide +kernel)
theorem q223 : (Jvm.Cond.fieldLink "RegattaTimes" (42 : Nat) "RegattaTimes" "supposedScores" "LRegattaTimes$Scores;") ∈ lw_g := mem_g 289 (by decide +kernel)
theorem q224 : (Jvm.Cond.fieldLink "RegattaTimes" (48 : Nat) "RegattaTimes" "history" "LRegattaTimes$History;") ∈ lw_g := mem_g 290 (by decide +kernel)
theorem q225 : (Jvm.Cond.fieldLink "RegattaTimes" (52 : Nat) "RegattaTimes" "snapshot" "LRegattaTimes$State;") ∈ lw_g := mem_g 291 (by decide +kernel)
theorem q226 : (Jvm.Cond.fieldLink "RegattaTimes" (55 : Nat) "RegattaTimes" "hasSnapshot" "Z") ∈ lw_g := mem_g 292 (by decide +kernel)
theorem q227 : (Jvm.Cond.fieldLink "RegattaTimes" (62 : Nat) "RegattaTimes" "log" "LRegattaTimes$Log;") ∈ lw_g := mem_g 293 (by decide +kernel)
theorem q228 : (Jvm.Cond.laysFinal "RegattaTimes" "RegattaTimes" "now" "LRegattaTimes$State;") ∈ lw_g := mem_g 294 (by decide +kernel)
theorem q230 : (Jvm.Cond.laysFinal "RegattaTimes" "RegattaTimes" "committee" "LRegattaTimes$Committee;") ∈ lw_g := mem_g 296 (by decide +kernel)
theorem q232 : (Jvm.Cond.laysFinal "RegattaTimes" "RegattaTimes" "jury" "LRegattaTimes$Jury;") ∈ lw_g := mem_g 298 (by decide +kernel)
theorem q234 : (Jvm.Cond.laysFinal "RegattaTimes" "RegattaTimes" "scores" "LRegattaTimes$Scores;") ∈ lw_g := mem_g 300 (by decide +kernel)
theorem q236 : (Jvm.Cond.laysFinal "RegattaTimes" "RegattaTimes" "supposed" "LRegattaTimes$State;") ∈ lw_g := mem_g 302 (by decide +kernel)
theorem q238 : (Jvm.Cond.laysFinal "RegattaTimes" "RegattaTimes" "supposedScores" "LRegattaTimes$Scores;") ∈ lw_g := mem_g 304 (by decide +kernel)
theorem q240 : (Jvm.Cond.laysFinal "RegattaTimes" "RegattaTimes" "history" "LRegattaTimes$History;") ∈ lw_g := mem_g 306 (by decide +kernel)
theorem q242 : (Jvm.Cond.laysFinal "RegattaTimes" "RegattaTimes" "snapshot" "LRegattaTimes$State;") ∈ lw_g := mem_g 308 (by decide +kernel)
theorem q244 : (Jvm.Cond.lays "RegattaTimes" "RegattaTimes" "hasSnapshot" "Z") ∈ lw_g := mem_g 310 (by decide +kernel)
theorem q246 : (Jvm.Cond.laysFinal "RegattaTimes" "RegattaTimes" "log" "LRegattaTimes$Log;") ∈ lw_g := mem_g 312 (by decide +kernel)
theorem q248 : (Jvm.Cond.superclass "RegattaTimes" "java/lang/Object") ∈ lw_g := mem_g 314 (by decide +kernel)
theorem q249 : (Jvm.Cond.methodLink "RegattaTimesLaw" (13 : Nat) ({ cls := "RegattaTimes", name := "enter", desc := "(I)I" } : Jvm.MethodName)) ∈ lw_g := mem_g 315 (by decide +kernel)
theorem q250 : (Jvm.Cond.instanceMethod ({ cls := "RegattaTimes", name := "enter", desc := "(I)I" } : Jvm.MethodName)) ∈ lw_g := mem_g 316 (by decide +kernel)
theorem q251 : (Jvm.Cond.selects "RegattaTimes" ({ cls := "RegattaTimes", name := "enter", desc := "(I)I" } : Jvm.MethodName) ({ cls := "RegattaTimes", name := "enter", desc := "(I)I" } : Jvm.MethodName)) ∈ lw_g := mem_g 317 (by decide +kernel)
theorem q252 : (Jvm.Cond.code ({ cls := "RegattaTimes", name := "enter", desc := "(I)I" } : Jvm.MethodName) prog_1_method_2_code (2 : Nat) (Option.some Jvm.ClassFile.FieldType.int)) ∈ lw_g := mem_g 318 (by decide +kernel)
theorem q253 : (Jvm.Cond.methodLink "RegattaTimes" (66 : Nat) ({ cls := "RegattaTimes$History", name := "hold", desc := "(LRegattaTimes$State;)V" } : Jvm.MethodName)) ∈ lw_g := mem_g 319 (by decide +kernel)
theorem q254 : (Jvm.Cond.instanceMethod ({ cls := "RegattaTimes$History", name := "hold", desc := "(LRegattaTimes$State;)V" } : Jvm.MethodName)) ∈ lw_g := mem_g 320 (by decide +kernel)
theorem q255 : (Jvm.Cond.selects "RegattaTimes$History" ({ cls := "RegattaTimes$History", name := "hold", desc := "(LRegattaTimes$State;)V" } : Jvm.MethodName) ({ cls := "RegattaTimes$History", name := "hold", desc := "(LRegattaTimes$State;)V" } : Jvm.MethodName)) ∈ lw_g := mem_g 321 (by decide +kernel)
theorem q256 : (Jvm.Cond.code ({ cls := "RegattaTimes$History", name := "hold", desc := "(LRegattaTimes$State;)V" } : Jvm.MethodName) prog_3_method_3_code (3 : Nat) (Option.none : Option Jvm.ClassFile.FieldType)) ∈ lw_g := mem_g 322 (by decide +kernel)
theorem q257 : (Jvm.Cond.methodLink "RegattaTimes$History" (25 : Nat) ({ cls := "RegattaTimes$State", name := "copyFrom", desc := "(LRegattaTimes$State;)V" } : Jvm.MethodName)) ∈ lw_g := mem_g 323 (by decide +kernel)
theorem q258 : (Jvm.Cond.instanceMethod ({ cls := "RegattaTimes$State", name := "copyFrom", desc := "(LRegattaTimes$State;)V" } : Jvm.MethodName)) ∈ lw_g := mem_g 324 (by decide +kernel)
theorem q259 : (Jvm.Cond.selects "RegattaTimes$State" ({ cls := "RegattaTimes$State", name := "copyFrom", desc := "(LRegattaTimes$State;)V" } : Jvm.MethodName) ({ cls := "RegattaTimes$State", name := "copyFrom", desc := "(LRegattaTimes$State;)V" } : Jvm.MethodName)) ∈ lw_g := mem_g 325 (by decide +kernel)
theorem q260 : (Jvm.Cond.code ({ cls := "RegattaTimes$State", name := "copyFrom", desc := "(LRegattaTimes$State;)V" } : Jvm.MethodName) prog_7_method_2_code (2 : Nat) (Option.none : Option Jvm.ClassFile.FieldType)) ∈ lw_g := mem_g 326 (by decide +kernel)
theorem q261 : (Jvm.Cond.methodLink "RegattaTimes$State" (56 : Nat) ({ cls := "RegattaTimes$Table", name := "copyFrom", desc := "(LRegattaTimes$Table;)V" } : Jvm.MethodName)) ∈ lw_g := mem_g 327 (by decide +kernel)
theorem q262 : (Jvm.Cond.instanceMethod ({ cls := "RegattaTimes$Table", name := "copyFrom", desc := "(LRegattaTimes$Table;)V" } : Jvm.MethodName)) ∈ lw_g := mem_g 328 (by decide +kernel)
theorem q263 : (Jvm.Cond.selects "RegattaTimes$Table" ({ cls := "RegattaTimes$Table", name := "copyFrom", desc := "(LRegattaTimes$Table;)V" } : Jvm.MethodName) ({ cls := "RegattaTimes$Table", name := "copyFrom", desc := "(LRegattaTimes$Table;)V" } : Jvm.MethodName)) ∈ lw_g := mem_g 329 (by decide +kernel)
theorem q264 : (Jvm.Cond.code ({ cls := "RegattaTimes$Table", name := "copyFrom", desc := "(LRegattaTimes$Table;)V" } : Jvm.MethodName) prog_8_method_6_code (3 : Nat) (Option.none : Option Jvm.ClassFile.FieldType)) ∈ lw_g := mem_g 330 (by decide +kernel)
theorem q265 : (Jvm.Cond.methodLink "RegattaTimes$Table" (30 : Nat) ({ cls := "java/lang/Math", name := "min", desc := "(II)I" } : Jvm.MethodName)) ∈ lw_g := mem_g 331 (by decide +kernel)
theorem q266 : (Jvm.Cond.static ({ cls := "java/lang/Math", name := "min", desc := "(II)I" } : Jvm.MethodName)) ∈ lw_g := mem_g 332 (by decide +kernel)
theorem q267 : (Jvm.Cond.code ({ cls := "java/lang/Math", name := "min", desc := "(II)I" } : Jvm.MethodName) prog_13_method_69_code (2 : Nat) (Option.some Jvm.ClassFile.FieldType.int)) ∈ lw_g := mem_g 333 (by decide +kernel)
theorem q268 : (Jvm.Cond.methodLink "RegattaTimes$Table" (33 : Nat) ({ cls := "java/lang/System", name := "arraycopy", desc := "(Ljava/lang/Object;ILjava/lang/Object;II)V" } : Jvm.MethodName)) ∈ lw_g := mem_g 334 (by decide +kernel)
theorem q269 : (Jvm.Cond.static ({ cls := "java/lang/System", name := "arraycopy", desc := "(Ljava/lang/Object;ILjava/lang/Object;II)V" } : Jvm.MethodName)) ∈ lw_g := mem_g 335 (by decide +kernel)
theorem q270 : (Jvm.Cond.native ({ cls := "java/lang/System", name := "arraycopy", desc := "(Ljava/lang/Object;ILjava/lang/Object;II)V" } : Jvm.MethodName)) ∈ lw_g := mem_g 336 (by decide +kernel)
theorem q271 : (Jvm.Cond.methodLink "RegattaTimes" (69 : Nat) ({ cls := "RegattaTimes$Committee", name := "enterBoat", desc := "(I)I" } : Jvm.MethodName)) ∈ lw_g := mem_g 337 (by decide +kernel)
theorem q272 : (Jvm.Cond.instanceMethod ({ cls := "RegattaTimes$Committee", name := "enterBoat", desc := "(I)I" } : Jvm.MethodName)) ∈ lw_g := mem_g 338 (by decide +kernel)
theorem q273 : (Jvm.Cond.selects "RegattaTimes$Committee" ({ cls := "RegattaTimes$Committee", name := "enterBoat", desc := "(I)I" } : Jvm.MethodName) ({ cls := "RegattaTimes$Committee", name := "enterBoat", desc := "(I)I" } : Jvm.MethodName)) ∈ lw_g := mem_g 339 (by decide +kernel)
theorem q274 : (Jvm.Cond.code ({ cls := "RegattaTimes$Committee", name := "enterBoat", desc := "(I)I" } : Jvm.MethodName) prog_2_method_2_code (3 : Nat) (Option.some Jvm.ClassFile.FieldType.int)) ∈ lw_g := mem_g 340 (by decide +kernel)
theorem q275 : (Jvm.Cond.methodLink "RegattaTimes$Committee" (28 : Nat) ({ cls := "RegattaTimes$Table", name := "put", desc := "(III)V" } : Jvm.MethodName)) ∈ lw_g := mem_g 341 (by decide +kernel)
theorem q276 : (Jvm.Cond.methodLink "RegattaTimes" (73 : Nat) ({ cls := "RegattaTimes$History", name := "confirm", desc := "(I)I" } : Jvm.MethodName)) ∈ lw_g := mem_g 342 (by decide +kernel)
theorem q277 : (Jvm.Cond.instanceMethod ({ cls := "RegattaTimes$History", name := "confirm", desc := "(I)I" } : Jvm.MethodName)) ∈ lw_g := mem_g 343 (by decide +kernel)
theorem q278 : (Jvm.Cond.selects "RegattaTimes$History" ({ cls := "RegattaTimes$History", name := "confirm", desc := "(I)I" } : Jvm.MethodName) ({ cls := "RegattaTimes$History", name := "confirm", desc := "(I)I" } : Jvm.MethodName)) ∈ lw_g := mem_g 344 (by decide +kernel)
theorem q279 : (Jvm.Cond.code ({ cls := "RegattaTimes$History", name := "confirm", desc := "(I)I" } : Jvm.MethodName) prog_3_method_4_code (2 : Nat) (Option.some Jvm.ClassFile.FieldType.int)) ∈ lw_g := mem_g 345 (by decide +kernel)
theorem q280 : (Jvm.Cond.methodLink "RegattaTimes$History" (29 : Nat) ({ cls := "java/lang/Math", name := "min", desc := "(II)I" } : Jvm.MethodName)) ∈ lw_g := mem_g 346 (by decide +kernel)
theorem q281 : (Jvm.Cond.methodLink "RegattaTimesLaw" (18 : Nat) ({ cls := "RegattaTimes", name := "prepare", desc := "(III)I" } : Jvm.MethodName)) ∈ lw_g := mem_g 347 (by decide +kernel)
theorem q282 : (Jvm.Cond.instanceMethod ({ cls := "RegattaTimes", name := "prepare", desc := "(III)I" } : Jvm.MethodName)) ∈ lw_g := mem_g 348 (by decide +kernel)
theorem q283 : (Jvm.Cond.selects "RegattaTimes" ({ cls := "RegattaTimes", name := "prepare", desc := "(III)I" } : Jvm.MethodName) ({ cls := "RegattaTimes", name := "prepare", desc := "(III)I" } : Jvm.MethodName)) ∈ lw_g := mem_g 349 (by decide +kernel)
theorem q284 : (Jvm.Cond.code ({ cls := "RegattaTimes", name := "prepare", desc := "(III)I" } : Jvm.MethodName) prog_1_method_3_code (4 : Nat) (Option.some Jvm.ClassFile.FieldType.int)) ∈ lw_g := mem_g 350 (by decide +kernel)
theorem q285 : (Jvm.Cond.methodLink "RegattaTimes" (76 : Nat) ({ cls := "RegattaTimes$Committee", name := "prepareRace", desc := "(III)I" } : Jvm.MethodName)) ∈ lw_g := mem_g 351 (by decide +kernel)
theorem q286 : (Jvm.Cond.instanceMethod ({ cls := "RegattaTimes$Committee", name := "prepareRace", desc := "(III)I" } : Jvm.MethodName)) ∈ lw_g := mem_g 352 (by decide +kernel)
theorem q287 : (Jvm.Cond.selects "RegattaTimes$Committee" ({ cls := "RegattaTimes$Committee", name := "prepareRace", desc := "(III)I" } : Jvm.MethodName) ({ cls := "RegattaTimes$Committee", name := "prepareRace", desc := "(III)I" } : Jvm.MethodName)) ∈ lw_g := mem_g 353 (by decide +kernel)
theorem q288 : (Jvm.Cond.code ({ cls := "RegattaTimes$Committee", name := "prepareRace", desc := "(III)I" } : Jvm.MethodName) prog_2_method_3_code (5 : Nat) (Option.some Jvm.ClassFile.FieldType.int)) ∈ lw_g := mem_g 354 (by decide +kernel)
theorem q289 : (Jvm.Cond.methodLink "RegattaTimes$Committee" (34 : Nat) ({ cls := "RegattaTimes$State", name := "isPrepared", desc := "()Z" } : Jvm.MethodName)) ∈ lw_g := mem_g 355 (by decide +kernel)
theorem q290 : (Jvm.Cond.instanceMethod ({ cls := "RegattaTimes$State", name := "isPrepared", desc := "()Z" } : Jvm.MethodName)) ∈ lw_g := mem_g 356 (by decide +kernel)
theorem q291 : (Jvm.Cond.selects "RegattaTimes$State" ({ cls := "RegattaTimes$State", name := "isPrepared", desc := "()Z" } : Jvm.MethodName) ({ cls := "RegattaTimes$State", name := "isPrepared", desc := "()Z" } : Jvm.MethodName)) ∈ lw_g := mem_g 357 (by decide +kernel)
theorem q292 : (Jvm.Cond.code ({ cls := "RegattaTimes$State", name := "isPrepared", desc := "()Z" } : Jvm.MethodName) prog_7_method_6_code (1 : Nat) (Option.some Jvm.ClassFile.FieldType.boolean)) ∈ lw_g := mem_g 358 (by decide +kernel)
theorem q293 : (Jvm.Cond.methodLink "RegattaTimes$Committee" (44 : Nat) ({ cls := "RegattaTimes$Committee", name := "startAnew", desc := "(I)V" } : Jvm.MethodName)) ∈ lw_g := mem_g 359 (by decide +kernel)
theorem q295 : (Jvm.Cond.instanceMethod ({ cls := "RegattaTimes$Committee", name := "startAnew", desc := "(I)V" } : Jvm.MethodName)) ∈ lw_g := mem_g 361 (by decide +kernel)
theorem q296 : (Jvm.Cond.code ({ cls := "RegattaTimes$Committee", name := "startAnew", desc := "(I)V" } : Jvm.MethodName) prog_2_method_4_code (3 : Nat) (Option.none : Option Jvm.ClassFile.FieldType)) ∈ lw_g := mem_g 362 (by decide +kernel)
theorem q297 : (Jvm.Cond.methodLink "RegattaTimes$Committee" (48 : Nat) ({ cls := "RegattaTimes$State", name := "latestRace", desc := "()I" } : Jvm.MethodName)) ∈ lw_g := mem_g 363 (by decide +kernel)
theorem q298 : (Jvm.Cond.instanceMethod ({ cls := "RegattaTimes$State", name := "latestRace", desc := "()I" } : Jvm.MethodName)) ∈ lw_g := mem_g 364 (by decide +kernel)
theorem q299 : (Jvm.Cond.selects "RegattaTimes$State" ({ cls := "RegattaTimes$State", name := "latestRace", desc := "()I" } : Jvm.MethodName) ({ cls := "RegattaTimes$State", name := "latestRace", desc := "()I" } : Jvm.MethodName)) ∈ lw_g := mem_g 365 (by decide +kernel)
theorem q300 : (Jvm.Cond.code ({ cls := "RegattaTimes$State", name := "latestRace", desc := "()I" } : Jvm.MethodName) prog_7_method_9_code (1 : Nat) (Option.some Jvm.ClassFile.FieldType.int)) ∈ lw_g := mem_g 366 (by decide +kernel)
theorem q301 : (Jvm.Cond.methodLink "RegattaTimes$Committee" (58 : Nat) ({ cls := "RegattaTimes$State", name := "row", desc := "(II)I" } : Jvm.MethodName)) ∈ lw_g := mem_g 367 (by decide +kernel)
theorem q302 : (Jvm.Cond.instanceMethod ({ cls := "RegattaTimes$State", name := "row", desc := "(II)I" } : Jvm.MethodName)) ∈ lw_g := mem_g 368 (by decide +kernel)
theorem q303 : (Jvm.Cond.selects "RegattaTimes$State" ({ cls := "RegattaTimes$State", name := "row", desc := "(II)I" } : Jvm.MethodName) ({ cls := "RegattaTimes$State", name := "row", desc := "(II)I" } : Jvm.MethodName)) ∈ lw_g := mem_g 369 (by decide +kernel)
theorem q304 : (Jvm.Cond.code ({ cls := "RegattaTimes$State", name := "row", desc := "(II)I" } : Jvm.MethodName) prog_7_method_13_code (3 : Nat) (Option.some Jvm.ClassFile.FieldType.int)) ∈ lw_g := mem_g 370 (by decide +kernel)
theorem q305 : (Jvm.Cond.methodLink "RegattaTimes$Committee" (62 : Nat) ({ cls := "RegattaTimes$Table", name := "clearRow", desc := "(I)V" } : Jvm.MethodName)) ∈ lw_g := mem_g 371 (by decide +kernel)
theorem q306 : (Jvm.Cond.instanceMethod ({ cls := "RegattaTimes$Table", name := "clearRow", desc := "(I)V" } : Jvm.MethodName)) ∈ lw_g := mem_g 372 (by decide +kernel)
theorem q307 : (Jvm.Cond.selects "RegattaTimes$Table" ({ cls := "RegattaTimes$Table", name := "clearRow", desc := "(I)V" } : Jvm.MethodName) ({ cls := "RegattaTimes$Table", name := "clearRow", desc := "(I)V" } : Jvm.MethodName)) ∈ lw_g := mem_g 373 (by decide +kernel)
theorem q308 : (Jvm.Cond.code ({ cls := "RegattaTimes$Table", name := "clearRow", desc := "(I)V" } : Jvm.MethodName) prog_8_method_5_code (3 : Nat) (Option.none : Option Jvm.ClassFile.FieldType)) ∈ lw_g := mem_g 374 (by decide +kernel)
theorem q309 : (Jvm.Cond.methodLink "RegattaTimes$Table" (26 : Nat) ({ cls := "RegattaTimes$Table", name := "put", desc := "(III)V" } : Jvm.MethodName)) ∈ lw_g := mem_g 375 (by decide +kernel)
theorem q310 : (Jvm.Cond.methodLink "RegattaTimesLaw" (23 : Nat) ({ cls := "RegattaTimes", name := "postpone", desc := "(I)I" } : Jvm.MethodName)) ∈ lw_g := mem_g 376 (by decide +kernel)
theorem q311 : (Jvm.Cond.instanceMethod ({ cls := "RegattaTimes", name := "postpone", desc := "(I)I" } : Jvm.MethodName)) ∈ lw_g := mem_g 377 (by decide +kernel)
theorem q312 : (Jvm.Cond.selects "RegattaTimes" ({ cls := "RegattaTimes", name := "postpone", desc := "(I)I" } : Jvm.MethodName) ({ cls := "RegattaTimes", name := "postpone", desc := "(I)I" } : Jvm.MethodName)) ∈ lw_g := mem_g 378 (by decide +kernel)
theorem q313 : (Jvm.Cond.code ({ cls := "RegattaTimes", name := "postpone", desc := "(I)I" } : Jvm.MethodName) prog_1_method_4_code (2 : Nat) (Option.some Jvm.ClassFile.FieldType.int)) ∈ lw_g := mem_g 379 (by decide +kernel)
theorem q314 : (Jvm.Cond.methodLink "RegattaTimes" (80 : Nat) ({ cls := "RegattaTimes$Committee", name := "postponeStart", desc := "(I)I" } : Jvm.MethodName)) ∈ lw_g := mem_g 380 (by decide +kernel)
theorem q315 : (Jvm.Cond.instanceMethod ({ cls := "RegattaTimes$Committee", name := "postponeStart", desc := "(I)I" } : Jvm.MethodName)) ∈ lw_g := mem_g 381 (by decide +kernel)
theorem q316 : (Jvm.Cond.selects "RegattaTimes$Committee" ({ cls := "RegattaTimes$Committee", name := "postponeStart", desc := "(I)I" } : Jvm.MethodName) ({ cls := "RegattaTimes$Committee", name := "postponeStart", desc := "(I)I" } : Jvm.MethodName)) ∈ lw_g := mem_g 382 (by decide +kernel)
theorem q317 : (Jvm.Cond.code ({ cls := "RegattaTimes$Committee", name := "postponeStart", desc := "(I)I" } : Jvm.MethodName) prog_2_method_5_code (2 : Nat) (Option.some Jvm.ClassFile.FieldType.int)) ∈ lw_g := mem_g 383 (by decide +kernel)
theorem q318 : (Jvm.Cond.methodLink "RegattaTimes$Committee" (68 : Nat) ({ cls := "RegattaTimes$State", name := "isStarted", desc := "()Z" } : Jvm.MethodName)) ∈ lw_g := mem_g 384 (by decide +kernel)
theorem q319 : (Jvm.Cond.instanceMethod ({ cls := "RegattaTimes$State", name := "isStarted", desc := "()Z" } : Jvm.MethodName)) ∈ lw_g := mem_g 385 (by decide +kernel)
theorem q320 : (Jvm.Cond.selects "RegattaTimes$State" ({ cls := "RegattaTimes$State", name := "isStarted", desc := "()Z" } : Jvm.MethodName) ({ cls := "RegattaTimes$State", name := "isStarted", desc := "()Z" } : Jvm.MethodName)) ∈ lw_g := mem_g 386 (by decide +kernel)
theorem q321 : (Jvm.Cond.code ({ cls := "RegattaTimes$State", name := "isStarted", desc := "()Z" } : Jvm.MethodName) prog_7_method_11_code (1 : Nat) (Option.some Jvm.ClassFile.FieldType.boolean)) ∈ lw_g := mem_g 387 (by decide +kernel)
theorem q322 : (Jvm.Cond.methodLink "RegattaTimes$State" (68 : Nat) ({ cls := "RegattaTimes$State", name := "start", desc := "()I" } : Jvm.MethodName)) ∈ lw_g := mem_g 388 (by decide +kernel)
theorem q323 : (Jvm.Cond.instanceMethod ({ cls := "RegattaTimes$State", name := "start", desc := "()I" } : Jvm.MethodName)) ∈ lw_g := mem_g 389 (by decide +kernel)
theorem q324 : (Jvm.Cond.selects "RegattaTimes$State" ({ cls := "RegattaTimes$State", name := "start", desc := "()I" } : Jvm.MethodName) ({ cls := "RegattaTimes$State", name := "start", desc := "()I" } : Jvm.MethodName)) ∈ lw_g := mem_g 390 (by decide +kernel)
theorem q325 : (Jvm.Cond.code ({ cls := "RegattaTimes$State", name := "start", desc := "()I" } : Jvm.MethodName) prog_7_method_10_code (1 : Nat) (Option.some Jvm.ClassFile.FieldType.int)) ∈ lw_g := mem_g 391 (by decide +kernel)
theorem q326 : (Jvm.Cond.methodLink "RegattaTimes$State" (64 : Nat) ({ cls := "RegattaTimes$Table", name := "get", desc := "(II)I" } : Jvm.MethodName)) ∈ lw_g := mem_g 392 (by decide +kernel)
theorem q327 : (Jvm.Cond.instanceMethod ({ cls := "RegattaTimes$Table", name := "get", desc := "(II)I" } : Jvm.MethodName)) ∈ lw_g := mem_g 393 (by decide +kernel)
theorem q328 : (Jvm.Cond.selects "RegattaTimes$Table" ({ cls := "RegattaTimes$Table", name := "get", desc := "(II)I" } : Jvm.MethodName) ({ cls := "RegattaTimes$Table", name := "get", desc := "(II)I" } : Jvm.MethodName)) ∈ lw_g := mem_g 394 (by decide +kernel)
theorem q329 : (Jvm.Cond.code ({ cls := "RegattaTimes$Table", name := "get", desc := "(II)I" } : Jvm.MethodName) prog_8_method_2_code (4 : Nat) (Option.some Jvm.ClassFile.FieldType.int)) ∈ lw_g := mem_g 395 (by decide +kernel)
theorem q330 : (Jvm.Cond.methodLink "RegattaTimes$Committee" (71 : Nat) ({ cls := "RegattaTimes$Table", name := "add", desc := "(III)V" } : Jvm.MethodName)) ∈ lw_g := mem_g 396 (by decide +kernel)
theorem q331 : (Jvm.Cond.instanceMethod ({ cls := "RegattaTimes$Table", name := "add", desc := "(III)V" } : Jvm.MethodName)) ∈ lw_g := mem_g 397 (by decide +kernel)
theorem q332 : (Jvm.Cond.selects "RegattaTimes$Table" ({ cls := "RegattaTimes$Table", name := "add", desc := "(III)V" } : Jvm.MethodName) ({ cls := "RegattaTimes$Table", name := "add", desc := "(III)V" } : Jvm.MethodName)) ∈ lw_g := mem_g 398 (by decide +kernel)
theorem q333 : (Jvm.Cond.code ({ cls := "RegattaTimes$Table", name := "add", desc := "(III)V" } : Jvm.MethodName) prog_8_method_4_code (4 : Nat) (Option.none : Option Jvm.ClassFile.FieldType)) ∈ lw_g := mem_g 399 (by decide +kernel)
theorem q334 : (Jvm.Cond.methodLink "RegattaTimes$Table" (23 : Nat) ({ cls := "RegattaTimes$Table", name := "get", desc := "(II)I" } : Jvm.MethodName)) ∈ lw_g := mem_g 400 (by decide +kernel)
theorem q335 : (Jvm.Cond.methodLink "RegattaTimes$Committee" (74 : Nat) ({ cls := "RegattaTimes$State", name := "start", desc := "()I" } : Jvm.MethodName)) ∈ lw_g := mem_g 401 (by decide +kernel)
theorem q336 : (Jvm.Cond.methodLink "RegattaTimesLaw" (27 : Nat) ({ cls := "RegattaTimes", name := "recall", desc := "()I" } : Jvm.MethodName)) ∈ lw_g := mem_g 402 (by decide +kernel)
theorem q337 : (Jvm.Cond.instanceMethod ({ cls := "RegattaTimes", name := "recall", desc := "()I" } : Jvm.MethodName)) ∈ lw_g := mem_g 403 (by decide +kernel)
theorem q338 : (Jvm.Cond.selects "RegattaTimes" ({ cls := "RegattaTimes", name := "recall", desc := "()I" } : Jvm.MethodName) ({ cls := "RegattaTimes", name := "recall", desc := "()I" } : Jvm.MethodName)) ∈ lw_g := mem_g 404 (by decide +kernel)
theorem q339 : (Jvm.Cond.code ({ cls := "RegattaTimes", name := "recall", desc := "()I" } : Jvm.MethodName) prog_1_method_5_code (1 : Nat) (Option.some Jvm.ClassFile.FieldType.int)) ∈ lw_g := mem_g 405 (by decide +kernel)
theorem q340 : (Jvm.Cond.methodLink "RegattaTimes" (83 : Nat) ({ cls := "RegattaTimes$Committee", name := "recallBoats", desc := "()I" } : Jvm.MethodName)) ∈ lw_g := mem_g 406 (by decide +kernel)
theorem q341 : (Jvm.Cond.instanceMethod ({ cls := "RegattaTimes$Committee", name := "recallBoats", desc := "()I" } : Jvm.MethodName)) ∈ lw_g := mem_g 407 (by decide +kernel)
theorem q342 : (Jvm.Cond.selects "RegattaTimes$Committee" ({ cls := "RegattaTimes$Committee", name := "recallBoats", desc := "()I" } : Jvm.MethodName) ({ cls := "RegattaTimes$Committee", name := "recallBoats", desc := "()I" } : Jvm.MethodName)) ∈ lw_g := mem_g 408 (by decide +kernel)
theorem q343 : (Jvm.Cond.code ({ cls := "RegattaTimes$Committee", name := "recallBoats", desc := "()I" } : Jvm.MethodName) prog_2_method_6_code (1 : Nat) (Option.some Jvm.ClassFile.FieldType.int)) ∈ lw_g := mem_g 409 (by decide +kernel)
theorem q344 : (Jvm.Cond.methodLink "RegattaTimesLaw" (32 : Nat) ({ cls := "RegattaTimes", name := "pass", desc := "(I)I" } : Jvm.MethodName)) ∈ lw_g := mem_g 410 (by decide +kernel)
theorem q345 : (Jvm.Cond.instanceMethod ({ cls := "RegattaTimes", name := "pass", desc := "(I)I" } : Jvm.MethodName)) ∈ lw_g := mem_g 411 (by decide +kernel)
theorem q346 : (Jvm.Cond.selects "RegattaTimes" ({ cls := "RegattaTimes", name := "pass", desc := "(I)I" } : Jvm.MethodName) ({ cls := "RegattaTimes", name := "pass", desc := "(I)I" } : Jvm.MethodName)) ∈ lw_g := mem_g 412 (by decide +kernel)
theorem q347 : (Jvm.Cond.code ({ cls := "RegattaTimes", name := "pass", desc := "(I)I" } : Jvm.MethodName) prog_1_method_6_code (2 : Nat) (Option.some Jvm.ClassFile.FieldType.int)) ∈ lw_g := mem_g 413 (by decide +kernel)
theorem q348 : (Jvm.Cond.methodLink "RegattaTimes" (87 : Nat) ({ cls := "RegattaTimes$Committee", name := "passTime", desc := "(I)I" } : Jvm.MethodName)) ∈ lw_g := mem_g 414 (by decide +kernel)
theorem q349 : (Jvm.Cond.instanceMethod ({ cls := "RegattaTimes$Committee", name := "passTime", desc := "(I)I" } : Jvm.MethodName)) ∈ lw_g := mem_g 415 (by decide +kernel)
theorem q350 : (Jvm.Cond.selects "RegattaTimes$Committee" ({ cls := "RegattaTimes$Committee", name := "passTime", desc := "(I)I" } : Jvm.MethodName) ({ cls := "RegattaTimes$Committee", name := "passTime", desc := "(I)I" } : Jvm.MethodName)) ∈ lw_g := mem_g 416 (by decide +kernel)
theorem q351 : (Jvm.Cond.code ({ cls := "RegattaTimes$Committee", name := "passTime", desc := "(I)I" } : Jvm.MethodName) prog_2_method_7_code (2 : Nat) (Option.some Jvm.ClassFile.FieldType.int)) ∈ lw_g := mem_g 417 (by decide +kernel)
theorem q352 : (Jvm.Cond.constant "RegattaTimes$Committee" (77 : Nat) (999999 : Int32)) ∈ lw_g := mem_g 418 (by decide +kernel)
theorem q353 : (Jvm.Cond.methodLink "RegattaTimesLaw" (36 : Nat) ({ cls := "RegattaTimes", name := "line", desc := "(I)I" } : Jvm.MethodName)) ∈ lw_g := mem_g 419 (by decide +kernel)
theorem q354 : (Jvm.Cond.instanceMethod ({ cls := "RegattaTimes", name := "line", desc := "(I)I" } : Jvm.MethodName)) ∈ lw_g := mem_g 420 (by decide +kernel)
theorem q355 : (Jvm.Cond.selects "RegattaTimes" ({ cls := "RegattaTimes", name := "line", desc := "(I)I" } : Jvm.MethodName) ({ cls := "RegattaTimes", name := "line", desc := "(I)I" } : Jvm.MethodName)) ∈ lw_g := mem_g 421 (by decide +kernel)
theorem q356 : (Jvm.Cond.code ({ cls := "RegattaTimes", name := "line", desc := "(I)I" } : Jvm.MethodName) prog_1_method_7_code (2 : Nat) (Option.some Jvm.ClassFile.FieldType.int)) ∈ lw_g := mem_g 422 (by decide +kernel)
theorem q357 : (Jvm.Cond.methodLink "RegattaTimes" (90 : Nat) ({ cls := "RegattaTimes$Committee", name := "crossLine", desc := "(I)I" } : Jvm.MethodName)) ∈ lw_g := mem_g 423 (by decide +kernel)
theorem q358 : (Jvm.Cond.instanceMethod ({ cls := "RegattaTimes$Committee", name := "crossLine", desc := "(I)I" } : Jvm.MethodName)) ∈ lw_g := mem_g 424 (by decide +kernel)
theorem q359 : (Jvm.Cond.selects "RegattaTimes$Committee" ({ cls := "RegattaTimes$Committee", name := "crossLine", desc := "(I)I" } : Jvm.MethodName) ({ cls := "RegattaTimes$Committee", name := "crossLine", desc := "(I)I" } : Jvm.MethodName)) ∈ lw_g := mem_g 425 (by decide +kernel)
theorem q360 : (Jvm.Cond.code ({ cls := "RegattaTimes$Committee", name := "crossLine", desc := "(I)I" } : Jvm.MethodName) prog_2_method_8_code (3 : Nat) (Option.some Jvm.ClassFile.FieldType.int)) ∈ lw_g := mem_g 426 (by decide +kernel)
theorem q361 : (Jvm.Cond.methodLink "RegattaTimes$Committee" (78 : Nat) ({ cls := "RegattaTimes$State", name := "hasBoat", desc := "(I)Z" } : Jvm.MethodName)) ∈ lw_g := mem_g 427 (by decide +kernel)
theorem q362 : (Jvm.Cond.instanceMethod ({ cls := "RegattaTimes$State", name := "hasBoat", desc := "(I)Z" } : Jvm.MethodName)) ∈ lw_g := mem_g 428 (by decide +kernel)
theorem q363 : (Jvm.Cond.selects "RegattaTimes$State" ({ cls := "RegattaTimes$State", name := "hasBoat", desc := "(I)Z" } : Jvm.MethodName) ({ cls := "RegattaTimes$State", name := "hasBoat", desc := "(I)Z" } : Jvm.MethodName)) ∈ lw_g := mem_g 429 (by decide +kernel)
theorem q364 : (Jvm.Cond.code ({ cls := "RegattaTimes$State", name := "hasBoat", desc := "(I)Z" } : Jvm.MethodName) prog_7_method_3_code (2 : Nat) (Option.some Jvm.ClassFile.FieldType.boolean)) ∈ lw_g := mem_g 430 (by decide +kernel)
theorem q365 : (Jvm.Cond.methodLink "RegattaTimes$Committee" (82 : Nat) ({ cls := "RegattaTimes$Committee", name := "kindAfterLine", desc := "(I)I" } : Jvm.MethodName)) ∈ lw_g := mem_g 431 (by decide +kernel)
theorem q367 : (Jvm.Cond.instanceMethod ({ cls := "RegattaTimes$Committee", name := "kindAfterLine", desc := "(I)I" } : Jvm.MethodName)) ∈ lw_g := mem_g 433 (by decide +kernel)
theorem q368 : (Jvm.Cond.code ({ cls := "RegattaTimes$Committee", name := "kindAfterLine", desc := "(I)I" } : Jvm.MethodName) prog_2_method_9_code (2 : Nat) (Option.some Jvm.ClassFile.FieldType.int)) ∈ lw_g := mem_g 434 (by decide +kernel)
theorem q369 : (Jvm.Cond.methodLink "RegattaTimes$Committee" (89 : Nat) ({ cls := "RegattaTimes$State", name := "latestEntry", desc := "(II)I" } : Jvm.MethodName)) ∈ lw_g := mem_g 435 (by decide +kernel)
theorem q370 : (Jvm.Cond.instanceMethod ({ cls := "RegattaTimes$State", name := "latestEntry", desc := "(II)I" } : Jvm.MethodName)) ∈ lw_g := mem_g 436 (by decide +kernel)
theorem q371 : (Jvm.Cond.selects "RegattaTimes$State" ({ cls := "RegattaTimes$State", name := "latestEntry", desc := "(II)I" } : Jvm.MethodName) ({ cls := "RegattaTimes$State", name := "latestEntry", desc := "(II)I" } : Jvm.MethodName)) ∈ lw_g := mem_g 437 (by decide +kernel)
theorem q372 : (Jvm.Cond.code ({ cls := "RegattaTimes$State", name := "latestEntry", desc := "(II)I" } : Jvm.MethodName) prog_7_method_14_code (3 : Nat) (Option.some Jvm.ClassFile.FieldType.int)) ∈ lw_g := mem_g 438 (by decide +kernel)
theorem q373 : (Jvm.Cond.methodLink "RegattaTimes$State" (71 : Nat) ({ cls := "RegattaTimes$State", name := "row", desc := "(II)I" } : Jvm.MethodName)) ∈ lw_g := mem_g 439 (by decide +kernel)
theorem q374 : (Jvm.Cond.methodLink "RegattaTimes$Committee" (92 : Nat) ({ cls := "RegattaTimes$Committee", name := "hasAllRoundings", desc := "(I)Z" } : Jvm.MethodName)) ∈ lw_g := mem_g 440 (by decide +kernel)
theorem q376 : (Jvm.Cond.instanceMethod ({ cls := "RegattaTimes$Committee", name := "hasAllRoundings", desc := "(I)Z" } : Jvm.MethodName)) ∈ lw_g := mem_g 442 (by decide +kernel)
theorem q377 : (Jvm.Cond.code ({ cls := "RegattaTimes$Committee", name := "hasAllRoundings", desc := "(I)Z" } : Jvm.MethodName) prog_2_method_10_code (4 : Nat) (Option.some Jvm.ClassFile.FieldType.boolean)) ∈ lw_g := mem_g 443 (by decide +kernel)
theorem q378 : (Jvm.Cond.methodLink "RegattaTimes$Committee" (95 : Nat) ({ cls := "RegattaTimes$Table", name := "get", desc := "(II)I" } : Jvm.MethodName)) ∈ lw_g := mem_g 444 (by decide +kernel)
theorem q379 : (Jvm.Cond.methodLink "RegattaTimes$Committee" (86 : Nat) ({ cls := "RegattaTimes$State", name := "putLatestEntry", desc := "(III)V" } : Jvm.MethodName)) ∈ lw_g := mem_g 445 (by decide +kernel)
theorem q380 : (Jvm.Cond.instanceMethod ({ cls := "RegattaTimes$State", name := "putLatestEntry", desc := "(III)V" } : Jvm.MethodName)) ∈ lw_g := mem_g 446 (by decide +kernel)
theorem q381 : (Jvm.Cond.selects "RegattaTimes$State" ({ cls := "RegattaTimes$State", name := "putLatestEntry", desc := "(III)V" } : Jvm.MethodName) ({ cls := "RegattaTimes$State", name := "putLatestEntry", desc := "(III)V" } : Jvm.MethodName)) ∈ lw_g := mem_g 447 (by decide +kernel)
theorem q382 : (Jvm.Cond.code ({ cls := "RegattaTimes$State", name := "putLatestEntry", desc := "(III)V" } : Jvm.MethodName) prog_7_method_15_code (4 : Nat) (Option.none : Option Jvm.ClassFile.FieldType)) ∈ lw_g := mem_g 448 (by decide +kernel)
theorem q383 : (Jvm.Cond.methodLink "RegattaTimesLaw" (40 : Nat) ({ cls := "RegattaTimes", name := "buoy", desc := "(II)I" } : Jvm.MethodName)) ∈ lw_g := mem_g 449 (by decide +kernel)
theorem q384 : (Jvm.Cond.instanceMethod ({ cls := "RegattaTimes", name := "buoy", desc := "(II)I" } : Jvm.MethodName)) ∈ lw_g := mem_g 450 (by decide +kernel)
theorem q385 : (Jvm.Cond.selects "RegattaTimes" ({ cls := "RegattaTimes", name := "buoy", desc := "(II)I" } : Jvm.MethodName) ({ cls := "RegattaTimes", name := "buoy", desc := "(II)I" } : Jvm.MethodName)) ∈ lw_g := mem_g 451 (by decide +kernel)
theorem q386 : (Jvm.Cond.code ({ cls := "RegattaTimes", name := "buoy", desc := "(II)I" } : Jvm.MethodName) prog_1_method_8_code (3 : Nat) (Option.some Jvm.ClassFile.FieldType.int)) ∈ lw_g := mem_g 452 (by decide +kernel)
theorem q387 : (Jvm.Cond.methodLink "RegattaTimes" (93 : Nat) ({ cls := "RegattaTimes$Committee", name := "passBuoy", desc := "(II)I" } : Jvm.MethodName)) ∈ lw_g := mem_g 453 (by decide +kernel)
theorem q388 : (Jvm.Cond.instanceMethod ({ cls := "RegattaTimes$Committee", name := "passBuoy", desc := "(II)I" } : Jvm.MethodName)) ∈ lw_g := mem_g 454 (by decide +kernel)
theorem q389 : (Jvm.Cond.selects "RegattaTimes$Committee" ({ cls := "RegattaTimes$Committee", name := "passBuoy", desc := "(II)I" } : Jvm.MethodName) ({ cls := "RegattaTimes$Committee", name := "passBuoy", desc := "(II)I" } : Jvm.MethodName)) ∈ lw_g := mem_g 455 (by decide +kernel)
theorem q390 : (Jvm.Cond.code ({ cls := "RegattaTimes$Committee", name := "passBuoy", desc := "(II)I" } : Jvm.MethodName) prog_2_method_11_code (7 : Nat) (Option.some Jvm.ClassFile.FieldType.int)) ∈ lw_g := mem_g 456 (by decide +kernel)
theorem q391 : (Jvm.Cond.methodLink "RegattaTimesLaw" (45 : Nat) ({ cls := "RegattaTimes", name := "retire", desc := "(I)I" } : Jvm.MethodName)) ∈ lw_g := mem_g 457 (by decide +kernel)
theorem q392 : (Jvm.Cond.instanceMethod ({ cls := "RegattaTimes", name := "retire", desc := "(I)I" } : Jvm.MethodName)) ∈ lw_g := mem_g 458 (by decide +kernel)
theorem q393 : (Jvm.Cond.selects "RegattaTimes" ({ cls := "RegattaTimes", name := "retire", desc := "(I)I" } : Jvm.MethodName) ({ cls := "RegattaTimes", name := "retire", desc := "(I)I" } : Jvm.MethodName)) ∈ lw_g := mem_g 459 (by decide +kernel)
theorem q394 : (Jvm.Cond.code ({ cls := "RegattaTimes", name := "retire", desc := "(I)I" } : Jvm.MethodName) prog_1_method_9_code (2 : Nat) (Option.some Jvm.ClassFile.FieldType.int)) ∈ lw_g := mem_g 460 (by decide +kernel)
theorem q395 : (Jvm.Cond.methodLink "RegattaTimes" (97 : Nat) ({ cls := "RegattaTimes$Committee", name := "retireBoat", desc := "(I)I" } : Jvm.MethodName)) ∈ lw_g := mem_g 461 (by decide +kernel)
theorem q396 : (Jvm.Cond.instanceMethod ({ cls := "RegattaTimes$Committee", name := "retireBoat", desc := "(I)I" } : Jvm.MethodName)) ∈ lw_g := mem_g 462 (by decide +kernel)
theorem q397 : (Jvm.Cond.selects "RegattaTimes$Committee" ({ cls := "RegattaTimes$Committee", name := "retireBoat", desc := "(I)I" } : Jvm.MethodName) ({ cls := "RegattaTimes$Committee", name := "retireBoat", desc := "(I)I" } : Jvm.MethodName)) ∈ lw_g := mem_g 463 (by decide +kernel)
theorem q398 : (Jvm.Cond.code ({ cls := "RegattaTimes$Committee", name := "retireBoat", desc := "(I)I" } : Jvm.MethodName) prog_2_method_12_code (3 : Nat) (Option.some Jvm.ClassFile.FieldType.int)) ∈ lw_g := mem_g 464 (by decide +kernel)
theorem q399 : (Jvm.Cond.methodLink "RegattaTimesLaw" (49 : Nat) ({ cls := "RegattaTimes", name := "close", desc := "()I" } : Jvm.MethodName)) ∈ lw_g := mem_g 465 (by decide +kernel)
theorem q400 : (Jvm.Cond.instanceMethod ({ cls := "RegattaTimes", name := "close", desc := "()I" } : Jvm.MethodName)) ∈ lw_g := mem_g 466 (by decide +kernel)
theorem q401 : (Jvm.Cond.selects "RegattaTimes" ({ cls := "RegattaTimes", name := "close", desc := "()I" } : Jvm.MethodName) ({ cls := "RegattaTimes", name := "close", desc := "()I" } : Jvm.MethodName)) ∈ lw_g := mem_g 467 (by decide +kernel)
theorem q402 : (Jvm.Cond.code ({ cls := "RegattaTimes", name := "close", desc := "()I" } : Jvm.MethodName) prog_1_method_10_code (1 : Nat) (Option.some Jvm.ClassFile.FieldType.int)) ∈ lw_g := mem_g 468 (by decide +kernel)
theorem q403 : (Jvm.Cond.methodLink "RegattaTimes" (100 : Nat) ({ cls := "RegattaTimes$Committee", name := "closeRace", desc := "()I" } : Jvm.MethodName)) ∈ lw_g := mem_g 469 (by decide +kernel)
theorem q404 : (Jvm.Cond.instanceMethod ({ cls := "RegattaTimes$Committee", name := "closeRace", desc := "()I" } : Jvm.MethodName)) ∈ lw_g := mem_g 470 (by decide +kernel)
theorem q405 : (Jvm.Cond.selects "RegattaTimes$Committee" ({ cls := "RegattaTimes$Committee", name := "closeRace", desc := "()I" } : Jvm.MethodName) ({ cls := "RegattaTimes$Committee", name := "closeRace", desc := "()I" } : Jvm.MethodName)) ∈ lw_g := mem_g 471 (by decide +kernel)
theorem q406 : (Jvm.Cond.code ({ cls := "RegattaTimes$Committee", name := "closeRace", desc := "()I" } : Jvm.MethodName) prog_2_method_13_code (1 : Nat) (Option.some Jvm.ClassFile.FieldType.int)) ∈ lw_g := mem_g 472 (by decide +kernel)
theorem q407 : (Jvm.Cond.methodLink "RegattaTimes$Committee" (98 : Nat) ({ cls := "RegattaTimes$State", name := "entriesWith", desc := "(III)I" } : Jvm.MethodName)) ∈ lw_g := mem_g 473 (by decide +kernel)
theorem q408 : (Jvm.Cond.instanceMethod ({ cls := "RegattaTimes$State", name := "entriesWith", desc := "(III)I" } : Jvm.MethodName)) ∈ lw_g := mem_g 474 (by decide +kernel)
theorem q409 : (Jvm.Cond.selects "RegattaTimes$State" ({ cls := "RegattaTimes$State", name := "entriesWith", desc := "(III)I" } : Jvm.MethodName) ({ cls := "RegattaTimes$State", name := "entriesWith", desc := "(III)I" } : Jvm.MethodName)) ∈ lw_g := mem_g 475 (by decide +kernel)
theorem q410 : (Jvm.Cond.code ({ cls := "RegattaTimes$State", name := "entriesWith", desc := "(III)I" } : Jvm.MethodName) prog_7_method_17_code (6 : Nat) (Option.some Jvm.ClassFile.FieldType.int)) ∈ lw_g := mem_g 476 (by decide +kernel)
theorem q411 : (Jvm.Cond.methodLink "RegattaTimesLaw" (53 : Nat) ({ cls := "RegattaTimes", name := "hail", desc := "(II)I" } : Jvm.MethodName)) ∈ lw_g := mem_g 477 (by decide +kernel)
theorem q412 : (Jvm.Cond.instanceMethod ({ cls := "RegattaTimes", name := "hail", desc := "(II)I" } : Jvm.MethodName)) ∈ lw_g := mem_g 478 (by decide +kernel)
theorem q413 : (Jvm.Cond.selects "RegattaTimes" ({ cls := "RegattaTimes", name := "hail", desc := "(II)I" } : Jvm.MethodName) ({ cls := "RegattaTimes", name := "hail", desc := "(II)I" } : Jvm.MethodName)) ∈ lw_g := mem_g 479 (by decide +kernel)
theorem q414 : (Jvm.Cond.code ({ cls := "RegattaTimes", name := "hail", desc := "(II)I" } : Jvm.MethodName) prog_1_method_11_code (3 : Nat) (Option.some Jvm.ClassFile.FieldType.int)) ∈ lw_g := mem_g 480 (by decide +kernel)
theorem q415 : (Jvm.Cond.methodLink "RegattaTimes" (103 : Nat) ({ cls := "RegattaTimes$Jury", name := "hailProtest", desc := "(II)I" } : Jvm.MethodName)) ∈ lw_g := mem_g 481 (by decide +kernel)
theorem q416 : (Jvm.Cond.instanceMethod ({ cls := "RegattaTimes$Jury", name := "hailProtest", desc := "(II)I" } : Jvm.MethodName)) ∈ lw_g := mem_g 482 (by decide +kernel)
theorem q417 : (Jvm.Cond.selects "RegattaTimes$Jury" ({ cls := "RegattaTimes$Jury", name := "hailProtest", desc := "(II)I" } : Jvm.MethodName) ({ cls := "RegattaTimes$Jury", name := "hailProtest", desc := "(II)I" } : Jvm.MethodName)) ∈ lw_g := mem_g 483 (by decide +kernel)
theorem q418 : (Jvm.Cond.code ({ cls := "RegattaTimes$Jury", name := "hailProtest", desc := "(II)I" } : Jvm.MethodName) prog_4_method_2_code (4 : Nat) (Option.some Jvm.ClassFile.FieldType.int)) ∈ lw_g := mem_g 484 (by decide +kernel)
theorem q419 : (Jvm.Cond.methodLink "RegattaTimes$Jury" (15 : Nat) ({ cls := "RegattaTimes$State", name := "hasBoat", desc := "(I)Z" } : Jvm.MethodName)) ∈ lw_g := mem_g 485 (by decide +kernel)
theorem q420 : (Jvm.Cond.methodLink "RegattaTimes$Jury" (21 : Nat) ({ cls := "RegattaTimes$State", name := "isPrepared", desc := "()Z" } : Jvm.MethodName)) ∈ lw_g := mem_g 486 (by decide +kernel)
theorem q421 : (Jvm.Cond.methodLink "RegattaTimes$Jury" (25 : Nat) ({ cls := "RegattaTimes$Jury", name := "isOnCourse", desc := "(I)Z" } : Jvm.MethodName)) ∈ lw_g := mem_g 487 (by decide +kernel)
theorem q423 : (Jvm.Cond.instanceMethod ({ cls := "RegattaTimes$Jury", name := "isOnCourse", desc := "(I)Z" } : Jvm.MethodName)) ∈ lw_g := mem_g 489 (by decide +kernel)
theorem q424 : (Jvm.Cond.code ({ cls := "RegattaTimes$Jury", name := "isOnCourse", desc := "(I)Z" } : Jvm.MethodName) prog_4_method_3_code (3 : Nat) (Option.some Jvm.ClassFile.FieldType.boolean)) ∈ lw_g := mem_g 490 (by decide +kernel)
theorem q425 : (Jvm.Cond.methodLink "RegattaTimes$Jury" (45 : Nat) ({ cls := "RegattaTimes$State", name := "latestEntry", desc := "(II)I" } : Jvm.MethodName)) ∈ lw_g := mem_g 491 (by decide +kernel)
theorem q426 : (Jvm.Cond.methodLink "RegattaTimes$Jury" (36 : Nat) ({ cls := "RegattaTimes$Table", name := "put", desc := "(III)V" } : Jvm.MethodName)) ∈ lw_g := mem_g 492 (by decide +kernel)
theorem q427 : (Jvm.Cond.methodLink "RegattaTimesLaw" (57 : Nat) ({ cls := "RegattaTimes", name := "file", desc := "(I)I" } : Jvm.MethodName)) ∈ lw_g := mem_g 493 (by decide +kernel)
theorem q428 : (Jvm.Cond.instanceMethod ({ cls := "RegattaTimes", name := "file", desc := "(I)I" } : Jvm.MethodName)) ∈ lw_g := mem_g 494 (by decide +kernel)
theorem q429 : (Jvm.Cond.selects "RegattaTimes" ({ cls := "RegattaTimes", name := "file", desc := "(I)I" } : Jvm.MethodName) ({ cls := "RegattaTimes", name := "file", desc := "(I)I" } : Jvm.MethodName)) ∈ lw_g := mem_g 495 (by decide +kernel)
theorem q430 : (Jvm.Cond.code ({ cls := "RegattaTimes", name := "file", desc := "(I)I" } : Jvm.MethodName) prog_1_method_12_code (2 : Nat) (Option.some Jvm.ClassFile.FieldType.int)) ∈ lw_g := mem_g 496 (by decide +kernel)
theorem q431 : (Jvm.Cond.methodLink "RegattaTimes" (106 : Nat) ({ cls := "RegattaTimes$Jury", name := "fileProtest", desc := "(I)I" } : Jvm.MethodName)) ∈ lw_g := mem_g 497 (by decide +kernel)
theorem q432 : (Jvm.Cond.instanceMethod ({ cls := "RegattaTimes$Jury", name := "fileProtest", desc := "(I)I" } : Jvm.MethodName)) ∈ lw_g := mem_g 498 (by decide +kernel)
theorem q433 : (Jvm.Cond.selects "RegattaTimes$Jury" ({ cls := "RegattaTimes$Jury", name := "fileProtest", desc := "(I)I" } : Jvm.MethodName) ({ cls := "RegattaTimes$Jury", name := "fileProtest", desc := "(I)I" } : Jvm.MethodName)) ∈ lw_g := mem_g 499 (by decide +kernel)
theorem q434 : (Jvm.Cond.code ({ cls := "RegattaTimes$Jury", name := "fileProtest", desc := "(I)I" } : Jvm.MethodName) prog_4_method_4_code (4 : Nat) (Option.some Jvm.ClassFile.FieldType.int)) ∈ lw_g := mem_g 500 (by decide +kernel)
theorem q435 : (Jvm.Cond.methodLink "RegattaTimes$Jury" (49 : Nat) ({ cls := "RegattaTimes$State", name := "hasProtest", desc := "(I)Z" } : Jvm.MethodName)) ∈ lw_g := mem_g 501 (by decide +kernel)
theorem q436 : (Jvm.Cond.instanceMethod ({ cls := "RegattaTimes$State", name := "hasProtest", desc := "(I)Z" } : Jvm.MethodName)) ∈ lw_g := mem_g 502 (by decide +kernel)
theorem q437 : (Jvm.Cond.selects "RegattaTimes$State" ({ cls := "RegattaTimes$State", name := "hasProtest", desc := "(I)Z" } : Jvm.MethodName) ({ cls := "RegattaTimes$State", name := "hasProtest", desc := "(I)Z" } : Jvm.MethodName)) ∈ lw_g := mem_g 503 (by decide +kernel)
theorem q438 : (Jvm.Cond.code ({ cls := "RegattaTimes$State", name := "hasProtest", desc := "(I)Z" } : Jvm.MethodName) prog_7_method_5_code (2 : Nat) (Option.some Jvm.ClassFile.FieldType.boolean)) ∈ lw_g := mem_g 504 (by decide +kernel)
theorem q439 : (Jvm.Cond.methodLink "RegattaTimes$Jury" (52 : Nat) ({ cls := "RegattaTimes$Table", name := "get", desc := "(II)I" } : Jvm.MethodName)) ∈ lw_g := mem_g 505 (by decide +kernel)
theorem q440 : (Jvm.Cond.methodLink "RegattaTimes$Jury" (55 : Nat) ({ cls := "RegattaTimes$State", name := "setting", desc := "(I)I" } : Jvm.MethodName)) ∈ lw_g := mem_g 506 (by decide +kernel)
theorem q441 : (Jvm.Cond.instanceMethod ({ cls := "RegattaTimes$State", name := "setting", desc := "(I)I" } : Jvm.MethodName)) ∈ lw_g := mem_g 507 (by decide +kernel)
theorem q442 : (Jvm.Cond.selects "RegattaTimes$State" ({ cls := "RegattaTimes$State", name := "setting", desc := "(I)I" } : Jvm.MethodName) ({ cls := "RegattaTimes$State", name := "setting", desc := "(I)I" } : Jvm.MethodName)) ∈ lw_g := mem_g 508 (by decide +kernel)
theorem q443 : (Jvm.Cond.code ({ cls := "RegattaTimes$State", name := "setting", desc := "(I)I" } : Jvm.MethodName) prog_7_method_12_code (2 : Nat) (Option.some Jvm.ClassFile.FieldType.int)) ∈ lw_g := mem_g 509 (by decide +kernel)
theorem q444 : (Jvm.Cond.methodLink "RegattaTimesLaw" (61 : Nat) ({ cls := "RegattaTimes", name := "accept", desc := "(I)I" } : Jvm.MethodName)) ∈ lw_g := mem_g 510 (by decide +kernel)
theorem q445 : (Jvm.Cond.instanceMethod ({ cls := "RegattaTimes", name := "accept", desc := "(I)I" } : Jvm.MethodName)) ∈ lw_g := mem_g 511 (by decide +kernel)
theorem q446 : (Jvm.Cond.selects "RegattaTimes" ({ cls := "RegattaTimes", name := "accept", desc := "(I)I" } : Jvm.MethodName) ({ cls := "RegattaTimes", name := "accept", desc := "(I)I" } : Jvm.MethodName)) ∈ lw_g := mem_g 512 (by decide +kernel)
theorem q447 : (Jvm.Cond.code ({ cls := "RegattaTimes", name := "accept", desc := "(I)I" } : Jvm.MethodName) prog_1_method_13_code (2 : Nat) (Option.some Jvm.ClassFile.FieldType.int)) ∈ lw_g := mem_g 513 (by decide +kernel)
theorem q448 : (Jvm.Cond.methodLink "RegattaTimes" (109 : Nat) ({ cls := "RegattaTimes$Jury", name := "acceptProtest", desc := "(I)I" } : Jvm.MethodName)) ∈ lw_g := mem_g 514 (by decide +kernel)
theorem q449 : (Jvm.Cond.instanceMethod ({ cls := "RegattaTimes$Jury", name := "acceptProtest", desc := "(I)I" } : Jvm.MethodName)) ∈ lw_g := mem_g 515 (by decide +kernel)
theorem q450 : (Jvm.Cond.selects "RegattaTimes$Jury" ({ cls := "RegattaTimes$Jury", name := "acceptProtest", desc := "(I)I" } : Jvm.MethodName) ({ cls := "RegattaTimes$Jury", name := "acceptProtest", desc := "(I)I" } : Jvm.MethodName)) ∈ lw_g := mem_g 516 (by decide +kernel)
theorem q451 : (Jvm.Cond.code ({ cls := "RegattaTimes$Jury", name := "acceptProtest", desc := "(I)I" } : Jvm.MethodName) prog_4_method_5_code (5 : Nat) (Option.some Jvm.ClassFile.FieldType.int)) ∈ lw_g := mem_g 517 (by decide +kernel)
theorem q452 : (Jvm.Cond.methodLink "RegattaTimes$Jury" (59 : Nat) ({ cls := "RegattaTimes$State", name := "putLatestEntry", desc := "(III)V" } : Jvm.MethodName)) ∈ lw_g := mem_g 518 (by decide +kernel)
theorem q453 : (Jvm.Cond.methodLink "RegattaTimesLaw" (65 : Nat) ({ cls := "RegattaTimes", name := "decide", desc := "(IZ)I" } : Jvm.MethodName)) ∈ lw_g := mem_g 519 (by decide +kernel)
theorem q454 : (Jvm.Cond.instanceMethod ({ cls := "RegattaTimes", name := "decide", desc := "(IZ)I" } : Jvm.MethodName)) ∈ lw_g := mem_g 520 (by decide +kernel)
theorem q455 : (Jvm.Cond.selects "RegattaTimes" ({ cls := "RegattaTimes", name := "decide", desc := "(IZ)I" } : Jvm.MethodName) ({ cls := "RegattaTimes", name := "decide", desc := "(IZ)I" } : Jvm.MethodName)) ∈ lw_g := mem_g 521 (by decide +kernel)
theorem q456 : (Jvm.Cond.code ({ cls := "RegattaTimes", name := "decide", desc := "(IZ)I" } : Jvm.MethodName) prog_1_method_14_code (3 : Nat) (Option.some Jvm.ClassFile.FieldType.int)) ∈ lw_g := mem_g 522 (by decide +kernel)
theorem q457 : (Jvm.Cond.methodLink "RegattaTimes" (112 : Nat) ({ cls := "RegattaTimes$Jury", name := "decideProtest", desc := "(IZ)I" } : Jvm.MethodName)) ∈ lw_g := mem_g 523 (by decide +kernel)
theorem q458 : (Jvm.Cond.instanceMethod ({ cls := "RegattaTimes$Jury", name := "decideProtest", desc := "(IZ)I" } : Jvm.MethodName)) ∈ lw_g := mem_g 524 (by decide +kernel)
theorem q459 : (Jvm.Cond.selects "RegattaTimes$Jury" ({ cls := "RegattaTimes$Jury", name := "decideProtest", desc := "(IZ)I" } : Jvm.MethodName) ({ cls := "RegattaTimes$Jury", name := "decideProtest", desc := "(IZ)I" } : Jvm.MethodName)) ∈ lw_g := mem_g 525 (by decide +kernel)
theorem q460 : (Jvm.Cond.code ({ cls := "RegattaTimes$Jury", name := "decideProtest", desc := "(IZ)I" } : Jvm.MethodName) prog_4_method_6_code (3 : Nat) (Option.some Jvm.ClassFile.FieldType.int)) ∈ lw_g := mem_g 526 (by decide +kernel)
theorem q461 : (Jvm.Cond.methodLink "RegattaTimes$Jury" (62 : Nat) ({ cls := "RegattaTimes$State", name := "latestRace", desc := "()I" } : Jvm.MethodName)) ∈ lw_g := mem_g 527 (by decide +kernel)
theorem q462 : (Jvm.Cond.methodLink "RegattaTimes$Jury" (66 : Nat) ({ cls := "RegattaTimes$State", name := "entriesWith", desc := "(III)I" } : Jvm.MethodName)) ∈ lw_g := mem_g 528 (by decide +kernel)
theorem q463 : (Jvm.Cond.methodLink "RegattaTimesLaw" (70 : Nat) ({ cls := "RegattaTimes", name := "set", desc := "(II)I" } : Jvm.MethodName)) ∈ lw_g := mem_g 529 (by decide +kernel)
theorem q464 : (Jvm.Cond.instanceMethod ({ cls := "RegattaTimes", name := "set", desc := "(II)I" } : Jvm.MethodName)) ∈ lw_g := mem_g 530 (by decide +kernel)
theorem q465 : (Jvm.Cond.selects "RegattaTimes" ({ cls := "RegattaTimes", name := "set", desc := "(II)I" } : Jvm.MethodName) ({ cls := "RegattaTimes", name := "set", desc := "(II)I" } : Jvm.MethodName)) ∈ lw_g := mem_g 531 (by decide +kernel)
theorem q466 : (Jvm.Cond.code ({ cls := "RegattaTimes", name := "set", desc := "(II)I" } : Jvm.MethodName) prog_1_method_15_code (3 : Nat) (Option.some Jvm.ClassFile.FieldType.int)) ∈ lw_g := mem_g 532 (by decide +kernel)
theorem q467 : (Jvm.Cond.methodLink "RegattaTimes" (116 : Nat) ({ cls := "RegattaTimes$Committee", name := "changeSetting", desc := "(II)I" } : Jvm.MethodName)) ∈ lw_g := mem_g 533 (by decide +kernel)
theorem q468 : (Jvm.Cond.instanceMethod ({ cls := "RegattaTimes$Committee", name := "changeSetting", desc := "(II)I" } : Jvm.MethodName)) ∈ lw_g := mem_g 534 (by decide +kernel)
theorem q469 : (Jvm.Cond.selects "RegattaTimes$Committee" ({ cls := "RegattaTimes$Committee", name := "changeSetting", desc := "(II)I" } : Jvm.MethodName) ({ cls := "RegattaTimes$Committee", name := "changeSetting", desc := "(II)I" } : Jvm.MethodName)) ∈ lw_g := mem_g 535 (by decide +kernel)
theorem q470 : (Jvm.Cond.code ({ cls := "RegattaTimes$Committee", name := "changeSetting", desc := "(II)I" } : Jvm.MethodName) prog_2_method_14_code (4 : Nat) (Option.some Jvm.ClassFile.FieldType.int)) ∈ lw_g := mem_g 536 (by decide +kernel)
theorem q475 : (Jvm.Cond.methodLink "RegattaTimes$Committee" (109 : Nat) ({ cls := "RegattaTimes$State", name := "setting", desc := "(I)I" } : Jvm.MethodName)) ∈ lw_g := mem_g 541 (by decide +kernel)
theorem q476 : (Jvm.Cond.methodLink "RegattaTimesLaw" (74 : Nat) ({ cls := "RegattaTimes", name := "append", desc := "(I)I" } : Jvm.MethodName)) ∈ lw_g := mem_g 542 (by decide +kernel)
theorem q477 : (Jvm.Cond.instanceMethod ({ cls := "RegattaTimes", name := "append", desc := "(I)I" } : Jvm.MethodName)) ∈ lw_g := mem_g 543 (by decide +kernel)
theorem q478 : (Jvm.Cond.selects "RegattaTimes" ({ cls := "RegattaTimes", name := "append", desc := "(I)I" } : Jvm.MethodName) ({ cls := "RegattaTimes", name := "append", desc := "(I)I" } : Jvm.MethodName)) ∈ lw_g := mem_g 544 (by decide +kernel)
theorem q479 : (Jvm.Cond.code ({ cls := "RegattaTimes", name := "append", desc := "(I)I" } : Jvm.MethodName) prog_1_method_16_code (2 : Nat) (Option.some Jvm.ClassFile.FieldType.int)) ∈ lw_g := mem_g 545 (by decide +kernel)
theorem q480 : (Jvm.Cond.methodLink "RegattaTimes" (119 : Nat) ({ cls := "RegattaTimes$Log", name := "addSign", desc := "(I)I" } : Jvm.MethodName)) ∈ lw_g := mem_g 546 (by decide +kernel)
theorem q481 : (Jvm.Cond.instanceMethod ({ cls := "RegattaTimes$Log", name := "addSign", desc := "(I)I" } : Jvm.MethodName)) ∈ lw_g := mem_g 547 (by decide +kernel)
theorem q482 : (Jvm.Cond.selects "RegattaTimes$Log" ({ cls := "RegattaTimes$Log", name := "addSign", desc := "(I)I" } : Jvm.MethodName) ({ cls := "RegattaTimes$Log", name := "addSign", desc := "(I)I" } : Jvm.MethodName)) ∈ lw_g := mem_g 548 (by decide +kernel)
theorem q483 : (Jvm.Cond.code ({ cls := "RegattaTimes$Log", name := "addSign", desc := "(I)I" } : Jvm.MethodName) prog_5_method_2_code (2 : Nat) (Option.some Jvm.ClassFile.FieldType.int)) ∈ lw_g := mem_g 549 (by decide +kernel)
theorem q484 : (Jvm.Cond.methodLink "RegattaTimes$Log" (18 : Nat) ({ cls := "java/lang/StringBuilder", name := "length", desc := "()I" } : Jvm.MethodName)) ∈ lw_g := mem_g 550 (by decide +kernel)
theorem q485 : (Jvm.Cond.instanceMethod ({ cls := "java/lang/StringBuilder", name := "length", desc := "()I" } : Jvm.MethodName)) ∈ lw_g := mem_g 551 (by decide +kernel)
theorem q486 : (Jvm.Cond.selects "java/lang/StringBuilder" ({ cls := "java/lang/StringBuilder", name := "length", desc := "()I" } : Jvm.MethodName) ({ cls := "java/lang/StringBuilder", name := "length", desc := "()I" } : Jvm.MethodName)) ∈ lw_g := mem_g 552 (by decide +kernel)
theorem q487 : (Jvm.Cond.code ({ cls := "java/lang/StringBuilder", name := "length", desc := "()I" } : Jvm.MethodName) prog_15_method_93_code (1 : Nat) (Option.some Jvm.ClassFile.FieldType.int)) ∈ lw_g := mem_g 553 (by decide +kernel)
theorem q488 : (Jvm.Cond.methodLink "java/lang/StringBuilder" (343 : Nat) ({ cls := "java/lang/AbstractStringBuilder", name := "length", desc := "()I" } : Jvm.MethodName)) ∈ lw_g := mem_g 554 (by decide +kernel)
theorem q489 : (Jvm.Cond.instanceMethod ({ cls := "java/lang/AbstractStringBuilder", name := "length", desc := "()I" } : Jvm.MethodName)) ∈ lw_g := mem_g 555 (by decide +kernel)
theorem q490 : (Jvm.Cond.code ({ cls := "java/lang/AbstractStringBuilder", name := "length", desc := "()I" } : Jvm.MethodName) prog_11_method_6_code (1 : Nat) (Option.some Jvm.ClassFile.FieldType.int)) ∈ lw_g := mem_g 556 (by decide +kernel)
theorem q491 : (Jvm.Cond.methodLink "RegattaTimes$Log" (22 : Nat) ({ cls := "java/lang/StringBuilder", name := "append", desc := "(C)Ljava/lang/StringBuilder;" } : Jvm.MethodName)) ∈ lw_g := mem_g 557 (by decide +kernel)
theorem q492 : (Jvm.Cond.instanceMethod ({ cls := "java/lang/StringBuilder", name := "append", desc := "(C)Ljava/lang/StringBuilder;" } : Jvm.MethodName)) ∈ lw_g := mem_g 558 (by decide +kernel)
theorem q493 : (Jvm.Cond.selects "java/lang/StringBuilder" ({ cls := "java/lang/StringBuilder", name := "append", desc := "(C)Ljava/lang/StringBuilder;" } : Jvm.MethodName) ({ cls := "java/lang/StringBuilder", name := "append", desc := "(C)Ljava/lang/StringBuilder;" } : Jvm.MethodName)) ∈ lw_g := mem_g 559 (by decide +kernel)
theorem q494 : (Jvm.Cond.code ({ cls := "java/lang/StringBuilder", name := "append", desc := "(C)Ljava/lang/StringBuilder;" } : Jvm.MethodName) prog_15_method_14_code (2 : Nat) (Option.some (Jvm.ClassFile.FieldType.object "java/lang/StringBuilder"))) ∈ lw_g := mem_g 560 (by decide +kernel)
theorem q495 : (Jvm.Cond.methodLink "java/lang/StringBuilder" (50 : Nat) ({ cls := "java/lang/AbstractStringBuilder", name := "append", desc := "(C)Ljava/lang/AbstractStringBuilder;" } : Jvm.MethodName)) ∈ lw_g := mem_g 561 (by decide +kernel)
theorem q496 : (Jvm.Cond.instanceMethod ({ cls := "java/lang/AbstractStringBuilder", name := "append", desc := "(C)Ljava/lang/AbstractStringBuilder;" } : Jvm.MethodName)) ∈ lw_g := mem_g 562 (by decide +kernel)
theorem q497 : (Jvm.Cond.code ({ cls := "java/lang/AbstractStringBuilder", name := "append", desc := "(C)Ljava/lang/AbstractStringBuilder;" } : Jvm.MethodName) prog_11_method_31_code (2 : Nat) (Option.some (Jvm.ClassFile.FieldType.object "java/lang/AbstractStringBuilder"))) ∈ lw_g := mem_g 563 (by decide +kernel)
theorem q498 : (Jvm.Cond.methodLink "java/lang/AbstractStringBuilder" (100 : Nat) ({ cls := "java/lang/AbstractStringBuilder", name := "ensureCapacityInternal", desc := "(I)V" } : Jvm.MethodName)) ∈ lw_g := mem_g 564 (by decide +kernel)
theorem q500 : (Jvm.Cond.instanceMethod ({ cls := "java/lang/AbstractStringBuilder", name := "ensureCapacityInternal", desc := "(I)V" } : Jvm.MethodName)) ∈ lw_g := mem_g 566 (by decide +kernel)
theorem q501 : (Jvm.Cond.code ({ cls := "java/lang/AbstractStringBuilder", name := "ensureCapacityInternal", desc := "(I)V" } : Jvm.MethodName) prog_11_method_9_code (3 : Nat) (Option.none : Option Jvm.ClassFile.FieldType)) ∈ lw_g := mem_g 567 (by decide +kernel)
theorem q502 : (Jvm.Cond.methodLink "java/lang/AbstractStringBuilder" (104 : Nat) ({ cls := "java/lang/AbstractStringBuilder", name := "newCapacity", desc := "(I)I" } : Jvm.MethodName)) ∈ lw_g := mem_g 568 (by decide +kernel)
theorem q504 : (Jvm.Cond.instanceMethod ({ cls := "java/lang/AbstractStringBuilder", name := "newCapacity", desc := "(I)I" } : Jvm.MethodName)) ∈ lw_g := mem_g 570 (by decide +kernel)
theorem q505 : (Jvm.Cond.code ({ cls := "java/lang/AbstractStringBuilder", name := "newCapacity", desc := "(I)I" } : Jvm.MethodName) prog_11_method_10_code (6 : Nat) (Option.some Jvm.ClassFile.FieldType.int)) ∈ lw_g := mem_g 571 (by decide +kernel)
theorem q506 : (Jvm.Cond.methodLink "java/lang/AbstractStringBuilder" (114 : Nat) ({ cls := "jdk/internal/util/ArraysSupport", name := "newLength", desc := "(III)I" } : Jvm.MethodName)) ∈ lw_g := mem_g 572 (by decide +kernel)
theorem q507 : (Jvm.Cond.static ({ cls := "jdk/internal/util/ArraysSupport", name := "newLength", desc := "(III)I" } : Jvm.MethodName)) ∈ lw_g := mem_g 573 (by decide +kernel)
theorem q508 : (Jvm.Cond.code ({ cls := "jdk/internal/util/ArraysSupport", name := "newLength", desc := "(III)I" } : Jvm.MethodName) prog_20_method_27_code (4 : Nat) (Option.some Jvm.ClassFile.FieldType.int)) ∈ lw_g := mem_g 574 (by decide +kernel)
theorem q509 : (Jvm.Cond.methodLink "jdk/internal/util/ArraysSupport" (194 : Nat) ({ cls := "java/lang/Math", name := "max", desc := "(II)I" } : Jvm.MethodName)) ∈ lw_g := mem_g 575 (by decide +kernel)
theorem q510 : (Jvm.Cond.constant "jdk/internal/util/ArraysSupport" (200 : Nat) (2147483639 : Int32)) ∈ lw_g := mem_g 576 (by decide +kernel)
theorem q511 : (Jvm.Cond.methodLink "jdk/internal/util/ArraysSupport" (201 : Nat) ({ cls := "jdk/internal/util/ArraysSupport", name := "hugeLength", desc := "(II)I" } : Jvm.MethodName)) ∈ lw_g := mem_g 577 (by decide +kernel)
theorem q512 : (Jvm.Cond.static ({ cls := "jdk/internal/util/ArraysSupport", name := "hugeLength", desc := "(II)I" } : Jvm.MethodName)) ∈ lw_g := mem_g 578 (by decide +kernel)
theorem q513 : (Jvm.Cond.code ({ cls := "jdk/internal/util/ArraysSupport", name := "hugeLength", desc := "(II)I" } : Jvm.MethodName) prog_20_method_28_code (3 : Nat) (Option.some Jvm.ClassFile.FieldType.int)) ∈ lw_g := mem_g 579 (by decide +kernel)
theorem q514 : (Jvm.Cond.constant "java/lang/AbstractStringBuilder" (39 : Nat) (2147483647 : Int32)) ∈ lw_g := mem_g 580 (by decide +kernel)
theorem q515 : (Jvm.Cond.methodLink "java/lang/AbstractStringBuilder" (108 : Nat) ({ cls := "java/util/Arrays", name := "copyOf", desc := "([BI)[B" } : Jvm.MethodName)) ∈ lw_g := mem_g 581 (by decide +kernel)
theorem q516 : (Jvm.Cond.static ({ cls := "java/util/Arrays", name := "copyOf", desc := "([BI)[B" } : Jvm.MethodName)) ∈ lw_g := mem_g 582 (by decide +kernel)
theorem q517 : (Jvm.Cond.code ({ cls := "java/util/Arrays", name := "copyOf", desc := "([BI)[B" } : Jvm.MethodName) prog_19_method_121_code (3 : Nat) (Option.some (Jvm.ClassFile.FieldType.array Jvm.ClassFile.FieldType.byte))) ∈ lw_g := mem_g 583 (by decide +kernel)
theorem q518 : (Jvm.Cond.methodLink "java/util/Arrays" (310 : Nat) ({ cls := "[B", name := "clone", desc := "()Ljava/lang/Object;" } : Jvm.MethodName)) ∈ lw_g := mem_g 584 (by decide +kernel)
theorem q519 : (Jvm.Cond.sameMethod "[B" "java/lang/Object" "clone" "()Ljava/lang/Object;") ∈ lw_g := mem_g 585 (by decide +kernel)
theorem q520 : (Jvm.Cond.native ({ cls := "java/lang/Object", name := "clone", desc := "()Ljava/lang/Object;" } : Jvm.MethodName)) ∈ lw_g := mem_g 586 (by decide +kernel)
theorem q521 : (Jvm.Cond.instanceMethod ({ cls := "java/lang/Object", name := "clone", desc := "()Ljava/lang/Object;" } : Jvm.MethodName)) ∈ lw_g := mem_g 587 (by decide +kernel)
theorem q522 : (Jvm.Cond.selects "[B" ({ cls := "[B", name := "clone", desc := "()Ljava/lang/Object;" } : Jvm.MethodName) ({ cls := "java/lang/Object", name := "clone", desc := "()Ljava/lang/Object;" } : Jvm.MethodName)) ∈ lw_g := mem_g 588 (by decide +kernel)
theorem q524 : (Jvm.Cond.classLink "java/util/Arrays" (311 : Nat) "[B") ∈ lw_g := mem_g 590 (by decide +kernel)
theorem q525 : (Jvm.Cond.methodLink "java/util/Arrays" (304 : Nat) ({ cls := "java/lang/Math", name := "min", desc := "(II)I" } : Jvm.MethodName)) ∈ lw_g := mem_g 591 (by decide +kernel)
theorem q526 : (Jvm.Cond.methodLink "java/util/Arrays" (150 : Nat) ({ cls := "java/lang/System", name := "arraycopy", desc := "(Ljava/lang/Object;ILjava/lang/Object;II)V" } : Jvm.MethodName)) ∈ lw_g := mem_g 592 (by decide +kernel)
theorem q527 : (Jvm.Cond.methodLink "java/lang/AbstractStringBuilder" (83 : Nat) ({ cls := "java/lang/AbstractStringBuilder", name := "isLatin1", desc := "()Z" } : Jvm.MethodName)) ∈ lw_g := mem_g 593 (by decide +kernel)
theorem q528 : (Jvm.Cond.instanceMethod ({ cls := "java/lang/AbstractStringBuilder", name := "isLatin1", desc := "()Z" } : Jvm.MethodName)) ∈ lw_g := mem_g 594 (by decide +kernel)
theorem q529 : (Jvm.Cond.sameMethod "java/lang/AbstractStringBuilder" "java/lang/AbstractStringBuilder" "isLatin1" "()Z") ∈ lw_g := mem_g 595 (by decide +kernel)
theorem q530 : (Jvm.Cond.selects "java/lang/StringBuilder" ({ cls := "java/lang/AbstractStringBuilder", name := "isLatin1", desc := "()Z" } : Jvm.MethodName) ({ cls := "java/lang/AbstractStringBuilder", name := "isLatin1", desc := "()Z" } : Jvm.MethodName)) ∈ lw_g := mem_g 596 (by decide +kernel)
theorem q531 : (Jvm.Cond.code ({ cls := "java/lang/AbstractStringBuilder", name := "isLatin1", desc := "()Z" } : Jvm.MethodName) prog_11_method_68_code (1 : Nat) (Option.some Jvm.ClassFile.FieldType.boolean)) ∈ lw_g := mem_g 597 (by decide +kernel)
theorem q532 : (Jvm.Cond.methodLink "java/lang/AbstractStringBuilder" (191 : Nat) ({ cls := "java/lang/StringLatin1", name := "canEncode", desc := "(C)Z" } : Jvm.MethodName)) ∈ lw_g := mem_g 598 (by decide +kernel)
theorem q533 : (Jvm.Cond.static ({ cls := "java/lang/StringLatin1", name := "canEncode", desc := "(C)Z" } : Jvm.MethodName)) ∈ lw_g := mem_g 599 (by decide +kernel)
theorem q534 : (Jvm.Cond.code ({ cls := "java/lang/StringLatin1", name := "canEncode", desc := "(C)Z" } : Jvm.MethodName) prog_16_method_3_code (1 : Nat) (Option.some Jvm.ClassFile.FieldType.boolean)) ∈ lw_g := mem_g 600 (by decide +kernel)
theorem q535 : (Jvm.Cond.methodLink "java/lang/AbstractStringBuilder" (195 : Nat) ({ cls := "java/lang/AbstractStringBuilder", name := "inflate", desc := "()V" } : Jvm.MethodName)) ∈ lw_g := mem_g 601 (by decide +kernel)
theorem q537 : (Jvm.Cond.instanceMethod ({ cls := "java/lang/AbstractStringBuilder", name := "inflate", desc := "()V" } : Jvm.MethodName)) ∈ lw_g := mem_g 603 (by decide +kernel)
theorem q538 : (Jvm.Cond.code ({ cls := "java/lang/AbstractStringBuilder", name := "inflate", desc := "()V" } : Jvm.MethodName) prog_11_method_11_code (2 : Nat) (Option.none : Option Jvm.ClassFile.FieldType)) ∈ lw_g := mem_g 604 (by decide +kernel)
theorem q539 : (Jvm.Cond.methodLink "java/lang/AbstractStringBuilder" (125 : Nat) ({ cls := "java/lang/StringLatin1", name := "inflate", desc := "([BI[BII)V" } : Jvm.MethodName)) ∈ lw_g := mem_g 605 (by decide +kernel)
theorem q540 : (Jvm.Cond.static ({ cls := "java/lang/StringLatin1", name := "inflate", desc := "([BI[BII)V" } : Jvm.MethodName)) ∈ lw_g := mem_g 606 (by decide +kernel)
theorem q541 : (Jvm.Cond.code ({ cls := "java/lang/StringLatin1", name := "inflate", desc := "([BI[BII)V" } : Jvm.MethodName) prog_16_method_50_code (5 : Nat) (Option.none : Option Jvm.ClassFile.FieldType)) ∈ lw_g := mem_g 607 (by decide +kernel)
theorem q542 : (Jvm.Cond.methodLink "java/lang/StringLatin1" (240 : Nat) ({ cls := "java/lang/StringUTF16", name := "inflate", desc := "([BI[BII)V" } : Jvm.MethodName)) ∈ lw_g := mem_g 608 (by decide +kernel)
theorem q543 : (Jvm.Cond.static ({ cls := "java/lang/StringUTF16", name := "inflate", desc := "([BI[BII)V" } : Jvm.MethodName)) ∈ lw_g := mem_g 609 (by decide +kernel)
theorem q544 : (Jvm.Cond.code ({ cls := "java/lang/StringUTF16", name := "inflate", desc := "([BI[BII)V" } : Jvm.MethodName) prog_17_method_86_code (6 : Nat) (Option.none : Option Jvm.ClassFile.FieldType)) ∈ lw_g := mem_g 610 (by decide +kernel)
theorem q545 : (Jvm.Cond.methodLink "java/lang/StringUTF16" (173 : Nat) ({ cls := "java/lang/StringUTF16", name := "checkBoundsOffCount", desc := "(II[B)V" } : Jvm.MethodName)) ∈ lw_g := mem_g 611 (by decide +kernel)
theorem q546 : (Jvm.Cond.static ({ cls := "java/lang/StringUTF16", name := "checkBoundsOffCount", desc := "(II[B)V" } : Jvm.MethodName)) ∈ lw_g := mem_g 612 (by decide +kernel)
theorem q547 : (Jvm.Cond.code ({ cls := "java/lang/StringUTF16", name := "checkBoundsOffCount", desc := "(II[B)V" } : Jvm.MethodName) prog_17_method_94_code (3 : Nat) (Option.none : Option Jvm.ClassFile.FieldType)) ∈ lw_g := mem_g 613 (by decide +kernel)
theorem q548 : (Jvm.Cond.methodLink "java/lang/StringUTF16" (48 : Nat) ({ cls := "java/lang/StringUTF16", name := "length", desc := "([B)I" } : Jvm.MethodName)) ∈ lw_g := mem_g 614 (by decide +kernel)
theorem q549 : (Jvm.Cond.static ({ cls := "java/lang/StringUTF16", name := "length", desc := "([B)I" } : Jvm.MethodName)) ∈ lw_g := mem_g 615 (by decide +kernel)
theorem q550 : (Jvm.Cond.code ({ cls := "java/lang/StringUTF16", name := "length", desc := "([B)I" } : Jvm.MethodName) prog_17_method_6_code (1 : Nat) (Option.some Jvm.ClassFile.FieldType.int)) ∈ lw_g := mem_g 616 (by decide +kernel)
theorem q551 : (Jvm.Cond.methodLink "java/lang/StringUTF16" (419 : Nat) ({ cls := "java/lang/String", name := "checkBoundsOffCount", desc := "(III)I" } : Jvm.MethodName)) ∈ lw_g := mem_g 617 (by decide +kernel)
theorem q552 : (Jvm.Cond.static ({ cls := "java/lang/String", name := "checkBoundsOffCount", desc := "(III)I" } : Jvm.MethodName)) ∈ lw_g := mem_g 618 (by decide +kernel)
theorem q553 : (Jvm.Cond.code ({ cls := "java/lang/String", name := "checkBoundsOffCount", desc := "(III)I" } : Jvm.MethodName) prog_14_method_157_code (3 : Nat) (Option.some Jvm.ClassFile.FieldType.int)) ∈ lw_g := mem_g 619 (by decide +kernel)
theorem q554 : (Jvm.Cond.fieldLink "java/lang/String" (1053 : Nat) "jdk/internal/util/Preconditions" "SIOOBE_FORMATTER" "Ljava/util/function/BiFunction;") ∈ lw_g := mem_g 620 (by decide +kernel)
theorem q556 : (Jvm.Cond.methodLink "java/lang/String" (1065 : Nat) ({ cls := "jdk/internal/util/Preconditions", name := "checkFromIndexSize", desc := "(IIILjava/util/function/BiFunction;)I" } : Jvm.MethodName)) ∈ lw_g := mem_g 622 (by decide +kernel)
theorem q557 : (Jvm.Cond.static ({ cls := "jdk/internal/util/Preconditions", name := "checkFromIndexSize", desc := "(IIILjava/util/function/BiFunction;)I" } : Jvm.MethodName)) ∈ lw_g := mem_g 623 (by decide +kernel)
theorem q558 : (Jvm.Cond.code ({ cls := "jdk/internal/util/Preconditions", name := "checkFromIndexSize", desc := "(IIILjava/util/function/BiFunction;)I" } : Jvm.MethodName) prog_21_method_13_code (4 : Nat) (Option.some Jvm.ClassFile.FieldType.int)) ∈ lw_g := mem_g 624 (by decide +kernel)
theorem q559 : (Jvm.Cond.methodLink "java/lang/StringUTF16" (111 : Nat) ({ cls := "java/lang/StringUTF16", name := "putChar", desc := "([BII)V" } : Jvm.MethodName)) ∈ lw_g := mem_g 625 (by decide +kernel)
theorem q560 : (Jvm.Cond.static ({ cls := "java/lang/StringUTF16", name := "putChar", desc := "([BII)V" } : Jvm.MethodName)) ∈ lw_g := mem_g 626 (by decide +kernel)
theorem q561 : (Jvm.Cond.code ({ cls := "java/lang/StringUTF16", name := "putChar", desc := "([BII)V" } : Jvm.MethodName) prog_17_method_4_code (3 : Nat) (Option.none : Option Jvm.ClassFile.FieldType)) ∈ lw_g := mem_g 627 (by decide +kernel)
theorem q562 : (Jvm.Cond.fieldLink "java/lang/StringUTF16" (44 : Nat) "java/lang/StringUTF16" "$assertionsDisabled" "Z") ∈ lw_g := mem_g 628 (by decide +kernel)
theorem q564 : (Jvm.Cond.fieldLink "java/lang/StringUTF16" (59 : Nat) "java/lang/StringUTF16" "HI_BYTE_SHIFT" "I") ∈ lw_g := mem_g 630 (by decide +kernel)
theorem q566 : (Jvm.Cond.fieldLink "java/lang/StringUTF16" (63 : Nat) "java/lang/StringUTF16" "LO_BYTE_SHIFT" "I") ∈ lw_g := mem_g 632 (by decide +kernel)
theorem q568 : (Jvm.Cond.methodLink "java/lang/AbstractStringBuilder" (197 : Nat) ({ cls := "java/lang/StringUTF16", name := "putCharSB", desc := "([BII)V" } : Jvm.MethodName)) ∈ lw_g := mem_g 634 (by decide +kernel)
theorem q569 : (Jvm.Cond.static ({ cls := "java/lang/StringUTF16", name := "putCharSB", desc := "([BII)V" } : Jvm.MethodName)) ∈ lw_g := mem_g 635 (by decide +kernel)
theorem q570 : (Jvm.Cond.code ({ cls := "java/lang/StringUTF16", name := "putCharSB", desc := "([BII)V" } : Jvm.MethodName) prog_17_method_71_code (3 : Nat) (Option.none : Option Jvm.ClassFile.FieldType)) ∈ lw_g := mem_g 636 (by decide +kernel)
theorem q571 : (Jvm.Cond.methodLink "java/lang/StringUTF16" (67 : Nat) ({ cls := "java/lang/StringUTF16", name := "checkIndex", desc := "(I[B)V" } : Jvm.MethodName)) ∈ lw_g := mem_g 637 (by decide +kernel)
theorem q572 : (Jvm.Cond.static ({ cls := "java/lang/StringUTF16", name := "checkIndex", desc := "(I[B)V" } : Jvm.MethodName)) ∈ lw_g := mem_g 638 (by decide +kernel)
theorem q573 : (Jvm.Cond.code ({ cls := "java/lang/StringUTF16", name := "checkIndex", desc := "(I[B)V" } : Jvm.MethodName) prog_17_method_91_code (2 : Nat) (Option.none : Option Jvm.ClassFile.FieldType)) ∈ lw_g := mem_g 639 (by decide +kernel)
theorem q574 : (Jvm.Cond.methodLink "java/lang/StringUTF16" (414 : Nat) ({ cls := "java/lang/String", name := "checkIndex", desc := "(II)V" } : Jvm.MethodName)) ∈ lw_g := mem_g 640 (by decide +kernel)
theorem q575 : (Jvm.Cond.static ({ cls := "java/lang/String", name := "checkIndex", desc := "(II)V" } : Jvm.MethodName)) ∈ lw_g := mem_g 641 (by decide +kernel)
theorem q576 : (Jvm.Cond.code ({ cls := "java/lang/String", name := "checkIndex", desc := "(II)V" } : Jvm.MethodName) prog_14_method_155_code (2 : Nat) (Option.none : Option Jvm.ClassFile.FieldType)) ∈ lw_g := mem_g 642 (by decide +kernel)
theorem q577 : (Jvm.Cond.methodLink "java/lang/String" (1059 : Nat) ({ cls := "jdk/internal/util/Preconditions", name := "checkIndex", desc := "(IILjava/util/function/BiFunction;)I" } : Jvm.MethodName)) ∈ lw_g := mem_g 643 (by decide +kernel)
theorem q578 : (Jvm.Cond.static ({ cls := "jdk/internal/util/Preconditions", name := "checkIndex", desc := "(IILjava/util/function/BiFunction;)I" } : Jvm.MethodName)) ∈ lw_g := mem_g 644 (by decide +kernel)
theorem q579 : (Jvm.Cond.code ({ cls := "jdk/internal/util/Preconditions", name := "checkIndex", desc := "(IILjava/util/function/BiFunction;)I" } : Jvm.MethodName) prog_21_method_11_code (3 : Nat) (Option.some Jvm.ClassFile.FieldType.int)) ∈ lw_g := mem_g 645 (by decide +kernel)
theorem q580 : (Jvm.Cond.methodLink "RegattaTimesLaw" (78 : Nat) ({ cls := "RegattaTimes", name := "clearText", desc := "()I" } : Jvm.MethodName)) ∈ lw_g := mem_g 646 (by decide +kernel)
theorem q581 : (Jvm.Cond.instanceMethod ({ cls := "RegattaTimes", name := "clearText", desc := "()I" } : Jvm.MethodName)) ∈ lw_g := mem_g 647 (by decide +kernel)
theorem q582 : (Jvm.Cond.selects "RegattaTimes" ({ cls := "RegattaTimes", name := "clearText", desc := "()I" } : Jvm.MethodName) ({ cls := "RegattaTimes", name := "clearText", desc := "()I" } : Jvm.MethodName)) ∈ lw_g := mem_g 648 (by decide +kernel)
theorem q583 : (Jvm.Cond.code ({ cls := "RegattaTimes", name := "clearText", desc := "()I" } : Jvm.MethodName) prog_1_method_17_code (1 : Nat) (Option.some Jvm.ClassFile.FieldType.int)) ∈ lw_g := mem_g 649 (by decide +kernel)
theorem q584 : (Jvm.Cond.methodLink "RegattaTimes" (122 : Nat) ({ cls := "RegattaTimes$Log", name := "empty", desc := "()I" } : Jvm.MethodName)) ∈ lw_g := mem_g 650 (by decide +kernel)
theorem q585 : (Jvm.Cond.instanceMethod ({ cls := "RegattaTimes$Log", name := "empty", desc := "()I" } : Jvm.MethodName)) ∈ lw_g := mem_g 651 (by decide +kernel)
theorem q586 : (Jvm.Cond.selects "RegattaTimes$Log" ({ cls := "RegattaTimes$Log", name := "empty", desc := "()I" } : Jvm.MethodName) ({ cls := "RegattaTimes$Log", name := "empty", desc := "()I" } : Jvm.MethodName)) ∈ lw_g := mem_g 652 (by decide +kernel)
theorem q587 : (Jvm.Cond.code ({ cls := "RegattaTimes$Log", name := "empty", desc := "()I" } : Jvm.MethodName) prog_5_method_3_code (2 : Nat) (Option.some Jvm.ClassFile.FieldType.int)) ∈ lw_g := mem_g 653 (by decide +kernel)
theorem q588 : (Jvm.Cond.methodLink "RegattaTimes$Log" (26 : Nat) ({ cls := "java/lang/StringBuilder", name := "setLength", desc := "(I)V" } : Jvm.MethodName)) ∈ lw_g := mem_g 654 (by decide +kernel)
theorem q589 : (Jvm.Cond.instanceMethod ({ cls := "java/lang/StringBuilder", name := "setLength", desc := "(I)V" } : Jvm.MethodName)) ∈ lw_g := mem_g 655 (by decide +kernel)
theorem q590 : (Jvm.Cond.selects "java/lang/StringBuilder" ({ cls := "java/lang/StringBuilder", name := "setLength", desc := "(I)V" } : Jvm.MethodName) ({ cls := "java/lang/StringBuilder", name := "setLength", desc := "(I)V" } : Jvm.MethodName)) ∈ lw_g := mem_g 656 (by decide +kernel)
theorem q591 : (Jvm.Cond.code ({ cls := "java/lang/StringBuilder", name := "setLength", desc := "(I)V" } : Jvm.MethodName) prog_15_method_89_code (2 : Nat) (Option.none : Option Jvm.ClassFile.FieldType)) ∈ lw_g := mem_g 657 (by decide +kernel)
theorem q592 : (Jvm.Cond.methodLink "java/lang/StringBuilder" (333 : Nat) ({ cls := "java/lang/AbstractStringBuilder", name := "setLength", desc := "(I)V" } : Jvm.MethodName)) ∈ lw_g := mem_g 658 (by decide +kernel)
theorem q593 : (Jvm.Cond.instanceMethod ({ cls := "java/lang/AbstractStringBuilder", name := "setLength", desc := "(I)V" } : Jvm.MethodName)) ∈ lw_g := mem_g 659 (by decide +kernel)
theorem q594 : (Jvm.Cond.code ({ cls := "java/lang/AbstractStringBuilder", name := "setLength", desc := "(I)V" } : Jvm.MethodName) prog_11_method_13_code (2 : Nat) (Option.none : Option Jvm.ClassFile.FieldType)) ∈ lw_g := mem_g 660 (by decide +kernel)
theorem q595 : (Jvm.Cond.methodLink "java/lang/AbstractStringBuilder" (133 : Nat) ({ cls := "java/lang/StringLatin1", name := "fillNull", desc := "([BII)V" } : Jvm.MethodName)) ∈ lw_g := mem_g 661 (by decide +kernel)
theorem q596 : (Jvm.Cond.static ({ cls := "java/lang/StringLatin1", name := "fillNull", desc := "([BII)V" } : Jvm.MethodName)) ∈ lw_g := mem_g 662 (by decide +kernel)
theorem q597 : (Jvm.Cond.code ({ cls := "java/lang/StringLatin1", name := "fillNull", desc := "([BII)V" } : Jvm.MethodName) prog_16_method_48_code (3 : Nat) (Option.none : Option Jvm.ClassFile.FieldType)) ∈ lw_g := mem_g 663 (by decide +kernel)
theorem q598 : (Jvm.Cond.methodLink "java/lang/StringLatin1" (236 : Nat) ({ cls := "java/util/Arrays", name := "fill", desc := "([BIIB)V" } : Jvm.MethodName)) ∈ lw_g := mem_g 664 (by decide +kernel)
theorem q599 : (Jvm.Cond.static ({ cls := "java/util/Arrays", name := "fill", desc := "([BIIB)V" } : Jvm.MethodName)) ∈ lw_g := mem_g 665 (by decide +kernel)
theorem q600 : (Jvm.Cond.code ({ cls := "java/util/Arrays", name := "fill", desc := "([BIIB)V" } : Jvm.MethodName) prog_19_method_110_code (5 : Nat) (Option.none : Option Jvm.ClassFile.FieldType)) ∈ lw_g := mem_g 666 (by decide +kernel)
theorem q601 : (Jvm.Cond.methodLink "java/util/Arrays" (13 : Nat) ({ cls := "java/util/Arrays", name := "rangeCheck", desc := "(III)V" } : Jvm.MethodName)) ∈ lw_g := mem_g 667 (by decide +kernel)
theorem q602 : (Jvm.Cond.static ({ cls := "java/util/Arrays", name := "rangeCheck", desc := "(III)V" } : Jvm.MethodName)) ∈ lw_g := mem_g 668 (by decide +kernel)
theorem q603 : (Jvm.Cond.code ({ cls := "java/util/Arrays", name := "rangeCheck", desc := "(III)V" } : Jvm.MethodName) prog_19_method_30_code (3 : Nat) (Option.none : Option Jvm.ClassFile.FieldType)) ∈ lw_g := mem_g 669 (by decide +kernel)
theorem q604 : (Jvm.Cond.methodLink "java/lang/AbstractStringBuilder" (137 : Nat) ({ cls := "java/lang/StringUTF16", name := "fillNull", desc := "([BII)V" } : Jvm.MethodName)) ∈ lw_g := mem_g 670 (by decide +kernel)
theorem q605 : (Jvm.Cond.static ({ cls := "java/lang/StringUTF16", name := "fillNull", desc := "([BII)V" } : Jvm.MethodName)) ∈ lw_g := mem_g 671 (by decide +kernel)
theorem q606 : (Jvm.Cond.code ({ cls := "java/lang/StringUTF16", name := "fillNull", desc := "([BII)V" } : Jvm.MethodName) prog_17_method_70_code (3 : Nat) (Option.none : Option Jvm.ClassFile.FieldType)) ∈ lw_g := mem_g 672 (by decide +kernel)
theorem q607 : (Jvm.Cond.methodLink "java/lang/StringUTF16" (380 : Nat) ({ cls := "java/util/Arrays", name := "fill", desc := "([BIIB)V" } : Jvm.MethodName)) ∈ lw_g := mem_g 673 (by decide +kernel)
theorem q608 : (Jvm.Cond.methodLink "RegattaTimesLaw" (82 : Nat) ({ cls := "RegattaTimes", name := "fault", desc := "()I" } : Jvm.MethodName)) ∈ lw_g := mem_g 674 (by decide +kernel)
theorem q609 : (Jvm.Cond.instanceMethod ({ cls := "RegattaTimes", name := "fault", desc := "()I" } : Jvm.MethodName)) ∈ lw_g := mem_g 675 (by decide +kernel)
theorem q610 : (Jvm.Cond.selects "RegattaTimes" ({ cls := "RegattaTimes", name := "fault", desc := "()I" } : Jvm.MethodName) ({ cls := "RegattaTimes", name := "fault", desc := "()I" } : Jvm.MethodName)) ∈ lw_g := mem_g 676 (by decide +kernel)
theorem q611 : (Jvm.Cond.code ({ cls := "RegattaTimes", name := "fault", desc := "()I" } : Jvm.MethodName) prog_1_method_18_code (1 : Nat) (Option.some Jvm.ClassFile.FieldType.int)) ∈ lw_g := mem_g 677 (by decide +kernel)
theorem q612 : (Jvm.Cond.methodLink "RegattaTimes" (125 : Nat) ({ cls := "RegattaTimes$Log", name := "firstFault", desc := "()I" } : Jvm.MethodName)) ∈ lw_g := mem_g 678 (by decide +kernel)
theorem q613 : (Jvm.Cond.instanceMethod ({ cls := "RegattaTimes$Log", name := "firstFault", desc := "()I" } : Jvm.MethodName)) ∈ lw_g := mem_g 679 (by decide +kernel)
theorem q614 : (Jvm.Cond.selects "RegattaTimes$Log" ({ cls := "RegattaTimes$Log", name := "firstFault", desc := "()I" } : Jvm.MethodName) ({ cls := "RegattaTimes$Log", name := "firstFault", desc := "()I" } : Jvm.MethodName)) ∈ lw_g := mem_g 680 (by decide +kernel)
theorem q615 : (Jvm.Cond.code ({ cls := "RegattaTimes$Log", name := "firstFault", desc := "()I" } : Jvm.MethodName) prog_5_method_9_code (3 : Nat) (Option.some Jvm.ClassFile.FieldType.int)) ∈ lw_g := mem_g 681 (by decide +kernel)
theorem q616 : (Jvm.Cond.methodLink "RegattaTimes$Log" (30 : Nat) ({ cls := "java/lang/StringBuilder", name := "charAt", desc := "(I)C" } : Jvm.MethodName)) ∈ lw_g := mem_g 682 (by decide +kernel)
theorem q617 : (Jvm.Cond.instanceMethod ({ cls := "java/lang/StringBuilder", name := "charAt", desc := "(I)C" } : Jvm.MethodName)) ∈ lw_g := mem_g 683 (by decide +kernel)
theorem q618 : (Jvm.Cond.selects "java/lang/StringBuilder" ({ cls := "java/lang/StringBuilder", name := "charAt", desc := "(I)C" } : Jvm.MethodName) ({ cls := "java/lang/StringBuilder", name := "charAt", desc := "(I)C" } : Jvm.MethodName)) ∈ lw_g := mem_g 684 (by decide +kernel)
theorem q619 : (Jvm.Cond.code ({ cls := "java/lang/StringBuilder", name := "charAt", desc := "(I)C" } : Jvm.MethodName) prog_15_method_88_code (2 : Nat) (Option.some Jvm.ClassFile.FieldType.char)) ∈ lw_g := mem_g 685 (by decide +kernel)
theorem q620 : (Jvm.Cond.methodLink "java/lang/StringBuilder" (329 : Nat) ({ cls := "java/lang/AbstractStringBuilder", name := "charAt", desc := "(I)C" } : Jvm.MethodName)) ∈ lw_g := mem_g 686 (by decide +kernel)
theorem q621 : (Jvm.Cond.instanceMethod ({ cls := "java/lang/AbstractStringBuilder", name := "charAt", desc := "(I)C" } : Jvm.MethodName)) ∈ lw_g := mem_g 687 (by decide +kernel)
theorem q622 : (Jvm.Cond.code ({ cls := "java/lang/AbstractStringBuilder", name := "charAt", desc := "(I)C" } : Jvm.MethodName) prog_11_method_14_code (5 : Nat) (Option.some Jvm.ClassFile.FieldType.char)) ∈ lw_g := mem_g 688 (by decide +kernel)
theorem q623 : (Jvm.Cond.methodLink "java/lang/AbstractStringBuilder" (138 : Nat) ({ cls := "java/lang/Math", name := "min", desc := "(II)I" } : Jvm.MethodName)) ∈ lw_g := mem_g 689 (by decide +kernel)
theorem q624 : (Jvm.Cond.methodLink "java/lang/AbstractStringBuilder" (144 : Nat) ({ cls := "java/lang/String", name := "checkIndex", desc := "(II)V" } : Jvm.MethodName)) ∈ lw_g := mem_g 690 (by decide +kernel)
theorem q625 : (Jvm.Cond.methodLink "java/lang/AbstractStringBuilder" (148 : Nat) ({ cls := "java/lang/StringUTF16", name := "getChar", desc := "([BI)C" } : Jvm.MethodName)) ∈ lw_g := mem_g 691 (by decide +kernel)
theorem q626 : (Jvm.Cond.static ({ cls := "java/lang/StringUTF16", name := "getChar", desc := "([BI)C" } : Jvm.MethodName)) ∈ lw_g := mem_g 692 (by decide +kernel)
theorem q627 : (Jvm.Cond.code ({ cls := "java/lang/StringUTF16", name := "getChar", desc := "([BI)C" } : Jvm.MethodName) prog_17_method_5_code (2 : Nat) (Option.some Jvm.ClassFile.FieldType.char)) ∈ lw_g := mem_g 693 (by decide +kernel)
theorem q628 : (Jvm.Cond.methodLink "RegattaTimes$Log" (41 : Nat) ({ cls := "RegattaTimes$Log", name := "expectedAfter", desc := "(IC)I" } : Jvm.MethodName)) ∈ lw_g := mem_g 694 (by decide +kernel)
theorem q630 : (Jvm.Cond.instanceMethod ({ cls := "RegattaTimes$Log", name := "expectedAfter", desc := "(IC)I" } : Jvm.MethodName)) ∈ lw_g := mem_g 696 (by decide +kernel)
theorem q631 : (Jvm.Cond.code ({ cls := "RegattaTimes$Log", name := "expectedAfter", desc := "(IC)I" } : Jvm.MethodName) prog_5_method_11_code (3 : Nat) (Option.some Jvm.ClassFile.FieldType.int)) ∈ lw_g := mem_g 697 (by decide +kernel)
theorem q632 : (Jvm.Cond.methodLink "RegattaTimes$Log" (49 : Nat) ({ cls := "RegattaTimes$Log", name := "expectedAfterLetter", desc := "(C)I" } : Jvm.MethodName)) ∈ lw_g := mem_g 698 (by decide +kernel)
theorem q634 : (Jvm.Cond.instanceMethod ({ cls := "RegattaTimes$Log", name := "expectedAfterLetter", desc := "(C)I" } : Jvm.MethodName)) ∈ lw_g := mem_g 700 (by decide +kernel)
theorem q635 : (Jvm.Cond.code ({ cls := "RegattaTimes$Log", name := "expectedAfterLetter", desc := "(C)I" } : Jvm.MethodName) prog_5_method_12_code (2 : Nat) (Option.some Jvm.ClassFile.FieldType.int)) ∈ lw_g := mem_g 701 (by decide +kernel)
theorem q636 : (Jvm.Cond.methodLink "RegattaTimes$Log" (53 : Nat) ({ cls := "RegattaTimes$Log", name := "isIn", desc := "(CCC)Z" } : Jvm.MethodName)) ∈ lw_g := mem_g 702 (by decide +kernel)
theorem q638 : (Jvm.Cond.instanceMethod ({ cls := "RegattaTimes$Log", name := "isIn", desc := "(CCC)Z" } : Jvm.MethodName)) ∈ lw_g := mem_g 704 (by decide +kernel)
theorem q639 : (Jvm.Cond.code ({ cls := "RegattaTimes$Log", name := "isIn", desc := "(CCC)Z" } : Jvm.MethodName) prog_5_method_14_code (4 : Nat) (Option.some Jvm.ClassFile.FieldType.boolean)) ∈ lw_g := mem_g 705 (by decide +kernel)
theorem q640 : (Jvm.Cond.methodLink "RegattaTimes$Log" (57 : Nat) ({ cls := "RegattaTimes$Log", name := "expectedAfterEvent", desc := "(C)I" } : Jvm.MethodName)) ∈ lw_g := mem_g 706 (by decide +kernel)
theorem q642 : (Jvm.Cond.instanceMethod ({ cls := "RegattaTimes$Log", name := "expectedAfterEvent", desc := "(C)I" } : Jvm.MethodName)) ∈ lw_g := mem_g 708 (by decide +kernel)
theorem q643 : (Jvm.Cond.code ({ cls := "RegattaTimes$Log", name := "expectedAfterEvent", desc := "(C)I" } : Jvm.MethodName) prog_5_method_13_code (2 : Nat) (Option.some Jvm.ClassFile.FieldType.int)) ∈ lw_g := mem_g 709 (by decide +kernel)
theorem q644 : (Jvm.Cond.methodLink "RegattaTimes$Log" (45 : Nat) ({ cls := "RegattaTimes$Log", name := "canEnd", desc := "(I)Z" } : Jvm.MethodName)) ∈ lw_g := mem_g 710 (by decide +kernel)
theorem q646 : (Jvm.Cond.instanceMethod ({ cls := "RegattaTimes$Log", name := "canEnd", desc := "(I)Z" } : Jvm.MethodName)) ∈ lw_g := mem_g 712 (by decide +kernel)
theorem q647 : (Jvm.Cond.code ({ cls := "RegattaTimes$Log", name := "canEnd", desc := "(I)Z" } : Jvm.MethodName) prog_5_method_10_code (2 : Nat) (Option.some Jvm.ClassFile.FieldType.boolean)) ∈ lw_g := mem_g 713 (by decide +kernel)
theorem q648 : (Jvm.Cond.methodLink "RegattaTimesLaw" (86 : Nat) ({ cls := "RegattaTimes", name := "run", desc := "()I" } : Jvm.MethodName)) ∈ lw_g := mem_g 714 (by decide +kernel)
theorem q649 : (Jvm.Cond.instanceMethod ({ cls := "RegattaTimes", name := "run", desc := "()I" } : Jvm.MethodName)) ∈ lw_g := mem_g 715 (by decide +kernel)
theorem q650 : (Jvm.Cond.selects "RegattaTimes" ({ cls := "RegattaTimes", name := "run", desc := "()I" } : Jvm.MethodName) ({ cls := "RegattaTimes", name := "run", desc := "()I" } : Jvm.MethodName)) ∈ lw_g := mem_g 716 (by decide +kernel)
theorem q651 : (Jvm.Cond.code ({ cls := "RegattaTimes", name := "run", desc := "()I" } : Jvm.MethodName) prog_1_method_19_code (5 : Nat) (Option.some Jvm.ClassFile.FieldType.int)) ∈ lw_g := mem_g 717 (by decide +kernel)
theorem q652 : (Jvm.Cond.methodLink "RegattaTimes" (128 : Nat) ({ cls := "RegattaTimes$Log", name := "length", desc := "()I" } : Jvm.MethodName)) ∈ lw_g := mem_g 718 (by decide +kernel)
theorem q653 : (Jvm.Cond.instanceMethod ({ cls := "RegattaTimes$Log", name := "length", desc := "()I" } : Jvm.MethodName)) ∈ lw_g := mem_g 719 (by decide +kernel)
theorem q654 : (Jvm.Cond.selects "RegattaTimes$Log" ({ cls := "RegattaTimes$Log", name := "length", desc := "()I" } : Jvm.MethodName) ({ cls := "RegattaTimes$Log", name := "length", desc := "()I" } : Jvm.MethodName)) ∈ lw_g := mem_g 720 (by decide +kernel)
theorem q655 : (Jvm.Cond.code ({ cls := "RegattaTimes$Log", name := "length", desc := "()I" } : Jvm.MethodName) prog_5_method_4_code (1 : Nat) (Option.some Jvm.ClassFile.FieldType.int)) ∈ lw_g := mem_g 721 (by decide +kernel)
theorem q656 : (Jvm.Cond.methodLink "RegattaTimes" (131 : Nat) ({ cls := "RegattaTimes$Log", name := "endsEvent", desc := "(I)Z" } : Jvm.MethodName)) ∈ lw_g := mem_g 722 (by decide +kernel)
theorem q657 : (Jvm.Cond.instanceMethod ({ cls := "RegattaTimes$Log", name := "endsEvent", desc := "(I)Z" } : Jvm.MethodName)) ∈ lw_g := mem_g 723 (by decide +kernel)
theorem q658 : (Jvm.Cond.selects "RegattaTimes$Log" ({ cls := "RegattaTimes$Log", name := "endsEvent", desc := "(I)Z" } : Jvm.MethodName) ({ cls := "RegattaTimes$Log", name := "endsEvent", desc := "(I)Z" } : Jvm.MethodName)) ∈ lw_g := mem_g 724 (by decide +kernel)
theorem q659 : (Jvm.Cond.code ({ cls := "RegattaTimes$Log", name := "endsEvent", desc := "(I)Z" } : Jvm.MethodName) prog_5_method_6_code (2 : Nat) (Option.some Jvm.ClassFile.FieldType.boolean)) ∈ lw_g := mem_g 725 (by decide +kernel)
theorem q660 : (Jvm.Cond.methodLink "RegattaTimes$Log" (34 : Nat) ({ cls := "RegattaTimes$Log", name := "signAt", desc := "(I)C" } : Jvm.MethodName)) ∈ lw_g := mem_g 726 (by decide +kernel)
theorem q661 : (Jvm.Cond.instanceMethod ({ cls := "RegattaTimes$Log", name := "signAt", desc := "(I)C" } : Jvm.MethodName)) ∈ lw_g := mem_g 727 (by decide +kernel)
theorem q662 : (Jvm.Cond.selects "RegattaTimes$Log" ({ cls := "RegattaTimes$Log", name := "signAt", desc := "(I)C" } : Jvm.MethodName) ({ cls := "RegattaTimes$Log", name := "signAt", desc := "(I)C" } : Jvm.MethodName)) ∈ lw_g := mem_g 728 (by decide +kernel)
theorem q663 : (Jvm.Cond.code ({ cls := "RegattaTimes$Log", name := "signAt", desc := "(I)C" } : Jvm.MethodName) prog_5_method_5_code (2 : Nat) (Option.some Jvm.ClassFile.FieldType.char)) ∈ lw_g := mem_g 729 (by decide +kernel)
theorem q664 : (Jvm.Cond.methodLink "RegattaTimes" (135 : Nat) ({ cls := "RegattaTimes", name := "carryOutEvent", desc := "(II)I" } : Jvm.MethodName)) ∈ lw_g := mem_g 730 (by decide +kernel)
theorem q666 : (Jvm.Cond.instanceMethod ({ cls := "RegattaTimes", name := "carryOutEvent", desc := "(II)I" } : Jvm.MethodName)) ∈ lw_g := mem_g 732 (by decide +kernel)
theorem q667 : (Jvm.Cond.code ({ cls := "RegattaTimes", name := "carryOutEvent", desc := "(II)I" } : Jvm.MethodName) prog_1_method_20_code (3 : Nat) (Option.some Jvm.ClassFile.FieldType.int)) ∈ lw_g := mem_g 733 (by decide +kernel)
theorem q668 : (Jvm.Cond.methodLink "RegattaTimes" (138 : Nat) ({ cls := "RegattaTimes$Log", name := "signAt", desc := "(I)C" } : Jvm.MethodName)) ∈ lw_g := mem_g 734 (by decide +kernel)
theorem q669 : (Jvm.Cond.methodLink "RegattaTimes" (142 : Nat) ({ cls := "RegattaTimes$Log", name := "numberAt", desc := "(II)I" } : Jvm.MethodName)) ∈ lw_g := mem_g 735 (by decide +kernel)
theorem q670 : (Jvm.Cond.instanceMethod ({ cls := "RegattaTimes$Log", name := "numberAt", desc := "(II)I" } : Jvm.MethodName)) ∈ lw_g := mem_g 736 (by decide +kernel)
theorem q671 : (Jvm.Cond.selects "RegattaTimes$Log" ({ cls := "RegattaTimes$Log", name := "numberAt", desc := "(II)I" } : Jvm.MethodName) ({ cls := "RegattaTimes$Log", name := "numberAt", desc := "(II)I" } : Jvm.MethodName)) ∈ lw_g := mem_g 737 (by decide +kernel)
theorem q672 : (Jvm.Cond.code ({ cls := "RegattaTimes$Log", name := "numberAt", desc := "(II)I" } : Jvm.MethodName) prog_5_method_8_code (5 : Nat) (Option.some Jvm.ClassFile.FieldType.int)) ∈ lw_g := mem_g 738 (by decide +kernel)
theorem q673 : (Jvm.Cond.methodLink "RegattaTimes$Log" (37 : Nat) ({ cls := "RegattaTimes$Log", name := "digitAt", desc := "(I)I" } : Jvm.MethodName)) ∈ lw_g := mem_g 739 (by decide +kernel)
theorem q674 : (Jvm.Cond.instanceMethod ({ cls := "RegattaTimes$Log", name := "digitAt", desc := "(I)I" } : Jvm.MethodName)) ∈ lw_g := mem_g 740 (by decide +kernel)
theorem q675 : (Jvm.Cond.selects "RegattaTimes$Log" ({ cls := "RegattaTimes$Log", name := "digitAt", desc := "(I)I" } : Jvm.MethodName) ({ cls := "RegattaTimes$Log", name := "digitAt", desc := "(I)I" } : Jvm.MethodName)) ∈ lw_g := mem_g 741 (by decide +kernel)
theorem q676 : (Jvm.Cond.code ({ cls := "RegattaTimes$Log", name := "digitAt", desc := "(I)I" } : Jvm.MethodName) prog_5_method_7_code (2 : Nat) (Option.some Jvm.ClassFile.FieldType.int)) ∈ lw_g := mem_g 742 (by decide +kernel)
theorem q677 : (Jvm.Cond.methodLink "RegattaTimes" (145 : Nat) ({ cls := "RegattaTimes$Log", name := "digitAt", desc := "(I)I" } : Jvm.MethodName)) ∈ lw_g := mem_g 743 (by decide +kernel)
theorem q678 : (Jvm.Cond.methodLink "RegattaTimesLaw" (90 : Nat) ({ cls := "RegattaTimes", name := "undo", desc := "()I" } : Jvm.MethodName)) ∈ lw_g := mem_g 744 (by decide +kernel)
theorem q679 : (Jvm.Cond.instanceMethod ({ cls := "RegattaTimes", name := "undo", desc := "()I" } : Jvm.MethodName)) ∈ lw_g := mem_g 745 (by decide +kernel)
theorem q680 : (Jvm.Cond.selects "RegattaTimes" ({ cls := "RegattaTimes", name := "undo", desc := "()I" } : Jvm.MethodName) ({ cls := "RegattaTimes", name := "undo", desc := "()I" } : Jvm.MethodName)) ∈ lw_g := mem_g 746 (by decide +kernel)
theorem q681 : (Jvm.Cond.code ({ cls := "RegattaTimes", name := "undo", desc := "()I" } : Jvm.MethodName) prog_1_method_21_code (1 : Nat) (Option.some Jvm.ClassFile.FieldType.int)) ∈ lw_g := mem_g 747 (by decide +kernel)
theorem q682 : (Jvm.Cond.methodLink "RegattaTimes" (148 : Nat) ({ cls := "RegattaTimes$History", name := "takeBack", desc := "(LRegattaTimes$State;)I" } : Jvm.MethodName)) ∈ lw_g := mem_g 748 (by decide +kernel)
theorem q683 : (Jvm.Cond.instanceMethod ({ cls := "RegattaTimes$History", name := "takeBack", desc := "(LRegattaTimes$State;)I" } : Jvm.MethodName)) ∈ lw_g := mem_g 749 (by decide +kernel)
theorem q684 : (Jvm.Cond.selects "RegattaTimes$History" ({ cls := "RegattaTimes$History", name := "takeBack", desc := "(LRegattaTimes$State;)I" } : Jvm.MethodName) ({ cls := "RegattaTimes$History", name := "takeBack", desc := "(LRegattaTimes$State;)I" } : Jvm.MethodName)) ∈ lw_g := mem_g 750 (by decide +kernel)
theorem q685 : (Jvm.Cond.code ({ cls := "RegattaTimes$History", name := "takeBack", desc := "(LRegattaTimes$State;)I" } : Jvm.MethodName) prog_3_method_5_code (3 : Nat) (Option.some Jvm.ClassFile.FieldType.int)) ∈ lw_g := mem_g 751 (by decide +kernel)
theorem q686 : (Jvm.Cond.methodLink "RegattaTimesLaw" (94 : Nat) ({ cls := "RegattaTimes", name := "save", desc := "()I" } : Jvm.MethodName)) ∈ lw_g := mem_g 752 (by decide +kernel)
theorem q687 : (Jvm.Cond.instanceMethod ({ cls := "RegattaTimes", name := "save", desc := "()I" } : Jvm.MethodName)) ∈ lw_g := mem_g 753 (by decide +kernel)
theorem q688 : (Jvm.Cond.selects "RegattaTimes" ({ cls := "RegattaTimes", name := "save", desc := "()I" } : Jvm.MethodName) ({ cls := "RegattaTimes", name := "save", desc := "()I" } : Jvm.MethodName)) ∈ lw_g := mem_g 754 (by decide +kernel)
theorem q689 : (Jvm.Cond.code ({ cls := "RegattaTimes", name := "save", desc := "()I" } : Jvm.MethodName) prog_1_method_22_code (1 : Nat) (Option.some Jvm.ClassFile.FieldType.int)) ∈ lw_g := mem_g 755 (by decide +kernel)
theorem q690 : (Jvm.Cond.methodLink "RegattaTimes" (152 : Nat) ({ cls := "RegattaTimes$State", name := "copyFrom", desc := "(LRegattaTimes$State;)V" } : Jvm.MethodName)) ∈ lw_g := mem_g 756 (by decide +kernel)
theorem q691 : (Jvm.Cond.methodLink "RegattaTimesLaw" (98 : Nat) ({ cls := "RegattaTimes", name := "restore", desc := "()I" } : Jvm.MethodName)) ∈ lw_g := mem_g 757 (by decide +kernel)
theorem q692 : (Jvm.Cond.instanceMethod ({ cls := "RegattaTimes", name := "restore", desc := "()I" } : Jvm.MethodName)) ∈ lw_g := mem_g 758 (by decide +kernel)
theorem q693 : (Jvm.Cond.selects "RegattaTimes" ({ cls := "RegattaTimes", name := "restore", desc := "()I" } : Jvm.MethodName) ({ cls := "RegattaTimes", name := "restore", desc := "()I" } : Jvm.MethodName)) ∈ lw_g := mem_g 759 (by decide +kernel)
theorem q694 : (Jvm.Cond.code ({ cls := "RegattaTimes", name := "restore", desc := "()I" } : Jvm.MethodName) prog_1_method_23_code (1 : Nat) (Option.some Jvm.ClassFile.FieldType.int)) ∈ lw_g := mem_g 760 (by decide +kernel)
theorem q695 : (Jvm.Cond.methodLink "RegattaTimesLaw" (102 : Nat) ({ cls := "RegattaTimes", name := "result", desc := "(III)I" } : Jvm.MethodName)) ∈ lw_g := mem_g 761 (by decide +kernel)
theorem q696 : (Jvm.Cond.instanceMethod ({ cls := "RegattaTimes", name := "result", desc := "(III)I" } : Jvm.MethodName)) ∈ lw_g := mem_g 762 (by decide +kernel)
theorem q697 : (Jvm.Cond.selects "RegattaTimes" ({ cls := "RegattaTimes", name := "result", desc := "(III)I" } : Jvm.MethodName) ({ cls := "RegattaTimes", name := "result", desc := "(III)I" } : Jvm.MethodName)) ∈ lw_g := mem_g 763 (by decide +kernel)
theorem q698 : (Jvm.Cond.code ({ cls := "RegattaTimes", name := "result", desc := "(III)I" } : Jvm.MethodName) prog_1_method_24_code (4 : Nat) (Option.some Jvm.ClassFile.FieldType.int)) ∈ lw_g := mem_g 764 (by decide +kernel)
theorem q699 : (Jvm.Cond.methodLink "RegattaTimes" (159 : Nat) ({ cls := "RegattaTimes$State", name := "hasRace", desc := "(I)Z" } : Jvm.MethodName)) ∈ lw_g := mem_g 765 (by decide +kernel)
theorem q700 : (Jvm.Cond.instanceMethod ({ cls := "RegattaTimes$State", name := "hasRace", desc := "(I)Z" } : Jvm.MethodName)) ∈ lw_g := mem_g 766 (by decide +kernel)
theorem q701 : (Jvm.Cond.selects "RegattaTimes$State" ({ cls := "RegattaTimes$State", name := "hasRace", desc := "(I)Z" } : Jvm.MethodName) ({ cls := "RegattaTimes$State", name := "hasRace", desc := "(I)Z" } : Jvm.MethodName)) ∈ lw_g := mem_g 767 (by decide +kernel)
theorem q702 : (Jvm.Cond.code ({ cls := "RegattaTimes$State", name := "hasRace", desc := "(I)Z" } : Jvm.MethodName) prog_7_method_4_code (2 : Nat) (Option.some Jvm.ClassFile.FieldType.boolean)) ∈ lw_g := mem_g 768 (by decide +kernel)
theorem q703 : (Jvm.Cond.methodLink "RegattaTimes" (162 : Nat) ({ cls := "RegattaTimes$State", name := "hasBoat", desc := "(I)Z" } : Jvm.MethodName)) ∈ lw_g := mem_g 769 (by decide +kernel)
theorem q704 : (Jvm.Cond.methodLink "RegattaTimes" (169 : Nat) ({ cls := "RegattaTimes$State", name := "row", desc := "(II)I" } : Jvm.MethodName)) ∈ lw_g := mem_g 770 (by decide +kernel)
theorem q705 : (Jvm.Cond.methodLink "RegattaTimes" (172 : Nat) ({ cls := "RegattaTimes$Table", name := "get", desc := "(II)I" } : Jvm.MethodName)) ∈ lw_g := mem_g 771 (by decide +kernel)
theorem q706 : (Jvm.Cond.methodLink "RegattaTimes" (177 : Nat) ({ cls := "RegattaTimes$State", name := "elapsed", desc := "(II)I" } : Jvm.MethodName)) ∈ lw_g := mem_g 772 (by decide +kernel)
theorem q707 : (Jvm.Cond.instanceMethod ({ cls := "RegattaTimes$State", name := "elapsed", desc := "(II)I" } : Jvm.MethodName)) ∈ lw_g := mem_g 773 (by decide +kernel)
theorem q708 : (Jvm.Cond.selects "RegattaTimes$State" ({ cls := "RegattaTimes$State", name := "elapsed", desc := "(II)I" } : Jvm.MethodName) ({ cls := "RegattaTimes$State", name := "elapsed", desc := "(II)I" } : Jvm.MethodName)) ∈ lw_g := mem_g 774 (by decide +kernel)
theorem q709 : (Jvm.Cond.code ({ cls := "RegattaTimes$State", name := "elapsed", desc := "(II)I" } : Jvm.MethodName) prog_7_method_19_code (3 : Nat) (Option.some Jvm.ClassFile.FieldType.int)) ∈ lw_g := mem_g 775 (by decide +kernel)
theorem q710 : (Jvm.Cond.methodLink "RegattaTimes$State" (74 : Nat) ({ cls := "RegattaTimes$State", name := "isFinished", desc := "(II)Z" } : Jvm.MethodName)) ∈ lw_g := mem_g 776 (by decide +kernel)
theorem q711 : (Jvm.Cond.instanceMethod ({ cls := "RegattaTimes$State", name := "isFinished", desc := "(II)Z" } : Jvm.MethodName)) ∈ lw_g := mem_g 777 (by decide +kernel)
theorem q712 : (Jvm.Cond.selects "RegattaTimes$State" ({ cls := "RegattaTimes$State", name := "isFinished", desc := "(II)Z" } : Jvm.MethodName) ({ cls := "RegattaTimes$State", name := "isFinished", desc := "(II)Z" } : Jvm.MethodName)) ∈ lw_g := mem_g 778 (by decide +kernel)
theorem q713 : (Jvm.Cond.code ({ cls := "RegattaTimes$State", name := "isFinished", desc := "(II)Z" } : Jvm.MethodName) prog_7_method_16_code (3 : Nat) (Option.some Jvm.ClassFile.FieldType.boolean)) ∈ lw_g := mem_g 779 (by decide +kernel)
theorem q714 : (Jvm.Cond.methodLink "RegattaTimes$State" (78 : Nat) ({ cls := "RegattaTimes$State", name := "elapsedUntil", desc := "(III)I" } : Jvm.MethodName)) ∈ lw_g := mem_g 780 (by decide +kernel)
theorem q715 : (Jvm.Cond.instanceMethod ({ cls := "RegattaTimes$State", name := "elapsedUntil", desc := "(III)I" } : Jvm.MethodName)) ∈ lw_g := mem_g 781 (by decide +kernel)
theorem q716 : (Jvm.Cond.selects "RegattaTimes$State" ({ cls := "RegattaTimes$State", name := "elapsedUntil", desc := "(III)I" } : Jvm.MethodName) ({ cls := "RegattaTimes$State", name := "elapsedUntil", desc := "(III)I" } : Jvm.MethodName)) ∈ lw_g := mem_g 782 (by decide +kernel)
theorem q717 : (Jvm.Cond.code ({ cls := "RegattaTimes$State", name := "elapsedUntil", desc := "(III)I" } : Jvm.MethodName) prog_7_method_18_code (4 : Nat) (Option.some Jvm.ClassFile.FieldType.int)) ∈ lw_g := mem_g 783 (by decide +kernel)
theorem q718 : (Jvm.Cond.methodLink "RegattaTimes" (180 : Nat) ({ cls := "RegattaTimes$State", name := "corrected", desc := "(II)I" } : Jvm.MethodName)) ∈ lw_g := mem_g 784 (by decide +kernel)
theorem q719 : (Jvm.Cond.instanceMethod ({ cls := "RegattaTimes$State", name := "corrected", desc := "(II)I" } : Jvm.MethodName)) ∈ lw_g := mem_g 785 (by decide +kernel)
theorem q720 : (Jvm.Cond.selects "RegattaTimes$State" ({ cls := "RegattaTimes$State", name := "corrected", desc := "(II)I" } : Jvm.MethodName) ({ cls := "RegattaTimes$State", name := "corrected", desc := "(II)I" } : Jvm.MethodName)) ∈ lw_g := mem_g 786 (by decide +kernel)
theorem q721 : (Jvm.Cond.code ({ cls := "RegattaTimes$State", name := "corrected", desc := "(II)I" } : Jvm.MethodName) prog_7_method_20_code (5 : Nat) (Option.some Jvm.ClassFile.FieldType.int)) ∈ lw_g := mem_g 787 (by decide +kernel)
theorem q722 : (Jvm.Cond.methodLink "RegattaTimes" (183 : Nat) ({ cls := "RegattaTimes$State", name := "isClosed", desc := "(I)Z" } : Jvm.MethodName)) ∈ lw_g := mem_g 788 (by decide +kernel)
theorem q723 : (Jvm.Cond.instanceMethod ({ cls := "RegattaTimes$State", name := "isClosed", desc := "(I)Z" } : Jvm.MethodName)) ∈ lw_g := mem_g 789 (by decide +kernel)
theorem q724 : (Jvm.Cond.selects "RegattaTimes$State" ({ cls := "RegattaTimes$State", name := "isClosed", desc := "(I)Z" } : Jvm.MethodName) ({ cls := "RegattaTimes$State", name := "isClosed", desc := "(I)Z" } : Jvm.MethodName)) ∈ lw_g := mem_g 790 (by decide +kernel)
theorem q725 : (Jvm.Cond.code ({ cls := "RegattaTimes$State", name := "isClosed", desc := "(I)Z" } : Jvm.MethodName) prog_7_method_8_code (2 : Nat) (Option.some Jvm.ClassFile.FieldType.boolean)) ∈ lw_g := mem_g 791 (by decide +kernel)
theorem q726 : (Jvm.Cond.methodLink "RegattaTimes$State" (60 : Nat) ({ cls := "RegattaTimes$State", name := "closedRaces", desc := "()I" } : Jvm.MethodName)) ∈ lw_g := mem_g 792 (by decide +kernel)
theorem q727 : (Jvm.Cond.instanceMethod ({ cls := "RegattaTimes$State", name := "closedRaces", desc := "()I" } : Jvm.MethodName)) ∈ lw_g := mem_g 793 (by decide +kernel)
theorem q728 : (Jvm.Cond.selects "RegattaTimes$State" ({ cls := "RegattaTimes$State", name := "closedRaces", desc := "()I" } : Jvm.MethodName) ({ cls := "RegattaTimes$State", name := "closedRaces", desc := "()I" } : Jvm.MethodName)) ∈ lw_g := mem_g 794 (by decide +kernel)
theorem q729 : (Jvm.Cond.code ({ cls := "RegattaTimes$State", name := "closedRaces", desc := "()I" } : Jvm.MethodName) prog_7_method_7_code (1 : Nat) (Option.some Jvm.ClassFile.FieldType.int)) ∈ lw_g := mem_g 795 (by decide +kernel)
theorem q730 : (Jvm.Cond.methodLink "RegattaTimes" (186 : Nat) ({ cls := "RegattaTimes$Scores", name := "placeIn", desc := "(II)I" } : Jvm.MethodName)) ∈ lw_g := mem_g 796 (by decide +kernel)
theorem q731 : (Jvm.Cond.instanceMethod ({ cls := "RegattaTimes$Scores", name := "placeIn", desc := "(II)I" } : Jvm.MethodName)) ∈ lw_g := mem_g 797 (by decide +kernel)
theorem q732 : (Jvm.Cond.selects "RegattaTimes$Scores" ({ cls := "RegattaTimes$Scores", name := "placeIn", desc := "(II)I" } : Jvm.MethodName) ({ cls := "RegattaTimes$Scores", name := "placeIn", desc := "(II)I" } : Jvm.MethodName)) ∈ lw_g := mem_g 798 (by decide +kernel)
theorem q733 : (Jvm.Cond.code ({ cls := "RegattaTimes$Scores", name := "placeIn", desc := "(II)I" } : Jvm.MethodName) prog_6_method_5_code (3 : Nat) (Option.some Jvm.ClassFile.FieldType.int)) ∈ lw_g := mem_g 799 (by decide +kernel)
theorem q734 : (Jvm.Cond.methodLink "RegattaTimes$Scores" (56 : Nat) ({ cls := "RegattaTimes$Scores", name := "readTimes", desc := "(I)V" } : Jvm.MethodName)) ∈ lw_g := mem_g 800 (by decide +kernel)
theorem q736 : (Jvm.Cond.instanceMethod ({ cls := "RegattaTimes$Scores", name := "readTimes", desc := "(I)V" } : Jvm.MethodName)) ∈ lw_g := mem_g 802 (by decide +kernel)
theorem q737 : (Jvm.Cond.code ({ cls := "RegattaTimes$Scores", name := "readTimes", desc := "(I)V" } : Jvm.MethodName) prog_6_method_2_code (4 : Nat) (Option.none : Option Jvm.ClassFile.FieldType)) ∈ lw_g := mem_g 803 (by decide +kernel)
theorem q738 : (Jvm.Cond.methodLink "RegattaTimes$Scores" (42 : Nat) ({ cls := "RegattaTimes$State", name := "row", desc := "(II)I" } : Jvm.MethodName)) ∈ lw_g := mem_g 804 (by decide +kernel)
theorem q739 : (Jvm.Cond.methodLink "RegattaTimes$Scores" (46 : Nat) ({ cls := "RegattaTimes$Table", name := "get", desc := "(II)I" } : Jvm.MethodName)) ∈ lw_g := mem_g 805 (by decide +kernel)
theorem q740 : (Jvm.Cond.methodLink "RegattaTimes$Scores" (49 : Nat) ({ cls := "RegattaTimes$State", name := "corrected", desc := "(II)I" } : Jvm.MethodName)) ∈ lw_g := mem_g 806 (by decide +kernel)
theorem q741 : (Jvm.Cond.methodLink "RegattaTimes$Scores" (52 : Nat) ({ cls := "RegattaTimes$Table", name := "put", desc := "(III)V" } : Jvm.MethodName)) ∈ lw_g := mem_g 807 (by decide +kernel)
theorem q742 : (Jvm.Cond.methodLink "RegattaTimes$Scores" (60 : Nat) ({ cls := "RegattaTimes$Scores", name := "place", desc := "(I)I" } : Jvm.MethodName)) ∈ lw_g := mem_g 808 (by decide +kernel)
theorem q744 : (Jvm.Cond.instanceMethod ({ cls := "RegattaTimes$Scores", name := "place", desc := "(I)I" } : Jvm.MethodName)) ∈ lw_g := mem_g 810 (by decide +kernel)
theorem q745 : (Jvm.Cond.code ({ cls := "RegattaTimes$Scores", name := "place", desc := "(I)I" } : Jvm.MethodName) prog_6_method_3_code (6 : Nat) (Option.some Jvm.ClassFile.FieldType.int)) ∈ lw_g := mem_g 811 (by decide +kernel)
theorem q746 : (Jvm.Cond.methodLink "RegattaTimes" (189 : Nat) ({ cls := "RegattaTimes$Scores", name := "pointsIn", desc := "(II)I" } : Jvm.MethodName)) ∈ lw_g := mem_g 812 (by decide +kernel)
theorem q747 : (Jvm.Cond.instanceMethod ({ cls := "RegattaTimes$Scores", name := "pointsIn", desc := "(II)I" } : Jvm.MethodName)) ∈ lw_g := mem_g 813 (by decide +kernel)
theorem q748 : (Jvm.Cond.selects "RegattaTimes$Scores" ({ cls := "RegattaTimes$Scores", name := "pointsIn", desc := "(II)I" } : Jvm.MethodName) ({ cls := "RegattaTimes$Scores", name := "pointsIn", desc := "(II)I" } : Jvm.MethodName)) ∈ lw_g := mem_g 814 (by decide +kernel)
theorem q749 : (Jvm.Cond.code ({ cls := "RegattaTimes$Scores", name := "pointsIn", desc := "(II)I" } : Jvm.MethodName) prog_6_method_6_code (3 : Nat) (Option.some Jvm.ClassFile.FieldType.int)) ∈ lw_g := mem_g 815 (by decide +kernel)
theorem q750 : (Jvm.Cond.methodLink "RegattaTimes$Scores" (64 : Nat) ({ cls := "RegattaTimes$Scores", name := "placeIn", desc := "(II)I" } : Jvm.MethodName)) ∈ lw_g := mem_g 816 (by decide +kernel)
theorem q751 : (Jvm.Cond.methodLink "RegattaTimes$Scores" (67 : Nat) ({ cls := "RegattaTimes$Scores", name := "pointsFor", desc := "(III)I" } : Jvm.MethodName)) ∈ lw_g := mem_g 817 (by decide +kernel)
theorem q753 : (Jvm.Cond.instanceMethod ({ cls := "RegattaTimes$Scores", name := "pointsFor", desc := "(III)I" } : Jvm.MethodName)) ∈ lw_g := mem_g 819 (by decide +kernel)
theorem q754 : (Jvm.Cond.code ({ cls := "RegattaTimes$Scores", name := "pointsFor", desc := "(III)I" } : Jvm.MethodName) prog_6_method_4_code (4 : Nat) (Option.some Jvm.ClassFile.FieldType.int)) ∈ lw_g := mem_g 820 (by decide +kernel)
theorem q755 : (Jvm.Cond.methodLink "RegattaTimesLaw" (106 : Nat) ({ cls := "RegattaTimes", name := "boat", desc := "(II)I" } : Jvm.MethodName)) ∈ lw_g := mem_g 821 (by decide +kernel)
theorem q756 : (Jvm.Cond.instanceMethod ({ cls := "RegattaTimes", name := "boat", desc := "(II)I" } : Jvm.MethodName)) ∈ lw_g := mem_g 822 (by decide +kernel)
theorem q757 : (Jvm.Cond.selects "RegattaTimes" ({ cls := "RegattaTimes", name := "boat", desc := "(II)I" } : Jvm.MethodName) ({ cls := "RegattaTimes", name := "boat", desc := "(II)I" } : Jvm.MethodName)) ∈ lw_g := mem_g 823 (by decide +kernel)
theorem q758 : (Jvm.Cond.code ({ cls := "RegattaTimes", name := "boat", desc := "(II)I" } : Jvm.MethodName) prog_1_method_25_code (3 : Nat) (Option.some Jvm.ClassFile.FieldType.int)) ∈ lw_g := mem_g 824 (by decide +kernel)
theorem q759 : (Jvm.Cond.methodLink "RegattaTimes" (192 : Nat) ({ cls := "RegattaTimes$Scores", name := "recount", desc := "()V" } : Jvm.MethodName)) ∈ lw_g := mem_g 825 (by decide +kernel)
theorem q760 : (Jvm.Cond.instanceMethod ({ cls := "RegattaTimes$Scores", name := "recount", desc := "()V" } : Jvm.MethodName)) ∈ lw_g := mem_g 826 (by decide +kernel)
theorem q761 : (Jvm.Cond.selects "RegattaTimes$Scores" ({ cls := "RegattaTimes$Scores", name := "recount", desc := "()V" } : Jvm.MethodName) ({ cls := "RegattaTimes$Scores", name := "recount", desc := "()V" } : Jvm.MethodName)) ∈ lw_g := mem_g 827 (by decide +kernel)
theorem q762 : (Jvm.Cond.code ({ cls := "RegattaTimes$Scores", name := "recount", desc := "()V" } : Jvm.MethodName) prog_6_method_9_code (2 : Nat) (Option.none : Option Jvm.ClassFile.FieldType)) ∈ lw_g := mem_g 828 (by decide +kernel)
theorem q763 : (Jvm.Cond.methodLink "RegattaTimes$Scores" (92 : Nat) ({ cls := "RegattaTimes$Table", name := "clearRow", desc := "(I)V" } : Jvm.MethodName)) ∈ lw_g := mem_g 829 (by decide +kernel)
theorem q764 : (Jvm.Cond.methodLink "RegattaTimes$Scores" (95 : Nat) ({ cls := "RegattaTimes$State", name := "closedRaces", desc := "()I" } : Jvm.MethodName)) ∈ lw_g := mem_g 830 (by decide +kernel)
theorem q765 : (Jvm.Cond.methodLink "RegattaTimes$Scores" (98 : Nat) ({ cls := "RegattaTimes$Scores", name := "recountRace", desc := "(I)V" } : Jvm.MethodName)) ∈ lw_g := mem_g 831 (by decide +kernel)
theorem q767 : (Jvm.Cond.instanceMethod ({ cls := "RegattaTimes$Scores", name := "recountRace", desc := "(I)V" } : Jvm.MethodName)) ∈ lw_g := mem_g 833 (by decide +kernel)
theorem q768 : (Jvm.Cond.code ({ cls := "RegattaTimes$Scores", name := "recountRace", desc := "(I)V" } : Jvm.MethodName) prog_6_method_10_code (4 : Nat) (Option.none : Option Jvm.ClassFile.FieldType)) ∈ lw_g := mem_g 834 (by decide +kernel)
theorem q769 : (Jvm.Cond.methodLink "RegattaTimes$Scores" (104 : Nat) ({ cls := "RegattaTimes$Table", name := "add", desc := "(III)V" } : Jvm.MethodName)) ∈ lw_g := mem_g 835 (by decide +kernel)
theorem q770 : (Jvm.Cond.methodLink "RegattaTimes$Scores" (101 : Nat) ({ cls := "RegattaTimes$Scores", name := "sumUp", desc := "(I)V" } : Jvm.MethodName)) ∈ lw_g := mem_g 836 (by decide +kernel)
theorem q772 : (Jvm.Cond.instanceMethod ({ cls := "RegattaTimes$Scores", name := "sumUp", desc := "(I)V" } : Jvm.MethodName)) ∈ lw_g := mem_g 838 (by decide +kernel)
theorem q773 : (Jvm.Cond.code ({ cls := "RegattaTimes$Scores", name := "sumUp", desc := "(I)V" } : Jvm.MethodName) prog_6_method_11_code (7 : Nat) (Option.none : Option Jvm.ClassFile.FieldType)) ∈ lw_g := mem_g 839 (by decide +kernel)
theorem q774 : (Jvm.Cond.methodLink "RegattaTimes$Scores" (107 : Nat) ({ cls := "RegattaTimes$Scores", name := "isDropping", desc := "()Z" } : Jvm.MethodName)) ∈ lw_g := mem_g 840 (by decide +kernel)
theorem q776 : (Jvm.Cond.instanceMethod ({ cls := "RegattaTimes$Scores", name := "isDropping", desc := "()Z" } : Jvm.MethodName)) ∈ lw_g := mem_g 842 (by decide +kernel)
theorem q777 : (Jvm.Cond.code ({ cls := "RegattaTimes$Scores", name := "isDropping", desc := "()Z" } : Jvm.MethodName) prog_6_method_12_code (2 : Nat) (Option.some Jvm.ClassFile.FieldType.boolean)) ∈ lw_g := mem_g 843 (by decide +kernel)
theorem q778 : (Jvm.Cond.methodLink "RegattaTimes$Scores" (111 : Nat) ({ cls := "RegattaTimes$State", name := "setting", desc := "(I)I" } : Jvm.MethodName)) ∈ lw_g := mem_g 844 (by decide +kernel)
theorem q779 : (Jvm.Cond.methodLink "RegattaTimes" (198 : Nat) ({ cls := "RegattaTimes$Scores", name := "total", desc := "(I)I" } : Jvm.MethodName)) ∈ lw_g := mem_g 845 (by decide +kernel)
theorem q780 : (Jvm.Cond.instanceMethod ({ cls := "RegattaTimes$Scores", name := "total", desc := "(I)I" } : Jvm.MethodName)) ∈ lw_g := mem_g 846 (by decide +kernel)
theorem q781 : (Jvm.Cond.selects "RegattaTimes$Scores" ({ cls := "RegattaTimes$Scores", name := "total", desc := "(I)I" } : Jvm.MethodName) ({ cls := "RegattaTimes$Scores", name := "total", desc := "(I)I" } : Jvm.MethodName)) ∈ lw_g := mem_g 847 (by decide +kernel)
theorem q782 : (Jvm.Cond.code ({ cls := "RegattaTimes$Scores", name := "total", desc := "(I)I" } : Jvm.MethodName) prog_6_method_14_code (2 : Nat) (Option.some Jvm.ClassFile.FieldType.int)) ∈ lw_g := mem_g 848 (by decide +kernel)
theorem q783 : (Jvm.Cond.methodLink "RegattaTimes" (201 : Nat) ({ cls := "RegattaTimes$Scores", name := "rank", desc := "(I)I" } : Jvm.MethodName)) ∈ lw_g := mem_g 849 (by decide +kernel)
theorem q784 : (Jvm.Cond.instanceMethod ({ cls := "RegattaTimes$Scores", name := "rank", desc := "(I)I" } : Jvm.MethodName)) ∈ lw_g := mem_g 850 (by decide +kernel)
theorem q785 : (Jvm.Cond.selects "RegattaTimes$Scores" ({ cls := "RegattaTimes$Scores", name := "rank", desc := "(I)I" } : Jvm.MethodName) ({ cls := "RegattaTimes$Scores", name := "rank", desc := "(I)I" } : Jvm.MethodName)) ∈ lw_g := mem_g 851 (by decide +kernel)
theorem q786 : (Jvm.Cond.code ({ cls := "RegattaTimes$Scores", name := "rank", desc := "(I)I" } : Jvm.MethodName) prog_6_method_17_code (4 : Nat) (Option.some Jvm.ClassFile.FieldType.int)) ∈ lw_g := mem_g 852 (by decide +kernel)
theorem q787 : (Jvm.Cond.methodLink "RegattaTimes$Scores" (114 : Nat) ({ cls := "RegattaTimes$Scores", name := "isAhead", desc := "(II)Z" } : Jvm.MethodName)) ∈ lw_g := mem_g 853 (by decide +kernel)
theorem q789 : (Jvm.Cond.instanceMethod ({ cls := "RegattaTimes$Scores", name := "isAhead", desc := "(II)Z" } : Jvm.MethodName)) ∈ lw_g := mem_g 855 (by decide +kernel)
theorem q790 : (Jvm.Cond.code ({ cls := "RegattaTimes$Scores", name := "isAhead", desc := "(II)Z" } : Jvm.MethodName) prog_6_method_18_code (4 : Nat) (Option.some Jvm.ClassFile.FieldType.boolean)) ∈ lw_g := mem_g 856 (by decide +kernel)
theorem q791 : (Jvm.Cond.methodLink "RegattaTimes$Scores" (118 : Nat) ({ cls := "RegattaTimes$Scores", name := "total", desc := "(I)I" } : Jvm.MethodName)) ∈ lw_g := mem_g 857 (by decide +kernel)
theorem q792 : (Jvm.Cond.methodLink "RegattaTimes" (204 : Nat) ({ cls := "RegattaTimes$Scores", name := "dropped", desc := "(I)I" } : Jvm.MethodName)) ∈ lw_g := mem_g 858 (by decide +kernel)
theorem q793 : (Jvm.Cond.instanceMethod ({ cls := "RegattaTimes$Scores", name := "dropped", desc := "(I)I" } : Jvm.MethodName)) ∈ lw_g := mem_g 859 (by decide +kernel)
theorem q794 : (Jvm.Cond.selects "RegattaTimes$Scores" ({ cls := "RegattaTimes$Scores", name := "dropped", desc := "(I)I" } : Jvm.MethodName) ({ cls := "RegattaTimes$Scores", name := "dropped", desc := "(I)I" } : Jvm.MethodName)) ∈ lw_g := mem_g 860 (by decide +kernel)
theorem q795 : (Jvm.Cond.code ({ cls := "RegattaTimes$Scores", name := "dropped", desc := "(I)I" } : Jvm.MethodName) prog_6_method_15_code (2 : Nat) (Option.some Jvm.ClassFile.FieldType.int)) ∈ lw_g := mem_g 861 (by decide +kernel)
theorem q796 : (Jvm.Cond.methodLink "RegattaTimes" (207 : Nat) ({ cls := "RegattaTimes$Scores", name := "firstPlaces", desc := "(I)I" } : Jvm.MethodName)) ∈ lw_g := mem_g 862 (by decide +kernel)
theorem q797 : (Jvm.Cond.instanceMethod ({ cls := "RegattaTimes$Scores", name := "firstPlaces", desc := "(I)I" } : Jvm.MethodName)) ∈ lw_g := mem_g 863 (by decide +kernel)
theorem q798 : (Jvm.Cond.selects "RegattaTimes$Scores" ({ cls := "RegattaTimes$Scores", name := "firstPlaces", desc := "(I)I" } : Jvm.MethodName) ({ cls := "RegattaTimes$Scores", name := "firstPlaces", desc := "(I)I" } : Jvm.MethodName)) ∈ lw_g := mem_g 864 (by decide +kernel)
theorem q799 : (Jvm.Cond.code ({ cls := "RegattaTimes$Scores", name := "firstPlaces", desc := "(I)I" } : Jvm.MethodName) prog_6_method_16_code (2 : Nat) (Option.some Jvm.ClassFile.FieldType.int)) ∈ lw_g := mem_g 865 (by decide +kernel)
theorem q800 : (Jvm.Cond.methodLink "RegattaTimesLaw" (110 : Nat) ({ cls := "RegattaTimes", name := "ranked", desc := "(I)I" } : Jvm.MethodName)) ∈ lw_g := mem_g 866 (by decide +kernel)
theorem q801 : (Jvm.Cond.instanceMethod ({ cls := "RegattaTimes", name := "ranked", desc := "(I)I" } : Jvm.MethodName)) ∈ lw_g := mem_g 867 (by decide +kernel)
theorem q802 : (Jvm.Cond.selects "RegattaTimes" ({ cls := "RegattaTimes", name := "ranked", desc := "(I)I" } : Jvm.MethodName) ({ cls := "RegattaTimes", name := "ranked", desc := "(I)I" } : Jvm.MethodName)) ∈ lw_g := mem_g 868 (by decide +kernel)
theorem q803 : (Jvm.Cond.code ({ cls := "RegattaTimes", name := "ranked", desc := "(I)I" } : Jvm.MethodName) prog_1_method_26_code (3 : Nat) (Option.some Jvm.ClassFile.FieldType.int)) ∈ lw_g := mem_g 869 (by decide +kernel)
theorem q804 : (Jvm.Cond.methodLink "RegattaTimesLaw" (114 : Nat) ({ cls := "RegattaTimes", name := "race", desc := "(II)I" } : Jvm.MethodName)) ∈ lw_g := mem_g 870 (by decide +kernel)
theorem q805 : (Jvm.Cond.instanceMethod ({ cls := "RegattaTimes", name := "race", desc := "(II)I" } : Jvm.MethodName)) ∈ lw_g := mem_g 871 (by decide +kernel)
theorem q806 : (Jvm.Cond.selects "RegattaTimes" ({ cls := "RegattaTimes", name := "race", desc := "(II)I" } : Jvm.MethodName) ({ cls := "RegattaTimes", name := "race", desc := "(II)I" } : Jvm.MethodName)) ∈ lw_g := mem_g 872 (by decide +kernel)
theorem q807 : (Jvm.Cond.code ({ cls := "RegattaTimes", name := "race", desc := "(II)I" } : Jvm.MethodName) prog_1_method_27_code (3 : Nat) (Option.some Jvm.ClassFile.FieldType.int)) ∈ lw_g := mem_g 873 (by decide +kernel)
theorem q808 : (Jvm.Cond.methodLink "RegattaTimes" (216 : Nat) ({ cls := "RegattaTimes$State", name := "entriesWith", desc := "(III)I" } : Jvm.MethodName)) ∈ lw_g := mem_g 874 (by decide +kernel)
theorem q809 : (Jvm.Cond.methodLink "RegattaTimes" (219 : Nat) ({ cls := "RegattaTimes$Scores", name := "leader", desc := "(I)I" } : Jvm.MethodName)) ∈ lw_g := mem_g 875 (by decide +kernel)
theorem q810 : (Jvm.Cond.instanceMethod ({ cls := "RegattaTimes$Scores", name := "leader", desc := "(I)I" } : Jvm.MethodName)) ∈ lw_g := mem_g 876 (by decide +kernel)
theorem q811 : (Jvm.Cond.selects "RegattaTimes$Scores" ({ cls := "RegattaTimes$Scores", name := "leader", desc := "(I)I" } : Jvm.MethodName) ({ cls := "RegattaTimes$Scores", name := "leader", desc := "(I)I" } : Jvm.MethodName)) ∈ lw_g := mem_g 877 (by decide +kernel)
theorem q812 : (Jvm.Cond.code ({ cls := "RegattaTimes$Scores", name := "leader", desc := "(I)I" } : Jvm.MethodName) prog_6_method_7_code (3 : Nat) (Option.some Jvm.ClassFile.FieldType.int)) ∈ lw_g := mem_g 878 (by decide +kernel)
theorem q813 : (Jvm.Cond.methodLink "RegattaTimesLaw" (118 : Nat) ({ cls := "RegattaTimes", name := "protest", desc := "(II)I" } : Jvm.MethodName)) ∈ lw_g := mem_g 879 (by decide +kernel)
theorem q814 : (Jvm.Cond.instanceMethod ({ cls := "RegattaTimes", name := "protest", desc := "(II)I" } : Jvm.MethodName)) ∈ lw_g := mem_g 880 (by decide +kernel)
theorem q815 : (Jvm.Cond.selects "RegattaTimes" ({ cls := "RegattaTimes", name := "protest", desc := "(II)I" } : Jvm.MethodName) ({ cls := "RegattaTimes", name := "protest", desc := "(II)I" } : Jvm.MethodName)) ∈ lw_g := mem_g 881 (by decide +kernel)
theorem q816 : (Jvm.Cond.code ({ cls := "RegattaTimes", name := "protest", desc := "(II)I" } : Jvm.MethodName) prog_1_method_28_code (3 : Nat) (Option.some Jvm.ClassFile.FieldType.int)) ∈ lw_g := mem_g 882 (by decide +kernel)
theorem q817 : (Jvm.Cond.methodLink "RegattaTimes" (222 : Nat) ({ cls := "RegattaTimes$State", name := "hasProtest", desc := "(I)Z" } : Jvm.MethodName)) ∈ lw_g := mem_g 883 (by decide +kernel)
theorem q818 : (Jvm.Cond.methodLink "RegattaTimesLaw" (122 : Nat) ({ cls := "RegattaTimes", name := "count", desc := "(I)I" } : Jvm.MethodName)) ∈ lw_g := mem_g 884 (by decide +kernel)
theorem q819 : (Jvm.Cond.instanceMethod ({ cls := "RegattaTimes", name := "count", desc := "(I)I" } : Jvm.MethodName)) ∈ lw_g := mem_g 885 (by decide +kernel)
theorem q820 : (Jvm.Cond.selects "RegattaTimes" ({ cls := "RegattaTimes", name := "count", desc := "(I)I" } : Jvm.MethodName) ({ cls := "RegattaTimes", name := "count", desc := "(I)I" } : Jvm.MethodName)) ∈ lw_g := mem_g 886 (by decide +kernel)
theorem q821 : (Jvm.Cond.code ({ cls := "RegattaTimes", name := "count", desc := "(I)I" } : Jvm.MethodName) prog_1_method_29_code (2 : Nat) (Option.some Jvm.ClassFile.FieldType.int)) ∈ lw_g := mem_g 887 (by decide +kernel)
theorem q822 : (Jvm.Cond.methodLink "RegattaTimes" (231 : Nat) ({ cls := "RegattaTimes$State", name := "closedRaces", desc := "()I" } : Jvm.MethodName)) ∈ lw_g := mem_g 888 (by decide +kernel)
theorem q823 : (Jvm.Cond.methodLink "RegattaTimes" (240 : Nat) ({ cls := "RegattaTimes$State", name := "setting", desc := "(I)I" } : Jvm.MethodName)) ∈ lw_g := mem_g 889 (by decide +kernel)
theorem q824 : (Jvm.Cond.methodLink "RegattaTimes" (243 : Nat) ({ cls := "RegattaTimes$History", name := "size", desc := "()I" } : Jvm.MethodName)) ∈ lw_g := mem_g 890 (by decide +kernel)
theorem q825 : (Jvm.Cond.instanceMethod ({ cls := "RegattaTimes$History", name := "size", desc := "()I" } : Jvm.MethodName)) ∈ lw_g := mem_g 891 (by decide +kernel)
theorem q826 : (Jvm.Cond.selects "RegattaTimes$History" ({ cls := "RegattaTimes$History", name := "size", desc := "()I" } : Jvm.MethodName) ({ cls := "RegattaTimes$History", name := "size", desc := "()I" } : Jvm.MethodName)) ∈ lw_g := mem_g 892 (by decide +kernel)
theorem q827 : (Jvm.Cond.code ({ cls := "RegattaTimes$History", name := "size", desc := "()I" } : Jvm.MethodName) prog_3_method_2_code (1 : Nat) (Option.some Jvm.ClassFile.FieldType.int)) ∈ lw_g := mem_g 893 (by decide +kernel)
theorem q828 : (Jvm.Cond.methodLink "RegattaTimesLaw" (126 : Nat) ({ cls := "RegattaTimes", name := "placeNow", desc := "(I)I" } : Jvm.MethodName)) ∈ lw_g := mem_g 894 (by decide +kernel)
theorem q829 : (Jvm.Cond.instanceMethod ({ cls := "RegattaTimes", name := "placeNow", desc := "(I)I" } : Jvm.MethodName)) ∈ lw_g := mem_g 895 (by decide +kernel)
theorem q830 : (Jvm.Cond.selects "RegattaTimes" ({ cls := "RegattaTimes", name := "placeNow", desc := "(I)I" } : Jvm.MethodName) ({ cls := "RegattaTimes", name := "placeNow", desc := "(I)I" } : Jvm.MethodName)) ∈ lw_g := mem_g 896 (by decide +kernel)
theorem q831 : (Jvm.Cond.code ({ cls := "RegattaTimes", name := "placeNow", desc := "(I)I" } : Jvm.MethodName) prog_1_method_30_code (2 : Nat) (Option.some Jvm.ClassFile.FieldType.int)) ∈ lw_g := mem_g 897 (by decide +kernel)
theorem q832 : (Jvm.Cond.methodLink "RegattaTimes" (246 : Nat) ({ cls := "RegattaTimes$State", name := "isPrepared", desc := "()Z" } : Jvm.MethodName)) ∈ lw_g := mem_g 898 (by decide +kernel)
theorem q833 : (Jvm.Cond.methodLink "RegattaTimes" (250 : Nat) ({ cls := "RegattaTimes$State", name := "latestRace", desc := "()I" } : Jvm.MethodName)) ∈ lw_g := mem_g 899 (by decide +kernel)
theorem q834 : (Jvm.Cond.methodLink "RegattaTimesLaw" (130 : Nat) ({ cls := "RegattaTimes", name := "secondsLeft", desc := "(I)I" } : Jvm.MethodName)) ∈ lw_g := mem_g 900 (by decide +kernel)
theorem q835 : (Jvm.Cond.instanceMethod ({ cls := "RegattaTimes", name := "secondsLeft", desc := "(I)I" } : Jvm.MethodName)) ∈ lw_g := mem_g 901 (by decide +kernel)
theorem q836 : (Jvm.Cond.selects "RegattaTimes" ({ cls := "RegattaTimes", name := "secondsLeft", desc := "(I)I" } : Jvm.MethodName) ({ cls := "RegattaTimes", name := "secondsLeft", desc := "(I)I" } : Jvm.MethodName)) ∈ lw_g := mem_g 902 (by decide +kernel)
theorem q837 : (Jvm.Cond.code ({ cls := "RegattaTimes", name := "secondsLeft", desc := "(I)I" } : Jvm.MethodName) prog_1_method_31_code (2 : Nat) (Option.some Jvm.ClassFile.FieldType.int)) ∈ lw_g := mem_g 903 (by decide +kernel)
theorem q838 : (Jvm.Cond.methodLink "RegattaTimes" (253 : Nat) ({ cls := "RegattaTimes$State", name := "latestEntry", desc := "(II)I" } : Jvm.MethodName)) ∈ lw_g := mem_g 904 (by decide +kernel)
theorem q839 : (Jvm.Cond.methodLink "RegattaTimes" (256 : Nat) ({ cls := "RegattaTimes$Scores", name := "secondsToLead", desc := "(I)I" } : Jvm.MethodName)) ∈ lw_g := mem_g 905 (by decide +kernel)
theorem q840 : (Jvm.Cond.instanceMethod ({ cls := "RegattaTimes$Scores", name := "secondsToLead", desc := "(I)I" } : Jvm.MethodName)) ∈ lw_g := mem_g 906 (by decide +kernel)
theorem q841 : (Jvm.Cond.selects "RegattaTimes$Scores" ({ cls := "RegattaTimes$Scores", name := "secondsToLead", desc := "(I)I" } : Jvm.MethodName) ({ cls := "RegattaTimes$Scores", name := "secondsToLead", desc := "(I)I" } : Jvm.MethodName)) ∈ lw_g := mem_g 907 (by decide +kernel)
theorem q842 : (Jvm.Cond.code ({ cls := "RegattaTimes$Scores", name := "secondsToLead", desc := "(I)I" } : Jvm.MethodName) prog_6_method_8_code (7 : Nat) (Option.some Jvm.ClassFile.FieldType.int)) ∈ lw_g := mem_g 908 (by decide +kernel)
theorem q843 : (Jvm.Cond.methodLink "RegattaTimes$Scores" (71 : Nat) ({ cls := "RegattaTimes$State", name := "latestRace", desc := "()I" } : Jvm.MethodName)) ∈ lw_g := mem_g 909 (by decide +kernel)
theorem q844 : (Jvm.Cond.methodLink "RegattaTimes$Scores" (75 : Nat) ({ cls := "RegattaTimes$Scores", name := "leader", desc := "(I)I" } : Jvm.MethodName)) ∈ lw_g := mem_g 910 (by decide +kernel)
theorem q845 : (Jvm.Cond.methodLink "RegattaTimes$Scores" (81 : Nat) ({ cls := "java/lang/Math", name := "floorDiv", desc := "(II)I" } : Jvm.MethodName)) ∈ lw_g := mem_g 911 (by decide +kernel)
theorem q846 : (Jvm.Cond.static ({ cls := "java/lang/Math", name := "floorDiv", desc := "(II)I" } : Jvm.MethodName)) ∈ lw_g := mem_g 912 (by decide +kernel)
theorem q847 : (Jvm.Cond.code ({ cls := "java/lang/Math", name := "floorDiv", desc := "(II)I" } : Jvm.MethodName) prog_13_method_47_code (3 : Nat) (Option.some Jvm.ClassFile.FieldType.int)) ∈ lw_g := mem_g 913 (by decide +kernel)
theorem q848 : (Jvm.Cond.methodLink "RegattaTimes$Scores" (89 : Nat) ({ cls := "RegattaTimes$State", name := "elapsedUntil", desc := "(III)I" } : Jvm.MethodName)) ∈ lw_g := mem_g 914 (by decide +kernel)
theorem q849 : (Jvm.Cond.methodLink "RegattaTimesLaw" (134 : Nat) ({ cls := "RegattaTimes", name := "rankIfDisqualified", desc := "(II)I" } : Jvm.MethodName)) ∈ lw_g := mem_g 915 (by decide +kernel)
theorem q850 : (Jvm.Cond.instanceMethod ({ cls := "RegattaTimes", name := "rankIfDisqualified", desc := "(II)I" } : Jvm.MethodName)) ∈ lw_g := mem_g 916 (by decide +kernel)
theorem q851 : (Jvm.Cond.selects "RegattaTimes" ({ cls := "RegattaTimes", name := "rankIfDisqualified", desc := "(II)I" } : Jvm.MethodName) ({ cls := "RegattaTimes", name := "rankIfDisqualified", desc := "(II)I" } : Jvm.MethodName)) ∈ lw_g := mem_g 917 (by decide +kernel)
theorem q852 : (Jvm.Cond.code ({ cls := "RegattaTimes", name := "rankIfDisqualified", desc := "(II)I" } : Jvm.MethodName) prog_1_method_32_code (3 : Nat) (Option.some Jvm.ClassFile.FieldType.int)) ∈ lw_g := mem_g 918 (by decide +kernel)
theorem q853 : (Jvm.Cond.methodLink "RegattaTimes" (259 : Nat) ({ cls := "RegattaTimes$Table", name := "put", desc := "(III)V" } : Jvm.MethodName)) ∈ lw_g := mem_g 919 (by decide +kernel)
theorem q854 : (Jvm.Cond.methodLink "RegattaTimesLaw" (138 : Nat) ({ cls := "RegattaTimes", name := "mean", desc := "(I)F" } : Jvm.MethodName)) ∈ lw_g := mem_g 920 (by decide +kernel)
theorem q855 : (Jvm.Cond.instanceMethod ({ cls := "RegattaTimes", name := "mean", desc := "(I)F" } : Jvm.MethodName)) ∈ lw_g := mem_g 921 (by decide +kernel)
theorem q856 : (Jvm.Cond.selects "RegattaTimes" ({ cls := "RegattaTimes", name := "mean", desc := "(I)F" } : Jvm.MethodName) ({ cls := "RegattaTimes", name := "mean", desc := "(I)F" } : Jvm.MethodName)) ∈ lw_g := mem_g 922 (by decide +kernel)
theorem q857 : (Jvm.Cond.code ({ cls := "RegattaTimes", name := "mean", desc := "(I)F" } : Jvm.MethodName) prog_1_method_33_code (3 : Nat) (Option.some Jvm.ClassFile.FieldType.float)) ∈ lw_g := mem_g 923 (by decide +kernel)
theorem q858 : (Jvm.Cond.methodLink "RegattaTimes" (263 : Nat) ({ cls := "RegattaTimes$Scores", name := "sum", desc := "(I)I" } : Jvm.MethodName)) ∈ lw_g := mem_g 924 (by decide +kernel)
theorem q859 : (Jvm.Cond.instanceMethod ({ cls := "RegattaTimes$Scores", name := "sum", desc := "(I)I" } : Jvm.MethodName)) ∈ lw_g := mem_g 925 (by decide +kernel)
theorem q860 : (Jvm.Cond.selects "RegattaTimes$Scores" ({ cls := "RegattaTimes$Scores", name := "sum", desc := "(I)I" } : Jvm.MethodName) ({ cls := "RegattaTimes$Scores", name := "sum", desc := "(I)I" } : Jvm.MethodName)) ∈ lw_g := mem_g 926 (by decide +kernel)
theorem q861 : (Jvm.Cond.code ({ cls := "RegattaTimes$Scores", name := "sum", desc := "(I)I" } : Jvm.MethodName) prog_6_method_13_code (2 : Nat) (Option.some Jvm.ClassFile.FieldType.int)) ∈ lw_g := mem_g 927 (by decide +kernel)
theorem q862 : (Jvm.Cond.classLink "RegattaTimesLaw" (10 : Nat) "RegattaTimesModel") ∈ lw_g := mem_g 928 (by decide +kernel)
theorem q863 : (Jvm.Cond.instantiable "RegattaTimesModel" (12 : Nat)) ∈ lw_g := mem_g 929 (by decide +kernel)
theorem q864 : (Jvm.Cond.methodLink "RegattaTimesLaw" (12 : Nat) ({ cls := "RegattaTimesModel", name := "<init>", desc := "()V" } : Jvm.MethodName)) ∈ lw_g := mem_g 930 (by decide +kernel)
theorem q865 : (Jvm.Cond.instanceMethod ({ cls := "RegattaTimesModel", name := "<init>", desc := "()V" } : Jvm.MethodName)) ∈ lw_g := mem_g 931 (by decide +kernel)
theorem q866 : (Jvm.Cond.code ({ cls := "RegattaTimesModel", name := "<init>", desc := "()V" } : Jvm.MethodName) prog_10_method_1_code (1 : Nat) (Option.none : Option Jvm.ClassFile.FieldType)) ∈ lw_g := mem_g 932 (by decide +kernel)
theorem q867 : (Jvm.Cond.methodLink "RegattaTimesModel" (1 : Nat) ({ cls := "java/lang/Object", name := "<init>", desc := "()V" } : Jvm.MethodName)) ∈ lw_g := mem_g 933 (by decide +kernel)
theorem q868 : (Jvm.Cond.fieldLink "RegattaTimesModel" (7 : Nat) "RegattaTimesModel" "s" "[I") ∈ lw_g := mem_g 934 (by decide +kernel)
theorem q869 : (Jvm.Cond.fieldLink "RegattaTimesModel" (13 : Nat) "RegattaTimesModel" "history" "[I") ∈ lw_g := mem_g 935 (by decide +kernel)
theorem q870 : (Jvm.Cond.fieldLink "RegattaTimesModel" (38 : Nat) "RegattaTimesModel" "kept" "I") ∈ lw_g := mem_g 936 (by decide +kernel)
theorem q871 : (Jvm.Cond.fieldLink "RegattaTimesModel" (16 : Nat) "RegattaTimesModel" "snapshot" "[I") ∈ lw_g := mem_g 937 (by decide +kernel)
theorem q872 : (Jvm.Cond.fieldLink "RegattaTimesModel" (201 : Nat) "RegattaTimesModel" "isTaken" "Z") ∈ lw_g := mem_g 938 (by decide +kernel)
theorem q873 : (Jvm.Cond.fieldLink "RegattaTimesModel" (19 : Nat) "RegattaTimesModel" "text" "[I") ∈ lw_g := mem_g 939 (by decide +kernel)
theorem q874 : (Jvm.Cond.fieldLink "RegattaTimesModel" (158 : Nat) "RegattaTimesModel" "length" "I") ∈ lw_g := mem_g 940 (by decide +kernel)
theorem q875 : (Jvm.Cond.fieldLink "RegattaTimesModel" (161 : Nat) "RegattaTimesModel" "place" "I") ∈ lw_g := mem_g 941 (by decide +kernel)
theorem q876 : (Jvm.Cond.fieldLink "RegattaTimesModel" (167 : Nat) "RegattaTimesModel" "letter" "I") ∈ lw_g := mem_g 942 (by decide +kernel)
theorem q877 : (Jvm.Cond.fieldLink "RegattaTimesModel" (173 : Nat) "RegattaTimesModel" "one" "I") ∈ lw_g := mem_g 943 (by decide +kernel)
theorem q878 : (Jvm.Cond.fieldLink "RegattaTimesModel" (179 : Nat) "RegattaTimesModel" "other" "I") ∈ lw_g := mem_g 944 (by decide +kernel)
theorem q879 : (Jvm.Cond.fieldLink "RegattaTimesModel" (182 : Nat) "RegattaTimesModel" "done" "I") ∈ lw_g := mem_g 945 (by decide +kernel)
theorem q880 : (Jvm.Cond.laysFinal "RegattaTimesModel" "RegattaTimesModel" "s" "[I") ∈ lw_g := mem_g 946 (by decide +kernel)
theorem q882 : (Jvm.Cond.laysFinal "RegattaTimesModel" "RegattaTimesModel" "history" "[I") ∈ lw_g := mem_g 948 (by decide +kernel)
theorem q884 : (Jvm.Cond.lays "RegattaTimesModel" "RegattaTimesModel" "kept" "I") ∈ lw_g := mem_g 950 (by decide +kernel)
theorem q886 : (Jvm.Cond.laysFinal "RegattaTimesModel" "RegattaTimesModel" "snapshot" "[I") ∈ lw_g := mem_g 952 (by decide +kernel)
theorem q888 : (Jvm.Cond.lays "RegattaTimesModel" "RegattaTimesModel" "isTaken" "Z") ∈ lw_g := mem_g 954 (by decide +kernel)
theorem q890 : (Jvm.Cond.laysFinal "RegattaTimesModel" "RegattaTimesModel" "text" "[I") ∈ lw_g := mem_g 956 (by decide +kernel)
theorem q892 : (Jvm.Cond.lays "RegattaTimesModel" "RegattaTimesModel" "length" "I") ∈ lw_g := mem_g 958 (by decide +kernel)
theorem q894 : (Jvm.Cond.lays "RegattaTimesModel" "RegattaTimesModel" "place" "I") ∈ lw_g := mem_g 960 (by decide +kernel)
theorem q896 : (Jvm.Cond.lays "RegattaTimesModel" "RegattaTimesModel" "letter" "I") ∈ lw_g := mem_g 962 (by decide +kernel)
theorem q898 : (Jvm.Cond.lays "RegattaTimesModel" "RegattaTimesModel" "one" "I") ∈ lw_g := mem_g 964 (by decide +kernel)
theorem q900 : (Jvm.Cond.lays "RegattaTimesModel" "RegattaTimesModel" "other" "I") ∈ lw_g := mem_g 966 (by decide +kernel)
theorem q902 : (Jvm.Cond.lays "RegattaTimesModel" "RegattaTimesModel" "done" "I") ∈ lw_g := mem_g 968 (by decide +kernel)
theorem q904 : (Jvm.Cond.superclass "RegattaTimesModel" "java/lang/Object") ∈ lw_g := mem_g 970 (by decide +kernel)
theorem q905 : (Jvm.Cond.methodLink "RegattaTimesLaw" (17 : Nat) ({ cls := "RegattaTimesModel", name := "enter", desc := "(I)I" } : Jvm.MethodName)) ∈ lw_g := mem_g 971 (by decide +kernel)
theorem q906 : (Jvm.Cond.instanceMethod ({ cls := "RegattaTimesModel", name := "enter", desc := "(I)I" } : Jvm.MethodName)) ∈ lw_g := mem_g 972 (by decide +kernel)
theorem q907 : (Jvm.Cond.selects "RegattaTimesModel" ({ cls := "RegattaTimesModel", name := "enter", desc := "(I)I" } : Jvm.MethodName) ({ cls := "RegattaTimesModel", name := "enter", desc := "(I)I" } : Jvm.MethodName)) ∈ lw_g := mem_g 973 (by decide +kernel)
theorem q908 : (Jvm.Cond.code ({ cls := "RegattaTimesModel", name := "enter", desc := "(I)I" } : Jvm.MethodName) prog_10_method_32_code (2 : Nat) (Option.some Jvm.ClassFile.FieldType.int)) ∈ lw_g := mem_g 974 (by decide +kernel)
theorem q909 : (Jvm.Cond.methodLink "RegattaTimesModel" (22 : Nat) ({ cls := "RegattaTimesModel", name := "in", desc := "(III)Z" } : Jvm.MethodName)) ∈ lw_g := mem_g 975 (by decide +kernel)
theorem q910 : (Jvm.Cond.static ({ cls := "RegattaTimesModel", name := "in", desc := "(III)Z" } : Jvm.MethodName)) ∈ lw_g := mem_g 976 (by decide +kernel)
theorem q911 : (Jvm.Cond.code ({ cls := "RegattaTimesModel", name := "in", desc := "(III)Z" } : Jvm.MethodName) prog_10_method_3_code (3 : Nat) (Option.some Jvm.ClassFile.FieldType.boolean)) ∈ lw_g := mem_g 977 (by decide +kernel)
theorem q912 : (Jvm.Cond.methodLink "RegattaTimesModel" (81 : Nat) ({ cls := "RegattaTimesModel", name := "record", desc := "()V" } : Jvm.MethodName)) ∈ lw_g := mem_g 978 (by decide +kernel)
theorem q914 : (Jvm.Cond.instanceMethod ({ cls := "RegattaTimesModel", name := "record", desc := "()V" } : Jvm.MethodName)) ∈ lw_g := mem_g 980 (by decide +kernel)
theorem q915 : (Jvm.Cond.code ({ cls := "RegattaTimesModel", name := "record", desc := "()V" } : Jvm.MethodName) prog_10_method_16_code (2 : Nat) (Option.none : Option Jvm.ClassFile.FieldType)) ∈ lw_g := mem_g 981 (by decide +kernel)
theorem q916 : (Jvm.Cond.methodLink "RegattaTimesModel" (42 : Nat) ({ cls := "RegattaTimesModel", name := "copy", desc := "([II[II)V" } : Jvm.MethodName)) ∈ lw_g := mem_g 982 (by decide +kernel)
theorem q917 : (Jvm.Cond.static ({ cls := "RegattaTimesModel", name := "copy", desc := "([II[II)V" } : Jvm.MethodName)) ∈ lw_g := mem_g 983 (by decide +kernel)
theorem q918 : (Jvm.Cond.code ({ cls := "RegattaTimesModel", name := "copy", desc := "([II[II)V" } : Jvm.MethodName) prog_10_method_15_code (5 : Nat) (Option.none : Option Jvm.ClassFile.FieldType)) ∈ lw_g := mem_g 984 (by decide +kernel)
theorem q919 : (Jvm.Cond.methodLink "RegattaTimesLaw" (22 : Nat) ({ cls := "RegattaTimesModel", name := "prepare", desc := "(III)I" } : Jvm.MethodName)) ∈ lw_g := mem_g 985 (by decide +kernel)
theorem q920 : (Jvm.Cond.instanceMethod ({ cls := "RegattaTimesModel", name := "prepare", desc := "(III)I" } : Jvm.MethodName)) ∈ lw_g := mem_g 986 (by decide +kernel)
theorem q921 : (Jvm.Cond.selects "RegattaTimesModel" ({ cls := "RegattaTimesModel", name := "prepare", desc := "(III)I" } : Jvm.MethodName) ({ cls := "RegattaTimesModel", name := "prepare", desc := "(III)I" } : Jvm.MethodName)) ∈ lw_g := mem_g 987 (by decide +kernel)
theorem q922 : (Jvm.Cond.code ({ cls := "RegattaTimesModel", name := "prepare", desc := "(III)I" } : Jvm.MethodName) prog_10_method_34_code (5 : Nat) (Option.some Jvm.ClassFile.FieldType.int)) ∈ lw_g := mem_g 988 (by decide +kernel)
theorem q923 : (Jvm.Cond.methodLink "RegattaTimesModel" (88 : Nat) ({ cls := "RegattaTimesModel", name := "isPrepared", desc := "()Z" } : Jvm.MethodName)) ∈ lw_g := mem_g 989 (by decide +kernel)
theorem q925 : (Jvm.Cond.instanceMethod ({ cls := "RegattaTimesModel", name := "isPrepared", desc := "()Z" } : Jvm.MethodName)) ∈ lw_g := mem_g 991 (by decide +kernel)
theorem q926 : (Jvm.Cond.code ({ cls := "RegattaTimesModel", name := "isPrepared", desc := "()Z" } : Jvm.MethodName) prog_10_method_12_code (1 : Nat) (Option.some Jvm.ClassFile.FieldType.boolean)) ∈ lw_g := mem_g 992 (by decide +kernel)
theorem q927 : (Jvm.Cond.methodLink "RegattaTimesModel" (26 : Nat) ({ cls := "RegattaTimesModel", name := "latest", desc := "()I" } : Jvm.MethodName)) ∈ lw_g := mem_g 993 (by decide +kernel)
theorem q929 : (Jvm.Cond.instanceMethod ({ cls := "RegattaTimesModel", name := "latest", desc := "()I" } : Jvm.MethodName)) ∈ lw_g := mem_g 995 (by decide +kernel)
theorem q930 : (Jvm.Cond.code ({ cls := "RegattaTimesModel", name := "latest", desc := "()I" } : Jvm.MethodName) prog_10_method_11_code (1 : Nat) (Option.some Jvm.ClassFile.FieldType.int)) ∈ lw_g := mem_g 996 (by decide +kernel)
theorem q931 : (Jvm.Cond.methodLink "RegattaTimesModel" (30 : Nat) ({ cls := "RegattaTimesModel", name := "ofRace", desc := "(II)I" } : Jvm.MethodName)) ∈ lw_g := mem_g 997 (by decide +kernel)
theorem q933 : (Jvm.Cond.instanceMethod ({ cls := "RegattaTimesModel", name := "ofRace", desc := "(II)I" } : Jvm.MethodName)) ∈ lw_g := mem_g 999 (by decide +kernel)
theorem q934 : (Jvm.Cond.code ({ cls := "RegattaTimesModel", name := "ofRace", desc := "(II)I" } : Jvm.MethodName) prog_10_method_7_code (3 : Nat) (Option.some Jvm.ClassFile.FieldType.int)) ∈ lw_g := mem_g 1000 (by decide +kernel)
theorem q935 : (Jvm.Cond.methodLink "RegattaTimesModel" (92 : Nat) ({ cls := "RegattaTimesModel", name := "clear", desc := "()V" } : Jvm.MethodName)) ∈ lw_g := mem_g 1001 (by decide +kernel)
theorem q937 : (Jvm.Cond.instanceMethod ({ cls := "RegattaTimesModel", name := "clear", desc := "()V" } : Jvm.MethodName)) ∈ lw_g := mem_g 1003 (by decide +kernel)
theorem q938 : (Jvm.Cond.code ({ cls := "RegattaTimesModel", name := "clear", desc := "()V" } : Jvm.MethodName) prog_10_method_33_code (3 : Nat) (Option.none : Option Jvm.ClassFile.FieldType)) ∈ lw_g := mem_g 1004 (by decide +kernel)
theorem q939 : (Jvm.Cond.methodLink "RegattaTimesModel" (84 : Nat) ({ cls := "RegattaTimesModel", name := "lay", desc := "(IIII)V" } : Jvm.MethodName)) ∈ lw_g := mem_g 1005 (by decide +kernel)
theorem q941 : (Jvm.Cond.instanceMethod ({ cls := "RegattaTimesModel", name := "lay", desc := "(IIII)V" } : Jvm.MethodName)) ∈ lw_g := mem_g 1007 (by decide +kernel)
theorem q942 : (Jvm.Cond.code ({ cls := "RegattaTimesModel", name := "lay", desc := "(IIII)V" } : Jvm.MethodName) prog_10_method_9_code (5 : Nat) (Option.none : Option Jvm.ClassFile.FieldType)) ∈ lw_g := mem_g 1008 (by decide +kernel)
theorem q943 : (Jvm.Cond.methodLink "RegattaTimesLaw" (26 : Nat) ({ cls := "RegattaTimesModel", name := "postpone", desc := "(I)I" } : Jvm.MethodName)) ∈ lw_g := mem_g 1009 (by decide +kernel)
theorem q944 : (Jvm.Cond.instanceMethod ({ cls := "RegattaTimesModel", name := "postpone", desc := "(I)I" } : Jvm.MethodName)) ∈ lw_g := mem_g 1010 (by decide +kernel)
theorem q945 : (Jvm.Cond.selects "RegattaTimesModel" ({ cls := "RegattaTimesModel", name := "postpone", desc := "(I)I" } : Jvm.MethodName) ({ cls := "RegattaTimesModel", name := "postpone", desc := "(I)I" } : Jvm.MethodName)) ∈ lw_g := mem_g 1011 (by decide +kernel)
theorem q946 : (Jvm.Cond.code ({ cls := "RegattaTimesModel", name := "postpone", desc := "(I)I" } : Jvm.MethodName) prog_10_method_35_code (2 : Nat) (Option.some Jvm.ClassFile.FieldType.int)) ∈ lw_g := mem_g 1012 (by decide +kernel)
theorem q947 : (Jvm.Cond.methodLink "RegattaTimesModel" (95 : Nat) ({ cls := "RegattaTimesModel", name := "start", desc := "()I" } : Jvm.MethodName)) ∈ lw_g := mem_g 1013 (by decide +kernel)
theorem q949 : (Jvm.Cond.instanceMethod ({ cls := "RegattaTimesModel", name := "start", desc := "()I" } : Jvm.MethodName)) ∈ lw_g := mem_g 1015 (by decide +kernel)
theorem q950 : (Jvm.Cond.code ({ cls := "RegattaTimesModel", name := "start", desc := "()I" } : Jvm.MethodName) prog_10_method_13_code (1 : Nat) (Option.some Jvm.ClassFile.FieldType.int)) ∈ lw_g := mem_g 1016 (by decide +kernel)
theorem q951 : (Jvm.Cond.methodLink "RegattaTimesLaw" (31 : Nat) ({ cls := "RegattaTimesModel", name := "recall", desc := "()I" } : Jvm.MethodName)) ∈ lw_g := mem_g 1017 (by decide +kernel)
theorem q952 : (Jvm.Cond.instanceMethod ({ cls := "RegattaTimesModel", name := "recall", desc := "()I" } : Jvm.MethodName)) ∈ lw_g := mem_g 1018 (by decide +kernel)
theorem q953 : (Jvm.Cond.selects "RegattaTimesModel" ({ cls := "RegattaTimesModel", name := "recall", desc := "()I" } : Jvm.MethodName) ({ cls := "RegattaTimesModel", name := "recall", desc := "()I" } : Jvm.MethodName)) ∈ lw_g := mem_g 1019 (by decide +kernel)
theorem q954 : (Jvm.Cond.code ({ cls := "RegattaTimesModel", name := "recall", desc := "()I" } : Jvm.MethodName) prog_10_method_36_code (1 : Nat) (Option.some Jvm.ClassFile.FieldType.int)) ∈ lw_g := mem_g 1020 (by decide +kernel)
theorem q955 : (Jvm.Cond.methodLink "RegattaTimesLaw" (35 : Nat) ({ cls := "RegattaTimesModel", name := "pass", desc := "(I)I" } : Jvm.MethodName)) ∈ lw_g := mem_g 1021 (by decide +kernel)
theorem q956 : (Jvm.Cond.instanceMethod ({ cls := "RegattaTimesModel", name := "pass", desc := "(I)I" } : Jvm.MethodName)) ∈ lw_g := mem_g 1022 (by decide +kernel)
theorem q957 : (Jvm.Cond.selects "RegattaTimesModel" ({ cls := "RegattaTimesModel", name := "pass", desc := "(I)I" } : Jvm.MethodName) ({ cls := "RegattaTimesModel", name := "pass", desc := "(I)I" } : Jvm.MethodName)) ∈ lw_g := mem_g 1023 (by decide +kernel)
theorem q958 : (Jvm.Cond.code ({ cls := "RegattaTimesModel", name := "pass", desc := "(I)I" } : Jvm.MethodName) prog_10_method_39_code (3 : Nat) (Option.some Jvm.ClassFile.FieldType.int)) ∈ lw_g := mem_g 1024 (by decide +kernel)
theorem q959 : (Jvm.Cond.methodLink "RegattaTimesModel" (99 : Nat) ({ cls := "RegattaTimesModel", name := "passError", desc := "(I)I" } : Jvm.MethodName)) ∈ lw_g := mem_g 1025 (by decide +kernel)
theorem q961 : (Jvm.Cond.instanceMethod ({ cls := "RegattaTimesModel", name := "passError", desc := "(I)I" } : Jvm.MethodName)) ∈ lw_g := mem_g 1027 (by decide +kernel)
theorem q962 : (Jvm.Cond.code ({ cls := "RegattaTimesModel", name := "passError", desc := "(I)I" } : Jvm.MethodName) prog_10_method_37_code (2 : Nat) (Option.some Jvm.ClassFile.FieldType.int)) ∈ lw_g := mem_g 1028 (by decide +kernel)
theorem q963 : (Jvm.Cond.constant "RegattaTimesModel" (98 : Nat) (999999 : Int32)) ∈ lw_g := mem_g 1029 (by decide +kernel)
theorem q964 : (Jvm.Cond.methodLink "RegattaTimesModel" (102 : Nat) ({ cls := "RegattaTimesModel", name := "doPass", desc := "(I)I" } : Jvm.MethodName)) ∈ lw_g := mem_g 1030 (by decide +kernel)
theorem q966 : (Jvm.Cond.instanceMethod ({ cls := "RegattaTimesModel", name := "doPass", desc := "(I)I" } : Jvm.MethodName)) ∈ lw_g := mem_g 1032 (by decide +kernel)
theorem q967 : (Jvm.Cond.code ({ cls := "RegattaTimesModel", name := "doPass", desc := "(I)I" } : Jvm.MethodName) prog_10_method_38_code (2 : Nat) (Option.some Jvm.ClassFile.FieldType.int)) ∈ lw_g := mem_g 1033 (by decide +kernel)
theorem q968 : (Jvm.Cond.methodLink "RegattaTimesLaw" (39 : Nat) ({ cls := "RegattaTimesModel", name := "line", desc := "(I)I" } : Jvm.MethodName)) ∈ lw_g := mem_g 1034 (by decide +kernel)
theorem q969 : (Jvm.Cond.instanceMethod ({ cls := "RegattaTimesModel", name := "line", desc := "(I)I" } : Jvm.MethodName)) ∈ lw_g := mem_g 1035 (by decide +kernel)
theorem q970 : (Jvm.Cond.selects "RegattaTimesModel" ({ cls := "RegattaTimesModel", name := "line", desc := "(I)I" } : Jvm.MethodName) ({ cls := "RegattaTimesModel", name := "line", desc := "(I)I" } : Jvm.MethodName)) ∈ lw_g := mem_g 1036 (by decide +kernel)
theorem q971 : (Jvm.Cond.code ({ cls := "RegattaTimesModel", name := "line", desc := "(I)I" } : Jvm.MethodName) prog_10_method_47_code (3 : Nat) (Option.some Jvm.ClassFile.FieldType.int)) ∈ lw_g := mem_g 1037 (by decide +kernel)
theorem q972 : (Jvm.Cond.methodLink "RegattaTimesModel" (115 : Nat) ({ cls := "RegattaTimesModel", name := "lineError", desc := "(I)I" } : Jvm.MethodName)) ∈ lw_g := mem_g 1038 (by decide +kernel)
theorem q974 : (Jvm.Cond.instanceMethod ({ cls := "RegattaTimesModel", name := "lineError", desc := "(I)I" } : Jvm.MethodName)) ∈ lw_g := mem_g 1040 (by decide +kernel)
theorem q975 : (Jvm.Cond.code ({ cls := "RegattaTimesModel", name := "lineError", desc := "(I)I" } : Jvm.MethodName) prog_10_method_41_code (3 : Nat) (Option.some Jvm.ClassFile.FieldType.int)) ∈ lw_g := mem_g 1041 (by decide +kernel)
theorem q976 : (Jvm.Cond.methodLink "RegattaTimesModel" (105 : Nat) ({ cls := "RegattaTimesModel", name := "isBoat", desc := "(I)Z" } : Jvm.MethodName)) ∈ lw_g := mem_g 1042 (by decide +kernel)
theorem q978 : (Jvm.Cond.instanceMethod ({ cls := "RegattaTimesModel", name := "isBoat", desc := "(I)Z" } : Jvm.MethodName)) ∈ lw_g := mem_g 1044 (by decide +kernel)
theorem q979 : (Jvm.Cond.code ({ cls := "RegattaTimesModel", name := "isBoat", desc := "(I)Z" } : Jvm.MethodName) prog_10_method_4_code (2 : Nat) (Option.some Jvm.ClassFile.FieldType.boolean)) ∈ lw_g := mem_g 1045 (by decide +kernel)
theorem q980 : (Jvm.Cond.methodLink "RegattaTimesModel" (109 : Nat) ({ cls := "RegattaTimesModel", name := "status", desc := "(I)I" } : Jvm.MethodName)) ∈ lw_g := mem_g 1046 (by decide +kernel)
theorem q982 : (Jvm.Cond.instanceMethod ({ cls := "RegattaTimesModel", name := "status", desc := "(I)I" } : Jvm.MethodName)) ∈ lw_g := mem_g 1048 (by decide +kernel)
theorem q983 : (Jvm.Cond.code ({ cls := "RegattaTimesModel", name := "status", desc := "(I)I" } : Jvm.MethodName) prog_10_method_14_code (2 : Nat) (Option.some Jvm.ClassFile.FieldType.int)) ∈ lw_g := mem_g 1049 (by decide +kernel)
theorem q984 : (Jvm.Cond.methodLink "RegattaTimesModel" (34 : Nat) ({ cls := "RegattaTimesModel", name := "of", desc := "(III)I" } : Jvm.MethodName)) ∈ lw_g := mem_g 1050 (by decide +kernel)
theorem q986 : (Jvm.Cond.instanceMethod ({ cls := "RegattaTimesModel", name := "of", desc := "(III)I" } : Jvm.MethodName)) ∈ lw_g := mem_g 1052 (by decide +kernel)
theorem q987 : (Jvm.Cond.code ({ cls := "RegattaTimesModel", name := "of", desc := "(III)I" } : Jvm.MethodName) prog_10_method_8_code (4 : Nat) (Option.some Jvm.ClassFile.FieldType.int)) ∈ lw_g := mem_g 1053 (by decide +kernel)
theorem q988 : (Jvm.Cond.methodLink "RegattaTimesModel" (112 : Nat) ({ cls := "RegattaTimesModel", name := "isWhole", desc := "(I)Z" } : Jvm.MethodName)) ∈ lw_g := mem_g 1054 (by decide +kernel)
theorem q990 : (Jvm.Cond.instanceMethod ({ cls := "RegattaTimesModel", name := "isWhole", desc := "(I)Z" } : Jvm.MethodName)) ∈ lw_g := mem_g 1056 (by decide +kernel)
theorem q991 : (Jvm.Cond.code ({ cls := "RegattaTimesModel", name := "isWhole", desc := "(I)Z" } : Jvm.MethodName) prog_10_method_40_code (2 : Nat) (Option.some Jvm.ClassFile.FieldType.boolean)) ∈ lw_g := mem_g 1057 (by decide +kernel)
theorem q992 : (Jvm.Cond.methodLink "RegattaTimesModel" (118 : Nat) ({ cls := "RegattaTimesModel", name := "doLine", desc := "(I)I" } : Jvm.MethodName)) ∈ lw_g := mem_g 1058 (by decide +kernel)
theorem q994 : (Jvm.Cond.instanceMethod ({ cls := "RegattaTimesModel", name := "doLine", desc := "(I)I" } : Jvm.MethodName)) ∈ lw_g := mem_g 1060 (by decide +kernel)
theorem q995 : (Jvm.Cond.code ({ cls := "RegattaTimesModel", name := "doLine", desc := "(I)I" } : Jvm.MethodName) prog_10_method_42_code (4 : Nat) (Option.some Jvm.ClassFile.FieldType.int)) ∈ lw_g := mem_g 1061 (by decide +kernel)
theorem q996 : (Jvm.Cond.methodLink "RegattaTimesLaw" (44 : Nat) ({ cls := "RegattaTimesModel", name := "buoy", desc := "(II)I" } : Jvm.MethodName)) ∈ lw_g := mem_g 1062 (by decide +kernel)
theorem q997 : (Jvm.Cond.instanceMethod ({ cls := "RegattaTimesModel", name := "buoy", desc := "(II)I" } : Jvm.MethodName)) ∈ lw_g := mem_g 1063 (by decide +kernel)
theorem q998 : (Jvm.Cond.selects "RegattaTimesModel" ({ cls := "RegattaTimesModel", name := "buoy", desc := "(II)I" } : Jvm.MethodName) ({ cls := "RegattaTimesModel", name := "buoy", desc := "(II)I" } : Jvm.MethodName)) ∈ lw_g := mem_g 1064 (by decide +kernel)
theorem q999 : (Jvm.Cond.code ({ cls := "RegattaTimesModel", name := "buoy", desc := "(II)I" } : Jvm.MethodName) prog_10_method_48_code (4 : Nat) (Option.some Jvm.ClassFile.FieldType.int)) ∈ lw_g := mem_g 1065 (by decide +kernel)
theorem q1000 : (Jvm.Cond.methodLink "RegattaTimesModel" (121 : Nat) ({ cls := "RegattaTimesModel", name := "buoyError", desc := "(II)I" } : Jvm.MethodName)) ∈ lw_g := mem_g 1066 (by decide +kernel)
theorem q1002 : (Jvm.Cond.instanceMethod ({ cls := "RegattaTimesModel", name := "buoyError", desc := "(II)I" } : Jvm.MethodName)) ∈ lw_g := mem_g 1068 (by decide +kernel)
theorem q1003 : (Jvm.Cond.code ({ cls := "RegattaTimesModel", name := "buoyError", desc := "(II)I" } : Jvm.MethodName) prog_10_method_43_code (3 : Nat) (Option.some Jvm.ClassFile.FieldType.int)) ∈ lw_g := mem_g 1069 (by decide +kernel)
theorem q1004 : (Jvm.Cond.methodLink "RegattaTimesModel" (124 : Nat) ({ cls := "RegattaTimesModel", name := "doBuoy", desc := "(II)I" } : Jvm.MethodName)) ∈ lw_g := mem_g 1070 (by decide +kernel)
theorem q1006 : (Jvm.Cond.instanceMethod ({ cls := "RegattaTimesModel", name := "doBuoy", desc := "(II)I" } : Jvm.MethodName)) ∈ lw_g := mem_g 1072 (by decide +kernel)
theorem q1007 : (Jvm.Cond.code ({ cls := "RegattaTimesModel", name := "doBuoy", desc := "(II)I" } : Jvm.MethodName) prog_10_method_44_code (4 : Nat) (Option.some Jvm.ClassFile.FieldType.int)) ∈ lw_g := mem_g 1073 (by decide +kernel)
theorem q1008 : (Jvm.Cond.methodLink "RegattaTimesLaw" (48 : Nat) ({ cls := "RegattaTimesModel", name := "retire", desc := "(I)I" } : Jvm.MethodName)) ∈ lw_g := mem_g 1074 (by decide +kernel)
theorem q1009 : (Jvm.Cond.instanceMethod ({ cls := "RegattaTimesModel", name := "retire", desc := "(I)I" } : Jvm.MethodName)) ∈ lw_g := mem_g 1075 (by decide +kernel)
theorem q1010 : (Jvm.Cond.selects "RegattaTimesModel" ({ cls := "RegattaTimesModel", name := "retire", desc := "(I)I" } : Jvm.MethodName) ({ cls := "RegattaTimesModel", name := "retire", desc := "(I)I" } : Jvm.MethodName)) ∈ lw_g := mem_g 1076 (by decide +kernel)
theorem q1011 : (Jvm.Cond.code ({ cls := "RegattaTimesModel", name := "retire", desc := "(I)I" } : Jvm.MethodName) prog_10_method_49_code (3 : Nat) (Option.some Jvm.ClassFile.FieldType.int)) ∈ lw_g := mem_g 1077 (by decide +kernel)
theorem q1012 : (Jvm.Cond.methodLink "RegattaTimesModel" (127 : Nat) ({ cls := "RegattaTimesModel", name := "retireError", desc := "(I)I" } : Jvm.MethodName)) ∈ lw_g := mem_g 1078 (by decide +kernel)
theorem q1014 : (Jvm.Cond.instanceMethod ({ cls := "RegattaTimesModel", name := "retireError", desc := "(I)I" } : Jvm.MethodName)) ∈ lw_g := mem_g 1080 (by decide +kernel)
theorem q1015 : (Jvm.Cond.code ({ cls := "RegattaTimesModel", name := "retireError", desc := "(I)I" } : Jvm.MethodName) prog_10_method_45_code (2 : Nat) (Option.some Jvm.ClassFile.FieldType.int)) ∈ lw_g := mem_g 1081 (by decide +kernel)
theorem q1016 : (Jvm.Cond.methodLink "RegattaTimesModel" (130 : Nat) ({ cls := "RegattaTimesModel", name := "doRetire", desc := "(I)I" } : Jvm.MethodName)) ∈ lw_g := mem_g 1082 (by decide +kernel)
theorem q1018 : (Jvm.Cond.instanceMethod ({ cls := "RegattaTimesModel", name := "doRetire", desc := "(I)I" } : Jvm.MethodName)) ∈ lw_g := mem_g 1084 (by decide +kernel)
theorem q1019 : (Jvm.Cond.code ({ cls := "RegattaTimesModel", name := "doRetire", desc := "(I)I" } : Jvm.MethodName) prog_10_method_46_code (3 : Nat) (Option.some Jvm.ClassFile.FieldType.int)) ∈ lw_g := mem_g 1085 (by decide +kernel)
theorem q1020 : (Jvm.Cond.methodLink "RegattaTimesLaw" (52 : Nat) ({ cls := "RegattaTimesModel", name := "close", desc := "()I" } : Jvm.MethodName)) ∈ lw_g := mem_g 1086 (by decide +kernel)
theorem q1021 : (Jvm.Cond.instanceMethod ({ cls := "RegattaTimesModel", name := "close", desc := "()I" } : Jvm.MethodName)) ∈ lw_g := mem_g 1087 (by decide +kernel)
theorem q1022 : (Jvm.Cond.selects "RegattaTimesModel" ({ cls := "RegattaTimesModel", name := "close", desc := "()I" } : Jvm.MethodName) ({ cls := "RegattaTimesModel", name := "close", desc := "()I" } : Jvm.MethodName)) ∈ lw_g := mem_g 1088 (by decide +kernel)
theorem q1023 : (Jvm.Cond.code ({ cls := "RegattaTimesModel", name := "close", desc := "()I" } : Jvm.MethodName) prog_10_method_50_code (1 : Nat) (Option.some Jvm.ClassFile.FieldType.int)) ∈ lw_g := mem_g 1089 (by decide +kernel)
theorem q1024 : (Jvm.Cond.methodLink "RegattaTimesModel" (133 : Nat) ({ cls := "RegattaTimesModel", name := "finishedIn", desc := "(I)I" } : Jvm.MethodName)) ∈ lw_g := mem_g 1090 (by decide +kernel)
theorem q1026 : (Jvm.Cond.instanceMethod ({ cls := "RegattaTimesModel", name := "finishedIn", desc := "(I)I" } : Jvm.MethodName)) ∈ lw_g := mem_g 1092 (by decide +kernel)
theorem q1027 : (Jvm.Cond.code ({ cls := "RegattaTimesModel", name := "finishedIn", desc := "(I)I" } : Jvm.MethodName) prog_10_method_29_code (4 : Nat) (Option.some Jvm.ClassFile.FieldType.int)) ∈ lw_g := mem_g 1093 (by decide +kernel)
theorem q1028 : (Jvm.Cond.methodLink "RegattaTimesLaw" (56 : Nat) ({ cls := "RegattaTimesModel", name := "hail", desc := "(II)I" } : Jvm.MethodName)) ∈ lw_g := mem_g 1094 (by decide +kernel)
theorem q1029 : (Jvm.Cond.instanceMethod ({ cls := "RegattaTimesModel", name := "hail", desc := "(II)I" } : Jvm.MethodName)) ∈ lw_g := mem_g 1095 (by decide +kernel)
theorem q1030 : (Jvm.Cond.selects "RegattaTimesModel" ({ cls := "RegattaTimesModel", name := "hail", desc := "(II)I" } : Jvm.MethodName) ({ cls := "RegattaTimesModel", name := "hail", desc := "(II)I" } : Jvm.MethodName)) ∈ lw_g := mem_g 1096 (by decide +kernel)
theorem q1031 : (Jvm.Cond.code ({ cls := "RegattaTimesModel", name := "hail", desc := "(II)I" } : Jvm.MethodName) prog_10_method_54_code (4 : Nat) (Option.some Jvm.ClassFile.FieldType.int)) ∈ lw_g := mem_g 1097 (by decide +kernel)
theorem q1032 : (Jvm.Cond.methodLink "RegattaTimesModel" (139 : Nat) ({ cls := "RegattaTimesModel", name := "hailError", desc := "(II)I" } : Jvm.MethodName)) ∈ lw_g := mem_g 1098 (by decide +kernel)
theorem q1034 : (Jvm.Cond.instanceMethod ({ cls := "RegattaTimesModel", name := "hailError", desc := "(II)I" } : Jvm.MethodName)) ∈ lw_g := mem_g 1100 (by decide +kernel)
theorem q1035 : (Jvm.Cond.code ({ cls := "RegattaTimesModel", name := "hailError", desc := "(II)I" } : Jvm.MethodName) prog_10_method_52_code (3 : Nat) (Option.some Jvm.ClassFile.FieldType.int)) ∈ lw_g := mem_g 1101 (by decide +kernel)
theorem q1036 : (Jvm.Cond.methodLink "RegattaTimesModel" (136 : Nat) ({ cls := "RegattaTimesModel", name := "isOnWater", desc := "(I)Z" } : Jvm.MethodName)) ∈ lw_g := mem_g 1102 (by decide +kernel)
theorem q1038 : (Jvm.Cond.instanceMethod ({ cls := "RegattaTimesModel", name := "isOnWater", desc := "(I)Z" } : Jvm.MethodName)) ∈ lw_g := mem_g 1104 (by decide +kernel)
theorem q1039 : (Jvm.Cond.code ({ cls := "RegattaTimesModel", name := "isOnWater", desc := "(I)Z" } : Jvm.MethodName) prog_10_method_51_code (2 : Nat) (Option.some Jvm.ClassFile.FieldType.boolean)) ∈ lw_g := mem_g 1105 (by decide +kernel)
theorem q1040 : (Jvm.Cond.methodLink "RegattaTimesModel" (142 : Nat) ({ cls := "RegattaTimesModel", name := "doHail", desc := "(II)I" } : Jvm.MethodName)) ∈ lw_g := mem_g 1106 (by decide +kernel)
theorem q1042 : (Jvm.Cond.instanceMethod ({ cls := "RegattaTimesModel", name := "doHail", desc := "(II)I" } : Jvm.MethodName)) ∈ lw_g := mem_g 1108 (by decide +kernel)
theorem q1043 : (Jvm.Cond.code ({ cls := "RegattaTimesModel", name := "doHail", desc := "(II)I" } : Jvm.MethodName) prog_10_method_53_code (4 : Nat) (Option.some Jvm.ClassFile.FieldType.int)) ∈ lw_g := mem_g 1109 (by decide +kernel)
theorem q1044 : (Jvm.Cond.methodLink "RegattaTimesLaw" (60 : Nat) ({ cls := "RegattaTimesModel", name := "file", desc := "(I)I" } : Jvm.MethodName)) ∈ lw_g := mem_g 1110 (by decide +kernel)
theorem q1045 : (Jvm.Cond.instanceMethod ({ cls := "RegattaTimesModel", name := "file", desc := "(I)I" } : Jvm.MethodName)) ∈ lw_g := mem_g 1111 (by decide +kernel)
theorem q1046 : (Jvm.Cond.selects "RegattaTimesModel" ({ cls := "RegattaTimesModel", name := "file", desc := "(I)I" } : Jvm.MethodName) ({ cls := "RegattaTimesModel", name := "file", desc := "(I)I" } : Jvm.MethodName)) ∈ lw_g := mem_g 1112 (by decide +kernel)
theorem q1047 : (Jvm.Cond.code ({ cls := "RegattaTimesModel", name := "file", desc := "(I)I" } : Jvm.MethodName) prog_10_method_56_code (4 : Nat) (Option.some Jvm.ClassFile.FieldType.int)) ∈ lw_g := mem_g 1113 (by decide +kernel)
theorem q1048 : (Jvm.Cond.methodLink "RegattaTimesModel" (145 : Nat) ({ cls := "RegattaTimesModel", name := "isProtest", desc := "(I)Z" } : Jvm.MethodName)) ∈ lw_g := mem_g 1114 (by decide +kernel)
theorem q1050 : (Jvm.Cond.instanceMethod ({ cls := "RegattaTimesModel", name := "isProtest", desc := "(I)Z" } : Jvm.MethodName)) ∈ lw_g := mem_g 1116 (by decide +kernel)
theorem q1051 : (Jvm.Cond.code ({ cls := "RegattaTimesModel", name := "isProtest", desc := "(I)Z" } : Jvm.MethodName) prog_10_method_6_code (2 : Nat) (Option.some Jvm.ClassFile.FieldType.boolean)) ∈ lw_g := mem_g 1117 (by decide +kernel)
theorem q1052 : (Jvm.Cond.methodLink "RegattaTimesModel" (148 : Nat) ({ cls := "RegattaTimesModel", name := "ofProtest", desc := "(II)I" } : Jvm.MethodName)) ∈ lw_g := mem_g 1118 (by decide +kernel)
theorem q1054 : (Jvm.Cond.instanceMethod ({ cls := "RegattaTimesModel", name := "ofProtest", desc := "(II)I" } : Jvm.MethodName)) ∈ lw_g := mem_g 1120 (by decide +kernel)
theorem q1055 : (Jvm.Cond.code ({ cls := "RegattaTimesModel", name := "ofProtest", desc := "(II)I" } : Jvm.MethodName) prog_10_method_10_code (3 : Nat) (Option.some Jvm.ClassFile.FieldType.int)) ∈ lw_g := mem_g 1121 (by decide +kernel)
theorem q1056 : (Jvm.Cond.methodLink "RegattaTimesModel" (151 : Nat) ({ cls := "RegattaTimesModel", name := "stage", desc := "(II)V" } : Jvm.MethodName)) ∈ lw_g := mem_g 1122 (by decide +kernel)
theorem q1058 : (Jvm.Cond.instanceMethod ({ cls := "RegattaTimesModel", name := "stage", desc := "(II)V" } : Jvm.MethodName)) ∈ lw_g := mem_g 1124 (by decide +kernel)
theorem q1059 : (Jvm.Cond.code ({ cls := "RegattaTimesModel", name := "stage", desc := "(II)V" } : Jvm.MethodName) prog_10_method_55_code (3 : Nat) (Option.none : Option Jvm.ClassFile.FieldType)) ∈ lw_g := mem_g 1125 (by decide +kernel)
theorem q1060 : (Jvm.Cond.methodLink "RegattaTimesLaw" (64 : Nat) ({ cls := "RegattaTimesModel", name := "accept", desc := "(I)I" } : Jvm.MethodName)) ∈ lw_g := mem_g 1126 (by decide +kernel)
theorem q1061 : (Jvm.Cond.instanceMethod ({ cls := "RegattaTimesModel", name := "accept", desc := "(I)I" } : Jvm.MethodName)) ∈ lw_g := mem_g 1127 (by decide +kernel)
theorem q1062 : (Jvm.Cond.selects "RegattaTimesModel" ({ cls := "RegattaTimesModel", name := "accept", desc := "(I)I" } : Jvm.MethodName) ({ cls := "RegattaTimesModel", name := "accept", desc := "(I)I" } : Jvm.MethodName)) ∈ lw_g := mem_g 1128 (by decide +kernel)
theorem q1063 : (Jvm.Cond.code ({ cls := "RegattaTimesModel", name := "accept", desc := "(I)I" } : Jvm.MethodName) prog_10_method_57_code (4 : Nat) (Option.some Jvm.ClassFile.FieldType.int)) ∈ lw_g := mem_g 1129 (by decide +kernel)
theorem q1064 : (Jvm.Cond.methodLink "RegattaTimesLaw" (69 : Nat) ({ cls := "RegattaTimesModel", name := "decide", desc := "(IZ)I" } : Jvm.MethodName)) ∈ lw_g := mem_g 1130 (by decide +kernel)
theorem q1065 : (Jvm.Cond.instanceMethod ({ cls := "RegattaTimesModel", name := "decide", desc := "(IZ)I" } : Jvm.MethodName)) ∈ lw_g := mem_g 1131 (by decide +kernel)
theorem q1066 : (Jvm.Cond.selects "RegattaTimesModel" ({ cls := "RegattaTimesModel", name := "decide", desc := "(IZ)I" } : Jvm.MethodName) ({ cls := "RegattaTimesModel", name := "decide", desc := "(IZ)I" } : Jvm.MethodName)) ∈ lw_g := mem_g 1132 (by decide +kernel)
theorem q1067 : (Jvm.Cond.code ({ cls := "RegattaTimesModel", name := "decide", desc := "(IZ)I" } : Jvm.MethodName) prog_10_method_58_code (3 : Nat) (Option.some Jvm.ClassFile.FieldType.int)) ∈ lw_g := mem_g 1133 (by decide +kernel)
theorem q1068 : (Jvm.Cond.methodLink "RegattaTimesModel" (155 : Nat) ({ cls := "RegattaTimesModel", name := "outIn", desc := "(I)I" } : Jvm.MethodName)) ∈ lw_g := mem_g 1134 (by decide +kernel)
theorem q1070 : (Jvm.Cond.instanceMethod ({ cls := "RegattaTimesModel", name := "outIn", desc := "(I)I" } : Jvm.MethodName)) ∈ lw_g := mem_g 1136 (by decide +kernel)
theorem q1071 : (Jvm.Cond.code ({ cls := "RegattaTimesModel", name := "outIn", desc := "(I)I" } : Jvm.MethodName) prog_10_method_30_code (4 : Nat) (Option.some Jvm.ClassFile.FieldType.int)) ∈ lw_g := mem_g 1137 (by decide +kernel)
theorem q1072 : (Jvm.Cond.methodLink "RegattaTimesLaw" (73 : Nat) ({ cls := "RegattaTimesModel", name := "set", desc := "(II)I" } : Jvm.MethodName)) ∈ lw_g := mem_g 1138 (by decide +kernel)
theorem q1073 : (Jvm.Cond.instanceMethod ({ cls := "RegattaTimesModel", name := "set", desc := "(II)I" } : Jvm.MethodName)) ∈ lw_g := mem_g 1139 (by decide +kernel)
theorem q1074 : (Jvm.Cond.selects "RegattaTimesModel" ({ cls := "RegattaTimesModel", name := "set", desc := "(II)I" } : Jvm.MethodName) ({ cls := "RegattaTimesModel", name := "set", desc := "(II)I" } : Jvm.MethodName)) ∈ lw_g := mem_g 1140 (by decide +kernel)
theorem q1075 : (Jvm.Cond.code ({ cls := "RegattaTimesModel", name := "set", desc := "(II)I" } : Jvm.MethodName) prog_10_method_59_code (4 : Nat) (Option.some Jvm.ClassFile.FieldType.int)) ∈ lw_g := mem_g 1141 (by decide +kernel)
theorem q1076 : (Jvm.Cond.methodLink "RegattaTimesLaw" (77 : Nat) ({ cls := "RegattaTimesModel", name := "append", desc := "(I)I" } : Jvm.MethodName)) ∈ lw_g := mem_g 1142 (by decide +kernel)
theorem q1077 : (Jvm.Cond.instanceMethod ({ cls := "RegattaTimesModel", name := "append", desc := "(I)I" } : Jvm.MethodName)) ∈ lw_g := mem_g 1143 (by decide +kernel)
theorem q1078 : (Jvm.Cond.selects "RegattaTimesModel" ({ cls := "RegattaTimesModel", name := "append", desc := "(I)I" } : Jvm.MethodName) ({ cls := "RegattaTimesModel", name := "append", desc := "(I)I" } : Jvm.MethodName)) ∈ lw_g := mem_g 1144 (by decide +kernel)
theorem q1079 : (Jvm.Cond.code ({ cls := "RegattaTimesModel", name := "append", desc := "(I)I" } : Jvm.MethodName) prog_10_method_60_code (2 : Nat) (Option.some Jvm.ClassFile.FieldType.int)) ∈ lw_g := mem_g 1145 (by decide +kernel)
theorem q1080 : (Jvm.Cond.methodLink "RegattaTimesLaw" (81 : Nat) ({ cls := "RegattaTimesModel", name := "clearText", desc := "()I" } : Jvm.MethodName)) ∈ lw_g := mem_g 1146 (by decide +kernel)
theorem q1081 : (Jvm.Cond.instanceMethod ({ cls := "RegattaTimesModel", name := "clearText", desc := "()I" } : Jvm.MethodName)) ∈ lw_g := mem_g 1147 (by decide +kernel)
theorem q1082 : (Jvm.Cond.selects "RegattaTimesModel" ({ cls := "RegattaTimesModel", name := "clearText", desc := "()I" } : Jvm.MethodName) ({ cls := "RegattaTimesModel", name := "clearText", desc := "()I" } : Jvm.MethodName)) ∈ lw_g := mem_g 1148 (by decide +kernel)
theorem q1083 : (Jvm.Cond.code ({ cls := "RegattaTimesModel", name := "clearText", desc := "()I" } : Jvm.MethodName) prog_10_method_61_code (2 : Nat) (Option.some Jvm.ClassFile.FieldType.int)) ∈ lw_g := mem_g 1149 (by decide +kernel)
theorem q1084 : (Jvm.Cond.methodLink "RegattaTimesLaw" (85 : Nat) ({ cls := "RegattaTimesModel", name := "fault", desc := "()I" } : Jvm.MethodName)) ∈ lw_g := mem_g 1150 (by decide +kernel)
theorem q1085 : (Jvm.Cond.instanceMethod ({ cls := "RegattaTimesModel", name := "fault", desc := "()I" } : Jvm.MethodName)) ∈ lw_g := mem_g 1151 (by decide +kernel)
theorem q1086 : (Jvm.Cond.selects "RegattaTimesModel" ({ cls := "RegattaTimesModel", name := "fault", desc := "()I" } : Jvm.MethodName) ({ cls := "RegattaTimesModel", name := "fault", desc := "()I" } : Jvm.MethodName)) ∈ lw_g := mem_g 1152 (by decide +kernel)
theorem q1087 : (Jvm.Cond.code ({ cls := "RegattaTimesModel", name := "fault", desc := "()I" } : Jvm.MethodName) prog_10_method_70_code (1 : Nat) (Option.some Jvm.ClassFile.FieldType.int)) ∈ lw_g := mem_g 1153 (by decide +kernel)
theorem q1088 : (Jvm.Cond.methodLink "RegattaTimesModel" (197 : Nat) ({ cls := "RegattaTimesModel", name := "readText", desc := "(Z)Z" } : Jvm.MethodName)) ∈ lw_g := mem_g 1154 (by decide +kernel)
theorem q1090 : (Jvm.Cond.instanceMethod ({ cls := "RegattaTimesModel", name := "readText", desc := "(Z)Z" } : Jvm.MethodName)) ∈ lw_g := mem_g 1156 (by decide +kernel)
theorem q1091 : (Jvm.Cond.code ({ cls := "RegattaTimesModel", name := "readText", desc := "(Z)Z" } : Jvm.MethodName) prog_10_method_69_code (3 : Nat) (Option.some Jvm.ClassFile.FieldType.boolean)) ∈ lw_g := mem_g 1157 (by decide +kernel)
theorem q1092 : (Jvm.Cond.methodLink "RegattaTimesModel" (185 : Nat) ({ cls := "RegattaTimesModel", name := "readEvent", desc := "()Z" } : Jvm.MethodName)) ∈ lw_g := mem_g 1158 (by decide +kernel)
theorem q1094 : (Jvm.Cond.instanceMethod ({ cls := "RegattaTimesModel", name := "readEvent", desc := "()Z" } : Jvm.MethodName)) ∈ lw_g := mem_g 1160 (by decide +kernel)
theorem q1095 : (Jvm.Cond.code ({ cls := "RegattaTimesModel", name := "readEvent", desc := "()Z" } : Jvm.MethodName) prog_10_method_66_code (1 : Nat) (Option.some Jvm.ClassFile.FieldType.boolean)) ∈ lw_g := mem_g 1161 (by decide +kernel)
theorem q1096 : (Jvm.Cond.methodLink "RegattaTimesModel" (170 : Nat) ({ cls := "RegattaTimesModel", name := "readSeconds", desc := "()I" } : Jvm.MethodName)) ∈ lw_g := mem_g 1162 (by decide +kernel)
theorem q1098 : (Jvm.Cond.instanceMethod ({ cls := "RegattaTimesModel", name := "readSeconds", desc := "()I" } : Jvm.MethodName)) ∈ lw_g := mem_g 1164 (by decide +kernel)
theorem q1099 : (Jvm.Cond.code ({ cls := "RegattaTimesModel", name := "readSeconds", desc := "()I" } : Jvm.MethodName) prog_10_method_65_code (2 : Nat) (Option.some Jvm.ClassFile.FieldType.int)) ∈ lw_g := mem_g 1165 (by decide +kernel)
theorem q1100 : (Jvm.Cond.methodLink "RegattaTimesModel" (164 : Nat) ({ cls := "RegattaTimesModel", name := "isNext", desc := "(II)Z" } : Jvm.MethodName)) ∈ lw_g := mem_g 1166 (by decide +kernel)
theorem q1102 : (Jvm.Cond.instanceMethod ({ cls := "RegattaTimesModel", name := "isNext", desc := "(II)Z" } : Jvm.MethodName)) ∈ lw_g := mem_g 1168 (by decide +kernel)
theorem q1103 : (Jvm.Cond.code ({ cls := "RegattaTimesModel", name := "isNext", desc := "(II)Z" } : Jvm.MethodName) prog_10_method_62_code (3 : Nat) (Option.some Jvm.ClassFile.FieldType.boolean)) ∈ lw_g := mem_g 1169 (by decide +kernel)
theorem q1104 : (Jvm.Cond.methodLink "RegattaTimesModel" (176 : Nat) ({ cls := "RegattaTimesModel", name := "readDigit", desc := "(I)I" } : Jvm.MethodName)) ∈ lw_g := mem_g 1170 (by decide +kernel)
theorem q1106 : (Jvm.Cond.instanceMethod ({ cls := "RegattaTimesModel", name := "readDigit", desc := "(I)I" } : Jvm.MethodName)) ∈ lw_g := mem_g 1172 (by decide +kernel)
theorem q1107 : (Jvm.Cond.code ({ cls := "RegattaTimesModel", name := "readDigit", desc := "(I)I" } : Jvm.MethodName) prog_10_method_64_code (3 : Nat) (Option.some Jvm.ClassFile.FieldType.int)) ∈ lw_g := mem_g 1173 (by decide +kernel)
theorem q1108 : (Jvm.Cond.methodLink "RegattaTimesModel" (188 : Nat) ({ cls := "RegattaTimesModel", name := "errorOfEvent", desc := "()I" } : Jvm.MethodName)) ∈ lw_g := mem_g 1174 (by decide +kernel)
theorem q1110 : (Jvm.Cond.instanceMethod ({ cls := "RegattaTimesModel", name := "errorOfEvent", desc := "()I" } : Jvm.MethodName)) ∈ lw_g := mem_g 1176 (by decide +kernel)
theorem q1111 : (Jvm.Cond.code ({ cls := "RegattaTimesModel", name := "errorOfEvent", desc := "()I" } : Jvm.MethodName) prog_10_method_67_code (1 : Nat) (Option.some Jvm.ClassFile.FieldType.int)) ∈ lw_g := mem_g 1177 (by decide +kernel)
theorem q1112 : (Jvm.Cond.methodLink "RegattaTimesModel" (191 : Nat) ({ cls := "RegattaTimesModel", name := "does", desc := "()I" } : Jvm.MethodName)) ∈ lw_g := mem_g 1178 (by decide +kernel)
theorem q1114 : (Jvm.Cond.instanceMethod ({ cls := "RegattaTimesModel", name := "does", desc := "()I" } : Jvm.MethodName)) ∈ lw_g := mem_g 1180 (by decide +kernel)
theorem q1115 : (Jvm.Cond.code ({ cls := "RegattaTimesModel", name := "does", desc := "()I" } : Jvm.MethodName) prog_10_method_68_code (1 : Nat) (Option.some Jvm.ClassFile.FieldType.int)) ∈ lw_g := mem_g 1181 (by decide +kernel)
theorem q1116 : (Jvm.Cond.methodLink "RegattaTimesModel" (194 : Nat) ({ cls := "RegattaTimesModel", name := "takes", desc := "(I)Z" } : Jvm.MethodName)) ∈ lw_g := mem_g 1182 (by decide +kernel)
theorem q1118 : (Jvm.Cond.instanceMethod ({ cls := "RegattaTimesModel", name := "takes", desc := "(I)Z" } : Jvm.MethodName)) ∈ lw_g := mem_g 1184 (by decide +kernel)
theorem q1119 : (Jvm.Cond.code ({ cls := "RegattaTimesModel", name := "takes", desc := "(I)Z" } : Jvm.MethodName) prog_10_method_63_code (3 : Nat) (Option.some Jvm.ClassFile.FieldType.boolean)) ∈ lw_g := mem_g 1185 (by decide +kernel)
theorem q1120 : (Jvm.Cond.methodLink "RegattaTimesLaw" (89 : Nat) ({ cls := "RegattaTimesModel", name := "run", desc := "()I" } : Jvm.MethodName)) ∈ lw_g := mem_g 1186 (by decide +kernel)
theorem q1121 : (Jvm.Cond.instanceMethod ({ cls := "RegattaTimesModel", name := "run", desc := "()I" } : Jvm.MethodName)) ∈ lw_g := mem_g 1187 (by decide +kernel)
theorem q1122 : (Jvm.Cond.selects "RegattaTimesModel" ({ cls := "RegattaTimesModel", name := "run", desc := "()I" } : Jvm.MethodName) ({ cls := "RegattaTimesModel", name := "run", desc := "()I" } : Jvm.MethodName)) ∈ lw_g := mem_g 1188 (by decide +kernel)
theorem q1123 : (Jvm.Cond.code ({ cls := "RegattaTimesModel", name := "run", desc := "()I" } : Jvm.MethodName) prog_10_method_71_code (1 : Nat) (Option.some Jvm.ClassFile.FieldType.int)) ∈ lw_g := mem_g 1189 (by decide +kernel)
theorem q1124 : (Jvm.Cond.methodLink "RegattaTimesLaw" (93 : Nat) ({ cls := "RegattaTimesModel", name := "undo", desc := "()I" } : Jvm.MethodName)) ∈ lw_g := mem_g 1190 (by decide +kernel)
theorem q1125 : (Jvm.Cond.instanceMethod ({ cls := "RegattaTimesModel", name := "undo", desc := "()I" } : Jvm.MethodName)) ∈ lw_g := mem_g 1191 (by decide +kernel)
theorem q1126 : (Jvm.Cond.selects "RegattaTimesModel" ({ cls := "RegattaTimesModel", name := "undo", desc := "()I" } : Jvm.MethodName) ({ cls := "RegattaTimesModel", name := "undo", desc := "()I" } : Jvm.MethodName)) ∈ lw_g := mem_g 1192 (by decide +kernel)
theorem q1127 : (Jvm.Cond.code ({ cls := "RegattaTimesModel", name := "undo", desc := "()I" } : Jvm.MethodName) prog_10_method_72_code (1 : Nat) (Option.some Jvm.ClassFile.FieldType.int)) ∈ lw_g := mem_g 1193 (by decide +kernel)
theorem q1128 : (Jvm.Cond.methodLink "RegattaTimesLaw" (97 : Nat) ({ cls := "RegattaTimesModel", name := "save", desc := "()I" } : Jvm.MethodName)) ∈ lw_g := mem_g 1194 (by decide +kernel)
theorem q1129 : (Jvm.Cond.instanceMethod ({ cls := "RegattaTimesModel", name := "save", desc := "()I" } : Jvm.MethodName)) ∈ lw_g := mem_g 1195 (by decide +kernel)
theorem q1130 : (Jvm.Cond.selects "RegattaTimesModel" ({ cls := "RegattaTimesModel", name := "save", desc := "()I" } : Jvm.MethodName) ({ cls := "RegattaTimesModel", name := "save", desc := "()I" } : Jvm.MethodName)) ∈ lw_g := mem_g 1196 (by decide +kernel)
theorem q1131 : (Jvm.Cond.code ({ cls := "RegattaTimesModel", name := "save", desc := "()I" } : Jvm.MethodName) prog_10_method_73_code (1 : Nat) (Option.some Jvm.ClassFile.FieldType.int)) ∈ lw_g := mem_g 1197 (by decide +kernel)
theorem q1132 : (Jvm.Cond.methodLink "RegattaTimesLaw" (101 : Nat) ({ cls := "RegattaTimesModel", name := "restore", desc := "()I" } : Jvm.MethodName)) ∈ lw_g := mem_g 1198 (by decide +kernel)
theorem q1133 : (Jvm.Cond.instanceMethod ({ cls := "RegattaTimesModel", name := "restore", desc := "()I" } : Jvm.MethodName)) ∈ lw_g := mem_g 1199 (by decide +kernel)
theorem q1134 : (Jvm.Cond.selects "RegattaTimesModel" ({ cls := "RegattaTimesModel", name := "restore", desc := "()I" } : Jvm.MethodName) ({ cls := "RegattaTimesModel", name := "restore", desc := "()I" } : Jvm.MethodName)) ∈ lw_g := mem_g 1200 (by decide +kernel)
theorem q1135 : (Jvm.Cond.code ({ cls := "RegattaTimesModel", name := "restore", desc := "()I" } : Jvm.MethodName) prog_10_method_74_code (1 : Nat) (Option.some Jvm.ClassFile.FieldType.int)) ∈ lw_g := mem_g 1201 (by decide +kernel)
theorem q1136 : (Jvm.Cond.methodLink "RegattaTimesLaw" (105 : Nat) ({ cls := "RegattaTimesModel", name := "result", desc := "(III)I" } : Jvm.MethodName)) ∈ lw_g := mem_g 1202 (by decide +kernel)
theorem q1137 : (Jvm.Cond.instanceMethod ({ cls := "RegattaTimesModel", name := "result", desc := "(III)I" } : Jvm.MethodName)) ∈ lw_g := mem_g 1203 (by decide +kernel)
theorem q1138 : (Jvm.Cond.selects "RegattaTimesModel" ({ cls := "RegattaTimesModel", name := "result", desc := "(III)I" } : Jvm.MethodName) ({ cls := "RegattaTimesModel", name := "result", desc := "(III)I" } : Jvm.MethodName)) ∈ lw_g := mem_g 1204 (by decide +kernel)
theorem q1139 : (Jvm.Cond.code ({ cls := "RegattaTimesModel", name := "result", desc := "(III)I" } : Jvm.MethodName) prog_10_method_75_code (5 : Nat) (Option.some Jvm.ClassFile.FieldType.int)) ∈ lw_g := mem_g 1205 (by decide +kernel)
theorem q1140 : (Jvm.Cond.methodLink "RegattaTimesModel" (205 : Nat) ({ cls := "RegattaTimesModel", name := "isRace", desc := "(I)Z" } : Jvm.MethodName)) ∈ lw_g := mem_g 1206 (by decide +kernel)
theorem q1142 : (Jvm.Cond.instanceMethod ({ cls := "RegattaTimesModel", name := "isRace", desc := "(I)Z" } : Jvm.MethodName)) ∈ lw_g := mem_g 1208 (by decide +kernel)
theorem q1143 : (Jvm.Cond.code ({ cls := "RegattaTimesModel", name := "isRace", desc := "(I)Z" } : Jvm.MethodName) prog_10_method_5_code (2 : Nat) (Option.some Jvm.ClassFile.FieldType.boolean)) ∈ lw_g := mem_g 1209 (by decide +kernel)
theorem q1144 : (Jvm.Cond.methodLink "RegattaTimesModel" (46 : Nat) ({ cls := "RegattaTimesModel", name := "elapsed", desc := "(II)I" } : Jvm.MethodName)) ∈ lw_g := mem_g 1210 (by decide +kernel)
theorem q1146 : (Jvm.Cond.instanceMethod ({ cls := "RegattaTimesModel", name := "elapsed", desc := "(II)I" } : Jvm.MethodName)) ∈ lw_g := mem_g 1212 (by decide +kernel)
theorem q1147 : (Jvm.Cond.code ({ cls := "RegattaTimesModel", name := "elapsed", desc := "(II)I" } : Jvm.MethodName) prog_10_method_17_code (3 : Nat) (Option.some Jvm.ClassFile.FieldType.int)) ∈ lw_g := mem_g 1213 (by decide +kernel)
theorem q1148 : (Jvm.Cond.methodLink "RegattaTimesModel" (53 : Nat) ({ cls := "RegattaTimesModel", name := "corrected", desc := "(II)I" } : Jvm.MethodName)) ∈ lw_g := mem_g 1214 (by decide +kernel)
theorem q1150 : (Jvm.Cond.instanceMethod ({ cls := "RegattaTimesModel", name := "corrected", desc := "(II)I" } : Jvm.MethodName)) ∈ lw_g := mem_g 1216 (by decide +kernel)
theorem q1151 : (Jvm.Cond.code ({ cls := "RegattaTimesModel", name := "corrected", desc := "(II)I" } : Jvm.MethodName) prog_10_method_18_code (3 : Nat) (Option.some Jvm.ClassFile.FieldType.int)) ∈ lw_g := mem_g 1217 (by decide +kernel)
theorem q1152 : (Jvm.Cond.methodLink "RegattaTimesModel" (56 : Nat) ({ cls := "RegattaTimesModel", name := "placeIn", desc := "(II)I" } : Jvm.MethodName)) ∈ lw_g := mem_g 1218 (by decide +kernel)
theorem q1154 : (Jvm.Cond.instanceMethod ({ cls := "RegattaTimesModel", name := "placeIn", desc := "(II)I" } : Jvm.MethodName)) ∈ lw_g := mem_g 1220 (by decide +kernel)
theorem q1155 : (Jvm.Cond.code ({ cls := "RegattaTimesModel", name := "placeIn", desc := "(II)I" } : Jvm.MethodName) prog_10_method_20_code (5 : Nat) (Option.some Jvm.ClassFile.FieldType.int)) ∈ lw_g := mem_g 1221 (by decide +kernel)
theorem q1156 : (Jvm.Cond.methodLink "RegattaTimesModel" (49 : Nat) ({ cls := "RegattaTimesModel", name := "counts", desc := "(II)Z" } : Jvm.MethodName)) ∈ lw_g := mem_g 1222 (by decide +kernel)
theorem q1158 : (Jvm.Cond.instanceMethod ({ cls := "RegattaTimesModel", name := "counts", desc := "(II)Z" } : Jvm.MethodName)) ∈ lw_g := mem_g 1224 (by decide +kernel)
theorem q1159 : (Jvm.Cond.code ({ cls := "RegattaTimesModel", name := "counts", desc := "(II)Z" } : Jvm.MethodName) prog_10_method_19_code (3 : Nat) (Option.some Jvm.ClassFile.FieldType.boolean)) ∈ lw_g := mem_g 1225 (by decide +kernel)
theorem q1160 : (Jvm.Cond.methodLink "RegattaTimesModel" (62 : Nat) ({ cls := "RegattaTimesModel", name := "pointsIn", desc := "(II)I" } : Jvm.MethodName)) ∈ lw_g := mem_g 1226 (by decide +kernel)
theorem q1162 : (Jvm.Cond.instanceMethod ({ cls := "RegattaTimesModel", name := "pointsIn", desc := "(II)I" } : Jvm.MethodName)) ∈ lw_g := mem_g 1228 (by decide +kernel)
theorem q1163 : (Jvm.Cond.code ({ cls := "RegattaTimesModel", name := "pointsIn", desc := "(II)I" } : Jvm.MethodName) prog_10_method_21_code (4 : Nat) (Option.some Jvm.ClassFile.FieldType.int)) ∈ lw_g := mem_g 1229 (by decide +kernel)
theorem q1164 : (Jvm.Cond.methodLink "RegattaTimesLaw" (109 : Nat) ({ cls := "RegattaTimesModel", name := "boat", desc := "(II)I" } : Jvm.MethodName)) ∈ lw_g := mem_g 1230 (by decide +kernel)
theorem q1165 : (Jvm.Cond.instanceMethod ({ cls := "RegattaTimesModel", name := "boat", desc := "(II)I" } : Jvm.MethodName)) ∈ lw_g := mem_g 1231 (by decide +kernel)
theorem q1166 : (Jvm.Cond.selects "RegattaTimesModel" ({ cls := "RegattaTimesModel", name := "boat", desc := "(II)I" } : Jvm.MethodName) ({ cls := "RegattaTimesModel", name := "boat", desc := "(II)I" } : Jvm.MethodName)) ∈ lw_g := mem_g 1232 (by decide +kernel)
theorem q1167 : (Jvm.Cond.code ({ cls := "RegattaTimesModel", name := "boat", desc := "(II)I" } : Jvm.MethodName) prog_10_method_76_code (3 : Nat) (Option.some Jvm.ClassFile.FieldType.int)) ∈ lw_g := mem_g 1233 (by decide +kernel)
theorem q1168 : (Jvm.Cond.methodLink "RegattaTimesModel" (72 : Nat) ({ cls := "RegattaTimesModel", name := "total", desc := "(I)I" } : Jvm.MethodName)) ∈ lw_g := mem_g 1234 (by decide +kernel)
theorem q1170 : (Jvm.Cond.instanceMethod ({ cls := "RegattaTimesModel", name := "total", desc := "(I)I" } : Jvm.MethodName)) ∈ lw_g := mem_g 1236 (by decide +kernel)
theorem q1171 : (Jvm.Cond.code ({ cls := "RegattaTimesModel", name := "total", desc := "(I)I" } : Jvm.MethodName) prog_10_method_25_code (3 : Nat) (Option.some Jvm.ClassFile.FieldType.int)) ∈ lw_g := mem_g 1237 (by decide +kernel)
theorem q1172 : (Jvm.Cond.methodLink "RegattaTimesModel" (65 : Nat) ({ cls := "RegattaTimesModel", name := "leftOut", desc := "(I)I" } : Jvm.MethodName)) ∈ lw_g := mem_g 1238 (by decide +kernel)
theorem q1174 : (Jvm.Cond.instanceMethod ({ cls := "RegattaTimesModel", name := "leftOut", desc := "(I)I" } : Jvm.MethodName)) ∈ lw_g := mem_g 1240 (by decide +kernel)
theorem q1175 : (Jvm.Cond.code ({ cls := "RegattaTimesModel", name := "leftOut", desc := "(I)I" } : Jvm.MethodName) prog_10_method_24_code (5 : Nat) (Option.some Jvm.ClassFile.FieldType.int)) ∈ lw_g := mem_g 1241 (by decide +kernel)
theorem q1176 : (Jvm.Cond.methodLink "RegattaTimesModel" (59 : Nat) ({ cls := "RegattaTimesModel", name := "closed", desc := "()I" } : Jvm.MethodName)) ∈ lw_g := mem_g 1242 (by decide +kernel)
theorem q1178 : (Jvm.Cond.instanceMethod ({ cls := "RegattaTimesModel", name := "closed", desc := "()I" } : Jvm.MethodName)) ∈ lw_g := mem_g 1244 (by decide +kernel)
theorem q1179 : (Jvm.Cond.code ({ cls := "RegattaTimesModel", name := "closed", desc := "()I" } : Jvm.MethodName) prog_10_method_22_code (3 : Nat) (Option.some Jvm.ClassFile.FieldType.int)) ∈ lw_g := mem_g 1245 (by decide +kernel)
theorem q1180 : (Jvm.Cond.methodLink "RegattaTimesModel" (69 : Nat) ({ cls := "RegattaTimesModel", name := "sumOf", desc := "(I)I" } : Jvm.MethodName)) ∈ lw_g := mem_g 1246 (by decide +kernel)
theorem q1182 : (Jvm.Cond.instanceMethod ({ cls := "RegattaTimesModel", name := "sumOf", desc := "(I)I" } : Jvm.MethodName)) ∈ lw_g := mem_g 1248 (by decide +kernel)
theorem q1183 : (Jvm.Cond.code ({ cls := "RegattaTimesModel", name := "sumOf", desc := "(I)I" } : Jvm.MethodName) prog_10_method_23_code (4 : Nat) (Option.some Jvm.ClassFile.FieldType.int)) ∈ lw_g := mem_g 1249 (by decide +kernel)
theorem q1184 : (Jvm.Cond.methodLink "RegattaTimesModel" (208 : Nat) ({ cls := "RegattaTimesModel", name := "rank", desc := "(I)I" } : Jvm.MethodName)) ∈ lw_g := mem_g 1250 (by decide +kernel)
theorem q1186 : (Jvm.Cond.instanceMethod ({ cls := "RegattaTimesModel", name := "rank", desc := "(I)I" } : Jvm.MethodName)) ∈ lw_g := mem_g 1252 (by decide +kernel)
theorem q1187 : (Jvm.Cond.code ({ cls := "RegattaTimesModel", name := "rank", desc := "(I)I" } : Jvm.MethodName) prog_10_method_28_code (4 : Nat) (Option.some Jvm.ClassFile.FieldType.int)) ∈ lw_g := mem_g 1253 (by decide +kernel)
theorem q1188 : (Jvm.Cond.methodLink "RegattaTimesModel" (78 : Nat) ({ cls := "RegattaTimesModel", name := "isAhead", desc := "(II)Z" } : Jvm.MethodName)) ∈ lw_g := mem_g 1254 (by decide +kernel)
theorem q1190 : (Jvm.Cond.instanceMethod ({ cls := "RegattaTimesModel", name := "isAhead", desc := "(II)Z" } : Jvm.MethodName)) ∈ lw_g := mem_g 1256 (by decide +kernel)
theorem q1191 : (Jvm.Cond.code ({ cls := "RegattaTimesModel", name := "isAhead", desc := "(II)Z" } : Jvm.MethodName) prog_10_method_27_code (5 : Nat) (Option.some Jvm.ClassFile.FieldType.boolean)) ∈ lw_g := mem_g 1257 (by decide +kernel)
theorem q1192 : (Jvm.Cond.methodLink "RegattaTimesModel" (75 : Nat) ({ cls := "RegattaTimesModel", name := "placesOf", desc := "(II)I" } : Jvm.MethodName)) ∈ lw_g := mem_g 1258 (by decide +kernel)
theorem q1194 : (Jvm.Cond.instanceMethod ({ cls := "RegattaTimesModel", name := "placesOf", desc := "(II)I" } : Jvm.MethodName)) ∈ lw_g := mem_g 1260 (by decide +kernel)
theorem q1195 : (Jvm.Cond.code ({ cls := "RegattaTimesModel", name := "placesOf", desc := "(II)I" } : Jvm.MethodName) prog_10_method_26_code (5 : Nat) (Option.some Jvm.ClassFile.FieldType.int)) ∈ lw_g := mem_g 1261 (by decide +kernel)
theorem q1196 : (Jvm.Cond.methodLink "RegattaTimesLaw" (113 : Nat) ({ cls := "RegattaTimesModel", name := "ranked", desc := "(I)I" } : Jvm.MethodName)) ∈ lw_g := mem_g 1262 (by decide +kernel)
theorem q1197 : (Jvm.Cond.instanceMethod ({ cls := "RegattaTimesModel", name := "ranked", desc := "(I)I" } : Jvm.MethodName)) ∈ lw_g := mem_g 1263 (by decide +kernel)
theorem q1198 : (Jvm.Cond.selects "RegattaTimesModel" ({ cls := "RegattaTimesModel", name := "ranked", desc := "(I)I" } : Jvm.MethodName) ({ cls := "RegattaTimesModel", name := "ranked", desc := "(I)I" } : Jvm.MethodName)) ∈ lw_g := mem_g 1264 (by decide +kernel)
theorem q1199 : (Jvm.Cond.code ({ cls := "RegattaTimesModel", name := "ranked", desc := "(I)I" } : Jvm.MethodName) prog_10_method_77_code (4 : Nat) (Option.some Jvm.ClassFile.FieldType.int)) ∈ lw_g := mem_g 1265 (by decide +kernel)
theorem q1200 : (Jvm.Cond.methodLink "RegattaTimesLaw" (117 : Nat) ({ cls := "RegattaTimesModel", name := "race", desc := "(II)I" } : Jvm.MethodName)) ∈ lw_g := mem_g 1266 (by decide +kernel)
theorem q1201 : (Jvm.Cond.instanceMethod ({ cls := "RegattaTimesModel", name := "race", desc := "(II)I" } : Jvm.MethodName)) ∈ lw_g := mem_g 1267 (by decide +kernel)
theorem q1202 : (Jvm.Cond.selects "RegattaTimesModel" ({ cls := "RegattaTimesModel", name := "race", desc := "(II)I" } : Jvm.MethodName) ({ cls := "RegattaTimesModel", name := "race", desc := "(II)I" } : Jvm.MethodName)) ∈ lw_g := mem_g 1268 (by decide +kernel)
theorem q1203 : (Jvm.Cond.code ({ cls := "RegattaTimesModel", name := "race", desc := "(II)I" } : Jvm.MethodName) prog_10_method_78_code (3 : Nat) (Option.some Jvm.ClassFile.FieldType.int)) ∈ lw_g := mem_g 1269 (by decide +kernel)
theorem q1204 : (Jvm.Cond.methodLink "RegattaTimesModel" (211 : Nat) ({ cls := "RegattaTimesModel", name := "bestIn", desc := "(I)I" } : Jvm.MethodName)) ∈ lw_g := mem_g 1270 (by decide +kernel)
theorem q1206 : (Jvm.Cond.instanceMethod ({ cls := "RegattaTimesModel", name := "bestIn", desc := "(I)I" } : Jvm.MethodName)) ∈ lw_g := mem_g 1272 (by decide +kernel)
theorem q1207 : (Jvm.Cond.code ({ cls := "RegattaTimesModel", name := "bestIn", desc := "(I)I" } : Jvm.MethodName) prog_10_method_31_code (4 : Nat) (Option.some Jvm.ClassFile.FieldType.int)) ∈ lw_g := mem_g 1273 (by decide +kernel)
theorem q1208 : (Jvm.Cond.methodLink "RegattaTimesLaw" (121 : Nat) ({ cls := "RegattaTimesModel", name := "protest", desc := "(II)I" } : Jvm.MethodName)) ∈ lw_g := mem_g 1274 (by decide +kernel)
theorem q1209 : (Jvm.Cond.instanceMethod ({ cls := "RegattaTimesModel", name := "protest", desc := "(II)I" } : Jvm.MethodName)) ∈ lw_g := mem_g 1275 (by decide +kernel)
theorem q1210 : (Jvm.Cond.selects "RegattaTimesModel" ({ cls := "RegattaTimesModel", name := "protest", desc := "(II)I" } : Jvm.MethodName) ({ cls := "RegattaTimesModel", name := "protest", desc := "(II)I" } : Jvm.MethodName)) ∈ lw_g := mem_g 1276 (by decide +kernel)
theorem q1211 : (Jvm.Cond.code ({ cls := "RegattaTimesModel", name := "protest", desc := "(II)I" } : Jvm.MethodName) prog_10_method_79_code (3 : Nat) (Option.some Jvm.ClassFile.FieldType.int)) ∈ lw_g := mem_g 1277 (by decide +kernel)
theorem q1212 : (Jvm.Cond.methodLink "RegattaTimesLaw" (125 : Nat) ({ cls := "RegattaTimesModel", name := "count", desc := "(I)I" } : Jvm.MethodName)) ∈ lw_g := mem_g 1278 (by decide +kernel)
theorem q1213 : (Jvm.Cond.instanceMethod ({ cls := "RegattaTimesModel", name := "count", desc := "(I)I" } : Jvm.MethodName)) ∈ lw_g := mem_g 1279 (by decide +kernel)
theorem q1214 : (Jvm.Cond.selects "RegattaTimesModel" ({ cls := "RegattaTimesModel", name := "count", desc := "(I)I" } : Jvm.MethodName) ({ cls := "RegattaTimesModel", name := "count", desc := "(I)I" } : Jvm.MethodName)) ∈ lw_g := mem_g 1280 (by decide +kernel)
theorem q1215 : (Jvm.Cond.code ({ cls := "RegattaTimesModel", name := "count", desc := "(I)I" } : Jvm.MethodName) prog_10_method_80_code (2 : Nat) (Option.some Jvm.ClassFile.FieldType.int)) ∈ lw_g := mem_g 1281 (by decide +kernel)
theorem q1216 : (Jvm.Cond.methodLink "RegattaTimesLaw" (129 : Nat) ({ cls := "RegattaTimesModel", name := "placeNow", desc := "(I)I" } : Jvm.MethodName)) ∈ lw_g := mem_g 1282 (by decide +kernel)
theorem q1217 : (Jvm.Cond.instanceMethod ({ cls := "RegattaTimesModel", name := "placeNow", desc := "(I)I" } : Jvm.MethodName)) ∈ lw_g := mem_g 1283 (by decide +kernel)
theorem q1218 : (Jvm.Cond.selects "RegattaTimesModel" ({ cls := "RegattaTimesModel", name := "placeNow", desc := "(I)I" } : Jvm.MethodName) ({ cls := "RegattaTimesModel", name := "placeNow", desc := "(I)I" } : Jvm.MethodName)) ∈ lw_g := mem_g 1284 (by decide +kernel)
theorem q1219 : (Jvm.Cond.code ({ cls := "RegattaTimesModel", name := "placeNow", desc := "(I)I" } : Jvm.MethodName) prog_10_method_81_code (2 : Nat) (Option.some Jvm.ClassFile.FieldType.int)) ∈ lw_g := mem_g 1285 (by decide +kernel)
theorem q1220 : (Jvm.Cond.methodLink "RegattaTimesLaw" (133 : Nat) ({ cls := "RegattaTimesModel", name := "secondsLeft", desc := "(I)I" } : Jvm.MethodName)) ∈ lw_g := mem_g 1286 (by decide +kernel)
theorem q1221 : (Jvm.Cond.instanceMethod ({ cls := "RegattaTimesModel", name := "secondsLeft", desc := "(I)I" } : Jvm.MethodName)) ∈ lw_g := mem_g 1287 (by decide +kernel)
theorem q1222 : (Jvm.Cond.selects "RegattaTimesModel" ({ cls := "RegattaTimesModel", name := "secondsLeft", desc := "(I)I" } : Jvm.MethodName) ({ cls := "RegattaTimesModel", name := "secondsLeft", desc := "(I)I" } : Jvm.MethodName)) ∈ lw_g := mem_g 1288 (by decide +kernel)
theorem q1223 : (Jvm.Cond.code ({ cls := "RegattaTimesModel", name := "secondsLeft", desc := "(I)I" } : Jvm.MethodName) prog_10_method_82_code (5 : Nat) (Option.some Jvm.ClassFile.FieldType.int)) ∈ lw_g := mem_g 1289 (by decide +kernel)
theorem q1224 : (Jvm.Cond.methodLink "RegattaTimesLaw" (137 : Nat) ({ cls := "RegattaTimesModel", name := "rankIfDisqualified", desc := "(II)I" } : Jvm.MethodName)) ∈ lw_g := mem_g 1290 (by decide +kernel)
theorem q1225 : (Jvm.Cond.instanceMethod ({ cls := "RegattaTimesModel", name := "rankIfDisqualified", desc := "(II)I" } : Jvm.MethodName)) ∈ lw_g := mem_g 1291 (by decide +kernel)
theorem q1226 : (Jvm.Cond.selects "RegattaTimesModel" ({ cls := "RegattaTimesModel", name := "rankIfDisqualified", desc := "(II)I" } : Jvm.MethodName) ({ cls := "RegattaTimesModel", name := "rankIfDisqualified", desc := "(II)I" } : Jvm.MethodName)) ∈ lw_g := mem_g 1292 (by decide +kernel)
theorem q1227 : (Jvm.Cond.code ({ cls := "RegattaTimesModel", name := "rankIfDisqualified", desc := "(II)I" } : Jvm.MethodName) prog_10_method_83_code (5 : Nat) (Option.some Jvm.ClassFile.FieldType.int)) ∈ lw_g := mem_g 1293 (by decide +kernel)
theorem q1228 : (Jvm.Cond.methodLink "RegattaTimesLaw" (142 : Nat) ({ cls := "RegattaTimesModel", name := "mean", desc := "(I)F" } : Jvm.MethodName)) ∈ lw_g := mem_g 1294 (by decide +kernel)
theorem q1229 : (Jvm.Cond.instanceMethod ({ cls := "RegattaTimesModel", name := "mean", desc := "(I)F" } : Jvm.MethodName)) ∈ lw_g := mem_g 1295 (by decide +kernel)
theorem q1230 : (Jvm.Cond.selects "RegattaTimesModel" ({ cls := "RegattaTimesModel", name := "mean", desc := "(I)F" } : Jvm.MethodName) ({ cls := "RegattaTimesModel", name := "mean", desc := "(I)F" } : Jvm.MethodName)) ∈ lw_g := mem_g 1296 (by decide +kernel)
theorem q1231 : (Jvm.Cond.code ({ cls := "RegattaTimesModel", name := "mean", desc := "(I)F" } : Jvm.MethodName) prog_10_method_84_code (2 : Nat) (Option.some Jvm.ClassFile.FieldType.float)) ∈ lw_g := mem_g 1297 (by decide +kernel)
theorem q1232 : (Jvm.Cond.sameMethod "java/lang/AbstractStringBuilder" "java/lang/AbstractStringBuilder" "length" "()I") ∈ lw_g := mem_g 1298 (by decide +kernel)
theorem q1233 : (Jvm.Cond.sameMethod "java/lang/AbstractStringBuilder" "java/lang/AbstractStringBuilder" "append" "(C)Ljava/lang/AbstractStringBuilder;") ∈ lw_g := mem_g 1299 (by decide +kernel)
theorem q1234 : (Jvm.Cond.sameMethod "java/lang/AbstractStringBuilder" "java/lang/AbstractStringBuilder" "ensureCapacityInternal" "(I)V") ∈ lw_g := mem_g 1300 (by decide +kernel)
theorem q1235 : (Jvm.Cond.sameMethod "java/lang/AbstractStringBuilder" "java/lang/AbstractStringBuilder" "newCapacity" "(I)I") ∈ lw_g := mem_g 1301 (by decide +kernel)
theorem q1236 : (Jvm.Cond.sameMethod "java/lang/AbstractStringBuilder" "java/lang/AbstractStringBuilder" "inflate" "()V") ∈ lw_g := mem_g 1302 (by decide +kernel)
theorem q1237 : (Jvm.Cond.sameMethod "java/lang/AbstractStringBuilder" "java/lang/AbstractStringBuilder" "setLength" "(I)V") ∈ lw_g := mem_g 1303 (by decide +kernel)
theorem q1238 : (Jvm.Cond.sameMethod "java/lang/AbstractStringBuilder" "java/lang/AbstractStringBuilder" "charAt" "(I)C") ∈ lw_g := mem_g 1304 (by decide +kernel)
theorem qs0 : Cond.selects "RegattaTimes$Committee" ⟨"RegattaTimes$Committee", "startAnew", "(I)V"⟩ ⟨"RegattaTimes$Committee", "startAnew", "(I)V"⟩ ∈ lw_g := mem_g 0 (by decide +kernel)
theorem qs1 : Cond.selects "RegattaTimes$Committee" ⟨"RegattaTimes$Committee", "kindAfterLine", "(I)I"⟩ ⟨"RegattaTimes$Committee", "kindAfterLine", "(I)I"⟩ ∈ lw_g := mem_g 1 (by decide +kernel)
theorem qs2 : Cond.selects "RegattaTimes$Committee" ⟨"RegattaTimes$Committee", "hasAllRoundings", "(I)Z"⟩ ⟨"RegattaTimes$Committee", "hasAllRoundings", "(I)Z"⟩ ∈ lw_g := mem_g 2 (by decide +kernel)
theorem qs3 : Cond.selects "RegattaTimes$Jury" ⟨"RegattaTimes$Jury", "isOnCourse", "(I)Z"⟩ ⟨"RegattaTimes$Jury", "isOnCourse", "(I)Z"⟩ ∈ lw_g := mem_g 3 (by decide +kernel)
theorem qs4 : Cond.selects "RegattaTimes$Log" ⟨"RegattaTimes$Log", "expectedAfter", "(IC)I"⟩ ⟨"RegattaTimes$Log", "expectedAfter", "(IC)I"⟩ ∈ lw_g := mem_g 4 (by decide +kernel)
theorem qs5 : Cond.selects "RegattaTimes$Log" ⟨"RegattaTimes$Log", "expectedAfterLetter", "(C)I"⟩ ⟨"RegattaTimes$Log", "expectedAfterLetter", "(C)I"⟩ ∈ lw_g := mem_g 5 (by decide +kernel)
theorem qs6 : Cond.selects "RegattaTimes$Log" ⟨"RegattaTimes$Log", "isIn", "(CCC)Z"⟩ ⟨"RegattaTimes$Log", "isIn", "(CCC)Z"⟩ ∈ lw_g := mem_g 6 (by decide +kernel)
theorem qs7 : Cond.selects "RegattaTimes$Log" ⟨"RegattaTimes$Log", "expectedAfterEvent", "(C)I"⟩ ⟨"RegattaTimes$Log", "expectedAfterEvent", "(C)I"⟩ ∈ lw_g := mem_g 7 (by decide +kernel)
theorem qs8 : Cond.selects "RegattaTimes$Log" ⟨"RegattaTimes$Log", "canEnd", "(I)Z"⟩ ⟨"RegattaTimes$Log", "canEnd", "(I)Z"⟩ ∈ lw_g := mem_g 8 (by decide +kernel)
theorem qs9 : Cond.selects "RegattaTimes" ⟨"RegattaTimes", "carryOutEvent", "(II)I"⟩ ⟨"RegattaTimes", "carryOutEvent", "(II)I"⟩ ∈ lw_g := mem_g 9 (by decide +kernel)
theorem qs10 : Cond.selects "RegattaTimes$Scores" ⟨"RegattaTimes$Scores", "readTimes", "(I)V"⟩ ⟨"RegattaTimes$Scores", "readTimes", "(I)V"⟩ ∈ lw_g := mem_g 10 (by decide +kernel)
theorem qs11 : Cond.selects "RegattaTimes$Scores" ⟨"RegattaTimes$Scores", "place", "(I)I"⟩ ⟨"RegattaTimes$Scores", "place", "(I)I"⟩ ∈ lw_g := mem_g 11 (by decide +kernel)
theorem qs12 : Cond.selects "RegattaTimes$Scores" ⟨"RegattaTimes$Scores", "pointsFor", "(III)I"⟩ ⟨"RegattaTimes$Scores", "pointsFor", "(III)I"⟩ ∈ lw_g := mem_g 12 (by decide +kernel)
theorem qs13 : Cond.selects "RegattaTimes$Scores" ⟨"RegattaTimes$Scores", "recountRace", "(I)V"⟩ ⟨"RegattaTimes$Scores", "recountRace", "(I)V"⟩ ∈ lw_g := mem_g 13 (by decide +kernel)
theorem qs14 : Cond.selects "RegattaTimes$Scores" ⟨"RegattaTimes$Scores", "sumUp", "(I)V"⟩ ⟨"RegattaTimes$Scores", "sumUp", "(I)V"⟩ ∈ lw_g := mem_g 14 (by decide +kernel)
theorem qs15 : Cond.selects "RegattaTimes$Scores" ⟨"RegattaTimes$Scores", "isDropping", "()Z"⟩ ⟨"RegattaTimes$Scores", "isDropping", "()Z"⟩ ∈ lw_g := mem_g 15 (by decide +kernel)
theorem qs16 : Cond.selects "RegattaTimes$Scores" ⟨"RegattaTimes$Scores", "isAhead", "(II)Z"⟩ ⟨"RegattaTimes$Scores", "isAhead", "(II)Z"⟩ ∈ lw_g := mem_g 16 (by decide +kernel)
theorem qs17 : Cond.selects "RegattaTimesModel" ⟨"RegattaTimesModel", "record", "()V"⟩ ⟨"RegattaTimesModel", "record", "()V"⟩ ∈ lw_g := mem_g 17 (by decide +kernel)
theorem qs18 : Cond.selects "RegattaTimesModel" ⟨"RegattaTimesModel", "isPrepared", "()Z"⟩ ⟨"RegattaTimesModel", "isPrepared", "()Z"⟩ ∈ lw_g := mem_g 18 (by decide +kernel)
theorem qs19 : Cond.selects "RegattaTimesModel" ⟨"RegattaTimesModel", "latest", "()I"⟩ ⟨"RegattaTimesModel", "latest", "()I"⟩ ∈ lw_g := mem_g 19 (by decide +kernel)
theorem qs20 : Cond.selects "RegattaTimesModel" ⟨"RegattaTimesModel", "ofRace", "(II)I"⟩ ⟨"RegattaTimesModel", "ofRace", "(II)I"⟩ ∈ lw_g := mem_g 20 (by decide +kernel)
theorem qs21 : Cond.selects "RegattaTimesModel" ⟨"RegattaTimesModel", "clear", "()V"⟩ ⟨"RegattaTimesModel", "clear", "()V"⟩ ∈ lw_g := mem_g 21 (by decide +kernel)
theorem qs22 : Cond.selects "RegattaTimesModel" ⟨"RegattaTimesModel", "lay", "(IIII)V"⟩ ⟨"RegattaTimesModel", "lay", "(IIII)V"⟩ ∈ lw_g := mem_g 22 (by decide +kernel)
theorem qs23 : Cond.selects "RegattaTimesModel" ⟨"RegattaTimesModel", "start", "()I"⟩ ⟨"RegattaTimesModel", "start", "()I"⟩ ∈ lw_g := mem_g 23 (by decide +kernel)
theorem qs24 : Cond.selects "RegattaTimesModel" ⟨"RegattaTimesModel", "passError", "(I)I"⟩ ⟨"RegattaTimesModel", "passError", "(I)I"⟩ ∈ lw_g := mem_g 24 (by decide +kernel)
theorem qs25 : Cond.selects "RegattaTimesModel" ⟨"RegattaTimesModel", "doPass", "(I)I"⟩ ⟨"RegattaTimesModel", "doPass", "(I)I"⟩ ∈ lw_g := mem_g 25 (by decide +kernel)
theorem qs26 : Cond.selects "RegattaTimesModel" ⟨"RegattaTimesModel", "lineError", "(I)I"⟩ ⟨"RegattaTimesModel", "lineError", "(I)I"⟩ ∈ lw_g := mem_g 26 (by decide +kernel)
theorem qs27 : Cond.selects "RegattaTimesModel" ⟨"RegattaTimesModel", "isBoat", "(I)Z"⟩ ⟨"RegattaTimesModel", "isBoat", "(I)Z"⟩ ∈ lw_g := mem_g 27 (by decide +kernel)
theorem qs28 : Cond.selects "RegattaTimesModel" ⟨"RegattaTimesModel", "status", "(I)I"⟩ ⟨"RegattaTimesModel", "status", "(I)I"⟩ ∈ lw_g := mem_g 28 (by decide +kernel)
theorem qs29 : Cond.selects "RegattaTimesModel" ⟨"RegattaTimesModel", "of", "(III)I"⟩ ⟨"RegattaTimesModel", "of", "(III)I"⟩ ∈ lw_g := mem_g 29 (by decide +kernel)
theorem qs30 : Cond.selects "RegattaTimesModel" ⟨"RegattaTimesModel", "isWhole", "(I)Z"⟩ ⟨"RegattaTimesModel", "isWhole", "(I)Z"⟩ ∈ lw_g := mem_g 30 (by decide +kernel)
theorem qs31 : Cond.selects "RegattaTimesModel" ⟨"RegattaTimesModel", "doLine", "(I)I"⟩ ⟨"RegattaTimesModel", "doLine", "(I)I"⟩ ∈ lw_g := mem_g 31 (by decide +kernel)
theorem qs32 : Cond.selects "RegattaTimesModel" ⟨"RegattaTimesModel", "buoyError", "(II)I"⟩ ⟨"RegattaTimesModel", "buoyError", "(II)I"⟩ ∈ lw_g := mem_g 32 (by decide +kernel)
theorem qs33 : Cond.selects "RegattaTimesModel" ⟨"RegattaTimesModel", "doBuoy", "(II)I"⟩ ⟨"RegattaTimesModel", "doBuoy", "(II)I"⟩ ∈ lw_g := mem_g 33 (by decide +kernel)
theorem qs34 : Cond.selects "RegattaTimesModel" ⟨"RegattaTimesModel", "retireError", "(I)I"⟩ ⟨"RegattaTimesModel", "retireError", "(I)I"⟩ ∈ lw_g := mem_g 34 (by decide +kernel)
theorem qs35 : Cond.selects "RegattaTimesModel" ⟨"RegattaTimesModel", "doRetire", "(I)I"⟩ ⟨"RegattaTimesModel", "doRetire", "(I)I"⟩ ∈ lw_g := mem_g 35 (by decide +kernel)
theorem qs36 : Cond.selects "RegattaTimesModel" ⟨"RegattaTimesModel", "finishedIn", "(I)I"⟩ ⟨"RegattaTimesModel", "finishedIn", "(I)I"⟩ ∈ lw_g := mem_g 36 (by decide +kernel)
theorem qs37 : Cond.selects "RegattaTimesModel" ⟨"RegattaTimesModel", "hailError", "(II)I"⟩ ⟨"RegattaTimesModel", "hailError", "(II)I"⟩ ∈ lw_g := mem_g 37 (by decide +kernel)
theorem qs38 : Cond.selects "RegattaTimesModel" ⟨"RegattaTimesModel", "isOnWater", "(I)Z"⟩ ⟨"RegattaTimesModel", "isOnWater", "(I)Z"⟩ ∈ lw_g := mem_g 38 (by decide +kernel)
theorem qs39 : Cond.selects "RegattaTimesModel" ⟨"RegattaTimesModel", "doHail", "(II)I"⟩ ⟨"RegattaTimesModel", "doHail", "(II)I"⟩ ∈ lw_g := mem_g 39 (by decide +kernel)
theorem qs40 : Cond.selects "RegattaTimesModel" ⟨"RegattaTimesModel", "isProtest", "(I)Z"⟩ ⟨"RegattaTimesModel", "isProtest", "(I)Z"⟩ ∈ lw_g := mem_g 40 (by decide +kernel)
theorem qs41 : Cond.selects "RegattaTimesModel" ⟨"RegattaTimesModel", "ofProtest", "(II)I"⟩ ⟨"RegattaTimesModel", "ofProtest", "(II)I"⟩ ∈ lw_g := mem_g 41 (by decide +kernel)
theorem qs42 : Cond.selects "RegattaTimesModel" ⟨"RegattaTimesModel", "stage", "(II)V"⟩ ⟨"RegattaTimesModel", "stage", "(II)V"⟩ ∈ lw_g := mem_g 42 (by decide +kernel)
theorem qs43 : Cond.selects "RegattaTimesModel" ⟨"RegattaTimesModel", "outIn", "(I)I"⟩ ⟨"RegattaTimesModel", "outIn", "(I)I"⟩ ∈ lw_g := mem_g 43 (by decide +kernel)
theorem qs44 : Cond.selects "RegattaTimesModel" ⟨"RegattaTimesModel", "readText", "(Z)Z"⟩ ⟨"RegattaTimesModel", "readText", "(Z)Z"⟩ ∈ lw_g := mem_g 44 (by decide +kernel)
theorem qs45 : Cond.selects "RegattaTimesModel" ⟨"RegattaTimesModel", "readEvent", "()Z"⟩ ⟨"RegattaTimesModel", "readEvent", "()Z"⟩ ∈ lw_g := mem_g 45 (by decide +kernel)
theorem qs46 : Cond.selects "RegattaTimesModel" ⟨"RegattaTimesModel", "readSeconds", "()I"⟩ ⟨"RegattaTimesModel", "readSeconds", "()I"⟩ ∈ lw_g := mem_g 46 (by decide +kernel)
theorem qs47 : Cond.selects "RegattaTimesModel" ⟨"RegattaTimesModel", "isNext", "(II)Z"⟩ ⟨"RegattaTimesModel", "isNext", "(II)Z"⟩ ∈ lw_g := mem_g 47 (by decide +kernel)
theorem qs48 : Cond.selects "RegattaTimesModel" ⟨"RegattaTimesModel", "readDigit", "(I)I"⟩ ⟨"RegattaTimesModel", "readDigit", "(I)I"⟩ ∈ lw_g := mem_g 48 (by decide +kernel)
theorem qs49 : Cond.selects "RegattaTimesModel" ⟨"RegattaTimesModel", "errorOfEvent", "()I"⟩ ⟨"RegattaTimesModel", "errorOfEvent", "()I"⟩ ∈ lw_g := mem_g 49 (by decide +kernel)
theorem qs50 : Cond.selects "RegattaTimesModel" ⟨"RegattaTimesModel", "does", "()I"⟩ ⟨"RegattaTimesModel", "does", "()I"⟩ ∈ lw_g := mem_g 50 (by decide +kernel)
theorem qs51 : Cond.selects "RegattaTimesModel" ⟨"RegattaTimesModel", "takes", "(I)Z"⟩ ⟨"RegattaTimesModel", "takes", "(I)Z"⟩ ∈ lw_g := mem_g 51 (by decide +kernel)
theorem qs52 : Cond.selects "RegattaTimesModel" ⟨"RegattaTimesModel", "isRace", "(I)Z"⟩ ⟨"RegattaTimesModel", "isRace", "(I)Z"⟩ ∈ lw_g := mem_g 52 (by decide +kernel)
theorem qs53 : Cond.selects "RegattaTimesModel" ⟨"RegattaTimesModel", "elapsed", "(II)I"⟩ ⟨"RegattaTimesModel", "elapsed", "(II)I"⟩ ∈ lw_g := mem_g 53 (by decide +kernel)
theorem qs54 : Cond.selects "RegattaTimesModel" ⟨"RegattaTimesModel", "corrected", "(II)I"⟩ ⟨"RegattaTimesModel", "corrected", "(II)I"⟩ ∈ lw_g := mem_g 54 (by decide +kernel)
theorem qs55 : Cond.selects "RegattaTimesModel" ⟨"RegattaTimesModel", "placeIn", "(II)I"⟩ ⟨"RegattaTimesModel", "placeIn", "(II)I"⟩ ∈ lw_g := mem_g 55 (by decide +kernel)
theorem qs56 : Cond.selects "RegattaTimesModel" ⟨"RegattaTimesModel", "counts", "(II)Z"⟩ ⟨"RegattaTimesModel", "counts", "(II)Z"⟩ ∈ lw_g := mem_g 56 (by decide +kernel)
theorem qs57 : Cond.selects "RegattaTimesModel" ⟨"RegattaTimesModel", "pointsIn", "(II)I"⟩ ⟨"RegattaTimesModel", "pointsIn", "(II)I"⟩ ∈ lw_g := mem_g 57 (by decide +kernel)
theorem qs58 : Cond.selects "RegattaTimesModel" ⟨"RegattaTimesModel", "total", "(I)I"⟩ ⟨"RegattaTimesModel", "total", "(I)I"⟩ ∈ lw_g := mem_g 58 (by decide +kernel)
theorem qs59 : Cond.selects "RegattaTimesModel" ⟨"RegattaTimesModel", "leftOut", "(I)I"⟩ ⟨"RegattaTimesModel", "leftOut", "(I)I"⟩ ∈ lw_g := mem_g 59 (by decide +kernel)
theorem qs60 : Cond.selects "RegattaTimesModel" ⟨"RegattaTimesModel", "closed", "()I"⟩ ⟨"RegattaTimesModel", "closed", "()I"⟩ ∈ lw_g := mem_g 60 (by decide +kernel)
theorem qs61 : Cond.selects "RegattaTimesModel" ⟨"RegattaTimesModel", "sumOf", "(I)I"⟩ ⟨"RegattaTimesModel", "sumOf", "(I)I"⟩ ∈ lw_g := mem_g 61 (by decide +kernel)
theorem qs62 : Cond.selects "RegattaTimesModel" ⟨"RegattaTimesModel", "rank", "(I)I"⟩ ⟨"RegattaTimesModel", "rank", "(I)I"⟩ ∈ lw_g := mem_g 62 (by decide +kernel)
theorem qs63 : Cond.selects "RegattaTimesModel" ⟨"RegattaTimesModel", "isAhead", "(II)Z"⟩ ⟨"RegattaTimesModel", "isAhead", "(II)Z"⟩ ∈ lw_g := mem_g 63 (by decide +kernel)
theorem qs64 : Cond.selects "RegattaTimesModel" ⟨"RegattaTimesModel", "placesOf", "(II)I"⟩ ⟨"RegattaTimesModel", "placesOf", "(II)I"⟩ ∈ lw_g := mem_g 64 (by decide +kernel)
theorem qs65 : Cond.selects "RegattaTimesModel" ⟨"RegattaTimesModel", "bestIn", "(I)I"⟩ ⟨"RegattaTimesModel", "bestIn", "(I)I"⟩ ∈ lw_g := mem_g 65 (by decide +kernel)
theorem inX0 : ∀ w ∈ u_ws RX0 TX0 1, w ∈ lw_g := mem_rg [186] (by decide +kernel) (by decide +kernel)
theorem inX1 : ∀ w ∈ u_ws RX1 TX1 3, w ∈ lw_g := mem_rg [235, 237, 239] (by decide +kernel) (by decide +kernel)
theorem inX2 : ∀ w ∈ u_ws RX2 TX2 1, w ∈ lw_g := mem_rg [196] (by decide +kernel) (by decide +kernel)
theorem inX3 : ∀ w ∈ u_ws RX3 TX3 1, w ∈ lw_g := mem_rg [281] (by decide +kernel) (by decide +kernel)
theorem inX4 : ∀ w ∈ u_ws RX4 TX4 5, w ∈ lw_g := mem_rg [212, 214, 216, 218, 220] (by decide +kernel) (by decide +kernel)
theorem inX5 : ∀ w ∈ u_ws RX5 TX5 10, w ∈ lw_g := mem_rg [158, 160, 162, 164, 166, 168, 170, 172, 174, 176] (by decide +kernel) (by decide +kernel)
theorem inX6 : ∀ w ∈ u_ws RX6 TX6 2, w ∈ lw_g := mem_rg [111, 113] (by decide +kernel) (by decide +kernel)
theorem inX7 : ∀ w ∈ u_ws RX7 TX7 10, w ∈ lw_g := mem_rg [294, 296, 298, 300, 302, 304, 306, 308, 310, 312] (by decide +kernel) (by decide +kernel)
theorem inX8 : ∀ w ∈ u_ws RX8 TX8 12, w ∈ lw_g := mem_rg [946, 948, 950, 952, 954, 956, 958, 960, 962, 964, 966, 968] (by decide +kernel) (by decide +kernel)
theorem inJ4 : ∀ w ∈ u_ws RJ4 TJ4 4, w ∈ lw_g := mem_rg [270, 272, 274, 276] (by decide +kernel) (by decide +kernel)
end
section
/-! the world as a row of N cells at the addresses ad 0 .. ad (N - 1); F tells what each holds -/
theorem goodT : ∀ w ∈ lw_g, (w.onTables && w.keeps) = true ∨ ∃ ty, w = .arrayClass ty := fun w h => good_of_word (List.mem_filter.mp h).2
def wl (ad : Nat → Nat) (N : Nat) (F : Nat → va_E) : va_W := (List.range N).map (fun k => (ad k, F k))
theorem wl_get {ad : Nat → Nat} {N : Nat} {F : Nat → va_E} {k : Nat} (h : k < N) : (wl ad N F)[k]? = some (ad k, F k) := by
  simp [wl, h]
theorem wl_none {ad : Nat → Nat} {N : Nat} {F : Nat → va_E} {k : Nat} (h : ¬ k < N) : (wl ad N F)[k]? = none := by
  simp [wl]; omega
theorem wl_getE {ad : Nat → Nat} {N : Nat} {F : Nat → va_E} {k : Nat} {e : va_E} (h : k < N) (he : F k = e) : (wl ad N F)[k]? = some (ad k, e) := by
  rw [wl_get h, he]
theorem wl_set {ad : Nat → Nat} {N : Nat} {F : Nat → va_E} {k : Nat} (h : k < N) (e : va_E) : (wl ad N F).set k (ad k, e) = wl ad N (va_up F k e) := by
  apply List.ext_getElem?
  intro i
  rw [List.getElem?_set]
  by_cases hi : i < N
  · by_cases hk : k = i
    · subst hk
      have h1 : k < (wl ad N F).length := by simp [wl, h]
      rw [if_pos rfl, if_pos h1, wl_get hi]
      simp [va_up]
    · rw [if_neg hk, wl_get hi, wl_get hi]
      have : va_up F k e i = F i := by simp [va_up, Ne.symm hk]
      rw [this]
  · have hk : k ≠ i := fun q => hi (q ▸ h)
    rw [if_neg hk, wl_none hi, wl_none hi]
def iN (ad : Nat → Nat) (N : Nat) : Prop := ∀ i j, i < N → j < N → ad i = ad j → i = j
def Af (ad : Nat → Nat) (N : Nat) (sz : Nat) : Nat → Prop := fun q => (∃ k, k < N ∧ q = ad k) ∨ sz ≤ q
theorem wl_mem {ad : Nat → Nat} {N : Nat} {F : Nat → va_E} {k : Nat} {q : Nat × va_E} (h : (wl ad N F)[k]? = some q) : k < N ∧ q = (ad k, F k) := by
  by_cases hk : k < N
  · rw [wl_get hk] at h; exact ⟨hk, (Option.some.inj h).symm⟩
  · rw [wl_none hk] at h; cases h
theorem wl_D {ad : Nat → Nat} {N : Nat} {F : Nat → va_E} {sz : Nat} (hI : iN ad N) : va_D (Af ad N sz) (wl ad N F) := by
  refine ⟨fun i j p q hi hj hpq => ?_, fun k q hk => ?_⟩
  · obtain ⟨h1, rfl⟩ := wl_mem hi
    obtain ⟨h2, rfl⟩ := wl_mem hj
    exact hI i j h1 h2 hpq
  · obtain ⟨h1, rfl⟩ := wl_mem hk
    exact Or.inl ⟨k, h1, rfl⟩
abbrev tyL (cI cB cS : ClassId) : List (ClassId × FieldType) := [(cI, .int), (cB, .byte), (cS, .object "RegattaTimes$State")]
def KW (D : va_G) (cI cB cS : ClassId) (U : State) : Prop := va_K D vwCl (tyL cI cB cS) U
def HW (D : va_G) (ad : Nat → Nat) (N : Nat) (F : Nat → va_E) (s : State) (H : Heap) (locs : List Loc) : Prop := va_P D vwCl (wl ad N F) H ∧ va_S (Af ad N s.heap.size) s.heap H locs
/-- what a method's world is, at its start and behind it -/
def PW (D : va_G) (cI cB cS : ClassId) (ad : Nat → Nat) (N : Nat) (F : Nat → va_E) (U : State) : Prop := va_P D vwCl (wl ad N F) U.heap ∧ KW D cI cB cS U
def Ci (l : Launch) (D : va_G) (cI cB cS : ClassId) (ad : Nat → Nat) (N : Nat) (y : MethodName) (b : ByteArray) (n : Nat) (ret : Option FieldType) (fr lo : Nat) (av : List Value) (F : Nat → va_E) (post : Int32 → (Nat → va_E) → Prop) : Prop :=
  ∀ sz, Met l y (Cond.code y b n ret :: lw_g) { frames := fr, cells := 0, slots := 0, locals := lo } (va_Pc av (fun U => U.heap.size = sz ∧ PW D cI cB cS ad N F U)) (va_Qi post (fun F' t => PW D cI cB cS ad N F' t) (Af ad N sz)) 0 0 (Af ad N sz)
def Cv (l : Launch) (D : va_G) (cI cB cS : ClassId) (ad : Nat → Nat) (N : Nat) (y : MethodName) (b : ByteArray) (n : Nat) (fr lo : Nat) (av : List Value) (F : Nat → va_E) (post : (Nat → va_E) → Prop) : Prop :=
  ∀ sz, Met l y (Cond.code y b n none :: lw_g) { frames := fr, cells := 0, slots := 0, locals := lo } (va_Pc av (fun U => U.heap.size = sz ∧ PW D cI cB cS ad N F U)) (va_Qv post (fun F' t => PW D cI cB cS ad N F' t) (Af ad N sz)) 0 0 (Af ad N sz)
section Base
variable {p : Program} {l : Launch} {e : Env} {R : Room} {s : State} {m : MethodId} {args : Array Value} {below : List Frame} {meth : Method} {c : Code} {H : Heap} {locs : List Loc} {cells slots : Nat} {Q : State → Prop} {cc : ByteArray} {nL pc : Nat} {own : String} {ls : Array Slot} {rest : List Value}
  {D : va_G} {cI cB cS : ClassId} {ad : Nat → Nat} {N : Nat} {F : Nat → va_E}
theorem x_get (X : CallFix p m c cc nL s args lw_g own) (hK : KW D cI cB cS s) (hw : HW D ad N F s H locs) {C ref : String} {T : u_T} {nf ci index : Nat} {k : Nat} (hk : k < N) {fs : List Value} (he : F k = .inr (ci, fs)) (hc : vwCl[ci]? = some (C, T, nf)) (hin : ∀ w ∈ u_ws C T nf, w ∈ lw_g) (j : Nat) (hj : j < nf) (hl : Cond.fieldLink own index ref (T j).2.1 (T j).2.2.1 ∈ lw_g) (hsame : ∀ x, s.fieldFound? (T j).1 (T j).2.1 (T j).2.2.1 = some x → s.fieldFound? ref (T j).2.1 (T j).2.2.1 = some x) {v : Value} (hv : fs[j]? = some v) (hdg : decode cc pc = .ok (.getfield index, 3)) (kk : W p l e R s m args below meth c H locs cells slots Q (F0 m (pc + 3) ls (v :: rest))) : W p l e R s m args below meth c H locs cells slots Q (F0 m pc ls (.ref (ad k) :: rest)) :=
  va_get X.1 X.2.1 X.2.2.2.2 hin X.2.2.2.1 hK hw.1 k (wl_getE hk he) hc j hj (X.2.2.2.2 _ hl) hsame hv hdg kk
theorem x_put (X : CallFix p m c cc nL s args lw_g own) (hI : iN ad N) (hK : KW D cI cB cS s) (hw : HW D ad N F s H locs) {C ref : String} {T : u_T} {nf ci index : Nat} {k : Nat} (hk : k < N) {fs : List Value} (he : F k = .inr (ci, fs)) (hc : vwCl[ci]? = some (C, T, nf)) (hin : ∀ w ∈ u_ws C T nf, w ∈ lw_g) (ty0 : Nat → FieldType) (hty : ∀ k, k < nf → parseFieldDescriptor (T k).2.2.1 = some (ty0 k)) (hnm : ∀ a, a < nf → ∀ b, b < nf → a ≠ b → (T a).2.1 ≠ (T b).2.1) (j : Nat) (hj : j < nf) (hl : Cond.fieldLink own index ref (T j).2.1 (T j).2.2.1 ∈ lw_g) (hsame : ∀ x, s.fieldFound? (T j).1 (T j).2.1 (T j).2.2.1 = some x → s.fieldFound? ref (T j).2.1 (T j).2.2.1 = some x) (hfin : (T j).2.2.2 = false) {ty : FieldType} {v : Value} (hd : parseFieldDescriptor (T j).2.2.1 = some ty) (hn : narrow ty v = v) (hfit : fits ty v = true) (hlen : j < fs.length) (hdg : decode cc pc = .ok (.putfield index, 3))
    (kk : ∀ (H' : Heap) (locs' : List Loc), HW D ad N (va_up F k (.inr (ci, fs.set j v))) s H' locs' → W p l e R s m args below meth c H' locs' cells slots Q (F0 m (pc + 3) ls rest)) : W p l e R s m args below meth c H locs cells slots Q (F0 m pc ls (v :: .ref (ad k) :: rest)) :=
  va_put X.1 X.2.1 X.2.2.2.2 hin ty0 hty hnm X.2.2.2.1 hK hw.1 (wl_D hI) hw.2 k (wl_getE hk he) hc j hj (X.2.2.2.2 _ hl) hsame hfin hd hn hfit hlen hdg (fun H1 locs1 hP _ hS => kk H1 locs1 ⟨by rw [← wl_set hk]; exact hP, hS⟩)
theorem x_iald (X : CallFix p m c cc nL s args lw_g own) (hK : KW D cI cB cS s) (hw : HW D ad N F s H locs) {k n : Nat} (hk : k < N) {f : Nat → Int32} (he : F k = .inl (cI, n, .inl f)) {i : Int32} (hin : vp_in i n) (hdg : decode cc pc = .ok (.iaload, 1)) (kk : W p l e R s m args below meth c H locs cells slots Q (F0 m (pc + 1) ls (.int (f i.toNatClampNeg) :: rest))) : W p l e R s m args below meth c H locs cells slots Q (F0 m pc ls (.int i :: .ref (ad k) :: rest)) :=
  va_iald X.1 X.2.1 hK hw.1 k 0 (wl_getE hk he) rfl hin hdg kk
theorem x_iast (X : CallFix p m c cc nL s args lw_g own) (hI : iN ad N) (hK : KW D cI cB cS s) (hw : HW D ad N F s H locs) {k n : Nat} (hk : k < N) {f : Nat → Int32} (he : F k = .inl (cI, n, .inl f)) {i x : Int32} (hin : vp_in i n) (hdg : decode cc pc = .ok (.iastore, 1)) (kk : ∀ (H' : Heap) (locs' : List Loc), HW D ad N (va_up F k (.inl (cI, n, .inl (upd f i.toNatClampNeg x)))) s H' locs' → W p l e R s m args below meth c H' locs' cells slots Q (F0 m (pc + 1) ls rest)) : W p l e R s m args below meth c H locs cells slots Q (F0 m pc ls (.int x :: .int i :: .ref (ad k) :: rest)) :=
  va_iast X.1 X.2.1 hK hw.1 (wl_D hI) hw.2 k 0 (wl_getE hk he) rfl hin hdg (fun H1 locs1 hP _ hS => kk H1 locs1 ⟨by rw [← wl_set hk]; exact hP, hS⟩)
theorem x_alen (X : CallFix p m c cc nL s args lw_g own) (hK : KW D cI cB cS s) (hw : HW D ad N F s H locs) {k n : Nat} (hk : k < N) {f : Nat → Int32} (he : F k = .inl (cI, n, .inl f)) {v : Int32} (hv : Int32.ofNat n = v) (hdg : decode cc pc = .ok (.arraylength, 1)) (kk : W p l e R s m args below meth c H locs cells slots Q (F0 m (pc + 1) ls (.int v :: rest))) : W p l e R s m args below meth c H locs cells slots Q (F0 m pc ls (.ref (ad k) :: rest)) :=
  va_alen X.1 X.2.1 hK hw.1 k 0 (wl_getE hk he) rfl hv hdg kk
theorem mem_wsV {own C : String} {index : Nat} {y : MethodName} {b : ByteArray} {n : Nat} {ret : Option FieldType} (h1 : Cond.methodLink own index y ∈ lw_g) (h2 : Cond.instanceMethod y ∈ lw_g) (h3 : Cond.selects C y y ∈ lw_g) (h4 : Cond.initialized C ∈ lw_g) (h5 : Cond.code y b n ret ∈ lw_g) : GoodIn lw_g (wsV own index C y (Cond.code y b n ret :: lw_g)) := by
  intro w hw
  have : w ∈ lw_g := by
    rcases List.mem_append.mp hw with h | h
    · rcases List.mem_cons.mp h with rfl | h
      · exact h1
      rcases List.mem_cons.mp h with rfl | h
      · exact h2
      rcases List.mem_cons.mp h with rfl | h
      · exact h3
      rcases List.mem_cons.mp h with rfl | h
      · exact h4
      cases h
    · rcases List.mem_cons.mp h with rfl | h
      · exact h5
      · exact h
  exact ⟨this, goodT w this⟩
theorem mem_wsS {own : String} {index : Nat} {y : MethodName} {b : ByteArray} {n : Nat} {ret : Option FieldType} (h1 : Cond.methodLink own index y ∈ lw_g) (h2 : Cond.static y ∈ lw_g) (h4 : Cond.initialized own ∈ lw_g) (h5 : Cond.code y b n ret ∈ lw_g) : GoodIn lw_g (wsS own index y (Cond.code y b n ret :: lw_g)) := by
  intro w hw
  have : w ∈ lw_g := by
    rcases List.mem_append.mp hw with h | h
    · rcases List.mem_cons.mp h with rfl | h
      · exact h1
      rcases List.mem_cons.mp h with rfl | h
      · exact h2
      rcases List.mem_cons.mp h with rfl | h
      · exact h4
      cases h
    · rcases List.mem_cons.mp h with rfl | h
      · exact h5
      · exact h
  exact ⟨this, goodT w this⟩
theorem Af_sub {sz q : Nat} (hS : va_S (Af ad N s.heap.size) s.heap H locs) (hq : q < H.size) (h : Af ad N H.size q) : Af ad N s.heap.size q := by
  rcases h with h | h
  · exact Or.inl h
  · omega
theorem Af_all {q : Nat} (hS : va_S (Af ad N s.heap.size) s.heap H locs) (h : Af ad N H.size q) : Af ad N s.heap.size q := by
  rcases h with h | h
  · exact Or.inl h
  · exact Or.inr (Nat.le_trans hS.1 h)
theorem PW_blind {av : List Value} {sz : Nat} : FrameBlind (va_Pc av (fun U => U.heap.size = sz ∧ PW D cI cB cS ad N F U)) :=
  fun a U g mk q => ⟨q.1, q.2.1, q.2.2.1, va_K.moved (u := U) (U := U.calling g mk a) (Vm.Alike.refl U.vm) q.2.2.2⟩
theorem x_callV (X : CallFix p m c cc nL s args lw_g own) (hK : KW D cI cB cS s) (hw : HW D ad N F s H locs) {y : MethodName} {b : ByteArray} {n : Nat} {ret : Option FieldType} {fr lo k : Nat} {As : List Value} {post : Int32 → (Nat → va_E) → Prop} (hC : Ci l D cI cB cS ad N y b n ret fr lo (.ref (ad k) :: As) F post) {C : String} {index na : Nat} (cw : CallW R s args own C index y b n ret (Cond.code y b n ret :: lw_g) { frames := fr, cells := 0, slots := 0, locals := lo } 0 0 na) (hk : k < N) {ci : Nat} {fs : List Value} (he : F k = .inr (ci, fs)) {T : u_T} {nf : Nat} (hc : vwCl[ci]? = some (C, T, nf)) (hn : As.length = na) (hl : ls.size = nL) {st : List Value} (hst : st = As.reverse ++ .ref (ad k) :: rest) (hr : (rest.map fun v => v.category).sum ≤ 8) (hdg : decode cc pc = .ok (.invokevirtual index, 3)) (hf : cells ≤ R.cells ∧ slots ≤ R.slots)
    (kk : ∀ (r : Int32) (F' : Nat → va_E) (H' : Heap) (locs' : List Loc), post r F' → HW D ad N F' s H' locs' → W p l e R s m args below meth c H' locs' cells slots Q (F0 m (pc + 3) ls (.int r :: rest))) : W p l e R s m args below meth c H locs cells slots Q (F0 m pc ls st) :=
  va_calli (va_runV (As := As) (rest := rest) X (hC H.size) cw ⟨PW_blind, va_recv hK hw.1 hc (wl_getE hk he), fun U hU hW => ⟨rfl, by rw [hU], by rw [hU]; exact hw.1, va_K.moved hW.alike hK⟩⟩ rfl hn hl hst (lv_room hr) hdg hf) hw.2 (fun q hq h => Af_sub (sz := 0) hw.2 hq h) (fun q h => Af_all hw.2 h) (fun r F' t H1 locs1 ht _ hpost hB _ _ hS => kk r F' H1 locs1 hpost ⟨by rw [← ht]; exact hB.1, hS⟩)
theorem x_callVv (X : CallFix p m c cc nL s args lw_g own) (hK : KW D cI cB cS s) (hw : HW D ad N F s H locs) {y : MethodName} {b : ByteArray} {n : Nat} {fr lo k : Nat} {As : List Value} {post : (Nat → va_E) → Prop} (hC : Cv l D cI cB cS ad N y b n fr lo (.ref (ad k) :: As) F post) {C : String} {index na : Nat} (cw : CallW R s args own C index y b n none (Cond.code y b n none :: lw_g) { frames := fr, cells := 0, slots := 0, locals := lo } 0 0 na) (hk : k < N) {ci : Nat} {fs : List Value} (he : F k = .inr (ci, fs)) {T : u_T} {nf : Nat} (hc : vwCl[ci]? = some (C, T, nf)) (hn : As.length = na) (hl : ls.size = nL) {st : List Value} (hst : st = As.reverse ++ .ref (ad k) :: rest) (hr : (rest.map fun v => v.category).sum ≤ 8) (hdg : decode cc pc = .ok (.invokevirtual index, 3)) (hf : cells ≤ R.cells ∧ slots ≤ R.slots)
    (kk : ∀ (F' : Nat → va_E) (H' : Heap) (locs' : List Loc), post F' → HW D ad N F' s H' locs' → W p l e R s m args below meth c H' locs' cells slots Q (F0 m (pc + 3) ls rest)) : W p l e R s m args below meth c H locs cells slots Q (F0 m pc ls st) :=
  va_callv (va_runV (As := As) (rest := rest) X (hC H.size) cw ⟨PW_blind, va_recv hK hw.1 hc (wl_getE hk he), fun U hU hW => ⟨rfl, by rw [hU], by rw [hU]; exact hw.1, va_K.moved hW.alike hK⟩⟩ rfl hn hl hst (lv_room hr) hdg hf) hw.2 (fun q hq h => Af_sub (sz := 0) hw.2 hq h) (fun q h => Af_all hw.2 h) (fun F' t H1 locs1 ht _ hpost hB _ _ hS => kk F' H1 locs1 hpost ⟨by rw [← ht]; exact hB.1, hS⟩)
theorem x_callS (X : CallFix p m c cc nL s args lw_g own) (hK : KW D cI cB cS s) (hw : HW D ad N F s H locs) {y : MethodName} {b : ByteArray} {n : Nat} {ret : Option FieldType} {fr lo : Nat} {As : List Value} {post : Int32 → (Nat → va_E) → Prop} (hC : Ci l D cI cB cS ad N y b n ret fr lo As F post) {index na : Nat} (cw : CallB R s args own index y b n ret (Cond.code y b n ret :: lw_g) { frames := fr, cells := 0, slots := 0, locals := lo } 0 0 na ∧ (Cond.static y).before args s = true) (hn : As.length = na) (hl : ls.size = nL) {st : List Value} (hst : st = As.reverse ++ rest) (hr : (rest.map fun v => v.category).sum ≤ 8) (hdg : decode cc pc = .ok (.invokestatic index, 3)) (hf : cells ≤ R.cells ∧ slots ≤ R.slots)
    (kk : ∀ (r : Int32) (F' : Nat → va_E) (H' : Heap) (locs' : List Loc), post r F' → HW D ad N F' s H' locs' → W p l e R s m args below meth c H' locs' cells slots Q (F0 m (pc + 3) ls (.int r :: rest))) : W p l e R s m args below meth c H locs cells slots Q (F0 m pc ls st) :=
  va_calli (va_runS (As := As) (rest := rest) X (hC H.size) cw ⟨PW_blind, fun U hU hW => ⟨rfl, by rw [hU], by rw [hU]; exact hw.1, va_K.moved hW.alike hK⟩⟩ rfl hn hl hst (lv_room hr) hdg hf) hw.2 (fun q hq h => Af_sub (sz := 0) hw.2 hq h) (fun q h => Af_all hw.2 h) (fun r F' t H1 locs1 ht _ hpost hB _ _ hS => kk r F' H1 locs1 hpost ⟨by rw [← ht]; exact hB.1, hS⟩)
theorem x_callSv (X : CallFix p m c cc nL s args lw_g own) (hK : KW D cI cB cS s) (hw : HW D ad N F s H locs) {y : MethodName} {b : ByteArray} {n : Nat} {fr lo : Nat} {As : List Value} {post : (Nat → va_E) → Prop} (hC : Cv l D cI cB cS ad N y b n fr lo As F post) {index na : Nat} (cw : CallB R s args own index y b n none (Cond.code y b n none :: lw_g) { frames := fr, cells := 0, slots := 0, locals := lo } 0 0 na ∧ (Cond.static y).before args s = true) (hn : As.length = na) (hl : ls.size = nL) {st : List Value} (hst : st = As.reverse ++ rest) (hr : (rest.map fun v => v.category).sum ≤ 8) (hdg : decode cc pc = .ok (.invokestatic index, 3)) (hf : cells ≤ R.cells ∧ slots ≤ R.slots)
    (kk : ∀ (F' : Nat → va_E) (H' : Heap) (locs' : List Loc), post F' → HW D ad N F' s H' locs' → W p l e R s m args below meth c H' locs' cells slots Q (F0 m (pc + 3) ls rest)) : W p l e R s m args below meth c H locs cells slots Q (F0 m pc ls st) :=
  va_callv (va_runS (As := As) (rest := rest) X (hC H.size) cw ⟨PW_blind, fun U hU hW => ⟨rfl, by rw [hU], by rw [hU]; exact hw.1, va_K.moved hW.alike hK⟩⟩ rfl hn hl hst (lv_room hr) hdg hf) hw.2 (fun q hq h => Af_sub (sz := 0) hw.2 hq h) (fun q h => Af_all hw.2 h) (fun F' t H1 locs1 ht _ hpost hB _ _ hS => kk F' H1 locs1 hpost ⟨by rw [← ht]; exact hB.1, hS⟩)
theorem x_iret (X : CallFix p m c cc nL s args lw_g own) {ty : FieldType} (hr : meth.sig.returnType = some ty) (hlk : meth.locks = false) (hK : KW D cI cB cS s) (hw : HW D ad N F s H locs) {post : Int32 → (Nat → va_E) → Prop} {v : Int32} (hn : narrow ty (.int v) = .int v) (hp : post v F) (hdg : decode cc pc = .ok (.ireturn, 1)) : W p l e R s m args below meth c H locs cells slots (MQ below (va_Qi post (fun F' t => PW D cI cB cS ad N F' t) (Af ad N s.heap.size)) args s cells slots (Af ad N s.heap.size)) (F0 m pc ls [.int v]) :=
  W.zret X.1 X.2.1 hr hn (fun t ht hW => ⟨⟨v, F, rfl, hp, by rw [ht]; exact hw.1, va_K.moved hW.alike hK⟩, hw.2.F ht⟩) hw.2.2.2 hdg hlk
theorem x_vret (X : CallFix p m c cc nL s args lw_g own) (hr : meth.sig.returnType = none) (hlk : meth.locks = false) (hK : KW D cI cB cS s) (hw : HW D ad N F s H locs) {post : (Nat → va_E) → Prop} (hp : post F) (hdg : decode cc pc = .ok (.return_, 1)) : W p l e R s m args below meth c H locs cells slots (MQ below (va_Qv post (fun F' t => PW D cI cB cS ad N F' t) (Af ad N s.heap.size)) args s cells slots (Af ad N s.heap.size)) (F0 m pc ls []) :=
  W.vret X.1 X.2.1 hr (fun t ht hW => ⟨⟨F, rfl, hp, by rw [ht]; exact hw.1, va_K.moved hW.alike hK⟩, hw.2.F ht⟩) hw.2.2.2 hdg hlk
theorem x_cwV (y : MethodName) (b : ByteArray) (n : Nat) (ret : Option FieldType) {C : String} {index : Nat} (na : Nat) {fr lo : Nat} (X : CallFix p m c cc nL s args lw_g own) (h1 : Cond.methodLink own index y ∈ lw_g) (h2 : Cond.instanceMethod y ∈ lw_g) (h3 : Cond.selects C y y ∈ lw_g) (h4 : Cond.initialized C ∈ lw_g) (h5 : Cond.code y b n ret ∈ lw_g) (hd : y.cls = C ∧ y.cls ≠ "java/lang/invoke/MethodHandle" ∧ y.cls ≠ "java/lang/invoke/VarHandle" ∧ (parseMethodDescriptor y.desc).map (fun d => d.parameters.length) = some na) (hR : fr + 1 ≤ R.frames ∧ 8 + (n + 11) + lo ≤ R.locals) : CallW R s args own C index y b n ret (Cond.code y b n ret :: lw_g) { frames := fr, cells := 0, slots := 0, locals := lo } 0 0 na :=
  cwV na X.2.2.2.2 (mem_wsV h1 h2 h3 h4 h5) rfl rfl rfl hd hR
theorem x_cwS (y : MethodName) (b : ByteArray) (n : Nat) (ret : Option FieldType) {index : Nat} (na : Nat) {fr lo : Nat} (X : CallFix p m c cc nL s args lw_g own) (h1 : Cond.methodLink own index y ∈ lw_g) (h2 : Cond.static y ∈ lw_g) (h4 : Cond.initialized own ∈ lw_g) (h5 : Cond.code y b n ret ∈ lw_g) (hd : y.cls = own ∧ y.cls ≠ "java/lang/invoke/MethodHandle" ∧ y.cls ≠ "java/lang/invoke/VarHandle" ∧ (parseMethodDescriptor y.desc).map (fun d => d.parameters.length) = some na) (hR : fr + 1 ≤ R.frames ∧ 8 + (n + 11) + lo ≤ R.locals) : CallB R s args own index y b n ret (Cond.code y b n ret :: lw_g) { frames := fr, cells := 0, slots := 0, locals := lo } 0 0 na ∧ (Cond.static y).before args s = true :=
  cwS na X.2.2.2.2 (mem_wsS h1 h2 h4 h5) rfl rfl rfl hd hR
end Base
theorem x_met {l : Launch} {D : va_G} {cI cB cS : ClassId} {ad : Nat → Nat} {N : Nat} {y : MethodName} {b : ByteArray} {n : Nat} {ret : Option FieldType} {fr lo : Nat} {av : List Value} {F : Nat → va_E} {post : Int32 → (Nat → va_E) → Prop} (hy : plainName y.cls = true) (hn : (lg_sl av).length ≤ n)
    (h : ∀ (p : Program) (e : Env) (s : State) (m : MethodId) (below : List Frame) (meth : Method) (c : Code), CallFix p m c b n s av.toArray lw_g y.cls → meth.sig.returnType = ret → meth.locks = false → KW D cI cB cS s → HW D ad N F s s.heap [] → ∀ ls, lv_has ls n (lv_args 0 av) → W p l e { frames := fr, cells := 0, slots := 0, locals := lo } s m av.toArray below meth c s.heap [] 0 0 (MQ below (va_Qi post (fun F' t => PW D cI cB cS ad N F' t) (Af ad N s.heap.size)) av.toArray s 0 0 (Af ad N s.heap.size)) (F0 m 0 ls [])) : Ci l D cI cB cS ad N y b n ret fr lo av F post := by
  intro sz
  refine Met.ofW (cc := b) (maxL := n) (ret := ret) hy rfl ?_
  intro p e s m args below meth c s₁ B hml hv
  obtain ⟨rfl, hsz, hP, hK⟩ := hv
  subst hsz
  have hts0 := atoms_spec (ws := Cond.code y b n ret :: lw_g) B.pre
  rw [lg_entry_eq]
  exact h p e s m below meth c ⟨B.exec, B.bytes, hml, findClass_of_methodNamed B.named, fun w hw => hts0 w (List.mem_cons_of_mem _ hw)⟩ B.returns B.notSynchronized hK ⟨hP, va_S.rf⟩ _ (lv_entry av hn)
theorem x_metv {l : Launch} {D : va_G} {cI cB cS : ClassId} {ad : Nat → Nat} {N : Nat} {y : MethodName} {b : ByteArray} {n : Nat} {fr lo : Nat} {av : List Value} {F : Nat → va_E} {post : (Nat → va_E) → Prop} (hy : plainName y.cls = true) (hn : (lg_sl av).length ≤ n)
    (h : ∀ (p : Program) (e : Env) (s : State) (m : MethodId) (below : List Frame) (meth : Method) (c : Code), CallFix p m c b n s av.toArray lw_g y.cls → meth.sig.returnType = none → meth.locks = false → KW D cI cB cS s → HW D ad N F s s.heap [] → ∀ ls, lv_has ls n (lv_args 0 av) → W p l e { frames := fr, cells := 0, slots := 0, locals := lo } s m av.toArray below meth c s.heap [] 0 0 (MQ below (va_Qv post (fun F' t => PW D cI cB cS ad N F' t) (Af ad N s.heap.size)) av.toArray s 0 0 (Af ad N s.heap.size)) (F0 m 0 ls [])) : Cv l D cI cB cS ad N y b n fr lo av F post := by
  intro sz
  refine Met.ofW (cc := b) (maxL := n) (ret := none) hy rfl ?_
  intro p e s m args below meth c s₁ B hml hv
  obtain ⟨rfl, hsz, hP, hK⟩ := hv
  subst hsz
  have hts0 := atoms_spec (ws := Cond.code y b n none :: lw_g) B.pre
  rw [lg_entry_eq]
  exact h p e s m below meth c ⟨B.exec, B.bytes, hml, findClass_of_methodNamed B.named, fun w hw => hts0 w (List.mem_cons_of_mem _ hw)⟩ B.returns B.notSynchronized hK ⟨hP, va_S.rf⟩ _ (lv_entry av hn)
end
section
def bI (b : Bool) : Int32 := if b then 1 else 0
theorem bI_z {P : Prop} {_ : Decidable P} (h : bI (decide P) = 0) : ¬ P := by
  intro q
  simp [bI, q] at h
theorem bI_nz {P : Prop} {_ : Decidable P} (h : ¬ bI (decide P) = 0) : P := by
  by_cases q : P
  · exact q
  · exact absurd (by simp [bI, q]) h
theorem nr_b (b : Bool) : narrow .boolean (.int (bI b)) = .int (bI b) := by cases b <;> decide +kernel
/-- a method that only answers -/
def pP (v : Int32) (F : Nat → va_E) : Int32 → (Nat → va_E) → Prop := fun r F' => r = v ∧ F' = F
/-- nothing has changed outside the places from lo up to hi -/
def Fr (F F' : Nat → va_E) (lo hi : Nat) : Prop := ∀ k, (k < lo ∨ hi ≤ k) → F' k = F k
theorem Fr.rf {F : Nat → va_E} {lo hi : Nat} : Fr F F lo hi := fun _ _ => rfl
theorem Fr.tr {F F1 F2 : Nat → va_E} {lo hi a b : Nat} (h1 : Fr F F1 lo hi) (h2 : Fr F1 F2 a b) (ha : lo ≤ a) (hb : b ≤ hi) : Fr F F2 lo hi := fun k hk => by
  rw [h2 k (by omega), h1 k hk]
theorem Fr.mono {F F1 : Nat → va_E} {lo hi a b : Nat} (h1 : Fr F F1 a b) (ha : lo ≤ a) (hb : b ≤ hi) : Fr F F1 lo hi := Fr.tr Fr.rf h1 ha hb
theorem Fr.up {F : Nat → va_E} {k : Nat} {e : va_E} {lo hi : Nat} (h1 : lo ≤ k) (h2 : k < hi) : Fr F (va_up F k e) lo hi := fun j hj => by
  have : j ≠ k := by omega
  simp [va_up, this]
section Help
variable {p : Program} {l : Launch} {e : Env} {R : Room} {s : State} {m : MethodId} {args : Array Value} {below : List Frame} {meth : Method} {c : Code} {H : Heap} {locs : List Loc} {cells slots : Nat} {Q : State → Prop} {cc : ByteArray} {nL pc : Nat} {own : String} {ls : Array Slot} {rest : List Value}
  {D : va_G} {cI cB cS : ClassId} {ad : Nat → Nat} {N : Nat} {F : Nat → va_E}
theorem x_top {x y : Int32} (h : x = y) (k : W p l e R s m args below meth c H locs cells slots Q (F0 m pc ls (.int y :: rest))) : W p l e R s m args below meth c H locs cells slots Q (F0 m pc ls (.int x :: rest)) := h ▸ k
theorem x_ialdN (X : CallFix p m c cc nL s args lw_g own) (hK : KW D cI cB cS s) (hw : HW D ad N F s H locs) {k n : Nat} (hk : k < N) {f : Nat → Int32} (he : F k = .inl (cI, n, .inl f)) {i : Int32} {j : Nat} (hi : i = nI j) (hj : j < n) (hn : n < 2 ^ 31) (hdg : decode cc pc = .ok (.iaload, 1)) (kk : W p l e R s m args below meth c H locs cells slots Q (F0 m (pc + 1) ls (.int (f j) :: rest))) : W p l e R s m args below meth c H locs cells slots Q (F0 m pc ls (.int i :: .ref (ad k) :: rest)) := by
  subst hi
  refine x_iald X hK hw hk he (vp_in_nI hj hn) hdg ?_
  rw [nI_clamp (by omega)]
  exact kk
theorem x_iastN (X : CallFix p m c cc nL s args lw_g own) (hI : iN ad N) (hK : KW D cI cB cS s) (hw : HW D ad N F s H locs) {k n : Nat} (hk : k < N) {f : Nat → Int32} (he : F k = .inl (cI, n, .inl f)) {i x : Int32} {j : Nat} (hi : i = nI j) (hj : j < n) (hn : n < 2 ^ 31) (hdg : decode cc pc = .ok (.iastore, 1)) (kk : ∀ (H' : Heap) (locs' : List Loc), HW D ad N (va_up F k (.inl (cI, n, .inl (upd f j x)))) s H' locs' → W p l e R s m args below meth c H' locs' cells slots Q (F0 m (pc + 1) ls rest)) : W p l e R s m args below meth c H locs cells slots Q (F0 m pc ls (.int x :: .int i :: .ref (ad k) :: rest)) := by
  subst hi
  refine x_iast X hI hK hw hk he (vp_in_nI hj hn) hdg ?_
  rw [nI_clamp (by omega)]
  exact kk
theorem x_callVP (X : CallFix p m c cc nL s args lw_g own) (hK : KW D cI cB cS s) (hw : HW D ad N F s H locs) {y : MethodName} {b : ByteArray} {n : Nat} {ret : Option FieldType} {fr lo k : Nat} {As : List Value} {v : Int32} (hC : Ci l D cI cB cS ad N y b n ret fr lo (.ref (ad k) :: As) F (pP v F)) {C : String} {index na : Nat} (cw : CallW R s args own C index y b n ret (Cond.code y b n ret :: lw_g) { frames := fr, cells := 0, slots := 0, locals := lo } 0 0 na) (hk : k < N) {ci : Nat} {fs : List Value} (he : F k = .inr (ci, fs)) {T : u_T} {nf : Nat} (hc : vwCl[ci]? = some (C, T, nf)) (hn : As.length = na) (hl : ls.size = nL) {st : List Value} (hst : st = As.reverse ++ .ref (ad k) :: rest) (hr : (rest.map fun v => v.category).sum ≤ 8) (hdg : decode cc pc = .ok (.invokevirtual index, 3)) (hf : cells ≤ R.cells ∧ slots ≤ R.slots)
    (kk : ∀ (H' : Heap) (locs' : List Loc), HW D ad N F s H' locs' → W p l e R s m args below meth c H' locs' cells slots Q (F0 m (pc + 3) ls (.int v :: rest))) : W p l e R s m args below meth c H locs cells slots Q (F0 m pc ls st) :=
  x_callV X hK hw hC cw hk he hc hn hl hst hr hdg hf (fun r F' H' locs' hp hw' => by obtain ⟨rfl, rfl⟩ := hp; exact kk H' locs' hw')
theorem x_callSP (X : CallFix p m c cc nL s args lw_g own) (hK : KW D cI cB cS s) (hw : HW D ad N F s H locs) {y : MethodName} {b : ByteArray} {n : Nat} {ret : Option FieldType} {fr lo : Nat} {As : List Value} {v : Int32} (hC : Ci l D cI cB cS ad N y b n ret fr lo As F (pP v F)) {index na : Nat} (cw : CallB R s args own index y b n ret (Cond.code y b n ret :: lw_g) { frames := fr, cells := 0, slots := 0, locals := lo } 0 0 na ∧ (Cond.static y).before args s = true) (hn : As.length = na) (hl : ls.size = nL) {st : List Value} (hst : st = As.reverse ++ rest) (hr : (rest.map fun v => v.category).sum ≤ 8) (hdg : decode cc pc = .ok (.invokestatic index, 3)) (hf : cells ≤ R.cells ∧ slots ≤ R.slots)
    (kk : ∀ (H' : Heap) (locs' : List Loc), HW D ad N F s H' locs' → W p l e R s m args below meth c H' locs' cells slots Q (F0 m (pc + 3) ls (.int v :: rest))) : W p l e R s m args below meth c H locs cells slots Q (F0 m pc ls st) :=
  x_callS X hK hw hC cw hn hl hst hr hdg hf (fun r F' H' locs' hp hw' => by obtain ⟨rfl, rfl⟩ := hp; exact kk H' locs' hw')
end Help
/-! the groups of cells -/
def TbF (ad : Nat → Nat) (cI : ClassId) (F : Nat → va_E) (k c n : Nat) (f : Nat → Int32) : Prop := F k = .inr (7, [.int (nI c), .ref (ad (k + 1))]) ∧ F (k + 1) = .inl (cI, n, .inl f)
def StF (ad : Nat → Nat) (cI : ClassId) (F : Nat → va_E) (b : Nat) (g : Nat → Int32) (t : Nat → Nat → Int32) : Prop := F b = .inr (6, [.int (g 0), .int (g 1), .int (g 2), .int (g 3), .int (g 4), .ref (ad (b + 1)), .ref (ad (b + 3)), .ref (ad (b + 5)), .ref (ad (b + 7)), .ref (ad (b + 9))]) ∧ TbF ad cI F (b + 1) 1 9 (t 0) ∧ TbF ad cI F (b + 3) 1 3 (t 1) ∧ TbF ad cI F (b + 5) 3 18 (t 2) ∧ TbF ad cI F (b + 7) 6 324 (t 3) ∧ TbF ad cI F (b + 9) 4 40 (t 4)
def CoF (ad : Nat → Nat) (F : Nat → va_E) (q b : Nat) : Prop := F q = .inr (1, [.ref (ad b)])
def JuF (ad : Nat → Nat) (F : Nat → va_E) (q b : Nat) : Prop := F q = .inr (3, [.ref (ad b)])
def ScF (ad : Nat → Nat) (cI : ClassId) (F : Nat → va_E) (q b : Nat) (tm pt sm tl : Nat → Int32) : Prop := F q = .inr (5, [.ref (ad b), .ref (ad (q + 1)), .ref (ad (q + 3)), .ref (ad (q + 5)), .ref (ad (q + 7))]) ∧ TbF ad cI F (q + 1) 1 9 tm ∧ TbF ad cI F (q + 3) 9 54 pt ∧ TbF ad cI F (q + 5) 4 36 sm ∧ TbF ad cI F (q + 7) 10 90 tl
def MoF (ad : Nat → Nat) (cI : ClassId) (F : Nat → va_E) (c : Nat) (s h sn tx k : Nat → Int32) : Prop := F c = .inr (9, [.ref (ad (c + 1)), .ref (ad (c + 2)), .int (k 0), .ref (ad (c + 3)), .int (k 1), .ref (ad (c + 4)), .int (k 2), .int (k 3), .int (k 4), .int (k 5), .int (k 6), .int (k 7)]) ∧ F (c + 1) = .inl (cI, 404, .inl s) ∧ F (c + 2) = .inl (cI, 1616, .inl h) ∧ F (c + 3) = .inl (cI, 404, .inl sn) ∧ F (c + 4) = .inl (cI, 80, .inl tx)
theorem TbF.cg {ad : Nat → Nat} {cI : ClassId} {F F' : Nat → va_E} {k c n : Nat} {f : Nat → Int32} (h : TbF ad cI F k c n f) {lo hi : Nat} (hf : Fr F F' lo hi) (hd : k + 2 ≤ lo ∨ hi ≤ k) : TbF ad cI F' k c n f := ⟨(hf _ (by omega)).trans h.1, (hf _ (by omega)).trans h.2⟩
theorem StF.cg {ad : Nat → Nat} {cI : ClassId} {F F' : Nat → va_E} {b : Nat} {g : Nat → Int32} {t : Nat → Nat → Int32} (h : StF ad cI F b g t) {lo hi : Nat} (hf : Fr F F' lo hi) (hd : b + 11 ≤ lo ∨ hi ≤ b) : StF ad cI F' b g t := ⟨(hf _ (by omega)).trans h.1, h.2.1.cg hf (by omega), h.2.2.1.cg hf (by omega), h.2.2.2.1.cg hf (by omega), h.2.2.2.2.1.cg hf (by omega), h.2.2.2.2.2.cg hf (by omega)⟩
theorem MoF.cg {ad : Nat → Nat} {cI : ClassId} {F F' : Nat → va_E} {c : Nat} {s h sn tx k : Nat → Int32} (hm : MoF ad cI F c s h sn tx k) {lo hi : Nat} (hf : Fr F F' lo hi) (hd : c + 5 ≤ lo ∨ hi ≤ c) : MoF ad cI F' c s h sn tx k := ⟨(hf _ (by omega)).trans hm.1, (hf _ (by omega)).trans hm.2.1, (hf _ (by omega)).trans hm.2.2.1, (hf _ (by omega)).trans hm.2.2.2.1, (hf _ (by omega)).trans hm.2.2.2.2⟩
theorem ScF.cg {ad : Nat → Nat} {cI : ClassId} {F F' : Nat → va_E} {q b : Nat} {tm pt sm tl : Nat → Int32} (h : ScF ad cI F q b tm pt sm tl) {lo hi : Nat} (hf : Fr F F' lo hi) (hd : q + 9 ≤ lo ∨ hi ≤ q) : ScF ad cI F' q b tm pt sm tl := ⟨(hf _ (by omega)).trans h.1, h.2.1.cg hf (by omega), h.2.2.1.cg hf (by omega), h.2.2.2.1.cg hf (by omega), h.2.2.2.2.cg hf (by omega)⟩
/-- the table k of a state has new numbers -/
theorem StF.tb0 {ad : Nat → Nat} {cI : ClassId} {F F' : Nat → va_E} {b : Nat} {g : Nat → Int32} {t : Nat → Nat → Int32} {f : Nat → Int32} (h : StF ad cI F b g t) (h1 : TbF ad cI F' (b + 1) 1 9 f) (hf : Fr F F' (b + 1) (b + 3)) : StF ad cI F' b g (va_up t 0 f) := ⟨(hf _ (by omega)).trans h.1, h1, h.2.2.1.cg hf (by omega), h.2.2.2.1.cg hf (by omega), h.2.2.2.2.1.cg hf (by omega), h.2.2.2.2.2.cg hf (by omega)⟩
theorem StF.tb1 {ad : Nat → Nat} {cI : ClassId} {F F' : Nat → va_E} {b : Nat} {g : Nat → Int32} {t : Nat → Nat → Int32} {f : Nat → Int32} (h : StF ad cI F b g t) (h1 : TbF ad cI F' (b + 3) 1 3 f) (hf : Fr F F' (b + 3) (b + 5)) : StF ad cI F' b g (va_up t 1 f) := ⟨(hf _ (by omega)).trans h.1, h.2.1.cg hf (by omega), h1, h.2.2.2.1.cg hf (by omega), h.2.2.2.2.1.cg hf (by omega), h.2.2.2.2.2.cg hf (by omega)⟩
theorem StF.tb2 {ad : Nat → Nat} {cI : ClassId} {F F' : Nat → va_E} {b : Nat} {g : Nat → Int32} {t : Nat → Nat → Int32} {f : Nat → Int32} (h : StF ad cI F b g t) (h1 : TbF ad cI F' (b + 5) 3 18 f) (hf : Fr F F' (b + 5) (b + 7)) : StF ad cI F' b g (va_up t 2 f) := ⟨(hf _ (by omega)).trans h.1, h.2.1.cg hf (by omega), h.2.2.1.cg hf (by omega), h1, h.2.2.2.2.1.cg hf (by omega), h.2.2.2.2.2.cg hf (by omega)⟩
theorem StF.tb3 {ad : Nat → Nat} {cI : ClassId} {F F' : Nat → va_E} {b : Nat} {g : Nat → Int32} {t : Nat → Nat → Int32} {f : Nat → Int32} (h : StF ad cI F b g t) (h1 : TbF ad cI F' (b + 7) 6 324 f) (hf : Fr F F' (b + 7) (b + 9)) : StF ad cI F' b g (va_up t 3 f) := ⟨(hf _ (by omega)).trans h.1, h.2.1.cg hf (by omega), h.2.2.1.cg hf (by omega), h.2.2.2.1.cg hf (by omega), h1, h.2.2.2.2.2.cg hf (by omega)⟩
theorem StF.tb4 {ad : Nat → Nat} {cI : ClassId} {F F' : Nat → va_E} {b : Nat} {g : Nat → Int32} {t : Nat → Nat → Int32} {f : Nat → Int32} (h : StF ad cI F b g t) (h1 : TbF ad cI F' (b + 9) 4 40 f) (hf : Fr F F' (b + 9) (b + 11)) : StF ad cI F' b g (va_up t 4 f) := ⟨(hf _ (by omega)).trans h.1, h.2.1.cg hf (by omega), h.2.2.1.cg hf (by omega), h.2.2.2.1.cg hf (by omega), h.2.2.2.2.1.cg hf (by omega), h1⟩
/-- a number of a state is put -/
theorem StF.pt {ad : Nat → Nat} {cI : ClassId} {F : Nat → va_E} {b : Nat} {g : Nat → Int32} {t : Nat → Nat → Int32} (h : StF ad cI F b g t) (j : Nat) (hj : j < 5) (v : Int32) (fs : List Value) (hfs : fs = [.int (va_up g j v 0), .int (va_up g j v 1), .int (va_up g j v 2), .int (va_up g j v 3), .int (va_up g j v 4), .ref (ad (b + 1)), .ref (ad (b + 3)), .ref (ad (b + 5)), .ref (ad (b + 7)), .ref (ad (b + 9))]) : StF ad cI (va_up F b (.inr (6, fs))) b (va_up g j v) t := by
  have hf : Fr F (va_up F b (.inr (6, fs))) b (b + 1) := Fr.up (Nat.le_refl _) (by omega)
  refine ⟨?_, h.2.1.cg hf (by omega), h.2.2.1.cg hf (by omega), h.2.2.2.1.cg hf (by omega), h.2.2.2.2.1.cg hf (by omega), h.2.2.2.2.2.cg hf (by omega)⟩
  rw [hfs]; simp [va_up]
/-- the row of a table, by its number -/
def tIx (c : Nat) (r q : Int32) : Int32 := r * nI c + q
def tIn (c n : Nat) (r q : Int32) : Prop := 0 ≤ tIx c r q ∧ tIx c r q < nI n
def tg (c n : Nat) (f : Nat → Int32) (r q : Int32) : Int32 := if 0 ≤ tIx c r q ∧ tIx c r q < nI n then f (tIx c r q).toNatClampNeg else 0
def tp (c n : Nat) (f : Nat → Int32) (r q v : Int32) : Nat → Int32 := if 0 ≤ tIx c r q ∧ tIx c r q < nI n then upd f (tIx c r q).toNatClampNeg v else f
theorem in_of {i : Int32} {n : Nat} (h0 : 0 ≤ i) (h1 : i < nI n) (hn : n < 2 ^ 31) : vp_in i n := by
  have a := Int32.le_iff_toInt_le.mp h0
  have b := Int32.lt_iff_toInt_lt.mp h1
  rw [nI_toInt hn] at b
  exact vp_in_iff.mpr ⟨by simpa using a, b⟩
end
section
set_option maxHeartbeats 4000000 in
set_option maxRecDepth 100000 in
theorem k_X6_get {l : Launch} {D : va_G} {cI cB cS : ClassId} {ad : Nat → Nat} {N : Nat} {F : Nat → va_E} (hI : iN ad N) (k : Nat) (cc : Nat) (nn : Nat) (f : Nat → Int32) (r : Int32) (q : Int32) (hk : k + 2 ≤ N) (hn : nn < 2 ^ 31) (hT : TbF ad cI F k cc nn f) : Ci l D cI cB cS ad N yX6_get cX6_get 4 (some .int) 0 0 [.ref (ad k), .int r, .int q] F (pP (tg cc nn f r q) F) := by
  refine x_met (by decide +kernel) (Nat.le_of_ble_eq_true rfl) ?_
  intro p e s m below meth c X hr hlk hK hw ls hl
  replace hl : lv_has ls 4 [(0, .ref (ad k)), (1, .int r), (2, .int q)] := hl
  refine lv_iload_n X.1 X.2.1 dX6_get_0 rfl (lv_at hl 1 rfl) ?_
  refine lv_aload_n X.1 X.2.1 dX6_get_1 rfl (lv_at hl 0 rfl) ?_
  refine x_get X hK hw (C := RX6) (T := TX6) (nf := 2) (k := k) (by omega) hT.1 rfl inX6 0 (by decide) q43 (fun _ h9 => h9) rfl dX6_get_2 ?_
  refine lv_imul X.1 X.2.1 dX6_get_5 ?_
  refine lv_iload_n X.1 X.2.1 dX6_get_6 rfl (lv_at hl 2 rfl) ?_
  refine lv_iadd X.1 X.2.1 dX6_get_7 ?_
  refine lv_istore_n (lv' := [(3, .int ((r * (nI cc)) + q)), (0, .ref (ad k)), (1, .int r), (2, .int q)]) X.1 X.2.1 dX6_get_8 rfl hl (by decide) rfl (fun ls hl => ?_)
  refine lv_iload_n X.1 X.2.1 dX6_get_9 rfl (lv_at hl 0 rfl) ?_
  refine lv_if_lt (tgt := 31) X.1 X.2.1 dX6_get_10 (by decide) (fun c1 => ?_) (fun c1 => ?_)
  · refine lv_iconst (v := nI 0) X.1 X.2.1 dX6_get_31 (by decide) ?_
    exact x_iret X hr hlk hK hw (v := nI 0) rfl (⟨(if_neg (fun h => absurd c1 (Int32.not_lt.mpr h.1))).symm, rfl⟩) dX6_get_32
  · refine lv_iload_n X.1 X.2.1 dX6_get_13 rfl (lv_at hl 0 rfl) ?_
    refine lv_aload_n X.1 X.2.1 dX6_get_14 rfl (lv_at hl 1 rfl) ?_
    refine x_get X hK hw (C := RX6) (T := TX6) (nf := 2) (k := k) (by omega) hT.1 rfl inX6 1 (by decide) q44 (fun _ h9 => h9) rfl dX6_get_15 ?_
    refine x_alen X hK hw (k := (k + 1)) (by omega) hT.2 (v := nI nn) rfl dX6_get_18 ?_
    refine lv_icmp_ge (tgt := 31) X.1 X.2.1 dX6_get_19 (by decide) (fun c2 => ?_) (fun c2 => ?_)
    · refine lv_iconst (v := nI 0) X.1 X.2.1 dX6_get_31 (by decide) ?_
      exact x_iret X hr hlk hK hw (v := nI 0) rfl (⟨(if_neg (fun h => absurd c2 (Int32.not_le.mpr h.2))).symm, rfl⟩) dX6_get_32
    · refine lv_aload_n X.1 X.2.1 dX6_get_22 rfl (lv_at hl 1 rfl) ?_
      refine x_get X hK hw (C := RX6) (T := TX6) (nf := 2) (k := k) (by omega) hT.1 rfl inX6 1 (by decide) q44 (fun _ h9 => h9) rfl dX6_get_23 ?_
      refine lv_iload_n X.1 X.2.1 dX6_get_26 rfl (lv_at hl 0 rfl) ?_
      refine x_iald X hK hw (k := (k + 1)) (by omega) hT.2 (in_of (Int32.not_lt.mp c1) (Int32.not_le.mp c2) hn) dX6_get_27 ?_
      refine lv_goto (tgt := 32) X.1 X.2.1 dX6_get_28 (by decide) ?_
      exact x_iret X hr hlk hK hw (v := f ((r * (nI cc)) + q).toNatClampNeg) rfl (⟨(if_pos ⟨Int32.not_lt.mp c1, Int32.not_le.mp c2⟩).symm, rfl⟩) dX6_get_32
theorem tp_lt {c n : Nat} {f : Nat → Int32} {r q v : Int32} (h : r * nI c + q < 0) : tp c n f r q v = f := if_neg (fun h2 => absurd h (Int32.not_lt.mpr h2.1))
theorem tp_ge {c n : Nat} {f : Nat → Int32} {r q v : Int32} (h : nI n ≤ r * nI c + q) : tp c n f r q v = f := if_neg (fun h2 => absurd h (Int32.not_le.mpr h2.2))
theorem tp_in {c n : Nat} {f : Nat → Int32} {r q v : Int32} (h1 : ¬ r * nI c + q < 0) (h2 : ¬ nI n ≤ r * nI c + q) : tp c n f r q v = upd f (r * nI c + q).toNatClampNeg v := if_pos ⟨Int32.not_lt.mp h1, Int32.not_le.mp h2⟩
theorem tb_up {ad : Nat → Nat} {cI : ClassId} {F : Nat → va_E} {k c n : Nat} {f f1 : Nat → Int32} (h : TbF ad cI F k c n f) : TbF ad cI (va_up F (k + 1) (.inl (cI, n, .inl f1))) k c n f1 := ⟨by rw [← h.1]; simp [va_up], by simp [va_up]⟩
set_option maxHeartbeats 4000000 in
set_option maxRecDepth 100000 in
theorem k_X6_put {l : Launch} {D : va_G} {cI cB cS : ClassId} {ad : Nat → Nat} {N : Nat} {F : Nat → va_E} (hI : iN ad N) (k : Nat) (cc : Nat) (nn : Nat) (f : Nat → Int32) (r : Int32) (q : Int32) (v : Int32) (hk : k + 2 ≤ N) (hn : nn < 2 ^ 31) (hT : TbF ad cI F k cc nn f) : Cv l D cI cB cS ad N yX6_put cX6_put 5 0 0 [.ref (ad k), .int r, .int q, .int v] F (fun F' => TbF ad cI F' k cc nn (tp cc nn f r q v) ∧ Fr F F' k (k + 2)) := by
  refine x_metv (by decide +kernel) (Nat.le_of_ble_eq_true rfl) ?_
  intro p e s m below meth c X hr hlk hK hw ls hl
  replace hl : lv_has ls 5 [(0, .ref (ad k)), (1, .int r), (2, .int q), (3, .int v)] := hl
  refine lv_iload_n X.1 X.2.1 dX6_put_0 rfl (lv_at hl 1 rfl) ?_
  refine lv_aload_n X.1 X.2.1 dX6_put_1 rfl (lv_at hl 0 rfl) ?_
  refine x_get X hK hw (C := RX6) (T := TX6) (nf := 2) (k := k) (by omega) hT.1 rfl inX6 0 (by decide) q43 (fun _ h9 => h9) rfl dX6_put_2 ?_
  refine lv_imul X.1 X.2.1 dX6_put_5 ?_
  refine lv_iload_n X.1 X.2.1 dX6_put_6 rfl (lv_at hl 2 rfl) ?_
  refine lv_iadd X.1 X.2.1 dX6_put_7 ?_
  refine lv_istore (lv' := [(4, .int ((r * (nI cc)) + q)), (0, .ref (ad k)), (1, .int r), (2, .int q), (3, .int v)]) X.1 X.2.1 dX6_put_8 hl (by decide) rfl (fun ls hl => ?_)
  refine lv_iload X.1 X.2.1 dX6_put_10 (lv_at hl 0 rfl) ?_
  refine lv_if_lt (tgt := 33) X.1 X.2.1 dX6_put_12 (by decide) (fun c1 => ?_) (fun c1 => ?_)
  · exact x_vret X hr hlk hK hw (⟨by rw [tp_lt c1]; exact hT, Fr.rf⟩) dX6_put_33
  · refine lv_iload X.1 X.2.1 dX6_put_15 (lv_at hl 0 rfl) ?_
    refine lv_aload_n X.1 X.2.1 dX6_put_17 rfl (lv_at hl 1 rfl) ?_
    refine x_get X hK hw (C := RX6) (T := TX6) (nf := 2) (k := k) (by omega) hT.1 rfl inX6 1 (by decide) q44 (fun _ h9 => h9) rfl dX6_put_18 ?_
    refine x_alen X hK hw (k := (k + 1)) (by omega) hT.2 (v := nI nn) rfl dX6_put_21 ?_
    refine lv_icmp_ge (tgt := 33) X.1 X.2.1 dX6_put_22 (by decide) (fun c2 => ?_) (fun c2 => ?_)
    · exact x_vret X hr hlk hK hw (⟨by rw [tp_ge c2]; exact hT, Fr.rf⟩) dX6_put_33
    · refine lv_aload_n X.1 X.2.1 dX6_put_25 rfl (lv_at hl 1 rfl) ?_
      refine x_get X hK hw (C := RX6) (T := TX6) (nf := 2) (k := k) (by omega) hT.1 rfl inX6 1 (by decide) q44 (fun _ h9 => h9) rfl dX6_put_26 ?_
      refine lv_iload X.1 X.2.1 dX6_put_29 (lv_at hl 0 rfl) ?_
      refine lv_iload_n X.1 X.2.1 dX6_put_31 rfl (lv_at hl 4 rfl) ?_
      refine x_iast X hI hK hw (k := (k + 1)) (by omega) hT.2 (in_of (Int32.not_lt.mp c1) (Int32.not_le.mp c2) hn) dX6_put_32 (fun H locs hw => ?_)
      exact x_vret X hr hlk hK hw (⟨by rw [tp_in c1 c2]; exact tb_up hT, Fr.up (by omega) (by omega)⟩) dX6_put_33
def tcl (c n : Nat) (f : Nat → Int32) (r : Int32) : Nat → (Nat → Int32)
  | 0 => f
  | i + 1 => tp c n (tcl c n f r i) r (nI i) (nI 0)
theorem hd_X6_get : yX6_get.cls = RX6 ∧ yX6_get.cls ≠ "java/lang/invoke/MethodHandle" ∧ yX6_get.cls ≠ "java/lang/invoke/VarHandle" ∧ (parseMethodDescriptor yX6_get.desc).map (fun d => d.parameters.length) = some 2 := by decide +kernel
theorem hd_X6_put : yX6_put.cls = RX6 ∧ yX6_put.cls ≠ "java/lang/invoke/MethodHandle" ∧ yX6_put.cls ≠ "java/lang/invoke/VarHandle" ∧ (parseMethodDescriptor yX6_put.desc).map (fun d => d.parameters.length) = some 3 := by decide +kernel
set_option maxHeartbeats 4000000 in
set_option maxRecDepth 100000 in
theorem k_X6_add {l : Launch} {D : va_G} {cI cB cS : ClassId} {ad : Nat → Nat} {N : Nat} {F : Nat → va_E} (hI : iN ad N) (k : Nat) (cc : Nat) (nn : Nat) (f : Nat → Int32) (r : Int32) (q : Int32) (v : Int32) (hk : k + 2 ≤ N) (hn : nn < 2 ^ 31) (hT : TbF ad cI F k cc nn f) : Cv l D cI cB cS ad N yX6_add cX6_add 4 1 24 [.ref (ad k), .int r, .int q, .int v] F (fun F' => TbF ad cI F' k cc nn (tp cc nn f r q (tg cc nn f r q + v)) ∧ Fr F F' k (k + 2)) := by
  refine x_metv (by decide +kernel) (Nat.le_of_ble_eq_true rfl) ?_
  intro p e s m below meth c X hr hlk hK hw ls hl
  replace hl : lv_has ls 4 [(0, .ref (ad k)), (1, .int r), (2, .int q), (3, .int v)] := hl
  have hfr : Fr F F (k) (k + 2) := Fr.rf
  refine lv_aload_n X.1 X.2.1 dX6_add_0 rfl (lv_at hl 0 rfl) ?_
  refine lv_iload_n X.1 X.2.1 dX6_add_1 rfl (lv_at hl 1 rfl) ?_
  refine lv_iload_n X.1 X.2.1 dX6_add_2 rfl (lv_at hl 2 rfl) ?_
  refine lv_aload_n X.1 X.2.1 dX6_add_3 rfl (lv_at hl 0 rfl) ?_
  refine lv_iload_n X.1 X.2.1 dX6_add_4 rfl (lv_at hl 1 rfl) ?_
  refine lv_iload_n X.1 X.2.1 dX6_add_5 rfl (lv_at hl 2 rfl) ?_
  refine x_callVP X hK hw (k := k) (As := [.int r, .int q]) (rest := [.int q, .int r, .ref (ad k)]) (k_X6_get hI k cc nn f r q (by omega) (by omega) hT) (x_cwV yX6_get cX6_get 4 (some .int) 2 X q334 q327 q328 q3 q329 hd_X6_get ⟨Nat.le_of_ble_eq_true rfl, Nat.le_of_ble_eq_true rfl⟩) (by omega) hT.1 rfl rfl hl.1 rfl (Nat.le_of_ble_eq_true rfl) dX6_add_6 ⟨Nat.le_of_ble_eq_true rfl, Nat.le_of_ble_eq_true rfl⟩ (fun H locs hw => ?_)
  refine lv_iload_n X.1 X.2.1 dX6_add_9 rfl (lv_at hl 3 rfl) ?_
  refine lv_iadd X.1 X.2.1 dX6_add_10 ?_
  refine x_callVv X hK hw (k := k) (As := [.int r, .int q, .int ((tg cc nn f r q) + v)]) (rest := []) (k_X6_put hI k cc nn f r q ((tg cc nn f r q) + v) (by omega) (by omega) hT) (x_cwV yX6_put cX6_put 5 none 3 X q309 q54 q55 q3 q56 hd_X6_put ⟨Nat.le_of_ble_eq_true rfl, Nat.le_of_ble_eq_true rfl⟩) (by omega) hT.1 rfl rfl hl.1 rfl (Nat.le_of_ble_eq_true rfl) dX6_add_11 ⟨Nat.le_of_ble_eq_true rfl, Nat.le_of_ble_eq_true rfl⟩ (fun F1 H locs hp hw => ?_)
  obtain ⟨hT2, hr3⟩ := hp
  obtain ⟨f4, ef4⟩ : ∃ y, y = tp cc nn f r q ((tg cc nn f r q) + v) := ⟨_, rfl⟩
  rw [← ef4] at hT2
  replace hfr := hfr.tr hr3 (by omega) (by omega)
  exact x_vret X hr hlk hK hw (⟨by have h := hT2; simp only [ef4] at h; exact h, hfr⟩) dX6_add_14
set_option maxHeartbeats 4000000 in
set_option maxRecDepth 100000 in
theorem k_X6_clearRow {l : Launch} {D : va_G} {cI cB cS : ClassId} {ad : Nat → Nat} {N : Nat} {F : Nat → va_E} (hI : iN ad N) (k : Nat) (cc : Nat) (nn : Nat) (f : Nat → Int32) (r : Int32) (hk : k + 2 ≤ N) (hn : nn < 2 ^ 31) (hT : TbF ad cI F k cc nn f) (hcc : cc < 2 ^ 31) : Cv l D cI cB cS ad N yX6_clearRow cX6_clearRow 3 1 24 [.ref (ad k), .int r] F (fun F' => TbF ad cI F' k cc nn (tcl cc nn f r cc) ∧ Fr F F' k (k + 2)) := by
  refine x_metv (by decide +kernel) (Nat.le_of_ble_eq_true rfl) ?_
  intro p e s m below meth c X hr hlk hK hw ls hl
  replace hl : lv_has ls 3 [(0, .ref (ad k)), (1, .int r)] := hl
  refine lv_iconst (v := nI 0) X.1 X.2.1 dX6_clearRow_0 (by decide) ?_
  refine lv_istore_n (lv' := [(2, .int (nI 0)), (0, .ref (ad k)), (1, .int r)]) X.1 X.2.1 dX6_clearRow_1 rfl hl (by decide) rfl (fun ls hl => ?_)
  have loop : ∀ (fu : Nat) (i : Nat) (F1 : Nat → va_E) (f1 : Nat → Int32) (hfu : i + fu = cc) (hT : TbF ad cI F1 k cc nn f1) (he : f1 = tcl cc nn f r i) (hfr : Fr F F1 k (k + 2)) (H : Heap) (locs : List Loc) (hw : HW D ad N F1 s H locs) (ls : Array Slot) (hl : lv_has ls 3 [(2, .int (nI i)), (0, .ref (ad k)), (1, .int r)]), W p l e { frames := 1, cells := 0, slots := 0, locals := 24 } s m [.ref (ad k), .int r].toArray below meth c H locs 0 0 (MQ below (va_Qv (fun F' => TbF ad cI F' k cc nn (tcl cc nn f r cc) ∧ Fr F F' k (k + 2)) (fun F' t => PW D cI cB cS ad N F' t) (Af ad N s.heap.size)) [.ref (ad k), .int r].toArray s 0 0 (Af ad N s.heap.size)) (F0 m 2 ls []) := by
    intro fu
    induction fu with
    | zero =>
      intro i F1 f1 hfu hT he hfr H locs hw ls hl
      refine lv_iload_n X.1 X.2.1 dX6_clearRow_2 rfl (lv_at hl 0 rfl) ?_
      refine lv_aload_n X.1 X.2.1 dX6_clearRow_3 rfl (lv_at hl 1 rfl) ?_
      refine x_get X hK hw (C := RX6) (T := TX6) (nf := 2) (k := k) (by omega) hT.1 rfl inX6 0 (by decide) q43 (fun _ h9 => h9) rfl dX6_clearRow_4 ?_
      refine lv_icmp_ge (tgt := 23) X.1 X.2.1 dX6_clearRow_7 (by decide) (fun c1 => ?_) (fun c1 => ?_)
      · exact x_vret X hr hlk hK hw (⟨(by rw [show i = cc by omega] at he; exact he ▸ hT), hfr⟩) dX6_clearRow_23
      · exact absurd (nI_le (by omega) (by omega)) c1
    | succ fu ih =>
      intro i F1 f1 hfu hT he hfr H locs hw ls hl
      refine lv_iload_n X.1 X.2.1 dX6_clearRow_2 rfl (lv_at hl 0 rfl) ?_
      refine lv_aload_n X.1 X.2.1 dX6_clearRow_3 rfl (lv_at hl 1 rfl) ?_
      refine x_get X hK hw (C := RX6) (T := TX6) (nf := 2) (k := k) (by omega) hT.1 rfl inX6 0 (by decide) q43 (fun _ h9 => h9) rfl dX6_clearRow_4 ?_
      refine lv_icmp_ge (tgt := 23) X.1 X.2.1 dX6_clearRow_7 (by decide) (fun c2 => ?_) (fun c2 => ?_)
      · exact absurd c2 (nI_ge (by omega) (by omega))
      · refine lv_aload_n X.1 X.2.1 dX6_clearRow_10 rfl (lv_at hl 1 rfl) ?_
        refine lv_iload_n X.1 X.2.1 dX6_clearRow_11 rfl (lv_at hl 2 rfl) ?_
        refine lv_iload_n X.1 X.2.1 dX6_clearRow_12 rfl (lv_at hl 0 rfl) ?_
        refine lv_iconst (v := nI 0) X.1 X.2.1 dX6_clearRow_13 (by decide) ?_
        refine x_callVv X hK hw (k := k) (As := [.int r, .int (nI i), .int (nI 0)]) (rest := []) (k_X6_put hI k cc nn f1 r (nI i) (nI 0) (by omega) (by omega) hT) (x_cwV yX6_put cX6_put 5 none 3 X q309 q54 q55 q3 q56 hd_X6_put ⟨Nat.le_of_ble_eq_true rfl, Nat.le_of_ble_eq_true rfl⟩) (by omega) hT.1 rfl rfl hl.1 rfl (Nat.le_of_ble_eq_true rfl) dX6_clearRow_14 ⟨Nat.le_of_ble_eq_true rfl, Nat.le_of_ble_eq_true rfl⟩ (fun F3 H locs hp hw => ?_)
        obtain ⟨hT4, hr5⟩ := hp
        obtain ⟨f6, ef6⟩ : ∃ y, y = tp cc nn f1 r (nI i) (nI 0) := ⟨_, rfl⟩
        rw [← ef6] at hT4
        replace hfr := hfr.tr hr5 (by omega) (by omega)
        refine lv_iinc (v := nI (i + 1)) (lv' := [(2, .int (nI (i + 1))), (0, .ref (ad k)), (1, .int r)]) X.1 X.2.1 dX6_clearRow_17 hl (k := 0) rfl (by first | exact nI_1 _ | exact nI_add _ _ | rfl) (by decide) rfl (fun ls hl => ?_)
        refine lv_goto (tgt := 2) X.1 X.2.1 dX6_clearRow_20 (by decide) ?_
        exact ih (i + 1) F3 f6 (by omega) hT4 (by rw [ef6, he]; rfl) hfr _ _ hw _ (lv_sub hl [0, 1, 2] rfl)
  exact loop cc 0 F f (by omega) hT rfl Fr.rf _ _ hw _ (lv_sub hl [0, 1, 2] rfl)
end
section
theorem zz_last : True := trivial
end
