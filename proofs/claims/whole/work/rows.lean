section
-- ===== PART A: goes FIRST, ahead of the names: the tables' words, and 'selects' of the private methods out of them =====
/-- a private method of a class that the tables say can be made, by its rows of tables_1 -/
def lw_okq (q : MethodName × Nat) : Prop := (q.1.cls ≠ "java/lang/invoke/MethodHandle" ∧ q.1.cls ≠ "java/lang/invoke/VarHandle") ∧ Cond.instantiable q.1.cls q.2 ∈ tables_1 ∧ Cond.privateMethod q.1 ∈ tables_1 ∧ Cond.instanceMethod q.1 ∈ tables_1
theorem lw_p0 : lw_okq (⟨"MovingBanks$Survey", "apartFromFast", "(LMovingBanks$Leaf;I)I"⟩, 4) := ⟨⟨by decide +kernel, by decide +kernel⟩, List.mem_of_getElem? (i := 55) (by decide +kernel), List.mem_of_getElem? (i := 372) (by decide +kernel), List.mem_of_getElem? (i := 373) (by decide +kernel)⟩
theorem lw_p1 : lw_okq (⟨"MovingBanks$Survey", "apartFromOldWater", "(LMovingBanks$Leaf;I)I"⟩, 4) := ⟨⟨by decide +kernel, by decide +kernel⟩, List.mem_of_getElem? (i := 55) (by decide +kernel), List.mem_of_getElem? (i := 388) (by decide +kernel), List.mem_of_getElem? (i := 389) (by decide +kernel)⟩
theorem lw_p2 : lw_okq (⟨"MovingBanks$Survey", "gather", "(I)V"⟩, 4) := ⟨⟨by decide +kernel, by decide +kernel⟩, List.mem_of_getElem? (i := 55) (by decide +kernel), List.mem_of_getElem? (i := 401) (by decide +kernel), List.mem_of_getElem? (i := 402) (by decide +kernel)⟩
theorem lw_p3 : lw_okq (⟨"MovingBanks$Survey", "partIsByFast", "(LMovingBanks$Leaf;)Z"⟩, 4) := ⟨⟨by decide +kernel, by decide +kernel⟩, List.mem_of_getElem? (i := 55) (by decide +kernel), List.mem_of_getElem? (i := 409) (by decide +kernel), List.mem_of_getElem? (i := 410) (by decide +kernel)⟩
theorem lw_p4 : lw_okq (⟨"MovingBanks$Survey", "settleShore", "(LMovingBanks$Leaf;)V"⟩, 4) := ⟨⟨by decide +kernel, by decide +kernel⟩, List.mem_of_getElem? (i := 55) (by decide +kernel), List.mem_of_getElem? (i := 413) (by decide +kernel), List.mem_of_getElem? (i := 414) (by decide +kernel)⟩
theorem lw_p5 : lw_okq (⟨"MovingBanks$Survey", "fastNearestTo", "(LMovingBanks$Leaf;II)I"⟩, 4) := ⟨⟨by decide +kernel, by decide +kernel⟩, List.mem_of_getElem? (i := 55) (by decide +kernel), List.mem_of_getElem? (i := 417) (by decide +kernel), List.mem_of_getElem? (i := 418) (by decide +kernel)⟩
theorem lw_p6 : lw_okq (⟨"MovingBanks$Survey", "settleIsle", "(LMovingBanks$Leaf;)V"⟩, 4) := ⟨⟨by decide +kernel, by decide +kernel⟩, List.mem_of_getElem? (i := 55) (by decide +kernel), List.mem_of_getElem? (i := 425) (by decide +kernel), List.mem_of_getElem? (i := 426) (by decide +kernel)⟩
theorem lw_p7 : lw_okq (⟨"MovingBanks$Replay", "nextStepYear", "()I"⟩, 10) := ⟨⟨by decide +kernel, by decide +kernel⟩, List.mem_of_getElem? (i := 226) (by decide +kernel), List.mem_of_getElem? (i := 535) (by decide +kernel), List.mem_of_getElem? (i := 536) (by decide +kernel)⟩
theorem lw_p8 : lw_okq (⟨"MovingBanks$Replay", "nextDeedYear", "()I"⟩, 10) := ⟨⟨by decide +kernel, by decide +kernel⟩, List.mem_of_getElem? (i := 226) (by decide +kernel), List.mem_of_getElem? (i := 539) (by decide +kernel), List.mem_of_getElem? (i := 540) (by decide +kernel)⟩
theorem lw_p9 : lw_okq (⟨"MovingBanks$Replay", "takeStep", "()V"⟩, 10) := ⟨⟨by decide +kernel, by decide +kernel⟩, List.mem_of_getElem? (i := 226) (by decide +kernel), List.mem_of_getElem? (i := 544) (by decide +kernel), List.mem_of_getElem? (i := 545) (by decide +kernel)⟩
theorem lw_p10 : lw_okq (⟨"MovingBanks$Replay", "shiftOwners", "(LMovingBanks$Leaf;I)V"⟩, 10) := ⟨⟨by decide +kernel, by decide +kernel⟩, List.mem_of_getElem? (i := 226) (by decide +kernel), List.mem_of_getElem? (i := 556) (by decide +kernel), List.mem_of_getElem? (i := 557) (by decide +kernel)⟩
theorem lw_p11 : lw_okq (⟨"MovingBanks$Replay", "takeDeed", "()V"⟩, 10) := ⟨⟨by decide +kernel, by decide +kernel⟩, List.mem_of_getElem? (i := 226) (by decide +kernel), List.mem_of_getElem? (i := 560) (by decide +kernel), List.mem_of_getElem? (i := 561) (by decide +kernel)⟩
theorem lw_p12 : lw_okq (⟨"MovingBanks$Replay", "isByWater", "(LMovingBanks$Leaf;I)Z"⟩, 10) := ⟨⟨by decide +kernel, by decide +kernel⟩, List.mem_of_getElem? (i := 226) (by decide +kernel), List.mem_of_getElem? (i := 586) (by decide +kernel), List.mem_of_getElem? (i := 587) (by decide +kernel)⟩
theorem lw_p13 : lw_okq (⟨"MovingBanks", "tell", "(II)V"⟩, 8) := ⟨⟨by decide +kernel, by decide +kernel⟩, List.mem_of_getElem? (i := 18) (by decide +kernel), List.mem_of_getElem? (i := 596) (by decide +kernel), List.mem_of_getElem? (i := 597) (by decide +kernel)⟩
theorem lw_p14 : lw_okq (⟨"MovingBanks$Replay", "runAheadOf", "(I)V"⟩, 10) := ⟨⟨by decide +kernel, by decide +kernel⟩, List.mem_of_getElem? (i := 226) (by decide +kernel), List.mem_of_getElem? (i := 618) (by decide +kernel), List.mem_of_getElem? (i := 619) (by decide +kernel)⟩
theorem lw_p15 : lw_okq (⟨"MovingBanks$Replay", "differing", "()I"⟩, 10) := ⟨⟨by decide +kernel, by decide +kernel⟩, List.mem_of_getElem? (i := 226) (by decide +kernel), List.mem_of_getElem? (i := 627) (by decide +kernel), List.mem_of_getElem? (i := 628) (by decide +kernel)⟩
def lw_privs_1 : List (MethodName × Nat) := [(⟨"MovingBanks$Survey", "apartFromFast", "(LMovingBanks$Leaf;I)I"⟩, 4), (⟨"MovingBanks$Survey", "apartFromOldWater", "(LMovingBanks$Leaf;I)I"⟩, 4), (⟨"MovingBanks$Survey", "gather", "(I)V"⟩, 4), (⟨"MovingBanks$Survey", "partIsByFast", "(LMovingBanks$Leaf;)Z"⟩, 4), (⟨"MovingBanks$Survey", "settleShore", "(LMovingBanks$Leaf;)V"⟩, 4), (⟨"MovingBanks$Survey", "fastNearestTo", "(LMovingBanks$Leaf;II)I"⟩, 4), (⟨"MovingBanks$Survey", "settleIsle", "(LMovingBanks$Leaf;)V"⟩, 4), (⟨"MovingBanks$Replay", "nextStepYear", "()I"⟩, 10), (⟨"MovingBanks$Replay", "nextDeedYear", "()I"⟩, 10), (⟨"MovingBanks$Replay", "takeStep", "()V"⟩, 10), (⟨"MovingBanks$Replay", "shiftOwners", "(LMovingBanks$Leaf;I)V"⟩, 10), (⟨"MovingBanks$Replay", "takeDeed", "()V"⟩, 10), (⟨"MovingBanks$Replay", "isByWater", "(LMovingBanks$Leaf;I)Z"⟩, 10), (⟨"MovingBanks", "tell", "(II)V"⟩, 8), (⟨"MovingBanks$Replay", "runAheadOf", "(I)V"⟩, 10), (⟨"MovingBanks$Replay", "differing", "()I"⟩, 10)]
theorem lw_r1 : ∀ q ∈ lw_privs_1, lw_okq q := List.forall_mem_cons.mpr ⟨lw_p0, List.forall_mem_cons.mpr ⟨lw_p1, List.forall_mem_cons.mpr ⟨lw_p2, List.forall_mem_cons.mpr ⟨lw_p3, List.forall_mem_cons.mpr ⟨lw_p4, List.forall_mem_cons.mpr ⟨lw_p5, List.forall_mem_cons.mpr ⟨lw_p6, List.forall_mem_cons.mpr ⟨lw_p7, List.forall_mem_cons.mpr ⟨lw_p8, List.forall_mem_cons.mpr ⟨lw_p9, List.forall_mem_cons.mpr ⟨lw_p10, List.forall_mem_cons.mpr ⟨lw_p11, List.forall_mem_cons.mpr ⟨lw_p12, List.forall_mem_cons.mpr ⟨lw_p13, List.forall_mem_cons.mpr ⟨lw_p14, List.forall_mem_cons.mpr ⟨lw_p15, fun _ h => absurd h List.not_mem_nil⟩⟩⟩⟩⟩⟩⟩⟩⟩⟩⟩⟩⟩⟩⟩⟩
theorem lw_p16 : lw_okq (⟨"java/lang/Throwable", "fillInStackTrace", "(I)Ljava/lang/Throwable;"⟩, 6) := ⟨⟨by decide +kernel, by decide +kernel⟩, List.mem_of_getElem? (i := 688) (by decide +kernel), List.mem_of_getElem? (i := 686) (by decide +kernel), List.mem_of_getElem? (i := 687) (by decide +kernel)⟩
theorem lw_p17 : lw_okq (⟨"MovingBanksModel", "lays", "()V"⟩, 30) := ⟨⟨by decide +kernel, by decide +kernel⟩, List.mem_of_getElem? (i := 735) (by decide +kernel), List.mem_of_getElem? (i := 741) (by decide +kernel), List.mem_of_getElem? (i := 742) (by decide +kernel)⟩
theorem lw_p18 : lw_okq (⟨"MovingBanksModel", "rowOf", "(II)I"⟩, 30) := ⟨⟨by decide +kernel, by decide +kernel⟩, List.mem_of_getElem? (i := 735) (by decide +kernel), List.mem_of_getElem? (i := 848) (by decide +kernel), List.mem_of_getElem? (i := 849) (by decide +kernel)⟩
theorem lw_p19 : lw_okq (⟨"MovingBanksModel", "isBox", "(IIII)Z"⟩, 30) := ⟨⟨by decide +kernel, by decide +kernel⟩, List.mem_of_getElem? (i := 735) (by decide +kernel), List.mem_of_getElem? (i := 873) (by decide +kernel), List.mem_of_getElem? (i := 874) (by decide +kernel)⟩
theorem lw_p20 : lw_okq (⟨"MovingBanksModel", "isCell", "(II)Z"⟩, 30) := ⟨⟨by decide +kernel, by decide +kernel⟩, List.mem_of_getElem? (i := 735) (by decide +kernel), List.mem_of_getElem? (i := 877) (by decide +kernel), List.mem_of_getElem? (i := 878) (by decide +kernel)⟩
theorem lw_p21 : lw_okq (⟨"MovingBanksModel", "isStep", "(I)Z"⟩, 30) := ⟨⟨by decide +kernel, by decide +kernel⟩, List.mem_of_getElem? (i := 735) (by decide +kernel), List.mem_of_getElem? (i := 906) (by decide +kernel), List.mem_of_getElem? (i := 907) (by decide +kernel)⟩
theorem lw_p22 : lw_okq (⟨"MovingBanksModel", "mapIn", "(I)I"⟩, 30) := ⟨⟨by decide +kernel, by decide +kernel⟩, List.mem_of_getElem? (i := 735) (by decide +kernel), List.mem_of_getElem? (i := 918) (by decide +kernel), List.mem_of_getElem? (i := 919) (by decide +kernel)⟩
theorem lw_p23 : lw_okq (⟨"MovingBanksModel", "isWet", "(II)Z"⟩, 30) := ⟨⟨by decide +kernel, by decide +kernel⟩, List.mem_of_getElem? (i := 735) (by decide +kernel), List.mem_of_getElem? (i := 922) (by decide +kernel), List.mem_of_getElem? (i := 923) (by decide +kernel)⟩
theorem lw_p24 : lw_okq (⟨"MovingBanksModel", "upTo", "(II)V"⟩, 30) := ⟨⟨by decide +kernel, by decide +kernel⟩, List.mem_of_getElem? (i := 735) (by decide +kernel), List.mem_of_getElem? (i := 930) (by decide +kernel), List.mem_of_getElem? (i := 931) (by decide +kernel)⟩
theorem lw_p25 : lw_okq (⟨"MovingBanksModel", "begins", "()V"⟩, 30) := ⟨⟨by decide +kernel, by decide +kernel⟩, List.mem_of_getElem? (i := 735) (by decide +kernel), List.mem_of_getElem? (i := 934) (by decide +kernel), List.mem_of_getElem? (i := 935) (by decide +kernel)⟩
theorem lw_p26 : lw_okq (⟨"MovingBanksModel", "goes", "(II)V"⟩, 30) := ⟨⟨by decide +kernel, by decide +kernel⟩, List.mem_of_getElem? (i := 735) (by decide +kernel), List.mem_of_getElem? (i := 938) (by decide +kernel), List.mem_of_getElem? (i := 939) (by decide +kernel)⟩
theorem lw_p27 : lw_okq (⟨"MovingBanksModel", "stepIn", "(I)I"⟩, 30) := ⟨⟨by decide +kernel, by decide +kernel⟩, List.mem_of_getElem? (i := 735) (by decide +kernel), List.mem_of_getElem? (i := 942) (by decide +kernel), List.mem_of_getElem? (i := 943) (by decide +kernel)⟩
theorem lw_p28 : lw_okq (⟨"MovingBanksModel", "steps", "(IZ)V"⟩, 30) := ⟨⟨by decide +kernel, by decide +kernel⟩, List.mem_of_getElem? (i := 735) (by decide +kernel), List.mem_of_getElem? (i := 946) (by decide +kernel), List.mem_of_getElem? (i := 947) (by decide +kernel)⟩
theorem lw_p29 : lw_okq (⟨"MovingBanksModel", "kinds", "(I)V"⟩, 30) := ⟨⟨by decide +kernel, by decide +kernel⟩, List.mem_of_getElem? (i := 735) (by decide +kernel), List.mem_of_getElem? (i := 950) (by decide +kernel), List.mem_of_getElem? (i := 951) (by decide +kernel)⟩
theorem lw_p30 : lw_okq (⟨"MovingBanksModel", "isOn", "(I)Z"⟩, 30) := ⟨⟨by decide +kernel, by decide +kernel⟩, List.mem_of_getElem? (i := 735) (by decide +kernel), List.mem_of_getElem? (i := 954) (by decide +kernel), List.mem_of_getElem? (i := 955) (by decide +kernel)⟩
theorem lw_p31 : lw_okq (⟨"MovingBanksModel", "lawIn", "(I)I"⟩, 30) := ⟨⟨by decide +kernel, by decide +kernel⟩, List.mem_of_getElem? (i := 735) (by decide +kernel), List.mem_of_getElem? (i := 958) (by decide +kernel), List.mem_of_getElem? (i := 959) (by decide +kernel)⟩
def lw_privs_2 : List (MethodName × Nat) := [(⟨"java/lang/Throwable", "fillInStackTrace", "(I)Ljava/lang/Throwable;"⟩, 6), (⟨"MovingBanksModel", "lays", "()V"⟩, 30), (⟨"MovingBanksModel", "rowOf", "(II)I"⟩, 30), (⟨"MovingBanksModel", "isBox", "(IIII)Z"⟩, 30), (⟨"MovingBanksModel", "isCell", "(II)Z"⟩, 30), (⟨"MovingBanksModel", "isStep", "(I)Z"⟩, 30), (⟨"MovingBanksModel", "mapIn", "(I)I"⟩, 30), (⟨"MovingBanksModel", "isWet", "(II)Z"⟩, 30), (⟨"MovingBanksModel", "upTo", "(II)V"⟩, 30), (⟨"MovingBanksModel", "begins", "()V"⟩, 30), (⟨"MovingBanksModel", "goes", "(II)V"⟩, 30), (⟨"MovingBanksModel", "stepIn", "(I)I"⟩, 30), (⟨"MovingBanksModel", "steps", "(IZ)V"⟩, 30), (⟨"MovingBanksModel", "kinds", "(I)V"⟩, 30), (⟨"MovingBanksModel", "isOn", "(I)Z"⟩, 30), (⟨"MovingBanksModel", "lawIn", "(I)I"⟩, 30)]
theorem lw_r2 : ∀ q ∈ lw_privs_2, lw_okq q := List.forall_mem_cons.mpr ⟨lw_p16, List.forall_mem_cons.mpr ⟨lw_p17, List.forall_mem_cons.mpr ⟨lw_p18, List.forall_mem_cons.mpr ⟨lw_p19, List.forall_mem_cons.mpr ⟨lw_p20, List.forall_mem_cons.mpr ⟨lw_p21, List.forall_mem_cons.mpr ⟨lw_p22, List.forall_mem_cons.mpr ⟨lw_p23, List.forall_mem_cons.mpr ⟨lw_p24, List.forall_mem_cons.mpr ⟨lw_p25, List.forall_mem_cons.mpr ⟨lw_p26, List.forall_mem_cons.mpr ⟨lw_p27, List.forall_mem_cons.mpr ⟨lw_p28, List.forall_mem_cons.mpr ⟨lw_p29, List.forall_mem_cons.mpr ⟨lw_p30, List.forall_mem_cons.mpr ⟨lw_p31, fun _ h => absurd h List.not_mem_nil⟩⟩⟩⟩⟩⟩⟩⟩⟩⟩⟩⟩⟩⟩⟩⟩
theorem lw_p32 : lw_okq (⟨"MovingBanksModel", "isSudden", "(I)Z"⟩, 30) := ⟨⟨by decide +kernel, by decide +kernel⟩, List.mem_of_getElem? (i := 735) (by decide +kernel), List.mem_of_getElem? (i := 962) (by decide +kernel), List.mem_of_getElem? (i := 963) (by decide +kernel)⟩
theorem lw_p33 : lw_okq (⟨"MovingBanksModel", "far", "()I"⟩, 30) := ⟨⟨by decide +kernel, by decide +kernel⟩, List.mem_of_getElem? (i := 735) (by decide +kernel), List.mem_of_getElem? (i := 966) (by decide +kernel), List.mem_of_getElem? (i := 967) (by decide +kernel)⟩
theorem lw_p34 : lw_okq (⟨"MovingBanksModel", "findsParts", "()V"⟩, 30) := ⟨⟨by decide +kernel, by decide +kernel⟩, List.mem_of_getElem? (i := 735) (by decide +kernel), List.mem_of_getElem? (i := 975) (by decide +kernel), List.mem_of_getElem? (i := 976) (by decide +kernel)⟩
theorem lw_p35 : lw_okq (⟨"MovingBanksModel", "nearest", "(I)I"⟩, 30) := ⟨⟨by decide +kernel, by decide +kernel⟩, List.mem_of_getElem? (i := 735) (by decide +kernel), List.mem_of_getElem? (i := 982) (by decide +kernel), List.mem_of_getElem? (i := 983) (by decide +kernel)⟩
theorem lw_p36 : lw_okq (⟨"MovingBanksModel", "nearestToPart", "(I)I"⟩, 30) := ⟨⟨by decide +kernel, by decide +kernel⟩, List.mem_of_getElem? (i := 735) (by decide +kernel), List.mem_of_getElem? (i := 986) (by decide +kernel), List.mem_of_getElem? (i := 987) (by decide +kernel)⟩
theorem lw_p37 : lw_okq (⟨"MovingBanksModel", "awayFromPart", "(II)I"⟩, 30) := ⟨⟨by decide +kernel, by decide +kernel⟩, List.mem_of_getElem? (i := 735) (by decide +kernel), List.mem_of_getElem? (i := 990) (by decide +kernel), List.mem_of_getElem? (i := 991) (by decide +kernel)⟩
theorem lw_p38 : lw_okq (⟨"MovingBanksModel", "deedsIn", "(I)V"⟩, 30) := ⟨⟨by decide +kernel, by decide +kernel⟩, List.mem_of_getElem? (i := 735) (by decide +kernel), List.mem_of_getElem? (i := 994) (by decide +kernel), List.mem_of_getElem? (i := 995) (by decide +kernel)⟩
theorem lw_p39 : lw_okq (⟨"MovingBanksModel", "isAsked", "(II)Z"⟩, 30) := ⟨⟨by decide +kernel, by decide +kernel⟩, List.mem_of_getElem? (i := 735) (by decide +kernel), List.mem_of_getElem? (i := 1002) (by decide +kernel), List.mem_of_getElem? (i := 1003) (by decide +kernel)⟩
theorem lw_p40 : lw_okq (⟨"MovingBanksModel", "areaOn", "(II)I"⟩, 30) := ⟨⟨by decide +kernel, by decide +kernel⟩, List.mem_of_getElem? (i := 735) (by decide +kernel), List.mem_of_getElem? (i := 1006) (by decide +kernel), List.mem_of_getElem? (i := 1007) (by decide +kernel)⟩
theorem lw_p41 : lw_okq (⟨"MovingBanksModel", "isByWater", "(II)Z"⟩, 30) := ⟨⟨by decide +kernel, by decide +kernel⟩, List.mem_of_getElem? (i := 735) (by decide +kernel), List.mem_of_getElem? (i := 1014) (by decide +kernel), List.mem_of_getElem? (i := 1015) (by decide +kernel)⟩
theorem lw_p42 : lw_okq (⟨"MovingBanksModel", "kindsOf", "(I)I"⟩, 30) := ⟨⟨by decide +kernel, by decide +kernel⟩, List.mem_of_getElem? (i := 735) (by decide +kernel), List.mem_of_getElem? (i := 1035) (by decide +kernel), List.mem_of_getElem? (i := 1036) (by decide +kernel)⟩
theorem lw_p43 : lw_okq (⟨"MovingBanksModel", "shores", "()I"⟩, 30) := ⟨⟨by decide +kernel, by decide +kernel⟩, List.mem_of_getElem? (i := 735) (by decide +kernel), List.mem_of_getElem? (i := 1039) (by decide +kernel), List.mem_of_getElem? (i := 1040) (by decide +kernel)⟩
theorem lw_p44 : lw_okq (⟨"MovingBanksModel", "walks", "(I)V"⟩, 30) := ⟨⟨by decide +kernel, by decide +kernel⟩, List.mem_of_getElem? (i := 735) (by decide +kernel), List.mem_of_getElem? (i := 1043) (by decide +kernel), List.mem_of_getElem? (i := 1044) (by decide +kernel)⟩
theorem lw_p45 : lw_okq (⟨"MovingBanksModel", "refuse", "()I"⟩, 30) := ⟨⟨by decide +kernel, by decide +kernel⟩, List.mem_of_getElem? (i := 735) (by decide +kernel), List.mem_of_getElem? (i := 1051) (by decide +kernel), List.mem_of_getElem? (i := 1052) (by decide +kernel)⟩
theorem lw_p46 : lw_okq (⟨"MovingBanksModel", "unlike", "(II)I"⟩, 30) := ⟨⟨by decide +kernel, by decide +kernel⟩, List.mem_of_getElem? (i := 735) (by decide +kernel), List.mem_of_getElem? (i := 1059) (by decide +kernel), List.mem_of_getElem? (i := 1060) (by decide +kernel)⟩
def lw_privs_3 : List (MethodName × Nat) := [(⟨"MovingBanksModel", "isSudden", "(I)Z"⟩, 30), (⟨"MovingBanksModel", "far", "()I"⟩, 30), (⟨"MovingBanksModel", "findsParts", "()V"⟩, 30), (⟨"MovingBanksModel", "nearest", "(I)I"⟩, 30), (⟨"MovingBanksModel", "nearestToPart", "(I)I"⟩, 30), (⟨"MovingBanksModel", "awayFromPart", "(II)I"⟩, 30), (⟨"MovingBanksModel", "deedsIn", "(I)V"⟩, 30), (⟨"MovingBanksModel", "isAsked", "(II)Z"⟩, 30), (⟨"MovingBanksModel", "areaOn", "(II)I"⟩, 30), (⟨"MovingBanksModel", "isByWater", "(II)Z"⟩, 30), (⟨"MovingBanksModel", "kindsOf", "(I)I"⟩, 30), (⟨"MovingBanksModel", "shores", "()I"⟩, 30), (⟨"MovingBanksModel", "walks", "(I)V"⟩, 30), (⟨"MovingBanksModel", "refuse", "()I"⟩, 30), (⟨"MovingBanksModel", "unlike", "(II)I"⟩, 30)]
theorem lw_r3 : ∀ q ∈ lw_privs_3, lw_okq q := List.forall_mem_cons.mpr ⟨lw_p32, List.forall_mem_cons.mpr ⟨lw_p33, List.forall_mem_cons.mpr ⟨lw_p34, List.forall_mem_cons.mpr ⟨lw_p35, List.forall_mem_cons.mpr ⟨lw_p36, List.forall_mem_cons.mpr ⟨lw_p37, List.forall_mem_cons.mpr ⟨lw_p38, List.forall_mem_cons.mpr ⟨lw_p39, List.forall_mem_cons.mpr ⟨lw_p40, List.forall_mem_cons.mpr ⟨lw_p41, List.forall_mem_cons.mpr ⟨lw_p42, List.forall_mem_cons.mpr ⟨lw_p43, List.forall_mem_cons.mpr ⟨lw_p44, List.forall_mem_cons.mpr ⟨lw_p45, List.forall_mem_cons.mpr ⟨lw_p46, fun _ h => absurd h List.not_mem_nil⟩⟩⟩⟩⟩⟩⟩⟩⟩⟩⟩⟩⟩⟩⟩
def lw_privs : List (MethodName × Nat) := lw_privs_1 ++ (lw_privs_2 ++ (lw_privs_3))
def lw_tbl : List Cond := k2_sels lw_privs ++ tables_1
theorem lw_privs_ok : ∀ q ∈ lw_privs, lw_okq q := by
  show ∀ q ∈ lw_privs_1 ++ (lw_privs_2 ++ (lw_privs_3)), lw_okq q
  exact List.forall_mem_append.mpr ⟨lw_r1, List.forall_mem_append.mpr ⟨lw_r2, lw_r3⟩⟩
-- ===== end of PART A; then your names; then what follows =====
end
section
/-! ===== BEGIN printed: names, fields, word lists, decode rows ===== -/
def RX0 : String := "MovingBanks$Atlas"
def TX0 : u_T := fun k => match k with
  | 0 => ("MovingBanks$Atlas", "ground", "LMovingBanks$Ground;", true)
  | 1 => ("MovingBanks$Atlas", "survey", "LMovingBanks$Survey;", true)
  | 2 => ("MovingBanks$Atlas", "leaves", "[LMovingBanks$Leaf;", true)
  | 3 => ("MovingBanks$Atlas", "draft", "[Z", true)
  | 4 => ("MovingBanks$Atlas", "maps", "I", false)
  | _ => ("MovingBanks$Atlas", "slowUpTo", "I", false)
def tyX0 : Nat → FieldType := fun k => match k with
  | 0 => .object "MovingBanks$Ground"
  | 1 => .object "MovingBanks$Survey"
  | 2 => .array (.object "MovingBanks$Leaf")
  | 3 => .array .boolean
  | 4 => .int
  | _ => .int
abbrev wsX00 : List Cond := u_ws RX0 TX0 6
theorem nmX0 : ∀ a, a < 6 → ∀ b, b < 6 → a ≠ b → (TX0 a).2.1 ≠ (TX0 b).2.1 := by decide +kernel
theorem tyX0_ok : ∀ k, k < 6 → parseFieldDescriptor (TX0 k).2.2.1 = some (tyX0 k) := by decide +kernel
abbrev cX0_init : ByteArray := prog_2_method_1_code
def yX0_init : MethodName := ⟨RX0, "<init>", "(LMovingBanks$Ground;LMovingBanks$Survey;)V"⟩
abbrev cX0_clear : ByteArray := prog_2_method_2_code
def yX0_clear : MethodName := ⟨RX0, "clear", "()V"⟩
abbrev cX0_isEmpty : ByteArray := prog_2_method_3_code
def yX0_isEmpty : MethodName := ⟨RX0, "isEmpty", "()Z"⟩
abbrev cX0_isFull : ByteArray := prog_2_method_4_code
def yX0_isFull : MethodName := ⟨RX0, "isFull", "()Z"⟩
abbrev cX0_hasStep : ByteArray := prog_2_method_5_code
def yX0_hasStep : MethodName := ⟨RX0, "hasStep", "(I)Z"⟩
abbrev cX0_latestYear : ByteArray := prog_2_method_6_code
def yX0_latestYear : MethodName := ⟨RX0, "latestYear", "()I"⟩
abbrev cX0_draftLine : ByteArray := prog_2_method_7_code
def yX0_draftLine : MethodName := ⟨RX0, "draftLine", "(II)I"⟩
abbrev cX0_add : ByteArray := prog_2_method_8_code
def yX0_add : MethodName := ⟨RX0, "add", "(I)I"⟩
abbrev cX0_leafIn : ByteArray := prog_2_method_9_code
def yX0_leafIn : MethodName := ⟨RX0, "leafIn", "(I)LMovingBanks$Leaf;"⟩
abbrev cX0_isSudden : ByteArray := prog_2_method_10_code
def yX0_isSudden : MethodName := ⟨RX0, "isSudden", "(I)Z"⟩
abbrev cX0_kindBetween : ByteArray := prog_2_method_11_code
def yX0_kindBetween : MethodName := ⟨RX0, "kindBetween", "(ZZ)I"⟩
def RX1 : String := "MovingBanks$Deeds"
def TX1 : u_T := fun k => match k with
  | 0 => ("MovingBanks$Deeds", "size", "I", false)
  | 1 => ("MovingBanks$Deeds", "left", "[I", true)
  | 2 => ("MovingBanks$Deeds", "top", "[I", true)
  | 3 => ("MovingBanks$Deeds", "right", "[I", true)
  | 4 => ("MovingBanks$Deeds", "bottom", "[I", true)
  | 5 => ("MovingBanks$Deeds", "givenTo", "[I", true)
  | 6 => ("MovingBanks$Deeds", "years", "[I", true)
  | 7 => ("MovingBanks$Deeds", "struck", "[Z", true)
  | _ => ("MovingBanks$Deeds", "order", "[I", true)
def tyX1 : Nat → FieldType := fun k => match k with
  | 0 => .int
  | 1 => .array .int
  | 2 => .array .int
  | 3 => .array .int
  | 4 => .array .int
  | 5 => .array .int
  | 6 => .array .int
  | 7 => .array .boolean
  | _ => .array .int
abbrev wsX10 : List Cond := u_ws RX1 TX1 9
theorem nmX1 : ∀ a, a < 9 → ∀ b, b < 9 → a ≠ b → (TX1 a).2.1 ≠ (TX1 b).2.1 := by decide +kernel
theorem tyX1_ok : ∀ k, k < 9 → parseFieldDescriptor (TX1 k).2.2.1 = some (tyX1 k) := by decide +kernel
abbrev cX1_init : ByteArray := prog_3_method_1_code
def yX1_init : MethodName := ⟨RX1, "<init>", "()V"⟩
abbrev cX1_clear : ByteArray := prog_3_method_2_code
def yX1_clear : MethodName := ⟨RX1, "clear", "()V"⟩
abbrev cX1_isFull : ByteArray := prog_3_method_3_code
def yX1_isFull : MethodName := ⟨RX1, "isFull", "()Z"⟩
abbrev cX1_has : ByteArray := prog_3_method_4_code
def yX1_has : MethodName := ⟨RX1, "has", "(I)Z"⟩
abbrev cX1_add : ByteArray := prog_3_method_5_code
def yX1_add : MethodName := ⟨RX1, "add", "(IIIIII)I"⟩
abbrev cX1_notStruck : ByteArray := prog_3_method_6_code
def yX1_notStruck : MethodName := ⟨RX1, "notStruck", "()I"⟩
def RX2 : String := "MovingBanks$Ground"
def TX2 : u_T := fun k => match k with
  | 0 => ("MovingBanks$Ground", "wide", "I", false)
  | 1 => ("MovingBanks$Ground", "high", "I", false)
  | 2 => ("MovingBanks$Ground", "cells", "I", false)
  | 3 => ("MovingBanks$Ground", "columns", "[I", true)
  | _ => ("MovingBanks$Ground", "lines", "[I", true)
def tyX2 : Nat → FieldType := fun k => match k with
  | 0 => .int
  | 1 => .int
  | 2 => .int
  | 3 => .array .int
  | _ => .array .int
abbrev wsX20 : List Cond := u_ws RX2 TX2 5
theorem nmX2 : ∀ a, a < 5 → ∀ b, b < 5 → a ≠ b → (TX2 a).2.1 ≠ (TX2 b).2.1 := by decide +kernel
theorem tyX2_ok : ∀ k, k < 5 → parseFieldDescriptor (TX2 k).2.2.1 = some (tyX2 k) := by decide +kernel
abbrev cX2_init : ByteArray := prog_4_method_1_code
def yX2_init : MethodName := ⟨RX2, "<init>", "()V"⟩
abbrev cX2_lay : ByteArray := prog_4_method_2_code
def yX2_lay : MethodName := ⟨RX2, "lay", "(II)V"⟩
abbrev cX2_hasLine : ByteArray := prog_4_method_3_code
def yX2_hasLine : MethodName := ⟨RX2, "hasLine", "(I)Z"⟩
abbrev cX2_has : ByteArray := prog_4_method_4_code
def yX2_has : MethodName := ⟨RX2, "has", "(II)Z"⟩
abbrev cX2_hasBox : ByteArray := prog_4_method_5_code
def yX2_hasBox : MethodName := ⟨RX2, "hasBox", "(IIII)Z"⟩
abbrev cX2_cellAt : ByteArray := prog_4_method_6_code
def yX2_cellAt : MethodName := ⟨RX2, "cellAt", "(II)I"⟩
abbrev cX2_beside : ByteArray := prog_4_method_7_code
def yX2_beside : MethodName := ⟨RX2, "beside", "(II)I"⟩
abbrev cX2_apart : ByteArray := prog_4_method_8_code
def yX2_apart : MethodName := ⟨RX2, "apart", "(II)I"⟩
abbrev cX2_walk : ByteArray := prog_4_method_9_code
def yX2_walk : MethodName := ⟨RX2, "walk", "(II)I"⟩
def RX3 : String := "MovingBanks$Laws"
def TX3 : u_T := fun k => match k with
  | 0 => ("MovingBanks$Laws", "told", "I", false)
  | 1 => ("MovingBanks$Laws", "years", "[I", true)
  | 2 => ("MovingBanks$Laws", "forSlow", "[I", true)
  | 3 => ("MovingBanks$Laws", "forSudden", "[I", true)
  | _ => ("MovingBanks$Laws", "forIsles", "[I", true)
def tyX3 : Nat → FieldType := fun k => match k with
  | 0 => .int
  | 1 => .array .int
  | 2 => .array .int
  | 3 => .array .int
  | _ => .array .int
abbrev wsX30 : List Cond := u_ws RX3 TX3 5
theorem nmX3 : ∀ a, a < 5 → ∀ b, b < 5 → a ≠ b → (TX3 a).2.1 ≠ (TX3 b).2.1 := by decide +kernel
theorem tyX3_ok : ∀ k, k < 5 → parseFieldDescriptor (TX3 k).2.2.1 = some (tyX3 k) := by decide +kernel
abbrev cX3_init : ByteArray := prog_5_method_1_code
def yX3_init : MethodName := ⟨RX3, "<init>", "()V"⟩
abbrev cX3_isFull : ByteArray := prog_5_method_2_code
def yX3_isFull : MethodName := ⟨RX3, "isFull", "()Z"⟩
abbrev cX3_add : ByteArray := prog_5_method_3_code
def yX3_add : MethodName := ⟨RX3, "add", "(IIII)I"⟩
abbrev cX3_placeFor : ByteArray := prog_5_method_4_code
def yX3_placeFor : MethodName := ⟨RX3, "placeFor", "(I)I"⟩
def RX4 : String := "MovingBanks$Leaf"
def TX4 : u_T := fun k => match k with
  | 0 => ("MovingBanks$Leaf", "year", "I", false)
  | 1 => ("MovingBanks$Leaf", "lostCells", "I", false)
  | 2 => ("MovingBanks$Leaf", "newCells", "I", false)
  | 3 => ("MovingBanks$Leaf", "far", "I", false)
  | 4 => ("MovingBanks$Leaf", "parts", "I", false)
  | 5 => ("MovingBanks$Leaf", "isles", "I", false)
  | 6 => ("MovingBanks$Leaf", "judged", "I", false)
  | 7 => ("MovingBanks$Leaf", "kinds", "[I", true)
  | _ => ("MovingBanks$Leaf", "heirOf", "[I", true)
def tyX4 : Nat → FieldType := fun k => match k with
  | 0 => .int
  | 1 => .int
  | 2 => .int
  | 3 => .int
  | 4 => .int
  | 5 => .int
  | 6 => .int
  | 7 => .array .int
  | _ => .array .int
abbrev wsX40 : List Cond := u_ws RX4 TX4 9
theorem nmX4 : ∀ a, a < 9 → ∀ b, b < 9 → a ≠ b → (TX4 a).2.1 ≠ (TX4 b).2.1 := by decide +kernel
theorem tyX4_ok : ∀ k, k < 9 → parseFieldDescriptor (TX4 k).2.2.1 = some (tyX4 k) := by decide +kernel
abbrev cX4_init : ByteArray := prog_6_method_1_code
def yX4_init : MethodName := ⟨RX4, "<init>", "()V"⟩
abbrev cX4_isDry : ByteArray := prog_6_method_2_code
def yX4_isDry : MethodName := ⟨RX4, "isDry", "(I)Z"⟩
abbrev cX4_isNew : ByteArray := prog_6_method_3_code
def yX4_isNew : MethodName := ⟨RX4, "isNew", "(I)Z"⟩
abbrev cX4_wasWater : ByteArray := prog_6_method_4_code
def yX4_wasWater : MethodName := ⟨RX4, "wasWater", "(I)Z"⟩
def RX5 : String := "MovingBanks$Replay"
def TX5 : u_T := fun k => match k with
  | 0 => ("MovingBanks$Replay", "ground", "LMovingBanks$Ground;", true)
  | 1 => ("MovingBanks$Replay", "atlas", "LMovingBanks$Atlas;", true)
  | 2 => ("MovingBanks$Replay", "deeds", "LMovingBanks$Deeds;", true)
  | 3 => ("MovingBanks$Replay", "laws", "LMovingBanks$Laws;", true)
  | 4 => ("MovingBanks$Replay", "firstOwners", "[I", true)
  | 5 => ("MovingBanks$Replay", "owners", "[I", true)
  | 6 => ("MovingBanks$Replay", "keptOwners", "[I", true)
  | 7 => ("MovingBanks$Replay", "mapNow", "I", false)
  | 8 => ("MovingBanks$Replay", "deedsDone", "I", false)
  | _ => ("MovingBanks$Replay", "turnedStep", "I", false)
def tyX5 : Nat → FieldType := fun k => match k with
  | 0 => .object "MovingBanks$Ground"
  | 1 => .object "MovingBanks$Atlas"
  | 2 => .object "MovingBanks$Deeds"
  | 3 => .object "MovingBanks$Laws"
  | 4 => .array .int
  | 5 => .array .int
  | 6 => .array .int
  | 7 => .int
  | 8 => .int
  | _ => .int
abbrev wsX50 : List Cond := u_ws RX5 TX5 10
theorem nmX5 : ∀ a, a < 10 → ∀ b, b < 10 → a ≠ b → (TX5 a).2.1 ≠ (TX5 b).2.1 := by decide +kernel
theorem tyX5_ok : ∀ k, k < 10 → parseFieldDescriptor (TX5 k).2.2.1 = some (tyX5 k) := by decide +kernel
abbrev cX5_init : ByteArray := prog_7_method_1_code
def yX5_init : MethodName := ⟨RX5, "<init>", "(LMovingBanks$Ground;LMovingBanks$Atlas;LMovingBanks$Deeds;LMovingBanks$Laws;)V"⟩
abbrev cX5_forgetFirst : ByteArray := prog_7_method_2_code
def yX5_forgetFirst : MethodName := ⟨RX5, "forgetFirst", "()V"⟩
abbrev cX5_setFirst : ByteArray := prog_7_method_3_code
def yX5_setFirst : MethodName := ⟨RX5, "setFirst", "(IIIII)V"⟩
abbrev cX5_runFromFirst : ByteArray := prog_7_method_4_code
def yX5_runFromFirst : MethodName := ⟨RX5, "runFromFirst", "(II)V"⟩
abbrev cX5_runTo : ByteArray := prog_7_method_5_code
def yX5_runTo : MethodName := ⟨RX5, "runTo", "(I)Z"⟩
abbrev cX5_nextStepYear : ByteArray := prog_7_method_6_code
def yX5_nextStepYear : MethodName := ⟨RX5, "nextStepYear", "()I"⟩
abbrev cX5_nextDeedYear : ByteArray := prog_7_method_7_code
def yX5_nextDeedYear : MethodName := ⟨RX5, "nextDeedYear", "()I"⟩
abbrev cX5_takeStep : ByteArray := prog_7_method_8_code
def yX5_takeStep : MethodName := ⟨RX5, "takeStep", "()V"⟩
abbrev cX5_shiftOwners : ByteArray := prog_7_method_9_code
def yX5_shiftOwners : MethodName := ⟨RX5, "shiftOwners", "(LMovingBanks$Leaf;I)V"⟩
abbrev cX5_takeDeed : ByteArray := prog_7_method_10_code
def yX5_takeDeed : MethodName := ⟨RX5, "takeDeed", "()V"⟩
abbrev cX5_dryOf : ByteArray := prog_7_method_11_code
def yX5_dryOf : MethodName := ⟨RX5, "dryOf", "(I)I"⟩
abbrev cX5_dryByWaterOf : ByteArray := prog_7_method_12_code
def yX5_dryByWaterOf : MethodName := ⟨RX5, "dryByWaterOf", "(I)I"⟩
abbrev cX5_isByWater : ByteArray := prog_7_method_13_code
def yX5_isByWater : MethodName := ⟨RX5, "isByWater", "(LMovingBanks$Leaf;I)Z"⟩
abbrev cX5_keep : ByteArray := prog_7_method_14_code
def yX5_keep : MethodName := ⟨RX5, "keep", "()V"⟩
abbrev cX5_differing : ByteArray := prog_7_method_15_code
def yX5_differing : MethodName := ⟨RX5, "differing", "()I"⟩
abbrev cX5_runAheadOf : ByteArray := prog_7_method_16_code
def yX5_runAheadOf : MethodName := ⟨RX5, "runAheadOf", "(I)V"⟩
abbrev cX5_changedBy : ByteArray := prog_7_method_17_code
def yX5_changedBy : MethodName := ⟨RX5, "changedBy", "(I)I"⟩
abbrev cX5_wonBy : ByteArray := prog_7_method_18_code
def yX5_wonBy : MethodName := ⟨RX5, "wonBy", "(II)I"⟩
abbrev cX5_changedByDoubt : ByteArray := prog_7_method_19_code
def yX5_changedByDoubt : MethodName := ⟨RX5, "changedByDoubt", "(II)I"⟩
def RX6 : String := "MovingBanks$Survey"
def TX6 : u_T := fun k => match k with
  | 0 => ("MovingBanks$Survey", "ground", "LMovingBanks$Ground;", true)
  | 1 => ("MovingBanks$Survey", "open", "[Z", true)
  | 2 => ("MovingBanks$Survey", "part", "[I", true)
  | _ => ("MovingBanks$Survey", "partSize", "I", false)
def tyX6 : Nat → FieldType := fun k => match k with
  | 0 => .object "MovingBanks$Ground"
  | 1 => .array .boolean
  | 2 => .array .int
  | _ => .int
abbrev wsX60 : List Cond := u_ws RX6 TX6 4
theorem nmX6 : ∀ a, a < 4 → ∀ b, b < 4 → a ≠ b → (TX6 a).2.1 ≠ (TX6 b).2.1 := by decide +kernel
theorem tyX6_ok : ∀ k, k < 4 → parseFieldDescriptor (TX6 k).2.2.1 = some (tyX6 k) := by decide +kernel
abbrev cX6_init : ByteArray := prog_8_method_1_code
def yX6_init : MethodName := ⟨RX6, "<init>", "(LMovingBanks$Ground;)V"⟩
abbrev cX6_measure : ByteArray := prog_8_method_2_code
def yX6_measure : MethodName := ⟨RX6, "measure", "(LMovingBanks$Leaf;)V"⟩
abbrev cX6_dryParts : ByteArray := prog_8_method_3_code
def yX6_dryParts : MethodName := ⟨RX6, "dryParts", "(LMovingBanks$Leaf;)I"⟩
abbrev cX6_apartFromFast : ByteArray := prog_8_method_4_code
def yX6_apartFromFast : MethodName := ⟨RX6, "apartFromFast", "(LMovingBanks$Leaf;I)I"⟩
abbrev cX6_apartFromOldWater : ByteArray := prog_8_method_5_code
def yX6_apartFromOldWater : MethodName := ⟨RX6, "apartFromOldWater", "(LMovingBanks$Leaf;I)I"⟩
abbrev cX6_sortParts : ByteArray := prog_8_method_6_code
def yX6_sortParts : MethodName := ⟨RX6, "sortParts", "(LMovingBanks$Leaf;)V"⟩
abbrev cX6_gather : ByteArray := prog_8_method_7_code
def yX6_gather : MethodName := ⟨RX6, "gather", "(I)V"⟩
abbrev cX6_partIsByFast : ByteArray := prog_8_method_8_code
def yX6_partIsByFast : MethodName := ⟨RX6, "partIsByFast", "(LMovingBanks$Leaf;)Z"⟩
abbrev cX6_settleShore : ByteArray := prog_8_method_9_code
def yX6_settleShore : MethodName := ⟨RX6, "settleShore", "(LMovingBanks$Leaf;)V"⟩
abbrev cX6_settleIsle : ByteArray := prog_8_method_10_code
def yX6_settleIsle : MethodName := ⟨RX6, "settleIsle", "(LMovingBanks$Leaf;)V"⟩
abbrev cX6_fastNearestTo : ByteArray := prog_8_method_11_code
def yX6_fastNearestTo : MethodName := ⟨RX6, "fastNearestTo", "(LMovingBanks$Leaf;II)I"⟩
def RX7 : String := "MovingBanks"
def TX7 : u_T := fun k => match k with
  | 0 => ("MovingBanks", "ground", "LMovingBanks$Ground;", true)
  | 1 => ("MovingBanks", "survey", "LMovingBanks$Survey;", true)
  | 2 => ("MovingBanks", "atlas", "LMovingBanks$Atlas;", true)
  | 3 => ("MovingBanks", "deeds", "LMovingBanks$Deeds;", true)
  | 4 => ("MovingBanks", "laws", "LMovingBanks$Laws;", true)
  | 5 => ("MovingBanks", "replay", "LMovingBanks$Replay;", true)
  | 6 => ("MovingBanks", "rowNumbers", "[I", true)
  | _ => ("MovingBanks", "rowLength", "I", false)
def tyX7 : Nat → FieldType := fun k => match k with
  | 0 => .object "MovingBanks$Ground"
  | 1 => .object "MovingBanks$Survey"
  | 2 => .object "MovingBanks$Atlas"
  | 3 => .object "MovingBanks$Deeds"
  | 4 => .object "MovingBanks$Laws"
  | 5 => .object "MovingBanks$Replay"
  | 6 => .array .int
  | _ => .int
abbrev wsX70 : List Cond := u_ws RX7 TX7 8
theorem nmX7 : ∀ a, a < 8 → ∀ b, b < 8 → a ≠ b → (TX7 a).2.1 ≠ (TX7 b).2.1 := by decide +kernel
theorem tyX7_ok : ∀ k, k < 8 → parseFieldDescriptor (TX7 k).2.2.1 = some (tyX7 k) := by decide +kernel
abbrev cX7_init : ByteArray := prog_1_method_1_code
def yX7_init : MethodName := ⟨RX7, "<init>", "()V"⟩
abbrev cX7_land : ByteArray := prog_1_method_2_code
def yX7_land : MethodName := ⟨RX7, "land", "(II)Z"⟩
abbrev cX7_water : ByteArray := prog_1_method_3_code
def yX7_water : MethodName := ⟨RX7, "water", "(II)I"⟩
abbrev cX7_sheet : ByteArray := prog_1_method_4_code
def yX7_sheet : MethodName := ⟨RX7, "sheet", "(IIIII)I"⟩
abbrev cX7_map : ByteArray := prog_1_method_5_code
def yX7_map : MethodName := ⟨RX7, "map", "(I)I"⟩
abbrev cX7_own : ByteArray := prog_1_method_6_code
def yX7_own : MethodName := ⟨RX7, "own", "(IIIII)Z"⟩
abbrev cX7_deed : ByteArray := prog_1_method_7_code
def yX7_deed : MethodName := ⟨RX7, "deed", "(IIIIII)I"⟩
abbrev cX7_strike : ByteArray := prog_1_method_8_code
def yX7_strike : MethodName := ⟨RX7, "strike", "(IZ)Z"⟩
abbrev cX7_law : ByteArray := prog_1_method_9_code
def yX7_law : MethodName := ⟨RX7, "law", "(IIII)I"⟩
abbrev cX7_reach : ByteArray := prog_1_method_10_code
def yX7_reach : MethodName := ⟨RX7, "reach", "(I)I"⟩
abbrev cX7_judge : ByteArray := prog_1_method_11_code
def yX7_judge : MethodName := ⟨RX7, "judge", "(II)Z"⟩
abbrev cX7_count : ByteArray := prog_1_method_12_code
def yX7_count : MethodName := ⟨RX7, "count", "(I)I"⟩
abbrev cX7_wet : ByteArray := prog_1_method_13_code
def yX7_wet : MethodName := ⟨RX7, "wet", "(III)I"⟩
abbrev cX7_owner : ByteArray := prog_1_method_14_code
def yX7_owner : MethodName := ⟨RX7, "owner", "(III)I"⟩
abbrev cX7_area : ByteArray := prog_1_method_15_code
def yX7_area : MethodName := ⟨RX7, "area", "(II)I"⟩
abbrev cX7_front : ByteArray := prog_1_method_16_code
def yX7_front : MethodName := ⟨RX7, "front", "(II)I"⟩
abbrev cX7_tax : ByteArray := prog_1_method_17_code
def yX7_tax : MethodName := ⟨RX7, "tax", "(III)I"⟩
abbrev cX7_chain : ByteArray := prog_1_method_18_code
def yX7_chain : MethodName := ⟨RX7, "chain", "(II)I"⟩
abbrev cX7_banks : ByteArray := prog_1_method_19_code
def yX7_banks : MethodName := ⟨RX7, "banks", "(I)I"⟩
abbrev cX7_step : ByteArray := prog_1_method_20_code
def yX7_step : MethodName := ⟨RX7, "step", "(II)I"⟩
abbrev cX7_moved : ByteArray := prog_1_method_21_code
def yX7_moved : MethodName := ⟨RX7, "moved", "(II)I"⟩
abbrev cX7_doubt : ByteArray := prog_1_method_22_code
def yX7_doubt : MethodName := ⟨RX7, "doubt", "(II)I"⟩
abbrev cX7_weak : ByteArray := prog_1_method_23_code
def yX7_weak : MethodName := ⟨RX7, "weak", "(I)I"⟩
abbrev cX7_row : ByteArray := prog_1_method_24_code
def yX7_row : MethodName := ⟨RX7, "row", "(I)I"⟩
abbrev cX7_tell : ByteArray := prog_1_method_25_code
def yX7_tell : MethodName := ⟨RX7, "tell", "(II)V"⟩
abbrev cX7_isBetween : ByteArray := prog_1_method_26_code
def yX7_isBetween : MethodName := ⟨RX7, "isBetween", "(III)Z"⟩
abbrev cX7_isYear : ByteArray := prog_1_method_27_code
def yX7_isYear : MethodName := ⟨RX7, "isYear", "(I)Z"⟩
abbrev cX7_isOwner : ByteArray := prog_1_method_28_code
def yX7_isOwner : MethodName := ⟨RX7, "isOwner", "(I)Z"⟩
abbrev cX7_isOwnerOrNone : ByteArray := prog_1_method_29_code
def yX7_isOwnerOrNone : MethodName := ⟨RX7, "isOwnerOrNone", "(I)Z"⟩
def RX8 : String := "MovingBanksModel"
def TX8 : u_T := fun k => match k with
  | 0 => ("MovingBanksModel", "thrown", "I", false)
  | 1 => ("MovingBanksModel", "w", "I", false)
  | 2 => ("MovingBanksModel", "h", "I", false)
  | 3 => ("MovingBanksModel", "maps", "I", false)
  | 4 => ("MovingBanksModel", "mapYear", "[I", true)
  | 5 => ("MovingBanksModel", "water", "[Z", true)
  | 6 => ("MovingBanksModel", "first", "[I", true)
  | 7 => ("MovingBanksModel", "deeds", "I", false)
  | 8 => ("MovingBanksModel", "deedFrom", "[I", true)
  | 9 => ("MovingBanksModel", "deedTo", "[I", true)
  | 10 => ("MovingBanksModel", "deedOwner", "[I", true)
  | 11 => ("MovingBanksModel", "deedYear", "[I", true)
  | 12 => ("MovingBanksModel", "isStruck", "[Z", true)
  | 13 => ("MovingBanksModel", "laws", "I", false)
  | 14 => ("MovingBanksModel", "lawYear", "[I", true)
  | 15 => ("MovingBanksModel", "lawSlow", "[I", true)
  | 16 => ("MovingBanksModel", "lawSudden", "[I", true)
  | 17 => ("MovingBanksModel", "lawIsle", "[I", true)
  | 18 => ("MovingBanksModel", "reach", "I", false)
  | 19 => ("MovingBanksModel", "judged", "[I", true)
  | 20 => ("MovingBanksModel", "kind", "[I", true)
  | 21 => ("MovingBanksModel", "part", "[I", true)
  | 22 => ("MovingBanksModel", "isShore", "[Z", true)
  | 23 => ("MovingBanksModel", "parts", "I", false)
  | 24 => ("MovingBanksModel", "owner", "[I", true)
  | 25 => ("MovingBanksModel", "next", "[I", true)
  | 26 => ("MovingBanksModel", "rows", "I", false)
  | 27 => ("MovingBanksModel", "row", "[I", true)
  | 28 => ("MovingBanksModel", "bank", "[I", true)
  | _ => ("MovingBanksModel", "before", "[I", true)
def tyX8 : Nat → FieldType := fun k => match k with
  | 0 => .int
  | 1 => .int
  | 2 => .int
  | 3 => .int
  | 4 => .array .int
  | 5 => .array .boolean
  | 6 => .array .int
  | 7 => .int
  | 8 => .array .int
  | 9 => .array .int
  | 10 => .array .int
  | 11 => .array .int
  | 12 => .array .boolean
  | 13 => .int
  | 14 => .array .int
  | 15 => .array .int
  | 16 => .array .int
  | 17 => .array .int
  | 18 => .int
  | 19 => .array .int
  | 20 => .array .int
  | 21 => .array .int
  | 22 => .array .boolean
  | 23 => .int
  | 24 => .array .int
  | 25 => .array .int
  | 26 => .int
  | 27 => .array .int
  | 28 => .array .int
  | _ => .array .int
abbrev wsX80 : List Cond := u_ws RX8 TX8 30
theorem nmX8 : ∀ a, a < 30 → ∀ b, b < 30 → a ≠ b → (TX8 a).2.1 ≠ (TX8 b).2.1 := by decide +kernel
theorem tyX8_ok : ∀ k, k < 30 → parseFieldDescriptor (TX8 k).2.2.1 = some (tyX8 k) := by decide +kernel
abbrev cX8_thrown : ByteArray := prog_10_method_1_code
def yX8_thrown : MethodName := ⟨RX8, "thrown", "()I"⟩
abbrev cX8_in : ByteArray := prog_10_method_2_code
def yX8_in : MethodName := ⟨RX8, "in", "(JJJ)Z"⟩
abbrev cX8_refuse : ByteArray := prog_10_method_3_code
def yX8_refuse : MethodName := ⟨RX8, "refuse", "()I"⟩
abbrev cX8_init : ByteArray := prog_10_method_4_code
def yX8_init : MethodName := ⟨RX8, "<init>", "()V"⟩
abbrev cX8_lays : ByteArray := prog_10_method_5_code
def yX8_lays : MethodName := ⟨RX8, "lays", "()V"⟩
abbrev cX8_isCell : ByteArray := prog_10_method_6_code
def yX8_isCell : MethodName := ⟨RX8, "isCell", "(II)Z"⟩
abbrev cX8_isYear : ByteArray := prog_10_method_7_code
def yX8_isYear : MethodName := ⟨RX8, "isYear", "(I)Z"⟩
abbrev cX8_cell : ByteArray := prog_10_method_8_code
def yX8_cell : MethodName := ⟨RX8, "cell", "(II)I"⟩
abbrev cX8_land : ByteArray := prog_10_method_9_code
def yX8_land : MethodName := ⟨RX8, "land", "(II)Z"⟩
abbrev cX8_rowOf : ByteArray := prog_10_method_10_code
def yX8_rowOf : MethodName := ⟨RX8, "rowOf", "(II)I"⟩
abbrev cX8_water : ByteArray := prog_10_method_11_code
def yX8_water : MethodName := ⟨RX8, "water", "(II)I"⟩
abbrev cX8_sheet : ByteArray := prog_10_method_12_code
def yX8_sheet : MethodName := ⟨RX8, "sheet", "(IIIII)I"⟩
abbrev cX8_map : ByteArray := prog_10_method_13_code
def yX8_map : MethodName := ⟨RX8, "map", "(I)I"⟩
abbrev cX8_isBox : ByteArray := prog_10_method_14_code
def yX8_isBox : MethodName := ⟨RX8, "isBox", "(IIII)Z"⟩
abbrev cX8_isInBox : ByteArray := prog_10_method_15_code
def yX8_isInBox : MethodName := ⟨RX8, "isInBox", "(III)Z"⟩
abbrev cX8_own : ByteArray := prog_10_method_16_code
def yX8_own : MethodName := ⟨RX8, "own", "(IIIII)Z"⟩
abbrev cX8_deed : ByteArray := prog_10_method_17_code
def yX8_deed : MethodName := ⟨RX8, "deed", "(IIIIII)I"⟩
abbrev cX8_strike : ByteArray := prog_10_method_18_code
def yX8_strike : MethodName := ⟨RX8, "strike", "(IZ)Z"⟩
abbrev cX8_law : ByteArray := prog_10_method_19_code
def yX8_law : MethodName := ⟨RX8, "law", "(IIII)I"⟩
abbrev cX8_reach : ByteArray := prog_10_method_20_code
def yX8_reach : MethodName := ⟨RX8, "reach", "(I)I"⟩
abbrev cX8_isStep : ByteArray := prog_10_method_21_code
def yX8_isStep : MethodName := ⟨RX8, "isStep", "(I)Z"⟩
abbrev cX8_judge : ByteArray := prog_10_method_22_code
def yX8_judge : MethodName := ⟨RX8, "judge", "(II)Z"⟩
abbrev cX8_count : ByteArray := prog_10_method_23_code
def yX8_count : MethodName := ⟨RX8, "count", "(I)I"⟩
abbrev cX8_mapIn : ByteArray := prog_10_method_24_code
def yX8_mapIn : MethodName := ⟨RX8, "mapIn", "(I)I"⟩
abbrev cX8_isWet : ByteArray := prog_10_method_25_code
def yX8_isWet : MethodName := ⟨RX8, "isWet", "(II)Z"⟩
abbrev cX8_isOn : ByteArray := prog_10_method_26_code
def yX8_isOn : MethodName := ⟨RX8, "isOn", "(I)Z"⟩
abbrev cX8_wet : ByteArray := prog_10_method_27_code
def yX8_wet : MethodName := ⟨RX8, "wet", "(III)I"⟩
abbrev cX8_kinds : ByteArray := prog_10_method_28_code
def yX8_kinds : MethodName := ⟨RX8, "kinds", "(I)V"⟩
abbrev cX8_apart : ByteArray := prog_10_method_29_code
def yX8_apart : MethodName := ⟨RX8, "apart", "(II)I"⟩
abbrev cX8_away : ByteArray := prog_10_method_30_code
def yX8_away : MethodName := ⟨RX8, "away", "(II)I"⟩
abbrev cX8_kindsOf : ByteArray := prog_10_method_31_code
def yX8_kindsOf : MethodName := ⟨RX8, "kindsOf", "(I)I"⟩
abbrev cX8_far : ByteArray := prog_10_method_32_code
def yX8_far : MethodName := ⟨RX8, "far", "()I"⟩
abbrev cX8_isSudden : ByteArray := prog_10_method_33_code
def yX8_isSudden : MethodName := ⟨RX8, "isSudden", "(I)Z"⟩
abbrev cX8_findsParts : ByteArray := prog_10_method_34_code
def yX8_findsParts : MethodName := ⟨RX8, "findsParts", "()V"⟩
abbrev cX8_nearest : ByteArray := prog_10_method_35_code
def yX8_nearest : MethodName := ⟨RX8, "nearest", "(I)I"⟩
abbrev cX8_awayFromPart : ByteArray := prog_10_method_36_code
def yX8_awayFromPart : MethodName := ⟨RX8, "awayFromPart", "(II)I"⟩
abbrev cX8_nearestToPart : ByteArray := prog_10_method_37_code
def yX8_nearestToPart : MethodName := ⟨RX8, "nearestToPart", "(I)I"⟩
abbrev cX8_lawIn : ByteArray := prog_10_method_38_code
def yX8_lawIn : MethodName := ⟨RX8, "lawIn", "(I)I"⟩
abbrev cX8_steps : ByteArray := prog_10_method_39_code
def yX8_steps : MethodName := ⟨RX8, "steps", "(IZ)V"⟩
abbrev cX8_begins : ByteArray := prog_10_method_40_code
def yX8_begins : MethodName := ⟨RX8, "begins", "()V"⟩
abbrev cX8_stepIn : ByteArray := prog_10_method_41_code
def yX8_stepIn : MethodName := ⟨RX8, "stepIn", "(I)I"⟩
abbrev cX8_deedsIn : ByteArray := prog_10_method_42_code
def yX8_deedsIn : MethodName := ⟨RX8, "deedsIn", "(I)V"⟩
abbrev cX8_goes : ByteArray := prog_10_method_43_code
def yX8_goes : MethodName := ⟨RX8, "goes", "(II)V"⟩
abbrev cX8_upTo : ByteArray := prog_10_method_44_code
def yX8_upTo : MethodName := ⟨RX8, "upTo", "(II)V"⟩
abbrev cX8_owner : ByteArray := prog_10_method_45_code
def yX8_owner : MethodName := ⟨RX8, "owner", "(III)I"⟩
abbrev cX8_areaOn : ByteArray := prog_10_method_46_code
def yX8_areaOn : MethodName := ⟨RX8, "areaOn", "(II)I"⟩
abbrev cX8_isAsked : ByteArray := prog_10_method_47_code
def yX8_isAsked : MethodName := ⟨RX8, "isAsked", "(II)Z"⟩
abbrev cX8_area : ByteArray := prog_10_method_48_code
def yX8_area : MethodName := ⟨RX8, "area", "(II)I"⟩
abbrev cX8_isByWater : ByteArray := prog_10_method_49_code
def yX8_isByWater : MethodName := ⟨RX8, "isByWater", "(II)Z"⟩
abbrev cX8_front : ByteArray := prog_10_method_50_code
def yX8_front : MethodName := ⟨RX8, "front", "(II)I"⟩
abbrev cX8_tax : ByteArray := prog_10_method_51_code
def yX8_tax : MethodName := ⟨RX8, "tax", "(III)I"⟩
abbrev cX8_chain : ByteArray := prog_10_method_52_code
def yX8_chain : MethodName := ⟨RX8, "chain", "(II)I"⟩
abbrev cX8_banks : ByteArray := prog_10_method_53_code
def yX8_banks : MethodName := ⟨RX8, "banks", "(I)I"⟩
abbrev cX8_walks : ByteArray := prog_10_method_54_code
def yX8_walks : MethodName := ⟨RX8, "walks", "(I)V"⟩
abbrev cX8_shores : ByteArray := prog_10_method_55_code
def yX8_shores : MethodName := ⟨RX8, "shores", "()I"⟩
abbrev cX8_step : ByteArray := prog_10_method_56_code
def yX8_step : MethodName := ⟨RX8, "step", "(II)I"⟩
abbrev cX8_moved : ByteArray := prog_10_method_57_code
def yX8_moved : MethodName := ⟨RX8, "moved", "(II)I"⟩
abbrev cX8_unlike : ByteArray := prog_10_method_58_code
def yX8_unlike : MethodName := ⟨RX8, "unlike", "(II)I"⟩
abbrev cX8_doubt : ByteArray := prog_10_method_59_code
def yX8_doubt : MethodName := ⟨RX8, "doubt", "(II)I"⟩
abbrev cX8_weak : ByteArray := prog_10_method_60_code
def yX8_weak : MethodName := ⟨RX8, "weak", "(I)I"⟩
abbrev cX8_row : ByteArray := prog_10_method_61_code
def yX8_row : MethodName := ⟨RX8, "row", "(I)I"⟩
def RJ9 : String := "java/lang/Math"
def TJ9 : u_T := fun k => match k with
  | _ => ("", "", "", false)
def tyJ9 : Nat → FieldType := fun k => match k with
  | _ => .int
abbrev wsJ90 : List Cond := u_ws RJ9 TJ9 0
theorem nmJ9 : ∀ a, a < 0 → ∀ b, b < 0 → a ≠ b → (TJ9 a).2.1 ≠ (TJ9 b).2.1 := by decide +kernel
theorem tyJ9_ok : ∀ k, k < 0 → parseFieldDescriptor (TJ9 k).2.2.1 = some (tyJ9 k) := by decide +kernel
abbrev cJ9_abs_0f7a4 : ByteArray := prog_12_method_59_code
def yJ9_abs_0f7a4 : MethodName := ⟨RJ9, "abs", "(I)I"⟩
abbrev cJ9_max_7cf53 : ByteArray := prog_12_method_65_code
def yJ9_max_7cf53 : MethodName := ⟨RJ9, "max", "(II)I"⟩
abbrev cJ9_min_7cf53 : ByteArray := prog_12_method_69_code
def yJ9_min_7cf53 : MethodName := ⟨RJ9, "min", "(II)I"⟩
def RJ0 : String := "java/lang/String"
def TJ0 : u_T := fun k => match k with
  | _ => ("", "", "", false)
def tyJ0 : Nat → FieldType := fun k => match k with
  | _ => .int
abbrev wsJ00 : List Cond := u_ws RJ0 TJ0 0
theorem nmJ0 : ∀ a, a < 0 → ∀ b, b < 0 → a ≠ b → (TJ0 a).2.1 ≠ (TJ0 b).2.1 := by decide +kernel
theorem tyJ0_ok : ∀ k, k < 0 → parseFieldDescriptor (TJ0 k).2.2.1 = some (tyJ0 k) := by decide +kernel
def RJ10 : String := "java/lang/System"
def TJ10 : u_T := fun k => match k with
  | _ => ("", "", "", false)
def tyJ10 : Nat → FieldType := fun k => match k with
  | _ => .int
abbrev wsJ100 : List Cond := u_ws RJ10 TJ10 0
theorem nmJ10 : ∀ a, a < 0 → ∀ b, b < 0 → a ≠ b → (TJ10 a).2.1 ≠ (TJ10 b).2.1 := by decide +kernel
theorem tyJ10_ok : ∀ k, k < 0 → parseFieldDescriptor (TJ10 k).2.2.1 = some (tyJ10 k) := by decide +kernel
def RJ7 : String := "java/util/Arrays"
def TJ7 : u_T := fun k => match k with
  | _ => ("", "", "", false)
def tyJ7 : Nat → FieldType := fun k => match k with
  | _ => .int
abbrev wsJ70 : List Cond := u_ws RJ7 TJ7 0
theorem nmJ7 : ∀ a, a < 0 → ∀ b, b < 0 → a ≠ b → (TJ7 a).2.1 ≠ (TJ7 b).2.1 := by decide +kernel
theorem tyJ7_ok : ∀ k, k < 0 → parseFieldDescriptor (TJ7 k).2.2.1 = some (tyJ7 k) := by decide +kernel
abbrev cJ7_fill_53178 : ByteArray := prog_17_method_103_code
def yJ7_fill_53178 : MethodName := ⟨RJ7, "fill", "([II)V"⟩
def RL : String := "MovingBanksLaw"
abbrev cL_moved : ByteArray := method_3_code
def yL_moved : MethodName := ⟨RL, "moved", "(LMovingBanks;II[J)I"⟩
abbrev cL_row : ByteArray := method_4_code
def yL_row : MethodName := ⟨RL, "row", "(LMovingBanks;I[J)I"⟩
abbrev cL_law : ByteArray := code
def yL_law : MethodName := ⟨RL, "law", "([I)Z"⟩
end
section
/-! THE TABLES OF THE SMALL MACHINE (written by wip/whole/gen_tables.py out of the class file rows) -/
abbrev mV : Type := Int32 ⊕ (Int64 ⊕ (Nat × Nat))
abbrev mS : Type := Nat → Nat → Nat → Int32
abbrev mL : Type := List (Option mV)
/-- an instruction, its length, where it goes, its number, whether a loop begins there -/
abbrev mIn : Type := Instr × Nat × Nat × Int32 × Bool
abbrev mSh : Type := (Nat × List (Option Nat)) ⊕ ((Bool × Nat) ⊕ (Nat × Nat))
/-- the shape of a group of cells: an object (its number among the classes, its fields: a number, or a cell of that group), an array of numbers (of booleans?, length), an array of cells (their group, length) -/
def shpb (g : Nat) : Option mSh :=
  (bif Nat.ble 27 g then
   (bif Nat.ble 62 g then
    (bif Nat.ble 71 g then
     (bif Nat.ble 75 g then
      (bif Nat.ble 78 g then (bif Nat.ble 79 g then (bif Nat.beq g 79 then some (.inr (.inl (false, 144))) else none) else (bif Nat.beq g 78 then some (.inr (.inl (false, 144))) else none)) else (bif Nat.ble 77 g then (bif Nat.beq g 77 then some (.inr (.inl (false, 402))) else none) else (bif Nat.beq g 75 then some (.inr (.inl (false, 144))) else none)))
     else
      (bif Nat.ble 72 g then (bif Nat.ble 74 g then (bif Nat.beq g 74 then some (.inr (.inl (false, 144))) else none) else (bif Nat.beq g 72 then some (.inr (.inl (true, 144))) else none)) else (bif Nat.beq g 71 then some (.inr (.inl (false, 144))) else none)))
    else
     (bif Nat.ble 66 g then
      (bif Nat.ble 69 g then (bif Nat.ble 70 g then (bif Nat.beq g 70 then some (.inr (.inl (false, 144))) else none) else (bif Nat.beq g 69 then some (.inr (.inl (false, 10))) else none)) else (bif Nat.ble 67 g then (bif Nat.beq g 67 then some (.inr (.inl (false, 20))) else none) else (bif Nat.beq g 66 then some (.inr (.inl (false, 20))) else none)))
     else
      (bif Nat.ble 64 g then (bif Nat.ble 65 g then (bif Nat.beq g 65 then some (.inr (.inl (false, 20))) else none) else (bif Nat.beq g 64 then some (.inr (.inl (false, 20))) else none)) else (bif Nat.beq g 62 then some (.inr (.inl (true, 30))) else none))))
   else
    (bif Nat.ble 54 g then
     (bif Nat.ble 58 g then
      (bif Nat.ble 60 g then (bif Nat.ble 61 g then (bif Nat.beq g 61 then some (.inr (.inl (false, 30))) else none) else (bif Nat.beq g 60 then some (.inr (.inl (false, 30))) else none)) else (bif Nat.ble 59 g then (bif Nat.beq g 59 then some (.inr (.inl (false, 30))) else none) else (bif Nat.beq g 58 then some (.inr (.inl (false, 30))) else none)))
     else
      (bif Nat.ble 55 g then (bif Nat.ble 56 g then (bif Nat.beq g 56 then some (.inr (.inl (false, 144))) else none) else (bif Nat.beq g 55 then some (.inr (.inl (true, 1584))) else none)) else (bif Nat.beq g 54 then some (.inr (.inl (false, 10))) else none)))
    else
     (bif Nat.ble 30 g then
      (bif Nat.ble 31 g then (bif Nat.ble 40 g then (bif Nat.beq g 40 then some (.inl (8, [none, none, none, none, some 54, some 55, some 56, none, some 58, some 59, some 60, some 61, some 62, none, some 64, some 65, some 66, some 67, none, some 69, some 70, some 71, some 72, none, some 74, some 75, none, some 77, some 78, some 79])) else none) else (bif Nat.beq g 31 then some (.inr (.inl (false, 80))) else none)) else (bif Nat.beq g 30 then some (.inr (.inl (false, 144))) else none))
     else
      (bif Nat.ble 28 g then (bif Nat.ble 29 g then (bif Nat.beq g 29 then some (.inr (.inl (false, 144))) else none) else (bif Nat.beq g 28 then some (.inr (.inl (false, 144))) else none)) else (bif Nat.beq g 27 then some (.inl (5, [some 1, some 7, some 13, some 22, some 28, some 29, some 30, none, none, none])) else none)))))
  else
   (bif Nat.ble 13 g then
    (bif Nat.ble 20 g then
     (bif Nat.ble 23 g then
      (bif Nat.ble 25 g then (bif Nat.ble 26 g then (bif Nat.beq g 26 then some (.inr (.inl (false, 21))) else none) else (bif Nat.beq g 25 then some (.inr (.inl (false, 21))) else none)) else (bif Nat.ble 24 g then (bif Nat.beq g 24 then some (.inr (.inl (false, 21))) else none) else (bif Nat.beq g 23 then some (.inr (.inl (false, 21))) else none)))
     else
      (bif Nat.ble 21 g then (bif Nat.ble 22 g then (bif Nat.beq g 22 then some (.inl (3, [none, some 23, some 24, some 25, some 26])) else none) else (bif Nat.beq g 21 then some (.inr (.inl (false, 30))) else none)) else (bif Nat.beq g 20 then some (.inr (.inl (true, 30))) else none)))
    else
     (bif Nat.ble 16 g then
      (bif Nat.ble 18 g then (bif Nat.ble 19 g then (bif Nat.beq g 19 then some (.inr (.inl (false, 30))) else none) else (bif Nat.beq g 18 then some (.inr (.inl (false, 30))) else none)) else (bif Nat.ble 17 g then (bif Nat.beq g 17 then some (.inr (.inl (false, 30))) else none) else (bif Nat.beq g 16 then some (.inr (.inl (false, 30))) else none)))
     else
      (bif Nat.ble 14 g then (bif Nat.ble 15 g then (bif Nat.beq g 15 then some (.inr (.inl (false, 30))) else none) else (bif Nat.beq g 14 then some (.inr (.inl (false, 30))) else none)) else (bif Nat.beq g 13 then some (.inl (1, [none, some 14, some 15, some 16, some 17, some 18, some 19, some 20, some 21])) else none))))
   else
    (bif Nat.ble 6 g then
     (bif Nat.ble 9 g then
      (bif Nat.ble 11 g then (bif Nat.ble 12 g then (bif Nat.beq g 12 then some (.inr (.inl (false, 144))) else none) else (bif Nat.beq g 11 then some (.inr (.inl (false, 144))) else none)) else (bif Nat.ble 10 g then (bif Nat.beq g 10 then some (.inl (4, [none, none, none, none, none, none, none, some 11, some 12])) else none) else (bif Nat.beq g 9 then some (.inr (.inl (true, 144))) else none)))
     else
      (bif Nat.ble 7 g then (bif Nat.ble 8 g then (bif Nat.beq g 8 then some (.inr (.inr (10, 10))) else none) else (bif Nat.beq g 7 then some (.inl (0, [some 1, some 4, some 8, some 9, none, none])) else none)) else (bif Nat.beq g 6 then some (.inr (.inl (false, 144))) else none)))
    else
     (bif Nat.ble 3 g then
      (bif Nat.ble 4 g then (bif Nat.ble 5 g then (bif Nat.beq g 5 then some (.inr (.inl (true, 144))) else none) else (bif Nat.beq g 4 then some (.inl (6, [some 1, some 5, some 6, none])) else none)) else (bif Nat.beq g 3 then some (.inr (.inl (false, 144))) else none))
     else
      (bif Nat.ble 1 g then (bif Nat.ble 2 g then (bif Nat.beq g 2 then some (.inr (.inl (false, 144))) else none) else (bif Nat.beq g 1 then some (.inl (2, [none, none, none, some 2, some 3])) else none)) else (bif Nat.beq g 0 then some (.inl (7, [some 1, some 4, some 7, some 13, some 22, some 27, some 31, none])) else none))))))
def shp (g : Nat) : Option mSh := bif Nat.ble 100 g then none else shpb g
def mcs : Bool → List (Nat × Nat)
  | false => [(0, 0), (1, 0), (2, 0), (3, 0), (4, 0), (5, 0), (6, 0), (7, 0), (8, 0), (9, 0), (10, 0), (10, 1), (10, 2), (10, 3), (10, 4), (10, 5), (10, 6), (10, 7), (10, 8), (10, 9), (11, 0), (11, 1), (11, 2), (11, 3), (11, 4), (11, 5), (11, 6), (11, 7), (11, 8), (11, 9), (12, 0), (12, 1), (12, 2), (12, 3), (12, 4), (12, 5), (12, 6), (12, 7), (12, 8), (12, 9), (13, 0), (14, 0), (15, 0), (16, 0), (17, 0), (18, 0), (19, 0), (20, 0), (21, 0), (22, 0), (23, 0), (24, 0), (25, 0), (26, 0), (27, 0), (28, 0), (29, 0), (30, 0), (31, 0)]
  | true => [(40, 0), (54, 0), (55, 0), (56, 0), (58, 0), (59, 0), (60, 0), (61, 0), (62, 0), (64, 0), (65, 0), (66, 0), (67, 0), (69, 0), (70, 0), (71, 0), (72, 0), (74, 0), (75, 0), (77, 0), (78, 0), (79, 0)]
def qX0_clear (pc : Nat) : Option mIn :=
  (bif Nat.ble 14 pc then
   (bif Nat.ble 20 pc then
    (bif Nat.ble 24 pc then (bif Nat.ble 27 pc then (bif Nat.beq pc 27 then some (.return_, 1, 0, 0, false) else none) else (bif Nat.beq pc 24 then some (.goto (-17), 3, 7, 0, false) else none)) else (bif Nat.ble 21 pc then (bif Nat.beq pc 21 then some (.iinc 1 1, 3, 0, 1, false) else none) else (bif Nat.beq pc 20 then some (.bastore, 1, 0, 0, false) else none)))
   else
    (bif Nat.ble 18 pc then (bif Nat.ble 19 pc then (bif Nat.beq pc 19 then some (.iconst 0, 1, 0, 0, false) else none) else (bif Nat.beq pc 18 then some (.iload_n 1, 1, 0, 0, false) else none)) else (bif Nat.ble 15 pc then (bif Nat.beq pc 15 then some (.getfield 17, 3, 0, 0, false) else none) else (bif Nat.beq pc 14 then some (.aload_n 0, 1, 0, 0, false) else none))))
  else
   (bif Nat.ble 6 pc then
    (bif Nat.ble 8 pc then (bif Nat.ble 11 pc then (bif Nat.beq pc 11 then some (.if_icmp .ge 16, 3, 27, 0, false) else none) else (bif Nat.beq pc 8 then some (.sipush 144, 3, 0, 144, false) else none)) else (bif Nat.ble 7 pc then (bif Nat.beq pc 7 then some (.iload_n 1, 1, 0, 0, true) else none) else (bif Nat.beq pc 6 then some (.istore_n 1, 1, 0, 0, false) else none)))
   else
    (bif Nat.ble 2 pc then (bif Nat.ble 5 pc then (bif Nat.beq pc 5 then some (.iconst 0, 1, 0, 0, false) else none) else (bif Nat.beq pc 2 then some (.putfield 34, 3, 0, 0, false) else none)) else (bif Nat.ble 1 pc then (bif Nat.beq pc 1 then some (.iconst 0, 1, 0, 0, false) else none) else (bif Nat.beq pc 0 then some (.aload_n 0, 1, 0, 0, false) else none)))))
def qX0_isEmpty (pc : Nat) : Option mIn :=
  (bif Nat.ble 7 pc then
   (bif Nat.ble 11 pc then (bif Nat.ble 12 pc then (bif Nat.beq pc 12 then some (.ireturn, 1, 0, 0, false) else none) else (bif Nat.beq pc 11 then some (.iconst 0, 1, 0, 0, false) else none)) else (bif Nat.ble 8 pc then (bif Nat.beq pc 8 then some (.goto 4, 3, 12, 0, false) else none) else (bif Nat.beq pc 7 then some (.iconst 1, 1, 0, 1, false) else none)))
  else
   (bif Nat.ble 1 pc then (bif Nat.ble 4 pc then (bif Nat.beq pc 4 then some (.ifCond .ne 7, 3, 11, 0, false) else none) else (bif Nat.beq pc 1 then some (.getfield 34, 3, 0, 0, false) else none)) else (bif Nat.beq pc 0 then some (.aload_n 0, 1, 0, 0, false) else none)))
def qX0_isFull (pc : Nat) : Option mIn :=
  (bif Nat.ble 9 pc then
   (bif Nat.ble 13 pc then (bif Nat.ble 14 pc then (bif Nat.beq pc 14 then some (.ireturn, 1, 0, 0, false) else none) else (bif Nat.beq pc 13 then some (.iconst 0, 1, 0, 0, false) else none)) else (bif Nat.ble 10 pc then (bif Nat.beq pc 10 then some (.goto 4, 3, 14, 0, false) else none) else (bif Nat.beq pc 9 then some (.iconst 1, 1, 0, 1, false) else none)))
  else
   (bif Nat.ble 4 pc then (bif Nat.ble 6 pc then (bif Nat.beq pc 6 then some (.if_icmp .lt 7, 3, 13, 0, false) else none) else (bif Nat.beq pc 4 then some (.bipush 10, 2, 0, 10, false) else none)) else (bif Nat.ble 1 pc then (bif Nat.beq pc 1 then some (.getfield 34, 3, 0, 0, false) else none) else (bif Nat.beq pc 0 then some (.aload_n 0, 1, 0, 0, false) else none))))
def qX0_hasStep (pc : Nat) : Option mIn :=
  (bif Nat.ble 7 pc then
   (bif Nat.ble 14 pc then
    (bif Nat.ble 17 pc then (bif Nat.ble 18 pc then (bif Nat.beq pc 18 then some (.ireturn, 1, 0, 0, false) else none) else (bif Nat.beq pc 17 then some (.iconst 0, 1, 0, 0, false) else none)) else (bif Nat.beq pc 14 then some (.goto 4, 3, 18, 0, false) else none))
   else
    (bif Nat.ble 10 pc then (bif Nat.ble 13 pc then (bif Nat.beq pc 13 then some (.iconst 1, 1, 0, 1, false) else none) else (bif Nat.beq pc 10 then some (.if_icmp .ge 7, 3, 17, 0, false) else none)) else (bif Nat.beq pc 7 then some (.getfield 34, 3, 0, 0, false) else none)))
  else
   (bif Nat.ble 2 pc then
    (bif Nat.ble 5 pc then (bif Nat.ble 6 pc then (bif Nat.beq pc 6 then some (.aload_n 0, 1, 0, 0, false) else none) else (bif Nat.beq pc 5 then some (.iload_n 1, 1, 0, 0, false) else none)) else (bif Nat.beq pc 2 then some (.if_icmp .lt 15, 3, 17, 0, false) else none))
   else
    (bif Nat.ble 1 pc then (bif Nat.beq pc 1 then some (.iconst 1, 1, 0, 1, false) else none) else (bif Nat.beq pc 0 then some (.iload_n 1, 1, 0, 0, false) else none))))
def qX0_latestYear (pc : Nat) : Option mIn :=
  (bif Nat.ble 15 pc then
   (bif Nat.ble 20 pc then
    (bif Nat.ble 22 pc then (bif Nat.ble 25 pc then (bif Nat.beq pc 25 then some (.ireturn, 1, 0, 0, false) else none) else (bif Nat.beq pc 22 then some (.getfield 37, 3, 0, 0, false) else none)) else (bif Nat.ble 21 pc then (bif Nat.beq pc 21 then some (.aaload, 1, 0, 0, false) else none) else (bif Nat.beq pc 20 then some (.isub, 1, 0, 0, false) else none)))
   else
    (bif Nat.ble 16 pc then (bif Nat.ble 19 pc then (bif Nat.beq pc 19 then some (.iconst 1, 1, 0, 1, false) else none) else (bif Nat.beq pc 16 then some (.getfield 34, 3, 0, 0, false) else none)) else (bif Nat.beq pc 15 then some (.aload_n 0, 1, 0, 0, false) else none)))
  else
   (bif Nat.ble 7 pc then
    (bif Nat.ble 11 pc then (bif Nat.ble 12 pc then (bif Nat.beq pc 12 then some (.getfield 11, 3, 0, 0, false) else none) else (bif Nat.beq pc 11 then some (.aload_n 0, 1, 0, 0, false) else none)) else (bif Nat.ble 8 pc then (bif Nat.beq pc 8 then some (.goto 17, 3, 25, 0, false) else none) else (bif Nat.beq pc 7 then some (.iconst (-1), 1, 0, -1, false) else none)))
   else
    (bif Nat.ble 1 pc then (bif Nat.ble 4 pc then (bif Nat.beq pc 4 then some (.ifCond .ne 7, 3, 11, 0, false) else none) else (bif Nat.beq pc 1 then some (.getfield 34, 3, 0, 0, false) else none)) else (bif Nat.beq pc 0 then some (.aload_n 0, 1, 0, 0, false) else none))))
def qX0_draftLine (pc : Nat) : Option mIn :=
  (bif Nat.ble 34 pc then
   (bif Nat.ble 52 pc then
    (bif Nat.ble 62 pc then
     (bif Nat.ble 67 pc then
      (bif Nat.ble 70 pc then (bif Nat.ble 71 pc then (bif Nat.beq pc 71 then some (.ireturn, 1, 0, 0, false) else none) else (bif Nat.beq pc 70 then some (.iload_n 3, 1, 0, 0, false) else none)) else (bif Nat.beq pc 67 then some (.goto (-62), 3, 5, 0, false) else none))
     else
      (bif Nat.ble 63 pc then (bif Nat.ble 64 pc then (bif Nat.beq pc 64 then some (.iinc 4 1, 3, 0, 1, false) else none) else (bif Nat.beq pc 63 then some (.istore_n 3, 1, 0, 0, false) else none)) else (bif Nat.beq pc 62 then some (.iadd, 1, 0, 0, false) else none)))
    else
     (bif Nat.ble 57 pc then
      (bif Nat.ble 58 pc then (bif Nat.ble 61 pc then (bif Nat.beq pc 61 then some (.iconst 0, 1, 0, 0, false) else none) else (bif Nat.beq pc 58 then some (.goto 4, 3, 62, 0, false) else none)) else (bif Nat.beq pc 57 then some (.iconst 1, 1, 0, 1, false) else none))
     else
      (bif Nat.ble 54 pc then (bif Nat.beq pc 54 then some (.ifCond .eq 7, 3, 61, 0, false) else none) else (bif Nat.beq pc 52 then some (.iload 5, 2, 0, 0, false) else none))))
   else
    (bif Nat.ble 44 pc then
     (bif Nat.ble 48 pc then
      (bif Nat.ble 50 pc then (bif Nat.ble 51 pc then (bif Nat.beq pc 51 then some (.iload_n 3, 1, 0, 0, false) else none) else (bif Nat.beq pc 50 then some (.bastore, 1, 0, 0, false) else none)) else (bif Nat.beq pc 48 then some (.iload 5, 2, 0, 0, false) else none))
     else
      (bif Nat.ble 45 pc then (bif Nat.beq pc 45 then some (.invokevirtual 45, 3, 0, 0, false) else none) else (bif Nat.beq pc 44 then some (.iload_n 1, 1, 0, 0, false) else none)))
    else
     (bif Nat.ble 38 pc then
      (bif Nat.ble 39 pc then (bif Nat.ble 42 pc then (bif Nat.beq pc 42 then some (.iload 4, 2, 0, 0, false) else none) else (bif Nat.beq pc 39 then some (.getfield 25, 3, 0, 0, false) else none)) else (bif Nat.beq pc 38 then some (.aload_n 0, 1, 0, 0, false) else none))
     else
      (bif Nat.ble 35 pc then (bif Nat.beq pc 35 then some (.getfield 17, 3, 0, 0, false) else none) else (bif Nat.beq pc 34 then some (.aload_n 0, 1, 0, 0, false) else none)))))
  else
   (bif Nat.ble 18 pc then
    (bif Nat.ble 24 pc then
     (bif Nat.ble 28 pc then
      (bif Nat.ble 31 pc then (bif Nat.ble 32 pc then (bif Nat.beq pc 32 then some (.istore 5, 2, 0, 0, false) else none) else (bif Nat.beq pc 31 then some (.iconst 0, 1, 0, 0, false) else none)) else (bif Nat.beq pc 28 then some (.goto 4, 3, 32, 0, false) else none))
     else
      (bif Nat.ble 27 pc then (bif Nat.beq pc 27 then some (.iconst 1, 1, 0, 1, false) else none) else (bif Nat.beq pc 24 then some (.if_icmp .ne 7, 3, 31, 0, false) else none)))
    else
     (bif Nat.ble 21 pc then
      (bif Nat.ble 22 pc then (bif Nat.ble 23 pc then (bif Nat.beq pc 23 then some (.iconst 1, 1, 0, 1, false) else none) else (bif Nat.beq pc 22 then some (.iand, 1, 0, 0, false) else none)) else (bif Nat.beq pc 21 then some (.iconst 1, 1, 0, 1, false) else none))
     else
      (bif Nat.ble 20 pc then (bif Nat.beq pc 20 then some (.ishr, 1, 0, 0, false) else none) else (bif Nat.beq pc 18 then some (.iload 4, 2, 0, 0, false) else none))))
   else
    (bif Nat.ble 7 pc then
     (bif Nat.ble 11 pc then
      (bif Nat.ble 14 pc then (bif Nat.ble 17 pc then (bif Nat.beq pc 17 then some (.iload_n 2, 1, 0, 0, false) else none) else (bif Nat.beq pc 14 then some (.if_icmp .ge 56, 3, 70, 0, false) else none)) else (bif Nat.beq pc 11 then some (.getfield 40, 3, 0, 0, false) else none))
     else
      (bif Nat.ble 8 pc then (bif Nat.beq pc 8 then some (.getfield 25, 3, 0, 0, false) else none) else (bif Nat.beq pc 7 then some (.aload_n 0, 1, 0, 0, false) else none)))
    else
     (bif Nat.ble 2 pc then
      (bif Nat.ble 3 pc then (bif Nat.ble 5 pc then (bif Nat.beq pc 5 then some (.iload 4, 2, 0, 0, true) else none) else (bif Nat.beq pc 3 then some (.istore 4, 2, 0, 0, false) else none)) else (bif Nat.beq pc 2 then some (.iconst 0, 1, 0, 0, false) else none))
     else
      (bif Nat.ble 1 pc then (bif Nat.beq pc 1 then some (.istore_n 3, 1, 0, 0, false) else none) else (bif Nat.beq pc 0 then some (.iconst 0, 1, 0, 0, false) else none))))))
def qX0_add (pc : Nat) : Option mIn :=
  (bif Nat.ble 59 pc then
   (bif Nat.ble 93 pc then
    (bif Nat.ble 112 pc then
     (bif Nat.ble 120 pc then
      (bif Nat.ble 122 pc then
       (bif Nat.ble 125 pc then (bif Nat.ble 126 pc then (bif Nat.beq pc 126 then some (.ireturn, 1, 0, 0, false) else none) else (bif Nat.beq pc 125 then some (.iload_n 2, 1, 0, 0, false) else none)) else (bif Nat.beq pc 122 then some (.putfield 34, 3, 0, 0, false) else none))
      else
       (bif Nat.ble 121 pc then (bif Nat.beq pc 121 then some (.iadd, 1, 0, 0, false) else none) else (bif Nat.beq pc 120 then some (.iconst 1, 1, 0, 1, false) else none)))
     else
      (bif Nat.ble 116 pc then (bif Nat.ble 117 pc then (bif Nat.beq pc 117 then some (.getfield 34, 3, 0, 0, false) else none) else (bif Nat.beq pc 116 then some (.dup, 1, 0, 0, false) else none)) else (bif Nat.ble 115 pc then (bif Nat.beq pc 115 then some (.aload_n 0, 1, 0, 0, false) else none) else (bif Nat.beq pc 112 then some (.invokevirtual 73, 3, 0, 0, false) else none))))
    else
     (bif Nat.ble 103 pc then
      (bif Nat.ble 107 pc then
       (bif Nat.ble 108 pc then (bif Nat.ble 111 pc then (bif Nat.beq pc 111 then some (.aload_n 3, 1, 0, 0, false) else none) else (bif Nat.beq pc 108 then some (.getfield 29, 3, 0, 0, false) else none)) else (bif Nat.beq pc 107 then some (.aload_n 0, 1, 0, 0, false) else none))
      else
       (bif Nat.ble 104 pc then (bif Nat.beq pc 104 then some (.invokevirtual 67, 3, 0, 0, false) else none) else (bif Nat.beq pc 103 then some (.aload_n 3, 1, 0, 0, false) else none)))
     else
      (bif Nat.ble 99 pc then (bif Nat.ble 100 pc then (bif Nat.beq pc 100 then some (.getfield 29, 3, 0, 0, false) else none) else (bif Nat.beq pc 99 then some (.aload_n 0, 1, 0, 0, false) else none)) else (bif Nat.ble 96 pc then (bif Nat.beq pc 96 then some (.goto (-71), 3, 25, 0, false) else none) else (bif Nat.beq pc 93 then some (.iinc 4 1, 3, 0, 1, false) else none)))))
   else
    (bif Nat.ble 75 pc then
     (bif Nat.ble 83 pc then
      (bif Nat.ble 88 pc then
       (bif Nat.ble 89 pc then (bif Nat.ble 92 pc then (bif Nat.beq pc 92 then some (.iastore, 1, 0, 0, false) else none) else (bif Nat.beq pc 89 then some (.invokestatic 63, 3, 0, 0, false) else none)) else (bif Nat.beq pc 88 then some (.baload, 1, 0, 0, false) else none))
      else
       (bif Nat.ble 86 pc then (bif Nat.beq pc 86 then some (.iload 4, 2, 0, 0, false) else none) else (bif Nat.beq pc 83 then some (.getfield 17, 3, 0, 0, false) else none)))
     else
      (bif Nat.ble 80 pc then (bif Nat.ble 82 pc then (bif Nat.beq pc 82 then some (.aload_n 0, 1, 0, 0, false) else none) else (bif Nat.beq pc 80 then some (.iload 5, 2, 0, 0, false) else none)) else (bif Nat.ble 78 pc then (bif Nat.beq pc 78 then some (.iload 4, 2, 0, 0, false) else none) else (bif Nat.beq pc 75 then some (.getfield 59, 3, 0, 0, false) else none))))
    else
     (bif Nat.ble 68 pc then
      (bif Nat.ble 72 pc then (bif Nat.ble 74 pc then (bif Nat.beq pc 74 then some (.aload_n 3, 1, 0, 0, false) else none) else (bif Nat.beq pc 72 then some (.istore 5, 2, 0, 0, false) else none)) else (bif Nat.ble 71 pc then (bif Nat.beq pc 71 then some (.iconst 0, 1, 0, 0, false) else none) else (bif Nat.beq pc 68 then some (.goto 4, 3, 72, 0, false) else none)))
     else
      (bif Nat.ble 64 pc then (bif Nat.ble 67 pc then (bif Nat.beq pc 67 then some (.iconst 1, 1, 0, 1, false) else none) else (bif Nat.beq pc 64 then some (.ifCond .ne 7, 3, 71, 0, false) else none)) else (bif Nat.ble 61 pc then (bif Nat.beq pc 61 then some (.invokevirtual 55, 3, 0, 0, false) else none) else (bif Nat.beq pc 59 then some (.iload 4, 2, 0, 0, false) else none))))))
  else
   (bif Nat.ble 27 pc then
    (bif Nat.ble 45 pc then
     (bif Nat.ble 52 pc then
      (bif Nat.ble 56 pc then
       (bif Nat.ble 57 pc then (bif Nat.ble 58 pc then (bif Nat.beq pc 58 then some (.aaload, 1, 0, 0, false) else none) else (bif Nat.beq pc 57 then some (.isub, 1, 0, 0, false) else none)) else (bif Nat.beq pc 56 then some (.iconst 1, 1, 0, 1, false) else none))
      else
       (bif Nat.ble 55 pc then (bif Nat.beq pc 55 then some (.iload_n 2, 1, 0, 0, false) else none) else (bif Nat.beq pc 52 then some (.getfield 11, 3, 0, 0, false) else none)))
     else
      (bif Nat.ble 48 pc then (bif Nat.ble 51 pc then (bif Nat.beq pc 51 then some (.aload_n 0, 1, 0, 0, false) else none) else (bif Nat.beq pc 48 then some (.goto 24, 3, 72, 0, false) else none)) else (bif Nat.ble 47 pc then (bif Nat.beq pc 47 then some (.baload, 1, 0, 0, false) else none) else (bif Nat.beq pc 45 then some (.iload 4, 2, 0, 0, false) else none))))
    else
     (bif Nat.ble 37 pc then
      (bif Nat.ble 41 pc then (bif Nat.ble 42 pc then (bif Nat.beq pc 42 then some (.getfield 17, 3, 0, 0, false) else none) else (bif Nat.beq pc 41 then some (.aload_n 0, 1, 0, 0, false) else none)) else (bif Nat.ble 38 pc then (bif Nat.beq pc 38 then some (.ifCond .ne 13, 3, 51, 0, false) else none) else (bif Nat.beq pc 37 then some (.iload_n 2, 1, 0, 0, false) else none)))
     else
      (bif Nat.ble 31 pc then (bif Nat.ble 34 pc then (bif Nat.beq pc 34 then some (.if_icmp .ge 65, 3, 99, 0, false) else none) else (bif Nat.beq pc 31 then some (.getfield 52, 3, 0, 0, false) else none)) else (bif Nat.ble 28 pc then (bif Nat.beq pc 28 then some (.getfield 25, 3, 0, 0, false) else none) else (bif Nat.beq pc 27 then some (.aload_n 0, 1, 0, 0, false) else none)))))
   else
    (bif Nat.ble 12 pc then
     (bif Nat.ble 18 pc then
      (bif Nat.ble 22 pc then
       (bif Nat.ble 23 pc then (bif Nat.ble 25 pc then (bif Nat.beq pc 25 then some (.iload 4, 2, 0, 0, true) else none) else (bif Nat.beq pc 23 then some (.istore 4, 2, 0, 0, false) else none)) else (bif Nat.beq pc 22 then some (.iconst 0, 1, 0, 0, false) else none))
      else
       (bif Nat.ble 19 pc then (bif Nat.beq pc 19 then some (.putfield 49, 3, 0, 0, false) else none) else (bif Nat.beq pc 18 then some (.iconst (-1), 1, 0, -1, false) else none)))
     else
      (bif Nat.ble 14 pc then (bif Nat.ble 17 pc then (bif Nat.beq pc 17 then some (.aload_n 3, 1, 0, 0, false) else none) else (bif Nat.beq pc 14 then some (.putfield 37, 3, 0, 0, false) else none)) else (bif Nat.ble 13 pc then (bif Nat.beq pc 13 then some (.iload_n 1, 1, 0, 0, false) else none) else (bif Nat.beq pc 12 then some (.aload_n 3, 1, 0, 0, false) else none))))
    else
     (bif Nat.ble 6 pc then
      (bif Nat.ble 10 pc then (bif Nat.ble 11 pc then (bif Nat.beq pc 11 then some (.astore_n 3, 1, 0, 0, false) else none) else (bif Nat.beq pc 10 then some (.aaload, 1, 0, 0, false) else none)) else (bif Nat.ble 9 pc then (bif Nat.beq pc 9 then some (.iload_n 2, 1, 0, 0, false) else none) else (bif Nat.beq pc 6 then some (.getfield 11, 3, 0, 0, false) else none)))
     else
      (bif Nat.ble 4 pc then (bif Nat.ble 5 pc then (bif Nat.beq pc 5 then some (.aload_n 0, 1, 0, 0, false) else none) else (bif Nat.beq pc 4 then some (.istore_n 2, 1, 0, 0, false) else none)) else (bif Nat.ble 1 pc then (bif Nat.beq pc 1 then some (.getfield 34, 3, 0, 0, false) else none) else (bif Nat.beq pc 0 then some (.aload_n 0, 1, 0, 0, false) else none)))))))
def qX0_leafIn (pc : Nat) : Option mIn :=
  (bif Nat.ble 18 pc then
   (bif Nat.ble 30 pc then
    (bif Nat.ble 37 pc then
     (bif Nat.ble 38 pc then (bif Nat.ble 39 pc then (bif Nat.beq pc 39 then some (.areturn, 1, 0, 0, false) else none) else (bif Nat.beq pc 38 then some (.aaload, 1, 0, 0, false) else none)) else (bif Nat.beq pc 37 then some (.iload_n 2, 1, 0, 0, false) else none))
    else
     (bif Nat.ble 33 pc then (bif Nat.ble 34 pc then (bif Nat.beq pc 34 then some (.getfield 11, 3, 0, 0, false) else none) else (bif Nat.beq pc 33 then some (.aload_n 0, 1, 0, 0, false) else none)) else (bif Nat.beq pc 30 then some (.goto (-26), 3, 4, 0, false) else none)))
   else
    (bif Nat.ble 25 pc then
     (bif Nat.ble 26 pc then (bif Nat.ble 27 pc then (bif Nat.beq pc 27 then some (.iinc 3 1, 3, 0, 1, false) else none) else (bif Nat.beq pc 26 then some (.istore_n 2, 1, 0, 0, false) else none)) else (bif Nat.beq pc 25 then some (.iload_n 3, 1, 0, 0, false) else none))
    else
     (bif Nat.ble 21 pc then (bif Nat.ble 22 pc then (bif Nat.beq pc 22 then some (.if_icmp .gt 5, 3, 27, 0, false) else none) else (bif Nat.beq pc 21 then some (.iload_n 1, 1, 0, 0, false) else none)) else (bif Nat.beq pc 18 then some (.getfield 37, 3, 0, 0, false) else none))))
  else
   (bif Nat.ble 6 pc then
    (bif Nat.ble 13 pc then
     (bif Nat.ble 16 pc then (bif Nat.ble 17 pc then (bif Nat.beq pc 17 then some (.aaload, 1, 0, 0, false) else none) else (bif Nat.beq pc 16 then some (.iload_n 3, 1, 0, 0, false) else none)) else (bif Nat.beq pc 13 then some (.getfield 11, 3, 0, 0, false) else none))
    else
     (bif Nat.ble 9 pc then (bif Nat.ble 12 pc then (bif Nat.beq pc 12 then some (.aload_n 0, 1, 0, 0, false) else none) else (bif Nat.beq pc 9 then some (.if_icmp .ge 24, 3, 33, 0, false) else none)) else (bif Nat.beq pc 6 then some (.getfield 34, 3, 0, 0, false) else none)))
   else
    (bif Nat.ble 3 pc then
     (bif Nat.ble 4 pc then (bif Nat.ble 5 pc then (bif Nat.beq pc 5 then some (.aload_n 0, 1, 0, 0, false) else none) else (bif Nat.beq pc 4 then some (.iload_n 3, 1, 0, 0, true) else none)) else (bif Nat.beq pc 3 then some (.istore_n 3, 1, 0, 0, false) else none))
    else
     (bif Nat.ble 1 pc then (bif Nat.ble 2 pc then (bif Nat.beq pc 2 then some (.iconst 1, 1, 0, 1, false) else none) else (bif Nat.beq pc 1 then some (.istore_n 2, 1, 0, 0, false) else none)) else (bif Nat.beq pc 0 then some (.iconst 0, 1, 0, 0, false) else none)))))
def qX0_isSudden (pc : Nat) : Option mIn :=
  (bif Nat.ble 23 pc then
   (bif Nat.ble 35 pc then
    (bif Nat.ble 42 pc then
     (bif Nat.ble 46 pc then (bif Nat.ble 47 pc then (bif Nat.beq pc 47 then some (.ireturn, 1, 0, 0, false) else none) else (bif Nat.beq pc 46 then some (.iconst 0, 1, 0, 0, false) else none)) else (bif Nat.ble 43 pc then (bif Nat.beq pc 43 then some (.goto 4, 3, 47, 0, false) else none) else (bif Nat.beq pc 42 then some (.iconst 1, 1, 0, 1, false) else none)))
    else
     (bif Nat.ble 38 pc then (bif Nat.ble 39 pc then (bif Nat.beq pc 39 then some (.if_icmp .ne 7, 3, 46, 0, false) else none) else (bif Nat.beq pc 38 then some (.iconst 1, 1, 0, 1, false) else none)) else (bif Nat.beq pc 35 then some (.getfield 49, 3, 0, 0, false) else none)))
   else
    (bif Nat.ble 30 pc then
     (bif Nat.ble 31 pc then (bif Nat.ble 34 pc then (bif Nat.beq pc 34 then some (.aload_n 2, 1, 0, 0, false) else none) else (bif Nat.beq pc 31 then some (.goto 16, 3, 47, 0, false) else none)) else (bif Nat.beq pc 30 then some (.iconst 0, 1, 0, 0, false) else none))
    else
     (bif Nat.ble 26 pc then (bif Nat.ble 27 pc then (bif Nat.beq pc 27 then some (.goto 20, 3, 47, 0, false) else none) else (bif Nat.beq pc 26 then some (.iconst 1, 1, 0, 1, false) else none)) else (bif Nat.beq pc 23 then some (.if_icmp .le 7, 3, 30, 0, false) else none))))
  else
   (bif Nat.ble 8 pc then
    (bif Nat.ble 15 pc then
     (bif Nat.ble 19 pc then (bif Nat.ble 20 pc then (bif Nat.beq pc 20 then some (.getfield 21, 3, 0, 0, false) else none) else (bif Nat.beq pc 19 then some (.aload_n 0, 1, 0, 0, false) else none)) else (bif Nat.ble 16 pc then (bif Nat.beq pc 16 then some (.getfield 76, 3, 0, 0, false) else none) else (bif Nat.beq pc 15 then some (.aload_n 2, 1, 0, 0, false) else none)))
    else
     (bif Nat.ble 11 pc then (bif Nat.ble 12 pc then (bif Nat.beq pc 12 then some (.if_icmp .ne 22, 3, 34, 0, false) else none) else (bif Nat.beq pc 11 then some (.iconst (-1), 1, 0, -1, false) else none)) else (bif Nat.beq pc 8 then some (.getfield 49, 3, 0, 0, false) else none)))
   else
    (bif Nat.ble 5 pc then
     (bif Nat.ble 6 pc then (bif Nat.ble 7 pc then (bif Nat.beq pc 7 then some (.aload_n 2, 1, 0, 0, false) else none) else (bif Nat.beq pc 6 then some (.astore_n 2, 1, 0, 0, false) else none)) else (bif Nat.beq pc 5 then some (.aaload, 1, 0, 0, false) else none))
    else
     (bif Nat.ble 1 pc then (bif Nat.ble 4 pc then (bif Nat.beq pc 4 then some (.iload_n 1, 1, 0, 0, false) else none) else (bif Nat.beq pc 1 then some (.getfield 11, 3, 0, 0, false) else none)) else (bif Nat.beq pc 0 then some (.aload_n 0, 1, 0, 0, false) else none)))))
def qX0_kindBetween (pc : Nat) : Option mIn :=
  (bif Nat.ble 13 pc then
   (bif Nat.ble 18 pc then
    (bif Nat.ble 22 pc then (bif Nat.ble 23 pc then (bif Nat.beq pc 23 then some (.ireturn, 1, 0, 0, false) else none) else (bif Nat.beq pc 22 then some (.iconst 4, 1, 0, 4, false) else none)) else (bif Nat.ble 19 pc then (bif Nat.beq pc 19 then some (.goto 4, 3, 23, 0, false) else none) else (bif Nat.beq pc 18 then some (.iconst 3, 1, 0, 3, false) else none)))
   else
    (bif Nat.ble 14 pc then (bif Nat.ble 15 pc then (bif Nat.beq pc 15 then some (.ifCond .eq 7, 3, 22, 0, false) else none) else (bif Nat.beq pc 14 then some (.iload_n 0, 1, 0, 0, false) else none)) else (bif Nat.beq pc 13 then some (.ireturn, 1, 0, 0, false) else none)))
  else
   (bif Nat.ble 5 pc then
    (bif Nat.ble 9 pc then (bif Nat.ble 12 pc then (bif Nat.beq pc 12 then some (.iconst 1, 1, 0, 1, false) else none) else (bif Nat.beq pc 9 then some (.goto 4, 3, 13, 0, false) else none)) else (bif Nat.ble 8 pc then (bif Nat.beq pc 8 then some (.iconst 0, 1, 0, 0, false) else none) else (bif Nat.beq pc 5 then some (.ifCond .eq 7, 3, 12, 0, false) else none)))
   else
    (bif Nat.ble 1 pc then (bif Nat.ble 4 pc then (bif Nat.beq pc 4 then some (.iload_n 0, 1, 0, 0, false) else none) else (bif Nat.beq pc 1 then some (.ifCond .eq 13, 3, 14, 0, false) else none)) else (bif Nat.beq pc 0 then some (.iload_n 1, 1, 0, 0, false) else none))))
def qX1_clear (pc : Nat) : Option mIn :=
  (bif Nat.ble 2 pc then (bif Nat.ble 5 pc then (bif Nat.beq pc 5 then some (.return_, 1, 0, 0, false) else none) else (bif Nat.beq pc 2 then some (.putfield 37, 3, 0, 0, false) else none)) else (bif Nat.ble 1 pc then (bif Nat.beq pc 1 then some (.iconst 0, 1, 0, 0, false) else none) else (bif Nat.beq pc 0 then some (.aload_n 0, 1, 0, 0, false) else none)))
def qX1_isFull (pc : Nat) : Option mIn :=
  (bif Nat.ble 9 pc then
   (bif Nat.ble 13 pc then (bif Nat.ble 14 pc then (bif Nat.beq pc 14 then some (.ireturn, 1, 0, 0, false) else none) else (bif Nat.beq pc 13 then some (.iconst 0, 1, 0, 0, false) else none)) else (bif Nat.ble 10 pc then (bif Nat.beq pc 10 then some (.goto 4, 3, 14, 0, false) else none) else (bif Nat.beq pc 9 then some (.iconst 1, 1, 0, 1, false) else none)))
  else
   (bif Nat.ble 4 pc then (bif Nat.ble 6 pc then (bif Nat.beq pc 6 then some (.if_icmp .lt 7, 3, 13, 0, false) else none) else (bif Nat.beq pc 4 then some (.bipush 30, 2, 0, 30, false) else none)) else (bif Nat.ble 1 pc then (bif Nat.beq pc 1 then some (.getfield 37, 3, 0, 0, false) else none) else (bif Nat.beq pc 0 then some (.aload_n 0, 1, 0, 0, false) else none))))
def qX1_has (pc : Nat) : Option mIn :=
  (bif Nat.ble 9 pc then
   (bif Nat.ble 13 pc then
    (bif Nat.ble 16 pc then (bif Nat.ble 17 pc then (bif Nat.beq pc 17 then some (.ireturn, 1, 0, 0, false) else none) else (bif Nat.beq pc 16 then some (.iconst 0, 1, 0, 0, false) else none)) else (bif Nat.beq pc 13 then some (.goto 4, 3, 17, 0, false) else none))
   else
    (bif Nat.ble 12 pc then (bif Nat.beq pc 12 then some (.iconst 1, 1, 0, 1, false) else none) else (bif Nat.beq pc 9 then some (.if_icmp .ge 7, 3, 16, 0, false) else none)))
  else
   (bif Nat.ble 4 pc then
    (bif Nat.ble 5 pc then (bif Nat.ble 6 pc then (bif Nat.beq pc 6 then some (.getfield 37, 3, 0, 0, false) else none) else (bif Nat.beq pc 5 then some (.aload_n 0, 1, 0, 0, false) else none)) else (bif Nat.beq pc 4 then some (.iload_n 1, 1, 0, 0, false) else none))
   else
    (bif Nat.ble 1 pc then (bif Nat.beq pc 1 then some (.ifCond .lt 15, 3, 16, 0, false) else none) else (bif Nat.beq pc 0 then some (.iload_n 1, 1, 0, 0, false) else none))))
def qX1_add (pc : Nat) : Option mIn :=
  (bif Nat.ble 67 pc then
   (bif Nat.ble 103 pc then
    (bif Nat.ble 121 pc then
     (bif Nat.ble 129 pc then
      (bif Nat.ble 131 pc then
       (bif Nat.ble 134 pc then (bif Nat.ble 136 pc then (bif Nat.beq pc 136 then some (.ireturn, 1, 0, 0, false) else none) else (bif Nat.beq pc 134 then some (.iload 7, 2, 0, 0, false) else none)) else (bif Nat.beq pc 131 then some (.putfield 37, 3, 0, 0, false) else none))
      else
       (bif Nat.ble 130 pc then (bif Nat.beq pc 130 then some (.iadd, 1, 0, 0, false) else none) else (bif Nat.beq pc 129 then some (.iconst 1, 1, 0, 1, false) else none)))
     else
      (bif Nat.ble 124 pc then
       (bif Nat.ble 125 pc then (bif Nat.ble 126 pc then (bif Nat.beq pc 126 then some (.getfield 37, 3, 0, 0, false) else none) else (bif Nat.beq pc 125 then some (.dup, 1, 0, 0, false) else none)) else (bif Nat.beq pc 124 then some (.aload_n 0, 1, 0, 0, false) else none))
      else
       (bif Nat.ble 123 pc then (bif Nat.beq pc 123 then some (.iastore, 1, 0, 0, false) else none) else (bif Nat.beq pc 121 then some (.iload 7, 2, 0, 0, false) else none))))
    else
     (bif Nat.ble 109 pc then
      (bif Nat.ble 115 pc then
       (bif Nat.ble 116 pc then (bif Nat.ble 119 pc then (bif Nat.beq pc 119 then some (.iload 8, 2, 0, 0, false) else none) else (bif Nat.beq pc 116 then some (.getfield 34, 3, 0, 0, false) else none)) else (bif Nat.beq pc 115 then some (.aload_n 0, 1, 0, 0, false) else none))
      else
       (bif Nat.ble 112 pc then (bif Nat.beq pc 112 then some (.goto (-43), 3, 69, 0, false) else none) else (bif Nat.beq pc 109 then some (.iinc 8 (-1), 3, 0, -1, false) else none)))
     else
      (bif Nat.ble 106 pc then
       (bif Nat.ble 107 pc then (bif Nat.ble 108 pc then (bif Nat.beq pc 108 then some (.iastore, 1, 0, 0, false) else none) else (bif Nat.beq pc 107 then some (.iaload, 1, 0, 0, false) else none)) else (bif Nat.beq pc 106 then some (.isub, 1, 0, 0, false) else none))
      else
       (bif Nat.ble 105 pc then (bif Nat.beq pc 105 then some (.iconst 1, 1, 0, 1, false) else none) else (bif Nat.beq pc 103 then some (.iload 8, 2, 0, 0, false) else none)))))
   else
    (bif Nat.ble 85 pc then
     (bif Nat.ble 93 pc then
      (bif Nat.ble 97 pc then
       (bif Nat.ble 99 pc then (bif Nat.ble 100 pc then (bif Nat.beq pc 100 then some (.getfield 34, 3, 0, 0, false) else none) else (bif Nat.beq pc 99 then some (.aload_n 0, 1, 0, 0, false) else none)) else (bif Nat.beq pc 97 then some (.iload 8, 2, 0, 0, false) else none))
      else
       (bif Nat.ble 94 pc then (bif Nat.beq pc 94 then some (.getfield 34, 3, 0, 0, false) else none) else (bif Nat.beq pc 93 then some (.aload_n 0, 1, 0, 0, false) else none)))
     else
      (bif Nat.ble 87 pc then
       (bif Nat.ble 88 pc then (bif Nat.ble 90 pc then (bif Nat.beq pc 90 then some (.if_icmp .le 25, 3, 115, 0, false) else none) else (bif Nat.beq pc 88 then some (.iload 6, 2, 0, 0, false) else none)) else (bif Nat.beq pc 87 then some (.iaload, 1, 0, 0, false) else none))
      else
       (bif Nat.ble 86 pc then (bif Nat.beq pc 86 then some (.iaload, 1, 0, 0, false) else none) else (bif Nat.beq pc 85 then some (.isub, 1, 0, 0, false) else none))))
    else
     (bif Nat.ble 75 pc then
      (bif Nat.ble 79 pc then
       (bif Nat.ble 82 pc then (bif Nat.ble 84 pc then (bif Nat.beq pc 84 then some (.iconst 1, 1, 0, 1, false) else none) else (bif Nat.beq pc 82 then some (.iload 8, 2, 0, 0, false) else none)) else (bif Nat.beq pc 79 then some (.getfield 34, 3, 0, 0, false) else none))
      else
       (bif Nat.ble 78 pc then (bif Nat.beq pc 78 then some (.aload_n 0, 1, 0, 0, false) else none) else (bif Nat.beq pc 75 then some (.getfield 27, 3, 0, 0, false) else none)))
     else
      (bif Nat.ble 71 pc then (bif Nat.ble 74 pc then (bif Nat.beq pc 74 then some (.aload_n 0, 1, 0, 0, false) else none) else (bif Nat.beq pc 71 then some (.ifCond .le 44, 3, 115, 0, false) else none)) else (bif Nat.ble 69 pc then (bif Nat.beq pc 69 then some (.iload 8, 2, 0, 0, true) else none) else (bif Nat.beq pc 67 then some (.istore 8, 2, 0, 0, false) else none))))))
  else
   (bif Nat.ble 31 pc then
    (bif Nat.ble 49 pc then
     (bif Nat.ble 58 pc then
      (bif Nat.ble 63 pc then
       (bif Nat.ble 64 pc then (bif Nat.ble 65 pc then (bif Nat.beq pc 65 then some (.iload 7, 2, 0, 0, false) else none) else (bif Nat.beq pc 64 then some (.bastore, 1, 0, 0, false) else none)) else (bif Nat.beq pc 63 then some (.iconst 0, 1, 0, 0, false) else none))
      else
       (bif Nat.ble 61 pc then (bif Nat.beq pc 61 then some (.iload 7, 2, 0, 0, false) else none) else (bif Nat.beq pc 58 then some (.getfield 30, 3, 0, 0, false) else none)))
     else
      (bif Nat.ble 54 pc then
       (bif Nat.ble 56 pc then (bif Nat.ble 57 pc then (bif Nat.beq pc 57 then some (.aload_n 0, 1, 0, 0, false) else none) else (bif Nat.beq pc 56 then some (.iastore, 1, 0, 0, false) else none)) else (bif Nat.beq pc 54 then some (.iload 6, 2, 0, 0, false) else none))
      else
       (bif Nat.ble 52 pc then (bif Nat.beq pc 52 then some (.iload 7, 2, 0, 0, false) else none) else (bif Nat.beq pc 49 then some (.getfield 27, 3, 0, 0, false) else none))))
    else
     (bif Nat.ble 40 pc then
      (bif Nat.ble 45 pc then
       (bif Nat.ble 47 pc then (bif Nat.ble 48 pc then (bif Nat.beq pc 48 then some (.aload_n 0, 1, 0, 0, false) else none) else (bif Nat.beq pc 47 then some (.iastore, 1, 0, 0, false) else none)) else (bif Nat.beq pc 45 then some (.iload 5, 2, 0, 0, false) else none))
      else
       (bif Nat.ble 43 pc then (bif Nat.beq pc 43 then some (.iload 7, 2, 0, 0, false) else none) else (bif Nat.beq pc 40 then some (.getfield 24, 3, 0, 0, false) else none)))
     else
      (bif Nat.ble 36 pc then
       (bif Nat.ble 38 pc then (bif Nat.ble 39 pc then (bif Nat.beq pc 39 then some (.aload_n 0, 1, 0, 0, false) else none) else (bif Nat.beq pc 38 then some (.iastore, 1, 0, 0, false) else none)) else (bif Nat.beq pc 36 then some (.iload 4, 2, 0, 0, false) else none))
      else
       (bif Nat.ble 34 pc then (bif Nat.beq pc 34 then some (.iload 7, 2, 0, 0, false) else none) else (bif Nat.beq pc 31 then some (.getfield 21, 3, 0, 0, false) else none)))))
   else
    (bif Nat.ble 15 pc then
     (bif Nat.ble 23 pc then
      (bif Nat.ble 28 pc then
       (bif Nat.ble 29 pc then (bif Nat.ble 30 pc then (bif Nat.beq pc 30 then some (.aload_n 0, 1, 0, 0, false) else none) else (bif Nat.beq pc 29 then some (.iastore, 1, 0, 0, false) else none)) else (bif Nat.beq pc 28 then some (.iload_n 3, 1, 0, 0, false) else none))
      else
       (bif Nat.ble 26 pc then (bif Nat.beq pc 26 then some (.iload 7, 2, 0, 0, false) else none) else (bif Nat.beq pc 23 then some (.getfield 18, 3, 0, 0, false) else none)))
     else
      (bif Nat.ble 20 pc then
       (bif Nat.ble 21 pc then (bif Nat.ble 22 pc then (bif Nat.beq pc 22 then some (.aload_n 0, 1, 0, 0, false) else none) else (bif Nat.beq pc 21 then some (.iastore, 1, 0, 0, false) else none)) else (bif Nat.beq pc 20 then some (.iload_n 2, 1, 0, 0, false) else none))
      else
       (bif Nat.ble 18 pc then (bif Nat.beq pc 18 then some (.iload 7, 2, 0, 0, false) else none) else (bif Nat.beq pc 15 then some (.getfield 15, 3, 0, 0, false) else none))))
    else
     (bif Nat.ble 7 pc then
      (bif Nat.ble 12 pc then
       (bif Nat.ble 13 pc then (bif Nat.ble 14 pc then (bif Nat.beq pc 14 then some (.aload_n 0, 1, 0, 0, false) else none) else (bif Nat.beq pc 13 then some (.iastore, 1, 0, 0, false) else none)) else (bif Nat.beq pc 12 then some (.iload_n 1, 1, 0, 0, false) else none))
      else
       (bif Nat.ble 10 pc then (bif Nat.beq pc 10 then some (.iload 7, 2, 0, 0, false) else none) else (bif Nat.beq pc 7 then some (.getfield 9, 3, 0, 0, false) else none)))
     else
      (bif Nat.ble 4 pc then (bif Nat.ble 6 pc then (bif Nat.beq pc 6 then some (.aload_n 0, 1, 0, 0, false) else none) else (bif Nat.beq pc 4 then some (.istore 7, 2, 0, 0, false) else none)) else (bif Nat.ble 1 pc then (bif Nat.beq pc 1 then some (.getfield 37, 3, 0, 0, false) else none) else (bif Nat.beq pc 0 then some (.aload_n 0, 1, 0, 0, false) else none)))))))
def qX1_notStruck (pc : Nat) : Option mIn :=
  (bif Nat.ble 17 pc then
   (bif Nat.ble 27 pc then
    (bif Nat.ble 32 pc then
     (bif Nat.ble 35 pc then (bif Nat.ble 36 pc then (bif Nat.beq pc 36 then some (.ireturn, 1, 0, 0, false) else none) else (bif Nat.beq pc 35 then some (.iload_n 1, 1, 0, 0, false) else none)) else (bif Nat.beq pc 32 then some (.goto (-28), 3, 4, 0, false) else none))
    else
     (bif Nat.ble 28 pc then (bif Nat.ble 29 pc then (bif Nat.beq pc 29 then some (.iinc 2 1, 3, 0, 1, false) else none) else (bif Nat.beq pc 28 then some (.istore_n 1, 1, 0, 0, false) else none)) else (bif Nat.beq pc 27 then some (.iadd, 1, 0, 0, false) else none)))
   else
    (bif Nat.ble 22 pc then
     (bif Nat.ble 23 pc then (bif Nat.ble 26 pc then (bif Nat.beq pc 26 then some (.iconst 1, 1, 0, 1, false) else none) else (bif Nat.beq pc 23 then some (.goto 4, 3, 27, 0, false) else none)) else (bif Nat.beq pc 22 then some (.iconst 0, 1, 0, 0, false) else none))
    else
     (bif Nat.ble 18 pc then (bif Nat.ble 19 pc then (bif Nat.beq pc 19 then some (.ifCond .eq 7, 3, 26, 0, false) else none) else (bif Nat.beq pc 18 then some (.baload, 1, 0, 0, false) else none)) else (bif Nat.beq pc 17 then some (.iload_n 2, 1, 0, 0, false) else none))))
  else
   (bif Nat.ble 5 pc then
    (bif Nat.ble 12 pc then
     (bif Nat.ble 13 pc then (bif Nat.ble 14 pc then (bif Nat.beq pc 14 then some (.getfield 30, 3, 0, 0, false) else none) else (bif Nat.beq pc 13 then some (.aload_n 0, 1, 0, 0, false) else none)) else (bif Nat.beq pc 12 then some (.iload_n 1, 1, 0, 0, false) else none))
    else
     (bif Nat.ble 6 pc then (bif Nat.ble 9 pc then (bif Nat.beq pc 9 then some (.if_icmp .ge 26, 3, 35, 0, false) else none) else (bif Nat.beq pc 6 then some (.getfield 37, 3, 0, 0, false) else none)) else (bif Nat.beq pc 5 then some (.aload_n 0, 1, 0, 0, false) else none)))
   else
    (bif Nat.ble 2 pc then
     (bif Nat.ble 3 pc then (bif Nat.ble 4 pc then (bif Nat.beq pc 4 then some (.iload_n 2, 1, 0, 0, true) else none) else (bif Nat.beq pc 3 then some (.istore_n 2, 1, 0, 0, false) else none)) else (bif Nat.beq pc 2 then some (.iconst 0, 1, 0, 0, false) else none))
    else
     (bif Nat.ble 1 pc then (bif Nat.beq pc 1 then some (.istore_n 1, 1, 0, 0, false) else none) else (bif Nat.beq pc 0 then some (.iconst 0, 1, 0, 0, false) else none)))))
def qX2_lay (pc : Nat) : Option mIn :=
  (bif Nat.ble 34 pc then
   (bif Nat.ble 51 pc then
    (bif Nat.ble 57 pc then
     (bif Nat.ble 64 pc then
      (bif Nat.ble 67 pc then (bif Nat.ble 70 pc then (bif Nat.beq pc 70 then some (.return_, 1, 0, 0, false) else none) else (bif Nat.beq pc 67 then some (.goto (-48), 3, 19, 0, false) else none)) else (bif Nat.beq pc 64 then some (.iinc 3 1, 3, 0, 1, false) else none))
     else
      (bif Nat.ble 58 pc then (bif Nat.ble 61 pc then (bif Nat.beq pc 61 then some (.goto (-34), 3, 27, 0, false) else none) else (bif Nat.beq pc 58 then some (.iinc 4 1, 3, 0, 1, false) else none)) else (bif Nat.beq pc 57 then some (.iastore, 1, 0, 0, false) else none)))
    else
     (bif Nat.ble 53 pc then
      (bif Nat.ble 55 pc then (bif Nat.ble 56 pc then (bif Nat.beq pc 56 then some (.iload_n 3, 1, 0, 0, false) else none) else (bif Nat.beq pc 55 then some (.iadd, 1, 0, 0, false) else none)) else (bif Nat.beq pc 53 then some (.iload 4, 2, 0, 0, false) else none))
     else
      (bif Nat.ble 52 pc then (bif Nat.beq pc 52 then some (.imul, 1, 0, 0, false) else none) else (bif Nat.beq pc 51 then some (.iload_n 1, 1, 0, 0, false) else none))))
   else
    (bif Nat.ble 42 pc then
     (bif Nat.ble 46 pc then
      (bif Nat.ble 47 pc then (bif Nat.ble 50 pc then (bif Nat.beq pc 50 then some (.iload_n 3, 1, 0, 0, false) else none) else (bif Nat.beq pc 47 then some (.getfield 25, 3, 0, 0, false) else none)) else (bif Nat.beq pc 46 then some (.aload_n 0, 1, 0, 0, false) else none))
     else
      (bif Nat.ble 43 pc then (bif Nat.ble 45 pc then (bif Nat.beq pc 45 then some (.iastore, 1, 0, 0, false) else none) else (bif Nat.beq pc 43 then some (.iload 4, 2, 0, 0, false) else none)) else (bif Nat.beq pc 42 then some (.iadd, 1, 0, 0, false) else none)))
    else
     (bif Nat.ble 38 pc then
      (bif Nat.ble 39 pc then (bif Nat.ble 40 pc then (bif Nat.beq pc 40 then some (.iload 4, 2, 0, 0, false) else none) else (bif Nat.beq pc 39 then some (.imul, 1, 0, 0, false) else none)) else (bif Nat.beq pc 38 then some (.iload_n 1, 1, 0, 0, false) else none))
     else
      (bif Nat.ble 37 pc then (bif Nat.beq pc 37 then some (.iload_n 3, 1, 0, 0, false) else none) else (bif Nat.beq pc 34 then some (.getfield 21, 3, 0, 0, false) else none)))))
  else
   (bif Nat.ble 17 pc then
    (bif Nat.ble 24 pc then
     (bif Nat.ble 29 pc then
      (bif Nat.ble 30 pc then (bif Nat.ble 33 pc then (bif Nat.beq pc 33 then some (.aload_n 0, 1, 0, 0, false) else none) else (bif Nat.beq pc 30 then some (.if_icmp .ge 34, 3, 64, 0, false) else none)) else (bif Nat.beq pc 29 then some (.iload_n 1, 1, 0, 0, false) else none))
     else
      (bif Nat.ble 25 pc then (bif Nat.ble 27 pc then (bif Nat.beq pc 27 then some (.iload 4, 2, 0, 0, true) else none) else (bif Nat.beq pc 25 then some (.istore 4, 2, 0, 0, false) else none)) else (bif Nat.beq pc 24 then some (.iconst 0, 1, 0, 0, false) else none)))
    else
     (bif Nat.ble 19 pc then
      (bif Nat.ble 20 pc then (bif Nat.ble 21 pc then (bif Nat.beq pc 21 then some (.if_icmp .ge 49, 3, 70, 0, false) else none) else (bif Nat.beq pc 20 then some (.iload_n 2, 1, 0, 0, false) else none)) else (bif Nat.beq pc 19 then some (.iload_n 3, 1, 0, 0, true) else none))
     else
      (bif Nat.ble 18 pc then (bif Nat.beq pc 18 then some (.istore_n 3, 1, 0, 0, false) else none) else (bif Nat.beq pc 17 then some (.iconst 0, 1, 0, 0, false) else none))))
   else
    (bif Nat.ble 7 pc then
     (bif Nat.ble 12 pc then
      (bif Nat.ble 13 pc then (bif Nat.ble 14 pc then (bif Nat.beq pc 14 then some (.putfield 18, 3, 0, 0, false) else none) else (bif Nat.beq pc 13 then some (.imul, 1, 0, 0, false) else none)) else (bif Nat.beq pc 12 then some (.iload_n 2, 1, 0, 0, false) else none))
     else
      (bif Nat.ble 10 pc then (bif Nat.ble 11 pc then (bif Nat.beq pc 11 then some (.iload_n 1, 1, 0, 0, false) else none) else (bif Nat.beq pc 10 then some (.aload_n 0, 1, 0, 0, false) else none)) else (bif Nat.beq pc 7 then some (.putfield 15, 3, 0, 0, false) else none)))
    else
     (bif Nat.ble 2 pc then
      (bif Nat.ble 5 pc then (bif Nat.ble 6 pc then (bif Nat.beq pc 6 then some (.iload_n 2, 1, 0, 0, false) else none) else (bif Nat.beq pc 5 then some (.aload_n 0, 1, 0, 0, false) else none)) else (bif Nat.beq pc 2 then some (.putfield 9, 3, 0, 0, false) else none))
     else
      (bif Nat.ble 1 pc then (bif Nat.beq pc 1 then some (.iload_n 1, 1, 0, 0, false) else none) else (bif Nat.beq pc 0 then some (.aload_n 0, 1, 0, 0, false) else none))))))
def qX2_hasLine (pc : Nat) : Option mIn :=
  (bif Nat.ble 9 pc then
   (bif Nat.ble 13 pc then
    (bif Nat.ble 16 pc then (bif Nat.ble 17 pc then (bif Nat.beq pc 17 then some (.ireturn, 1, 0, 0, false) else none) else (bif Nat.beq pc 16 then some (.iconst 0, 1, 0, 0, false) else none)) else (bif Nat.beq pc 13 then some (.goto 4, 3, 17, 0, false) else none))
   else
    (bif Nat.ble 12 pc then (bif Nat.beq pc 12 then some (.iconst 1, 1, 0, 1, false) else none) else (bif Nat.beq pc 9 then some (.if_icmp .ge 7, 3, 16, 0, false) else none)))
  else
   (bif Nat.ble 4 pc then
    (bif Nat.ble 5 pc then (bif Nat.ble 6 pc then (bif Nat.beq pc 6 then some (.getfield 15, 3, 0, 0, false) else none) else (bif Nat.beq pc 5 then some (.aload_n 0, 1, 0, 0, false) else none)) else (bif Nat.beq pc 4 then some (.iload_n 1, 1, 0, 0, false) else none))
   else
    (bif Nat.ble 1 pc then (bif Nat.beq pc 1 then some (.ifCond .lt 15, 3, 16, 0, false) else none) else (bif Nat.beq pc 0 then some (.iload_n 1, 1, 0, 0, false) else none))))
def qX2_has (pc : Nat) : Option mIn :=
  (bif Nat.ble 13 pc then
   (bif Nat.ble 20 pc then
    (bif Nat.ble 24 pc then (bif Nat.ble 25 pc then (bif Nat.beq pc 25 then some (.ireturn, 1, 0, 0, false) else none) else (bif Nat.beq pc 24 then some (.iconst 0, 1, 0, 0, false) else none)) else (bif Nat.ble 21 pc then (bif Nat.beq pc 21 then some (.goto 4, 3, 25, 0, false) else none) else (bif Nat.beq pc 20 then some (.iconst 1, 1, 0, 1, false) else none)))
   else
    (bif Nat.ble 14 pc then (bif Nat.ble 17 pc then (bif Nat.beq pc 17 then some (.ifCond .eq 7, 3, 24, 0, false) else none) else (bif Nat.beq pc 14 then some (.invokevirtual 28, 3, 0, 0, false) else none)) else (bif Nat.beq pc 13 then some (.iload_n 2, 1, 0, 0, false) else none)))
  else
   (bif Nat.ble 5 pc then
    (bif Nat.ble 9 pc then (bif Nat.ble 12 pc then (bif Nat.beq pc 12 then some (.aload_n 0, 1, 0, 0, false) else none) else (bif Nat.beq pc 9 then some (.if_icmp .ge 15, 3, 24, 0, false) else none)) else (bif Nat.ble 6 pc then (bif Nat.beq pc 6 then some (.getfield 9, 3, 0, 0, false) else none) else (bif Nat.beq pc 5 then some (.aload_n 0, 1, 0, 0, false) else none)))
   else
    (bif Nat.ble 1 pc then (bif Nat.ble 4 pc then (bif Nat.beq pc 4 then some (.iload_n 1, 1, 0, 0, false) else none) else (bif Nat.beq pc 1 then some (.ifCond .lt 23, 3, 24, 0, false) else none)) else (bif Nat.beq pc 0 then some (.iload_n 1, 1, 0, 0, false) else none))))
def qX2_hasBox (pc : Nat) : Option mIn :=
  (bif Nat.ble 19 pc then
   (bif Nat.ble 27 pc then
    (bif Nat.ble 31 pc then
     (bif Nat.ble 34 pc then (bif Nat.ble 35 pc then (bif Nat.beq pc 35 then some (.ireturn, 1, 0, 0, false) else none) else (bif Nat.beq pc 34 then some (.iconst 0, 1, 0, 0, false) else none)) else (bif Nat.beq pc 31 then some (.goto 4, 3, 35, 0, false) else none))
    else
     (bif Nat.ble 30 pc then (bif Nat.beq pc 30 then some (.iconst 1, 1, 0, 1, false) else none) else (bif Nat.beq pc 27 then some (.if_icmp .gt 7, 3, 34, 0, false) else none)))
   else
    (bif Nat.ble 21 pc then
     (bif Nat.ble 24 pc then (bif Nat.ble 25 pc then (bif Nat.beq pc 25 then some (.iload 4, 2, 0, 0, false) else none) else (bif Nat.beq pc 24 then some (.iload_n 2, 1, 0, 0, false) else none)) else (bif Nat.beq pc 21 then some (.if_icmp .gt 13, 3, 34, 0, false) else none))
    else
     (bif Nat.ble 20 pc then (bif Nat.beq pc 20 then some (.iload_n 3, 1, 0, 0, false) else none) else (bif Nat.beq pc 19 then some (.iload_n 1, 1, 0, 0, false) else none))))
  else
   (bif Nat.ble 9 pc then
    (bif Nat.ble 11 pc then
     (bif Nat.ble 13 pc then (bif Nat.ble 16 pc then (bif Nat.beq pc 16 then some (.ifCond .eq 18, 3, 34, 0, false) else none) else (bif Nat.beq pc 13 then some (.invokevirtual 32, 3, 0, 0, false) else none)) else (bif Nat.beq pc 11 then some (.iload 4, 2, 0, 0, false) else none))
    else
     (bif Nat.ble 10 pc then (bif Nat.beq pc 10 then some (.iload_n 3, 1, 0, 0, false) else none) else (bif Nat.beq pc 9 then some (.aload_n 0, 1, 0, 0, false) else none)))
   else
    (bif Nat.ble 2 pc then
     (bif Nat.ble 3 pc then (bif Nat.ble 6 pc then (bif Nat.beq pc 6 then some (.ifCond .eq 28, 3, 34, 0, false) else none) else (bif Nat.beq pc 3 then some (.invokevirtual 32, 3, 0, 0, false) else none)) else (bif Nat.beq pc 2 then some (.iload_n 2, 1, 0, 0, false) else none))
    else
     (bif Nat.ble 1 pc then (bif Nat.beq pc 1 then some (.iload_n 1, 1, 0, 0, false) else none) else (bif Nat.beq pc 0 then some (.aload_n 0, 1, 0, 0, false) else none)))))
def qX2_cellAt (pc : Nat) : Option mIn :=
  (bif Nat.ble 5 pc then
   (bif Nat.ble 7 pc then (bif Nat.ble 8 pc then (bif Nat.beq pc 8 then some (.ireturn, 1, 0, 0, false) else none) else (bif Nat.beq pc 7 then some (.iadd, 1, 0, 0, false) else none)) else (bif Nat.ble 6 pc then (bif Nat.beq pc 6 then some (.iload_n 1, 1, 0, 0, false) else none) else (bif Nat.beq pc 5 then some (.imul, 1, 0, 0, false) else none)))
  else
   (bif Nat.ble 1 pc then (bif Nat.ble 2 pc then (bif Nat.beq pc 2 then some (.getfield 9, 3, 0, 0, false) else none) else (bif Nat.beq pc 1 then some (.aload_n 0, 1, 0, 0, false) else none)) else (bif Nat.beq pc 0 then some (.iload_n 2, 1, 0, 0, false) else none)))
def qX2_beside (pc : Nat) : Option mIn :=
  (bif Nat.ble 70 pc then
   (bif Nat.ble 92 pc then
    (bif Nat.ble 103 pc then
     (bif Nat.ble 108 pc then
      (bif Nat.ble 112 pc then (bif Nat.ble 113 pc then (bif Nat.beq pc 113 then some (.ireturn, 1, 0, 0, false) else none) else (bif Nat.beq pc 112 then some (.iconst (-1), 1, 0, -1, false) else none)) else (bif Nat.ble 109 pc then (bif Nat.beq pc 109 then some (.goto 4, 3, 113, 0, false) else none) else (bif Nat.beq pc 108 then some (.iadd, 1, 0, 0, false) else none)))
     else
      (bif Nat.ble 104 pc then (bif Nat.ble 105 pc then (bif Nat.beq pc 105 then some (.getfield 9, 3, 0, 0, false) else none) else (bif Nat.beq pc 104 then some (.aload_n 0, 1, 0, 0, false) else none)) else (bif Nat.beq pc 103 then some (.iload_n 1, 1, 0, 0, false) else none)))
    else
     (bif Nat.ble 95 pc then
      (bif Nat.ble 99 pc then (bif Nat.ble 100 pc then (bif Nat.beq pc 100 then some (.if_icmp .ge 12, 3, 112, 0, false) else none) else (bif Nat.beq pc 99 then some (.isub, 1, 0, 0, false) else none)) else (bif Nat.ble 98 pc then (bif Nat.beq pc 98 then some (.iconst 1, 1, 0, 1, false) else none) else (bif Nat.beq pc 95 then some (.getfield 15, 3, 0, 0, false) else none)))
     else
      (bif Nat.ble 93 pc then (bif Nat.ble 94 pc then (bif Nat.beq pc 94 then some (.aload_n 0, 1, 0, 0, false) else none) else (bif Nat.beq pc 93 then some (.iaload, 1, 0, 0, false) else none)) else (bif Nat.beq pc 92 then some (.iload_n 1, 1, 0, 0, false) else none))))
   else
    (bif Nat.ble 81 pc then
     (bif Nat.ble 86 pc then
      (bif Nat.ble 88 pc then (bif Nat.ble 89 pc then (bif Nat.beq pc 89 then some (.getfield 25, 3, 0, 0, false) else none) else (bif Nat.beq pc 88 then some (.aload_n 0, 1, 0, 0, false) else none)) else (bif Nat.ble 87 pc then (bif Nat.beq pc 87 then some (.ireturn, 1, 0, 0, false) else none) else (bif Nat.beq pc 86 then some (.iconst (-1), 1, 0, -1, false) else none)))
     else
      (bif Nat.ble 82 pc then (bif Nat.ble 83 pc then (bif Nat.beq pc 83 then some (.goto 4, 3, 87, 0, false) else none) else (bif Nat.beq pc 82 then some (.iadd, 1, 0, 0, false) else none)) else (bif Nat.beq pc 81 then some (.iconst 1, 1, 0, 1, false) else none)))
    else
     (bif Nat.ble 75 pc then
      (bif Nat.ble 77 pc then (bif Nat.ble 80 pc then (bif Nat.beq pc 80 then some (.iload_n 1, 1, 0, 0, false) else none) else (bif Nat.beq pc 77 then some (.if_icmp .ge 9, 3, 86, 0, false) else none)) else (bif Nat.ble 76 pc then (bif Nat.beq pc 76 then some (.isub, 1, 0, 0, false) else none) else (bif Nat.beq pc 75 then some (.iconst 1, 1, 0, 1, false) else none)))
     else
      (bif Nat.ble 71 pc then (bif Nat.ble 72 pc then (bif Nat.beq pc 72 then some (.getfield 9, 3, 0, 0, false) else none) else (bif Nat.beq pc 71 then some (.aload_n 0, 1, 0, 0, false) else none)) else (bif Nat.beq pc 70 then some (.iaload, 1, 0, 0, false) else none)))))
  else
   (bif Nat.ble 48 pc then
    (bif Nat.ble 59 pc then
     (bif Nat.ble 64 pc then
      (bif Nat.ble 66 pc then (bif Nat.ble 69 pc then (bif Nat.beq pc 69 then some (.iload_n 1, 1, 0, 0, false) else none) else (bif Nat.beq pc 66 then some (.getfield 21, 3, 0, 0, false) else none)) else (bif Nat.ble 65 pc then (bif Nat.beq pc 65 then some (.aload_n 0, 1, 0, 0, false) else none) else (bif Nat.beq pc 64 then some (.ireturn, 1, 0, 0, false) else none)))
     else
      (bif Nat.ble 60 pc then (bif Nat.ble 63 pc then (bif Nat.beq pc 63 then some (.iconst (-1), 1, 0, -1, false) else none) else (bif Nat.beq pc 60 then some (.goto 4, 3, 64, 0, false) else none)) else (bif Nat.beq pc 59 then some (.isub, 1, 0, 0, false) else none)))
    else
     (bif Nat.ble 53 pc then
      (bif Nat.ble 57 pc then (bif Nat.ble 58 pc then (bif Nat.beq pc 58 then some (.iconst 1, 1, 0, 1, false) else none) else (bif Nat.beq pc 57 then some (.iload_n 1, 1, 0, 0, false) else none)) else (bif Nat.ble 54 pc then (bif Nat.beq pc 54 then some (.ifCond .le 9, 3, 63, 0, false) else none) else (bif Nat.beq pc 53 then some (.iaload, 1, 0, 0, false) else none)))
     else
      (bif Nat.ble 49 pc then (bif Nat.ble 52 pc then (bif Nat.beq pc 52 then some (.iload_n 1, 1, 0, 0, false) else none) else (bif Nat.beq pc 49 then some (.getfield 21, 3, 0, 0, false) else none)) else (bif Nat.beq pc 48 then some (.aload_n 0, 1, 0, 0, false) else none))))
   else
    (bif Nat.ble 37 pc then
     (bif Nat.ble 42 pc then
      (bif Nat.ble 46 pc then (bif Nat.ble 47 pc then (bif Nat.beq pc 47 then some (.ireturn, 1, 0, 0, false) else none) else (bif Nat.beq pc 46 then some (.iconst (-1), 1, 0, -1, false) else none)) else (bif Nat.ble 43 pc then (bif Nat.beq pc 43 then some (.goto 4, 3, 47, 0, false) else none) else (bif Nat.beq pc 42 then some (.isub, 1, 0, 0, false) else none)))
     else
      (bif Nat.ble 38 pc then (bif Nat.ble 39 pc then (bif Nat.beq pc 39 then some (.getfield 9, 3, 0, 0, false) else none) else (bif Nat.beq pc 38 then some (.aload_n 0, 1, 0, 0, false) else none)) else (bif Nat.beq pc 37 then some (.iload_n 1, 1, 0, 0, false) else none)))
    else
     (bif Nat.ble 29 pc then
      (bif Nat.ble 33 pc then (bif Nat.ble 34 pc then (bif Nat.beq pc 34 then some (.ifCond .le 12, 3, 46, 0, false) else none) else (bif Nat.beq pc 33 then some (.iaload, 1, 0, 0, false) else none)) else (bif Nat.ble 32 pc then (bif Nat.beq pc 32 then some (.iload_n 1, 1, 0, 0, false) else none) else (bif Nat.beq pc 29 then some (.getfield 25, 3, 0, 0, false) else none)))
     else
      (bif Nat.ble 1 pc then (bif Nat.ble 28 pc then (bif Nat.beq pc 28 then some (.aload_n 0, 1, 0, 0, false) else none) else (bif Nat.beq pc 1 then some (.tableswitch 87 0 2 #[27, 47, 64], 27, 0, 0, false) else none)) else (bif Nat.beq pc 0 then some (.iload_n 2, 1, 0, 0, false) else none))))))
def qX2_apart (pc : Nat) : Option mIn :=
  (bif Nat.ble 17 pc then
   (bif Nat.ble 26 pc then
    (bif Nat.ble 29 pc then
     (bif Nat.ble 32 pc then (bif Nat.ble 35 pc then (bif Nat.beq pc 35 then some (.ireturn, 1, 0, 0, false) else none) else (bif Nat.beq pc 32 then some (.invokestatic 42, 3, 0, 0, false) else none)) else (bif Nat.beq pc 29 then some (.invokestatic 36, 3, 0, 0, false) else none))
    else
     (bif Nat.ble 27 pc then (bif Nat.ble 28 pc then (bif Nat.beq pc 28 then some (.isub, 1, 0, 0, false) else none) else (bif Nat.beq pc 27 then some (.iaload, 1, 0, 0, false) else none)) else (bif Nat.beq pc 26 then some (.iload_n 2, 1, 0, 0, false) else none)))
   else
    (bif Nat.ble 21 pc then
     (bif Nat.ble 22 pc then (bif Nat.ble 23 pc then (bif Nat.beq pc 23 then some (.getfield 25, 3, 0, 0, false) else none) else (bif Nat.beq pc 22 then some (.aload_n 0, 1, 0, 0, false) else none)) else (bif Nat.beq pc 21 then some (.iaload, 1, 0, 0, false) else none))
    else
     (bif Nat.ble 20 pc then (bif Nat.beq pc 20 then some (.iload_n 1, 1, 0, 0, false) else none) else (bif Nat.beq pc 17 then some (.getfield 25, 3, 0, 0, false) else none))))
  else
   (bif Nat.ble 7 pc then
    (bif Nat.ble 12 pc then
     (bif Nat.ble 13 pc then (bif Nat.ble 16 pc then (bif Nat.beq pc 16 then some (.aload_n 0, 1, 0, 0, false) else none) else (bif Nat.beq pc 13 then some (.invokestatic 36, 3, 0, 0, false) else none)) else (bif Nat.beq pc 12 then some (.isub, 1, 0, 0, false) else none))
    else
     (bif Nat.ble 10 pc then (bif Nat.ble 11 pc then (bif Nat.beq pc 11 then some (.iaload, 1, 0, 0, false) else none) else (bif Nat.beq pc 10 then some (.iload_n 2, 1, 0, 0, false) else none)) else (bif Nat.beq pc 7 then some (.getfield 21, 3, 0, 0, false) else none)))
   else
    (bif Nat.ble 4 pc then
     (bif Nat.ble 5 pc then (bif Nat.ble 6 pc then (bif Nat.beq pc 6 then some (.aload_n 0, 1, 0, 0, false) else none) else (bif Nat.beq pc 5 then some (.iaload, 1, 0, 0, false) else none)) else (bif Nat.beq pc 4 then some (.iload_n 1, 1, 0, 0, false) else none))
    else
     (bif Nat.ble 1 pc then (bif Nat.beq pc 1 then some (.getfield 21, 3, 0, 0, false) else none) else (bif Nat.beq pc 0 then some (.aload_n 0, 1, 0, 0, false) else none)))))
def qX2_walk (pc : Nat) : Option mIn :=
  (bif Nat.ble 17 pc then
   (bif Nat.ble 26 pc then
    (bif Nat.ble 29 pc then
     (bif Nat.ble 32 pc then (bif Nat.ble 33 pc then (bif Nat.beq pc 33 then some (.ireturn, 1, 0, 0, false) else none) else (bif Nat.beq pc 32 then some (.iadd, 1, 0, 0, false) else none)) else (bif Nat.beq pc 29 then some (.invokestatic 36, 3, 0, 0, false) else none))
    else
     (bif Nat.ble 27 pc then (bif Nat.ble 28 pc then (bif Nat.beq pc 28 then some (.isub, 1, 0, 0, false) else none) else (bif Nat.beq pc 27 then some (.iaload, 1, 0, 0, false) else none)) else (bif Nat.beq pc 26 then some (.iload_n 2, 1, 0, 0, false) else none)))
   else
    (bif Nat.ble 21 pc then
     (bif Nat.ble 22 pc then (bif Nat.ble 23 pc then (bif Nat.beq pc 23 then some (.getfield 25, 3, 0, 0, false) else none) else (bif Nat.beq pc 22 then some (.aload_n 0, 1, 0, 0, false) else none)) else (bif Nat.beq pc 21 then some (.iaload, 1, 0, 0, false) else none))
    else
     (bif Nat.ble 20 pc then (bif Nat.beq pc 20 then some (.iload_n 1, 1, 0, 0, false) else none) else (bif Nat.beq pc 17 then some (.getfield 25, 3, 0, 0, false) else none))))
  else
   (bif Nat.ble 7 pc then
    (bif Nat.ble 12 pc then
     (bif Nat.ble 13 pc then (bif Nat.ble 16 pc then (bif Nat.beq pc 16 then some (.aload_n 0, 1, 0, 0, false) else none) else (bif Nat.beq pc 13 then some (.invokestatic 36, 3, 0, 0, false) else none)) else (bif Nat.beq pc 12 then some (.isub, 1, 0, 0, false) else none))
    else
     (bif Nat.ble 10 pc then (bif Nat.ble 11 pc then (bif Nat.beq pc 11 then some (.iaload, 1, 0, 0, false) else none) else (bif Nat.beq pc 10 then some (.iload_n 2, 1, 0, 0, false) else none)) else (bif Nat.beq pc 7 then some (.getfield 21, 3, 0, 0, false) else none)))
   else
    (bif Nat.ble 4 pc then
     (bif Nat.ble 5 pc then (bif Nat.ble 6 pc then (bif Nat.beq pc 6 then some (.aload_n 0, 1, 0, 0, false) else none) else (bif Nat.beq pc 5 then some (.iaload, 1, 0, 0, false) else none)) else (bif Nat.beq pc 4 then some (.iload_n 1, 1, 0, 0, false) else none))
    else
     (bif Nat.ble 1 pc then (bif Nat.beq pc 1 then some (.getfield 21, 3, 0, 0, false) else none) else (bif Nat.beq pc 0 then some (.aload_n 0, 1, 0, 0, false) else none)))))
def qX3_isFull (pc : Nat) : Option mIn :=
  (bif Nat.ble 9 pc then
   (bif Nat.ble 13 pc then (bif Nat.ble 14 pc then (bif Nat.beq pc 14 then some (.ireturn, 1, 0, 0, false) else none) else (bif Nat.beq pc 13 then some (.iconst 0, 1, 0, 0, false) else none)) else (bif Nat.ble 10 pc then (bif Nat.beq pc 10 then some (.goto 4, 3, 14, 0, false) else none) else (bif Nat.beq pc 9 then some (.iconst 1, 1, 0, 1, false) else none)))
  else
   (bif Nat.ble 4 pc then (bif Nat.ble 6 pc then (bif Nat.beq pc 6 then some (.if_icmp .lt 7, 3, 13, 0, false) else none) else (bif Nat.beq pc 4 then some (.bipush 20, 2, 0, 20, false) else none)) else (bif Nat.ble 1 pc then (bif Nat.beq pc 1 then some (.getfield 24, 3, 0, 0, false) else none) else (bif Nat.beq pc 0 then some (.aload_n 0, 1, 0, 0, false) else none))))
def qX3_add (pc : Nat) : Option mIn :=
  (bif Nat.ble 28 pc then
   (bif Nat.ble 40 pc then
    (bif Nat.ble 48 pc then
     (bif Nat.ble 51 pc then
      (bif Nat.ble 52 pc then (bif Nat.ble 55 pc then (bif Nat.beq pc 55 then some (.ireturn, 1, 0, 0, false) else none) else (bif Nat.beq pc 52 then some (.getfield 24, 3, 0, 0, false) else none)) else (bif Nat.beq pc 51 then some (.aload_n 0, 1, 0, 0, false) else none))
     else
      (bif Nat.ble 50 pc then (bif Nat.beq pc 50 then some (.iastore, 1, 0, 0, false) else none) else (bif Nat.beq pc 48 then some (.iload 4, 2, 0, 0, false) else none)))
    else
     (bif Nat.ble 44 pc then (bif Nat.ble 45 pc then (bif Nat.beq pc 45 then some (.getfield 24, 3, 0, 0, false) else none) else (bif Nat.beq pc 44 then some (.aload_n 0, 1, 0, 0, false) else none)) else (bif Nat.ble 41 pc then (bif Nat.beq pc 41 then some (.getfield 21, 3, 0, 0, false) else none) else (bif Nat.beq pc 40 then some (.aload_n 0, 1, 0, 0, false) else none))))
   else
    (bif Nat.ble 34 pc then
     (bif Nat.ble 38 pc then (bif Nat.ble 39 pc then (bif Nat.beq pc 39 then some (.iastore, 1, 0, 0, false) else none) else (bif Nat.beq pc 38 then some (.iload_n 3, 1, 0, 0, false) else none)) else (bif Nat.ble 35 pc then (bif Nat.beq pc 35 then some (.getfield 24, 3, 0, 0, false) else none) else (bif Nat.beq pc 34 then some (.aload_n 0, 1, 0, 0, false) else none)))
    else
     (bif Nat.ble 30 pc then (bif Nat.ble 31 pc then (bif Nat.beq pc 31 then some (.getfield 18, 3, 0, 0, false) else none) else (bif Nat.beq pc 30 then some (.aload_n 0, 1, 0, 0, false) else none)) else (bif Nat.ble 29 pc then (bif Nat.beq pc 29 then some (.iastore, 1, 0, 0, false) else none) else (bif Nat.beq pc 28 then some (.iload_n 2, 1, 0, 0, false) else none)))))
  else
   (bif Nat.ble 14 pc then
    (bif Nat.ble 20 pc then
     (bif Nat.ble 24 pc then (bif Nat.ble 25 pc then (bif Nat.beq pc 25 then some (.getfield 24, 3, 0, 0, false) else none) else (bif Nat.beq pc 24 then some (.aload_n 0, 1, 0, 0, false) else none)) else (bif Nat.ble 21 pc then (bif Nat.beq pc 21 then some (.getfield 15, 3, 0, 0, false) else none) else (bif Nat.beq pc 20 then some (.aload_n 0, 1, 0, 0, false) else none)))
    else
     (bif Nat.ble 18 pc then (bif Nat.ble 19 pc then (bif Nat.beq pc 19 then some (.iastore, 1, 0, 0, false) else none) else (bif Nat.beq pc 18 then some (.iload_n 1, 1, 0, 0, false) else none)) else (bif Nat.ble 15 pc then (bif Nat.beq pc 15 then some (.getfield 24, 3, 0, 0, false) else none) else (bif Nat.beq pc 14 then some (.aload_n 0, 1, 0, 0, false) else none))))
   else
    (bif Nat.ble 6 pc then
     (bif Nat.ble 10 pc then (bif Nat.ble 11 pc then (bif Nat.beq pc 11 then some (.getfield 9, 3, 0, 0, false) else none) else (bif Nat.beq pc 10 then some (.aload_n 0, 1, 0, 0, false) else none)) else (bif Nat.ble 7 pc then (bif Nat.beq pc 7 then some (.putfield 24, 3, 0, 0, false) else none) else (bif Nat.beq pc 6 then some (.iadd, 1, 0, 0, false) else none)))
    else
     (bif Nat.ble 2 pc then (bif Nat.ble 5 pc then (bif Nat.beq pc 5 then some (.iconst 1, 1, 0, 1, false) else none) else (bif Nat.beq pc 2 then some (.getfield 24, 3, 0, 0, false) else none)) else (bif Nat.ble 1 pc then (bif Nat.beq pc 1 then some (.dup, 1, 0, 0, false) else none) else (bif Nat.beq pc 0 then some (.aload_n 0, 1, 0, 0, false) else none))))))
def qX3_placeFor (pc : Nat) : Option mIn :=
  (bif Nat.ble 22 pc then
   (bif Nat.ble 33 pc then
    (bif Nat.ble 39 pc then
     (bif Nat.ble 45 pc then (bif Nat.ble 46 pc then (bif Nat.beq pc 46 then some (.ireturn, 1, 0, 0, false) else none) else (bif Nat.beq pc 45 then some (.iload_n 2, 1, 0, 0, false) else none)) else (bif Nat.ble 42 pc then (bif Nat.beq pc 42 then some (.goto (-38), 3, 4, 0, false) else none) else (bif Nat.beq pc 39 then some (.iinc 3 1, 3, 0, 1, false) else none)))
    else
     (bif Nat.ble 37 pc then (bif Nat.ble 38 pc then (bif Nat.beq pc 38 then some (.istore_n 2, 1, 0, 0, false) else none) else (bif Nat.beq pc 37 then some (.iload_n 3, 1, 0, 0, false) else none)) else (bif Nat.ble 34 pc then (bif Nat.beq pc 34 then some (.if_icmp .lt 5, 3, 39, 0, false) else none) else (bif Nat.beq pc 33 then some (.iaload, 1, 0, 0, false) else none))))
   else
    (bif Nat.ble 27 pc then
     (bif Nat.ble 29 pc then (bif Nat.ble 32 pc then (bif Nat.beq pc 32 then some (.iload_n 2, 1, 0, 0, false) else none) else (bif Nat.beq pc 29 then some (.getfield 9, 3, 0, 0, false) else none)) else (bif Nat.ble 28 pc then (bif Nat.beq pc 28 then some (.aload_n 0, 1, 0, 0, false) else none) else (bif Nat.beq pc 27 then some (.iaload, 1, 0, 0, false) else none)))
    else
     (bif Nat.ble 23 pc then (bif Nat.ble 26 pc then (bif Nat.beq pc 26 then some (.iload_n 3, 1, 0, 0, false) else none) else (bif Nat.beq pc 23 then some (.getfield 9, 3, 0, 0, false) else none)) else (bif Nat.beq pc 22 then some (.aload_n 0, 1, 0, 0, false) else none))))
  else
   (bif Nat.ble 9 pc then
    (bif Nat.ble 16 pc then
     (bif Nat.ble 18 pc then (bif Nat.ble 19 pc then (bif Nat.beq pc 19 then some (.if_icmp .gt 20, 3, 39, 0, false) else none) else (bif Nat.beq pc 18 then some (.iload_n 1, 1, 0, 0, false) else none)) else (bif Nat.ble 17 pc then (bif Nat.beq pc 17 then some (.iaload, 1, 0, 0, false) else none) else (bif Nat.beq pc 16 then some (.iload_n 3, 1, 0, 0, false) else none)))
    else
     (bif Nat.ble 12 pc then (bif Nat.ble 13 pc then (bif Nat.beq pc 13 then some (.getfield 9, 3, 0, 0, false) else none) else (bif Nat.beq pc 12 then some (.aload_n 0, 1, 0, 0, false) else none)) else (bif Nat.beq pc 9 then some (.if_icmp .gt 36, 3, 45, 0, false) else none)))
   else
    (bif Nat.ble 3 pc then
     (bif Nat.ble 5 pc then (bif Nat.ble 6 pc then (bif Nat.beq pc 6 then some (.getfield 24, 3, 0, 0, false) else none) else (bif Nat.beq pc 5 then some (.aload_n 0, 1, 0, 0, false) else none)) else (bif Nat.ble 4 pc then (bif Nat.beq pc 4 then some (.iload_n 3, 1, 0, 0, true) else none) else (bif Nat.beq pc 3 then some (.istore_n 3, 1, 0, 0, false) else none)))
    else
     (bif Nat.ble 1 pc then (bif Nat.ble 2 pc then (bif Nat.beq pc 2 then some (.iconst 1, 1, 0, 1, false) else none) else (bif Nat.beq pc 1 then some (.istore_n 2, 1, 0, 0, false) else none)) else (bif Nat.beq pc 0 then some (.iconst 0, 1, 0, 0, false) else none)))))
def qX4_isDry (pc : Nat) : Option mIn :=
  (bif Nat.ble 7 pc then
   (bif Nat.ble 11 pc then
    (bif Nat.ble 14 pc then (bif Nat.ble 15 pc then (bif Nat.beq pc 15 then some (.ireturn, 1, 0, 0, false) else none) else (bif Nat.beq pc 14 then some (.iconst 0, 1, 0, 0, false) else none)) else (bif Nat.beq pc 11 then some (.goto 4, 3, 15, 0, false) else none))
   else
    (bif Nat.ble 10 pc then (bif Nat.beq pc 10 then some (.iconst 1, 1, 0, 1, false) else none) else (bif Nat.beq pc 7 then some (.if_icmp .lt 7, 3, 14, 0, false) else none)))
  else
   (bif Nat.ble 4 pc then
    (bif Nat.ble 5 pc then (bif Nat.ble 6 pc then (bif Nat.beq pc 6 then some (.iconst 2, 1, 0, 2, false) else none) else (bif Nat.beq pc 5 then some (.iaload, 1, 0, 0, false) else none)) else (bif Nat.beq pc 4 then some (.iload_n 1, 1, 0, 0, false) else none))
   else
    (bif Nat.ble 1 pc then (bif Nat.beq pc 1 then some (.getfield 15, 3, 0, 0, false) else none) else (bif Nat.beq pc 0 then some (.aload_n 0, 1, 0, 0, false) else none))))
def qX4_isNew (pc : Nat) : Option mIn :=
  (bif Nat.ble 14 pc then
   (bif Nat.ble 20 pc then
    (bif Nat.ble 24 pc then (bif Nat.ble 25 pc then (bif Nat.beq pc 25 then some (.ireturn, 1, 0, 0, false) else none) else (bif Nat.beq pc 24 then some (.iconst 0, 1, 0, 0, false) else none)) else (bif Nat.ble 21 pc then (bif Nat.beq pc 21 then some (.goto 4, 3, 25, 0, false) else none) else (bif Nat.beq pc 20 then some (.iconst 1, 1, 0, 1, false) else none)))
   else
    (bif Nat.ble 16 pc then (bif Nat.ble 17 pc then (bif Nat.beq pc 17 then some (.if_icmp .ne 7, 3, 24, 0, false) else none) else (bif Nat.beq pc 16 then some (.iconst 3, 1, 0, 3, false) else none)) else (bif Nat.ble 15 pc then (bif Nat.beq pc 15 then some (.iaload, 1, 0, 0, false) else none) else (bif Nat.beq pc 14 then some (.iload_n 1, 1, 0, 0, false) else none))))
  else
   (bif Nat.ble 6 pc then
    (bif Nat.ble 10 pc then (bif Nat.ble 11 pc then (bif Nat.beq pc 11 then some (.getfield 15, 3, 0, 0, false) else none) else (bif Nat.beq pc 10 then some (.aload_n 0, 1, 0, 0, false) else none)) else (bif Nat.ble 7 pc then (bif Nat.beq pc 7 then some (.if_icmp .eq 13, 3, 20, 0, false) else none) else (bif Nat.beq pc 6 then some (.iconst 2, 1, 0, 2, false) else none)))
   else
    (bif Nat.ble 4 pc then (bif Nat.ble 5 pc then (bif Nat.beq pc 5 then some (.iaload, 1, 0, 0, false) else none) else (bif Nat.beq pc 4 then some (.iload_n 1, 1, 0, 0, false) else none)) else (bif Nat.ble 1 pc then (bif Nat.beq pc 1 then some (.getfield 15, 3, 0, 0, false) else none) else (bif Nat.beq pc 0 then some (.aload_n 0, 1, 0, 0, false) else none)))))
def qX4_wasWater (pc : Nat) : Option mIn :=
  (bif Nat.ble 10 pc then
   (bif Nat.ble 17 pc then
    (bif Nat.ble 21 pc then (bif Nat.ble 22 pc then (bif Nat.beq pc 22 then some (.ireturn, 1, 0, 0, false) else none) else (bif Nat.beq pc 21 then some (.iconst 0, 1, 0, 0, false) else none)) else (bif Nat.ble 18 pc then (bif Nat.beq pc 18 then some (.goto 4, 3, 22, 0, false) else none) else (bif Nat.beq pc 17 then some (.iconst 1, 1, 0, 1, false) else none)))
   else
    (bif Nat.ble 11 pc then (bif Nat.ble 14 pc then (bif Nat.beq pc 14 then some (.ifCond .eq 7, 3, 21, 0, false) else none) else (bif Nat.beq pc 11 then some (.invokevirtual 22, 3, 0, 0, false) else none)) else (bif Nat.beq pc 10 then some (.iload_n 1, 1, 0, 0, false) else none)))
  else
   (bif Nat.ble 5 pc then
    (bif Nat.ble 6 pc then (bif Nat.ble 9 pc then (bif Nat.beq pc 9 then some (.aload_n 0, 1, 0, 0, false) else none) else (bif Nat.beq pc 6 then some (.ifCond .eq 11, 3, 17, 0, false) else none)) else (bif Nat.beq pc 5 then some (.iaload, 1, 0, 0, false) else none))
   else
    (bif Nat.ble 1 pc then (bif Nat.ble 4 pc then (bif Nat.beq pc 4 then some (.iload_n 1, 1, 0, 0, false) else none) else (bif Nat.beq pc 1 then some (.getfield 15, 3, 0, 0, false) else none)) else (bif Nat.beq pc 0 then some (.aload_n 0, 1, 0, 0, false) else none))))
def qX5_forgetFirst (pc : Nat) : Option mIn :=
  (bif Nat.ble 4 pc then
   (bif Nat.ble 5 pc then (bif Nat.ble 8 pc then (bif Nat.beq pc 8 then some (.return_, 1, 0, 0, false) else none) else (bif Nat.beq pc 5 then some (.invokestatic 37, 3, 0, 0, false) else none)) else (bif Nat.beq pc 4 then some (.iconst (-1), 1, 0, -1, false) else none))
  else
   (bif Nat.ble 1 pc then (bif Nat.beq pc 1 then some (.getfield 9, 3, 0, 0, false) else none) else (bif Nat.beq pc 0 then some (.aload_n 0, 1, 0, 0, false) else none)))
def qX5_setFirst (pc : Nat) : Option mIn :=
  (bif Nat.ble 23 pc then
   (bif Nat.ble 36 pc then
    (bif Nat.ble 43 pc then
     (bif Nat.ble 46 pc then (bif Nat.ble 49 pc then (bif Nat.beq pc 49 then some (.return_, 1, 0, 0, false) else none) else (bif Nat.beq pc 46 then some (.goto (-43), 3, 3, 0, false) else none)) else (bif Nat.beq pc 43 then some (.iinc 6 1, 3, 0, 1, false) else none))
    else
     (bif Nat.ble 37 pc then (bif Nat.ble 40 pc then (bif Nat.beq pc 40 then some (.goto (-27), 3, 13, 0, false) else none) else (bif Nat.beq pc 37 then some (.iinc 7 1, 3, 0, 1, false) else none)) else (bif Nat.beq pc 36 then some (.iastore, 1, 0, 0, false) else none)))
   else
    (bif Nat.ble 29 pc then
     (bif Nat.ble 31 pc then (bif Nat.ble 34 pc then (bif Nat.beq pc 34 then some (.iload 5, 2, 0, 0, false) else none) else (bif Nat.beq pc 31 then some (.invokevirtual 43, 3, 0, 0, false) else none)) else (bif Nat.beq pc 29 then some (.iload 6, 2, 0, 0, false) else none))
    else
     (bif Nat.ble 24 pc then (bif Nat.ble 27 pc then (bif Nat.beq pc 27 then some (.iload 7, 2, 0, 0, false) else none) else (bif Nat.beq pc 24 then some (.getfield 21, 3, 0, 0, false) else none)) else (bif Nat.beq pc 23 then some (.aload_n 0, 1, 0, 0, false) else none))))
  else
   (bif Nat.ble 11 pc then
    (bif Nat.ble 16 pc then
     (bif Nat.ble 19 pc then (bif Nat.ble 20 pc then (bif Nat.beq pc 20 then some (.getfield 9, 3, 0, 0, false) else none) else (bif Nat.beq pc 19 then some (.aload_n 0, 1, 0, 0, false) else none)) else (bif Nat.beq pc 16 then some (.if_icmp .gt 27, 3, 43, 0, false) else none))
    else
     (bif Nat.ble 13 pc then (bif Nat.ble 15 pc then (bif Nat.beq pc 15 then some (.iload_n 3, 1, 0, 0, false) else none) else (bif Nat.beq pc 13 then some (.iload 7, 2, 0, 0, true) else none)) else (bif Nat.beq pc 11 then some (.istore 7, 2, 0, 0, false) else none)))
   else
    (bif Nat.ble 5 pc then
     (bif Nat.ble 7 pc then (bif Nat.ble 10 pc then (bif Nat.beq pc 10 then some (.iload_n 1, 1, 0, 0, false) else none) else (bif Nat.beq pc 7 then some (.if_icmp .gt 42, 3, 49, 0, false) else none)) else (bif Nat.beq pc 5 then some (.iload 4, 2, 0, 0, false) else none))
    else
     (bif Nat.ble 1 pc then (bif Nat.ble 3 pc then (bif Nat.beq pc 3 then some (.iload 6, 2, 0, 0, true) else none) else (bif Nat.beq pc 1 then some (.istore 6, 2, 0, 0, false) else none)) else (bif Nat.beq pc 0 then some (.iload_n 2, 1, 0, 0, false) else none)))))
def qX5_runFromFirst (pc : Nat) : Option mIn :=
  (bif Nat.ble 21 pc then
   (bif Nat.ble 28 pc then
    (bif Nat.ble 33 pc then
     (bif Nat.ble 36 pc then (bif Nat.ble 37 pc then (bif Nat.beq pc 37 then some (.return_, 1, 0, 0, false) else none) else (bif Nat.beq pc 36 then some (.pop, 1, 0, 0, false) else none)) else (bif Nat.beq pc 33 then some (.invokevirtual 65, 3, 0, 0, false) else none))
    else
     (bif Nat.ble 31 pc then (bif Nat.ble 32 pc then (bif Nat.beq pc 32 then some (.iload_n 1, 1, 0, 0, false) else none) else (bif Nat.beq pc 31 then some (.aload_n 0, 1, 0, 0, false) else none)) else (bif Nat.beq pc 28 then some (.putfield 62, 3, 0, 0, false) else none)))
   else
    (bif Nat.ble 23 pc then
     (bif Nat.ble 26 pc then (bif Nat.ble 27 pc then (bif Nat.beq pc 27 then some (.iload_n 2, 1, 0, 0, false) else none) else (bif Nat.beq pc 26 then some (.aload_n 0, 1, 0, 0, false) else none)) else (bif Nat.beq pc 23 then some (.putfield 59, 3, 0, 0, false) else none))
    else
     (bif Nat.ble 22 pc then (bif Nat.beq pc 22 then some (.iconst 0, 1, 0, 0, false) else none) else (bif Nat.beq pc 21 then some (.aload_n 0, 1, 0, 0, false) else none))))
  else
   (bif Nat.ble 9 pc then
    (bif Nat.ble 16 pc then
     (bif Nat.ble 17 pc then (bif Nat.ble 18 pc then (bif Nat.beq pc 18 then some (.putfield 55, 3, 0, 0, false) else none) else (bif Nat.beq pc 17 then some (.iconst 0, 1, 0, 0, false) else none)) else (bif Nat.beq pc 16 then some (.aload_n 0, 1, 0, 0, false) else none))
    else
     (bif Nat.ble 10 pc then (bif Nat.ble 13 pc then (bif Nat.beq pc 13 then some (.invokestatic 49, 3, 0, 0, false) else none) else (bif Nat.beq pc 10 then some (.sipush 144, 3, 0, 144, false) else none)) else (bif Nat.beq pc 9 then some (.iconst 0, 1, 0, 0, false) else none)))
   else
    (bif Nat.ble 4 pc then
     (bif Nat.ble 5 pc then (bif Nat.ble 6 pc then (bif Nat.beq pc 6 then some (.getfield 15, 3, 0, 0, false) else none) else (bif Nat.beq pc 5 then some (.aload_n 0, 1, 0, 0, false) else none)) else (bif Nat.beq pc 4 then some (.iconst 0, 1, 0, 0, false) else none))
    else
     (bif Nat.ble 1 pc then (bif Nat.beq pc 1 then some (.getfield 9, 3, 0, 0, false) else none) else (bif Nat.beq pc 0 then some (.aload_n 0, 1, 0, 0, false) else none)))))
def qX5_runTo (pc : Nat) : Option mIn :=
  (bif Nat.ble 30 pc then
   (bif Nat.ble 44 pc then
    (bif Nat.ble 52 pc then
     (bif Nat.ble 58 pc then
      (bif Nat.ble 61 pc then (bif Nat.ble 62 pc then (bif Nat.beq pc 62 then some (.ireturn, 1, 0, 0, false) else none) else (bif Nat.beq pc 61 then some (.iload_n 2, 1, 0, 0, false) else none)) else (bif Nat.beq pc 58 then some (.goto (-54), 3, 4, 0, false) else none))
     else
      (bif Nat.ble 55 pc then (bif Nat.beq pc 55 then some (.iinc 3 1, 3, 0, 1, false) else none) else (bif Nat.beq pc 52 then some (.invokevirtual 84, 3, 0, 0, false) else none)))
    else
     (bif Nat.ble 48 pc then (bif Nat.ble 51 pc then (bif Nat.beq pc 51 then some (.aload_n 0, 1, 0, 0, false) else none) else (bif Nat.beq pc 48 then some (.goto 7, 3, 55, 0, false) else none)) else (bif Nat.ble 45 pc then (bif Nat.beq pc 45 then some (.invokevirtual 81, 3, 0, 0, false) else none) else (bif Nat.beq pc 44 then some (.aload_n 0, 1, 0, 0, false) else none))))
   else
    (bif Nat.ble 36 pc then
     (bif Nat.ble 39 pc then (bif Nat.ble 41 pc then (bif Nat.beq pc 41 then some (.if_icmp .gt 10, 3, 51, 0, false) else none) else (bif Nat.beq pc 39 then some (.iload 5, 2, 0, 0, false) else none)) else (bif Nat.ble 37 pc then (bif Nat.beq pc 37 then some (.iload 4, 2, 0, 0, false) else none) else (bif Nat.beq pc 36 then some (.istore_n 2, 1, 0, 0, false) else none)))
    else
     (bif Nat.ble 34 pc then (bif Nat.ble 35 pc then (bif Nat.beq pc 35 then some (.iconst 1, 1, 0, 1, false) else none) else (bif Nat.beq pc 34 then some (.ireturn, 1, 0, 0, false) else none)) else (bif Nat.ble 33 pc then (bif Nat.beq pc 33 then some (.iload_n 2, 1, 0, 0, false) else none) else (bif Nat.beq pc 30 then some (.if_icmp .le 5, 3, 35, 0, false) else none)))))
  else
   (bif Nat.ble 11 pc then
    (bif Nat.ble 20 pc then
     (bif Nat.ble 24 pc then
      (bif Nat.ble 26 pc then (bif Nat.ble 29 pc then (bif Nat.beq pc 29 then some (.iload_n 1, 1, 0, 0, false) else none) else (bif Nat.beq pc 26 then some (.invokestatic 76, 3, 0, 0, false) else none)) else (bif Nat.beq pc 24 then some (.iload 5, 2, 0, 0, false) else none))
     else
      (bif Nat.ble 22 pc then (bif Nat.beq pc 22 then some (.iload 4, 2, 0, 0, false) else none) else (bif Nat.beq pc 20 then some (.istore 5, 2, 0, 0, false) else none)))
    else
     (bif Nat.ble 16 pc then (bif Nat.ble 17 pc then (bif Nat.beq pc 17 then some (.invokevirtual 73, 3, 0, 0, false) else none) else (bif Nat.beq pc 16 then some (.aload_n 0, 1, 0, 0, false) else none)) else (bif Nat.ble 14 pc then (bif Nat.beq pc 14 then some (.istore 4, 2, 0, 0, false) else none) else (bif Nat.beq pc 11 then some (.invokevirtual 69, 3, 0, 0, false) else none))))
   else
    (bif Nat.ble 4 pc then
     (bif Nat.ble 7 pc then (bif Nat.ble 10 pc then (bif Nat.beq pc 10 then some (.aload_n 0, 1, 0, 0, false) else none) else (bif Nat.beq pc 7 then some (.if_icmp .ge 54, 3, 61, 0, false) else none)) else (bif Nat.ble 5 pc then (bif Nat.beq pc 5 then some (.bipush 40, 2, 0, 40, false) else none) else (bif Nat.beq pc 4 then some (.iload_n 3, 1, 0, 0, true) else none)))
    else
     (bif Nat.ble 2 pc then (bif Nat.ble 3 pc then (bif Nat.beq pc 3 then some (.istore_n 3, 1, 0, 0, false) else none) else (bif Nat.beq pc 2 then some (.iconst 0, 1, 0, 0, false) else none)) else (bif Nat.ble 1 pc then (bif Nat.beq pc 1 then some (.istore_n 2, 1, 0, 0, false) else none) else (bif Nat.beq pc 0 then some (.iconst 0, 1, 0, 0, false) else none))))))
def qX5_nextStepYear (pc : Nat) : Option mIn :=
  (bif Nat.ble 20 pc then
   (bif Nat.ble 29 pc then
    (bif Nat.ble 33 pc then
     (bif Nat.ble 36 pc then (bif Nat.ble 39 pc then (bif Nat.beq pc 39 then some (.ireturn, 1, 0, 0, false) else none) else (bif Nat.beq pc 36 then some (.sipush 201, 3, 0, 201, false) else none)) else (bif Nat.beq pc 33 then some (.goto 6, 3, 39, 0, false) else none))
    else
     (bif Nat.ble 30 pc then (bif Nat.beq pc 30 then some (.getfield 96, 3, 0, 0, false) else none) else (bif Nat.beq pc 29 then some (.aaload, 1, 0, 0, false) else none)))
   else
    (bif Nat.ble 24 pc then
     (bif Nat.ble 27 pc then (bif Nat.ble 28 pc then (bif Nat.beq pc 28 then some (.iadd, 1, 0, 0, false) else none) else (bif Nat.beq pc 27 then some (.iconst 1, 1, 0, 1, false) else none)) else (bif Nat.beq pc 24 then some (.getfield 55, 3, 0, 0, false) else none))
    else
     (bif Nat.ble 23 pc then (bif Nat.beq pc 23 then some (.aload_n 0, 1, 0, 0, false) else none) else (bif Nat.beq pc 20 then some (.getfield 92, 3, 0, 0, false) else none))))
  else
   (bif Nat.ble 7 pc then
    (bif Nat.ble 13 pc then
     (bif Nat.ble 16 pc then (bif Nat.ble 17 pc then (bif Nat.beq pc 17 then some (.getfield 25, 3, 0, 0, false) else none) else (bif Nat.beq pc 16 then some (.aload_n 0, 1, 0, 0, false) else none)) else (bif Nat.beq pc 13 then some (.if_icmp .ge 23, 3, 36, 0, false) else none))
    else
     (bif Nat.ble 10 pc then (bif Nat.beq pc 10 then some (.getfield 87, 3, 0, 0, false) else none) else (bif Nat.beq pc 7 then some (.getfield 25, 3, 0, 0, false) else none)))
   else
    (bif Nat.ble 4 pc then
     (bif Nat.ble 5 pc then (bif Nat.ble 6 pc then (bif Nat.beq pc 6 then some (.aload_n 0, 1, 0, 0, false) else none) else (bif Nat.beq pc 5 then some (.iadd, 1, 0, 0, false) else none)) else (bif Nat.beq pc 4 then some (.iconst 1, 1, 0, 1, false) else none))
    else
     (bif Nat.ble 1 pc then (bif Nat.beq pc 1 then some (.getfield 55, 3, 0, 0, false) else none) else (bif Nat.beq pc 0 then some (.aload_n 0, 1, 0, 0, false) else none)))))
def qX5_nextDeedYear (pc : Nat) : Option mIn :=
  (bif Nat.ble 21 pc then
   (bif Nat.ble 32 pc then
    (bif Nat.ble 34 pc then
     (bif Nat.ble 37 pc then (bif Nat.ble 40 pc then (bif Nat.beq pc 40 then some (.ireturn, 1, 0, 0, false) else none) else (bif Nat.beq pc 37 then some (.sipush 201, 3, 0, 201, false) else none)) else (bif Nat.beq pc 34 then some (.goto 6, 3, 40, 0, false) else none))
    else
     (bif Nat.ble 33 pc then (bif Nat.beq pc 33 then some (.iaload, 1, 0, 0, false) else none) else (bif Nat.beq pc 32 then some (.iaload, 1, 0, 0, false) else none)))
   else
    (bif Nat.ble 25 pc then
     (bif Nat.ble 28 pc then (bif Nat.ble 29 pc then (bif Nat.beq pc 29 then some (.getfield 59, 3, 0, 0, false) else none) else (bif Nat.beq pc 28 then some (.aload_n 0, 1, 0, 0, false) else none)) else (bif Nat.beq pc 25 then some (.getfield 109, 3, 0, 0, false) else none))
    else
     (bif Nat.ble 22 pc then (bif Nat.beq pc 22 then some (.getfield 29, 3, 0, 0, false) else none) else (bif Nat.beq pc 21 then some (.aload_n 0, 1, 0, 0, false) else none))))
  else
   (bif Nat.ble 8 pc then
    (bif Nat.ble 14 pc then
     (bif Nat.ble 15 pc then (bif Nat.ble 18 pc then (bif Nat.beq pc 18 then some (.getfield 106, 3, 0, 0, false) else none) else (bif Nat.beq pc 15 then some (.getfield 29, 3, 0, 0, false) else none)) else (bif Nat.beq pc 14 then some (.aload_n 0, 1, 0, 0, false) else none))
    else
     (bif Nat.ble 11 pc then (bif Nat.beq pc 11 then some (.if_icmp .ge 26, 3, 37, 0, false) else none) else (bif Nat.beq pc 8 then some (.getfield 101, 3, 0, 0, false) else none)))
   else
    (bif Nat.ble 4 pc then (bif Nat.ble 5 pc then (bif Nat.beq pc 5 then some (.getfield 29, 3, 0, 0, false) else none) else (bif Nat.beq pc 4 then some (.aload_n 0, 1, 0, 0, false) else none)) else (bif Nat.ble 1 pc then (bif Nat.beq pc 1 then some (.getfield 59, 3, 0, 0, false) else none) else (bif Nat.beq pc 0 then some (.aload_n 0, 1, 0, 0, false) else none)))))
def qX5_takeStep (pc : Nat) : Option mIn :=
  (bif Nat.ble 61 pc then
   (bif Nat.ble 91 pc then
    (bif Nat.ble 105 pc then
     (bif Nat.ble 113 pc then
      (bif Nat.ble 115 pc then (bif Nat.ble 118 pc then (bif Nat.beq pc 118 then some (.return_, 1, 0, 0, false) else none) else (bif Nat.beq pc 115 then some (.invokevirtual 130, 3, 0, 0, false) else none)) else (bif Nat.ble 114 pc then (bif Nat.beq pc 114 then some (.iaload, 1, 0, 0, false) else none) else (bif Nat.beq pc 113 then some (.iload_n 2, 1, 0, 0, false) else none)))
     else
      (bif Nat.ble 107 pc then (bif Nat.ble 110 pc then (bif Nat.beq pc 110 then some (.getfield 127, 3, 0, 0, false) else none) else (bif Nat.beq pc 107 then some (.getfield 33, 3, 0, 0, false) else none)) else (bif Nat.ble 106 pc then (bif Nat.beq pc 106 then some (.aload_n 0, 1, 0, 0, false) else none) else (bif Nat.beq pc 105 then some (.aload_n 1, 1, 0, 0, false) else none))))
    else
     (bif Nat.ble 98 pc then
      (bif Nat.ble 101 pc then (bif Nat.ble 104 pc then (bif Nat.beq pc 104 then some (.aload_n 0, 1, 0, 0, false) else none) else (bif Nat.beq pc 101 then some (.if_icmp .ne 17, 3, 118, 0, false) else none)) else (bif Nat.ble 100 pc then (bif Nat.beq pc 100 then some (.iconst 1, 1, 0, 1, false) else none) else (bif Nat.beq pc 98 then some (.iload 4, 2, 0, 0, false) else none)))
     else
      (bif Nat.ble 95 pc then (bif Nat.ble 96 pc then (bif Nat.beq pc 96 then some (.istore 4, 2, 0, 0, false) else none) else (bif Nat.beq pc 95 then some (.iaload, 1, 0, 0, false) else none)) else (bif Nat.ble 94 pc then (bif Nat.beq pc 94 then some (.iload_n 2, 1, 0, 0, false) else none) else (bif Nat.beq pc 91 then some (.getfield 124, 3, 0, 0, false) else none)))))
   else
    (bif Nat.ble 75 pc then
     (bif Nat.ble 83 pc then
      (bif Nat.ble 87 pc then (bif Nat.ble 88 pc then (bif Nat.beq pc 88 then some (.getfield 33, 3, 0, 0, false) else none) else (bif Nat.beq pc 87 then some (.aload_n 0, 1, 0, 0, false) else none)) else (bif Nat.ble 84 pc then (bif Nat.beq pc 84 then some (.goto 12, 3, 96, 0, false) else none) else (bif Nat.beq pc 83 then some (.iaload, 1, 0, 0, false) else none)))
     else
      (bif Nat.ble 79 pc then (bif Nat.ble 82 pc then (bif Nat.beq pc 82 then some (.iload_n 2, 1, 0, 0, false) else none) else (bif Nat.beq pc 79 then some (.getfield 121, 3, 0, 0, false) else none)) else (bif Nat.ble 76 pc then (bif Nat.beq pc 76 then some (.getfield 33, 3, 0, 0, false) else none) else (bif Nat.beq pc 75 then some (.aload_n 0, 1, 0, 0, false) else none))))
    else
     (bif Nat.ble 69 pc then
      (bif Nat.ble 71 pc then (bif Nat.ble 72 pc then (bif Nat.beq pc 72 then some (.ifCond .eq 15, 3, 87, 0, false) else none) else (bif Nat.beq pc 71 then some (.iload_n 3, 1, 0, 0, false) else none)) else (bif Nat.ble 70 pc then (bif Nat.beq pc 70 then some (.istore_n 3, 1, 0, 0, false) else none) else (bif Nat.beq pc 69 then some (.iconst 0, 1, 0, 0, false) else none)))
     else
      (bif Nat.ble 65 pc then (bif Nat.ble 66 pc then (bif Nat.beq pc 66 then some (.goto 4, 3, 70, 0, false) else none) else (bif Nat.beq pc 65 then some (.iconst 1, 1, 0, 1, false) else none)) else (bif Nat.ble 62 pc then (bif Nat.beq pc 62 then some (.if_icmp .eq 7, 3, 69, 0, false) else none) else (bif Nat.beq pc 61 then some (.iconst 0, 1, 0, 0, false) else none))))))
  else
   (bif Nat.ble 27 pc then
    (bif Nat.ble 43 pc then
     (bif Nat.ble 51 pc then
      (bif Nat.ble 57 pc then (bif Nat.ble 58 pc then (bif Nat.beq pc 58 then some (.goto 4, 3, 62, 0, false) else none) else (bif Nat.beq pc 57 then some (.iconst 1, 1, 0, 1, false) else none)) else (bif Nat.ble 54 pc then (bif Nat.beq pc 54 then some (.if_icmp .ne 7, 3, 61, 0, false) else none) else (bif Nat.beq pc 51 then some (.getfield 62, 3, 0, 0, false) else none)))
     else
      (bif Nat.ble 47 pc then (bif Nat.ble 50 pc then (bif Nat.beq pc 50 then some (.aload_n 0, 1, 0, 0, false) else none) else (bif Nat.beq pc 47 then some (.getfield 55, 3, 0, 0, false) else none)) else (bif Nat.ble 46 pc then (bif Nat.beq pc 46 then some (.aload_n 0, 1, 0, 0, false) else none) else (bif Nat.beq pc 43 then some (.invokevirtual 118, 3, 0, 0, false) else none))))
    else
     (bif Nat.ble 35 pc then
      (bif Nat.ble 39 pc then (bif Nat.ble 40 pc then (bif Nat.beq pc 40 then some (.getfield 55, 3, 0, 0, false) else none) else (bif Nat.beq pc 39 then some (.aload_n 0, 1, 0, 0, false) else none)) else (bif Nat.ble 36 pc then (bif Nat.beq pc 36 then some (.getfield 25, 3, 0, 0, false) else none) else (bif Nat.beq pc 35 then some (.aload_n 0, 1, 0, 0, false) else none)))
     else
      (bif Nat.ble 31 pc then (bif Nat.ble 34 pc then (bif Nat.beq pc 34 then some (.istore_n 2, 1, 0, 0, false) else none) else (bif Nat.beq pc 31 then some (.invokevirtual 112, 3, 0, 0, false) else none)) else (bif Nat.ble 28 pc then (bif Nat.beq pc 28 then some (.getfield 96, 3, 0, 0, false) else none) else (bif Nat.beq pc 27 then some (.aload_n 1, 1, 0, 0, false) else none)))))
   else
    (bif Nat.ble 11 pc then
     (bif Nat.ble 21 pc then
      (bif Nat.ble 23 pc then (bif Nat.ble 24 pc then (bif Nat.beq pc 24 then some (.getfield 33, 3, 0, 0, false) else none) else (bif Nat.beq pc 23 then some (.aload_n 0, 1, 0, 0, false) else none)) else (bif Nat.ble 22 pc then (bif Nat.beq pc 22 then some (.astore_n 1, 1, 0, 0, false) else none) else (bif Nat.beq pc 21 then some (.aaload, 1, 0, 0, false) else none)))
     else
      (bif Nat.ble 17 pc then (bif Nat.ble 18 pc then (bif Nat.beq pc 18 then some (.getfield 55, 3, 0, 0, false) else none) else (bif Nat.beq pc 17 then some (.aload_n 0, 1, 0, 0, false) else none)) else (bif Nat.ble 14 pc then (bif Nat.beq pc 14 then some (.getfield 92, 3, 0, 0, false) else none) else (bif Nat.beq pc 11 then some (.getfield 25, 3, 0, 0, false) else none))))
    else
     (bif Nat.ble 5 pc then
      (bif Nat.ble 7 pc then (bif Nat.ble 10 pc then (bif Nat.beq pc 10 then some (.aload_n 0, 1, 0, 0, false) else none) else (bif Nat.beq pc 7 then some (.putfield 55, 3, 0, 0, false) else none)) else (bif Nat.ble 6 pc then (bif Nat.beq pc 6 then some (.iadd, 1, 0, 0, false) else none) else (bif Nat.beq pc 5 then some (.iconst 1, 1, 0, 1, false) else none)))
     else
      (bif Nat.ble 1 pc then (bif Nat.ble 2 pc then (bif Nat.beq pc 2 then some (.getfield 55, 3, 0, 0, false) else none) else (bif Nat.beq pc 1 then some (.dup, 1, 0, 0, false) else none)) else (bif Nat.beq pc 0 then some (.aload_n 0, 1, 0, 0, false) else none))))))
def qX5_shiftOwners (pc : Nat) : Option mIn :=
  (bif Nat.ble 50 pc then
   (bif Nat.ble 76 pc then
    (bif Nat.ble 88 pc then
     (bif Nat.ble 94 pc then
      (bif Nat.ble 98 pc then (bif Nat.ble 101 pc then (bif Nat.beq pc 101 then some (.return_, 1, 0, 0, false) else none) else (bif Nat.beq pc 98 then some (.goto (-96), 3, 2, 0, false) else none)) else (bif Nat.ble 95 pc then (bif Nat.beq pc 95 then some (.iinc 3 1, 3, 0, 1, false) else none) else (bif Nat.beq pc 94 then some (.iastore, 1, 0, 0, false) else none)))
     else
      (bif Nat.ble 91 pc then (bif Nat.ble 93 pc then (bif Nat.beq pc 93 then some (.iaload, 1, 0, 0, false) else none) else (bif Nat.beq pc 91 then some (.iload 5, 2, 0, 0, false) else none)) else (bif Nat.beq pc 88 then some (.getfield 15, 3, 0, 0, false) else none)))
    else
     (bif Nat.ble 80 pc then
      (bif Nat.ble 84 pc then (bif Nat.ble 87 pc then (bif Nat.beq pc 87 then some (.aload_n 0, 1, 0, 0, false) else none) else (bif Nat.beq pc 84 then some (.goto 10, 3, 94, 0, false) else none)) else (bif Nat.ble 83 pc then (bif Nat.beq pc 83 then some (.iconst (-1), 1, 0, -1, false) else none) else (bif Nat.beq pc 80 then some (.if_icmp .ne 7, 3, 87, 0, false) else none)))
     else
      (bif Nat.ble 77 pc then (bif Nat.ble 79 pc then (bif Nat.beq pc 79 then some (.iconst (-1), 1, 0, -1, false) else none) else (bif Nat.beq pc 77 then some (.iload 5, 2, 0, 0, false) else none)) else (bif Nat.beq pc 76 then some (.iload_n 3, 1, 0, 0, false) else none))))
   else
    (bif Nat.ble 64 pc then
     (bif Nat.ble 69 pc then
      (bif Nat.ble 72 pc then (bif Nat.ble 73 pc then (bif Nat.beq pc 73 then some (.getfield 15, 3, 0, 0, false) else none) else (bif Nat.beq pc 72 then some (.aload_n 0, 1, 0, 0, false) else none)) else (bif Nat.ble 70 pc then (bif Nat.beq pc 70 then some (.istore 5, 2, 0, 0, false) else none) else (bif Nat.beq pc 69 then some (.iaload, 1, 0, 0, false) else none)))
     else
      (bif Nat.ble 65 pc then (bif Nat.ble 68 pc then (bif Nat.beq pc 68 then some (.iload_n 3, 1, 0, 0, false) else none) else (bif Nat.beq pc 65 then some (.getfield 140, 3, 0, 0, false) else none)) else (bif Nat.beq pc 64 then some (.aload_n 1, 1, 0, 0, false) else none)))
    else
     (bif Nat.ble 56 pc then
      (bif Nat.ble 60 pc then (bif Nat.ble 61 pc then (bif Nat.beq pc 61 then some (.ifCond .ne 34, 3, 95, 0, false) else none) else (bif Nat.beq pc 60 then some (.iload_n 2, 1, 0, 0, false) else none)) else (bif Nat.ble 57 pc then (bif Nat.beq pc 57 then some (.if_icmp .ne 38, 3, 95, 0, false) else none) else (bif Nat.beq pc 56 then some (.iconst 3, 1, 0, 3, false) else none)))
     else
      (bif Nat.ble 51 pc then (bif Nat.ble 54 pc then (bif Nat.beq pc 54 then some (.iload 4, 2, 0, 0, false) else none) else (bif Nat.beq pc 51 then some (.if_icmp .eq 13, 3, 64, 0, false) else none)) else (bif Nat.beq pc 50 then some (.iconst 2, 1, 0, 2, false) else none)))))
  else
   (bif Nat.ble 24 pc then
    (bif Nat.ble 38 pc then
     (bif Nat.ble 43 pc then
      (bif Nat.ble 45 pc then (bif Nat.ble 48 pc then (bif Nat.beq pc 48 then some (.iload 4, 2, 0, 0, false) else none) else (bif Nat.beq pc 45 then some (.goto 50, 3, 95, 0, false) else none)) else (bif Nat.ble 44 pc then (bif Nat.beq pc 44 then some (.iastore, 1, 0, 0, false) else none) else (bif Nat.beq pc 43 then some (.iconst (-1), 1, 0, -1, false) else none)))
     else
      (bif Nat.ble 39 pc then (bif Nat.ble 42 pc then (bif Nat.beq pc 42 then some (.iload_n 3, 1, 0, 0, false) else none) else (bif Nat.beq pc 39 then some (.getfield 15, 3, 0, 0, false) else none)) else (bif Nat.beq pc 38 then some (.aload_n 0, 1, 0, 0, false) else none)))
    else
     (bif Nat.ble 30 pc then
      (bif Nat.ble 34 pc then (bif Nat.ble 35 pc then (bif Nat.beq pc 35 then some (.if_icmp .ne 13, 3, 48, 0, false) else none) else (bif Nat.beq pc 34 then some (.iconst 1, 1, 0, 1, false) else none)) else (bif Nat.ble 33 pc then (bif Nat.beq pc 33 then some (.iload_n 2, 1, 0, 0, false) else none) else (bif Nat.beq pc 30 then some (.if_icmp .ne 18, 3, 48, 0, false) else none)))
     else
      (bif Nat.ble 27 pc then (bif Nat.ble 29 pc then (bif Nat.beq pc 29 then some (.iconst 3, 1, 0, 3, false) else none) else (bif Nat.beq pc 27 then some (.iload 4, 2, 0, 0, false) else none)) else (bif Nat.beq pc 24 then some (.if_icmp .eq 14, 3, 38, 0, false) else none))))
   else
    (bif Nat.ble 13 pc then
     (bif Nat.ble 18 pc then
      (bif Nat.ble 21 pc then (bif Nat.ble 23 pc then (bif Nat.beq pc 23 then some (.iconst 1, 1, 0, 1, false) else none) else (bif Nat.beq pc 21 then some (.iload 4, 2, 0, 0, false) else none)) else (bif Nat.ble 19 pc then (bif Nat.beq pc 19 then some (.istore 4, 2, 0, 0, false) else none) else (bif Nat.beq pc 18 then some (.iaload, 1, 0, 0, false) else none)))
     else
      (bif Nat.ble 14 pc then (bif Nat.ble 17 pc then (bif Nat.beq pc 17 then some (.iload_n 3, 1, 0, 0, false) else none) else (bif Nat.beq pc 14 then some (.getfield 137, 3, 0, 0, false) else none)) else (bif Nat.beq pc 13 then some (.aload_n 1, 1, 0, 0, false) else none)))
    else
     (bif Nat.ble 3 pc then
      (bif Nat.ble 7 pc then (bif Nat.ble 10 pc then (bif Nat.beq pc 10 then some (.if_icmp .ge 91, 3, 101, 0, false) else none) else (bif Nat.beq pc 7 then some (.getfield 134, 3, 0, 0, false) else none)) else (bif Nat.ble 4 pc then (bif Nat.beq pc 4 then some (.getfield 21, 3, 0, 0, false) else none) else (bif Nat.beq pc 3 then some (.aload_n 0, 1, 0, 0, false) else none)))
     else
      (bif Nat.ble 1 pc then (bif Nat.ble 2 pc then (bif Nat.beq pc 2 then some (.iload_n 3, 1, 0, 0, true) else none) else (bif Nat.beq pc 1 then some (.istore_n 3, 1, 0, 0, false) else none)) else (bif Nat.beq pc 0 then some (.iconst 0, 1, 0, 0, false) else none))))))
def qX5_takeDeed (pc : Nat) : Option mIn :=
  (bif Nat.ble 73 pc then
   (bif Nat.ble 115 pc then
    (bif Nat.ble 135 pc then
     (bif Nat.ble 144 pc then
      (bif Nat.ble 151 pc then
       (bif Nat.ble 154 pc then (bif Nat.ble 157 pc then (bif Nat.beq pc 157 then some (.return_, 1, 0, 0, false) else none) else (bif Nat.beq pc 154 then some (.goto (-95), 3, 59, 0, false) else none)) else (bif Nat.beq pc 151 then some (.iinc 3 1, 3, 0, 1, false) else none))
      else
       (bif Nat.ble 145 pc then (bif Nat.ble 148 pc then (bif Nat.beq pc 148 then some (.goto (-65), 3, 83, 0, false) else none) else (bif Nat.beq pc 145 then some (.iinc 4 1, 3, 0, 1, false) else none)) else (bif Nat.beq pc 144 then some (.iastore, 1, 0, 0, false) else none)))
     else
      (bif Nat.ble 139 pc then
       (bif Nat.ble 142 pc then (bif Nat.ble 143 pc then (bif Nat.beq pc 143 then some (.iaload, 1, 0, 0, false) else none) else (bif Nat.beq pc 142 then some (.iload_n 1, 1, 0, 0, false) else none)) else (bif Nat.beq pc 139 then some (.getfield 162, 3, 0, 0, false) else none))
      else
       (bif Nat.ble 136 pc then (bif Nat.beq pc 136 then some (.getfield 29, 3, 0, 0, false) else none) else (bif Nat.beq pc 135 then some (.aload_n 0, 1, 0, 0, false) else none))))
    else
     (bif Nat.ble 125 pc then
      (bif Nat.ble 129 pc then
       (bif Nat.ble 130 pc then (bif Nat.ble 133 pc then (bif Nat.beq pc 133 then some (.iload 5, 2, 0, 0, false) else none) else (bif Nat.beq pc 130 then some (.getfield 15, 3, 0, 0, false) else none)) else (bif Nat.beq pc 129 then some (.aload_n 0, 1, 0, 0, false) else none))
      else
       (bif Nat.ble 126 pc then (bif Nat.beq pc 126 then some (.if_icmp .eq 19, 3, 145, 0, false) else none) else (bif Nat.beq pc 125 then some (.iconst (-1), 1, 0, -1, false) else none)))
     else
      (bif Nat.ble 119 pc then
       (bif Nat.ble 122 pc then (bif Nat.ble 124 pc then (bif Nat.beq pc 124 then some (.iaload, 1, 0, 0, false) else none) else (bif Nat.beq pc 122 then some (.iload 5, 2, 0, 0, false) else none)) else (bif Nat.beq pc 119 then some (.getfield 15, 3, 0, 0, false) else none))
      else
       (bif Nat.ble 118 pc then (bif Nat.beq pc 118 then some (.aload_n 0, 1, 0, 0, false) else none) else (bif Nat.beq pc 115 then some (.ifCond .eq 30, 3, 145, 0, false) else none)))))
   else
    (bif Nat.ble 93 pc then
     (bif Nat.ble 103 pc then
      (bif Nat.ble 109 pc then
       (bif Nat.ble 110 pc then (bif Nat.ble 112 pc then (bif Nat.beq pc 112 then some (.invokevirtual 159, 3, 0, 0, false) else none) else (bif Nat.beq pc 110 then some (.iload 5, 2, 0, 0, false) else none)) else (bif Nat.beq pc 109 then some (.aload_n 2, 1, 0, 0, false) else none))
      else
       (bif Nat.ble 104 pc then (bif Nat.ble 107 pc then (bif Nat.beq pc 107 then some (.istore 5, 2, 0, 0, false) else none) else (bif Nat.beq pc 104 then some (.invokevirtual 43, 3, 0, 0, false) else none)) else (bif Nat.beq pc 103 then some (.iload_n 3, 1, 0, 0, false) else none)))
     else
      (bif Nat.ble 97 pc then
       (bif Nat.ble 98 pc then (bif Nat.ble 101 pc then (bif Nat.beq pc 101 then some (.iload 4, 2, 0, 0, false) else none) else (bif Nat.beq pc 98 then some (.getfield 21, 3, 0, 0, false) else none)) else (bif Nat.beq pc 97 then some (.aload_n 0, 1, 0, 0, false) else none))
      else
       (bif Nat.ble 94 pc then (bif Nat.beq pc 94 then some (.if_icmp .gt 57, 3, 151, 0, false) else none) else (bif Nat.beq pc 93 then some (.iaload, 1, 0, 0, false) else none))))
    else
     (bif Nat.ble 83 pc then
      (bif Nat.ble 86 pc then
       (bif Nat.ble 89 pc then (bif Nat.ble 92 pc then (bif Nat.beq pc 92 then some (.iload_n 1, 1, 0, 0, false) else none) else (bif Nat.beq pc 89 then some (.getfield 156, 3, 0, 0, false) else none)) else (bif Nat.beq pc 86 then some (.getfield 29, 3, 0, 0, false) else none))
      else
       (bif Nat.ble 85 pc then (bif Nat.beq pc 85 then some (.aload_n 0, 1, 0, 0, false) else none) else (bif Nat.beq pc 83 then some (.iload 4, 2, 0, 0, true) else none)))
     else
      (bif Nat.ble 79 pc then
       (bif Nat.ble 80 pc then (bif Nat.ble 81 pc then (bif Nat.beq pc 81 then some (.istore 4, 2, 0, 0, false) else none) else (bif Nat.beq pc 80 then some (.iaload, 1, 0, 0, false) else none)) else (bif Nat.beq pc 79 then some (.iload_n 1, 1, 0, 0, false) else none))
      else
       (bif Nat.ble 76 pc then (bif Nat.beq pc 76 then some (.getfield 153, 3, 0, 0, false) else none) else (bif Nat.beq pc 73 then some (.getfield 29, 3, 0, 0, false) else none))))))
  else
   (bif Nat.ble 36 pc then
    (bif Nat.ble 56 pc then
     (bif Nat.ble 61 pc then
      (bif Nat.ble 68 pc then
       (bif Nat.ble 69 pc then (bif Nat.ble 72 pc then (bif Nat.beq pc 72 then some (.aload_n 0, 1, 0, 0, false) else none) else (bif Nat.beq pc 69 then some (.if_icmp .gt 88, 3, 157, 0, false) else none)) else (bif Nat.beq pc 68 then some (.iaload, 1, 0, 0, false) else none))
      else
       (bif Nat.ble 64 pc then (bif Nat.ble 67 pc then (bif Nat.beq pc 67 then some (.iload_n 1, 1, 0, 0, false) else none) else (bif Nat.beq pc 64 then some (.getfield 150, 3, 0, 0, false) else none)) else (bif Nat.beq pc 61 then some (.getfield 29, 3, 0, 0, false) else none)))
     else
      (bif Nat.ble 58 pc then
       (bif Nat.ble 59 pc then (bif Nat.ble 60 pc then (bif Nat.beq pc 60 then some (.aload_n 0, 1, 0, 0, false) else none) else (bif Nat.beq pc 59 then some (.iload_n 3, 1, 0, 0, true) else none)) else (bif Nat.beq pc 58 then some (.istore_n 3, 1, 0, 0, false) else none))
      else
       (bif Nat.ble 57 pc then (bif Nat.beq pc 57 then some (.iaload, 1, 0, 0, false) else none) else (bif Nat.beq pc 56 then some (.iload_n 1, 1, 0, 0, false) else none))))
    else
     (bif Nat.ble 47 pc then
      (bif Nat.ble 49 pc then
       (bif Nat.ble 50 pc then (bif Nat.ble 53 pc then (bif Nat.beq pc 53 then some (.getfield 147, 3, 0, 0, false) else none) else (bif Nat.beq pc 50 then some (.getfield 29, 3, 0, 0, false) else none)) else (bif Nat.beq pc 49 then some (.aload_n 0, 1, 0, 0, false) else none))
      else
       (bif Nat.ble 48 pc then (bif Nat.beq pc 48 then some (.astore_n 2, 1, 0, 0, false) else none) else (bif Nat.beq pc 47 then some (.aaload, 1, 0, 0, false) else none)))
     else
      (bif Nat.ble 40 pc then
       (bif Nat.ble 43 pc then (bif Nat.ble 44 pc then (bif Nat.beq pc 44 then some (.getfield 55, 3, 0, 0, false) else none) else (bif Nat.beq pc 43 then some (.aload_n 0, 1, 0, 0, false) else none)) else (bif Nat.beq pc 40 then some (.getfield 92, 3, 0, 0, false) else none))
      else
       (bif Nat.ble 37 pc then (bif Nat.beq pc 37 then some (.getfield 25, 3, 0, 0, false) else none) else (bif Nat.beq pc 36 then some (.aload_n 0, 1, 0, 0, false) else none)))))
   else
    (bif Nat.ble 18 pc then
     (bif Nat.ble 27 pc then
      (bif Nat.ble 31 pc then
       (bif Nat.ble 32 pc then (bif Nat.ble 35 pc then (bif Nat.beq pc 35 then some (.return_, 1, 0, 0, false) else none) else (bif Nat.beq pc 32 then some (.ifCond .eq 4, 3, 36, 0, false) else none)) else (bif Nat.beq pc 31 then some (.baload, 1, 0, 0, false) else none))
      else
       (bif Nat.ble 30 pc then (bif Nat.beq pc 30 then some (.iload_n 1, 1, 0, 0, false) else none) else (bif Nat.beq pc 27 then some (.getfield 143, 3, 0, 0, false) else none)))
     else
      (bif Nat.ble 20 pc then
       (bif Nat.ble 23 pc then (bif Nat.ble 24 pc then (bif Nat.beq pc 24 then some (.getfield 29, 3, 0, 0, false) else none) else (bif Nat.beq pc 23 then some (.aload_n 0, 1, 0, 0, false) else none)) else (bif Nat.beq pc 20 then some (.putfield 59, 3, 0, 0, false) else none))
      else
       (bif Nat.ble 19 pc then (bif Nat.beq pc 19 then some (.iadd, 1, 0, 0, false) else none) else (bif Nat.beq pc 18 then some (.iconst 1, 1, 0, 1, false) else none))))
    else
     (bif Nat.ble 11 pc then
      (bif Nat.ble 13 pc then
       (bif Nat.ble 14 pc then (bif Nat.ble 15 pc then (bif Nat.beq pc 15 then some (.getfield 59, 3, 0, 0, false) else none) else (bif Nat.beq pc 14 then some (.dup, 1, 0, 0, false) else none)) else (bif Nat.beq pc 13 then some (.aload_n 0, 1, 0, 0, false) else none))
      else
       (bif Nat.ble 12 pc then (bif Nat.beq pc 12 then some (.istore_n 1, 1, 0, 0, false) else none) else (bif Nat.beq pc 11 then some (.iaload, 1, 0, 0, false) else none)))
     else
      (bif Nat.ble 4 pc then
       (bif Nat.ble 7 pc then (bif Nat.ble 8 pc then (bif Nat.beq pc 8 then some (.getfield 59, 3, 0, 0, false) else none) else (bif Nat.beq pc 7 then some (.aload_n 0, 1, 0, 0, false) else none)) else (bif Nat.beq pc 4 then some (.getfield 109, 3, 0, 0, false) else none))
      else
       (bif Nat.ble 1 pc then (bif Nat.beq pc 1 then some (.getfield 29, 3, 0, 0, false) else none) else (bif Nat.beq pc 0 then some (.aload_n 0, 1, 0, 0, false) else none)))))))
def qX5_dryOf (pc : Nat) : Option mIn :=
  (bif Nat.ble 27 pc then
   (bif Nat.ble 45 pc then
    (bif Nat.ble 53 pc then
     (bif Nat.ble 59 pc then (bif Nat.ble 60 pc then (bif Nat.beq pc 60 then some (.ireturn, 1, 0, 0, false) else none) else (bif Nat.beq pc 59 then some (.iload_n 3, 1, 0, 0, false) else none)) else (bif Nat.ble 56 pc then (bif Nat.beq pc 56 then some (.goto (-38), 3, 18, 0, false) else none) else (bif Nat.beq pc 53 then some (.iinc 4 1, 3, 0, 1, false) else none)))
    else
     (bif Nat.ble 47 pc then (bif Nat.ble 50 pc then (bif Nat.beq pc 50 then some (.iinc 3 1, 3, 0, 1, false) else none) else (bif Nat.beq pc 47 then some (.if_icmp .ne 6, 3, 53, 0, false) else none)) else (bif Nat.ble 46 pc then (bif Nat.beq pc 46 then some (.iload_n 1, 1, 0, 0, false) else none) else (bif Nat.beq pc 45 then some (.iaload, 1, 0, 0, false) else none))))
   else
    (bif Nat.ble 36 pc then
     (bif Nat.ble 40 pc then (bif Nat.ble 43 pc then (bif Nat.beq pc 43 then some (.iload 4, 2, 0, 0, false) else none) else (bif Nat.beq pc 40 then some (.getfield 15, 3, 0, 0, false) else none)) else (bif Nat.ble 39 pc then (bif Nat.beq pc 39 then some (.aload_n 0, 1, 0, 0, false) else none) else (bif Nat.beq pc 36 then some (.ifCond .eq 17, 3, 53, 0, false) else none)))
    else
     (bif Nat.ble 31 pc then (bif Nat.ble 33 pc then (bif Nat.beq pc 33 then some (.invokevirtual 159, 3, 0, 0, false) else none) else (bif Nat.beq pc 31 then some (.iload 4, 2, 0, 0, false) else none)) else (bif Nat.ble 30 pc then (bif Nat.beq pc 30 then some (.aload_n 2, 1, 0, 0, false) else none) else (bif Nat.beq pc 27 then some (.if_icmp .ge 32, 3, 59, 0, false) else none)))))
  else
   (bif Nat.ble 13 pc then
    (bif Nat.ble 18 pc then
     (bif Nat.ble 21 pc then (bif Nat.ble 24 pc then (bif Nat.beq pc 24 then some (.getfield 134, 3, 0, 0, false) else none) else (bif Nat.beq pc 21 then some (.getfield 21, 3, 0, 0, false) else none)) else (bif Nat.ble 20 pc then (bif Nat.beq pc 20 then some (.aload_n 0, 1, 0, 0, false) else none) else (bif Nat.beq pc 18 then some (.iload 4, 2, 0, 0, true) else none)))
    else
     (bif Nat.ble 15 pc then (bif Nat.ble 16 pc then (bif Nat.beq pc 16 then some (.istore 4, 2, 0, 0, false) else none) else (bif Nat.beq pc 15 then some (.iconst 0, 1, 0, 0, false) else none)) else (bif Nat.ble 14 pc then (bif Nat.beq pc 14 then some (.istore_n 3, 1, 0, 0, false) else none) else (bif Nat.beq pc 13 then some (.iconst 0, 1, 0, 0, false) else none))))
   else
    (bif Nat.ble 7 pc then
     (bif Nat.ble 11 pc then (bif Nat.ble 12 pc then (bif Nat.beq pc 12 then some (.astore_n 2, 1, 0, 0, false) else none) else (bif Nat.beq pc 11 then some (.aaload, 1, 0, 0, false) else none)) else (bif Nat.ble 8 pc then (bif Nat.beq pc 8 then some (.getfield 55, 3, 0, 0, false) else none) else (bif Nat.beq pc 7 then some (.aload_n 0, 1, 0, 0, false) else none)))
    else
     (bif Nat.ble 1 pc then (bif Nat.ble 4 pc then (bif Nat.beq pc 4 then some (.getfield 92, 3, 0, 0, false) else none) else (bif Nat.beq pc 1 then some (.getfield 25, 3, 0, 0, false) else none)) else (bif Nat.beq pc 0 then some (.aload_n 0, 1, 0, 0, false) else none)))))
def qX5_dryByWaterOf (pc : Nat) : Option mIn :=
  (bif Nat.ble 33 pc then
   (bif Nat.ble 51 pc then
    (bif Nat.ble 60 pc then
     (bif Nat.ble 66 pc then
      (bif Nat.ble 69 pc then (bif Nat.ble 70 pc then (bif Nat.beq pc 70 then some (.ireturn, 1, 0, 0, false) else none) else (bif Nat.beq pc 69 then some (.iload_n 3, 1, 0, 0, false) else none)) else (bif Nat.beq pc 66 then some (.goto (-48), 3, 18, 0, false) else none))
     else
      (bif Nat.ble 63 pc then (bif Nat.beq pc 63 then some (.iinc 4 1, 3, 0, 1, false) else none) else (bif Nat.beq pc 60 then some (.iinc 3 1, 3, 0, 1, false) else none)))
    else
     (bif Nat.ble 54 pc then (bif Nat.ble 57 pc then (bif Nat.beq pc 57 then some (.ifCond .eq 6, 3, 63, 0, false) else none) else (bif Nat.beq pc 54 then some (.invokevirtual 165, 3, 0, 0, false) else none)) else (bif Nat.ble 52 pc then (bif Nat.beq pc 52 then some (.iload 4, 2, 0, 0, false) else none) else (bif Nat.beq pc 51 then some (.aload_n 2, 1, 0, 0, false) else none))))
   else
    (bif Nat.ble 43 pc then
     (bif Nat.ble 46 pc then
      (bif Nat.ble 47 pc then (bif Nat.ble 50 pc then (bif Nat.beq pc 50 then some (.aload_n 0, 1, 0, 0, false) else none) else (bif Nat.beq pc 47 then some (.if_icmp .ne 16, 3, 63, 0, false) else none)) else (bif Nat.beq pc 46 then some (.iload_n 1, 1, 0, 0, false) else none))
     else
      (bif Nat.ble 45 pc then (bif Nat.beq pc 45 then some (.iaload, 1, 0, 0, false) else none) else (bif Nat.beq pc 43 then some (.iload 4, 2, 0, 0, false) else none)))
    else
     (bif Nat.ble 39 pc then (bif Nat.ble 40 pc then (bif Nat.beq pc 40 then some (.getfield 15, 3, 0, 0, false) else none) else (bif Nat.beq pc 39 then some (.aload_n 0, 1, 0, 0, false) else none)) else (bif Nat.ble 36 pc then (bif Nat.beq pc 36 then some (.ifCond .eq 27, 3, 63, 0, false) else none) else (bif Nat.beq pc 33 then some (.invokevirtual 159, 3, 0, 0, false) else none)))))
  else
   (bif Nat.ble 15 pc then
    (bif Nat.ble 21 pc then
     (bif Nat.ble 27 pc then
      (bif Nat.ble 30 pc then (bif Nat.ble 31 pc then (bif Nat.beq pc 31 then some (.iload 4, 2, 0, 0, false) else none) else (bif Nat.beq pc 30 then some (.aload_n 2, 1, 0, 0, false) else none)) else (bif Nat.beq pc 27 then some (.if_icmp .ge 42, 3, 69, 0, false) else none))
     else
      (bif Nat.ble 24 pc then (bif Nat.beq pc 24 then some (.getfield 134, 3, 0, 0, false) else none) else (bif Nat.beq pc 21 then some (.getfield 21, 3, 0, 0, false) else none)))
    else
     (bif Nat.ble 18 pc then (bif Nat.ble 20 pc then (bif Nat.beq pc 20 then some (.aload_n 0, 1, 0, 0, false) else none) else (bif Nat.beq pc 18 then some (.iload 4, 2, 0, 0, true) else none)) else (bif Nat.ble 16 pc then (bif Nat.beq pc 16 then some (.istore 4, 2, 0, 0, false) else none) else (bif Nat.beq pc 15 then some (.iconst 0, 1, 0, 0, false) else none))))
   else
    (bif Nat.ble 8 pc then
     (bif Nat.ble 12 pc then
      (bif Nat.ble 13 pc then (bif Nat.ble 14 pc then (bif Nat.beq pc 14 then some (.istore_n 3, 1, 0, 0, false) else none) else (bif Nat.beq pc 13 then some (.iconst 0, 1, 0, 0, false) else none)) else (bif Nat.beq pc 12 then some (.astore_n 2, 1, 0, 0, false) else none))
     else
      (bif Nat.ble 11 pc then (bif Nat.beq pc 11 then some (.aaload, 1, 0, 0, false) else none) else (bif Nat.beq pc 8 then some (.getfield 55, 3, 0, 0, false) else none)))
    else
     (bif Nat.ble 4 pc then (bif Nat.ble 7 pc then (bif Nat.beq pc 7 then some (.aload_n 0, 1, 0, 0, false) else none) else (bif Nat.beq pc 4 then some (.getfield 92, 3, 0, 0, false) else none)) else (bif Nat.ble 1 pc then (bif Nat.beq pc 1 then some (.getfield 25, 3, 0, 0, false) else none) else (bif Nat.beq pc 0 then some (.aload_n 0, 1, 0, 0, false) else none))))))
def qX5_isByWater (pc : Nat) : Option mIn :=
  (bif Nat.ble 20 pc then
   (bif Nat.ble 33 pc then
    (bif Nat.ble 38 pc then
     (bif Nat.ble 41 pc then (bif Nat.ble 42 pc then (bif Nat.beq pc 42 then some (.ireturn, 1, 0, 0, false) else none) else (bif Nat.beq pc 41 then some (.iconst 0, 1, 0, 0, false) else none)) else (bif Nat.beq pc 38 then some (.goto (-36), 3, 2, 0, false) else none))
    else
     (bif Nat.ble 34 pc then (bif Nat.ble 35 pc then (bif Nat.beq pc 35 then some (.iinc 3 1, 3, 0, 1, false) else none) else (bif Nat.beq pc 34 then some (.ireturn, 1, 0, 0, false) else none)) else (bif Nat.beq pc 33 then some (.iconst 1, 1, 0, 1, false) else none)))
   else
    (bif Nat.ble 25 pc then
     (bif Nat.ble 27 pc then (bif Nat.ble 30 pc then (bif Nat.beq pc 30 then some (.ifCond .ne 5, 3, 35, 0, false) else none) else (bif Nat.beq pc 27 then some (.invokevirtual 159, 3, 0, 0, false) else none)) else (bif Nat.beq pc 25 then some (.iload 4, 2, 0, 0, false) else none))
    else
     (bif Nat.ble 21 pc then (bif Nat.ble 24 pc then (bif Nat.beq pc 24 then some (.aload_n 1, 1, 0, 0, false) else none) else (bif Nat.beq pc 21 then some (.if_icmp .eq 14, 3, 35, 0, false) else none)) else (bif Nat.beq pc 20 then some (.iconst (-1), 1, 0, -1, false) else none))))
  else
   (bif Nat.ble 8 pc then
    (bif Nat.ble 13 pc then
     (bif Nat.ble 16 pc then (bif Nat.ble 18 pc then (bif Nat.beq pc 18 then some (.iload 4, 2, 0, 0, false) else none) else (bif Nat.beq pc 16 then some (.istore 4, 2, 0, 0, false) else none)) else (bif Nat.beq pc 13 then some (.invokevirtual 169, 3, 0, 0, false) else none))
    else
     (bif Nat.ble 11 pc then (bif Nat.ble 12 pc then (bif Nat.beq pc 12 then some (.iload_n 3, 1, 0, 0, false) else none) else (bif Nat.beq pc 11 then some (.iload_n 2, 1, 0, 0, false) else none)) else (bif Nat.beq pc 8 then some (.getfield 21, 3, 0, 0, false) else none)))
   else
    (bif Nat.ble 3 pc then
     (bif Nat.ble 4 pc then (bif Nat.ble 7 pc then (bif Nat.beq pc 7 then some (.aload_n 0, 1, 0, 0, false) else none) else (bif Nat.beq pc 4 then some (.if_icmp .ge 37, 3, 41, 0, false) else none)) else (bif Nat.beq pc 3 then some (.iconst 4, 1, 0, 4, false) else none))
    else
     (bif Nat.ble 1 pc then (bif Nat.ble 2 pc then (bif Nat.beq pc 2 then some (.iload_n 3, 1, 0, 0, true) else none) else (bif Nat.beq pc 1 then some (.istore_n 3, 1, 0, 0, false) else none)) else (bif Nat.beq pc 0 then some (.iconst 0, 1, 0, 0, false) else none)))))
def qX5_keep (pc : Nat) : Option mIn :=
  (bif Nat.ble 6 pc then
   (bif Nat.ble 10 pc then
    (bif Nat.ble 13 pc then (bif Nat.ble 16 pc then (bif Nat.beq pc 16 then some (.return_, 1, 0, 0, false) else none) else (bif Nat.beq pc 13 then some (.invokestatic 49, 3, 0, 0, false) else none)) else (bif Nat.beq pc 10 then some (.sipush 144, 3, 0, 144, false) else none))
   else
    (bif Nat.ble 9 pc then (bif Nat.beq pc 9 then some (.iconst 0, 1, 0, 0, false) else none) else (bif Nat.beq pc 6 then some (.getfield 18, 3, 0, 0, false) else none)))
  else
   (bif Nat.ble 4 pc then (bif Nat.ble 5 pc then (bif Nat.beq pc 5 then some (.aload_n 0, 1, 0, 0, false) else none) else (bif Nat.beq pc 4 then some (.iconst 0, 1, 0, 0, false) else none)) else (bif Nat.ble 1 pc then (bif Nat.beq pc 1 then some (.getfield 15, 3, 0, 0, false) else none) else (bif Nat.beq pc 0 then some (.aload_n 0, 1, 0, 0, false) else none))))
def qX5_differing (pc : Nat) : Option mIn :=
  (bif Nat.ble 19 pc then
   (bif Nat.ble 27 pc then
    (bif Nat.ble 36 pc then
     (bif Nat.ble 39 pc then (bif Nat.ble 40 pc then (bif Nat.beq pc 40 then some (.ireturn, 1, 0, 0, false) else none) else (bif Nat.beq pc 39 then some (.iload_n 1, 1, 0, 0, false) else none)) else (bif Nat.beq pc 36 then some (.goto (-32), 3, 4, 0, false) else none))
    else
     (bif Nat.ble 30 pc then (bif Nat.ble 33 pc then (bif Nat.beq pc 33 then some (.iinc 2 1, 3, 0, 1, false) else none) else (bif Nat.beq pc 30 then some (.iinc 1 1, 3, 0, 1, false) else none)) else (bif Nat.beq pc 27 then some (.if_icmp .eq 6, 3, 33, 0, false) else none)))
   else
    (bif Nat.ble 22 pc then
     (bif Nat.ble 25 pc then (bif Nat.ble 26 pc then (bif Nat.beq pc 26 then some (.iaload, 1, 0, 0, false) else none) else (bif Nat.beq pc 25 then some (.iload_n 2, 1, 0, 0, false) else none)) else (bif Nat.beq pc 22 then some (.getfield 18, 3, 0, 0, false) else none))
    else
     (bif Nat.ble 20 pc then (bif Nat.ble 21 pc then (bif Nat.beq pc 21 then some (.aload_n 0, 1, 0, 0, false) else none) else (bif Nat.beq pc 20 then some (.iaload, 1, 0, 0, false) else none)) else (bif Nat.beq pc 19 then some (.iload_n 2, 1, 0, 0, false) else none))))
  else
   (bif Nat.ble 5 pc then
    (bif Nat.ble 12 pc then
     (bif Nat.ble 15 pc then (bif Nat.ble 16 pc then (bif Nat.beq pc 16 then some (.getfield 15, 3, 0, 0, false) else none) else (bif Nat.beq pc 15 then some (.aload_n 0, 1, 0, 0, false) else none)) else (bif Nat.beq pc 12 then some (.if_icmp .ge 27, 3, 39, 0, false) else none))
    else
     (bif Nat.ble 6 pc then (bif Nat.ble 9 pc then (bif Nat.beq pc 9 then some (.getfield 134, 3, 0, 0, false) else none) else (bif Nat.beq pc 6 then some (.getfield 21, 3, 0, 0, false) else none)) else (bif Nat.beq pc 5 then some (.aload_n 0, 1, 0, 0, false) else none)))
   else
    (bif Nat.ble 2 pc then
     (bif Nat.ble 3 pc then (bif Nat.ble 4 pc then (bif Nat.beq pc 4 then some (.iload_n 2, 1, 0, 0, true) else none) else (bif Nat.beq pc 3 then some (.istore_n 2, 1, 0, 0, false) else none)) else (bif Nat.beq pc 2 then some (.iconst 0, 1, 0, 0, false) else none))
    else
     (bif Nat.ble 1 pc then (bif Nat.beq pc 1 then some (.istore_n 1, 1, 0, 0, false) else none) else (bif Nat.beq pc 0 then some (.iconst 0, 1, 0, 0, false) else none)))))
def qX5_runAheadOf (pc : Nat) : Option mIn :=
  (bif Nat.ble 10 pc then
   (bif Nat.ble 15 pc then
    (bif Nat.ble 16 pc then (bif Nat.ble 19 pc then (bif Nat.beq pc 19 then some (.return_, 1, 0, 0, false) else none) else (bif Nat.beq pc 16 then some (.invokevirtual 172, 3, 0, 0, false) else none)) else (bif Nat.beq pc 15 then some (.iconst (-1), 1, 0, -1, false) else none))
   else
    (bif Nat.ble 13 pc then (bif Nat.ble 14 pc then (bif Nat.beq pc 14 then some (.isub, 1, 0, 0, false) else none) else (bif Nat.beq pc 13 then some (.iconst 1, 1, 0, 1, false) else none)) else (bif Nat.beq pc 10 then some (.getfield 96, 3, 0, 0, false) else none)))
  else
   (bif Nat.ble 5 pc then
    (bif Nat.ble 8 pc then (bif Nat.ble 9 pc then (bif Nat.beq pc 9 then some (.aaload, 1, 0, 0, false) else none) else (bif Nat.beq pc 8 then some (.iload_n 1, 1, 0, 0, false) else none)) else (bif Nat.beq pc 5 then some (.getfield 92, 3, 0, 0, false) else none))
   else
    (bif Nat.ble 1 pc then (bif Nat.ble 2 pc then (bif Nat.beq pc 2 then some (.getfield 25, 3, 0, 0, false) else none) else (bif Nat.beq pc 1 then some (.aload_n 0, 1, 0, 0, false) else none)) else (bif Nat.beq pc 0 then some (.aload_n 0, 1, 0, 0, false) else none))))
def qX5_changedBy (pc : Nat) : Option mIn :=
  (bif Nat.ble 9 pc then
   (bif Nat.ble 13 pc then
    (bif Nat.ble 14 pc then (bif Nat.ble 17 pc then (bif Nat.beq pc 17 then some (.ireturn, 1, 0, 0, false) else none) else (bif Nat.beq pc 14 then some (.invokevirtual 183, 3, 0, 0, false) else none)) else (bif Nat.beq pc 13 then some (.aload_n 0, 1, 0, 0, false) else none))
   else
    (bif Nat.ble 10 pc then (bif Nat.beq pc 10 then some (.invokevirtual 81, 3, 0, 0, false) else none) else (bif Nat.beq pc 9 then some (.aload_n 0, 1, 0, 0, false) else none)))
  else
   (bif Nat.ble 2 pc then
    (bif Nat.ble 5 pc then (bif Nat.ble 6 pc then (bif Nat.beq pc 6 then some (.invokevirtual 180, 3, 0, 0, false) else none) else (bif Nat.beq pc 5 then some (.aload_n 0, 1, 0, 0, false) else none)) else (bif Nat.beq pc 2 then some (.invokevirtual 176, 3, 0, 0, false) else none))
   else
    (bif Nat.ble 1 pc then (bif Nat.beq pc 1 then some (.iload_n 1, 1, 0, 0, false) else none) else (bif Nat.beq pc 0 then some (.aload_n 0, 1, 0, 0, false) else none))))
def qX5_wonBy (pc : Nat) : Option mIn :=
  (bif Nat.ble 11 pc then
   (bif Nat.ble 17 pc then
    (bif Nat.ble 21 pc then (bif Nat.ble 22 pc then (bif Nat.beq pc 22 then some (.ireturn, 1, 0, 0, false) else none) else (bif Nat.beq pc 21 then some (.isub, 1, 0, 0, false) else none)) else (bif Nat.ble 20 pc then (bif Nat.beq pc 20 then some (.iload_n 3, 1, 0, 0, false) else none) else (bif Nat.beq pc 17 then some (.invokevirtual 186, 3, 0, 0, false) else none)))
   else
    (bif Nat.ble 15 pc then (bif Nat.ble 16 pc then (bif Nat.beq pc 16 then some (.iload_n 1, 1, 0, 0, false) else none) else (bif Nat.beq pc 15 then some (.aload_n 0, 1, 0, 0, false) else none)) else (bif Nat.ble 12 pc then (bif Nat.beq pc 12 then some (.invokevirtual 81, 3, 0, 0, false) else none) else (bif Nat.beq pc 11 then some (.aload_n 0, 1, 0, 0, false) else none))))
  else
   (bif Nat.ble 5 pc then
    (bif Nat.ble 7 pc then (bif Nat.ble 10 pc then (bif Nat.beq pc 10 then some (.istore_n 3, 1, 0, 0, false) else none) else (bif Nat.beq pc 7 then some (.invokevirtual 186, 3, 0, 0, false) else none)) else (bif Nat.ble 6 pc then (bif Nat.beq pc 6 then some (.iload_n 1, 1, 0, 0, false) else none) else (bif Nat.beq pc 5 then some (.aload_n 0, 1, 0, 0, false) else none)))
   else
    (bif Nat.ble 1 pc then (bif Nat.ble 2 pc then (bif Nat.beq pc 2 then some (.invokevirtual 176, 3, 0, 0, false) else none) else (bif Nat.beq pc 1 then some (.iload_n 2, 1, 0, 0, false) else none)) else (bif Nat.beq pc 0 then some (.aload_n 0, 1, 0, 0, false) else none))))
def qX5_changedByDoubt (pc : Nat) : Option mIn :=
  (bif Nat.ble 3 pc then
   (bif Nat.ble 7 pc then (bif Nat.ble 10 pc then (bif Nat.beq pc 10 then some (.ireturn, 1, 0, 0, false) else none) else (bif Nat.beq pc 7 then some (.invokevirtual 183, 3, 0, 0, false) else none)) else (bif Nat.ble 6 pc then (bif Nat.beq pc 6 then some (.aload_n 0, 1, 0, 0, false) else none) else (bif Nat.beq pc 3 then some (.invokevirtual 172, 3, 0, 0, false) else none)))
  else
   (bif Nat.ble 1 pc then (bif Nat.ble 2 pc then (bif Nat.beq pc 2 then some (.iload_n 1, 1, 0, 0, false) else none) else (bif Nat.beq pc 1 then some (.iload_n 2, 1, 0, 0, false) else none)) else (bif Nat.beq pc 0 then some (.aload_n 0, 1, 0, 0, false) else none)))
def qX6_measure (pc : Nat) : Option mIn :=
  (bif Nat.ble 52 pc then
   (bif Nat.ble 81 pc then
    (bif Nat.ble 92 pc then
     (bif Nat.ble 100 pc then
      (bif Nat.ble 106 pc then (bif Nat.ble 109 pc then (bif Nat.beq pc 109 then some (.return_, 1, 0, 0, false) else none) else (bif Nat.beq pc 106 then some (.goto (-89), 3, 17, 0, false) else none)) else (bif Nat.ble 103 pc then (bif Nat.beq pc 103 then some (.iinc 2 1, 3, 0, 1, false) else none) else (bif Nat.beq pc 100 then some (.putfield 32, 3, 0, 0, false) else none)))
     else
      (bif Nat.ble 94 pc then (bif Nat.ble 97 pc then (bif Nat.beq pc 97 then some (.invokestatic 48, 3, 0, 0, false) else none) else (bif Nat.beq pc 94 then some (.invokevirtual 57, 3, 0, 0, false) else none)) else (bif Nat.ble 93 pc then (bif Nat.beq pc 93 then some (.iload_n 2, 1, 0, 0, false) else none) else (bif Nat.beq pc 92 then some (.aload_n 1, 1, 0, 0, false) else none))))
    else
     (bif Nat.ble 86 pc then
      (bif Nat.ble 88 pc then (bif Nat.ble 91 pc then (bif Nat.beq pc 91 then some (.aload_n 0, 1, 0, 0, false) else none) else (bif Nat.beq pc 88 then some (.getfield 32, 3, 0, 0, false) else none)) else (bif Nat.ble 87 pc then (bif Nat.beq pc 87 then some (.aload_n 1, 1, 0, 0, false) else none) else (bif Nat.beq pc 86 then some (.aload_n 1, 1, 0, 0, false) else none)))
     else
      (bif Nat.ble 82 pc then (bif Nat.ble 83 pc then (bif Nat.beq pc 83 then some (.putfield 23, 3, 0, 0, false) else none) else (bif Nat.beq pc 82 then some (.iadd, 1, 0, 0, false) else none)) else (bif Nat.beq pc 81 then some (.iconst 1, 1, 0, 1, false) else none))))
   else
    (bif Nat.ble 67 pc then
     (bif Nat.ble 73 pc then
      (bif Nat.ble 77 pc then (bif Nat.ble 78 pc then (bif Nat.beq pc 78 then some (.getfield 23, 3, 0, 0, false) else none) else (bif Nat.beq pc 77 then some (.dup, 1, 0, 0, false) else none)) else (bif Nat.ble 76 pc then (bif Nat.beq pc 76 then some (.aload_n 1, 1, 0, 0, false) else none) else (bif Nat.beq pc 73 then some (.if_icmp .ne 30, 3, 103, 0, false) else none)))
     else
      (bif Nat.ble 71 pc then (bif Nat.ble 72 pc then (bif Nat.beq pc 72 then some (.iconst 1, 1, 0, 1, false) else none) else (bif Nat.beq pc 71 then some (.iaload, 1, 0, 0, false) else none)) else (bif Nat.ble 70 pc then (bif Nat.beq pc 70 then some (.iload_n 2, 1, 0, 0, false) else none) else (bif Nat.beq pc 67 then some (.getfield 54, 3, 0, 0, false) else none))))
    else
     (bif Nat.ble 57 pc then
      (bif Nat.ble 63 pc then (bif Nat.ble 66 pc then (bif Nat.beq pc 66 then some (.aload_n 1, 1, 0, 0, false) else none) else (bif Nat.beq pc 63 then some (.goto 40, 3, 103, 0, false) else none)) else (bif Nat.ble 60 pc then (bif Nat.beq pc 60 then some (.putfield 32, 3, 0, 0, false) else none) else (bif Nat.beq pc 57 then some (.invokestatic 48, 3, 0, 0, false) else none)))
     else
      (bif Nat.ble 53 pc then (bif Nat.ble 54 pc then (bif Nat.beq pc 54 then some (.invokevirtual 44, 3, 0, 0, false) else none) else (bif Nat.beq pc 53 then some (.iload_n 2, 1, 0, 0, false) else none)) else (bif Nat.beq pc 52 then some (.aload_n 1, 1, 0, 0, false) else none)))))
  else
   (bif Nat.ble 25 pc then
    (bif Nat.ble 38 pc then
     (bif Nat.ble 46 pc then
      (bif Nat.ble 48 pc then (bif Nat.ble 51 pc then (bif Nat.beq pc 51 then some (.aload_n 0, 1, 0, 0, false) else none) else (bif Nat.beq pc 48 then some (.getfield 32, 3, 0, 0, false) else none)) else (bif Nat.ble 47 pc then (bif Nat.beq pc 47 then some (.aload_n 1, 1, 0, 0, false) else none) else (bif Nat.beq pc 46 then some (.aload_n 1, 1, 0, 0, false) else none)))
     else
      (bif Nat.ble 42 pc then (bif Nat.ble 43 pc then (bif Nat.beq pc 43 then some (.putfield 29, 3, 0, 0, false) else none) else (bif Nat.beq pc 42 then some (.iadd, 1, 0, 0, false) else none)) else (bif Nat.ble 41 pc then (bif Nat.beq pc 41 then some (.iconst 1, 1, 0, 1, false) else none) else (bif Nat.beq pc 38 then some (.getfield 29, 3, 0, 0, false) else none))))
    else
     (bif Nat.ble 30 pc then
      (bif Nat.ble 36 pc then (bif Nat.ble 37 pc then (bif Nat.beq pc 37 then some (.dup, 1, 0, 0, false) else none) else (bif Nat.beq pc 36 then some (.aload_n 1, 1, 0, 0, false) else none)) else (bif Nat.ble 33 pc then (bif Nat.beq pc 33 then some (.ifCond .eq 33, 3, 66, 0, false) else none) else (bif Nat.beq pc 30 then some (.invokevirtual 40, 3, 0, 0, false) else none)))
     else
      (bif Nat.ble 28 pc then (bif Nat.ble 29 pc then (bif Nat.beq pc 29 then some (.iload_n 2, 1, 0, 0, false) else none) else (bif Nat.beq pc 28 then some (.aload_n 1, 1, 0, 0, false) else none)) else (bif Nat.beq pc 25 then some (.if_icmp .ge 84, 3, 109, 0, false) else none))))
   else
    (bif Nat.ble 11 pc then
     (bif Nat.ble 17 pc then
      (bif Nat.ble 19 pc then (bif Nat.ble 22 pc then (bif Nat.beq pc 22 then some (.getfield 35, 3, 0, 0, false) else none) else (bif Nat.beq pc 19 then some (.getfield 19, 3, 0, 0, false) else none)) else (bif Nat.ble 18 pc then (bif Nat.beq pc 18 then some (.aload_n 0, 1, 0, 0, false) else none) else (bif Nat.beq pc 17 then some (.iload_n 2, 1, 0, 0, true) else none)))
     else
      (bif Nat.ble 15 pc then (bif Nat.ble 16 pc then (bif Nat.beq pc 16 then some (.istore_n 2, 1, 0, 0, false) else none) else (bif Nat.beq pc 15 then some (.iconst 0, 1, 0, 0, false) else none)) else (bif Nat.ble 12 pc then (bif Nat.beq pc 12 then some (.putfield 32, 3, 0, 0, false) else none) else (bif Nat.beq pc 11 then some (.iconst 0, 1, 0, 0, false) else none))))
    else
     (bif Nat.ble 5 pc then
      (bif Nat.ble 7 pc then (bif Nat.ble 10 pc then (bif Nat.beq pc 10 then some (.aload_n 1, 1, 0, 0, false) else none) else (bif Nat.beq pc 7 then some (.putfield 29, 3, 0, 0, false) else none)) else (bif Nat.ble 6 pc then (bif Nat.beq pc 6 then some (.iconst 0, 1, 0, 0, false) else none) else (bif Nat.beq pc 5 then some (.aload_n 1, 1, 0, 0, false) else none)))
     else
      (bif Nat.ble 1 pc then (bif Nat.ble 2 pc then (bif Nat.beq pc 2 then some (.putfield 23, 3, 0, 0, false) else none) else (bif Nat.beq pc 1 then some (.iconst 0, 1, 0, 0, false) else none)) else (bif Nat.beq pc 0 then some (.aload_n 1, 1, 0, 0, false) else none))))))
def qX6_dryParts (pc : Nat) : Option mIn :=
  (bif Nat.ble 33 pc then
   (bif Nat.ble 50 pc then
    (bif Nat.ble 59 pc then
     (bif Nat.ble 65 pc then
      (bif Nat.ble 68 pc then (bif Nat.ble 69 pc then (bif Nat.beq pc 69 then some (.ireturn, 1, 0, 0, false) else none) else (bif Nat.beq pc 68 then some (.iload_n 2, 1, 0, 0, false) else none)) else (bif Nat.beq pc 65 then some (.goto (-31), 3, 34, 0, false) else none))
     else
      (bif Nat.ble 62 pc then (bif Nat.beq pc 62 then some (.iinc 3 1, 3, 0, 1, false) else none) else (bif Nat.beq pc 59 then some (.iinc 2 1, 3, 0, 1, false) else none)))
    else
     (bif Nat.ble 54 pc then
      (bif Nat.ble 55 pc then (bif Nat.ble 56 pc then (bif Nat.beq pc 56 then some (.invokevirtual 63, 3, 0, 0, false) else none) else (bif Nat.beq pc 55 then some (.iload_n 3, 1, 0, 0, false) else none)) else (bif Nat.beq pc 54 then some (.aload_n 0, 1, 0, 0, false) else none))
     else
      (bif Nat.ble 51 pc then (bif Nat.beq pc 51 then some (.ifCond .eq 11, 3, 62, 0, false) else none) else (bif Nat.beq pc 50 then some (.baload, 1, 0, 0, false) else none))))
   else
    (bif Nat.ble 39 pc then
     (bif Nat.ble 45 pc then
      (bif Nat.ble 46 pc then (bif Nat.ble 49 pc then (bif Nat.beq pc 49 then some (.iload_n 3, 1, 0, 0, false) else none) else (bif Nat.beq pc 46 then some (.getfield 9, 3, 0, 0, false) else none)) else (bif Nat.beq pc 45 then some (.aload_n 0, 1, 0, 0, false) else none))
     else
      (bif Nat.ble 42 pc then (bif Nat.beq pc 42 then some (.if_icmp .ge 26, 3, 68, 0, false) else none) else (bif Nat.beq pc 39 then some (.getfield 35, 3, 0, 0, false) else none)))
    else
     (bif Nat.ble 35 pc then (bif Nat.ble 36 pc then (bif Nat.beq pc 36 then some (.getfield 19, 3, 0, 0, false) else none) else (bif Nat.beq pc 35 then some (.aload_n 0, 1, 0, 0, false) else none)) else (bif Nat.ble 34 pc then (bif Nat.beq pc 34 then some (.iload_n 3, 1, 0, 0, true) else none) else (bif Nat.beq pc 33 then some (.istore_n 3, 1, 0, 0, false) else none)))))
  else
   (bif Nat.ble 17 pc then
    (bif Nat.ble 24 pc then
     (bif Nat.ble 30 pc then
      (bif Nat.ble 31 pc then (bif Nat.ble 32 pc then (bif Nat.beq pc 32 then some (.iconst 0, 1, 0, 0, false) else none) else (bif Nat.beq pc 31 then some (.istore_n 2, 1, 0, 0, false) else none)) else (bif Nat.beq pc 30 then some (.iconst 0, 1, 0, 0, false) else none))
     else
      (bif Nat.ble 27 pc then (bif Nat.beq pc 27 then some (.goto (-25), 3, 2, 0, false) else none) else (bif Nat.beq pc 24 then some (.iinc 2 1, 3, 0, 1, false) else none)))
    else
     (bif Nat.ble 19 pc then
      (bif Nat.ble 20 pc then (bif Nat.ble 23 pc then (bif Nat.beq pc 23 then some (.bastore, 1, 0, 0, false) else none) else (bif Nat.beq pc 20 then some (.invokevirtual 60, 3, 0, 0, false) else none)) else (bif Nat.beq pc 19 then some (.iload_n 2, 1, 0, 0, false) else none))
     else
      (bif Nat.ble 18 pc then (bif Nat.beq pc 18 then some (.aload_n 1, 1, 0, 0, false) else none) else (bif Nat.beq pc 17 then some (.iload_n 2, 1, 0, 0, false) else none))))
   else
    (bif Nat.ble 4 pc then
     (bif Nat.ble 10 pc then
      (bif Nat.ble 13 pc then (bif Nat.ble 14 pc then (bif Nat.beq pc 14 then some (.getfield 9, 3, 0, 0, false) else none) else (bif Nat.beq pc 13 then some (.aload_n 0, 1, 0, 0, false) else none)) else (bif Nat.beq pc 10 then some (.if_icmp .ge 20, 3, 30, 0, false) else none))
     else
      (bif Nat.ble 7 pc then (bif Nat.beq pc 7 then some (.getfield 35, 3, 0, 0, false) else none) else (bif Nat.beq pc 4 then some (.getfield 19, 3, 0, 0, false) else none)))
    else
     (bif Nat.ble 2 pc then (bif Nat.ble 3 pc then (bif Nat.beq pc 3 then some (.aload_n 0, 1, 0, 0, false) else none) else (bif Nat.beq pc 2 then some (.iload_n 2, 1, 0, 0, true) else none)) else (bif Nat.ble 1 pc then (bif Nat.beq pc 1 then some (.istore_n 2, 1, 0, 0, false) else none) else (bif Nat.beq pc 0 then some (.iconst 0, 1, 0, 0, false) else none))))))
def qX6_apartFromFast (pc : Nat) : Option mIn :=
  (bif Nat.ble 25 pc then
   (bif Nat.ble 37 pc then
    (bif Nat.ble 44 pc then
     (bif Nat.ble 50 pc then (bif Nat.ble 51 pc then (bif Nat.beq pc 51 then some (.ireturn, 1, 0, 0, false) else none) else (bif Nat.beq pc 50 then some (.iload_n 3, 1, 0, 0, false) else none)) else (bif Nat.ble 47 pc then (bif Nat.beq pc 47 then some (.goto (-41), 3, 6, 0, false) else none) else (bif Nat.beq pc 44 then some (.iinc 4 1, 3, 0, 1, false) else none)))
    else
     (bif Nat.ble 40 pc then (bif Nat.ble 43 pc then (bif Nat.beq pc 43 then some (.istore_n 3, 1, 0, 0, false) else none) else (bif Nat.beq pc 40 then some (.invokestatic 70, 3, 0, 0, false) else none)) else (bif Nat.beq pc 37 then some (.invokevirtual 67, 3, 0, 0, false) else none)))
   else
    (bif Nat.ble 30 pc then
     (bif Nat.ble 34 pc then (bif Nat.ble 35 pc then (bif Nat.beq pc 35 then some (.iload 4, 2, 0, 0, false) else none) else (bif Nat.beq pc 34 then some (.iload_n 2, 1, 0, 0, false) else none)) else (bif Nat.ble 31 pc then (bif Nat.beq pc 31 then some (.getfield 19, 3, 0, 0, false) else none) else (bif Nat.beq pc 30 then some (.aload_n 0, 1, 0, 0, false) else none)))
    else
     (bif Nat.ble 26 pc then (bif Nat.ble 29 pc then (bif Nat.beq pc 29 then some (.iload_n 3, 1, 0, 0, false) else none) else (bif Nat.beq pc 26 then some (.if_icmp .ne 18, 3, 44, 0, false) else none)) else (bif Nat.beq pc 25 then some (.iconst 4, 1, 0, 4, false) else none))))
  else
   (bif Nat.ble 9 pc then
    (bif Nat.ble 18 pc then
     (bif Nat.ble 22 pc then (bif Nat.ble 24 pc then (bif Nat.beq pc 24 then some (.iaload, 1, 0, 0, false) else none) else (bif Nat.beq pc 22 then some (.iload 4, 2, 0, 0, false) else none)) else (bif Nat.ble 19 pc then (bif Nat.beq pc 19 then some (.getfield 54, 3, 0, 0, false) else none) else (bif Nat.beq pc 18 then some (.aload_n 1, 1, 0, 0, false) else none)))
    else
     (bif Nat.ble 12 pc then (bif Nat.ble 15 pc then (bif Nat.beq pc 15 then some (.if_icmp .ge 35, 3, 50, 0, false) else none) else (bif Nat.beq pc 12 then some (.getfield 35, 3, 0, 0, false) else none)) else (bif Nat.beq pc 9 then some (.getfield 19, 3, 0, 0, false) else none)))
   else
    (bif Nat.ble 4 pc then
     (bif Nat.ble 6 pc then (bif Nat.ble 8 pc then (bif Nat.beq pc 8 then some (.aload_n 0, 1, 0, 0, false) else none) else (bif Nat.beq pc 6 then some (.iload 4, 2, 0, 0, true) else none)) else (bif Nat.beq pc 4 then some (.istore 4, 2, 0, 0, false) else none))
    else
     (bif Nat.ble 2 pc then (bif Nat.ble 3 pc then (bif Nat.beq pc 3 then some (.iconst 0, 1, 0, 0, false) else none) else (bif Nat.beq pc 2 then some (.istore_n 3, 1, 0, 0, false) else none)) else (bif Nat.beq pc 0 then some (.bipush 13, 2, 0, 13, false) else none)))))
def qX6_apartFromOldWater (pc : Nat) : Option mIn :=
  (bif Nat.ble 24 pc then
   (bif Nat.ble 35 pc then
    (bif Nat.ble 42 pc then
     (bif Nat.ble 48 pc then (bif Nat.ble 49 pc then (bif Nat.beq pc 49 then some (.ireturn, 1, 0, 0, false) else none) else (bif Nat.beq pc 48 then some (.iload_n 3, 1, 0, 0, false) else none)) else (bif Nat.ble 45 pc then (bif Nat.beq pc 45 then some (.goto (-39), 3, 6, 0, false) else none) else (bif Nat.beq pc 42 then some (.iinc 4 1, 3, 0, 1, false) else none)))
    else
     (bif Nat.ble 38 pc then (bif Nat.ble 41 pc then (bif Nat.beq pc 41 then some (.istore_n 3, 1, 0, 0, false) else none) else (bif Nat.beq pc 38 then some (.invokestatic 70, 3, 0, 0, false) else none)) else (bif Nat.beq pc 35 then some (.invokevirtual 67, 3, 0, 0, false) else none)))
   else
    (bif Nat.ble 29 pc then
     (bif Nat.ble 32 pc then (bif Nat.ble 33 pc then (bif Nat.beq pc 33 then some (.iload 4, 2, 0, 0, false) else none) else (bif Nat.beq pc 32 then some (.iload_n 2, 1, 0, 0, false) else none)) else (bif Nat.beq pc 29 then some (.getfield 19, 3, 0, 0, false) else none))
    else
     (bif Nat.ble 27 pc then (bif Nat.ble 28 pc then (bif Nat.beq pc 28 then some (.aload_n 0, 1, 0, 0, false) else none) else (bif Nat.beq pc 27 then some (.iload_n 3, 1, 0, 0, false) else none)) else (bif Nat.beq pc 24 then some (.ifCond .eq 18, 3, 42, 0, false) else none))))
  else
   (bif Nat.ble 9 pc then
    (bif Nat.ble 18 pc then
     (bif Nat.ble 19 pc then (bif Nat.ble 21 pc then (bif Nat.beq pc 21 then some (.invokevirtual 73, 3, 0, 0, false) else none) else (bif Nat.beq pc 19 then some (.iload 4, 2, 0, 0, false) else none)) else (bif Nat.beq pc 18 then some (.aload_n 1, 1, 0, 0, false) else none))
    else
     (bif Nat.ble 12 pc then (bif Nat.ble 15 pc then (bif Nat.beq pc 15 then some (.if_icmp .ge 33, 3, 48, 0, false) else none) else (bif Nat.beq pc 12 then some (.getfield 35, 3, 0, 0, false) else none)) else (bif Nat.beq pc 9 then some (.getfield 19, 3, 0, 0, false) else none)))
   else
    (bif Nat.ble 4 pc then
     (bif Nat.ble 6 pc then (bif Nat.ble 8 pc then (bif Nat.beq pc 8 then some (.aload_n 0, 1, 0, 0, false) else none) else (bif Nat.beq pc 6 then some (.iload 4, 2, 0, 0, true) else none)) else (bif Nat.beq pc 4 then some (.istore 4, 2, 0, 0, false) else none))
    else
     (bif Nat.ble 2 pc then (bif Nat.ble 3 pc then (bif Nat.beq pc 3 then some (.iconst 0, 1, 0, 0, false) else none) else (bif Nat.beq pc 2 then some (.istore_n 3, 1, 0, 0, false) else none)) else (bif Nat.beq pc 0 then some (.bipush 13, 2, 0, 13, false) else none)))))
def qX6_sortParts (pc : Nat) : Option mIn :=
  (bif Nat.ble 57 pc then
   (bif Nat.ble 85 pc then
    (bif Nat.ble 99 pc then
     (bif Nat.ble 105 pc then
      (bif Nat.ble 111 pc then (bif Nat.ble 114 pc then (bif Nat.beq pc 114 then some (.return_, 1, 0, 0, false) else none) else (bif Nat.beq pc 111 then some (.goto (-69), 3, 42, 0, false) else none)) else (bif Nat.ble 108 pc then (bif Nat.beq pc 108 then some (.iinc 2 1, 3, 0, 1, false) else none) else (bif Nat.beq pc 105 then some (.invokevirtual 90, 3, 0, 0, false) else none)))
     else
      (bif Nat.ble 103 pc then (bif Nat.ble 104 pc then (bif Nat.beq pc 104 then some (.aload_n 1, 1, 0, 0, false) else none) else (bif Nat.beq pc 103 then some (.aload_n 0, 1, 0, 0, false) else none)) else (bif Nat.ble 100 pc then (bif Nat.beq pc 100 then some (.putfield 79, 3, 0, 0, false) else none) else (bif Nat.beq pc 99 then some (.iadd, 1, 0, 0, false) else none))))
    else
     (bif Nat.ble 93 pc then
      (bif Nat.ble 95 pc then (bif Nat.ble 98 pc then (bif Nat.beq pc 98 then some (.iconst 1, 1, 0, 1, false) else none) else (bif Nat.beq pc 95 then some (.getfield 79, 3, 0, 0, false) else none)) else (bif Nat.ble 94 pc then (bif Nat.beq pc 94 then some (.dup, 1, 0, 0, false) else none) else (bif Nat.beq pc 93 then some (.aload_n 1, 1, 0, 0, false) else none)))
     else
      (bif Nat.ble 87 pc then (bif Nat.ble 90 pc then (bif Nat.beq pc 90 then some (.goto 18, 3, 108, 0, false) else none) else (bif Nat.beq pc 87 then some (.invokevirtual 86, 3, 0, 0, false) else none)) else (bif Nat.ble 86 pc then (bif Nat.beq pc 86 then some (.aload_n 1, 1, 0, 0, false) else none) else (bif Nat.beq pc 85 then some (.aload_n 0, 1, 0, 0, false) else none)))))
   else
    (bif Nat.ble 69 pc then
     (bif Nat.ble 77 pc then
      (bif Nat.ble 79 pc then (bif Nat.ble 82 pc then (bif Nat.beq pc 82 then some (.ifCond .eq 11, 3, 93, 0, false) else none) else (bif Nat.beq pc 79 then some (.invokevirtual 82, 3, 0, 0, false) else none)) else (bif Nat.ble 78 pc then (bif Nat.beq pc 78 then some (.aload_n 1, 1, 0, 0, false) else none) else (bif Nat.beq pc 77 then some (.aload_n 0, 1, 0, 0, false) else none)))
     else
      (bif Nat.ble 73 pc then (bif Nat.ble 74 pc then (bif Nat.beq pc 74 then some (.putfield 76, 3, 0, 0, false) else none) else (bif Nat.beq pc 73 then some (.iadd, 1, 0, 0, false) else none)) else (bif Nat.ble 72 pc then (bif Nat.beq pc 72 then some (.iconst 1, 1, 0, 1, false) else none) else (bif Nat.beq pc 69 then some (.getfield 76, 3, 0, 0, false) else none))))
    else
     (bif Nat.ble 63 pc then
      (bif Nat.ble 67 pc then (bif Nat.ble 68 pc then (bif Nat.beq pc 68 then some (.dup, 1, 0, 0, false) else none) else (bif Nat.beq pc 67 then some (.aload_n 1, 1, 0, 0, false) else none)) else (bif Nat.ble 64 pc then (bif Nat.beq pc 64 then some (.invokevirtual 63, 3, 0, 0, false) else none) else (bif Nat.beq pc 63 then some (.iload_n 2, 1, 0, 0, false) else none)))
     else
      (bif Nat.ble 59 pc then (bif Nat.ble 62 pc then (bif Nat.beq pc 62 then some (.aload_n 0, 1, 0, 0, false) else none) else (bif Nat.beq pc 59 then some (.ifCond .eq 49, 3, 108, 0, false) else none)) else (bif Nat.ble 58 pc then (bif Nat.beq pc 58 then some (.baload, 1, 0, 0, false) else none) else (bif Nat.beq pc 57 then some (.iload_n 2, 1, 0, 0, false) else none))))))
  else
   (bif Nat.ble 27 pc then
    (bif Nat.ble 41 pc then
     (bif Nat.ble 47 pc then
      (bif Nat.ble 53 pc then (bif Nat.ble 54 pc then (bif Nat.beq pc 54 then some (.getfield 9, 3, 0, 0, false) else none) else (bif Nat.beq pc 53 then some (.aload_n 0, 1, 0, 0, false) else none)) else (bif Nat.ble 50 pc then (bif Nat.beq pc 50 then some (.if_icmp .ge 64, 3, 114, 0, false) else none) else (bif Nat.beq pc 47 then some (.getfield 35, 3, 0, 0, false) else none)))
     else
      (bif Nat.ble 43 pc then (bif Nat.ble 44 pc then (bif Nat.beq pc 44 then some (.getfield 19, 3, 0, 0, false) else none) else (bif Nat.beq pc 43 then some (.aload_n 0, 1, 0, 0, false) else none)) else (bif Nat.ble 42 pc then (bif Nat.beq pc 42 then some (.iload_n 2, 1, 0, 0, true) else none) else (bif Nat.beq pc 41 then some (.istore_n 2, 1, 0, 0, false) else none))))
    else
     (bif Nat.ble 33 pc then
      (bif Nat.ble 37 pc then (bif Nat.ble 40 pc then (bif Nat.beq pc 40 then some (.iconst 0, 1, 0, 0, false) else none) else (bif Nat.beq pc 37 then some (.goto (-25), 3, 12, 0, false) else none)) else (bif Nat.ble 34 pc then (bif Nat.beq pc 34 then some (.iinc 2 1, 3, 0, 1, false) else none) else (bif Nat.beq pc 33 then some (.bastore, 1, 0, 0, false) else none)))
     else
      (bif Nat.ble 29 pc then (bif Nat.ble 30 pc then (bif Nat.beq pc 30 then some (.invokevirtual 40, 3, 0, 0, false) else none) else (bif Nat.beq pc 29 then some (.iload_n 2, 1, 0, 0, false) else none)) else (bif Nat.ble 28 pc then (bif Nat.beq pc 28 then some (.aload_n 1, 1, 0, 0, false) else none) else (bif Nat.beq pc 27 then some (.iload_n 2, 1, 0, 0, false) else none)))))
   else
    (bif Nat.ble 11 pc then
     (bif Nat.ble 17 pc then
      (bif Nat.ble 23 pc then (bif Nat.ble 24 pc then (bif Nat.beq pc 24 then some (.getfield 9, 3, 0, 0, false) else none) else (bif Nat.beq pc 23 then some (.aload_n 0, 1, 0, 0, false) else none)) else (bif Nat.ble 20 pc then (bif Nat.beq pc 20 then some (.if_icmp .ge 20, 3, 40, 0, false) else none) else (bif Nat.beq pc 17 then some (.getfield 35, 3, 0, 0, false) else none)))
     else
      (bif Nat.ble 13 pc then (bif Nat.ble 14 pc then (bif Nat.beq pc 14 then some (.getfield 19, 3, 0, 0, false) else none) else (bif Nat.beq pc 13 then some (.aload_n 0, 1, 0, 0, false) else none)) else (bif Nat.ble 12 pc then (bif Nat.beq pc 12 then some (.iload_n 2, 1, 0, 0, true) else none) else (bif Nat.beq pc 11 then some (.istore_n 2, 1, 0, 0, false) else none))))
    else
     (bif Nat.ble 5 pc then
      (bif Nat.ble 7 pc then (bif Nat.ble 10 pc then (bif Nat.beq pc 10 then some (.iconst 0, 1, 0, 0, false) else none) else (bif Nat.beq pc 7 then some (.putfield 79, 3, 0, 0, false) else none)) else (bif Nat.ble 6 pc then (bif Nat.beq pc 6 then some (.iconst 0, 1, 0, 0, false) else none) else (bif Nat.beq pc 5 then some (.aload_n 1, 1, 0, 0, false) else none)))
     else
      (bif Nat.ble 1 pc then (bif Nat.ble 2 pc then (bif Nat.beq pc 2 then some (.putfield 76, 3, 0, 0, false) else none) else (bif Nat.beq pc 1 then some (.iconst 0, 1, 0, 0, false) else none)) else (bif Nat.beq pc 0 then some (.aload_n 1, 1, 0, 0, false) else none))))))
def qX6_gather (pc : Nat) : Option mIn :=
  (bif Nat.ble 57 pc then
   (bif Nat.ble 92 pc then
    (bif Nat.ble 106 pc then
     (bif Nat.ble 114 pc then
      (bif Nat.ble 120 pc then
       (bif Nat.ble 123 pc then (bif Nat.ble 126 pc then (bif Nat.beq pc 126 then some (.return_, 1, 0, 0, false) else none) else (bif Nat.beq pc 123 then some (.goto (-102), 3, 21, 0, false) else none)) else (bif Nat.beq pc 120 then some (.iinc 2 1, 3, 0, 1, false) else none))
      else
       (bif Nat.ble 117 pc then (bif Nat.beq pc 117 then some (.goto (-79), 3, 38, 0, false) else none) else (bif Nat.beq pc 114 then some (.iinc 3 1, 3, 0, 1, false) else none)))
     else
      (bif Nat.ble 110 pc then (bif Nat.ble 111 pc then (bif Nat.beq pc 111 then some (.putfield 93, 3, 0, 0, false) else none) else (bif Nat.beq pc 110 then some (.iadd, 1, 0, 0, false) else none)) else (bif Nat.ble 109 pc then (bif Nat.beq pc 109 then some (.iconst 1, 1, 0, 1, false) else none) else (bif Nat.beq pc 106 then some (.getfield 93, 3, 0, 0, false) else none))))
    else
     (bif Nat.ble 98 pc then
      (bif Nat.ble 103 pc then
       (bif Nat.ble 104 pc then (bif Nat.ble 105 pc then (bif Nat.beq pc 105 then some (.dup, 1, 0, 0, false) else none) else (bif Nat.beq pc 104 then some (.aload_n 0, 1, 0, 0, false) else none)) else (bif Nat.beq pc 103 then some (.iastore, 1, 0, 0, false) else none))
      else
       (bif Nat.ble 101 pc then (bif Nat.beq pc 101 then some (.iload 4, 2, 0, 0, false) else none) else (bif Nat.beq pc 98 then some (.getfield 93, 3, 0, 0, false) else none)))
     else
      (bif Nat.ble 94 pc then (bif Nat.ble 97 pc then (bif Nat.beq pc 97 then some (.aload_n 0, 1, 0, 0, false) else none) else (bif Nat.beq pc 94 then some (.getfield 15, 3, 0, 0, false) else none)) else (bif Nat.ble 93 pc then (bif Nat.beq pc 93 then some (.aload_n 0, 1, 0, 0, false) else none) else (bif Nat.beq pc 92 then some (.bastore, 1, 0, 0, false) else none)))))
   else
    (bif Nat.ble 72 pc then
     (bif Nat.ble 82 pc then
      (bif Nat.ble 86 pc then
       (bif Nat.ble 89 pc then (bif Nat.ble 91 pc then (bif Nat.beq pc 91 then some (.iconst 0, 1, 0, 0, false) else none) else (bif Nat.beq pc 89 then some (.iload 4, 2, 0, 0, false) else none)) else (bif Nat.beq pc 86 then some (.getfield 9, 3, 0, 0, false) else none))
      else
       (bif Nat.ble 85 pc then (bif Nat.beq pc 85 then some (.aload_n 0, 1, 0, 0, false) else none) else (bif Nat.beq pc 82 then some (.if_icmp .ge 32, 3, 114, 0, false) else none)))
     else
      (bif Nat.ble 76 pc then (bif Nat.ble 79 pc then (bif Nat.beq pc 79 then some (.sipush 144, 3, 0, 144, false) else none) else (bif Nat.beq pc 76 then some (.getfield 93, 3, 0, 0, false) else none)) else (bif Nat.ble 75 pc then (bif Nat.beq pc 75 then some (.aload_n 0, 1, 0, 0, false) else none) else (bif Nat.beq pc 72 then some (.ifCond .eq 42, 3, 114, 0, false) else none))))
    else
     (bif Nat.ble 65 pc then
      (bif Nat.ble 69 pc then (bif Nat.ble 71 pc then (bif Nat.beq pc 71 then some (.baload, 1, 0, 0, false) else none) else (bif Nat.beq pc 69 then some (.iload 4, 2, 0, 0, false) else none)) else (bif Nat.ble 66 pc then (bif Nat.beq pc 66 then some (.getfield 9, 3, 0, 0, false) else none) else (bif Nat.beq pc 65 then some (.aload_n 0, 1, 0, 0, false) else none)))
     else
      (bif Nat.ble 61 pc then (bif Nat.ble 62 pc then (bif Nat.beq pc 62 then some (.if_icmp .eq 52, 3, 114, 0, false) else none) else (bif Nat.beq pc 61 then some (.iconst (-1), 1, 0, -1, false) else none)) else (bif Nat.ble 59 pc then (bif Nat.beq pc 59 then some (.iload 4, 2, 0, 0, false) else none) else (bif Nat.beq pc 57 then some (.istore 4, 2, 0, 0, false) else none))))))
  else
   (bif Nat.ble 23 pc then
    (bif Nat.ble 40 pc then
     (bif Nat.ble 48 pc then
      (bif Nat.ble 52 pc then
       (bif Nat.ble 53 pc then (bif Nat.ble 54 pc then (bif Nat.beq pc 54 then some (.invokevirtual 96, 3, 0, 0, false) else none) else (bif Nat.beq pc 53 then some (.iload_n 3, 1, 0, 0, false) else none)) else (bif Nat.beq pc 52 then some (.iaload, 1, 0, 0, false) else none))
      else
       (bif Nat.ble 51 pc then (bif Nat.beq pc 51 then some (.iload_n 2, 1, 0, 0, false) else none) else (bif Nat.beq pc 48 then some (.getfield 15, 3, 0, 0, false) else none)))
     else
      (bif Nat.ble 44 pc then (bif Nat.ble 47 pc then (bif Nat.beq pc 47 then some (.aload_n 0, 1, 0, 0, false) else none) else (bif Nat.beq pc 44 then some (.getfield 19, 3, 0, 0, false) else none)) else (bif Nat.ble 43 pc then (bif Nat.beq pc 43 then some (.aload_n 0, 1, 0, 0, false) else none) else (bif Nat.beq pc 40 then some (.if_icmp .ge 80, 3, 120, 0, false) else none))))
    else
     (bif Nat.ble 33 pc then
      (bif Nat.ble 37 pc then
       (bif Nat.ble 38 pc then (bif Nat.ble 39 pc then (bif Nat.beq pc 39 then some (.iconst 4, 1, 0, 4, false) else none) else (bif Nat.beq pc 38 then some (.iload_n 3, 1, 0, 0, true) else none)) else (bif Nat.beq pc 37 then some (.istore_n 3, 1, 0, 0, false) else none))
      else
       (bif Nat.ble 36 pc then (bif Nat.beq pc 36 then some (.iconst 0, 1, 0, 0, false) else none) else (bif Nat.beq pc 33 then some (.if_icmp .ge 93, 3, 126, 0, false) else none)))
     else
      (bif Nat.ble 29 pc then (bif Nat.ble 30 pc then (bif Nat.beq pc 30 then some (.sipush 144, 3, 0, 144, false) else none) else (bif Nat.beq pc 29 then some (.iload_n 2, 1, 0, 0, false) else none)) else (bif Nat.ble 26 pc then (bif Nat.beq pc 26 then some (.if_icmp .ge 100, 3, 126, 0, false) else none) else (bif Nat.beq pc 23 then some (.getfield 93, 3, 0, 0, false) else none)))))
   else
    (bif Nat.ble 12 pc then
     (bif Nat.ble 16 pc then
      (bif Nat.ble 20 pc then
       (bif Nat.ble 21 pc then (bif Nat.ble 22 pc then (bif Nat.beq pc 22 then some (.aload_n 0, 1, 0, 0, false) else none) else (bif Nat.beq pc 21 then some (.iload_n 2, 1, 0, 0, true) else none)) else (bif Nat.beq pc 20 then some (.istore_n 2, 1, 0, 0, false) else none))
      else
       (bif Nat.ble 19 pc then (bif Nat.beq pc 19 then some (.iconst 0, 1, 0, 0, false) else none) else (bif Nat.beq pc 16 then some (.putfield 93, 3, 0, 0, false) else none)))
     else
      (bif Nat.ble 14 pc then (bif Nat.ble 15 pc then (bif Nat.beq pc 15 then some (.iconst 1, 1, 0, 1, false) else none) else (bif Nat.beq pc 14 then some (.aload_n 0, 1, 0, 0, false) else none)) else (bif Nat.ble 13 pc then (bif Nat.beq pc 13 then some (.iastore, 1, 0, 0, false) else none) else (bif Nat.beq pc 12 then some (.iload_n 1, 1, 0, 0, false) else none))))
    else
     (bif Nat.ble 6 pc then
      (bif Nat.ble 8 pc then (bif Nat.ble 11 pc then (bif Nat.beq pc 11 then some (.iconst 0, 1, 0, 0, false) else none) else (bif Nat.beq pc 8 then some (.getfield 15, 3, 0, 0, false) else none)) else (bif Nat.ble 7 pc then (bif Nat.beq pc 7 then some (.aload_n 0, 1, 0, 0, false) else none) else (bif Nat.beq pc 6 then some (.bastore, 1, 0, 0, false) else none)))
     else
      (bif Nat.ble 4 pc then (bif Nat.ble 5 pc then (bif Nat.beq pc 5 then some (.iconst 0, 1, 0, 0, false) else none) else (bif Nat.beq pc 4 then some (.iload_n 1, 1, 0, 0, false) else none)) else (bif Nat.ble 1 pc then (bif Nat.beq pc 1 then some (.getfield 9, 3, 0, 0, false) else none) else (bif Nat.beq pc 0 then some (.aload_n 0, 1, 0, 0, false) else none)))))))
def qX6_partIsByFast (pc : Nat) : Option mIn :=
  (bif Nat.ble 28 pc then
   (bif Nat.ble 46 pc then
    (bif Nat.ble 55 pc then
     (bif Nat.ble 61 pc then
      (bif Nat.ble 64 pc then (bif Nat.ble 65 pc then (bif Nat.beq pc 65 then some (.ireturn, 1, 0, 0, false) else none) else (bif Nat.beq pc 64 then some (.iconst 0, 1, 0, 0, false) else none)) else (bif Nat.beq pc 61 then some (.goto (-59), 3, 2, 0, false) else none))
     else
      (bif Nat.ble 58 pc then (bif Nat.beq pc 58 then some (.iinc 2 1, 3, 0, 1, false) else none) else (bif Nat.beq pc 55 then some (.goto (-43), 3, 12, 0, false) else none)))
    else
     (bif Nat.ble 50 pc then
      (bif Nat.ble 51 pc then (bif Nat.ble 52 pc then (bif Nat.beq pc 52 then some (.iinc 3 1, 3, 0, 1, false) else none) else (bif Nat.beq pc 51 then some (.ireturn, 1, 0, 0, false) else none)) else (bif Nat.beq pc 50 then some (.iconst 1, 1, 0, 1, false) else none))
     else
      (bif Nat.ble 47 pc then (bif Nat.beq pc 47 then some (.if_icmp .ne 5, 3, 52, 0, false) else none) else (bif Nat.beq pc 46 then some (.iconst 4, 1, 0, 4, false) else none))))
   else
    (bif Nat.ble 36 pc then
     (bif Nat.ble 40 pc then
      (bif Nat.ble 43 pc then (bif Nat.ble 45 pc then (bif Nat.beq pc 45 then some (.iaload, 1, 0, 0, false) else none) else (bif Nat.beq pc 43 then some (.iload 4, 2, 0, 0, false) else none)) else (bif Nat.beq pc 40 then some (.getfield 54, 3, 0, 0, false) else none))
     else
      (bif Nat.ble 39 pc then (bif Nat.beq pc 39 then some (.aload_n 1, 1, 0, 0, false) else none) else (bif Nat.beq pc 36 then some (.if_icmp .eq 16, 3, 52, 0, false) else none)))
    else
     (bif Nat.ble 33 pc then (bif Nat.ble 35 pc then (bif Nat.beq pc 35 then some (.iconst (-1), 1, 0, -1, false) else none) else (bif Nat.beq pc 33 then some (.iload 4, 2, 0, 0, false) else none)) else (bif Nat.ble 31 pc then (bif Nat.beq pc 31 then some (.istore 4, 2, 0, 0, false) else none) else (bif Nat.beq pc 28 then some (.invokevirtual 96, 3, 0, 0, false) else none)))))
  else
   (bif Nat.ble 13 pc then
    (bif Nat.ble 21 pc then
     (bif Nat.ble 25 pc then
      (bif Nat.ble 26 pc then (bif Nat.ble 27 pc then (bif Nat.beq pc 27 then some (.iload_n 3, 1, 0, 0, false) else none) else (bif Nat.beq pc 26 then some (.iaload, 1, 0, 0, false) else none)) else (bif Nat.beq pc 25 then some (.iload_n 2, 1, 0, 0, false) else none))
     else
      (bif Nat.ble 22 pc then (bif Nat.beq pc 22 then some (.getfield 15, 3, 0, 0, false) else none) else (bif Nat.beq pc 21 then some (.aload_n 0, 1, 0, 0, false) else none)))
    else
     (bif Nat.ble 17 pc then (bif Nat.ble 18 pc then (bif Nat.beq pc 18 then some (.getfield 19, 3, 0, 0, false) else none) else (bif Nat.beq pc 17 then some (.aload_n 0, 1, 0, 0, false) else none)) else (bif Nat.ble 14 pc then (bif Nat.beq pc 14 then some (.if_icmp .ge 44, 3, 58, 0, false) else none) else (bif Nat.beq pc 13 then some (.iconst 4, 1, 0, 4, false) else none))))
   else
    (bif Nat.ble 4 pc then
     (bif Nat.ble 10 pc then
      (bif Nat.ble 11 pc then (bif Nat.ble 12 pc then (bif Nat.beq pc 12 then some (.iload_n 3, 1, 0, 0, true) else none) else (bif Nat.beq pc 11 then some (.istore_n 3, 1, 0, 0, false) else none)) else (bif Nat.beq pc 10 then some (.iconst 0, 1, 0, 0, false) else none))
     else
      (bif Nat.ble 7 pc then (bif Nat.beq pc 7 then some (.if_icmp .ge 57, 3, 64, 0, false) else none) else (bif Nat.beq pc 4 then some (.getfield 93, 3, 0, 0, false) else none)))
    else
     (bif Nat.ble 2 pc then (bif Nat.ble 3 pc then (bif Nat.beq pc 3 then some (.aload_n 0, 1, 0, 0, false) else none) else (bif Nat.beq pc 2 then some (.iload_n 2, 1, 0, 0, true) else none)) else (bif Nat.ble 1 pc then (bif Nat.beq pc 1 then some (.istore_n 2, 1, 0, 0, false) else none) else (bif Nat.beq pc 0 then some (.iconst 0, 1, 0, 0, false) else none))))))
def qX6_settleShore (pc : Nat) : Option mIn :=
  (bif Nat.ble 23 pc then
   (bif Nat.ble 35 pc then
    (bif Nat.ble 41 pc then
     (bif Nat.ble 45 pc then (bif Nat.ble 48 pc then (bif Nat.beq pc 48 then some (.return_, 1, 0, 0, false) else none) else (bif Nat.beq pc 45 then some (.goto (-43), 3, 2, 0, false) else none)) else (bif Nat.ble 42 pc then (bif Nat.beq pc 42 then some (.iinc 2 1, 3, 0, 1, false) else none) else (bif Nat.beq pc 41 then some (.iastore, 1, 0, 0, false) else none)))
    else
     (bif Nat.ble 37 pc then (bif Nat.ble 38 pc then (bif Nat.beq pc 38 then some (.invokevirtual 102, 3, 0, 0, false) else none) else (bif Nat.beq pc 37 then some (.iadd, 1, 0, 0, false) else none)) else (bif Nat.ble 36 pc then (bif Nat.beq pc 36 then some (.iconst 1, 1, 0, 1, false) else none) else (bif Nat.beq pc 35 then some (.iload_n 2, 1, 0, 0, false) else none))))
   else
    (bif Nat.ble 31 pc then
     (bif Nat.ble 33 pc then (bif Nat.ble 34 pc then (bif Nat.beq pc 34 then some (.iload_n 2, 1, 0, 0, false) else none) else (bif Nat.beq pc 33 then some (.aload_n 1, 1, 0, 0, false) else none)) else (bif Nat.ble 32 pc then (bif Nat.beq pc 32 then some (.aload_n 0, 1, 0, 0, false) else none) else (bif Nat.beq pc 31 then some (.iaload, 1, 0, 0, false) else none)))
    else
     (bif Nat.ble 27 pc then (bif Nat.ble 30 pc then (bif Nat.beq pc 30 then some (.iload_n 2, 1, 0, 0, false) else none) else (bif Nat.beq pc 27 then some (.getfield 15, 3, 0, 0, false) else none)) else (bif Nat.ble 26 pc then (bif Nat.beq pc 26 then some (.aload_n 0, 1, 0, 0, false) else none) else (bif Nat.beq pc 23 then some (.getfield 99, 3, 0, 0, false) else none)))))
  else
   (bif Nat.ble 11 pc then
    (bif Nat.ble 19 pc then
     (bif Nat.ble 21 pc then (bif Nat.ble 22 pc then (bif Nat.beq pc 22 then some (.aload_n 1, 1, 0, 0, false) else none) else (bif Nat.beq pc 21 then some (.iastore, 1, 0, 0, false) else none)) else (bif Nat.ble 20 pc then (bif Nat.beq pc 20 then some (.iconst 2, 1, 0, 2, false) else none) else (bif Nat.beq pc 19 then some (.iaload, 1, 0, 0, false) else none)))
    else
     (bif Nat.ble 15 pc then (bif Nat.ble 18 pc then (bif Nat.beq pc 18 then some (.iload_n 2, 1, 0, 0, false) else none) else (bif Nat.beq pc 15 then some (.getfield 15, 3, 0, 0, false) else none)) else (bif Nat.ble 14 pc then (bif Nat.beq pc 14 then some (.aload_n 0, 1, 0, 0, false) else none) else (bif Nat.beq pc 11 then some (.getfield 54, 3, 0, 0, false) else none))))
   else
    (bif Nat.ble 3 pc then
     (bif Nat.ble 7 pc then (bif Nat.ble 10 pc then (bif Nat.beq pc 10 then some (.aload_n 1, 1, 0, 0, false) else none) else (bif Nat.beq pc 7 then some (.if_icmp .ge 41, 3, 48, 0, false) else none)) else (bif Nat.ble 4 pc then (bif Nat.beq pc 4 then some (.getfield 93, 3, 0, 0, false) else none) else (bif Nat.beq pc 3 then some (.aload_n 0, 1, 0, 0, false) else none)))
    else
     (bif Nat.ble 1 pc then (bif Nat.ble 2 pc then (bif Nat.beq pc 2 then some (.iload_n 2, 1, 0, 0, true) else none) else (bif Nat.beq pc 1 then some (.istore_n 2, 1, 0, 0, false) else none)) else (bif Nat.beq pc 0 then some (.iconst 0, 1, 0, 0, false) else none)))))
def qX6_settleIsle (pc : Nat) : Option mIn :=
  (bif Nat.ble 26 pc then
   (bif Nat.ble 38 pc then
    (bif Nat.ble 44 pc then
     (bif Nat.ble 48 pc then (bif Nat.ble 51 pc then (bif Nat.beq pc 51 then some (.return_, 1, 0, 0, false) else none) else (bif Nat.beq pc 48 then some (.goto (-35), 3, 13, 0, false) else none)) else (bif Nat.ble 45 pc then (bif Nat.beq pc 45 then some (.iinc 3 1, 3, 0, 1, false) else none) else (bif Nat.beq pc 44 then some (.iastore, 1, 0, 0, false) else none)))
    else
     (bif Nat.ble 42 pc then (bif Nat.ble 43 pc then (bif Nat.beq pc 43 then some (.iload_n 2, 1, 0, 0, false) else none) else (bif Nat.beq pc 42 then some (.iaload, 1, 0, 0, false) else none)) else (bif Nat.ble 41 pc then (bif Nat.beq pc 41 then some (.iload_n 3, 1, 0, 0, false) else none) else (bif Nat.beq pc 38 then some (.getfield 15, 3, 0, 0, false) else none))))
   else
    (bif Nat.ble 32 pc then
     (bif Nat.ble 34 pc then (bif Nat.ble 37 pc then (bif Nat.beq pc 37 then some (.aload_n 0, 1, 0, 0, false) else none) else (bif Nat.beq pc 34 then some (.getfield 99, 3, 0, 0, false) else none)) else (bif Nat.ble 33 pc then (bif Nat.beq pc 33 then some (.aload_n 1, 1, 0, 0, false) else none) else (bif Nat.beq pc 32 then some (.iastore, 1, 0, 0, false) else none)))
    else
     (bif Nat.ble 30 pc then (bif Nat.ble 31 pc then (bif Nat.beq pc 31 then some (.iconst 3, 1, 0, 3, false) else none) else (bif Nat.beq pc 30 then some (.iaload, 1, 0, 0, false) else none)) else (bif Nat.ble 29 pc then (bif Nat.beq pc 29 then some (.iload_n 3, 1, 0, 0, false) else none) else (bif Nat.beq pc 26 then some (.getfield 15, 3, 0, 0, false) else none)))))
  else
   (bif Nat.ble 12 pc then
    (bif Nat.ble 18 pc then
     (bif Nat.ble 22 pc then (bif Nat.ble 25 pc then (bif Nat.beq pc 25 then some (.aload_n 0, 1, 0, 0, false) else none) else (bif Nat.beq pc 22 then some (.getfield 54, 3, 0, 0, false) else none)) else (bif Nat.ble 21 pc then (bif Nat.beq pc 21 then some (.aload_n 1, 1, 0, 0, false) else none) else (bif Nat.beq pc 18 then some (.if_icmp .ge 33, 3, 51, 0, false) else none)))
    else
     (bif Nat.ble 14 pc then (bif Nat.ble 15 pc then (bif Nat.beq pc 15 then some (.getfield 93, 3, 0, 0, false) else none) else (bif Nat.beq pc 14 then some (.aload_n 0, 1, 0, 0, false) else none)) else (bif Nat.ble 13 pc then (bif Nat.beq pc 13 then some (.iload_n 3, 1, 0, 0, true) else none) else (bif Nat.beq pc 12 then some (.istore_n 3, 1, 0, 0, false) else none))))
   else
    (bif Nat.ble 4 pc then
     (bif Nat.ble 10 pc then (bif Nat.ble 11 pc then (bif Nat.beq pc 11 then some (.iconst 0, 1, 0, 0, false) else none) else (bif Nat.beq pc 10 then some (.istore_n 2, 1, 0, 0, false) else none)) else (bif Nat.ble 7 pc then (bif Nat.beq pc 7 then some (.invokevirtual 102, 3, 0, 0, false) else none) else (bif Nat.beq pc 4 then some (.getfield 93, 3, 0, 0, false) else none)))
    else
     (bif Nat.ble 2 pc then (bif Nat.ble 3 pc then (bif Nat.beq pc 3 then some (.aload_n 0, 1, 0, 0, false) else none) else (bif Nat.beq pc 2 then some (.iconst 0, 1, 0, 0, false) else none)) else (bif Nat.ble 1 pc then (bif Nat.beq pc 1 then some (.aload_n 1, 1, 0, 0, false) else none) else (bif Nat.beq pc 0 then some (.aload_n 0, 1, 0, 0, false) else none))))))
def qX6_fastNearestTo (pc : Nat) : Option mIn :=
  (bif Nat.ble 42 pc then
   (bif Nat.ble 64 pc then
    (bif Nat.ble 75 pc then
     (bif Nat.ble 84 pc then
      (bif Nat.ble 87 pc then (bif Nat.ble 89 pc then (bif Nat.beq pc 89 then some (.ireturn, 1, 0, 0, false) else none) else (bif Nat.beq pc 87 then some (.iload 4, 2, 0, 0, false) else none)) else (bif Nat.beq pc 84 then some (.goto (-74), 3, 10, 0, false) else none))
     else
      (bif Nat.ble 78 pc then (bif Nat.ble 81 pc then (bif Nat.beq pc 81 then some (.iinc 6 1, 3, 0, 1, false) else none) else (bif Nat.beq pc 78 then some (.goto (-42), 3, 36, 0, false) else none)) else (bif Nat.beq pc 75 then some (.iinc 7 1, 3, 0, 1, false) else none)))
    else
     (bif Nat.ble 69 pc then
      (bif Nat.ble 71 pc then (bif Nat.ble 73 pc then (bif Nat.beq pc 73 then some (.istore 4, 2, 0, 0, false) else none) else (bif Nat.beq pc 71 then some (.iload 6, 2, 0, 0, false) else none)) else (bif Nat.beq pc 69 then some (.istore 5, 2, 0, 0, false) else none))
     else
      (bif Nat.ble 67 pc then (bif Nat.beq pc 67 then some (.iload 8, 2, 0, 0, false) else none) else (bif Nat.beq pc 64 then some (.if_icmp .ge 11, 3, 75, 0, false) else none))))
   else
    (bif Nat.ble 52 pc then
     (bif Nat.ble 58 pc then
      (bif Nat.ble 60 pc then (bif Nat.ble 62 pc then (bif Nat.beq pc 62 then some (.iload 5, 2, 0, 0, false) else none) else (bif Nat.beq pc 60 then some (.iload 8, 2, 0, 0, false) else none)) else (bif Nat.beq pc 58 then some (.istore 8, 2, 0, 0, false) else none))
     else
      (bif Nat.ble 54 pc then (bif Nat.ble 55 pc then (bif Nat.beq pc 55 then some (.invokevirtual 106, 3, 0, 0, false) else none) else (bif Nat.beq pc 54 then some (.iaload, 1, 0, 0, false) else none)) else (bif Nat.beq pc 52 then some (.iload 7, 2, 0, 0, false) else none)))
    else
     (bif Nat.ble 46 pc then
      (bif Nat.ble 48 pc then (bif Nat.ble 49 pc then (bif Nat.beq pc 49 then some (.getfield 15, 3, 0, 0, false) else none) else (bif Nat.beq pc 48 then some (.aload_n 0, 1, 0, 0, false) else none)) else (bif Nat.beq pc 46 then some (.iload 6, 2, 0, 0, false) else none))
     else
      (bif Nat.ble 43 pc then (bif Nat.beq pc 43 then some (.getfield 19, 3, 0, 0, false) else none) else (bif Nat.beq pc 42 then some (.aload_n 0, 1, 0, 0, false) else none)))))
  else
   (bif Nat.ble 22 pc then
    (bif Nat.ble 30 pc then
     (bif Nat.ble 36 pc then
      (bif Nat.ble 38 pc then (bif Nat.ble 39 pc then (bif Nat.beq pc 39 then some (.if_icmp .ge 42, 3, 81, 0, false) else none) else (bif Nat.beq pc 38 then some (.iload_n 3, 1, 0, 0, false) else none)) else (bif Nat.beq pc 36 then some (.iload 7, 2, 0, 0, true) else none))
     else
      (bif Nat.ble 33 pc then (bif Nat.ble 34 pc then (bif Nat.beq pc 34 then some (.istore 7, 2, 0, 0, false) else none) else (bif Nat.beq pc 33 then some (.iload_n 2, 1, 0, 0, false) else none)) else (bif Nat.beq pc 30 then some (.if_icmp .ne 51, 3, 81, 0, false) else none)))
    else
     (bif Nat.ble 26 pc then
      (bif Nat.ble 28 pc then (bif Nat.ble 29 pc then (bif Nat.beq pc 29 then some (.iconst 4, 1, 0, 4, false) else none) else (bif Nat.beq pc 28 then some (.iaload, 1, 0, 0, false) else none)) else (bif Nat.beq pc 26 then some (.iload 6, 2, 0, 0, false) else none))
     else
      (bif Nat.ble 23 pc then (bif Nat.beq pc 23 then some (.getfield 54, 3, 0, 0, false) else none) else (bif Nat.beq pc 22 then some (.aload_n 1, 1, 0, 0, false) else none))))
   else
    (bif Nat.ble 8 pc then
     (bif Nat.ble 13 pc then
      (bif Nat.ble 16 pc then (bif Nat.ble 19 pc then (bif Nat.beq pc 19 then some (.if_icmp .ge 68, 3, 87, 0, false) else none) else (bif Nat.beq pc 16 then some (.getfield 35, 3, 0, 0, false) else none)) else (bif Nat.beq pc 13 then some (.getfield 19, 3, 0, 0, false) else none))
     else
      (bif Nat.ble 10 pc then (bif Nat.ble 12 pc then (bif Nat.beq pc 12 then some (.aload_n 0, 1, 0, 0, false) else none) else (bif Nat.beq pc 10 then some (.iload 6, 2, 0, 0, true) else none)) else (bif Nat.beq pc 8 then some (.istore 6, 2, 0, 0, false) else none)))
    else
     (bif Nat.ble 3 pc then
      (bif Nat.ble 5 pc then (bif Nat.ble 7 pc then (bif Nat.beq pc 7 then some (.iconst 0, 1, 0, 0, false) else none) else (bif Nat.beq pc 5 then some (.istore 5, 2, 0, 0, false) else none)) else (bif Nat.beq pc 3 then some (.bipush 24, 2, 0, 24, false) else none))
     else
      (bif Nat.ble 1 pc then (bif Nat.beq pc 1 then some (.istore 4, 2, 0, 0, false) else none) else (bif Nat.beq pc 0 then some (.iconst (-1), 1, 0, -1, false) else none))))))
def qX7_land (pc : Nat) : Option mIn :=
  (bif Nat.ble 25 pc then
   (bif Nat.ble 40 pc then
    (bif Nat.ble 48 pc then
     (bif Nat.ble 54 pc then (bif Nat.ble 55 pc then (bif Nat.beq pc 55 then some (.ireturn, 1, 0, 0, false) else none) else (bif Nat.beq pc 54 then some (.iconst 1, 1, 0, 1, false) else none)) else (bif Nat.ble 51 pc then (bif Nat.beq pc 51 then some (.invokevirtual 73, 3, 0, 0, false) else none) else (bif Nat.beq pc 48 then some (.getfield 53, 3, 0, 0, false) else none)))
    else
     (bif Nat.ble 44 pc then (bif Nat.ble 47 pc then (bif Nat.beq pc 47 then some (.aload_n 0, 1, 0, 0, false) else none) else (bif Nat.beq pc 44 then some (.invokevirtual 72, 3, 0, 0, false) else none)) else (bif Nat.ble 41 pc then (bif Nat.beq pc 41 then some (.getfield 37, 3, 0, 0, false) else none) else (bif Nat.beq pc 40 then some (.aload_n 0, 1, 0, 0, false) else none))))
   else
    (bif Nat.ble 30 pc then
     (bif Nat.ble 34 pc then (bif Nat.ble 37 pc then (bif Nat.beq pc 37 then some (.invokevirtual 69, 3, 0, 0, false) else none) else (bif Nat.beq pc 34 then some (.getfield 30, 3, 0, 0, false) else none)) else (bif Nat.ble 33 pc then (bif Nat.beq pc 33 then some (.aload_n 0, 1, 0, 0, false) else none) else (bif Nat.beq pc 30 then some (.invokevirtual 65, 3, 0, 0, false) else none)))
    else
     (bif Nat.ble 28 pc then (bif Nat.ble 29 pc then (bif Nat.beq pc 29 then some (.iload_n 2, 1, 0, 0, false) else none) else (bif Nat.beq pc 28 then some (.iload_n 1, 1, 0, 0, false) else none)) else (bif Nat.beq pc 25 then some (.getfield 12, 3, 0, 0, false) else none))))
  else
   (bif Nat.ble 12 pc then
    (bif Nat.ble 19 pc then
     (bif Nat.ble 23 pc then (bif Nat.ble 24 pc then (bif Nat.beq pc 24 then some (.aload_n 0, 1, 0, 0, false) else none) else (bif Nat.beq pc 23 then some (.ireturn, 1, 0, 0, false) else none)) else (bif Nat.ble 22 pc then (bif Nat.beq pc 22 then some (.iconst 0, 1, 0, 0, false) else none) else (bif Nat.beq pc 19 then some (.if_icmp .le 5, 3, 24, 0, false) else none)))
    else
     (bif Nat.ble 16 pc then (bif Nat.ble 17 pc then (bif Nat.beq pc 17 then some (.bipush 12, 2, 0, 12, false) else none) else (bif Nat.beq pc 16 then some (.iload_n 2, 1, 0, 0, false) else none)) else (bif Nat.ble 13 pc then (bif Nat.beq pc 13 then some (.if_icmp .lt 9, 3, 22, 0, false) else none) else (bif Nat.beq pc 12 then some (.iconst 1, 1, 0, 1, false) else none))))
   else
    (bif Nat.ble 5 pc then
     (bif Nat.ble 8 pc then (bif Nat.ble 11 pc then (bif Nat.beq pc 11 then some (.iload_n 2, 1, 0, 0, false) else none) else (bif Nat.beq pc 8 then some (.if_icmp .gt 14, 3, 22, 0, false) else none)) else (bif Nat.ble 6 pc then (bif Nat.beq pc 6 then some (.bipush 12, 2, 0, 12, false) else none) else (bif Nat.beq pc 5 then some (.iload_n 1, 1, 0, 0, false) else none)))
    else
     (bif Nat.ble 1 pc then (bif Nat.ble 2 pc then (bif Nat.beq pc 2 then some (.if_icmp .lt 20, 3, 22, 0, false) else none) else (bif Nat.beq pc 1 then some (.iconst 1, 1, 0, 1, false) else none)) else (bif Nat.beq pc 0 then some (.iload_n 1, 1, 0, 0, false) else none)))))
def qX7_water (pc : Nat) : Option mIn :=
  (bif Nat.ble 18 pc then
   (bif Nat.ble 24 pc then
    (bif Nat.ble 28 pc then
     (bif Nat.ble 29 pc then (bif Nat.ble 32 pc then (bif Nat.beq pc 32 then some (.ireturn, 1, 0, 0, false) else none) else (bif Nat.beq pc 29 then some (.invokevirtual 84, 3, 0, 0, false) else none)) else (bif Nat.beq pc 28 then some (.iload_n 2, 1, 0, 0, false) else none))
    else
     (bif Nat.ble 27 pc then (bif Nat.beq pc 27 then some (.iload_n 1, 1, 0, 0, false) else none) else (bif Nat.beq pc 24 then some (.getfield 30, 3, 0, 0, false) else none)))
   else
    (bif Nat.ble 22 pc then (bif Nat.ble 23 pc then (bif Nat.beq pc 23 then some (.aload_n 0, 1, 0, 0, false) else none) else (bif Nat.beq pc 22 then some (.ireturn, 1, 0, 0, false) else none)) else (bif Nat.ble 21 pc then (bif Nat.beq pc 21 then some (.iconst (-1), 1, 0, -1, false) else none) else (bif Nat.beq pc 18 then some (.ifCond .eq 5, 3, 23, 0, false) else none))))
  else
   (bif Nat.ble 8 pc then
    (bif Nat.ble 12 pc then (bif Nat.ble 15 pc then (bif Nat.beq pc 15 then some (.invokevirtual 80, 3, 0, 0, false) else none) else (bif Nat.beq pc 12 then some (.getfield 30, 3, 0, 0, false) else none)) else (bif Nat.ble 11 pc then (bif Nat.beq pc 11 then some (.aload_n 0, 1, 0, 0, false) else none) else (bif Nat.beq pc 8 then some (.ifCond .eq 13, 3, 21, 0, false) else none)))
   else
    (bif Nat.ble 4 pc then (bif Nat.ble 5 pc then (bif Nat.beq pc 5 then some (.invokevirtual 76, 3, 0, 0, false) else none) else (bif Nat.beq pc 4 then some (.iload_n 1, 1, 0, 0, false) else none)) else (bif Nat.ble 1 pc then (bif Nat.beq pc 1 then some (.getfield 12, 3, 0, 0, false) else none) else (bif Nat.beq pc 0 then some (.aload_n 0, 1, 0, 0, false) else none)))))
def qX7_sheet (pc : Nat) : Option mIn :=
  (bif Nat.ble 65 pc then
   (bif Nat.ble 99 pc then
    (bif Nat.ble 116 pc then
     (bif Nat.ble 125 pc then
      (bif Nat.ble 129 pc then
       (bif Nat.ble 132 pc then (bif Nat.ble 134 pc then (bif Nat.beq pc 134 then some (.ireturn, 1, 0, 0, false) else none) else (bif Nat.beq pc 132 then some (.iload 7, 2, 0, 0, false) else none)) else (bif Nat.beq pc 129 then some (.goto (-47), 3, 82, 0, false) else none))
      else
       (bif Nat.ble 126 pc then (bif Nat.beq pc 126 then some (.iinc 8 1, 3, 0, 1, false) else none) else (bif Nat.beq pc 125 then some (.pop, 1, 0, 0, false) else none)))
     else
      (bif Nat.ble 120 pc then (bif Nat.ble 122 pc then (bif Nat.beq pc 122 then some (.invokevirtual 84, 3, 0, 0, false) else none) else (bif Nat.beq pc 120 then some (.iload 9, 2, 0, 0, false) else none)) else (bif Nat.ble 117 pc then (bif Nat.beq pc 117 then some (.goto 5, 3, 122, 0, false) else none) else (bif Nat.beq pc 116 then some (.iand, 1, 0, 0, false) else none))))
    else
     (bif Nat.ble 106 pc then
      (bif Nat.ble 108 pc then
       (bif Nat.ble 111 pc then (bif Nat.ble 113 pc then (bif Nat.beq pc 113 then some (.sipush 255, 3, 0, 255, false) else none) else (bif Nat.beq pc 111 then some (.iload 9, 2, 0, 0, false) else none)) else (bif Nat.beq pc 108 then some (.ifCond .ne 12, 3, 120, 0, false) else none))
      else
       (bif Nat.ble 107 pc then (bif Nat.beq pc 107 then some (.iload_n 2, 1, 0, 0, false) else none) else (bif Nat.beq pc 106 then some (.iadd, 1, 0, 0, false) else none)))
     else
      (bif Nat.ble 103 pc then (bif Nat.ble 104 pc then (bif Nat.beq pc 104 then some (.iload 8, 2, 0, 0, false) else none) else (bif Nat.beq pc 103 then some (.iload_n 1, 1, 0, 0, false) else none)) else (bif Nat.ble 100 pc then (bif Nat.beq pc 100 then some (.getfield 30, 3, 0, 0, false) else none) else (bif Nat.beq pc 99 then some (.aload_n 0, 1, 0, 0, false) else none)))))
   else
    (bif Nat.ble 82 pc then
     (bif Nat.ble 91 pc then
      (bif Nat.ble 95 pc then
       (bif Nat.ble 96 pc then (bif Nat.ble 97 pc then (bif Nat.beq pc 97 then some (.istore 9, 2, 0, 0, false) else none) else (bif Nat.beq pc 96 then some (.iadd, 1, 0, 0, false) else none)) else (bif Nat.beq pc 95 then some (.imul, 1, 0, 0, false) else none))
      else
       (bif Nat.ble 93 pc then (bif Nat.beq pc 93 then some (.iload 5, 2, 0, 0, false) else none) else (bif Nat.beq pc 91 then some (.iload 8, 2, 0, 0, false) else none)))
     else
      (bif Nat.ble 86 pc then (bif Nat.ble 89 pc then (bif Nat.beq pc 89 then some (.iload 4, 2, 0, 0, false) else none) else (bif Nat.beq pc 86 then some (.if_icmp .ge 46, 3, 132, 0, false) else none)) else (bif Nat.ble 84 pc then (bif Nat.beq pc 84 then some (.iload 7, 2, 0, 0, false) else none) else (bif Nat.beq pc 82 then some (.iload 8, 2, 0, 0, true) else none))))
    else
     (bif Nat.ble 73 pc then
      (bif Nat.ble 77 pc then
       (bif Nat.ble 79 pc then (bif Nat.ble 80 pc then (bif Nat.beq pc 80 then some (.istore 8, 2, 0, 0, false) else none) else (bif Nat.beq pc 79 then some (.iconst 0, 1, 0, 0, false) else none)) else (bif Nat.beq pc 77 then some (.istore 7, 2, 0, 0, false) else none))
      else
       (bif Nat.ble 74 pc then (bif Nat.beq pc 74 then some (.invokestatic 91, 3, 0, 0, false) else none) else (bif Nat.beq pc 73 then some (.isub, 1, 0, 0, false) else none)))
     else
      (bif Nat.ble 69 pc then (bif Nat.ble 72 pc then (bif Nat.beq pc 72 then some (.iload_n 1, 1, 0, 0, false) else none) else (bif Nat.beq pc 69 then some (.getfield 88, 3, 0, 0, false) else none)) else (bif Nat.ble 66 pc then (bif Nat.beq pc 66 then some (.getfield 12, 3, 0, 0, false) else none) else (bif Nat.beq pc 65 then some (.aload_n 0, 1, 0, 0, false) else none))))))
  else
   (bif Nat.ble 33 pc then
    (bif Nat.ble 51 pc then
     (bif Nat.ble 57 pc then
      (bif Nat.ble 61 pc then
       (bif Nat.ble 63 pc then (bif Nat.ble 64 pc then (bif Nat.beq pc 64 then some (.iload_n 3, 1, 0, 0, false) else none) else (bif Nat.beq pc 63 then some (.ireturn, 1, 0, 0, false) else none)) else (bif Nat.beq pc 61 then some (.bipush (-2), 2, 0, -2, false) else none))
      else
       (bif Nat.ble 58 pc then (bif Nat.beq pc 58 then some (.ifCond .ge 6, 3, 64, 0, false) else none) else (bif Nat.beq pc 57 then some (.iload_n 3, 1, 0, 0, false) else none)))
     else
      (bif Nat.ble 55 pc then (bif Nat.ble 56 pc then (bif Nat.beq pc 56 then some (.ireturn, 1, 0, 0, false) else none) else (bif Nat.beq pc 55 then some (.iconst 0, 1, 0, 0, false) else none)) else (bif Nat.ble 52 pc then (bif Nat.beq pc 52 then some (.if_icmp .ne 5, 3, 57, 0, false) else none) else (bif Nat.beq pc 51 then some (.iconst 2, 1, 0, 2, false) else none))))
    else
     (bif Nat.ble 42 pc then
      (bif Nat.ble 48 pc then
       (bif Nat.ble 49 pc then (bif Nat.ble 50 pc then (bif Nat.beq pc 50 then some (.iload_n 2, 1, 0, 0, false) else none) else (bif Nat.beq pc 49 then some (.ireturn, 1, 0, 0, false) else none)) else (bif Nat.beq pc 48 then some (.iconst (-1), 1, 0, -1, false) else none))
      else
       (bif Nat.ble 45 pc then (bif Nat.beq pc 45 then some (.ifCond .eq 5, 3, 50, 0, false) else none) else (bif Nat.beq pc 42 then some (.invokevirtual 80, 3, 0, 0, false) else none)))
     else
      (bif Nat.ble 38 pc then (bif Nat.ble 39 pc then (bif Nat.beq pc 39 then some (.getfield 30, 3, 0, 0, false) else none) else (bif Nat.beq pc 38 then some (.aload_n 0, 1, 0, 0, false) else none)) else (bif Nat.ble 35 pc then (bif Nat.beq pc 35 then some (.if_icmp .gt 13, 3, 48, 0, false) else none) else (bif Nat.beq pc 33 then some (.bipush 20, 2, 0, 20, false) else none)))))
   else
    (bif Nat.ble 14 pc then
     (bif Nat.ble 21 pc then
      (bif Nat.ble 27 pc then
       (bif Nat.ble 29 pc then (bif Nat.ble 32 pc then (bif Nat.beq pc 32 then some (.iload_n 3, 1, 0, 0, false) else none) else (bif Nat.beq pc 29 then some (.ifCond .eq 19, 3, 48, 0, false) else none)) else (bif Nat.beq pc 27 then some (.iload 6, 2, 0, 0, false) else none))
      else
       (bif Nat.ble 24 pc then (bif Nat.beq pc 24 then some (.ifCond .eq 24, 3, 48, 0, false) else none) else (bif Nat.beq pc 21 then some (.invokevirtual 76, 3, 0, 0, false) else none)))
     else
      (bif Nat.ble 17 pc then (bif Nat.ble 20 pc then (bif Nat.beq pc 20 then some (.iload_n 1, 1, 0, 0, false) else none) else (bif Nat.beq pc 17 then some (.getfield 12, 3, 0, 0, false) else none)) else (bif Nat.ble 16 pc then (bif Nat.beq pc 16 then some (.aload_n 0, 1, 0, 0, false) else none) else (bif Nat.beq pc 14 then some (.istore 6, 2, 0, 0, false) else none))))
    else
     (bif Nat.ble 6 pc then
      (bif Nat.ble 10 pc then (bif Nat.ble 13 pc then (bif Nat.beq pc 13 then some (.iconst 0, 1, 0, 0, false) else none) else (bif Nat.beq pc 10 then some (.goto 4, 3, 14, 0, false) else none)) else (bif Nat.ble 9 pc then (bif Nat.beq pc 9 then some (.iconst 1, 1, 0, 1, false) else none) else (bif Nat.beq pc 6 then some (.if_icmp .gt 7, 3, 13, 0, false) else none)))
     else
      (bif Nat.ble 4 pc then (bif Nat.ble 5 pc then (bif Nat.beq pc 5 then some (.iconst 2, 1, 0, 2, false) else none) else (bif Nat.beq pc 4 then some (.iload_n 2, 1, 0, 0, false) else none)) else (bif Nat.ble 1 pc then (bif Nat.beq pc 1 then some (.ifCond .lt 12, 3, 13, 0, false) else none) else (bif Nat.beq pc 0 then some (.iload_n 2, 1, 0, 0, false) else none)))))))
def qX7_map (pc : Nat) : Option mIn :=
  (bif Nat.ble 19 pc then
   (bif Nat.ble 30 pc then
    (bif Nat.ble 34 pc then
     (bif Nat.ble 35 pc then (bif Nat.ble 38 pc then (bif Nat.beq pc 38 then some (.ireturn, 1, 0, 0, false) else none) else (bif Nat.beq pc 35 then some (.invokevirtual 103, 3, 0, 0, false) else none)) else (bif Nat.beq pc 34 then some (.iload_n 1, 1, 0, 0, false) else none))
    else
     (bif Nat.ble 31 pc then (bif Nat.beq pc 31 then some (.getfield 30, 3, 0, 0, false) else none) else (bif Nat.beq pc 30 then some (.aload_n 0, 1, 0, 0, false) else none)))
   else
    (bif Nat.ble 25 pc then
     (bif Nat.ble 28 pc then (bif Nat.ble 29 pc then (bif Nat.beq pc 29 then some (.ireturn, 1, 0, 0, false) else none) else (bif Nat.beq pc 28 then some (.iconst (-1), 1, 0, -1, false) else none)) else (bif Nat.beq pc 25 then some (.if_icmp .gt 5, 3, 30, 0, false) else none))
    else
     (bif Nat.ble 22 pc then (bif Nat.beq pc 22 then some (.invokevirtual 99, 3, 0, 0, false) else none) else (bif Nat.beq pc 19 then some (.getfield 30, 3, 0, 0, false) else none))))
  else
   (bif Nat.ble 8 pc then
    (bif Nat.ble 14 pc then
     (bif Nat.ble 17 pc then (bif Nat.ble 18 pc then (bif Nat.beq pc 18 then some (.aload_n 0, 1, 0, 0, false) else none) else (bif Nat.beq pc 17 then some (.iload_n 1, 1, 0, 0, false) else none)) else (bif Nat.beq pc 14 then some (.ifCond .ne 14, 3, 28, 0, false) else none))
    else
     (bif Nat.ble 11 pc then (bif Nat.beq pc 11 then some (.invokevirtual 80, 3, 0, 0, false) else none) else (bif Nat.beq pc 8 then some (.getfield 30, 3, 0, 0, false) else none)))
   else
    (bif Nat.ble 4 pc then (bif Nat.ble 7 pc then (bif Nat.beq pc 7 then some (.aload_n 0, 1, 0, 0, false) else none) else (bif Nat.beq pc 4 then some (.ifCond .eq 24, 3, 28, 0, false) else none)) else (bif Nat.ble 1 pc then (bif Nat.beq pc 1 then some (.invokestatic 96, 3, 0, 0, false) else none) else (bif Nat.beq pc 0 then some (.iload_n 1, 1, 0, 0, false) else none)))))
def qX7_own (pc : Nat) : Option mIn :=
  (bif Nat.ble 30 pc then
   (bif Nat.ble 41 pc then
    (bif Nat.ble 45 pc then
     (bif Nat.ble 50 pc then (bif Nat.ble 51 pc then (bif Nat.beq pc 51 then some (.ireturn, 1, 0, 0, false) else none) else (bif Nat.beq pc 50 then some (.iconst 1, 1, 0, 1, false) else none)) else (bif Nat.ble 47 pc then (bif Nat.beq pc 47 then some (.invokevirtual 117, 3, 0, 0, false) else none) else (bif Nat.beq pc 45 then some (.iload 5, 2, 0, 0, false) else none)))
    else
     (bif Nat.ble 42 pc then (bif Nat.ble 43 pc then (bif Nat.beq pc 43 then some (.iload 4, 2, 0, 0, false) else none) else (bif Nat.beq pc 42 then some (.iload_n 3, 1, 0, 0, false) else none)) else (bif Nat.beq pc 41 then some (.iload_n 2, 1, 0, 0, false) else none)))
   else
    (bif Nat.ble 35 pc then
     (bif Nat.ble 37 pc then (bif Nat.ble 40 pc then (bif Nat.beq pc 40 then some (.iload_n 1, 1, 0, 0, false) else none) else (bif Nat.beq pc 37 then some (.getfield 53, 3, 0, 0, false) else none)) else (bif Nat.ble 36 pc then (bif Nat.beq pc 36 then some (.aload_n 0, 1, 0, 0, false) else none) else (bif Nat.beq pc 35 then some (.ireturn, 1, 0, 0, false) else none)))
    else
     (bif Nat.ble 31 pc then (bif Nat.ble 34 pc then (bif Nat.beq pc 34 then some (.iconst 0, 1, 0, 0, false) else none) else (bif Nat.beq pc 31 then some (.if_icmp .le 5, 3, 36, 0, false) else none)) else (bif Nat.beq pc 30 then some (.iconst 1, 1, 0, 1, false) else none))))
  else
   (bif Nat.ble 12 pc then
    (bif Nat.ble 20 pc then
     (bif Nat.ble 24 pc then (bif Nat.ble 27 pc then (bif Nat.beq pc 27 then some (.getfield 114, 3, 0, 0, false) else none) else (bif Nat.beq pc 24 then some (.getfield 30, 3, 0, 0, false) else none)) else (bif Nat.ble 23 pc then (bif Nat.beq pc 23 then some (.aload_n 0, 1, 0, 0, false) else none) else (bif Nat.beq pc 20 then some (.ifCond .eq 14, 3, 34, 0, false) else none)))
    else
     (bif Nat.ble 15 pc then (bif Nat.ble 17 pc then (bif Nat.beq pc 17 then some (.invokestatic 111, 3, 0, 0, false) else none) else (bif Nat.beq pc 15 then some (.iload 5, 2, 0, 0, false) else none)) else (bif Nat.beq pc 12 then some (.ifCond .eq 22, 3, 34, 0, false) else none)))
   else
    (bif Nat.ble 5 pc then
     (bif Nat.ble 7 pc then (bif Nat.ble 9 pc then (bif Nat.beq pc 9 then some (.invokevirtual 107, 3, 0, 0, false) else none) else (bif Nat.beq pc 7 then some (.iload 4, 2, 0, 0, false) else none)) else (bif Nat.ble 6 pc then (bif Nat.beq pc 6 then some (.iload_n 3, 1, 0, 0, false) else none) else (bif Nat.beq pc 5 then some (.iload_n 2, 1, 0, 0, false) else none)))
    else
     (bif Nat.ble 1 pc then (bif Nat.ble 4 pc then (bif Nat.beq pc 4 then some (.iload_n 1, 1, 0, 0, false) else none) else (bif Nat.beq pc 1 then some (.getfield 12, 3, 0, 0, false) else none)) else (bif Nat.beq pc 0 then some (.aload_n 0, 1, 0, 0, false) else none)))))
def qX7_deed (pc : Nat) : Option mIn :=
  (bif Nat.ble 32 pc then
   (bif Nat.ble 47 pc then
    (bif Nat.ble 52 pc then
     (bif Nat.ble 56 pc then (bif Nat.ble 59 pc then (bif Nat.beq pc 59 then some (.ireturn, 1, 0, 0, false) else none) else (bif Nat.beq pc 56 then some (.invokevirtual 125, 3, 0, 0, false) else none)) else (bif Nat.ble 54 pc then (bif Nat.beq pc 54 then some (.iload 6, 2, 0, 0, false) else none) else (bif Nat.beq pc 52 then some (.iload 5, 2, 0, 0, false) else none)))
    else
     (bif Nat.ble 49 pc then (bif Nat.ble 50 pc then (bif Nat.beq pc 50 then some (.iload 4, 2, 0, 0, false) else none) else (bif Nat.beq pc 49 then some (.iload_n 3, 1, 0, 0, false) else none)) else (bif Nat.ble 48 pc then (bif Nat.beq pc 48 then some (.iload_n 2, 1, 0, 0, false) else none) else (bif Nat.beq pc 47 then some (.iload_n 1, 1, 0, 0, false) else none))))
   else
    (bif Nat.ble 41 pc then
     (bif Nat.ble 43 pc then (bif Nat.ble 44 pc then (bif Nat.beq pc 44 then some (.getfield 37, 3, 0, 0, false) else none) else (bif Nat.beq pc 43 then some (.aload_n 0, 1, 0, 0, false) else none)) else (bif Nat.ble 42 pc then (bif Nat.beq pc 42 then some (.ireturn, 1, 0, 0, false) else none) else (bif Nat.beq pc 41 then some (.iconst (-1), 1, 0, -1, false) else none)))
    else
     (bif Nat.ble 35 pc then (bif Nat.ble 38 pc then (bif Nat.beq pc 38 then some (.ifCond .eq 5, 3, 43, 0, false) else none) else (bif Nat.beq pc 35 then some (.invokevirtual 124, 3, 0, 0, false) else none)) else (bif Nat.beq pc 32 then some (.getfield 37, 3, 0, 0, false) else none))))
  else
   (bif Nat.ble 12 pc then
    (bif Nat.ble 23 pc then
     (bif Nat.ble 28 pc then (bif Nat.ble 31 pc then (bif Nat.beq pc 31 then some (.aload_n 0, 1, 0, 0, false) else none) else (bif Nat.beq pc 28 then some (.ifCond .eq 13, 3, 41, 0, false) else none)) else (bif Nat.ble 25 pc then (bif Nat.beq pc 25 then some (.invokestatic 96, 3, 0, 0, false) else none) else (bif Nat.beq pc 23 then some (.iload 6, 2, 0, 0, false) else none)))
    else
     (bif Nat.ble 17 pc then (bif Nat.ble 20 pc then (bif Nat.beq pc 20 then some (.ifCond .eq 21, 3, 41, 0, false) else none) else (bif Nat.beq pc 17 then some (.invokestatic 121, 3, 0, 0, false) else none)) else (bif Nat.ble 15 pc then (bif Nat.beq pc 15 then some (.iload 5, 2, 0, 0, false) else none) else (bif Nat.beq pc 12 then some (.ifCond .eq 29, 3, 41, 0, false) else none))))
   else
    (bif Nat.ble 5 pc then
     (bif Nat.ble 7 pc then (bif Nat.ble 9 pc then (bif Nat.beq pc 9 then some (.invokevirtual 107, 3, 0, 0, false) else none) else (bif Nat.beq pc 7 then some (.iload 4, 2, 0, 0, false) else none)) else (bif Nat.ble 6 pc then (bif Nat.beq pc 6 then some (.iload_n 3, 1, 0, 0, false) else none) else (bif Nat.beq pc 5 then some (.iload_n 2, 1, 0, 0, false) else none)))
    else
     (bif Nat.ble 1 pc then (bif Nat.ble 4 pc then (bif Nat.beq pc 4 then some (.iload_n 1, 1, 0, 0, false) else none) else (bif Nat.beq pc 1 then some (.getfield 12, 3, 0, 0, false) else none)) else (bif Nat.beq pc 0 then some (.aload_n 0, 1, 0, 0, false) else none)))))
def qX7_strike (pc : Nat) : Option mIn :=
  (bif Nat.ble 13 pc then
   (bif Nat.ble 21 pc then
    (bif Nat.ble 23 pc then (bif Nat.ble 24 pc then (bif Nat.beq pc 24 then some (.ireturn, 1, 0, 0, false) else none) else (bif Nat.beq pc 23 then some (.iconst 1, 1, 0, 1, false) else none)) else (bif Nat.ble 22 pc then (bif Nat.beq pc 22 then some (.bastore, 1, 0, 0, false) else none) else (bif Nat.beq pc 21 then some (.iload_n 2, 1, 0, 0, false) else none)))
   else
    (bif Nat.ble 17 pc then (bif Nat.ble 20 pc then (bif Nat.beq pc 20 then some (.iload_n 1, 1, 0, 0, false) else none) else (bif Nat.beq pc 17 then some (.getfield 131, 3, 0, 0, false) else none)) else (bif Nat.ble 14 pc then (bif Nat.beq pc 14 then some (.getfield 37, 3, 0, 0, false) else none) else (bif Nat.beq pc 13 then some (.aload_n 0, 1, 0, 0, false) else none))))
  else
   (bif Nat.ble 5 pc then
    (bif Nat.ble 11 pc then (bif Nat.ble 12 pc then (bif Nat.beq pc 12 then some (.ireturn, 1, 0, 0, false) else none) else (bif Nat.beq pc 11 then some (.iconst 0, 1, 0, 0, false) else none)) else (bif Nat.ble 8 pc then (bif Nat.beq pc 8 then some (.ifCond .ne 5, 3, 13, 0, false) else none) else (bif Nat.beq pc 5 then some (.invokevirtual 128, 3, 0, 0, false) else none)))
   else
    (bif Nat.ble 1 pc then (bif Nat.ble 4 pc then (bif Nat.beq pc 4 then some (.iload_n 1, 1, 0, 0, false) else none) else (bif Nat.beq pc 1 then some (.getfield 37, 3, 0, 0, false) else none)) else (bif Nat.beq pc 0 then some (.aload_n 0, 1, 0, 0, false) else none))))
def qX7_law (pc : Nat) : Option mIn :=
  (bif Nat.ble 35 pc then
   (bif Nat.ble 57 pc then
    (bif Nat.ble 64 pc then
     (bif Nat.ble 66 pc then
      (bif Nat.ble 68 pc then (bif Nat.ble 71 pc then (bif Nat.beq pc 71 then some (.ireturn, 1, 0, 0, false) else none) else (bif Nat.beq pc 68 then some (.invokevirtual 140, 3, 0, 0, false) else none)) else (bif Nat.beq pc 66 then some (.iload 4, 2, 0, 0, false) else none))
     else
      (bif Nat.ble 65 pc then (bif Nat.beq pc 65 then some (.iload_n 3, 1, 0, 0, false) else none) else (bif Nat.beq pc 64 then some (.iload_n 2, 1, 0, 0, false) else none)))
    else
     (bif Nat.ble 59 pc then
      (bif Nat.ble 60 pc then (bif Nat.ble 63 pc then (bif Nat.beq pc 63 then some (.iload_n 1, 1, 0, 0, false) else none) else (bif Nat.beq pc 60 then some (.getfield 44, 3, 0, 0, false) else none)) else (bif Nat.beq pc 59 then some (.aload_n 0, 1, 0, 0, false) else none))
     else
      (bif Nat.ble 58 pc then (bif Nat.beq pc 58 then some (.ireturn, 1, 0, 0, false) else none) else (bif Nat.beq pc 57 then some (.iconst (-1), 1, 0, -1, false) else none))))
   else
    (bif Nat.ble 44 pc then
     (bif Nat.ble 48 pc then
      (bif Nat.ble 51 pc then (bif Nat.ble 54 pc then (bif Nat.beq pc 54 then some (.ifCond .eq 5, 3, 59, 0, false) else none) else (bif Nat.beq pc 51 then some (.invokevirtual 139, 3, 0, 0, false) else none)) else (bif Nat.beq pc 48 then some (.getfield 44, 3, 0, 0, false) else none))
     else
      (bif Nat.ble 47 pc then (bif Nat.beq pc 47 then some (.aload_n 0, 1, 0, 0, false) else none) else (bif Nat.beq pc 44 then some (.ifCond .eq 13, 3, 57, 0, false) else none)))
    else
     (bif Nat.ble 39 pc then (bif Nat.ble 42 pc then (bif Nat.beq pc 42 then some (.iload 5, 2, 0, 0, false) else none) else (bif Nat.beq pc 39 then some (.ifCond .eq 18, 3, 57, 0, false) else none)) else (bif Nat.ble 36 pc then (bif Nat.beq pc 36 then some (.invokestatic 96, 3, 0, 0, false) else none) else (bif Nat.beq pc 35 then some (.iload_n 1, 1, 0, 0, false) else none)))))
  else
   (bif Nat.ble 15 pc then
    (bif Nat.ble 25 pc then
     (bif Nat.ble 29 pc then
      (bif Nat.ble 32 pc then (bif Nat.ble 33 pc then (bif Nat.beq pc 33 then some (.istore 5, 2, 0, 0, false) else none) else (bif Nat.beq pc 32 then some (.iconst 0, 1, 0, 0, false) else none)) else (bif Nat.beq pc 29 then some (.goto 4, 3, 33, 0, false) else none))
     else
      (bif Nat.ble 28 pc then (bif Nat.beq pc 28 then some (.iconst 1, 1, 0, 1, false) else none) else (bif Nat.beq pc 25 then some (.ifCond .eq 7, 3, 32, 0, false) else none)))
    else
     (bif Nat.ble 20 pc then
      (bif Nat.ble 21 pc then (bif Nat.ble 22 pc then (bif Nat.beq pc 22 then some (.invokestatic 135, 3, 0, 0, false) else none) else (bif Nat.beq pc 21 then some (.iconst 2, 1, 0, 2, false) else none)) else (bif Nat.beq pc 20 then some (.iconst 0, 1, 0, 0, false) else none))
     else
      (bif Nat.ble 18 pc then (bif Nat.beq pc 18 then some (.iload 4, 2, 0, 0, false) else none) else (bif Nat.beq pc 15 then some (.ifCond .eq 17, 3, 32, 0, false) else none))))
   else
    (bif Nat.ble 6 pc then
     (bif Nat.ble 10 pc then
      (bif Nat.ble 11 pc then (bif Nat.ble 12 pc then (bif Nat.beq pc 12 then some (.invokestatic 135, 3, 0, 0, false) else none) else (bif Nat.beq pc 11 then some (.iconst 1, 1, 0, 1, false) else none)) else (bif Nat.beq pc 10 then some (.iconst 0, 1, 0, 0, false) else none))
     else
      (bif Nat.ble 9 pc then (bif Nat.beq pc 9 then some (.iload_n 3, 1, 0, 0, false) else none) else (bif Nat.beq pc 6 then some (.ifCond .eq 26, 3, 32, 0, false) else none)))
    else
     (bif Nat.ble 2 pc then (bif Nat.ble 3 pc then (bif Nat.beq pc 3 then some (.invokestatic 135, 3, 0, 0, false) else none) else (bif Nat.beq pc 2 then some (.iconst 1, 1, 0, 1, false) else none)) else (bif Nat.ble 1 pc then (bif Nat.beq pc 1 then some (.iconst 0, 1, 0, 0, false) else none) else (bif Nat.beq pc 0 then some (.iload_n 2, 1, 0, 0, false) else none))))))
def qX7_reach (pc : Nat) : Option mIn :=
  (bif Nat.ble 13 pc then
   (bif Nat.ble 21 pc then
    (bif Nat.ble 25 pc then
     (bif Nat.ble 28 pc then (bif Nat.ble 29 pc then (bif Nat.beq pc 29 then some (.ireturn, 1, 0, 0, false) else none) else (bif Nat.beq pc 28 then some (.iload_n 2, 1, 0, 0, false) else none)) else (bif Nat.beq pc 25 then some (.putfield 143, 3, 0, 0, false) else none))
    else
     (bif Nat.ble 24 pc then (bif Nat.beq pc 24 then some (.iload_n 1, 1, 0, 0, false) else none) else (bif Nat.beq pc 21 then some (.getfield 30, 3, 0, 0, false) else none)))
   else
    (bif Nat.ble 19 pc then (bif Nat.ble 20 pc then (bif Nat.beq pc 20 then some (.aload_n 0, 1, 0, 0, false) else none) else (bif Nat.beq pc 19 then some (.istore_n 2, 1, 0, 0, false) else none)) else (bif Nat.ble 16 pc then (bif Nat.beq pc 16 then some (.getfield 143, 3, 0, 0, false) else none) else (bif Nat.beq pc 13 then some (.getfield 30, 3, 0, 0, false) else none))))
  else
   (bif Nat.ble 7 pc then
    (bif Nat.ble 11 pc then (bif Nat.ble 12 pc then (bif Nat.beq pc 12 then some (.aload_n 0, 1, 0, 0, false) else none) else (bif Nat.beq pc 11 then some (.ireturn, 1, 0, 0, false) else none)) else (bif Nat.ble 10 pc then (bif Nat.beq pc 10 then some (.iconst (-1), 1, 0, -1, false) else none) else (bif Nat.beq pc 7 then some (.ifCond .ne 5, 3, 12, 0, false) else none)))
   else
    (bif Nat.ble 2 pc then (bif Nat.ble 4 pc then (bif Nat.beq pc 4 then some (.invokestatic 135, 3, 0, 0, false) else none) else (bif Nat.beq pc 2 then some (.bipush 12, 2, 0, 12, false) else none)) else (bif Nat.ble 1 pc then (bif Nat.beq pc 1 then some (.iconst 1, 1, 0, 1, false) else none) else (bif Nat.beq pc 0 then some (.iload_n 1, 1, 0, 0, false) else none)))))
def qX7_judge (pc : Nat) : Option mIn :=
  (bif Nat.ble 20 pc then
   (bif Nat.ble 29 pc then
    (bif Nat.ble 32 pc then
     (bif Nat.ble 35 pc then (bif Nat.ble 36 pc then (bif Nat.beq pc 36 then some (.ireturn, 1, 0, 0, false) else none) else (bif Nat.beq pc 35 then some (.iconst 1, 1, 0, 1, false) else none)) else (bif Nat.beq pc 32 then some (.putfield 153, 3, 0, 0, false) else none))
    else
     (bif Nat.ble 30 pc then (bif Nat.ble 31 pc then (bif Nat.beq pc 31 then some (.iload_n 2, 1, 0, 0, false) else none) else (bif Nat.beq pc 30 then some (.aaload, 1, 0, 0, false) else none)) else (bif Nat.beq pc 29 then some (.iload_n 1, 1, 0, 0, false) else none)))
   else
    (bif Nat.ble 22 pc then
     (bif Nat.ble 23 pc then (bif Nat.ble 26 pc then (bif Nat.beq pc 26 then some (.getfield 149, 3, 0, 0, false) else none) else (bif Nat.beq pc 23 then some (.getfield 30, 3, 0, 0, false) else none)) else (bif Nat.beq pc 22 then some (.aload_n 0, 1, 0, 0, false) else none))
    else
     (bif Nat.ble 21 pc then (bif Nat.beq pc 21 then some (.ireturn, 1, 0, 0, false) else none) else (bif Nat.beq pc 20 then some (.iconst 0, 1, 0, 0, false) else none))))
  else
   (bif Nat.ble 11 pc then
    (bif Nat.ble 13 pc then
     (bif Nat.ble 14 pc then (bif Nat.ble 17 pc then (bif Nat.beq pc 17 then some (.ifCond .ne 5, 3, 22, 0, false) else none) else (bif Nat.beq pc 14 then some (.invokestatic 135, 3, 0, 0, false) else none)) else (bif Nat.beq pc 13 then some (.iconst 1, 1, 0, 1, false) else none))
    else
     (bif Nat.ble 12 pc then (bif Nat.beq pc 12 then some (.iconst (-1), 1, 0, -1, false) else none) else (bif Nat.beq pc 11 then some (.iload_n 2, 1, 0, 0, false) else none)))
   else
    (bif Nat.ble 4 pc then
     (bif Nat.ble 5 pc then (bif Nat.ble 8 pc then (bif Nat.beq pc 8 then some (.ifCond .eq 12, 3, 20, 0, false) else none) else (bif Nat.beq pc 5 then some (.invokevirtual 146, 3, 0, 0, false) else none)) else (bif Nat.beq pc 4 then some (.iload_n 1, 1, 0, 0, false) else none))
    else
     (bif Nat.ble 1 pc then (bif Nat.beq pc 1 then some (.getfield 30, 3, 0, 0, false) else none) else (bif Nat.beq pc 0 then some (.aload_n 0, 1, 0, 0, false) else none)))))
def qX7_count (pc : Nat) : Option mIn :=
  (bif Nat.ble 79 pc then
   (bif Nat.ble 96 pc then
    (bif Nat.ble 104 pc then
     (bif Nat.ble 108 pc then
      (bif Nat.ble 109 pc then (bif Nat.ble 110 pc then (bif Nat.beq pc 110 then some (.ireturn, 1, 0, 0, false) else none) else (bif Nat.beq pc 109 then some (.iconst (-1), 1, 0, -1, false) else none)) else (bif Nat.beq pc 108 then some (.ireturn, 1, 0, 0, false) else none))
     else
      (bif Nat.ble 105 pc then (bif Nat.beq pc 105 then some (.getfield 61, 3, 0, 0, false) else none) else (bif Nat.beq pc 104 then some (.aload_n 0, 1, 0, 0, false) else none)))
    else
     (bif Nat.ble 100 pc then (bif Nat.ble 103 pc then (bif Nat.beq pc 103 then some (.ireturn, 1, 0, 0, false) else none) else (bif Nat.beq pc 100 then some (.getfield 143, 3, 0, 0, false) else none)) else (bif Nat.ble 97 pc then (bif Nat.beq pc 97 then some (.getfield 30, 3, 0, 0, false) else none) else (bif Nat.beq pc 96 then some (.aload_n 0, 1, 0, 0, false) else none))))
   else
    (bif Nat.ble 87 pc then
     (bif Nat.ble 89 pc then
      (bif Nat.ble 92 pc then (bif Nat.ble 95 pc then (bif Nat.beq pc 95 then some (.ireturn, 1, 0, 0, false) else none) else (bif Nat.beq pc 92 then some (.getfield 167, 3, 0, 0, false) else none)) else (bif Nat.beq pc 89 then some (.getfield 44, 3, 0, 0, false) else none))
     else
      (bif Nat.ble 88 pc then (bif Nat.beq pc 88 then some (.aload_n 0, 1, 0, 0, false) else none) else (bif Nat.beq pc 87 then some (.ireturn, 1, 0, 0, false) else none)))
    else
     (bif Nat.ble 81 pc then (bif Nat.ble 84 pc then (bif Nat.beq pc 84 then some (.invokevirtual 164, 3, 0, 0, false) else none) else (bif Nat.beq pc 81 then some (.getfield 37, 3, 0, 0, false) else none)) else (bif Nat.ble 80 pc then (bif Nat.beq pc 80 then some (.aload_n 0, 1, 0, 0, false) else none) else (bif Nat.beq pc 79 then some (.ireturn, 1, 0, 0, false) else none)))))
  else
   (bif Nat.ble 60 pc then
    (bif Nat.ble 68 pc then
     (bif Nat.ble 72 pc then
      (bif Nat.ble 73 pc then (bif Nat.ble 76 pc then (bif Nat.beq pc 76 then some (.getfield 161, 3, 0, 0, false) else none) else (bif Nat.beq pc 73 then some (.getfield 37, 3, 0, 0, false) else none)) else (bif Nat.beq pc 72 then some (.aload_n 0, 1, 0, 0, false) else none))
     else
      (bif Nat.ble 71 pc then (bif Nat.beq pc 71 then some (.ireturn, 1, 0, 0, false) else none) else (bif Nat.beq pc 68 then some (.getfield 114, 3, 0, 0, false) else none)))
    else
     (bif Nat.ble 64 pc then (bif Nat.ble 65 pc then (bif Nat.beq pc 65 then some (.getfield 30, 3, 0, 0, false) else none) else (bif Nat.beq pc 64 then some (.aload_n 0, 1, 0, 0, false) else none)) else (bif Nat.ble 63 pc then (bif Nat.beq pc 63 then some (.ireturn, 1, 0, 0, false) else none) else (bif Nat.beq pc 60 then some (.getfield 88, 3, 0, 0, false) else none))))
   else
    (bif Nat.ble 52 pc then
     (bif Nat.ble 56 pc then (bif Nat.ble 57 pc then (bif Nat.beq pc 57 then some (.getfield 12, 3, 0, 0, false) else none) else (bif Nat.beq pc 56 then some (.aload_n 0, 1, 0, 0, false) else none)) else (bif Nat.ble 55 pc then (bif Nat.beq pc 55 then some (.ireturn, 1, 0, 0, false) else none) else (bif Nat.beq pc 52 then some (.getfield 158, 3, 0, 0, false) else none)))
    else
     (bif Nat.ble 48 pc then (bif Nat.ble 49 pc then (bif Nat.beq pc 49 then some (.getfield 12, 3, 0, 0, false) else none) else (bif Nat.beq pc 48 then some (.aload_n 0, 1, 0, 0, false) else none)) else (bif Nat.ble 1 pc then (bif Nat.beq pc 1 then some (.tableswitch 108 0 7 #[47, 55, 63, 71, 79, 87, 95, 103], 47, 0, 0, false) else none) else (bif Nat.beq pc 0 then some (.iload_n 1, 1, 0, 0, false) else none))))))
def qX7_wet (pc : Nat) : Option mIn :=
  (bif Nat.ble 31 pc then
   (bif Nat.ble 44 pc then
    (bif Nat.ble 54 pc then
     (bif Nat.ble 58 pc then (bif Nat.ble 59 pc then (bif Nat.beq pc 59 then some (.ireturn, 1, 0, 0, false) else none) else (bif Nat.beq pc 58 then some (.iconst 1, 1, 0, 1, false) else none)) else (bif Nat.ble 55 pc then (bif Nat.beq pc 55 then some (.goto 4, 3, 59, 0, false) else none) else (bif Nat.beq pc 54 then some (.iconst 0, 1, 0, 0, false) else none)))
    else
     (bif Nat.ble 48 pc then (bif Nat.ble 51 pc then (bif Nat.beq pc 51 then some (.ifCond .eq 7, 3, 58, 0, false) else none) else (bif Nat.beq pc 48 then some (.invokevirtual 183, 3, 0, 0, false) else none)) else (bif Nat.ble 45 pc then (bif Nat.beq pc 45 then some (.invokevirtual 180, 3, 0, 0, false) else none) else (bif Nat.beq pc 44 then some (.iload_n 2, 1, 0, 0, false) else none))))
   else
    (bif Nat.ble 36 pc then
     (bif Nat.ble 40 pc then (bif Nat.ble 43 pc then (bif Nat.beq pc 43 then some (.iload_n 1, 1, 0, 0, false) else none) else (bif Nat.beq pc 40 then some (.getfield 12, 3, 0, 0, false) else none)) else (bif Nat.ble 39 pc then (bif Nat.beq pc 39 then some (.aload_n 0, 1, 0, 0, false) else none) else (bif Nat.beq pc 36 then some (.invokevirtual 176, 3, 0, 0, false) else none)))
    else
     (bif Nat.ble 32 pc then (bif Nat.ble 35 pc then (bif Nat.beq pc 35 then some (.iload_n 3, 1, 0, 0, false) else none) else (bif Nat.beq pc 32 then some (.getfield 30, 3, 0, 0, false) else none)) else (bif Nat.beq pc 31 then some (.aload_n 0, 1, 0, 0, false) else none))))
  else
   (bif Nat.ble 13 pc then
    (bif Nat.ble 23 pc then
     (bif Nat.ble 29 pc then (bif Nat.ble 30 pc then (bif Nat.beq pc 30 then some (.ireturn, 1, 0, 0, false) else none) else (bif Nat.beq pc 29 then some (.iconst (-1), 1, 0, -1, false) else none)) else (bif Nat.ble 26 pc then (bif Nat.beq pc 26 then some (.ifCond .eq 5, 3, 31, 0, false) else none) else (bif Nat.beq pc 23 then some (.invokevirtual 173, 3, 0, 0, false) else none)))
    else
     (bif Nat.ble 19 pc then (bif Nat.ble 20 pc then (bif Nat.beq pc 20 then some (.getfield 30, 3, 0, 0, false) else none) else (bif Nat.beq pc 19 then some (.aload_n 0, 1, 0, 0, false) else none)) else (bif Nat.ble 16 pc then (bif Nat.beq pc 16 then some (.ifCond .eq 13, 3, 29, 0, false) else none) else (bif Nat.beq pc 13 then some (.invokestatic 96, 3, 0, 0, false) else none))))
   else
    (bif Nat.ble 5 pc then
     (bif Nat.ble 9 pc then (bif Nat.ble 12 pc then (bif Nat.beq pc 12 then some (.iload_n 3, 1, 0, 0, false) else none) else (bif Nat.beq pc 9 then some (.ifCond .eq 20, 3, 29, 0, false) else none)) else (bif Nat.ble 6 pc then (bif Nat.beq pc 6 then some (.invokevirtual 170, 3, 0, 0, false) else none) else (bif Nat.beq pc 5 then some (.iload_n 2, 1, 0, 0, false) else none)))
    else
     (bif Nat.ble 1 pc then (bif Nat.ble 4 pc then (bif Nat.beq pc 4 then some (.iload_n 1, 1, 0, 0, false) else none) else (bif Nat.beq pc 1 then some (.getfield 12, 3, 0, 0, false) else none)) else (bif Nat.beq pc 0 then some (.aload_n 0, 1, 0, 0, false) else none)))))
def qX7_owner (pc : Nat) : Option mIn :=
  (bif Nat.ble 32 pc then
   (bif Nat.ble 45 pc then
    (bif Nat.ble 53 pc then
     (bif Nat.ble 57 pc then (bif Nat.ble 58 pc then (bif Nat.beq pc 58 then some (.ireturn, 1, 0, 0, false) else none) else (bif Nat.beq pc 57 then some (.iaload, 1, 0, 0, false) else none)) else (bif Nat.ble 54 pc then (bif Nat.beq pc 54 then some (.invokevirtual 180, 3, 0, 0, false) else none) else (bif Nat.beq pc 53 then some (.iload_n 2, 1, 0, 0, false) else none)))
    else
     (bif Nat.ble 49 pc then (bif Nat.ble 52 pc then (bif Nat.beq pc 52 then some (.iload_n 1, 1, 0, 0, false) else none) else (bif Nat.beq pc 49 then some (.getfield 12, 3, 0, 0, false) else none)) else (bif Nat.ble 48 pc then (bif Nat.beq pc 48 then some (.aload_n 0, 1, 0, 0, false) else none) else (bif Nat.beq pc 45 then some (.getfield 189, 3, 0, 0, false) else none))))
   else
    (bif Nat.ble 37 pc then
     (bif Nat.ble 41 pc then (bif Nat.ble 42 pc then (bif Nat.beq pc 42 then some (.getfield 53, 3, 0, 0, false) else none) else (bif Nat.beq pc 41 then some (.aload_n 0, 1, 0, 0, false) else none)) else (bif Nat.ble 38 pc then (bif Nat.beq pc 38 then some (.invokevirtual 186, 3, 0, 0, false) else none) else (bif Nat.beq pc 37 then some (.iconst (-1), 1, 0, -1, false) else none)))
    else
     (bif Nat.ble 33 pc then (bif Nat.ble 36 pc then (bif Nat.beq pc 36 then some (.iload_n 3, 1, 0, 0, false) else none) else (bif Nat.beq pc 33 then some (.getfield 53, 3, 0, 0, false) else none)) else (bif Nat.beq pc 32 then some (.aload_n 0, 1, 0, 0, false) else none))))
  else
   (bif Nat.ble 13 pc then
    (bif Nat.ble 23 pc then
     (bif Nat.ble 29 pc then (bif Nat.ble 31 pc then (bif Nat.beq pc 31 then some (.ireturn, 1, 0, 0, false) else none) else (bif Nat.beq pc 29 then some (.bipush (-2), 2, 0, -2, false) else none)) else (bif Nat.ble 26 pc then (bif Nat.beq pc 26 then some (.ifCond .eq 6, 3, 32, 0, false) else none) else (bif Nat.beq pc 23 then some (.invokevirtual 173, 3, 0, 0, false) else none)))
    else
     (bif Nat.ble 19 pc then (bif Nat.ble 20 pc then (bif Nat.beq pc 20 then some (.getfield 30, 3, 0, 0, false) else none) else (bif Nat.beq pc 19 then some (.aload_n 0, 1, 0, 0, false) else none)) else (bif Nat.ble 16 pc then (bif Nat.beq pc 16 then some (.ifCond .eq 13, 3, 29, 0, false) else none) else (bif Nat.beq pc 13 then some (.invokestatic 96, 3, 0, 0, false) else none))))
   else
    (bif Nat.ble 5 pc then
     (bif Nat.ble 9 pc then (bif Nat.ble 12 pc then (bif Nat.beq pc 12 then some (.iload_n 3, 1, 0, 0, false) else none) else (bif Nat.beq pc 9 then some (.ifCond .eq 20, 3, 29, 0, false) else none)) else (bif Nat.ble 6 pc then (bif Nat.beq pc 6 then some (.invokevirtual 170, 3, 0, 0, false) else none) else (bif Nat.beq pc 5 then some (.iload_n 2, 1, 0, 0, false) else none)))
    else
     (bif Nat.ble 1 pc then (bif Nat.ble 4 pc then (bif Nat.beq pc 4 then some (.iload_n 1, 1, 0, 0, false) else none) else (bif Nat.beq pc 1 then some (.getfield 12, 3, 0, 0, false) else none)) else (bif Nat.beq pc 0 then some (.aload_n 0, 1, 0, 0, false) else none)))))
def qX7_area (pc : Nat) : Option mIn :=
  (bif Nat.ble 3 pc then
   (bif Nat.ble 4 pc then (bif Nat.ble 7 pc then (bif Nat.beq pc 7 then some (.ireturn, 1, 0, 0, false) else none) else (bif Nat.beq pc 4 then some (.invokevirtual 192, 3, 0, 0, false) else none)) else (bif Nat.beq pc 3 then some (.iload_n 2, 1, 0, 0, false) else none))
  else
   (bif Nat.ble 1 pc then (bif Nat.ble 2 pc then (bif Nat.beq pc 2 then some (.iload_n 2, 1, 0, 0, false) else none) else (bif Nat.beq pc 1 then some (.iload_n 1, 1, 0, 0, false) else none)) else (bif Nat.beq pc 0 then some (.aload_n 0, 1, 0, 0, false) else none)))
def qX7_front (pc : Nat) : Option mIn :=
  (bif Nat.ble 26 pc then
   (bif Nat.ble 33 pc then
    (bif Nat.ble 40 pc then
     (bif Nat.ble 41 pc then (bif Nat.ble 44 pc then (bif Nat.beq pc 44 then some (.ireturn, 1, 0, 0, false) else none) else (bif Nat.beq pc 41 then some (.invokevirtual 196, 3, 0, 0, false) else none)) else (bif Nat.beq pc 40 then some (.iload_n 1, 1, 0, 0, false) else none))
    else
     (bif Nat.ble 36 pc then (bif Nat.ble 37 pc then (bif Nat.beq pc 37 then some (.getfield 53, 3, 0, 0, false) else none) else (bif Nat.beq pc 36 then some (.aload_n 0, 1, 0, 0, false) else none)) else (bif Nat.beq pc 33 then some (.invokevirtual 186, 3, 0, 0, false) else none)))
   else
    (bif Nat.ble 28 pc then
     (bif Nat.ble 31 pc then (bif Nat.ble 32 pc then (bif Nat.beq pc 32 then some (.iconst (-1), 1, 0, -1, false) else none) else (bif Nat.beq pc 31 then some (.iload_n 2, 1, 0, 0, false) else none)) else (bif Nat.beq pc 28 then some (.getfield 53, 3, 0, 0, false) else none))
    else
     (bif Nat.ble 27 pc then (bif Nat.beq pc 27 then some (.aload_n 0, 1, 0, 0, false) else none) else (bif Nat.beq pc 26 then some (.ireturn, 1, 0, 0, false) else none))))
  else
   (bif Nat.ble 11 pc then
    (bif Nat.ble 18 pc then
     (bif Nat.ble 21 pc then (bif Nat.ble 24 pc then (bif Nat.beq pc 24 then some (.bipush (-2), 2, 0, -2, false) else none) else (bif Nat.beq pc 21 then some (.ifCond .eq 6, 3, 27, 0, false) else none)) else (bif Nat.beq pc 18 then some (.invokevirtual 173, 3, 0, 0, false) else none))
    else
     (bif Nat.ble 14 pc then (bif Nat.ble 15 pc then (bif Nat.beq pc 15 then some (.getfield 30, 3, 0, 0, false) else none) else (bif Nat.beq pc 14 then some (.aload_n 0, 1, 0, 0, false) else none)) else (bif Nat.beq pc 11 then some (.ifCond .eq 13, 3, 24, 0, false) else none)))
   else
    (bif Nat.ble 4 pc then
     (bif Nat.ble 7 pc then (bif Nat.ble 8 pc then (bif Nat.beq pc 8 then some (.invokestatic 96, 3, 0, 0, false) else none) else (bif Nat.beq pc 7 then some (.iload_n 2, 1, 0, 0, false) else none)) else (bif Nat.beq pc 4 then some (.ifCond .eq 20, 3, 24, 0, false) else none))
    else
     (bif Nat.ble 1 pc then (bif Nat.beq pc 1 then some (.invokestatic 111, 3, 0, 0, false) else none) else (bif Nat.beq pc 0 then some (.iload_n 1, 1, 0, 0, false) else none)))))
def qX7_tax (pc : Nat) : Option mIn :=
  (bif Nat.ble 56 pc then
   (bif Nat.ble 82 pc then
    (bif Nat.ble 97 pc then
     (bif Nat.ble 102 pc then
      (bif Nat.ble 108 pc then (bif Nat.ble 110 pc then (bif Nat.beq pc 110 then some (.ireturn, 1, 0, 0, false) else none) else (bif Nat.beq pc 108 then some (.iload 5, 2, 0, 0, false) else none)) else (bif Nat.ble 105 pc then (bif Nat.beq pc 105 then some (.goto (-38), 3, 67, 0, false) else none) else (bif Nat.beq pc 102 then some (.iinc 6 1, 3, 0, 1, false) else none)))
     else
      (bif Nat.ble 99 pc then (bif Nat.ble 100 pc then (bif Nat.beq pc 100 then some (.istore 5, 2, 0, 0, false) else none) else (bif Nat.beq pc 99 then some (.iadd, 1, 0, 0, false) else none)) else (bif Nat.beq pc 97 then some (.iload 4, 2, 0, 0, false) else none)))
    else
     (bif Nat.ble 89 pc then
      (bif Nat.ble 93 pc then (bif Nat.ble 95 pc then (bif Nat.beq pc 95 then some (.iload 5, 2, 0, 0, false) else none) else (bif Nat.beq pc 93 then some (.istore 4, 2, 0, 0, false) else none)) else (bif Nat.ble 90 pc then (bif Nat.beq pc 90 then some (.invokevirtual 199, 3, 0, 0, false) else none) else (bif Nat.beq pc 89 then some (.iload_n 1, 1, 0, 0, false) else none)))
     else
      (bif Nat.ble 85 pc then (bif Nat.ble 86 pc then (bif Nat.beq pc 86 then some (.getfield 53, 3, 0, 0, false) else none) else (bif Nat.beq pc 85 then some (.aload_n 0, 1, 0, 0, false) else none)) else (bif Nat.beq pc 82 then some (.ifCond .eq 13, 3, 95, 0, false) else none))))
   else
    (bif Nat.ble 67 pc then
     (bif Nat.ble 73 pc then
      (bif Nat.ble 77 pc then (bif Nat.ble 79 pc then (bif Nat.beq pc 79 then some (.invokevirtual 202, 3, 0, 0, false) else none) else (bif Nat.beq pc 77 then some (.iload 6, 2, 0, 0, false) else none)) else (bif Nat.ble 74 pc then (bif Nat.beq pc 74 then some (.getfield 53, 3, 0, 0, false) else none) else (bif Nat.beq pc 73 then some (.aload_n 0, 1, 0, 0, false) else none)))
     else
      (bif Nat.ble 69 pc then (bif Nat.ble 70 pc then (bif Nat.beq pc 70 then some (.if_icmp .gt 38, 3, 108, 0, false) else none) else (bif Nat.beq pc 69 then some (.iload_n 3, 1, 0, 0, false) else none)) else (bif Nat.beq pc 67 then some (.iload 6, 2, 0, 0, true) else none)))
    else
     (bif Nat.ble 62 pc then
      (bif Nat.ble 64 pc then (bif Nat.ble 65 pc then (bif Nat.beq pc 65 then some (.istore 6, 2, 0, 0, false) else none) else (bif Nat.beq pc 64 then some (.iadd, 1, 0, 0, false) else none)) else (bif Nat.ble 63 pc then (bif Nat.beq pc 63 then some (.iconst 1, 1, 0, 1, false) else none) else (bif Nat.beq pc 62 then some (.iload_n 2, 1, 0, 0, false) else none)))
     else
      (bif Nat.ble 58 pc then (bif Nat.ble 60 pc then (bif Nat.beq pc 60 then some (.istore 5, 2, 0, 0, false) else none) else (bif Nat.beq pc 58 then some (.iload 4, 2, 0, 0, false) else none)) else (bif Nat.beq pc 56 then some (.istore 4, 2, 0, 0, false) else none)))))
  else
   (bif Nat.ble 27 pc then
    (bif Nat.ble 43 pc then
     (bif Nat.ble 48 pc then
      (bif Nat.ble 52 pc then (bif Nat.ble 53 pc then (bif Nat.beq pc 53 then some (.invokevirtual 199, 3, 0, 0, false) else none) else (bif Nat.beq pc 52 then some (.iload_n 1, 1, 0, 0, false) else none)) else (bif Nat.ble 49 pc then (bif Nat.beq pc 49 then some (.getfield 53, 3, 0, 0, false) else none) else (bif Nat.beq pc 48 then some (.aload_n 0, 1, 0, 0, false) else none)))
     else
      (bif Nat.ble 44 pc then (bif Nat.ble 45 pc then (bif Nat.beq pc 45 then some (.invokevirtual 186, 3, 0, 0, false) else none) else (bif Nat.beq pc 44 then some (.iconst (-1), 1, 0, -1, false) else none)) else (bif Nat.beq pc 43 then some (.iload_n 2, 1, 0, 0, false) else none)))
    else
     (bif Nat.ble 36 pc then
      (bif Nat.ble 39 pc then (bif Nat.ble 40 pc then (bif Nat.beq pc 40 then some (.getfield 53, 3, 0, 0, false) else none) else (bif Nat.beq pc 39 then some (.aload_n 0, 1, 0, 0, false) else none)) else (bif Nat.ble 38 pc then (bif Nat.beq pc 38 then some (.ireturn, 1, 0, 0, false) else none) else (bif Nat.beq pc 36 then some (.bipush (-2), 2, 0, -2, false) else none)))
     else
      (bif Nat.ble 30 pc then (bif Nat.ble 33 pc then (bif Nat.beq pc 33 then some (.ifCond .eq 6, 3, 39, 0, false) else none) else (bif Nat.beq pc 30 then some (.invokevirtual 173, 3, 0, 0, false) else none)) else (bif Nat.beq pc 27 then some (.getfield 30, 3, 0, 0, false) else none))))
   else
    (bif Nat.ble 14 pc then
     (bif Nat.ble 21 pc then
      (bif Nat.ble 23 pc then (bif Nat.ble 26 pc then (bif Nat.beq pc 26 then some (.aload_n 0, 1, 0, 0, false) else none) else (bif Nat.beq pc 23 then some (.if_icmp .gt 13, 3, 36, 0, false) else none)) else (bif Nat.ble 22 pc then (bif Nat.beq pc 22 then some (.iload_n 3, 1, 0, 0, false) else none) else (bif Nat.beq pc 21 then some (.iload_n 2, 1, 0, 0, false) else none)))
     else
      (bif Nat.ble 15 pc then (bif Nat.ble 18 pc then (bif Nat.beq pc 18 then some (.ifCond .eq 18, 3, 36, 0, false) else none) else (bif Nat.beq pc 15 then some (.invokestatic 96, 3, 0, 0, false) else none)) else (bif Nat.beq pc 14 then some (.iload_n 3, 1, 0, 0, false) else none)))
    else
     (bif Nat.ble 7 pc then
      (bif Nat.ble 8 pc then (bif Nat.ble 11 pc then (bif Nat.beq pc 11 then some (.ifCond .eq 25, 3, 36, 0, false) else none) else (bif Nat.beq pc 8 then some (.invokestatic 96, 3, 0, 0, false) else none)) else (bif Nat.beq pc 7 then some (.iload_n 2, 1, 0, 0, false) else none))
     else
      (bif Nat.ble 1 pc then (bif Nat.ble 4 pc then (bif Nat.beq pc 4 then some (.ifCond .eq 32, 3, 36, 0, false) else none) else (bif Nat.beq pc 1 then some (.invokestatic 111, 3, 0, 0, false) else none)) else (bif Nat.beq pc 0 then some (.iload_n 1, 1, 0, 0, false) else none))))))
def qX7_chain (pc : Nat) : Option mIn :=
  (bif Nat.ble 74 pc then
   (bif Nat.ble 114 pc then
    (bif Nat.ble 132 pc then
     (bif Nat.ble 145 pc then
      (bif Nat.ble 149 pc then
       (bif Nat.ble 150 pc then (bif Nat.ble 151 pc then (bif Nat.beq pc 151 then some (.ireturn, 1, 0, 0, false) else none) else (bif Nat.beq pc 150 then some (.idiv, 1, 0, 0, false) else none)) else (bif Nat.beq pc 149 then some (.iconst 2, 1, 0, 2, false) else none))
      else
       (bif Nat.ble 146 pc then (bif Nat.beq pc 146 then some (.getfield 61, 3, 0, 0, false) else none) else (bif Nat.beq pc 145 then some (.aload_n 0, 1, 0, 0, false) else none)))
     else
      (bif Nat.ble 136 pc then
       (bif Nat.ble 139 pc then (bif Nat.ble 142 pc then (bif Nat.beq pc 142 then some (.goto (-54), 3, 88, 0, false) else none) else (bif Nat.beq pc 139 then some (.iinc 6 1, 3, 0, 1, false) else none)) else (bif Nat.beq pc 136 then some (.invokevirtual 208, 3, 0, 0, false) else none))
      else
       (bif Nat.ble 134 pc then (bif Nat.beq pc 134 then some (.iload 6, 2, 0, 0, false) else none) else (bif Nat.beq pc 132 then some (.iload 5, 2, 0, 0, false) else none))))
    else
     (bif Nat.ble 124 pc then
      (bif Nat.ble 128 pc then
       (bif Nat.ble 129 pc then (bif Nat.ble 131 pc then (bif Nat.beq pc 131 then some (.aload_n 0, 1, 0, 0, false) else none) else (bif Nat.beq pc 129 then some (.istore 5, 2, 0, 0, false) else none)) else (bif Nat.beq pc 128 then some (.iaload, 1, 0, 0, false) else none))
      else
       (bif Nat.ble 127 pc then (bif Nat.beq pc 127 then some (.iload_n 3, 1, 0, 0, false) else none) else (bif Nat.beq pc 124 then some (.getfield 189, 3, 0, 0, false) else none)))
     else
      (bif Nat.ble 117 pc then
       (bif Nat.ble 120 pc then (bif Nat.ble 121 pc then (bif Nat.beq pc 121 then some (.getfield 53, 3, 0, 0, false) else none) else (bif Nat.beq pc 120 then some (.aload_n 0, 1, 0, 0, false) else none)) else (bif Nat.beq pc 117 then some (.if_icmp .eq 22, 3, 139, 0, false) else none))
      else
       (bif Nat.ble 115 pc then (bif Nat.beq pc 115 then some (.iload 5, 2, 0, 0, false) else none) else (bif Nat.beq pc 114 then some (.iaload, 1, 0, 0, false) else none)))))
   else
    (bif Nat.ble 93 pc then
     (bif Nat.ble 105 pc then
      (bif Nat.ble 107 pc then
       (bif Nat.ble 110 pc then (bif Nat.ble 113 pc then (bif Nat.beq pc 113 then some (.iload_n 3, 1, 0, 0, false) else none) else (bif Nat.beq pc 110 then some (.getfield 189, 3, 0, 0, false) else none)) else (bif Nat.beq pc 107 then some (.getfield 53, 3, 0, 0, false) else none))
      else
       (bif Nat.ble 106 pc then (bif Nat.beq pc 106 then some (.aload_n 0, 1, 0, 0, false) else none) else (bif Nat.beq pc 105 then some (.pop, 1, 0, 0, false) else none)))
     else
      (bif Nat.ble 97 pc then
       (bif Nat.ble 100 pc then (bif Nat.ble 102 pc then (bif Nat.beq pc 102 then some (.invokevirtual 202, 3, 0, 0, false) else none) else (bif Nat.beq pc 100 then some (.iload 6, 2, 0, 0, false) else none)) else (bif Nat.beq pc 97 then some (.getfield 53, 3, 0, 0, false) else none))
      else
       (bif Nat.ble 96 pc then (bif Nat.beq pc 96 then some (.aload_n 0, 1, 0, 0, false) else none) else (bif Nat.beq pc 93 then some (.if_icmp .gt 52, 3, 145, 0, false) else none))))
    else
     (bif Nat.ble 84 pc then
      (bif Nat.ble 86 pc then
       (bif Nat.ble 88 pc then (bif Nat.ble 90 pc then (bif Nat.beq pc 90 then some (.sipush 200, 3, 0, 200, false) else none) else (bif Nat.beq pc 88 then some (.iload 6, 2, 0, 0, true) else none)) else (bif Nat.beq pc 86 then some (.istore 6, 2, 0, 0, false) else none))
      else
       (bif Nat.ble 85 pc then (bif Nat.beq pc 85 then some (.iadd, 1, 0, 0, false) else none) else (bif Nat.beq pc 84 then some (.iconst 1, 1, 0, 1, false) else none)))
     else
      (bif Nat.ble 77 pc then
       (bif Nat.ble 79 pc then (bif Nat.ble 82 pc then (bif Nat.beq pc 82 then some (.iload 4, 2, 0, 0, false) else none) else (bif Nat.beq pc 79 then some (.invokevirtual 208, 3, 0, 0, false) else none)) else (bif Nat.beq pc 77 then some (.iload 4, 2, 0, 0, false) else none))
      else
       (bif Nat.ble 75 pc then (bif Nat.beq pc 75 then some (.iload 5, 2, 0, 0, false) else none) else (bif Nat.beq pc 74 then some (.aload_n 0, 1, 0, 0, false) else none))))))
  else
   (bif Nat.ble 35 pc then
    (bif Nat.ble 55 pc then
     (bif Nat.ble 66 pc then
      (bif Nat.ble 69 pc then
       (bif Nat.ble 70 pc then (bif Nat.ble 71 pc then (bif Nat.beq pc 71 then some (.putfield 61, 3, 0, 0, false) else none) else (bif Nat.beq pc 70 then some (.iconst 0, 1, 0, 0, false) else none)) else (bif Nat.beq pc 69 then some (.aload_n 0, 1, 0, 0, false) else none))
      else
       (bif Nat.ble 67 pc then (bif Nat.beq pc 67 then some (.istore 5, 2, 0, 0, false) else none) else (bif Nat.beq pc 66 then some (.iaload, 1, 0, 0, false) else none)))
     else
      (bif Nat.ble 59 pc then
       (bif Nat.ble 62 pc then (bif Nat.ble 65 pc then (bif Nat.beq pc 65 then some (.iload_n 3, 1, 0, 0, false) else none) else (bif Nat.beq pc 62 then some (.getfield 189, 3, 0, 0, false) else none)) else (bif Nat.beq pc 59 then some (.getfield 53, 3, 0, 0, false) else none))
      else
       (bif Nat.ble 58 pc then (bif Nat.beq pc 58 then some (.aload_n 0, 1, 0, 0, false) else none) else (bif Nat.beq pc 55 then some (.invokevirtual 186, 3, 0, 0, false) else none))))
    else
     (bif Nat.ble 46 pc then
      (bif Nat.ble 49 pc then
       (bif Nat.ble 52 pc then (bif Nat.ble 54 pc then (bif Nat.beq pc 54 then some (.iconst (-1), 1, 0, -1, false) else none) else (bif Nat.beq pc 52 then some (.iload 4, 2, 0, 0, false) else none)) else (bif Nat.beq pc 49 then some (.getfield 53, 3, 0, 0, false) else none))
      else
       (bif Nat.ble 48 pc then (bif Nat.beq pc 48 then some (.aload_n 0, 1, 0, 0, false) else none) else (bif Nat.beq pc 46 then some (.istore 4, 2, 0, 0, false) else none)))
     else
      (bif Nat.ble 41 pc then
       (bif Nat.ble 42 pc then (bif Nat.ble 43 pc then (bif Nat.beq pc 43 then some (.getfield 205, 3, 0, 0, false) else none) else (bif Nat.beq pc 42 then some (.aaload, 1, 0, 0, false) else none)) else (bif Nat.beq pc 41 then some (.iconst 0, 1, 0, 0, false) else none))
      else
       (bif Nat.ble 38 pc then (bif Nat.beq pc 38 then some (.getfield 149, 3, 0, 0, false) else none) else (bif Nat.beq pc 35 then some (.getfield 30, 3, 0, 0, false) else none)))))
   else
    (bif Nat.ble 19 pc then
     (bif Nat.ble 28 pc then
      (bif Nat.ble 30 pc then
       (bif Nat.ble 33 pc then (bif Nat.ble 34 pc then (bif Nat.beq pc 34 then some (.aload_n 0, 1, 0, 0, false) else none) else (bif Nat.beq pc 33 then some (.istore_n 3, 1, 0, 0, false) else none)) else (bif Nat.beq pc 30 then some (.invokevirtual 180, 3, 0, 0, false) else none))
      else
       (bif Nat.ble 29 pc then (bif Nat.beq pc 29 then some (.iload_n 2, 1, 0, 0, false) else none) else (bif Nat.beq pc 28 then some (.iload_n 1, 1, 0, 0, false) else none)))
     else
      (bif Nat.ble 23 pc then
       (bif Nat.ble 24 pc then (bif Nat.ble 25 pc then (bif Nat.beq pc 25 then some (.getfield 12, 3, 0, 0, false) else none) else (bif Nat.beq pc 24 then some (.aload_n 0, 1, 0, 0, false) else none)) else (bif Nat.beq pc 23 then some (.ireturn, 1, 0, 0, false) else none))
      else
       (bif Nat.ble 22 pc then (bif Nat.beq pc 22 then some (.iconst (-1), 1, 0, -1, false) else none) else (bif Nat.beq pc 19 then some (.ifCond .eq 5, 3, 24, 0, false) else none))))
    else
     (bif Nat.ble 6 pc then
      (bif Nat.ble 12 pc then
       (bif Nat.ble 13 pc then (bif Nat.ble 16 pc then (bif Nat.beq pc 16 then some (.invokevirtual 173, 3, 0, 0, false) else none) else (bif Nat.beq pc 13 then some (.getfield 30, 3, 0, 0, false) else none)) else (bif Nat.beq pc 12 then some (.aload_n 0, 1, 0, 0, false) else none))
      else
       (bif Nat.ble 9 pc then (bif Nat.beq pc 9 then some (.ifCond .eq 13, 3, 22, 0, false) else none) else (bif Nat.beq pc 6 then some (.invokevirtual 170, 3, 0, 0, false) else none)))
     else
      (bif Nat.ble 4 pc then (bif Nat.ble 5 pc then (bif Nat.beq pc 5 then some (.iload_n 2, 1, 0, 0, false) else none) else (bif Nat.beq pc 4 then some (.iload_n 1, 1, 0, 0, false) else none)) else (bif Nat.ble 1 pc then (bif Nat.beq pc 1 then some (.getfield 12, 3, 0, 0, false) else none) else (bif Nat.beq pc 0 then some (.aload_n 0, 1, 0, 0, false) else none)))))))
def qX7_banks (pc : Nat) : Option mIn :=
  (bif Nat.ble 18 pc then
   (bif Nat.ble 24 pc then
    (bif Nat.ble 28 pc then
     (bif Nat.ble 31 pc then (bif Nat.ble 34 pc then (bif Nat.beq pc 34 then some (.ireturn, 1, 0, 0, false) else none) else (bif Nat.beq pc 31 then some (.invokevirtual 211, 3, 0, 0, false) else none)) else (bif Nat.beq pc 28 then some (.invokevirtual 176, 3, 0, 0, false) else none))
    else
     (bif Nat.ble 27 pc then (bif Nat.beq pc 27 then some (.iload_n 1, 1, 0, 0, false) else none) else (bif Nat.beq pc 24 then some (.getfield 30, 3, 0, 0, false) else none)))
   else
    (bif Nat.ble 20 pc then (bif Nat.ble 23 pc then (bif Nat.beq pc 23 then some (.aload_n 0, 1, 0, 0, false) else none) else (bif Nat.beq pc 20 then some (.getfield 21, 3, 0, 0, false) else none)) else (bif Nat.ble 19 pc then (bif Nat.beq pc 19 then some (.aload_n 0, 1, 0, 0, false) else none) else (bif Nat.beq pc 18 then some (.ireturn, 1, 0, 0, false) else none))))
  else
   (bif Nat.ble 8 pc then
    (bif Nat.ble 14 pc then (bif Nat.ble 17 pc then (bif Nat.beq pc 17 then some (.iconst (-1), 1, 0, -1, false) else none) else (bif Nat.beq pc 14 then some (.ifCond .eq 5, 3, 19, 0, false) else none)) else (bif Nat.ble 11 pc then (bif Nat.beq pc 11 then some (.invokevirtual 173, 3, 0, 0, false) else none) else (bif Nat.beq pc 8 then some (.getfield 30, 3, 0, 0, false) else none)))
   else
    (bif Nat.ble 4 pc then (bif Nat.ble 7 pc then (bif Nat.beq pc 7 then some (.aload_n 0, 1, 0, 0, false) else none) else (bif Nat.beq pc 4 then some (.ifCond .eq 13, 3, 17, 0, false) else none)) else (bif Nat.ble 1 pc then (bif Nat.beq pc 1 then some (.invokestatic 96, 3, 0, 0, false) else none) else (bif Nat.beq pc 0 then some (.iload_n 1, 1, 0, 0, false) else none)))))
def qX7_step (pc : Nat) : Option mIn :=
  (bif Nat.ble 87 pc then
   (bif Nat.ble 109 pc then
    (bif Nat.ble 119 pc then
     (bif Nat.ble 124 pc then
      (bif Nat.ble 128 pc then (bif Nat.ble 129 pc then (bif Nat.beq pc 129 then some (.ireturn, 1, 0, 0, false) else none) else (bif Nat.beq pc 128 then some (.iconst (-1), 1, 0, -1, false) else none)) else (bif Nat.ble 127 pc then (bif Nat.beq pc 127 then some (.ireturn, 1, 0, 0, false) else none) else (bif Nat.beq pc 124 then some (.invokevirtual 233, 3, 0, 0, false) else none)))
     else
      (bif Nat.ble 120 pc then (bif Nat.ble 123 pc then (bif Nat.beq pc 123 then some (.iload_n 1, 1, 0, 0, false) else none) else (bif Nat.beq pc 120 then some (.getfield 53, 3, 0, 0, false) else none)) else (bif Nat.beq pc 119 then some (.aload_n 0, 1, 0, 0, false) else none)))
    else
     (bif Nat.ble 114 pc then
      (bif Nat.ble 115 pc then (bif Nat.ble 118 pc then (bif Nat.beq pc 118 then some (.ireturn, 1, 0, 0, false) else none) else (bif Nat.beq pc 115 then some (.getfield 230, 3, 0, 0, false) else none)) else (bif Nat.beq pc 114 then some (.aload_n 3, 1, 0, 0, false) else none))
     else
      (bif Nat.ble 110 pc then (bif Nat.ble 113 pc then (bif Nat.beq pc 113 then some (.ireturn, 1, 0, 0, false) else none) else (bif Nat.beq pc 110 then some (.getfield 227, 3, 0, 0, false) else none)) else (bif Nat.beq pc 109 then some (.aload_n 3, 1, 0, 0, false) else none))))
   else
    (bif Nat.ble 97 pc then
     (bif Nat.ble 104 pc then
      (bif Nat.ble 107 pc then (bif Nat.ble 108 pc then (bif Nat.beq pc 108 then some (.ireturn, 1, 0, 0, false) else none) else (bif Nat.beq pc 107 then some (.iconst 0, 1, 0, 0, false) else none)) else (bif Nat.beq pc 104 then some (.goto 4, 3, 108, 0, false) else none))
     else
      (bif Nat.ble 100 pc then (bif Nat.ble 103 pc then (bif Nat.beq pc 103 then some (.iconst 1, 1, 0, 1, false) else none) else (bif Nat.beq pc 100 then some (.ifCond .eq 7, 3, 107, 0, false) else none)) else (bif Nat.beq pc 97 then some (.invokevirtual 224, 3, 0, 0, false) else none)))
    else
     (bif Nat.ble 92 pc then
      (bif Nat.ble 93 pc then (bif Nat.ble 96 pc then (bif Nat.beq pc 96 then some (.iload_n 1, 1, 0, 0, false) else none) else (bif Nat.beq pc 93 then some (.getfield 30, 3, 0, 0, false) else none)) else (bif Nat.beq pc 92 then some (.aload_n 0, 1, 0, 0, false) else none))
     else
      (bif Nat.ble 88 pc then (bif Nat.ble 91 pc then (bif Nat.beq pc 91 then some (.ireturn, 1, 0, 0, false) else none) else (bif Nat.beq pc 88 then some (.getfield 221, 3, 0, 0, false) else none)) else (bif Nat.beq pc 87 then some (.aload_n 3, 1, 0, 0, false) else none)))))
  else
   (bif Nat.ble 22 pc then
    (bif Nat.ble 77 pc then
     (bif Nat.ble 82 pc then
      (bif Nat.ble 83 pc then (bif Nat.ble 86 pc then (bif Nat.beq pc 86 then some (.ireturn, 1, 0, 0, false) else none) else (bif Nat.beq pc 83 then some (.getfield 218, 3, 0, 0, false) else none)) else (bif Nat.beq pc 82 then some (.aload_n 3, 1, 0, 0, false) else none))
     else
      (bif Nat.ble 78 pc then (bif Nat.ble 81 pc then (bif Nat.beq pc 81 then some (.ireturn, 1, 0, 0, false) else none) else (bif Nat.beq pc 78 then some (.getfield 215, 3, 0, 0, false) else none)) else (bif Nat.beq pc 77 then some (.aload_n 3, 1, 0, 0, false) else none)))
    else
     (bif Nat.ble 72 pc then
      (bif Nat.ble 73 pc then (bif Nat.ble 76 pc then (bif Nat.beq pc 76 then some (.ireturn, 1, 0, 0, false) else none) else (bif Nat.beq pc 73 then some (.getfield 205, 3, 0, 0, false) else none)) else (bif Nat.beq pc 72 then some (.aload_n 3, 1, 0, 0, false) else none))
     else
      (bif Nat.ble 23 pc then (bif Nat.ble 24 pc then (bif Nat.beq pc 24 then some (.tableswitch 104 0 7 #[48, 53, 58, 63, 68, 85, 90, 95], 48, 0, 0, false) else none) else (bif Nat.beq pc 23 then some (.iload_n 2, 1, 0, 0, false) else none)) else (bif Nat.beq pc 22 then some (.astore_n 3, 1, 0, 0, false) else none))))
   else
    (bif Nat.ble 12 pc then
     (bif Nat.ble 17 pc then
      (bif Nat.ble 20 pc then (bif Nat.ble 21 pc then (bif Nat.beq pc 21 then some (.aaload, 1, 0, 0, false) else none) else (bif Nat.beq pc 20 then some (.iload_n 1, 1, 0, 0, false) else none)) else (bif Nat.beq pc 17 then some (.getfield 149, 3, 0, 0, false) else none))
     else
      (bif Nat.ble 13 pc then (bif Nat.ble 14 pc then (bif Nat.beq pc 14 then some (.getfield 30, 3, 0, 0, false) else none) else (bif Nat.beq pc 13 then some (.aload_n 0, 1, 0, 0, false) else none)) else (bif Nat.beq pc 12 then some (.ireturn, 1, 0, 0, false) else none)))
    else
     (bif Nat.ble 5 pc then
      (bif Nat.ble 8 pc then (bif Nat.ble 11 pc then (bif Nat.beq pc 11 then some (.iconst (-1), 1, 0, -1, false) else none) else (bif Nat.beq pc 8 then some (.ifCond .ne 5, 3, 13, 0, false) else none)) else (bif Nat.beq pc 5 then some (.invokevirtual 146, 3, 0, 0, false) else none))
     else
      (bif Nat.ble 1 pc then (bif Nat.ble 4 pc then (bif Nat.beq pc 4 then some (.iload_n 1, 1, 0, 0, false) else none) else (bif Nat.beq pc 1 then some (.getfield 30, 3, 0, 0, false) else none)) else (bif Nat.beq pc 0 then some (.aload_n 0, 1, 0, 0, false) else none))))))
def qX7_moved (pc : Nat) : Option mIn :=
  (bif Nat.ble 21 pc then
   (bif Nat.ble 29 pc then
    (bif Nat.ble 33 pc then
     (bif Nat.ble 34 pc then (bif Nat.ble 37 pc then (bif Nat.beq pc 37 then some (.ireturn, 1, 0, 0, false) else none) else (bif Nat.beq pc 34 then some (.invokevirtual 243, 3, 0, 0, false) else none)) else (bif Nat.beq pc 33 then some (.iload_n 2, 1, 0, 0, false) else none))
    else
     (bif Nat.ble 32 pc then (bif Nat.beq pc 32 then some (.iload_n 1, 1, 0, 0, false) else none) else (bif Nat.beq pc 29 then some (.getfield 53, 3, 0, 0, false) else none)))
   else
    (bif Nat.ble 24 pc then
     (bif Nat.ble 27 pc then (bif Nat.ble 28 pc then (bif Nat.beq pc 28 then some (.aload_n 0, 1, 0, 0, false) else none) else (bif Nat.beq pc 27 then some (.athrow, 1, 0, 0, false) else none)) else (bif Nat.beq pc 24 then some (.invokespecial 240, 3, 0, 0, false) else none))
    else
     (bif Nat.ble 22 pc then (bif Nat.beq pc 22 then some (.ldc 238, 2, 0, 0, false) else none) else (bif Nat.beq pc 21 then some (.dup, 1, 0, 0, false) else none))))
  else
   (bif Nat.ble 8 pc then
    (bif Nat.ble 12 pc then
     (bif Nat.ble 15 pc then (bif Nat.ble 18 pc then (bif Nat.beq pc 18 then some (.new 236, 3, 0, 0, false) else none) else (bif Nat.beq pc 15 then some (.ifCond .ne 13, 3, 28, 0, false) else none)) else (bif Nat.beq pc 12 then some (.invokevirtual 146, 3, 0, 0, false) else none))
    else
     (bif Nat.ble 11 pc then (bif Nat.beq pc 11 then some (.iload_n 2, 1, 0, 0, false) else none) else (bif Nat.beq pc 8 then some (.getfield 30, 3, 0, 0, false) else none)))
   else
    (bif Nat.ble 4 pc then (bif Nat.ble 7 pc then (bif Nat.beq pc 7 then some (.aload_n 0, 1, 0, 0, false) else none) else (bif Nat.beq pc 4 then some (.ifCond .eq 14, 3, 18, 0, false) else none)) else (bif Nat.ble 1 pc then (bif Nat.beq pc 1 then some (.invokestatic 121, 3, 0, 0, false) else none) else (bif Nat.beq pc 0 then some (.iload_n 1, 1, 0, 0, false) else none)))))
def qX7_doubt (pc : Nat) : Option mIn :=
  (bif Nat.ble 24 pc then
   (bif Nat.ble 36 pc then
    (bif Nat.ble 41 pc then
     (bif Nat.ble 42 pc then (bif Nat.ble 45 pc then (bif Nat.beq pc 45 then some (.ireturn, 1, 0, 0, false) else none) else (bif Nat.beq pc 42 then some (.invokevirtual 249, 3, 0, 0, false) else none)) else (bif Nat.beq pc 41 then some (.iload_n 2, 1, 0, 0, false) else none))
    else
     (bif Nat.ble 37 pc then (bif Nat.ble 40 pc then (bif Nat.beq pc 40 then some (.iload_n 1, 1, 0, 0, false) else none) else (bif Nat.beq pc 37 then some (.getfield 53, 3, 0, 0, false) else none)) else (bif Nat.beq pc 36 then some (.aload_n 0, 1, 0, 0, false) else none)))
   else
    (bif Nat.ble 29 pc then
     (bif Nat.ble 30 pc then (bif Nat.ble 33 pc then (bif Nat.beq pc 33 then some (.invokevirtual 246, 3, 0, 0, false) else none) else (bif Nat.beq pc 30 then some (.getfield 53, 3, 0, 0, false) else none)) else (bif Nat.beq pc 29 then some (.aload_n 0, 1, 0, 0, false) else none))
    else
     (bif Nat.ble 25 pc then (bif Nat.ble 26 pc then (bif Nat.beq pc 26 then some (.invokevirtual 186, 3, 0, 0, false) else none) else (bif Nat.beq pc 25 then some (.iconst (-1), 1, 0, -1, false) else none)) else (bif Nat.beq pc 24 then some (.iload_n 2, 1, 0, 0, false) else none))))
  else
   (bif Nat.ble 12 pc then
    (bif Nat.ble 19 pc then
     (bif Nat.ble 20 pc then (bif Nat.ble 21 pc then (bif Nat.beq pc 21 then some (.getfield 53, 3, 0, 0, false) else none) else (bif Nat.beq pc 20 then some (.aload_n 0, 1, 0, 0, false) else none)) else (bif Nat.beq pc 19 then some (.ireturn, 1, 0, 0, false) else none))
    else
     (bif Nat.ble 15 pc then (bif Nat.ble 18 pc then (bif Nat.beq pc 18 then some (.iconst (-1), 1, 0, -1, false) else none) else (bif Nat.beq pc 15 then some (.ifCond .ne 5, 3, 20, 0, false) else none)) else (bif Nat.beq pc 12 then some (.invokestatic 96, 3, 0, 0, false) else none)))
   else
    (bif Nat.ble 5 pc then
     (bif Nat.ble 8 pc then (bif Nat.ble 11 pc then (bif Nat.beq pc 11 then some (.iload_n 2, 1, 0, 0, false) else none) else (bif Nat.beq pc 8 then some (.ifCond .eq 10, 3, 18, 0, false) else none)) else (bif Nat.beq pc 5 then some (.invokevirtual 146, 3, 0, 0, false) else none))
    else
     (bif Nat.ble 1 pc then (bif Nat.ble 4 pc then (bif Nat.beq pc 4 then some (.iload_n 1, 1, 0, 0, false) else none) else (bif Nat.beq pc 1 then some (.getfield 30, 3, 0, 0, false) else none)) else (bif Nat.beq pc 0 then some (.aload_n 0, 1, 0, 0, false) else none)))))
def qX7_weak (pc : Nat) : Option mIn :=
  (bif Nat.ble 48 pc then
   (bif Nat.ble 77 pc then
    (bif Nat.ble 91 pc then
     (bif Nat.ble 95 pc then
      (bif Nat.ble 101 pc then (bif Nat.ble 102 pc then (bif Nat.beq pc 102 then some (.ireturn, 1, 0, 0, false) else none) else (bif Nat.beq pc 101 then some (.iload_n 2, 1, 0, 0, false) else none)) else (bif Nat.ble 98 pc then (bif Nat.beq pc 98 then some (.goto (-56), 3, 42, 0, false) else none) else (bif Nat.beq pc 95 then some (.iinc 4 1, 3, 0, 1, false) else none)))
     else
      (bif Nat.ble 92 pc then (bif Nat.ble 94 pc then (bif Nat.beq pc 94 then some (.istore_n 2, 1, 0, 0, false) else none) else (bif Nat.beq pc 92 then some (.iload 4, 2, 0, 0, false) else none)) else (bif Nat.beq pc 91 then some (.istore_n 3, 1, 0, 0, false) else none)))
    else
     (bif Nat.ble 83 pc then
      (bif Nat.ble 86 pc then (bif Nat.ble 89 pc then (bif Nat.beq pc 89 then some (.iload 5, 2, 0, 0, false) else none) else (bif Nat.beq pc 86 then some (.if_icmp .le 9, 3, 95, 0, false) else none)) else (bif Nat.ble 85 pc then (bif Nat.beq pc 85 then some (.iload_n 3, 1, 0, 0, false) else none) else (bif Nat.beq pc 83 then some (.iload 5, 2, 0, 0, false) else none)))
     else
      (bif Nat.ble 78 pc then (bif Nat.ble 81 pc then (bif Nat.beq pc 81 then some (.istore 5, 2, 0, 0, false) else none) else (bif Nat.beq pc 78 then some (.invokevirtual 249, 3, 0, 0, false) else none)) else (bif Nat.beq pc 77 then some (.iload_n 1, 1, 0, 0, false) else none))))
   else
    (bif Nat.ble 63 pc then
     (bif Nat.ble 68 pc then
      (bif Nat.ble 72 pc then (bif Nat.ble 75 pc then (bif Nat.beq pc 75 then some (.iload 4, 2, 0, 0, false) else none) else (bif Nat.beq pc 72 then some (.getfield 53, 3, 0, 0, false) else none)) else (bif Nat.ble 71 pc then (bif Nat.beq pc 71 then some (.aload_n 0, 1, 0, 0, false) else none) else (bif Nat.beq pc 68 then some (.if_icmp .ne 27, 3, 95, 0, false) else none)))
     else
      (bif Nat.ble 64 pc then (bif Nat.ble 67 pc then (bif Nat.beq pc 67 then some (.iconst (-1), 1, 0, -1, false) else none) else (bif Nat.beq pc 64 then some (.getfield 153, 3, 0, 0, false) else none)) else (bif Nat.beq pc 63 then some (.aaload, 1, 0, 0, false) else none)))
    else
     (bif Nat.ble 55 pc then
      (bif Nat.ble 58 pc then (bif Nat.ble 61 pc then (bif Nat.beq pc 61 then some (.iload 4, 2, 0, 0, false) else none) else (bif Nat.beq pc 58 then some (.getfield 149, 3, 0, 0, false) else none)) else (bif Nat.beq pc 55 then some (.getfield 30, 3, 0, 0, false) else none))
     else
      (bif Nat.ble 51 pc then (bif Nat.ble 54 pc then (bif Nat.beq pc 54 then some (.aload_n 0, 1, 0, 0, false) else none) else (bif Nat.beq pc 51 then some (.if_icmp .ge 50, 3, 101, 0, false) else none)) else (bif Nat.beq pc 48 then some (.getfield 114, 3, 0, 0, false) else none)))))
  else
   (bif Nat.ble 25 pc then
    (bif Nat.ble 37 pc then
     (bif Nat.ble 40 pc then
      (bif Nat.ble 44 pc then (bif Nat.ble 45 pc then (bif Nat.beq pc 45 then some (.getfield 30, 3, 0, 0, false) else none) else (bif Nat.beq pc 44 then some (.aload_n 0, 1, 0, 0, false) else none)) else (bif Nat.ble 42 pc then (bif Nat.beq pc 42 then some (.iload 4, 2, 0, 0, true) else none) else (bif Nat.beq pc 40 then some (.istore 4, 2, 0, 0, false) else none)))
     else
      (bif Nat.ble 38 pc then (bif Nat.ble 39 pc then (bif Nat.beq pc 39 then some (.iconst 1, 1, 0, 1, false) else none) else (bif Nat.beq pc 38 then some (.istore_n 3, 1, 0, 0, false) else none)) else (bif Nat.beq pc 37 then some (.iconst (-1), 1, 0, -1, false) else none)))
    else
     (bif Nat.ble 32 pc then
      (bif Nat.ble 35 pc then (bif Nat.ble 36 pc then (bif Nat.beq pc 36 then some (.istore_n 2, 1, 0, 0, false) else none) else (bif Nat.beq pc 35 then some (.iconst (-1), 1, 0, -1, false) else none)) else (bif Nat.beq pc 32 then some (.invokevirtual 246, 3, 0, 0, false) else none))
     else
      (bif Nat.ble 28 pc then (bif Nat.ble 29 pc then (bif Nat.beq pc 29 then some (.getfield 53, 3, 0, 0, false) else none) else (bif Nat.beq pc 28 then some (.aload_n 0, 1, 0, 0, false) else none)) else (bif Nat.beq pc 25 then some (.invokevirtual 186, 3, 0, 0, false) else none))))
   else
    (bif Nat.ble 14 pc then
     (bif Nat.ble 19 pc then
      (bif Nat.ble 23 pc then (bif Nat.ble 24 pc then (bif Nat.beq pc 24 then some (.iconst (-1), 1, 0, -1, false) else none) else (bif Nat.beq pc 23 then some (.iload_n 1, 1, 0, 0, false) else none)) else (bif Nat.ble 20 pc then (bif Nat.beq pc 20 then some (.getfield 53, 3, 0, 0, false) else none) else (bif Nat.beq pc 19 then some (.aload_n 0, 1, 0, 0, false) else none)))
     else
      (bif Nat.ble 17 pc then (bif Nat.ble 18 pc then (bif Nat.beq pc 18 then some (.ireturn, 1, 0, 0, false) else none) else (bif Nat.beq pc 17 then some (.iconst (-1), 1, 0, -1, false) else none)) else (bif Nat.beq pc 14 then some (.ifCond .eq 5, 3, 19, 0, false) else none)))
    else
     (bif Nat.ble 7 pc then
      (bif Nat.ble 8 pc then (bif Nat.ble 11 pc then (bif Nat.beq pc 11 then some (.invokevirtual 173, 3, 0, 0, false) else none) else (bif Nat.beq pc 8 then some (.getfield 30, 3, 0, 0, false) else none)) else (bif Nat.beq pc 7 then some (.aload_n 0, 1, 0, 0, false) else none))
     else
      (bif Nat.ble 1 pc then (bif Nat.ble 4 pc then (bif Nat.beq pc 4 then some (.ifCond .eq 13, 3, 17, 0, false) else none) else (bif Nat.beq pc 1 then some (.invokestatic 96, 3, 0, 0, false) else none)) else (bif Nat.beq pc 0 then some (.iload_n 1, 1, 0, 0, false) else none))))))
def qX7_row (pc : Nat) : Option mIn :=
  (bif Nat.ble 16 pc then
   (bif Nat.ble 23 pc then
    (bif Nat.ble 27 pc then (bif Nat.ble 28 pc then (bif Nat.beq pc 28 then some (.ireturn, 1, 0, 0, false) else none) else (bif Nat.beq pc 27 then some (.iaload, 1, 0, 0, false) else none)) else (bif Nat.ble 26 pc then (bif Nat.beq pc 26 then some (.iload_n 1, 1, 0, 0, false) else none) else (bif Nat.beq pc 23 then some (.getfield 57, 3, 0, 0, false) else none)))
   else
    (bif Nat.ble 21 pc then (bif Nat.ble 22 pc then (bif Nat.beq pc 22 then some (.aload_n 0, 1, 0, 0, false) else none) else (bif Nat.beq pc 21 then some (.athrow, 1, 0, 0, false) else none)) else (bif Nat.ble 18 pc then (bif Nat.beq pc 18 then some (.invokespecial 240, 3, 0, 0, false) else none) else (bif Nat.beq pc 16 then some (.ldc 252, 2, 0, 0, false) else none))))
  else
   (bif Nat.ble 6 pc then
    (bif Nat.ble 12 pc then (bif Nat.ble 15 pc then (bif Nat.beq pc 15 then some (.dup, 1, 0, 0, false) else none) else (bif Nat.beq pc 12 then some (.new 236, 3, 0, 0, false) else none)) else (bif Nat.ble 9 pc then (bif Nat.beq pc 9 then some (.if_icmp .lt 13, 3, 22, 0, false) else none) else (bif Nat.beq pc 6 then some (.getfield 61, 3, 0, 0, false) else none)))
   else
    (bif Nat.ble 4 pc then (bif Nat.ble 5 pc then (bif Nat.beq pc 5 then some (.aload_n 0, 1, 0, 0, false) else none) else (bif Nat.beq pc 4 then some (.iload_n 1, 1, 0, 0, false) else none)) else (bif Nat.ble 1 pc then (bif Nat.beq pc 1 then some (.ifCond .lt 11, 3, 12, 0, false) else none) else (bif Nat.beq pc 0 then some (.iload_n 1, 1, 0, 0, false) else none)))))
def qX7_tell (pc : Nat) : Option mIn :=
  (bif Nat.ble 24 pc then
   (bif Nat.ble 35 pc then
    (bif Nat.ble 41 pc then
     (bif Nat.ble 43 pc then (bif Nat.ble 46 pc then (bif Nat.beq pc 46 then some (.return_, 1, 0, 0, false) else none) else (bif Nat.beq pc 43 then some (.putfield 61, 3, 0, 0, false) else none)) else (bif Nat.ble 42 pc then (bif Nat.beq pc 42 then some (.iadd, 1, 0, 0, false) else none) else (bif Nat.beq pc 41 then some (.iconst 2, 1, 0, 2, false) else none)))
    else
     (bif Nat.ble 37 pc then (bif Nat.ble 38 pc then (bif Nat.beq pc 38 then some (.getfield 61, 3, 0, 0, false) else none) else (bif Nat.beq pc 37 then some (.dup, 1, 0, 0, false) else none)) else (bif Nat.ble 36 pc then (bif Nat.beq pc 36 then some (.aload_n 0, 1, 0, 0, false) else none) else (bif Nat.beq pc 35 then some (.iastore, 1, 0, 0, false) else none))))
   else
    (bif Nat.ble 29 pc then
     (bif Nat.ble 33 pc then (bif Nat.ble 34 pc then (bif Nat.beq pc 34 then some (.iload_n 2, 1, 0, 0, false) else none) else (bif Nat.beq pc 33 then some (.iadd, 1, 0, 0, false) else none)) else (bif Nat.ble 32 pc then (bif Nat.beq pc 32 then some (.iconst 1, 1, 0, 1, false) else none) else (bif Nat.beq pc 29 then some (.getfield 61, 3, 0, 0, false) else none)))
    else
     (bif Nat.ble 25 pc then (bif Nat.ble 28 pc then (bif Nat.beq pc 28 then some (.aload_n 0, 1, 0, 0, false) else none) else (bif Nat.beq pc 25 then some (.getfield 57, 3, 0, 0, false) else none)) else (bif Nat.beq pc 24 then some (.aload_n 0, 1, 0, 0, false) else none))))
  else
   (bif Nat.ble 11 pc then
    (bif Nat.ble 18 pc then
     (bif Nat.ble 22 pc then (bif Nat.ble 23 pc then (bif Nat.beq pc 23 then some (.iastore, 1, 0, 0, false) else none) else (bif Nat.beq pc 22 then some (.iload_n 1, 1, 0, 0, false) else none)) else (bif Nat.ble 19 pc then (bif Nat.beq pc 19 then some (.getfield 61, 3, 0, 0, false) else none) else (bif Nat.beq pc 18 then some (.aload_n 0, 1, 0, 0, false) else none)))
    else
     (bif Nat.ble 14 pc then (bif Nat.ble 15 pc then (bif Nat.beq pc 15 then some (.getfield 57, 3, 0, 0, false) else none) else (bif Nat.beq pc 14 then some (.aload_n 0, 1, 0, 0, false) else none)) else (bif Nat.beq pc 11 then some (.if_icmp .gt 35, 3, 46, 0, false) else none)))
   else
    (bif Nat.ble 5 pc then
     (bif Nat.ble 7 pc then (bif Nat.ble 10 pc then (bif Nat.beq pc 10 then some (.arraylength, 1, 0, 0, false) else none) else (bif Nat.beq pc 7 then some (.getfield 57, 3, 0, 0, false) else none)) else (bif Nat.ble 6 pc then (bif Nat.beq pc 6 then some (.aload_n 0, 1, 0, 0, false) else none) else (bif Nat.beq pc 5 then some (.iadd, 1, 0, 0, false) else none)))
    else
     (bif Nat.ble 1 pc then (bif Nat.ble 4 pc then (bif Nat.beq pc 4 then some (.iconst 2, 1, 0, 2, false) else none) else (bif Nat.beq pc 1 then some (.getfield 61, 3, 0, 0, false) else none)) else (bif Nat.beq pc 0 then some (.aload_n 0, 1, 0, 0, false) else none)))))
def qX7_isBetween (pc : Nat) : Option mIn :=
  (bif Nat.ble 7 pc then
   (bif Nat.ble 11 pc then
    (bif Nat.ble 14 pc then (bif Nat.ble 15 pc then (bif Nat.beq pc 15 then some (.ireturn, 1, 0, 0, false) else none) else (bif Nat.beq pc 14 then some (.iconst 0, 1, 0, 0, false) else none)) else (bif Nat.beq pc 11 then some (.goto 4, 3, 15, 0, false) else none))
   else
    (bif Nat.ble 10 pc then (bif Nat.beq pc 10 then some (.iconst 1, 1, 0, 1, false) else none) else (bif Nat.beq pc 7 then some (.if_icmp .gt 7, 3, 14, 0, false) else none)))
  else
   (bif Nat.ble 2 pc then
    (bif Nat.ble 5 pc then (bif Nat.ble 6 pc then (bif Nat.beq pc 6 then some (.iload_n 2, 1, 0, 0, false) else none) else (bif Nat.beq pc 5 then some (.iload_n 0, 1, 0, 0, false) else none)) else (bif Nat.beq pc 2 then some (.if_icmp .lt 12, 3, 14, 0, false) else none))
   else
    (bif Nat.ble 1 pc then (bif Nat.beq pc 1 then some (.iload_n 1, 1, 0, 0, false) else none) else (bif Nat.beq pc 0 then some (.iload_n 0, 1, 0, 0, false) else none))))
def qX7_isYear (pc : Nat) : Option mIn :=
  (bif Nat.ble 2 pc then
   (bif Nat.ble 5 pc then (bif Nat.ble 8 pc then (bif Nat.beq pc 8 then some (.ireturn, 1, 0, 0, false) else none) else (bif Nat.beq pc 5 then some (.invokestatic 135, 3, 0, 0, false) else none)) else (bif Nat.beq pc 2 then some (.sipush 200, 3, 0, 200, false) else none))
  else
   (bif Nat.ble 1 pc then (bif Nat.beq pc 1 then some (.iconst 0, 1, 0, 0, false) else none) else (bif Nat.beq pc 0 then some (.iload_n 0, 1, 0, 0, false) else none)))
def qX7_isOwner (pc : Nat) : Option mIn :=
  (bif Nat.ble 2 pc then
   (bif Nat.ble 4 pc then (bif Nat.ble 7 pc then (bif Nat.beq pc 7 then some (.ireturn, 1, 0, 0, false) else none) else (bif Nat.beq pc 4 then some (.invokestatic 135, 3, 0, 0, false) else none)) else (bif Nat.beq pc 2 then some (.bipush 9, 2, 0, 9, false) else none))
  else
   (bif Nat.ble 1 pc then (bif Nat.beq pc 1 then some (.iconst 0, 1, 0, 0, false) else none) else (bif Nat.beq pc 0 then some (.iload_n 0, 1, 0, 0, false) else none)))
def qX7_isOwnerOrNone (pc : Nat) : Option mIn :=
  (bif Nat.ble 9 pc then
   (bif Nat.ble 13 pc then
    (bif Nat.ble 16 pc then (bif Nat.ble 17 pc then (bif Nat.beq pc 17 then some (.ireturn, 1, 0, 0, false) else none) else (bif Nat.beq pc 16 then some (.iconst 0, 1, 0, 0, false) else none)) else (bif Nat.beq pc 13 then some (.goto 4, 3, 17, 0, false) else none))
   else
    (bif Nat.ble 12 pc then (bif Nat.beq pc 12 then some (.iconst 1, 1, 0, 1, false) else none) else (bif Nat.beq pc 9 then some (.ifCond .eq 7, 3, 16, 0, false) else none)))
  else
   (bif Nat.ble 2 pc then
    (bif Nat.ble 5 pc then (bif Nat.ble 6 pc then (bif Nat.beq pc 6 then some (.invokestatic 121, 3, 0, 0, false) else none) else (bif Nat.beq pc 5 then some (.iload_n 0, 1, 0, 0, false) else none)) else (bif Nat.beq pc 2 then some (.if_icmp .eq 10, 3, 12, 0, false) else none))
   else
    (bif Nat.ble 1 pc then (bif Nat.beq pc 1 then some (.iconst (-1), 1, 0, -1, false) else none) else (bif Nat.beq pc 0 then some (.iload_n 0, 1, 0, 0, false) else none))))
def qX8_thrown (pc : Nat) : Option mIn :=
  (bif Nat.ble 1 pc then (bif Nat.ble 4 pc then (bif Nat.beq pc 4 then some (.ireturn, 1, 0, 0, false) else none) else (bif Nat.beq pc 1 then some (.getfield 3, 3, 0, 0, false) else none)) else (bif Nat.beq pc 0 then some (.aload_n 0, 1, 0, 0, false) else none))
def qX8_in (pc : Nat) : Option mIn :=
  (bif Nat.ble 9 pc then
   (bif Nat.ble 14 pc then
    (bif Nat.ble 17 pc then (bif Nat.ble 18 pc then (bif Nat.beq pc 18 then some (.ireturn, 1, 0, 0, false) else none) else (bif Nat.beq pc 17 then some (.iconst 0, 1, 0, 0, false) else none)) else (bif Nat.beq pc 14 then some (.goto 4, 3, 18, 0, false) else none))
   else
    (bif Nat.ble 10 pc then (bif Nat.ble 13 pc then (bif Nat.beq pc 13 then some (.iconst 1, 1, 0, 1, false) else none) else (bif Nat.beq pc 10 then some (.ifCond .gt 7, 3, 17, 0, false) else none)) else (bif Nat.beq pc 9 then some (.lcmp, 1, 0, 0, false) else none)))
  else
   (bif Nat.ble 3 pc then
    (bif Nat.ble 6 pc then (bif Nat.ble 7 pc then (bif Nat.beq pc 7 then some (.lload 4, 2, 0, 0, false) else none) else (bif Nat.beq pc 6 then some (.lload_n 0, 1, 0, 0, false) else none)) else (bif Nat.beq pc 3 then some (.ifCond .lt 14, 3, 17, 0, false) else none))
   else
    (bif Nat.ble 1 pc then (bif Nat.ble 2 pc then (bif Nat.beq pc 2 then some (.lcmp, 1, 0, 0, false) else none) else (bif Nat.beq pc 1 then some (.lload_n 2, 1, 0, 0, false) else none)) else (bif Nat.beq pc 0 then some (.lload_n 0, 1, 0, 0, false) else none))))
def qX8_refuse (pc : Nat) : Option mIn :=
  (bif Nat.ble 2 pc then
   (bif Nat.ble 5 pc then (bif Nat.ble 6 pc then (bif Nat.beq pc 6 then some (.ireturn, 1, 0, 0, false) else none) else (bif Nat.beq pc 5 then some (.iconst 0, 1, 0, 0, false) else none)) else (bif Nat.beq pc 2 then some (.putfield 3, 3, 0, 0, false) else none))
  else
   (bif Nat.ble 1 pc then (bif Nat.beq pc 1 then some (.iconst 1, 1, 0, 1, false) else none) else (bif Nat.beq pc 0 then some (.aload_n 0, 1, 0, 0, false) else none)))
def qX8_lays (pc : Nat) : Option mIn :=
  (bif Nat.ble 30 pc then
   (bif Nat.ble 44 pc then
    (bif Nat.ble 52 pc then
     (bif Nat.ble 54 pc then
      (bif Nat.ble 57 pc then (bif Nat.ble 60 pc then (bif Nat.beq pc 60 then some (.return_, 1, 0, 0, false) else none) else (bif Nat.beq pc 57 then some (.goto (-16), 3, 41, 0, false) else none)) else (bif Nat.beq pc 54 then some (.iinc 1 1, 3, 0, 1, false) else none))
     else
      (bif Nat.ble 53 pc then (bif Nat.beq pc 53 then some (.iastore, 1, 0, 0, false) else none) else (bif Nat.beq pc 52 then some (.iconst (-1), 1, 0, -1, false) else none)))
    else
     (bif Nat.ble 48 pc then (bif Nat.ble 51 pc then (bif Nat.beq pc 51 then some (.iload_n 1, 1, 0, 0, false) else none) else (bif Nat.beq pc 48 then some (.getfield 60, 3, 0, 0, false) else none)) else (bif Nat.ble 47 pc then (bif Nat.beq pc 47 then some (.aload_n 0, 1, 0, 0, false) else none) else (bif Nat.beq pc 44 then some (.if_icmp .ge 16, 3, 60, 0, false) else none))))
   else
    (bif Nat.ble 36 pc then
     (bif Nat.ble 40 pc then
      (bif Nat.ble 41 pc then (bif Nat.ble 42 pc then (bif Nat.beq pc 42 then some (.bipush 10, 2, 0, 10, false) else none) else (bif Nat.beq pc 41 then some (.iload_n 1, 1, 0, 0, true) else none)) else (bif Nat.beq pc 40 then some (.istore_n 1, 1, 0, 0, false) else none))
     else
      (bif Nat.ble 39 pc then (bif Nat.beq pc 39 then some (.iconst 0, 1, 0, 0, false) else none) else (bif Nat.beq pc 36 then some (.goto (-24), 3, 12, 0, false) else none)))
    else
     (bif Nat.ble 32 pc then (bif Nat.ble 33 pc then (bif Nat.beq pc 33 then some (.iinc 1 1, 3, 0, 1, false) else none) else (bif Nat.beq pc 32 then some (.iastore, 1, 0, 0, false) else none)) else (bif Nat.ble 31 pc then (bif Nat.beq pc 31 then some (.iconst (-1), 1, 0, -1, false) else none) else (bif Nat.beq pc 30 then some (.iload_n 1, 1, 0, 0, false) else none)))))
  else
   (bif Nat.ble 13 pc then
    (bif Nat.ble 23 pc then
     (bif Nat.ble 25 pc then
      (bif Nat.ble 26 pc then (bif Nat.ble 27 pc then (bif Nat.beq pc 27 then some (.getfield 27, 3, 0, 0, false) else none) else (bif Nat.beq pc 26 then some (.aload_n 0, 1, 0, 0, false) else none)) else (bif Nat.beq pc 25 then some (.bastore, 1, 0, 0, false) else none))
     else
      (bif Nat.ble 24 pc then (bif Nat.beq pc 24 then some (.iconst 0, 1, 0, 0, false) else none) else (bif Nat.beq pc 23 then some (.iload_n 1, 1, 0, 0, false) else none)))
    else
     (bif Nat.ble 19 pc then (bif Nat.ble 20 pc then (bif Nat.beq pc 20 then some (.getfield 23, 3, 0, 0, false) else none) else (bif Nat.beq pc 19 then some (.aload_n 0, 1, 0, 0, false) else none)) else (bif Nat.ble 16 pc then (bif Nat.beq pc 16 then some (.if_icmp .ge 23, 3, 39, 0, false) else none) else (bif Nat.beq pc 13 then some (.sipush 144, 3, 0, 144, false) else none))))
   else
    (bif Nat.ble 6 pc then
     (bif Nat.ble 10 pc then
      (bif Nat.ble 11 pc then (bif Nat.ble 12 pc then (bif Nat.beq pc 12 then some (.iload_n 1, 1, 0, 0, true) else none) else (bif Nat.beq pc 11 then some (.istore_n 1, 1, 0, 0, false) else none)) else (bif Nat.beq pc 10 then some (.iconst 0, 1, 0, 0, false) else none))
     else
      (bif Nat.ble 7 pc then (bif Nat.beq pc 7 then some (.putfield 93, 3, 0, 0, false) else none) else (bif Nat.beq pc 6 then some (.iconst 0, 1, 0, 0, false) else none)))
    else
     (bif Nat.ble 2 pc then (bif Nat.ble 5 pc then (bif Nat.beq pc 5 then some (.aload_n 0, 1, 0, 0, false) else none) else (bif Nat.beq pc 2 then some (.putfield 90, 3, 0, 0, false) else none)) else (bif Nat.ble 1 pc then (bif Nat.beq pc 1 then some (.iconst 0, 1, 0, 0, false) else none) else (bif Nat.beq pc 0 then some (.aload_n 0, 1, 0, 0, false) else none))))))
def qX8_isCell (pc : Nat) : Option mIn :=
  (bif Nat.ble 18 pc then
   (bif Nat.ble 26 pc then
    (bif Nat.ble 33 pc then
     (bif Nat.ble 36 pc then (bif Nat.ble 37 pc then (bif Nat.beq pc 37 then some (.ireturn, 1, 0, 0, false) else none) else (bif Nat.beq pc 36 then some (.iconst 0, 1, 0, 0, false) else none)) else (bif Nat.beq pc 33 then some (.goto 4, 3, 37, 0, false) else none))
    else
     (bif Nat.ble 29 pc then (bif Nat.ble 32 pc then (bif Nat.beq pc 32 then some (.iconst 1, 1, 0, 1, false) else none) else (bif Nat.beq pc 29 then some (.ifCond .eq 7, 3, 36, 0, false) else none)) else (bif Nat.beq pc 26 then some (.invokestatic 96, 3, 0, 0, false) else none)))
   else
    (bif Nat.ble 23 pc then
     (bif Nat.ble 24 pc then (bif Nat.ble 25 pc then (bif Nat.beq pc 25 then some (.i2l, 1, 0, 0, false) else none) else (bif Nat.beq pc 24 then some (.isub, 1, 0, 0, false) else none)) else (bif Nat.beq pc 23 then some (.iconst 1, 1, 0, 1, false) else none))
    else
     (bif Nat.ble 19 pc then (bif Nat.ble 20 pc then (bif Nat.beq pc 20 then some (.getfield 16, 3, 0, 0, false) else none) else (bif Nat.beq pc 19 then some (.aload_n 0, 1, 0, 0, false) else none)) else (bif Nat.beq pc 18 then some (.lconst 0, 1, 0, 0, false) else none))))
  else
   (bif Nat.ble 8 pc then
    (bif Nat.ble 13 pc then
     (bif Nat.ble 16 pc then (bif Nat.ble 17 pc then (bif Nat.beq pc 17 then some (.i2l, 1, 0, 0, false) else none) else (bif Nat.beq pc 16 then some (.iload_n 2, 1, 0, 0, false) else none)) else (bif Nat.beq pc 13 then some (.ifCond .eq 23, 3, 36, 0, false) else none))
    else
     (bif Nat.ble 9 pc then (bif Nat.ble 10 pc then (bif Nat.beq pc 10 then some (.invokestatic 96, 3, 0, 0, false) else none) else (bif Nat.beq pc 9 then some (.i2l, 1, 0, 0, false) else none)) else (bif Nat.beq pc 8 then some (.isub, 1, 0, 0, false) else none)))
   else
    (bif Nat.ble 3 pc then
     (bif Nat.ble 4 pc then (bif Nat.ble 7 pc then (bif Nat.beq pc 7 then some (.iconst 1, 1, 0, 1, false) else none) else (bif Nat.beq pc 4 then some (.getfield 13, 3, 0, 0, false) else none)) else (bif Nat.beq pc 3 then some (.aload_n 0, 1, 0, 0, false) else none))
    else
     (bif Nat.ble 1 pc then (bif Nat.ble 2 pc then (bif Nat.beq pc 2 then some (.lconst 0, 1, 0, 0, false) else none) else (bif Nat.beq pc 1 then some (.i2l, 1, 0, 0, false) else none)) else (bif Nat.beq pc 0 then some (.iload_n 1, 1, 0, 0, false) else none)))))
def qX8_isYear (pc : Nat) : Option mIn :=
  (bif Nat.ble 3 pc then
   (bif Nat.ble 6 pc then (bif Nat.ble 9 pc then (bif Nat.beq pc 9 then some (.ireturn, 1, 0, 0, false) else none) else (bif Nat.beq pc 6 then some (.invokestatic 96, 3, 0, 0, false) else none)) else (bif Nat.beq pc 3 then some (.ldc2_w 100, 3, 0, 0, false) else none))
  else
   (bif Nat.ble 1 pc then (bif Nat.ble 2 pc then (bif Nat.beq pc 2 then some (.lconst 0, 1, 0, 0, false) else none) else (bif Nat.beq pc 1 then some (.i2l, 1, 0, 0, false) else none)) else (bif Nat.beq pc 0 then some (.iload_n 0, 1, 0, 0, false) else none)))
def qX8_cell (pc : Nat) : Option mIn :=
  (bif Nat.ble 4 pc then
   (bif Nat.ble 5 pc then (bif Nat.ble 6 pc then (bif Nat.beq pc 6 then some (.ireturn, 1, 0, 0, false) else none) else (bif Nat.beq pc 5 then some (.iadd, 1, 0, 0, false) else none)) else (bif Nat.beq pc 4 then some (.iload_n 0, 1, 0, 0, false) else none))
  else
   (bif Nat.ble 2 pc then (bif Nat.ble 3 pc then (bif Nat.beq pc 3 then some (.imul, 1, 0, 0, false) else none) else (bif Nat.beq pc 2 then some (.iload_n 1, 1, 0, 0, false) else none)) else (bif Nat.beq pc 0 then some (.bipush 12, 2, 0, 12, false) else none)))
def qX8_land (pc : Nat) : Option mIn :=
  (bif Nat.ble 23 pc then
   (bif Nat.ble 36 pc then
    (bif Nat.ble 41 pc then
     (bif Nat.ble 45 pc then (bif Nat.ble 46 pc then (bif Nat.beq pc 46 then some (.ireturn, 1, 0, 0, false) else none) else (bif Nat.beq pc 45 then some (.iconst 1, 1, 0, 1, false) else none)) else (bif Nat.ble 42 pc then (bif Nat.beq pc 42 then some (.invokevirtual 87, 3, 0, 0, false) else none) else (bif Nat.beq pc 41 then some (.aload_n 0, 1, 0, 0, false) else none)))
    else
     (bif Nat.ble 37 pc then (bif Nat.ble 38 pc then (bif Nat.beq pc 38 then some (.putfield 16, 3, 0, 0, false) else none) else (bif Nat.beq pc 37 then some (.iload_n 2, 1, 0, 0, false) else none)) else (bif Nat.beq pc 36 then some (.aload_n 0, 1, 0, 0, false) else none)))
   else
    (bif Nat.ble 30 pc then
     (bif Nat.ble 32 pc then (bif Nat.ble 33 pc then (bif Nat.beq pc 33 then some (.putfield 13, 3, 0, 0, false) else none) else (bif Nat.beq pc 32 then some (.iload_n 1, 1, 0, 0, false) else none)) else (bif Nat.ble 31 pc then (bif Nat.beq pc 31 then some (.aload_n 0, 1, 0, 0, false) else none) else (bif Nat.beq pc 30 then some (.ireturn, 1, 0, 0, false) else none)))
    else
     (bif Nat.ble 26 pc then (bif Nat.ble 29 pc then (bif Nat.beq pc 29 then some (.iconst 0, 1, 0, 0, false) else none) else (bif Nat.beq pc 26 then some (.ifCond .ne 5, 3, 31, 0, false) else none)) else (bif Nat.beq pc 23 then some (.invokestatic 96, 3, 0, 0, false) else none))))
  else
   (bif Nat.ble 8 pc then
    (bif Nat.ble 17 pc then
     (bif Nat.ble 19 pc then (bif Nat.ble 20 pc then (bif Nat.beq pc 20 then some (.ldc2_w 102, 3, 0, 0, false) else none) else (bif Nat.beq pc 19 then some (.lconst 1, 1, 0, 0, false) else none)) else (bif Nat.ble 18 pc then (bif Nat.beq pc 18 then some (.i2l, 1, 0, 0, false) else none) else (bif Nat.beq pc 17 then some (.iload_n 2, 1, 0, 0, false) else none)))
    else
     (bif Nat.ble 11 pc then (bif Nat.ble 14 pc then (bif Nat.beq pc 14 then some (.ifCond .eq 15, 3, 29, 0, false) else none) else (bif Nat.beq pc 11 then some (.invokestatic 96, 3, 0, 0, false) else none)) else (bif Nat.beq pc 8 then some (.ldc2_w 102, 3, 0, 0, false) else none)))
   else
    (bif Nat.ble 5 pc then
     (bif Nat.ble 6 pc then (bif Nat.ble 7 pc then (bif Nat.beq pc 7 then some (.lconst 1, 1, 0, 0, false) else none) else (bif Nat.beq pc 6 then some (.i2l, 1, 0, 0, false) else none)) else (bif Nat.beq pc 5 then some (.iload_n 1, 1, 0, 0, false) else none))
    else
     (bif Nat.ble 1 pc then (bif Nat.ble 2 pc then (bif Nat.beq pc 2 then some (.putfield 3, 3, 0, 0, false) else none) else (bif Nat.beq pc 1 then some (.iconst 0, 1, 0, 0, false) else none)) else (bif Nat.beq pc 0 then some (.aload_n 0, 1, 0, 0, false) else none)))))
def qX8_rowOf (pc : Nat) : Option mIn :=
  (bif Nat.ble 35 pc then
   (bif Nat.ble 54 pc then
    (bif Nat.ble 64 pc then
     (bif Nat.ble 69 pc then
      (bif Nat.ble 72 pc then (bif Nat.ble 73 pc then (bif Nat.beq pc 73 then some (.ireturn, 1, 0, 0, false) else none) else (bif Nat.beq pc 72 then some (.iload_n 3, 1, 0, 0, false) else none)) else (bif Nat.beq pc 69 then some (.goto (-64), 3, 5, 0, false) else none))
     else
      (bif Nat.ble 65 pc then (bif Nat.ble 66 pc then (bif Nat.beq pc 66 then some (.iinc 4 1, 3, 0, 1, false) else none) else (bif Nat.beq pc 65 then some (.istore_n 3, 1, 0, 0, false) else none)) else (bif Nat.beq pc 64 then some (.iadd, 1, 0, 0, false) else none)))
    else
     (bif Nat.ble 59 pc then
      (bif Nat.ble 60 pc then (bif Nat.ble 63 pc then (bif Nat.beq pc 63 then some (.iconst 0, 1, 0, 0, false) else none) else (bif Nat.beq pc 60 then some (.goto 4, 3, 64, 0, false) else none)) else (bif Nat.beq pc 59 then some (.iconst 1, 1, 0, 1, false) else none))
     else
      (bif Nat.ble 56 pc then (bif Nat.beq pc 56 then some (.ifCond .eq 7, 3, 63, 0, false) else none) else (bif Nat.beq pc 54 then some (.iload 5, 2, 0, 0, false) else none))))
   else
    (bif Nat.ble 45 pc then
     (bif Nat.ble 50 pc then
      (bif Nat.ble 52 pc then (bif Nat.ble 53 pc then (bif Nat.beq pc 53 then some (.iload_n 3, 1, 0, 0, false) else none) else (bif Nat.beq pc 52 then some (.bastore, 1, 0, 0, false) else none)) else (bif Nat.beq pc 50 then some (.iload 5, 2, 0, 0, false) else none))
     else
      (bif Nat.ble 46 pc then (bif Nat.ble 49 pc then (bif Nat.beq pc 49 then some (.iadd, 1, 0, 0, false) else none) else (bif Nat.beq pc 46 then some (.invokestatic 104, 3, 0, 0, false) else none)) else (bif Nat.beq pc 45 then some (.iload_n 1, 1, 0, 0, false) else none)))
    else
     (bif Nat.ble 39 pc then
      (bif Nat.ble 42 pc then (bif Nat.ble 43 pc then (bif Nat.beq pc 43 then some (.iload 4, 2, 0, 0, false) else none) else (bif Nat.beq pc 42 then some (.imul, 1, 0, 0, false) else none)) else (bif Nat.beq pc 39 then some (.getfield 90, 3, 0, 0, false) else none))
     else
      (bif Nat.ble 38 pc then (bif Nat.beq pc 38 then some (.aload_n 0, 1, 0, 0, false) else none) else (bif Nat.beq pc 35 then some (.sipush 144, 3, 0, 144, false) else none)))))
  else
   (bif Nat.ble 17 pc then
    (bif Nat.ble 24 pc then
     (bif Nat.ble 29 pc then
      (bif Nat.ble 31 pc then (bif Nat.ble 32 pc then (bif Nat.beq pc 32 then some (.getfield 23, 3, 0, 0, false) else none) else (bif Nat.beq pc 31 then some (.aload_n 0, 1, 0, 0, false) else none)) else (bif Nat.beq pc 29 then some (.istore 5, 2, 0, 0, false) else none))
     else
      (bif Nat.ble 25 pc then (bif Nat.ble 28 pc then (bif Nat.beq pc 28 then some (.iconst 0, 1, 0, 0, false) else none) else (bif Nat.beq pc 25 then some (.goto 4, 3, 29, 0, false) else none)) else (bif Nat.beq pc 24 then some (.iconst 1, 1, 0, 1, false) else none)))
    else
     (bif Nat.ble 19 pc then
      (bif Nat.ble 20 pc then (bif Nat.ble 21 pc then (bif Nat.beq pc 21 then some (.if_icmp .ne 7, 3, 28, 0, false) else none) else (bif Nat.beq pc 20 then some (.iconst 1, 1, 0, 1, false) else none)) else (bif Nat.beq pc 19 then some (.iand, 1, 0, 0, false) else none))
     else
      (bif Nat.ble 18 pc then (bif Nat.beq pc 18 then some (.iconst 1, 1, 0, 1, false) else none) else (bif Nat.beq pc 17 then some (.ishr, 1, 0, 0, false) else none))))
   else
    (bif Nat.ble 7 pc then
     (bif Nat.ble 11 pc then
      (bif Nat.ble 14 pc then (bif Nat.ble 15 pc then (bif Nat.beq pc 15 then some (.iload 4, 2, 0, 0, false) else none) else (bif Nat.beq pc 14 then some (.iload_n 2, 1, 0, 0, false) else none)) else (bif Nat.beq pc 11 then some (.if_icmp .ge 61, 3, 72, 0, false) else none))
     else
      (bif Nat.ble 8 pc then (bif Nat.beq pc 8 then some (.getfield 13, 3, 0, 0, false) else none) else (bif Nat.beq pc 7 then some (.aload_n 0, 1, 0, 0, false) else none)))
    else
     (bif Nat.ble 2 pc then
      (bif Nat.ble 3 pc then (bif Nat.ble 5 pc then (bif Nat.beq pc 5 then some (.iload 4, 2, 0, 0, true) else none) else (bif Nat.beq pc 3 then some (.istore 4, 2, 0, 0, false) else none)) else (bif Nat.beq pc 2 then some (.iconst 0, 1, 0, 0, false) else none))
     else
      (bif Nat.ble 1 pc then (bif Nat.beq pc 1 then some (.istore_n 3, 1, 0, 0, false) else none) else (bif Nat.beq pc 0 then some (.iconst 0, 1, 0, 0, false) else none))))))
def qX8_water (pc : Nat) : Option mIn :=
  (bif Nat.ble 18 pc then
   (bif Nat.ble 31 pc then
    (bif Nat.ble 36 pc then
     (bif Nat.ble 39 pc then (bif Nat.ble 40 pc then (bif Nat.beq pc 40 then some (.ireturn, 1, 0, 0, false) else none) else (bif Nat.beq pc 39 then some (.iconst (-1), 1, 0, -1, false) else none)) else (bif Nat.beq pc 36 then some (.goto 4, 3, 40, 0, false) else none))
    else
     (bif Nat.ble 32 pc then (bif Nat.ble 33 pc then (bif Nat.beq pc 33 then some (.invokevirtual 108, 3, 0, 0, false) else none) else (bif Nat.beq pc 32 then some (.iload_n 2, 1, 0, 0, false) else none)) else (bif Nat.beq pc 31 then some (.iload_n 1, 1, 0, 0, false) else none)))
   else
    (bif Nat.ble 25 pc then
     (bif Nat.ble 27 pc then (bif Nat.ble 30 pc then (bif Nat.beq pc 30 then some (.aload_n 0, 1, 0, 0, false) else none) else (bif Nat.beq pc 27 then some (.if_icmp .ge 12, 3, 39, 0, false) else none)) else (bif Nat.beq pc 25 then some (.bipush 10, 2, 0, 10, false) else none))
    else
     (bif Nat.ble 21 pc then (bif Nat.ble 22 pc then (bif Nat.beq pc 22 then some (.getfield 90, 3, 0, 0, false) else none) else (bif Nat.beq pc 21 then some (.aload_n 0, 1, 0, 0, false) else none)) else (bif Nat.beq pc 18 then some (.ifCond .eq 21, 3, 39, 0, false) else none))))
  else
   (bif Nat.ble 8 pc then
    (bif Nat.ble 13 pc then
     (bif Nat.ble 14 pc then (bif Nat.ble 15 pc then (bif Nat.beq pc 15 then some (.invokestatic 96, 3, 0, 0, false) else none) else (bif Nat.beq pc 14 then some (.i2l, 1, 0, 0, false) else none)) else (bif Nat.beq pc 13 then some (.isub, 1, 0, 0, false) else none))
    else
     (bif Nat.ble 9 pc then (bif Nat.ble 12 pc then (bif Nat.beq pc 12 then some (.iconst 1, 1, 0, 1, false) else none) else (bif Nat.beq pc 9 then some (.getfield 16, 3, 0, 0, false) else none)) else (bif Nat.beq pc 8 then some (.aload_n 0, 1, 0, 0, false) else none)))
   else
    (bif Nat.ble 5 pc then
     (bif Nat.ble 6 pc then (bif Nat.ble 7 pc then (bif Nat.beq pc 7 then some (.lconst 0, 1, 0, 0, false) else none) else (bif Nat.beq pc 6 then some (.i2l, 1, 0, 0, false) else none)) else (bif Nat.beq pc 5 then some (.iload_n 1, 1, 0, 0, false) else none))
    else
     (bif Nat.ble 1 pc then (bif Nat.ble 2 pc then (bif Nat.beq pc 2 then some (.putfield 3, 3, 0, 0, false) else none) else (bif Nat.beq pc 1 then some (.iconst 0, 1, 0, 0, false) else none)) else (bif Nat.beq pc 0 then some (.aload_n 0, 1, 0, 0, false) else none)))))
def qX8_sheet (pc : Nat) : Option mIn :=
  (bif Nat.ble 63 pc then
   (bif Nat.ble 94 pc then
    (bif Nat.ble 113 pc then
     (bif Nat.ble 120 pc then
      (bif Nat.ble 125 pc then
       (bif Nat.ble 128 pc then (bif Nat.ble 130 pc then (bif Nat.beq pc 130 then some (.ireturn, 1, 0, 0, false) else none) else (bif Nat.beq pc 128 then some (.iload 6, 2, 0, 0, false) else none)) else (bif Nat.beq pc 125 then some (.goto (-42), 3, 83, 0, false) else none))
      else
       (bif Nat.ble 122 pc then (bif Nat.beq pc 122 then some (.iinc 8 1, 3, 0, 1, false) else none) else (bif Nat.beq pc 120 then some (.istore 7, 2, 0, 0, false) else none)))
     else
      (bif Nat.ble 117 pc then (bif Nat.ble 119 pc then (bif Nat.beq pc 119 then some (.iadd, 1, 0, 0, false) else none) else (bif Nat.beq pc 117 then some (.iload 5, 2, 0, 0, false) else none)) else (bif Nat.ble 115 pc then (bif Nat.beq pc 115 then some (.iload 7, 2, 0, 0, false) else none) else (bif Nat.beq pc 113 then some (.istore 9, 2, 0, 0, false) else none))))
    else
     (bif Nat.ble 101 pc then
      (bif Nat.ble 105 pc then
       (bif Nat.ble 108 pc then (bif Nat.ble 110 pc then (bif Nat.beq pc 110 then some (.invokevirtual 108, 3, 0, 0, false) else none) else (bif Nat.beq pc 108 then some (.iload 7, 2, 0, 0, false) else none)) else (bif Nat.beq pc 105 then some (.goto 5, 3, 110, 0, false) else none))
      else
       (bif Nat.ble 104 pc then (bif Nat.beq pc 104 then some (.iand, 1, 0, 0, false) else none) else (bif Nat.beq pc 101 then some (.sipush 255, 3, 0, 255, false) else none)))
     else
      (bif Nat.ble 96 pc then (bif Nat.ble 99 pc then (bif Nat.beq pc 99 then some (.iload 7, 2, 0, 0, false) else none) else (bif Nat.beq pc 96 then some (.ifCond .ne 12, 3, 108, 0, false) else none)) else (bif Nat.ble 95 pc then (bif Nat.beq pc 95 then some (.iload_n 2, 1, 0, 0, false) else none) else (bif Nat.beq pc 94 then some (.iadd, 1, 0, 0, false) else none)))))
   else
    (bif Nat.ble 78 pc then
     (bif Nat.ble 85 pc then
      (bif Nat.ble 90 pc then
       (bif Nat.ble 91 pc then (bif Nat.ble 92 pc then (bif Nat.beq pc 92 then some (.iload 8, 2, 0, 0, false) else none) else (bif Nat.beq pc 91 then some (.iload_n 1, 1, 0, 0, false) else none)) else (bif Nat.beq pc 90 then some (.aload_n 0, 1, 0, 0, false) else none))
      else
       (bif Nat.ble 87 pc then (bif Nat.beq pc 87 then some (.if_icmp .ge 41, 3, 128, 0, false) else none) else (bif Nat.beq pc 85 then some (.iload 6, 2, 0, 0, false) else none)))
     else
      (bif Nat.ble 81 pc then (bif Nat.ble 83 pc then (bif Nat.beq pc 83 then some (.iload 8, 2, 0, 0, true) else none) else (bif Nat.beq pc 81 then some (.istore 8, 2, 0, 0, false) else none)) else (bif Nat.ble 80 pc then (bif Nat.beq pc 80 then some (.iconst 0, 1, 0, 0, false) else none) else (bif Nat.beq pc 78 then some (.istore 7, 2, 0, 0, false) else none))))
    else
     (bif Nat.ble 69 pc then
      (bif Nat.ble 71 pc then
       (bif Nat.ble 74 pc then (bif Nat.ble 76 pc then (bif Nat.beq pc 76 then some (.iload 4, 2, 0, 0, false) else none) else (bif Nat.beq pc 74 then some (.istore 6, 2, 0, 0, false) else none)) else (bif Nat.beq pc 71 then some (.invokestatic 113, 3, 0, 0, false) else none))
      else
       (bif Nat.ble 70 pc then (bif Nat.beq pc 70 then some (.isub, 1, 0, 0, false) else none) else (bif Nat.beq pc 69 then some (.iload_n 1, 1, 0, 0, false) else none)))
     else
      (bif Nat.ble 65 pc then (bif Nat.ble 66 pc then (bif Nat.beq pc 66 then some (.getfield 16, 3, 0, 0, false) else none) else (bif Nat.beq pc 65 then some (.aload_n 0, 1, 0, 0, false) else none)) else (bif Nat.ble 64 pc then (bif Nat.beq pc 64 then some (.iload_n 3, 1, 0, 0, false) else none) else (bif Nat.beq pc 63 then some (.ireturn, 1, 0, 0, false) else none))))))
  else
   (bif Nat.ble 30 pc then
    (bif Nat.ble 49 pc then
     (bif Nat.ble 55 pc then
      (bif Nat.ble 57 pc then
       (bif Nat.ble 58 pc then (bif Nat.ble 61 pc then (bif Nat.beq pc 61 then some (.bipush (-2), 2, 0, -2, false) else none) else (bif Nat.beq pc 58 then some (.ifCond .ge 6, 3, 64, 0, false) else none)) else (bif Nat.beq pc 57 then some (.iload_n 3, 1, 0, 0, false) else none))
      else
       (bif Nat.ble 56 pc then (bif Nat.beq pc 56 then some (.ireturn, 1, 0, 0, false) else none) else (bif Nat.beq pc 55 then some (.iconst 0, 1, 0, 0, false) else none)))
     else
      (bif Nat.ble 51 pc then (bif Nat.ble 52 pc then (bif Nat.beq pc 52 then some (.if_icmp .ne 5, 3, 57, 0, false) else none) else (bif Nat.beq pc 51 then some (.iconst 2, 1, 0, 2, false) else none)) else (bif Nat.ble 50 pc then (bif Nat.beq pc 50 then some (.iload_n 2, 1, 0, 0, false) else none) else (bif Nat.beq pc 49 then some (.ireturn, 1, 0, 0, false) else none))))
    else
     (bif Nat.ble 39 pc then
      (bif Nat.ble 43 pc then
       (bif Nat.ble 45 pc then (bif Nat.ble 48 pc then (bif Nat.beq pc 48 then some (.iconst (-1), 1, 0, -1, false) else none) else (bif Nat.beq pc 45 then some (.if_icmp .ne 5, 3, 50, 0, false) else none)) else (bif Nat.beq pc 43 then some (.bipush 10, 2, 0, 10, false) else none))
      else
       (bif Nat.ble 40 pc then (bif Nat.beq pc 40 then some (.getfield 90, 3, 0, 0, false) else none) else (bif Nat.beq pc 39 then some (.aload_n 0, 1, 0, 0, false) else none)))
     else
      (bif Nat.ble 34 pc then (bif Nat.ble 36 pc then (bif Nat.beq pc 36 then some (.if_icmp .gt 12, 3, 48, 0, false) else none) else (bif Nat.beq pc 34 then some (.bipush 20, 2, 0, 20, false) else none)) else (bif Nat.ble 33 pc then (bif Nat.beq pc 33 then some (.iload_n 3, 1, 0, 0, false) else none) else (bif Nat.beq pc 30 then some (.ifCond .eq 18, 3, 48, 0, false) else none)))))
   else
    (bif Nat.ble 13 pc then
     (bif Nat.ble 21 pc then
      (bif Nat.ble 23 pc then
       (bif Nat.ble 24 pc then (bif Nat.ble 27 pc then (bif Nat.beq pc 27 then some (.invokestatic 96, 3, 0, 0, false) else none) else (bif Nat.beq pc 24 then some (.ldc2_w 111, 3, 0, 0, false) else none)) else (bif Nat.beq pc 23 then some (.lconst 0, 1, 0, 0, false) else none))
      else
       (bif Nat.ble 22 pc then (bif Nat.beq pc 22 then some (.i2l, 1, 0, 0, false) else none) else (bif Nat.beq pc 21 then some (.iload_n 2, 1, 0, 0, false) else none)))
     else
      (bif Nat.ble 15 pc then (bif Nat.ble 18 pc then (bif Nat.beq pc 18 then some (.ifCond .eq 30, 3, 48, 0, false) else none) else (bif Nat.beq pc 15 then some (.invokestatic 96, 3, 0, 0, false) else none)) else (bif Nat.ble 14 pc then (bif Nat.beq pc 14 then some (.i2l, 1, 0, 0, false) else none) else (bif Nat.beq pc 13 then some (.isub, 1, 0, 0, false) else none))))
    else
     (bif Nat.ble 6 pc then
      (bif Nat.ble 8 pc then
       (bif Nat.ble 9 pc then (bif Nat.ble 12 pc then (bif Nat.beq pc 12 then some (.iconst 1, 1, 0, 1, false) else none) else (bif Nat.beq pc 9 then some (.getfield 16, 3, 0, 0, false) else none)) else (bif Nat.beq pc 8 then some (.aload_n 0, 1, 0, 0, false) else none))
      else
       (bif Nat.ble 7 pc then (bif Nat.beq pc 7 then some (.lconst 0, 1, 0, 0, false) else none) else (bif Nat.beq pc 6 then some (.i2l, 1, 0, 0, false) else none)))
     else
      (bif Nat.ble 2 pc then (bif Nat.ble 5 pc then (bif Nat.beq pc 5 then some (.iload_n 1, 1, 0, 0, false) else none) else (bif Nat.beq pc 2 then some (.putfield 3, 3, 0, 0, false) else none)) else (bif Nat.ble 1 pc then (bif Nat.beq pc 1 then some (.iconst 0, 1, 0, 0, false) else none) else (bif Nat.beq pc 0 then some (.aload_n 0, 1, 0, 0, false) else none)))))))
def qX8_map (pc : Nat) : Option mIn :=
  (bif Nat.ble 61 pc then
   (bif Nat.ble 92 pc then
    (bif Nat.ble 104 pc then
     (bif Nat.ble 112 pc then
      (bif Nat.ble 116 pc then
       (bif Nat.ble 117 pc then (bif Nat.ble 118 pc then (bif Nat.beq pc 118 then some (.ireturn, 1, 0, 0, false) else none) else (bif Nat.beq pc 117 then some (.isub, 1, 0, 0, false) else none)) else (bif Nat.beq pc 116 then some (.iconst 1, 1, 0, 1, false) else none))
      else
       (bif Nat.ble 113 pc then (bif Nat.beq pc 113 then some (.getfield 90, 3, 0, 0, false) else none) else (bif Nat.beq pc 112 then some (.aload_n 0, 1, 0, 0, false) else none)))
     else
      (bif Nat.ble 108 pc then (bif Nat.ble 109 pc then (bif Nat.beq pc 109 then some (.putfield 90, 3, 0, 0, false) else none) else (bif Nat.beq pc 108 then some (.iadd, 1, 0, 0, false) else none)) else (bif Nat.ble 107 pc then (bif Nat.beq pc 107 then some (.iconst 1, 1, 0, 1, false) else none) else (bif Nat.beq pc 104 then some (.getfield 90, 3, 0, 0, false) else none))))
    else
     (bif Nat.ble 96 pc then
      (bif Nat.ble 102 pc then (bif Nat.ble 103 pc then (bif Nat.beq pc 103 then some (.dup, 1, 0, 0, false) else none) else (bif Nat.beq pc 102 then some (.aload_n 0, 1, 0, 0, false) else none)) else (bif Nat.ble 99 pc then (bif Nat.beq pc 99 then some (.goto (-42), 3, 57, 0, false) else none) else (bif Nat.beq pc 96 then some (.iinc 2 1, 3, 0, 1, false) else none)))
     else
      (bif Nat.ble 94 pc then (bif Nat.ble 95 pc then (bif Nat.beq pc 95 then some (.bastore, 1, 0, 0, false) else none) else (bif Nat.beq pc 94 then some (.baload, 1, 0, 0, false) else none)) else (bif Nat.ble 93 pc then (bif Nat.beq pc 93 then some (.iadd, 1, 0, 0, false) else none) else (bif Nat.beq pc 92 then some (.iload_n 2, 1, 0, 0, false) else none)))))
   else
    (bif Nat.ble 77 pc then
     (bif Nat.ble 81 pc then
      (bif Nat.ble 87 pc then
       (bif Nat.ble 88 pc then (bif Nat.ble 91 pc then (bif Nat.beq pc 91 then some (.imul, 1, 0, 0, false) else none) else (bif Nat.beq pc 88 then some (.getfield 90, 3, 0, 0, false) else none)) else (bif Nat.beq pc 87 then some (.aload_n 0, 1, 0, 0, false) else none))
      else
       (bif Nat.ble 84 pc then (bif Nat.beq pc 84 then some (.sipush 144, 3, 0, 144, false) else none) else (bif Nat.beq pc 81 then some (.getfield 23, 3, 0, 0, false) else none)))
     else
      (bif Nat.ble 79 pc then (bif Nat.ble 80 pc then (bif Nat.beq pc 80 then some (.aload_n 0, 1, 0, 0, false) else none) else (bif Nat.beq pc 79 then some (.iadd, 1, 0, 0, false) else none)) else (bif Nat.ble 78 pc then (bif Nat.beq pc 78 then some (.iload_n 2, 1, 0, 0, false) else none) else (bif Nat.beq pc 77 then some (.imul, 1, 0, 0, false) else none))))
    else
     (bif Nat.ble 71 pc then
      (bif Nat.ble 75 pc then (bif Nat.ble 76 pc then (bif Nat.beq pc 76 then some (.iadd, 1, 0, 0, false) else none) else (bif Nat.beq pc 75 then some (.iconst 1, 1, 0, 1, false) else none)) else (bif Nat.ble 72 pc then (bif Nat.beq pc 72 then some (.getfield 90, 3, 0, 0, false) else none) else (bif Nat.beq pc 71 then some (.aload_n 0, 1, 0, 0, false) else none)))
     else
      (bif Nat.ble 65 pc then (bif Nat.ble 68 pc then (bif Nat.beq pc 68 then some (.sipush 144, 3, 0, 144, false) else none) else (bif Nat.beq pc 65 then some (.getfield 23, 3, 0, 0, false) else none)) else (bif Nat.ble 64 pc then (bif Nat.beq pc 64 then some (.aload_n 0, 1, 0, 0, false) else none) else (bif Nat.beq pc 61 then some (.if_icmp .ge 41, 3, 102, 0, false) else none))))))
  else
   (bif Nat.ble 34 pc then
    (bif Nat.ble 46 pc then
     (bif Nat.ble 54 pc then
      (bif Nat.ble 56 pc then
       (bif Nat.ble 57 pc then (bif Nat.ble 58 pc then (bif Nat.beq pc 58 then some (.sipush 144, 3, 0, 144, false) else none) else (bif Nat.beq pc 57 then some (.iload_n 2, 1, 0, 0, true) else none)) else (bif Nat.beq pc 56 then some (.istore_n 2, 1, 0, 0, false) else none))
      else
       (bif Nat.ble 55 pc then (bif Nat.beq pc 55 then some (.iconst 0, 1, 0, 0, false) else none) else (bif Nat.beq pc 54 then some (.iastore, 1, 0, 0, false) else none)))
     else
      (bif Nat.ble 50 pc then (bif Nat.ble 53 pc then (bif Nat.beq pc 53 then some (.iload_n 1, 1, 0, 0, false) else none) else (bif Nat.beq pc 50 then some (.getfield 90, 3, 0, 0, false) else none)) else (bif Nat.ble 49 pc then (bif Nat.beq pc 49 then some (.aload_n 0, 1, 0, 0, false) else none) else (bif Nat.beq pc 46 then some (.getfield 19, 3, 0, 0, false) else none))))
    else
     (bif Nat.ble 40 pc then
      (bif Nat.ble 44 pc then (bif Nat.ble 45 pc then (bif Nat.beq pc 45 then some (.aload_n 0, 1, 0, 0, false) else none) else (bif Nat.beq pc 44 then some (.ireturn, 1, 0, 0, false) else none)) else (bif Nat.ble 43 pc then (bif Nat.beq pc 43 then some (.iconst (-1), 1, 0, -1, false) else none) else (bif Nat.beq pc 40 then some (.if_icmp .gt 5, 3, 45, 0, false) else none)))
     else
      (bif Nat.ble 38 pc then (bif Nat.ble 39 pc then (bif Nat.beq pc 39 then some (.iaload, 1, 0, 0, false) else none) else (bif Nat.beq pc 38 then some (.isub, 1, 0, 0, false) else none)) else (bif Nat.ble 37 pc then (bif Nat.beq pc 37 then some (.iconst 1, 1, 0, 1, false) else none) else (bif Nat.beq pc 34 then some (.getfield 90, 3, 0, 0, false) else none)))))
   else
    (bif Nat.ble 16 pc then
     (bif Nat.ble 25 pc then
      (bif Nat.ble 29 pc then
       (bif Nat.ble 30 pc then (bif Nat.ble 33 pc then (bif Nat.beq pc 33 then some (.aload_n 0, 1, 0, 0, false) else none) else (bif Nat.beq pc 30 then some (.getfield 19, 3, 0, 0, false) else none)) else (bif Nat.beq pc 29 then some (.aload_n 0, 1, 0, 0, false) else none))
      else
       (bif Nat.ble 28 pc then (bif Nat.beq pc 28 then some (.iload_n 1, 1, 0, 0, false) else none) else (bif Nat.beq pc 25 then some (.ifCond .le 20, 3, 45, 0, false) else none)))
     else
      (bif Nat.ble 21 pc then (bif Nat.ble 22 pc then (bif Nat.beq pc 22 then some (.getfield 90, 3, 0, 0, false) else none) else (bif Nat.beq pc 21 then some (.aload_n 0, 1, 0, 0, false) else none)) else (bif Nat.ble 18 pc then (bif Nat.beq pc 18 then some (.if_icmp .eq 25, 3, 43, 0, false) else none) else (bif Nat.beq pc 16 then some (.bipush 10, 2, 0, 10, false) else none))))
    else
     (bif Nat.ble 6 pc then
      (bif Nat.ble 12 pc then (bif Nat.ble 13 pc then (bif Nat.beq pc 13 then some (.getfield 90, 3, 0, 0, false) else none) else (bif Nat.beq pc 12 then some (.aload_n 0, 1, 0, 0, false) else none)) else (bif Nat.ble 9 pc then (bif Nat.beq pc 9 then some (.ifCond .eq 34, 3, 43, 0, false) else none) else (bif Nat.beq pc 6 then some (.invokestatic 118, 3, 0, 0, false) else none)))
     else
      (bif Nat.ble 2 pc then (bif Nat.ble 5 pc then (bif Nat.beq pc 5 then some (.iload_n 1, 1, 0, 0, false) else none) else (bif Nat.beq pc 2 then some (.putfield 3, 3, 0, 0, false) else none)) else (bif Nat.ble 1 pc then (bif Nat.beq pc 1 then some (.iconst 0, 1, 0, 0, false) else none) else (bif Nat.beq pc 0 then some (.aload_n 0, 1, 0, 0, false) else none)))))))
def qX8_isBox (pc : Nat) : Option mIn :=
  (bif Nat.ble 19 pc then
   (bif Nat.ble 27 pc then
    (bif Nat.ble 31 pc then
     (bif Nat.ble 34 pc then (bif Nat.ble 35 pc then (bif Nat.beq pc 35 then some (.ireturn, 1, 0, 0, false) else none) else (bif Nat.beq pc 34 then some (.iconst 0, 1, 0, 0, false) else none)) else (bif Nat.beq pc 31 then some (.goto 4, 3, 35, 0, false) else none))
    else
     (bif Nat.ble 30 pc then (bif Nat.beq pc 30 then some (.iconst 1, 1, 0, 1, false) else none) else (bif Nat.beq pc 27 then some (.if_icmp .gt 7, 3, 34, 0, false) else none)))
   else
    (bif Nat.ble 21 pc then
     (bif Nat.ble 24 pc then (bif Nat.ble 25 pc then (bif Nat.beq pc 25 then some (.iload 4, 2, 0, 0, false) else none) else (bif Nat.beq pc 24 then some (.iload_n 2, 1, 0, 0, false) else none)) else (bif Nat.beq pc 21 then some (.if_icmp .gt 13, 3, 34, 0, false) else none))
    else
     (bif Nat.ble 20 pc then (bif Nat.beq pc 20 then some (.iload_n 3, 1, 0, 0, false) else none) else (bif Nat.beq pc 19 then some (.iload_n 1, 1, 0, 0, false) else none))))
  else
   (bif Nat.ble 9 pc then
    (bif Nat.ble 11 pc then
     (bif Nat.ble 13 pc then (bif Nat.ble 16 pc then (bif Nat.beq pc 16 then some (.ifCond .eq 18, 3, 34, 0, false) else none) else (bif Nat.beq pc 13 then some (.invokevirtual 122, 3, 0, 0, false) else none)) else (bif Nat.beq pc 11 then some (.iload 4, 2, 0, 0, false) else none))
    else
     (bif Nat.ble 10 pc then (bif Nat.beq pc 10 then some (.iload_n 3, 1, 0, 0, false) else none) else (bif Nat.beq pc 9 then some (.aload_n 0, 1, 0, 0, false) else none)))
   else
    (bif Nat.ble 2 pc then
     (bif Nat.ble 3 pc then (bif Nat.ble 6 pc then (bif Nat.beq pc 6 then some (.ifCond .eq 28, 3, 34, 0, false) else none) else (bif Nat.beq pc 3 then some (.invokevirtual 122, 3, 0, 0, false) else none)) else (bif Nat.beq pc 2 then some (.iload_n 2, 1, 0, 0, false) else none))
    else
     (bif Nat.ble 1 pc then (bif Nat.beq pc 1 then some (.iload_n 1, 1, 0, 0, false) else none) else (bif Nat.beq pc 0 then some (.aload_n 0, 1, 0, 0, false) else none)))))
def qX8_isInBox (pc : Nat) : Option mIn :=
  (bif Nat.ble 24 pc then
   (bif Nat.ble 34 pc then
    (bif Nat.ble 42 pc then
     (bif Nat.ble 46 pc then (bif Nat.ble 47 pc then (bif Nat.beq pc 47 then some (.ireturn, 1, 0, 0, false) else none) else (bif Nat.beq pc 46 then some (.iconst 0, 1, 0, 0, false) else none)) else (bif Nat.ble 43 pc then (bif Nat.beq pc 43 then some (.goto 4, 3, 47, 0, false) else none) else (bif Nat.beq pc 42 then some (.iconst 1, 1, 0, 1, false) else none)))
    else
     (bif Nat.ble 36 pc then (bif Nat.ble 39 pc then (bif Nat.beq pc 39 then some (.ifCond .eq 7, 3, 46, 0, false) else none) else (bif Nat.beq pc 36 then some (.invokestatic 96, 3, 0, 0, false) else none)) else (bif Nat.ble 35 pc then (bif Nat.beq pc 35 then some (.i2l, 1, 0, 0, false) else none) else (bif Nat.beq pc 34 then some (.idiv, 1, 0, 0, false) else none))))
   else
    (bif Nat.ble 29 pc then
     (bif Nat.ble 31 pc then (bif Nat.ble 32 pc then (bif Nat.beq pc 32 then some (.bipush 12, 2, 0, 12, false) else none) else (bif Nat.beq pc 31 then some (.iload_n 2, 1, 0, 0, false) else none)) else (bif Nat.ble 30 pc then (bif Nat.beq pc 30 then some (.i2l, 1, 0, 0, false) else none) else (bif Nat.beq pc 29 then some (.idiv, 1, 0, 0, false) else none)))
    else
     (bif Nat.ble 26 pc then (bif Nat.ble 27 pc then (bif Nat.beq pc 27 then some (.bipush 12, 2, 0, 12, false) else none) else (bif Nat.beq pc 26 then some (.iload_n 1, 1, 0, 0, false) else none)) else (bif Nat.ble 25 pc then (bif Nat.beq pc 25 then some (.i2l, 1, 0, 0, false) else none) else (bif Nat.beq pc 24 then some (.idiv, 1, 0, 0, false) else none)))))
  else
   (bif Nat.ble 10 pc then
    (bif Nat.ble 15 pc then
     (bif Nat.ble 21 pc then (bif Nat.ble 22 pc then (bif Nat.beq pc 22 then some (.bipush 12, 2, 0, 12, false) else none) else (bif Nat.beq pc 21 then some (.iload_n 0, 1, 0, 0, false) else none)) else (bif Nat.ble 18 pc then (bif Nat.beq pc 18 then some (.ifCond .eq 28, 3, 46, 0, false) else none) else (bif Nat.beq pc 15 then some (.invokestatic 96, 3, 0, 0, false) else none)))
    else
     (bif Nat.ble 13 pc then (bif Nat.ble 14 pc then (bif Nat.beq pc 14 then some (.i2l, 1, 0, 0, false) else none) else (bif Nat.beq pc 13 then some (.irem, 1, 0, 0, false) else none)) else (bif Nat.ble 11 pc then (bif Nat.beq pc 11 then some (.bipush 12, 2, 0, 12, false) else none) else (bif Nat.beq pc 10 then some (.iload_n 2, 1, 0, 0, false) else none))))
   else
    (bif Nat.ble 5 pc then
     (bif Nat.ble 8 pc then (bif Nat.ble 9 pc then (bif Nat.beq pc 9 then some (.i2l, 1, 0, 0, false) else none) else (bif Nat.beq pc 8 then some (.irem, 1, 0, 0, false) else none)) else (bif Nat.ble 6 pc then (bif Nat.beq pc 6 then some (.bipush 12, 2, 0, 12, false) else none) else (bif Nat.beq pc 5 then some (.iload_n 1, 1, 0, 0, false) else none)))
    else
     (bif Nat.ble 3 pc then (bif Nat.ble 4 pc then (bif Nat.beq pc 4 then some (.i2l, 1, 0, 0, false) else none) else (bif Nat.beq pc 3 then some (.irem, 1, 0, 0, false) else none)) else (bif Nat.ble 1 pc then (bif Nat.beq pc 1 then some (.bipush 12, 2, 0, 12, false) else none) else (bif Nat.beq pc 0 then some (.iload_n 0, 1, 0, 0, false) else none))))))
def qX8_own (pc : Nat) : Option mIn :=
  (bif Nat.ble 47 pc then
   (bif Nat.ble 72 pc then
    (bif Nat.ble 87 pc then
     (bif Nat.ble 91 pc then
      (bif Nat.ble 97 pc then (bif Nat.ble 98 pc then (bif Nat.beq pc 98 then some (.ireturn, 1, 0, 0, false) else none) else (bif Nat.beq pc 97 then some (.iconst 1, 1, 0, 1, false) else none)) else (bif Nat.ble 94 pc then (bif Nat.beq pc 94 then some (.goto (-49), 3, 45, 0, false) else none) else (bif Nat.beq pc 91 then some (.iinc 6 1, 3, 0, 1, false) else none)))
     else
      (bif Nat.ble 89 pc then (bif Nat.ble 90 pc then (bif Nat.beq pc 90 then some (.iastore, 1, 0, 0, false) else none) else (bif Nat.beq pc 89 then some (.iaload, 1, 0, 0, false) else none)) else (bif Nat.beq pc 87 then some (.iload 6, 2, 0, 0, false) else none)))
    else
     (bif Nat.ble 80 pc then
      (bif Nat.ble 83 pc then (bif Nat.ble 84 pc then (bif Nat.beq pc 84 then some (.getfield 27, 3, 0, 0, false) else none) else (bif Nat.beq pc 83 then some (.aload_n 0, 1, 0, 0, false) else none)) else (bif Nat.beq pc 80 then some (.goto 10, 3, 90, 0, false) else none))
     else
      (bif Nat.ble 75 pc then (bif Nat.ble 78 pc then (bif Nat.beq pc 78 then some (.iload 5, 2, 0, 0, false) else none) else (bif Nat.beq pc 75 then some (.ifCond .eq 8, 3, 83, 0, false) else none)) else (bif Nat.beq pc 72 then some (.invokestatic 134, 3, 0, 0, false) else none))))
   else
    (bif Nat.ble 61 pc then
     (bif Nat.ble 66 pc then
      (bif Nat.ble 67 pc then (bif Nat.ble 69 pc then (bif Nat.beq pc 69 then some (.invokestatic 104, 3, 0, 0, false) else none) else (bif Nat.beq pc 67 then some (.iload 4, 2, 0, 0, false) else none)) else (bif Nat.beq pc 66 then some (.iload_n 3, 1, 0, 0, false) else none))
     else
      (bif Nat.ble 62 pc then (bif Nat.ble 63 pc then (bif Nat.beq pc 63 then some (.invokestatic 104, 3, 0, 0, false) else none) else (bif Nat.beq pc 62 then some (.iload_n 2, 1, 0, 0, false) else none)) else (bif Nat.beq pc 61 then some (.iload_n 1, 1, 0, 0, false) else none)))
    else
     (bif Nat.ble 54 pc then
      (bif Nat.ble 57 pc then (bif Nat.ble 59 pc then (bif Nat.beq pc 59 then some (.iload 6, 2, 0, 0, false) else none) else (bif Nat.beq pc 57 then some (.iload 6, 2, 0, 0, false) else none)) else (bif Nat.beq pc 54 then some (.getfield 27, 3, 0, 0, false) else none))
     else
      (bif Nat.ble 50 pc then (bif Nat.ble 53 pc then (bif Nat.beq pc 53 then some (.aload_n 0, 1, 0, 0, false) else none) else (bif Nat.beq pc 50 then some (.if_icmp .ge 47, 3, 97, 0, false) else none)) else (bif Nat.beq pc 47 then some (.sipush 144, 3, 0, 144, false) else none)))))
  else
   (bif Nat.ble 20 pc then
    (bif Nat.ble 36 pc then
     (bif Nat.ble 41 pc then
      (bif Nat.ble 43 pc then (bif Nat.ble 45 pc then (bif Nat.beq pc 45 then some (.iload 6, 2, 0, 0, true) else none) else (bif Nat.beq pc 43 then some (.istore 6, 2, 0, 0, false) else none)) else (bif Nat.ble 42 pc then (bif Nat.beq pc 42 then some (.iconst 0, 1, 0, 0, false) else none) else (bif Nat.beq pc 41 then some (.ireturn, 1, 0, 0, false) else none)))
     else
      (bif Nat.ble 37 pc then (bif Nat.ble 40 pc then (bif Nat.beq pc 40 then some (.iconst 0, 1, 0, 0, false) else none) else (bif Nat.beq pc 37 then some (.if_icmp .le 5, 3, 42, 0, false) else none)) else (bif Nat.beq pc 36 then some (.iconst 1, 1, 0, 1, false) else none)))
    else
     (bif Nat.ble 29 pc then
      (bif Nat.ble 32 pc then (bif Nat.ble 33 pc then (bif Nat.beq pc 33 then some (.getfield 90, 3, 0, 0, false) else none) else (bif Nat.beq pc 32 then some (.aload_n 0, 1, 0, 0, false) else none)) else (bif Nat.beq pc 29 then some (.ifCond .eq 11, 3, 40, 0, false) else none))
     else
      (bif Nat.ble 23 pc then (bif Nat.ble 26 pc then (bif Nat.beq pc 26 then some (.invokestatic 96, 3, 0, 0, false) else none) else (bif Nat.beq pc 23 then some (.ldc2_w 132, 3, 0, 0, false) else none)) else (bif Nat.beq pc 20 then some (.ldc2_w 130, 3, 0, 0, false) else none))))
   else
    (bif Nat.ble 8 pc then
     (bif Nat.ble 14 pc then
      (bif Nat.ble 17 pc then (bif Nat.ble 19 pc then (bif Nat.beq pc 19 then some (.i2l, 1, 0, 0, false) else none) else (bif Nat.beq pc 17 then some (.iload 5, 2, 0, 0, false) else none)) else (bif Nat.beq pc 14 then some (.ifCond .eq 26, 3, 40, 0, false) else none))
     else
      (bif Nat.ble 9 pc then (bif Nat.ble 11 pc then (bif Nat.beq pc 11 then some (.invokevirtual 126, 3, 0, 0, false) else none) else (bif Nat.beq pc 9 then some (.iload 4, 2, 0, 0, false) else none)) else (bif Nat.beq pc 8 then some (.iload_n 3, 1, 0, 0, false) else none)))
    else
     (bif Nat.ble 5 pc then
      (bif Nat.ble 6 pc then (bif Nat.ble 7 pc then (bif Nat.beq pc 7 then some (.iload_n 2, 1, 0, 0, false) else none) else (bif Nat.beq pc 6 then some (.iload_n 1, 1, 0, 0, false) else none)) else (bif Nat.beq pc 5 then some (.aload_n 0, 1, 0, 0, false) else none))
     else
      (bif Nat.ble 1 pc then (bif Nat.ble 2 pc then (bif Nat.beq pc 2 then some (.putfield 3, 3, 0, 0, false) else none) else (bif Nat.beq pc 1 then some (.iconst 0, 1, 0, 0, false) else none)) else (bif Nat.beq pc 0 then some (.aload_n 0, 1, 0, 0, false) else none))))))
def qX8_deed (pc : Nat) : Option mIn :=
  (bif Nat.ble 67 pc then
   (bif Nat.ble 99 pc then
    (bif Nat.ble 112 pc then
     (bif Nat.ble 120 pc then
      (bif Nat.ble 124 pc then
       (bif Nat.ble 125 pc then (bif Nat.ble 126 pc then (bif Nat.beq pc 126 then some (.ireturn, 1, 0, 0, false) else none) else (bif Nat.beq pc 125 then some (.isub, 1, 0, 0, false) else none)) else (bif Nat.beq pc 124 then some (.iconst 1, 1, 0, 1, false) else none))
      else
       (bif Nat.ble 121 pc then (bif Nat.beq pc 121 then some (.getfield 93, 3, 0, 0, false) else none) else (bif Nat.beq pc 120 then some (.aload_n 0, 1, 0, 0, false) else none)))
     else
      (bif Nat.ble 116 pc then (bif Nat.ble 117 pc then (bif Nat.beq pc 117 then some (.putfield 93, 3, 0, 0, false) else none) else (bif Nat.beq pc 116 then some (.iadd, 1, 0, 0, false) else none)) else (bif Nat.ble 115 pc then (bif Nat.beq pc 115 then some (.iconst 1, 1, 0, 1, false) else none) else (bif Nat.beq pc 112 then some (.getfield 93, 3, 0, 0, false) else none))))
    else
     (bif Nat.ble 105 pc then
      (bif Nat.ble 109 pc then
       (bif Nat.ble 110 pc then (bif Nat.ble 111 pc then (bif Nat.beq pc 111 then some (.dup, 1, 0, 0, false) else none) else (bif Nat.beq pc 110 then some (.aload_n 0, 1, 0, 0, false) else none)) else (bif Nat.beq pc 109 then some (.bastore, 1, 0, 0, false) else none))
      else
       (bif Nat.ble 108 pc then (bif Nat.beq pc 108 then some (.iconst 0, 1, 0, 0, false) else none) else (bif Nat.beq pc 105 then some (.getfield 93, 3, 0, 0, false) else none)))
     else
      (bif Nat.ble 101 pc then (bif Nat.ble 104 pc then (bif Nat.beq pc 104 then some (.aload_n 0, 1, 0, 0, false) else none) else (bif Nat.beq pc 101 then some (.getfield 42, 3, 0, 0, false) else none)) else (bif Nat.ble 100 pc then (bif Nat.beq pc 100 then some (.aload_n 0, 1, 0, 0, false) else none) else (bif Nat.beq pc 99 then some (.iastore, 1, 0, 0, false) else none)))))
   else
    (bif Nat.ble 82 pc then
     (bif Nat.ble 89 pc then
      (bif Nat.ble 93 pc then
       (bif Nat.ble 94 pc then (bif Nat.ble 97 pc then (bif Nat.beq pc 97 then some (.iload 6, 2, 0, 0, false) else none) else (bif Nat.beq pc 94 then some (.getfield 93, 3, 0, 0, false) else none)) else (bif Nat.beq pc 93 then some (.aload_n 0, 1, 0, 0, false) else none))
      else
       (bif Nat.ble 90 pc then (bif Nat.beq pc 90 then some (.getfield 39, 3, 0, 0, false) else none) else (bif Nat.beq pc 89 then some (.aload_n 0, 1, 0, 0, false) else none)))
     else
      (bif Nat.ble 86 pc then (bif Nat.ble 88 pc then (bif Nat.beq pc 88 then some (.iastore, 1, 0, 0, false) else none) else (bif Nat.beq pc 86 then some (.iload 5, 2, 0, 0, false) else none)) else (bif Nat.ble 83 pc then (bif Nat.beq pc 83 then some (.getfield 93, 3, 0, 0, false) else none) else (bif Nat.beq pc 82 then some (.aload_n 0, 1, 0, 0, false) else none))))
    else
     (bif Nat.ble 74 pc then
      (bif Nat.ble 78 pc then (bif Nat.ble 79 pc then (bif Nat.beq pc 79 then some (.getfield 36, 3, 0, 0, false) else none) else (bif Nat.beq pc 78 then some (.aload_n 0, 1, 0, 0, false) else none)) else (bif Nat.ble 77 pc then (bif Nat.beq pc 77 then some (.iastore, 1, 0, 0, false) else none) else (bif Nat.beq pc 74 then some (.invokestatic 104, 3, 0, 0, false) else none)))
     else
      (bif Nat.ble 71 pc then (bif Nat.ble 72 pc then (bif Nat.beq pc 72 then some (.iload 4, 2, 0, 0, false) else none) else (bif Nat.beq pc 71 then some (.iload_n 3, 1, 0, 0, false) else none)) else (bif Nat.ble 68 pc then (bif Nat.beq pc 68 then some (.getfield 93, 3, 0, 0, false) else none) else (bif Nat.beq pc 67 then some (.aload_n 0, 1, 0, 0, false) else none))))))
  else
   (bif Nat.ble 32 pc then
    (bif Nat.ble 50 pc then
     (bif Nat.ble 58 pc then
      (bif Nat.ble 62 pc then
       (bif Nat.ble 63 pc then (bif Nat.ble 64 pc then (bif Nat.beq pc 64 then some (.getfield 33, 3, 0, 0, false) else none) else (bif Nat.beq pc 63 then some (.aload_n 0, 1, 0, 0, false) else none)) else (bif Nat.beq pc 62 then some (.iastore, 1, 0, 0, false) else none))
      else
       (bif Nat.ble 59 pc then (bif Nat.beq pc 59 then some (.invokestatic 104, 3, 0, 0, false) else none) else (bif Nat.beq pc 58 then some (.iload_n 2, 1, 0, 0, false) else none)))
     else
      (bif Nat.ble 54 pc then (bif Nat.ble 57 pc then (bif Nat.beq pc 57 then some (.iload_n 1, 1, 0, 0, false) else none) else (bif Nat.beq pc 54 then some (.getfield 93, 3, 0, 0, false) else none)) else (bif Nat.ble 53 pc then (bif Nat.beq pc 53 then some (.aload_n 0, 1, 0, 0, false) else none) else (bif Nat.beq pc 50 then some (.getfield 30, 3, 0, 0, false) else none))))
    else
     (bif Nat.ble 42 pc then
      (bif Nat.ble 47 pc then
       (bif Nat.ble 48 pc then (bif Nat.ble 49 pc then (bif Nat.beq pc 49 then some (.aload_n 0, 1, 0, 0, false) else none) else (bif Nat.beq pc 48 then some (.ireturn, 1, 0, 0, false) else none)) else (bif Nat.beq pc 47 then some (.iconst (-1), 1, 0, -1, false) else none))
      else
       (bif Nat.ble 44 pc then (bif Nat.beq pc 44 then some (.if_icmp .ne 5, 3, 49, 0, false) else none) else (bif Nat.beq pc 42 then some (.bipush 30, 2, 0, 30, false) else none)))
     else
      (bif Nat.ble 38 pc then (bif Nat.ble 39 pc then (bif Nat.beq pc 39 then some (.getfield 93, 3, 0, 0, false) else none) else (bif Nat.beq pc 38 then some (.aload_n 0, 1, 0, 0, false) else none)) else (bif Nat.ble 35 pc then (bif Nat.beq pc 35 then some (.ifCond .eq 12, 3, 47, 0, false) else none) else (bif Nat.beq pc 32 then some (.invokestatic 118, 3, 0, 0, false) else none)))))
   else
    (bif Nat.ble 11 pc then
     (bif Nat.ble 20 pc then
      (bif Nat.ble 24 pc then
       (bif Nat.ble 27 pc then (bif Nat.ble 30 pc then (bif Nat.beq pc 30 then some (.iload 6, 2, 0, 0, false) else none) else (bif Nat.beq pc 27 then some (.ifCond .eq 20, 3, 47, 0, false) else none)) else (bif Nat.beq pc 24 then some (.invokestatic 96, 3, 0, 0, false) else none))
      else
       (bif Nat.ble 21 pc then (bif Nat.beq pc 21 then some (.ldc2_w 132, 3, 0, 0, false) else none) else (bif Nat.beq pc 20 then some (.lconst 0, 1, 0, 0, false) else none)))
     else
      (bif Nat.ble 17 pc then (bif Nat.ble 19 pc then (bif Nat.beq pc 19 then some (.i2l, 1, 0, 0, false) else none) else (bif Nat.beq pc 17 then some (.iload 5, 2, 0, 0, false) else none)) else (bif Nat.ble 14 pc then (bif Nat.beq pc 14 then some (.ifCond .eq 33, 3, 47, 0, false) else none) else (bif Nat.beq pc 11 then some (.invokevirtual 126, 3, 0, 0, false) else none))))
    else
     (bif Nat.ble 6 pc then
      (bif Nat.ble 8 pc then (bif Nat.ble 9 pc then (bif Nat.beq pc 9 then some (.iload 4, 2, 0, 0, false) else none) else (bif Nat.beq pc 8 then some (.iload_n 3, 1, 0, 0, false) else none)) else (bif Nat.ble 7 pc then (bif Nat.beq pc 7 then some (.iload_n 2, 1, 0, 0, false) else none) else (bif Nat.beq pc 6 then some (.iload_n 1, 1, 0, 0, false) else none)))
     else
      (bif Nat.ble 2 pc then (bif Nat.ble 5 pc then (bif Nat.beq pc 5 then some (.aload_n 0, 1, 0, 0, false) else none) else (bif Nat.beq pc 2 then some (.putfield 3, 3, 0, 0, false) else none)) else (bif Nat.ble 1 pc then (bif Nat.beq pc 1 then some (.iconst 0, 1, 0, 0, false) else none) else (bif Nat.beq pc 0 then some (.aload_n 0, 1, 0, 0, false) else none)))))))
def qX8_strike (pc : Nat) : Option mIn :=
  (bif Nat.ble 15 pc then
   (bif Nat.ble 24 pc then
    (bif Nat.ble 29 pc then
     (bif Nat.ble 30 pc then (bif Nat.ble 31 pc then (bif Nat.beq pc 31 then some (.ireturn, 1, 0, 0, false) else none) else (bif Nat.beq pc 30 then some (.iconst 1, 1, 0, 1, false) else none)) else (bif Nat.beq pc 29 then some (.bastore, 1, 0, 0, false) else none))
    else
     (bif Nat.ble 27 pc then (bif Nat.ble 28 pc then (bif Nat.beq pc 28 then some (.iload_n 2, 1, 0, 0, false) else none) else (bif Nat.beq pc 27 then some (.iload_n 1, 1, 0, 0, false) else none)) else (bif Nat.beq pc 24 then some (.getfield 42, 3, 0, 0, false) else none)))
   else
    (bif Nat.ble 21 pc then
     (bif Nat.ble 22 pc then (bif Nat.ble 23 pc then (bif Nat.beq pc 23 then some (.aload_n 0, 1, 0, 0, false) else none) else (bif Nat.beq pc 22 then some (.ireturn, 1, 0, 0, false) else none)) else (bif Nat.beq pc 21 then some (.iconst 0, 1, 0, 0, false) else none))
    else
     (bif Nat.ble 18 pc then (bif Nat.beq pc 18 then some (.ifCond .ne 5, 3, 23, 0, false) else none) else (bif Nat.beq pc 15 then some (.invokestatic 96, 3, 0, 0, false) else none))))
  else
   (bif Nat.ble 7 pc then
    (bif Nat.ble 12 pc then
     (bif Nat.ble 13 pc then (bif Nat.ble 14 pc then (bif Nat.beq pc 14 then some (.i2l, 1, 0, 0, false) else none) else (bif Nat.beq pc 13 then some (.isub, 1, 0, 0, false) else none)) else (bif Nat.beq pc 12 then some (.iconst 1, 1, 0, 1, false) else none))
    else
     (bif Nat.ble 8 pc then (bif Nat.ble 9 pc then (bif Nat.beq pc 9 then some (.getfield 93, 3, 0, 0, false) else none) else (bif Nat.beq pc 8 then some (.aload_n 0, 1, 0, 0, false) else none)) else (bif Nat.beq pc 7 then some (.lconst 0, 1, 0, 0, false) else none)))
   else
    (bif Nat.ble 2 pc then
     (bif Nat.ble 5 pc then (bif Nat.ble 6 pc then (bif Nat.beq pc 6 then some (.i2l, 1, 0, 0, false) else none) else (bif Nat.beq pc 5 then some (.iload_n 1, 1, 0, 0, false) else none)) else (bif Nat.beq pc 2 then some (.putfield 3, 3, 0, 0, false) else none))
    else
     (bif Nat.ble 1 pc then (bif Nat.beq pc 1 then some (.iconst 0, 1, 0, 0, false) else none) else (bif Nat.beq pc 0 then some (.aload_n 0, 1, 0, 0, false) else none)))))
def qX8_law (pc : Nat) : Option mIn :=
  (bif Nat.ble 57 pc then
   (bif Nat.ble 85 pc then
    (bif Nat.ble 98 pc then
     (bif Nat.ble 104 pc then
      (bif Nat.ble 108 pc then (bif Nat.ble 111 pc then (bif Nat.beq pc 111 then some (.ireturn, 1, 0, 0, false) else none) else (bif Nat.beq pc 108 then some (.getfield 138, 3, 0, 0, false) else none)) else (bif Nat.ble 107 pc then (bif Nat.beq pc 107 then some (.aload_n 0, 1, 0, 0, false) else none) else (bif Nat.beq pc 104 then some (.putfield 138, 3, 0, 0, false) else none)))
     else
      (bif Nat.ble 102 pc then (bif Nat.ble 103 pc then (bif Nat.beq pc 103 then some (.iadd, 1, 0, 0, false) else none) else (bif Nat.beq pc 102 then some (.iconst 1, 1, 0, 1, false) else none)) else (bif Nat.ble 99 pc then (bif Nat.beq pc 99 then some (.getfield 138, 3, 0, 0, false) else none) else (bif Nat.beq pc 98 then some (.dup, 1, 0, 0, false) else none))))
    else
     (bif Nat.ble 91 pc then
      (bif Nat.ble 96 pc then (bif Nat.ble 97 pc then (bif Nat.beq pc 97 then some (.aload_n 0, 1, 0, 0, false) else none) else (bif Nat.beq pc 96 then some (.iastore, 1, 0, 0, false) else none)) else (bif Nat.ble 94 pc then (bif Nat.beq pc 94 then some (.iload 4, 2, 0, 0, false) else none) else (bif Nat.beq pc 91 then some (.getfield 138, 3, 0, 0, false) else none)))
     else
      (bif Nat.ble 87 pc then (bif Nat.ble 90 pc then (bif Nat.beq pc 90 then some (.aload_n 0, 1, 0, 0, false) else none) else (bif Nat.beq pc 87 then some (.getfield 54, 3, 0, 0, false) else none)) else (bif Nat.ble 86 pc then (bif Nat.beq pc 86 then some (.aload_n 0, 1, 0, 0, false) else none) else (bif Nat.beq pc 85 then some (.iastore, 1, 0, 0, false) else none)))))
   else
    (bif Nat.ble 71 pc then
     (bif Nat.ble 77 pc then
      (bif Nat.ble 81 pc then (bif Nat.ble 84 pc then (bif Nat.beq pc 84 then some (.iload_n 3, 1, 0, 0, false) else none) else (bif Nat.beq pc 81 then some (.getfield 138, 3, 0, 0, false) else none)) else (bif Nat.ble 80 pc then (bif Nat.beq pc 80 then some (.aload_n 0, 1, 0, 0, false) else none) else (bif Nat.beq pc 77 then some (.getfield 51, 3, 0, 0, false) else none)))
     else
      (bif Nat.ble 75 pc then (bif Nat.ble 76 pc then (bif Nat.beq pc 76 then some (.aload_n 0, 1, 0, 0, false) else none) else (bif Nat.beq pc 75 then some (.iastore, 1, 0, 0, false) else none)) else (bif Nat.ble 74 pc then (bif Nat.beq pc 74 then some (.iload_n 2, 1, 0, 0, false) else none) else (bif Nat.beq pc 71 then some (.getfield 138, 3, 0, 0, false) else none))))
    else
     (bif Nat.ble 65 pc then
      (bif Nat.ble 67 pc then (bif Nat.ble 70 pc then (bif Nat.beq pc 70 then some (.aload_n 0, 1, 0, 0, false) else none) else (bif Nat.beq pc 67 then some (.getfield 48, 3, 0, 0, false) else none)) else (bif Nat.ble 66 pc then (bif Nat.beq pc 66 then some (.aload_n 0, 1, 0, 0, false) else none) else (bif Nat.beq pc 65 then some (.iastore, 1, 0, 0, false) else none)))
     else
      (bif Nat.ble 61 pc then (bif Nat.ble 64 pc then (bif Nat.beq pc 64 then some (.iload_n 1, 1, 0, 0, false) else none) else (bif Nat.beq pc 61 then some (.getfield 138, 3, 0, 0, false) else none)) else (bif Nat.ble 60 pc then (bif Nat.beq pc 60 then some (.aload_n 0, 1, 0, 0, false) else none) else (bif Nat.beq pc 57 then some (.getfield 45, 3, 0, 0, false) else none))))))
  else
   (bif Nat.ble 25 pc then
    (bif Nat.ble 42 pc then
     (bif Nat.ble 51 pc then
      (bif Nat.ble 55 pc then (bif Nat.ble 56 pc then (bif Nat.beq pc 56 then some (.aload_n 0, 1, 0, 0, false) else none) else (bif Nat.beq pc 55 then some (.ireturn, 1, 0, 0, false) else none)) else (bif Nat.ble 54 pc then (bif Nat.beq pc 54 then some (.iconst (-1), 1, 0, -1, false) else none) else (bif Nat.beq pc 51 then some (.if_icmp .ne 5, 3, 56, 0, false) else none)))
     else
      (bif Nat.ble 46 pc then (bif Nat.ble 49 pc then (bif Nat.beq pc 49 then some (.bipush 20, 2, 0, 20, false) else none) else (bif Nat.beq pc 46 then some (.getfield 138, 3, 0, 0, false) else none)) else (bif Nat.ble 45 pc then (bif Nat.beq pc 45 then some (.aload_n 0, 1, 0, 0, false) else none) else (bif Nat.beq pc 42 then some (.ifCond .eq 12, 3, 54, 0, false) else none))))
    else
     (bif Nat.ble 34 pc then
      (bif Nat.ble 36 pc then (bif Nat.ble 39 pc then (bif Nat.beq pc 39 then some (.invokestatic 96, 3, 0, 0, false) else none) else (bif Nat.beq pc 36 then some (.ldc2_w 111, 3, 0, 0, false) else none)) else (bif Nat.ble 35 pc then (bif Nat.beq pc 35 then some (.lconst 0, 1, 0, 0, false) else none) else (bif Nat.beq pc 34 then some (.i2l, 1, 0, 0, false) else none)))
     else
      (bif Nat.ble 29 pc then (bif Nat.ble 32 pc then (bif Nat.beq pc 32 then some (.iload 4, 2, 0, 0, false) else none) else (bif Nat.beq pc 29 then some (.ifCond .eq 25, 3, 54, 0, false) else none)) else (bif Nat.ble 26 pc then (bif Nat.beq pc 26 then some (.invokestatic 96, 3, 0, 0, false) else none) else (bif Nat.beq pc 25 then some (.lconst 1, 1, 0, 0, false) else none)))))
   else
    (bif Nat.ble 13 pc then
     (bif Nat.ble 19 pc then
      (bif Nat.ble 23 pc then (bif Nat.ble 24 pc then (bif Nat.beq pc 24 then some (.lconst 0, 1, 0, 0, false) else none) else (bif Nat.beq pc 23 then some (.i2l, 1, 0, 0, false) else none)) else (bif Nat.ble 22 pc then (bif Nat.beq pc 22 then some (.iload_n 3, 1, 0, 0, false) else none) else (bif Nat.beq pc 19 then some (.ifCond .eq 35, 3, 54, 0, false) else none)))
     else
      (bif Nat.ble 15 pc then (bif Nat.ble 16 pc then (bif Nat.beq pc 16 then some (.invokestatic 96, 3, 0, 0, false) else none) else (bif Nat.beq pc 15 then some (.lconst 1, 1, 0, 0, false) else none)) else (bif Nat.ble 14 pc then (bif Nat.beq pc 14 then some (.lconst 0, 1, 0, 0, false) else none) else (bif Nat.beq pc 13 then some (.i2l, 1, 0, 0, false) else none))))
    else
     (bif Nat.ble 5 pc then
      (bif Nat.ble 9 pc then (bif Nat.ble 12 pc then (bif Nat.beq pc 12 then some (.iload_n 2, 1, 0, 0, false) else none) else (bif Nat.beq pc 9 then some (.ifCond .eq 45, 3, 54, 0, false) else none)) else (bif Nat.ble 6 pc then (bif Nat.beq pc 6 then some (.invokestatic 118, 3, 0, 0, false) else none) else (bif Nat.beq pc 5 then some (.iload_n 1, 1, 0, 0, false) else none)))
     else
      (bif Nat.ble 1 pc then (bif Nat.ble 2 pc then (bif Nat.beq pc 2 then some (.putfield 3, 3, 0, 0, false) else none) else (bif Nat.beq pc 1 then some (.iconst 0, 1, 0, 0, false) else none)) else (bif Nat.beq pc 0 then some (.aload_n 0, 1, 0, 0, false) else none))))))
def qX8_reach (pc : Nat) : Option mIn :=
  (bif Nat.ble 17 pc then
   (bif Nat.ble 24 pc then
    (bif Nat.ble 26 pc then
     (bif Nat.ble 29 pc then (bif Nat.ble 30 pc then (bif Nat.beq pc 30 then some (.ireturn, 1, 0, 0, false) else none) else (bif Nat.beq pc 29 then some (.iload_n 2, 1, 0, 0, false) else none)) else (bif Nat.beq pc 26 then some (.putfield 57, 3, 0, 0, false) else none))
    else
     (bif Nat.ble 25 pc then (bif Nat.beq pc 25 then some (.iload_n 1, 1, 0, 0, false) else none) else (bif Nat.beq pc 24 then some (.aload_n 0, 1, 0, 0, false) else none)))
   else
    (bif Nat.ble 19 pc then
     (bif Nat.ble 20 pc then (bif Nat.ble 23 pc then (bif Nat.beq pc 23 then some (.istore_n 2, 1, 0, 0, false) else none) else (bif Nat.beq pc 20 then some (.getfield 57, 3, 0, 0, false) else none)) else (bif Nat.beq pc 19 then some (.aload_n 0, 1, 0, 0, false) else none))
    else
     (bif Nat.ble 18 pc then (bif Nat.beq pc 18 then some (.ireturn, 1, 0, 0, false) else none) else (bif Nat.beq pc 17 then some (.iconst (-1), 1, 0, -1, false) else none))))
  else
   (bif Nat.ble 6 pc then
    (bif Nat.ble 8 pc then
     (bif Nat.ble 11 pc then (bif Nat.ble 14 pc then (bif Nat.beq pc 14 then some (.ifCond .ne 5, 3, 19, 0, false) else none) else (bif Nat.beq pc 11 then some (.invokestatic 96, 3, 0, 0, false) else none)) else (bif Nat.beq pc 8 then some (.ldc2_w 102, 3, 0, 0, false) else none))
    else
     (bif Nat.ble 7 pc then (bif Nat.beq pc 7 then some (.lconst 1, 1, 0, 0, false) else none) else (bif Nat.beq pc 6 then some (.i2l, 1, 0, 0, false) else none)))
   else
    (bif Nat.ble 2 pc then (bif Nat.ble 5 pc then (bif Nat.beq pc 5 then some (.iload_n 1, 1, 0, 0, false) else none) else (bif Nat.beq pc 2 then some (.putfield 3, 3, 0, 0, false) else none)) else (bif Nat.ble 1 pc then (bif Nat.beq pc 1 then some (.iconst 0, 1, 0, 0, false) else none) else (bif Nat.beq pc 0 then some (.aload_n 0, 1, 0, 0, false) else none)))))
def qX8_isStep (pc : Nat) : Option mIn :=
  (bif Nat.ble 7 pc then
   (bif Nat.ble 9 pc then
    (bif Nat.ble 10 pc then (bif Nat.ble 13 pc then (bif Nat.beq pc 13 then some (.ireturn, 1, 0, 0, false) else none) else (bif Nat.beq pc 10 then some (.invokestatic 96, 3, 0, 0, false) else none)) else (bif Nat.beq pc 9 then some (.i2l, 1, 0, 0, false) else none))
   else
    (bif Nat.ble 8 pc then (bif Nat.beq pc 8 then some (.isub, 1, 0, 0, false) else none) else (bif Nat.beq pc 7 then some (.iconst 1, 1, 0, 1, false) else none)))
  else
   (bif Nat.ble 2 pc then
    (bif Nat.ble 3 pc then (bif Nat.ble 4 pc then (bif Nat.beq pc 4 then some (.getfield 90, 3, 0, 0, false) else none) else (bif Nat.beq pc 3 then some (.aload_n 0, 1, 0, 0, false) else none)) else (bif Nat.beq pc 2 then some (.lconst 1, 1, 0, 0, false) else none))
   else
    (bif Nat.ble 1 pc then (bif Nat.beq pc 1 then some (.i2l, 1, 0, 0, false) else none) else (bif Nat.beq pc 0 then some (.iload_n 1, 1, 0, 0, false) else none))))
def qX8_judge (pc : Nat) : Option mIn :=
  (bif Nat.ble 19 pc then
   (bif Nat.ble 28 pc then
    (bif Nat.ble 33 pc then
     (bif Nat.ble 34 pc then (bif Nat.ble 35 pc then (bif Nat.beq pc 35 then some (.ireturn, 1, 0, 0, false) else none) else (bif Nat.beq pc 34 then some (.iconst 1, 1, 0, 1, false) else none)) else (bif Nat.beq pc 33 then some (.iastore, 1, 0, 0, false) else none))
    else
     (bif Nat.ble 31 pc then (bif Nat.ble 32 pc then (bif Nat.beq pc 32 then some (.iload_n 2, 1, 0, 0, false) else none) else (bif Nat.beq pc 31 then some (.iload_n 1, 1, 0, 0, false) else none)) else (bif Nat.beq pc 28 then some (.getfield 60, 3, 0, 0, false) else none)))
   else
    (bif Nat.ble 25 pc then
     (bif Nat.ble 26 pc then (bif Nat.ble 27 pc then (bif Nat.beq pc 27 then some (.aload_n 0, 1, 0, 0, false) else none) else (bif Nat.beq pc 26 then some (.ireturn, 1, 0, 0, false) else none)) else (bif Nat.beq pc 25 then some (.iconst 0, 1, 0, 0, false) else none))
    else
     (bif Nat.ble 22 pc then (bif Nat.beq pc 22 then some (.ifCond .ne 5, 3, 27, 0, false) else none) else (bif Nat.beq pc 19 then some (.invokestatic 96, 3, 0, 0, false) else none))))
  else
   (bif Nat.ble 7 pc then
    (bif Nat.ble 14 pc then
     (bif Nat.ble 15 pc then (bif Nat.ble 18 pc then (bif Nat.beq pc 18 then some (.lconst 1, 1, 0, 0, false) else none) else (bif Nat.beq pc 15 then some (.ldc2_w 130, 3, 0, 0, false) else none)) else (bif Nat.beq pc 14 then some (.i2l, 1, 0, 0, false) else none))
    else
     (bif Nat.ble 10 pc then (bif Nat.ble 13 pc then (bif Nat.beq pc 13 then some (.iload_n 2, 1, 0, 0, false) else none) else (bif Nat.beq pc 10 then some (.ifCond .eq 15, 3, 25, 0, false) else none)) else (bif Nat.beq pc 7 then some (.invokevirtual 141, 3, 0, 0, false) else none)))
   else
    (bif Nat.ble 2 pc then
     (bif Nat.ble 5 pc then (bif Nat.ble 6 pc then (bif Nat.beq pc 6 then some (.iload_n 1, 1, 0, 0, false) else none) else (bif Nat.beq pc 5 then some (.aload_n 0, 1, 0, 0, false) else none)) else (bif Nat.beq pc 2 then some (.putfield 3, 3, 0, 0, false) else none))
    else
     (bif Nat.ble 1 pc then (bif Nat.beq pc 1 then some (.iconst 0, 1, 0, 0, false) else none) else (bif Nat.beq pc 0 then some (.aload_n 0, 1, 0, 0, false) else none)))))
def qX8_count (pc : Nat) : Option mIn :=
  (bif Nat.ble 41 pc then
   (bif Nat.ble 108 pc then
    (bif Nat.ble 116 pc then
     (bif Nat.ble 121 pc then
      (bif Nat.ble 125 pc then (bif Nat.ble 126 pc then (bif Nat.beq pc 126 then some (.ireturn, 1, 0, 0, false) else none) else (bif Nat.beq pc 125 then some (.iconst (-1), 1, 0, -1, false) else none)) else (bif Nat.ble 124 pc then (bif Nat.beq pc 124 then some (.ireturn, 1, 0, 0, false) else none) else (bif Nat.beq pc 121 then some (.getfield 144, 3, 0, 0, false) else none)))
     else
      (bif Nat.ble 119 pc then (bif Nat.ble 120 pc then (bif Nat.beq pc 120 then some (.aload_n 0, 1, 0, 0, false) else none) else (bif Nat.beq pc 119 then some (.ireturn, 1, 0, 0, false) else none)) else (bif Nat.beq pc 116 then some (.getfield 57, 3, 0, 0, false) else none)))
    else
     (bif Nat.ble 111 pc then
      (bif Nat.ble 114 pc then (bif Nat.ble 115 pc then (bif Nat.beq pc 115 then some (.aload_n 0, 1, 0, 0, false) else none) else (bif Nat.beq pc 114 then some (.ireturn, 1, 0, 0, false) else none)) else (bif Nat.beq pc 111 then some (.getfield 138, 3, 0, 0, false) else none))
     else
      (bif Nat.ble 109 pc then (bif Nat.ble 110 pc then (bif Nat.beq pc 110 then some (.aload_n 0, 1, 0, 0, false) else none) else (bif Nat.beq pc 109 then some (.ireturn, 1, 0, 0, false) else none)) else (bif Nat.beq pc 108 then some (.iload_n 2, 1, 0, 0, false) else none))))
   else
    (bif Nat.ble 97 pc then
     (bif Nat.ble 102 pc then
      (bif Nat.ble 104 pc then (bif Nat.ble 107 pc then (bif Nat.beq pc 107 then some (.ireturn, 1, 0, 0, false) else none) else (bif Nat.beq pc 104 then some (.getfield 93, 3, 0, 0, false) else none)) else (bif Nat.ble 103 pc then (bif Nat.beq pc 103 then some (.aload_n 0, 1, 0, 0, false) else none) else (bif Nat.beq pc 102 then some (.ireturn, 1, 0, 0, false) else none)))
     else
      (bif Nat.ble 98 pc then (bif Nat.ble 99 pc then (bif Nat.beq pc 99 then some (.getfield 90, 3, 0, 0, false) else none) else (bif Nat.beq pc 98 then some (.aload_n 0, 1, 0, 0, false) else none)) else (bif Nat.beq pc 97 then some (.ireturn, 1, 0, 0, false) else none)))
    else
     (bif Nat.ble 92 pc then
      (bif Nat.ble 93 pc then (bif Nat.ble 94 pc then (bif Nat.beq pc 94 then some (.getfield 16, 3, 0, 0, false) else none) else (bif Nat.beq pc 93 then some (.aload_n 0, 1, 0, 0, false) else none)) else (bif Nat.beq pc 92 then some (.ireturn, 1, 0, 0, false) else none))
     else
      (bif Nat.ble 88 pc then (bif Nat.ble 89 pc then (bif Nat.beq pc 89 then some (.getfield 13, 3, 0, 0, false) else none) else (bif Nat.beq pc 88 then some (.aload_n 0, 1, 0, 0, false) else none)) else (bif Nat.beq pc 41 then some (.tableswitch 84 0 7 #[47, 52, 57, 62, 67, 69, 74, 79], 47, 0, 0, false) else none)))))
  else
   (bif Nat.ble 18 pc then
    (bif Nat.ble 28 pc then
     (bif Nat.ble 33 pc then
      (bif Nat.ble 37 pc then (bif Nat.ble 40 pc then (bif Nat.beq pc 40 then some (.iload_n 1, 1, 0, 0, false) else none) else (bif Nat.beq pc 37 then some (.goto (-28), 3, 9, 0, false) else none)) else (bif Nat.ble 34 pc then (bif Nat.beq pc 34 then some (.iinc 3 1, 3, 0, 1, false) else none) else (bif Nat.beq pc 33 then some (.istore_n 2, 1, 0, 0, false) else none)))
     else
      (bif Nat.ble 31 pc then (bif Nat.ble 32 pc then (bif Nat.beq pc 32 then some (.iadd, 1, 0, 0, false) else none) else (bif Nat.beq pc 31 then some (.iconst 1, 1, 0, 1, false) else none)) else (bif Nat.beq pc 28 then some (.goto 4, 3, 32, 0, false) else none)))
    else
     (bif Nat.ble 23 pc then
      (bif Nat.ble 24 pc then (bif Nat.ble 27 pc then (bif Nat.beq pc 27 then some (.iconst 0, 1, 0, 0, false) else none) else (bif Nat.beq pc 24 then some (.ifCond .eq 7, 3, 31, 0, false) else none)) else (bif Nat.beq pc 23 then some (.baload, 1, 0, 0, false) else none))
     else
      (bif Nat.ble 19 pc then (bif Nat.ble 22 pc then (bif Nat.beq pc 22 then some (.iload_n 3, 1, 0, 0, false) else none) else (bif Nat.beq pc 19 then some (.getfield 42, 3, 0, 0, false) else none)) else (bif Nat.beq pc 18 then some (.aload_n 0, 1, 0, 0, false) else none))))
   else
    (bif Nat.ble 8 pc then
     (bif Nat.ble 11 pc then
      (bif Nat.ble 14 pc then (bif Nat.ble 17 pc then (bif Nat.beq pc 17 then some (.iload_n 2, 1, 0, 0, false) else none) else (bif Nat.beq pc 14 then some (.if_icmp .ge 26, 3, 40, 0, false) else none)) else (bif Nat.beq pc 11 then some (.getfield 93, 3, 0, 0, false) else none))
     else
      (bif Nat.ble 9 pc then (bif Nat.ble 10 pc then (bif Nat.beq pc 10 then some (.aload_n 0, 1, 0, 0, false) else none) else (bif Nat.beq pc 9 then some (.iload_n 3, 1, 0, 0, true) else none)) else (bif Nat.beq pc 8 then some (.istore_n 3, 1, 0, 0, false) else none)))
    else
     (bif Nat.ble 5 pc then
      (bif Nat.ble 6 pc then (bif Nat.ble 7 pc then (bif Nat.beq pc 7 then some (.iconst 0, 1, 0, 0, false) else none) else (bif Nat.beq pc 6 then some (.istore_n 2, 1, 0, 0, false) else none)) else (bif Nat.beq pc 5 then some (.iconst 0, 1, 0, 0, false) else none))
     else
      (bif Nat.ble 1 pc then (bif Nat.ble 2 pc then (bif Nat.beq pc 2 then some (.putfield 3, 3, 0, 0, false) else none) else (bif Nat.beq pc 1 then some (.iconst 0, 1, 0, 0, false) else none)) else (bif Nat.beq pc 0 then some (.aload_n 0, 1, 0, 0, false) else none))))))
def qX8_mapIn (pc : Nat) : Option mIn :=
  (bif Nat.ble 17 pc then
   (bif Nat.ble 26 pc then
    (bif Nat.ble 31 pc then
     (bif Nat.ble 34 pc then (bif Nat.ble 35 pc then (bif Nat.beq pc 35 then some (.ireturn, 1, 0, 0, false) else none) else (bif Nat.beq pc 34 then some (.iload_n 2, 1, 0, 0, false) else none)) else (bif Nat.beq pc 31 then some (.goto (-27), 3, 4, 0, false) else none))
    else
     (bif Nat.ble 27 pc then (bif Nat.ble 28 pc then (bif Nat.beq pc 28 then some (.iinc 3 1, 3, 0, 1, false) else none) else (bif Nat.beq pc 27 then some (.istore_n 2, 1, 0, 0, false) else none)) else (bif Nat.beq pc 26 then some (.iload_n 2, 1, 0, 0, false) else none)))
   else
    (bif Nat.ble 19 pc then
     (bif Nat.ble 22 pc then (bif Nat.ble 23 pc then (bif Nat.beq pc 23 then some (.goto 4, 3, 27, 0, false) else none) else (bif Nat.beq pc 22 then some (.iload_n 3, 1, 0, 0, false) else none)) else (bif Nat.beq pc 19 then some (.if_icmp .gt 7, 3, 26, 0, false) else none))
    else
     (bif Nat.ble 18 pc then (bif Nat.beq pc 18 then some (.iload_n 1, 1, 0, 0, false) else none) else (bif Nat.beq pc 17 then some (.iaload, 1, 0, 0, false) else none))))
  else
   (bif Nat.ble 5 pc then
    (bif Nat.ble 12 pc then
     (bif Nat.ble 13 pc then (bif Nat.ble 16 pc then (bif Nat.beq pc 16 then some (.iload_n 3, 1, 0, 0, false) else none) else (bif Nat.beq pc 13 then some (.getfield 19, 3, 0, 0, false) else none)) else (bif Nat.beq pc 12 then some (.aload_n 0, 1, 0, 0, false) else none))
    else
     (bif Nat.ble 6 pc then (bif Nat.ble 9 pc then (bif Nat.beq pc 9 then some (.if_icmp .ge 25, 3, 34, 0, false) else none) else (bif Nat.beq pc 6 then some (.getfield 90, 3, 0, 0, false) else none)) else (bif Nat.beq pc 5 then some (.aload_n 0, 1, 0, 0, false) else none)))
   else
    (bif Nat.ble 2 pc then
     (bif Nat.ble 3 pc then (bif Nat.ble 4 pc then (bif Nat.beq pc 4 then some (.iload_n 3, 1, 0, 0, true) else none) else (bif Nat.beq pc 3 then some (.istore_n 3, 1, 0, 0, false) else none)) else (bif Nat.beq pc 2 then some (.iconst 1, 1, 0, 1, false) else none))
    else
     (bif Nat.ble 1 pc then (bif Nat.beq pc 1 then some (.istore_n 2, 1, 0, 0, false) else none) else (bif Nat.beq pc 0 then some (.iconst 0, 1, 0, 0, false) else none)))))
def qX8_isWet (pc : Nat) : Option mIn :=
  (bif Nat.ble 8 pc then
   (bif Nat.ble 10 pc then
    (bif Nat.ble 11 pc then (bif Nat.ble 12 pc then (bif Nat.beq pc 12 then some (.ireturn, 1, 0, 0, false) else none) else (bif Nat.beq pc 11 then some (.baload, 1, 0, 0, false) else none)) else (bif Nat.beq pc 10 then some (.iadd, 1, 0, 0, false) else none))
   else
    (bif Nat.ble 9 pc then (bif Nat.beq pc 9 then some (.iload_n 2, 1, 0, 0, false) else none) else (bif Nat.beq pc 8 then some (.imul, 1, 0, 0, false) else none)))
  else
   (bif Nat.ble 4 pc then (bif Nat.ble 7 pc then (bif Nat.beq pc 7 then some (.iload_n 1, 1, 0, 0, false) else none) else (bif Nat.beq pc 4 then some (.sipush 144, 3, 0, 144, false) else none)) else (bif Nat.ble 1 pc then (bif Nat.beq pc 1 then some (.getfield 23, 3, 0, 0, false) else none) else (bif Nat.beq pc 0 then some (.aload_n 0, 1, 0, 0, false) else none))))
def qX8_isOn (pc : Nat) : Option mIn :=
  (bif Nat.ble 14 pc then
   (bif Nat.ble 22 pc then
    (bif Nat.ble 26 pc then (bif Nat.ble 27 pc then (bif Nat.beq pc 27 then some (.ireturn, 1, 0, 0, false) else none) else (bif Nat.beq pc 26 then some (.iconst 0, 1, 0, 0, false) else none)) else (bif Nat.ble 23 pc then (bif Nat.beq pc 23 then some (.goto 4, 3, 27, 0, false) else none) else (bif Nat.beq pc 22 then some (.iconst 1, 1, 0, 1, false) else none)))
   else
    (bif Nat.ble 16 pc then (bif Nat.ble 19 pc then (bif Nat.beq pc 19 then some (.if_icmp .ge 7, 3, 26, 0, false) else none) else (bif Nat.beq pc 16 then some (.getfield 16, 3, 0, 0, false) else none)) else (bif Nat.ble 15 pc then (bif Nat.beq pc 15 then some (.aload_n 0, 1, 0, 0, false) else none) else (bif Nat.beq pc 14 then some (.idiv, 1, 0, 0, false) else none))))
  else
   (bif Nat.ble 5 pc then
    (bif Nat.ble 11 pc then (bif Nat.ble 12 pc then (bif Nat.beq pc 12 then some (.bipush 12, 2, 0, 12, false) else none) else (bif Nat.beq pc 11 then some (.iload_n 1, 1, 0, 0, false) else none)) else (bif Nat.ble 8 pc then (bif Nat.beq pc 8 then some (.if_icmp .ge 18, 3, 26, 0, false) else none) else (bif Nat.beq pc 5 then some (.getfield 13, 3, 0, 0, false) else none)))
   else
    (bif Nat.ble 3 pc then (bif Nat.ble 4 pc then (bif Nat.beq pc 4 then some (.aload_n 0, 1, 0, 0, false) else none) else (bif Nat.beq pc 3 then some (.irem, 1, 0, 0, false) else none)) else (bif Nat.ble 1 pc then (bif Nat.beq pc 1 then some (.bipush 12, 2, 0, 12, false) else none) else (bif Nat.beq pc 0 then some (.iload_n 1, 1, 0, 0, false) else none)))))
def qX8_wet (pc : Nat) : Option mIn :=
  (bif Nat.ble 28 pc then
   (bif Nat.ble 39 pc then
    (bif Nat.ble 49 pc then
     (bif Nat.ble 53 pc then (bif Nat.ble 54 pc then (bif Nat.beq pc 54 then some (.ireturn, 1, 0, 0, false) else none) else (bif Nat.beq pc 53 then some (.iconst (-1), 1, 0, -1, false) else none)) else (bif Nat.ble 50 pc then (bif Nat.beq pc 50 then some (.goto 4, 3, 54, 0, false) else none) else (bif Nat.beq pc 49 then some (.iconst 0, 1, 0, 0, false) else none)))
    else
     (bif Nat.ble 45 pc then (bif Nat.ble 46 pc then (bif Nat.beq pc 46 then some (.goto 8, 3, 54, 0, false) else none) else (bif Nat.beq pc 45 then some (.iconst 1, 1, 0, 1, false) else none)) else (bif Nat.ble 42 pc then (bif Nat.beq pc 42 then some (.ifCond .eq 7, 3, 49, 0, false) else none) else (bif Nat.beq pc 39 then some (.invokevirtual 151, 3, 0, 0, false) else none))))
   else
    (bif Nat.ble 31 pc then
     (bif Nat.ble 35 pc then (bif Nat.ble 36 pc then (bif Nat.beq pc 36 then some (.invokestatic 104, 3, 0, 0, false) else none) else (bif Nat.beq pc 35 then some (.iload_n 2, 1, 0, 0, false) else none)) else (bif Nat.ble 34 pc then (bif Nat.beq pc 34 then some (.iload_n 1, 1, 0, 0, false) else none) else (bif Nat.beq pc 31 then some (.invokevirtual 147, 3, 0, 0, false) else none)))
    else
     (bif Nat.ble 29 pc then (bif Nat.ble 30 pc then (bif Nat.beq pc 30 then some (.iload_n 3, 1, 0, 0, false) else none) else (bif Nat.beq pc 29 then some (.aload_n 0, 1, 0, 0, false) else none)) else (bif Nat.beq pc 28 then some (.aload_n 0, 1, 0, 0, false) else none))))
  else
   (bif Nat.ble 11 pc then
    (bif Nat.ble 18 pc then
     (bif Nat.ble 22 pc then (bif Nat.ble 25 pc then (bif Nat.beq pc 25 then some (.ifCond .le 28, 3, 53, 0, false) else none) else (bif Nat.beq pc 22 then some (.getfield 90, 3, 0, 0, false) else none)) else (bif Nat.ble 21 pc then (bif Nat.beq pc 21 then some (.aload_n 0, 1, 0, 0, false) else none) else (bif Nat.beq pc 18 then some (.ifCond .eq 35, 3, 53, 0, false) else none)))
    else
     (bif Nat.ble 14 pc then (bif Nat.ble 15 pc then (bif Nat.beq pc 15 then some (.invokestatic 118, 3, 0, 0, false) else none) else (bif Nat.beq pc 14 then some (.iload_n 3, 1, 0, 0, false) else none)) else (bif Nat.beq pc 11 then some (.ifCond .eq 42, 3, 53, 0, false) else none)))
   else
    (bif Nat.ble 5 pc then
     (bif Nat.ble 7 pc then (bif Nat.ble 8 pc then (bif Nat.beq pc 8 then some (.invokevirtual 122, 3, 0, 0, false) else none) else (bif Nat.beq pc 7 then some (.iload_n 2, 1, 0, 0, false) else none)) else (bif Nat.ble 6 pc then (bif Nat.beq pc 6 then some (.iload_n 1, 1, 0, 0, false) else none) else (bif Nat.beq pc 5 then some (.aload_n 0, 1, 0, 0, false) else none)))
    else
     (bif Nat.ble 1 pc then (bif Nat.ble 2 pc then (bif Nat.beq pc 2 then some (.putfield 3, 3, 0, 0, false) else none) else (bif Nat.beq pc 1 then some (.iconst 0, 1, 0, 0, false) else none)) else (bif Nat.beq pc 0 then some (.aload_n 0, 1, 0, 0, false) else none)))))
def qX8_kinds (pc : Nat) : Option mIn :=
  (bif Nat.ble 32 pc then
   (bif Nat.ble 56 pc then
    (bif Nat.ble 66 pc then
     (bif Nat.ble 71 pc then
      (bif Nat.ble 74 pc then (bif Nat.ble 77 pc then (bif Nat.beq pc 77 then some (.return_, 1, 0, 0, false) else none) else (bif Nat.beq pc 74 then some (.goto (-72), 3, 2, 0, false) else none)) else (bif Nat.beq pc 71 then some (.iinc 2 1, 3, 0, 1, false) else none))
     else
      (bif Nat.ble 69 pc then (bif Nat.ble 70 pc then (bif Nat.beq pc 70 then some (.iastore, 1, 0, 0, false) else none) else (bif Nat.beq pc 69 then some (.iconst 0, 1, 0, 0, false) else none)) else (bif Nat.beq pc 66 then some (.goto 4, 3, 70, 0, false) else none)))
    else
     (bif Nat.ble 60 pc then
      (bif Nat.ble 62 pc then (bif Nat.ble 65 pc then (bif Nat.beq pc 65 then some (.iconst 1, 1, 0, 1, false) else none) else (bif Nat.beq pc 62 then some (.ifCond .eq 7, 3, 69, 0, false) else none)) else (bif Nat.beq pc 60 then some (.iload 4, 2, 0, 0, false) else none))
     else
      (bif Nat.ble 57 pc then (bif Nat.beq pc 57 then some (.goto 13, 3, 70, 0, false) else none) else (bif Nat.beq pc 56 then some (.iconst 2, 1, 0, 2, false) else none))))
   else
    (bif Nat.ble 43 pc then
     (bif Nat.ble 49 pc then
      (bif Nat.ble 52 pc then (bif Nat.ble 53 pc then (bif Nat.beq pc 53 then some (.goto 17, 3, 70, 0, false) else none) else (bif Nat.beq pc 52 then some (.iconst 3, 1, 0, 3, false) else none)) else (bif Nat.beq pc 49 then some (.ifCond .eq 7, 3, 56, 0, false) else none))
     else
      (bif Nat.ble 44 pc then (bif Nat.ble 47 pc then (bif Nat.beq pc 47 then some (.iload 4, 2, 0, 0, false) else none) else (bif Nat.beq pc 44 then some (.ifCond .eq 16, 3, 60, 0, false) else none)) else (bif Nat.beq pc 43 then some (.iload_n 3, 1, 0, 0, false) else none)))
    else
     (bif Nat.ble 36 pc then
      (bif Nat.ble 39 pc then (bif Nat.ble 40 pc then (bif Nat.beq pc 40 then some (.goto 30, 3, 70, 0, false) else none) else (bif Nat.beq pc 39 then some (.iconst (-1), 1, 0, -1, false) else none)) else (bif Nat.beq pc 36 then some (.ifCond .ne 7, 3, 43, 0, false) else none))
     else
      (bif Nat.ble 33 pc then (bif Nat.beq pc 33 then some (.invokevirtual 154, 3, 0, 0, false) else none) else (bif Nat.beq pc 32 then some (.iload_n 2, 1, 0, 0, false) else none)))))
  else
   (bif Nat.ble 14 pc then
    (bif Nat.ble 21 pc then
     (bif Nat.ble 27 pc then
      (bif Nat.ble 30 pc then (bif Nat.ble 31 pc then (bif Nat.beq pc 31 then some (.aload_n 0, 1, 0, 0, false) else none) else (bif Nat.beq pc 30 then some (.iload_n 2, 1, 0, 0, false) else none)) else (bif Nat.beq pc 27 then some (.getfield 63, 3, 0, 0, false) else none))
     else
      (bif Nat.ble 24 pc then (bif Nat.ble 26 pc then (bif Nat.beq pc 26 then some (.aload_n 0, 1, 0, 0, false) else none) else (bif Nat.beq pc 24 then some (.istore 4, 2, 0, 0, false) else none)) else (bif Nat.beq pc 21 then some (.invokevirtual 151, 3, 0, 0, false) else none)))
    else
     (bif Nat.ble 18 pc then
      (bif Nat.ble 19 pc then (bif Nat.ble 20 pc then (bif Nat.beq pc 20 then some (.iload_n 2, 1, 0, 0, false) else none) else (bif Nat.beq pc 19 then some (.iload_n 1, 1, 0, 0, false) else none)) else (bif Nat.beq pc 18 then some (.aload_n 0, 1, 0, 0, false) else none))
     else
      (bif Nat.ble 17 pc then (bif Nat.beq pc 17 then some (.istore_n 3, 1, 0, 0, false) else none) else (bif Nat.beq pc 14 then some (.invokevirtual 151, 3, 0, 0, false) else none))))
   else
    (bif Nat.ble 9 pc then
     (bif Nat.ble 11 pc then
      (bif Nat.ble 12 pc then (bif Nat.ble 13 pc then (bif Nat.beq pc 13 then some (.iload_n 2, 1, 0, 0, false) else none) else (bif Nat.beq pc 12 then some (.isub, 1, 0, 0, false) else none)) else (bif Nat.beq pc 11 then some (.iconst 1, 1, 0, 1, false) else none))
     else
      (bif Nat.ble 10 pc then (bif Nat.beq pc 10 then some (.iload_n 1, 1, 0, 0, false) else none) else (bif Nat.beq pc 9 then some (.aload_n 0, 1, 0, 0, false) else none)))
    else
     (bif Nat.ble 2 pc then
      (bif Nat.ble 3 pc then (bif Nat.ble 6 pc then (bif Nat.beq pc 6 then some (.if_icmp .ge 71, 3, 77, 0, false) else none) else (bif Nat.beq pc 3 then some (.sipush 144, 3, 0, 144, false) else none)) else (bif Nat.beq pc 2 then some (.iload_n 2, 1, 0, 0, true) else none))
     else
      (bif Nat.ble 1 pc then (bif Nat.beq pc 1 then some (.istore_n 2, 1, 0, 0, false) else none) else (bif Nat.beq pc 0 then some (.iconst 0, 1, 0, 0, false) else none))))))
def qX8_apart (pc : Nat) : Option mIn :=
  (bif Nat.ble 13 pc then
   (bif Nat.ble 19 pc then
    (bif Nat.ble 21 pc then
     (bif Nat.ble 24 pc then (bif Nat.ble 27 pc then (bif Nat.beq pc 27 then some (.ireturn, 1, 0, 0, false) else none) else (bif Nat.beq pc 24 then some (.invokestatic 160, 3, 0, 0, false) else none)) else (bif Nat.beq pc 21 then some (.invokestatic 157, 3, 0, 0, false) else none))
    else
     (bif Nat.ble 20 pc then (bif Nat.beq pc 20 then some (.isub, 1, 0, 0, false) else none) else (bif Nat.beq pc 19 then some (.idiv, 1, 0, 0, false) else none)))
   else
    (bif Nat.ble 16 pc then (bif Nat.ble 17 pc then (bif Nat.beq pc 17 then some (.bipush 12, 2, 0, 12, false) else none) else (bif Nat.beq pc 16 then some (.iload_n 1, 1, 0, 0, false) else none)) else (bif Nat.ble 15 pc then (bif Nat.beq pc 15 then some (.idiv, 1, 0, 0, false) else none) else (bif Nat.beq pc 13 then some (.bipush 12, 2, 0, 12, false) else none))))
  else
   (bif Nat.ble 5 pc then
    (bif Nat.ble 8 pc then
     (bif Nat.ble 9 pc then (bif Nat.ble 12 pc then (bif Nat.beq pc 12 then some (.iload_n 0, 1, 0, 0, false) else none) else (bif Nat.beq pc 9 then some (.invokestatic 157, 3, 0, 0, false) else none)) else (bif Nat.beq pc 8 then some (.isub, 1, 0, 0, false) else none))
    else
     (bif Nat.ble 7 pc then (bif Nat.beq pc 7 then some (.irem, 1, 0, 0, false) else none) else (bif Nat.beq pc 5 then some (.bipush 12, 2, 0, 12, false) else none)))
   else
    (bif Nat.ble 3 pc then (bif Nat.ble 4 pc then (bif Nat.beq pc 4 then some (.iload_n 1, 1, 0, 0, false) else none) else (bif Nat.beq pc 3 then some (.irem, 1, 0, 0, false) else none)) else (bif Nat.ble 1 pc then (bif Nat.beq pc 1 then some (.bipush 12, 2, 0, 12, false) else none) else (bif Nat.beq pc 0 then some (.iload_n 0, 1, 0, 0, false) else none)))))
def qX8_away (pc : Nat) : Option mIn :=
  (bif Nat.ble 13 pc then
   (bif Nat.ble 19 pc then
    (bif Nat.ble 21 pc then
     (bif Nat.ble 24 pc then (bif Nat.ble 25 pc then (bif Nat.beq pc 25 then some (.ireturn, 1, 0, 0, false) else none) else (bif Nat.beq pc 24 then some (.iadd, 1, 0, 0, false) else none)) else (bif Nat.beq pc 21 then some (.invokestatic 157, 3, 0, 0, false) else none))
    else
     (bif Nat.ble 20 pc then (bif Nat.beq pc 20 then some (.isub, 1, 0, 0, false) else none) else (bif Nat.beq pc 19 then some (.idiv, 1, 0, 0, false) else none)))
   else
    (bif Nat.ble 16 pc then (bif Nat.ble 17 pc then (bif Nat.beq pc 17 then some (.bipush 12, 2, 0, 12, false) else none) else (bif Nat.beq pc 16 then some (.iload_n 1, 1, 0, 0, false) else none)) else (bif Nat.ble 15 pc then (bif Nat.beq pc 15 then some (.idiv, 1, 0, 0, false) else none) else (bif Nat.beq pc 13 then some (.bipush 12, 2, 0, 12, false) else none))))
  else
   (bif Nat.ble 5 pc then
    (bif Nat.ble 8 pc then
     (bif Nat.ble 9 pc then (bif Nat.ble 12 pc then (bif Nat.beq pc 12 then some (.iload_n 0, 1, 0, 0, false) else none) else (bif Nat.beq pc 9 then some (.invokestatic 157, 3, 0, 0, false) else none)) else (bif Nat.beq pc 8 then some (.isub, 1, 0, 0, false) else none))
    else
     (bif Nat.ble 7 pc then (bif Nat.beq pc 7 then some (.irem, 1, 0, 0, false) else none) else (bif Nat.beq pc 5 then some (.bipush 12, 2, 0, 12, false) else none)))
   else
    (bif Nat.ble 3 pc then (bif Nat.ble 4 pc then (bif Nat.beq pc 4 then some (.iload_n 1, 1, 0, 0, false) else none) else (bif Nat.beq pc 3 then some (.irem, 1, 0, 0, false) else none)) else (bif Nat.ble 1 pc then (bif Nat.beq pc 1 then some (.bipush 12, 2, 0, 12, false) else none) else (bif Nat.beq pc 0 then some (.iload_n 0, 1, 0, 0, false) else none)))))
def qX8_kindsOf (pc : Nat) : Option mIn :=
  (bif Nat.ble 17 pc then
   (bif Nat.ble 27 pc then
    (bif Nat.ble 32 pc then
     (bif Nat.ble 35 pc then (bif Nat.ble 36 pc then (bif Nat.beq pc 36 then some (.ireturn, 1, 0, 0, false) else none) else (bif Nat.beq pc 35 then some (.iload_n 2, 1, 0, 0, false) else none)) else (bif Nat.beq pc 32 then some (.goto (-28), 3, 4, 0, false) else none))
    else
     (bif Nat.ble 28 pc then (bif Nat.ble 29 pc then (bif Nat.beq pc 29 then some (.iinc 3 1, 3, 0, 1, false) else none) else (bif Nat.beq pc 28 then some (.istore_n 2, 1, 0, 0, false) else none)) else (bif Nat.beq pc 27 then some (.iadd, 1, 0, 0, false) else none)))
   else
    (bif Nat.ble 22 pc then
     (bif Nat.ble 23 pc then (bif Nat.ble 26 pc then (bif Nat.beq pc 26 then some (.iconst 0, 1, 0, 0, false) else none) else (bif Nat.beq pc 23 then some (.goto 4, 3, 27, 0, false) else none)) else (bif Nat.beq pc 22 then some (.iconst 1, 1, 0, 1, false) else none))
    else
     (bif Nat.ble 18 pc then (bif Nat.ble 19 pc then (bif Nat.beq pc 19 then some (.if_icmp .ne 7, 3, 26, 0, false) else none) else (bif Nat.beq pc 18 then some (.iload_n 1, 1, 0, 0, false) else none)) else (bif Nat.beq pc 17 then some (.iaload, 1, 0, 0, false) else none))))
  else
   (bif Nat.ble 5 pc then
    (bif Nat.ble 12 pc then
     (bif Nat.ble 13 pc then (bif Nat.ble 16 pc then (bif Nat.beq pc 16 then some (.iload_n 3, 1, 0, 0, false) else none) else (bif Nat.beq pc 13 then some (.getfield 63, 3, 0, 0, false) else none)) else (bif Nat.beq pc 12 then some (.aload_n 0, 1, 0, 0, false) else none))
    else
     (bif Nat.ble 8 pc then (bif Nat.ble 11 pc then (bif Nat.beq pc 11 then some (.iload_n 2, 1, 0, 0, false) else none) else (bif Nat.beq pc 8 then some (.if_icmp .ge 27, 3, 35, 0, false) else none)) else (bif Nat.beq pc 5 then some (.sipush 144, 3, 0, 144, false) else none)))
   else
    (bif Nat.ble 2 pc then
     (bif Nat.ble 3 pc then (bif Nat.ble 4 pc then (bif Nat.beq pc 4 then some (.iload_n 3, 1, 0, 0, true) else none) else (bif Nat.beq pc 3 then some (.istore_n 3, 1, 0, 0, false) else none)) else (bif Nat.beq pc 2 then some (.iconst 0, 1, 0, 0, false) else none))
    else
     (bif Nat.ble 1 pc then (bif Nat.beq pc 1 then some (.istore_n 2, 1, 0, 0, false) else none) else (bif Nat.beq pc 0 then some (.iconst 0, 1, 0, 0, false) else none)))))
def qX8_far (pc : Nat) : Option mIn :=
  (bif Nat.ble 69 pc then
   (bif Nat.ble 105 pc then
    (bif Nat.ble 125 pc then
     (bif Nat.ble 136 pc then
      (bif Nat.ble 140 pc then
       (bif Nat.ble 143 pc then (bif Nat.ble 144 pc then (bif Nat.beq pc 144 then some (.ireturn, 1, 0, 0, false) else none) else (bif Nat.beq pc 143 then some (.iload_n 1, 1, 0, 0, false) else none)) else (bif Nat.beq pc 140 then some (.goto (-136), 3, 4, 0, false) else none))
      else
       (bif Nat.ble 137 pc then (bif Nat.beq pc 137 then some (.iinc 2 1, 3, 0, 1, false) else none) else (bif Nat.beq pc 136 then some (.istore_n 1, 1, 0, 0, false) else none)))
     else
      (bif Nat.ble 131 pc then
       (bif Nat.ble 132 pc then (bif Nat.ble 133 pc then (bif Nat.beq pc 133 then some (.invokestatic 160, 3, 0, 0, false) else none) else (bif Nat.beq pc 132 then some (.iload_n 3, 1, 0, 0, false) else none)) else (bif Nat.beq pc 131 then some (.iload_n 1, 1, 0, 0, false) else none))
      else
       (bif Nat.ble 128 pc then (bif Nat.beq pc 128 then some (.goto (-88), 3, 40, 0, false) else none) else (bif Nat.beq pc 125 then some (.iinc 4 1, 3, 0, 1, false) else none))))
    else
     (bif Nat.ble 114 pc then
      (bif Nat.ble 120 pc then
       (bif Nat.ble 123 pc then (bif Nat.ble 124 pc then (bif Nat.beq pc 124 then some (.istore_n 3, 1, 0, 0, false) else none) else (bif Nat.beq pc 123 then some (.iload_n 3, 1, 0, 0, false) else none)) else (bif Nat.beq pc 120 then some (.goto 4, 3, 124, 0, false) else none))
      else
       (bif Nat.ble 117 pc then (bif Nat.beq pc 117 then some (.invokestatic 113, 3, 0, 0, false) else none) else (bif Nat.beq pc 114 then some (.invokestatic 163, 3, 0, 0, false) else none)))
     else
      (bif Nat.ble 110 pc then
       (bif Nat.ble 111 pc then (bif Nat.ble 112 pc then (bif Nat.beq pc 112 then some (.iload 4, 2, 0, 0, false) else none) else (bif Nat.beq pc 111 then some (.iload_n 2, 1, 0, 0, false) else none)) else (bif Nat.beq pc 110 then some (.iload_n 3, 1, 0, 0, false) else none))
      else
       (bif Nat.ble 107 pc then (bif Nat.beq pc 107 then some (.ifCond .eq 16, 3, 123, 0, false) else none) else (bif Nat.beq pc 105 then some (.iload 5, 2, 0, 0, false) else none)))))
   else
    (bif Nat.ble 87 pc then
     (bif Nat.ble 95 pc then
      (bif Nat.ble 99 pc then
       (bif Nat.ble 102 pc then (bif Nat.ble 103 pc then (bif Nat.beq pc 103 then some (.istore 5, 2, 0, 0, false) else none) else (bif Nat.beq pc 102 then some (.iconst 0, 1, 0, 0, false) else none)) else (bif Nat.beq pc 99 then some (.goto 4, 3, 103, 0, false) else none))
      else
       (bif Nat.ble 98 pc then (bif Nat.beq pc 98 then some (.iconst 1, 1, 0, 1, false) else none) else (bif Nat.beq pc 95 then some (.if_icmp .ne 7, 3, 102, 0, false) else none)))
     else
      (bif Nat.ble 91 pc then
       (bif Nat.ble 93 pc then (bif Nat.ble 94 pc then (bif Nat.beq pc 94 then some (.iconst 3, 1, 0, 3, false) else none) else (bif Nat.beq pc 93 then some (.iaload, 1, 0, 0, false) else none)) else (bif Nat.beq pc 91 then some (.iload 4, 2, 0, 0, false) else none))
      else
       (bif Nat.ble 88 pc then (bif Nat.beq pc 88 then some (.getfield 63, 3, 0, 0, false) else none) else (bif Nat.beq pc 87 then some (.aload_n 0, 1, 0, 0, false) else none))))
    else
     (bif Nat.ble 77 pc then
      (bif Nat.ble 82 pc then
       (bif Nat.ble 83 pc then (bif Nat.ble 84 pc then (bif Nat.beq pc 84 then some (.if_icmp .eq 14, 3, 98, 0, false) else none) else (bif Nat.beq pc 83 then some (.iconst 2, 1, 0, 2, false) else none)) else (bif Nat.beq pc 82 then some (.iaload, 1, 0, 0, false) else none))
      else
       (bif Nat.ble 80 pc then (bif Nat.beq pc 80 then some (.iload 4, 2, 0, 0, false) else none) else (bif Nat.beq pc 77 then some (.getfield 63, 3, 0, 0, false) else none)))
     else
      (bif Nat.ble 73 pc then (bif Nat.ble 76 pc then (bif Nat.beq pc 76 then some (.aload_n 0, 1, 0, 0, false) else none) else (bif Nat.beq pc 73 then some (.goto 30, 3, 103, 0, false) else none)) else (bif Nat.ble 72 pc then (bif Nat.beq pc 72 then some (.iconst 0, 1, 0, 0, false) else none) else (bif Nat.beq pc 69 then some (.goto 34, 3, 103, 0, false) else none))))))
  else
   (bif Nat.ble 31 pc then
    (bif Nat.ble 52 pc then
     (bif Nat.ble 59 pc then
      (bif Nat.ble 64 pc then
       (bif Nat.ble 65 pc then (bif Nat.ble 68 pc then (bif Nat.beq pc 68 then some (.iconst 1, 1, 0, 1, false) else none) else (bif Nat.beq pc 65 then some (.ifCond .ne 7, 3, 72, 0, false) else none)) else (bif Nat.beq pc 64 then some (.iaload, 1, 0, 0, false) else none))
      else
       (bif Nat.ble 62 pc then (bif Nat.beq pc 62 then some (.iload 4, 2, 0, 0, false) else none) else (bif Nat.beq pc 59 then some (.getfield 63, 3, 0, 0, false) else none)))
     else
      (bif Nat.ble 54 pc then
       (bif Nat.ble 55 pc then (bif Nat.ble 58 pc then (bif Nat.beq pc 58 then some (.aload_n 0, 1, 0, 0, false) else none) else (bif Nat.beq pc 55 then some (.if_icmp .ne 21, 3, 76, 0, false) else none)) else (bif Nat.beq pc 54 then some (.iconst 2, 1, 0, 2, false) else none))
      else
       (bif Nat.ble 53 pc then (bif Nat.beq pc 53 then some (.iaload, 1, 0, 0, false) else none) else (bif Nat.beq pc 52 then some (.iload_n 2, 1, 0, 0, false) else none))))
    else
     (bif Nat.ble 40 pc then
      (bif Nat.ble 45 pc then
       (bif Nat.ble 48 pc then (bif Nat.ble 49 pc then (bif Nat.beq pc 49 then some (.getfield 63, 3, 0, 0, false) else none) else (bif Nat.beq pc 48 then some (.aload_n 0, 1, 0, 0, false) else none)) else (bif Nat.beq pc 45 then some (.if_icmp .ge 86, 3, 131, 0, false) else none))
      else
       (bif Nat.ble 42 pc then (bif Nat.beq pc 42 then some (.sipush 144, 3, 0, 144, false) else none) else (bif Nat.beq pc 40 then some (.iload 4, 2, 0, 0, true) else none)))
     else
      (bif Nat.ble 36 pc then
       (bif Nat.ble 37 pc then (bif Nat.ble 38 pc then (bif Nat.beq pc 38 then some (.istore 4, 2, 0, 0, false) else none) else (bif Nat.beq pc 37 then some (.iconst 0, 1, 0, 0, false) else none)) else (bif Nat.beq pc 36 then some (.istore_n 3, 1, 0, 0, false) else none))
      else
       (bif Nat.ble 34 pc then (bif Nat.beq pc 34 then some (.bipush 13, 2, 0, 13, false) else none) else (bif Nat.beq pc 31 then some (.goto 106, 3, 137, 0, false) else none)))))
   else
    (bif Nat.ble 15 pc then
     (bif Nat.ble 22 pc then
      (bif Nat.ble 26 pc then
       (bif Nat.ble 27 pc then (bif Nat.ble 28 pc then (bif Nat.beq pc 28 then some (.if_icmp .eq 6, 3, 34, 0, false) else none) else (bif Nat.beq pc 27 then some (.iconst 2, 1, 0, 2, false) else none)) else (bif Nat.beq pc 26 then some (.iaload, 1, 0, 0, false) else none))
      else
       (bif Nat.ble 25 pc then (bif Nat.beq pc 25 then some (.iload_n 2, 1, 0, 0, false) else none) else (bif Nat.beq pc 22 then some (.getfield 63, 3, 0, 0, false) else none)))
     else
      (bif Nat.ble 17 pc then
       (bif Nat.ble 18 pc then (bif Nat.ble 21 pc then (bif Nat.beq pc 21 then some (.aload_n 0, 1, 0, 0, false) else none) else (bif Nat.beq pc 18 then some (.if_icmp .eq 16, 3, 34, 0, false) else none)) else (bif Nat.beq pc 17 then some (.iconst 1, 1, 0, 1, false) else none))
      else
       (bif Nat.ble 16 pc then (bif Nat.beq pc 16 then some (.iaload, 1, 0, 0, false) else none) else (bif Nat.beq pc 15 then some (.iload_n 2, 1, 0, 0, false) else none))))
    else
     (bif Nat.ble 4 pc then
      (bif Nat.ble 8 pc then
       (bif Nat.ble 11 pc then (bif Nat.ble 12 pc then (bif Nat.beq pc 12 then some (.getfield 63, 3, 0, 0, false) else none) else (bif Nat.beq pc 11 then some (.aload_n 0, 1, 0, 0, false) else none)) else (bif Nat.beq pc 8 then some (.if_icmp .ge 135, 3, 143, 0, false) else none))
      else
       (bif Nat.ble 5 pc then (bif Nat.beq pc 5 then some (.sipush 144, 3, 0, 144, false) else none) else (bif Nat.beq pc 4 then some (.iload_n 2, 1, 0, 0, true) else none)))
     else
      (bif Nat.ble 2 pc then (bif Nat.ble 3 pc then (bif Nat.beq pc 3 then some (.istore_n 2, 1, 0, 0, false) else none) else (bif Nat.beq pc 2 then some (.iconst 0, 1, 0, 0, false) else none)) else (bif Nat.ble 1 pc then (bif Nat.beq pc 1 then some (.istore_n 1, 1, 0, 0, false) else none) else (bif Nat.beq pc 0 then some (.iconst 0, 1, 0, 0, false) else none)))))))
def qX8_isSudden (pc : Nat) : Option mIn :=
  (bif Nat.ble 24 pc then
   (bif Nat.ble 34 pc then
    (bif Nat.ble 39 pc then
     (bif Nat.ble 42 pc then (bif Nat.ble 43 pc then (bif Nat.beq pc 43 then some (.ireturn, 1, 0, 0, false) else none) else (bif Nat.beq pc 42 then some (.iconst 0, 1, 0, 0, false) else none)) else (bif Nat.beq pc 39 then some (.goto 4, 3, 43, 0, false) else none))
    else
     (bif Nat.ble 35 pc then (bif Nat.ble 38 pc then (bif Nat.beq pc 38 then some (.iconst 1, 1, 0, 1, false) else none) else (bif Nat.beq pc 35 then some (.if_icmp .ne 7, 3, 42, 0, false) else none)) else (bif Nat.beq pc 34 then some (.iconst 1, 1, 0, 1, false) else none)))
   else
    (bif Nat.ble 29 pc then
     (bif Nat.ble 32 pc then (bif Nat.ble 33 pc then (bif Nat.beq pc 33 then some (.iaload, 1, 0, 0, false) else none) else (bif Nat.beq pc 32 then some (.iload_n 1, 1, 0, 0, false) else none)) else (bif Nat.beq pc 29 then some (.getfield 60, 3, 0, 0, false) else none))
    else
     (bif Nat.ble 25 pc then (bif Nat.ble 28 pc then (bif Nat.beq pc 28 then some (.aload_n 0, 1, 0, 0, false) else none) else (bif Nat.beq pc 25 then some (.goto 18, 3, 43, 0, false) else none)) else (bif Nat.beq pc 24 then some (.iconst 0, 1, 0, 0, false) else none))))
  else
   (bif Nat.ble 10 pc then
    (bif Nat.ble 17 pc then
     (bif Nat.ble 20 pc then (bif Nat.ble 21 pc then (bif Nat.beq pc 21 then some (.goto 22, 3, 43, 0, false) else none) else (bif Nat.beq pc 20 then some (.iconst 1, 1, 0, 1, false) else none)) else (bif Nat.beq pc 17 then some (.if_icmp .le 7, 3, 24, 0, false) else none))
    else
     (bif Nat.ble 13 pc then (bif Nat.ble 14 pc then (bif Nat.beq pc 14 then some (.getfield 57, 3, 0, 0, false) else none) else (bif Nat.beq pc 13 then some (.aload_n 0, 1, 0, 0, false) else none)) else (bif Nat.beq pc 10 then some (.invokevirtual 166, 3, 0, 0, false) else none)))
   else
    (bif Nat.ble 5 pc then
     (bif Nat.ble 6 pc then (bif Nat.ble 9 pc then (bif Nat.beq pc 9 then some (.aload_n 0, 1, 0, 0, false) else none) else (bif Nat.beq pc 6 then some (.ifCond .ge 22, 3, 28, 0, false) else none)) else (bif Nat.beq pc 5 then some (.iaload, 1, 0, 0, false) else none))
    else
     (bif Nat.ble 1 pc then (bif Nat.ble 4 pc then (bif Nat.beq pc 4 then some (.iload_n 1, 1, 0, 0, false) else none) else (bif Nat.beq pc 1 then some (.getfield 60, 3, 0, 0, false) else none)) else (bif Nat.beq pc 0 then some (.aload_n 0, 1, 0, 0, false) else none)))))
def qX8_findsParts (pc : Nat) : Option mIn :=
  (bif Nat.ble 133 pc then
   (bif Nat.ble 204 pc then
    (bif Nat.ble 236 pc then
     (bif Nat.ble 253 pc then
      (bif Nat.ble 260 pc then
       (bif Nat.ble 266 pc then
        (bif Nat.ble 269 pc then (bif Nat.ble 272 pc then (bif Nat.beq pc 272 then some (.return_, 1, 0, 0, false) else none) else (bif Nat.beq pc 269 then some (.goto (-64), 3, 205, 0, false) else none)) else (bif Nat.beq pc 266 then some (.iinc 1 1, 3, 0, 1, false) else none))
       else
        (bif Nat.ble 263 pc then (bif Nat.beq pc 263 then some (.goto (-49), 3, 214, 0, false) else none) else (bif Nat.beq pc 260 then some (.iinc 2 1, 3, 0, 1, false) else none)))
      else
       (bif Nat.ble 257 pc then
        (bif Nat.ble 258 pc then (bif Nat.ble 259 pc then (bif Nat.beq pc 259 then some (.bastore, 1, 0, 0, false) else none) else (bif Nat.beq pc 258 then some (.iconst 1, 1, 0, 1, false) else none)) else (bif Nat.beq pc 257 then some (.iaload, 1, 0, 0, false) else none))
       else
        (bif Nat.ble 256 pc then (bif Nat.beq pc 256 then some (.iload_n 1, 1, 0, 0, false) else none) else (bif Nat.beq pc 253 then some (.getfield 66, 3, 0, 0, false) else none))))
     else
      (bif Nat.ble 244 pc then
       (bif Nat.ble 248 pc then
        (bif Nat.ble 249 pc then (bif Nat.ble 252 pc then (bif Nat.beq pc 252 then some (.aload_n 0, 1, 0, 0, false) else none) else (bif Nat.beq pc 249 then some (.getfield 69, 3, 0, 0, false) else none)) else (bif Nat.beq pc 248 then some (.aload_n 0, 1, 0, 0, false) else none))
       else
        (bif Nat.ble 245 pc then (bif Nat.beq pc 245 then some (.if_icmp .ne 15, 3, 260, 0, false) else none) else (bif Nat.beq pc 244 then some (.iconst 1, 1, 0, 1, false) else none)))
      else
       (bif Nat.ble 240 pc then (bif Nat.ble 241 pc then (bif Nat.beq pc 241 then some (.invokestatic 170, 3, 0, 0, false) else none) else (bif Nat.beq pc 240 then some (.iload_n 2, 1, 0, 0, false) else none)) else (bif Nat.ble 239 pc then (bif Nat.beq pc 239 then some (.iload_n 1, 1, 0, 0, false) else none) else (bif Nat.beq pc 236 then some (.ifCond .ne 24, 3, 260, 0, false) else none)))))
    else
     (bif Nat.ble 221 pc then
      (bif Nat.ble 227 pc then
       (bif Nat.ble 231 pc then
        (bif Nat.ble 234 pc then (bif Nat.ble 235 pc then (bif Nat.beq pc 235 then some (.iaload, 1, 0, 0, false) else none) else (bif Nat.beq pc 234 then some (.iload_n 2, 1, 0, 0, false) else none)) else (bif Nat.beq pc 231 then some (.getfield 63, 3, 0, 0, false) else none))
       else
        (bif Nat.ble 230 pc then (bif Nat.beq pc 230 then some (.aload_n 0, 1, 0, 0, false) else none) else (bif Nat.beq pc 227 then some (.ifCond .lt 39, 3, 266, 0, false) else none)))
      else
       (bif Nat.ble 225 pc then (bif Nat.ble 226 pc then (bif Nat.beq pc 226 then some (.iaload, 1, 0, 0, false) else none) else (bif Nat.beq pc 225 then some (.iload_n 1, 1, 0, 0, false) else none)) else (bif Nat.ble 222 pc then (bif Nat.beq pc 222 then some (.getfield 66, 3, 0, 0, false) else none) else (bif Nat.beq pc 221 then some (.aload_n 0, 1, 0, 0, false) else none))))
     else
      (bif Nat.ble 212 pc then
       (bif Nat.ble 214 pc then
        (bif Nat.ble 215 pc then (bif Nat.ble 218 pc then (bif Nat.beq pc 218 then some (.if_icmp .ge 48, 3, 266, 0, false) else none) else (bif Nat.beq pc 215 then some (.sipush 144, 3, 0, 144, false) else none)) else (bif Nat.beq pc 214 then some (.iload_n 2, 1, 0, 0, true) else none))
       else
        (bif Nat.ble 213 pc then (bif Nat.beq pc 213 then some (.istore_n 2, 1, 0, 0, false) else none) else (bif Nat.beq pc 212 then some (.iconst 0, 1, 0, 0, false) else none)))
      else
       (bif Nat.ble 206 pc then (bif Nat.ble 209 pc then (bif Nat.beq pc 209 then some (.if_icmp .ge 63, 3, 272, 0, false) else none) else (bif Nat.beq pc 206 then some (.sipush 144, 3, 0, 144, false) else none)) else (bif Nat.ble 205 pc then (bif Nat.beq pc 205 then some (.iload_n 1, 1, 0, 0, true) else none) else (bif Nat.beq pc 204 then some (.istore_n 1, 1, 0, 0, false) else none))))))
   else
    (bif Nat.ble 171 pc then
     (bif Nat.ble 186 pc then
      (bif Nat.ble 195 pc then
       (bif Nat.ble 197 pc then
        (bif Nat.ble 200 pc then (bif Nat.ble 203 pc then (bif Nat.beq pc 203 then some (.iconst 0, 1, 0, 0, false) else none) else (bif Nat.beq pc 200 then some (.goto (-41), 3, 159, 0, false) else none)) else (bif Nat.beq pc 197 then some (.iinc 1 1, 3, 0, 1, false) else none))
       else
        (bif Nat.ble 196 pc then (bif Nat.beq pc 196 then some (.bastore, 1, 0, 0, false) else none) else (bif Nat.beq pc 195 then some (.iconst 0, 1, 0, 0, false) else none)))
      else
       (bif Nat.ble 190 pc then
        (bif Nat.ble 191 pc then (bif Nat.ble 194 pc then (bif Nat.beq pc 194 then some (.iload_n 1, 1, 0, 0, false) else none) else (bif Nat.beq pc 191 then some (.getfield 69, 3, 0, 0, false) else none)) else (bif Nat.beq pc 190 then some (.aload_n 0, 1, 0, 0, false) else none))
       else
        (bif Nat.ble 187 pc then (bif Nat.beq pc 187 then some (.putfield 173, 3, 0, 0, false) else none) else (bif Nat.beq pc 186 then some (.iadd, 1, 0, 0, false) else none))))
     else
      (bif Nat.ble 177 pc then
       (bif Nat.ble 181 pc then
        (bif Nat.ble 182 pc then (bif Nat.ble 185 pc then (bif Nat.beq pc 185 then some (.iconst 0, 1, 0, 0, false) else none) else (bif Nat.beq pc 182 then some (.goto 4, 3, 186, 0, false) else none)) else (bif Nat.beq pc 181 then some (.iconst 1, 1, 0, 1, false) else none))
       else
        (bif Nat.ble 178 pc then (bif Nat.beq pc 178 then some (.if_icmp .ne 7, 3, 185, 0, false) else none) else (bif Nat.beq pc 177 then some (.iload_n 1, 1, 0, 0, false) else none)))
      else
       (bif Nat.ble 175 pc then (bif Nat.ble 176 pc then (bif Nat.beq pc 176 then some (.iaload, 1, 0, 0, false) else none) else (bif Nat.beq pc 175 then some (.iload_n 1, 1, 0, 0, false) else none)) else (bif Nat.ble 172 pc then (bif Nat.beq pc 172 then some (.getfield 66, 3, 0, 0, false) else none) else (bif Nat.beq pc 171 then some (.aload_n 0, 1, 0, 0, false) else none)))))
    else
     (bif Nat.ble 154 pc then
      (bif Nat.ble 160 pc then
       (bif Nat.ble 166 pc then
        (bif Nat.ble 167 pc then (bif Nat.ble 168 pc then (bif Nat.beq pc 168 then some (.getfield 173, 3, 0, 0, false) else none) else (bif Nat.beq pc 167 then some (.dup, 1, 0, 0, false) else none)) else (bif Nat.beq pc 166 then some (.aload_n 0, 1, 0, 0, false) else none))
       else
        (bif Nat.ble 163 pc then (bif Nat.beq pc 163 then some (.if_icmp .ge 40, 3, 203, 0, false) else none) else (bif Nat.beq pc 160 then some (.sipush 144, 3, 0, 144, false) else none)))
      else
       (bif Nat.ble 158 pc then (bif Nat.ble 159 pc then (bif Nat.beq pc 159 then some (.iload_n 1, 1, 0, 0, true) else none) else (bif Nat.beq pc 158 then some (.istore_n 1, 1, 0, 0, false) else none)) else (bif Nat.ble 157 pc then (bif Nat.beq pc 157 then some (.iconst 0, 1, 0, 0, false) else none) else (bif Nat.beq pc 154 then some (.putfield 173, 3, 0, 0, false) else none))))
     else
      (bif Nat.ble 143 pc then
       (bif Nat.ble 149 pc then
        (bif Nat.ble 152 pc then (bif Nat.ble 153 pc then (bif Nat.beq pc 153 then some (.iconst 0, 1, 0, 0, false) else none) else (bif Nat.beq pc 152 then some (.aload_n 0, 1, 0, 0, false) else none)) else (bif Nat.beq pc 149 then some (.goto (-111), 3, 38, 0, false) else none))
       else
        (bif Nat.ble 146 pc then (bif Nat.beq pc 146 then some (.iinc 1 1, 3, 0, 1, false) else none) else (bif Nat.beq pc 143 then some (.goto 9, 3, 152, 0, false) else none)))
      else
       (bif Nat.ble 139 pc then (bif Nat.ble 140 pc then (bif Nat.beq pc 140 then some (.ifCond .ne 6, 3, 146, 0, false) else none) else (bif Nat.beq pc 139 then some (.iload_n 2, 1, 0, 0, false) else none)) else (bif Nat.ble 136 pc then (bif Nat.beq pc 136 then some (.goto (-87), 3, 49, 0, false) else none) else (bif Nat.beq pc 133 then some (.iinc 3 1, 3, 0, 1, false) else none)))))))
  else
   (bif Nat.ble 64 pc then
    (bif Nat.ble 100 pc then
     (bif Nat.ble 116 pc then
      (bif Nat.ble 124 pc then
       (bif Nat.ble 126 pc then
        (bif Nat.ble 127 pc then (bif Nat.ble 130 pc then (bif Nat.beq pc 130 then some (.goto (-71), 3, 59, 0, false) else none) else (bif Nat.beq pc 127 then some (.iinc 4 1, 3, 0, 1, false) else none)) else (bif Nat.beq pc 126 then some (.istore_n 2, 1, 0, 0, false) else none))
       else
        (bif Nat.ble 125 pc then (bif Nat.beq pc 125 then some (.iconst 1, 1, 0, 1, false) else none) else (bif Nat.beq pc 124 then some (.iastore, 1, 0, 0, false) else none)))
      else
       (bif Nat.ble 118 pc then
        (bif Nat.ble 121 pc then (bif Nat.ble 123 pc then (bif Nat.beq pc 123 then some (.iaload, 1, 0, 0, false) else none) else (bif Nat.beq pc 121 then some (.iload 4, 2, 0, 0, false) else none)) else (bif Nat.beq pc 118 then some (.getfield 66, 3, 0, 0, false) else none))
       else
        (bif Nat.ble 117 pc then (bif Nat.beq pc 117 then some (.aload_n 0, 1, 0, 0, false) else none) else (bif Nat.beq pc 116 then some (.iload_n 3, 1, 0, 0, false) else none))))
     else
      (bif Nat.ble 107 pc then
       (bif Nat.ble 109 pc then
        (bif Nat.ble 112 pc then (bif Nat.ble 113 pc then (bif Nat.beq pc 113 then some (.getfield 66, 3, 0, 0, false) else none) else (bif Nat.beq pc 112 then some (.aload_n 0, 1, 0, 0, false) else none)) else (bif Nat.beq pc 109 then some (.if_icmp .ge 18, 3, 127, 0, false) else none))
       else
        (bif Nat.ble 108 pc then (bif Nat.beq pc 108 then some (.iaload, 1, 0, 0, false) else none) else (bif Nat.beq pc 107 then some (.iload_n 3, 1, 0, 0, false) else none)))
      else
       (bif Nat.ble 103 pc then (bif Nat.ble 104 pc then (bif Nat.beq pc 104 then some (.getfield 66, 3, 0, 0, false) else none) else (bif Nat.beq pc 103 then some (.aload_n 0, 1, 0, 0, false) else none)) else (bif Nat.ble 102 pc then (bif Nat.beq pc 102 then some (.iaload, 1, 0, 0, false) else none) else (bif Nat.beq pc 100 then some (.iload 4, 2, 0, 0, false) else none)))))
    else
     (bif Nat.ble 82 pc then
      (bif Nat.ble 89 pc then
       (bif Nat.ble 93 pc then
        (bif Nat.ble 96 pc then (bif Nat.ble 97 pc then (bif Nat.beq pc 97 then some (.getfield 66, 3, 0, 0, false) else none) else (bif Nat.beq pc 96 then some (.aload_n 0, 1, 0, 0, false) else none)) else (bif Nat.beq pc 93 then some (.if_icmp .ne 34, 3, 127, 0, false) else none))
       else
        (bif Nat.ble 92 pc then (bif Nat.beq pc 92 then some (.iconst 1, 1, 0, 1, false) else none) else (bif Nat.beq pc 89 then some (.invokestatic 170, 3, 0, 0, false) else none)))
      else
       (bif Nat.ble 86 pc then (bif Nat.ble 87 pc then (bif Nat.beq pc 87 then some (.iload 4, 2, 0, 0, false) else none) else (bif Nat.beq pc 86 then some (.iload_n 3, 1, 0, 0, false) else none)) else (bif Nat.ble 83 pc then (bif Nat.beq pc 83 then some (.ifCond .lt 44, 3, 127, 0, false) else none) else (bif Nat.beq pc 82 then some (.iaload, 1, 0, 0, false) else none))))
     else
      (bif Nat.ble 72 pc then
       (bif Nat.ble 76 pc then
        (bif Nat.ble 77 pc then (bif Nat.ble 80 pc then (bif Nat.beq pc 80 then some (.iload 4, 2, 0, 0, false) else none) else (bif Nat.beq pc 77 then some (.getfield 66, 3, 0, 0, false) else none)) else (bif Nat.beq pc 76 then some (.aload_n 0, 1, 0, 0, false) else none))
       else
        (bif Nat.ble 73 pc then (bif Nat.beq pc 73 then some (.ifCond .lt 60, 3, 133, 0, false) else none) else (bif Nat.beq pc 72 then some (.iaload, 1, 0, 0, false) else none)))
      else
       (bif Nat.ble 68 pc then (bif Nat.ble 71 pc then (bif Nat.beq pc 71 then some (.iload_n 3, 1, 0, 0, false) else none) else (bif Nat.beq pc 68 then some (.getfield 66, 3, 0, 0, false) else none)) else (bif Nat.ble 67 pc then (bif Nat.beq pc 67 then some (.aload_n 0, 1, 0, 0, false) else none) else (bif Nat.beq pc 64 then some (.if_icmp .ge 69, 3, 133, 0, false) else none))))))
   else
    (bif Nat.ble 30 pc then
     (bif Nat.ble 47 pc then
      (bif Nat.ble 53 pc then
       (bif Nat.ble 57 pc then
        (bif Nat.ble 59 pc then (bif Nat.ble 61 pc then (bif Nat.beq pc 61 then some (.sipush 144, 3, 0, 144, false) else none) else (bif Nat.beq pc 59 then some (.iload 4, 2, 0, 0, true) else none)) else (bif Nat.beq pc 57 then some (.istore 4, 2, 0, 0, false) else none))
       else
        (bif Nat.ble 56 pc then (bif Nat.beq pc 56 then some (.iconst 0, 1, 0, 0, false) else none) else (bif Nat.beq pc 53 then some (.if_icmp .ge 86, 3, 139, 0, false) else none)))
      else
       (bif Nat.ble 49 pc then (bif Nat.ble 50 pc then (bif Nat.beq pc 50 then some (.sipush 144, 3, 0, 144, false) else none) else (bif Nat.beq pc 49 then some (.iload_n 3, 1, 0, 0, true) else none)) else (bif Nat.ble 48 pc then (bif Nat.beq pc 48 then some (.istore_n 3, 1, 0, 0, false) else none) else (bif Nat.beq pc 47 then some (.iconst 0, 1, 0, 0, false) else none))))
     else
      (bif Nat.ble 38 pc then
       (bif Nat.ble 42 pc then
        (bif Nat.ble 45 pc then (bif Nat.ble 46 pc then (bif Nat.beq pc 46 then some (.istore_n 2, 1, 0, 0, false) else none) else (bif Nat.beq pc 45 then some (.iconst 0, 1, 0, 0, false) else none)) else (bif Nat.beq pc 42 then some (.if_icmp .ge 110, 3, 152, 0, false) else none))
       else
        (bif Nat.ble 39 pc then (bif Nat.beq pc 39 then some (.sipush 144, 3, 0, 144, false) else none) else (bif Nat.beq pc 38 then some (.iload_n 1, 1, 0, 0, true) else none)))
      else
       (bif Nat.ble 36 pc then (bif Nat.ble 37 pc then (bif Nat.beq pc 37 then some (.istore_n 1, 1, 0, 0, false) else none) else (bif Nat.beq pc 36 then some (.iconst 0, 1, 0, 0, false) else none)) else (bif Nat.ble 33 pc then (bif Nat.beq pc 33 then some (.goto (-31), 3, 2, 0, false) else none) else (bif Nat.beq pc 30 then some (.iinc 1 1, 3, 0, 1, false) else none)))))
    else
     (bif Nat.ble 15 pc then
      (bif Nat.ble 21 pc then
       (bif Nat.ble 25 pc then
        (bif Nat.ble 28 pc then (bif Nat.ble 29 pc then (bif Nat.beq pc 29 then some (.iastore, 1, 0, 0, false) else none) else (bif Nat.beq pc 28 then some (.iconst (-1), 1, 0, -1, false) else none)) else (bif Nat.beq pc 25 then some (.goto 4, 3, 29, 0, false) else none))
       else
        (bif Nat.ble 24 pc then (bif Nat.beq pc 24 then some (.iload_n 1, 1, 0, 0, false) else none) else (bif Nat.beq pc 21 then some (.if_icmp .ne 7, 3, 28, 0, false) else none)))
      else
       (bif Nat.ble 19 pc then (bif Nat.ble 20 pc then (bif Nat.beq pc 20 then some (.iconst 2, 1, 0, 2, false) else none) else (bif Nat.beq pc 19 then some (.iaload, 1, 0, 0, false) else none)) else (bif Nat.ble 18 pc then (bif Nat.beq pc 18 then some (.iload_n 1, 1, 0, 0, false) else none) else (bif Nat.beq pc 15 then some (.getfield 63, 3, 0, 0, false) else none))))
     else
      (bif Nat.ble 6 pc then
       (bif Nat.ble 10 pc then
        (bif Nat.ble 13 pc then (bif Nat.ble 14 pc then (bif Nat.beq pc 14 then some (.aload_n 0, 1, 0, 0, false) else none) else (bif Nat.beq pc 13 then some (.iload_n 1, 1, 0, 0, false) else none)) else (bif Nat.beq pc 10 then some (.getfield 66, 3, 0, 0, false) else none))
       else
        (bif Nat.ble 9 pc then (bif Nat.beq pc 9 then some (.aload_n 0, 1, 0, 0, false) else none) else (bif Nat.beq pc 6 then some (.if_icmp .ge 30, 3, 36, 0, false) else none)))
      else
       (bif Nat.ble 2 pc then (bif Nat.ble 3 pc then (bif Nat.beq pc 3 then some (.sipush 144, 3, 0, 144, false) else none) else (bif Nat.beq pc 2 then some (.iload_n 1, 1, 0, 0, true) else none)) else (bif Nat.ble 1 pc then (bif Nat.beq pc 1 then some (.istore_n 1, 1, 0, 0, false) else none) else (bif Nat.beq pc 0 then some (.iconst 0, 1, 0, 0, false) else none))))))))
def qX8_nearest (pc : Nat) : Option mIn :=
  (bif Nat.ble 21 pc then
   (bif Nat.ble 34 pc then
    (bif Nat.ble 39 pc then
     (bif Nat.ble 45 pc then (bif Nat.ble 46 pc then (bif Nat.beq pc 46 then some (.ireturn, 1, 0, 0, false) else none) else (bif Nat.beq pc 45 then some (.iload_n 2, 1, 0, 0, false) else none)) else (bif Nat.ble 42 pc then (bif Nat.beq pc 42 then some (.goto (-38), 3, 4, 0, false) else none) else (bif Nat.beq pc 39 then some (.iinc 3 1, 3, 0, 1, false) else none)))
    else
     (bif Nat.ble 37 pc then (bif Nat.ble 38 pc then (bif Nat.beq pc 38 then some (.istore_n 2, 1, 0, 0, false) else none) else (bif Nat.beq pc 37 then some (.iload_n 3, 1, 0, 0, false) else none)) else (bif Nat.beq pc 34 then some (.if_icmp .ge 5, 3, 39, 0, false) else none)))
   else
    (bif Nat.ble 26 pc then
     (bif Nat.ble 30 pc then (bif Nat.ble 31 pc then (bif Nat.beq pc 31 then some (.invokestatic 170, 3, 0, 0, false) else none) else (bif Nat.beq pc 30 then some (.iload_n 2, 1, 0, 0, false) else none)) else (bif Nat.ble 29 pc then (bif Nat.beq pc 29 then some (.iload_n 1, 1, 0, 0, false) else none) else (bif Nat.beq pc 26 then some (.invokestatic 170, 3, 0, 0, false) else none)))
    else
     (bif Nat.ble 24 pc then (bif Nat.ble 25 pc then (bif Nat.beq pc 25 then some (.iload_n 3, 1, 0, 0, false) else none) else (bif Nat.beq pc 24 then some (.iload_n 1, 1, 0, 0, false) else none)) else (bif Nat.beq pc 21 then some (.ifCond .lt 16, 3, 37, 0, false) else none))))
  else
   (bif Nat.ble 8 pc then
    (bif Nat.ble 15 pc then
     (bif Nat.ble 17 pc then (bif Nat.ble 20 pc then (bif Nat.beq pc 20 then some (.iload_n 2, 1, 0, 0, false) else none) else (bif Nat.beq pc 17 then some (.ifCond .ne 22, 3, 39, 0, false) else none)) else (bif Nat.ble 16 pc then (bif Nat.beq pc 16 then some (.iaload, 1, 0, 0, false) else none) else (bif Nat.beq pc 15 then some (.iload_n 3, 1, 0, 0, false) else none)))
    else
     (bif Nat.ble 11 pc then (bif Nat.ble 12 pc then (bif Nat.beq pc 12 then some (.getfield 63, 3, 0, 0, false) else none) else (bif Nat.beq pc 11 then some (.aload_n 0, 1, 0, 0, false) else none)) else (bif Nat.beq pc 8 then some (.if_icmp .ge 37, 3, 45, 0, false) else none)))
   else
    (bif Nat.ble 3 pc then
     (bif Nat.ble 4 pc then (bif Nat.ble 5 pc then (bif Nat.beq pc 5 then some (.sipush 144, 3, 0, 144, false) else none) else (bif Nat.beq pc 4 then some (.iload_n 3, 1, 0, 0, true) else none)) else (bif Nat.beq pc 3 then some (.istore_n 3, 1, 0, 0, false) else none))
    else
     (bif Nat.ble 1 pc then (bif Nat.ble 2 pc then (bif Nat.beq pc 2 then some (.iconst 0, 1, 0, 0, false) else none) else (bif Nat.beq pc 1 then some (.istore_n 2, 1, 0, 0, false) else none)) else (bif Nat.beq pc 0 then some (.iconst (-1), 1, 0, -1, false) else none)))))
def qX8_awayFromPart (pc : Nat) : Option mIn :=
  (bif Nat.ble 22 pc then
   (bif Nat.ble 35 pc then
    (bif Nat.ble 40 pc then
     (bif Nat.ble 46 pc then (bif Nat.ble 47 pc then (bif Nat.beq pc 47 then some (.ireturn, 1, 0, 0, false) else none) else (bif Nat.beq pc 46 then some (.iload_n 3, 1, 0, 0, false) else none)) else (bif Nat.ble 43 pc then (bif Nat.beq pc 43 then some (.goto (-37), 3, 6, 0, false) else none) else (bif Nat.beq pc 40 then some (.iinc 4 1, 3, 0, 1, false) else none)))
    else
     (bif Nat.ble 38 pc then (bif Nat.ble 39 pc then (bif Nat.beq pc 39 then some (.istore_n 3, 1, 0, 0, false) else none) else (bif Nat.beq pc 38 then some (.iload_n 3, 1, 0, 0, false) else none)) else (bif Nat.beq pc 35 then some (.goto 4, 3, 39, 0, false) else none)))
   else
    (bif Nat.ble 28 pc then
     (bif Nat.ble 29 pc then (bif Nat.ble 32 pc then (bif Nat.beq pc 32 then some (.invokestatic 113, 3, 0, 0, false) else none) else (bif Nat.beq pc 29 then some (.invokestatic 170, 3, 0, 0, false) else none)) else (bif Nat.beq pc 28 then some (.iload_n 2, 1, 0, 0, false) else none))
    else
     (bif Nat.ble 25 pc then (bif Nat.ble 26 pc then (bif Nat.beq pc 26 then some (.iload 4, 2, 0, 0, false) else none) else (bif Nat.beq pc 25 then some (.iload_n 3, 1, 0, 0, false) else none)) else (bif Nat.beq pc 22 then some (.if_icmp .ne 16, 3, 38, 0, false) else none))))
  else
   (bif Nat.ble 11 pc then
    (bif Nat.ble 18 pc then
     (bif Nat.ble 20 pc then (bif Nat.ble 21 pc then (bif Nat.beq pc 21 then some (.iload_n 1, 1, 0, 0, false) else none) else (bif Nat.beq pc 20 then some (.iaload, 1, 0, 0, false) else none)) else (bif Nat.beq pc 18 then some (.iload 4, 2, 0, 0, false) else none))
    else
     (bif Nat.ble 14 pc then (bif Nat.ble 15 pc then (bif Nat.beq pc 15 then some (.getfield 66, 3, 0, 0, false) else none) else (bif Nat.beq pc 14 then some (.aload_n 0, 1, 0, 0, false) else none)) else (bif Nat.beq pc 11 then some (.if_icmp .ge 35, 3, 46, 0, false) else none)))
   else
    (bif Nat.ble 4 pc then
     (bif Nat.ble 6 pc then (bif Nat.ble 8 pc then (bif Nat.beq pc 8 then some (.sipush 144, 3, 0, 144, false) else none) else (bif Nat.beq pc 6 then some (.iload 4, 2, 0, 0, true) else none)) else (bif Nat.beq pc 4 then some (.istore 4, 2, 0, 0, false) else none))
    else
     (bif Nat.ble 2 pc then (bif Nat.ble 3 pc then (bif Nat.beq pc 3 then some (.iconst 0, 1, 0, 0, false) else none) else (bif Nat.beq pc 2 then some (.istore_n 3, 1, 0, 0, false) else none)) else (bif Nat.beq pc 0 then some (.bipush 24, 2, 0, 24, false) else none)))))
def qX8_nearestToPart (pc : Nat) : Option mIn :=
  (bif Nat.ble 29 pc then
   (bif Nat.ble 44 pc then
    (bif Nat.ble 52 pc then
     (bif Nat.ble 56 pc then
      (bif Nat.ble 59 pc then (bif Nat.ble 60 pc then (bif Nat.beq pc 60 then some (.ireturn, 1, 0, 0, false) else none) else (bif Nat.beq pc 59 then some (.iload_n 2, 1, 0, 0, false) else none)) else (bif Nat.beq pc 56 then some (.goto (-49), 3, 7, 0, false) else none))
     else
      (bif Nat.ble 53 pc then (bif Nat.beq pc 53 then some (.iinc 4 1, 3, 0, 1, false) else none) else (bif Nat.beq pc 52 then some (.istore_n 3, 1, 0, 0, false) else none)))
    else
     (bif Nat.ble 49 pc then (bif Nat.ble 50 pc then (bif Nat.beq pc 50 then some (.iload 5, 2, 0, 0, false) else none) else (bif Nat.beq pc 49 then some (.istore_n 2, 1, 0, 0, false) else none)) else (bif Nat.ble 47 pc then (bif Nat.beq pc 47 then some (.iload 4, 2, 0, 0, false) else none) else (bif Nat.beq pc 44 then some (.if_icmp .ge 9, 3, 53, 0, false) else none))))
   else
    (bif Nat.ble 37 pc then
     (bif Nat.ble 41 pc then (bif Nat.ble 43 pc then (bif Nat.beq pc 43 then some (.iload_n 3, 1, 0, 0, false) else none) else (bif Nat.beq pc 41 then some (.iload 5, 2, 0, 0, false) else none)) else (bif Nat.ble 38 pc then (bif Nat.beq pc 38 then some (.ifCond .lt 9, 3, 47, 0, false) else none) else (bif Nat.beq pc 37 then some (.iload_n 2, 1, 0, 0, false) else none)))
    else
     (bif Nat.ble 32 pc then (bif Nat.ble 35 pc then (bif Nat.beq pc 35 then some (.istore 5, 2, 0, 0, false) else none) else (bif Nat.beq pc 32 then some (.invokevirtual 176, 3, 0, 0, false) else none)) else (bif Nat.ble 30 pc then (bif Nat.beq pc 30 then some (.iload 4, 2, 0, 0, false) else none) else (bif Nat.beq pc 29 then some (.iload_n 1, 1, 0, 0, false) else none)))))
  else
   (bif Nat.ble 12 pc then
    (bif Nat.ble 21 pc then
     (bif Nat.ble 25 pc then (bif Nat.ble 28 pc then (bif Nat.beq pc 28 then some (.aload_n 0, 1, 0, 0, false) else none) else (bif Nat.beq pc 25 then some (.goto 28, 3, 53, 0, false) else none)) else (bif Nat.ble 22 pc then (bif Nat.beq pc 22 then some (.ifCond .eq 6, 3, 28, 0, false) else none) else (bif Nat.beq pc 21 then some (.iaload, 1, 0, 0, false) else none)))
    else
     (bif Nat.ble 16 pc then (bif Nat.ble 19 pc then (bif Nat.beq pc 19 then some (.iload 4, 2, 0, 0, false) else none) else (bif Nat.beq pc 16 then some (.getfield 63, 3, 0, 0, false) else none)) else (bif Nat.ble 15 pc then (bif Nat.beq pc 15 then some (.aload_n 0, 1, 0, 0, false) else none) else (bif Nat.beq pc 12 then some (.if_icmp .ge 47, 3, 59, 0, false) else none))))
   else
    (bif Nat.ble 4 pc then
     (bif Nat.ble 7 pc then (bif Nat.ble 9 pc then (bif Nat.beq pc 9 then some (.sipush 144, 3, 0, 144, false) else none) else (bif Nat.beq pc 7 then some (.iload 4, 2, 0, 0, true) else none)) else (bif Nat.ble 5 pc then (bif Nat.beq pc 5 then some (.istore 4, 2, 0, 0, false) else none) else (bif Nat.beq pc 4 then some (.iconst 0, 1, 0, 0, false) else none)))
    else
     (bif Nat.ble 2 pc then (bif Nat.ble 3 pc then (bif Nat.beq pc 3 then some (.istore_n 3, 1, 0, 0, false) else none) else (bif Nat.beq pc 2 then some (.iconst 0, 1, 0, 0, false) else none)) else (bif Nat.ble 1 pc then (bif Nat.beq pc 1 then some (.istore_n 2, 1, 0, 0, false) else none) else (bif Nat.beq pc 0 then some (.iconst (-1), 1, 0, -1, false) else none))))))
def qX8_lawIn (pc : Nat) : Option mIn :=
  (bif Nat.ble 24 pc then
   (bif Nat.ble 38 pc then
    (bif Nat.ble 44 pc then
     (bif Nat.ble 50 pc then (bif Nat.ble 51 pc then (bif Nat.beq pc 51 then some (.ireturn, 1, 0, 0, false) else none) else (bif Nat.beq pc 50 then some (.iload_n 2, 1, 0, 0, false) else none)) else (bif Nat.ble 47 pc then (bif Nat.beq pc 47 then some (.goto (-38), 3, 9, 0, false) else none) else (bif Nat.beq pc 44 then some (.iinc 3 (-1), 3, 0, -1, false) else none)))
    else
     (bif Nat.ble 42 pc then (bif Nat.ble 43 pc then (bif Nat.beq pc 43 then some (.istore_n 2, 1, 0, 0, false) else none) else (bif Nat.beq pc 42 then some (.iload_n 3, 1, 0, 0, false) else none)) else (bif Nat.ble 39 pc then (bif Nat.beq pc 39 then some (.if_icmp .le 5, 3, 44, 0, false) else none) else (bif Nat.beq pc 38 then some (.iaload, 1, 0, 0, false) else none))))
   else
    (bif Nat.ble 32 pc then
     (bif Nat.ble 34 pc then (bif Nat.ble 37 pc then (bif Nat.beq pc 37 then some (.iload_n 2, 1, 0, 0, false) else none) else (bif Nat.beq pc 34 then some (.getfield 45, 3, 0, 0, false) else none)) else (bif Nat.ble 33 pc then (bif Nat.beq pc 33 then some (.aload_n 0, 1, 0, 0, false) else none) else (bif Nat.beq pc 32 then some (.iaload, 1, 0, 0, false) else none)))
    else
     (bif Nat.ble 28 pc then (bif Nat.ble 31 pc then (bif Nat.beq pc 31 then some (.iload_n 3, 1, 0, 0, false) else none) else (bif Nat.beq pc 28 then some (.getfield 45, 3, 0, 0, false) else none)) else (bif Nat.ble 27 pc then (bif Nat.beq pc 27 then some (.aload_n 0, 1, 0, 0, false) else none) else (bif Nat.beq pc 24 then some (.ifCond .lt 18, 3, 42, 0, false) else none)))))
  else
   (bif Nat.ble 10 pc then
    (bif Nat.ble 18 pc then
     (bif Nat.ble 20 pc then (bif Nat.ble 23 pc then (bif Nat.beq pc 23 then some (.iload_n 2, 1, 0, 0, false) else none) else (bif Nat.beq pc 20 then some (.if_icmp .gt 24, 3, 44, 0, false) else none)) else (bif Nat.ble 19 pc then (bif Nat.beq pc 19 then some (.iload_n 1, 1, 0, 0, false) else none) else (bif Nat.beq pc 18 then some (.iaload, 1, 0, 0, false) else none)))
    else
     (bif Nat.ble 14 pc then (bif Nat.ble 17 pc then (bif Nat.beq pc 17 then some (.iload_n 3, 1, 0, 0, false) else none) else (bif Nat.beq pc 14 then some (.getfield 45, 3, 0, 0, false) else none)) else (bif Nat.ble 13 pc then (bif Nat.beq pc 13 then some (.aload_n 0, 1, 0, 0, false) else none) else (bif Nat.beq pc 10 then some (.ifCond .lt 40, 3, 50, 0, false) else none))))
   else
    (bif Nat.ble 6 pc then
     (bif Nat.ble 8 pc then (bif Nat.ble 9 pc then (bif Nat.beq pc 9 then some (.iload_n 3, 1, 0, 0, true) else none) else (bif Nat.beq pc 8 then some (.istore_n 3, 1, 0, 0, false) else none)) else (bif Nat.ble 7 pc then (bif Nat.beq pc 7 then some (.isub, 1, 0, 0, false) else none) else (bif Nat.beq pc 6 then some (.iconst 1, 1, 0, 1, false) else none)))
    else
     (bif Nat.ble 2 pc then (bif Nat.ble 3 pc then (bif Nat.beq pc 3 then some (.getfield 138, 3, 0, 0, false) else none) else (bif Nat.beq pc 2 then some (.aload_n 0, 1, 0, 0, false) else none)) else (bif Nat.ble 1 pc then (bif Nat.beq pc 1 then some (.istore_n 2, 1, 0, 0, false) else none) else (bif Nat.beq pc 0 then some (.iconst (-1), 1, 0, -1, false) else none))))))
def qX8_steps (pc : Nat) : Option mIn :=
  (bif Nat.ble 157 pc then
   (bif Nat.ble 247 pc then
    (bif Nat.ble 289 pc then
     (bif Nat.ble 313 pc then
      (bif Nat.ble 323 pc then
       (bif Nat.ble 327 pc then
        (bif Nat.ble 330 pc then (bif Nat.ble 333 pc then (bif Nat.beq pc 333 then some (.return_, 1, 0, 0, false) else none) else (bif Nat.beq pc 330 then some (.goto (-25), 3, 305, 0, false) else none)) else (bif Nat.beq pc 327 then some (.iinc 7 1, 3, 0, 1, false) else none))
       else
        (bif Nat.ble 325 pc then (bif Nat.ble 326 pc then (bif Nat.beq pc 326 then some (.iastore, 1, 0, 0, false) else none) else (bif Nat.beq pc 325 then some (.iaload, 1, 0, 0, false) else none)) else (bif Nat.beq pc 323 then some (.iload 7, 2, 0, 0, false) else none)))
      else
       (bif Nat.ble 317 pc then
        (bif Nat.ble 319 pc then (bif Nat.ble 320 pc then (bif Nat.beq pc 320 then some (.getfield 75, 3, 0, 0, false) else none) else (bif Nat.beq pc 319 then some (.aload_n 0, 1, 0, 0, false) else none)) else (bif Nat.beq pc 317 then some (.iload 7, 2, 0, 0, false) else none))
       else
        (bif Nat.ble 314 pc then (bif Nat.beq pc 314 then some (.getfield 72, 3, 0, 0, false) else none) else (bif Nat.beq pc 313 then some (.aload_n 0, 1, 0, 0, false) else none))))
     else
      (bif Nat.ble 299 pc then
       (bif Nat.ble 305 pc then
        (bif Nat.ble 307 pc then (bif Nat.ble 310 pc then (bif Nat.beq pc 310 then some (.if_icmp .ge 23, 3, 333, 0, false) else none) else (bif Nat.beq pc 307 then some (.sipush 144, 3, 0, 144, false) else none)) else (bif Nat.beq pc 305 then some (.iload 7, 2, 0, 0, true) else none))
       else
        (bif Nat.ble 302 pc then (bif Nat.ble 303 pc then (bif Nat.beq pc 303 then some (.istore 7, 2, 0, 0, false) else none) else (bif Nat.beq pc 302 then some (.iconst 0, 1, 0, 0, false) else none)) else (bif Nat.beq pc 299 then some (.goto (-199), 3, 100, 0, false) else none)))
      else
       (bif Nat.ble 294 pc then
        (bif Nat.ble 295 pc then (bif Nat.ble 296 pc then (bif Nat.beq pc 296 then some (.iinc 7 1, 3, 0, 1, false) else none) else (bif Nat.beq pc 295 then some (.iastore, 1, 0, 0, false) else none)) else (bif Nat.beq pc 294 then some (.iaload, 1, 0, 0, false) else none))
       else
        (bif Nat.ble 292 pc then (bif Nat.beq pc 292 then some (.iload 7, 2, 0, 0, false) else none) else (bif Nat.beq pc 289 then some (.getfield 72, 3, 0, 0, false) else none)))))
    else
     (bif Nat.ble 268 pc then
      (bif Nat.ble 278 pc then
       (bif Nat.ble 284 pc then
        (bif Nat.ble 285 pc then (bif Nat.ble 288 pc then (bif Nat.beq pc 288 then some (.aload_n 0, 1, 0, 0, false) else none) else (bif Nat.beq pc 285 then some (.goto 10, 3, 295, 0, false) else none)) else (bif Nat.beq pc 284 then some (.iconst (-1), 1, 0, -1, false) else none))
       else
        (bif Nat.ble 280 pc then (bif Nat.ble 281 pc then (bif Nat.beq pc 281 then some (.if_icmp .ne 7, 3, 288, 0, false) else none) else (bif Nat.beq pc 280 then some (.iconst 1, 1, 0, 1, false) else none)) else (bif Nat.beq pc 278 then some (.iload 6, 2, 0, 0, false) else none)))
      else
       (bif Nat.ble 272 pc then
        (bif Nat.ble 273 pc then (bif Nat.ble 276 pc then (bif Nat.beq pc 276 then some (.iload 7, 2, 0, 0, false) else none) else (bif Nat.beq pc 273 then some (.getfield 75, 3, 0, 0, false) else none)) else (bif Nat.beq pc 272 then some (.aload_n 0, 1, 0, 0, false) else none))
       else
        (bif Nat.ble 269 pc then (bif Nat.beq pc 269 then some (.goto 27, 3, 296, 0, false) else none) else (bif Nat.beq pc 268 then some (.iastore, 1, 0, 0, false) else none))))
     else
      (bif Nat.ble 257 pc then
       (bif Nat.ble 264 pc then
        (bif Nat.ble 266 pc then (bif Nat.ble 267 pc then (bif Nat.beq pc 267 then some (.iaload, 1, 0, 0, false) else none) else (bif Nat.beq pc 266 then some (.iaload, 1, 0, 0, false) else none)) else (bif Nat.beq pc 264 then some (.iload 7, 2, 0, 0, false) else none))
       else
        (bif Nat.ble 260 pc then (bif Nat.ble 261 pc then (bif Nat.beq pc 261 then some (.getfield 66, 3, 0, 0, false) else none) else (bif Nat.beq pc 260 then some (.aload_n 0, 1, 0, 0, false) else none)) else (bif Nat.beq pc 257 then some (.getfield 75, 3, 0, 0, false) else none)))
      else
       (bif Nat.ble 252 pc then
        (bif Nat.ble 253 pc then (bif Nat.ble 256 pc then (bif Nat.beq pc 256 then some (.aload_n 0, 1, 0, 0, false) else none) else (bif Nat.beq pc 253 then some (.goto 15, 3, 268, 0, false) else none)) else (bif Nat.beq pc 252 then some (.iconst (-1), 1, 0, -1, false) else none))
       else
        (bif Nat.ble 249 pc then (bif Nat.beq pc 249 then some (.if_icmp .ne 7, 3, 256, 0, false) else none) else (bif Nat.beq pc 247 then some (.iload 7, 2, 0, 0, false) else none))))))
   else
    (bif Nat.ble 202 pc then
     (bif Nat.ble 225 pc then
      (bif Nat.ble 235 pc then
       (bif Nat.ble 241 pc then
        (bif Nat.ble 244 pc then (bif Nat.ble 246 pc then (bif Nat.beq pc 246 then some (.iaload, 1, 0, 0, false) else none) else (bif Nat.beq pc 244 then some (.iload 7, 2, 0, 0, false) else none)) else (bif Nat.beq pc 241 then some (.getfield 66, 3, 0, 0, false) else none))
       else
        (bif Nat.ble 237 pc then (bif Nat.ble 240 pc then (bif Nat.beq pc 240 then some (.aload_n 0, 1, 0, 0, false) else none) else (bif Nat.beq pc 237 then some (.ifCond .ne 15, 3, 252, 0, false) else none)) else (bif Nat.beq pc 235 then some (.iload 8, 2, 0, 0, false) else none)))
      else
       (bif Nat.ble 229 pc then
        (bif Nat.ble 231 pc then (bif Nat.ble 232 pc then (bif Nat.beq pc 232 then some (.goto 36, 3, 268, 0, false) else none) else (bif Nat.beq pc 231 then some (.iaload, 1, 0, 0, false) else none)) else (bif Nat.beq pc 229 then some (.iload 9, 2, 0, 0, false) else none))
       else
        (bif Nat.ble 226 pc then (bif Nat.beq pc 226 then some (.getfield 72, 3, 0, 0, false) else none) else (bif Nat.beq pc 225 then some (.aload_n 0, 1, 0, 0, false) else none))))
     else
      (bif Nat.ble 212 pc then
       (bif Nat.ble 218 pc then
        (bif Nat.ble 220 pc then (bif Nat.ble 222 pc then (bif Nat.beq pc 222 then some (.ifCond .lt 13, 3, 235, 0, false) else none) else (bif Nat.beq pc 220 then some (.iload 9, 2, 0, 0, false) else none)) else (bif Nat.beq pc 218 then some (.iload 7, 2, 0, 0, false) else none))
       else
        (bif Nat.ble 214 pc then (bif Nat.ble 215 pc then (bif Nat.beq pc 215 then some (.getfield 75, 3, 0, 0, false) else none) else (bif Nat.beq pc 214 then some (.aload_n 0, 1, 0, 0, false) else none)) else (bif Nat.beq pc 212 then some (.istore 9, 2, 0, 0, false) else none)))
      else
       (bif Nat.ble 205 pc then
        (bif Nat.ble 208 pc then (bif Nat.ble 211 pc then (bif Nat.beq pc 211 then some (.iconst (-1), 1, 0, -1, false) else none) else (bif Nat.beq pc 208 then some (.goto 4, 3, 212, 0, false) else none)) else (bif Nat.beq pc 205 then some (.invokevirtual 195, 3, 0, 0, false) else none))
       else
        (bif Nat.ble 203 pc then (bif Nat.beq pc 203 then some (.iload 7, 2, 0, 0, false) else none) else (bif Nat.beq pc 202 then some (.aload_n 0, 1, 0, 0, false) else none)))))
    else
     (bif Nat.ble 178 pc then
      (bif Nat.ble 190 pc then
       (bif Nat.ble 196 pc then
        (bif Nat.ble 197 pc then (bif Nat.ble 199 pc then (bif Nat.beq pc 199 then some (.if_icmp .ne 12, 3, 211, 0, false) else none) else (bif Nat.beq pc 197 then some (.iload 7, 2, 0, 0, false) else none)) else (bif Nat.beq pc 196 then some (.iaload, 1, 0, 0, false) else none))
       else
        (bif Nat.ble 191 pc then (bif Nat.ble 194 pc then (bif Nat.beq pc 194 then some (.iload 7, 2, 0, 0, false) else none) else (bif Nat.beq pc 191 then some (.getfield 66, 3, 0, 0, false) else none)) else (bif Nat.beq pc 190 then some (.aload_n 0, 1, 0, 0, false) else none)))
      else
       (bif Nat.ble 182 pc then
        (bif Nat.ble 184 pc then (bif Nat.ble 187 pc then (bif Nat.beq pc 187 then some (.goto 25, 3, 212, 0, false) else none) else (bif Nat.beq pc 184 then some (.invokevirtual 192, 3, 0, 0, false) else none)) else (bif Nat.beq pc 182 then some (.iload 7, 2, 0, 0, false) else none))
       else
        (bif Nat.ble 181 pc then (bif Nat.beq pc 181 then some (.aload_n 0, 1, 0, 0, false) else none) else (bif Nat.beq pc 178 then some (.ifCond .eq 12, 3, 190, 0, false) else none))))
     else
      (bif Nat.ble 166 pc then
       (bif Nat.ble 171 pc then
        (bif Nat.ble 173 pc then (bif Nat.ble 176 pc then (bif Nat.beq pc 176 then some (.iload 8, 2, 0, 0, false) else none) else (bif Nat.beq pc 173 then some (.ifCond .ne 99, 3, 272, 0, false) else none)) else (bif Nat.beq pc 171 then some (.iload 6, 2, 0, 0, false) else none))
       else
        (bif Nat.ble 168 pc then (bif Nat.beq pc 168 then some (.ifCond .ne 8, 3, 176, 0, false) else none) else (bif Nat.beq pc 166 then some (.iload 8, 2, 0, 0, false) else none)))
      else
       (bif Nat.ble 162 pc then
        (bif Nat.ble 163 pc then (bif Nat.ble 164 pc then (bif Nat.beq pc 164 then some (.istore 8, 2, 0, 0, false) else none) else (bif Nat.beq pc 163 then some (.baload, 1, 0, 0, false) else none)) else (bif Nat.beq pc 162 then some (.iaload, 1, 0, 0, false) else none))
       else
        (bif Nat.ble 160 pc then (bif Nat.beq pc 160 then some (.iload 7, 2, 0, 0, false) else none) else (bif Nat.beq pc 157 then some (.getfield 66, 3, 0, 0, false) else none)))))))
  else
   (bif Nat.ble 78 pc then
    (bif Nat.ble 120 pc then
     (bif Nat.ble 139 pc then
      (bif Nat.ble 147 pc then
       (bif Nat.ble 152 pc then
        (bif Nat.ble 153 pc then (bif Nat.ble 156 pc then (bif Nat.beq pc 156 then some (.aload_n 0, 1, 0, 0, false) else none) else (bif Nat.beq pc 153 then some (.getfield 69, 3, 0, 0, false) else none)) else (bif Nat.beq pc 152 then some (.aload_n 0, 1, 0, 0, false) else none))
       else
        (bif Nat.ble 148 pc then (bif Nat.ble 149 pc then (bif Nat.beq pc 149 then some (.if_icmp .ne 147, 3, 296, 0, false) else none) else (bif Nat.beq pc 148 then some (.iconst 2, 1, 0, 2, false) else none)) else (bif Nat.beq pc 147 then some (.iaload, 1, 0, 0, false) else none)))
      else
       (bif Nat.ble 141 pc then
        (bif Nat.ble 142 pc then (bif Nat.ble 145 pc then (bif Nat.beq pc 145 then some (.iload 7, 2, 0, 0, false) else none) else (bif Nat.beq pc 142 then some (.getfield 63, 3, 0, 0, false) else none)) else (bif Nat.beq pc 141 then some (.aload_n 0, 1, 0, 0, false) else none))
       else
        (bif Nat.ble 140 pc then (bif Nat.beq pc 140 then some (.iastore, 1, 0, 0, false) else none) else (bif Nat.beq pc 139 then some (.iconst (-1), 1, 0, -1, false) else none))))
     else
      (bif Nat.ble 128 pc then
       (bif Nat.ble 133 pc then
        (bif Nat.ble 134 pc then (bif Nat.ble 137 pc then (bif Nat.beq pc 137 then some (.iload 7, 2, 0, 0, false) else none) else (bif Nat.beq pc 134 then some (.getfield 75, 3, 0, 0, false) else none)) else (bif Nat.beq pc 133 then some (.aload_n 0, 1, 0, 0, false) else none))
       else
        (bif Nat.ble 129 pc then (bif Nat.ble 130 pc then (bif Nat.beq pc 130 then some (.if_icmp .ne 11, 3, 141, 0, false) else none) else (bif Nat.beq pc 129 then some (.iconst 1, 1, 0, 1, false) else none)) else (bif Nat.beq pc 128 then some (.iaload, 1, 0, 0, false) else none)))
      else
       (bif Nat.ble 122 pc then
        (bif Nat.ble 123 pc then (bif Nat.ble 126 pc then (bif Nat.beq pc 126 then some (.iload 7, 2, 0, 0, false) else none) else (bif Nat.beq pc 123 then some (.getfield 63, 3, 0, 0, false) else none)) else (bif Nat.beq pc 122 then some (.aload_n 0, 1, 0, 0, false) else none))
       else
        (bif Nat.ble 121 pc then (bif Nat.beq pc 121 then some (.iastore, 1, 0, 0, false) else none) else (bif Nat.beq pc 120 then some (.iaload, 1, 0, 0, false) else none)))))
    else
     (bif Nat.ble 97 pc then
      (bif Nat.ble 108 pc then
       (bif Nat.ble 114 pc then
        (bif Nat.ble 115 pc then (bif Nat.ble 118 pc then (bif Nat.beq pc 118 then some (.iload 7, 2, 0, 0, false) else none) else (bif Nat.beq pc 115 then some (.getfield 72, 3, 0, 0, false) else none)) else (bif Nat.beq pc 114 then some (.aload_n 0, 1, 0, 0, false) else none))
       else
        (bif Nat.ble 109 pc then (bif Nat.ble 112 pc then (bif Nat.beq pc 112 then some (.iload 7, 2, 0, 0, false) else none) else (bif Nat.beq pc 109 then some (.getfield 75, 3, 0, 0, false) else none)) else (bif Nat.beq pc 108 then some (.aload_n 0, 1, 0, 0, false) else none)))
      else
       (bif Nat.ble 100 pc then
        (bif Nat.ble 102 pc then (bif Nat.ble 105 pc then (bif Nat.beq pc 105 then some (.if_icmp .ge 197, 3, 302, 0, false) else none) else (bif Nat.beq pc 102 then some (.sipush 144, 3, 0, 144, false) else none)) else (bif Nat.beq pc 100 then some (.iload 7, 2, 0, 0, true) else none))
       else
        (bif Nat.ble 98 pc then (bif Nat.beq pc 98 then some (.istore 7, 2, 0, 0, false) else none) else (bif Nat.beq pc 97 then some (.iconst 0, 1, 0, 0, false) else none))))
     else
      (bif Nat.ble 89 pc then
       (bif Nat.ble 93 pc then
        (bif Nat.ble 94 pc then (bif Nat.ble 95 pc then (bif Nat.beq pc 95 then some (.istore 6, 2, 0, 0, false) else none) else (bif Nat.beq pc 94 then some (.iaload, 1, 0, 0, false) else none)) else (bif Nat.beq pc 93 then some (.iload_n 3, 1, 0, 0, false) else none))
       else
        (bif Nat.ble 90 pc then (bif Nat.beq pc 90 then some (.getfield 54, 3, 0, 0, false) else none) else (bif Nat.beq pc 89 then some (.aload_n 0, 1, 0, 0, false) else none)))
      else
       (bif Nat.ble 82 pc then
        (bif Nat.ble 85 pc then (bif Nat.ble 86 pc then (bif Nat.beq pc 86 then some (.goto 9, 3, 95, 0, false) else none) else (bif Nat.beq pc 85 then some (.iconst 0, 1, 0, 0, false) else none)) else (bif Nat.beq pc 82 then some (.ifCond .ge 7, 3, 89, 0, false) else none))
       else
        (bif Nat.ble 81 pc then (bif Nat.beq pc 81 then some (.iload_n 3, 1, 0, 0, false) else none) else (bif Nat.beq pc 78 then some (.invokevirtual 189, 3, 0, 0, false) else none))))))
   else
    (bif Nat.ble 36 pc then
     (bif Nat.ble 59 pc then
      (bif Nat.ble 68 pc then
       (bif Nat.ble 73 pc then
        (bif Nat.ble 76 pc then (bif Nat.ble 77 pc then (bif Nat.beq pc 77 then some (.aload_n 0, 1, 0, 0, false) else none) else (bif Nat.beq pc 76 then some (.return_, 1, 0, 0, false) else none)) else (bif Nat.beq pc 73 then some (.ifCond .ne 4, 3, 77, 0, false) else none))
       else
        (bif Nat.ble 69 pc then (bif Nat.ble 71 pc then (bif Nat.beq pc 71 then some (.iload 5, 2, 0, 0, false) else none) else (bif Nat.beq pc 69 then some (.istore 5, 2, 0, 0, false) else none)) else (bif Nat.beq pc 68 then some (.iaload, 1, 0, 0, false) else none)))
      else
       (bif Nat.ble 63 pc then
        (bif Nat.ble 64 pc then (bif Nat.ble 67 pc then (bif Nat.beq pc 67 then some (.iload_n 3, 1, 0, 0, false) else none) else (bif Nat.beq pc 64 then some (.getfield 48, 3, 0, 0, false) else none)) else (bif Nat.beq pc 63 then some (.aload_n 0, 1, 0, 0, false) else none))
       else
        (bif Nat.ble 60 pc then (bif Nat.beq pc 60 then some (.goto 9, 3, 69, 0, false) else none) else (bif Nat.beq pc 59 then some (.iaload, 1, 0, 0, false) else none))))
     else
      (bif Nat.ble 46 pc then
       (bif Nat.ble 54 pc then
        (bif Nat.ble 55 pc then (bif Nat.ble 58 pc then (bif Nat.beq pc 58 then some (.iload_n 3, 1, 0, 0, false) else none) else (bif Nat.beq pc 55 then some (.getfield 51, 3, 0, 0, false) else none)) else (bif Nat.beq pc 54 then some (.aload_n 0, 1, 0, 0, false) else none))
       else
        (bif Nat.ble 49 pc then (bif Nat.ble 51 pc then (bif Nat.beq pc 51 then some (.ifCond .eq 12, 3, 63, 0, false) else none) else (bif Nat.beq pc 49 then some (.iload 4, 2, 0, 0, false) else none)) else (bif Nat.beq pc 46 then some (.goto 23, 3, 69, 0, false) else none)))
      else
       (bif Nat.ble 41 pc then
        (bif Nat.ble 42 pc then (bif Nat.ble 45 pc then (bif Nat.beq pc 45 then some (.iconst 1, 1, 0, 1, false) else none) else (bif Nat.beq pc 42 then some (.goto 27, 3, 69, 0, false) else none)) else (bif Nat.beq pc 41 then some (.iconst 0, 1, 0, 0, false) else none))
       else
        (bif Nat.ble 38 pc then (bif Nat.beq pc 38 then some (.ifCond .eq 7, 3, 45, 0, false) else none) else (bif Nat.beq pc 36 then some (.iload 4, 2, 0, 0, false) else none)))))
    else
     (bif Nat.ble 16 pc then
      (bif Nat.ble 25 pc then
       (bif Nat.ble 30 pc then
        (bif Nat.ble 32 pc then (bif Nat.ble 33 pc then (bif Nat.beq pc 33 then some (.ifCond .ge 16, 3, 49, 0, false) else none) else (bif Nat.beq pc 32 then some (.iload_n 3, 1, 0, 0, false) else none)) else (bif Nat.beq pc 30 then some (.istore 4, 2, 0, 0, false) else none))
       else
        (bif Nat.ble 26 pc then (bif Nat.ble 29 pc then (bif Nat.beq pc 29 then some (.iconst 0, 1, 0, 0, false) else none) else (bif Nat.beq pc 26 then some (.goto 4, 3, 30, 0, false) else none)) else (bif Nat.beq pc 25 then some (.iconst 1, 1, 0, 1, false) else none)))
      else
       (bif Nat.ble 18 pc then
        (bif Nat.ble 21 pc then (bif Nat.ble 22 pc then (bif Nat.beq pc 22 then some (.if_icmp .eq 7, 3, 29, 0, false) else none) else (bif Nat.beq pc 21 then some (.iload_n 2, 1, 0, 0, false) else none)) else (bif Nat.beq pc 18 then some (.invokevirtual 186, 3, 0, 0, false) else none))
       else
        (bif Nat.ble 17 pc then (bif Nat.beq pc 17 then some (.iload_n 1, 1, 0, 0, false) else none) else (bif Nat.beq pc 16 then some (.aload_n 0, 1, 0, 0, false) else none))))
     else
      (bif Nat.ble 7 pc then
       (bif Nat.ble 11 pc then
        (bif Nat.ble 12 pc then (bif Nat.ble 15 pc then (bif Nat.beq pc 15 then some (.istore_n 3, 1, 0, 0, false) else none) else (bif Nat.beq pc 12 then some (.invokevirtual 183, 3, 0, 0, false) else none)) else (bif Nat.beq pc 11 then some (.iaload, 1, 0, 0, false) else none))
       else
        (bif Nat.ble 10 pc then (bif Nat.beq pc 10 then some (.iload_n 1, 1, 0, 0, false) else none) else (bif Nat.beq pc 7 then some (.getfield 19, 3, 0, 0, false) else none)))
      else
       (bif Nat.ble 2 pc then
        (bif Nat.ble 5 pc then (bif Nat.ble 6 pc then (bif Nat.beq pc 6 then some (.aload_n 0, 1, 0, 0, false) else none) else (bif Nat.beq pc 5 then some (.aload_n 0, 1, 0, 0, false) else none)) else (bif Nat.beq pc 2 then some (.invokevirtual 179, 3, 0, 0, false) else none))
       else
        (bif Nat.ble 1 pc then (bif Nat.beq pc 1 then some (.iload_n 1, 1, 0, 0, false) else none) else (bif Nat.beq pc 0 then some (.aload_n 0, 1, 0, 0, false) else none))))))))
def qX8_begins (pc : Nat) : Option mIn :=
  (bif Nat.ble 14 pc then
   (bif Nat.ble 20 pc then
    (bif Nat.ble 24 pc then (bif Nat.ble 27 pc then (bif Nat.beq pc 27 then some (.return_, 1, 0, 0, false) else none) else (bif Nat.beq pc 24 then some (.goto (-22), 3, 2, 0, false) else none)) else (bif Nat.ble 21 pc then (bif Nat.beq pc 21 then some (.iinc 1 1, 3, 0, 1, false) else none) else (bif Nat.beq pc 20 then some (.iastore, 1, 0, 0, false) else none)))
   else
    (bif Nat.ble 18 pc then (bif Nat.ble 19 pc then (bif Nat.beq pc 19 then some (.iaload, 1, 0, 0, false) else none) else (bif Nat.beq pc 18 then some (.iload_n 1, 1, 0, 0, false) else none)) else (bif Nat.ble 15 pc then (bif Nat.beq pc 15 then some (.getfield 27, 3, 0, 0, false) else none) else (bif Nat.beq pc 14 then some (.aload_n 0, 1, 0, 0, false) else none))))
  else
   (bif Nat.ble 6 pc then
    (bif Nat.ble 10 pc then (bif Nat.ble 13 pc then (bif Nat.beq pc 13 then some (.iload_n 1, 1, 0, 0, false) else none) else (bif Nat.beq pc 10 then some (.getfield 72, 3, 0, 0, false) else none)) else (bif Nat.ble 9 pc then (bif Nat.beq pc 9 then some (.aload_n 0, 1, 0, 0, false) else none) else (bif Nat.beq pc 6 then some (.if_icmp .ge 21, 3, 27, 0, false) else none)))
   else
    (bif Nat.ble 2 pc then (bif Nat.ble 3 pc then (bif Nat.beq pc 3 then some (.sipush 144, 3, 0, 144, false) else none) else (bif Nat.beq pc 2 then some (.iload_n 1, 1, 0, 0, true) else none)) else (bif Nat.ble 1 pc then (bif Nat.beq pc 1 then some (.istore_n 1, 1, 0, 0, false) else none) else (bif Nat.beq pc 0 then some (.iconst 0, 1, 0, 0, false) else none)))))
def qX8_stepIn (pc : Nat) : Option mIn :=
  (bif Nat.ble 15 pc then
   (bif Nat.ble 21 pc then
    (bif Nat.ble 25 pc then
     (bif Nat.ble 28 pc then (bif Nat.ble 29 pc then (bif Nat.beq pc 29 then some (.ireturn, 1, 0, 0, false) else none) else (bif Nat.beq pc 28 then some (.iconst (-1), 1, 0, -1, false) else none)) else (bif Nat.beq pc 25 then some (.goto (-23), 3, 2, 0, false) else none))
    else
     (bif Nat.ble 22 pc then (bif Nat.beq pc 22 then some (.iinc 2 1, 3, 0, 1, false) else none) else (bif Nat.beq pc 21 then some (.ireturn, 1, 0, 0, false) else none)))
   else
    (bif Nat.ble 17 pc then (bif Nat.ble 20 pc then (bif Nat.beq pc 20 then some (.iload_n 2, 1, 0, 0, false) else none) else (bif Nat.beq pc 17 then some (.if_icmp .ne 5, 3, 22, 0, false) else none)) else (bif Nat.ble 16 pc then (bif Nat.beq pc 16 then some (.iload_n 1, 1, 0, 0, false) else none) else (bif Nat.beq pc 15 then some (.iaload, 1, 0, 0, false) else none))))
  else
   (bif Nat.ble 4 pc then
    (bif Nat.ble 10 pc then
     (bif Nat.ble 11 pc then (bif Nat.ble 14 pc then (bif Nat.beq pc 14 then some (.iload_n 2, 1, 0, 0, false) else none) else (bif Nat.beq pc 11 then some (.getfield 19, 3, 0, 0, false) else none)) else (bif Nat.beq pc 10 then some (.aload_n 0, 1, 0, 0, false) else none))
    else
     (bif Nat.ble 7 pc then (bif Nat.beq pc 7 then some (.if_icmp .ge 21, 3, 28, 0, false) else none) else (bif Nat.beq pc 4 then some (.getfield 90, 3, 0, 0, false) else none)))
   else
    (bif Nat.ble 2 pc then (bif Nat.ble 3 pc then (bif Nat.beq pc 3 then some (.aload_n 0, 1, 0, 0, false) else none) else (bif Nat.beq pc 2 then some (.iload_n 2, 1, 0, 0, true) else none)) else (bif Nat.ble 1 pc then (bif Nat.beq pc 1 then some (.istore_n 2, 1, 0, 0, false) else none) else (bif Nat.beq pc 0 then some (.iconst 1, 1, 0, 1, false) else none)))))
def qX8_deedsIn (pc : Nat) : Option mIn :=
  (bif Nat.ble 63 pc then
   (bif Nat.ble 100 pc then
    (bif Nat.ble 117 pc then
     (bif Nat.ble 124 pc then
      (bif Nat.ble 130 pc then
       (bif Nat.ble 133 pc then (bif Nat.ble 136 pc then (bif Nat.beq pc 136 then some (.return_, 1, 0, 0, false) else none) else (bif Nat.beq pc 133 then some (.goto (-125), 3, 8, 0, false) else none)) else (bif Nat.beq pc 130 then some (.iinc 3 1, 3, 0, 1, false) else none))
      else
       (bif Nat.ble 127 pc then (bif Nat.beq pc 127 then some (.goto (-86), 3, 41, 0, false) else none) else (bif Nat.beq pc 124 then some (.iinc 4 1, 3, 0, 1, false) else none)))
     else
      (bif Nat.ble 122 pc then (bif Nat.ble 123 pc then (bif Nat.beq pc 123 then some (.iastore, 1, 0, 0, false) else none) else (bif Nat.beq pc 122 then some (.iaload, 1, 0, 0, false) else none)) else (bif Nat.ble 120 pc then (bif Nat.beq pc 120 then some (.iload 4, 2, 0, 0, false) else none) else (bif Nat.beq pc 117 then some (.getfield 72, 3, 0, 0, false) else none))))
    else
     (bif Nat.ble 108 pc then
      (bif Nat.ble 112 pc then
       (bif Nat.ble 113 pc then (bif Nat.ble 116 pc then (bif Nat.beq pc 116 then some (.aload_n 0, 1, 0, 0, false) else none) else (bif Nat.beq pc 113 then some (.goto 10, 3, 123, 0, false) else none)) else (bif Nat.beq pc 112 then some (.iaload, 1, 0, 0, false) else none))
      else
       (bif Nat.ble 111 pc then (bif Nat.beq pc 111 then some (.iload_n 3, 1, 0, 0, false) else none) else (bif Nat.beq pc 108 then some (.getfield 36, 3, 0, 0, false) else none)))
     else
      (bif Nat.ble 104 pc then (bif Nat.ble 107 pc then (bif Nat.beq pc 107 then some (.aload_n 0, 1, 0, 0, false) else none) else (bif Nat.beq pc 104 then some (.ifCond .eq 12, 3, 116, 0, false) else none)) else (bif Nat.ble 102 pc then (bif Nat.beq pc 102 then some (.iload 5, 2, 0, 0, false) else none) else (bif Nat.beq pc 100 then some (.iload 4, 2, 0, 0, false) else none)))))
   else
    (bif Nat.ble 83 pc then
     (bif Nat.ble 90 pc then
      (bif Nat.ble 94 pc then
       (bif Nat.ble 96 pc then (bif Nat.ble 97 pc then (bif Nat.beq pc 97 then some (.getfield 72, 3, 0, 0, false) else none) else (bif Nat.beq pc 96 then some (.aload_n 0, 1, 0, 0, false) else none)) else (bif Nat.beq pc 94 then some (.istore 5, 2, 0, 0, false) else none))
      else
       (bif Nat.ble 93 pc then (bif Nat.beq pc 93 then some (.iconst 0, 1, 0, 0, false) else none) else (bif Nat.beq pc 90 then some (.goto 4, 3, 94, 0, false) else none)))
     else
      (bif Nat.ble 86 pc then (bif Nat.ble 89 pc then (bif Nat.beq pc 89 then some (.iconst 1, 1, 0, 1, false) else none) else (bif Nat.beq pc 86 then some (.ifCond .lt 7, 3, 93, 0, false) else none)) else (bif Nat.ble 85 pc then (bif Nat.beq pc 85 then some (.iaload, 1, 0, 0, false) else none) else (bif Nat.beq pc 83 then some (.iload 4, 2, 0, 0, false) else none))))
    else
     (bif Nat.ble 71 pc then
      (bif Nat.ble 76 pc then
       (bif Nat.ble 79 pc then (bif Nat.ble 80 pc then (bif Nat.beq pc 80 then some (.getfield 72, 3, 0, 0, false) else none) else (bif Nat.beq pc 79 then some (.aload_n 0, 1, 0, 0, false) else none)) else (bif Nat.beq pc 76 then some (.ifCond .ne 17, 3, 93, 0, false) else none))
      else
       (bif Nat.ble 73 pc then (bif Nat.beq pc 73 then some (.invokevirtual 151, 3, 0, 0, false) else none) else (bif Nat.beq pc 71 then some (.iload 4, 2, 0, 0, false) else none)))
     else
      (bif Nat.ble 69 pc then (bif Nat.ble 70 pc then (bif Nat.beq pc 70 then some (.iload_n 2, 1, 0, 0, false) else none) else (bif Nat.beq pc 69 then some (.aload_n 0, 1, 0, 0, false) else none)) else (bif Nat.ble 66 pc then (bif Nat.beq pc 66 then some (.ifCond .eq 27, 3, 93, 0, false) else none) else (bif Nat.beq pc 63 then some (.invokestatic 134, 3, 0, 0, false) else none))))))
  else
   (bif Nat.ble 30 pc then
    (bif Nat.ble 49 pc then
     (bif Nat.ble 56 pc then
      (bif Nat.ble 58 pc then
       (bif Nat.ble 61 pc then (bif Nat.ble 62 pc then (bif Nat.beq pc 62 then some (.iaload, 1, 0, 0, false) else none) else (bif Nat.beq pc 61 then some (.iload_n 3, 1, 0, 0, false) else none)) else (bif Nat.beq pc 58 then some (.getfield 33, 3, 0, 0, false) else none))
      else
       (bif Nat.ble 57 pc then (bif Nat.beq pc 57 then some (.aload_n 0, 1, 0, 0, false) else none) else (bif Nat.beq pc 56 then some (.iaload, 1, 0, 0, false) else none)))
     else
      (bif Nat.ble 52 pc then (bif Nat.ble 55 pc then (bif Nat.beq pc 55 then some (.iload_n 3, 1, 0, 0, false) else none) else (bif Nat.beq pc 52 then some (.getfield 30, 3, 0, 0, false) else none)) else (bif Nat.ble 51 pc then (bif Nat.beq pc 51 then some (.aload_n 0, 1, 0, 0, false) else none) else (bif Nat.beq pc 49 then some (.iload 4, 2, 0, 0, false) else none))))
    else
     (bif Nat.ble 38 pc then
      (bif Nat.ble 41 pc then
       (bif Nat.ble 43 pc then (bif Nat.ble 46 pc then (bif Nat.beq pc 46 then some (.if_icmp .ge 84, 3, 130, 0, false) else none) else (bif Nat.beq pc 43 then some (.sipush 144, 3, 0, 144, false) else none)) else (bif Nat.beq pc 41 then some (.iload 4, 2, 0, 0, true) else none))
      else
       (bif Nat.ble 39 pc then (bif Nat.beq pc 39 then some (.istore 4, 2, 0, 0, false) else none) else (bif Nat.beq pc 38 then some (.iconst 0, 1, 0, 0, false) else none)))
     else
      (bif Nat.ble 32 pc then (bif Nat.ble 35 pc then (bif Nat.beq pc 35 then some (.goto 95, 3, 130, 0, false) else none) else (bif Nat.beq pc 32 then some (.if_icmp .eq 6, 3, 38, 0, false) else none)) else (bif Nat.ble 31 pc then (bif Nat.beq pc 31 then some (.iload_n 1, 1, 0, 0, false) else none) else (bif Nat.beq pc 30 then some (.iaload, 1, 0, 0, false) else none)))))
   else
    (bif Nat.ble 13 pc then
     (bif Nat.ble 21 pc then
      (bif Nat.ble 25 pc then
       (bif Nat.ble 26 pc then (bif Nat.ble 29 pc then (bif Nat.beq pc 29 then some (.iload_n 3, 1, 0, 0, false) else none) else (bif Nat.beq pc 26 then some (.getfield 39, 3, 0, 0, false) else none)) else (bif Nat.beq pc 25 then some (.aload_n 0, 1, 0, 0, false) else none))
      else
       (bif Nat.ble 22 pc then (bif Nat.beq pc 22 then some (.ifCond .ne 108, 3, 130, 0, false) else none) else (bif Nat.beq pc 21 then some (.baload, 1, 0, 0, false) else none)))
     else
      (bif Nat.ble 17 pc then (bif Nat.ble 20 pc then (bif Nat.beq pc 20 then some (.iload_n 3, 1, 0, 0, false) else none) else (bif Nat.beq pc 17 then some (.getfield 42, 3, 0, 0, false) else none)) else (bif Nat.ble 16 pc then (bif Nat.beq pc 16 then some (.aload_n 0, 1, 0, 0, false) else none) else (bif Nat.beq pc 13 then some (.if_icmp .ge 123, 3, 136, 0, false) else none))))
    else
     (bif Nat.ble 6 pc then
      (bif Nat.ble 8 pc then
       (bif Nat.ble 9 pc then (bif Nat.ble 10 pc then (bif Nat.beq pc 10 then some (.getfield 93, 3, 0, 0, false) else none) else (bif Nat.beq pc 9 then some (.aload_n 0, 1, 0, 0, false) else none)) else (bif Nat.beq pc 8 then some (.iload_n 3, 1, 0, 0, true) else none))
      else
       (bif Nat.ble 7 pc then (bif Nat.beq pc 7 then some (.istore_n 3, 1, 0, 0, false) else none) else (bif Nat.beq pc 6 then some (.iconst 0, 1, 0, 0, false) else none)))
     else
      (bif Nat.ble 2 pc then (bif Nat.ble 5 pc then (bif Nat.beq pc 5 then some (.istore_n 2, 1, 0, 0, false) else none) else (bif Nat.beq pc 2 then some (.invokevirtual 147, 3, 0, 0, false) else none)) else (bif Nat.ble 1 pc then (bif Nat.beq pc 1 then some (.iload_n 1, 1, 0, 0, false) else none) else (bif Nat.beq pc 0 then some (.aload_n 0, 1, 0, 0, false) else none)))))))
def qX8_goes (pc : Nat) : Option mIn :=
  (bif Nat.ble 13 pc then
   (bif Nat.ble 22 pc then
    (bif Nat.ble 26 pc then
     (bif Nat.ble 27 pc then (bif Nat.ble 30 pc then (bif Nat.beq pc 30 then some (.return_, 1, 0, 0, false) else none) else (bif Nat.beq pc 27 then some (.invokevirtual 205, 3, 0, 0, false) else none)) else (bif Nat.beq pc 26 then some (.iload_n 1, 1, 0, 0, false) else none))
    else
     (bif Nat.ble 25 pc then (bif Nat.beq pc 25 then some (.aload_n 0, 1, 0, 0, false) else none) else (bif Nat.beq pc 22 then some (.invokevirtual 201, 3, 0, 0, false) else none)))
   else
    (bif Nat.ble 17 pc then
     (bif Nat.ble 18 pc then (bif Nat.ble 21 pc then (bif Nat.beq pc 21 then some (.iconst 0, 1, 0, 0, false) else none) else (bif Nat.beq pc 18 then some (.goto 4, 3, 22, 0, false) else none)) else (bif Nat.beq pc 17 then some (.iconst 1, 1, 0, 1, false) else none))
    else
     (bif Nat.ble 14 pc then (bif Nat.beq pc 14 then some (.if_icmp .ne 7, 3, 21, 0, false) else none) else (bif Nat.beq pc 13 then some (.iload_n 2, 1, 0, 0, false) else none))))
  else
   (bif Nat.ble 6 pc then
    (bif Nat.ble 10 pc then
     (bif Nat.ble 11 pc then (bif Nat.ble 12 pc then (bif Nat.beq pc 12 then some (.iload_n 3, 1, 0, 0, false) else none) else (bif Nat.beq pc 11 then some (.iload_n 3, 1, 0, 0, false) else none)) else (bif Nat.beq pc 10 then some (.aload_n 0, 1, 0, 0, false) else none))
    else
     (bif Nat.ble 7 pc then (bif Nat.beq pc 7 then some (.ifCond .le 18, 3, 25, 0, false) else none) else (bif Nat.beq pc 6 then some (.iload_n 3, 1, 0, 0, false) else none)))
   else
    (bif Nat.ble 2 pc then (bif Nat.ble 5 pc then (bif Nat.beq pc 5 then some (.istore_n 3, 1, 0, 0, false) else none) else (bif Nat.beq pc 2 then some (.invokevirtual 198, 3, 0, 0, false) else none)) else (bif Nat.ble 1 pc then (bif Nat.beq pc 1 then some (.iload_n 1, 1, 0, 0, false) else none) else (bif Nat.beq pc 0 then some (.aload_n 0, 1, 0, 0, false) else none)))))
def qX8_upTo (pc : Nat) : Option mIn :=
  (bif Nat.ble 11 pc then
   (bif Nat.ble 14 pc then
    (bif Nat.ble 20 pc then (bif Nat.ble 23 pc then (bif Nat.beq pc 23 then some (.return_, 1, 0, 0, false) else none) else (bif Nat.beq pc 20 then some (.goto (-14), 3, 6, 0, false) else none)) else (bif Nat.ble 17 pc then (bif Nat.beq pc 17 then some (.iinc 3 1, 3, 0, 1, false) else none) else (bif Nat.beq pc 14 then some (.invokevirtual 211, 3, 0, 0, false) else none)))
   else
    (bif Nat.ble 12 pc then (bif Nat.ble 13 pc then (bif Nat.beq pc 13 then some (.iload_n 2, 1, 0, 0, false) else none) else (bif Nat.beq pc 12 then some (.iload_n 3, 1, 0, 0, false) else none)) else (bif Nat.beq pc 11 then some (.aload_n 0, 1, 0, 0, false) else none)))
  else
   (bif Nat.ble 5 pc then
    (bif Nat.ble 7 pc then (bif Nat.ble 8 pc then (bif Nat.beq pc 8 then some (.if_icmp .gt 15, 3, 23, 0, false) else none) else (bif Nat.beq pc 7 then some (.iload_n 1, 1, 0, 0, false) else none)) else (bif Nat.ble 6 pc then (bif Nat.beq pc 6 then some (.iload_n 3, 1, 0, 0, true) else none) else (bif Nat.beq pc 5 then some (.istore_n 3, 1, 0, 0, false) else none)))
   else
    (bif Nat.ble 1 pc then (bif Nat.ble 4 pc then (bif Nat.beq pc 4 then some (.iconst 0, 1, 0, 0, false) else none) else (bif Nat.beq pc 1 then some (.invokevirtual 208, 3, 0, 0, false) else none)) else (bif Nat.beq pc 0 then some (.aload_n 0, 1, 0, 0, false) else none))))
def qX8_owner (pc : Nat) : Option mIn :=
  (bif Nat.ble 25 pc then
   (bif Nat.ble 37 pc then
    (bif Nat.ble 42 pc then
     (bif Nat.ble 46 pc then (bif Nat.ble 47 pc then (bif Nat.beq pc 47 then some (.ireturn, 1, 0, 0, false) else none) else (bif Nat.beq pc 46 then some (.iaload, 1, 0, 0, false) else none)) else (bif Nat.ble 43 pc then (bif Nat.beq pc 43 then some (.invokestatic 104, 3, 0, 0, false) else none) else (bif Nat.beq pc 42 then some (.iload_n 2, 1, 0, 0, false) else none)))
    else
     (bif Nat.ble 38 pc then (bif Nat.ble 41 pc then (bif Nat.beq pc 41 then some (.iload_n 1, 1, 0, 0, false) else none) else (bif Nat.beq pc 38 then some (.getfield 72, 3, 0, 0, false) else none)) else (bif Nat.beq pc 37 then some (.aload_n 0, 1, 0, 0, false) else none)))
   else
    (bif Nat.ble 31 pc then
     (bif Nat.ble 33 pc then (bif Nat.ble 34 pc then (bif Nat.beq pc 34 then some (.invokevirtual 215, 3, 0, 0, false) else none) else (bif Nat.beq pc 33 then some (.iconst (-1), 1, 0, -1, false) else none)) else (bif Nat.ble 32 pc then (bif Nat.beq pc 32 then some (.iload_n 3, 1, 0, 0, false) else none) else (bif Nat.beq pc 31 then some (.aload_n 0, 1, 0, 0, false) else none)))
    else
     (bif Nat.ble 28 pc then (bif Nat.ble 30 pc then (bif Nat.beq pc 30 then some (.ireturn, 1, 0, 0, false) else none) else (bif Nat.beq pc 28 then some (.bipush (-2), 2, 0, -2, false) else none)) else (bif Nat.beq pc 25 then some (.ifCond .ne 6, 3, 31, 0, false) else none))))
  else
   (bif Nat.ble 8 pc then
    (bif Nat.ble 15 pc then
     (bif Nat.ble 21 pc then (bif Nat.ble 22 pc then (bif Nat.beq pc 22 then some (.getfield 90, 3, 0, 0, false) else none) else (bif Nat.beq pc 21 then some (.aload_n 0, 1, 0, 0, false) else none)) else (bif Nat.ble 18 pc then (bif Nat.beq pc 18 then some (.ifCond .eq 10, 3, 28, 0, false) else none) else (bif Nat.beq pc 15 then some (.invokestatic 118, 3, 0, 0, false) else none)))
    else
     (bif Nat.ble 11 pc then (bif Nat.ble 14 pc then (bif Nat.beq pc 14 then some (.iload_n 3, 1, 0, 0, false) else none) else (bif Nat.beq pc 11 then some (.ifCond .eq 17, 3, 28, 0, false) else none)) else (bif Nat.beq pc 8 then some (.invokevirtual 122, 3, 0, 0, false) else none)))
   else
    (bif Nat.ble 5 pc then
     (bif Nat.ble 6 pc then (bif Nat.ble 7 pc then (bif Nat.beq pc 7 then some (.iload_n 2, 1, 0, 0, false) else none) else (bif Nat.beq pc 6 then some (.iload_n 1, 1, 0, 0, false) else none)) else (bif Nat.beq pc 5 then some (.aload_n 0, 1, 0, 0, false) else none))
    else
     (bif Nat.ble 1 pc then (bif Nat.ble 2 pc then (bif Nat.beq pc 2 then some (.putfield 3, 3, 0, 0, false) else none) else (bif Nat.beq pc 1 then some (.iconst 0, 1, 0, 0, false) else none)) else (bif Nat.beq pc 0 then some (.aload_n 0, 1, 0, 0, false) else none)))))
def qX8_areaOn (pc : Nat) : Option mIn :=
  (bif Nat.ble 30 pc then
   (bif Nat.ble 45 pc then
    (bif Nat.ble 51 pc then
     (bif Nat.ble 57 pc then (bif Nat.ble 58 pc then (bif Nat.beq pc 58 then some (.ireturn, 1, 0, 0, false) else none) else (bif Nat.beq pc 57 then some (.iload_n 3, 1, 0, 0, false) else none)) else (bif Nat.ble 54 pc then (bif Nat.beq pc 54 then some (.goto (-49), 3, 5, 0, false) else none) else (bif Nat.beq pc 51 then some (.iinc 4 1, 3, 0, 1, false) else none)))
    else
     (bif Nat.ble 49 pc then (bif Nat.ble 50 pc then (bif Nat.beq pc 50 then some (.istore_n 3, 1, 0, 0, false) else none) else (bif Nat.beq pc 49 then some (.iadd, 1, 0, 0, false) else none)) else (bif Nat.ble 48 pc then (bif Nat.beq pc 48 then some (.iconst 0, 1, 0, 0, false) else none) else (bif Nat.beq pc 45 then some (.goto 4, 3, 49, 0, false) else none))))
   else
    (bif Nat.ble 39 pc then
     (bif Nat.ble 41 pc then (bif Nat.ble 44 pc then (bif Nat.beq pc 44 then some (.iconst 1, 1, 0, 1, false) else none) else (bif Nat.beq pc 41 then some (.if_icmp .ne 7, 3, 48, 0, false) else none)) else (bif Nat.ble 40 pc then (bif Nat.beq pc 40 then some (.iload_n 2, 1, 0, 0, false) else none) else (bif Nat.beq pc 39 then some (.iaload, 1, 0, 0, false) else none)))
    else
     (bif Nat.ble 34 pc then (bif Nat.ble 37 pc then (bif Nat.beq pc 37 then some (.iload 4, 2, 0, 0, false) else none) else (bif Nat.beq pc 34 then some (.getfield 72, 3, 0, 0, false) else none)) else (bif Nat.ble 33 pc then (bif Nat.beq pc 33 then some (.aload_n 0, 1, 0, 0, false) else none) else (bif Nat.beq pc 30 then some (.ifCond .ne 18, 3, 48, 0, false) else none)))))
  else
   (bif Nat.ble 14 pc then
    (bif Nat.ble 23 pc then
     (bif Nat.ble 25 pc then (bif Nat.ble 27 pc then (bif Nat.beq pc 27 then some (.invokevirtual 151, 3, 0, 0, false) else none) else (bif Nat.beq pc 25 then some (.iload 4, 2, 0, 0, false) else none)) else (bif Nat.ble 24 pc then (bif Nat.beq pc 24 then some (.iload_n 1, 1, 0, 0, false) else none) else (bif Nat.beq pc 23 then some (.aload_n 0, 1, 0, 0, false) else none)))
    else
     (bif Nat.ble 17 pc then (bif Nat.ble 20 pc then (bif Nat.beq pc 20 then some (.ifCond .eq 28, 3, 48, 0, false) else none) else (bif Nat.beq pc 17 then some (.invokevirtual 154, 3, 0, 0, false) else none)) else (bif Nat.ble 15 pc then (bif Nat.beq pc 15 then some (.iload 4, 2, 0, 0, false) else none) else (bif Nat.beq pc 14 then some (.aload_n 0, 1, 0, 0, false) else none))))
   else
    (bif Nat.ble 5 pc then
     (bif Nat.ble 10 pc then (bif Nat.ble 13 pc then (bif Nat.beq pc 13 then some (.iload_n 3, 1, 0, 0, false) else none) else (bif Nat.beq pc 10 then some (.if_icmp .ge 47, 3, 57, 0, false) else none)) else (bif Nat.ble 7 pc then (bif Nat.beq pc 7 then some (.sipush 144, 3, 0, 144, false) else none) else (bif Nat.beq pc 5 then some (.iload 4, 2, 0, 0, true) else none)))
    else
     (bif Nat.ble 2 pc then (bif Nat.ble 3 pc then (bif Nat.beq pc 3 then some (.istore 4, 2, 0, 0, false) else none) else (bif Nat.beq pc 2 then some (.iconst 0, 1, 0, 0, false) else none)) else (bif Nat.ble 1 pc then (bif Nat.beq pc 1 then some (.istore_n 3, 1, 0, 0, false) else none) else (bif Nat.beq pc 0 then some (.iconst 0, 1, 0, 0, false) else none))))))
def qX8_isAsked (pc : Nat) : Option mIn :=
  (bif Nat.ble 18 pc then
   (bif Nat.ble 28 pc then
    (bif Nat.ble 32 pc then (bif Nat.ble 33 pc then (bif Nat.beq pc 33 then some (.ireturn, 1, 0, 0, false) else none) else (bif Nat.beq pc 32 then some (.iconst 0, 1, 0, 0, false) else none)) else (bif Nat.ble 29 pc then (bif Nat.beq pc 29 then some (.goto 4, 3, 33, 0, false) else none) else (bif Nat.beq pc 28 then some (.iconst 1, 1, 0, 1, false) else none)))
   else
    (bif Nat.ble 22 pc then (bif Nat.ble 25 pc then (bif Nat.beq pc 25 then some (.ifCond .le 7, 3, 32, 0, false) else none) else (bif Nat.beq pc 22 then some (.getfield 90, 3, 0, 0, false) else none)) else (bif Nat.ble 21 pc then (bif Nat.beq pc 21 then some (.aload_n 0, 1, 0, 0, false) else none) else (bif Nat.beq pc 18 then some (.ifCond .eq 14, 3, 32, 0, false) else none))))
  else
   (bif Nat.ble 8 pc then
    (bif Nat.ble 14 pc then (bif Nat.ble 15 pc then (bif Nat.beq pc 15 then some (.invokestatic 118, 3, 0, 0, false) else none) else (bif Nat.beq pc 14 then some (.iload_n 2, 1, 0, 0, false) else none)) else (bif Nat.ble 11 pc then (bif Nat.beq pc 11 then some (.ifCond .eq 21, 3, 32, 0, false) else none) else (bif Nat.beq pc 8 then some (.invokestatic 96, 3, 0, 0, false) else none)))
   else
    (bif Nat.ble 2 pc then (bif Nat.ble 5 pc then (bif Nat.beq pc 5 then some (.ldc2_w 132, 3, 0, 0, false) else none) else (bif Nat.beq pc 2 then some (.ldc2_w 130, 3, 0, 0, false) else none)) else (bif Nat.ble 1 pc then (bif Nat.beq pc 1 then some (.i2l, 1, 0, 0, false) else none) else (bif Nat.beq pc 0 then some (.iload_n 1, 1, 0, 0, false) else none)))))
def qX8_area (pc : Nat) : Option mIn :=
  (bif Nat.ble 17 pc then
   (bif Nat.ble 24 pc then
    (bif Nat.ble 29 pc then
     (bif Nat.ble 30 pc then (bif Nat.ble 33 pc then (bif Nat.beq pc 33 then some (.ireturn, 1, 0, 0, false) else none) else (bif Nat.beq pc 30 then some (.invokevirtual 221, 3, 0, 0, false) else none)) else (bif Nat.beq pc 29 then some (.iload_n 1, 1, 0, 0, false) else none))
    else
     (bif Nat.ble 25 pc then (bif Nat.ble 26 pc then (bif Nat.beq pc 26 then some (.invokevirtual 147, 3, 0, 0, false) else none) else (bif Nat.beq pc 25 then some (.iload_n 2, 1, 0, 0, false) else none)) else (bif Nat.beq pc 24 then some (.aload_n 0, 1, 0, 0, false) else none)))
   else
    (bif Nat.ble 19 pc then
     (bif Nat.ble 20 pc then (bif Nat.ble 23 pc then (bif Nat.beq pc 23 then some (.aload_n 0, 1, 0, 0, false) else none) else (bif Nat.beq pc 20 then some (.invokevirtual 215, 3, 0, 0, false) else none)) else (bif Nat.beq pc 19 then some (.iconst (-1), 1, 0, -1, false) else none))
    else
     (bif Nat.ble 18 pc then (bif Nat.beq pc 18 then some (.iload_n 2, 1, 0, 0, false) else none) else (bif Nat.beq pc 17 then some (.aload_n 0, 1, 0, 0, false) else none))))
  else
   (bif Nat.ble 7 pc then
    (bif Nat.ble 11 pc then
     (bif Nat.ble 14 pc then (bif Nat.ble 16 pc then (bif Nat.beq pc 16 then some (.ireturn, 1, 0, 0, false) else none) else (bif Nat.beq pc 14 then some (.bipush (-2), 2, 0, -2, false) else none)) else (bif Nat.beq pc 11 then some (.ifCond .ne 6, 3, 17, 0, false) else none))
    else
     (bif Nat.ble 8 pc then (bif Nat.beq pc 8 then some (.invokevirtual 218, 3, 0, 0, false) else none) else (bif Nat.beq pc 7 then some (.iload_n 2, 1, 0, 0, false) else none)))
   else
    (bif Nat.ble 2 pc then
     (bif Nat.ble 5 pc then (bif Nat.ble 6 pc then (bif Nat.beq pc 6 then some (.iload_n 1, 1, 0, 0, false) else none) else (bif Nat.beq pc 5 then some (.aload_n 0, 1, 0, 0, false) else none)) else (bif Nat.beq pc 2 then some (.putfield 3, 3, 0, 0, false) else none))
    else
     (bif Nat.ble 1 pc then (bif Nat.beq pc 1 then some (.iconst 0, 1, 0, 0, false) else none) else (bif Nat.beq pc 0 then some (.aload_n 0, 1, 0, 0, false) else none)))))
def qX8_isByWater (pc : Nat) : Option mIn :=
  (bif Nat.ble 28 pc then
   (bif Nat.ble 46 pc then
    (bif Nat.ble 52 pc then
     (bif Nat.ble 58 pc then (bif Nat.ble 59 pc then (bif Nat.beq pc 59 then some (.ireturn, 1, 0, 0, false) else none) else (bif Nat.beq pc 58 then some (.iload_n 3, 1, 0, 0, false) else none)) else (bif Nat.ble 55 pc then (bif Nat.beq pc 55 then some (.goto (-50), 3, 5, 0, false) else none) else (bif Nat.beq pc 52 then some (.iinc 4 1, 3, 0, 1, false) else none)))
    else
     (bif Nat.ble 50 pc then (bif Nat.ble 51 pc then (bif Nat.beq pc 51 then some (.istore_n 3, 1, 0, 0, false) else none) else (bif Nat.beq pc 50 then some (.iconst 0, 1, 0, 0, false) else none)) else (bif Nat.ble 47 pc then (bif Nat.beq pc 47 then some (.goto 4, 3, 51, 0, false) else none) else (bif Nat.beq pc 46 then some (.iconst 1, 1, 0, 1, false) else none))))
   else
    (bif Nat.ble 37 pc then
     (bif Nat.ble 42 pc then (bif Nat.ble 43 pc then (bif Nat.beq pc 43 then some (.if_icmp .ne 7, 3, 50, 0, false) else none) else (bif Nat.beq pc 42 then some (.iconst 1, 1, 0, 1, false) else none)) else (bif Nat.ble 39 pc then (bif Nat.beq pc 39 then some (.invokestatic 170, 3, 0, 0, false) else none) else (bif Nat.beq pc 37 then some (.iload 4, 2, 0, 0, false) else none)))
    else
     (bif Nat.ble 33 pc then (bif Nat.ble 36 pc then (bif Nat.beq pc 36 then some (.iload_n 2, 1, 0, 0, false) else none) else (bif Nat.beq pc 33 then some (.ifCond .eq 17, 3, 50, 0, false) else none)) else (bif Nat.ble 30 pc then (bif Nat.beq pc 30 then some (.invokevirtual 151, 3, 0, 0, false) else none) else (bif Nat.beq pc 28 then some (.iload 4, 2, 0, 0, false) else none)))))
  else
   (bif Nat.ble 13 pc then
    (bif Nat.ble 20 pc then
     (bif Nat.ble 26 pc then (bif Nat.ble 27 pc then (bif Nat.beq pc 27 then some (.iload_n 1, 1, 0, 0, false) else none) else (bif Nat.beq pc 26 then some (.aload_n 0, 1, 0, 0, false) else none)) else (bif Nat.ble 23 pc then (bif Nat.beq pc 23 then some (.ifCond .eq 27, 3, 50, 0, false) else none) else (bif Nat.beq pc 20 then some (.invokevirtual 154, 3, 0, 0, false) else none)))
    else
     (bif Nat.ble 17 pc then (bif Nat.ble 18 pc then (bif Nat.beq pc 18 then some (.iload 4, 2, 0, 0, false) else none) else (bif Nat.beq pc 17 then some (.aload_n 0, 1, 0, 0, false) else none)) else (bif Nat.ble 14 pc then (bif Nat.beq pc 14 then some (.ifCond .ne 32, 3, 46, 0, false) else none) else (bif Nat.beq pc 13 then some (.iload_n 3, 1, 0, 0, false) else none))))
   else
    (bif Nat.ble 3 pc then
     (bif Nat.ble 7 pc then (bif Nat.ble 10 pc then (bif Nat.beq pc 10 then some (.if_icmp .ge 48, 3, 58, 0, false) else none) else (bif Nat.beq pc 7 then some (.sipush 144, 3, 0, 144, false) else none)) else (bif Nat.ble 5 pc then (bif Nat.beq pc 5 then some (.iload 4, 2, 0, 0, true) else none) else (bif Nat.beq pc 3 then some (.istore 4, 2, 0, 0, false) else none)))
    else
     (bif Nat.ble 1 pc then (bif Nat.ble 2 pc then (bif Nat.beq pc 2 then some (.iconst 0, 1, 0, 0, false) else none) else (bif Nat.beq pc 1 then some (.istore_n 3, 1, 0, 0, false) else none)) else (bif Nat.beq pc 0 then some (.iconst 0, 1, 0, 0, false) else none)))))
def qX8_front (pc : Nat) : Option mIn :=
  (bif Nat.ble 46 pc then
   (bif Nat.ble 75 pc then
    (bif Nat.ble 89 pc then
     (bif Nat.ble 93 pc then
      (bif Nat.ble 99 pc then (bif Nat.ble 101 pc then (bif Nat.beq pc 101 then some (.ireturn, 1, 0, 0, false) else none) else (bif Nat.beq pc 99 then some (.iload 4, 2, 0, 0, false) else none)) else (bif Nat.ble 96 pc then (bif Nat.beq pc 96 then some (.goto (-61), 3, 35, 0, false) else none) else (bif Nat.beq pc 93 then some (.iinc 5 1, 3, 0, 1, false) else none)))
     else
      (bif Nat.ble 90 pc then (bif Nat.ble 91 pc then (bif Nat.beq pc 91 then some (.istore 4, 2, 0, 0, false) else none) else (bif Nat.beq pc 90 then some (.iadd, 1, 0, 0, false) else none)) else (bif Nat.beq pc 89 then some (.iconst 0, 1, 0, 0, false) else none)))
    else
     (bif Nat.ble 79 pc then
      (bif Nat.ble 85 pc then (bif Nat.ble 86 pc then (bif Nat.beq pc 86 then some (.goto 4, 3, 90, 0, false) else none) else (bif Nat.beq pc 85 then some (.iconst 1, 1, 0, 1, false) else none)) else (bif Nat.ble 82 pc then (bif Nat.beq pc 82 then some (.ifCond .eq 7, 3, 89, 0, false) else none) else (bif Nat.beq pc 79 then some (.invokevirtual 224, 3, 0, 0, false) else none)))
     else
      (bif Nat.ble 76 pc then (bif Nat.ble 77 pc then (bif Nat.beq pc 77 then some (.iload 5, 2, 0, 0, false) else none) else (bif Nat.beq pc 76 then some (.iload_n 3, 1, 0, 0, false) else none)) else (bif Nat.beq pc 75 then some (.aload_n 0, 1, 0, 0, false) else none))))
   else
    (bif Nat.ble 61 pc then
     (bif Nat.ble 68 pc then
      (bif Nat.ble 71 pc then (bif Nat.ble 72 pc then (bif Nat.beq pc 72 then some (.if_icmp .ne 17, 3, 89, 0, false) else none) else (bif Nat.beq pc 71 then some (.iload_n 1, 1, 0, 0, false) else none)) else (bif Nat.ble 70 pc then (bif Nat.beq pc 70 then some (.iaload, 1, 0, 0, false) else none) else (bif Nat.beq pc 68 then some (.iload 5, 2, 0, 0, false) else none)))
     else
      (bif Nat.ble 64 pc then (bif Nat.ble 65 pc then (bif Nat.beq pc 65 then some (.getfield 72, 3, 0, 0, false) else none) else (bif Nat.beq pc 64 then some (.aload_n 0, 1, 0, 0, false) else none)) else (bif Nat.beq pc 61 then some (.ifCond .ne 28, 3, 89, 0, false) else none)))
    else
     (bif Nat.ble 54 pc then
      (bif Nat.ble 56 pc then (bif Nat.ble 58 pc then (bif Nat.beq pc 58 then some (.invokevirtual 151, 3, 0, 0, false) else none) else (bif Nat.beq pc 56 then some (.iload 5, 2, 0, 0, false) else none)) else (bif Nat.ble 55 pc then (bif Nat.beq pc 55 then some (.iload_n 3, 1, 0, 0, false) else none) else (bif Nat.beq pc 54 then some (.aload_n 0, 1, 0, 0, false) else none)))
     else
      (bif Nat.ble 48 pc then (bif Nat.ble 51 pc then (bif Nat.beq pc 51 then some (.ifCond .eq 38, 3, 89, 0, false) else none) else (bif Nat.beq pc 48 then some (.invokevirtual 154, 3, 0, 0, false) else none)) else (bif Nat.beq pc 46 then some (.iload 5, 2, 0, 0, false) else none)))))
  else
   (bif Nat.ble 20 pc then
    (bif Nat.ble 32 pc then
     (bif Nat.ble 37 pc then
      (bif Nat.ble 43 pc then (bif Nat.ble 45 pc then (bif Nat.beq pc 45 then some (.aload_n 0, 1, 0, 0, false) else none) else (bif Nat.beq pc 43 then some (.iload 4, 2, 0, 0, false) else none)) else (bif Nat.ble 40 pc then (bif Nat.beq pc 40 then some (.if_icmp .ge 59, 3, 99, 0, false) else none) else (bif Nat.beq pc 37 then some (.sipush 144, 3, 0, 144, false) else none)))
     else
      (bif Nat.ble 33 pc then (bif Nat.ble 35 pc then (bif Nat.beq pc 35 then some (.iload 5, 2, 0, 0, true) else none) else (bif Nat.beq pc 33 then some (.istore 5, 2, 0, 0, false) else none)) else (bif Nat.beq pc 32 then some (.iconst 0, 1, 0, 0, false) else none)))
    else
     (bif Nat.ble 25 pc then
      (bif Nat.ble 29 pc then (bif Nat.ble 30 pc then (bif Nat.beq pc 30 then some (.istore 4, 2, 0, 0, false) else none) else (bif Nat.beq pc 29 then some (.iconst 0, 1, 0, 0, false) else none)) else (bif Nat.ble 28 pc then (bif Nat.beq pc 28 then some (.istore_n 3, 1, 0, 0, false) else none) else (bif Nat.beq pc 25 then some (.invokevirtual 147, 3, 0, 0, false) else none)))
     else
      (bif Nat.ble 23 pc then (bif Nat.ble 24 pc then (bif Nat.beq pc 24 then some (.iload_n 2, 1, 0, 0, false) else none) else (bif Nat.beq pc 23 then some (.aload_n 0, 1, 0, 0, false) else none)) else (bif Nat.beq pc 20 then some (.invokevirtual 215, 3, 0, 0, false) else none))))
   else
    (bif Nat.ble 8 pc then
     (bif Nat.ble 16 pc then
      (bif Nat.ble 18 pc then (bif Nat.ble 19 pc then (bif Nat.beq pc 19 then some (.iconst (-1), 1, 0, -1, false) else none) else (bif Nat.beq pc 18 then some (.iload_n 2, 1, 0, 0, false) else none)) else (bif Nat.ble 17 pc then (bif Nat.beq pc 17 then some (.aload_n 0, 1, 0, 0, false) else none) else (bif Nat.beq pc 16 then some (.ireturn, 1, 0, 0, false) else none)))
     else
      (bif Nat.ble 11 pc then (bif Nat.ble 14 pc then (bif Nat.beq pc 14 then some (.bipush (-2), 2, 0, -2, false) else none) else (bif Nat.beq pc 11 then some (.ifCond .ne 6, 3, 17, 0, false) else none)) else (bif Nat.beq pc 8 then some (.invokevirtual 218, 3, 0, 0, false) else none)))
    else
     (bif Nat.ble 5 pc then
      (bif Nat.ble 6 pc then (bif Nat.ble 7 pc then (bif Nat.beq pc 7 then some (.iload_n 2, 1, 0, 0, false) else none) else (bif Nat.beq pc 6 then some (.iload_n 1, 1, 0, 0, false) else none)) else (bif Nat.beq pc 5 then some (.aload_n 0, 1, 0, 0, false) else none))
     else
      (bif Nat.ble 1 pc then (bif Nat.ble 2 pc then (bif Nat.beq pc 2 then some (.putfield 3, 3, 0, 0, false) else none) else (bif Nat.beq pc 1 then some (.iconst 0, 1, 0, 0, false) else none)) else (bif Nat.beq pc 0 then some (.aload_n 0, 1, 0, 0, false) else none))))))
def qX8_tax (pc : Nat) : Option mIn :=
  (bif Nat.ble 41 pc then
   (bif Nat.ble 64 pc then
    (bif Nat.ble 75 pc then
     (bif Nat.ble 81 pc then
      (bif Nat.ble 84 pc then (bif Nat.ble 86 pc then (bif Nat.beq pc 86 then some (.ireturn, 1, 0, 0, false) else none) else (bif Nat.beq pc 84 then some (.iload 4, 2, 0, 0, false) else none)) else (bif Nat.beq pc 81 then some (.goto (-42), 3, 39, 0, false) else none))
     else
      (bif Nat.ble 76 pc then (bif Nat.ble 78 pc then (bif Nat.beq pc 78 then some (.iinc 5 1, 3, 0, 1, false) else none) else (bif Nat.beq pc 76 then some (.istore 4, 2, 0, 0, false) else none)) else (bif Nat.beq pc 75 then some (.iadd, 1, 0, 0, false) else none)))
    else
     (bif Nat.ble 68 pc then
      (bif Nat.ble 71 pc then (bif Nat.ble 72 pc then (bif Nat.beq pc 72 then some (.invokevirtual 221, 3, 0, 0, false) else none) else (bif Nat.beq pc 71 then some (.iload_n 1, 1, 0, 0, false) else none)) else (bif Nat.beq pc 68 then some (.invokevirtual 147, 3, 0, 0, false) else none))
     else
      (bif Nat.ble 65 pc then (bif Nat.ble 66 pc then (bif Nat.beq pc 66 then some (.iload 5, 2, 0, 0, false) else none) else (bif Nat.beq pc 65 then some (.aload_n 0, 1, 0, 0, false) else none)) else (bif Nat.beq pc 64 then some (.aload_n 0, 1, 0, 0, false) else none))))
   else
    (bif Nat.ble 52 pc then
     (bif Nat.ble 57 pc then
      (bif Nat.ble 60 pc then (bif Nat.ble 61 pc then (bif Nat.beq pc 61 then some (.goto 14, 3, 75, 0, false) else none) else (bif Nat.beq pc 60 then some (.iconst 0, 1, 0, 0, false) else none)) else (bif Nat.beq pc 57 then some (.if_icmp .ge 7, 3, 64, 0, false) else none))
     else
      (bif Nat.ble 54 pc then (bif Nat.ble 56 pc then (bif Nat.beq pc 56 then some (.iload_n 2, 1, 0, 0, false) else none) else (bif Nat.beq pc 54 then some (.iload 5, 2, 0, 0, false) else none)) else (bif Nat.beq pc 52 then some (.iload 4, 2, 0, 0, false) else none)))
    else
     (bif Nat.ble 46 pc then
      (bif Nat.ble 48 pc then (bif Nat.ble 49 pc then (bif Nat.beq pc 49 then some (.invokevirtual 211, 3, 0, 0, false) else none) else (bif Nat.beq pc 48 then some (.iconst (-1), 1, 0, -1, false) else none)) else (bif Nat.beq pc 46 then some (.iload 5, 2, 0, 0, false) else none))
     else
      (bif Nat.ble 42 pc then (bif Nat.ble 45 pc then (bif Nat.beq pc 45 then some (.aload_n 0, 1, 0, 0, false) else none) else (bif Nat.beq pc 42 then some (.if_icmp .gt 42, 3, 84, 0, false) else none)) else (bif Nat.beq pc 41 then some (.iload_n 3, 1, 0, 0, false) else none)))))
  else
   (bif Nat.ble 21 pc then
    (bif Nat.ble 30 pc then
     (bif Nat.ble 36 pc then
      (bif Nat.ble 37 pc then (bif Nat.ble 39 pc then (bif Nat.beq pc 39 then some (.iload 5, 2, 0, 0, true) else none) else (bif Nat.beq pc 37 then some (.istore 5, 2, 0, 0, false) else none)) else (bif Nat.beq pc 36 then some (.iconst 0, 1, 0, 0, false) else none))
     else
      (bif Nat.ble 32 pc then (bif Nat.ble 33 pc then (bif Nat.beq pc 33 then some (.invokevirtual 208, 3, 0, 0, false) else none) else (bif Nat.beq pc 32 then some (.aload_n 0, 1, 0, 0, false) else none)) else (bif Nat.beq pc 30 then some (.istore 4, 2, 0, 0, false) else none)))
    else
     (bif Nat.ble 26 pc then
      (bif Nat.ble 28 pc then (bif Nat.ble 29 pc then (bif Nat.beq pc 29 then some (.iconst 0, 1, 0, 0, false) else none) else (bif Nat.beq pc 28 then some (.ireturn, 1, 0, 0, false) else none)) else (bif Nat.beq pc 26 then some (.bipush (-2), 2, 0, -2, false) else none))
     else
      (bif Nat.ble 22 pc then (bif Nat.ble 23 pc then (bif Nat.beq pc 23 then some (.if_icmp .le 6, 3, 29, 0, false) else none) else (bif Nat.beq pc 22 then some (.iload_n 3, 1, 0, 0, false) else none)) else (bif Nat.beq pc 21 then some (.iload_n 2, 1, 0, 0, false) else none))))
   else
    (bif Nat.ble 7 pc then
     (bif Nat.ble 14 pc then
      (bif Nat.ble 15 pc then (bif Nat.ble 18 pc then (bif Nat.beq pc 18 then some (.ifCond .eq 8, 3, 26, 0, false) else none) else (bif Nat.beq pc 15 then some (.invokestatic 118, 3, 0, 0, false) else none)) else (bif Nat.beq pc 14 then some (.iload_n 3, 1, 0, 0, false) else none))
     else
      (bif Nat.ble 8 pc then (bif Nat.ble 11 pc then (bif Nat.beq pc 11 then some (.ifCond .eq 15, 3, 26, 0, false) else none) else (bif Nat.beq pc 8 then some (.invokevirtual 218, 3, 0, 0, false) else none)) else (bif Nat.beq pc 7 then some (.iload_n 2, 1, 0, 0, false) else none)))
    else
     (bif Nat.ble 2 pc then
      (bif Nat.ble 5 pc then (bif Nat.ble 6 pc then (bif Nat.beq pc 6 then some (.iload_n 1, 1, 0, 0, false) else none) else (bif Nat.beq pc 5 then some (.aload_n 0, 1, 0, 0, false) else none)) else (bif Nat.beq pc 2 then some (.putfield 3, 3, 0, 0, false) else none))
     else
      (bif Nat.ble 1 pc then (bif Nat.beq pc 1 then some (.iconst 0, 1, 0, 0, false) else none) else (bif Nat.beq pc 0 then some (.aload_n 0, 1, 0, 0, false) else none))))))
def qX8_chain (pc : Nat) : Option mIn :=
  (bif Nat.ble 75 pc then
   (bif Nat.ble 112 pc then
    (bif Nat.ble 128 pc then
     (bif Nat.ble 139 pc then
      (bif Nat.ble 146 pc then
       (bif Nat.ble 147 pc then (bif Nat.ble 148 pc then (bif Nat.beq pc 148 then some (.ireturn, 1, 0, 0, false) else none) else (bif Nat.beq pc 147 then some (.idiv, 1, 0, 0, false) else none)) else (bif Nat.beq pc 146 then some (.iconst 2, 1, 0, 2, false) else none))
      else
       (bif Nat.ble 142 pc then (bif Nat.ble 143 pc then (bif Nat.beq pc 143 then some (.getfield 144, 3, 0, 0, false) else none) else (bif Nat.beq pc 142 then some (.aload_n 0, 1, 0, 0, false) else none)) else (bif Nat.beq pc 139 then some (.goto (-98), 3, 41, 0, false) else none)))
     else
      (bif Nat.ble 132 pc then
       (bif Nat.ble 133 pc then (bif Nat.ble 136 pc then (bif Nat.beq pc 136 then some (.iinc 4 1, 3, 0, 1, false) else none) else (bif Nat.beq pc 133 then some (.putfield 144, 3, 0, 0, false) else none)) else (bif Nat.beq pc 132 then some (.iadd, 1, 0, 0, false) else none))
      else
       (bif Nat.ble 131 pc then (bif Nat.beq pc 131 then some (.iconst 2, 1, 0, 2, false) else none) else (bif Nat.beq pc 128 then some (.getfield 144, 3, 0, 0, false) else none))))
    else
     (bif Nat.ble 121 pc then
      (bif Nat.ble 125 pc then
       (bif Nat.ble 126 pc then (bif Nat.ble 127 pc then (bif Nat.beq pc 127 then some (.dup, 1, 0, 0, false) else none) else (bif Nat.beq pc 126 then some (.aload_n 0, 1, 0, 0, false) else none)) else (bif Nat.beq pc 125 then some (.iastore, 1, 0, 0, false) else none))
      else
       (bif Nat.ble 122 pc then (bif Nat.ble 123 pc then (bif Nat.beq pc 123 then some (.iload 4, 2, 0, 0, false) else none) else (bif Nat.beq pc 122 then some (.iadd, 1, 0, 0, false) else none)) else (bif Nat.beq pc 121 then some (.iconst 1, 1, 0, 1, false) else none)))
     else
      (bif Nat.ble 114 pc then
       (bif Nat.ble 117 pc then (bif Nat.ble 118 pc then (bif Nat.beq pc 118 then some (.getfield 144, 3, 0, 0, false) else none) else (bif Nat.beq pc 117 then some (.aload_n 0, 1, 0, 0, false) else none)) else (bif Nat.beq pc 114 then some (.getfield 78, 3, 0, 0, false) else none))
      else
       (bif Nat.ble 113 pc then (bif Nat.beq pc 113 then some (.aload_n 0, 1, 0, 0, false) else none) else (bif Nat.beq pc 112 then some (.iastore, 1, 0, 0, false) else none)))))
   else
    (bif Nat.ble 93 pc then
     (bif Nat.ble 102 pc then
      (bif Nat.ble 107 pc then
       (bif Nat.ble 110 pc then (bif Nat.ble 111 pc then (bif Nat.beq pc 111 then some (.iaload, 1, 0, 0, false) else none) else (bif Nat.beq pc 110 then some (.iload_n 3, 1, 0, 0, false) else none)) else (bif Nat.beq pc 107 then some (.getfield 72, 3, 0, 0, false) else none))
      else
       (bif Nat.ble 103 pc then (bif Nat.ble 106 pc then (bif Nat.beq pc 106 then some (.aload_n 0, 1, 0, 0, false) else none) else (bif Nat.beq pc 103 then some (.getfield 144, 3, 0, 0, false) else none)) else (bif Nat.beq pc 102 then some (.aload_n 0, 1, 0, 0, false) else none)))
     else
      (bif Nat.ble 95 pc then
       (bif Nat.ble 98 pc then (bif Nat.ble 99 pc then (bif Nat.beq pc 99 then some (.getfield 78, 3, 0, 0, false) else none) else (bif Nat.beq pc 98 then some (.aload_n 0, 1, 0, 0, false) else none)) else (bif Nat.beq pc 95 then some (.if_icmp .eq 41, 3, 136, 0, false) else none))
      else
       (bif Nat.ble 94 pc then (bif Nat.beq pc 94 then some (.iaload, 1, 0, 0, false) else none) else (bif Nat.beq pc 93 then some (.isub, 1, 0, 0, false) else none))))
    else
     (bif Nat.ble 84 pc then
      (bif Nat.ble 88 pc then
       (bif Nat.ble 89 pc then (bif Nat.ble 92 pc then (bif Nat.beq pc 92 then some (.iconst 2, 1, 0, 2, false) else none) else (bif Nat.beq pc 89 then some (.getfield 144, 3, 0, 0, false) else none)) else (bif Nat.beq pc 88 then some (.aload_n 0, 1, 0, 0, false) else none))
      else
       (bif Nat.ble 85 pc then (bif Nat.beq pc 85 then some (.getfield 78, 3, 0, 0, false) else none) else (bif Nat.beq pc 84 then some (.aload_n 0, 1, 0, 0, false) else none)))
     else
      (bif Nat.ble 79 pc then
       (bif Nat.ble 82 pc then (bif Nat.ble 83 pc then (bif Nat.beq pc 83 then some (.iaload, 1, 0, 0, false) else none) else (bif Nat.beq pc 82 then some (.iload_n 3, 1, 0, 0, false) else none)) else (bif Nat.beq pc 79 then some (.getfield 72, 3, 0, 0, false) else none))
      else
       (bif Nat.ble 78 pc then (bif Nat.beq pc 78 then some (.aload_n 0, 1, 0, 0, false) else none) else (bif Nat.beq pc 75 then some (.if_icmp .le 61, 3, 136, 0, false) else none))))))
  else
   (bif Nat.ble 35 pc then
    (bif Nat.ble 56 pc then
     (bif Nat.ble 64 pc then
      (bif Nat.ble 70 pc then
       (bif Nat.ble 73 pc then (bif Nat.ble 74 pc then (bif Nat.beq pc 74 then some (.iaload, 1, 0, 0, false) else none) else (bif Nat.beq pc 73 then some (.iconst 0, 1, 0, 0, false) else none)) else (bif Nat.beq pc 70 then some (.getfield 19, 3, 0, 0, false) else none))
      else
       (bif Nat.ble 67 pc then (bif Nat.ble 69 pc then (bif Nat.beq pc 69 then some (.aload_n 0, 1, 0, 0, false) else none) else (bif Nat.beq pc 67 then some (.iload 4, 2, 0, 0, false) else none)) else (bif Nat.beq pc 64 then some (.if_icmp .eq 34, 3, 98, 0, false) else none)))
     else
      (bif Nat.ble 59 pc then
       (bif Nat.ble 62 pc then (bif Nat.ble 63 pc then (bif Nat.beq pc 63 then some (.iaload, 1, 0, 0, false) else none) else (bif Nat.beq pc 62 then some (.iconst 0, 1, 0, 0, false) else none)) else (bif Nat.beq pc 59 then some (.getfield 19, 3, 0, 0, false) else none))
      else
       (bif Nat.ble 58 pc then (bif Nat.beq pc 58 then some (.aload_n 0, 1, 0, 0, false) else none) else (bif Nat.beq pc 56 then some (.iload 4, 2, 0, 0, false) else none))))
    else
     (bif Nat.ble 46 pc then
      (bif Nat.ble 50 pc then
       (bif Nat.ble 52 pc then (bif Nat.ble 53 pc then (bif Nat.beq pc 53 then some (.invokevirtual 211, 3, 0, 0, false) else none) else (bif Nat.beq pc 52 then some (.iconst (-1), 1, 0, -1, false) else none)) else (bif Nat.beq pc 50 then some (.iload 4, 2, 0, 0, false) else none))
      else
       (bif Nat.ble 49 pc then (bif Nat.beq pc 49 then some (.aload_n 0, 1, 0, 0, false) else none) else (bif Nat.beq pc 46 then some (.if_icmp .ge 96, 3, 142, 0, false) else none)))
     else
      (bif Nat.ble 39 pc then
       (bif Nat.ble 41 pc then (bif Nat.ble 43 pc then (bif Nat.beq pc 43 then some (.sipush 201, 3, 0, 201, false) else none) else (bif Nat.beq pc 41 then some (.iload 4, 2, 0, 0, true) else none)) else (bif Nat.beq pc 39 then some (.istore 4, 2, 0, 0, false) else none))
      else
       (bif Nat.ble 38 pc then (bif Nat.beq pc 38 then some (.iconst 0, 1, 0, 0, false) else none) else (bif Nat.beq pc 35 then some (.invokevirtual 208, 3, 0, 0, false) else none)))))
   else
    (bif Nat.ble 18 pc then
     (bif Nat.ble 25 pc then
      (bif Nat.ble 30 pc then
       (bif Nat.ble 31 pc then (bif Nat.ble 34 pc then (bif Nat.beq pc 34 then some (.aload_n 0, 1, 0, 0, false) else none) else (bif Nat.beq pc 31 then some (.putfield 144, 3, 0, 0, false) else none)) else (bif Nat.beq pc 30 then some (.iconst 0, 1, 0, 0, false) else none))
      else
       (bif Nat.ble 28 pc then (bif Nat.ble 29 pc then (bif Nat.beq pc 29 then some (.aload_n 0, 1, 0, 0, false) else none) else (bif Nat.beq pc 28 then some (.istore_n 3, 1, 0, 0, false) else none)) else (bif Nat.beq pc 25 then some (.invokestatic 104, 3, 0, 0, false) else none)))
     else
      (bif Nat.ble 22 pc then
       (bif Nat.ble 23 pc then (bif Nat.ble 24 pc then (bif Nat.beq pc 24 then some (.iload_n 2, 1, 0, 0, false) else none) else (bif Nat.beq pc 23 then some (.iload_n 1, 1, 0, 0, false) else none)) else (bif Nat.beq pc 22 then some (.ireturn, 1, 0, 0, false) else none))
      else
       (bif Nat.ble 21 pc then (bif Nat.beq pc 21 then some (.iconst (-1), 1, 0, -1, false) else none) else (bif Nat.beq pc 18 then some (.ifCond .ne 5, 3, 23, 0, false) else none))))
    else
     (bif Nat.ble 7 pc then
      (bif Nat.ble 11 pc then
       (bif Nat.ble 14 pc then (bif Nat.ble 15 pc then (bif Nat.beq pc 15 then some (.getfield 90, 3, 0, 0, false) else none) else (bif Nat.beq pc 14 then some (.aload_n 0, 1, 0, 0, false) else none)) else (bif Nat.beq pc 11 then some (.ifCond .eq 10, 3, 21, 0, false) else none))
      else
       (bif Nat.ble 8 pc then (bif Nat.beq pc 8 then some (.invokevirtual 122, 3, 0, 0, false) else none) else (bif Nat.beq pc 7 then some (.iload_n 2, 1, 0, 0, false) else none)))
     else
      (bif Nat.ble 2 pc then
       (bif Nat.ble 5 pc then (bif Nat.ble 6 pc then (bif Nat.beq pc 6 then some (.iload_n 1, 1, 0, 0, false) else none) else (bif Nat.beq pc 5 then some (.aload_n 0, 1, 0, 0, false) else none)) else (bif Nat.beq pc 2 then some (.putfield 3, 3, 0, 0, false) else none))
      else
       (bif Nat.ble 1 pc then (bif Nat.beq pc 1 then some (.iconst 0, 1, 0, 0, false) else none) else (bif Nat.beq pc 0 then some (.aload_n 0, 1, 0, 0, false) else none)))))))
def qX8_banks (pc : Nat) : Option mIn :=
  (bif Nat.ble 107 pc then
   (bif Nat.ble 163 pc then
    (bif Nat.ble 195 pc then
     (bif Nat.ble 208 pc then
      (bif Nat.ble 215 pc then
       (bif Nat.ble 221 pc then (bif Nat.ble 223 pc then (bif Nat.beq pc 223 then some (.ireturn, 1, 0, 0, false) else none) else (bif Nat.beq pc 221 then some (.iload 4, 2, 0, 0, false) else none)) else (bif Nat.ble 218 pc then (bif Nat.beq pc 218 then some (.goto (-33), 3, 185, 0, false) else none) else (bif Nat.beq pc 215 then some (.iinc 5 1, 3, 0, 1, false) else none)))
      else
       (bif Nat.ble 212 pc then (bif Nat.ble 213 pc then (bif Nat.beq pc 213 then some (.istore 4, 2, 0, 0, false) else none) else (bif Nat.beq pc 212 then some (.iadd, 1, 0, 0, false) else none)) else (bif Nat.ble 211 pc then (bif Nat.beq pc 211 then some (.iconst 0, 1, 0, 0, false) else none) else (bif Nat.beq pc 208 then some (.goto 4, 3, 212, 0, false) else none))))
     else
      (bif Nat.ble 201 pc then
       (bif Nat.ble 204 pc then (bif Nat.ble 207 pc then (bif Nat.beq pc 207 then some (.iconst 1, 1, 0, 1, false) else none) else (bif Nat.beq pc 204 then some (.if_icmp .ne 7, 3, 211, 0, false) else none)) else (bif Nat.ble 202 pc then (bif Nat.beq pc 202 then some (.iload 5, 2, 0, 0, false) else none) else (bif Nat.beq pc 201 then some (.iaload, 1, 0, 0, false) else none)))
      else
       (bif Nat.ble 196 pc then (bif Nat.ble 199 pc then (bif Nat.beq pc 199 then some (.iload 5, 2, 0, 0, false) else none) else (bif Nat.beq pc 196 then some (.getfield 81, 3, 0, 0, false) else none)) else (bif Nat.beq pc 195 then some (.aload_n 0, 1, 0, 0, false) else none))))
    else
     (bif Nat.ble 180 pc then
      (bif Nat.ble 185 pc then
       (bif Nat.ble 190 pc then (bif Nat.ble 193 pc then (bif Nat.beq pc 193 then some (.iload 4, 2, 0, 0, false) else none) else (bif Nat.beq pc 190 then some (.if_icmp .ge 31, 3, 221, 0, false) else none)) else (bif Nat.ble 187 pc then (bif Nat.beq pc 187 then some (.sipush 144, 3, 0, 144, false) else none) else (bif Nat.beq pc 185 then some (.iload 5, 2, 0, 0, true) else none)))
      else
       (bif Nat.ble 182 pc then (bif Nat.ble 183 pc then (bif Nat.beq pc 183 then some (.istore 5, 2, 0, 0, false) else none) else (bif Nat.beq pc 182 then some (.iconst 0, 1, 0, 0, false) else none)) else (bif Nat.beq pc 180 then some (.istore 4, 2, 0, 0, false) else none)))
     else
      (bif Nat.ble 170 pc then
       (bif Nat.ble 176 pc then (bif Nat.ble 179 pc then (bif Nat.beq pc 179 then some (.iconst 0, 1, 0, 0, false) else none) else (bif Nat.beq pc 176 then some (.goto (-104), 3, 72, 0, false) else none)) else (bif Nat.ble 173 pc then (bif Nat.beq pc 173 then some (.goto (-92), 3, 81, 0, false) else none) else (bif Nat.beq pc 170 then some (.iinc 4 1, 3, 0, 1, false) else none)))
      else
       (bif Nat.ble 164 pc then (bif Nat.ble 167 pc then (bif Nat.beq pc 167 then some (.goto (-75), 3, 92, 0, false) else none) else (bif Nat.beq pc 164 then some (.iinc 5 1, 3, 0, 1, false) else none)) else (bif Nat.beq pc 163 then some (.istore_n 3, 1, 0, 0, false) else none)))))
   else
    (bif Nat.ble 137 pc then
     (bif Nat.ble 149 pc then
      (bif Nat.ble 158 pc then
       (bif Nat.ble 161 pc then (bif Nat.ble 162 pc then (bif Nat.beq pc 162 then some (.iconst 1, 1, 0, 1, false) else none) else (bif Nat.beq pc 161 then some (.iastore, 1, 0, 0, false) else none)) else (bif Nat.ble 160 pc then (bif Nat.beq pc 160 then some (.iaload, 1, 0, 0, false) else none) else (bif Nat.beq pc 158 then some (.iload 5, 2, 0, 0, false) else none)))
      else
       (bif Nat.ble 154 pc then (bif Nat.ble 155 pc then (bif Nat.beq pc 155 then some (.getfield 81, 3, 0, 0, false) else none) else (bif Nat.beq pc 154 then some (.aload_n 0, 1, 0, 0, false) else none)) else (bif Nat.ble 152 pc then (bif Nat.beq pc 152 then some (.iload 4, 2, 0, 0, false) else none) else (bif Nat.beq pc 149 then some (.getfield 81, 3, 0, 0, false) else none))))
     else
      (bif Nat.ble 142 pc then
       (bif Nat.ble 145 pc then (bif Nat.ble 148 pc then (bif Nat.beq pc 148 then some (.aload_n 0, 1, 0, 0, false) else none) else (bif Nat.beq pc 145 then some (.if_icmp .ge 19, 3, 164, 0, false) else none)) else (bif Nat.ble 144 pc then (bif Nat.beq pc 144 then some (.iaload, 1, 0, 0, false) else none) else (bif Nat.beq pc 142 then some (.iload 4, 2, 0, 0, false) else none)))
      else
       (bif Nat.ble 138 pc then (bif Nat.ble 139 pc then (bif Nat.beq pc 139 then some (.getfield 81, 3, 0, 0, false) else none) else (bif Nat.beq pc 138 then some (.aload_n 0, 1, 0, 0, false) else none)) else (bif Nat.beq pc 137 then some (.iaload, 1, 0, 0, false) else none))))
    else
     (bif Nat.ble 122 pc then
      (bif Nat.ble 128 pc then
       (bif Nat.ble 132 pc then (bif Nat.ble 135 pc then (bif Nat.beq pc 135 then some (.iload 5, 2, 0, 0, false) else none) else (bif Nat.beq pc 132 then some (.getfield 81, 3, 0, 0, false) else none)) else (bif Nat.ble 131 pc then (bif Nat.beq pc 131 then some (.aload_n 0, 1, 0, 0, false) else none) else (bif Nat.beq pc 128 then some (.if_icmp .ne 36, 3, 164, 0, false) else none)))
      else
       (bif Nat.ble 124 pc then (bif Nat.ble 127 pc then (bif Nat.beq pc 127 then some (.iconst 1, 1, 0, 1, false) else none) else (bif Nat.beq pc 124 then some (.invokestatic 170, 3, 0, 0, false) else none)) else (bif Nat.beq pc 122 then some (.iload 5, 2, 0, 0, false) else none)))
     else
      (bif Nat.ble 114 pc then
       (bif Nat.ble 117 pc then (bif Nat.ble 120 pc then (bif Nat.beq pc 120 then some (.iload 4, 2, 0, 0, false) else none) else (bif Nat.beq pc 117 then some (.ifCond .lt 47, 3, 164, 0, false) else none)) else (bif Nat.ble 116 pc then (bif Nat.beq pc 116 then some (.iaload, 1, 0, 0, false) else none) else (bif Nat.beq pc 114 then some (.iload 5, 2, 0, 0, false) else none)))
      else
       (bif Nat.ble 110 pc then (bif Nat.ble 111 pc then (bif Nat.beq pc 111 then some (.getfield 81, 3, 0, 0, false) else none) else (bif Nat.beq pc 110 then some (.aload_n 0, 1, 0, 0, false) else none)) else (bif Nat.beq pc 107 then some (.ifCond .lt 63, 3, 170, 0, false) else none))))))
  else
   (bif Nat.ble 51 pc then
    (bif Nat.ble 77 pc then
     (bif Nat.ble 90 pc then
      (bif Nat.ble 100 pc then
       (bif Nat.ble 104 pc then (bif Nat.ble 106 pc then (bif Nat.beq pc 106 then some (.iaload, 1, 0, 0, false) else none) else (bif Nat.beq pc 104 then some (.iload 4, 2, 0, 0, false) else none)) else (bif Nat.ble 101 pc then (bif Nat.beq pc 101 then some (.getfield 81, 3, 0, 0, false) else none) else (bif Nat.beq pc 100 then some (.aload_n 0, 1, 0, 0, false) else none)))
      else
       (bif Nat.ble 94 pc then (bif Nat.ble 97 pc then (bif Nat.beq pc 97 then some (.if_icmp .ge 73, 3, 170, 0, false) else none) else (bif Nat.beq pc 94 then some (.sipush 144, 3, 0, 144, false) else none)) else (bif Nat.ble 92 pc then (bif Nat.beq pc 92 then some (.iload 5, 2, 0, 0, true) else none) else (bif Nat.beq pc 90 then some (.istore 5, 2, 0, 0, false) else none))))
     else
      (bif Nat.ble 81 pc then
       (bif Nat.ble 86 pc then (bif Nat.ble 89 pc then (bif Nat.beq pc 89 then some (.iconst 0, 1, 0, 0, false) else none) else (bif Nat.beq pc 86 then some (.if_icmp .ge 90, 3, 176, 0, false) else none)) else (bif Nat.ble 83 pc then (bif Nat.beq pc 83 then some (.sipush 144, 3, 0, 144, false) else none) else (bif Nat.beq pc 81 then some (.iload 4, 2, 0, 0, true) else none)))
      else
       (bif Nat.ble 78 pc then (bif Nat.ble 79 pc then (bif Nat.beq pc 79 then some (.istore 4, 2, 0, 0, false) else none) else (bif Nat.beq pc 78 then some (.iconst 0, 1, 0, 0, false) else none)) else (bif Nat.beq pc 77 then some (.istore_n 3, 1, 0, 0, false) else none))))
    else
     (bif Nat.ble 64 pc then
      (bif Nat.ble 71 pc then
       (bif Nat.ble 73 pc then (bif Nat.ble 76 pc then (bif Nat.beq pc 76 then some (.iconst 0, 1, 0, 0, false) else none) else (bif Nat.beq pc 73 then some (.ifCond .eq 106, 3, 179, 0, false) else none)) else (bif Nat.ble 72 pc then (bif Nat.beq pc 72 then some (.iload_n 3, 1, 0, 0, true) else none) else (bif Nat.beq pc 71 then some (.istore_n 3, 1, 0, 0, false) else none)))
      else
       (bif Nat.ble 67 pc then (bif Nat.ble 70 pc then (bif Nat.beq pc 70 then some (.iconst 1, 1, 0, 1, false) else none) else (bif Nat.beq pc 67 then some (.goto (-38), 3, 29, 0, false) else none)) else (bif Nat.beq pc 64 then some (.iinc 3 1, 3, 0, 1, false) else none)))
     else
      (bif Nat.ble 58 pc then
       (bif Nat.ble 62 pc then (bif Nat.ble 63 pc then (bif Nat.beq pc 63 then some (.iastore, 1, 0, 0, false) else none) else (bif Nat.beq pc 62 then some (.iconst (-1), 1, 0, -1, false) else none)) else (bif Nat.ble 59 pc then (bif Nat.beq pc 59 then some (.goto 4, 3, 63, 0, false) else none) else (bif Nat.beq pc 58 then some (.iload_n 3, 1, 0, 0, false) else none)))
      else
       (bif Nat.ble 52 pc then (bif Nat.ble 55 pc then (bif Nat.beq pc 55 then some (.ifCond .ne 7, 3, 62, 0, false) else none) else (bif Nat.beq pc 52 then some (.invokevirtual 151, 3, 0, 0, false) else none)) else (bif Nat.beq pc 51 then some (.iload_n 3, 1, 0, 0, false) else none)))))
   else
    (bif Nat.ble 26 pc then
     (bif Nat.ble 37 pc then
      (bif Nat.ble 43 pc then
       (bif Nat.ble 49 pc then (bif Nat.ble 50 pc then (bif Nat.beq pc 50 then some (.iload_n 2, 1, 0, 0, false) else none) else (bif Nat.beq pc 49 then some (.aload_n 0, 1, 0, 0, false) else none)) else (bif Nat.ble 46 pc then (bif Nat.beq pc 46 then some (.ifCond .eq 16, 3, 62, 0, false) else none) else (bif Nat.beq pc 43 then some (.invokevirtual 154, 3, 0, 0, false) else none)))
      else
       (bif Nat.ble 41 pc then (bif Nat.ble 42 pc then (bif Nat.beq pc 42 then some (.iload_n 3, 1, 0, 0, false) else none) else (bif Nat.beq pc 41 then some (.aload_n 0, 1, 0, 0, false) else none)) else (bif Nat.ble 40 pc then (bif Nat.beq pc 40 then some (.iload_n 3, 1, 0, 0, false) else none) else (bif Nat.beq pc 37 then some (.getfield 81, 3, 0, 0, false) else none))))
     else
      (bif Nat.ble 29 pc then
       (bif Nat.ble 33 pc then (bif Nat.ble 36 pc then (bif Nat.beq pc 36 then some (.aload_n 0, 1, 0, 0, false) else none) else (bif Nat.beq pc 33 then some (.if_icmp .ge 37, 3, 70, 0, false) else none)) else (bif Nat.ble 30 pc then (bif Nat.beq pc 30 then some (.sipush 144, 3, 0, 144, false) else none) else (bif Nat.beq pc 29 then some (.iload_n 3, 1, 0, 0, true) else none)))
      else
       (bif Nat.ble 27 pc then (bif Nat.ble 28 pc then (bif Nat.beq pc 28 then some (.istore_n 3, 1, 0, 0, false) else none) else (bif Nat.beq pc 27 then some (.iconst 0, 1, 0, 0, false) else none)) else (bif Nat.beq pc 26 then some (.istore_n 2, 1, 0, 0, false) else none))))
    else
     (bif Nat.ble 13 pc then
      (bif Nat.ble 20 pc then
       (bif Nat.ble 22 pc then (bif Nat.ble 23 pc then (bif Nat.beq pc 23 then some (.invokevirtual 147, 3, 0, 0, false) else none) else (bif Nat.beq pc 22 then some (.iload_n 1, 1, 0, 0, false) else none)) else (bif Nat.ble 21 pc then (bif Nat.beq pc 21 then some (.aload_n 0, 1, 0, 0, false) else none) else (bif Nat.beq pc 20 then some (.ireturn, 1, 0, 0, false) else none)))
      else
       (bif Nat.ble 16 pc then (bif Nat.ble 19 pc then (bif Nat.beq pc 19 then some (.iconst (-1), 1, 0, -1, false) else none) else (bif Nat.beq pc 16 then some (.ifCond .ne 5, 3, 21, 0, false) else none)) else (bif Nat.beq pc 13 then some (.getfield 90, 3, 0, 0, false) else none)))
     else
      (bif Nat.ble 5 pc then
       (bif Nat.ble 9 pc then (bif Nat.ble 12 pc then (bif Nat.beq pc 12 then some (.aload_n 0, 1, 0, 0, false) else none) else (bif Nat.beq pc 9 then some (.ifCond .eq 10, 3, 19, 0, false) else none)) else (bif Nat.ble 6 pc then (bif Nat.beq pc 6 then some (.invokestatic 118, 3, 0, 0, false) else none) else (bif Nat.beq pc 5 then some (.iload_n 1, 1, 0, 0, false) else none)))
      else
       (bif Nat.ble 1 pc then (bif Nat.ble 2 pc then (bif Nat.beq pc 2 then some (.putfield 3, 3, 0, 0, false) else none) else (bif Nat.beq pc 1 then some (.iconst 0, 1, 0, 0, false) else none)) else (bif Nat.beq pc 0 then some (.aload_n 0, 1, 0, 0, false) else none)))))))
def qX8_walks (pc : Nat) : Option mIn :=
  (bif Nat.ble 22 pc then
   (bif Nat.ble 33 pc then
    (bif Nat.ble 41 pc then
     (bif Nat.ble 43 pc then (bif Nat.ble 46 pc then (bif Nat.beq pc 46 then some (.return_, 1, 0, 0, false) else none) else (bif Nat.beq pc 43 then some (.invokevirtual 201, 3, 0, 0, false) else none)) else (bif Nat.ble 42 pc then (bif Nat.beq pc 42 then some (.iconst 0, 1, 0, 0, false) else none) else (bif Nat.beq pc 41 then some (.iload_n 1, 1, 0, 0, false) else none)))
    else
     (bif Nat.ble 37 pc then (bif Nat.ble 40 pc then (bif Nat.beq pc 40 then some (.aload_n 0, 1, 0, 0, false) else none) else (bif Nat.beq pc 37 then some (.goto (-22), 3, 15, 0, false) else none)) else (bif Nat.ble 34 pc then (bif Nat.beq pc 34 then some (.iinc 2 1, 3, 0, 1, false) else none) else (bif Nat.beq pc 33 then some (.iastore, 1, 0, 0, false) else none))))
   else
    (bif Nat.ble 27 pc then
     (bif Nat.ble 31 pc then (bif Nat.ble 32 pc then (bif Nat.beq pc 32 then some (.iaload, 1, 0, 0, false) else none) else (bif Nat.beq pc 31 then some (.iload_n 2, 1, 0, 0, false) else none)) else (bif Nat.ble 28 pc then (bif Nat.beq pc 28 then some (.getfield 72, 3, 0, 0, false) else none) else (bif Nat.beq pc 27 then some (.aload_n 0, 1, 0, 0, false) else none)))
    else
     (bif Nat.ble 23 pc then (bif Nat.ble 26 pc then (bif Nat.beq pc 26 then some (.iload_n 2, 1, 0, 0, false) else none) else (bif Nat.beq pc 23 then some (.getfield 84, 3, 0, 0, false) else none)) else (bif Nat.beq pc 22 then some (.aload_n 0, 1, 0, 0, false) else none))))
  else
   (bif Nat.ble 9 pc then
    (bif Nat.ble 14 pc then
     (bif Nat.ble 16 pc then (bif Nat.ble 19 pc then (bif Nat.beq pc 19 then some (.if_icmp .ge 21, 3, 40, 0, false) else none) else (bif Nat.beq pc 16 then some (.sipush 144, 3, 0, 144, false) else none)) else (bif Nat.ble 15 pc then (bif Nat.beq pc 15 then some (.iload_n 2, 1, 0, 0, true) else none) else (bif Nat.beq pc 14 then some (.istore_n 2, 1, 0, 0, false) else none)))
    else
     (bif Nat.ble 10 pc then (bif Nat.ble 13 pc then (bif Nat.beq pc 13 then some (.iconst 0, 1, 0, 0, false) else none) else (bif Nat.beq pc 10 then some (.invokevirtual 215, 3, 0, 0, false) else none)) else (bif Nat.beq pc 9 then some (.iconst (-1), 1, 0, -1, false) else none)))
   else
    (bif Nat.ble 5 pc then
     (bif Nat.ble 7 pc then (bif Nat.ble 8 pc then (bif Nat.beq pc 8 then some (.isub, 1, 0, 0, false) else none) else (bif Nat.beq pc 7 then some (.iconst 1, 1, 0, 1, false) else none)) else (bif Nat.ble 6 pc then (bif Nat.beq pc 6 then some (.iaload, 1, 0, 0, false) else none) else (bif Nat.beq pc 5 then some (.iload_n 1, 1, 0, 0, false) else none)))
    else
     (bif Nat.ble 1 pc then (bif Nat.ble 2 pc then (bif Nat.beq pc 2 then some (.getfield 19, 3, 0, 0, false) else none) else (bif Nat.beq pc 1 then some (.aload_n 0, 1, 0, 0, false) else none)) else (bif Nat.beq pc 0 then some (.aload_n 0, 1, 0, 0, false) else none)))))
def qX8_shores (pc : Nat) : Option mIn :=
  (bif Nat.ble 22 pc then
   (bif Nat.ble 35 pc then
    (bif Nat.ble 38 pc then
     (bif Nat.ble 44 pc then (bif Nat.ble 45 pc then (bif Nat.beq pc 45 then some (.ireturn, 1, 0, 0, false) else none) else (bif Nat.beq pc 44 then some (.iload_n 1, 1, 0, 0, false) else none)) else (bif Nat.ble 41 pc then (bif Nat.beq pc 41 then some (.goto (-37), 3, 4, 0, false) else none) else (bif Nat.beq pc 38 then some (.iinc 2 1, 3, 0, 1, false) else none)))
    else
     (bif Nat.ble 36 pc then (bif Nat.ble 37 pc then (bif Nat.beq pc 37 then some (.istore_n 1, 1, 0, 0, false) else none) else (bif Nat.beq pc 36 then some (.iadd, 1, 0, 0, false) else none)) else (bif Nat.beq pc 35 then some (.iconst 0, 1, 0, 0, false) else none)))
   else
    (bif Nat.ble 27 pc then
     (bif Nat.ble 31 pc then (bif Nat.ble 32 pc then (bif Nat.beq pc 32 then some (.goto 4, 3, 36, 0, false) else none) else (bif Nat.beq pc 31 then some (.iconst 1, 1, 0, 1, false) else none)) else (bif Nat.ble 28 pc then (bif Nat.beq pc 28 then some (.ifCond .eq 7, 3, 35, 0, false) else none) else (bif Nat.beq pc 27 then some (.baload, 1, 0, 0, false) else none)))
    else
     (bif Nat.ble 23 pc then (bif Nat.ble 26 pc then (bif Nat.beq pc 26 then some (.iload_n 2, 1, 0, 0, false) else none) else (bif Nat.beq pc 23 then some (.getfield 69, 3, 0, 0, false) else none)) else (bif Nat.beq pc 22 then some (.aload_n 0, 1, 0, 0, false) else none))))
  else
   (bif Nat.ble 11 pc then
    (bif Nat.ble 16 pc then
     (bif Nat.ble 18 pc then (bif Nat.ble 19 pc then (bif Nat.beq pc 19 then some (.if_icmp .ne 16, 3, 35, 0, false) else none) else (bif Nat.beq pc 18 then some (.iload_n 2, 1, 0, 0, false) else none)) else (bif Nat.ble 17 pc then (bif Nat.beq pc 17 then some (.iaload, 1, 0, 0, false) else none) else (bif Nat.beq pc 16 then some (.iload_n 2, 1, 0, 0, false) else none)))
    else
     (bif Nat.ble 12 pc then (bif Nat.ble 13 pc then (bif Nat.beq pc 13 then some (.getfield 66, 3, 0, 0, false) else none) else (bif Nat.beq pc 12 then some (.aload_n 0, 1, 0, 0, false) else none)) else (bif Nat.beq pc 11 then some (.iload_n 1, 1, 0, 0, false) else none)))
   else
    (bif Nat.ble 3 pc then
     (bif Nat.ble 5 pc then (bif Nat.ble 8 pc then (bif Nat.beq pc 8 then some (.if_icmp .ge 36, 3, 44, 0, false) else none) else (bif Nat.beq pc 5 then some (.sipush 144, 3, 0, 144, false) else none)) else (bif Nat.ble 4 pc then (bif Nat.beq pc 4 then some (.iload_n 2, 1, 0, 0, true) else none) else (bif Nat.beq pc 3 then some (.istore_n 2, 1, 0, 0, false) else none)))
    else
     (bif Nat.ble 1 pc then (bif Nat.ble 2 pc then (bif Nat.beq pc 2 then some (.iconst 0, 1, 0, 0, false) else none) else (bif Nat.beq pc 1 then some (.istore_n 1, 1, 0, 0, false) else none)) else (bif Nat.beq pc 0 then some (.iconst 0, 1, 0, 0, false) else none)))))
def qX8_step (pc : Nat) : Option mIn :=
  (bif Nat.ble 115 pc then
   (bif Nat.ble 155 pc then
    (bif Nat.ble 176 pc then
     (bif Nat.ble 187 pc then
      (bif Nat.ble 192 pc then
       (bif Nat.ble 195 pc then (bif Nat.ble 196 pc then (bif Nat.beq pc 196 then some (.ireturn, 1, 0, 0, false) else none) else (bif Nat.beq pc 195 then some (.iload_n 3, 1, 0, 0, false) else none)) else (bif Nat.beq pc 192 then some (.goto (-45), 3, 147, 0, false) else none))
      else
       (bif Nat.ble 188 pc then (bif Nat.ble 189 pc then (bif Nat.beq pc 189 then some (.iinc 4 1, 3, 0, 1, false) else none) else (bif Nat.beq pc 188 then some (.istore_n 3, 1, 0, 0, false) else none)) else (bif Nat.beq pc 187 then some (.iadd, 1, 0, 0, false) else none)))
     else
      (bif Nat.ble 182 pc then
       (bif Nat.ble 183 pc then (bif Nat.ble 186 pc then (bif Nat.beq pc 186 then some (.iconst 0, 1, 0, 0, false) else none) else (bif Nat.beq pc 183 then some (.goto 4, 3, 187, 0, false) else none)) else (bif Nat.beq pc 182 then some (.iconst 1, 1, 0, 1, false) else none))
      else
       (bif Nat.ble 178 pc then (bif Nat.ble 179 pc then (bif Nat.beq pc 179 then some (.if_icmp .eq 7, 3, 186, 0, false) else none) else (bif Nat.beq pc 178 then some (.iaload, 1, 0, 0, false) else none)) else (bif Nat.beq pc 176 then some (.iload 4, 2, 0, 0, false) else none))))
    else
     (bif Nat.ble 165 pc then
      (bif Nat.ble 171 pc then
       (bif Nat.ble 172 pc then (bif Nat.ble 173 pc then (bif Nat.beq pc 173 then some (.getfield 84, 3, 0, 0, false) else none) else (bif Nat.beq pc 172 then some (.aload_n 0, 1, 0, 0, false) else none)) else (bif Nat.beq pc 171 then some (.iaload, 1, 0, 0, false) else none))
      else
       (bif Nat.ble 166 pc then (bif Nat.ble 169 pc then (bif Nat.beq pc 169 then some (.iload 4, 2, 0, 0, false) else none) else (bif Nat.beq pc 166 then some (.getfield 72, 3, 0, 0, false) else none)) else (bif Nat.beq pc 165 then some (.aload_n 0, 1, 0, 0, false) else none)))
     else
      (bif Nat.ble 157 pc then
       (bif Nat.ble 159 pc then (bif Nat.ble 162 pc then (bif Nat.beq pc 162 then some (.ifCond .eq 24, 3, 186, 0, false) else none) else (bif Nat.beq pc 159 then some (.invokevirtual 154, 3, 0, 0, false) else none)) else (bif Nat.beq pc 157 then some (.iload 4, 2, 0, 0, false) else none))
      else
       (bif Nat.ble 156 pc then (bif Nat.beq pc 156 then some (.aload_n 0, 1, 0, 0, false) else none) else (bif Nat.beq pc 155 then some (.iload_n 3, 1, 0, 0, false) else none)))))
   else
    (bif Nat.ble 136 pc then
     (bif Nat.ble 143 pc then
      (bif Nat.ble 147 pc then
       (bif Nat.ble 149 pc then (bif Nat.ble 152 pc then (bif Nat.beq pc 152 then some (.if_icmp .ge 43, 3, 195, 0, false) else none) else (bif Nat.beq pc 149 then some (.sipush 144, 3, 0, 144, false) else none)) else (bif Nat.beq pc 147 then some (.iload 4, 2, 0, 0, true) else none))
      else
       (bif Nat.ble 144 pc then (bif Nat.ble 145 pc then (bif Nat.beq pc 145 then some (.istore 4, 2, 0, 0, false) else none) else (bif Nat.beq pc 144 then some (.iconst 0, 1, 0, 0, false) else none)) else (bif Nat.beq pc 143 then some (.istore_n 3, 1, 0, 0, false) else none)))
     else
      (bif Nat.ble 138 pc then
       (bif Nat.ble 139 pc then (bif Nat.ble 142 pc then (bif Nat.beq pc 142 then some (.iconst 0, 1, 0, 0, false) else none) else (bif Nat.beq pc 139 then some (.invokevirtual 235, 3, 0, 0, false) else none)) else (bif Nat.beq pc 138 then some (.iload_n 1, 1, 0, 0, false) else none))
      else
       (bif Nat.ble 137 pc then (bif Nat.beq pc 137 then some (.aload_n 0, 1, 0, 0, false) else none) else (bif Nat.beq pc 136 then some (.ireturn, 1, 0, 0, false) else none))))
    else
     (bif Nat.ble 124 pc then
      (bif Nat.ble 131 pc then
       (bif Nat.ble 132 pc then (bif Nat.ble 135 pc then (bif Nat.beq pc 135 then some (.isub, 1, 0, 0, false) else none) else (bif Nat.beq pc 132 then some (.invokevirtual 232, 3, 0, 0, false) else none)) else (bif Nat.beq pc 131 then some (.aload_n 0, 1, 0, 0, false) else none))
      else
       (bif Nat.ble 127 pc then (bif Nat.ble 128 pc then (bif Nat.beq pc 128 then some (.getfield 173, 3, 0, 0, false) else none) else (bif Nat.beq pc 127 then some (.aload_n 0, 1, 0, 0, false) else none)) else (bif Nat.beq pc 124 then some (.invokevirtual 189, 3, 0, 0, false) else none)))
     else
      (bif Nat.ble 119 pc then
       (bif Nat.ble 122 pc then (bif Nat.ble 123 pc then (bif Nat.beq pc 123 then some (.aload_n 0, 1, 0, 0, false) else none) else (bif Nat.beq pc 122 then some (.ireturn, 1, 0, 0, false) else none)) else (bif Nat.beq pc 119 then some (.getfield 173, 3, 0, 0, false) else none))
      else
       (bif Nat.ble 118 pc then (bif Nat.beq pc 118 then some (.aload_n 0, 1, 0, 0, false) else none) else (bif Nat.beq pc 115 then some (.invokevirtual 189, 3, 0, 0, false) else none))))))
  else
   (bif Nat.ble 80 pc then
    (bif Nat.ble 95 pc then
     (bif Nat.ble 105 pc then
      (bif Nat.ble 112 pc then
       (bif Nat.ble 113 pc then (bif Nat.ble 114 pc then (bif Nat.beq pc 114 then some (.aload_n 0, 1, 0, 0, false) else none) else (bif Nat.beq pc 113 then some (.ireturn, 1, 0, 0, false) else none)) else (bif Nat.beq pc 112 then some (.iconst 0, 1, 0, 0, false) else none))
      else
       (bif Nat.ble 108 pc then (bif Nat.ble 109 pc then (bif Nat.beq pc 109 then some (.goto 4, 3, 113, 0, false) else none) else (bif Nat.beq pc 108 then some (.iconst 1, 1, 0, 1, false) else none)) else (bif Nat.beq pc 105 then some (.ifCond .eq 7, 3, 112, 0, false) else none)))
     else
      (bif Nat.ble 100 pc then
       (bif Nat.ble 101 pc then (bif Nat.ble 102 pc then (bif Nat.beq pc 102 then some (.invokevirtual 186, 3, 0, 0, false) else none) else (bif Nat.beq pc 101 then some (.iload_n 1, 1, 0, 0, false) else none)) else (bif Nat.beq pc 100 then some (.aload_n 0, 1, 0, 0, false) else none))
      else
       (bif Nat.ble 96 pc then (bif Nat.ble 99 pc then (bif Nat.beq pc 99 then some (.ireturn, 1, 0, 0, false) else none) else (bif Nat.beq pc 96 then some (.invokevirtual 166, 3, 0, 0, false) else none)) else (bif Nat.beq pc 95 then some (.aload_n 0, 1, 0, 0, false) else none))))
    else
     (bif Nat.ble 85 pc then
      (bif Nat.ble 90 pc then
       (bif Nat.ble 91 pc then (bif Nat.ble 94 pc then (bif Nat.beq pc 94 then some (.ireturn, 1, 0, 0, false) else none) else (bif Nat.beq pc 91 then some (.invokevirtual 229, 3, 0, 0, false) else none)) else (bif Nat.beq pc 90 then some (.iconst 2, 1, 0, 2, false) else none))
      else
       (bif Nat.ble 88 pc then (bif Nat.ble 89 pc then (bif Nat.beq pc 89 then some (.aload_n 0, 1, 0, 0, false) else none) else (bif Nat.beq pc 88 then some (.ireturn, 1, 0, 0, false) else none)) else (bif Nat.beq pc 85 then some (.invokevirtual 229, 3, 0, 0, false) else none)))
     else
      (bif Nat.ble 82 pc then
       (bif Nat.ble 83 pc then (bif Nat.ble 84 pc then (bif Nat.beq pc 84 then some (.iconst 1, 1, 0, 1, false) else none) else (bif Nat.beq pc 83 then some (.aload_n 0, 1, 0, 0, false) else none)) else (bif Nat.beq pc 82 then some (.ireturn, 1, 0, 0, false) else none))
      else
       (bif Nat.ble 81 pc then (bif Nat.beq pc 81 then some (.iaload, 1, 0, 0, false) else none) else (bif Nat.beq pc 80 then some (.iload_n 1, 1, 0, 0, false) else none)))))
   else
    (bif Nat.ble 19 pc then
     (bif Nat.ble 28 pc then
      (bif Nat.ble 33 pc then
       (bif Nat.ble 76 pc then (bif Nat.ble 77 pc then (bif Nat.beq pc 77 then some (.getfield 19, 3, 0, 0, false) else none) else (bif Nat.beq pc 76 then some (.aload_n 0, 1, 0, 0, false) else none)) else (bif Nat.beq pc 33 then some (.tableswitch 104 0 6 #[43, 50, 56, 62, 67, 81, 90], 43, 0, 0, false) else none))
      else
       (bif Nat.ble 29 pc then (bif Nat.ble 32 pc then (bif Nat.beq pc 32 then some (.iload_n 2, 1, 0, 0, false) else none) else (bif Nat.beq pc 29 then some (.invokevirtual 179, 3, 0, 0, false) else none)) else (bif Nat.beq pc 28 then some (.iload_n 1, 1, 0, 0, false) else none)))
     else
      (bif Nat.ble 25 pc then
       (bif Nat.ble 26 pc then (bif Nat.ble 27 pc then (bif Nat.beq pc 27 then some (.aload_n 0, 1, 0, 0, false) else none) else (bif Nat.beq pc 26 then some (.ireturn, 1, 0, 0, false) else none)) else (bif Nat.beq pc 25 then some (.iconst (-1), 1, 0, -1, false) else none))
      else
       (bif Nat.ble 22 pc then (bif Nat.beq pc 22 then some (.ifCond .ne 5, 3, 27, 0, false) else none) else (bif Nat.beq pc 19 then some (.invokestatic 96, 3, 0, 0, false) else none))))
    else
     (bif Nat.ble 7 pc then
      (bif Nat.ble 14 pc then
       (bif Nat.ble 15 pc then (bif Nat.ble 16 pc then (bif Nat.beq pc 16 then some (.ldc2_w 227, 3, 0, 0, false) else none) else (bif Nat.beq pc 15 then some (.lconst 0, 1, 0, 0, false) else none)) else (bif Nat.beq pc 14 then some (.i2l, 1, 0, 0, false) else none))
      else
       (bif Nat.ble 10 pc then (bif Nat.ble 13 pc then (bif Nat.beq pc 13 then some (.iload_n 2, 1, 0, 0, false) else none) else (bif Nat.beq pc 10 then some (.ifCond .eq 15, 3, 25, 0, false) else none)) else (bif Nat.beq pc 7 then some (.invokevirtual 141, 3, 0, 0, false) else none)))
     else
      (bif Nat.ble 2 pc then
       (bif Nat.ble 5 pc then (bif Nat.ble 6 pc then (bif Nat.beq pc 6 then some (.iload_n 1, 1, 0, 0, false) else none) else (bif Nat.beq pc 5 then some (.aload_n 0, 1, 0, 0, false) else none)) else (bif Nat.beq pc 2 then some (.putfield 3, 3, 0, 0, false) else none))
      else
       (bif Nat.ble 1 pc then (bif Nat.beq pc 1 then some (.iconst 0, 1, 0, 0, false) else none) else (bif Nat.beq pc 0 then some (.aload_n 0, 1, 0, 0, false) else none)))))))
def qX8_moved (pc : Nat) : Option mIn :=
  (bif Nat.ble 42 pc then
   (bif Nat.ble 66 pc then
    (bif Nat.ble 76 pc then
     (bif Nat.ble 79 pc then
      (bif Nat.ble 82 pc then (bif Nat.ble 83 pc then (bif Nat.beq pc 83 then some (.ireturn, 1, 0, 0, false) else none) else (bif Nat.beq pc 82 then some (.isub, 1, 0, 0, false) else none)) else (bif Nat.beq pc 79 then some (.invokevirtual 221, 3, 0, 0, false) else none))
     else
      (bif Nat.ble 77 pc then (bif Nat.ble 78 pc then (bif Nat.beq pc 78 then some (.iload_n 1, 1, 0, 0, false) else none) else (bif Nat.beq pc 77 then some (.isub, 1, 0, 0, false) else none)) else (bif Nat.beq pc 76 then some (.iconst 1, 1, 0, 1, false) else none)))
    else
     (bif Nat.ble 73 pc then
      (bif Nat.ble 74 pc then (bif Nat.ble 75 pc then (bif Nat.beq pc 75 then some (.iload_n 2, 1, 0, 0, false) else none) else (bif Nat.beq pc 74 then some (.aload_n 0, 1, 0, 0, false) else none)) else (bif Nat.beq pc 73 then some (.iload_n 3, 1, 0, 0, false) else none))
     else
      (bif Nat.ble 67 pc then (bif Nat.ble 70 pc then (bif Nat.beq pc 70 then some (.goto (-25), 3, 45, 0, false) else none) else (bif Nat.beq pc 67 then some (.iinc 4 1, 3, 0, 1, false) else none)) else (bif Nat.beq pc 66 then some (.iastore, 1, 0, 0, false) else none))))
   else
    (bif Nat.ble 54 pc then
     (bif Nat.ble 60 pc then
      (bif Nat.ble 63 pc then (bif Nat.ble 65 pc then (bif Nat.beq pc 65 then some (.iaload, 1, 0, 0, false) else none) else (bif Nat.beq pc 63 then some (.iload 4, 2, 0, 0, false) else none)) else (bif Nat.beq pc 60 then some (.getfield 84, 3, 0, 0, false) else none))
     else
      (bif Nat.ble 57 pc then (bif Nat.ble 59 pc then (bif Nat.beq pc 59 then some (.aload_n 0, 1, 0, 0, false) else none) else (bif Nat.beq pc 57 then some (.iload 4, 2, 0, 0, false) else none)) else (bif Nat.beq pc 54 then some (.getfield 72, 3, 0, 0, false) else none)))
    else
     (bif Nat.ble 47 pc then
      (bif Nat.ble 50 pc then (bif Nat.ble 53 pc then (bif Nat.beq pc 53 then some (.aload_n 0, 1, 0, 0, false) else none) else (bif Nat.beq pc 50 then some (.if_icmp .ge 23, 3, 73, 0, false) else none)) else (bif Nat.beq pc 47 then some (.sipush 144, 3, 0, 144, false) else none))
     else
      (bif Nat.ble 43 pc then (bif Nat.ble 45 pc then (bif Nat.beq pc 45 then some (.iload 4, 2, 0, 0, true) else none) else (bif Nat.beq pc 43 then some (.istore 4, 2, 0, 0, false) else none)) else (bif Nat.beq pc 42 then some (.iconst 0, 1, 0, 0, false) else none)))))
  else
   (bif Nat.ble 22 pc then
    (bif Nat.ble 32 pc then
     (bif Nat.ble 37 pc then
      (bif Nat.ble 38 pc then (bif Nat.ble 41 pc then (bif Nat.beq pc 41 then some (.istore_n 3, 1, 0, 0, false) else none) else (bif Nat.beq pc 38 then some (.invokevirtual 221, 3, 0, 0, false) else none)) else (bif Nat.beq pc 37 then some (.iload_n 1, 1, 0, 0, false) else none))
     else
      (bif Nat.ble 35 pc then (bif Nat.ble 36 pc then (bif Nat.beq pc 36 then some (.iload_n 2, 1, 0, 0, false) else none) else (bif Nat.beq pc 35 then some (.aload_n 0, 1, 0, 0, false) else none)) else (bif Nat.beq pc 32 then some (.invokevirtual 235, 3, 0, 0, false) else none)))
    else
     (bif Nat.ble 29 pc then
      (bif Nat.ble 30 pc then (bif Nat.ble 31 pc then (bif Nat.beq pc 31 then some (.iload_n 2, 1, 0, 0, false) else none) else (bif Nat.beq pc 30 then some (.aload_n 0, 1, 0, 0, false) else none)) else (bif Nat.beq pc 29 then some (.ireturn, 1, 0, 0, false) else none))
     else
      (bif Nat.ble 25 pc then (bif Nat.ble 26 pc then (bif Nat.beq pc 26 then some (.invokevirtual 238, 3, 0, 0, false) else none) else (bif Nat.beq pc 25 then some (.aload_n 0, 1, 0, 0, false) else none)) else (bif Nat.beq pc 22 then some (.ifCond .ne 8, 3, 30, 0, false) else none))))
   else
    (bif Nat.ble 8 pc then
     (bif Nat.ble 17 pc then
      (bif Nat.ble 18 pc then (bif Nat.ble 19 pc then (bif Nat.beq pc 19 then some (.invokevirtual 141, 3, 0, 0, false) else none) else (bif Nat.beq pc 18 then some (.iload_n 2, 1, 0, 0, false) else none)) else (bif Nat.beq pc 17 then some (.aload_n 0, 1, 0, 0, false) else none))
     else
      (bif Nat.ble 11 pc then (bif Nat.ble 14 pc then (bif Nat.beq pc 14 then some (.ifCond .eq 11, 3, 25, 0, false) else none) else (bif Nat.beq pc 11 then some (.invokestatic 96, 3, 0, 0, false) else none)) else (bif Nat.beq pc 8 then some (.ldc2_w 132, 3, 0, 0, false) else none)))
    else
     (bif Nat.ble 5 pc then
      (bif Nat.ble 6 pc then (bif Nat.ble 7 pc then (bif Nat.beq pc 7 then some (.lconst 0, 1, 0, 0, false) else none) else (bif Nat.beq pc 6 then some (.i2l, 1, 0, 0, false) else none)) else (bif Nat.beq pc 5 then some (.iload_n 1, 1, 0, 0, false) else none))
     else
      (bif Nat.ble 1 pc then (bif Nat.ble 2 pc then (bif Nat.beq pc 2 then some (.putfield 3, 3, 0, 0, false) else none) else (bif Nat.beq pc 1 then some (.iconst 0, 1, 0, 0, false) else none)) else (bif Nat.beq pc 0 then some (.aload_n 0, 1, 0, 0, false) else none))))))
def qX8_unlike (pc : Nat) : Option mIn :=
  (bif Nat.ble 42 pc then
   (bif Nat.ble 69 pc then
    (bif Nat.ble 83 pc then
     (bif Nat.ble 86 pc then
      (bif Nat.ble 92 pc then (bif Nat.ble 93 pc then (bif Nat.beq pc 93 then some (.ireturn, 1, 0, 0, false) else none) else (bif Nat.beq pc 92 then some (.iload_n 3, 1, 0, 0, false) else none)) else (bif Nat.ble 89 pc then (bif Nat.beq pc 89 then some (.goto (-45), 3, 44, 0, false) else none) else (bif Nat.beq pc 86 then some (.iinc 4 1, 3, 0, 1, false) else none)))
     else
      (bif Nat.ble 84 pc then (bif Nat.ble 85 pc then (bif Nat.beq pc 85 then some (.istore_n 3, 1, 0, 0, false) else none) else (bif Nat.beq pc 84 then some (.iadd, 1, 0, 0, false) else none)) else (bif Nat.beq pc 83 then some (.iconst 0, 1, 0, 0, false) else none)))
    else
     (bif Nat.ble 75 pc then
      (bif Nat.ble 79 pc then (bif Nat.ble 80 pc then (bif Nat.beq pc 80 then some (.goto 4, 3, 84, 0, false) else none) else (bif Nat.beq pc 79 then some (.iconst 1, 1, 0, 1, false) else none)) else (bif Nat.ble 76 pc then (bif Nat.beq pc 76 then some (.if_icmp .eq 7, 3, 83, 0, false) else none) else (bif Nat.beq pc 75 then some (.iaload, 1, 0, 0, false) else none)))
     else
      (bif Nat.ble 70 pc then (bif Nat.ble 73 pc then (bif Nat.beq pc 73 then some (.iload 4, 2, 0, 0, false) else none) else (bif Nat.beq pc 70 then some (.getfield 84, 3, 0, 0, false) else none)) else (bif Nat.beq pc 69 then some (.aload_n 0, 1, 0, 0, false) else none))))
   else
    (bif Nat.ble 54 pc then
     (bif Nat.ble 62 pc then
      (bif Nat.ble 66 pc then (bif Nat.ble 68 pc then (bif Nat.beq pc 68 then some (.iaload, 1, 0, 0, false) else none) else (bif Nat.beq pc 66 then some (.iload 4, 2, 0, 0, false) else none)) else (bif Nat.ble 63 pc then (bif Nat.beq pc 63 then some (.getfield 72, 3, 0, 0, false) else none) else (bif Nat.beq pc 62 then some (.aload_n 0, 1, 0, 0, false) else none)))
     else
      (bif Nat.ble 56 pc then (bif Nat.ble 59 pc then (bif Nat.beq pc 59 then some (.ifCond .eq 24, 3, 83, 0, false) else none) else (bif Nat.beq pc 56 then some (.invokevirtual 154, 3, 0, 0, false) else none)) else (bif Nat.beq pc 54 then some (.iload 4, 2, 0, 0, false) else none)))
    else
     (bif Nat.ble 49 pc then
      (bif Nat.ble 52 pc then (bif Nat.ble 53 pc then (bif Nat.beq pc 53 then some (.aload_n 0, 1, 0, 0, false) else none) else (bif Nat.beq pc 52 then some (.iload_n 3, 1, 0, 0, false) else none)) else (bif Nat.beq pc 49 then some (.if_icmp .ge 43, 3, 92, 0, false) else none))
     else
      (bif Nat.ble 44 pc then (bif Nat.ble 46 pc then (bif Nat.beq pc 46 then some (.sipush 144, 3, 0, 144, false) else none) else (bif Nat.beq pc 44 then some (.iload 4, 2, 0, 0, true) else none)) else (bif Nat.beq pc 42 then some (.istore 4, 2, 0, 0, false) else none)))))
  else
   (bif Nat.ble 21 pc then
    (bif Nat.ble 33 pc then
     (bif Nat.ble 36 pc then
      (bif Nat.ble 40 pc then (bif Nat.ble 41 pc then (bif Nat.beq pc 41 then some (.iconst 0, 1, 0, 0, false) else none) else (bif Nat.beq pc 40 then some (.istore_n 3, 1, 0, 0, false) else none)) else (bif Nat.ble 39 pc then (bif Nat.beq pc 39 then some (.iconst 0, 1, 0, 0, false) else none) else (bif Nat.beq pc 36 then some (.invokevirtual 215, 3, 0, 0, false) else none)))
     else
      (bif Nat.ble 34 pc then (bif Nat.ble 35 pc then (bif Nat.beq pc 35 then some (.iload_n 1, 1, 0, 0, false) else none) else (bif Nat.beq pc 34 then some (.iload_n 2, 1, 0, 0, false) else none)) else (bif Nat.beq pc 33 then some (.aload_n 0, 1, 0, 0, false) else none)))
    else
     (bif Nat.ble 26 pc then
      (bif Nat.ble 27 pc then (bif Nat.ble 30 pc then (bif Nat.beq pc 30 then some (.goto (-22), 3, 8, 0, false) else none) else (bif Nat.beq pc 27 then some (.iinc 3 1, 3, 0, 1, false) else none)) else (bif Nat.beq pc 26 then some (.iastore, 1, 0, 0, false) else none))
     else
      (bif Nat.ble 24 pc then (bif Nat.ble 25 pc then (bif Nat.beq pc 25 then some (.iaload, 1, 0, 0, false) else none) else (bif Nat.beq pc 24 then some (.iload_n 3, 1, 0, 0, false) else none)) else (bif Nat.beq pc 21 then some (.getfield 72, 3, 0, 0, false) else none))))
   else
    (bif Nat.ble 8 pc then
     (bif Nat.ble 15 pc then
      (bif Nat.ble 19 pc then (bif Nat.ble 20 pc then (bif Nat.beq pc 20 then some (.aload_n 0, 1, 0, 0, false) else none) else (bif Nat.beq pc 19 then some (.iload_n 3, 1, 0, 0, false) else none)) else (bif Nat.ble 16 pc then (bif Nat.beq pc 16 then some (.getfield 84, 3, 0, 0, false) else none) else (bif Nat.beq pc 15 then some (.aload_n 0, 1, 0, 0, false) else none)))
     else
      (bif Nat.ble 9 pc then (bif Nat.ble 12 pc then (bif Nat.beq pc 12 then some (.if_icmp .ge 21, 3, 33, 0, false) else none) else (bif Nat.beq pc 9 then some (.sipush 144, 3, 0, 144, false) else none)) else (bif Nat.beq pc 8 then some (.iload_n 3, 1, 0, 0, true) else none)))
    else
     (bif Nat.ble 3 pc then
      (bif Nat.ble 6 pc then (bif Nat.ble 7 pc then (bif Nat.beq pc 7 then some (.istore_n 3, 1, 0, 0, false) else none) else (bif Nat.beq pc 6 then some (.iconst 0, 1, 0, 0, false) else none)) else (bif Nat.beq pc 3 then some (.invokevirtual 215, 3, 0, 0, false) else none))
     else
      (bif Nat.ble 1 pc then (bif Nat.ble 2 pc then (bif Nat.beq pc 2 then some (.iconst (-1), 1, 0, -1, false) else none) else (bif Nat.beq pc 1 then some (.iload_n 2, 1, 0, 0, false) else none)) else (bif Nat.beq pc 0 then some (.aload_n 0, 1, 0, 0, false) else none))))))
def qX8_doubt (pc : Nat) : Option mIn :=
  (bif Nat.ble 14 pc then
   (bif Nat.ble 22 pc then
    (bif Nat.ble 26 pc then
     (bif Nat.ble 29 pc then (bif Nat.ble 30 pc then (bif Nat.beq pc 30 then some (.ireturn, 1, 0, 0, false) else none) else (bif Nat.beq pc 29 then some (.iconst (-1), 1, 0, -1, false) else none)) else (bif Nat.beq pc 26 then some (.goto 4, 3, 30, 0, false) else none))
    else
     (bif Nat.ble 23 pc then (bif Nat.beq pc 23 then some (.invokevirtual 241, 3, 0, 0, false) else none) else (bif Nat.beq pc 22 then some (.iload_n 2, 1, 0, 0, false) else none)))
   else
    (bif Nat.ble 20 pc then (bif Nat.ble 21 pc then (bif Nat.beq pc 21 then some (.iload_n 1, 1, 0, 0, false) else none) else (bif Nat.beq pc 20 then some (.aload_n 0, 1, 0, 0, false) else none)) else (bif Nat.ble 17 pc then (bif Nat.beq pc 17 then some (.ifCond .eq 12, 3, 29, 0, false) else none) else (bif Nat.beq pc 14 then some (.invokestatic 118, 3, 0, 0, false) else none))))
  else
   (bif Nat.ble 6 pc then
    (bif Nat.ble 10 pc then (bif Nat.ble 13 pc then (bif Nat.beq pc 13 then some (.iload_n 2, 1, 0, 0, false) else none) else (bif Nat.beq pc 10 then some (.ifCond .eq 19, 3, 29, 0, false) else none)) else (bif Nat.ble 7 pc then (bif Nat.beq pc 7 then some (.invokevirtual 141, 3, 0, 0, false) else none) else (bif Nat.beq pc 6 then some (.iload_n 1, 1, 0, 0, false) else none)))
   else
    (bif Nat.ble 2 pc then (bif Nat.ble 5 pc then (bif Nat.beq pc 5 then some (.aload_n 0, 1, 0, 0, false) else none) else (bif Nat.beq pc 2 then some (.putfield 3, 3, 0, 0, false) else none)) else (bif Nat.ble 1 pc then (bif Nat.beq pc 1 then some (.iconst 0, 1, 0, 0, false) else none) else (bif Nat.beq pc 0 then some (.aload_n 0, 1, 0, 0, false) else none)))))
def qX8_weak (pc : Nat) : Option mIn :=
  (bif Nat.ble 35 pc then
   (bif Nat.ble 56 pc then
    (bif Nat.ble 65 pc then
     (bif Nat.ble 69 pc then
      (bif Nat.ble 72 pc then (bif Nat.ble 73 pc then (bif Nat.beq pc 73 then some (.ireturn, 1, 0, 0, false) else none) else (bif Nat.beq pc 72 then some (.iload_n 2, 1, 0, 0, false) else none)) else (bif Nat.beq pc 69 then some (.goto (-57), 3, 12, 0, false) else none))
     else
      (bif Nat.ble 66 pc then (bif Nat.beq pc 66 then some (.iinc 4 1, 3, 0, 1, false) else none) else (bif Nat.beq pc 65 then some (.istore_n 3, 1, 0, 0, false) else none)))
    else
     (bif Nat.ble 60 pc then
      (bif Nat.ble 62 pc then (bif Nat.ble 63 pc then (bif Nat.beq pc 63 then some (.iload 5, 2, 0, 0, false) else none) else (bif Nat.beq pc 62 then some (.istore_n 2, 1, 0, 0, false) else none)) else (bif Nat.beq pc 60 then some (.iload 4, 2, 0, 0, false) else none))
     else
      (bif Nat.ble 57 pc then (bif Nat.beq pc 57 then some (.if_icmp .le 9, 3, 66, 0, false) else none) else (bif Nat.beq pc 56 then some (.iload_n 3, 1, 0, 0, false) else none))))
   else
    (bif Nat.ble 45 pc then
     (bif Nat.ble 50 pc then
      (bif Nat.ble 51 pc then (bif Nat.ble 54 pc then (bif Nat.beq pc 54 then some (.iload 5, 2, 0, 0, false) else none) else (bif Nat.beq pc 51 then some (.ifCond .lt 9, 3, 60, 0, false) else none)) else (bif Nat.beq pc 50 then some (.iload_n 2, 1, 0, 0, false) else none))
     else
      (bif Nat.ble 48 pc then (bif Nat.beq pc 48 then some (.istore 5, 2, 0, 0, false) else none) else (bif Nat.beq pc 45 then some (.invokevirtual 241, 3, 0, 0, false) else none)))
    else
     (bif Nat.ble 41 pc then
      (bif Nat.ble 42 pc then (bif Nat.ble 44 pc then (bif Nat.beq pc 44 then some (.iload_n 1, 1, 0, 0, false) else none) else (bif Nat.beq pc 42 then some (.iload 4, 2, 0, 0, false) else none)) else (bif Nat.beq pc 41 then some (.aload_n 0, 1, 0, 0, false) else none))
     else
      (bif Nat.ble 38 pc then (bif Nat.beq pc 38 then some (.goto 28, 3, 66, 0, false) else none) else (bif Nat.beq pc 35 then some (.ifCond .lt 6, 3, 41, 0, false) else none)))))
  else
   (bif Nat.ble 14 pc then
    (bif Nat.ble 25 pc then
     (bif Nat.ble 29 pc then
      (bif Nat.ble 32 pc then (bif Nat.ble 34 pc then (bif Nat.beq pc 34 then some (.iaload, 1, 0, 0, false) else none) else (bif Nat.beq pc 32 then some (.iload 4, 2, 0, 0, false) else none)) else (bif Nat.beq pc 29 then some (.getfield 60, 3, 0, 0, false) else none))
     else
      (bif Nat.ble 28 pc then (bif Nat.beq pc 28 then some (.aload_n 0, 1, 0, 0, false) else none) else (bif Nat.beq pc 25 then some (.ifCond .eq 47, 3, 72, 0, false) else none)))
    else
     (bif Nat.ble 18 pc then
      (bif Nat.ble 21 pc then (bif Nat.ble 22 pc then (bif Nat.beq pc 22 then some (.invokestatic 118, 3, 0, 0, false) else none) else (bif Nat.beq pc 21 then some (.iload_n 1, 1, 0, 0, false) else none)) else (bif Nat.beq pc 18 then some (.if_icmp .ge 54, 3, 72, 0, false) else none))
     else
      (bif Nat.ble 15 pc then (bif Nat.beq pc 15 then some (.getfield 90, 3, 0, 0, false) else none) else (bif Nat.beq pc 14 then some (.aload_n 0, 1, 0, 0, false) else none))))
   else
    (bif Nat.ble 7 pc then
     (bif Nat.ble 9 pc then
      (bif Nat.ble 10 pc then (bif Nat.ble 12 pc then (bif Nat.beq pc 12 then some (.iload 4, 2, 0, 0, true) else none) else (bif Nat.beq pc 10 then some (.istore 4, 2, 0, 0, false) else none)) else (bif Nat.beq pc 9 then some (.iconst 1, 1, 0, 1, false) else none))
     else
      (bif Nat.ble 8 pc then (bif Nat.beq pc 8 then some (.istore_n 3, 1, 0, 0, false) else none) else (bif Nat.beq pc 7 then some (.iconst 0, 1, 0, 0, false) else none)))
    else
     (bif Nat.ble 2 pc then
      (bif Nat.ble 5 pc then (bif Nat.ble 6 pc then (bif Nat.beq pc 6 then some (.istore_n 2, 1, 0, 0, false) else none) else (bif Nat.beq pc 5 then some (.iconst (-1), 1, 0, -1, false) else none)) else (bif Nat.beq pc 2 then some (.putfield 3, 3, 0, 0, false) else none))
     else
      (bif Nat.ble 1 pc then (bif Nat.beq pc 1 then some (.iconst 0, 1, 0, 0, false) else none) else (bif Nat.beq pc 0 then some (.aload_n 0, 1, 0, 0, false) else none))))))
def qX8_row (pc : Nat) : Option mIn :=
  (bif Nat.ble 14 pc then
   (bif Nat.ble 25 pc then
    (bif Nat.ble 30 pc then
     (bif Nat.ble 31 pc then (bif Nat.ble 34 pc then (bif Nat.beq pc 34 then some (.ireturn, 1, 0, 0, false) else none) else (bif Nat.beq pc 31 then some (.invokevirtual 238, 3, 0, 0, false) else none)) else (bif Nat.beq pc 30 then some (.aload_n 0, 1, 0, 0, false) else none))
    else
     (bif Nat.ble 26 pc then (bif Nat.ble 27 pc then (bif Nat.beq pc 27 then some (.goto 7, 3, 34, 0, false) else none) else (bif Nat.beq pc 26 then some (.iaload, 1, 0, 0, false) else none)) else (bif Nat.beq pc 25 then some (.iload_n 1, 1, 0, 0, false) else none)))
   else
    (bif Nat.ble 18 pc then
     (bif Nat.ble 21 pc then (bif Nat.ble 22 pc then (bif Nat.beq pc 22 then some (.getfield 78, 3, 0, 0, false) else none) else (bif Nat.beq pc 21 then some (.aload_n 0, 1, 0, 0, false) else none)) else (bif Nat.beq pc 18 then some (.ifCond .eq 12, 3, 30, 0, false) else none))
    else
     (bif Nat.ble 15 pc then (bif Nat.beq pc 15 then some (.invokestatic 96, 3, 0, 0, false) else none) else (bif Nat.beq pc 14 then some (.i2l, 1, 0, 0, false) else none))))
  else
   (bif Nat.ble 7 pc then
    (bif Nat.ble 9 pc then
     (bif Nat.ble 12 pc then (bif Nat.ble 13 pc then (bif Nat.beq pc 13 then some (.isub, 1, 0, 0, false) else none) else (bif Nat.beq pc 12 then some (.iconst 1, 1, 0, 1, false) else none)) else (bif Nat.beq pc 9 then some (.getfield 144, 3, 0, 0, false) else none))
    else
     (bif Nat.ble 8 pc then (bif Nat.beq pc 8 then some (.aload_n 0, 1, 0, 0, false) else none) else (bif Nat.beq pc 7 then some (.lconst 0, 1, 0, 0, false) else none)))
   else
    (bif Nat.ble 2 pc then
     (bif Nat.ble 5 pc then (bif Nat.ble 6 pc then (bif Nat.beq pc 6 then some (.i2l, 1, 0, 0, false) else none) else (bif Nat.beq pc 5 then some (.iload_n 1, 1, 0, 0, false) else none)) else (bif Nat.beq pc 2 then some (.putfield 3, 3, 0, 0, false) else none))
    else
     (bif Nat.ble 1 pc then (bif Nat.beq pc 1 then some (.iconst 0, 1, 0, 0, false) else none) else (bif Nat.beq pc 0 then some (.aload_n 0, 1, 0, 0, false) else none)))))
def qJ7_fill_53178 (pc : Nat) : Option mIn :=
  (bif Nat.ble 7 pc then
   (bif Nat.ble 13 pc then
    (bif Nat.ble 17 pc then (bif Nat.ble 20 pc then (bif Nat.beq pc 20 then some (.return_, 1, 0, 0, false) else none) else (bif Nat.beq pc 17 then some (.goto (-12), 3, 5, 0, false) else none)) else (bif Nat.ble 14 pc then (bif Nat.beq pc 14 then some (.iinc 2 1, 3, 0, 1, false) else none) else (bif Nat.beq pc 13 then some (.iastore, 1, 0, 0, false) else none)))
   else
    (bif Nat.ble 11 pc then (bif Nat.ble 12 pc then (bif Nat.beq pc 12 then some (.iload_n 1, 1, 0, 0, false) else none) else (bif Nat.beq pc 11 then some (.iload_n 2, 1, 0, 0, false) else none)) else (bif Nat.ble 10 pc then (bif Nat.beq pc 10 then some (.aload_n 0, 1, 0, 0, false) else none) else (bif Nat.beq pc 7 then some (.if_icmp .ge 13, 3, 20, 0, false) else none))))
  else
   (bif Nat.ble 3 pc then
    (bif Nat.ble 5 pc then (bif Nat.ble 6 pc then (bif Nat.beq pc 6 then some (.iload_n 3, 1, 0, 0, false) else none) else (bif Nat.beq pc 5 then some (.iload_n 2, 1, 0, 0, true) else none)) else (bif Nat.ble 4 pc then (bif Nat.beq pc 4 then some (.istore_n 3, 1, 0, 0, false) else none) else (bif Nat.beq pc 3 then some (.arraylength, 1, 0, 0, false) else none)))
   else
    (bif Nat.ble 1 pc then (bif Nat.ble 2 pc then (bif Nat.beq pc 2 then some (.aload_n 0, 1, 0, 0, false) else none) else (bif Nat.beq pc 1 then some (.istore_n 2, 1, 0, 0, false) else none)) else (bif Nat.beq pc 0 then some (.iconst 0, 1, 0, 0, false) else none))))
def codb (k : Nat) : Nat → Option mIn :=
  (bif Nat.ble 73 k then
   (bif Nat.ble 109 k then
    (bif Nat.ble 127 k then
     (bif Nat.ble 136 k then
      (bif Nat.ble 141 k then
       (bif Nat.ble 143 k then
        (bif Nat.ble 144 k then (bif Nat.ble 145 k then (bif Nat.beq k 145 then qJ7_fill_53178 else (fun _ => none)) else (bif Nat.beq k 144 then qX8_row else (fun _ => none))) else (bif Nat.beq k 143 then qX8_weak else (fun _ => none)))
       else
        (bif Nat.ble 142 k then (bif Nat.beq k 142 then qX8_doubt else (fun _ => none)) else (bif Nat.beq k 141 then qX8_unlike else (fun _ => none))))
      else
       (bif Nat.ble 138 k then
        (bif Nat.ble 139 k then (bif Nat.ble 140 k then (bif Nat.beq k 140 then qX8_moved else (fun _ => none)) else (bif Nat.beq k 139 then qX8_step else (fun _ => none))) else (bif Nat.beq k 138 then qX8_shores else (fun _ => none)))
       else
        (bif Nat.ble 137 k then (bif Nat.beq k 137 then qX8_walks else (fun _ => none)) else (bif Nat.beq k 136 then qX8_banks else (fun _ => none)))))
     else
      (bif Nat.ble 131 k then
       (bif Nat.ble 133 k then
        (bif Nat.ble 134 k then (bif Nat.ble 135 k then (bif Nat.beq k 135 then qX8_chain else (fun _ => none)) else (bif Nat.beq k 134 then qX8_tax else (fun _ => none))) else (bif Nat.beq k 133 then qX8_front else (fun _ => none)))
       else
        (bif Nat.ble 132 k then (bif Nat.beq k 132 then qX8_isByWater else (fun _ => none)) else (bif Nat.beq k 131 then qX8_area else (fun _ => none))))
      else
       (bif Nat.ble 129 k then (bif Nat.ble 130 k then (bif Nat.beq k 130 then qX8_isAsked else (fun _ => none)) else (bif Nat.beq k 129 then qX8_areaOn else (fun _ => none))) else (bif Nat.ble 128 k then (bif Nat.beq k 128 then qX8_owner else (fun _ => none)) else (bif Nat.beq k 127 then qX8_upTo else (fun _ => none))))))
    else
     (bif Nat.ble 118 k then
      (bif Nat.ble 122 k then
       (bif Nat.ble 124 k then
        (bif Nat.ble 125 k then (bif Nat.ble 126 k then (bif Nat.beq k 126 then qX8_goes else (fun _ => none)) else (bif Nat.beq k 125 then qX8_deedsIn else (fun _ => none))) else (bif Nat.beq k 124 then qX8_stepIn else (fun _ => none)))
       else
        (bif Nat.ble 123 k then (bif Nat.beq k 123 then qX8_begins else (fun _ => none)) else (bif Nat.beq k 122 then qX8_steps else (fun _ => none))))
      else
       (bif Nat.ble 120 k then (bif Nat.ble 121 k then (bif Nat.beq k 121 then qX8_lawIn else (fun _ => none)) else (bif Nat.beq k 120 then qX8_nearestToPart else (fun _ => none))) else (bif Nat.ble 119 k then (bif Nat.beq k 119 then qX8_awayFromPart else (fun _ => none)) else (bif Nat.beq k 118 then qX8_nearest else (fun _ => none)))))
     else
      (bif Nat.ble 113 k then
       (bif Nat.ble 115 k then
        (bif Nat.ble 116 k then (bif Nat.ble 117 k then (bif Nat.beq k 117 then qX8_findsParts else (fun _ => none)) else (bif Nat.beq k 116 then qX8_isSudden else (fun _ => none))) else (bif Nat.beq k 115 then qX8_far else (fun _ => none)))
       else
        (bif Nat.ble 114 k then (bif Nat.beq k 114 then qX8_kindsOf else (fun _ => none)) else (bif Nat.beq k 113 then qX8_away else (fun _ => none))))
      else
       (bif Nat.ble 111 k then (bif Nat.ble 112 k then (bif Nat.beq k 112 then qX8_apart else (fun _ => none)) else (bif Nat.beq k 111 then qX8_kinds else (fun _ => none))) else (bif Nat.ble 110 k then (bif Nat.beq k 110 then qX8_wet else (fun _ => none)) else (bif Nat.beq k 109 then qX8_isOn else (fun _ => none)))))))
   else
    (bif Nat.ble 91 k then
     (bif Nat.ble 100 k then
      (bif Nat.ble 104 k then
       (bif Nat.ble 106 k then
        (bif Nat.ble 107 k then (bif Nat.ble 108 k then (bif Nat.beq k 108 then qX8_isWet else (fun _ => none)) else (bif Nat.beq k 107 then qX8_mapIn else (fun _ => none))) else (bif Nat.beq k 106 then qX8_count else (fun _ => none)))
       else
        (bif Nat.ble 105 k then (bif Nat.beq k 105 then qX8_judge else (fun _ => none)) else (bif Nat.beq k 104 then qX8_isStep else (fun _ => none))))
      else
       (bif Nat.ble 102 k then (bif Nat.ble 103 k then (bif Nat.beq k 103 then qX8_reach else (fun _ => none)) else (bif Nat.beq k 102 then qX8_law else (fun _ => none))) else (bif Nat.ble 101 k then (bif Nat.beq k 101 then qX8_strike else (fun _ => none)) else (bif Nat.beq k 100 then qX8_deed else (fun _ => none)))))
     else
      (bif Nat.ble 95 k then
       (bif Nat.ble 97 k then
        (bif Nat.ble 98 k then (bif Nat.ble 99 k then (bif Nat.beq k 99 then qX8_own else (fun _ => none)) else (bif Nat.beq k 98 then qX8_isInBox else (fun _ => none))) else (bif Nat.beq k 97 then qX8_isBox else (fun _ => none)))
       else
        (bif Nat.ble 96 k then (bif Nat.beq k 96 then qX8_map else (fun _ => none)) else (bif Nat.beq k 95 then qX8_sheet else (fun _ => none))))
      else
       (bif Nat.ble 93 k then (bif Nat.ble 94 k then (bif Nat.beq k 94 then qX8_water else (fun _ => none)) else (bif Nat.beq k 93 then qX8_rowOf else (fun _ => none))) else (bif Nat.ble 92 k then (bif Nat.beq k 92 then qX8_land else (fun _ => none)) else (bif Nat.beq k 91 then qX8_cell else (fun _ => none))))))
    else
     (bif Nat.ble 82 k then
      (bif Nat.ble 86 k then
       (bif Nat.ble 88 k then
        (bif Nat.ble 89 k then (bif Nat.ble 90 k then (bif Nat.beq k 90 then qX8_isYear else (fun _ => none)) else (bif Nat.beq k 89 then qX8_isCell else (fun _ => none))) else (bif Nat.beq k 88 then qX8_lays else (fun _ => none)))
       else
        (bif Nat.ble 87 k then (bif Nat.beq k 87 then qX8_refuse else (fun _ => none)) else (bif Nat.beq k 86 then qX8_in else (fun _ => none))))
      else
       (bif Nat.ble 84 k then (bif Nat.ble 85 k then (bif Nat.beq k 85 then qX8_thrown else (fun _ => none)) else (bif Nat.beq k 84 then qX7_isOwnerOrNone else (fun _ => none))) else (bif Nat.ble 83 k then (bif Nat.beq k 83 then qX7_isOwner else (fun _ => none)) else (bif Nat.beq k 82 then qX7_isYear else (fun _ => none)))))
     else
      (bif Nat.ble 77 k then
       (bif Nat.ble 79 k then
        (bif Nat.ble 80 k then (bif Nat.ble 81 k then (bif Nat.beq k 81 then qX7_isBetween else (fun _ => none)) else (bif Nat.beq k 80 then qX7_tell else (fun _ => none))) else (bif Nat.beq k 79 then qX7_row else (fun _ => none)))
       else
        (bif Nat.ble 78 k then (bif Nat.beq k 78 then qX7_weak else (fun _ => none)) else (bif Nat.beq k 77 then qX7_doubt else (fun _ => none))))
      else
       (bif Nat.ble 75 k then (bif Nat.ble 76 k then (bif Nat.beq k 76 then qX7_moved else (fun _ => none)) else (bif Nat.beq k 75 then qX7_step else (fun _ => none))) else (bif Nat.ble 74 k then (bif Nat.beq k 74 then qX7_banks else (fun _ => none)) else (bif Nat.beq k 73 then qX7_chain else (fun _ => none))))))))
  else
   (bif Nat.ble 36 k then
    (bif Nat.ble 54 k then
     (bif Nat.ble 63 k then
      (bif Nat.ble 68 k then
       (bif Nat.ble 70 k then
        (bif Nat.ble 71 k then (bif Nat.ble 72 k then (bif Nat.beq k 72 then qX7_tax else (fun _ => none)) else (bif Nat.beq k 71 then qX7_front else (fun _ => none))) else (bif Nat.beq k 70 then qX7_area else (fun _ => none)))
       else
        (bif Nat.ble 69 k then (bif Nat.beq k 69 then qX7_owner else (fun _ => none)) else (bif Nat.beq k 68 then qX7_wet else (fun _ => none))))
      else
       (bif Nat.ble 65 k then
        (bif Nat.ble 66 k then (bif Nat.ble 67 k then (bif Nat.beq k 67 then qX7_count else (fun _ => none)) else (bif Nat.beq k 66 then qX7_judge else (fun _ => none))) else (bif Nat.beq k 65 then qX7_reach else (fun _ => none)))
       else
        (bif Nat.ble 64 k then (bif Nat.beq k 64 then qX7_law else (fun _ => none)) else (bif Nat.beq k 63 then qX7_strike else (fun _ => none)))))
     else
      (bif Nat.ble 58 k then
       (bif Nat.ble 60 k then
        (bif Nat.ble 61 k then (bif Nat.ble 62 k then (bif Nat.beq k 62 then qX7_deed else (fun _ => none)) else (bif Nat.beq k 61 then qX7_own else (fun _ => none))) else (bif Nat.beq k 60 then qX7_map else (fun _ => none)))
       else
        (bif Nat.ble 59 k then (bif Nat.beq k 59 then qX7_sheet else (fun _ => none)) else (bif Nat.beq k 58 then qX7_water else (fun _ => none))))
      else
       (bif Nat.ble 56 k then (bif Nat.ble 57 k then (bif Nat.beq k 57 then qX7_land else (fun _ => none)) else (bif Nat.beq k 56 then qX6_fastNearestTo else (fun _ => none))) else (bif Nat.ble 55 k then (bif Nat.beq k 55 then qX6_settleIsle else (fun _ => none)) else (bif Nat.beq k 54 then qX6_settleShore else (fun _ => none))))))
    else
     (bif Nat.ble 45 k then
      (bif Nat.ble 49 k then
       (bif Nat.ble 51 k then
        (bif Nat.ble 52 k then (bif Nat.ble 53 k then (bif Nat.beq k 53 then qX6_partIsByFast else (fun _ => none)) else (bif Nat.beq k 52 then qX6_gather else (fun _ => none))) else (bif Nat.beq k 51 then qX6_sortParts else (fun _ => none)))
       else
        (bif Nat.ble 50 k then (bif Nat.beq k 50 then qX6_apartFromOldWater else (fun _ => none)) else (bif Nat.beq k 49 then qX6_apartFromFast else (fun _ => none))))
      else
       (bif Nat.ble 47 k then (bif Nat.ble 48 k then (bif Nat.beq k 48 then qX6_dryParts else (fun _ => none)) else (bif Nat.beq k 47 then qX6_measure else (fun _ => none))) else (bif Nat.ble 46 k then (bif Nat.beq k 46 then qX5_changedByDoubt else (fun _ => none)) else (bif Nat.beq k 45 then qX5_wonBy else (fun _ => none)))))
     else
      (bif Nat.ble 40 k then
       (bif Nat.ble 42 k then
        (bif Nat.ble 43 k then (bif Nat.ble 44 k then (bif Nat.beq k 44 then qX5_changedBy else (fun _ => none)) else (bif Nat.beq k 43 then qX5_runAheadOf else (fun _ => none))) else (bif Nat.beq k 42 then qX5_differing else (fun _ => none)))
       else
        (bif Nat.ble 41 k then (bif Nat.beq k 41 then qX5_keep else (fun _ => none)) else (bif Nat.beq k 40 then qX5_isByWater else (fun _ => none))))
      else
       (bif Nat.ble 38 k then (bif Nat.ble 39 k then (bif Nat.beq k 39 then qX5_dryByWaterOf else (fun _ => none)) else (bif Nat.beq k 38 then qX5_dryOf else (fun _ => none))) else (bif Nat.ble 37 k then (bif Nat.beq k 37 then qX5_takeDeed else (fun _ => none)) else (bif Nat.beq k 36 then qX5_shiftOwners else (fun _ => none)))))))
   else
    (bif Nat.ble 18 k then
     (bif Nat.ble 27 k then
      (bif Nat.ble 31 k then
       (bif Nat.ble 33 k then
        (bif Nat.ble 34 k then (bif Nat.ble 35 k then (bif Nat.beq k 35 then qX5_takeStep else (fun _ => none)) else (bif Nat.beq k 34 then qX5_nextDeedYear else (fun _ => none))) else (bif Nat.beq k 33 then qX5_nextStepYear else (fun _ => none)))
       else
        (bif Nat.ble 32 k then (bif Nat.beq k 32 then qX5_runTo else (fun _ => none)) else (bif Nat.beq k 31 then qX5_runFromFirst else (fun _ => none))))
      else
       (bif Nat.ble 29 k then (bif Nat.ble 30 k then (bif Nat.beq k 30 then qX5_setFirst else (fun _ => none)) else (bif Nat.beq k 29 then qX5_forgetFirst else (fun _ => none))) else (bif Nat.ble 28 k then (bif Nat.beq k 28 then qX4_wasWater else (fun _ => none)) else (bif Nat.beq k 27 then qX4_isNew else (fun _ => none)))))
     else
      (bif Nat.ble 22 k then
       (bif Nat.ble 24 k then
        (bif Nat.ble 25 k then (bif Nat.ble 26 k then (bif Nat.beq k 26 then qX4_isDry else (fun _ => none)) else (bif Nat.beq k 25 then qX3_placeFor else (fun _ => none))) else (bif Nat.beq k 24 then qX3_add else (fun _ => none)))
       else
        (bif Nat.ble 23 k then (bif Nat.beq k 23 then qX3_isFull else (fun _ => none)) else (bif Nat.beq k 22 then qX2_walk else (fun _ => none))))
      else
       (bif Nat.ble 20 k then (bif Nat.ble 21 k then (bif Nat.beq k 21 then qX2_apart else (fun _ => none)) else (bif Nat.beq k 20 then qX2_beside else (fun _ => none))) else (bif Nat.ble 19 k then (bif Nat.beq k 19 then qX2_cellAt else (fun _ => none)) else (bif Nat.beq k 18 then qX2_hasBox else (fun _ => none))))))
    else
     (bif Nat.ble 9 k then
      (bif Nat.ble 13 k then
       (bif Nat.ble 15 k then
        (bif Nat.ble 16 k then (bif Nat.ble 17 k then (bif Nat.beq k 17 then qX2_has else (fun _ => none)) else (bif Nat.beq k 16 then qX2_hasLine else (fun _ => none))) else (bif Nat.beq k 15 then qX2_lay else (fun _ => none)))
       else
        (bif Nat.ble 14 k then (bif Nat.beq k 14 then qX1_notStruck else (fun _ => none)) else (bif Nat.beq k 13 then qX1_add else (fun _ => none))))
      else
       (bif Nat.ble 11 k then (bif Nat.ble 12 k then (bif Nat.beq k 12 then qX1_has else (fun _ => none)) else (bif Nat.beq k 11 then qX1_isFull else (fun _ => none))) else (bif Nat.ble 10 k then (bif Nat.beq k 10 then qX1_clear else (fun _ => none)) else (bif Nat.beq k 9 then qX0_kindBetween else (fun _ => none)))))
     else
      (bif Nat.ble 4 k then
       (bif Nat.ble 6 k then
        (bif Nat.ble 7 k then (bif Nat.ble 8 k then (bif Nat.beq k 8 then qX0_isSudden else (fun _ => none)) else (bif Nat.beq k 7 then qX0_leafIn else (fun _ => none))) else (bif Nat.beq k 6 then qX0_add else (fun _ => none)))
       else
        (bif Nat.ble 5 k then (bif Nat.beq k 5 then qX0_draftLine else (fun _ => none)) else (bif Nat.beq k 4 then qX0_latestYear else (fun _ => none))))
      else
       (bif Nat.ble 2 k then (bif Nat.ble 3 k then (bif Nat.beq k 3 then qX0_hasStep else (fun _ => none)) else (bif Nat.beq k 2 then qX0_isFull else (fun _ => none))) else (bif Nat.ble 1 k then (bif Nat.beq k 1 then qX0_isEmpty else (fun _ => none)) else (bif Nat.beq k 0 then qX0_clear else (fun _ => none)))))))))
def clen (k : Nat) : Nat :=
  (bif Nat.ble 73 k then
   (bif Nat.ble 109 k then
    (bif Nat.ble 127 k then
     (bif Nat.ble 136 k then
      (bif Nat.ble 141 k then
       (bif Nat.ble 143 k then
        (bif Nat.ble 144 k then (bif Nat.ble 145 k then (bif Nat.beq k 145 then 21 else 0) else (bif Nat.beq k 144 then 35 else 0)) else (bif Nat.beq k 143 then 74 else 0))
       else
        (bif Nat.ble 142 k then (bif Nat.beq k 142 then 31 else 0) else (bif Nat.beq k 141 then 94 else 0)))
      else
       (bif Nat.ble 138 k then
        (bif Nat.ble 139 k then (bif Nat.ble 140 k then (bif Nat.beq k 140 then 84 else 0) else (bif Nat.beq k 139 then 197 else 0)) else (bif Nat.beq k 138 then 46 else 0))
       else
        (bif Nat.ble 137 k then (bif Nat.beq k 137 then 47 else 0) else (bif Nat.beq k 136 then 224 else 0))))
     else
      (bif Nat.ble 131 k then
       (bif Nat.ble 133 k then
        (bif Nat.ble 134 k then (bif Nat.ble 135 k then (bif Nat.beq k 135 then 149 else 0) else (bif Nat.beq k 134 then 87 else 0)) else (bif Nat.beq k 133 then 102 else 0))
       else
        (bif Nat.ble 132 k then (bif Nat.beq k 132 then 60 else 0) else (bif Nat.beq k 131 then 34 else 0)))
      else
       (bif Nat.ble 129 k then (bif Nat.ble 130 k then (bif Nat.beq k 130 then 34 else 0) else (bif Nat.beq k 129 then 59 else 0)) else (bif Nat.ble 128 k then (bif Nat.beq k 128 then 48 else 0) else (bif Nat.beq k 127 then 24 else 0)))))
    else
     (bif Nat.ble 118 k then
      (bif Nat.ble 122 k then
       (bif Nat.ble 124 k then
        (bif Nat.ble 125 k then (bif Nat.ble 126 k then (bif Nat.beq k 126 then 31 else 0) else (bif Nat.beq k 125 then 137 else 0)) else (bif Nat.beq k 124 then 30 else 0))
       else
        (bif Nat.ble 123 k then (bif Nat.beq k 123 then 28 else 0) else (bif Nat.beq k 122 then 334 else 0)))
      else
       (bif Nat.ble 120 k then (bif Nat.ble 121 k then (bif Nat.beq k 121 then 52 else 0) else (bif Nat.beq k 120 then 61 else 0)) else (bif Nat.ble 119 k then (bif Nat.beq k 119 then 48 else 0) else (bif Nat.beq k 118 then 47 else 0))))
     else
      (bif Nat.ble 113 k then
       (bif Nat.ble 115 k then
        (bif Nat.ble 116 k then (bif Nat.ble 117 k then (bif Nat.beq k 117 then 273 else 0) else (bif Nat.beq k 116 then 44 else 0)) else (bif Nat.beq k 115 then 145 else 0))
       else
        (bif Nat.ble 114 k then (bif Nat.beq k 114 then 37 else 0) else (bif Nat.beq k 113 then 26 else 0)))
      else
       (bif Nat.ble 111 k then (bif Nat.ble 112 k then (bif Nat.beq k 112 then 28 else 0) else (bif Nat.beq k 111 then 78 else 0)) else (bif Nat.ble 110 k then (bif Nat.beq k 110 then 55 else 0) else (bif Nat.beq k 109 then 28 else 0))))))
   else
    (bif Nat.ble 91 k then
     (bif Nat.ble 100 k then
      (bif Nat.ble 104 k then
       (bif Nat.ble 106 k then
        (bif Nat.ble 107 k then (bif Nat.ble 108 k then (bif Nat.beq k 108 then 13 else 0) else (bif Nat.beq k 107 then 36 else 0)) else (bif Nat.beq k 106 then 127 else 0))
       else
        (bif Nat.ble 105 k then (bif Nat.beq k 105 then 36 else 0) else (bif Nat.beq k 104 then 14 else 0)))
      else
       (bif Nat.ble 102 k then (bif Nat.ble 103 k then (bif Nat.beq k 103 then 31 else 0) else (bif Nat.beq k 102 then 112 else 0)) else (bif Nat.ble 101 k then (bif Nat.beq k 101 then 32 else 0) else (bif Nat.beq k 100 then 127 else 0))))
     else
      (bif Nat.ble 95 k then
       (bif Nat.ble 97 k then
        (bif Nat.ble 98 k then (bif Nat.ble 99 k then (bif Nat.beq k 99 then 99 else 0) else (bif Nat.beq k 98 then 48 else 0)) else (bif Nat.beq k 97 then 36 else 0))
       else
        (bif Nat.ble 96 k then (bif Nat.beq k 96 then 119 else 0) else (bif Nat.beq k 95 then 131 else 0)))
      else
       (bif Nat.ble 93 k then (bif Nat.ble 94 k then (bif Nat.beq k 94 then 41 else 0) else (bif Nat.beq k 93 then 74 else 0)) else (bif Nat.ble 92 k then (bif Nat.beq k 92 then 47 else 0) else (bif Nat.beq k 91 then 7 else 0)))))
    else
     (bif Nat.ble 82 k then
      (bif Nat.ble 86 k then
       (bif Nat.ble 88 k then
        (bif Nat.ble 89 k then (bif Nat.ble 90 k then (bif Nat.beq k 90 then 10 else 0) else (bif Nat.beq k 89 then 38 else 0)) else (bif Nat.beq k 88 then 61 else 0))
       else
        (bif Nat.ble 87 k then (bif Nat.beq k 87 then 7 else 0) else (bif Nat.beq k 86 then 19 else 0)))
      else
       (bif Nat.ble 84 k then (bif Nat.ble 85 k then (bif Nat.beq k 85 then 5 else 0) else (bif Nat.beq k 84 then 18 else 0)) else (bif Nat.ble 83 k then (bif Nat.beq k 83 then 8 else 0) else (bif Nat.beq k 82 then 9 else 0))))
     else
      (bif Nat.ble 77 k then
       (bif Nat.ble 79 k then
        (bif Nat.ble 80 k then (bif Nat.ble 81 k then (bif Nat.beq k 81 then 16 else 0) else (bif Nat.beq k 80 then 47 else 0)) else (bif Nat.beq k 79 then 29 else 0))
       else
        (bif Nat.ble 78 k then (bif Nat.beq k 78 then 103 else 0) else (bif Nat.beq k 77 then 46 else 0)))
      else
       (bif Nat.ble 75 k then (bif Nat.ble 76 k then (bif Nat.beq k 76 then 38 else 0) else (bif Nat.beq k 75 then 130 else 0)) else (bif Nat.ble 74 k then (bif Nat.beq k 74 then 35 else 0) else (bif Nat.beq k 73 then 152 else 0)))))))
  else
   (bif Nat.ble 36 k then
    (bif Nat.ble 54 k then
     (bif Nat.ble 63 k then
      (bif Nat.ble 68 k then
       (bif Nat.ble 70 k then
        (bif Nat.ble 71 k then (bif Nat.ble 72 k then (bif Nat.beq k 72 then 111 else 0) else (bif Nat.beq k 71 then 45 else 0)) else (bif Nat.beq k 70 then 8 else 0))
       else
        (bif Nat.ble 69 k then (bif Nat.beq k 69 then 59 else 0) else (bif Nat.beq k 68 then 60 else 0)))
      else
       (bif Nat.ble 65 k then
        (bif Nat.ble 66 k then (bif Nat.ble 67 k then (bif Nat.beq k 67 then 111 else 0) else (bif Nat.beq k 66 then 37 else 0)) else (bif Nat.beq k 65 then 30 else 0))
       else
        (bif Nat.ble 64 k then (bif Nat.beq k 64 then 72 else 0) else (bif Nat.beq k 63 then 25 else 0))))
     else
      (bif Nat.ble 58 k then
       (bif Nat.ble 60 k then
        (bif Nat.ble 61 k then (bif Nat.ble 62 k then (bif Nat.beq k 62 then 60 else 0) else (bif Nat.beq k 61 then 52 else 0)) else (bif Nat.beq k 60 then 39 else 0))
       else
        (bif Nat.ble 59 k then (bif Nat.beq k 59 then 135 else 0) else (bif Nat.beq k 58 then 33 else 0)))
      else
       (bif Nat.ble 56 k then (bif Nat.ble 57 k then (bif Nat.beq k 57 then 56 else 0) else (bif Nat.beq k 56 then 90 else 0)) else (bif Nat.ble 55 k then (bif Nat.beq k 55 then 52 else 0) else (bif Nat.beq k 54 then 49 else 0)))))
    else
     (bif Nat.ble 45 k then
      (bif Nat.ble 49 k then
       (bif Nat.ble 51 k then
        (bif Nat.ble 52 k then (bif Nat.ble 53 k then (bif Nat.beq k 53 then 66 else 0) else (bif Nat.beq k 52 then 127 else 0)) else (bif Nat.beq k 51 then 115 else 0))
       else
        (bif Nat.ble 50 k then (bif Nat.beq k 50 then 50 else 0) else (bif Nat.beq k 49 then 52 else 0)))
      else
       (bif Nat.ble 47 k then (bif Nat.ble 48 k then (bif Nat.beq k 48 then 70 else 0) else (bif Nat.beq k 47 then 110 else 0)) else (bif Nat.ble 46 k then (bif Nat.beq k 46 then 11 else 0) else (bif Nat.beq k 45 then 23 else 0))))
     else
      (bif Nat.ble 40 k then
       (bif Nat.ble 42 k then
        (bif Nat.ble 43 k then (bif Nat.ble 44 k then (bif Nat.beq k 44 then 18 else 0) else (bif Nat.beq k 43 then 20 else 0)) else (bif Nat.beq k 42 then 41 else 0))
       else
        (bif Nat.ble 41 k then (bif Nat.beq k 41 then 17 else 0) else (bif Nat.beq k 40 then 43 else 0)))
      else
       (bif Nat.ble 38 k then (bif Nat.ble 39 k then (bif Nat.beq k 39 then 71 else 0) else (bif Nat.beq k 38 then 61 else 0)) else (bif Nat.ble 37 k then (bif Nat.beq k 37 then 158 else 0) else (bif Nat.beq k 36 then 102 else 0))))))
   else
    (bif Nat.ble 18 k then
     (bif Nat.ble 27 k then
      (bif Nat.ble 31 k then
       (bif Nat.ble 33 k then
        (bif Nat.ble 34 k then (bif Nat.ble 35 k then (bif Nat.beq k 35 then 119 else 0) else (bif Nat.beq k 34 then 41 else 0)) else (bif Nat.beq k 33 then 40 else 0))
       else
        (bif Nat.ble 32 k then (bif Nat.beq k 32 then 63 else 0) else (bif Nat.beq k 31 then 38 else 0)))
      else
       (bif Nat.ble 29 k then (bif Nat.ble 30 k then (bif Nat.beq k 30 then 50 else 0) else (bif Nat.beq k 29 then 9 else 0)) else (bif Nat.ble 28 k then (bif Nat.beq k 28 then 23 else 0) else (bif Nat.beq k 27 then 26 else 0))))
     else
      (bif Nat.ble 22 k then
       (bif Nat.ble 24 k then
        (bif Nat.ble 25 k then (bif Nat.ble 26 k then (bif Nat.beq k 26 then 16 else 0) else (bif Nat.beq k 25 then 47 else 0)) else (bif Nat.beq k 24 then 56 else 0))
       else
        (bif Nat.ble 23 k then (bif Nat.beq k 23 then 15 else 0) else (bif Nat.beq k 22 then 34 else 0)))
      else
       (bif Nat.ble 20 k then (bif Nat.ble 21 k then (bif Nat.beq k 21 then 36 else 0) else (bif Nat.beq k 20 then 114 else 0)) else (bif Nat.ble 19 k then (bif Nat.beq k 19 then 9 else 0) else (bif Nat.beq k 18 then 36 else 0)))))
    else
     (bif Nat.ble 9 k then
      (bif Nat.ble 13 k then
       (bif Nat.ble 15 k then
        (bif Nat.ble 16 k then (bif Nat.ble 17 k then (bif Nat.beq k 17 then 26 else 0) else (bif Nat.beq k 16 then 18 else 0)) else (bif Nat.beq k 15 then 71 else 0))
       else
        (bif Nat.ble 14 k then (bif Nat.beq k 14 then 37 else 0) else (bif Nat.beq k 13 then 137 else 0)))
      else
       (bif Nat.ble 11 k then (bif Nat.ble 12 k then (bif Nat.beq k 12 then 18 else 0) else (bif Nat.beq k 11 then 15 else 0)) else (bif Nat.ble 10 k then (bif Nat.beq k 10 then 6 else 0) else (bif Nat.beq k 9 then 24 else 0))))
     else
      (bif Nat.ble 4 k then
       (bif Nat.ble 6 k then
        (bif Nat.ble 7 k then (bif Nat.ble 8 k then (bif Nat.beq k 8 then 48 else 0) else (bif Nat.beq k 7 then 40 else 0)) else (bif Nat.beq k 6 then 127 else 0))
       else
        (bif Nat.ble 5 k then (bif Nat.beq k 5 then 72 else 0) else (bif Nat.beq k 4 then 26 else 0)))
      else
       (bif Nat.ble 2 k then (bif Nat.ble 3 k then (bif Nat.beq k 3 then 19 else 0) else (bif Nat.beq k 2 then 15 else 0)) else (bif Nat.ble 1 k then (bif Nat.beq k 1 then 13 else 0) else (bif Nat.beq k 0 then 28 else 0))))))))
def cod (k pc : Nat) : Option mIn := bif Nat.ble 146 k then none else bif Nat.ble (clen k) pc then none else codb k pc
abbrev nMeth : Nat := 146
abbrev kX0_clear : Nat := 0
abbrev kX0_isEmpty : Nat := 1
abbrev kX0_isFull : Nat := 2
abbrev kX0_hasStep : Nat := 3
abbrev kX0_latestYear : Nat := 4
abbrev kX0_draftLine : Nat := 5
abbrev kX0_add : Nat := 6
abbrev kX0_leafIn : Nat := 7
abbrev kX0_isSudden : Nat := 8
abbrev kX0_kindBetween : Nat := 9
abbrev kX1_clear : Nat := 10
abbrev kX1_isFull : Nat := 11
abbrev kX1_has : Nat := 12
abbrev kX1_add : Nat := 13
abbrev kX1_notStruck : Nat := 14
abbrev kX2_lay : Nat := 15
abbrev kX2_hasLine : Nat := 16
abbrev kX2_has : Nat := 17
abbrev kX2_hasBox : Nat := 18
abbrev kX2_cellAt : Nat := 19
abbrev kX2_beside : Nat := 20
abbrev kX2_apart : Nat := 21
abbrev kX2_walk : Nat := 22
abbrev kX3_isFull : Nat := 23
abbrev kX3_add : Nat := 24
abbrev kX3_placeFor : Nat := 25
abbrev kX4_isDry : Nat := 26
abbrev kX4_isNew : Nat := 27
abbrev kX4_wasWater : Nat := 28
abbrev kX5_forgetFirst : Nat := 29
abbrev kX5_setFirst : Nat := 30
abbrev kX5_runFromFirst : Nat := 31
abbrev kX5_runTo : Nat := 32
abbrev kX5_nextStepYear : Nat := 33
abbrev kX5_nextDeedYear : Nat := 34
abbrev kX5_takeStep : Nat := 35
abbrev kX5_shiftOwners : Nat := 36
abbrev kX5_takeDeed : Nat := 37
abbrev kX5_dryOf : Nat := 38
abbrev kX5_dryByWaterOf : Nat := 39
abbrev kX5_isByWater : Nat := 40
abbrev kX5_keep : Nat := 41
abbrev kX5_differing : Nat := 42
abbrev kX5_runAheadOf : Nat := 43
abbrev kX5_changedBy : Nat := 44
abbrev kX5_wonBy : Nat := 45
abbrev kX5_changedByDoubt : Nat := 46
abbrev kX6_measure : Nat := 47
abbrev kX6_dryParts : Nat := 48
abbrev kX6_apartFromFast : Nat := 49
abbrev kX6_apartFromOldWater : Nat := 50
abbrev kX6_sortParts : Nat := 51
abbrev kX6_gather : Nat := 52
abbrev kX6_partIsByFast : Nat := 53
abbrev kX6_settleShore : Nat := 54
abbrev kX6_settleIsle : Nat := 55
abbrev kX6_fastNearestTo : Nat := 56
abbrev kX7_land : Nat := 57
abbrev kX7_water : Nat := 58
abbrev kX7_sheet : Nat := 59
abbrev kX7_map : Nat := 60
abbrev kX7_own : Nat := 61
abbrev kX7_deed : Nat := 62
abbrev kX7_strike : Nat := 63
abbrev kX7_law : Nat := 64
abbrev kX7_reach : Nat := 65
abbrev kX7_judge : Nat := 66
abbrev kX7_count : Nat := 67
abbrev kX7_wet : Nat := 68
abbrev kX7_owner : Nat := 69
abbrev kX7_area : Nat := 70
abbrev kX7_front : Nat := 71
abbrev kX7_tax : Nat := 72
abbrev kX7_chain : Nat := 73
abbrev kX7_banks : Nat := 74
abbrev kX7_step : Nat := 75
abbrev kX7_moved : Nat := 76
abbrev kX7_doubt : Nat := 77
abbrev kX7_weak : Nat := 78
abbrev kX7_row : Nat := 79
abbrev kX7_tell : Nat := 80
abbrev kX7_isBetween : Nat := 81
abbrev kX7_isYear : Nat := 82
abbrev kX7_isOwner : Nat := 83
abbrev kX7_isOwnerOrNone : Nat := 84
abbrev kX8_thrown : Nat := 85
abbrev kX8_in : Nat := 86
abbrev kX8_refuse : Nat := 87
abbrev kX8_lays : Nat := 88
abbrev kX8_isCell : Nat := 89
abbrev kX8_isYear : Nat := 90
abbrev kX8_cell : Nat := 91
abbrev kX8_land : Nat := 92
abbrev kX8_rowOf : Nat := 93
abbrev kX8_water : Nat := 94
abbrev kX8_sheet : Nat := 95
abbrev kX8_map : Nat := 96
abbrev kX8_isBox : Nat := 97
abbrev kX8_isInBox : Nat := 98
abbrev kX8_own : Nat := 99
abbrev kX8_deed : Nat := 100
abbrev kX8_strike : Nat := 101
abbrev kX8_law : Nat := 102
abbrev kX8_reach : Nat := 103
abbrev kX8_isStep : Nat := 104
abbrev kX8_judge : Nat := 105
abbrev kX8_count : Nat := 106
abbrev kX8_mapIn : Nat := 107
abbrev kX8_isWet : Nat := 108
abbrev kX8_isOn : Nat := 109
abbrev kX8_wet : Nat := 110
abbrev kX8_kinds : Nat := 111
abbrev kX8_apart : Nat := 112
abbrev kX8_away : Nat := 113
abbrev kX8_kindsOf : Nat := 114
abbrev kX8_far : Nat := 115
abbrev kX8_isSudden : Nat := 116
abbrev kX8_findsParts : Nat := 117
abbrev kX8_nearest : Nat := 118
abbrev kX8_awayFromPart : Nat := 119
abbrev kX8_nearestToPart : Nat := 120
abbrev kX8_lawIn : Nat := 121
abbrev kX8_steps : Nat := 122
abbrev kX8_begins : Nat := 123
abbrev kX8_stepIn : Nat := 124
abbrev kX8_deedsIn : Nat := 125
abbrev kX8_goes : Nat := 126
abbrev kX8_upTo : Nat := 127
abbrev kX8_owner : Nat := 128
abbrev kX8_areaOn : Nat := 129
abbrev kX8_isAsked : Nat := 130
abbrev kX8_area : Nat := 131
abbrev kX8_isByWater : Nat := 132
abbrev kX8_front : Nat := 133
abbrev kX8_tax : Nat := 134
abbrev kX8_chain : Nat := 135
abbrev kX8_banks : Nat := 136
abbrev kX8_walks : Nat := 137
abbrev kX8_shores : Nat := 138
abbrev kX8_step : Nat := 139
abbrev kX8_moved : Nat := 140
abbrev kX8_unlike : Nat := 141
abbrev kX8_doubt : Nat := 142
abbrev kX8_weak : Nat := 143
abbrev kX8_row : Nat := 144
abbrev kJ7_fill_53178 : Nat := 145
def mcl (k : Nat) : Nat :=
  (bif Nat.ble 73 k then
   (bif Nat.ble 109 k then
    (bif Nat.ble 127 k then
     (bif Nat.ble 136 k then
      (bif Nat.ble 141 k then
       (bif Nat.ble 143 k then
        (bif Nat.ble 144 k then (bif Nat.ble 145 k then (bif Nat.beq k 145 then 9 else 0) else (bif Nat.beq k 144 then 8 else 0)) else (bif Nat.beq k 143 then 8 else 0))
       else
        (bif Nat.ble 142 k then (bif Nat.beq k 142 then 8 else 0) else (bif Nat.beq k 141 then 8 else 0)))
      else
       (bif Nat.ble 138 k then
        (bif Nat.ble 139 k then (bif Nat.ble 140 k then (bif Nat.beq k 140 then 8 else 0) else (bif Nat.beq k 139 then 8 else 0)) else (bif Nat.beq k 138 then 8 else 0))
       else
        (bif Nat.ble 137 k then (bif Nat.beq k 137 then 8 else 0) else (bif Nat.beq k 136 then 8 else 0))))
     else
      (bif Nat.ble 131 k then
       (bif Nat.ble 133 k then
        (bif Nat.ble 134 k then (bif Nat.ble 135 k then (bif Nat.beq k 135 then 8 else 0) else (bif Nat.beq k 134 then 8 else 0)) else (bif Nat.beq k 133 then 8 else 0))
       else
        (bif Nat.ble 132 k then (bif Nat.beq k 132 then 8 else 0) else (bif Nat.beq k 131 then 8 else 0)))
      else
       (bif Nat.ble 129 k then (bif Nat.ble 130 k then (bif Nat.beq k 130 then 8 else 0) else (bif Nat.beq k 129 then 8 else 0)) else (bif Nat.ble 128 k then (bif Nat.beq k 128 then 8 else 0) else (bif Nat.beq k 127 then 8 else 0)))))
    else
     (bif Nat.ble 118 k then
      (bif Nat.ble 122 k then
       (bif Nat.ble 124 k then
        (bif Nat.ble 125 k then (bif Nat.ble 126 k then (bif Nat.beq k 126 then 8 else 0) else (bif Nat.beq k 125 then 8 else 0)) else (bif Nat.beq k 124 then 8 else 0))
       else
        (bif Nat.ble 123 k then (bif Nat.beq k 123 then 8 else 0) else (bif Nat.beq k 122 then 8 else 0)))
      else
       (bif Nat.ble 120 k then (bif Nat.ble 121 k then (bif Nat.beq k 121 then 8 else 0) else (bif Nat.beq k 120 then 8 else 0)) else (bif Nat.ble 119 k then (bif Nat.beq k 119 then 8 else 0) else (bif Nat.beq k 118 then 8 else 0))))
     else
      (bif Nat.ble 113 k then
       (bif Nat.ble 115 k then
        (bif Nat.ble 116 k then (bif Nat.ble 117 k then (bif Nat.beq k 117 then 8 else 0) else (bif Nat.beq k 116 then 8 else 0)) else (bif Nat.beq k 115 then 8 else 0))
       else
        (bif Nat.ble 114 k then (bif Nat.beq k 114 then 8 else 0) else (bif Nat.beq k 113 then 8 else 0)))
      else
       (bif Nat.ble 111 k then (bif Nat.ble 112 k then (bif Nat.beq k 112 then 8 else 0) else (bif Nat.beq k 111 then 8 else 0)) else (bif Nat.ble 110 k then (bif Nat.beq k 110 then 8 else 0) else (bif Nat.beq k 109 then 8 else 0))))))
   else
    (bif Nat.ble 91 k then
     (bif Nat.ble 100 k then
      (bif Nat.ble 104 k then
       (bif Nat.ble 106 k then
        (bif Nat.ble 107 k then (bif Nat.ble 108 k then (bif Nat.beq k 108 then 8 else 0) else (bif Nat.beq k 107 then 8 else 0)) else (bif Nat.beq k 106 then 8 else 0))
       else
        (bif Nat.ble 105 k then (bif Nat.beq k 105 then 8 else 0) else (bif Nat.beq k 104 then 8 else 0)))
      else
       (bif Nat.ble 102 k then (bif Nat.ble 103 k then (bif Nat.beq k 103 then 8 else 0) else (bif Nat.beq k 102 then 8 else 0)) else (bif Nat.ble 101 k then (bif Nat.beq k 101 then 8 else 0) else (bif Nat.beq k 100 then 8 else 0))))
     else
      (bif Nat.ble 95 k then
       (bif Nat.ble 97 k then
        (bif Nat.ble 98 k then (bif Nat.ble 99 k then (bif Nat.beq k 99 then 8 else 0) else (bif Nat.beq k 98 then 8 else 0)) else (bif Nat.beq k 97 then 8 else 0))
       else
        (bif Nat.ble 96 k then (bif Nat.beq k 96 then 8 else 0) else (bif Nat.beq k 95 then 8 else 0)))
      else
       (bif Nat.ble 93 k then (bif Nat.ble 94 k then (bif Nat.beq k 94 then 8 else 0) else (bif Nat.beq k 93 then 8 else 0)) else (bif Nat.ble 92 k then (bif Nat.beq k 92 then 8 else 0) else (bif Nat.beq k 91 then 8 else 0)))))
    else
     (bif Nat.ble 82 k then
      (bif Nat.ble 86 k then
       (bif Nat.ble 88 k then
        (bif Nat.ble 89 k then (bif Nat.ble 90 k then (bif Nat.beq k 90 then 8 else 0) else (bif Nat.beq k 89 then 8 else 0)) else (bif Nat.beq k 88 then 8 else 0))
       else
        (bif Nat.ble 87 k then (bif Nat.beq k 87 then 8 else 0) else (bif Nat.beq k 86 then 8 else 0)))
      else
       (bif Nat.ble 84 k then (bif Nat.ble 85 k then (bif Nat.beq k 85 then 8 else 0) else (bif Nat.beq k 84 then 7 else 0)) else (bif Nat.ble 83 k then (bif Nat.beq k 83 then 7 else 0) else (bif Nat.beq k 82 then 7 else 0))))
     else
      (bif Nat.ble 77 k then
       (bif Nat.ble 79 k then
        (bif Nat.ble 80 k then (bif Nat.ble 81 k then (bif Nat.beq k 81 then 7 else 0) else (bif Nat.beq k 80 then 7 else 0)) else (bif Nat.beq k 79 then 7 else 0))
       else
        (bif Nat.ble 78 k then (bif Nat.beq k 78 then 7 else 0) else (bif Nat.beq k 77 then 7 else 0)))
      else
       (bif Nat.ble 75 k then (bif Nat.ble 76 k then (bif Nat.beq k 76 then 7 else 0) else (bif Nat.beq k 75 then 7 else 0)) else (bif Nat.ble 74 k then (bif Nat.beq k 74 then 7 else 0) else (bif Nat.beq k 73 then 7 else 0)))))))
  else
   (bif Nat.ble 36 k then
    (bif Nat.ble 54 k then
     (bif Nat.ble 63 k then
      (bif Nat.ble 68 k then
       (bif Nat.ble 70 k then
        (bif Nat.ble 71 k then (bif Nat.ble 72 k then (bif Nat.beq k 72 then 7 else 0) else (bif Nat.beq k 71 then 7 else 0)) else (bif Nat.beq k 70 then 7 else 0))
       else
        (bif Nat.ble 69 k then (bif Nat.beq k 69 then 7 else 0) else (bif Nat.beq k 68 then 7 else 0)))
      else
       (bif Nat.ble 65 k then
        (bif Nat.ble 66 k then (bif Nat.ble 67 k then (bif Nat.beq k 67 then 7 else 0) else (bif Nat.beq k 66 then 7 else 0)) else (bif Nat.beq k 65 then 7 else 0))
       else
        (bif Nat.ble 64 k then (bif Nat.beq k 64 then 7 else 0) else (bif Nat.beq k 63 then 7 else 0))))
     else
      (bif Nat.ble 58 k then
       (bif Nat.ble 60 k then
        (bif Nat.ble 61 k then (bif Nat.ble 62 k then (bif Nat.beq k 62 then 7 else 0) else (bif Nat.beq k 61 then 7 else 0)) else (bif Nat.beq k 60 then 7 else 0))
       else
        (bif Nat.ble 59 k then (bif Nat.beq k 59 then 7 else 0) else (bif Nat.beq k 58 then 7 else 0)))
      else
       (bif Nat.ble 56 k then (bif Nat.ble 57 k then (bif Nat.beq k 57 then 7 else 0) else (bif Nat.beq k 56 then 6 else 0)) else (bif Nat.ble 55 k then (bif Nat.beq k 55 then 6 else 0) else (bif Nat.beq k 54 then 6 else 0)))))
    else
     (bif Nat.ble 45 k then
      (bif Nat.ble 49 k then
       (bif Nat.ble 51 k then
        (bif Nat.ble 52 k then (bif Nat.ble 53 k then (bif Nat.beq k 53 then 6 else 0) else (bif Nat.beq k 52 then 6 else 0)) else (bif Nat.beq k 51 then 6 else 0))
       else
        (bif Nat.ble 50 k then (bif Nat.beq k 50 then 6 else 0) else (bif Nat.beq k 49 then 6 else 0)))
      else
       (bif Nat.ble 47 k then (bif Nat.ble 48 k then (bif Nat.beq k 48 then 6 else 0) else (bif Nat.beq k 47 then 6 else 0)) else (bif Nat.ble 46 k then (bif Nat.beq k 46 then 5 else 0) else (bif Nat.beq k 45 then 5 else 0))))
     else
      (bif Nat.ble 40 k then
       (bif Nat.ble 42 k then
        (bif Nat.ble 43 k then (bif Nat.ble 44 k then (bif Nat.beq k 44 then 5 else 0) else (bif Nat.beq k 43 then 5 else 0)) else (bif Nat.beq k 42 then 5 else 0))
       else
        (bif Nat.ble 41 k then (bif Nat.beq k 41 then 5 else 0) else (bif Nat.beq k 40 then 5 else 0)))
      else
       (bif Nat.ble 38 k then (bif Nat.ble 39 k then (bif Nat.beq k 39 then 5 else 0) else (bif Nat.beq k 38 then 5 else 0)) else (bif Nat.ble 37 k then (bif Nat.beq k 37 then 5 else 0) else (bif Nat.beq k 36 then 5 else 0))))))
   else
    (bif Nat.ble 18 k then
     (bif Nat.ble 27 k then
      (bif Nat.ble 31 k then
       (bif Nat.ble 33 k then
        (bif Nat.ble 34 k then (bif Nat.ble 35 k then (bif Nat.beq k 35 then 5 else 0) else (bif Nat.beq k 34 then 5 else 0)) else (bif Nat.beq k 33 then 5 else 0))
       else
        (bif Nat.ble 32 k then (bif Nat.beq k 32 then 5 else 0) else (bif Nat.beq k 31 then 5 else 0)))
      else
       (bif Nat.ble 29 k then (bif Nat.ble 30 k then (bif Nat.beq k 30 then 5 else 0) else (bif Nat.beq k 29 then 5 else 0)) else (bif Nat.ble 28 k then (bif Nat.beq k 28 then 4 else 0) else (bif Nat.beq k 27 then 4 else 0))))
     else
      (bif Nat.ble 22 k then
       (bif Nat.ble 24 k then
        (bif Nat.ble 25 k then (bif Nat.ble 26 k then (bif Nat.beq k 26 then 4 else 0) else (bif Nat.beq k 25 then 3 else 0)) else (bif Nat.beq k 24 then 3 else 0))
       else
        (bif Nat.ble 23 k then (bif Nat.beq k 23 then 3 else 0) else (bif Nat.beq k 22 then 2 else 0)))
      else
       (bif Nat.ble 20 k then (bif Nat.ble 21 k then (bif Nat.beq k 21 then 2 else 0) else (bif Nat.beq k 20 then 2 else 0)) else (bif Nat.ble 19 k then (bif Nat.beq k 19 then 2 else 0) else (bif Nat.beq k 18 then 2 else 0)))))
    else
     (bif Nat.ble 9 k then
      (bif Nat.ble 13 k then
       (bif Nat.ble 15 k then
        (bif Nat.ble 16 k then (bif Nat.ble 17 k then (bif Nat.beq k 17 then 2 else 0) else (bif Nat.beq k 16 then 2 else 0)) else (bif Nat.beq k 15 then 2 else 0))
       else
        (bif Nat.ble 14 k then (bif Nat.beq k 14 then 1 else 0) else (bif Nat.beq k 13 then 1 else 0)))
      else
       (bif Nat.ble 11 k then (bif Nat.ble 12 k then (bif Nat.beq k 12 then 1 else 0) else (bif Nat.beq k 11 then 1 else 0)) else (bif Nat.ble 10 k then (bif Nat.beq k 10 then 1 else 0) else (bif Nat.beq k 9 then 0 else 0))))
     else
      (bif Nat.ble 4 k then
       (bif Nat.ble 6 k then
        (bif Nat.ble 7 k then (bif Nat.ble 8 k then (bif Nat.beq k 8 then 0 else 0) else (bif Nat.beq k 7 then 0 else 0)) else (bif Nat.beq k 6 then 0 else 0))
       else
        (bif Nat.ble 5 k then (bif Nat.beq k 5 then 0 else 0) else (bif Nat.beq k 4 then 0 else 0)))
      else
       (bif Nat.ble 2 k then (bif Nat.ble 3 k then (bif Nat.beq k 3 then 0 else 0) else (bif Nat.beq k 2 then 0 else 0)) else (bif Nat.ble 1 k then (bif Nat.beq k 1 then 0 else 0) else (bif Nat.beq k 0 then 0 else 0))))))))
/-- a field of a class file: number of its class, of the field -/
def fldb (c idx : Nat) : Option (Nat × Nat) :=
  (bif Nat.ble 4 c then
   (bif Nat.ble 6 c then
    (bif Nat.ble 7 c then (bif Nat.ble 8 c then (bif Nat.beq c 8 then (bif Nat.ble 57 idx then (bif Nat.ble 78 idx then (bif Nat.ble 93 idx then (bif Nat.ble 144 idx then (bif Nat.ble 173 idx then (bif Nat.beq idx 173 then some (8, 23) else none) else (bif Nat.beq idx 144 then some (8, 26) else none)) else (bif Nat.ble 138 idx then (bif Nat.beq idx 138 then some (8, 13) else none) else (bif Nat.beq idx 93 then some (8, 7) else none))) else (bif Nat.ble 84 idx then (bif Nat.ble 90 idx then (bif Nat.beq idx 90 then some (8, 3) else none) else (bif Nat.beq idx 84 then some (8, 29) else none)) else (bif Nat.ble 81 idx then (bif Nat.beq idx 81 then some (8, 28) else none) else (bif Nat.beq idx 78 then some (8, 27) else none)))) else (bif Nat.ble 66 idx then (bif Nat.ble 72 idx then (bif Nat.ble 75 idx then (bif Nat.beq idx 75 then some (8, 25) else none) else (bif Nat.beq idx 72 then some (8, 24) else none)) else (bif Nat.ble 69 idx then (bif Nat.beq idx 69 then some (8, 22) else none) else (bif Nat.beq idx 66 then some (8, 21) else none))) else (bif Nat.ble 60 idx then (bif Nat.ble 63 idx then (bif Nat.beq idx 63 then some (8, 20) else none) else (bif Nat.beq idx 60 then some (8, 19) else none)) else (bif Nat.beq idx 57 then some (8, 18) else none)))) else (bif Nat.ble 33 idx then (bif Nat.ble 45 idx then (bif Nat.ble 51 idx then (bif Nat.ble 54 idx then (bif Nat.beq idx 54 then some (8, 17) else none) else (bif Nat.beq idx 51 then some (8, 16) else none)) else (bif Nat.ble 48 idx then (bif Nat.beq idx 48 then some (8, 15) else none) else (bif Nat.beq idx 45 then some (8, 14) else none))) else (bif Nat.ble 39 idx then (bif Nat.ble 42 idx then (bif Nat.beq idx 42 then some (8, 12) else none) else (bif Nat.beq idx 39 then some (8, 11) else none)) else (bif Nat.ble 36 idx then (bif Nat.beq idx 36 then some (8, 10) else none) else (bif Nat.beq idx 33 then some (8, 9) else none)))) else (bif Nat.ble 19 idx then (bif Nat.ble 27 idx then (bif Nat.ble 30 idx then (bif Nat.beq idx 30 then some (8, 8) else none) else (bif Nat.beq idx 27 then some (8, 6) else none)) else (bif Nat.ble 23 idx then (bif Nat.beq idx 23 then some (8, 5) else none) else (bif Nat.beq idx 19 then some (8, 4) else none))) else (bif Nat.ble 13 idx then (bif Nat.ble 16 idx then (bif Nat.beq idx 16 then some (8, 2) else none) else (bif Nat.beq idx 13 then some (8, 1) else none)) else (bif Nat.beq idx 3 then some (8, 0) else none))))) else none) else (bif Nat.beq c 7 then (bif Nat.ble 149 idx then (bif Nat.ble 205 idx then (bif Nat.ble 221 idx then (bif Nat.ble 227 idx then (bif Nat.ble 230 idx then (bif Nat.beq idx 230 then some (4, 5) else none) else (bif Nat.beq idx 227 then some (4, 4) else none)) else (bif Nat.beq idx 221 then some (4, 3) else none)) else (bif Nat.ble 215 idx then (bif Nat.ble 218 idx then (bif Nat.beq idx 218 then some (4, 2) else none) else (bif Nat.beq idx 215 then some (4, 1) else none)) else (bif Nat.beq idx 205 then some (4, 0) else none))) else (bif Nat.ble 161 idx then (bif Nat.ble 167 idx then (bif Nat.ble 189 idx then (bif Nat.beq idx 189 then some (5, 5) else none) else (bif Nat.beq idx 167 then some (3, 0) else none)) else (bif Nat.beq idx 161 then some (1, 0) else none)) else (bif Nat.ble 153 idx then (bif Nat.ble 158 idx then (bif Nat.beq idx 158 then some (2, 0) else none) else (bif Nat.beq idx 153 then some (4, 6) else none)) else (bif Nat.beq idx 149 then some (0, 2) else none)))) else (bif Nat.ble 57 idx then (bif Nat.ble 114 idx then (bif Nat.ble 131 idx then (bif Nat.ble 143 idx then (bif Nat.beq idx 143 then some (0, 5) else none) else (bif Nat.beq idx 131 then some (1, 7) else none)) else (bif Nat.beq idx 114 then some (0, 4) else none)) else (bif Nat.ble 61 idx then (bif Nat.ble 88 idx then (bif Nat.beq idx 88 then some (2, 1) else none) else (bif Nat.beq idx 61 then some (7, 7) else none)) else (bif Nat.beq idx 57 then some (7, 6) else none))) else (bif Nat.ble 37 idx then (bif Nat.ble 44 idx then (bif Nat.ble 53 idx then (bif Nat.beq idx 53 then some (7, 5) else none) else (bif Nat.beq idx 44 then some (7, 4) else none)) else (bif Nat.beq idx 37 then some (7, 3) else none)) else (bif Nat.ble 21 idx then (bif Nat.ble 30 idx then (bif Nat.beq idx 30 then some (7, 2) else none) else (bif Nat.beq idx 21 then some (7, 1) else none)) else (bif Nat.beq idx 12 then some (7, 0) else none))))) else none)) else (bif Nat.beq c 6 then (bif Nat.ble 35 idx then (bif Nat.ble 79 idx then (bif Nat.ble 93 idx then (bif Nat.ble 99 idx then (bif Nat.beq idx 99 then some (4, 8) else none) else (bif Nat.beq idx 93 then some (6, 3) else none)) else (bif Nat.beq idx 79 then some (4, 5) else none)) else (bif Nat.ble 54 idx then (bif Nat.ble 76 idx then (bif Nat.beq idx 76 then some (4, 4) else none) else (bif Nat.beq idx 54 then some (4, 7) else none)) else (bif Nat.beq idx 35 then some (2, 2) else none))) else (bif Nat.ble 23 idx then (bif Nat.ble 29 idx then (bif Nat.ble 32 idx then (bif Nat.beq idx 32 then some (4, 3) else none) else (bif Nat.beq idx 29 then some (4, 2) else none)) else (bif Nat.beq idx 23 then some (4, 1) else none)) else (bif Nat.ble 15 idx then (bif Nat.ble 19 idx then (bif Nat.beq idx 19 then some (6, 0) else none) else (bif Nat.beq idx 15 then some (6, 2) else none)) else (bif Nat.beq idx 9 then some (6, 1) else none)))) else none))
   else
    (bif Nat.ble 5 c then (bif Nat.beq c 5 then (bif Nat.ble 106 idx then (bif Nat.ble 140 idx then (bif Nat.ble 150 idx then (bif Nat.ble 156 idx then (bif Nat.ble 162 idx then (bif Nat.beq idx 162 then some (1, 5) else none) else (bif Nat.beq idx 156 then some (1, 3) else none)) else (bif Nat.ble 153 idx then (bif Nat.beq idx 153 then some (1, 1) else none) else (bif Nat.beq idx 150 then some (1, 4) else none))) else (bif Nat.ble 143 idx then (bif Nat.ble 147 idx then (bif Nat.beq idx 147 then some (1, 2) else none) else (bif Nat.beq idx 143 then some (1, 7) else none)) else (bif Nat.beq idx 140 then some (4, 8) else none))) else (bif Nat.ble 124 idx then (bif Nat.ble 134 idx then (bif Nat.ble 137 idx then (bif Nat.beq idx 137 then some (4, 7) else none) else (bif Nat.beq idx 134 then some (2, 2) else none)) else (bif Nat.ble 127 idx then (bif Nat.beq idx 127 then some (3, 4) else none) else (bif Nat.beq idx 124 then some (3, 2) else none))) else (bif Nat.ble 109 idx then (bif Nat.ble 121 idx then (bif Nat.beq idx 121 then some (3, 3) else none) else (bif Nat.beq idx 109 then some (1, 8) else none)) else (bif Nat.beq idx 106 then some (1, 6) else none)))) else (bif Nat.ble 55 idx then (bif Nat.ble 87 idx then (bif Nat.ble 96 idx then (bif Nat.ble 101 idx then (bif Nat.beq idx 101 then some (1, 0) else none) else (bif Nat.beq idx 96 then some (4, 0) else none)) else (bif Nat.ble 92 idx then (bif Nat.beq idx 92 then some (0, 2) else none) else (bif Nat.beq idx 87 then some (0, 4) else none))) else (bif Nat.ble 59 idx then (bif Nat.ble 62 idx then (bif Nat.beq idx 62 then some (5, 9) else none) else (bif Nat.beq idx 59 then some (5, 8) else none)) else (bif Nat.beq idx 55 then some (5, 7) else none))) else (bif Nat.ble 21 idx then (bif Nat.ble 29 idx then (bif Nat.ble 33 idx then (bif Nat.beq idx 33 then some (5, 3) else none) else (bif Nat.beq idx 29 then some (5, 2) else none)) else (bif Nat.ble 25 idx then (bif Nat.beq idx 25 then some (5, 1) else none) else (bif Nat.beq idx 21 then some (5, 0) else none))) else (bif Nat.ble 15 idx then (bif Nat.ble 18 idx then (bif Nat.beq idx 18 then some (5, 6) else none) else (bif Nat.beq idx 15 then some (5, 5) else none)) else (bif Nat.beq idx 9 then some (5, 4) else none))))) else none) else (bif Nat.beq c 4 then (bif Nat.ble 15 idx then (bif Nat.ble 19 idx then (bif Nat.beq idx 19 then some (4, 8) else none) else (bif Nat.beq idx 15 then some (4, 7) else none)) else (bif Nat.beq idx 9 then some (4, 6) else none)) else none)))
  else
   (bif Nat.ble 2 c then (bif Nat.ble 3 c then (bif Nat.beq c 3 then (bif Nat.ble 18 idx then (bif Nat.ble 21 idx then (bif Nat.ble 24 idx then (bif Nat.beq idx 24 then some (3, 0) else none) else (bif Nat.beq idx 21 then some (3, 4) else none)) else (bif Nat.beq idx 18 then some (3, 3) else none)) else (bif Nat.ble 15 idx then (bif Nat.beq idx 15 then some (3, 2) else none) else (bif Nat.beq idx 9 then some (3, 1) else none))) else none) else (bif Nat.beq c 2 then (bif Nat.ble 18 idx then (bif Nat.ble 21 idx then (bif Nat.ble 25 idx then (bif Nat.beq idx 25 then some (2, 4) else none) else (bif Nat.beq idx 21 then some (2, 3) else none)) else (bif Nat.beq idx 18 then some (2, 2) else none)) else (bif Nat.ble 15 idx then (bif Nat.beq idx 15 then some (2, 1) else none) else (bif Nat.beq idx 9 then some (2, 0) else none))) else none)) else (bif Nat.ble 1 c then (bif Nat.beq c 1 then (bif Nat.ble 24 idx then (bif Nat.ble 30 idx then (bif Nat.ble 34 idx then (bif Nat.ble 37 idx then (bif Nat.beq idx 37 then some (1, 0) else none) else (bif Nat.beq idx 34 then some (1, 8) else none)) else (bif Nat.beq idx 30 then some (1, 7) else none)) else (bif Nat.ble 27 idx then (bif Nat.beq idx 27 then some (1, 6) else none) else (bif Nat.beq idx 24 then some (1, 5) else none))) else (bif Nat.ble 18 idx then (bif Nat.ble 21 idx then (bif Nat.beq idx 21 then some (1, 4) else none) else (bif Nat.beq idx 18 then some (1, 3) else none)) else (bif Nat.ble 15 idx then (bif Nat.beq idx 15 then some (1, 2) else none) else (bif Nat.beq idx 9 then some (1, 1) else none)))) else none) else (bif Nat.beq c 0 then (bif Nat.ble 37 idx then (bif Nat.ble 52 idx then (bif Nat.ble 59 idx then (bif Nat.ble 76 idx then (bif Nat.beq idx 76 then some (4, 3) else none) else (bif Nat.beq idx 59 then some (4, 7) else none)) else (bif Nat.beq idx 52 then some (2, 2) else none)) else (bif Nat.ble 40 idx then (bif Nat.ble 49 idx then (bif Nat.beq idx 49 then some (4, 6) else none) else (bif Nat.beq idx 40 then some (2, 0) else none)) else (bif Nat.beq idx 37 then some (4, 0) else none))) else (bif Nat.ble 25 idx then (bif Nat.ble 29 idx then (bif Nat.ble 34 idx then (bif Nat.beq idx 34 then some (0, 4) else none) else (bif Nat.beq idx 29 then some (0, 1) else none)) else (bif Nat.beq idx 25 then some (0, 0) else none)) else (bif Nat.ble 17 idx then (bif Nat.ble 21 idx then (bif Nat.beq idx 21 then some (0, 5) else none) else (bif Nat.beq idx 17 then some (0, 3) else none)) else (bif Nat.beq idx 11 then some (0, 2) else none)))) else none))))
/-- a method of a class file: static?, its number, how many arguments; 1000: arraycopy, 1001 .. 1003: abs, max, min -/
def mthb (c idx : Nat) : Option (Bool × Nat × Nat) :=
  (bif Nat.ble 5 c then
   (bif Nat.ble 7 c then (bif Nat.ble 8 c then (bif Nat.beq c 8 then (bif Nat.ble 179 idx then (bif Nat.ble 211 idx then (bif Nat.ble 229 idx then (bif Nat.ble 235 idx then (bif Nat.ble 238 idx then (bif Nat.ble 241 idx then (bif Nat.beq idx 241 then some (false, 141, 2) else none) else (bif Nat.beq idx 238 then some (false, 87, 0) else none)) else (bif Nat.beq idx 235 then some (false, 137, 1) else none)) else (bif Nat.ble 232 idx then (bif Nat.beq idx 232 then some (false, 138, 0) else none) else (bif Nat.beq idx 229 then some (false, 114, 1) else none))) else (bif Nat.ble 218 idx then (bif Nat.ble 221 idx then (bif Nat.ble 224 idx then (bif Nat.beq idx 224 then some (false, 132, 2) else none) else (bif Nat.beq idx 221 then some (false, 129, 2) else none)) else (bif Nat.beq idx 218 then some (false, 130, 2) else none)) else (bif Nat.ble 215 idx then (bif Nat.beq idx 215 then some (false, 127, 2) else none) else (bif Nat.beq idx 211 then some (false, 126, 2) else none)))) else (bif Nat.ble 195 idx then (bif Nat.ble 201 idx then (bif Nat.ble 205 idx then (bif Nat.ble 208 idx then (bif Nat.beq idx 208 then some (false, 123, 0) else none) else (bif Nat.beq idx 205 then some (false, 125, 1) else none)) else (bif Nat.beq idx 201 then some (false, 122, 2) else none)) else (bif Nat.ble 198 idx then (bif Nat.beq idx 198 then some (false, 124, 1) else none) else (bif Nat.beq idx 195 then some (false, 120, 1) else none))) else (bif Nat.ble 186 idx then (bif Nat.ble 189 idx then (bif Nat.ble 192 idx then (bif Nat.beq idx 192 then some (false, 118, 1) else none) else (bif Nat.beq idx 189 then some (false, 117, 0) else none)) else (bif Nat.beq idx 186 then some (false, 116, 1) else none)) else (bif Nat.ble 183 idx then (bif Nat.beq idx 183 then some (false, 121, 1) else none) else (bif Nat.beq idx 179 then some (false, 111, 1) else none))))) else (bif Nat.ble 141 idx then (bif Nat.ble 160 idx then (bif Nat.ble 166 idx then (bif Nat.ble 170 idx then (bif Nat.ble 176 idx then (bif Nat.beq idx 176 then some (false, 119, 2) else none) else (bif Nat.beq idx 170 then some (true, 113, 2) else none)) else (bif Nat.beq idx 166 then some (false, 115, 0) else none)) else (bif Nat.ble 163 idx then (bif Nat.beq idx 163 then some (true, 112, 2) else none) else (bif Nat.beq idx 160 then some (true, 1002, 2) else none))) else (bif Nat.ble 151 idx then (bif Nat.ble 154 idx then (bif Nat.ble 157 idx then (bif Nat.beq idx 157 then some (true, 1001, 1) else none) else (bif Nat.beq idx 154 then some (false, 109, 1) else none)) else (bif Nat.beq idx 151 then some (false, 108, 2) else none)) else (bif Nat.ble 147 idx then (bif Nat.beq idx 147 then some (false, 107, 1) else none) else (bif Nat.beq idx 141 then some (false, 104, 1) else none)))) else (bif Nat.ble 113 idx then (bif Nat.ble 122 idx then (bif Nat.ble 126 idx then (bif Nat.ble 134 idx then (bif Nat.beq idx 134 then some (true, 98, 3) else none) else (bif Nat.beq idx 126 then some (false, 97, 4) else none)) else (bif Nat.beq idx 122 then some (false, 89, 2) else none)) else (bif Nat.ble 118 idx then (bif Nat.beq idx 118 then some (true, 90, 1) else none) else (bif Nat.beq idx 113 then some (true, 1003, 2) else none))) else (bif Nat.ble 104 idx then (bif Nat.ble 108 idx then (bif Nat.beq idx 108 then some (false, 93, 2) else none) else (bif Nat.beq idx 104 then some (true, 91, 2) else none)) else (bif Nat.ble 96 idx then (bif Nat.beq idx 96 then some (true, 86, 3) else none) else (bif Nat.beq idx 87 then some (false, 88, 0) else none)))))) else none) else (bif Nat.beq c 7 then (bif Nat.ble 140 idx then (bif Nat.ble 196 idx then (bif Nat.ble 224 idx then (bif Nat.ble 243 idx then (bif Nat.ble 246 idx then (bif Nat.ble 249 idx then (bif Nat.beq idx 249 then some (false, 46, 2) else none) else (bif Nat.beq idx 246 then some (false, 41, 0) else none)) else (bif Nat.beq idx 243 then some (false, 45, 2) else none)) else (bif Nat.ble 233 idx then (bif Nat.beq idx 233 then some (false, 44, 1) else none) else (bif Nat.beq idx 224 then some (false, 8, 1) else none))) else (bif Nat.ble 202 idx then (bif Nat.ble 208 idx then (bif Nat.ble 211 idx then (bif Nat.beq idx 211 then some (false, 48, 1) else none) else (bif Nat.beq idx 208 then some (false, 80, 2) else none)) else (bif Nat.beq idx 202 then some (false, 32, 1) else none)) else (bif Nat.ble 199 idx then (bif Nat.beq idx 199 then some (false, 38, 1) else none) else (bif Nat.beq idx 196 then some (false, 39, 1) else none)))) else (bif Nat.ble 176 idx then (bif Nat.ble 183 idx then (bif Nat.ble 186 idx then (bif Nat.ble 192 idx then (bif Nat.beq idx 192 then some (false, 72, 3) else none) else (bif Nat.beq idx 186 then some (false, 31, 2) else none)) else (bif Nat.beq idx 183 then some (false, 26, 1) else none)) else (bif Nat.ble 180 idx then (bif Nat.beq idx 180 then some (false, 19, 2) else none) else (bif Nat.beq idx 176 then some (false, 7, 1) else none))) else (bif Nat.ble 164 idx then (bif Nat.ble 170 idx then (bif Nat.ble 173 idx then (bif Nat.beq idx 173 then some (false, 1, 0) else none) else (bif Nat.beq idx 170 then some (false, 17, 2) else none)) else (bif Nat.beq idx 164 then some (false, 14, 0) else none)) else (bif Nat.ble 146 idx then (bif Nat.beq idx 146 then some (false, 3, 1) else none) else (bif Nat.beq idx 140 then some (false, 24, 4) else none))))) else (bif Nat.ble 103 idx then (bif Nat.ble 124 idx then (bif Nat.ble 128 idx then (bif Nat.ble 135 idx then (bif Nat.ble 139 idx then (bif Nat.beq idx 139 then some (false, 23, 0) else none) else (bif Nat.beq idx 135 then some (true, 81, 3) else none)) else (bif Nat.beq idx 128 then some (false, 12, 1) else none)) else (bif Nat.ble 125 idx then (bif Nat.beq idx 125 then some (false, 13, 6) else none) else (bif Nat.beq idx 124 then some (false, 11, 0) else none))) else (bif Nat.ble 111 idx then (bif Nat.ble 117 idx then (bif Nat.ble 121 idx then (bif Nat.beq idx 121 then some (true, 83, 1) else none) else (bif Nat.beq idx 117 then some (false, 30, 5) else none)) else (bif Nat.beq idx 111 then some (true, 84, 1) else none)) else (bif Nat.ble 107 idx then (bif Nat.beq idx 107 then some (false, 18, 4) else none) else (bif Nat.beq idx 103 then some (false, 6, 1) else none)))) else (bif Nat.ble 80 idx then (bif Nat.ble 91 idx then (bif Nat.ble 96 idx then (bif Nat.ble 99 idx then (bif Nat.beq idx 99 then some (false, 4, 0) else none) else (bif Nat.beq idx 96 then some (true, 82, 1) else none)) else (bif Nat.beq idx 91 then some (true, 1003, 2) else none)) else (bif Nat.ble 84 idx then (bif Nat.beq idx 84 then some (false, 5, 2) else none) else (bif Nat.beq idx 80 then some (false, 2, 0) else none))) else (bif Nat.ble 72 idx then (bif Nat.ble 73 idx then (bif Nat.ble 76 idx then (bif Nat.beq idx 76 then some (false, 16, 1) else none) else (bif Nat.beq idx 73 then some (false, 29, 0) else none)) else (bif Nat.beq idx 72 then some (false, 10, 0) else none)) else (bif Nat.ble 69 idx then (bif Nat.beq idx 69 then some (false, 0, 0) else none) else (bif Nat.beq idx 65 then some (false, 15, 2) else none)))))) else none)) else (bif Nat.ble 6 c then (bif Nat.beq c 6 then (bif Nat.ble 70 idx then (bif Nat.ble 90 idx then (bif Nat.ble 102 idx then (bif Nat.ble 106 idx then (bif Nat.beq idx 106 then some (false, 22, 2) else none) else (bif Nat.beq idx 102 then some (false, 56, 3) else none)) else (bif Nat.ble 96 idx then (bif Nat.beq idx 96 then some (false, 20, 2) else none) else (bif Nat.beq idx 90 then some (false, 55, 1) else none))) else (bif Nat.ble 82 idx then (bif Nat.ble 86 idx then (bif Nat.beq idx 86 then some (false, 54, 1) else none) else (bif Nat.beq idx 82 then some (false, 53, 1) else none)) else (bif Nat.ble 73 idx then (bif Nat.beq idx 73 then some (false, 28, 1) else none) else (bif Nat.beq idx 70 then some (true, 1003, 2) else none)))) else (bif Nat.ble 57 idx then (bif Nat.ble 63 idx then (bif Nat.ble 67 idx then (bif Nat.beq idx 67 then some (false, 21, 2) else none) else (bif Nat.beq idx 63 then some (false, 52, 1) else none)) else (bif Nat.ble 60 idx then (bif Nat.beq idx 60 then some (false, 26, 1) else none) else (bif Nat.beq idx 57 then some (false, 50, 2) else none))) else (bif Nat.ble 44 idx then (bif Nat.ble 48 idx then (bif Nat.beq idx 48 then some (true, 1002, 2) else none) else (bif Nat.beq idx 44 then some (false, 49, 2) else none)) else (bif Nat.beq idx 40 then some (false, 27, 1) else none)))) else none) else (bif Nat.beq c 5 then (bif Nat.ble 118 idx then (bif Nat.ble 172 idx then (bif Nat.ble 180 idx then (bif Nat.ble 183 idx then (bif Nat.ble 186 idx then (bif Nat.beq idx 186 then some (false, 38, 1) else none) else (bif Nat.beq idx 183 then some (false, 42, 0) else none)) else (bif Nat.beq idx 180 then some (false, 41, 0) else none)) else (bif Nat.ble 176 idx then (bif Nat.beq idx 176 then some (false, 43, 1) else none) else (bif Nat.beq idx 172 then some (false, 31, 2) else none))) else (bif Nat.ble 159 idx then (bif Nat.ble 165 idx then (bif Nat.ble 169 idx then (bif Nat.beq idx 169 then some (false, 20, 2) else none) else (bif Nat.beq idx 165 then some (false, 40, 2) else none)) else (bif Nat.beq idx 159 then some (false, 26, 1) else none)) else (bif Nat.ble 130 idx then (bif Nat.beq idx 130 then some (false, 36, 2) else none) else (bif Nat.beq idx 118 then some (false, 8, 1) else none)))) else (bif Nat.ble 73 idx then (bif Nat.ble 81 idx then (bif Nat.ble 84 idx then (bif Nat.ble 112 idx then (bif Nat.beq idx 112 then some (false, 25, 1) else none) else (bif Nat.beq idx 84 then some (false, 37, 0) else none)) else (bif Nat.beq idx 81 then some (false, 35, 0) else none)) else (bif Nat.ble 76 idx then (bif Nat.beq idx 76 then some (true, 1003, 2) else none) else (bif Nat.beq idx 73 then some (false, 34, 0) else none))) else (bif Nat.ble 49 idx then (bif Nat.ble 65 idx then (bif Nat.ble 69 idx then (bif Nat.beq idx 69 then some (false, 33, 0) else none) else (bif Nat.beq idx 65 then some (false, 32, 1) else none)) else (bif Nat.beq idx 49 then some (true, 1000, 5) else none)) else (bif Nat.ble 43 idx then (bif Nat.beq idx 43 then some (false, 19, 2) else none) else (bif Nat.beq idx 37 then some (true, 145, 2) else none))))) else none)))
  else
   (bif Nat.ble 2 c then (bif Nat.ble 4 c then (bif Nat.beq c 4 then (bif Nat.beq idx 22 then some (false, 27, 1) else none) else none) else (bif Nat.beq c 2 then (bif Nat.ble 36 idx then (bif Nat.ble 42 idx then (bif Nat.beq idx 42 then some (true, 1002, 2) else none) else (bif Nat.beq idx 36 then some (true, 1001, 1) else none)) else (bif Nat.ble 32 idx then (bif Nat.beq idx 32 then some (false, 17, 2) else none) else (bif Nat.beq idx 28 then some (false, 16, 1) else none))) else none)) else (bif Nat.beq c 0 then (bif Nat.ble 63 idx then (bif Nat.ble 67 idx then (bif Nat.ble 73 idx then (bif Nat.beq idx 73 then some (false, 51, 1) else none) else (bif Nat.beq idx 67 then some (false, 47, 1) else none)) else (bif Nat.beq idx 63 then some (true, 9, 2) else none)) else (bif Nat.ble 55 idx then (bif Nat.beq idx 55 then some (false, 26, 1) else none) else (bif Nat.beq idx 45 then some (false, 19, 2) else none))) else none)))
def fld (c idx : Nat) : Option (Nat × Nat) := bif Nat.ble 10 c then none else bif Nat.ble 300 idx then none else fldb c idx
def mth (c idx : Nat) : Option (Bool × Nat × Nat) := bif Nat.ble 10 c then none else bif Nat.ble 300 idx then none else mthb c idx
def lcnb (c idx : Nat) : Option Int64 :=
  bif Nat.beq c 8 then (bif Nat.ble 130 idx then (bif Nat.ble 132 idx then (bif Nat.ble 227 idx then (bif Nat.beq idx 227 then some (7 : Int64) else none) else (bif Nat.beq idx 132 then some (9 : Int64) else none)) else (bif Nat.beq idx 130 then some (-1 : Int64) else none)) else (bif Nat.ble 102 idx then (bif Nat.ble 111 idx then (bif Nat.beq idx 111 then some (2 : Int64) else none) else (bif Nat.beq idx 102 then some (12 : Int64) else none)) else (bif Nat.beq idx 100 then some (200 : Int64) else none))) else none
def lcn (c idx : Nat) : Option Int64 := bif Nat.ble 10 c then none else bif Nat.ble 300 idx then none else lcnb c idx
/-- what a method answers: 0 nothing, 1 an int, 2 a boolean, 3 a cell -/
def mrt (k : Nat) : Nat :=
  (bif Nat.ble 73 k then
   (bif Nat.ble 109 k then
    (bif Nat.ble 127 k then
     (bif Nat.ble 136 k then
      (bif Nat.ble 141 k then
       (bif Nat.ble 143 k then
        (bif Nat.ble 144 k then (bif Nat.ble 145 k then (bif Nat.beq k 145 then 0 else 0) else (bif Nat.beq k 144 then 1 else 0)) else (bif Nat.beq k 143 then 1 else 0))
       else
        (bif Nat.ble 142 k then (bif Nat.beq k 142 then 1 else 0) else (bif Nat.beq k 141 then 1 else 0)))
      else
       (bif Nat.ble 138 k then
        (bif Nat.ble 139 k then (bif Nat.ble 140 k then (bif Nat.beq k 140 then 1 else 0) else (bif Nat.beq k 139 then 1 else 0)) else (bif Nat.beq k 138 then 1 else 0))
       else
        (bif Nat.ble 137 k then (bif Nat.beq k 137 then 0 else 0) else (bif Nat.beq k 136 then 1 else 0))))
     else
      (bif Nat.ble 131 k then
       (bif Nat.ble 133 k then
        (bif Nat.ble 134 k then (bif Nat.ble 135 k then (bif Nat.beq k 135 then 1 else 0) else (bif Nat.beq k 134 then 1 else 0)) else (bif Nat.beq k 133 then 1 else 0))
       else
        (bif Nat.ble 132 k then (bif Nat.beq k 132 then 2 else 0) else (bif Nat.beq k 131 then 1 else 0)))
      else
       (bif Nat.ble 129 k then (bif Nat.ble 130 k then (bif Nat.beq k 130 then 2 else 0) else (bif Nat.beq k 129 then 1 else 0)) else (bif Nat.ble 128 k then (bif Nat.beq k 128 then 1 else 0) else (bif Nat.beq k 127 then 0 else 0)))))
    else
     (bif Nat.ble 118 k then
      (bif Nat.ble 122 k then
       (bif Nat.ble 124 k then
        (bif Nat.ble 125 k then (bif Nat.ble 126 k then (bif Nat.beq k 126 then 0 else 0) else (bif Nat.beq k 125 then 0 else 0)) else (bif Nat.beq k 124 then 1 else 0))
       else
        (bif Nat.ble 123 k then (bif Nat.beq k 123 then 0 else 0) else (bif Nat.beq k 122 then 0 else 0)))
      else
       (bif Nat.ble 120 k then (bif Nat.ble 121 k then (bif Nat.beq k 121 then 1 else 0) else (bif Nat.beq k 120 then 1 else 0)) else (bif Nat.ble 119 k then (bif Nat.beq k 119 then 1 else 0) else (bif Nat.beq k 118 then 1 else 0))))
     else
      (bif Nat.ble 113 k then
       (bif Nat.ble 115 k then
        (bif Nat.ble 116 k then (bif Nat.ble 117 k then (bif Nat.beq k 117 then 0 else 0) else (bif Nat.beq k 116 then 2 else 0)) else (bif Nat.beq k 115 then 1 else 0))
       else
        (bif Nat.ble 114 k then (bif Nat.beq k 114 then 1 else 0) else (bif Nat.beq k 113 then 1 else 0)))
      else
       (bif Nat.ble 111 k then (bif Nat.ble 112 k then (bif Nat.beq k 112 then 1 else 0) else (bif Nat.beq k 111 then 0 else 0)) else (bif Nat.ble 110 k then (bif Nat.beq k 110 then 1 else 0) else (bif Nat.beq k 109 then 2 else 0))))))
   else
    (bif Nat.ble 91 k then
     (bif Nat.ble 100 k then
      (bif Nat.ble 104 k then
       (bif Nat.ble 106 k then
        (bif Nat.ble 107 k then (bif Nat.ble 108 k then (bif Nat.beq k 108 then 2 else 0) else (bif Nat.beq k 107 then 1 else 0)) else (bif Nat.beq k 106 then 1 else 0))
       else
        (bif Nat.ble 105 k then (bif Nat.beq k 105 then 2 else 0) else (bif Nat.beq k 104 then 2 else 0)))
      else
       (bif Nat.ble 102 k then (bif Nat.ble 103 k then (bif Nat.beq k 103 then 1 else 0) else (bif Nat.beq k 102 then 1 else 0)) else (bif Nat.ble 101 k then (bif Nat.beq k 101 then 2 else 0) else (bif Nat.beq k 100 then 1 else 0))))
     else
      (bif Nat.ble 95 k then
       (bif Nat.ble 97 k then
        (bif Nat.ble 98 k then (bif Nat.ble 99 k then (bif Nat.beq k 99 then 2 else 0) else (bif Nat.beq k 98 then 2 else 0)) else (bif Nat.beq k 97 then 2 else 0))
       else
        (bif Nat.ble 96 k then (bif Nat.beq k 96 then 1 else 0) else (bif Nat.beq k 95 then 1 else 0)))
      else
       (bif Nat.ble 93 k then (bif Nat.ble 94 k then (bif Nat.beq k 94 then 1 else 0) else (bif Nat.beq k 93 then 1 else 0)) else (bif Nat.ble 92 k then (bif Nat.beq k 92 then 2 else 0) else (bif Nat.beq k 91 then 1 else 0)))))
    else
     (bif Nat.ble 82 k then
      (bif Nat.ble 86 k then
       (bif Nat.ble 88 k then
        (bif Nat.ble 89 k then (bif Nat.ble 90 k then (bif Nat.beq k 90 then 2 else 0) else (bif Nat.beq k 89 then 2 else 0)) else (bif Nat.beq k 88 then 0 else 0))
       else
        (bif Nat.ble 87 k then (bif Nat.beq k 87 then 1 else 0) else (bif Nat.beq k 86 then 2 else 0)))
      else
       (bif Nat.ble 84 k then (bif Nat.ble 85 k then (bif Nat.beq k 85 then 1 else 0) else (bif Nat.beq k 84 then 2 else 0)) else (bif Nat.ble 83 k then (bif Nat.beq k 83 then 2 else 0) else (bif Nat.beq k 82 then 2 else 0))))
     else
      (bif Nat.ble 77 k then
       (bif Nat.ble 79 k then
        (bif Nat.ble 80 k then (bif Nat.ble 81 k then (bif Nat.beq k 81 then 2 else 0) else (bif Nat.beq k 80 then 0 else 0)) else (bif Nat.beq k 79 then 1 else 0))
       else
        (bif Nat.ble 78 k then (bif Nat.beq k 78 then 1 else 0) else (bif Nat.beq k 77 then 1 else 0)))
      else
       (bif Nat.ble 75 k then (bif Nat.ble 76 k then (bif Nat.beq k 76 then 1 else 0) else (bif Nat.beq k 75 then 1 else 0)) else (bif Nat.ble 74 k then (bif Nat.beq k 74 then 1 else 0) else (bif Nat.beq k 73 then 1 else 0)))))))
  else
   (bif Nat.ble 36 k then
    (bif Nat.ble 54 k then
     (bif Nat.ble 63 k then
      (bif Nat.ble 68 k then
       (bif Nat.ble 70 k then
        (bif Nat.ble 71 k then (bif Nat.ble 72 k then (bif Nat.beq k 72 then 1 else 0) else (bif Nat.beq k 71 then 1 else 0)) else (bif Nat.beq k 70 then 1 else 0))
       else
        (bif Nat.ble 69 k then (bif Nat.beq k 69 then 1 else 0) else (bif Nat.beq k 68 then 1 else 0)))
      else
       (bif Nat.ble 65 k then
        (bif Nat.ble 66 k then (bif Nat.ble 67 k then (bif Nat.beq k 67 then 1 else 0) else (bif Nat.beq k 66 then 2 else 0)) else (bif Nat.beq k 65 then 1 else 0))
       else
        (bif Nat.ble 64 k then (bif Nat.beq k 64 then 1 else 0) else (bif Nat.beq k 63 then 2 else 0))))
     else
      (bif Nat.ble 58 k then
       (bif Nat.ble 60 k then
        (bif Nat.ble 61 k then (bif Nat.ble 62 k then (bif Nat.beq k 62 then 1 else 0) else (bif Nat.beq k 61 then 2 else 0)) else (bif Nat.beq k 60 then 1 else 0))
       else
        (bif Nat.ble 59 k then (bif Nat.beq k 59 then 1 else 0) else (bif Nat.beq k 58 then 1 else 0)))
      else
       (bif Nat.ble 56 k then (bif Nat.ble 57 k then (bif Nat.beq k 57 then 2 else 0) else (bif Nat.beq k 56 then 1 else 0)) else (bif Nat.ble 55 k then (bif Nat.beq k 55 then 0 else 0) else (bif Nat.beq k 54 then 0 else 0)))))
    else
     (bif Nat.ble 45 k then
      (bif Nat.ble 49 k then
       (bif Nat.ble 51 k then
        (bif Nat.ble 52 k then (bif Nat.ble 53 k then (bif Nat.beq k 53 then 2 else 0) else (bif Nat.beq k 52 then 0 else 0)) else (bif Nat.beq k 51 then 0 else 0))
       else
        (bif Nat.ble 50 k then (bif Nat.beq k 50 then 1 else 0) else (bif Nat.beq k 49 then 1 else 0)))
      else
       (bif Nat.ble 47 k then (bif Nat.ble 48 k then (bif Nat.beq k 48 then 1 else 0) else (bif Nat.beq k 47 then 0 else 0)) else (bif Nat.ble 46 k then (bif Nat.beq k 46 then 1 else 0) else (bif Nat.beq k 45 then 1 else 0))))
     else
      (bif Nat.ble 40 k then
       (bif Nat.ble 42 k then
        (bif Nat.ble 43 k then (bif Nat.ble 44 k then (bif Nat.beq k 44 then 1 else 0) else (bif Nat.beq k 43 then 0 else 0)) else (bif Nat.beq k 42 then 1 else 0))
       else
        (bif Nat.ble 41 k then (bif Nat.beq k 41 then 0 else 0) else (bif Nat.beq k 40 then 2 else 0)))
      else
       (bif Nat.ble 38 k then (bif Nat.ble 39 k then (bif Nat.beq k 39 then 1 else 0) else (bif Nat.beq k 38 then 1 else 0)) else (bif Nat.ble 37 k then (bif Nat.beq k 37 then 0 else 0) else (bif Nat.beq k 36 then 0 else 0))))))
   else
    (bif Nat.ble 18 k then
     (bif Nat.ble 27 k then
      (bif Nat.ble 31 k then
       (bif Nat.ble 33 k then
        (bif Nat.ble 34 k then (bif Nat.ble 35 k then (bif Nat.beq k 35 then 0 else 0) else (bif Nat.beq k 34 then 1 else 0)) else (bif Nat.beq k 33 then 1 else 0))
       else
        (bif Nat.ble 32 k then (bif Nat.beq k 32 then 2 else 0) else (bif Nat.beq k 31 then 0 else 0)))
      else
       (bif Nat.ble 29 k then (bif Nat.ble 30 k then (bif Nat.beq k 30 then 0 else 0) else (bif Nat.beq k 29 then 0 else 0)) else (bif Nat.ble 28 k then (bif Nat.beq k 28 then 2 else 0) else (bif Nat.beq k 27 then 2 else 0))))
     else
      (bif Nat.ble 22 k then
       (bif Nat.ble 24 k then
        (bif Nat.ble 25 k then (bif Nat.ble 26 k then (bif Nat.beq k 26 then 2 else 0) else (bif Nat.beq k 25 then 1 else 0)) else (bif Nat.beq k 24 then 1 else 0))
       else
        (bif Nat.ble 23 k then (bif Nat.beq k 23 then 2 else 0) else (bif Nat.beq k 22 then 1 else 0)))
      else
       (bif Nat.ble 20 k then (bif Nat.ble 21 k then (bif Nat.beq k 21 then 1 else 0) else (bif Nat.beq k 20 then 1 else 0)) else (bif Nat.ble 19 k then (bif Nat.beq k 19 then 1 else 0) else (bif Nat.beq k 18 then 2 else 0)))))
    else
     (bif Nat.ble 9 k then
      (bif Nat.ble 13 k then
       (bif Nat.ble 15 k then
        (bif Nat.ble 16 k then (bif Nat.ble 17 k then (bif Nat.beq k 17 then 2 else 0) else (bif Nat.beq k 16 then 2 else 0)) else (bif Nat.beq k 15 then 0 else 0))
       else
        (bif Nat.ble 14 k then (bif Nat.beq k 14 then 1 else 0) else (bif Nat.beq k 13 then 1 else 0)))
      else
       (bif Nat.ble 11 k then (bif Nat.ble 12 k then (bif Nat.beq k 12 then 2 else 0) else (bif Nat.beq k 11 then 2 else 0)) else (bif Nat.ble 10 k then (bif Nat.beq k 10 then 0 else 0) else (bif Nat.beq k 9 then 1 else 0))))
     else
      (bif Nat.ble 4 k then
       (bif Nat.ble 6 k then
        (bif Nat.ble 7 k then (bif Nat.ble 8 k then (bif Nat.beq k 8 then 2 else 0) else (bif Nat.beq k 7 then 3 else 0)) else (bif Nat.beq k 6 then 1 else 0))
       else
        (bif Nat.ble 5 k then (bif Nat.beq k 5 then 1 else 0) else (bif Nat.beq k 4 then 1 else 0)))
      else
       (bif Nat.ble 2 k then (bif Nat.ble 3 k then (bif Nat.beq k 3 then 2 else 0) else (bif Nat.beq k 2 then 2 else 0)) else (bif Nat.ble 1 k then (bif Nat.beq k 1 then 2 else 0) else (bif Nat.beq k 0 then 0 else 0))))))))
def mml (k : Nat) : Nat :=
  (bif Nat.ble 73 k then
   (bif Nat.ble 109 k then
    (bif Nat.ble 127 k then
     (bif Nat.ble 136 k then
      (bif Nat.ble 141 k then
       (bif Nat.ble 143 k then
        (bif Nat.ble 144 k then (bif Nat.ble 145 k then (bif Nat.beq k 145 then 4 else 0) else (bif Nat.beq k 144 then 2 else 0)) else (bif Nat.beq k 143 then 6 else 0))
       else
        (bif Nat.ble 142 k then (bif Nat.beq k 142 then 3 else 0) else (bif Nat.beq k 141 then 5 else 0)))
      else
       (bif Nat.ble 138 k then
        (bif Nat.ble 139 k then (bif Nat.ble 140 k then (bif Nat.beq k 140 then 5 else 0) else (bif Nat.beq k 139 then 5 else 0)) else (bif Nat.beq k 138 then 3 else 0))
       else
        (bif Nat.ble 137 k then (bif Nat.beq k 137 then 3 else 0) else (bif Nat.beq k 136 then 6 else 0))))
     else
      (bif Nat.ble 131 k then
       (bif Nat.ble 133 k then
        (bif Nat.ble 134 k then (bif Nat.ble 135 k then (bif Nat.beq k 135 then 5 else 0) else (bif Nat.beq k 134 then 6 else 0)) else (bif Nat.beq k 133 then 6 else 0))
       else
        (bif Nat.ble 132 k then (bif Nat.beq k 132 then 5 else 0) else (bif Nat.beq k 131 then 3 else 0)))
      else
       (bif Nat.ble 129 k then (bif Nat.ble 130 k then (bif Nat.beq k 130 then 3 else 0) else (bif Nat.beq k 129 then 5 else 0)) else (bif Nat.ble 128 k then (bif Nat.beq k 128 then 4 else 0) else (bif Nat.beq k 127 then 4 else 0)))))
    else
     (bif Nat.ble 118 k then
      (bif Nat.ble 122 k then
       (bif Nat.ble 124 k then
        (bif Nat.ble 125 k then (bif Nat.ble 126 k then (bif Nat.beq k 126 then 4 else 0) else (bif Nat.beq k 125 then 6 else 0)) else (bif Nat.beq k 124 then 3 else 0))
       else
        (bif Nat.ble 123 k then (bif Nat.beq k 123 then 2 else 0) else (bif Nat.beq k 122 then 10 else 0)))
      else
       (bif Nat.ble 120 k then (bif Nat.ble 121 k then (bif Nat.beq k 121 then 4 else 0) else (bif Nat.beq k 120 then 6 else 0)) else (bif Nat.ble 119 k then (bif Nat.beq k 119 then 5 else 0) else (bif Nat.beq k 118 then 4 else 0))))
     else
      (bif Nat.ble 113 k then
       (bif Nat.ble 115 k then
        (bif Nat.ble 116 k then (bif Nat.ble 117 k then (bif Nat.beq k 117 then 5 else 0) else (bif Nat.beq k 116 then 2 else 0)) else (bif Nat.beq k 115 then 6 else 0))
       else
        (bif Nat.ble 114 k then (bif Nat.beq k 114 then 4 else 0) else (bif Nat.beq k 113 then 2 else 0)))
      else
       (bif Nat.ble 111 k then (bif Nat.ble 112 k then (bif Nat.beq k 112 then 2 else 0) else (bif Nat.beq k 111 then 5 else 0)) else (bif Nat.ble 110 k then (bif Nat.beq k 110 then 4 else 0) else (bif Nat.beq k 109 then 2 else 0))))))
   else
    (bif Nat.ble 91 k then
     (bif Nat.ble 100 k then
      (bif Nat.ble 104 k then
       (bif Nat.ble 106 k then
        (bif Nat.ble 107 k then (bif Nat.ble 108 k then (bif Nat.beq k 108 then 3 else 0) else (bif Nat.beq k 107 then 4 else 0)) else (bif Nat.beq k 106 then 4 else 0))
       else
        (bif Nat.ble 105 k then (bif Nat.beq k 105 then 3 else 0) else (bif Nat.beq k 104 then 2 else 0)))
      else
       (bif Nat.ble 102 k then (bif Nat.ble 103 k then (bif Nat.beq k 103 then 3 else 0) else (bif Nat.beq k 102 then 5 else 0)) else (bif Nat.ble 101 k then (bif Nat.beq k 101 then 3 else 0) else (bif Nat.beq k 100 then 7 else 0))))
     else
      (bif Nat.ble 95 k then
       (bif Nat.ble 97 k then
        (bif Nat.ble 98 k then (bif Nat.ble 99 k then (bif Nat.beq k 99 then 7 else 0) else (bif Nat.beq k 98 then 3 else 0)) else (bif Nat.beq k 97 then 5 else 0))
       else
        (bif Nat.ble 96 k then (bif Nat.beq k 96 then 3 else 0) else (bif Nat.beq k 95 then 10 else 0)))
      else
       (bif Nat.ble 93 k then (bif Nat.ble 94 k then (bif Nat.beq k 94 then 3 else 0) else (bif Nat.beq k 93 then 6 else 0)) else (bif Nat.ble 92 k then (bif Nat.beq k 92 then 3 else 0) else (bif Nat.beq k 91 then 2 else 0)))))
    else
     (bif Nat.ble 82 k then
      (bif Nat.ble 86 k then
       (bif Nat.ble 88 k then
        (bif Nat.ble 89 k then (bif Nat.ble 90 k then (bif Nat.beq k 90 then 1 else 0) else (bif Nat.beq k 89 then 3 else 0)) else (bif Nat.beq k 88 then 2 else 0))
       else
        (bif Nat.ble 87 k then (bif Nat.beq k 87 then 1 else 0) else (bif Nat.beq k 86 then 6 else 0)))
      else
       (bif Nat.ble 84 k then (bif Nat.ble 85 k then (bif Nat.beq k 85 then 1 else 0) else (bif Nat.beq k 84 then 1 else 0)) else (bif Nat.ble 83 k then (bif Nat.beq k 83 then 1 else 0) else (bif Nat.beq k 82 then 1 else 0))))
     else
      (bif Nat.ble 77 k then
       (bif Nat.ble 79 k then
        (bif Nat.ble 80 k then (bif Nat.ble 81 k then (bif Nat.beq k 81 then 3 else 0) else (bif Nat.beq k 80 then 3 else 0)) else (bif Nat.beq k 79 then 2 else 0))
       else
        (bif Nat.ble 78 k then (bif Nat.beq k 78 then 6 else 0) else (bif Nat.beq k 77 then 3 else 0)))
      else
       (bif Nat.ble 75 k then (bif Nat.ble 76 k then (bif Nat.beq k 76 then 3 else 0) else (bif Nat.beq k 75 then 4 else 0)) else (bif Nat.ble 74 k then (bif Nat.beq k 74 then 2 else 0) else (bif Nat.beq k 73 then 7 else 0)))))))
  else
   (bif Nat.ble 36 k then
    (bif Nat.ble 54 k then
     (bif Nat.ble 63 k then
      (bif Nat.ble 68 k then
       (bif Nat.ble 70 k then
        (bif Nat.ble 71 k then (bif Nat.ble 72 k then (bif Nat.beq k 72 then 7 else 0) else (bif Nat.beq k 71 then 3 else 0)) else (bif Nat.beq k 70 then 3 else 0))
       else
        (bif Nat.ble 69 k then (bif Nat.beq k 69 then 4 else 0) else (bif Nat.beq k 68 then 4 else 0)))
      else
       (bif Nat.ble 65 k then
        (bif Nat.ble 66 k then (bif Nat.ble 67 k then (bif Nat.beq k 67 then 2 else 0) else (bif Nat.beq k 66 then 3 else 0)) else (bif Nat.beq k 65 then 3 else 0))
       else
        (bif Nat.ble 64 k then (bif Nat.beq k 64 then 6 else 0) else (bif Nat.beq k 63 then 3 else 0))))
     else
      (bif Nat.ble 58 k then
       (bif Nat.ble 60 k then
        (bif Nat.ble 61 k then (bif Nat.ble 62 k then (bif Nat.beq k 62 then 7 else 0) else (bif Nat.beq k 61 then 6 else 0)) else (bif Nat.beq k 60 then 2 else 0))
       else
        (bif Nat.ble 59 k then (bif Nat.beq k 59 then 10 else 0) else (bif Nat.beq k 58 then 3 else 0)))
      else
       (bif Nat.ble 56 k then (bif Nat.ble 57 k then (bif Nat.beq k 57 then 3 else 0) else (bif Nat.beq k 56 then 9 else 0)) else (bif Nat.ble 55 k then (bif Nat.beq k 55 then 4 else 0) else (bif Nat.beq k 54 then 3 else 0)))))
    else
     (bif Nat.ble 45 k then
      (bif Nat.ble 49 k then
       (bif Nat.ble 51 k then
        (bif Nat.ble 52 k then (bif Nat.ble 53 k then (bif Nat.beq k 53 then 5 else 0) else (bif Nat.beq k 52 then 5 else 0)) else (bif Nat.beq k 51 then 3 else 0))
       else
        (bif Nat.ble 50 k then (bif Nat.beq k 50 then 5 else 0) else (bif Nat.beq k 49 then 5 else 0)))
      else
       (bif Nat.ble 47 k then (bif Nat.ble 48 k then (bif Nat.beq k 48 then 4 else 0) else (bif Nat.beq k 47 then 3 else 0)) else (bif Nat.ble 46 k then (bif Nat.beq k 46 then 3 else 0) else (bif Nat.beq k 45 then 4 else 0))))
     else
      (bif Nat.ble 40 k then
       (bif Nat.ble 42 k then
        (bif Nat.ble 43 k then (bif Nat.ble 44 k then (bif Nat.beq k 44 then 2 else 0) else (bif Nat.beq k 43 then 2 else 0)) else (bif Nat.beq k 42 then 3 else 0))
       else
        (bif Nat.ble 41 k then (bif Nat.beq k 41 then 1 else 0) else (bif Nat.beq k 40 then 5 else 0)))
      else
       (bif Nat.ble 38 k then (bif Nat.ble 39 k then (bif Nat.beq k 39 then 5 else 0) else (bif Nat.beq k 38 then 5 else 0)) else (bif Nat.ble 37 k then (bif Nat.beq k 37 then 6 else 0) else (bif Nat.beq k 36 then 6 else 0))))))
   else
    (bif Nat.ble 18 k then
     (bif Nat.ble 27 k then
      (bif Nat.ble 31 k then
       (bif Nat.ble 33 k then
        (bif Nat.ble 34 k then (bif Nat.ble 35 k then (bif Nat.beq k 35 then 5 else 0) else (bif Nat.beq k 34 then 1 else 0)) else (bif Nat.beq k 33 then 1 else 0))
       else
        (bif Nat.ble 32 k then (bif Nat.beq k 32 then 6 else 0) else (bif Nat.beq k 31 then 3 else 0)))
      else
       (bif Nat.ble 29 k then (bif Nat.ble 30 k then (bif Nat.beq k 30 then 8 else 0) else (bif Nat.beq k 29 then 1 else 0)) else (bif Nat.ble 28 k then (bif Nat.beq k 28 then 2 else 0) else (bif Nat.beq k 27 then 2 else 0))))
     else
      (bif Nat.ble 22 k then
       (bif Nat.ble 24 k then
        (bif Nat.ble 25 k then (bif Nat.ble 26 k then (bif Nat.beq k 26 then 2 else 0) else (bif Nat.beq k 25 then 4 else 0)) else (bif Nat.beq k 24 then 5 else 0))
       else
        (bif Nat.ble 23 k then (bif Nat.beq k 23 then 1 else 0) else (bif Nat.beq k 22 then 3 else 0)))
      else
       (bif Nat.ble 20 k then (bif Nat.ble 21 k then (bif Nat.beq k 21 then 3 else 0) else (bif Nat.beq k 20 then 3 else 0)) else (bif Nat.ble 19 k then (bif Nat.beq k 19 then 3 else 0) else (bif Nat.beq k 18 then 5 else 0)))))
    else
     (bif Nat.ble 9 k then
      (bif Nat.ble 13 k then
       (bif Nat.ble 15 k then
        (bif Nat.ble 16 k then (bif Nat.ble 17 k then (bif Nat.beq k 17 then 3 else 0) else (bif Nat.beq k 16 then 2 else 0)) else (bif Nat.beq k 15 then 5 else 0))
       else
        (bif Nat.ble 14 k then (bif Nat.beq k 14 then 3 else 0) else (bif Nat.beq k 13 then 9 else 0)))
      else
       (bif Nat.ble 11 k then (bif Nat.ble 12 k then (bif Nat.beq k 12 then 2 else 0) else (bif Nat.beq k 11 then 1 else 0)) else (bif Nat.ble 10 k then (bif Nat.beq k 10 then 1 else 0) else (bif Nat.beq k 9 then 2 else 0))))
     else
      (bif Nat.ble 4 k then
       (bif Nat.ble 6 k then
        (bif Nat.ble 7 k then (bif Nat.ble 8 k then (bif Nat.beq k 8 then 3 else 0) else (bif Nat.beq k 7 then 4 else 0)) else (bif Nat.beq k 6 then 6 else 0))
       else
        (bif Nat.ble 5 k then (bif Nat.beq k 5 then 6 else 0) else (bif Nat.beq k 4 then 1 else 0)))
      else
       (bif Nat.ble 2 k then (bif Nat.ble 3 k then (bif Nat.beq k 3 then 2 else 0) else (bif Nat.beq k 2 then 1 else 0)) else (bif Nat.ble 1 k then (bif Nat.beq k 1 then 1 else 0) else (bif Nat.beq k 0 then 2 else 0))))))))
end
section
/-! WHAT THE TABLES SAY OF THE METHODS (written by wip/whole/gen_tables.py) -/
def onm (c : Nat) : String :=
  (bif Nat.ble 5 c then
   (bif Nat.ble 7 c then
    (bif Nat.ble 8 c then (bif Nat.ble 9 c then (bif Nat.beq c 9 then RJ7 else "") else (bif Nat.beq c 8 then RX8 else "")) else (bif Nat.beq c 7 then RX7 else ""))
   else
    (bif Nat.ble 6 c then (bif Nat.beq c 6 then RX6 else "") else (bif Nat.beq c 5 then RX5 else "")))
  else
   (bif Nat.ble 2 c then
    (bif Nat.ble 3 c then (bif Nat.ble 4 c then (bif Nat.beq c 4 then RX4 else "") else (bif Nat.beq c 3 then RX3 else "")) else (bif Nat.beq c 2 then RX2 else ""))
   else
    (bif Nat.ble 1 c then (bif Nat.beq c 1 then RX1 else "") else (bif Nat.beq c 0 then RX0 else ""))))
def ycd (k : Nat) : MethodName :=
  (bif Nat.ble 73 k then
   (bif Nat.ble 109 k then
    (bif Nat.ble 127 k then
     (bif Nat.ble 136 k then
      (bif Nat.ble 141 k then
       (bif Nat.ble 143 k then
        (bif Nat.ble 144 k then (bif Nat.ble 145 k then (bif Nat.beq k 145 then yJ7_fill_53178 else ⟨"", "", ""⟩) else (bif Nat.beq k 144 then yX8_row else ⟨"", "", ""⟩)) else (bif Nat.beq k 143 then yX8_weak else ⟨"", "", ""⟩))
       else
        (bif Nat.ble 142 k then (bif Nat.beq k 142 then yX8_doubt else ⟨"", "", ""⟩) else (bif Nat.beq k 141 then yX8_unlike else ⟨"", "", ""⟩)))
      else
       (bif Nat.ble 138 k then
        (bif Nat.ble 139 k then (bif Nat.ble 140 k then (bif Nat.beq k 140 then yX8_moved else ⟨"", "", ""⟩) else (bif Nat.beq k 139 then yX8_step else ⟨"", "", ""⟩)) else (bif Nat.beq k 138 then yX8_shores else ⟨"", "", ""⟩))
       else
        (bif Nat.ble 137 k then (bif Nat.beq k 137 then yX8_walks else ⟨"", "", ""⟩) else (bif Nat.beq k 136 then yX8_banks else ⟨"", "", ""⟩))))
     else
      (bif Nat.ble 131 k then
       (bif Nat.ble 133 k then
        (bif Nat.ble 134 k then (bif Nat.ble 135 k then (bif Nat.beq k 135 then yX8_chain else ⟨"", "", ""⟩) else (bif Nat.beq k 134 then yX8_tax else ⟨"", "", ""⟩)) else (bif Nat.beq k 133 then yX8_front else ⟨"", "", ""⟩))
       else
        (bif Nat.ble 132 k then (bif Nat.beq k 132 then yX8_isByWater else ⟨"", "", ""⟩) else (bif Nat.beq k 131 then yX8_area else ⟨"", "", ""⟩)))
      else
       (bif Nat.ble 129 k then (bif Nat.ble 130 k then (bif Nat.beq k 130 then yX8_isAsked else ⟨"", "", ""⟩) else (bif Nat.beq k 129 then yX8_areaOn else ⟨"", "", ""⟩)) else (bif Nat.ble 128 k then (bif Nat.beq k 128 then yX8_owner else ⟨"", "", ""⟩) else (bif Nat.beq k 127 then yX8_upTo else ⟨"", "", ""⟩)))))
    else
     (bif Nat.ble 118 k then
      (bif Nat.ble 122 k then
       (bif Nat.ble 124 k then
        (bif Nat.ble 125 k then (bif Nat.ble 126 k then (bif Nat.beq k 126 then yX8_goes else ⟨"", "", ""⟩) else (bif Nat.beq k 125 then yX8_deedsIn else ⟨"", "", ""⟩)) else (bif Nat.beq k 124 then yX8_stepIn else ⟨"", "", ""⟩))
       else
        (bif Nat.ble 123 k then (bif Nat.beq k 123 then yX8_begins else ⟨"", "", ""⟩) else (bif Nat.beq k 122 then yX8_steps else ⟨"", "", ""⟩)))
      else
       (bif Nat.ble 120 k then (bif Nat.ble 121 k then (bif Nat.beq k 121 then yX8_lawIn else ⟨"", "", ""⟩) else (bif Nat.beq k 120 then yX8_nearestToPart else ⟨"", "", ""⟩)) else (bif Nat.ble 119 k then (bif Nat.beq k 119 then yX8_awayFromPart else ⟨"", "", ""⟩) else (bif Nat.beq k 118 then yX8_nearest else ⟨"", "", ""⟩))))
     else
      (bif Nat.ble 113 k then
       (bif Nat.ble 115 k then
        (bif Nat.ble 116 k then (bif Nat.ble 117 k then (bif Nat.beq k 117 then yX8_findsParts else ⟨"", "", ""⟩) else (bif Nat.beq k 116 then yX8_isSudden else ⟨"", "", ""⟩)) else (bif Nat.beq k 115 then yX8_far else ⟨"", "", ""⟩))
       else
        (bif Nat.ble 114 k then (bif Nat.beq k 114 then yX8_kindsOf else ⟨"", "", ""⟩) else (bif Nat.beq k 113 then yX8_away else ⟨"", "", ""⟩)))
      else
       (bif Nat.ble 111 k then (bif Nat.ble 112 k then (bif Nat.beq k 112 then yX8_apart else ⟨"", "", ""⟩) else (bif Nat.beq k 111 then yX8_kinds else ⟨"", "", ""⟩)) else (bif Nat.ble 110 k then (bif Nat.beq k 110 then yX8_wet else ⟨"", "", ""⟩) else (bif Nat.beq k 109 then yX8_isOn else ⟨"", "", ""⟩))))))
   else
    (bif Nat.ble 91 k then
     (bif Nat.ble 100 k then
      (bif Nat.ble 104 k then
       (bif Nat.ble 106 k then
        (bif Nat.ble 107 k then (bif Nat.ble 108 k then (bif Nat.beq k 108 then yX8_isWet else ⟨"", "", ""⟩) else (bif Nat.beq k 107 then yX8_mapIn else ⟨"", "", ""⟩)) else (bif Nat.beq k 106 then yX8_count else ⟨"", "", ""⟩))
       else
        (bif Nat.ble 105 k then (bif Nat.beq k 105 then yX8_judge else ⟨"", "", ""⟩) else (bif Nat.beq k 104 then yX8_isStep else ⟨"", "", ""⟩)))
      else
       (bif Nat.ble 102 k then (bif Nat.ble 103 k then (bif Nat.beq k 103 then yX8_reach else ⟨"", "", ""⟩) else (bif Nat.beq k 102 then yX8_law else ⟨"", "", ""⟩)) else (bif Nat.ble 101 k then (bif Nat.beq k 101 then yX8_strike else ⟨"", "", ""⟩) else (bif Nat.beq k 100 then yX8_deed else ⟨"", "", ""⟩))))
     else
      (bif Nat.ble 95 k then
       (bif Nat.ble 97 k then
        (bif Nat.ble 98 k then (bif Nat.ble 99 k then (bif Nat.beq k 99 then yX8_own else ⟨"", "", ""⟩) else (bif Nat.beq k 98 then yX8_isInBox else ⟨"", "", ""⟩)) else (bif Nat.beq k 97 then yX8_isBox else ⟨"", "", ""⟩))
       else
        (bif Nat.ble 96 k then (bif Nat.beq k 96 then yX8_map else ⟨"", "", ""⟩) else (bif Nat.beq k 95 then yX8_sheet else ⟨"", "", ""⟩)))
      else
       (bif Nat.ble 93 k then (bif Nat.ble 94 k then (bif Nat.beq k 94 then yX8_water else ⟨"", "", ""⟩) else (bif Nat.beq k 93 then yX8_rowOf else ⟨"", "", ""⟩)) else (bif Nat.ble 92 k then (bif Nat.beq k 92 then yX8_land else ⟨"", "", ""⟩) else (bif Nat.beq k 91 then yX8_cell else ⟨"", "", ""⟩)))))
    else
     (bif Nat.ble 82 k then
      (bif Nat.ble 86 k then
       (bif Nat.ble 88 k then
        (bif Nat.ble 89 k then (bif Nat.ble 90 k then (bif Nat.beq k 90 then yX8_isYear else ⟨"", "", ""⟩) else (bif Nat.beq k 89 then yX8_isCell else ⟨"", "", ""⟩)) else (bif Nat.beq k 88 then yX8_lays else ⟨"", "", ""⟩))
       else
        (bif Nat.ble 87 k then (bif Nat.beq k 87 then yX8_refuse else ⟨"", "", ""⟩) else (bif Nat.beq k 86 then yX8_in else ⟨"", "", ""⟩)))
      else
       (bif Nat.ble 84 k then (bif Nat.ble 85 k then (bif Nat.beq k 85 then yX8_thrown else ⟨"", "", ""⟩) else (bif Nat.beq k 84 then yX7_isOwnerOrNone else ⟨"", "", ""⟩)) else (bif Nat.ble 83 k then (bif Nat.beq k 83 then yX7_isOwner else ⟨"", "", ""⟩) else (bif Nat.beq k 82 then yX7_isYear else ⟨"", "", ""⟩))))
     else
      (bif Nat.ble 77 k then
       (bif Nat.ble 79 k then
        (bif Nat.ble 80 k then (bif Nat.ble 81 k then (bif Nat.beq k 81 then yX7_isBetween else ⟨"", "", ""⟩) else (bif Nat.beq k 80 then yX7_tell else ⟨"", "", ""⟩)) else (bif Nat.beq k 79 then yX7_row else ⟨"", "", ""⟩))
       else
        (bif Nat.ble 78 k then (bif Nat.beq k 78 then yX7_weak else ⟨"", "", ""⟩) else (bif Nat.beq k 77 then yX7_doubt else ⟨"", "", ""⟩)))
      else
       (bif Nat.ble 75 k then (bif Nat.ble 76 k then (bif Nat.beq k 76 then yX7_moved else ⟨"", "", ""⟩) else (bif Nat.beq k 75 then yX7_step else ⟨"", "", ""⟩)) else (bif Nat.ble 74 k then (bif Nat.beq k 74 then yX7_banks else ⟨"", "", ""⟩) else (bif Nat.beq k 73 then yX7_chain else ⟨"", "", ""⟩)))))))
  else
   (bif Nat.ble 36 k then
    (bif Nat.ble 54 k then
     (bif Nat.ble 63 k then
      (bif Nat.ble 68 k then
       (bif Nat.ble 70 k then
        (bif Nat.ble 71 k then (bif Nat.ble 72 k then (bif Nat.beq k 72 then yX7_tax else ⟨"", "", ""⟩) else (bif Nat.beq k 71 then yX7_front else ⟨"", "", ""⟩)) else (bif Nat.beq k 70 then yX7_area else ⟨"", "", ""⟩))
       else
        (bif Nat.ble 69 k then (bif Nat.beq k 69 then yX7_owner else ⟨"", "", ""⟩) else (bif Nat.beq k 68 then yX7_wet else ⟨"", "", ""⟩)))
      else
       (bif Nat.ble 65 k then
        (bif Nat.ble 66 k then (bif Nat.ble 67 k then (bif Nat.beq k 67 then yX7_count else ⟨"", "", ""⟩) else (bif Nat.beq k 66 then yX7_judge else ⟨"", "", ""⟩)) else (bif Nat.beq k 65 then yX7_reach else ⟨"", "", ""⟩))
       else
        (bif Nat.ble 64 k then (bif Nat.beq k 64 then yX7_law else ⟨"", "", ""⟩) else (bif Nat.beq k 63 then yX7_strike else ⟨"", "", ""⟩))))
     else
      (bif Nat.ble 58 k then
       (bif Nat.ble 60 k then
        (bif Nat.ble 61 k then (bif Nat.ble 62 k then (bif Nat.beq k 62 then yX7_deed else ⟨"", "", ""⟩) else (bif Nat.beq k 61 then yX7_own else ⟨"", "", ""⟩)) else (bif Nat.beq k 60 then yX7_map else ⟨"", "", ""⟩))
       else
        (bif Nat.ble 59 k then (bif Nat.beq k 59 then yX7_sheet else ⟨"", "", ""⟩) else (bif Nat.beq k 58 then yX7_water else ⟨"", "", ""⟩)))
      else
       (bif Nat.ble 56 k then (bif Nat.ble 57 k then (bif Nat.beq k 57 then yX7_land else ⟨"", "", ""⟩) else (bif Nat.beq k 56 then yX6_fastNearestTo else ⟨"", "", ""⟩)) else (bif Nat.ble 55 k then (bif Nat.beq k 55 then yX6_settleIsle else ⟨"", "", ""⟩) else (bif Nat.beq k 54 then yX6_settleShore else ⟨"", "", ""⟩)))))
    else
     (bif Nat.ble 45 k then
      (bif Nat.ble 49 k then
       (bif Nat.ble 51 k then
        (bif Nat.ble 52 k then (bif Nat.ble 53 k then (bif Nat.beq k 53 then yX6_partIsByFast else ⟨"", "", ""⟩) else (bif Nat.beq k 52 then yX6_gather else ⟨"", "", ""⟩)) else (bif Nat.beq k 51 then yX6_sortParts else ⟨"", "", ""⟩))
       else
        (bif Nat.ble 50 k then (bif Nat.beq k 50 then yX6_apartFromOldWater else ⟨"", "", ""⟩) else (bif Nat.beq k 49 then yX6_apartFromFast else ⟨"", "", ""⟩)))
      else
       (bif Nat.ble 47 k then (bif Nat.ble 48 k then (bif Nat.beq k 48 then yX6_dryParts else ⟨"", "", ""⟩) else (bif Nat.beq k 47 then yX6_measure else ⟨"", "", ""⟩)) else (bif Nat.ble 46 k then (bif Nat.beq k 46 then yX5_changedByDoubt else ⟨"", "", ""⟩) else (bif Nat.beq k 45 then yX5_wonBy else ⟨"", "", ""⟩))))
     else
      (bif Nat.ble 40 k then
       (bif Nat.ble 42 k then
        (bif Nat.ble 43 k then (bif Nat.ble 44 k then (bif Nat.beq k 44 then yX5_changedBy else ⟨"", "", ""⟩) else (bif Nat.beq k 43 then yX5_runAheadOf else ⟨"", "", ""⟩)) else (bif Nat.beq k 42 then yX5_differing else ⟨"", "", ""⟩))
       else
        (bif Nat.ble 41 k then (bif Nat.beq k 41 then yX5_keep else ⟨"", "", ""⟩) else (bif Nat.beq k 40 then yX5_isByWater else ⟨"", "", ""⟩)))
      else
       (bif Nat.ble 38 k then (bif Nat.ble 39 k then (bif Nat.beq k 39 then yX5_dryByWaterOf else ⟨"", "", ""⟩) else (bif Nat.beq k 38 then yX5_dryOf else ⟨"", "", ""⟩)) else (bif Nat.ble 37 k then (bif Nat.beq k 37 then yX5_takeDeed else ⟨"", "", ""⟩) else (bif Nat.beq k 36 then yX5_shiftOwners else ⟨"", "", ""⟩))))))
   else
    (bif Nat.ble 18 k then
     (bif Nat.ble 27 k then
      (bif Nat.ble 31 k then
       (bif Nat.ble 33 k then
        (bif Nat.ble 34 k then (bif Nat.ble 35 k then (bif Nat.beq k 35 then yX5_takeStep else ⟨"", "", ""⟩) else (bif Nat.beq k 34 then yX5_nextDeedYear else ⟨"", "", ""⟩)) else (bif Nat.beq k 33 then yX5_nextStepYear else ⟨"", "", ""⟩))
       else
        (bif Nat.ble 32 k then (bif Nat.beq k 32 then yX5_runTo else ⟨"", "", ""⟩) else (bif Nat.beq k 31 then yX5_runFromFirst else ⟨"", "", ""⟩)))
      else
       (bif Nat.ble 29 k then (bif Nat.ble 30 k then (bif Nat.beq k 30 then yX5_setFirst else ⟨"", "", ""⟩) else (bif Nat.beq k 29 then yX5_forgetFirst else ⟨"", "", ""⟩)) else (bif Nat.ble 28 k then (bif Nat.beq k 28 then yX4_wasWater else ⟨"", "", ""⟩) else (bif Nat.beq k 27 then yX4_isNew else ⟨"", "", ""⟩))))
     else
      (bif Nat.ble 22 k then
       (bif Nat.ble 24 k then
        (bif Nat.ble 25 k then (bif Nat.ble 26 k then (bif Nat.beq k 26 then yX4_isDry else ⟨"", "", ""⟩) else (bif Nat.beq k 25 then yX3_placeFor else ⟨"", "", ""⟩)) else (bif Nat.beq k 24 then yX3_add else ⟨"", "", ""⟩))
       else
        (bif Nat.ble 23 k then (bif Nat.beq k 23 then yX3_isFull else ⟨"", "", ""⟩) else (bif Nat.beq k 22 then yX2_walk else ⟨"", "", ""⟩)))
      else
       (bif Nat.ble 20 k then (bif Nat.ble 21 k then (bif Nat.beq k 21 then yX2_apart else ⟨"", "", ""⟩) else (bif Nat.beq k 20 then yX2_beside else ⟨"", "", ""⟩)) else (bif Nat.ble 19 k then (bif Nat.beq k 19 then yX2_cellAt else ⟨"", "", ""⟩) else (bif Nat.beq k 18 then yX2_hasBox else ⟨"", "", ""⟩)))))
    else
     (bif Nat.ble 9 k then
      (bif Nat.ble 13 k then
       (bif Nat.ble 15 k then
        (bif Nat.ble 16 k then (bif Nat.ble 17 k then (bif Nat.beq k 17 then yX2_has else ⟨"", "", ""⟩) else (bif Nat.beq k 16 then yX2_hasLine else ⟨"", "", ""⟩)) else (bif Nat.beq k 15 then yX2_lay else ⟨"", "", ""⟩))
       else
        (bif Nat.ble 14 k then (bif Nat.beq k 14 then yX1_notStruck else ⟨"", "", ""⟩) else (bif Nat.beq k 13 then yX1_add else ⟨"", "", ""⟩)))
      else
       (bif Nat.ble 11 k then (bif Nat.ble 12 k then (bif Nat.beq k 12 then yX1_has else ⟨"", "", ""⟩) else (bif Nat.beq k 11 then yX1_isFull else ⟨"", "", ""⟩)) else (bif Nat.ble 10 k then (bif Nat.beq k 10 then yX1_clear else ⟨"", "", ""⟩) else (bif Nat.beq k 9 then yX0_kindBetween else ⟨"", "", ""⟩))))
     else
      (bif Nat.ble 4 k then
       (bif Nat.ble 6 k then
        (bif Nat.ble 7 k then (bif Nat.ble 8 k then (bif Nat.beq k 8 then yX0_isSudden else ⟨"", "", ""⟩) else (bif Nat.beq k 7 then yX0_leafIn else ⟨"", "", ""⟩)) else (bif Nat.beq k 6 then yX0_add else ⟨"", "", ""⟩))
       else
        (bif Nat.ble 5 k then (bif Nat.beq k 5 then yX0_draftLine else ⟨"", "", ""⟩) else (bif Nat.beq k 4 then yX0_latestYear else ⟨"", "", ""⟩)))
      else
       (bif Nat.ble 2 k then (bif Nat.ble 3 k then (bif Nat.beq k 3 then yX0_hasStep else ⟨"", "", ""⟩) else (bif Nat.beq k 2 then yX0_isFull else ⟨"", "", ""⟩)) else (bif Nat.ble 1 k then (bif Nat.beq k 1 then yX0_isEmpty else ⟨"", "", ""⟩) else (bif Nat.beq k 0 then yX0_clear else ⟨"", "", ""⟩))))))))
def bcd (k : Nat) : ByteArray :=
  (bif Nat.ble 73 k then
   (bif Nat.ble 109 k then
    (bif Nat.ble 127 k then
     (bif Nat.ble 136 k then
      (bif Nat.ble 141 k then
       (bif Nat.ble 143 k then
        (bif Nat.ble 144 k then (bif Nat.ble 145 k then (bif Nat.beq k 145 then cJ7_fill_53178 else ⟨#[]⟩) else (bif Nat.beq k 144 then cX8_row else ⟨#[]⟩)) else (bif Nat.beq k 143 then cX8_weak else ⟨#[]⟩))
       else
        (bif Nat.ble 142 k then (bif Nat.beq k 142 then cX8_doubt else ⟨#[]⟩) else (bif Nat.beq k 141 then cX8_unlike else ⟨#[]⟩)))
      else
       (bif Nat.ble 138 k then
        (bif Nat.ble 139 k then (bif Nat.ble 140 k then (bif Nat.beq k 140 then cX8_moved else ⟨#[]⟩) else (bif Nat.beq k 139 then cX8_step else ⟨#[]⟩)) else (bif Nat.beq k 138 then cX8_shores else ⟨#[]⟩))
       else
        (bif Nat.ble 137 k then (bif Nat.beq k 137 then cX8_walks else ⟨#[]⟩) else (bif Nat.beq k 136 then cX8_banks else ⟨#[]⟩))))
     else
      (bif Nat.ble 131 k then
       (bif Nat.ble 133 k then
        (bif Nat.ble 134 k then (bif Nat.ble 135 k then (bif Nat.beq k 135 then cX8_chain else ⟨#[]⟩) else (bif Nat.beq k 134 then cX8_tax else ⟨#[]⟩)) else (bif Nat.beq k 133 then cX8_front else ⟨#[]⟩))
       else
        (bif Nat.ble 132 k then (bif Nat.beq k 132 then cX8_isByWater else ⟨#[]⟩) else (bif Nat.beq k 131 then cX8_area else ⟨#[]⟩)))
      else
       (bif Nat.ble 129 k then (bif Nat.ble 130 k then (bif Nat.beq k 130 then cX8_isAsked else ⟨#[]⟩) else (bif Nat.beq k 129 then cX8_areaOn else ⟨#[]⟩)) else (bif Nat.ble 128 k then (bif Nat.beq k 128 then cX8_owner else ⟨#[]⟩) else (bif Nat.beq k 127 then cX8_upTo else ⟨#[]⟩)))))
    else
     (bif Nat.ble 118 k then
      (bif Nat.ble 122 k then
       (bif Nat.ble 124 k then
        (bif Nat.ble 125 k then (bif Nat.ble 126 k then (bif Nat.beq k 126 then cX8_goes else ⟨#[]⟩) else (bif Nat.beq k 125 then cX8_deedsIn else ⟨#[]⟩)) else (bif Nat.beq k 124 then cX8_stepIn else ⟨#[]⟩))
       else
        (bif Nat.ble 123 k then (bif Nat.beq k 123 then cX8_begins else ⟨#[]⟩) else (bif Nat.beq k 122 then cX8_steps else ⟨#[]⟩)))
      else
       (bif Nat.ble 120 k then (bif Nat.ble 121 k then (bif Nat.beq k 121 then cX8_lawIn else ⟨#[]⟩) else (bif Nat.beq k 120 then cX8_nearestToPart else ⟨#[]⟩)) else (bif Nat.ble 119 k then (bif Nat.beq k 119 then cX8_awayFromPart else ⟨#[]⟩) else (bif Nat.beq k 118 then cX8_nearest else ⟨#[]⟩))))
     else
      (bif Nat.ble 113 k then
       (bif Nat.ble 115 k then
        (bif Nat.ble 116 k then (bif Nat.ble 117 k then (bif Nat.beq k 117 then cX8_findsParts else ⟨#[]⟩) else (bif Nat.beq k 116 then cX8_isSudden else ⟨#[]⟩)) else (bif Nat.beq k 115 then cX8_far else ⟨#[]⟩))
       else
        (bif Nat.ble 114 k then (bif Nat.beq k 114 then cX8_kindsOf else ⟨#[]⟩) else (bif Nat.beq k 113 then cX8_away else ⟨#[]⟩)))
      else
       (bif Nat.ble 111 k then (bif Nat.ble 112 k then (bif Nat.beq k 112 then cX8_apart else ⟨#[]⟩) else (bif Nat.beq k 111 then cX8_kinds else ⟨#[]⟩)) else (bif Nat.ble 110 k then (bif Nat.beq k 110 then cX8_wet else ⟨#[]⟩) else (bif Nat.beq k 109 then cX8_isOn else ⟨#[]⟩))))))
   else
    (bif Nat.ble 91 k then
     (bif Nat.ble 100 k then
      (bif Nat.ble 104 k then
       (bif Nat.ble 106 k then
        (bif Nat.ble 107 k then (bif Nat.ble 108 k then (bif Nat.beq k 108 then cX8_isWet else ⟨#[]⟩) else (bif Nat.beq k 107 then cX8_mapIn else ⟨#[]⟩)) else (bif Nat.beq k 106 then cX8_count else ⟨#[]⟩))
       else
        (bif Nat.ble 105 k then (bif Nat.beq k 105 then cX8_judge else ⟨#[]⟩) else (bif Nat.beq k 104 then cX8_isStep else ⟨#[]⟩)))
      else
       (bif Nat.ble 102 k then (bif Nat.ble 103 k then (bif Nat.beq k 103 then cX8_reach else ⟨#[]⟩) else (bif Nat.beq k 102 then cX8_law else ⟨#[]⟩)) else (bif Nat.ble 101 k then (bif Nat.beq k 101 then cX8_strike else ⟨#[]⟩) else (bif Nat.beq k 100 then cX8_deed else ⟨#[]⟩))))
     else
      (bif Nat.ble 95 k then
       (bif Nat.ble 97 k then
        (bif Nat.ble 98 k then (bif Nat.ble 99 k then (bif Nat.beq k 99 then cX8_own else ⟨#[]⟩) else (bif Nat.beq k 98 then cX8_isInBox else ⟨#[]⟩)) else (bif Nat.beq k 97 then cX8_isBox else ⟨#[]⟩))
       else
        (bif Nat.ble 96 k then (bif Nat.beq k 96 then cX8_map else ⟨#[]⟩) else (bif Nat.beq k 95 then cX8_sheet else ⟨#[]⟩)))
      else
       (bif Nat.ble 93 k then (bif Nat.ble 94 k then (bif Nat.beq k 94 then cX8_water else ⟨#[]⟩) else (bif Nat.beq k 93 then cX8_rowOf else ⟨#[]⟩)) else (bif Nat.ble 92 k then (bif Nat.beq k 92 then cX8_land else ⟨#[]⟩) else (bif Nat.beq k 91 then cX8_cell else ⟨#[]⟩)))))
    else
     (bif Nat.ble 82 k then
      (bif Nat.ble 86 k then
       (bif Nat.ble 88 k then
        (bif Nat.ble 89 k then (bif Nat.ble 90 k then (bif Nat.beq k 90 then cX8_isYear else ⟨#[]⟩) else (bif Nat.beq k 89 then cX8_isCell else ⟨#[]⟩)) else (bif Nat.beq k 88 then cX8_lays else ⟨#[]⟩))
       else
        (bif Nat.ble 87 k then (bif Nat.beq k 87 then cX8_refuse else ⟨#[]⟩) else (bif Nat.beq k 86 then cX8_in else ⟨#[]⟩)))
      else
       (bif Nat.ble 84 k then (bif Nat.ble 85 k then (bif Nat.beq k 85 then cX8_thrown else ⟨#[]⟩) else (bif Nat.beq k 84 then cX7_isOwnerOrNone else ⟨#[]⟩)) else (bif Nat.ble 83 k then (bif Nat.beq k 83 then cX7_isOwner else ⟨#[]⟩) else (bif Nat.beq k 82 then cX7_isYear else ⟨#[]⟩))))
     else
      (bif Nat.ble 77 k then
       (bif Nat.ble 79 k then
        (bif Nat.ble 80 k then (bif Nat.ble 81 k then (bif Nat.beq k 81 then cX7_isBetween else ⟨#[]⟩) else (bif Nat.beq k 80 then cX7_tell else ⟨#[]⟩)) else (bif Nat.beq k 79 then cX7_row else ⟨#[]⟩))
       else
        (bif Nat.ble 78 k then (bif Nat.beq k 78 then cX7_weak else ⟨#[]⟩) else (bif Nat.beq k 77 then cX7_doubt else ⟨#[]⟩)))
      else
       (bif Nat.ble 75 k then (bif Nat.ble 76 k then (bif Nat.beq k 76 then cX7_moved else ⟨#[]⟩) else (bif Nat.beq k 75 then cX7_step else ⟨#[]⟩)) else (bif Nat.ble 74 k then (bif Nat.beq k 74 then cX7_banks else ⟨#[]⟩) else (bif Nat.beq k 73 then cX7_chain else ⟨#[]⟩)))))))
  else
   (bif Nat.ble 36 k then
    (bif Nat.ble 54 k then
     (bif Nat.ble 63 k then
      (bif Nat.ble 68 k then
       (bif Nat.ble 70 k then
        (bif Nat.ble 71 k then (bif Nat.ble 72 k then (bif Nat.beq k 72 then cX7_tax else ⟨#[]⟩) else (bif Nat.beq k 71 then cX7_front else ⟨#[]⟩)) else (bif Nat.beq k 70 then cX7_area else ⟨#[]⟩))
       else
        (bif Nat.ble 69 k then (bif Nat.beq k 69 then cX7_owner else ⟨#[]⟩) else (bif Nat.beq k 68 then cX7_wet else ⟨#[]⟩)))
      else
       (bif Nat.ble 65 k then
        (bif Nat.ble 66 k then (bif Nat.ble 67 k then (bif Nat.beq k 67 then cX7_count else ⟨#[]⟩) else (bif Nat.beq k 66 then cX7_judge else ⟨#[]⟩)) else (bif Nat.beq k 65 then cX7_reach else ⟨#[]⟩))
       else
        (bif Nat.ble 64 k then (bif Nat.beq k 64 then cX7_law else ⟨#[]⟩) else (bif Nat.beq k 63 then cX7_strike else ⟨#[]⟩))))
     else
      (bif Nat.ble 58 k then
       (bif Nat.ble 60 k then
        (bif Nat.ble 61 k then (bif Nat.ble 62 k then (bif Nat.beq k 62 then cX7_deed else ⟨#[]⟩) else (bif Nat.beq k 61 then cX7_own else ⟨#[]⟩)) else (bif Nat.beq k 60 then cX7_map else ⟨#[]⟩))
       else
        (bif Nat.ble 59 k then (bif Nat.beq k 59 then cX7_sheet else ⟨#[]⟩) else (bif Nat.beq k 58 then cX7_water else ⟨#[]⟩)))
      else
       (bif Nat.ble 56 k then (bif Nat.ble 57 k then (bif Nat.beq k 57 then cX7_land else ⟨#[]⟩) else (bif Nat.beq k 56 then cX6_fastNearestTo else ⟨#[]⟩)) else (bif Nat.ble 55 k then (bif Nat.beq k 55 then cX6_settleIsle else ⟨#[]⟩) else (bif Nat.beq k 54 then cX6_settleShore else ⟨#[]⟩)))))
    else
     (bif Nat.ble 45 k then
      (bif Nat.ble 49 k then
       (bif Nat.ble 51 k then
        (bif Nat.ble 52 k then (bif Nat.ble 53 k then (bif Nat.beq k 53 then cX6_partIsByFast else ⟨#[]⟩) else (bif Nat.beq k 52 then cX6_gather else ⟨#[]⟩)) else (bif Nat.beq k 51 then cX6_sortParts else ⟨#[]⟩))
       else
        (bif Nat.ble 50 k then (bif Nat.beq k 50 then cX6_apartFromOldWater else ⟨#[]⟩) else (bif Nat.beq k 49 then cX6_apartFromFast else ⟨#[]⟩)))
      else
       (bif Nat.ble 47 k then (bif Nat.ble 48 k then (bif Nat.beq k 48 then cX6_dryParts else ⟨#[]⟩) else (bif Nat.beq k 47 then cX6_measure else ⟨#[]⟩)) else (bif Nat.ble 46 k then (bif Nat.beq k 46 then cX5_changedByDoubt else ⟨#[]⟩) else (bif Nat.beq k 45 then cX5_wonBy else ⟨#[]⟩))))
     else
      (bif Nat.ble 40 k then
       (bif Nat.ble 42 k then
        (bif Nat.ble 43 k then (bif Nat.ble 44 k then (bif Nat.beq k 44 then cX5_changedBy else ⟨#[]⟩) else (bif Nat.beq k 43 then cX5_runAheadOf else ⟨#[]⟩)) else (bif Nat.beq k 42 then cX5_differing else ⟨#[]⟩))
       else
        (bif Nat.ble 41 k then (bif Nat.beq k 41 then cX5_keep else ⟨#[]⟩) else (bif Nat.beq k 40 then cX5_isByWater else ⟨#[]⟩)))
      else
       (bif Nat.ble 38 k then (bif Nat.ble 39 k then (bif Nat.beq k 39 then cX5_dryByWaterOf else ⟨#[]⟩) else (bif Nat.beq k 38 then cX5_dryOf else ⟨#[]⟩)) else (bif Nat.ble 37 k then (bif Nat.beq k 37 then cX5_takeDeed else ⟨#[]⟩) else (bif Nat.beq k 36 then cX5_shiftOwners else ⟨#[]⟩))))))
   else
    (bif Nat.ble 18 k then
     (bif Nat.ble 27 k then
      (bif Nat.ble 31 k then
       (bif Nat.ble 33 k then
        (bif Nat.ble 34 k then (bif Nat.ble 35 k then (bif Nat.beq k 35 then cX5_takeStep else ⟨#[]⟩) else (bif Nat.beq k 34 then cX5_nextDeedYear else ⟨#[]⟩)) else (bif Nat.beq k 33 then cX5_nextStepYear else ⟨#[]⟩))
       else
        (bif Nat.ble 32 k then (bif Nat.beq k 32 then cX5_runTo else ⟨#[]⟩) else (bif Nat.beq k 31 then cX5_runFromFirst else ⟨#[]⟩)))
      else
       (bif Nat.ble 29 k then (bif Nat.ble 30 k then (bif Nat.beq k 30 then cX5_setFirst else ⟨#[]⟩) else (bif Nat.beq k 29 then cX5_forgetFirst else ⟨#[]⟩)) else (bif Nat.ble 28 k then (bif Nat.beq k 28 then cX4_wasWater else ⟨#[]⟩) else (bif Nat.beq k 27 then cX4_isNew else ⟨#[]⟩))))
     else
      (bif Nat.ble 22 k then
       (bif Nat.ble 24 k then
        (bif Nat.ble 25 k then (bif Nat.ble 26 k then (bif Nat.beq k 26 then cX4_isDry else ⟨#[]⟩) else (bif Nat.beq k 25 then cX3_placeFor else ⟨#[]⟩)) else (bif Nat.beq k 24 then cX3_add else ⟨#[]⟩))
       else
        (bif Nat.ble 23 k then (bif Nat.beq k 23 then cX3_isFull else ⟨#[]⟩) else (bif Nat.beq k 22 then cX2_walk else ⟨#[]⟩)))
      else
       (bif Nat.ble 20 k then (bif Nat.ble 21 k then (bif Nat.beq k 21 then cX2_apart else ⟨#[]⟩) else (bif Nat.beq k 20 then cX2_beside else ⟨#[]⟩)) else (bif Nat.ble 19 k then (bif Nat.beq k 19 then cX2_cellAt else ⟨#[]⟩) else (bif Nat.beq k 18 then cX2_hasBox else ⟨#[]⟩)))))
    else
     (bif Nat.ble 9 k then
      (bif Nat.ble 13 k then
       (bif Nat.ble 15 k then
        (bif Nat.ble 16 k then (bif Nat.ble 17 k then (bif Nat.beq k 17 then cX2_has else ⟨#[]⟩) else (bif Nat.beq k 16 then cX2_hasLine else ⟨#[]⟩)) else (bif Nat.beq k 15 then cX2_lay else ⟨#[]⟩))
       else
        (bif Nat.ble 14 k then (bif Nat.beq k 14 then cX1_notStruck else ⟨#[]⟩) else (bif Nat.beq k 13 then cX1_add else ⟨#[]⟩)))
      else
       (bif Nat.ble 11 k then (bif Nat.ble 12 k then (bif Nat.beq k 12 then cX1_has else ⟨#[]⟩) else (bif Nat.beq k 11 then cX1_isFull else ⟨#[]⟩)) else (bif Nat.ble 10 k then (bif Nat.beq k 10 then cX1_clear else ⟨#[]⟩) else (bif Nat.beq k 9 then cX0_kindBetween else ⟨#[]⟩))))
     else
      (bif Nat.ble 4 k then
       (bif Nat.ble 6 k then
        (bif Nat.ble 7 k then (bif Nat.ble 8 k then (bif Nat.beq k 8 then cX0_isSudden else ⟨#[]⟩) else (bif Nat.beq k 7 then cX0_leafIn else ⟨#[]⟩)) else (bif Nat.beq k 6 then cX0_add else ⟨#[]⟩))
       else
        (bif Nat.ble 5 k then (bif Nat.beq k 5 then cX0_draftLine else ⟨#[]⟩) else (bif Nat.beq k 4 then cX0_latestYear else ⟨#[]⟩)))
      else
       (bif Nat.ble 2 k then (bif Nat.ble 3 k then (bif Nat.beq k 3 then cX0_hasStep else ⟨#[]⟩) else (bif Nat.beq k 2 then cX0_isFull else ⟨#[]⟩)) else (bif Nat.ble 1 k then (bif Nat.beq k 1 then cX0_isEmpty else ⟨#[]⟩) else (bif Nat.beq k 0 then cX0_clear else ⟨#[]⟩))))))))
def rcd (k : Nat) : Option FieldType :=
  bif Nat.beq (mrt k) 0 then none else bif Nat.beq (mrt k) 1 then some .int else bif Nat.beq (mrt k) 2 then some .boolean else some (.object RX4)
def rmf (k : Nat) : Nat :=
  (bif Nat.ble 73 k then
   (bif Nat.ble 109 k then
    (bif Nat.ble 127 k then
     (bif Nat.ble 136 k then
      (bif Nat.ble 141 k then
       (bif Nat.ble 143 k then
        (bif Nat.ble 144 k then (bif Nat.ble 145 k then (bif Nat.beq k 145 then 0 else 0) else (bif Nat.beq k 144 then 1 else 0)) else (bif Nat.beq k 143 then 8 else 0))
       else
        (bif Nat.ble 142 k then (bif Nat.beq k 142 then 8 else 0) else (bif Nat.beq k 141 then 7 else 0)))
      else
       (bif Nat.ble 138 k then
        (bif Nat.ble 139 k then (bif Nat.ble 140 k then (bif Nat.beq k 140 then 8 else 0) else (bif Nat.beq k 139 then 8 else 0)) else (bif Nat.beq k 138 then 0 else 0))
       else
        (bif Nat.ble 137 k then (bif Nat.beq k 137 then 7 else 0) else (bif Nat.beq k 136 then 2 else 0))))
     else
      (bif Nat.ble 131 k then
       (bif Nat.ble 133 k then
        (bif Nat.ble 134 k then (bif Nat.ble 135 k then (bif Nat.beq k 135 then 6 else 0) else (bif Nat.beq k 134 then 6 else 0)) else (bif Nat.beq k 133 then 7 else 0))
       else
        (bif Nat.ble 132 k then (bif Nat.beq k 132 then 2 else 0) else (bif Nat.beq k 131 then 7 else 0)))
      else
       (bif Nat.ble 129 k then (bif Nat.ble 130 k then (bif Nat.beq k 130 then 2 else 0) else (bif Nat.beq k 129 then 1 else 0)) else (bif Nat.ble 128 k then (bif Nat.beq k 128 then 7 else 0) else (bif Nat.beq k 127 then 6 else 0)))))
    else
     (bif Nat.ble 118 k then
      (bif Nat.ble 122 k then
       (bif Nat.ble 124 k then
        (bif Nat.ble 125 k then (bif Nat.ble 126 k then (bif Nat.beq k 126 then 5 else 0) else (bif Nat.beq k 125 then 2 else 0)) else (bif Nat.beq k 124 then 0 else 0))
       else
        (bif Nat.ble 123 k then (bif Nat.beq k 123 then 0 else 0) else (bif Nat.beq k 122 then 4 else 0)))
      else
       (bif Nat.ble 120 k then (bif Nat.ble 121 k then (bif Nat.beq k 121 then 0 else 0) else (bif Nat.beq k 120 then 3 else 0)) else (bif Nat.ble 119 k then (bif Nat.beq k 119 then 2 else 0) else (bif Nat.beq k 118 then 2 else 0))))
     else
      (bif Nat.ble 113 k then
       (bif Nat.ble 115 k then
        (bif Nat.ble 116 k then (bif Nat.ble 117 k then (bif Nat.beq k 117 then 2 else 0) else (bif Nat.beq k 116 then 3 else 0)) else (bif Nat.beq k 115 then 2 else 0))
       else
        (bif Nat.ble 114 k then (bif Nat.beq k 114 then 0 else 0) else (bif Nat.beq k 113 then 1 else 0)))
      else
       (bif Nat.ble 111 k then (bif Nat.ble 112 k then (bif Nat.beq k 112 then 1 else 0) else (bif Nat.beq k 111 then 1 else 0)) else (bif Nat.ble 110 k then (bif Nat.beq k 110 then 2 else 0) else (bif Nat.beq k 109 then 0 else 0))))))
   else
    (bif Nat.ble 91 k then
     (bif Nat.ble 100 k then
      (bif Nat.ble 104 k then
       (bif Nat.ble 106 k then
        (bif Nat.ble 107 k then (bif Nat.ble 108 k then (bif Nat.beq k 108 then 0 else 0) else (bif Nat.beq k 107 then 0 else 0)) else (bif Nat.beq k 106 then 0 else 0))
       else
        (bif Nat.ble 105 k then (bif Nat.beq k 105 then 2 else 0) else (bif Nat.beq k 104 then 1 else 0)))
      else
       (bif Nat.ble 102 k then (bif Nat.ble 103 k then (bif Nat.beq k 103 then 1 else 0) else (bif Nat.beq k 102 then 2 else 0)) else (bif Nat.ble 101 k then (bif Nat.beq k 101 then 1 else 0) else (bif Nat.beq k 100 then 3 else 0))))
     else
      (bif Nat.ble 95 k then
       (bif Nat.ble 97 k then
        (bif Nat.ble 98 k then (bif Nat.ble 99 k then (bif Nat.beq k 99 then 3 else 0) else (bif Nat.beq k 98 then 1 else 0)) else (bif Nat.beq k 97 then 2 else 0))
       else
        (bif Nat.ble 96 k then (bif Nat.beq k 96 then 2 else 0) else (bif Nat.beq k 95 then 2 else 0)))
      else
       (bif Nat.ble 93 k then (bif Nat.ble 94 k then (bif Nat.beq k 94 then 2 else 0) else (bif Nat.beq k 93 then 1 else 0)) else (bif Nat.ble 92 k then (bif Nat.beq k 92 then 1 else 0) else (bif Nat.beq k 91 then 0 else 0)))))
    else
     (bif Nat.ble 82 k then
      (bif Nat.ble 86 k then
       (bif Nat.ble 88 k then
        (bif Nat.ble 89 k then (bif Nat.ble 90 k then (bif Nat.beq k 90 then 1 else 0) else (bif Nat.beq k 89 then 1 else 0)) else (bif Nat.beq k 88 then 0 else 0))
       else
        (bif Nat.ble 87 k then (bif Nat.beq k 87 then 0 else 0) else (bif Nat.beq k 86 then 0 else 0)))
      else
       (bif Nat.ble 84 k then (bif Nat.ble 85 k then (bif Nat.beq k 85 then 0 else 0) else (bif Nat.beq k 84 then 2 else 0)) else (bif Nat.ble 83 k then (bif Nat.beq k 83 then 1 else 0) else (bif Nat.beq k 82 then 1 else 0))))
     else
      (bif Nat.ble 77 k then
       (bif Nat.ble 79 k then
        (bif Nat.ble 80 k then (bif Nat.ble 81 k then (bif Nat.beq k 81 then 0 else 0) else (bif Nat.beq k 80 then 0 else 0)) else (bif Nat.beq k 79 then 0 else 0))
       else
        (bif Nat.ble 78 k then (bif Nat.beq k 78 then 5 else 0) else (bif Nat.beq k 77 then 5 else 0)))
      else
       (bif Nat.ble 75 k then (bif Nat.ble 76 k then (bif Nat.beq k 76 then 6 else 0) else (bif Nat.beq k 75 then 6 else 0)) else (bif Nat.ble 74 k then (bif Nat.beq k 74 then 3 else 0) else (bif Nat.beq k 73 then 4 else 0)))))))
  else
   (bif Nat.ble 36 k then
    (bif Nat.ble 54 k then
     (bif Nat.ble 63 k then
      (bif Nat.ble 68 k then
       (bif Nat.ble 70 k then
        (bif Nat.ble 71 k then (bif Nat.ble 72 k then (bif Nat.beq k 72 then 4 else 0) else (bif Nat.beq k 71 then 4 else 0)) else (bif Nat.beq k 70 then 5 else 0))
       else
        (bif Nat.ble 69 k then (bif Nat.beq k 69 then 4 else 0) else (bif Nat.beq k 68 then 2 else 0)))
      else
       (bif Nat.ble 65 k then
        (bif Nat.ble 66 k then (bif Nat.ble 67 k then (bif Nat.beq k 67 then 1 else 0) else (bif Nat.beq k 66 then 1 else 0)) else (bif Nat.beq k 65 then 1 else 0))
       else
        (bif Nat.ble 64 k then (bif Nat.beq k 64 then 2 else 0) else (bif Nat.beq k 63 then 1 else 0))))
     else
      (bif Nat.ble 58 k then
       (bif Nat.ble 60 k then
        (bif Nat.ble 61 k then (bif Nat.ble 62 k then (bif Nat.beq k 62 then 3 else 0) else (bif Nat.beq k 61 then 3 else 0)) else (bif Nat.beq k 60 then 6 else 0))
       else
        (bif Nat.ble 59 k then (bif Nat.beq k 59 then 2 else 0) else (bif Nat.beq k 58 then 2 else 0)))
      else
       (bif Nat.ble 56 k then (bif Nat.ble 57 k then (bif Nat.beq k 57 then 2 else 0) else (bif Nat.beq k 56 then 2 else 0)) else (bif Nat.ble 55 k then (bif Nat.beq k 55 then 3 else 0) else (bif Nat.beq k 54 then 3 else 0)))))
    else
     (bif Nat.ble 45 k then
      (bif Nat.ble 49 k then
       (bif Nat.ble 51 k then
        (bif Nat.ble 52 k then (bif Nat.ble 53 k then (bif Nat.beq k 53 then 1 else 0) else (bif Nat.beq k 52 then 1 else 0)) else (bif Nat.beq k 51 then 4 else 0))
       else
        (bif Nat.ble 50 k then (bif Nat.beq k 50 then 2 else 0) else (bif Nat.beq k 49 then 2 else 0)))
      else
       (bif Nat.ble 47 k then (bif Nat.ble 48 k then (bif Nat.beq k 48 then 2 else 0) else (bif Nat.beq k 47 then 3 else 0)) else (bif Nat.ble 46 k then (bif Nat.beq k 46 then 4 else 0) else (bif Nat.beq k 45 then 5 else 0))))
     else
      (bif Nat.ble 40 k then
       (bif Nat.ble 42 k then
        (bif Nat.ble 43 k then (bif Nat.ble 44 k then (bif Nat.beq k 44 then 5 else 0) else (bif Nat.beq k 43 then 4 else 0)) else (bif Nat.beq k 42 then 0 else 0))
       else
        (bif Nat.ble 41 k then (bif Nat.beq k 41 then 1 else 0) else (bif Nat.beq k 40 then 1 else 0)))
      else
       (bif Nat.ble 38 k then (bif Nat.ble 39 k then (bif Nat.beq k 39 then 2 else 0) else (bif Nat.beq k 38 then 1 else 0)) else (bif Nat.ble 37 k then (bif Nat.beq k 37 then 1 else 0) else (bif Nat.beq k 36 then 0 else 0))))))
   else
    (bif Nat.ble 18 k then
     (bif Nat.ble 27 k then
      (bif Nat.ble 31 k then
       (bif Nat.ble 33 k then
        (bif Nat.ble 34 k then (bif Nat.ble 35 k then (bif Nat.beq k 35 then 1 else 0) else (bif Nat.beq k 34 then 0 else 0)) else (bif Nat.beq k 33 then 0 else 0))
       else
        (bif Nat.ble 32 k then (bif Nat.beq k 32 then 2 else 0) else (bif Nat.beq k 31 then 3 else 0)))
      else
       (bif Nat.ble 29 k then (bif Nat.ble 30 k then (bif Nat.beq k 30 then 1 else 0) else (bif Nat.beq k 29 then 1 else 0)) else (bif Nat.ble 28 k then (bif Nat.beq k 28 then 1 else 0) else (bif Nat.beq k 27 then 0 else 0))))
     else
      (bif Nat.ble 22 k then
       (bif Nat.ble 24 k then
        (bif Nat.ble 25 k then (bif Nat.ble 26 k then (bif Nat.beq k 26 then 0 else 0) else (bif Nat.beq k 25 then 0 else 0)) else (bif Nat.beq k 24 then 0 else 0))
       else
        (bif Nat.ble 23 k then (bif Nat.beq k 23 then 0 else 0) else (bif Nat.beq k 22 then 1 else 0)))
      else
       (bif Nat.ble 20 k then (bif Nat.ble 21 k then (bif Nat.beq k 21 then 1 else 0) else (bif Nat.beq k 20 then 0 else 0)) else (bif Nat.ble 19 k then (bif Nat.beq k 19 then 0 else 0) else (bif Nat.beq k 18 then 2 else 0)))))
    else
     (bif Nat.ble 9 k then
      (bif Nat.ble 13 k then
       (bif Nat.ble 15 k then
        (bif Nat.ble 16 k then (bif Nat.ble 17 k then (bif Nat.beq k 17 then 1 else 0) else (bif Nat.beq k 16 then 0 else 0)) else (bif Nat.beq k 15 then 0 else 0))
       else
        (bif Nat.ble 14 k then (bif Nat.beq k 14 then 0 else 0) else (bif Nat.beq k 13 then 0 else 0)))
      else
       (bif Nat.ble 11 k then (bif Nat.ble 12 k then (bif Nat.beq k 12 then 0 else 0) else (bif Nat.beq k 11 then 0 else 0)) else (bif Nat.ble 10 k then (bif Nat.beq k 10 then 0 else 0) else (bif Nat.beq k 9 then 0 else 0))))
     else
      (bif Nat.ble 4 k then
       (bif Nat.ble 6 k then
        (bif Nat.ble 7 k then (bif Nat.ble 8 k then (bif Nat.beq k 8 then 0 else 0) else (bif Nat.beq k 7 then 0 else 0)) else (bif Nat.beq k 6 then 5 else 0))
       else
        (bif Nat.ble 5 k then (bif Nat.beq k 5 then 1 else 0) else (bif Nat.beq k 4 then 0 else 0)))
      else
       (bif Nat.ble 2 k then (bif Nat.ble 3 k then (bif Nat.beq k 3 then 0 else 0) else (bif Nat.beq k 2 then 0 else 0)) else (bif Nat.ble 1 k then (bif Nat.beq k 1 then 0 else 0) else (bif Nat.beq k 0 then 0 else 0))))))))
def rml (k : Nat) : Nat :=
  (bif Nat.ble 73 k then
   (bif Nat.ble 109 k then
    (bif Nat.ble 127 k then
     (bif Nat.ble 136 k then
      (bif Nat.ble 141 k then
       (bif Nat.ble 143 k then
        (bif Nat.ble 144 k then (bif Nat.ble 145 k then (bif Nat.beq k 145 then 0 else 0) else (bif Nat.beq k 144 then 25 else 0)) else (bif Nat.beq k 143 then 190 else 0))
       else
        (bif Nat.ble 142 k then (bif Nat.beq k 142 then 190 else 0) else (bif Nat.beq k 141 then 166 else 0)))
      else
       (bif Nat.ble 138 k then
        (bif Nat.ble 139 k then (bif Nat.ble 140 k then (bif Nat.beq k 140 then 188 else 0) else (bif Nat.beq k 139 then 188 else 0)) else (bif Nat.beq k 138 then 0 else 0))
       else
        (bif Nat.ble 137 k then (bif Nat.beq k 137 then 166 else 0) else (bif Nat.beq k 136 then 45 else 0))))
     else
      (bif Nat.ble 131 k then
       (bif Nat.ble 133 k then
        (bif Nat.ble 134 k then (bif Nat.ble 135 k then (bif Nat.beq k 135 then 143 else 0) else (bif Nat.beq k 134 then 143 else 0)) else (bif Nat.beq k 133 then 166 else 0))
       else
        (bif Nat.ble 132 k then (bif Nat.beq k 132 then 42 else 0) else (bif Nat.beq k 131 then 166 else 0)))
      else
       (bif Nat.ble 129 k then (bif Nat.ble 130 k then (bif Nat.beq k 130 then 45 else 0) else (bif Nat.beq k 129 then 22 else 0)) else (bif Nat.ble 128 k then (bif Nat.beq k 128 then 166 else 0) else (bif Nat.beq k 127 then 143 else 0)))))
    else
     (bif Nat.ble 118 k then
      (bif Nat.ble 122 k then
       (bif Nat.ble 124 k then
        (bif Nat.ble 125 k then (bif Nat.ble 126 k then (bif Nat.beq k 126 then 120 else 0) else (bif Nat.beq k 125 then 47 else 0)) else (bif Nat.beq k 124 then 0 else 0))
       else
        (bif Nat.ble 123 k then (bif Nat.beq k 123 then 0 else 0) else (bif Nat.beq k 122 then 91 else 0)))
      else
       (bif Nat.ble 120 k then (bif Nat.ble 121 k then (bif Nat.beq k 121 then 0 else 0) else (bif Nat.beq k 120 then 66 else 0)) else (bif Nat.ble 119 k then (bif Nat.beq k 119 then 42 else 0) else (bif Nat.beq k 118 then 42 else 0))))
     else
      (bif Nat.ble 113 k then
       (bif Nat.ble 115 k then
        (bif Nat.ble 116 k then (bif Nat.ble 117 k then (bif Nat.beq k 117 then 42 else 0) else (bif Nat.beq k 116 then 67 else 0)) else (bif Nat.beq k 115 then 42 else 0))
       else
        (bif Nat.ble 114 k then (bif Nat.beq k 114 then 0 else 0) else (bif Nat.beq k 113 then 21 else 0)))
      else
       (bif Nat.ble 111 k then (bif Nat.ble 112 k then (bif Nat.beq k 112 then 21 else 0) else (bif Nat.beq k 111 then 22 else 0)) else (bif Nat.ble 110 k then (bif Nat.beq k 110 then 47 else 0) else (bif Nat.beq k 109 then 0 else 0))))))
   else
    (bif Nat.ble 91 k then
     (bif Nat.ble 100 k then
      (bif Nat.ble 104 k then
       (bif Nat.ble 106 k then
        (bif Nat.ble 107 k then (bif Nat.ble 108 k then (bif Nat.beq k 108 then 0 else 0) else (bif Nat.beq k 107 then 0 else 0)) else (bif Nat.beq k 106 then 0 else 0))
       else
        (bif Nat.ble 105 k then (bif Nat.beq k 105 then 46 else 0) else (bif Nat.beq k 104 then 25 else 0)))
      else
       (bif Nat.ble 102 k then (bif Nat.ble 103 k then (bif Nat.beq k 103 then 25 else 0) else (bif Nat.beq k 102 then 45 else 0)) else (bif Nat.ble 101 k then (bif Nat.beq k 101 then 25 else 0) else (bif Nat.beq k 100 then 71 else 0))))
     else
      (bif Nat.ble 95 k then
       (bif Nat.ble 97 k then
        (bif Nat.ble 98 k then (bif Nat.ble 99 k then (bif Nat.beq k 99 then 71 else 0) else (bif Nat.beq k 98 then 25 else 0)) else (bif Nat.beq k 97 then 47 else 0))
       else
        (bif Nat.ble 96 k then (bif Nat.beq k 96 then 45 else 0) else (bif Nat.beq k 95 then 46 else 0)))
      else
       (bif Nat.ble 93 k then (bif Nat.ble 94 k then (bif Nat.beq k 94 then 46 else 0) else (bif Nat.beq k 93 then 21 else 0)) else (bif Nat.ble 92 k then (bif Nat.beq k 92 then 25 else 0) else (bif Nat.beq k 91 then 0 else 0)))))
    else
     (bif Nat.ble 82 k then
      (bif Nat.ble 86 k then
       (bif Nat.ble 88 k then
        (bif Nat.ble 89 k then (bif Nat.ble 90 k then (bif Nat.beq k 90 then 25 else 0) else (bif Nat.beq k 89 then 25 else 0)) else (bif Nat.beq k 88 then 0 else 0))
       else
        (bif Nat.ble 87 k then (bif Nat.beq k 87 then 0 else 0) else (bif Nat.beq k 86 then 0 else 0)))
      else
       (bif Nat.ble 84 k then (bif Nat.ble 85 k then (bif Nat.beq k 85 then 0 else 0) else (bif Nat.beq k 84 then 42 else 0)) else (bif Nat.ble 83 k then (bif Nat.beq k 83 then 22 else 0) else (bif Nat.beq k 82 then 22 else 0))))
     else
      (bif Nat.ble 77 k then
       (bif Nat.ble 79 k then
        (bif Nat.ble 80 k then (bif Nat.ble 81 k then (bif Nat.beq k 81 then 0 else 0) else (bif Nat.beq k 80 then 0 else 0)) else (bif Nat.beq k 79 then 0 else 0))
       else
        (bif Nat.ble 78 k then (bif Nat.beq k 78 then 118 else 0) else (bif Nat.beq k 77 then 118 else 0)))
      else
       (bif Nat.ble 75 k then (bif Nat.ble 76 k then (bif Nat.beq k 76 then 140 else 0) else (bif Nat.beq k 75 then 138 else 0)) else (bif Nat.ble 74 k then (bif Nat.beq k 74 then 69 else 0) else (bif Nat.beq k 73 then 96 else 0)))))))
  else
   (bif Nat.ble 36 k then
    (bif Nat.ble 54 k then
     (bif Nat.ble 63 k then
      (bif Nat.ble 68 k then
       (bif Nat.ble 70 k then
        (bif Nat.ble 71 k then (bif Nat.ble 72 k then (bif Nat.beq k 72 then 96 else 0) else (bif Nat.beq k 71 then 96 else 0)) else (bif Nat.beq k 70 then 122 else 0))
       else
        (bif Nat.ble 69 k then (bif Nat.beq k 69 then 96 else 0) else (bif Nat.beq k 68 then 43 else 0)))
      else
       (bif Nat.ble 65 k then
        (bif Nat.ble 66 k then (bif Nat.ble 67 k then (bif Nat.beq k 67 then 22 else 0) else (bif Nat.beq k 66 then 22 else 0)) else (bif Nat.beq k 65 then 22 else 0))
       else
        (bif Nat.ble 64 k then (bif Nat.beq k 64 then 42 else 0) else (bif Nat.beq k 63 then 21 else 0))))
     else
      (bif Nat.ble 58 k then
       (bif Nat.ble 60 k then
        (bif Nat.ble 61 k then (bif Nat.ble 62 k then (bif Nat.beq k 62 then 67 else 0) else (bif Nat.beq k 61 then 67 else 0)) else (bif Nat.beq k 60 then 141 else 0))
       else
        (bif Nat.ble 59 k then (bif Nat.beq k 59 then 47 else 0) else (bif Nat.beq k 58 then 47 else 0)))
      else
       (bif Nat.ble 56 k then (bif Nat.ble 57 k then (bif Nat.beq k 57 then 43 else 0) else (bif Nat.beq k 56 then 43 else 0)) else (bif Nat.ble 55 k then (bif Nat.beq k 55 then 71 else 0) else (bif Nat.beq k 54 then 71 else 0)))))
    else
     (bif Nat.ble 45 k then
      (bif Nat.ble 49 k then
       (bif Nat.ble 51 k then
        (bif Nat.ble 52 k then (bif Nat.ble 53 k then (bif Nat.beq k 53 then 22 else 0) else (bif Nat.beq k 52 then 22 else 0)) else (bif Nat.beq k 51 then 94 else 0))
       else
        (bif Nat.ble 50 k then (bif Nat.beq k 50 then 43 else 0) else (bif Nat.beq k 49 then 43 else 0)))
      else
       (bif Nat.ble 47 k then (bif Nat.ble 48 k then (bif Nat.beq k 48 then 46 else 0) else (bif Nat.beq k 47 then 67 else 0)) else (bif Nat.ble 46 k then (bif Nat.beq k 46 then 96 else 0) else (bif Nat.beq k 45 then 117 else 0))))
     else
      (bif Nat.ble 40 k then
       (bif Nat.ble 42 k then
        (bif Nat.ble 43 k then (bif Nat.ble 44 k then (bif Nat.beq k 44 then 117 else 0) else (bif Nat.beq k 43 then 96 else 0)) else (bif Nat.beq k 42 then 0 else 0))
       else
        (bif Nat.ble 41 k then (bif Nat.beq k 41 then 18 else 0) else (bif Nat.beq k 40 then 22 else 0)))
      else
       (bif Nat.ble 38 k then (bif Nat.ble 39 k then (bif Nat.beq k 39 then 46 else 0) else (bif Nat.beq k 38 then 21 else 0)) else (bif Nat.ble 37 k then (bif Nat.beq k 37 then 22 else 0) else (bif Nat.beq k 36 then 0 else 0))))))
   else
    (bif Nat.ble 18 k then
     (bif Nat.ble 27 k then
      (bif Nat.ble 31 k then
       (bif Nat.ble 33 k then
        (bif Nat.ble 34 k then (bif Nat.ble 35 k then (bif Nat.beq k 35 then 25 else 0) else (bif Nat.beq k 34 then 0 else 0)) else (bif Nat.beq k 33 then 0 else 0))
       else
        (bif Nat.ble 32 k then (bif Nat.beq k 32 then 49 else 0) else (bif Nat.beq k 31 then 74 else 0)))
      else
       (bif Nat.ble 29 k then (bif Nat.ble 30 k then (bif Nat.beq k 30 then 22 else 0) else (bif Nat.beq k 29 then 23 else 0)) else (bif Nat.ble 28 k then (bif Nat.beq k 28 then 21 else 0) else (bif Nat.beq k 27 then 0 else 0))))
     else
      (bif Nat.ble 22 k then
       (bif Nat.ble 24 k then
        (bif Nat.ble 25 k then (bif Nat.ble 26 k then (bif Nat.beq k 26 then 0 else 0) else (bif Nat.beq k 25 then 0 else 0)) else (bif Nat.beq k 24 then 0 else 0))
       else
        (bif Nat.ble 23 k then (bif Nat.beq k 23 then 0 else 0) else (bif Nat.beq k 22 then 21 else 0)))
      else
       (bif Nat.ble 20 k then (bif Nat.ble 21 k then (bif Nat.beq k 21 then 21 else 0) else (bif Nat.beq k 20 then 0 else 0)) else (bif Nat.ble 19 k then (bif Nat.beq k 19 then 0 else 0) else (bif Nat.beq k 18 then 43 else 0)))))
    else
     (bif Nat.ble 9 k then
      (bif Nat.ble 13 k then
       (bif Nat.ble 15 k then
        (bif Nat.ble 16 k then (bif Nat.ble 17 k then (bif Nat.beq k 17 then 21 else 0) else (bif Nat.beq k 16 then 0 else 0)) else (bif Nat.beq k 15 then 0 else 0))
       else
        (bif Nat.ble 14 k then (bif Nat.beq k 14 then 0 else 0) else (bif Nat.beq k 13 then 0 else 0)))
      else
       (bif Nat.ble 11 k then (bif Nat.ble 12 k then (bif Nat.beq k 12 then 0 else 0) else (bif Nat.beq k 11 then 0 else 0)) else (bif Nat.ble 10 k then (bif Nat.beq k 10 then 0 else 0) else (bif Nat.beq k 9 then 0 else 0))))
     else
      (bif Nat.ble 4 k then
       (bif Nat.ble 6 k then
        (bif Nat.ble 7 k then (bif Nat.ble 8 k then (bif Nat.beq k 8 then 0 else 0) else (bif Nat.beq k 7 then 0 else 0)) else (bif Nat.beq k 6 then 116 else 0))
       else
        (bif Nat.ble 5 k then (bif Nat.beq k 5 then 22 else 0) else (bif Nat.beq k 4 then 0 else 0)))
      else
       (bif Nat.ble 2 k then (bif Nat.ble 3 k then (bif Nat.beq k 3 then 0 else 0) else (bif Nat.beq k 2 then 0 else 0)) else (bif Nat.ble 1 k then (bif Nat.beq k 1 then 0 else 0) else (bif Nat.beq k 0 then 0 else 0))))))))
def rmk (k : Nat) : Room := { frames := rmf k, cells := 0, slots := 0, locals := rml k }
abbrev cls : List vw_C := [(RX0, TX0, 6), (RX1, TX1, 9), (RX2, TX2, 5), (RX3, TX3, 5), (RX4, TX4, 9), (RX5, TX5, 10), (RX6, TX6, 4), (RX7, TX7, 8), (RX8, TX8, 30)]
end
section
/-! WHAT A PROGRAM DECIDES OF THE TABLES -/
def mw : List Cond := lw_tbl.filter goodWord
def wk (k : Nat) : List Cond := Cond.code (ycd k) (bcd k) (mml k) (rcd k) :: mw
def roomOK (k idx : Nat) (stat : Bool) : Bool := match mth (mcl k) idx with
  | none => true
  | some (_, j, _) => bif Nat.beq j 1000 then Nat.ble 1 (rmf k) && Nat.ble (nativeFrameWords "java/lang/System" "arraycopy" 5 + 11) (rml k)
    else bif Nat.ble 1000 j then Nat.ble 1 (rmf k) && Nat.ble 21 (rml k)
    else (Nat.ble (rmf j + 1) (rmf k) && Nat.ble (8 + (mml j + 11) + rml j) (rml k)) && (!Nat.beq j kX7_moved && !Nat.beq j kX7_row)
def okI (k pc len tgt : Nat) (cv : Int32) : Instr → Bool
  | .iconst n => Int32.ofInt n == cv && Nat.beq len 1
  | .bipush n => (Int8.ofInt n).toInt32 == cv && Nat.beq len 2
  | .sipush n => (Int16.ofInt n).toInt32 == cv && Nat.beq len 3
  | .lconst _ => Nat.beq len 1
  | .ldc2_w _ => Nat.beq len 3
  | .iload_n _ => Nat.beq len 1
  | .lload_n _ => Nat.beq len 1
  | .aload_n _ => Nat.beq len 1
  | .iload _ => Nat.beq len 2
  | .lload _ => Nat.beq len 2
  | .aload _ => Nat.beq len 2
  | .istore_n i => Nat.beq len 1 && Nat.blt i.val (mml k)
  | .astore_n i => Nat.beq len 1 && Nat.blt i.val (mml k)
  | .istore i => Nat.beq len 2 && Nat.blt i (mml k)
  | .iinc i n => Nat.beq len 3 && Nat.blt i (mml k) && Int32.ofInt n == cv
  | .getfield _ => Nat.beq len 3
  | .putfield _ => Nat.beq len 3
  | .goto off => Nat.beq len 3 && (pc : Int) + off == (tgt : Int)
  | .ifCond _ off => Nat.beq len 3 && (pc : Int) + off == (tgt : Int)
  | .if_icmp _ off => Nat.beq len 3 && (pc : Int) + off == (tgt : Int)
  | .tableswitch _ lo hi offs => hi - lo + 1 == (offs.size : Int)
  | .invokevirtual idx => Nat.beq len 3 && roomOK k idx false
  | .invokestatic idx => Nat.beq len 3 && roomOK k idx true
  | .ireturn => Nat.beq len 1 && (Nat.beq (mrt k) 1 || Nat.beq (mrt k) 2)
  | .areturn => Nat.beq len 1 && Nat.beq (mrt k) 3
  | .return_ => Nat.beq len 1 && Nat.beq (mrt k) 0
  | .new _ => Nat.beq k kX7_moved || Nat.beq k kX7_row
  | .athrow => true
  | .ldc _ => true
  | .invokespecial _ => true
  | _ => Nat.beq len 1
def chkI (k pc : Nat) (x : mIn) : Bool := decide (decode (bcd k) pc = .ok (x.1, x.2.1)) && okI k pc x.2.1 x.2.2.1 x.2.2.2.1 x.1
def chkM (k : Nat) : Bool := (List.range (clen k)).all (fun pc => match codb k pc with
  | none => true
  | some x => chkI k pc x)
set_option maxRecDepth 100000 in
theorem chk_0 : (List.range' 0 30).all chkM = true := by decide +kernel
set_option maxRecDepth 100000 in
theorem chk_1 : (List.range' 30 30).all chkM = true := by decide +kernel
set_option maxRecDepth 100000 in
theorem chk_2 : (List.range' 60 30).all chkM = true := by decide +kernel
set_option maxRecDepth 100000 in
theorem chk_3 : (List.range' 90 30).all chkM = true := by decide +kernel
set_option maxRecDepth 100000 in
theorem chk_4 : (List.range' 120 26).all chkM = true := by decide +kernel
theorem cod_lt {k pc : Nat} {x : mIn} (h : cod k pc = some x) : k < 146 ∧ pc < clen k ∧ codb k pc = some x := by
  unfold cod at h
  cases h1 : Nat.ble 146 k with
  | true => rw [h1] at h; cases h
  | false =>
    rw [h1] at h
    cases h2 : Nat.ble (clen k) pc with
    | true => rw [h2] at h; cases h
    | false =>
      rw [h2] at h
      refine ⟨?_, ?_, h⟩
      · exact Nat.lt_of_not_le fun q => by rw [Nat.ble_eq_true_of_le q] at h1; cases h1
      · exact Nat.lt_of_not_le fun q => by rw [Nat.ble_eq_true_of_le q] at h2; cases h2
theorem chk_all {k pc : Nat} {x : mIn} (h : cod k pc = some x) : chkI k pc x = true := by
  obtain ⟨h1, h2, h3⟩ := cod_lt h
  have hM : chkM k = true := by
    rcases (show k < 30 ∨ (30 ≤ k ∧ k < 60) ∨ (60 ≤ k ∧ k < 90) ∨ (90 ≤ k ∧ k < 120) ∨ (120 ≤ k ∧ k < 146) by omega) with q | q | q | q | q
    · exact List.all_eq_true.mp chk_0 k (List.mem_range'_1.mpr (by omega))
    · exact List.all_eq_true.mp chk_1 k (List.mem_range'_1.mpr (by omega))
    · exact List.all_eq_true.mp chk_2 k (List.mem_range'_1.mpr (by omega))
    · exact List.all_eq_true.mp chk_3 k (List.mem_range'_1.mpr (by omega))
    · exact List.all_eq_true.mp chk_4 k (List.mem_range'_1.mpr (by omega))
  have h4 := List.all_eq_true.mp hM pc (List.mem_range.mpr h2)
  rw [h3] at h4
  exact h4
end
section
/-! WHERE THE WORDS STAND (written by wip/whole/gen_hints.py) -/
def fli (c idx : Nat) : Nat :=
  (bif Nat.ble 4 c then
   (bif Nat.ble 6 c then
    (bif Nat.ble 7 c then (bif Nat.ble 8 c then (bif Nat.beq c 8 then (bif Nat.ble 57 idx then (bif Nat.ble 78 idx then (bif Nat.ble 93 idx then (bif Nat.ble 144 idx then (bif Nat.ble 173 idx then (bif Nat.beq idx 173 then 814 else 0) else (bif Nat.beq idx 144 then 817 else 0)) else (bif Nat.ble 138 idx then (bif Nat.beq idx 138 then 804 else 0) else (bif Nat.beq idx 93 then 798 else 0))) else (bif Nat.ble 84 idx then (bif Nat.ble 90 idx then (bif Nat.beq idx 90 then 794 else 0) else (bif Nat.beq idx 84 then 820 else 0)) else (bif Nat.ble 81 idx then (bif Nat.beq idx 81 then 819 else 0) else (bif Nat.beq idx 78 then 818 else 0)))) else (bif Nat.ble 66 idx then (bif Nat.ble 72 idx then (bif Nat.ble 75 idx then (bif Nat.beq idx 75 then 816 else 0) else (bif Nat.beq idx 72 then 815 else 0)) else (bif Nat.ble 69 idx then (bif Nat.beq idx 69 then 813 else 0) else (bif Nat.beq idx 66 then 812 else 0))) else (bif Nat.ble 60 idx then (bif Nat.ble 63 idx then (bif Nat.beq idx 63 then 811 else 0) else (bif Nat.beq idx 60 then 810 else 0)) else (bif Nat.beq idx 57 then 809 else 0)))) else (bif Nat.ble 33 idx then (bif Nat.ble 45 idx then (bif Nat.ble 51 idx then (bif Nat.ble 54 idx then (bif Nat.beq idx 54 then 808 else 0) else (bif Nat.beq idx 51 then 807 else 0)) else (bif Nat.ble 48 idx then (bif Nat.beq idx 48 then 806 else 0) else (bif Nat.beq idx 45 then 805 else 0))) else (bif Nat.ble 39 idx then (bif Nat.ble 42 idx then (bif Nat.beq idx 42 then 803 else 0) else (bif Nat.beq idx 39 then 802 else 0)) else (bif Nat.ble 36 idx then (bif Nat.beq idx 36 then 801 else 0) else (bif Nat.beq idx 33 then 800 else 0)))) else (bif Nat.ble 19 idx then (bif Nat.ble 27 idx then (bif Nat.ble 30 idx then (bif Nat.beq idx 30 then 799 else 0) else (bif Nat.beq idx 27 then 797 else 0)) else (bif Nat.ble 23 idx then (bif Nat.beq idx 23 then 796 else 0) else (bif Nat.beq idx 19 then 795 else 0))) else (bif Nat.ble 13 idx then (bif Nat.ble 16 idx then (bif Nat.beq idx 16 then 793 else 0) else (bif Nat.beq idx 13 then 792 else 0)) else (bif Nat.beq idx 3 then 791 else 0))))) else 0) else (bif Nat.beq c 7 then (bif Nat.ble 149 idx then (bif Nat.ble 205 idx then (bif Nat.ble 221 idx then (bif Nat.ble 227 idx then (bif Nat.ble 230 idx then (bif Nat.beq idx 230 then 147 else 0) else (bif Nat.beq idx 227 then 145 else 0)) else (bif Nat.beq idx 221 then 143 else 0)) else (bif Nat.ble 215 idx then (bif Nat.ble 218 idx then (bif Nat.beq idx 218 then 140 else 0) else (bif Nat.beq idx 215 then 138 else 0)) else (bif Nat.beq idx 205 then 136 else 0))) else (bif Nat.ble 161 idx then (bif Nat.ble 167 idx then (bif Nat.ble 189 idx then (bif Nat.beq idx 189 then 287 else 0) else (bif Nat.beq idx 167 then 253 else 0)) else (bif Nat.beq idx 161 then 209 else 0)) else (bif Nat.ble 153 idx then (bif Nat.ble 158 idx then (bif Nat.beq idx 158 then 80 else 0) else (bif Nat.beq idx 153 then 150 else 0)) else (bif Nat.beq idx 149 then 181 else 0)))) else (bif Nat.ble 57 idx then (bif Nat.ble 114 idx then (bif Nat.ble 131 idx then (bif Nat.ble 143 idx then (bif Nat.beq idx 143 then 187 else 0) else (bif Nat.beq idx 131 then 223 else 0)) else (bif Nat.beq idx 114 then 185 else 0)) else (bif Nat.ble 61 idx then (bif Nat.ble 88 idx then (bif Nat.beq idx 88 then 82 else 0) else (bif Nat.beq idx 61 then 320 else 0)) else (bif Nat.beq idx 57 then 319 else 0))) else (bif Nat.ble 37 idx then (bif Nat.ble 44 idx then (bif Nat.ble 53 idx then (bif Nat.beq idx 53 then 318 else 0) else (bif Nat.beq idx 44 then 317 else 0)) else (bif Nat.beq idx 37 then 316 else 0)) else (bif Nat.ble 21 idx then (bif Nat.ble 30 idx then (bif Nat.beq idx 30 then 315 else 0) else (bif Nat.beq idx 21 then 314 else 0)) else (bif Nat.beq idx 12 then 313 else 0))))) else 0)) else (bif Nat.beq c 6 then (bif Nat.ble 35 idx then (bif Nat.ble 79 idx then (bif Nat.ble 93 idx then (bif Nat.ble 99 idx then (bif Nat.beq idx 99 then 156 else 0) else (bif Nat.beq idx 93 then 110 else 0)) else (bif Nat.beq idx 79 then 146 else 0)) else (bif Nat.ble 54 idx then (bif Nat.ble 76 idx then (bif Nat.beq idx 76 then 144 else 0) else (bif Nat.beq idx 54 then 152 else 0)) else (bif Nat.beq idx 35 then 84 else 0))) else (bif Nat.ble 23 idx then (bif Nat.ble 29 idx then (bif Nat.ble 32 idx then (bif Nat.beq idx 32 then 141 else 0) else (bif Nat.beq idx 29 then 139 else 0)) else (bif Nat.beq idx 23 then 137 else 0)) else (bif Nat.ble 15 idx then (bif Nat.ble 19 idx then (bif Nat.beq idx 19 then 107 else 0) else (bif Nat.beq idx 15 then 109 else 0)) else (bif Nat.beq idx 9 then 108 else 0)))) else 0))
   else
    (bif Nat.ble 5 c then (bif Nat.beq c 5 then (bif Nat.ble 106 idx then (bif Nat.ble 140 idx then (bif Nat.ble 150 idx then (bif Nat.ble 156 idx then (bif Nat.ble 162 idx then (bif Nat.beq idx 162 then 219 else 0) else (bif Nat.beq idx 156 then 215 else 0)) else (bif Nat.ble 153 idx then (bif Nat.beq idx 153 then 211 else 0) else (bif Nat.beq idx 150 then 217 else 0))) else (bif Nat.ble 143 idx then (bif Nat.ble 147 idx then (bif Nat.beq idx 147 then 213 else 0) else (bif Nat.beq idx 143 then 224 else 0)) else (bif Nat.beq idx 140 then 157 else 0))) else (bif Nat.ble 124 idx then (bif Nat.ble 134 idx then (bif Nat.ble 137 idx then (bif Nat.beq idx 137 then 154 else 0) else (bif Nat.beq idx 134 then 86 else 0)) else (bif Nat.ble 127 idx then (bif Nat.beq idx 127 then 260 else 0) else (bif Nat.beq idx 124 then 256 else 0))) else (bif Nat.ble 109 idx then (bif Nat.ble 121 idx then (bif Nat.beq idx 121 then 258 else 0) else (bif Nat.beq idx 109 then 226 else 0)) else (bif Nat.beq idx 106 then 221 else 0)))) else (bif Nat.ble 55 idx then (bif Nat.ble 87 idx then (bif Nat.ble 96 idx then (bif Nat.ble 101 idx then (bif Nat.beq idx 101 then 208 else 0) else (bif Nat.beq idx 96 then 135 else 0)) else (bif Nat.ble 92 idx then (bif Nat.beq idx 92 then 180 else 0) else (bif Nat.beq idx 87 then 184 else 0))) else (bif Nat.ble 59 idx then (bif Nat.ble 62 idx then (bif Nat.beq idx 62 then 291 else 0) else (bif Nat.beq idx 59 then 290 else 0)) else (bif Nat.beq idx 55 then 289 else 0))) else (bif Nat.ble 21 idx then (bif Nat.ble 29 idx then (bif Nat.ble 33 idx then (bif Nat.beq idx 33 then 284 else 0) else (bif Nat.beq idx 29 then 283 else 0)) else (bif Nat.ble 25 idx then (bif Nat.beq idx 25 then 282 else 0) else (bif Nat.beq idx 21 then 281 else 0))) else (bif Nat.ble 15 idx then (bif Nat.ble 18 idx then (bif Nat.beq idx 18 then 288 else 0) else (bif Nat.beq idx 15 then 286 else 0)) else (bif Nat.beq idx 9 then 285 else 0))))) else 0) else (bif Nat.beq c 4 then (bif Nat.ble 15 idx then (bif Nat.ble 19 idx then (bif Nat.beq idx 19 then 155 else 0) else (bif Nat.beq idx 15 then 151 else 0)) else (bif Nat.beq idx 9 then 148 else 0)) else 0)))
  else
   (bif Nat.ble 2 c then (bif Nat.ble 3 c then (bif Nat.beq c 3 then (bif Nat.ble 18 idx then (bif Nat.ble 21 idx then (bif Nat.ble 24 idx then (bif Nat.beq idx 24 then 252 else 0) else (bif Nat.beq idx 21 then 259 else 0)) else (bif Nat.beq idx 18 then 257 else 0)) else (bif Nat.ble 15 idx then (bif Nat.beq idx 15 then 255 else 0) else (bif Nat.beq idx 9 then 254 else 0))) else 0) else (bif Nat.beq c 2 then (bif Nat.ble 18 idx then (bif Nat.ble 21 idx then (bif Nat.ble 25 idx then (bif Nat.beq idx 25 then 88 else 0) else (bif Nat.beq idx 21 then 87 else 0)) else (bif Nat.beq idx 18 then 83 else 0)) else (bif Nat.ble 15 idx then (bif Nat.beq idx 15 then 81 else 0) else (bif Nat.beq idx 9 then 78 else 0))) else 0)) else (bif Nat.ble 1 c then (bif Nat.beq c 1 then (bif Nat.ble 24 idx then (bif Nat.ble 30 idx then (bif Nat.ble 34 idx then (bif Nat.ble 37 idx then (bif Nat.beq idx 37 then 207 else 0) else (bif Nat.beq idx 34 then 225 else 0)) else (bif Nat.beq idx 30 then 222 else 0)) else (bif Nat.ble 27 idx then (bif Nat.beq idx 27 then 220 else 0) else (bif Nat.beq idx 24 then 218 else 0))) else (bif Nat.ble 18 idx then (bif Nat.ble 21 idx then (bif Nat.beq idx 21 then 216 else 0) else (bif Nat.beq idx 18 then 214 else 0)) else (bif Nat.ble 15 idx then (bif Nat.beq idx 15 then 212 else 0) else (bif Nat.beq idx 9 then 210 else 0)))) else 0) else (bif Nat.beq c 0 then (bif Nat.ble 37 idx then (bif Nat.ble 52 idx then (bif Nat.ble 59 idx then (bif Nat.ble 76 idx then (bif Nat.beq idx 76 then 142 else 0) else (bif Nat.beq idx 59 then 153 else 0)) else (bif Nat.beq idx 52 then 85 else 0)) else (bif Nat.ble 40 idx then (bif Nat.ble 49 idx then (bif Nat.beq idx 49 then 149 else 0) else (bif Nat.beq idx 40 then 79 else 0)) else (bif Nat.beq idx 37 then 134 else 0))) else (bif Nat.ble 25 idx then (bif Nat.ble 29 idx then (bif Nat.ble 34 idx then (bif Nat.beq idx 34 then 183 else 0) else (bif Nat.beq idx 29 then 178 else 0)) else (bif Nat.beq idx 25 then 177 else 0)) else (bif Nat.ble 17 idx then (bif Nat.ble 21 idx then (bif Nat.beq idx 21 then 186 else 0) else (bif Nat.beq idx 17 then 182 else 0)) else (bif Nat.beq idx 11 then 179 else 0)))) else 0))))
def mti (c idx : Nat) : Nat × Nat × Nat :=
  (bif Nat.ble 5 c then
   (bif Nat.ble 7 c then (bif Nat.ble 8 c then (bif Nat.beq c 8 then (bif Nat.ble 179 idx then (bif Nat.ble 211 idx then (bif Nat.ble 229 idx then (bif Nat.ble 235 idx then (bif Nat.ble 238 idx then (bif Nat.ble 241 idx then (bif Nat.beq idx 241 then (1105, 1107, 46) else (0, 0, 0)) else (bif Nat.beq idx 238 then (1097, 1099, 45) else (0, 0, 0))) else (bif Nat.beq idx 235 then (1089, 1091, 44) else (0, 0, 0))) else (bif Nat.ble 232 idx then (bif Nat.beq idx 232 then (1085, 1087, 43) else (0, 0, 0)) else (bif Nat.beq idx 229 then (1081, 1083, 42) else (0, 0, 0)))) else (bif Nat.ble 218 idx then (bif Nat.ble 221 idx then (bif Nat.ble 224 idx then (bif Nat.beq idx 224 then (1060, 1062, 41) else (0, 0, 0)) else (bif Nat.beq idx 221 then (1052, 1054, 40) else (0, 0, 0))) else (bif Nat.beq idx 218 then (1048, 1050, 39) else (0, 0, 0))) else (bif Nat.ble 215 idx then (bif Nat.beq idx 215 then (976, 978, 24) else (0, 0, 0)) else (bif Nat.beq idx 211 then (984, 986, 26) else (0, 0, 0))))) else (bif Nat.ble 195 idx then (bif Nat.ble 201 idx then (bif Nat.ble 205 idx then (bif Nat.ble 208 idx then (bif Nat.beq idx 208 then (980, 982, 25) else (0, 0, 0)) else (bif Nat.beq idx 205 then (1040, 1042, 38) else (0, 0, 0))) else (bif Nat.beq idx 201 then (992, 994, 28) else (0, 0, 0))) else (bif Nat.ble 198 idx then (bif Nat.beq idx 198 then (988, 990, 27) else (0, 0, 0)) else (bif Nat.beq idx 195 then (1032, 1034, 36) else (0, 0, 0)))) else (bif Nat.ble 186 idx then (bif Nat.ble 189 idx then (bif Nat.ble 192 idx then (bif Nat.beq idx 192 then (1028, 1030, 35) else (0, 0, 0)) else (bif Nat.beq idx 189 then (1021, 1023, 34) else (0, 0, 0))) else (bif Nat.beq idx 186 then (1008, 1010, 32) else (0, 0, 0))) else (bif Nat.ble 183 idx then (bif Nat.beq idx 183 then (1004, 1006, 31) else (0, 0, 0)) else (bif Nat.beq idx 179 then (996, 998, 29) else (0, 0, 0)))))) else (bif Nat.ble 141 idx then (bif Nat.ble 160 idx then (bif Nat.ble 166 idx then (bif Nat.ble 170 idx then (bif Nat.ble 176 idx then (bif Nat.beq idx 176 then (1036, 1038, 37) else (0, 0, 0)) else (bif Nat.beq idx 170 then (1025, 1026, 0) else (0, 0, 0))) else (bif Nat.beq idx 166 then (1012, 1014, 33) else (0, 0, 0))) else (bif Nat.ble 163 idx then (bif Nat.beq idx 163 then (1016, 1017, 0) else (0, 0, 0)) else (bif Nat.beq idx 160 then (1020, 430, 431) else (0, 0, 0)))) else (bif Nat.ble 151 idx then (bif Nat.ble 154 idx then (bif Nat.ble 157 idx then (bif Nat.beq idx 157 then (1019, 427, 428) else (0, 0, 0)) else (bif Nat.beq idx 154 then (1000, 1002, 30) else (0, 0, 0))) else (bif Nat.beq idx 151 then (968, 970, 23) else (0, 0, 0))) else (bif Nat.ble 147 idx then (bif Nat.beq idx 147 then (964, 966, 22) else (0, 0, 0)) else (bif Nat.beq idx 141 then (952, 954, 21) else (0, 0, 0))))) else (bif Nat.ble 113 idx then (bif Nat.ble 122 idx then (bif Nat.ble 126 idx then (bif Nat.ble 134 idx then (bif Nat.beq idx 134 then (929, 930, 0) else (0, 0, 0)) else (bif Nat.beq idx 126 then (919, 921, 19) else (0, 0, 0))) else (bif Nat.beq idx 122 then (923, 925, 20) else (0, 0, 0))) else (bif Nat.ble 118 idx then (bif Nat.beq idx 118 then (911, 912, 0) else (0, 0, 0)) else (bif Nat.beq idx 113 then (906, 383, 384) else (0, 0, 0)))) else (bif Nat.ble 104 idx then (bif Nat.ble 108 idx then (bif Nat.beq idx 108 then (894, 896, 18) else (0, 0, 0)) else (bif Nat.beq idx 104 then (898, 899, 0) else (0, 0, 0))) else (bif Nat.ble 96 idx then (bif Nat.beq idx 96 then (887, 888, 0) else (0, 0, 0)) else (bif Nat.beq idx 87 then (787, 789, 17) else (0, 0, 0))))))) else (0, 0, 0)) else (bif Nat.beq c 7 then (bif Nat.ble 140 idx then (bif Nat.ble 196 idx then (bif Nat.ble 224 idx then (bif Nat.ble 243 idx then (bif Nat.ble 246 idx then (bif Nat.ble 249 idx then (bif Nat.beq idx 249 then (682, 683, 684) else (0, 0, 0)) else (bif Nat.beq idx 246 then (681, 670, 671) else (0, 0, 0))) else (bif Nat.beq idx 243 then (764, 765, 766) else (0, 0, 0))) else (bif Nat.ble 233 idx then (bif Nat.beq idx 233 then (660, 661, 662) else (0, 0, 0)) else (bif Nat.beq idx 224 then (659, 599, 600) else (0, 0, 0)))) else (bif Nat.ble 202 idx then (bif Nat.ble 208 idx then (bif Nat.ble 211 idx then (bif Nat.beq idx 211 then (650, 651, 652) else (0, 0, 0)) else (bif Nat.beq idx 208 then (642, 644, 13) else (0, 0, 0))) else (bif Nat.beq idx 202 then (623, 578, 579) else (0, 0, 0))) else (bif Nat.ble 199 idx then (bif Nat.beq idx 199 then (619, 620, 621) else (0, 0, 0)) else (bif Nat.beq idx 196 then (628, 629, 630) else (0, 0, 0))))) else (bif Nat.ble 176 idx then (bif Nat.ble 183 idx then (bif Nat.ble 186 idx then (bif Nat.ble 192 idx then (bif Nat.beq idx 192 then (615, 616, 617) else (0, 0, 0)) else (bif Nat.beq idx 186 then (570, 571, 572) else (0, 0, 0))) else (bif Nat.beq idx 183 then (565, 404, 405) else (0, 0, 0))) else (bif Nat.ble 180 idx then (bif Nat.beq idx 180 then (564, 375, 376) else (0, 0, 0)) else (bif Nat.beq idx 176 then (560, 561, 562) else (0, 0, 0)))) else (bif Nat.ble 164 idx then (bif Nat.ble 170 idx then (bif Nat.ble 173 idx then (bif Nat.beq idx 173 then (556, 557, 558) else (0, 0, 0)) else (bif Nat.beq idx 170 then (555, 484, 485) else (0, 0, 0))) else (bif Nat.beq idx 164 then (547, 548, 549) else (0, 0, 0))) else (bif Nat.ble 146 idx then (bif Nat.beq idx 146 then (539, 540, 541) else (0, 0, 0)) else (bif Nat.beq idx 140 then (527, 528, 529) else (0, 0, 0)))))) else (bif Nat.ble 103 idx then (bif Nat.ble 124 idx then (bif Nat.ble 128 idx then (bif Nat.ble 135 idx then (bif Nat.ble 139 idx then (bif Nat.beq idx 139 then (523, 524, 525) else (0, 0, 0)) else (bif Nat.beq idx 135 then (392, 393, 0) else (0, 0, 0))) else (bif Nat.beq idx 128 then (515, 516, 517) else (0, 0, 0))) else (bif Nat.ble 125 idx then (bif Nat.beq idx 125 then (507, 508, 509) else (0, 0, 0)) else (bif Nat.beq idx 124 then (503, 504, 505) else (0, 0, 0)))) else (bif Nat.ble 111 idx then (bif Nat.ble 117 idx then (bif Nat.ble 121 idx then (bif Nat.beq idx 121 then (491, 492, 0) else (0, 0, 0)) else (bif Nat.beq idx 117 then (494, 495, 496) else (0, 0, 0))) else (bif Nat.beq idx 111 then (488, 489, 0) else (0, 0, 0))) else (bif Nat.ble 107 idx then (bif Nat.beq idx 107 then (479, 480, 481) else (0, 0, 0)) else (bif Nat.beq idx 103 then (399, 400, 401) else (0, 0, 0))))) else (bif Nat.ble 80 idx then (bif Nat.ble 91 idx then (bif Nat.ble 96 idx then (bif Nat.ble 99 idx then (bif Nat.beq idx 99 then (395, 396, 397) else (0, 0, 0)) else (bif Nat.beq idx 96 then (389, 390, 0) else (0, 0, 0))) else (bif Nat.beq idx 91 then (382, 383, 384) else (0, 0, 0))) else (bif Nat.ble 84 idx then (bif Nat.beq idx 84 then (370, 371, 372) else (0, 0, 0)) else (bif Nat.beq idx 80 then (366, 367, 368) else (0, 0, 0)))) else (bif Nat.ble 72 idx then (bif Nat.ble 73 idx then (bif Nat.ble 76 idx then (bif Nat.beq idx 76 then (362, 363, 364) else (0, 0, 0)) else (bif Nat.beq idx 73 then (354, 355, 356) else (0, 0, 0))) else (bif Nat.beq idx 72 then (350, 351, 352) else (0, 0, 0))) else (bif Nat.ble 69 idx then (bif Nat.beq idx 69 then (346, 347, 348) else (0, 0, 0)) else (bif Nat.beq idx 65 then (342, 343, 344) else (0, 0, 0))))))) else (0, 0, 0))) else (bif Nat.ble 6 c then (bif Nat.beq c 6 then (bif Nat.ble 70 idx then (bif Nat.ble 90 idx then (bif Nat.ble 102 idx then (bif Nat.ble 106 idx then (bif Nat.beq idx 106 then (467, 468, 469) else (0, 0, 0)) else (bif Nat.beq idx 102 then (463, 465, 5) else (0, 0, 0))) else (bif Nat.ble 96 idx then (bif Nat.beq idx 96 then (451, 452, 453) else (0, 0, 0)) else (bif Nat.beq idx 90 then (471, 473, 6) else (0, 0, 0)))) else (bif Nat.ble 82 idx then (bif Nat.ble 86 idx then (bif Nat.beq idx 86 then (459, 461, 4) else (0, 0, 0)) else (bif Nat.beq idx 82 then (455, 457, 3) else (0, 0, 0))) else (bif Nat.ble 73 idx then (bif Nat.beq idx 73 then (438, 439, 440) else (0, 0, 0)) else (bif Nat.beq idx 70 then (432, 383, 384) else (0, 0, 0))))) else (bif Nat.ble 57 idx then (bif Nat.ble 63 idx then (bif Nat.ble 67 idx then (bif Nat.beq idx 67 then (422, 423, 424) else (0, 0, 0)) else (bif Nat.beq idx 63 then (447, 449, 2) else (0, 0, 0))) else (bif Nat.ble 60 idx then (bif Nat.beq idx 60 then (654, 404, 405) else (0, 0, 0)) else (bif Nat.beq idx 57 then (434, 436, 1) else (0, 0, 0)))) else (bif Nat.ble 44 idx then (bif Nat.ble 48 idx then (bif Nat.beq idx 48 then (433, 430, 431) else (0, 0, 0)) else (bif Nat.beq idx 44 then (418, 420, 0) else (0, 0, 0))) else (bif Nat.beq idx 40 then (414, 415, 416) else (0, 0, 0))))) else (0, 0, 0)) else (bif Nat.beq c 5 then (bif Nat.ble 118 idx then (bif Nat.ble 172 idx then (bif Nat.ble 180 idx then (bif Nat.ble 183 idx then (bif Nat.ble 186 idx then (bif Nat.beq idx 186 then (768, 620, 621) else (0, 0, 0)) else (bif Nat.beq idx 183 then (673, 675, 15) else (0, 0, 0))) else (bif Nat.beq idx 180 then (669, 670, 671) else (0, 0, 0))) else (bif Nat.ble 176 idx then (bif Nat.beq idx 176 then (664, 666, 14) else (0, 0, 0)) else (bif Nat.beq idx 172 then (668, 571, 572) else (0, 0, 0)))) else (bif Nat.ble 159 idx then (bif Nat.ble 165 idx then (bif Nat.ble 169 idx then (bif Nat.beq idx 169 then (636, 452, 453) else (0, 0, 0)) else (bif Nat.beq idx 165 then (632, 634, 12) else (0, 0, 0))) else (bif Nat.beq idx 159 then (610, 404, 405) else (0, 0, 0))) else (bif Nat.ble 130 idx then (bif Nat.beq idx 130 then (602, 604, 10) else (0, 0, 0)) else (bif Nat.beq idx 118 then (598, 599, 600) else (0, 0, 0))))) else (bif Nat.ble 73 idx then (bif Nat.ble 81 idx then (bif Nat.ble 84 idx then (bif Nat.ble 112 idx then (bif Nat.beq idx 112 then (594, 595, 596) else (0, 0, 0)) else (bif Nat.beq idx 84 then (606, 608, 11) else (0, 0, 0))) else (bif Nat.beq idx 81 then (590, 592, 9) else (0, 0, 0))) else (bif Nat.ble 76 idx then (bif Nat.beq idx 76 then (589, 383, 384) else (0, 0, 0)) else (bif Nat.beq idx 73 then (585, 587, 8) else (0, 0, 0)))) else (bif Nat.ble 49 idx then (bif Nat.ble 65 idx then (bif Nat.ble 69 idx then (bif Nat.beq idx 69 then (581, 583, 7) else (0, 0, 0)) else (bif Nat.beq idx 65 then (577, 578, 579) else (0, 0, 0))) else (bif Nat.beq idx 49 then (574, 0, 0) else (0, 0, 0))) else (bif Nat.ble 43 idx then (bif Nat.beq idx 43 then (498, 375, 376) else (0, 0, 0)) else (bif Nat.beq idx 37 then (278, 279, 0) else (0, 0, 0)))))) else (0, 0, 0))))
  else
   (bif Nat.ble 2 c then (bif Nat.ble 4 c then (bif Nat.beq c 4 then (bif Nat.beq idx 22 then (442, 415, 416) else (0, 0, 0)) else (0, 0, 0)) else (bif Nat.beq c 2 then (bif Nat.ble 36 idx then (bif Nat.ble 42 idx then (bif Nat.beq idx 42 then (429, 430, 431) else (0, 0, 0)) else (bif Nat.beq idx 36 then (426, 427, 428) else (0, 0, 0))) else (bif Nat.ble 32 idx then (bif Nat.beq idx 32 then (483, 484, 485) else (0, 0, 0)) else (bif Nat.beq idx 28 then (487, 363, 364) else (0, 0, 0)))) else (0, 0, 0))) else (bif Nat.beq c 0 then (bif Nat.ble 63 idx then (bif Nat.ble 67 idx then (bif Nat.ble 73 idx then (bif Nat.beq idx 73 then (443, 444, 445) else (0, 0, 0)) else (bif Nat.beq idx 67 then (410, 411, 412) else (0, 0, 0))) else (bif Nat.beq idx 63 then (407, 408, 0) else (0, 0, 0))) else (bif Nat.ble 55 idx then (bif Nat.beq idx 55 then (403, 404, 405) else (0, 0, 0)) else (bif Nat.beq idx 45 then (374, 375, 376) else (0, 0, 0)))) else (0, 0, 0))))
def cdi (k : Nat) : Nat × Nat :=
  (bif Nat.ble 73 k then
   (bif Nat.ble 109 k then
    (bif Nat.ble 127 k then
     (bif Nat.ble 136 k then
      (bif Nat.ble 141 k then
       (bif Nat.ble 143 k then
        (bif Nat.ble 144 k then (bif Nat.ble 145 k then (bif Nat.beq k 145 then (280, 56) else (0, 0)) else (bif Nat.beq k 144 then (1116, 57) else (0, 0))) else (bif Nat.beq k 143 then (1112, 57) else (0, 0)))
       else
        (bif Nat.ble 142 k then (bif Nat.beq k 142 then (1104, 57) else (0, 0)) else (bif Nat.beq k 141 then (1108, 57) else (0, 0))))
      else
       (bif Nat.ble 138 k then
        (bif Nat.ble 139 k then (bif Nat.ble 140 k then (bif Nat.beq k 140 then (1096, 57) else (0, 0)) else (bif Nat.beq k 139 then (1079, 57) else (0, 0))) else (bif Nat.beq k 138 then (1088, 57) else (0, 0)))
       else
        (bif Nat.ble 137 k then (bif Nat.beq k 137 then (1092, 57) else (0, 0)) else (bif Nat.beq k 136 then (1075, 57) else (0, 0)))))
     else
      (bif Nat.ble 131 k then
       (bif Nat.ble 133 k then
        (bif Nat.ble 134 k then (bif Nat.ble 135 k then (bif Nat.beq k 135 then (1071, 57) else (0, 0)) else (bif Nat.beq k 134 then (1067, 57) else (0, 0))) else (bif Nat.beq k 133 then (1059, 57) else (0, 0)))
       else
        (bif Nat.ble 132 k then (bif Nat.beq k 132 then (1063, 57) else (0, 0)) else (bif Nat.beq k 131 then (1047, 57) else (0, 0))))
      else
       (bif Nat.ble 129 k then (bif Nat.ble 130 k then (bif Nat.beq k 130 then (1051, 57) else (0, 0)) else (bif Nat.beq k 129 then (1055, 57) else (0, 0))) else (bif Nat.ble 128 k then (bif Nat.beq k 128 then (975, 57) else (0, 0)) else (bif Nat.beq k 127 then (979, 57) else (0, 0))))))
    else
     (bif Nat.ble 118 k then
      (bif Nat.ble 122 k then
       (bif Nat.ble 124 k then
        (bif Nat.ble 125 k then (bif Nat.ble 126 k then (bif Nat.beq k 126 then (987, 57) else (0, 0)) else (bif Nat.beq k 125 then (1043, 57) else (0, 0))) else (bif Nat.beq k 124 then (991, 57) else (0, 0)))
       else
        (bif Nat.ble 123 k then (bif Nat.beq k 123 then (983, 57) else (0, 0)) else (bif Nat.beq k 122 then (995, 57) else (0, 0))))
      else
       (bif Nat.ble 120 k then (bif Nat.ble 121 k then (bif Nat.beq k 121 then (1007, 57) else (0, 0)) else (bif Nat.beq k 120 then (1035, 57) else (0, 0))) else (bif Nat.ble 119 k then (bif Nat.beq k 119 then (1039, 57) else (0, 0)) else (bif Nat.beq k 118 then (1031, 57) else (0, 0)))))
     else
      (bif Nat.ble 113 k then
       (bif Nat.ble 115 k then
        (bif Nat.ble 116 k then (bif Nat.ble 117 k then (bif Nat.beq k 117 then (1024, 57) else (0, 0)) else (bif Nat.beq k 116 then (1011, 57) else (0, 0))) else (bif Nat.beq k 115 then (1015, 57) else (0, 0)))
       else
        (bif Nat.ble 114 k then (bif Nat.beq k 114 then (1084, 57) else (0, 0)) else (bif Nat.beq k 113 then (1027, 57) else (0, 0))))
      else
       (bif Nat.ble 111 k then (bif Nat.ble 112 k then (bif Nat.beq k 112 then (1018, 57) else (0, 0)) else (bif Nat.beq k 111 then (999, 57) else (0, 0))) else (bif Nat.ble 110 k then (bif Nat.beq k 110 then (963, 57) else (0, 0)) else (bif Nat.beq k 109 then (1003, 57) else (0, 0)))))))
   else
    (bif Nat.ble 91 k then
     (bif Nat.ble 100 k then
      (bif Nat.ble 104 k then
       (bif Nat.ble 106 k then
        (bif Nat.ble 107 k then (bif Nat.ble 108 k then (bif Nat.beq k 108 then (971, 57) else (0, 0)) else (bif Nat.beq k 107 then (967, 57) else (0, 0))) else (bif Nat.beq k 106 then (959, 57) else (0, 0)))
       else
        (bif Nat.ble 105 k then (bif Nat.beq k 105 then (951, 57) else (0, 0)) else (bif Nat.beq k 104 then (955, 57) else (0, 0))))
      else
       (bif Nat.ble 102 k then (bif Nat.ble 103 k then (bif Nat.beq k 103 then (947, 57) else (0, 0)) else (bif Nat.beq k 102 then (943, 57) else (0, 0))) else (bif Nat.ble 101 k then (bif Nat.beq k 101 then (939, 57) else (0, 0)) else (bif Nat.beq k 100 then (935, 57) else (0, 0)))))
     else
      (bif Nat.ble 95 k then
       (bif Nat.ble 97 k then
        (bif Nat.ble 98 k then (bif Nat.ble 99 k then (bif Nat.beq k 99 then (918, 57) else (0, 0)) else (bif Nat.beq k 98 then (931, 57) else (0, 0))) else (bif Nat.beq k 97 then (922, 57) else (0, 0)))
       else
        (bif Nat.ble 96 k then (bif Nat.beq k 96 then (910, 57) else (0, 0)) else (bif Nat.beq k 95 then (904, 57) else (0, 0))))
      else
       (bif Nat.ble 93 k then (bif Nat.ble 94 k then (bif Nat.beq k 94 then (893, 57) else (0, 0)) else (bif Nat.beq k 93 then (897, 57) else (0, 0))) else (bif Nat.ble 92 k then (bif Nat.beq k 92 then (885, 57) else (0, 0)) else (bif Nat.beq k 91 then (900, 57) else (0, 0))))))
    else
     (bif Nat.ble 82 k then
      (bif Nat.ble 86 k then
       (bif Nat.ble 88 k then
        (bif Nat.ble 89 k then (bif Nat.ble 90 k then (bif Nat.beq k 90 then (913, 57) else (0, 0)) else (bif Nat.beq k 89 then (926, 57) else (0, 0))) else (bif Nat.beq k 88 then (790, 57) else (0, 0)))
       else
        (bif Nat.ble 87 k then (bif Nat.beq k 87 then (1100, 57) else (0, 0)) else (bif Nat.beq k 86 then (889, 57) else (0, 0))))
      else
       (bif Nat.ble 84 k then (bif Nat.ble 85 k then (bif Nat.beq k 85 then (780, 57) else (0, 0)) else (bif Nat.beq k 84 then (490, 48) else (0, 0))) else (bif Nat.ble 83 k then (bif Nat.beq k 83 then (493, 48) else (0, 0)) else (bif Nat.beq k 82 then (391, 48) else (0, 0)))))
     else
      (bif Nat.ble 77 k then
       (bif Nat.ble 79 k then
        (bif Nat.ble 80 k then (bif Nat.ble 81 k then (bif Nat.beq k 81 then (394, 48) else (0, 0)) else (bif Nat.beq k 80 then (645, 48) else (0, 0))) else (bif Nat.beq k 79 then (775, 48) else (0, 0)))
       else
        (bif Nat.ble 78 k then (bif Nat.beq k 78 then (689, 48) else (0, 0)) else (bif Nat.beq k 77 then (680, 48) else (0, 0))))
      else
       (bif Nat.ble 75 k then (bif Nat.ble 76 k then (bif Nat.beq k 76 then (697, 48) else (0, 0)) else (bif Nat.beq k 75 then (658, 48) else (0, 0))) else (bif Nat.ble 74 k then (bif Nat.beq k 74 then (649, 48) else (0, 0)) else (bif Nat.beq k 73 then (641, 48) else (0, 0))))))))
  else
   (bif Nat.ble 36 k then
    (bif Nat.ble 54 k then
     (bif Nat.ble 63 k then
      (bif Nat.ble 68 k then
       (bif Nat.ble 70 k then
        (bif Nat.ble 71 k then (bif Nat.ble 72 k then (bif Nat.beq k 72 then (618, 48) else (0, 0)) else (bif Nat.beq k 71 then (627, 48) else (0, 0))) else (bif Nat.beq k 70 then (614, 48) else (0, 0)))
       else
        (bif Nat.ble 69 k then (bif Nat.beq k 69 then (569, 48) else (0, 0)) else (bif Nat.beq k 68 then (554, 48) else (0, 0))))
      else
       (bif Nat.ble 65 k then
        (bif Nat.ble 66 k then (bif Nat.ble 67 k then (bif Nat.beq k 67 then (546, 48) else (0, 0)) else (bif Nat.beq k 66 then (538, 48) else (0, 0))) else (bif Nat.beq k 65 then (534, 48) else (0, 0)))
       else
        (bif Nat.ble 64 k then (bif Nat.beq k 64 then (522, 48) else (0, 0)) else (bif Nat.beq k 63 then (514, 48) else (0, 0)))))
     else
      (bif Nat.ble 58 k then
       (bif Nat.ble 60 k then
        (bif Nat.ble 61 k then (bif Nat.ble 62 k then (bif Nat.beq k 62 then (502, 48) else (0, 0)) else (bif Nat.beq k 61 then (478, 48) else (0, 0))) else (bif Nat.beq k 60 then (388, 48) else (0, 0)))
       else
        (bif Nat.ble 59 k then (bif Nat.beq k 59 then (381, 48) else (0, 0)) else (bif Nat.beq k 58 then (361, 48) else (0, 0))))
      else
       (bif Nat.ble 56 k then (bif Nat.ble 57 k then (bif Nat.beq k 57 then (341, 48) else (0, 0)) else (bif Nat.beq k 56 then (466, 50) else (0, 0))) else (bif Nat.ble 55 k then (bif Nat.beq k 55 then (474, 50) else (0, 0)) else (bif Nat.beq k 54 then (462, 50) else (0, 0))))))
    else
     (bif Nat.ble 45 k then
      (bif Nat.ble 49 k then
       (bif Nat.ble 51 k then
        (bif Nat.ble 52 k then (bif Nat.ble 53 k then (bif Nat.beq k 53 then (458, 50) else (0, 0)) else (bif Nat.beq k 52 then (450, 50) else (0, 0))) else (bif Nat.beq k 51 then (446, 50) else (0, 0)))
       else
        (bif Nat.ble 50 k then (bif Nat.beq k 50 then (437, 50) else (0, 0)) else (bif Nat.beq k 49 then (421, 50) else (0, 0))))
      else
       (bif Nat.ble 47 k then (bif Nat.ble 48 k then (bif Nat.beq k 48 then (653, 50) else (0, 0)) else (bif Nat.beq k 47 then (413, 50) else (0, 0))) else (bif Nat.ble 46 k then (bif Nat.beq k 46 then (685, 55) else (0, 0)) else (bif Nat.beq k 45 then (767, 55) else (0, 0)))))
     else
      (bif Nat.ble 40 k then
       (bif Nat.ble 42 k then
        (bif Nat.ble 43 k then (bif Nat.ble 44 k then (bif Nat.beq k 44 then (663, 55) else (0, 0)) else (bif Nat.beq k 43 then (667, 55) else (0, 0))) else (bif Nat.beq k 42 then (676, 55) else (0, 0)))
       else
        (bif Nat.ble 41 k then (bif Nat.beq k 41 then (672, 55) else (0, 0)) else (bif Nat.beq k 40 then (635, 55) else (0, 0))))
      else
       (bif Nat.ble 38 k then (bif Nat.ble 39 k then (bif Nat.beq k 39 then (631, 55) else (0, 0)) else (bif Nat.beq k 38 then (622, 55) else (0, 0))) else (bif Nat.ble 37 k then (bif Nat.beq k 37 then (609, 55) else (0, 0)) else (bif Nat.beq k 36 then (605, 55) else (0, 0)))))))
   else
    (bif Nat.ble 18 k then
     (bif Nat.ble 27 k then
      (bif Nat.ble 31 k then
       (bif Nat.ble 33 k then
        (bif Nat.ble 34 k then (bif Nat.ble 35 k then (bif Nat.beq k 35 then (593, 55) else (0, 0)) else (bif Nat.beq k 34 then (588, 55) else (0, 0))) else (bif Nat.beq k 33 then (584, 55) else (0, 0)))
       else
        (bif Nat.ble 32 k then (bif Nat.beq k 32 then (580, 55) else (0, 0)) else (bif Nat.beq k 31 then (573, 55) else (0, 0))))
      else
       (bif Nat.ble 29 k then (bif Nat.ble 30 k then (bif Nat.beq k 30 then (497, 55) else (0, 0)) else (bif Nat.beq k 29 then (357, 55) else (0, 0))) else (bif Nat.ble 28 k then (bif Nat.beq k 28 then (441, 52) else (0, 0)) else (bif Nat.beq k 27 then (417, 52) else (0, 0)))))
     else
      (bif Nat.ble 22 k then
       (bif Nat.ble 24 k then
        (bif Nat.ble 25 k then (bif Nat.ble 26 k then (bif Nat.beq k 26 then (406, 52) else (0, 0)) else (bif Nat.beq k 25 then (597, 54) else (0, 0))) else (bif Nat.beq k 24 then (530, 54) else (0, 0)))
       else
        (bif Nat.ble 23 k then (bif Nat.beq k 23 then (526, 54) else (0, 0)) else (bif Nat.beq k 22 then (470, 49) else (0, 0))))
      else
       (bif Nat.ble 20 k then (bif Nat.ble 21 k then (bif Nat.beq k 21 then (425, 49) else (0, 0)) else (bif Nat.beq k 20 then (454, 49) else (0, 0))) else (bif Nat.ble 19 k then (bif Nat.beq k 19 then (377, 49) else (0, 0)) else (bif Nat.beq k 18 then (482, 49) else (0, 0))))))
    else
     (bif Nat.ble 9 k then
      (bif Nat.ble 13 k then
       (bif Nat.ble 15 k then
        (bif Nat.ble 16 k then (bif Nat.ble 17 k then (bif Nat.beq k 17 then (486, 49) else (0, 0)) else (bif Nat.beq k 16 then (365, 49) else (0, 0))) else (bif Nat.beq k 15 then (345, 49) else (0, 0)))
       else
        (bif Nat.ble 14 k then (bif Nat.beq k 14 then (550, 53) else (0, 0)) else (bif Nat.beq k 13 then (510, 53) else (0, 0))))
      else
       (bif Nat.ble 11 k then (bif Nat.ble 12 k then (bif Nat.beq k 12 then (518, 53) else (0, 0)) else (bif Nat.beq k 11 then (506, 53) else (0, 0))) else (bif Nat.ble 10 k then (bif Nat.beq k 10 then (353, 53) else (0, 0)) else (bif Nat.beq k 9 then (409, 51) else (0, 0)))))
     else
      (bif Nat.ble 4 k then
       (bif Nat.ble 6 k then
        (bif Nat.ble 7 k then (bif Nat.ble 8 k then (bif Nat.beq k 8 then (601, 51) else (0, 0)) else (bif Nat.beq k 7 then (563, 51) else (0, 0))) else (bif Nat.beq k 6 then (402, 51) else (0, 0)))
       else
        (bif Nat.ble 5 k then (bif Nat.beq k 5 then (373, 51) else (0, 0)) else (bif Nat.beq k 4 then (398, 51) else (0, 0))))
      else
       (bif Nat.ble 2 k then (bif Nat.ble 3 k then (bif Nat.beq k 3 then (542, 51) else (0, 0)) else (bif Nat.beq k 2 then (369, 51) else (0, 0))) else (bif Nat.ble 1 k then (bif Nat.beq k 1 then (559, 51) else (0, 0)) else (bif Nat.beq k 0 then (349, 51) else (0, 0)))))))))
abbrev mai : Nat := 58
abbrev cpi : Nat × Nat × Nat := (576, 575, 59)
def lyi : List (List Nat) := [[188, 190, 192, 194, 196, 198], [227, 229, 231, 233, 235, 237, 239, 241, 243], [89, 91, 93, 95, 97], [261, 263, 265, 267, 269], [158, 160, 162, 164, 166, 168, 170, 172, 174], [292, 294, 296, 298, 300, 302, 304, 306, 308, 310], [111, 113, 115, 117], [321, 323, 325, 327, 329, 331, 333, 335], [821, 823, 825, 827, 829, 831, 833, 835, 837, 839, 841, 843, 845, 847, 849, 851, 853, 855, 857, 859, 861, 863, 865, 867, 869, 871, 873, 875, 877, 879]]
end
section
/-! WHAT A PROGRAM DECIDES OF THE TABLES: words -/
def inW (i : Nat) (w : Cond) : Bool := decide (lw_tbl[i]? = some w) && goodWord w
theorem inW_mw {i : Nat} {w : Cond} (h : inW i w = true) : w ∈ mw := by
  unfold inW at h
  simp only [Bool.and_eq_true, decide_eq_true_eq] at h
  exact List.mem_filter.mpr ⟨List.mem_of_getElem? h.1, h.2⟩
theorem mw_wk {w : Cond} (k : Nat) (h : w ∈ mw) : w ∈ wk k := List.mem_cons_of_mem _ h
theorem mw_good {w : Cond} (h : w ∈ mw) : (w.onTables && w.keeps) = true ∨ ∃ ty, w = .arrayClass ty := good_of_word (List.mem_filter.mp h).2
def okF (c idx : Nat) : Bool := match fldb c idx with
  | none => true
  | some (ci, f) => match cls[ci]? with
    | none => false
    | some (_, T, N) => Nat.blt f N && inW (fli c idx) (Cond.fieldLink (onm c) idx (T f).1 (T f).2.1 (T f).2.2.1)
set_option maxRecDepth 100000 in
theorem okF_all : (List.range 10).all (fun c => (List.range 300).all (okF c)) = true := by decide +kernel
def okM (c idx : Nat) : Bool := match mthb c idx with
  | none => true
  | some (st, j, n) => bif Nat.beq j 1001 then st && inW (mti c idx).1 (Cond.methodLink (onm c) idx Lib.Math.abs.name) && inW (mti c idx).2.1 (Cond.static Lib.Math.abs.name) && inW (mti c idx).2.2 (Cond.code Lib.Math.abs.name Lib.Math.abs.code 1 (some .int))
    else bif Nat.beq j 1002 then st && inW (mti c idx).1 (Cond.methodLink (onm c) idx Lib.Math.max.name) && inW (mti c idx).2.1 (Cond.static Lib.Math.max.name) && inW (mti c idx).2.2 (Cond.code Lib.Math.max.name Lib.Math.max.code 2 (some .int))
    else bif Nat.beq j 1003 then st && inW (mti c idx).1 (Cond.methodLink (onm c) idx Lib.Math.min.name) && inW (mti c idx).2.1 (Cond.static Lib.Math.min.name) && inW (mti c idx).2.2 (Cond.code Lib.Math.min.name Lib.Math.min.code 2 (some .int))
    else bif Nat.beq j 1000 then st && inW (mti c idx).1 (Cond.methodLink (onm c) idx arraycopyName)
    else Nat.blt j 146 && inW (mti c idx).1 (Cond.methodLink (onm c) idx (ycd j)) && decide ((parseMethodDescriptor (ycd j).desc).map (fun d => d.parameters.length) = some n) && (bif st then inW (mti c idx).2.1 (Cond.static (ycd j)) else inW (mti c idx).2.1 (Cond.instanceMethod (ycd j)) && inW (mti c idx).2.2 (Cond.selects (ycd j).cls (ycd j) (ycd j)))
set_option maxRecDepth 100000 in
theorem okM_all : (List.range 10).all (fun c => (List.range 300).all (okM c)) = true := by decide +kernel
def okC (j : Nat) : Bool := inW (cdi j).2 (Cond.initialized (ycd j).cls) && decide ((ycd j).cls = onm (mcl j)) && plainName (ycd j).cls && decide ((ycd j).cls ≠ "java/lang/invoke/MethodHandle") && decide ((ycd j).cls ≠ "java/lang/invoke/VarHandle") && Nat.blt (mcl j) 10
set_option maxRecDepth 100000 in
theorem okC_all : (List.range 146).all okC = true := by decide +kernel
theorem ok_math : inW mai (Cond.initialized "java/lang/Math") = true := by decide +kernel
theorem ok_copy : (inW cpi.1 (Cond.native arraycopyName) && inW cpi.2.1 (Cond.static arraycopyName) && inW cpi.2.2 (Cond.initialized "java/lang/System")) = true := by decide +kernel
def okL (c idx : Nat) : Bool := match lcnb c idx with
  | none => true
  | some v => lw_tbl.any (fun w => decide (w = Cond.constantLong (onm c) idx v) && goodWord w)
set_option maxRecDepth 100000 in
theorem okL_all : (List.range 10).all (fun c => (List.range 300).all (okL c)) = true := by decide +kernel
/-- the fields of an object are those of its class: as many, numbers are ints that may be written, cells are cells -/
def okS (g : Nat) : Bool := match shpb g with
  | some (.inl (ci, fs)) => match cls[ci]? with
    | none => false
    | some (_, T, N) => Nat.beq fs.length N && (List.range N).all (fun f => match fs[f]? with
      | some none => !(T f).2.2.2 && decide (parseFieldDescriptor (T f).2.2.1 = some .int)
      | _ => true)
  | _ => true
theorem okS_all : (List.range 100).all okS = true := by decide +kernel
/-- what is reached from a world is in it -/
def okW (b : Bool) (q : Nat × Nat) : Bool := match shp q.1 with
  | some (.inl (_, fs)) => fs.all (fun o => match o with
    | none => true
    | some g' => decide ((g', q.2) ∈ mcs b))
  | some (.inr (.inr (g', n))) => (List.range n).all (fun j => decide ((g', j) ∈ mcs b))
  | some (.inr (.inl _)) => true
  | none => false
theorem okW_all (b : Bool) : (mcs b).all (okW b) = true := by cases b <;> decide +kernel
theorem mcs_nd (b : Bool) : (mcs b).Nodup := by cases b <;> decide +kernel
/-- the words of a class's fields -/
def okY (c : Nat) : Bool := match cls[c]?, lyi[c]? with
  | some (C, T, N), some is => Nat.beq is.length N && (List.range N).all (fun f => inW (is.getD f 0) (u_lay C T f))
  | _, _ => false
theorem okY_all : (List.range 9).all okY = true := by decide +kernel
end
section
/-! THE CODE WORDS (written by wip/whole/gen_hints.py) -/
set_option maxRecDepth 100000 in
theorem wcX0_clear : Cond.code yX0_clear cX0_clear 2 none ∈ lw_tbl := List.mem_of_getElem? (i := 349) rfl
set_option maxRecDepth 100000 in
theorem wcX0_isEmpty : Cond.code yX0_isEmpty cX0_isEmpty 1 (some .boolean) ∈ lw_tbl := List.mem_of_getElem? (i := 559) rfl
set_option maxRecDepth 100000 in
theorem wcX0_isFull : Cond.code yX0_isFull cX0_isFull 1 (some .boolean) ∈ lw_tbl := List.mem_of_getElem? (i := 369) rfl
set_option maxRecDepth 100000 in
theorem wcX0_hasStep : Cond.code yX0_hasStep cX0_hasStep 2 (some .boolean) ∈ lw_tbl := List.mem_of_getElem? (i := 542) rfl
set_option maxRecDepth 100000 in
theorem wcX0_latestYear : Cond.code yX0_latestYear cX0_latestYear 1 (some .int) ∈ lw_tbl := List.mem_of_getElem? (i := 398) rfl
set_option maxRecDepth 100000 in
theorem wcX0_draftLine : Cond.code yX0_draftLine cX0_draftLine 6 (some .int) ∈ lw_tbl := List.mem_of_getElem? (i := 373) rfl
set_option maxRecDepth 100000 in
theorem wcX0_add : Cond.code yX0_add cX0_add 6 (some .int) ∈ lw_tbl := List.mem_of_getElem? (i := 402) rfl
set_option maxRecDepth 100000 in
theorem wcX0_leafIn : Cond.code yX0_leafIn cX0_leafIn 4 (some (.object RX4)) ∈ lw_tbl := List.mem_of_getElem? (i := 563) rfl
set_option maxRecDepth 100000 in
theorem wcX0_isSudden : Cond.code yX0_isSudden cX0_isSudden 3 (some .boolean) ∈ lw_tbl := List.mem_of_getElem? (i := 601) rfl
set_option maxRecDepth 100000 in
theorem wcX0_kindBetween : Cond.code yX0_kindBetween cX0_kindBetween 2 (some .int) ∈ lw_tbl := List.mem_of_getElem? (i := 409) rfl
set_option maxRecDepth 100000 in
theorem wcX1_clear : Cond.code yX1_clear cX1_clear 1 none ∈ lw_tbl := List.mem_of_getElem? (i := 353) rfl
set_option maxRecDepth 100000 in
theorem wcX1_isFull : Cond.code yX1_isFull cX1_isFull 1 (some .boolean) ∈ lw_tbl := List.mem_of_getElem? (i := 506) rfl
set_option maxRecDepth 100000 in
theorem wcX1_has : Cond.code yX1_has cX1_has 2 (some .boolean) ∈ lw_tbl := List.mem_of_getElem? (i := 518) rfl
set_option maxRecDepth 100000 in
theorem wcX1_add : Cond.code yX1_add cX1_add 9 (some .int) ∈ lw_tbl := List.mem_of_getElem? (i := 510) rfl
set_option maxRecDepth 100000 in
theorem wcX1_notStruck : Cond.code yX1_notStruck cX1_notStruck 3 (some .int) ∈ lw_tbl := List.mem_of_getElem? (i := 550) rfl
set_option maxRecDepth 100000 in
theorem wcX2_lay : Cond.code yX2_lay cX2_lay 5 none ∈ lw_tbl := List.mem_of_getElem? (i := 345) rfl
set_option maxRecDepth 100000 in
theorem wcX2_hasLine : Cond.code yX2_hasLine cX2_hasLine 2 (some .boolean) ∈ lw_tbl := List.mem_of_getElem? (i := 365) rfl
set_option maxRecDepth 100000 in
theorem wcX2_has : Cond.code yX2_has cX2_has 3 (some .boolean) ∈ lw_tbl := List.mem_of_getElem? (i := 486) rfl
set_option maxRecDepth 100000 in
theorem wcX2_hasBox : Cond.code yX2_hasBox cX2_hasBox 5 (some .boolean) ∈ lw_tbl := List.mem_of_getElem? (i := 482) rfl
set_option maxRecDepth 100000 in
theorem wcX2_cellAt : Cond.code yX2_cellAt cX2_cellAt 3 (some .int) ∈ lw_tbl := List.mem_of_getElem? (i := 377) rfl
set_option maxRecDepth 100000 in
theorem wcX2_beside : Cond.code yX2_beside cX2_beside 3 (some .int) ∈ lw_tbl := List.mem_of_getElem? (i := 454) rfl
set_option maxRecDepth 100000 in
theorem wcX2_apart : Cond.code yX2_apart cX2_apart 3 (some .int) ∈ lw_tbl := List.mem_of_getElem? (i := 425) rfl
set_option maxRecDepth 100000 in
theorem wcX2_walk : Cond.code yX2_walk cX2_walk 3 (some .int) ∈ lw_tbl := List.mem_of_getElem? (i := 470) rfl
set_option maxRecDepth 100000 in
theorem wcX3_isFull : Cond.code yX3_isFull cX3_isFull 1 (some .boolean) ∈ lw_tbl := List.mem_of_getElem? (i := 526) rfl
set_option maxRecDepth 100000 in
theorem wcX3_add : Cond.code yX3_add cX3_add 5 (some .int) ∈ lw_tbl := List.mem_of_getElem? (i := 530) rfl
set_option maxRecDepth 100000 in
theorem wcX3_placeFor : Cond.code yX3_placeFor cX3_placeFor 4 (some .int) ∈ lw_tbl := List.mem_of_getElem? (i := 597) rfl
set_option maxRecDepth 100000 in
theorem wcX4_isDry : Cond.code yX4_isDry cX4_isDry 2 (some .boolean) ∈ lw_tbl := List.mem_of_getElem? (i := 406) rfl
set_option maxRecDepth 100000 in
theorem wcX4_isNew : Cond.code yX4_isNew cX4_isNew 2 (some .boolean) ∈ lw_tbl := List.mem_of_getElem? (i := 417) rfl
set_option maxRecDepth 100000 in
theorem wcX4_wasWater : Cond.code yX4_wasWater cX4_wasWater 2 (some .boolean) ∈ lw_tbl := List.mem_of_getElem? (i := 441) rfl
set_option maxRecDepth 100000 in
theorem wcX5_forgetFirst : Cond.code yX5_forgetFirst cX5_forgetFirst 1 none ∈ lw_tbl := List.mem_of_getElem? (i := 357) rfl
set_option maxRecDepth 100000 in
theorem wcX5_setFirst : Cond.code yX5_setFirst cX5_setFirst 8 none ∈ lw_tbl := List.mem_of_getElem? (i := 497) rfl
set_option maxRecDepth 100000 in
theorem wcX5_runFromFirst : Cond.code yX5_runFromFirst cX5_runFromFirst 3 none ∈ lw_tbl := List.mem_of_getElem? (i := 573) rfl
set_option maxRecDepth 100000 in
theorem wcX5_runTo : Cond.code yX5_runTo cX5_runTo 6 (some .boolean) ∈ lw_tbl := List.mem_of_getElem? (i := 580) rfl
set_option maxRecDepth 100000 in
theorem wcX5_nextStepYear : Cond.code yX5_nextStepYear cX5_nextStepYear 1 (some .int) ∈ lw_tbl := List.mem_of_getElem? (i := 584) rfl
set_option maxRecDepth 100000 in
theorem wcX5_nextDeedYear : Cond.code yX5_nextDeedYear cX5_nextDeedYear 1 (some .int) ∈ lw_tbl := List.mem_of_getElem? (i := 588) rfl
set_option maxRecDepth 100000 in
theorem wcX5_takeStep : Cond.code yX5_takeStep cX5_takeStep 5 none ∈ lw_tbl := List.mem_of_getElem? (i := 593) rfl
set_option maxRecDepth 100000 in
theorem wcX5_shiftOwners : Cond.code yX5_shiftOwners cX5_shiftOwners 6 none ∈ lw_tbl := List.mem_of_getElem? (i := 605) rfl
set_option maxRecDepth 100000 in
theorem wcX5_takeDeed : Cond.code yX5_takeDeed cX5_takeDeed 6 none ∈ lw_tbl := List.mem_of_getElem? (i := 609) rfl
set_option maxRecDepth 100000 in
theorem wcX5_dryOf : Cond.code yX5_dryOf cX5_dryOf 5 (some .int) ∈ lw_tbl := List.mem_of_getElem? (i := 622) rfl
set_option maxRecDepth 100000 in
theorem wcX5_dryByWaterOf : Cond.code yX5_dryByWaterOf cX5_dryByWaterOf 5 (some .int) ∈ lw_tbl := List.mem_of_getElem? (i := 631) rfl
set_option maxRecDepth 100000 in
theorem wcX5_isByWater : Cond.code yX5_isByWater cX5_isByWater 5 (some .boolean) ∈ lw_tbl := List.mem_of_getElem? (i := 635) rfl
set_option maxRecDepth 100000 in
theorem wcX5_keep : Cond.code yX5_keep cX5_keep 1 none ∈ lw_tbl := List.mem_of_getElem? (i := 672) rfl
set_option maxRecDepth 100000 in
theorem wcX5_differing : Cond.code yX5_differing cX5_differing 3 (some .int) ∈ lw_tbl := List.mem_of_getElem? (i := 676) rfl
set_option maxRecDepth 100000 in
theorem wcX5_runAheadOf : Cond.code yX5_runAheadOf cX5_runAheadOf 2 none ∈ lw_tbl := List.mem_of_getElem? (i := 667) rfl
set_option maxRecDepth 100000 in
theorem wcX5_changedBy : Cond.code yX5_changedBy cX5_changedBy 2 (some .int) ∈ lw_tbl := List.mem_of_getElem? (i := 663) rfl
set_option maxRecDepth 100000 in
theorem wcX5_wonBy : Cond.code yX5_wonBy cX5_wonBy 4 (some .int) ∈ lw_tbl := List.mem_of_getElem? (i := 767) rfl
set_option maxRecDepth 100000 in
theorem wcX5_changedByDoubt : Cond.code yX5_changedByDoubt cX5_changedByDoubt 3 (some .int) ∈ lw_tbl := List.mem_of_getElem? (i := 685) rfl
set_option maxRecDepth 100000 in
theorem wcX6_measure : Cond.code yX6_measure cX6_measure 3 none ∈ lw_tbl := List.mem_of_getElem? (i := 413) rfl
set_option maxRecDepth 100000 in
theorem wcX6_dryParts : Cond.code yX6_dryParts cX6_dryParts 4 (some .int) ∈ lw_tbl := List.mem_of_getElem? (i := 653) rfl
set_option maxRecDepth 100000 in
theorem wcX6_apartFromFast : Cond.code yX6_apartFromFast cX6_apartFromFast 5 (some .int) ∈ lw_tbl := List.mem_of_getElem? (i := 421) rfl
set_option maxRecDepth 100000 in
theorem wcX6_apartFromOldWater : Cond.code yX6_apartFromOldWater cX6_apartFromOldWater 5 (some .int) ∈ lw_tbl := List.mem_of_getElem? (i := 437) rfl
set_option maxRecDepth 100000 in
theorem wcX6_sortParts : Cond.code yX6_sortParts cX6_sortParts 3 none ∈ lw_tbl := List.mem_of_getElem? (i := 446) rfl
set_option maxRecDepth 100000 in
theorem wcX6_gather : Cond.code yX6_gather cX6_gather 5 none ∈ lw_tbl := List.mem_of_getElem? (i := 450) rfl
set_option maxRecDepth 100000 in
theorem wcX6_partIsByFast : Cond.code yX6_partIsByFast cX6_partIsByFast 5 (some .boolean) ∈ lw_tbl := List.mem_of_getElem? (i := 458) rfl
set_option maxRecDepth 100000 in
theorem wcX6_settleShore : Cond.code yX6_settleShore cX6_settleShore 3 none ∈ lw_tbl := List.mem_of_getElem? (i := 462) rfl
set_option maxRecDepth 100000 in
theorem wcX6_settleIsle : Cond.code yX6_settleIsle cX6_settleIsle 4 none ∈ lw_tbl := List.mem_of_getElem? (i := 474) rfl
set_option maxRecDepth 100000 in
theorem wcX6_fastNearestTo : Cond.code yX6_fastNearestTo cX6_fastNearestTo 9 (some .int) ∈ lw_tbl := List.mem_of_getElem? (i := 466) rfl
set_option maxRecDepth 100000 in
theorem wcX7_land : Cond.code yX7_land cX7_land 3 (some .boolean) ∈ lw_tbl := List.mem_of_getElem? (i := 341) rfl
set_option maxRecDepth 100000 in
theorem wcX7_water : Cond.code yX7_water cX7_water 3 (some .int) ∈ lw_tbl := List.mem_of_getElem? (i := 361) rfl
set_option maxRecDepth 100000 in
theorem wcX7_sheet : Cond.code yX7_sheet cX7_sheet 10 (some .int) ∈ lw_tbl := List.mem_of_getElem? (i := 381) rfl
set_option maxRecDepth 100000 in
theorem wcX7_map : Cond.code yX7_map cX7_map 2 (some .int) ∈ lw_tbl := List.mem_of_getElem? (i := 388) rfl
set_option maxRecDepth 100000 in
theorem wcX7_own : Cond.code yX7_own cX7_own 6 (some .boolean) ∈ lw_tbl := List.mem_of_getElem? (i := 478) rfl
set_option maxRecDepth 100000 in
theorem wcX7_deed : Cond.code yX7_deed cX7_deed 7 (some .int) ∈ lw_tbl := List.mem_of_getElem? (i := 502) rfl
set_option maxRecDepth 100000 in
theorem wcX7_strike : Cond.code yX7_strike cX7_strike 3 (some .boolean) ∈ lw_tbl := List.mem_of_getElem? (i := 514) rfl
set_option maxRecDepth 100000 in
theorem wcX7_law : Cond.code yX7_law cX7_law 6 (some .int) ∈ lw_tbl := List.mem_of_getElem? (i := 522) rfl
set_option maxRecDepth 100000 in
theorem wcX7_reach : Cond.code yX7_reach cX7_reach 3 (some .int) ∈ lw_tbl := List.mem_of_getElem? (i := 534) rfl
set_option maxRecDepth 100000 in
theorem wcX7_judge : Cond.code yX7_judge cX7_judge 3 (some .boolean) ∈ lw_tbl := List.mem_of_getElem? (i := 538) rfl
set_option maxRecDepth 100000 in
theorem wcX7_count : Cond.code yX7_count cX7_count 2 (some .int) ∈ lw_tbl := List.mem_of_getElem? (i := 546) rfl
set_option maxRecDepth 100000 in
theorem wcX7_wet : Cond.code yX7_wet cX7_wet 4 (some .int) ∈ lw_tbl := List.mem_of_getElem? (i := 554) rfl
set_option maxRecDepth 100000 in
theorem wcX7_owner : Cond.code yX7_owner cX7_owner 4 (some .int) ∈ lw_tbl := List.mem_of_getElem? (i := 569) rfl
set_option maxRecDepth 100000 in
theorem wcX7_area : Cond.code yX7_area cX7_area 3 (some .int) ∈ lw_tbl := List.mem_of_getElem? (i := 614) rfl
set_option maxRecDepth 100000 in
theorem wcX7_front : Cond.code yX7_front cX7_front 3 (some .int) ∈ lw_tbl := List.mem_of_getElem? (i := 627) rfl
set_option maxRecDepth 100000 in
theorem wcX7_tax : Cond.code yX7_tax cX7_tax 7 (some .int) ∈ lw_tbl := List.mem_of_getElem? (i := 618) rfl
set_option maxRecDepth 100000 in
theorem wcX7_chain : Cond.code yX7_chain cX7_chain 7 (some .int) ∈ lw_tbl := List.mem_of_getElem? (i := 641) rfl
set_option maxRecDepth 100000 in
theorem wcX7_banks : Cond.code yX7_banks cX7_banks 2 (some .int) ∈ lw_tbl := List.mem_of_getElem? (i := 649) rfl
set_option maxRecDepth 100000 in
theorem wcX7_step : Cond.code yX7_step cX7_step 4 (some .int) ∈ lw_tbl := List.mem_of_getElem? (i := 658) rfl
set_option maxRecDepth 100000 in
theorem wcX7_moved : Cond.code yX7_moved cX7_moved 3 (some .int) ∈ lw_tbl := List.mem_of_getElem? (i := 697) rfl
set_option maxRecDepth 100000 in
theorem wcX7_doubt : Cond.code yX7_doubt cX7_doubt 3 (some .int) ∈ lw_tbl := List.mem_of_getElem? (i := 680) rfl
set_option maxRecDepth 100000 in
theorem wcX7_weak : Cond.code yX7_weak cX7_weak 6 (some .int) ∈ lw_tbl := List.mem_of_getElem? (i := 689) rfl
set_option maxRecDepth 100000 in
theorem wcX7_row : Cond.code yX7_row cX7_row 2 (some .int) ∈ lw_tbl := List.mem_of_getElem? (i := 775) rfl
set_option maxRecDepth 100000 in
theorem wcX7_tell : Cond.code yX7_tell cX7_tell 3 none ∈ lw_tbl := List.mem_of_getElem? (i := 645) rfl
set_option maxRecDepth 100000 in
theorem wcX7_isBetween : Cond.code yX7_isBetween cX7_isBetween 3 (some .boolean) ∈ lw_tbl := List.mem_of_getElem? (i := 394) rfl
set_option maxRecDepth 100000 in
theorem wcX7_isYear : Cond.code yX7_isYear cX7_isYear 1 (some .boolean) ∈ lw_tbl := List.mem_of_getElem? (i := 391) rfl
set_option maxRecDepth 100000 in
theorem wcX7_isOwner : Cond.code yX7_isOwner cX7_isOwner 1 (some .boolean) ∈ lw_tbl := List.mem_of_getElem? (i := 493) rfl
set_option maxRecDepth 100000 in
theorem wcX7_isOwnerOrNone : Cond.code yX7_isOwnerOrNone cX7_isOwnerOrNone 1 (some .boolean) ∈ lw_tbl := List.mem_of_getElem? (i := 490) rfl
set_option maxRecDepth 100000 in
theorem wcX8_thrown : Cond.code yX8_thrown cX8_thrown 1 (some .int) ∈ lw_tbl := List.mem_of_getElem? (i := 780) rfl
set_option maxRecDepth 100000 in
theorem wcX8_in : Cond.code yX8_in cX8_in 6 (some .boolean) ∈ lw_tbl := List.mem_of_getElem? (i := 889) rfl
set_option maxRecDepth 100000 in
theorem wcX8_refuse : Cond.code yX8_refuse cX8_refuse 1 (some .int) ∈ lw_tbl := List.mem_of_getElem? (i := 1100) rfl
set_option maxRecDepth 100000 in
theorem wcX8_lays : Cond.code yX8_lays cX8_lays 2 none ∈ lw_tbl := List.mem_of_getElem? (i := 790) rfl
set_option maxRecDepth 100000 in
theorem wcX8_isCell : Cond.code yX8_isCell cX8_isCell 3 (some .boolean) ∈ lw_tbl := List.mem_of_getElem? (i := 926) rfl
set_option maxRecDepth 100000 in
theorem wcX8_isYear : Cond.code yX8_isYear cX8_isYear 1 (some .boolean) ∈ lw_tbl := List.mem_of_getElem? (i := 913) rfl
set_option maxRecDepth 100000 in
theorem wcX8_cell : Cond.code yX8_cell cX8_cell 2 (some .int) ∈ lw_tbl := List.mem_of_getElem? (i := 900) rfl
set_option maxRecDepth 100000 in
theorem wcX8_land : Cond.code yX8_land cX8_land 3 (some .boolean) ∈ lw_tbl := List.mem_of_getElem? (i := 885) rfl
set_option maxRecDepth 100000 in
theorem wcX8_rowOf : Cond.code yX8_rowOf cX8_rowOf 6 (some .int) ∈ lw_tbl := List.mem_of_getElem? (i := 897) rfl
set_option maxRecDepth 100000 in
theorem wcX8_water : Cond.code yX8_water cX8_water 3 (some .int) ∈ lw_tbl := List.mem_of_getElem? (i := 893) rfl
set_option maxRecDepth 100000 in
theorem wcX8_sheet : Cond.code yX8_sheet cX8_sheet 10 (some .int) ∈ lw_tbl := List.mem_of_getElem? (i := 904) rfl
set_option maxRecDepth 100000 in
theorem wcX8_map : Cond.code yX8_map cX8_map 3 (some .int) ∈ lw_tbl := List.mem_of_getElem? (i := 910) rfl
set_option maxRecDepth 100000 in
theorem wcX8_isBox : Cond.code yX8_isBox cX8_isBox 5 (some .boolean) ∈ lw_tbl := List.mem_of_getElem? (i := 922) rfl
set_option maxRecDepth 100000 in
theorem wcX8_isInBox : Cond.code yX8_isInBox cX8_isInBox 3 (some .boolean) ∈ lw_tbl := List.mem_of_getElem? (i := 931) rfl
set_option maxRecDepth 100000 in
theorem wcX8_own : Cond.code yX8_own cX8_own 7 (some .boolean) ∈ lw_tbl := List.mem_of_getElem? (i := 918) rfl
set_option maxRecDepth 100000 in
theorem wcX8_deed : Cond.code yX8_deed cX8_deed 7 (some .int) ∈ lw_tbl := List.mem_of_getElem? (i := 935) rfl
set_option maxRecDepth 100000 in
theorem wcX8_strike : Cond.code yX8_strike cX8_strike 3 (some .boolean) ∈ lw_tbl := List.mem_of_getElem? (i := 939) rfl
set_option maxRecDepth 100000 in
theorem wcX8_law : Cond.code yX8_law cX8_law 5 (some .int) ∈ lw_tbl := List.mem_of_getElem? (i := 943) rfl
set_option maxRecDepth 100000 in
theorem wcX8_reach : Cond.code yX8_reach cX8_reach 3 (some .int) ∈ lw_tbl := List.mem_of_getElem? (i := 947) rfl
set_option maxRecDepth 100000 in
theorem wcX8_isStep : Cond.code yX8_isStep cX8_isStep 2 (some .boolean) ∈ lw_tbl := List.mem_of_getElem? (i := 955) rfl
set_option maxRecDepth 100000 in
theorem wcX8_judge : Cond.code yX8_judge cX8_judge 3 (some .boolean) ∈ lw_tbl := List.mem_of_getElem? (i := 951) rfl
set_option maxRecDepth 100000 in
theorem wcX8_count : Cond.code yX8_count cX8_count 4 (some .int) ∈ lw_tbl := List.mem_of_getElem? (i := 959) rfl
set_option maxRecDepth 100000 in
theorem wcX8_mapIn : Cond.code yX8_mapIn cX8_mapIn 4 (some .int) ∈ lw_tbl := List.mem_of_getElem? (i := 967) rfl
set_option maxRecDepth 100000 in
theorem wcX8_isWet : Cond.code yX8_isWet cX8_isWet 3 (some .boolean) ∈ lw_tbl := List.mem_of_getElem? (i := 971) rfl
set_option maxRecDepth 100000 in
theorem wcX8_isOn : Cond.code yX8_isOn cX8_isOn 2 (some .boolean) ∈ lw_tbl := List.mem_of_getElem? (i := 1003) rfl
set_option maxRecDepth 100000 in
theorem wcX8_wet : Cond.code yX8_wet cX8_wet 4 (some .int) ∈ lw_tbl := List.mem_of_getElem? (i := 963) rfl
set_option maxRecDepth 100000 in
theorem wcX8_kinds : Cond.code yX8_kinds cX8_kinds 5 none ∈ lw_tbl := List.mem_of_getElem? (i := 999) rfl
set_option maxRecDepth 100000 in
theorem wcX8_apart : Cond.code yX8_apart cX8_apart 2 (some .int) ∈ lw_tbl := List.mem_of_getElem? (i := 1018) rfl
set_option maxRecDepth 100000 in
theorem wcX8_away : Cond.code yX8_away cX8_away 2 (some .int) ∈ lw_tbl := List.mem_of_getElem? (i := 1027) rfl
set_option maxRecDepth 100000 in
theorem wcX8_kindsOf : Cond.code yX8_kindsOf cX8_kindsOf 4 (some .int) ∈ lw_tbl := List.mem_of_getElem? (i := 1084) rfl
set_option maxRecDepth 100000 in
theorem wcX8_far : Cond.code yX8_far cX8_far 6 (some .int) ∈ lw_tbl := List.mem_of_getElem? (i := 1015) rfl
set_option maxRecDepth 100000 in
theorem wcX8_isSudden : Cond.code yX8_isSudden cX8_isSudden 2 (some .boolean) ∈ lw_tbl := List.mem_of_getElem? (i := 1011) rfl
set_option maxRecDepth 100000 in
theorem wcX8_findsParts : Cond.code yX8_findsParts cX8_findsParts 5 none ∈ lw_tbl := List.mem_of_getElem? (i := 1024) rfl
set_option maxRecDepth 100000 in
theorem wcX8_nearest : Cond.code yX8_nearest cX8_nearest 4 (some .int) ∈ lw_tbl := List.mem_of_getElem? (i := 1031) rfl
set_option maxRecDepth 100000 in
theorem wcX8_awayFromPart : Cond.code yX8_awayFromPart cX8_awayFromPart 5 (some .int) ∈ lw_tbl := List.mem_of_getElem? (i := 1039) rfl
set_option maxRecDepth 100000 in
theorem wcX8_nearestToPart : Cond.code yX8_nearestToPart cX8_nearestToPart 6 (some .int) ∈ lw_tbl := List.mem_of_getElem? (i := 1035) rfl
set_option maxRecDepth 100000 in
theorem wcX8_lawIn : Cond.code yX8_lawIn cX8_lawIn 4 (some .int) ∈ lw_tbl := List.mem_of_getElem? (i := 1007) rfl
set_option maxRecDepth 100000 in
theorem wcX8_steps : Cond.code yX8_steps cX8_steps 10 none ∈ lw_tbl := List.mem_of_getElem? (i := 995) rfl
set_option maxRecDepth 100000 in
theorem wcX8_begins : Cond.code yX8_begins cX8_begins 2 none ∈ lw_tbl := List.mem_of_getElem? (i := 983) rfl
set_option maxRecDepth 100000 in
theorem wcX8_stepIn : Cond.code yX8_stepIn cX8_stepIn 3 (some .int) ∈ lw_tbl := List.mem_of_getElem? (i := 991) rfl
set_option maxRecDepth 100000 in
theorem wcX8_deedsIn : Cond.code yX8_deedsIn cX8_deedsIn 6 none ∈ lw_tbl := List.mem_of_getElem? (i := 1043) rfl
set_option maxRecDepth 100000 in
theorem wcX8_goes : Cond.code yX8_goes cX8_goes 4 none ∈ lw_tbl := List.mem_of_getElem? (i := 987) rfl
set_option maxRecDepth 100000 in
theorem wcX8_upTo : Cond.code yX8_upTo cX8_upTo 4 none ∈ lw_tbl := List.mem_of_getElem? (i := 979) rfl
set_option maxRecDepth 100000 in
theorem wcX8_owner : Cond.code yX8_owner cX8_owner 4 (some .int) ∈ lw_tbl := List.mem_of_getElem? (i := 975) rfl
set_option maxRecDepth 100000 in
theorem wcX8_areaOn : Cond.code yX8_areaOn cX8_areaOn 5 (some .int) ∈ lw_tbl := List.mem_of_getElem? (i := 1055) rfl
set_option maxRecDepth 100000 in
theorem wcX8_isAsked : Cond.code yX8_isAsked cX8_isAsked 3 (some .boolean) ∈ lw_tbl := List.mem_of_getElem? (i := 1051) rfl
set_option maxRecDepth 100000 in
theorem wcX8_area : Cond.code yX8_area cX8_area 3 (some .int) ∈ lw_tbl := List.mem_of_getElem? (i := 1047) rfl
set_option maxRecDepth 100000 in
theorem wcX8_isByWater : Cond.code yX8_isByWater cX8_isByWater 5 (some .boolean) ∈ lw_tbl := List.mem_of_getElem? (i := 1063) rfl
set_option maxRecDepth 100000 in
theorem wcX8_front : Cond.code yX8_front cX8_front 6 (some .int) ∈ lw_tbl := List.mem_of_getElem? (i := 1059) rfl
set_option maxRecDepth 100000 in
theorem wcX8_tax : Cond.code yX8_tax cX8_tax 6 (some .int) ∈ lw_tbl := List.mem_of_getElem? (i := 1067) rfl
set_option maxRecDepth 100000 in
theorem wcX8_chain : Cond.code yX8_chain cX8_chain 5 (some .int) ∈ lw_tbl := List.mem_of_getElem? (i := 1071) rfl
set_option maxRecDepth 100000 in
theorem wcX8_banks : Cond.code yX8_banks cX8_banks 6 (some .int) ∈ lw_tbl := List.mem_of_getElem? (i := 1075) rfl
set_option maxRecDepth 100000 in
theorem wcX8_walks : Cond.code yX8_walks cX8_walks 3 none ∈ lw_tbl := List.mem_of_getElem? (i := 1092) rfl
set_option maxRecDepth 100000 in
theorem wcX8_shores : Cond.code yX8_shores cX8_shores 3 (some .int) ∈ lw_tbl := List.mem_of_getElem? (i := 1088) rfl
set_option maxRecDepth 100000 in
theorem wcX8_step : Cond.code yX8_step cX8_step 5 (some .int) ∈ lw_tbl := List.mem_of_getElem? (i := 1079) rfl
set_option maxRecDepth 100000 in
theorem wcX8_moved : Cond.code yX8_moved cX8_moved 5 (some .int) ∈ lw_tbl := List.mem_of_getElem? (i := 1096) rfl
set_option maxRecDepth 100000 in
theorem wcX8_unlike : Cond.code yX8_unlike cX8_unlike 5 (some .int) ∈ lw_tbl := List.mem_of_getElem? (i := 1108) rfl
set_option maxRecDepth 100000 in
theorem wcX8_doubt : Cond.code yX8_doubt cX8_doubt 3 (some .int) ∈ lw_tbl := List.mem_of_getElem? (i := 1104) rfl
set_option maxRecDepth 100000 in
theorem wcX8_weak : Cond.code yX8_weak cX8_weak 6 (some .int) ∈ lw_tbl := List.mem_of_getElem? (i := 1112) rfl
set_option maxRecDepth 100000 in
theorem wcX8_row : Cond.code yX8_row cX8_row 2 (some .int) ∈ lw_tbl := List.mem_of_getElem? (i := 1116) rfl
set_option maxRecDepth 100000 in
theorem wcJ7_fill_53178 : Cond.code yJ7_fill_53178 cJ7_fill_53178 4 none ∈ lw_tbl := List.mem_of_getElem? (i := 280) rfl
def cdw (j : Nat) : Cond := Cond.code (ycd j) (bcd j) (mml j) (rcd j)
set_option maxRecDepth 100000 in
theorem cdw_0 : ∀ w ∈ (List.range' 0 20).map cdw, w ∈ lw_tbl :=
  List.forall_mem_cons.mpr ⟨wcX0_clear, List.forall_mem_cons.mpr ⟨wcX0_isEmpty, List.forall_mem_cons.mpr ⟨wcX0_isFull, List.forall_mem_cons.mpr ⟨wcX0_hasStep, List.forall_mem_cons.mpr ⟨wcX0_latestYear, List.forall_mem_cons.mpr ⟨wcX0_draftLine, List.forall_mem_cons.mpr ⟨wcX0_add, List.forall_mem_cons.mpr ⟨wcX0_leafIn, List.forall_mem_cons.mpr ⟨wcX0_isSudden, List.forall_mem_cons.mpr ⟨wcX0_kindBetween, List.forall_mem_cons.mpr ⟨wcX1_clear, List.forall_mem_cons.mpr ⟨wcX1_isFull, List.forall_mem_cons.mpr ⟨wcX1_has, List.forall_mem_cons.mpr ⟨wcX1_add, List.forall_mem_cons.mpr ⟨wcX1_notStruck, List.forall_mem_cons.mpr ⟨wcX2_lay, List.forall_mem_cons.mpr ⟨wcX2_hasLine, List.forall_mem_cons.mpr ⟨wcX2_has, List.forall_mem_cons.mpr ⟨wcX2_hasBox, List.forall_mem_cons.mpr ⟨wcX2_cellAt, (fun _ h => absurd h List.not_mem_nil)⟩⟩⟩⟩⟩⟩⟩⟩⟩⟩⟩⟩⟩⟩⟩⟩⟩⟩⟩⟩
set_option maxRecDepth 100000 in
theorem cdw_1 : ∀ w ∈ (List.range' 20 20).map cdw, w ∈ lw_tbl :=
  List.forall_mem_cons.mpr ⟨wcX2_beside, List.forall_mem_cons.mpr ⟨wcX2_apart, List.forall_mem_cons.mpr ⟨wcX2_walk, List.forall_mem_cons.mpr ⟨wcX3_isFull, List.forall_mem_cons.mpr ⟨wcX3_add, List.forall_mem_cons.mpr ⟨wcX3_placeFor, List.forall_mem_cons.mpr ⟨wcX4_isDry, List.forall_mem_cons.mpr ⟨wcX4_isNew, List.forall_mem_cons.mpr ⟨wcX4_wasWater, List.forall_mem_cons.mpr ⟨wcX5_forgetFirst, List.forall_mem_cons.mpr ⟨wcX5_setFirst, List.forall_mem_cons.mpr ⟨wcX5_runFromFirst, List.forall_mem_cons.mpr ⟨wcX5_runTo, List.forall_mem_cons.mpr ⟨wcX5_nextStepYear, List.forall_mem_cons.mpr ⟨wcX5_nextDeedYear, List.forall_mem_cons.mpr ⟨wcX5_takeStep, List.forall_mem_cons.mpr ⟨wcX5_shiftOwners, List.forall_mem_cons.mpr ⟨wcX5_takeDeed, List.forall_mem_cons.mpr ⟨wcX5_dryOf, List.forall_mem_cons.mpr ⟨wcX5_dryByWaterOf, (fun _ h => absurd h List.not_mem_nil)⟩⟩⟩⟩⟩⟩⟩⟩⟩⟩⟩⟩⟩⟩⟩⟩⟩⟩⟩⟩
set_option maxRecDepth 100000 in
theorem cdw_2 : ∀ w ∈ (List.range' 40 20).map cdw, w ∈ lw_tbl :=
  List.forall_mem_cons.mpr ⟨wcX5_isByWater, List.forall_mem_cons.mpr ⟨wcX5_keep, List.forall_mem_cons.mpr ⟨wcX5_differing, List.forall_mem_cons.mpr ⟨wcX5_runAheadOf, List.forall_mem_cons.mpr ⟨wcX5_changedBy, List.forall_mem_cons.mpr ⟨wcX5_wonBy, List.forall_mem_cons.mpr ⟨wcX5_changedByDoubt, List.forall_mem_cons.mpr ⟨wcX6_measure, List.forall_mem_cons.mpr ⟨wcX6_dryParts, List.forall_mem_cons.mpr ⟨wcX6_apartFromFast, List.forall_mem_cons.mpr ⟨wcX6_apartFromOldWater, List.forall_mem_cons.mpr ⟨wcX6_sortParts, List.forall_mem_cons.mpr ⟨wcX6_gather, List.forall_mem_cons.mpr ⟨wcX6_partIsByFast, List.forall_mem_cons.mpr ⟨wcX6_settleShore, List.forall_mem_cons.mpr ⟨wcX6_settleIsle, List.forall_mem_cons.mpr ⟨wcX6_fastNearestTo, List.forall_mem_cons.mpr ⟨wcX7_land, List.forall_mem_cons.mpr ⟨wcX7_water, List.forall_mem_cons.mpr ⟨wcX7_sheet, (fun _ h => absurd h List.not_mem_nil)⟩⟩⟩⟩⟩⟩⟩⟩⟩⟩⟩⟩⟩⟩⟩⟩⟩⟩⟩⟩
set_option maxRecDepth 100000 in
theorem cdw_3 : ∀ w ∈ (List.range' 60 20).map cdw, w ∈ lw_tbl :=
  List.forall_mem_cons.mpr ⟨wcX7_map, List.forall_mem_cons.mpr ⟨wcX7_own, List.forall_mem_cons.mpr ⟨wcX7_deed, List.forall_mem_cons.mpr ⟨wcX7_strike, List.forall_mem_cons.mpr ⟨wcX7_law, List.forall_mem_cons.mpr ⟨wcX7_reach, List.forall_mem_cons.mpr ⟨wcX7_judge, List.forall_mem_cons.mpr ⟨wcX7_count, List.forall_mem_cons.mpr ⟨wcX7_wet, List.forall_mem_cons.mpr ⟨wcX7_owner, List.forall_mem_cons.mpr ⟨wcX7_area, List.forall_mem_cons.mpr ⟨wcX7_front, List.forall_mem_cons.mpr ⟨wcX7_tax, List.forall_mem_cons.mpr ⟨wcX7_chain, List.forall_mem_cons.mpr ⟨wcX7_banks, List.forall_mem_cons.mpr ⟨wcX7_step, List.forall_mem_cons.mpr ⟨wcX7_moved, List.forall_mem_cons.mpr ⟨wcX7_doubt, List.forall_mem_cons.mpr ⟨wcX7_weak, List.forall_mem_cons.mpr ⟨wcX7_row, (fun _ h => absurd h List.not_mem_nil)⟩⟩⟩⟩⟩⟩⟩⟩⟩⟩⟩⟩⟩⟩⟩⟩⟩⟩⟩⟩
set_option maxRecDepth 100000 in
theorem cdw_4 : ∀ w ∈ (List.range' 80 20).map cdw, w ∈ lw_tbl :=
  List.forall_mem_cons.mpr ⟨wcX7_tell, List.forall_mem_cons.mpr ⟨wcX7_isBetween, List.forall_mem_cons.mpr ⟨wcX7_isYear, List.forall_mem_cons.mpr ⟨wcX7_isOwner, List.forall_mem_cons.mpr ⟨wcX7_isOwnerOrNone, List.forall_mem_cons.mpr ⟨wcX8_thrown, List.forall_mem_cons.mpr ⟨wcX8_in, List.forall_mem_cons.mpr ⟨wcX8_refuse, List.forall_mem_cons.mpr ⟨wcX8_lays, List.forall_mem_cons.mpr ⟨wcX8_isCell, List.forall_mem_cons.mpr ⟨wcX8_isYear, List.forall_mem_cons.mpr ⟨wcX8_cell, List.forall_mem_cons.mpr ⟨wcX8_land, List.forall_mem_cons.mpr ⟨wcX8_rowOf, List.forall_mem_cons.mpr ⟨wcX8_water, List.forall_mem_cons.mpr ⟨wcX8_sheet, List.forall_mem_cons.mpr ⟨wcX8_map, List.forall_mem_cons.mpr ⟨wcX8_isBox, List.forall_mem_cons.mpr ⟨wcX8_isInBox, List.forall_mem_cons.mpr ⟨wcX8_own, (fun _ h => absurd h List.not_mem_nil)⟩⟩⟩⟩⟩⟩⟩⟩⟩⟩⟩⟩⟩⟩⟩⟩⟩⟩⟩⟩
set_option maxRecDepth 100000 in
theorem cdw_5 : ∀ w ∈ (List.range' 100 20).map cdw, w ∈ lw_tbl :=
  List.forall_mem_cons.mpr ⟨wcX8_deed, List.forall_mem_cons.mpr ⟨wcX8_strike, List.forall_mem_cons.mpr ⟨wcX8_law, List.forall_mem_cons.mpr ⟨wcX8_reach, List.forall_mem_cons.mpr ⟨wcX8_isStep, List.forall_mem_cons.mpr ⟨wcX8_judge, List.forall_mem_cons.mpr ⟨wcX8_count, List.forall_mem_cons.mpr ⟨wcX8_mapIn, List.forall_mem_cons.mpr ⟨wcX8_isWet, List.forall_mem_cons.mpr ⟨wcX8_isOn, List.forall_mem_cons.mpr ⟨wcX8_wet, List.forall_mem_cons.mpr ⟨wcX8_kinds, List.forall_mem_cons.mpr ⟨wcX8_apart, List.forall_mem_cons.mpr ⟨wcX8_away, List.forall_mem_cons.mpr ⟨wcX8_kindsOf, List.forall_mem_cons.mpr ⟨wcX8_far, List.forall_mem_cons.mpr ⟨wcX8_isSudden, List.forall_mem_cons.mpr ⟨wcX8_findsParts, List.forall_mem_cons.mpr ⟨wcX8_nearest, List.forall_mem_cons.mpr ⟨wcX8_awayFromPart, (fun _ h => absurd h List.not_mem_nil)⟩⟩⟩⟩⟩⟩⟩⟩⟩⟩⟩⟩⟩⟩⟩⟩⟩⟩⟩⟩
set_option maxRecDepth 100000 in
theorem cdw_6 : ∀ w ∈ (List.range' 120 20).map cdw, w ∈ lw_tbl :=
  List.forall_mem_cons.mpr ⟨wcX8_nearestToPart, List.forall_mem_cons.mpr ⟨wcX8_lawIn, List.forall_mem_cons.mpr ⟨wcX8_steps, List.forall_mem_cons.mpr ⟨wcX8_begins, List.forall_mem_cons.mpr ⟨wcX8_stepIn, List.forall_mem_cons.mpr ⟨wcX8_deedsIn, List.forall_mem_cons.mpr ⟨wcX8_goes, List.forall_mem_cons.mpr ⟨wcX8_upTo, List.forall_mem_cons.mpr ⟨wcX8_owner, List.forall_mem_cons.mpr ⟨wcX8_areaOn, List.forall_mem_cons.mpr ⟨wcX8_isAsked, List.forall_mem_cons.mpr ⟨wcX8_area, List.forall_mem_cons.mpr ⟨wcX8_isByWater, List.forall_mem_cons.mpr ⟨wcX8_front, List.forall_mem_cons.mpr ⟨wcX8_tax, List.forall_mem_cons.mpr ⟨wcX8_chain, List.forall_mem_cons.mpr ⟨wcX8_banks, List.forall_mem_cons.mpr ⟨wcX8_walks, List.forall_mem_cons.mpr ⟨wcX8_shores, List.forall_mem_cons.mpr ⟨wcX8_step, (fun _ h => absurd h List.not_mem_nil)⟩⟩⟩⟩⟩⟩⟩⟩⟩⟩⟩⟩⟩⟩⟩⟩⟩⟩⟩⟩
set_option maxRecDepth 100000 in
theorem cdw_7 : ∀ w ∈ (List.range' 140 6).map cdw, w ∈ lw_tbl :=
  List.forall_mem_cons.mpr ⟨wcX8_moved, List.forall_mem_cons.mpr ⟨wcX8_unlike, List.forall_mem_cons.mpr ⟨wcX8_doubt, List.forall_mem_cons.mpr ⟨wcX8_weak, List.forall_mem_cons.mpr ⟨wcX8_row, List.forall_mem_cons.mpr ⟨wcJ7_fill_53178, (fun _ h => absurd h List.not_mem_nil)⟩⟩⟩⟩⟩⟩
theorem cdw_all {j : Nat} (h : j < 146) : cdw j ∈ lw_tbl := by
  rcases (show (0 ≤ j ∧ j < 20) ∨ (20 ≤ j ∧ j < 40) ∨ (40 ≤ j ∧ j < 60) ∨ (60 ≤ j ∧ j < 80) ∨ (80 ≤ j ∧ j < 100) ∨ (100 ≤ j ∧ j < 120) ∨ (120 ≤ j ∧ j < 140) ∨ (140 ≤ j ∧ j < 146) by omega) with q | q | q | q | q | q | q | q
  · exact cdw_0 _ (List.mem_map_of_mem (List.mem_range'_1.mpr (by omega)))
  · exact cdw_1 _ (List.mem_map_of_mem (List.mem_range'_1.mpr (by omega)))
  · exact cdw_2 _ (List.mem_map_of_mem (List.mem_range'_1.mpr (by omega)))
  · exact cdw_3 _ (List.mem_map_of_mem (List.mem_range'_1.mpr (by omega)))
  · exact cdw_4 _ (List.mem_map_of_mem (List.mem_range'_1.mpr (by omega)))
  · exact cdw_5 _ (List.mem_map_of_mem (List.mem_range'_1.mpr (by omega)))
  · exact cdw_6 _ (List.mem_map_of_mem (List.mem_range'_1.mpr (by omega)))
  · exact cdw_7 _ (List.mem_map_of_mem (List.mem_range'_1.mpr (by omega)))
end
section
/-! THE SMALL MACHINE: numbers, cells by group and place, a step as what must hold ahead of it -/
abbrev mI (x : Int32) : mV := .inl x
abbrev mJ (x : Int64) : mV := .inr (.inl x)
abbrev mR (g i : Nat) : mV := .inr (.inr (g, i))
/-- what a method that throws answers -/
abbrev mThr : mV := mR 999 0
/-- the cell (g, i) now holds f -/
def mput (σ : mS) (g i : Nat) (f : Nat → Int32) : mS := fun g' i' => if g' = g ∧ i' = i then f else σ g' i'
theorem mput_eq (σ : mS) (g i : Nat) (f : Nat → Int32) : mput σ g i f g i = f := by simp [mput]
theorem mput_ne (σ : mS) (g i : Nat) (f : Nat → Int32) {g' i' : Nat} (h : g' ≠ g ∨ i' ≠ i) : mput σ g i f g' i' = σ g' i' := by
  unfold mput
  rw [if_neg]
  rintro ⟨h1, h2⟩
  rcases h with h | h
  · exact h h1
  · exact h h2
theorem mput_ng (σ : mS) (g i : Nat) (f : Nat → Int32) {g' : Nat} (h : g' ≠ g) : mput σ g i f g' = σ g' := by
  funext i'
  exact mput_ne σ g i f (Or.inl h)
theorem mput_mput (σ : mS) (g i : Nat) (f f' : Nat → Int32) : mput (mput σ g i f) g i f' = mput σ g i f' := by
  funext g' i'
  unfold mput
  split <;> rfl
theorem mput_self (σ : mS) (g i : Nat) : mput σ g i (σ g i) = σ := by
  funext g' i'
  unfold mput
  split
  next h => rw [h.1, h.2]
  next => rfl
theorem mput_comm (σ : mS) (g i g' i' : Nat) (f f' : Nat → Int32) (h : g ≠ g' ∨ i ≠ i') : mput (mput σ g i f) g' i' f' = mput (mput σ g' i' f') g i f := by
  funext a b
  unfold mput
  by_cases h1 : a = g ∧ b = i <;> by_cases h2 : a = g' ∧ b = i'
  · exfalso
    rcases h with h | h
    · exact h (h1.1.symm.trans h2.1)
    · exact h (h1.2.symm.trans h2.2)
  · rw [if_neg h2, if_pos h1, if_pos h1]
  · rw [if_pos h2, if_neg h1, if_pos h2]
  · rw [if_neg h2, if_neg h1, if_neg h1, if_neg h2]
/-- a local gets a value; a long that ended there is gone -/
def mdrop1 (L : mL) (i : Nat) : mL := match L[i]? with
  | some (some (.inr (.inl _))) => L.set i none
  | _ => L
def mdrop (L : mL) : Nat → mL
  | 0 => L
  | i + 1 => mdrop1 L i
def mst (L : mL) (i : Nat) (v : mV) : mL := (mdrop L i).set i (some v)
/-- the locals at the entry -/
def mlv : List mV → mL
  | [] => []
  | .inr (.inl x) :: r => some (.inr (.inl x)) :: none :: mlv r
  | v :: r => some v :: mlv r
def mini (n : Nat) (a : List mV) : mL := mlv a ++ List.replicate (n - (mlv a).length) none
def k1 (st : List mV) (K : Int32 → List mV → Prop) : Prop := match st with
  | .inl x :: r => K x r
  | _ => False
def k2 (st : List mV) (K : Int32 → Int32 → List mV → Prop) : Prop := match st with
  | .inl y :: .inl x :: r => K x y r
  | _ => False
/-- an index and an array of numbers below it -/
def kA (st : List mV) (b : Bool) (K : Nat → Nat → Nat → Int32 → List mV → Prop) : Prop := match st with
  | .inl j :: .inr (.inr (g, i)) :: r => match shp g with
    | some (.inr (.inl (b', n))) => bif Bool.xor b' b then False else K g i n j r
    | _ => False
  | _ => False
def kS (st : List mV) (b : Bool) (K : Nat → Nat → Nat → Int32 → Int32 → List mV → Prop) : Prop := match st with
  | .inl v :: st => kA st b (fun g i n j r => K g i n j v r)
  | _ => False
def kO (st : List mV) (K : Nat → Nat → Nat → List (Option Nat) → List mV → Prop) : Prop := match st with
  | .inr (.inr (g, i)) :: r => match shp g with
    | some (.inl (c, fs)) => K g i c fs r
    | _ => False
  | _ => False
def kop {α : Type} (o : Option α) (K : α → Prop) : Prop := match o with
  | some v => K v
  | none => False
def kiv (v : mV) (K : Int32 → Prop) : Prop := match v with
  | .inl x => K x
  | _ => False
def kjv (v : mV) (K : Int64 → Prop) : Prop := match v with
  | .inr (.inl x) => K x
  | _ => False
def krv (v : mV) (K : Nat × Nat → Prop) : Prop := match v with
  | .inr (.inr x) => K x
  | _ => False
def kR (st : List mV) (K : Nat × Nat → List mV → Prop) : Prop := match st with
  | .inr (.inr x) :: r => K x r
  | _ => False
def kJJ (st : List mV) (K : Int64 → Int64 → List mV → Prop) : Prop := match st with
  | .inr (.inl y) :: .inr (.inl x) :: r => K x y r
  | _ => False
def kr1 (st : List mV) (K : Int32 → Prop) : Prop := match st with
  | [.inl v] => K v
  | _ => False
def kr2 (st : List mV) (K : Nat × Nat → Prop) : Prop := match st with
  | [.inr (.inr x)] => K x
  | _ => False
def kr0 (st : List mV) (K : Prop) : Prop := match st with
  | [] => K
  | _ => False
def kdp (st : List mV) (K : mV → List mV → Prop) : Prop := match st with
  | .inl x :: r => K (.inl x) r
  | .inr (.inr x) :: r => K (.inr (.inr x)) r
  | _ => False
/-- an index and an array of cells below it -/
def kQ (st : List mV) (K : Nat → Nat → Int32 → List mV → Prop) : Prop := match st with
  | .inl j :: .inr (.inr (g, _)) :: r => match shp g with
    | some (.inr (.inr (g', n))) => K g' n j r
    | _ => False
  | _ => False
def kN (st : List mV) (K : Nat → List mV → Prop) : Prop := match st with
  | .inr (.inr (g, _)) :: r => match shp g with
    | some (.inr (.inl (_, n))) => K n r
    | _ => False
  | _ => False
/-- a field of an object: a number, or a cell -/
def kfs (fs : List (Option Nat)) (f : Nat) (K : Prop) (K' : Nat → Prop) : Prop := match fs[f]? with
  | some none => K
  | some (some g') => K' g'
  | none => False
abbrev mE : Type := Nat → List mV → mS → (Option mV → mS → Prop) → Prop
abbrev mK : Type := Nat → mL → List mV → mS → Prop
def kld (L : mL) (i : Nat) (K : mV → Prop) : Prop := match L[i]? with
  | some (some v) => K v
  | _ => False
/-- the words of the stack that a call may leave below its arguments -/
def mwd : List mV → Nat
  | [] => 0
  | .inr (.inl _) :: r => mwd r + 2
  | _ :: r => mwd r + 1
/-- n values off the stack -/
def ktk : Nat → List mV → List mV → (List mV → List mV → Prop) → Prop
  | 0, st, a, K => K a st
  | n + 1, st, a, K => match st with
    | v :: r => ktk n r (v :: a) K
    | [] => False
/-- arraycopy of ints -/
def kcp (st : List mV) (K : Nat → Nat → Nat → Nat → Nat → Nat → Int32 → Int32 → Int32 → Prop) : Prop := match st with
  | [.inl n, .inl dp, .inr (.inr (g', i')), .inl sp, .inr (.inr (g, i))] => match shp g, shp g' with
    | some (.inr (.inl (false, n0))), some (.inr (.inl (false, n1))) => K g i n0 g' i' n1 sp dp n
    | _, _ => False
  | _ => False
/-- the object that is asked is of the method's class -/
def mrcv (a : List mV) (c : Nat) : Bool := match a with
  | .inr (.inr (g, _)) :: _ => match shp g with
    | some (.inl (c', _)) => Nat.beq c' c
    | _ => false
  | _ => false
/-- a call: arraycopy, abs, max, min, or a method of ours with n arguments (the object too) -/
def kcl (E : mE) (stat : Bool) (j n : Nat) (K : mK) (pc : Nat) (L : mL) (st : List mV) (σ : mS) : Prop :=
  bif Nat.beq j 1000 then kcp st (fun g i n0 g' i' n1 sp dp n => (¬ sp < 0 ∧ ¬ dp < 0 ∧ ¬ n < 0 ∧ sp.toNatClampNeg + n.toNatClampNeg ≤ n0 ∧ dp.toNatClampNeg + n.toNatClampNeg ≤ n1) ∧
      K (pc + 3) L [] (mput σ g' i' (va_cpy (σ g i) (σ g' i') sp.toNatClampNeg dp.toNatClampNeg n.toNatClampNeg)))
  else bif Nat.beq j 1001 then k1 st (fun x r => bif Nat.ble (mwd r) 8 then K (pc + 3) L (mI (if 0 ≤ x then x else 0 - x) :: r) σ else False)
  else bif Nat.beq j 1002 then k2 st (fun x y r => bif Nat.ble (mwd r) 8 then K (pc + 3) L (mI (if x < y then y else x) :: r) σ else False)
  else bif Nat.beq j 1003 then k2 st (fun x y r => bif Nat.ble (mwd r) 8 then K (pc + 3) L (mI (if y < x then y else x) :: r) σ else False)
  else ktk n st [] (fun a r => bif Nat.ble (mwd r) 8 && (Nat.ble (mwd a) (mml j) && (stat || mrcv a (mcl j))) then ∃ post : Option mV → mS → Prop, E j a σ post ∧ ∀ v σ', post v σ' → K (pc + 3) L (v.toList ++ r) σ' else False)
def kcall (E : mE) (k : Nat) (stat : Bool) (idx : Nat) (K : mK) (pc : Nat) (L : mL) (st : List mV) (σ : mS) : Prop :=
  kop (mth (mcl k) idx) (fun q => bif Bool.xor q.1 stat then False else kcl E stat q.2.1 (bif stat then q.2.2 else q.2.2 + 1) K pc L st σ)
def kgo (pc : Nat) (off : Int) (K : Nat → Prop) : Prop := K ((pc : Int) + off).toNat ∧ 0 ≤ (pc : Int) + off
def ksw (pc : Nat) (dflt lo hi : Int) (offs : Array Int) (x : Int32) (K : Nat → Prop) : Prop :=
  (x.toInt < lo ∨ hi < x.toInt → kgo pc dflt K) ∧ ∀ n : Nat, ∀ off : Int, offs[n]? = some off → x.toInt = lo + n → kgo pc off K
/-- WHAT MUST HOLD AHEAD OF AN INSTRUCTION, so that K holds behind it -/
def wpi (E : mE) (k : Nat) (post : Option mV → mS → Prop) (K : mK) (pc len tgt : Nat) (cv : Int32) (L : mL) (st : List mV) (σ : mS) : Instr → Prop
  | .iconst n => K (pc + len) L (mI cv :: st) σ
  | .bipush n => K (pc + len) L (mI cv :: st) σ
  | .sipush n => K (pc + len) L (mI cv :: st) σ
  | .lconst n => K (pc + len) L (mJ (Int64.ofNat n.val) :: st) σ
  | .ldc2_w idx => kop (lcn (mcl k) idx) (fun v => K (pc + len) L (mJ v :: st) σ)
  | .iload_n i => kld L i.val (fun v => kiv v (fun x => K (pc + len) L (mI x :: st) σ))
  | .iload i => kld L i (fun v => kiv v (fun x => K (pc + len) L (mI x :: st) σ))
  | .lload_n i => kld L i.val (fun v => kjv v (fun x => K (pc + len) L (mJ x :: st) σ))
  | .lload i => kld L i (fun v => kjv v (fun x => K (pc + len) L (mJ x :: st) σ))
  | .aload_n i => kld L i.val (fun v => krv v (fun x => K (pc + len) L (.inr (.inr x) :: st) σ))
  | .aload i => kld L i (fun v => krv v (fun x => K (pc + len) L (.inr (.inr x) :: st) σ))
  | .istore_n i => k1 st (fun x r => K (pc + len) (mst L i.val (mI x)) r σ)
  | .istore i => k1 st (fun x r => K (pc + len) (mst L i (mI x)) r σ)
  | .astore_n i => kR st (fun x r => K (pc + len) (mst L i.val (.inr (.inr x))) r σ)
  | .iinc i n => kld L i (fun v => kiv v (fun x => K (pc + 3) (mst L i (mI (x + cv))) st σ))
  | .getfield idx => kop (fld (mcl k) idx) (fun cf => kO st (fun g i c' fs r => bif Nat.beq c' cf.1 then kfs fs cf.2 (K (pc + 3) L (mI (σ g i cf.2) :: r) σ) (fun g' => K (pc + 3) L (mR g' i :: r) σ) else False))
  | .putfield idx => kop (fld (mcl k) idx) (fun cf => k1 st (fun v st => kO st (fun g i c' fs r => bif Nat.beq c' cf.1 then kfs fs cf.2 (K (pc + 3) L r (mput σ g i (upd (σ g i) cf.2 v))) (fun _ => False) else False)))
  | .iaload => kA st false (fun g i n j r => vp_in j n ∧ K (pc + len) L (mI (σ g i j.toNatClampNeg) :: r) σ)
  | .baload => kA st true (fun g i n j r => vp_in j n ∧ K (pc + len) L (mI (σ g i j.toNatClampNeg) :: r) σ)
  | .iastore => kS st false (fun g i n j v r => vp_in j n ∧ K (pc + len) L r (mput σ g i (upd (σ g i) j.toNatClampNeg v)))
  | .bastore => kS st true (fun g i n j v r => vp_in j n ∧ K (pc + len) L r (mput σ g i (upd (σ g i) j.toNatClampNeg (v &&& 1))))
  | .aaload => kQ st (fun g' n j r => vp_in j n ∧ K (pc + len) L (mR g' j.toNatClampNeg :: r) σ)
  | .arraylength => kN st (fun n r => K (pc + len) L (mI (Int32.ofNat n) :: r) σ)
  | .iadd => k2 st (fun x y r => K (pc + len) L (mI (x + y) :: r) σ)
  | .isub => k2 st (fun x y r => K (pc + len) L (mI (x - y) :: r) σ)
  | .imul => k2 st (fun x y r => K (pc + len) L (mI (x * y) :: r) σ)
  | .idiv => k2 st (fun x y r => ¬ y = 0 ∧ K (pc + len) L (mI (x / y) :: r) σ)
  | .irem => k2 st (fun x y r => ¬ y = 0 ∧ K (pc + len) L (mI (x - x / y * y) :: r) σ)
  | .iand => k2 st (fun x y r => K (pc + len) L (mI (x &&& y) :: r) σ)
  | .ishr => k2 st (fun x y r => K (pc + len) L (mI (x >>> (y &&& 31)) :: r) σ)
  | .i2l => k1 st (fun x r => K (pc + len) L (mJ x.toInt64 :: r) σ)
  | .lcmp => kJJ st (fun x y r => K (pc + len) L (mI (lg_cmp x y) :: r) σ)
  | .dup => kdp st (fun v r => K (pc + len) L (v :: v :: r) σ)
  | .pop => k1 st (fun _ r => K (pc + len) L r σ)
  | .goto off => K tgt L st σ
  | .ifCond .eq off => k1 st (fun x r => (x = 0 → K tgt L r σ) ∧ (¬ x = 0 → K (pc + 3) L r σ))
  | .ifCond .ne off => k1 st (fun x r => (¬ x = 0 → K tgt L r σ) ∧ (x = 0 → K (pc + 3) L r σ))
  | .ifCond .lt off => k1 st (fun x r => (x < 0 → K tgt L r σ) ∧ (¬ x < 0 → K (pc + 3) L r σ))
  | .ifCond .ge off => k1 st (fun x r => (0 ≤ x → K tgt L r σ) ∧ (¬ 0 ≤ x → K (pc + 3) L r σ))
  | .ifCond .gt off => k1 st (fun x r => (0 < x → K tgt L r σ) ∧ (¬ 0 < x → K (pc + 3) L r σ))
  | .ifCond .le off => k1 st (fun x r => (x ≤ 0 → K tgt L r σ) ∧ (¬ x ≤ 0 → K (pc + 3) L r σ))
  | .if_icmp .eq off => k2 st (fun x y r => (x = y → K tgt L r σ) ∧ (¬ x = y → K (pc + 3) L r σ))
  | .if_icmp .ne off => k2 st (fun x y r => (¬ x = y → K tgt L r σ) ∧ (x = y → K (pc + 3) L r σ))
  | .if_icmp .lt off => k2 st (fun x y r => (x < y → K tgt L r σ) ∧ (¬ x < y → K (pc + 3) L r σ))
  | .if_icmp .ge off => k2 st (fun x y r => (y ≤ x → K tgt L r σ) ∧ (¬ y ≤ x → K (pc + 3) L r σ))
  | .if_icmp .gt off => k2 st (fun x y r => (y < x → K tgt L r σ) ∧ (¬ y < x → K (pc + 3) L r σ))
  | .if_icmp .le off => k2 st (fun x y r => (x ≤ y → K tgt L r σ) ∧ (¬ x ≤ y → K (pc + 3) L r σ))
  | .tableswitch dflt lo hi offs => k1 st (fun x r => ksw pc dflt lo hi offs x (fun t => K t L r σ))
  | .invokevirtual idx => kcall E k false idx K pc L st σ
  | .invokestatic idx => kcall E k true idx K pc L st σ
  | .ireturn => kr1 st (fun v => post (some (mI (bif Nat.beq (mrt k) 2 then v &&& 1 else v))) σ)
  | .areturn => kr2 st (fun x => post (some (.inr (.inr x))) σ)
  | .return_ => kr0 st (post none σ)
  | .new _ => kr0 st (post (some mThr) σ)
  | _ => False
def mstep (E : mE) (k : Nat) (post : Option mV → mS → Prop) (K : mK) : mK := fun pc L st σ => match cod k pc with
  | some (i, len, tgt, cv, _) => wpi E k post K pc len tgt cv L st σ i
  | none => False
/-- up to n instructions, to the next beginning of a loop -/
def mgo (E : mE) (k : Nat) (post : Option mV → mS → Prop) (G : mK) : Nat → mK
  | 0 => G
  | n + 1 => fun pc L st σ => match cod k pc with
    | some (i, len, tgt, cv, hd) => bif hd then G pc L st σ else wpi E k post (mgo E k post G n) pc len tgt cv L st σ i
    | none => False
/-- G is closed under the method's instructions -/
def mCl (E : mE) (k : Nat) (post : Option mV → mS → Prop) (G : mK) : Prop := ∀ pc L st σ, mstep E k post G pc L st σ → G pc L st σ
/-- a method, from arguments and cells: it ends, and post holds -/
def mEc (E : mE) : Prop := ∀ k a σ post, (∀ G, mCl E k post G → G 0 (mini (mml k) a) [] σ) → E k a σ post
def Ev : mE := fun k a σ post => ∀ E, mEc E → E k a σ post
end
section
/-! THE SMALL MACHINE: what follows of its words alone -/
theorem k1_mono {st : List mV} {K K' : Int32 → List mV → Prop} (h : ∀ x r, K x r → K' x r) : k1 st K → k1 st K' := by
  unfold k1
  split
  · exact h _ _
  · exact id
theorem k2_mono {st : List mV} {K K' : Int32 → Int32 → List mV → Prop} (h : ∀ x y r, K x y r → K' x y r) : k2 st K → k2 st K' := by
  unfold k2
  split
  · exact h _ _ _
  · exact id
theorem bif_mono {b : Bool} {A A' B B' : Prop} (ha : A → A') (hb : B → B') : (bif b then A else B) → (bif b then A' else B') := by
  cases b
  · exact hb
  · exact ha
theorem kA_mono {st : List mV} {b : Bool} {K K' : Nat → Nat → Nat → Int32 → List mV → Prop} (h : ∀ g i n j r, K g i n j r → K' g i n j r) : kA st b K → kA st b K' := by
  unfold kA
  split
  · split
    · exact bif_mono id (h _ _ _ _ _)
    · exact id
  · exact id
theorem kS_mono {st : List mV} {b : Bool} {K K' : Nat → Nat → Nat → Int32 → Int32 → List mV → Prop} (h : ∀ g i n j v r, K g i n j v r → K' g i n j v r) : kS st b K → kS st b K' := by
  unfold kS
  split
  · exact kA_mono (fun _ _ _ _ _ => h _ _ _ _ _ _)
  · exact id
theorem kO_mono {st : List mV} {K K' : Nat → Nat → Nat → List (Option Nat) → List mV → Prop} (h : ∀ g i c fs r, K g i c fs r → K' g i c fs r) : kO st K → kO st K' := by
  unfold kO
  split
  · split
    · exact h _ _ _ _ _
    · exact id
  · exact id
theorem kop_mono {α : Type} {o : Option α} {K K' : α → Prop} (h : ∀ v, K v → K' v) : kop o K → kop o K' := by
  unfold kop
  split
  · exact h _
  · exact id
theorem kiv_mono {v : mV} {K K' : Int32 → Prop} (h : ∀ v, K v → K' v) : kiv v K → kiv v K' := by
  unfold kiv
  split
  · exact h _
  · exact id
theorem kjv_mono {v : mV} {K K' : Int64 → Prop} (h : ∀ v, K v → K' v) : kjv v K → kjv v K' := by
  unfold kjv
  split
  · exact h _
  · exact id
theorem krv_mono {v : mV} {K K' : Nat × Nat → Prop} (h : ∀ v, K v → K' v) : krv v K → krv v K' := by
  unfold krv
  split
  · exact h _
  · exact id
theorem kR_mono {st : List mV} {K K' : Nat × Nat → List mV → Prop} (h : ∀ x r, K x r → K' x r) : kR st K → kR st K' := by
  unfold kR
  split
  · exact h _ _
  · exact id
theorem kJJ_mono {st : List mV} {K K' : Int64 → Int64 → List mV → Prop} (h : ∀ x y r, K x y r → K' x y r) : kJJ st K → kJJ st K' := by
  unfold kJJ
  split
  · exact h _ _ _
  · exact id
theorem kr1_mono {st : List mV} {K K' : Int32 → Prop} (h : ∀ x, K x → K' x) : kr1 st K → kr1 st K' := by
  unfold kr1
  split
  · exact h _
  · exact id
theorem kr2_mono {st : List mV} {K K' : Nat × Nat → Prop} (h : ∀ x, K x → K' x) : kr2 st K → kr2 st K' := by
  unfold kr2
  split
  · exact h _
  · exact id
theorem kr0_mono {st : List mV} {K K' : Prop} (h : K → K') : kr0 st K → kr0 st K' := by
  unfold kr0
  split
  · exact h
  · exact id
theorem kdp_mono {st : List mV} {K K' : mV → List mV → Prop} (h : ∀ x r, K x r → K' x r) : kdp st K → kdp st K' := by
  unfold kdp
  split
  · exact h _ _
  · exact h _ _
  · exact id
theorem kQ_mono {st : List mV} {K K' : Nat → Nat → Int32 → List mV → Prop} (h : ∀ g n j r, K g n j r → K' g n j r) : kQ st K → kQ st K' := by
  unfold kQ
  split
  · split
    · exact h _ _ _ _
    · exact id
  · exact id
theorem kN_mono {st : List mV} {K K' : Nat → List mV → Prop} (h : ∀ n r, K n r → K' n r) : kN st K → kN st K' := by
  unfold kN
  split
  · split
    · exact h _ _
    · exact id
  · exact id
theorem kfs_mono {fs : List (Option Nat)} {f : Nat} {K K1 : Prop} {K' K1' : Nat → Prop} (h : K → K1) (h' : ∀ g, K' g → K1' g) : kfs fs f K K' → kfs fs f K1 K1' := by
  unfold kfs
  split
  · exact h
  · exact h' _
  · exact id
theorem kcp_mono {st : List mV} {K K' : Nat → Nat → Nat → Nat → Nat → Nat → Int32 → Int32 → Int32 → Prop} (h : ∀ a b c d e f g i j, K a b c d e f g i j → K' a b c d e f g i j) : kcp st K → kcp st K' := by
  unfold kcp
  split
  · split
    · exact h _ _ _ _ _ _ _ _ _
    · exact id
  · exact id
theorem kld_mono {L : mL} {i : Nat} {K K' : mV → Prop} (h : ∀ v, K v → K' v) : kld L i K → kld L i K' := by
  unfold kld
  split
  · exact h _
  · exact id
theorem kgo_mono {pc : Nat} {off : Int} {K K' : Nat → Prop} (h : ∀ t, K t → K' t) : kgo pc off K → kgo pc off K' := fun q => ⟨h _ q.1, q.2⟩
theorem ksw_mono {pc : Nat} {d lo hi : Int} {offs : Array Int} {x : Int32} {K K' : Nat → Prop} (h : ∀ t, K t → K' t) : ksw pc d lo hi offs x K → ksw pc d lo hi offs x K' :=
  fun q => ⟨fun a => kgo_mono h (q.1 a), fun n off a b => kgo_mono h (q.2 n off a b)⟩
theorem br_mono {c A A' B B' : Prop} (ha : A → A') (hb : B → B') : (c → A) ∧ (¬ c → B) → (c → A') ∧ (¬ c → B') := fun h => ⟨fun q => ha (h.1 q), fun q => hb (h.2 q)⟩
theorem br_mono' {c A A' B B' : Prop} (ha : A → A') (hb : B → B') : (¬ c → A) ∧ (c → B) → (¬ c → A') ∧ (c → B') := fun h => ⟨fun q => ha (h.1 q), fun q => hb (h.2 q)⟩
theorem ktk_mono {K K' : List mV → List mV → Prop} (h : ∀ a r, K a r → K' a r) : ∀ (n : Nat) (st a : List mV), ktk n st a K → ktk n st a K'
  | 0, _, _ => h _ _
  | n + 1, v :: r, a => ktk_mono h n r (v :: a)
  | n + 1, [], _ => id
theorem kcl_mono {E E' : mE} {stat : Bool} {j n : Nat} {K K' : mK} {pc : Nat} {L : mL} {st : List mV} {σ : mS} (hE : ∀ j a σ p, E j a σ p → E' j a σ p) (hK : ∀ pc L st σ, K pc L st σ → K' pc L st σ) : kcl E stat j n K pc L st σ → kcl E' stat j n K' pc L st σ := by
  unfold kcl
  refine bif_mono (kcp_mono (fun _ _ _ _ _ _ _ _ _ q => ⟨q.1, hK _ _ _ _ q.2⟩)) (bif_mono (k1_mono (fun _ _ => bif_mono (hK _ _ _ _) id)) (bif_mono (k2_mono (fun _ _ _ => bif_mono (hK _ _ _ _) id)) (bif_mono (k2_mono (fun _ _ _ => bif_mono (hK _ _ _ _) id)) ?_)))
  refine ktk_mono (fun a r => bif_mono ?_ id) n st []
  rintro ⟨p, h3, h4⟩
  exact ⟨p, hE _ _ _ _ h3, fun r σ' q => hK _ _ _ _ (h4 r σ' q)⟩
theorem kcall_mono {E E' : mE} {k : Nat} {stat : Bool} {idx : Nat} {K K' : mK} {pc : Nat} {L : mL} {st : List mV} {σ : mS} (hE : ∀ j a σ p, E j a σ p → E' j a σ p) (hK : ∀ pc L st σ, K pc L st σ → K' pc L st σ) : kcall E k stat idx K pc L st σ → kcall E' k stat idx K' pc L st σ :=
  kop_mono (fun _ => bif_mono id (kcl_mono hE hK))
set_option maxHeartbeats 2000000 in
theorem wpi_mono {E E' : mE} {k : Nat} {post post' : Option mV → mS → Prop} {K K' : mK} (hE : ∀ j a σ p, E j a σ p → E' j a σ p) (hp : ∀ r σ, post r σ → post' r σ) (hK : ∀ pc L st σ, K pc L st σ → K' pc L st σ) (pc len tgt : Nat) (cv : Int32) (L : mL) (st : List mV) (σ : mS) (i : Instr) :
    wpi E k post K pc len tgt cv L st σ i → wpi E' k post' K' pc len tgt cv L st σ i := by
  cases i with
  | ifCond c off => cases c <;> exact k1_mono (fun _ _ => by first | exact br_mono (hK _ _ _ _) (hK _ _ _ _) | exact br_mono' (hK _ _ _ _) (hK _ _ _ _))
  | if_icmp c off => cases c <;> exact k2_mono (fun _ _ _ => by first | exact br_mono (hK _ _ _ _) (hK _ _ _ _) | exact br_mono' (hK _ _ _ _) (hK _ _ _ _))
  | goto off => exact hK _ _ _ _
  | tableswitch d lo hi offs => exact k1_mono (fun _ _ => ksw_mono (fun _ => hK _ _ _ _))
  | invokevirtual idx => exact kcall_mono hE hK
  | invokestatic idx => exact kcall_mono hE hK
  | ireturn => exact kr1_mono (fun _ => hp _ _)
  | areturn => exact kr2_mono (fun _ => hp _ _)
  | return_ => exact kr0_mono (hp _ _)
  | new idx => exact kr0_mono (hp _ _)
  | ldc2_w idx => exact kop_mono (fun _ => hK _ _ _ _)
  | iload_n i => exact kld_mono (fun v => kiv_mono (fun _ => hK _ _ _ _))
  | iload i => exact kld_mono (fun v => kiv_mono (fun _ => hK _ _ _ _))
  | lload_n i => exact kld_mono (fun v => kjv_mono (fun _ => hK _ _ _ _))
  | lload i => exact kld_mono (fun v => kjv_mono (fun _ => hK _ _ _ _))
  | aload_n i => exact kld_mono (fun v => krv_mono (fun _ => hK _ _ _ _))
  | aload i => exact kld_mono (fun v => krv_mono (fun _ => hK _ _ _ _))
  | istore_n i => exact k1_mono (fun _ _ => hK _ _ _ _)
  | istore i => exact k1_mono (fun _ _ => hK _ _ _ _)
  | astore_n i => exact kR_mono (fun _ _ => hK _ _ _ _)
  | iinc i n => exact kld_mono (fun v => kiv_mono (fun _ => hK _ _ _ _))
  | getfield idx => exact kop_mono (fun _ => kO_mono (fun g i c fs r => bif_mono (kfs_mono (hK _ _ _ _) (fun _ => hK _ _ _ _)) id))
  | putfield idx => exact kop_mono (fun _ => k1_mono (fun _ _ => kO_mono (fun g i c fs r => bif_mono (kfs_mono (hK _ _ _ _) (fun _ => id)) id)))
  | iaload => exact kA_mono (fun _ _ _ _ _ h => ⟨h.1, hK _ _ _ _ h.2⟩)
  | baload => exact kA_mono (fun _ _ _ _ _ h => ⟨h.1, hK _ _ _ _ h.2⟩)
  | iastore => exact kS_mono (fun _ _ _ _ _ _ h => ⟨h.1, hK _ _ _ _ h.2⟩)
  | bastore => exact kS_mono (fun _ _ _ _ _ _ h => ⟨h.1, hK _ _ _ _ h.2⟩)
  | aaload => exact kQ_mono (fun _ _ _ _ h => ⟨h.1, hK _ _ _ _ h.2⟩)
  | arraylength => exact kN_mono (fun _ _ => hK _ _ _ _)
  | idiv => exact k2_mono (fun _ _ _ h => ⟨h.1, hK _ _ _ _ h.2⟩)
  | irem => exact k2_mono (fun _ _ _ h => ⟨h.1, hK _ _ _ _ h.2⟩)
  | lcmp => exact kJJ_mono (fun _ _ _ => hK _ _ _ _)
  | dup => exact kdp_mono (K := fun v r => K (pc + len) L (v :: v :: r) σ) (K' := fun v r => K' (pc + len) L (v :: v :: r) σ) (fun _ _ => hK _ _ _ _)
  | _ => first | exact hK _ _ _ _ | exact k1_mono (fun _ _ => hK _ _ _ _) | exact k2_mono (fun _ _ _ => hK _ _ _ _) | exact id
theorem mstep_mono {E E' : mE} {k : Nat} {post post' : Option mV → mS → Prop} {K K' : mK} (hE : ∀ j a σ p, E j a σ p → E' j a σ p) (hp : ∀ r σ, post r σ → post' r σ) (hK : ∀ pc L st σ, K pc L st σ → K' pc L st σ) (pc : Nat) (L : mL) (st : List mV) (σ : mS) :
    mstep E k post K pc L st σ → mstep E' k post' K' pc L st σ := by
  unfold mstep
  split
  · exact wpi_mono hE hp hK _ _ _ _ _ _ _ _
  · exact id
theorem mgo_G {E : mE} {k : Nat} {post : Option mV → mS → Prop} {G : mK} (hG : mCl E k post G) : ∀ (n : Nat) (pc : Nat) (L : mL) (st : List mV) (σ : mS), mgo E k post G n pc L st σ → G pc L st σ
  | 0, _, _, _, _, h => h
  | n + 1, pc, L, st, σ, h => by
    unfold mgo at h
    cases hc : cod k pc with
    | none => rw [hc] at h; exact h.elim
    | some x =>
      obtain ⟨i, len, tgt, cv, hd⟩ := x
      rw [hc] at h
      cases hd with
      | true => exact h
      | false =>
        refine hG pc L st σ ?_
        unfold mstep
        rw [hc]
        exact wpi_mono (fun _ _ _ _ q => q) (fun _ _ q => q) (mgo_G hG n) _ _ _ _ _ _ _ _ h
/-- on from here to the next beginning of a loop, a call, a branch, the end -/
theorem mCl.run {E : mE} {k : Nat} {post : Option mV → mS → Prop} {G : mK} (hG : mCl E k post G) {pc : Nat} {L : mL} {st : List mV} {σ : mS} (h : mstep E k post (mgo E k post G 400) pc L st σ) : G pc L st σ :=
  hG _ _ _ _ (mstep_mono (fun _ _ _ _ q => q) (fun _ _ q => q) (mgo_G hG 400) _ _ _ _ h)
theorem Ev.intro {k : Nat} {a : List mV} {σ : mS} {post : Option mV → mS → Prop} (h : ∀ G, mCl Ev k post G → G 0 (mini (mml k) a) [] σ) : Ev k a σ post := by
  intro E hE
  refine hE k a σ post fun G hG => h G fun pc L st σ hs => hG pc L st σ ?_
  exact mstep_mono (fun j a σ p hv => hv E hE) (fun _ _ q => q) (fun _ _ _ _ q => q) _ _ _ _ hs
theorem Ev.mono {k : Nat} {a : List mV} {σ : mS} {post post' : Option mV → mS → Prop} (h : Ev k a σ post) (hp : ∀ r σ, post r σ → post' r σ) : Ev k a σ post' := by
  intro E hE
  refine h (fun k a σ p => ∀ p', (∀ r σ, p r σ → p' r σ) → E k a σ p') ?_ post' hp
  intro k a σ p hc p' hpp
  refine hE k a σ p' fun G hG => hc G fun pc L st σ hs => hG pc L st σ ?_
  exact mstep_mono (fun j a σ q hv => hv q (fun _ _ z => z)) hpp (fun _ _ _ _ q => q) _ _ _ _ hs
end
section
/-! THE SMALL MACHINE's CELLS IN THE REAL HEAP -/
def mval (ad : Nat → Nat → Nat) : mV → Value
  | .inl x => .int x
  | .inr (.inl x) => .long x
  | .inr (.inr q) => .ref (ad q.1 q.2)
def mfd (ad : Nat → Nat → Nat) (i : Nat) (f : Nat → Int32) (fs : List (Option Nat)) : List Value := fs.mapIdx (fun j o => match o with
  | none => Value.int (f j)
  | some g' => Value.ref (ad g' i))
def mcell (ad : Nat → Nat → Nat) (cI cZ cL : ClassId) (g i : Nat) (f : Nat → Int32) : va_E := match shp g with
  | some (.inl (c, fs)) => .inr (c, mfd ad i f fs)
  | some (.inr (.inl (b, n))) => .inl (bif b then cZ else cI, n, .inl f)
  | some (.inr (.inr (g', n))) => .inl (cL, n, .inr (.inr (.inr (.inr (fun j => some (ad g' j))))))
  | none => .inr (0, [])
def wld (ad : Nat → Nat → Nat) (cI cZ cL : ClassId) (b : Bool) (σ : mS) : va_W := (mcs b).map (fun q => (ad q.1 q.2, mcell ad cI cZ cL q.1 q.2 (σ q.1 q.2)))
abbrev mtys (cI cZ cL : ClassId) : List (ClassId × FieldType) := [(cI, .int), (cZ, .boolean), (cL, .object RX4)]
def vok (b : Bool) : mV → Prop
  | .inl _ => True
  | .inr (.inl _) => True
  | .inr (.inr q) => q ∈ mcs b
section WLD
variable {ad : Nat → Nat → Nat} {cI cZ cL : ClassId} {b : Bool} {σ : mS}
theorem wld_at {g i : Nat} (h : (g, i) ∈ mcs b) : ∃ q0 : Nat, (mcs b)[q0]? = some (g, i) ∧ (wld ad cI cZ cL b σ)[q0]? = some (ad g i, mcell ad cI cZ cL g i (σ g i)) := by
  obtain ⟨q0, hq⟩ := List.getElem?_of_mem h
  exact ⟨q0, hq, by unfold wld; rw [List.getElem?_map, hq]; rfl⟩
theorem nd_at {l : List (Nat × Nat)} (h : l.Nodup) {i j : Nat} {x : Nat × Nat} (hi : l[i]? = some x) (hj : l[j]? = some x) : i = j := by
  obtain ⟨h1, e1⟩ := List.getElem?_eq_some_iff.mp hi
  obtain ⟨h2, e2⟩ := List.getElem?_eq_some_iff.mp hj
  have hp := List.pairwise_iff_getElem.mp h
  rcases Nat.lt_trichotomy i j with q | q | q
  · exact absurd (e1.trans e2.symm) (hp i j h1 h2 q)
  · exact q
  · exact absurd (e2.trans e1.symm) (hp j i h2 h1 q)
theorem wld_set {q0 g i : Nat} (h : (mcs b)[q0]? = some (g, i)) (f : Nat → Int32) : (wld ad cI cZ cL b σ).set q0 (ad g i, mcell ad cI cZ cL g i f) = wld ad cI cZ cL b (mput σ g i f) := by
  have hl : q0 < (mcs b).length := (List.getElem?_eq_some_iff.mp h).1
  apply List.ext_getElem?
  intro j
  by_cases hj : j = q0
  · subst hj
    rw [List.getElem?_set_self (by unfold wld; rw [List.length_map]; exact hl)]
    unfold wld
    rw [List.getElem?_map, h]
    simp only [Option.map_some, mput_eq]
  · rw [List.getElem?_set_ne (Ne.symm hj)]
    unfold wld
    rw [List.getElem?_map, List.getElem?_map]
    cases hx : (mcs b)[j]? with
    | none => rfl
    | some x =>
      have hne : x.1 ≠ g ∨ x.2 ≠ i := by
        by_cases h1 : x.1 = g
        · refine Or.inr fun h2 => hj ?_
          exact nd_at (mcs_nd b) hx (by rw [h, ← h1, ← h2])
        · exact Or.inl h1
      simp only [Option.map_some, mput_ne σ g i f hne]
theorem wld_D {A : Nat → Prop} {σ' : mS} (h : va_D A (wld ad cI cZ cL b σ)) : va_D A (wld ad cI cZ cL b σ') := by
  have key : ∀ (k : Nat) (q : Nat × va_E), (wld ad cI cZ cL b σ')[k]? = some q → ∃ q' : Nat × va_E, (wld ad cI cZ cL b σ)[k]? = some q' ∧ q'.1 = q.1 := by
    intro k q hq
    unfold wld at hq ⊢
    rw [List.getElem?_map] at hq ⊢
    cases hx : (mcs b)[k]? with
    | none => rw [hx] at hq; cases hq
    | some x =>
      rw [hx] at hq
      cases hq
      exact ⟨_, rfl, rfl⟩
  refine ⟨fun i j x y hi hj hxy => ?_, fun k q hk => ?_⟩
  · obtain ⟨x0, h1, h2⟩ := key i x hi
    obtain ⟨y0, h3, h4⟩ := key j y hj
    exact h.1 i j x0 y0 h1 h3 (h2.trans (hxy.trans h4.symm))
  · obtain ⟨q0, h1, h2⟩ := key k q hk
    rw [← h2]
    exact h.2 k q0 h1
theorem wld_A {sz : Nat} {σ' : mS} (q : Nat) : va_A (wld ad cI cZ cL b σ) sz q ↔ va_A (wld ad cI cZ cL b σ') sz q := by
  have key : ∀ σ σ' : mS, va_A (wld ad cI cZ cL b σ) sz q → va_A (wld ad cI cZ cL b σ') sz q := by
    intro σ σ' h
    rcases h with ⟨k, e, h⟩ | h
    · unfold wld at h
      rw [List.getElem?_map] at h
      cases hx : (mcs b)[k]? with
      | none => rw [hx] at h; cases h
      | some x =>
        rw [hx] at h
        simp only [Option.map_some, Option.some.injEq, Prod.mk.injEq] at h
        refine Or.inl ⟨k, mcell ad cI cZ cL x.1 x.2 (σ' x.1 x.2), ?_⟩
        unfold wld
        rw [List.getElem?_map, hx, ← h.1]
        rfl
    · exact Or.inr h
  exact ⟨key σ σ', key σ' σ⟩
theorem mcell_obj {g i c : Nat} {fs : List (Option Nat)} (h : shp g = some (.inl (c, fs))) (f : Nat → Int32) : mcell ad cI cZ cL g i f = .inr (c, mfd ad i f fs) := by unfold mcell; rw [h]
theorem mcell_arr {g i n : Nat} {z : Bool} (h : shp g = some (.inr (.inl (z, n)))) (f : Nat → Int32) : mcell ad cI cZ cL g i f = .inl (bif z then cZ else cI, n, .inl f) := by unfold mcell; rw [h]
theorem mcell_ref {g i g' n : Nat} (h : shp g = some (.inr (.inr (g', n)))) (f : Nat → Int32) : mcell ad cI cZ cL g i f = .inl (cL, n, .inr (.inr (.inr (.inr (fun j => some (ad g' j)))))) := by unfold mcell; rw [h]
theorem mfd_get {i k : Nat} {f : Nat → Int32} {fs : List (Option Nat)} : (mfd ad i f fs)[k]? = fs[k]?.map (fun o => match o with
    | none => Value.int (f k)
    | some g' => Value.ref (ad g' i)) := by unfold mfd; rw [List.getElem?_mapIdx]
theorem mfd_set {i k : Nat} {f : Nat → Int32} {fs : List (Option Nat)} (h : fs[k]? = some none) (v : Int32) : (mfd ad i f fs).set k (.int v) = mfd ad i (upd f k v) fs := by
  have hl : k < fs.length := (List.getElem?_eq_some_iff.mp h).1
  apply List.ext_getElem?
  intro j
  by_cases hj : j = k
  · subst hj
    rw [List.getElem?_set_self (by unfold mfd; rw [List.length_mapIdx]; exact hl), mfd_get, h]
    simp [upd]
  · rw [List.getElem?_set_ne (Ne.symm hj), mfd_get, mfd_get]
    cases fs[j]? with
    | none => rfl
    | some o => cases o <;> simp [upd, hj]
theorem mfd_len {i : Nat} {f : Nat → Int32} {fs : List (Option Nat)} : (mfd ad i f fs).length = fs.length := by unfold mfd; rw [List.length_mapIdx]
end WLD
theorem shp_lt {g : Nat} {x : mSh} (h : shp g = some x) : g < 100 ∧ shpb g = some x := by
  unfold shp at h
  cases h1 : Nat.ble 100 g with
  | true => rw [h1] at h; cases h
  | false =>
    rw [h1] at h
    exact ⟨Nat.lt_of_not_le fun q => (by rw [Nat.ble_eq_true_of_le q] at h1; cases h1), h⟩
/-- an object's class, and what its fields are -/
theorem shp_obj {g c : Nat} {fs : List (Option Nat)} (h : shp g = some (.inl (c, fs))) : ∃ q : vw_C, cls[c]? = some q ∧ fs.length = q.2.2 ∧ ∀ f, fs[f]? = some none → (q.2.1 f).2.2.2 = false ∧ parseFieldDescriptor (q.2.1 f).2.2.1 = some .int := by
  obtain ⟨h1, h2⟩ := shp_lt h
  have h3 := List.all_eq_true.mp okS_all g (List.mem_range.mpr h1)
  unfold okS at h3
  rw [h2] at h3
  dsimp only at h3
  cases hc : cls[c]? with
  | none => rw [hc] at h3; cases h3
  | some q =>
    obtain ⟨C, T, N⟩ := q
    rw [hc] at h3
    simp only [Bool.and_eq_true] at h3
    refine ⟨_, rfl, Nat.eq_of_beq_eq_true h3.1, fun f hf => ?_⟩
    have hlf : f < N := by
      rw [← Nat.eq_of_beq_eq_true h3.1]
      exact (List.getElem?_eq_some_iff.mp hf).1
    have h4 := List.all_eq_true.mp h3.2 f (List.mem_range.mpr hlf)
    rw [hf] at h4
    simp only [Bool.and_eq_true, decide_eq_true_eq, Bool.not_eq_true'] at h4
    exact h4
theorem vok_fld {b : Bool} {g i c f g' : Nat} {fs : List (Option Nat)} (h : (g, i) ∈ mcs b) (hs : shp g = some (.inl (c, fs))) (hf : fs[f]? = some (some g')) : (g', i) ∈ mcs b := by
  have h1 := List.all_eq_true.mp (okW_all b) _ h
  unfold okW at h1
  rw [hs] at h1
  have h2 := List.all_eq_true.mp h1 _ (List.mem_of_getElem? hf)
  simpa using h2
theorem vok_ref {b : Bool} {g i g' n j : Nat} (h : (g, i) ∈ mcs b) (hs : shp g = some (.inr (.inr (g', n)))) (hj : j < n) : (g', j) ∈ mcs b := by
  have h1 := List.all_eq_true.mp (okW_all b) _ h
  unfold okW at h1
  rw [hs] at h1
  have h2 := List.all_eq_true.mp h1 _ (List.mem_range.mpr hj)
  simpa using h2
theorem fld_ok {c idx ci f : Nat} (h : fld c idx = some (ci, f)) : ∃ q : vw_C, cls[ci]? = some q ∧ f < q.2.2 ∧ Cond.fieldLink (onm c) idx (q.2.1 f).1 (q.2.1 f).2.1 (q.2.1 f).2.2.1 ∈ mw := by
  unfold fld at h
  cases h1 : Nat.ble 10 c with
  | true => rw [h1] at h; cases h
  | false =>
    rw [h1] at h
    cases h2 : Nat.ble 300 idx with
    | true => rw [h2] at h; cases h
    | false =>
      rw [h2] at h
      have h : fldb c idx = some (ci, f) := h
      have hc : c < 10 := Nat.lt_of_not_le fun q => by rw [Nat.ble_eq_true_of_le q] at h1; cases h1
      have hi : idx < 300 := Nat.lt_of_not_le fun q => by rw [Nat.ble_eq_true_of_le q] at h2; cases h2
      have h3 := List.all_eq_true.mp (List.all_eq_true.mp okF_all c (List.mem_range.mpr hc)) idx (List.mem_range.mpr hi)
      unfold okF at h3
      rw [h] at h3
      dsimp only at h3
      cases hcl : cls[ci]? with
      | none => rw [hcl] at h3; cases h3
      | some q =>
        obtain ⟨C, T, N⟩ := q
        rw [hcl] at h3
        simp only [Bool.and_eq_true] at h3
        exact ⟨_, rfl, Nat.lt_of_lt_of_le (Nat.lt_succ_self f) (Nat.le_of_ble_eq_true h3.1), inW_mw h3.2⟩
theorem cls_ok {ci : Nat} {q : vw_C} (h : cls[ci]? = some q) : (∀ w ∈ u_ws q.1 q.2.1 q.2.2, w ∈ mw) ∧ (∃ ty0 : Nat → FieldType, ∀ k, k < q.2.2 → parseFieldDescriptor (q.2.1 k).2.2.1 = some (ty0 k)) ∧ ∀ a, a < q.2.2 → ∀ b, b < q.2.2 → a ≠ b → (q.2.1 a).2.1 ≠ (q.2.1 b).2.1 := by
  have hl : ci < 9 := (List.getElem?_eq_some_iff.mp h).1
  refine ⟨?_, ?_⟩
  · have h1 := List.all_eq_true.mp okY_all ci (List.mem_range.mpr hl)
    unfold okY at h1
    rw [h] at h1
    obtain ⟨C, T, N⟩ := q
    cases hy : lyi[ci]? with
    | none => rw [hy] at h1; cases h1
    | some is =>
      rw [hy] at h1
      simp only [Bool.and_eq_true] at h1
      intro w hw
      obtain ⟨f, hf, rfl⟩ := List.mem_map.mp hw
      exact inW_mw (List.all_eq_true.mp h1.2 f hf)
  · match ci, hl, h with
    | 0, _, h => cases h; exact ⟨⟨tyX0, tyX0_ok⟩, nmX0⟩
    | 1, _, h => cases h; exact ⟨⟨tyX1, tyX1_ok⟩, nmX1⟩
    | 2, _, h => cases h; exact ⟨⟨tyX2, tyX2_ok⟩, nmX2⟩
    | 3, _, h => cases h; exact ⟨⟨tyX3, tyX3_ok⟩, nmX3⟩
    | 4, _, h => cases h; exact ⟨⟨tyX4, tyX4_ok⟩, nmX4⟩
    | 5, _, h => cases h; exact ⟨⟨tyX5, tyX5_ok⟩, nmX5⟩
    | 6, _, h => cases h; exact ⟨⟨tyX6, tyX6_ok⟩, nmX6⟩
    | 7, _, h => cases h; exact ⟨⟨tyX7, tyX7_ok⟩, nmX7⟩
    | 8, _, h => cases h; exact ⟨⟨tyX8, tyX8_ok⟩, nmX8⟩
    | n + 9, hl, _ => exact absurd hl (by omega)
/-! locals -/
def prs (ad : Nat → Nat → Nat) (L : mL) : List (Nat × Value) := (List.range L.length).filterMap (fun i => (L.getD i none).map (fun v => (i, mval ad v)))
theorem prs_mem {ad : Nat → Nat → Nat} {L : mL} {q : Nat × Value} : q ∈ prs ad L ↔ ∃ v, L[q.1]? = some (some v) ∧ q.2 = mval ad v := by
  unfold prs
  rw [List.mem_filterMap]
  constructor
  · rintro ⟨i, hi, h⟩
    rw [List.getD_eq_getElem?_getD] at h
    cases hx : L[i]? with
    | none => rw [hx] at h; cases h
    | some o =>
      rw [hx] at h
      cases o with
      | none => cases h
      | some v => cases h; exact ⟨v, hx, rfl⟩
  · rintro ⟨v, h1, h2⟩
    refine ⟨q.1, List.mem_range.mpr (List.getElem?_eq_some_iff.mp h1).1, ?_⟩
    rw [List.getD_eq_getElem?_getD, h1]
    simp [← h2]
def lvk (ad : Nat → Nat → Nat) (ls : Array Slot) (L : mL) : Prop := lv_has ls L.length (prs ad L)
theorem lvk_at {ad : Nat → Nat → Nat} {ls : Array Slot} {L : mL} (h : lvk ad ls L) {i : Nat} {v : mV} (hi : L[i]? = some (some v)) : ls[i]? = some (.val (mval ad v)) := h.2.2 (i, mval ad v) (prs_mem.mpr ⟨v, hi, rfl⟩)
theorem mdrop_len (L : mL) (i : Nat) : (mdrop L i).length = L.length := by
  cases i with
  | zero => rfl
  | succ i =>
    show (mdrop1 L i).length = L.length
    unfold mdrop1
    split <;> simp
theorem mst_len (L : mL) (i : Nat) (v : mV) : (mst L i v).length = L.length := by
  unfold mst
  rw [List.length_set, mdrop_len]
theorem mdrop_get {L : mL} {i j : Nat} {w : mV} (h : (mdrop L i)[j]? = some (some w)) : L[j]? = some (some w) ∧ (j + 1 = i → ∀ x, w ≠ .inr (.inl x)) := by
  cases i with
  | zero => exact ⟨h, fun q => absurd q (by omega)⟩
  | succ i =>
    replace h : (mdrop1 L i)[j]? = some (some w) := h
    unfold mdrop1 at h
    split at h
    · rename_i x hx
      by_cases hj : j = i
      · subst hj
        rw [List.getElem?_set_self (List.getElem?_eq_some_iff.mp hx).1] at h
        cases h
      · rw [List.getElem?_set_ne (Ne.symm hj)] at h
        exact ⟨h, fun q => absurd (Nat.succ.inj q) hj⟩
    · rename_i hx
      refine ⟨h, fun q x e => ?_⟩
      have : j = i := by omega
      subst this
      subst e
      exact hx x h
theorem mst_get {L : mL} {i j : Nat} {v w : mV} (h : (mst L i v)[j]? = some (some w)) : (j = i ∧ w = v) ∨ (j ≠ i ∧ L[j]? = some (some w) ∧ (j + 1 = i → ∀ x, w ≠ .inr (.inl x))) := by
  unfold mst at h
  by_cases hj : j = i
  · subst hj
    have hl := (List.getElem?_eq_some_iff.mp h).1
    rw [List.length_set] at hl
    rw [List.getElem?_set_self hl] at h
    simp only [Option.some.injEq] at h
    exact Or.inl ⟨rfl, h.symm⟩
  · rw [List.getElem?_set_ne (Ne.symm hj)] at h
    obtain ⟨h1, h2⟩ := mdrop_get h
    exact Or.inr ⟨hj, h1, h2⟩
theorem mval_cat {ad : Nat → Nat → Nat} {w : mV} (h : ∀ x, w ≠ .inr (.inl x)) : (mval ad w).category = 1 := by
  rcases w with x | x | x
  · rfl
  · exact absurd rfl (h x)
  · rfl
/-- behind a store: what is known of the locals -/
theorem lvk_store {ad : Nat → Nat → Nat} {ls' : Array Slot} {L : mL} {i : Nat} {v : mV} {nL : Nat} (hn : nL = L.length) (h : lv_has ls' nL ((i, mval ad v) :: (prs ad L).filter (fun q => !(q.1 == i) && !(q.1 + 1 == i && q.2.category == 2)))) : lvk ad ls' (mst L i v) := by
  refine ⟨by rw [mst_len, ← hn]; exact h.1, h.2.1, fun q hq => ?_⟩
  obtain ⟨w, h1, h2⟩ := prs_mem.mp hq
  rcases mst_get h1 with ⟨e1, e2⟩ | ⟨n1, e1, e2⟩
  · have : q = (i, mval ad v) := by rw [← e2, ← h2, ← e1]
    rw [this]
    exact h.2.2 _ List.mem_cons_self
  · refine h.2.2 q (List.mem_cons_of_mem _ (List.mem_filter.mpr ⟨prs_mem.mpr ⟨w, e1, h2⟩, ?_⟩))
    by_cases hj : q.1 + 1 = i
    · simp [n1, h2, mval_cat (e2 hj)]
    · simp [n1, hj]
end
section
/-! the helpers, taken apart -/
theorem k1_inv {st : List mV} {K : Int32 → List mV → Prop} (h : k1 st K) : ∃ x r, st = .inl x :: r ∧ K x r := by
  unfold k1 at h
  split at h
  · exact ⟨_, _, rfl, h⟩
  · exact h.elim
theorem k2_inv {st : List mV} {K : Int32 → Int32 → List mV → Prop} (h : k2 st K) : ∃ x y r, st = .inl y :: .inl x :: r ∧ K x y r := by
  unfold k2 at h
  split at h
  · exact ⟨_, _, _, rfl, h⟩
  · exact h.elim
theorem bif_f {z : Bool} {P : Prop} (h : bif z then False else P) : z = false ∧ P := by
  cases z
  · exact ⟨rfl, h⟩
  · exact h.elim
theorem bif_t {z : Bool} {P : Prop} (h : bif z then P else False) : z = true ∧ P := by
  cases z
  · exact h.elim
  · exact ⟨rfl, h⟩
theorem kA_inv {st : List mV} {z : Bool} {K : Nat → Nat → Nat → Int32 → List mV → Prop} (h : kA st z K) : ∃ g i n j r, st = .inl j :: .inr (.inr (g, i)) :: r ∧ shp g = some (.inr (.inl (z, n))) ∧ K g i n j r := by
  unfold kA at h
  split at h
  · split at h
    · rename_i z' n hs
      obtain ⟨h1, h2⟩ := bif_f h
      have : z' = z := by cases z' <;> cases z <;> first | rfl | cases h1
      subst this
      exact ⟨_, _, _, _, _, rfl, hs, h2⟩
    · exact h.elim
  · exact h.elim
theorem kS_inv {st : List mV} {z : Bool} {K : Nat → Nat → Nat → Int32 → Int32 → List mV → Prop} (h : kS st z K) : ∃ g i n j v r, st = .inl v :: .inl j :: .inr (.inr (g, i)) :: r ∧ shp g = some (.inr (.inl (z, n))) ∧ K g i n j v r := by
  unfold kS at h
  split at h
  · obtain ⟨g, i, n, j, r, rfl, hs, hk⟩ := kA_inv h
    exact ⟨_, _, _, _, _, _, rfl, hs, hk⟩
  · exact h.elim
theorem kO_inv {st : List mV} {K : Nat → Nat → Nat → List (Option Nat) → List mV → Prop} (h : kO st K) : ∃ g i c fs r, st = .inr (.inr (g, i)) :: r ∧ shp g = some (.inl (c, fs)) ∧ K g i c fs r := by
  unfold kO at h
  split at h
  · split at h
    · rename_i hs
      exact ⟨_, _, _, _, _, rfl, hs, h⟩
    · exact h.elim
  · exact h.elim
theorem kop_inv {α : Type} {o : Option α} {K : α → Prop} (h : kop o K) : ∃ v, o = some v ∧ K v := by
  unfold kop at h
  split at h
  · exact ⟨_, rfl, h⟩
  · exact h.elim
theorem kiv_inv {v : mV} {K : Int32 → Prop} (h : kiv v K) : ∃ x, v = .inl x ∧ K x := by
  unfold kiv at h
  split at h
  · exact ⟨_, rfl, h⟩
  · exact h.elim
theorem kjv_inv {v : mV} {K : Int64 → Prop} (h : kjv v K) : ∃ x, v = .inr (.inl x) ∧ K x := by
  unfold kjv at h
  split at h
  · exact ⟨_, rfl, h⟩
  · exact h.elim
theorem krv_inv {v : mV} {K : Nat × Nat → Prop} (h : krv v K) : ∃ x, v = .inr (.inr x) ∧ K x := by
  unfold krv at h
  split at h
  · exact ⟨_, rfl, h⟩
  · exact h.elim
theorem kR_inv {st : List mV} {K : Nat × Nat → List mV → Prop} (h : kR st K) : ∃ x r, st = .inr (.inr x) :: r ∧ K x r := by
  unfold kR at h
  split at h
  · exact ⟨_, _, rfl, h⟩
  · exact h.elim
theorem kJJ_inv {st : List mV} {K : Int64 → Int64 → List mV → Prop} (h : kJJ st K) : ∃ x y r, st = .inr (.inl y) :: .inr (.inl x) :: r ∧ K x y r := by
  unfold kJJ at h
  split at h
  · exact ⟨_, _, _, rfl, h⟩
  · exact h.elim
theorem kr1_inv {st : List mV} {K : Int32 → Prop} (h : kr1 st K) : ∃ x, st = [.inl x] ∧ K x := by
  unfold kr1 at h
  split at h
  · exact ⟨_, rfl, h⟩
  · exact h.elim
theorem kr2_inv {st : List mV} {K : Nat × Nat → Prop} (h : kr2 st K) : ∃ x, st = [.inr (.inr x)] ∧ K x := by
  unfold kr2 at h
  split at h
  · exact ⟨_, rfl, h⟩
  · exact h.elim
theorem kr0_inv {st : List mV} {K : Prop} (h : kr0 st K) : st = [] ∧ K := by
  unfold kr0 at h
  split at h
  · exact ⟨rfl, h⟩
  · exact h.elim
theorem kdp_inv {st : List mV} {K : mV → List mV → Prop} (h : kdp st K) : ∃ v r, st = v :: r ∧ (∀ x, v ≠ .inr (.inl x)) ∧ K v r := by
  unfold kdp at h
  split at h
  · exact ⟨_, _, rfl, fun _ q => (by cases q), h⟩
  · exact ⟨_, _, rfl, fun _ q => (by cases q), h⟩
  · exact h.elim
theorem kQ_inv {st : List mV} {K : Nat → Nat → Int32 → List mV → Prop} (h : kQ st K) : ∃ g i g' n j r, st = .inl j :: .inr (.inr (g, i)) :: r ∧ shp g = some (.inr (.inr (g', n))) ∧ K g' n j r := by
  unfold kQ at h
  split at h
  · split at h
    · rename_i hs
      exact ⟨_, _, _, _, _, _, rfl, hs, h⟩
    · exact h.elim
  · exact h.elim
theorem kN_inv {st : List mV} {K : Nat → List mV → Prop} (h : kN st K) : ∃ g i z n r, st = .inr (.inr (g, i)) :: r ∧ shp g = some (.inr (.inl (z, n))) ∧ K n r := by
  unfold kN at h
  split at h
  · split at h
    · rename_i hs
      exact ⟨_, _, _, _, _, rfl, hs, h⟩
    · exact h.elim
  · exact h.elim
theorem kfs_inv {fs : List (Option Nat)} {f : Nat} {K : Prop} {K' : Nat → Prop} (h : kfs fs f K K') : (fs[f]? = some none ∧ K) ∨ ∃ g', fs[f]? = some (some g') ∧ K' g' := by
  unfold kfs at h
  split at h
  · rename_i hs
    exact Or.inl ⟨hs, h⟩
  · rename_i hs
    exact Or.inr ⟨_, hs, h⟩
  · exact h.elim
theorem kcp_inv {st : List mV} {K : Nat → Nat → Nat → Nat → Nat → Nat → Int32 → Int32 → Int32 → Prop} (h : kcp st K) : ∃ g i n0 g' i' n1 sp dp n, st = [.inl n, .inl dp, .inr (.inr (g', i')), .inl sp, .inr (.inr (g, i))] ∧ shp g = some (.inr (.inl (false, n0))) ∧ shp g' = some (.inr (.inl (false, n1))) ∧ K g i n0 g' i' n1 sp dp n := by
  unfold kcp at h
  split at h
  · split at h
    · rename_i h1 h2
      exact ⟨_, _, _, _, _, _, _, _, _, rfl, h1, h2, h⟩
    · exact h.elim
  · exact h.elim
theorem kld_inv {L : mL} {i : Nat} {K : mV → Prop} (h : kld L i K) : ∃ v, L[i]? = some (some v) ∧ K v := by
  unfold kld at h
  split at h
  · rename_i hs
    exact ⟨_, hs, h⟩
  · exact h.elim
theorem ktk_inv {K : List mV → List mV → Prop} : ∀ (n : Nat) (st a : List mV), ktk n st a K → ∃ x r, st = x ++ r ∧ x.length = n ∧ K (x.reverse ++ a) r
  | 0, st, a, h => ⟨[], st, rfl, rfl, h⟩
  | n + 1, v :: st, a, h => by
    obtain ⟨x, r, h1, h2, h3⟩ := ktk_inv n st (v :: a) h
    exact ⟨v :: x, r, by rw [h1]; rfl, by simp [h2], by simpa using h3⟩
  | n + 1, [], _, h => h.elim
theorem and_t {x y : Bool} (h : (x && y) = true) : x = true ∧ y = true := by simpa using h
theorem bq {x y : Nat} (h : Nat.beq x y = true) : x = y := Nat.eq_of_beq_eq_true h
theorem blt_lt {x y : Nat} (h : Nat.blt x y = true) : x < y := Nat.le_of_ble_eq_true h
theorem vok_cons {b : Bool} {v : mV} {st : List mV} (h : vok b v) (hs : ∀ w ∈ st, vok b w) : ∀ w ∈ v :: st, vok b w := List.forall_mem_cons.mpr ⟨h, hs⟩
theorem vok_tail {b : Bool} {v : mV} {st : List mV} (hs : ∀ w ∈ v :: st, vok b w) : ∀ w ∈ st, vok b w := (List.forall_mem_cons.mp hs).2
theorem vok_head {b : Bool} {v : mV} {st : List mV} (hs : ∀ w ∈ v :: st, vok b w) : vok b v := (List.forall_mem_cons.mp hs).1
theorem vok_st {b : Bool} {L : mL} {i : Nat} {v : mV} (hL : ∀ w, some w ∈ L → vok b w) (hv : vok b v) : ∀ w, some w ∈ mst L i v → vok b w := by
  intro w hw
  obtain ⟨j, hj⟩ := List.getElem?_of_mem hw
  rcases mst_get hj with ⟨-, e⟩ | ⟨-, e, -⟩
  · rw [e]; exact hv
  · exact hL w (List.mem_of_getElem? e)
theorem lcn_ok {c idx : Nat} {v : Int64} (h : lcn c idx = some v) : Cond.constantLong (onm c) idx v ∈ mw := by
  unfold lcn at h
  cases h1 : Nat.ble 10 c with
  | true => rw [h1] at h; cases h
  | false =>
    rw [h1] at h
    cases h2 : Nat.ble 300 idx with
    | true => rw [h2] at h; cases h
    | false =>
      rw [h2] at h
      have h : lcnb c idx = some v := h
      have hc : c < 10 := Nat.lt_of_not_le fun q => by rw [Nat.ble_eq_true_of_le q] at h1; cases h1
      have hi : idx < 300 := Nat.lt_of_not_le fun q => by rw [Nat.ble_eq_true_of_le q] at h2; cases h2
      have h3 := List.all_eq_true.mp (List.all_eq_true.mp okL_all c (List.mem_range.mpr hc)) idx (List.mem_range.mpr hi)
      unfold okL at h3
      rw [h] at h3
      dsimp only at h3
      obtain ⟨w, hw, h4⟩ := List.any_eq_true.mp h3
      obtain ⟨h5, h6⟩ := and_t h4
      have h5 := of_decide_eq_true h5
      subst h5
      exact List.mem_filter.mpr ⟨hw, h6⟩
theorem mth_ok {c idx : Nat} {q : Bool × Nat × Nat} (h : mth c idx = some q) : okM c idx = true ∧ mthb c idx = some q := by
  unfold mth at h
  cases h1 : Nat.ble 10 c with
  | true => rw [h1] at h; cases h
  | false =>
    rw [h1] at h
    cases h2 : Nat.ble 300 idx with
    | true => rw [h2] at h; cases h
    | false =>
      rw [h2] at h
      have h : mthb c idx = some q := h
      have hc : c < 10 := Nat.lt_of_not_le fun q => by rw [Nat.ble_eq_true_of_le q] at h1; cases h1
      have hi : idx < 300 := Nat.lt_of_not_le fun q => by rw [Nat.ble_eq_true_of_le q] at h2; cases h2
      exact ⟨List.all_eq_true.mp (List.all_eq_true.mp okM_all c (List.mem_range.mpr hc)) idx (List.mem_range.mpr hi), h⟩
theorem codeW {j : Nat} (h : j < 146) : Cond.code (ycd j) (bcd j) (mml j) (rcd j) ∈ mw := List.mem_filter.mpr ⟨cdw_all h, rfl⟩
end
section
/-! EVERY STEP OF THE SMALL MACHINE IS ONE OF THE REAL ONE -/
def mPc (dC : Nat → ClassId) (dI : Nat → Nat → Nat) (ad : Nat → Nat → Nat) (cI cZ cL : ClassId) (b : Bool) (a : List mV) (σ : mS) (sz : Nat) : Array Value → State → Prop :=
  va_Pc (a.map (mval ad)) (fun U => U.heap.size = sz ∧ va_P (dC, dI) cls (wld ad cI cZ cL b σ) U.heap ∧ va_K (dC, dI) cls (mtys cI cZ cL) U ∧ va_D (fun _ => True) (wld ad cI cZ cL b σ))
def mQc (dC : Nat → ClassId) (dI : Nat → Nat → Nat) (ad : Nat → Nat → Nat) (cI cZ cL : ClassId) (b : Bool) (post : Option mV → mS → Prop) (A : Nat → Prop) : Array Value → State → Outcome → State → Prop :=
  fun _ st oc t => (∃ (r : Option mV) (σ' : mS), oc = .returned (r.map (mval ad)) ∧ (∀ v, r = some v → vok b v) ∧ post r σ' ∧ va_P (dC, dI) cls (wld ad cI cZ cL b σ') t.heap ∧ va_K (dC, dI) cls (mtys cI cZ cL) t) ∧ va_F A st t
def mMet (l : Launch) (dC : Nat → ClassId) (dI : Nat → Nat → Nat) (ad : Nat → Nat → Nat) (cI cZ cL : ClassId) (b : Bool) (j : Nat) (a : List mV) (σ : mS) (post : Option mV → mS → Prop) : Prop :=
  ∀ sz, Met l (ycd j) (wk j) (rmk j) (mPc dC dI ad cI cZ cL b a σ sz) (mQc dC dI ad cI cZ cL b post (va_A (wld ad cI cZ cL b σ) sz)) 0 0 (va_A (wld ad cI cZ cL b σ) sz)
section SND
variable {p : Program} {l : Launch} {e : Env} {R : Room} {s : State} {m : MethodId} {args : Array Value} {below : List Frame} {meth : Method} {c : Code} {Q : State → Prop}
variable {dC : Nat → ClassId} {dI : Nat → Nat → Nat} {ad : Nat → Nat → Nat} {cI cZ cL : ClassId} {b : Bool} {k : Nat} {A : Nat → Prop}
/-- from here, with these locals, this stack and these cells, the real machine comes to Q -/
def mAt (p : Program) (l : Launch) (e : Env) (R : Room) (s : State) (m : MethodId) (args : Array Value) (below : List Frame) (meth : Method) (c : Code) (Q : State → Prop) (dC : Nat → ClassId) (dI : Nat → Nat → Nat) (ad : Nat → Nat → Nat) (cI cZ cL : ClassId) (b : Bool) (k : Nat) (A : Nat → Prop) : mK := fun pc L st σ =>
  L.length = mml k → (∀ v, some v ∈ L → vok b v) → (∀ v ∈ st, vok b v) → ∀ (H : Heap) (locs : List Loc) (ls : Array Slot), va_P (dC, dI) cls (wld ad cI cZ cL b σ) H → va_S A s.heap H locs → lvk ad ls L →
    W p l e R s m args below meth c H locs 0 0 Q (F0 m pc ls (st.map (mval ad)))
theorem m_call {pc : Nat} {ls : Array Slot} {st0 rest : List Value} {H : Heap} {locs : List Loc} {A1 : Nat → Prop} {a : Array Value} {free : Addr → Prop} {post : Option mV → mS → Prop}
    (hr : va_Run p l e R s m args below meth c H locs 0 0 0 0 (F0 m pc ls st0) rest (mQc dC dI ad cI cZ cL b post A1 a) free) (hS : va_S A s.heap H locs) (hA : ∀ q, q < H.size → A1 q → A q) (hf : ∀ q, free q → A q)
    (kk : ∀ (r : Option mV) (σ' : mS) (H1 : Heap) (locs1 : List Loc), (∀ v, r = some v → vok b v) → post r σ' → va_P (dC, dI) cls (wld ad cI cZ cL b σ') H1 → va_S A s.heap H1 locs1 → W p l e R s m args below meth c H1 locs1 0 0 Q (F0 m (pc + 3) ls ((r.map (mval ad)).toList ++ rest))) :
    W p l e R s m args below meth c H locs 0 0 Q (F0 m pc ls st0) := by
  intro T hT X
  obtain ⟨v, st₀, t, T', L, h0, X', hL, e1, e2, ⟨⟨r, σ', hv, hvk, hp, hPw, hKw⟩, hz, hk⟩, st⟩ := hr T hT X
  simp only [Outcome.returned.injEq] at hv
  subst hv
  rw [h0] at hz hk
  obtain ⟨t2, a1, b1⟩ := kk r σ' T'.heap (locs ++ L) hvk hp (by rw [e1]; exact hPw)
    ⟨Nat.le_trans hS.1 (by rw [e1]; exact hz), fun q h1 h2 => by rw [e1, hk q (Nat.lt_of_lt_of_le h1 hS.1) (fun z => h2 (hA q (Nat.lt_of_lt_of_le h1 hS.1) z))]; exact hS.2.1 q h1 h2, fun q hq => by
      rcases List.mem_append.mp hq with h | h
      · exact hS.2.2 q h
      · exact hf _ (hL q h)⟩ T' rfl X'
  exact ⟨t2, st t2 a1, b1⟩
theorem mPc_blind {a : List mV} {σ : mS} {sz : Nat} : FrameBlind (mPc dC dI ad cI cZ cL b a σ sz) := fun a' U g mk q => by
  obtain ⟨q0, q1, qP, qK, qD⟩ := q
  exact ⟨q0, q1, qP, va_K.moved (u := U) (U := U.calling g mk a') (Vm.Alike.refl U.vm) qK, qD⟩
theorem mval_wd (ad : Nat → Nat → Nat) : ∀ r : List mV, ((r.map (mval ad)).map fun v => v.category).sum = mwd r
  | [] => rfl
  | .inl x :: r => by
    rw [List.map_cons, List.map_cons, List.sum_cons, mval_wd ad r, Nat.add_comm]
    rfl
  | .inr (.inl x) :: r => by
    rw [List.map_cons, List.map_cons, List.sum_cons, mval_wd ad r, Nat.add_comm]
    rfl
  | .inr (.inr x) :: r => by
    rw [List.map_cons, List.map_cons, List.sum_cons, mval_wd ad r, Nat.add_comm]
    rfl
theorem mlv_len : ∀ a : List mV, (mlv a).length = mwd a
  | [] => rfl
  | .inl x :: r => by
    show (mlv r).length + 1 = mwd r + 1
    rw [mlv_len r]
  | .inr (.inl x) :: r => by
    show (mlv r).length + 1 + 1 = mwd r + 2
    rw [mlv_len r]
  | .inr (.inr x) :: r => by
    show (mlv r).length + 1 = mwd r + 1
    rw [mlv_len r]
theorem wld_free {σ : mS} {H : Heap} {locs : List Loc} (hD : va_D A (wld ad cI cZ cL b σ)) (hS : va_S A s.heap H locs) (hA : ∀ q, s.heap.size ≤ q → A q) : ∀ q, va_A (wld ad cI cZ cL b σ) H.size q → A q := by
  intro q h
  rcases h with ⟨k, e, h⟩ | h
  · exact hD.2 k (q, e) h
  · exact hA q (Nat.le_trans hS.1 h)
theorem good_call {j : Nat} (hj : j < 146) (k : Nat) {w0 : List Cond} (h0 : ∀ w ∈ w0, w ∈ mw) : GoodIn (wk k) (w0 ++ wk j) := by
  intro w hw
  have hm : w ∈ mw := by
    rcases List.mem_append.mp hw with q | q
    · exact h0 w q
    · rcases List.mem_cons.mp q with q | q
      · rw [q]; exact codeW hj
      · exact q
  exact ⟨mw_wk k hm, mw_good hm⟩
theorem okC_of {j : Nat} (h : j < 146) : Cond.initialized (ycd j).cls ∈ mw ∧ (ycd j).cls = onm (mcl j) ∧ plainName (ycd j).cls = true ∧ (ycd j).cls ≠ "java/lang/invoke/MethodHandle" ∧ (ycd j).cls ≠ "java/lang/invoke/VarHandle" ∧ mcl j < 10 := by
  have h1 := List.all_eq_true.mp okC_all j (List.mem_range.mpr h)
  unfold okC at h1
  obtain ⟨h1, h7⟩ := and_t h1
  obtain ⟨h1, h6⟩ := and_t h1
  obtain ⟨h1, h5⟩ := and_t h1
  obtain ⟨h1, h4⟩ := and_t h1
  obtain ⟨h2, h3⟩ := and_t h1
  exact ⟨inW_mw h2, of_decide_eq_true h3, h4, of_decide_eq_true h5, of_decide_eq_true h6, blt_lt h7⟩
/-- a call of a method of ours, static or not -/
theorem okM_of {cl idx j n : Nat} {stat : Bool} (h : mth cl idx = some (stat, j, n)) (h0 : Nat.beq j 1000 = false) (h1 : Nat.beq j 1001 = false) (h2 : Nat.beq j 1002 = false) (h3 : Nat.beq j 1003 = false) :
    j < 146 ∧ Cond.methodLink (onm cl) idx (ycd j) ∈ mw ∧ (parseMethodDescriptor (ycd j).desc).map (fun d => d.parameters.length) = some n ∧ (stat = true → Cond.static (ycd j) ∈ mw) ∧ (stat = false → Cond.instanceMethod (ycd j) ∈ mw ∧ Cond.selects (ycd j).cls (ycd j) (ycd j) ∈ mw) := by
  obtain ⟨h4, h5⟩ := mth_ok h
  unfold okM at h4
  rw [h5] at h4
  dsimp only at h4
  rw [h0, h1, h2, h3] at h4
  simp only [cond_false] at h4
  obtain ⟨h4, h6⟩ := and_t h4
  obtain ⟨h4, h7⟩ := and_t h4
  obtain ⟨h8, h9⟩ := and_t h4
  refine ⟨blt_lt h8, inW_mw h9, of_decide_eq_true h7, fun e => ?_, fun e => ?_⟩
  · subst e; exact inW_mw h6
  · subst e
    obtain ⟨a, b⟩ := and_t h6
    exact ⟨inW_mw a, inW_mw b⟩
theorem mrcv_inv {a : List mV} {cl : Nat} (h : mrcv a cl = true) : ∃ g i fs r, a = .inr (.inr (g, i)) :: r ∧ shp g = some (.inl (cl, fs)) := by
  unfold mrcv at h
  split at h
  · split at h
    · rename_i hs
      have := bq h
      subst this
      exact ⟨_, _, _, _, rfl, hs⟩
    · cases h
  · cases h
theorem room_of {k idx j n : Nat} {stat st' : Bool} (h : mth (mcl k) idx = some (stat, j, n)) (hr : roomOK k idx st' = true) (h0 : Nat.ble 1000 j = false) (h1 : Nat.beq j 1000 = false) : (rmf j + 1 ≤ rmf k ∧ 8 + (mml j + 11) + rml j ≤ rml k) ∧ (j ≠ kX7_moved ∧ j ≠ kX7_row) := by
  unfold roomOK at hr
  rw [h] at hr
  dsimp only at hr
  rw [h1, h0] at hr
  simp only [cond_false] at hr
  obtain ⟨hr, hn⟩ := and_t hr
  obtain ⟨a, b⟩ := and_t hr
  obtain ⟨n1, n2⟩ := and_t hn
  exact ⟨⟨Nat.le_of_ble_eq_true a, Nat.le_of_ble_eq_true b⟩, fun e => (by rw [e] at n1; cases n1), fun e => (by rw [e] at n2; cases n2)⟩
set_option maxHeartbeats 4000000 in
theorem mAt_cl {E : mE} {post : Option mV → mS → Prop} (hk : k < 146) (hR : R = rmk k) (hx : p.tables.exec = Jvm.exec) (hb : c.code = bcd k) (hml : c.maxLocals = mml k) (hown : s.vm.findClass (onm (mcl k)) = some m.cls) (hts : ∀ w ∈ wk k, w.before args s = true)
    (hK : va_K (dC, dI) cls (mtys cI cZ cL) s) (hA : ∀ q, s.heap.size ≤ q → A q) (hD : ∀ σ, va_D A (wld ad cI cZ cL b σ))
    (hcall : ∀ j a σ post, j < 146 → (j ≠ kX7_moved ∧ j ≠ kX7_row) → E j a σ post → (mlv a).length ≤ mml j → (∀ v ∈ a, vok b v) → mMet l dC dI ad cI cZ cL b j a σ post)
    (hretI : ∀ (pc : Nat) (ls : Array Slot) (H : Heap) (locs : List Loc) (σ : mS) (x : Int32), decode (bcd k) pc = .ok (.ireturn, 1) → (mrt k = 1 ∨ mrt k = 2) → va_P (dC, dI) cls (wld ad cI cZ cL b σ) H → va_S A s.heap H locs → post (some (mI (bif Nat.beq (mrt k) 2 then x &&& 1 else x))) σ → W p l e R s m args below meth c H locs 0 0 Q (F0 m pc ls [.int x]))
    (hretA : ∀ (pc : Nat) (ls : Array Slot) (H : Heap) (locs : List Loc) (σ : mS) (x : Nat × Nat), decode (bcd k) pc = .ok (.areturn, 1) → mrt k = 3 → x ∈ mcs b → va_P (dC, dI) cls (wld ad cI cZ cL b σ) H → va_S A s.heap H locs → post (some (.inr (.inr x))) σ → W p l e R s m args below meth c H locs 0 0 Q (F0 m pc ls [.ref (ad x.1 x.2)]))
    (hretV : ∀ (pc : Nat) (ls : Array Slot) (H : Heap) (locs : List Loc) (σ : mS), decode (bcd k) pc = .ok (.return_, 1) → mrt k = 0 → va_P (dC, dI) cls (wld ad cI cZ cL b σ) H → va_S A s.heap H locs → post none σ → W p l e R s m args below meth c H locs 0 0 Q (F0 m pc ls []))
    (hnew : ∀ (pc idx len : Nat) (L : mL) (ls : Array Slot) (H : Heap) (locs : List Loc) (σ : mS), (∃ x, cod k pc = some (.new idx, len, x)) → (k = kX7_moved ∨ k = kX7_row) → L.length = mml k → lvk ad ls L → va_P (dC, dI) cls (wld ad cI cZ cL b σ) H → va_S A s.heap H locs → post (some mThr) σ → W p l e R s m args below meth c H locs 0 0 Q (F0 m pc ls [])) :
    mCl E k post (mAt p l e R s m args below meth c Q dC dI ad cI cZ cL b k A) := by
  intro pc L st σ h
  unfold mstep at h
  cases hc : cod k pc with
  | none => rw [hc] at h; exact h.elim
  | some x =>
  obtain ⟨i, len, tgt, cv, hd⟩ := x
  rw [hc] at h
  dsimp only at h
  have hch := chk_all hc
  unfold chkI at hch
  obtain ⟨hdec, hok⟩ := and_t hch
  replace hdec := of_decide_eq_true hdec
  dsimp only at hdec hok
  have hw : ∀ w ∈ mw, w.before args s = true := fun w h => hts w (mw_wk k h)
  intro hL hvL hvs H locs ls hP hS hl
  cases i with
  | iconst n =>
    obtain ⟨h1, h2⟩ := and_t hok
    have h2 := bq h2
    subst h2
    exact lv_iconst hx hb hdec (eq_of_beq h1) (h hL hvL (vok_cons trivial hvs) H locs ls hP hS hl)
  | bipush n =>
    obtain ⟨h1, h2⟩ := and_t hok
    have h2 := bq h2
    subst h2
    exact lv_bipush hx hb hdec (eq_of_beq h1) (h hL hvL (vok_cons trivial hvs) H locs ls hP hS hl)
  | sipush n =>
    obtain ⟨h1, h2⟩ := and_t hok
    have h2 := bq h2
    subst h2
    exact lv_sipush hx hb hdec (eq_of_beq h1) (h hL hvL (vok_cons trivial hvs) H locs ls hP hS hl)
  | lconst n =>
    have h2 := bq hok
    subst h2
    exact lv_lconst hx hb hdec rfl (h hL hvL (vok_cons trivial hvs) H locs ls hP hS hl)
  | ldc2_w idx =>
    have h2 := bq hok
    subst h2
    obtain ⟨v, h1, h⟩ := kop_inv h
    exact lv_ldc2 hx hb hown (hw _ (lcn_ok h1)) hdec (h hL hvL (vok_cons trivial hvs) H locs ls hP hS hl)
  | iload_n i =>
    have h2 := bq hok
    subst h2
    obtain ⟨v, h1, h⟩ := kld_inv h
    obtain ⟨x, rfl, h⟩ := kiv_inv h
    exact lv_iload_n hx hb hdec rfl (lvk_at hl h1) (h hL hvL (vok_cons trivial hvs) H locs ls hP hS hl)
  | iload i =>
    have h2 := bq hok
    subst h2
    obtain ⟨v, h1, h⟩ := kld_inv h
    obtain ⟨x, rfl, h⟩ := kiv_inv h
    exact lv_iload hx hb hdec (lvk_at hl h1) (h hL hvL (vok_cons trivial hvs) H locs ls hP hS hl)
  | lload_n i =>
    have h2 := bq hok
    subst h2
    obtain ⟨v, h1, h⟩ := kld_inv h
    obtain ⟨x, rfl, h⟩ := kjv_inv h
    exact lv_lload_n hx hb hdec rfl (lvk_at hl h1) (h hL hvL (vok_cons trivial hvs) H locs ls hP hS hl)
  | lload i =>
    have h2 := bq hok
    subst h2
    obtain ⟨v, h1, h⟩ := kld_inv h
    obtain ⟨x, rfl, h⟩ := kjv_inv h
    exact lv_lload hx hb hdec (lvk_at hl h1) (h hL hvL (vok_cons trivial hvs) H locs ls hP hS hl)
  | aload_n i =>
    have h2 := bq hok
    subst h2
    obtain ⟨v, h1, h⟩ := kld_inv h
    obtain ⟨x, rfl, h⟩ := krv_inv h
    exact lv_aload_n hx hb hdec rfl (lvk_at hl h1) (h hL hvL (vok_cons (hvL _ (List.mem_of_getElem? h1)) hvs) H locs ls hP hS hl)
  | aload i =>
    have h2 := bq hok
    subst h2
    obtain ⟨v, h1, h⟩ := kld_inv h
    obtain ⟨x, rfl, h⟩ := krv_inv h
    exact lv_aload hx hb hdec (lvk_at hl h1) (h hL hvL (vok_cons (hvL _ (List.mem_of_getElem? h1)) hvs) H locs ls hP hS hl)
  | istore_n i =>
    obtain ⟨h1, h2⟩ := and_t hok
    have h1 := bq h1
    subst h1
    obtain ⟨x, r, rfl, h⟩ := k1_inv h
    exact lv_istore_n hx hb hdec rfl hl (by rw [hL]; exact blt_lt h2) rfl (fun ls' hl' => h (by rw [mst_len]; exact hL) (vok_st hvL trivial) (vok_tail hvs) H locs ls' hP hS (lvk_store (v := mI x) rfl hl'))
  | istore i =>
    obtain ⟨h1, h2⟩ := and_t hok
    have h1 := bq h1
    subst h1
    obtain ⟨x, r, rfl, h⟩ := k1_inv h
    exact lv_istore hx hb hdec hl (by rw [hL]; exact blt_lt h2) rfl (fun ls' hl' => h (by rw [mst_len]; exact hL) (vok_st hvL trivial) (vok_tail hvs) H locs ls' hP hS (lvk_store (v := mI x) rfl hl'))
  | astore_n i =>
    obtain ⟨h1, h2⟩ := and_t hok
    have h1 := bq h1
    subst h1
    obtain ⟨x, r, rfl, h⟩ := kR_inv h
    exact lv_astore_n hx hb hdec rfl hl (by rw [hL]; exact blt_lt h2) rfl (fun ls' hl' => h (by rw [mst_len]; exact hL) (vok_st hvL (vok_head hvs)) (vok_tail hvs) H locs ls' hP hS (lvk_store (v := .inr (.inr x)) rfl hl'))
  | iinc i n =>
    obtain ⟨h1, h3⟩ := and_t hok
    obtain ⟨h1, h2⟩ := and_t h1
    have h1 := bq h1
    subst h1
    obtain ⟨v, h4, h⟩ := kld_inv h
    obtain ⟨x, rfl, h⟩ := kiv_inv h
    obtain ⟨q, hq⟩ := List.getElem?_of_mem (prs_mem (ad := ad) (q := (i, .int x)).mpr ⟨.inl x, h4, rfl⟩)
    exact lv_iinc (v := x + cv) hx hb hdec hl hq (by rw [eq_of_beq h3]) (by rw [hL]; exact blt_lt h2) rfl (fun ls' hl' => h (by rw [mst_len]; exact hL) (vok_st hvL trivial) hvs H locs ls' hP hS (lvk_store (v := mI (x + cv)) rfl hl'))
  | getfield idx =>
    have h2 := bq hok
    subst h2
    obtain ⟨⟨ci, f⟩, h1, h⟩ := kop_inv h
    obtain ⟨g, i, c', fs, r, rfl, h3, h⟩ := kO_inv h
    obtain ⟨h4, h⟩ := bif_t h
    have h4 := bq h4
    subst h4
    have hg : (g, i) ∈ mcs b := vok_head hvs
    obtain ⟨q0, hq, hat⟩ := wld_at (ad := ad) (cI := cI) (cZ := cZ) (cL := cL) (σ := σ) hg
    rw [mcell_obj h3] at hat
    obtain ⟨q, hq1, hq2, hq3⟩ := fld_ok h1
    have hcl := cls_ok hq1
    rcases kfs_inv h with ⟨h5, h⟩ | ⟨g', h5, h⟩
    · exact va_get (D := (dC, dI)) hx hb hts (fun w z => mw_wk k (hcl.1 w z)) hown hK hP q0 hat hq1 f hq2 (hw _ hq3) (fun _ z => z) (by rw [mfd_get, h5]; rfl) hdec (h hL hvL (vok_cons trivial (vok_tail hvs)) H locs ls hP hS hl)
    · exact va_get (D := (dC, dI)) hx hb hts (fun w z => mw_wk k (hcl.1 w z)) hown hK hP q0 hat hq1 f hq2 (hw _ hq3) (fun _ z => z) (by rw [mfd_get, h5]; rfl) hdec (h hL hvL (vok_cons (vok_fld hg h3 h5) (vok_tail hvs)) H locs ls hP hS hl)
  | putfield idx =>
    have h2 := bq hok
    subst h2
    obtain ⟨⟨ci, f⟩, h1, h⟩ := kop_inv h
    obtain ⟨v, st', rfl, h⟩ := k1_inv h
    obtain ⟨g, i, c', fs, r, rfl, h3, h⟩ := kO_inv h
    obtain ⟨h4, h⟩ := bif_t h
    have h4 := bq h4
    subst h4
    rcases kfs_inv h with ⟨h5, h⟩ | ⟨g', h5, h⟩
    · have hg : (g, i) ∈ mcs b := vok_head (vok_tail hvs)
      obtain ⟨q0, hq, hat⟩ := wld_at (ad := ad) (cI := cI) (cZ := cZ) (cL := cL) (σ := σ) hg
      have hset := wld_set (ad := ad) (cI := cI) (cZ := cZ) (cL := cL) (σ := σ) hq (upd (σ g i) f v)
      rw [mcell_obj h3] at hat hset
      obtain ⟨q, hq1, hq2, hq3⟩ := fld_ok h1
      obtain ⟨hc1, ⟨ty0, hc2⟩, hc3⟩ := cls_ok hq1
      obtain ⟨q', hq4, hq5, hq6⟩ := shp_obj h3
      have hqq : q' = q := Option.some.inj (hq4.symm.trans hq1)
      subst hqq
      refine va_put (D := (dC, dI)) (v := .int v) hx hb hts (fun w z => mw_wk k (hc1 w z)) ty0 hc2 hc3 hown hK hP (hD σ) hS q0 hat hq1 f hq2 (hw _ hq3) (fun _ z => z) (hq6 f h5).1 (hq6 f h5).2 rfl rfl (by rw [mfd_len]; exact (List.getElem?_eq_some_iff.mp h5).1) hdec (fun H1 locs1 hP1 hD1 hS1 => ?_)
      rw [mfd_set h5, hset] at hP1
      exact h hL hvL (vok_tail (vok_tail hvs)) H1 locs1 ls hP1 hS1 hl
    · exact h.elim
  | iaload =>
    have h2 := bq hok
    subst h2
    obtain ⟨g, i, n, j, r, rfl, h3, h4, h⟩ := kA_inv h
    obtain ⟨q0, hq, hat⟩ := wld_at (ad := ad) (cI := cI) (cZ := cZ) (cL := cL) (σ := σ) (show (g, i) ∈ mcs b from vok_head (vok_tail hvs))
    rw [mcell_arr h3] at hat
    exact va_iald (D := (dC, dI)) hx hb hK hP q0 0 hat rfl h4 hdec (h hL hvL (vok_cons trivial (vok_tail (vok_tail hvs))) H locs ls hP hS hl)
  | baload =>
    have h2 := bq hok
    subst h2
    obtain ⟨g, i, n, j, r, rfl, h3, h4, h⟩ := kA_inv h
    obtain ⟨q0, hq, hat⟩ := wld_at (ad := ad) (cI := cI) (cZ := cZ) (cL := cL) (σ := σ) (show (g, i) ∈ mcs b from vok_head (vok_tail hvs))
    rw [mcell_arr h3] at hat
    exact va_zald (D := (dC, dI)) hx hb hK hP q0 1 hat rfl h4 hdec (h hL hvL (vok_cons trivial (vok_tail (vok_tail hvs))) H locs ls hP hS hl)
  | iastore =>
    have h2 := bq hok
    subst h2
    obtain ⟨g, i, n, j, v, r, rfl, h3, h4, h⟩ := kS_inv h
    obtain ⟨q0, hq, hat⟩ := wld_at (ad := ad) (cI := cI) (cZ := cZ) (cL := cL) (σ := σ) (show (g, i) ∈ mcs b from vok_head (vok_tail (vok_tail hvs)))
    have hset := wld_set (ad := ad) (cI := cI) (cZ := cZ) (cL := cL) (σ := σ) hq (upd (σ g i) j.toNatClampNeg v)
    rw [mcell_arr h3] at hat hset
    refine va_iast (D := (dC, dI)) hx hb hK hP (hD σ) hS q0 0 hat rfl h4 hdec (fun H1 locs1 hP1 hD1 hS1 => ?_)
    exact h hL hvL (vok_tail (vok_tail (vok_tail hvs))) H1 locs1 ls (by rw [← hset]; exact hP1) hS1 hl
  | bastore =>
    have h2 := bq hok
    subst h2
    obtain ⟨g, i, n, j, v, r, rfl, h3, h4, h⟩ := kS_inv h
    obtain ⟨q0, hq, hat⟩ := wld_at (ad := ad) (cI := cI) (cZ := cZ) (cL := cL) (σ := σ) (show (g, i) ∈ mcs b from vok_head (vok_tail (vok_tail hvs)))
    have hset := wld_set (ad := ad) (cI := cI) (cZ := cZ) (cL := cL) (σ := σ) hq (upd (σ g i) j.toNatClampNeg (v &&& 1))
    rw [mcell_arr h3] at hat hset
    refine va_zast (D := (dC, dI)) hx hb hK hP (hD σ) hS q0 1 hat rfl h4 hdec (fun H1 locs1 hP1 hD1 hS1 => ?_)
    exact h hL hvL (vok_tail (vok_tail (vok_tail hvs))) H1 locs1 ls (by rw [← hset]; exact hP1) hS1 hl
  | aaload =>
    have h2 := bq hok
    subst h2
    obtain ⟨g, i, g', n, j, r, rfl, h3, h4, h⟩ := kQ_inv h
    have hg : (g, i) ∈ mcs b := vok_head (vok_tail hvs)
    obtain ⟨q0, hq, hat⟩ := wld_at (ad := ad) (cI := cI) (cZ := cZ) (cL := cL) (σ := σ) hg
    rw [mcell_ref h3] at hat
    have hlt : j.toNatClampNeg < n := Nat.not_le.mp fun q => h4 (Or.inr q)
    exact va_aldq (D := (dC, dI)) hx hb hK hP q0 2 hat rfl h4 hdec (h hL hvL (vok_cons (vok_ref hg h3 hlt) (vok_tail (vok_tail hvs))) H locs ls hP hS hl)
  | arraylength =>
    have h2 := bq hok
    subst h2
    obtain ⟨g, i, z, n, r, rfl, h3, h⟩ := kN_inv h
    obtain ⟨q0, hq, hat⟩ := wld_at (ad := ad) (cI := cI) (cZ := cZ) (cL := cL) (σ := σ) (show (g, i) ∈ mcs b from vok_head hvs)
    rw [mcell_arr h3] at hat
    cases z with
    | false => exact va_alen (D := (dC, dI)) hx hb hK hP q0 0 hat rfl rfl hdec (h hL hvL (vok_cons trivial (vok_tail hvs)) H locs ls hP hS hl)
    | true => exact va_alen (D := (dC, dI)) hx hb hK hP q0 1 hat rfl rfl hdec (h hL hvL (vok_cons trivial (vok_tail hvs)) H locs ls hP hS hl)
  | iadd =>
    have h2 := bq hok
    subst h2
    obtain ⟨x, y, r, rfl, h⟩ := k2_inv h
    exact lv_iadd hx hb hdec (h hL hvL (vok_cons trivial (vok_tail (vok_tail hvs))) H locs ls hP hS hl)
  | isub =>
    have h2 := bq hok
    subst h2
    obtain ⟨x, y, r, rfl, h⟩ := k2_inv h
    exact lv_isub hx hb hdec (h hL hvL (vok_cons trivial (vok_tail (vok_tail hvs))) H locs ls hP hS hl)
  | imul =>
    have h2 := bq hok
    subst h2
    obtain ⟨x, y, r, rfl, h⟩ := k2_inv h
    exact lv_imul hx hb hdec (h hL hvL (vok_cons trivial (vok_tail (vok_tail hvs))) H locs ls hP hS hl)
  | idiv =>
    have h2 := bq hok
    subst h2
    obtain ⟨x, y, r, rfl, h1, h⟩ := k2_inv h
    exact lv_idiv hx hb hdec h1 (h hL hvL (vok_cons trivial (vok_tail (vok_tail hvs))) H locs ls hP hS hl)
  | irem =>
    have h2 := bq hok
    subst h2
    obtain ⟨x, y, r, rfl, h1, h⟩ := k2_inv h
    exact lv_irem hx hb hdec h1 (h hL hvL (vok_cons trivial (vok_tail (vok_tail hvs))) H locs ls hP hS hl)
  | iand =>
    have h2 := bq hok
    subst h2
    obtain ⟨x, y, r, rfl, h⟩ := k2_inv h
    exact lv_iand hx hb hdec (h hL hvL (vok_cons trivial (vok_tail (vok_tail hvs))) H locs ls hP hS hl)
  | ishr =>
    have h2 := bq hok
    subst h2
    obtain ⟨x, y, r, rfl, h⟩ := k2_inv h
    exact lv_ishr hx hb hdec (h hL hvL (vok_cons trivial (vok_tail (vok_tail hvs))) H locs ls hP hS hl)
  | i2l =>
    have h2 := bq hok
    subst h2
    obtain ⟨x, r, rfl, h⟩ := k1_inv h
    exact lv_i2l hx hb hdec rfl (h hL hvL (vok_cons trivial (vok_tail hvs)) H locs ls hP hS hl)
  | lcmp =>
    have h2 := bq hok
    subst h2
    obtain ⟨x, y, r, rfl, h⟩ := kJJ_inv h
    exact W.lcmp hx hb hdec (h hL hvL (vok_cons trivial (vok_tail (vok_tail hvs))) H locs ls hP hS hl)
  | dup =>
    have h2 := bq hok
    subst h2
    obtain ⟨v, r, rfl, h1, h⟩ := kdp_inv (K := fun v r => mAt p l e R s m args below meth c Q dC dI ad cI cZ cL b k A (pc + 1) L (v :: v :: r) σ) h
    exact lv_dup hx hb hdec (mval_cat h1) (h hL hvL (vok_cons (vok_head hvs) hvs) H locs ls hP hS hl)
  | pop =>
    have h2 := bq hok
    subst h2
    obtain ⟨v, r, rfl, h⟩ := k1_inv h
    exact lv_pop hx hb hdec rfl (h hL hvL (vok_tail hvs) H locs ls hP hS hl)
  | goto off =>
    obtain ⟨h1, h2⟩ := and_t hok
    have h1 := bq h1
    subst h1
    exact lv_goto hx hb hdec (eq_of_beq h2) (h hL hvL hvs H locs ls hP hS hl)
  | ifCond cc off =>
    obtain ⟨h1, h2⟩ := and_t hok
    have h1 := bq h1
    subst h1
    have h2 := eq_of_beq h2
    cases cc <;> (obtain ⟨x, r, rfl, ha, hb'⟩ := k1_inv h)
    · exact lv_if_eq hx hb hdec h2 (fun q => ha q hL hvL (vok_tail hvs) H locs ls hP hS hl) (fun q => hb' q hL hvL (vok_tail hvs) H locs ls hP hS hl)
    · exact lv_if_ne hx hb hdec h2 (fun q => ha q hL hvL (vok_tail hvs) H locs ls hP hS hl) (fun q => hb' q hL hvL (vok_tail hvs) H locs ls hP hS hl)
    · exact lv_if_lt hx hb hdec h2 (fun q => ha q hL hvL (vok_tail hvs) H locs ls hP hS hl) (fun q => hb' q hL hvL (vok_tail hvs) H locs ls hP hS hl)
    · exact lv_if_ge hx hb hdec h2 (fun q => ha q hL hvL (vok_tail hvs) H locs ls hP hS hl) (fun q => hb' q hL hvL (vok_tail hvs) H locs ls hP hS hl)
    · exact lv_if_gt hx hb hdec h2 (fun q => ha q hL hvL (vok_tail hvs) H locs ls hP hS hl) (fun q => hb' q hL hvL (vok_tail hvs) H locs ls hP hS hl)
    · exact lv_if_le hx hb hdec h2 (fun q => ha q hL hvL (vok_tail hvs) H locs ls hP hS hl) (fun q => hb' q hL hvL (vok_tail hvs) H locs ls hP hS hl)
  | if_icmp cc off =>
    obtain ⟨h1, h2⟩ := and_t hok
    have h1 := bq h1
    subst h1
    have h2 := eq_of_beq h2
    cases cc <;> (obtain ⟨x, y, r, rfl, ha, hb'⟩ := k2_inv h)
    · exact lv_icmp_eq hx hb hdec h2 (fun q => ha q hL hvL (vok_tail (vok_tail hvs)) H locs ls hP hS hl) (fun q => hb' q hL hvL (vok_tail (vok_tail hvs)) H locs ls hP hS hl)
    · exact lv_icmp_ne hx hb hdec h2 (fun q => ha q hL hvL (vok_tail (vok_tail hvs)) H locs ls hP hS hl) (fun q => hb' q hL hvL (vok_tail (vok_tail hvs)) H locs ls hP hS hl)
    · exact lv_icmp_lt hx hb hdec h2 (fun q => ha q hL hvL (vok_tail (vok_tail hvs)) H locs ls hP hS hl) (fun q => hb' q hL hvL (vok_tail (vok_tail hvs)) H locs ls hP hS hl)
    · exact lv_icmp_ge hx hb hdec h2 (fun q => ha q hL hvL (vok_tail (vok_tail hvs)) H locs ls hP hS hl) (fun q => hb' q hL hvL (vok_tail (vok_tail hvs)) H locs ls hP hS hl)
    · exact lv_icmp_gt hx hb hdec h2 (fun q => ha q hL hvL (vok_tail (vok_tail hvs)) H locs ls hP hS hl) (fun q => hb' q hL hvL (vok_tail (vok_tail hvs)) H locs ls hP hS hl)
    · exact lv_icmp_le hx hb hdec h2 (fun q => ha q hL hvL (vok_tail (vok_tail hvs)) H locs ls hP hS hl) (fun q => hb' q hL hvL (vok_tail (vok_tail hvs)) H locs ls hP hS hl)
  | ireturn =>
    obtain ⟨h1, h2⟩ := and_t hok
    have h1 := bq h1
    subst h1
    obtain ⟨x, rfl, h⟩ := kr1_inv h
    refine hretI pc ls H locs σ x hdec ?_ hP hS h
    rcases Bool.or_eq_true_iff.mp h2 with q | q
    · exact Or.inl (bq q)
    · exact Or.inr (bq q)
  | areturn =>
    obtain ⟨h1, h2⟩ := and_t hok
    have h1 := bq h1
    subst h1
    obtain ⟨x, rfl, h⟩ := kr2_inv h
    exact hretA pc ls H locs σ x hdec (bq h2) (vok_head hvs) hP hS h
  | return_ =>
    obtain ⟨h1, h2⟩ := and_t hok
    have h1 := bq h1
    subst h1
    obtain ⟨rfl, h⟩ := kr0_inv h
    exact hretV pc ls H locs σ hdec (bq h2) hP hS h
  | new idx =>
    obtain ⟨rfl, h⟩ := kr0_inv h
    refine hnew pc idx len L ls H locs σ ⟨_, hc⟩ ?_ hL hl hP hS h
    rcases Bool.or_eq_true_iff.mp hok with q | q
    · exact Or.inl (bq q)
    · exact Or.inr (bq q)
  | tableswitch d lo hi offs =>
    obtain ⟨x, r, rfl, h1, h2⟩ := k1_inv h
    have hsz : hi - lo + 1 = (offs.size : Int) := eq_of_beq hok
    by_cases ho : x.toInt < lo ∨ hi < x.toInt
    · obtain ⟨h3, h4⟩ := h1 ho
      exact lv_tableOut hx hb hdec ho (Int.toNat_of_nonneg h4).symm (h3 hL hvL (vok_tail hvs) H locs ls hP hS hl)
    · have hlt : (x.toInt - lo).toNat < offs.size := by omega
      obtain ⟨h3, h4⟩ := h2 _ _ (Array.getElem?_eq_getElem hlt) (by omega)
      exact lv_tableIn hx hb hdec (fun q => ho (Or.inl q)) (fun q => ho (Or.inr q)) (Array.getElem?_eq_getElem hlt) (Int.toNat_of_nonneg h4).symm (h3 hL hvL (vok_tail hvs) H locs ls hP hS hl)
  | invokevirtual idx =>
    obtain ⟨h1, h2⟩ := and_t hok
    have h1 := bq h1
    subst h1
    obtain ⟨⟨stat, j, n⟩, hm, h⟩ := kop_inv h
    obtain ⟨h3, h⟩ := bif_f h
    have h3 : stat = false := by cases stat <;> first | rfl | cases h3
    subst h3
    dsimp only at h
    have key : Nat.beq j 1000 = false ∧ Nat.beq j 1001 = false ∧ Nat.beq j 1002 = false ∧ Nat.beq j 1003 = false := by
      obtain ⟨h4, h5⟩ := mth_ok hm
      unfold okM at h4
      rw [h5] at h4
      dsimp only at h4
      refine ⟨?_, ?_, ?_, ?_⟩
      · cases q : Nat.beq j 1000 with
        | false => rfl
        | true => have := bq q; subst this; cases h4
      · cases q : Nat.beq j 1001 with
        | false => rfl
        | true => have := bq q; subst this; cases h4
      · cases q : Nat.beq j 1002 with
        | false => rfl
        | true => have := bq q; subst this; cases h4
      · cases q : Nat.beq j 1003 with
        | false => rfl
        | true => have := bq q; subst this; cases h4
    obtain ⟨hj, hlink, hdesc, -, hinst⟩ := okM_of hm key.1 key.2.1 key.2.2.1 key.2.2.2
    have hble : Nat.ble 1000 j = false := by
      cases q : Nat.ble 1000 j with
      | false => rfl
      | true => have := Nat.le_of_ble_eq_true q; omega
    have hroom := room_of hm h2 hble key.1
    obtain ⟨hini, hcl, hpl, hn1, hn2, -⟩ := okC_of hj
    unfold kcl at h
    rw [key.1, key.2.1, key.2.2.1, key.2.2.2] at h
    obtain ⟨x, r, rfl, hlen, h⟩ := ktk_inv _ _ _ h
    obtain ⟨h4, h⟩ := bif_t h
    obtain ⟨h4, h5⟩ := and_t h4
    obtain ⟨h5, h6⟩ := and_t h5
    obtain ⟨q, hE, h⟩ := h
    rw [List.append_nil] at h5 h6 hE
    obtain ⟨g, i, fs, As, hxr, hsh⟩ := mrcv_inv h6
    have hvx : ∀ v ∈ x.reverse, vok b v := fun v hv => hvs v (List.mem_append_left _ (List.mem_reverse.mp hv))
    have hM := hcall j x.reverse σ q hj hroom.2 hE (by rw [mlv_len]; exact Nat.le_of_ble_eq_true h5) hvx H.size
    have hxe : x = As.reverse ++ [.inr (.inr (g, i))] := by
      have := congrArg List.reverse hxr
      simpa using this
    rw [hxr] at hM hvx
    have hg : (g, i) ∈ mcs b := vok_head hvx
    obtain ⟨q0, hq, hat⟩ := wld_at (ad := ad) (cI := cI) (cZ := cZ) (cL := cL) (σ := σ) hg
    rw [mcell_obj hsh] at hat
    obtain ⟨qc, hqc, -, -⟩ := shp_obj hsh
    have hF := wld_free (hD σ) hS hA
    have hqn : qc.1 = (ycd j).cls := by
      rw [hcl]
      have hlt : mcl j < 9 := (List.getElem?_eq_some_iff.mp hqc).1
      revert hqc
      generalize mcl j = z at hlt
      intro hqc
      match z, hlt, hqc with
      | 0, _, hqc => cases hqc; rfl
      | 1, _, hqc => cases hqc; rfl
      | 2, _, hqc => cases hqc; rfl
      | 3, _, hqc => cases hqc; rfl
      | 4, _, hqc => cases hqc; rfl
      | 5, _, hqc => cases hqc; rfl
      | 6, _, hqc => cases hqc; rfl
      | 7, _, hqc => cases hqc; rfl
      | 8, _, hqc => cases hqc; rfl
      | z + 9, hlt, _ => exact absurd hlt (by omega)
    have hrecv := va_recv hK hP hqc hat
    rw [hqn] at hrecv
    refine m_call (va_runV (As := As.map (mval ad)) (rest := r.map (mval ad)) (b := ad g i) (C := (ycd j).cls) (n := n) ⟨hx, hb, hml, hown, hts⟩ hM
      (cwV n hts (good_call hj k (w0 := [.methodLink (onm (mcl k)) idx (ycd j), .instanceMethod (ycd j), .selects (ycd j).cls (ycd j) (ycd j), .initialized (ycd j).cls]) (by
        intro w hw9
        simp only [List.mem_cons, List.not_mem_nil, or_false] at hw9
        rcases hw9 with rfl | rfl | rfl | rfl
        · exact hlink
        · exact (hinst rfl).1
        · exact (hinst rfl).2
        · exact hini)) rfl rfl rfl ⟨rfl, hn1, hn2, hdesc⟩ (by rw [hR]; exact hroom.1))
      ⟨mPc_blind, hrecv, fun U hU hW => ⟨rfl, by rw [hU], by rw [hU]; exact hP, va_K.moved hW.alike hK, (hD σ).weaken (fun _ _ _ _ => trivial)⟩⟩
      rfl ?_ (hl.1.trans hL) ?_ (lv_room (by rw [mval_wd]; exact Nat.le_of_ble_eq_true h4)) hdec ⟨Nat.zero_le _, Nat.zero_le _⟩) hS (fun q _ z => hF q z) hF (fun v σ' H1 locs1 hv9 hp9 hP9 hS9 => ?_)
    · have : x.length = n + 1 := hlen
      rw [hxe] at this
      simpa using this
    · show ((x ++ r).map (mval ad)) = _
      rw [hxe]
      simp [mval]
    · have hK9 := h v σ' hp9 hL hvL (by
        intro w hw9
        rcases List.mem_append.mp hw9 with z | z
        · cases v with
          | none => cases z
          | some v0 => rw [List.mem_singleton.mp z]; exact hv9 v0 rfl
        · exact hvs w (List.mem_append_right _ z)) H1 locs1 ls hP9 hS9 hl
      cases v with
      | none => exact hK9
      | some v0 => exact hK9
  | invokestatic idx =>
    obtain ⟨h1, h2⟩ := and_t hok
    have h1 := bq h1
    subst h1
    obtain ⟨⟨stat, j, n⟩, hm, h⟩ := kop_inv h
    obtain ⟨h3, h⟩ := bif_f h
    have h3 : stat = true := by cases stat <;> first | rfl | cases h3
    subst h3
    dsimp only at h
    have hmm := mth_ok hm
    obtain ⟨hok1, hok2⟩ := hmm
    unfold okM at hok1
    rw [hok2] at hok1
    dsimp only at hok1
    have hroom := h2
    unfold roomOK at hroom
    rw [hm] at hroom
    dsimp only at hroom
    unfold kcl at h
    have hmath : (Cond.initialized "java/lang/Math").before args s = true := hw _ (inW_mw ok_math)
    have hsize : c.maxLocals = ls.size := hml.trans (hl.1.trans hL).symm
    cases h00 : Nat.beq j 1000 with
    | true =>
      have hj := bq h00
      subst hj
      rw [h00] at h
      obtain ⟨g, i, n0, g', i', n1, sp, dp, nn, rfl, hs1, hs2, ⟨c1, c2, c3, c4, c5⟩, h⟩ := kcp_inv h
      have hv1 : (g', i') ∈ mcs b := vok_head (vok_tail (vok_tail hvs))
      have hv2 : (g, i) ∈ mcs b := vok_head (vok_tail (vok_tail (vok_tail (vok_tail hvs))))
      obtain ⟨q0, hq0, hat0⟩ := wld_at (ad := ad) (cI := cI) (cZ := cZ) (cL := cL) (σ := σ) hv2
      obtain ⟨q1, hq1, hat1⟩ := wld_at (ad := ad) (cI := cI) (cZ := cZ) (cL := cL) (σ := σ) hv1
      have hset := wld_set (ad := ad) (cI := cI) (cZ := cZ) (cL := cL) (σ := σ) hq1 (va_cpy (σ g i) (σ g' i') sp.toNatClampNeg dp.toNatClampNeg nn.toNatClampNeg)
      rw [mcell_arr hs1] at hat0
      rw [mcell_arr hs2] at hat1 hset
      obtain ⟨hr1, hr2⟩ := and_t hroom
      obtain ⟨k1', k3'⟩ := and_t ok_copy
      obtain ⟨k1', k2'⟩ := and_t k1'
      have hlk : inW (mti (mcl k) idx).1 (Cond.methodLink (onm (mcl k)) idx arraycopyName) = true := hok1
      refine va_copyi (D := (dC, dI)) (ty := .int) hx hb hsize hown (hw _ (inW_mw hlk)) (hw _ (inW_mw k1')) (hw _ (inW_mw k2')) (hw _ (inW_mw k3')) hK hP (hD σ) hS q0 q1 0 0 hat0 hat1 rfl rfl rfl c1 c2 c3 c4 c5 (fun _ _ => rfl) (by rw [hR]; exact Nat.le_of_ble_eq_true hr1) (by rw [hR]; exact Nat.le_trans (by simp) (Nat.le_of_ble_eq_true hr2)) hdec (fun H1 locs1 hP1 hD1 hS1 => ?_)
      exact h hL hvL (fun _ z => by cases z) H1 locs1 ls (by rw [← hset]; exact hP1) hS1 hl
    | false =>
      rw [h00] at h hroom hok1
      cases h01 : Nat.beq j 1001 with
      | true =>
        have hj := bq h01
        subst hj
        obtain ⟨x, r, rfl, h⟩ := k1_inv h
        obtain ⟨h4, h⟩ := bif_t h
        obtain ⟨hr1, hr2⟩ := and_t hroom
        obtain ⟨hok1, hw3⟩ := and_t hok1
        obtain ⟨hok1, hw2⟩ := and_t hok1
        obtain ⟨-, hw1⟩ := and_t hok1
        refine va_mabs hx hb hsize hown (hw _ (inW_mw hw1)) (hw _ (inW_mw hw2)) hmath (hw _ (inW_mw hw3)) (by rw [hR]; exact Nat.le_of_ble_eq_true hr1) ?_ (Nat.zero_le _) (Nat.zero_le _) hdec (h hL hvL (vok_cons trivial (vok_tail hvs)) H locs ls hP hS hl)
        rw [mval_wd, hR]
        exact Nat.le_trans (Nat.add_le_add_right (Nat.le_of_ble_eq_true h4) 13) (Nat.le_of_ble_eq_true hr2)
      | false =>
      cases h02 : Nat.beq j 1002 with
      | true =>
        have hj := bq h02
        subst hj
        obtain ⟨x, y, r, rfl, h⟩ := k2_inv h
        obtain ⟨h4, h⟩ := bif_t h
        obtain ⟨hr1, hr2⟩ := and_t hroom
        obtain ⟨hok1, hw3⟩ := and_t hok1
        obtain ⟨hok1, hw2⟩ := and_t hok1
        obtain ⟨-, hw1⟩ := and_t hok1
        refine va_mmax hx hb hsize hown (hw _ (inW_mw hw1)) (hw _ (inW_mw hw2)) hmath (hw _ (inW_mw hw3)) (by rw [hR]; exact Nat.le_of_ble_eq_true hr1) ?_ (Nat.zero_le _) (Nat.zero_le _) hdec (h hL hvL (vok_cons trivial (vok_tail (vok_tail hvs))) H locs ls hP hS hl)
        rw [mval_wd, hR]
        exact Nat.le_trans (Nat.add_le_add_right (Nat.le_of_ble_eq_true h4) 13) (Nat.le_of_ble_eq_true hr2)
      | false =>
      cases h03 : Nat.beq j 1003 with
      | true =>
        have hj := bq h03
        subst hj
        obtain ⟨x, y, r, rfl, h⟩ := k2_inv h
        obtain ⟨h4, h⟩ := bif_t h
        obtain ⟨hr1, hr2⟩ := and_t hroom
        obtain ⟨hok1, hw3⟩ := and_t hok1
        obtain ⟨hok1, hw2⟩ := and_t hok1
        obtain ⟨-, hw1⟩ := and_t hok1
        refine va_mmin hx hb hsize hown (hw _ (inW_mw hw1)) (hw _ (inW_mw hw2)) hmath (hw _ (inW_mw hw3)) (by rw [hR]; exact Nat.le_of_ble_eq_true hr1) ?_ (Nat.zero_le _) (Nat.zero_le _) hdec (h hL hvL (vok_cons trivial (vok_tail (vok_tail hvs))) H locs ls hP hS hl)
        rw [mval_wd, hR]
        exact Nat.le_trans (Nat.add_le_add_right (Nat.le_of_ble_eq_true h4) 13) (Nat.le_of_ble_eq_true hr2)
      | false =>
      obtain ⟨hj, hlink, hdesc, hstt, -⟩ := okM_of hm h00 h01 h02 h03
      have hble : Nat.ble 1000 j = false := by
        cases q : Nat.ble 1000 j with
        | false => rfl
        | true => have := Nat.le_of_ble_eq_true q; omega
      have hroom := room_of hm h2 hble h00
      obtain ⟨hini, hcl, hpl, hn1, hn2, -⟩ := okC_of hj
      rw [h01, h02, h03] at h
      obtain ⟨x, r, rfl, hlen, h⟩ := ktk_inv _ _ _ h
      obtain ⟨h4, h⟩ := bif_t h
      obtain ⟨h4, h5⟩ := and_t h4
      obtain ⟨h5, h6⟩ := and_t h5
      obtain ⟨q, hE, h⟩ := h
      rw [List.append_nil] at h5 hE
      have hvx : ∀ v ∈ x.reverse, vok b v := fun v hv => hvs v (List.mem_append_left _ (List.mem_reverse.mp hv))
      have hM := hcall j x.reverse σ q hj hroom.2 hE (by rw [mlv_len]; exact Nat.le_of_ble_eq_true h5) hvx H.size
      have hF := wld_free (hD σ) hS hA
      refine m_call (va_runS (As := x.reverse.map (mval ad)) (rest := r.map (mval ad)) (n := n) ⟨hx, hb, hml, hown, hts⟩ hM
        (va_cwS n hts (good_call hj k (w0 := [.methodLink (onm (mcl k)) idx (ycd j), .static (ycd j), .initialized (ycd j).cls]) (by
          intro w hw9
          simp only [List.mem_cons, List.not_mem_nil, or_false] at hw9
          rcases hw9 with rfl | rfl | rfl
          · exact hlink
          · exact hstt rfl
          · exact hini)) rfl rfl rfl ⟨hn1, hn2, hdesc⟩ (by rw [hR]; exact hroom.1))
        ⟨mPc_blind, fun U hU hW => ⟨rfl, by rw [hU], by rw [hU]; exact hP, va_K.moved hW.alike hK, (hD σ).weaken (fun _ _ _ _ => trivial)⟩⟩
        rfl ?_ (hl.1.trans hL) ?_ (lv_room (by rw [mval_wd]; exact Nat.le_of_ble_eq_true h4)) hdec ⟨Nat.zero_le _, Nat.zero_le _⟩) hS (fun q _ z => hF q z) hF (fun v σ' H1 locs1 hv9 hp9 hP9 hS9 => ?_)
      · rw [List.length_map, List.length_reverse]
        exact hlen
      · show ((x ++ r).map (mval ad)) = _
        simp
      · have hK9 := h v σ' hp9 hL hvL (by
          intro w hw9
          rcases List.mem_append.mp hw9 with z | z
          · cases v with
            | none => cases z
            | some v0 => rw [List.mem_singleton.mp z]; exact hv9 v0 rfl
          · exact hvs w (List.mem_append_right _ z)) H1 locs1 ls hP9 hS9 hl
        cases v with
        | none => exact hK9
        | some v0 => exact hK9
  | _ => exact h.elim
end SND

section MET
variable {p : Program} {l : Launch} {e : Env} {R : Room} {s : State} {m : MethodId} {args : Array Value} {below : List Frame} {meth : Method} {c : Code} {H : Heap} {locs : List Loc} {cells slots : Nat} {Q : State → Prop}
/-- the end of a method whose answer is narrowed -/
theorem z_ret {cc : ByteArray} {Qc : Array Value → State → Outcome → State → Prop} {free : Addr → Prop} {v v' : Int32} {ty : FieldType} (hexec : p.tables.exec = Jvm.exec) (hb : c.code = cc) (hr : meth.sig.returnType = some ty) (hn : narrow ty (.int v) = .int v')
    (hq : ∀ t : State, t.heap = H → s.WarmedH t.vm → Qc args s (.returned (some (.int v'))) t) (hf : ∀ q ∈ locs, free q.base)
    {pc : Nat} {ls : Array Slot} (hdg : decode cc pc = .ok (.ireturn, 1)) (hlocks : meth.locks = false) : W p l e R s m args below meth c H locs cells slots (MQ below Qc args s cells slots free) (F0 m pc ls [.int v]) := by
  intro T hT X
  have hlocks : meth.locks = false := hlocks
  obtain ⟨fs, hret, hrun, hended, hW, hframe⟩ := X.leave (v := some (.int v')) (fun h => by rw [hr] at h; cases h)
  have hmeth' : T.vm.method? m = some meth := X.method'
  refine ⟨T.setFrames fs, ?_, .returned (some (.int v')), hrun, hended, hq _ hT hW, locs, ⟨⟨_, rfl⟩, hW, hframe⟩, hf⟩
  jvm_step X.here [X.here.top, hexec, hb, hdg, hmeth', hr, hn]
  (try refine ⟨rfl, ?_⟩); (try refine ⟨rfl, ?_⟩)
  first | (intro acts; rw [hret _ acts rfl rfl rfl]) | rw [hret _ _ rfl rfl rfl]
  exact Steps.refl _
end MET
theorem lv_args_mini {ad : Nat → Nat → Nat} : ∀ (a : List mV) (o j : Nat) (v : mV), (mlv a)[j]? = some (some v) → (o + j, mval ad v) ∈ lv_args o (a.map (mval ad))
  | [], _, _, _, h => by simp [mlv] at h
  | .inl x :: r, o, j, v, h => by
    cases j with
    | zero => simp only [mlv, List.getElem?_cons_zero, Option.some.injEq] at h; subst h; exact List.mem_cons_self
    | succ j =>
      have h : (mlv r)[j]? = some (some v) := h
      have := lv_args_mini (ad := ad) r (o + 1) j v h
      rw [show o + (j + 1) = o + 1 + j by omega]
      exact List.mem_cons_of_mem _ this
  | .inr (.inr x) :: r, o, j, v, h => by
    cases j with
    | zero => simp only [mlv, List.getElem?_cons_zero, Option.some.injEq] at h; subst h; exact List.mem_cons_self
    | succ j =>
      have h : (mlv r)[j]? = some (some v) := h
      have := lv_args_mini (ad := ad) r (o + 1) j v h
      rw [show o + (j + 1) = o + 1 + j by omega]
      exact List.mem_cons_of_mem _ this
  | .inr (.inl x) :: r, o, j, v, h => by
    match j, h with
    | 0, h => simp only [mlv, List.getElem?_cons_zero, Option.some.injEq] at h; subst h; exact List.mem_cons_self
    | 1, h => simp [mlv] at h
    | j + 2, h =>
      have h : (mlv r)[j]? = some (some v) := h
      have := lv_args_mini (ad := ad) r (o + 2) j v h
      rw [show o + (j + 2) = o + 2 + j by omega]
      exact List.mem_cons_of_mem _ this
theorem lg_sl_len {ad : Nat → Nat → Nat} : ∀ a : List mV, (lg_sl (a.map (mval ad))).length = (mlv a).length
  | [] => rfl
  | .inl x :: r => by
    have := lg_sl_len (ad := ad) r
    simp only [lg_sl, List.map_cons, List.flatMap_cons, List.length_append, mlv, List.length_cons] at this ⊢
    rw [this]; simp [mval, Value.category]; omega
  | .inr (.inr x) :: r => by
    have := lg_sl_len (ad := ad) r
    simp only [lg_sl, List.map_cons, List.flatMap_cons, List.length_append, mlv, List.length_cons] at this ⊢
    rw [this]; simp [mval, Value.category]; omega
  | .inr (.inl x) :: r => by
    have := lg_sl_len (ad := ad) r
    simp only [lg_sl, List.map_cons, List.flatMap_cons, List.length_append, mlv, List.length_cons] at this ⊢
    rw [this]; simp [mval, Value.category]; omega
theorem mini_get {n : Nat} {a : List mV} {j : Nat} {v : mV} (h : (mini n a)[j]? = some (some v)) : (mlv a)[j]? = some (some v) := by
  unfold mini at h
  by_cases hj : j < (mlv a).length
  · rwa [List.getElem?_append_left hj] at h
  · rw [List.getElem?_append_right (by omega), List.getElem?_replicate] at h
    split at h <;> simp at h
theorem mini_len {n : Nat} {a : List mV} (h : (mlv a).length ≤ n) : (mini n a).length = n := by
  unfold mini
  rw [List.length_append, List.length_replicate]
  omega
theorem mlv_mem : ∀ (a : List mV) (v : mV), some v ∈ mlv a → v ∈ a
  | [], v, h => by simp [mlv] at h
  | .inl x :: r, v, h => by
    rcases List.mem_cons.mp h with q | q
    · cases q; exact List.mem_cons_self
    · exact List.mem_cons_of_mem _ (mlv_mem r v q)
  | .inr (.inr x) :: r, v, h => by
    rcases List.mem_cons.mp h with q | q
    · cases q; exact List.mem_cons_self
    · exact List.mem_cons_of_mem _ (mlv_mem r v q)
  | .inr (.inl x) :: r, v, h => by
    rcases List.mem_cons.mp h with q | q
    · cases q; exact List.mem_cons_self
    · rcases List.mem_cons.mp q with q | q
      · cases q
      · exact List.mem_cons_of_mem _ (mlv_mem r v q)
theorem mini_lvk {ad : Nat → Nat → Nat} {n : Nat} {a : List mV} (h : (mlv a).length ≤ n) : lvk ad ((lg_sl (a.map (mval ad)) ++ List.replicate (n - (lg_sl (a.map (mval ad))).length) Slot.unset).toArray) (mini n a) := by
  have h1 := lv_entry (a.map (mval ad)) (n := n) (by rw [lg_sl_len]; exact h)
  refine ⟨by rw [mini_len h]; exact h1.1, h1.2.1, fun q hq => ?_⟩
  obtain ⟨v, h2, h3⟩ := prs_mem.mp hq
  have h4 := lv_args_mini (ad := ad) a 0 q.1 v (mini_get h2)
  rw [Nat.zero_add, ← h3] at h4
  exact h1.2.2 q h4
theorem mrt_rcd {k : Nat} : (mrt k = 0 → rcd k = none) ∧ (mrt k = 1 → rcd k = some .int) ∧ (mrt k = 2 → rcd k = some .boolean) ∧ (mrt k = 3 → rcd k = some (.object RX4)) := by
  refine ⟨fun h => ?_, fun h => ?_, fun h => ?_, fun h => ?_⟩ <;> (unfold rcd; rw [h]; rfl)
set_option maxHeartbeats 2000000 in
/-- WHAT THE SMALL MACHINE SAYS OF A METHOD HOLDS OF THE REAL ONE -/
theorem sound {l : Launch} {dC : Nat → ClassId} {dI : Nat → Nat → Nat} {ad : Nat → Nat → Nat} {cI cZ cL : ClassId} {b : Bool} {k : Nat} {a : List mV} {σ : mS} {post : Option mV → mS → Prop} (hv : Ev k a σ post) (hk : k < 146) (hne : k ≠ kX7_moved ∧ k ≠ kX7_row) (hlen : (mlv a).length ≤ mml k) (hvk : ∀ v ∈ a, vok b v) :
    mMet l dC dI ad cI cZ cL b k a σ post := by
  refine hv (fun k a σ post => k < 146 → (k ≠ kX7_moved ∧ k ≠ kX7_row) → (mlv a).length ≤ mml k → (∀ v ∈ a, vok b v) → mMet l dC dI ad cI cZ cL b k a σ post) ?_ hk hne hlen hvk
  intro k a σ post hG hk hne hlen hvk sz
  obtain ⟨hini, hcl, hpl, hn1, hn2, -⟩ := okC_of hk
  refine Met.ofW (cc := bcd k) (maxL := mml k) (ret := rcd k) hpl rfl ?_
  intro p e s m args below meth c s₁ B hml hv
  obtain ⟨rfl, hsz, hP, hK, hD0⟩ := hv
  have hx := B.exec
  have hb := B.bytes
  have hr := B.returns
  have hts := atoms_spec (ws := wk k) B.pre
  have hown : s.vm.findClass (onm (mcl k)) = some m.cls := by rw [← hcl]; exact findClass_of_methodNamed B.named
  have hlocks := B.notSynchronized
  subst hsz
  have hD := hD0.self (sz := s.heap.size)
  generalize hAe : va_A (wld ad cI cZ cL b σ) s.heap.size = A at hD ⊢
  have hA : ∀ q : Nat, s.heap.size ≤ q → A q := fun q h => by rw [← hAe]; exact Or.inr h
  have hS : va_S A s.heap s.heap [] := va_S.rf
  rw [lg_entry_eq]
  have hcl9 := mAt_cl (p := p) (l := l) (e := e) (R := rmk k) (s := s) (m := m) (args := (a.map (mval ad)).toArray) (below := below) (meth := meth) (c := c) (Q := MQ below (mQc dC dI ad cI cZ cL b post A) (a.map (mval ad)).toArray s 0 0 A) (dC := dC) (dI := dI) (ad := ad) (cI := cI) (cZ := cZ) (cL := cL) (b := b) (k := k) (A := A) (E := fun k a σ post => k < 146 → (k ≠ kX7_moved ∧ k ≠ kX7_row) → (mlv a).length ≤ mml k → (∀ v ∈ a, vok b v) → mMet l dC dI ad cI cZ cL b k a σ post) (post := post) hk rfl hx hb hml hown hts hK hA (fun σ' => wld_D hD)
    ?_ ?_ ?_ ?_ ?_
  · exact hG _ hcl9 (mini_len hlen) (fun v hv => hvk v (mlv_mem a v (by
      obtain ⟨j, hj⟩ := List.getElem?_of_mem hv
      exact List.mem_of_getElem? (mini_get hj)))) (fun _ h => by cases h) s.heap [] _ hP hS (mini_lvk hlen)
  · exact fun j a σ post hj hn hE hl hv => hE hj hn hl hv
  · intro pc ls H locs σ' x hdec hrt hP' hS' hpost
    rcases hrt with q | q
    · rw [mrt_rcd.2.1 q] at hr
      rw [q] at hpost
      exact W.iret (v := x) hx hb hr (fun t ht hW => ⟨⟨some (mI x), σ', rfl, fun v h => by cases h; trivial, hpost, by rw [ht]; exact hP', va_K.moved hW.alike hK⟩, hS'.F ht⟩) hS'.2.2 hdec
    · rw [mrt_rcd.2.2.1 q] at hr
      rw [q] at hpost
      exact z_ret (v := x) (v' := x &&& 1) hx hb hr rfl (fun t ht hW => ⟨⟨some (mI (x &&& 1)), σ', rfl, fun v h => by cases h; trivial, hpost, by rw [ht]; exact hP', va_K.moved hW.alike hK⟩, hS'.F ht⟩) hS'.2.2 hdec hlocks
  · intro pc ls H locs σ' x hdec hrt hxm hP' hS' hpost
    rw [mrt_rcd.2.2.2 hrt] at hr
    exact W.aret (v := .ref (ad x.1 x.2)) hx hb hr (Or.inl ⟨_, rfl⟩) (Or.inr ⟨_, rfl⟩) (fun t ht hW => ⟨⟨some (.inr (.inr x)), σ', rfl, fun v h => by cases h; exact hxm, hpost, by rw [ht]; exact hP', va_K.moved hW.alike hK⟩, hS'.F ht⟩) hS'.2.2 hdec
  · intro pc ls H locs σ' hdec hrt hP' hS' hpost
    rw [mrt_rcd.1 hrt] at hr
    exact W.vret hx hb hr (fun t ht hW => ⟨⟨none, σ', rfl, fun v h => (by cases h), hpost, by rw [ht]; exact hP', va_K.moved hW.alike hK⟩, hS'.F ht⟩) hS'.2.2 hdec
  · intro pc idx len L ls H locs σ' _ hkk
    rcases hkk with q | q
    · exact absurd q hne.1
    · exact absurd q hne.2
end
section
/-! TOOLS for methods of the small machine -/
theorem call_of {k : Nat} {a : List mV} {σ σ' : mS} {v : Option mV} {K : Option mV → mS → Prop} (h : Ev k a σ (fun r s => r = v ∧ s = σ')) (hk : K v σ') : ∃ post : Option mV → mS → Prop, Ev k a σ post ∧ ∀ r s, post r s → K r s :=
  ⟨_, h, fun r s ⟨e1, e2⟩ => by rw [e1, e2]; exact hk⟩
theorem call_ex {k : Nat} {a : List mV} {σ : mS} {post : Option mV → mS → Prop} {K : Option mV → mS → Prop} (h : Ev k a σ post) (hk : ∀ r s, post r s → K r s) : ∃ post : Option mV → mS → Prop, Ev k a σ post ∧ ∀ r s, post r s → K r s := ⟨_, h, hk⟩
/-- a loop that counts up -/
theorem loop_up {G : mK} (pc N : Nat) (L : Nat → mL) (S : Nat → mS) (hs : ∀ i, i < N → G pc (L (i + 1)) [] (S (i + 1)) → G pc (L i) [] (S i)) (he : G pc (L N) [] (S N)) : ∀ i, i ≤ N → G pc (L i) [] (S i) := by
  have : ∀ n i, i + n = N → G pc (L i) [] (S i) := by
    intro n
    induction n with
    | zero => intro i h; have : i = N := by omega
              subst this; exact he
    | succ n ih => intro i h; exact hs i (by omega) (ih (i + 1) (by omega))
  exact fun i h => this (N - i) i (by omega)
/-- a loop from one place on -/
theorem loop_from {G : mK} (pc a N : Nat) (L : Nat → mL) (S : Nat → mS) (hs : ∀ i, a ≤ i → i < N → G pc (L (i + 1)) [] (S (i + 1)) → G pc (L i) [] (S i)) (he : G pc (L N) [] (S N)) : ∀ i, a ≤ i → i ≤ N → G pc (L i) [] (S i) := by
  have : ∀ n i, a ≤ i → i + n = N → G pc (L i) [] (S i) := by
    intro n
    induction n with
    | zero => intro i _ h; have : i = N := by omega
              subst this; exact he
    | succ n ih => intro i ha h; exact hs i ha (by omega) (ih (i + 1) (by omega) (by omega))
  exact fun i ha h => this (N - i) i ha (by omega)
/-- what n rounds make of a -/
def fo {α : Type} (f : Nat → α → α) (a : α) : Nat → α
  | 0 => a
  | n + 1 => f n (fo f a n)
theorem fo_succ {α : Type} (f : Nat → α → α) (a : α) (n : Nat) : fo f a (n + 1) = f n (fo f a n) := rfl
theorem fo_add {α : Type} (f : Nat → α → α) (a : α) (m : Nat) : ∀ n, fo f a (m + n) = fo (fun i => f (m + i)) (fo f a m) n
  | 0 => rfl
  | n + 1 => by
    show f (m + n) (fo f a (m + n)) = f (m + n) _
    rw [fo_add f a m n]
theorem fo_cong {α : Type} {f g : Nat → α → α} {a : α} : ∀ {n : Nat}, (∀ i, i < n → ∀ x, f i x = g i x) → fo f a n = fo g a n
  | 0, _ => rfl
  | n + 1, h => by rw [fo_succ, fo_succ, fo_cong (fun i hi => h i (by omega)), h n (by omega)]
theorem fo_id {α : Type} {f : Nat → α → α} {a : α} : ∀ {n : Nat}, (∀ i, i < n → ∀ x, f i x = x) → fo f a n = a
  | 0, _ => rfl
  | n + 1, h => by rw [fo_succ, fo_id (fun i hi => h i (by omega)), h n (by omega)]
theorem fo_ind {α : Type} {f : Nat → α → α} {a : α} (P : Nat → α → Prop) (h0 : P 0 a) : ∀ {n : Nat}, (∀ i, i < n → ∀ x, P i x → P (i + 1) (f i x)) → P n (fo f a n)
  | 0, _ => h0
  | n + 1, h => h n (by omega) _ (fo_ind P h0 (fun i hi => h i (by omega)))
theorem nI_c (n : Nat) : (OfNat.ofNat n : Int32) = nI n := rfl
theorem nI_cl {n : Nat} (h : n < 2 ^ 31) : (nI n).toNatClampNeg = n := nI_clamp h
theorem upd_eq (f : Nat → Int32) (k : Nat) (x : Int32) : upd f k x k = x := by simp [upd]
theorem upd_ne (f : Nat → Int32) {k j : Nat} (x : Int32) (h : j ≠ k) : upd f k x j = f j := by simp [upd, h]
theorem not_le_of {a b : Int32} (h : a < b) : ¬ b ≤ a := by
  rw [Int32.le_iff_toInt_le]
  rw [Int32.lt_iff_toInt_lt] at h
  omega
theorem i_le {a b : Nat} (hb : b < 2 ^ 31) (ha : a < 2 ^ 31) : nI a ≤ nI b ↔ a ≤ b := nI_leI ha hb
theorem i_lt {a b : Nat} (hb : b < 2 ^ 31) (ha : a < 2 ^ 31) : nI a < nI b ↔ a < b := nI_ltI ha hb
theorem nI_m1 {n : Nat} (h : 0 < n) : nI n - 1 = nI (n - 1) := by
  obtain ⟨k, rfl⟩ : ∃ k, n = k + 1 := ⟨n - 1, by omega⟩
  rw [nI_pred]
  rfl
theorem vp_nI {x : Int32} {n : Nat} (hn : n < 2 ^ 31) : vp_in x n ↔ ∃ j, j < n ∧ x = nI j := ⟨fun h => vp_in_of h hn, fun ⟨j, h, e⟩ => by rw [e]; exact vp_in_nI h hn⟩
/-- 0 .. n - 1, as the reference asks it -/
theorem in_iff {x : Int32} {n : Nat} (h0 : 0 < n) (hn : n < 2 ^ 31) : (0 ≤ x ∧ x ≤ nI n - 1) ↔ vp_in x n := by
  rw [nI_m1 h0, vp_in_iff, Int32.le_iff_toInt_le, Int32.le_iff_toInt_le, nI_toInt (by omega), Int32.toInt_zero]
  omega
theorem mput_cover (σ : mS) (g i g' i' : Nat) (f f' f'' : Nat → Int32) (h : g ≠ g' ∨ i ≠ i') : mput (mput (mput σ g i f) g' i' f') g i f'' = mput (mput σ g' i' f') g i f'' := by
  rw [mput_comm σ g i g' i' f f' h, mput_mput]
/-- f, but v at the first n places -/
def fil (f : Nat → Int32) (v : Int32) (n : Nat) : Nat → Int32 := fun j => if j < n then v else f j
theorem fil_0 (f : Nat → Int32) (v : Int32) : fil f v 0 = f := by funext j; simp [fil]
theorem fil_s (f : Nat → Int32) (v : Int32) (n : Nat) : upd (fil f v n) n v = fil f v (n + 1) := by
  funext j
  unfold upd fil
  by_cases h1 : j = n
  · subst h1; simp
  · by_cases h2 : j < n
    · rw [if_neg h1, if_pos h2, if_pos (by omega)]
    · rw [if_neg h1, if_neg h2, if_neg (by omega)]
theorem fil_in {f : Nat → Int32} {v : Int32} {n j : Nat} (h : j < n) : fil f v n j = v := if_pos h
theorem fil_out {f : Nat → Int32} {v : Int32} {n j : Nat} (h : n ≤ j) : fil f v n j = f j := if_neg (by omega)
/-- g at the first n places, else f -/
def cpy (f g : Nat → Int32) (n : Nat) : Nat → Int32 := fun j => if j < n then g j else f j
theorem cpy_0 (f g : Nat → Int32) : cpy f g 0 = f := by funext j; simp [cpy]
theorem cpy_s (f g : Nat → Int32) (n : Nat) : upd (cpy f g n) n (g n) = cpy f g (n + 1) := by
  funext j
  unfold upd cpy
  by_cases h1 : j = n
  · subst h1; simp
  · by_cases h2 : j < n
    · rw [if_neg h1, if_pos h2, if_pos (by omega)]
    · rw [if_neg h1, if_neg h2, if_neg (by omega)]
theorem cpy_in {f g : Nat → Int32} {n j : Nat} (h : j < n) : cpy f g n j = g j := if_pos h
theorem cpy_out {f g : Nat → Int32} {n j : Nat} (h : n ≤ j) : cpy f g n j = f j := if_neg (by omega)
noncomputable def b2i (P : Prop) : Int32 := @ite Int32 P (Classical.propDecidable P) 1 0
theorem b2i_t {P : Prop} (h : P) : b2i P = 1 := if_pos h
theorem b2i_f {P : Prop} (h : ¬ P) : b2i P = 0 := if_neg h
theorem b2i_c {P Q : Prop} (h : P ↔ Q) : b2i P = b2i Q := by rw [propext h]
theorem b2i_and (P : Prop) : b2i P &&& 1 = b2i P := by
  by_cases h : P
  · rw [b2i_t h]; rfl
  · rw [b2i_f h]; rfl
theorem b2i_0 {P : Prop} : b2i P = 0 ↔ ¬ P := by
  by_cases h : P
  · rw [b2i_t h]; simp [h]
  · rw [b2i_f h]; simp [h]
/-- if, over any proposition -/
noncomputable def ifp {α : Type} (P : Prop) (a b : α) : α := @ite α P (Classical.propDecidable P) a b
theorem ifp_t {α : Type} {P : Prop} {a b : α} (h : P) : ifp P a b = a := if_pos h
theorem ifp_f {α : Type} {P : Prop} {a b : α} (h : ¬ P) : ifp P a b = b := if_neg h
theorem ifp_c {α : Type} {P Q : Prop} {a b : α} (h : P ↔ Q) : ifp P a b = ifp Q a b := by rw [propext h]
theorem lgc_lt {x y : Int64} : lg_cmp x y < 0 ↔ x < y := by
  unfold lg_cmp
  split
  · rename_i h
    rw [gt_iff_lt, Int64.lt_iff_toInt_lt] at h
    rw [Int64.lt_iff_toInt_lt]
    constructor
    · intro q; cases q
    · intro q; omega
  · split
    · rename_i h; subst h
      constructor
      · intro q; cases q
      · intro q; exact absurd q (by rw [Int64.lt_iff_toInt_lt]; omega)
    · rename_i h1 h2
      rw [gt_iff_lt, Int64.lt_iff_toInt_lt] at h1
      rw [Int64.lt_iff_toInt_lt]
      constructor
      · intro _
        have : x.toInt ≠ y.toInt := fun q => h2 (Int64.toInt_inj.mp q)
        omega
      · intro _; decide
theorem lgc_gt {x y : Int64} : 0 < lg_cmp x y ↔ y < x := by
  unfold lg_cmp
  split
  · rename_i h
    constructor
    · intro _; exact h
    · intro _; decide
  · split
    · rename_i h1 h
      constructor
      · intro q; cases q
      · intro q; exact absurd q h1
    · rename_i h1 h2
      constructor
      · intro q; cases q
      · intro q; exact absurd q h1
theorem wide_le (a b : Int32) : a.toInt64 ≤ b.toInt64 ↔ a ≤ b := by
  rw [Int64.le_iff_toInt_le, Int32.le_iff_toInt_le, Int32.toInt_toInt64, Int32.toInt_toInt64]
end
section
/-! THE REFERENCE: small methods -/
abbrev mM : mV := mR 40 0
theorem ev_in (σ : mS) (v lo hi : Int64) : Ev kX8_in [mJ v, mJ lo, mJ hi] σ (fun r s => r = some (mI (b2i (lo ≤ v ∧ v ≤ hi))) ∧ s = σ) := by
  refine Ev.intro fun G hG => hG.run ?_
  refine And.intro (fun c1 => ?_) (fun c1 => And.intro (fun c2 => ?_) (fun c2 => ?_))
  · rw [lgc_lt, Int64.lt_iff_toInt_lt] at c1
    rw [b2i_f (P := lo ≤ v ∧ v ≤ hi) (by rw [Int64.le_iff_toInt_le]; omega)]
    exact ⟨rfl, rfl⟩
  · rw [lgc_gt, Int64.lt_iff_toInt_lt] at c2
    rw [b2i_f (P := lo ≤ v ∧ v ≤ hi) (by rw [Int64.le_iff_toInt_le, Int64.le_iff_toInt_le]; omega)]
    exact ⟨rfl, rfl⟩
  · rw [lgc_lt, Int64.lt_iff_toInt_lt] at c1
    rw [lgc_gt, Int64.lt_iff_toInt_lt] at c2
    rw [b2i_t (P := lo ≤ v ∧ v ≤ hi) (by rw [Int64.le_iff_toInt_le, Int64.le_iff_toInt_le]; omega)]
    exact ⟨rfl, rfl⟩
/-- the same, of ints -/
theorem ev_inI (σ : mS) (v lo hi : Int32) : Ev kX8_in [mJ v.toInt64, mJ lo.toInt64, mJ hi.toInt64] σ (fun r s => r = some (mI (b2i (lo ≤ v ∧ v ≤ hi))) ∧ s = σ) := by
  have h := ev_in σ v.toInt64 lo.toInt64 hi.toInt64
  rw [b2i_c (show (lo.toInt64 ≤ v.toInt64 ∧ v.toInt64 ≤ hi.toInt64) ↔ (lo ≤ v ∧ v ≤ hi) by rw [wide_le, wide_le])] at h
  exact h
theorem ev_thrown (σ : mS) : Ev kX8_thrown [mM] σ (fun r s => r = some (mI (σ 40 0 0)) ∧ s = σ) :=
  Ev.intro fun G hG => hG.run ⟨rfl, rfl⟩
theorem ev_refuse (σ : mS) : Ev kX8_refuse [mM] σ (fun r s => r = some (mI 0) ∧ s = mput σ 40 0 (upd (σ 40 0) 0 1)) :=
  Ev.intro fun G hG => hG.run ⟨rfl, rfl⟩
theorem ev_isCell (σ : mS) (x y : Int32) {W H : Nat} (hW : σ 40 0 1 = nI W) (h1 : 0 < W) (h2 : W ≤ 12) (hH : σ 40 0 2 = nI H) (h3 : 0 < H) (h4 : H ≤ 12) : Ev kX8_isCell [mM, mI x, mI y] σ (fun r s => r = some (mI (b2i (vp_in x W ∧ vp_in y H))) ∧ s = σ) := by
  refine Ev.intro fun G hG => hG.run ?_
  refine call_of (ev_inI σ x 0 (σ 40 0 1 - 1)) ?_
  rw [hW, b2i_c (in_iff h1 (by omega))]
  refine And.intro (fun c1 => ?_) (fun c1 => ?_)
  · rw [b2i_f (P := vp_in x W ∧ vp_in y H) (fun q => b2i_0.mp c1 q.1)]
    exact ⟨rfl, rfl⟩
  · refine call_of (ev_inI σ y 0 (σ 40 0 2 - 1)) ?_
    rw [hH, b2i_c (in_iff h3 (by omega))]
    have c1 := Classical.not_not.mp (fun q => c1 (b2i_0.mpr q))
    refine And.intro (fun c2 => ?_) (fun c2 => ?_)
    · rw [b2i_f (P := vp_in x W ∧ vp_in y H) (fun q => b2i_0.mp c2 q.2)]
      exact ⟨rfl, rfl⟩
    · rw [b2i_t (P := vp_in x W ∧ vp_in y H) ⟨c1, Classical.not_not.mp (fun q => c2 (b2i_0.mpr q))⟩]
      exact ⟨rfl, rfl⟩
theorem ev_isYear (σ : mS) (y : Int32) : Ev kX8_isYear [mI y] σ (fun r s => r = some (mI (b2i (vp_in y 201))) ∧ s = σ) := by
  refine Ev.intro fun G hG => hG.run ?_
  refine call_of (ev_inI σ y 0 200) ?_
  rw [b2i_c (show (0 ≤ y ∧ y ≤ 200) ↔ vp_in y 201 from in_iff (x := y) (n := 201) (by omega) (by omega))]
  exact ⟨congrArg (fun z => some (mI z)) (b2i_and _), rfl⟩
theorem ev_cell (σ : mS) (x y : Int32) : Ev kX8_cell [mI x, mI y] σ (fun r s => r = some (mI (12 * y + x)) ∧ s = σ) :=
  Ev.intro fun G hG => hG.run ⟨rfl, rfl⟩
def laysS (σ : mS) : mS := mput (mput (mput (mput σ 40 0 (upd (upd (σ 40 0) 3 0) 7 0)) 55 0 (fil (σ 55 0) 0 144)) 56 0 (fil (σ 56 0) (-1) 144)) 69 0 (fil (σ 69 0) (-1) 10)
theorem ev_lays (σ : mS) : Ev kX8_lays [mM] σ (fun r s => r = none ∧ s = laysS σ) := by
  refine Ev.intro fun G hG => hG.run ?_
  show G 12 [some mM, some (mI 0)] [] (mput (mput σ 40 0 (upd (σ 40 0) 3 0)) 40 0 (upd (mput σ 40 0 (upd (σ 40 0) 3 0) 40 0) 7 0))
  rw [mput_mput, mput_eq]
  generalize hσ1 : mput σ 40 0 (upd (upd (σ 40 0) 3 0) 7 0) = σ1
  have key := loop_up (G := G) 12 144 (fun i => [some mM, some (mI (nI i))]) (fun i => mput (mput σ1 55 0 (fil (σ1 55 0) 0 i)) 56 0 (fil (σ1 56 0) (-1) i)) ?_ ?_ 0 (by omega)
  · simp only [fil_0, mput_self] at key
    exact key
  · intro i hi ih
    refine hG.run (br_f (nI_ge (b := 144) hi (by decide)) ?_)
    refine And.intro (vp_in_nI (by omega) (by omega)) (And.intro (vp_in_nI hi (by omega)) ?_)
    rw [nI_cl (by omega)]
    show G 12 [some mM, some (mI (nI i + 1))] [] (mput (mput (mput (mput σ1 55 0 (fil (σ1 55 0) 0 i)) 56 0 (fil (σ1 56 0) (-1) i)) 55 0 (upd (fil (σ1 55 0) 0 i) i 0)) 56 0 (upd (fil (σ1 56 0) (-1) i) i (-1)))
    rw [mput_cover _ _ _ _ _ _ _ _ (by decide), mput_mput, fil_s, fil_s, nI_1]
    exact ih
  · refine hG.run (br_t (Int32.le_refl _) ?_)
    have key := loop_up (G := G) 41 10 (fun i => [some mM, some (mI (nI i))]) (fun i => mput (mput (mput σ1 55 0 (fil (σ1 55 0) 0 144)) 56 0 (fil (σ1 56 0) (-1) 144)) 69 0 (fil (σ1 69 0) (-1) i)) ?_ ?_ 0 (by omega)
    · simp only [fil_0] at key
      rw [show σ1 69 0 = mput (mput σ1 55 0 (fil (σ1 55 0) 0 144)) 56 0 (fil (σ1 56 0) (-1) 144) 69 0 from rfl, mput_self] at key
      exact key
    · intro i hi ih
      refine hG.run (br_f (nI_ge (b := 10) hi (by decide)) ?_)
      refine And.intro (vp_in_nI hi (by omega)) ?_
      rw [nI_cl (by omega)]
      show G 41 [some mM, some (mI (nI i + 1))] [] (mput (mput (mput (mput σ1 55 0 (fil (σ1 55 0) 0 144)) 56 0 (fil (σ1 56 0) (-1) 144)) 69 0 (fil (σ1 69 0) (-1) i)) 69 0 (upd (fil (σ1 69 0) (-1) i) i (-1)))
      rw [mput_mput, fil_s, nI_1]
      exact ih
    · refine hG.run (br_t (Int32.le_refl _) ?_)
      refine ⟨rfl, ?_⟩
      rw [← hσ1]
      rfl
theorem ev_land (σ : mS) (w h : Int32) : Ev kX8_land [mM, mI w, mI h] σ (fun r s => r = some (mI (b2i ((1 ≤ w ∧ w ≤ 12) ∧ (1 ≤ h ∧ h ≤ 12)))) ∧ s = ifp ((1 ≤ w ∧ w ≤ 12) ∧ (1 ≤ h ∧ h ≤ 12)) (laysS (mput σ 40 0 (upd (upd (upd (σ 40 0) 0 0) 1 w) 2 h))) (mput σ 40 0 (upd (σ 40 0) 0 0))) := by
  refine Ev.intro fun G hG => hG.run ?_
  refine call_of (ev_inI _ w 1 12) ?_
  refine And.intro (fun c1 => ?_) (fun c1 => ?_)
  · have n1 : ¬ ((1 ≤ w ∧ w ≤ 12) ∧ (1 ≤ h ∧ h ≤ 12)) := fun q => b2i_0.mp c1 q.1
    rw [b2i_f n1, ifp_f n1]
    exact ⟨rfl, rfl⟩
  · have c1 := Classical.not_not.mp (fun q => c1 (b2i_0.mpr q))
    refine call_of (ev_inI _ h 1 12) ?_
    refine And.intro (fun c2 => ?_) (fun c2 => ?_)
    · have c2 := Classical.not_not.mp (fun q => c2 (b2i_0.mpr q))
      rw [b2i_t ⟨c1, c2⟩, ifp_t ⟨c1, c2⟩]
      refine call_of (ev_lays _) ?_
      refine ⟨rfl, ?_⟩
      rw [mput_mput, mput_mput]
      rfl
    · have n1 : ¬ ((1 ≤ w ∧ w ≤ 12) ∧ (1 ≤ h ∧ h ≤ 12)) := fun q => b2i_0.mp c2 q.2
      rw [b2i_f n1, ifp_f n1]
      exact ⟨rfl, rfl⟩
end
section
/-! THE REFERENCE: what is told -/
theorem b_t {P : Prop} (h : ¬ b2i P = 0) : P := Classical.not_not.mp (fun q => h (b2i_0.mpr q))
theorem b_f {P : Prop} (h : b2i P = 0) : ¬ P := b2i_0.mp h
/-- thrown becomes 0 -/
abbrev th0 (σ : mS) : mS := mput σ 40 0 (upd (σ 40 0) 0 0)
def bitP (bits : Int32) (x : Nat) : Prop := (bits >>> (nI x &&& 31)) &&& 1 = 1
noncomputable def rowW (f : Nat → Int32) (o : Nat) (bits : Int32) (n : Nat) : Nat → Int32 := fun j => if o ≤ j ∧ j < o + n then b2i (bitP bits (j - o)) else f j
theorem rowW_0 (f : Nat → Int32) (o : Nat) (bits : Int32) : rowW f o bits 0 = f := by
  funext j
  exact if_neg (by omega)
theorem rowW_s (f : Nat → Int32) (o : Nat) (bits : Int32) (n : Nat) : upd (rowW f o bits n) (o + n) (b2i (bitP bits n)) = rowW f o bits (n + 1) := by
  funext j
  unfold upd rowW
  by_cases h1 : j = o + n
  · subst h1
    rw [if_pos rfl, if_pos (by omega)]
    congr 2
    omega
  · by_cases h2 : o ≤ j ∧ j < o + n
    · rw [if_neg h1, if_pos h2, if_pos (by omega)]
    · rw [if_neg h1, if_neg h2, if_neg (by omega)]
noncomputable def rowN (bits : Int32) (n : Nat) : Int32 := fo (fun x acc => acc + b2i (bitP bits x)) 0 n
noncomputable def rowS (σ : mS) (mp Y : Nat) (bits : Int32) (W : Nat) : mS := mput σ 55 0 (rowW (σ 55 0) (144 * mp + 12 * Y) bits W)
theorem idx3 (a b c : Nat) : (144 : Int32) * nI a + (12 * nI b + nI c) = nI (144 * a + 12 * b + c) := by
  show nI 144 * nI a + (nI 12 * nI b + nI c) = _
  rw [pk_mul, pk_mul, nI_add, nI_add]
  congr 1
  omega
theorem idx2 (a c : Nat) : (144 : Int32) * nI a + nI c = nI (144 * a + c) := by
  show nI 144 * nI a + nI c = _
  rw [pk_mul, nI_add]
theorem idx1 (b c : Nat) : (12 : Int32) * nI b + nI c = nI (12 * b + c) := by
  show nI 12 * nI b + nI c = _
  rw [pk_mul, nI_add]
theorem ev_rowOf (σ : mS) (Y : Nat) (bits : Int32) {W mp : Nat} (hW : σ 40 0 1 = nI W) (h2 : W ≤ 12) (hm : σ 40 0 3 = nI mp) (h3 : mp ≤ 10) (h4 : Y < 12) : Ev kX8_rowOf [mM, mI (nI Y), mI bits] σ (fun r s => r = some (mI (rowN bits W)) ∧ s = rowS σ mp Y bits W) := by
  refine Ev.intro fun G hG => hG.run ?_
  have key : ∀ (z : Option mV), G 5 [some mM, some (mI (nI Y)), some (mI bits), some (mI 0), some (mI 0), z] [] σ := by
    have : ∀ n i, i + n = W → ∀ z : Option mV, G 5 [some mM, some (mI (nI Y)), some (mI bits), some (mI (rowN bits i)), some (mI (nI i)), z] [] (mput σ 55 0 (rowW (σ 55 0) (144 * mp + 12 * Y) bits i)) := by
      intro n
      induction n with
      | zero =>
        intro i hi z
        have : i = W := by omega
        subst this
        refine hG.run (br_t ?_ ?_)
        · show σ 40 0 1 ≤ nI i
          rw [hW]
          exact Int32.le_refl _
        · exact ⟨rfl, rfl⟩
      | succ n ih =>
        intro i hi z
        refine hG.run (br_f ?_ ?_)
        · show ¬ σ 40 0 1 ≤ nI i
          rw [hW]
          exact nI_ge (by omega) (by omega)
        · refine And.intro (fun c1 => ?_) (fun c1 => ?_)
          · have hb : b2i (bitP bits i) = 0 := b2i_f c1
            refine call_of (ev_cell _ (nI i) (nI Y)) ?_
            refine And.intro ?_ ?_
            · show vp_in (144 * σ 40 0 3 + (12 * nI Y + nI i)) 1584
              rw [hm, idx3]
              exact vp_in_nI (by omega) (by omega)
            · refine And.intro (fun _ => ?_) (fun c => absurd rfl c)
              show G 5 [some mM, some (mI (nI Y)), some (mI bits), some (mI (rowN bits i + 0)), some (mI (nI i + 1)), some (mI 0)] [] (mput (mput σ 55 0 (rowW (σ 55 0) (144 * mp + 12 * Y) bits i)) 55 0 (upd (rowW (σ 55 0) (144 * mp + 12 * Y) bits i) (144 * σ 40 0 3 + (12 * nI Y + nI i)).toNatClampNeg 0))
              rw [hm, idx3, nI_cl (by omega), mput_mput, nI_1]
              have h5 := ih (i + 1) (by omega) (some (mI 0))
              rw [← rowW_s, show rowN bits (i + 1) = rowN bits i + b2i (bitP bits i) from rfl, hb] at h5
              exact h5
          · have hb : b2i (bitP bits i) = 1 := b2i_t c1
            refine call_of (ev_cell _ (nI i) (nI Y)) ?_
            refine And.intro ?_ ?_
            · show vp_in (144 * σ 40 0 3 + (12 * nI Y + nI i)) 1584
              rw [hm, idx3]
              exact vp_in_nI (by omega) (by omega)
            · refine And.intro (fun c => absurd c (by decide)) (fun _ => ?_)
              show G 5 [some mM, some (mI (nI Y)), some (mI bits), some (mI (rowN bits i + 1)), some (mI (nI i + 1)), some (mI 1)] [] (mput (mput σ 55 0 (rowW (σ 55 0) (144 * mp + 12 * Y) bits i)) 55 0 (upd (rowW (σ 55 0) (144 * mp + 12 * Y) bits i) (144 * σ 40 0 3 + (12 * nI Y + nI i)).toNatClampNeg 1))
              rw [hm, idx3, nI_cl (by omega), mput_mput, nI_1]
              have h5 := ih (i + 1) (by omega) (some (mI 1))
              rw [← rowW_s, show rowN bits (i + 1) = rowN bits i + b2i (bitP bits i) from rfl, hb] at h5
              exact h5
    intro z
    have h5 := this W 0 (by omega) z
    rw [rowW_0, mput_self] at h5
    exact h5
  exact key none
/-- the row is there, and a map can come -/
theorem ev_water (σ : mS) (y bits : Int32) {W H mp : Nat} (hW : σ 40 0 1 = nI W) (h2 : W ≤ 12) (hH : σ 40 0 2 = nI H) (h0 : 0 < H) (h4 : H ≤ 12) (hm : σ 40 0 3 = nI mp) (h3 : mp ≤ 10) (post : Option mV → mS → Prop)
    (hbad : ¬ (vp_in y H ∧ mp < 10) → post (some (mI (-1))) (th0 σ)) (hgo : ∀ Y, Y < H → y = nI Y → mp < 10 → post (some (mI (rowN bits W))) (rowS (th0 σ) mp Y bits W)) : Ev kX8_water [mM, mI y, mI bits] σ post := by
  refine Ev.intro fun G hG => hG.run ?_
  refine call_of (ev_inI _ y 0 (σ 40 0 2 - 1)) ?_
  rw [hH, b2i_c (in_iff h0 (by omega))]
  refine And.intro (fun c1 => ?_) (fun c1 => ?_)
  · exact hbad (fun q => b_f c1 q.1)
  · have c1 := b_t c1
    refine And.intro (fun c2 => ?_) (fun c2 => ?_)
    · replace c2 : (10 : Int32) ≤ σ 40 0 3 := c2
      rw [hm] at c2
      exact hbad (fun q => absurd c2 (nI_ge (b := 10) q.2 (by decide)))
    · replace c2 : ¬ (10 : Int32) ≤ σ 40 0 3 := c2
      rw [hm] at c2
      have c3 : mp < 10 := by
        rcases Nat.lt_or_ge mp 10 with q | q
        · exact q
        · exact absurd (nI_le (a := 10) q (by omega)) c2
      obtain ⟨Y, hY, rfl⟩ := (vp_nI (by omega)).mp c1
      exact call_of (ev_rowOf (th0 σ) Y bits hW h2 hm h3 (by omega)) (hgo Y hY rfl c3)
end
section
/-! THE REFERENCE: sheet, map, boxes -/
theorem lt_of_nle {a b : Nat} (h : ¬ nI a ≤ nI b) (hb : b < 2 ^ 31) : b < a := by
  rcases Nat.lt_or_ge b a with q | q
  · exact q
  · exact absurd (nI_le q hb) h
theorem le_of_le {a b : Nat} (h : nI a ≤ nI b) (ha : a < 2 ^ 31) : a ≤ b := by
  rcases Nat.lt_or_ge b a with q | q
  · exact absurd h (nI_ge q ha)
  · exact q
/-- entry k of a sheet -/
def entK (kind f st : Int32) (k : Nat) : Int32 := if kind = 0 then (f + nI k * st) &&& 255 else f + nI k * st
noncomputable def sheetS (σ : mS) (mp Y : Nat) (kind f st : Int32) (W n : Nat) : mS := fo (fun k s => rowS s mp (Y + k) (entK kind f st k) W) σ n
theorem sheetS_40 (σ : mS) (mp Y : Nat) (kind f st : Int32) (W : Nat) : ∀ n, sheetS σ mp Y kind f st W n 40 = σ 40
  | 0 => rfl
  | n + 1 => by
    show rowS (sheetS σ mp Y kind f st W n) mp (Y + n) (entK kind f st n) W 40 = σ 40
    unfold rowS
    rw [mput_ng _ _ _ _ (by decide), sheetS_40 σ mp Y kind f st W n]
theorem nI_ss (f st : Int32) (k : Nat) : f + nI k * st + st = f + nI (k + 1) * st := by
  rw [nI_succ, Int32.add_mul, Int32.one_mul, Int32.add_assoc]
theorem ev_sheet (σ : mS) (y kind n f st : Int32) {W H mp : Nat} (hW : σ 40 0 1 = nI W) (h2 : W ≤ 12) (hH : σ 40 0 2 = nI H) (h0 : 0 < H) (h4 : H ≤ 12) (hm : σ 40 0 3 = nI mp) (h3 : mp ≤ 10) (post : Option mV → mS → Prop)
    (hbad : ¬ (vp_in y H ∧ (0 ≤ kind ∧ kind ≤ 2) ∧ n ≤ 20 ∧ mp < 10) → post (some (mI (-1))) (th0 σ))
    (hmis : (vp_in y H ∧ (0 ≤ kind ∧ kind ≤ 2) ∧ n ≤ 20 ∧ mp < 10) → kind = 2 → post (some (mI 0)) (th0 σ))
    (hneg : (vp_in y H ∧ (0 ≤ kind ∧ kind ≤ 2) ∧ n ≤ 20 ∧ mp < 10) → ¬ kind = 2 → ¬ 0 ≤ n → post (some (mI (-2))) (th0 σ))
    (hgo : (vp_in y H ∧ (0 ≤ kind ∧ kind ≤ 2) ∧ n ≤ 20 ∧ mp < 10) → ¬ kind = 2 → ∀ Y N, Y < H → y = nI Y → N ≤ 20 → n = nI N → post (some (mI (nI (min N (H - Y))))) (sheetS (th0 σ) mp Y kind f st W (min N (H - Y)))) :
    Ev kX8_sheet [mM, mI y, mI kind, mI n, mI f, mI st] σ post := by
  refine Ev.intro fun G hG => hG.run ?_
  refine call_of (ev_inI _ y 0 (σ 40 0 2 - 1)) ?_
  rw [hH, b2i_c (in_iff h0 (by omega))]
  refine And.intro (fun c1 => hbad (fun q => b_f c1 q.1)) (fun c1 => ?_)
  have c1 := b_t c1
  refine call_of (ev_inI _ kind 0 2) ?_
  refine And.intro (fun c2 => hbad (fun q => b_f c2 q.2.1)) (fun c2 => ?_)
  have c2 := b_t c2
  refine And.intro (fun c3 => hbad (fun q => not_le_of c3 q.2.2.1)) (fun c3 => ?_)
  have c3 : n ≤ 20 := Int32.not_lt.mp c3
  refine And.intro (fun c4 => ?_) (fun c4 => ?_)
  · replace c4 : ¬ σ 40 0 3 = 10 := c4
    have c5 : mp < 10 := by
      rcases Nat.lt_or_ge mp 10 with q | q
      · exact q
      · exact absurd (by rw [hm, show mp = 10 by omega]; rfl) c4
    have hok : vp_in y H ∧ (0 ≤ kind ∧ kind ≤ 2) ∧ n ≤ 20 ∧ mp < 10 := ⟨c1, c2, c3, c5⟩
    refine And.intro (fun c6 => ?_) (fun c6 => hmis hok c6)
    refine And.intro (fun c7 => ?_) (fun c7 => hneg hok c6 c7)
    obtain ⟨Y, hY, rfl⟩ := (vp_nI (by omega)).mp c1
    obtain ⟨N, hN, rfl⟩ : ∃ N, N ≤ 20 ∧ n = nI N := by
      obtain ⟨N, h1, h2⟩ := nI_of (x := n) (by rw [Int32.not_lt]; exact c7)
      refine ⟨N, ?_, h2⟩
      rw [h2] at c3
      exact le_of_le (b := 20) c3 h1
    have hmin : (if σ 40 0 2 - nI Y < nI N then σ 40 0 2 - nI Y else nI N) = nI (min N (H - Y)) := by
      rw [hH, pk_sub (by omega)]
      rcases Nat.lt_or_ge (H - Y) N with q | q
      · rw [if_pos (nI_lt q (by omega)), Nat.min_eq_right (by omega)]
      · rw [if_neg (nI_nlt q (by omega)), Nat.min_eq_left (by omega)]
    have hgo := hgo hok c6 Y N hY rfl hN rfl
    generalize hM : min N (H - Y) = M at hmin hgo
    have hMH : Y + M ≤ H := by omega
    have key : ∀ m k, k + m = M → ∀ z : Option mV, G 83 [some mM, some (mI (nI Y)), some (mI kind), some (mI (nI N)), some (mI f), some (mI st), some (mI (nI M)), some (mI (f + nI k * st)), some (mI (nI k)), z] [] (sheetS (th0 σ) mp Y kind f st W k) := by
      intro m
      induction m with
      | zero =>
        intro k hk z
        have : k = M := by omega
        subst this
        exact hG.run (br_t (Int32.le_refl _) hgo)
      | succ m ih =>
        intro k hk z
        refine hG.run (br_f (nI_ge (by omega) (by omega)) ?_)
        have hS : sheetS (th0 σ) mp Y kind f st W k 40 = th0 σ 40 := sheetS_40 _ _ _ _ _ _ _ _
        have hrow := ev_rowOf (sheetS (th0 σ) mp Y kind f st W k) (Y + k) (entK kind f st k) (W := W) (mp := mp) (by rw [hS]; exact hW) h2 (by rw [hS]; exact hm) h3 (by omega)
        refine And.intro (fun c8 => ?_) (fun c8 => ?_)
        · have he : entK kind f st k = f + nI k * st := if_neg c8
          rw [he] at hrow
          refine call_of (k := kX8_rowOf) (a := [mM, mI (nI Y + nI k), mI (f + nI k * st)]) (by rw [nI_add]; exact hrow) ?_
          have h5 := ih (k + 1) (by omega) (some (mI (rowN (f + nI k * st) W)))
          rw [← nI_ss, ← nI_1] at h5
          rw [show sheetS (th0 σ) mp Y kind f st W (k + 1) = rowS (sheetS (th0 σ) mp Y kind f st W k) mp (Y + k) (entK kind f st k) W from rfl, he] at h5
          exact h5
        · have he : entK kind f st k = (f + nI k * st) &&& 255 := if_pos c8
          rw [he] at hrow
          refine call_of (k := kX8_rowOf) (a := [mM, mI (nI Y + nI k), mI ((f + nI k * st) &&& 255)]) (by rw [nI_add]; exact hrow) ?_
          have h5 := ih (k + 1) (by omega) (some (mI (rowN ((f + nI k * st) &&& 255) W)))
          rw [← nI_ss, ← nI_1] at h5
          rw [show sheetS (th0 σ) mp Y kind f st W (k + 1) = rowS (sheetS (th0 σ) mp Y kind f st W k) mp (Y + k) (entK kind f st k) W from rfl, he] at h5
          exact h5
    have h5 := key M 0 (by omega) none
    rw [nI_0, Int32.zero_mul, Int32.add_zero] at h5
    have h6 : G 83 [some mM, some (mI (nI Y)), some (mI kind), some (mI (nI N)), some (mI f), some (mI st), some (mI (if σ 40 0 2 - nI Y < nI N then σ 40 0 2 - nI Y else nI N)), some (mI f), some (mI 0), none] [] (th0 σ) := by rw [hmin]; exact h5
    exact h6
  · replace c4 : σ 40 0 3 = 10 := c4
    refine hbad (fun q => ?_)
    rw [hm] at c4
    exact absurd ((nI_eq (b := 10) (by omega) (by omega)).mp c4) (by omega)
/-- the water of map m + 1 becomes that of map m -/
def mapW (f : Nat → Int32) (mp n : Nat) : Nat → Int32 := fun j => if 144 * (mp + 1) ≤ j ∧ j < 144 * (mp + 1) + n then f (j - 144) else f j
theorem mapW_0 (f : Nat → Int32) (mp : Nat) : mapW f mp 0 = f := by
  funext j
  exact if_neg (by omega)
theorem mapW_s {f : Nat → Int32} {mp n : Nat} (hn : n < 144) (hb : ∀ j, f j &&& 1 = f j) : upd (mapW f mp n) (144 * (mp + 1) + n) (mapW f mp n (144 * mp + n) &&& 1) = mapW f mp (n + 1) := by
  have e : mapW f mp n (144 * mp + n) = f (144 * mp + n) := if_neg (by omega)
  rw [e, hb]
  funext j
  unfold upd mapW
  by_cases h1 : j = 144 * (mp + 1) + n
  · subst h1
    rw [if_pos rfl, if_pos (by omega), show 144 * (mp + 1) + n - 144 = 144 * mp + n by omega]
  · by_cases h2 : 144 * (mp + 1) ≤ j ∧ j < 144 * (mp + 1) + n
    · rw [if_neg h1, if_pos h2, if_pos (by omega)]
    · rw [if_neg h1, if_neg h2, if_neg (by omega)]
def mapS (σ : mS) (mp : Nat) (year : Int32) : mS := mput (mput (mput σ 54 0 (upd (σ 54 0) mp year)) 55 0 (mapW (σ 55 0) mp 144)) 40 0 (upd (σ 40 0) 3 (nI (mp + 1)))
theorem ev_map (σ : mS) (year : Int32) {mp : Nat} (hm : σ 40 0 3 = nI mp) (h3 : mp ≤ 10) (hb : ∀ j, σ 55 0 j &&& 1 = σ 55 0 j) (post : Option mV → mS → Prop)
    (hbad : ¬ (vp_in year 201 ∧ mp < 10 ∧ (0 < mp → σ 54 0 (mp - 1) < year)) → post (some (mI (-1))) (th0 σ))
    (hgo : (vp_in year 201 ∧ mp < 10 ∧ (0 < mp → σ 54 0 (mp - 1) < year)) → post (some (mI (nI mp))) (mapS (th0 σ) mp year)) : Ev kX8_map [mM, mI year] σ post := by
  refine Ev.intro fun G hG => hG.run ?_
  refine call_of (ev_isYear _ year) ?_
  refine And.intro (fun c1 => hbad (fun q => b_f c1 q.1)) (fun c1 => ?_)
  have c1 := b_t c1
  refine And.intro (fun c2 => ?_) (fun c2 => ?_)
  · replace c2 : σ 40 0 3 = 10 := c2
    rw [hm] at c2
    refine hbad (fun q => ?_)
    exact absurd ((nI_eq (b := 10) (by omega) (by omega)).mp c2) (by omega)
  · replace c2 : ¬ σ 40 0 3 = 10 := c2
    have c3 : mp < 10 := by
      rcases Nat.lt_or_ge mp 10 with q | q
      · exact q
      · exact absurd (by rw [hm, show mp = 10 by omega]; rfl) c2
    have fin : (0 < mp → σ 54 0 (mp - 1) < year) → (vp_in (σ 40 0 3) 10 ∧ G 57 [some mM, some (mI year), some (mI 0)] [] (mput (th0 σ) 54 0 (upd (σ 54 0) (σ 40 0 3).toNatClampNeg year))) := by
      intro c5
      rw [hm]
      refine ⟨vp_in_nI c3 (by omega), ?_⟩
      rw [nI_cl (by omega)]
      have key := loop_up (G := G) 57 144 (fun i => [some mM, some (mI year), some (mI (nI i))]) (fun i => mput (mput (th0 σ) 54 0 (upd (σ 54 0) mp year)) 55 0 (mapW (σ 55 0) mp i)) ?_ ?_ 0 (by omega)
      · rw [mapW_0] at key
        rw [show σ 55 0 = mput (th0 σ) 54 0 (upd (σ 54 0) mp year) 55 0 from rfl, mput_self] at key
        exact key
      · intro i hi ih
        refine hG.run (br_f (nI_ge (b := 144) hi (by decide)) ?_)
        have e1 : (144 : Int32) * σ 40 0 3 + nI i = nI (144 * mp + i) := by rw [hm, idx2]
        have e2 : (144 : Int32) * (σ 40 0 3 + 1) + nI i = nI (144 * (mp + 1) + i) := by rw [hm, nI_1, idx2]
        refine And.intro ?_ (And.intro ?_ ?_)
        · show vp_in ((144 : Int32) * σ 40 0 3 + nI i) 1584
          rw [e1]; exact vp_in_nI (by omega) (by omega)
        · show vp_in ((144 : Int32) * (σ 40 0 3 + 1) + nI i) 1584
          rw [e2]; exact vp_in_nI (by omega) (by omega)
        · show G 57 [some mM, some (mI year), some (mI (nI i + 1))] [] (mput (mput (mput (th0 σ) 54 0 (upd (σ 54 0) mp year)) 55 0 (mapW (σ 55 0) mp i)) 55 0 (upd (mapW (σ 55 0) mp i) ((144 : Int32) * (σ 40 0 3 + 1) + nI i).toNatClampNeg (mapW (σ 55 0) mp i ((144 : Int32) * σ 40 0 3 + nI i).toNatClampNeg &&& 1)))
          rw [e1, e2, nI_cl (by omega), nI_cl (by omega), mput_mput, mapW_s hi hb, nI_1]
          exact ih
      · refine hG.run (br_t (Int32.le_refl _) ?_)
        have hgo := hgo ⟨c1, c3, c5⟩
        have e3 : σ 40 0 3 + 1 = nI (mp + 1) := by rw [hm, nI_1]
        show post (some (mI (upd (th0 σ 40 0) 3 (σ 40 0 3 + 1) 3 - 1))) (mput (mput (mput (th0 σ) 54 0 (upd (σ 54 0) mp year)) 55 0 (mapW (σ 55 0) mp 144)) 40 0 (upd (th0 σ 40 0) 3 (σ 40 0 3 + 1)))
        rw [upd_eq, e3, nI_pred]
        exact hgo
    refine And.intro (fun c4 => ?_) (fun c4 => ?_)
    · replace c4 : σ 40 0 3 ≤ 0 := c4
      rw [hm] at c4
      have c5 : mp = 0 := by
        have := le_of_le (b := 0) c4 (by omega)
        omega
      exact fin (fun q => absurd q (by omega))
    · replace c4 : ¬ σ 40 0 3 ≤ 0 := c4
      rw [hm] at c4
      have c5 : 0 < mp := lt_of_nle (b := 0) c4 (by omega)
      have e4 : σ 40 0 3 - 1 = nI (mp - 1) := by rw [hm, nI_m1 c5]
      refine And.intro ?_ ?_
      · show vp_in (σ 40 0 3 - 1) 10
        rw [e4]; exact vp_in_nI (by omega) (by omega)
      · refine And.intro (fun c6 => ?_) (fun c6 => ?_)
        · replace c6 : σ 54 0 (σ 40 0 3 - 1).toNatClampNeg < year := c6
          rw [e4, nI_cl (by omega)] at c6
          exact fin (fun _ => c6)
        · replace c6 : ¬ σ 54 0 (σ 40 0 3 - 1).toNatClampNeg < year := c6
          rw [e4, nI_cl (by omega)] at c6
          exact hbad (fun q => c6 (q.2.2 c5))
def boxP (x y x2 y2 : Int32) (W H : Nat) : Prop := (vp_in x W ∧ vp_in y H) ∧ (vp_in x2 W ∧ vp_in y2 H) ∧ x ≤ x2 ∧ y ≤ y2
theorem ev_isBox (σ : mS) (x y x2 y2 : Int32) {W H : Nat} (hW : σ 40 0 1 = nI W) (h1 : 0 < W) (h2 : W ≤ 12) (hH : σ 40 0 2 = nI H) (h3 : 0 < H) (h4 : H ≤ 12) : Ev kX8_isBox [mM, mI x, mI y, mI x2, mI y2] σ (fun r s => r = some (mI (b2i (boxP x y x2 y2 W H))) ∧ s = σ) := by
  refine Ev.intro fun G hG => hG.run ?_
  have no : ¬ boxP x y x2 y2 W H → (some (mI ((0 : Int32) &&& 1)) : Option mV) = some (mI (b2i (boxP x y x2 y2 W H))) ∧ σ = σ := fun q => ⟨by rw [b2i_f q]; rfl, rfl⟩
  refine call_of (ev_isCell σ x y hW h1 h2 hH h3 h4) ?_
  refine And.intro (fun c1 => no (fun q => b_f c1 q.1)) (fun c1 => ?_)
  refine call_of (ev_isCell σ x2 y2 hW h1 h2 hH h3 h4) ?_
  refine And.intro (fun c2 => no (fun q => b_f c2 q.2.1)) (fun c2 => ?_)
  refine And.intro (fun c3 => no (fun q => not_le_of c3 q.2.2.1)) (fun c3 => ?_)
  refine And.intro (fun c4 => no (fun q => not_le_of c4 q.2.2.2)) (fun c4 => ?_)
  refine ⟨?_, rfl⟩
  rw [b2i_t (P := boxP x y x2 y2 W H) ⟨b_t c1, b_t c2, Int32.not_lt.mp c3, Int32.not_lt.mp c4⟩]
  rfl
end
section
/-! THE REFERENCE: boxes, deeds, laws, judgements, counts, maps in years -/
theorem rem12 {a : Nat} (h : a < 2 ^ 31) : nI a - nI a / 12 * 12 = nI (a % 12) := pk_rem (d := 12) h (by omega) (by omega)
theorem div12 {a : Nat} (h : a < 2 ^ 31) : nI a / 12 = nI (a / 12) := pk_div (d := 12) h (by omega) (by omega)
def inBox (c a b : Nat) : Prop := (a % 12 ≤ c % 12 ∧ c % 12 ≤ b % 12) ∧ (a / 12 ≤ c / 12 ∧ c / 12 ≤ b / 12)
theorem ev_isInBox (σ : mS) {c a b : Nat} (hc : c < 144) (ha : a < 144) (hb : b < 144) : Ev kX8_isInBox [mI (nI c), mI (nI a), mI (nI b)] σ (fun r s => r = some (mI (b2i (inBox c a b))) ∧ s = σ) := by
  refine Ev.intro fun G hG => hG.run ?_
  refine And.intro (by decide) (And.intro (by decide) (And.intro (by decide) ?_))
  rw [rem12 (by omega), rem12 (by omega), rem12 (by omega)]
  refine call_of (ev_inI σ (nI (c % 12)) (nI (a % 12)) (nI (b % 12))) ?_
  have e1 : (nI (a % 12) ≤ nI (c % 12) ∧ nI (c % 12) ≤ nI (b % 12)) ↔ (a % 12 ≤ c % 12 ∧ c % 12 ≤ b % 12) := by rw [nI_leI (by omega) (by omega), nI_leI (by omega) (by omega)]
  have e2 : (nI (a / 12) ≤ nI (c / 12) ∧ nI (c / 12) ≤ nI (b / 12)) ↔ (a / 12 ≤ c / 12 ∧ c / 12 ≤ b / 12) := by rw [nI_leI (by omega) (by omega), nI_leI (by omega) (by omega)]
  have no : ¬ inBox c a b → (some (mI ((0 : Int32) &&& 1)) : Option mV) = some (mI (b2i (inBox c a b))) ∧ σ = σ := fun q => ⟨by rw [b2i_f q]; rfl, rfl⟩
  refine And.intro (fun c1 => no (fun q => b_f c1 (e1.mpr q.1))) (fun c1 => ?_)
  refine And.intro (by decide) (And.intro (by decide) (And.intro (by decide) ?_))
  rw [div12 (by omega), div12 (by omega), div12 (by omega)]
  refine call_of (ev_inI σ (nI (c / 12)) (nI (a / 12)) (nI (b / 12))) ?_
  refine And.intro (fun c2 => no (fun q => b_f c2 (e2.mpr q.2))) (fun c2 => ?_)
  refine ⟨?_, rfl⟩
  rw [b2i_t (P := inBox c a b) ⟨e1.mp (b_t c1), e2.mp (b_t c2)⟩]
  rfl
noncomputable def ownF (f : Nat → Int32) (a b : Nat) (o : Int32) (n : Nat) : Nat → Int32 := fun j => ifp (j < n ∧ inBox j a b) o (f j)
theorem ownF_0 (f : Nat → Int32) (a b : Nat) (o : Int32) : ownF f a b o 0 = f := by
  funext j
  exact ifp_f (by omega)
theorem ownF_s (f : Nat → Int32) (a b : Nat) (o : Int32) (n : Nat) : upd (ownF f a b o n) n (ifp (inBox n a b) o (f n)) = ownF f a b o (n + 1) := by
  funext j
  unfold ownF
  by_cases h1 : j = n
  · subst h1
    rw [upd_eq]
    exact ifp_c ⟨fun q => ⟨by omega, q⟩, fun q => q.2⟩
  · rw [upd_ne _ _ h1]
    exact ifp_c ⟨fun q => ⟨by omega, q.2⟩, fun q => ⟨by omega, q.2⟩⟩
theorem ev_own (σ : mS) (x y x2 y2 o : Int32) {W H mp : Nat} (hW : σ 40 0 1 = nI W) (h1 : 0 < W) (h2 : W ≤ 12) (hH : σ 40 0 2 = nI H) (h0 : 0 < H) (h4 : H ≤ 12) (hm : σ 40 0 3 = nI mp) (h3 : mp ≤ 10) (post : Option mV → mS → Prop)
    (hbad : ¬ (boxP x y x2 y2 W H ∧ (-1 ≤ o ∧ o ≤ 9) ∧ mp ≤ 1) → post (some (mI 0)) (th0 σ))
    (hgo : (-1 ≤ o ∧ o ≤ 9) → mp ≤ 1 → ∀ X Y X2 Y2, x = nI X → y = nI Y → x2 = nI X2 → y2 = nI Y2 → X ≤ X2 → X2 < W → Y ≤ Y2 → Y2 < H → post (some (mI 1)) (mput (th0 σ) 56 0 (ownF (σ 56 0) (12 * Y + X) (12 * Y2 + X2) o 144))) : Ev kX8_own [mM, mI x, mI y, mI x2, mI y2, mI o] σ post := by
  refine Ev.intro fun G hG => hG.run ?_
  refine call_of (ev_isBox (th0 σ) x y x2 y2 hW h1 h2 hH h0 h4) ?_
  refine And.intro (fun c1 => hbad (fun q => b_f c1 q.1)) (fun c1 => ?_)
  have c1 := b_t c1
  refine call_of (ev_inI _ o (-1) 9) ?_
  refine And.intro (fun c2 => hbad (fun q => b_f c2 q.2.1)) (fun c2 => ?_)
  have c2 := b_t c2
  refine And.intro (fun c3 => ?_) (fun c3 => ?_)
  · replace c3 : σ 40 0 3 ≤ 1 := c3
    rw [hm] at c3
    have c3 : mp ≤ 1 := le_of_le (b := 1) c3 (by omega)
    obtain ⟨⟨d1, d2⟩, ⟨d3, d4⟩, d5, d6⟩ := c1
    obtain ⟨X, hX, rfl⟩ := (vp_nI (by omega)).mp d1
    obtain ⟨Y, hY, rfl⟩ := (vp_nI (by omega)).mp d2
    obtain ⟨X2, hX2, rfl⟩ := (vp_nI (by omega)).mp d3
    obtain ⟨Y2, hY2, rfl⟩ := (vp_nI (by omega)).mp d4
    have hgo := hgo c2 c3 X Y X2 Y2 rfl rfl rfl rfl (le_of_le d5 (by omega)) hX2 (le_of_le d6 (by omega)) hY2
    have key := loop_up (G := G) 45 144 (fun i => [some mM, some (mI (nI X)), some (mI (nI Y)), some (mI (nI X2)), some (mI (nI Y2)), some (mI o), some (mI (nI i))]) (fun i => mput (th0 σ) 56 0 (ownF (σ 56 0) (12 * Y + X) (12 * Y2 + X2) o i)) ?_ ?_ 0 (by omega)
    · rw [ownF_0, show σ 56 0 = th0 σ 56 0 from rfl, mput_self] at key
      exact key
    · intro i hi ih
      refine hG.run (br_f (nI_ge (b := 144) hi (by decide)) ?_)
      refine call_of (ev_cell _ (nI X) (nI Y)) ?_
      refine call_of (ev_cell _ (nI X2) (nI Y2)) ?_
      rw [idx1, idx1]
      refine call_of (ev_isInBox _ hi (by omega) (by omega)) ?_
      have fin : G 45 [some mM, some (mI (nI X)), some (mI (nI Y)), some (mI (nI X2)), some (mI (nI Y2)), some (mI o), some (mI (nI i + 1))] [] (mput (mput (th0 σ) 56 0 (ownF (σ 56 0) (12 * Y + X) (12 * Y2 + X2) o i)) 56 0 (upd (ownF (σ 56 0) (12 * Y + X) (12 * Y2 + X2) o i) i (ifp (inBox i (12 * Y + X) (12 * Y2 + X2)) o (σ 56 0 i)))) := by
        rw [mput_mput, ownF_s, nI_1]
        exact ih
      refine And.intro (fun c5 => ?_) (fun c5 => ?_)
      · rw [ifp_f (b_f c5)] at fin
        refine And.intro (vp_in_nI hi (by omega)) (And.intro (vp_in_nI hi (by omega)) ?_)
        rw [nI_cl (by omega)]
        have e5 : ownF (σ 56 0) (12 * Y + X) (12 * Y2 + X2) o i i = σ 56 0 i := ifp_f (by omega)
        rw [← e5] at fin
        exact fin
      · rw [ifp_t (b_t c5)] at fin
        refine And.intro (vp_in_nI hi (by omega)) ?_
        rw [nI_cl (by omega)]
        exact fin
    · exact hG.run (br_t (Int32.le_refl _) hgo)
  · replace c3 : ¬ σ 40 0 3 ≤ 1 := c3
    rw [hm] at c3
    exact hbad (fun q => c3 (nI_le (b := 1) q.2.2 (by omega)))
def deedS (σ : mS) (dn a b : Nat) (o year : Int32) : mS := mput (mput (mput (mput (mput (mput σ 58 0 (upd (σ 58 0) dn (nI a))) 59 0 (upd (σ 59 0) dn (nI b))) 60 0 (upd (σ 60 0) dn o)) 61 0 (upd (σ 61 0) dn year)) 62 0 (upd (σ 62 0) dn 0)) 40 0 (upd (σ 40 0) 7 (nI (dn + 1)))
theorem ev_deed (σ : mS) (x y x2 y2 o year : Int32) {W H dn : Nat} (hW : σ 40 0 1 = nI W) (h1 : 0 < W) (h2 : W ≤ 12) (hH : σ 40 0 2 = nI H) (h0 : 0 < H) (h4 : H ≤ 12) (hm : σ 40 0 7 = nI dn) (h3 : dn ≤ 30) (post : Option mV → mS → Prop)
    (hbad : ¬ (boxP x y x2 y2 W H ∧ (0 ≤ o ∧ o ≤ 9) ∧ vp_in year 201 ∧ dn < 30) → post (some (mI (-1))) (th0 σ))
    (hgo : (0 ≤ o ∧ o ≤ 9) → vp_in year 201 → dn < 30 → ∀ X Y X2 Y2, x = nI X → y = nI Y → x2 = nI X2 → y2 = nI Y2 → X ≤ X2 → X2 < W → Y ≤ Y2 → Y2 < H → post (some (mI (nI dn))) (deedS (th0 σ) dn (12 * Y + X) (12 * Y2 + X2) o year)) : Ev kX8_deed [mM, mI x, mI y, mI x2, mI y2, mI o, mI year] σ post := by
  refine Ev.intro fun G hG => hG.run ?_
  refine call_of (ev_isBox (th0 σ) x y x2 y2 hW h1 h2 hH h0 h4) ?_
  refine And.intro (fun c1 => hbad (fun q => b_f c1 q.1)) (fun c1 => ?_)
  have c1 := b_t c1
  refine call_of (ev_inI _ o 0 9) ?_
  refine And.intro (fun c2 => hbad (fun q => b_f c2 q.2.1)) (fun c2 => ?_)
  have c2 := b_t c2
  refine call_of (ev_isYear _ year) ?_
  refine And.intro (fun c3 => hbad (fun q => b_f c3 q.2.2.1)) (fun c3 => ?_)
  have c3 := b_t c3
  refine And.intro (fun c4 => ?_) (fun c4 => ?_)
  · replace c4 : ¬ σ 40 0 7 = 30 := c4
    have c5 : dn < 30 := by
      rcases Nat.lt_or_ge dn 30 with q | q
      · exact q
      · exact absurd (by rw [hm, show dn = 30 by omega]; rfl) c4
    obtain ⟨⟨d1, d2⟩, ⟨d3, d4⟩, d5, d6⟩ := c1
    obtain ⟨X, hX, rfl⟩ := (vp_nI (by omega)).mp d1
    obtain ⟨Y, hY, rfl⟩ := (vp_nI (by omega)).mp d2
    obtain ⟨X2, hX2, rfl⟩ := (vp_nI (by omega)).mp d3
    obtain ⟨Y2, hY2, rfl⟩ := (vp_nI (by omega)).mp d4
    have hgo := hgo c2 c3 c5 X Y X2 Y2 rfl rfl rfl rfl (le_of_le d5 (by omega)) hX2 (le_of_le d6 (by omega)) hY2
    have hv : vp_in (σ 40 0 7) 30 := by rw [hm]; exact vp_in_nI c5 (by omega)
    refine call_of (ev_cell _ (nI X) (nI Y)) (And.intro hv ?_)
    refine call_of (ev_cell _ (nI X2) (nI Y2)) (And.intro hv (And.intro hv (And.intro hv (And.intro hv ?_))))
    have e3 : σ 40 0 7 + 1 = nI (dn + 1) := by rw [hm, nI_1]
    have e4 : (σ 40 0 7).toNatClampNeg = dn := by rw [hm, nI_cl (by omega)]
    show post (some (mI (upd (th0 σ 40 0) 7 (σ 40 0 7 + 1) 7 - 1))) (mput (mput (mput (mput (mput (mput (th0 σ) 58 0 (upd (σ 58 0) (σ 40 0 7).toNatClampNeg (12 * nI Y + nI X))) 59 0 (upd (σ 59 0) (σ 40 0 7).toNatClampNeg (12 * nI Y2 + nI X2))) 60 0 (upd (σ 60 0) (σ 40 0 7).toNatClampNeg o)) 61 0 (upd (σ 61 0) (σ 40 0 7).toNatClampNeg year)) 62 0 (upd (σ 62 0) (σ 40 0 7).toNatClampNeg 0)) 40 0 (upd (th0 σ 40 0) 7 (σ 40 0 7 + 1)))
    rw [e3, e4, upd_eq, nI_pred, idx1, idx1]
    exact hgo
  · replace c4 : σ 40 0 7 = 30 := c4
    rw [hm] at c4
    exact hbad (fun q => absurd ((nI_eq (b := 30) (by omega) (by omega)).mp c4) (by omega))
/-- 0 .. n - 1 where n may be 0, as the reference asks it -/
theorem in_iff0 {x : Int32} {n : Nat} (hn : n < 2 ^ 31) : (0 ≤ x ∧ x ≤ nI n - 1) ↔ vp_in x n := by
  by_cases h0 : 0 < n
  · exact in_iff h0 hn
  · have : n = 0 := by omega
    subst this
    rw [vp_in_iff, show nI 0 - 1 = -1 from rfl, Int32.le_iff_toInt_le, Int32.le_iff_toInt_le, Int32.toInt_zero, show (-1 : Int32).toInt = -1 from rfl]
    omega
theorem ev_strike (σ : mS) (d b : Int32) {dn : Nat} (hm : σ 40 0 7 = nI dn) (h3 : dn ≤ 30) (post : Option mV → mS → Prop)
    (hbad : ¬ vp_in d dn → post (some (mI 0)) (th0 σ)) (hgo : ∀ D, D < dn → d = nI D → post (some (mI 1)) (mput (th0 σ) 62 0 (upd (σ 62 0) D (b &&& 1)))) : Ev kX8_strike [mM, mI d, mI b] σ post := by
  refine Ev.intro fun G hG => hG.run ?_
  refine call_of (ev_inI _ d 0 (σ 40 0 7 - 1)) ?_
  rw [hm, b2i_c (in_iff0 (by omega))]
  refine And.intro (fun c1 => ?_) (fun c1 => hbad (b_f c1))
  obtain ⟨D, hD, rfl⟩ := (vp_nI (by omega)).mp (b_t c1)
  refine And.intro (vp_in_nI (by omega) (by omega)) ?_
  have := hgo D hD rfl
  rw [← nI_cl (n := D) (by omega)] at this
  rw [nI_cl (by omega)] at this
  rw [nI_cl (by omega)]
  exact this
def lawS (σ : mS) (ln : Nat) (year sl su is : Int32) : mS := mput (mput (mput (mput (mput σ 64 0 (upd (σ 64 0) ln year)) 65 0 (upd (σ 65 0) ln sl)) 66 0 (upd (σ 66 0) ln su)) 67 0 (upd (σ 67 0) ln is)) 40 0 (upd (σ 40 0) 13 (nI (ln + 1)))
theorem ev_law (σ : mS) (year sl su is : Int32) {ln : Nat} (hm : σ 40 0 13 = nI ln) (h3 : ln ≤ 20) (post : Option mV → mS → Prop)
    (hbad : ¬ (vp_in year 201 ∧ (0 ≤ sl ∧ sl ≤ 1) ∧ (0 ≤ su ∧ su ≤ 1) ∧ (0 ≤ is ∧ is ≤ 2) ∧ ln < 20) → post (some (mI (-1))) (th0 σ))
    (hgo : (vp_in year 201 ∧ (0 ≤ sl ∧ sl ≤ 1) ∧ (0 ≤ su ∧ su ≤ 1) ∧ (0 ≤ is ∧ is ≤ 2) ∧ ln < 20) → post (some (mI (nI (ln + 1)))) (lawS (th0 σ) ln year sl su is)) : Ev kX8_law [mM, mI year, mI sl, mI su, mI is] σ post := by
  refine Ev.intro fun G hG => hG.run ?_
  refine call_of (ev_isYear _ year) ?_
  refine And.intro (fun c1 => hbad (fun q => b_f c1 q.1)) (fun c1 => ?_)
  refine call_of (ev_inI _ sl 0 1) ?_
  refine And.intro (fun c2 => hbad (fun q => b_f c2 q.2.1)) (fun c2 => ?_)
  refine call_of (ev_inI _ su 0 1) ?_
  refine And.intro (fun c3 => hbad (fun q => b_f c3 q.2.2.1)) (fun c3 => ?_)
  refine call_of (ev_inI _ is 0 2) ?_
  refine And.intro (fun c4 => hbad (fun q => b_f c4 q.2.2.2.1)) (fun c4 => ?_)
  refine And.intro (fun c5 => ?_) (fun c5 => ?_)
  · replace c5 : ¬ σ 40 0 13 = 20 := c5
    have c6 : ln < 20 := by
      rcases Nat.lt_or_ge ln 20 with q | q
      · exact q
      · exact absurd (by rw [hm, show ln = 20 by omega]; rfl) c5
    have hgo := hgo ⟨b_t c1, b_t c2, b_t c3, b_t c4, c6⟩
    have hv : vp_in (σ 40 0 13) 20 := by rw [hm]; exact vp_in_nI c6 (by omega)
    refine And.intro hv (And.intro hv (And.intro hv (And.intro hv ?_)))
    have e3 : σ 40 0 13 + 1 = nI (ln + 1) := by rw [hm, nI_1]
    have e4 : (σ 40 0 13).toNatClampNeg = ln := by rw [hm, nI_cl (by omega)]
    show post (some (mI (upd (th0 σ 40 0) 13 (σ 40 0 13 + 1) 13))) (mput (mput (mput (mput (mput (th0 σ) 64 0 (upd (σ 64 0) (σ 40 0 13).toNatClampNeg year)) 65 0 (upd (σ 65 0) (σ 40 0 13).toNatClampNeg sl)) 66 0 (upd (σ 66 0) (σ 40 0 13).toNatClampNeg su)) 67 0 (upd (σ 67 0) (σ 40 0 13).toNatClampNeg is)) 40 0 (upd (th0 σ 40 0) 13 (σ 40 0 13 + 1)))
    rw [e3, e4, upd_eq]
    exact hgo
  · replace c5 : σ 40 0 13 = 20 := c5
    rw [hm] at c5
    exact hbad (fun q => absurd ((nI_eq (b := 20) (by omega) (by omega)).mp c5) (by omega))
theorem ev_reach (σ : mS) (v : Int32) (post : Option mV → mS → Prop) (hbad : ¬ (1 ≤ v ∧ v ≤ 12) → post (some (mI (-1))) (th0 σ)) (hgo : (1 ≤ v ∧ v ≤ 12) → post (some (mI (σ 40 0 18))) (mput σ 40 0 (upd (upd (σ 40 0) 0 0) 18 v))) : Ev kX8_reach [mM, mI v] σ post := by
  refine Ev.intro fun G hG => hG.run ?_
  refine call_of (ev_inI _ v 1 12) ?_
  refine And.intro (fun c1 => ?_) (fun c1 => hbad (b_f c1))
  have h := hgo (b_t c1)
  rw [← mput_mput σ 40 0 (upd (σ 40 0) 0 0)] at h
  exact h
/-- steps are 1 .. maps - 1 -/
def stepP (st : Int32) (mp : Nat) : Prop := ∃ j, 0 < j ∧ j < mp ∧ st = nI j
theorem step_iff {x : Int32} {n : Nat} (hn : n < 2 ^ 31) : (1 ≤ x ∧ x ≤ nI n - 1) ↔ stepP x n := by
  constructor
  · rintro ⟨h1, h2⟩
    have h0 : 0 < n := by
      rcases Nat.eq_zero_or_pos n with q | q
      · subst q
        rw [show nI 0 - 1 = -1 from rfl] at h2
        rw [Int32.le_iff_toInt_le] at h1 h2
        rw [show (1 : Int32).toInt = 1 from rfl] at h1
        rw [show (-1 : Int32).toInt = -1 from rfl] at h2
        omega
      · exact q
    obtain ⟨j, h3, rfl⟩ := (vp_nI hn).mp ((in_iff h0 hn).mp ⟨by
      rw [Int32.le_iff_toInt_le] at h1 ⊢
      rw [show (1 : Int32).toInt = 1 from rfl] at h1
      rw [Int32.toInt_zero]
      omega, h2⟩)
    exact ⟨j, le_of_le (a := 1) h1 (by omega), h3, rfl⟩
  · rintro ⟨j, h1, h2, rfl⟩
    rw [nI_m1 (by omega)]
    exact ⟨nI_le (a := 1) h1 (by omega), nI_le (by omega) (by omega)⟩
theorem ev_isStep (σ : mS) (st : Int32) {mp : Nat} (hm : σ 40 0 3 = nI mp) (h3 : mp ≤ 10) : Ev kX8_isStep [mM, mI st] σ (fun r s => r = some (mI (b2i (stepP st mp))) ∧ s = σ) := by
  refine Ev.intro fun G hG => hG.run ?_
  refine call_of (ev_inI _ st 1 (σ 40 0 3 - 1)) ?_
  rw [hm, b2i_c (step_iff (by omega))]
  exact ⟨congrArg (fun z => some (mI z)) (b2i_and _), rfl⟩
theorem ev_judge (σ : mS) (st how : Int32) {mp : Nat} (hm : σ 40 0 3 = nI mp) (h3 : mp ≤ 10) (post : Option mV → mS → Prop)
    (hbad : ¬ (stepP st mp ∧ (-1 ≤ how ∧ how ≤ 1)) → post (some (mI 0)) (th0 σ)) (hgo : ∀ j, 0 < j → j < mp → st = nI j → (-1 ≤ how ∧ how ≤ 1) → post (some (mI 1)) (mput (th0 σ) 69 0 (upd (σ 69 0) j how))) : Ev kX8_judge [mM, mI st, mI how] σ post := by
  refine Ev.intro fun G hG => hG.run ?_
  refine call_of (ev_isStep (th0 σ) st hm h3) ?_
  refine And.intro (fun c1 => hbad (fun q => b_f c1 q.1)) (fun c1 => ?_)
  refine call_of (ev_inI _ how (-1) 1) ?_
  refine And.intro (fun c2 => ?_) (fun c2 => hbad (fun q => b_f c2 q.2))
  obtain ⟨j, h5, h6, rfl⟩ := b_t c1
  refine And.intro (vp_in_nI (by omega) (by omega)) ?_
  rw [nI_cl (by omega)]
  exact hgo j h5 h6 rfl (b_t c2)
end
section
/-! THE REFERENCE: counts, maps in years, kinds, distances -/
def bindN (f : Nat → Int32) (n : Nat) : Int32 := fo (fun d acc => acc + (if f d = 0 then 1 else 0)) 0 n
def cntV (σ : mS) (bind : Int32) (j : Nat) : Int32 := match j with
  | 0 => σ 40 0 1
  | 1 => σ 40 0 2
  | 2 => σ 40 0 3
  | 3 => σ 40 0 7
  | 4 => bind
  | 5 => σ 40 0 13
  | 6 => σ 40 0 18
  | _ => σ 40 0 26
theorem toInt_nat {x : Int32} {n : Nat} (h : x.toInt = 0 + (n : Int)) (hn : n < 2 ^ 31) : x = nI n := Int32.toInt_inj.mp (by rw [h, nI_toInt hn]; omega)
theorem ev_count (σ : mS) (w : Int32) {dn : Nat} (hm : σ 40 0 7 = nI dn) (h3 : dn ≤ 30) (post : Option mV → mS → Prop)
    (hbad : ¬ vp_in w 8 → post (some (mI (-1))) (th0 σ)) (hgo : ∀ j, j < 8 → w = nI j → post (some (mI (cntV σ (bindN (σ 62 0) dn) j))) (th0 σ)) : Ev kX8_count [mM, mI w] σ post := by
  refine Ev.intro fun G hG => hG.run ?_
  have key := loop_up (G := G) 9 dn (fun i => [some mM, some (mI w), some (mI (bindN (σ 62 0) i)), some (mI (nI i))]) (fun _ => th0 σ) ?_ ?_ 0 (by omega)
  · exact key
  · intro i hi ih
    refine hG.run (br_f ?_ ?_)
    · show ¬ σ 40 0 7 ≤ nI i
      rw [hm]; exact nI_ge hi (by omega)
    · refine And.intro (vp_in_nI (by omega) (by omega)) ?_
      rw [nI_cl (by omega)]
      have e : bindN (σ 62 0) (i + 1) = bindN (σ 62 0) i + (if σ 62 0 i = 0 then 1 else 0) := rfl
      rw [e, ← nI_1] at ih
      refine And.intro (fun c => ?_) (fun c => ?_)
      · replace c : σ 62 0 i = 0 := c
        rw [if_pos c] at ih
        exact ih
      · replace c : ¬ σ 62 0 i = 0 := c
        rw [if_neg c] at ih
        exact ih
  · refine hG.run (br_t ?_ ?_)
    · show σ 40 0 7 ≤ nI dn
      rw [hm]; exact Int32.le_refl _
    · refine And.intro (fun c => ⟨?_, by decide⟩) (fun n off ho hx => ?_)
      · exact hbad (fun q => by rw [vp_in_iff] at q; omega)
      · have hn : n < 8 := by
          rcases Nat.lt_or_ge n 8 with q | q
          · exact q
          · rw [Array.getElem?_eq_none (by simpa using q)] at ho; cases ho
        have hg := hgo n hn (toInt_nat hx (by omega))
        match n, hn, ho, hg with
        | 0, _, ho, hg => cases ho; exact ⟨hg, by decide⟩
        | 1, _, ho, hg => cases ho; exact ⟨hg, by decide⟩
        | 2, _, ho, hg => cases ho; exact ⟨hg, by decide⟩
        | 3, _, ho, hg => cases ho; exact ⟨hg, by decide⟩
        | 4, _, ho, hg => cases ho; exact ⟨hg, by decide⟩
        | 5, _, ho, hg => cases ho; exact ⟨hg, by decide⟩
        | 6, _, ho, hg => cases ho; exact ⟨hg, by decide⟩
        | 7, _, ho, hg => cases ho; exact ⟨hg, by decide⟩
        | n + 8, hn, _, _ => exact absurd hn (by omega)
/-- the latest map of a year -/
def mapInF (yr : Nat → Int32) (year : Int32) (n : Nat) : Nat := fo (fun k m => if 0 < k ∧ yr k ≤ year then k else m) 0 n
theorem mapInF_lt (yr : Nat → Int32) (year : Int32) : ∀ n, mapInF yr year n = 0 ∨ mapInF yr year n < n
  | 0 => Or.inl rfl
  | n + 1 => by
    show (if 0 < n ∧ yr n ≤ year then n else mapInF yr year n) = 0 ∨ (if 0 < n ∧ yr n ≤ year then n else mapInF yr year n) < n + 1
    split
    · exact Or.inr (by omega)
    · rcases mapInF_lt yr year n with q | q
      · exact Or.inl q
      · exact Or.inr (by omega)
theorem ev_mapIn (σ : mS) (year : Int32) {mp : Nat} (hm : σ 40 0 3 = nI mp) (h3 : mp ≤ 10) : Ev kX8_mapIn [mM, mI year] σ (fun r s => r = some (mI (nI (mapInF (σ 54 0) year mp))) ∧ s = σ) := by
  refine Ev.intro fun G hG => hG.run ?_
  by_cases h0 : 0 < mp
  · have key := loop_from (G := G) 4 1 mp (fun i => [some mM, some (mI year), some (mI (nI (mapInF (σ 54 0) year i))), some (mI (nI i))]) (fun _ => σ) ?_ ?_ 1 (by omega) h0
    · exact key
    · intro i hi1 hi ih
      refine hG.run (br_f ?_ ?_)
      · show ¬ σ 40 0 3 ≤ nI i
        rw [hm]; exact nI_ge hi (by omega)
      · refine And.intro (vp_in_nI (by omega) (by omega)) ?_
        rw [nI_cl (by omega)]
        have e : mapInF (σ 54 0) year (i + 1) = if 0 < i ∧ σ 54 0 i ≤ year then i else mapInF (σ 54 0) year i := rfl
        rw [e, ← nI_1] at ih
        refine And.intro (fun c => ?_) (fun c => ?_)
        · replace c : year < σ 54 0 i := c
          rw [if_neg (fun q => not_le_of c q.2)] at ih
          exact ih
        · replace c : ¬ year < σ 54 0 i := c
          rw [if_pos ⟨hi1, Int32.not_lt.mp c⟩] at ih
          exact ih
    · refine hG.run (br_t ?_ ⟨rfl, rfl⟩)
      show σ 40 0 3 ≤ nI mp
      rw [hm]; exact Int32.le_refl _
  · have : mp = 0 := by omega
    subst this
    show G 4 [some mM, some (mI year), some (mI 0), some (mI 1)] [] σ
    refine hG.run (br_t ?_ ⟨rfl, rfl⟩)
    show σ 40 0 3 ≤ 1
    rw [hm]
    decide
theorem ev_isWet (σ : mS) {m c : Nat} (h1 : m ≤ 10) (h2 : c < 144) (hb : ∀ j, σ 55 0 j &&& 1 = σ 55 0 j) : Ev kX8_isWet [mM, mI (nI m), mI (nI c)] σ (fun r s => r = some (mI (σ 55 0 (144 * m + c))) ∧ s = σ) := by
  refine Ev.intro fun G hG => hG.run ?_
  refine And.intro ?_ ?_
  · show vp_in ((144 : Int32) * nI m + nI c) 1584
    rw [idx2]
    exact vp_in_nI (by omega) (by omega)
  · show some (mI (σ 55 0 ((144 : Int32) * nI m + nI c).toNatClampNeg &&& 1)) = some (mI (σ 55 0 (144 * m + c))) ∧ σ = σ
    rw [idx2, nI_cl (by omega), hb]
    exact ⟨rfl, rfl⟩
def onP (W H c : Nat) : Prop := c % 12 < W ∧ c / 12 < H
theorem ev_isOn (σ : mS) {c W H : Nat} (hW : σ 40 0 1 = nI W) (h2 : W ≤ 12) (hH : σ 40 0 2 = nI H) (h4 : H ≤ 12) (hc : c < 144) : Ev kX8_isOn [mM, mI (nI c)] σ (fun r s => r = some (mI (b2i (onP W H c))) ∧ s = σ) := by
  refine Ev.intro fun G hG => hG.run ?_
  refine And.intro (by decide) ?_
  rw [rem12 (by omega)]
  have no : ¬ onP W H c → (some (mI ((0 : Int32) &&& 1)) : Option mV) = some (mI (b2i (onP W H c))) ∧ σ = σ := fun q => ⟨by rw [b2i_f q]; rfl, rfl⟩
  refine And.intro (fun c1 => ?_) (fun c1 => And.intro (by decide) ?_)
  · replace c1 : σ 40 0 1 ≤ nI (c % 12) := c1
    rw [hW] at c1
    exact no (fun q => absurd (le_of_le c1 (by omega)) (by unfold onP at q; omega))
  · replace c1 : ¬ σ 40 0 1 ≤ nI (c % 12) := c1
    rw [hW] at c1
    have c1 := lt_of_nle c1 (by omega)
    rw [div12 (by omega)]
    refine And.intro (fun c2 => ?_) (fun c2 => ?_)
    · replace c2 : σ 40 0 2 ≤ nI (c / 12) := c2
      rw [hH] at c2
      exact no (fun q => absurd (le_of_le c2 (by omega)) (by unfold onP at q; omega))
    · replace c2 : ¬ σ 40 0 2 ≤ nI (c / 12) := c2
      rw [hH] at c2
      have c2 := lt_of_nle c2 (by omega)
      exact ⟨by rw [b2i_t (P := onP W H c) ⟨c1, c2⟩]; rfl, rfl⟩
theorem ev_wet (σ : mS) (x y year : Int32) {W H mp : Nat} (hW : σ 40 0 1 = nI W) (h1 : 0 < W) (h2 : W ≤ 12) (hH : σ 40 0 2 = nI H) (h0 : 0 < H) (h4 : H ≤ 12) (hm : σ 40 0 3 = nI mp) (h3 : mp ≤ 10) (hb : ∀ j, σ 55 0 j &&& 1 = σ 55 0 j) (post : Option mV → mS → Prop)
    (hbad : ¬ ((vp_in x W ∧ vp_in y H) ∧ vp_in year 201 ∧ 0 < mp) → post (some (mI (-1))) (th0 σ))
    (hgo : ∀ X Y, X < W → Y < H → x = nI X → y = nI Y → vp_in year 201 → 0 < mp → post (some (mI (if σ 55 0 (144 * mapInF (σ 54 0) year mp + (12 * Y + X)) = 0 then 0 else 1))) (th0 σ)) : Ev kX8_wet [mM, mI x, mI y, mI year] σ post := by
  refine Ev.intro fun G hG => hG.run ?_
  refine call_of (ev_isCell (th0 σ) x y hW h1 h2 hH h0 h4) ?_
  refine And.intro (fun c1 => hbad (fun q => b_f c1 q.1)) (fun c1 => ?_)
  refine call_of (ev_isYear _ year) ?_
  refine And.intro (fun c2 => hbad (fun q => b_f c2 q.2.1)) (fun c2 => ?_)
  refine And.intro (fun c3 => ?_) (fun c3 => ?_)
  · replace c3 : σ 40 0 3 ≤ 0 := c3
    rw [hm] at c3
    exact hbad (fun q => absurd (le_of_le (b := 0) c3 (by omega)) (by omega))
  · replace c3 : ¬ σ 40 0 3 ≤ 0 := c3
    rw [hm] at c3
    have c3 : 0 < mp := lt_of_nle (b := 0) c3 (by omega)
    obtain ⟨d1, d2⟩ := b_t c1
    obtain ⟨X, hX, rfl⟩ := (vp_nI (by omega)).mp d1
    obtain ⟨Y, hY, rfl⟩ := (vp_nI (by omega)).mp d2
    have hgo := hgo X Y hX hY rfl rfl (b_t c2) c3
    refine call_of (ev_mapIn (th0 σ) year hm h3) ?_
    refine call_of (ev_cell _ (nI X) (nI Y)) ?_
    rw [idx1]
    have hlt := mapInF_lt (σ 54 0) year mp
    refine call_of (ev_isWet (th0 σ) (m := mapInF (σ 54 0) year mp) (by omega) (by omega) hb) ?_
    refine And.intro (fun c4 => ?_) (fun c4 => ?_)
    · replace c4 : σ 55 0 (144 * mapInF (σ 54 0) year mp + (12 * Y + X)) = 0 := c4
      rw [if_pos c4] at hgo
      exact hgo
    · replace c4 : ¬ σ 55 0 (144 * mapInF (σ 54 0) year mp + (12 * Y + X)) = 0 := c4
      rw [if_neg c4] at hgo
      exact hgo
/-- what a cell is by a step: -1 not on the land, 0 dry on both, 1 lost, 2 new, 3 water on both -/
noncomputable def kdF (W H : Nat) (w0 w1 : Nat → Int32) (c : Nat) : Int32 := ifp (onP W H c) (if w0 c = 0 then (if w1 c = 0 then 0 else 1) else (if w1 c = 0 then 2 else 3)) (-1)
/-- the water of map m -/
def wtr (σ : mS) (m : Nat) : Nat → Int32 := fun c => σ 55 0 (144 * m + c)
noncomputable def kdM (σ : mS) (W H m : Nat) : Nat → Int32 := kdF W H (wtr σ (m - 1)) (wtr σ m)
theorem ev_kinds (σ : mS) {m W H : Nat} (hW : σ 40 0 1 = nI W) (h2 : W ≤ 12) (hH : σ 40 0 2 = nI H) (h4 : H ≤ 12) (hm0 : 0 < m) (hm : m ≤ 10) (hb : ∀ j, σ 55 0 j &&& 1 = σ 55 0 j) : Ev kX8_kinds [mM, mI (nI m)] σ (fun r s => r = none ∧ s = mput σ 70 0 (cpy (σ 70 0) (kdM σ W H m) 144)) := by
  refine Ev.intro fun G hG => hG.run ?_
  have key : ∀ n i, i + n = 144 → ∀ z1 z2 : Option mV, G 2 [some mM, some (mI (nI m)), some (mI (nI i)), z1, z2] [] (mput σ 70 0 (cpy (σ 70 0) (kdM σ W H m) i)) := by
    intro n
    induction n with
    | zero =>
      intro i hi z1 z2
      have : i = 144 := by omega
      subst this
      exact hG.run (br_t (Int32.le_refl _) ⟨rfl, rfl⟩)
    | succ n ih =>
      intro i hi z1 z2
      refine hG.run (br_f (nI_ge (b := 144) (by omega) (by decide)) ?_)
      refine call_of (k := kX8_isWet) (a := [mM, mI (nI m - 1), mI (nI i)]) (by rw [nI_m1 hm0]; exact ev_isWet (mput σ 70 0 (cpy (σ 70 0) (kdM σ W H m) i)) (m := m - 1) (c := i) (by omega) (by omega) hb) ?_
      refine call_of (ev_isWet (mput σ 70 0 (cpy (σ 70 0) (kdM σ W H m) i)) (m := m) (c := i) (by omega) (by omega) hb) ?_
      refine call_of (ev_isOn (mput σ 70 0 (cpy (σ 70 0) (kdM σ W H m) i)) (c := i) hW h2 hH h4 (by omega)) ?_
      have fin : ∀ v, v = kdM σ W H m i → vp_in (nI i) 144 ∧ G 2 [some mM, some (mI (nI m)), some (mI (nI i + 1)), some (mI (wtr σ (m - 1) i)), some (mI (wtr σ m i))] [] (mput (mput σ 70 0 (cpy (σ 70 0) (kdM σ W H m) i)) 70 0 (upd (cpy (σ 70 0) (kdM σ W H m) i) (nI i).toNatClampNeg v)) := by
        intro v hv
        refine ⟨vp_in_nI (by omega) (by omega), ?_⟩
        rw [hv, nI_cl (by omega), mput_mput, cpy_s, nI_1]
        exact ih (i + 1) (by omega) _ _
      refine And.intro (fun c1 => ?_) (fun c1 => ?_)
      · have c1 := b_t c1
        refine And.intro (fun c2 => And.intro (fun c3 => ?_) (fun c3 => ?_)) (fun c2 => And.intro (fun c3 => ?_) (fun c3 => ?_))
        · refine fin 0 ?_
          replace c2 : wtr σ (m - 1) i = 0 := c2
          replace c3 : wtr σ m i = 0 := c3
          unfold kdM kdF
          rw [ifp_t c1, if_pos c2, if_pos c3]
        · refine fin 1 ?_
          replace c2 : wtr σ (m - 1) i = 0 := c2
          replace c3 : ¬ wtr σ m i = 0 := c3
          unfold kdM kdF
          rw [ifp_t c1, if_pos c2, if_neg c3]
        · refine fin 2 ?_
          replace c2 : ¬ wtr σ (m - 1) i = 0 := c2
          replace c3 : wtr σ m i = 0 := c3
          unfold kdM kdF
          rw [ifp_t c1, if_neg c2, if_pos c3]
        · refine fin 3 ?_
          replace c2 : ¬ wtr σ (m - 1) i = 0 := c2
          replace c3 : ¬ wtr σ m i = 0 := c3
          unfold kdM kdF
          rw [ifp_t c1, if_neg c2, if_neg c3]
      · refine fin (-1) ?_
        unfold kdM kdF
        rw [ifp_f (b_f c1)]
  have h5 := key 144 0 (by omega) none none
  rw [cpy_0, mput_self] at h5
  exact h5
/-- the difference of two numbers -/
def df (a b : Nat) : Nat := (a - b) + (b - a)
def awF (c d : Nat) : Nat := df (c % 12) (d % 12) + df (c / 12) (d / 12)
def apF (c d : Nat) : Nat := max (df (c % 12) (d % 12)) (df (c / 12) (d / 12))
theorem abs_df {a b : Nat} (ha : a < 2 ^ 30) (hb : b < 2 ^ 30) : (if 0 ≤ nI a - nI b then nI a - nI b else 0 - (nI a - nI b)) = nI (df a b) := by
  have e := pk_sub_toInt ha hb
  by_cases h : b ≤ a
  · rw [if_pos (by rw [Int32.le_iff_toInt_le, e, Int32.toInt_zero]; omega), pk_sub h]
    congr 1
    unfold df; omega
  · rw [if_neg (by rw [Int32.le_iff_toInt_le, e, Int32.toInt_zero]; omega)]
    have : (0 : Int32) - (nI a - nI b) = nI b - nI a := by
      rw [Int32.zero_sub, Int32.neg_sub]
    rw [this, pk_sub (by omega)]
    congr 1
    unfold df; omega
theorem max_nI {a b : Nat} (ha : a < 2 ^ 31) (hb : b < 2 ^ 31) : (if nI a < nI b then nI b else nI a) = nI (max a b) := by
  by_cases h : a < b
  · rw [if_pos (nI_lt h hb), Nat.max_eq_right (by omega)]
  · rw [if_neg (nI_nlt (by omega) ha), Nat.max_eq_left (by omega)]
theorem min_nI {a b : Nat} (ha : a < 2 ^ 31) (hb : b < 2 ^ 31) : (if nI b < nI a then nI b else nI a) = nI (min a b) := by
  by_cases h : b < a
  · rw [if_pos (nI_lt h ha), Nat.min_eq_right (by omega)]
  · rw [if_neg (nI_nlt (by omega) hb), Nat.min_eq_left (by omega)]
theorem df_lt {a b n : Nat} (ha : a < n) (hb : b < n) : df a b < n := by unfold df; omega
theorem ev_apart (σ : mS) {c d : Nat} (hc : c < 144) (hd : d < 144) : Ev kX8_apart [mI (nI c), mI (nI d)] σ (fun r s => r = some (mI (nI (apF c d))) ∧ s = σ) := by
  refine Ev.intro fun G hG => hG.run ?_
  refine And.intro (by decide) (And.intro (by decide) (And.intro (by decide) (And.intro (by decide) ?_)))
  have h1 := df_lt (n := 144) (a := c % 12) (b := d % 12) (by omega) (by omega)
  have h2 := df_lt (n := 144) (a := c / 12) (b := d / 12) (by omega) (by omega)
  have e1 := abs_df (a := c % 12) (b := d % 12) (by omega) (by omega)
  have e2 := abs_df (a := c / 12) (b := d / 12) (by omega) (by omega)
  rw [← rem12 (a := c) (by omega), ← rem12 (a := d) (by omega)] at e1
  rw [← div12 (a := c) (by omega), ← div12 (a := d) (by omega)] at e2
  have e3 := max_nI (a := df (c % 12) (d % 12)) (b := df (c / 12) (d / 12)) (by omega) (by omega)
  rw [← e1, ← e2] at e3
  exact ⟨congrArg (fun z => some (mI z)) e3, rfl⟩
theorem ev_away (σ : mS) {c d : Nat} (hc : c < 144) (hd : d < 144) : Ev kX8_away [mI (nI c), mI (nI d)] σ (fun r s => r = some (mI (nI (awF c d))) ∧ s = σ) := by
  refine Ev.intro fun G hG => hG.run ?_
  refine And.intro (by decide) (And.intro (by decide) (And.intro (by decide) (And.intro (by decide) ?_)))
  have e1 := abs_df (a := c % 12) (b := d % 12) (by omega) (by omega)
  have e2 := abs_df (a := c / 12) (b := d / 12) (by omega) (by omega)
  rw [← rem12 (a := c) (by omega), ← rem12 (a := d) (by omega)] at e1
  rw [← div12 (a := c) (by omega), ← div12 (a := d) (by omega)] at e2
  have e3 := nI_add (df (c % 12) (d % 12)) (df (c / 12) (d / 12))
  rw [← e1, ← e2] at e3
  exact ⟨congrArg (fun z => some (mI z)) e3, rfl⟩
theorem awF_le {c d : Nat} (hc : c < 144) (hd : d < 144) : awF c d ≤ 22 := by unfold awF df; omega
theorem apF_le {c d : Nat} (hc : c < 144) (hd : d < 144) : apF c d ≤ 11 := by unfold apF df; omega
/-- how many cells are of a kind -/
def kcF (kd : Nat → Int32) (its : Int32) (n : Nat) : Int32 := fo (fun c acc => acc + (if kd c = its then 1 else 0)) 0 n
theorem ev_kindsOf (σ : mS) (its : Int32) : Ev kX8_kindsOf [mM, mI its] σ (fun r s => r = some (mI (kcF (σ 70 0) its 144)) ∧ s = σ) := by
  refine Ev.intro fun G hG => hG.run ?_
  have key := loop_up (G := G) 4 144 (fun i => [some mM, some (mI its), some (mI (kcF (σ 70 0) its i)), some (mI (nI i))]) (fun _ => σ) ?_ ?_ 0 (by omega)
  · exact key
  · intro i hi ih
    refine hG.run (br_f (nI_ge (b := 144) hi (by decide)) ?_)
    refine And.intro (vp_in_nI (by omega) (by omega)) ?_
    rw [nI_cl (by omega)]
    have e : kcF (σ 70 0) its (i + 1) = kcF (σ 70 0) its i + (if σ 70 0 i = its then 1 else 0) := rfl
    rw [e, ← nI_1] at ih
    refine And.intro (fun c => ?_) (fun c => ?_)
    · replace c : ¬ σ 70 0 i = its := c
      rw [if_neg c] at ih
      exact ih
    · replace c : σ 70 0 i = its := c
      rw [if_pos c] at ih
      exact ih
  · exact hG.run (br_t (Int32.le_refl _) ⟨rfl, rfl⟩)
end
section
/-! THE REFERENCE: far, sudden, nearest, laws in years -/
noncomputable def lstF (kd : Nat → Int32) (c n : Nat) : Nat := fo (fun d l => ifp (if kd c = 2 then kd d = 0 else (kd d = 2 ∨ kd d = 3)) (min l (apF c d)) l) 13 n
noncomputable def farF (kd : Nat → Int32) (n : Nat) : Nat := fo (fun c m => ifp (kd c = 1 ∨ kd c = 2) (max m (lstF kd c 144)) m) 0 n
theorem lstF_le (kd : Nat → Int32) (c : Nat) : ∀ n, lstF kd c n ≤ 13
  | 0 => Nat.le_refl _
  | n + 1 => by
    have ih := lstF_le kd c n
    show ifp _ (min (lstF kd c n) (apF c n)) (lstF kd c n) ≤ 13
    by_cases h : (if kd c = 2 then kd n = 0 else (kd n = 2 ∨ kd n = 3))
    · rw [ifp_t h]; omega
    · rw [ifp_f h]; exact ih
theorem farF_le (kd : Nat → Int32) : ∀ n, farF kd n ≤ 13
  | 0 => by show 0 ≤ 13; omega
  | n + 1 => by
    have ih := farF_le kd n
    have h2 := lstF_le kd n 144
    show ifp _ (max (farF kd n) (lstF kd n 144)) (farF kd n) ≤ 13
    by_cases h : (kd n = 1 ∨ kd n = 2)
    · rw [ifp_t h]; omega
    · rw [ifp_f h]; exact ih
theorem ev_far (σ : mS) : Ev kX8_far [mM] σ (fun r s => r = some (mI (nI (farF (σ 70 0) 144))) ∧ s = σ) := by
  refine Ev.intro fun G hG => hG.run ?_
  generalize hkd : σ 70 0 = kd at hG ⊢
  have hk : ∀ j, σ 70 0 j = kd j := fun j => by rw [hkd]
  have outer : ∀ n c, c + n = 144 → ∀ z3 z4 z5 : Option mV, G 4 [some mM, some (mI (nI (farF kd c))), some (mI (nI c)), z3, z4, z5] [] σ := by
    intro n
    induction n with
    | zero =>
      intro c hc z3 z4 z5
      have : c = 144 := by omega
      subst this
      exact hG.run (br_t (Int32.le_refl _) ⟨rfl, rfl⟩)
    | succ n ih =>
      intro c hc z3 z4 z5
      have inner : (kd c = 1 ∨ kd c = 2) → ∀ m d, d + m = 144 → ∀ z5 : Option mV, G 40 [some mM, some (mI (nI (farF kd c))), some (mI (nI c)), some (mI (nI (lstF kd c d))), some (mI (nI d)), z5] [] σ := by
        intro hkc m
        induction m with
        | zero =>
          intro d hd z5
          have : d = 144 := by omega
          subst this
          refine hG.run (br_t (Int32.le_refl _) ?_)
          have h1 := farF_le kd c
          have h2 := lstF_le kd c 144
          show G 4 [some mM, some (mI (if nI (farF kd c) < nI (lstF kd c 144) then nI (lstF kd c 144) else nI (farF kd c))), some (mI (nI c + 1)), some (mI (nI (lstF kd c 144))), some (mI (nI 144)), z5] [] σ
          rw [max_nI (by omega) (by omega), nI_1]
          have h5 := ih (c + 1) (by omega) (some (mI (nI (lstF kd c 144)))) (some (mI (nI 144))) z5
          rw [show farF kd (c + 1) = ifp (kd c = 1 ∨ kd c = 2) (max (farF kd c) (lstF kd c 144)) (farF kd c) from rfl, ifp_t hkc] at h5
          exact h5
        | succ m ihm =>
          intro d hd z5
          have h2 := lstF_le kd c d
          have h3 := apF_le (c := c) (d := d) (by omega) (by omega)
          have e : lstF kd c (d + 1) = ifp (if kd c = 2 then kd d = 0 else (kd d = 2 ∨ kd d = 3)) (min (lstF kd c d) (apF c d)) (lstF kd c d) := rfl
          have yes : ∀ (fu q : Nat), q = 98 ∨ q = 68 → (if kd c = 2 then kd d = 0 else (kd d = 2 ∨ kd d = 3)) → mgo Ev kX8_far (fun r s => r = some (mI (nI (farF kd 144))) ∧ s = σ) G (fu + 22) q [some mM, some (mI (nI (farF kd c))), some (mI (nI c)), some (mI (nI (lstF kd c d))), some (mI (nI d)), z5] [] σ := by
            intro fu q hpc hq
            have h5 := ihm (d + 1) (by omega) (some (mI 1))
            rw [e, ifp_t hq] at h5
            rcases hpc with rfl | rfl
            · refine And.intro (fun c0 => absurd c0 (by decide)) (fun _ => ?_)
              refine call_of (ev_apart σ (c := c) (d := d) (by omega) (by omega)) ?_
              show G 40 [some mM, some (mI (nI (farF kd c))), some (mI (nI c)), some (mI (if nI (apF c d) < nI (lstF kd c d) then nI (apF c d) else nI (lstF kd c d))), some (mI (nI d + 1)), some (mI 1)] [] σ
              rw [min_nI (by omega) (by omega), nI_1]
              exact h5
            · refine And.intro (fun c0 => absurd c0 (by decide)) (fun _ => ?_)
              refine call_of (ev_apart σ (c := c) (d := d) (by omega) (by omega)) ?_
              show G 40 [some mM, some (mI (nI (farF kd c))), some (mI (nI c)), some (mI (if nI (apF c d) < nI (lstF kd c d) then nI (apF c d) else nI (lstF kd c d))), some (mI (nI d + 1)), some (mI 1)] [] σ
              rw [min_nI (by omega) (by omega), nI_1]
              exact h5
          have no : ¬ (if kd c = 2 then kd d = 0 else (kd d = 2 ∨ kd d = 3)) → G 40 [some mM, some (mI (nI (farF kd c))), some (mI (nI c)), some (mI (nI (lstF kd c d))), some (mI (nI d + 1)), some (mI 0)] [] σ := by
            intro hq
            have h5 := ihm (d + 1) (by omega) (some (mI 0))
            rw [e, ifp_f hq] at h5
            rw [nI_1]
            exact h5
          refine hG.run (br_f (nI_ge (b := 144) (by omega) (by decide)) ?_)
          have hv : vp_in (nI c) 144 := vp_in_nI (by omega) (by omega)
          have hvd : vp_in (nI d) 144 := vp_in_nI (by omega) (by omega)
          have ec : (nI c).toNatClampNeg = c := nI_cl (by omega)
          have ed : (nI d).toNatClampNeg = d := nI_cl (by omega)
          refine And.intro hv (And.intro (fun c1 => ?_) (fun c1 => ?_))
          · replace c1 : ¬ σ 70 0 (nI c).toNatClampNeg = 2 := c1
            rw [ec, hk] at c1
            refine And.intro hvd (And.intro (fun c2 => ?_) (fun c2 => And.intro hvd (And.intro (fun c3 => ?_) (fun c3 => ?_))))
            · replace c2 : σ 70 0 (nI d).toNatClampNeg = 2 := c2
              rw [ed, hk] at c2
              exact yes _ 98 (Or.inl rfl) (by rw [if_neg c1]; exact Or.inl c2)
            · replace c2 : ¬ σ 70 0 (nI d).toNatClampNeg = 2 := c2
              replace c3 : ¬ σ 70 0 (nI d).toNatClampNeg = 3 := c3
              rw [ed, hk] at c2 c3
              exact And.intro (fun _ => no (by rw [if_neg c1]; exact fun q => q.elim c2 c3)) (fun c0 => absurd rfl c0)
            · replace c3 : σ 70 0 (nI d).toNatClampNeg = 3 := c3
              rw [ed, hk] at c3
              exact yes _ 98 (Or.inl rfl) (by rw [if_neg c1]; exact Or.inr c3)
          · replace c1 : σ 70 0 (nI c).toNatClampNeg = 2 := c1
            rw [ec, hk] at c1
            refine And.intro hvd (And.intro (fun c2 => ?_) (fun c2 => ?_))
            · replace c2 : ¬ σ 70 0 (nI d).toNatClampNeg = 0 := c2
              rw [ed, hk] at c2
              exact And.intro (fun _ => no (by rw [if_pos c1]; exact c2)) (fun c0 => absurd rfl c0)
            · replace c2 : σ 70 0 (nI d).toNatClampNeg = 0 := c2
              rw [ed, hk] at c2
              exact yes _ 68 (Or.inr rfl) (by rw [if_pos c1]; exact c2)
      refine hG.run (br_f (nI_ge (b := 144) (by omega) (by decide)) ?_)
      have hv : vp_in (nI c) 144 := vp_in_nI (by omega) (by omega)
      have ec : (nI c).toNatClampNeg = c := nI_cl (by omega)
      refine And.intro hv (And.intro (fun c1 => ?_) (fun c1 => And.intro hv (And.intro (fun c2 => ?_) (fun c2 => ?_))))
      · replace c1 : σ 70 0 (nI c).toNatClampNeg = 1 := c1
        rw [ec, hk] at c1
        exact inner (Or.inl c1) 144 0 (by omega) z5
      · replace c2 : σ 70 0 (nI c).toNatClampNeg = 2 := c2
        rw [ec, hk] at c2
        exact inner (Or.inr c2) 144 0 (by omega) z5
      · replace c1 : ¬ σ 70 0 (nI c).toNatClampNeg = 1 := c1
        replace c2 : ¬ σ 70 0 (nI c).toNatClampNeg = 2 := c2
        rw [ec, hk] at c1 c2
        have h5 := ih (c + 1) (by omega) z3 z4 z5
        rw [show farF kd (c + 1) = ifp (kd c = 1 ∨ kd c = 2) (max (farF kd c) (lstF kd c 144)) (farF kd c) from rfl, ifp_f (fun q => q.elim c1 c2), ← nI_1] at h5
        exact h5
  exact outer 144 0 (by omega) none none none
/-- a step is sudden -/
def sudP (jd reach : Int32) (far : Nat) : Prop := if 0 ≤ jd then jd = 1 else reach < nI far
theorem ev_isSudden (σ : mS) {m : Nat} (hm : m < 10) : Ev kX8_isSudden [mM, mI (nI m)] σ (fun r s => r = some (mI (b2i (sudP (σ 69 0 m) (σ 40 0 18) (farF (σ 70 0) 144)))) ∧ s = σ) := by
  refine Ev.intro fun G hG => hG.run ?_
  have hv : vp_in (nI m) 10 := vp_in_nI (by omega) (by omega)
  have em : (nI m).toNatClampNeg = m := nI_cl (by omega)
  have yes : sudP (σ 69 0 m) (σ 40 0 18) (farF (σ 70 0) 144) → (some (mI ((1 : Int32) &&& 1)) : Option mV) = some (mI (b2i (sudP (σ 69 0 m) (σ 40 0 18) (farF (σ 70 0) 144)))) ∧ σ = σ := fun q => ⟨by rw [b2i_t q]; rfl, rfl⟩
  have no : ¬ sudP (σ 69 0 m) (σ 40 0 18) (farF (σ 70 0) 144) → (some (mI ((0 : Int32) &&& 1)) : Option mV) = some (mI (b2i (sudP (σ 69 0 m) (σ 40 0 18) (farF (σ 70 0) 144)))) ∧ σ = σ := fun q => ⟨by rw [b2i_f q]; rfl, rfl⟩
  refine And.intro hv (And.intro (fun c1 => And.intro hv (And.intro (fun c2 => ?_) (fun c2 => ?_))) (fun c1 => ?_))
  · replace c1 : 0 ≤ σ 69 0 (nI m).toNatClampNeg := c1
    replace c2 : ¬ σ 69 0 (nI m).toNatClampNeg = 1 := c2
    rw [em] at c1 c2
    exact no (by unfold sudP; rw [if_pos c1]; exact c2)
  · replace c1 : 0 ≤ σ 69 0 (nI m).toNatClampNeg := c1
    replace c2 : σ 69 0 (nI m).toNatClampNeg = 1 := c2
    rw [em] at c1 c2
    exact yes (by unfold sudP; rw [if_pos c1]; exact c2)
  · replace c1 : ¬ 0 ≤ σ 69 0 (nI m).toNatClampNeg := c1
    rw [em] at c1
    refine call_of (ev_far σ) ?_
    refine And.intro (fun c2 => ?_) (fun c2 => ?_)
    · replace c2 : nI (farF (σ 70 0) 144) ≤ σ 40 0 18 := c2
      exact no (by unfold sudP; rw [if_neg c1]; exact fun q => not_le_of q c2)
    · replace c2 : ¬ nI (farF (σ 70 0) 144) ≤ σ 40 0 18 := c2
      exact yes (by unfold sudP; rw [if_neg c1]; exact Int32.not_le.mp c2)
/-- the nearest cell of kind 0, the first of equal ones; n: none -/
noncomputable def nrF (kd : Nat → Int32) (c n : Nat) : Option Nat := fo (fun d b => ifp (kd d = 0 ∧ (∀ e, b = some e → awF c d < awF c e)) (some d) b) none n
def oI (o : Option Nat) : Int32 := match o with
  | none => -1
  | some n => nI n
theorem nrF_lt (kd : Nat → Int32) (c : Nat) : ∀ n e, nrF kd c n = some e → e < n ∧ kd e = 0
  | 0, e, h => by cases h
  | n + 1, e, h => by
    have ih := nrF_lt kd c n
    replace h : ifp (kd n = 0 ∧ (∀ e, nrF kd c n = some e → awF c n < awF c e)) (some n) (nrF kd c n) = some e := h
    by_cases q : kd n = 0 ∧ (∀ e, nrF kd c n = some e → awF c n < awF c e)
    · rw [ifp_t q] at h; cases h; exact ⟨by omega, q.1⟩
    · rw [ifp_f q] at h; have := ih e h; exact ⟨by omega, this.2⟩
theorem oI_neg {o : Option Nat} (h : ∀ e, o = some e → e < 2 ^ 31) : oI o < 0 ↔ o = none := by
  cases o with
  | none => exact ⟨fun _ => rfl, fun _ => by decide⟩
  | some n => exact ⟨fun q => absurd q (nI_pos (h n rfl)), fun q => by cases q⟩
theorem ev_nearest (σ : mS) {c : Nat} (hc : c < 144) : Ev kX8_nearest [mM, mI (nI c)] σ (fun r s => r = some (mI (oI (nrF (σ 70 0) c 144))) ∧ s = σ) := by
  refine Ev.intro fun G hG => hG.run ?_
  have key := loop_up (G := G) 4 144 (fun i => [some mM, some (mI (nI c)), some (mI (oI (nrF (σ 70 0) c i))), some (mI (nI i))]) (fun _ => σ) ?_ ?_ 0 (by omega)
  · exact key
  · intro i hi ih
    have hlt := nrF_lt (σ 70 0) c i
    have e : nrF (σ 70 0) c (i + 1) = ifp (σ 70 0 i = 0 ∧ (∀ e, nrF (σ 70 0) c i = some e → awF c i < awF c e)) (some i) (nrF (σ 70 0) c i) := rfl
    rw [e, ← nI_1] at ih
    refine hG.run (br_f (nI_ge (b := 144) hi (by decide)) ?_)
    refine And.intro (vp_in_nI (by omega) (by omega)) ?_
    rw [nI_cl (by omega)]
    refine And.intro (fun c1 => ?_) (fun c1 => ?_)
    · replace c1 : ¬ σ 70 0 i = 0 := c1
      rw [ifp_f (fun q => c1 q.1)] at ih
      exact ih
    · replace c1 : σ 70 0 i = 0 := c1
      refine And.intro (fun c2 => ?_) (fun c2 => ?_)
      · have c2 := (oI_neg (fun e h => by have := hlt e h; omega)).mp c2
        rw [ifp_t ⟨c1, fun e h => by rw [c2] at h; cases h⟩] at ih
        exact ih
      · have c2 : ¬ nrF (σ 70 0) c i = none := fun q => c2 ((oI_neg (fun e h => by have := hlt e h; omega)).mpr q)
        cases hq : nrF (σ 70 0) c i with
        | none => exact absurd hq c2
        | some b =>
          have hb := hlt b hq
          rw [hq] at ih
          refine call_of (ev_away σ (c := c) (d := i) hc hi) ?_
          refine call_of (ev_away σ (c := c) (d := b) hc (by omega)) ?_
          have h1 := awF_le (c := c) (d := i) hc hi
          have h2 := awF_le (c := c) (d := b) hc (by omega)
          refine And.intro (fun c3 => ?_) (fun c3 => ?_)
          · have c3 := le_of_le c3 (by omega)
            rw [ifp_f (fun q => by have := q.2 b rfl; omega)] at ih
            exact ih
          · have c3 := lt_of_nle c3 (by omega)
            rw [ifp_t ⟨c1, fun e h => by cases h; exact c3⟩] at ih
            exact ih
  · exact hG.run (br_t (Int32.le_refl _) ⟨rfl, rfl⟩)
/-- how far a cell is from a part -/
def apt (pt : Nat → Int32) (its : Int32) (d n : Nat) : Nat := fo (fun e l => if pt e = its then min l (awF e d) else l) 24 n
theorem apt_le (pt : Nat → Int32) (its : Int32) (d : Nat) : ∀ n, apt pt its d n ≤ 24
  | 0 => Nat.le_refl _
  | n + 1 => by
    have ih := apt_le pt its d n
    show (if pt n = its then min (apt pt its d n) (awF n d) else apt pt its d n) ≤ 24
    split <;> omega
theorem ev_awayFromPart (σ : mS) (its : Int32) {d : Nat} (hd : d < 144) : Ev kX8_awayFromPart [mM, mI its, mI (nI d)] σ (fun r s => r = some (mI (nI (apt (σ 71 0) its d 144))) ∧ s = σ) := by
  refine Ev.intro fun G hG => hG.run ?_
  have key := loop_up (G := G) 6 144 (fun i => [some mM, some (mI its), some (mI (nI d)), some (mI (nI (apt (σ 71 0) its d i))), some (mI (nI i))]) (fun _ => σ) ?_ ?_ 0 (by omega)
  · exact key
  · intro i hi ih
    have e : apt (σ 71 0) its d (i + 1) = if σ 71 0 i = its then min (apt (σ 71 0) its d i) (awF i d) else apt (σ 71 0) its d i := rfl
    have h1 := apt_le (σ 71 0) its d i
    have h2 := awF_le (c := i) (d := d) hi hd
    rw [e, ← nI_1] at ih
    refine hG.run (br_f (nI_ge (b := 144) hi (by decide)) ?_)
    refine And.intro (vp_in_nI (by omega) (by omega)) ?_
    rw [nI_cl (by omega)]
    refine And.intro (fun c1 => ?_) (fun c1 => ?_)
    · replace c1 : ¬ σ 71 0 i = its := c1
      rw [if_neg c1] at ih
      exact ih
    · replace c1 : σ 71 0 i = its := c1
      rw [if_pos c1, ← min_nI (by omega) (by omega)] at ih
      exact call_of (ev_away σ (c := i) (d := d) hi hd) ih
  · exact hG.run (br_t (Int32.le_refl _) ⟨rfl, rfl⟩)
/-- the nearest cell of kind 0 to a part, with its distance -/
noncomputable def npF (kd pt : Nat → Int32) (its : Int32) (n : Nat) : Option Nat × Nat := fo (fun d b => ifp (kd d = 0 ∧ (b.1 = none ∨ apt pt its d 144 < b.2)) (some d, apt pt its d 144) b) (none, 0) n
theorem npF_lt (kd pt : Nat → Int32) (its : Int32) : ∀ n, (npF kd pt its n).2 ≤ 24 ∧ ∀ e, (npF kd pt its n).1 = some e → e < n ∧ kd e = 0
  | 0 => ⟨by show 0 ≤ 24; omega, fun e h => by cases h⟩
  | n + 1 => by
    obtain ⟨ih1, ih2⟩ := npF_lt kd pt its n
    have e : npF kd pt its (n + 1) = ifp (kd n = 0 ∧ ((npF kd pt its n).1 = none ∨ apt pt its n 144 < (npF kd pt its n).2)) (some n, apt pt its n 144) (npF kd pt its n) := rfl
    rw [e]
    by_cases q : kd n = 0 ∧ ((npF kd pt its n).1 = none ∨ apt pt its n 144 < (npF kd pt its n).2)
    · rw [ifp_t q]
      exact ⟨apt_le _ _ _ _, fun e h => by cases h; exact ⟨by omega, q.1⟩⟩
    · rw [ifp_f q]
      exact ⟨ih1, fun e h => ⟨by have := (ih2 e h).1; omega, (ih2 e h).2⟩⟩
theorem ev_nearestToPart (σ : mS) (its : Int32) : Ev kX8_nearestToPart [mM, mI its] σ (fun r s => r = some (mI (oI (npF (σ 70 0) (σ 71 0) its 144).1)) ∧ s = σ) := by
  refine Ev.intro fun G hG => hG.run ?_
  have key : ∀ n i, i + n = 144 → ∀ z : Option mV, G 7 [some mM, some (mI its), some (mI (oI (npF (σ 70 0) (σ 71 0) its i).1)), some (mI (nI (npF (σ 70 0) (σ 71 0) its i).2)), some (mI (nI i)), z] [] σ := by
    intro n
    induction n with
    | zero =>
      intro i hi z
      have : i = 144 := by omega
      subst this
      exact hG.run (br_t (Int32.le_refl _) ⟨rfl, rfl⟩)
    | succ n ih =>
      intro i hi z
      obtain ⟨h1, h2⟩ := npF_lt (σ 70 0) (σ 71 0) its i
      have h3 := apt_le (σ 71 0) its i 144
      have e : npF (σ 70 0) (σ 71 0) its (i + 1) = ifp (σ 70 0 i = 0 ∧ ((npF (σ 70 0) (σ 71 0) its i).1 = none ∨ apt (σ 71 0) its i 144 < (npF (σ 70 0) (σ 71 0) its i).2)) (some i, apt (σ 71 0) its i 144) (npF (σ 70 0) (σ 71 0) its i) := rfl
      refine hG.run (br_f (nI_ge (b := 144) (by omega) (by decide)) ?_)
      refine And.intro (vp_in_nI (by omega) (by omega)) ?_
      rw [nI_cl (by omega)]
      refine And.intro (fun c1 => ?_) (fun c1 => ?_)
      · replace c1 : σ 70 0 i = 0 := c1
        refine call_of (ev_awayFromPart σ its (d := i) (by omega)) ?_
        have ih := ih (i + 1) (by omega) (some (mI (nI (apt (σ 71 0) its i 144))))
        rw [e, ← nI_1] at ih
        refine And.intro (fun c2 => ?_) (fun c2 => And.intro (fun c3 => ?_) (fun c3 => ?_))
        · have c2 := (oI_neg (fun e h => by have := h2 e h; omega)).mp c2
          rw [ifp_t ⟨c1, Or.inl c2⟩] at ih
          exact ih
        · have c2 : ¬ (npF (σ 70 0) (σ 71 0) its i).1 = none := fun q => c2 ((oI_neg (fun e h => by have := h2 e h; omega)).mpr q)
          have c3 := le_of_le c3 (by omega)
          rw [ifp_f (fun q => q.2.elim c2 (fun z => by omega))] at ih
          exact ih
        · have c3 := lt_of_nle c3 (by omega)
          rw [ifp_t ⟨c1, Or.inr c3⟩] at ih
          exact ih
      · replace c1 : ¬ σ 70 0 i = 0 := c1
        have ih := ih (i + 1) (by omega) z
        rw [e, ifp_f (fun q => c1 q.1), ← nI_1] at ih
        exact ih
  exact key 144 0 (by omega) none
end
section
/-! THE REFERENCE: laws, deeds, areas -/
noncomputable def lwF (yr : Nat → Int32) (year : Int32) (n j : Nat) : Option Nat := fo (fun j b => ifp (yr (n - 1 - j) ≤ year ∧ (∀ e, b = some e → yr e < yr (n - 1 - j))) (some (n - 1 - j)) b) none j
theorem lwF_lt (yr : Nat → Int32) (year : Int32) (n : Nat) : ∀ j e, j ≤ n → lwF yr year n j = some e → e < n
  | 0, e, _, h => by cases h
  | j + 1, e, hj, h => by
    have ih := lwF_lt yr year n j
    replace h : ifp (yr (n - 1 - j) ≤ year ∧ (∀ e, lwF yr year n j = some e → yr e < yr (n - 1 - j))) (some (n - 1 - j)) (lwF yr year n j) = some e := h
    by_cases q : yr (n - 1 - j) ≤ year ∧ (∀ e, lwF yr year n j = some e → yr e < yr (n - 1 - j))
    · rw [ifp_t q] at h; cases h; omega
    · rw [ifp_f q] at h; exact ih e (by omega) h
theorem nI_d (i : Nat) : nI (i + 1) + (-1) = nI i := pk_m1 i
theorem ev_lawIn (σ : mS) (year : Int32) {ln : Nat} (hm : σ 40 0 13 = nI ln) (h3 : ln ≤ 20) : Ev kX8_lawIn [mM, mI year] σ (fun r s => r = some (mI (oI (lwF (σ 64 0) year ln ln))) ∧ s = σ) := by
  refine Ev.intro fun G hG => hG.run ?_
  show G 9 [some mM, some (mI year), some (mI (-1)), some (mI (σ 40 0 13 - 1))] [] σ
  rw [hm]
  have key : ∀ i j, i + j = ln → G 9 [some mM, some (mI year), some (mI (oI (lwF (σ 64 0) year ln j))), some (mI (nI i - 1))] [] σ := by
    intro i
    induction i with
    | zero =>
      intro j hj
      have : j = ln := by omega
      subst this
      exact hG.run (br_t (by decide) ⟨rfl, rfl⟩)
    | succ i ih =>
      intro j hj
      have hlt := lwF_lt (σ 64 0) year ln j
      have e : lwF (σ 64 0) year ln (j + 1) = ifp (σ 64 0 (ln - 1 - j) ≤ year ∧ (∀ e, lwF (σ 64 0) year ln j = some e → σ 64 0 e < σ 64 0 (ln - 1 - j))) (some (ln - 1 - j)) (lwF (σ 64 0) year ln j) := rfl
      have ei : ln - 1 - j = i := by omega
      have ih := ih (j + 1) (by omega)
      rw [e, ei] at ih
      have hm1 : nI i - 1 = nI i + (-1) := by rw [Int32.sub_eq_add_neg]
      rw [hm1] at ih
      rw [nI_pred]
      refine hG.run (br_f (nI_pos (by omega)) ?_)
      refine And.intro (vp_in_nI (by omega) (by omega)) ?_
      rw [nI_cl (by omega)]
      refine And.intro (fun c1 => ?_) (fun c1 => ?_)
      · replace c1 : year < σ 64 0 i := c1
        rw [ifp_f (fun q => not_le_of c1 q.1)] at ih
        exact ih
      · replace c1 : ¬ year < σ 64 0 i := c1
        have c1 := Int32.not_lt.mp c1
        refine And.intro (fun c2 => ?_) (fun c2 => ?_)
        · have c2 := (oI_neg (fun e h => by have := hlt e (by omega) h; omega)).mp c2
          rw [ifp_t ⟨c1, fun e h => by rw [c2] at h; cases h⟩] at ih
          exact ih
        · have c2 : ¬ lwF (σ 64 0) year ln j = none := fun q => c2 ((oI_neg (fun e h => by have := hlt e (by omega) h; omega)).mpr q)
          cases hq : lwF (σ 64 0) year ln j with
          | none => exact absurd hq c2
          | some b =>
            have hb := hlt b (by omega) hq
            rw [hq] at ih
            refine And.intro (vp_in_nI (by omega) (by omega)) (And.intro (vp_in_nI (by omega) (by omega)) ?_)
            have eb : (nI b).toNatClampNeg = b := nI_cl (by omega)
            have ei2 : (nI i).toNatClampNeg = i := nI_cl (by omega)
            refine And.intro (fun c3 => ?_) (fun c3 => ?_)
            · replace c3 : σ 64 0 (nI i).toNatClampNeg ≤ σ 64 0 (nI b).toNatClampNeg := c3
              rw [eb, ei2] at c3
              rw [ifp_f (fun q => not_le_of (q.2 b rfl) c3)] at ih
              exact ih
            · replace c3 : ¬ σ 64 0 (nI i).toNatClampNeg ≤ σ 64 0 (nI b).toNatClampNeg := c3
              rw [eb, ei2] at c3
              rw [ifp_t ⟨c1, fun e h => by cases h; exact Int32.not_le.mp c3⟩] at ih
              exact ih
  exact key ln 0 (by omega)
theorem ev_begins (σ : mS) : Ev kX8_begins [mM] σ (fun r s => r = none ∧ s = mput σ 74 0 (cpy (σ 74 0) (σ 56 0) 144)) := by
  refine Ev.intro fun G hG => hG.run ?_
  have key := loop_up (G := G) 2 144 (fun i => [some mM, some (mI (nI i))]) (fun i => mput σ 74 0 (cpy (σ 74 0) (σ 56 0) i)) ?_ ?_ 0 (by omega)
  · rw [cpy_0, mput_self] at key
    exact key
  · intro i hi ih
    refine hG.run (br_f (nI_ge (b := 144) hi (by decide)) ?_)
    refine And.intro (vp_in_nI (by omega) (by omega)) (And.intro (vp_in_nI (by omega) (by omega)) ?_)
    rw [nI_cl (by omega)]
    show G 2 [some mM, some (mI (nI i + 1))] [] (mput (mput σ 74 0 (cpy (σ 74 0) (σ 56 0) i)) 74 0 (upd (cpy (σ 74 0) (σ 56 0) i) i (σ 56 0 i)))
    rw [mput_mput, cpy_s, nI_1]
    exact ih
  · exact hG.run (br_t (Int32.le_refl _) ⟨rfl, rfl⟩)
/-- the step of a year -/
noncomputable def stI (yr : Nat → Int32) (year : Int32) (n : Nat) : Option Nat := fo (fun m b => ifp (b = none ∧ 0 < m ∧ yr m = year) (some m) b) none n
theorem stI_lt (yr : Nat → Int32) (year : Int32) : ∀ n e, stI yr year n = some e → 0 < e ∧ e < n ∧ yr e = year
  | 0, e, h => by cases h
  | n + 1, e, h => by
    replace h : ifp (stI yr year n = none ∧ 0 < n ∧ yr n = year) (some n) (stI yr year n) = some e := h
    by_cases q : stI yr year n = none ∧ 0 < n ∧ yr n = year
    · rw [ifp_t q] at h; cases h; exact ⟨q.2.1, by omega, q.2.2⟩
    · rw [ifp_f q] at h
      have := stI_lt yr year n e h
      exact ⟨this.1, by omega, this.2.2⟩
theorem stI_keep (yr : Nat → Int32) (year : Int32) {n e : Nat} (h : stI yr year n = some e) : ∀ k, stI yr year (n + k) = some e
  | 0 => h
  | k + 1 => by
    show ifp (stI yr year (n + k) = none ∧ 0 < n + k ∧ yr (n + k) = year) (some (n + k)) (stI yr year (n + k)) = some e
    rw [stI_keep yr year h k]
    exact ifp_f (fun q => by cases q.1)
theorem ev_stepIn (σ : mS) (year : Int32) {mp : Nat} (hm : σ 40 0 3 = nI mp) (h3 : mp ≤ 10) : Ev kX8_stepIn [mM, mI year] σ (fun r s => r = some (mI (oI (stI (σ 54 0) year mp))) ∧ s = σ) := by
  refine Ev.intro fun G hG => hG.run ?_
  show G 2 [some mM, some (mI year), some (mI (nI 1))] [] σ
  have key : ∀ n i, 0 < i → i + n = max mp 1 → stI (σ 54 0) year i = none → G 2 [some mM, some (mI year), some (mI (nI i))] [] σ := by
    intro n
    induction n with
    | zero =>
      intro i h0 hi hn
      refine hG.run (br_t ?_ ?_)
      · show σ 40 0 3 ≤ nI i
        rw [hm]; exact nI_le (by omega) (by omega)
      · have : stI (σ 54 0) year mp = none := by
          by_cases q : 0 < mp
          · rw [show mp = i by omega]; exact hn
          · rw [show mp = 0 by omega]; rfl
        exact ⟨by rw [this]; rfl, rfl⟩
    | succ n ih =>
      intro i h0 hi hn
      have hlt : i < mp := by omega
      refine hG.run (br_f ?_ ?_)
      · show ¬ σ 40 0 3 ≤ nI i
        rw [hm]; exact nI_ge hlt (by omega)
      · refine And.intro (vp_in_nI (by omega) (by omega)) ?_
        rw [nI_cl (by omega)]
        have e : stI (σ 54 0) year (i + 1) = ifp (stI (σ 54 0) year i = none ∧ 0 < i ∧ σ 54 0 i = year) (some i) (stI (σ 54 0) year i) := rfl
        refine And.intro (fun c1 => ?_) (fun c1 => ?_)
        · replace c1 : ¬ σ 54 0 i = year := c1
          rw [ifp_f (fun q => c1 q.2.2)] at e
          have h5 := ih (i + 1) (by omega) (by omega) (e.trans hn)
          rw [← nI_1] at h5
          exact h5
        · replace c1 : σ 54 0 i = year := c1
          rw [ifp_t ⟨hn, h0, c1⟩] at e
          have := stI_keep (σ 54 0) year e (mp - (i + 1))
          rw [show i + 1 + (mp - (i + 1)) = mp by omega] at this
          exact ⟨by rw [this]; rfl, rfl⟩
  exact key (max mp 1 - 1) 1 (by omega) (by omega) (ifp_f (fun q => Nat.lt_irrefl 0 q.2.1))
noncomputable def dedF (o wt : Nat → Int32) (a b : Nat) (ow : Int32) (n : Nat) : Nat → Int32 := fun c => ifp (c < n ∧ inBox c a b ∧ wt c = 0 ∧ 0 ≤ o c) ow (o c)
theorem dedF_0 (o wt : Nat → Int32) (a b : Nat) (ow : Int32) : dedF o wt a b ow 0 = o := by
  funext j
  exact ifp_f (by omega)
theorem dedF_s (o wt : Nat → Int32) (a b : Nat) (ow : Int32) (n : Nat) : upd (dedF o wt a b ow n) n (ifp (inBox n a b ∧ wt n = 0 ∧ 0 ≤ o n) ow (o n)) = dedF o wt a b ow (n + 1) := by
  funext j
  unfold dedF
  by_cases h1 : j = n
  · subst h1
    rw [upd_eq]
    exact ifp_c ⟨fun q => ⟨by omega, q⟩, fun q => q.2⟩
  · rw [upd_ne _ _ h1]
    exact ifp_c ⟨fun q => ⟨by omega, q.2⟩, fun q => ⟨by omega, q.2⟩⟩
/-- the deeds of a year -/
noncomputable def dsF (σ : mS) (wt : Nat → Int32) (year : Int32) (o : Nat → Int32) (n : Nat) : Nat → Int32 := fo (fun d o => ifp (σ 62 0 d = 0 ∧ σ 61 0 d = year) (dedF o wt (σ 58 0 d).toNatClampNeg (σ 59 0 d).toNatClampNeg (σ 60 0 d) 144) o) o n
/-- what deeds must be -/
def dedOK (σ : mS) (dn : Nat) : Prop := ∀ d, d < dn → (∃ a, a < 144 ∧ σ 58 0 d = nI a) ∧ (∃ b, b < 144 ∧ σ 59 0 d = nI b)
theorem ev_deedsIn (σ : mS) (year : Int32) {mp dn : Nat} (hm : σ 40 0 3 = nI mp) (h3 : mp ≤ 10) (hd : σ 40 0 7 = nI dn) (h4 : dn ≤ 30) (hb : ∀ j, σ 55 0 j &&& 1 = σ 55 0 j) (hok : dedOK σ dn) : Ev kX8_deedsIn [mM, mI year] σ (fun r s => r = none ∧ s = mput σ 74 0 (dsF σ (wtr σ (mapInF (σ 54 0) year mp)) year (σ 74 0) dn)) := by
  refine Ev.intro fun G hG => hG.run ?_
  refine call_of (ev_mapIn σ year hm h3) ?_
  have hlt := mapInF_lt (σ 54 0) year mp
  generalize mapInF (σ 54 0) year mp = M at hlt hG ⊢
  have hM : M ≤ 10 := by omega
  have outer : ∀ n d, d + n = dn → ∀ z4 z5 : Option mV, G 8 [some mM, some (mI year), some (mI (nI M)), some (mI (nI d)), z4, z5] [] (mput σ 74 0 (dsF σ (wtr σ M) year (σ 74 0) d)) := by
    intro n
    induction n with
    | zero =>
      intro d hdn z4 z5
      have : d = dn := by omega
      subst this
      refine hG.run (br_t ?_ ⟨rfl, rfl⟩)
      show σ 40 0 7 ≤ nI d
      rw [hd]; exact Int32.le_refl _
    | succ n ih =>
      intro d hdn z4 z5
      obtain ⟨⟨a, ha, ea⟩, ⟨b, hb', eb⟩⟩ := hok d (by omega)
      have e : dsF σ (wtr σ M) year (σ 74 0) (d + 1) = ifp (σ 62 0 d = 0 ∧ σ 61 0 d = year) (dedF (dsF σ (wtr σ M) year (σ 74 0) d) (wtr σ M) (σ 58 0 d).toNatClampNeg (σ 59 0 d).toNatClampNeg (σ 60 0 d) 144) (dsF σ (wtr σ M) year (σ 74 0) d) := rfl
      have ca : (σ 58 0 d).toNatClampNeg = a := by rw [ea, nI_cl (by omega)]
      have cb : (σ 59 0 d).toNatClampNeg = b := by rw [eb, nI_cl (by omega)]
      rw [ca, cb] at e
      have cd : (nI d).toNatClampNeg = d := nI_cl (by omega)
      generalize dsF σ (wtr σ M) year (σ 74 0) d = o at e
      have hvd : vp_in (nI d) 30 := vp_in_nI (by omega) (by omega)
      refine hG.run (br_f ?_ ?_)
      · show ¬ σ 40 0 7 ≤ nI d
        rw [hd]; exact nI_ge (by omega) (by omega)
      · refine And.intro hvd (And.intro (fun c1 => ?_) (fun c1 => And.intro hvd (And.intro (fun c2 => ?_) (fun c2 => ?_))))
        · replace c1 : ¬ σ 62 0 (nI d).toNatClampNeg = 0 := c1
          rw [cd] at c1
          rw [ifp_f (fun q => c1 q.1)] at e
          have h5 := ih (d + 1) (by omega) z4 z5
          rw [e, ← nI_1] at h5
          exact h5
        · replace c1 : σ 62 0 (nI d).toNatClampNeg = 0 := c1
          replace c2 : σ 61 0 (nI d).toNatClampNeg = year := c2
          rw [cd] at c1 c2
          rw [ifp_t ⟨c1, c2⟩] at e
          have inner : ∀ m c, c + m = 144 → ∀ z5 : Option mV, G 41 [some mM, some (mI year), some (mI (nI M)), some (mI (nI d)), some (mI (nI c)), z5] [] (mput σ 74 0 (dedF o (wtr σ M) a b (σ 60 0 d) c)) := by
            intro m
            induction m with
            | zero =>
              intro c hc z5
              have : c = 144 := by omega
              subst this
              have h5 := ih (d + 1) (by omega) (some (mI (nI 144))) z5
              rw [e, ← nI_1] at h5
              exact hG.run (br_t (Int32.le_refl _) h5)
            | succ m ihm =>
              intro c hc z5
              have hvc : vp_in (nI c) 144 := vp_in_nI (by omega) (by omega)
              have cc : (nI c).toNatClampNeg = c := nI_cl (by omega)
              have eo : dedF o (wtr σ M) a b (σ 60 0 d) c c = o c := ifp_f (by omega)
              have es := dedF_s o (wtr σ M) a b (σ 60 0 d) c
              refine hG.run (br_f (nI_ge (b := 144) (by omega) (by decide)) ?_)
              refine And.intro hvd (And.intro hvd ?_)
              refine call_of (k := kX8_isInBox) (a := [mI (nI c), mI (σ 58 0 (nI d).toNatClampNeg), mI (σ 59 0 (nI d).toNatClampNeg)]) (by rw [cd, ea, eb]; exact ev_isInBox (mput σ 74 0 (dedF o (wtr σ M) a b (σ 60 0 d) c)) (c := c) (a := a) (b := b) (by omega) ha hb') ?_
              have no : ¬ (inBox c a b ∧ wtr σ M c = 0 ∧ 0 ≤ o c) → vp_in (nI c) 144 ∧ vp_in (nI c) 144 ∧ G 41 [some mM, some (mI year), some (mI (nI M)), some (mI (nI d)), some (mI (nI c + 1)), some (mI 0)] [] (mput (mput σ 74 0 (dedF o (wtr σ M) a b (σ 60 0 d) c)) 74 0 (upd (dedF o (wtr σ M) a b (σ 60 0 d) c) (nI c).toNatClampNeg (dedF o (wtr σ M) a b (σ 60 0 d) c (nI c).toNatClampNeg))) := by
                intro q
                refine ⟨hvc, hvc, ?_⟩
                rw [ifp_f q] at es
                rw [cc, eo, mput_mput, es, nI_1]
                exact ihm (c + 1) (by omega) _
              refine And.intro (fun c3 => And.intro (fun _ => no (fun q => b_f c3 q.1)) (fun c0 => absurd rfl c0)) (fun c3 => ?_)
              refine call_of (ev_isWet (mput σ 74 0 (dedF o (wtr σ M) a b (σ 60 0 d) c)) (m := M) (c := c) hM (by omega) hb) ?_
              refine And.intro (fun c4 => And.intro (fun _ => no (fun q => c4 q.2.1)) (fun c0 => absurd rfl c0)) (fun c4 => ?_)
              refine And.intro hvc (And.intro (fun c5 => ?_) (fun c5 => ?_))
              · replace c5 : dedF o (wtr σ M) a b (σ 60 0 d) c (nI c).toNatClampNeg < 0 := c5
                rw [cc, eo] at c5
                exact And.intro (fun _ => no (fun q => not_le_of c5 q.2.2)) (fun c0 => absurd rfl c0)
              · replace c5 : ¬ dedF o (wtr σ M) a b (σ 60 0 d) c (nI c).toNatClampNeg < 0 := c5
                rw [cc, eo] at c5
                refine And.intro (fun c0 => absurd c0 (by decide)) (fun _ => And.intro hvd (And.intro hvc ?_))
                show G 41 [some mM, some (mI year), some (mI (nI M)), some (mI (nI d)), some (mI (nI c + 1)), some (mI 1)] [] (mput (mput σ 74 0 (dedF o (wtr σ M) a b (σ 60 0 d) c)) 74 0 (upd (dedF o (wtr σ M) a b (σ 60 0 d) c) (nI c).toNatClampNeg (σ 60 0 (nI d).toNatClampNeg)))
                rw [ifp_t ⟨b_t c3, c4, Int32.not_lt.mp c5⟩] at es
                rw [cc, cd, mput_mput, es, nI_1]
                exact ihm (c + 1) (by omega) _
          have h6 := inner 144 0 (by omega) z5
          rw [dedF_0] at h6
          exact h6
        · replace c2 : ¬ σ 61 0 (nI d).toNatClampNeg = year := c2
          rw [cd] at c2
          rw [ifp_f (fun q => c2 q.2)] at e
          have h5 := ih (d + 1) (by omega) z4 z5
          rw [e, ← nI_1] at h5
          exact h5
  have h7 := outer dn 0 (by omega) none none
  rw [show dsF σ (wtr σ M) year (σ 74 0) 0 = σ 74 0 from rfl, mput_self] at h7
  exact h7
noncomputable def arF (W H : Nat) (wt o : Nat → Int32) (its : Int32) (n : Nat) : Int32 := fo (fun c acc => acc + b2i (onP W H c ∧ wt c = 0 ∧ o c = its)) 0 n
theorem ev_areaOn (σ : mS) (its : Int32) {m W H : Nat} (hW : σ 40 0 1 = nI W) (h2 : W ≤ 12) (hH : σ 40 0 2 = nI H) (h4 : H ≤ 12) (hm : m ≤ 10) (hb : ∀ j, σ 55 0 j &&& 1 = σ 55 0 j) : Ev kX8_areaOn [mM, mI (nI m), mI its] σ (fun r s => r = some (mI (arF W H (wtr σ m) (σ 74 0) its 144)) ∧ s = σ) := by
  refine Ev.intro fun G hG => hG.run ?_
  have key := loop_up (G := G) 5 144 (fun i => [some mM, some (mI (nI m)), some (mI its), some (mI (arF W H (wtr σ m) (σ 74 0) its i)), some (mI (nI i))]) (fun _ => σ) ?_ ?_ 0 (by omega)
  · exact key
  · intro i hi ih
    have e : arF W H (wtr σ m) (σ 74 0) its (i + 1) = arF W H (wtr σ m) (σ 74 0) its i + b2i (onP W H i ∧ wtr σ m i = 0 ∧ σ 74 0 i = its) := rfl
    rw [e, ← nI_1] at ih
    have no : ¬ (onP W H i ∧ wtr σ m i = 0 ∧ σ 74 0 i = its) → G 5 [some mM, some (mI (nI m)), some (mI its), some (mI (arF W H (wtr σ m) (σ 74 0) its i + 0)), some (mI (nI i + 1))] [] σ := fun q => by rw [b2i_f q] at ih; exact ih
    refine hG.run (br_f (nI_ge (b := 144) hi (by decide)) ?_)
    refine call_of (ev_isOn σ (c := i) hW h2 hH h4 hi) ?_
    refine And.intro (fun c1 => no (fun q => b_f c1 q.1)) (fun c1 => ?_)
    refine call_of (ev_isWet σ (m := m) (c := i) hm hi hb) ?_
    refine And.intro (fun c2 => no (fun q => c2 q.2.1)) (fun c2 => ?_)
    refine And.intro (vp_in_nI (by omega) (by omega)) ?_
    rw [nI_cl (by omega)]
    refine And.intro (fun c3 => no (fun q => c3 q.2.2)) (fun c3 => ?_)
    rw [b2i_t ⟨b_t c1, c2, c3⟩] at ih
    exact ih
  · exact hG.run (br_t (Int32.le_refl _) ⟨rfl, rfl⟩)
def bwP (W H : Nat) (wt : Nat → Int32) (c n : Nat) : Prop := ∃ d, d < n ∧ onP W H d ∧ ¬ wt d = 0 ∧ awF c d = 1
theorem ev_isByWater (σ : mS) {m c W H : Nat} (hW : σ 40 0 1 = nI W) (h2 : W ≤ 12) (hH : σ 40 0 2 = nI H) (h4 : H ≤ 12) (hm : m ≤ 10) (hc : c < 144) (hb : ∀ j, σ 55 0 j &&& 1 = σ 55 0 j) : Ev kX8_isByWater [mM, mI (nI m), mI (nI c)] σ (fun r s => r = some (mI (b2i (bwP W H (wtr σ m) c 144))) ∧ s = σ) := by
  refine Ev.intro fun G hG => hG.run ?_
  have key := loop_up (G := G) 5 144 (fun i => [some mM, some (mI (nI m)), some (mI (nI c)), some (mI (b2i (bwP W H (wtr σ m) c i))), some (mI (nI i))]) (fun _ => σ) ?_ ?_ 0 (by omega)
  · rw [b2i_f (P := bwP W H (wtr σ m) c 0) (fun ⟨d, h, _⟩ => by omega)] at key
    exact key
  · intro i hi ih
    have yes : bwP W H (wtr σ m) c (i + 1) → G 5 [some mM, some (mI (nI m)), some (mI (nI c)), some (mI 1), some (mI (nI i + 1))] [] σ := fun q => by rw [b2i_t q, ← nI_1] at ih; exact ih
    have no : ¬ bwP W H (wtr σ m) c (i + 1) → G 5 [some mM, some (mI (nI m)), some (mI (nI c)), some (mI 0), some (mI (nI i + 1))] [] σ := fun q => by rw [b2i_f q, ← nI_1] at ih; exact ih
    have split : ∀ q : bwP W H (wtr σ m) c (i + 1), bwP W H (wtr σ m) c i ∨ (onP W H i ∧ ¬ wtr σ m i = 0 ∧ awF c i = 1) := by
      rintro ⟨d, h1, h2⟩
      by_cases hd : d = i
      · subst hd; exact Or.inr h2
      · exact Or.inl ⟨d, by omega, h2⟩
    refine hG.run (br_f (nI_ge (b := 144) hi (by decide)) ?_)
    refine And.intro (fun c1 => ?_) (fun c1 => ?_)
    · obtain ⟨d, h1, h2⟩ := b_t c1
      exact yes ⟨d, by omega, h2⟩
    · have c1 := b_f c1
      refine call_of (ev_isOn σ (c := i) hW h2 hH h4 hi) ?_
      refine And.intro (fun c2 => no (fun q => (split q).elim c1 (fun z => b_f c2 z.1))) (fun c2 => ?_)
      refine call_of (ev_isWet σ (m := m) (c := i) hm hi hb) ?_
      refine And.intro (fun c3 => no (fun q => (split q).elim c1 (fun z => z.2.1 c3))) (fun c3 => ?_)
      refine call_of (ev_away σ (c := c) (d := i) hc hi) ?_
      have h1 := awF_le (c := c) (d := i) hc hi
      refine And.intro (fun c4 => no (fun q => (split q).elim c1 (fun z => c4 (by rw [z.2.2]; rfl)))) (fun c4 => ?_)
      exact yes ⟨i, by omega, b_t c2, c3, (nI_eq (b := 1) (by omega) (by omega)).mp c4⟩
  · exact hG.run (br_t (Int32.le_refl _) ⟨congrArg (fun z => some (mI z)) (b2i_and _), rfl⟩)
end
section
/-! WHAT HANGS TOGETHER -/
theorem df_comm (a b : Nat) : df a b = df b a := by unfold df; omega
theorem awF_comm (c d : Nat) : awF c d = awF d c := by unfold awF; rw [df_comm (c % 12), df_comm (c / 12)]
/-- c and d hang together by cells of S -/
def conn (S : Nat → Prop) (c d : Nat) : Prop := ∀ P : Nat → Prop, P c → (∀ a b, P a → S a → S b → awF a b = 1 → P b) → P d
theorem conn_rf {S : Nat → Prop} {c : Nat} : conn S c c := fun _ h _ => h
theorem conn_st {S : Nat → Prop} {c a b : Nat} (h : conn S c a) (ha : S a) (hb : S b) (hab : awF a b = 1) : conn S c b := fun P h0 h1 => h1 a b (h P h0 h1) ha hb hab
theorem conn_tr {S : Nat → Prop} {a b c : Nat} (h1 : conn S a b) (h2 : conn S b c) : conn S a c := fun P h0 hs => h2 P (h1 P h0 hs) hs
theorem conn_sy {S : Nat → Prop} {a b : Nat} (h : conn S a b) : conn S b a :=
  h (fun x => conn S x a) conn_rf (fun x y hx sx sy hxy => conn_tr (conn_st conn_rf sy sx (by rw [awF_comm]; exact hxy)) hx)
theorem conn_in {S : Nat → Prop} {a b : Nat} (h : conn S a b) (ha : S a) : S b := h S ha (fun _ _ _ _ hb _ => hb)
theorem lab_ex (S : Nat → Prop) (c : Nat) : ∃ k, conn S c k ∧ ∀ j, j < k → ¬ conn S c j := pk_least (conn S c) ⟨c, conn_rf⟩
/-- the least cell that hangs together with c -/
noncomputable def lab (S : Nat → Prop) (c : Nat) : Nat := Classical.choose (lab_ex S c)
theorem lab_conn (S : Nat → Prop) (c : Nat) : conn S c (lab S c) := (Classical.choose_spec (lab_ex S c)).1
theorem lab_min {S : Nat → Prop} {c d : Nat} (h : conn S c d) : lab S c ≤ d := Nat.le_of_not_lt fun q => (Classical.choose_spec (lab_ex S c)).2 d q h
theorem lab_le (S : Nat → Prop) (c : Nat) : lab S c ≤ c := lab_min conn_rf
theorem lab_eq {S : Nat → Prop} {c d : Nat} (h : conn S c d) : lab S c = lab S d := Nat.le_antisymm (lab_min (conn_tr h (lab_conn S d))) (lab_min (conn_tr (conn_sy h) (lab_conn S c)))
theorem lab_lab (S : Nat → Prop) (c : Nat) : lab S (lab S c) = lab S c := (lab_eq (lab_conn S c)).symm
theorem lab_in {S : Nat → Prop} {c : Nat} (h : S c) : S (lab S c) := conn_in (lab_conn S c) h
/-- labels: -1 outside, inside a cell that hangs together with it -/
def labOK (S : Nat → Prop) (p : Nat → Int32) : Prop := ∀ c, c < 144 → (¬ S c → p c = -1) ∧ (S c → ∃ l, l ≤ c ∧ p c = nI l ∧ conn S c l)
/-- one cell against another -/
def psD (p : Nat → Int32) (c d : Nat) : Prop := 0 ≤ p c ∧ 0 ≤ p d ∧ awF c d = 1 ∧ p d < p c
noncomputable def psI (c : Nat) (st : (Nat → Int32) × Bool) (n : Nat) : (Nat → Int32) × Bool := fo (fun d st => ifp (psD st.1 c d) (upd st.1 c (st.1 d), true) st) st n
noncomputable def psO (st : (Nat → Int32) × Bool) (n : Nat) : (Nat → Int32) × Bool := fo (fun c st => psI c st 144) st n
/-- the label is the least -/
def atL (S : Nat → Prop) (p : Nat → Int32) (c : Nat) : Prop := S c → p c = nI (lab S c)
/-- how p has become q: labels fall, what is least stays -/
def fall (S : Nat → Prop) (p q : Nat → Int32) : Prop := labOK S q ∧ ∀ c, c < 144 → (S c → q c ≤ p c)
theorem fall_at {S : Nat → Prop} {p q : Nat → Int32} (h : fall S p q) {c : Nat} (hc : c < 144) (ha : atL S p c) : atL S q c := by
  intro hs
  obtain ⟨l, h1, h2, h3⟩ := (h.1 c hc).2 hs
  have h4 := h.2 c hc hs
  have hl := lab_le S c
  rw [ha hs, h2] at h4
  rw [h2]
  have h5 := lab_min h3
  have h6 := le_of_le h4 (by omega)
  congr 1
  omega
theorem fall_tr {S : Nat → Prop} {p q r : Nat → Int32} (h1 : fall S p q) (h2 : fall S q r) : fall S p r := ⟨h2.1, fun c hc hs => Int32.le_trans (h2.2 c hc hs) (h1.2 c hc hs)⟩
theorem psD_step {S : Nat → Prop} {p : Nat → Int32} (h : labOK S p) {c d : Nat} (hc : c < 144) (hd : d < 144) (hp : psD p c d) : S c ∧ S d ∧ fall S p (upd p c (p d)) := by
  obtain ⟨h1, h2, h3, h4⟩ := hp
  have hsc : S c := Classical.byContradiction fun q => by rw [(h c hc).1 q] at h1; exact absurd h1 (by decide)
  have hsd : S d := Classical.byContradiction fun q => by rw [(h d hd).1 q] at h2; exact absurd h2 (by decide)
  refine ⟨hsc, hsd, ⟨fun x hx => ?_, fun x hx hs => ?_⟩⟩
  · by_cases hxc : x = c
    · subst hxc
      rw [upd_eq]
      refine ⟨fun q => absurd hsc q, fun _ => ?_⟩
      obtain ⟨l, g1, g2, g3⟩ := (h d hd).2 hsd
      obtain ⟨l2, k1, k2, -⟩ := (h x hx).2 hsc
      rw [g2, k2] at h4
      have h5 := (nI_ltI (by omega) (by omega)).mp h4
      exact ⟨l, by omega, g2, conn_tr (conn_st conn_rf hsc hsd h3) g3⟩
    · rw [upd_ne _ _ hxc]; exact h x hx
  · by_cases hxc : x = c
    · subst hxc; rw [upd_eq]; exact Int32.le_of_lt h4
    · rw [upd_ne _ _ hxc]; exact Int32.le_refl _
theorem fall_rf {S : Nat → Prop} {p : Nat → Int32} (h : labOK S p) : fall S p p := ⟨h, fun _ _ _ => Int32.le_refl _⟩
/-- the inner loop: labels fall; if nothing changed, nothing could -/
theorem psI_ok {S : Nat → Prop} {c : Nat} (hc : c < 144) {st : (Nat → Int32) × Bool} (h : labOK S st.1) : ∀ n, n ≤ 144 → fall S st.1 (psI c st n).1 ∧ (st.2 = true → (psI c st n).2 = true) ∧ ((psI c st n).2 = false → (psI c st n).1 = st.1 ∧ ∀ d, d < n → ¬ psD st.1 c d) ∧ ((psI c st n).2 = true → st.2 = true ∨ ∃ d, d < n ∧ psD st.1 c d)
  | 0, _ => ⟨fall_rf h, fun q => q, fun _ => ⟨rfl, fun d hd => absurd hd (by omega)⟩, fun q => Or.inl q⟩
  | n + 1, hn => by
    obtain ⟨i1, i2, i3, i4⟩ := psI_ok hc h n (by omega)
    have e : psI c st (n + 1) = ifp (psD (psI c st n).1 c n) (upd (psI c st n).1 c ((psI c st n).1 n), true) (psI c st n) := rfl
    rw [e]
    by_cases q : psD (psI c st n).1 c n
    · rw [ifp_t q]
      obtain ⟨s1, s2, s3⟩ := psD_step i1.1 hc (by omega) q
      refine ⟨fall_tr i1 s3, fun _ => rfl, fun z => (by cases z), fun _ => ?_⟩
      cases hb : (psI c st n).2 with
      | true =>
        rcases i4 hb with z | ⟨d, z1, z2⟩
        · exact Or.inl z
        · exact Or.inr ⟨d, by omega, z2⟩
      | false =>
        rw [(i3 hb).1] at q
        exact Or.inr ⟨n, by omega, q⟩
    · rw [ifp_f q]
      refine ⟨i1, i2, fun z => ?_, fun z => ?_⟩
      · obtain ⟨z1, z2⟩ := i3 z
        refine ⟨z1, fun d hd => ?_⟩
        by_cases hdn : d = n
        · subst hdn; rw [z1] at q; exact q
        · exact z2 d (by omega)
      · rcases i4 z with z | ⟨d, z1, z2⟩
        · exact Or.inl z
        · exact Or.inr ⟨d, by omega, z2⟩
/-- a cell beside one whose label is least gets it -/
theorem psI_hit {S : Nat → Prop} {c a : Nat} (hc : c < 144) (ha : a < 144) {st : (Nat → Int32) × Bool} (h : labOK S st.1) (hsc : S c) (hsa : S a) (hca : awF c a = 1) (hat : atL S st.1 a) : atL S (psI c st 144).1 c := by
  have step := psI_ok hc h
  -- behind place a the label is not above a's
  have key : ∀ n, a < n → n ≤ 144 → atL S (psI c st n).1 c := by
    intro n
    induction n with
    | zero => intro h1; omega
    | succ n ih =>
      intro h1 h2
      obtain ⟨i1, -⟩ := step n (by omega)
      have e : psI c st (n + 1) = ifp (psD (psI c st n).1 c n) (upd (psI c st n).1 c ((psI c st n).1 n), true) (psI c st n) := rfl
      by_cases hn : a = n
      · subst hn
        have hat2 := fall_at i1 ha hat hsa
        obtain ⟨l, g1, g2, g3⟩ := (i1.1 c hc).2 hsc
        have hll : lab S c = lab S a := lab_eq (conn_st conn_rf hsc hsa hca)
        have hla := lab_le S a
        intro _
        rw [e]
        by_cases q : psD (psI c st a).1 c a
        · rw [ifp_t q]
          show upd (psI c st a).1 c ((psI c st a).1 a) c = nI (lab S c)
          rw [upd_eq, hat2, hll]
        · rw [ifp_f q, g2]
          have h5 := lab_min g3
          have : ¬ nI (lab S a) < nI l := by
            intro z
            refine q ⟨by rw [g2]; exact nI_pos' (by omega), by rw [hat2]; exact nI_pos' (by omega), hca, ?_⟩
            rw [hat2, g2]; exact z
          have h6 : l ≤ lab S a := by
            rcases Nat.lt_or_ge (lab S a) l with z | z
            · exact absurd (nI_lt z (by omega)) this
            · exact z
          congr 1
          omega
      · have h3 := ih (by omega) (by omega)
        obtain ⟨j1, -⟩ := step (n + 1) h2
        by_cases q : psD (psI c st n).1 c n
        · obtain ⟨-, -, s3⟩ := psD_step i1.1 hc (by omega) q
          rw [e, ifp_t q]
          exact fall_at s3 hc h3
        · rw [e, ifp_f q]; exact h3
  exact key 144 ha (Nat.le_refl _)
/-- a whole round -/
theorem psO_ok {S : Nat → Prop} {st : (Nat → Int32) × Bool} (h : labOK S st.1) (hb : st.2 = false) : ∀ n, n ≤ 144 → fall S st.1 (psO st n).1 ∧ ((psO st n).2 = false → (psO st n).1 = st.1 ∧ ∀ c, c < n → ∀ d, d < 144 → ¬ psD st.1 c d) ∧ ((psO st n).2 = true → ∃ c d p, c < 144 ∧ d < 144 ∧ fall S st.1 p ∧ psD p c d)
  | 0, _ => ⟨fall_rf h, fun _ => ⟨rfl, fun c hc => absurd hc (by omega)⟩, fun q => by rw [show (psO st 0).2 = st.2 from rfl, hb] at q; cases q⟩
  | n + 1, hn => by
    obtain ⟨i1, i2, i3⟩ := psO_ok h hb n (by omega)
    obtain ⟨j1, j2, j3, j4⟩ := psI_ok (c := n) (by omega) i1.1 144 (Nat.le_refl _)
    have e : psO st (n + 1) = psI n (psO st n) 144 := rfl
    rw [e]
    refine ⟨fall_tr i1 j1, fun q => ?_, fun q => ?_⟩
    · obtain ⟨q1, q2⟩ := j3 q
      have hf : (psO st n).2 = false := by
        cases hq : (psO st n).2 with
        | false => rfl
        | true => rw [j2 hq] at q; cases q
      obtain ⟨q3, q4⟩ := i2 hf
      refine ⟨q1.trans q3, fun c hc => ?_⟩
      by_cases hcn : c = n
      · subst hcn; rw [q3] at q2; exact q2
      · exact q4 c (by omega)
    · rcases j4 q with q | ⟨d, q1, q2⟩
      · exact i3 q
      · exact ⟨n, d, (psO st n).1, by omega, q1, i1, q2⟩
/-- all labels are the least -/
def allL (S : Nat → Prop) (p : Nat → Int32) : Prop := ∀ c, c < 144 → atL S p c
/-- a round that changes nothing shows that all labels are the least -/
theorem psO_done {S : Nat → Prop} (hS : ∀ c, S c → c < 144) {p : Nat → Int32} (h : labOK S p) (hq : ∀ c, c < 144 → ∀ d, d < 144 → ¬ psD p c d) : allL S p := by
  have hpos : ∀ c, S c → 0 ≤ p c := fun c hs => by
    obtain ⟨l, h1, h2, -⟩ := (h c (hS c hs)).2 hs
    have := hS c hs
    rw [h2]; exact nI_pos' (by omega)
  have heq : ∀ a b, S a → S b → awF a b = 1 → p a = p b := by
    intro a b sa sb hab
    have h1 := hq a (hS a sa) b (hS b sb)
    have h2 := hq b (hS b sb) a (hS a sa)
    have h3 : ¬ p b < p a := fun z => h1 ⟨hpos a sa, hpos b sb, hab, z⟩
    have h4 : ¬ p a < p b := fun z => h2 ⟨hpos b sb, hpos a sa, by rw [awF_comm]; exact hab, z⟩
    exact Int32.le_antisymm (Int32.not_lt.mp h3) (Int32.not_lt.mp h4)
  intro c hc hs
  have h5 : p c = p (lab S c) := lab_conn S c (fun x => p c = p x) rfl (fun a b ha sa sb hab => ha.trans (heq a b sa sb hab))
  have hsl := lab_in hs
  obtain ⟨l, h1, h2, h3⟩ := (h _ (hS _ hsl)).2 hsl
  have h6 : lab S c ≤ l := by rw [← lab_lab]; exact lab_min h3
  rw [h5, h2]
  congr 1
  omega
theorem psO_keep {S : Nat → Prop} (hS : ∀ c, S c → c < 144) {p : Nat → Int32} (h : labOK S p) (ha : allL S p) {c d : Nat} (hc : c < 144) (hd : d < 144) : ¬ psD p c d := by
  intro q
  obtain ⟨s1, s2, -⟩ := psD_step h hc hd q
  have h1 := ha c hc s1
  have h2 := ha d hd s2
  have h3 : lab S c = lab S d := lab_eq (conn_st conn_rf s1 s2 q.2.2.1)
  obtain ⟨-, -, -, h4⟩ := q
  rw [h1, h2, h3] at h4
  exact Int32.lt_irrefl h4
/-- how many labels are the least -/
noncomputable def cnL (S : Nat → Prop) (p : Nat → Int32) (n : Nat) : Nat := fo (fun c a => ifp (atL S p c) (a + 1) a) 0 n
theorem cnL_le (S : Nat → Prop) (p : Nat → Int32) : ∀ n, cnL S p n ≤ n
  | 0 => Nat.le_refl _
  | n + 1 => by
    have ih := cnL_le S p n
    show ifp (atL S p n) (cnL S p n + 1) (cnL S p n) ≤ n + 1
    by_cases q : atL S p n
    · rw [ifp_t q]; omega
    · rw [ifp_f q]; omega
theorem cnL_all (S : Nat → Prop) (p : Nat → Int32) : ∀ n, n ≤ cnL S p n → ∀ c, c < n → atL S p c
  | 0, _, c, hc => absurd hc (by omega)
  | n + 1, h, c, hc => by
    have ih := cnL_le S p n
    replace h : n + 1 ≤ ifp (atL S p n) (cnL S p n + 1) (cnL S p n) := h
    by_cases q : atL S p n
    · rw [ifp_t q] at h
      by_cases hcn : c = n
      · subst hcn; exact q
      · exact cnL_all S p n (by omega) c (by omega)
    · rw [ifp_f q] at h; omega
theorem cnL_mono {S : Nat → Prop} {p q : Nat → Int32} : ∀ n, (∀ c, c < n → atL S p c → atL S q c) → cnL S p n ≤ cnL S q n
  | 0, _ => Nat.le_refl _
  | n + 1, h => by
    have ih := cnL_mono (S := S) (p := p) (q := q) n (fun c hc => h c (by omega))
    show ifp (atL S p n) (cnL S p n + 1) (cnL S p n) ≤ ifp (atL S q n) (cnL S q n + 1) (cnL S q n)
    by_cases z : atL S p n
    · rw [ifp_t z, ifp_t (h n (by omega) z)]; omega
    · rw [ifp_f z]
      by_cases z2 : atL S q n
      · rw [ifp_t z2]; omega
      · rw [ifp_f z2]; exact ih
theorem cnL_more {S : Nat → Prop} {p q : Nat → Int32} {b : Nat} (h1 : ¬ atL S p b) (h2 : atL S q b) : ∀ n, b < n → (∀ c, c < n → atL S p c → atL S q c) → cnL S p n < cnL S q n
  | 0, hb, _ => absurd hb (by omega)
  | n + 1, hb, h => by
    show ifp (atL S p n) (cnL S p n + 1) (cnL S p n) < ifp (atL S q n) (cnL S q n + 1) (cnL S q n)
    by_cases hbn : b = n
    · subst hbn
      rw [ifp_f h1, ifp_t h2]
      have := cnL_mono (S := S) (p := p) (q := q) b (fun c hc => h c (by omega))
      omega
    · have ih := cnL_more h1 h2 n (by omega) (fun c hc => h c (by omega))
      by_cases z : atL S p n
      · rw [ifp_t z, ifp_t (h n (by omega) z)]; omega
      · rw [ifp_f z]
        by_cases z2 : atL S q n
        · rw [ifp_t z2]; omega
        · rw [ifp_f z2]; exact ih
/-- a round adds a label that is the least, if one is wanting -/
theorem psO_more {S : Nat → Prop} (hS : ∀ c, S c → c < 144) {st : (Nat → Int32) × Bool} (h : labOK S st.1) (hb : st.2 = false) (hn : ¬ allL S st.1) : cnL S st.1 144 < cnL S (psO st 144).1 144 := by
  -- a cell whose label is wanting beside one whose label is there
  have key : ∃ a b, a < 144 ∧ b < 144 ∧ S a ∧ S b ∧ awF b a = 1 ∧ atL S st.1 a ∧ ¬ atL S st.1 b := by
    apply Classical.byContradiction
    intro hno
    apply hn
    intro c hc hs
    have hl : atL S st.1 (lab S c) := by
      intro hsl
      obtain ⟨l, h1, h2, h3⟩ := (h _ (hS _ hsl)).2 hsl
      rw [h2]
      have h9 := lab_min h3
      rw [lab_lab] at h9
      rw [lab_lab]
      congr 1
      omega
    have : atL S st.1 c ∧ conn S (lab S c) c := by
      have hcc := conn_sy (lab_conn S c)
      refine hcc (fun x => atL S st.1 x ∧ conn S (lab S c) x) ⟨hl, conn_rf⟩ ?_
      rintro a b ⟨ha, hca⟩ sa sb hab
      refine ⟨?_, conn_st hca sa sb hab⟩
      apply Classical.byContradiction
      intro hnb
      exact hno ⟨a, b, hS a sa, hS b sb, sa, sb, by rw [awF_comm]; exact hab, ha, hnb⟩
    exact this.1 hs
  obtain ⟨a, b, ha, hbb, sa, sb, hab, hat, hnt⟩ := key
  have fin := (psO_ok h hb 144 (Nat.le_refl _)).1
  have pre := (psO_ok h hb b (by omega)).1
  have hit := psI_hit hbb ha pre.1 sb sa hab (fall_at pre ha hat)
  -- what comes behind b keeps it
  have rest : ∀ n, b < n → n ≤ 144 → atL S (psO st n).1 b := by
    intro n
    induction n with
    | zero => intro h1; omega
    | succ n ih =>
      intro h1 h2
      have e : psO st (n + 1) = psI n (psO st n) 144 := rfl
      rw [e]
      by_cases hbn : b = n
      · subst hbn; exact hit
      · have j1 := (psI_ok (S := S) (c := n) (by omega) (psO_ok h hb n (by omega)).1.1 144 (Nat.le_refl _)).1
        exact fall_at j1 hbb (ih (by omega) (by omega))
  exact cnL_more hnt (rest 144 hbb (Nat.le_refl _)) 144 hbb (fun c hc z => fall_at fin hc z)
end
section
/-! THE REFERENCE: parts -/
theorem fa_upd2 (f : Nat → Int32) (k : Nat) (x y : Int32) : upd (upd f k x) k y = upd f k y := by
  funext j
  by_cases h : j = k
  · subst h; rw [upd_eq, upd_eq]
  · rw [upd_ne _ _ h, upd_ne _ _ h, upd_ne _ _ h]
def bI (b : Bool) : Int32 := if b then 1 else 0
/-- cells of kind 2 -/
def newP (kd : Nat → Int32) (c : Nat) : Prop := c < 144 ∧ kd c = 2
theorem psI_stop {c : Nat} {st : (Nat → Int32) × Bool} {d : Nat} (h : (psI c st d).1 c < 0) : ∀ k, psI c st (d + k) = psI c st d
  | 0 => rfl
  | k + 1 => by
    show ifp (psD (psI c st (d + k)).1 c (d + k)) _ (psI c st (d + k)) = psI c st d
    rw [psI_stop h k]
    exact ifp_f (fun q => not_le_of h q.1)
def lb0 (kd : Nat → Int32) (c : Nat) : Int32 := if kd c = 2 then nI c else -1
def ptN (p : Nat → Int32) (n : Nat) : Int32 := fo (fun c acc => acc + (if p c = nI c then 1 else 0)) 0 n
noncomputable def shI (p kd : Nat → Int32) (c : Nat) (f : Nat → Int32) (n : Nat) : Nat → Int32 := fo (fun d f => ifp (0 ≤ p c ∧ kd d = 0 ∧ awF c d = 1) (upd f (p c).toNatClampNeg 1) f) f n
noncomputable def shO (p kd f : Nat → Int32) (n : Nat) : Nat → Int32 := fo (fun c f => shI p kd c f 144) f n
theorem shI_stop {p kd f : Nat → Int32} {c : Nat} (h : p c < 0) : ∀ k, shI p kd c f k = f
  | 0 => rfl
  | k + 1 => by
    show ifp (0 ≤ p c ∧ kd k = 0 ∧ awF c k = 1) _ (shI p kd c f k) = f
    rw [shI_stop h k]
    exact ifp_f (fun q => not_le_of h q.1)
/-- beside a cell of kind 0 -/
def bes (kd : Nat → Int32) (c n : Nat) : Prop := ∃ d, d < n ∧ kd d = 0 ∧ awF c d = 1
theorem shI_at {p kd f : Nat → Int32} {c : Nat} (l : Nat) : ∀ n, shI p kd c f n l = ifp (0 ≤ p c ∧ (p c).toNatClampNeg = l ∧ bes kd c n) 1 (f l)
  | 0 => (ifp_f (fun ⟨_, _, d, h, _⟩ => absurd h (by omega))).symm
  | n + 1 => by
    have ih := shI_at (p := p) (kd := kd) (f := f) (c := c) l n
    show ifp (0 ≤ p c ∧ kd n = 0 ∧ awF c n = 1) (upd (shI p kd c f n) (p c).toNatClampNeg 1) (shI p kd c f n) l = _
    by_cases q : 0 ≤ p c ∧ kd n = 0 ∧ awF c n = 1
    · rw [ifp_t q]
      by_cases hl : l = (p c).toNatClampNeg
      · rw [hl, upd_eq, ifp_t ⟨q.1, rfl, n, by omega, q.2⟩]
      · rw [upd_ne _ _ hl, ih, ifp_f (fun z => hl z.2.1.symm), ifp_f (fun z => hl z.2.1.symm)]
    · rw [ifp_f q, ih]
      refine ifp_c ⟨fun ⟨z1, z2, d, z3, z4⟩ => ⟨z1, z2, d, by omega, z4⟩, fun ⟨z1, z2, d, z3, z4⟩ => ⟨z1, z2, d, ?_, z4⟩⟩
      rcases Nat.lt_or_ge d n with w | w
      · exact w
      · have : d = n := by omega
        subst this
        exact absurd ⟨z1, z4⟩ q
theorem shO_at {p kd f : Nat → Int32} (l : Nat) : ∀ n, shO p kd f n l = ifp (∃ c, c < n ∧ 0 ≤ p c ∧ (p c).toNatClampNeg = l ∧ bes kd c 144) 1 (f l)
  | 0 => (ifp_f (fun ⟨c, h, _⟩ => absurd h (by omega))).symm
  | n + 1 => by
    have ih := shO_at (p := p) (kd := kd) (f := f) l n
    show shI p kd n (shO p kd f n) 144 l = _
    rw [shI_at, ih]
    by_cases q : 0 ≤ p n ∧ (p n).toNatClampNeg = l ∧ bes kd n 144
    · rw [ifp_t q, ifp_t ⟨n, by omega, q⟩]
    · rw [ifp_f q]
      refine ifp_c ⟨fun ⟨c, z1, z2⟩ => ⟨c, by omega, z2⟩, fun ⟨c, z1, z2⟩ => ⟨c, ?_, z2⟩⟩
      rcases Nat.lt_or_ge c n with w | w
      · exact w
      · have : c = n := by omega
        subst this
        exact absurd z2 q
theorem newP_lt {kd : Nat → Int32} : ∀ c, newP kd c → c < 144 := fun _ h => h.1
theorem lb0_ok (f kd : Nat → Int32) : labOK (newP kd) (cpy f (lb0 kd) 144) := by
  intro c hc
  rw [cpy_in hc]
  unfold lb0
  refine ⟨fun h => if_neg (fun q => h ⟨hc, q⟩), fun h => ⟨c, Nat.le_refl _, if_pos h.2, conn_rf⟩⟩
set_option maxHeartbeats 1000000 in
theorem ev_findsParts (σ : mS) : Ev kX8_findsParts [mM] σ (fun r s => r = none ∧ ∃ p, labOK (newP (σ 70 0)) p ∧ allL (newP (σ 70 0)) p ∧ s = mput (mput (mput σ 71 0 p) 40 0 (upd (σ 40 0) 23 (ptN p 144))) 72 0 (shO p (σ 70 0) (fil (σ 72 0) 0 144) 144)) := by
  refine Ev.intro fun G hG => hG.run ?_
  -- the shores
  have ph4 : ∀ p, labOK (newP (σ 70 0)) p → allL (newP (σ 70 0)) p → ∀ n c, c + n = 144 → ∀ z2 z3 z4 : Option mV, G 205 [some mM, some (mI (nI c)), z2, z3, z4] [] (mput (mput (mput σ 71 0 p) 40 0 (upd (σ 40 0) 23 (ptN p 144))) 72 0 (shO p (σ 70 0) (fil (σ 72 0) 0 144) c)) := by
    intro p hp1 hp2 n
    induction n with
    | zero =>
      intro c hc z2 z3 z4
      have : c = 144 := by omega
      subst this
      exact hG.run (br_t (Int32.le_refl _) ⟨rfl, p, hp1, hp2, rfl⟩)
    | succ n ih =>
      intro c hc z2 z3 z4
      have hvc : vp_in (nI c) 144 := vp_in_nI (by omega) (by omega)
      have cc : (nI c).toNatClampNeg = c := nI_cl (by omega)
      have inner : ∀ m d, d + m = 144 → G 214 [some mM, some (mI (nI c)), some (mI (nI d)), z3, z4] [] (mput (mput (mput σ 71 0 p) 40 0 (upd (σ 40 0) 23 (ptN p 144))) 72 0 (shI p (σ 70 0) c (shO p (σ 70 0) (fil (σ 72 0) 0 144) c) d)) := by
        intro m
        induction m with
        | zero =>
          intro d hd
          have : d = 144 := by omega
          subst this
          have h5 := ih (c + 1) (by omega) (some (mI (nI 144))) z3 z4
          rw [← nI_1] at h5
          exact hG.run (br_t (Int32.le_refl _) h5)
        | succ m ihm =>
          intro d hd
          have hvd : vp_in (nI d) 144 := vp_in_nI (by omega) (by omega)
          have cd : (nI d).toNatClampNeg = d := nI_cl (by omega)
          have e : shI p (σ 70 0) c (shO p (σ 70 0) (fil (σ 72 0) 0 144) c) (d + 1) = ifp (0 ≤ p c ∧ σ 70 0 d = 0 ∧ awF c d = 1) (upd (shI p (σ 70 0) c (shO p (σ 70 0) (fil (σ 72 0) 0 144) c) d) (p c).toNatClampNeg 1) (shI p (σ 70 0) c (shO p (σ 70 0) (fil (σ 72 0) 0 144) c) d) := rfl
          have no : ¬ (0 ≤ p c ∧ σ 70 0 d = 0 ∧ awF c d = 1) → G 214 [some mM, some (mI (nI c)), some (mI (nI d + 1)), z3, z4] [] (mput (mput (mput σ 71 0 p) 40 0 (upd (σ 40 0) 23 (ptN p 144))) 72 0 (shI p (σ 70 0) c (shO p (σ 70 0) (fil (σ 72 0) 0 144) c) d)) := by
            intro q
            rw [ifp_f q] at e
            have h5 := ihm (d + 1) (by omega)
            rw [e, ← nI_1] at h5
            exact h5
          refine hG.run (br_f (nI_ge (b := 144) (by omega) (by decide)) ?_)
          refine And.intro hvc (And.intro (fun c1 => ?_) (fun c1 => And.intro hvd (And.intro (fun c2 => ?_) (fun c2 => ?_))))
          · replace c1 : p (nI c).toNatClampNeg < 0 := c1
            rw [cc] at c1
            have h5 := ih (c + 1) (by omega) (some (mI (nI d))) z3 z4
            have e2 : shO p (σ 70 0) (fil (σ 72 0) 0 144) (c + 1) = shI p (σ 70 0) c (shO p (σ 70 0) (fil (σ 72 0) 0 144) c) 144 := rfl
            rw [e2, shI_stop c1 144, ← nI_1] at h5
            rw [shI_stop c1 d]
            exact h5
          · replace c2 : ¬ σ 70 0 (nI d).toNatClampNeg = 0 := c2
            rw [cd] at c2
            exact no (fun q => c2 q.2.1)
          · replace c1 : ¬ p (nI c).toNatClampNeg < 0 := c1
            replace c2 : σ 70 0 (nI d).toNatClampNeg = 0 := c2
            rw [cc] at c1
            rw [cd] at c2
            refine call_of (ev_away _ (c := c) (d := d) (by omega) (by omega)) ?_
            have h1 := awF_le (c := c) (d := d) (by omega) (by omega)
            refine And.intro (fun c3 => no (fun q => c3 (by rw [q.2.2]; rfl))) (fun c3 => ?_)
            have c3 := (nI_eq (b := 1) (by omega) (by omega)).mp c3
            have c1 := Int32.not_lt.mp c1
            refine And.intro hvc ?_
            have hs : newP (σ 70 0) c := Classical.byContradiction fun q => by rw [(hp1 c (by omega)).1 q] at c1; exact absurd c1 (by decide)
            obtain ⟨l, l1, l2, -⟩ := (hp1 c (by omega)).2 hs
            refine And.intro ?_ ?_
            · show vp_in (p (nI c).toNatClampNeg) 144
              rw [cc, l2]; exact vp_in_nI (by omega) (by omega)
            · show G 214 [some mM, some (mI (nI c)), some (mI (nI d + 1)), z3, z4] [] (mput (mput (mput (mput σ 71 0 p) 40 0 (upd (σ 40 0) 23 (ptN p 144))) 72 0 (shI p (σ 70 0) c (shO p (σ 70 0) (fil (σ 72 0) 0 144) c) d)) 72 0 (upd (shI p (σ 70 0) c (shO p (σ 70 0) (fil (σ 72 0) 0 144) c) d) (p (nI c).toNatClampNeg).toNatClampNeg 1))
              rw [ifp_t ⟨c1, c2, c3⟩] at e
              rw [cc, mput_mput, ← e, nI_1]
              exact ihm (d + 1) (by omega)
      exact hG.run (br_f (nI_ge (b := 144) (by omega) (by decide)) (inner 144 0 (by omega)))
  -- how many parts
  have ph3 : ∀ p, labOK (newP (σ 70 0)) p → allL (newP (σ 70 0)) p → ∀ z2 z3 z4 : Option mV, G 159 [some mM, some (mI 0), z2, z3, z4] [] (mput (mput σ 71 0 p) 40 0 (upd (σ 40 0) 23 0)) := by
    intro p hp1 hp2 z2 z3 z4
    have key := loop_up (G := G) 159 144 (fun i => [some mM, some (mI (nI i)), z2, z3, z4]) (fun i => mput (mput (mput σ 71 0 p) 40 0 (upd (σ 40 0) 23 (ptN p i))) 72 0 (fil (σ 72 0) 0 i)) ?_ ?_ 0 (by omega)
    · rw [fil_0] at key
      rw [show σ 72 0 = mput (mput σ 71 0 p) 40 0 (upd (σ 40 0) 23 (ptN p 0)) 72 0 from rfl, mput_self] at key
      exact key
    · intro i hi ih
      have hvc : vp_in (nI i) 144 := vp_in_nI (by omega) (by omega)
      have cc : (nI i).toNatClampNeg = i := nI_cl (by omega)
      have e : ptN p (i + 1) = ptN p i + (if p i = nI i then 1 else 0) := rfl
      rw [e, ← nI_1] at ih
      have fin : ∀ v, v = (if p i = nI i then (1 : Int32) else 0) → vp_in (nI i) 144 ∧ G 159 [some mM, some (mI (nI i + 1)), z2, z3, z4] [] (mput (mput (mput (mput (mput σ 71 0 p) 40 0 (upd (σ 40 0) 23 (ptN p i))) 72 0 (fil (σ 72 0) 0 i)) 40 0 (upd (upd (σ 40 0) 23 (ptN p i)) 23 (upd (σ 40 0) 23 (ptN p i) 23 + v))) 72 0 (upd (fil (σ 72 0) 0 i) (nI i).toNatClampNeg 0)) := by
        intro v hv
        refine ⟨hvc, ?_⟩
        rw [cc, mput_cover _ _ _ _ _ _ _ _ (by decide), mput_mput, fil_s, upd_eq, fa_upd2, hv]
        exact ih
      refine hG.run (br_f (nI_ge (b := 144) hi (by decide)) ?_)
      refine And.intro hvc (And.intro (fun c1 => ?_) (fun c1 => ?_))
      · replace c1 : ¬ p (nI i).toNatClampNeg = nI i := c1
        rw [cc] at c1
        exact fin 0 (if_neg c1).symm
      · replace c1 : p (nI i).toNatClampNeg = nI i := c1
        rw [cc] at c1
        exact fin 1 (if_pos c1).symm
    · exact hG.run (br_t (Int32.le_refl _) (ph4 p hp1 hp2 144 0 (by omega) z2 z3 z4))
  -- the rounds
  have ph2 : ∀ n r, r + n = 144 → ∀ p, labOK (newP (σ 70 0)) p → (allL (newP (σ 70 0)) p ∨ r ≤ cnL (newP (σ 70 0)) p 144) → ∀ z2 z3 z4 : Option mV, G 38 [some mM, some (mI (nI r)), z2, z3, z4] [] (mput σ 71 0 p) := by
    intro n
    induction n with
    | zero =>
      intro r hr p hp hq z2 z3 z4
      have : r = 144 := by omega
      subst this
      have hall : allL (newP (σ 70 0)) p := by
        rcases hq with q | q
        · exact q
        · exact cnL_all _ _ 144 q
      exact hG.run (br_t (Int32.le_refl _) (ph3 p hp hall z2 z3 z4))
    | succ n ih =>
      intro r hr p hp hq z2 z3 z4
      have ok := fun k hk => psO_ok (st := (p, false)) hp rfl k hk
      have outer : ∀ m c, c + m = 144 → ∀ z4 : Option mV, G 49 [some mM, some (mI (nI r)), some (mI (bI (psO (p, false) c).2)), some (mI (nI c)), z4] [] (mput σ 71 0 (psO (p, false) c).1) := by
        intro m
        induction m with
        | zero =>
          intro c hc z4
          have : c = 144 := by omega
          subst this
          obtain ⟨o1, o2, o3⟩ := ok 144 (Nat.le_refl _)
          refine hG.run (br_t (Int32.le_refl _) ?_)
          cases hb : (psO (p, false) 144).2 with
          | false =>
            refine And.intro (fun c0 => absurd rfl c0) (fun _ => ?_)
            obtain ⟨q1, q2⟩ := o2 hb
            refine ph3 _ o1.1 ?_ (some (mI 0)) (some (mI (nI 144))) z4
            rw [q1]
            exact psO_done newP_lt hp q2
          | true =>
            refine And.intro (fun _ => ?_) (fun c0 => absurd c0 (by decide))
            have h5 := ih (r + 1) (by omega) (psO (p, false) 144).1 o1.1 ?_ (some (mI 1)) (some (mI (nI 144))) z4
            · rw [← nI_1] at h5
              exact h5
            · by_cases hall : allL (newP (σ 70 0)) p
              · exact Or.inl (fun c hc => fall_at o1 hc (hall c hc))
              · have := psO_more newP_lt (st := (p, false)) hp rfl hall
                rcases hq with q | q
                · exact absurd q hall
                · exact Or.inr (by show r + 1 ≤ _; have this : cnL (newP (σ 70 0)) p 144 < cnL (newP (σ 70 0)) (psO (p, false) 144).1 144 := this; omega)
        | succ m ihm =>
          intro c hc z4
          have hvc : vp_in (nI c) 144 := vp_in_nI (by omega) (by omega)
          have cc : (nI c).toNatClampNeg = c := nI_cl (by omega)
          generalize hst : psO (p, false) c = st
          have e2 : psO (p, false) (c + 1) = psI c st 144 := by rw [← hst]; rfl
          have next := ihm (c + 1) (by omega)
          rw [e2, ← nI_1] at next
          have inner : ∀ k d, d + k = 144 → G 59 [some mM, some (mI (nI r)), some (mI (bI (psI c st d).2)), some (mI (nI c)), some (mI (nI d))] [] (mput σ 71 0 (psI c st d).1) := by
            intro k
            induction k with
            | zero =>
              intro d hd
              have : d = 144 := by omega
              subst this
              exact hG.run (br_t (Int32.le_refl _) (next _))
            | succ k ihk =>
              intro d hd
              have hvd : vp_in (nI d) 144 := vp_in_nI (by omega) (by omega)
              have cd : (nI d).toNatClampNeg = d := nI_cl (by omega)
              have e : psI c st (d + 1) = ifp (psD (psI c st d).1 c d) (upd (psI c st d).1 c ((psI c st d).1 d), true) (psI c st d) := rfl
              have stop := fun h => psI_stop (c := c) (st := st) (d := d) h (144 - d)
              rw [show d + (144 - d) = 144 by omega] at stop
              have go := ihk (d + 1) (by omega)
              rw [e, ← nI_1] at go
              generalize psI c st d = sd at e stop go
              have no : ¬ psD sd.1 c d → G 59 [some mM, some (mI (nI r)), some (mI (bI sd.2)), some (mI (nI c)), some (mI (nI d + 1))] [] (mput σ 71 0 sd.1) := fun q => by rw [ifp_f q] at go; exact go
              refine hG.run (br_f (nI_ge (b := 144) (by omega) (by decide)) ?_)
              refine And.intro hvc (And.intro (fun c1 => ?_) (fun c1 => And.intro hvd (And.intro (fun c2 => ?_) (fun c2 => ?_))))
              · replace c1 : sd.1 (nI c).toNatClampNeg < 0 := c1
                rw [cc] at c1
                have h5 := next (some (mI (nI d)))
                rw [stop c1] at h5
                exact h5
              · replace c2 : sd.1 (nI d).toNatClampNeg < 0 := c2
                rw [cd] at c2
                exact no (fun q => not_le_of c2 q.2.1)
              · replace c1 : ¬ sd.1 (nI c).toNatClampNeg < 0 := c1
                replace c2 : ¬ sd.1 (nI d).toNatClampNeg < 0 := c2
                rw [cc] at c1
                rw [cd] at c2
                refine call_of (ev_away _ (c := c) (d := d) (by omega) (by omega)) ?_
                have h1 := awF_le (c := c) (d := d) (by omega) (by omega)
                refine And.intro (fun c3 => no (fun q => c3 (by rw [q.2.2.1]; rfl))) (fun c3 => ?_)
                have c3 := (nI_eq (b := 1) (by omega) (by omega)).mp c3
                refine And.intro hvd (And.intro hvc (And.intro (fun c4 => ?_) (fun c4 => And.intro hvd (And.intro hvc ?_))))
                · replace c4 : sd.1 (nI c).toNatClampNeg ≤ sd.1 (nI d).toNatClampNeg := c4
                  rw [cc, cd] at c4
                  exact no (fun q => not_le_of q.2.2.2 c4)
                · replace c4 : ¬ sd.1 (nI c).toNatClampNeg ≤ sd.1 (nI d).toNatClampNeg := c4
                  rw [cc, cd] at c4
                  show G 59 [some mM, some (mI (nI r)), some (mI 1), some (mI (nI c)), some (mI (nI d + 1))] [] (mput (mput σ 71 0 sd.1) 71 0 (upd sd.1 (nI c).toNatClampNeg (sd.1 (nI d).toNatClampNeg)))
                  rw [ifp_t ⟨Int32.not_lt.mp c1, Int32.not_lt.mp c2, c3, Int32.not_le.mp c4⟩] at go
                  rw [cc, cd, mput_mput]
                  exact go
          have h6 := inner 144 0 (by omega)
          exact hG.run (br_f (nI_ge (b := 144) (by omega) (by decide)) h6)
      exact hG.run (br_f (nI_ge (b := 144) (by omega) (by decide)) (outer 144 0 (by omega) z4))
  -- the labels at first
  have key := loop_up (G := G) 2 144 (fun i => [some mM, some (mI (nI i)), none, none, none]) (fun i => mput σ 71 0 (cpy (σ 71 0) (lb0 (σ 70 0)) i)) ?_ ?_ 0 (by omega)
  · rw [cpy_0, mput_self] at key
    exact key
  · intro i hi ih
    have hvc : vp_in (nI i) 144 := vp_in_nI (by omega) (by omega)
    have cc : (nI i).toNatClampNeg = i := nI_cl (by omega)
    have fin : ∀ v, v = lb0 (σ 70 0) i → vp_in (nI i) 144 ∧ G 2 [some mM, some (mI (nI i + 1)), none, none, none] [] (mput (mput σ 71 0 (cpy (σ 71 0) (lb0 (σ 70 0)) i)) 71 0 (upd (cpy (σ 71 0) (lb0 (σ 70 0)) i) (nI i).toNatClampNeg v)) := by
      intro v hv
      refine ⟨hvc, ?_⟩
      rw [hv, cc, mput_mput, cpy_s, nI_1]
      exact ih
    refine hG.run (br_f (nI_ge (b := 144) hi (by decide)) ?_)
    refine And.intro hvc (And.intro (fun c1 => ?_) (fun c1 => ?_))
    · replace c1 : ¬ σ 70 0 (nI i).toNatClampNeg = 2 := c1
      rw [cc] at c1
      exact fin (-1) (if_neg c1).symm
    · replace c1 : σ 70 0 (nI i).toNatClampNeg = 2 := c1
      rw [cc] at c1
      exact fin (nI i) (if_pos c1).symm
  · exact hG.run (br_t (Int32.le_refl _) (ph2 144 0 (by omega) _ (lb0_ok _ _) (Or.inr (Nat.zero_le _)) none none none))
end
section
/-! THE REFERENCE: a step -/
def oget (o : Nat → Int32) (h : Option Nat) : Int32 := match h with
  | none => -1
  | some e => o e
/-- how far a cell is from a set of cells -/
noncomputable def aptS (P : Nat → Prop) (d n : Nat) : Nat := fo (fun e l => ifp (P e) (min l (awF e d)) l) 24 n
noncomputable def npS (kd : Nat → Int32) (P : Nat → Prop) (n : Nat) : Option Nat × Nat := fo (fun d b => ifp (kd d = 0 ∧ (b.1 = none ∨ aptS P d 144 < b.2)) (some d, aptS P d 144) b) (none, 0) n
/-- the part of a new cell -/
def prtP (kd : Nat → Int32) (c e : Nat) : Prop := newP kd e ∧ lab (newP kd) e = lab (newP kd) c
/-- its part is beside a fast cell -/
def shoreP (kd : Nat → Int32) (c : Nat) : Prop := ∃ e, prtP kd c e ∧ bes kd e 144
noncomputable def heirI (kd : Nat → Int32) (c : Nat) : Option Nat := (npS kd (prtP kd c) 144).1
/-- whose a cell is behind a step by g -/
noncomputable def stpF (kd : Nat → Int32) (isle : Int32) (o : Nat → Int32) (c : Nat) : Int32 :=
  if kd c = 1 then -1 else if kd c = 2 then ifp (shoreP kd c) (oget o (nrF kd c 144)) (if isle = 0 then oget o (heirI kd c) else if isle = 1 then -1 else o c) else o c
theorem prt_lab {kd : Nat → Int32} (c : Nat) : prtP kd (lab (newP kd) c) = prtP kd c := by
  funext e
  unfold prtP
  rw [lab_lab]
theorem shore_lab {kd : Nat → Int32} (c : Nat) : shoreP kd (lab (newP kd) c) ↔ shoreP kd c := by
  unfold shoreP
  rw [prt_lab]
theorem heir_lab {kd : Nat → Int32} (c : Nat) : heirI kd (lab (newP kd) c) = heirI kd c := by
  unfold heirI
  rw [prt_lab]
theorem lab_pos {kd p : Nat → Int32} (h : labOK (newP kd) p) (ha : allL (newP kd) p) {e : Nat} (he : e < 144) (l : Nat) : p e = nI l ∧ l < 144 ↔ newP kd e ∧ lab (newP kd) e = l := by
  constructor
  · rintro ⟨h1, h2⟩
    have hs : newP kd e := Classical.byContradiction fun q => by
      rw [(h e he).1 q] at h1
      have := congrArg Int32.toInt h1
      rw [nI_toInt (by omega), show (-1 : Int32).toInt = -1 from rfl] at this
      omega
    have hl := lab_le (newP kd) e
    rw [ha e he hs] at h1
    exact ⟨hs, (nI_eq (by omega) (by omega)).mp h1⟩
  · rintro ⟨hs, rfl⟩
    have hl := lab_le (newP kd) e
    exact ⟨ha e he hs, by omega⟩
theorem apt_S {kd p : Nat → Int32} (h : labOK (newP kd) p) (ha : allL (newP kd) p) {c : Nat} (hc : c < 144) (d : Nat) : apt p (nI (lab (newP kd) c)) d 144 = aptS (prtP kd c) d 144 := by
  have hl := lab_le (newP kd) c
  refine fo_cong fun e he x => ?_
  by_cases q : p e = nI (lab (newP kd) c)
  · rw [if_pos q, ifp_t (P := prtP kd c e) ((lab_pos h ha he _).mp ⟨q, by omega⟩)]
  · rw [if_neg q, ifp_f (P := prtP kd c e) (fun z => q ((lab_pos h ha he _).mpr z).1)]
theorem np_S {kd p : Nat → Int32} (h : labOK (newP kd) p) (ha : allL (newP kd) p) {c : Nat} (hc : c < 144) : npF kd p (nI (lab (newP kd) c)) 144 = npS kd (prtP kd c) 144 := by
  refine fo_cong fun d hd x => ?_
  rw [apt_S h ha hc d]
theorem shO_S {kd p f : Nat → Int32} (h : labOK (newP kd) p) (ha : allL (newP kd) p) (hf : ∀ l, l < 144 → f l = 0) {c : Nat} (hc : c < 144) : shO p kd f 144 (lab (newP kd) c) = b2i (shoreP kd c) := by
  have hl := lab_le (newP kd) c
  rw [shO_at, hf _ (by omega)]
  unfold b2i ifp
  congr 1
  refine propext ⟨?_, ?_⟩
  · rintro ⟨e, h1, h2, h3, h4⟩
    have hs : newP kd e := Classical.byContradiction fun q => by rw [(h e h1).1 q] at h2; exact absurd h2 (by decide)
    have hle := lab_le (newP kd) e
    rw [ha e h1 hs, nI_cl (by omega)] at h3
    exact ⟨e, ⟨hs, h3⟩, h4⟩
  · rintro ⟨e, ⟨hs, h3⟩, h4⟩
    have hle := lab_le (newP kd) e
    have := hs.1
    refine ⟨e, hs.1, ?_, ?_, h4⟩
    · rw [ha e hs.1 hs]; exact nI_pos' (by omega)
    · rw [ha e hs.1 hs, nI_cl (by omega)]; exact h3
/-- only cells below 144 count -/
theorem newP_cong {k k' : Nat → Int32} (h : ∀ c, c < 144 → k c = k' c) : newP k = newP k' := by
  funext c
  exact propext ⟨fun q => ⟨q.1, by rw [← h c q.1]; exact q.2⟩, fun q => ⟨q.1, by rw [h c q.1]; exact q.2⟩⟩
theorem bes_cong {k k' : Nat → Int32} (h : ∀ c, c < 144 → k c = k' c) (c : Nat) : bes k c 144 ↔ bes k' c 144 :=
  ⟨fun ⟨d, h1, h2, h3⟩ => ⟨d, h1, by rw [← h d h1]; exact h2, h3⟩, fun ⟨d, h1, h2, h3⟩ => ⟨d, h1, by rw [h d h1]; exact h2, h3⟩⟩
theorem shore_cong {k k' : Nat → Int32} (h : ∀ c, c < 144 → k c = k' c) (c : Nat) : shoreP k c ↔ shoreP k' c := by
  unfold shoreP prtP
  rw [newP_cong h]
  exact ⟨fun ⟨e, h1, h2⟩ => ⟨e, h1, (bes_cong h e).mp h2⟩, fun ⟨e, h1, h2⟩ => ⟨e, h1, (bes_cong h e).mpr h2⟩⟩
theorem nrF_cong {k k' : Nat → Int32} (h : ∀ c, c < 144 → k c = k' c) (c : Nat) : nrF k c 144 = nrF k' c 144 := fo_cong fun d hd x => by rw [h d hd]
theorem heir_cong {k k' : Nat → Int32} (h : ∀ c, c < 144 → k c = k' c) (c : Nat) : heirI k c = heirI k' c := by
  unfold heirI
  have e : prtP k c = prtP k' c := by unfold prtP; rw [newP_cong h]
  rw [e]
  exact congrArg Prod.fst (fo_cong fun d hd x => by rw [h d hd])
theorem stpF_cong {k k' : Nat → Int32} (h : ∀ c, c < 144 → k c = k' c) (isle : Int32) (o : Nat → Int32) {c : Nat} (hc : c < 144) : stpF k isle o c = stpF k' isle o c := by
  unfold stpF
  rw [h c hc, ifp_c (shore_cong h c), nrF_cong h, heir_cong h]
theorem lst_cong {k k' : Nat → Int32} (h : ∀ c, c < 144 → k c = k' c) {c : Nat} (hc : c < 144) : lstF k c 144 = lstF k' c 144 := fo_cong fun d hd x => by rw [h c hc, h d hd]
theorem far_cong {k k' : Nat → Int32} (h : ∀ c, c < 144 → k c = k' c) : farF k 144 = farF k' 144 := fo_cong fun c hc x => by rw [h c hc, lst_cong h hc]
/-- what a step leaves alone -/
def Keep (σ s : mS) : Prop := (∀ j, j ≠ 23 → s 40 0 j = σ 40 0 j) ∧ ∀ g, g ≠ 40 → g ≠ 70 → g ≠ 71 → g ≠ 72 → g ≠ 74 → g ≠ 75 → s g 0 = σ g 0
theorem Keep.rf {σ : mS} : Keep σ σ := ⟨fun _ _ => rfl, fun _ _ _ _ _ _ _ => rfl⟩
theorem Keep.tr {σ s t : mS} (h1 : Keep σ s) (h2 : Keep s t) : Keep σ t := ⟨fun j hj => (h2.1 j hj).trans (h1.1 j hj), fun g a b c d e f => (h2.2 g a b c d e f).trans (h1.2 g a b c d e f)⟩
theorem Keep.put {σ : mS} {g : Nat} (f : Nat → Int32) (h : g = 70 ∨ g = 71 ∨ g = 72 ∨ g = 74 ∨ g = 75) : Keep σ (mput σ g 0 f) := by
  refine ⟨fun j _ => by rw [mput_ng _ _ _ _ (by omega)], fun g' h1 h2 h3 h4 h5 h6 => by rw [mput_ng _ _ _ _ (by omega)]⟩
theorem Keep.put40 {σ : mS} (v : Int32) : Keep σ (mput σ 40 0 (upd (σ 40 0) 23 v)) := by
  refine ⟨fun j hj => by rw [mput_eq, upd_ne _ _ hj], fun g' h1 h2 h3 h4 h5 h6 => by rw [mput_ng _ _ _ _ h1]⟩
noncomputable def sdP (σ : mS) (W H m : Nat) : Prop := sudP (σ 69 0 m) (σ 40 0 18) (farF (kdM σ W H m) 144)
noncomputable def grw (σ : mS) (lw : Option Nat) (sud : Prop) : Int32 := match lw with
  | none => ifp sud 0 1
  | some b => ifp sud (σ 66 0 b) (σ 65 0 b)
def isl (σ : mS) (lw : Option Nat) : Int32 := match lw with
  | none => 0
  | some b => σ 67 0 b
noncomputable def stepO (σ : mS) (W H ln m : Nat) (ctr : Prop) (o : Nat → Int32) : Nat → Int32 :=
  ifp (grw σ (lwF (σ 64 0) (σ 54 0 m) ln ln) (¬ (sdP σ W H m ↔ ctr)) = 0) o (cpy o (stpF (kdM σ W H m) (isl σ (lwF (σ 64 0) (σ 54 0 m) ln ln)) o) 144)
theorem b2i_eq {P Q : Prop} : b2i P = b2i Q ↔ (P ↔ Q) := by
  by_cases h : P <;> by_cases h' : Q
  · rw [b2i_t h, b2i_t h']; simp [h, h']
  · rw [b2i_t h, b2i_f h']; simp [h, h']
  · rw [b2i_f h, b2i_t h']; simp [h, h']
  · rw [b2i_f h, b2i_f h']; simp [h, h']
/-- the loop that gives the new owners -/
theorem steps_loop {G : mK} {post : Option mV → mS → Prop} (hG : mCl Ev kX8_steps post G) {m2 ct lw sd gr : mV} {isle : Int32} {s2 : mS} {kd p o : Nat → Int32} (h70 : s2 70 0 = kd) (h71 : s2 71 0 = p) (h74 : s2 74 0 = o)
    (hl : labOK (newP kd) p) (ha : allL (newP kd) p) (hsh : ∀ c, newP kd c → s2 72 0 (lab (newP kd) c) = b2i (shoreP kd c))
    (hend : ∀ z8 z9 : Option mV, G 100 [some mM, some m2, some ct, some lw, some sd, some gr, some (mI isle), some (mI (nI 144)), z8, z9] [] (mput s2 75 0 (cpy (s2 75 0) (stpF kd isle o) 144))) :
    ∀ n c, c + n = 144 → ∀ z8 z9 : Option mV, G 100 [some mM, some m2, some ct, some lw, some sd, some gr, some (mI isle), some (mI (nI c)), z8, z9] [] (mput s2 75 0 (cpy (s2 75 0) (stpF kd isle o) c)) := by
  intro n
  induction n with
  | zero =>
    intro c hc z8 z9
    have : c = 144 := by omega
    subst this
    exact hend z8 z9
  | succ n ih =>
    intro c hc z8 z9
    have hvc : vp_in (nI c) 144 := vp_in_nI (by omega) (by omega)
    have cc : (nI c).toNatClampNeg = c := nI_cl (by omega)
    generalize hN : cpy (s2 75 0) (stpF kd isle o) c = N
    have hNs : ∀ v, v = stpF kd isle o c → upd N c v = cpy (s2 75 0) (stpF kd isle o) (c + 1) := fun v hv => by rw [hv, ← hN, cpy_s]
    have next : ∀ z8 z9 : Option mV, ∀ v, v = stpF kd isle o c → G 100 [some mM, some m2, some ct, some lw, some sd, some gr, some (mI isle), some (mI (nI c + 1)), z8, z9] [] (mput s2 75 0 (upd N c v)) := by
      intro z8 z9 v hv
      rw [hNs v hv, nI_1]
      exact ih (c + 1) (by omega) z8 z9
    have r70 : ∀ j, s2 70 0 j = kd j := fun j => by rw [h70]
    have r71 : ∀ j, s2 71 0 j = p j := fun j => by rw [h71]
    have r74 : ∀ j, s2 74 0 j = o j := fun j => by rw [h74]
    refine hG.run (br_f (nI_ge (b := 144) (by omega) (by decide)) ?_)
    refine And.intro hvc (And.intro hvc (And.intro hvc (And.intro (fun c1 => And.intro hvc (And.intro (fun c2 => ?_) (fun c2 => ?_))) (fun c1 => And.intro hvc (And.intro hvc (And.intro (fun c2 => ?_) (fun c2 => ?_)))))))
    · replace c1 : ¬ s2 70 0 (nI c).toNatClampNeg = 1 := c1
      replace c2 : ¬ s2 70 0 (nI c).toNatClampNeg = 2 := c2
      rw [cc, r70] at c1 c2
      show G 100 [some mM, some m2, some ct, some lw, some sd, some gr, some (mI isle), some (mI (nI c + 1)), z8, z9] [] (mput (mput s2 75 0 N) 75 0 (upd N (nI c).toNatClampNeg (s2 74 0 (nI c).toNatClampNeg)))
      rw [mput_mput, cc, r74]
      exact next z8 z9 _ (by unfold stpF; rw [if_neg c1, if_neg c2])
    · -- a new cell
      replace c1 : ¬ s2 70 0 (nI c).toNatClampNeg = 1 := c1
      replace c2 : s2 70 0 (nI c).toNatClampNeg = 2 := c2
      rw [cc, r70] at c1 c2
      have hs : newP kd c := ⟨by omega, c2⟩
      have hpc : p c = nI (lab (newP kd) c) := ha c (by omega) hs
      have hll := lab_le (newP kd) c
      have ell : (nI (lab (newP kd) c)).toNatClampNeg = lab (newP kd) c := nI_cl (by omega)
      have hval : ∀ X : Int32, stpF kd isle o c = X → X = stpF kd isle o c := fun X h => h.symm
      have eS : stpF kd isle o c = ifp (shoreP kd c) (oget o (nrF kd c 144)) (if isle = 0 then oget o (heirI kd c) else if isle = 1 then -1 else o c) := by unfold stpF; rw [if_neg c1, if_pos c2]
      have M0 : mput (mput s2 75 0 N) 75 0 (upd N (nI c).toNatClampNeg (s2 74 0 (nI c).toNatClampNeg)) = mput s2 75 0 (upd N c (o c)) := by rw [mput_mput, cc, r74]
      refine And.intro hvc (And.intro ?_ ?_)
      · show vp_in (s2 71 0 (nI c).toNatClampNeg) 144
        rw [cc, r71, hpc]; exact vp_in_nI (by omega) (by omega)
      have hshv : s2 72 0 (s2 71 0 (nI c).toNatClampNeg).toNatClampNeg = b2i (shoreP kd c) := by rw [cc, r71, hpc, ell]; exact hsh c hs
      refine And.intro (fun c3 => ?_) (fun c3 => ?_)
      · -- shore
        replace c3 : ¬ s2 72 0 (s2 71 0 (nI c).toNatClampNeg).toNatClampNeg = 0 := c3
        rw [hshv] at c3
        have hsp := b_t c3
        rw [ifp_t hsp] at eS
        refine And.intro (fun c4 => absurd (show b2i (shoreP kd c) = 0 by rw [← hshv]; exact c4) c3) (fun _ => ?_)
        have hn := ev_nearest (mput (mput s2 75 0 N) 75 0 (upd N (nI c).toNatClampNeg (s2 74 0 (nI c).toNatClampNeg))) (c := c) (by omega)
        rw [show mput (mput s2 75 0 N) 75 0 (upd N (nI c).toNatClampNeg (s2 74 0 (nI c).toNatClampNeg)) 70 0 = kd from h70] at hn
        refine call_of hn ?_
        have hlt := nrF_lt kd c 144
        cases hq : nrF kd c 144 with
        | none =>
          rw [hq] at eS
          refine And.intro (fun _ => And.intro (fun _ => ?_) (fun c5 => absurd (show b2i (shoreP kd c) = 0 by rw [← hshv]; exact c5) c3)) (fun c5 => absurd (by decide) c5)
          refine And.intro hvc ?_
          show G 100 [some mM, some m2, some ct, some lw, some sd, some gr, some (mI isle), some (mI (nI c + 1)), _, _] [] (mput (mput (mput s2 75 0 N) 75 0 (upd N (nI c).toNatClampNeg (s2 74 0 (nI c).toNatClampNeg))) 75 0 (upd (upd N (nI c).toNatClampNeg (s2 74 0 (nI c).toNatClampNeg)) (nI c).toNatClampNeg (-1)))
          simp only [mput_mput]
          rw [cc, fa_upd2]
          exact next _ _ _ (hval _ eS)
        | some e =>
          have he := hlt e hq
          rw [hq] at eS
          refine And.intro (fun c5 => absurd c5 (nI_pos (by omega))) (fun _ => ?_)
          refine And.intro (vp_in_nI (by omega) (by omega)) (And.intro hvc ?_)
          show G 100 [some mM, some m2, some ct, some lw, some sd, some gr, some (mI isle), some (mI (nI c + 1)), _, _] [] (mput (mput (mput s2 75 0 N) 75 0 (upd N (nI c).toNatClampNeg (s2 74 0 (nI c).toNatClampNeg))) 75 0 (upd (upd N (nI c).toNatClampNeg (s2 74 0 (nI c).toNatClampNeg)) (nI c).toNatClampNeg (s2 74 0 (nI e).toNatClampNeg)))
          simp only [mput_mput]
          rw [cc, fa_upd2, nI_cl (n := e) (by omega), r74]
          exact next _ _ _ (hval _ eS)
      · -- an isle
        replace c3 : s2 72 0 (s2 71 0 (nI c).toNatClampNeg).toNatClampNeg = 0 := c3
        have c3' := c3
        rw [hshv] at c3
        have hsp := b_f c3
        rw [ifp_f hsp] at eS
        refine And.intro (fun c4 => ?_) (fun c4 => ?_)
        · -- the law is s or k
          rw [if_neg c4] at eS
          refine And.intro (fun c5 => ?_) (fun c5 => ?_)
          · rw [if_neg c5] at eS
            refine And.intro hvc (And.intro hvc ?_)
            show G 100 [some mM, some m2, some ct, some lw, some sd, some gr, some (mI isle), some (mI (nI c + 1)), _, _] [] (mput (mput (mput s2 75 0 N) 75 0 (upd N (nI c).toNatClampNeg (s2 74 0 (nI c).toNatClampNeg))) 75 0 (upd (upd N (nI c).toNatClampNeg (s2 74 0 (nI c).toNatClampNeg)) (nI c).toNatClampNeg (s2 74 0 (nI c).toNatClampNeg)))
            simp only [mput_mput]
            rw [cc, fa_upd2, r74]
            exact next _ _ _ (hval _ eS)
          · rw [if_pos c5] at eS
            refine And.intro hvc ?_
            show G 100 [some mM, some m2, some ct, some lw, some sd, some gr, some (mI isle), some (mI (nI c + 1)), _, _] [] (mput (mput (mput s2 75 0 N) 75 0 (upd N (nI c).toNatClampNeg (s2 74 0 (nI c).toNatClampNeg))) 75 0 (upd (upd N (nI c).toNatClampNeg (s2 74 0 (nI c).toNatClampNeg)) (nI c).toNatClampNeg (-1)))
            simp only [mput_mput]
            rw [cc, fa_upd2]
            exact next _ _ _ (hval _ eS)
        · -- the law is n
          rw [if_pos c4] at eS
          refine And.intro (fun _ => ?_) (fun c5 => absurd c3' c5)
          refine And.intro hvc (And.intro (fun c5 => ?_) (fun c5 => ?_))
          · -- not the first of its part
            replace c5 : ¬ s2 71 0 (nI c).toNatClampNeg = nI c := c5
            rw [cc, r71, hpc] at c5
            have hne : lab (newP kd) c < c := by
              rcases Nat.lt_or_ge (lab (newP kd) c) c with z | z
              · exact z
              · exact absurd (by rw [show lab (newP kd) c = c by omega]) c5
            refine And.intro (fun _ => And.intro (fun c6 => absurd c3' c6) (fun _ => And.intro hvc (And.intro (fun _ => ?_) (fun c6 => absurd (show s2 71 0 (nI c).toNatClampNeg = nI c from c6) (by rw [cc, r71, hpc]; exact c5))))) (fun c6 => absurd (by decide) c6)
            refine And.intro hvc (And.intro ?_ (And.intro hvc ?_))
            · show vp_in (s2 71 0 (nI c).toNatClampNeg) 144
              rw [cc, r71, hpc]; exact vp_in_nI (by omega) (by omega)
            show G 100 [some mM, some m2, some ct, some lw, some sd, some gr, some (mI isle), some (mI (nI c + 1)), _, _] [] (mput (mput (mput s2 75 0 N) 75 0 (upd N (nI c).toNatClampNeg (s2 74 0 (nI c).toNatClampNeg))) 75 0 (upd (upd N (nI c).toNatClampNeg (s2 74 0 (nI c).toNatClampNeg)) (nI c).toNatClampNeg (upd N (nI c).toNatClampNeg (s2 74 0 (nI c).toNatClampNeg) (s2 71 0 (nI c).toNatClampNeg).toNatClampNeg)))
            simp only [mput_mput]
            rw [cc, fa_upd2, r71, hpc, ell, upd_ne _ _ (by omega)]
            refine next _ _ _ ?_
            rw [← hN, cpy_in hne, eS]
            have hsl : newP kd (lab (newP kd) c) := lab_in hs
            have k2 : kd (lab (newP kd) c) = 2 := hsl.2
            unfold stpF
            rw [if_neg (by rw [k2]; decide), if_pos k2, ifp_f (fun q => hsp ((shore_lab c).mp q)), if_pos c4, heir_lab]
          · -- the first of its part
            replace c5 : s2 71 0 (nI c).toNatClampNeg = nI c := c5
            have c5' := c5
            rw [cc, r71] at c5
            have hlc : lab (newP kd) c = c := by
              rw [hpc] at c5
              exact (nI_eq (by omega) (by omega)).mp c5
            have hn := ev_nearestToPart (mput (mput s2 75 0 N) 75 0 (upd N (nI c).toNatClampNeg (s2 74 0 (nI c).toNatClampNeg))) (nI c)
            rw [show mput (mput s2 75 0 N) 75 0 (upd N (nI c).toNatClampNeg (s2 74 0 (nI c).toNatClampNeg)) 70 0 = kd from h70, show mput (mput s2 75 0 N) 75 0 (upd N (nI c).toNatClampNeg (s2 74 0 (nI c).toNatClampNeg)) 71 0 = p from h71] at hn
            have hnp := np_S hl ha (c := c) (by omega)
            rw [hlc] at hnp
            have hlt := (npF_lt kd p (nI c) 144).2
            rw [hnp] at hn hlt
            refine call_of hn ?_
            cases hq : (npS kd (prtP kd c) 144).1 with
            | none =>
              rw [show heirI kd c = none from hq] at eS
              refine And.intro (fun _ => And.intro (fun c6 => absurd c3' c6) (fun _ => And.intro hvc (And.intro (fun c6 => absurd c5' c6) (fun _ => And.intro hvc ?_)))) (fun c6 => absurd (by decide) c6)
              show G 100 [some mM, some m2, some ct, some lw, some sd, some gr, some (mI isle), some (mI (nI c + 1)), _, _] [] (mput (mput (mput s2 75 0 N) 75 0 (upd N (nI c).toNatClampNeg (s2 74 0 (nI c).toNatClampNeg))) 75 0 (upd (upd N (nI c).toNatClampNeg (s2 74 0 (nI c).toNatClampNeg)) (nI c).toNatClampNeg (-1)))
              simp only [mput_mput]
              rw [cc, fa_upd2]
              exact next _ _ _ (hval _ eS)
            | some e =>
              have he := hlt e hq
              rw [show heirI kd c = some e from hq] at eS
              refine And.intro (fun c6 => absurd c6 (nI_pos (by omega))) (fun _ => ?_)
              refine And.intro (vp_in_nI (by omega) (by omega)) (And.intro hvc ?_)
              show G 100 [some mM, some m2, some ct, some lw, some sd, some gr, some (mI isle), some (mI (nI c + 1)), _, _] [] (mput (mput (mput s2 75 0 N) 75 0 (upd N (nI c).toNatClampNeg (s2 74 0 (nI c).toNatClampNeg))) 75 0 (upd (upd N (nI c).toNatClampNeg (s2 74 0 (nI c).toNatClampNeg)) (nI c).toNatClampNeg (s2 74 0 (nI e).toNatClampNeg)))
              simp only [mput_mput]
              rw [cc, fa_upd2, nI_cl (n := e) (by omega), r74]
              exact next _ _ _ (hval _ eS)
    · -- lost, and not new
      replace c1 : s2 70 0 (nI c).toNatClampNeg = 1 := c1
      rw [cc, r70] at c1
      show G 100 [some mM, some m2, some ct, some lw, some sd, some gr, some (mI isle), some (mI (nI c + 1)), z8, z9] [] (mput (mput (mput s2 75 0 N) 75 0 (upd N (nI c).toNatClampNeg (s2 74 0 (nI c).toNatClampNeg))) 75 0 (upd (upd N (nI c).toNatClampNeg (s2 74 0 (nI c).toNatClampNeg)) (nI c).toNatClampNeg (-1)))
      simp only [mput_mput]
      rw [cc, fa_upd2]
      exact next z8 z9 _ (by unfold stpF; rw [if_pos c1])
    · replace c1 : s2 70 0 (nI c).toNatClampNeg = 1 := c1
      replace c2 : s2 70 0 (nI c).toNatClampNeg = 2 := c2
      rw [c1] at c2
      exact absurd c2 (by decide)
end
section
/-! THE REFERENCE: steps, years, owners -/
/-- what the reference holds: land W x H, mp maps, dn deeds, ln laws -/
def MI (σ : mS) (W H mp dn ln : Nat) : Prop :=
  (σ 40 0 1 = nI W ∧ 0 < W ∧ W ≤ 12) ∧ (σ 40 0 2 = nI H ∧ 0 < H ∧ H ≤ 12) ∧ (σ 40 0 3 = nI mp ∧ mp ≤ 10) ∧ (σ 40 0 7 = nI dn ∧ dn ≤ 30) ∧ (σ 40 0 13 = nI ln ∧ ln ≤ 20) ∧
  (∀ j, σ 55 0 j &&& 1 = σ 55 0 j) ∧ dedOK σ dn ∧ (∀ j, j < mp → ∃ y, y ≤ 200 ∧ σ 54 0 j = nI y) ∧ (∀ i j, i < j → j < mp → σ 54 0 i < σ 54 0 j) ∧ (∀ j, 144 ≤ j → σ 56 0 j = 0)
theorem MI.keep {σ s : mS} {W H mp dn ln : Nat} (h : MI σ W H mp dn ln) (k : Keep σ s) : MI s W H mp dn ln := by
  obtain ⟨h1, h2, h3, h4, h5, h6, h7, h8, h9, h10⟩ := h
  have e : ∀ g, g ≠ 40 → g ≠ 70 → g ≠ 71 → g ≠ 72 → g ≠ 74 → g ≠ 75 → s g 0 = σ g 0 := k.2
  unfold MI dedOK
  rw [k.1 1 (by decide), k.1 2 (by decide), k.1 3 (by decide), k.1 7 (by decide), k.1 13 (by decide), e 55 (by decide) (by decide) (by decide) (by decide) (by decide) (by decide), e 54 (by decide) (by decide) (by decide) (by decide) (by decide) (by decide), e 56 (by decide) (by decide) (by decide) (by decide) (by decide) (by decide), e 58 (by decide) (by decide) (by decide) (by decide) (by decide) (by decide), e 59 (by decide) (by decide) (by decide) (by decide) (by decide) (by decide)]
  exact ⟨h1, h2, h3, h4, h5, h6, h7, h8, h9, h10⟩
/-- what is told alone decides: the groups that a step leaves alone -/
theorem stepO_keep {σ s : mS} (k : Keep σ s) (W H ln m : Nat) (ctr : Prop) (o : Nat → Int32) : stepO s W H ln m ctr o = stepO σ W H ln m ctr o := by
  have e : ∀ g, g ≠ 40 → g ≠ 70 → g ≠ 71 → g ≠ 72 → g ≠ 74 → g ≠ 75 → s g 0 = σ g 0 := k.2
  have e55 := e 55 (by decide) (by decide) (by decide) (by decide) (by decide) (by decide)
  have hk : kdM s W H m = kdM σ W H m := by unfold kdM wtr; rw [e55]
  have hg : ∀ lw sd, grw s lw sd = grw σ lw sd := fun lw sd => by
    unfold grw
    rw [e 65 (by decide) (by decide) (by decide) (by decide) (by decide) (by decide), e 66 (by decide) (by decide) (by decide) (by decide) (by decide) (by decide)]
  have hi : ∀ lw, isl s lw = isl σ lw := fun lw => by
    unfold isl
    rw [e 67 (by decide) (by decide) (by decide) (by decide) (by decide) (by decide)]
  unfold stepO sdP
  rw [hk, hg, hi, k.1 18 (by decide), e 64 (by decide) (by decide) (by decide) (by decide) (by decide) (by decide), e 54 (by decide) (by decide) (by decide) (by decide) (by decide) (by decide), e 69 (by decide) (by decide) (by decide) (by decide) (by decide) (by decide)]
theorem dsF_keep {σ s : mS} (k : Keep σ s) (wt : Nat → Int32) (year : Int32) (o : Nat → Int32) (n : Nat) : dsF s wt year o n = dsF σ wt year o n := by
  have e : ∀ g, g ≠ 40 → g ≠ 70 → g ≠ 71 → g ≠ 72 → g ≠ 74 → g ≠ 75 → s g 0 = σ g 0 := k.2
  unfold dsF
  rw [e 58 (by decide) (by decide) (by decide) (by decide) (by decide) (by decide), e 59 (by decide) (by decide) (by decide) (by decide) (by decide) (by decide), e 60 (by decide) (by decide) (by decide) (by decide) (by decide) (by decide), e 61 (by decide) (by decide) (by decide) (by decide) (by decide) (by decide), e 62 (by decide) (by decide) (by decide) (by decide) (by decide) (by decide)]
theorem wtr_keep {σ s : mS} (k : Keep σ s) (m : Nat) : wtr s m = wtr σ m := by
  unfold wtr
  rw [k.2 55 (by decide) (by decide) (by decide) (by decide) (by decide) (by decide)]
theorem Keep.g {σ s : mS} (k : Keep σ s) {g : Nat} (h : g ≠ 40 ∧ g ≠ 70 ∧ g ≠ 71 ∧ g ≠ 72 ∧ g ≠ 74 ∧ g ≠ 75) : s g 0 = σ g 0 := k.2 g h.1 h.2.1 h.2.2.1 h.2.2.2.1 h.2.2.2.2.1 h.2.2.2.2.2
theorem cpy_cong {f g g' : Nat → Int32} {n : Nat} (h : ∀ j, j < n → g j = g' j) : cpy f g n = cpy f g' n := by
  funext j
  unfold cpy
  split
  · exact h j (by assumption)
  · rfl
set_option maxHeartbeats 1000000 in
theorem ev_steps (σ : mS) {W H mp dn ln m : Nat} (I : MI σ W H mp dn ln) (hm0 : 0 < m) (hm : m < mp) (ctr : Prop) : Ev kX8_steps [mM, mI (nI m), mI (b2i ctr)] σ (fun r s => r = none ∧ Keep σ s ∧ s 74 0 = stepO σ W H ln m ctr (σ 74 0)) := by
  obtain ⟨⟨hW, hW0, hW1⟩, ⟨hH, hH0, hH1⟩, ⟨hmp, hmp1⟩, ⟨hdn, hdn1⟩, ⟨hln, hln1⟩, hb, -, -, -⟩ := id I
  refine Ev.intro fun G hG => hG.run ?_
  refine call_of (ev_kinds σ hW hW1 hH hH1 hm0 (by omega) hb) ?_
  generalize hs1 : mput σ 70 0 (cpy (σ 70 0) (kdM σ W H m) 144) = s1
  have k1 : Keep σ s1 := by rw [← hs1]; exact Keep.put _ (Or.inl rfl)
  have s1_70 : s1 70 0 = cpy (σ 70 0) (kdM σ W H m) 144 := by rw [← hs1]; rfl
  have s1_74 : s1 74 0 = σ 74 0 := by rw [← hs1]; rfl
  have hcg : ∀ c, c < 144 → s1 70 0 c = kdM σ W H m c := fun c hc => by rw [s1_70, cpy_in hc]
  have e54 : s1 54 0 = σ 54 0 := k1.g (by decide)
  have e64 : s1 64 0 = σ 64 0 := k1.g (by decide)
  have e65 : s1 65 0 = σ 65 0 := k1.g (by decide)
  have e66 : s1 66 0 = σ 66 0 := k1.g (by decide)
  have e67 : s1 67 0 = σ 67 0 := k1.g (by decide)
  have e69 : s1 69 0 = σ 69 0 := k1.g (by decide)
  refine And.intro (vp_in_nI (by omega) (by omega)) ?_
  rw [nI_cl (by omega)]
  have hl := ev_lawIn s1 (s1 54 0 m) (ln := ln) ((k1.1 13 (by decide)).trans hln) hln1
  have hlt := lwF_lt (s1 64 0) (s1 54 0 m) ln ln
  refine call_of hl ?_
  have hsd := ev_isSudden s1 (m := m) (by omega)
  rw [far_cong hcg, e69, k1.1 18 (by decide)] at hsd
  rw [e64, e54] at hl hlt
  rw [e64, e54]
  refine call_of hsd ?_
  have eO : stepO σ W H ln m ctr (σ 74 0) = ifp (grw σ (lwF (σ 64 0) (σ 54 0 m) ln ln) (¬ (sdP σ W H m ↔ ctr)) = 0) (σ 74 0) (cpy (σ 74 0) (stpF (kdM σ W H m) (isl σ (lwF (σ 64 0) (σ 54 0 m) ln ln)) (σ 74 0)) 144) := rfl
  generalize hlw : lwF (σ 64 0) (σ 54 0 m) ln ln = lw at eO hlt
  have hlv : ∀ b, lw = some b → b < ln := fun b h => hlt b (Nat.le_refl _) h
  -- behind the law: nothing happens, or the owners go over
  have fin : ∀ (sd gr isle : Int32), gr = grw σ lw (¬ (sdP σ W H m ↔ ctr)) → isle = isl σ lw → ¬ gr = 0 → ∀ p, labOK (newP (s1 70 0)) p → allL (newP (s1 70 0)) p → ∀ s2, s2 = mput (mput (mput s1 71 0 p) 40 0 (upd (s1 40 0) 23 (ptN p 144))) 72 0 (shO p (s1 70 0) (fil (s1 72 0) 0 144) 144) → G 100 [some mM, some (mI (nI m)), some (mI (b2i ctr)), some (mI (oI lw)), some (mI sd), some (mI gr), some (mI isle), some (mI (nI 0)), none, none] [] s2 := by
    intro sd gr isle hgr hisle hne p hp1 hp2 s2 hs2
    have k2 : Keep s1 s2 := by
      rw [hs2]
      exact ((Keep.put p (Or.inr (Or.inl rfl))).tr (Keep.put40 (σ := mput s1 71 0 p) (ptN p 144))).tr (Keep.put _ (Or.inr (Or.inr (Or.inl rfl))))
    have h70 : s2 70 0 = s1 70 0 := by rw [hs2]; rfl
    have h71 : s2 71 0 = p := by rw [hs2]; rfl
    have h74 : s2 74 0 = σ 74 0 := by rw [hs2]; exact s1_74
    have h75 : s2 75 0 = s1 75 0 := by rw [hs2]; rfl
    have hsh : ∀ c, newP (s1 70 0) c → s2 72 0 (lab (newP (s1 70 0)) c) = b2i (shoreP (s1 70 0) c) := by
      intro c hc
      rw [hs2]
      exact shO_S hp1 hp2 (fun l hl => fil_in hl) hc.1
    have hloop := steps_loop hG (m2 := mI (nI m)) (ct := mI (b2i ctr)) (lw := mI (oI lw)) (sd := mI sd) (gr := mI gr) (isle := isle) (s2 := s2) h70 h71 h74 hp1 hp2 hsh ?_ 144 0 (by omega) none none
    · rw [cpy_0, mput_self] at hloop
      exact hloop
    · intro z8 z9
      refine hG.run (br_t (Int32.le_refl _) ?_)
      generalize hN : cpy (s2 75 0) (stpF (s1 70 0) isle (σ 74 0)) 144 = N
      have key := loop_up (G := G) 305 144 (fun i => [some mM, some (mI (nI m)), some (mI (b2i ctr)), some (mI (oI lw)), some (mI sd), some (mI gr), some (mI isle), some (mI (nI i)), z8, z9]) (fun i => mput (mput s2 75 0 N) 74 0 (cpy (σ 74 0) N i)) ?_ ?_ 0 (by omega)
      · rw [cpy_0] at key
        rw [show σ 74 0 = mput s2 75 0 N 74 0 from h74.symm, mput_self] at key
        exact key
      · intro i hi ih
        refine hG.run (br_f (nI_ge (b := 144) hi (by decide)) ?_)
        refine And.intro (vp_in_nI (by omega) (by omega)) (And.intro (vp_in_nI (by omega) (by omega)) ?_)
        rw [nI_cl (by omega)]
        show G 305 [some mM, some (mI (nI m)), some (mI (b2i ctr)), some (mI (oI lw)), some (mI sd), some (mI gr), some (mI isle), some (mI (nI i + 1)), z8, z9] [] (mput (mput (mput s2 75 0 N) 74 0 (cpy (σ 74 0) N i)) 74 0 (upd (cpy (σ 74 0) N i) i (N i)))
        rw [mput_mput, cpy_s, nI_1]
        exact ih
      · refine hG.run (br_t (Int32.le_refl _) ?_)
        refine ⟨rfl, ?_, ?_⟩
        · exact ((k1.tr k2).tr (Keep.put N (Or.inr (Or.inr (Or.inr (Or.inr rfl)))))).tr (Keep.put _ (Or.inr (Or.inr (Or.inr (Or.inl rfl)))))
        · show cpy (σ 74 0) N 144 = _
          rw [eO, ifp_f (by rw [← hgr]; exact hne), ← hisle]
          refine cpy_cong fun c hc => ?_
          rw [← hN, cpy_in hc]
          exact stpF_cong hcg isle (σ 74 0) hc
  -- behind the law
  have tail : ∀ (sd gr : Int32), gr = grw σ lw (¬ (sdP σ W H m ↔ ctr)) → ¬ gr = 0 → ∀ fu, mgo Ev kX8_steps (fun r s => r = none ∧ Keep σ s ∧ s 74 0 = stepO σ W H ln m ctr (σ 74 0)) G (fu + 40) 77 [some mM, some (mI (nI m)), some (mI (b2i ctr)), some (mI (oI lw)), some (mI sd), some (mI gr), none, none, none, none] [] s1 := by
    intro sd gr hgr hne fu
    refine call_ex (ev_findsParts s1) ?_
    rintro r s2 ⟨rfl, p, hp1, hp2, hs2⟩
    have k2 : Keep s1 s2 := by
      rw [hs2]
      exact ((Keep.put p (Or.inr (Or.inl rfl))).tr (Keep.put40 (σ := mput s1 71 0 p) (ptN p 144))).tr (Keep.put _ (Or.inr (Or.inr (Or.inl rfl))))
    have e67' : s2 67 0 = σ 67 0 := (k2.g (by decide)).trans e67
    cases hlw2 : lw with
    | none =>
      rw [hlw2] at fin hgr
      refine And.intro (fun c0 => absurd c0 (by decide)) (fun _ => ?_)
      exact fin sd gr 0 hgr rfl hne p hp1 hp2 s2 hs2
    | some b =>
      have hb9 := hlv b hlw2
      rw [hlw2] at fin hgr
      refine And.intro (fun _ => ?_) (fun c0 => absurd (nI_pos' (by omega)) c0)
      refine And.intro (vp_in_nI (by omega) (by omega)) ?_
      rw [show (oI (some b)).toNatClampNeg = b from nI_cl (by omega)]
      have := fin sd gr (s2 67 0 b) hgr (by rw [e67']; rfl) hne p hp1 hp2 s2 hs2
      exact this
  have stop : ∀ gr : Int32, gr = grw σ lw (¬ (sdP σ W H m ↔ ctr)) → gr = 0 → (none : Option mV) = none ∧ Keep σ s1 ∧ s1 74 0 = stepO σ W H ln m ctr (σ 74 0) := by
    intro gr hgr h0
    rw [eO, ifp_t (by rw [← hgr]; exact h0)]
    exact ⟨rfl, k1, s1_74⟩
  have law : ∀ (P : Prop) (sd : Int32), (P ↔ ¬ (sdP σ W H m ↔ ctr)) → sd = b2i P → ∀ fu, (0 ≤ oI lw → mgo Ev kX8_steps (fun r s => r = none ∧ Keep σ s ∧ s 74 0 = stepO σ W H ln m ctr (σ 74 0)) G (fu + 50) 49 [some mM, some (mI (nI m)), some (mI (b2i ctr)), some (mI (oI lw)), some (mI sd), none, none, none, none, none] [] s1) ∧ (¬ 0 ≤ oI lw → mgo Ev kX8_steps (fun r s => r = none ∧ Keep σ s ∧ s 74 0 = stepO σ W H ln m ctr (σ 74 0)) G (fu + 50) 36 [some mM, some (mI (nI m)), some (mI (b2i ctr)), some (mI (oI lw)), some (mI sd), none, none, none, none, none] [] s1) := by
    intro P sd hP hsd2 fu
    have hPe : P = ¬ (sdP σ W H m ↔ ctr) := propext hP
    cases hlw2 : lw with
    | none =>
      refine And.intro (fun c0 => absurd c0 (by decide)) (fun _ => ?_)
      rw [hlw2] at tail stop
      refine And.intro (fun c1 => ?_) (fun c1 => ?_)
      · rw [hsd2] at c1
        have hg : (1 : Int32) = grw σ none (¬ (sdP σ W H m ↔ ctr)) := (ifp_f (by rw [← hPe]; exact b_f c1)).symm
        exact And.intro (fun c2 => tail sd 1 hg c2 _) (fun c2 => stop 1 hg c2)
      · rw [hsd2] at c1
        have hg : (0 : Int32) = grw σ none (¬ (sdP σ W H m ↔ ctr)) := (ifp_t (by rw [← hPe]; exact b_t c1)).symm
        exact And.intro (fun c2 => tail sd 0 hg c2 _) (fun c2 => stop 0 hg c2)
    | some b =>
      have hb9 := hlv b hlw2
      refine And.intro (fun _ => ?_) (fun c0 => absurd (nI_pos' (by omega)) c0)
      rw [hlw2] at tail stop
      have cb : (nI b).toNatClampNeg = b := nI_cl (by omega)
      refine And.intro (fun c1 => ?_) (fun c1 => ?_)
      · rw [hsd2] at c1
        have hg : s1 65 0 (nI b).toNatClampNeg = grw σ (some b) (¬ (sdP σ W H m ↔ ctr)) := by rw [cb, e65]; exact (ifp_f (by rw [← hPe]; exact b_f c1)).symm
        refine And.intro (vp_in_nI (by omega) (by omega)) ?_
        exact And.intro (fun c2 => tail sd _ hg c2 _) (fun c2 => stop _ hg c2)
      · rw [hsd2] at c1
        have hg : s1 66 0 (nI b).toNatClampNeg = grw σ (some b) (¬ (sdP σ W H m ↔ ctr)) := by rw [cb, e66]; exact (ifp_t (by rw [← hPe]; exact b_t c1)).symm
        refine And.intro (vp_in_nI (by omega) (by omega)) ?_
        exact And.intro (fun c2 => tail sd _ hg c2 _) (fun c2 => stop _ hg c2)
  refine And.intro (fun c1 => ?_) (fun c1 => ?_)
  · replace c1 : b2i (sdP σ W H m) = b2i ctr := c1
    have c1 := b2i_eq.mp c1
    exact law False 0 ⟨fun q => q.elim, fun q => q c1⟩ (b2i_f id).symm _
  · replace c1 : ¬ b2i (sdP σ W H m) = b2i ctr := c1
    have c1 : ¬ (sdP σ W H m ↔ ctr) := fun q => c1 (b2i_eq.mpr q)
    exact law True 1 ⟨fun _ => c1, fun _ => trivial⟩ (b2i_t trivial).symm _
end
