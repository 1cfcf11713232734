section
-- ===== PART A: goes FIRST, ahead of the names: the tables' words, and 'selects' of the private methods out of them =====
/-- a private method of a class that the tables say can be made, by its rows of tables_1 -/
def lw_okq (q : MethodName × Nat) : Prop := (q.1.cls ≠ "java/lang/invoke/MethodHandle" ∧ q.1.cls ≠ "java/lang/invoke/VarHandle") ∧ Cond.instantiable q.1.cls q.2 ∈ tables_1 ∧ Cond.privateMethod q.1 ∈ tables_1 ∧ Cond.instanceMethod q.1 ∈ tables_1
theorem lw_p0 : lw_okq (⟨"ThroughOthers", "isSetting", "(II)Z"⟩, 10) := ⟨⟨by decide +kernel, by decide +kernel⟩, List.mem_of_getElem? (i := 16) (by decide +kernel), List.mem_of_getElem? (i := 387) (by decide +kernel), List.mem_of_getElem? (i := 388) (by decide +kernel)⟩
theorem lw_p1 : lw_okq (⟨"ThroughOthers", "setting", "(I)I"⟩, 10) := ⟨⟨by decide +kernel, by decide +kernel⟩, List.mem_of_getElem? (i := 16) (by decide +kernel), List.mem_of_getElem? (i := 394) (by decide +kernel), List.mem_of_getElem? (i := 395) (by decide +kernel)⟩
theorem lw_p2 : lw_okq (⟨"ThroughOthers$Chains", "begin", "(I)V"⟩, 7) := ⟨⟨by decide +kernel, by decide +kernel⟩, List.mem_of_getElem? (i := 51) (by decide +kernel), List.mem_of_getElem? (i := 414) (by decide +kernel), List.mem_of_getElem? (i := 415) (by decide +kernel)⟩
theorem lw_p3 : lw_okq (⟨"ThroughOthers$Chains", "goOn", "(III)V"⟩, 7) := ⟨⟨by decide +kernel, by decide +kernel⟩, List.mem_of_getElem? (i := 51) (by decide +kernel), List.mem_of_getElem? (i := 426) (by decide +kernel), List.mem_of_getElem? (i := 427) (by decide +kernel)⟩
theorem lw_p4 : lw_okq (⟨"ThroughOthers$Chains", "isNear", "(II)Z"⟩, 7) := ⟨⟨by decide +kernel, by decide +kernel⟩, List.mem_of_getElem? (i := 51) (by decide +kernel), List.mem_of_getElem? (i := 469) (by decide +kernel), List.mem_of_getElem? (i := 470) (by decide +kernel)⟩
theorem lw_p5 : lw_okq (⟨"ThroughOthers$Chains", "weight", "(I)J"⟩, 7) := ⟨⟨by decide +kernel, by decide +kernel⟩, List.mem_of_getElem? (i := 51) (by decide +kernel), List.mem_of_getElem? (i := 473) (by decide +kernel), List.mem_of_getElem? (i := 474) (by decide +kernel)⟩
theorem lw_p6 : lw_okq (⟨"ThroughOthers$Walk", "step", "()V"⟩, 4) := ⟨⟨by decide +kernel, by decide +kernel⟩, List.mem_of_getElem? (i := 81) (by decide +kernel), List.mem_of_getElem? (i := 498) (by decide +kernel), List.mem_of_getElem? (i := 499) (by decide +kernel)⟩
theorem lw_p7 : lw_okq (⟨"ThroughOthers$Shares", "tells", "(II)Z"⟩, 2) := ⟨⟨by decide +kernel, by decide +kernel⟩, List.mem_of_getElem? (i := 167) (by decide +kernel), List.mem_of_getElem? (i := 587) (by decide +kernel), List.mem_of_getElem? (i := 588) (by decide +kernel)⟩
theorem lw_p8 : lw_okq (⟨"ThroughOthers$Shares", "telling", "(I)J"⟩, 2) := ⟨⟨by decide +kernel, by decide +kernel⟩, List.mem_of_getElem? (i := 167) (by decide +kernel), List.mem_of_getElem? (i := 606) (by decide +kernel), List.mem_of_getElem? (i := 607) (by decide +kernel)⟩
theorem lw_p9 : lw_okq (⟨"ThroughOthers$Shares", "isLess", "(II)Z"⟩, 2) := ⟨⟨by decide +kernel, by decide +kernel⟩, List.mem_of_getElem? (i := 167) (by decide +kernel), List.mem_of_getElem? (i := 628) (by decide +kernel), List.mem_of_getElem? (i := 629) (by decide +kernel)⟩
theorem lw_p10 : lw_okq (⟨"ThroughOthers$Deals", "gather", "()I"⟩, 4) := ⟨⟨by decide +kernel, by decide +kernel⟩, List.mem_of_getElem? (i := 180) (by decide +kernel), List.mem_of_getElem? (i := 648) (by decide +kernel), List.mem_of_getElem? (i := 649) (by decide +kernel)⟩
theorem lw_p11 : lw_okq (⟨"ThroughOthers$Deals", "alikeIn", "(I)I"⟩, 4) := ⟨⟨by decide +kernel, by decide +kernel⟩, List.mem_of_getElem? (i := 180) (by decide +kernel), List.mem_of_getElem? (i := 652) (by decide +kernel), List.mem_of_getElem? (i := 653) (by decide +kernel)⟩
theorem lw_p12 : lw_okq (⟨"ThroughOthers$Marks", "gather", "()V"⟩, 8) := ⟨⟨by decide +kernel, by decide +kernel⟩, List.mem_of_getElem? (i := 199) (by decide +kernel), List.mem_of_getElem? (i := 728) (by decide +kernel), List.mem_of_getElem? (i := 729) (by decide +kernel)⟩
theorem lw_p13 : lw_okq (⟨"ThroughOthers$Marks", "apartForSure", "()I"⟩, 8) := ⟨⟨by decide +kernel, by decide +kernel⟩, List.mem_of_getElem? (i := 199) (by decide +kernel), List.mem_of_getElem? (i := 733) (by decide +kernel), List.mem_of_getElem? (i := 734) (by decide +kernel)⟩
theorem lw_p14 : lw_okq (⟨"ThroughOthers$Marks", "deal", "(III)Z"⟩, 8) := ⟨⟨by decide +kernel, by decide +kernel⟩, List.mem_of_getElem? (i := 199) (by decide +kernel), List.mem_of_getElem? (i := 739) (by decide +kernel), List.mem_of_getElem? (i := 740) (by decide +kernel)⟩
theorem lw_p15 : lw_okq (⟨"ThroughOthers", "digestOfNet", "(J)J"⟩, 10) := ⟨⟨by decide +kernel, by decide +kernel⟩, List.mem_of_getElem? (i := 16) (by decide +kernel), List.mem_of_getElem? (i := 849) (by decide +kernel), List.mem_of_getElem? (i := 850) (by decide +kernel)⟩
def lw_privs_1 : List (MethodName × Nat) := [(⟨"ThroughOthers", "isSetting", "(II)Z"⟩, 10), (⟨"ThroughOthers", "setting", "(I)I"⟩, 10), (⟨"ThroughOthers$Chains", "begin", "(I)V"⟩, 7), (⟨"ThroughOthers$Chains", "goOn", "(III)V"⟩, 7), (⟨"ThroughOthers$Chains", "isNear", "(II)Z"⟩, 7), (⟨"ThroughOthers$Chains", "weight", "(I)J"⟩, 7), (⟨"ThroughOthers$Walk", "step", "()V"⟩, 4), (⟨"ThroughOthers$Shares", "tells", "(II)Z"⟩, 2), (⟨"ThroughOthers$Shares", "telling", "(I)J"⟩, 2), (⟨"ThroughOthers$Shares", "isLess", "(II)Z"⟩, 2), (⟨"ThroughOthers$Deals", "gather", "()I"⟩, 4), (⟨"ThroughOthers$Deals", "alikeIn", "(I)I"⟩, 4), (⟨"ThroughOthers$Marks", "gather", "()V"⟩, 8), (⟨"ThroughOthers$Marks", "apartForSure", "()I"⟩, 8), (⟨"ThroughOthers$Marks", "deal", "(III)Z"⟩, 8), (⟨"ThroughOthers", "digestOfNet", "(J)J"⟩, 10)]
theorem lw_r1 : ∀ q ∈ lw_privs_1, lw_okq q := List.forall_mem_cons.mpr ⟨lw_p0, List.forall_mem_cons.mpr ⟨lw_p1, List.forall_mem_cons.mpr ⟨lw_p2, List.forall_mem_cons.mpr ⟨lw_p3, List.forall_mem_cons.mpr ⟨lw_p4, List.forall_mem_cons.mpr ⟨lw_p5, List.forall_mem_cons.mpr ⟨lw_p6, List.forall_mem_cons.mpr ⟨lw_p7, List.forall_mem_cons.mpr ⟨lw_p8, List.forall_mem_cons.mpr ⟨lw_p9, List.forall_mem_cons.mpr ⟨lw_p10, List.forall_mem_cons.mpr ⟨lw_p11, List.forall_mem_cons.mpr ⟨lw_p12, List.forall_mem_cons.mpr ⟨lw_p13, List.forall_mem_cons.mpr ⟨lw_p14, List.forall_mem_cons.mpr ⟨lw_p15, fun _ h => absurd h List.not_mem_nil⟩⟩⟩⟩⟩⟩⟩⟩⟩⟩⟩⟩⟩⟩⟩⟩
theorem lw_p16 : lw_okq (⟨"ThroughOthers", "digestOfRecords", "(J)J"⟩, 10) := ⟨⟨by decide +kernel, by decide +kernel⟩, List.mem_of_getElem? (i := 16) (by decide +kernel), List.mem_of_getElem? (i := 856) (by decide +kernel), List.mem_of_getElem? (i := 857) (by decide +kernel)⟩
theorem lw_p17 : lw_okq (⟨"ThroughOthersModel", "met", "(I)I"⟩, 49) := ⟨⟨by decide +kernel, by decide +kernel⟩, List.mem_of_getElem? (i := 865) (by decide +kernel), List.mem_of_getElem? (i := 1031) (by decide +kernel), List.mem_of_getElem? (i := 1032) (by decide +kernel)⟩
theorem lw_p18 : lw_okq (⟨"ThroughOthersModel", "lacks", "(III)I"⟩, 49) := ⟨⟨by decide +kernel, by decide +kernel⟩, List.mem_of_getElem? (i := 865) (by decide +kernel), List.mem_of_getElem? (i := 1043) (by decide +kernel), List.mem_of_getElem? (i := 1044) (by decide +kernel)⟩
theorem lw_p19 : lw_okq (⟨"ThroughOthersModel", "isPerson", "(I)Z"⟩, 49) := ⟨⟨by decide +kernel, by decide +kernel⟩, List.mem_of_getElem? (i := 865) (by decide +kernel), List.mem_of_getElem? (i := 1068) (by decide +kernel), List.mem_of_getElem? (i := 1069) (by decide +kernel)⟩
theorem lw_p20 : lw_okq (⟨"ThroughOthersModel", "ties", "(IIZ)I"⟩, 49) := ⟨⟨by decide +kernel, by decide +kernel⟩, List.mem_of_getElem? (i := 865) (by decide +kernel), List.mem_of_getElem? (i := 1072) (by decide +kernel), List.mem_of_getElem? (i := 1073) (by decide +kernel)⟩
theorem lw_p21 : lw_okq (⟨"ThroughOthersModel", "degree", "(I)I"⟩, 49) := ⟨⟨by decide +kernel, by decide +kernel⟩, List.mem_of_getElem? (i := 865) (by decide +kernel), List.mem_of_getElem? (i := 1091) (by decide +kernel), List.mem_of_getElem? (i := 1092) (by decide +kernel)⟩
theorem lw_p22 : lw_okq (⟨"ThroughOthersModel", "everybody", "()I"⟩, 49) := ⟨⟨by decide +kernel, by decide +kernel⟩, List.mem_of_getElem? (i := 865) (by decide +kernel), List.mem_of_getElem? (i := 1102) (by decide +kernel), List.mem_of_getElem? (i := 1103) (by decide +kernel)⟩
theorem lw_p23 : lw_okq (⟨"ThroughOthersModel", "around", "(III)I"⟩, 49) := ⟨⟨by decide +kernel, by decide +kernel⟩, List.mem_of_getElem? (i := 865) (by decide +kernel), List.mem_of_getElem? (i := 1106) (by decide +kernel), List.mem_of_getElem? (i := 1107) (by decide +kernel)⟩
theorem lw_p24 : lw_okq (⟨"ThroughOthersModel", "goesThrough", "(I)V"⟩, 49) := ⟨⟨by decide +kernel, by decide +kernel⟩, List.mem_of_getElem? (i := 865) (by decide +kernel), List.mem_of_getElem? (i := 1125) (by decide +kernel), List.mem_of_getElem? (i := 1126) (by decide +kernel)⟩
theorem lw_p25 : lw_okq (⟨"ThroughOthersModel", "stands", "(I)V"⟩, 49) := ⟨⟨by decide +kernel, by decide +kernel⟩, List.mem_of_getElem? (i := 865) (by decide +kernel), List.mem_of_getElem? (i := 1130) (by decide +kernel), List.mem_of_getElem? (i := 1131) (by decide +kernel)⟩
theorem lw_p26 : lw_okq (⟨"ThroughOthersModel", "takes", "(IJ)V"⟩, 49) := ⟨⟨by decide +kernel, by decide +kernel⟩, List.mem_of_getElem? (i := 865) (by decide +kernel), List.mem_of_getElem? (i := 1134) (by decide +kernel), List.mem_of_getElem? (i := 1135) (by decide +kernel)⟩
theorem lw_p27 : lw_okq (⟨"ThroughOthersModel", "countsBy", "(I)J"⟩, 49) := ⟨⟨by decide +kernel, by decide +kernel⟩, List.mem_of_getElem? (i := 865) (by decide +kernel), List.mem_of_getElem? (i := 1138) (by decide +kernel), List.mem_of_getElem? (i := 1139) (by decide +kernel)⟩
theorem lw_p28 : lw_okq (⟨"ThroughOthersModel", "kindOnes", "()I"⟩, 49) := ⟨⟨by decide +kernel, by decide +kernel⟩, List.mem_of_getElem? (i := 865) (by decide +kernel), List.mem_of_getElem? (i := 1143) (by decide +kernel), List.mem_of_getElem? (i := 1144) (by decide +kernel)⟩
theorem lw_p29 : lw_okq (⟨"ThroughOthersModel", "walks", "(I)J"⟩, 49) := ⟨⟨by decide +kernel, by decide +kernel⟩, List.mem_of_getElem? (i := 865) (by decide +kernel), List.mem_of_getElem? (i := 1178) (by decide +kernel), List.mem_of_getElem? (i := 1179) (by decide +kernel)⟩
theorem lw_p30 : lw_okq (⟨"ThroughOthersModel", "degrees", "()I"⟩, 49) := ⟨⟨by decide +kernel, by decide +kernel⟩, List.mem_of_getElem? (i := 865) (by decide +kernel), List.mem_of_getElem? (i := 1186) (by decide +kernel), List.mem_of_getElem? (i := 1187) (by decide +kernel)⟩
theorem lw_p31 : lw_okq (⟨"ThroughOthersModel", "isRecord", "(I)Z"⟩, 49) := ⟨⟨by decide +kernel, by decide +kernel⟩, List.mem_of_getElem? (i := 865) (by decide +kernel), List.mem_of_getElem? (i := 1198) (by decide +kernel), List.mem_of_getElem? (i := 1199) (by decide +kernel)⟩
def lw_privs_2 : List (MethodName × Nat) := [(⟨"ThroughOthers", "digestOfRecords", "(J)J"⟩, 10), (⟨"ThroughOthersModel", "met", "(I)I"⟩, 49), (⟨"ThroughOthersModel", "lacks", "(III)I"⟩, 49), (⟨"ThroughOthersModel", "isPerson", "(I)Z"⟩, 49), (⟨"ThroughOthersModel", "ties", "(IIZ)I"⟩, 49), (⟨"ThroughOthersModel", "degree", "(I)I"⟩, 49), (⟨"ThroughOthersModel", "everybody", "()I"⟩, 49), (⟨"ThroughOthersModel", "around", "(III)I"⟩, 49), (⟨"ThroughOthersModel", "goesThrough", "(I)V"⟩, 49), (⟨"ThroughOthersModel", "stands", "(I)V"⟩, 49), (⟨"ThroughOthersModel", "takes", "(IJ)V"⟩, 49), (⟨"ThroughOthersModel", "countsBy", "(I)J"⟩, 49), (⟨"ThroughOthersModel", "kindOnes", "()I"⟩, 49), (⟨"ThroughOthersModel", "walks", "(I)J"⟩, 49), (⟨"ThroughOthersModel", "degrees", "()I"⟩, 49), (⟨"ThroughOthersModel", "isRecord", "(I)Z"⟩, 49)]
theorem lw_r2 : ∀ q ∈ lw_privs_2, lw_okq q := List.forall_mem_cons.mpr ⟨lw_p16, List.forall_mem_cons.mpr ⟨lw_p17, List.forall_mem_cons.mpr ⟨lw_p18, List.forall_mem_cons.mpr ⟨lw_p19, List.forall_mem_cons.mpr ⟨lw_p20, List.forall_mem_cons.mpr ⟨lw_p21, List.forall_mem_cons.mpr ⟨lw_p22, List.forall_mem_cons.mpr ⟨lw_p23, List.forall_mem_cons.mpr ⟨lw_p24, List.forall_mem_cons.mpr ⟨lw_p25, List.forall_mem_cons.mpr ⟨lw_p26, List.forall_mem_cons.mpr ⟨lw_p27, List.forall_mem_cons.mpr ⟨lw_p28, List.forall_mem_cons.mpr ⟨lw_p29, List.forall_mem_cons.mpr ⟨lw_p30, List.forall_mem_cons.mpr ⟨lw_p31, fun _ h => absurd h List.not_mem_nil⟩⟩⟩⟩⟩⟩⟩⟩⟩⟩⟩⟩⟩⟩⟩⟩
theorem lw_p32 : lw_okq (⟨"ThroughOthersModel", "findCounts", "()V"⟩, 49) := ⟨⟨by decide +kernel, by decide +kernel⟩, List.mem_of_getElem? (i := 865) (by decide +kernel), List.mem_of_getElem? (i := 1211) (by decide +kernel), List.mem_of_getElem? (i := 1212) (by decide +kernel)⟩
theorem lw_p33 : lw_okq (⟨"ThroughOthersModel", "recordOf", "(II)I"⟩, 49) := ⟨⟨by decide +kernel, by decide +kernel⟩, List.mem_of_getElem? (i := 865) (by decide +kernel), List.mem_of_getElem? (i := 1215) (by decide +kernel), List.mem_of_getElem? (i := 1216) (by decide +kernel)⟩
theorem lw_p34 : lw_okq (⟨"ThroughOthersModel", "shareOf", "(II)J"⟩, 49) := ⟨⟨by decide +kernel, by decide +kernel⟩, List.mem_of_getElem? (i := 865) (by decide +kernel), List.mem_of_getElem? (i := 1223) (by decide +kernel), List.mem_of_getElem? (i := 1224) (by decide +kernel)⟩
theorem lw_p35 : lw_okq (⟨"ThroughOthersModel", "plainly", "()V"⟩, 49) := ⟨⟨by decide +kernel, by decide +kernel⟩, List.mem_of_getElem? (i := 865) (by decide +kernel), List.mem_of_getElem? (i := 1227) (by decide +kernel), List.mem_of_getElem? (i := 1228) (by decide +kernel)⟩
theorem lw_p36 : lw_okq (⟨"ThroughOthersModel", "isTaken", "(I)Z"⟩, 49) := ⟨⟨by decide +kernel, by decide +kernel⟩, List.mem_of_getElem? (i := 865) (by decide +kernel), List.mem_of_getElem? (i := 1231) (by decide +kernel), List.mem_of_getElem? (i := 1232) (by decide +kernel)⟩
theorem lw_p37 : lw_okq (⟨"ThroughOthersModel", "byTies", "(II)V"⟩, 49) := ⟨⟨by decide +kernel, by decide +kernel⟩, List.mem_of_getElem? (i := 865) (by decide +kernel), List.mem_of_getElem? (i := 1235) (by decide +kernel), List.mem_of_getElem? (i := 1236) (by decide +kernel)⟩
theorem lw_p38 : lw_okq (⟨"ThroughOthersModel", "byBringing", "()V"⟩, 49) := ⟨⟨by decide +kernel, by decide +kernel⟩, List.mem_of_getElem? (i := 865) (by decide +kernel), List.mem_of_getElem? (i := 1240) (by decide +kernel), List.mem_of_getElem? (i := 1241) (by decide +kernel)⟩
theorem lw_p39 : lw_okq (⟨"ThroughOthersModel", "findBrought", "()V"⟩, 49) := ⟨⟨by decide +kernel, by decide +kernel⟩, List.mem_of_getElem? (i := 865) (by decide +kernel), List.mem_of_getElem? (i := 1244) (by decide +kernel), List.mem_of_getElem? (i := 1245) (by decide +kernel)⟩
theorem lw_p40 : lw_okq (⟨"ThroughOthersModel", "trees", "()I"⟩, 49) := ⟨⟨by decide +kernel, by decide +kernel⟩, List.mem_of_getElem? (i := 865) (by decide +kernel), List.mem_of_getElem? (i := 1256) (by decide +kernel), List.mem_of_getElem? (i := 1257) (by decide +kernel)⟩
theorem lw_p41 : lw_okq (⟨"ThroughOthersModel", "alikeOf", "(I)I"⟩, 49) := ⟨⟨by decide +kernel, by decide +kernel⟩, List.mem_of_getElem? (i := 865) (by decide +kernel), List.mem_of_getElem? (i := 1267) (by decide +kernel), List.mem_of_getElem? (i := 1268) (by decide +kernel)⟩
theorem lw_p42 : lw_okq (⟨"ThroughOthersModel", "findWho", "()V"⟩, 49) := ⟨⟨by decide +kernel, by decide +kernel⟩, List.mem_of_getElem? (i := 865) (by decide +kernel), List.mem_of_getElem? (i := 1271) (by decide +kernel), List.mem_of_getElem? (i := 1272) (by decide +kernel)⟩
theorem lw_p43 : lw_okq (⟨"ThroughOthersModel", "kindBits", "()I"⟩, 49) := ⟨⟨by decide +kernel, by decide +kernel⟩, List.mem_of_getElem? (i := 865) (by decide +kernel), List.mem_of_getElem? (i := 1275) (by decide +kernel), List.mem_of_getElem? (i := 1276) (by decide +kernel)⟩
theorem lw_p44 : lw_okq (⟨"ThroughOthersModel", "likes", "(I)I"⟩, 49) := ⟨⟨by decide +kernel, by decide +kernel⟩, List.mem_of_getElem? (i := 865) (by decide +kernel), List.mem_of_getElem? (i := 1279) (by decide +kernel), List.mem_of_getElem? (i := 1280) (by decide +kernel)⟩
theorem lw_p45 : lw_okq (⟨"ThroughOthersModel", "clashes", "(II)Z"⟩, 49) := ⟨⟨by decide +kernel, by decide +kernel⟩, List.mem_of_getElem? (i := 865) (by decide +kernel), List.mem_of_getElem? (i := 1312) (by decide +kernel), List.mem_of_getElem? (i := 1313) (by decide +kernel)⟩
theorem lw_p46 : lw_okq (⟨"ThroughOthersModel", "leastNow", "()I"⟩, 49) := ⟨⟨by decide +kernel, by decide +kernel⟩, List.mem_of_getElem? (i := 865) (by decide +kernel), List.mem_of_getElem? (i := 1320) (by decide +kernel), List.mem_of_getElem? (i := 1321) (by decide +kernel)⟩
theorem lw_p47 : lw_okq (⟨"ThroughOthersModel", "isEnough", "(I)Z"⟩, 49) := ⟨⟨by decide +kernel, by decide +kernel⟩, List.mem_of_getElem? (i := 865) (by decide +kernel), List.mem_of_getElem? (i := 1324) (by decide +kernel), List.mem_of_getElem? (i := 1325) (by decide +kernel)⟩
def lw_privs_3 : List (MethodName × Nat) := [(⟨"ThroughOthersModel", "findCounts", "()V"⟩, 49), (⟨"ThroughOthersModel", "recordOf", "(II)I"⟩, 49), (⟨"ThroughOthersModel", "shareOf", "(II)J"⟩, 49), (⟨"ThroughOthersModel", "plainly", "()V"⟩, 49), (⟨"ThroughOthersModel", "isTaken", "(I)Z"⟩, 49), (⟨"ThroughOthersModel", "byTies", "(II)V"⟩, 49), (⟨"ThroughOthersModel", "byBringing", "()V"⟩, 49), (⟨"ThroughOthersModel", "findBrought", "()V"⟩, 49), (⟨"ThroughOthersModel", "trees", "()I"⟩, 49), (⟨"ThroughOthersModel", "alikeOf", "(I)I"⟩, 49), (⟨"ThroughOthersModel", "findWho", "()V"⟩, 49), (⟨"ThroughOthersModel", "kindBits", "()I"⟩, 49), (⟨"ThroughOthersModel", "likes", "(I)I"⟩, 49), (⟨"ThroughOthersModel", "clashes", "(II)Z"⟩, 49), (⟨"ThroughOthersModel", "leastNow", "()I"⟩, 49), (⟨"ThroughOthersModel", "isEnough", "(I)Z"⟩, 49)]
theorem lw_r3 : ∀ q ∈ lw_privs_3, lw_okq q := List.forall_mem_cons.mpr ⟨lw_p32, List.forall_mem_cons.mpr ⟨lw_p33, List.forall_mem_cons.mpr ⟨lw_p34, List.forall_mem_cons.mpr ⟨lw_p35, List.forall_mem_cons.mpr ⟨lw_p36, List.forall_mem_cons.mpr ⟨lw_p37, List.forall_mem_cons.mpr ⟨lw_p38, List.forall_mem_cons.mpr ⟨lw_p39, List.forall_mem_cons.mpr ⟨lw_p40, List.forall_mem_cons.mpr ⟨lw_p41, List.forall_mem_cons.mpr ⟨lw_p42, List.forall_mem_cons.mpr ⟨lw_p43, List.forall_mem_cons.mpr ⟨lw_p44, List.forall_mem_cons.mpr ⟨lw_p45, List.forall_mem_cons.mpr ⟨lw_p46, List.forall_mem_cons.mpr ⟨lw_p47, fun _ h => absurd h List.not_mem_nil⟩⟩⟩⟩⟩⟩⟩⟩⟩⟩⟩⟩⟩⟩⟩⟩
theorem lw_p48 : lw_okq (⟨"ThroughOthersModel", "canBe", "(II)Z"⟩, 49) := ⟨⟨by decide +kernel, by decide +kernel⟩, List.mem_of_getElem? (i := 865) (by decide +kernel), List.mem_of_getElem? (i := 1328) (by decide +kernel), List.mem_of_getElem? (i := 1329) (by decide +kernel)⟩
theorem lw_p49 : lw_okq (⟨"ThroughOthersModel", "partsNow", "(I)I"⟩, 49) := ⟨⟨by decide +kernel, by decide +kernel⟩, List.mem_of_getElem? (i := 865) (by decide +kernel), List.mem_of_getElem? (i := 1345) (by decide +kernel), List.mem_of_getElem? (i := 1346) (by decide +kernel)⟩
theorem lw_p50 : lw_okq (⟨"ThroughOthersModel", "partsOf", "(I)I"⟩, 49) := ⟨⟨by decide +kernel, by decide +kernel⟩, List.mem_of_getElem? (i := 865) (by decide +kernel), List.mem_of_getElem? (i := 1349) (by decide +kernel), List.mem_of_getElem? (i := 1350) (by decide +kernel)⟩
theorem lw_p51 : lw_okq (⟨"ThroughOthersModel", "narrowOf", "(I)J"⟩, 49) := ⟨⟨by decide +kernel, by decide +kernel⟩, List.mem_of_getElem? (i := 865) (by decide +kernel), List.mem_of_getElem? (i := 1357) (by decide +kernel), List.mem_of_getElem? (i := 1358) (by decide +kernel)⟩
def lw_privs_4 : List (MethodName × Nat) := [(⟨"ThroughOthersModel", "canBe", "(II)Z"⟩, 49), (⟨"ThroughOthersModel", "partsNow", "(I)I"⟩, 49), (⟨"ThroughOthersModel", "partsOf", "(I)I"⟩, 49), (⟨"ThroughOthersModel", "narrowOf", "(I)J"⟩, 49)]
theorem lw_r4 : ∀ q ∈ lw_privs_4, lw_okq q := List.forall_mem_cons.mpr ⟨lw_p48, List.forall_mem_cons.mpr ⟨lw_p49, List.forall_mem_cons.mpr ⟨lw_p50, List.forall_mem_cons.mpr ⟨lw_p51, fun _ h => absurd h List.not_mem_nil⟩⟩⟩⟩
def lw_privs : List (MethodName × Nat) := lw_privs_1 ++ (lw_privs_2 ++ (lw_privs_3 ++ (lw_privs_4)))
def lw_tbl : List Cond := k2_sels lw_privs ++ tables_1
theorem lw_privs_ok : ∀ q ∈ lw_privs, lw_okq q := by
  show ∀ q ∈ lw_privs_1 ++ (lw_privs_2 ++ (lw_privs_3 ++ (lw_privs_4))), lw_okq q
  exact List.forall_mem_append.mpr ⟨lw_r1, List.forall_mem_append.mpr ⟨lw_r2, List.forall_mem_append.mpr ⟨lw_r3, lw_r4⟩⟩⟩
end
section
theorem xm_inp {big : List Cond} (ws : List Cond) (ps : List Nat) (hp : ws = ps.filterMap (fun i => big[i]?)) : ∀ w ∈ ws, w ∈ big := by
  intro w hw
  rw [hp] at hw
  obtain ⟨i, -, hi⟩ := List.mem_filterMap.mp hw
  exact List.mem_of_getElem? hi
/-! names of the classes, of the cells, constants -/
def R_0 : String := "ThroughOthers$Chains"
def T_0 : u_T := fun k => match k with
  | 0 => ("ThroughOthers$Chains", "net", "LThroughOthers$Net;", true)
  | 1 => ("ThroughOthers$Chains", "going", "[J", true)
  | 2 => ("ThroughOthers$Chains", "ended", "[J", true)
  | 3 => ("ThroughOthers$Chains", "followedChanges", "I", false)
  | 4 => ("ThroughOthers$Chains", "followedStart", "I", false)
  | 5 => ("ThroughOthers$Chains", "followedLength", "I", false)
  | _ => ("ThroughOthers$Chains", "whole", "J", false)
def ty_0 : Nat → FieldType := fun k => match k with
  | 0 => .object "ThroughOthers$Net"
  | 1 => .array .long
  | 2 => .array .long
  | 3 => .int
  | 4 => .int
  | 5 => .int
  | _ => .long
theorem nm_0 : ∀ a, a < 7 → ∀ b, b < 7 → a ≠ b → (T_0 a).2.1 ≠ (T_0 b).2.1 := by decide +kernel
theorem ty_0_ok : ∀ k, k < 7 → parseFieldDescriptor (T_0 k).2.2.1 = some (ty_0 k) := by decide +kernel
theorem in_0 : ∀ w ∈ u_ws R_0 T_0 7, w ∈ lw_tbl := xm_inp _ [116, 118, 120, 122, 124, 126, 128] (by decide +kernel)
def R_1 : String := "ThroughOthers$Deals"
def T_1 : u_T := fun k => match k with
  | 0 => ("ThroughOthers$Deals", "records", "LThroughOthers$Records;", true)
  | 1 => ("ThroughOthers$Deals", "order", "[I", true)
  | 2 => ("ThroughOthers$Deals", "bringerOrder", "[I", true)
  | _ => ("ThroughOthers$Deals", "number", "I", false)
def ty_1 : Nat → FieldType := fun k => match k with
  | 0 => .object "ThroughOthers$Records"
  | 1 => .array .int
  | 2 => .array .int
  | _ => .int
theorem nm_1 : ∀ a, a < 4 → ∀ b, b < 4 → a ≠ b → (T_1 a).2.1 ≠ (T_1 b).2.1 := by decide +kernel
theorem ty_1_ok : ∀ k, k < 4 → parseFieldDescriptor (T_1 k).2.2.1 = some (ty_1 k) := by decide +kernel
theorem in_1 : ∀ w ∈ u_ws R_1 T_1 4, w ∈ lw_tbl := xm_inp _ [241, 243, 245, 247] (by decide +kernel)
def R_2 : String := "ThroughOthers$Marks"
def T_2 : u_T := fun k => match k with
  | 0 => ("ThroughOthers$Marks", "records", "LThroughOthers$Records;", true)
  | 1 => ("ThroughOthers$Marks", "signs", "[I", true)
  | 2 => ("ThroughOthers$Marks", "lengths", "[I", true)
  | 3 => ("ThroughOthers$Marks", "dealt", "[I", true)
  | 4 => ("ThroughOthers$Marks", "clashing", "[I", true)
  | 5 => ("ThroughOthers$Marks", "person", "[I", true)
  | 6 => ("ThroughOthers$Marks", "members", "[I", true)
  | _ => ("ThroughOthers$Marks", "number", "I", false)
def ty_2 : Nat → FieldType := fun k => match k with
  | 0 => .object "ThroughOthers$Records"
  | 1 => .array .int
  | 2 => .array .int
  | 3 => .array .int
  | 4 => .array .int
  | 5 => .array .int
  | 6 => .array .int
  | _ => .int
theorem nm_2 : ∀ a, a < 8 → ∀ b, b < 8 → a ≠ b → (T_2 a).2.1 ≠ (T_2 b).2.1 := by decide +kernel
theorem ty_2_ok : ∀ k, k < 8 → parseFieldDescriptor (T_2 k).2.2.1 = some (ty_2 k) := by decide +kernel
theorem in_2 : ∀ w ∈ u_ws R_2 T_2 8, w ∈ lw_tbl := xm_inp _ [265, 267, 269, 271, 273, 275, 277, 279] (by decide +kernel)
def R_3 : String := "ThroughOthers$Net"
def T_3 : u_T := fun k => match k with
  | 0 => ("ThroughOthers$Net", "ties", "[I", true)
  | 1 => ("ThroughOthers$Net", "size", "I", false)
  | 2 => ("ThroughOthers$Net", "kindBits", "I", false)
  | _ => ("ThroughOthers$Net", "changes", "I", false)
def ty_3 : Nat → FieldType := fun k => match k with
  | 0 => .array .int
  | 1 => .int
  | 2 => .int
  | _ => .int
theorem nm_3 : ∀ a, a < 4 → ∀ b, b < 4 → a ≠ b → (T_3 a).2.1 ≠ (T_3 b).2.1 := by decide +kernel
theorem ty_3_ok : ∀ k, k < 4 → parseFieldDescriptor (T_3 k).2.2.1 = some (ty_3 k) := by decide +kernel
theorem in_3 : ∀ w ∈ u_ws R_3 T_3 4, w ∈ lw_tbl := xm_inp _ [92, 94, 96, 98] (by decide +kernel)
def R_4 : String := "ThroughOthers$Records"
def T_4 : u_T := fun k => match k with
  | 0 => ("ThroughOthers$Records", "bringer", "[I", true)
  | 1 => ("ThroughOthers$Records", "kind", "[I", true)
  | 2 => ("ThroughOthers$Records", "knows", "[I", true)
  | 3 => ("ThroughOthers$Records", "day", "[I", true)
  | 4 => ("ThroughOthers$Records", "back", "[I", true)
  | 5 => ("ThroughOthers$Records", "wave", "[I", true)
  | 6 => ("ThroughOthers$Records", "tree", "[I", true)
  | 7 => ("ThroughOthers$Records", "brought", "[I", true)
  | 8 => ("ThroughOthers$Records", "counts", "[Z", true)
  | 9 => ("ThroughOthers$Records", "count", "I", false)
  | 10 => ("ThroughOthers$Records", "latestDay", "I", false)
  | 11 => ("ThroughOthers$Records", "asOf", "I", false)
  | _ => ("ThroughOthers$Records", "from", "I", false)
def ty_4 : Nat → FieldType := fun k => match k with
  | 0 => .array .int
  | 1 => .array .int
  | 2 => .array .int
  | 3 => .array .int
  | 4 => .array .int
  | 5 => .array .int
  | 6 => .array .int
  | 7 => .array .int
  | 8 => .array .boolean
  | 9 => .int
  | 10 => .int
  | 11 => .int
  | _ => .int
theorem nm_4 : ∀ a, a < 13 → ∀ b, b < 13 → a ≠ b → (T_4 a).2.1 ≠ (T_4 b).2.1 := by decide +kernel
theorem ty_4_ok : ∀ k, k < 13 → parseFieldDescriptor (T_4 k).2.2.1 = some (ty_4 k) := by decide +kernel
theorem in_4 : ∀ w ∈ u_ws R_4 T_4 13, w ∈ lw_tbl := xm_inp _ [190, 192, 194, 196, 198, 200, 202, 204, 206, 208, 210, 212, 214] (by decide +kernel)
def R_5 : String := "ThroughOthers$Shares"
def T_5 : u_T := fun k => match k with
  | 0 => ("ThroughOthers$Shares", "records", "LThroughOthers$Records;", true)
  | _ => ("ThroughOthers$Shares", "pairs", "[I", true)
def ty_5 : Nat → FieldType := fun k => match k with
  | 0 => .object "ThroughOthers$Records"
  | _ => .array .int
theorem nm_5 : ∀ a, a < 2 → ∀ b, b < 2 → a ≠ b → (T_5 a).2.1 ≠ (T_5 b).2.1 := by decide +kernel
theorem ty_5_ok : ∀ k, k < 2 → parseFieldDescriptor (T_5 k).2.2.1 = some (ty_5 k) := by decide +kernel
theorem in_5 : ∀ w ∈ u_ws R_5 T_5 2, w ∈ lw_tbl := xm_inp _ [226, 228] (by decide +kernel)
def R_6 : String := "ThroughOthers$Sheets"
def T_6 : u_T := fun k => match k with
  | 0 => ("ThroughOthers$Sheets", "forms", "[I", true)
  | 1 => ("ThroughOthers$Sheets", "sizes", "[I", true)
  | 2 => ("ThroughOthers$Sheets", "items", "[[I", true)
  | _ => ("ThroughOthers$Sheets", "latest", "I", false)
def ty_6 : Nat → FieldType := fun k => match k with
  | 0 => .array .int
  | 1 => .array .int
  | 2 => .array (.array .int)
  | _ => .int
theorem nm_6 : ∀ a, a < 4 → ∀ b, b < 4 → a ≠ b → (T_6 a).2.1 ≠ (T_6 b).2.1 := by decide +kernel
theorem ty_6_ok : ∀ k, k < 4 → parseFieldDescriptor (T_6 k).2.2.1 = some (ty_6 k) := by decide +kernel
theorem in_6 : ∀ w ∈ u_ws R_6 T_6 4, w ∈ lw_tbl := xm_inp _ [301, 303, 305, 307] (by decide +kernel)
def R_7 : String := "ThroughOthers$Walk"
def T_7 : u_T := fun k => match k with
  | 0 => ("ThroughOthers$Walk", "net", "LThroughOthers$Net;", true)
  | 1 => ("ThroughOthers$Walk", "next", "[J", true)
  | 2 => ("ThroughOthers$Walk", "now", "[J", true)
  | _ => ("ThroughOthers$Walk", "whole", "J", false)
def ty_7 : Nat → FieldType := fun k => match k with
  | 0 => .object "ThroughOthers$Net"
  | 1 => .array .long
  | 2 => .array .long
  | _ => .long
theorem nm_7 : ∀ a, a < 4 → ∀ b, b < 4 → a ≠ b → (T_7 a).2.1 ≠ (T_7 b).2.1 := by decide +kernel
theorem ty_7_ok : ∀ k, k < 4 → parseFieldDescriptor (T_7 k).2.2.1 = some (ty_7 k) := by decide +kernel
theorem in_7 : ∀ w ∈ u_ws R_7 T_7 4, w ∈ lw_tbl := xm_inp _ [144, 146, 148, 150] (by decide +kernel)
def R_8 : String := "ThroughOthers"
def T_8 : u_T := fun k => match k with
  | 0 => ("ThroughOthers", "net", "LThroughOthers$Net;", true)
  | 1 => ("ThroughOthers", "chains", "LThroughOthers$Chains;", true)
  | 2 => ("ThroughOthers", "walk", "LThroughOthers$Walk;", true)
  | 3 => ("ThroughOthers", "records", "LThroughOthers$Records;", true)
  | 4 => ("ThroughOthers", "shares", "LThroughOthers$Shares;", true)
  | 5 => ("ThroughOthers", "deals", "LThroughOthers$Deals;", true)
  | 6 => ("ThroughOthers", "marks", "LThroughOthers$Marks;", true)
  | 7 => ("ThroughOthers", "sheets", "LThroughOthers$Sheets;", true)
  | 8 => ("ThroughOthers", "start", "I", false)
  | _ => ("ThroughOthers", "length", "I", false)
def ty_8 : Nat → FieldType := fun k => match k with
  | 0 => .object "ThroughOthers$Net"
  | 1 => .object "ThroughOthers$Chains"
  | 2 => .object "ThroughOthers$Walk"
  | 3 => .object "ThroughOthers$Records"
  | 4 => .object "ThroughOthers$Shares"
  | 5 => .object "ThroughOthers$Deals"
  | 6 => .object "ThroughOthers$Marks"
  | 7 => .object "ThroughOthers$Sheets"
  | 8 => .int
  | _ => .int
theorem nm_8 : ∀ a, a < 10 → ∀ b, b < 10 → a ≠ b → (T_8 a).2.1 ≠ (T_8 b).2.1 := by decide +kernel
theorem ty_8_ok : ∀ k, k < 10 → parseFieldDescriptor (T_8 k).2.2.1 = some (ty_8 k) := by decide +kernel
theorem in_8 : ∀ w ∈ u_ws R_8 T_8 10, w ∈ lw_tbl := xm_inp _ [320, 322, 324, 326, 328, 330, 332, 334, 336, 338] (by decide +kernel)
def R_9 : String := "ThroughOthersModel"
def T_9 : u_T := fun k => match k with
  | 0 => ("ThroughOthersModel", "forms", "[I", true)
  | 1 => ("ThroughOthersModel", "sizes", "[I", true)
  | 2 => ("ThroughOthersModel", "items", "[I", true)
  | 3 => ("ThroughOthersModel", "moved", "[I", true)
  | 4 => ("ThroughOthersModel", "latest", "I", false)
  | 5 => ("ThroughOthersModel", "persons", "I", false)
  | 6 => ("ThroughOthersModel", "tied", "[I", true)
  | 7 => ("ThroughOthersModel", "kinds", "[I", true)
  | 8 => ("ThroughOthersModel", "start", "I", false)
  | 9 => ("ThroughOthersModel", "length", "I", false)
  | 10 => ("ThroughOthersModel", "asOf", "I", false)
  | 11 => ("ThroughOthersModel", "from", "I", false)
  | 12 => ("ThroughOthersModel", "path", "[I", true)
  | 13 => ("ThroughOthersModel", "options", "[I", true)
  | 14 => ("ThroughOthersModel", "weights", "[J", true)
  | 15 => ("ThroughOthersModel", "shares", "[J", true)
  | 16 => ("ThroughOthersModel", "used", "I", false)
  | 17 => ("ThroughOthersModel", "whole", "J", false)
  | 18 => ("ThroughOthersModel", "foundSum", "[J", true)
  | 19 => ("ThroughOthersModel", "bothSum", "[J", true)
  | 20 => ("ThroughOthersModel", "sizeSum", "[J", true)
  | 21 => ("ThroughOthersModel", "kindSum", "[J", true)
  | 22 => ("ThroughOthersModel", "withinSum", "J", false)
  | 23 => ("ThroughOthersModel", "within", "I", false)
  | 24 => ("ThroughOthersModel", "ats", "[J", true)
  | 25 => ("ThroughOthersModel", "nexts", "[J", true)
  | 26 => ("ThroughOthersModel", "records", "I", false)
  | 27 => ("ThroughOthersModel", "bringer", "[I", true)
  | 28 => ("ThroughOthersModel", "kindOf", "[I", true)
  | 29 => ("ThroughOthersModel", "knows", "[I", true)
  | 30 => ("ThroughOthersModel", "day", "[I", true)
  | 31 => ("ThroughOthersModel", "back", "[I", true)
  | 32 => ("ThroughOthersModel", "brought", "[I", true)
  | 33 => ("ThroughOthersModel", "waveOf", "[I", true)
  | 34 => ("ThroughOthersModel", "treeOf", "[I", true)
  | 35 => ("ThroughOthersModel", "lastDay", "I", false)
  | 36 => ("ThroughOthersModel", "counts", "[Z", true)
  | 37 => ("ThroughOthersModel", "above", "J", false)
  | 38 => ("ThroughOthersModel", "below", "J", false)
  | 39 => ("ThroughOthersModel", "byNone", "I", false)
  | 40 => ("ThroughOthersModel", "byOne", "I", false)
  | 41 => ("ThroughOthersModel", "noneOne", "I", false)
  | 42 => ("ThroughOthersModel", "oneNone", "I", false)
  | 43 => ("ThroughOthersModel", "who", "[I", true)
  | 44 => ("ThroughOthersModel", "place", "[I", true)
  | 45 => ("ThroughOthersModel", "many", "I", false)
  | 46 => ("ThroughOthersModel", "marks", "[I", true)
  | 47 => ("ThroughOthersModel", "signs", "[I", true)
  | _ => ("ThroughOthersModel", "numbers", "[I", true)
def ty_9 : Nat → FieldType := fun k => match k with
  | 0 => .array .int
  | 1 => .array .int
  | 2 => .array .int
  | 3 => .array .int
  | 4 => .int
  | 5 => .int
  | 6 => .array .int
  | 7 => .array .int
  | 8 => .int
  | 9 => .int
  | 10 => .int
  | 11 => .int
  | 12 => .array .int
  | 13 => .array .int
  | 14 => .array .long
  | 15 => .array .long
  | 16 => .int
  | 17 => .long
  | 18 => .array .long
  | 19 => .array .long
  | 20 => .array .long
  | 21 => .array .long
  | 22 => .long
  | 23 => .int
  | 24 => .array .long
  | 25 => .array .long
  | 26 => .int
  | 27 => .array .int
  | 28 => .array .int
  | 29 => .array .int
  | 30 => .array .int
  | 31 => .array .int
  | 32 => .array .int
  | 33 => .array .int
  | 34 => .array .int
  | 35 => .int
  | 36 => .array .boolean
  | 37 => .long
  | 38 => .long
  | 39 => .int
  | 40 => .int
  | 41 => .int
  | 42 => .int
  | 43 => .array .int
  | 44 => .array .int
  | 45 => .int
  | 46 => .array .int
  | 47 => .array .int
  | _ => .array .int
theorem nm_9 : ∀ a, a < 49 → ∀ b, b < 49 → a ≠ b → (T_9 a).2.1 ≠ (T_9 b).2.1 := by decide +kernel
theorem ty_9_ok : ∀ k, k < 49 → parseFieldDescriptor (T_9 k).2.2.1 = some (ty_9 k) := by decide +kernel
theorem in_9 : ∀ w ∈ u_ws R_9 T_9 49, w ∈ lw_tbl := xm_inp _ [971, 973, 975, 977, 979, 981, 983, 985, 987, 989, 991, 993, 995, 997, 999, 1001, 1003, 1005, 1007, 1009, 1011, 1013, 1015, 1017, 1019, 1021, 1023, 1025, 1027, 1029, 1031, 1033, 1035, 1037, 1039, 1041, 1043, 1045, 1047, 1049, 1051, 1053, 1055, 1057, 1059, 1061, 1063, 1065, 1067] (by decide +kernel)
abbrev xm_cl : List vw_C := [(R_0, T_0, 7), (R_1, T_1, 4), (R_2, T_2, 8), (R_3, T_3, 4), (R_4, T_4, 13), (R_5, T_5, 2), (R_6, T_6, 4), (R_7, T_7, 4), (R_8, T_8, 10), (R_9, T_9, 49)]
abbrev Sg : Type := (Nat → Nat → Int32) × (Nat → Nat → Int64)
abbrev RV : Type := Option Value × Sg
abbrev Ety : Type := Nat × Instr × List Nat × Nat
abbrev Sh : Type := (Nat × Nat × Nat) ⊕ (Nat × List Nat)
def xm_sh : List Sh := [.inr (8, [3, 5, 8, 11, 21, 23, 26, 33, 0, 0]), .inr (3, [4, 0, 0, 0]), .inl (0, 9, 0), .inr (0, [3, 6, 7, 0, 0, 0, 1]), .inl (1, 4608, 0), .inl (1, 512, 0), .inr (7, [3, 9, 10, 1]), .inl (1, 9, 0), .inl (1, 9, 0), .inr (4, [12, 13, 14, 15, 16, 17, 18, 19, 20, 0, 0, 0, 0]), .inl (0, 24, 0), .inl (0, 24, 0), .inl (0, 24, 0), .inl (0, 24, 0), .inl (0, 24, 0), .inl (0, 24, 0), .inl (0, 24, 0), .inl (0, 24, 0), .inl (2, 24, 0), .inr (5, [11, 22]), .inl (0, 4, 0), .inr (1, [11, 24, 25, 0]), .inl (0, 24, 0), .inl (0, 14, 0), .inr (2, [11, 27, 28, 29, 30, 31, 32, 0]), .inl (0, 192, 0), .inl (0, 24, 0), .inl (0, 12, 0), .inl (0, 12, 0), .inl (0, 12, 0), .inl (0, 12, 0), .inr (6, [34, 35, 36, 0]), .inl (0, 4, 0), .inl (0, 4, 0), .inl (3, 4, 35), .inl (0, 60, 0), .inl (0, 60, 0), .inl (0, 60, 0), .inl (0, 60, 0), .inr (9, [42, 43, 44, 45, 0, 0, 46, 47, 0, 0, 0, 0, 48, 49, 50, 51, 0, 1, 52, 53, 54, 55, 1, 0, 56, 57, 0, 58, 59, 60, 61, 62, 63, 64, 65, 0, 66, 1, 1, 0, 0, 0, 0, 67, 68, 0, 69, 70, 71]), .inl (0, 4, 0), .inl (0, 4, 0), .inl (0, 240, 0), .inl (0, 60, 0), .inl (0, 9, 0), .inl (0, 9, 0), .inl (0, 7, 0), .inl (0, 7, 0), .inl (1, 7, 0), .inl (1, 7, 0), .inl (1, 9, 0), .inl (1, 81, 0), .inl (1, 8, 0), .inl (1, 8, 0), .inl (1, 9, 0), .inl (1, 9, 0), .inl (0, 24, 0), .inl (0, 24, 0), .inl (0, 24, 0), .inl (0, 24, 0), .inl (0, 24, 0), .inl (0, 24, 0), .inl (0, 24, 0), .inl (0, 24, 0), .inl (2, 24, 0), .inl (0, 24, 0), .inl (0, 24, 0), .inl (0, 192, 0), .inl (0, 24, 0), .inl (0, 12, 0)]
def xm_kI : List Int32 := [0, 1, (-1), 2, 3, 4, 9, (-2), (-10), 1431655765, 858993459, 252645135, 8, 16, 63, (-5), 7, 99, (-3), 200, 100, 840, 5, 20, 24, (-4), 14, 16384, 1000000, 2147483647, 32, 65536, 256, 6, 23, 255, 97, 122, 12, 60, (-2147483648), 10, 81]
def xm_kL : List Int64 := [0, 1, (-9223372036854775808), 91445760000, 100, 418211942400000, 2, 232792560, 26771144400, 1000000, (-1), 17, 31, 3, 9, 7, 99, 351298031616000000, 840, 5, 20, 6, 23, 255, 97, 122, 8]
def xm_sw : List (Nat × List (Int32 × Nat)) := [(78, [(0, 32), (1, 54), (2, 62), (3, 70)]), (46, [(0, 28), (1, 33), (2, 38)]), (101, [(0, 44), (1, 51), (2, 58), (3, 65), (4, 72), (5, 87), (6, 94)]), (140, [(0, 56), (1, 64), (2, 81), (3, 89), (4, 97), (5, 105), (6, 114), (7, 119), (8, 124), (9, 132)]), (162, [(0, 56), (1, 61), (2, 68), (3, 97), (4, 102), (5, 111), (6, 120), (7, 125), (8, 130), (9, 135)])]
end
section
/-! THE SMALL MACHINE: this claim's methods over a store whose cells are numbered; no cell is made -/
def xm_at {α : Type} : List α → Nat → Option α
  | [], _ => none
  | a :: _, 0 => some a
  | _ :: l, n + 1 => xm_at l n
def xm_nth : List Value → Nat → Value
  | [], _ => .null
  | a :: _, 0 => a
  | _ :: l, n + 1 => xm_nth l n
def xm_hd (a : Value) : Value := match a with
  | .long _ => .null
  | .double _ => .null
  | _ => a
def xm_kh (a : Value) : Nat → Value
  | 0 => xm_hd a
  | _ + 1 => a
def xm_st1 : List Value → Nat → Value → List Value
  | [], _, _ => []
  | _ :: l, 0, v => v :: l
  | a :: l, n + 1, v => xm_kh a n :: xm_st1 l n v
def xm_nl : List Value → List Value
  | [] => []
  | _ :: l => .null :: l
def xm_st2 : List Value → Nat → Value → List Value
  | [], _, _ => []
  | _ :: l, 0, v => v :: xm_nl l
  | a :: l, n + 1, v => xm_kh a n :: xm_st2 l n v
/-- the store with one place changed -/
def xm_sI (σ : Sg) (k j : Nat) (x : Int32) : Sg := (fun a => if a = k then upd (σ.1 k) j x else σ.1 a, σ.2)
def xm_sL (σ : Sg) (k j : Nat) (x : Int64) : Sg := (σ.1, fun a => if a = k then vp_updL (σ.2 k) j x else σ.2 a)
def xm_yI (σ : Sg) (a b sp dp n : Nat) : Sg := (fun c => if c = b then va_cpy (σ.1 a) (σ.1 b) sp dp n else σ.1 c, σ.2)
def xm_yL (σ : Sg) (a b sp dp n : Nat) : Sg := (σ.1, fun c => if c = b then va_cpy (σ.2 a) (σ.2 b) sp dp n else σ.2 c)
def xm_fv (σ : Sg) (b j : Nat) : Nat → Value
  | 0 => .int (σ.1 b j)
  | 1 => .long (σ.2 b j)
  | k + 2 => .ref k
def xm_cat : List Value → Nat
  | [] => 0
  | v :: l => v.category + xm_cat l
def xm_tk : Nat → List Value → List Value → Option (List Value × List Value)
  | 0, st, acc => some (acc, st)
  | n + 1, v :: st, acc => xm_tk n st (v :: acc)
  | _ + 1, [], _ => none
abbrev Kt : Type := Nat → List Value → List Value → Sg → Option RV
abbrev Oz : Type := Option RV
-- what an instruction asks of the stack and of the store
def xm_ix (i : Int32) (n : Nat) (k : Nat → Oz) : Oz := if i < 0 ∨ n ≤ i.toNatClampNeg then none else k i.toNatClampNeg
def xm_dv (y : Int32) (k : Oz) : Oz := if y = 0 then none else k
def xm_dvL (y : Int64) (k : Oz) : Oz := if y = 0 then none else k
def xm_cp (sp dp n : Int32) (na nb : Nat) (k : Oz) : Oz := if sp < 0 ∨ dp < 0 ∨ n < 0 ∨ na < sp.toNatClampNeg + n.toNatClampNeg ∨ nb < dp.toNatClampNeg + n.toNatClampNeg then none else k
def xm_bo (x : Int32) (k : Oz) : Oz := if x = 0 ∨ x = 1 then k else none
def xm_cV (o : Oz) (k : Sg → Oz) : Oz := match o with
  | some (none, σ) => k σ
  | _ => none
def xm_cI (o : Oz) (k : Int32 → Sg → Oz) : Oz := match o with
  | some (some (.int x), σ) => k x σ
  | _ => none
def xm_cL (o : Oz) (k : Int64 → Sg → Oz) : Oz := match o with
  | some (some (.long x), σ) => k x σ
  | _ => none
def xm_tr (b : Bool) (k : Oz) : Oz := match b with
  | true => k
  | false => none
def xm_so {α : Type} (o : Option α) (k : α → Oz) : Oz := match o with
  | some x => k x
  | none => none
def xm_vI (v : Value) (k : Int32 → Oz) : Oz := match v with
  | .int x => k x
  | _ => none
def xm_vL (v : Value) (k : Int64 → Oz) : Oz := match v with
  | .long x => k x
  | _ => none
def xm_vR (v : Value) (k : Nat → Oz) : Oz := match v with
  | .ref x => k x
  | _ => none
def xm_pop (st : List Value) (k : Value → List Value → Oz) : Oz := match st with
  | v :: r => k v r
  | [] => none
def xm_pI (st : List Value) (k : Int32 → List Value → Oz) : Oz := xm_pop st (fun v r => xm_vI v (fun x => k x r))
def xm_pL (st : List Value) (k : Int64 → List Value → Oz) : Oz := xm_pop st (fun v r => xm_vL v (fun x => k x r))
def xm_pR (st : List Value) (k : Nat → List Value → Oz) : Oz := xm_pop st (fun v r => xm_vR v (fun x => k x r))
def xm_ar (b ty : Nat) (k : Nat → Nat → Oz) : Oz := match xm_at xm_sh b with
  | some (.inl (y, n, z)) => xm_tr (Nat.beq y ty) (k n z)
  | _ => none
def xm_al (b : Nat) (k : Nat → Oz) : Oz := match xm_at xm_sh b with
  | some (.inl (_, n, _)) => k n
  | _ => none
def xm_ty (b : Nat) (k : Nat → Nat → Oz) : Oz := match xm_at xm_sh b with
  | some (.inl (y, n, _)) => k y n
  | _ => none
def xm_fl (b t : Nat) (k : Nat → Oz) : Oz := match xm_at xm_sh b with
  | some (.inr (ci, fs)) => xm_tr (Nat.beq ci (t / 64)) (xm_so (xm_at fs (t % 64)) k)
  | _ => none
def xm_ob (b ci : Nat) : Bool := match xm_at xm_sh b with
  | some (.inr (c, _)) => Nat.beq c ci
  | _ => false
def xm_swl (x : Int32) (k : Nat → Oz) (dt : Nat) : List (Int32 × Nat) → Oz
  | [] => k dt
  | (y, t) :: ts => if x = y then k t else xm_swl x k dt ts
def xm_row (i : Int32) (base : Nat) (k : Nat → Oz) : Oz := if i = 0 then k base else if i = 1 then k (base + 1) else if i = 2 then k (base + 2) else if i = 3 then k (base + 3) else none
def xm_dup (v : Value) (k : Oz) : Oz := match v with
  | .int _ => k
  | .ref _ => k
  | _ => none
def xm_cll (cl : Nat → List Value → Sg → Oz) (K : Kt) (pc : Nat) (ls r as : List Value) (σ : Sg) (M rk : Nat) : Oz := match rk with
  | 0 => xm_cV (cl M as σ) (fun σ' => K (pc + 3) ls r σ')
  | 1 => xm_cI (cl M as σ) (fun x σ' => K (pc + 3) ls (.int x :: r) σ')
  | 2 => xm_cL (cl M as σ) (fun x σ' => K (pc + 3) ls (.long x :: r) σ')
  | _ => none
def xm_acp2 (K : Kt) (pc : Nat) (ls r : List Value) (σ : Sg) (a b sp dp n : Nat) : Nat → Oz
  | 0 => K (pc + 3) ls r (xm_yI σ a b sp dp n)
  | 1 => K (pc + 3) ls r (xm_yL σ a b sp dp n)
  | _ => none
def xm_acp (K : Kt) (pc : Nat) (ls st : List Value) (σ : Sg) : Oz :=
  xm_pI st fun n r => xm_pI r fun dp r => xm_pR r fun b r => xm_pI r fun sp r => xm_pR r fun a r => xm_tr (Nat.ble (xm_cat r) 8) (
    xm_ty a fun y na => xm_ty b fun y' nb => xm_tr (Nat.beq y y') (xm_cp sp dp n na nb (xm_acp2 K pc ls r σ a b sp.toNatClampNeg dp.toNatClampNeg n.toNatClampNeg y)))
def xm_imax (x y : Int32) : Int32 := if x < y then y else x
def xm_imin (x y : Int32) : Int32 := if y < x then y else x
def xm_labs (x : Int64) : Int64 := if 0 < x then x else -x
def xm_lmin (x y : Int64) : Int64 := if y < x then y else x
def xm_inv (cl : Nat → List Value → Sg → Oz) (K : Kt) (pc : Nat) (ls st : List Value) (σ : Sg) : Nat → Oz
  | 0 => xm_acp K pc ls st σ
  | 1 => xm_pI st fun y r => xm_pI r fun x r => xm_tr (Nat.ble (xm_cat r) 8) (K (pc + 3) ls (.int (xm_imax x y) :: r) σ)
  | 2 => xm_pI st fun y r => xm_pI r fun x r => xm_tr (Nat.ble (xm_cat r) 8) (K (pc + 3) ls (.int (xm_imin x y) :: r) σ)
  | 3 => xm_pL st fun x r => xm_tr (Nat.ble (xm_cat r) 8) (K (pc + 3) ls (.long (xm_labs x) :: r) σ)
  | 4 => xm_pL st fun y r => xm_pL r fun x r => xm_tr (Nat.ble (xm_cat r) 8) (K (pc + 3) ls (.long (xm_lmin x y) :: r) σ)
  | t + 5 => xm_so (xm_tk (t / 4 % 8) st []) fun q => xm_tr (Nat.ble (xm_cat q.2) 8) (xm_cll cl K pc ls q.2 q.1 σ (t / 512) (t % 4))
def xm_ret (rt : Nat) (st : List Value) (σ : Sg) : Oz := match rt, st with
  | 0, [] => some (none, σ)
  | 1, [.int x] => some (some (.int x), σ)
  | 2, [.long x] => some (some (.long x), σ)
  | 3, [.int x] => xm_bo x (some (some (.int x), σ))
  | _, _ => none
/-- one instruction -/
def xm_stp (cl : Nat → List Value → Sg → Oz) (K : Kt) (rt : Nat) (pc : Nat) (ls st : List Value) (σ : Sg) (i : Instr) (t : Nat) : Oz :=
  match i with
  | .iconst _ => xm_so (xm_at xm_kI t) fun x => K (pc + 1) ls (.int x :: st) σ
  | .bipush _ => xm_so (xm_at xm_kI t) fun x => K (pc + 2) ls (.int x :: st) σ
  | .sipush _ => xm_so (xm_at xm_kI t) fun x => K (pc + 3) ls (.int x :: st) σ
  | .lconst _ => xm_so (xm_at xm_kL t) fun x => K (pc + 1) ls (.long x :: st) σ
  | .ldc _ => xm_so (xm_at xm_kI t) fun x => K (pc + 2) ls (.int x :: st) σ
  | .ldc_w _ => xm_so (xm_at xm_kI t) fun x => K (pc + 3) ls (.int x :: st) σ
  | .ldc2_w _ => xm_so (xm_at xm_kL t) fun x => K (pc + 3) ls (.long x :: st) σ
  | .iload_n n => xm_vI (xm_nth ls n.val) fun x => K (pc + 1) ls (.int x :: st) σ
  | .iload n => xm_vI (xm_nth ls n) fun x => K (pc + 2) ls (.int x :: st) σ
  | .lload_n n => xm_vL (xm_nth ls n.val) fun x => K (pc + 1) ls (.long x :: st) σ
  | .lload n => xm_vL (xm_nth ls n) fun x => K (pc + 2) ls (.long x :: st) σ
  | .aload_n n => xm_vR (xm_nth ls n.val) fun x => K (pc + 1) ls (.ref x :: st) σ
  | .aload n => xm_vR (xm_nth ls n) fun x => K (pc + 2) ls (.ref x :: st) σ
  | .istore_n n => xm_pI st fun x r => K (pc + 1) (xm_st1 ls n.val (.int x)) r σ
  | .istore n => xm_pI st fun x r => K (pc + 2) (xm_st1 ls n (.int x)) r σ
  | .lstore_n n => xm_pL st fun x r => K (pc + 1) (xm_st2 ls n.val (.long x)) r σ
  | .lstore n => xm_pL st fun x r => K (pc + 2) (xm_st2 ls n (.long x)) r σ
  | .iinc n _ => xm_vI (xm_nth ls n) fun x => xm_so (xm_at xm_kI t) fun y => K (pc + 3) (xm_st1 ls n (.int (x + y))) st σ
  | .iadd => xm_pI st fun y r => xm_pI r fun x r => K (pc + 1) ls (.int (x + y) :: r) σ
  | .isub => xm_pI st fun y r => xm_pI r fun x r => K (pc + 1) ls (.int (x - y) :: r) σ
  | .imul => xm_pI st fun y r => xm_pI r fun x r => K (pc + 1) ls (.int (x * y) :: r) σ
  | .iand => xm_pI st fun y r => xm_pI r fun x r => K (pc + 1) ls (.int (x &&& y) :: r) σ
  | .ior => xm_pI st fun y r => xm_pI r fun x r => K (pc + 1) ls (.int (x ||| y) :: r) σ
  | .ixor => xm_pI st fun y r => xm_pI r fun x r => K (pc + 1) ls (.int (x ^^^ y) :: r) σ
  | .ishl => xm_pI st fun y r => xm_pI r fun x r => K (pc + 1) ls (.int (x <<< (y &&& 31)) :: r) σ
  | .ishr => xm_pI st fun y r => xm_pI r fun x r => K (pc + 1) ls (.int (x >>> (y &&& 31)) :: r) σ
  | .iushr => xm_pI st fun y r => xm_pI r fun x r => K (pc + 1) ls (.int (x.toUInt32 >>> (y.toUInt32 &&& Int32.toUInt32 31)).toInt32 :: r) σ
  | .idiv => xm_pI st fun y r => xm_pI r fun x r => xm_dv y (K (pc + 1) ls (.int (x / y) :: r) σ)
  | .irem => xm_pI st fun y r => xm_pI r fun x r => xm_dv y (K (pc + 1) ls (.int (x - x / y * y) :: r) σ)
  | .ineg => xm_pI st fun x r => K (pc + 1) ls (.int (-x) :: r) σ
  | .ladd => xm_pL st fun y r => xm_pL r fun x r => K (pc + 1) ls (.long (x + y) :: r) σ
  | .lsub => xm_pL st fun y r => xm_pL r fun x r => K (pc + 1) ls (.long (x - y) :: r) σ
  | .lmul => xm_pL st fun y r => xm_pL r fun x r => K (pc + 1) ls (.long (x * y) :: r) σ
  | .ldiv => xm_pL st fun y r => xm_pL r fun x r => xm_dvL y (K (pc + 1) ls (.long (x / y) :: r) σ)
  | .lrem => xm_pL st fun y r => xm_pL r fun x r => xm_dvL y (K (pc + 1) ls (.long (x - x / y * y) :: r) σ)
  | .lneg => xm_pL st fun x r => K (pc + 1) ls (.long (-x) :: r) σ
  | .lcmp => xm_pL st fun y r => xm_pL r fun x r => K (pc + 1) ls (.int (lg_cmp x y) :: r) σ
  | .i2l => xm_pI st fun x r => K (pc + 1) ls (.long x.toInt64 :: r) σ
  | .l2i => xm_pL st fun x r => K (pc + 1) ls (.int x.toInt32 :: r) σ
  | .i2b => xm_pI st fun x r => K (pc + 1) ls (.int x.toInt8.toInt32 :: r) σ
  | .i2s => xm_pI st fun x r => K (pc + 1) ls (.int x.toInt16.toInt32 :: r) σ
  | .dup => xm_pop st fun v r => xm_dup v (K (pc + 1) ls (v :: v :: r) σ)
  | .dup2 => xm_pI st fun y r => xm_pR r fun x r => K (pc + 1) ls (.int y :: .ref x :: .int y :: .ref x :: r) σ
  | .pop => xm_pI st fun _ r => K (pc + 1) ls r σ
  | .goto _ => K t ls st σ
  | .ifCond .eq _ => xm_pI st fun x r => if x = 0 then K t ls r σ else K (pc + 3) ls r σ
  | .ifCond .ne _ => xm_pI st fun x r => if x = 0 then K (pc + 3) ls r σ else K t ls r σ
  | .ifCond .lt _ => xm_pI st fun x r => if x < 0 then K t ls r σ else K (pc + 3) ls r σ
  | .ifCond .ge _ => xm_pI st fun x r => if 0 ≤ x then K t ls r σ else K (pc + 3) ls r σ
  | .ifCond .gt _ => xm_pI st fun x r => if 0 < x then K t ls r σ else K (pc + 3) ls r σ
  | .ifCond .le _ => xm_pI st fun x r => if x ≤ 0 then K t ls r σ else K (pc + 3) ls r σ
  | .if_icmp .eq _ => xm_pI st fun y r => xm_pI r fun x r => if x = y then K t ls r σ else K (pc + 3) ls r σ
  | .if_icmp .ne _ => xm_pI st fun y r => xm_pI r fun x r => if x = y then K (pc + 3) ls r σ else K t ls r σ
  | .if_icmp .lt _ => xm_pI st fun y r => xm_pI r fun x r => if x < y then K t ls r σ else K (pc + 3) ls r σ
  | .if_icmp .ge _ => xm_pI st fun y r => xm_pI r fun x r => if y ≤ x then K t ls r σ else K (pc + 3) ls r σ
  | .if_icmp .gt _ => xm_pI st fun y r => xm_pI r fun x r => if y < x then K t ls r σ else K (pc + 3) ls r σ
  | .if_icmp .le _ => xm_pI st fun y r => xm_pI r fun x r => if x ≤ y then K t ls r σ else K (pc + 3) ls r σ
  | .tableswitch _ _ _ _ => xm_pI st fun x r => xm_so (xm_at xm_sw t) fun q => xm_swl x (fun g => K g ls r σ) q.1 q.2
  | .getfield _ => xm_pR st fun b r => xm_fl b t fun f => K (pc + 3) ls (xm_fv σ b (t % 64) f :: r) σ
  | .putfield _ => xm_pop st fun v r => xm_pR r fun b r => xm_fl b t fun f => match v with
    | .int x => xm_tr (Nat.beq f 0) (K (pc + 3) ls r (xm_sI σ b (t % 64) x))
    | .long x => xm_tr (Nat.beq f 1) (K (pc + 3) ls r (xm_sL σ b (t % 64) x))
    | _ => none
  | .arraylength => xm_pR st fun b r => xm_al b fun n => K (pc + 1) ls (.int (Int32.ofNat n) :: r) σ
  | .iaload => xm_pI st fun i r => xm_pR r fun b r => xm_ar b 0 fun n _ => xm_ix i n fun j => K (pc + 1) ls (.int (σ.1 b j) :: r) σ
  | .baload => xm_pI st fun i r => xm_pR r fun b r => xm_ar b 2 fun n _ => xm_ix i n fun j => K (pc + 1) ls (.int (σ.1 b j) :: r) σ
  | .laload => xm_pI st fun i r => xm_pR r fun b r => xm_ar b 1 fun n _ => xm_ix i n fun j => K (pc + 1) ls (.long (σ.2 b j) :: r) σ
  | .aaload => xm_pI st fun i r => xm_pR r fun b r => xm_ar b 3 fun n z => xm_tr (Nat.beq n 4) (xm_row i z fun k => K (pc + 1) ls (.ref k :: r) σ)
  | .iastore => xm_pI st fun x r => xm_pI r fun i r => xm_pR r fun b r => xm_ar b 0 fun n _ => xm_ix i n fun j => K (pc + 1) ls r (xm_sI σ b j x)
  | .bastore => xm_pI st fun x r => xm_pI r fun i r => xm_pR r fun b r => xm_ar b 2 fun n _ => xm_bo x (xm_ix i n fun j => K (pc + 1) ls r (xm_sI σ b j x))
  | .lastore => xm_pL st fun x r => xm_pI r fun i r => xm_pR r fun b r => xm_ar b 1 fun n _ => xm_ix i n fun j => K (pc + 1) ls r (xm_sL σ b j x)
  | .invokevirtual _ => xm_so (xm_tk (t / 4 % 8) st []) fun q => xm_pR q.2 fun b r => xm_tr (xm_ob b (t / 32 % 16)) (xm_tr (Nat.ble (xm_cat r) 8) (xm_cll cl K pc ls r (.ref b :: q.1) σ (t / 512) (t % 4)))
  | .invokestatic _ => xm_inv cl K pc ls st σ t
  | .ireturn => xm_ret rt st σ
  | .lreturn => xm_ret rt st σ
  | .return_ => xm_ret rt st σ
  | _ => none
def xm_lk : List Ety → Nat → Option (Instr × List Nat × Nat)
  | [], _ => none
  | (p, x) :: r, pc => match Nat.beq p pc with
    | true => some x
    | false => xm_lk r pc
/-- values that nobody reads any more are forgotten -/
def xm_ml (a : Value) : Nat → Value
  | 0 => a
  | _ + 1 => .null
def xm_msk : List Nat → List Value → List Value
  | [], ls => ls
  | _ :: _, [] => []
  | k :: r, a :: l => xm_ml a k :: xm_msk r l
def xm_mk (cd : List Ety) (pc : Nat) (ls : List Value) : List Value := match xm_lk cd pc with
  | some (_, zk, _) => xm_msk zk ls
  | none => ls
/-- so many instructions at most -/
def xm_fr (cl : Nat → List Value → Sg → Oz) (rt : Nat) (cd : List Ety) : Nat → Nat → List Value → List Value → Sg → Oz
  | 0, _, _, _, _ => none
  | n + 1, pc, ls, st, σ => match xm_lk cd pc with
    | some (i, zk, t) => xm_stp cl (xm_fr cl rt cd n) rt pc (xm_msk zk ls) st σ i t
    | none => none
/-- as many as it takes -/
noncomputable def xm_rn (cl : Nat → List Value → Sg → Oz) (rt : Nat) (cd : List Ety) (pc : Nat) (ls st : List Value) (σ : Sg) : Oz :=
  @dite Oz (∃ r, ∃ n, xm_fr cl rt cd n pc ls st σ = some r) (Classical.propDecidable _) (fun h => some h.choose) (fun _ => none)
def xm_mem (pc : Nat) : List Nat → Bool
  | [] => false
  | q :: l => match Nat.beq q pc with
    | true => true
    | false => xm_mem pc l
noncomputable def xm_it (cl : Nat → List Value → Sg → Oz) (rt : Nat) (cd : List Ety) (stops : List Nat) : Nat → Nat → List Value → List Value → Sg → Oz
  | 0, pc, ls, st, σ => xm_rn cl rt cd pc ls st σ
  | n + 1, pc, ls, st, σ => match xm_lk cd pc with
    | some (i, zk, t) => xm_stp cl (fun pc ls st σ => match xm_mem pc stops with
      | true => xm_rn cl rt cd pc (xm_mk cd pc ls) st σ
      | false => xm_it cl rt cd stops n pc ls st σ) rt pc (xm_msk zk ls) st σ i t
    | none => none
/-- a step goes nowhere, on to one state, or ends -/
def xm_F (F : Kt → Oz) : Prop := (∀ K, F K = none) ∨ (∃ a b c d, ∀ K, F K = K a b c d) ∨ (∃ r, ∀ K, F K = some r)
theorem xm_F_n : xm_F (fun _ => none) := Or.inl fun _ => rfl
theorem xm_F_k (a : Nat) (b c : List Value) (d : Sg) : xm_F (fun K => K a b c d) := Or.inr (Or.inl ⟨a, b, c, d, fun _ => rfl⟩)
theorem xm_F_r (r : RV) : xm_F (fun _ => some r) := Or.inr (Or.inr ⟨r, fun _ => rfl⟩)
theorem xm_F_if {c : Prop} {hc : Decidable c} {F G : Kt → Oz} (h1 : xm_F F) (h2 : xm_F G) : xm_F (fun K => @ite _ c hc (F K) (G K)) := by
  by_cases h : c
  · simpa only [if_pos h] using h1
  · simpa only [if_neg h] using h2
theorem xm_F_ix {i : Int32} {n : Nat} {F : Kt → Nat → Oz} (h : ∀ j, xm_F (fun K => F K j)) : xm_F (fun K => xm_ix i n (F K)) := xm_F_if xm_F_n (h _)
theorem xm_F_dv {i : Int32} {F : Kt → Oz} (h : xm_F F) : xm_F (fun K => xm_dv i (F K)) := xm_F_if xm_F_n h
theorem xm_F_dvL {i : Int64} {F : Kt → Oz} (h : xm_F F) : xm_F (fun K => xm_dvL i (F K)) := xm_F_if xm_F_n h
theorem xm_F_cp {a b c : Int32} {n m : Nat} {F : Kt → Oz} (h : xm_F F) : xm_F (fun K => xm_cp a b c n m (F K)) := xm_F_if xm_F_n h
theorem xm_F_bo {a : Int32} {F : Kt → Oz} (h : xm_F F) : xm_F (fun K => xm_bo a (F K)) := xm_F_if h xm_F_n
theorem xm_F_cV {o : Oz} {F : Kt → Sg → Oz} (h : ∀ s, xm_F (fun K => F K s)) : xm_F (fun K => xm_cV o (F K)) := by
  rcases o with _ | ⟨_ | _, s⟩
  · exact xm_F_n
  · exact h s
  · exact xm_F_n
theorem xm_F_cI {o : Oz} {F : Kt → Int32 → Sg → Oz} (h : ∀ x s, xm_F (fun K => F K x s)) : xm_F (fun K => xm_cI o (F K)) := by
  rcases o with _ | ⟨_ | v, s⟩
  · exact xm_F_n
  · exact xm_F_n
  · cases v
    case int x => exact h x s
    all_goals exact xm_F_n
theorem xm_F_cL {o : Oz} {F : Kt → Int64 → Sg → Oz} (h : ∀ x s, xm_F (fun K => F K x s)) : xm_F (fun K => xm_cL o (F K)) := by
  rcases o with _ | ⟨_ | v, s⟩
  · exact xm_F_n
  · exact xm_F_n
  · cases v
    case long x => exact h x s
    all_goals exact xm_F_n
theorem xm_F_tr {b : Bool} {F : Kt → Oz} (h : xm_F F) : xm_F (fun K => xm_tr b (F K)) := by
  cases b
  · exact xm_F_n
  · exact h
theorem xm_F_so {α : Type} {o : Option α} {F : Kt → α → Oz} (h : ∀ x, xm_F (fun K => F K x)) : xm_F (fun K => xm_so o (F K)) := by
  cases o
  · exact xm_F_n
  · exact h _
theorem xm_F_vI {v : Value} {F : Kt → Int32 → Oz} (h : ∀ x, xm_F (fun K => F K x)) : xm_F (fun K => xm_vI v (F K)) := by
  cases v
  case int x => exact h x
  all_goals exact xm_F_n
theorem xm_F_vL {v : Value} {F : Kt → Int64 → Oz} (h : ∀ x, xm_F (fun K => F K x)) : xm_F (fun K => xm_vL v (F K)) := by
  cases v
  case long x => exact h x
  all_goals exact xm_F_n
theorem xm_F_vR {v : Value} {F : Kt → Nat → Oz} (h : ∀ x, xm_F (fun K => F K x)) : xm_F (fun K => xm_vR v (F K)) := by
  cases v
  case ref x => exact h x
  all_goals exact xm_F_n
theorem xm_F_pop {st : List Value} {F : Kt → Value → List Value → Oz} (h : ∀ v r, xm_F (fun K => F K v r)) : xm_F (fun K => xm_pop st (F K)) := by
  cases st
  · exact xm_F_n
  · exact h _ _
theorem xm_F_pI {st : List Value} {F : Kt → Int32 → List Value → Oz} (h : ∀ v r, xm_F (fun K => F K v r)) : xm_F (fun K => xm_pI st (F K)) := xm_F_pop (F := fun K v r => xm_vI v (fun x => F K x r)) fun v r => xm_F_vI (F := fun K x => F K x r) fun x => h x r
theorem xm_F_pL {st : List Value} {F : Kt → Int64 → List Value → Oz} (h : ∀ v r, xm_F (fun K => F K v r)) : xm_F (fun K => xm_pL st (F K)) := xm_F_pop (F := fun K v r => xm_vL v (fun x => F K x r)) fun v r => xm_F_vL (F := fun K x => F K x r) fun x => h x r
theorem xm_F_pR {st : List Value} {F : Kt → Nat → List Value → Oz} (h : ∀ v r, xm_F (fun K => F K v r)) : xm_F (fun K => xm_pR st (F K)) := xm_F_pop (F := fun K v r => xm_vR v (fun x => F K x r)) fun v r => xm_F_vR (F := fun K x => F K x r) fun x => h x r
theorem xm_F_ar {b ty : Nat} {F : Kt → Nat → Nat → Oz} (h : ∀ n z, xm_F (fun K => F K n z)) : xm_F (fun K => xm_ar b ty (F K)) := by
  unfold xm_ar
  rcases xm_at xm_sh b with _ | ⟨⟨y, n, z⟩ | _⟩
  · exact xm_F_n
  · exact xm_F_tr (F := fun K => F K n z) (h n z)
  · exact xm_F_n
theorem xm_F_al {b : Nat} {F : Kt → Nat → Oz} (h : ∀ n, xm_F (fun K => F K n)) : xm_F (fun K => xm_al b (F K)) := by
  unfold xm_al
  rcases xm_at xm_sh b with _ | ⟨⟨y, n, z⟩ | _⟩
  · exact xm_F_n
  · exact h n
  · exact xm_F_n
theorem xm_F_fl {b t : Nat} {F : Kt → Nat → Oz} (h : ∀ n, xm_F (fun K => F K n)) : xm_F (fun K => xm_fl b t (F K)) := by
  unfold xm_fl
  rcases xm_at xm_sh b with _ | ⟨_ | ⟨ci, fs⟩⟩
  · exact xm_F_n
  · exact xm_F_n
  · exact xm_F_tr (F := fun K => xm_so (xm_at fs (t % 64)) (F K)) (xm_F_so h)
theorem xm_F_swl {x : Int32} {dt : Nat} {F : Kt → Nat → Oz} (h : ∀ n, xm_F (fun K => F K n)) : ∀ (ts : List (Int32 × Nat)), xm_F (fun K => xm_swl x (F K) dt ts)
  | [] => h dt
  | t :: ts => xm_F_if (h t.2) (xm_F_swl h ts)
theorem xm_F_row {i : Int32} {b : Nat} {F : Kt → Nat → Oz} (h : ∀ n, xm_F (fun K => F K n)) : xm_F (fun K => xm_row i b (F K)) := xm_F_if (h _) (xm_F_if (h _) (xm_F_if (h _) (xm_F_if (h _) xm_F_n)))
theorem xm_F_dup {v : Value} {F : Kt → Oz} (h : xm_F F) : xm_F (fun K => xm_dup v (F K)) := by
  cases v
  case int => exact h
  case ref => exact h
  all_goals exact xm_F_n
theorem xm_F_cll {cl : Nat → List Value → Sg → Oz} {pc : Nat} {ls r as : List Value} {σ : Sg} {M rk : Nat} : xm_F (fun K => xm_cll cl K pc ls r as σ M rk) := by
  unfold xm_cll
  match rk with
  | 0 => exact xm_F_cV (F := fun K σ' => K (pc + 3) ls r σ') fun s => xm_F_k _ _ _ _
  | 1 => exact xm_F_cI (F := fun K x σ' => K (pc + 3) ls (.int x :: r) σ') fun x s => xm_F_k _ _ _ _
  | 2 => exact xm_F_cL (F := fun K x σ' => K (pc + 3) ls (.long x :: r) σ') fun x s => xm_F_k _ _ _ _
  | _ + 3 => exact xm_F_n
theorem xm_F_ty {b : Nat} {F : Kt → Nat → Nat → Oz} (h : ∀ y n, xm_F (fun K => F K y n)) : xm_F (fun K => xm_ty b (F K)) := by
  unfold xm_ty
  rcases xm_at xm_sh b with _ | ⟨⟨y, n, z⟩ | _⟩
  · exact xm_F_n
  · exact h y n
  · exact xm_F_n
theorem xm_F_acp2 {pc : Nat} {ls r : List Value} {σ : Sg} {a b sp dp n : Nat} : ∀ y, xm_F (fun K => xm_acp2 K pc ls r σ a b sp dp n y)
  | 0 => xm_F_k _ _ _ _
  | 1 => xm_F_k _ _ _ _
  | _ + 2 => xm_F_n
theorem xm_F_acp {pc : Nat} {ls st : List Value} {σ : Sg} : xm_F (fun K => xm_acp K pc ls st σ) :=
  xm_F_pI fun n r => xm_F_pI fun dp r => xm_F_pR fun b r => xm_F_pI fun sp r => xm_F_pR fun a r => xm_F_tr (xm_F_ty fun y na => xm_F_ty fun y' nb => xm_F_tr (xm_F_cp (xm_F_acp2 y)))
theorem xm_F_inv {cl : Nat → List Value → Sg → Oz} {pc : Nat} {ls st : List Value} {σ : Sg} : ∀ t, xm_F (fun K => xm_inv cl K pc ls st σ t)
  | 0 => xm_F_acp
  | 1 => xm_F_pI fun y r => xm_F_pI fun x r => xm_F_tr (xm_F_k _ _ _ _)
  | 2 => xm_F_pI fun y r => xm_F_pI fun x r => xm_F_tr (xm_F_k _ _ _ _)
  | 3 => xm_F_pL fun x r => xm_F_tr (xm_F_k _ _ _ _)
  | 4 => xm_F_pL fun y r => xm_F_pL fun x r => xm_F_tr (xm_F_k _ _ _ _)
  | _ + 5 => xm_F_so fun _ => xm_F_tr xm_F_cll
theorem xm_F_ret {rt : Nat} {st : List Value} {σ : Sg} : xm_F (fun _ => xm_ret rt st σ) := by
  cases h : xm_ret rt st σ with
  | none => exact xm_F_n
  | some r => exact xm_F_r r
theorem xm_F_stp (cl : Nat → List Value → Sg → Oz) (rt pc : Nat) (ls st : List Value) (σ : Sg) (i : Instr) (t : Nat) : xm_F (fun K => xm_stp cl K rt pc ls st σ i t) := by
  cases i with
  | goto n => exact xm_F_k _ _ _ _
  | iinc n c => exact xm_F_vI fun x => xm_F_so fun y => xm_F_k _ _ _ _
  | ldc n => exact xm_F_so fun x => xm_F_k _ _ _ _
  | ldc_w n => exact xm_F_so fun x => xm_F_k _ _ _ _
  | ldc2_w n => exact xm_F_so fun x => xm_F_k _ _ _ _
  | iconst n => exact xm_F_so fun x => xm_F_k _ _ _ _
  | bipush n => exact xm_F_so fun x => xm_F_k _ _ _ _
  | sipush n => exact xm_F_so fun x => xm_F_k _ _ _ _
  | lconst n => exact xm_F_so fun x => xm_F_k _ _ _ _
  | iload_n n => exact xm_F_vI fun x => xm_F_k _ _ _ _
  | iload n => exact xm_F_vI fun x => xm_F_k _ _ _ _
  | lload_n n => exact xm_F_vL fun x => xm_F_k _ _ _ _
  | lload n => exact xm_F_vL fun x => xm_F_k _ _ _ _
  | aload_n n => exact xm_F_vR fun x => xm_F_k _ _ _ _
  | aload n => exact xm_F_vR fun x => xm_F_k _ _ _ _
  | istore_n n => exact xm_F_pI fun x r => xm_F_k _ _ _ _
  | istore n => exact xm_F_pI fun x r => xm_F_k _ _ _ _
  | ineg => exact xm_F_pI fun x r => xm_F_k _ _ _ _
  | i2l => exact xm_F_pI fun x r => xm_F_k _ _ _ _
  | i2b => exact xm_F_pI fun x r => xm_F_k _ _ _ _
  | i2s => exact xm_F_pI fun x r => xm_F_k _ _ _ _
  | pop => exact xm_F_pI fun x r => xm_F_k _ _ _ _
  | lstore_n n => exact xm_F_pL fun x r => xm_F_k _ _ _ _
  | lstore n => exact xm_F_pL fun x r => xm_F_k _ _ _ _
  | lneg => exact xm_F_pL fun x r => xm_F_k _ _ _ _
  | l2i => exact xm_F_pL fun x r => xm_F_k _ _ _ _
  | iadd => exact xm_F_pI fun y r => xm_F_pI fun x r => xm_F_k _ _ _ _
  | isub => exact xm_F_pI fun y r => xm_F_pI fun x r => xm_F_k _ _ _ _
  | imul => exact xm_F_pI fun y r => xm_F_pI fun x r => xm_F_k _ _ _ _
  | iand => exact xm_F_pI fun y r => xm_F_pI fun x r => xm_F_k _ _ _ _
  | ior => exact xm_F_pI fun y r => xm_F_pI fun x r => xm_F_k _ _ _ _
  | ixor => exact xm_F_pI fun y r => xm_F_pI fun x r => xm_F_k _ _ _ _
  | ishl => exact xm_F_pI fun y r => xm_F_pI fun x r => xm_F_k _ _ _ _
  | ishr => exact xm_F_pI fun y r => xm_F_pI fun x r => xm_F_k _ _ _ _
  | iushr => exact xm_F_pI fun y r => xm_F_pI fun x r => xm_F_k _ _ _ _
  | idiv => exact xm_F_pI fun y r => xm_F_pI fun x r => xm_F_dv (xm_F_k _ _ _ _)
  | irem => exact xm_F_pI fun y r => xm_F_pI fun x r => xm_F_dv (xm_F_k _ _ _ _)
  | ladd => exact xm_F_pL fun y r => xm_F_pL fun x r => xm_F_k _ _ _ _
  | lsub => exact xm_F_pL fun y r => xm_F_pL fun x r => xm_F_k _ _ _ _
  | lmul => exact xm_F_pL fun y r => xm_F_pL fun x r => xm_F_k _ _ _ _
  | lcmp => exact xm_F_pL fun y r => xm_F_pL fun x r => xm_F_k _ _ _ _
  | ldiv => exact xm_F_pL fun y r => xm_F_pL fun x r => xm_F_dvL (xm_F_k _ _ _ _)
  | lrem => exact xm_F_pL fun y r => xm_F_pL fun x r => xm_F_dvL (xm_F_k _ _ _ _)
  | dup => exact xm_F_pop fun v r => xm_F_dup (xm_F_k _ _ _ _)
  | dup2 => exact xm_F_pI fun y r => xm_F_pR fun x r => xm_F_k _ _ _ _
  | ifCond c n => cases c <;> exact xm_F_pI fun x r => xm_F_if (xm_F_k _ _ _ _) (xm_F_k _ _ _ _)
  | if_icmp c n => cases c <;> exact xm_F_pI fun y r => xm_F_pI fun x r => xm_F_if (xm_F_k _ _ _ _) (xm_F_k _ _ _ _)
  | tableswitch d lo hi o => exact xm_F_pI fun x r => xm_F_so fun q => xm_F_swl (F := fun K g => K g ls r σ) (fun g => xm_F_k _ _ _ _) q.2
  | getfield n => exact xm_F_pR fun b r => xm_F_fl fun f => xm_F_k _ _ _ _
  | putfield n =>
    refine xm_F_pop fun v r => xm_F_pR fun b r => xm_F_fl fun f => ?_
    cases v
    case int x => exact xm_F_tr (F := fun K => K (pc + 3) ls r (xm_sI σ b (t % 64) x)) (xm_F_k _ _ _ _)
    case long x => exact xm_F_tr (F := fun K => K (pc + 3) ls r (xm_sL σ b (t % 64) x)) (xm_F_k _ _ _ _)
    all_goals exact xm_F_n
  | arraylength => exact xm_F_pR fun b r => xm_F_al fun n => xm_F_k _ _ _ _
  | iaload => exact xm_F_pI fun i r => xm_F_pR fun b r => xm_F_ar fun n z => xm_F_ix fun j => xm_F_k _ _ _ _
  | baload => exact xm_F_pI fun i r => xm_F_pR fun b r => xm_F_ar fun n z => xm_F_ix fun j => xm_F_k _ _ _ _
  | laload => exact xm_F_pI fun i r => xm_F_pR fun b r => xm_F_ar fun n z => xm_F_ix fun j => xm_F_k _ _ _ _
  | aaload => exact xm_F_pI fun i r => xm_F_pR fun b r => xm_F_ar fun n z => xm_F_tr (xm_F_row fun j => xm_F_k _ _ _ _)
  | iastore => exact xm_F_pI fun x r => xm_F_pI fun i r => xm_F_pR fun b r => xm_F_ar fun n z => xm_F_ix fun j => xm_F_k _ _ _ _
  | bastore => exact xm_F_pI fun x r => xm_F_pI fun i r => xm_F_pR fun b r => xm_F_ar fun n z => xm_F_bo (xm_F_ix fun j => xm_F_k _ _ _ _)
  | lastore => exact xm_F_pL fun x r => xm_F_pI fun i r => xm_F_pR fun b r => xm_F_ar fun n z => xm_F_ix fun j => xm_F_k _ _ _ _
  | invokevirtual n => exact xm_F_so fun q => xm_F_pR fun b r => xm_F_tr (xm_F_tr xm_F_cll)
  | invokestatic n => exact xm_F_inv t
  | ireturn => exact xm_F_ret
  | lreturn => exact xm_F_ret
  | return_ => exact xm_F_ret
  | _ => exact xm_F_n
theorem xm_mono {cl : Nat → List Value → Sg → Oz} {rt : Nat} {cd : List Ety} : ∀ (n pc : Nat) (ls st : List Value) (σ : Sg) (r : RV), xm_fr cl rt cd n pc ls st σ = some r → xm_fr cl rt cd (n + 1) pc ls st σ = some r
  | 0, _, _, _, _, _, h => by cases h
  | n + 1, pc, ls, st, σ, r, h => by
    unfold xm_fr at h ⊢
    cases hl : xm_lk cd pc with
    | none => rw [hl] at h; cases h
    | some q =>
      obtain ⟨i, z, t⟩ := q
      rw [hl] at h
      dsimp only at h ⊢
      rcases xm_F_stp cl rt pc (xm_msk z ls) st σ i t with hF | ⟨a, b, c, d, hF⟩ | ⟨r', hF⟩
      · rw [show xm_stp cl (xm_fr cl rt cd n) rt pc (xm_msk z ls) st σ i t = none from hF _] at h; cases h
      · rw [show xm_stp cl (xm_fr cl rt cd n) rt pc (xm_msk z ls) st σ i t = xm_fr cl rt cd n a b c d from hF _] at h
        rw [show xm_stp cl (xm_fr cl rt cd (n + 1)) rt pc (xm_msk z ls) st σ i t = xm_fr cl rt cd (n + 1) a b c d from hF _]
        exact xm_mono n a b c d r h
      · rw [show xm_stp cl (xm_fr cl rt cd n) rt pc (xm_msk z ls) st σ i t = some r' from hF _] at h
        rw [show xm_stp cl (xm_fr cl rt cd (n + 1)) rt pc (xm_msk z ls) st σ i t = some r' from hF _]
        exact h
theorem xm_mono_le {cl : Nat → List Value → Sg → Oz} {rt : Nat} {cd : List Ety} {n pc : Nat} {ls st : List Value} {σ : Sg} {r : RV} (h : xm_fr cl rt cd n pc ls st σ = some r) : ∀ k, xm_fr cl rt cd (n + k) pc ls st σ = some r
  | 0 => h
  | k + 1 => xm_mono _ _ _ _ _ _ (xm_mono_le h k)
theorem xm_rn_of {cl : Nat → List Value → Sg → Oz} {rt : Nat} {cd : List Ety} {n pc : Nat} {ls st : List Value} {σ : Sg} {r : RV} (h : xm_fr cl rt cd n pc ls st σ = some r) : xm_rn cl rt cd pc ls st σ = some r := by
  have hx : ∃ r, ∃ n, xm_fr cl rt cd n pc ls st σ = some r := ⟨r, n, h⟩
  unfold xm_rn
  rw [dif_pos hx]
  obtain ⟨k, hk⟩ := hx.choose_spec
  have h1 := xm_mono_le h k
  have h2 := xm_mono_le hk n
  rw [Nat.add_comm] at h2
  exact h2.symm.trans h1
theorem xm_rn_ex {cl : Nat → List Value → Sg → Oz} {rt : Nat} {cd : List Ety} {pc : Nat} {ls st : List Value} {σ : Sg} {r : RV} (h : xm_rn cl rt cd pc ls st σ = some r) : ∃ n, xm_fr cl rt cd n pc ls st σ = some r := by
  unfold xm_rn at h
  by_cases hx : ∃ r, ∃ n, xm_fr cl rt cd n pc ls st σ = some r
  · rw [dif_pos hx] at h
    obtain ⟨k, hk⟩ := hx.choose_spec
    exact ⟨k, hk.trans h⟩
  · rw [dif_neg hx] at h; cases h
/-- the machine's own equation -/
theorem xm_rn_eq (cl : Nat → List Value → Sg → Oz) (rt : Nat) (cd : List Ety) (pc : Nat) (ls st : List Value) (σ : Sg) : xm_rn cl rt cd pc ls st σ = match xm_lk cd pc with
    | some (i, zk, t) => xm_stp cl (xm_rn cl rt cd) rt pc (xm_msk zk ls) st σ i t
    | none => none := by
  cases hl : xm_lk cd pc with
  | none =>
    cases hr : xm_rn cl rt cd pc ls st σ with
    | none => rfl
    | some r =>
      obtain ⟨n, hn⟩ := xm_rn_ex hr
      cases n with
      | zero => cases hn
      | succ n => unfold xm_fr at hn; rw [hl] at hn; cases hn
  | some q =>
    obtain ⟨i, z, t⟩ := q
    dsimp only
    have hs : ∀ n, xm_fr cl rt cd (n + 1) pc ls st σ = xm_stp cl (xm_fr cl rt cd n) rt pc (xm_msk z ls) st σ i t := fun n => by rw [xm_fr, hl]
    rcases xm_F_stp cl rt pc (xm_msk z ls) st σ i t with hF | ⟨a, b, c, d, hF⟩ | ⟨r', hF⟩
    · rw [show xm_stp cl (xm_rn cl rt cd) rt pc (xm_msk z ls) st σ i t = none from hF _]
      cases hr : xm_rn cl rt cd pc ls st σ with
      | none => rfl
      | some r =>
        obtain ⟨n, hn⟩ := xm_rn_ex hr
        cases n with
        | zero => cases hn
        | succ n => rw [hs, show xm_stp cl (xm_fr cl rt cd n) rt pc (xm_msk z ls) st σ i t = none from hF _] at hn; cases hn
    · rw [show xm_stp cl (xm_rn cl rt cd) rt pc (xm_msk z ls) st σ i t = xm_rn cl rt cd a b c d from hF _]
      cases hr : xm_rn cl rt cd a b c d with
      | some r =>
        obtain ⟨n, hn⟩ := xm_rn_ex hr
        exact xm_rn_of (n := n + 1) (by rw [hs, show xm_stp cl (xm_fr cl rt cd n) rt pc (xm_msk z ls) st σ i t = _ from hF _]; exact hn)
      | none =>
        cases hr2 : xm_rn cl rt cd pc ls st σ with
        | none => rfl
        | some r =>
          obtain ⟨n, hn⟩ := xm_rn_ex hr2
          cases n with
          | zero => cases hn
          | succ n =>
            rw [hs, show xm_stp cl (xm_fr cl rt cd n) rt pc (xm_msk z ls) st σ i t = _ from hF _] at hn
            rw [xm_rn_of hn] at hr
            cases hr
    · rw [show xm_stp cl (xm_rn cl rt cd) rt pc (xm_msk z ls) st σ i t = some r' from hF _]
      exact xm_rn_of (n := 1) (by rw [hs, show xm_stp cl (xm_fr cl rt cd 0) rt pc (xm_msk z ls) st σ i t = _ from hF _])
theorem xm_ml2 (a : Value) : ∀ k, xm_ml (xm_ml a k) k = xm_ml a k
  | 0 => rfl
  | _ + 1 => rfl
theorem xm_msk2 : ∀ (zk : List Nat) (l : List Value), xm_msk zk (xm_msk zk l) = xm_msk zk l
  | [], _ => rfl
  | _ :: _, [] => rfl
  | k :: r, a :: l => by
    show xm_ml (xm_ml a k) k :: xm_msk r (xm_msk r l) = xm_ml a k :: xm_msk r l
    rw [xm_ml2, xm_msk2 r l]
theorem xm_rn_mk (cl : Nat → List Value → Sg → Oz) (rt : Nat) (cd : List Ety) (pc : Nat) (ls st : List Value) (σ : Sg) : xm_rn cl rt cd pc ls st σ = xm_rn cl rt cd pc (xm_mk cd pc ls) st σ := by
  rw [xm_rn_eq cl rt cd pc ls, xm_rn_eq cl rt cd pc (xm_mk cd pc ls)]
  unfold xm_mk
  cases hl : xm_lk cd pc with
  | none => rfl
  | some q =>
    obtain ⟨i, z, t⟩ := q
    dsimp only
    rw [xm_msk2]
/-- some instructions on, up to certain places -/
theorem xm_it_eq {cl : Nat → List Value → Sg → Oz} {rt : Nat} {cd : List Ety} (stops : List Nat) : ∀ (n : Nat) {pc : Nat} {ls st : List Value} {σ : Sg}, xm_rn cl rt cd pc ls st σ = xm_it cl rt cd stops n pc ls st σ
  | 0, _, _, _, _ => rfl
  | n + 1, pc, ls, st, σ => by
    rw [xm_rn_eq, xm_it]
    cases hl : xm_lk cd pc with
    | none => rfl
    | some q =>
      obtain ⟨i, z, t⟩ := q
      dsimp only
      rcases xm_F_stp cl rt pc (xm_msk z ls) st σ i t with hF | ⟨a, b, c, d, hF⟩ | ⟨r', hF⟩
      · exact (hF _).trans (hF _).symm
      · refine (hF _).trans (Eq.trans ?_ (hF _).symm)
        show xm_rn cl rt cd a b c d = match xm_mem a stops with
          | true => xm_rn cl rt cd a (xm_mk cd a b) c d
          | false => xm_it cl rt cd stops n a b c d
        cases xm_mem a stops with
        | true => exact xm_rn_mk cl rt cd a b c d
        | false => exact xm_it_eq stops n
      · exact (hF _).trans (hF _).symm
end
section
/-! the code of the methods, read once: place, instruction, length, what it means -/
def kc_Arr_fillI : List Ety := [(0, .iconst 0, [], 0), (1, .istore_n 2, [], 0), (2, .aload_n 0, [], 0), (3, .arraylength, [], 0), (4, .istore_n 3, [], 0), (5, .iload_n 2, [0, 0, 0, 0], 0), (6, .iload_n 3, [], 0), (7, .if_icmp .ge 13, [], 20), (10, .aload_n 0, [], 0), (11, .iload_n 2, [], 0), (12, .iload_n 1, [], 0), (13, .iastore, [], 0), (14, .iinc 2 1, [], 1), (17, .goto (-12), [], 5), (20, .return_, [], 0)]
def kc_TO_persons : List Ety := [(0, .iload_n 1, [], 0), (1, .iconst 1, [], 1), (2, .if_icmp .lt 9, [], 11), (5, .iload_n 1, [], 0), (6, .bipush 9, [], 6), (8, .if_icmp .le 6, [], 14), (11, .bipush (-2), [], 7), (13, .ireturn, [], 0), (14, .aload_n 0, [], 0), (15, .getfield 10, [], 512), (18, .getfield 76, [], 193), (21, .istore_n 2, [], 0), (22, .aload_n 0, [], 0), (23, .getfield 10, [], 512), (26, .iload_n 1, [], 0), (27, .invokevirtual 79, [], 1124), (30, .aload_n 0, [], 0), (31, .getfield 10, [], 512), (34, .aload_n 0, [], 0), (35, .getfield 69, [], 520), (38, .invokevirtual 83, [], 2149), (41, .ifCond .ne 8, [], 49), (44, .aload_n 0, [], 0), (45, .iconst (-1), [], 2), (46, .putfield 69, [], 520), (49, .iload_n 2, [], 0), (50, .ireturn, [], 0)]
def kc_Net_resize : List Ety := [(0, .aload_n 0, [], 0), (1, .iload_n 1, [], 0), (2, .putfield 15, [], 193), (5, .aload_n 0, [], 0), (6, .dup, [], 0), (7, .getfield 29, [], 194), (10, .aload_n 0, [], 0), (11, .invokevirtual 32, [], 1633), (14, .iand, [], 0), (15, .putfield 29, [], 194), (18, .iconst 0, [], 0), (19, .istore_n 2, [], 0), (20, .iload_n 2, [0, 0, 0], 0), (21, .bipush 9, [], 6), (23, .if_icmp .ge 35, [], 58), (26, .aload_n 0, [], 0), (27, .getfield 11, [], 192), (30, .iload_n 2, [], 0), (31, .iload_n 2, [], 0), (32, .iload_n 1, [], 0), (33, .if_icmp .ge 17, [], 50), (36, .aload_n 0, [], 0), (37, .getfield 11, [], 192), (40, .iload_n 2, [], 0), (41, .iaload, [], 0), (42, .aload_n 0, [], 0), (43, .invokevirtual 32, [], 1633), (46, .iand, [], 0), (47, .goto 4, [], 51), (50, .iconst 0, [], 0), (51, .iastore, [], 0), (52, .iinc 2 1, [], 1), (55, .goto (-35), [], 20), (58, .aload_n 0, [], 0), (59, .dup, [], 0), (60, .getfield 36, [], 195), (63, .iconst 1, [], 1), (64, .iadd, [], 0), (65, .putfield 36, [], 195), (68, .return_, [], 0)]
def kc_Net_everyone : List Ety := [(0, .iconst 1, [], 1), (1, .aload_n 0, [], 0), (2, .getfield 15, [], 193), (5, .ishl, [], 0), (6, .iconst 1, [], 1), (7, .isub, [], 0), (8, .ireturn, [], 0)]
def kc_Net_holds : List Ety := [(0, .iload_n 1, [], 0), (1, .ifCond .lt 15, [], 16), (4, .iload_n 1, [], 0), (5, .aload_n 0, [], 0), (6, .getfield 15, [], 193), (9, .if_icmp .ge 7, [], 16), (12, .iconst 1, [], 1), (13, .goto 4, [], 17), (16, .iconst 0, [], 0), (17, .ireturn, [], 0)]
def kc_TO_tie : List Ety := [(0, .aload_n 0, [], 0), (1, .getfield 10, [], 512), (4, .iload_n 1, [], 0), (5, .invokevirtual 83, [], 2149), (8, .ifCond .eq 19, [], 27), (11, .aload_n 0, [], 0), (12, .getfield 10, [], 512), (15, .iload_n 2, [], 0), (16, .invokevirtual 83, [], 2149), (19, .ifCond .eq 8, [], 27), (22, .iload_n 1, [], 0), (23, .iload_n 2, [], 0), (24, .if_icmp .ne 6, [], 30), (27, .bipush (-2), [], 7), (29, .ireturn, [], 0), (30, .aload_n 0, [], 0), (31, .getfield 10, [], 512), (34, .iload_n 1, [], 0), (35, .iload_n 2, [], 0), (36, .invokevirtual 87, [], 3177), (39, .iload_n 3, [], 0), (40, .if_icmp .ne 5, [], 45), (43, .iconst 0, [], 0), (44, .ireturn, [], 0), (45, .aload_n 0, [], 0), (46, .getfield 10, [], 512), (49, .iload_n 1, [], 0), (50, .iload_n 2, [], 0), (51, .iload_n 3, [], 0), (52, .invokevirtual 91, [], 3692), (55, .iconst 1, [], 1), (56, .ireturn, [], 0)]
def kc_Net_tied : List Ety := [(0, .aload_n 0, [], 0), (1, .iload_n 1, [], 0), (2, .invokevirtual 19, [], 2149), (5, .ifCond .eq 29, [], 34), (8, .aload_n 0, [], 0), (9, .iload_n 2, [], 0), (10, .invokevirtual 19, [], 2149), (13, .ifCond .eq 21, [], 34), (16, .aload_n 0, [], 0), (17, .getfield 11, [], 192), (20, .iload_n 1, [], 0), (21, .iaload, [], 0), (22, .iload_n 2, [], 0), (23, .ishr, [], 0), (24, .iconst 1, [], 1), (25, .iand, [], 0), (26, .iconst 1, [], 1), (27, .if_icmp .ne 7, [], 34), (30, .iconst 1, [], 1), (31, .goto 4, [], 35), (34, .iconst 0, [], 0), (35, .ireturn, [], 0)]
def kc_Net_join : List Ety := [(0, .aload_n 0, [], 0), (1, .iload_n 1, [], 0), (2, .invokevirtual 19, [], 2149), (5, .ifCond .eq 11, [], 16), (8, .aload_n 0, [], 0), (9, .iload_n 2, [], 0), (10, .invokevirtual 19, [], 2149), (13, .ifCond .ne 4, [], 17), (16, .return_, [], 0), (17, .aload_n 0, [], 0), (18, .getfield 11, [], 192), (21, .iload_n 1, [], 0), (22, .iload_n 3, [], 0), (23, .ifCond .eq 16, [], 39), (26, .aload_n 0, [], 0), (27, .getfield 11, [], 192), (30, .iload_n 1, [], 0), (31, .iaload, [], 0), (32, .iconst 1, [], 1), (33, .iload_n 2, [], 0), (34, .ishl, [], 0), (35, .ior, [], 0), (36, .goto 15, [], 51), (39, .aload_n 0, [], 0), (40, .getfield 11, [], 192), (43, .iload_n 1, [], 0), (44, .iaload, [], 0), (45, .iconst 1, [], 1), (46, .iload_n 2, [], 0), (47, .ishl, [], 0), (48, .iconst (-1), [], 2), (49, .ixor, [], 0), (50, .iand, [], 0), (51, .iastore, [], 0), (52, .aload_n 0, [], 0), (53, .getfield 11, [], 192), (56, .iload_n 2, [], 0), (57, .iload_n 3, [], 0), (58, .ifCond .eq 16, [], 74), (61, .aload_n 0, [], 0), (62, .getfield 11, [], 192), (65, .iload_n 2, [], 0), (66, .iaload, [], 0), (67, .iconst 1, [], 1), (68, .iload_n 1, [], 0), (69, .ishl, [], 0), (70, .ior, [], 0), (71, .goto 15, [], 86), (74, .aload_n 0, [], 0), (75, .getfield 11, [], 192), (78, .iload_n 2, [], 0), (79, .iaload, [], 0), (80, .iconst 1, [], 1), (81, .iload_n 1, [], 0), (82, .ishl, [], 0), (83, .iconst (-1), [], 2), (84, .ixor, [], 0), (85, .iand, [], 0), (86, .iastore, [], 0), (87, .aload_n 0, [], 0), (88, .dup, [], 0), (89, .getfield 36, [], 195), (92, .iconst 1, [], 1), (93, .iadd, [], 0), (94, .putfield 36, [], 195), (97, .return_, [], 0)]
def kc_TO_kind : List Ety := [(0, .aload_n 0, [], 0), (1, .getfield 10, [], 512), (4, .iload_n 1, [], 0), (5, .invokevirtual 83, [], 2149), (8, .ifCond .eq 10, [], 18), (11, .iload_n 2, [], 0), (12, .invokestatic 95, [], 4618), (15, .ifCond .ne 6, [], 21), (18, .bipush (-2), [], 7), (20, .ireturn, [], 0), (21, .aload_n 0, [], 0), (22, .getfield 10, [], 512), (25, .iload_n 1, [], 0), (26, .invokevirtual 98, [], 5221), (29, .istore_n 3, [], 0), (30, .aload_n 0, [], 0), (31, .getfield 10, [], 512), (34, .iload_n 1, [], 0), (35, .iload_n 2, [], 0), (36, .invokevirtual 102, [], 5736), (39, .iload_n 3, [], 0), (40, .ireturn, [], 0)]
def kc_TO_isBit : List Ety := [(0, .iload_n 0, [], 0), (1, .ifCond .eq 8, [], 9), (4, .iload_n 0, [], 0), (5, .iconst 1, [], 1), (6, .if_icmp .ne 7, [], 13), (9, .iconst 1, [], 1), (10, .goto 4, [], 14), (13, .iconst 0, [], 0), (14, .ireturn, [], 0)]
def kc_Net_kindOf : List Ety := [(0, .aload_n 0, [], 0), (1, .getfield 29, [], 194), (4, .iload_n 1, [], 0), (5, .ishr, [], 0), (6, .iconst 1, [], 1), (7, .iand, [], 0), (8, .ireturn, [], 0)]
def kc_Net_turn : List Ety := [(0, .aload_n 0, [], 0), (1, .aload_n 0, [], 0), (2, .getfield 29, [], 194), (5, .iconst 1, [], 1), (6, .iload_n 1, [], 0), (7, .ishl, [], 0), (8, .iconst (-1), [], 2), (9, .ixor, [], 0), (10, .iand, [], 0), (11, .iload_n 2, [], 0), (12, .iload_n 1, [], 0), (13, .ishl, [], 0), (14, .ior, [], 0), (15, .putfield 29, [], 194), (18, .return_, [], 0)]
def kc_TO_read : List Ety := [(0, .aload_n 0, [], 0), (1, .getfield 65, [], 519), (4, .iload_n 1, [], 0), (5, .invokevirtual 106, [], 6853), (8, .ifCond .eq 14, [], 22), (11, .aload_n 0, [], 0), (12, .getfield 10, [], 512), (15, .iload_n 2, [], 0), (16, .invokevirtual 83, [], 2149), (19, .ifCond .ne 6, [], 25), (22, .bipush (-2), [], 7), (24, .ireturn, [], 0), (25, .aload_n 0, [], 0), (26, .getfield 65, [], 519), (29, .iload_n 1, [], 0), (30, .invokevirtual 107, [], 7365), (33, .ifCond .eq 12, [], 45), (36, .aload_n 0, [], 0), (37, .getfield 65, [], 519), (40, .iconst 1, [], 1), (41, .invokevirtual 110, [], 7877), (44, .ireturn, [], 0), (45, .aload_n 0, [], 0), (46, .getfield 65, [], 519), (49, .getfield 113, [], 385), (52, .iload_n 1, [], 0), (53, .iaload, [], 0), (54, .aload_n 0, [], 0), (55, .getfield 10, [], 512), (58, .getfield 76, [], 193), (61, .invokestatic 117, [], 2), (64, .istore_n 3, [], 0), (65, .iconst 0, [], 0), (66, .istore 4, [], 0), (68, .iload 4, [0, 0, 0, 0, 0, 1], 0), (70, .iload_n 3, [], 0), (71, .if_icmp .ge 65, [], 136), (74, .aload_n 0, [], 0), (75, .getfield 65, [], 519), (78, .iload_n 1, [], 0), (79, .iload 4, [], 0), (81, .invokevirtual 123, [], 8393), (84, .istore 5, [], 0), (86, .iload 4, [], 0), (88, .iload_n 2, [], 0), (89, .if_icmp .eq 14, [], 103), (92, .iload 5, [], 0), (94, .invokestatic 95, [], 4618), (97, .ifCond .ne 6, [], 103), (100, .iload 4, [], 0), (102, .ireturn, [], 0), (103, .iload 4, [], 0), (105, .iload_n 2, [], 0), (106, .if_icmp .eq 24, [], 130), (109, .aload_n 0, [], 0), (110, .getfield 10, [], 512), (113, .iload_n 2, [], 0), (114, .iload 4, [], 0), (116, .iload 5, [], 0), (118, .iconst 1, [], 1), (119, .if_icmp .ne 7, [], 126), (122, .iconst 1, [], 1), (123, .goto 4, [], 127), (126, .iconst 0, [], 0), (127, .invokevirtual 91, [], 3692), (130, .iinc 4 1, [], 1), (133, .goto (-65), [], 68), (136, .iload_n 3, [], 0), (137, .ireturn, [], 0)]
def kc_Sheets_holds : List Ety := [(0, .iload_n 1, [], 0), (1, .ifCond .lt 12, [], 13), (4, .iload_n 1, [], 0), (5, .iconst 4, [], 5), (6, .if_icmp .ge 7, [], 13), (9, .iconst 1, [], 1), (10, .goto 4, [], 14), (13, .iconst 0, [], 0), (14, .ireturn, [], 0)]
def kc_Sheets_isLost : List Ety := [(0, .aload_n 0, [], 0), (1, .getfield 11, [], 384), (4, .iload_n 1, [], 0), (5, .iaload, [], 0), (6, .iconst (-1), [], 2), (7, .if_icmp .ne 7, [], 14), (10, .iconst 1, [], 1), (11, .goto 4, [], 15), (14, .iconst 0, [], 0), (15, .ireturn, [], 0)]
def kc_Sheets_finding : List Ety := [(0, .aload_n 0, [], 0), (1, .iload_n 1, [], 0), (2, .putfield 29, [], 387), (5, .bipush (-10), [], 8), (7, .iload_n 1, [], 0), (8, .isub, [], 0), (9, .ireturn, [], 0)]
def kc_Sheets_item : List Ety := [(0, .aload_n 0, [], 0), (1, .getfield 20, [], 386), (4, .iload_n 1, [], 0), (5, .aaload, [], 0), (6, .iload_n 2, [], 0), (7, .iaload, [], 0), (8, .ireturn, [], 0)]
def kc_TO_about : List Ety := [(0, .aload_n 0, [], 0), (1, .getfield 10, [], 512), (4, .iload_n 1, [], 0), (5, .invokevirtual 83, [], 2149), (8, .ifCond .eq 10, [], 18), (11, .iload_n 2, [], 0), (12, .invokestatic 95, [], 4618), (15, .ifCond .ne 6, [], 21), (18, .bipush (-2), [], 7), (20, .ireturn, [], 0), (21, .iload_n 2, [], 0), (22, .ifCond .ne 14, [], 36), (25, .aload_n 0, [], 0), (26, .getfield 10, [], 512), (29, .iload_n 1, [], 0), (30, .invokevirtual 126, [], 9317), (33, .goto 11, [], 44), (36, .aload_n 0, [], 0), (37, .getfield 10, [], 512), (40, .iload_n 1, [], 0), (41, .invokevirtual 98, [], 5221), (44, .ireturn, [], 0)]
def kc_Net_degree : List Ety := [(0, .aload_n 0, [], 0), (1, .iload_n 1, [], 0), (2, .invokevirtual 19, [], 2149), (5, .ifCond .eq 15, [], 20), (8, .aload_n 0, [], 0), (9, .getfield 11, [], 192), (12, .iload_n 1, [], 0), (13, .iaload, [], 0), (14, .invokestatic 23, [], 9738), (17, .goto 4, [], 21), (20, .iconst 0, [], 0), (21, .ireturn, [], 0)]
def kc_Int_bitCount : List Ety := [(0, .iload_n 0, [], 0), (1, .iload_n 0, [], 0), (2, .iconst 1, [], 1), (3, .iushr, [], 0), (4, .ldc_w 265, [], 9), (7, .iand, [], 0), (8, .isub, [], 0), (9, .istore_n 0, [], 0), (10, .iload_n 0, [], 0), (11, .ldc_w 266, [], 10), (14, .iand, [], 0), (15, .iload_n 0, [], 0), (16, .iconst 2, [], 3), (17, .iushr, [], 0), (18, .ldc_w 266, [], 10), (21, .iand, [], 0), (22, .iadd, [], 0), (23, .istore_n 0, [], 0), (24, .iload_n 0, [], 0), (25, .iload_n 0, [], 0), (26, .iconst 4, [], 5), (27, .iushr, [], 0), (28, .iadd, [], 0), (29, .ldc_w 267, [], 11), (32, .iand, [], 0), (33, .istore_n 0, [], 0), (34, .iload_n 0, [], 0), (35, .iload_n 0, [], 0), (36, .bipush 8, [], 12), (38, .iushr, [], 0), (39, .iadd, [], 0), (40, .istore_n 0, [], 0), (41, .iload_n 0, [], 0), (42, .iload_n 0, [], 0), (43, .bipush 16, [], 13), (45, .iushr, [], 0), (46, .iadd, [], 0), (47, .istore_n 0, [], 0), (48, .iload_n 0, [], 0), (49, .bipush 63, [], 14), (51, .iand, [], 0), (52, .ireturn, [], 0)]
def kc_TO_far : List Ety := [(0, .aload_n 0, [], 0), (1, .getfield 10, [], 512), (4, .iload_n 1, [], 0), (5, .invokevirtual 83, [], 2149), (8, .ifCond .eq 14, [], 22), (11, .aload_n 0, [], 0), (12, .getfield 10, [], 512), (15, .iload_n 2, [], 0), (16, .invokevirtual 83, [], 2149), (19, .ifCond .ne 6, [], 25), (22, .bipush (-2), [], 7), (24, .ireturn, [], 0), (25, .aload_n 0, [], 0), (26, .getfield 10, [], 512), (29, .iload_n 1, [], 0), (30, .iload_n 2, [], 0), (31, .invokevirtual 129, [], 10857), (34, .ireturn, [], 0)]
def kc_Net_distance : List Ety := [(0, .iconst 0, [], 0), (1, .istore_n 3, [], 0), (2, .iload_n 3, [0, 0, 0, 0], 0), (3, .bipush 9, [], 6), (5, .if_icmp .ge 31, [], 36), (8, .aload_n 0, [], 0), (9, .iconst 1, [], 1), (10, .iload_n 1, [], 0), (11, .ishl, [], 0), (12, .iload_n 3, [], 0), (13, .aload_n 0, [], 0), (14, .invokevirtual 32, [], 1633), (17, .invokevirtual 42, [], 11373), (20, .iload_n 2, [], 0), (21, .ishr, [], 0), (22, .iconst 1, [], 1), (23, .iand, [], 0), (24, .iconst 1, [], 1), (25, .if_icmp .ne 5, [], 30), (28, .iload_n 3, [], 0), (29, .ireturn, [], 0), (30, .iinc 3 1, [], 1), (33, .goto (-31), [], 2), (36, .iconst (-1), [], 2), (37, .ireturn, [], 0)]
def kc_Net_spread : List Ety := [(0, .iload_n 1, [], 0), (1, .istore 4, [], 0), (3, .iconst 0, [], 0), (4, .istore 5, [], 0), (6, .iload 5, [0, 1, 0, 0, 0, 0, 1, 1], 0), (8, .iload_n 2, [], 0), (9, .if_icmp .ge 74, [], 83), (12, .iload 4, [], 0), (14, .istore 6, [], 0), (16, .iconst 0, [], 0), (17, .istore 7, [], 0), (19, .iload 7, [0, 1, 0, 0, 0, 0, 0, 0], 0), (21, .aload_n 0, [], 0), (22, .getfield 15, [], 193), (25, .if_icmp .ge 38, [], 63), (28, .iload 6, [], 0), (30, .iload 4, [], 0), (32, .iload 7, [], 0), (34, .ishr, [], 0), (35, .iconst 1, [], 1), (36, .iand, [], 0), (37, .iconst 1, [], 1), (38, .if_icmp .ne 15, [], 53), (41, .aload_n 0, [], 0), (42, .getfield 11, [], 192), (45, .iload 7, [], 0), (47, .iaload, [], 0), (48, .iload_n 3, [], 0), (49, .iand, [], 0), (50, .goto 4, [], 54), (53, .iconst 0, [], 0), (54, .ior, [], 0), (55, .istore 6, [], 0), (57, .iinc 7 1, [], 1), (60, .goto (-41), [], 19), (63, .iload 6, [], 0), (65, .iload 4, [], 0), (67, .if_icmp .ne 6, [], 73), (70, .iload 4, [], 0), (72, .ireturn, [], 0), (73, .iload 6, [], 0), (75, .istore 4, [], 0), (77, .iinc 5 1, [], 1), (80, .goto (-74), [], 6), (83, .iload 4, [], 0), (85, .ireturn, [], 0)]
def kc_TO_set : List Ety := [(0, .aload_n 0, [], 0), (1, .iload_n 1, [], 0), (2, .iload_n 2, [], 0), (3, .invokevirtual 132, [], 12553), (6, .ifCond .ne 6, [], 12), (9, .bipush (-5), [], 15), (11, .ireturn, [], 0), (12, .aload_n 0, [], 0), (13, .iload_n 1, [], 0), (14, .invokevirtual 135, [], 13573), (17, .istore_n 3, [], 0), (18, .iload_n 1, [], 0), (19, .ifCond .ne 11, [], 30), (22, .aload_n 0, [], 0), (23, .iload_n 2, [], 0), (24, .putfield 69, [], 520), (27, .goto 40, [], 67), (30, .iload_n 1, [], 0), (31, .iconst 1, [], 1), (32, .if_icmp .ne 11, [], 43), (35, .aload_n 0, [], 0), (36, .iload_n 2, [], 0), (37, .putfield 73, [], 521), (40, .goto 27, [], 67), (43, .iload_n 1, [], 0), (44, .iconst 2, [], 3), (45, .if_icmp .ne 14, [], 59), (48, .aload_n 0, [], 0), (49, .getfield 35, [], 515), (52, .iload_n 2, [], 0), (53, .invokevirtual 138, [], 13956), (56, .goto 11, [], 67), (59, .aload_n 0, [], 0), (60, .getfield 35, [], 515), (63, .iload_n 2, [], 0), (64, .putfield 141, [], 268), (67, .iload_n 3, [], 0), (68, .ireturn, [], 0)]
def kc_TO_isSetting : List Ety := [(0, .iload_n 1, [], 0), (1, .tableswitch 77 0 3 #[31, 53, 61, 69], [], 0), (32, .iload_n 2, [], 0), (33, .iconst (-1), [], 2), (34, .if_icmp .eq 14, [], 48), (37, .aload_n 0, [], 0), (38, .getfield 10, [], 512), (41, .iload_n 2, [], 0), (42, .invokevirtual 83, [], 2149), (45, .ifCond .eq 7, [], 52), (48, .iconst 1, [], 1), (49, .goto 4, [], 53), (52, .iconst 0, [], 0), (53, .ireturn, [], 0), (54, .iload_n 2, [], 0), (55, .iconst 1, [], 1), (56, .bipush 7, [], 16), (58, .invokestatic 162, [], 12818), (61, .ireturn, [], 0), (62, .iload_n 2, [], 0), (63, .iconst 0, [], 0), (64, .bipush 99, [], 17), (66, .invokestatic 162, [], 12818), (69, .ireturn, [], 0), (70, .iload_n 2, [], 0), (71, .iconst 0, [], 0), (72, .bipush 9, [], 6), (74, .invokestatic 162, [], 12818), (77, .ireturn, [], 0), (78, .iconst 0, [], 0), (79, .ireturn, [], 0)]
def kc_TO_isUpTo : List Ety := [(0, .iload_n 0, [], 0), (1, .iload_n 1, [], 0), (2, .if_icmp .lt 12, [], 14), (5, .iload_n 0, [], 0), (6, .iload_n 2, [], 0), (7, .if_icmp .gt 7, [], 14), (10, .iconst 1, [], 1), (11, .goto 4, [], 15), (14, .iconst 0, [], 0), (15, .ireturn, [], 0)]
def kc_TO_setting : List Ety := [(0, .iload_n 1, [], 0), (1, .tableswitch 45 0 2 #[27, 32, 37], [], 1), (28, .aload_n 0, [], 0), (29, .getfield 69, [], 520), (32, .ireturn, [], 0), (33, .aload_n 0, [], 0), (34, .getfield 73, [], 521), (37, .ireturn, [], 0), (38, .aload_n 0, [], 0), (39, .getfield 35, [], 515), (42, .getfield 381, [], 267), (45, .ireturn, [], 0), (46, .aload_n 0, [], 0), (47, .getfield 35, [], 515), (50, .getfield 141, [], 268), (53, .ireturn, [], 0)]
def kc_Records_look : List Ety := [(0, .aload_n 0, [], 0), (1, .iload_n 1, [], 0), (2, .putfield 40, [], 267), (5, .iconst 0, [], 0), (6, .istore_n 2, [], 0), (7, .iload_n 2, [0, 0, 0, 1], 0), (8, .aload_n 0, [], 0), (9, .getfield 44, [], 265), (12, .if_icmp .ge 74, [], 86), (15, .aload_n 0, [], 0), (16, .getfield 21, [], 259), (19, .iload_n 2, [], 0), (20, .iaload, [], 0), (21, .iload_n 1, [], 0), (22, .if_icmp .gt 17, [], 39), (25, .aload_n 0, [], 0), (26, .getfield 24, [], 260), (29, .iload_n 2, [], 0), (30, .iaload, [], 0), (31, .iload_n 1, [], 0), (32, .if_icmp .le 7, [], 39), (35, .iconst 1, [], 1), (36, .goto 4, [], 40), (39, .iconst 0, [], 0), (40, .istore_n 3, [], 0), (41, .aload_n 0, [], 0), (42, .getfield 36, [], 264), (45, .iload_n 2, [], 0), (46, .iload_n 3, [], 0), (47, .ifCond .eq 31, [], 78), (50, .aload_n 0, [], 0), (51, .getfield 11, [], 256), (54, .iload_n 2, [], 0), (55, .iaload, [], 0), (56, .iconst (-1), [], 2), (57, .if_icmp .eq 17, [], 74), (60, .aload_n 0, [], 0), (61, .getfield 36, [], 264), (64, .aload_n 0, [], 0), (65, .getfield 11, [], 256), (68, .iload_n 2, [], 0), (69, .iaload, [], 0), (70, .baload, [], 0), (71, .ifCond .eq 7, [], 78), (74, .iconst 1, [], 1), (75, .goto 4, [], 79), (78, .iconst 0, [], 0), (79, .bastore, [], 0), (80, .iinc 2 1, [], 1), (83, .goto (-76), [], 7), (86, .return_, [], 0)]
def kc_TO_found : List Ety := [(0, .aload_n 0, [], 0), (1, .getfield 10, [], 512), (4, .iload_n 1, [], 0), (5, .invokevirtual 83, [], 2149), (8, .ifCond .eq 10, [], 18), (11, .iload_n 2, [], 0), (12, .invokestatic 95, [], 4618), (15, .ifCond .ne 9, [], 24), (18, .bipush (-2), [], 7), (20, .invokestatic 144, [], 14859), (23, .lreturn, [], 0), (24, .aload_n 0, [], 0), (25, .getfield 21, [], 513), (28, .aload_n 0, [], 0), (29, .getfield 69, [], 520), (32, .aload_n 0, [], 0), (33, .getfield 73, [], 521), (36, .invokevirtual 148, [], 15368), (39, .aload_n 0, [], 0), (40, .getfield 21, [], 513), (43, .iconst 1, [], 1), (44, .iload_n 1, [], 0), (45, .ishl, [], 0), (46, .invokevirtual 151, [], 17926), (49, .aload_n 0, [], 0), (50, .getfield 21, [], 513), (53, .getfield 154, [], 6), (56, .iload_n 2, [], 0), (57, .invokestatic 158, [], 18451), (60, .lreturn, [], 0)]
def kc_TO_refusal : List Ety := [(0, .ldc2_w 386, [], 2), (3, .iload_n 0, [], 0), (4, .i2l, [], 0), (5, .lsub, [], 0), (6, .lreturn, [], 0)]
def kc_Chains_follow : List Ety := [(0, .aload_n 0, [], 0), (1, .getfield 28, [], 4), (4, .iload_n 1, [], 0), (5, .if_icmp .ne 15, [], 20), (8, .aload_n 0, [], 0), (9, .getfield 31, [], 5), (12, .iload_n 2, [], 0), (13, .if_icmp .ne 7, [], 20), (16, .iconst 1, [], 1), (17, .goto 4, [], 21), (20, .iconst 0, [], 0), (21, .istore_n 3, [], 0), (22, .iload_n 3, [], 0), (23, .ifCond .eq 18, [], 41), (26, .aload_n 0, [], 0), (27, .getfield 24, [], 3), (30, .aload_n 0, [], 0), (31, .getfield 9, [], 0), (34, .getfield 34, [], 195), (37, .if_icmp .ne 4, [], 41), (40, .return_, [], 0), (41, .aload_n 0, [], 0), (42, .iload_n 1, [], 0), (43, .invokevirtual 37, [], 15876), (46, .iconst 1, [], 1), (47, .istore 4, [], 0), (49, .iload 4, [0, 0, 0, 1, 0, 1], 0), (51, .aload_n 0, [], 0), (52, .getfield 9, [], 0), (55, .invokevirtual 41, [], 1633), (58, .if_icmp .gt 39, [], 97), (61, .iconst 0, [], 0), (62, .istore 5, [], 0), (64, .iload 5, [0, 0, 0, 1, 0, 0], 0), (66, .aload_n 0, [], 0), (67, .getfield 9, [], 0), (70, .getfield 45, [], 193), (73, .if_icmp .ge 18, [], 91), (76, .aload_n 0, [], 0), (77, .iload 4, [], 0), (79, .iload 5, [], 0), (81, .iload_n 2, [], 0), (82, .invokevirtual 48, [], 17420), (85, .iinc 5 1, [], 1), (88, .goto (-24), [], 64), (91, .iinc 4 1, [], 1), (94, .goto (-45), [], 49), (97, .aload_n 0, [], 0), (98, .iload_n 1, [], 0), (99, .putfield 28, [], 4), (102, .aload_n 0, [], 0), (103, .iload_n 2, [], 0), (104, .putfield 31, [], 5), (107, .aload_n 0, [], 0), (108, .aload_n 0, [], 0), (109, .getfield 9, [], 0), (112, .getfield 34, [], 195), (115, .putfield 24, [], 3), (118, .return_, [], 0)]
def kc_Chains_begin : List Ety := [(0, .aload_n 0, [], 0), (1, .getfield 17, [], 1), (4, .lconst 0, [], 0), (5, .invokestatic 52, [], 16397), (8, .aload_n 0, [], 0), (9, .getfield 21, [], 2), (12, .lconst 0, [], 0), (13, .invokestatic 52, [], 16397), (16, .aload_n 0, [], 0), (17, .lconst 0, [], 0), (18, .putfield 58, [], 6), (21, .iconst 0, [], 0), (22, .istore_n 2, [], 0), (23, .iload_n 2, [0, 0, 0], 0), (24, .aload_n 0, [], 0), (25, .getfield 9, [], 0), (28, .getfield 45, [], 193), (31, .if_icmp .ge 46, [], 77), (34, .iload_n 1, [], 0), (35, .iconst (-1), [], 2), (36, .if_icmp .eq 8, [], 44), (39, .iload_n 1, [], 0), (40, .iload_n 2, [], 0), (41, .if_icmp .ne 30, [], 71), (44, .aload_n 0, [], 0), (45, .getfield 17, [], 1), (48, .iconst 1, [], 1), (49, .iload_n 2, [], 0), (50, .ishl, [], 0), (51, .iload_n 2, [], 0), (52, .invokestatic 62, [], 16910), (55, .ldc2_w 66, [], 3), (58, .lastore, [], 0), (59, .aload_n 0, [], 0), (60, .dup, [], 0), (61, .getfield 58, [], 6), (64, .ldc2_w 66, [], 3), (67, .ladd, [], 0), (68, .putfield 58, [], 6), (71, .iinc 2 1, [], 1), (74, .goto (-51), [], 23), (77, .return_, [], 0)]
def kc_Arr_fillL : List Ety := [(0, .iconst 0, [], 0), (1, .istore_n 3, [], 0), (2, .aload_n 0, [], 0), (3, .arraylength, [], 0), (4, .istore 4, [], 0), (6, .iload_n 3, [0, 0, 1, 0, 0], 0), (7, .iload 4, [], 0), (9, .if_icmp .ge 13, [], 22), (12, .aload_n 0, [], 0), (13, .iload_n 3, [], 0), (14, .lload_n 1, [], 0), (15, .lastore, [], 0), (16, .iinc 3 1, [], 1), (19, .goto (-13), [], 6), (22, .return_, [], 0)]
def kc_Chains_place : List Ety := [(0, .iload_n 0, [], 0), (1, .bipush 9, [], 6), (3, .imul, [], 0), (4, .iload_n 1, [], 0), (5, .iadd, [], 0), (6, .ireturn, [], 0)]
def kc_Chains_goOn : List Ety := [(0, .aload_n 0, [], 0), (1, .getfield 17, [], 1), (4, .iload_n 1, [], 0), (5, .iload_n 2, [], 0), (6, .invokestatic 62, [], 16910), (9, .laload, [], 0), (10, .lstore 4, [], 0), (12, .lload 4, [], 0), (14, .lconst 0, [], 0), (15, .lcmp, [], 0), (16, .ifCond .ne 4, [], 20), (19, .return_, [], 0), (20, .aload_n 0, [], 0), (21, .getfield 9, [], 0), (24, .getfield 68, [], 192), (27, .iload_n 2, [], 0), (28, .iaload, [], 0), (29, .iload_n 1, [], 0), (30, .iconst (-1), [], 2), (31, .ixor, [], 0), (32, .iand, [], 0), (33, .istore 6, [], 0), (35, .iload 6, [], 0), (37, .invokestatic 72, [], 9738), (40, .istore 7, [], 0), (42, .iload 7, [], 0), (44, .ifCond .eq 11, [], 55), (47, .iload_n 1, [], 0), (48, .invokestatic 72, [], 9738), (51, .iload_n 3, [], 0), (52, .if_icmp .lt 15, [], 67), (55, .aload_n 0, [], 0), (56, .getfield 21, [], 2), (59, .iload_n 1, [], 0), (60, .dup2, [], 0), (61, .laload, [], 0), (62, .lload 4, [], 0), (64, .ladd, [], 0), (65, .lastore, [], 0), (66, .return_, [], 0), (67, .iconst 0, [], 0), (68, .istore 8, [], 0), (70, .iload 8, [0, 0, 1, 1, 0, 1, 0, 0, 0], 0), (72, .aload_n 0, [], 0), (73, .getfield 9, [], 0), (76, .getfield 45, [], 193), (79, .if_icmp .ge 45, [], 124), (82, .iload 6, [], 0), (84, .iload 8, [], 0), (86, .ishr, [], 0), (87, .iconst 1, [], 1), (88, .iand, [], 0), (89, .iconst 1, [], 1), (90, .if_icmp .ne 28, [], 118), (93, .aload_n 0, [], 0), (94, .getfield 17, [], 1), (97, .iload_n 1, [], 0), (98, .iconst 1, [], 1), (99, .iload 8, [], 0), (101, .ishl, [], 0), (102, .ior, [], 0), (103, .iload 8, [], 0), (105, .invokestatic 62, [], 16910), (108, .dup2, [], 0), (109, .laload, [], 0), (110, .lload 4, [], 0), (112, .iload 7, [], 0), (114, .i2l, [], 0), (115, .ldiv, [], 0), (116, .ladd, [], 0), (117, .lastore, [], 0), (118, .iinc 8 1, [], 1), (121, .goto (-51), [], 70), (124, .return_, [], 0)]
def kc_Chains_holding : List Ety := [(0, .lconst 0, [], 0), (1, .lstore_n 2, [], 0), (2, .iconst 1, [], 1), (3, .istore 4, [], 0), (5, .iload 4, [0, 0, 0, 1, 0], 0), (7, .aload_n 0, [], 0), (8, .getfield 9, [], 0), (11, .invokevirtual 41, [], 1633), (14, .if_icmp .gt 31, [], 45), (17, .lload_n 2, [], 0), (18, .iload 4, [], 0), (20, .iload_n 1, [], 0), (21, .iand, [], 0), (22, .iload_n 1, [], 0), (23, .if_icmp .ne 13, [], 36), (26, .aload_n 0, [], 0), (27, .getfield 21, [], 2), (30, .iload 4, [], 0), (32, .laload, [], 0), (33, .goto 4, [], 37), (36, .lconst 0, [], 0), (37, .ladd, [], 0), (38, .lstore_n 2, [], 0), (39, .iinc 4 1, [], 1), (42, .goto (-37), [], 5), (45, .lload_n 2, [], 0), (46, .lreturn, [], 0)]
def kc_TO_fraction : List Ety := [(0, .lload_n 0, [], 0), (1, .lload_n 2, [], 0), (2, .invokestatic 388, [], 18959), (5, .lstore 5, [], 0), (7, .lload_n 2, [], 0), (8, .lconst 0, [], 0), (9, .lcmp, [], 0), (10, .ifCond .le 10, [], 20), (13, .lload 5, [], 0), (15, .lconst 0, [], 0), (16, .lcmp, [], 0), (17, .ifCond .gt 9, [], 26), (20, .bipush (-3), [], 18), (22, .invokestatic 144, [], 14859), (25, .lreturn, [], 0), (26, .iload 4, [], 0), (28, .ifCond .ne 7, [], 35), (31, .lload_n 0, [], 0), (32, .goto 4, [], 36), (35, .lload_n 2, [], 0), (36, .lload 5, [], 0), (38, .ldiv, [], 0), (39, .lreturn, [], 0)]
def kc_TO_greatestCommon : List Ety := [(0, .lload_n 0, [], 0), (1, .lstore 4, [], 0), (3, .lload_n 2, [], 0), (4, .lstore 6, [], 0), (6, .iconst 0, [], 0), (7, .istore 8, [], 0), (9, .iload 8, [1, 1, 1, 1, 0, 1, 0, 1, 0, 1, 1], 0), (11, .sipush 200, [], 19), (14, .if_icmp .ge 31, [], 45), (17, .lload 6, [], 0), (19, .lconst 0, [], 0), (20, .lcmp, [], 0), (21, .ifCond .eq 24, [], 45), (24, .lload 4, [], 0), (26, .lload 6, [], 0), (28, .lrem, [], 0), (29, .lstore 9, [], 0), (31, .lload 6, [], 0), (33, .lstore 4, [], 0), (35, .lload 9, [], 0), (37, .lstore 6, [], 0), (39, .iinc 8 1, [], 1), (42, .goto (-33), [], 9), (45, .lload 4, [], 0), (47, .lreturn, [], 0)]
def kc_TO_both : List Ety := [(0, .aload_n 0, [], 0), (1, .getfield 10, [], 512), (4, .iload_n 1, [], 0), (5, .invokevirtual 83, [], 2149), (8, .ifCond .eq 21, [], 29), (11, .aload_n 0, [], 0), (12, .getfield 10, [], 512), (15, .iload_n 2, [], 0), (16, .invokevirtual 83, [], 2149), (19, .ifCond .eq 10, [], 29), (22, .iload_n 3, [], 0), (23, .invokestatic 95, [], 4618), (26, .ifCond .ne 9, [], 35), (29, .bipush (-2), [], 7), (31, .invokestatic 144, [], 14859), (34, .lreturn, [], 0), (35, .aload_n 0, [], 0), (36, .getfield 21, [], 513), (39, .aload_n 0, [], 0), (40, .getfield 69, [], 520), (43, .aload_n 0, [], 0), (44, .getfield 73, [], 521), (47, .invokevirtual 148, [], 15368), (50, .aload_n 0, [], 0), (51, .getfield 21, [], 513), (54, .iconst 1, [], 1), (55, .iload_n 1, [], 0), (56, .ishl, [], 0), (57, .iconst 1, [], 1), (58, .iload_n 2, [], 0), (59, .ishl, [], 0), (60, .ior, [], 0), (61, .invokevirtual 151, [], 17926), (64, .aload_n 0, [], 0), (65, .getfield 21, [], 513), (68, .getfield 154, [], 6), (71, .iload_n 3, [], 0), (72, .invokestatic 158, [], 18451), (75, .lreturn, [], 0)]
def kc_TO_size : List Ety := [(0, .iload_n 1, [], 0), (1, .iconst 1, [], 1), (2, .bipush 7, [], 16), (4, .invokestatic 162, [], 12818), (7, .ifCond .eq 10, [], 17), (10, .iload_n 2, [], 0), (11, .invokestatic 95, [], 4618), (14, .ifCond .ne 9, [], 23), (17, .bipush (-2), [], 7), (19, .invokestatic 144, [], 14859), (22, .lreturn, [], 0), (23, .aload_n 0, [], 0), (24, .getfield 21, [], 513), (27, .aload_n 0, [], 0), (28, .getfield 69, [], 520), (31, .aload_n 0, [], 0), (32, .getfield 73, [], 521), (35, .invokevirtual 148, [], 15368), (38, .aload_n 0, [], 0), (39, .getfield 21, [], 513), (42, .iload_n 1, [], 0), (43, .invokevirtual 166, [], 20486), (46, .aload_n 0, [], 0), (47, .getfield 21, [], 513), (50, .getfield 154, [], 6), (53, .iload_n 2, [], 0), (54, .invokestatic 158, [], 18451), (57, .lreturn, [], 0)]
def kc_Chains_ofSize : List Ety := [(0, .lconst 0, [], 0), (1, .lstore_n 2, [], 0), (2, .iconst 1, [], 1), (3, .istore 4, [], 0), (5, .iload 4, [0, 0, 0, 1, 0], 0), (7, .aload_n 0, [], 0), (8, .getfield 9, [], 0), (11, .invokevirtual 41, [], 1633), (14, .if_icmp .gt 32, [], 46), (17, .lload_n 2, [], 0), (18, .iload 4, [], 0), (20, .invokestatic 72, [], 9738), (23, .iload_n 1, [], 0), (24, .if_icmp .ne 13, [], 37), (27, .aload_n 0, [], 0), (28, .getfield 21, [], 2), (31, .iload 4, [], 0), (33, .laload, [], 0), (34, .goto 4, [], 38), (37, .lconst 0, [], 0), (38, .ladd, [], 0), (39, .lstore_n 2, [], 0), (40, .iinc 4 1, [], 1), (43, .goto (-38), [], 5), (46, .lload_n 2, [], 0), (47, .lreturn, [], 0)]
def kc_TO_kinds : List Ety := [(0, .iload_n 1, [], 0), (1, .iconst 0, [], 0), (2, .bipush 7, [], 16), (4, .invokestatic 162, [], 12818), (7, .ifCond .eq 10, [], 17), (10, .iload_n 2, [], 0), (11, .invokestatic 95, [], 4618), (14, .ifCond .ne 9, [], 23), (17, .bipush (-2), [], 7), (19, .invokestatic 144, [], 14859), (22, .lreturn, [], 0), (23, .aload_n 0, [], 0), (24, .getfield 21, [], 513), (27, .aload_n 0, [], 0), (28, .getfield 69, [], 520), (31, .aload_n 0, [], 0), (32, .getfield 73, [], 521), (35, .invokevirtual 148, [], 15368), (38, .aload_n 0, [], 0), (39, .getfield 21, [], 513), (42, .iload_n 1, [], 0), (43, .invokevirtual 169, [], 21510), (46, .aload_n 0, [], 0), (47, .getfield 21, [], 513), (50, .getfield 154, [], 6), (53, .iload_n 2, [], 0), (54, .invokestatic 158, [], 18451), (57, .lreturn, [], 0)]
def kc_Chains_ofKind : List Ety := [(0, .lconst 0, [], 0), (1, .lstore_n 2, [], 0), (2, .iconst 1, [], 1), (3, .istore 4, [], 0), (5, .iload 4, [0, 0, 0, 1, 0], 0), (7, .aload_n 0, [], 0), (8, .getfield 9, [], 0), (11, .invokevirtual 41, [], 1633), (14, .if_icmp .gt 40, [], 54), (17, .lload_n 2, [], 0), (18, .iload 4, [], 0), (20, .aload_n 0, [], 0), (21, .getfield 9, [], 0), (24, .getfield 78, [], 194), (27, .iand, [], 0), (28, .invokestatic 72, [], 9738), (31, .iload_n 1, [], 0), (32, .if_icmp .ne 13, [], 45), (35, .aload_n 0, [], 0), (36, .getfield 21, [], 2), (39, .iload 4, [], 0), (41, .laload, [], 0), (42, .goto 4, [], 46), (45, .lconst 0, [], 0), (46, .ladd, [], 0), (47, .lstore_n 2, [], 0), (48, .iinc 4 1, [], 1), (51, .goto (-46), [], 5), (54, .lload_n 2, [], 0), (55, .lreturn, [], 0)]
def kc_TO_within : List Ety := [(0, .iload_n 1, [], 0), (1, .iconst 0, [], 0), (2, .bipush 100, [], 20), (4, .invokestatic 162, [], 12818), (7, .ifCond .eq 10, [], 17), (10, .iload_n 2, [], 0), (11, .invokestatic 95, [], 4618), (14, .ifCond .ne 9, [], 23), (17, .bipush (-2), [], 7), (19, .invokestatic 144, [], 14859), (22, .lreturn, [], 0), (23, .aload_n 0, [], 0), (24, .getfield 21, [], 513), (27, .aload_n 0, [], 0), (28, .getfield 69, [], 520), (31, .aload_n 0, [], 0), (32, .getfield 73, [], 521), (35, .invokevirtual 148, [], 15368), (38, .aload_n 0, [], 0), (39, .getfield 21, [], 513), (42, .iload_n 1, [], 0), (43, .invokevirtual 172, [], 22534), (46, .aload_n 0, [], 0), (47, .getfield 21, [], 513), (50, .getfield 154, [], 6), (53, .iload_n 2, [], 0), (54, .invokestatic 158, [], 18451), (57, .lreturn, [], 0)]
def kc_Chains_near : List Ety := [(0, .lconst 0, [], 0), (1, .lstore_n 2, [], 0), (2, .iconst 1, [], 1), (3, .istore 4, [], 0), (5, .iload 4, [0, 0, 0, 1, 0], 0), (7, .aload_n 0, [], 0), (8, .getfield 9, [], 0), (11, .invokevirtual 41, [], 1633), (14, .if_icmp .gt 45, [], 59), (17, .lload_n 2, [], 0), (18, .aload_n 0, [], 0), (19, .getfield 21, [], 2), (22, .iload 4, [], 0), (24, .laload, [], 0), (25, .lconst 0, [], 0), (26, .lcmp, [], 0), (27, .ifCond .le 23, [], 50), (30, .aload_n 0, [], 0), (31, .iload 4, [], 0), (33, .iload_n 1, [], 0), (34, .invokevirtual 81, [], 23049), (37, .ifCond .eq 13, [], 50), (40, .aload_n 0, [], 0), (41, .getfield 21, [], 2), (44, .iload 4, [], 0), (46, .laload, [], 0), (47, .goto 4, [], 51), (50, .lconst 0, [], 0), (51, .ladd, [], 0), (52, .lstore_n 2, [], 0), (53, .iinc 4 1, [], 1), (56, .goto (-51), [], 5), (59, .lload_n 2, [], 0), (60, .lreturn, [], 0)]
def kc_Chains_isNear : List Ety := [(0, .aload_n 0, [], 0), (1, .iload_n 1, [], 0), (2, .aload_n 0, [], 0), (3, .getfield 9, [], 0), (6, .getfield 78, [], 194), (9, .iand, [], 0), (10, .invokevirtual 85, [], 23558), (13, .lstore_n 3, [], 0), (14, .aload_n 0, [], 0), (15, .iload_n 1, [], 0), (16, .invokevirtual 85, [], 23558), (19, .lstore 5, [], 0), (21, .lload_n 3, [], 0), (22, .aload_n 0, [], 0), (23, .getfield 9, [], 0), (26, .getfield 45, [], 193), (29, .i2l, [], 0), (30, .lmul, [], 0), (31, .lload 5, [], 0), (33, .aload_n 0, [], 0), (34, .getfield 9, [], 0), (37, .invokevirtual 89, [], 24161), (40, .i2l, [], 0), (41, .lmul, [], 0), (42, .lsub, [], 0), (43, .invokestatic 92, [], 3), (46, .lstore 7, [], 0), (48, .lload 7, [], 0), (50, .ldc2_w 98, [], 4), (53, .lmul, [], 0), (54, .lload 5, [], 0), (56, .aload_n 0, [], 0), (57, .getfield 9, [], 0), (60, .getfield 45, [], 193), (63, .i2l, [], 0), (64, .lmul, [], 0), (65, .iload_n 2, [], 0), (66, .i2l, [], 0), (67, .lmul, [], 0), (68, .lcmp, [], 0), (69, .ifCond .gt 7, [], 76), (72, .iconst 1, [], 1), (73, .goto 4, [], 77), (76, .iconst 0, [], 0), (77, .ireturn, [], 0)]
def kc_Chains_weight : List Ety := [(0, .lconst 0, [], 0), (1, .lstore_n 2, [], 0), (2, .iconst 0, [], 0), (3, .istore 4, [], 0), (5, .iload 4, [0, 0, 0, 1, 0, 1], 0), (7, .aload_n 0, [], 0), (8, .getfield 9, [], 0), (11, .getfield 45, [], 193), (14, .if_icmp .ge 45, [], 59), (17, .iconst 1, [], 1), (18, .aload_n 0, [], 0), (19, .getfield 9, [], 0), (22, .getfield 68, [], 192), (25, .iload 4, [], 0), (27, .iaload, [], 0), (28, .invokestatic 72, [], 9738), (31, .invokestatic 100, [], 1), (34, .istore 5, [], 0), (36, .lload_n 2, [], 0), (37, .iload_n 1, [], 0), (38, .iload 4, [], 0), (40, .ishr, [], 0), (41, .iconst 1, [], 1), (42, .iand, [], 0), (43, .sipush 840, [], 21), (46, .iload 5, [], 0), (48, .idiv, [], 0), (49, .imul, [], 0), (50, .i2l, [], 0), (51, .ladd, [], 0), (52, .lstore_n 2, [], 0), (53, .iinc 4 1, [], 1), (56, .goto (-51), [], 5), (59, .lload_n 2, [], 0), (60, .lreturn, [], 0)]
def kc_Net_kindOnes : List Ety := [(0, .aload_n 0, [], 0), (1, .getfield 29, [], 194), (4, .invokestatic 23, [], 9738), (7, .ireturn, [], 0)]
def kc_TO_at : List Ety := [(0, .iload_n 1, [], 0), (1, .iconst 0, [], 0), (2, .iconst 5, [], 22), (3, .invokestatic 162, [], 12818), (6, .ifCond .eq 21, [], 27), (9, .aload_n 0, [], 0), (10, .getfield 10, [], 512), (13, .iload_n 2, [], 0), (14, .invokevirtual 83, [], 2149), (17, .ifCond .eq 10, [], 27), (20, .iload_n 3, [], 0), (21, .invokestatic 95, [], 4618), (24, .ifCond .ne 9, [], 33), (27, .bipush (-2), [], 7), (29, .invokestatic 144, [], 14859), (32, .lreturn, [], 0), (33, .aload_n 0, [], 0), (34, .getfield 28, [], 514), (37, .aload_n 0, [], 0), (38, .getfield 69, [], 520), (41, .iload_n 1, [], 0), (42, .invokevirtual 175, [], 25320), (45, .aload_n 0, [], 0), (46, .getfield 28, [], 514), (49, .getfield 178, [], 450), (52, .iload_n 2, [], 0), (53, .laload, [], 0), (54, .aload_n 0, [], 0), (55, .getfield 28, [], 514), (58, .getfield 182, [], 451), (61, .iload_n 3, [], 0), (62, .invokestatic 158, [], 18451), (65, .lreturn, [], 0)]
def kc_Walk_go : List Ety := [(0, .aload_n 0, [], 0), (1, .lconst 0, [], 0), (2, .putfield 24, [], 451), (5, .iconst 0, [], 0), (6, .istore_n 3, [], 0), (7, .iload_n 3, [0, 0, 0, 0, 1], 0), (8, .bipush 9, [], 6), (10, .if_icmp .ge 70, [], 80), (13, .aload_n 0, [], 0), (14, .getfield 9, [], 448), (17, .iload_n 3, [], 0), (18, .invokevirtual 28, [], 2149), (21, .ifCond .eq 17, [], 38), (24, .iload_n 1, [], 0), (25, .iconst (-1), [], 2), (26, .if_icmp .eq 8, [], 34), (29, .iload_n 1, [], 0), (30, .iload_n 3, [], 0), (31, .if_icmp .ne 7, [], 38), (34, .iconst 1, [], 1), (35, .goto 4, [], 39), (38, .iconst 0, [], 0), (39, .istore 4, [], 0), (41, .aload_n 0, [], 0), (42, .getfield 17, [], 450), (45, .iload_n 3, [], 0), (46, .iload 4, [], 0), (48, .ifCond .eq 9, [], 57), (51, .ldc2_w 32, [], 5), (54, .goto 4, [], 58), (57, .lconst 0, [], 0), (58, .lastore, [], 0), (59, .aload_n 0, [], 0), (60, .dup, [], 0), (61, .getfield 24, [], 451), (64, .aload_n 0, [], 0), (65, .getfield 17, [], 450), (68, .iload_n 3, [], 0), (69, .laload, [], 0), (70, .ladd, [], 0), (71, .putfield 24, [], 451), (74, .iinc 3 1, [], 1), (77, .goto (-70), [], 7), (80, .iconst 0, [], 0), (81, .istore_n 3, [], 0), (82, .iload_n 3, [0, 1, 0, 0, 1], 0), (83, .iload_n 2, [], 0), (84, .if_icmp .ge 13, [], 97), (87, .aload_n 0, [], 0), (88, .invokevirtual 34, [], 25824), (91, .iinc 3 1, [], 1), (94, .goto (-12), [], 82), (97, .return_, [], 0)]
def kc_Walk_step : List Ety := [(0, .aload_n 0, [], 0), (1, .getfield 21, [], 449), (4, .lconst 0, [], 0), (5, .invokestatic 37, [], 16397), (8, .iconst 0, [], 0), (9, .istore_n 1, [], 0), (10, .iload_n 1, [0, 0, 1, 1], 0), (11, .aload_n 0, [], 0), (12, .getfield 9, [], 448), (15, .getfield 43, [], 193), (18, .if_icmp .ge 93, [], 111), (21, .aload_n 0, [], 0), (22, .getfield 9, [], 448), (25, .iload_n 1, [], 0), (26, .invokevirtual 47, [], 9317), (29, .istore_n 2, [], 0), (30, .iload_n 2, [], 0), (31, .ifCond .ne 21, [], 52), (34, .aload_n 0, [], 0), (35, .getfield 21, [], 449), (38, .iload_n 1, [], 0), (39, .dup2, [], 0), (40, .laload, [], 0), (41, .aload_n 0, [], 0), (42, .getfield 17, [], 450), (45, .iload_n 1, [], 0), (46, .laload, [], 0), (47, .ladd, [], 0), (48, .lastore, [], 0), (49, .goto 56, [], 105), (52, .iconst 0, [], 0), (53, .istore_n 3, [], 0), (54, .iload_n 3, [0, 0, 0, 0], 0), (55, .aload_n 0, [], 0), (56, .getfield 9, [], 448), (59, .getfield 43, [], 193), (62, .if_icmp .ge 43, [], 105), (65, .aload_n 0, [], 0), (66, .getfield 21, [], 449), (69, .iload_n 3, [], 0), (70, .dup2, [], 0), (71, .laload, [], 0), (72, .aload_n 0, [], 0), (73, .getfield 9, [], 448), (76, .iload_n 1, [], 0), (77, .iload_n 3, [], 0), (78, .invokevirtual 51, [], 3177), (81, .ifCond .eq 15, [], 96), (84, .aload_n 0, [], 0), (85, .getfield 17, [], 450), (88, .iload_n 1, [], 0), (89, .laload, [], 0), (90, .iload_n 2, [], 0), (91, .i2l, [], 0), (92, .ldiv, [], 0), (93, .goto 4, [], 97), (96, .lconst 0, [], 0), (97, .ladd, [], 0), (98, .lastore, [], 0), (99, .iinc 3 1, [], 1), (102, .goto (-48), [], 54), (105, .iinc 1 1, [], 1), (108, .goto (-98), [], 10), (111, .aload_n 0, [], 0), (112, .getfield 21, [], 449), (115, .iconst 0, [], 0), (116, .aload_n 0, [], 0), (117, .getfield 17, [], 450), (120, .iconst 0, [], 0), (121, .bipush 9, [], 6), (123, .invokestatic 55, [], 0), (126, .return_, [], 0)]
def kc_TO_lasting : List Ety := [(0, .aload_n 0, [], 0), (1, .getfield 10, [], 512), (4, .iload_n 1, [], 0), (5, .invokevirtual 83, [], 2149), (8, .ifCond .eq 10, [], 18), (11, .iload_n 2, [], 0), (12, .invokestatic 95, [], 4618), (15, .ifCond .ne 9, [], 24), (18, .bipush (-2), [], 7), (20, .invokestatic 144, [], 14859), (23, .lreturn, [], 0), (24, .aload_n 0, [], 0), (25, .getfield 10, [], 512), (28, .iload_n 1, [], 0), (29, .invokevirtual 126, [], 9317), (32, .i2l, [], 0), (33, .aload_n 0, [], 0), (34, .getfield 10, [], 512), (37, .aload_n 0, [], 0), (38, .getfield 10, [], 512), (41, .invokevirtual 183, [], 1633), (44, .invokevirtual 187, [], 26725), (47, .i2l, [], 0), (48, .iload_n 2, [], 0), (49, .invokestatic 158, [], 18451), (52, .lreturn, [], 0)]
def kc_Net_degrees : List Ety := [(0, .iconst 0, [], 0), (1, .istore_n 2, [], 0), (2, .iconst 0, [], 0), (3, .istore_n 3, [], 0), (4, .iload_n 3, [0, 0, 0, 0], 0), (5, .aload_n 0, [], 0), (6, .getfield 15, [], 193), (9, .if_icmp .ge 23, [], 32), (12, .iload_n 2, [], 0), (13, .iload_n 1, [], 0), (14, .iload_n 3, [], 0), (15, .ishr, [], 0), (16, .iconst 1, [], 1), (17, .iand, [], 0), (18, .aload_n 0, [], 0), (19, .iload_n 3, [], 0), (20, .invokevirtual 39, [], 9317), (23, .imul, [], 0), (24, .iadd, [], 0), (25, .istore_n 2, [], 0), (26, .iinc 3 1, [], 1), (29, .goto (-25), [], 4), (32, .iload_n 2, [], 0), (33, .ireturn, [], 0)]
def kc_TO_strayed : List Ety := [(0, .iload_n 1, [], 0), (1, .iconst 0, [], 0), (2, .iconst 5, [], 22), (3, .invokestatic 162, [], 12818), (6, .ifCond .eq 10, [], 16), (9, .iload_n 2, [], 0), (10, .invokestatic 95, [], 4618), (13, .ifCond .ne 9, [], 22), (16, .bipush (-2), [], 7), (18, .invokestatic 144, [], 14859), (21, .lreturn, [], 0), (22, .aload_n 0, [], 0), (23, .getfield 28, [], 514), (26, .aload_n 0, [], 0), (27, .getfield 69, [], 520), (30, .iload_n 1, [], 0), (31, .invokevirtual 175, [], 25320), (34, .aload_n 0, [], 0), (35, .getfield 28, [], 514), (38, .invokevirtual 190, [], 27874), (41, .aload_n 0, [], 0), (42, .getfield 28, [], 514), (45, .invokevirtual 194, [], 28386), (48, .iload_n 2, [], 0), (49, .invokestatic 158, [], 18451), (52, .lreturn, [], 0)]
def kc_Walk_apart : List Ety := [(0, .aload_n 0, [], 0), (1, .getfield 9, [], 448), (4, .aload_n 0, [], 0), (5, .getfield 9, [], 448), (8, .invokevirtual 61, [], 1633), (11, .invokevirtual 65, [], 26725), (14, .i2l, [], 0), (15, .lstore_n 1, [], 0), (16, .lconst 0, [], 0), (17, .lstore_n 3, [], 0), (18, .iconst 0, [], 0), (19, .istore 5, [], 0), (21, .iload 5, [0, 0, 1, 0, 1, 0], 0), (23, .aload_n 0, [], 0), (24, .getfield 9, [], 448), (27, .getfield 43, [], 193), (30, .if_icmp .ge 40, [], 70), (33, .lload_n 3, [], 0), (34, .aload_n 0, [], 0), (35, .getfield 17, [], 450), (38, .iload 5, [], 0), (40, .laload, [], 0), (41, .lload_n 1, [], 0), (42, .lmul, [], 0), (43, .aload_n 0, [], 0), (44, .getfield 9, [], 448), (47, .iload 5, [], 0), (49, .invokevirtual 47, [], 9317), (52, .i2l, [], 0), (53, .aload_n 0, [], 0), (54, .getfield 24, [], 451), (57, .lmul, [], 0), (58, .lsub, [], 0), (59, .invokestatic 68, [], 3), (62, .ladd, [], 0), (63, .lstore_n 3, [], 0), (64, .iinc 5 1, [], 1), (67, .goto (-46), [], 21), (70, .lload_n 3, [], 0), (71, .lreturn, [], 0)]
def kc_Walk_mostApart : List Ety := [(0, .ldc2_w 74, [], 6), (3, .aload_n 0, [], 0), (4, .getfield 24, [], 451), (7, .lmul, [], 0), (8, .aload_n 0, [], 0), (9, .getfield 9, [], 448), (12, .aload_n 0, [], 0), (13, .getfield 9, [], 448), (16, .invokevirtual 61, [], 1633), (19, .invokevirtual 65, [], 26725), (22, .i2l, [], 0), (23, .lmul, [], 0), (24, .lreturn, [], 0)]
def kc_TO_came : List Ety := [(0, .iload_n 1, [], 0), (1, .iconst (-1), [], 2), (2, .if_icmp .eq 14, [], 16), (5, .aload_n 0, [], 0), (6, .getfield 35, [], 515), (9, .iload_n 1, [], 0), (10, .invokevirtual 197, [], 29317), (13, .ifCond .eq 7, [], 20), (16, .iconst 1, [], 1), (17, .goto 4, [], 21), (20, .iconst 0, [], 0), (21, .istore 5, [], 0), (23, .iload_n 3, [], 0), (24, .iconst (-1), [], 2), (25, .if_icmp .eq 13, [], 38), (28, .iload_n 3, [], 0), (29, .iconst 1, [], 1), (30, .bipush 20, [], 23), (32, .invokestatic 162, [], 12818), (35, .ifCond .eq 7, [], 42), (38, .iconst 1, [], 1), (39, .goto 4, [], 43), (42, .iconst 0, [], 0), (43, .istore 6, [0, 0, 0, 0, 0, 0, 1], 0), (45, .iload 5, [], 0), (47, .ifCond .eq 27, [], 74), (50, .iload_n 2, [], 0), (51, .invokestatic 95, [], 4618), (54, .ifCond .eq 20, [], 74), (57, .iload 6, [], 0), (59, .ifCond .eq 15, [], 74), (62, .aload_n 0, [], 0), (63, .getfield 35, [], 515), (66, .iload 4, [], 0), (68, .invokevirtual 198, [], 29829), (71, .ifCond .ne 6, [], 77), (74, .bipush (-2), [1, 1, 1, 1, 1, 1, 1], 7), (76, .ireturn, [], 0), (77, .aload_n 0, [], 0), (78, .getfield 35, [], 515), (81, .getfield 201, [], 265), (84, .bipush 24, [], 24), (86, .if_icmp .lt 6, [], 92), (89, .bipush (-4), [], 25), (91, .ireturn, [], 0), (92, .iload_n 1, [], 0), (93, .iconst (-1), [], 2), (94, .if_icmp .eq 19, [], 113), (97, .aload_n 0, [], 0), (98, .getfield 35, [], 515), (101, .getfield 204, [], 263), (104, .iload_n 1, [], 0), (105, .iaload, [], 0), (106, .iconst 3, [], 4), (107, .if_icmp .lt 6, [], 113), (110, .bipush (-3), [], 18), (112, .ireturn, [], 0), (113, .aload_n 0, [], 0), (114, .getfield 35, [], 515), (117, .iload_n 1, [], 0), (118, .iload_n 2, [], 0), (119, .iload_n 3, [], 0), (120, .iload 4, [], 0), (122, .invokevirtual 207, [], 30353), (125, .ireturn, [], 0)]
def kc_Records_holds : List Ety := [(0, .iload_n 1, [], 0), (1, .ifCond .lt 15, [], 16), (4, .iload_n 1, [], 0), (5, .aload_n 0, [], 0), (6, .getfield 44, [], 265), (9, .if_icmp .ge 7, [], 16), (12, .iconst 1, [], 1), (13, .goto 4, [], 17), (16, .iconst 0, [], 0), (17, .ireturn, [], 0)]
def kc_Records_isNextDay : List Ety := [(0, .iload_n 1, [], 0), (1, .aload_n 0, [], 0), (2, .getfield 47, [], 266), (5, .if_icmp .lt 13, [], 18), (8, .iload_n 1, [], 0), (9, .bipush 99, [], 17), (11, .if_icmp .gt 7, [], 18), (14, .iconst 1, [], 1), (15, .goto 4, [], 19), (18, .iconst 0, [], 0), (19, .ireturn, [], 0)]
def kc_Records_tell : List Ety := [(0, .aload_n 0, [], 0), (1, .getfield 44, [], 265), (4, .bipush 24, [], 24), (6, .if_icmp .lt 6, [], 12), (9, .bipush (-4), [], 25), (11, .ireturn, [], 0), (12, .aload_n 0, [], 0), (13, .getfield 44, [], 265), (16, .istore 5, [], 0), (18, .aload_n 0, [], 0), (19, .iload_n 1, [], 0), (20, .invokevirtual 50, [], 29317), (23, .ifCond .ne 7, [], 30), (26, .iconst 1, [], 1), (27, .goto 4, [], 31), (30, .iconst 0, [], 0), (31, .istore 6, [], 0), (33, .aload_n 0, [], 0), (34, .getfield 11, [], 256), (37, .iload 5, [], 0), (39, .iload 6, [], 0), (41, .ifCond .eq 7, [], 48), (44, .iconst (-1), [], 2), (45, .goto 4, [], 49), (48, .iload_n 1, [], 0), (49, .iastore, [], 0), (50, .aload_n 0, [], 0), (51, .getfield 15, [], 257), (54, .iload 5, [], 0), (56, .iload_n 2, [], 0), (57, .iastore, [], 0), (58, .aload_n 0, [], 0), (59, .getfield 18, [], 258), (62, .iload 5, [], 0), (64, .iload_n 3, [], 0), (65, .iastore, [], 0), (66, .aload_n 0, [], 0), (67, .getfield 21, [], 259), (70, .iload 5, [], 0), (72, .iload 4, [], 0), (74, .iastore, [], 0), (75, .aload_n 0, [], 0), (76, .getfield 24, [], 260), (79, .iload 5, [], 0), (81, .bipush 100, [], 20), (83, .iastore, [], 0), (84, .aload_n 0, [], 0), (85, .getfield 27, [], 261), (88, .iload 5, [], 0), (90, .iload 6, [], 0), (92, .ifCond .eq 7, [], 99), (95, .iconst 0, [], 0), (96, .goto 11, [], 107), (99, .aload_n 0, [], 0), (100, .getfield 27, [], 261), (103, .iload_n 1, [], 0), (104, .iaload, [], 0), (105, .iconst 1, [], 1), (106, .iadd, [], 0), (107, .iastore, [], 0), (108, .aload_n 0, [], 0), (109, .getfield 30, [], 262), (112, .iload 5, [], 0), (114, .iload 6, [], 0), (116, .ifCond .eq 8, [], 124), (119, .iload 5, [], 0), (121, .goto 9, [], 130), (124, .aload_n 0, [], 0), (125, .getfield 30, [], 262), (128, .iload_n 1, [], 0), (129, .iaload, [], 0), (130, .iastore, [], 0), (131, .aload_n 0, [], 0), (132, .getfield 33, [], 263), (135, .iload 5, [], 0), (137, .iconst 0, [], 0), (138, .iastore, [], 0), (139, .iload 6, [], 0), (141, .ifCond .ne 13, [], 154), (144, .aload_n 0, [], 0), (145, .getfield 33, [], 263), (148, .iload_n 1, [], 0), (149, .dup2, [], 0), (150, .iaload, [], 0), (151, .iconst 1, [], 1), (152, .iadd, [], 0), (153, .iastore, [], 0), (154, .aload_n 0, [], 0), (155, .dup, [], 0), (156, .getfield 44, [], 265), (159, .iconst 1, [], 1), (160, .iadd, [], 0), (161, .putfield 44, [], 265), (164, .aload_n 0, [], 0), (165, .iload 4, [], 0), (167, .putfield 47, [], 266), (170, .aload_n 0, [], 0), (171, .aload_n 0, [], 0), (172, .getfield 40, [], 267), (175, .invokevirtual 54, [], 13956), (178, .iload 5, [], 0), (180, .ireturn, [], 0)]
def kc_TO_takeBack : List Ety := [(0, .aload_n 0, [], 0), (1, .getfield 35, [], 515), (4, .iload_n 1, [], 0), (5, .invokevirtual 197, [], 29317), (8, .ifCond .eq 14, [], 22), (11, .aload_n 0, [], 0), (12, .getfield 35, [], 515), (15, .iload_n 2, [], 0), (16, .invokevirtual 198, [], 29829), (19, .ifCond .ne 6, [], 25), (22, .bipush (-2), [], 7), (24, .ireturn, [], 0), (25, .aload_n 0, [], 0), (26, .getfield 35, [], 515), (29, .getfield 211, [], 260), (32, .iload_n 1, [], 0), (33, .iaload, [], 0), (34, .bipush 100, [], 20), (36, .if_icmp .eq 6, [], 42), (39, .bipush (-3), [], 18), (41, .ireturn, [], 0), (42, .aload_n 0, [], 0), (43, .getfield 35, [], 515), (46, .iload_n 1, [], 0), (47, .iload_n 2, [], 0), (48, .invokevirtual 214, [], 31368), (51, .iconst 1, [], 1), (52, .ireturn, [], 0)]
def kc_Records_untell : List Ety := [(0, .aload_n 0, [], 0), (1, .iload_n 1, [], 0), (2, .invokevirtual 50, [], 29317), (5, .ifCond .ne 4, [], 9), (8, .return_, [], 0), (9, .aload_n 0, [], 0), (10, .getfield 24, [], 260), (13, .iload_n 1, [], 0), (14, .iload_n 2, [], 0), (15, .iastore, [], 0), (16, .aload_n 0, [], 0), (17, .iload_n 2, [], 0), (18, .putfield 47, [], 266), (21, .aload_n 0, [], 0), (22, .aload_n 0, [], 0), (23, .getfield 40, [], 267), (26, .invokevirtual 54, [], 13956), (29, .return_, [], 0)]
def kc_TO_record : List Ety := [(0, .aload_n 0, [], 0), (1, .getfield 35, [], 515), (4, .iload_n 1, [], 0), (5, .invokevirtual 197, [], 29317), (8, .ifCond .eq 13, [], 21), (11, .iload_n 2, [], 0), (12, .iconst 0, [], 0), (13, .bipush 7, [], 16), (15, .invokestatic 162, [], 12818), (18, .ifCond .ne 6, [], 24), (21, .bipush (-5), [], 15), (23, .ireturn, [], 0), (24, .aload_n 0, [], 0), (25, .getfield 35, [], 515), (28, .iload_n 1, [], 0), (29, .iload_n 2, [], 0), (30, .invokevirtual 217, [], 32393), (33, .ireturn, [], 0)]
def kc_Records_detail : List Ety := [(0, .iload_n 2, [], 0), (1, .tableswitch 100 0 6 #[43, 50, 57, 64, 71, 86, 93], [], 2), (44, .aload_n 0, [], 0), (45, .getfield 11, [], 256), (48, .iload_n 1, [], 0), (49, .iaload, [], 0), (50, .ireturn, [], 0), (51, .aload_n 0, [], 0), (52, .getfield 15, [], 257), (55, .iload_n 1, [], 0), (56, .iaload, [], 0), (57, .ireturn, [], 0), (58, .aload_n 0, [], 0), (59, .getfield 18, [], 258), (62, .iload_n 1, [], 0), (63, .iaload, [], 0), (64, .ireturn, [], 0), (65, .aload_n 0, [], 0), (66, .getfield 21, [], 259), (69, .iload_n 1, [], 0), (70, .iaload, [], 0), (71, .ireturn, [], 0), (72, .aload_n 0, [], 0), (73, .getfield 36, [], 264), (76, .iload_n 1, [], 0), (77, .baload, [], 0), (78, .ifCond .eq 7, [], 85), (81, .iconst 1, [], 1), (82, .goto 4, [], 86), (85, .iconst 0, [], 0), (86, .ireturn, [], 0), (87, .aload_n 0, [], 0), (88, .getfield 27, [], 261), (91, .iload_n 1, [], 0), (92, .iaload, [], 0), (93, .ireturn, [], 0), (94, .aload_n 0, [], 0), (95, .getfield 30, [], 262), (98, .iload_n 1, [], 0), (99, .iaload, [], 0), (100, .ireturn, [], 0), (101, .aload_n 0, [], 0), (102, .getfield 33, [], 263), (105, .iload_n 1, [], 0), (106, .iaload, [], 0), (107, .ireturn, [], 0)]
def kc_TO_share : List Ety := [(0, .iload_n 1, [], 0), (1, .iconst 0, [], 0), (2, .iconst 2, [], 3), (3, .invokestatic 162, [], 12818), (6, .ifCond .eq 10, [], 16), (9, .iload_n 2, [], 0), (10, .invokestatic 95, [], 4618), (13, .ifCond .ne 9, [], 22), (16, .bipush (-2), [], 7), (18, .invokestatic 144, [], 14859), (21, .lreturn, [], 0), (22, .iload_n 1, [], 0), (23, .ifCond .ne 24, [], 47), (26, .aload_n 0, [], 0), (27, .getfield 44, [], 516), (30, .iconst 1, [], 1), (31, .invokevirtual 220, [], 33446), (34, .aload_n 0, [], 0), (35, .getfield 44, [], 516), (38, .iconst 0, [], 0), (39, .invokevirtual 220, [], 33446), (42, .iload_n 2, [], 0), (43, .invokestatic 223, [], 34323), (46, .lreturn, [], 0), (47, .iload_n 1, [], 0), (48, .iconst 1, [], 1), (49, .if_icmp .ne 26, [], 75), (52, .aload_n 0, [], 0), (53, .getfield 44, [], 516), (56, .iconst 1, [], 1), (57, .iconst (-1), [], 2), (58, .invokevirtual 226, [], 34986), (61, .aload_n 0, [], 0), (62, .getfield 44, [], 516), (65, .iconst 0, [], 0), (66, .iconst (-1), [], 2), (67, .invokevirtual 226, [], 34986), (70, .iload_n 2, [], 0), (71, .invokestatic 223, [], 34323), (74, .lreturn, [], 0), (75, .aload_n 0, [], 0), (76, .getfield 44, [], 516), (79, .iconst 1, [], 1), (80, .invokevirtual 230, [], 36006), (83, .aload_n 0, [], 0), (84, .getfield 44, [], 516), (87, .iconst 0, [], 0), (88, .invokevirtual 230, [], 36006), (91, .iload_n 2, [], 0), (92, .invokestatic 223, [], 34323), (95, .lreturn, [], 0)]
def kc_Shares_taken : List Ety := [(0, .lconst 0, [], 0), (1, .lstore_n 2, [], 0), (2, .iconst 0, [], 0), (3, .istore 4, [], 0), (5, .iload 4, [0, 0, 0, 1, 0], 0), (7, .aload_n 0, [], 0), (8, .getfield 9, [], 320), (11, .getfield 19, [], 265), (14, .if_icmp .ge 43, [], 57), (17, .lload_n 2, [], 0), (18, .aload_n 0, [], 0), (19, .getfield 9, [], 320), (22, .iload 4, [], 0), (24, .invokevirtual 25, [], 33925), (27, .ifCond .eq 21, [], 48), (30, .aload_n 0, [], 0), (31, .getfield 9, [], 320), (34, .getfield 29, [], 257), (37, .iload 4, [], 0), (39, .iaload, [], 0), (40, .iload_n 1, [], 0), (41, .if_icmp .ne 7, [], 48), (44, .lconst 1, [], 1), (45, .goto 4, [], 49), (48, .lconst 0, [], 0), (49, .ladd, [], 0), (50, .lstore_n 2, [], 0), (51, .iinc 4 1, [], 1), (54, .goto (-49), [], 5), (57, .lload_n 2, [], 0), (58, .lreturn, [], 0)]
def kc_Records_isTaken : List Ety := [(0, .aload_n 0, [], 0), (1, .getfield 36, [], 264), (4, .iload_n 1, [], 0), (5, .baload, [], 0), (6, .ifCond .eq 20, [], 26), (9, .aload_n 0, [], 0), (10, .getfield 27, [], 261), (13, .iload_n 1, [], 0), (14, .iaload, [], 0), (15, .aload_n 0, [], 0), (16, .getfield 58, [], 268), (19, .if_icmp .lt 7, [], 26), (22, .iconst 1, [], 1), (23, .goto 4, [], 27), (26, .iconst 0, [], 0), (27, .ireturn, [], 0)]
def kc_TO_part : List Ety := [(0, .lload_n 0, [], 0), (1, .lload_n 0, [], 0), (2, .lload_n 2, [], 0), (3, .ladd, [], 0), (4, .iload 4, [], 0), (6, .invokestatic 158, [], 18451), (9, .lreturn, [], 0)]
def kc_Shares_byTies : List Ety := [(0, .lconst 0, [], 0), (1, .lstore_n 3, [], 0), (2, .iconst 0, [], 0), (3, .istore 5, [], 0), (5, .iload 5, [0, 0, 0, 0, 1, 0, 1], 0), (7, .aload_n 0, [], 0), (8, .getfield 9, [], 320), (11, .getfield 19, [], 265), (14, .if_icmp .ge 71, [], 85), (17, .aload_n 0, [], 0), (18, .getfield 9, [], 320), (21, .getfield 39, [], 262), (24, .iload 5, [], 0), (26, .iaload, [], 0), (27, .iload_n 2, [], 0), (28, .if_icmp .eq 17, [], 45), (31, .aload_n 0, [], 0), (32, .iload 5, [], 0), (34, .iload_n 1, [], 0), (35, .invokevirtual 35, [], 35497), (38, .ifCond .eq 7, [], 45), (41, .iconst 1, [], 1), (42, .goto 4, [], 46), (45, .iconst 0, [], 0), (46, .istore 6, [], 0), (48, .lload_n 3, [], 0), (49, .iload 6, [], 0), (51, .ifCond .eq 25, [], 76), (54, .ldc2_w 42, [], 7), (57, .iconst 1, [], 1), (58, .aload_n 0, [], 0), (59, .getfield 9, [], 320), (62, .getfield 32, [], 258), (65, .iload 5, [], 0), (67, .iaload, [], 0), (68, .invokestatic 44, [], 1), (71, .i2l, [], 0), (72, .ldiv, [], 0), (73, .goto 4, [], 77), (76, .lconst 0, [], 0), (77, .ladd, [], 0), (78, .lstore_n 3, [], 0), (79, .iinc 5 1, [], 1), (82, .goto (-77), [], 5), (85, .lload_n 3, [], 0), (86, .lreturn, [], 0)]
def kc_Shares_tells : List Ety := [(0, .aload_n 0, [], 0), (1, .getfield 9, [], 320), (4, .getfield 32, [], 258), (7, .iload_n 1, [], 0), (8, .iaload, [], 0), (9, .iconst (-1), [], 2), (10, .if_icmp .eq 7, [], 17), (13, .iconst 1, [], 1), (14, .goto 4, [], 18), (17, .iconst 0, [], 0), (18, .istore_n 3, [], 0), (19, .iload_n 3, [], 0), (20, .ifCond .eq 31, [], 51), (23, .aload_n 0, [], 0), (24, .getfield 9, [], 320), (27, .iload_n 1, [], 0), (28, .invokevirtual 25, [], 33925), (31, .ifCond .eq 20, [], 51), (34, .aload_n 0, [], 0), (35, .getfield 9, [], 320), (38, .getfield 29, [], 257), (41, .iload_n 1, [], 0), (42, .iaload, [], 0), (43, .iload_n 2, [], 0), (44, .if_icmp .ne 7, [], 51), (47, .iconst 1, [], 1), (48, .goto 4, [], 52), (51, .iconst 0, [], 0), (52, .ireturn, [], 0)]
def kc_Shares_byBringing : List Ety := [(0, .aload_n 0, [], 0), (1, .invokevirtual 72, [], 36512), (4, .aload_n 0, [], 0), (5, .iload_n 1, [], 0), (6, .invokevirtual 75, [], 37030), (9, .aload_n 0, [], 0), (10, .iconst 1, [], 1), (11, .iload_n 1, [], 0), (12, .isub, [], 0), (13, .invokevirtual 79, [], 37542), (16, .lmul, [], 0), (17, .aload_n 0, [], 0), (18, .iload_n 1, [], 0), (19, .iconst (-1), [], 2), (20, .invokevirtual 56, [], 34986), (23, .lmul, [], 0), (24, .lreturn, [], 0)]
def kc_Shares_countBringing : List Ety := [(0, .aload_n 0, [], 0), (1, .getfield 15, [], 321), (4, .iconst 0, [], 0), (5, .invokestatic 63, [], 13), (8, .iconst 0, [], 0), (9, .istore_n 1, [], 0), (10, .iload_n 1, [0, 0, 1], 0), (11, .aload_n 0, [], 0), (12, .getfield 9, [], 320), (15, .getfield 19, [], 265), (18, .if_icmp .ge 65, [], 83), (21, .aload_n 0, [], 0), (22, .getfield 9, [], 320), (25, .getfield 69, [], 256), (28, .iload_n 1, [], 0), (29, .iaload, [], 0), (30, .istore_n 2, [], 0), (31, .aload_n 0, [], 0), (32, .getfield 9, [], 320), (35, .iload_n 1, [], 0), (36, .invokevirtual 25, [], 33925), (39, .ifCond .eq 38, [], 77), (42, .iload_n 2, [], 0), (43, .iconst (-1), [], 2), (44, .if_icmp .eq 33, [], 77), (47, .aload_n 0, [], 0), (48, .getfield 15, [], 321), (51, .iconst 2, [], 3), (52, .aload_n 0, [], 0), (53, .getfield 9, [], 320), (56, .getfield 29, [], 257), (59, .iload_n 2, [], 0), (60, .iaload, [], 0), (61, .imul, [], 0), (62, .aload_n 0, [], 0), (63, .getfield 9, [], 320), (66, .getfield 29, [], 257), (69, .iload_n 1, [], 0), (70, .iaload, [], 0), (71, .iadd, [], 0), (72, .dup2, [], 0), (73, .iaload, [], 0), (74, .iconst 1, [], 1), (75, .iadd, [], 0), (76, .iastore, [], 0), (77, .iinc 1 1, [], 1), (80, .goto (-70), [], 10), (83, .return_, [], 0)]
def kc_Shares_pull : List Ety := [(0, .iload_n 1, [], 0), (1, .iconst 1, [], 1), (2, .if_icmp .ne 28, [], 30), (5, .aload_n 0, [], 0), (6, .getfield 15, [], 321), (9, .iconst 1, [], 1), (10, .iaload, [], 0), (11, .i2l, [], 0), (12, .aload_n 0, [], 0), (13, .getfield 15, [], 321), (16, .iconst 2, [], 3), (17, .iaload, [], 0), (18, .aload_n 0, [], 0), (19, .getfield 15, [], 321), (22, .iconst 3, [], 4), (23, .iaload, [], 0), (24, .iadd, [], 0), (25, .i2l, [], 0), (26, .lmul, [], 0), (27, .goto 25, [], 52), (30, .aload_n 0, [], 0), (31, .getfield 15, [], 321), (34, .iconst 2, [], 3), (35, .iaload, [], 0), (36, .i2l, [], 0), (37, .aload_n 0, [], 0), (38, .getfield 15, [], 321), (41, .iconst 0, [], 0), (42, .iaload, [], 0), (43, .aload_n 0, [], 0), (44, .getfield 15, [], 321), (47, .iconst 1, [], 1), (48, .iaload, [], 0), (49, .iadd, [], 0), (50, .i2l, [], 0), (51, .lmul, [], 0), (52, .lreturn, [], 0)]
def kc_Shares_telling : List Ety := [(0, .lconst 0, [], 0), (1, .lstore_n 2, [], 0), (2, .iconst 0, [], 0), (3, .istore 4, [], 0), (5, .iload 4, [0, 0, 0, 1, 0], 0), (7, .aload_n 0, [], 0), (8, .getfield 9, [], 320), (11, .getfield 19, [], 265), (14, .if_icmp .ge 27, [], 41), (17, .lload_n 2, [], 0), (18, .aload_n 0, [], 0), (19, .iload 4, [], 0), (21, .iload_n 1, [], 0), (22, .invokevirtual 35, [], 35497), (25, .ifCond .eq 7, [], 32), (28, .lconst 1, [], 1), (29, .goto 4, [], 33), (32, .lconst 0, [], 0), (33, .ladd, [], 0), (34, .lstore_n 2, [], 0), (35, .iinc 4 1, [], 1), (38, .goto (-33), [], 5), (41, .lload_n 2, [], 0), (42, .lreturn, [], 0)]
def kc_TO_bounds : List Ety := [(0, .iload_n 1, [], 0), (1, .iconst 0, [], 0), (2, .iconst 5, [], 22), (3, .invokestatic 162, [], 12818), (6, .ifCond .eq 17, [], 23), (9, .iload_n 2, [], 0), (10, .invokestatic 95, [], 4618), (13, .ifCond .eq 10, [], 23), (16, .iload_n 3, [], 0), (17, .invokestatic 95, [], 4618), (20, .ifCond .ne 9, [], 29), (23, .bipush (-2), [], 7), (25, .invokestatic 144, [], 14859), (28, .lreturn, [], 0), (29, .iload_n 2, [], 0), (30, .ifCond .ne 7, [], 37), (33, .iload_n 1, [], 0), (34, .goto 5, [], 39), (37, .iload_n 1, [], 0), (38, .ineg, [], 0), (39, .istore 4, [], 0), (41, .aload_n 0, [], 0), (42, .getfield 44, [], 516), (45, .iconst 1, [], 1), (46, .iload 4, [], 0), (48, .invokevirtual 233, [], 38570), (51, .aload_n 0, [], 0), (52, .getfield 44, [], 516), (55, .iconst 0, [], 0), (56, .iload 4, [], 0), (58, .ineg, [], 0), (59, .invokevirtual 233, [], 38570), (62, .iload_n 3, [], 0), (63, .invokestatic 223, [], 34323), (66, .lreturn, [], 0)]
def kc_Shares_rounded : List Ety := [(0, .lconst 0, [], 0), (1, .lstore_n 3, [], 0), (2, .iconst 0, [], 0), (3, .istore 5, [], 0), (5, .iload 5, [0, 0, 0, 0, 1, 0], 0), (7, .aload_n 0, [], 0), (8, .getfield 9, [], 320), (11, .getfield 19, [], 265), (14, .if_icmp .ge 47, [], 61), (17, .lload_n 3, [], 0), (18, .aload_n 0, [], 0), (19, .iload 5, [], 0), (21, .iload_n 1, [], 0), (22, .invokevirtual 35, [], 35497), (25, .ifCond .eq 27, [], 52), (28, .ldc2_w 50, [], 8), (31, .iconst 1, [], 1), (32, .aload_n 0, [], 0), (33, .getfield 9, [], 320), (36, .getfield 32, [], 258), (39, .iload 5, [], 0), (41, .iaload, [], 0), (42, .iload_n 2, [], 0), (43, .iadd, [], 0), (44, .invokestatic 44, [], 1), (47, .i2l, [], 0), (48, .ldiv, [], 0), (49, .goto 4, [], 53), (52, .lconst 0, [], 0), (53, .ladd, [], 0), (54, .lstore_n 3, [], 0), (55, .iinc 5 1, [], 1), (58, .goto (-53), [], 5), (61, .lload_n 3, [], 0), (62, .lreturn, [], 0)]
def kc_TO_leaving : List Ety := [(0, .iload_n 1, [], 0), (1, .invokestatic 95, [], 4618), (4, .ifCond .eq 10, [], 14), (7, .iload_n 2, [], 0), (8, .invokestatic 95, [], 4618), (11, .ifCond .ne 9, [], 20), (14, .bipush (-2), [], 7), (16, .invokestatic 144, [], 14859), (19, .lreturn, [], 0), (20, .aload_n 0, [], 0), (21, .getfield 44, [], 516), (24, .iload_n 1, [], 0), (25, .invokevirtual 236, [], 39589), (28, .istore_n 3, [], 0), (29, .iload_n 3, [], 0), (30, .iconst (-1), [], 2), (31, .if_icmp .ne 9, [], 40), (34, .bipush (-3), [], 18), (36, .invokestatic 144, [], 14859), (39, .lreturn, [], 0), (40, .aload_n 0, [], 0), (41, .getfield 44, [], 516), (44, .iconst 1, [], 1), (45, .iload_n 3, [], 0), (46, .invokevirtual 226, [], 34986), (49, .aload_n 0, [], 0), (50, .getfield 44, [], 516), (53, .iconst 0, [], 0), (54, .iload_n 3, [], 0), (55, .invokevirtual 226, [], 34986), (58, .iload_n 2, [], 0), (59, .invokestatic 223, [], 34323), (62, .lreturn, [], 0)]
def kc_Shares_treeToLeave : List Ety := [(0, .iconst (-1), [], 2), (1, .istore_n 2, [], 0), (2, .iconst 0, [], 0), (3, .istore_n 3, [], 0), (4, .iload_n 3, [0, 0, 0, 0, 1], 0), (5, .aload_n 0, [], 0), (6, .getfield 9, [], 320), (9, .getfield 19, [], 265), (12, .if_icmp .ge 99, [], 111), (15, .aload_n 0, [], 0), (16, .getfield 9, [], 320), (19, .getfield 52, [], 264), (22, .iload_n 3, [], 0), (23, .baload, [], 0), (24, .ifCond .eq 20, [], 44), (27, .aload_n 0, [], 0), (28, .getfield 9, [], 320), (31, .getfield 39, [], 262), (34, .iload_n 3, [], 0), (35, .iaload, [], 0), (36, .iload_n 3, [], 0), (37, .if_icmp .ne 7, [], 44), (40, .iconst 1, [], 1), (41, .goto 4, [], 45), (44, .iconst 0, [], 0), (45, .istore 4, [], 0), (47, .iload 4, [], 0), (49, .ifCond .eq 56, [], 105), (52, .aload_n 0, [], 0), (53, .iconst 0, [], 0), (54, .iload_n 3, [], 0), (55, .invokevirtual 56, [], 34986), (58, .aload_n 0, [], 0), (59, .iconst 1, [], 1), (60, .iload_n 3, [], 0), (61, .invokevirtual 56, [], 34986), (64, .ladd, [], 0), (65, .lconst 0, [], 0), (66, .lcmp, [], 0), (67, .ifCond .ne 6, [], 73), (70, .goto 35, [], 105), (73, .iload_n 2, [], 0), (74, .iconst (-1), [], 2), (75, .if_icmp .eq 28, [], 103), (78, .iload_n 1, [], 0), (79, .ifCond .ne 15, [], 94), (82, .aload_n 0, [], 0), (83, .iload_n 3, [], 0), (84, .iload_n 2, [], 0), (85, .invokevirtual 60, [], 40105), (88, .ifCond .eq 17, [], 105), (91, .goto 12, [], 103), (94, .aload_n 0, [], 0), (95, .iload_n 2, [], 0), (96, .iload_n 3, [], 0), (97, .invokevirtual 60, [], 40105), (100, .ifCond .eq 5, [], 105), (103, .iload_n 3, [], 0), (104, .istore_n 2, [], 0), (105, .iinc 3 1, [], 1), (108, .goto (-104), [], 4), (111, .iload_n 2, [], 0), (112, .ireturn, [], 0)]
def kc_Shares_isLess : List Ety := [(0, .aload_n 0, [], 0), (1, .iconst 1, [], 1), (2, .iload_n 1, [], 0), (3, .invokevirtual 56, [], 34986), (6, .aload_n 0, [], 0), (7, .iconst 0, [], 0), (8, .iload_n 2, [], 0), (9, .invokevirtual 56, [], 34986), (12, .lmul, [], 0), (13, .aload_n 0, [], 0), (14, .iconst 1, [], 1), (15, .iload_n 2, [], 0), (16, .invokevirtual 56, [], 34986), (19, .aload_n 0, [], 0), (20, .iconst 0, [], 0), (21, .iload_n 1, [], 0), (22, .invokevirtual 56, [], 34986), (25, .lmul, [], 0), (26, .lcmp, [], 0), (27, .ifCond .ge 7, [], 34), (30, .iconst 1, [], 1), (31, .goto 4, [], 35), (34, .iconst 0, [], 0), (35, .ireturn, [], 0)]
def kc_TO_alike : List Ety := [(0, .iload_n 1, [], 0), (1, .invokestatic 95, [], 4618), (4, .ifCond .ne 6, [], 10), (7, .bipush (-2), [], 7), (9, .ireturn, [], 0), (10, .iload_n 1, [], 0), (11, .ifCond .ne 11, [], 22), (14, .aload_n 0, [], 0), (15, .getfield 35, [], 515), (18, .invokevirtual 239, [], 41089), (21, .ireturn, [], 0), (22, .aload_n 0, [], 0), (23, .getfield 35, [], 515), (26, .invokevirtual 242, [], 41601), (29, .bipush 14, [], 26), (31, .if_icmp .le 8, [], 39), (34, .bipush (-4), [], 25), (36, .goto 10, [], 46), (39, .aload_n 0, [], 0), (40, .getfield 51, [], 517), (43, .invokevirtual 245, [], 42017), (46, .ireturn, [], 0)]
def kc_Records_likes : List Ety := [(0, .iconst 0, [], 0), (1, .istore_n 1, [], 0), (2, .iconst 0, [], 0), (3, .istore_n 2, [], 0), (4, .iload_n 2, [0, 0, 0, 1], 0), (5, .aload_n 0, [], 0), (6, .getfield 44, [], 265), (9, .if_icmp .ge 66, [], 75), (12, .aload_n 0, [], 0), (13, .getfield 36, [], 264), (16, .iload_n 2, [], 0), (17, .baload, [], 0), (18, .ifCond .eq 17, [], 35), (21, .aload_n 0, [], 0), (22, .getfield 11, [], 256), (25, .iload_n 2, [], 0), (26, .iaload, [], 0), (27, .iconst (-1), [], 2), (28, .if_icmp .eq 7, [], 35), (31, .iconst 1, [], 1), (32, .goto 4, [], 36), (35, .iconst 0, [], 0), (36, .istore_n 3, [], 0), (37, .iload_n 1, [], 0), (38, .iload_n 3, [], 0), (39, .ifCond .eq 27, [], 66), (42, .aload_n 0, [], 0), (43, .getfield 15, [], 257), (46, .iload_n 2, [], 0), (47, .iaload, [], 0), (48, .aload_n 0, [], 0), (49, .getfield 15, [], 257), (52, .aload_n 0, [], 0), (53, .getfield 11, [], 256), (56, .iload_n 2, [], 0), (57, .iaload, [], 0), (58, .iaload, [], 0), (59, .if_icmp .ne 7, [], 66), (62, .iconst 1, [], 1), (63, .goto 4, [], 67), (66, .iconst 0, [], 0), (67, .iadd, [], 0), (68, .istore_n 1, [], 0), (69, .iinc 2 1, [], 1), (72, .goto (-68), [], 4), (75, .iload_n 1, [], 0), (76, .ireturn, [], 0)]
def kc_Records_counting : List Ety := [(0, .iconst 0, [], 0), (1, .istore_n 1, [], 0), (2, .iconst 0, [], 0), (3, .istore_n 2, [], 0), (4, .iload_n 2, [0, 0, 0], 0), (5, .aload_n 0, [], 0), (6, .getfield 44, [], 265), (9, .if_icmp .ge 26, [], 35), (12, .iload_n 1, [], 0), (13, .aload_n 0, [], 0), (14, .getfield 36, [], 264), (17, .iload_n 2, [], 0), (18, .baload, [], 0), (19, .ifCond .eq 7, [], 26), (22, .iconst 1, [], 1), (23, .goto 4, [], 27), (26, .iconst 0, [], 0), (27, .iadd, [], 0), (28, .istore_n 1, [], 0), (29, .iinc 2 1, [], 1), (32, .goto (-28), [], 4), (35, .iload_n 1, [], 0), (36, .ireturn, [], 0)]
def kc_Deals_chance : List Ety := [(0, .aload_n 0, [], 0), (1, .invokevirtual 24, [], 42529), (4, .istore_n 1, [], 0), (5, .aload_n 0, [], 0), (6, .iload_n 1, [], 0), (7, .invokevirtual 28, [], 43045), (10, .istore_n 2, [], 0), (11, .iconst 1, [], 1), (12, .iload_n 1, [], 0), (13, .invokestatic 32, [], 9738), (16, .ishl, [], 0), (17, .iconst 1, [], 1), (18, .isub, [], 0), (19, .istore_n 3, [], 0), (20, .lconst 0, [], 0), (21, .lstore 4, [], 0), (23, .lconst 0, [], 0), (24, .lstore 6, [], 0), (26, .iconst 0, [], 0), (27, .istore 8, [], 0), (29, .iload 8, [0, 1, 0, 0, 0, 1, 0, 1, 0], 0), (31, .sipush 16384, [], 27), (34, .if_icmp .ge 49, [], 83), (37, .iload_n 3, [], 0), (38, .iconst 1, [], 1), (39, .aload_n 0, [], 0), (40, .getfield 37, [], 67), (43, .ishl, [], 0), (44, .if_icmp .ge 39, [], 83), (47, .lload 4, [], 0), (49, .lconst 1, [], 1), (50, .ladd, [], 0), (51, .lstore 4, [], 0), (53, .lload 6, [], 0), (55, .aload_n 0, [], 0), (56, .iload_n 3, [], 0), (57, .invokevirtual 28, [], 43045), (60, .iload_n 2, [], 0), (61, .if_icmp .lt 7, [], 68), (64, .lconst 1, [], 1), (65, .goto 4, [], 69), (68, .lconst 0, [], 0), (69, .ladd, [], 0), (70, .lstore 6, [], 0), (72, .iload_n 3, [], 0), (73, .invokestatic 41, [], 43530), (76, .istore_n 3, [], 0), (77, .iinc 8 1, [], 1), (80, .goto (-51), [], 29), (83, .lload 4, [], 0), (85, .lconst 0, [], 0), (86, .lcmp, [], 0), (87, .ifCond .ne 8, [], 95), (90, .ldc 44, [], 28), (92, .goto 13, [], 105), (95, .lload 6, [], 0), (97, .ldc2_w 45, [], 9), (100, .lmul, [], 0), (101, .lload 4, [], 0), (103, .ldiv, [], 0), (104, .l2i, [], 0), (105, .ireturn, [], 0)]
def kc_Deals_gather : List Ety := [(0, .iconst 0, [], 0), (1, .istore_n 1, [], 0), (2, .aload_n 0, [], 0), (3, .iconst 0, [], 0), (4, .putfield 37, [], 67), (7, .iconst 0, [], 0), (8, .istore_n 2, [], 0), (9, .iload_n 2, [0, 0, 0, 1], 0), (10, .aload_n 0, [], 0), (11, .getfield 9, [], 64), (14, .getfield 47, [], 265), (17, .if_icmp .ge 101, [], 118), (20, .aload_n 0, [], 0), (21, .getfield 37, [], 67), (24, .bipush 14, [], 26), (26, .if_icmp .ge 92, [], 118), (29, .aload_n 0, [], 0), (30, .getfield 9, [], 64), (33, .getfield 50, [], 264), (36, .iload_n 2, [], 0), (37, .baload, [], 0), (38, .ifCond .eq 74, [], 112), (41, .aload_n 0, [], 0), (42, .getfield 9, [], 64), (45, .getfield 54, [], 256), (48, .iload_n 2, [], 0), (49, .iaload, [], 0), (50, .istore_n 3, [], 0), (51, .aload_n 0, [], 0), (52, .getfield 17, [], 65), (55, .iload_n 2, [], 0), (56, .aload_n 0, [], 0), (57, .getfield 37, [], 67), (60, .iastore, [], 0), (61, .aload_n 0, [], 0), (62, .getfield 21, [], 66), (65, .aload_n 0, [], 0), (66, .getfield 37, [], 67), (69, .iload_n 3, [], 0), (70, .iconst (-1), [], 2), (71, .if_icmp .ne 7, [], 78), (74, .iconst (-1), [], 2), (75, .goto 9, [], 84), (78, .aload_n 0, [], 0), (79, .getfield 17, [], 65), (82, .iload_n 3, [], 0), (83, .iaload, [], 0), (84, .iastore, [], 0), (85, .iload_n 1, [], 0), (86, .aload_n 0, [], 0), (87, .getfield 9, [], 64), (90, .getfield 57, [], 257), (93, .iload_n 2, [], 0), (94, .iaload, [], 0), (95, .aload_n 0, [], 0), (96, .getfield 37, [], 67), (99, .ishl, [], 0), (100, .ior, [], 0), (101, .istore_n 1, [], 0), (102, .aload_n 0, [], 0), (103, .dup, [], 0), (104, .getfield 37, [], 67), (107, .iconst 1, [], 1), (108, .iadd, [], 0), (109, .putfield 37, [], 67), (112, .iinc 2 1, [], 1), (115, .goto (-106), [], 9), (118, .iload_n 1, [], 0), (119, .ireturn, [], 0)]
def kc_Deals_alikeIn : List Ety := [(0, .iconst 0, [], 0), (1, .istore_n 2, [], 0), (2, .iconst 0, [], 0), (3, .istore_n 3, [], 0), (4, .iload_n 3, [0, 0, 0, 0, 1], 0), (5, .aload_n 0, [], 0), (6, .getfield 37, [], 67), (9, .if_icmp .ge 45, [], 54), (12, .aload_n 0, [], 0), (13, .getfield 21, [], 66), (16, .iload_n 3, [], 0), (17, .iaload, [], 0), (18, .istore 4, [], 0), (20, .iload_n 2, [], 0), (21, .iload 4, [], 0), (23, .iconst (-1), [], 2), (24, .if_icmp .eq 21, [], 45), (27, .iload_n 1, [], 0), (28, .iload_n 3, [], 0), (29, .ishr, [], 0), (30, .iconst 1, [], 1), (31, .iand, [], 0), (32, .iload_n 1, [], 0), (33, .iload 4, [], 0), (35, .ishr, [], 0), (36, .iconst 1, [], 1), (37, .iand, [], 0), (38, .if_icmp .ne 7, [], 45), (41, .iconst 1, [], 1), (42, .goto 4, [], 46), (45, .iconst 0, [], 0), (46, .iadd, [], 0), (47, .istore_n 2, [], 0), (48, .iinc 3 1, [], 1), (51, .goto (-47), [], 4), (54, .iload_n 2, [], 0), (55, .ireturn, [], 0)]
def kc_Deals_following : List Ety := [(0, .iload_n 0, [], 0), (1, .ifCond .ne 6, [], 7), (4, .ldc 60, [], 29), (6, .ireturn, [], 0), (7, .iload_n 0, [], 0), (8, .invokestatic 61, [], 44042), (11, .istore_n 1, [], 0), (12, .iload_n 0, [], 0), (13, .iload_n 1, [], 0), (14, .iadd, [], 0), (15, .istore_n 2, [], 0), (16, .iload_n 2, [], 0), (17, .iload_n 0, [], 0), (18, .iload_n 2, [], 0), (19, .ixor, [], 0), (20, .iconst 2, [], 3), (21, .iload_n 1, [], 0), (22, .invokestatic 64, [], 44554), (25, .iadd, [], 0), (26, .iushr, [], 0), (27, .ior, [], 0), (28, .ireturn, [], 0)]
def kc_Int_lowestOneBit : List Ety := [(0, .iload_n 0, [], 0), (1, .iload_n 0, [], 0), (2, .ineg, [], 0), (3, .iand, [], 0), (4, .ireturn, [], 0)]
def kc_Int_numberOfTrailingZeros : List Ety := [(0, .iload_n 0, [], 0), (1, .iconst (-1), [], 2), (2, .ixor, [], 0), (3, .iload_n 0, [], 0), (4, .iconst 1, [], 1), (5, .isub, [], 0), (6, .iand, [], 0), (7, .istore_n 0, [], 0), (8, .iload_n 0, [], 0), (9, .ifCond .gt 8, [], 17), (12, .iload_n 0, [], 0), (13, .bipush 32, [], 30), (15, .iand, [], 0), (16, .ireturn, [], 0), (17, .iconst 1, [], 1), (18, .istore_n 1, [], 0), (19, .iload_n 0, [], 0), (20, .ldc_w 264, [], 31), (23, .if_icmp .le 11, [], 34), (26, .iinc 1 16, [], 13), (29, .iload_n 0, [], 0), (30, .bipush 16, [], 13), (32, .iushr, [], 0), (33, .istore_n 0, [], 0), (34, .iload_n 0, [], 0), (35, .sipush 256, [], 32), (38, .if_icmp .le 11, [], 49), (41, .iinc 1 8, [], 12), (44, .iload_n 0, [], 0), (45, .bipush 8, [], 12), (47, .iushr, [], 0), (48, .istore_n 0, [], 0), (49, .iload_n 0, [], 0), (50, .bipush 16, [], 13), (52, .if_icmp .le 10, [], 62), (55, .iinc 1 4, [], 5), (58, .iload_n 0, [], 0), (59, .iconst 4, [], 5), (60, .iushr, [], 0), (61, .istore_n 0, [], 0), (62, .iload_n 0, [0, 0], 0), (63, .iconst 4, [], 5), (64, .if_icmp .le 10, [], 74), (67, .iinc 1 2, [], 3), (70, .iload_n 0, [], 0), (71, .iconst 2, [], 3), (72, .iushr, [], 0), (73, .istore_n 0, [], 0), (74, .iload_n 1, [0, 0], 0), (75, .iload_n 0, [], 0), (76, .iconst 1, [], 1), (77, .iushr, [], 0), (78, .iadd, [], 0), (79, .ireturn, [], 0)]
def kc_TO_forgot : List Ety := [(0, .iload_n 1, [], 0), (1, .iconst (-1), [], 2), (2, .if_icmp .eq 13, [], 15), (5, .iload_n 1, [], 0), (6, .iconst 0, [], 0), (7, .bipush 6, [], 33), (9, .invokestatic 162, [], 12818), (12, .ifCond .eq 10, [], 22), (15, .iload_n 2, [], 0), (16, .invokestatic 95, [], 4618), (19, .ifCond .ne 9, [], 28), (22, .bipush (-2), [], 7), (24, .invokestatic 144, [], 14859), (27, .lreturn, [], 0), (28, .aload_n 0, [], 0), (29, .getfield 44, [], 516), (32, .invokevirtual 248, [], 36512), (35, .iload_n 1, [], 0), (36, .iconst (-1), [], 2), (37, .if_icmp .ne 24, [], 61), (40, .aload_n 0, [], 0), (41, .getfield 44, [], 516), (44, .iconst 1, [], 1), (45, .invokevirtual 251, [], 37030), (48, .aload_n 0, [], 0), (49, .getfield 44, [], 516), (52, .iconst 0, [], 0), (53, .invokevirtual 251, [], 37030), (56, .iload_n 2, [], 0), (57, .invokestatic 223, [], 34323), (60, .lreturn, [], 0), (61, .aload_n 0, [], 0), (62, .getfield 44, [], 516), (65, .iload_n 1, [], 0), (66, .invokevirtual 254, [], 45734), (69, .aload_n 0, [], 0), (70, .getfield 44, [], 516), (73, .iload_n 1, [], 0), (74, .invokevirtual 257, [], 46246), (77, .iload_n 2, [], 0), (78, .invokestatic 158, [], 18451), (81, .lreturn, [], 0)]
def kc_Shares_ofWave : List Ety := [(0, .aload_n 0, [], 0), (1, .getfield 15, [], 321), (4, .iconst 3, [], 4), (5, .iaload, [], 0), (6, .i2l, [], 0), (7, .aload_n 0, [], 0), (8, .getfield 15, [], 321), (11, .iconst 0, [], 0), (12, .iaload, [], 0), (13, .aload_n 0, [], 0), (14, .getfield 15, [], 321), (17, .iconst 1, [], 1), (18, .iaload, [], 0), (19, .iadd, [], 0), (20, .i2l, [], 0), (21, .lmul, [], 0), (22, .lstore_n 2, [], 0), (23, .lconst 0, [], 0), (24, .lstore 4, [], 0), (26, .iconst 0, [], 0), (27, .istore 6, [], 0), (29, .iload 6, [0, 0, 0, 1, 0, 1, 0], 0), (31, .iload_n 1, [], 0), (32, .if_icmp .ge 31, [], 63), (35, .aload_n 0, [], 0), (36, .iload 6, [], 0), (38, .invokevirtual 86, [], 46246), (41, .lload 4, [], 0), (43, .lsub, [], 0), (44, .aload_n 0, [], 0), (45, .iconst 1, [], 1), (46, .invokevirtual 75, [], 37030), (49, .lmul, [], 0), (50, .lload 4, [], 0), (52, .lload_n 2, [], 0), (53, .lmul, [], 0), (54, .ladd, [], 0), (55, .lstore 4, [], 0), (57, .iinc 6 1, [], 1), (60, .goto (-31), [], 29), (63, .lload 4, [], 0), (65, .lreturn, [], 0)]
def kc_Shares_wholeWave : List Ety := [(0, .aload_n 0, [], 0), (1, .getfield 15, [], 321), (4, .iconst 0, [], 0), (5, .iaload, [], 0), (6, .aload_n 0, [], 0), (7, .getfield 15, [], 321), (10, .iconst 1, [], 1), (11, .iaload, [], 0), (12, .iadd, [], 0), (13, .aload_n 0, [], 0), (14, .getfield 15, [], 321), (17, .iconst 2, [], 3), (18, .iaload, [], 0), (19, .aload_n 0, [], 0), (20, .getfield 15, [], 321), (23, .iconst 3, [], 4), (24, .iaload, [], 0), (25, .iadd, [], 0), (26, .imul, [], 0), (27, .i2l, [], 0), (28, .lstore_n 2, [], 0), (29, .lconst 1, [], 1), (30, .lload_n 2, [], 0), (31, .invokestatic 82, [], 4), (34, .lstore 4, [], 0), (36, .iconst 0, [], 0), (37, .istore 6, [], 0), (39, .iload 6, [1, 0, 0, 1, 0, 1, 0], 0), (41, .iload_n 1, [], 0), (42, .if_icmp .ge 15, [], 57), (45, .lload 4, [], 0), (47, .lload_n 2, [], 0), (48, .lmul, [], 0), (49, .lstore 4, [], 0), (51, .iinc 6 1, [], 1), (54, .goto (-15), [], 39), (57, .lload 4, [], 0), (59, .lreturn, [], 0)]
def kc_TO_wave : List Ety := [(0, .iload_n 1, [], 0), (1, .iconst 0, [], 0), (2, .bipush 23, [], 34), (4, .invokestatic 162, [], 12818), (7, .ifCond .ne 6, [], 13), (10, .bipush (-2), [], 7), (12, .ireturn, [], 0), (13, .aload_n 0, [], 0), (14, .getfield 35, [], 515), (17, .iload_n 1, [], 0), (18, .invokevirtual 260, [], 47237), (21, .ireturn, [], 0)]
def kc_Records_inWave : List Ety := [(0, .iconst 0, [], 0), (1, .istore_n 2, [], 0), (2, .iconst 0, [], 0), (3, .istore_n 3, [], 0), (4, .iload_n 3, [0, 0, 0, 0], 0), (5, .aload_n 0, [], 0), (6, .getfield 44, [], 265), (9, .if_icmp .ge 36, [], 45), (12, .iload_n 2, [], 0), (13, .aload_n 0, [], 0), (14, .getfield 36, [], 264), (17, .iload_n 3, [], 0), (18, .baload, [], 0), (19, .ifCond .eq 17, [], 36), (22, .aload_n 0, [], 0), (23, .getfield 27, [], 261), (26, .iload_n 3, [], 0), (27, .iaload, [], 0), (28, .iload_n 1, [], 0), (29, .if_icmp .ne 7, [], 36), (32, .iconst 1, [], 1), (33, .goto 4, [], 37), (36, .iconst 0, [], 0), (37, .iadd, [], 0), (38, .istore_n 2, [], 0), (39, .iinc 3 1, [], 1), (42, .goto (-38), [], 4), (45, .iload_n 2, [], 0), (46, .ireturn, [], 0)]
def kc_TO_type : List Ety := [(0, .aload_n 0, [], 0), (1, .getfield 35, [], 515), (4, .iload_n 1, [], 0), (5, .invokevirtual 197, [], 29317), (8, .ifCond .eq 14, [], 22), (11, .iload_n 2, [], 0), (12, .iconst 0, [], 0), (13, .sipush 255, [], 35), (16, .invokestatic 162, [], 12818), (19, .ifCond .ne 6, [], 25), (22, .bipush (-2), [], 7), (24, .ireturn, [], 0), (25, .iload_n 2, [], 0), (26, .invokestatic 263, [], 48138), (29, .ifCond .ne 6, [], 35), (32, .bipush (-3), [], 18), (34, .ireturn, [], 0), (35, .aload_n 0, [], 0), (36, .getfield 58, [], 518), (39, .getfield 266, [], 130), (42, .iload_n 1, [], 0), (43, .iaload, [], 0), (44, .bipush 8, [], 12), (46, .if_icmp .lt 6, [], 52), (49, .bipush (-4), [], 25), (51, .ireturn, [], 0), (52, .aload_n 0, [], 0), (53, .getfield 58, [], 518), (56, .iload_n 1, [], 0), (57, .iload_n 2, [], 0), (58, .invokevirtual 269, [], 48713), (61, .ireturn, [], 0)]
def kc_Marks_isSign : List Ety := [(0, .iload_n 0, [], 0), (1, .bipush 97, [], 36), (3, .if_icmp .lt 9, [], 12), (6, .iload_n 0, [], 0), (7, .bipush 122, [], 37), (9, .if_icmp .le 9, [], 18), (12, .iload_n 0, [], 0), (13, .bipush 63, [], 14), (15, .if_icmp .ne 7, [], 22), (18, .iconst 1, [], 1), (19, .goto 4, [], 23), (22, .iconst 0, [], 0), (23, .ireturn, [], 0)]
def kc_Marks_append : List Ety := [(0, .aload_n 0, [], 0), (1, .getfield 17, [], 129), (4, .iload_n 1, [], 0), (5, .bipush 8, [], 12), (7, .imul, [], 0), (8, .aload_n 0, [], 0), (9, .getfield 21, [], 130), (12, .iload_n 1, [], 0), (13, .iaload, [], 0), (14, .iadd, [], 0), (15, .iload_n 2, [], 0), (16, .iastore, [], 0), (17, .aload_n 0, [], 0), (18, .getfield 21, [], 130), (21, .iload_n 1, [], 0), (22, .dup2, [], 0), (23, .iaload, [], 0), (24, .iconst 1, [], 1), (25, .iadd, [], 0), (26, .iastore, [], 0), (27, .aload_n 0, [], 0), (28, .getfield 21, [], 130), (31, .iload_n 1, [], 0), (32, .iaload, [], 0), (33, .ireturn, [], 0)]
def kc_TO_wipe : List Ety := [(0, .aload_n 0, [], 0), (1, .getfield 35, [], 515), (4, .iload_n 1, [], 0), (5, .invokevirtual 197, [], 29317), (8, .ifCond .ne 6, [], 14), (11, .bipush (-2), [], 7), (13, .ireturn, [], 0), (14, .aload_n 0, [], 0), (15, .getfield 58, [], 518), (18, .getfield 266, [], 130), (21, .iload_n 1, [], 0), (22, .iaload, [], 0), (23, .istore_n 2, [], 0), (24, .aload_n 0, [], 0), (25, .getfield 58, [], 518), (28, .getfield 266, [], 130), (31, .iload_n 1, [], 0), (32, .iconst 0, [], 0), (33, .iastore, [], 0), (34, .iload_n 2, [], 0), (35, .ireturn, [], 0)]
def kc_TO_clash : List Ety := [(0, .aload_n 0, [], 0), (1, .getfield 35, [], 515), (4, .iload_n 1, [], 0), (5, .invokevirtual 197, [], 29317), (8, .ifCond .eq 14, [], 22), (11, .aload_n 0, [], 0), (12, .getfield 35, [], 515), (15, .iload_n 2, [], 0), (16, .invokevirtual 197, [], 29317), (19, .ifCond .ne 6, [], 25), (22, .bipush (-2), [], 7), (24, .ireturn, [], 0), (25, .aload_n 0, [], 0), (26, .getfield 58, [], 518), (29, .iload_n 1, [], 0), (30, .iload_n 2, [], 0), (31, .invokevirtual 272, [], 50249), (34, .ifCond .eq 7, [], 41), (37, .iconst 1, [], 1), (38, .goto 4, [], 42), (41, .iconst 0, [], 0), (42, .ireturn, [], 0)]
def kc_Marks_differ : List Ety := [(0, .aload_n 0, [], 0), (1, .getfield 21, [], 130), (4, .iload_n 1, [], 0), (5, .iaload, [], 0), (6, .aload_n 0, [], 0), (7, .getfield 21, [], 130), (10, .iload_n 2, [], 0), (11, .iaload, [], 0), (12, .invokestatic 40, [], 2), (15, .istore_n 3, [], 0), (16, .iconst 0, [], 0), (17, .istore 4, [], 0), (19, .iload 4, [0, 0, 0, 0, 0, 1, 1], 0), (21, .iload_n 3, [], 0), (22, .if_icmp .ge 60, [], 82), (25, .aload_n 0, [], 0), (26, .getfield 17, [], 129), (29, .iload_n 1, [], 0), (30, .bipush 8, [], 12), (32, .imul, [], 0), (33, .iload 4, [], 0), (35, .iadd, [], 0), (36, .iaload, [], 0), (37, .istore 5, [], 0), (39, .aload_n 0, [], 0), (40, .getfield 17, [], 129), (43, .iload_n 2, [], 0), (44, .bipush 8, [], 12), (46, .imul, [], 0), (47, .iload 4, [], 0), (49, .iadd, [], 0), (50, .iaload, [], 0), (51, .istore 6, [], 0), (53, .iload 5, [], 0), (55, .iload 6, [], 0), (57, .if_icmp .eq 19, [], 76), (60, .iload 5, [], 0), (62, .bipush 63, [], 14), (64, .if_icmp .eq 12, [], 76), (67, .iload 6, [], 0), (69, .bipush 63, [], 14), (71, .if_icmp .eq 5, [], 76), (74, .iconst 1, [], 1), (75, .ireturn, [], 0), (76, .iinc 4 1, [], 1), (79, .goto (-60), [], 19), (82, .iconst 0, [], 0), (83, .ireturn, [], 0)]
def kc_TO_least : List Ety := [(0, .aload_n 0, [], 0), (1, .getfield 35, [], 515), (4, .invokevirtual 242, [], 41601), (7, .bipush 12, [], 38), (9, .if_icmp .le 6, [], 15), (12, .bipush (-4), [], 25), (14, .ireturn, [], 0), (15, .aload_n 0, [], 0), (16, .getfield 58, [], 518), (19, .invokevirtual 275, [], 51265), (22, .ireturn, [], 0)]
def kc_Marks_tellApart : List Ety := [(0, .aload_n 0, [], 0), (1, .invokevirtual 46, [], 51776), (4, .aload_n 0, [], 0), (5, .invokevirtual 49, [], 52289), (8, .istore_n 1, [], 0), (9, .iload_n 1, [0, 0], 0), (10, .aload_n 0, [], 0), (11, .getfield 53, [], 135), (14, .if_icmp .ge 29, [], 43), (17, .aload_n 0, [], 0), (18, .getfield 33, [], 134), (21, .iconst 0, [], 0), (22, .invokestatic 56, [], 13), (25, .aload_n 0, [], 0), (26, .iconst 0, [], 0), (27, .iconst 0, [], 0), (28, .iload_n 1, [], 0), (29, .invokevirtual 62, [], 52813), (32, .ifCond .eq 5, [], 37), (35, .iload_n 1, [], 0), (36, .ireturn, [], 0), (37, .iinc 1 1, [], 1), (40, .goto (-31), [], 9), (43, .aload_n 0, [], 0), (44, .getfield 33, [], 134), (47, .iconst 0, [], 0), (48, .invokestatic 56, [], 13), (51, .aload_n 0, [], 0), (52, .iconst 0, [], 0), (53, .iconst 0, [], 0), (54, .aload_n 0, [], 0), (55, .getfield 53, [], 135), (58, .invokevirtual 62, [], 52813), (61, .pop, [], 0), (62, .aload_n 0, [], 0), (63, .getfield 53, [], 135), (66, .ireturn, [], 0)]
def kc_Marks_gather : List Ety := [(0, .aload_n 0, [], 0), (1, .iconst 0, [], 0), (2, .putfield 53, [], 135), (5, .iconst 0, [], 0), (6, .istore_n 1, [], 0), (7, .iload_n 1, [0, 0, 1], 0), (8, .aload_n 0, [], 0), (9, .getfield 9, [], 128), (12, .getfield 36, [], 265), (15, .if_icmp .ge 50, [], 65), (18, .aload_n 0, [], 0), (19, .getfield 53, [], 135), (22, .bipush 12, [], 38), (24, .if_icmp .ge 41, [], 65), (27, .aload_n 0, [], 0), (28, .getfield 9, [], 128), (31, .getfield 69, [], 264), (34, .iload_n 1, [], 0), (35, .baload, [], 0), (36, .ifCond .eq 23, [], 59), (39, .aload_n 0, [], 0), (40, .getfield 24, [], 131), (43, .aload_n 0, [], 0), (44, .getfield 53, [], 135), (47, .iload_n 1, [], 0), (48, .iastore, [], 0), (49, .aload_n 0, [], 0), (50, .dup, [], 0), (51, .getfield 53, [], 135), (54, .iconst 1, [], 1), (55, .iadd, [], 0), (56, .putfield 53, [], 135), (59, .iinc 1 1, [], 1), (62, .goto (-55), [], 7), (65, .iconst 0, [], 0), (66, .istore_n 1, [], 0), (67, .iload_n 1, [0, 0, 1], 0), (68, .aload_n 0, [], 0), (69, .getfield 53, [], 135), (72, .if_icmp .ge 67, [], 139), (75, .aload_n 0, [], 0), (76, .getfield 27, [], 132), (79, .iload_n 1, [], 0), (80, .iconst 0, [], 0), (81, .iastore, [], 0), (82, .iconst 0, [], 0), (83, .istore_n 2, [], 0), (84, .iload_n 2, [0, 0, 0], 0), (85, .aload_n 0, [], 0), (86, .getfield 53, [], 135), (89, .if_icmp .ge 44, [], 133), (92, .aload_n 0, [], 0), (93, .getfield 27, [], 132), (96, .iload_n 1, [], 0), (97, .dup2, [], 0), (98, .iaload, [], 0), (99, .aload_n 0, [], 0), (100, .aload_n 0, [], 0), (101, .getfield 24, [], 131), (104, .iload_n 1, [], 0), (105, .iaload, [], 0), (106, .aload_n 0, [], 0), (107, .getfield 24, [], 131), (110, .iload_n 2, [], 0), (111, .iaload, [], 0), (112, .invokevirtual 73, [], 50249), (115, .ifCond .eq 9, [], 124), (118, .iconst 1, [], 1), (119, .iload_n 2, [], 0), (120, .ishl, [], 0), (121, .goto 4, [], 125), (124, .iconst 0, [], 0), (125, .ior, [], 0), (126, .iastore, [], 0), (127, .iinc 2 1, [], 1), (130, .goto (-46), [], 84), (133, .iinc 1 1, [], 1), (136, .goto (-69), [], 67), (139, .return_, [], 0)]
def kc_Marks_apartForSure : List Ety := [(0, .iconst 0, [], 0), (1, .istore_n 1, [], 0), (2, .iconst 0, [], 0), (3, .istore_n 2, [], 0), (4, .iload_n 2, [0, 0, 0, 1, 1, 1], 0), (5, .aload_n 0, [], 0), (6, .getfield 53, [], 135), (9, .if_icmp .ge 69, [], 78), (12, .iconst 1, [], 1), (13, .istore_n 3, [], 0), (14, .aload_n 0, [], 0), (15, .getfield 27, [], 132), (18, .iload_n 2, [], 0), (19, .iaload, [], 0), (20, .istore 4, [], 0), (22, .iconst 0, [], 0), (23, .istore 5, [], 0), (25, .iload 5, [0, 0, 0, 0, 0, 0], 0), (27, .aload_n 0, [], 0), (28, .getfield 53, [], 135), (31, .if_icmp .ge 35, [], 66), (34, .iload 4, [], 0), (36, .iload 5, [], 0), (38, .ishr, [], 0), (39, .iconst 1, [], 1), (40, .iand, [], 0), (41, .iconst 1, [], 1), (42, .if_icmp .ne 18, [], 60), (45, .iinc 3 1, [], 1), (48, .iload 4, [], 0), (50, .aload_n 0, [], 0), (51, .getfield 27, [], 132), (54, .iload 5, [], 0), (56, .iaload, [], 0), (57, .iand, [], 0), (58, .istore 4, [], 0), (60, .iinc 5 1, [], 1), (63, .goto (-38), [], 25), (66, .iload_n 1, [], 0), (67, .iload_n 3, [], 0), (68, .invokestatic 66, [], 1), (71, .istore_n 1, [], 0), (72, .iinc 2 1, [], 1), (75, .goto (-71), [], 4), (78, .iload_n 1, [], 0), (79, .ireturn, [], 0)]
def kc_Marks_deal : List Ety := [(0, .iload_n 1, [], 0), (1, .aload_n 0, [], 0), (2, .getfield 53, [], 135), (5, .if_icmp .lt 5, [], 10), (8, .iconst 1, [], 1), (9, .ireturn, [], 0), (10, .iload_n 2, [], 0), (11, .iconst 1, [], 1), (12, .iadd, [], 0), (13, .iload_n 3, [], 0), (14, .invokestatic 40, [], 2), (17, .istore 4, [], 0), (19, .iconst 0, [], 0), (20, .istore 5, [], 0), (22, .iload 5, [0, 0, 0, 0, 0, 0], 0), (24, .iload 4, [], 0), (26, .if_icmp .ge 86, [], 112), (29, .aload_n 0, [], 0), (30, .getfield 33, [], 134), (33, .iload 5, [], 0), (35, .iaload, [], 0), (36, .aload_n 0, [], 0), (37, .getfield 27, [], 132), (40, .iload_n 1, [], 0), (41, .iaload, [], 0), (42, .iand, [], 0), (43, .ifCond .eq 6, [], 49), (46, .goto 60, [], 106), (49, .aload_n 0, [], 0), (50, .getfield 33, [], 134), (53, .iload 5, [], 0), (55, .dup2, [], 0), (56, .iaload, [], 0), (57, .iconst 1, [], 1), (58, .iload_n 1, [], 0), (59, .ishl, [], 0), (60, .ior, [], 0), (61, .iastore, [], 0), (62, .aload_n 0, [], 0), (63, .getfield 30, [], 133), (66, .iload_n 1, [], 0), (67, .iload 5, [], 0), (69, .iastore, [], 0), (70, .aload_n 0, [], 0), (71, .iload_n 1, [], 0), (72, .iconst 1, [], 1), (73, .iadd, [], 0), (74, .iload_n 2, [], 0), (75, .iload 5, [], 0), (77, .iconst 1, [], 1), (78, .iadd, [], 0), (79, .invokestatic 66, [], 1), (82, .iload_n 3, [], 0), (83, .invokevirtual 62, [], 52813), (86, .ifCond .eq 5, [], 91), (89, .iconst 1, [], 1), (90, .ireturn, [], 0), (91, .aload_n 0, [], 0), (92, .getfield 33, [], 134), (95, .iload 5, [], 0), (97, .dup2, [], 0), (98, .iaload, [], 0), (99, .iconst 1, [], 1), (100, .iload_n 1, [], 0), (101, .ishl, [], 0), (102, .iconst (-1), [], 2), (103, .ixor, [], 0), (104, .iand, [], 0), (105, .iastore, [], 0), (106, .iinc 5 1, [], 1), (109, .goto (-87), [], 22), (112, .iconst 0, [], 0), (113, .ireturn, [], 0)]
def kc_TO_ones : List Ety := [(0, .aload_n 0, [], 0), (1, .getfield 35, [], 515), (4, .iload_n 1, [], 0), (5, .invokevirtual 197, [], 29317), (8, .ifCond .ne 6, [], 14), (11, .bipush (-2), [], 7), (13, .ireturn, [], 0), (14, .aload_n 0, [], 0), (15, .getfield 35, [], 515), (18, .invokevirtual 242, [], 41601), (21, .bipush 12, [], 38), (23, .if_icmp .le 6, [], 29), (26, .bipush (-4), [], 25), (28, .ireturn, [], 0), (29, .aload_n 0, [], 0), (30, .getfield 35, [], 515), (33, .getfield 278, [], 264), (36, .iload_n 1, [], 0), (37, .baload, [], 0), (38, .ifCond .ne 5, [], 43), (41, .iconst (-1), [], 2), (42, .ireturn, [], 0), (43, .aload_n 0, [], 0), (44, .getfield 58, [], 518), (47, .invokevirtual 275, [], 51265), (50, .pop, [], 0), (51, .aload_n 0, [], 0), (52, .getfield 58, [], 518), (55, .iload_n 1, [], 0), (56, .invokevirtual 282, [], 53829), (59, .ireturn, [], 0)]
def kc_Marks_personOf : List Ety := [(0, .iconst 0, [], 0), (1, .istore_n 2, [], 0), (2, .iload_n 2, [0, 0, 0], 0), (3, .aload_n 0, [], 0), (4, .getfield 53, [], 135), (7, .if_icmp .ge 26, [], 33), (10, .aload_n 0, [], 0), (11, .getfield 24, [], 131), (14, .iload_n 2, [], 0), (15, .iaload, [], 0), (16, .iload_n 1, [], 0), (17, .if_icmp .ne 10, [], 27), (20, .aload_n 0, [], 0), (21, .getfield 30, [], 133), (24, .iload_n 2, [], 0), (25, .iaload, [], 0), (26, .ireturn, [], 0), (27, .iinc 2 1, [], 1), (30, .goto (-28), [], 2), (33, .iconst (-1), [], 2), (34, .ireturn, [], 0)]
def kc_TO_reach : List Ety := [(0, .iload_n 1, [], 0), (1, .iconst 0, [], 0), (2, .bipush 8, [], 12), (4, .invokestatic 162, [], 12818), (7, .ifCond .ne 6, [], 13), (10, .bipush (-2), [], 7), (12, .ireturn, [], 0), (13, .aload_n 0, [], 0), (14, .getfield 10, [], 512), (17, .iload_n 1, [], 0), (18, .invokevirtual 285, [], 54885), (21, .ireturn, [], 0)]
def kc_Net_fewestReaching : List Ety := [(0, .aload_n 0, [], 0), (1, .invokevirtual 32, [], 1633), (4, .istore_n 2, [], 0), (5, .iconst 1, [], 1), (6, .istore_n 3, [], 0), (7, .iload_n 3, [0, 0, 0, 0, 1], 0), (8, .aload_n 0, [], 0), (9, .invokevirtual 32, [], 1633), (12, .if_icmp .ge 51, [], 63), (15, .iload_n 3, [], 0), (16, .invokestatic 23, [], 9738), (19, .iload_n 2, [], 0), (20, .invokestatic 23, [], 9738), (23, .if_icmp .ge 7, [], 30), (26, .iconst 1, [], 1), (27, .goto 4, [], 31), (30, .iconst 0, [], 0), (31, .istore 4, [], 0), (33, .iload 4, [], 0), (35, .ifCond .eq 22, [], 57), (38, .aload_n 0, [], 0), (39, .iload_n 3, [], 0), (40, .iload_n 1, [], 0), (41, .aload_n 0, [], 0), (42, .invokevirtual 32, [], 1633), (45, .invokevirtual 42, [], 11373), (48, .aload_n 0, [], 0), (49, .invokevirtual 32, [], 1633), (52, .if_icmp .ne 5, [], 57), (55, .iload_n 3, [], 0), (56, .istore_n 2, [], 0), (57, .iinc 3 1, [], 1), (60, .goto (-53), [], 7), (63, .iload_n 2, [], 0), (64, .ireturn, [], 0)]
def kc_TO_parts : List Ety := [(0, .iload_n 1, [], 0), (1, .invokestatic 95, [], 4618), (4, .ifCond .ne 6, [], 10), (7, .bipush (-2), [], 7), (9, .ireturn, [], 0), (10, .iload_n 1, [], 0), (11, .ifCond .ne 20, [], 31), (14, .aload_n 0, [], 0), (15, .getfield 10, [], 512), (18, .aload_n 0, [], 0), (19, .getfield 10, [], 512), (22, .invokevirtual 183, [], 1633), (25, .invokevirtual 288, [], 55909), (28, .goto 10, [], 38), (31, .aload_n 0, [], 0), (32, .getfield 10, [], 512), (35, .invokevirtual 291, [], 56417), (38, .ireturn, [], 0)]
def kc_Net_pieces : List Ety := [(0, .iconst 0, [], 0), (1, .istore_n 2, [], 0), (2, .iload_n 1, [], 0), (3, .istore_n 3, [], 0), (4, .iconst 0, [], 0), (5, .istore 4, [], 0), (7, .iload 4, [0, 0, 0, 0, 0], 0), (9, .bipush 9, [], 6), (11, .if_icmp .ge 32, [], 43), (14, .iload_n 3, [], 0), (15, .ifCond .eq 28, [], 43), (18, .iload_n 3, [], 0), (19, .aload_n 0, [], 0), (20, .iload_n 3, [], 0), (21, .invokestatic 46, [], 44042), (24, .bipush 9, [], 6), (26, .iload_n 1, [], 0), (27, .invokevirtual 42, [], 11373), (30, .iconst (-1), [], 2), (31, .ixor, [], 0), (32, .iand, [], 0), (33, .istore_n 3, [], 0), (34, .iinc 2 1, [], 1), (37, .iinc 4 1, [], 1), (40, .goto (-33), [], 7), (43, .iload_n 2, [], 0), (44, .ireturn, [], 0)]
def kc_Net_bridges : List Ety := [(0, .iconst 0, [], 0), (1, .istore_n 1, [], 0), (2, .aload_n 0, [], 0), (3, .aload_n 0, [], 0), (4, .invokevirtual 32, [], 1633), (7, .invokevirtual 49, [], 55909), (10, .istore_n 2, [], 0), (11, .iconst 0, [], 0), (12, .istore_n 3, [], 0), (13, .iload_n 3, [0, 0, 0, 0], 0), (14, .aload_n 0, [], 0), (15, .getfield 15, [], 193), (18, .if_icmp .ge 33, [], 51), (21, .aload_n 0, [], 0), (22, .aload_n 0, [], 0), (23, .invokevirtual 32, [], 1633), (26, .iconst 1, [], 1), (27, .iload_n 3, [], 0), (28, .ishl, [], 0), (29, .iconst (-1), [], 2), (30, .ixor, [], 0), (31, .iand, [], 0), (32, .invokevirtual 49, [], 55909), (35, .iload_n 2, [], 0), (36, .if_icmp .le 9, [], 45), (39, .iload_n 1, [], 0), (40, .iconst 1, [], 1), (41, .iload_n 3, [], 0), (42, .ishl, [], 0), (43, .ior, [], 0), (44, .istore_n 1, [], 0), (45, .iinc 3 1, [], 1), (48, .goto (-35), [], 13), (51, .iload_n 1, [], 0), (52, .ireturn, [], 0)]
def kc_TO_narrow : List Ety := [(0, .iload_n 1, [], 0), (1, .iconst 0, [], 0), (2, .iconst 2, [], 3), (3, .invokestatic 162, [], 12818), (6, .ifCond .ne 9, [], 15), (9, .bipush (-2), [], 7), (11, .invokestatic 144, [], 14859), (14, .lreturn, [], 0), (15, .aload_n 0, [], 0), (16, .getfield 10, [], 512), (19, .invokevirtual 294, [], 57441), (22, .istore_n 2, [], 0), (23, .iload_n 1, [], 0), (24, .iconst 2, [], 3), (25, .if_icmp .ne 16, [], 41), (28, .iload_n 2, [], 0), (29, .ifCond .ne 9, [], 38), (32, .ldc2_w 297, [], 10), (35, .goto 5, [], 40), (38, .iload_n 2, [], 0), (39, .i2l, [], 0), (40, .lreturn, [], 0), (41, .aload_n 0, [], 0), (42, .getfield 10, [], 512), (45, .iload_n 2, [], 0), (46, .invokevirtual 299, [], 57957), (49, .i2l, [], 0), (50, .aload_n 0, [], 0), (51, .getfield 10, [], 512), (54, .iload_n 2, [], 0), (55, .invokevirtual 187, [], 26725), (58, .i2l, [], 0), (59, .iload_n 1, [], 0), (60, .invokestatic 158, [], 18451), (63, .lreturn, [], 0)]
def kc_Net_narrowest : List Ety := [(0, .iconst 0, [], 0), (1, .istore_n 1, [], 0), (2, .iconst 0, [], 0), (3, .istore_n 2, [], 0), (4, .iconst 0, [], 0), (5, .istore_n 3, [], 0), (6, .aload_n 0, [], 0), (7, .aload_n 0, [], 0), (8, .invokevirtual 32, [], 1633), (11, .invokevirtual 52, [], 26725), (14, .istore 4, [], 0), (16, .iconst 1, [], 1), (17, .istore 5, [], 0), (19, .iload 5, [0, 0, 0, 0, 0, 0, 1, 1], 0), (21, .aload_n 0, [], 0), (22, .invokevirtual 32, [], 1633), (25, .if_icmp .gt 66, [], 91), (28, .aload_n 0, [], 0), (29, .iload 5, [], 0), (31, .invokevirtual 52, [], 26725), (34, .istore 6, [], 0), (36, .iload 6, [], 0), (38, .ifCond .eq 47, [], 85), (41, .iconst 2, [], 3), (42, .iload 6, [], 0), (44, .imul, [], 0), (45, .iload 4, [], 0), (47, .if_icmp .le 6, [], 53), (50, .goto 35, [], 85), (53, .aload_n 0, [], 0), (54, .iload 5, [], 0), (56, .invokevirtual 55, [], 57957), (59, .istore 7, [], 0), (61, .iload_n 1, [], 0), (62, .ifCond .eq 14, [], 76), (65, .iload 7, [], 0), (67, .iload_n 3, [], 0), (68, .imul, [], 0), (69, .iload_n 2, [], 0), (70, .iload 6, [], 0), (72, .imul, [], 0), (73, .if_icmp .ge 12, [], 85), (76, .iload 5, [], 0), (78, .istore_n 1, [], 0), (79, .iload 7, [], 0), (81, .istore_n 2, [], 0), (82, .iload 6, [], 0), (84, .istore_n 3, [], 0), (85, .iinc 5 1, [], 1), (88, .goto (-69), [], 19), (91, .iload_n 1, [], 0), (92, .ireturn, [], 0)]
def kc_Net_leadingOut : List Ety := [(0, .iconst 0, [], 0), (1, .istore_n 2, [], 0), (2, .iconst 0, [], 0), (3, .istore_n 3, [], 0), (4, .iload_n 3, [0, 0, 0, 0], 0), (5, .aload_n 0, [], 0), (6, .getfield 15, [], 193), (9, .if_icmp .ge 31, [], 40), (12, .iload_n 2, [], 0), (13, .iload_n 1, [], 0), (14, .iload_n 3, [], 0), (15, .ishr, [], 0), (16, .iconst 1, [], 1), (17, .iand, [], 0), (18, .aload_n 0, [], 0), (19, .getfield 11, [], 192), (22, .iload_n 3, [], 0), (23, .iaload, [], 0), (24, .iload_n 1, [], 0), (25, .iconst (-1), [], 2), (26, .ixor, [], 0), (27, .iand, [], 0), (28, .invokestatic 23, [], 9738), (31, .imul, [], 0), (32, .iadd, [], 0), (33, .istore_n 2, [], 0), (34, .iinc 3 1, [], 1), (37, .goto (-33), [], 4), (40, .iload_n 2, [], 0), (41, .ireturn, [], 0)]
def kc_TO_sheet : List Ety := [(0, .aload_n 0, [], 0), (1, .getfield 65, [], 519), (4, .iload_n 1, [], 0), (5, .invokevirtual 106, [], 6853), (8, .ifCond .eq 16, [], 24), (11, .iload_n 2, [], 0), (12, .invokestatic 302, [], 58890), (15, .ifCond .eq 9, [], 24), (18, .iload_n 3, [], 0), (19, .bipush 60, [], 39), (21, .if_icmp .le 6, [], 27), (24, .bipush (-2), [], 7), (26, .ireturn, [], 0), (27, .iload_n 3, [], 0), (28, .ifCond .ge 12, [], 40), (31, .aload_n 0, [], 0), (32, .getfield 65, [], 519), (35, .iconst 5, [], 22), (36, .invokevirtual 110, [], 7877), (39, .ireturn, [], 0), (40, .aload_n 0, [], 0), (41, .getfield 65, [], 519), (44, .iload_n 1, [], 0), (45, .iload_n 2, [], 0), (46, .iload_n 3, [], 0), (47, .invokevirtual 305, [], 59596), (50, .iload_n 3, [], 0), (51, .ireturn, [], 0)]
def kc_Sheets_isForm : List Ety := [(0, .iload_n 0, [], 0), (1, .ifCond .lt 12, [], 13), (4, .iload_n 0, [], 0), (5, .iconst 2, [], 3), (6, .if_icmp .gt 7, [], 13), (9, .iconst 1, [], 1), (10, .goto 4, [], 14), (13, .iconst 0, [], 0), (14, .ireturn, [], 0)]
def kc_Sheets_renew : List Ety := [(0, .aload_n 0, [], 0), (1, .getfield 11, [], 384), (4, .iload_n 1, [], 0), (5, .iload_n 2, [], 0), (6, .iastore, [], 0), (7, .aload_n 0, [], 0), (8, .getfield 15, [], 385), (11, .iload_n 1, [], 0), (12, .iload_n 3, [], 0), (13, .iastore, [], 0), (14, .aload_n 0, [], 0), (15, .getfield 20, [], 386), (18, .iload_n 1, [], 0), (19, .aaload, [], 0), (20, .iconst 0, [], 0), (21, .invokestatic 23, [], 13), (24, .return_, [], 0)]
def kc_TO_lose : List Ety := [(0, .aload_n 0, [], 0), (1, .getfield 65, [], 519), (4, .iload_n 1, [], 0), (5, .invokevirtual 106, [], 6853), (8, .ifCond .ne 6, [], 14), (11, .bipush (-2), [], 7), (13, .ireturn, [], 0), (14, .aload_n 0, [], 0), (15, .getfield 65, [], 519), (18, .iload_n 1, [], 0), (19, .invokevirtual 107, [], 7365), (22, .ifCond .eq 12, [], 34), (25, .aload_n 0, [], 0), (26, .getfield 65, [], 519), (29, .iconst 1, [], 1), (30, .invokevirtual 110, [], 7877), (33, .ireturn, [], 0), (34, .aload_n 0, [], 0), (35, .getfield 65, [], 519), (38, .getfield 309, [], 384), (41, .iload_n 1, [], 0), (42, .iconst (-1), [], 2), (43, .iastore, [], 0), (44, .aload_n 0, [], 0), (45, .getfield 65, [], 519), (48, .getfield 113, [], 385), (51, .iload_n 1, [], 0), (52, .iaload, [], 0), (53, .ireturn, [], 0)]
def kc_TO_lay : List Ety := [(0, .aload_n 0, [], 0), (1, .getfield 65, [], 519), (4, .iload_n 1, [], 0), (5, .invokevirtual 106, [], 6853), (8, .ifCond .eq 10, [], 18), (11, .iload_n 2, [], 0), (12, .invokestatic 302, [], 58890), (15, .ifCond .ne 6, [], 21), (18, .bipush (-2), [], 7), (20, .ireturn, [], 0), (21, .aload_n 0, [], 0), (22, .getfield 65, [], 519), (25, .iload_n 1, [], 0), (26, .iload_n 2, [], 0), (27, .iload_n 3, [], 0), (28, .invokevirtual 312, [], 61133), (31, .istore 5, [], 0), (33, .iload 5, [], 0), (35, .ifCond .eq 13, [], 48), (38, .aload_n 0, [], 0), (39, .getfield 65, [], 519), (42, .iload 5, [], 0), (44, .invokevirtual 110, [], 7877), (47, .ireturn, [], 0), (48, .aload_n 0, [], 0), (49, .getfield 65, [], 519), (52, .iload_n 1, [], 0), (53, .iload_n 3, [], 0), (54, .iload 4, [], 0), (56, .invokevirtual 316, [], 61644), (59, .iconst 1, [], 1), (60, .ireturn, [], 0)]
def kc_Sheets_faultOf : List Ety := [(0, .aload_n 0, [], 0), (1, .iload_n 1, [], 0), (2, .invokevirtual 33, [], 7365), (5, .ifCond .eq 5, [], 10), (8, .iconst 1, [], 1), (9, .ireturn, [], 0), (10, .aload_n 0, [], 0), (11, .getfield 11, [], 384), (14, .iload_n 1, [], 0), (15, .iaload, [], 0), (16, .iload_n 2, [], 0), (17, .if_icmp .eq 5, [], 22), (20, .iconst 3, [], 4), (21, .ireturn, [], 0), (22, .iload_n 3, [], 0), (23, .ifCond .lt 13, [], 36), (26, .iload_n 3, [], 0), (27, .aload_n 0, [], 0), (28, .getfield 15, [], 385), (31, .iload_n 1, [], 0), (32, .iaload, [], 0), (33, .if_icmp .lt 7, [], 40), (36, .iconst 2, [], 3), (37, .goto 4, [], 41), (40, .iconst 0, [], 0), (41, .ireturn, [], 0)]
def kc_Sheets_put : List Ety := [(0, .aload_n 0, [], 0), (1, .getfield 11, [], 384), (4, .iload_n 1, [], 0), (5, .iaload, [], 0), (6, .ifCond .ne 16, [], 22), (9, .aload_n 0, [], 0), (10, .getfield 20, [], 386), (13, .iload_n 1, [], 0), (14, .aaload, [], 0), (15, .iload_n 2, [], 0), (16, .iload_n 3, [], 0), (17, .i2b, [], 0), (18, .iastore, [], 0), (19, .goto 35, [], 54), (22, .aload_n 0, [], 0), (23, .getfield 11, [], 384), (26, .iload_n 1, [], 0), (27, .iaload, [], 0), (28, .iconst 1, [], 1), (29, .if_icmp .ne 16, [], 45), (32, .aload_n 0, [], 0), (33, .getfield 20, [], 386), (36, .iload_n 1, [], 0), (37, .aaload, [], 0), (38, .iload_n 2, [], 0), (39, .iload_n 3, [], 0), (40, .i2s, [], 0), (41, .iastore, [], 0), (42, .goto 12, [], 54), (45, .aload_n 0, [], 0), (46, .getfield 20, [], 386), (49, .iload_n 1, [], 0), (50, .aaload, [], 0), (51, .iload_n 2, [], 0), (52, .iload_n 3, [], 0), (53, .iastore, [], 0), (54, .return_, [1, 1, 1, 1], 0)]
def kc_TO_get : List Ety := [(0, .aload_n 0, [], 0), (1, .getfield 65, [], 519), (4, .iload_n 1, [], 0), (5, .invokevirtual 106, [], 6853), (8, .ifCond .eq 10, [], 18), (11, .iload_n 2, [], 0), (12, .invokestatic 302, [], 58890), (15, .ifCond .ne 7, [], 22), (18, .ldc_w 321, [], 40), (21, .ireturn, [], 0), (22, .aload_n 0, [], 0), (23, .getfield 65, [], 519), (26, .iload_n 1, [], 0), (27, .iload_n 2, [], 0), (28, .iload_n 3, [], 0), (29, .invokevirtual 312, [], 61133), (32, .istore 4, [], 0), (34, .iload 4, [], 0), (36, .ifCond .eq 17, [], 53), (39, .aload_n 0, [], 0), (40, .getfield 65, [], 519), (43, .iload 4, [], 0), (45, .invokevirtual 110, [], 7877), (48, .pop, [], 0), (49, .ldc_w 321, [], 40), (52, .ireturn, [], 0), (53, .aload_n 0, [], 0), (54, .getfield 65, [], 519), (57, .iload_n 1, [], 0), (58, .iload_n 3, [], 0), (59, .invokevirtual 123, [], 8393), (62, .ireturn, [], 0)]
def kc_TO_copy : List Ety := [(0, .aload_n 0, [], 0), (1, .getfield 65, [], 519), (4, .iload_n 1, [], 0), (5, .invokevirtual 106, [], 6853), (8, .ifCond .eq 14, [], 22), (11, .aload_n 0, [], 0), (12, .getfield 65, [], 519), (15, .iload_n 3, [], 0), (16, .invokevirtual 106, [], 6853), (19, .ifCond .ne 6, [], 25), (22, .bipush (-2), [1, 1, 1, 1, 1, 1], 7), (24, .ireturn, [], 0), (25, .aload_n 0, [], 0), (26, .getfield 65, [], 519), (29, .iload_n 1, [], 0), (30, .invokevirtual 107, [], 7365), (33, .ifCond .ne 14, [], 47), (36, .aload_n 0, [], 0), (37, .getfield 65, [], 519), (40, .iload_n 3, [], 0), (41, .invokevirtual 107, [], 7365), (44, .ifCond .eq 12, [], 56), (47, .aload_n 0, [0, 1, 1, 1, 1, 1], 0), (48, .getfield 65, [], 519), (51, .iconst 1, [], 1), (52, .invokevirtual 110, [], 7877), (55, .ireturn, [], 0), (56, .aload_n 0, [], 0), (57, .getfield 65, [], 519), (60, .getfield 309, [], 384), (63, .iload_n 1, [], 0), (64, .iaload, [], 0), (65, .aload_n 0, [], 0), (66, .getfield 65, [], 519), (69, .getfield 309, [], 384), (72, .iload_n 3, [], 0), (73, .iaload, [], 0), (74, .if_icmp .eq 12, [], 86), (77, .aload_n 0, [], 0), (78, .getfield 65, [], 519), (81, .iconst 4, [], 5), (82, .invokevirtual 110, [], 7877), (85, .ireturn, [], 0), (86, .aload_n 0, [], 0), (87, .getfield 65, [], 519), (90, .iload_n 1, [], 0), (91, .iload_n 2, [], 0), (92, .iload 5, [], 0), (94, .invokevirtual 322, [], 63181), (97, .ifCond .eq 18, [], 115), (100, .aload_n 0, [], 0), (101, .getfield 65, [], 519), (104, .iload_n 3, [], 0), (105, .iload 4, [], 0), (107, .iload 5, [], 0), (109, .invokevirtual 322, [], 63181), (112, .ifCond .ne 12, [], 124), (115, .aload_n 0, [0, 1, 1, 1, 1, 1], 0), (116, .getfield 65, [], 519), (119, .iconst 2, [], 3), (120, .invokevirtual 110, [], 7877), (123, .ireturn, [], 0), (124, .aload_n 0, [], 0), (125, .getfield 65, [], 519), (128, .getfield 325, [], 386), (131, .iload_n 1, [], 0), (132, .aaload, [], 0), (133, .iload_n 2, [], 0), (134, .aload_n 0, [], 0), (135, .getfield 65, [], 519), (138, .getfield 325, [], 386), (141, .iload_n 3, [], 0), (142, .aaload, [], 0), (143, .iload 4, [], 0), (145, .iload 5, [], 0), (147, .invokestatic 329, [], 0), (150, .iconst 1, [], 1), (151, .ireturn, [], 0)]
def kc_Sheets_spans : List Ety := [(0, .iload_n 3, [], 0), (1, .ifCond .lt 23, [], 24), (4, .iload_n 2, [], 0), (5, .ifCond .lt 19, [], 24), (8, .iload_n 2, [], 0), (9, .aload_n 0, [], 0), (10, .getfield 15, [], 385), (13, .iload_n 1, [], 0), (14, .iaload, [], 0), (15, .iload_n 3, [], 0), (16, .isub, [], 0), (17, .if_icmp .gt 7, [], 24), (20, .iconst 1, [], 1), (21, .goto 4, [], 25), (24, .iconst 0, [], 0), (25, .ireturn, [], 0)]
def kc_TO_write : List Ety := [(0, .aload_n 0, [], 0), (1, .getfield 10, [], 512), (4, .iload_n 1, [], 0), (5, .invokevirtual 83, [], 2149), (8, .ifCond .eq 14, [], 22), (11, .aload_n 0, [], 0), (12, .getfield 65, [], 519), (15, .iload_n 2, [], 0), (16, .invokevirtual 106, [], 6853), (19, .ifCond .ne 6, [], 25), (22, .bipush (-2), [], 7), (24, .ireturn, [], 0), (25, .aload_n 0, [], 0), (26, .getfield 65, [], 519), (29, .iload_n 2, [], 0), (30, .invokevirtual 107, [], 7365), (33, .ifCond .eq 12, [], 45), (36, .aload_n 0, [], 0), (37, .getfield 65, [], 519), (40, .iconst 1, [], 1), (41, .invokevirtual 110, [], 7877), (44, .ireturn, [], 0), (45, .aload_n 0, [], 0), (46, .getfield 65, [], 519), (49, .getfield 113, [], 385), (52, .iload_n 2, [], 0), (53, .iaload, [], 0), (54, .aload_n 0, [], 0), (55, .getfield 10, [], 512), (58, .getfield 76, [], 193), (61, .invokestatic 117, [], 2), (64, .istore_n 3, [], 0), (65, .iconst 0, [], 0), (66, .istore 4, [], 0), (68, .iload 4, [0, 0, 0, 0, 0], 0), (70, .iload_n 3, [], 0), (71, .if_icmp .ge 37, [], 108), (74, .aload_n 0, [], 0), (75, .getfield 65, [], 519), (78, .iload_n 2, [], 0), (79, .iload 4, [], 0), (81, .aload_n 0, [], 0), (82, .getfield 10, [], 512), (85, .iload_n 1, [], 0), (86, .iload 4, [], 0), (88, .invokevirtual 87, [], 3177), (91, .ifCond .eq 7, [], 98), (94, .iconst 1, [], 1), (95, .goto 4, [], 99), (98, .iconst 0, [], 0), (99, .invokevirtual 316, [], 61644), (102, .iinc 4 1, [], 1), (105, .goto (-37), [], 68), (108, .iload_n 3, [], 0), (109, .ireturn, [], 0)]
def kc_TO_count : List Ety := [(0, .iload_n 1, [], 0), (1, .tableswitch 139 0 9 #[55, 63, 80, 88, 96, 104, 113, 118, 123, 131], [], 3), (56, .aload_n 0, [], 0), (57, .getfield 10, [], 512), (60, .getfield 76, [], 193), (63, .ireturn, [], 0), (64, .aload_n 0, [], 0), (65, .getfield 10, [], 512), (68, .aload_n 0, [], 0), (69, .getfield 10, [], 512), (72, .invokevirtual 183, [], 1633), (75, .invokevirtual 187, [], 26725), (78, .iconst 2, [], 3), (79, .idiv, [], 0), (80, .ireturn, [], 0), (81, .aload_n 0, [], 0), (82, .getfield 10, [], 512), (85, .getfield 335, [], 194), (88, .ireturn, [], 0), (89, .aload_n 0, [], 0), (90, .getfield 35, [], 515), (93, .getfield 201, [], 265), (96, .ireturn, [], 0), (97, .aload_n 0, [], 0), (98, .getfield 35, [], 515), (101, .invokevirtual 242, [], 41601), (104, .ireturn, [], 0), (105, .aload_n 0, [], 0), (106, .getfield 35, [], 515), (109, .iconst 0, [], 0), (110, .invokevirtual 260, [], 47237), (113, .ireturn, [], 0), (114, .aload_n 0, [], 0), (115, .getfield 69, [], 520), (118, .ireturn, [], 0), (119, .aload_n 0, [], 0), (120, .getfield 73, [], 521), (123, .ireturn, [], 0), (124, .aload_n 0, [], 0), (125, .getfield 65, [], 519), (128, .getfield 338, [], 387), (131, .ireturn, [], 0), (132, .aload_n 0, [], 0), (133, .getfield 58, [], 518), (136, .invokevirtual 341, [], 64577), (139, .ireturn, [], 0), (140, .bipush (-2), [], 7), (142, .ireturn, [], 0)]
def kc_Marks_signsOfAll : List Ety := [(0, .iconst 0, [], 0), (1, .istore_n 1, [], 0), (2, .iconst 0, [], 0), (3, .istore_n 2, [], 0), (4, .iload_n 2, [0, 0, 0], 0), (5, .aload_n 0, [], 0), (6, .getfield 9, [], 128), (9, .getfield 36, [], 265), (12, .if_icmp .ge 18, [], 30), (15, .iload_n 1, [], 0), (16, .aload_n 0, [], 0), (17, .getfield 21, [], 130), (20, .iload_n 2, [], 0), (21, .iaload, [], 0), (22, .iadd, [], 0), (23, .istore_n 1, [], 0), (24, .iinc 2 1, [], 1), (27, .goto (-23), [], 4), (30, .iload_n 1, [], 0), (31, .ireturn, [], 0)]
def kc_TO_digest : List Ety := [(0, .ldc2_w 344, [], 11), (3, .lstore_n 1, [], 0), (4, .iconst 0, [], 0), (5, .istore_n 3, [], 0), (6, .iload_n 3, [0, 0, 1, 0], 0), (7, .bipush 9, [], 6), (9, .if_icmp .gt 32, [], 41), (12, .iload_n 3, [], 0), (13, .bipush 8, [], 12), (15, .if_icmp .ne 7, [], 22), (18, .lload_n 1, [], 0), (19, .goto 15, [], 34), (22, .ldc2_w 346, [], 12), (25, .lload_n 1, [], 0), (26, .lmul, [], 0), (27, .aload_n 0, [], 0), (28, .iload_n 3, [], 0), (29, .invokevirtual 348, [], 64261), (32, .i2l, [], 0), (33, .ladd, [], 0), (34, .lstore_n 1, [], 0), (35, .iinc 3 1, [], 1), (38, .goto (-32), [], 6), (41, .aload_n 0, [], 0), (42, .lload_n 1, [], 0), (43, .invokevirtual 350, [], 65798), (46, .lstore_n 1, [], 0), (47, .aload_n 0, [], 0), (48, .lload_n 1, [], 0), (49, .invokevirtual 354, [], 66310), (52, .lstore_n 1, [], 0), (53, .ldc2_w 346, [], 12), (56, .lload_n 1, [], 0), (57, .lmul, [], 0), (58, .aload_n 0, [], 0), (59, .iconst 0, [], 0), (60, .invokevirtual 357, [], 40709), (63, .i2l, [], 0), (64, .ladd, [], 0), (65, .lstore_n 1, [], 0), (66, .ldc2_w 346, [], 12), (69, .lload_n 1, [], 0), (70, .lmul, [], 0), (71, .aload_n 0, [], 0), (72, .iconst 0, [], 0), (73, .invokevirtual 360, [], 55557), (76, .i2l, [], 0), (77, .ladd, [], 0), (78, .lstore_n 1, [], 0), (79, .ldc2_w 346, [], 12), (82, .lload_n 1, [], 0), (83, .lmul, [], 0), (84, .aload_n 0, [], 0), (85, .iconst 1, [], 1), (86, .invokevirtual 360, [], 55557), (89, .i2l, [], 0), (90, .ladd, [], 0), (91, .lstore_n 1, [], 0), (92, .iconst 0, [], 0), (93, .istore_n 3, [], 0), (94, .iload_n 3, [0, 0, 1, 0], 0), (95, .iconst 2, [], 3), (96, .if_icmp .gt 21, [], 117), (99, .ldc2_w 346, [], 12), (102, .lload_n 1, [], 0), (103, .lmul, [], 0), (104, .aload_n 0, [], 0), (105, .iload_n 3, [], 0), (106, .invokevirtual 363, [], 57094), (109, .ladd, [], 0), (110, .lstore_n 1, [], 0), (111, .iinc 3 1, [], 1), (114, .goto (-20), [], 94), (117, .lload_n 1, [], 0), (118, .lreturn, [], 0)]
def kc_TO_digestOfNet : List Ety := [(0, .lload_n 1, [], 0), (1, .lstore_n 3, [], 0), (2, .iconst 0, [], 0), (3, .istore 5, [], 0), (5, .iload 5, [0, 1, 1, 0, 1, 0], 0), (7, .aload_n 0, [], 0), (8, .getfield 10, [], 512), (11, .getfield 76, [], 193), (14, .if_icmp .ge 67, [], 81), (17, .ldc2_w 346, [], 12), (20, .lload_n 3, [], 0), (21, .lmul, [], 0), (22, .aload_n 0, [], 0), (23, .iload 5, [], 0), (25, .iconst 0, [], 0), (26, .invokevirtual 366, [], 8969), (29, .i2l, [], 0), (30, .ladd, [], 0), (31, .lstore_n 3, [], 0), (32, .ldc2_w 346, [], 12), (35, .lload_n 3, [], 0), (36, .lmul, [], 0), (37, .aload_n 0, [], 0), (38, .iload 5, [], 0), (40, .iconst 1, [], 1), (41, .invokevirtual 366, [], 8969), (44, .i2l, [], 0), (45, .ladd, [], 0), (46, .lstore_n 3, [], 0), (47, .ldc2_w 346, [], 12), (50, .lload_n 3, [], 0), (51, .lmul, [], 0), (52, .aload_n 0, [], 0), (53, .iload 5, [], 0), (55, .iconst 0, [], 0), (56, .invokevirtual 369, [], 14602), (59, .ladd, [], 0), (60, .lstore_n 3, [], 0), (61, .ldc2_w 346, [], 12), (64, .lload_n 3, [], 0), (65, .lmul, [], 0), (66, .aload_n 0, [], 0), (67, .iload 5, [], 0), (69, .iconst 1, [], 1), (70, .invokevirtual 369, [], 14602), (73, .ladd, [], 0), (74, .lstore_n 3, [], 0), (75, .iinc 5 1, [], 1), (78, .goto (-73), [], 5), (81, .ldc2_w 346, [], 12), (84, .lload_n 3, [], 0), (85, .lmul, [], 0), (86, .aload_n 0, [], 0), (87, .bipush 10, [], 41), (89, .iconst 0, [], 0), (90, .invokevirtual 372, [], 22282), (93, .ladd, [], 0), (94, .lstore_n 3, [], 0), (95, .ldc2_w 346, [], 12), (98, .lload_n 3, [], 0), (99, .lmul, [], 0), (100, .aload_n 0, [], 0), (101, .bipush 10, [], 41), (103, .iconst 1, [], 1), (104, .invokevirtual 372, [], 22282), (107, .ladd, [], 0), (108, .lreturn, [], 0)]
def kc_TO_digestOfRecords : List Ety := [(0, .lload_n 1, [], 0), (1, .lstore_n 3, [], 0), (2, .iconst 0, [], 0), (3, .istore 5, [], 0), (5, .iload 5, [0, 1, 1, 0, 1, 0, 1], 0), (7, .aload_n 0, [], 0), (8, .getfield 35, [], 515), (11, .getfield 201, [], 265), (14, .if_icmp .ge 41, [], 55), (17, .iconst 0, [], 0), (18, .istore 6, [], 0), (20, .iload 6, [0, 1, 1, 0, 1, 0, 0], 0), (22, .bipush 7, [], 16), (24, .if_icmp .gt 25, [], 49), (27, .ldc2_w 346, [], 12), (30, .lload_n 3, [], 0), (31, .lmul, [], 0), (32, .aload_n 0, [], 0), (33, .iload 5, [], 0), (35, .iload 6, [], 0), (37, .invokevirtual 375, [], 32009), (40, .i2l, [], 0), (41, .ladd, [], 0), (42, .lstore_n 3, [], 0), (43, .iinc 6 1, [], 1), (46, .goto (-26), [], 20), (49, .iinc 5 1, [], 1), (52, .goto (-47), [], 5), (55, .iconst 0, [], 0), (56, .istore 5, [], 0), (58, .iload 5, [0, 1, 1, 0, 1, 0, 1], 0), (60, .iconst 2, [], 3), (61, .if_icmp .gt 37, [], 98), (64, .ldc2_w 346, [], 12), (67, .lload_n 3, [], 0), (68, .lmul, [], 0), (69, .aload_n 0, [], 0), (70, .iload 5, [], 0), (72, .iconst 0, [], 0), (73, .invokevirtual 378, [], 33034), (76, .ladd, [], 0), (77, .lstore_n 3, [], 0), (78, .ldc2_w 346, [], 12), (81, .lload_n 3, [], 0), (82, .lmul, [], 0), (83, .aload_n 0, [], 0), (84, .iload 5, [], 0), (86, .iconst 1, [], 1), (87, .invokevirtual 378, [], 33034), (90, .ladd, [], 0), (91, .lstore_n 3, [], 0), (92, .iinc 5 1, [], 1), (95, .goto (-37), [], 58), (98, .lload_n 3, [], 0), (99, .lreturn, [], 0)]
def kc_Mod_sheet : List Ety := [(0, .iload_n 1, [], 0), (1, .invokestatic 126, [], 67082), (4, .ifCond .eq 21, [], 25), (7, .iload_n 2, [], 0), (8, .i2l, [], 0), (9, .lconst 0, [], 0), (10, .ldc2_w 130, [], 6), (13, .invokestatic 117, [], 67602), (16, .ifCond .eq 9, [], 25), (19, .iload_n 3, [], 0), (20, .bipush 60, [], 39), (22, .if_icmp .le 6, [], 28), (25, .bipush (-2), [], 7), (27, .ireturn, [], 0), (28, .iload_n 3, [], 0), (29, .ifCond .ge 9, [], 38), (32, .aload_n 0, [], 0), (33, .iconst 5, [], 22), (34, .invokevirtual 132, [], 68389), (37, .ireturn, [], 0), (38, .aload_n 0, [], 0), (39, .getfield 7, [], 576), (42, .iload_n 1, [], 0), (43, .iload_n 2, [], 0), (44, .iastore, [], 0), (45, .aload_n 0, [], 0), (46, .getfield 13, [], 577), (49, .iload_n 1, [], 0), (50, .iload_n 3, [], 0), (51, .iastore, [], 0), (52, .iconst 0, [], 0), (53, .istore 4, [], 0), (55, .iload 4, [0, 0, 1, 0, 0], 0), (57, .iload_n 3, [], 0), (58, .if_icmp .ge 22, [], 80), (61, .aload_n 0, [], 0), (62, .getfield 16, [], 578), (65, .bipush 60, [], 39), (67, .iload_n 1, [], 0), (68, .imul, [], 0), (69, .iload 4, [], 0), (71, .iadd, [], 0), (72, .iconst 0, [], 0), (73, .iastore, [], 0), (74, .iinc 4 1, [], 1), (77, .goto (-22), [], 55), (80, .iload_n 3, [], 0), (81, .ireturn, [], 0)]
def kc_Mod_isSheet : List Ety := [(0, .iload_n 0, [], 0), (1, .i2l, [], 0), (2, .lconst 0, [], 0), (3, .ldc2_w 124, [], 13), (6, .invokestatic 117, [], 67602), (9, .ireturn, [], 0)]
def kc_Mod_in : List Ety := [(0, .lload_n 0, [], 0), (1, .lload_n 2, [], 0), (2, .lcmp, [], 0), (3, .ifCond .lt 14, [], 17), (6, .lload_n 0, [], 0), (7, .lload 4, [], 0), (9, .lcmp, [], 0), (10, .ifCond .gt 7, [], 17), (13, .iconst 1, [], 1), (14, .goto 4, [], 18), (17, .iconst 0, [], 0), (18, .ireturn, [], 0)]
def kc_Mod_met : List Ety := [(0, .aload_n 0, [], 0), (1, .iload_n 1, [], 0), (2, .putfield 121, [], 580), (5, .bipush (-10), [], 8), (7, .iload_n 1, [], 0), (8, .isub, [], 0), (9, .ireturn, [], 0)]
def kc_Mod_lose : List Ety := [(0, .iload_n 1, [], 0), (1, .invokestatic 126, [], 67082), (4, .ifCond .ne 6, [], 10), (7, .bipush (-2), [], 7), (9, .ireturn, [], 0), (10, .aload_n 0, [], 0), (11, .getfield 7, [], 576), (14, .iload_n 1, [], 0), (15, .iaload, [], 0), (16, .ifCond .ge 9, [], 25), (19, .aload_n 0, [], 0), (20, .iconst 1, [], 1), (21, .invokevirtual 132, [], 68389), (24, .ireturn, [], 0), (25, .aload_n 0, [], 0), (26, .getfield 7, [], 576), (29, .iload_n 1, [], 0), (30, .iconst (-1), [], 2), (31, .iastore, [], 0), (32, .aload_n 0, [], 0), (33, .getfield 13, [], 577), (36, .iload_n 1, [], 0), (37, .iaload, [], 0), (38, .ireturn, [], 0)]
def kc_Mod_lay : List Ety := [(0, .iload_n 1, [], 0), (1, .invokestatic 126, [], 67082), (4, .ifCond .eq 15, [], 19), (7, .iload_n 2, [], 0), (8, .i2l, [], 0), (9, .lconst 0, [], 0), (10, .ldc2_w 130, [], 6), (13, .invokestatic 117, [], 67602), (16, .ifCond .ne 6, [], 22), (19, .bipush (-2), [], 7), (21, .ireturn, [], 0), (22, .aload_n 0, [], 0), (23, .iload_n 1, [], 0), (24, .iload_n 2, [], 0), (25, .iload_n 3, [], 0), (26, .invokevirtual 136, [], 69933), (29, .istore 5, [], 0), (31, .iload 5, [], 0), (33, .ifCond .eq 6, [], 39), (36, .iload 5, [], 0), (38, .ireturn, [], 0), (39, .aload_n 0, [], 0), (40, .getfield 16, [], 578), (43, .bipush 60, [], 39), (45, .iload_n 1, [], 0), (46, .imul, [], 0), (47, .iload_n 3, [], 0), (48, .iadd, [], 0), (49, .iload_n 2, [], 0), (50, .iload 4, [], 0), (52, .invokestatic 140, [], 70158), (55, .iastore, [], 0), (56, .iconst 1, [], 1), (57, .ireturn, [], 0)]
def kc_Mod_lacks : List Ety := [(0, .aload_n 0, [], 0), (1, .getfield 7, [], 576), (4, .iload_n 1, [], 0), (5, .iaload, [], 0), (6, .ifCond .ge 9, [], 15), (9, .aload_n 0, [], 0), (10, .iconst 1, [], 1), (11, .invokevirtual 132, [], 68389), (14, .ireturn, [], 0), (15, .aload_n 0, [], 0), (16, .getfield 7, [], 576), (19, .iload_n 1, [], 0), (20, .iaload, [], 0), (21, .iload_n 2, [], 0), (22, .if_icmp .eq 9, [], 31), (25, .aload_n 0, [], 0), (26, .iconst 3, [], 4), (27, .invokevirtual 132, [], 68389), (30, .ireturn, [], 0), (31, .iload_n 3, [], 0), (32, .i2l, [], 0), (33, .lconst 0, [], 0), (34, .aload_n 0, [], 0), (35, .getfield 13, [], 577), (38, .iload_n 1, [], 0), (39, .iaload, [], 0), (40, .iconst 1, [], 1), (41, .isub, [], 0), (42, .i2l, [], 0), (43, .invokestatic 117, [], 67602), (46, .ifCond .eq 7, [], 53), (49, .iconst 0, [], 0), (50, .goto 8, [], 58), (53, .aload_n 0, [], 0), (54, .iconst 2, [], 3), (55, .invokevirtual 132, [], 68389), (58, .ireturn, [], 0)]
def kc_Mod_cut : List Ety := [(0, .iload_n 0, [], 0), (1, .ifCond .ne 8, [], 9), (4, .iload_n 1, [], 0), (5, .i2b, [], 0), (6, .goto 14, [], 20), (9, .iload_n 0, [], 0), (10, .iconst 1, [], 1), (11, .if_icmp .ne 8, [], 19), (14, .iload_n 1, [], 0), (15, .i2s, [], 0), (16, .goto 4, [], 20), (19, .iload_n 1, [], 0), (20, .ireturn, [], 0)]
def kc_Mod_get : List Ety := [(0, .iload_n 1, [], 0), (1, .invokestatic 126, [], 67082), (4, .ifCond .eq 25, [], 29), (7, .iload_n 2, [], 0), (8, .i2l, [], 0), (9, .lconst 0, [], 0), (10, .ldc2_w 130, [], 6), (13, .invokestatic 117, [], 67602), (16, .ifCond .eq 13, [], 29), (19, .aload_n 0, [], 0), (20, .iload_n 1, [], 0), (21, .iload_n 2, [], 0), (22, .iload_n 3, [], 0), (23, .invokevirtual 136, [], 69933), (26, .ifCond .eq 6, [], 32), (29, .ldc 144, [], 40), (31, .ireturn, [], 0), (32, .aload_n 0, [], 0), (33, .getfield 16, [], 578), (36, .bipush 60, [], 39), (38, .iload_n 1, [], 0), (39, .imul, [], 0), (40, .iload_n 3, [], 0), (41, .iadd, [], 0), (42, .iaload, [], 0), (43, .ireturn, [], 0)]
def kc_Mod_copy : List Ety := [(0, .iload_n 1, [], 0), (1, .invokestatic 126, [], 67082), (4, .ifCond .eq 10, [], 14), (7, .iload_n 3, [], 0), (8, .invokestatic 126, [], 67082), (11, .ifCond .ne 6, [], 17), (14, .bipush (-2), [1, 1, 1, 1, 1, 1, 1], 7), (16, .ireturn, [], 0), (17, .aload_n 0, [], 0), (18, .getfield 7, [], 576), (21, .iload_n 1, [], 0), (22, .iaload, [], 0), (23, .ifCond .lt 12, [], 35), (26, .aload_n 0, [], 0), (27, .getfield 7, [], 576), (30, .iload_n 3, [], 0), (31, .iaload, [], 0), (32, .ifCond .ge 9, [], 41), (35, .aload_n 0, [0, 1, 1, 1, 1, 1, 1], 0), (36, .iconst 1, [], 1), (37, .invokevirtual 132, [], 68389), (40, .ireturn, [], 0), (41, .aload_n 0, [], 0), (42, .getfield 7, [], 576), (45, .iload_n 1, [], 0), (46, .iaload, [], 0), (47, .aload_n 0, [], 0), (48, .getfield 7, [], 576), (51, .iload_n 3, [], 0), (52, .iaload, [], 0), (53, .if_icmp .eq 9, [], 62), (56, .aload_n 0, [], 0), (57, .iconst 4, [], 5), (58, .invokevirtual 132, [], 68389), (61, .ireturn, [], 0), (62, .iload_n 2, [], 0), (63, .ifCond .lt 48, [], 111), (66, .iload 4, [], 0), (68, .ifCond .lt 43, [], 111), (71, .iload 5, [], 0), (73, .ifCond .lt 38, [], 111), (76, .iload_n 2, [], 0), (77, .i2l, [], 0), (78, .iload 5, [], 0), (80, .i2l, [], 0), (81, .ladd, [], 0), (82, .aload_n 0, [], 0), (83, .getfield 13, [], 577), (86, .iload_n 1, [], 0), (87, .iaload, [], 0), (88, .i2l, [], 0), (89, .lcmp, [], 0), (90, .ifCond .gt 21, [], 111), (93, .iload 4, [], 0), (95, .i2l, [], 0), (96, .iload 5, [], 0), (98, .i2l, [], 0), (99, .ladd, [], 0), (100, .aload_n 0, [], 0), (101, .getfield 13, [], 577), (104, .iload_n 3, [], 0), (105, .iaload, [], 0), (106, .i2l, [], 0), (107, .lcmp, [], 0), (108, .ifCond .le 9, [], 117), (111, .aload_n 0, [0, 1, 1, 1, 1, 1, 1], 0), (112, .iconst 2, [], 3), (113, .invokevirtual 132, [], 68389), (116, .ireturn, [], 0), (117, .iconst 0, [], 0), (118, .istore 6, [], 0), (120, .iload 6, [0, 0, 0, 0, 0, 0, 0], 0), (122, .iload 5, [], 0), (124, .if_icmp .ge 30, [], 154), (127, .aload_n 0, [], 0), (128, .getfield 19, [], 579), (131, .iload 6, [], 0), (133, .aload_n 0, [], 0), (134, .getfield 16, [], 578), (137, .bipush 60, [], 39), (139, .iload_n 1, [], 0), (140, .imul, [], 0), (141, .iload_n 2, [], 0), (142, .iadd, [], 0), (143, .iload 6, [], 0), (145, .iadd, [], 0), (146, .iaload, [], 0), (147, .iastore, [], 0), (148, .iinc 6 1, [], 1), (151, .goto (-31), [], 120), (154, .iconst 0, [], 0), (155, .istore 6, [], 0), (157, .iload 6, [0, 1, 1, 0, 0, 0, 0], 0), (159, .iload 5, [], 0), (161, .if_icmp .ge 31, [], 192), (164, .aload_n 0, [], 0), (165, .getfield 16, [], 578), (168, .bipush 60, [], 39), (170, .iload_n 3, [], 0), (171, .imul, [], 0), (172, .iload 4, [], 0), (174, .iadd, [], 0), (175, .iload 6, [], 0), (177, .iadd, [], 0), (178, .aload_n 0, [], 0), (179, .getfield 19, [], 579), (182, .iload 6, [], 0), (184, .iaload, [], 0), (185, .iastore, [], 0), (186, .iinc 6 1, [], 1), (189, .goto (-32), [], 157), (192, .iconst 1, [], 1), (193, .ireturn, [], 0)]
def kc_Mod_persons : List Ety := [(0, .iload_n 1, [], 0), (1, .i2l, [], 0), (2, .lconst 1, [], 1), (3, .ldc2_w 151, [], 14), (6, .invokestatic 117, [], 67602), (9, .ifCond .ne 6, [], 15), (12, .bipush (-2), [], 7), (14, .ireturn, [], 0), (15, .aload_n 0, [], 0), (16, .getfield 22, [], 581), (19, .istore_n 2, [], 0), (20, .aload_n 0, [], 0), (21, .iload_n 1, [], 0), (22, .putfield 22, [], 581), (25, .iconst 0, [], 0), (26, .istore_n 3, [], 0), (27, .iload_n 3, [0, 0, 0, 0], 0), (28, .bipush 9, [], 6), (30, .if_icmp .ge 57, [], 87), (33, .aload_n 0, [], 0), (34, .getfield 26, [], 582), (37, .iload_n 3, [], 0), (38, .iload_n 3, [], 0), (39, .iload_n 1, [], 0), (40, .if_icmp .ge 18, [], 58), (43, .aload_n 0, [], 0), (44, .getfield 26, [], 582), (47, .iload_n 3, [], 0), (48, .iaload, [], 0), (49, .iconst 1, [], 1), (50, .iload_n 1, [], 0), (51, .ishl, [], 0), (52, .iconst 1, [], 1), (53, .isub, [], 0), (54, .iand, [], 0), (55, .goto 4, [], 59), (58, .iconst 0, [], 0), (59, .iastore, [], 0), (60, .aload_n 0, [], 0), (61, .getfield 29, [], 583), (64, .iload_n 3, [], 0), (65, .iload_n 3, [], 0), (66, .iload_n 1, [], 0), (67, .if_icmp .ge 12, [], 79), (70, .aload_n 0, [], 0), (71, .getfield 29, [], 583), (74, .iload_n 3, [], 0), (75, .iaload, [], 0), (76, .goto 4, [], 80), (79, .iconst 0, [], 0), (80, .iastore, [], 0), (81, .iinc 3 1, [], 1), (84, .goto (-57), [], 27), (87, .aload_n 0, [], 0), (88, .aload_n 0, [], 0), (89, .getfield 32, [], 584), (92, .iload_n 1, [], 0), (93, .if_icmp .ge 10, [], 103), (96, .aload_n 0, [], 0), (97, .getfield 32, [], 584), (100, .goto 4, [], 104), (103, .iconst (-1), [], 2), (104, .putfield 32, [], 584), (107, .iload_n 2, [], 0), (108, .ireturn, [], 0)]
def kc_Mod_tie : List Ety := [(0, .aload_n 0, [], 0), (1, .iload_n 1, [], 0), (2, .invokevirtual 153, [], 72997), (5, .ifCond .eq 26, [], 31), (8, .aload_n 0, [], 0), (9, .iload_n 2, [], 0), (10, .invokevirtual 153, [], 72997), (13, .ifCond .eq 18, [], 31), (16, .iload_n 1, [], 0), (17, .iload_n 2, [], 0), (18, .if_icmp .eq 13, [], 31), (21, .aload_n 0, [], 0), (22, .iload_n 1, [], 0), (23, .iload_n 2, [], 0), (24, .iload_n 3, [], 0), (25, .invokevirtual 156, [], 73517), (28, .goto 5, [], 33), (31, .bipush (-2), [], 7), (33, .ireturn, [], 0)]
def kc_Mod_isPerson : List Ety := [(0, .iload_n 1, [], 0), (1, .i2l, [], 0), (2, .lconst 0, [], 0), (3, .aload_n 0, [], 0), (4, .getfield 22, [], 581), (7, .iconst 1, [], 1), (8, .isub, [], 0), (9, .i2l, [], 0), (10, .invokestatic 117, [], 67602), (13, .ireturn, [], 0)]
def kc_Mod_ties : List Ety := [(0, .aload_n 0, [], 0), (1, .getfield 26, [], 582), (4, .iload_n 1, [], 0), (5, .iaload, [], 0), (6, .iload_n 2, [], 0), (7, .ishr, [], 0), (8, .iconst 1, [], 1), (9, .iand, [], 0), (10, .iconst 1, [], 1), (11, .if_icmp .ne 7, [], 18), (14, .iconst 1, [], 1), (15, .goto 4, [], 19), (18, .iconst 0, [], 0), (19, .istore 4, [], 0), (21, .iload 4, [], 0), (23, .iload_n 3, [], 0), (24, .if_icmp .ne 5, [], 29), (27, .iconst 0, [], 0), (28, .ireturn, [], 0), (29, .aload_n 0, [], 0), (30, .getfield 26, [], 582), (33, .iload_n 1, [], 0), (34, .dup2, [], 0), (35, .iaload, [], 0), (36, .iconst 1, [], 1), (37, .iload_n 2, [], 0), (38, .ishl, [], 0), (39, .ixor, [], 0), (40, .iastore, [], 0), (41, .aload_n 0, [], 0), (42, .getfield 26, [], 582), (45, .iload_n 2, [], 0), (46, .dup2, [], 0), (47, .iaload, [], 0), (48, .iconst 1, [], 1), (49, .iload_n 1, [], 0), (50, .ishl, [], 0), (51, .ixor, [], 0), (52, .iastore, [], 0), (53, .iconst 1, [], 1), (54, .ireturn, [], 0)]
def kc_Mod_kind : List Ety := [(0, .aload_n 0, [], 0), (1, .iload_n 1, [], 0), (2, .invokevirtual 153, [], 72997), (5, .ifCond .eq 10, [], 15), (8, .iload_n 2, [], 0), (9, .invokestatic 160, [], 74250), (12, .ifCond .ne 6, [], 18), (15, .bipush (-2), [], 7), (17, .ireturn, [], 0), (18, .aload_n 0, [], 0), (19, .getfield 29, [], 583), (22, .iload_n 1, [], 0), (23, .iaload, [], 0), (24, .istore_n 3, [], 0), (25, .aload_n 0, [], 0), (26, .getfield 29, [], 583), (29, .iload_n 1, [], 0), (30, .iload_n 2, [], 0), (31, .iastore, [], 0), (32, .iload_n 3, [], 0), (33, .ireturn, [], 0)]
def kc_Mod_isTwo : List Ety := [(0, .iload_n 0, [], 0), (1, .i2l, [], 0), (2, .lconst 0, [], 0), (3, .lconst 1, [], 1), (4, .invokestatic 117, [], 67602), (7, .ireturn, [], 0)]
def kc_Mod_read : List Ety := [(0, .iload_n 1, [], 0), (1, .invokestatic 126, [], 67082), (4, .ifCond .eq 11, [], 15), (7, .aload_n 0, [], 0), (8, .iload_n 2, [], 0), (9, .invokevirtual 153, [], 72997), (12, .ifCond .ne 6, [], 18), (15, .bipush (-2), [], 7), (17, .ireturn, [], 0), (18, .aload_n 0, [], 0), (19, .getfield 7, [], 576), (22, .iload_n 1, [], 0), (23, .iaload, [], 0), (24, .ifCond .ge 9, [], 33), (27, .aload_n 0, [], 0), (28, .iconst 1, [], 1), (29, .invokevirtual 132, [], 68389), (32, .ireturn, [], 0), (33, .iconst 0, [], 0), (34, .istore_n 3, [], 0), (35, .iconst 1, [], 1), (36, .istore 4, [], 0), (38, .iload 4, [0, 0, 0, 0, 0, 1], 0), (40, .ifCond .eq 98, [], 138), (43, .iload_n 3, [], 0), (44, .aload_n 0, [], 0), (45, .getfield 13, [], 577), (48, .iload_n 1, [], 0), (49, .iaload, [], 0), (50, .if_icmp .ge 88, [], 138), (53, .iload_n 3, [], 0), (54, .aload_n 0, [], 0), (55, .getfield 22, [], 581), (58, .if_icmp .ge 80, [], 138), (61, .aload_n 0, [], 0), (62, .getfield 16, [], 578), (65, .bipush 60, [], 39), (67, .iload_n 1, [], 0), (68, .imul, [], 0), (69, .iload_n 3, [], 0), (70, .iadd, [], 0), (71, .iaload, [], 0), (72, .istore 5, [], 0), (74, .iload_n 3, [], 0), (75, .iload_n 2, [], 0), (76, .if_icmp .eq 11, [], 87), (79, .iload 5, [], 0), (81, .invokestatic 160, [], 74250), (84, .ifCond .eq 7, [], 91), (87, .iconst 1, [], 1), (88, .goto 4, [], 92), (91, .iconst 0, [], 0), (92, .istore 4, [], 0), (94, .iload 4, [], 0), (96, .ifCond .eq 26, [], 122), (99, .iload_n 3, [], 0), (100, .iload_n 2, [], 0), (101, .if_icmp .eq 21, [], 122), (104, .aload_n 0, [], 0), (105, .iload_n 2, [], 0), (106, .iload_n 3, [], 0), (107, .iload 5, [], 0), (109, .iconst 1, [], 1), (110, .if_icmp .ne 7, [], 117), (113, .iconst 1, [], 1), (114, .goto 4, [], 118), (117, .iconst 0, [], 0), (118, .invokevirtual 156, [], 73517), (121, .pop, [], 0), (122, .iload_n 3, [], 0), (123, .iload 4, [], 0), (125, .ifCond .eq 7, [], 132), (128, .iconst 1, [], 1), (129, .goto 4, [], 133), (132, .iconst 0, [], 0), (133, .iadd, [], 0), (134, .istore_n 3, [], 0), (135, .goto (-97), [], 38), (138, .iload_n 3, [], 0), (139, .ireturn, [], 0)]
def kc_Mod_about : List Ety := [(0, .aload_n 0, [], 0), (1, .iload_n 1, [], 0), (2, .invokevirtual 153, [], 72997), (5, .ifCond .eq 31, [], 36), (8, .iload_n 2, [], 0), (9, .invokestatic 160, [], 74250), (12, .ifCond .eq 24, [], 36), (15, .iload_n 2, [], 0), (16, .ifCond .ne 11, [], 27), (19, .aload_n 0, [], 0), (20, .iload_n 1, [], 0), (21, .invokevirtual 166, [], 76069), (24, .goto 14, [], 38), (27, .aload_n 0, [], 0), (28, .getfield 29, [], 583), (31, .iload_n 1, [], 0), (32, .iaload, [], 0), (33, .goto 5, [], 38), (36, .bipush (-2), [], 7), (38, .ireturn, [], 0)]
def kc_Mod_degree : List Ety := [(0, .aload_n 0, [], 0), (1, .getfield 26, [], 582), (4, .iload_n 1, [], 0), (5, .iaload, [], 0), (6, .invokestatic 163, [], 76298), (9, .ireturn, [], 0)]
def kc_Mod_bitsOf : List Ety := [(0, .iconst 0, [], 0), (1, .istore_n 1, [], 0), (2, .iload_n 0, [], 0), (3, .istore_n 2, [], 0), (4, .iload_n 2, [1, 0, 0], 0), (5, .ifCond .eq 15, [], 20), (8, .iinc 1 1, [], 1), (11, .iload_n 2, [], 0), (12, .iload_n 2, [], 0), (13, .iconst 1, [], 1), (14, .isub, [], 0), (15, .iand, [], 0), (16, .istore_n 2, [], 0), (17, .goto (-13), [], 4), (20, .iload_n 1, [], 0), (21, .ireturn, [], 0)]
def kc_Mod_far : List Ety := [(0, .aload_n 0, [], 0), (1, .iload_n 1, [], 0), (2, .invokevirtual 153, [], 72997), (5, .ifCond .eq 11, [], 16), (8, .aload_n 0, [], 0), (9, .iload_n 2, [], 0), (10, .invokevirtual 153, [], 72997), (13, .ifCond .ne 6, [], 19), (16, .bipush (-2), [], 7), (18, .ireturn, [], 0), (19, .iconst 0, [], 0), (20, .istore_n 3, [], 0), (21, .iload_n 3, [0, 0, 0, 0], 0), (22, .bipush 9, [], 6), (24, .if_icmp .ge 31, [], 55), (27, .aload_n 0, [], 0), (28, .iconst 1, [], 1), (29, .iload_n 1, [], 0), (30, .ishl, [], 0), (31, .iload_n 3, [], 0), (32, .aload_n 0, [], 0), (33, .invokevirtual 169, [], 77601), (36, .invokevirtual 173, [], 78125), (39, .iload_n 2, [], 0), (40, .ishr, [], 0), (41, .iconst 1, [], 1), (42, .iand, [], 0), (43, .iconst 1, [], 1), (44, .if_icmp .ne 5, [], 49), (47, .iload_n 3, [], 0), (48, .ireturn, [], 0), (49, .iinc 3 1, [], 1), (52, .goto (-31), [], 21), (55, .iconst (-1), [], 2), (56, .ireturn, [], 0)]
def kc_Mod_everybody : List Ety := [(0, .iconst 1, [], 1), (1, .aload_n 0, [], 0), (2, .getfield 22, [], 581), (5, .ishl, [], 0), (6, .iconst 1, [], 1), (7, .isub, [], 0), (8, .ireturn, [], 0)]
def kc_Mod_around : List Ety := [(0, .iload_n 1, [], 0), (1, .istore 4, [], 0), (3, .iconst 0, [], 0), (4, .istore 5, [], 0), (6, .iload 5, [0, 1, 0, 0, 0, 0, 1, 1], 0), (8, .iload_n 2, [], 0), (9, .if_icmp .ge 64, [], 73), (12, .iload 4, [], 0), (14, .istore 6, [], 0), (16, .iconst 0, [], 0), (17, .istore 7, [], 0), (19, .iload 7, [0, 1, 0, 0, 0, 0, 0, 0], 0), (21, .aload_n 0, [], 0), (22, .getfield 22, [], 581), (25, .if_icmp .ge 38, [], 63), (28, .iload 6, [], 0), (30, .iload 4, [], 0), (32, .iload 7, [], 0), (34, .ishr, [], 0), (35, .iconst 1, [], 1), (36, .iand, [], 0), (37, .iconst 1, [], 1), (38, .if_icmp .ne 15, [], 53), (41, .aload_n 0, [], 0), (42, .getfield 26, [], 582), (45, .iload 7, [], 0), (47, .iaload, [], 0), (48, .iload_n 3, [], 0), (49, .iand, [], 0), (50, .goto 4, [], 54), (53, .iconst 0, [], 0), (54, .ior, [], 0), (55, .istore 6, [], 0), (57, .iinc 7 1, [], 1), (60, .goto (-41), [], 19), (63, .iload 6, [], 0), (65, .istore 4, [], 0), (67, .iinc 5 1, [], 1), (70, .goto (-64), [], 6), (73, .iload 4, [], 0), (75, .ireturn, [], 0)]
def kc_Mod_set : List Ety := [(0, .iload_n 1, [], 0), (1, .ifCond .ne 21, [], 22), (4, .iload_n 2, [], 0), (5, .i2l, [], 0), (6, .ldc2_w 176, [], 10), (9, .aload_n 0, [], 0), (10, .getfield 22, [], 581), (13, .iconst 1, [], 1), (14, .isub, [], 0), (15, .i2l, [], 0), (16, .invokestatic 117, [], 67602), (19, .goto 59, [], 78), (22, .iload_n 1, [], 0), (23, .iconst 1, [], 1), (24, .if_icmp .ne 15, [], 39), (27, .iload_n 2, [], 0), (28, .i2l, [], 0), (29, .lconst 1, [], 1), (30, .ldc2_w 178, [], 15), (33, .invokestatic 117, [], 67602), (36, .goto 42, [], 78), (39, .iload_n 1, [], 0), (40, .iconst 2, [], 3), (41, .if_icmp .ne 15, [], 56), (44, .iload_n 2, [], 0), (45, .i2l, [], 0), (46, .lconst 0, [], 0), (47, .ldc2_w 180, [], 16), (50, .invokestatic 117, [], 67602), (53, .goto 25, [], 78), (56, .iload_n 1, [], 0), (57, .iconst 3, [], 4), (58, .if_icmp .ne 19, [], 77), (61, .iload_n 2, [], 0), (62, .i2l, [], 0), (63, .lconst 0, [], 0), (64, .ldc2_w 151, [], 14), (67, .invokestatic 117, [], 67602), (70, .ifCond .eq 7, [], 77), (73, .iconst 1, [], 1), (74, .goto 4, [], 78), (77, .iconst 0, [], 0), (78, .istore_n 3, [0, 0, 0, 1, 1], 0), (79, .iload_n 3, [], 0), (80, .ifCond .ne 6, [], 86), (83, .bipush (-5), [], 15), (85, .ireturn, [], 0), (86, .iload_n 1, [], 0), (87, .ifCond .ne 10, [], 97), (90, .aload_n 0, [], 0), (91, .getfield 32, [], 584), (94, .goto 31, [], 125), (97, .iload_n 1, [], 0), (98, .iconst 1, [], 1), (99, .if_icmp .ne 10, [], 109), (102, .aload_n 0, [], 0), (103, .getfield 35, [], 585), (106, .goto 19, [], 125), (109, .iload_n 1, [], 0), (110, .iconst 2, [], 3), (111, .if_icmp .ne 10, [], 121), (114, .aload_n 0, [], 0), (115, .getfield 38, [], 586), (118, .goto 7, [], 125), (121, .aload_n 0, [], 0), (122, .getfield 182, [], 587), (125, .istore 4, [0, 0, 0, 1, 1], 0), (127, .iload_n 1, [], 0), (128, .ifCond .ne 11, [], 139), (131, .aload_n 0, [], 0), (132, .iload_n 2, [], 0), (133, .putfield 32, [], 584), (136, .goto 34, [], 170), (139, .iload_n 1, [], 0), (140, .iconst 1, [], 1), (141, .if_icmp .ne 11, [], 152), (144, .aload_n 0, [], 0), (145, .iload_n 2, [], 0), (146, .putfield 35, [], 585), (149, .goto 21, [], 170), (152, .iload_n 1, [], 0), (153, .iconst 2, [], 3), (154, .if_icmp .ne 11, [], 165), (157, .aload_n 0, [], 0), (158, .iload_n 2, [], 0), (159, .putfield 38, [], 586), (162, .goto 8, [], 170), (165, .aload_n 0, [], 0), (166, .iload_n 2, [], 0), (167, .putfield 182, [], 587), (170, .iload 4, [1, 1, 1, 1, 0], 0), (172, .ireturn, [], 0)]
def kc_Mod_found : List Ety := [(0, .aload_n 0, [], 0), (1, .iload_n 1, [], 0), (2, .invokevirtual 153, [], 72997), (5, .ifCond .eq 10, [], 15), (8, .iload_n 2, [], 0), (9, .invokestatic 160, [], 74250), (12, .ifCond .ne 9, [], 21), (15, .bipush (-2), [], 7), (17, .invokestatic 222, [], 79371), (20, .lreturn, [], 0), (21, .aload_n 0, [], 0), (22, .iconst 0, [], 0), (23, .invokevirtual 225, [], 80164), (26, .aload_n 0, [], 0), (27, .getfield 54, [], 594), (30, .iload_n 1, [], 0), (31, .laload, [], 0), (32, .aload_n 0, [], 0), (33, .getfield 212, [], 593), (36, .iload_n 2, [], 0), (37, .invokestatic 228, [], 82963), (40, .lreturn, [], 0)]
def kc_Mod_no : List Ety := [(0, .ldc2_w 115, [], 2), (3, .iload_n 0, [], 0), (4, .i2l, [], 0), (5, .lsub, [], 0), (6, .lreturn, [], 0)]
def kc_Mod_goesThrough : List Ety := [(0, .aload_n 0, [], 0), (1, .iload_n 1, [], 0), (2, .putfield 200, [], 599), (5, .aload_n 0, [], 0), (6, .lconst 0, [], 0), (7, .putfield 194, [], 598), (10, .iconst 0, [], 0), (11, .istore_n 2, [], 0), (12, .iload_n 2, [0, 1, 0, 1, 1], 0), (13, .bipush 9, [], 6), (15, .if_icmp .ge 16, [], 31), (18, .aload_n 0, [], 0), (19, .getfield 54, [], 594), (22, .iload_n 2, [], 0), (23, .lconst 0, [], 0), (24, .lastore, [], 0), (25, .iinc 2 1, [], 1), (28, .goto (-16), [], 12), (31, .iconst 0, [], 0), (32, .istore_n 2, [], 0), (33, .iload_n 2, [0, 1, 0, 1, 1], 0), (34, .bipush 81, [], 42), (36, .if_icmp .ge 16, [], 52), (39, .aload_n 0, [], 0), (40, .getfield 57, [], 595), (43, .iload_n 2, [], 0), (44, .lconst 0, [], 0), (45, .lastore, [], 0), (46, .iinc 2 1, [], 1), (49, .goto (-16), [], 33), (52, .iconst 0, [], 0), (53, .istore_n 2, [], 0), (54, .iload_n 2, [0, 1, 0, 1, 1], 0), (55, .bipush 8, [], 12), (57, .if_icmp .ge 23, [], 80), (60, .aload_n 0, [], 0), (61, .getfield 60, [], 596), (64, .iload_n 2, [], 0), (65, .lconst 0, [], 0), (66, .lastore, [], 0), (67, .aload_n 0, [], 0), (68, .getfield 63, [], 597), (71, .iload_n 2, [], 0), (72, .lconst 0, [], 0), (73, .lastore, [], 0), (74, .iinc 2 1, [], 1), (77, .goto (-23), [], 54), (80, .aload_n 0, [], 0), (81, .aload_n 0, [], 0), (82, .getfield 32, [], 584), (85, .iconst (-1), [], 2), (86, .if_icmp .ne 15, [], 101), (89, .aload_n 0, [], 0), (90, .getfield 22, [], 581), (93, .i2l, [], 0), (94, .ldc2_w 210, [], 17), (97, .lmul, [], 0), (98, .goto 6, [], 104), (101, .ldc2_w 210, [], 17), (104, .putfield 212, [], 593), (107, .iconst 0, [], 0), (108, .istore_n 2, [], 0), (109, .iload_n 2, [0, 1, 0, 1, 1], 0), (110, .aload_n 0, [], 0), (111, .getfield 22, [], 581), (114, .if_icmp .ge 152, [], 266), (117, .aload_n 0, [], 0), (118, .getfield 32, [], 584), (121, .iconst (-1), [], 2), (122, .if_icmp .eq 11, [], 133), (125, .aload_n 0, [], 0), (126, .getfield 32, [], 584), (129, .iload_n 2, [], 0), (130, .if_icmp .ne 130, [], 260), (133, .aload_n 0, [], 0), (134, .iconst 0, [], 0), (135, .putfield 203, [], 592), (138, .aload_n 0, [], 0), (139, .getfield 41, [], 588), (142, .iconst 0, [], 0), (143, .iload_n 2, [], 0), (144, .iastore, [], 0), (145, .aload_n 0, [], 0), (146, .getfield 47, [], 590), (149, .iconst 0, [], 0), (150, .ldc2_w 210, [], 17), (153, .lastore, [], 0), (154, .iconst 0, [], 0), (155, .istore_n 3, [], 0), (156, .aload_n 0, [], 0), (157, .iconst 0, [], 0), (158, .invokevirtual 215, [], 80676), (161, .iload_n 3, [0, 1, 0, 0, 1], 0), (162, .ifCond .lt 98, [], 260), (165, .aload_n 0, [], 0), (166, .getfield 44, [], 589), (169, .iload_n 3, [], 0), (170, .iaload, [], 0), (171, .ifCond .ne 28, [], 199), (174, .aload_n 0, [], 0), (175, .dup, [], 0), (176, .getfield 203, [], 592), (179, .iconst 1, [], 1), (180, .aload_n 0, [], 0), (181, .getfield 41, [], 588), (184, .iload_n 3, [], 0), (185, .iaload, [], 0), (186, .ishl, [], 0), (187, .iconst (-1), [], 2), (188, .ixor, [], 0), (189, .iand, [], 0), (190, .putfield 203, [], 592), (193, .iinc 3 (-1), [], 2), (196, .goto (-35), [], 161), (199, .aload_n 0, [], 0), (200, .getfield 44, [], 589), (203, .iload_n 3, [], 0), (204, .iaload, [], 0), (205, .invokestatic 219, [], 82442), (208, .istore 4, [], 0), (210, .aload_n 0, [], 0), (211, .getfield 44, [], 589), (214, .iload_n 3, [], 0), (215, .dup2, [], 0), (216, .iaload, [], 0), (217, .aload_n 0, [], 0), (218, .getfield 44, [], 589), (221, .iload_n 3, [], 0), (222, .iaload, [], 0), (223, .iconst 1, [], 1), (224, .isub, [], 0), (225, .iand, [], 0), (226, .iastore, [], 0), (227, .iinc 3 1, [], 1), (230, .aload_n 0, [], 0), (231, .getfield 41, [], 588), (234, .iload_n 3, [], 0), (235, .iload 4, [], 0), (237, .iastore, [], 0), (238, .aload_n 0, [], 0), (239, .getfield 47, [], 590), (242, .iload_n 3, [], 0), (243, .aload_n 0, [], 0), (244, .getfield 51, [], 591), (247, .iload_n 3, [], 0), (248, .iconst 1, [], 1), (249, .isub, [], 0), (250, .laload, [], 0), (251, .lastore, [], 0), (252, .aload_n 0, [], 0), (253, .iload_n 3, [], 0), (254, .invokevirtual 215, [], 80676), (257, .goto (-96), [], 161), (260, .iinc 2 1, [], 1), (263, .goto (-154), [], 109), (266, .return_, [], 0)]
def kc_Mod_stands : List Ety := [(0, .aload_n 0, [], 0), (1, .getfield 41, [], 588), (4, .iload_n 1, [], 0), (5, .iaload, [], 0), (6, .istore_n 2, [], 0), (7, .aload_n 0, [], 0), (8, .dup, [], 0), (9, .getfield 203, [], 592), (12, .iconst 1, [], 1), (13, .iload_n 2, [], 0), (14, .ishl, [], 0), (15, .ior, [], 0), (16, .putfield 203, [], 592), (19, .aload_n 0, [], 0), (20, .getfield 44, [], 589), (23, .iload_n 1, [], 0), (24, .iload_n 1, [], 0), (25, .iconst 1, [], 1), (26, .iadd, [], 0), (27, .aload_n 0, [], 0), (28, .getfield 35, [], 585), (31, .if_icmp .ge 19, [], 50), (34, .aload_n 0, [], 0), (35, .getfield 26, [], 582), (38, .iload_n 2, [], 0), (39, .iaload, [], 0), (40, .aload_n 0, [], 0), (41, .getfield 203, [], 592), (44, .iconst (-1), [], 2), (45, .ixor, [], 0), (46, .iand, [], 0), (47, .goto 4, [], 51), (50, .iconst 0, [], 0), (51, .iastore, [], 0), (52, .aload_n 0, [], 0), (53, .getfield 44, [], 589), (56, .iload_n 1, [], 0), (57, .iaload, [], 0), (58, .invokestatic 163, [], 76298), (61, .istore_n 3, [], 0), (62, .iload_n 3, [], 0), (63, .ifCond .ne 19, [], 82), (66, .aload_n 0, [], 0), (67, .iload_n 1, [], 0), (68, .iconst 1, [], 1), (69, .iadd, [], 0), (70, .aload_n 0, [], 0), (71, .getfield 47, [], 590), (74, .iload_n 1, [], 0), (75, .laload, [], 0), (76, .invokevirtual 206, [], 81192), (79, .goto 18, [], 97), (82, .aload_n 0, [], 0), (83, .getfield 51, [], 591), (86, .iload_n 1, [], 0), (87, .aload_n 0, [], 0), (88, .getfield 47, [], 590), (91, .iload_n 1, [], 0), (92, .laload, [], 0), (93, .iload_n 3, [], 0), (94, .i2l, [], 0), (95, .ldiv, [], 0), (96, .lastore, [], 0), (97, .return_, [], 0)]
def kc_Mod_takes : List Ety := [(0, .iconst 0, [], 0), (1, .istore 4, [], 0), (3, .lconst 0, [], 0), (4, .lstore 5, [], 0), (6, .lconst 0, [], 0), (7, .lstore 7, [], 0), (9, .iconst 0, [], 0), (10, .istore 9, [], 0), (12, .iload 9, [0, 0, 0, 1, 0, 0, 1, 0, 1, 0, 1, 1], 0), (14, .iload_n 1, [], 0), (15, .if_icmp .ge 115, [], 130), (18, .aload_n 0, [], 0), (19, .getfield 41, [], 588), (22, .iload 9, [], 0), (24, .iaload, [], 0), (25, .istore 10, [], 0), (27, .iload 4, [], 0), (29, .aload_n 0, [], 0), (30, .getfield 29, [], 583), (33, .iload 10, [], 0), (35, .iaload, [], 0), (36, .iadd, [], 0), (37, .istore 4, [], 0), (39, .lload 5, [], 0), (41, .aload_n 0, [], 0), (42, .iload 10, [], 0), (44, .invokevirtual 187, [], 81702), (47, .ladd, [], 0), (48, .lstore 5, [], 0), (50, .lload 7, [], 0), (52, .aload_n 0, [], 0), (53, .getfield 29, [], 583), (56, .iload 10, [], 0), (58, .iaload, [], 0), (59, .iconst 1, [], 1), (60, .if_icmp .ne 12, [], 72), (63, .aload_n 0, [], 0), (64, .iload 10, [], 0), (66, .invokevirtual 187, [], 81702), (69, .goto 4, [], 73), (72, .lconst 0, [], 0), (73, .ladd, [], 0), (74, .lstore 7, [], 0), (76, .aload_n 0, [], 0), (77, .getfield 54, [], 594), (80, .iload 10, [], 0), (82, .dup2, [], 0), (83, .laload, [], 0), (84, .lload_n 2, [], 0), (85, .ladd, [], 0), (86, .lastore, [], 0), (87, .iconst 0, [], 0), (88, .istore 11, [], 0), (90, .iload 11, [0, 0, 0, 1, 0, 0, 1, 0, 1, 0, 0, 0], 0), (92, .iload_n 1, [], 0), (93, .if_icmp .ge 31, [], 124), (96, .aload_n 0, [], 0), (97, .getfield 57, [], 595), (100, .bipush 9, [], 6), (102, .iload 10, [], 0), (104, .imul, [], 0), (105, .aload_n 0, [], 0), (106, .getfield 41, [], 588), (109, .iload 11, [], 0), (111, .iaload, [], 0), (112, .iadd, [], 0), (113, .dup2, [], 0), (114, .laload, [], 0), (115, .lload_n 2, [], 0), (116, .ladd, [], 0), (117, .lastore, [], 0), (118, .iinc 11 1, [], 1), (121, .goto (-31), [], 90), (124, .iinc 9 1, [], 1), (127, .goto (-115), [], 12), (130, .aload_n 0, [], 0), (131, .getfield 60, [], 596), (134, .iload_n 1, [], 0), (135, .dup2, [], 0), (136, .laload, [], 0), (137, .lload_n 2, [], 0), (138, .ladd, [], 0), (139, .lastore, [], 0), (140, .aload_n 0, [], 0), (141, .getfield 63, [], 597), (144, .iload 4, [], 0), (146, .dup2, [], 0), (147, .laload, [], 0), (148, .lload_n 2, [], 0), (149, .ladd, [], 0), (150, .lastore, [], 0), (151, .lload 7, [], 0), (153, .aload_n 0, [], 0), (154, .getfield 22, [], 581), (157, .i2l, [], 0), (158, .lmul, [], 0), (159, .aload_n 0, [], 0), (160, .invokevirtual 191, [], 82209), (163, .i2l, [], 0), (164, .lload 5, [], 0), (166, .lmul, [], 0), (167, .lsub, [], 0), (168, .lstore 9, [], 0), (170, .aload_n 0, [], 0), (171, .dup, [], 0), (172, .getfield 194, [], 598), (175, .ldc2_w 198, [], 4), (178, .lload 9, [], 0), (180, .lconst 0, [], 0), (181, .lcmp, [], 0), (182, .ifCond .ge 9, [], 191), (185, .lload 9, [], 0), (187, .lneg, [], 0), (188, .goto 5, [], 193), (191, .lload 9, [], 0), (193, .lmul, [], 0), (194, .aload_n 0, [], 0), (195, .getfield 200, [], 599), (198, .i2l, [], 0), (199, .lload 5, [], 0), (201, .lmul, [], 0), (202, .aload_n 0, [], 0), (203, .getfield 22, [], 581), (206, .i2l, [], 0), (207, .lmul, [], 0), (208, .lcmp, [], 0), (209, .ifCond .gt 7, [], 216), (212, .lload_n 2, [], 0), (213, .goto 4, [], 217), (216, .lconst 0, [], 0), (217, .ladd, [], 0), (218, .putfield 194, [], 598), (221, .return_, [], 0)]
def kc_Mod_countsBy : List Ety := [(0, .aload_n 0, [], 0), (1, .iload_n 1, [], 0), (2, .invokevirtual 166, [], 76069), (5, .ifCond .ne 9, [], 14), (8, .ldc2_w 185, [], 18), (11, .goto 13, [], 24), (14, .ldc2_w 185, [], 18), (17, .aload_n 0, [], 0), (18, .iload_n 1, [], 0), (19, .invokevirtual 166, [], 76069), (22, .i2l, [], 0), (23, .ldiv, [], 0), (24, .lreturn, [], 0)]
def kc_Mod_kindOnes : List Ety := [(0, .iconst 0, [], 0), (1, .istore_n 1, [], 0), (2, .iconst 0, [], 0), (3, .istore_n 2, [], 0), (4, .iload_n 2, [0, 0, 0], 0), (5, .aload_n 0, [], 0), (6, .getfield 22, [], 581), (9, .if_icmp .ge 18, [], 27), (12, .iload_n 1, [], 0), (13, .aload_n 0, [], 0), (14, .getfield 29, [], 583), (17, .iload_n 2, [], 0), (18, .iaload, [], 0), (19, .iadd, [], 0), (20, .istore_n 1, [], 0), (21, .iinc 2 1, [], 1), (24, .goto (-20), [], 4), (27, .iload_n 1, [], 0), (28, .ireturn, [], 0)]
def kc_Mod_lowest : List Ety := [(0, .iconst 0, [], 0), (1, .istore_n 1, [], 0), (2, .iload_n 0, [0, 0], 0), (3, .iload_n 1, [], 0), (4, .ishr, [], 0), (5, .iconst 1, [], 1), (6, .iand, [], 0), (7, .ifCond .ne 9, [], 16), (10, .iinc 1 1, [], 1), (13, .goto (-11), [], 2), (16, .iload_n 1, [], 0), (17, .ireturn, [], 0)]
def kc_Mod_part : List Ety := [(0, .iload 4, [], 0), (2, .ifCond .ne 7, [], 9), (5, .lload_n 0, [], 0), (6, .goto 4, [], 10), (9, .lload_n 2, [], 0), (10, .lload_n 0, [], 0), (11, .lload_n 2, [], 0), (12, .invokestatic 145, [], 83471), (15, .ldiv, [], 0), (16, .lreturn, [], 0)]
def kc_Mod_divisor : List Ety := [(0, .lload_n 0, [], 0), (1, .lstore 4, [], 0), (3, .lload_n 2, [], 0), (4, .lstore 6, [], 0), (6, .lload 6, [1, 1, 1, 1, 0, 1, 0, 1, 1, 1], 0), (8, .lconst 0, [], 0), (9, .lcmp, [], 0), (10, .ifCond .eq 21, [], 31), (13, .lload 4, [], 0), (15, .lload 6, [], 0), (17, .lrem, [], 0), (18, .lstore 8, [], 0), (20, .lload 6, [], 0), (22, .lstore 4, [], 0), (24, .lload 8, [], 0), (26, .lstore 6, [], 0), (28, .goto (-22), [], 6), (31, .lload 4, [], 0), (33, .lreturn, [], 0)]
def kc_Mod_both : List Ety := [(0, .aload_n 0, [], 0), (1, .iload_n 1, [], 0), (2, .invokevirtual 153, [], 72997), (5, .ifCond .eq 18, [], 23), (8, .aload_n 0, [], 0), (9, .iload_n 2, [], 0), (10, .invokevirtual 153, [], 72997), (13, .ifCond .eq 10, [], 23), (16, .iload_n 3, [], 0), (17, .invokestatic 160, [], 74250), (20, .ifCond .ne 9, [], 29), (23, .bipush (-2), [], 7), (25, .invokestatic 222, [], 79371), (28, .lreturn, [], 0), (29, .aload_n 0, [], 0), (30, .iconst 0, [], 0), (31, .invokevirtual 225, [], 80164), (34, .aload_n 0, [], 0), (35, .getfield 57, [], 595), (38, .bipush 9, [], 6), (40, .iload_n 1, [], 0), (41, .imul, [], 0), (42, .iload_n 2, [], 0), (43, .iadd, [], 0), (44, .laload, [], 0), (45, .aload_n 0, [], 0), (46, .getfield 212, [], 593), (49, .iload_n 3, [], 0), (50, .invokestatic 228, [], 82963), (53, .lreturn, [], 0)]
def kc_Mod_size : List Ety := [(0, .iload_n 1, [], 0), (1, .i2l, [], 0), (2, .lconst 1, [], 1), (3, .ldc2_w 178, [], 15), (6, .invokestatic 117, [], 67602), (9, .ifCond .eq 10, [], 19), (12, .iload_n 2, [], 0), (13, .invokestatic 160, [], 74250), (16, .ifCond .ne 9, [], 25), (19, .bipush (-2), [], 7), (21, .invokestatic 222, [], 79371), (24, .lreturn, [], 0), (25, .aload_n 0, [], 0), (26, .iconst 0, [], 0), (27, .invokevirtual 225, [], 80164), (30, .aload_n 0, [], 0), (31, .getfield 60, [], 596), (34, .iload_n 1, [], 0), (35, .laload, [], 0), (36, .aload_n 0, [], 0), (37, .getfield 212, [], 593), (40, .iload_n 2, [], 0), (41, .invokestatic 228, [], 82963), (44, .lreturn, [], 0)]
def kc_Mod_kinds : List Ety := [(0, .iload_n 1, [], 0), (1, .i2l, [], 0), (2, .lconst 0, [], 0), (3, .ldc2_w 178, [], 15), (6, .invokestatic 117, [], 67602), (9, .ifCond .eq 10, [], 19), (12, .iload_n 2, [], 0), (13, .invokestatic 160, [], 74250), (16, .ifCond .ne 9, [], 25), (19, .bipush (-2), [], 7), (21, .invokestatic 222, [], 79371), (24, .lreturn, [], 0), (25, .aload_n 0, [], 0), (26, .iconst 0, [], 0), (27, .invokevirtual 225, [], 80164), (30, .aload_n 0, [], 0), (31, .getfield 63, [], 597), (34, .iload_n 1, [], 0), (35, .laload, [], 0), (36, .aload_n 0, [], 0), (37, .getfield 212, [], 593), (40, .iload_n 2, [], 0), (41, .invokestatic 228, [], 82963), (44, .lreturn, [], 0)]
def kc_Mod_within : List Ety := [(0, .iload_n 1, [], 0), (1, .i2l, [], 0), (2, .lconst 0, [], 0), (3, .ldc2_w 198, [], 4), (6, .invokestatic 117, [], 67602), (9, .ifCond .eq 10, [], 19), (12, .iload_n 2, [], 0), (13, .invokestatic 160, [], 74250), (16, .ifCond .ne 9, [], 25), (19, .bipush (-2), [], 7), (21, .invokestatic 222, [], 79371), (24, .lreturn, [], 0), (25, .aload_n 0, [], 0), (26, .iload_n 1, [], 0), (27, .invokevirtual 225, [], 80164), (30, .aload_n 0, [], 0), (31, .getfield 194, [], 598), (34, .aload_n 0, [], 0), (35, .getfield 212, [], 593), (38, .iload_n 2, [], 0), (39, .invokestatic 228, [], 82963), (42, .lreturn, [], 0)]
def kc_Mod_at : List Ety := [(0, .iload_n 1, [], 0), (1, .i2l, [], 0), (2, .lconst 0, [], 0), (3, .ldc2_w 232, [], 19), (6, .invokestatic 117, [], 67602), (9, .ifCond .eq 18, [], 27), (12, .aload_n 0, [], 0), (13, .iload_n 2, [], 0), (14, .invokevirtual 153, [], 72997), (17, .ifCond .eq 10, [], 27), (20, .iload_n 3, [], 0), (21, .invokestatic 160, [], 74250), (24, .ifCond .ne 9, [], 33), (27, .bipush (-2), [], 7), (29, .invokestatic 222, [], 79371), (32, .lreturn, [], 0), (33, .aload_n 0, [], 0), (34, .iload_n 1, [], 0), (35, .invokevirtual 234, [], 86822), (38, .lstore 4, [], 0), (40, .aload_n 0, [], 0), (41, .getfield 66, [], 600), (44, .iload_n 2, [], 0), (45, .laload, [], 0), (46, .lload 4, [], 0), (48, .iload_n 3, [], 0), (49, .invokestatic 228, [], 82963), (52, .lreturn, [], 0)]
def kc_Mod_walks : List Ety := [(0, .aload_n 0, [], 0), (1, .getfield 32, [], 584), (4, .iconst (-1), [], 2), (5, .if_icmp .ne 11, [], 16), (8, .aload_n 0, [], 0), (9, .getfield 22, [], 581), (12, .i2l, [], 0), (13, .goto 4, [], 17), (16, .lconst 1, [], 1), (17, .lstore_n 2, [], 0), (18, .iconst 0, [], 0), (19, .istore 4, [], 0), (21, .iload 4, [0, 0, 0, 1, 0, 1, 1], 0), (23, .aload_n 0, [], 0), (24, .getfield 22, [], 581), (27, .if_icmp .ge 38, [], 65), (30, .aload_n 0, [], 0), (31, .getfield 66, [], 600), (34, .iload 4, [], 0), (36, .aload_n 0, [], 0), (37, .getfield 32, [], 584), (40, .iconst (-1), [], 2), (41, .if_icmp .eq 12, [], 53), (44, .aload_n 0, [], 0), (45, .getfield 32, [], 584), (48, .iload 4, [], 0), (50, .if_icmp .ne 7, [], 57), (53, .lconst 1, [], 1), (54, .goto 4, [], 58), (57, .lconst 0, [], 0), (58, .lastore, [], 0), (59, .iinc 4 1, [], 1), (62, .goto (-41), [], 21), (65, .iconst 0, [], 0), (66, .istore 4, [], 0), (68, .iload 4, [0, 0, 0, 1, 0, 1, 1], 0), (70, .iload_n 1, [], 0), (71, .if_icmp .ge 181, [], 252), (74, .iconst 0, [], 0), (75, .istore 5, [], 0), (77, .iload 5, [0, 0, 0, 1, 0, 0, 1], 0), (79, .aload_n 0, [], 0), (80, .getfield 22, [], 581), (83, .if_icmp .ge 40, [], 123), (86, .aload_n 0, [], 0), (87, .getfield 69, [], 601), (90, .iload 5, [], 0), (92, .aload_n 0, [], 0), (93, .iload 5, [], 0), (95, .invokevirtual 166, [], 76069), (98, .ifCond .ne 17, [], 115), (101, .aload_n 0, [], 0), (102, .getfield 66, [], 600), (105, .iload 5, [], 0), (107, .laload, [], 0), (108, .ldc2_w 185, [], 18), (111, .lmul, [], 0), (112, .goto 4, [], 116), (115, .lconst 0, [], 0), (116, .lastore, [], 0), (117, .iinc 5 1, [], 1), (120, .goto (-43), [], 77), (123, .iconst 0, [], 0), (124, .istore 5, [], 0), (126, .iload 5, [0, 0, 0, 1, 0, 0, 1], 0), (128, .aload_n 0, [], 0), (129, .getfield 22, [], 581), (132, .if_icmp .ge 76, [], 208), (135, .iconst 0, [], 0), (136, .istore 6, [], 0), (138, .iload 6, [0, 0, 0, 1, 0, 0, 0], 0), (140, .aload_n 0, [], 0), (141, .getfield 22, [], 581), (144, .if_icmp .ge 58, [], 202), (147, .aload_n 0, [], 0), (148, .getfield 69, [], 601), (151, .iload 6, [], 0), (153, .dup2, [], 0), (154, .laload, [], 0), (155, .aload_n 0, [], 0), (156, .getfield 26, [], 582), (159, .iload 5, [], 0), (161, .iaload, [], 0), (162, .iload 6, [], 0), (164, .ishr, [], 0), (165, .iconst 1, [], 1), (166, .iand, [], 0), (167, .iconst 1, [], 1), (168, .if_icmp .ne 25, [], 193), (171, .aload_n 0, [], 0), (172, .getfield 66, [], 600), (175, .iload 5, [], 0), (177, .laload, [], 0), (178, .ldc2_w 185, [], 18), (181, .aload_n 0, [], 0), (182, .iload 5, [], 0), (184, .invokevirtual 166, [], 76069), (187, .i2l, [], 0), (188, .ldiv, [], 0), (189, .lmul, [], 0), (190, .goto 4, [], 194), (193, .lconst 0, [], 0), (194, .ladd, [], 0), (195, .lastore, [], 0), (196, .iinc 6 1, [], 1), (199, .goto (-61), [], 138), (202, .iinc 5 1, [], 1), (205, .goto (-79), [], 126), (208, .iconst 0, [], 0), (209, .istore 5, [], 0), (211, .iload 5, [0, 0, 0, 1, 0, 0, 1], 0), (213, .aload_n 0, [], 0), (214, .getfield 22, [], 581), (217, .if_icmp .ge 23, [], 240), (220, .aload_n 0, [], 0), (221, .getfield 66, [], 600), (224, .iload 5, [], 0), (226, .aload_n 0, [], 0), (227, .getfield 69, [], 601), (230, .iload 5, [], 0), (232, .laload, [], 0), (233, .lastore, [], 0), (234, .iinc 5 1, [], 1), (237, .goto (-26), [], 211), (240, .lload_n 2, [], 0), (241, .ldc2_w 185, [], 18), (244, .lmul, [], 0), (245, .lstore_n 2, [], 0), (246, .iinc 4 1, [], 1), (249, .goto (-181), [], 68), (252, .lload_n 2, [], 0), (253, .lreturn, [], 0)]
def kc_Mod_lasting : List Ety := [(0, .aload_n 0, [], 0), (1, .iload_n 1, [], 0), (2, .invokevirtual 153, [], 72997), (5, .ifCond .eq 10, [], 15), (8, .iload_n 2, [], 0), (9, .invokestatic 160, [], 74250), (12, .ifCond .ne 9, [], 21), (15, .bipush (-2), [], 7), (17, .invokestatic 222, [], 79371), (20, .lreturn, [], 0), (21, .aload_n 0, [], 0), (22, .invokevirtual 237, [], 87841), (25, .ifCond .ne 11, [], 36), (28, .bipush (-3), [], 18), (30, .invokestatic 222, [], 79371), (33, .goto 18, [], 51), (36, .aload_n 0, [], 0), (37, .iload_n 1, [], 0), (38, .invokevirtual 166, [], 76069), (41, .i2l, [], 0), (42, .aload_n 0, [], 0), (43, .invokevirtual 237, [], 87841), (46, .i2l, [], 0), (47, .iload_n 2, [], 0), (48, .invokestatic 228, [], 82963), (51, .lreturn, [], 0)]
def kc_Mod_degrees : List Ety := [(0, .iconst 0, [], 0), (1, .istore_n 1, [], 0), (2, .iconst 0, [], 0), (3, .istore_n 2, [], 0), (4, .iload_n 2, [0, 0, 0], 0), (5, .aload_n 0, [], 0), (6, .getfield 22, [], 581), (9, .if_icmp .ge 17, [], 26), (12, .iload_n 1, [], 0), (13, .aload_n 0, [], 0), (14, .iload_n 2, [], 0), (15, .invokevirtual 166, [], 76069), (18, .iadd, [], 0), (19, .istore_n 1, [], 0), (20, .iinc 2 1, [], 1), (23, .goto (-19), [], 4), (26, .iload_n 1, [], 0), (27, .ireturn, [], 0)]
def kc_Mod_strayed : List Ety := [(0, .iload_n 1, [], 0), (1, .i2l, [], 0), (2, .lconst 0, [], 0), (3, .ldc2_w 232, [], 19), (6, .invokestatic 117, [], 67602), (9, .ifCond .eq 10, [], 19), (12, .iload_n 2, [], 0), (13, .invokestatic 160, [], 74250), (16, .ifCond .ne 9, [], 25), (19, .bipush (-2), [], 7), (21, .invokestatic 222, [], 79371), (24, .lreturn, [], 0), (25, .aload_n 0, [], 0), (26, .invokevirtual 237, [], 87841), (29, .ifCond .ne 9, [], 38), (32, .bipush (-3), [], 18), (34, .invokestatic 222, [], 79371), (37, .lreturn, [], 0), (38, .aload_n 0, [], 0), (39, .iload_n 1, [], 0), (40, .invokevirtual 234, [], 86822), (43, .lstore_n 3, [], 0), (44, .lconst 0, [], 0), (45, .lstore 5, [], 0), (47, .iconst 0, [], 0), (48, .istore 7, [], 0), (50, .iload 7, [0, 1, 0, 0, 1, 0, 1, 0, 1, 1], 0), (52, .aload_n 0, [], 0), (53, .getfield 22, [], 581), (56, .if_icmp .ge 54, [], 110), (59, .aload_n 0, [], 0), (60, .getfield 66, [], 600), (63, .iload 7, [], 0), (65, .laload, [], 0), (66, .aload_n 0, [], 0), (67, .invokevirtual 237, [], 87841), (70, .i2l, [], 0), (71, .lmul, [], 0), (72, .aload_n 0, [], 0), (73, .iload 7, [], 0), (75, .invokevirtual 166, [], 76069), (78, .i2l, [], 0), (79, .lload_n 3, [], 0), (80, .lmul, [], 0), (81, .lsub, [], 0), (82, .lstore 8, [], 0), (84, .lload 5, [], 0), (86, .lload 8, [], 0), (88, .lconst 0, [], 0), (89, .lcmp, [], 0), (90, .ifCond .ge 9, [], 99), (93, .lload 8, [], 0), (95, .lneg, [], 0), (96, .goto 5, [], 101), (99, .lload 8, [], 0), (101, .ladd, [], 0), (102, .lstore 5, [], 0), (104, .iinc 7 1, [], 1), (107, .goto (-57), [], 50), (110, .lload 5, [], 0), (112, .ldc2_w 130, [], 6), (115, .lload_n 3, [], 0), (116, .lmul, [], 0), (117, .aload_n 0, [], 0), (118, .invokevirtual 237, [], 87841), (121, .i2l, [], 0), (122, .lmul, [], 0), (123, .iload_n 2, [], 0), (124, .invokestatic 228, [], 82963), (127, .lreturn, [], 0)]
def kc_Mod_came : List Ety := [(0, .iload_n 1, [], 0), (1, .iconst (-1), [], 2), (2, .if_icmp .eq 11, [], 13), (5, .aload_n 0, [], 0), (6, .iload_n 1, [], 0), (7, .invokevirtual 243, [], 89381), (10, .ifCond .eq 44, [], 54), (13, .iload_n 2, [], 0), (14, .invokestatic 160, [], 74250), (17, .ifCond .eq 37, [], 54), (20, .iload_n 3, [], 0), (21, .iconst (-1), [], 2), (22, .if_icmp .eq 15, [], 37), (25, .iload_n 3, [], 0), (26, .i2l, [], 0), (27, .lconst 1, [], 1), (28, .ldc2_w 246, [], 20), (31, .invokestatic 117, [], 67602), (34, .ifCond .eq 20, [], 54), (37, .iload 4, [0, 0, 0, 0, 0], 0), (39, .i2l, [], 0), (40, .aload_n 0, [], 0), (41, .getfield 248, [], 611), (44, .i2l, [], 0), (45, .ldc2_w 180, [], 16), (48, .invokestatic 117, [], 67602), (51, .ifCond .ne 6, [], 57), (54, .bipush (-2), [1, 1, 1, 1, 1], 7), (56, .ireturn, [], 0), (57, .aload_n 0, [], 0), (58, .getfield 240, [], 602), (61, .bipush 24, [], 24), (63, .if_icmp .ne 6, [], 69), (66, .bipush (-4), [], 25), (68, .ireturn, [], 0), (69, .iload_n 1, [], 0), (70, .iconst (-1), [], 2), (71, .if_icmp .eq 16, [], 87), (74, .aload_n 0, [], 0), (75, .getfield 87, [], 608), (78, .iload_n 1, [], 0), (79, .iaload, [], 0), (80, .iconst 3, [], 4), (81, .if_icmp .ne 6, [], 87), (84, .bipush (-3), [], 18), (86, .ireturn, [], 0), (87, .aload_n 0, [0, 0, 0, 0, 0], 0), (88, .getfield 72, [], 603), (91, .aload_n 0, [], 0), (92, .getfield 240, [], 602), (95, .iload_n 1, [], 0), (96, .iastore, [], 0), (97, .aload_n 0, [], 0), (98, .getfield 75, [], 604), (101, .aload_n 0, [], 0), (102, .getfield 240, [], 602), (105, .iload_n 2, [], 0), (106, .iastore, [], 0), (107, .aload_n 0, [], 0), (108, .getfield 78, [], 605), (111, .aload_n 0, [], 0), (112, .getfield 240, [], 602), (115, .iload_n 3, [], 0), (116, .iastore, [], 0), (117, .aload_n 0, [], 0), (118, .getfield 81, [], 606), (121, .aload_n 0, [], 0), (122, .getfield 240, [], 602), (125, .iload 4, [], 0), (127, .iastore, [], 0), (128, .aload_n 0, [], 0), (129, .getfield 84, [], 607), (132, .aload_n 0, [], 0), (133, .getfield 240, [], 602), (136, .iconst (-1), [], 2), (137, .iastore, [], 0), (138, .aload_n 0, [], 0), (139, .getfield 90, [], 609), (142, .aload_n 0, [], 0), (143, .getfield 240, [], 602), (146, .iload_n 1, [], 0), (147, .iconst (-1), [], 2), (148, .if_icmp .ne 7, [], 155), (151, .iconst 0, [], 0), (152, .goto 11, [], 163), (155, .aload_n 0, [], 0), (156, .getfield 90, [], 609), (159, .iload_n 1, [], 0), (160, .iaload, [], 0), (161, .iconst 1, [], 1), (162, .iadd, [], 0), (163, .iastore, [0, 0, 1, 1, 0], 0), (164, .aload_n 0, [], 0), (165, .getfield 93, [], 610), (168, .aload_n 0, [], 0), (169, .getfield 240, [], 602), (172, .iload_n 1, [], 0), (173, .iconst (-1), [], 2), (174, .if_icmp .ne 10, [], 184), (177, .aload_n 0, [], 0), (178, .getfield 240, [], 602), (181, .goto 9, [], 190), (184, .aload_n 0, [], 0), (185, .getfield 93, [], 610), (188, .iload_n 1, [], 0), (189, .iaload, [], 0), (190, .iastore, [0, 0, 1, 1, 0], 0), (191, .iload_n 1, [], 0), (192, .iconst (-1), [], 2), (193, .if_icmp .eq 13, [], 206), (196, .aload_n 0, [], 0), (197, .getfield 87, [], 608), (200, .iload_n 1, [], 0), (201, .dup2, [], 0), (202, .iaload, [], 0), (203, .iconst 1, [], 1), (204, .iadd, [], 0), (205, .iastore, [], 0), (206, .aload_n 0, [0, 1, 1, 1, 0], 0), (207, .iload 4, [], 0), (209, .putfield 248, [], 611), (212, .aload_n 0, [], 0), (213, .dup, [], 0), (214, .getfield 240, [], 602), (217, .iconst 1, [], 1), (218, .iadd, [], 0), (219, .putfield 240, [], 602), (222, .aload_n 0, [], 0), (223, .getfield 240, [], 602), (226, .iconst 1, [], 1), (227, .isub, [], 0), (228, .ireturn, [], 0)]
def kc_Mod_isRecord : List Ety := [(0, .iload_n 1, [], 0), (1, .i2l, [], 0), (2, .lconst 0, [], 0), (3, .aload_n 0, [], 0), (4, .getfield 240, [], 602), (7, .iconst 1, [], 1), (8, .isub, [], 0), (9, .i2l, [], 0), (10, .invokestatic 117, [], 67602), (13, .ireturn, [], 0)]
def kc_Mod_takeBack : List Ety := [(0, .aload_n 0, [], 0), (1, .iload_n 1, [], 0), (2, .invokevirtual 243, [], 89381), (5, .ifCond .eq 19, [], 24), (8, .iload_n 2, [], 0), (9, .i2l, [], 0), (10, .aload_n 0, [], 0), (11, .getfield 248, [], 611), (14, .i2l, [], 0), (15, .ldc2_w 180, [], 16), (18, .invokestatic 117, [], 67602), (21, .ifCond .ne 6, [], 27), (24, .bipush (-2), [], 7), (26, .ireturn, [], 0), (27, .aload_n 0, [], 0), (28, .getfield 84, [], 607), (31, .iload_n 1, [], 0), (32, .iaload, [], 0), (33, .iconst (-1), [], 2), (34, .if_icmp .eq 6, [], 40), (37, .bipush (-3), [], 18), (39, .ireturn, [], 0), (40, .aload_n 0, [], 0), (41, .getfield 84, [], 607), (44, .iload_n 1, [], 0), (45, .iload_n 2, [], 0), (46, .iastore, [], 0), (47, .aload_n 0, [], 0), (48, .iload_n 2, [], 0), (49, .putfield 248, [], 611), (52, .iconst 1, [], 1), (53, .ireturn, [], 0)]
def kc_Mod_record : List Ety := [(0, .aload_n 0, [], 0), (1, .iload_n 1, [], 0), (2, .invokevirtual 243, [], 89381), (5, .ifCond .eq 15, [], 20), (8, .iload_n 2, [], 0), (9, .i2l, [], 0), (10, .lconst 0, [], 0), (11, .ldc2_w 178, [], 15), (14, .invokestatic 117, [], 67602), (17, .ifCond .ne 6, [], 23), (20, .bipush (-5), [], 15), (22, .ireturn, [], 0), (23, .aload_n 0, [], 0), (24, .invokevirtual 251, [], 90912), (27, .aload_n 0, [], 0), (28, .iload_n 1, [], 0), (29, .iload_n 2, [], 0), (30, .invokevirtual 254, [], 91433), (33, .ireturn, [], 0)]
def kc_Mod_findCounts : List Ety := [(0, .iconst 0, [], 0), (1, .istore_n 1, [], 0), (2, .iload_n 1, [0, 0, 1], 0), (3, .aload_n 0, [], 0), (4, .getfield 240, [], 602), (7, .if_icmp .ge 90, [], 97), (10, .aload_n 0, [], 0), (11, .getfield 81, [], 606), (14, .iload_n 1, [], 0), (15, .iaload, [], 0), (16, .aload_n 0, [], 0), (17, .getfield 38, [], 586), (20, .if_icmp .gt 30, [], 50), (23, .aload_n 0, [], 0), (24, .getfield 84, [], 607), (27, .iload_n 1, [], 0), (28, .iaload, [], 0), (29, .iconst (-1), [], 2), (30, .if_icmp .eq 16, [], 46), (33, .aload_n 0, [], 0), (34, .getfield 84, [], 607), (37, .iload_n 1, [], 0), (38, .iaload, [], 0), (39, .aload_n 0, [], 0), (40, .getfield 38, [], 586), (43, .if_icmp .le 7, [], 50), (46, .iconst 1, [], 1), (47, .goto 4, [], 51), (50, .iconst 0, [], 0), (51, .istore_n 2, [], 0), (52, .aload_n 0, [], 0), (53, .getfield 96, [], 612), (56, .iload_n 1, [], 0), (57, .iload_n 2, [], 0), (58, .ifCond .eq 31, [], 89), (61, .aload_n 0, [], 0), (62, .getfield 72, [], 603), (65, .iload_n 1, [], 0), (66, .iaload, [], 0), (67, .iconst (-1), [], 2), (68, .if_icmp .eq 17, [], 85), (71, .aload_n 0, [], 0), (72, .getfield 96, [], 612), (75, .aload_n 0, [], 0), (76, .getfield 72, [], 603), (79, .iload_n 1, [], 0), (80, .iaload, [], 0), (81, .baload, [], 0), (82, .ifCond .eq 7, [], 89), (85, .iconst 1, [], 1), (86, .goto 4, [], 90), (89, .iconst 0, [], 0), (90, .bastore, [], 0), (91, .iinc 1 1, [], 1), (94, .goto (-92), [], 2), (97, .return_, [], 0)]
def kc_Mod_recordOf : List Ety := [(0, .iload_n 2, [], 0), (1, .tableswitch 100 0 6 #[43, 50, 57, 64, 71, 86, 93], [], 2), (44, .aload_n 0, [], 0), (45, .getfield 72, [], 603), (48, .iload_n 1, [], 0), (49, .iaload, [], 0), (50, .ireturn, [], 0), (51, .aload_n 0, [], 0), (52, .getfield 75, [], 604), (55, .iload_n 1, [], 0), (56, .iaload, [], 0), (57, .ireturn, [], 0), (58, .aload_n 0, [], 0), (59, .getfield 78, [], 605), (62, .iload_n 1, [], 0), (63, .iaload, [], 0), (64, .ireturn, [], 0), (65, .aload_n 0, [], 0), (66, .getfield 81, [], 606), (69, .iload_n 1, [], 0), (70, .iaload, [], 0), (71, .ireturn, [], 0), (72, .aload_n 0, [], 0), (73, .getfield 96, [], 612), (76, .iload_n 1, [], 0), (77, .baload, [], 0), (78, .ifCond .eq 7, [], 85), (81, .iconst 1, [], 1), (82, .goto 4, [], 86), (85, .iconst 0, [], 0), (86, .ireturn, [], 0), (87, .aload_n 0, [], 0), (88, .getfield 90, [], 609), (91, .iload_n 1, [], 0), (92, .iaload, [], 0), (93, .ireturn, [], 0), (94, .aload_n 0, [], 0), (95, .getfield 93, [], 610), (98, .iload_n 1, [], 0), (99, .iaload, [], 0), (100, .ireturn, [], 0), (101, .aload_n 0, [], 0), (102, .getfield 87, [], 608), (105, .iload_n 1, [], 0), (106, .iaload, [], 0), (107, .ireturn, [], 0)]
def kc_Mod_share : List Ety := [(0, .iload_n 1, [], 0), (1, .i2l, [], 0), (2, .lconst 0, [], 0), (3, .ldc2_w 130, [], 6), (6, .invokestatic 117, [], 67602), (9, .ifCond .eq 19, [], 28), (12, .iload_n 2, [], 0), (13, .invokestatic 160, [], 74250), (16, .ifCond .eq 12, [], 28), (19, .aload_n 0, [], 0), (20, .iload_n 1, [], 0), (21, .iload_n 2, [], 0), (22, .invokevirtual 293, [], 92458), (25, .goto 8, [], 33), (28, .bipush (-2), [], 7), (30, .invokestatic 222, [], 79371), (33, .lreturn, [], 0)]
def kc_Mod_shareOf : List Ety := [(0, .aload_n 0, [], 0), (1, .invokevirtual 251, [], 90912), (4, .iload_n 1, [], 0), (5, .ifCond .ne 10, [], 15), (8, .aload_n 0, [], 0), (9, .invokevirtual 283, [], 92960), (12, .goto 21, [], 33), (15, .iload_n 1, [], 0), (16, .iconst 1, [], 1), (17, .if_icmp .ne 12, [], 29), (20, .aload_n 0, [], 0), (21, .iconst 0, [], 0), (22, .iconst (-1), [], 2), (23, .invokevirtual 286, [], 93992), (26, .goto 7, [], 33), (29, .aload_n 0, [], 0), (30, .invokevirtual 290, [], 94496), (33, .aload_n 0, [], 0), (34, .getfield 260, [], 614), (37, .lconst 0, [], 0), (38, .lcmp, [], 0), (39, .ifCond .ne 11, [], 50), (42, .bipush (-3), [], 18), (44, .invokestatic 222, [], 79371), (47, .goto 15, [], 62), (50, .aload_n 0, [], 0), (51, .getfield 257, [], 613), (54, .aload_n 0, [], 0), (55, .getfield 260, [], 614), (58, .iload_n 2, [], 0), (59, .invokestatic 228, [], 82963), (62, .lreturn, [], 0)]
def kc_Mod_plainly : List Ety := [(0, .aload_n 0, [], 0), (1, .lconst 0, [], 0), (2, .putfield 257, [], 613), (5, .aload_n 0, [], 0), (6, .lconst 0, [], 0), (7, .putfield 260, [], 614), (10, .iconst 0, [], 0), (11, .istore_n 1, [], 0), (12, .iload_n 1, [0, 0], 0), (13, .aload_n 0, [], 0), (14, .getfield 240, [], 602), (17, .if_icmp .ge 59, [], 76), (20, .aload_n 0, [], 0), (21, .dup, [], 0), (22, .getfield 257, [], 613), (25, .aload_n 0, [], 0), (26, .iload_n 1, [], 0), (27, .invokevirtual 263, [], 93477), (30, .ifCond .eq 13, [], 43), (33, .aload_n 0, [], 0), (34, .getfield 75, [], 604), (37, .iload_n 1, [], 0), (38, .iaload, [], 0), (39, .i2l, [], 0), (40, .goto 4, [], 44), (43, .lconst 0, [], 0), (44, .ladd, [], 0), (45, .putfield 257, [], 613), (48, .aload_n 0, [], 0), (49, .dup, [], 0), (50, .getfield 260, [], 614), (53, .aload_n 0, [], 0), (54, .iload_n 1, [], 0), (55, .invokevirtual 263, [], 93477), (58, .ifCond .eq 7, [], 65), (61, .lconst 1, [], 1), (62, .goto 4, [], 66), (65, .lconst 0, [], 0), (66, .ladd, [], 0), (67, .putfield 260, [], 614), (70, .iinc 1 1, [], 1), (73, .goto (-61), [], 12), (76, .return_, [], 0)]
def kc_Mod_isTaken : List Ety := [(0, .aload_n 0, [], 0), (1, .getfield 96, [], 612), (4, .iload_n 1, [], 0), (5, .baload, [], 0), (6, .ifCond .eq 20, [], 26), (9, .aload_n 0, [], 0), (10, .getfield 90, [], 609), (13, .iload_n 1, [], 0), (14, .iaload, [], 0), (15, .aload_n 0, [], 0), (16, .getfield 182, [], 587), (19, .if_icmp .lt 7, [], 26), (22, .iconst 1, [], 1), (23, .goto 4, [], 27), (26, .iconst 0, [], 0), (27, .ireturn, [], 0)]
def kc_Mod_byTies : List Ety := [(0, .aload_n 0, [], 0), (1, .lconst 0, [], 0), (2, .putfield 257, [], 613), (5, .aload_n 0, [], 0), (6, .lconst 0, [], 0), (7, .putfield 260, [], 614), (10, .iconst 0, [], 0), (11, .istore_n 3, [], 0), (12, .iload_n 3, [0, 0, 0, 0, 1, 1, 1], 0), (13, .aload_n 0, [], 0), (14, .getfield 240, [], 602), (17, .if_icmp .ge 117, [], 134), (20, .aload_n 0, [], 0), (21, .iload_n 3, [], 0), (22, .invokevirtual 263, [], 93477), (25, .ifCond .eq 103, [], 128), (28, .aload_n 0, [], 0), (29, .getfield 78, [], 605), (32, .iload_n 3, [], 0), (33, .iaload, [], 0), (34, .iconst (-1), [], 2), (35, .if_icmp .eq 93, [], 128), (38, .aload_n 0, [], 0), (39, .getfield 93, [], 610), (42, .iload_n 3, [], 0), (43, .iaload, [], 0), (44, .iload_n 2, [], 0), (45, .if_icmp .eq 83, [], 128), (48, .aload_n 0, [], 0), (49, .getfield 78, [], 605), (52, .iload_n 3, [], 0), (53, .iaload, [], 0), (54, .aload_n 0, [], 0), (55, .getfield 75, [], 604), (58, .iload_n 3, [], 0), (59, .iaload, [], 0), (60, .iconst 1, [], 1), (61, .if_icmp .ne 7, [], 68), (64, .iload_n 1, [], 0), (65, .goto 5, [], 70), (68, .iload_n 1, [], 0), (69, .ineg, [], 0), (70, .iadd, [], 0), (71, .istore 4, [], 0), (73, .ldc2_w 266, [], 8), (76, .iload 4, [], 0), (78, .iconst 1, [], 1), (79, .if_icmp .ge 7, [], 86), (82, .iconst 1, [], 1), (83, .goto 5, [], 88), (86, .iload 4, [], 0), (88, .i2l, [0, 0, 0, 0, 1, 1, 1], 0), (89, .ldiv, [], 0), (90, .lstore 5, [], 0), (92, .aload_n 0, [], 0), (93, .dup, [], 0), (94, .getfield 260, [], 614), (97, .lload 5, [], 0), (99, .ladd, [], 0), (100, .putfield 260, [], 614), (103, .aload_n 0, [], 0), (104, .dup, [], 0), (105, .getfield 257, [], 613), (108, .aload_n 0, [], 0), (109, .getfield 75, [], 604), (112, .iload_n 3, [], 0), (113, .iaload, [], 0), (114, .iconst 1, [], 1), (115, .if_icmp .ne 8, [], 123), (118, .lload 5, [], 0), (120, .goto 4, [], 124), (123, .lconst 0, [], 0), (124, .ladd, [0, 0, 0, 0, 1, 1, 1], 0), (125, .putfield 257, [], 613), (128, .iinc 3 1, [0, 0, 0, 0, 1, 1, 1], 1), (131, .goto (-119), [], 12), (134, .return_, [], 0)]
def kc_Mod_byBringing : List Ety := [(0, .aload_n 0, [], 0), (1, .invokevirtual 280, [], 95008), (4, .lconst 0, [], 0), (5, .lstore_n 1, [], 0), (6, .lconst 0, [], 0), (7, .lstore_n 3, [], 0), (8, .iconst 0, [], 0), (9, .istore 5, [], 0), (11, .iconst 0, [], 0), (12, .istore 6, [], 0), (14, .iconst 0, [], 0), (15, .istore 7, [], 0), (17, .iload 7, [0, 0, 1, 0, 1, 0, 0, 0, 1, 1], 0), (19, .aload_n 0, [], 0), (20, .getfield 240, [], 602), (23, .if_icmp .ge 125, [], 148), (26, .aload_n 0, [], 0), (27, .iload 7, [], 0), (29, .invokevirtual 263, [], 93477), (32, .ifCond .eq 110, [], 142), (35, .aload_n 0, [], 0), (36, .getfield 78, [], 605), (39, .iload 7, [], 0), (41, .iaload, [], 0), (42, .iconst (-1), [], 2), (43, .if_icmp .eq 99, [], 142), (46, .aload_n 0, [], 0), (47, .getfield 75, [], 604), (50, .iload 7, [], 0), (52, .iaload, [], 0), (53, .iconst 1, [], 1), (54, .if_icmp .ne 7, [], 61), (57, .iconst 1, [], 1), (58, .goto 4, [], 62), (61, .iconst 0, [], 0), (62, .istore 8, [], 0), (64, .lload_n 1, [], 0), (65, .iload 8, [], 0), (67, .ifCond .eq 18, [], 85), (70, .ldc2_w 266, [], 8), (73, .aload_n 0, [], 0), (74, .getfield 78, [], 605), (77, .iload 7, [], 0), (79, .iaload, [], 0), (80, .i2l, [], 0), (81, .ldiv, [], 0), (82, .goto 4, [], 86), (85, .lconst 0, [], 0), (86, .ladd, [], 0), (87, .lstore_n 1, [], 0), (88, .lload_n 3, [], 0), (89, .iload 8, [], 0), (91, .ifCond .eq 7, [], 98), (94, .lconst 0, [], 0), (95, .goto 15, [], 110), (98, .ldc2_w 266, [], 8), (101, .aload_n 0, [], 0), (102, .getfield 78, [], 605), (105, .iload 7, [], 0), (107, .iaload, [], 0), (108, .i2l, [], 0), (109, .ldiv, [], 0), (110, .ladd, [], 0), (111, .lstore_n 3, [], 0), (112, .iload 5, [], 0), (114, .iload 8, [], 0), (116, .ifCond .eq 7, [], 123), (119, .iconst 1, [], 1), (120, .goto 4, [], 124), (123, .iconst 0, [], 0), (124, .iadd, [], 0), (125, .istore 5, [], 0), (127, .iload 6, [], 0), (129, .iload 8, [], 0), (131, .ifCond .eq 7, [], 138), (134, .iconst 0, [], 0), (135, .goto 4, [], 139), (138, .iconst 1, [], 1), (139, .iadd, [], 0), (140, .istore 6, [], 0), (142, .iinc 7 1, [], 1), (145, .goto (-128), [], 17), (148, .aload_n 0, [], 0), (149, .getfield 268, [], 615), (152, .ifCond .le 24, [], 176), (155, .aload_n 0, [], 0), (156, .getfield 271, [], 616), (159, .ifCond .le 17, [], 176), (162, .iload 5, [], 0), (164, .ifCond .le 12, [], 176), (167, .iload 6, [], 0), (169, .ifCond .le 7, [], 176), (172, .iconst 1, [], 1), (173, .goto 4, [], 177), (176, .iconst 0, [], 0), (177, .istore 7, [], 0), (179, .iload 7, [], 0), (181, .ifCond .eq 11, [], 192), (184, .lload_n 1, [], 0), (185, .lload_n 3, [], 0), (186, .invokestatic 145, [], 83471), (189, .goto 4, [], 193), (192, .lconst 1, [], 1), (193, .lstore 8, [], 0), (195, .aload_n 0, [], 0), (196, .iload 7, [], 0), (198, .ifCond .eq 26, [], 224), (201, .aload_n 0, [], 0), (202, .getfield 274, [], 617), (205, .i2l, [], 0), (206, .iload 6, [], 0), (208, .i2l, [], 0), (209, .lmul, [], 0), (210, .aload_n 0, [], 0), (211, .getfield 271, [], 616), (214, .i2l, [], 0), (215, .lmul, [], 0), (216, .lload_n 1, [], 0), (217, .lload 8, [], 0), (219, .ldiv, [], 0), (220, .lmul, [], 0), (221, .goto 4, [], 225), (224, .lconst 0, [], 0), (225, .putfield 257, [], 613), (228, .aload_n 0, [], 0), (229, .iload 7, [], 0), (231, .ifCond .eq 31, [], 262), (234, .aload_n 0, [], 0), (235, .getfield 257, [], 613), (238, .aload_n 0, [], 0), (239, .getfield 277, [], 618), (242, .i2l, [], 0), (243, .iload 5, [], 0), (245, .i2l, [], 0), (246, .lmul, [], 0), (247, .aload_n 0, [], 0), (248, .getfield 268, [], 615), (251, .i2l, [], 0), (252, .lmul, [], 0), (253, .lload_n 3, [], 0), (254, .lload 8, [], 0), (256, .ldiv, [], 0), (257, .lmul, [], 0), (258, .ladd, [], 0), (259, .goto 4, [], 263), (262, .lconst 0, [], 0), (263, .putfield 260, [], 614), (266, .return_, [], 0)]
def kc_Mod_findBrought : List Ety := [(0, .aload_n 0, [], 0), (1, .iconst 0, [], 0), (2, .putfield 268, [], 615), (5, .aload_n 0, [], 0), (6, .iconst 0, [], 0), (7, .putfield 271, [], 616), (10, .aload_n 0, [], 0), (11, .iconst 0, [], 0), (12, .putfield 274, [], 617), (15, .aload_n 0, [], 0), (16, .iconst 0, [], 0), (17, .putfield 277, [], 618), (20, .iconst 0, [], 0), (21, .istore_n 1, [], 0), (22, .iload_n 1, [0, 0, 1], 0), (23, .aload_n 0, [], 0), (24, .getfield 240, [], 602), (27, .if_icmp .ge 139, [], 166), (30, .aload_n 0, [], 0), (31, .iload_n 1, [], 0), (32, .invokevirtual 263, [], 93477), (35, .ifCond .eq 125, [], 160), (38, .aload_n 0, [], 0), (39, .getfield 72, [], 603), (42, .iload_n 1, [], 0), (43, .iaload, [], 0), (44, .iconst (-1), [], 2), (45, .if_icmp .eq 115, [], 160), (48, .aload_n 0, [], 0), (49, .getfield 75, [], 604), (52, .aload_n 0, [], 0), (53, .getfield 72, [], 603), (56, .iload_n 1, [], 0), (57, .iaload, [], 0), (58, .iaload, [], 0), (59, .iconst 1, [], 1), (60, .if_icmp .ne 7, [], 67), (63, .iconst 1, [], 1), (64, .goto 4, [], 68), (67, .iconst 0, [], 0), (68, .istore_n 2, [], 0), (69, .aload_n 0, [], 0), (70, .dup, [], 0), (71, .getfield 271, [], 616), (74, .iload_n 2, [], 0), (75, .ifCond .eq 7, [], 82), (78, .iconst 1, [], 1), (79, .goto 4, [], 83), (82, .iconst 0, [], 0), (83, .iadd, [], 0), (84, .putfield 271, [], 616), (87, .aload_n 0, [], 0), (88, .dup, [], 0), (89, .getfield 268, [], 615), (92, .iload_n 2, [], 0), (93, .ifCond .eq 7, [], 100), (96, .iconst 0, [], 0), (97, .goto 4, [], 101), (100, .iconst 1, [], 1), (101, .iadd, [], 0), (102, .putfield 268, [], 615), (105, .aload_n 0, [], 0), (106, .dup, [], 0), (107, .getfield 277, [], 618), (110, .iload_n 2, [], 0), (111, .ifCond .eq 16, [], 127), (114, .aload_n 0, [], 0), (115, .getfield 75, [], 604), (118, .iload_n 1, [], 0), (119, .iaload, [], 0), (120, .ifCond .ne 7, [], 127), (123, .iconst 1, [], 1), (124, .goto 4, [], 128), (127, .iconst 0, [], 0), (128, .iadd, [], 0), (129, .putfield 277, [], 618), (132, .aload_n 0, [], 0), (133, .dup, [], 0), (134, .getfield 274, [], 617), (137, .iload_n 2, [], 0), (138, .ifCond .ne 17, [], 155), (141, .aload_n 0, [], 0), (142, .getfield 75, [], 604), (145, .iload_n 1, [], 0), (146, .iaload, [], 0), (147, .iconst 1, [], 1), (148, .if_icmp .ne 7, [], 155), (151, .iconst 1, [], 1), (152, .goto 4, [], 156), (155, .iconst 0, [], 0), (156, .iadd, [], 0), (157, .putfield 274, [], 617), (160, .iinc 1 1, [], 1), (163, .goto (-141), [], 22), (166, .return_, [], 0)]
def kc_Mod_bounds : List Ety := [(0, .iload_n 1, [], 0), (1, .i2l, [], 0), (2, .lconst 0, [], 0), (3, .ldc2_w 232, [], 19), (6, .invokestatic 117, [], 67602), (9, .ifCond .eq 17, [], 26), (12, .iload_n 2, [], 0), (13, .invokestatic 160, [], 74250), (16, .ifCond .eq 10, [], 26), (19, .iload_n 3, [], 0), (20, .invokestatic 160, [], 74250), (23, .ifCond .ne 9, [], 32), (26, .bipush (-2), [], 7), (28, .invokestatic 222, [], 79371), (31, .lreturn, [], 0), (32, .aload_n 0, [], 0), (33, .invokevirtual 251, [], 90912), (36, .aload_n 0, [], 0), (37, .iload_n 2, [], 0), (38, .ifCond .ne 7, [], 45), (41, .iload_n 1, [], 0), (42, .goto 5, [], 47), (45, .iload_n 1, [], 0), (46, .ineg, [], 0), (47, .iconst (-1), [], 2), (48, .invokevirtual 286, [], 93992), (51, .aload_n 0, [], 0), (52, .getfield 260, [], 614), (55, .lconst 0, [], 0), (56, .lcmp, [], 0), (57, .ifCond .ne 11, [], 68), (60, .bipush (-3), [], 18), (62, .invokestatic 222, [], 79371), (65, .goto 15, [], 80), (68, .aload_n 0, [], 0), (69, .getfield 257, [], 613), (72, .aload_n 0, [], 0), (73, .getfield 260, [], 614), (76, .iload_n 3, [], 0), (77, .invokestatic 228, [], 82963), (80, .lreturn, [], 0)]
def kc_Mod_leaving : List Ety := [(0, .iload_n 1, [], 0), (1, .invokestatic 160, [], 74250), (4, .ifCond .eq 10, [], 14), (7, .iload_n 2, [], 0), (8, .invokestatic 160, [], 74250), (11, .ifCond .ne 9, [], 20), (14, .bipush (-2), [], 7), (16, .invokestatic 222, [], 79371), (19, .lreturn, [], 0), (20, .aload_n 0, [], 0), (21, .invokevirtual 251, [], 90912), (24, .aload_n 0, [], 0), (25, .invokevirtual 297, [], 96545), (28, .iconst 2, [], 3), (29, .if_icmp .ge 9, [], 38), (32, .bipush (-3), [], 18), (34, .invokestatic 222, [], 79371), (37, .lreturn, [], 0), (38, .lconst 0, [], 0), (39, .lstore_n 3, [], 0), (40, .lconst 0, [], 0), (41, .lstore 5, [], 0), (43, .iconst 0, [], 0), (44, .istore 7, [], 0), (46, .iload 7, [0, 0, 0, 0, 1, 0, 1, 0, 1], 0), (48, .aload_n 0, [], 0), (49, .getfield 240, [], 602), (52, .if_icmp .ge 117, [], 169), (55, .aload_n 0, [], 0), (56, .getfield 96, [], 612), (59, .iload 7, [], 0), (61, .baload, [], 0), (62, .ifCond .eq 101, [], 163), (65, .aload_n 0, [], 0), (66, .getfield 72, [], 603), (69, .iload 7, [], 0), (71, .iaload, [], 0), (72, .iconst (-1), [], 2), (73, .if_icmp .ne 90, [], 163), (76, .aload_n 0, [], 0), (77, .iconst 0, [], 0), (78, .iload 7, [], 0), (80, .invokevirtual 286, [], 93992), (83, .lload 5, [], 0), (85, .lconst 0, [], 0), (86, .lcmp, [], 0), (87, .ifCond .eq 44, [], 131), (90, .iload_n 1, [], 0), (91, .ifCond .ne 23, [], 114), (94, .aload_n 0, [], 0), (95, .getfield 257, [], 613), (98, .aload_n 0, [], 0), (99, .getfield 260, [], 614), (102, .lload_n 3, [], 0), (103, .lload 5, [], 0), (105, .invokestatic 300, [], 96790), (108, .ifCond .eq 27, [], 135), (111, .goto 20, [], 131), (114, .lload_n 3, [], 0), (115, .lload 5, [], 0), (117, .aload_n 0, [], 0), (118, .getfield 257, [], 613), (121, .aload_n 0, [], 0), (122, .getfield 260, [], 614), (125, .invokestatic 300, [], 96790), (128, .ifCond .eq 7, [], 135), (131, .iconst 1, [], 1), (132, .goto 4, [], 136), (135, .iconst 0, [], 0), (136, .istore 8, [0, 0, 0, 0, 1, 0, 1, 0, 1], 0), (138, .aload_n 0, [], 0), (139, .getfield 260, [], 614), (142, .lconst 0, [], 0), (143, .lcmp, [], 0), (144, .ifCond .le 19, [], 163), (147, .iload 8, [], 0), (149, .ifCond .eq 14, [], 163), (152, .aload_n 0, [], 0), (153, .getfield 257, [], 613), (156, .lstore_n 3, [], 0), (157, .aload_n 0, [], 0), (158, .getfield 260, [], 614), (161, .lstore 5, [], 0), (163, .iinc 7 1, [0, 0, 0, 0, 1, 0, 1, 0, 1], 1), (166, .goto (-120), [], 46), (169, .lload 5, [], 0), (171, .lconst 0, [], 0), (172, .lcmp, [], 0), (173, .ifCond .ne 11, [], 184), (176, .bipush (-3), [], 18), (178, .invokestatic 222, [], 79371), (181, .goto 10, [], 191), (184, .lload_n 3, [], 0), (185, .lload 5, [], 0), (187, .iload_n 2, [], 0), (188, .invokestatic 228, [], 82963), (191, .lreturn, [], 0)]
def kc_Mod_trees : List Ety := [(0, .iconst 0, [], 0), (1, .istore_n 1, [], 0), (2, .iconst 0, [], 0), (3, .istore_n 2, [], 0), (4, .iload_n 2, [0, 0, 0], 0), (5, .aload_n 0, [], 0), (6, .getfield 240, [], 602), (9, .if_icmp .ge 36, [], 45), (12, .iload_n 1, [], 0), (13, .aload_n 0, [], 0), (14, .getfield 96, [], 612), (17, .iload_n 2, [], 0), (18, .baload, [], 0), (19, .ifCond .eq 17, [], 36), (22, .aload_n 0, [], 0), (23, .getfield 72, [], 603), (26, .iload_n 2, [], 0), (27, .iaload, [], 0), (28, .iconst (-1), [], 2), (29, .if_icmp .ne 7, [], 36), (32, .iconst 1, [], 1), (33, .goto 4, [], 37), (36, .iconst 0, [], 0), (37, .iadd, [], 0), (38, .istore_n 1, [], 0), (39, .iinc 2 1, [], 1), (42, .goto (-38), [], 4), (45, .iload_n 1, [], 0), (46, .ireturn, [], 0)]
def kc_Mod_isLess : List Ety := [(0, .lload_n 0, [], 0), (1, .lstore 8, [], 0), (3, .lload_n 2, [], 0), (4, .lstore 10, [], 0), (6, .lload 4, [], 0), (8, .lstore 12, [], 0), (10, .lload 6, [], 0), (12, .lstore 14, [], 0), (14, .iconst 0, [], 0), (15, .istore 16, [], 0), (17, .lload 10, [1, 1, 1, 1, 1, 1, 1, 1, 0, 1, 0, 1, 0, 1, 0, 1, 0, 1, 1, 1, 1], 0), (19, .lconst 0, [], 0), (20, .lcmp, [], 0), (21, .ifCond .eq 69, [], 90), (24, .lload 14, [], 0), (26, .lconst 0, [], 0), (27, .lcmp, [], 0), (28, .ifCond .eq 62, [], 90), (31, .lload 8, [], 0), (33, .lload 10, [], 0), (35, .ldiv, [], 0), (36, .lload 12, [], 0), (38, .lload 14, [], 0), (40, .ldiv, [], 0), (41, .lcmp, [], 0), (42, .ifCond .ne 48, [], 90), (45, .lload 8, [], 0), (47, .lload 10, [], 0), (49, .lrem, [], 0), (50, .lstore 17, [], 0), (52, .lload 12, [], 0), (54, .lload 14, [], 0), (56, .lrem, [], 0), (57, .lstore 19, [], 0), (59, .lload 10, [], 0), (61, .lstore 8, [], 0), (63, .lload 17, [], 0), (65, .lstore 10, [], 0), (67, .lload 14, [], 0), (69, .lstore 12, [], 0), (71, .lload 19, [], 0), (73, .lstore 14, [], 0), (75, .iload 16, [], 0), (77, .ifCond .ne 7, [], 84), (80, .iconst 1, [], 1), (81, .goto 4, [], 85), (84, .iconst 0, [], 0), (85, .istore 16, [], 0), (87, .goto (-70), [], 17), (90, .lload 10, [1, 1, 1, 1, 1, 1, 1, 1, 0, 1, 0, 1, 0, 1, 0, 1, 0, 1, 1, 1, 1], 0), (92, .lconst 0, [], 0), (93, .lcmp, [], 0), (94, .ifCond .ne 12, [], 106), (97, .lload 14, [], 0), (99, .lconst 0, [], 0), (100, .lcmp, [], 0), (101, .ifCond .ne 5, [], 106), (104, .iconst 0, [], 0), (105, .ireturn, [], 0), (106, .lload 10, [1, 1, 1, 1, 1, 1, 1, 1, 0, 1, 0, 1, 0, 1, 0, 1, 0, 1, 1, 1, 1], 0), (108, .lconst 0, [], 0), (109, .lcmp, [], 0), (110, .ifCond .eq 28, [], 138), (113, .lload 14, [], 0), (115, .lconst 0, [], 0), (116, .lcmp, [], 0), (117, .ifCond .eq 17, [], 134), (120, .lload 8, [], 0), (122, .lload 10, [], 0), (124, .ldiv, [], 0), (125, .lload 12, [], 0), (127, .lload 14, [], 0), (129, .ldiv, [], 0), (130, .lcmp, [], 0), (131, .ifCond .ge 7, [], 138), (134, .iconst 1, [1, 1, 1, 1, 1, 1, 1, 1, 1, 1, 1, 1, 1, 1, 1, 1, 0, 1, 1, 1, 1], 1), (135, .goto 4, [], 139), (138, .iconst 0, [1, 1, 1, 1, 1, 1, 1, 1, 1, 1, 1, 1, 1, 1, 1, 1, 0, 1, 1, 1, 1], 0), (139, .istore 17, [1, 1, 1, 1, 1, 1, 1, 1, 1, 1, 1, 1, 1, 1, 1, 1, 0, 1, 1, 1, 1], 0), (141, .iload 17, [], 0), (143, .iload 16, [], 0), (145, .if_icmp .eq 7, [], 152), (148, .iconst 1, [], 1), (149, .goto 4, [], 153), (152, .iconst 0, [], 0), (153, .ireturn, [1, 1, 1, 1, 1, 1, 1, 1, 1, 1, 1, 1, 1, 1, 1, 1, 1, 1, 1, 1, 1], 0)]
def kc_Mod_alike : List Ety := [(0, .iload_n 1, [], 0), (1, .invokestatic 160, [], 74250), (4, .ifCond .eq 11, [], 15), (7, .aload_n 0, [], 0), (8, .iload_n 1, [], 0), (9, .invokevirtual 320, [], 98085), (12, .goto 5, [], 17), (15, .bipush (-2), [], 7), (17, .ireturn, [], 0)]
def kc_Mod_alikeOf : List Ety := [(0, .aload_n 0, [], 0), (1, .invokevirtual 307, [], 98592), (4, .aload_n 0, [], 0), (5, .invokevirtual 310, [], 99105), (8, .istore_n 2, [], 0), (9, .aload_n 0, [], 0), (10, .iload_n 2, [], 0), (11, .invokevirtual 313, [], 99621), (14, .istore_n 3, [], 0), (15, .iload_n 1, [], 0), (16, .ifCond .ne 5, [], 21), (19, .iload_n 3, [], 0), (20, .ireturn, [], 0), (21, .aload_n 0, [], 0), (22, .getfield 304, [], 621), (25, .bipush 14, [], 26), (27, .if_icmp .le 6, [], 33), (30, .bipush (-4), [], 25), (32, .ireturn, [], 0), (33, .iconst 0, [], 0), (34, .istore 4, [], 0), (36, .iconst 0, [], 0), (37, .istore 5, [], 0), (39, .iconst 0, [], 0), (40, .istore 6, [], 0), (42, .iload 6, [0, 1, 0, 0, 0, 0, 0], 0), (44, .iconst 1, [], 1), (45, .aload_n 0, [], 0), (46, .getfield 304, [], 621), (49, .ishl, [], 0), (50, .if_icmp .ge 44, [], 94), (53, .iload 6, [], 0), (55, .invokestatic 163, [], 76298), (58, .iload_n 2, [], 0), (59, .invokestatic 163, [], 76298), (62, .if_icmp .ne 26, [], 88), (65, .iinc 4 1, [], 1), (68, .iload 5, [], 0), (70, .aload_n 0, [], 0), (71, .iload 6, [], 0), (73, .invokevirtual 313, [], 99621), (76, .iload_n 3, [], 0), (77, .if_icmp .lt 7, [], 84), (80, .iconst 1, [], 1), (81, .goto 4, [], 85), (84, .iconst 0, [], 0), (85, .iadd, [], 0), (86, .istore 5, [], 0), (88, .iinc 6 1, [], 1), (91, .goto (-49), [], 42), (94, .iload 5, [], 0), (96, .i2l, [], 0), (97, .iload 4, [], 0), (99, .i2l, [], 0), (100, .invokestatic 316, [], 99854), (103, .ireturn, [], 0)]
def kc_Mod_findWho : List Ety := [(0, .aload_n 0, [], 0), (1, .invokevirtual 251, [], 90912), (4, .aload_n 0, [], 0), (5, .iconst 0, [], 0), (6, .putfield 304, [], 621), (9, .iconst 0, [], 0), (10, .istore_n 1, [], 0), (11, .iload_n 1, [0, 0], 0), (12, .aload_n 0, [], 0), (13, .getfield 240, [], 602), (16, .if_icmp .ge 48, [], 64), (19, .aload_n 0, [], 0), (20, .getfield 96, [], 612), (23, .iload_n 1, [], 0), (24, .baload, [], 0), (25, .ifCond .eq 33, [], 58), (28, .aload_n 0, [], 0), (29, .getfield 100, [], 619), (32, .aload_n 0, [], 0), (33, .getfield 304, [], 621), (36, .iload_n 1, [], 0), (37, .iastore, [], 0), (38, .aload_n 0, [], 0), (39, .getfield 103, [], 620), (42, .iload_n 1, [], 0), (43, .aload_n 0, [], 0), (44, .getfield 304, [], 621), (47, .iastore, [], 0), (48, .aload_n 0, [], 0), (49, .dup, [], 0), (50, .getfield 304, [], 621), (53, .iconst 1, [], 1), (54, .iadd, [], 0), (55, .putfield 304, [], 621), (58, .iinc 1 1, [], 1), (61, .goto (-50), [], 11), (64, .return_, [], 0)]
def kc_Mod_kindBits : List Ety := [(0, .iconst 0, [], 0), (1, .istore_n 1, [], 0), (2, .iconst 0, [], 0), (3, .istore_n 2, [], 0), (4, .iload_n 2, [0, 0, 0], 0), (5, .aload_n 0, [], 0), (6, .getfield 304, [], 621), (9, .if_icmp .ge 25, [], 34), (12, .iload_n 1, [], 0), (13, .aload_n 0, [], 0), (14, .getfield 75, [], 604), (17, .aload_n 0, [], 0), (18, .getfield 100, [], 619), (21, .iload_n 2, [], 0), (22, .iaload, [], 0), (23, .iaload, [], 0), (24, .iload_n 2, [], 0), (25, .ishl, [], 0), (26, .ior, [], 0), (27, .istore_n 1, [], 0), (28, .iinc 2 1, [], 1), (31, .goto (-27), [], 4), (34, .iload_n 1, [], 0), (35, .ireturn, [], 0)]
def kc_Mod_likes : List Ety := [(0, .iconst 0, [], 0), (1, .istore_n 2, [], 0), (2, .iconst 0, [], 0), (3, .istore_n 3, [], 0), (4, .iload_n 3, [0, 0, 0, 0, 1], 0), (5, .aload_n 0, [], 0), (6, .getfield 304, [], 621), (9, .if_icmp .ge 55, [], 64), (12, .aload_n 0, [], 0), (13, .getfield 72, [], 603), (16, .aload_n 0, [], 0), (17, .getfield 100, [], 619), (20, .iload_n 3, [], 0), (21, .iaload, [], 0), (22, .iaload, [], 0), (23, .istore 4, [], 0), (25, .iload_n 2, [], 0), (26, .iload 4, [], 0), (28, .iconst (-1), [], 2), (29, .if_icmp .eq 26, [], 55), (32, .iload_n 1, [], 0), (33, .iload_n 3, [], 0), (34, .ishr, [], 0), (35, .iconst 1, [], 1), (36, .iand, [], 0), (37, .iload_n 1, [], 0), (38, .aload_n 0, [], 0), (39, .getfield 103, [], 620), (42, .iload 4, [], 0), (44, .iaload, [], 0), (45, .ishr, [], 0), (46, .iconst 1, [], 1), (47, .iand, [], 0), (48, .if_icmp .ne 7, [], 55), (51, .iconst 1, [], 1), (52, .goto 4, [], 56), (55, .iconst 0, [], 0), (56, .iadd, [], 0), (57, .istore_n 2, [], 0), (58, .iinc 3 1, [], 1), (61, .goto (-57), [], 4), (64, .iload_n 2, [], 0), (65, .ireturn, [], 0)]
def kc_Mod_millionths : List Ety := [(0, .ldc2_w 149, [], 9), (3, .lload_n 0, [], 0), (4, .lmul, [], 0), (5, .lload_n 2, [], 0), (6, .ldiv, [], 0), (7, .l2i, [], 0), (8, .ireturn, [], 0)]
def kc_Mod_forgot : List Ety := [(0, .iload_n 1, [], 0), (1, .i2l, [], 0), (2, .ldc2_w 176, [], 10), (5, .ldc2_w 323, [], 21), (8, .invokestatic 117, [], 67602), (11, .ifCond .eq 10, [], 21), (14, .iload_n 2, [], 0), (15, .invokestatic 160, [], 74250), (18, .ifCond .ne 9, [], 27), (21, .bipush (-2), [], 7), (23, .invokestatic 222, [], 79371), (26, .lreturn, [], 0), (27, .aload_n 0, [], 0), (28, .invokevirtual 251, [], 90912), (31, .aload_n 0, [], 0), (32, .invokevirtual 280, [], 95008), (35, .aload_n 0, [], 0), (36, .getfield 268, [], 615), (39, .ifCond .eq 10, [], 49), (42, .aload_n 0, [], 0), (43, .getfield 271, [], 616), (46, .ifCond .ne 9, [], 55), (49, .bipush (-3), [], 18), (51, .invokestatic 222, [], 79371), (54, .lreturn, [], 0), (55, .aload_n 0, [], 0), (56, .getfield 274, [], 617), (59, .i2l, [], 0), (60, .aload_n 0, [], 0), (61, .getfield 271, [], 616), (64, .i2l, [], 0), (65, .lmul, [], 0), (66, .lstore_n 3, [], 0), (67, .aload_n 0, [], 0), (68, .getfield 277, [], 618), (71, .i2l, [], 0), (72, .aload_n 0, [], 0), (73, .getfield 268, [], 615), (76, .i2l, [], 0), (77, .lmul, [], 0), (78, .lstore 5, [], 0), (80, .iload_n 1, [], 0), (81, .iconst (-1), [], 2), (82, .if_icmp .ne 30, [], 112), (85, .lload_n 3, [], 0), (86, .lload 5, [], 0), (88, .ladd, [], 0), (89, .lconst 0, [], 0), (90, .lcmp, [], 0), (91, .ifCond .ne 11, [], 102), (94, .bipush (-3), [], 18), (96, .invokestatic 222, [], 79371), (99, .goto 12, [], 111), (102, .lload_n 3, [], 0), (103, .lload_n 3, [], 0), (104, .lload 5, [], 0), (106, .ladd, [], 0), (107, .iload_n 2, [], 0), (108, .invokestatic 228, [], 82963), (111, .lreturn, [], 0), (112, .lconst 1, [], 1), (113, .lstore 7, [], 0), (115, .lconst 0, [], 0), (116, .lstore 9, [], 0), (118, .aload_n 0, [], 0), (119, .getfield 268, [], 615), (122, .i2l, [], 0), (123, .aload_n 0, [], 0), (124, .getfield 271, [], 616), (127, .i2l, [], 0), (128, .lmul, [], 0), (129, .lstore 11, [], 0), (131, .iconst 0, [], 0), (132, .istore 13, [], 0), (134, .iload 13, [1, 0, 0, 0, 1, 0, 1, 0, 1, 0, 1, 0, 1, 0], 0), (136, .iload_n 1, [], 0), (137, .if_icmp .ge 34, [], 171), (140, .lload 7, [], 0), (142, .lload 9, [], 0), (144, .lsub, [], 0), (145, .lload_n 3, [], 0), (146, .lmul, [], 0), (147, .lload 9, [], 0), (149, .lload 11, [], 0), (151, .lload 5, [], 0), (153, .lsub, [], 0), (154, .lmul, [], 0), (155, .ladd, [], 0), (156, .lstore 9, [], 0), (158, .lload 7, [], 0), (160, .lload 11, [], 0), (162, .lmul, [], 0), (163, .lstore 7, [], 0), (165, .iinc 13 1, [], 1), (168, .goto (-34), [], 134), (171, .lload 9, [], 0), (173, .lload 7, [], 0), (175, .iload_n 2, [], 0), (176, .invokestatic 228, [], 82963), (179, .lreturn, [], 0)]
def kc_Mod_wave : List Ety := [(0, .iload_n 1, [], 0), (1, .i2l, [], 0), (2, .lconst 0, [], 0), (3, .ldc2_w 325, [], 22), (6, .invokestatic 117, [], 67602), (9, .ifCond .ne 6, [], 15), (12, .bipush (-2), [], 7), (14, .ireturn, [], 0), (15, .aload_n 0, [], 0), (16, .invokevirtual 251, [], 90912), (19, .iconst 0, [], 0), (20, .istore_n 2, [], 0), (21, .iconst 0, [], 0), (22, .istore_n 3, [], 0), (23, .iload_n 3, [0, 0, 0, 0], 0), (24, .aload_n 0, [], 0), (25, .getfield 240, [], 602), (28, .if_icmp .ge 36, [], 64), (31, .iload_n 2, [], 0), (32, .aload_n 0, [], 0), (33, .getfield 96, [], 612), (36, .iload_n 3, [], 0), (37, .baload, [], 0), (38, .ifCond .eq 17, [], 55), (41, .aload_n 0, [], 0), (42, .getfield 90, [], 609), (45, .iload_n 3, [], 0), (46, .iaload, [], 0), (47, .iload_n 1, [], 0), (48, .if_icmp .ne 7, [], 55), (51, .iconst 1, [], 1), (52, .goto 4, [], 56), (55, .iconst 0, [], 0), (56, .iadd, [], 0), (57, .istore_n 2, [], 0), (58, .iinc 3 1, [], 1), (61, .goto (-38), [], 23), (64, .iload_n 2, [], 0), (65, .ireturn, [], 0)]
def kc_Mod_type : List Ety := [(0, .aload_n 0, [], 0), (1, .iload_n 1, [], 0), (2, .invokevirtual 243, [], 89381), (5, .ifCond .eq 15, [], 20), (8, .iload_n 2, [], 0), (9, .i2l, [], 0), (10, .lconst 0, [], 0), (11, .ldc2_w 327, [], 23), (14, .invokestatic 117, [], 67602), (17, .ifCond .ne 6, [], 23), (20, .bipush (-2), [], 7), (22, .ireturn, [], 0), (23, .iload_n 2, [], 0), (24, .bipush 63, [], 14), (26, .if_icmp .eq 20, [], 46), (29, .iload_n 2, [], 0), (30, .i2l, [], 0), (31, .ldc2_w 329, [], 24), (34, .ldc2_w 331, [], 25), (37, .invokestatic 117, [], 67602), (40, .ifCond .ne 6, [], 46), (43, .bipush (-3), [], 18), (45, .ireturn, [], 0), (46, .aload_n 0, [], 0), (47, .getfield 109, [], 623), (50, .iload_n 1, [], 0), (51, .iaload, [], 0), (52, .bipush 8, [], 12), (54, .if_icmp .ne 6, [], 60), (57, .bipush (-4), [], 25), (59, .ireturn, [], 0), (60, .aload_n 0, [], 0), (61, .getfield 106, [], 622), (64, .bipush 8, [], 12), (66, .iload_n 1, [], 0), (67, .imul, [], 0), (68, .aload_n 0, [], 0), (69, .getfield 109, [], 623), (72, .iload_n 1, [], 0), (73, .iaload, [], 0), (74, .iadd, [], 0), (75, .iload_n 2, [], 0), (76, .iastore, [], 0), (77, .aload_n 0, [], 0), (78, .getfield 109, [], 623), (81, .iload_n 1, [], 0), (82, .dup2, [], 0), (83, .iaload, [], 0), (84, .iconst 1, [], 1), (85, .iadd, [], 0), (86, .iastore, [], 0), (87, .aload_n 0, [], 0), (88, .getfield 109, [], 623), (91, .iload_n 1, [], 0), (92, .iaload, [], 0), (93, .ireturn, [], 0)]
def kc_Mod_wipe : List Ety := [(0, .aload_n 0, [], 0), (1, .iload_n 1, [], 0), (2, .invokevirtual 243, [], 89381), (5, .ifCond .ne 6, [], 11), (8, .bipush (-2), [], 7), (10, .ireturn, [], 0), (11, .aload_n 0, [], 0), (12, .getfield 109, [], 623), (15, .iload_n 1, [], 0), (16, .iaload, [], 0), (17, .istore_n 2, [], 0), (18, .aload_n 0, [], 0), (19, .getfield 109, [], 623), (22, .iload_n 1, [], 0), (23, .iconst 0, [], 0), (24, .iastore, [], 0), (25, .iload_n 2, [], 0), (26, .ireturn, [], 0)]
def kc_Mod_clash : List Ety := [(0, .aload_n 0, [], 0), (1, .iload_n 1, [], 0), (2, .invokevirtual 243, [], 89381), (5, .ifCond .eq 28, [], 33), (8, .aload_n 0, [], 0), (9, .iload_n 2, [], 0), (10, .invokevirtual 243, [], 89381), (13, .ifCond .eq 20, [], 33), (16, .aload_n 0, [], 0), (17, .iload_n 1, [], 0), (18, .iload_n 2, [], 0), (19, .invokevirtual 333, [], 103209), (22, .ifCond .eq 7, [], 29), (25, .iconst 1, [], 1), (26, .goto 9, [], 35), (29, .iconst 0, [], 0), (30, .goto 5, [], 35), (33, .bipush (-2), [], 7), (35, .ireturn, [], 0)]
def kc_Mod_clashes : List Ety := [(0, .iconst 0, [], 0), (1, .istore_n 3, [], 0), (2, .iconst 0, [], 0), (3, .istore 4, [], 0), (5, .iload 4, [0, 0, 0, 0, 0, 1, 1], 0), (7, .aload_n 0, [], 0), (8, .getfield 109, [], 623), (11, .iload_n 1, [], 0), (12, .iaload, [], 0), (13, .if_icmp .ge 79, [], 92), (16, .iload 4, [], 0), (18, .aload_n 0, [], 0), (19, .getfield 109, [], 623), (22, .iload_n 2, [], 0), (23, .iaload, [], 0), (24, .if_icmp .ge 68, [], 92), (27, .aload_n 0, [], 0), (28, .getfield 106, [], 622), (31, .bipush 8, [], 12), (33, .iload_n 1, [], 0), (34, .imul, [], 0), (35, .iload 4, [], 0), (37, .iadd, [], 0), (38, .iaload, [], 0), (39, .istore 5, [], 0), (41, .aload_n 0, [], 0), (42, .getfield 106, [], 622), (45, .bipush 8, [], 12), (47, .iload_n 2, [], 0), (48, .imul, [], 0), (49, .iload 4, [], 0), (51, .iadd, [], 0), (52, .iaload, [], 0), (53, .istore 6, [], 0), (55, .iload_n 3, [], 0), (56, .ifCond .ne 24, [], 80), (59, .iload 5, [], 0), (61, .bipush 63, [], 14), (63, .if_icmp .eq 21, [], 84), (66, .iload 6, [], 0), (68, .bipush 63, [], 14), (70, .if_icmp .eq 14, [], 84), (73, .iload 5, [], 0), (75, .iload 6, [], 0), (77, .if_icmp .eq 7, [], 84), (80, .iconst 1, [], 1), (81, .goto 4, [], 85), (84, .iconst 0, [], 0), (85, .istore_n 3, [], 0), (86, .iinc 4 1, [], 1), (89, .goto (-84), [], 5), (92, .iload_n 3, [], 0), (93, .ireturn, [], 0)]
def kc_Mod_least : List Ety := [(0, .aload_n 0, [], 0), (1, .invokevirtual 343, [], 104225), (4, .ireturn, [], 0)]
def kc_Mod_leastNow : List Ety := [(0, .aload_n 0, [], 0), (1, .invokevirtual 307, [], 98592), (4, .aload_n 0, [], 0), (5, .getfield 304, [], 621), (8, .bipush 12, [], 38), (10, .if_icmp .le 6, [], 16), (13, .bipush (-4), [], 25), (15, .ireturn, [], 0), (16, .iconst 0, [], 0), (17, .istore_n 1, [], 0), (18, .aload_n 0, [0, 0], 0), (19, .iload_n 1, [], 0), (20, .invokevirtual 340, [], 104741), (23, .ifCond .ne 9, [], 32), (26, .iinc 1 1, [], 1), (29, .goto (-11), [], 18), (32, .iload_n 1, [], 0), (33, .ireturn, [], 0)]
def kc_Mod_isEnough : List Ety := [(0, .iconst 0, [], 0), (1, .istore_n 2, [], 0), (2, .iconst 0, [], 0), (3, .istore_n 3, [], 0), (4, .iload_n 2, [0, 0, 0, 0], 0), (5, .ifCond .lt 74, [], 79), (8, .iload_n 2, [], 0), (9, .aload_n 0, [], 0), (10, .getfield 304, [], 621), (13, .if_icmp .ge 66, [], 79), (16, .iload_n 3, [0, 0, 0, 0], 0), (17, .iload_n 1, [], 0), (18, .if_icmp .ge 18, [], 36), (21, .aload_n 0, [], 0), (22, .iload_n 2, [], 0), (23, .iload_n 3, [], 0), (24, .invokevirtual 337, [], 105257), (27, .ifCond .ne 9, [], 36), (30, .iinc 3 1, [], 1), (33, .goto (-17), [], 16), (36, .iload_n 3, [0, 0, 0, 0], 0), (37, .iload_n 1, [], 0), (38, .if_icmp .ge 18, [], 56), (41, .aload_n 0, [], 0), (42, .getfield 112, [], 624), (45, .iload_n 2, [], 0), (46, .iload_n 3, [], 0), (47, .iastore, [], 0), (48, .iconst 0, [], 0), (49, .istore_n 3, [], 0), (50, .iinc 2 1, [], 1), (53, .goto (-49), [], 4), (56, .iinc 2 (-1), [], 2), (59, .iload_n 2, [0, 0, 0, 1], 0), (60, .ifCond .lt 14, [], 74), (63, .aload_n 0, [], 0), (64, .getfield 112, [], 624), (67, .iload_n 2, [], 0), (68, .iaload, [], 0), (69, .iconst 1, [], 1), (70, .iadd, [], 0), (71, .goto 4, [], 75), (74, .iconst 0, [], 0), (75, .istore_n 3, [], 0), (76, .goto (-72), [], 4), (79, .iload_n 2, [], 0), (80, .aload_n 0, [], 0), (81, .getfield 304, [], 621), (84, .if_icmp .ne 7, [], 91), (87, .iconst 1, [], 1), (88, .goto 4, [], 92), (91, .iconst 0, [], 0), (92, .ireturn, [], 0)]
def kc_Mod_canBe : List Ety := [(0, .iconst 1, [], 1), (1, .istore_n 3, [], 0), (2, .iconst 0, [], 0), (3, .istore 4, [], 0), (5, .iload 4, [0, 0, 0, 0, 0], 0), (7, .iload_n 1, [], 0), (8, .if_icmp .ge 50, [], 58), (11, .iload_n 3, [], 0), (12, .ifCond .eq 38, [], 50), (15, .aload_n 0, [], 0), (16, .getfield 112, [], 624), (19, .iload 4, [], 0), (21, .iaload, [], 0), (22, .iload_n 2, [], 0), (23, .if_icmp .ne 23, [], 46), (26, .aload_n 0, [], 0), (27, .aload_n 0, [], 0), (28, .getfield 100, [], 619), (31, .iload 4, [], 0), (33, .iaload, [], 0), (34, .aload_n 0, [], 0), (35, .getfield 100, [], 619), (38, .iload_n 1, [], 0), (39, .iaload, [], 0), (40, .invokevirtual 333, [], 103209), (43, .ifCond .ne 7, [], 50), (46, .iconst 1, [], 1), (47, .goto 4, [], 51), (50, .iconst 0, [], 0), (51, .istore_n 3, [], 0), (52, .iinc 4 1, [], 1), (55, .goto (-50), [], 5), (58, .iload_n 3, [], 0), (59, .ireturn, [], 0)]
def kc_Mod_ones : List Ety := [(0, .aload_n 0, [], 0), (1, .iload_n 1, [], 0), (2, .invokevirtual 243, [], 89381), (5, .ifCond .ne 6, [], 11), (8, .bipush (-2), [], 7), (10, .ireturn, [], 0), (11, .aload_n 0, [], 0), (12, .invokevirtual 343, [], 104225), (15, .bipush (-4), [], 25), (17, .if_icmp .ne 6, [], 23), (20, .bipush (-4), [], 25), (22, .ireturn, [], 0), (23, .aload_n 0, [], 0), (24, .getfield 96, [], 612), (27, .iload_n 1, [], 0), (28, .baload, [], 0), (29, .ifCond .eq 17, [], 46), (32, .aload_n 0, [], 0), (33, .getfield 112, [], 624), (36, .aload_n 0, [], 0), (37, .getfield 103, [], 620), (40, .iload_n 1, [], 0), (41, .iaload, [], 0), (42, .iaload, [], 0), (43, .goto 4, [], 47), (46, .iconst (-1), [], 2), (47, .ireturn, [], 0)]
def kc_Mod_reach : List Ety := [(0, .iload_n 1, [], 0), (1, .i2l, [], 0), (2, .lconst 0, [], 0), (3, .ldc2_w 346, [], 26), (6, .invokestatic 117, [], 67602), (9, .ifCond .ne 6, [], 15), (12, .bipush (-2), [], 7), (14, .ireturn, [], 0), (15, .iconst (-1), [], 2), (16, .istore_n 2, [], 0), (17, .iconst 1, [], 1), (18, .istore_n 3, [], 0), (19, .iload_n 3, [0, 0, 0, 0, 1], 0), (20, .aload_n 0, [], 0), (21, .invokevirtual 169, [], 77601), (24, .if_icmp .gt 60, [], 84), (27, .iload_n 2, [], 0), (28, .iconst (-1), [], 2), (29, .if_icmp .eq 14, [], 43), (32, .iload_n 3, [], 0), (33, .invokestatic 163, [], 76298), (36, .iload_n 2, [], 0), (37, .invokestatic 163, [], 76298), (40, .if_icmp .ge 7, [], 47), (43, .iconst 1, [], 1), (44, .goto 4, [], 48), (47, .iconst 0, [], 0), (48, .istore 4, [], 0), (50, .iload 4, [], 0), (52, .ifCond .eq 24, [], 76), (55, .aload_n 0, [], 0), (56, .iload_n 3, [], 0), (57, .iload_n 1, [], 0), (58, .aload_n 0, [], 0), (59, .invokevirtual 169, [], 77601), (62, .invokevirtual 173, [], 78125), (65, .aload_n 0, [], 0), (66, .invokevirtual 169, [], 77601), (69, .if_icmp .ne 7, [], 76), (72, .iload_n 3, [], 0), (73, .goto 4, [], 77), (76, .iload_n 2, [], 0), (77, .istore_n 2, [], 0), (78, .iinc 3 1, [], 1), (81, .goto (-62), [], 19), (84, .iload_n 2, [], 0), (85, .ireturn, [], 0)]
def kc_Mod_parts : List Ety := [(0, .iload_n 1, [], 0), (1, .invokestatic 160, [], 74250), (4, .ifCond .eq 11, [], 15), (7, .aload_n 0, [], 0), (8, .iload_n 1, [], 0), (9, .invokevirtual 351, [], 107301), (12, .goto 5, [], 17), (15, .bipush (-2), [], 7), (17, .ireturn, [], 0)]
def kc_Mod_partsNow : List Ety := [(0, .aload_n 0, [], 0), (1, .aload_n 0, [], 0), (2, .invokevirtual 169, [], 77601), (5, .invokevirtual 348, [], 107813), (8, .istore_n 2, [], 0), (9, .iload_n 1, [], 0), (10, .ifCond .ne 5, [], 15), (13, .iload_n 2, [], 0), (14, .ireturn, [], 0), (15, .iconst 0, [], 0), (16, .istore_n 3, [], 0), (17, .iconst 0, [], 0), (18, .istore 4, [], 0), (20, .iload 4, [0, 1, 0, 0, 0], 0), (22, .aload_n 0, [], 0), (23, .getfield 22, [], 581), (26, .if_icmp .ge 39, [], 65), (29, .iload_n 3, [], 0), (30, .aload_n 0, [], 0), (31, .aload_n 0, [], 0), (32, .invokevirtual 169, [], 77601), (35, .iconst 1, [], 1), (36, .iload 4, [], 0), (38, .ishl, [], 0), (39, .iconst (-1), [], 2), (40, .ixor, [], 0), (41, .iand, [], 0), (42, .invokevirtual 348, [], 107813), (45, .iload_n 2, [], 0), (46, .if_icmp .le 10, [], 56), (49, .iconst 1, [], 1), (50, .iload 4, [], 0), (52, .ishl, [], 0), (53, .goto 4, [], 57), (56, .iconst 0, [], 0), (57, .ior, [], 0), (58, .istore_n 3, [], 0), (59, .iinc 4 1, [], 1), (62, .goto (-42), [], 20), (65, .iload_n 3, [], 0), (66, .ireturn, [], 0)]
def kc_Mod_partsOf : List Ety := [(0, .iload_n 1, [], 0), (1, .istore_n 2, [], 0), (2, .iconst 0, [], 0), (3, .istore_n 3, [], 0), (4, .iload_n 2, [0, 0, 0, 0], 0), (5, .ifCond .eq 27, [], 32), (8, .iload_n 2, [], 0), (9, .aload_n 0, [], 0), (10, .iconst 1, [], 1), (11, .iload_n 2, [], 0), (12, .invokestatic 219, [], 82442), (15, .ishl, [], 0), (16, .bipush 9, [], 6), (18, .iload_n 1, [], 0), (19, .invokevirtual 173, [], 78125), (22, .iconst (-1), [], 2), (23, .ixor, [], 0), (24, .iand, [], 0), (25, .istore_n 2, [], 0), (26, .iinc 3 1, [], 1), (29, .goto (-25), [], 4), (32, .iload_n 3, [], 0), (33, .ireturn, [], 0)]
def kc_Mod_narrow : List Ety := [(0, .iload_n 1, [], 0), (1, .i2l, [], 0), (2, .lconst 0, [], 0), (3, .ldc2_w 130, [], 6), (6, .invokestatic 117, [], 67602), (9, .ifCond .eq 11, [], 20), (12, .aload_n 0, [], 0), (13, .iload_n 1, [], 0), (14, .invokevirtual 354, [], 108838), (17, .goto 8, [], 25), (20, .bipush (-2), [], 7), (22, .invokestatic 222, [], 79371), (25, .lreturn, [], 0)]
def kc_Mod_narrowOf : List Ety := [(0, .iconst (-1), [], 2), (1, .istore_n 2, [], 0), (2, .iconst 0, [], 0), (3, .istore_n 3, [], 0), (4, .iconst 1, [], 1), (5, .istore 4, [], 0), (7, .aload_n 0, [], 0), (8, .invokevirtual 237, [], 87841), (11, .istore 5, [], 0), (13, .iconst 1, [], 1), (14, .istore 6, [], 0), (16, .iload 6, [0, 0, 0, 0, 0, 0, 0, 1, 1, 1], 0), (18, .aload_n 0, [], 0), (19, .invokevirtual 169, [], 77601), (22, .if_icmp .gt 116, [], 138), (25, .iconst 0, [], 0), (26, .istore 7, [], 0), (28, .iconst 0, [], 0), (29, .istore 8, [], 0), (31, .iconst 0, [], 0), (32, .istore 9, [], 0), (34, .iload 9, [0, 0, 0, 0, 0, 0, 0, 0, 0, 0], 0), (36, .aload_n 0, [], 0), (37, .getfield 22, [], 581), (40, .if_icmp .ge 51, [], 91), (43, .iload 6, [], 0), (45, .iload 9, [], 0), (47, .ishr, [], 0), (48, .iconst 1, [], 1), (49, .iand, [], 0), (50, .iconst 1, [], 1), (51, .if_icmp .ne 34, [], 85), (54, .iload 7, [], 0), (56, .aload_n 0, [], 0), (57, .iload 9, [], 0), (59, .invokevirtual 166, [], 76069), (62, .iadd, [], 0), (63, .istore 7, [], 0), (65, .iload 8, [], 0), (67, .aload_n 0, [], 0), (68, .getfield 26, [], 582), (71, .iload 9, [], 0), (73, .iaload, [], 0), (74, .iload 6, [], 0), (76, .iconst (-1), [], 2), (77, .ixor, [], 0), (78, .iand, [], 0), (79, .invokestatic 163, [], 76298), (82, .iadd, [], 0), (83, .istore 8, [], 0), (85, .iinc 9 1, [], 1), (88, .goto (-54), [], 34), (91, .iload 7, [], 0), (93, .ifCond .le 39, [], 132), (96, .iconst 2, [], 3), (97, .iload 7, [], 0), (99, .imul, [], 0), (100, .iload 5, [], 0), (102, .if_icmp .gt 30, [], 132), (105, .iload_n 2, [], 0), (106, .iconst (-1), [], 2), (107, .if_icmp .eq 15, [], 122), (110, .iload 8, [], 0), (112, .iload 4, [], 0), (114, .imul, [], 0), (115, .iload_n 3, [], 0), (116, .iload 7, [], 0), (118, .imul, [], 0), (119, .if_icmp .ge 13, [], 132), (122, .iload 6, [], 0), (124, .istore_n 2, [], 0), (125, .iload 8, [], 0), (127, .istore_n 3, [], 0), (128, .iload 7, [], 0), (130, .istore 4, [], 0), (132, .iinc 6 1, [], 1), (135, .goto (-119), [], 16), (138, .iload_n 1, [], 0), (139, .iconst 2, [], 3), (140, .if_icmp .ne 8, [], 148), (143, .iload_n 2, [], 0), (144, .i2l, [], 0), (145, .goto 25, [], 170), (148, .iload_n 2, [], 0), (149, .iconst (-1), [], 2), (150, .if_icmp .ne 11, [], 161), (153, .bipush (-3), [], 18), (155, .invokestatic 222, [], 79371), (158, .goto 12, [], 170), (161, .iload_n 3, [], 0), (162, .i2l, [], 0), (163, .iload 4, [], 0), (165, .i2l, [], 0), (166, .iload_n 1, [], 0), (167, .invokestatic 228, [], 82963), (170, .lreturn, [], 0)]
def kc_Mod_write : List Ety := [(0, .aload_n 0, [], 0), (1, .iload_n 1, [], 0), (2, .invokevirtual 153, [], 72997), (5, .ifCond .eq 10, [], 15), (8, .iload_n 2, [], 0), (9, .invokestatic 126, [], 67082), (12, .ifCond .ne 6, [], 18), (15, .bipush (-2), [], 7), (17, .ireturn, [], 0), (18, .aload_n 0, [], 0), (19, .getfield 7, [], 576), (22, .iload_n 2, [], 0), (23, .iaload, [], 0), (24, .ifCond .ge 9, [], 33), (27, .aload_n 0, [], 0), (28, .iconst 1, [], 1), (29, .invokevirtual 132, [], 68389), (32, .ireturn, [], 0), (33, .aload_n 0, [], 0), (34, .getfield 13, [], 577), (37, .iload_n 2, [], 0), (38, .iaload, [], 0), (39, .aload_n 0, [], 0), (40, .getfield 22, [], 581), (43, .if_icmp .ge 12, [], 55), (46, .aload_n 0, [], 0), (47, .getfield 13, [], 577), (50, .iload_n 2, [], 0), (51, .iaload, [], 0), (52, .goto 7, [], 59), (55, .aload_n 0, [], 0), (56, .getfield 22, [], 581), (59, .istore_n 3, [], 0), (60, .iconst 0, [], 0), (61, .istore 4, [], 0), (63, .iload 4, [0, 0, 0, 0, 0], 0), (65, .iload_n 3, [], 0), (66, .if_icmp .ge 32, [], 98), (69, .aload_n 0, [], 0), (70, .getfield 16, [], 578), (73, .bipush 60, [], 39), (75, .iload_n 2, [], 0), (76, .imul, [], 0), (77, .iload 4, [], 0), (79, .iadd, [], 0), (80, .aload_n 0, [], 0), (81, .getfield 26, [], 582), (84, .iload_n 1, [], 0), (85, .iaload, [], 0), (86, .iload 4, [], 0), (88, .ishr, [], 0), (89, .iconst 1, [], 1), (90, .iand, [], 0), (91, .iastore, [], 0), (92, .iinc 4 1, [], 1), (95, .goto (-32), [], 63), (98, .iload_n 3, [], 0), (99, .ireturn, [], 0)]
def kc_Mod_count : List Ety := [(0, .iconst 0, [], 0), (1, .istore_n 2, [], 0), (2, .iload_n 1, [], 0), (3, .tableswitch 159 0 9 #[53, 58, 65, 94, 99, 108, 117, 122, 127, 132], [], 4), (56, .aload_n 0, [], 0), (57, .getfield 22, [], 581), (60, .ireturn, [], 0), (61, .aload_n 0, [], 0), (62, .invokevirtual 237, [], 87841), (65, .iconst 2, [], 3), (66, .idiv, [], 0), (67, .ireturn, [], 0), (68, .iconst 0, [], 0), (69, .istore_n 3, [], 0), (70, .iload_n 3, [0, 1, 0, 0], 0), (71, .aload_n 0, [], 0), (72, .getfield 22, [], 581), (75, .if_icmp .ge 20, [], 95), (78, .iload_n 2, [], 0), (79, .aload_n 0, [], 0), (80, .getfield 29, [], 583), (83, .iload_n 3, [], 0), (84, .iaload, [], 0), (85, .iload_n 3, [], 0), (86, .ishl, [], 0), (87, .ior, [], 0), (88, .istore_n 2, [], 0), (89, .iinc 3 1, [], 1), (92, .goto (-22), [], 70), (95, .iload_n 2, [], 0), (96, .ireturn, [], 0), (97, .aload_n 0, [], 0), (98, .getfield 240, [], 602), (101, .ireturn, [], 0), (102, .aload_n 0, [], 0), (103, .invokevirtual 307, [], 98592), (106, .aload_n 0, [], 0), (107, .getfield 304, [], 621), (110, .ireturn, [], 0), (111, .aload_n 0, [], 0), (112, .invokevirtual 251, [], 90912), (115, .aload_n 0, [], 0), (116, .invokevirtual 297, [], 96545), (119, .ireturn, [], 0), (120, .aload_n 0, [], 0), (121, .getfield 32, [], 584), (124, .ireturn, [], 0), (125, .aload_n 0, [], 0), (126, .getfield 35, [], 585), (129, .ireturn, [], 0), (130, .aload_n 0, [], 0), (131, .getfield 121, [], 580), (134, .ireturn, [], 0), (135, .iconst 0, [], 0), (136, .istore_n 3, [], 0), (137, .iload_n 3, [0, 1, 0, 0], 0), (138, .aload_n 0, [], 0), (139, .getfield 240, [], 602), (142, .if_icmp .ge 18, [], 160), (145, .iload_n 2, [], 0), (146, .aload_n 0, [], 0), (147, .getfield 109, [], 623), (150, .iload_n 3, [], 0), (151, .iaload, [], 0), (152, .iadd, [], 0), (153, .istore_n 2, [], 0), (154, .iinc 3 1, [], 1), (157, .goto (-20), [], 137), (160, .iload_n 2, [], 0), (161, .ireturn, [], 0), (162, .bipush (-2), [], 7), (164, .ireturn, [], 0)]
def kc_Mod_digest : List Ety := [(0, .ldc2_w 357, [], 11), (3, .lstore_n 1, [], 0), (4, .iconst 0, [], 0), (5, .istore_n 3, [], 0), (6, .iload_n 3, [0, 0, 1, 0, 1], 0), (7, .bipush 10, [], 41), (9, .if_icmp .ge 32, [], 41), (12, .iload_n 3, [], 0), (13, .bipush 8, [], 12), (15, .if_icmp .ne 7, [], 22), (18, .lload_n 1, [], 0), (19, .goto 15, [], 34), (22, .ldc2_w 359, [], 12), (25, .lload_n 1, [], 0), (26, .lmul, [], 0), (27, .aload_n 0, [], 0), (28, .iload_n 3, [], 0), (29, .invokevirtual 361, [], 109861), (32, .i2l, [], 0), (33, .ladd, [], 0), (34, .lstore_n 1, [], 0), (35, .iinc 3 1, [], 1), (38, .goto (-32), [], 6), (41, .aload_n 0, [], 0), (42, .bipush 10, [], 41), (44, .invokevirtual 225, [], 80164), (47, .iconst 0, [], 0), (48, .istore_n 3, [], 0), (49, .iload_n 3, [0, 0, 1, 0, 1], 0), (50, .aload_n 0, [], 0), (51, .getfield 22, [], 581), (54, .if_icmp .ge 78, [], 132), (57, .ldc2_w 359, [], 12), (60, .lload_n 1, [], 0), (61, .lmul, [], 0), (62, .aload_n 0, [], 0), (63, .iload_n 3, [], 0), (64, .invokevirtual 166, [], 76069), (67, .i2l, [], 0), (68, .ladd, [], 0), (69, .lstore_n 1, [], 0), (70, .ldc2_w 359, [], 12), (73, .lload_n 1, [], 0), (74, .lmul, [], 0), (75, .aload_n 0, [], 0), (76, .getfield 29, [], 583), (79, .iload_n 3, [], 0), (80, .iaload, [], 0), (81, .i2l, [], 0), (82, .ladd, [], 0), (83, .lstore_n 1, [], 0), (84, .ldc2_w 359, [], 12), (87, .lload_n 1, [], 0), (88, .lmul, [], 0), (89, .aload_n 0, [], 0), (90, .getfield 54, [], 594), (93, .iload_n 3, [], 0), (94, .laload, [], 0), (95, .aload_n 0, [], 0), (96, .getfield 212, [], 593), (99, .iconst 0, [], 0), (100, .invokestatic 228, [], 82963), (103, .ladd, [], 0), (104, .lstore_n 1, [], 0), (105, .ldc2_w 359, [], 12), (108, .lload_n 1, [], 0), (109, .lmul, [], 0), (110, .aload_n 0, [], 0), (111, .getfield 54, [], 594), (114, .iload_n 3, [], 0), (115, .laload, [], 0), (116, .aload_n 0, [], 0), (117, .getfield 212, [], 593), (120, .iconst 1, [], 1), (121, .invokestatic 228, [], 82963), (124, .ladd, [], 0), (125, .lstore_n 1, [], 0), (126, .iinc 3 1, [], 1), (129, .goto (-80), [], 49), (132, .ldc2_w 359, [], 12), (135, .lload_n 1, [], 0), (136, .lmul, [], 0), (137, .aload_n 0, [], 0), (138, .getfield 194, [], 598), (141, .aload_n 0, [], 0), (142, .getfield 212, [], 593), (145, .iconst 0, [], 0), (146, .invokestatic 228, [], 82963), (149, .ladd, [], 0), (150, .lstore_n 1, [], 0), (151, .ldc2_w 359, [], 12), (154, .lload_n 1, [], 0), (155, .lmul, [], 0), (156, .aload_n 0, [], 0), (157, .getfield 194, [], 598), (160, .aload_n 0, [], 0), (161, .getfield 212, [], 593), (164, .iconst 1, [], 1), (165, .invokestatic 228, [], 82963), (168, .ladd, [], 0), (169, .lstore_n 1, [], 0), (170, .aload_n 0, [], 0), (171, .invokevirtual 251, [], 90912), (174, .iconst 0, [], 0), (175, .istore_n 3, [], 0), (176, .iload_n 3, [0, 0, 1, 0, 1], 0), (177, .aload_n 0, [], 0), (178, .getfield 240, [], 602), (181, .if_icmp .ge 40, [], 221), (184, .iconst 0, [], 0), (185, .istore 4, [], 0), (187, .iload 4, [0, 0, 1, 0, 0], 0), (189, .bipush 8, [], 12), (191, .if_icmp .ge 24, [], 215), (194, .ldc2_w 359, [], 12), (197, .lload_n 1, [], 0), (198, .lmul, [], 0), (199, .aload_n 0, [], 0), (200, .iload_n 3, [], 0), (201, .iload 4, [], 0), (203, .invokevirtual 254, [], 91433), (206, .i2l, [], 0), (207, .ladd, [], 0), (208, .lstore_n 1, [], 0), (209, .iinc 4 1, [], 1), (212, .goto (-25), [], 187), (215, .iinc 3 1, [], 1), (218, .goto (-42), [], 176), (221, .iconst 0, [], 0), (222, .istore_n 3, [], 0), (223, .iload_n 3, [0, 0, 1, 0, 1], 0), (224, .bipush 6, [], 33), (226, .if_icmp .ge 26, [], 252), (229, .ldc2_w 359, [], 12), (232, .lload_n 1, [], 0), (233, .lmul, [], 0), (234, .aload_n 0, [], 0), (235, .iload_n 3, [], 0), (236, .iconst 2, [], 3), (237, .idiv, [], 0), (238, .iload_n 3, [], 0), (239, .iconst 2, [], 3), (240, .irem, [], 0), (241, .invokevirtual 293, [], 92458), (244, .ladd, [], 0), (245, .lstore_n 1, [], 0), (246, .iinc 3 1, [], 1), (249, .goto (-26), [], 223), (252, .ldc2_w 359, [], 12), (255, .lload_n 1, [], 0), (256, .lmul, [], 0), (257, .aload_n 0, [], 0), (258, .iconst 0, [], 0), (259, .invokevirtual 320, [], 98085), (262, .i2l, [], 0), (263, .ladd, [], 0), (264, .lstore_n 1, [], 0), (265, .ldc2_w 359, [], 12), (268, .lload_n 1, [], 0), (269, .lmul, [], 0), (270, .aload_n 0, [], 0), (271, .iconst 0, [], 0), (272, .invokevirtual 351, [], 107301), (275, .i2l, [], 0), (276, .ladd, [], 0), (277, .lstore_n 1, [], 0), (278, .ldc2_w 359, [], 12), (281, .lload_n 1, [], 0), (282, .lmul, [], 0), (283, .aload_n 0, [], 0), (284, .iconst 1, [], 1), (285, .invokevirtual 351, [], 107301), (288, .i2l, [], 0), (289, .ladd, [], 0), (290, .lstore_n 1, [], 0), (291, .iconst 0, [], 0), (292, .istore_n 3, [], 0), (293, .iload_n 3, [0, 0, 1, 0, 1], 0), (294, .iconst 3, [], 4), (295, .if_icmp .ge 21, [], 316), (298, .ldc2_w 359, [], 12), (301, .lload_n 1, [], 0), (302, .lmul, [], 0), (303, .aload_n 0, [], 0), (304, .iload_n 3, [], 0), (305, .invokevirtual 354, [], 108838), (308, .ladd, [], 0), (309, .lstore_n 1, [], 0), (310, .iinc 3 1, [], 1), (313, .goto (-20), [], 293), (316, .lload_n 1, [], 0), (317, .lreturn, [], 0)]
def xm_mt : List (Nat × Nat × List Ety) := [(0, 4, kc_Arr_fillI), (1, 3, kc_TO_persons), (0, 3, kc_Net_resize), (1, 1, kc_Net_everyone), (3, 2, kc_Net_holds), (1, 4, kc_TO_tie), (3, 3, kc_Net_tied), (0, 4, kc_Net_join), (1, 4, kc_TO_kind), (3, 1, kc_TO_isBit), (1, 2, kc_Net_kindOf), (0, 3, kc_Net_turn), (1, 6, kc_TO_read), (3, 2, kc_Sheets_holds), (3, 2, kc_Sheets_isLost), (1, 2, kc_Sheets_finding), (1, 3, kc_Sheets_item), (1, 3, kc_TO_about), (1, 2, kc_Net_degree), (1, 1, kc_Int_bitCount), (1, 3, kc_TO_far), (1, 4, kc_Net_distance), (1, 8, kc_Net_spread), (1, 4, kc_TO_set), (3, 3, kc_TO_isSetting), (3, 3, kc_TO_isUpTo), (1, 2, kc_TO_setting), (0, 4, kc_Records_look), (2, 3, kc_TO_found), (2, 1, kc_TO_refusal), (0, 6, kc_Chains_follow), (0, 3, kc_Chains_begin), (0, 5, kc_Arr_fillL), (1, 2, kc_Chains_place), (0, 9, kc_Chains_goOn), (2, 5, kc_Chains_holding), (2, 7, kc_TO_fraction), (2, 11, kc_TO_greatestCommon), (2, 4, kc_TO_both), (2, 3, kc_TO_size), (2, 5, kc_Chains_ofSize), (2, 3, kc_TO_kinds), (2, 5, kc_Chains_ofKind), (2, 3, kc_TO_within), (2, 5, kc_Chains_near), (3, 9, kc_Chains_isNear), (2, 6, kc_Chains_weight), (1, 1, kc_Net_kindOnes), (2, 4, kc_TO_at), (0, 5, kc_Walk_go), (0, 4, kc_Walk_step), (2, 3, kc_TO_lasting), (1, 4, kc_Net_degrees), (2, 3, kc_TO_strayed), (2, 6, kc_Walk_apart), (2, 1, kc_Walk_mostApart), (1, 7, kc_TO_came), (3, 2, kc_Records_holds), (3, 2, kc_Records_isNextDay), (1, 7, kc_Records_tell), (1, 3, kc_TO_takeBack), (0, 3, kc_Records_untell), (1, 3, kc_TO_record), (1, 3, kc_Records_detail), (2, 3, kc_TO_share), (2, 5, kc_Shares_taken), (3, 2, kc_Records_isTaken), (2, 5, kc_TO_part), (2, 7, kc_Shares_byTies), (3, 4, kc_Shares_tells), (2, 2, kc_Shares_byBringing), (0, 3, kc_Shares_countBringing), (2, 2, kc_Shares_pull), (2, 5, kc_Shares_telling), (2, 5, kc_TO_bounds), (2, 6, kc_Shares_rounded), (2, 4, kc_TO_leaving), (1, 5, kc_Shares_treeToLeave), (3, 3, kc_Shares_isLess), (1, 2, kc_TO_alike), (1, 4, kc_Records_likes), (1, 3, kc_Records_counting), (1, 9, kc_Deals_chance), (1, 4, kc_Deals_gather), (1, 5, kc_Deals_alikeIn), (1, 3, kc_Deals_following), (1, 1, kc_Int_lowestOneBit), (1, 2, kc_Int_numberOfTrailingZeros), (2, 3, kc_TO_forgot), (2, 7, kc_Shares_ofWave), (2, 7, kc_Shares_wholeWave), (1, 2, kc_TO_wave), (1, 4, kc_Records_inWave), (1, 3, kc_TO_type), (3, 1, kc_Marks_isSign), (1, 3, kc_Marks_append), (1, 3, kc_TO_wipe), (1, 3, kc_TO_clash), (3, 7, kc_Marks_differ), (1, 1, kc_TO_least), (1, 2, kc_Marks_tellApart), (0, 3, kc_Marks_gather), (1, 6, kc_Marks_apartForSure), (3, 6, kc_Marks_deal), (1, 2, kc_TO_ones), (1, 3, kc_Marks_personOf), (1, 2, kc_TO_reach), (1, 5, kc_Net_fewestReaching), (1, 2, kc_TO_parts), (1, 5, kc_Net_pieces), (1, 4, kc_Net_bridges), (2, 3, kc_TO_narrow), (1, 8, kc_Net_narrowest), (1, 4, kc_Net_leadingOut), (1, 4, kc_TO_sheet), (3, 1, kc_Sheets_isForm), (0, 4, kc_Sheets_renew), (1, 2, kc_TO_lose), (1, 6, kc_TO_lay), (1, 4, kc_Sheets_faultOf), (0, 4, kc_Sheets_put), (1, 5, kc_TO_get), (1, 6, kc_TO_copy), (3, 4, kc_Sheets_spans), (1, 5, kc_TO_write), (1, 2, kc_TO_count), (1, 3, kc_Marks_signsOfAll), (2, 4, kc_TO_digest), (2, 6, kc_TO_digestOfNet), (2, 7, kc_TO_digestOfRecords), (1, 5, kc_Mod_sheet), (3, 1, kc_Mod_isSheet), (3, 6, kc_Mod_in), (1, 2, kc_Mod_met), (1, 2, kc_Mod_lose), (1, 6, kc_Mod_lay), (1, 4, kc_Mod_lacks), (1, 2, kc_Mod_cut), (1, 4, kc_Mod_get), (1, 7, kc_Mod_copy), (1, 4, kc_Mod_persons), (1, 4, kc_Mod_tie), (3, 2, kc_Mod_isPerson), (1, 5, kc_Mod_ties), (1, 4, kc_Mod_kind), (3, 1, kc_Mod_isTwo), (1, 6, kc_Mod_read), (1, 3, kc_Mod_about), (1, 2, kc_Mod_degree), (1, 3, kc_Mod_bitsOf), (1, 4, kc_Mod_far), (1, 1, kc_Mod_everybody), (1, 8, kc_Mod_around), (1, 5, kc_Mod_set), (2, 3, kc_Mod_found), (2, 1, kc_Mod_no), (0, 5, kc_Mod_goesThrough), (0, 4, kc_Mod_stands), (0, 12, kc_Mod_takes), (2, 2, kc_Mod_countsBy), (1, 3, kc_Mod_kindOnes), (1, 2, kc_Mod_lowest), (2, 5, kc_Mod_part), (2, 10, kc_Mod_divisor), (2, 4, kc_Mod_both), (2, 3, kc_Mod_size), (2, 3, kc_Mod_kinds), (2, 3, kc_Mod_within), (2, 6, kc_Mod_at), (2, 7, kc_Mod_walks), (2, 3, kc_Mod_lasting), (1, 3, kc_Mod_degrees), (2, 10, kc_Mod_strayed), (1, 5, kc_Mod_came), (3, 2, kc_Mod_isRecord), (1, 3, kc_Mod_takeBack), (1, 3, kc_Mod_record), (0, 3, kc_Mod_findCounts), (1, 3, kc_Mod_recordOf), (2, 3, kc_Mod_share), (2, 3, kc_Mod_shareOf), (0, 2, kc_Mod_plainly), (3, 2, kc_Mod_isTaken), (0, 7, kc_Mod_byTies), (0, 10, kc_Mod_byBringing), (0, 3, kc_Mod_findBrought), (2, 4, kc_Mod_bounds), (2, 9, kc_Mod_leaving), (1, 3, kc_Mod_trees), (3, 21, kc_Mod_isLess), (1, 2, kc_Mod_alike), (1, 7, kc_Mod_alikeOf), (0, 2, kc_Mod_findWho), (1, 3, kc_Mod_kindBits), (1, 5, kc_Mod_likes), (1, 4, kc_Mod_millionths), (2, 14, kc_Mod_forgot), (1, 4, kc_Mod_wave), (1, 3, kc_Mod_type), (1, 3, kc_Mod_wipe), (1, 3, kc_Mod_clash), (3, 7, kc_Mod_clashes), (1, 1, kc_Mod_least), (1, 2, kc_Mod_leastNow), (3, 4, kc_Mod_isEnough), (3, 5, kc_Mod_canBe), (1, 2, kc_Mod_ones), (1, 5, kc_Mod_reach), (1, 2, kc_Mod_parts), (1, 5, kc_Mod_partsNow), (1, 4, kc_Mod_partsOf), (2, 2, kc_Mod_narrow), (2, 10, kc_Mod_narrowOf), (1, 5, kc_Mod_write), (1, 4, kc_Mod_count), (2, 5, kc_Mod_digest)]
def xm_nul : Nat → List Value
  | 0 => []
  | n + 1 => .null :: xm_nul n
def xm_lay : Nat → List Value → List Value
  | n, [] => xm_nul n
  | n, .long x :: r => .long x :: .null :: xm_lay (n - 2) r
  | n, .double x :: r => .double x :: .null :: xm_lay (n - 2) r
  | n, v :: r => v :: xm_lay (n - 1) r
/-- a call of a method, so many calls deep -/
noncomputable def xm_call : Nat → Nat → List Value → Sg → Oz
  | 0, _, _, _ => none
  | d + 1, M, as, σ => xm_so (xm_at xm_mt M) fun q => xm_tr (Nat.ble (xm_cat as) q.2.1) (xm_rn (xm_call d) q.1 q.2.2 0 (xm_lay q.2.1 as) [] σ)
end
section
/-! WHAT THE SMALL MACHINE SAYS HOLDS OF THE JVM: words for it -/
def sd_cv (ad : Nat → Nat) : Value → Value
  | .ref k => .ref (ad k)
  | v => v
theorem sd_cv_cat (ad : Nat → Nat) (v : Value) : (sd_cv ad v).category = v.category := by cases v <;> rfl
def sd_fs (ad : Nat → Nat) (σ : Sg) (b : Nat) : Nat → List Nat → List Value
  | _, [] => []
  | j, f :: r => sd_cv ad (xm_fv σ b j f) :: sd_fs ad σ b (j + 1) r
def sd_ce (ad : Nat → Nat) (cA : Nat → ClassId) (σ : Sg) (b : Nat) : Sh → va_E
  | .inl (0, n, _) => .inl (cA 0, n, .inl (σ.1 b))
  | .inl (1, n, _) => .inl (cA 1, n, .inr (.inl (σ.2 b)))
  | .inl (2, n, _) => .inl (cA 2, n, .inl (σ.1 b))
  | .inl (_ + 3, n, z) => .inl (cA 3, n, .inr (.inr (.inr (.inr (fun j => if j < n then some (ad (z + j)) else none)))))
  | .inr (ci, fs) => .inr (ci, sd_fs ad σ b 0 fs)
def sd_wl (ad : Nat → Nat) (cA : Nat → ClassId) (σ : Sg) : Nat → List Sh → va_W
  | _, [] => []
  | b, s :: r => (ad b, sd_ce ad cA σ b s) :: sd_wl ad cA σ (b + 1) r
def sd_w (ad : Nat → Nat) (cA : Nat → ClassId) (σ : Sg) : va_W := sd_wl ad cA σ 0 xm_sh
def sd_ty (cA : Nat → ClassId) : List (ClassId × FieldType) := [(cA 0, .int), (cA 1, .long), (cA 2, .boolean), (cA 3, .array .int)]
def sd_A (ad : Nat → Nat) : Nat → Prop := fun q => ∃ k, k < xm_sh.length ∧ q = ad k
def sd_inj (ad : Nat → Nat) : Prop := ∀ i j, i < xm_sh.length → j < xm_sh.length → ad i = ad j → i = j
theorem xm_at_eq {α : Type} : ∀ (l : List α) (k : Nat), xm_at l k = l[k]?
  | [], _ => rfl
  | _ :: _, 0 => rfl
  | _ :: l, k + 1 => by
    rw [List.getElem?_cons_succ]
    exact xm_at_eq l k
theorem xm_at_lt {α : Type} {l : List α} {k : Nat} {x : α} (h : xm_at l k = some x) : k < l.length := by
  rw [xm_at_eq] at h
  exact (List.getElem?_eq_some_iff.mp h).1
theorem sd_wl_at {ad : Nat → Nat} {cA : Nat → ClassId} {σ : Sg} : ∀ (sh : List Sh) (b k : Nat), (sd_wl ad cA σ b sh)[k]? = (xm_at sh k).map (fun s => (ad (b + k), sd_ce ad cA σ (b + k) s))
  | [], _, _ => rfl
  | _ :: _, _, 0 => rfl
  | s :: r, b, k + 1 => by
    show ((ad b, sd_ce ad cA σ b s) :: sd_wl ad cA σ (b + 1) r)[k + 1]? = _
    rw [List.getElem?_cons_succ, sd_wl_at r (b + 1) k, show b + 1 + k = b + (k + 1) by omega]
    rfl
theorem sd_w_at {ad : Nat → Nat} {cA : Nat → ClassId} {σ : Sg} {k : Nat} {s : Sh} (h : xm_at xm_sh k = some s) : (sd_w ad cA σ)[k]? = some (ad k, sd_ce ad cA σ k s) := by
  unfold sd_w
  rw [sd_wl_at, h, Nat.zero_add]
  rfl
theorem sd_fs_eq {ad : Nat → Nat} {σ τ : Sg} {b : Nat} (h1 : τ.1 b = σ.1 b) (h2 : τ.2 b = σ.2 b) : ∀ (fs : List Nat) (j : Nat), sd_fs ad τ b j fs = sd_fs ad σ b j fs
  | [], _ => rfl
  | f :: r, j => by
    show sd_cv ad (xm_fv τ b j f) :: _ = sd_cv ad (xm_fv σ b j f) :: _
    rw [sd_fs_eq h1 h2 r (j + 1)]
    congr 2
    match f with
    | 0 => show Value.int (τ.1 b j) = Value.int (σ.1 b j); rw [h1]
    | 1 => show Value.long (τ.2 b j) = Value.long (σ.2 b j); rw [h2]
    | _ + 2 => rfl
theorem sd_ce_eq {ad : Nat → Nat} {cA : Nat → ClassId} {σ τ : Sg} {b : Nat} (h1 : τ.1 b = σ.1 b) (h2 : τ.2 b = σ.2 b) (s : Sh) : sd_ce ad cA τ b s = sd_ce ad cA σ b s := by
  rcases s with ⟨y, n, z⟩ | ⟨ci, fs⟩
  · match y with
    | 0 => show (Sum.inl (cA 0, n, Sum.inl (τ.1 b)) : va_E) = Sum.inl (cA 0, n, Sum.inl (σ.1 b)); rw [h1]
    | 1 => show (Sum.inl (cA 1, n, Sum.inr (Sum.inl (τ.2 b))) : va_E) = Sum.inl (cA 1, n, Sum.inr (Sum.inl (σ.2 b))); rw [h2]
    | 2 => show (Sum.inl (cA 2, n, Sum.inl (τ.1 b)) : va_E) = Sum.inl (cA 2, n, Sum.inl (σ.1 b)); rw [h1]
    | _ + 3 => rfl
  · show (Sum.inr (ci, sd_fs ad τ b 0 fs) : va_E) = Sum.inr (ci, sd_fs ad σ b 0 fs)
    rw [sd_fs_eq h1 h2]
theorem sd_w_set {ad : Nat → Nat} {cA : Nat → ClassId} {σ τ : Sg} {k : Nat} {s : Sh} (hk : xm_at xm_sh k = some s) (h : ∀ c, c ≠ k → τ.1 c = σ.1 c ∧ τ.2 c = σ.2 c) : (sd_w ad cA σ).set k (ad k, sd_ce ad cA τ k s) = sd_w ad cA τ := by
  apply List.ext_getElem?
  intro j
  by_cases hj : j = k
  · subst hj
    rw [sd_w_at (σ := τ) hk, List.getElem?_set_self (List.getElem?_eq_some_iff.mp (sd_w_at (ad := ad) (cA := cA) (σ := σ) hk)).1]
  · rw [List.getElem?_set_ne (Ne.symm hj)]
    unfold sd_w
    rw [sd_wl_at, sd_wl_at, Nat.zero_add]
    cases xm_at xm_sh j with
    | none => rfl
    | some s' =>
      show some (ad j, sd_ce ad cA σ j s') = some (ad j, sd_ce ad cA τ j s')
      rw [sd_ce_eq (h j hj).1 (h j hj).2]
theorem sd_D {ad : Nat → Nat} (hi : sd_inj ad) (cA : Nat → ClassId) (σ : Sg) : va_D (sd_A ad) (sd_w ad cA σ) := by
  have key : ∀ (k : Nat) (q : Nat × va_E), (sd_w ad cA σ)[k]? = some q → k < xm_sh.length ∧ q.1 = ad k := by
    intro k q hq
    unfold sd_w at hq
    rw [sd_wl_at, Nat.zero_add] at hq
    cases hs : xm_at xm_sh k with
    | none => rw [hs] at hq; cases hq
    | some s => rw [hs] at hq; cases hq; exact ⟨xm_at_lt hs, rfl⟩
  refine ⟨fun i j x y hx hy hxy => ?_, fun k q hq => ?_⟩
  · obtain ⟨h1, h2⟩ := key i x hx
    obtain ⟨h3, h4⟩ := key j y hy
    exact hi i j h1 h3 (h2.symm.trans (hxy.trans h4))
  · obtain ⟨h1, h2⟩ := key k q hq
    exact ⟨k, h1, h2⟩
theorem sd_fs_at {ad : Nat → Nat} {σ : Sg} {b : Nat} : ∀ (fs : List Nat) (j k : Nat), (sd_fs ad σ b j fs)[k]? = (xm_at fs k).map (fun f => sd_cv ad (xm_fv σ b (j + k) f))
  | [], _, _ => rfl
  | _ :: _, _, 0 => rfl
  | f :: r, j, k + 1 => by
    show (sd_cv ad (xm_fv σ b j f) :: sd_fs ad σ b (j + 1) r)[k + 1]? = _
    rw [List.getElem?_cons_succ, sd_fs_at r (j + 1) k, show j + 1 + k = j + (k + 1) by omega]
    rfl
theorem sd_fs_len {ad : Nat → Nat} {σ : Sg} {b : Nat} : ∀ (fs : List Nat) (j : Nat), (sd_fs ad σ b j fs).length = fs.length
  | [], _ => rfl
  | _ :: r, j => congrArg Nat.succ (sd_fs_len r (j + 1))
theorem sd_sI_1 (σ : Sg) (b j : Nat) (x : Int32) : (xm_sI σ b j x).1 b = upd (σ.1 b) j x := if_pos rfl
theorem sd_sL_2 (σ : Sg) (b j : Nat) (x : Int64) : (xm_sL σ b j x).2 b = vp_updL (σ.2 b) j x := if_pos rfl
theorem sd_sI_ne {σ : Sg} {b j c : Nat} {x : Int32} (h : c ≠ b) : (xm_sI σ b j x).1 c = σ.1 c ∧ (xm_sI σ b j x).2 c = σ.2 c := ⟨if_neg h, rfl⟩
theorem sd_sL_ne {σ : Sg} {b j c : Nat} {x : Int64} (h : c ≠ b) : (xm_sL σ b j x).1 c = σ.1 c ∧ (xm_sL σ b j x).2 c = σ.2 c := ⟨rfl, if_neg h⟩
theorem sd_fs_put {ad : Nat → Nat} {σ τ : Sg} {b : Nat} {fs : List Nat} {k f : Nat} {v : Value} (hf : xm_at fs k = some f) (hv : sd_cv ad (xm_fv τ b k f) = v) (ho : ∀ j g, j ≠ k → xm_at fs j = some g → xm_fv τ b j g = xm_fv σ b j g) : (sd_fs ad σ b 0 fs).set k v = sd_fs ad τ b 0 fs := by
  apply List.ext_getElem?
  intro j
  rw [sd_fs_at, Nat.zero_add]
  by_cases hj : j = k
  · subst hj
    rw [List.getElem?_set_self (by rw [sd_fs_len]; exact xm_at_lt hf), hf, ← hv]
    rfl
  · rw [List.getElem?_set_ne (Ne.symm hj), sd_fs_at, Nat.zero_add]
    cases hg : xm_at fs j with
    | none => rfl
    | some g =>
      show some (sd_cv ad (xm_fv σ b j g)) = some (sd_cv ad (xm_fv τ b j g))
      rw [ho j g hj hg]
theorem sd_fs_putI {ad : Nat → Nat} {σ : Sg} {b : Nat} {fs : List Nat} {k : Nat} {x : Int32} (hf : xm_at fs k = some 0) : (sd_fs ad σ b 0 fs).set k (.int x) = sd_fs ad (xm_sI σ b k x) b 0 fs := by
  refine sd_fs_put hf ?_ ?_
  · show Value.int ((xm_sI σ b k x).1 b k) = _
    rw [sd_sI_1, upd, if_pos rfl]
  · intro j g hj _
    match g with
    | 0 => show Value.int ((xm_sI σ b k x).1 b j) = Value.int (σ.1 b j); rw [sd_sI_1, upd, if_neg hj]
    | 1 => rfl
    | _ + 2 => rfl
theorem sd_fs_putL {ad : Nat → Nat} {σ : Sg} {b : Nat} {fs : List Nat} {k : Nat} {x : Int64} (hf : xm_at fs k = some 1) : (sd_fs ad σ b 0 fs).set k (.long x) = sd_fs ad (xm_sL σ b k x) b 0 fs := by
  refine sd_fs_put hf ?_ ?_
  · show Value.long ((xm_sL σ b k x).2 b k) = _
    rw [sd_sL_2, vp_updL, if_pos rfl]
  · intro j g hj _
    match g with
    | 0 => rfl
    | 1 => show Value.long ((xm_sL σ b k x).2 b j) = Value.long (σ.2 b j); rw [sd_sL_2, vp_updL, if_neg hj]
    | _ + 2 => rfl
-- the locals
def sd_LR (ad : Nat → Nat) (ls : Array Slot) (nL : Nat) (xs : List Value) : Prop := ls.size = nL ∧ lv_wf ls ∧ ∀ i v, xm_nth xs i = v → v ≠ .null → ls[i]? = some (.val (sd_cv ad v))
def sd_prs (ad : Nat → Nat) (xs : List Value) : List (Nat × Value) := (List.range xs.length).filterMap (fun i => if xm_nth xs i = .null then none else some (i, sd_cv ad (xm_nth xs i)))
theorem sd_nth_lt : ∀ {xs : List Value} {i : Nat}, xm_nth xs i ≠ .null → i < xs.length
  | [], _, h => absurd rfl h
  | _ :: _, 0, _ => Nat.zero_lt_succ _
  | _ :: _, _ + 1, h => Nat.succ_lt_succ (sd_nth_lt h)
theorem sd_prs_mem {ad : Nat → Nat} {xs : List Value} {i : Nat} {v : Value} (h : xm_nth xs i = v) (hv : v ≠ .null) : (i, sd_cv ad v) ∈ sd_prs ad xs := by
  subst h
  exact List.mem_filterMap.mpr ⟨i, List.mem_range.mpr (sd_nth_lt hv), if_neg hv⟩
theorem sd_LR.lv {ad : Nat → Nat} {ls : Array Slot} {nL : Nat} {xs : List Value} (h : sd_LR ad ls nL xs) : lv_has ls nL (sd_prs ad xs) := by
  refine ⟨h.1, h.2.1, fun q hq => ?_⟩
  obtain ⟨i, -, hi⟩ := List.mem_filterMap.mp hq
  by_cases hn : xm_nth xs i = .null
  · rw [if_pos hn] at hi; cases hi
  · rw [if_neg hn] at hi
    cases hi
    exact h.2.2 i _ rfl hn
theorem sd_hd {a w : Value} (h : xm_hd a = w) (hw : w ≠ .null) : a = w ∧ w.category = 1 := by
  subst h
  cases a <;> first | exact ⟨rfl, rfl⟩ | exact absurd rfl hw
/-- what the new locals hold: the new value, or an old one that isn't the half of a long -/
theorem sd_st1 : ∀ (xs : List Value) (i : Nat) (v : Value) (j : Nat) (w : Value), xm_nth (xm_st1 xs i v) j = w → w ≠ .null → (j = i ∧ w = v) ∨ (j ≠ i ∧ xm_nth xs j = w ∧ (j + 1 = i → w.category = 1))
  | [], _, _, _, _, h, hw => absurd h.symm hw
  | _ :: l, 0, v, 0, w, h, hw => Or.inl ⟨rfl, h.symm⟩
  | _ :: l, 0, v, j + 1, w, h, hw => Or.inr ⟨by omega, h, by omega⟩
  | a :: l, n + 1, v, 0, w, h, hw => by
    refine Or.inr ⟨by omega, ?_⟩
    have h : xm_kh a n = w := h
    match n with
    | 0 => exact ⟨(sd_hd h hw).1, fun _ => (sd_hd h hw).2⟩
    | n + 1 => exact ⟨h, by omega⟩
  | a :: l, n + 1, v, j + 1, w, h, hw => by
    rcases sd_st1 l n v j w h hw with ⟨h1, h2⟩ | ⟨h1, h2, h3⟩
    · exact Or.inl ⟨by omega, h2⟩
    · exact Or.inr ⟨by omega, h2, fun e => h3 (by omega)⟩
theorem sd_st2 : ∀ (xs : List Value) (i : Nat) (v : Value) (j : Nat) (w : Value), xm_nth (xm_st2 xs i v) j = w → w ≠ .null → (j = i ∧ w = v) ∨ (j ≠ i ∧ j ≠ i + 1 ∧ xm_nth xs j = w ∧ (j + 1 = i → w.category = 1))
  | [], _, _, _, _, h, hw => absurd h.symm hw
  | _ :: l, 0, v, 0, w, h, hw => Or.inl ⟨rfl, h.symm⟩
  | _ :: [], 0, v, j + 1, w, h, hw => absurd h.symm hw
  | _ :: _ :: l, 0, v, 1, w, h, hw => absurd h.symm hw
  | _ :: _ :: l, 0, v, j + 2, w, h, hw => Or.inr ⟨by omega, by omega, h, by omega⟩
  | a :: l, n + 1, v, 0, w, h, hw => by
    refine Or.inr ⟨by omega, by omega, ?_⟩
    have h : xm_kh a n = w := h
    match n with
    | 0 => exact ⟨(sd_hd h hw).1, fun _ => (sd_hd h hw).2⟩
    | n + 1 => exact ⟨h, by omega⟩
  | a :: l, n + 1, v, j + 1, w, h, hw => by
    rcases sd_st2 l n v j w h hw with ⟨h1, h2⟩ | ⟨h1, h1', h2, h3⟩
    · exact Or.inl ⟨by omega, h2⟩
    · exact Or.inr ⟨by omega, by omega, h2, fun e => h3 (by omega)⟩
theorem sd_LR.st1 {ad : Nat → Nat} {ls' : Array Slot} {nL : Nat} {xs : List Value} {i : Nat} {v : Value} (h : lv_has ls' nL ((i, sd_cv ad v) :: (sd_prs ad xs).filter (fun q => !(q.1 == i) && !(q.1 + 1 == i && q.2.category == 2)))) : sd_LR ad ls' nL (xm_st1 xs i v) := by
  refine ⟨h.1, h.2.1, fun j w hj hw => ?_⟩
  rcases sd_st1 xs i v j w hj hw with ⟨rfl, rfl⟩ | ⟨h1, h2, h3⟩
  · exact h.2.2 _ List.mem_cons_self
  · refine h.2.2 (j, sd_cv ad w) (List.mem_cons_of_mem _ (List.mem_filter.mpr ⟨sd_prs_mem h2 hw, ?_⟩))
    by_cases e : j + 1 = i
    · have hc := (sd_cv_cat ad w).trans (h3 e)
      simp [h1, hc]
    · simp [h1, e]
theorem sd_LR.st2 {ad : Nat → Nat} {ls' : Array Slot} {nL : Nat} {xs : List Value} {i : Nat} {v : Value} (h : lv_has ls' nL ((i, sd_cv ad v) :: (sd_prs ad xs).filter (fun q => !(q.1 == i) && (!(q.1 == i + 1) && !(q.1 + 1 == i && q.2.category == 2))))) : sd_LR ad ls' nL (xm_st2 xs i v) := by
  refine ⟨h.1, h.2.1, fun j w hj hw => ?_⟩
  rcases sd_st2 xs i v j w hj hw with ⟨rfl, rfl⟩ | ⟨h1, h1', h2, h3⟩
  · exact h.2.2 _ List.mem_cons_self
  · refine h.2.2 (j, sd_cv ad w) (List.mem_cons_of_mem _ (List.mem_filter.mpr ⟨sd_prs_mem h2 hw, ?_⟩))
    by_cases e : j + 1 = i
    · have hc := (sd_cv_cat ad w).trans (h3 e)
      simp [h1, h1', hc]
    · simp [h1, h1', e]
theorem sd_msk_nth : ∀ (zk : List Nat) (xs : List Value) (j : Nat), xm_nth (xm_msk zk xs) j = .null ∨ xm_nth (xm_msk zk xs) j = xm_nth xs j
  | [], _, _ => Or.inr rfl
  | _ :: _, [], _ => Or.inr rfl
  | 0 :: _, _ :: _, 0 => Or.inr rfl
  | (_ + 1) :: _, _ :: _, 0 => Or.inl rfl
  | _ :: r, _ :: l, j + 1 => sd_msk_nth r l j
theorem sd_LR.msk {ad : Nat → Nat} {ls : Array Slot} {nL : Nat} {xs : List Value} (zk : List Nat) (h : sd_LR ad ls nL xs) : sd_LR ad ls nL (xm_msk zk xs) := by
  refine ⟨h.1, h.2.1, fun i v hi hv => ?_⟩
  rcases sd_msk_nth zk xs i with e | e
  · exact absurd (hi.symm.trans e) hv
  · exact h.2.2 i v (e.symm.trans hi) hv
-- what a step asked for was there
theorem iv_so {α : Type} {o : Option α} {k : α → Oz} {r : RV} (h : xm_so o k = some r) : ∃ x, o = some x ∧ k x = some r := by
  cases o with
  | none => cases h
  | some x => exact ⟨x, rfl, h⟩
theorem iv_tr {b : Bool} {k : Oz} {r : RV} (h : xm_tr b k = some r) : b = true ∧ k = some r := by
  cases b with
  | false => cases h
  | true => exact ⟨rfl, h⟩
theorem iv_vI {v : Value} {k : Int32 → Oz} {r : RV} (h : xm_vI v k = some r) : ∃ x, v = .int x ∧ k x = some r := by
  cases v <;> first | exact ⟨_, rfl, h⟩ | cases h
theorem iv_vL {v : Value} {k : Int64 → Oz} {r : RV} (h : xm_vL v k = some r) : ∃ x, v = .long x ∧ k x = some r := by
  cases v <;> first | exact ⟨_, rfl, h⟩ | cases h
theorem iv_vR {v : Value} {k : Nat → Oz} {r : RV} (h : xm_vR v k = some r) : ∃ x, v = .ref x ∧ k x = some r := by
  cases v <;> first | exact ⟨_, rfl, h⟩ | cases h
theorem iv_pop {st : List Value} {k : Value → List Value → Oz} {r : RV} (h : xm_pop st k = some r) : ∃ x q, st = x :: q ∧ k x q = some r := by
  cases st with
  | nil => cases h
  | cons x q => exact ⟨x, q, rfl, h⟩
theorem iv_pI {st : List Value} {k : Int32 → List Value → Oz} {r : RV} (h : xm_pI st k = some r) : ∃ x q, st = .int x :: q ∧ k x q = some r := by
  obtain ⟨v, q, e, h⟩ := iv_pop h
  obtain ⟨x, e2, h⟩ := iv_vI h
  exact ⟨x, q, by rw [e, e2], h⟩
theorem iv_pL {st : List Value} {k : Int64 → List Value → Oz} {r : RV} (h : xm_pL st k = some r) : ∃ x q, st = .long x :: q ∧ k x q = some r := by
  obtain ⟨v, q, e, h⟩ := iv_pop h
  obtain ⟨x, e2, h⟩ := iv_vL h
  exact ⟨x, q, by rw [e, e2], h⟩
theorem iv_pR {st : List Value} {k : Nat → List Value → Oz} {r : RV} (h : xm_pR st k = some r) : ∃ x q, st = .ref x :: q ∧ k x q = some r := by
  obtain ⟨v, q, e, h⟩ := iv_pop h
  obtain ⟨x, e2, h⟩ := iv_vR h
  exact ⟨x, q, by rw [e, e2], h⟩
theorem iv_ix {i : Int32} {n : Nat} {k : Nat → Oz} {r : RV} (h : xm_ix i n k = some r) : vp_in i n ∧ k i.toNatClampNeg = some r := by
  unfold xm_ix at h
  by_cases c : i < 0 ∨ n ≤ i.toNatClampNeg
  · rw [if_pos c] at h; cases h
  · rw [if_neg c] at h; exact ⟨c, h⟩
theorem iv_dv {y : Int32} {k : Oz} {r : RV} (h : xm_dv y k = some r) : ¬ y = 0 ∧ k = some r := by
  unfold xm_dv at h
  by_cases c : y = 0
  · rw [if_pos c] at h; cases h
  · rw [if_neg c] at h; exact ⟨c, h⟩
theorem iv_dvL {y : Int64} {k : Oz} {r : RV} (h : xm_dvL y k = some r) : ¬ y = 0 ∧ k = some r := by
  unfold xm_dvL at h
  by_cases c : y = 0
  · rw [if_pos c] at h; cases h
  · rw [if_neg c] at h; exact ⟨c, h⟩
theorem iv_bo {y : Int32} {k : Oz} {r : RV} (h : xm_bo y k = some r) : (y = 0 ∨ y = 1) ∧ k = some r := by
  unfold xm_bo at h
  by_cases c : y = 0 ∨ y = 1
  · rw [if_pos c] at h; exact ⟨c, h⟩
  · rw [if_neg c] at h; cases h
theorem iv_cp {sp dp n : Int32} {na nb : Nat} {k : Oz} {r : RV} (h : xm_cp sp dp n na nb k = some r) : (¬ sp < 0 ∧ ¬ dp < 0 ∧ ¬ n < 0 ∧ sp.toNatClampNeg + n.toNatClampNeg ≤ na ∧ dp.toNatClampNeg + n.toNatClampNeg ≤ nb) ∧ k = some r := by
  unfold xm_cp at h
  by_cases c : sp < 0 ∨ dp < 0 ∨ n < 0 ∨ na < sp.toNatClampNeg + n.toNatClampNeg ∨ nb < dp.toNatClampNeg + n.toNatClampNeg
  · rw [if_pos c] at h; cases h
  · rw [if_neg c] at h
    simp only [not_or, Nat.not_lt] at c
    exact ⟨c, h⟩
theorem iv_cV {o : Oz} {k : Sg → Oz} {r : RV} (h : xm_cV o k = some r) : ∃ s, o = some (none, s) ∧ k s = some r := by
  rcases o with _ | ⟨_ | v, s⟩
  · cases h
  · exact ⟨s, rfl, h⟩
  · cases h
theorem iv_cI {o : Oz} {k : Int32 → Sg → Oz} {r : RV} (h : xm_cI o k = some r) : ∃ x s, o = some (some (.int x), s) ∧ k x s = some r := by
  rcases o with _ | ⟨_ | v, s⟩
  · cases h
  · cases h
  · cases v <;> first | exact ⟨_, s, rfl, h⟩ | cases h
theorem iv_cL {o : Oz} {k : Int64 → Sg → Oz} {r : RV} (h : xm_cL o k = some r) : ∃ x s, o = some (some (.long x), s) ∧ k x s = some r := by
  rcases o with _ | ⟨_ | v, s⟩
  · cases h
  · cases h
  · cases v <;> first | exact ⟨_, s, rfl, h⟩ | cases h
theorem iv_ar {b ty : Nat} {k : Nat → Nat → Oz} {r : RV} (h : xm_ar b ty k = some r) : ∃ n z, xm_at xm_sh b = some (.inl (ty, n, z)) ∧ k n z = some r := by
  unfold xm_ar at h
  rcases hs : xm_at xm_sh b with _ | ⟨⟨y, n, z⟩ | _⟩ <;> rw [hs] at h
  · cases h
  · obtain ⟨e, h2⟩ := iv_tr h
    have := Nat.eq_of_beq_eq_true e
    subst this
    exact ⟨n, z, rfl, h2⟩
  · cases h
theorem iv_al {b : Nat} {k : Nat → Oz} {r : RV} (h : xm_al b k = some r) : ∃ y n z, xm_at xm_sh b = some (.inl (y, n, z)) ∧ k n = some r := by
  unfold xm_al at h
  rcases hs : xm_at xm_sh b with _ | ⟨⟨y, n, z⟩ | _⟩ <;> rw [hs] at h
  · cases h
  · exact ⟨y, n, z, rfl, h⟩
  · cases h
theorem iv_ty {b : Nat} {k : Nat → Nat → Oz} {r : RV} (h : xm_ty b k = some r) : ∃ y n z, xm_at xm_sh b = some (.inl (y, n, z)) ∧ k y n = some r := by
  unfold xm_ty at h
  rcases hs : xm_at xm_sh b with _ | ⟨⟨y, n, z⟩ | _⟩ <;> rw [hs] at h
  · cases h
  · exact ⟨y, n, z, rfl, h⟩
  · cases h
theorem iv_fl {b t : Nat} {k : Nat → Oz} {r : RV} (h : xm_fl b t k = some r) : ∃ fs f, xm_at xm_sh b = some (.inr (t / 64, fs)) ∧ xm_at fs (t % 64) = some f ∧ k f = some r := by
  unfold xm_fl at h
  rcases hs : xm_at xm_sh b with _ | ⟨_ | ⟨ci, fs⟩⟩ <;> rw [hs] at h
  · cases h
  · cases h
  · obtain ⟨e, h2⟩ := iv_tr h
    have := Nat.eq_of_beq_eq_true e
    subst this
    obtain ⟨f, e2, h3⟩ := iv_so h2
    exact ⟨fs, f, rfl, e2, h3⟩
theorem iv_ob {b ci : Nat} (h : xm_ob b ci = true) : ∃ fs, xm_at xm_sh b = some (.inr (ci, fs)) := by
  unfold xm_ob at h
  rcases hs : xm_at xm_sh b with _ | ⟨_ | ⟨c, fs⟩⟩ <;> rw [hs] at h
  · cases h
  · cases h
  · have := Nat.eq_of_beq_eq_true h
    subst this
    exact ⟨fs, rfl⟩
theorem iv_dup {v : Value} {k : Oz} {r : RV} (h : xm_dup v k = some r) : v.category = 1 ∧ k = some r := by
  cases v <;> first | exact ⟨rfl, h⟩ | cases h
theorem iv_tk : ∀ {n : Nat} {st acc as r : List Value}, xm_tk n st acc = some (as, r) → ∃ b : List Value, b.length = n ∧ st = b ++ r ∧ as = b.reverse ++ acc
  | 0, st, acc, as, r, h => by cases h; exact ⟨[], rfl, rfl, rfl⟩
  | n + 1, [], acc, as, r, h => by cases h
  | n + 1, v :: st, acc, as, r, h => by
    obtain ⟨b, h1, h2, h3⟩ := iv_tk (n := n) h
    exact ⟨v :: b, congrArg Nat.succ h1, by rw [h2]; rfl, by rw [h3, List.reverse_cons, List.append_assoc]; rfl⟩
theorem sd_cat (ad : Nat → Nat) : ∀ r : List Value, ((r.map (sd_cv ad)).map fun v => v.category).sum = xm_cat r
  | [] => rfl
  | v :: r => by
    rw [List.map_cons, List.map_cons, List.sum_cons, sd_cat ad r, sd_cv_cat]
    rfl
end
section
/-! the methods by number; the entries of the constant pools that their code uses, with the words that say what they are -/
abbrev MI : Type := MethodName × ByteArray × Nat × Option FieldType × Nat × Nat × Nat × Nat × List Ety
def mi_y (q : MI) : MethodName := q.1
def mi_b (q : MI) : ByteArray := q.2.1
def mi_L (q : MI) : Nat := q.2.2.1
def mi_r (q : MI) : Option FieldType := q.2.2.2.1
def mi_t (q : MI) : Nat := q.2.2.2.2.1
def mi_o (q : MI) : Nat := q.2.2.2.2.2.1
def mi_c (q : MI) : Nat := q.2.2.2.2.2.2.1
def mi_n (q : MI) : Nat := q.2.2.2.2.2.2.2.1
def mi_k (q : MI) : List Ety := q.2.2.2.2.2.2.2.2
def sd_ons : List String := ["java/util/Arrays", "ThroughOthers", "ThroughOthers$Net", "ThroughOthers$Sheets", "java/lang/Integer", "ThroughOthers$Records", "ThroughOthers$Chains", "ThroughOthers$Walk", "ThroughOthers$Shares", "ThroughOthers$Deals", "ThroughOthers$Marks", "ThroughOthersModel"]
def sd_on (o : Nat) : String := (xm_at sd_ons o).getD ""
def sd_cl (ci : Nat) : vw_C := (xm_at xm_cl ci).getD (R_0, T_0, 7)
def mi_Arr_fillI : MI := (⟨"java/util/Arrays", "fill", "([II)V"⟩, prog_15_method_103_code, 4, none, 0, 0, 99, 2, kc_Arr_fillI)
def mi_TO_persons : MI := (⟨"ThroughOthers", "persons", "(I)I"⟩, prog_1_method_2_code, 3, (some .int), 1, 1, 8, 1, kc_TO_persons)
def mi_Net_resize : MI := (⟨"ThroughOthers$Net", "resize", "(I)V"⟩, prog_5_method_8_code, 3, none, 0, 2, 3, 1, kc_Net_resize)
def mi_Net_everyone : MI := (⟨"ThroughOthers$Net", "everyone", "()I"⟩, prog_5_method_3_code, 1, (some .int), 1, 2, 3, 0, kc_Net_everyone)
def mi_Net_holds : MI := (⟨"ThroughOthers$Net", "holds", "(I)Z"⟩, prog_5_method_2_code, 2, (some .boolean), 3, 2, 3, 1, kc_Net_holds)
def mi_TO_tie : MI := (⟨"ThroughOthers", "tie", "(IIZ)I"⟩, prog_1_method_3_code, 4, (some .int), 1, 1, 8, 3, kc_TO_tie)
def mi_Net_tied : MI := (⟨"ThroughOthers$Net", "tied", "(II)Z"⟩, prog_5_method_4_code, 3, (some .boolean), 3, 2, 3, 2, kc_Net_tied)
def mi_Net_join : MI := (⟨"ThroughOthers$Net", "join", "(IIZ)V"⟩, prog_5_method_9_code, 4, none, 0, 2, 3, 3, kc_Net_join)
def mi_TO_kind : MI := (⟨"ThroughOthers", "kind", "(II)I"⟩, prog_1_method_4_code, 4, (some .int), 1, 1, 8, 2, kc_TO_kind)
def mi_TO_isBit : MI := (⟨"ThroughOthers", "isBit", "(I)Z"⟩, prog_1_method_46_code, 1, (some .boolean), 3, 1, 99, 1, kc_TO_isBit)
def mi_Net_kindOf : MI := (⟨"ThroughOthers$Net", "kindOf", "(I)I"⟩, prog_5_method_6_code, 2, (some .int), 1, 2, 3, 1, kc_Net_kindOf)
def mi_Net_turn : MI := (⟨"ThroughOthers$Net", "turn", "(II)V"⟩, prog_5_method_10_code, 3, none, 0, 2, 3, 2, kc_Net_turn)
def mi_TO_read : MI := (⟨"ThroughOthers", "read", "(II)I"⟩, prog_1_method_5_code, 6, (some .int), 1, 1, 8, 2, kc_TO_read)
def mi_Sheets_holds : MI := (⟨"ThroughOthers$Sheets", "holds", "(I)Z"⟩, prog_8_method_2_code, 2, (some .boolean), 3, 3, 6, 1, kc_Sheets_holds)
def mi_Sheets_isLost : MI := (⟨"ThroughOthers$Sheets", "isLost", "(I)Z"⟩, prog_8_method_4_code, 2, (some .boolean), 3, 3, 6, 1, kc_Sheets_isLost)
def mi_Sheets_finding : MI := (⟨"ThroughOthers$Sheets", "finding", "(I)I"⟩, prog_8_method_5_code, 2, (some .int), 1, 3, 6, 1, kc_Sheets_finding)
def mi_Sheets_item : MI := (⟨"ThroughOthers$Sheets", "item", "(II)I"⟩, prog_8_method_9_code, 3, (some .int), 1, 3, 6, 2, kc_Sheets_item)
def mi_TO_about : MI := (⟨"ThroughOthers", "about", "(II)I"⟩, prog_1_method_6_code, 3, (some .int), 1, 1, 8, 2, kc_TO_about)
def mi_Net_degree : MI := (⟨"ThroughOthers$Net", "degree", "(I)I"⟩, prog_5_method_5_code, 2, (some .int), 1, 2, 3, 1, kc_Net_degree)
def mi_Int_bitCount : MI := (⟨"java/lang/Integer", "bitCount", "(I)I"⟩, prog_12_method_49_code, 1, (some .int), 1, 4, 99, 1, kc_Int_bitCount)
def mi_TO_far : MI := (⟨"ThroughOthers", "far", "(II)I"⟩, prog_1_method_7_code, 3, (some .int), 1, 1, 8, 2, kc_TO_far)
def mi_Net_distance : MI := (⟨"ThroughOthers$Net", "distance", "(II)I"⟩, prog_5_method_14_code, 4, (some .int), 1, 2, 3, 2, kc_Net_distance)
def mi_Net_spread : MI := (⟨"ThroughOthers$Net", "spread", "(III)I"⟩, prog_5_method_13_code, 8, (some .int), 1, 2, 3, 3, kc_Net_spread)
def mi_TO_set : MI := (⟨"ThroughOthers", "set", "(II)I"⟩, prog_1_method_8_code, 4, (some .int), 1, 1, 8, 2, kc_TO_set)
def mi_TO_isSetting : MI := (⟨"ThroughOthers", "isSetting", "(II)Z"⟩, prog_1_method_44_code, 3, (some .boolean), 3, 1, 8, 2, kc_TO_isSetting)
def mi_TO_isUpTo : MI := (⟨"ThroughOthers", "isUpTo", "(III)Z"⟩, prog_1_method_47_code, 3, (some .boolean), 3, 1, 99, 3, kc_TO_isUpTo)
def mi_TO_setting : MI := (⟨"ThroughOthers", "setting", "(I)I"⟩, prog_1_method_45_code, 2, (some .int), 1, 1, 8, 1, kc_TO_setting)
def mi_Records_look : MI := (⟨"ThroughOthers$Records", "look", "(I)V"⟩, prog_6_method_6_code, 4, none, 0, 5, 4, 1, kc_Records_look)
def mi_TO_found : MI := (⟨"ThroughOthers", "found", "(II)J"⟩, prog_1_method_9_code, 3, (some .long), 2, 1, 8, 2, kc_TO_found)
def mi_TO_refusal : MI := (⟨"ThroughOthers", "refusal", "(I)J"⟩, prog_1_method_48_code, 1, (some .long), 2, 1, 99, 1, kc_TO_refusal)
def mi_Chains_follow : MI := (⟨"ThroughOthers$Chains", "follow", "(II)V"⟩, prog_2_method_2_code, 6, none, 0, 6, 0, 2, kc_Chains_follow)
def mi_Chains_begin : MI := (⟨"ThroughOthers$Chains", "begin", "(I)V"⟩, prog_2_method_3_code, 3, none, 0, 6, 0, 1, kc_Chains_begin)
def mi_Arr_fillL : MI := (⟨"java/util/Arrays", "fill", "([JJ)V"⟩, prog_15_method_101_code, 5, none, 0, 0, 99, 2, kc_Arr_fillL)
def mi_Chains_place : MI := (⟨"ThroughOthers$Chains", "place", "(II)I"⟩, prog_2_method_5_code, 2, (some .int), 1, 6, 99, 2, kc_Chains_place)
def mi_Chains_goOn : MI := (⟨"ThroughOthers$Chains", "goOn", "(III)V"⟩, prog_2_method_4_code, 9, none, 0, 6, 0, 3, kc_Chains_goOn)
def mi_Chains_holding : MI := (⟨"ThroughOthers$Chains", "holding", "(I)J"⟩, prog_2_method_6_code, 5, (some .long), 2, 6, 0, 1, kc_Chains_holding)
def mi_TO_fraction : MI := (⟨"ThroughOthers", "fraction", "(JJI)J"⟩, prog_1_method_50_code, 7, (some .long), 2, 1, 99, 3, kc_TO_fraction)
def mi_TO_greatestCommon : MI := (⟨"ThroughOthers", "greatestCommon", "(JJ)J"⟩, prog_1_method_51_code, 11, (some .long), 2, 1, 99, 2, kc_TO_greatestCommon)
def mi_TO_both : MI := (⟨"ThroughOthers", "both", "(III)J"⟩, prog_1_method_10_code, 4, (some .long), 2, 1, 8, 3, kc_TO_both)
def mi_TO_size : MI := (⟨"ThroughOthers", "size", "(II)J"⟩, prog_1_method_11_code, 3, (some .long), 2, 1, 8, 2, kc_TO_size)
def mi_Chains_ofSize : MI := (⟨"ThroughOthers$Chains", "ofSize", "(I)J"⟩, prog_2_method_7_code, 5, (some .long), 2, 6, 0, 1, kc_Chains_ofSize)
def mi_TO_kinds : MI := (⟨"ThroughOthers", "kinds", "(II)J"⟩, prog_1_method_12_code, 3, (some .long), 2, 1, 8, 2, kc_TO_kinds)
def mi_Chains_ofKind : MI := (⟨"ThroughOthers$Chains", "ofKind", "(I)J"⟩, prog_2_method_8_code, 5, (some .long), 2, 6, 0, 1, kc_Chains_ofKind)
def mi_TO_within : MI := (⟨"ThroughOthers", "within", "(II)J"⟩, prog_1_method_13_code, 3, (some .long), 2, 1, 8, 2, kc_TO_within)
def mi_Chains_near : MI := (⟨"ThroughOthers$Chains", "near", "(I)J"⟩, prog_2_method_9_code, 5, (some .long), 2, 6, 0, 1, kc_Chains_near)
def mi_Chains_isNear : MI := (⟨"ThroughOthers$Chains", "isNear", "(II)Z"⟩, prog_2_method_10_code, 9, (some .boolean), 3, 6, 0, 2, kc_Chains_isNear)
def mi_Chains_weight : MI := (⟨"ThroughOthers$Chains", "weight", "(I)J"⟩, prog_2_method_11_code, 6, (some .long), 2, 6, 0, 1, kc_Chains_weight)
def mi_Net_kindOnes : MI := (⟨"ThroughOthers$Net", "kindOnes", "()I"⟩, prog_5_method_7_code, 1, (some .int), 1, 2, 3, 0, kc_Net_kindOnes)
def mi_TO_at : MI := (⟨"ThroughOthers", "at", "(III)J"⟩, prog_1_method_14_code, 4, (some .long), 2, 1, 8, 3, kc_TO_at)
def mi_Walk_go : MI := (⟨"ThroughOthers$Walk", "go", "(II)V"⟩, prog_9_method_2_code, 5, none, 0, 7, 7, 2, kc_Walk_go)
def mi_Walk_step : MI := (⟨"ThroughOthers$Walk", "step", "()V"⟩, prog_9_method_3_code, 4, none, 0, 7, 7, 0, kc_Walk_step)
def mi_TO_lasting : MI := (⟨"ThroughOthers", "lasting", "(II)J"⟩, prog_1_method_15_code, 3, (some .long), 2, 1, 8, 2, kc_TO_lasting)
def mi_Net_degrees : MI := (⟨"ThroughOthers$Net", "degrees", "(I)I"⟩, prog_5_method_11_code, 4, (some .int), 1, 2, 3, 1, kc_Net_degrees)
def mi_TO_strayed : MI := (⟨"ThroughOthers", "strayed", "(II)J"⟩, prog_1_method_16_code, 3, (some .long), 2, 1, 8, 2, kc_TO_strayed)
def mi_Walk_apart : MI := (⟨"ThroughOthers$Walk", "apart", "()J"⟩, prog_9_method_4_code, 6, (some .long), 2, 7, 7, 0, kc_Walk_apart)
def mi_Walk_mostApart : MI := (⟨"ThroughOthers$Walk", "mostApart", "()J"⟩, prog_9_method_5_code, 1, (some .long), 2, 7, 7, 0, kc_Walk_mostApart)
def mi_TO_came : MI := (⟨"ThroughOthers", "came", "(IIII)I"⟩, prog_1_method_17_code, 7, (some .int), 1, 1, 8, 4, kc_TO_came)
def mi_Records_holds : MI := (⟨"ThroughOthers$Records", "holds", "(I)Z"⟩, prog_6_method_2_code, 2, (some .boolean), 3, 5, 4, 1, kc_Records_holds)
def mi_Records_isNextDay : MI := (⟨"ThroughOthers$Records", "isNextDay", "(I)Z"⟩, prog_6_method_3_code, 2, (some .boolean), 3, 5, 4, 1, kc_Records_isNextDay)
def mi_Records_tell : MI := (⟨"ThroughOthers$Records", "tell", "(IIII)I"⟩, prog_6_method_4_code, 7, (some .int), 1, 5, 4, 4, kc_Records_tell)
def mi_TO_takeBack : MI := (⟨"ThroughOthers", "takeBack", "(II)I"⟩, prog_1_method_18_code, 3, (some .int), 1, 1, 8, 2, kc_TO_takeBack)
def mi_Records_untell : MI := (⟨"ThroughOthers$Records", "untell", "(II)V"⟩, prog_6_method_5_code, 3, none, 0, 5, 4, 2, kc_Records_untell)
def mi_TO_record : MI := (⟨"ThroughOthers", "record", "(II)I"⟩, prog_1_method_19_code, 3, (some .int), 1, 1, 8, 2, kc_TO_record)
def mi_Records_detail : MI := (⟨"ThroughOthers$Records", "detail", "(II)I"⟩, prog_6_method_8_code, 3, (some .int), 1, 5, 4, 2, kc_Records_detail)
def mi_TO_share : MI := (⟨"ThroughOthers", "share", "(II)J"⟩, prog_1_method_20_code, 3, (some .long), 2, 1, 8, 2, kc_TO_share)
def mi_Shares_taken : MI := (⟨"ThroughOthers$Shares", "taken", "(I)J"⟩, prog_7_method_2_code, 5, (some .long), 2, 8, 5, 1, kc_Shares_taken)
def mi_Records_isTaken : MI := (⟨"ThroughOthers$Records", "isTaken", "(I)Z"⟩, prog_6_method_7_code, 2, (some .boolean), 3, 5, 4, 1, kc_Records_isTaken)
def mi_TO_part : MI := (⟨"ThroughOthers", "part", "(JJI)J"⟩, prog_1_method_49_code, 5, (some .long), 2, 1, 99, 3, kc_TO_part)
def mi_Shares_byTies : MI := (⟨"ThroughOthers$Shares", "byTies", "(II)J"⟩, prog_7_method_5_code, 7, (some .long), 2, 8, 5, 2, kc_Shares_byTies)
def mi_Shares_tells : MI := (⟨"ThroughOthers$Shares", "tells", "(II)Z"⟩, prog_7_method_3_code, 4, (some .boolean), 3, 8, 5, 2, kc_Shares_tells)
def mi_Shares_byBringing : MI := (⟨"ThroughOthers$Shares", "byBringing", "(I)J"⟩, prog_7_method_11_code, 2, (some .long), 2, 8, 5, 1, kc_Shares_byBringing)
def mi_Shares_countBringing : MI := (⟨"ThroughOthers$Shares", "countBringing", "()V"⟩, prog_7_method_9_code, 3, none, 0, 8, 5, 0, kc_Shares_countBringing)
def mi_Shares_pull : MI := (⟨"ThroughOthers$Shares", "pull", "(I)J"⟩, prog_7_method_10_code, 2, (some .long), 2, 8, 5, 1, kc_Shares_pull)
def mi_Shares_telling : MI := (⟨"ThroughOthers$Shares", "telling", "(I)J"⟩, prog_7_method_4_code, 5, (some .long), 2, 8, 5, 1, kc_Shares_telling)
def mi_TO_bounds : MI := (⟨"ThroughOthers", "bounds", "(III)J"⟩, prog_1_method_21_code, 5, (some .long), 2, 1, 8, 3, kc_TO_bounds)
def mi_Shares_rounded : MI := (⟨"ThroughOthers$Shares", "rounded", "(II)J"⟩, prog_7_method_6_code, 6, (some .long), 2, 8, 5, 2, kc_Shares_rounded)
def mi_TO_leaving : MI := (⟨"ThroughOthers", "leaving", "(II)J"⟩, prog_1_method_22_code, 4, (some .long), 2, 1, 8, 2, kc_TO_leaving)
def mi_Shares_treeToLeave : MI := (⟨"ThroughOthers$Shares", "treeToLeave", "(I)I"⟩, prog_7_method_7_code, 5, (some .int), 1, 8, 5, 1, kc_Shares_treeToLeave)
def mi_Shares_isLess : MI := (⟨"ThroughOthers$Shares", "isLess", "(II)Z"⟩, prog_7_method_8_code, 3, (some .boolean), 3, 8, 5, 2, kc_Shares_isLess)
def mi_TO_alike : MI := (⟨"ThroughOthers", "alike", "(I)I"⟩, prog_1_method_23_code, 2, (some .int), 1, 1, 8, 1, kc_TO_alike)
def mi_Records_likes : MI := (⟨"ThroughOthers$Records", "likes", "()I"⟩, prog_6_method_11_code, 4, (some .int), 1, 5, 4, 0, kc_Records_likes)
def mi_Records_counting : MI := (⟨"ThroughOthers$Records", "counting", "()I"⟩, prog_6_method_9_code, 3, (some .int), 1, 5, 4, 0, kc_Records_counting)
def mi_Deals_chance : MI := (⟨"ThroughOthers$Deals", "chance", "()I"⟩, prog_3_method_2_code, 9, (some .int), 1, 9, 1, 0, kc_Deals_chance)
def mi_Deals_gather : MI := (⟨"ThroughOthers$Deals", "gather", "()I"⟩, prog_3_method_3_code, 4, (some .int), 1, 9, 1, 0, kc_Deals_gather)
def mi_Deals_alikeIn : MI := (⟨"ThroughOthers$Deals", "alikeIn", "(I)I"⟩, prog_3_method_4_code, 5, (some .int), 1, 9, 1, 1, kc_Deals_alikeIn)
def mi_Deals_following : MI := (⟨"ThroughOthers$Deals", "following", "(I)I"⟩, prog_3_method_5_code, 3, (some .int), 1, 9, 99, 1, kc_Deals_following)
def mi_Int_lowestOneBit : MI := (⟨"java/lang/Integer", "lowestOneBit", "(I)I"⟩, prog_12_method_46_code, 1, (some .int), 1, 4, 99, 1, kc_Int_lowestOneBit)
def mi_Int_numberOfTrailingZeros : MI := (⟨"java/lang/Integer", "numberOfTrailingZeros", "(I)I"⟩, prog_12_method_48_code, 2, (some .int), 1, 4, 99, 1, kc_Int_numberOfTrailingZeros)
def mi_TO_forgot : MI := (⟨"ThroughOthers", "forgot", "(II)J"⟩, prog_1_method_24_code, 3, (some .long), 2, 1, 8, 2, kc_TO_forgot)
def mi_Shares_ofWave : MI := (⟨"ThroughOthers$Shares", "ofWave", "(I)J"⟩, prog_7_method_13_code, 7, (some .long), 2, 8, 5, 1, kc_Shares_ofWave)
def mi_Shares_wholeWave : MI := (⟨"ThroughOthers$Shares", "wholeWave", "(I)J"⟩, prog_7_method_12_code, 7, (some .long), 2, 8, 5, 1, kc_Shares_wholeWave)
def mi_TO_wave : MI := (⟨"ThroughOthers", "wave", "(I)I"⟩, prog_1_method_25_code, 2, (some .int), 1, 1, 8, 1, kc_TO_wave)
def mi_Records_inWave : MI := (⟨"ThroughOthers$Records", "inWave", "(I)I"⟩, prog_6_method_10_code, 4, (some .int), 1, 5, 4, 1, kc_Records_inWave)
def mi_TO_type : MI := (⟨"ThroughOthers", "type", "(II)I"⟩, prog_1_method_26_code, 3, (some .int), 1, 1, 8, 2, kc_TO_type)
def mi_Marks_isSign : MI := (⟨"ThroughOthers$Marks", "isSign", "(I)Z"⟩, prog_4_method_2_code, 1, (some .boolean), 3, 10, 99, 1, kc_Marks_isSign)
def mi_Marks_append : MI := (⟨"ThroughOthers$Marks", "append", "(II)I"⟩, prog_4_method_3_code, 3, (some .int), 1, 10, 2, 2, kc_Marks_append)
def mi_TO_wipe : MI := (⟨"ThroughOthers", "wipe", "(I)I"⟩, prog_1_method_27_code, 3, (some .int), 1, 1, 8, 1, kc_TO_wipe)
def mi_TO_clash : MI := (⟨"ThroughOthers", "clash", "(II)I"⟩, prog_1_method_28_code, 3, (some .int), 1, 1, 8, 2, kc_TO_clash)
def mi_Marks_differ : MI := (⟨"ThroughOthers$Marks", "differ", "(II)Z"⟩, prog_4_method_5_code, 7, (some .boolean), 3, 10, 2, 2, kc_Marks_differ)
def mi_TO_least : MI := (⟨"ThroughOthers", "least", "()I"⟩, prog_1_method_29_code, 1, (some .int), 1, 1, 8, 0, kc_TO_least)
def mi_Marks_tellApart : MI := (⟨"ThroughOthers$Marks", "tellApart", "()I"⟩, prog_4_method_6_code, 2, (some .int), 1, 10, 2, 0, kc_Marks_tellApart)
def mi_Marks_gather : MI := (⟨"ThroughOthers$Marks", "gather", "()V"⟩, prog_4_method_8_code, 3, none, 0, 10, 2, 0, kc_Marks_gather)
def mi_Marks_apartForSure : MI := (⟨"ThroughOthers$Marks", "apartForSure", "()I"⟩, prog_4_method_7_code, 6, (some .int), 1, 10, 2, 0, kc_Marks_apartForSure)
def mi_Marks_deal : MI := (⟨"ThroughOthers$Marks", "deal", "(III)Z"⟩, prog_4_method_9_code, 6, (some .boolean), 3, 10, 2, 3, kc_Marks_deal)
def mi_TO_ones : MI := (⟨"ThroughOthers", "ones", "(I)I"⟩, prog_1_method_30_code, 2, (some .int), 1, 1, 8, 1, kc_TO_ones)
def mi_Marks_personOf : MI := (⟨"ThroughOthers$Marks", "personOf", "(I)I"⟩, prog_4_method_10_code, 3, (some .int), 1, 10, 2, 1, kc_Marks_personOf)
def mi_TO_reach : MI := (⟨"ThroughOthers", "reach", "(I)I"⟩, prog_1_method_31_code, 2, (some .int), 1, 1, 8, 1, kc_TO_reach)
def mi_Net_fewestReaching : MI := (⟨"ThroughOthers$Net", "fewestReaching", "(I)I"⟩, prog_5_method_17_code, 5, (some .int), 1, 2, 3, 1, kc_Net_fewestReaching)
def mi_TO_parts : MI := (⟨"ThroughOthers", "parts", "(I)I"⟩, prog_1_method_32_code, 2, (some .int), 1, 1, 8, 1, kc_TO_parts)
def mi_Net_pieces : MI := (⟨"ThroughOthers$Net", "pieces", "(I)I"⟩, prog_5_method_15_code, 5, (some .int), 1, 2, 3, 1, kc_Net_pieces)
def mi_Net_bridges : MI := (⟨"ThroughOthers$Net", "bridges", "()I"⟩, prog_5_method_16_code, 4, (some .int), 1, 2, 3, 0, kc_Net_bridges)
def mi_TO_narrow : MI := (⟨"ThroughOthers", "narrow", "(I)J"⟩, prog_1_method_33_code, 3, (some .long), 2, 1, 8, 1, kc_TO_narrow)
def mi_Net_narrowest : MI := (⟨"ThroughOthers$Net", "narrowest", "()I"⟩, prog_5_method_18_code, 8, (some .int), 1, 2, 3, 0, kc_Net_narrowest)
def mi_Net_leadingOut : MI := (⟨"ThroughOthers$Net", "leadingOut", "(I)I"⟩, prog_5_method_12_code, 4, (some .int), 1, 2, 3, 1, kc_Net_leadingOut)
def mi_TO_sheet : MI := (⟨"ThroughOthers", "sheet", "(III)I"⟩, prog_1_method_34_code, 4, (some .int), 1, 1, 8, 3, kc_TO_sheet)
def mi_Sheets_isForm : MI := (⟨"ThroughOthers$Sheets", "isForm", "(I)Z"⟩, prog_8_method_3_code, 1, (some .boolean), 3, 3, 99, 1, kc_Sheets_isForm)
def mi_Sheets_renew : MI := (⟨"ThroughOthers$Sheets", "renew", "(III)V"⟩, prog_8_method_6_code, 4, none, 0, 3, 6, 3, kc_Sheets_renew)
def mi_TO_lose : MI := (⟨"ThroughOthers", "lose", "(I)I"⟩, prog_1_method_35_code, 2, (some .int), 1, 1, 8, 1, kc_TO_lose)
def mi_TO_lay : MI := (⟨"ThroughOthers", "lay", "(IIII)I"⟩, prog_1_method_36_code, 6, (some .int), 1, 1, 8, 4, kc_TO_lay)
def mi_Sheets_faultOf : MI := (⟨"ThroughOthers$Sheets", "faultOf", "(III)I"⟩, prog_8_method_7_code, 4, (some .int), 1, 3, 6, 3, kc_Sheets_faultOf)
def mi_Sheets_put : MI := (⟨"ThroughOthers$Sheets", "put", "(III)V"⟩, prog_8_method_10_code, 4, none, 0, 3, 6, 3, kc_Sheets_put)
def mi_TO_get : MI := (⟨"ThroughOthers", "get", "(III)I"⟩, prog_1_method_37_code, 5, (some .int), 1, 1, 8, 3, kc_TO_get)
def mi_TO_copy : MI := (⟨"ThroughOthers", "copy", "(IIIII)I"⟩, prog_1_method_38_code, 6, (some .int), 1, 1, 8, 5, kc_TO_copy)
def mi_Sheets_spans : MI := (⟨"ThroughOthers$Sheets", "spans", "(III)Z"⟩, prog_8_method_8_code, 4, (some .boolean), 3, 3, 6, 3, kc_Sheets_spans)
def mi_TO_write : MI := (⟨"ThroughOthers", "write", "(II)I"⟩, prog_1_method_39_code, 5, (some .int), 1, 1, 8, 2, kc_TO_write)
def mi_TO_count : MI := (⟨"ThroughOthers", "count", "(I)I"⟩, prog_1_method_40_code, 2, (some .int), 1, 1, 8, 1, kc_TO_count)
def mi_Marks_signsOfAll : MI := (⟨"ThroughOthers$Marks", "signsOfAll", "()I"⟩, prog_4_method_4_code, 3, (some .int), 1, 10, 2, 0, kc_Marks_signsOfAll)
def mi_TO_digest : MI := (⟨"ThroughOthers", "digest", "()J"⟩, prog_1_method_41_code, 4, (some .long), 2, 1, 8, 0, kc_TO_digest)
def mi_TO_digestOfNet : MI := (⟨"ThroughOthers", "digestOfNet", "(J)J"⟩, prog_1_method_42_code, 6, (some .long), 2, 1, 8, 1, kc_TO_digestOfNet)
def mi_TO_digestOfRecords : MI := (⟨"ThroughOthers", "digestOfRecords", "(J)J"⟩, prog_1_method_43_code, 7, (some .long), 2, 1, 8, 1, kc_TO_digestOfRecords)
def mi_Mod_sheet : MI := (⟨"ThroughOthersModel", "sheet", "(III)I"⟩, prog_11_method_8_code, 5, (some .int), 1, 11, 9, 3, kc_Mod_sheet)
def mi_Mod_isSheet : MI := (⟨"ThroughOthersModel", "isSheet", "(I)Z"⟩, prog_11_method_7_code, 1, (some .boolean), 3, 11, 99, 1, kc_Mod_isSheet)
def mi_Mod_in : MI := (⟨"ThroughOthersModel", "in", "(JJJ)Z"⟩, prog_11_method_3_code, 6, (some .boolean), 3, 11, 99, 3, kc_Mod_in)
def mi_Mod_met : MI := (⟨"ThroughOthersModel", "met", "(I)I"⟩, prog_11_method_6_code, 2, (some .int), 1, 11, 9, 1, kc_Mod_met)
def mi_Mod_lose : MI := (⟨"ThroughOthersModel", "lose", "(I)I"⟩, prog_11_method_9_code, 2, (some .int), 1, 11, 9, 1, kc_Mod_lose)
def mi_Mod_lay : MI := (⟨"ThroughOthersModel", "lay", "(IIII)I"⟩, prog_11_method_12_code, 6, (some .int), 1, 11, 9, 4, kc_Mod_lay)
def mi_Mod_lacks : MI := (⟨"ThroughOthersModel", "lacks", "(III)I"⟩, prog_11_method_10_code, 4, (some .int), 1, 11, 9, 3, kc_Mod_lacks)
def mi_Mod_cut : MI := (⟨"ThroughOthersModel", "cut", "(II)I"⟩, prog_11_method_11_code, 2, (some .int), 1, 11, 99, 2, kc_Mod_cut)
def mi_Mod_get : MI := (⟨"ThroughOthersModel", "get", "(III)I"⟩, prog_11_method_13_code, 4, (some .int), 1, 11, 9, 3, kc_Mod_get)
def mi_Mod_copy : MI := (⟨"ThroughOthersModel", "copy", "(IIIII)I"⟩, prog_11_method_14_code, 7, (some .int), 1, 11, 9, 5, kc_Mod_copy)
def mi_Mod_persons : MI := (⟨"ThroughOthersModel", "persons", "(I)I"⟩, prog_11_method_21_code, 4, (some .int), 1, 11, 9, 1, kc_Mod_persons)
def mi_Mod_tie : MI := (⟨"ThroughOthersModel", "tie", "(IIZ)I"⟩, prog_11_method_23_code, 4, (some .int), 1, 11, 9, 3, kc_Mod_tie)
def mi_Mod_isPerson : MI := (⟨"ThroughOthersModel", "isPerson", "(I)Z"⟩, prog_11_method_20_code, 2, (some .boolean), 3, 11, 9, 1, kc_Mod_isPerson)
def mi_Mod_ties : MI := (⟨"ThroughOthersModel", "ties", "(IIZ)I"⟩, prog_11_method_22_code, 5, (some .int), 1, 11, 9, 3, kc_Mod_ties)
def mi_Mod_kind : MI := (⟨"ThroughOthersModel", "kind", "(II)I"⟩, prog_11_method_24_code, 4, (some .int), 1, 11, 9, 2, kc_Mod_kind)
def mi_Mod_isTwo : MI := (⟨"ThroughOthersModel", "isTwo", "(I)Z"⟩, prog_11_method_5_code, 1, (some .boolean), 3, 11, 99, 1, kc_Mod_isTwo)
def mi_Mod_read : MI := (⟨"ThroughOthersModel", "read", "(II)I"⟩, prog_11_method_25_code, 6, (some .int), 1, 11, 9, 2, kc_Mod_read)
def mi_Mod_about : MI := (⟨"ThroughOthersModel", "about", "(II)I"⟩, prog_11_method_28_code, 3, (some .int), 1, 11, 9, 2, kc_Mod_about)
def mi_Mod_degree : MI := (⟨"ThroughOthersModel", "degree", "(I)I"⟩, prog_11_method_26_code, 2, (some .int), 1, 11, 9, 1, kc_Mod_degree)
def mi_Mod_bitsOf : MI := (⟨"ThroughOthersModel", "bitsOf", "(I)I"⟩, prog_11_method_19_code, 3, (some .int), 1, 11, 99, 1, kc_Mod_bitsOf)
def mi_Mod_far : MI := (⟨"ThroughOthersModel", "far", "(II)I"⟩, prog_11_method_31_code, 4, (some .int), 1, 11, 9, 2, kc_Mod_far)
def mi_Mod_everybody : MI := (⟨"ThroughOthersModel", "everybody", "()I"⟩, prog_11_method_30_code, 1, (some .int), 1, 11, 9, 0, kc_Mod_everybody)
def mi_Mod_around : MI := (⟨"ThroughOthersModel", "around", "(III)I"⟩, prog_11_method_29_code, 8, (some .int), 1, 11, 9, 3, kc_Mod_around)
def mi_Mod_set : MI := (⟨"ThroughOthersModel", "set", "(II)I"⟩, prog_11_method_32_code, 5, (some .int), 1, 11, 9, 2, kc_Mod_set)
def mi_Mod_found : MI := (⟨"ThroughOthersModel", "found", "(II)J"⟩, prog_11_method_39_code, 3, (some .long), 2, 11, 9, 2, kc_Mod_found)
def mi_Mod_no : MI := (⟨"ThroughOthersModel", "no", "(I)J"⟩, prog_11_method_4_code, 1, (some .long), 2, 11, 99, 1, kc_Mod_no)
def mi_Mod_goesThrough : MI := (⟨"ThroughOthersModel", "goesThrough", "(I)V"⟩, prog_11_method_38_code, 5, none, 0, 11, 9, 1, kc_Mod_goesThrough)
def mi_Mod_stands : MI := (⟨"ThroughOthersModel", "stands", "(I)V"⟩, prog_11_method_36_code, 4, none, 0, 11, 9, 1, kc_Mod_stands)
def mi_Mod_takes : MI := (⟨"ThroughOthersModel", "takes", "(IJ)V"⟩, prog_11_method_35_code, 12, none, 0, 11, 9, 2, kc_Mod_takes)
def mi_Mod_countsBy : MI := (⟨"ThroughOthersModel", "countsBy", "(I)J"⟩, prog_11_method_33_code, 2, (some .long), 2, 11, 9, 1, kc_Mod_countsBy)
def mi_Mod_kindOnes : MI := (⟨"ThroughOthersModel", "kindOnes", "()I"⟩, prog_11_method_34_code, 3, (some .int), 1, 11, 9, 0, kc_Mod_kindOnes)
def mi_Mod_lowest : MI := (⟨"ThroughOthersModel", "lowest", "(I)I"⟩, prog_11_method_37_code, 2, (some .int), 1, 11, 99, 1, kc_Mod_lowest)
def mi_Mod_part : MI := (⟨"ThroughOthersModel", "part", "(JJI)J"⟩, prog_11_method_16_code, 5, (some .long), 2, 11, 99, 3, kc_Mod_part)
def mi_Mod_divisor : MI := (⟨"ThroughOthersModel", "divisor", "(JJ)J"⟩, prog_11_method_15_code, 10, (some .long), 2, 11, 99, 2, kc_Mod_divisor)
def mi_Mod_both : MI := (⟨"ThroughOthersModel", "both", "(III)J"⟩, prog_11_method_40_code, 4, (some .long), 2, 11, 9, 3, kc_Mod_both)
def mi_Mod_size : MI := (⟨"ThroughOthersModel", "size", "(II)J"⟩, prog_11_method_41_code, 3, (some .long), 2, 11, 9, 2, kc_Mod_size)
def mi_Mod_kinds : MI := (⟨"ThroughOthersModel", "kinds", "(II)J"⟩, prog_11_method_42_code, 3, (some .long), 2, 11, 9, 2, kc_Mod_kinds)
def mi_Mod_within : MI := (⟨"ThroughOthersModel", "within", "(II)J"⟩, prog_11_method_43_code, 3, (some .long), 2, 11, 9, 2, kc_Mod_within)
def mi_Mod_at : MI := (⟨"ThroughOthersModel", "at", "(III)J"⟩, prog_11_method_45_code, 6, (some .long), 2, 11, 9, 3, kc_Mod_at)
def mi_Mod_walks : MI := (⟨"ThroughOthersModel", "walks", "(I)J"⟩, prog_11_method_44_code, 7, (some .long), 2, 11, 9, 1, kc_Mod_walks)
def mi_Mod_lasting : MI := (⟨"ThroughOthersModel", "lasting", "(II)J"⟩, prog_11_method_46_code, 3, (some .long), 2, 11, 9, 2, kc_Mod_lasting)
def mi_Mod_degrees : MI := (⟨"ThroughOthersModel", "degrees", "()I"⟩, prog_11_method_27_code, 3, (some .int), 1, 11, 9, 0, kc_Mod_degrees)
def mi_Mod_strayed : MI := (⟨"ThroughOthersModel", "strayed", "(II)J"⟩, prog_11_method_47_code, 10, (some .long), 2, 11, 9, 2, kc_Mod_strayed)
def mi_Mod_came : MI := (⟨"ThroughOthersModel", "came", "(IIII)I"⟩, prog_11_method_49_code, 5, (some .int), 1, 11, 9, 4, kc_Mod_came)
def mi_Mod_isRecord : MI := (⟨"ThroughOthersModel", "isRecord", "(I)Z"⟩, prog_11_method_48_code, 2, (some .boolean), 3, 11, 9, 1, kc_Mod_isRecord)
def mi_Mod_takeBack : MI := (⟨"ThroughOthersModel", "takeBack", "(II)I"⟩, prog_11_method_50_code, 3, (some .int), 1, 11, 9, 2, kc_Mod_takeBack)
def mi_Mod_record : MI := (⟨"ThroughOthersModel", "record", "(II)I"⟩, prog_11_method_54_code, 3, (some .int), 1, 11, 9, 2, kc_Mod_record)
def mi_Mod_findCounts : MI := (⟨"ThroughOthersModel", "findCounts", "()V"⟩, prog_11_method_51_code, 3, none, 0, 11, 9, 0, kc_Mod_findCounts)
def mi_Mod_recordOf : MI := (⟨"ThroughOthersModel", "recordOf", "(II)I"⟩, prog_11_method_53_code, 3, (some .int), 1, 11, 9, 2, kc_Mod_recordOf)
def mi_Mod_share : MI := (⟨"ThroughOthersModel", "share", "(II)J"⟩, prog_11_method_60_code, 3, (some .long), 2, 11, 9, 2, kc_Mod_share)
def mi_Mod_shareOf : MI := (⟨"ThroughOthersModel", "shareOf", "(II)J"⟩, prog_11_method_59_code, 3, (some .long), 2, 11, 9, 2, kc_Mod_shareOf)
def mi_Mod_plainly : MI := (⟨"ThroughOthersModel", "plainly", "()V"⟩, prog_11_method_58_code, 2, none, 0, 11, 9, 0, kc_Mod_plainly)
def mi_Mod_isTaken : MI := (⟨"ThroughOthersModel", "isTaken", "(I)Z"⟩, prog_11_method_52_code, 2, (some .boolean), 3, 11, 9, 1, kc_Mod_isTaken)
def mi_Mod_byTies : MI := (⟨"ThroughOthersModel", "byTies", "(II)V"⟩, prog_11_method_55_code, 7, none, 0, 11, 9, 2, kc_Mod_byTies)
def mi_Mod_byBringing : MI := (⟨"ThroughOthersModel", "byBringing", "()V"⟩, prog_11_method_57_code, 10, none, 0, 11, 9, 0, kc_Mod_byBringing)
def mi_Mod_findBrought : MI := (⟨"ThroughOthersModel", "findBrought", "()V"⟩, prog_11_method_56_code, 3, none, 0, 11, 9, 0, kc_Mod_findBrought)
def mi_Mod_bounds : MI := (⟨"ThroughOthersModel", "bounds", "(III)J"⟩, prog_11_method_61_code, 4, (some .long), 2, 11, 9, 3, kc_Mod_bounds)
def mi_Mod_leaving : MI := (⟨"ThroughOthersModel", "leaving", "(II)J"⟩, prog_11_method_63_code, 9, (some .long), 2, 11, 9, 2, kc_Mod_leaving)
def mi_Mod_trees : MI := (⟨"ThroughOthersModel", "trees", "()I"⟩, prog_11_method_62_code, 3, (some .int), 1, 11, 9, 0, kc_Mod_trees)
def mi_Mod_isLess : MI := (⟨"ThroughOthersModel", "isLess", "(JJJJ)Z"⟩, prog_11_method_18_code, 21, (some .boolean), 3, 11, 99, 4, kc_Mod_isLess)
def mi_Mod_alike : MI := (⟨"ThroughOthersModel", "alike", "(I)I"⟩, prog_11_method_68_code, 2, (some .int), 1, 11, 9, 1, kc_Mod_alike)
def mi_Mod_alikeOf : MI := (⟨"ThroughOthersModel", "alikeOf", "(I)I"⟩, prog_11_method_67_code, 7, (some .int), 1, 11, 9, 1, kc_Mod_alikeOf)
def mi_Mod_findWho : MI := (⟨"ThroughOthersModel", "findWho", "()V"⟩, prog_11_method_64_code, 2, none, 0, 11, 9, 0, kc_Mod_findWho)
def mi_Mod_kindBits : MI := (⟨"ThroughOthersModel", "kindBits", "()I"⟩, prog_11_method_66_code, 3, (some .int), 1, 11, 9, 0, kc_Mod_kindBits)
def mi_Mod_likes : MI := (⟨"ThroughOthersModel", "likes", "(I)I"⟩, prog_11_method_65_code, 5, (some .int), 1, 11, 9, 1, kc_Mod_likes)
def mi_Mod_millionths : MI := (⟨"ThroughOthersModel", "millionths", "(JJ)I"⟩, prog_11_method_17_code, 4, (some .int), 1, 11, 99, 2, kc_Mod_millionths)
def mi_Mod_forgot : MI := (⟨"ThroughOthersModel", "forgot", "(II)J"⟩, prog_11_method_69_code, 14, (some .long), 2, 11, 9, 2, kc_Mod_forgot)
def mi_Mod_wave : MI := (⟨"ThroughOthersModel", "wave", "(I)I"⟩, prog_11_method_70_code, 4, (some .int), 1, 11, 9, 1, kc_Mod_wave)
def mi_Mod_type : MI := (⟨"ThroughOthersModel", "type", "(II)I"⟩, prog_11_method_71_code, 3, (some .int), 1, 11, 9, 2, kc_Mod_type)
def mi_Mod_wipe : MI := (⟨"ThroughOthersModel", "wipe", "(I)I"⟩, prog_11_method_72_code, 3, (some .int), 1, 11, 9, 1, kc_Mod_wipe)
def mi_Mod_clash : MI := (⟨"ThroughOthersModel", "clash", "(II)I"⟩, prog_11_method_74_code, 3, (some .int), 1, 11, 9, 2, kc_Mod_clash)
def mi_Mod_clashes : MI := (⟨"ThroughOthersModel", "clashes", "(II)Z"⟩, prog_11_method_73_code, 7, (some .boolean), 3, 11, 9, 2, kc_Mod_clashes)
def mi_Mod_least : MI := (⟨"ThroughOthersModel", "least", "()I"⟩, prog_11_method_78_code, 1, (some .int), 1, 11, 9, 0, kc_Mod_least)
def mi_Mod_leastNow : MI := (⟨"ThroughOthersModel", "leastNow", "()I"⟩, prog_11_method_77_code, 2, (some .int), 1, 11, 9, 0, kc_Mod_leastNow)
def mi_Mod_isEnough : MI := (⟨"ThroughOthersModel", "isEnough", "(I)Z"⟩, prog_11_method_76_code, 4, (some .boolean), 3, 11, 9, 1, kc_Mod_isEnough)
def mi_Mod_canBe : MI := (⟨"ThroughOthersModel", "canBe", "(II)Z"⟩, prog_11_method_75_code, 5, (some .boolean), 3, 11, 9, 2, kc_Mod_canBe)
def mi_Mod_ones : MI := (⟨"ThroughOthersModel", "ones", "(I)I"⟩, prog_11_method_79_code, 2, (some .int), 1, 11, 9, 1, kc_Mod_ones)
def mi_Mod_reach : MI := (⟨"ThroughOthersModel", "reach", "(I)I"⟩, prog_11_method_80_code, 5, (some .int), 1, 11, 9, 1, kc_Mod_reach)
def mi_Mod_parts : MI := (⟨"ThroughOthersModel", "parts", "(I)I"⟩, prog_11_method_83_code, 2, (some .int), 1, 11, 9, 1, kc_Mod_parts)
def mi_Mod_partsNow : MI := (⟨"ThroughOthersModel", "partsNow", "(I)I"⟩, prog_11_method_82_code, 5, (some .int), 1, 11, 9, 1, kc_Mod_partsNow)
def mi_Mod_partsOf : MI := (⟨"ThroughOthersModel", "partsOf", "(I)I"⟩, prog_11_method_81_code, 4, (some .int), 1, 11, 9, 1, kc_Mod_partsOf)
def mi_Mod_narrow : MI := (⟨"ThroughOthersModel", "narrow", "(I)J"⟩, prog_11_method_85_code, 2, (some .long), 2, 11, 9, 1, kc_Mod_narrow)
def mi_Mod_narrowOf : MI := (⟨"ThroughOthersModel", "narrowOf", "(I)J"⟩, prog_11_method_84_code, 10, (some .long), 2, 11, 9, 1, kc_Mod_narrowOf)
def mi_Mod_write : MI := (⟨"ThroughOthersModel", "write", "(II)I"⟩, prog_11_method_86_code, 5, (some .int), 1, 11, 9, 2, kc_Mod_write)
def mi_Mod_count : MI := (⟨"ThroughOthersModel", "count", "(I)I"⟩, prog_11_method_87_code, 4, (some .int), 1, 11, 9, 1, kc_Mod_count)
def mi_Mod_digest : MI := (⟨"ThroughOthersModel", "digest", "()J"⟩, prog_11_method_88_code, 5, (some .long), 2, 11, 9, 0, kc_Mod_digest)
def sd_ml : List MI := [mi_Arr_fillI, mi_TO_persons, mi_Net_resize, mi_Net_everyone, mi_Net_holds, mi_TO_tie, mi_Net_tied, mi_Net_join, mi_TO_kind, mi_TO_isBit, mi_Net_kindOf, mi_Net_turn, mi_TO_read, mi_Sheets_holds, mi_Sheets_isLost, mi_Sheets_finding, mi_Sheets_item, mi_TO_about, mi_Net_degree, mi_Int_bitCount, mi_TO_far, mi_Net_distance, mi_Net_spread, mi_TO_set, mi_TO_isSetting, mi_TO_isUpTo, mi_TO_setting, mi_Records_look, mi_TO_found, mi_TO_refusal, mi_Chains_follow, mi_Chains_begin, mi_Arr_fillL, mi_Chains_place, mi_Chains_goOn, mi_Chains_holding, mi_TO_fraction, mi_TO_greatestCommon, mi_TO_both, mi_TO_size, mi_Chains_ofSize, mi_TO_kinds, mi_Chains_ofKind, mi_TO_within, mi_Chains_near, mi_Chains_isNear, mi_Chains_weight, mi_Net_kindOnes, mi_TO_at, mi_Walk_go, mi_Walk_step, mi_TO_lasting, mi_Net_degrees, mi_TO_strayed, mi_Walk_apart, mi_Walk_mostApart, mi_TO_came, mi_Records_holds, mi_Records_isNextDay, mi_Records_tell, mi_TO_takeBack, mi_Records_untell, mi_TO_record, mi_Records_detail, mi_TO_share, mi_Shares_taken, mi_Records_isTaken, mi_TO_part, mi_Shares_byTies, mi_Shares_tells, mi_Shares_byBringing, mi_Shares_countBringing, mi_Shares_pull, mi_Shares_telling, mi_TO_bounds, mi_Shares_rounded, mi_TO_leaving, mi_Shares_treeToLeave, mi_Shares_isLess, mi_TO_alike, mi_Records_likes, mi_Records_counting, mi_Deals_chance, mi_Deals_gather, mi_Deals_alikeIn, mi_Deals_following, mi_Int_lowestOneBit, mi_Int_numberOfTrailingZeros, mi_TO_forgot, mi_Shares_ofWave, mi_Shares_wholeWave, mi_TO_wave, mi_Records_inWave, mi_TO_type, mi_Marks_isSign, mi_Marks_append, mi_TO_wipe, mi_TO_clash, mi_Marks_differ, mi_TO_least, mi_Marks_tellApart, mi_Marks_gather, mi_Marks_apartForSure, mi_Marks_deal, mi_TO_ones, mi_Marks_personOf, mi_TO_reach, mi_Net_fewestReaching, mi_TO_parts, mi_Net_pieces, mi_Net_bridges, mi_TO_narrow, mi_Net_narrowest, mi_Net_leadingOut, mi_TO_sheet, mi_Sheets_isForm, mi_Sheets_renew, mi_TO_lose, mi_TO_lay, mi_Sheets_faultOf, mi_Sheets_put, mi_TO_get, mi_TO_copy, mi_Sheets_spans, mi_TO_write, mi_TO_count, mi_Marks_signsOfAll, mi_TO_digest, mi_TO_digestOfNet, mi_TO_digestOfRecords, mi_Mod_sheet, mi_Mod_isSheet, mi_Mod_in, mi_Mod_met, mi_Mod_lose, mi_Mod_lay, mi_Mod_lacks, mi_Mod_cut, mi_Mod_get, mi_Mod_copy, mi_Mod_persons, mi_Mod_tie, mi_Mod_isPerson, mi_Mod_ties, mi_Mod_kind, mi_Mod_isTwo, mi_Mod_read, mi_Mod_about, mi_Mod_degree, mi_Mod_bitsOf, mi_Mod_far, mi_Mod_everybody, mi_Mod_around, mi_Mod_set, mi_Mod_found, mi_Mod_no, mi_Mod_goesThrough, mi_Mod_stands, mi_Mod_takes, mi_Mod_countsBy, mi_Mod_kindOnes, mi_Mod_lowest, mi_Mod_part, mi_Mod_divisor, mi_Mod_both, mi_Mod_size, mi_Mod_kinds, mi_Mod_within, mi_Mod_at, mi_Mod_walks, mi_Mod_lasting, mi_Mod_degrees, mi_Mod_strayed, mi_Mod_came, mi_Mod_isRecord, mi_Mod_takeBack, mi_Mod_record, mi_Mod_findCounts, mi_Mod_recordOf, mi_Mod_share, mi_Mod_shareOf, mi_Mod_plainly, mi_Mod_isTaken, mi_Mod_byTies, mi_Mod_byBringing, mi_Mod_findBrought, mi_Mod_bounds, mi_Mod_leaving, mi_Mod_trees, mi_Mod_isLess, mi_Mod_alike, mi_Mod_alikeOf, mi_Mod_findWho, mi_Mod_kindBits, mi_Mod_likes, mi_Mod_millionths, mi_Mod_forgot, mi_Mod_wave, mi_Mod_type, mi_Mod_wipe, mi_Mod_clash, mi_Mod_clashes, mi_Mod_least, mi_Mod_leastNow, mi_Mod_isEnough, mi_Mod_canBe, mi_Mod_ones, mi_Mod_reach, mi_Mod_parts, mi_Mod_partsNow, mi_Mod_partsOf, mi_Mod_narrow, mi_Mod_narrowOf, mi_Mod_write, mi_Mod_count, mi_Mod_digest]
set_option maxRecDepth 20000 in
theorem sd_mt : xm_mt = sd_ml.map (fun q => (mi_t q, mi_L q, mi_k q)) := rfl
def sd_lF : List (Nat × Nat × Nat) := [(1, 10, 512), (1, 21, 513), (1, 28, 514), (1, 35, 515), (1, 44, 516), (1, 51, 517), (1, 58, 518), (1, 65, 519), (1, 69, 520), (1, 73, 521), (1, 76, 193), (1, 113, 385), (1, 141, 268), (1, 154, 6), (1, 178, 450), (1, 182, 451), (1, 201, 265), (1, 204, 263), (1, 211, 260), (1, 266, 130), (1, 278, 264), (1, 309, 384), (1, 325, 386), (1, 335, 194), (1, 338, 387), (1, 381, 267), (2, 11, 192), (2, 15, 193), (2, 29, 194), (2, 36, 195), (3, 11, 384), (3, 15, 385), (3, 20, 386), (3, 29, 387), (5, 11, 256), (5, 15, 257), (5, 18, 258), (5, 21, 259), (5, 24, 260), (5, 27, 261), (5, 30, 262), (5, 33, 263), (5, 36, 264), (5, 40, 267), (5, 44, 265), (5, 47, 266), (5, 58, 268), (6, 9, 0), (6, 17, 1), (6, 21, 2), (6, 24, 3), (6, 28, 4), (6, 31, 5), (6, 34, 195), (6, 45, 193), (6, 58, 6), (6, 68, 192), (6, 78, 194), (7, 9, 448), (7, 17, 450), (7, 21, 449), (7, 24, 451), (7, 43, 193), (8, 9, 320), (8, 15, 321), (8, 19, 265), (8, 29, 257), (8, 32, 258), (8, 39, 262), (8, 52, 264), (8, 69, 256), (9, 9, 64), (9, 17, 65), (9, 21, 66), (9, 37, 67), (9, 47, 265), (9, 50, 264), (9, 54, 256), (9, 57, 257), (10, 9, 128), (10, 17, 129), (10, 21, 130), (10, 24, 131), (10, 27, 132), (10, 30, 133), (10, 33, 134), (10, 36, 265), (10, 53, 135), (10, 69, 264), (11, 7, 576), (11, 13, 577), (11, 16, 578), (11, 19, 579), (11, 22, 581), (11, 26, 582), (11, 29, 583), (11, 32, 584), (11, 35, 585), (11, 38, 586), (11, 41, 588), (11, 44, 589), (11, 47, 590), (11, 51, 591), (11, 54, 594), (11, 57, 595), (11, 60, 596), (11, 63, 597), (11, 66, 600), (11, 69, 601), (11, 72, 603), (11, 75, 604), (11, 78, 605), (11, 81, 606), (11, 84, 607), (11, 87, 608), (11, 90, 609), (11, 93, 610), (11, 96, 612), (11, 100, 619), (11, 103, 620), (11, 106, 622), (11, 109, 623), (11, 112, 624), (11, 121, 580), (11, 182, 587), (11, 194, 598), (11, 200, 599), (11, 203, 592), (11, 212, 593), (11, 240, 602), (11, 248, 611), (11, 257, 613), (11, 260, 614), (11, 268, 615), (11, 271, 616), (11, 274, 617), (11, 277, 618), (11, 304, 621)]
def sd_lV : List (Nat × Nat × Nat) := [(1, 79, 1124), (1, 83, 2149), (1, 87, 3177), (1, 91, 3692), (1, 98, 5221), (1, 102, 5736), (1, 106, 6853), (1, 107, 7365), (1, 110, 7877), (1, 123, 8393), (1, 126, 9317), (1, 129, 10857), (1, 132, 12553), (1, 135, 13573), (1, 138, 13956), (1, 148, 15368), (1, 151, 17926), (1, 166, 20486), (1, 169, 21510), (1, 172, 22534), (1, 175, 25320), (1, 183, 1633), (1, 187, 26725), (1, 190, 27874), (1, 194, 28386), (1, 197, 29317), (1, 198, 29829), (1, 207, 30353), (1, 214, 31368), (1, 217, 32393), (1, 220, 33446), (1, 226, 34986), (1, 230, 36006), (1, 233, 38570), (1, 236, 39589), (1, 239, 41089), (1, 242, 41601), (1, 245, 42017), (1, 248, 36512), (1, 251, 37030), (1, 254, 45734), (1, 257, 46246), (1, 260, 47237), (1, 269, 48713), (1, 272, 50249), (1, 275, 51265), (1, 282, 53829), (1, 285, 54885), (1, 288, 55909), (1, 291, 56417), (1, 294, 57441), (1, 299, 57957), (1, 305, 59596), (1, 312, 61133), (1, 316, 61644), (1, 322, 63181), (1, 341, 64577), (1, 348, 64261), (1, 350, 65798), (1, 354, 66310), (1, 357, 40709), (1, 360, 55557), (1, 363, 57094), (1, 366, 8969), (1, 369, 14602), (1, 372, 22282), (1, 375, 32009), (1, 378, 33034), (2, 19, 2149), (2, 32, 1633), (2, 39, 9317), (2, 42, 11373), (2, 49, 55909), (2, 52, 26725), (2, 55, 57957), (3, 33, 7365), (5, 50, 29317), (5, 54, 13956), (6, 37, 15876), (6, 41, 1633), (6, 48, 17420), (6, 81, 23049), (6, 85, 23558), (6, 89, 24161), (7, 28, 2149), (7, 34, 25824), (7, 47, 9317), (7, 51, 3177), (7, 61, 1633), (7, 65, 26725), (8, 25, 33925), (8, 35, 35497), (8, 56, 34986), (8, 60, 40105), (8, 72, 36512), (8, 75, 37030), (8, 79, 37542), (8, 86, 46246), (9, 24, 42529), (9, 28, 43045), (10, 46, 51776), (10, 49, 52289), (10, 62, 52813), (10, 73, 50249), (11, 132, 68389), (11, 136, 69933), (11, 153, 72997), (11, 156, 73517), (11, 166, 76069), (11, 169, 77601), (11, 173, 78125), (11, 187, 81702), (11, 191, 82209), (11, 206, 81192), (11, 215, 80676), (11, 225, 80164), (11, 234, 86822), (11, 237, 87841), (11, 243, 89381), (11, 251, 90912), (11, 254, 91433), (11, 263, 93477), (11, 280, 95008), (11, 283, 92960), (11, 286, 93992), (11, 290, 94496), (11, 293, 92458), (11, 297, 96545), (11, 307, 98592), (11, 310, 99105), (11, 313, 99621), (11, 320, 98085), (11, 333, 103209), (11, 337, 105257), (11, 340, 104741), (11, 343, 104225), (11, 348, 107813), (11, 351, 107301), (11, 354, 108838), (11, 361, 109861)]
def sd_lI : List (Nat × Nat × Nat) := [(1, 321, 40), (4, 264, 31), (4, 265, 9), (4, 266, 10), (4, 267, 11), (9, 44, 28), (9, 60, 29), (11, 144, 40)]
def sd_lL : List (Nat × Nat × Nat) := [(1, 297, 10), (1, 344, 11), (1, 346, 12), (1, 386, 2), (6, 66, 3), (6, 98, 4), (7, 32, 5), (7, 74, 6), (8, 42, 7), (8, 50, 8), (9, 45, 9), (11, 115, 2), (11, 124, 13), (11, 130, 6), (11, 149, 9), (11, 151, 14), (11, 176, 10), (11, 178, 15), (11, 180, 16), (11, 185, 18), (11, 198, 4), (11, 210, 17), (11, 232, 19), (11, 246, 20), (11, 266, 8), (11, 323, 21), (11, 325, 22), (11, 327, 23), (11, 329, 24), (11, 331, 25), (11, 346, 26), (11, 357, 11), (11, 359, 12)]
def sd_lS : List (Nat × Nat × Nat) := [(1, 117, 2), (1, 329, 0), (6, 92, 3), (6, 100, 1), (7, 55, 0), (7, 68, 3), (8, 44, 1), (8, 82, 4), (10, 40, 2), (10, 66, 1), (1, 95, 4618), (1, 144, 14859), (1, 158, 18451), (1, 162, 12818), (1, 223, 34323), (1, 263, 48138), (1, 302, 58890), (1, 388, 18959), (2, 23, 9738), (2, 46, 44042), (3, 23, 13), (6, 52, 16397), (6, 62, 16910), (6, 72, 9738), (7, 37, 16397), (8, 63, 13), (9, 32, 9738), (9, 41, 43530), (9, 61, 44042), (9, 64, 44554), (10, 56, 13), (11, 117, 67602), (11, 126, 67082), (11, 140, 70158), (11, 145, 83471), (11, 160, 74250), (11, 163, 76298), (11, 219, 82442), (11, 222, 79371), (11, 228, 82963), (11, 300, 96790), (11, 316, 99854)]
def sd_tb : List Cond := lw_tbl.filter goodWord
theorem sd_in {w : Cond} (h : w ∈ lw_tbl) (hg : goodWord w = true) : w ∈ sd_tb := List.mem_filter.mpr ⟨h, hg⟩
theorem sd_u {C : String} {T : u_T} {N : Nat} (h : ∀ w ∈ u_ws C T N, w ∈ lw_tbl) : ∀ w ∈ u_ws C T N, w ∈ sd_tb := by
  intro w hw
  refine sd_in (h w hw) ?_
  obtain ⟨k, -, rfl⟩ := List.mem_map.mp hw
  unfold u_lay
  split <;> rfl
theorem sd_link {α : Type} (l : List α) (f : α → Cond) (ps : List Nat) (h : l.map f = ps.filterMap (fun i => lw_tbl[i]?)) {q : α} (hq : q ∈ l) (hg : goodWord (f q) = true) : f q ∈ sd_tb := sd_in (xm_inp _ ps h _ (List.mem_map.mpr ⟨q, hq, rfl⟩)) hg
def sd_wdF (q : Nat × Nat × Nat) : Cond := .fieldLink (sd_on q.1) q.2.1 ((sd_cl (q.2.2 / 64)).2.1 (q.2.2 % 64)).1 ((sd_cl (q.2.2 / 64)).2.1 (q.2.2 % 64)).2.1 ((sd_cl (q.2.2 / 64)).2.1 (q.2.2 % 64)).2.2.1
theorem sd_lF_w : sd_lF.map sd_wdF = [310, 311, 312, 313, 314, 315, 316, 317, 318, 319, 84, 296, 189, 115, 141, 143, 184, 174, 169, 259, 179, 294, 298, 89, 300, 187, 81, 83, 87, 91, 293, 295, 297, 299, 159, 162, 165, 167, 168, 170, 171, 173, 175, 186, 180, 185, 188, 108, 109, 110, 111, 112, 113, 90, 85, 114, 82, 88, 138, 140, 139, 142, 86, 224, 225, 181, 163, 166, 172, 177, 161, 237, 238, 239, 240, 182, 176, 160, 164, 256, 257, 258, 260, 261, 262, 263, 183, 264, 178, 922, 923, 924, 925, 927, 928, 929, 930, 931, 932, 934, 935, 936, 937, 940, 941, 942, 943, 946, 947, 949, 950, 951, 952, 953, 954, 955, 956, 958, 965, 966, 968, 969, 970, 926, 933, 944, 945, 938, 939, 948, 957, 959, 960, 961, 962, 963, 964, 967].filterMap (fun i => lw_tbl[i]?) := by decide +kernel
theorem sd_lF_ok {o x t : Nat} (h : sd_lF.contains (o, x, t) = true) : Cond.fieldLink (sd_on o) x ((sd_cl (t / 64)).2.1 (t % 64)).1 ((sd_cl (t / 64)).2.1 (t % 64)).2.1 ((sd_cl (t / 64)).2.1 (t % 64)).2.2.1 ∈ sd_tb := sd_link sd_lF sd_wdF _ sd_lF_w (List.contains_iff_mem.mp h) rfl
def sd_wdI (q : Nat × Nat × Nat) : Cond := .constant (sd_on q.1) q.2.1 ((xm_at xm_kI q.2.2).getD 0)
theorem sd_lI_w : sd_lI.map sd_wdI = [871, 718, 419, 420, 421, 719, 711, 1105].filterMap (fun i => lw_tbl[i]?) := by decide +kernel
theorem sd_lI_t : sd_lI.all (fun q => (xm_at xm_kI q.2.2).isSome) = true := by decide +kernel
theorem sd_lI_ok {o x t : Nat} (h : sd_lI.contains (o, x, t) = true) : ∃ y, xm_at xm_kI t = some y ∧ Cond.constant (sd_on o) x y ∈ sd_tb := by
  have h1 := sd_link sd_lI sd_wdI _ sd_lI_w (List.contains_iff_mem.mp h) rfl
  have h2 := List.all_eq_true.mp sd_lI_t _ (List.contains_iff_mem.mp h)
  obtain ⟨y, hy⟩ := Option.isSome_iff_exists.mp h2
  refine ⟨y, hy, ?_⟩
  have h3 : Cond.constant (sd_on o) x ((xm_at xm_kI t).getD 0) ∈ sd_tb := h1
  rw [show xm_at xm_kI t = some y from hy] at h3
  exact h3
def sd_wdL (q : Nat × Nat × Nat) : Cond := .constantLong (sd_on q.1) q.2.1 ((xm_at xm_kL q.2.2).getD 0)
theorem sd_lL_w : sd_lL.map sd_wdL = [837, 897, 898, 460, 475, 538, 548, 584, 642, 670, 720, 1175, 1077, 1081, 1337, 1114, 1165, 1166, 1167, 1193, 1198, 1180, 1228, 1253, 1290, 1342, 1347, 1352, 1353, 1354, 1391, 1424, 1425].filterMap (fun i => lw_tbl[i]?) := by decide +kernel
theorem sd_lL_t : sd_lL.all (fun q => (xm_at xm_kL q.2.2).isSome) = true := by decide +kernel
theorem sd_lL_ok {o x t : Nat} (h : sd_lL.contains (o, x, t) = true) : ∃ y, xm_at xm_kL t = some y ∧ Cond.constantLong (sd_on o) x y ∈ sd_tb := by
  have h1 := sd_link sd_lL sd_wdL _ sd_lL_w (List.contains_iff_mem.mp h) rfl
  have h2 := List.all_eq_true.mp sd_lL_t _ (List.contains_iff_mem.mp h)
  obtain ⟨y, hy⟩ := Option.isSome_iff_exists.mp h2
  refine ⟨y, hy, ?_⟩
  have h3 : Cond.constantLong (sd_on o) x ((xm_at xm_kL t).getD 0) ∈ sd_tb := h1
  rw [show xm_at xm_kL t = some y from hy] at h3
  exact h3
def sd_rk : Nat → Nat
  | 3 => 1
  | k => k
def sd_yM (M : Nat) : MethodName := ((xm_at sd_ml M).map mi_y).getD ⟨"", "", ""⟩
def sd_wdV (q : Nat × Nat × Nat) : Cond := .methodLink (sd_on q.1) q.2.1 (sd_yM (q.2.2 / 512))
theorem sd_lV_w : sd_lV.map sd_wdV = [345, 353, 361, 366, 377, 381, 389, 393, 397, 404, 412, 426, 438, 445, 449, 461, 482, 500, 508, 516, 543, 563, 564, 573, 580, 589, 593, 597, 607, 615, 623, 634, 644, 666, 675, 687, 691, 695, 725, 726, 727, 738, 743, 754, 766, 775, 798, 806, 814, 819, 828, 838, 846, 858, 863, 876, 889, 899, 900, 907, 913, 914, 915, 904, 905, 906, 911, 912, 365, 349, 568, 430, 823, 832, 833, 862, 601, 602, 465, 476, 477, 520, 524, 531, 547, 549, 554, 555, 577, 578, 627, 638, 661, 679, 648, 653, 657, 731, 699, 703, 779, 784, 790, 783, 1082, 1094, 1119, 1123, 1142, 1153, 1157, 1189, 1194, 1185, 1181, 1176, 1229, 1237, 1249, 1262, 1266, 1282, 1295, 1278, 1286, 1291, 1274, 1307, 1322, 1326, 1330, 1318, 1363, 1379, 1375, 1371, 1400, 1396, 1408, 1426].filterMap (fun i => lw_tbl[i]?) := by decide +kernel
def sd_cV (t : Nat) : Bool := match xm_at sd_ml (t / 512) with
  | some q => decide (mi_c q = t / 32 % 16) && decide (t / 4 % 8 = mi_n q) && decide (t % 4 = sd_rk (mi_t q))
  | none => false
theorem sd_lV_t : sd_lV.all (fun q => sd_cV q.2.2) = true := by decide +kernel
theorem sd_lV_ok {o x t : Nat} (h : sd_lV.contains (o, x, t) = true) : ∃ q, sd_ml[t / 512]? = some q ∧ Cond.methodLink (sd_on o) x (mi_y q) ∈ sd_tb ∧ mi_c q = t / 32 % 16 ∧ t / 4 % 8 = mi_n q ∧ t % 4 = sd_rk (mi_t q) := by
  have h1 : Cond.methodLink (sd_on o) x (sd_yM (t / 512)) ∈ sd_tb := sd_link sd_lV sd_wdV _ sd_lV_w (List.contains_iff_mem.mp h) rfl
  have h2 : sd_cV t = true := List.all_eq_true.mp sd_lV_t _ (List.contains_iff_mem.mp h)
  unfold sd_cV at h2
  unfold sd_yM at h1
  cases hq : xm_at sd_ml (t / 512) with
  | none => rw [hq] at h2; cases h2
  | some q =>
    rw [hq] at h2 h1
    simp only [Bool.and_eq_true, decide_eq_true_eq] at h2
    exact ⟨q, by rw [← xm_at_eq]; exact hq, h1, h2.1.1, h2.1.2, h2.2⟩
def sd_wdS (q : Nat × Nat × Nat) : Cond := .methodLink (sd_on q.1) q.2.1 (match q.2.2 with
  | 0 => arraycopyName
  | 1 => Lib.Math.max.name
  | 2 => Lib.Math.min.name
  | 3 => Lib.MathLoose.abs_long.x
  | 4 => Lib.MathLoose.min_long.x
  | t + 5 => sd_yM (t / 512))
theorem sd_lS_w : sd_lS.map sd_wdS = [401, 880, 535, 528, 556, 579, 643, 735, 770, 788, 374, 457, 486, 442, 631, 751, 843, 489, 416, 818, 290, 469, 472, 481, 553, 652, 707, 708, 712, 715, 789, 1078, 1074, 1098, 1205, 1131, 1146, 1199, 1172, 1202, 1311, 1334].filterMap (fun i => lw_tbl[i]?) := by decide +kernel
def sd_cS : Nat → Bool
  | 0 => true
  | 1 => true
  | 2 => true
  | 3 => true
  | 4 => true
  | t + 5 => match xm_at sd_ml (t / 512) with
    | some q => decide (mi_c q = 99) && decide (t / 4 % 8 = mi_n q) && decide (t % 4 = sd_rk (mi_t q))
    | none => false
theorem sd_lS_t : sd_lS.all (fun q => sd_cS q.2.2) = true := by decide +kernel
theorem sd_lS_ok {o x t : Nat} (h : sd_lS.contains (o, x, t + 5) = true) : ∃ q, sd_ml[t / 512]? = some q ∧ Cond.methodLink (sd_on o) x (mi_y q) ∈ sd_tb ∧ mi_c q = 99 ∧ t / 4 % 8 = mi_n q ∧ t % 4 = sd_rk (mi_t q) := by
  have h1 : Cond.methodLink (sd_on o) x (sd_yM (t / 512)) ∈ sd_tb := sd_link sd_lS sd_wdS _ sd_lS_w (List.contains_iff_mem.mp h) rfl
  have h2 : sd_cS (t + 5) = true := List.all_eq_true.mp sd_lS_t _ (List.contains_iff_mem.mp h)
  have h2 : (match xm_at sd_ml (t / 512) with
    | some q => decide (mi_c q = 99) && decide (t / 4 % 8 = mi_n q) && decide (t % 4 = sd_rk (mi_t q))
    | none => false) = true := h2
  unfold sd_yM at h1
  cases hq : xm_at sd_ml (t / 512) with
  | none => rw [hq] at h2; cases h2
  | some q =>
    rw [hq] at h2 h1
    simp only [Bool.and_eq_true, decide_eq_true_eq] at h2
    exact ⟨q, by rw [← xm_at_eq]; exact hq, h1, h2.1.1, h2.1.2, h2.2⟩
theorem sd_lM_ok {o x : Nat} :
    (sd_lS.contains (o, x, 1) = true → Cond.methodLink (sd_on o) x Lib.Math.max.name ∈ sd_tb ∧ Cond.static Lib.Math.max.name ∈ sd_tb ∧ Cond.initialized "java/lang/Math" ∈ sd_tb ∧ Cond.code Lib.Math.max.name Lib.Math.max.code 2 (some .int) ∈ sd_tb) ∧
    (sd_lS.contains (o, x, 2) = true → Cond.methodLink (sd_on o) x Lib.Math.min.name ∈ sd_tb ∧ Cond.static Lib.Math.min.name ∈ sd_tb ∧ Cond.initialized "java/lang/Math" ∈ sd_tb ∧ Cond.code Lib.Math.min.name Lib.Math.min.code 2 (some .int) ∈ sd_tb) ∧
    (sd_lS.contains (o, x, 3) = true → Cond.methodLink (sd_on o) x Lib.MathLoose.abs_long.x ∈ sd_tb ∧ Cond.static Lib.MathLoose.abs_long.x ∈ sd_tb ∧ Cond.initialized "java/lang/Math" ∈ sd_tb ∧ Cond.code Lib.MathLoose.abs_long.x Lib.MathLoose.abs_long.code 2 (some .long) ∈ sd_tb) ∧
    (sd_lS.contains (o, x, 4) = true → Cond.methodLink (sd_on o) x Lib.MathLoose.min_long.x ∈ sd_tb ∧ Cond.static Lib.MathLoose.min_long.x ∈ sd_tb ∧ Cond.initialized "java/lang/Math" ∈ sd_tb ∧ Cond.code Lib.MathLoose.min_long.x Lib.MathLoose.min_long.code 4 (some .long) ∈ sd_tb) :=
  ⟨fun h => ⟨sd_link sd_lS sd_wdS _ sd_lS_w (List.contains_iff_mem.mp h) rfl, sd_in (List.mem_of_getElem? (i := 529) (by decide +kernel)) rfl, sd_in (List.mem_of_getElem? (i := 64) (by decide +kernel)) rfl, sd_in (List.mem_of_getElem? (i := 530) (by decide +kernel)) rfl⟩, fun h => ⟨sd_link sd_lS sd_wdS _ sd_lS_w (List.contains_iff_mem.mp h) rfl, sd_in (List.mem_of_getElem? (i := 402) (by decide +kernel)) rfl, sd_in (List.mem_of_getElem? (i := 64) (by decide +kernel)) rfl, sd_in (List.mem_of_getElem? (i := 403) (by decide +kernel)) rfl⟩, fun h => ⟨sd_link sd_lS sd_wdS _ sd_lS_w (List.contains_iff_mem.mp h) rfl, sd_in (List.mem_of_getElem? (i := 536) (by decide +kernel)) rfl, sd_in (List.mem_of_getElem? (i := 64) (by decide +kernel)) rfl, sd_in (List.mem_of_getElem? (i := 537) (by decide +kernel)) rfl⟩, fun h => ⟨sd_link sd_lS sd_wdS _ sd_lS_w (List.contains_iff_mem.mp h) rfl, sd_in (List.mem_of_getElem? (i := 736) (by decide +kernel)) rfl, sd_in (List.mem_of_getElem? (i := 64) (by decide +kernel)) rfl, sd_in (List.mem_of_getElem? (i := 737) (by decide +kernel)) rfl⟩⟩
theorem sd_lC_ok {o x : Nat} (h : sd_lS.contains (o, x, 0) = true) : Cond.methodLink (sd_on o) x arraycopyName ∈ sd_tb ∧ Cond.native arraycopyName ∈ sd_tb ∧ Cond.static arraycopyName ∈ sd_tb ∧ Cond.initialized "java/lang/System" ∈ sd_tb :=
  ⟨sd_link sd_lS sd_wdS _ sd_lS_w (List.contains_iff_mem.mp h) rfl, sd_in (List.mem_of_getElem? (i := 558) (by decide +kernel)) rfl, sd_in (List.mem_of_getElem? (i := 557) (by decide +kernel)) rfl, sd_in (List.mem_of_getElem? (i := 66) (by decide +kernel)) rfl⟩
def sd_fck (T : u_T) : Nat → List Nat → Bool
  | _, [] => true
  | k, f :: r => (match f with
    | 0 => decide ((T k).2.2.1 = "I") && decide ((T k).2.2.2 = false)
    | 1 => decide ((T k).2.2.1 = "J") && decide ((T k).2.2.2 = false)
    | _ => true) && sd_fck T (k + 1) r
theorem sd_fck_ok {T : u_T} : ∀ {fs : List Nat} {k0 k f : Nat}, sd_fck T k0 fs = true → xm_at fs k = some f → (f = 0 → (T (k0 + k)).2.2.1 = "I" ∧ (T (k0 + k)).2.2.2 = false) ∧ (f = 1 → (T (k0 + k)).2.2.1 = "J" ∧ (T (k0 + k)).2.2.2 = false)
  | [], _, _, _, _, h => by cases h
  | f :: r, k0, 0, _, hc, h => by
    cases h
    unfold sd_fck at hc
    rw [Bool.and_eq_true] at hc
    refine ⟨fun e => ?_, fun e => ?_⟩ <;> subst e <;> simpa using hc.1
  | f :: r, k0, k + 1, _, hc, h => by
    unfold sd_fck at hc
    rw [Bool.and_eq_true] at hc
    have := sd_fck_ok hc.2 h
    rw [show k0 + 1 + k = k0 + (k + 1) by omega] at this
    exact this
theorem sd_sh_t : xm_sh.all (fun s => match s with
  | .inl _ => true
  | .inr (ci, fs) => Nat.blt ci 10 && decide (fs.length = (sd_cl ci).2.2) && sd_fck (sd_cl ci).2.1 0 fs) = true := by decide +kernel
theorem sd_kf : ∀ ci, ci < 10 → xm_cl[ci]? = some (sd_cl ci) ∧ (∀ w ∈ u_ws (sd_cl ci).1 (sd_cl ci).2.1 (sd_cl ci).2.2, w ∈ sd_tb) ∧ (∃ ty0 : Nat → FieldType, ∀ k, k < (sd_cl ci).2.2 → parseFieldDescriptor ((sd_cl ci).2.1 k).2.2.1 = some (ty0 k)) ∧ (∀ a, a < (sd_cl ci).2.2 → ∀ b, b < (sd_cl ci).2.2 → a ≠ b → ((sd_cl ci).2.1 a).2.1 ≠ ((sd_cl ci).2.1 b).2.1)
  | 0, _ => ⟨rfl, sd_u in_0, ⟨ty_0, ty_0_ok⟩, nm_0⟩
  | 1, _ => ⟨rfl, sd_u in_1, ⟨ty_1, ty_1_ok⟩, nm_1⟩
  | 2, _ => ⟨rfl, sd_u in_2, ⟨ty_2, ty_2_ok⟩, nm_2⟩
  | 3, _ => ⟨rfl, sd_u in_3, ⟨ty_3, ty_3_ok⟩, nm_3⟩
  | 4, _ => ⟨rfl, sd_u in_4, ⟨ty_4, ty_4_ok⟩, nm_4⟩
  | 5, _ => ⟨rfl, sd_u in_5, ⟨ty_5, ty_5_ok⟩, nm_5⟩
  | 6, _ => ⟨rfl, sd_u in_6, ⟨ty_6, ty_6_ok⟩, nm_6⟩
  | 7, _ => ⟨rfl, sd_u in_7, ⟨ty_7, ty_7_ok⟩, nm_7⟩
  | 8, _ => ⟨rfl, sd_u in_8, ⟨ty_8, ty_8_ok⟩, nm_8⟩
  | 9, _ => ⟨rfl, sd_u in_9, ⟨ty_9, ty_9_ok⟩, nm_9⟩
  | n + 10, h => absurd h (by omega)
theorem sd_shp {b ci : Nat} {fs : List Nat} (h : xm_at xm_sh b = some (.inr (ci, fs))) : xm_cl[ci]? = some (sd_cl ci) ∧ (∀ w ∈ u_ws (sd_cl ci).1 (sd_cl ci).2.1 (sd_cl ci).2.2, w ∈ sd_tb) ∧ (∃ ty0 : Nat → FieldType, ∀ k, k < (sd_cl ci).2.2 → parseFieldDescriptor ((sd_cl ci).2.1 k).2.2.1 = some (ty0 k)) ∧ (∀ a, a < (sd_cl ci).2.2 → ∀ b, b < (sd_cl ci).2.2 → a ≠ b → ((sd_cl ci).2.1 a).2.1 ≠ ((sd_cl ci).2.1 b).2.1) ∧ fs.length = (sd_cl ci).2.2 ∧ ∀ k f, xm_at fs k = some f → (f = 0 → ((sd_cl ci).2.1 k).2.2.1 = "I" ∧ ((sd_cl ci).2.1 k).2.2.2 = false) ∧ (f = 1 → ((sd_cl ci).2.1 k).2.2.1 = "J" ∧ ((sd_cl ci).2.1 k).2.2.2 = false) := by
  rw [xm_at_eq] at h
  have h1 := List.all_eq_true.mp sd_sh_t _ (List.mem_of_getElem? h)
  simp only [Bool.and_eq_true, decide_eq_true_eq] at h1
  obtain ⟨a1, a2, a3, a4⟩ := sd_kf ci (Nat.le_of_ble_eq_true h1.1.1)
  refine ⟨a1, a2, a3, a4, h1.1.2, fun k f hf => ?_⟩
  have := sd_fck_ok h1.2 hf
  rw [Nat.zero_add] at this
  exact this
end
section
/-! the static facts that a method's code must meet, as a check -/
def sd_len (pc : Nat) : Instr → Nat
  | .bipush _ => 2
  | .ldc _ => 2
  | .iload _ => 2
  | .lload _ => 2
  | .aload _ => 2
  | .istore _ => 2
  | .lstore _ => 2
  | .sipush _ => 3
  | .ldc_w _ => 3
  | .ldc2_w _ => 3
  | .iinc _ _ => 3
  | .ifCond _ _ => 3
  | .if_icmp _ _ => 3
  | .goto _ => 3
  | .getfield _ => 3
  | .putfield _ => 3
  | .invokevirtual _ => 3
  | .invokestatic _ => 3
  | .tableswitch _ _ _ o => (pc + 4) / 4 * 4 + 12 + 4 * o.size - pc
  | _ => 1
def sd_sw (pc : Nat) (dd lo hi : Int) (offs : Array Int) : Option (Nat × List (Int32 × Nat)) → Bool
  | none => false
  | some (dt, ts) => decide ((pc : Int) + dd = (dt : Int)) && decide (ts.length = offs.size) && decide (hi = lo + (offs.size : Int) - 1) && (List.range offs.size).all (fun j => match xm_at ts j, offs[j]? with
    | some (k, g), some f => decide (k.toInt = lo + (j : Int)) && decide ((pc : Int) + f = (g : Int))
    | _, _ => false)
def sd_ck (rt o mL pc : Nat) (i : Instr) (t : Nat) : Bool := match i with
  | .iconst n => decide (xm_at xm_kI t = some (Int32.ofInt n))
  | .bipush n => decide (xm_at xm_kI t = some (Int8.ofInt n).toInt32)
  | .sipush n => decide (xm_at xm_kI t = some (Int16.ofInt n).toInt32)
  | .lconst n => decide (xm_at xm_kL t = some (Int64.ofNat n.val))
  | .ldc x => sd_lI.contains (o, x, t)
  | .ldc_w x => sd_lI.contains (o, x, t)
  | .ldc2_w x => sd_lL.contains (o, x, t)
  | .iinc n c => decide (n < mL) && decide (xm_at xm_kI t = some (Int32.ofInt c))
  | .istore_n n => decide (n.val < mL)
  | .istore n => decide (n < mL)
  | .lstore_n n => decide (n.val + 1 < mL)
  | .lstore n => decide (n + 1 < mL)
  | .goto f => decide ((pc : Int) + f = (t : Int))
  | .ifCond _ f => decide ((pc : Int) + f = (t : Int))
  | .if_icmp _ f => decide ((pc : Int) + f = (t : Int))
  | .tableswitch dd lo hi offs => sd_sw pc dd lo hi offs (xm_at xm_sw t)
  | .getfield x => sd_lF.contains (o, x, t)
  | .putfield x => sd_lF.contains (o, x, t)
  | .invokevirtual x => sd_lV.contains (o, x, t)
  | .invokestatic x => sd_lS.contains (o, x, t)
  | .ireturn => rt == 1 || rt == 3
  | .lreturn => rt == 2
  | .return_ => rt == 0
  | _ => true
def sd_chk (rt o mL : Nat) (bytes : ByteArray) (q : Ety) : Bool := decide (decode bytes q.1 = .ok (q.2.1, sd_len q.1 q.2.1)) && sd_ck rt o mL q.1 q.2.1 q.2.2.2
def sd_rt : Nat → Option FieldType → Bool
  | 0, none => true
  | 1, some .int => true
  | 2, some .long => true
  | 3, some .boolean => true
  | _, _ => false
/-- a method is as the tables say, and its code as read -/
def sd_good (q : MI) : Prop :=
  Cond.code (mi_y q) (mi_b q) (mi_L q) (mi_r q) ∈ sd_tb ∧ plainName (mi_y q).cls = true ∧ (mi_y q).cls = sd_on (mi_o q) ∧
  ((mi_y q).cls ≠ "java/lang/invoke/MethodHandle" ∧ (mi_y q).cls ≠ "java/lang/invoke/VarHandle" ∧ (parseMethodDescriptor (mi_y q).desc).map (fun d => d.parameters.length) = some (mi_n q)) ∧
  Cond.initialized (mi_y q).cls ∈ sd_tb ∧ sd_rt (mi_t q) (mi_r q) = true ∧
  ((mi_c q = 99 ∧ Cond.static (mi_y q) ∈ sd_tb) ∨ (Cond.instanceMethod (mi_y q) ∈ sd_tb ∧ Cond.selects (mi_y q).cls (mi_y q) (mi_y q) ∈ sd_tb ∧ ∃ c, xm_cl[mi_c q]? = some c ∧ c.1 = (mi_y q).cls)) ∧
  mi_L q ≤ 40 ∧ (mi_k q).all (sd_chk (mi_t q) (mi_o q) (mi_L q) (mi_b q)) = true
theorem sd_lk : ∀ {cd : List Ety} {pc : Nat} {x : Instr × List Nat × Nat}, xm_lk cd pc = some x → (pc, x) ∈ cd
  | [], _, _, h => by cases h
  | (p, y) :: r, pc, x, h => by
    unfold xm_lk at h
    cases e : Nat.beq p pc with
    | true =>
      rw [e] at h
      have := Nat.eq_of_beq_eq_true e
      subst this
      cases h
      exact List.mem_cons_self
    | false =>
      rw [e] at h
      exact List.mem_cons_of_mem _ (sd_lk h)
theorem sd_wI {ad : Nat → Nat} {cA : Nat → ClassId} {σ : Sg} {b n z j : Nat} {x : Int32} (h : xm_at xm_sh b = some (.inl (0, n, z))) : (sd_w ad cA σ).set b (ad b, .inl (cA 0, n, .inl (upd (σ.1 b) j x))) = sd_w ad cA (xm_sI σ b j x) := by
  have e := sd_w_set (ad := ad) (cA := cA) (σ := σ) (τ := xm_sI σ b j x) h (fun c hc => sd_sI_ne hc)
  rw [show sd_ce ad cA (xm_sI σ b j x) b (.inl (0, n, z)) = .inl (cA 0, n, .inl ((xm_sI σ b j x).1 b)) from rfl, sd_sI_1] at e
  exact e
theorem sd_wZ {ad : Nat → Nat} {cA : Nat → ClassId} {σ : Sg} {b n z j : Nat} {x : Int32} (h : xm_at xm_sh b = some (.inl (2, n, z))) : (sd_w ad cA σ).set b (ad b, .inl (cA 2, n, .inl (upd (σ.1 b) j x))) = sd_w ad cA (xm_sI σ b j x) := by
  have e := sd_w_set (ad := ad) (cA := cA) (σ := σ) (τ := xm_sI σ b j x) h (fun c hc => sd_sI_ne hc)
  rw [show sd_ce ad cA (xm_sI σ b j x) b (.inl (2, n, z)) = .inl (cA 2, n, .inl ((xm_sI σ b j x).1 b)) from rfl, sd_sI_1] at e
  exact e
theorem sd_wL {ad : Nat → Nat} {cA : Nat → ClassId} {σ : Sg} {b n z j : Nat} {x : Int64} (h : xm_at xm_sh b = some (.inl (1, n, z))) : (sd_w ad cA σ).set b (ad b, .inl (cA 1, n, .inr (.inl (vp_updL (σ.2 b) j x)))) = sd_w ad cA (xm_sL σ b j x) := by
  have e := sd_w_set (ad := ad) (cA := cA) (σ := σ) (τ := xm_sL σ b j x) h (fun c hc => sd_sL_ne hc)
  rw [show sd_ce ad cA (xm_sL σ b j x) b (.inl (1, n, z)) = .inl (cA 1, n, .inr (.inl ((xm_sL σ b j x).2 b))) from rfl, sd_sL_2] at e
  exact e
theorem sd_wFI {ad : Nat → Nat} {cA : Nat → ClassId} {σ : Sg} {b ci k : Nat} {fs : List Nat} {x : Int32} (h : xm_at xm_sh b = some (.inr (ci, fs))) (hf : xm_at fs k = some 0) : (sd_w ad cA σ).set b (ad b, .inr (ci, (sd_fs ad σ b 0 fs).set k (.int x))) = sd_w ad cA (xm_sI σ b k x) := by
  rw [sd_fs_putI hf]
  exact sd_w_set (τ := xm_sI σ b k x) h (fun c hc => sd_sI_ne hc)
theorem sd_wFL {ad : Nat → Nat} {cA : Nat → ClassId} {σ : Sg} {b ci k : Nat} {fs : List Nat} {x : Int64} (h : xm_at xm_sh b = some (.inr (ci, fs))) (hf : xm_at fs k = some 1) : (sd_w ad cA σ).set b (ad b, .inr (ci, (sd_fs ad σ b 0 fs).set k (.long x))) = sd_w ad cA (xm_sL σ b k x) := by
  rw [sd_fs_putL hf]
  exact sd_w_set (τ := xm_sL σ b k x) h (fun c hc => sd_sL_ne hc)
theorem sd_wyI {ad : Nat → Nat} {cA : Nat → ClassId} {σ : Sg} {a b n z sp dp k : Nat} (h : xm_at xm_sh b = some (.inl (0, n, z))) : (sd_w ad cA σ).set b (ad b, .inl (cA 0, n, .inl (va_cpy (σ.1 a) (σ.1 b) sp dp k))) = sd_w ad cA (xm_yI σ a b sp dp k) := by
  have e := sd_w_set (ad := ad) (cA := cA) (σ := σ) (τ := xm_yI σ a b sp dp k) h (fun c hc => ⟨if_neg hc, rfl⟩)
  rw [show sd_ce ad cA (xm_yI σ a b sp dp k) b (.inl (0, n, z)) = .inl (cA 0, n, .inl ((xm_yI σ a b sp dp k).1 b)) from rfl, show (xm_yI σ a b sp dp k).1 b = va_cpy (σ.1 a) (σ.1 b) sp dp k from if_pos rfl] at e
  exact e
theorem sd_wyL {ad : Nat → Nat} {cA : Nat → ClassId} {σ : Sg} {a b n z sp dp k : Nat} (h : xm_at xm_sh b = some (.inl (1, n, z))) : (sd_w ad cA σ).set b (ad b, .inl (cA 1, n, .inr (.inl (va_cpy (σ.2 a) (σ.2 b) sp dp k)))) = sd_w ad cA (xm_yL σ a b sp dp k) := by
  have e := sd_w_set (ad := ad) (cA := cA) (σ := σ) (τ := xm_yL σ a b sp dp k) h (fun c hc => ⟨rfl, if_neg hc⟩)
  rw [show sd_ce ad cA (xm_yL σ a b sp dp k) b (.inl (1, n, z)) = .inl (cA 1, n, .inr (.inl ((xm_yL σ a b sp dp k).2 b))) from rfl, show (xm_yL σ a b sp dp k).2 b = va_cpy (σ.2 a) (σ.2 b) sp dp k from if_pos rfl] at e
  exact e
theorem iv_swl {x : Int32} {k : Nat → Oz} {dt : Nat} {r : RV} : ∀ {ts : List (Int32 × Nat)}, xm_swl x k dt ts = some r → (∃ (j g : Nat), xm_at ts j = some (x, g) ∧ k g = some r) ∨ ((∀ (j : Nat) (y : Int32) (g : Nat), xm_at ts j = some (y, g) → x ≠ y) ∧ k dt = some r)
  | [], h => Or.inr ⟨fun j y g e => (by cases e), h⟩
  | (y, t) :: ts, h => by
    unfold xm_swl at h
    by_cases c : x = y
    · rw [if_pos c] at h
      subst c
      exact Or.inl ⟨0, t, rfl, h⟩
    · rw [if_neg c] at h
      rcases iv_swl h with ⟨j, g, e, h⟩ | ⟨e, h⟩
      · exact Or.inl ⟨j + 1, g, e, h⟩
      · refine Or.inr ⟨fun j z g e2 => ?_, h⟩
        cases j with
        | zero => cases e2; exact c
        | succ j => exact e j z g e2
theorem iv_row {i : Int32} {b : Nat} {k : Nat → Oz} {r : RV} (h : xm_row i b k = some r) : ∃ j : Nat, j < 4 ∧ i = nI j ∧ k (b + j) = some r := by
  unfold xm_row at h
  by_cases c0 : i = 0
  · rw [if_pos c0] at h; exact ⟨0, by omega, c0, h⟩
  rw [if_neg c0] at h
  by_cases c1 : i = 1
  · rw [if_pos c1] at h; exact ⟨1, by omega, c1, h⟩
  rw [if_neg c1] at h
  by_cases c2 : i = 2
  · rw [if_pos c2] at h; exact ⟨2, by omega, c2, h⟩
  rw [if_neg c2] at h
  by_cases c3 : i = 3
  · rw [if_pos c3] at h; exact ⟨3, by omega, c3, h⟩
  rw [if_neg c3] at h
  cases h
theorem iv_retI {rt o mL pc t : Nat} {st : List Value} {σ : Sg} {r : RV} (hk : sd_ck rt o mL pc .ireturn t = true) (h : xm_ret rt st σ = some r) : ∃ x, st = [.int x] ∧ r = (some (.int x), σ) ∧ (rt = 1 ∨ (rt = 3 ∧ (x = 0 ∨ x = 1))) := by
  have hk : (rt == 1 || rt == 3) = true := hk
  simp only [Bool.or_eq_true, beq_iff_eq] at hk
  rcases hk with rfl | rfl
  · rcases st with _ | ⟨v, _ | _⟩
    · cases h
    · cases v <;> first | (cases h; exact ⟨_, rfl, rfl, Or.inl rfl⟩) | cases h
    · cases v <;> cases h
  · rcases st with _ | ⟨v, _ | _⟩
    · cases h
    · cases v <;> first | (obtain ⟨hb, h⟩ := iv_bo h; cases h; exact ⟨_, rfl, rfl, Or.inr ⟨rfl, hb⟩⟩) | cases h
    · cases v <;> cases h
theorem iv_retL {rt o mL pc t : Nat} {st : List Value} {σ : Sg} {r : RV} (hk : sd_ck rt o mL pc .lreturn t = true) (h : xm_ret rt st σ = some r) : ∃ x, st = [.long x] ∧ r = (some (.long x), σ) ∧ rt = 2 := by
  have hk : (rt == 2) = true := hk
  simp only [beq_iff_eq] at hk
  subst hk
  rcases st with _ | ⟨v, _ | _⟩
  · cases h
  · cases v <;> first | (cases h; exact ⟨_, rfl, rfl, rfl⟩) | cases h
  · cases v <;> cases h
theorem iv_retV {rt o mL pc t : Nat} {st : List Value} {σ : Sg} {r : RV} (hk : sd_ck rt o mL pc .return_ t = true) (h : xm_ret rt st σ = some r) : st = [] ∧ r = (none, σ) ∧ rt = 0 := by
  have hk : (rt == 0) = true := hk
  simp only [beq_iff_eq] at hk
  subst hk
  rcases st with _ | ⟨v, _⟩
  · cases h; exact ⟨rfl, rfl, rfl⟩
  · cases h
theorem sd_rtI {rt : Nat} {ret : Option FieldType} (h : rt = 1) (hr : sd_rt rt ret = true) : ret = some .int := by
  subst h
  rcases ret with _ | ty
  · cases hr
  · cases ty <;> first | rfl | cases hr
theorem sd_rtZ {rt : Nat} {ret : Option FieldType} (h : rt = 3) (hr : sd_rt rt ret = true) : ret = some .boolean := by
  subst h
  rcases ret with _ | ty
  · cases hr
  · cases ty <;> first | rfl | cases hr
theorem sd_rtL {rt : Nat} {ret : Option FieldType} (h : rt = 2) (hr : sd_rt rt ret = true) : ret = some .long := by
  subst h
  rcases ret with _ | ty
  · cases hr
  · cases ty <;> first | rfl | cases hr
theorem sd_rtV {rt : Nat} {ret : Option FieldType} (h : rt = 0) (hr : sd_rt rt ret = true) : ret = none := by
  subst h
  rcases ret with _ | ty
  · rfl
  · cases ty <;> cases hr
def sd_rm (d : Nat) : Room := { frames := d, cells := 0, slots := 0, locals := 64 * d }
def sd_P (ad : Nat → Nat) (cA : Nat → ClassId) (D : va_G) (as : List Value) (σ : Sg) : Array Value → State → Prop := fun v U => v = (as.map (sd_cv ad)).toArray ∧ va_P D xm_cl (sd_w ad cA σ) U.heap ∧ va_K D xm_cl (sd_ty cA) U
def sd_Q (ad : Nat → Nat) (cA : Nat → ClassId) (D : va_G) (r : RV) : Array Value → State → Outcome → State → Prop := fun _ st oc t => oc = .returned (r.1.map (sd_cv ad)) ∧ va_P D xm_cl (sd_w ad cA r.2) t.heap ∧ va_F (sd_A ad) st t
def sd_ws (q : MI) : List Cond := Cond.code (mi_y q) (mi_b q) (mi_L q) (mi_r q) :: sd_tb
/-- the contracts of all methods, so many calls deep -/
def sd_met (l : Launch) (ad : Nat → Nat) (cA : Nat → ClassId) (D : va_G) (d : Nat) : Prop := ∀ (M : Nat) (as : List Value) (σ : Sg) (r : RV) (q : MI), xm_call d M as σ = some r → sd_ml[M]? = some q → Met l (mi_y q) (sd_ws q) (sd_rm d) (sd_P ad cA D as σ) (sd_Q ad cA D r) 0 0 (sd_A ad)
theorem sd_blind {ad : Nat → Nat} {cA : Nat → ClassId} {D : va_G} {as : List Value} {σ : Sg} : FrameBlind (sd_P ad cA D as σ) := by
  intro a U g mk' h
  exact ⟨h.1, h.2.1, va_K.moved (u := U) (U := U.calling g mk' a) (Vm.Alike.refl U.vm) h.2.2⟩
theorem sd_goodIn {q : MI} (hq : sd_good q) : GoodIn sd_tb (sd_ws q) := by
  have key : ∀ w ∈ sd_tb, w ∈ sd_tb ∧ ((w.onTables && w.keeps) = true ∨ ∃ ty, w = .arrayClass ty) := fun w hw => ⟨hw, good_of_word (List.mem_filter.mp hw).2⟩
  intro w hw
  rcases List.mem_cons.mp hw with rfl | h
  · exact key _ hq.1
  · exact key w h
end
section
/-! each method is as the tables say -/
set_option maxRecDepth 20000 in
theorem mg_Arr_fillI : sd_good mi_Arr_fillI := ⟨sd_in (List.mem_of_getElem? (i := 292) rfl) rfl, by decide +kernel, by decide +kernel, by decide +kernel, sd_in (List.mem_of_getElem? (i := 62) (by decide +kernel)) rfl, rfl, Or.inl ⟨rfl, sd_in (List.mem_of_getElem? (i := 291) (by decide +kernel)) rfl⟩, by decide +kernel, by decide +kernel⟩
set_option maxRecDepth 20000 in
theorem mg_TO_persons : sd_good mi_TO_persons := ⟨sd_in (List.mem_of_getElem? (i := 344) rfl) rfl, by decide +kernel, by decide +kernel, by decide +kernel, sd_in (List.mem_of_getElem? (i := 53) (by decide +kernel)) rfl, rfl, Or.inr ⟨sd_in (List.mem_of_getElem? (i := 342) (by decide +kernel)) rfl, sd_in (List.mem_of_getElem? (i := 343) (by decide +kernel)) rfl, _, rfl, rfl⟩, by decide +kernel, by decide +kernel⟩
set_option maxRecDepth 20000 in
theorem mg_Net_resize : sd_good mi_Net_resize := ⟨sd_in (List.mem_of_getElem? (i := 348) rfl) rfl, by decide +kernel, by decide +kernel, by decide +kernel, sd_in (List.mem_of_getElem? (i := 54) (by decide +kernel)) rfl, rfl, Or.inr ⟨sd_in (List.mem_of_getElem? (i := 346) (by decide +kernel)) rfl, sd_in (List.mem_of_getElem? (i := 347) (by decide +kernel)) rfl, _, rfl, rfl⟩, by decide +kernel, by decide +kernel⟩
set_option maxRecDepth 20000 in
theorem mg_Net_everyone : sd_good mi_Net_everyone := ⟨sd_in (List.mem_of_getElem? (i := 352) rfl) rfl, by decide +kernel, by decide +kernel, by decide +kernel, sd_in (List.mem_of_getElem? (i := 54) (by decide +kernel)) rfl, rfl, Or.inr ⟨sd_in (List.mem_of_getElem? (i := 350) (by decide +kernel)) rfl, sd_in (List.mem_of_getElem? (i := 351) (by decide +kernel)) rfl, _, rfl, rfl⟩, by decide +kernel, by decide +kernel⟩
set_option maxRecDepth 20000 in
theorem mg_Net_holds : sd_good mi_Net_holds := ⟨sd_in (List.mem_of_getElem? (i := 356) rfl) rfl, by decide +kernel, by decide +kernel, by decide +kernel, sd_in (List.mem_of_getElem? (i := 54) (by decide +kernel)) rfl, rfl, Or.inr ⟨sd_in (List.mem_of_getElem? (i := 354) (by decide +kernel)) rfl, sd_in (List.mem_of_getElem? (i := 355) (by decide +kernel)) rfl, _, rfl, rfl⟩, by decide +kernel, by decide +kernel⟩
set_option maxRecDepth 20000 in
theorem mg_TO_tie : sd_good mi_TO_tie := ⟨sd_in (List.mem_of_getElem? (i := 360) rfl) rfl, by decide +kernel, by decide +kernel, by decide +kernel, sd_in (List.mem_of_getElem? (i := 53) (by decide +kernel)) rfl, rfl, Or.inr ⟨sd_in (List.mem_of_getElem? (i := 358) (by decide +kernel)) rfl, sd_in (List.mem_of_getElem? (i := 359) (by decide +kernel)) rfl, _, rfl, rfl⟩, by decide +kernel, by decide +kernel⟩
set_option maxRecDepth 20000 in
theorem mg_Net_tied : sd_good mi_Net_tied := ⟨sd_in (List.mem_of_getElem? (i := 364) rfl) rfl, by decide +kernel, by decide +kernel, by decide +kernel, sd_in (List.mem_of_getElem? (i := 54) (by decide +kernel)) rfl, rfl, Or.inr ⟨sd_in (List.mem_of_getElem? (i := 362) (by decide +kernel)) rfl, sd_in (List.mem_of_getElem? (i := 363) (by decide +kernel)) rfl, _, rfl, rfl⟩, by decide +kernel, by decide +kernel⟩
set_option maxRecDepth 20000 in
theorem mg_Net_join : sd_good mi_Net_join := ⟨sd_in (List.mem_of_getElem? (i := 369) rfl) rfl, by decide +kernel, by decide +kernel, by decide +kernel, sd_in (List.mem_of_getElem? (i := 54) (by decide +kernel)) rfl, rfl, Or.inr ⟨sd_in (List.mem_of_getElem? (i := 367) (by decide +kernel)) rfl, sd_in (List.mem_of_getElem? (i := 368) (by decide +kernel)) rfl, _, rfl, rfl⟩, by decide +kernel, by decide +kernel⟩
set_option maxRecDepth 20000 in
theorem mg_TO_kind : sd_good mi_TO_kind := ⟨sd_in (List.mem_of_getElem? (i := 373) rfl) rfl, by decide +kernel, by decide +kernel, by decide +kernel, sd_in (List.mem_of_getElem? (i := 53) (by decide +kernel)) rfl, rfl, Or.inr ⟨sd_in (List.mem_of_getElem? (i := 371) (by decide +kernel)) rfl, sd_in (List.mem_of_getElem? (i := 372) (by decide +kernel)) rfl, _, rfl, rfl⟩, by decide +kernel, by decide +kernel⟩
set_option maxRecDepth 20000 in
theorem mg_TO_isBit : sd_good mi_TO_isBit := ⟨sd_in (List.mem_of_getElem? (i := 376) rfl) rfl, by decide +kernel, by decide +kernel, by decide +kernel, sd_in (List.mem_of_getElem? (i := 53) (by decide +kernel)) rfl, rfl, Or.inl ⟨rfl, sd_in (List.mem_of_getElem? (i := 375) (by decide +kernel)) rfl⟩, by decide +kernel, by decide +kernel⟩
set_option maxRecDepth 20000 in
theorem mg_Net_kindOf : sd_good mi_Net_kindOf := ⟨sd_in (List.mem_of_getElem? (i := 380) rfl) rfl, by decide +kernel, by decide +kernel, by decide +kernel, sd_in (List.mem_of_getElem? (i := 54) (by decide +kernel)) rfl, rfl, Or.inr ⟨sd_in (List.mem_of_getElem? (i := 378) (by decide +kernel)) rfl, sd_in (List.mem_of_getElem? (i := 379) (by decide +kernel)) rfl, _, rfl, rfl⟩, by decide +kernel, by decide +kernel⟩
set_option maxRecDepth 20000 in
theorem mg_Net_turn : sd_good mi_Net_turn := ⟨sd_in (List.mem_of_getElem? (i := 384) rfl) rfl, by decide +kernel, by decide +kernel, by decide +kernel, sd_in (List.mem_of_getElem? (i := 54) (by decide +kernel)) rfl, rfl, Or.inr ⟨sd_in (List.mem_of_getElem? (i := 382) (by decide +kernel)) rfl, sd_in (List.mem_of_getElem? (i := 383) (by decide +kernel)) rfl, _, rfl, rfl⟩, by decide +kernel, by decide +kernel⟩
set_option maxRecDepth 20000 in
theorem mg_TO_read : sd_good mi_TO_read := ⟨sd_in (List.mem_of_getElem? (i := 388) rfl) rfl, by decide +kernel, by decide +kernel, by decide +kernel, sd_in (List.mem_of_getElem? (i := 53) (by decide +kernel)) rfl, rfl, Or.inr ⟨sd_in (List.mem_of_getElem? (i := 386) (by decide +kernel)) rfl, sd_in (List.mem_of_getElem? (i := 387) (by decide +kernel)) rfl, _, rfl, rfl⟩, by decide +kernel, by decide +kernel⟩
set_option maxRecDepth 20000 in
theorem mg_Sheets_holds : sd_good mi_Sheets_holds := ⟨sd_in (List.mem_of_getElem? (i := 392) rfl) rfl, by decide +kernel, by decide +kernel, by decide +kernel, sd_in (List.mem_of_getElem? (i := 61) (by decide +kernel)) rfl, rfl, Or.inr ⟨sd_in (List.mem_of_getElem? (i := 390) (by decide +kernel)) rfl, sd_in (List.mem_of_getElem? (i := 391) (by decide +kernel)) rfl, _, rfl, rfl⟩, by decide +kernel, by decide +kernel⟩
set_option maxRecDepth 20000 in
theorem mg_Sheets_isLost : sd_good mi_Sheets_isLost := ⟨sd_in (List.mem_of_getElem? (i := 396) rfl) rfl, by decide +kernel, by decide +kernel, by decide +kernel, sd_in (List.mem_of_getElem? (i := 61) (by decide +kernel)) rfl, rfl, Or.inr ⟨sd_in (List.mem_of_getElem? (i := 394) (by decide +kernel)) rfl, sd_in (List.mem_of_getElem? (i := 395) (by decide +kernel)) rfl, _, rfl, rfl⟩, by decide +kernel, by decide +kernel⟩
set_option maxRecDepth 20000 in
theorem mg_Sheets_finding : sd_good mi_Sheets_finding := ⟨sd_in (List.mem_of_getElem? (i := 400) rfl) rfl, by decide +kernel, by decide +kernel, by decide +kernel, sd_in (List.mem_of_getElem? (i := 61) (by decide +kernel)) rfl, rfl, Or.inr ⟨sd_in (List.mem_of_getElem? (i := 398) (by decide +kernel)) rfl, sd_in (List.mem_of_getElem? (i := 399) (by decide +kernel)) rfl, _, rfl, rfl⟩, by decide +kernel, by decide +kernel⟩
set_option maxRecDepth 20000 in
theorem mg_Sheets_item : sd_good mi_Sheets_item := ⟨sd_in (List.mem_of_getElem? (i := 407) rfl) rfl, by decide +kernel, by decide +kernel, by decide +kernel, sd_in (List.mem_of_getElem? (i := 61) (by decide +kernel)) rfl, rfl, Or.inr ⟨sd_in (List.mem_of_getElem? (i := 405) (by decide +kernel)) rfl, sd_in (List.mem_of_getElem? (i := 406) (by decide +kernel)) rfl, _, rfl, rfl⟩, by decide +kernel, by decide +kernel⟩
set_option maxRecDepth 20000 in
theorem mg_TO_about : sd_good mi_TO_about := ⟨sd_in (List.mem_of_getElem? (i := 411) rfl) rfl, by decide +kernel, by decide +kernel, by decide +kernel, sd_in (List.mem_of_getElem? (i := 53) (by decide +kernel)) rfl, rfl, Or.inr ⟨sd_in (List.mem_of_getElem? (i := 409) (by decide +kernel)) rfl, sd_in (List.mem_of_getElem? (i := 410) (by decide +kernel)) rfl, _, rfl, rfl⟩, by decide +kernel, by decide +kernel⟩
set_option maxRecDepth 20000 in
theorem mg_Net_degree : sd_good mi_Net_degree := ⟨sd_in (List.mem_of_getElem? (i := 415) rfl) rfl, by decide +kernel, by decide +kernel, by decide +kernel, sd_in (List.mem_of_getElem? (i := 54) (by decide +kernel)) rfl, rfl, Or.inr ⟨sd_in (List.mem_of_getElem? (i := 413) (by decide +kernel)) rfl, sd_in (List.mem_of_getElem? (i := 414) (by decide +kernel)) rfl, _, rfl, rfl⟩, by decide +kernel, by decide +kernel⟩
set_option maxRecDepth 20000 in
theorem mg_Int_bitCount : sd_good mi_Int_bitCount := ⟨sd_in (List.mem_of_getElem? (i := 418) rfl) rfl, by decide +kernel, by decide +kernel, by decide +kernel, sd_in (List.mem_of_getElem? (i := 65) (by decide +kernel)) rfl, rfl, Or.inl ⟨rfl, sd_in (List.mem_of_getElem? (i := 417) (by decide +kernel)) rfl⟩, by decide +kernel, by decide +kernel⟩
set_option maxRecDepth 20000 in
theorem mg_TO_far : sd_good mi_TO_far := ⟨sd_in (List.mem_of_getElem? (i := 425) rfl) rfl, by decide +kernel, by decide +kernel, by decide +kernel, sd_in (List.mem_of_getElem? (i := 53) (by decide +kernel)) rfl, rfl, Or.inr ⟨sd_in (List.mem_of_getElem? (i := 423) (by decide +kernel)) rfl, sd_in (List.mem_of_getElem? (i := 424) (by decide +kernel)) rfl, _, rfl, rfl⟩, by decide +kernel, by decide +kernel⟩
set_option maxRecDepth 20000 in
theorem mg_Net_distance : sd_good mi_Net_distance := ⟨sd_in (List.mem_of_getElem? (i := 429) rfl) rfl, by decide +kernel, by decide +kernel, by decide +kernel, sd_in (List.mem_of_getElem? (i := 54) (by decide +kernel)) rfl, rfl, Or.inr ⟨sd_in (List.mem_of_getElem? (i := 427) (by decide +kernel)) rfl, sd_in (List.mem_of_getElem? (i := 428) (by decide +kernel)) rfl, _, rfl, rfl⟩, by decide +kernel, by decide +kernel⟩
set_option maxRecDepth 20000 in
theorem mg_Net_spread : sd_good mi_Net_spread := ⟨sd_in (List.mem_of_getElem? (i := 433) rfl) rfl, by decide +kernel, by decide +kernel, by decide +kernel, sd_in (List.mem_of_getElem? (i := 54) (by decide +kernel)) rfl, rfl, Or.inr ⟨sd_in (List.mem_of_getElem? (i := 431) (by decide +kernel)) rfl, sd_in (List.mem_of_getElem? (i := 432) (by decide +kernel)) rfl, _, rfl, rfl⟩, by decide +kernel, by decide +kernel⟩
set_option maxRecDepth 20000 in
theorem mg_TO_set : sd_good mi_TO_set := ⟨sd_in (List.mem_of_getElem? (i := 437) rfl) rfl, by decide +kernel, by decide +kernel, by decide +kernel, sd_in (List.mem_of_getElem? (i := 53) (by decide +kernel)) rfl, rfl, Or.inr ⟨sd_in (List.mem_of_getElem? (i := 435) (by decide +kernel)) rfl, sd_in (List.mem_of_getElem? (i := 436) (by decide +kernel)) rfl, _, rfl, rfl⟩, by decide +kernel, by decide +kernel⟩
set_option maxRecDepth 20000 in
theorem mg_TO_isSetting : sd_good mi_TO_isSetting := ⟨sd_in (List.mem_of_getElem? (i := 441) rfl) rfl, by decide +kernel, by decide +kernel, by decide +kernel, sd_in (List.mem_of_getElem? (i := 53) (by decide +kernel)) rfl, rfl, Or.inr ⟨sd_in (List.mem_of_getElem? (i := 440) (by decide +kernel)) rfl, sd_in (List.mem_of_getElem? (i := 0) (by decide +kernel)) rfl, _, rfl, rfl⟩, by decide +kernel, by decide +kernel⟩
set_option maxRecDepth 20000 in
theorem mg_TO_isUpTo : sd_good mi_TO_isUpTo := ⟨sd_in (List.mem_of_getElem? (i := 444) rfl) rfl, by decide +kernel, by decide +kernel, by decide +kernel, sd_in (List.mem_of_getElem? (i := 53) (by decide +kernel)) rfl, rfl, Or.inl ⟨rfl, sd_in (List.mem_of_getElem? (i := 443) (by decide +kernel)) rfl⟩, by decide +kernel, by decide +kernel⟩
set_option maxRecDepth 20000 in
theorem mg_TO_setting : sd_good mi_TO_setting := ⟨sd_in (List.mem_of_getElem? (i := 448) rfl) rfl, by decide +kernel, by decide +kernel, by decide +kernel, sd_in (List.mem_of_getElem? (i := 53) (by decide +kernel)) rfl, rfl, Or.inr ⟨sd_in (List.mem_of_getElem? (i := 447) (by decide +kernel)) rfl, sd_in (List.mem_of_getElem? (i := 1) (by decide +kernel)) rfl, _, rfl, rfl⟩, by decide +kernel, by decide +kernel⟩
set_option maxRecDepth 20000 in
theorem mg_Records_look : sd_good mi_Records_look := ⟨sd_in (List.mem_of_getElem? (i := 452) rfl) rfl, by decide +kernel, by decide +kernel, by decide +kernel, sd_in (List.mem_of_getElem? (i := 57) (by decide +kernel)) rfl, rfl, Or.inr ⟨sd_in (List.mem_of_getElem? (i := 450) (by decide +kernel)) rfl, sd_in (List.mem_of_getElem? (i := 451) (by decide +kernel)) rfl, _, rfl, rfl⟩, by decide +kernel, by decide +kernel⟩
set_option maxRecDepth 20000 in
theorem mg_TO_found : sd_good mi_TO_found := ⟨sd_in (List.mem_of_getElem? (i := 456) rfl) rfl, by decide +kernel, by decide +kernel, by decide +kernel, sd_in (List.mem_of_getElem? (i := 53) (by decide +kernel)) rfl, rfl, Or.inr ⟨sd_in (List.mem_of_getElem? (i := 454) (by decide +kernel)) rfl, sd_in (List.mem_of_getElem? (i := 455) (by decide +kernel)) rfl, _, rfl, rfl⟩, by decide +kernel, by decide +kernel⟩
set_option maxRecDepth 20000 in
theorem mg_TO_refusal : sd_good mi_TO_refusal := ⟨sd_in (List.mem_of_getElem? (i := 459) rfl) rfl, by decide +kernel, by decide +kernel, by decide +kernel, sd_in (List.mem_of_getElem? (i := 53) (by decide +kernel)) rfl, rfl, Or.inl ⟨rfl, sd_in (List.mem_of_getElem? (i := 458) (by decide +kernel)) rfl⟩, by decide +kernel, by decide +kernel⟩
set_option maxRecDepth 20000 in
theorem mg_Chains_follow : sd_good mi_Chains_follow := ⟨sd_in (List.mem_of_getElem? (i := 464) rfl) rfl, by decide +kernel, by decide +kernel, by decide +kernel, sd_in (List.mem_of_getElem? (i := 55) (by decide +kernel)) rfl, rfl, Or.inr ⟨sd_in (List.mem_of_getElem? (i := 462) (by decide +kernel)) rfl, sd_in (List.mem_of_getElem? (i := 463) (by decide +kernel)) rfl, _, rfl, rfl⟩, by decide +kernel, by decide +kernel⟩
set_option maxRecDepth 20000 in
theorem mg_Chains_begin : sd_good mi_Chains_begin := ⟨sd_in (List.mem_of_getElem? (i := 468) rfl) rfl, by decide +kernel, by decide +kernel, by decide +kernel, sd_in (List.mem_of_getElem? (i := 55) (by decide +kernel)) rfl, rfl, Or.inr ⟨sd_in (List.mem_of_getElem? (i := 467) (by decide +kernel)) rfl, sd_in (List.mem_of_getElem? (i := 2) (by decide +kernel)) rfl, _, rfl, rfl⟩, by decide +kernel, by decide +kernel⟩
set_option maxRecDepth 20000 in
theorem mg_Arr_fillL : sd_good mi_Arr_fillL := ⟨sd_in (List.mem_of_getElem? (i := 471) rfl) rfl, by decide +kernel, by decide +kernel, by decide +kernel, sd_in (List.mem_of_getElem? (i := 62) (by decide +kernel)) rfl, rfl, Or.inl ⟨rfl, sd_in (List.mem_of_getElem? (i := 470) (by decide +kernel)) rfl⟩, by decide +kernel, by decide +kernel⟩
set_option maxRecDepth 20000 in
theorem mg_Chains_place : sd_good mi_Chains_place := ⟨sd_in (List.mem_of_getElem? (i := 474) rfl) rfl, by decide +kernel, by decide +kernel, by decide +kernel, sd_in (List.mem_of_getElem? (i := 55) (by decide +kernel)) rfl, rfl, Or.inl ⟨rfl, sd_in (List.mem_of_getElem? (i := 473) (by decide +kernel)) rfl⟩, by decide +kernel, by decide +kernel⟩
set_option maxRecDepth 20000 in
theorem mg_Chains_goOn : sd_good mi_Chains_goOn := ⟨sd_in (List.mem_of_getElem? (i := 480) rfl) rfl, by decide +kernel, by decide +kernel, by decide +kernel, sd_in (List.mem_of_getElem? (i := 55) (by decide +kernel)) rfl, rfl, Or.inr ⟨sd_in (List.mem_of_getElem? (i := 479) (by decide +kernel)) rfl, sd_in (List.mem_of_getElem? (i := 3) (by decide +kernel)) rfl, _, rfl, rfl⟩, by decide +kernel, by decide +kernel⟩
set_option maxRecDepth 20000 in
theorem mg_Chains_holding : sd_good mi_Chains_holding := ⟨sd_in (List.mem_of_getElem? (i := 485) rfl) rfl, by decide +kernel, by decide +kernel, by decide +kernel, sd_in (List.mem_of_getElem? (i := 55) (by decide +kernel)) rfl, rfl, Or.inr ⟨sd_in (List.mem_of_getElem? (i := 483) (by decide +kernel)) rfl, sd_in (List.mem_of_getElem? (i := 484) (by decide +kernel)) rfl, _, rfl, rfl⟩, by decide +kernel, by decide +kernel⟩
set_option maxRecDepth 20000 in
theorem mg_TO_fraction : sd_good mi_TO_fraction := ⟨sd_in (List.mem_of_getElem? (i := 488) rfl) rfl, by decide +kernel, by decide +kernel, by decide +kernel, sd_in (List.mem_of_getElem? (i := 53) (by decide +kernel)) rfl, rfl, Or.inl ⟨rfl, sd_in (List.mem_of_getElem? (i := 487) (by decide +kernel)) rfl⟩, by decide +kernel, by decide +kernel⟩
set_option maxRecDepth 20000 in
theorem mg_TO_greatestCommon : sd_good mi_TO_greatestCommon := ⟨sd_in (List.mem_of_getElem? (i := 491) rfl) rfl, by decide +kernel, by decide +kernel, by decide +kernel, sd_in (List.mem_of_getElem? (i := 53) (by decide +kernel)) rfl, rfl, Or.inl ⟨rfl, sd_in (List.mem_of_getElem? (i := 490) (by decide +kernel)) rfl⟩, by decide +kernel, by decide +kernel⟩
set_option maxRecDepth 20000 in
theorem mg_TO_both : sd_good mi_TO_both := ⟨sd_in (List.mem_of_getElem? (i := 495) rfl) rfl, by decide +kernel, by decide +kernel, by decide +kernel, sd_in (List.mem_of_getElem? (i := 53) (by decide +kernel)) rfl, rfl, Or.inr ⟨sd_in (List.mem_of_getElem? (i := 493) (by decide +kernel)) rfl, sd_in (List.mem_of_getElem? (i := 494) (by decide +kernel)) rfl, _, rfl, rfl⟩, by decide +kernel, by decide +kernel⟩
set_option maxRecDepth 20000 in
theorem mg_TO_size : sd_good mi_TO_size := ⟨sd_in (List.mem_of_getElem? (i := 499) rfl) rfl, by decide +kernel, by decide +kernel, by decide +kernel, sd_in (List.mem_of_getElem? (i := 53) (by decide +kernel)) rfl, rfl, Or.inr ⟨sd_in (List.mem_of_getElem? (i := 497) (by decide +kernel)) rfl, sd_in (List.mem_of_getElem? (i := 498) (by decide +kernel)) rfl, _, rfl, rfl⟩, by decide +kernel, by decide +kernel⟩
set_option maxRecDepth 20000 in
theorem mg_Chains_ofSize : sd_good mi_Chains_ofSize := ⟨sd_in (List.mem_of_getElem? (i := 503) rfl) rfl, by decide +kernel, by decide +kernel, by decide +kernel, sd_in (List.mem_of_getElem? (i := 55) (by decide +kernel)) rfl, rfl, Or.inr ⟨sd_in (List.mem_of_getElem? (i := 501) (by decide +kernel)) rfl, sd_in (List.mem_of_getElem? (i := 502) (by decide +kernel)) rfl, _, rfl, rfl⟩, by decide +kernel, by decide +kernel⟩
set_option maxRecDepth 20000 in
theorem mg_TO_kinds : sd_good mi_TO_kinds := ⟨sd_in (List.mem_of_getElem? (i := 507) rfl) rfl, by decide +kernel, by decide +kernel, by decide +kernel, sd_in (List.mem_of_getElem? (i := 53) (by decide +kernel)) rfl, rfl, Or.inr ⟨sd_in (List.mem_of_getElem? (i := 505) (by decide +kernel)) rfl, sd_in (List.mem_of_getElem? (i := 506) (by decide +kernel)) rfl, _, rfl, rfl⟩, by decide +kernel, by decide +kernel⟩
set_option maxRecDepth 20000 in
theorem mg_Chains_ofKind : sd_good mi_Chains_ofKind := ⟨sd_in (List.mem_of_getElem? (i := 511) rfl) rfl, by decide +kernel, by decide +kernel, by decide +kernel, sd_in (List.mem_of_getElem? (i := 55) (by decide +kernel)) rfl, rfl, Or.inr ⟨sd_in (List.mem_of_getElem? (i := 509) (by decide +kernel)) rfl, sd_in (List.mem_of_getElem? (i := 510) (by decide +kernel)) rfl, _, rfl, rfl⟩, by decide +kernel, by decide +kernel⟩
set_option maxRecDepth 20000 in
theorem mg_TO_within : sd_good mi_TO_within := ⟨sd_in (List.mem_of_getElem? (i := 515) rfl) rfl, by decide +kernel, by decide +kernel, by decide +kernel, sd_in (List.mem_of_getElem? (i := 53) (by decide +kernel)) rfl, rfl, Or.inr ⟨sd_in (List.mem_of_getElem? (i := 513) (by decide +kernel)) rfl, sd_in (List.mem_of_getElem? (i := 514) (by decide +kernel)) rfl, _, rfl, rfl⟩, by decide +kernel, by decide +kernel⟩
set_option maxRecDepth 20000 in
theorem mg_Chains_near : sd_good mi_Chains_near := ⟨sd_in (List.mem_of_getElem? (i := 519) rfl) rfl, by decide +kernel, by decide +kernel, by decide +kernel, sd_in (List.mem_of_getElem? (i := 55) (by decide +kernel)) rfl, rfl, Or.inr ⟨sd_in (List.mem_of_getElem? (i := 517) (by decide +kernel)) rfl, sd_in (List.mem_of_getElem? (i := 518) (by decide +kernel)) rfl, _, rfl, rfl⟩, by decide +kernel, by decide +kernel⟩
set_option maxRecDepth 20000 in
theorem mg_Chains_isNear : sd_good mi_Chains_isNear := ⟨sd_in (List.mem_of_getElem? (i := 523) rfl) rfl, by decide +kernel, by decide +kernel, by decide +kernel, sd_in (List.mem_of_getElem? (i := 55) (by decide +kernel)) rfl, rfl, Or.inr ⟨sd_in (List.mem_of_getElem? (i := 522) (by decide +kernel)) rfl, sd_in (List.mem_of_getElem? (i := 4) (by decide +kernel)) rfl, _, rfl, rfl⟩, by decide +kernel, by decide +kernel⟩
set_option maxRecDepth 20000 in
theorem mg_Chains_weight : sd_good mi_Chains_weight := ⟨sd_in (List.mem_of_getElem? (i := 527) rfl) rfl, by decide +kernel, by decide +kernel, by decide +kernel, sd_in (List.mem_of_getElem? (i := 55) (by decide +kernel)) rfl, rfl, Or.inr ⟨sd_in (List.mem_of_getElem? (i := 526) (by decide +kernel)) rfl, sd_in (List.mem_of_getElem? (i := 5) (by decide +kernel)) rfl, _, rfl, rfl⟩, by decide +kernel, by decide +kernel⟩
set_option maxRecDepth 20000 in
theorem mg_Net_kindOnes : sd_good mi_Net_kindOnes := ⟨sd_in (List.mem_of_getElem? (i := 534) rfl) rfl, by decide +kernel, by decide +kernel, by decide +kernel, sd_in (List.mem_of_getElem? (i := 54) (by decide +kernel)) rfl, rfl, Or.inr ⟨sd_in (List.mem_of_getElem? (i := 532) (by decide +kernel)) rfl, sd_in (List.mem_of_getElem? (i := 533) (by decide +kernel)) rfl, _, rfl, rfl⟩, by decide +kernel, by decide +kernel⟩
set_option maxRecDepth 20000 in
theorem mg_TO_at : sd_good mi_TO_at := ⟨sd_in (List.mem_of_getElem? (i := 542) rfl) rfl, by decide +kernel, by decide +kernel, by decide +kernel, sd_in (List.mem_of_getElem? (i := 53) (by decide +kernel)) rfl, rfl, Or.inr ⟨sd_in (List.mem_of_getElem? (i := 540) (by decide +kernel)) rfl, sd_in (List.mem_of_getElem? (i := 541) (by decide +kernel)) rfl, _, rfl, rfl⟩, by decide +kernel, by decide +kernel⟩
set_option maxRecDepth 20000 in
theorem mg_Walk_go : sd_good mi_Walk_go := ⟨sd_in (List.mem_of_getElem? (i := 546) rfl) rfl, by decide +kernel, by decide +kernel, by decide +kernel, sd_in (List.mem_of_getElem? (i := 56) (by decide +kernel)) rfl, rfl, Or.inr ⟨sd_in (List.mem_of_getElem? (i := 544) (by decide +kernel)) rfl, sd_in (List.mem_of_getElem? (i := 545) (by decide +kernel)) rfl, _, rfl, rfl⟩, by decide +kernel, by decide +kernel⟩
set_option maxRecDepth 20000 in
theorem mg_Walk_step : sd_good mi_Walk_step := ⟨sd_in (List.mem_of_getElem? (i := 552) rfl) rfl, by decide +kernel, by decide +kernel, by decide +kernel, sd_in (List.mem_of_getElem? (i := 56) (by decide +kernel)) rfl, rfl, Or.inr ⟨sd_in (List.mem_of_getElem? (i := 551) (by decide +kernel)) rfl, sd_in (List.mem_of_getElem? (i := 6) (by decide +kernel)) rfl, _, rfl, rfl⟩, by decide +kernel, by decide +kernel⟩
set_option maxRecDepth 20000 in
theorem mg_TO_lasting : sd_good mi_TO_lasting := ⟨sd_in (List.mem_of_getElem? (i := 562) rfl) rfl, by decide +kernel, by decide +kernel, by decide +kernel, sd_in (List.mem_of_getElem? (i := 53) (by decide +kernel)) rfl, rfl, Or.inr ⟨sd_in (List.mem_of_getElem? (i := 560) (by decide +kernel)) rfl, sd_in (List.mem_of_getElem? (i := 561) (by decide +kernel)) rfl, _, rfl, rfl⟩, by decide +kernel, by decide +kernel⟩
set_option maxRecDepth 20000 in
theorem mg_Net_degrees : sd_good mi_Net_degrees := ⟨sd_in (List.mem_of_getElem? (i := 567) rfl) rfl, by decide +kernel, by decide +kernel, by decide +kernel, sd_in (List.mem_of_getElem? (i := 54) (by decide +kernel)) rfl, rfl, Or.inr ⟨sd_in (List.mem_of_getElem? (i := 565) (by decide +kernel)) rfl, sd_in (List.mem_of_getElem? (i := 566) (by decide +kernel)) rfl, _, rfl, rfl⟩, by decide +kernel, by decide +kernel⟩
set_option maxRecDepth 20000 in
theorem mg_TO_strayed : sd_good mi_TO_strayed := ⟨sd_in (List.mem_of_getElem? (i := 572) rfl) rfl, by decide +kernel, by decide +kernel, by decide +kernel, sd_in (List.mem_of_getElem? (i := 53) (by decide +kernel)) rfl, rfl, Or.inr ⟨sd_in (List.mem_of_getElem? (i := 570) (by decide +kernel)) rfl, sd_in (List.mem_of_getElem? (i := 571) (by decide +kernel)) rfl, _, rfl, rfl⟩, by decide +kernel, by decide +kernel⟩
set_option maxRecDepth 20000 in
theorem mg_Walk_apart : sd_good mi_Walk_apart := ⟨sd_in (List.mem_of_getElem? (i := 576) rfl) rfl, by decide +kernel, by decide +kernel, by decide +kernel, sd_in (List.mem_of_getElem? (i := 56) (by decide +kernel)) rfl, rfl, Or.inr ⟨sd_in (List.mem_of_getElem? (i := 574) (by decide +kernel)) rfl, sd_in (List.mem_of_getElem? (i := 575) (by decide +kernel)) rfl, _, rfl, rfl⟩, by decide +kernel, by decide +kernel⟩
set_option maxRecDepth 20000 in
theorem mg_Walk_mostApart : sd_good mi_Walk_mostApart := ⟨sd_in (List.mem_of_getElem? (i := 583) rfl) rfl, by decide +kernel, by decide +kernel, by decide +kernel, sd_in (List.mem_of_getElem? (i := 56) (by decide +kernel)) rfl, rfl, Or.inr ⟨sd_in (List.mem_of_getElem? (i := 581) (by decide +kernel)) rfl, sd_in (List.mem_of_getElem? (i := 582) (by decide +kernel)) rfl, _, rfl, rfl⟩, by decide +kernel, by decide +kernel⟩
set_option maxRecDepth 20000 in
theorem mg_TO_came : sd_good mi_TO_came := ⟨sd_in (List.mem_of_getElem? (i := 588) rfl) rfl, by decide +kernel, by decide +kernel, by decide +kernel, sd_in (List.mem_of_getElem? (i := 53) (by decide +kernel)) rfl, rfl, Or.inr ⟨sd_in (List.mem_of_getElem? (i := 586) (by decide +kernel)) rfl, sd_in (List.mem_of_getElem? (i := 587) (by decide +kernel)) rfl, _, rfl, rfl⟩, by decide +kernel, by decide +kernel⟩
set_option maxRecDepth 20000 in
theorem mg_Records_holds : sd_good mi_Records_holds := ⟨sd_in (List.mem_of_getElem? (i := 592) rfl) rfl, by decide +kernel, by decide +kernel, by decide +kernel, sd_in (List.mem_of_getElem? (i := 57) (by decide +kernel)) rfl, rfl, Or.inr ⟨sd_in (List.mem_of_getElem? (i := 590) (by decide +kernel)) rfl, sd_in (List.mem_of_getElem? (i := 591) (by decide +kernel)) rfl, _, rfl, rfl⟩, by decide +kernel, by decide +kernel⟩
set_option maxRecDepth 20000 in
theorem mg_Records_isNextDay : sd_good mi_Records_isNextDay := ⟨sd_in (List.mem_of_getElem? (i := 596) rfl) rfl, by decide +kernel, by decide +kernel, by decide +kernel, sd_in (List.mem_of_getElem? (i := 57) (by decide +kernel)) rfl, rfl, Or.inr ⟨sd_in (List.mem_of_getElem? (i := 594) (by decide +kernel)) rfl, sd_in (List.mem_of_getElem? (i := 595) (by decide +kernel)) rfl, _, rfl, rfl⟩, by decide +kernel, by decide +kernel⟩
set_option maxRecDepth 20000 in
theorem mg_Records_tell : sd_good mi_Records_tell := ⟨sd_in (List.mem_of_getElem? (i := 600) rfl) rfl, by decide +kernel, by decide +kernel, by decide +kernel, sd_in (List.mem_of_getElem? (i := 57) (by decide +kernel)) rfl, rfl, Or.inr ⟨sd_in (List.mem_of_getElem? (i := 598) (by decide +kernel)) rfl, sd_in (List.mem_of_getElem? (i := 599) (by decide +kernel)) rfl, _, rfl, rfl⟩, by decide +kernel, by decide +kernel⟩
set_option maxRecDepth 20000 in
theorem mg_TO_takeBack : sd_good mi_TO_takeBack := ⟨sd_in (List.mem_of_getElem? (i := 606) rfl) rfl, by decide +kernel, by decide +kernel, by decide +kernel, sd_in (List.mem_of_getElem? (i := 53) (by decide +kernel)) rfl, rfl, Or.inr ⟨sd_in (List.mem_of_getElem? (i := 604) (by decide +kernel)) rfl, sd_in (List.mem_of_getElem? (i := 605) (by decide +kernel)) rfl, _, rfl, rfl⟩, by decide +kernel, by decide +kernel⟩
set_option maxRecDepth 20000 in
theorem mg_Records_untell : sd_good mi_Records_untell := ⟨sd_in (List.mem_of_getElem? (i := 610) rfl) rfl, by decide +kernel, by decide +kernel, by decide +kernel, sd_in (List.mem_of_getElem? (i := 57) (by decide +kernel)) rfl, rfl, Or.inr ⟨sd_in (List.mem_of_getElem? (i := 608) (by decide +kernel)) rfl, sd_in (List.mem_of_getElem? (i := 609) (by decide +kernel)) rfl, _, rfl, rfl⟩, by decide +kernel, by decide +kernel⟩
set_option maxRecDepth 20000 in
theorem mg_TO_record : sd_good mi_TO_record := ⟨sd_in (List.mem_of_getElem? (i := 614) rfl) rfl, by decide +kernel, by decide +kernel, by decide +kernel, sd_in (List.mem_of_getElem? (i := 53) (by decide +kernel)) rfl, rfl, Or.inr ⟨sd_in (List.mem_of_getElem? (i := 612) (by decide +kernel)) rfl, sd_in (List.mem_of_getElem? (i := 613) (by decide +kernel)) rfl, _, rfl, rfl⟩, by decide +kernel, by decide +kernel⟩
set_option maxRecDepth 20000 in
theorem mg_Records_detail : sd_good mi_Records_detail := ⟨sd_in (List.mem_of_getElem? (i := 618) rfl) rfl, by decide +kernel, by decide +kernel, by decide +kernel, sd_in (List.mem_of_getElem? (i := 57) (by decide +kernel)) rfl, rfl, Or.inr ⟨sd_in (List.mem_of_getElem? (i := 616) (by decide +kernel)) rfl, sd_in (List.mem_of_getElem? (i := 617) (by decide +kernel)) rfl, _, rfl, rfl⟩, by decide +kernel, by decide +kernel⟩
set_option maxRecDepth 20000 in
theorem mg_TO_share : sd_good mi_TO_share := ⟨sd_in (List.mem_of_getElem? (i := 622) rfl) rfl, by decide +kernel, by decide +kernel, by decide +kernel, sd_in (List.mem_of_getElem? (i := 53) (by decide +kernel)) rfl, rfl, Or.inr ⟨sd_in (List.mem_of_getElem? (i := 620) (by decide +kernel)) rfl, sd_in (List.mem_of_getElem? (i := 621) (by decide +kernel)) rfl, _, rfl, rfl⟩, by decide +kernel, by decide +kernel⟩
set_option maxRecDepth 20000 in
theorem mg_Shares_taken : sd_good mi_Shares_taken := ⟨sd_in (List.mem_of_getElem? (i := 626) rfl) rfl, by decide +kernel, by decide +kernel, by decide +kernel, sd_in (List.mem_of_getElem? (i := 58) (by decide +kernel)) rfl, rfl, Or.inr ⟨sd_in (List.mem_of_getElem? (i := 624) (by decide +kernel)) rfl, sd_in (List.mem_of_getElem? (i := 625) (by decide +kernel)) rfl, _, rfl, rfl⟩, by decide +kernel, by decide +kernel⟩
set_option maxRecDepth 20000 in
theorem mg_Records_isTaken : sd_good mi_Records_isTaken := ⟨sd_in (List.mem_of_getElem? (i := 630) rfl) rfl, by decide +kernel, by decide +kernel, by decide +kernel, sd_in (List.mem_of_getElem? (i := 57) (by decide +kernel)) rfl, rfl, Or.inr ⟨sd_in (List.mem_of_getElem? (i := 628) (by decide +kernel)) rfl, sd_in (List.mem_of_getElem? (i := 629) (by decide +kernel)) rfl, _, rfl, rfl⟩, by decide +kernel, by decide +kernel⟩
set_option maxRecDepth 20000 in
theorem mg_TO_part : sd_good mi_TO_part := ⟨sd_in (List.mem_of_getElem? (i := 633) rfl) rfl, by decide +kernel, by decide +kernel, by decide +kernel, sd_in (List.mem_of_getElem? (i := 53) (by decide +kernel)) rfl, rfl, Or.inl ⟨rfl, sd_in (List.mem_of_getElem? (i := 632) (by decide +kernel)) rfl⟩, by decide +kernel, by decide +kernel⟩
set_option maxRecDepth 20000 in
theorem mg_Shares_byTies : sd_good mi_Shares_byTies := ⟨sd_in (List.mem_of_getElem? (i := 637) rfl) rfl, by decide +kernel, by decide +kernel, by decide +kernel, sd_in (List.mem_of_getElem? (i := 58) (by decide +kernel)) rfl, rfl, Or.inr ⟨sd_in (List.mem_of_getElem? (i := 635) (by decide +kernel)) rfl, sd_in (List.mem_of_getElem? (i := 636) (by decide +kernel)) rfl, _, rfl, rfl⟩, by decide +kernel, by decide +kernel⟩
set_option maxRecDepth 20000 in
theorem mg_Shares_tells : sd_good mi_Shares_tells := ⟨sd_in (List.mem_of_getElem? (i := 641) rfl) rfl, by decide +kernel, by decide +kernel, by decide +kernel, sd_in (List.mem_of_getElem? (i := 58) (by decide +kernel)) rfl, rfl, Or.inr ⟨sd_in (List.mem_of_getElem? (i := 640) (by decide +kernel)) rfl, sd_in (List.mem_of_getElem? (i := 7) (by decide +kernel)) rfl, _, rfl, rfl⟩, by decide +kernel, by decide +kernel⟩
set_option maxRecDepth 20000 in
theorem mg_Shares_byBringing : sd_good mi_Shares_byBringing := ⟨sd_in (List.mem_of_getElem? (i := 647) rfl) rfl, by decide +kernel, by decide +kernel, by decide +kernel, sd_in (List.mem_of_getElem? (i := 58) (by decide +kernel)) rfl, rfl, Or.inr ⟨sd_in (List.mem_of_getElem? (i := 645) (by decide +kernel)) rfl, sd_in (List.mem_of_getElem? (i := 646) (by decide +kernel)) rfl, _, rfl, rfl⟩, by decide +kernel, by decide +kernel⟩
set_option maxRecDepth 20000 in
theorem mg_Shares_countBringing : sd_good mi_Shares_countBringing := ⟨sd_in (List.mem_of_getElem? (i := 651) rfl) rfl, by decide +kernel, by decide +kernel, by decide +kernel, sd_in (List.mem_of_getElem? (i := 58) (by decide +kernel)) rfl, rfl, Or.inr ⟨sd_in (List.mem_of_getElem? (i := 649) (by decide +kernel)) rfl, sd_in (List.mem_of_getElem? (i := 650) (by decide +kernel)) rfl, _, rfl, rfl⟩, by decide +kernel, by decide +kernel⟩
set_option maxRecDepth 20000 in
theorem mg_Shares_pull : sd_good mi_Shares_pull := ⟨sd_in (List.mem_of_getElem? (i := 656) rfl) rfl, by decide +kernel, by decide +kernel, by decide +kernel, sd_in (List.mem_of_getElem? (i := 58) (by decide +kernel)) rfl, rfl, Or.inr ⟨sd_in (List.mem_of_getElem? (i := 654) (by decide +kernel)) rfl, sd_in (List.mem_of_getElem? (i := 655) (by decide +kernel)) rfl, _, rfl, rfl⟩, by decide +kernel, by decide +kernel⟩
set_option maxRecDepth 20000 in
theorem mg_Shares_telling : sd_good mi_Shares_telling := ⟨sd_in (List.mem_of_getElem? (i := 660) rfl) rfl, by decide +kernel, by decide +kernel, by decide +kernel, sd_in (List.mem_of_getElem? (i := 58) (by decide +kernel)) rfl, rfl, Or.inr ⟨sd_in (List.mem_of_getElem? (i := 659) (by decide +kernel)) rfl, sd_in (List.mem_of_getElem? (i := 8) (by decide +kernel)) rfl, _, rfl, rfl⟩, by decide +kernel, by decide +kernel⟩
set_option maxRecDepth 20000 in
theorem mg_TO_bounds : sd_good mi_TO_bounds := ⟨sd_in (List.mem_of_getElem? (i := 665) rfl) rfl, by decide +kernel, by decide +kernel, by decide +kernel, sd_in (List.mem_of_getElem? (i := 53) (by decide +kernel)) rfl, rfl, Or.inr ⟨sd_in (List.mem_of_getElem? (i := 663) (by decide +kernel)) rfl, sd_in (List.mem_of_getElem? (i := 664) (by decide +kernel)) rfl, _, rfl, rfl⟩, by decide +kernel, by decide +kernel⟩
set_option maxRecDepth 20000 in
theorem mg_Shares_rounded : sd_good mi_Shares_rounded := ⟨sd_in (List.mem_of_getElem? (i := 669) rfl) rfl, by decide +kernel, by decide +kernel, by decide +kernel, sd_in (List.mem_of_getElem? (i := 58) (by decide +kernel)) rfl, rfl, Or.inr ⟨sd_in (List.mem_of_getElem? (i := 667) (by decide +kernel)) rfl, sd_in (List.mem_of_getElem? (i := 668) (by decide +kernel)) rfl, _, rfl, rfl⟩, by decide +kernel, by decide +kernel⟩
set_option maxRecDepth 20000 in
theorem mg_TO_leaving : sd_good mi_TO_leaving := ⟨sd_in (List.mem_of_getElem? (i := 674) rfl) rfl, by decide +kernel, by decide +kernel, by decide +kernel, sd_in (List.mem_of_getElem? (i := 53) (by decide +kernel)) rfl, rfl, Or.inr ⟨sd_in (List.mem_of_getElem? (i := 672) (by decide +kernel)) rfl, sd_in (List.mem_of_getElem? (i := 673) (by decide +kernel)) rfl, _, rfl, rfl⟩, by decide +kernel, by decide +kernel⟩
set_option maxRecDepth 20000 in
theorem mg_Shares_treeToLeave : sd_good mi_Shares_treeToLeave := ⟨sd_in (List.mem_of_getElem? (i := 678) rfl) rfl, by decide +kernel, by decide +kernel, by decide +kernel, sd_in (List.mem_of_getElem? (i := 58) (by decide +kernel)) rfl, rfl, Or.inr ⟨sd_in (List.mem_of_getElem? (i := 676) (by decide +kernel)) rfl, sd_in (List.mem_of_getElem? (i := 677) (by decide +kernel)) rfl, _, rfl, rfl⟩, by decide +kernel, by decide +kernel⟩
set_option maxRecDepth 20000 in
theorem mg_Shares_isLess : sd_good mi_Shares_isLess := ⟨sd_in (List.mem_of_getElem? (i := 682) rfl) rfl, by decide +kernel, by decide +kernel, by decide +kernel, sd_in (List.mem_of_getElem? (i := 58) (by decide +kernel)) rfl, rfl, Or.inr ⟨sd_in (List.mem_of_getElem? (i := 681) (by decide +kernel)) rfl, sd_in (List.mem_of_getElem? (i := 9) (by decide +kernel)) rfl, _, rfl, rfl⟩, by decide +kernel, by decide +kernel⟩
set_option maxRecDepth 20000 in
theorem mg_TO_alike : sd_good mi_TO_alike := ⟨sd_in (List.mem_of_getElem? (i := 686) rfl) rfl, by decide +kernel, by decide +kernel, by decide +kernel, sd_in (List.mem_of_getElem? (i := 53) (by decide +kernel)) rfl, rfl, Or.inr ⟨sd_in (List.mem_of_getElem? (i := 684) (by decide +kernel)) rfl, sd_in (List.mem_of_getElem? (i := 685) (by decide +kernel)) rfl, _, rfl, rfl⟩, by decide +kernel, by decide +kernel⟩
set_option maxRecDepth 20000 in
theorem mg_Records_likes : sd_good mi_Records_likes := ⟨sd_in (List.mem_of_getElem? (i := 690) rfl) rfl, by decide +kernel, by decide +kernel, by decide +kernel, sd_in (List.mem_of_getElem? (i := 57) (by decide +kernel)) rfl, rfl, Or.inr ⟨sd_in (List.mem_of_getElem? (i := 688) (by decide +kernel)) rfl, sd_in (List.mem_of_getElem? (i := 689) (by decide +kernel)) rfl, _, rfl, rfl⟩, by decide +kernel, by decide +kernel⟩
set_option maxRecDepth 20000 in
theorem mg_Records_counting : sd_good mi_Records_counting := ⟨sd_in (List.mem_of_getElem? (i := 694) rfl) rfl, by decide +kernel, by decide +kernel, by decide +kernel, sd_in (List.mem_of_getElem? (i := 57) (by decide +kernel)) rfl, rfl, Or.inr ⟨sd_in (List.mem_of_getElem? (i := 692) (by decide +kernel)) rfl, sd_in (List.mem_of_getElem? (i := 693) (by decide +kernel)) rfl, _, rfl, rfl⟩, by decide +kernel, by decide +kernel⟩
set_option maxRecDepth 20000 in
theorem mg_Deals_chance : sd_good mi_Deals_chance := ⟨sd_in (List.mem_of_getElem? (i := 698) rfl) rfl, by decide +kernel, by decide +kernel, by decide +kernel, sd_in (List.mem_of_getElem? (i := 59) (by decide +kernel)) rfl, rfl, Or.inr ⟨sd_in (List.mem_of_getElem? (i := 696) (by decide +kernel)) rfl, sd_in (List.mem_of_getElem? (i := 697) (by decide +kernel)) rfl, _, rfl, rfl⟩, by decide +kernel, by decide +kernel⟩
set_option maxRecDepth 20000 in
theorem mg_Deals_gather : sd_good mi_Deals_gather := ⟨sd_in (List.mem_of_getElem? (i := 702) rfl) rfl, by decide +kernel, by decide +kernel, by decide +kernel, sd_in (List.mem_of_getElem? (i := 59) (by decide +kernel)) rfl, rfl, Or.inr ⟨sd_in (List.mem_of_getElem? (i := 701) (by decide +kernel)) rfl, sd_in (List.mem_of_getElem? (i := 10) (by decide +kernel)) rfl, _, rfl, rfl⟩, by decide +kernel, by decide +kernel⟩
set_option maxRecDepth 20000 in
theorem mg_Deals_alikeIn : sd_good mi_Deals_alikeIn := ⟨sd_in (List.mem_of_getElem? (i := 706) rfl) rfl, by decide +kernel, by decide +kernel, by decide +kernel, sd_in (List.mem_of_getElem? (i := 59) (by decide +kernel)) rfl, rfl, Or.inr ⟨sd_in (List.mem_of_getElem? (i := 705) (by decide +kernel)) rfl, sd_in (List.mem_of_getElem? (i := 11) (by decide +kernel)) rfl, _, rfl, rfl⟩, by decide +kernel, by decide +kernel⟩
set_option maxRecDepth 20000 in
theorem mg_Deals_following : sd_good mi_Deals_following := ⟨sd_in (List.mem_of_getElem? (i := 710) rfl) rfl, by decide +kernel, by decide +kernel, by decide +kernel, sd_in (List.mem_of_getElem? (i := 59) (by decide +kernel)) rfl, rfl, Or.inl ⟨rfl, sd_in (List.mem_of_getElem? (i := 709) (by decide +kernel)) rfl⟩, by decide +kernel, by decide +kernel⟩
set_option maxRecDepth 20000 in
theorem mg_Int_lowestOneBit : sd_good mi_Int_lowestOneBit := ⟨sd_in (List.mem_of_getElem? (i := 714) rfl) rfl, by decide +kernel, by decide +kernel, by decide +kernel, sd_in (List.mem_of_getElem? (i := 65) (by decide +kernel)) rfl, rfl, Or.inl ⟨rfl, sd_in (List.mem_of_getElem? (i := 713) (by decide +kernel)) rfl⟩, by decide +kernel, by decide +kernel⟩
set_option maxRecDepth 20000 in
theorem mg_Int_numberOfTrailingZeros : sd_good mi_Int_numberOfTrailingZeros := ⟨sd_in (List.mem_of_getElem? (i := 717) rfl) rfl, by decide +kernel, by decide +kernel, by decide +kernel, sd_in (List.mem_of_getElem? (i := 65) (by decide +kernel)) rfl, rfl, Or.inl ⟨rfl, sd_in (List.mem_of_getElem? (i := 716) (by decide +kernel)) rfl⟩, by decide +kernel, by decide +kernel⟩
set_option maxRecDepth 20000 in
theorem mg_TO_forgot : sd_good mi_TO_forgot := ⟨sd_in (List.mem_of_getElem? (i := 724) rfl) rfl, by decide +kernel, by decide +kernel, by decide +kernel, sd_in (List.mem_of_getElem? (i := 53) (by decide +kernel)) rfl, rfl, Or.inr ⟨sd_in (List.mem_of_getElem? (i := 722) (by decide +kernel)) rfl, sd_in (List.mem_of_getElem? (i := 723) (by decide +kernel)) rfl, _, rfl, rfl⟩, by decide +kernel, by decide +kernel⟩
set_option maxRecDepth 20000 in
theorem mg_Shares_ofWave : sd_good mi_Shares_ofWave := ⟨sd_in (List.mem_of_getElem? (i := 730) rfl) rfl, by decide +kernel, by decide +kernel, by decide +kernel, sd_in (List.mem_of_getElem? (i := 58) (by decide +kernel)) rfl, rfl, Or.inr ⟨sd_in (List.mem_of_getElem? (i := 728) (by decide +kernel)) rfl, sd_in (List.mem_of_getElem? (i := 729) (by decide +kernel)) rfl, _, rfl, rfl⟩, by decide +kernel, by decide +kernel⟩
set_option maxRecDepth 20000 in
theorem mg_Shares_wholeWave : sd_good mi_Shares_wholeWave := ⟨sd_in (List.mem_of_getElem? (i := 734) rfl) rfl, by decide +kernel, by decide +kernel, by decide +kernel, sd_in (List.mem_of_getElem? (i := 58) (by decide +kernel)) rfl, rfl, Or.inr ⟨sd_in (List.mem_of_getElem? (i := 732) (by decide +kernel)) rfl, sd_in (List.mem_of_getElem? (i := 733) (by decide +kernel)) rfl, _, rfl, rfl⟩, by decide +kernel, by decide +kernel⟩
set_option maxRecDepth 20000 in
theorem mg_TO_wave : sd_good mi_TO_wave := ⟨sd_in (List.mem_of_getElem? (i := 742) rfl) rfl, by decide +kernel, by decide +kernel, by decide +kernel, sd_in (List.mem_of_getElem? (i := 53) (by decide +kernel)) rfl, rfl, Or.inr ⟨sd_in (List.mem_of_getElem? (i := 740) (by decide +kernel)) rfl, sd_in (List.mem_of_getElem? (i := 741) (by decide +kernel)) rfl, _, rfl, rfl⟩, by decide +kernel, by decide +kernel⟩
set_option maxRecDepth 20000 in
theorem mg_Records_inWave : sd_good mi_Records_inWave := ⟨sd_in (List.mem_of_getElem? (i := 746) rfl) rfl, by decide +kernel, by decide +kernel, by decide +kernel, sd_in (List.mem_of_getElem? (i := 57) (by decide +kernel)) rfl, rfl, Or.inr ⟨sd_in (List.mem_of_getElem? (i := 744) (by decide +kernel)) rfl, sd_in (List.mem_of_getElem? (i := 745) (by decide +kernel)) rfl, _, rfl, rfl⟩, by decide +kernel, by decide +kernel⟩
set_option maxRecDepth 20000 in
theorem mg_TO_type : sd_good mi_TO_type := ⟨sd_in (List.mem_of_getElem? (i := 750) rfl) rfl, by decide +kernel, by decide +kernel, by decide +kernel, sd_in (List.mem_of_getElem? (i := 53) (by decide +kernel)) rfl, rfl, Or.inr ⟨sd_in (List.mem_of_getElem? (i := 748) (by decide +kernel)) rfl, sd_in (List.mem_of_getElem? (i := 749) (by decide +kernel)) rfl, _, rfl, rfl⟩, by decide +kernel, by decide +kernel⟩
set_option maxRecDepth 20000 in
theorem mg_Marks_isSign : sd_good mi_Marks_isSign := ⟨sd_in (List.mem_of_getElem? (i := 753) rfl) rfl, by decide +kernel, by decide +kernel, by decide +kernel, sd_in (List.mem_of_getElem? (i := 60) (by decide +kernel)) rfl, rfl, Or.inl ⟨rfl, sd_in (List.mem_of_getElem? (i := 752) (by decide +kernel)) rfl⟩, by decide +kernel, by decide +kernel⟩
set_option maxRecDepth 20000 in
theorem mg_Marks_append : sd_good mi_Marks_append := ⟨sd_in (List.mem_of_getElem? (i := 757) rfl) rfl, by decide +kernel, by decide +kernel, by decide +kernel, sd_in (List.mem_of_getElem? (i := 60) (by decide +kernel)) rfl, rfl, Or.inr ⟨sd_in (List.mem_of_getElem? (i := 755) (by decide +kernel)) rfl, sd_in (List.mem_of_getElem? (i := 756) (by decide +kernel)) rfl, _, rfl, rfl⟩, by decide +kernel, by decide +kernel⟩
set_option maxRecDepth 20000 in
theorem mg_TO_wipe : sd_good mi_TO_wipe := ⟨sd_in (List.mem_of_getElem? (i := 761) rfl) rfl, by decide +kernel, by decide +kernel, by decide +kernel, sd_in (List.mem_of_getElem? (i := 53) (by decide +kernel)) rfl, rfl, Or.inr ⟨sd_in (List.mem_of_getElem? (i := 759) (by decide +kernel)) rfl, sd_in (List.mem_of_getElem? (i := 760) (by decide +kernel)) rfl, _, rfl, rfl⟩, by decide +kernel, by decide +kernel⟩
set_option maxRecDepth 20000 in
theorem mg_TO_clash : sd_good mi_TO_clash := ⟨sd_in (List.mem_of_getElem? (i := 765) rfl) rfl, by decide +kernel, by decide +kernel, by decide +kernel, sd_in (List.mem_of_getElem? (i := 53) (by decide +kernel)) rfl, rfl, Or.inr ⟨sd_in (List.mem_of_getElem? (i := 763) (by decide +kernel)) rfl, sd_in (List.mem_of_getElem? (i := 764) (by decide +kernel)) rfl, _, rfl, rfl⟩, by decide +kernel, by decide +kernel⟩
set_option maxRecDepth 20000 in
theorem mg_Marks_differ : sd_good mi_Marks_differ := ⟨sd_in (List.mem_of_getElem? (i := 769) rfl) rfl, by decide +kernel, by decide +kernel, by decide +kernel, sd_in (List.mem_of_getElem? (i := 60) (by decide +kernel)) rfl, rfl, Or.inr ⟨sd_in (List.mem_of_getElem? (i := 767) (by decide +kernel)) rfl, sd_in (List.mem_of_getElem? (i := 768) (by decide +kernel)) rfl, _, rfl, rfl⟩, by decide +kernel, by decide +kernel⟩
set_option maxRecDepth 20000 in
theorem mg_TO_least : sd_good mi_TO_least := ⟨sd_in (List.mem_of_getElem? (i := 774) rfl) rfl, by decide +kernel, by decide +kernel, by decide +kernel, sd_in (List.mem_of_getElem? (i := 53) (by decide +kernel)) rfl, rfl, Or.inr ⟨sd_in (List.mem_of_getElem? (i := 772) (by decide +kernel)) rfl, sd_in (List.mem_of_getElem? (i := 773) (by decide +kernel)) rfl, _, rfl, rfl⟩, by decide +kernel, by decide +kernel⟩
set_option maxRecDepth 20000 in
theorem mg_Marks_tellApart : sd_good mi_Marks_tellApart := ⟨sd_in (List.mem_of_getElem? (i := 778) rfl) rfl, by decide +kernel, by decide +kernel, by decide +kernel, sd_in (List.mem_of_getElem? (i := 60) (by decide +kernel)) rfl, rfl, Or.inr ⟨sd_in (List.mem_of_getElem? (i := 776) (by decide +kernel)) rfl, sd_in (List.mem_of_getElem? (i := 777) (by decide +kernel)) rfl, _, rfl, rfl⟩, by decide +kernel, by decide +kernel⟩
set_option maxRecDepth 20000 in
theorem mg_Marks_gather : sd_good mi_Marks_gather := ⟨sd_in (List.mem_of_getElem? (i := 782) rfl) rfl, by decide +kernel, by decide +kernel, by decide +kernel, sd_in (List.mem_of_getElem? (i := 60) (by decide +kernel)) rfl, rfl, Or.inr ⟨sd_in (List.mem_of_getElem? (i := 781) (by decide +kernel)) rfl, sd_in (List.mem_of_getElem? (i := 12) (by decide +kernel)) rfl, _, rfl, rfl⟩, by decide +kernel, by decide +kernel⟩
set_option maxRecDepth 20000 in
theorem mg_Marks_apartForSure : sd_good mi_Marks_apartForSure := ⟨sd_in (List.mem_of_getElem? (i := 787) rfl) rfl, by decide +kernel, by decide +kernel, by decide +kernel, sd_in (List.mem_of_getElem? (i := 60) (by decide +kernel)) rfl, rfl, Or.inr ⟨sd_in (List.mem_of_getElem? (i := 786) (by decide +kernel)) rfl, sd_in (List.mem_of_getElem? (i := 13) (by decide +kernel)) rfl, _, rfl, rfl⟩, by decide +kernel, by decide +kernel⟩
set_option maxRecDepth 20000 in
theorem mg_Marks_deal : sd_good mi_Marks_deal := ⟨sd_in (List.mem_of_getElem? (i := 793) rfl) rfl, by decide +kernel, by decide +kernel, by decide +kernel, sd_in (List.mem_of_getElem? (i := 60) (by decide +kernel)) rfl, rfl, Or.inr ⟨sd_in (List.mem_of_getElem? (i := 792) (by decide +kernel)) rfl, sd_in (List.mem_of_getElem? (i := 14) (by decide +kernel)) rfl, _, rfl, rfl⟩, by decide +kernel, by decide +kernel⟩
set_option maxRecDepth 20000 in
theorem mg_TO_ones : sd_good mi_TO_ones := ⟨sd_in (List.mem_of_getElem? (i := 797) rfl) rfl, by decide +kernel, by decide +kernel, by decide +kernel, sd_in (List.mem_of_getElem? (i := 53) (by decide +kernel)) rfl, rfl, Or.inr ⟨sd_in (List.mem_of_getElem? (i := 795) (by decide +kernel)) rfl, sd_in (List.mem_of_getElem? (i := 796) (by decide +kernel)) rfl, _, rfl, rfl⟩, by decide +kernel, by decide +kernel⟩
set_option maxRecDepth 20000 in
theorem mg_Marks_personOf : sd_good mi_Marks_personOf := ⟨sd_in (List.mem_of_getElem? (i := 801) rfl) rfl, by decide +kernel, by decide +kernel, by decide +kernel, sd_in (List.mem_of_getElem? (i := 60) (by decide +kernel)) rfl, rfl, Or.inr ⟨sd_in (List.mem_of_getElem? (i := 799) (by decide +kernel)) rfl, sd_in (List.mem_of_getElem? (i := 800) (by decide +kernel)) rfl, _, rfl, rfl⟩, by decide +kernel, by decide +kernel⟩
set_option maxRecDepth 20000 in
theorem mg_TO_reach : sd_good mi_TO_reach := ⟨sd_in (List.mem_of_getElem? (i := 805) rfl) rfl, by decide +kernel, by decide +kernel, by decide +kernel, sd_in (List.mem_of_getElem? (i := 53) (by decide +kernel)) rfl, rfl, Or.inr ⟨sd_in (List.mem_of_getElem? (i := 803) (by decide +kernel)) rfl, sd_in (List.mem_of_getElem? (i := 804) (by decide +kernel)) rfl, _, rfl, rfl⟩, by decide +kernel, by decide +kernel⟩
set_option maxRecDepth 20000 in
theorem mg_Net_fewestReaching : sd_good mi_Net_fewestReaching := ⟨sd_in (List.mem_of_getElem? (i := 809) rfl) rfl, by decide +kernel, by decide +kernel, by decide +kernel, sd_in (List.mem_of_getElem? (i := 54) (by decide +kernel)) rfl, rfl, Or.inr ⟨sd_in (List.mem_of_getElem? (i := 807) (by decide +kernel)) rfl, sd_in (List.mem_of_getElem? (i := 808) (by decide +kernel)) rfl, _, rfl, rfl⟩, by decide +kernel, by decide +kernel⟩
set_option maxRecDepth 20000 in
theorem mg_TO_parts : sd_good mi_TO_parts := ⟨sd_in (List.mem_of_getElem? (i := 813) rfl) rfl, by decide +kernel, by decide +kernel, by decide +kernel, sd_in (List.mem_of_getElem? (i := 53) (by decide +kernel)) rfl, rfl, Or.inr ⟨sd_in (List.mem_of_getElem? (i := 811) (by decide +kernel)) rfl, sd_in (List.mem_of_getElem? (i := 812) (by decide +kernel)) rfl, _, rfl, rfl⟩, by decide +kernel, by decide +kernel⟩
set_option maxRecDepth 20000 in
theorem mg_Net_pieces : sd_good mi_Net_pieces := ⟨sd_in (List.mem_of_getElem? (i := 817) rfl) rfl, by decide +kernel, by decide +kernel, by decide +kernel, sd_in (List.mem_of_getElem? (i := 54) (by decide +kernel)) rfl, rfl, Or.inr ⟨sd_in (List.mem_of_getElem? (i := 815) (by decide +kernel)) rfl, sd_in (List.mem_of_getElem? (i := 816) (by decide +kernel)) rfl, _, rfl, rfl⟩, by decide +kernel, by decide +kernel⟩
set_option maxRecDepth 20000 in
theorem mg_Net_bridges : sd_good mi_Net_bridges := ⟨sd_in (List.mem_of_getElem? (i := 822) rfl) rfl, by decide +kernel, by decide +kernel, by decide +kernel, sd_in (List.mem_of_getElem? (i := 54) (by decide +kernel)) rfl, rfl, Or.inr ⟨sd_in (List.mem_of_getElem? (i := 820) (by decide +kernel)) rfl, sd_in (List.mem_of_getElem? (i := 821) (by decide +kernel)) rfl, _, rfl, rfl⟩, by decide +kernel, by decide +kernel⟩
set_option maxRecDepth 20000 in
theorem mg_TO_narrow : sd_good mi_TO_narrow := ⟨sd_in (List.mem_of_getElem? (i := 827) rfl) rfl, by decide +kernel, by decide +kernel, by decide +kernel, sd_in (List.mem_of_getElem? (i := 53) (by decide +kernel)) rfl, rfl, Or.inr ⟨sd_in (List.mem_of_getElem? (i := 825) (by decide +kernel)) rfl, sd_in (List.mem_of_getElem? (i := 826) (by decide +kernel)) rfl, _, rfl, rfl⟩, by decide +kernel, by decide +kernel⟩
set_option maxRecDepth 20000 in
theorem mg_Net_narrowest : sd_good mi_Net_narrowest := ⟨sd_in (List.mem_of_getElem? (i := 831) rfl) rfl, by decide +kernel, by decide +kernel, by decide +kernel, sd_in (List.mem_of_getElem? (i := 54) (by decide +kernel)) rfl, rfl, Or.inr ⟨sd_in (List.mem_of_getElem? (i := 829) (by decide +kernel)) rfl, sd_in (List.mem_of_getElem? (i := 830) (by decide +kernel)) rfl, _, rfl, rfl⟩, by decide +kernel, by decide +kernel⟩
set_option maxRecDepth 20000 in
theorem mg_Net_leadingOut : sd_good mi_Net_leadingOut := ⟨sd_in (List.mem_of_getElem? (i := 836) rfl) rfl, by decide +kernel, by decide +kernel, by decide +kernel, sd_in (List.mem_of_getElem? (i := 54) (by decide +kernel)) rfl, rfl, Or.inr ⟨sd_in (List.mem_of_getElem? (i := 834) (by decide +kernel)) rfl, sd_in (List.mem_of_getElem? (i := 835) (by decide +kernel)) rfl, _, rfl, rfl⟩, by decide +kernel, by decide +kernel⟩
set_option maxRecDepth 20000 in
theorem mg_TO_sheet : sd_good mi_TO_sheet := ⟨sd_in (List.mem_of_getElem? (i := 842) rfl) rfl, by decide +kernel, by decide +kernel, by decide +kernel, sd_in (List.mem_of_getElem? (i := 53) (by decide +kernel)) rfl, rfl, Or.inr ⟨sd_in (List.mem_of_getElem? (i := 840) (by decide +kernel)) rfl, sd_in (List.mem_of_getElem? (i := 841) (by decide +kernel)) rfl, _, rfl, rfl⟩, by decide +kernel, by decide +kernel⟩
set_option maxRecDepth 20000 in
theorem mg_Sheets_isForm : sd_good mi_Sheets_isForm := ⟨sd_in (List.mem_of_getElem? (i := 845) rfl) rfl, by decide +kernel, by decide +kernel, by decide +kernel, sd_in (List.mem_of_getElem? (i := 61) (by decide +kernel)) rfl, rfl, Or.inl ⟨rfl, sd_in (List.mem_of_getElem? (i := 844) (by decide +kernel)) rfl⟩, by decide +kernel, by decide +kernel⟩
set_option maxRecDepth 20000 in
theorem mg_Sheets_renew : sd_good mi_Sheets_renew := ⟨sd_in (List.mem_of_getElem? (i := 849) rfl) rfl, by decide +kernel, by decide +kernel, by decide +kernel, sd_in (List.mem_of_getElem? (i := 61) (by decide +kernel)) rfl, rfl, Or.inr ⟨sd_in (List.mem_of_getElem? (i := 847) (by decide +kernel)) rfl, sd_in (List.mem_of_getElem? (i := 848) (by decide +kernel)) rfl, _, rfl, rfl⟩, by decide +kernel, by decide +kernel⟩
set_option maxRecDepth 20000 in
theorem mg_TO_lose : sd_good mi_TO_lose := ⟨sd_in (List.mem_of_getElem? (i := 853) rfl) rfl, by decide +kernel, by decide +kernel, by decide +kernel, sd_in (List.mem_of_getElem? (i := 53) (by decide +kernel)) rfl, rfl, Or.inr ⟨sd_in (List.mem_of_getElem? (i := 851) (by decide +kernel)) rfl, sd_in (List.mem_of_getElem? (i := 852) (by decide +kernel)) rfl, _, rfl, rfl⟩, by decide +kernel, by decide +kernel⟩
set_option maxRecDepth 20000 in
theorem mg_TO_lay : sd_good mi_TO_lay := ⟨sd_in (List.mem_of_getElem? (i := 857) rfl) rfl, by decide +kernel, by decide +kernel, by decide +kernel, sd_in (List.mem_of_getElem? (i := 53) (by decide +kernel)) rfl, rfl, Or.inr ⟨sd_in (List.mem_of_getElem? (i := 855) (by decide +kernel)) rfl, sd_in (List.mem_of_getElem? (i := 856) (by decide +kernel)) rfl, _, rfl, rfl⟩, by decide +kernel, by decide +kernel⟩
set_option maxRecDepth 20000 in
theorem mg_Sheets_faultOf : sd_good mi_Sheets_faultOf := ⟨sd_in (List.mem_of_getElem? (i := 861) rfl) rfl, by decide +kernel, by decide +kernel, by decide +kernel, sd_in (List.mem_of_getElem? (i := 61) (by decide +kernel)) rfl, rfl, Or.inr ⟨sd_in (List.mem_of_getElem? (i := 859) (by decide +kernel)) rfl, sd_in (List.mem_of_getElem? (i := 860) (by decide +kernel)) rfl, _, rfl, rfl⟩, by decide +kernel, by decide +kernel⟩
set_option maxRecDepth 20000 in
theorem mg_Sheets_put : sd_good mi_Sheets_put := ⟨sd_in (List.mem_of_getElem? (i := 866) rfl) rfl, by decide +kernel, by decide +kernel, by decide +kernel, sd_in (List.mem_of_getElem? (i := 61) (by decide +kernel)) rfl, rfl, Or.inr ⟨sd_in (List.mem_of_getElem? (i := 864) (by decide +kernel)) rfl, sd_in (List.mem_of_getElem? (i := 865) (by decide +kernel)) rfl, _, rfl, rfl⟩, by decide +kernel, by decide +kernel⟩
set_option maxRecDepth 20000 in
theorem mg_TO_get : sd_good mi_TO_get := ⟨sd_in (List.mem_of_getElem? (i := 870) rfl) rfl, by decide +kernel, by decide +kernel, by decide +kernel, sd_in (List.mem_of_getElem? (i := 53) (by decide +kernel)) rfl, rfl, Or.inr ⟨sd_in (List.mem_of_getElem? (i := 868) (by decide +kernel)) rfl, sd_in (List.mem_of_getElem? (i := 869) (by decide +kernel)) rfl, _, rfl, rfl⟩, by decide +kernel, by decide +kernel⟩
set_option maxRecDepth 20000 in
theorem mg_TO_copy : sd_good mi_TO_copy := ⟨sd_in (List.mem_of_getElem? (i := 875) rfl) rfl, by decide +kernel, by decide +kernel, by decide +kernel, sd_in (List.mem_of_getElem? (i := 53) (by decide +kernel)) rfl, rfl, Or.inr ⟨sd_in (List.mem_of_getElem? (i := 873) (by decide +kernel)) rfl, sd_in (List.mem_of_getElem? (i := 874) (by decide +kernel)) rfl, _, rfl, rfl⟩, by decide +kernel, by decide +kernel⟩
set_option maxRecDepth 20000 in
theorem mg_Sheets_spans : sd_good mi_Sheets_spans := ⟨sd_in (List.mem_of_getElem? (i := 879) rfl) rfl, by decide +kernel, by decide +kernel, by decide +kernel, sd_in (List.mem_of_getElem? (i := 61) (by decide +kernel)) rfl, rfl, Or.inr ⟨sd_in (List.mem_of_getElem? (i := 877) (by decide +kernel)) rfl, sd_in (List.mem_of_getElem? (i := 878) (by decide +kernel)) rfl, _, rfl, rfl⟩, by decide +kernel, by decide +kernel⟩
set_option maxRecDepth 20000 in
theorem mg_TO_write : sd_good mi_TO_write := ⟨sd_in (List.mem_of_getElem? (i := 884) rfl) rfl, by decide +kernel, by decide +kernel, by decide +kernel, sd_in (List.mem_of_getElem? (i := 53) (by decide +kernel)) rfl, rfl, Or.inr ⟨sd_in (List.mem_of_getElem? (i := 882) (by decide +kernel)) rfl, sd_in (List.mem_of_getElem? (i := 883) (by decide +kernel)) rfl, _, rfl, rfl⟩, by decide +kernel, by decide +kernel⟩
set_option maxRecDepth 20000 in
theorem mg_TO_count : sd_good mi_TO_count := ⟨sd_in (List.mem_of_getElem? (i := 888) rfl) rfl, by decide +kernel, by decide +kernel, by decide +kernel, sd_in (List.mem_of_getElem? (i := 53) (by decide +kernel)) rfl, rfl, Or.inr ⟨sd_in (List.mem_of_getElem? (i := 886) (by decide +kernel)) rfl, sd_in (List.mem_of_getElem? (i := 887) (by decide +kernel)) rfl, _, rfl, rfl⟩, by decide +kernel, by decide +kernel⟩
set_option maxRecDepth 20000 in
theorem mg_Marks_signsOfAll : sd_good mi_Marks_signsOfAll := ⟨sd_in (List.mem_of_getElem? (i := 892) rfl) rfl, by decide +kernel, by decide +kernel, by decide +kernel, sd_in (List.mem_of_getElem? (i := 60) (by decide +kernel)) rfl, rfl, Or.inr ⟨sd_in (List.mem_of_getElem? (i := 890) (by decide +kernel)) rfl, sd_in (List.mem_of_getElem? (i := 891) (by decide +kernel)) rfl, _, rfl, rfl⟩, by decide +kernel, by decide +kernel⟩
set_option maxRecDepth 20000 in
theorem mg_TO_digest : sd_good mi_TO_digest := ⟨sd_in (List.mem_of_getElem? (i := 896) rfl) rfl, by decide +kernel, by decide +kernel, by decide +kernel, sd_in (List.mem_of_getElem? (i := 53) (by decide +kernel)) rfl, rfl, Or.inr ⟨sd_in (List.mem_of_getElem? (i := 894) (by decide +kernel)) rfl, sd_in (List.mem_of_getElem? (i := 895) (by decide +kernel)) rfl, _, rfl, rfl⟩, by decide +kernel, by decide +kernel⟩
set_option maxRecDepth 20000 in
theorem mg_TO_digestOfNet : sd_good mi_TO_digestOfNet := ⟨sd_in (List.mem_of_getElem? (i := 903) rfl) rfl, by decide +kernel, by decide +kernel, by decide +kernel, sd_in (List.mem_of_getElem? (i := 53) (by decide +kernel)) rfl, rfl, Or.inr ⟨sd_in (List.mem_of_getElem? (i := 902) (by decide +kernel)) rfl, sd_in (List.mem_of_getElem? (i := 15) (by decide +kernel)) rfl, _, rfl, rfl⟩, by decide +kernel, by decide +kernel⟩
set_option maxRecDepth 20000 in
theorem mg_TO_digestOfRecords : sd_good mi_TO_digestOfRecords := ⟨sd_in (List.mem_of_getElem? (i := 910) rfl) rfl, by decide +kernel, by decide +kernel, by decide +kernel, sd_in (List.mem_of_getElem? (i := 53) (by decide +kernel)) rfl, rfl, Or.inr ⟨sd_in (List.mem_of_getElem? (i := 909) (by decide +kernel)) rfl, sd_in (List.mem_of_getElem? (i := 16) (by decide +kernel)) rfl, _, rfl, rfl⟩, by decide +kernel, by decide +kernel⟩
set_option maxRecDepth 20000 in
theorem mg_Mod_sheet : sd_good mi_Mod_sheet := ⟨sd_in (List.mem_of_getElem? (i := 1073) rfl) rfl, by decide +kernel, by decide +kernel, by decide +kernel, sd_in (List.mem_of_getElem? (i := 63) (by decide +kernel)) rfl, rfl, Or.inr ⟨sd_in (List.mem_of_getElem? (i := 1071) (by decide +kernel)) rfl, sd_in (List.mem_of_getElem? (i := 1072) (by decide +kernel)) rfl, _, rfl, rfl⟩, by decide +kernel, by decide +kernel⟩
set_option maxRecDepth 20000 in
theorem mg_Mod_isSheet : sd_good mi_Mod_isSheet := ⟨sd_in (List.mem_of_getElem? (i := 1076) rfl) rfl, by decide +kernel, by decide +kernel, by decide +kernel, sd_in (List.mem_of_getElem? (i := 63) (by decide +kernel)) rfl, rfl, Or.inl ⟨rfl, sd_in (List.mem_of_getElem? (i := 1075) (by decide +kernel)) rfl⟩, by decide +kernel, by decide +kernel⟩
set_option maxRecDepth 20000 in
theorem mg_Mod_in : sd_good mi_Mod_in := ⟨sd_in (List.mem_of_getElem? (i := 1080) rfl) rfl, by decide +kernel, by decide +kernel, by decide +kernel, sd_in (List.mem_of_getElem? (i := 63) (by decide +kernel)) rfl, rfl, Or.inl ⟨rfl, sd_in (List.mem_of_getElem? (i := 1079) (by decide +kernel)) rfl⟩, by decide +kernel, by decide +kernel⟩
set_option maxRecDepth 20000 in
theorem mg_Mod_met : sd_good mi_Mod_met := ⟨sd_in (List.mem_of_getElem? (i := 1085) rfl) rfl, by decide +kernel, by decide +kernel, by decide +kernel, sd_in (List.mem_of_getElem? (i := 63) (by decide +kernel)) rfl, rfl, Or.inr ⟨sd_in (List.mem_of_getElem? (i := 1084) (by decide +kernel)) rfl, sd_in (List.mem_of_getElem? (i := 17) (by decide +kernel)) rfl, _, rfl, rfl⟩, by decide +kernel, by decide +kernel⟩
set_option maxRecDepth 20000 in
theorem mg_Mod_lose : sd_good mi_Mod_lose := ⟨sd_in (List.mem_of_getElem? (i := 1089) rfl) rfl, by decide +kernel, by decide +kernel, by decide +kernel, sd_in (List.mem_of_getElem? (i := 63) (by decide +kernel)) rfl, rfl, Or.inr ⟨sd_in (List.mem_of_getElem? (i := 1087) (by decide +kernel)) rfl, sd_in (List.mem_of_getElem? (i := 1088) (by decide +kernel)) rfl, _, rfl, rfl⟩, by decide +kernel, by decide +kernel⟩
set_option maxRecDepth 20000 in
theorem mg_Mod_lay : sd_good mi_Mod_lay := ⟨sd_in (List.mem_of_getElem? (i := 1093) rfl) rfl, by decide +kernel, by decide +kernel, by decide +kernel, sd_in (List.mem_of_getElem? (i := 63) (by decide +kernel)) rfl, rfl, Or.inr ⟨sd_in (List.mem_of_getElem? (i := 1091) (by decide +kernel)) rfl, sd_in (List.mem_of_getElem? (i := 1092) (by decide +kernel)) rfl, _, rfl, rfl⟩, by decide +kernel, by decide +kernel⟩
set_option maxRecDepth 20000 in
theorem mg_Mod_lacks : sd_good mi_Mod_lacks := ⟨sd_in (List.mem_of_getElem? (i := 1097) rfl) rfl, by decide +kernel, by decide +kernel, by decide +kernel, sd_in (List.mem_of_getElem? (i := 63) (by decide +kernel)) rfl, rfl, Or.inr ⟨sd_in (List.mem_of_getElem? (i := 1096) (by decide +kernel)) rfl, sd_in (List.mem_of_getElem? (i := 18) (by decide +kernel)) rfl, _, rfl, rfl⟩, by decide +kernel, by decide +kernel⟩
set_option maxRecDepth 20000 in
theorem mg_Mod_cut : sd_good mi_Mod_cut := ⟨sd_in (List.mem_of_getElem? (i := 1100) rfl) rfl, by decide +kernel, by decide +kernel, by decide +kernel, sd_in (List.mem_of_getElem? (i := 63) (by decide +kernel)) rfl, rfl, Or.inl ⟨rfl, sd_in (List.mem_of_getElem? (i := 1099) (by decide +kernel)) rfl⟩, by decide +kernel, by decide +kernel⟩
set_option maxRecDepth 20000 in
theorem mg_Mod_get : sd_good mi_Mod_get := ⟨sd_in (List.mem_of_getElem? (i := 1104) rfl) rfl, by decide +kernel, by decide +kernel, by decide +kernel, sd_in (List.mem_of_getElem? (i := 63) (by decide +kernel)) rfl, rfl, Or.inr ⟨sd_in (List.mem_of_getElem? (i := 1102) (by decide +kernel)) rfl, sd_in (List.mem_of_getElem? (i := 1103) (by decide +kernel)) rfl, _, rfl, rfl⟩, by decide +kernel, by decide +kernel⟩
set_option maxRecDepth 20000 in
theorem mg_Mod_copy : sd_good mi_Mod_copy := ⟨sd_in (List.mem_of_getElem? (i := 1109) rfl) rfl, by decide +kernel, by decide +kernel, by decide +kernel, sd_in (List.mem_of_getElem? (i := 63) (by decide +kernel)) rfl, rfl, Or.inr ⟨sd_in (List.mem_of_getElem? (i := 1107) (by decide +kernel)) rfl, sd_in (List.mem_of_getElem? (i := 1108) (by decide +kernel)) rfl, _, rfl, rfl⟩, by decide +kernel, by decide +kernel⟩
set_option maxRecDepth 20000 in
theorem mg_Mod_persons : sd_good mi_Mod_persons := ⟨sd_in (List.mem_of_getElem? (i := 1113) rfl) rfl, by decide +kernel, by decide +kernel, by decide +kernel, sd_in (List.mem_of_getElem? (i := 63) (by decide +kernel)) rfl, rfl, Or.inr ⟨sd_in (List.mem_of_getElem? (i := 1111) (by decide +kernel)) rfl, sd_in (List.mem_of_getElem? (i := 1112) (by decide +kernel)) rfl, _, rfl, rfl⟩, by decide +kernel, by decide +kernel⟩
set_option maxRecDepth 20000 in
theorem mg_Mod_tie : sd_good mi_Mod_tie := ⟨sd_in (List.mem_of_getElem? (i := 1118) rfl) rfl, by decide +kernel, by decide +kernel, by decide +kernel, sd_in (List.mem_of_getElem? (i := 63) (by decide +kernel)) rfl, rfl, Or.inr ⟨sd_in (List.mem_of_getElem? (i := 1116) (by decide +kernel)) rfl, sd_in (List.mem_of_getElem? (i := 1117) (by decide +kernel)) rfl, _, rfl, rfl⟩, by decide +kernel, by decide +kernel⟩
set_option maxRecDepth 20000 in
theorem mg_Mod_isPerson : sd_good mi_Mod_isPerson := ⟨sd_in (List.mem_of_getElem? (i := 1122) rfl) rfl, by decide +kernel, by decide +kernel, by decide +kernel, sd_in (List.mem_of_getElem? (i := 63) (by decide +kernel)) rfl, rfl, Or.inr ⟨sd_in (List.mem_of_getElem? (i := 1121) (by decide +kernel)) rfl, sd_in (List.mem_of_getElem? (i := 19) (by decide +kernel)) rfl, _, rfl, rfl⟩, by decide +kernel, by decide +kernel⟩
set_option maxRecDepth 20000 in
theorem mg_Mod_ties : sd_good mi_Mod_ties := ⟨sd_in (List.mem_of_getElem? (i := 1126) rfl) rfl, by decide +kernel, by decide +kernel, by decide +kernel, sd_in (List.mem_of_getElem? (i := 63) (by decide +kernel)) rfl, rfl, Or.inr ⟨sd_in (List.mem_of_getElem? (i := 1125) (by decide +kernel)) rfl, sd_in (List.mem_of_getElem? (i := 20) (by decide +kernel)) rfl, _, rfl, rfl⟩, by decide +kernel, by decide +kernel⟩
set_option maxRecDepth 20000 in
theorem mg_Mod_kind : sd_good mi_Mod_kind := ⟨sd_in (List.mem_of_getElem? (i := 1130) rfl) rfl, by decide +kernel, by decide +kernel, by decide +kernel, sd_in (List.mem_of_getElem? (i := 63) (by decide +kernel)) rfl, rfl, Or.inr ⟨sd_in (List.mem_of_getElem? (i := 1128) (by decide +kernel)) rfl, sd_in (List.mem_of_getElem? (i := 1129) (by decide +kernel)) rfl, _, rfl, rfl⟩, by decide +kernel, by decide +kernel⟩
set_option maxRecDepth 20000 in
theorem mg_Mod_isTwo : sd_good mi_Mod_isTwo := ⟨sd_in (List.mem_of_getElem? (i := 1133) rfl) rfl, by decide +kernel, by decide +kernel, by decide +kernel, sd_in (List.mem_of_getElem? (i := 63) (by decide +kernel)) rfl, rfl, Or.inl ⟨rfl, sd_in (List.mem_of_getElem? (i := 1132) (by decide +kernel)) rfl⟩, by decide +kernel, by decide +kernel⟩
set_option maxRecDepth 20000 in
theorem mg_Mod_read : sd_good mi_Mod_read := ⟨sd_in (List.mem_of_getElem? (i := 1137) rfl) rfl, by decide +kernel, by decide +kernel, by decide +kernel, sd_in (List.mem_of_getElem? (i := 63) (by decide +kernel)) rfl, rfl, Or.inr ⟨sd_in (List.mem_of_getElem? (i := 1135) (by decide +kernel)) rfl, sd_in (List.mem_of_getElem? (i := 1136) (by decide +kernel)) rfl, _, rfl, rfl⟩, by decide +kernel, by decide +kernel⟩
set_option maxRecDepth 20000 in
theorem mg_Mod_about : sd_good mi_Mod_about := ⟨sd_in (List.mem_of_getElem? (i := 1141) rfl) rfl, by decide +kernel, by decide +kernel, by decide +kernel, sd_in (List.mem_of_getElem? (i := 63) (by decide +kernel)) rfl, rfl, Or.inr ⟨sd_in (List.mem_of_getElem? (i := 1139) (by decide +kernel)) rfl, sd_in (List.mem_of_getElem? (i := 1140) (by decide +kernel)) rfl, _, rfl, rfl⟩, by decide +kernel, by decide +kernel⟩
set_option maxRecDepth 20000 in
theorem mg_Mod_degree : sd_good mi_Mod_degree := ⟨sd_in (List.mem_of_getElem? (i := 1145) rfl) rfl, by decide +kernel, by decide +kernel, by decide +kernel, sd_in (List.mem_of_getElem? (i := 63) (by decide +kernel)) rfl, rfl, Or.inr ⟨sd_in (List.mem_of_getElem? (i := 1144) (by decide +kernel)) rfl, sd_in (List.mem_of_getElem? (i := 21) (by decide +kernel)) rfl, _, rfl, rfl⟩, by decide +kernel, by decide +kernel⟩
set_option maxRecDepth 20000 in
theorem mg_Mod_bitsOf : sd_good mi_Mod_bitsOf := ⟨sd_in (List.mem_of_getElem? (i := 1148) rfl) rfl, by decide +kernel, by decide +kernel, by decide +kernel, sd_in (List.mem_of_getElem? (i := 63) (by decide +kernel)) rfl, rfl, Or.inl ⟨rfl, sd_in (List.mem_of_getElem? (i := 1147) (by decide +kernel)) rfl⟩, by decide +kernel, by decide +kernel⟩
set_option maxRecDepth 20000 in
theorem mg_Mod_far : sd_good mi_Mod_far := ⟨sd_in (List.mem_of_getElem? (i := 1152) rfl) rfl, by decide +kernel, by decide +kernel, by decide +kernel, sd_in (List.mem_of_getElem? (i := 63) (by decide +kernel)) rfl, rfl, Or.inr ⟨sd_in (List.mem_of_getElem? (i := 1150) (by decide +kernel)) rfl, sd_in (List.mem_of_getElem? (i := 1151) (by decide +kernel)) rfl, _, rfl, rfl⟩, by decide +kernel, by decide +kernel⟩
set_option maxRecDepth 20000 in
theorem mg_Mod_everybody : sd_good mi_Mod_everybody := ⟨sd_in (List.mem_of_getElem? (i := 1156) rfl) rfl, by decide +kernel, by decide +kernel, by decide +kernel, sd_in (List.mem_of_getElem? (i := 63) (by decide +kernel)) rfl, rfl, Or.inr ⟨sd_in (List.mem_of_getElem? (i := 1155) (by decide +kernel)) rfl, sd_in (List.mem_of_getElem? (i := 22) (by decide +kernel)) rfl, _, rfl, rfl⟩, by decide +kernel, by decide +kernel⟩
set_option maxRecDepth 20000 in
theorem mg_Mod_around : sd_good mi_Mod_around := ⟨sd_in (List.mem_of_getElem? (i := 1160) rfl) rfl, by decide +kernel, by decide +kernel, by decide +kernel, sd_in (List.mem_of_getElem? (i := 63) (by decide +kernel)) rfl, rfl, Or.inr ⟨sd_in (List.mem_of_getElem? (i := 1159) (by decide +kernel)) rfl, sd_in (List.mem_of_getElem? (i := 23) (by decide +kernel)) rfl, _, rfl, rfl⟩, by decide +kernel, by decide +kernel⟩
set_option maxRecDepth 20000 in
theorem mg_Mod_set : sd_good mi_Mod_set := ⟨sd_in (List.mem_of_getElem? (i := 1164) rfl) rfl, by decide +kernel, by decide +kernel, by decide +kernel, sd_in (List.mem_of_getElem? (i := 63) (by decide +kernel)) rfl, rfl, Or.inr ⟨sd_in (List.mem_of_getElem? (i := 1162) (by decide +kernel)) rfl, sd_in (List.mem_of_getElem? (i := 1163) (by decide +kernel)) rfl, _, rfl, rfl⟩, by decide +kernel, by decide +kernel⟩
set_option maxRecDepth 20000 in
theorem mg_Mod_found : sd_good mi_Mod_found := ⟨sd_in (List.mem_of_getElem? (i := 1171) rfl) rfl, by decide +kernel, by decide +kernel, by decide +kernel, sd_in (List.mem_of_getElem? (i := 63) (by decide +kernel)) rfl, rfl, Or.inr ⟨sd_in (List.mem_of_getElem? (i := 1169) (by decide +kernel)) rfl, sd_in (List.mem_of_getElem? (i := 1170) (by decide +kernel)) rfl, _, rfl, rfl⟩, by decide +kernel, by decide +kernel⟩
set_option maxRecDepth 20000 in
theorem mg_Mod_no : sd_good mi_Mod_no := ⟨sd_in (List.mem_of_getElem? (i := 1174) rfl) rfl, by decide +kernel, by decide +kernel, by decide +kernel, sd_in (List.mem_of_getElem? (i := 63) (by decide +kernel)) rfl, rfl, Or.inl ⟨rfl, sd_in (List.mem_of_getElem? (i := 1173) (by decide +kernel)) rfl⟩, by decide +kernel, by decide +kernel⟩
set_option maxRecDepth 20000 in
theorem mg_Mod_goesThrough : sd_good mi_Mod_goesThrough := ⟨sd_in (List.mem_of_getElem? (i := 1179) rfl) rfl, by decide +kernel, by decide +kernel, by decide +kernel, sd_in (List.mem_of_getElem? (i := 63) (by decide +kernel)) rfl, rfl, Or.inr ⟨sd_in (List.mem_of_getElem? (i := 1178) (by decide +kernel)) rfl, sd_in (List.mem_of_getElem? (i := 24) (by decide +kernel)) rfl, _, rfl, rfl⟩, by decide +kernel, by decide +kernel⟩
set_option maxRecDepth 20000 in
theorem mg_Mod_stands : sd_good mi_Mod_stands := ⟨sd_in (List.mem_of_getElem? (i := 1184) rfl) rfl, by decide +kernel, by decide +kernel, by decide +kernel, sd_in (List.mem_of_getElem? (i := 63) (by decide +kernel)) rfl, rfl, Or.inr ⟨sd_in (List.mem_of_getElem? (i := 1183) (by decide +kernel)) rfl, sd_in (List.mem_of_getElem? (i := 25) (by decide +kernel)) rfl, _, rfl, rfl⟩, by decide +kernel, by decide +kernel⟩
set_option maxRecDepth 20000 in
theorem mg_Mod_takes : sd_good mi_Mod_takes := ⟨sd_in (List.mem_of_getElem? (i := 1188) rfl) rfl, by decide +kernel, by decide +kernel, by decide +kernel, sd_in (List.mem_of_getElem? (i := 63) (by decide +kernel)) rfl, rfl, Or.inr ⟨sd_in (List.mem_of_getElem? (i := 1187) (by decide +kernel)) rfl, sd_in (List.mem_of_getElem? (i := 26) (by decide +kernel)) rfl, _, rfl, rfl⟩, by decide +kernel, by decide +kernel⟩
set_option maxRecDepth 20000 in
theorem mg_Mod_countsBy : sd_good mi_Mod_countsBy := ⟨sd_in (List.mem_of_getElem? (i := 1192) rfl) rfl, by decide +kernel, by decide +kernel, by decide +kernel, sd_in (List.mem_of_getElem? (i := 63) (by decide +kernel)) rfl, rfl, Or.inr ⟨sd_in (List.mem_of_getElem? (i := 1191) (by decide +kernel)) rfl, sd_in (List.mem_of_getElem? (i := 27) (by decide +kernel)) rfl, _, rfl, rfl⟩, by decide +kernel, by decide +kernel⟩
set_option maxRecDepth 20000 in
theorem mg_Mod_kindOnes : sd_good mi_Mod_kindOnes := ⟨sd_in (List.mem_of_getElem? (i := 1197) rfl) rfl, by decide +kernel, by decide +kernel, by decide +kernel, sd_in (List.mem_of_getElem? (i := 63) (by decide +kernel)) rfl, rfl, Or.inr ⟨sd_in (List.mem_of_getElem? (i := 1196) (by decide +kernel)) rfl, sd_in (List.mem_of_getElem? (i := 28) (by decide +kernel)) rfl, _, rfl, rfl⟩, by decide +kernel, by decide +kernel⟩
set_option maxRecDepth 20000 in
theorem mg_Mod_lowest : sd_good mi_Mod_lowest := ⟨sd_in (List.mem_of_getElem? (i := 1201) rfl) rfl, by decide +kernel, by decide +kernel, by decide +kernel, sd_in (List.mem_of_getElem? (i := 63) (by decide +kernel)) rfl, rfl, Or.inl ⟨rfl, sd_in (List.mem_of_getElem? (i := 1200) (by decide +kernel)) rfl⟩, by decide +kernel, by decide +kernel⟩
set_option maxRecDepth 20000 in
theorem mg_Mod_part : sd_good mi_Mod_part := ⟨sd_in (List.mem_of_getElem? (i := 1204) rfl) rfl, by decide +kernel, by decide +kernel, by decide +kernel, sd_in (List.mem_of_getElem? (i := 63) (by decide +kernel)) rfl, rfl, Or.inl ⟨rfl, sd_in (List.mem_of_getElem? (i := 1203) (by decide +kernel)) rfl⟩, by decide +kernel, by decide +kernel⟩
set_option maxRecDepth 20000 in
theorem mg_Mod_divisor : sd_good mi_Mod_divisor := ⟨sd_in (List.mem_of_getElem? (i := 1207) rfl) rfl, by decide +kernel, by decide +kernel, by decide +kernel, sd_in (List.mem_of_getElem? (i := 63) (by decide +kernel)) rfl, rfl, Or.inl ⟨rfl, sd_in (List.mem_of_getElem? (i := 1206) (by decide +kernel)) rfl⟩, by decide +kernel, by decide +kernel⟩
set_option maxRecDepth 20000 in
theorem mg_Mod_both : sd_good mi_Mod_both := ⟨sd_in (List.mem_of_getElem? (i := 1211) rfl) rfl, by decide +kernel, by decide +kernel, by decide +kernel, sd_in (List.mem_of_getElem? (i := 63) (by decide +kernel)) rfl, rfl, Or.inr ⟨sd_in (List.mem_of_getElem? (i := 1209) (by decide +kernel)) rfl, sd_in (List.mem_of_getElem? (i := 1210) (by decide +kernel)) rfl, _, rfl, rfl⟩, by decide +kernel, by decide +kernel⟩
set_option maxRecDepth 20000 in
theorem mg_Mod_size : sd_good mi_Mod_size := ⟨sd_in (List.mem_of_getElem? (i := 1215) rfl) rfl, by decide +kernel, by decide +kernel, by decide +kernel, sd_in (List.mem_of_getElem? (i := 63) (by decide +kernel)) rfl, rfl, Or.inr ⟨sd_in (List.mem_of_getElem? (i := 1213) (by decide +kernel)) rfl, sd_in (List.mem_of_getElem? (i := 1214) (by decide +kernel)) rfl, _, rfl, rfl⟩, by decide +kernel, by decide +kernel⟩
set_option maxRecDepth 20000 in
theorem mg_Mod_kinds : sd_good mi_Mod_kinds := ⟨sd_in (List.mem_of_getElem? (i := 1219) rfl) rfl, by decide +kernel, by decide +kernel, by decide +kernel, sd_in (List.mem_of_getElem? (i := 63) (by decide +kernel)) rfl, rfl, Or.inr ⟨sd_in (List.mem_of_getElem? (i := 1217) (by decide +kernel)) rfl, sd_in (List.mem_of_getElem? (i := 1218) (by decide +kernel)) rfl, _, rfl, rfl⟩, by decide +kernel, by decide +kernel⟩
set_option maxRecDepth 20000 in
theorem mg_Mod_within : sd_good mi_Mod_within := ⟨sd_in (List.mem_of_getElem? (i := 1223) rfl) rfl, by decide +kernel, by decide +kernel, by decide +kernel, sd_in (List.mem_of_getElem? (i := 63) (by decide +kernel)) rfl, rfl, Or.inr ⟨sd_in (List.mem_of_getElem? (i := 1221) (by decide +kernel)) rfl, sd_in (List.mem_of_getElem? (i := 1222) (by decide +kernel)) rfl, _, rfl, rfl⟩, by decide +kernel, by decide +kernel⟩
set_option maxRecDepth 20000 in
theorem mg_Mod_at : sd_good mi_Mod_at := ⟨sd_in (List.mem_of_getElem? (i := 1227) rfl) rfl, by decide +kernel, by decide +kernel, by decide +kernel, sd_in (List.mem_of_getElem? (i := 63) (by decide +kernel)) rfl, rfl, Or.inr ⟨sd_in (List.mem_of_getElem? (i := 1225) (by decide +kernel)) rfl, sd_in (List.mem_of_getElem? (i := 1226) (by decide +kernel)) rfl, _, rfl, rfl⟩, by decide +kernel, by decide +kernel⟩
set_option maxRecDepth 20000 in
theorem mg_Mod_walks : sd_good mi_Mod_walks := ⟨sd_in (List.mem_of_getElem? (i := 1232) rfl) rfl, by decide +kernel, by decide +kernel, by decide +kernel, sd_in (List.mem_of_getElem? (i := 63) (by decide +kernel)) rfl, rfl, Or.inr ⟨sd_in (List.mem_of_getElem? (i := 1231) (by decide +kernel)) rfl, sd_in (List.mem_of_getElem? (i := 29) (by decide +kernel)) rfl, _, rfl, rfl⟩, by decide +kernel, by decide +kernel⟩
set_option maxRecDepth 20000 in
theorem mg_Mod_lasting : sd_good mi_Mod_lasting := ⟨sd_in (List.mem_of_getElem? (i := 1236) rfl) rfl, by decide +kernel, by decide +kernel, by decide +kernel, sd_in (List.mem_of_getElem? (i := 63) (by decide +kernel)) rfl, rfl, Or.inr ⟨sd_in (List.mem_of_getElem? (i := 1234) (by decide +kernel)) rfl, sd_in (List.mem_of_getElem? (i := 1235) (by decide +kernel)) rfl, _, rfl, rfl⟩, by decide +kernel, by decide +kernel⟩
set_option maxRecDepth 20000 in
theorem mg_Mod_degrees : sd_good mi_Mod_degrees := ⟨sd_in (List.mem_of_getElem? (i := 1240) rfl) rfl, by decide +kernel, by decide +kernel, by decide +kernel, sd_in (List.mem_of_getElem? (i := 63) (by decide +kernel)) rfl, rfl, Or.inr ⟨sd_in (List.mem_of_getElem? (i := 1239) (by decide +kernel)) rfl, sd_in (List.mem_of_getElem? (i := 30) (by decide +kernel)) rfl, _, rfl, rfl⟩, by decide +kernel, by decide +kernel⟩
set_option maxRecDepth 20000 in
theorem mg_Mod_strayed : sd_good mi_Mod_strayed := ⟨sd_in (List.mem_of_getElem? (i := 1244) rfl) rfl, by decide +kernel, by decide +kernel, by decide +kernel, sd_in (List.mem_of_getElem? (i := 63) (by decide +kernel)) rfl, rfl, Or.inr ⟨sd_in (List.mem_of_getElem? (i := 1242) (by decide +kernel)) rfl, sd_in (List.mem_of_getElem? (i := 1243) (by decide +kernel)) rfl, _, rfl, rfl⟩, by decide +kernel, by decide +kernel⟩
set_option maxRecDepth 20000 in
theorem mg_Mod_came : sd_good mi_Mod_came := ⟨sd_in (List.mem_of_getElem? (i := 1248) rfl) rfl, by decide +kernel, by decide +kernel, by decide +kernel, sd_in (List.mem_of_getElem? (i := 63) (by decide +kernel)) rfl, rfl, Or.inr ⟨sd_in (List.mem_of_getElem? (i := 1246) (by decide +kernel)) rfl, sd_in (List.mem_of_getElem? (i := 1247) (by decide +kernel)) rfl, _, rfl, rfl⟩, by decide +kernel, by decide +kernel⟩
set_option maxRecDepth 20000 in
theorem mg_Mod_isRecord : sd_good mi_Mod_isRecord := ⟨sd_in (List.mem_of_getElem? (i := 1252) rfl) rfl, by decide +kernel, by decide +kernel, by decide +kernel, sd_in (List.mem_of_getElem? (i := 63) (by decide +kernel)) rfl, rfl, Or.inr ⟨sd_in (List.mem_of_getElem? (i := 1251) (by decide +kernel)) rfl, sd_in (List.mem_of_getElem? (i := 31) (by decide +kernel)) rfl, _, rfl, rfl⟩, by decide +kernel, by decide +kernel⟩
set_option maxRecDepth 20000 in
theorem mg_Mod_takeBack : sd_good mi_Mod_takeBack := ⟨sd_in (List.mem_of_getElem? (i := 1257) rfl) rfl, by decide +kernel, by decide +kernel, by decide +kernel, sd_in (List.mem_of_getElem? (i := 63) (by decide +kernel)) rfl, rfl, Or.inr ⟨sd_in (List.mem_of_getElem? (i := 1255) (by decide +kernel)) rfl, sd_in (List.mem_of_getElem? (i := 1256) (by decide +kernel)) rfl, _, rfl, rfl⟩, by decide +kernel, by decide +kernel⟩
set_option maxRecDepth 20000 in
theorem mg_Mod_record : sd_good mi_Mod_record := ⟨sd_in (List.mem_of_getElem? (i := 1261) rfl) rfl, by decide +kernel, by decide +kernel, by decide +kernel, sd_in (List.mem_of_getElem? (i := 63) (by decide +kernel)) rfl, rfl, Or.inr ⟨sd_in (List.mem_of_getElem? (i := 1259) (by decide +kernel)) rfl, sd_in (List.mem_of_getElem? (i := 1260) (by decide +kernel)) rfl, _, rfl, rfl⟩, by decide +kernel, by decide +kernel⟩
set_option maxRecDepth 20000 in
theorem mg_Mod_findCounts : sd_good mi_Mod_findCounts := ⟨sd_in (List.mem_of_getElem? (i := 1265) rfl) rfl, by decide +kernel, by decide +kernel, by decide +kernel, sd_in (List.mem_of_getElem? (i := 63) (by decide +kernel)) rfl, rfl, Or.inr ⟨sd_in (List.mem_of_getElem? (i := 1264) (by decide +kernel)) rfl, sd_in (List.mem_of_getElem? (i := 32) (by decide +kernel)) rfl, _, rfl, rfl⟩, by decide +kernel, by decide +kernel⟩
set_option maxRecDepth 20000 in
theorem mg_Mod_recordOf : sd_good mi_Mod_recordOf := ⟨sd_in (List.mem_of_getElem? (i := 1269) rfl) rfl, by decide +kernel, by decide +kernel, by decide +kernel, sd_in (List.mem_of_getElem? (i := 63) (by decide +kernel)) rfl, rfl, Or.inr ⟨sd_in (List.mem_of_getElem? (i := 1268) (by decide +kernel)) rfl, sd_in (List.mem_of_getElem? (i := 33) (by decide +kernel)) rfl, _, rfl, rfl⟩, by decide +kernel, by decide +kernel⟩
set_option maxRecDepth 20000 in
theorem mg_Mod_share : sd_good mi_Mod_share := ⟨sd_in (List.mem_of_getElem? (i := 1273) rfl) rfl, by decide +kernel, by decide +kernel, by decide +kernel, sd_in (List.mem_of_getElem? (i := 63) (by decide +kernel)) rfl, rfl, Or.inr ⟨sd_in (List.mem_of_getElem? (i := 1271) (by decide +kernel)) rfl, sd_in (List.mem_of_getElem? (i := 1272) (by decide +kernel)) rfl, _, rfl, rfl⟩, by decide +kernel, by decide +kernel⟩
set_option maxRecDepth 20000 in
theorem mg_Mod_shareOf : sd_good mi_Mod_shareOf := ⟨sd_in (List.mem_of_getElem? (i := 1277) rfl) rfl, by decide +kernel, by decide +kernel, by decide +kernel, sd_in (List.mem_of_getElem? (i := 63) (by decide +kernel)) rfl, rfl, Or.inr ⟨sd_in (List.mem_of_getElem? (i := 1276) (by decide +kernel)) rfl, sd_in (List.mem_of_getElem? (i := 34) (by decide +kernel)) rfl, _, rfl, rfl⟩, by decide +kernel, by decide +kernel⟩
set_option maxRecDepth 20000 in
theorem mg_Mod_plainly : sd_good mi_Mod_plainly := ⟨sd_in (List.mem_of_getElem? (i := 1281) rfl) rfl, by decide +kernel, by decide +kernel, by decide +kernel, sd_in (List.mem_of_getElem? (i := 63) (by decide +kernel)) rfl, rfl, Or.inr ⟨sd_in (List.mem_of_getElem? (i := 1280) (by decide +kernel)) rfl, sd_in (List.mem_of_getElem? (i := 35) (by decide +kernel)) rfl, _, rfl, rfl⟩, by decide +kernel, by decide +kernel⟩
set_option maxRecDepth 20000 in
theorem mg_Mod_isTaken : sd_good mi_Mod_isTaken := ⟨sd_in (List.mem_of_getElem? (i := 1285) rfl) rfl, by decide +kernel, by decide +kernel, by decide +kernel, sd_in (List.mem_of_getElem? (i := 63) (by decide +kernel)) rfl, rfl, Or.inr ⟨sd_in (List.mem_of_getElem? (i := 1284) (by decide +kernel)) rfl, sd_in (List.mem_of_getElem? (i := 36) (by decide +kernel)) rfl, _, rfl, rfl⟩, by decide +kernel, by decide +kernel⟩
set_option maxRecDepth 20000 in
theorem mg_Mod_byTies : sd_good mi_Mod_byTies := ⟨sd_in (List.mem_of_getElem? (i := 1289) rfl) rfl, by decide +kernel, by decide +kernel, by decide +kernel, sd_in (List.mem_of_getElem? (i := 63) (by decide +kernel)) rfl, rfl, Or.inr ⟨sd_in (List.mem_of_getElem? (i := 1288) (by decide +kernel)) rfl, sd_in (List.mem_of_getElem? (i := 37) (by decide +kernel)) rfl, _, rfl, rfl⟩, by decide +kernel, by decide +kernel⟩
set_option maxRecDepth 20000 in
theorem mg_Mod_byBringing : sd_good mi_Mod_byBringing := ⟨sd_in (List.mem_of_getElem? (i := 1294) rfl) rfl, by decide +kernel, by decide +kernel, by decide +kernel, sd_in (List.mem_of_getElem? (i := 63) (by decide +kernel)) rfl, rfl, Or.inr ⟨sd_in (List.mem_of_getElem? (i := 1293) (by decide +kernel)) rfl, sd_in (List.mem_of_getElem? (i := 38) (by decide +kernel)) rfl, _, rfl, rfl⟩, by decide +kernel, by decide +kernel⟩
set_option maxRecDepth 20000 in
theorem mg_Mod_findBrought : sd_good mi_Mod_findBrought := ⟨sd_in (List.mem_of_getElem? (i := 1298) rfl) rfl, by decide +kernel, by decide +kernel, by decide +kernel, sd_in (List.mem_of_getElem? (i := 63) (by decide +kernel)) rfl, rfl, Or.inr ⟨sd_in (List.mem_of_getElem? (i := 1297) (by decide +kernel)) rfl, sd_in (List.mem_of_getElem? (i := 39) (by decide +kernel)) rfl, _, rfl, rfl⟩, by decide +kernel, by decide +kernel⟩
set_option maxRecDepth 20000 in
theorem mg_Mod_bounds : sd_good mi_Mod_bounds := ⟨sd_in (List.mem_of_getElem? (i := 1302) rfl) rfl, by decide +kernel, by decide +kernel, by decide +kernel, sd_in (List.mem_of_getElem? (i := 63) (by decide +kernel)) rfl, rfl, Or.inr ⟨sd_in (List.mem_of_getElem? (i := 1300) (by decide +kernel)) rfl, sd_in (List.mem_of_getElem? (i := 1301) (by decide +kernel)) rfl, _, rfl, rfl⟩, by decide +kernel, by decide +kernel⟩
set_option maxRecDepth 20000 in
theorem mg_Mod_leaving : sd_good mi_Mod_leaving := ⟨sd_in (List.mem_of_getElem? (i := 1306) rfl) rfl, by decide +kernel, by decide +kernel, by decide +kernel, sd_in (List.mem_of_getElem? (i := 63) (by decide +kernel)) rfl, rfl, Or.inr ⟨sd_in (List.mem_of_getElem? (i := 1304) (by decide +kernel)) rfl, sd_in (List.mem_of_getElem? (i := 1305) (by decide +kernel)) rfl, _, rfl, rfl⟩, by decide +kernel, by decide +kernel⟩
set_option maxRecDepth 20000 in
theorem mg_Mod_trees : sd_good mi_Mod_trees := ⟨sd_in (List.mem_of_getElem? (i := 1310) rfl) rfl, by decide +kernel, by decide +kernel, by decide +kernel, sd_in (List.mem_of_getElem? (i := 63) (by decide +kernel)) rfl, rfl, Or.inr ⟨sd_in (List.mem_of_getElem? (i := 1309) (by decide +kernel)) rfl, sd_in (List.mem_of_getElem? (i := 40) (by decide +kernel)) rfl, _, rfl, rfl⟩, by decide +kernel, by decide +kernel⟩
set_option maxRecDepth 20000 in
theorem mg_Mod_isLess : sd_good mi_Mod_isLess := ⟨sd_in (List.mem_of_getElem? (i := 1313) rfl) rfl, by decide +kernel, by decide +kernel, by decide +kernel, sd_in (List.mem_of_getElem? (i := 63) (by decide +kernel)) rfl, rfl, Or.inl ⟨rfl, sd_in (List.mem_of_getElem? (i := 1312) (by decide +kernel)) rfl⟩, by decide +kernel, by decide +kernel⟩
set_option maxRecDepth 20000 in
theorem mg_Mod_alike : sd_good mi_Mod_alike := ⟨sd_in (List.mem_of_getElem? (i := 1317) rfl) rfl, by decide +kernel, by decide +kernel, by decide +kernel, sd_in (List.mem_of_getElem? (i := 63) (by decide +kernel)) rfl, rfl, Or.inr ⟨sd_in (List.mem_of_getElem? (i := 1315) (by decide +kernel)) rfl, sd_in (List.mem_of_getElem? (i := 1316) (by decide +kernel)) rfl, _, rfl, rfl⟩, by decide +kernel, by decide +kernel⟩
set_option maxRecDepth 20000 in
theorem mg_Mod_alikeOf : sd_good mi_Mod_alikeOf := ⟨sd_in (List.mem_of_getElem? (i := 1321) rfl) rfl, by decide +kernel, by decide +kernel, by decide +kernel, sd_in (List.mem_of_getElem? (i := 63) (by decide +kernel)) rfl, rfl, Or.inr ⟨sd_in (List.mem_of_getElem? (i := 1320) (by decide +kernel)) rfl, sd_in (List.mem_of_getElem? (i := 41) (by decide +kernel)) rfl, _, rfl, rfl⟩, by decide +kernel, by decide +kernel⟩
set_option maxRecDepth 20000 in
theorem mg_Mod_findWho : sd_good mi_Mod_findWho := ⟨sd_in (List.mem_of_getElem? (i := 1325) rfl) rfl, by decide +kernel, by decide +kernel, by decide +kernel, sd_in (List.mem_of_getElem? (i := 63) (by decide +kernel)) rfl, rfl, Or.inr ⟨sd_in (List.mem_of_getElem? (i := 1324) (by decide +kernel)) rfl, sd_in (List.mem_of_getElem? (i := 42) (by decide +kernel)) rfl, _, rfl, rfl⟩, by decide +kernel, by decide +kernel⟩
set_option maxRecDepth 20000 in
theorem mg_Mod_kindBits : sd_good mi_Mod_kindBits := ⟨sd_in (List.mem_of_getElem? (i := 1329) rfl) rfl, by decide +kernel, by decide +kernel, by decide +kernel, sd_in (List.mem_of_getElem? (i := 63) (by decide +kernel)) rfl, rfl, Or.inr ⟨sd_in (List.mem_of_getElem? (i := 1328) (by decide +kernel)) rfl, sd_in (List.mem_of_getElem? (i := 43) (by decide +kernel)) rfl, _, rfl, rfl⟩, by decide +kernel, by decide +kernel⟩
set_option maxRecDepth 20000 in
theorem mg_Mod_likes : sd_good mi_Mod_likes := ⟨sd_in (List.mem_of_getElem? (i := 1333) rfl) rfl, by decide +kernel, by decide +kernel, by decide +kernel, sd_in (List.mem_of_getElem? (i := 63) (by decide +kernel)) rfl, rfl, Or.inr ⟨sd_in (List.mem_of_getElem? (i := 1332) (by decide +kernel)) rfl, sd_in (List.mem_of_getElem? (i := 44) (by decide +kernel)) rfl, _, rfl, rfl⟩, by decide +kernel, by decide +kernel⟩
set_option maxRecDepth 20000 in
theorem mg_Mod_millionths : sd_good mi_Mod_millionths := ⟨sd_in (List.mem_of_getElem? (i := 1336) rfl) rfl, by decide +kernel, by decide +kernel, by decide +kernel, sd_in (List.mem_of_getElem? (i := 63) (by decide +kernel)) rfl, rfl, Or.inl ⟨rfl, sd_in (List.mem_of_getElem? (i := 1335) (by decide +kernel)) rfl⟩, by decide +kernel, by decide +kernel⟩
set_option maxRecDepth 20000 in
theorem mg_Mod_forgot : sd_good mi_Mod_forgot := ⟨sd_in (List.mem_of_getElem? (i := 1341) rfl) rfl, by decide +kernel, by decide +kernel, by decide +kernel, sd_in (List.mem_of_getElem? (i := 63) (by decide +kernel)) rfl, rfl, Or.inr ⟨sd_in (List.mem_of_getElem? (i := 1339) (by decide +kernel)) rfl, sd_in (List.mem_of_getElem? (i := 1340) (by decide +kernel)) rfl, _, rfl, rfl⟩, by decide +kernel, by decide +kernel⟩
set_option maxRecDepth 20000 in
theorem mg_Mod_wave : sd_good mi_Mod_wave := ⟨sd_in (List.mem_of_getElem? (i := 1346) rfl) rfl, by decide +kernel, by decide +kernel, by decide +kernel, sd_in (List.mem_of_getElem? (i := 63) (by decide +kernel)) rfl, rfl, Or.inr ⟨sd_in (List.mem_of_getElem? (i := 1344) (by decide +kernel)) rfl, sd_in (List.mem_of_getElem? (i := 1345) (by decide +kernel)) rfl, _, rfl, rfl⟩, by decide +kernel, by decide +kernel⟩
set_option maxRecDepth 20000 in
theorem mg_Mod_type : sd_good mi_Mod_type := ⟨sd_in (List.mem_of_getElem? (i := 1351) rfl) rfl, by decide +kernel, by decide +kernel, by decide +kernel, sd_in (List.mem_of_getElem? (i := 63) (by decide +kernel)) rfl, rfl, Or.inr ⟨sd_in (List.mem_of_getElem? (i := 1349) (by decide +kernel)) rfl, sd_in (List.mem_of_getElem? (i := 1350) (by decide +kernel)) rfl, _, rfl, rfl⟩, by decide +kernel, by decide +kernel⟩
set_option maxRecDepth 20000 in
theorem mg_Mod_wipe : sd_good mi_Mod_wipe := ⟨sd_in (List.mem_of_getElem? (i := 1358) rfl) rfl, by decide +kernel, by decide +kernel, by decide +kernel, sd_in (List.mem_of_getElem? (i := 63) (by decide +kernel)) rfl, rfl, Or.inr ⟨sd_in (List.mem_of_getElem? (i := 1356) (by decide +kernel)) rfl, sd_in (List.mem_of_getElem? (i := 1357) (by decide +kernel)) rfl, _, rfl, rfl⟩, by decide +kernel, by decide +kernel⟩
set_option maxRecDepth 20000 in
theorem mg_Mod_clash : sd_good mi_Mod_clash := ⟨sd_in (List.mem_of_getElem? (i := 1362) rfl) rfl, by decide +kernel, by decide +kernel, by decide +kernel, sd_in (List.mem_of_getElem? (i := 63) (by decide +kernel)) rfl, rfl, Or.inr ⟨sd_in (List.mem_of_getElem? (i := 1360) (by decide +kernel)) rfl, sd_in (List.mem_of_getElem? (i := 1361) (by decide +kernel)) rfl, _, rfl, rfl⟩, by decide +kernel, by decide +kernel⟩
set_option maxRecDepth 20000 in
theorem mg_Mod_clashes : sd_good mi_Mod_clashes := ⟨sd_in (List.mem_of_getElem? (i := 1366) rfl) rfl, by decide +kernel, by decide +kernel, by decide +kernel, sd_in (List.mem_of_getElem? (i := 63) (by decide +kernel)) rfl, rfl, Or.inr ⟨sd_in (List.mem_of_getElem? (i := 1365) (by decide +kernel)) rfl, sd_in (List.mem_of_getElem? (i := 45) (by decide +kernel)) rfl, _, rfl, rfl⟩, by decide +kernel, by decide +kernel⟩
set_option maxRecDepth 20000 in
theorem mg_Mod_least : sd_good mi_Mod_least := ⟨sd_in (List.mem_of_getElem? (i := 1370) rfl) rfl, by decide +kernel, by decide +kernel, by decide +kernel, sd_in (List.mem_of_getElem? (i := 63) (by decide +kernel)) rfl, rfl, Or.inr ⟨sd_in (List.mem_of_getElem? (i := 1368) (by decide +kernel)) rfl, sd_in (List.mem_of_getElem? (i := 1369) (by decide +kernel)) rfl, _, rfl, rfl⟩, by decide +kernel, by decide +kernel⟩
set_option maxRecDepth 20000 in
theorem mg_Mod_leastNow : sd_good mi_Mod_leastNow := ⟨sd_in (List.mem_of_getElem? (i := 1374) rfl) rfl, by decide +kernel, by decide +kernel, by decide +kernel, sd_in (List.mem_of_getElem? (i := 63) (by decide +kernel)) rfl, rfl, Or.inr ⟨sd_in (List.mem_of_getElem? (i := 1373) (by decide +kernel)) rfl, sd_in (List.mem_of_getElem? (i := 46) (by decide +kernel)) rfl, _, rfl, rfl⟩, by decide +kernel, by decide +kernel⟩
set_option maxRecDepth 20000 in
theorem mg_Mod_isEnough : sd_good mi_Mod_isEnough := ⟨sd_in (List.mem_of_getElem? (i := 1378) rfl) rfl, by decide +kernel, by decide +kernel, by decide +kernel, sd_in (List.mem_of_getElem? (i := 63) (by decide +kernel)) rfl, rfl, Or.inr ⟨sd_in (List.mem_of_getElem? (i := 1377) (by decide +kernel)) rfl, sd_in (List.mem_of_getElem? (i := 47) (by decide +kernel)) rfl, _, rfl, rfl⟩, by decide +kernel, by decide +kernel⟩
set_option maxRecDepth 20000 in
theorem mg_Mod_canBe : sd_good mi_Mod_canBe := ⟨sd_in (List.mem_of_getElem? (i := 1382) rfl) rfl, by decide +kernel, by decide +kernel, by decide +kernel, sd_in (List.mem_of_getElem? (i := 63) (by decide +kernel)) rfl, rfl, Or.inr ⟨sd_in (List.mem_of_getElem? (i := 1381) (by decide +kernel)) rfl, sd_in (List.mem_of_getElem? (i := 48) (by decide +kernel)) rfl, _, rfl, rfl⟩, by decide +kernel, by decide +kernel⟩
set_option maxRecDepth 20000 in
theorem mg_Mod_ones : sd_good mi_Mod_ones := ⟨sd_in (List.mem_of_getElem? (i := 1386) rfl) rfl, by decide +kernel, by decide +kernel, by decide +kernel, sd_in (List.mem_of_getElem? (i := 63) (by decide +kernel)) rfl, rfl, Or.inr ⟨sd_in (List.mem_of_getElem? (i := 1384) (by decide +kernel)) rfl, sd_in (List.mem_of_getElem? (i := 1385) (by decide +kernel)) rfl, _, rfl, rfl⟩, by decide +kernel, by decide +kernel⟩
set_option maxRecDepth 20000 in
theorem mg_Mod_reach : sd_good mi_Mod_reach := ⟨sd_in (List.mem_of_getElem? (i := 1390) rfl) rfl, by decide +kernel, by decide +kernel, by decide +kernel, sd_in (List.mem_of_getElem? (i := 63) (by decide +kernel)) rfl, rfl, Or.inr ⟨sd_in (List.mem_of_getElem? (i := 1388) (by decide +kernel)) rfl, sd_in (List.mem_of_getElem? (i := 1389) (by decide +kernel)) rfl, _, rfl, rfl⟩, by decide +kernel, by decide +kernel⟩
set_option maxRecDepth 20000 in
theorem mg_Mod_parts : sd_good mi_Mod_parts := ⟨sd_in (List.mem_of_getElem? (i := 1395) rfl) rfl, by decide +kernel, by decide +kernel, by decide +kernel, sd_in (List.mem_of_getElem? (i := 63) (by decide +kernel)) rfl, rfl, Or.inr ⟨sd_in (List.mem_of_getElem? (i := 1393) (by decide +kernel)) rfl, sd_in (List.mem_of_getElem? (i := 1394) (by decide +kernel)) rfl, _, rfl, rfl⟩, by decide +kernel, by decide +kernel⟩
set_option maxRecDepth 20000 in
theorem mg_Mod_partsNow : sd_good mi_Mod_partsNow := ⟨sd_in (List.mem_of_getElem? (i := 1399) rfl) rfl, by decide +kernel, by decide +kernel, by decide +kernel, sd_in (List.mem_of_getElem? (i := 63) (by decide +kernel)) rfl, rfl, Or.inr ⟨sd_in (List.mem_of_getElem? (i := 1398) (by decide +kernel)) rfl, sd_in (List.mem_of_getElem? (i := 49) (by decide +kernel)) rfl, _, rfl, rfl⟩, by decide +kernel, by decide +kernel⟩
set_option maxRecDepth 20000 in
theorem mg_Mod_partsOf : sd_good mi_Mod_partsOf := ⟨sd_in (List.mem_of_getElem? (i := 1403) rfl) rfl, by decide +kernel, by decide +kernel, by decide +kernel, sd_in (List.mem_of_getElem? (i := 63) (by decide +kernel)) rfl, rfl, Or.inr ⟨sd_in (List.mem_of_getElem? (i := 1402) (by decide +kernel)) rfl, sd_in (List.mem_of_getElem? (i := 50) (by decide +kernel)) rfl, _, rfl, rfl⟩, by decide +kernel, by decide +kernel⟩
set_option maxRecDepth 20000 in
theorem mg_Mod_narrow : sd_good mi_Mod_narrow := ⟨sd_in (List.mem_of_getElem? (i := 1407) rfl) rfl, by decide +kernel, by decide +kernel, by decide +kernel, sd_in (List.mem_of_getElem? (i := 63) (by decide +kernel)) rfl, rfl, Or.inr ⟨sd_in (List.mem_of_getElem? (i := 1405) (by decide +kernel)) rfl, sd_in (List.mem_of_getElem? (i := 1406) (by decide +kernel)) rfl, _, rfl, rfl⟩, by decide +kernel, by decide +kernel⟩
set_option maxRecDepth 20000 in
theorem mg_Mod_narrowOf : sd_good mi_Mod_narrowOf := ⟨sd_in (List.mem_of_getElem? (i := 1411) rfl) rfl, by decide +kernel, by decide +kernel, by decide +kernel, sd_in (List.mem_of_getElem? (i := 63) (by decide +kernel)) rfl, rfl, Or.inr ⟨sd_in (List.mem_of_getElem? (i := 1410) (by decide +kernel)) rfl, sd_in (List.mem_of_getElem? (i := 51) (by decide +kernel)) rfl, _, rfl, rfl⟩, by decide +kernel, by decide +kernel⟩
set_option maxRecDepth 20000 in
theorem mg_Mod_write : sd_good mi_Mod_write := ⟨sd_in (List.mem_of_getElem? (i := 1415) rfl) rfl, by decide +kernel, by decide +kernel, by decide +kernel, sd_in (List.mem_of_getElem? (i := 63) (by decide +kernel)) rfl, rfl, Or.inr ⟨sd_in (List.mem_of_getElem? (i := 1413) (by decide +kernel)) rfl, sd_in (List.mem_of_getElem? (i := 1414) (by decide +kernel)) rfl, _, rfl, rfl⟩, by decide +kernel, by decide +kernel⟩
set_option maxRecDepth 20000 in
theorem mg_Mod_count : sd_good mi_Mod_count := ⟨sd_in (List.mem_of_getElem? (i := 1419) rfl) rfl, by decide +kernel, by decide +kernel, by decide +kernel, sd_in (List.mem_of_getElem? (i := 63) (by decide +kernel)) rfl, rfl, Or.inr ⟨sd_in (List.mem_of_getElem? (i := 1417) (by decide +kernel)) rfl, sd_in (List.mem_of_getElem? (i := 1418) (by decide +kernel)) rfl, _, rfl, rfl⟩, by decide +kernel, by decide +kernel⟩
set_option maxRecDepth 20000 in
theorem mg_Mod_digest : sd_good mi_Mod_digest := ⟨sd_in (List.mem_of_getElem? (i := 1423) rfl) rfl, by decide +kernel, by decide +kernel, by decide +kernel, sd_in (List.mem_of_getElem? (i := 63) (by decide +kernel)) rfl, rfl, Or.inr ⟨sd_in (List.mem_of_getElem? (i := 1421) (by decide +kernel)) rfl, sd_in (List.mem_of_getElem? (i := 1422) (by decide +kernel)) rfl, _, rfl, rfl⟩, by decide +kernel, by decide +kernel⟩
theorem mgs_0 : ∀ q ∈ ([mi_Arr_fillI, mi_TO_persons, mi_Net_resize, mi_Net_everyone, mi_Net_holds, mi_TO_tie, mi_Net_tied, mi_Net_join, mi_TO_kind, mi_TO_isBit, mi_Net_kindOf, mi_Net_turn, mi_TO_read, mi_Sheets_holds, mi_Sheets_isLost, mi_Sheets_finding, mi_Sheets_item, mi_TO_about, mi_Net_degree, mi_Int_bitCount, mi_TO_far, mi_Net_distance, mi_Net_spread, mi_TO_set, mi_TO_isSetting, mi_TO_isUpTo, mi_TO_setting, mi_Records_look, mi_TO_found, mi_TO_refusal] : List MI), sd_good q := List.forall_mem_cons.mpr ⟨mg_Arr_fillI, List.forall_mem_cons.mpr ⟨mg_TO_persons, List.forall_mem_cons.mpr ⟨mg_Net_resize, List.forall_mem_cons.mpr ⟨mg_Net_everyone, List.forall_mem_cons.mpr ⟨mg_Net_holds, List.forall_mem_cons.mpr ⟨mg_TO_tie, List.forall_mem_cons.mpr ⟨mg_Net_tied, List.forall_mem_cons.mpr ⟨mg_Net_join, List.forall_mem_cons.mpr ⟨mg_TO_kind, List.forall_mem_cons.mpr ⟨mg_TO_isBit, List.forall_mem_cons.mpr ⟨mg_Net_kindOf, List.forall_mem_cons.mpr ⟨mg_Net_turn, List.forall_mem_cons.mpr ⟨mg_TO_read, List.forall_mem_cons.mpr ⟨mg_Sheets_holds, List.forall_mem_cons.mpr ⟨mg_Sheets_isLost, List.forall_mem_cons.mpr ⟨mg_Sheets_finding, List.forall_mem_cons.mpr ⟨mg_Sheets_item, List.forall_mem_cons.mpr ⟨mg_TO_about, List.forall_mem_cons.mpr ⟨mg_Net_degree, List.forall_mem_cons.mpr ⟨mg_Int_bitCount, List.forall_mem_cons.mpr ⟨mg_TO_far, List.forall_mem_cons.mpr ⟨mg_Net_distance, List.forall_mem_cons.mpr ⟨mg_Net_spread, List.forall_mem_cons.mpr ⟨mg_TO_set, List.forall_mem_cons.mpr ⟨mg_TO_isSetting, List.forall_mem_cons.mpr ⟨mg_TO_isUpTo, List.forall_mem_cons.mpr ⟨mg_TO_setting, List.forall_mem_cons.mpr ⟨mg_Records_look, List.forall_mem_cons.mpr ⟨mg_TO_found, List.forall_mem_cons.mpr ⟨mg_TO_refusal, fun _ h => absurd h List.not_mem_nil⟩⟩⟩⟩⟩⟩⟩⟩⟩⟩⟩⟩⟩⟩⟩⟩⟩⟩⟩⟩⟩⟩⟩⟩⟩⟩⟩⟩⟩⟩
theorem mgs_1 : ∀ q ∈ ([mi_Chains_follow, mi_Chains_begin, mi_Arr_fillL, mi_Chains_place, mi_Chains_goOn, mi_Chains_holding, mi_TO_fraction, mi_TO_greatestCommon, mi_TO_both, mi_TO_size, mi_Chains_ofSize, mi_TO_kinds, mi_Chains_ofKind, mi_TO_within, mi_Chains_near, mi_Chains_isNear, mi_Chains_weight, mi_Net_kindOnes, mi_TO_at, mi_Walk_go, mi_Walk_step, mi_TO_lasting, mi_Net_degrees, mi_TO_strayed, mi_Walk_apart, mi_Walk_mostApart, mi_TO_came, mi_Records_holds, mi_Records_isNextDay, mi_Records_tell] : List MI), sd_good q := List.forall_mem_cons.mpr ⟨mg_Chains_follow, List.forall_mem_cons.mpr ⟨mg_Chains_begin, List.forall_mem_cons.mpr ⟨mg_Arr_fillL, List.forall_mem_cons.mpr ⟨mg_Chains_place, List.forall_mem_cons.mpr ⟨mg_Chains_goOn, List.forall_mem_cons.mpr ⟨mg_Chains_holding, List.forall_mem_cons.mpr ⟨mg_TO_fraction, List.forall_mem_cons.mpr ⟨mg_TO_greatestCommon, List.forall_mem_cons.mpr ⟨mg_TO_both, List.forall_mem_cons.mpr ⟨mg_TO_size, List.forall_mem_cons.mpr ⟨mg_Chains_ofSize, List.forall_mem_cons.mpr ⟨mg_TO_kinds, List.forall_mem_cons.mpr ⟨mg_Chains_ofKind, List.forall_mem_cons.mpr ⟨mg_TO_within, List.forall_mem_cons.mpr ⟨mg_Chains_near, List.forall_mem_cons.mpr ⟨mg_Chains_isNear, List.forall_mem_cons.mpr ⟨mg_Chains_weight, List.forall_mem_cons.mpr ⟨mg_Net_kindOnes, List.forall_mem_cons.mpr ⟨mg_TO_at, List.forall_mem_cons.mpr ⟨mg_Walk_go, List.forall_mem_cons.mpr ⟨mg_Walk_step, List.forall_mem_cons.mpr ⟨mg_TO_lasting, List.forall_mem_cons.mpr ⟨mg_Net_degrees, List.forall_mem_cons.mpr ⟨mg_TO_strayed, List.forall_mem_cons.mpr ⟨mg_Walk_apart, List.forall_mem_cons.mpr ⟨mg_Walk_mostApart, List.forall_mem_cons.mpr ⟨mg_TO_came, List.forall_mem_cons.mpr ⟨mg_Records_holds, List.forall_mem_cons.mpr ⟨mg_Records_isNextDay, List.forall_mem_cons.mpr ⟨mg_Records_tell, fun _ h => absurd h List.not_mem_nil⟩⟩⟩⟩⟩⟩⟩⟩⟩⟩⟩⟩⟩⟩⟩⟩⟩⟩⟩⟩⟩⟩⟩⟩⟩⟩⟩⟩⟩⟩
theorem mgs_2 : ∀ q ∈ ([mi_TO_takeBack, mi_Records_untell, mi_TO_record, mi_Records_detail, mi_TO_share, mi_Shares_taken, mi_Records_isTaken, mi_TO_part, mi_Shares_byTies, mi_Shares_tells, mi_Shares_byBringing, mi_Shares_countBringing, mi_Shares_pull, mi_Shares_telling, mi_TO_bounds, mi_Shares_rounded, mi_TO_leaving, mi_Shares_treeToLeave, mi_Shares_isLess, mi_TO_alike, mi_Records_likes, mi_Records_counting, mi_Deals_chance, mi_Deals_gather, mi_Deals_alikeIn, mi_Deals_following, mi_Int_lowestOneBit, mi_Int_numberOfTrailingZeros, mi_TO_forgot, mi_Shares_ofWave] : List MI), sd_good q := List.forall_mem_cons.mpr ⟨mg_TO_takeBack, List.forall_mem_cons.mpr ⟨mg_Records_untell, List.forall_mem_cons.mpr ⟨mg_TO_record, List.forall_mem_cons.mpr ⟨mg_Records_detail, List.forall_mem_cons.mpr ⟨mg_TO_share, List.forall_mem_cons.mpr ⟨mg_Shares_taken, List.forall_mem_cons.mpr ⟨mg_Records_isTaken, List.forall_mem_cons.mpr ⟨mg_TO_part, List.forall_mem_cons.mpr ⟨mg_Shares_byTies, List.forall_mem_cons.mpr ⟨mg_Shares_tells, List.forall_mem_cons.mpr ⟨mg_Shares_byBringing, List.forall_mem_cons.mpr ⟨mg_Shares_countBringing, List.forall_mem_cons.mpr ⟨mg_Shares_pull, List.forall_mem_cons.mpr ⟨mg_Shares_telling, List.forall_mem_cons.mpr ⟨mg_TO_bounds, List.forall_mem_cons.mpr ⟨mg_Shares_rounded, List.forall_mem_cons.mpr ⟨mg_TO_leaving, List.forall_mem_cons.mpr ⟨mg_Shares_treeToLeave, List.forall_mem_cons.mpr ⟨mg_Shares_isLess, List.forall_mem_cons.mpr ⟨mg_TO_alike, List.forall_mem_cons.mpr ⟨mg_Records_likes, List.forall_mem_cons.mpr ⟨mg_Records_counting, List.forall_mem_cons.mpr ⟨mg_Deals_chance, List.forall_mem_cons.mpr ⟨mg_Deals_gather, List.forall_mem_cons.mpr ⟨mg_Deals_alikeIn, List.forall_mem_cons.mpr ⟨mg_Deals_following, List.forall_mem_cons.mpr ⟨mg_Int_lowestOneBit, List.forall_mem_cons.mpr ⟨mg_Int_numberOfTrailingZeros, List.forall_mem_cons.mpr ⟨mg_TO_forgot, List.forall_mem_cons.mpr ⟨mg_Shares_ofWave, fun _ h => absurd h List.not_mem_nil⟩⟩⟩⟩⟩⟩⟩⟩⟩⟩⟩⟩⟩⟩⟩⟩⟩⟩⟩⟩⟩⟩⟩⟩⟩⟩⟩⟩⟩⟩
theorem mgs_3 : ∀ q ∈ ([mi_Shares_wholeWave, mi_TO_wave, mi_Records_inWave, mi_TO_type, mi_Marks_isSign, mi_Marks_append, mi_TO_wipe, mi_TO_clash, mi_Marks_differ, mi_TO_least, mi_Marks_tellApart, mi_Marks_gather, mi_Marks_apartForSure, mi_Marks_deal, mi_TO_ones, mi_Marks_personOf, mi_TO_reach, mi_Net_fewestReaching, mi_TO_parts, mi_Net_pieces, mi_Net_bridges, mi_TO_narrow, mi_Net_narrowest, mi_Net_leadingOut, mi_TO_sheet, mi_Sheets_isForm, mi_Sheets_renew, mi_TO_lose, mi_TO_lay, mi_Sheets_faultOf] : List MI), sd_good q := List.forall_mem_cons.mpr ⟨mg_Shares_wholeWave, List.forall_mem_cons.mpr ⟨mg_TO_wave, List.forall_mem_cons.mpr ⟨mg_Records_inWave, List.forall_mem_cons.mpr ⟨mg_TO_type, List.forall_mem_cons.mpr ⟨mg_Marks_isSign, List.forall_mem_cons.mpr ⟨mg_Marks_append, List.forall_mem_cons.mpr ⟨mg_TO_wipe, List.forall_mem_cons.mpr ⟨mg_TO_clash, List.forall_mem_cons.mpr ⟨mg_Marks_differ, List.forall_mem_cons.mpr ⟨mg_TO_least, List.forall_mem_cons.mpr ⟨mg_Marks_tellApart, List.forall_mem_cons.mpr ⟨mg_Marks_gather, List.forall_mem_cons.mpr ⟨mg_Marks_apartForSure, List.forall_mem_cons.mpr ⟨mg_Marks_deal, List.forall_mem_cons.mpr ⟨mg_TO_ones, List.forall_mem_cons.mpr ⟨mg_Marks_personOf, List.forall_mem_cons.mpr ⟨mg_TO_reach, List.forall_mem_cons.mpr ⟨mg_Net_fewestReaching, List.forall_mem_cons.mpr ⟨mg_TO_parts, List.forall_mem_cons.mpr ⟨mg_Net_pieces, List.forall_mem_cons.mpr ⟨mg_Net_bridges, List.forall_mem_cons.mpr ⟨mg_TO_narrow, List.forall_mem_cons.mpr ⟨mg_Net_narrowest, List.forall_mem_cons.mpr ⟨mg_Net_leadingOut, List.forall_mem_cons.mpr ⟨mg_TO_sheet, List.forall_mem_cons.mpr ⟨mg_Sheets_isForm, List.forall_mem_cons.mpr ⟨mg_Sheets_renew, List.forall_mem_cons.mpr ⟨mg_TO_lose, List.forall_mem_cons.mpr ⟨mg_TO_lay, List.forall_mem_cons.mpr ⟨mg_Sheets_faultOf, fun _ h => absurd h List.not_mem_nil⟩⟩⟩⟩⟩⟩⟩⟩⟩⟩⟩⟩⟩⟩⟩⟩⟩⟩⟩⟩⟩⟩⟩⟩⟩⟩⟩⟩⟩⟩
theorem mgs_4 : ∀ q ∈ ([mi_Sheets_put, mi_TO_get, mi_TO_copy, mi_Sheets_spans, mi_TO_write, mi_TO_count, mi_Marks_signsOfAll, mi_TO_digest, mi_TO_digestOfNet, mi_TO_digestOfRecords, mi_Mod_sheet, mi_Mod_isSheet, mi_Mod_in, mi_Mod_met, mi_Mod_lose, mi_Mod_lay, mi_Mod_lacks, mi_Mod_cut, mi_Mod_get, mi_Mod_copy, mi_Mod_persons, mi_Mod_tie, mi_Mod_isPerson, mi_Mod_ties, mi_Mod_kind, mi_Mod_isTwo, mi_Mod_read, mi_Mod_about, mi_Mod_degree, mi_Mod_bitsOf] : List MI), sd_good q := List.forall_mem_cons.mpr ⟨mg_Sheets_put, List.forall_mem_cons.mpr ⟨mg_TO_get, List.forall_mem_cons.mpr ⟨mg_TO_copy, List.forall_mem_cons.mpr ⟨mg_Sheets_spans, List.forall_mem_cons.mpr ⟨mg_TO_write, List.forall_mem_cons.mpr ⟨mg_TO_count, List.forall_mem_cons.mpr ⟨mg_Marks_signsOfAll, List.forall_mem_cons.mpr ⟨mg_TO_digest, List.forall_mem_cons.mpr ⟨mg_TO_digestOfNet, List.forall_mem_cons.mpr ⟨mg_TO_digestOfRecords, List.forall_mem_cons.mpr ⟨mg_Mod_sheet, List.forall_mem_cons.mpr ⟨mg_Mod_isSheet, List.forall_mem_cons.mpr ⟨mg_Mod_in, List.forall_mem_cons.mpr ⟨mg_Mod_met, List.forall_mem_cons.mpr ⟨mg_Mod_lose, List.forall_mem_cons.mpr ⟨mg_Mod_lay, List.forall_mem_cons.mpr ⟨mg_Mod_lacks, List.forall_mem_cons.mpr ⟨mg_Mod_cut, List.forall_mem_cons.mpr ⟨mg_Mod_get, List.forall_mem_cons.mpr ⟨mg_Mod_copy, List.forall_mem_cons.mpr ⟨mg_Mod_persons, List.forall_mem_cons.mpr ⟨mg_Mod_tie, List.forall_mem_cons.mpr ⟨mg_Mod_isPerson, List.forall_mem_cons.mpr ⟨mg_Mod_ties, List.forall_mem_cons.mpr ⟨mg_Mod_kind, List.forall_mem_cons.mpr ⟨mg_Mod_isTwo, List.forall_mem_cons.mpr ⟨mg_Mod_read, List.forall_mem_cons.mpr ⟨mg_Mod_about, List.forall_mem_cons.mpr ⟨mg_Mod_degree, List.forall_mem_cons.mpr ⟨mg_Mod_bitsOf, fun _ h => absurd h List.not_mem_nil⟩⟩⟩⟩⟩⟩⟩⟩⟩⟩⟩⟩⟩⟩⟩⟩⟩⟩⟩⟩⟩⟩⟩⟩⟩⟩⟩⟩⟩⟩
theorem mgs_5 : ∀ q ∈ ([mi_Mod_far, mi_Mod_everybody, mi_Mod_around, mi_Mod_set, mi_Mod_found, mi_Mod_no, mi_Mod_goesThrough, mi_Mod_stands, mi_Mod_takes, mi_Mod_countsBy, mi_Mod_kindOnes, mi_Mod_lowest, mi_Mod_part, mi_Mod_divisor, mi_Mod_both, mi_Mod_size, mi_Mod_kinds, mi_Mod_within, mi_Mod_at, mi_Mod_walks, mi_Mod_lasting, mi_Mod_degrees, mi_Mod_strayed, mi_Mod_came, mi_Mod_isRecord, mi_Mod_takeBack, mi_Mod_record, mi_Mod_findCounts, mi_Mod_recordOf, mi_Mod_share] : List MI), sd_good q := List.forall_mem_cons.mpr ⟨mg_Mod_far, List.forall_mem_cons.mpr ⟨mg_Mod_everybody, List.forall_mem_cons.mpr ⟨mg_Mod_around, List.forall_mem_cons.mpr ⟨mg_Mod_set, List.forall_mem_cons.mpr ⟨mg_Mod_found, List.forall_mem_cons.mpr ⟨mg_Mod_no, List.forall_mem_cons.mpr ⟨mg_Mod_goesThrough, List.forall_mem_cons.mpr ⟨mg_Mod_stands, List.forall_mem_cons.mpr ⟨mg_Mod_takes, List.forall_mem_cons.mpr ⟨mg_Mod_countsBy, List.forall_mem_cons.mpr ⟨mg_Mod_kindOnes, List.forall_mem_cons.mpr ⟨mg_Mod_lowest, List.forall_mem_cons.mpr ⟨mg_Mod_part, List.forall_mem_cons.mpr ⟨mg_Mod_divisor, List.forall_mem_cons.mpr ⟨mg_Mod_both, List.forall_mem_cons.mpr ⟨mg_Mod_size, List.forall_mem_cons.mpr ⟨mg_Mod_kinds, List.forall_mem_cons.mpr ⟨mg_Mod_within, List.forall_mem_cons.mpr ⟨mg_Mod_at, List.forall_mem_cons.mpr ⟨mg_Mod_walks, List.forall_mem_cons.mpr ⟨mg_Mod_lasting, List.forall_mem_cons.mpr ⟨mg_Mod_degrees, List.forall_mem_cons.mpr ⟨mg_Mod_strayed, List.forall_mem_cons.mpr ⟨mg_Mod_came, List.forall_mem_cons.mpr ⟨mg_Mod_isRecord, List.forall_mem_cons.mpr ⟨mg_Mod_takeBack, List.forall_mem_cons.mpr ⟨mg_Mod_record, List.forall_mem_cons.mpr ⟨mg_Mod_findCounts, List.forall_mem_cons.mpr ⟨mg_Mod_recordOf, List.forall_mem_cons.mpr ⟨mg_Mod_share, fun _ h => absurd h List.not_mem_nil⟩⟩⟩⟩⟩⟩⟩⟩⟩⟩⟩⟩⟩⟩⟩⟩⟩⟩⟩⟩⟩⟩⟩⟩⟩⟩⟩⟩⟩⟩
theorem mgs_6 : ∀ q ∈ ([mi_Mod_shareOf, mi_Mod_plainly, mi_Mod_isTaken, mi_Mod_byTies, mi_Mod_byBringing, mi_Mod_findBrought, mi_Mod_bounds, mi_Mod_leaving, mi_Mod_trees, mi_Mod_isLess, mi_Mod_alike, mi_Mod_alikeOf, mi_Mod_findWho, mi_Mod_kindBits, mi_Mod_likes, mi_Mod_millionths, mi_Mod_forgot, mi_Mod_wave, mi_Mod_type, mi_Mod_wipe, mi_Mod_clash, mi_Mod_clashes, mi_Mod_least, mi_Mod_leastNow, mi_Mod_isEnough, mi_Mod_canBe, mi_Mod_ones, mi_Mod_reach, mi_Mod_parts, mi_Mod_partsNow] : List MI), sd_good q := List.forall_mem_cons.mpr ⟨mg_Mod_shareOf, List.forall_mem_cons.mpr ⟨mg_Mod_plainly, List.forall_mem_cons.mpr ⟨mg_Mod_isTaken, List.forall_mem_cons.mpr ⟨mg_Mod_byTies, List.forall_mem_cons.mpr ⟨mg_Mod_byBringing, List.forall_mem_cons.mpr ⟨mg_Mod_findBrought, List.forall_mem_cons.mpr ⟨mg_Mod_bounds, List.forall_mem_cons.mpr ⟨mg_Mod_leaving, List.forall_mem_cons.mpr ⟨mg_Mod_trees, List.forall_mem_cons.mpr ⟨mg_Mod_isLess, List.forall_mem_cons.mpr ⟨mg_Mod_alike, List.forall_mem_cons.mpr ⟨mg_Mod_alikeOf, List.forall_mem_cons.mpr ⟨mg_Mod_findWho, List.forall_mem_cons.mpr ⟨mg_Mod_kindBits, List.forall_mem_cons.mpr ⟨mg_Mod_likes, List.forall_mem_cons.mpr ⟨mg_Mod_millionths, List.forall_mem_cons.mpr ⟨mg_Mod_forgot, List.forall_mem_cons.mpr ⟨mg_Mod_wave, List.forall_mem_cons.mpr ⟨mg_Mod_type, List.forall_mem_cons.mpr ⟨mg_Mod_wipe, List.forall_mem_cons.mpr ⟨mg_Mod_clash, List.forall_mem_cons.mpr ⟨mg_Mod_clashes, List.forall_mem_cons.mpr ⟨mg_Mod_least, List.forall_mem_cons.mpr ⟨mg_Mod_leastNow, List.forall_mem_cons.mpr ⟨mg_Mod_isEnough, List.forall_mem_cons.mpr ⟨mg_Mod_canBe, List.forall_mem_cons.mpr ⟨mg_Mod_ones, List.forall_mem_cons.mpr ⟨mg_Mod_reach, List.forall_mem_cons.mpr ⟨mg_Mod_parts, List.forall_mem_cons.mpr ⟨mg_Mod_partsNow, fun _ h => absurd h List.not_mem_nil⟩⟩⟩⟩⟩⟩⟩⟩⟩⟩⟩⟩⟩⟩⟩⟩⟩⟩⟩⟩⟩⟩⟩⟩⟩⟩⟩⟩⟩⟩
theorem mgs_7 : ∀ q ∈ ([mi_Mod_partsOf, mi_Mod_narrow, mi_Mod_narrowOf, mi_Mod_write, mi_Mod_count, mi_Mod_digest] : List MI), sd_good q := List.forall_mem_cons.mpr ⟨mg_Mod_partsOf, List.forall_mem_cons.mpr ⟨mg_Mod_narrow, List.forall_mem_cons.mpr ⟨mg_Mod_narrowOf, List.forall_mem_cons.mpr ⟨mg_Mod_write, List.forall_mem_cons.mpr ⟨mg_Mod_count, List.forall_mem_cons.mpr ⟨mg_Mod_digest, fun _ h => absurd h List.not_mem_nil⟩⟩⟩⟩⟩⟩
theorem sd_all : ∀ q ∈ sd_ml, sd_good q := List.forall_mem_append.mpr ⟨mgs_0, List.forall_mem_append.mpr ⟨mgs_1, List.forall_mem_append.mpr ⟨mgs_2, List.forall_mem_append.mpr ⟨mgs_3, List.forall_mem_append.mpr ⟨mgs_4, List.forall_mem_append.mpr ⟨mgs_5, List.forall_mem_append.mpr ⟨mgs_6, mgs_7⟩⟩⟩⟩⟩⟩⟩
end
section
section SND
variable {p : Program} {l : Launch} {e : Env} {s : State} {m : MethodId} {args : Array Value} {below : List Frame} {meth : Method} {c : Code} {ad : Nat → Nat} {cA : Nat → ClassId} {D : va_G} {Qz : State → Prop} {R : Room}
/-- behind a call -/
theorem sd_after {H : Heap} {locs : List Loc} {pc : Nat} {ls : Array Slot} {st0 rest : List Value} {a : Array Value} {r : RV} (hr : va_Run p l e R s m args below meth c H locs 0 0 0 0 (F0 m pc ls st0) rest (sd_Q ad cA D r a) (sd_A ad)) (hS : va_S (sd_A ad) s.heap H locs)
    (kk : ∀ (H1 : Heap) (locs1 : List Loc), va_P D xm_cl (sd_w ad cA r.2) H1 → va_S (sd_A ad) s.heap H1 locs1 → W p l e R s m args below meth c H1 locs1 0 0 Qz (F0 m (pc + 3) ls ((r.1.map (sd_cv ad)).toList ++ rest))) : W p l e R s m args below meth c H locs 0 0 Qz (F0 m pc ls st0) := by
  intro T hT X
  obtain ⟨v, st₀, t, T', L, h0, X', hL, e1, e2, ⟨hv, hP, hz, hk⟩, st⟩ := hr T hT X
  cases hv
  rw [h0] at hz hk
  have hS' : va_S (sd_A ad) s.heap T'.heap (locs ++ L) := by
    refine ⟨by rw [e1]; exact Nat.le_trans hS.1 hz, fun q h1 h2 => ?_, fun q hq => ?_⟩
    · rw [e1, hk q (Nat.lt_of_lt_of_le h1 hS.1) h2]
      exact hS.2.1 q h1 h2
    · rcases List.mem_append.mp hq with h | h
      · exact hS.2.2 q h
      · exact hL q h
  obtain ⟨t2, a1, b1⟩ := kk T'.heap (locs ++ L) (by rw [e1]; exact hP) hS' T' rfl X'
  exact ⟨t2, st t2 a1, b1⟩
theorem sd_aald {cc : ByteArray} {H : Heap} {locs : List Loc} {pc : Nat} {ls : Array Slot} {rest : List Value} {σ : Sg} {b z j : Nat} (hx : p.tables.exec = Jvm.exec) (hb : c.code = cc) (hK : va_K D xm_cl (sd_ty cA) s) (hP : va_P D xm_cl (sd_w ad cA σ) H) (ha : xm_at xm_sh b = some (.inl (3, 4, z))) (hj : j < 4) (hdg : decode cc pc = .ok (.aaload, 1))
    (kk : W p l e R s m args below meth c H locs 0 0 Qz (F0 m (pc + 1) ls (.ref (ad (z + j)) :: rest))) : W p l e R s m args below meth c H locs 0 0 Qz (F0 m pc ls (.int (nI j) :: .ref (ad b) :: rest)) := by
  have hc : (nI j).toNatClampNeg = j := nI_clamp (by omega)
  have ht : (sd_ty cA)[3]? = some (cA 3, .array .int) := rfl
  have hcell := hP b _ (sd_w_at (ad := ad) (cA := cA) (σ := σ) ha)
  refine W.aald (v := va_rf ((fun j => if j < 4 then some (ad (z + j)) else none) j)) (ty := .array .int) hx hb hcell ((hK.2 3 _ ht).1 4 (fun j => va_rf ((fun j => if j < 4 then some (ad (z + j)) else none) j))) rfl (fun q => by cases q) (by show ¬ (nI j < 0 ∨ (arrV _ _ _).slots.size ≤ _); rw [arrV_size]; exact nI_in hj (Nat.lt_trans (show 4 < 5 by omega) (by decide))) (by show (arrV _ _ _).slots[_]? = _; rw [hc, arrV_read _ _ hj]) rfl rfl hdg ?_
  dsimp only
  rw [if_pos hj]
  exact kk
end SND
/-- what holds at each of a method's instructions -/
def sd_Ctx (p : Program) (s : State) (m : MethodId) (args : Array Value) (meth : Method) (c : Code) (cA : Nat → ClassId) (D : va_G) (q : MI) : Prop :=
  p.tables.exec = Jvm.exec ∧ c.code = mi_b q ∧ meth.sig.returnType = mi_r q ∧ meth.locks = false ∧ c.maxLocals = mi_L q ∧ s.vm.findClass (sd_on (mi_o q)) = some m.cls ∧ (∀ w ∈ sd_tb, w.before args s = true) ∧ va_K D xm_cl (sd_ty cA) s
set_option maxHeartbeats 4000000 in
set_option maxRecDepth 10000 in
theorem sd_run {l : Launch} {ad : Nat → Nat} {cA : Nat → ClassId} {D : va_G} (hi : sd_inj ad) (d : Nat) (IH : sd_met l ad cA D d) (q : MI) (hq : sd_good q) {p : Program} {e : Env} {s : State} {m : MethodId} {args : Array Value} {below : List Frame} {meth : Method} {c : Code} (C0 : sd_Ctx p s m args meth c cA D q) :
    ∀ (n pc : Nat) (xs st : List Value) (σ : Sg) (r : RV), xm_fr (xm_call d) (mi_t q) (mi_k q) n pc xs st σ = some r → ∀ (H : Heap) (locs : List Loc) (ls : Array Slot), sd_LR ad ls (mi_L q) xs → va_P D xm_cl (sd_w ad cA σ) H → va_S (sd_A ad) s.heap H locs →
      W p l e (sd_rm (d + 1)) s m args below meth c H locs 0 0 (MQ below (sd_Q ad cA D r) args s 0 0 (sd_A ad)) (F0 m pc ls (st.map (sd_cv ad)))
  | 0, _, _, _, _, _, h, _, _, _, _, _, _ => by cases h
  | n + 1, pc, xs0, st, σ, r, h, H, locs, ls, hL0, hP, hS => by
    obtain ⟨hx, hb, hr, hlocks, hml, hown, hts, hK⟩ := id C0
    have ih := sd_run (e := e) (below := below) hi d IH q hq C0 n
    unfold xm_fr at h
    cases hl : xm_lk (mi_k q) pc with
    | none => rw [hl] at h; cases h
    | some x =>
    obtain ⟨i, zk, t⟩ := x
    rw [hl] at h
    dsimp only at h
    have hck := List.all_eq_true.mp hq.2.2.2.2.2.2.2.2 _ (sd_lk hl)
    simp only [sd_chk, Bool.and_eq_true, decide_eq_true_eq] at hck
    obtain ⟨hd, hk⟩ := hck
    have hL := hL0.msk zk
    generalize xm_msk zk xs0 = xs at h hL
    have hD := sd_D hi cA σ
    cases i with
    | iconst z =>
      replace h := iv_so h
      obtain ⟨x, e1, h⟩ := h
      have hk := of_decide_eq_true hk
      rw [e1] at hk
      exact lv_iconst hx hb hd (Option.some.inj hk).symm (ih _ _ _ _ _ h _ _ _ hL hP hS)
    | bipush z =>
      replace h := iv_so h
      obtain ⟨x, e1, h⟩ := h
      have hk := of_decide_eq_true hk
      rw [e1] at hk
      exact lv_bipush hx hb hd (Option.some.inj hk).symm (ih _ _ _ _ _ h _ _ _ hL hP hS)
    | sipush z =>
      replace h := iv_so h
      obtain ⟨x, e1, h⟩ := h
      have hk := of_decide_eq_true hk
      rw [e1] at hk
      exact lv_sipush hx hb hd (Option.some.inj hk).symm (ih _ _ _ _ _ h _ _ _ hL hP hS)
    | lconst z =>
      replace h := iv_so h
      obtain ⟨x, e1, h⟩ := h
      have hk := of_decide_eq_true hk
      rw [e1] at hk
      exact lv_lconst hx hb hd (Option.some.inj hk).symm (ih _ _ _ _ _ h _ _ _ hL hP hS)
    | ldc z =>
      replace h := iv_so h
      obtain ⟨x, e1, h⟩ := h
      obtain ⟨y, e2, hw⟩ := sd_lI_ok hk
      cases e1.symm.trans e2
      exact lv_ldc hx hb hown (hts _ hw) hd (ih _ _ _ _ _ h _ _ _ hL hP hS)
    | ldc_w z =>
      replace h := iv_so h
      obtain ⟨x, e1, h⟩ := h
      obtain ⟨y, e2, hw⟩ := sd_lI_ok hk
      cases e1.symm.trans e2
      exact lv_ldcw hx hb hown (hts _ hw) hd (ih _ _ _ _ _ h _ _ _ hL hP hS)
    | ldc2_w z =>
      replace h := iv_so h
      obtain ⟨x, e1, h⟩ := h
      obtain ⟨y, e2, hw⟩ := sd_lL_ok hk
      cases e1.symm.trans e2
      exact lv_ldc2 hx hb hown (hts _ hw) hd (ih _ _ _ _ _ h _ _ _ hL hP hS)
    | iload_n z =>
      replace h := iv_vI h
      obtain ⟨x, e1, h⟩ := h
      exact lv_iload_n hx hb hd rfl (hL.2.2 _ _ e1 (by intro q; cases q)) (ih _ _ _ _ _ h _ _ _ hL hP hS)
    | iload z =>
      replace h := iv_vI h
      obtain ⟨x, e1, h⟩ := h
      exact lv_iload hx hb hd (hL.2.2 _ _ e1 (by intro q; cases q)) (ih _ _ _ _ _ h _ _ _ hL hP hS)
    | lload_n z =>
      replace h := iv_vL h
      obtain ⟨x, e1, h⟩ := h
      exact lv_lload_n hx hb hd rfl (hL.2.2 _ _ e1 (by intro q; cases q)) (ih _ _ _ _ _ h _ _ _ hL hP hS)
    | lload z =>
      replace h := iv_vL h
      obtain ⟨x, e1, h⟩ := h
      exact lv_lload hx hb hd (hL.2.2 _ _ e1 (by intro q; cases q)) (ih _ _ _ _ _ h _ _ _ hL hP hS)
    | aload_n z =>
      replace h := iv_vR h
      obtain ⟨x, e1, h⟩ := h
      exact lv_aload_n hx hb hd rfl (hL.2.2 _ _ e1 (by intro q; cases q)) (ih _ _ _ _ _ h _ _ _ hL hP hS)
    | aload z =>
      replace h := iv_vR h
      obtain ⟨x, e1, h⟩ := h
      exact lv_aload hx hb hd (hL.2.2 _ _ e1 (by intro q; cases q)) (ih _ _ _ _ _ h _ _ _ hL hP hS)
    | istore_n z =>
      replace h := iv_pI h
      obtain ⟨x, r1, rfl, h⟩ := h
      exact lv_istore_n hx hb hd rfl hL.lv (of_decide_eq_true hk) rfl (fun ls1 hl1 => ih _ _ _ _ _ h _ _ _ (sd_LR.st1 hl1) hP hS)
    | istore z =>
      replace h := iv_pI h
      obtain ⟨x, r1, rfl, h⟩ := h
      exact lv_istore hx hb hd hL.lv (of_decide_eq_true hk) rfl (fun ls1 hl1 => ih _ _ _ _ _ h _ _ _ (sd_LR.st1 hl1) hP hS)
    | lstore_n z =>
      replace h := iv_pL h
      obtain ⟨x, r1, rfl, h⟩ := h
      exact lv_lstore_n hx hb hd rfl hL.lv (of_decide_eq_true hk) rfl (fun ls1 hl1 => ih _ _ _ _ _ h _ _ _ (sd_LR.st2 hl1) hP hS)
    | lstore z =>
      replace h := iv_pL h
      obtain ⟨x, r1, rfl, h⟩ := h
      exact lv_lstore hx hb hd hL.lv (of_decide_eq_true hk) rfl (fun ls1 hl1 => ih _ _ _ _ _ h _ _ _ (sd_LR.st2 hl1) hP hS)
    | iinc z k =>
      replace h := iv_vI h
      obtain ⟨x, e1, h⟩ := h
      replace h := iv_so h
      obtain ⟨y, e2, h⟩ := h
      simp only [sd_ck, Bool.and_eq_true, decide_eq_true_eq] at hk
      cases e2.symm.trans hk.2
      obtain ⟨k9, hk9⟩ := List.getElem?_of_mem (sd_prs_mem (ad := ad) e1 (by intro q; cases q))
      exact lv_iinc hx hb hd hL.lv hk9 rfl hk.1 rfl (fun ls1 hl1 => ih _ _ _ _ _ h _ _ _ (sd_LR.st1 (v := .int _) hl1) hP hS)
    | iadd =>
      replace h := iv_pI h
      obtain ⟨y, r1, rfl, h⟩ := h
      replace h := iv_pI h
      obtain ⟨x, r2, rfl, h⟩ := h
      exact lv_iadd hx hb hd (ih _ _ _ _ _ h _ _ _ hL hP hS)
    | isub =>
      replace h := iv_pI h
      obtain ⟨y, r1, rfl, h⟩ := h
      replace h := iv_pI h
      obtain ⟨x, r2, rfl, h⟩ := h
      exact lv_isub hx hb hd (ih _ _ _ _ _ h _ _ _ hL hP hS)
    | imul =>
      replace h := iv_pI h
      obtain ⟨y, r1, rfl, h⟩ := h
      replace h := iv_pI h
      obtain ⟨x, r2, rfl, h⟩ := h
      exact lv_imul hx hb hd (ih _ _ _ _ _ h _ _ _ hL hP hS)
    | iand =>
      replace h := iv_pI h
      obtain ⟨y, r1, rfl, h⟩ := h
      replace h := iv_pI h
      obtain ⟨x, r2, rfl, h⟩ := h
      exact lv_iand hx hb hd (ih _ _ _ _ _ h _ _ _ hL hP hS)
    | ior =>
      replace h := iv_pI h
      obtain ⟨y, r1, rfl, h⟩ := h
      replace h := iv_pI h
      obtain ⟨x, r2, rfl, h⟩ := h
      exact lv_ior hx hb hd (ih _ _ _ _ _ h _ _ _ hL hP hS)
    | ixor =>
      replace h := iv_pI h
      obtain ⟨y, r1, rfl, h⟩ := h
      replace h := iv_pI h
      obtain ⟨x, r2, rfl, h⟩ := h
      exact lv_ixor hx hb hd (ih _ _ _ _ _ h _ _ _ hL hP hS)
    | ishl =>
      replace h := iv_pI h
      obtain ⟨y, r1, rfl, h⟩ := h
      replace h := iv_pI h
      obtain ⟨x, r2, rfl, h⟩ := h
      exact lv_ishl hx hb hd (ih _ _ _ _ _ h _ _ _ hL hP hS)
    | ishr =>
      replace h := iv_pI h
      obtain ⟨y, r1, rfl, h⟩ := h
      replace h := iv_pI h
      obtain ⟨x, r2, rfl, h⟩ := h
      exact lv_ishr hx hb hd (ih _ _ _ _ _ h _ _ _ hL hP hS)
    | iushr =>
      replace h := iv_pI h
      obtain ⟨y, r1, rfl, h⟩ := h
      replace h := iv_pI h
      obtain ⟨x, r2, rfl, h⟩ := h
      exact lv_iushr hx hb hd rfl (ih _ _ _ _ _ h _ _ _ hL hP hS)
    | idiv =>
      replace h := iv_pI h
      obtain ⟨y, r1, rfl, h⟩ := h
      replace h := iv_pI h
      obtain ⟨x, r2, rfl, h⟩ := h
      replace h := iv_dv h
      obtain ⟨hn, h⟩ := h
      exact lv_idiv hx hb hd hn (ih _ _ _ _ _ h _ _ _ hL hP hS)
    | irem =>
      replace h := iv_pI h
      obtain ⟨y, r1, rfl, h⟩ := h
      replace h := iv_pI h
      obtain ⟨x, r2, rfl, h⟩ := h
      replace h := iv_dv h
      obtain ⟨hn, h⟩ := h
      exact lv_irem hx hb hd hn (ih _ _ _ _ _ h _ _ _ hL hP hS)
    | ineg =>
      replace h := iv_pI h
      obtain ⟨x, r1, rfl, h⟩ := h
      exact lv_ineg hx hb hd (ih _ _ _ _ _ h _ _ _ hL hP hS)
    | ladd =>
      replace h := iv_pL h
      obtain ⟨y, r1, rfl, h⟩ := h
      replace h := iv_pL h
      obtain ⟨x, r2, rfl, h⟩ := h
      exact lv_ladd hx hb hd (ih _ _ _ _ _ h _ _ _ hL hP hS)
    | lsub =>
      replace h := iv_pL h
      obtain ⟨y, r1, rfl, h⟩ := h
      replace h := iv_pL h
      obtain ⟨x, r2, rfl, h⟩ := h
      exact lv_lsub hx hb hd (ih _ _ _ _ _ h _ _ _ hL hP hS)
    | lmul =>
      replace h := iv_pL h
      obtain ⟨y, r1, rfl, h⟩ := h
      replace h := iv_pL h
      obtain ⟨x, r2, rfl, h⟩ := h
      exact lv_lmul hx hb hd (ih _ _ _ _ _ h _ _ _ hL hP hS)
    | ldiv =>
      replace h := iv_pL h
      obtain ⟨y, r1, rfl, h⟩ := h
      replace h := iv_pL h
      obtain ⟨x, r2, rfl, h⟩ := h
      replace h := iv_dvL h
      obtain ⟨hn, h⟩ := h
      exact lv_ldiv hx hb hd hn (ih _ _ _ _ _ h _ _ _ hL hP hS)
    | lrem =>
      replace h := iv_pL h
      obtain ⟨y, r1, rfl, h⟩ := h
      replace h := iv_pL h
      obtain ⟨x, r2, rfl, h⟩ := h
      replace h := iv_dvL h
      obtain ⟨hn, h⟩ := h
      exact lv_lrem hx hb hd hn (ih _ _ _ _ _ h _ _ _ hL hP hS)
    | lneg =>
      replace h := iv_pL h
      obtain ⟨x, r1, rfl, h⟩ := h
      exact lv_lneg hx hb hd (ih _ _ _ _ _ h _ _ _ hL hP hS)
    | lcmp =>
      replace h := iv_pL h
      obtain ⟨y, r1, rfl, h⟩ := h
      replace h := iv_pL h
      obtain ⟨x, r2, rfl, h⟩ := h
      exact W.lcmp hx hb hd (ih _ _ _ _ _ h _ _ _ hL hP hS)
    | i2l =>
      replace h := iv_pI h
      obtain ⟨x, r1, rfl, h⟩ := h
      exact lv_i2l hx hb hd rfl (ih _ _ _ _ _ h _ _ _ hL hP hS)
    | l2i =>
      replace h := iv_pL h
      obtain ⟨x, r1, rfl, h⟩ := h
      exact lv_l2i hx hb hd rfl (ih _ _ _ _ _ h _ _ _ hL hP hS)
    | i2b =>
      replace h := iv_pI h
      obtain ⟨x, r1, rfl, h⟩ := h
      exact lv_i2b hx hb hd rfl (ih _ _ _ _ _ h _ _ _ hL hP hS)
    | i2s =>
      replace h := iv_pI h
      obtain ⟨x, r1, rfl, h⟩ := h
      exact lv_i2s hx hb hd rfl (ih _ _ _ _ _ h _ _ _ hL hP hS)
    | dup =>
      replace h := iv_pop h
      obtain ⟨v, r1, rfl, h⟩ := h
      replace h := iv_dup h
      obtain ⟨hc, h⟩ := h
      exact lv_dup hx hb hd ((sd_cv_cat ad v).trans hc) (ih _ _ _ _ _ h _ _ _ hL hP hS)
    | dup2 =>
      replace h := iv_pI h
      obtain ⟨y, r1, rfl, h⟩ := h
      replace h := iv_pR h
      obtain ⟨x, r2, rfl, h⟩ := h
      exact lv_dup2_11 (va := .int y) (vb := .ref (ad x)) hx hb hd rfl rfl (ih _ _ _ _ _ h _ _ _ hL hP hS)
    | pop =>
      replace h := iv_pI h
      obtain ⟨y, r1, rfl, h⟩ := h
      exact lv_pop (va := .int y) hx hb hd rfl (ih _ _ _ _ _ h _ _ _ hL hP hS)
    | goto z =>
      exact lv_goto hx hb hd (of_decide_eq_true hk) (ih _ _ _ _ _ h _ _ _ hL hP hS)
    | ifCond cz z =>
      cases cz
      case eq =>
        replace h := iv_pI h
        obtain ⟨x, r1, rfl, h⟩ := h
        exact lv_if_eq hx hb hd (of_decide_eq_true hk) (fun c1 => ih _ _ _ _ _ ((if_pos c1).symm.trans h) _ _ _ hL hP hS) (fun c1 => ih _ _ _ _ _ ((if_neg c1).symm.trans h) _ _ _ hL hP hS)
      case ne =>
        replace h := iv_pI h
        obtain ⟨x, r1, rfl, h⟩ := h
        exact lv_if_ne hx hb hd (of_decide_eq_true hk) (fun c1 => ih _ _ _ _ _ ((if_neg c1).symm.trans h) _ _ _ hL hP hS) (fun c1 => ih _ _ _ _ _ ((if_pos c1).symm.trans h) _ _ _ hL hP hS)
      case lt =>
        replace h := iv_pI h
        obtain ⟨x, r1, rfl, h⟩ := h
        exact lv_if_lt hx hb hd (of_decide_eq_true hk) (fun c1 => ih _ _ _ _ _ ((if_pos c1).symm.trans h) _ _ _ hL hP hS) (fun c1 => ih _ _ _ _ _ ((if_neg c1).symm.trans h) _ _ _ hL hP hS)
      case ge =>
        replace h := iv_pI h
        obtain ⟨x, r1, rfl, h⟩ := h
        exact lv_if_ge hx hb hd (of_decide_eq_true hk) (fun c1 => ih _ _ _ _ _ ((if_pos c1).symm.trans h) _ _ _ hL hP hS) (fun c1 => ih _ _ _ _ _ ((if_neg c1).symm.trans h) _ _ _ hL hP hS)
      case gt =>
        replace h := iv_pI h
        obtain ⟨x, r1, rfl, h⟩ := h
        exact lv_if_gt hx hb hd (of_decide_eq_true hk) (fun c1 => ih _ _ _ _ _ ((if_pos c1).symm.trans h) _ _ _ hL hP hS) (fun c1 => ih _ _ _ _ _ ((if_neg c1).symm.trans h) _ _ _ hL hP hS)
      case le =>
        replace h := iv_pI h
        obtain ⟨x, r1, rfl, h⟩ := h
        exact lv_if_le hx hb hd (of_decide_eq_true hk) (fun c1 => ih _ _ _ _ _ ((if_pos c1).symm.trans h) _ _ _ hL hP hS) (fun c1 => ih _ _ _ _ _ ((if_neg c1).symm.trans h) _ _ _ hL hP hS)
    | if_icmp cz z =>
      cases cz
      case eq =>
        replace h := iv_pI h
        obtain ⟨y, r1, rfl, h⟩ := h
        replace h := iv_pI h
        obtain ⟨x, r2, rfl, h⟩ := h
        exact lv_icmp_eq hx hb hd (of_decide_eq_true hk) (fun c1 => ih _ _ _ _ _ ((if_pos c1).symm.trans h) _ _ _ hL hP hS) (fun c1 => ih _ _ _ _ _ ((if_neg c1).symm.trans h) _ _ _ hL hP hS)
      case ne =>
        replace h := iv_pI h
        obtain ⟨y, r1, rfl, h⟩ := h
        replace h := iv_pI h
        obtain ⟨x, r2, rfl, h⟩ := h
        exact lv_icmp_ne hx hb hd (of_decide_eq_true hk) (fun c1 => ih _ _ _ _ _ ((if_neg c1).symm.trans h) _ _ _ hL hP hS) (fun c1 => ih _ _ _ _ _ ((if_pos c1).symm.trans h) _ _ _ hL hP hS)
      case lt =>
        replace h := iv_pI h
        obtain ⟨y, r1, rfl, h⟩ := h
        replace h := iv_pI h
        obtain ⟨x, r2, rfl, h⟩ := h
        exact lv_icmp_lt hx hb hd (of_decide_eq_true hk) (fun c1 => ih _ _ _ _ _ ((if_pos c1).symm.trans h) _ _ _ hL hP hS) (fun c1 => ih _ _ _ _ _ ((if_neg c1).symm.trans h) _ _ _ hL hP hS)
      case ge =>
        replace h := iv_pI h
        obtain ⟨y, r1, rfl, h⟩ := h
        replace h := iv_pI h
        obtain ⟨x, r2, rfl, h⟩ := h
        exact lv_icmp_ge hx hb hd (of_decide_eq_true hk) (fun c1 => ih _ _ _ _ _ ((if_pos c1).symm.trans h) _ _ _ hL hP hS) (fun c1 => ih _ _ _ _ _ ((if_neg c1).symm.trans h) _ _ _ hL hP hS)
      case gt =>
        replace h := iv_pI h
        obtain ⟨y, r1, rfl, h⟩ := h
        replace h := iv_pI h
        obtain ⟨x, r2, rfl, h⟩ := h
        exact lv_icmp_gt hx hb hd (of_decide_eq_true hk) (fun c1 => ih _ _ _ _ _ ((if_pos c1).symm.trans h) _ _ _ hL hP hS) (fun c1 => ih _ _ _ _ _ ((if_neg c1).symm.trans h) _ _ _ hL hP hS)
      case le =>
        replace h := iv_pI h
        obtain ⟨y, r1, rfl, h⟩ := h
        replace h := iv_pI h
        obtain ⟨x, r2, rfl, h⟩ := h
        exact lv_icmp_le hx hb hd (of_decide_eq_true hk) (fun c1 => ih _ _ _ _ _ ((if_pos c1).symm.trans h) _ _ _ hL hP hS) (fun c1 => ih _ _ _ _ _ ((if_neg c1).symm.trans h) _ _ _ hL hP hS)
    | tableswitch dd lo hi' offs =>
      replace h := iv_pI h
      obtain ⟨x, r1, rfl, h⟩ := h
      replace h := iv_so h
      obtain ⟨⟨dt, ts⟩, e1, h⟩ := h
      simp only [sd_ck, e1, sd_sw, Bool.and_eq_true, decide_eq_true_eq] at hk
      obtain ⟨⟨⟨k1, k2⟩, k3⟩, k4⟩ := hk
      have k5 : ∀ j, j < offs.size → ∃ (y : Int32) (g : Nat) (f : Int), xm_at ts j = some (y, g) ∧ offs[j]? = some f ∧ y.toInt = lo + (j : Int) ∧ (pc : Int) + f = (g : Int) := by
        intro j hj
        have h9 := List.all_eq_true.mp k4 j (List.mem_range.mpr hj)
        cases h1 : xm_at ts j with
        | none => rw [h1] at h9; cases h9
        | some yg =>
          obtain ⟨y, g⟩ := yg
          cases h2 : offs[j]? with
          | none => rw [h1, h2] at h9; cases h9
          | some f =>
            rw [h1, h2] at h9
            simp only [Bool.and_eq_true, decide_eq_true_eq] at h9
            exact ⟨y, g, f, rfl, rfl, h9.1, h9.2⟩
      rcases iv_swl h with ⟨j, g, e2, h⟩ | ⟨e2, h⟩
      · have hj : j < offs.size := by rw [← k2]; exact xm_at_lt e2
        obtain ⟨y, g', f, e3, e4, e5, e6⟩ := k5 j hj
        cases e2.symm.trans e3
        exact lv_tableIn hx hb hd (by omega) (by omega) (by rw [show (x.toInt - lo).toNat = j by omega]; exact e4) e6 (ih _ _ _ _ _ h _ _ _ hL hP hS)
      · refine lv_tableOut hx hb hd ?_ k1 (ih _ _ _ _ _ h _ _ _ hL hP hS)
        by_cases c1 : x.toInt < lo
        · exact Or.inl c1
        · by_cases c2 : hi' < x.toInt
          · exact Or.inr c2
          · obtain ⟨y, g', f, e3, e4, e5, e6⟩ := k5 (x.toInt - lo).toNat (by omega)
            exact absurd (Int32.toInt_inj.mp (show x.toInt = y.toInt by omega)) (e2 _ _ _ e3)
    | getfield z =>
      replace h := iv_pR h
      obtain ⟨b, r1, rfl, h⟩ := h
      replace h := iv_fl h
      obtain ⟨fs, f, e1, e2, h⟩ := h
      have hln := sd_lF_ok hk
      obtain ⟨f1, f2, ⟨ty0, f3⟩, f4, f5, f6⟩ := sd_shp e1
      have hkk : t % 64 < (sd_cl (t / 64)).2.2 := by rw [← f5]; exact xm_at_lt e2
      have hfe : (sd_fs ad σ b 0 fs)[t % 64]? = some (sd_cv ad (xm_fv σ b (t % 64) f)) := by rw [sd_fs_at, e2, Nat.zero_add]; rfl
      exact va_get (C := (sd_cl (t / 64)).1) (T := (sd_cl (t / 64)).2.1) (N := (sd_cl (t / 64)).2.2) hx hb hts f2 hown hK hP b (sd_w_at e1) f1 (t % 64) hkk (hts _ hln) (fun _ h9 => h9) hfe hd (ih _ _ _ _ _ h _ _ _ hL hP hS)
    | putfield z =>
      replace h := iv_pop h
      obtain ⟨v, r1, rfl, h⟩ := h
      replace h := iv_pR h
      obtain ⟨b, r2, rfl, h⟩ := h
      replace h := iv_fl h
      obtain ⟨fs, f, e1, e2, h⟩ := h
      have hln := sd_lF_ok hk
      obtain ⟨f1, f2, ⟨ty0, f3⟩, f4, f5, f6⟩ := sd_shp e1
      have hkk : t % 64 < (sd_cl (t / 64)).2.2 := by rw [← f5]; exact xm_at_lt e2
      have hll : t % 64 < (sd_fs ad σ b 0 fs).length := by rw [sd_fs_len]; exact xm_at_lt e2
      obtain ⟨g1, g2⟩ := f6 _ _ e2
      cases v with
      | int x =>
        replace h := iv_tr h
        obtain ⟨e3, h⟩ := h
        have e3 := Nat.eq_of_beq_eq_true e3
        subst e3
        obtain ⟨g1, g3⟩ := g1 rfl
        refine va_put (ty := .int) (v := .int x) (C := (sd_cl (t / 64)).1) (T := (sd_cl (t / 64)).2.1) (N := (sd_cl (t / 64)).2.2) hx hb hts f2 ty0 f3 f4 hown hK hP hD hS b (sd_w_at e1) f1 (t % 64) hkk (hts _ hln) (fun _ h9 => h9) g3 (by rw [g1]; rfl) rfl rfl hll hd (fun H1 locs1 hP1 _ hS1 => ?_)
        rw [sd_wFI e1 e2] at hP1
        exact ih _ _ _ _ _ h _ _ _ hL hP1 hS1
      | long x =>
        replace h := iv_tr h
        obtain ⟨e3, h⟩ := h
        have e3 := Nat.eq_of_beq_eq_true e3
        subst e3
        obtain ⟨g2, g3⟩ := g2 rfl
        refine va_put (ty := .long) (v := .long x) (C := (sd_cl (t / 64)).1) (T := (sd_cl (t / 64)).2.1) (N := (sd_cl (t / 64)).2.2) hx hb hts f2 ty0 f3 f4 hown hK hP hD hS b (sd_w_at e1) f1 (t % 64) hkk (hts _ hln) (fun _ h9 => h9) g3 (by rw [g2]; rfl) rfl rfl hll hd (fun H1 locs1 hP1 _ hS1 => ?_)
        rw [sd_wFL e1 e2] at hP1
        exact ih _ _ _ _ _ h _ _ _ hL hP1 hS1
      | _ => cases h
    | arraylength =>
      replace h := iv_pR h
      obtain ⟨b, r1, rfl, h⟩ := h
      replace h := iv_al h
      obtain ⟨y, n9, z9, e1, h⟩ := h
      match y, e1 with
      | 0, e1 => exact va_alen hx hb hK hP b 0 (ty := .int) (sd_w_at e1) rfl rfl hd (ih _ _ _ _ _ h _ _ _ hL hP hS)
      | 1, e1 => exact va_alen hx hb hK hP b 1 (ty := .long) (sd_w_at e1) rfl rfl hd (ih _ _ _ _ _ h _ _ _ hL hP hS)
      | 2, e1 => exact va_alen hx hb hK hP b 2 (ty := .boolean) (sd_w_at e1) rfl rfl hd (ih _ _ _ _ _ h _ _ _ hL hP hS)
      | _ + 3, e1 => exact va_alen hx hb hK hP b 3 (ty := .array .int) (sd_w_at e1) rfl rfl hd (ih _ _ _ _ _ h _ _ _ hL hP hS)
    | iaload =>
      replace h := iv_pI h
      obtain ⟨k, r1, rfl, h⟩ := h
      replace h := iv_pR h
      obtain ⟨b, r2, rfl, h⟩ := h
      replace h := iv_ar h
      obtain ⟨n9, z9, e1, h⟩ := h
      replace h := iv_ix h
      obtain ⟨hin, h⟩ := h
      exact va_iald hx hb hK hP b 0 (sd_w_at e1) rfl hin hd (ih _ _ _ _ _ h _ _ _ hL hP hS)
    | baload =>
      replace h := iv_pI h
      obtain ⟨k, r1, rfl, h⟩ := h
      replace h := iv_pR h
      obtain ⟨b, r2, rfl, h⟩ := h
      replace h := iv_ar h
      obtain ⟨n9, z9, e1, h⟩ := h
      replace h := iv_ix h
      obtain ⟨hin, h⟩ := h
      exact va_zald hx hb hK hP b 2 (sd_w_at e1) rfl hin hd (ih _ _ _ _ _ h _ _ _ hL hP hS)
    | laload =>
      replace h := iv_pI h
      obtain ⟨k, r1, rfl, h⟩ := h
      replace h := iv_pR h
      obtain ⟨b, r2, rfl, h⟩ := h
      replace h := iv_ar h
      obtain ⟨n9, z9, e1, h⟩ := h
      replace h := iv_ix h
      obtain ⟨hin, h⟩ := h
      exact va_lald hx hb hK hP b 1 (sd_w_at e1) rfl hin hd (ih _ _ _ _ _ h _ _ _ hL hP hS)
    | aaload =>
      replace h := iv_pI h
      obtain ⟨k, r1, rfl, h⟩ := h
      replace h := iv_pR h
      obtain ⟨b, r2, rfl, h⟩ := h
      replace h := iv_ar h
      obtain ⟨n9, z9, e1, h⟩ := h
      replace h := iv_tr h
      obtain ⟨e2, h⟩ := h
      have e2 := Nat.eq_of_beq_eq_true e2
      subst e2
      replace h := iv_row h
      obtain ⟨j, hj, rfl, h⟩ := h
      exact sd_aald hx hb hK hP e1 hj hd (ih _ _ _ _ _ h _ _ _ hL hP hS)
    | iastore =>
      replace h := iv_pI h
      obtain ⟨x, r0, rfl, h⟩ := h
      replace h := iv_pI h
      obtain ⟨k, r1, rfl, h⟩ := h
      replace h := iv_pR h
      obtain ⟨b, r2, rfl, h⟩ := h
      replace h := iv_ar h
      obtain ⟨n9, z9, e1, h⟩ := h
      replace h := iv_ix h
      obtain ⟨hin, h⟩ := h
      refine va_iast hx hb hK hP hD hS b 0 (sd_w_at e1) rfl hin hd (fun H1 locs1 hP1 _ hS1 => ?_)
      rw [sd_wI e1] at hP1
      exact ih _ _ _ _ _ h _ _ _ hL hP1 hS1
    | bastore =>
      replace h := iv_pI h
      obtain ⟨x, r0, rfl, h⟩ := h
      replace h := iv_pI h
      obtain ⟨k, r1, rfl, h⟩ := h
      replace h := iv_pR h
      obtain ⟨b, r2, rfl, h⟩ := h
      replace h := iv_ar h
      obtain ⟨n9, z9, e1, h⟩ := h
      replace h := iv_bo h
      obtain ⟨hbo, h⟩ := h
      replace h := iv_ix h
      obtain ⟨hin, h⟩ := h
      have hnar : vp_nar .boolean x = x := by rcases hbo with rfl | rfl <;> decide +kernel
      refine va_zast hx hb hK hP hD hS b 2 (sd_w_at e1) rfl hin hd (fun H1 locs1 hP1 _ hS1 => ?_)
      rw [hnar, sd_wZ e1] at hP1
      exact ih _ _ _ _ _ h _ _ _ hL hP1 hS1
    | lastore =>
      replace h := iv_pL h
      obtain ⟨x, r0, rfl, h⟩ := h
      replace h := iv_pI h
      obtain ⟨k, r1, rfl, h⟩ := h
      replace h := iv_pR h
      obtain ⟨b, r2, rfl, h⟩ := h
      replace h := iv_ar h
      obtain ⟨n9, z9, e1, h⟩ := h
      replace h := iv_ix h
      obtain ⟨hin, h⟩ := h
      refine va_last hx hb hK hP hD hS b 1 (sd_w_at e1) rfl hin hd (fun H1 locs1 hP1 _ hS1 => ?_)
      rw [sd_wL e1] at hP1
      exact ih _ _ _ _ _ h _ _ _ hL hP1 hS1
    | invokevirtual z =>
      replace h := iv_so h
      obtain ⟨⟨as, r0⟩, e1, h⟩ := h
      replace h := iv_pR h
      obtain ⟨b, r1, e2, h⟩ := h
      dsimp only at e2 h
      subst e2
      replace h := iv_tr h
      obtain ⟨e3, h⟩ := h
      replace h := iv_tr h
      obtain ⟨e4, h⟩ := h
      obtain ⟨fs, e3⟩ := iv_ob e3
      have e4 := Nat.le_of_ble_eq_true e4
      obtain ⟨bb, t1, t2, t3⟩ := iv_tk e1
      rw [List.append_nil] at t3
      have t4 : bb = as.reverse := by rw [t3, List.reverse_reverse]
      subst t4
      obtain ⟨q', u1, u2, u3, u4, u5⟩ := sd_lV_ok hk
      have hq' := sd_all q' (List.mem_of_getElem? u1)
      rcases hq'.2.2.2.2.2.2.1 with ⟨u6, -⟩ | ⟨u6, u7, cc', u8, u9⟩
      · exfalso; rw [u6] at u3; omega
      have hstk : st.map (sd_cv ad) = (as.map (sd_cv ad)).reverse ++ .ref (ad b) :: r1.map (sd_cv ad) := by rw [t2, List.map_append, List.map_reverse]; rfl
      have fin : ∀ r' : RV, xm_call d (t / 512) (.ref b :: as) σ = some r' → (∀ (H1 : Heap) (locs1 : List Loc), va_P D xm_cl (sd_w ad cA r'.2) H1 → va_S (sd_A ad) s.heap H1 locs1 → W p l e (sd_rm (d + 1)) s m args below meth c H1 locs1 0 0 (MQ below (sd_Q ad cA D r) args s 0 0 (sd_A ad)) (F0 m (pc + 3) ls ((r'.1.map (sd_cv ad)).toList ++ r1.map (sd_cv ad)))) → W p l e (sd_rm (d + 1)) s m args below meth c H locs 0 0 (MQ below (sd_Q ad cA D r) args s 0 0 (sd_A ad)) (F0 m pc ls (st.map (sd_cv ad))) := by
        intro r' hc kk
        have hM := IH (t / 512) (.ref b :: as) σ r' q' hc u1
        have hcb : CallB (sd_rm (d + 1)) s args (sd_on (mi_o q)) z (mi_y q') (mi_b q') (mi_L q') (mi_r q') (sd_ws q') (sd_rm d) 0 0 (mi_n q') := callB_of (mi_n q') hts (sd_goodIn hq') rfl rfl rfl (hts _ hq'.2.2.2.2.1) (hts _ u2) hq'.2.2.2.1 ⟨Nat.le_refl _, by have := hq'.2.2.2.2.2.2.2.1; show 8 + (mi_L q' + 11) + 64 * d ≤ 64 * (d + 1); omega⟩
        refine sd_after (va_runV (C := (mi_y q').cls) (As := as.map (sd_cv ad)) (rest := r1.map (sd_cv ad)) (b := ad b) ⟨hx, hb, hml, hown, hts⟩ hM ⟨hcb, hts _ u6, hts _ u7⟩ ⟨sd_blind, ?_, fun U hU hW => ⟨rfl, by rw [hU]; exact hP, va_K.moved hW.alike hK⟩⟩ rfl ?_ hL.1 hstk (lv_room (by rw [sd_cat]; exact e4)) hd ⟨Nat.le_refl _, Nat.le_refl _⟩) hS kk
        · rw [← u3] at e3
          have h9 := va_recv (ci := mi_c q') hK hP u8 (sd_w_at e3)
          rw [u9] at h9
          exact h9
        · rw [List.length_map, ← u4, ← t1, List.length_reverse]
      unfold xm_cll at h
      match hrk : t % 4, h with
      | 0, h =>
        replace h := iv_cV h
        obtain ⟨s', e5, h⟩ := h
        exact fin _ e5 (fun H1 locs1 hP1 hS1 => ih _ _ _ _ _ h _ _ _ hL hP1 hS1)
      | 1, h =>
        replace h := iv_cI h
        obtain ⟨x, s', e5, h⟩ := h
        exact fin _ e5 (fun H1 locs1 hP1 hS1 => ih _ _ _ _ _ h _ _ _ hL hP1 hS1)
      | 2, h =>
        replace h := iv_cL h
        obtain ⟨x, s', e5, h⟩ := h
        exact fin _ e5 (fun H1 locs1 hP1 hS1 => ih _ _ _ _ _ h _ _ _ hL hP1 hS1)
      | _ + 3, h => cases h
    | invokestatic z =>
      rcases t with _ | _ | _ | _ | _ | t
      · skip
        replace h := iv_pI h
        obtain ⟨n9, r1, rfl, h⟩ := h
        replace h := iv_pI h
        obtain ⟨dp, r2, rfl, h⟩ := h
        replace h := iv_pR h
        obtain ⟨b, r3, rfl, h⟩ := h
        replace h := iv_pI h
        obtain ⟨sp, r4, rfl, h⟩ := h
        replace h := iv_pR h
        obtain ⟨a9, r5, rfl, h⟩ := h
        replace h := iv_tr h
        obtain ⟨e4, h⟩ := h
        have e4 := Nat.le_of_ble_eq_true e4
        replace h := iv_ty h
        obtain ⟨y, na, za, e1, h⟩ := h
        replace h := iv_ty h
        obtain ⟨y', nb, zb, e2, h⟩ := h
        replace h := iv_tr h
        obtain ⟨e3, h⟩ := h
        have e3 := Nat.eq_of_beq_eq_true e3
        subst e3
        replace h := iv_cp h
        obtain ⟨⟨c1, c2, c3, c4, c5⟩, h⟩ := h
        obtain ⟨w1, w2, w3, w4⟩ := sd_lC_ok hk
        have hro : ((r5.map (sd_cv ad)).map fun v => v.category).sum + (nativeFrameWords "java/lang/System" "arraycopy" 5 + 11) ≤ (sd_rm (d + 1)).locals := by
          rw [sd_cat]
          have h9 : nativeFrameWords "java/lang/System" "arraycopy" 5 + 11 ≤ 50 := by decide +kernel
          show _ ≤ 64 * (d + 1)
          omega
        match y, e1, e2, h with
        | 0, e1, e2, h =>
          refine va_copyi hx hb (hml.trans hL.1.symm) hown (hts _ w1) (hts _ w2) (hts _ w3) (hts _ w4) hK hP hD hS a9 b 0 0 (ty := .int) (sd_w_at e1) (sd_w_at e2) rfl rfl rfl c1 c2 c3 c4 c5 (fun _ _ => rfl) (Nat.succ_le_succ (Nat.zero_le _)) hro hd (fun H1 locs1 hP1 _ hS1 => ?_)
          rw [sd_wyI e2] at hP1
          exact ih _ _ _ _ _ h _ _ _ hL hP1 hS1
        | 1, e1, e2, h =>
          refine va_copyl hx hb (hml.trans hL.1.symm) hown (hts _ w1) (hts _ w2) (hts _ w3) (hts _ w4) hK hP hD hS a9 b 1 1 (ty := .long) (sd_w_at e1) (sd_w_at e2) rfl rfl rfl c1 c2 c3 c4 c5 (fun _ _ => rfl) (Nat.succ_le_succ (Nat.zero_le _)) hro hd (fun H1 locs1 hP1 _ hS1 => ?_)
          rw [sd_wyL e2] at hP1
          exact ih _ _ _ _ _ h _ _ _ hL hP1 hS1
        | _ + 2, e1, e2, h => cases h
      · skip
        replace h := iv_pI h
        obtain ⟨y, r1, rfl, h⟩ := h
        replace h := iv_pI h
        obtain ⟨x, r2, rfl, h⟩ := h
        replace h := iv_tr h
        obtain ⟨e4, h⟩ := h
        have e4 := Nat.le_of_ble_eq_true e4
        obtain ⟨w1, w2, w3, w4⟩ := sd_lM_ok.1 hk
        exact va_mmax hx hb (hml.trans hL.1.symm) hown (hts _ w1) (hts _ w2) (hts _ w3) (hts _ w4) (Nat.succ_le_succ (Nat.zero_le _)) (by rw [sd_cat]; show _ ≤ 64 * (d + 1); omega) (Nat.le_refl _) (Nat.le_refl _) hd (ih _ _ _ _ _ h _ _ _ hL hP hS)
      · skip
        replace h := iv_pI h
        obtain ⟨y, r1, rfl, h⟩ := h
        replace h := iv_pI h
        obtain ⟨x, r2, rfl, h⟩ := h
        replace h := iv_tr h
        obtain ⟨e4, h⟩ := h
        have e4 := Nat.le_of_ble_eq_true e4
        obtain ⟨w1, w2, w3, w4⟩ := sd_lM_ok.2.1 hk
        exact va_mmin hx hb (hml.trans hL.1.symm) hown (hts _ w1) (hts _ w2) (hts _ w3) (hts _ w4) (Nat.succ_le_succ (Nat.zero_le _)) (by rw [sd_cat]; show _ ≤ 64 * (d + 1); omega) (Nat.le_refl _) (Nat.le_refl _) hd (ih _ _ _ _ _ h _ _ _ hL hP hS)
      · skip
        replace h := iv_pL h
        obtain ⟨x, r2, rfl, h⟩ := h
        replace h := iv_tr h
        obtain ⟨e4, h⟩ := h
        have e4 := Nat.le_of_ble_eq_true e4
        obtain ⟨w1, w2, w3, w4⟩ := sd_lM_ok.2.2.1 hk
        exact va_mabs_long hx hb (hml.trans hL.1.symm) hown (hts _ w1) (hts _ w2) (hts _ w3) (hts _ w4) (Nat.succ_le_succ (Nat.zero_le _)) (by rw [sd_cat]; show _ ≤ 64 * (d + 1); omega) (Nat.le_refl _) (Nat.le_refl _) hd (ih _ _ _ _ _ h _ _ _ hL hP hS)
      · skip
        replace h := iv_pL h
        obtain ⟨y, r1, rfl, h⟩ := h
        replace h := iv_pL h
        obtain ⟨x, r2, rfl, h⟩ := h
        replace h := iv_tr h
        obtain ⟨e4, h⟩ := h
        have e4 := Nat.le_of_ble_eq_true e4
        obtain ⟨w1, w2, w3, w4⟩ := sd_lM_ok.2.2.2 hk
        exact va_mmin_long hx hb (hml.trans hL.1.symm) hown (hts _ w1) (hts _ w2) (hts _ w3) (hts _ w4) (Nat.succ_le_succ (Nat.zero_le _)) (by rw [sd_cat]; show _ ≤ 64 * (d + 1); omega) (Nat.le_refl _) (Nat.le_refl _) hd (ih _ _ _ _ _ h _ _ _ hL hP hS)
      · skip
        replace h := iv_so h
        obtain ⟨⟨as, r1⟩, e1, h⟩ := h
        replace h := iv_tr h
        obtain ⟨e4, h⟩ := h
        have e4 := Nat.le_of_ble_eq_true e4
        obtain ⟨bb, t1, t2, t3⟩ := iv_tk e1
        rw [List.append_nil] at t3
        have t4 : bb = as.reverse := by rw [t3, List.reverse_reverse]
        subst t4
        obtain ⟨q', u1, u2, u3, u4, u5⟩ := sd_lS_ok hk
        have hq' := sd_all q' (List.mem_of_getElem? u1)
        rcases hq'.2.2.2.2.2.2.1 with ⟨-, u6⟩ | ⟨u6, u7, cc', u8, u9⟩
        case inr => exfalso; rw [u3] at u8; cases u8
        have hstk : st.map (sd_cv ad) = (as.map (sd_cv ad)).reverse ++ r1.map (sd_cv ad) := by rw [t2, List.map_append, List.map_reverse]
        have fin : ∀ r' : RV, xm_call d (t / 512) as σ = some r' → (∀ (H1 : Heap) (locs1 : List Loc), va_P D xm_cl (sd_w ad cA r'.2) H1 → va_S (sd_A ad) s.heap H1 locs1 → W p l e (sd_rm (d + 1)) s m args below meth c H1 locs1 0 0 (MQ below (sd_Q ad cA D r) args s 0 0 (sd_A ad)) (F0 m (pc + 3) ls ((r'.1.map (sd_cv ad)).toList ++ r1.map (sd_cv ad)))) → W p l e (sd_rm (d + 1)) s m args below meth c H locs 0 0 (MQ below (sd_Q ad cA D r) args s 0 0 (sd_A ad)) (F0 m pc ls (st.map (sd_cv ad))) := by
          intro r' hc kk
          have hM := IH (t / 512) as σ r' q' hc u1
          have hcb : CallB (sd_rm (d + 1)) s args (sd_on (mi_o q)) z (mi_y q') (mi_b q') (mi_L q') (mi_r q') (sd_ws q') (sd_rm d) 0 0 (mi_n q') := callB_of (mi_n q') hts (sd_goodIn hq') rfl rfl rfl (hts _ hq'.2.2.2.2.1) (hts _ u2) hq'.2.2.2.1 ⟨Nat.le_refl _, by have := hq'.2.2.2.2.2.2.2.1; show 8 + (mi_L q' + 11) + 64 * d ≤ 64 * (d + 1); omega⟩
          refine sd_after (va_runS (As := as.map (sd_cv ad)) (rest := r1.map (sd_cv ad)) ⟨hx, hb, hml, hown, hts⟩ hM ⟨hcb, hts _ u6⟩ ⟨sd_blind, fun U hU hW => ⟨rfl, by rw [hU]; exact hP, va_K.moved hW.alike hK⟩⟩ rfl ?_ hL.1 hstk (lv_room (by rw [sd_cat]; exact e4)) hd ⟨Nat.le_refl _, Nat.le_refl _⟩) hS kk
          rw [List.length_map, ← u4, ← t1, List.length_reverse]
        unfold xm_cll at h
        match hrk : t % 4, h with
        | 0, h =>
          replace h := iv_cV h
          obtain ⟨s', e5, h⟩ := h
          exact fin _ e5 (fun H1 locs1 hP1 hS1 => ih _ _ _ _ _ h _ _ _ hL hP1 hS1)
        | 1, h =>
          replace h := iv_cI h
          obtain ⟨x, s', e5, h⟩ := h
          exact fin _ e5 (fun H1 locs1 hP1 hS1 => ih _ _ _ _ _ h _ _ _ hL hP1 hS1)
        | 2, h =>
          replace h := iv_cL h
          obtain ⟨x, s', e5, h⟩ := h
          exact fin _ e5 (fun H1 locs1 hP1 hS1 => ih _ _ _ _ _ h _ _ _ hL hP1 hS1)
        | _ + 3, h => cases h
    | ireturn =>
      obtain ⟨x, rfl, rfl, hrt⟩ := iv_retI hk h
      rcases hrt with hrt | ⟨hrt, hbo⟩
      · exact W.iret hx hb (hr.trans (sd_rtI hrt hq.2.2.2.2.2.1)) (fun t ht hW => ⟨rfl, by rw [ht]; exact hP, hS.F ht⟩) hS.2.2 hd
      · exact W.zret (ty := .boolean) hx hb (hr.trans (sd_rtZ hrt hq.2.2.2.2.2.1)) (by rcases hbo with rfl | rfl <;> decide +kernel) (fun t ht hW => ⟨rfl, by rw [ht]; exact hP, hS.F ht⟩) hS.2.2 hd
    | lreturn =>
      obtain ⟨x, rfl, rfl, hrt⟩ := iv_retL hk h
      exact W.lret hx hb (hr.trans (sd_rtL hrt hq.2.2.2.2.2.1)) (fun t ht hW => ⟨rfl, by rw [ht]; exact hP, hS.F ht⟩) hS.2.2 hd
    | return_ =>
      obtain ⟨rfl, rfl, hrt⟩ := iv_retV hk h
      exact W.vret hx hb (hr.trans (sd_rtV hrt hq.2.2.2.2.2.1)) (fun t ht hW => ⟨rfl, by rw [ht]; exact hP, hS.F ht⟩) hS.2.2 hd
    | _ => cases h
end
section
/-! THE CONTRACTS OF ALL METHODS, out of what the small machine answers -/
theorem sd_nul : ∀ (n i : Nat), xm_nth (xm_nul n) i = .null
  | 0, _ => rfl
  | _ + 1, 0 => rfl
  | n + 1, i + 1 => sd_nul n i
theorem sd_lay (ad : Nat → Nat) : ∀ (as : List Value) (n i0 i : Nat) (v : Value), xm_nth (xm_lay n as) i = v → v ≠ .null → (i0 + i, sd_cv ad v) ∈ lv_args i0 (as.map (sd_cv ad))
  | [], n, i0, i, v, h, hv => absurd (h.symm.trans (sd_nul n i)) hv
  | a :: r, n, i0, i, v, h, hv => by
    have one : ∀ b : Value, xm_lay n (b :: r) = b :: xm_lay (n - 1) r → (sd_cv ad b).category = 1 → xm_nth (xm_lay n (b :: r)) i = v → (i0 + i, sd_cv ad v) ∈ lv_args i0 ((b :: r).map (sd_cv ad)) := by
      intro b e hc h
      rw [e] at h
      show _ ∈ (i0, sd_cv ad b) :: lv_args (if (sd_cv ad b).category = 2 then i0 + 2 else i0 + 1) (r.map (sd_cv ad))
      rw [if_neg (by omega)]
      cases i with
      | zero =>
        have h : b = v := h
        subst h
        exact List.mem_cons_self
      | succ i =>
        have := sd_lay ad r (n - 1) (i0 + 1) i v h hv
        rw [show i0 + 1 + i = i0 + (i + 1) by omega] at this
        exact List.mem_cons_of_mem _ this
    have two : ∀ b : Value, xm_lay n (b :: r) = b :: .null :: xm_lay (n - 2) r → (sd_cv ad b).category = 2 → xm_nth (xm_lay n (b :: r)) i = v → (i0 + i, sd_cv ad v) ∈ lv_args i0 ((b :: r).map (sd_cv ad)) := by
      intro b e hc h
      rw [e] at h
      show _ ∈ (i0, sd_cv ad b) :: lv_args (if (sd_cv ad b).category = 2 then i0 + 2 else i0 + 1) (r.map (sd_cv ad))
      rw [if_pos hc]
      cases i with
      | zero =>
        have h : b = v := h
        subst h
        exact List.mem_cons_self
      | succ i =>
        cases i with
        | zero => exact absurd h.symm hv
        | succ i =>
          have := sd_lay ad r (n - 2) (i0 + 2) i v h hv
          rw [show i0 + 2 + i = i0 + (i + 1 + 1) by omega] at this
          exact List.mem_cons_of_mem _ this
    cases a with
    | long x => exact two (.long x) rfl rfl h
    | double x => exact two (.double x) rfl rfl h
    | int x => exact one (.int x) rfl rfl h
    | float x => exact one (.float x) rfl rfl h
    | null => exact one .null rfl rfl h
    | ref x => exact one (.ref x) rfl rfl h
    | retAddr x => exact one (.retAddr x) rfl rfl h
theorem sd_sl : ∀ vs : List Value, (lg_sl vs).length = (vs.map fun v => v.category).sum
  | [] => rfl
  | v :: r => by
    have h := sd_sl r
    unfold lg_sl at h ⊢
    rw [List.flatMap_cons, List.length_append, h, List.map_cons, List.sum_cons]
    rcases lv_cat v with e | e <;> rw [e] <;> rfl
set_option maxHeartbeats 4000000 in
theorem sd_mets {l : Launch} {ad : Nat → Nat} {cA : Nat → ClassId} {D : va_G} (hi : sd_inj ad) : ∀ d, sd_met l ad cA D d
  | 0 => by
    intro M as σ r q h
    cases h
  | d + 1 => by
    have IH := sd_mets (l := l) (cA := cA) (D := D) hi d
    intro M as σ r q h hM
    unfold xm_call at h
    obtain ⟨⟨rt, mL, cd⟩, e1, h⟩ := iv_so h
    obtain ⟨e2, h⟩ := iv_tr h
    have e2 := Nat.le_of_ble_eq_true e2
    rw [sd_mt, xm_at_eq, List.getElem?_map, hM] at e1
    cases e1
    dsimp only at e2 h
    obtain ⟨n, h⟩ := xm_rn_ex h
    have hq := sd_all q (List.mem_of_getElem? hM)
    refine Met.ofW (cc := mi_b q) (maxL := mi_L q) (ret := mi_r q) hq.2.1 rfl ?_
    intro p e s m args below meth c s₁ B hml hv
    obtain ⟨rfl, hP, hK⟩ := hv
    have hts0 := atoms_spec (ws := sd_ws q) B.pre
    have hts : ∀ w ∈ sd_tb, w.before (as.map (sd_cv ad)).toArray s = true := fun w hw => hts0 w (List.mem_cons_of_mem _ hw)
    have hown : s.vm.findClass (mi_y q).cls = some m.cls := findClass_of_methodNamed B.named
    rw [hq.2.2.1] at hown
    rw [lg_entry_eq]
    have hle := lv_entry (as.map (sd_cv ad)) (n := mi_L q) (by rw [sd_sl, sd_cat]; exact e2)
    refine sd_run hi d IH q hq ⟨B.exec, B.bytes, B.returns, B.notSynchronized, hml, hown, hts, hK⟩ n 0 _ [] σ r h s.heap [] _ ⟨hle.1, hle.2.1, fun i v hiv hv => ?_⟩ hP va_S.rf
    have := sd_lay ad as (mi_L q) 0 i v hiv hv
    rw [Nat.zero_add] at this
    exact hle.2.2 _ this
end
