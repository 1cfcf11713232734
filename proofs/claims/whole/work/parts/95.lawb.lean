theorem lx_0 : (Jvm.Cond.methodLink "ThroughOthersLaw" (13 : Nat) ({ cls := "ThroughOthers", name := "persons", desc := "(I)I" } : Jvm.MethodName)) ∈ sd_tb := sd_in (List.mem_of_getElem? (i := 341) (by decide +kernel)) rfl
theorem lx_1 : (Jvm.Cond.methodLink "ThroughOthersLaw" (17 : Nat) ({ cls := "ThroughOthersModel", name := "persons", desc := "(I)I" } : Jvm.MethodName)) ∈ sd_tb := sd_in (List.mem_of_getElem? (i := 1110) (by decide +kernel)) rfl
theorem lx_2 : (Jvm.Cond.methodLink "ThroughOthersLaw" (18 : Nat) ({ cls := "ThroughOthers", name := "tie", desc := "(IIZ)I" } : Jvm.MethodName)) ∈ sd_tb := sd_in (List.mem_of_getElem? (i := 357) (by decide +kernel)) rfl
theorem lx_3 : (Jvm.Cond.methodLink "ThroughOthersLaw" (22 : Nat) ({ cls := "ThroughOthersModel", name := "tie", desc := "(IIZ)I" } : Jvm.MethodName)) ∈ sd_tb := sd_in (List.mem_of_getElem? (i := 1115) (by decide +kernel)) rfl
theorem lx_4 : (Jvm.Cond.methodLink "ThroughOthersLaw" (23 : Nat) ({ cls := "ThroughOthers", name := "kind", desc := "(II)I" } : Jvm.MethodName)) ∈ sd_tb := sd_in (List.mem_of_getElem? (i := 370) (by decide +kernel)) rfl
theorem lx_5 : (Jvm.Cond.methodLink "ThroughOthersLaw" (27 : Nat) ({ cls := "ThroughOthersModel", name := "kind", desc := "(II)I" } : Jvm.MethodName)) ∈ sd_tb := sd_in (List.mem_of_getElem? (i := 1127) (by decide +kernel)) rfl
theorem lx_6 : (Jvm.Cond.methodLink "ThroughOthersLaw" (28 : Nat) ({ cls := "ThroughOthers", name := "read", desc := "(II)I" } : Jvm.MethodName)) ∈ sd_tb := sd_in (List.mem_of_getElem? (i := 385) (by decide +kernel)) rfl
theorem lx_7 : (Jvm.Cond.methodLink "ThroughOthersLaw" (31 : Nat) ({ cls := "ThroughOthersModel", name := "read", desc := "(II)I" } : Jvm.MethodName)) ∈ sd_tb := sd_in (List.mem_of_getElem? (i := 1134) (by decide +kernel)) rfl
theorem lx_8 : (Jvm.Cond.methodLink "ThroughOthersLaw" (32 : Nat) ({ cls := "ThroughOthers", name := "about", desc := "(II)I" } : Jvm.MethodName)) ∈ sd_tb := sd_in (List.mem_of_getElem? (i := 408) (by decide +kernel)) rfl
theorem lx_9 : (Jvm.Cond.methodLink "ThroughOthersLaw" (35 : Nat) ({ cls := "ThroughOthersModel", name := "about", desc := "(II)I" } : Jvm.MethodName)) ∈ sd_tb := sd_in (List.mem_of_getElem? (i := 1138) (by decide +kernel)) rfl
theorem lx_10 : (Jvm.Cond.methodLink "ThroughOthersLaw" (36 : Nat) ({ cls := "ThroughOthers", name := "far", desc := "(II)I" } : Jvm.MethodName)) ∈ sd_tb := sd_in (List.mem_of_getElem? (i := 422) (by decide +kernel)) rfl
theorem lx_11 : (Jvm.Cond.methodLink "ThroughOthersLaw" (39 : Nat) ({ cls := "ThroughOthersModel", name := "far", desc := "(II)I" } : Jvm.MethodName)) ∈ sd_tb := sd_in (List.mem_of_getElem? (i := 1149) (by decide +kernel)) rfl
theorem lx_12 : (Jvm.Cond.methodLink "ThroughOthersLaw" (40 : Nat) ({ cls := "ThroughOthers", name := "set", desc := "(II)I" } : Jvm.MethodName)) ∈ sd_tb := sd_in (List.mem_of_getElem? (i := 434) (by decide +kernel)) rfl
theorem lx_13 : (Jvm.Cond.methodLink "ThroughOthersLaw" (43 : Nat) ({ cls := "ThroughOthersModel", name := "set", desc := "(II)I" } : Jvm.MethodName)) ∈ sd_tb := sd_in (List.mem_of_getElem? (i := 1161) (by decide +kernel)) rfl
theorem lx_14 : (Jvm.Cond.methodLink "ThroughOthersLaw" (44 : Nat) ({ cls := "ThroughOthers", name := "found", desc := "(II)J" } : Jvm.MethodName)) ∈ sd_tb := sd_in (List.mem_of_getElem? (i := 453) (by decide +kernel)) rfl
theorem lx_15 : (Jvm.Cond.methodLink "ThroughOthersLaw" (48 : Nat) ({ cls := "ThroughOthersModel", name := "found", desc := "(II)J" } : Jvm.MethodName)) ∈ sd_tb := sd_in (List.mem_of_getElem? (i := 1168) (by decide +kernel)) rfl
theorem lx_16 : (Jvm.Cond.methodLink "ThroughOthersLaw" (49 : Nat) ({ cls := "ThroughOthers", name := "both", desc := "(III)J" } : Jvm.MethodName)) ∈ sd_tb := sd_in (List.mem_of_getElem? (i := 492) (by decide +kernel)) rfl
theorem lx_17 : (Jvm.Cond.methodLink "ThroughOthersLaw" (53 : Nat) ({ cls := "ThroughOthersModel", name := "both", desc := "(III)J" } : Jvm.MethodName)) ∈ sd_tb := sd_in (List.mem_of_getElem? (i := 1208) (by decide +kernel)) rfl
theorem lx_18 : (Jvm.Cond.methodLink "ThroughOthersLaw" (54 : Nat) ({ cls := "ThroughOthers", name := "size", desc := "(II)J" } : Jvm.MethodName)) ∈ sd_tb := sd_in (List.mem_of_getElem? (i := 496) (by decide +kernel)) rfl
theorem lx_19 : (Jvm.Cond.methodLink "ThroughOthersLaw" (57 : Nat) ({ cls := "ThroughOthersModel", name := "size", desc := "(II)J" } : Jvm.MethodName)) ∈ sd_tb := sd_in (List.mem_of_getElem? (i := 1212) (by decide +kernel)) rfl
theorem lx_20 : (Jvm.Cond.methodLink "ThroughOthersLaw" (58 : Nat) ({ cls := "ThroughOthers", name := "kinds", desc := "(II)J" } : Jvm.MethodName)) ∈ sd_tb := sd_in (List.mem_of_getElem? (i := 504) (by decide +kernel)) rfl
theorem lx_21 : (Jvm.Cond.methodLink "ThroughOthersLaw" (61 : Nat) ({ cls := "ThroughOthersModel", name := "kinds", desc := "(II)J" } : Jvm.MethodName)) ∈ sd_tb := sd_in (List.mem_of_getElem? (i := 1216) (by decide +kernel)) rfl
theorem lx_22 : (Jvm.Cond.methodLink "ThroughOthersLaw" (62 : Nat) ({ cls := "ThroughOthers", name := "within", desc := "(II)J" } : Jvm.MethodName)) ∈ sd_tb := sd_in (List.mem_of_getElem? (i := 512) (by decide +kernel)) rfl
theorem lx_23 : (Jvm.Cond.methodLink "ThroughOthersLaw" (65 : Nat) ({ cls := "ThroughOthersModel", name := "within", desc := "(II)J" } : Jvm.MethodName)) ∈ sd_tb := sd_in (List.mem_of_getElem? (i := 1220) (by decide +kernel)) rfl
theorem lx_24 : (Jvm.Cond.methodLink "ThroughOthersLaw" (66 : Nat) ({ cls := "ThroughOthers", name := "at", desc := "(III)J" } : Jvm.MethodName)) ∈ sd_tb := sd_in (List.mem_of_getElem? (i := 539) (by decide +kernel)) rfl
theorem lx_25 : (Jvm.Cond.methodLink "ThroughOthersLaw" (69 : Nat) ({ cls := "ThroughOthersModel", name := "at", desc := "(III)J" } : Jvm.MethodName)) ∈ sd_tb := sd_in (List.mem_of_getElem? (i := 1224) (by decide +kernel)) rfl
theorem lx_26 : (Jvm.Cond.methodLink "ThroughOthersLaw" (70 : Nat) ({ cls := "ThroughOthers", name := "lasting", desc := "(II)J" } : Jvm.MethodName)) ∈ sd_tb := sd_in (List.mem_of_getElem? (i := 559) (by decide +kernel)) rfl
theorem lx_27 : (Jvm.Cond.methodLink "ThroughOthersLaw" (73 : Nat) ({ cls := "ThroughOthersModel", name := "lasting", desc := "(II)J" } : Jvm.MethodName)) ∈ sd_tb := sd_in (List.mem_of_getElem? (i := 1233) (by decide +kernel)) rfl
theorem lx_28 : (Jvm.Cond.methodLink "ThroughOthersLaw" (74 : Nat) ({ cls := "ThroughOthers", name := "strayed", desc := "(II)J" } : Jvm.MethodName)) ∈ sd_tb := sd_in (List.mem_of_getElem? (i := 569) (by decide +kernel)) rfl
theorem lx_29 : (Jvm.Cond.methodLink "ThroughOthersLaw" (77 : Nat) ({ cls := "ThroughOthersModel", name := "strayed", desc := "(II)J" } : Jvm.MethodName)) ∈ sd_tb := sd_in (List.mem_of_getElem? (i := 1241) (by decide +kernel)) rfl
theorem lx_30 : (Jvm.Cond.methodLink "ThroughOthersLaw" (78 : Nat) ({ cls := "ThroughOthers", name := "came", desc := "(IIII)I" } : Jvm.MethodName)) ∈ sd_tb := sd_in (List.mem_of_getElem? (i := 585) (by decide +kernel)) rfl
theorem lx_31 : (Jvm.Cond.methodLink "ThroughOthersLaw" (82 : Nat) ({ cls := "ThroughOthersModel", name := "came", desc := "(IIII)I" } : Jvm.MethodName)) ∈ sd_tb := sd_in (List.mem_of_getElem? (i := 1245) (by decide +kernel)) rfl
theorem lx_32 : (Jvm.Cond.methodLink "ThroughOthersLaw" (83 : Nat) ({ cls := "ThroughOthers", name := "takeBack", desc := "(II)I" } : Jvm.MethodName)) ∈ sd_tb := sd_in (List.mem_of_getElem? (i := 603) (by decide +kernel)) rfl
theorem lx_33 : (Jvm.Cond.methodLink "ThroughOthersLaw" (86 : Nat) ({ cls := "ThroughOthersModel", name := "takeBack", desc := "(II)I" } : Jvm.MethodName)) ∈ sd_tb := sd_in (List.mem_of_getElem? (i := 1254) (by decide +kernel)) rfl
theorem lx_34 : (Jvm.Cond.methodLink "ThroughOthersLaw" (87 : Nat) ({ cls := "ThroughOthers", name := "record", desc := "(II)I" } : Jvm.MethodName)) ∈ sd_tb := sd_in (List.mem_of_getElem? (i := 611) (by decide +kernel)) rfl
theorem lx_35 : (Jvm.Cond.methodLink "ThroughOthersLaw" (90 : Nat) ({ cls := "ThroughOthersModel", name := "record", desc := "(II)I" } : Jvm.MethodName)) ∈ sd_tb := sd_in (List.mem_of_getElem? (i := 1258) (by decide +kernel)) rfl
theorem lx_36 : (Jvm.Cond.methodLink "ThroughOthersLaw" (91 : Nat) ({ cls := "ThroughOthers", name := "share", desc := "(II)J" } : Jvm.MethodName)) ∈ sd_tb := sd_in (List.mem_of_getElem? (i := 619) (by decide +kernel)) rfl
theorem lx_37 : (Jvm.Cond.methodLink "ThroughOthersLaw" (94 : Nat) ({ cls := "ThroughOthersModel", name := "share", desc := "(II)J" } : Jvm.MethodName)) ∈ sd_tb := sd_in (List.mem_of_getElem? (i := 1270) (by decide +kernel)) rfl
theorem lx_38 : (Jvm.Cond.methodLink "ThroughOthersLaw" (95 : Nat) ({ cls := "ThroughOthers", name := "bounds", desc := "(III)J" } : Jvm.MethodName)) ∈ sd_tb := sd_in (List.mem_of_getElem? (i := 662) (by decide +kernel)) rfl
theorem lx_39 : (Jvm.Cond.methodLink "ThroughOthersLaw" (98 : Nat) ({ cls := "ThroughOthersModel", name := "bounds", desc := "(III)J" } : Jvm.MethodName)) ∈ sd_tb := sd_in (List.mem_of_getElem? (i := 1299) (by decide +kernel)) rfl
theorem lx_40 : (Jvm.Cond.methodLink "ThroughOthersLaw" (99 : Nat) ({ cls := "ThroughOthers", name := "leaving", desc := "(II)J" } : Jvm.MethodName)) ∈ sd_tb := sd_in (List.mem_of_getElem? (i := 671) (by decide +kernel)) rfl
theorem lx_41 : (Jvm.Cond.methodLink "ThroughOthersLaw" (102 : Nat) ({ cls := "ThroughOthersModel", name := "leaving", desc := "(II)J" } : Jvm.MethodName)) ∈ sd_tb := sd_in (List.mem_of_getElem? (i := 1303) (by decide +kernel)) rfl
theorem lx_42 : (Jvm.Cond.methodLink "ThroughOthersLaw" (103 : Nat) ({ cls := "ThroughOthers", name := "alike", desc := "(I)I" } : Jvm.MethodName)) ∈ sd_tb := sd_in (List.mem_of_getElem? (i := 683) (by decide +kernel)) rfl
theorem lx_43 : (Jvm.Cond.methodLink "ThroughOthersLaw" (106 : Nat) ({ cls := "ThroughOthersModel", name := "alike", desc := "(I)I" } : Jvm.MethodName)) ∈ sd_tb := sd_in (List.mem_of_getElem? (i := 1314) (by decide +kernel)) rfl
theorem lx_44 : (Jvm.Cond.methodLink "ThroughOthersLaw" (107 : Nat) ({ cls := "ThroughOthers", name := "forgot", desc := "(II)J" } : Jvm.MethodName)) ∈ sd_tb := sd_in (List.mem_of_getElem? (i := 721) (by decide +kernel)) rfl
theorem lx_45 : (Jvm.Cond.methodLink "ThroughOthersLaw" (110 : Nat) ({ cls := "ThroughOthersModel", name := "forgot", desc := "(II)J" } : Jvm.MethodName)) ∈ sd_tb := sd_in (List.mem_of_getElem? (i := 1338) (by decide +kernel)) rfl
theorem lx_46 : (Jvm.Cond.methodLink "ThroughOthersLaw" (111 : Nat) ({ cls := "ThroughOthers", name := "wave", desc := "(I)I" } : Jvm.MethodName)) ∈ sd_tb := sd_in (List.mem_of_getElem? (i := 739) (by decide +kernel)) rfl
theorem lx_47 : (Jvm.Cond.methodLink "ThroughOthersLaw" (114 : Nat) ({ cls := "ThroughOthersModel", name := "wave", desc := "(I)I" } : Jvm.MethodName)) ∈ sd_tb := sd_in (List.mem_of_getElem? (i := 1343) (by decide +kernel)) rfl
theorem lx_48 : (Jvm.Cond.methodLink "ThroughOthersLaw" (115 : Nat) ({ cls := "ThroughOthers", name := "type", desc := "(II)I" } : Jvm.MethodName)) ∈ sd_tb := sd_in (List.mem_of_getElem? (i := 747) (by decide +kernel)) rfl
theorem lx_49 : (Jvm.Cond.methodLink "ThroughOthersLaw" (118 : Nat) ({ cls := "ThroughOthersModel", name := "type", desc := "(II)I" } : Jvm.MethodName)) ∈ sd_tb := sd_in (List.mem_of_getElem? (i := 1348) (by decide +kernel)) rfl
theorem lx_50 : (Jvm.Cond.methodLink "ThroughOthersLaw" (119 : Nat) ({ cls := "ThroughOthers", name := "wipe", desc := "(I)I" } : Jvm.MethodName)) ∈ sd_tb := sd_in (List.mem_of_getElem? (i := 758) (by decide +kernel)) rfl
theorem lx_51 : (Jvm.Cond.methodLink "ThroughOthersLaw" (122 : Nat) ({ cls := "ThroughOthersModel", name := "wipe", desc := "(I)I" } : Jvm.MethodName)) ∈ sd_tb := sd_in (List.mem_of_getElem? (i := 1355) (by decide +kernel)) rfl
theorem lx_52 : (Jvm.Cond.methodLink "ThroughOthersLaw" (123 : Nat) ({ cls := "ThroughOthers", name := "clash", desc := "(II)I" } : Jvm.MethodName)) ∈ sd_tb := sd_in (List.mem_of_getElem? (i := 762) (by decide +kernel)) rfl
theorem lx_53 : (Jvm.Cond.methodLink "ThroughOthersLaw" (126 : Nat) ({ cls := "ThroughOthersModel", name := "clash", desc := "(II)I" } : Jvm.MethodName)) ∈ sd_tb := sd_in (List.mem_of_getElem? (i := 1359) (by decide +kernel)) rfl
theorem lx_54 : (Jvm.Cond.methodLink "ThroughOthersLaw" (127 : Nat) ({ cls := "ThroughOthers", name := "least", desc := "()I" } : Jvm.MethodName)) ∈ sd_tb := sd_in (List.mem_of_getElem? (i := 771) (by decide +kernel)) rfl
theorem lx_55 : (Jvm.Cond.methodLink "ThroughOthersLaw" (131 : Nat) ({ cls := "ThroughOthersModel", name := "least", desc := "()I" } : Jvm.MethodName)) ∈ sd_tb := sd_in (List.mem_of_getElem? (i := 1367) (by decide +kernel)) rfl
theorem lx_56 : (Jvm.Cond.methodLink "ThroughOthersLaw" (132 : Nat) ({ cls := "ThroughOthers", name := "ones", desc := "(I)I" } : Jvm.MethodName)) ∈ sd_tb := sd_in (List.mem_of_getElem? (i := 794) (by decide +kernel)) rfl
theorem lx_57 : (Jvm.Cond.methodLink "ThroughOthersLaw" (135 : Nat) ({ cls := "ThroughOthersModel", name := "ones", desc := "(I)I" } : Jvm.MethodName)) ∈ sd_tb := sd_in (List.mem_of_getElem? (i := 1383) (by decide +kernel)) rfl
theorem lx_58 : (Jvm.Cond.methodLink "ThroughOthersLaw" (136 : Nat) ({ cls := "ThroughOthers", name := "reach", desc := "(I)I" } : Jvm.MethodName)) ∈ sd_tb := sd_in (List.mem_of_getElem? (i := 802) (by decide +kernel)) rfl
theorem lx_59 : (Jvm.Cond.methodLink "ThroughOthersLaw" (139 : Nat) ({ cls := "ThroughOthersModel", name := "reach", desc := "(I)I" } : Jvm.MethodName)) ∈ sd_tb := sd_in (List.mem_of_getElem? (i := 1387) (by decide +kernel)) rfl
theorem lx_60 : (Jvm.Cond.methodLink "ThroughOthersLaw" (140 : Nat) ({ cls := "ThroughOthers", name := "parts", desc := "(I)I" } : Jvm.MethodName)) ∈ sd_tb := sd_in (List.mem_of_getElem? (i := 810) (by decide +kernel)) rfl
theorem lx_61 : (Jvm.Cond.methodLink "ThroughOthersLaw" (143 : Nat) ({ cls := "ThroughOthersModel", name := "parts", desc := "(I)I" } : Jvm.MethodName)) ∈ sd_tb := sd_in (List.mem_of_getElem? (i := 1392) (by decide +kernel)) rfl
theorem lx_62 : (Jvm.Cond.methodLink "ThroughOthersLaw" (144 : Nat) ({ cls := "ThroughOthers", name := "narrow", desc := "(I)J" } : Jvm.MethodName)) ∈ sd_tb := sd_in (List.mem_of_getElem? (i := 824) (by decide +kernel)) rfl
theorem lx_63 : (Jvm.Cond.methodLink "ThroughOthersLaw" (148 : Nat) ({ cls := "ThroughOthersModel", name := "narrow", desc := "(I)J" } : Jvm.MethodName)) ∈ sd_tb := sd_in (List.mem_of_getElem? (i := 1404) (by decide +kernel)) rfl
theorem lx_64 : (Jvm.Cond.methodLink "ThroughOthersLaw" (149 : Nat) ({ cls := "ThroughOthers", name := "sheet", desc := "(III)I" } : Jvm.MethodName)) ∈ sd_tb := sd_in (List.mem_of_getElem? (i := 839) (by decide +kernel)) rfl
theorem lx_65 : (Jvm.Cond.methodLink "ThroughOthersLaw" (153 : Nat) ({ cls := "ThroughOthersModel", name := "sheet", desc := "(III)I" } : Jvm.MethodName)) ∈ sd_tb := sd_in (List.mem_of_getElem? (i := 1070) (by decide +kernel)) rfl
theorem lx_66 : (Jvm.Cond.methodLink "ThroughOthersLaw" (154 : Nat) ({ cls := "ThroughOthers", name := "lose", desc := "(I)I" } : Jvm.MethodName)) ∈ sd_tb := sd_in (List.mem_of_getElem? (i := 850) (by decide +kernel)) rfl
theorem lx_67 : (Jvm.Cond.methodLink "ThroughOthersLaw" (157 : Nat) ({ cls := "ThroughOthersModel", name := "lose", desc := "(I)I" } : Jvm.MethodName)) ∈ sd_tb := sd_in (List.mem_of_getElem? (i := 1086) (by decide +kernel)) rfl
theorem lx_68 : (Jvm.Cond.methodLink "ThroughOthersLaw" (158 : Nat) ({ cls := "ThroughOthers", name := "lay", desc := "(IIII)I" } : Jvm.MethodName)) ∈ sd_tb := sd_in (List.mem_of_getElem? (i := 854) (by decide +kernel)) rfl
theorem lx_69 : (Jvm.Cond.methodLink "ThroughOthersLaw" (161 : Nat) ({ cls := "ThroughOthersModel", name := "lay", desc := "(IIII)I" } : Jvm.MethodName)) ∈ sd_tb := sd_in (List.mem_of_getElem? (i := 1090) (by decide +kernel)) rfl
theorem lx_70 : (Jvm.Cond.methodLink "ThroughOthersLaw" (162 : Nat) ({ cls := "ThroughOthers", name := "get", desc := "(III)I" } : Jvm.MethodName)) ∈ sd_tb := sd_in (List.mem_of_getElem? (i := 867) (by decide +kernel)) rfl
theorem lx_71 : (Jvm.Cond.methodLink "ThroughOthersLaw" (165 : Nat) ({ cls := "ThroughOthersModel", name := "get", desc := "(III)I" } : Jvm.MethodName)) ∈ sd_tb := sd_in (List.mem_of_getElem? (i := 1101) (by decide +kernel)) rfl
theorem lx_72 : (Jvm.Cond.methodLink "ThroughOthersLaw" (166 : Nat) ({ cls := "ThroughOthers", name := "copy", desc := "(IIIII)I" } : Jvm.MethodName)) ∈ sd_tb := sd_in (List.mem_of_getElem? (i := 872) (by decide +kernel)) rfl
theorem lx_73 : (Jvm.Cond.methodLink "ThroughOthersLaw" (170 : Nat) ({ cls := "ThroughOthersModel", name := "copy", desc := "(IIIII)I" } : Jvm.MethodName)) ∈ sd_tb := sd_in (List.mem_of_getElem? (i := 1106) (by decide +kernel)) rfl
theorem lx_74 : (Jvm.Cond.methodLink "ThroughOthersLaw" (171 : Nat) ({ cls := "ThroughOthers", name := "write", desc := "(II)I" } : Jvm.MethodName)) ∈ sd_tb := sd_in (List.mem_of_getElem? (i := 881) (by decide +kernel)) rfl
theorem lx_75 : (Jvm.Cond.methodLink "ThroughOthersLaw" (174 : Nat) ({ cls := "ThroughOthersModel", name := "write", desc := "(II)I" } : Jvm.MethodName)) ∈ sd_tb := sd_in (List.mem_of_getElem? (i := 1412) (by decide +kernel)) rfl
theorem lx_76 : (Jvm.Cond.methodLink "ThroughOthersLaw" (175 : Nat) ({ cls := "ThroughOthers", name := "count", desc := "(I)I" } : Jvm.MethodName)) ∈ sd_tb := sd_in (List.mem_of_getElem? (i := 885) (by decide +kernel)) rfl
theorem lx_77 : (Jvm.Cond.methodLink "ThroughOthersLaw" (178 : Nat) ({ cls := "ThroughOthersModel", name := "count", desc := "(I)I" } : Jvm.MethodName)) ∈ sd_tb := sd_in (List.mem_of_getElem? (i := 1416) (by decide +kernel)) rfl
theorem lx_78 : (Jvm.Cond.methodLink "ThroughOthersLaw" (179 : Nat) ({ cls := "ThroughOthers", name := "digest", desc := "()J" } : Jvm.MethodName)) ∈ sd_tb := sd_in (List.mem_of_getElem? (i := 893) (by decide +kernel)) rfl
theorem lx_79 : (Jvm.Cond.methodLink "ThroughOthersLaw" (183 : Nat) ({ cls := "ThroughOthersModel", name := "digest", desc := "()J" } : Jvm.MethodName)) ∈ sd_tb := sd_in (List.mem_of_getElem? (i := 1420) (by decide +kernel)) rfl
theorem lc_cmp (r : Int64) : lg_cmp r r = 0 := by
  unfold lg_cmp
  simp
theorem lc_w (x : Int32) : ∃ w : Int32, ((x = 0 ∧ w = 0) ∨ (¬ x = 0 ∧ w = 1)) ∧ inR w 2 := by
  by_cases h : x = 0
  · exact ⟨0, Or.inl ⟨h, rfl⟩, 0, by decide, rfl⟩
  · exact ⟨1, Or.inr ⟨h, rfl⟩, 1, by decide, rfl⟩
section LCB
variable {p : Program} {l : Launch} {e : Env} {s : State} {m : MethodId} {below : List Frame} {meth : Method} {c : Code} {b L : Nat} {xs : Nat → Int32} {ad : Nat → Nat} {cA : Nat → ClassId} {D : va_G} {Q : State → Prop} {H : Heap} {locs : List Loc} {ls : Array Slot} {σ : Sg} {k : Nat}
theorem lc_bit {pc : Nat} {rest : List Value} (hx : p.tables.exec = Jvm.exec) (hb : c.code = code) (d1 : decode code pc = .ok (.ifCond .eq 7, 3)) (h1 : (pc : Int) + 7 = ((pc + 7 : Nat) : Int)) (d2 : decode code (pc + 3) = .ok (.iconst 1, 1)) (d3 : decode code (pc + 4) = .ok (.goto 4, 3)) (h2 : ((pc + 4 : Nat) : Int) + 4 = ((pc + 8 : Nat) : Int)) (d4 : decode code (pc + 7) = .ok (.iconst 0, 1)) {w w0 : Int32} (hw : (w0 = 0 ∧ w = 0) ∨ (¬ w0 = 0 ∧ w = 1))
    (kk : W p l e room_1 s m #[Value.ref b] below meth c H locs 70 6996 Q (F0 m (pc + 8) ls (.int w :: rest))) : W p l e room_1 s m #[Value.ref b] below meth c H locs 70 6996 Q (F0 m pc ls (.int w0 :: rest)) := by
  refine lv_if_eq (tgt := pc + 7) hx hb d1 h1 (fun h => ?_) (fun h => ?_)
  · rcases hw with ⟨-, rfl⟩ | ⟨q, -⟩
    · exact lv_iconst (v := 0) hx hb d4 (by decide +kernel) kk
    · exact absurd h q
  · rcases hw with ⟨q, -⟩ | ⟨-, rfl⟩
    · exact absurd q h
    · refine lv_iconst (v := 1) hx hb d2 (by decide +kernel) ?_
      exact lv_goto (tgt := pc + 8) hx hb d3 h2 kk
theorem lc_0 (C : lc_C p s m meth c b L xs ad cA D) (hH : lc_S s ad cA D σ H locs) (hl : lc_L ls b ad k) (hk : 6 * k + 6 ≤ L) (hI : INV k σ) (kk : ∀ (τ : Sg) (H1 : Heap) (locs1 : List Loc), INV (k + 1) τ → lc_S s ad cA D τ H1 locs1 → W p l e room_1 s m #[Value.ref b] below meth c H1 locs1 70 6996 Q (F0 m 1548 ls [])) : W p l e room_1 s m #[Value.ref b] below meth c H locs 70 6996 Q (F0 m 208 ls []) := by
  have hx := C.1
  have hb := C.2.1
  have hk9 : k < 512 := by have := C.2.2.2.2.2.2.2.2.2.2.2.2; omega
  obtain ⟨r, σ1, σ2, g1, g2, g3⟩ := I_persons hk9 hI (xs (6 * k + 1))
  refine lv_aload_n hx hb dl_208 rfl (lv_at hl 2 rfl) ?_
  refine lc_arg C hH hl hk 1 (by decide) rfl dl_209 dl_210 dl_211 dl_212 dl_213 ?_
  refine lc_call C hH hl.1 (M := 1) (o := 0) (q := mi_TO_persons) (as := [.int (xs (6 * k + 1))]) (r := (some (.int r), σ1)) rfl lx_0 rfl rfl (by decide) rfl g1 (Nat.le_of_ble_eq_true rfl) dl_214 (fun H locs hH => ?_)
  refine lv_aload_n hx hb dl_217 rfl (lv_at hl 1 rfl) ?_
  refine lc_arg C hH hl hk 1 (by decide) rfl dl_218 dl_219 dl_220 dl_221 dl_222 ?_
  refine lc_call C hH hl.1 (M := 140) (o := 39) (q := mi_Mod_persons) (as := [.int (xs (6 * k + 1))]) (r := (some (.int r), σ2)) rfl lx_1 rfl rfl (by decide) rfl g2 (Nat.le_of_ble_eq_true rfl) dl_223 (fun H locs hH => ?_)
  exact lv_icmp_eq (tgt := 1548) hx hb dl_226 (by decide) (fun _ => kk σ2 H locs g3 hH) (fun h => absurd rfl h)
theorem lc_1 (C : lc_C p s m meth c b L xs ad cA D) (hH : lc_S s ad cA D σ H locs) (hl : lc_L ls b ad k) (hk : 6 * k + 6 ≤ L) (hI : INV k σ) (kk : ∀ (τ : Sg) (H1 : Heap) (locs1 : List Loc), INV (k + 1) τ → lc_S s ad cA D τ H1 locs1 → W p l e room_1 s m #[Value.ref b] below meth c H1 locs1 70 6996 Q (F0 m 1548 ls [])) : W p l e room_1 s m #[Value.ref b] below meth c H locs 70 6996 Q (F0 m 231 ls []) := by
  have hx := C.1
  have hb := C.2.1
  have hk9 : k < 512 := by have := C.2.2.2.2.2.2.2.2.2.2.2.2; omega
  obtain ⟨w, ew, hw⟩ := lc_w (xs (6 * k + 3))
  obtain ⟨r, σ1, σ2, g1, g2, g3⟩ := I_tie hk9 hI (xs (6 * k + 1)) (xs (6 * k + 2)) (w) hw
  refine lv_aload_n hx hb dl_231 rfl (lv_at hl 2 rfl) ?_
  refine lc_arg C hH hl hk 1 (by decide) rfl dl_232 dl_233 dl_234 dl_235 dl_236 ?_
  refine lc_arg C hH hl hk 2 (by decide) rfl dl_237 dl_238 dl_239 dl_240 dl_241 ?_
  refine lc_arg C hH hl hk 3 (by decide) rfl dl_242 dl_243 dl_244 dl_245 dl_246 ?_
  refine lc_bit hx hb dl_247 (by decide) dl_250 dl_251 (by decide) dl_254 (w := w) (w0 := xs (6 * k + 3)) ew ?_
  refine lc_call C hH hl.1 (M := 5) (o := 0) (q := mi_TO_tie) (as := [.int (xs (6 * k + 1)), .int (xs (6 * k + 2)), .int (w)]) (r := (some (.int r), σ1)) rfl lx_2 rfl rfl (by decide) rfl g1 (Nat.le_of_ble_eq_true rfl) dl_255 (fun H locs hH => ?_)
  refine lv_aload_n hx hb dl_258 rfl (lv_at hl 1 rfl) ?_
  refine lc_arg C hH hl hk 1 (by decide) rfl dl_259 dl_260 dl_261 dl_262 dl_263 ?_
  refine lc_arg C hH hl hk 2 (by decide) rfl dl_264 dl_265 dl_266 dl_267 dl_268 ?_
  refine lc_arg C hH hl hk 3 (by decide) rfl dl_269 dl_270 dl_271 dl_272 dl_273 ?_
  refine lc_bit hx hb dl_274 (by decide) dl_277 dl_278 (by decide) dl_281 (w := w) (w0 := xs (6 * k + 3)) ew ?_
  refine lc_call C hH hl.1 (M := 141) (o := 39) (q := mi_Mod_tie) (as := [.int (xs (6 * k + 1)), .int (xs (6 * k + 2)), .int (w)]) (r := (some (.int r), σ2)) rfl lx_3 rfl rfl (by decide) rfl g2 (Nat.le_of_ble_eq_true rfl) dl_282 (fun H locs hH => ?_)
  exact lv_icmp_eq (tgt := 1548) hx hb dl_285 (by decide) (fun _ => kk σ2 H locs g3 hH) (fun h => absurd rfl h)
theorem lc_2 (C : lc_C p s m meth c b L xs ad cA D) (hH : lc_S s ad cA D σ H locs) (hl : lc_L ls b ad k) (hk : 6 * k + 6 ≤ L) (hI : INV k σ) (kk : ∀ (τ : Sg) (H1 : Heap) (locs1 : List Loc), INV (k + 1) τ → lc_S s ad cA D τ H1 locs1 → W p l e room_1 s m #[Value.ref b] below meth c H1 locs1 70 6996 Q (F0 m 1548 ls [])) : W p l e room_1 s m #[Value.ref b] below meth c H locs 70 6996 Q (F0 m 290 ls []) := by
  have hx := C.1
  have hb := C.2.1
  obtain ⟨r, σ1, σ2, g1, g2, g3⟩ := I_kind hI (xs (6 * k + 1)) (xs (6 * k + 2))
  refine lv_aload_n hx hb dl_290 rfl (lv_at hl 2 rfl) ?_
  refine lc_arg C hH hl hk 1 (by decide) rfl dl_291 dl_292 dl_293 dl_294 dl_295 ?_
  refine lc_arg C hH hl hk 2 (by decide) rfl dl_296 dl_297 dl_298 dl_299 dl_300 ?_
  refine lc_call C hH hl.1 (M := 8) (o := 0) (q := mi_TO_kind) (as := [.int (xs (6 * k + 1)), .int (xs (6 * k + 2))]) (r := (some (.int r), σ1)) rfl lx_4 rfl rfl (by decide) rfl g1 (Nat.le_of_ble_eq_true rfl) dl_301 (fun H locs hH => ?_)
  refine lv_aload_n hx hb dl_304 rfl (lv_at hl 1 rfl) ?_
  refine lc_arg C hH hl hk 1 (by decide) rfl dl_305 dl_306 dl_307 dl_308 dl_309 ?_
  refine lc_arg C hH hl hk 2 (by decide) rfl dl_310 dl_311 dl_312 dl_313 dl_314 ?_
  refine lc_call C hH hl.1 (M := 144) (o := 39) (q := mi_Mod_kind) (as := [.int (xs (6 * k + 1)), .int (xs (6 * k + 2))]) (r := (some (.int r), σ2)) rfl lx_5 rfl rfl (by decide) rfl g2 (Nat.le_of_ble_eq_true rfl) dl_315 (fun H locs hH => ?_)
  exact lv_icmp_eq (tgt := 1548) hx hb dl_318 (by decide) (fun _ => kk σ2 H locs g3 hH) (fun h => absurd rfl h)
theorem lc_3 (C : lc_C p s m meth c b L xs ad cA D) (hH : lc_S s ad cA D σ H locs) (hl : lc_L ls b ad k) (hk : 6 * k + 6 ≤ L) (hI : INV k σ) (kk : ∀ (τ : Sg) (H1 : Heap) (locs1 : List Loc), INV (k + 1) τ → lc_S s ad cA D τ H1 locs1 → W p l e room_1 s m #[Value.ref b] below meth c H1 locs1 70 6996 Q (F0 m 1548 ls [])) : W p l e room_1 s m #[Value.ref b] below meth c H locs 70 6996 Q (F0 m 323 ls []) := by
  have hx := C.1
  have hb := C.2.1
  have hk9 : k < 512 := by have := C.2.2.2.2.2.2.2.2.2.2.2.2; omega
  obtain ⟨r, σ1, σ2, g1, g2, g3⟩ := I_read hk9 hI (xs (6 * k + 1)) (xs (6 * k + 2))
  refine lv_aload_n hx hb dl_323 rfl (lv_at hl 2 rfl) ?_
  refine lc_arg C hH hl hk 1 (by decide) rfl dl_324 dl_325 dl_326 dl_327 dl_328 ?_
  refine lc_arg C hH hl hk 2 (by decide) rfl dl_329 dl_330 dl_331 dl_332 dl_333 ?_
  refine lc_call C hH hl.1 (M := 12) (o := 0) (q := mi_TO_read) (as := [.int (xs (6 * k + 1)), .int (xs (6 * k + 2))]) (r := (some (.int r), σ1)) rfl lx_6 rfl rfl (by decide) rfl g1 (Nat.le_of_ble_eq_true rfl) dl_334 (fun H locs hH => ?_)
  refine lv_aload_n hx hb dl_337 rfl (lv_at hl 1 rfl) ?_
  refine lc_arg C hH hl hk 1 (by decide) rfl dl_338 dl_339 dl_340 dl_341 dl_342 ?_
  refine lc_arg C hH hl hk 2 (by decide) rfl dl_343 dl_344 dl_345 dl_346 dl_347 ?_
  refine lc_call C hH hl.1 (M := 146) (o := 39) (q := mi_Mod_read) (as := [.int (xs (6 * k + 1)), .int (xs (6 * k + 2))]) (r := (some (.int r), σ2)) rfl lx_7 rfl rfl (by decide) rfl g2 (Nat.le_of_ble_eq_true rfl) dl_348 (fun H locs hH => ?_)
  exact lv_icmp_eq (tgt := 1548) hx hb dl_351 (by decide) (fun _ => kk σ2 H locs g3 hH) (fun h => absurd rfl h)
theorem lc_4 (C : lc_C p s m meth c b L xs ad cA D) (hH : lc_S s ad cA D σ H locs) (hl : lc_L ls b ad k) (hk : 6 * k + 6 ≤ L) (hI : INV k σ) (kk : ∀ (τ : Sg) (H1 : Heap) (locs1 : List Loc), INV (k + 1) τ → lc_S s ad cA D τ H1 locs1 → W p l e room_1 s m #[Value.ref b] below meth c H1 locs1 70 6996 Q (F0 m 1548 ls [])) : W p l e room_1 s m #[Value.ref b] below meth c H locs 70 6996 Q (F0 m 356 ls []) := by
  have hx := C.1
  have hb := C.2.1
  obtain ⟨r, σ1, σ2, g1, g2, g3⟩ := I_about hI (xs (6 * k + 1)) (xs (6 * k + 2))
  refine lv_aload_n hx hb dl_356 rfl (lv_at hl 2 rfl) ?_
  refine lc_arg C hH hl hk 1 (by decide) rfl dl_357 dl_358 dl_359 dl_360 dl_361 ?_
  refine lc_arg C hH hl hk 2 (by decide) rfl dl_362 dl_363 dl_364 dl_365 dl_366 ?_
  refine lc_call C hH hl.1 (M := 17) (o := 0) (q := mi_TO_about) (as := [.int (xs (6 * k + 1)), .int (xs (6 * k + 2))]) (r := (some (.int r), σ1)) rfl lx_8 rfl rfl (by decide) rfl g1 (Nat.le_of_ble_eq_true rfl) dl_367 (fun H locs hH => ?_)
  refine lv_aload_n hx hb dl_370 rfl (lv_at hl 1 rfl) ?_
  refine lc_arg C hH hl hk 1 (by decide) rfl dl_371 dl_372 dl_373 dl_374 dl_375 ?_
  refine lc_arg C hH hl hk 2 (by decide) rfl dl_376 dl_377 dl_378 dl_379 dl_380 ?_
  refine lc_call C hH hl.1 (M := 147) (o := 39) (q := mi_Mod_about) (as := [.int (xs (6 * k + 1)), .int (xs (6 * k + 2))]) (r := (some (.int r), σ2)) rfl lx_9 rfl rfl (by decide) rfl g2 (Nat.le_of_ble_eq_true rfl) dl_381 (fun H locs hH => ?_)
  exact lv_icmp_eq (tgt := 1548) hx hb dl_384 (by decide) (fun _ => kk σ2 H locs g3 hH) (fun h => absurd rfl h)
theorem lc_5 (C : lc_C p s m meth c b L xs ad cA D) (hH : lc_S s ad cA D σ H locs) (hl : lc_L ls b ad k) (hk : 6 * k + 6 ≤ L) (hI : INV k σ) (kk : ∀ (τ : Sg) (H1 : Heap) (locs1 : List Loc), INV (k + 1) τ → lc_S s ad cA D τ H1 locs1 → W p l e room_1 s m #[Value.ref b] below meth c H1 locs1 70 6996 Q (F0 m 1548 ls [])) : W p l e room_1 s m #[Value.ref b] below meth c H locs 70 6996 Q (F0 m 389 ls []) := by
  have hx := C.1
  have hb := C.2.1
  obtain ⟨r, σ1, σ2, g1, g2, g3⟩ := I_far hI (xs (6 * k + 1)) (xs (6 * k + 2))
  refine lv_aload_n hx hb dl_389 rfl (lv_at hl 2 rfl) ?_
  refine lc_arg C hH hl hk 1 (by decide) rfl dl_390 dl_391 dl_392 dl_393 dl_394 ?_
  refine lc_arg C hH hl hk 2 (by decide) rfl dl_395 dl_396 dl_397 dl_398 dl_399 ?_
  refine lc_call C hH hl.1 (M := 20) (o := 0) (q := mi_TO_far) (as := [.int (xs (6 * k + 1)), .int (xs (6 * k + 2))]) (r := (some (.int r), σ1)) rfl lx_10 rfl rfl (by decide) rfl g1 (Nat.le_of_ble_eq_true rfl) dl_400 (fun H locs hH => ?_)
  refine lv_aload_n hx hb dl_403 rfl (lv_at hl 1 rfl) ?_
  refine lc_arg C hH hl hk 1 (by decide) rfl dl_404 dl_405 dl_406 dl_407 dl_408 ?_
  refine lc_arg C hH hl hk 2 (by decide) rfl dl_409 dl_410 dl_411 dl_412 dl_413 ?_
  refine lc_call C hH hl.1 (M := 150) (o := 39) (q := mi_Mod_far) (as := [.int (xs (6 * k + 1)), .int (xs (6 * k + 2))]) (r := (some (.int r), σ2)) rfl lx_11 rfl rfl (by decide) rfl g2 (Nat.le_of_ble_eq_true rfl) dl_414 (fun H locs hH => ?_)
  exact lv_icmp_eq (tgt := 1548) hx hb dl_417 (by decide) (fun _ => kk σ2 H locs g3 hH) (fun h => absurd rfl h)
theorem lc_6 (C : lc_C p s m meth c b L xs ad cA D) (hH : lc_S s ad cA D σ H locs) (hl : lc_L ls b ad k) (hk : 6 * k + 6 ≤ L) (hI : INV k σ) (kk : ∀ (τ : Sg) (H1 : Heap) (locs1 : List Loc), INV (k + 1) τ → lc_S s ad cA D τ H1 locs1 → W p l e room_1 s m #[Value.ref b] below meth c H1 locs1 70 6996 Q (F0 m 1548 ls [])) : W p l e room_1 s m #[Value.ref b] below meth c H locs 70 6996 Q (F0 m 422 ls []) := by
  have hx := C.1
  have hb := C.2.1
  obtain ⟨r, σ1, σ2, g1, g2, g3⟩ := I_set hI (xs (6 * k + 1)) (xs (6 * k + 2))
  refine lv_aload_n hx hb dl_422 rfl (lv_at hl 2 rfl) ?_
  refine lc_arg C hH hl hk 1 (by decide) rfl dl_423 dl_424 dl_425 dl_426 dl_427 ?_
  refine lc_arg C hH hl hk 2 (by decide) rfl dl_428 dl_429 dl_430 dl_431 dl_432 ?_
  refine lc_call C hH hl.1 (M := 23) (o := 0) (q := mi_TO_set) (as := [.int (xs (6 * k + 1)), .int (xs (6 * k + 2))]) (r := (some (.int r), σ1)) rfl lx_12 rfl rfl (by decide) rfl g1 (Nat.le_of_ble_eq_true rfl) dl_433 (fun H locs hH => ?_)
  refine lv_aload_n hx hb dl_436 rfl (lv_at hl 1 rfl) ?_
  refine lc_arg C hH hl hk 1 (by decide) rfl dl_437 dl_438 dl_439 dl_440 dl_441 ?_
  refine lc_arg C hH hl hk 2 (by decide) rfl dl_442 dl_443 dl_444 dl_445 dl_446 ?_
  refine lc_call C hH hl.1 (M := 153) (o := 39) (q := mi_Mod_set) (as := [.int (xs (6 * k + 1)), .int (xs (6 * k + 2))]) (r := (some (.int r), σ2)) rfl lx_13 rfl rfl (by decide) rfl g2 (Nat.le_of_ble_eq_true rfl) dl_447 (fun H locs hH => ?_)
  exact lv_icmp_eq (tgt := 1548) hx hb dl_450 (by decide) (fun _ => kk σ2 H locs g3 hH) (fun h => absurd rfl h)
theorem lc_7 (C : lc_C p s m meth c b L xs ad cA D) (hH : lc_S s ad cA D σ H locs) (hl : lc_L ls b ad k) (hk : 6 * k + 6 ≤ L) (hI : INV k σ) (kk : ∀ (τ : Sg) (H1 : Heap) (locs1 : List Loc), INV (k + 1) τ → lc_S s ad cA D τ H1 locs1 → W p l e room_1 s m #[Value.ref b] below meth c H1 locs1 70 6996 Q (F0 m 1548 ls [])) : W p l e room_1 s m #[Value.ref b] below meth c H locs 70 6996 Q (F0 m 455 ls []) := by
  have hx := C.1
  have hb := C.2.1
  obtain ⟨r, σ1, σ2, g1, g2, g3⟩ := I_found hI (xs (6 * k + 1)) (xs (6 * k + 2))
  refine lv_aload_n hx hb dl_455 rfl (lv_at hl 2 rfl) ?_
  refine lc_arg C hH hl hk 1 (by decide) rfl dl_456 dl_457 dl_458 dl_459 dl_460 ?_
  refine lc_arg C hH hl hk 2 (by decide) rfl dl_461 dl_462 dl_463 dl_464 dl_465 ?_
  refine lc_call C hH hl.1 (M := 28) (o := 0) (q := mi_TO_found) (as := [.int (xs (6 * k + 1)), .int (xs (6 * k + 2))]) (r := (some (.long r), σ1)) rfl lx_14 rfl rfl (by decide) rfl g1 (Nat.le_of_ble_eq_true rfl) dl_466 (fun H locs hH => ?_)
  refine lv_aload_n hx hb dl_469 rfl (lv_at hl 1 rfl) ?_
  refine lc_arg C hH hl hk 1 (by decide) rfl dl_470 dl_471 dl_472 dl_473 dl_474 ?_
  refine lc_arg C hH hl hk 2 (by decide) rfl dl_475 dl_476 dl_477 dl_478 dl_479 ?_
  refine lc_call C hH hl.1 (M := 154) (o := 39) (q := mi_Mod_found) (as := [.int (xs (6 * k + 1)), .int (xs (6 * k + 2))]) (r := (some (.long r), σ2)) rfl lx_15 rfl rfl (by decide) rfl g2 (Nat.le_of_ble_eq_true rfl) dl_480 (fun H locs hH => ?_)
  refine W.lcmp hx hb dl_483 ?_
  exact lv_if_eq (tgt := 1548) hx hb dl_484 (by decide) (fun _ => kk σ2 H locs g3 hH) (fun h => absurd (lc_cmp r) h)
theorem lc_8 (C : lc_C p s m meth c b L xs ad cA D) (hH : lc_S s ad cA D σ H locs) (hl : lc_L ls b ad k) (hk : 6 * k + 6 ≤ L) (hI : INV k σ) (kk : ∀ (τ : Sg) (H1 : Heap) (locs1 : List Loc), INV (k + 1) τ → lc_S s ad cA D τ H1 locs1 → W p l e room_1 s m #[Value.ref b] below meth c H1 locs1 70 6996 Q (F0 m 1548 ls [])) : W p l e room_1 s m #[Value.ref b] below meth c H locs 70 6996 Q (F0 m 489 ls []) := by
  have hx := C.1
  have hb := C.2.1
  obtain ⟨r, σ1, σ2, g1, g2, g3⟩ := I_both hI (xs (6 * k + 1)) (xs (6 * k + 2)) (xs (6 * k + 3))
  refine lv_aload_n hx hb dl_489 rfl (lv_at hl 2 rfl) ?_
  refine lc_arg C hH hl hk 1 (by decide) rfl dl_490 dl_491 dl_492 dl_493 dl_494 ?_
  refine lc_arg C hH hl hk 2 (by decide) rfl dl_495 dl_496 dl_497 dl_498 dl_499 ?_
  refine lc_arg C hH hl hk 3 (by decide) rfl dl_500 dl_501 dl_502 dl_503 dl_504 ?_
  refine lc_call C hH hl.1 (M := 38) (o := 0) (q := mi_TO_both) (as := [.int (xs (6 * k + 1)), .int (xs (6 * k + 2)), .int (xs (6 * k + 3))]) (r := (some (.long r), σ1)) rfl lx_16 rfl rfl (by decide) rfl g1 (Nat.le_of_ble_eq_true rfl) dl_505 (fun H locs hH => ?_)
  refine lv_aload_n hx hb dl_508 rfl (lv_at hl 1 rfl) ?_
  refine lc_arg C hH hl hk 1 (by decide) rfl dl_509 dl_510 dl_511 dl_512 dl_513 ?_
  refine lc_arg C hH hl hk 2 (by decide) rfl dl_514 dl_515 dl_516 dl_517 dl_518 ?_
  refine lc_arg C hH hl hk 3 (by decide) rfl dl_519 dl_520 dl_521 dl_522 dl_523 ?_
  refine lc_call C hH hl.1 (M := 164) (o := 39) (q := mi_Mod_both) (as := [.int (xs (6 * k + 1)), .int (xs (6 * k + 2)), .int (xs (6 * k + 3))]) (r := (some (.long r), σ2)) rfl lx_17 rfl rfl (by decide) rfl g2 (Nat.le_of_ble_eq_true rfl) dl_524 (fun H locs hH => ?_)
  refine W.lcmp hx hb dl_527 ?_
  exact lv_if_eq (tgt := 1548) hx hb dl_528 (by decide) (fun _ => kk σ2 H locs g3 hH) (fun h => absurd (lc_cmp r) h)
theorem lc_9 (C : lc_C p s m meth c b L xs ad cA D) (hH : lc_S s ad cA D σ H locs) (hl : lc_L ls b ad k) (hk : 6 * k + 6 ≤ L) (hI : INV k σ) (kk : ∀ (τ : Sg) (H1 : Heap) (locs1 : List Loc), INV (k + 1) τ → lc_S s ad cA D τ H1 locs1 → W p l e room_1 s m #[Value.ref b] below meth c H1 locs1 70 6996 Q (F0 m 1548 ls [])) : W p l e room_1 s m #[Value.ref b] below meth c H locs 70 6996 Q (F0 m 533 ls []) := by
  have hx := C.1
  have hb := C.2.1
  obtain ⟨r, σ1, σ2, g1, g2, g3⟩ := I_size hI (xs (6 * k + 1)) (xs (6 * k + 2))
  refine lv_aload_n hx hb dl_533 rfl (lv_at hl 2 rfl) ?_
  refine lc_arg C hH hl hk 1 (by decide) rfl dl_534 dl_535 dl_536 dl_537 dl_538 ?_
  refine lc_arg C hH hl hk 2 (by decide) rfl dl_539 dl_540 dl_541 dl_542 dl_543 ?_
  refine lc_call C hH hl.1 (M := 39) (o := 0) (q := mi_TO_size) (as := [.int (xs (6 * k + 1)), .int (xs (6 * k + 2))]) (r := (some (.long r), σ1)) rfl lx_18 rfl rfl (by decide) rfl g1 (Nat.le_of_ble_eq_true rfl) dl_544 (fun H locs hH => ?_)
  refine lv_aload_n hx hb dl_547 rfl (lv_at hl 1 rfl) ?_
  refine lc_arg C hH hl hk 1 (by decide) rfl dl_548 dl_549 dl_550 dl_551 dl_552 ?_
  refine lc_arg C hH hl hk 2 (by decide) rfl dl_553 dl_554 dl_555 dl_556 dl_557 ?_
  refine lc_call C hH hl.1 (M := 165) (o := 39) (q := mi_Mod_size) (as := [.int (xs (6 * k + 1)), .int (xs (6 * k + 2))]) (r := (some (.long r), σ2)) rfl lx_19 rfl rfl (by decide) rfl g2 (Nat.le_of_ble_eq_true rfl) dl_558 (fun H locs hH => ?_)
  refine W.lcmp hx hb dl_561 ?_
  exact lv_if_eq (tgt := 1548) hx hb dl_562 (by decide) (fun _ => kk σ2 H locs g3 hH) (fun h => absurd (lc_cmp r) h)
theorem lc_10 (C : lc_C p s m meth c b L xs ad cA D) (hH : lc_S s ad cA D σ H locs) (hl : lc_L ls b ad k) (hk : 6 * k + 6 ≤ L) (hI : INV k σ) (kk : ∀ (τ : Sg) (H1 : Heap) (locs1 : List Loc), INV (k + 1) τ → lc_S s ad cA D τ H1 locs1 → W p l e room_1 s m #[Value.ref b] below meth c H1 locs1 70 6996 Q (F0 m 1548 ls [])) : W p l e room_1 s m #[Value.ref b] below meth c H locs 70 6996 Q (F0 m 567 ls []) := by
  have hx := C.1
  have hb := C.2.1
  obtain ⟨r, σ1, σ2, g1, g2, g3⟩ := I_kinds hI (xs (6 * k + 1)) (xs (6 * k + 2))
  refine lv_aload_n hx hb dl_567 rfl (lv_at hl 2 rfl) ?_
  refine lc_arg C hH hl hk 1 (by decide) rfl dl_568 dl_569 dl_570 dl_571 dl_572 ?_
  refine lc_arg C hH hl hk 2 (by decide) rfl dl_573 dl_574 dl_575 dl_576 dl_577 ?_
  refine lc_call C hH hl.1 (M := 41) (o := 0) (q := mi_TO_kinds) (as := [.int (xs (6 * k + 1)), .int (xs (6 * k + 2))]) (r := (some (.long r), σ1)) rfl lx_20 rfl rfl (by decide) rfl g1 (Nat.le_of_ble_eq_true rfl) dl_578 (fun H locs hH => ?_)
  refine lv_aload_n hx hb dl_581 rfl (lv_at hl 1 rfl) ?_
  refine lc_arg C hH hl hk 1 (by decide) rfl dl_582 dl_583 dl_584 dl_585 dl_586 ?_
  refine lc_arg C hH hl hk 2 (by decide) rfl dl_587 dl_588 dl_589 dl_590 dl_591 ?_
  refine lc_call C hH hl.1 (M := 166) (o := 39) (q := mi_Mod_kinds) (as := [.int (xs (6 * k + 1)), .int (xs (6 * k + 2))]) (r := (some (.long r), σ2)) rfl lx_21 rfl rfl (by decide) rfl g2 (Nat.le_of_ble_eq_true rfl) dl_592 (fun H locs hH => ?_)
  refine W.lcmp hx hb dl_595 ?_
  exact lv_if_eq (tgt := 1548) hx hb dl_596 (by decide) (fun _ => kk σ2 H locs g3 hH) (fun h => absurd (lc_cmp r) h)
theorem lc_11 (C : lc_C p s m meth c b L xs ad cA D) (hH : lc_S s ad cA D σ H locs) (hl : lc_L ls b ad k) (hk : 6 * k + 6 ≤ L) (hI : INV k σ) (kk : ∀ (τ : Sg) (H1 : Heap) (locs1 : List Loc), INV (k + 1) τ → lc_S s ad cA D τ H1 locs1 → W p l e room_1 s m #[Value.ref b] below meth c H1 locs1 70 6996 Q (F0 m 1548 ls [])) : W p l e room_1 s m #[Value.ref b] below meth c H locs 70 6996 Q (F0 m 601 ls []) := by
  have hx := C.1
  have hb := C.2.1
  obtain ⟨r, σ1, σ2, g1, g2, g3⟩ := I_within hI (xs (6 * k + 1)) (xs (6 * k + 2))
  refine lv_aload_n hx hb dl_601 rfl (lv_at hl 2 rfl) ?_
  refine lc_arg C hH hl hk 1 (by decide) rfl dl_602 dl_603 dl_604 dl_605 dl_606 ?_
  refine lc_arg C hH hl hk 2 (by decide) rfl dl_607 dl_608 dl_609 dl_610 dl_611 ?_
  refine lc_call C hH hl.1 (M := 43) (o := 0) (q := mi_TO_within) (as := [.int (xs (6 * k + 1)), .int (xs (6 * k + 2))]) (r := (some (.long r), σ1)) rfl lx_22 rfl rfl (by decide) rfl g1 (Nat.le_of_ble_eq_true rfl) dl_612 (fun H locs hH => ?_)
  refine lv_aload_n hx hb dl_615 rfl (lv_at hl 1 rfl) ?_
  refine lc_arg C hH hl hk 1 (by decide) rfl dl_616 dl_617 dl_618 dl_619 dl_620 ?_
  refine lc_arg C hH hl hk 2 (by decide) rfl dl_621 dl_622 dl_623 dl_624 dl_625 ?_
  refine lc_call C hH hl.1 (M := 167) (o := 39) (q := mi_Mod_within) (as := [.int (xs (6 * k + 1)), .int (xs (6 * k + 2))]) (r := (some (.long r), σ2)) rfl lx_23 rfl rfl (by decide) rfl g2 (Nat.le_of_ble_eq_true rfl) dl_626 (fun H locs hH => ?_)
  refine W.lcmp hx hb dl_629 ?_
  exact lv_if_eq (tgt := 1548) hx hb dl_630 (by decide) (fun _ => kk σ2 H locs g3 hH) (fun h => absurd (lc_cmp r) h)
theorem lc_12 (C : lc_C p s m meth c b L xs ad cA D) (hH : lc_S s ad cA D σ H locs) (hl : lc_L ls b ad k) (hk : 6 * k + 6 ≤ L) (hI : INV k σ) (kk : ∀ (τ : Sg) (H1 : Heap) (locs1 : List Loc), INV (k + 1) τ → lc_S s ad cA D τ H1 locs1 → W p l e room_1 s m #[Value.ref b] below meth c H1 locs1 70 6996 Q (F0 m 1548 ls [])) : W p l e room_1 s m #[Value.ref b] below meth c H locs 70 6996 Q (F0 m 635 ls []) := by
  have hx := C.1
  have hb := C.2.1
  obtain ⟨r, σ1, σ2, g1, g2, g3⟩ := I_at hI (xs (6 * k + 1)) (xs (6 * k + 2)) (xs (6 * k + 3))
  refine lv_aload_n hx hb dl_635 rfl (lv_at hl 2 rfl) ?_
  refine lc_arg C hH hl hk 1 (by decide) rfl dl_636 dl_637 dl_638 dl_639 dl_640 ?_
  refine lc_arg C hH hl hk 2 (by decide) rfl dl_641 dl_642 dl_643 dl_644 dl_645 ?_
  refine lc_arg C hH hl hk 3 (by decide) rfl dl_646 dl_647 dl_648 dl_649 dl_650 ?_
  refine lc_call C hH hl.1 (M := 48) (o := 0) (q := mi_TO_at) (as := [.int (xs (6 * k + 1)), .int (xs (6 * k + 2)), .int (xs (6 * k + 3))]) (r := (some (.long r), σ1)) rfl lx_24 rfl rfl (by decide) rfl g1 (Nat.le_of_ble_eq_true rfl) dl_651 (fun H locs hH => ?_)
  refine lv_aload_n hx hb dl_654 rfl (lv_at hl 1 rfl) ?_
  refine lc_arg C hH hl hk 1 (by decide) rfl dl_655 dl_656 dl_657 dl_658 dl_659 ?_
  refine lc_arg C hH hl hk 2 (by decide) rfl dl_660 dl_661 dl_662 dl_663 dl_664 ?_
  refine lc_arg C hH hl hk 3 (by decide) rfl dl_665 dl_666 dl_667 dl_668 dl_669 ?_
  refine lc_call C hH hl.1 (M := 168) (o := 39) (q := mi_Mod_at) (as := [.int (xs (6 * k + 1)), .int (xs (6 * k + 2)), .int (xs (6 * k + 3))]) (r := (some (.long r), σ2)) rfl lx_25 rfl rfl (by decide) rfl g2 (Nat.le_of_ble_eq_true rfl) dl_670 (fun H locs hH => ?_)
  refine W.lcmp hx hb dl_673 ?_
  exact lv_if_eq (tgt := 1548) hx hb dl_674 (by decide) (fun _ => kk σ2 H locs g3 hH) (fun h => absurd (lc_cmp r) h)
theorem lc_13 (C : lc_C p s m meth c b L xs ad cA D) (hH : lc_S s ad cA D σ H locs) (hl : lc_L ls b ad k) (hk : 6 * k + 6 ≤ L) (hI : INV k σ) (kk : ∀ (τ : Sg) (H1 : Heap) (locs1 : List Loc), INV (k + 1) τ → lc_S s ad cA D τ H1 locs1 → W p l e room_1 s m #[Value.ref b] below meth c H1 locs1 70 6996 Q (F0 m 1548 ls [])) : W p l e room_1 s m #[Value.ref b] below meth c H locs 70 6996 Q (F0 m 679 ls []) := by
  have hx := C.1
  have hb := C.2.1
  obtain ⟨r, σ1, σ2, g1, g2, g3⟩ := I_lasting hI (xs (6 * k + 1)) (xs (6 * k + 2))
  refine lv_aload_n hx hb dl_679 rfl (lv_at hl 2 rfl) ?_
  refine lc_arg C hH hl hk 1 (by decide) rfl dl_680 dl_681 dl_682 dl_683 dl_684 ?_
  refine lc_arg C hH hl hk 2 (by decide) rfl dl_685 dl_686 dl_687 dl_688 dl_689 ?_
  refine lc_call C hH hl.1 (M := 51) (o := 0) (q := mi_TO_lasting) (as := [.int (xs (6 * k + 1)), .int (xs (6 * k + 2))]) (r := (some (.long r), σ1)) rfl lx_26 rfl rfl (by decide) rfl g1 (Nat.le_of_ble_eq_true rfl) dl_690 (fun H locs hH => ?_)
  refine lv_aload_n hx hb dl_693 rfl (lv_at hl 1 rfl) ?_
  refine lc_arg C hH hl hk 1 (by decide) rfl dl_694 dl_695 dl_696 dl_697 dl_698 ?_
  refine lc_arg C hH hl hk 2 (by decide) rfl dl_699 dl_700 dl_701 dl_702 dl_703 ?_
  refine lc_call C hH hl.1 (M := 170) (o := 39) (q := mi_Mod_lasting) (as := [.int (xs (6 * k + 1)), .int (xs (6 * k + 2))]) (r := (some (.long r), σ2)) rfl lx_27 rfl rfl (by decide) rfl g2 (Nat.le_of_ble_eq_true rfl) dl_704 (fun H locs hH => ?_)
  refine W.lcmp hx hb dl_707 ?_
  exact lv_if_eq (tgt := 1548) hx hb dl_708 (by decide) (fun _ => kk σ2 H locs g3 hH) (fun h => absurd (lc_cmp r) h)
theorem lc_14 (C : lc_C p s m meth c b L xs ad cA D) (hH : lc_S s ad cA D σ H locs) (hl : lc_L ls b ad k) (hk : 6 * k + 6 ≤ L) (hI : INV k σ) (kk : ∀ (τ : Sg) (H1 : Heap) (locs1 : List Loc), INV (k + 1) τ → lc_S s ad cA D τ H1 locs1 → W p l e room_1 s m #[Value.ref b] below meth c H1 locs1 70 6996 Q (F0 m 1548 ls [])) : W p l e room_1 s m #[Value.ref b] below meth c H locs 70 6996 Q (F0 m 713 ls []) := by
  have hx := C.1
  have hb := C.2.1
  obtain ⟨r, σ1, σ2, g1, g2, g3⟩ := I_strayed hI (xs (6 * k + 1)) (xs (6 * k + 2))
  refine lv_aload_n hx hb dl_713 rfl (lv_at hl 2 rfl) ?_
  refine lc_arg C hH hl hk 1 (by decide) rfl dl_714 dl_715 dl_716 dl_717 dl_718 ?_
  refine lc_arg C hH hl hk 2 (by decide) rfl dl_719 dl_720 dl_721 dl_722 dl_723 ?_
  refine lc_call C hH hl.1 (M := 53) (o := 0) (q := mi_TO_strayed) (as := [.int (xs (6 * k + 1)), .int (xs (6 * k + 2))]) (r := (some (.long r), σ1)) rfl lx_28 rfl rfl (by decide) rfl g1 (Nat.le_of_ble_eq_true rfl) dl_724 (fun H locs hH => ?_)
  refine lv_aload_n hx hb dl_727 rfl (lv_at hl 1 rfl) ?_
  refine lc_arg C hH hl hk 1 (by decide) rfl dl_728 dl_729 dl_730 dl_731 dl_732 ?_
  refine lc_arg C hH hl hk 2 (by decide) rfl dl_733 dl_734 dl_735 dl_736 dl_737 ?_
  refine lc_call C hH hl.1 (M := 172) (o := 39) (q := mi_Mod_strayed) (as := [.int (xs (6 * k + 1)), .int (xs (6 * k + 2))]) (r := (some (.long r), σ2)) rfl lx_29 rfl rfl (by decide) rfl g2 (Nat.le_of_ble_eq_true rfl) dl_738 (fun H locs hH => ?_)
  refine W.lcmp hx hb dl_741 ?_
  exact lv_if_eq (tgt := 1548) hx hb dl_742 (by decide) (fun _ => kk σ2 H locs g3 hH) (fun h => absurd (lc_cmp r) h)
theorem lc_15 (C : lc_C p s m meth c b L xs ad cA D) (hH : lc_S s ad cA D σ H locs) (hl : lc_L ls b ad k) (hk : 6 * k + 6 ≤ L) (hI : INV k σ) (kk : ∀ (τ : Sg) (H1 : Heap) (locs1 : List Loc), INV (k + 1) τ → lc_S s ad cA D τ H1 locs1 → W p l e room_1 s m #[Value.ref b] below meth c H1 locs1 70 6996 Q (F0 m 1548 ls [])) : W p l e room_1 s m #[Value.ref b] below meth c H locs 70 6996 Q (F0 m 747 ls []) := by
  have hx := C.1
  have hb := C.2.1
  obtain ⟨r, σ1, σ2, g1, g2, g3⟩ := I_came hI (xs (6 * k + 1)) (xs (6 * k + 2)) (xs (6 * k + 3)) (xs (6 * k + 4))
  refine lv_aload_n hx hb dl_747 rfl (lv_at hl 2 rfl) ?_
  refine lc_arg C hH hl hk 1 (by decide) rfl dl_748 dl_749 dl_750 dl_751 dl_752 ?_
  refine lc_arg C hH hl hk 2 (by decide) rfl dl_753 dl_754 dl_755 dl_756 dl_757 ?_
  refine lc_arg C hH hl hk 3 (by decide) rfl dl_758 dl_759 dl_760 dl_761 dl_762 ?_
  refine lc_arg C hH hl hk 4 (by decide) rfl dl_763 dl_764 dl_765 dl_766 dl_767 ?_
  refine lc_call C hH hl.1 (M := 56) (o := 0) (q := mi_TO_came) (as := [.int (xs (6 * k + 1)), .int (xs (6 * k + 2)), .int (xs (6 * k + 3)), .int (xs (6 * k + 4))]) (r := (some (.int r), σ1)) rfl lx_30 rfl rfl (by decide) rfl g1 (Nat.le_of_ble_eq_true rfl) dl_768 (fun H locs hH => ?_)
  refine lv_aload_n hx hb dl_771 rfl (lv_at hl 1 rfl) ?_
  refine lc_arg C hH hl hk 1 (by decide) rfl dl_772 dl_773 dl_774 dl_775 dl_776 ?_
  refine lc_arg C hH hl hk 2 (by decide) rfl dl_777 dl_778 dl_779 dl_780 dl_781 ?_
  refine lc_arg C hH hl hk 3 (by decide) rfl dl_782 dl_783 dl_784 dl_785 dl_786 ?_
  refine lc_arg C hH hl hk 4 (by decide) rfl dl_787 dl_788 dl_789 dl_790 dl_791 ?_
  refine lc_call C hH hl.1 (M := 173) (o := 39) (q := mi_Mod_came) (as := [.int (xs (6 * k + 1)), .int (xs (6 * k + 2)), .int (xs (6 * k + 3)), .int (xs (6 * k + 4))]) (r := (some (.int r), σ2)) rfl lx_31 rfl rfl (by decide) rfl g2 (Nat.le_of_ble_eq_true rfl) dl_792 (fun H locs hH => ?_)
  exact lv_icmp_eq (tgt := 1548) hx hb dl_795 (by decide) (fun _ => kk σ2 H locs g3 hH) (fun h => absurd rfl h)
theorem lc_16 (C : lc_C p s m meth c b L xs ad cA D) (hH : lc_S s ad cA D σ H locs) (hl : lc_L ls b ad k) (hk : 6 * k + 6 ≤ L) (hI : INV k σ) (kk : ∀ (τ : Sg) (H1 : Heap) (locs1 : List Loc), INV (k + 1) τ → lc_S s ad cA D τ H1 locs1 → W p l e room_1 s m #[Value.ref b] below meth c H1 locs1 70 6996 Q (F0 m 1548 ls [])) : W p l e room_1 s m #[Value.ref b] below meth c H locs 70 6996 Q (F0 m 800 ls []) := by
  have hx := C.1
  have hb := C.2.1
  obtain ⟨r, σ1, σ2, g1, g2, g3⟩ := I_takeBack hI (xs (6 * k + 1)) (xs (6 * k + 2))
  refine lv_aload_n hx hb dl_800 rfl (lv_at hl 2 rfl) ?_
  refine lc_arg C hH hl hk 1 (by decide) rfl dl_801 dl_802 dl_803 dl_804 dl_805 ?_
  refine lc_arg C hH hl hk 2 (by decide) rfl dl_806 dl_807 dl_808 dl_809 dl_810 ?_
  refine lc_call C hH hl.1 (M := 60) (o := 0) (q := mi_TO_takeBack) (as := [.int (xs (6 * k + 1)), .int (xs (6 * k + 2))]) (r := (some (.int r), σ1)) rfl lx_32 rfl rfl (by decide) rfl g1 (Nat.le_of_ble_eq_true rfl) dl_811 (fun H locs hH => ?_)
  refine lv_aload_n hx hb dl_814 rfl (lv_at hl 1 rfl) ?_
  refine lc_arg C hH hl hk 1 (by decide) rfl dl_815 dl_816 dl_817 dl_818 dl_819 ?_
  refine lc_arg C hH hl hk 2 (by decide) rfl dl_820 dl_821 dl_822 dl_823 dl_824 ?_
  refine lc_call C hH hl.1 (M := 175) (o := 39) (q := mi_Mod_takeBack) (as := [.int (xs (6 * k + 1)), .int (xs (6 * k + 2))]) (r := (some (.int r), σ2)) rfl lx_33 rfl rfl (by decide) rfl g2 (Nat.le_of_ble_eq_true rfl) dl_825 (fun H locs hH => ?_)
  exact lv_icmp_eq (tgt := 1548) hx hb dl_828 (by decide) (fun _ => kk σ2 H locs g3 hH) (fun h => absurd rfl h)
theorem lc_17 (C : lc_C p s m meth c b L xs ad cA D) (hH : lc_S s ad cA D σ H locs) (hl : lc_L ls b ad k) (hk : 6 * k + 6 ≤ L) (hI : INV k σ) (kk : ∀ (τ : Sg) (H1 : Heap) (locs1 : List Loc), INV (k + 1) τ → lc_S s ad cA D τ H1 locs1 → W p l e room_1 s m #[Value.ref b] below meth c H1 locs1 70 6996 Q (F0 m 1548 ls [])) : W p l e room_1 s m #[Value.ref b] below meth c H locs 70 6996 Q (F0 m 833 ls []) := by
  have hx := C.1
  have hb := C.2.1
  obtain ⟨r, σ1, σ2, g1, g2, g3⟩ := I_record hI (xs (6 * k + 1)) (xs (6 * k + 2))
  refine lv_aload_n hx hb dl_833 rfl (lv_at hl 2 rfl) ?_
  refine lc_arg C hH hl hk 1 (by decide) rfl dl_834 dl_835 dl_836 dl_837 dl_838 ?_
  refine lc_arg C hH hl hk 2 (by decide) rfl dl_839 dl_840 dl_841 dl_842 dl_843 ?_
  refine lc_call C hH hl.1 (M := 62) (o := 0) (q := mi_TO_record) (as := [.int (xs (6 * k + 1)), .int (xs (6 * k + 2))]) (r := (some (.int r), σ1)) rfl lx_34 rfl rfl (by decide) rfl g1 (Nat.le_of_ble_eq_true rfl) dl_844 (fun H locs hH => ?_)
  refine lv_aload_n hx hb dl_847 rfl (lv_at hl 1 rfl) ?_
  refine lc_arg C hH hl hk 1 (by decide) rfl dl_848 dl_849 dl_850 dl_851 dl_852 ?_
  refine lc_arg C hH hl hk 2 (by decide) rfl dl_853 dl_854 dl_855 dl_856 dl_857 ?_
  refine lc_call C hH hl.1 (M := 176) (o := 39) (q := mi_Mod_record) (as := [.int (xs (6 * k + 1)), .int (xs (6 * k + 2))]) (r := (some (.int r), σ2)) rfl lx_35 rfl rfl (by decide) rfl g2 (Nat.le_of_ble_eq_true rfl) dl_858 (fun H locs hH => ?_)
  exact lv_icmp_eq (tgt := 1548) hx hb dl_861 (by decide) (fun _ => kk σ2 H locs g3 hH) (fun h => absurd rfl h)
theorem lc_18 (C : lc_C p s m meth c b L xs ad cA D) (hH : lc_S s ad cA D σ H locs) (hl : lc_L ls b ad k) (hk : 6 * k + 6 ≤ L) (hI : INV k σ) (kk : ∀ (τ : Sg) (H1 : Heap) (locs1 : List Loc), INV (k + 1) τ → lc_S s ad cA D τ H1 locs1 → W p l e room_1 s m #[Value.ref b] below meth c H1 locs1 70 6996 Q (F0 m 1548 ls [])) : W p l e room_1 s m #[Value.ref b] below meth c H locs 70 6996 Q (F0 m 866 ls []) := by
  have hx := C.1
  have hb := C.2.1
  obtain ⟨r, σ1, σ2, g1, g2, g3⟩ := I_share hI (xs (6 * k + 1)) (xs (6 * k + 2))
  refine lv_aload_n hx hb dl_866 rfl (lv_at hl 2 rfl) ?_
  refine lc_arg C hH hl hk 1 (by decide) rfl dl_867 dl_868 dl_869 dl_870 dl_871 ?_
  refine lc_arg C hH hl hk 2 (by decide) rfl dl_872 dl_873 dl_874 dl_875 dl_876 ?_
  refine lc_call C hH hl.1 (M := 64) (o := 0) (q := mi_TO_share) (as := [.int (xs (6 * k + 1)), .int (xs (6 * k + 2))]) (r := (some (.long r), σ1)) rfl lx_36 rfl rfl (by decide) rfl g1 (Nat.le_of_ble_eq_true rfl) dl_877 (fun H locs hH => ?_)
  refine lv_aload_n hx hb dl_880 rfl (lv_at hl 1 rfl) ?_
  refine lc_arg C hH hl hk 1 (by decide) rfl dl_881 dl_882 dl_883 dl_884 dl_885 ?_
  refine lc_arg C hH hl hk 2 (by decide) rfl dl_886 dl_887 dl_888 dl_889 dl_890 ?_
  refine lc_call C hH hl.1 (M := 179) (o := 39) (q := mi_Mod_share) (as := [.int (xs (6 * k + 1)), .int (xs (6 * k + 2))]) (r := (some (.long r), σ2)) rfl lx_37 rfl rfl (by decide) rfl g2 (Nat.le_of_ble_eq_true rfl) dl_891 (fun H locs hH => ?_)
  refine W.lcmp hx hb dl_894 ?_
  exact lv_if_eq (tgt := 1548) hx hb dl_895 (by decide) (fun _ => kk σ2 H locs g3 hH) (fun h => absurd (lc_cmp r) h)
theorem lc_19 (C : lc_C p s m meth c b L xs ad cA D) (hH : lc_S s ad cA D σ H locs) (hl : lc_L ls b ad k) (hk : 6 * k + 6 ≤ L) (hI : INV k σ) (kk : ∀ (τ : Sg) (H1 : Heap) (locs1 : List Loc), INV (k + 1) τ → lc_S s ad cA D τ H1 locs1 → W p l e room_1 s m #[Value.ref b] below meth c H1 locs1 70 6996 Q (F0 m 1548 ls [])) : W p l e room_1 s m #[Value.ref b] below meth c H locs 70 6996 Q (F0 m 900 ls []) := by
  have hx := C.1
  have hb := C.2.1
  obtain ⟨r, σ1, σ2, g1, g2, g3⟩ := I_bounds hI (xs (6 * k + 1)) (xs (6 * k + 2)) (xs (6 * k + 3))
  refine lv_aload_n hx hb dl_900 rfl (lv_at hl 2 rfl) ?_
  refine lc_arg C hH hl hk 1 (by decide) rfl dl_901 dl_902 dl_903 dl_904 dl_905 ?_
  refine lc_arg C hH hl hk 2 (by decide) rfl dl_906 dl_907 dl_908 dl_909 dl_910 ?_
  refine lc_arg C hH hl hk 3 (by decide) rfl dl_911 dl_912 dl_913 dl_914 dl_915 ?_
  refine lc_call C hH hl.1 (M := 74) (o := 0) (q := mi_TO_bounds) (as := [.int (xs (6 * k + 1)), .int (xs (6 * k + 2)), .int (xs (6 * k + 3))]) (r := (some (.long r), σ1)) rfl lx_38 rfl rfl (by decide) rfl g1 (Nat.le_of_ble_eq_true rfl) dl_916 (fun H locs hH => ?_)
  refine lv_aload_n hx hb dl_919 rfl (lv_at hl 1 rfl) ?_
  refine lc_arg C hH hl hk 1 (by decide) rfl dl_920 dl_921 dl_922 dl_923 dl_924 ?_
  refine lc_arg C hH hl hk 2 (by decide) rfl dl_925 dl_926 dl_927 dl_928 dl_929 ?_
  refine lc_arg C hH hl hk 3 (by decide) rfl dl_930 dl_931 dl_932 dl_933 dl_934 ?_
  refine lc_call C hH hl.1 (M := 186) (o := 39) (q := mi_Mod_bounds) (as := [.int (xs (6 * k + 1)), .int (xs (6 * k + 2)), .int (xs (6 * k + 3))]) (r := (some (.long r), σ2)) rfl lx_39 rfl rfl (by decide) rfl g2 (Nat.le_of_ble_eq_true rfl) dl_935 (fun H locs hH => ?_)
  refine W.lcmp hx hb dl_938 ?_
  exact lv_if_eq (tgt := 1548) hx hb dl_939 (by decide) (fun _ => kk σ2 H locs g3 hH) (fun h => absurd (lc_cmp r) h)
theorem lc_20 (C : lc_C p s m meth c b L xs ad cA D) (hH : lc_S s ad cA D σ H locs) (hl : lc_L ls b ad k) (hk : 6 * k + 6 ≤ L) (hI : INV k σ) (kk : ∀ (τ : Sg) (H1 : Heap) (locs1 : List Loc), INV (k + 1) τ → lc_S s ad cA D τ H1 locs1 → W p l e room_1 s m #[Value.ref b] below meth c H1 locs1 70 6996 Q (F0 m 1548 ls [])) : W p l e room_1 s m #[Value.ref b] below meth c H locs 70 6996 Q (F0 m 944 ls []) := by
  have hx := C.1
  have hb := C.2.1
  obtain ⟨r, σ1, σ2, g1, g2, g3⟩ := I_leaving hI (xs (6 * k + 1)) (xs (6 * k + 2))
  refine lv_aload_n hx hb dl_944 rfl (lv_at hl 2 rfl) ?_
  refine lc_arg C hH hl hk 1 (by decide) rfl dl_945 dl_946 dl_947 dl_948 dl_949 ?_
  refine lc_arg C hH hl hk 2 (by decide) rfl dl_950 dl_951 dl_952 dl_953 dl_954 ?_
  refine lc_call C hH hl.1 (M := 76) (o := 0) (q := mi_TO_leaving) (as := [.int (xs (6 * k + 1)), .int (xs (6 * k + 2))]) (r := (some (.long r), σ1)) rfl lx_40 rfl rfl (by decide) rfl g1 (Nat.le_of_ble_eq_true rfl) dl_955 (fun H locs hH => ?_)
  refine lv_aload_n hx hb dl_958 rfl (lv_at hl 1 rfl) ?_
  refine lc_arg C hH hl hk 1 (by decide) rfl dl_959 dl_960 dl_961 dl_962 dl_963 ?_
  refine lc_arg C hH hl hk 2 (by decide) rfl dl_964 dl_965 dl_966 dl_967 dl_968 ?_
  refine lc_call C hH hl.1 (M := 187) (o := 39) (q := mi_Mod_leaving) (as := [.int (xs (6 * k + 1)), .int (xs (6 * k + 2))]) (r := (some (.long r), σ2)) rfl lx_41 rfl rfl (by decide) rfl g2 (Nat.le_of_ble_eq_true rfl) dl_969 (fun H locs hH => ?_)
  refine W.lcmp hx hb dl_972 ?_
  exact lv_if_eq (tgt := 1548) hx hb dl_973 (by decide) (fun _ => kk σ2 H locs g3 hH) (fun h => absurd (lc_cmp r) h)
theorem lc_21 (C : lc_C p s m meth c b L xs ad cA D) (hH : lc_S s ad cA D σ H locs) (hl : lc_L ls b ad k) (hk : 6 * k + 6 ≤ L) (hI : INV k σ) (kk : ∀ (τ : Sg) (H1 : Heap) (locs1 : List Loc), INV (k + 1) τ → lc_S s ad cA D τ H1 locs1 → W p l e room_1 s m #[Value.ref b] below meth c H1 locs1 70 6996 Q (F0 m 1548 ls [])) : W p l e room_1 s m #[Value.ref b] below meth c H locs 70 6996 Q (F0 m 978 ls []) := by
  have hx := C.1
  have hb := C.2.1
  obtain ⟨r, σ1, σ2, g1, g2, g3⟩ := I_alike hI (xs (6 * k + 1))
  refine lv_aload_n hx hb dl_978 rfl (lv_at hl 2 rfl) ?_
  refine lc_arg C hH hl hk 1 (by decide) rfl dl_979 dl_980 dl_981 dl_982 dl_983 ?_
  refine lc_call C hH hl.1 (M := 79) (o := 0) (q := mi_TO_alike) (as := [.int (xs (6 * k + 1))]) (r := (some (.int r), σ1)) rfl lx_42 rfl rfl (by decide) rfl g1 (Nat.le_of_ble_eq_true rfl) dl_984 (fun H locs hH => ?_)
  refine lv_aload_n hx hb dl_987 rfl (lv_at hl 1 rfl) ?_
  refine lc_arg C hH hl hk 1 (by decide) rfl dl_988 dl_989 dl_990 dl_991 dl_992 ?_
  refine lc_call C hH hl.1 (M := 190) (o := 39) (q := mi_Mod_alike) (as := [.int (xs (6 * k + 1))]) (r := (some (.int r), σ2)) rfl lx_43 rfl rfl (by decide) rfl g2 (Nat.le_of_ble_eq_true rfl) dl_993 (fun H locs hH => ?_)
  exact lv_icmp_eq (tgt := 1548) hx hb dl_996 (by decide) (fun _ => kk σ2 H locs g3 hH) (fun h => absurd rfl h)
theorem lc_22 (C : lc_C p s m meth c b L xs ad cA D) (hH : lc_S s ad cA D σ H locs) (hl : lc_L ls b ad k) (hk : 6 * k + 6 ≤ L) (hI : INV k σ) (kk : ∀ (τ : Sg) (H1 : Heap) (locs1 : List Loc), INV (k + 1) τ → lc_S s ad cA D τ H1 locs1 → W p l e room_1 s m #[Value.ref b] below meth c H1 locs1 70 6996 Q (F0 m 1548 ls [])) : W p l e room_1 s m #[Value.ref b] below meth c H locs 70 6996 Q (F0 m 1001 ls []) := by
  have hx := C.1
  have hb := C.2.1
  obtain ⟨r, σ1, σ2, g1, g2, g3⟩ := I_forgot hI (xs (6 * k + 1)) (xs (6 * k + 2))
  refine lv_aload_n hx hb dl_1001 rfl (lv_at hl 2 rfl) ?_
  refine lc_arg C hH hl hk 1 (by decide) rfl dl_1002 dl_1003 dl_1004 dl_1005 dl_1006 ?_
  refine lc_arg C hH hl hk 2 (by decide) rfl dl_1007 dl_1008 dl_1009 dl_1010 dl_1011 ?_
  refine lc_call C hH hl.1 (M := 88) (o := 0) (q := mi_TO_forgot) (as := [.int (xs (6 * k + 1)), .int (xs (6 * k + 2))]) (r := (some (.long r), σ1)) rfl lx_44 rfl rfl (by decide) rfl g1 (Nat.le_of_ble_eq_true rfl) dl_1012 (fun H locs hH => ?_)
  refine lv_aload_n hx hb dl_1015 rfl (lv_at hl 1 rfl) ?_
  refine lc_arg C hH hl hk 1 (by decide) rfl dl_1016 dl_1017 dl_1018 dl_1019 dl_1020 ?_
  refine lc_arg C hH hl hk 2 (by decide) rfl dl_1021 dl_1022 dl_1023 dl_1024 dl_1025 ?_
  refine lc_call C hH hl.1 (M := 196) (o := 39) (q := mi_Mod_forgot) (as := [.int (xs (6 * k + 1)), .int (xs (6 * k + 2))]) (r := (some (.long r), σ2)) rfl lx_45 rfl rfl (by decide) rfl g2 (Nat.le_of_ble_eq_true rfl) dl_1026 (fun H locs hH => ?_)
  refine W.lcmp hx hb dl_1029 ?_
  exact lv_if_eq (tgt := 1548) hx hb dl_1030 (by decide) (fun _ => kk σ2 H locs g3 hH) (fun h => absurd (lc_cmp r) h)
theorem lc_23 (C : lc_C p s m meth c b L xs ad cA D) (hH : lc_S s ad cA D σ H locs) (hl : lc_L ls b ad k) (hk : 6 * k + 6 ≤ L) (hI : INV k σ) (kk : ∀ (τ : Sg) (H1 : Heap) (locs1 : List Loc), INV (k + 1) τ → lc_S s ad cA D τ H1 locs1 → W p l e room_1 s m #[Value.ref b] below meth c H1 locs1 70 6996 Q (F0 m 1548 ls [])) : W p l e room_1 s m #[Value.ref b] below meth c H locs 70 6996 Q (F0 m 1035 ls []) := by
  have hx := C.1
  have hb := C.2.1
  obtain ⟨r, σ1, σ2, g1, g2, g3⟩ := I_wave hI (xs (6 * k + 1))
  refine lv_aload_n hx hb dl_1035 rfl (lv_at hl 2 rfl) ?_
  refine lc_arg C hH hl hk 1 (by decide) rfl dl_1036 dl_1037 dl_1038 dl_1039 dl_1040 ?_
  refine lc_call C hH hl.1 (M := 91) (o := 0) (q := mi_TO_wave) (as := [.int (xs (6 * k + 1))]) (r := (some (.int r), σ1)) rfl lx_46 rfl rfl (by decide) rfl g1 (Nat.le_of_ble_eq_true rfl) dl_1041 (fun H locs hH => ?_)
  refine lv_aload_n hx hb dl_1044 rfl (lv_at hl 1 rfl) ?_
  refine lc_arg C hH hl hk 1 (by decide) rfl dl_1045 dl_1046 dl_1047 dl_1048 dl_1049 ?_
  refine lc_call C hH hl.1 (M := 197) (o := 39) (q := mi_Mod_wave) (as := [.int (xs (6 * k + 1))]) (r := (some (.int r), σ2)) rfl lx_47 rfl rfl (by decide) rfl g2 (Nat.le_of_ble_eq_true rfl) dl_1050 (fun H locs hH => ?_)
  exact lv_icmp_eq (tgt := 1548) hx hb dl_1053 (by decide) (fun _ => kk σ2 H locs g3 hH) (fun h => absurd rfl h)
theorem lc_24 (C : lc_C p s m meth c b L xs ad cA D) (hH : lc_S s ad cA D σ H locs) (hl : lc_L ls b ad k) (hk : 6 * k + 6 ≤ L) (hI : INV k σ) (kk : ∀ (τ : Sg) (H1 : Heap) (locs1 : List Loc), INV (k + 1) τ → lc_S s ad cA D τ H1 locs1 → W p l e room_1 s m #[Value.ref b] below meth c H1 locs1 70 6996 Q (F0 m 1548 ls [])) : W p l e room_1 s m #[Value.ref b] below meth c H locs 70 6996 Q (F0 m 1058 ls []) := by
  have hx := C.1
  have hb := C.2.1
  obtain ⟨r, σ1, σ2, g1, g2, g3⟩ := I_type hI (xs (6 * k + 1)) (xs (6 * k + 2))
  refine lv_aload_n hx hb dl_1058 rfl (lv_at hl 2 rfl) ?_
  refine lc_arg C hH hl hk 1 (by decide) rfl dl_1059 dl_1060 dl_1061 dl_1062 dl_1063 ?_
  refine lc_arg C hH hl hk 2 (by decide) rfl dl_1064 dl_1065 dl_1066 dl_1067 dl_1068 ?_
  refine lc_call C hH hl.1 (M := 93) (o := 0) (q := mi_TO_type) (as := [.int (xs (6 * k + 1)), .int (xs (6 * k + 2))]) (r := (some (.int r), σ1)) rfl lx_48 rfl rfl (by decide) rfl g1 (Nat.le_of_ble_eq_true rfl) dl_1069 (fun H locs hH => ?_)
  refine lv_aload_n hx hb dl_1072 rfl (lv_at hl 1 rfl) ?_
  refine lc_arg C hH hl hk 1 (by decide) rfl dl_1073 dl_1074 dl_1075 dl_1076 dl_1077 ?_
  refine lc_arg C hH hl hk 2 (by decide) rfl dl_1078 dl_1079 dl_1080 dl_1081 dl_1082 ?_
  refine lc_call C hH hl.1 (M := 198) (o := 39) (q := mi_Mod_type) (as := [.int (xs (6 * k + 1)), .int (xs (6 * k + 2))]) (r := (some (.int r), σ2)) rfl lx_49 rfl rfl (by decide) rfl g2 (Nat.le_of_ble_eq_true rfl) dl_1083 (fun H locs hH => ?_)
  exact lv_icmp_eq (tgt := 1548) hx hb dl_1086 (by decide) (fun _ => kk σ2 H locs g3 hH) (fun h => absurd rfl h)
theorem lc_25 (C : lc_C p s m meth c b L xs ad cA D) (hH : lc_S s ad cA D σ H locs) (hl : lc_L ls b ad k) (hk : 6 * k + 6 ≤ L) (hI : INV k σ) (kk : ∀ (τ : Sg) (H1 : Heap) (locs1 : List Loc), INV (k + 1) τ → lc_S s ad cA D τ H1 locs1 → W p l e room_1 s m #[Value.ref b] below meth c H1 locs1 70 6996 Q (F0 m 1548 ls [])) : W p l e room_1 s m #[Value.ref b] below meth c H locs 70 6996 Q (F0 m 1091 ls []) := by
  have hx := C.1
  have hb := C.2.1
  obtain ⟨r, σ1, σ2, g1, g2, g3⟩ := I_wipe hI (xs (6 * k + 1))
  refine lv_aload_n hx hb dl_1091 rfl (lv_at hl 2 rfl) ?_
  refine lc_arg C hH hl hk 1 (by decide) rfl dl_1092 dl_1093 dl_1094 dl_1095 dl_1096 ?_
  refine lc_call C hH hl.1 (M := 96) (o := 0) (q := mi_TO_wipe) (as := [.int (xs (6 * k + 1))]) (r := (some (.int r), σ1)) rfl lx_50 rfl rfl (by decide) rfl g1 (Nat.le_of_ble_eq_true rfl) dl_1097 (fun H locs hH => ?_)
  refine lv_aload_n hx hb dl_1100 rfl (lv_at hl 1 rfl) ?_
  refine lc_arg C hH hl hk 1 (by decide) rfl dl_1101 dl_1102 dl_1103 dl_1104 dl_1105 ?_
  refine lc_call C hH hl.1 (M := 199) (o := 39) (q := mi_Mod_wipe) (as := [.int (xs (6 * k + 1))]) (r := (some (.int r), σ2)) rfl lx_51 rfl rfl (by decide) rfl g2 (Nat.le_of_ble_eq_true rfl) dl_1106 (fun H locs hH => ?_)
  exact lv_icmp_eq (tgt := 1548) hx hb dl_1109 (by decide) (fun _ => kk σ2 H locs g3 hH) (fun h => absurd rfl h)
theorem lc_26 (C : lc_C p s m meth c b L xs ad cA D) (hH : lc_S s ad cA D σ H locs) (hl : lc_L ls b ad k) (hk : 6 * k + 6 ≤ L) (hI : INV k σ) (kk : ∀ (τ : Sg) (H1 : Heap) (locs1 : List Loc), INV (k + 1) τ → lc_S s ad cA D τ H1 locs1 → W p l e room_1 s m #[Value.ref b] below meth c H1 locs1 70 6996 Q (F0 m 1548 ls [])) : W p l e room_1 s m #[Value.ref b] below meth c H locs 70 6996 Q (F0 m 1114 ls []) := by
  have hx := C.1
  have hb := C.2.1
  obtain ⟨r, σ1, σ2, g1, g2, g3⟩ := I_clash hI (xs (6 * k + 1)) (xs (6 * k + 2))
  refine lv_aload_n hx hb dl_1114 rfl (lv_at hl 2 rfl) ?_
  refine lc_arg C hH hl hk 1 (by decide) rfl dl_1115 dl_1116 dl_1117 dl_1118 dl_1119 ?_
  refine lc_arg C hH hl hk 2 (by decide) rfl dl_1120 dl_1121 dl_1122 dl_1123 dl_1124 ?_
  refine lc_call C hH hl.1 (M := 97) (o := 0) (q := mi_TO_clash) (as := [.int (xs (6 * k + 1)), .int (xs (6 * k + 2))]) (r := (some (.int r), σ1)) rfl lx_52 rfl rfl (by decide) rfl g1 (Nat.le_of_ble_eq_true rfl) dl_1125 (fun H locs hH => ?_)
  refine lv_aload_n hx hb dl_1128 rfl (lv_at hl 1 rfl) ?_
  refine lc_arg C hH hl hk 1 (by decide) rfl dl_1129 dl_1130 dl_1131 dl_1132 dl_1133 ?_
  refine lc_arg C hH hl hk 2 (by decide) rfl dl_1134 dl_1135 dl_1136 dl_1137 dl_1138 ?_
  refine lc_call C hH hl.1 (M := 200) (o := 39) (q := mi_Mod_clash) (as := [.int (xs (6 * k + 1)), .int (xs (6 * k + 2))]) (r := (some (.int r), σ2)) rfl lx_53 rfl rfl (by decide) rfl g2 (Nat.le_of_ble_eq_true rfl) dl_1139 (fun H locs hH => ?_)
  exact lv_icmp_eq (tgt := 1548) hx hb dl_1142 (by decide) (fun _ => kk σ2 H locs g3 hH) (fun h => absurd rfl h)
theorem lc_27 (C : lc_C p s m meth c b L xs ad cA D) (hH : lc_S s ad cA D σ H locs) (hl : lc_L ls b ad k) (hk : 6 * k + 6 ≤ L) (hI : INV k σ) (kk : ∀ (τ : Sg) (H1 : Heap) (locs1 : List Loc), INV (k + 1) τ → lc_S s ad cA D τ H1 locs1 → W p l e room_1 s m #[Value.ref b] below meth c H1 locs1 70 6996 Q (F0 m 1548 ls [])) : W p l e room_1 s m #[Value.ref b] below meth c H locs 70 6996 Q (F0 m 1147 ls []) := by
  have hx := C.1
  have hb := C.2.1
  obtain ⟨r, σ1, σ2, g1, g2, g3⟩ := I_least hI
  refine lv_aload_n hx hb dl_1147 rfl (lv_at hl 2 rfl) ?_
  refine lc_call C hH hl.1 (M := 99) (o := 0) (q := mi_TO_least) (as := []) (r := (some (.int r), σ1)) rfl lx_54 rfl rfl (by decide) rfl g1 (Nat.le_of_ble_eq_true rfl) dl_1148 (fun H locs hH => ?_)
  refine lv_aload_n hx hb dl_1151 rfl (lv_at hl 1 rfl) ?_
  refine lc_call C hH hl.1 (M := 202) (o := 39) (q := mi_Mod_least) (as := []) (r := (some (.int r), σ2)) rfl lx_55 rfl rfl (by decide) rfl g2 (Nat.le_of_ble_eq_true rfl) dl_1152 (fun H locs hH => ?_)
  exact lv_icmp_eq (tgt := 1548) hx hb dl_1155 (by decide) (fun _ => kk σ2 H locs g3 hH) (fun h => absurd rfl h)
theorem lc_28 (C : lc_C p s m meth c b L xs ad cA D) (hH : lc_S s ad cA D σ H locs) (hl : lc_L ls b ad k) (hk : 6 * k + 6 ≤ L) (hI : INV k σ) (kk : ∀ (τ : Sg) (H1 : Heap) (locs1 : List Loc), INV (k + 1) τ → lc_S s ad cA D τ H1 locs1 → W p l e room_1 s m #[Value.ref b] below meth c H1 locs1 70 6996 Q (F0 m 1548 ls [])) : W p l e room_1 s m #[Value.ref b] below meth c H locs 70 6996 Q (F0 m 1160 ls []) := by
  have hx := C.1
  have hb := C.2.1
  obtain ⟨r, σ1, σ2, g1, g2, g3⟩ := I_ones hI (xs (6 * k + 1))
  refine lv_aload_n hx hb dl_1160 rfl (lv_at hl 2 rfl) ?_
  refine lc_arg C hH hl hk 1 (by decide) rfl dl_1161 dl_1162 dl_1163 dl_1164 dl_1165 ?_
  refine lc_call C hH hl.1 (M := 104) (o := 0) (q := mi_TO_ones) (as := [.int (xs (6 * k + 1))]) (r := (some (.int r), σ1)) rfl lx_56 rfl rfl (by decide) rfl g1 (Nat.le_of_ble_eq_true rfl) dl_1166 (fun H locs hH => ?_)
  refine lv_aload_n hx hb dl_1169 rfl (lv_at hl 1 rfl) ?_
  refine lc_arg C hH hl hk 1 (by decide) rfl dl_1170 dl_1171 dl_1172 dl_1173 dl_1174 ?_
  refine lc_call C hH hl.1 (M := 206) (o := 39) (q := mi_Mod_ones) (as := [.int (xs (6 * k + 1))]) (r := (some (.int r), σ2)) rfl lx_57 rfl rfl (by decide) rfl g2 (Nat.le_of_ble_eq_true rfl) dl_1175 (fun H locs hH => ?_)
  exact lv_icmp_eq (tgt := 1548) hx hb dl_1178 (by decide) (fun _ => kk σ2 H locs g3 hH) (fun h => absurd rfl h)
theorem lc_29 (C : lc_C p s m meth c b L xs ad cA D) (hH : lc_S s ad cA D σ H locs) (hl : lc_L ls b ad k) (hk : 6 * k + 6 ≤ L) (hI : INV k σ) (kk : ∀ (τ : Sg) (H1 : Heap) (locs1 : List Loc), INV (k + 1) τ → lc_S s ad cA D τ H1 locs1 → W p l e room_1 s m #[Value.ref b] below meth c H1 locs1 70 6996 Q (F0 m 1548 ls [])) : W p l e room_1 s m #[Value.ref b] below meth c H locs 70 6996 Q (F0 m 1183 ls []) := by
  have hx := C.1
  have hb := C.2.1
  obtain ⟨r, σ1, σ2, g1, g2, g3⟩ := I_reach hI (xs (6 * k + 1))
  refine lv_aload_n hx hb dl_1183 rfl (lv_at hl 2 rfl) ?_
  refine lc_arg C hH hl hk 1 (by decide) rfl dl_1184 dl_1185 dl_1186 dl_1187 dl_1188 ?_
  refine lc_call C hH hl.1 (M := 106) (o := 0) (q := mi_TO_reach) (as := [.int (xs (6 * k + 1))]) (r := (some (.int r), σ1)) rfl lx_58 rfl rfl (by decide) rfl g1 (Nat.le_of_ble_eq_true rfl) dl_1189 (fun H locs hH => ?_)
  refine lv_aload_n hx hb dl_1192 rfl (lv_at hl 1 rfl) ?_
  refine lc_arg C hH hl hk 1 (by decide) rfl dl_1193 dl_1194 dl_1195 dl_1196 dl_1197 ?_
  refine lc_call C hH hl.1 (M := 207) (o := 39) (q := mi_Mod_reach) (as := [.int (xs (6 * k + 1))]) (r := (some (.int r), σ2)) rfl lx_59 rfl rfl (by decide) rfl g2 (Nat.le_of_ble_eq_true rfl) dl_1198 (fun H locs hH => ?_)
  exact lv_icmp_eq (tgt := 1548) hx hb dl_1201 (by decide) (fun _ => kk σ2 H locs g3 hH) (fun h => absurd rfl h)
theorem lc_30 (C : lc_C p s m meth c b L xs ad cA D) (hH : lc_S s ad cA D σ H locs) (hl : lc_L ls b ad k) (hk : 6 * k + 6 ≤ L) (hI : INV k σ) (kk : ∀ (τ : Sg) (H1 : Heap) (locs1 : List Loc), INV (k + 1) τ → lc_S s ad cA D τ H1 locs1 → W p l e room_1 s m #[Value.ref b] below meth c H1 locs1 70 6996 Q (F0 m 1548 ls [])) : W p l e room_1 s m #[Value.ref b] below meth c H locs 70 6996 Q (F0 m 1206 ls []) := by
  have hx := C.1
  have hb := C.2.1
  obtain ⟨r, σ1, σ2, g1, g2, g3⟩ := I_parts hI (xs (6 * k + 1))
  refine lv_aload_n hx hb dl_1206 rfl (lv_at hl 2 rfl) ?_
  refine lc_arg C hH hl hk 1 (by decide) rfl dl_1207 dl_1208 dl_1209 dl_1210 dl_1211 ?_
  refine lc_call C hH hl.1 (M := 108) (o := 0) (q := mi_TO_parts) (as := [.int (xs (6 * k + 1))]) (r := (some (.int r), σ1)) rfl lx_60 rfl rfl (by decide) rfl g1 (Nat.le_of_ble_eq_true rfl) dl_1212 (fun H locs hH => ?_)
  refine lv_aload_n hx hb dl_1215 rfl (lv_at hl 1 rfl) ?_
  refine lc_arg C hH hl hk 1 (by decide) rfl dl_1216 dl_1217 dl_1218 dl_1219 dl_1220 ?_
  refine lc_call C hH hl.1 (M := 208) (o := 39) (q := mi_Mod_parts) (as := [.int (xs (6 * k + 1))]) (r := (some (.int r), σ2)) rfl lx_61 rfl rfl (by decide) rfl g2 (Nat.le_of_ble_eq_true rfl) dl_1221 (fun H locs hH => ?_)
  exact lv_icmp_eq (tgt := 1548) hx hb dl_1224 (by decide) (fun _ => kk σ2 H locs g3 hH) (fun h => absurd rfl h)
theorem lc_31 (C : lc_C p s m meth c b L xs ad cA D) (hH : lc_S s ad cA D σ H locs) (hl : lc_L ls b ad k) (hk : 6 * k + 6 ≤ L) (hI : INV k σ) (kk : ∀ (τ : Sg) (H1 : Heap) (locs1 : List Loc), INV (k + 1) τ → lc_S s ad cA D τ H1 locs1 → W p l e room_1 s m #[Value.ref b] below meth c H1 locs1 70 6996 Q (F0 m 1548 ls [])) : W p l e room_1 s m #[Value.ref b] below meth c H locs 70 6996 Q (F0 m 1229 ls []) := by
  have hx := C.1
  have hb := C.2.1
  obtain ⟨r, σ1, σ2, g1, g2, g3⟩ := I_narrow hI (xs (6 * k + 1))
  refine lv_aload_n hx hb dl_1229 rfl (lv_at hl 2 rfl) ?_
  refine lc_arg C hH hl hk 1 (by decide) rfl dl_1230 dl_1231 dl_1232 dl_1233 dl_1234 ?_
  refine lc_call C hH hl.1 (M := 111) (o := 0) (q := mi_TO_narrow) (as := [.int (xs (6 * k + 1))]) (r := (some (.long r), σ1)) rfl lx_62 rfl rfl (by decide) rfl g1 (Nat.le_of_ble_eq_true rfl) dl_1235 (fun H locs hH => ?_)
  refine lv_aload_n hx hb dl_1238 rfl (lv_at hl 1 rfl) ?_
  refine lc_arg C hH hl hk 1 (by decide) rfl dl_1239 dl_1240 dl_1241 dl_1242 dl_1243 ?_
  refine lc_call C hH hl.1 (M := 211) (o := 39) (q := mi_Mod_narrow) (as := [.int (xs (6 * k + 1))]) (r := (some (.long r), σ2)) rfl lx_63 rfl rfl (by decide) rfl g2 (Nat.le_of_ble_eq_true rfl) dl_1244 (fun H locs hH => ?_)
  refine W.lcmp hx hb dl_1247 ?_
  exact lv_if_eq (tgt := 1548) hx hb dl_1248 (by decide) (fun _ => kk σ2 H locs g3 hH) (fun h => absurd (lc_cmp r) h)
theorem lc_32 (C : lc_C p s m meth c b L xs ad cA D) (hH : lc_S s ad cA D σ H locs) (hl : lc_L ls b ad k) (hk : 6 * k + 6 ≤ L) (hI : INV k σ) (kk : ∀ (τ : Sg) (H1 : Heap) (locs1 : List Loc), INV (k + 1) τ → lc_S s ad cA D τ H1 locs1 → W p l e room_1 s m #[Value.ref b] below meth c H1 locs1 70 6996 Q (F0 m 1548 ls [])) : W p l e room_1 s m #[Value.ref b] below meth c H locs 70 6996 Q (F0 m 1253 ls []) := by
  have hx := C.1
  have hb := C.2.1
  obtain ⟨r, σ1, σ2, g1, g2, g3⟩ := I_sheet hI (xs (6 * k + 1)) (xs (6 * k + 2)) (xs (6 * k + 3))
  refine lv_aload_n hx hb dl_1253 rfl (lv_at hl 2 rfl) ?_
  refine lc_arg C hH hl hk 1 (by decide) rfl dl_1254 dl_1255 dl_1256 dl_1257 dl_1258 ?_
  refine lc_arg C hH hl hk 2 (by decide) rfl dl_1259 dl_1260 dl_1261 dl_1262 dl_1263 ?_
  refine lc_arg C hH hl hk 3 (by decide) rfl dl_1264 dl_1265 dl_1266 dl_1267 dl_1268 ?_
  refine lc_call C hH hl.1 (M := 114) (o := 0) (q := mi_TO_sheet) (as := [.int (xs (6 * k + 1)), .int (xs (6 * k + 2)), .int (xs (6 * k + 3))]) (r := (some (.int r), σ1)) rfl lx_64 rfl rfl (by decide) rfl g1 (Nat.le_of_ble_eq_true rfl) dl_1269 (fun H locs hH => ?_)
  refine lv_aload_n hx hb dl_1272 rfl (lv_at hl 1 rfl) ?_
  refine lc_arg C hH hl hk 1 (by decide) rfl dl_1273 dl_1274 dl_1275 dl_1276 dl_1277 ?_
  refine lc_arg C hH hl hk 2 (by decide) rfl dl_1278 dl_1279 dl_1280 dl_1281 dl_1282 ?_
  refine lc_arg C hH hl hk 3 (by decide) rfl dl_1283 dl_1284 dl_1285 dl_1286 dl_1287 ?_
  refine lc_call C hH hl.1 (M := 130) (o := 39) (q := mi_Mod_sheet) (as := [.int (xs (6 * k + 1)), .int (xs (6 * k + 2)), .int (xs (6 * k + 3))]) (r := (some (.int r), σ2)) rfl lx_65 rfl rfl (by decide) rfl g2 (Nat.le_of_ble_eq_true rfl) dl_1288 (fun H locs hH => ?_)
  exact lv_icmp_eq (tgt := 1548) hx hb dl_1291 (by decide) (fun _ => kk σ2 H locs g3 hH) (fun h => absurd rfl h)
theorem lc_33 (C : lc_C p s m meth c b L xs ad cA D) (hH : lc_S s ad cA D σ H locs) (hl : lc_L ls b ad k) (hk : 6 * k + 6 ≤ L) (hI : INV k σ) (kk : ∀ (τ : Sg) (H1 : Heap) (locs1 : List Loc), INV (k + 1) τ → lc_S s ad cA D τ H1 locs1 → W p l e room_1 s m #[Value.ref b] below meth c H1 locs1 70 6996 Q (F0 m 1548 ls [])) : W p l e room_1 s m #[Value.ref b] below meth c H locs 70 6996 Q (F0 m 1296 ls []) := by
  have hx := C.1
  have hb := C.2.1
  obtain ⟨r, σ1, σ2, g1, g2, g3⟩ := I_lose hI (xs (6 * k + 1))
  refine lv_aload_n hx hb dl_1296 rfl (lv_at hl 2 rfl) ?_
  refine lc_arg C hH hl hk 1 (by decide) rfl dl_1297 dl_1298 dl_1299 dl_1300 dl_1301 ?_
  refine lc_call C hH hl.1 (M := 117) (o := 0) (q := mi_TO_lose) (as := [.int (xs (6 * k + 1))]) (r := (some (.int r), σ1)) rfl lx_66 rfl rfl (by decide) rfl g1 (Nat.le_of_ble_eq_true rfl) dl_1302 (fun H locs hH => ?_)
  refine lv_aload_n hx hb dl_1305 rfl (lv_at hl 1 rfl) ?_
  refine lc_arg C hH hl hk 1 (by decide) rfl dl_1306 dl_1307 dl_1308 dl_1309 dl_1310 ?_
  refine lc_call C hH hl.1 (M := 134) (o := 39) (q := mi_Mod_lose) (as := [.int (xs (6 * k + 1))]) (r := (some (.int r), σ2)) rfl lx_67 rfl rfl (by decide) rfl g2 (Nat.le_of_ble_eq_true rfl) dl_1311 (fun H locs hH => ?_)
  exact lv_icmp_eq (tgt := 1548) hx hb dl_1314 (by decide) (fun _ => kk σ2 H locs g3 hH) (fun h => absurd rfl h)
theorem lc_34 (C : lc_C p s m meth c b L xs ad cA D) (hH : lc_S s ad cA D σ H locs) (hl : lc_L ls b ad k) (hk : 6 * k + 6 ≤ L) (hI : INV k σ) (kk : ∀ (τ : Sg) (H1 : Heap) (locs1 : List Loc), INV (k + 1) τ → lc_S s ad cA D τ H1 locs1 → W p l e room_1 s m #[Value.ref b] below meth c H1 locs1 70 6996 Q (F0 m 1548 ls [])) : W p l e room_1 s m #[Value.ref b] below meth c H locs 70 6996 Q (F0 m 1319 ls []) := by
  have hx := C.1
  have hb := C.2.1
  obtain ⟨r, σ1, σ2, g1, g2, g3⟩ := I_lay hI (xs (6 * k + 1)) (xs (6 * k + 2)) (xs (6 * k + 3)) (xs (6 * k + 4))
  refine lv_aload_n hx hb dl_1319 rfl (lv_at hl 2 rfl) ?_
  refine lc_arg C hH hl hk 1 (by decide) rfl dl_1320 dl_1321 dl_1322 dl_1323 dl_1324 ?_
  refine lc_arg C hH hl hk 2 (by decide) rfl dl_1325 dl_1326 dl_1327 dl_1328 dl_1329 ?_
  refine lc_arg C hH hl hk 3 (by decide) rfl dl_1330 dl_1331 dl_1332 dl_1333 dl_1334 ?_
  refine lc_arg C hH hl hk 4 (by decide) rfl dl_1335 dl_1336 dl_1337 dl_1338 dl_1339 ?_
  refine lc_call C hH hl.1 (M := 118) (o := 0) (q := mi_TO_lay) (as := [.int (xs (6 * k + 1)), .int (xs (6 * k + 2)), .int (xs (6 * k + 3)), .int (xs (6 * k + 4))]) (r := (some (.int r), σ1)) rfl lx_68 rfl rfl (by decide) rfl g1 (Nat.le_of_ble_eq_true rfl) dl_1340 (fun H locs hH => ?_)
  refine lv_aload_n hx hb dl_1343 rfl (lv_at hl 1 rfl) ?_
  refine lc_arg C hH hl hk 1 (by decide) rfl dl_1344 dl_1345 dl_1346 dl_1347 dl_1348 ?_
  refine lc_arg C hH hl hk 2 (by decide) rfl dl_1349 dl_1350 dl_1351 dl_1352 dl_1353 ?_
  refine lc_arg C hH hl hk 3 (by decide) rfl dl_1354 dl_1355 dl_1356 dl_1357 dl_1358 ?_
  refine lc_arg C hH hl hk 4 (by decide) rfl dl_1359 dl_1360 dl_1361 dl_1362 dl_1363 ?_
  refine lc_call C hH hl.1 (M := 135) (o := 39) (q := mi_Mod_lay) (as := [.int (xs (6 * k + 1)), .int (xs (6 * k + 2)), .int (xs (6 * k + 3)), .int (xs (6 * k + 4))]) (r := (some (.int r), σ2)) rfl lx_69 rfl rfl (by decide) rfl g2 (Nat.le_of_ble_eq_true rfl) dl_1364 (fun H locs hH => ?_)
  exact lv_icmp_eq (tgt := 1548) hx hb dl_1367 (by decide) (fun _ => kk σ2 H locs g3 hH) (fun h => absurd rfl h)
theorem lc_35 (C : lc_C p s m meth c b L xs ad cA D) (hH : lc_S s ad cA D σ H locs) (hl : lc_L ls b ad k) (hk : 6 * k + 6 ≤ L) (hI : INV k σ) (kk : ∀ (τ : Sg) (H1 : Heap) (locs1 : List Loc), INV (k + 1) τ → lc_S s ad cA D τ H1 locs1 → W p l e room_1 s m #[Value.ref b] below meth c H1 locs1 70 6996 Q (F0 m 1548 ls [])) : W p l e room_1 s m #[Value.ref b] below meth c H locs 70 6996 Q (F0 m 1372 ls []) := by
  have hx := C.1
  have hb := C.2.1
  obtain ⟨r, σ1, σ2, g1, g2, g3⟩ := I_get hI (xs (6 * k + 1)) (xs (6 * k + 2)) (xs (6 * k + 3))
  refine lv_aload_n hx hb dl_1372 rfl (lv_at hl 2 rfl) ?_
  refine lc_arg C hH hl hk 1 (by decide) rfl dl_1373 dl_1374 dl_1375 dl_1376 dl_1377 ?_
  refine lc_arg C hH hl hk 2 (by decide) rfl dl_1378 dl_1379 dl_1380 dl_1381 dl_1382 ?_
  refine lc_arg C hH hl hk 3 (by decide) rfl dl_1383 dl_1384 dl_1385 dl_1386 dl_1387 ?_
  refine lc_call C hH hl.1 (M := 121) (o := 0) (q := mi_TO_get) (as := [.int (xs (6 * k + 1)), .int (xs (6 * k + 2)), .int (xs (6 * k + 3))]) (r := (some (.int r), σ1)) rfl lx_70 rfl rfl (by decide) rfl g1 (Nat.le_of_ble_eq_true rfl) dl_1388 (fun H locs hH => ?_)
  refine lv_aload_n hx hb dl_1391 rfl (lv_at hl 1 rfl) ?_
  refine lc_arg C hH hl hk 1 (by decide) rfl dl_1392 dl_1393 dl_1394 dl_1395 dl_1396 ?_
  refine lc_arg C hH hl hk 2 (by decide) rfl dl_1397 dl_1398 dl_1399 dl_1400 dl_1401 ?_
  refine lc_arg C hH hl hk 3 (by decide) rfl dl_1402 dl_1403 dl_1404 dl_1405 dl_1406 ?_
  refine lc_call C hH hl.1 (M := 138) (o := 39) (q := mi_Mod_get) (as := [.int (xs (6 * k + 1)), .int (xs (6 * k + 2)), .int (xs (6 * k + 3))]) (r := (some (.int r), σ2)) rfl lx_71 rfl rfl (by decide) rfl g2 (Nat.le_of_ble_eq_true rfl) dl_1407 (fun H locs hH => ?_)
  exact lv_icmp_eq (tgt := 1548) hx hb dl_1410 (by decide) (fun _ => kk σ2 H locs g3 hH) (fun h => absurd rfl h)
theorem lc_36 (C : lc_C p s m meth c b L xs ad cA D) (hH : lc_S s ad cA D σ H locs) (hl : lc_L ls b ad k) (hk : 6 * k + 6 ≤ L) (hI : INV k σ) (kk : ∀ (τ : Sg) (H1 : Heap) (locs1 : List Loc), INV (k + 1) τ → lc_S s ad cA D τ H1 locs1 → W p l e room_1 s m #[Value.ref b] below meth c H1 locs1 70 6996 Q (F0 m 1548 ls [])) : W p l e room_1 s m #[Value.ref b] below meth c H locs 70 6996 Q (F0 m 1415 ls []) := by
  have hx := C.1
  have hb := C.2.1
  obtain ⟨r, σ1, σ2, g1, g2, g3⟩ := I_copy hI (xs (6 * k + 1)) (xs (6 * k + 2)) (xs (6 * k + 3)) (xs (6 * k + 4)) (xs (6 * k + 5))
  refine lv_aload_n hx hb dl_1415 rfl (lv_at hl 2 rfl) ?_
  refine lc_arg C hH hl hk 1 (by decide) rfl dl_1416 dl_1417 dl_1418 dl_1419 dl_1420 ?_
  refine lc_arg C hH hl hk 2 (by decide) rfl dl_1421 dl_1422 dl_1423 dl_1424 dl_1425 ?_
  refine lc_arg C hH hl hk 3 (by decide) rfl dl_1426 dl_1427 dl_1428 dl_1429 dl_1430 ?_
  refine lc_arg C hH hl hk 4 (by decide) rfl dl_1431 dl_1432 dl_1433 dl_1434 dl_1435 ?_
  refine lc_arg C hH hl hk 5 (by decide) rfl dl_1436 dl_1437 dl_1438 dl_1439 dl_1440 ?_
  refine lc_call C hH hl.1 (M := 122) (o := 0) (q := mi_TO_copy) (as := [.int (xs (6 * k + 1)), .int (xs (6 * k + 2)), .int (xs (6 * k + 3)), .int (xs (6 * k + 4)), .int (xs (6 * k + 5))]) (r := (some (.int r), σ1)) rfl lx_72 rfl rfl (by decide) rfl g1 (Nat.le_of_ble_eq_true rfl) dl_1441 (fun H locs hH => ?_)
  refine lv_aload_n hx hb dl_1444 rfl (lv_at hl 1 rfl) ?_
  refine lc_arg C hH hl hk 1 (by decide) rfl dl_1445 dl_1446 dl_1447 dl_1448 dl_1449 ?_
  refine lc_arg C hH hl hk 2 (by decide) rfl dl_1450 dl_1451 dl_1452 dl_1453 dl_1454 ?_
  refine lc_arg C hH hl hk 3 (by decide) rfl dl_1455 dl_1456 dl_1457 dl_1458 dl_1459 ?_
  refine lc_arg C hH hl hk 4 (by decide) rfl dl_1460 dl_1461 dl_1462 dl_1463 dl_1464 ?_
  refine lc_arg C hH hl hk 5 (by decide) rfl dl_1465 dl_1466 dl_1467 dl_1468 dl_1469 ?_
  refine lc_call C hH hl.1 (M := 139) (o := 39) (q := mi_Mod_copy) (as := [.int (xs (6 * k + 1)), .int (xs (6 * k + 2)), .int (xs (6 * k + 3)), .int (xs (6 * k + 4)), .int (xs (6 * k + 5))]) (r := (some (.int r), σ2)) rfl lx_73 rfl rfl (by decide) rfl g2 (Nat.le_of_ble_eq_true rfl) dl_1470 (fun H locs hH => ?_)
  exact lv_icmp_eq (tgt := 1548) hx hb dl_1473 (by decide) (fun _ => kk σ2 H locs g3 hH) (fun h => absurd rfl h)
theorem lc_37 (C : lc_C p s m meth c b L xs ad cA D) (hH : lc_S s ad cA D σ H locs) (hl : lc_L ls b ad k) (hk : 6 * k + 6 ≤ L) (hI : INV k σ) (kk : ∀ (τ : Sg) (H1 : Heap) (locs1 : List Loc), INV (k + 1) τ → lc_S s ad cA D τ H1 locs1 → W p l e room_1 s m #[Value.ref b] below meth c H1 locs1 70 6996 Q (F0 m 1548 ls [])) : W p l e room_1 s m #[Value.ref b] below meth c H locs 70 6996 Q (F0 m 1478 ls []) := by
  have hx := C.1
  have hb := C.2.1
  obtain ⟨r, σ1, σ2, g1, g2, g3⟩ := I_write hI (xs (6 * k + 1)) (xs (6 * k + 2))
  refine lv_aload_n hx hb dl_1478 rfl (lv_at hl 2 rfl) ?_
  refine lc_arg C hH hl hk 1 (by decide) rfl dl_1479 dl_1480 dl_1481 dl_1482 dl_1483 ?_
  refine lc_arg C hH hl hk 2 (by decide) rfl dl_1484 dl_1485 dl_1486 dl_1487 dl_1488 ?_
  refine lc_call C hH hl.1 (M := 124) (o := 0) (q := mi_TO_write) (as := [.int (xs (6 * k + 1)), .int (xs (6 * k + 2))]) (r := (some (.int r), σ1)) rfl lx_74 rfl rfl (by decide) rfl g1 (Nat.le_of_ble_eq_true rfl) dl_1489 (fun H locs hH => ?_)
  refine lv_aload_n hx hb dl_1492 rfl (lv_at hl 1 rfl) ?_
  refine lc_arg C hH hl hk 1 (by decide) rfl dl_1493 dl_1494 dl_1495 dl_1496 dl_1497 ?_
  refine lc_arg C hH hl hk 2 (by decide) rfl dl_1498 dl_1499 dl_1500 dl_1501 dl_1502 ?_
  refine lc_call C hH hl.1 (M := 213) (o := 39) (q := mi_Mod_write) (as := [.int (xs (6 * k + 1)), .int (xs (6 * k + 2))]) (r := (some (.int r), σ2)) rfl lx_75 rfl rfl (by decide) rfl g2 (Nat.le_of_ble_eq_true rfl) dl_1503 (fun H locs hH => ?_)
  exact lv_icmp_eq (tgt := 1548) hx hb dl_1506 (by decide) (fun _ => kk σ2 H locs g3 hH) (fun h => absurd rfl h)
theorem lc_38 (C : lc_C p s m meth c b L xs ad cA D) (hH : lc_S s ad cA D σ H locs) (hl : lc_L ls b ad k) (hk : 6 * k + 6 ≤ L) (hI : INV k σ) (kk : ∀ (τ : Sg) (H1 : Heap) (locs1 : List Loc), INV (k + 1) τ → lc_S s ad cA D τ H1 locs1 → W p l e room_1 s m #[Value.ref b] below meth c H1 locs1 70 6996 Q (F0 m 1548 ls [])) : W p l e room_1 s m #[Value.ref b] below meth c H locs 70 6996 Q (F0 m 1511 ls []) := by
  have hx := C.1
  have hb := C.2.1
  obtain ⟨r, σ1, σ2, g1, g2, g3⟩ := I_count hI (xs (6 * k + 1))
  refine lv_aload_n hx hb dl_1511 rfl (lv_at hl 2 rfl) ?_
  refine lc_arg C hH hl hk 1 (by decide) rfl dl_1512 dl_1513 dl_1514 dl_1515 dl_1516 ?_
  refine lc_call C hH hl.1 (M := 125) (o := 0) (q := mi_TO_count) (as := [.int (xs (6 * k + 1))]) (r := (some (.int r), σ1)) rfl lx_76 rfl rfl (by decide) rfl g1 (Nat.le_of_ble_eq_true rfl) dl_1517 (fun H locs hH => ?_)
  refine lv_aload_n hx hb dl_1520 rfl (lv_at hl 1 rfl) ?_
  refine lc_arg C hH hl hk 1 (by decide) rfl dl_1521 dl_1522 dl_1523 dl_1524 dl_1525 ?_
  refine lc_call C hH hl.1 (M := 214) (o := 39) (q := mi_Mod_count) (as := [.int (xs (6 * k + 1))]) (r := (some (.int r), σ2)) rfl lx_77 rfl rfl (by decide) rfl g2 (Nat.le_of_ble_eq_true rfl) dl_1526 (fun H locs hH => ?_)
  exact lv_icmp_eq (tgt := 1548) hx hb dl_1529 (by decide) (fun _ => kk σ2 H locs g3 hH) (fun h => absurd rfl h)
theorem lc_39 (C : lc_C p s m meth c b L xs ad cA D) (hH : lc_S s ad cA D σ H locs) (hl : lc_L ls b ad k) (hk : 6 * k + 6 ≤ L) (hI : INV k σ) (kk : ∀ (τ : Sg) (H1 : Heap) (locs1 : List Loc), INV (k + 1) τ → lc_S s ad cA D τ H1 locs1 → W p l e room_1 s m #[Value.ref b] below meth c H1 locs1 70 6996 Q (F0 m 1548 ls [])) : W p l e room_1 s m #[Value.ref b] below meth c H locs 70 6996 Q (F0 m 1534 ls []) := by
  have hx := C.1
  have hb := C.2.1
  obtain ⟨r, σ1, σ2, g1, g2, g3⟩ := I_digest hI
  refine lv_aload_n hx hb dl_1534 rfl (lv_at hl 2 rfl) ?_
  refine lc_call C hH hl.1 (M := 127) (o := 0) (q := mi_TO_digest) (as := []) (r := (some (.long r), σ1)) rfl lx_78 rfl rfl (by decide) rfl g1 (Nat.le_of_ble_eq_true rfl) dl_1535 (fun H locs hH => ?_)
  refine lv_aload_n hx hb dl_1538 rfl (lv_at hl 1 rfl) ?_
  refine lc_call C hH hl.1 (M := 215) (o := 39) (q := mi_Mod_digest) (as := []) (r := (some (.long r), σ2)) rfl lx_79 rfl rfl (by decide) rfl g2 (Nat.le_of_ble_eq_true rfl) dl_1539 (fun H locs hH => ?_)
  refine W.lcmp hx hb dl_1542 ?_
  exact lv_if_eq (tgt := 1548) hx hb dl_1543 (by decide) (fun _ => kk σ2 H locs g3 hH) (fun h => absurd (lc_cmp r) h)
end LCB
