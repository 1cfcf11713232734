/-! the methods by number; the entries of the constant pools that their code uses, with the words that say what they are -/
abbrev MI : Type := MethodName × ByteArray × Nat × Option FieldType × Nat × Nat × Nat × Nat × List Ety
def mi_y (q : MI) : MethodName := q.1
def mi_b (q : MI) : ByteArray := q.2.1
def mi_L (q : MI) : Nat := q.2.2.1
def mi_r (q : MI) : Option FieldType := q.2.2.2.1
def mi_t (q : MI) : Nat := q.2.2.2.2.1
def mi_o (q : MI) : Nat := q.2.2.2.2.2.1
def mi_c (q : MI) : Nat := q.2.2.2.2.2.2.1
def mi_n (q : MI) : Nat := q.2.2.2.2.2.2.2.1
def mi_k (q : MI) : List Ety := q.2.2.2.2.2.2.2.2
def sd_ons : List String := ["java/util/Arrays", "ThroughOthers", "ThroughOthers$Net", "ThroughOthers$Sheets", "java/lang/Integer", "ThroughOthers$Records", "ThroughOthers$Chains", "ThroughOthers$Walk", "ThroughOthers$Shares", "ThroughOthers$Deals", "ThroughOthers$Marks", "ThroughOthersModel"]
def sd_on (o : Nat) : String := (xm_at sd_ons o).getD ""
def sd_cl (ci : Nat) : vw_C := (xm_at xm_cl ci).getD (R_0, T_0, 7)
def mi_Arr_fillI : MI := (⟨"java/util/Arrays", "fill", "([II)V"⟩, prog_15_method_103_code, 4, none, 0, 0, 99, 2, kc_Arr_fillI)
def mi_TO_persons : MI := (⟨"ThroughOthers", "persons", "(I)I"⟩, prog_1_method_2_code, 3, (some .int), 1, 1, 8, 1, kc_TO_persons)
def mi_Net_resize : MI := (⟨"ThroughOthers$Net", "resize", "(I)V"⟩, prog_5_method_8_code, 3, none, 0, 2, 3, 1, kc_Net_resize)
def mi_Net_everyone : MI := (⟨"ThroughOthers$Net", "everyone", "()I"⟩, prog_5_method_3_code, 1, (some .int), 1, 2, 3, 0, kc_Net_everyone)
def mi_Net_holds : MI := (⟨"ThroughOthers$Net", "holds", "(I)Z"⟩, prog_5_method_2_code, 2, (some .boolean), 3, 2, 3, 1, kc_Net_holds)
def mi_TO_tie : MI := (⟨"ThroughOthers", "tie", "(IIZ)I"⟩, prog_1_method_3_code, 4, (some .int), 1, 1, 8, 3, kc_TO_tie)
def mi_Net_tied : MI := (⟨"ThroughOthers$Net", "tied", "(II)Z"⟩, prog_5_method_4_code, 3, (some .boolean), 3, 2, 3, 2, kc_Net_tied)
def mi_Net_join : MI := (⟨"ThroughOthers$Net", "join", "(IIZ)V"⟩, prog_5_method_9_code, 4, none, 0, 2, 3, 3, kc_Net_join)
def mi_TO_kind : MI := (⟨"ThroughOthers", "kind", "(II)I"⟩, prog_1_method_4_code, 4, (some .int), 1, 1, 8, 2, kc_TO_kind)
def mi_TO_isBit : MI := (⟨"ThroughOthers", "isBit", "(I)Z"⟩, prog_1_method_46_code, 1, (some .boolean), 3, 1, 99, 1, kc_TO_isBit)
def mi_Net_kindOf : MI := (⟨"ThroughOthers$Net", "kindOf", "(I)I"⟩, prog_5_method_6_code, 2, (some .int), 1, 2, 3, 1, kc_Net_kindOf)
def mi_Net_turn : MI := (⟨"ThroughOthers$Net", "turn", "(II)V"⟩, prog_5_method_10_code, 3, none, 0, 2, 3, 2, kc_Net_turn)
def mi_TO_read : MI := (⟨"ThroughOthers", "read", "(II)I"⟩, prog_1_method_5_code, 6, (some .int), 1, 1, 8, 2, kc_TO_read)
def mi_Sheets_holds : MI := (⟨"ThroughOthers$Sheets", "holds", "(I)Z"⟩, prog_8_method_2_code, 2, (some .boolean), 3, 3, 6, 1, kc_Sheets_holds)
def mi_Sheets_isLost : MI := (⟨"ThroughOthers$Sheets", "isLost", "(I)Z"⟩, prog_8_method_4_code, 2, (some .boolean), 3, 3, 6, 1, kc_Sheets_isLost)
def mi_Sheets_finding : MI := (⟨"ThroughOthers$Sheets", "finding", "(I)I"⟩, prog_8_method_5_code, 2, (some .int), 1, 3, 6, 1, kc_Sheets_finding)
def mi_Sheets_item : MI := (⟨"ThroughOthers$Sheets", "item", "(II)I"⟩, prog_8_method_9_code, 3, (some .int), 1, 3, 6, 2, kc_Sheets_item)
def mi_TO_about : MI := (⟨"ThroughOthers", "about", "(II)I"⟩, prog_1_method_6_code, 3, (some .int), 1, 1, 8, 2, kc_TO_about)
def mi_Net_degree : MI := (⟨"ThroughOthers$Net", "degree", "(I)I"⟩, prog_5_method_5_code, 2, (some .int), 1, 2, 3, 1, kc_Net_degree)
def mi_Int_bitCount : MI := (⟨"java/lang/Integer", "bitCount", "(I)I"⟩, prog_12_method_49_code, 1, (some .int), 1, 4, 99, 1, kc_Int_bitCount)
def mi_TO_far : MI := (⟨"ThroughOthers", "far", "(II)I"⟩, prog_1_method_7_code, 3, (some .int), 1, 1, 8, 2, kc_TO_far)
def mi_Net_distance : MI := (⟨"ThroughOthers$Net", "distance", "(II)I"⟩, prog_5_method_14_code, 4, (some .int), 1, 2, 3, 2, kc_Net_distance)
def mi_Net_spread : MI := (⟨"ThroughOthers$Net", "spread", "(III)I"⟩, prog_5_method_13_code, 8, (some .int), 1, 2, 3, 3, kc_Net_spread)
def mi_TO_set : MI := (⟨"ThroughOthers", "set", "(II)I"⟩, prog_1_method_8_code, 4, (some .int), 1, 1, 8, 2, kc_TO_set)
def mi_TO_isSetting : MI := (⟨"ThroughOthers", "isSetting", "(II)Z"⟩, prog_1_method_44_code, 3, (some .boolean), 3, 1, 8, 2, kc_TO_isSetting)
def mi_TO_isUpTo : MI := (⟨"ThroughOthers", "isUpTo", "(III)Z"⟩, prog_1_method_47_code, 3, (some .boolean), 3, 1, 99, 3, kc_TO_isUpTo)
def mi_TO_setting : MI := (⟨"ThroughOthers", "setting", "(I)I"⟩, prog_1_method_45_code, 2, (some .int), 1, 1, 8, 1, kc_TO_setting)
def mi_Records_look : MI := (⟨"ThroughOthers$Records", "look", "(I)V"⟩, prog_6_method_6_code, 4, none, 0, 5, 4, 1, kc_Records_look)
def mi_TO_found : MI := (⟨"ThroughOthers", "found", "(II)J"⟩, prog_1_method_9_code, 3, (some .long), 2, 1, 8, 2, kc_TO_found)
def mi_TO_refusal : MI := (⟨"ThroughOthers", "refusal", "(I)J"⟩, prog_1_method_48_code, 1, (some .long), 2, 1, 99, 1, kc_TO_refusal)
def mi_Chains_follow : MI := (⟨"ThroughOthers$Chains", "follow", "(II)V"⟩, prog_2_method_2_code, 6, none, 0, 6, 0, 2, kc_Chains_follow)
def mi_Chains_begin : MI := (⟨"ThroughOthers$Chains", "begin", "(I)V"⟩, prog_2_method_3_code, 3, none, 0, 6, 0, 1, kc_Chains_begin)
def mi_Arr_fillL : MI := (⟨"java/util/Arrays", "fill", "([JJ)V"⟩, prog_15_method_101_code, 5, none, 0, 0, 99, 2, kc_Arr_fillL)
def mi_Chains_place : MI := (⟨"ThroughOthers$Chains", "place", "(II)I"⟩, prog_2_method_5_code, 2, (some .int), 1, 6, 99, 2, kc_Chains_place)
def mi_Chains_goOn : MI := (⟨"ThroughOthers$Chains", "goOn", "(III)V"⟩, prog_2_method_4_code, 9, none, 0, 6, 0, 3, kc_Chains_goOn)
def mi_Chains_holding : MI := (⟨"ThroughOthers$Chains", "holding", "(I)J"⟩, prog_2_method_6_code, 5, (some .long), 2, 6, 0, 1, kc_Chains_holding)
def mi_TO_fraction : MI := (⟨"ThroughOthers", "fraction", "(JJI)J"⟩, prog_1_method_50_code, 7, (some .long), 2, 1, 99, 3, kc_TO_fraction)
def mi_TO_greatestCommon : MI := (⟨"ThroughOthers", "greatestCommon", "(JJ)J"⟩, prog_1_method_51_code, 11, (some .long), 2, 1, 99, 2, kc_TO_greatestCommon)
def mi_TO_both : MI := (⟨"ThroughOthers", "both", "(III)J"⟩, prog_1_method_10_code, 4, (some .long), 2, 1, 8, 3, kc_TO_both)
def mi_TO_size : MI := (⟨"ThroughOthers", "size", "(II)J"⟩, prog_1_method_11_code, 3, (some .long), 2, 1, 8, 2, kc_TO_size)
def mi_Chains_ofSize : MI := (⟨"ThroughOthers$Chains", "ofSize", "(I)J"⟩, prog_2_method_7_code, 5, (some .long), 2, 6, 0, 1, kc_Chains_ofSize)
def mi_TO_kinds : MI := (⟨"ThroughOthers", "kinds", "(II)J"⟩, prog_1_method_12_code, 3, (some .long), 2, 1, 8, 2, kc_TO_kinds)
def mi_Chains_ofKind : MI := (⟨"ThroughOthers$Chains", "ofKind", "(I)J"⟩, prog_2_method_8_code, 5, (some .long), 2, 6, 0, 1, kc_Chains_ofKind)
def mi_TO_within : MI := (⟨"ThroughOthers", "within", "(II)J"⟩, prog_1_method_13_code, 3, (some .long), 2, 1, 8, 2, kc_TO_within)
def mi_Chains_near : MI := (⟨"ThroughOthers$Chains", "near", "(I)J"⟩, prog_2_method_9_code, 5, (some .long), 2, 6, 0, 1, kc_Chains_near)
def mi_Chains_isNear : MI := (⟨"ThroughOthers$Chains", "isNear", "(II)Z"⟩, prog_2_method_10_code, 9, (some .boolean), 3, 6, 0, 2, kc_Chains_isNear)
def mi_Chains_weight : MI := (⟨"ThroughOthers$Chains", "weight", "(I)J"⟩, prog_2_method_11_code, 6, (some .long), 2, 6, 0, 1, kc_Chains_weight)
def mi_Net_kindOnes : MI := (⟨"ThroughOthers$Net", "kindOnes", "()I"⟩, prog_5_method_7_code, 1, (some .int), 1, 2, 3, 0, kc_Net_kindOnes)
def mi_TO_at : MI := (⟨"ThroughOthers", "at", "(III)J"⟩, prog_1_method_14_code, 4, (some .long), 2, 1, 8, 3, kc_TO_at)
def mi_Walk_go : MI := (⟨"ThroughOthers$Walk", "go", "(II)V"⟩, prog_9_method_2_code, 5, none, 0, 7, 7, 2, kc_Walk_go)
def mi_Walk_step : MI := (⟨"ThroughOthers$Walk", "step", "()V"⟩, prog_9_method_3_code, 4, none, 0, 7, 7, 0, kc_Walk_step)
def mi_TO_lasting : MI := (⟨"ThroughOthers", "lasting", "(II)J"⟩, prog_1_method_15_code, 3, (some .long), 2, 1, 8, 2, kc_TO_lasting)
def mi_Net_degrees : MI := (⟨"ThroughOthers$Net", "degrees", "(I)I"⟩, prog_5_method_11_code, 4, (some .int), 1, 2, 3, 1, kc_Net_degrees)
def mi_TO_strayed : MI := (⟨"ThroughOthers", "strayed", "(II)J"⟩, prog_1_method_16_code, 3, (some .long), 2, 1, 8, 2, kc_TO_strayed)
def mi_Walk_apart : MI := (⟨"ThroughOthers$Walk", "apart", "()J"⟩, prog_9_method_4_code, 6, (some .long), 2, 7, 7, 0, kc_Walk_apart)
def mi_Walk_mostApart : MI := (⟨"ThroughOthers$Walk", "mostApart", "()J"⟩, prog_9_method_5_code, 1, (some .long), 2, 7, 7, 0, kc_Walk_mostApart)
def mi_TO_came : MI := (⟨"ThroughOthers", "came", "(IIII)I"⟩, prog_1_method_17_code, 7, (some .int), 1, 1, 8, 4, kc_TO_came)
def mi_Records_holds : MI := (⟨"ThroughOthers$Records", "holds", "(I)Z"⟩, prog_6_method_2_code, 2, (some .boolean), 3, 5, 4, 1, kc_Records_holds)
def mi_Records_isNextDay : MI := (⟨"ThroughOthers$Records", "isNextDay", "(I)Z"⟩, prog_6_method_3_code, 2, (some .boolean), 3, 5, 4, 1, kc_Records_isNextDay)
def mi_Records_tell : MI := (⟨"ThroughOthers$Records", "tell", "(IIII)I"⟩, prog_6_method_4_code, 7, (some .int), 1, 5, 4, 4, kc_Records_tell)
def mi_TO_takeBack : MI := (⟨"ThroughOthers", "takeBack", "(II)I"⟩, prog_1_method_18_code, 3, (some .int), 1, 1, 8, 2, kc_TO_takeBack)
def mi_Records_untell : MI := (⟨"ThroughOthers$Records", "untell", "(II)V"⟩, prog_6_method_5_code, 3, none, 0, 5, 4, 2, kc_Records_untell)
def mi_TO_record : MI := (⟨"ThroughOthers", "record", "(II)I"⟩, prog_1_method_19_code, 3, (some .int), 1, 1, 8, 2, kc_TO_record)
def mi_Records_detail : MI := (⟨"ThroughOthers$Records", "detail", "(II)I"⟩, prog_6_method_8_code, 3, (some .int), 1, 5, 4, 2, kc_Records_detail)
def mi_TO_share : MI := (⟨"ThroughOthers", "share", "(II)J"⟩, prog_1_method_20_code, 3, (some .long), 2, 1, 8, 2, kc_TO_share)
def mi_Shares_taken : MI := (⟨"ThroughOthers$Shares", "taken", "(I)J"⟩, prog_7_method_2_code, 5, (some .long), 2, 8, 5, 1, kc_Shares_taken)
def mi_Records_isTaken : MI := (⟨"ThroughOthers$Records", "isTaken", "(I)Z"⟩, prog_6_method_7_code, 2, (some .boolean), 3, 5, 4, 1, kc_Records_isTaken)
def mi_TO_part : MI := (⟨"ThroughOthers", "part", "(JJI)J"⟩, prog_1_method_49_code, 5, (some .long), 2, 1, 99, 3, kc_TO_part)
def mi_Shares_byTies : MI := (⟨"ThroughOthers$Shares", "byTies", "(II)J"⟩, prog_7_method_5_code, 7, (some .long), 2, 8, 5, 2, kc_Shares_byTies)
def mi_Shares_tells : MI := (⟨"ThroughOthers$Shares", "tells", "(II)Z"⟩, prog_7_method_3_code, 4, (some .boolean), 3, 8, 5, 2, kc_Shares_tells)
def mi_Shares_byBringing : MI := (⟨"ThroughOthers$Shares", "byBringing", "(I)J"⟩, prog_7_method_11_code, 2, (some .long), 2, 8, 5, 1, kc_Shares_byBringing)
def mi_Shares_countBringing : MI := (⟨"ThroughOthers$Shares", "countBringing", "()V"⟩, prog_7_method_9_code, 3, none, 0, 8, 5, 0, kc_Shares_countBringing)
def mi_Shares_pull : MI := (⟨"ThroughOthers$Shares", "pull", "(I)J"⟩, prog_7_method_10_code, 2, (some .long), 2, 8, 5, 1, kc_Shares_pull)
def mi_Shares_telling : MI := (⟨"ThroughOthers$Shares", "telling", "(I)J"⟩, prog_7_method_4_code, 5, (some .long), 2, 8, 5, 1, kc_Shares_telling)
def mi_TO_bounds : MI := (⟨"ThroughOthers", "bounds", "(III)J"⟩, prog_1_method_21_code, 5, (some .long), 2, 1, 8, 3, kc_TO_bounds)
def mi_Shares_rounded : MI := (⟨"ThroughOthers$Shares", "rounded", "(II)J"⟩, prog_7_method_6_code, 6, (some .long), 2, 8, 5, 2, kc_Shares_rounded)
def mi_TO_leaving : MI := (⟨"ThroughOthers", "leaving", "(II)J"⟩, prog_1_method_22_code, 4, (some .long), 2, 1, 8, 2, kc_TO_leaving)
def mi_Shares_treeToLeave : MI := (⟨"ThroughOthers$Shares", "treeToLeave", "(I)I"⟩, prog_7_method_7_code, 5, (some .int), 1, 8, 5, 1, kc_Shares_treeToLeave)
def mi_Shares_isLess : MI := (⟨"ThroughOthers$Shares", "isLess", "(II)Z"⟩, prog_7_method_8_code, 3, (some .boolean), 3, 8, 5, 2, kc_Shares_isLess)
def mi_TO_alike : MI := (⟨"ThroughOthers", "alike", "(I)I"⟩, prog_1_method_23_code, 2, (some .int), 1, 1, 8, 1, kc_TO_alike)
def mi_Records_likes : MI := (⟨"ThroughOthers$Records", "likes", "()I"⟩, prog_6_method_11_code, 4, (some .int), 1, 5, 4, 0, kc_Records_likes)
def mi_Records_counting : MI := (⟨"ThroughOthers$Records", "counting", "()I"⟩, prog_6_method_9_code, 3, (some .int), 1, 5, 4, 0, kc_Records_counting)
def mi_Deals_chance : MI := (⟨"ThroughOthers$Deals", "chance", "()I"⟩, prog_3_method_2_code, 9, (some .int), 1, 9, 1, 0, kc_Deals_chance)
def mi_Deals_gather : MI := (⟨"ThroughOthers$Deals", "gather", "()I"⟩, prog_3_method_3_code, 4, (some .int), 1, 9, 1, 0, kc_Deals_gather)
def mi_Deals_alikeIn : MI := (⟨"ThroughOthers$Deals", "alikeIn", "(I)I"⟩, prog_3_method_4_code, 5, (some .int), 1, 9, 1, 1, kc_Deals_alikeIn)
def mi_Deals_following : MI := (⟨"ThroughOthers$Deals", "following", "(I)I"⟩, prog_3_method_5_code, 3, (some .int), 1, 9, 99, 1, kc_Deals_following)
def mi_Int_lowestOneBit : MI := (⟨"java/lang/Integer", "lowestOneBit", "(I)I"⟩, prog_12_method_46_code, 1, (some .int), 1, 4, 99, 1, kc_Int_lowestOneBit)
def mi_Int_numberOfTrailingZeros : MI := (⟨"java/lang/Integer", "numberOfTrailingZeros", "(I)I"⟩, prog_12_method_48_code, 2, (some .int), 1, 4, 99, 1, kc_Int_numberOfTrailingZeros)
def mi_TO_forgot : MI := (⟨"ThroughOthers", "forgot", "(II)J"⟩, prog_1_method_24_code, 3, (some .long), 2, 1, 8, 2, kc_TO_forgot)
def mi_Shares_ofWave : MI := (⟨"ThroughOthers$Shares", "ofWave", "(I)J"⟩, prog_7_method_13_code, 7, (some .long), 2, 8, 5, 1, kc_Shares_ofWave)
def mi_Shares_wholeWave : MI := (⟨"ThroughOthers$Shares", "wholeWave", "(I)J"⟩, prog_7_method_12_code, 7, (some .long), 2, 8, 5, 1, kc_Shares_wholeWave)
def mi_TO_wave : MI := (⟨"ThroughOthers", "wave", "(I)I"⟩, prog_1_method_25_code, 2, (some .int), 1, 1, 8, 1, kc_TO_wave)
def mi_Records_inWave : MI := (⟨"ThroughOthers$Records", "inWave", "(I)I"⟩, prog_6_method_10_code, 4, (some .int), 1, 5, 4, 1, kc_Records_inWave)
def mi_TO_type : MI := (⟨"ThroughOthers", "type", "(II)I"⟩, prog_1_method_26_code, 3, (some .int), 1, 1, 8, 2, kc_TO_type)
def mi_Marks_isSign : MI := (⟨"ThroughOthers$Marks", "isSign", "(I)Z"⟩, prog_4_method_2_code, 1, (some .boolean), 3, 10, 99, 1, kc_Marks_isSign)
def mi_Marks_append : MI := (⟨"ThroughOthers$Marks", "append", "(II)I"⟩, prog_4_method_3_code, 3, (some .int), 1, 10, 2, 2, kc_Marks_append)
def mi_TO_wipe : MI := (⟨"ThroughOthers", "wipe", "(I)I"⟩, prog_1_method_27_code, 3, (some .int), 1, 1, 8, 1, kc_TO_wipe)
def mi_TO_clash : MI := (⟨"ThroughOthers", "clash", "(II)I"⟩, prog_1_method_28_code, 3, (some .int), 1, 1, 8, 2, kc_TO_clash)
def mi_Marks_differ : MI := (⟨"ThroughOthers$Marks", "differ", "(II)Z"⟩, prog_4_method_5_code, 7, (some .boolean), 3, 10, 2, 2, kc_Marks_differ)
def mi_TO_least : MI := (⟨"ThroughOthers", "least", "()I"⟩, prog_1_method_29_code, 1, (some .int), 1, 1, 8, 0, kc_TO_least)
def mi_Marks_tellApart : MI := (⟨"ThroughOthers$Marks", "tellApart", "()I"⟩, prog_4_method_6_code, 2, (some .int), 1, 10, 2, 0, kc_Marks_tellApart)
def mi_Marks_gather : MI := (⟨"ThroughOthers$Marks", "gather", "()V"⟩, prog_4_method_8_code, 3, none, 0, 10, 2, 0, kc_Marks_gather)
def mi_Marks_apartForSure : MI := (⟨"ThroughOthers$Marks", "apartForSure", "()I"⟩, prog_4_method_7_code, 6, (some .int), 1, 10, 2, 0, kc_Marks_apartForSure)
def mi_Marks_deal : MI := (⟨"ThroughOthers$Marks", "deal", "(III)Z"⟩, prog_4_method_9_code, 6, (some .boolean), 3, 10, 2, 3, kc_Marks_deal)
def mi_TO_ones : MI := (⟨"ThroughOthers", "ones", "(I)I"⟩, prog_1_method_30_code, 2, (some .int), 1, 1, 8, 1, kc_TO_ones)
def mi_Marks_personOf : MI := (⟨"ThroughOthers$Marks", "personOf", "(I)I"⟩, prog_4_method_10_code, 3, (some .int), 1, 10, 2, 1, kc_Marks_personOf)
def mi_TO_reach : MI := (⟨"ThroughOthers", "reach", "(I)I"⟩, prog_1_method_31_code, 2, (some .int), 1, 1, 8, 1, kc_TO_reach)
def mi_Net_fewestReaching : MI := (⟨"ThroughOthers$Net", "fewestReaching", "(I)I"⟩, prog_5_method_17_code, 5, (some .int), 1, 2, 3, 1, kc_Net_fewestReaching)
def mi_TO_parts : MI := (⟨"ThroughOthers", "parts", "(I)I"⟩, prog_1_method_32_code, 2, (some .int), 1, 1, 8, 1, kc_TO_parts)
def mi_Net_pieces : MI := (⟨"ThroughOthers$Net", "pieces", "(I)I"⟩, prog_5_method_15_code, 5, (some .int), 1, 2, 3, 1, kc_Net_pieces)
def mi_Net_bridges : MI := (⟨"ThroughOthers$Net", "bridges", "()I"⟩, prog_5_method_16_code, 4, (some .int), 1, 2, 3, 0, kc_Net_bridges)
def mi_TO_narrow : MI := (⟨"ThroughOthers", "narrow", "(I)J"⟩, prog_1_method_33_code, 3, (some .long), 2, 1, 8, 1, kc_TO_narrow)
def mi_Net_narrowest : MI := (⟨"ThroughOthers$Net", "narrowest", "()I"⟩, prog_5_method_18_code, 8, (some .int), 1, 2, 3, 0, kc_Net_narrowest)
def mi_Net_leadingOut : MI := (⟨"ThroughOthers$Net", "leadingOut", "(I)I"⟩, prog_5_method_12_code, 4, (some .int), 1, 2, 3, 1, kc_Net_leadingOut)
def mi_TO_sheet : MI := (⟨"ThroughOthers", "sheet", "(III)I"⟩, prog_1_method_34_code, 4, (some .int), 1, 1, 8, 3, kc_TO_sheet)
def mi_Sheets_isForm : MI := (⟨"ThroughOthers$Sheets", "isForm", "(I)Z"⟩, prog_8_method_3_code, 1, (some .boolean), 3, 3, 99, 1, kc_Sheets_isForm)
def mi_Sheets_renew : MI := (⟨"ThroughOthers$Sheets", "renew", "(III)V"⟩, prog_8_method_6_code, 4, none, 0, 3, 6, 3, kc_Sheets_renew)
def mi_TO_lose : MI := (⟨"ThroughOthers", "lose", "(I)I"⟩, prog_1_method_35_code, 2, (some .int), 1, 1, 8, 1, kc_TO_lose)
def mi_TO_lay : MI := (⟨"ThroughOthers", "lay", "(IIII)I"⟩, prog_1_method_36_code, 6, (some .int), 1, 1, 8, 4, kc_TO_lay)
def mi_Sheets_faultOf : MI := (⟨"ThroughOthers$Sheets", "faultOf", "(III)I"⟩, prog_8_method_7_code, 4, (some .int), 1, 3, 6, 3, kc_Sheets_faultOf)
def mi_Sheets_put : MI := (⟨"ThroughOthers$Sheets", "put", "(III)V"⟩, prog_8_method_10_code, 4, none, 0, 3, 6, 3, kc_Sheets_put)
def mi_TO_get : MI := (⟨"ThroughOthers", "get", "(III)I"⟩, prog_1_method_37_code, 5, (some .int), 1, 1, 8, 3, kc_TO_get)
def mi_TO_copy : MI := (⟨"ThroughOthers", "copy", "(IIIII)I"⟩, prog_1_method_38_code, 6, (some .int), 1, 1, 8, 5, kc_TO_copy)
def mi_Sheets_spans : MI := (⟨"ThroughOthers$Sheets", "spans", "(III)Z"⟩, prog_8_method_8_code, 4, (some .boolean), 3, 3, 6, 3, kc_Sheets_spans)
def mi_TO_write : MI := (⟨"ThroughOthers", "write", "(II)I"⟩, prog_1_method_39_code, 5, (some .int), 1, 1, 8, 2, kc_TO_write)
def mi_TO_count : MI := (⟨"ThroughOthers", "count", "(I)I"⟩, prog_1_method_40_code, 2, (some .int), 1, 1, 8, 1, kc_TO_count)
def mi_Marks_signsOfAll : MI := (⟨"ThroughOthers$Marks", "signsOfAll", "()I"⟩, prog_4_method_4_code, 3, (some .int), 1, 10, 2, 0, kc_Marks_signsOfAll)
def mi_TO_digest : MI := (⟨"ThroughOthers", "digest", "()J"⟩, prog_1_method_41_code, 4, (some .long), 2, 1, 8, 0, kc_TO_digest)
def mi_TO_digestOfNet : MI := (⟨"ThroughOthers", "digestOfNet", "(J)J"⟩, prog_1_method_42_code, 6, (some .long), 2, 1, 8, 1, kc_TO_digestOfNet)
def mi_TO_digestOfRecords : MI := (⟨"ThroughOthers", "digestOfRecords", "(J)J"⟩, prog_1_method_43_code, 7, (some .long), 2, 1, 8, 1, kc_TO_digestOfRecords)
def mi_Mod_sheet : MI := (⟨"ThroughOthersModel", "sheet", "(III)I"⟩, prog_11_method_8_code, 5, (some .int), 1, 11, 9, 3, kc_Mod_sheet)
def mi_Mod_isSheet : MI := (⟨"ThroughOthersModel", "isSheet", "(I)Z"⟩, prog_11_method_7_code, 1, (some .boolean), 3, 11, 99, 1, kc_Mod_isSheet)
def mi_Mod_in : MI := (⟨"ThroughOthersModel", "in", "(JJJ)Z"⟩, prog_11_method_3_code, 6, (some .boolean), 3, 11, 99, 3, kc_Mod_in)
def mi_Mod_met : MI := (⟨"ThroughOthersModel", "met", "(I)I"⟩, prog_11_method_6_code, 2, (some .int), 1, 11, 9, 1, kc_Mod_met)
def mi_Mod_lose : MI := (⟨"ThroughOthersModel", "lose", "(I)I"⟩, prog_11_method_9_code, 2, (some .int), 1, 11, 9, 1, kc_Mod_lose)
def mi_Mod_lay : MI := (⟨"ThroughOthersModel", "lay", "(IIII)I"⟩, prog_11_method_12_code, 6, (some .int), 1, 11, 9, 4, kc_Mod_lay)
def mi_Mod_lacks : MI := (⟨"ThroughOthersModel", "lacks", "(III)I"⟩, prog_11_method_10_code, 4, (some .int), 1, 11, 9, 3, kc_Mod_lacks)
def mi_Mod_cut : MI := (⟨"ThroughOthersModel", "cut", "(II)I"⟩, prog_11_method_11_code, 2, (some .int), 1, 11, 99, 2, kc_Mod_cut)
def mi_Mod_get : MI := (⟨"ThroughOthersModel", "get", "(III)I"⟩, prog_11_method_13_code, 4, (some .int), 1, 11, 9, 3, kc_Mod_get)
def mi_Mod_copy : MI := (⟨"ThroughOthersModel", "copy", "(IIIII)I"⟩, prog_11_method_14_code, 7, (some .int), 1, 11, 9, 5, kc_Mod_copy)
def mi_Mod_persons : MI := (⟨"ThroughOthersModel", "persons", "(I)I"⟩, prog_11_method_21_code, 4, (some .int), 1, 11, 9, 1, kc_Mod_persons)
def mi_Mod_tie : MI := (⟨"ThroughOthersModel", "tie", "(IIZ)I"⟩, prog_11_method_23_code, 4, (some .int), 1, 11, 9, 3, kc_Mod_tie)
def mi_Mod_isPerson : MI := (⟨"ThroughOthersModel", "isPerson", "(I)Z"⟩, prog_11_method_20_code, 2, (some .boolean), 3, 11, 9, 1, kc_Mod_isPerson)
def mi_Mod_ties : MI := (⟨"ThroughOthersModel", "ties", "(IIZ)I"⟩, prog_11_method_22_code, 5, (some .int), 1, 11, 9, 3, kc_Mod_ties)
def mi_Mod_kind : MI := (⟨"ThroughOthersModel", "kind", "(II)I"⟩, prog_11_method_24_code, 4, (some .int), 1, 11, 9, 2, kc_Mod_kind)
def mi_Mod_isTwo : MI := (⟨"ThroughOthersModel", "isTwo", "(I)Z"⟩, prog_11_method_5_code, 1, (some .boolean), 3, 11, 99, 1, kc_Mod_isTwo)
def mi_Mod_read : MI := (⟨"ThroughOthersModel", "read", "(II)I"⟩, prog_11_method_25_code, 6, (some .int), 1, 11, 9, 2, kc_Mod_read)
def mi_Mod_about : MI := (⟨"ThroughOthersModel", "about", "(II)I"⟩, prog_11_method_28_code, 3, (some .int), 1, 11, 9, 2, kc_Mod_about)
def mi_Mod_degree : MI := (⟨"ThroughOthersModel", "degree", "(I)I"⟩, prog_11_method_26_code, 2, (some .int), 1, 11, 9, 1, kc_Mod_degree)
def mi_Mod_bitsOf : MI := (⟨"ThroughOthersModel", "bitsOf", "(I)I"⟩, prog_11_method_19_code, 3, (some .int), 1, 11, 99, 1, kc_Mod_bitsOf)
def mi_Mod_far : MI := (⟨"ThroughOthersModel", "far", "(II)I"⟩, prog_11_method_31_code, 4, (some .int), 1, 11, 9, 2, kc_Mod_far)
def mi_Mod_everybody : MI := (⟨"ThroughOthersModel", "everybody", "()I"⟩, prog_11_method_30_code, 1, (some .int), 1, 11, 9, 0, kc_Mod_everybody)
def mi_Mod_around : MI := (⟨"ThroughOthersModel", "around", "(III)I"⟩, prog_11_method_29_code, 8, (some .int), 1, 11, 9, 3, kc_Mod_around)
def mi_Mod_set : MI := (⟨"ThroughOthersModel", "set", "(II)I"⟩, prog_11_method_32_code, 5, (some .int), 1, 11, 9, 2, kc_Mod_set)
def mi_Mod_found : MI := (⟨"ThroughOthersModel", "found", "(II)J"⟩, prog_11_method_39_code, 3, (some .long), 2, 11, 9, 2, kc_Mod_found)
def mi_Mod_no : MI := (⟨"ThroughOthersModel", "no", "(I)J"⟩, prog_11_method_4_code, 1, (some .long), 2, 11, 99, 1, kc_Mod_no)
def mi_Mod_goesThrough : MI := (⟨"ThroughOthersModel", "goesThrough", "(I)V"⟩, prog_11_method_38_code, 5, none, 0, 11, 9, 1, kc_Mod_goesThrough)
def mi_Mod_stands : MI := (⟨"ThroughOthersModel", "stands", "(I)V"⟩, prog_11_method_36_code, 4, none, 0, 11, 9, 1, kc_Mod_stands)
def mi_Mod_takes : MI := (⟨"ThroughOthersModel", "takes", "(IJ)V"⟩, prog_11_method_35_code, 12, none, 0, 11, 9, 2, kc_Mod_takes)
def mi_Mod_countsBy : MI := (⟨"ThroughOthersModel", "countsBy", "(I)J"⟩, prog_11_method_33_code, 2, (some .long), 2, 11, 9, 1, kc_Mod_countsBy)
def mi_Mod_kindOnes : MI := (⟨"ThroughOthersModel", "kindOnes", "()I"⟩, prog_11_method_34_code, 3, (some .int), 1, 11, 9, 0, kc_Mod_kindOnes)
def mi_Mod_lowest : MI := (⟨"ThroughOthersModel", "lowest", "(I)I"⟩, prog_11_method_37_code, 2, (some .int), 1, 11, 99, 1, kc_Mod_lowest)
def mi_Mod_part : MI := (⟨"ThroughOthersModel", "part", "(JJI)J"⟩, prog_11_method_16_code, 5, (some .long), 2, 11, 99, 3, kc_Mod_part)
def mi_Mod_divisor : MI := (⟨"ThroughOthersModel", "divisor", "(JJ)J"⟩, prog_11_method_15_code, 10, (some .long), 2, 11, 99, 2, kc_Mod_divisor)
def mi_Mod_both : MI := (⟨"ThroughOthersModel", "both", "(III)J"⟩, prog_11_method_40_code, 4, (some .long), 2, 11, 9, 3, kc_Mod_both)
def mi_Mod_size : MI := (⟨"ThroughOthersModel", "size", "(II)J"⟩, prog_11_method_41_code, 3, (some .long), 2, 11, 9, 2, kc_Mod_size)
def mi_Mod_kinds : MI := (⟨"ThroughOthersModel", "kinds", "(II)J"⟩, prog_11_method_42_code, 3, (some .long), 2, 11, 9, 2, kc_Mod_kinds)
def mi_Mod_within : MI := (⟨"ThroughOthersModel", "within", "(II)J"⟩, prog_11_method_43_code, 3, (some .long), 2, 11, 9, 2, kc_Mod_within)
def mi_Mod_at : MI := (⟨"ThroughOthersModel", "at", "(III)J"⟩, prog_11_method_45_code, 6, (some .long), 2, 11, 9, 3, kc_Mod_at)
def mi_Mod_walks : MI := (⟨"ThroughOthersModel", "walks", "(I)J"⟩, prog_11_method_44_code, 7, (some .long), 2, 11, 9, 1, kc_Mod_walks)
def mi_Mod_lasting : MI := (⟨"ThroughOthersModel", "lasting", "(II)J"⟩, prog_11_method_46_code, 3, (some .long), 2, 11, 9, 2, kc_Mod_lasting)
def mi_Mod_degrees : MI := (⟨"ThroughOthersModel", "degrees", "()I"⟩, prog_11_method_27_code, 3, (some .int), 1, 11, 9, 0, kc_Mod_degrees)
def mi_Mod_strayed : MI := (⟨"ThroughOthersModel", "strayed", "(II)J"⟩, prog_11_method_47_code, 10, (some .long), 2, 11, 9, 2, kc_Mod_strayed)
def mi_Mod_came : MI := (⟨"ThroughOthersModel", "came", "(IIII)I"⟩, prog_11_method_49_code, 5, (some .int), 1, 11, 9, 4, kc_Mod_came)
def mi_Mod_isRecord : MI := (⟨"ThroughOthersModel", "isRecord", "(I)Z"⟩, prog_11_method_48_code, 2, (some .boolean), 3, 11, 9, 1, kc_Mod_isRecord)
def mi_Mod_takeBack : MI := (⟨"ThroughOthersModel", "takeBack", "(II)I"⟩, prog_11_method_50_code, 3, (some .int), 1, 11, 9, 2, kc_Mod_takeBack)
def mi_Mod_record : MI := (⟨"ThroughOthersModel", "record", "(II)I"⟩, prog_11_method_54_code, 3, (some .int), 1, 11, 9, 2, kc_Mod_record)
def mi_Mod_findCounts : MI := (⟨"ThroughOthersModel", "findCounts", "()V"⟩, prog_11_method_51_code, 3, none, 0, 11, 9, 0, kc_Mod_findCounts)
def mi_Mod_recordOf : MI := (⟨"ThroughOthersModel", "recordOf", "(II)I"⟩, prog_11_method_53_code, 3, (some .int), 1, 11, 9, 2, kc_Mod_recordOf)
def mi_Mod_share : MI := (⟨"ThroughOthersModel", "share", "(II)J"⟩, prog_11_method_60_code, 3, (some .long), 2, 11, 9, 2, kc_Mod_share)
def mi_Mod_shareOf : MI := (⟨"ThroughOthersModel", "shareOf", "(II)J"⟩, prog_11_method_59_code, 3, (some .long), 2, 11, 9, 2, kc_Mod_shareOf)
def mi_Mod_plainly : MI := (⟨"ThroughOthersModel", "plainly", "()V"⟩, prog_11_method_58_code, 2, none, 0, 11, 9, 0, kc_Mod_plainly)
def mi_Mod_isTaken : MI := (⟨"ThroughOthersModel", "isTaken", "(I)Z"⟩, prog_11_method_52_code, 2, (some .boolean), 3, 11, 9, 1, kc_Mod_isTaken)
def mi_Mod_byTies : MI := (⟨"ThroughOthersModel", "byTies", "(II)V"⟩, prog_11_method_55_code, 7, none, 0, 11, 9, 2, kc_Mod_byTies)
def mi_Mod_byBringing : MI := (⟨"ThroughOthersModel", "byBringing", "()V"⟩, prog_11_method_57_code, 10, none, 0, 11, 9, 0, kc_Mod_byBringing)
def mi_Mod_findBrought : MI := (⟨"ThroughOthersModel", "findBrought", "()V"⟩, prog_11_method_56_code, 3, none, 0, 11, 9, 0, kc_Mod_findBrought)
def mi_Mod_bounds : MI := (⟨"ThroughOthersModel", "bounds", "(III)J"⟩, prog_11_method_61_code, 4, (some .long), 2, 11, 9, 3, kc_Mod_bounds)
def mi_Mod_leaving : MI := (⟨"ThroughOthersModel", "leaving", "(II)J"⟩, prog_11_method_63_code, 9, (some .long), 2, 11, 9, 2, kc_Mod_leaving)
def mi_Mod_trees : MI := (⟨"ThroughOthersModel", "trees", "()I"⟩, prog_11_method_62_code, 3, (some .int), 1, 11, 9, 0, kc_Mod_trees)
def mi_Mod_isLess : MI := (⟨"ThroughOthersModel", "isLess", "(JJJJ)Z"⟩, prog_11_method_18_code, 21, (some .boolean), 3, 11, 99, 4, kc_Mod_isLess)
def mi_Mod_alike : MI := (⟨"ThroughOthersModel", "alike", "(I)I"⟩, prog_11_method_68_code, 2, (some .int), 1, 11, 9, 1, kc_Mod_alike)
def mi_Mod_alikeOf : MI := (⟨"ThroughOthersModel", "alikeOf", "(I)I"⟩, prog_11_method_67_code, 7, (some .int), 1, 11, 9, 1, kc_Mod_alikeOf)
def mi_Mod_findWho : MI := (⟨"ThroughOthersModel", "findWho", "()V"⟩, prog_11_method_64_code, 2, none, 0, 11, 9, 0, kc_Mod_findWho)
def mi_Mod_kindBits : MI := (⟨"ThroughOthersModel", "kindBits", "()I"⟩, prog_11_method_66_code, 3, (some .int), 1, 11, 9, 0, kc_Mod_kindBits)
def mi_Mod_likes : MI := (⟨"ThroughOthersModel", "likes", "(I)I"⟩, prog_11_method_65_code, 5, (some .int), 1, 11, 9, 1, kc_Mod_likes)
def mi_Mod_millionths : MI := (⟨"ThroughOthersModel", "millionths", "(JJ)I"⟩, prog_11_method_17_code, 4, (some .int), 1, 11, 99, 2, kc_Mod_millionths)
def mi_Mod_forgot : MI := (⟨"ThroughOthersModel", "forgot", "(II)J"⟩, prog_11_method_69_code, 14, (some .long), 2, 11, 9, 2, kc_Mod_forgot)
def mi_Mod_wave : MI := (⟨"ThroughOthersModel", "wave", "(I)I"⟩, prog_11_method_70_code, 4, (some .int), 1, 11, 9, 1, kc_Mod_wave)
def mi_Mod_type : MI := (⟨"ThroughOthersModel", "type", "(II)I"⟩, prog_11_method_71_code, 3, (some .int), 1, 11, 9, 2, kc_Mod_type)
def mi_Mod_wipe : MI := (⟨"ThroughOthersModel", "wipe", "(I)I"⟩, prog_11_method_72_code, 3, (some .int), 1, 11, 9, 1, kc_Mod_wipe)
def mi_Mod_clash : MI := (⟨"ThroughOthersModel", "clash", "(II)I"⟩, prog_11_method_74_code, 3, (some .int), 1, 11, 9, 2, kc_Mod_clash)
def mi_Mod_clashes : MI := (⟨"ThroughOthersModel", "clashes", "(II)Z"⟩, prog_11_method_73_code, 7, (some .boolean), 3, 11, 9, 2, kc_Mod_clashes)
def mi_Mod_least : MI := (⟨"ThroughOthersModel", "least", "()I"⟩, prog_11_method_78_code, 1, (some .int), 1, 11, 9, 0, kc_Mod_least)
def mi_Mod_leastNow : MI := (⟨"ThroughOthersModel", "leastNow", "()I"⟩, prog_11_method_77_code, 2, (some .int), 1, 11, 9, 0, kc_Mod_leastNow)
def mi_Mod_isEnough : MI := (⟨"ThroughOthersModel", "isEnough", "(I)Z"⟩, prog_11_method_76_code, 4, (some .boolean), 3, 11, 9, 1, kc_Mod_isEnough)
def mi_Mod_canBe : MI := (⟨"ThroughOthersModel", "canBe", "(II)Z"⟩, prog_11_method_75_code, 5, (some .boolean), 3, 11, 9, 2, kc_Mod_canBe)
def mi_Mod_ones : MI := (⟨"ThroughOthersModel", "ones", "(I)I"⟩, prog_11_method_79_code, 2, (some .int), 1, 11, 9, 1, kc_Mod_ones)
def mi_Mod_reach : MI := (⟨"ThroughOthersModel", "reach", "(I)I"⟩, prog_11_method_80_code, 5, (some .int), 1, 11, 9, 1, kc_Mod_reach)
def mi_Mod_parts : MI := (⟨"ThroughOthersModel", "parts", "(I)I"⟩, prog_11_method_83_code, 2, (some .int), 1, 11, 9, 1, kc_Mod_parts)
def mi_Mod_partsNow : MI := (⟨"ThroughOthersModel", "partsNow", "(I)I"⟩, prog_11_method_82_code, 5, (some .int), 1, 11, 9, 1, kc_Mod_partsNow)
def mi_Mod_partsOf : MI := (⟨"ThroughOthersModel", "partsOf", "(I)I"⟩, prog_11_method_81_code, 4, (some .int), 1, 11, 9, 1, kc_Mod_partsOf)
def mi_Mod_narrow : MI := (⟨"ThroughOthersModel", "narrow", "(I)J"⟩, prog_11_method_85_code, 2, (some .long), 2, 11, 9, 1, kc_Mod_narrow)
def mi_Mod_narrowOf : MI := (⟨"ThroughOthersModel", "narrowOf", "(I)J"⟩, prog_11_method_84_code, 10, (some .long), 2, 11, 9, 1, kc_Mod_narrowOf)
def mi_Mod_write : MI := (⟨"ThroughOthersModel", "write", "(II)I"⟩, prog_11_method_86_code, 5, (some .int), 1, 11, 9, 2, kc_Mod_write)
def mi_Mod_count : MI := (⟨"ThroughOthersModel", "count", "(I)I"⟩, prog_11_method_87_code, 4, (some .int), 1, 11, 9, 1, kc_Mod_count)
def mi_Mod_digest : MI := (⟨"ThroughOthersModel", "digest", "()J"⟩, prog_11_method_88_code, 5, (some .long), 2, 11, 9, 0, kc_Mod_digest)
def sd_ml : List MI := [mi_Arr_fillI, mi_TO_persons, mi_Net_resize, mi_Net_everyone, mi_Net_holds, mi_TO_tie, mi_Net_tied, mi_Net_join, mi_TO_kind, mi_TO_isBit, mi_Net_kindOf, mi_Net_turn, mi_TO_read, mi_Sheets_holds, mi_Sheets_isLost, mi_Sheets_finding, mi_Sheets_item, mi_TO_about, mi_Net_degree, mi_Int_bitCount, mi_TO_far, mi_Net_distance, mi_Net_spread, mi_TO_set, mi_TO_isSetting, mi_TO_isUpTo, mi_TO_setting, mi_Records_look, mi_TO_found, mi_TO_refusal, mi_Chains_follow, mi_Chains_begin, mi_Arr_fillL, mi_Chains_place, mi_Chains_goOn, mi_Chains_holding, mi_TO_fraction, mi_TO_greatestCommon, mi_TO_both, mi_TO_size, mi_Chains_ofSize, mi_TO_kinds, mi_Chains_ofKind, mi_TO_within, mi_Chains_near, mi_Chains_isNear, mi_Chains_weight, mi_Net_kindOnes, mi_TO_at, mi_Walk_go, mi_Walk_step, mi_TO_lasting, mi_Net_degrees, mi_TO_strayed, mi_Walk_apart, mi_Walk_mostApart, mi_TO_came, mi_Records_holds, mi_Records_isNextDay, mi_Records_tell, mi_TO_takeBack, mi_Records_untell, mi_TO_record, mi_Records_detail, mi_TO_share, mi_Shares_taken, mi_Records_isTaken, mi_TO_part, mi_Shares_byTies, mi_Shares_tells, mi_Shares_byBringing, mi_Shares_countBringing, mi_Shares_pull, mi_Shares_telling, mi_TO_bounds, mi_Shares_rounded, mi_TO_leaving, mi_Shares_treeToLeave, mi_Shares_isLess, mi_TO_alike, mi_Records_likes, mi_Records_counting, mi_Deals_chance, mi_Deals_gather, mi_Deals_alikeIn, mi_Deals_following, mi_Int_lowestOneBit, mi_Int_numberOfTrailingZeros, mi_TO_forgot, mi_Shares_ofWave, mi_Shares_wholeWave, mi_TO_wave, mi_Records_inWave, mi_TO_type, mi_Marks_isSign, mi_Marks_append, mi_TO_wipe, mi_TO_clash, mi_Marks_differ, mi_TO_least, mi_Marks_tellApart, mi_Marks_gather, mi_Marks_apartForSure, mi_Marks_deal, mi_TO_ones, mi_Marks_personOf, mi_TO_reach, mi_Net_fewestReaching, mi_TO_parts, mi_Net_pieces, mi_Net_bridges, mi_TO_narrow, mi_Net_narrowest, mi_Net_leadingOut, mi_TO_sheet, mi_Sheets_isForm, mi_Sheets_renew, mi_TO_lose, mi_TO_lay, mi_Sheets_faultOf, mi_Sheets_put, mi_TO_get, mi_TO_copy, mi_Sheets_spans, mi_TO_write, mi_TO_count, mi_Marks_signsOfAll, mi_TO_digest, mi_TO_digestOfNet, mi_TO_digestOfRecords, mi_Mod_sheet, mi_Mod_isSheet, mi_Mod_in, mi_Mod_met, mi_Mod_lose, mi_Mod_lay, mi_Mod_lacks, mi_Mod_cut, mi_Mod_get, mi_Mod_copy, mi_Mod_persons, mi_Mod_tie, mi_Mod_isPerson, mi_Mod_ties, mi_Mod_kind, mi_Mod_isTwo, mi_Mod_read, mi_Mod_about, mi_Mod_degree, mi_Mod_bitsOf, mi_Mod_far, mi_Mod_everybody, mi_Mod_around, mi_Mod_set, mi_Mod_found, mi_Mod_no, mi_Mod_goesThrough, mi_Mod_stands, mi_Mod_takes, mi_Mod_countsBy, mi_Mod_kindOnes, mi_Mod_lowest, mi_Mod_part, mi_Mod_divisor, mi_Mod_both, mi_Mod_size, mi_Mod_kinds, mi_Mod_within, mi_Mod_at, mi_Mod_walks, mi_Mod_lasting, mi_Mod_degrees, mi_Mod_strayed, mi_Mod_came, mi_Mod_isRecord, mi_Mod_takeBack, mi_Mod_record, mi_Mod_findCounts, mi_Mod_recordOf, mi_Mod_share, mi_Mod_shareOf, mi_Mod_plainly, mi_Mod_isTaken, mi_Mod_byTies, mi_Mod_byBringing, mi_Mod_findBrought, mi_Mod_bounds, mi_Mod_leaving, mi_Mod_trees, mi_Mod_isLess, mi_Mod_alike, mi_Mod_alikeOf, mi_Mod_findWho, mi_Mod_kindBits, mi_Mod_likes, mi_Mod_millionths, mi_Mod_forgot, mi_Mod_wave, mi_Mod_type, mi_Mod_wipe, mi_Mod_clash, mi_Mod_clashes, mi_Mod_least, mi_Mod_leastNow, mi_Mod_isEnough, mi_Mod_canBe, mi_Mod_ones, mi_Mod_reach, mi_Mod_parts, mi_Mod_partsNow, mi_Mod_partsOf, mi_Mod_narrow, mi_Mod_narrowOf, mi_Mod_write, mi_Mod_count, mi_Mod_digest]
set_option maxRecDepth 20000 in
theorem sd_mt : xm_mt = sd_ml.map (fun q => (mi_t q, mi_L q, mi_k q)) := rfl
def sd_lF : List (Nat × Nat × Nat) := [(1, 10, 512), (1, 21, 513), (1, 28, 514), (1, 35, 515), (1, 44, 516), (1, 51, 517), (1, 58, 518), (1, 65, 519), (1, 69, 520), (1, 73, 521), (1, 76, 193), (1, 113, 385), (1, 141, 268), (1, 154, 6), (1, 178, 450), (1, 182, 451), (1, 201, 265), (1, 204, 263), (1, 211, 260), (1, 266, 130), (1, 278, 264), (1, 309, 384), (1, 325, 386), (1, 335, 194), (1, 338, 387), (1, 381, 267), (2, 11, 192), (2, 15, 193), (2, 29, 194), (2, 36, 195), (3, 11, 384), (3, 15, 385), (3, 20, 386), (3, 29, 387), (5, 11, 256), (5, 15, 257), (5, 18, 258), (5, 21, 259), (5, 24, 260), (5, 27, 261), (5, 30, 262), (5, 33, 263), (5, 36, 264), (5, 40, 267), (5, 44, 265), (5, 47, 266), (5, 58, 268), (6, 9, 0), (6, 17, 1), (6, 21, 2), (6, 24, 3), (6, 28, 4), (6, 31, 5), (6, 34, 195), (6, 45, 193), (6, 58, 6), (6, 68, 192), (6, 78, 194), (7, 9, 448), (7, 17, 450), (7, 21, 449), (7, 24, 451), (7, 43, 193), (8, 9, 320), (8, 15, 321), (8, 19, 265), (8, 29, 257), (8, 32, 258), (8, 39, 262), (8, 52, 264), (8, 69, 256), (9, 9, 64), (9, 17, 65), (9, 21, 66), (9, 37, 67), (9, 47, 265), (9, 50, 264), (9, 54, 256), (9, 57, 257), (10, 9, 128), (10, 17, 129), (10, 21, 130), (10, 24, 131), (10, 27, 132), (10, 30, 133), (10, 33, 134), (10, 36, 265), (10, 53, 135), (10, 69, 264), (11, 7, 576), (11, 13, 577), (11, 16, 578), (11, 19, 579), (11, 22, 581), (11, 26, 582), (11, 29, 583), (11, 32, 584), (11, 35, 585), (11, 38, 586), (11, 41, 588), (11, 44, 589), (11, 47, 590), (11, 51, 591), (11, 54, 594), (11, 57, 595), (11, 60, 596), (11, 63, 597), (11, 66, 600), (11, 69, 601), (11, 72, 603), (11, 75, 604), (11, 78, 605), (11, 81, 606), (11, 84, 607), (11, 87, 608), (11, 90, 609), (11, 93, 610), (11, 96, 612), (11, 100, 619), (11, 103, 620), (11, 106, 622), (11, 109, 623), (11, 112, 624), (11, 121, 580), (11, 182, 587), (11, 194, 598), (11, 200, 599), (11, 203, 592), (11, 212, 593), (11, 240, 602), (11, 248, 611), (11, 257, 613), (11, 260, 614), (11, 268, 615), (11, 271, 616), (11, 274, 617), (11, 277, 618), (11, 304, 621)]
def sd_lV : List (Nat × Nat × Nat) := [(1, 79, 1124), (1, 83, 2149), (1, 87, 3177), (1, 91, 3692), (1, 98, 5221), (1, 102, 5736), (1, 106, 6853), (1, 107, 7365), (1, 110, 7877), (1, 123, 8393), (1, 126, 9317), (1, 129, 10857), (1, 132, 12553), (1, 135, 13573), (1, 138, 13956), (1, 148, 15368), (1, 151, 17926), (1, 166, 20486), (1, 169, 21510), (1, 172, 22534), (1, 175, 25320), (1, 183, 1633), (1, 187, 26725), (1, 190, 27874), (1, 194, 28386), (1, 197, 29317), (1, 198, 29829), (1, 207, 30353), (1, 214, 31368), (1, 217, 32393), (1, 220, 33446), (1, 226, 34986), (1, 230, 36006), (1, 233, 38570), (1, 236, 39589), (1, 239, 41089), (1, 242, 41601), (1, 245, 42017), (1, 248, 36512), (1, 251, 37030), (1, 254, 45734), (1, 257, 46246), (1, 260, 47237), (1, 269, 48713), (1, 272, 50249), (1, 275, 51265), (1, 282, 53829), (1, 285, 54885), (1, 288, 55909), (1, 291, 56417), (1, 294, 57441), (1, 299, 57957), (1, 305, 59596), (1, 312, 61133), (1, 316, 61644), (1, 322, 63181), (1, 341, 64577), (1, 348, 64261), (1, 350, 65798), (1, 354, 66310), (1, 357, 40709), (1, 360, 55557), (1, 363, 57094), (1, 366, 8969), (1, 369, 14602), (1, 372, 22282), (1, 375, 32009), (1, 378, 33034), (2, 19, 2149), (2, 32, 1633), (2, 39, 9317), (2, 42, 11373), (2, 49, 55909), (2, 52, 26725), (2, 55, 57957), (3, 33, 7365), (5, 50, 29317), (5, 54, 13956), (6, 37, 15876), (6, 41, 1633), (6, 48, 17420), (6, 81, 23049), (6, 85, 23558), (6, 89, 24161), (7, 28, 2149), (7, 34, 25824), (7, 47, 9317), (7, 51, 3177), (7, 61, 1633), (7, 65, 26725), (8, 25, 33925), (8, 35, 35497), (8, 56, 34986), (8, 60, 40105), (8, 72, 36512), (8, 75, 37030), (8, 79, 37542), (8, 86, 46246), (9, 24, 42529), (9, 28, 43045), (10, 46, 51776), (10, 49, 52289), (10, 62, 52813), (10, 73, 50249), (11, 132, 68389), (11, 136, 69933), (11, 153, 72997), (11, 156, 73517), (11, 166, 76069), (11, 169, 77601), (11, 173, 78125), (11, 187, 81702), (11, 191, 82209), (11, 206, 81192), (11, 215, 80676), (11, 225, 80164), (11, 234, 86822), (11, 237, 87841), (11, 243, 89381), (11, 251, 90912), (11, 254, 91433), (11, 263, 93477), (11, 280, 95008), (11, 283, 92960), (11, 286, 93992), (11, 290, 94496), (11, 293, 92458), (11, 297, 96545), (11, 307, 98592), (11, 310, 99105), (11, 313, 99621), (11, 320, 98085), (11, 333, 103209), (11, 337, 105257), (11, 340, 104741), (11, 343, 104225), (11, 348, 107813), (11, 351, 107301), (11, 354, 108838), (11, 361, 109861)]
def sd_lI : List (Nat × Nat × Nat) := [(1, 321, 40), (4, 264, 31), (4, 265, 9), (4, 266, 10), (4, 267, 11), (9, 44, 28), (9, 60, 29), (11, 144, 40)]
def sd_lL : List (Nat × Nat × Nat) := [(1, 297, 10), (1, 344, 11), (1, 346, 12), (1, 386, 2), (6, 66, 3), (6, 98, 4), (7, 32, 5), (7, 74, 6), (8, 42, 7), (8, 50, 8), (9, 45, 9), (11, 115, 2), (11, 124, 13), (11, 130, 6), (11, 149, 9), (11, 151, 14), (11, 176, 10), (11, 178, 15), (11, 180, 16), (11, 185, 18), (11, 198, 4), (11, 210, 17), (11, 232, 19), (11, 246, 20), (11, 266, 8), (11, 323, 21), (11, 325, 22), (11, 327, 23), (11, 329, 24), (11, 331, 25), (11, 346, 26), (11, 357, 11), (11, 359, 12)]
def sd_lS : List (Nat × Nat × Nat) := [(1, 117, 2), (1, 329, 0), (6, 92, 3), (6, 100, 1), (7, 55, 0), (7, 68, 3), (8, 44, 1), (8, 82, 4), (10, 40, 2), (10, 66, 1), (1, 95, 4618), (1, 144, 14859), (1, 158, 18451), (1, 162, 12818), (1, 223, 34323), (1, 263, 48138), (1, 302, 58890), (1, 388, 18959), (2, 23, 9738), (2, 46, 44042), (3, 23, 13), (6, 52, 16397), (6, 62, 16910), (6, 72, 9738), (7, 37, 16397), (8, 63, 13), (9, 32, 9738), (9, 41, 43530), (9, 61, 44042), (9, 64, 44554), (10, 56, 13), (11, 117, 67602), (11, 126, 67082), (11, 140, 70158), (11, 145, 83471), (11, 160, 74250), (11, 163, 76298), (11, 219, 82442), (11, 222, 79371), (11, 228, 82963), (11, 300, 96790), (11, 316, 99854)]
def sd_tb : List Cond := lw_tbl.filter goodWord
theorem sd_in {w : Cond} (h : w ∈ lw_tbl) (hg : goodWord w = true) : w ∈ sd_tb := List.mem_filter.mpr ⟨h, hg⟩
theorem sd_u {C : String} {T : u_T} {N : Nat} (h : ∀ w ∈ u_ws C T N, w ∈ lw_tbl) : ∀ w ∈ u_ws C T N, w ∈ sd_tb := by
  intro w hw
  refine sd_in (h w hw) ?_
  obtain ⟨k, -, rfl⟩ := List.mem_map.mp hw
  unfold u_lay
  split <;> rfl
theorem sd_link {α : Type} (l : List α) (f : α → Cond) (ps : List Nat) (h : l.map f = ps.filterMap (fun i => lw_tbl[i]?)) {q : α} (hq : q ∈ l) (hg : goodWord (f q) = true) : f q ∈ sd_tb := sd_in (xm_inp _ ps h _ (List.mem_map.mpr ⟨q, hq, rfl⟩)) hg
def sd_wdF (q : Nat × Nat × Nat) : Cond := .fieldLink (sd_on q.1) q.2.1 ((sd_cl (q.2.2 / 64)).2.1 (q.2.2 % 64)).1 ((sd_cl (q.2.2 / 64)).2.1 (q.2.2 % 64)).2.1 ((sd_cl (q.2.2 / 64)).2.1 (q.2.2 % 64)).2.2.1
theorem sd_lF_w : sd_lF.map sd_wdF = [310, 311, 312, 313, 314, 315, 316, 317, 318, 319, 84, 296, 189, 115, 141, 143, 184, 174, 169, 259, 179, 294, 298, 89, 300, 187, 81, 83, 87, 91, 293, 295, 297, 299, 159, 162, 165, 167, 168, 170, 171, 173, 175, 186, 180, 185, 188, 108, 109, 110, 111, 112, 113, 90, 85, 114, 82, 88, 138, 140, 139, 142, 86, 224, 225, 181, 163, 166, 172, 177, 161, 237, 238, 239, 240, 182, 176, 160, 164, 256, 257, 258, 260, 261, 262, 263, 183, 264, 178, 922, 923, 924, 925, 927, 928, 929, 930, 931, 932, 934, 935, 936, 937, 940, 941, 942, 943, 946, 947, 949, 950, 951, 952, 953, 954, 955, 956, 958, 965, 966, 968, 969, 970, 926, 933, 944, 945, 938, 939, 948, 957, 959, 960, 961, 962, 963, 964, 967].filterMap (fun i => lw_tbl[i]?) := by decide +kernel
theorem sd_lF_ok {o x t : Nat} (h : sd_lF.contains (o, x, t) = true) : Cond.fieldLink (sd_on o) x ((sd_cl (t / 64)).2.1 (t % 64)).1 ((sd_cl (t / 64)).2.1 (t % 64)).2.1 ((sd_cl (t / 64)).2.1 (t % 64)).2.2.1 ∈ sd_tb := sd_link sd_lF sd_wdF _ sd_lF_w (List.contains_iff_mem.mp h) rfl
def sd_wdI (q : Nat × Nat × Nat) : Cond := .constant (sd_on q.1) q.2.1 ((xm_at xm_kI q.2.2).getD 0)
theorem sd_lI_w : sd_lI.map sd_wdI = [871, 718, 419, 420, 421, 719, 711, 1105].filterMap (fun i => lw_tbl[i]?) := by decide +kernel
theorem sd_lI_t : sd_lI.all (fun q => (xm_at xm_kI q.2.2).isSome) = true := by decide +kernel
theorem sd_lI_ok {o x t : Nat} (h : sd_lI.contains (o, x, t) = true) : ∃ y, xm_at xm_kI t = some y ∧ Cond.constant (sd_on o) x y ∈ sd_tb := by
  have h1 := sd_link sd_lI sd_wdI _ sd_lI_w (List.contains_iff_mem.mp h) rfl
  have h2 := List.all_eq_true.mp sd_lI_t _ (List.contains_iff_mem.mp h)
  obtain ⟨y, hy⟩ := Option.isSome_iff_exists.mp h2
  refine ⟨y, hy, ?_⟩
  have h3 : Cond.constant (sd_on o) x ((xm_at xm_kI t).getD 0) ∈ sd_tb := h1
  rw [show xm_at xm_kI t = some y from hy] at h3
  exact h3
def sd_wdL (q : Nat × Nat × Nat) : Cond := .constantLong (sd_on q.1) q.2.1 ((xm_at xm_kL q.2.2).getD 0)
theorem sd_lL_w : sd_lL.map sd_wdL = [837, 897, 898, 460, 475, 538, 548, 584, 642, 670, 720, 1175, 1077, 1081, 1337, 1114, 1165, 1166, 1167, 1193, 1198, 1180, 1228, 1253, 1290, 1342, 1347, 1352, 1353, 1354, 1391, 1424, 1425].filterMap (fun i => lw_tbl[i]?) := by decide +kernel
theorem sd_lL_t : sd_lL.all (fun q => (xm_at xm_kL q.2.2).isSome) = true := by decide +kernel
theorem sd_lL_ok {o x t : Nat} (h : sd_lL.contains (o, x, t) = true) : ∃ y, xm_at xm_kL t = some y ∧ Cond.constantLong (sd_on o) x y ∈ sd_tb := by
  have h1 := sd_link sd_lL sd_wdL _ sd_lL_w (List.contains_iff_mem.mp h) rfl
  have h2 := List.all_eq_true.mp sd_lL_t _ (List.contains_iff_mem.mp h)
  obtain ⟨y, hy⟩ := Option.isSome_iff_exists.mp h2
  refine ⟨y, hy, ?_⟩
  have h3 : Cond.constantLong (sd_on o) x ((xm_at xm_kL t).getD 0) ∈ sd_tb := h1
  rw [show xm_at xm_kL t = some y from hy] at h3
  exact h3
def sd_rk : Nat → Nat
  | 3 => 1
  | k => k
def sd_yM (M : Nat) : MethodName := ((xm_at sd_ml M).map mi_y).getD ⟨"", "", ""⟩
def sd_wdV (q : Nat × Nat × Nat) : Cond := .methodLink (sd_on q.1) q.2.1 (sd_yM (q.2.2 / 512))
theorem sd_lV_w : sd_lV.map sd_wdV = [345, 353, 361, 366, 377, 381, 389, 393, 397, 404, 412, 426, 438, 445, 449, 461, 482, 500, 508, 516, 543, 563, 564, 573, 580, 589, 593, 597, 607, 615, 623, 634, 644, 666, 675, 687, 691, 695, 725, 726, 727, 738, 743, 754, 766, 775, 798, 806, 814, 819, 828, 838, 846, 858, 863, 876, 889, 899, 900, 907, 913, 914, 915, 904, 905, 906, 911, 912, 365, 349, 568, 430, 823, 832, 833, 862, 601, 602, 465, 476, 477, 520, 524, 531, 547, 549, 554, 555, 577, 578, 627, 638, 661, 679, 648, 653, 657, 731, 699, 703, 779, 784, 790, 783, 1082, 1094, 1119, 1123, 1142, 1153, 1157, 1189, 1194, 1185, 1181, 1176, 1229, 1237, 1249, 1262, 1266, 1282, 1295, 1278, 1286, 1291, 1274, 1307, 1322, 1326, 1330, 1318, 1363, 1379, 1375, 1371, 1400, 1396, 1408, 1426].filterMap (fun i => lw_tbl[i]?) := by decide +kernel
def sd_cV (t : Nat) : Bool := match xm_at sd_ml (t / 512) with
  | some q => decide (mi_c q = t / 32 % 16) && decide (t / 4 % 8 = mi_n q) && decide (t % 4 = sd_rk (mi_t q))
  | none => false
theorem sd_lV_t : sd_lV.all (fun q => sd_cV q.2.2) = true := by decide +kernel
theorem sd_lV_ok {o x t : Nat} (h : sd_lV.contains (o, x, t) = true) : ∃ q, sd_ml[t / 512]? = some q ∧ Cond.methodLink (sd_on o) x (mi_y q) ∈ sd_tb ∧ mi_c q = t / 32 % 16 ∧ t / 4 % 8 = mi_n q ∧ t % 4 = sd_rk (mi_t q) := by
  have h1 : Cond.methodLink (sd_on o) x (sd_yM (t / 512)) ∈ sd_tb := sd_link sd_lV sd_wdV _ sd_lV_w (List.contains_iff_mem.mp h) rfl
  have h2 : sd_cV t = true := List.all_eq_true.mp sd_lV_t _ (List.contains_iff_mem.mp h)
  unfold sd_cV at h2
  unfold sd_yM at h1
  cases hq : xm_at sd_ml (t / 512) with
  | none => rw [hq] at h2; cases h2
  | some q =>
    rw [hq] at h2 h1
    simp only [Bool.and_eq_true, decide_eq_true_eq] at h2
    exact ⟨q, by rw [← xm_at_eq]; exact hq, h1, h2.1.1, h2.1.2, h2.2⟩
def sd_wdS (q : Nat × Nat × Nat) : Cond := .methodLink (sd_on q.1) q.2.1 (match q.2.2 with
  | 0 => arraycopyName
  | 1 => Lib.Math.max.name
  | 2 => Lib.Math.min.name
  | 3 => Lib.MathLoose.abs_long.x
  | 4 => Lib.MathLoose.min_long.x
  | t + 5 => sd_yM (t / 512))
theorem sd_lS_w : sd_lS.map sd_wdS = [401, 880, 535, 528, 556, 579, 643, 735, 770, 788, 374, 457, 486, 442, 631, 751, 843, 489, 416, 818, 290, 469, 472, 481, 553, 652, 707, 708, 712, 715, 789, 1078, 1074, 1098, 1205, 1131, 1146, 1199, 1172, 1202, 1311, 1334].filterMap (fun i => lw_tbl[i]?) := by decide +kernel
def sd_cS : Nat → Bool
  | 0 => true
  | 1 => true
  | 2 => true
  | 3 => true
  | 4 => true
  | t + 5 => match xm_at sd_ml (t / 512) with
    | some q => decide (mi_c q = 99) && decide (t / 4 % 8 = mi_n q) && decide (t % 4 = sd_rk (mi_t q))
    | none => false
theorem sd_lS_t : sd_lS.all (fun q => sd_cS q.2.2) = true := by decide +kernel
theorem sd_lS_ok {o x t : Nat} (h : sd_lS.contains (o, x, t + 5) = true) : ∃ q, sd_ml[t / 512]? = some q ∧ Cond.methodLink (sd_on o) x (mi_y q) ∈ sd_tb ∧ mi_c q = 99 ∧ t / 4 % 8 = mi_n q ∧ t % 4 = sd_rk (mi_t q) := by
  have h1 : Cond.methodLink (sd_on o) x (sd_yM (t / 512)) ∈ sd_tb := sd_link sd_lS sd_wdS _ sd_lS_w (List.contains_iff_mem.mp h) rfl
  have h2 : sd_cS (t + 5) = true := List.all_eq_true.mp sd_lS_t _ (List.contains_iff_mem.mp h)
  have h2 : (match xm_at sd_ml (t / 512) with
    | some q => decide (mi_c q = 99) && decide (t / 4 % 8 = mi_n q) && decide (t % 4 = sd_rk (mi_t q))
    | none => false) = true := h2
  unfold sd_yM at h1
  cases hq : xm_at sd_ml (t / 512) with
  | none => rw [hq] at h2; cases h2
  | some q =>
    rw [hq] at h2 h1
    simp only [Bool.and_eq_true, decide_eq_true_eq] at h2
    exact ⟨q, by rw [← xm_at_eq]; exact hq, h1, h2.1.1, h2.1.2, h2.2⟩
theorem sd_lM_ok {o x : Nat} :
    (sd_lS.contains (o, x, 1) = true → Cond.methodLink (sd_on o) x Lib.Math.max.name ∈ sd_tb ∧ Cond.static Lib.Math.max.name ∈ sd_tb ∧ Cond.initialized "java/lang/Math" ∈ sd_tb ∧ Cond.code Lib.Math.max.name Lib.Math.max.code 2 (some .int) ∈ sd_tb) ∧
    (sd_lS.contains (o, x, 2) = true → Cond.methodLink (sd_on o) x Lib.Math.min.name ∈ sd_tb ∧ Cond.static Lib.Math.min.name ∈ sd_tb ∧ Cond.initialized "java/lang/Math" ∈ sd_tb ∧ Cond.code Lib.Math.min.name Lib.Math.min.code 2 (some .int) ∈ sd_tb) ∧
    (sd_lS.contains (o, x, 3) = true → Cond.methodLink (sd_on o) x Lib.MathLoose.abs_long.x ∈ sd_tb ∧ Cond.static Lib.MathLoose.abs_long.x ∈ sd_tb ∧ Cond.initialized "java/lang/Math" ∈ sd_tb ∧ Cond.code Lib.MathLoose.abs_long.x Lib.MathLoose.abs_long.code 2 (some .long) ∈ sd_tb) ∧
    (sd_lS.contains (o, x, 4) = true → Cond.methodLink (sd_on o) x Lib.MathLoose.min_long.x ∈ sd_tb ∧ Cond.static Lib.MathLoose.min_long.x ∈ sd_tb ∧ Cond.initialized "java/lang/Math" ∈ sd_tb ∧ Cond.code Lib.MathLoose.min_long.x Lib.MathLoose.min_long.code 4 (some .long) ∈ sd_tb) :=
  ⟨fun h => ⟨sd_link sd_lS sd_wdS _ sd_lS_w (List.contains_iff_mem.mp h) rfl, sd_in (List.mem_of_getElem? (i := 529) (by decide +kernel)) rfl, sd_in (List.mem_of_getElem? (i := 64) (by decide +kernel)) rfl, sd_in (List.mem_of_getElem? (i := 530) (by decide +kernel)) rfl⟩, fun h => ⟨sd_link sd_lS sd_wdS _ sd_lS_w (List.contains_iff_mem.mp h) rfl, sd_in (List.mem_of_getElem? (i := 402) (by decide +kernel)) rfl, sd_in (List.mem_of_getElem? (i := 64) (by decide +kernel)) rfl, sd_in (List.mem_of_getElem? (i := 403) (by decide +kernel)) rfl⟩, fun h => ⟨sd_link sd_lS sd_wdS _ sd_lS_w (List.contains_iff_mem.mp h) rfl, sd_in (List.mem_of_getElem? (i := 536) (by decide +kernel)) rfl, sd_in (List.mem_of_getElem? (i := 64) (by decide +kernel)) rfl, sd_in (List.mem_of_getElem? (i := 537) (by decide +kernel)) rfl⟩, fun h => ⟨sd_link sd_lS sd_wdS _ sd_lS_w (List.contains_iff_mem.mp h) rfl, sd_in (List.mem_of_getElem? (i := 736) (by decide +kernel)) rfl, sd_in (List.mem_of_getElem? (i := 64) (by decide +kernel)) rfl, sd_in (List.mem_of_getElem? (i := 737) (by decide +kernel)) rfl⟩⟩
theorem sd_lC_ok {o x : Nat} (h : sd_lS.contains (o, x, 0) = true) : Cond.methodLink (sd_on o) x arraycopyName ∈ sd_tb ∧ Cond.native arraycopyName ∈ sd_tb ∧ Cond.static arraycopyName ∈ sd_tb ∧ Cond.initialized "java/lang/System" ∈ sd_tb :=
  ⟨sd_link sd_lS sd_wdS _ sd_lS_w (List.contains_iff_mem.mp h) rfl, sd_in (List.mem_of_getElem? (i := 558) (by decide +kernel)) rfl, sd_in (List.mem_of_getElem? (i := 557) (by decide +kernel)) rfl, sd_in (List.mem_of_getElem? (i := 66) (by decide +kernel)) rfl⟩
def sd_fck (T : u_T) : Nat → List Nat → Bool
  | _, [] => true
  | k, f :: r => (match f with
    | 0 => decide ((T k).2.2.1 = "I") && decide ((T k).2.2.2 = false)
    | 1 => decide ((T k).2.2.1 = "J") && decide ((T k).2.2.2 = false)
    | _ => true) && sd_fck T (k + 1) r
theorem sd_fck_ok {T : u_T} : ∀ {fs : List Nat} {k0 k f : Nat}, sd_fck T k0 fs = true → xm_at fs k = some f → (f = 0 → (T (k0 + k)).2.2.1 = "I" ∧ (T (k0 + k)).2.2.2 = false) ∧ (f = 1 → (T (k0 + k)).2.2.1 = "J" ∧ (T (k0 + k)).2.2.2 = false)
  | [], _, _, _, _, h => by cases h
  | f :: r, k0, 0, _, hc, h => by
    cases h
    unfold sd_fck at hc
    rw [Bool.and_eq_true] at hc
    refine ⟨fun e => ?_, fun e => ?_⟩ <;> subst e <;> simpa using hc.1
  | f :: r, k0, k + 1, _, hc, h => by
    unfold sd_fck at hc
    rw [Bool.and_eq_true] at hc
    have := sd_fck_ok hc.2 h
    rw [show k0 + 1 + k = k0 + (k + 1) by omega] at this
    exact this
theorem sd_sh_t : xm_sh.all (fun s => match s with
  | .inl _ => true
  | .inr (ci, fs) => Nat.blt ci 10 && decide (fs.length = (sd_cl ci).2.2) && sd_fck (sd_cl ci).2.1 0 fs) = true := by decide +kernel
theorem sd_kf : ∀ ci, ci < 10 → xm_cl[ci]? = some (sd_cl ci) ∧ (∀ w ∈ u_ws (sd_cl ci).1 (sd_cl ci).2.1 (sd_cl ci).2.2, w ∈ sd_tb) ∧ (∃ ty0 : Nat → FieldType, ∀ k, k < (sd_cl ci).2.2 → parseFieldDescriptor ((sd_cl ci).2.1 k).2.2.1 = some (ty0 k)) ∧ (∀ a, a < (sd_cl ci).2.2 → ∀ b, b < (sd_cl ci).2.2 → a ≠ b → ((sd_cl ci).2.1 a).2.1 ≠ ((sd_cl ci).2.1 b).2.1)
  | 0, _ => ⟨rfl, sd_u in_0, ⟨ty_0, ty_0_ok⟩, nm_0⟩
  | 1, _ => ⟨rfl, sd_u in_1, ⟨ty_1, ty_1_ok⟩, nm_1⟩
  | 2, _ => ⟨rfl, sd_u in_2, ⟨ty_2, ty_2_ok⟩, nm_2⟩
  | 3, _ => ⟨rfl, sd_u in_3, ⟨ty_3, ty_3_ok⟩, nm_3⟩
  | 4, _ => ⟨rfl, sd_u in_4, ⟨ty_4, ty_4_ok⟩, nm_4⟩
  | 5, _ => ⟨rfl, sd_u in_5, ⟨ty_5, ty_5_ok⟩, nm_5⟩
  | 6, _ => ⟨rfl, sd_u in_6, ⟨ty_6, ty_6_ok⟩, nm_6⟩
  | 7, _ => ⟨rfl, sd_u in_7, ⟨ty_7, ty_7_ok⟩, nm_7⟩
  | 8, _ => ⟨rfl, sd_u in_8, ⟨ty_8, ty_8_ok⟩, nm_8⟩
  | 9, _ => ⟨rfl, sd_u in_9, ⟨ty_9, ty_9_ok⟩, nm_9⟩
  | n + 10, h => absurd h (by omega)
theorem sd_shp {b ci : Nat} {fs : List Nat} (h : xm_at xm_sh b = some (.inr (ci, fs))) : xm_cl[ci]? = some (sd_cl ci) ∧ (∀ w ∈ u_ws (sd_cl ci).1 (sd_cl ci).2.1 (sd_cl ci).2.2, w ∈ sd_tb) ∧ (∃ ty0 : Nat → FieldType, ∀ k, k < (sd_cl ci).2.2 → parseFieldDescriptor ((sd_cl ci).2.1 k).2.2.1 = some (ty0 k)) ∧ (∀ a, a < (sd_cl ci).2.2 → ∀ b, b < (sd_cl ci).2.2 → a ≠ b → ((sd_cl ci).2.1 a).2.1 ≠ ((sd_cl ci).2.1 b).2.1) ∧ fs.length = (sd_cl ci).2.2 ∧ ∀ k f, xm_at fs k = some f → (f = 0 → ((sd_cl ci).2.1 k).2.2.1 = "I" ∧ ((sd_cl ci).2.1 k).2.2.2 = false) ∧ (f = 1 → ((sd_cl ci).2.1 k).2.2.1 = "J" ∧ ((sd_cl ci).2.1 k).2.2.2 = false) := by
  rw [xm_at_eq] at h
  have h1 := List.all_eq_true.mp sd_sh_t _ (List.mem_of_getElem? h)
  simp only [Bool.and_eq_true, decide_eq_true_eq] at h1
  obtain ⟨a1, a2, a3, a4⟩ := sd_kf ci (Nat.le_of_ble_eq_true h1.1.1)
  refine ⟨a1, a2, a3, a4, h1.1.2, fun k f hf => ?_⟩
  have := sd_fck_ok h1.2 hf
  rw [Nat.zero_add] at this
  exact this
