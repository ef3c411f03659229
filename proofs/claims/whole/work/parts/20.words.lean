theorem gw_at {i : Nat} {v : Cond} (h : (k2_sels lw_privs)[i]? = some v) (hg : goodWord v = true) : v ∈ gw_G := List.mem_filter.mpr ⟨List.mem_append_left _ (List.mem_of_getElem? h), hg⟩
theorem gt_1 {i : Nat} {v : Cond} (h : tables_1_1[i]? = some v) (hg : goodWord v = true) : v ∈ gw_G := List.mem_filter.mpr ⟨List.mem_append_right _ (show v ∈ tables_1_1 ++ (tables_1_2 ++ (tables_1_3 ++ (tables_1_4 ++ (tables_1_5 ++ (tables_1_6 ++ (tables_1_7 ++ (tables_1_8))))))) from List.mem_append_left _ (List.mem_of_getElem? h)), hg⟩
theorem gv_1 {i : Nat} {v : Cond} (h : tables_1_1[i]? = some v) (hg : vm_xw v = true) : v ∈ gw_X := List.mem_filter.mpr ⟨List.mem_append_right _ (show v ∈ tables_1_1 ++ (tables_1_2 ++ (tables_1_3 ++ (tables_1_4 ++ (tables_1_5 ++ (tables_1_6 ++ (tables_1_7 ++ (tables_1_8))))))) from List.mem_append_left _ (List.mem_of_getElem? h)), hg⟩
theorem gt_2 {i : Nat} {v : Cond} (h : tables_1_2[i]? = some v) (hg : goodWord v = true) : v ∈ gw_G := List.mem_filter.mpr ⟨List.mem_append_right _ (show v ∈ tables_1_1 ++ (tables_1_2 ++ (tables_1_3 ++ (tables_1_4 ++ (tables_1_5 ++ (tables_1_6 ++ (tables_1_7 ++ (tables_1_8))))))) from List.mem_append_right _ (List.mem_append_left _ (List.mem_of_getElem? h))), hg⟩
theorem gv_2 {i : Nat} {v : Cond} (h : tables_1_2[i]? = some v) (hg : vm_xw v = true) : v ∈ gw_X := List.mem_filter.mpr ⟨List.mem_append_right _ (show v ∈ tables_1_1 ++ (tables_1_2 ++ (tables_1_3 ++ (tables_1_4 ++ (tables_1_5 ++ (tables_1_6 ++ (tables_1_7 ++ (tables_1_8))))))) from List.mem_append_right _ (List.mem_append_left _ (List.mem_of_getElem? h))), hg⟩
theorem gt_3 {i : Nat} {v : Cond} (h : tables_1_3[i]? = some v) (hg : goodWord v = true) : v ∈ gw_G := List.mem_filter.mpr ⟨List.mem_append_right _ (show v ∈ tables_1_1 ++ (tables_1_2 ++ (tables_1_3 ++ (tables_1_4 ++ (tables_1_5 ++ (tables_1_6 ++ (tables_1_7 ++ (tables_1_8))))))) from List.mem_append_right _ (List.mem_append_right _ (List.mem_append_left _ (List.mem_of_getElem? h)))), hg⟩
theorem gv_3 {i : Nat} {v : Cond} (h : tables_1_3[i]? = some v) (hg : vm_xw v = true) : v ∈ gw_X := List.mem_filter.mpr ⟨List.mem_append_right _ (show v ∈ tables_1_1 ++ (tables_1_2 ++ (tables_1_3 ++ (tables_1_4 ++ (tables_1_5 ++ (tables_1_6 ++ (tables_1_7 ++ (tables_1_8))))))) from List.mem_append_right _ (List.mem_append_right _ (List.mem_append_left _ (List.mem_of_getElem? h)))), hg⟩
theorem gt_4 {i : Nat} {v : Cond} (h : tables_1_4[i]? = some v) (hg : goodWord v = true) : v ∈ gw_G := List.mem_filter.mpr ⟨List.mem_append_right _ (show v ∈ tables_1_1 ++ (tables_1_2 ++ (tables_1_3 ++ (tables_1_4 ++ (tables_1_5 ++ (tables_1_6 ++ (tables_1_7 ++ (tables_1_8))))))) from List.mem_append_right _ (List.mem_append_right _ (List.mem_append_right _ (List.mem_append_left _ (List.mem_of_getElem? h))))), hg⟩
theorem gv_4 {i : Nat} {v : Cond} (h : tables_1_4[i]? = some v) (hg : vm_xw v = true) : v ∈ gw_X := List.mem_filter.mpr ⟨List.mem_append_right _ (show v ∈ tables_1_1 ++ (tables_1_2 ++ (tables_1_3 ++ (tables_1_4 ++ (tables_1_5 ++ (tables_1_6 ++ (tables_1_7 ++ (tables_1_8))))))) from List.mem_append_right _ (List.mem_append_right _ (List.mem_append_right _ (List.mem_append_left _ (List.mem_of_getElem? h))))), hg⟩
theorem gt_5 {i : Nat} {v : Cond} (h : tables_1_5[i]? = some v) (hg : goodWord v = true) : v ∈ gw_G := List.mem_filter.mpr ⟨List.mem_append_right _ (show v ∈ tables_1_1 ++ (tables_1_2 ++ (tables_1_3 ++ (tables_1_4 ++ (tables_1_5 ++ (tables_1_6 ++ (tables_1_7 ++ (tables_1_8))))))) from List.mem_append_right _ (List.mem_append_right _ (List.mem_append_right _ (List.mem_append_right _ (List.mem_append_left _ (List.mem_of_getElem? h)))))), hg⟩
theorem gv_5 {i : Nat} {v : Cond} (h : tables_1_5[i]? = some v) (hg : vm_xw v = true) : v ∈ gw_X := List.mem_filter.mpr ⟨List.mem_append_right _ (show v ∈ tables_1_1 ++ (tables_1_2 ++ (tables_1_3 ++ (tables_1_4 ++ (tables_1_5 ++ (tables_1_6 ++ (tables_1_7 ++ (tables_1_8))))))) from List.mem_append_right _ (List.mem_append_right _ (List.mem_append_right _ (List.mem_append_right _ (List.mem_append_left _ (List.mem_of_getElem? h)))))), hg⟩
theorem gt_6 {i : Nat} {v : Cond} (h : tables_1_6[i]? = some v) (hg : goodWord v = true) : v ∈ gw_G := List.mem_filter.mpr ⟨List.mem_append_right _ (show v ∈ tables_1_1 ++ (tables_1_2 ++ (tables_1_3 ++ (tables_1_4 ++ (tables_1_5 ++ (tables_1_6 ++ (tables_1_7 ++ (tables_1_8))))))) from List.mem_append_right _ (List.mem_append_right _ (List.mem_append_right _ (List.mem_append_right _ (List.mem_append_right _ (List.mem_append_left _ (List.mem_of_getElem? h))))))), hg⟩
theorem gv_6 {i : Nat} {v : Cond} (h : tables_1_6[i]? = some v) (hg : vm_xw v = true) : v ∈ gw_X := List.mem_filter.mpr ⟨List.mem_append_right _ (show v ∈ tables_1_1 ++ (tables_1_2 ++ (tables_1_3 ++ (tables_1_4 ++ (tables_1_5 ++ (tables_1_6 ++ (tables_1_7 ++ (tables_1_8))))))) from List.mem_append_right _ (List.mem_append_right _ (List.mem_append_right _ (List.mem_append_right _ (List.mem_append_right _ (List.mem_append_left _ (List.mem_of_getElem? h))))))), hg⟩
theorem gt_7 {i : Nat} {v : Cond} (h : tables_1_7[i]? = some v) (hg : goodWord v = true) : v ∈ gw_G := List.mem_filter.mpr ⟨List.mem_append_right _ (show v ∈ tables_1_1 ++ (tables_1_2 ++ (tables_1_3 ++ (tables_1_4 ++ (tables_1_5 ++ (tables_1_6 ++ (tables_1_7 ++ (tables_1_8))))))) from List.mem_append_right _ (List.mem_append_right _ (List.mem_append_right _ (List.mem_append_right _ (List.mem_append_right _ (List.mem_append_right _ (List.mem_append_left _ (List.mem_of_getElem? h)))))))), hg⟩
theorem gv_7 {i : Nat} {v : Cond} (h : tables_1_7[i]? = some v) (hg : vm_xw v = true) : v ∈ gw_X := List.mem_filter.mpr ⟨List.mem_append_right _ (show v ∈ tables_1_1 ++ (tables_1_2 ++ (tables_1_3 ++ (tables_1_4 ++ (tables_1_5 ++ (tables_1_6 ++ (tables_1_7 ++ (tables_1_8))))))) from List.mem_append_right _ (List.mem_append_right _ (List.mem_append_right _ (List.mem_append_right _ (List.mem_append_right _ (List.mem_append_right _ (List.mem_append_left _ (List.mem_of_getElem? h)))))))), hg⟩
theorem gt_8 {i : Nat} {v : Cond} (h : tables_1_8[i]? = some v) (hg : goodWord v = true) : v ∈ gw_G := List.mem_filter.mpr ⟨List.mem_append_right _ (show v ∈ tables_1_1 ++ (tables_1_2 ++ (tables_1_3 ++ (tables_1_4 ++ (tables_1_5 ++ (tables_1_6 ++ (tables_1_7 ++ (tables_1_8))))))) from List.mem_append_right _ (List.mem_append_right _ (List.mem_append_right _ (List.mem_append_right _ (List.mem_append_right _ (List.mem_append_right _ (List.mem_append_right _ ((List.mem_of_getElem? h))))))))), hg⟩
theorem gv_8 {i : Nat} {v : Cond} (h : tables_1_8[i]? = some v) (hg : vm_xw v = true) : v ∈ gw_X := List.mem_filter.mpr ⟨List.mem_append_right _ (show v ∈ tables_1_1 ++ (tables_1_2 ++ (tables_1_3 ++ (tables_1_4 ++ (tables_1_5 ++ (tables_1_6 ++ (tables_1_7 ++ (tables_1_8))))))) from List.mem_append_right _ (List.mem_append_right _ (List.mem_append_right _ (List.mem_append_right _ (List.mem_append_right _ (List.mem_append_right _ (List.mem_append_right _ ((List.mem_of_getElem? h))))))))), hg⟩
theorem gw_0 : Cond.selects "RepeatFree$Sizes" ⟨"RepeatFree$Sizes", "clear", "()V"⟩ ⟨"RepeatFree$Sizes", "clear", "()V"⟩ ∈ gw_G := gw_at (i := 0) (by decide +kernel) rfl
theorem gw_1 : Cond.selects "RepeatFree$Sizes" ⟨"RepeatFree$Sizes", "set", "(III)V"⟩ ⟨"RepeatFree$Sizes", "set", "(III)V"⟩ ∈ gw_G := gw_at (i := 1) (by decide +kernel) rfl
theorem gw_2 : Cond.selects "RepeatFree$Sizes" ⟨"RepeatFree$Sizes", "isAgainAt", "(LRepeatFree$Line;III)Z"⟩ ⟨"RepeatFree$Sizes", "isAgainAt", "(LRepeatFree$Line;III)Z"⟩ ∈ gw_G := gw_at (i := 2) (by decide +kernel) rfl
theorem gw_3 : Cond.selects "RepeatFree$Sizes" ⟨"RepeatFree$Sizes", "edge", "(I)I"⟩ ⟨"RepeatFree$Sizes", "edge", "(I)I"⟩ ∈ gw_G := gw_at (i := 3) (by decide +kernel) rfl
theorem gw_4 : Cond.selects "RepeatFree$Reader" ⟨"RepeatFree$Reader", "begin", "()V"⟩ ⟨"RepeatFree$Reader", "begin", "()V"⟩ ∈ gw_G := gw_at (i := 4) (by decide +kernel) rfl
theorem gw_5 : Cond.selects "RepeatFree$Reader" ⟨"RepeatFree$Reader", "takesKeyword", "(Ljava/lang/String;)Z"⟩ ⟨"RepeatFree$Reader", "takesKeyword", "(Ljava/lang/String;)Z"⟩ ∈ gw_G := gw_at (i := 5) (by decide +kernel) rfl
theorem gw_6 : Cond.selects "RepeatFree$Reader" ⟨"RepeatFree$Reader", "takesWord", "()Z"⟩ ⟨"RepeatFree$Reader", "takesWord", "()Z"⟩ ∈ gw_G := gw_at (i := 6) (by decide +kernel) rfl
theorem gw_7 : Cond.selects "RepeatFree$Reader" ⟨"RepeatFree$Reader", "skipBlanks", "()V"⟩ ⟨"RepeatFree$Reader", "skipBlanks", "()V"⟩ ∈ gw_G := gw_at (i := 7) (by decide +kernel) rfl
theorem gw_8 : Cond.selects "RepeatFree$Reader" ⟨"RepeatFree$Reader", "miss", "(I)Z"⟩ ⟨"RepeatFree$Reader", "miss", "(I)Z"⟩ ∈ gw_G := gw_at (i := 8) (by decide +kernel) rfl
theorem gw_9 : Cond.selects "RepeatFree$Reader" ⟨"RepeatFree$Reader", "isWord", "(Ljava/lang/String;)Z"⟩ ⟨"RepeatFree$Reader", "isWord", "(Ljava/lang/String;)Z"⟩ ∈ gw_G := gw_at (i := 9) (by decide +kernel) rfl
theorem gw_10 : Cond.selects "RepeatFree$Reader" ⟨"RepeatFree$Reader", "takesNumber", "(II)Z"⟩ ⟨"RepeatFree$Reader", "takesNumber", "(II)Z"⟩ ∈ gw_G := gw_at (i := 10) (by decide +kernel) rfl
theorem gw_11 : Cond.selects "RepeatFree$Reader" ⟨"RepeatFree$Reader", "takesSign", "(I)Z"⟩ ⟨"RepeatFree$Reader", "takesSign", "(I)Z"⟩ ∈ gw_G := gw_at (i := 11) (by decide +kernel) rfl
theorem gw_12 : Cond.selects "RepeatFree$Reader" ⟨"RepeatFree$Reader", "takesLine", "(LRepeatFree$Told;)Z"⟩ ⟨"RepeatFree$Reader", "takesLine", "(LRepeatFree$Told;)Z"⟩ ∈ gw_G := gw_at (i := 12) (by decide +kernel) rfl
theorem gw_13 : Cond.selects "RepeatFree$Reader" ⟨"RepeatFree$Reader", "takesLimit", "(LRepeatFree$Told;)Z"⟩ ⟨"RepeatFree$Reader", "takesLimit", "(LRepeatFree$Told;)Z"⟩ ∈ gw_G := gw_at (i := 13) (by decide +kernel) rfl
theorem gw_14 : Cond.selects "RepeatFree$Reader" ⟨"RepeatFree$Reader", "takesMap", "(LRepeatFree$Told;)Z"⟩ ⟨"RepeatFree$Reader", "takesMap", "(LRepeatFree$Told;)Z"⟩ ∈ gw_G := gw_at (i := 14) (by decide +kernel) rfl
theorem gw_15 : Cond.selects "RepeatFree$Reader" ⟨"RepeatFree$Reader", "takesNewName", "(LRepeatFree$Told;LRepeatFree$Name;)Z"⟩ ⟨"RepeatFree$Reader", "takesNewName", "(LRepeatFree$Told;LRepeatFree$Name;)Z"⟩ ∈ gw_G := gw_at (i := 15) (by decide +kernel) rfl
theorem gw_16 : Cond.selects "RepeatFree$Reader" ⟨"RepeatFree$Reader", "isReserved", "()Z"⟩ ⟨"RepeatFree$Reader", "isReserved", "()Z"⟩ ∈ gw_G := gw_at (i := 16) (by decide +kernel) rfl
theorem gw_17 : Cond.selects "RepeatFree$Reader" ⟨"RepeatFree$Reader", "takesPart", "(III)Z"⟩ ⟨"RepeatFree$Reader", "takesPart", "(III)Z"⟩ ∈ gw_G := gw_at (i := 17) (by decide +kernel) rfl
theorem gw_18 : Cond.selects "RepeatFree$Reader" ⟨"RepeatFree$Reader", "takesShape", "(LRepeatFree$Told;)Z"⟩ ⟨"RepeatFree$Reader", "takesShape", "(LRepeatFree$Told;)Z"⟩ ∈ gw_G := gw_at (i := 18) (by decide +kernel) rfl
theorem gw_19 : Cond.selects "RepeatFree$Shape" ⟨"RepeatFree$Shape", "needingOne", "()I"⟩ ⟨"RepeatFree$Shape", "needingOne", "()I"⟩ ∈ gw_G := gw_at (i := 19) (by decide +kernel) rfl
theorem gw_20 : Cond.selects "RepeatFree$Reader" ⟨"RepeatFree$Reader", "takesAvoid", "(LRepeatFree$Told;)Z"⟩ ⟨"RepeatFree$Reader", "takesAvoid", "(LRepeatFree$Told;)Z"⟩ ∈ gw_G := gw_at (i := 20) (by decide +kernel) rfl
theorem gw_22 : Cond.selects "RepeatFree" ⟨"RepeatFree", "become", "(LRepeatFree$Line;)V"⟩ ⟨"RepeatFree", "become", "(LRepeatFree$Line;)V"⟩ ∈ gw_G := gw_at (i := 22) (by decide +kernel) rfl
theorem gw_23 : Cond.selects "RepeatFree" ⟨"RepeatFree", "checkLetter", "(I)V"⟩ ⟨"RepeatFree", "checkLetter", "(I)V"⟩ ∈ gw_G := gw_at (i := 23) (by decide +kernel) rfl
theorem gw_24 : Cond.selects "RepeatFree" ⟨"RepeatFree", "checkWhat", "(II)V"⟩ ⟨"RepeatFree", "checkWhat", "(II)V"⟩ ∈ gw_G := gw_at (i := 24) (by decide +kernel) rfl
theorem gw_25 : Cond.selects "RepeatFree" ⟨"RepeatFree", "runSize", "(II)I"⟩ ⟨"RepeatFree", "runSize", "(II)I"⟩ ∈ gw_G := gw_at (i := 25) (by decide +kernel) rfl
theorem gw_26 : Cond.selects "RepeatFree" ⟨"RepeatFree", "checkRange", "(III)V"⟩ ⟨"RepeatFree", "checkRange", "(III)V"⟩ ∈ gw_G := gw_at (i := 26) (by decide +kernel) rfl
theorem gw_27 : Cond.selects "RepeatFree" ⟨"RepeatFree", "shapeOf", "(I)LRepeatFree$Shape;"⟩ ⟨"RepeatFree", "shapeOf", "(I)LRepeatFree$Shape;"⟩ ∈ gw_G := gw_at (i := 27) (by decide +kernel) rfl
theorem gw_28 : Cond.selects "RepeatFree$Sizes" ⟨"RepeatFree$Sizes", "leastZ", "(IIZ)I"⟩ ⟨"RepeatFree$Sizes", "leastZ", "(IIZ)I"⟩ ∈ gw_G := gw_at (i := 28) (by decide +kernel) rfl
theorem gw_29 : Cond.selects "RepeatFree$Sizes" ⟨"RepeatFree$Sizes", "fits", "(LRepeatFree$Line;LRepeatFree$Shape;IIII)Z"⟩ ⟨"RepeatFree$Sizes", "fits", "(LRepeatFree$Line;LRepeatFree$Shape;IIII)Z"⟩ ∈ gw_G := gw_at (i := 29) (by decide +kernel) rfl
theorem gw_30 : Cond.selects "RepeatFree" ⟨"RepeatFree", "becomeNth", "(II)I"⟩ ⟨"RepeatFree", "becomeNth", "(II)I"⟩ ∈ gw_G := gw_at (i := 30) (by decide +kernel) rfl
theorem gw_31 : Cond.selects "RepeatFree" ⟨"RepeatFree", "checkSearched", "()V"⟩ ⟨"RepeatFree", "checkSearched", "()V"⟩ ∈ gw_G := gw_at (i := 31) (by decide +kernel) rfl
theorem gw_32 : Cond.selects "RepeatFree" ⟨"RepeatFree", "howMany", "(I)I"⟩ ⟨"RepeatFree", "howMany", "(I)I"⟩ ∈ gw_G := gw_at (i := 32) (by decide +kernel) rfl
theorem gw_33 : Cond.selects "RepeatFree" ⟨"RepeatFree", "mapOf", "(I)LRepeatFree$Morph;"⟩ ⟨"RepeatFree", "mapOf", "(I)LRepeatFree$Morph;"⟩ ∈ gw_G := gw_at (i := 33) (by decide +kernel) rfl
theorem gw_34 : Cond.selects "RepeatFree" ⟨"RepeatFree", "tally", "(LRepeatFree$Morph;II)V"⟩ ⟨"RepeatFree", "tally", "(LRepeatFree$Morph;II)V"⟩ ∈ gw_G := gw_at (i := 34) (by decide +kernel) rfl
theorem gw_35 : Cond.selects "RepeatFree" ⟨"RepeatFree", "tallied", "(II)J"⟩ ⟨"RepeatFree", "tallied", "(II)J"⟩ ∈ gw_G := gw_at (i := 35) (by decide +kernel) rfl
theorem gw_36 : Cond.selects "RepeatFree" ⟨"RepeatFree", "breaker", "(LRepeatFree$Morph;I)I"⟩ ⟨"RepeatFree", "breaker", "(LRepeatFree$Morph;I)I"⟩ ∈ gw_G := gw_at (i := 36) (by decide +kernel) rfl
theorem gw_37 : Cond.selects "RepeatFree" ⟨"RepeatFree", "imageBreaks", "(LRepeatFree$Morph;LRepeatFree$Line;)Z"⟩ ⟨"RepeatFree", "imageBreaks", "(LRepeatFree$Morph;LRepeatFree$Line;)Z"⟩ ∈ gw_G := gw_at (i := 37) (by decide +kernel) rfl
theorem gw_38 : Cond.selects "RepeatFree$Shape" ⟨"RepeatFree$Shape", "sizeWithin", "(I)I"⟩ ⟨"RepeatFree$Shape", "sizeWithin", "(I)I"⟩ ∈ gw_G := gw_at (i := 38) (by decide +kernel) rfl
theorem gw_39 : Cond.selects "RepeatFree$Shape" ⟨"RepeatFree$Shape", "losesSome", "(II)Z"⟩ ⟨"RepeatFree$Shape", "losesSome", "(II)Z"⟩ ∈ gw_G := gw_at (i := 39) (by decide +kernel) rfl
theorem gw_40 : Cond.selects "RepeatFree$Morph" ⟨"RepeatFree$Morph", "agrees", "(III)Z"⟩ ⟨"RepeatFree$Morph", "agrees", "(III)Z"⟩ ∈ gw_G := gw_at (i := 40) (by decide +kernel) rfl
theorem gw_41 : Cond.selects "RepeatFree$Morph" ⟨"RepeatFree$Morph", "restBehind", "(III)J"⟩ ⟨"RepeatFree$Morph", "restBehind", "(III)J"⟩ ∈ gw_G := gw_at (i := 41) (by decide +kernel) rfl
theorem gw_42 : Cond.selects "RepeatFree$Morph" ⟨"RepeatFree$Morph", "restBit", "(II)J"⟩ ⟨"RepeatFree$Morph", "restBit", "(II)J"⟩ ∈ gw_G := gw_at (i := 42) (by decide +kernel) rfl
theorem gw_43 : Cond.selects "RepeatFree$Morph" ⟨"RepeatFree$Morph", "restsBehind", "(III)J"⟩ ⟨"RepeatFree$Morph", "restsBehind", "(III)J"⟩ ∈ gw_G := gw_at (i := 43) (by decide +kernel) rfl
theorem gw_44 : Cond.selects "RepeatFreeModel" ⟨"RepeatFreeModel", "begins", "()V"⟩ ⟨"RepeatFreeModel", "begins", "()V"⟩ ∈ gw_G := gw_at (i := 44) (by decide +kernel) rfl
theorem gw_45 : Cond.selects "RepeatFreeModel" ⟨"RepeatFreeModel", "blanks", "()V"⟩ ⟨"RepeatFreeModel", "blanks", "()V"⟩ ∈ gw_G := gw_at (i := 45) (by decide +kernel) rfl
theorem gw_46 : Cond.selects "RepeatFreeModel" ⟨"RepeatFreeModel", "isAt", "(II)Z"⟩ ⟨"RepeatFreeModel", "isAt", "(II)Z"⟩ ∈ gw_G := gw_at (i := 46) (by decide +kernel) rfl
theorem gw_47 : Cond.selects "RepeatFreeModel" ⟨"RepeatFreeModel", "hasFailed", "()Z"⟩ ⟨"RepeatFreeModel", "hasFailed", "()Z"⟩ ∈ gw_G := gw_at (i := 47) (by decide +kernel) rfl
theorem gw_48 : Cond.selects "RepeatFreeModel" ⟨"RepeatFreeModel", "line", "()V"⟩ ⟨"RepeatFreeModel", "line", "()V"⟩ ∈ gw_G := gw_at (i := 48) (by decide +kernel) rfl
theorem gw_49 : Cond.selects "RepeatFreeModel" ⟨"RepeatFreeModel", "takesWord", "(Ljava/lang/String;)Z"⟩ ⟨"RepeatFreeModel", "takesWord", "(Ljava/lang/String;)Z"⟩ ∈ gw_G := gw_at (i := 49) (by decide +kernel) rfl
theorem gw_50 : Cond.selects "RepeatFreeModel" ⟨"RepeatFreeModel", "isWord", "(Ljava/lang/String;)Z"⟩ ⟨"RepeatFreeModel", "isWord", "(Ljava/lang/String;)Z"⟩ ∈ gw_G := gw_at (i := 50) (by decide +kernel) rfl
theorem gw_51 : Cond.selects "RepeatFreeModel" ⟨"RepeatFreeModel", "wordMany", "()I"⟩ ⟨"RepeatFreeModel", "wordMany", "()I"⟩ ∈ gw_G := gw_at (i := 51) (by decide +kernel) rfl
theorem gw_52 : Cond.selects "RepeatFreeModel" ⟨"RepeatFreeModel", "number", "(II)I"⟩ ⟨"RepeatFreeModel", "number", "(II)I"⟩ ∈ gw_G := gw_at (i := 52) (by decide +kernel) rfl
theorem gw_53 : Cond.selects "RepeatFreeModel" ⟨"RepeatFreeModel", "fails", "()V"⟩ ⟨"RepeatFreeModel", "fails", "()V"⟩ ∈ gw_G := gw_at (i := 53) (by decide +kernel) rfl
theorem gw_54 : Cond.selects "RepeatFreeModel" ⟨"RepeatFreeModel", "limitLine", "()V"⟩ ⟨"RepeatFreeModel", "limitLine", "()V"⟩ ∈ gw_G := gw_at (i := 54) (by decide +kernel) rfl
theorem gw_55 : Cond.selects "RepeatFreeModel" ⟨"RepeatFreeModel", "asksWord", "(Ljava/lang/String;)V"⟩ ⟨"RepeatFreeModel", "asksWord", "(Ljava/lang/String;)V"⟩ ∈ gw_G := gw_at (i := 55) (by decide +kernel) rfl
theorem gw_56 : Cond.selects "RepeatFreeModel" ⟨"RepeatFreeModel", "mapLine", "()V"⟩ ⟨"RepeatFreeModel", "mapLine", "()V"⟩ ∈ gw_G := gw_at (i := 56) (by decide +kernel) rfl
theorem gw_57 : Cond.selects "RepeatFreeModel" ⟨"RepeatFreeModel", "freshName", "(I)V"⟩ ⟨"RepeatFreeModel", "freshName", "(I)V"⟩ ∈ gw_G := gw_at (i := 57) (by decide +kernel) rfl
theorem gw_58 : Cond.selects "RepeatFreeModel" ⟨"RepeatFreeModel", "isName", "()Z"⟩ ⟨"RepeatFreeModel", "isName", "()Z"⟩ ∈ gw_G := gw_at (i := 58) (by decide +kernel) rfl
theorem gw_59 : Cond.selects "RepeatFreeModel" ⟨"RepeatFreeModel", "named", "(II)I"⟩ ⟨"RepeatFreeModel", "named", "(II)I"⟩ ∈ gw_G := gw_at (i := 59) (by decide +kernel) rfl
theorem gw_60 : Cond.selects "RepeatFreeModel" ⟨"RepeatFreeModel", "letters", "(II[II)I"⟩ ⟨"RepeatFreeModel", "letters", "(II[II)I"⟩ ∈ gw_G := gw_at (i := 60) (by decide +kernel) rfl
theorem gw_61 : Cond.selects "RepeatFreeModel" ⟨"RepeatFreeModel", "patternLine", "()V"⟩ ⟨"RepeatFreeModel", "patternLine", "()V"⟩ ∈ gw_G := gw_at (i := 61) (by decide +kernel) rfl
theorem gw_62 : Cond.selects "RepeatFreeModel" ⟨"RepeatFreeModel", "avoidLine", "()V"⟩ ⟨"RepeatFreeModel", "avoidLine", "()V"⟩ ∈ gw_G := gw_at (i := 62) (by decide +kernel) rfl
theorem gw_63 : Cond.selects "RepeatFreeModel" ⟨"RepeatFreeModel", "asksSign", "(I)V"⟩ ⟨"RepeatFreeModel", "asksSign", "(I)V"⟩ ∈ gw_G := gw_at (i := 63) (by decide +kernel) rfl
theorem gw_64 : Cond.selects "RepeatFreeModel" ⟨"RepeatFreeModel", "throwsIf", "(ZI)Z"⟩ ⟨"RepeatFreeModel", "throwsIf", "(ZI)Z"⟩ ∈ gw_G := gw_at (i := 64) (by decide +kernel) rfl
theorem gw_65 : Cond.selects "RepeatFreeModel" ⟨"RepeatFreeModel", "becomes", "(I)V"⟩ ⟨"RepeatFreeModel", "becomes", "(I)V"⟩ ∈ gw_G := gw_at (i := 65) (by decide +kernel) rfl
theorem gw_66 : Cond.selects "RepeatFreeModel" ⟨"RepeatFreeModel", "laysAside", "()V"⟩ ⟨"RepeatFreeModel", "laysAside", "()V"⟩ ∈ gw_G := gw_at (i := 66) (by decide +kernel) rfl
theorem gw_67 : Cond.selects "RepeatFreeModel" ⟨"RepeatFreeModel", "noLetter", "(II)Z"⟩ ⟨"RepeatFreeModel", "noLetter", "(II)Z"⟩ ∈ gw_G := gw_at (i := 67) (by decide +kernel) rfl
theorem gw_68 : Cond.selects "RepeatFreeModel" ⟨"RepeatFreeModel", "isFree", "()Z"⟩ ⟨"RepeatFreeModel", "isFree", "()Z"⟩ ∈ gw_G := gw_at (i := 68) (by decide +kernel) rfl
theorem gw_69 : Cond.selects "RepeatFreeModel" ⟨"RepeatFreeModel", "freeOf", "([II)I"⟩ ⟨"RepeatFreeModel", "freeOf", "([II)I"⟩ ∈ gw_G := gw_at (i := 69) (by decide +kernel) rfl
theorem gw_70 : Cond.selects "RepeatFreeModel" ⟨"RepeatFreeModel", "goesOn", "([II)Z"⟩ ⟨"RepeatFreeModel", "goesOn", "([II)Z"⟩ ∈ gw_G := gw_at (i := 70) (by decide +kernel) rfl
theorem gw_71 : Cond.selects "RepeatFreeModel" ⟨"RepeatFreeModel", "isRepeated", "([II)Z"⟩ ⟨"RepeatFreeModel", "isRepeated", "([II)Z"⟩ ∈ gw_G := gw_at (i := 71) (by decide +kernel) rfl
theorem gw_72 : Cond.selects "RepeatFreeModel" ⟨"RepeatFreeModel", "isBeyond", "(II)Z"⟩ ⟨"RepeatFreeModel", "isBeyond", "(II)Z"⟩ ∈ gw_G := gw_at (i := 72) (by decide +kernel) rfl
theorem gw_73 : Cond.selects "RepeatFreeModel" ⟨"RepeatFreeModel", "endsBy", "([III)Z"⟩ ⟨"RepeatFreeModel", "endsBy", "([III)Z"⟩ ∈ gw_G := gw_at (i := 73) (by decide +kernel) rfl
theorem gw_74 : Cond.selects "RepeatFreeModel" ⟨"RepeatFreeModel", "firstSizes", "(II)Z"⟩ ⟨"RepeatFreeModel", "firstSizes", "(II)Z"⟩ ∈ gw_G := gw_at (i := 74) (by decide +kernel) rfl
theorem gw_75 : Cond.selects "RepeatFreeModel" ⟨"RepeatFreeModel", "hasLetter", "(II)Z"⟩ ⟨"RepeatFreeModel", "hasLetter", "(II)Z"⟩ ∈ gw_G := gw_at (i := 75) (by decide +kernel) rfl
theorem gw_76 : Cond.selects "RepeatFreeModel" ⟨"RepeatFreeModel", "letterOf", "(II)I"⟩ ⟨"RepeatFreeModel", "letterOf", "(II)I"⟩ ∈ gw_G := gw_at (i := 76) (by decide +kernel) rfl
theorem gw_77 : Cond.selects "RepeatFreeModel" ⟨"RepeatFreeModel", "longBy", "(I)I"⟩ ⟨"RepeatFreeModel", "longBy", "(I)I"⟩ ∈ gw_G := gw_at (i := 77) (by decide +kernel) rfl
theorem gw_78 : Cond.selects "RepeatFreeModel" ⟨"RepeatFreeModel", "fitsAt", "([III)Z"⟩ ⟨"RepeatFreeModel", "fitsAt", "([III)Z"⟩ ∈ gw_G := gw_at (i := 78) (by decide +kernel) rfl
theorem gw_79 : Cond.selects "RepeatFreeModel" ⟨"RepeatFreeModel", "nextSizes", "(II)Z"⟩ ⟨"RepeatFreeModel", "nextSizes", "(II)Z"⟩ ∈ gw_G := gw_at (i := 79) (by decide +kernel) rfl
theorem gw_80 : Cond.selects "RepeatFreeModel" ⟨"RepeatFreeModel", "endsAt", "()I"⟩ ⟨"RepeatFreeModel", "endsAt", "()I"⟩ ∈ gw_G := gw_at (i := 80) (by decide +kernel) rfl
theorem gw_81 : Cond.selects "RepeatFreeModel" ⟨"RepeatFreeModel", "laysGiven", "(I)V"⟩ ⟨"RepeatFreeModel", "laysGiven", "(I)V"⟩ ∈ gw_G := gw_at (i := 81) (by decide +kernel) rfl
theorem gw_82 : Cond.selects "RepeatFreeModel" ⟨"RepeatFreeModel", "periodOf", "(II)I"⟩ ⟨"RepeatFreeModel", "periodOf", "(II)I"⟩ ∈ gw_G := gw_at (i := 82) (by decide +kernel) rfl
theorem gw_83 : Cond.selects "RepeatFreeModel" ⟨"RepeatFreeModel", "runAt", "(II)I"⟩ ⟨"RepeatFreeModel", "runAt", "(II)I"⟩ ∈ gw_G := gw_at (i := 83) (by decide +kernel) rfl
theorem gw_84 : Cond.selects "RepeatFreeModel" ⟨"RepeatFreeModel", "areAlike", "(III)Z"⟩ ⟨"RepeatFreeModel", "areAlike", "(III)Z"⟩ ∈ gw_G := gw_at (i := 84) (by decide +kernel) rfl
theorem gw_85 : Cond.selects "RepeatFreeModel" ⟨"RepeatFreeModel", "startsSearch", "()V"⟩ ⟨"RepeatFreeModel", "startsSearch", "()V"⟩ ∈ gw_G := gw_at (i := 85) (by decide +kernel) rfl
theorem gw_86 : Cond.selects "RepeatFreeModel" ⟨"RepeatFreeModel", "searches", "(III)Z"⟩ ⟨"RepeatFreeModel", "searches", "(III)Z"⟩ ∈ gw_G := gw_at (i := 86) (by decide +kernel) rfl
theorem gw_87 : Cond.selects "RepeatFreeModel" ⟨"RepeatFreeModel", "meets", "(II)Z"⟩ ⟨"RepeatFreeModel", "meets", "(II)Z"⟩ ∈ gw_G := gw_at (i := 87) (by decide +kernel) rfl
theorem gw_88 : Cond.selects "RepeatFreeModel" ⟨"RepeatFreeModel", "isStuck", "(I)Z"⟩ ⟨"RepeatFreeModel", "isStuck", "(I)Z"⟩ ∈ gw_G := gw_at (i := 88) (by decide +kernel) rfl
theorem gw_89 : Cond.selects "RepeatFreeModel" ⟨"RepeatFreeModel", "isAheadOf", "(I)Z"⟩ ⟨"RepeatFreeModel", "isAheadOf", "(I)Z"⟩ ∈ gw_G := gw_at (i := 89) (by decide +kernel) rfl
theorem gw_90 : Cond.selects "RepeatFreeModel" ⟨"RepeatFreeModel", "doesBreak", "(I)Z"⟩ ⟨"RepeatFreeModel", "doesBreak", "(I)Z"⟩ ∈ gw_G := gw_at (i := 90) (by decide +kernel) rfl
theorem gw_91 : Cond.selects "RepeatFreeModel" ⟨"RepeatFreeModel", "images", "([III)I"⟩ ⟨"RepeatFreeModel", "images", "([III)I"⟩ ∈ gw_G := gw_at (i := 91) (by decide +kernel) rfl
theorem gw_92 : Cond.selects "RepeatFreeModel" ⟨"RepeatFreeModel", "longOf", "(II)I"⟩ ⟨"RepeatFreeModel", "longOf", "(II)I"⟩ ∈ gw_G := gw_at (i := 92) (by decide +kernel) rfl
theorem gw_93 : Cond.selects "RepeatFreeModel" ⟨"RepeatFreeModel", "imageOf", "(III)I"⟩ ⟨"RepeatFreeModel", "imageOf", "(III)I"⟩ ∈ gw_G := gw_at (i := 93) (by decide +kernel) rfl
theorem gw_94 : Cond.selects "RepeatFreeModel" ⟨"RepeatFreeModel", "becomesFound", "(I)V"⟩ ⟨"RepeatFreeModel", "becomesFound", "(I)V"⟩ ∈ gw_G := gw_at (i := 94) (by decide +kernel) rfl
theorem gw_95 : Cond.selects "RepeatFreeModel" ⟨"RepeatFreeModel", "takes", "()V"⟩ ⟨"RepeatFreeModel", "takes", "()V"⟩ ∈ gw_G := gw_at (i := 95) (by decide +kernel) rfl
theorem gw_96 : Cond.selects "RepeatFreeModel" ⟨"RepeatFreeModel", "countBy", "(II)I"⟩ ⟨"RepeatFreeModel", "countBy", "(II)I"⟩ ∈ gw_G := gw_at (i := 96) (by decide +kernel) rfl
theorem gw_97 : Cond.selects "RepeatFreeModel" ⟨"RepeatFreeModel", "noMap", "(I)Z"⟩ ⟨"RepeatFreeModel", "noMap", "(I)Z"⟩ ∈ gw_G := gw_at (i := 97) (by decide +kernel) rfl
theorem gw_98 : Cond.selects "RepeatFreeModel" ⟨"RepeatFreeModel", "noPower", "(III)Z"⟩ ⟨"RepeatFreeModel", "noPower", "(III)Z"⟩ ∈ gw_G := gw_at (i := 98) (by decide +kernel) rfl
theorem gw_99 : Cond.selects "RepeatFreeModel" ⟨"RepeatFreeModel", "laysCounts", "(II)V"⟩ ⟨"RepeatFreeModel", "laysCounts", "(II)V"⟩ ∈ gw_G := gw_at (i := 99) (by decide +kernel) rfl
theorem gw_100 : Cond.selects "RepeatFreeModel" ⟨"RepeatFreeModel", "lengthOf", "(II)J"⟩ ⟨"RepeatFreeModel", "lengthOf", "(II)J"⟩ ∈ gw_G := gw_at (i := 100) (by decide +kernel) rfl
theorem gw_101 : Cond.selects "RepeatFreeModel" ⟨"RepeatFreeModel", "placed", "(IIIJ)I"⟩ ⟨"RepeatFreeModel", "placed", "(IIIJ)I"⟩ ∈ gw_G := gw_at (i := 101) (by decide +kernel) rfl
theorem gw_102 : Cond.selects "RepeatFreeModel" ⟨"RepeatFreeModel", "laysBreak", "(II)V"⟩ ⟨"RepeatFreeModel", "laysBreak", "(II)V"⟩ ∈ gw_G := gw_at (i := 102) (by decide +kernel) rfl
theorem gw_103 : Cond.selects "RepeatFreeModel" ⟨"RepeatFreeModel", "doesGrow", "(II)Z"⟩ ⟨"RepeatFreeModel", "doesGrow", "(II)Z"⟩ ∈ gw_G := gw_at (i := 103) (by decide +kernel) rfl
theorem gw_104 : Cond.selects "RepeatFreeModel" ⟨"RepeatFreeModel", "against", "(IIII)Z"⟩ ⟨"RepeatFreeModel", "against", "(IIII)Z"⟩ ∈ gw_G := gw_at (i := 104) (by decide +kernel) rfl
theorem gw_105 : Cond.selects "RepeatFreeModel" ⟨"RepeatFreeModel", "noPattern", "(I)Z"⟩ ⟨"RepeatFreeModel", "noPattern", "(I)Z"⟩ ∈ gw_G := gw_at (i := 105) (by decide +kernel) rfl
theorem gw_106 : Cond.selects "RepeatFreeModel" ⟨"RepeatFreeModel", "cannotBe", "(II)Z"⟩ ⟨"RepeatFreeModel", "cannotBe", "(II)Z"⟩ ∈ gw_G := gw_at (i := 106) (by decide +kernel) rfl
theorem gw_107 : Cond.selects "RepeatFreeModel" ⟨"RepeatFreeModel", "lettersOf", "(I)I"⟩ ⟨"RepeatFreeModel", "lettersOf", "(I)I"⟩ ∈ gw_G := gw_at (i := 107) (by decide +kernel) rfl
theorem gw_108 : Cond.selects "RepeatFreeModel" ⟨"RepeatFreeModel", "isLoose", "(III)Z"⟩ ⟨"RepeatFreeModel", "isLoose", "(III)Z"⟩ ∈ gw_G := gw_at (i := 108) (by decide +kernel) rfl
theorem gw_109 : Cond.selects "RepeatFreeModel" ⟨"RepeatFreeModel", "endOf", "(I)I"⟩ ⟨"RepeatFreeModel", "endOf", "(I)I"⟩ ∈ gw_G := gw_at (i := 109) (by decide +kernel) rfl
set_option maxRecDepth 100000 in
theorem gw_110 : Cond.initialized "RepeatFreeLaw" ∈ gw_G := gt_1 (i := 0) rfl rfl
set_option maxRecDepth 100000 in
theorem gw_111 : Cond.initialized "RepeatFree" ∈ gw_G := gt_1 (i := 1) rfl rfl
set_option maxRecDepth 100000 in
theorem gw_112 : Cond.initialized "RepeatFree$Reader" ∈ gw_G := gt_1 (i := 2) rfl rfl
set_option maxRecDepth 100000 in
theorem gw_113 : Cond.initialized "RepeatFree$Tape" ∈ gw_G := gt_1 (i := 3) rfl rfl
set_option maxRecDepth 100000 in
theorem gw_114 : Cond.initialized "RepeatFree$Told" ∈ gw_G := gt_1 (i := 4) rfl rfl
set_option maxRecDepth 100000 in
theorem gw_115 : Cond.initialized "RepeatFree$Morph" ∈ gw_G := gt_1 (i := 5) rfl rfl
set_option maxRecDepth 100000 in
theorem gw_116 : Cond.initialized "RepeatFree$Name" ∈ gw_G := gt_1 (i := 6) rfl rfl
set_option maxRecDepth 100000 in
theorem gw_117 : Cond.initialized "RepeatFree$Shape" ∈ gw_G := gt_1 (i := 7) rfl rfl
set_option maxRecDepth 100000 in
theorem gw_118 : Cond.initialized "RepeatFree$Sizes" ∈ gw_G := gt_1 (i := 8) rfl rfl
set_option maxRecDepth 100000 in
theorem gw_119 : Cond.initialized "RepeatFree$Line" ∈ gw_G := gt_1 (i := 9) rfl rfl
set_option maxRecDepth 100000 in
theorem gw_120 : Cond.initialized "RepeatFree$Search" ∈ gw_G := gt_1 (i := 10) rfl rfl
set_option maxRecDepth 100000 in
theorem gw_121 : Cond.initialized "RepeatFree$Acts" ∈ gw_G := gt_1 (i := 11) rfl rfl
set_option maxRecDepth 100000 in
theorem gw_122 : Cond.initialized "RepeatFreeModel" ∈ gw_G := gt_1 (i := 12) rfl rfl
set_option maxRecDepth 100000 in
theorem gw_130 : Cond.initialized "java/lang/IllegalArgumentException" ∈ gw_G := gt_1 (i := 20) rfl rfl
set_option maxRecDepth 100000 in
theorem gw_131 : Cond.initialized "java/lang/Math" ∈ gw_G := gt_1 (i := 21) rfl rfl
set_option maxRecDepth 100000 in
theorem gw_132 : Cond.initialized "java/lang/IllegalStateException" ∈ gw_G := gt_1 (i := 22) rfl rfl
set_option maxRecDepth 100000 in
theorem gw_133 : Cond.initialized "java/util/NoSuchElementException" ∈ gw_G := gt_1 (i := 23) rfl rfl
set_option maxRecDepth 100000 in
theorem gw_134 : Cond.initialized "java/lang/IndexOutOfBoundsException" ∈ gw_G := gt_1 (i := 24) rfl rfl
set_option maxRecDepth 100000 in
theorem gw_135 : Cond.classLink "RepeatFreeLaw" 8 "RepeatFree" ∈ gw_G := gt_1 (i := 25) rfl rfl
set_option maxRecDepth 100000 in
theorem gw_136 : Cond.instantiable "RepeatFree" 10 ∈ gw_G := gt_1 (i := 26) rfl rfl
set_option maxRecDepth 100000 in
theorem gw_137 : Cond.methodLink "RepeatFreeLaw" 129 ⟨"RepeatFree", "<init>", "()V"⟩ ∈ gw_G := gt_1 (i := 27) rfl rfl
set_option maxRecDepth 100000 in
theorem gw_138 : Cond.instanceMethod ⟨"RepeatFree", "<init>", "()V"⟩ ∈ gw_G := gt_1 (i := 28) rfl rfl
set_option maxRecDepth 100000 in
theorem gw_139 : Cond.code yX10_init cX10_init 1 none ∈ gw_G := gt_1 (i := 29) rfl rfl
set_option maxRecDepth 100000 in
theorem gw_140 : Cond.methodLink "RepeatFree" 1 ⟨"java/lang/Object", "<init>", "()V"⟩ ∈ gw_G := gt_1 (i := 30) rfl rfl
set_option maxRecDepth 100000 in
theorem gw_141 : Cond.instanceMethod ⟨"java/lang/Object", "<init>", "()V"⟩ ∈ gw_G := gt_1 (i := 31) rfl rfl
set_option maxRecDepth 100000 in
theorem gw_142 : Cond.code Lib.objectInit ⟨#[0xb1]⟩ 1 none ∈ gw_G := gt_1 (i := 32) rfl rfl
set_option maxRecDepth 100000 in
theorem gw_143 : Cond.classLink "RepeatFree" 7 "RepeatFree$Reader" ∈ gw_G := gt_1 (i := 33) rfl rfl
set_option maxRecDepth 100000 in
theorem gw_144 : Cond.instantiable "RepeatFree$Reader" 5 ∈ gw_G := gt_1 (i := 34) rfl rfl
set_option maxRecDepth 100000 in
theorem gw_145 : Cond.methodLinkNest "RepeatFree" 9 ⟨"RepeatFree$Reader", "<init>", "()V"⟩ "RepeatFree" ∈ gw_X := gv_1 (i := 35) rfl rfl
set_option maxRecDepth 100000 in
theorem gw_146 : Cond.instanceMethod ⟨"RepeatFree$Reader", "<init>", "()V"⟩ ∈ gw_G := gt_1 (i := 36) rfl rfl
set_option maxRecDepth 100000 in
theorem gw_147 : Cond.code yX4_init cX4_init 1 none ∈ gw_G := gt_1 (i := 37) rfl rfl
set_option maxRecDepth 100000 in
theorem gw_148 : Cond.methodLink "RepeatFree$Reader" 3 ⟨"java/lang/Object", "<init>", "()V"⟩ ∈ gw_G := gt_1 (i := 38) rfl rfl
set_option maxRecDepth 100000 in
theorem gw_149 : Cond.classLink "RepeatFree$Reader" 9 "RepeatFree$Tape" ∈ gw_G := gt_1 (i := 39) rfl rfl
set_option maxRecDepth 100000 in
theorem gw_150 : Cond.instantiable "RepeatFree$Tape" 2 ∈ gw_G := gt_1 (i := 40) rfl rfl
set_option maxRecDepth 100000 in
theorem gw_151 : Cond.methodLinkNest "RepeatFree$Reader" 11 ⟨"RepeatFree$Tape", "<init>", "()V"⟩ "RepeatFree" ∈ gw_X := gv_1 (i := 41) rfl rfl
set_option maxRecDepth 100000 in
theorem gw_152 : Cond.instanceMethod ⟨"RepeatFree$Tape", "<init>", "()V"⟩ ∈ gw_G := gt_1 (i := 42) rfl rfl
set_option maxRecDepth 100000 in
theorem gw_153 : Cond.code yX8_init cX8_init 1 none ∈ gw_G := gt_1 (i := 43) rfl rfl
set_option maxRecDepth 100000 in
theorem gw_154 : Cond.methodLink "RepeatFree$Tape" 3 ⟨"java/lang/Object", "<init>", "()V"⟩ ∈ gw_G := gt_1 (i := 44) rfl rfl
set_option maxRecDepth 100000 in
theorem gw_155 : Cond.fieldLink "RepeatFree$Tape" 9 "RepeatFree$Tape" "bytes" "[I" ∈ gw_G := gt_1 (i := 45) rfl rfl
set_option maxRecDepth 100000 in
theorem gw_156 : Cond.fieldLink "RepeatFree$Tape" 15 "RepeatFree$Tape" "size" "I" ∈ gw_G := gt_1 (i := 46) rfl rfl
set_option maxRecDepth 100000 in
theorem gw_157 : Cond.fieldLinkNest "RepeatFree" 70 "RepeatFree$Tape" "size" "I" "RepeatFree" ∈ gw_X := gv_1 (i := 47) rfl rfl
set_option maxRecDepth 100000 in
theorem gw_158 : Cond.fieldLinkNest "RepeatFree$Reader" 58 "RepeatFree$Tape" "size" "I" "RepeatFree" ∈ gw_X := gv_1 (i := 48) rfl rfl
set_option maxRecDepth 100000 in
theorem gw_164 : Cond.arrayClass .int ∈ gw_G := gt_1 (i := 54) rfl rfl
set_option maxRecDepth 100000 in
theorem gw_165 : Cond.fieldLink "RepeatFree$Reader" 12 "RepeatFree$Reader" "tape" "LRepeatFree$Tape;" ∈ gw_G := gt_1 (i := 55) rfl rfl
set_option maxRecDepth 100000 in
theorem gw_166 : Cond.fieldLinkNest "RepeatFree" 66 "RepeatFree$Reader" "tape" "LRepeatFree$Tape;" "RepeatFree" ∈ gw_X := gv_1 (i := 56) rfl rfl
set_option maxRecDepth 100000 in
theorem gw_167 : Cond.fieldLink "RepeatFree$Reader" 18 "RepeatFree$Reader" "at" "I" ∈ gw_G := gt_1 (i := 57) rfl rfl
set_option maxRecDepth 100000 in
theorem gw_168 : Cond.fieldLink "RepeatFree$Reader" 22 "RepeatFree$Reader" "fault" "I" ∈ gw_G := gt_1 (i := 58) rfl rfl
set_option maxRecDepth 100000 in
theorem gw_169 : Cond.fieldLinkNest "RepeatFree" 103 "RepeatFree$Reader" "fault" "I" "RepeatFree" ∈ gw_X := gv_1 (i := 59) rfl rfl
set_option maxRecDepth 100000 in
theorem gw_170 : Cond.fieldLink "RepeatFree$Reader" 25 "RepeatFree$Reader" "start" "I" ∈ gw_G := gt_1 (i := 60) rfl rfl
set_option maxRecDepth 100000 in
theorem gw_171 : Cond.fieldLink "RepeatFree$Reader" 28 "RepeatFree$Reader" "number" "I" ∈ gw_G := gt_1 (i := 61) rfl rfl
set_option maxRecDepth 100000 in
theorem gw_183 : Cond.classLink "RepeatFree" 16 "RepeatFree$Told" ∈ gw_G := gt_1 (i := 73) rfl rfl
set_option maxRecDepth 100000 in
theorem gw_184 : Cond.instantiable "RepeatFree$Told" 8 ∈ gw_G := gt_1 (i := 74) rfl rfl
set_option maxRecDepth 100000 in
theorem gw_185 : Cond.methodLink "RepeatFree" 18 ⟨"RepeatFree$Told", "<init>", "()V"⟩ ∈ gw_G := gt_1 (i := 75) rfl rfl
set_option maxRecDepth 100000 in
theorem gw_186 : Cond.instanceMethod ⟨"RepeatFree$Told", "<init>", "()V"⟩ ∈ gw_G := gt_1 (i := 76) rfl rfl
set_option maxRecDepth 100000 in
theorem gw_187 : Cond.code yX9_init cX9_init 2 none ∈ gw_G := gt_1 (i := 77) rfl rfl
set_option maxRecDepth 100000 in
theorem gw_188 : Cond.methodLink "RepeatFree$Told" 3 ⟨"java/lang/Object", "<init>", "()V"⟩ ∈ gw_G := gt_1 (i := 78) rfl rfl
set_option maxRecDepth 100000 in
theorem gw_189 : Cond.classLink "RepeatFree$Told" 9 "RepeatFree$Morph" ∈ gw_G := gt_1 (i := 79) rfl rfl
set_option maxRecDepth 100000 in
theorem gw_191 : Cond.classLink "RepeatFree$Told" 17 "RepeatFree$Shape" ∈ gw_G := gt_1 (i := 81) rfl rfl
set_option maxRecDepth 100000 in
theorem gw_193 : Cond.instantiable "RepeatFree$Morph" 3 ∈ gw_G := gt_1 (i := 83) rfl rfl
set_option maxRecDepth 100000 in
theorem gw_194 : Cond.methodLinkNest "RepeatFree$Told" 42 ⟨"RepeatFree$Morph", "<init>", "()V"⟩ "RepeatFree" ∈ gw_X := gv_1 (i := 84) rfl rfl
set_option maxRecDepth 100000 in
theorem gw_195 : Cond.instanceMethod ⟨"RepeatFree$Morph", "<init>", "()V"⟩ ∈ gw_G := gt_1 (i := 85) rfl rfl
set_option maxRecDepth 100000 in
theorem gw_196 : Cond.code yX2_init cX2_init 1 none ∈ gw_G := gt_1 (i := 86) rfl rfl
set_option maxRecDepth 100000 in
theorem gw_197 : Cond.methodLink "RepeatFree$Morph" 3 ⟨"java/lang/Object", "<init>", "()V"⟩ ∈ gw_G := gt_1 (i := 87) rfl rfl
set_option maxRecDepth 100000 in
theorem gw_198 : Cond.classLink "RepeatFree$Morph" 9 "RepeatFree$Name" ∈ gw_G := gt_1 (i := 88) rfl rfl
set_option maxRecDepth 100000 in
theorem gw_199 : Cond.instantiable "RepeatFree$Name" 2 ∈ gw_G := gt_1 (i := 89) rfl rfl
set_option maxRecDepth 100000 in
theorem gw_200 : Cond.methodLinkNest "RepeatFree$Morph" 11 ⟨"RepeatFree$Name", "<init>", "()V"⟩ "RepeatFree" ∈ gw_X := gv_1 (i := 90) rfl rfl
set_option maxRecDepth 100000 in
theorem gw_201 : Cond.instanceMethod ⟨"RepeatFree$Name", "<init>", "()V"⟩ ∈ gw_G := gt_1 (i := 91) rfl rfl
set_option maxRecDepth 100000 in
theorem gw_202 : Cond.code yX3_init cX3_init 1 none ∈ gw_G := gt_1 (i := 92) rfl rfl
set_option maxRecDepth 100000 in
theorem gw_203 : Cond.methodLink "RepeatFree$Name" 3 ⟨"java/lang/Object", "<init>", "()V"⟩ ∈ gw_G := gt_1 (i := 93) rfl rfl
set_option maxRecDepth 100000 in
theorem gw_204 : Cond.fieldLink "RepeatFree$Name" 9 "RepeatFree$Name" "signs" "[I" ∈ gw_G := gt_1 (i := 94) rfl rfl
set_option maxRecDepth 100000 in
theorem gw_205 : Cond.fieldLink "RepeatFree$Name" 15 "RepeatFree$Name" "size" "I" ∈ gw_G := gt_1 (i := 95) rfl rfl
set_option maxRecDepth 100000 in
theorem gw_211 : Cond.classLink "RepeatFree$Morph" 18 "[[I" ∈ gw_G := gt_1 (i := 101) rfl rfl
set_option maxRecDepth 100000 in
theorem gw_213 : Cond.fieldLink "RepeatFree$Morph" 12 "RepeatFree$Morph" "name" "LRepeatFree$Name;" ∈ gw_G := gt_1 (i := 103) rfl rfl
set_option maxRecDepth 100000 in
theorem gw_214 : Cond.fieldLinkNest "RepeatFree$Told" 52 "RepeatFree$Morph" "name" "LRepeatFree$Name;" "RepeatFree" ∈ gw_X := gv_1 (i := 104) rfl rfl
set_option maxRecDepth 100000 in
theorem gw_215 : Cond.fieldLinkNest "RepeatFree$Reader" 158 "RepeatFree$Morph" "name" "LRepeatFree$Name;" "RepeatFree" ∈ gw_X := gv_1 (i := 105) rfl rfl
set_option maxRecDepth 100000 in
theorem gw_216 : Cond.fieldLink "RepeatFree$Morph" 20 "RepeatFree$Morph" "images" "[[I" ∈ gw_G := gt_1 (i := 106) rfl rfl
set_option maxRecDepth 100000 in
theorem gw_217 : Cond.fieldLink "RepeatFree$Morph" 23 "RepeatFree$Morph" "imageSizes" "[I" ∈ gw_G := gt_1 (i := 107) rfl rfl
set_option maxRecDepth 100000 in
theorem gw_225 : Cond.instantiable "RepeatFree$Shape" 5 ∈ gw_G := gt_1 (i := 115) rfl rfl
set_option maxRecDepth 100000 in
theorem gw_226 : Cond.methodLinkNest "RepeatFree$Told" 43 ⟨"RepeatFree$Shape", "<init>", "()V"⟩ "RepeatFree" ∈ gw_X := gv_1 (i := 116) rfl rfl
set_option maxRecDepth 100000 in
theorem gw_227 : Cond.instanceMethod ⟨"RepeatFree$Shape", "<init>", "()V"⟩ ∈ gw_G := gt_1 (i := 117) rfl rfl
set_option maxRecDepth 100000 in
theorem gw_228 : Cond.code yX6_init cX6_init 1 none ∈ gw_G := gt_1 (i := 118) rfl rfl
set_option maxRecDepth 100000 in
theorem gw_229 : Cond.methodLink "RepeatFree$Shape" 3 ⟨"java/lang/Object", "<init>", "()V"⟩ ∈ gw_G := gt_1 (i := 119) rfl rfl
set_option maxRecDepth 100000 in
theorem gw_230 : Cond.classLink "RepeatFree$Shape" 9 "RepeatFree$Name" ∈ gw_G := gt_1 (i := 120) rfl rfl
set_option maxRecDepth 100000 in
theorem gw_231 : Cond.methodLinkNest "RepeatFree$Shape" 11 ⟨"RepeatFree$Name", "<init>", "()V"⟩ "RepeatFree" ∈ gw_X := gv_1 (i := 121) rfl rfl
set_option maxRecDepth 100000 in
theorem gw_232 : Cond.fieldLink "RepeatFree$Shape" 12 "RepeatFree$Shape" "name" "LRepeatFree$Name;" ∈ gw_G := gt_1 (i := 122) rfl rfl
set_option maxRecDepth 100000 in
theorem gw_233 : Cond.fieldLinkNest "RepeatFree$Told" 66 "RepeatFree$Shape" "name" "LRepeatFree$Name;" "RepeatFree" ∈ gw_X := gv_1 (i := 123) rfl rfl
set_option maxRecDepth 100000 in
theorem gw_234 : Cond.fieldLinkNest "RepeatFree$Reader" 182 "RepeatFree$Shape" "name" "LRepeatFree$Name;" "RepeatFree" ∈ gw_X := gv_1 (i := 124) rfl rfl
set_option maxRecDepth 100000 in
theorem gw_235 : Cond.fieldLink "RepeatFree$Shape" 18 "RepeatFree$Shape" "parts" "[I" ∈ gw_G := gt_1 (i := 125) rfl rfl
set_option maxRecDepth 100000 in
theorem gw_236 : Cond.fieldLink "RepeatFree$Shape" 22 "RepeatFree$Shape" "size" "I" ∈ gw_G := gt_1 (i := 126) rfl rfl
set_option maxRecDepth 100000 in
theorem gw_237 : Cond.fieldLinkNest "RepeatFree$Sizes" 22 "RepeatFree$Shape" "size" "I" "RepeatFree" ∈ gw_X := gv_1 (i := 127) rfl rfl
set_option maxRecDepth 100000 in
theorem gw_238 : Cond.fieldLinkNest "RepeatFree" 195 "RepeatFree$Shape" "size" "I" "RepeatFree" ∈ gw_X := gv_1 (i := 128) rfl rfl
set_option maxRecDepth 100000 in
theorem gw_239 : Cond.fieldLink "RepeatFree$Shape" 26 "RepeatFree$Shape" "shortPlaces" "I" ∈ gw_G := gt_1 (i := 129) rfl rfl
set_option maxRecDepth 100000 in
theorem gw_240 : Cond.fieldLink "RepeatFree$Shape" 29 "RepeatFree$Shape" "avoided" "Z" ∈ gw_G := gt_1 (i := 130) rfl rfl
set_option maxRecDepth 100000 in
theorem gw_241 : Cond.fieldLinkNest "RepeatFree$Told" 67 "RepeatFree$Shape" "avoided" "Z" "RepeatFree" ∈ gw_X := gv_1 (i := 131) rfl rfl
set_option maxRecDepth 100000 in
theorem gw_242 : Cond.fieldLinkNest "RepeatFree$Line" 73 "RepeatFree$Shape" "avoided" "Z" "RepeatFree" ∈ gw_X := gv_1 (i := 132) rfl rfl
set_option maxRecDepth 100000 in
theorem gw_243 : Cond.fieldLinkNest "RepeatFree$Reader" 186 "RepeatFree$Shape" "avoided" "Z" "RepeatFree" ∈ gw_X := gv_1 (i := 133) rfl rfl
set_option maxRecDepth 100000 in
theorem gw_244 : Cond.fieldLinkNest "RepeatFree" 219 "RepeatFree$Shape" "avoided" "Z" "RepeatFree" ∈ gw_X := gv_1 (i := 134) rfl rfl
set_option maxRecDepth 100000 in
theorem gw_256 : Cond.fieldLink "RepeatFree$Told" 11 "RepeatFree$Told" "maps" "[LRepeatFree$Morph;" ∈ gw_G := gt_1 (i := 146) rfl rfl
set_option maxRecDepth 100000 in
theorem gw_257 : Cond.fieldLink "RepeatFree$Told" 19 "RepeatFree$Told" "shapes" "[LRepeatFree$Shape;" ∈ gw_G := gt_1 (i := 147) rfl rfl
set_option maxRecDepth 100000 in
theorem gw_258 : Cond.fieldLink "RepeatFree$Told" 23 "RepeatFree$Told" "letters" "I" ∈ gw_G := gt_1 (i := 148) rfl rfl
set_option maxRecDepth 100000 in
theorem gw_259 : Cond.fieldLinkNest "RepeatFree$Reader" 49 "RepeatFree$Told" "letters" "I" "RepeatFree" ∈ gw_X := gv_1 (i := 149) rfl rfl
set_option maxRecDepth 100000 in
theorem gw_260 : Cond.fieldLinkNest "RepeatFree$Search" 50 "RepeatFree$Told" "letters" "I" "RepeatFree" ∈ gw_X := gv_1 (i := 150) rfl rfl
set_option maxRecDepth 100000 in
theorem gw_261 : Cond.fieldLinkNest "RepeatFree" 91 "RepeatFree$Told" "letters" "I" "RepeatFree" ∈ gw_X := gv_1 (i := 151) rfl rfl
set_option maxRecDepth 100000 in
theorem gw_262 : Cond.fieldLink "RepeatFree$Told" 27 "RepeatFree$Told" "kind" "I" ∈ gw_G := gt_1 (i := 152) rfl rfl
set_option maxRecDepth 100000 in
theorem gw_263 : Cond.fieldLinkNest "RepeatFree$Reader" 107 "RepeatFree$Told" "kind" "I" "RepeatFree" ∈ gw_X := gv_1 (i := 153) rfl rfl
set_option maxRecDepth 100000 in
theorem gw_264 : Cond.fieldLinkNest "RepeatFree" 223 "RepeatFree$Told" "kind" "I" "RepeatFree" ∈ gw_X := gv_1 (i := 154) rfl rfl
set_option maxRecDepth 100000 in
theorem gw_265 : Cond.fieldLink "RepeatFree$Told" 30 "RepeatFree$Told" "above" "I" ∈ gw_G := gt_1 (i := 155) rfl rfl
set_option maxRecDepth 100000 in
theorem gw_266 : Cond.fieldLinkNest "RepeatFree" 326 "RepeatFree$Told" "above" "I" "RepeatFree" ∈ gw_X := gv_1 (i := 156) rfl rfl
set_option maxRecDepth 100000 in
theorem gw_267 : Cond.fieldLink "RepeatFree$Told" 33 "RepeatFree$Told" "below" "I" ∈ gw_G := gt_1 (i := 157) rfl rfl
set_option maxRecDepth 100000 in
theorem gw_268 : Cond.fieldLinkNest "RepeatFree" 329 "RepeatFree$Told" "below" "I" "RepeatFree" ∈ gw_X := gv_1 (i := 158) rfl rfl
set_option maxRecDepth 100000 in
theorem gw_269 : Cond.fieldLink "RepeatFree$Told" 36 "RepeatFree$Told" "mapCount" "I" ∈ gw_G := gt_1 (i := 159) rfl rfl
set_option maxRecDepth 100000 in
theorem gw_270 : Cond.fieldLinkNest "RepeatFree" 138 "RepeatFree$Told" "mapCount" "I" "RepeatFree" ∈ gw_X := gv_1 (i := 160) rfl rfl
set_option maxRecDepth 100000 in
theorem gw_271 : Cond.fieldLinkNest "RepeatFree$Reader" 151 "RepeatFree$Told" "mapCount" "I" "RepeatFree" ∈ gw_X := gv_1 (i := 161) rfl rfl
set_option maxRecDepth 100000 in
theorem gw_272 : Cond.fieldLink "RepeatFree$Told" 39 "RepeatFree$Told" "shapeCount" "I" ∈ gw_G := gt_1 (i := 162) rfl rfl
set_option maxRecDepth 100000 in
theorem gw_273 : Cond.fieldLinkNest "RepeatFree$Line" 66 "RepeatFree$Told" "shapeCount" "I" "RepeatFree" ∈ gw_X := gv_1 (i := 163) rfl rfl
set_option maxRecDepth 100000 in
theorem gw_274 : Cond.fieldLinkNest "RepeatFree" 148 "RepeatFree$Told" "shapeCount" "I" "RepeatFree" ∈ gw_X := gv_1 (i := 164) rfl rfl
set_option maxRecDepth 100000 in
theorem gw_275 : Cond.fieldLinkNest "RepeatFree$Reader" 175 "RepeatFree$Told" "shapeCount" "I" "RepeatFree" ∈ gw_X := gv_1 (i := 165) rfl rfl
set_option maxRecDepth 100000 in
theorem gw_293 : Cond.classLink "RepeatFree" 26 "RepeatFree$Sizes" ∈ gw_G := gt_1 (i := 183) rfl rfl
set_option maxRecDepth 100000 in
theorem gw_294 : Cond.instantiable "RepeatFree$Sizes" 2 ∈ gw_G := gt_1 (i := 184) rfl rfl
set_option maxRecDepth 100000 in
theorem gw_295 : Cond.methodLinkNest "RepeatFree" 28 ⟨"RepeatFree$Sizes", "<init>", "()V"⟩ "RepeatFree" ∈ gw_X := gv_1 (i := 185) rfl rfl
set_option maxRecDepth 100000 in
theorem gw_296 : Cond.instanceMethod ⟨"RepeatFree$Sizes", "<init>", "()V"⟩ ∈ gw_G := gt_1 (i := 186) rfl rfl
set_option maxRecDepth 100000 in
theorem gw_297 : Cond.code yX7_init cX7_init 1 none ∈ gw_G := gt_1 (i := 187) rfl rfl
set_option maxRecDepth 100000 in
theorem gw_298 : Cond.methodLink "RepeatFree$Sizes" 3 ⟨"java/lang/Object", "<init>", "()V"⟩ ∈ gw_G := gt_1 (i := 188) rfl rfl
set_option maxRecDepth 100000 in
theorem gw_299 : Cond.fieldLink "RepeatFree$Sizes" 9 "RepeatFree$Sizes" "chosen" "[I" ∈ gw_G := gt_1 (i := 189) rfl rfl
set_option maxRecDepth 100000 in
theorem gw_300 : Cond.fieldLink "RepeatFree$Sizes" 15 "RepeatFree$Sizes" "edges" "[I" ∈ gw_G := gt_1 (i := 190) rfl rfl
set_option maxRecDepth 100000 in
theorem gw_306 : Cond.classLink "RepeatFree" 33 "RepeatFree$Line" ∈ gw_G := gt_1 (i := 196) rfl rfl
set_option maxRecDepth 100000 in
theorem gw_307 : Cond.instantiable "RepeatFree$Line" 5 ∈ gw_G := gt_1 (i := 197) rfl rfl
set_option maxRecDepth 100000 in
theorem gw_308 : Cond.methodLinkNest "RepeatFree" 35 ⟨"RepeatFree$Line", "<init>", "()V"⟩ "RepeatFree" ∈ gw_X := gv_1 (i := 198) rfl rfl
set_option maxRecDepth 100000 in
theorem gw_309 : Cond.instanceMethod ⟨"RepeatFree$Line", "<init>", "()V"⟩ ∈ gw_G := gt_1 (i := 199) rfl rfl
set_option maxRecDepth 100000 in
theorem gw_310 : Cond.code yX1_init cX1_init 1 none ∈ gw_G := gt_1 (i := 200) rfl rfl
set_option maxRecDepth 100000 in
theorem gw_311 : Cond.methodLink "RepeatFree$Line" 3 ⟨"java/lang/Object", "<init>", "()V"⟩ ∈ gw_G := gt_1 (i := 201) rfl rfl
set_option maxRecDepth 100000 in
theorem gw_312 : Cond.classLink "RepeatFree$Line" 15 "[[I" ∈ gw_G := gt_1 (i := 202) rfl rfl
set_option maxRecDepth 100000 in
theorem gw_313 : Cond.classLink "RepeatFree$Line" 23 "RepeatFree$Sizes" ∈ gw_G := gt_1 (i := 203) rfl rfl
set_option maxRecDepth 100000 in
theorem gw_314 : Cond.methodLinkNest "RepeatFree$Line" 25 ⟨"RepeatFree$Sizes", "<init>", "()V"⟩ "RepeatFree" ∈ gw_X := gv_1 (i := 204) rfl rfl
set_option maxRecDepth 100000 in
theorem gw_315 : Cond.fieldLink "RepeatFree$Line" 9 "RepeatFree$Line" "letters" "[I" ∈ gw_G := gt_1 (i := 205) rfl rfl
set_option maxRecDepth 100000 in
theorem gw_316 : Cond.fieldLink "RepeatFree$Line" 17 "RepeatFree$Line" "same" "[[I" ∈ gw_G := gt_1 (i := 206) rfl rfl
set_option maxRecDepth 100000 in
theorem gw_317 : Cond.fieldLink "RepeatFree$Line" 20 "RepeatFree$Line" "twice" "[I" ∈ gw_G := gt_1 (i := 207) rfl rfl
set_option maxRecDepth 100000 in
theorem gw_318 : Cond.fieldLink "RepeatFree$Line" 26 "RepeatFree$Line" "sizes" "LRepeatFree$Sizes;" ∈ gw_G := gt_1 (i := 208) rfl rfl
set_option maxRecDepth 100000 in
theorem gw_319 : Cond.fieldLink "RepeatFree$Line" 30 "RepeatFree$Line" "size" "I" ∈ gw_G := gt_1 (i := 209) rfl rfl
set_option maxRecDepth 100000 in
theorem gw_320 : Cond.fieldLinkNest "RepeatFree$Acts" 27 "RepeatFree$Line" "size" "I" "RepeatFree" ∈ gw_X := gv_1 (i := 210) rfl rfl
set_option maxRecDepth 100000 in
theorem gw_321 : Cond.fieldLinkNest "RepeatFree$Reader" 74 "RepeatFree$Line" "size" "I" "RepeatFree" ∈ gw_X := gv_1 (i := 211) rfl rfl
set_option maxRecDepth 100000 in
theorem gw_322 : Cond.fieldLinkNest "RepeatFree$Search" 42 "RepeatFree$Line" "size" "I" "RepeatFree" ∈ gw_X := gv_1 (i := 212) rfl rfl
set_option maxRecDepth 100000 in
theorem gw_323 : Cond.fieldLinkNest "RepeatFree" 102 "RepeatFree$Line" "size" "I" "RepeatFree" ∈ gw_X := gv_1 (i := 213) rfl rfl
set_option maxRecDepth 100000 in
theorem gw_324 : Cond.fieldLinkNest "RepeatFree$Sizes" 46 "RepeatFree$Line" "size" "I" "RepeatFree" ∈ gw_X := gv_1 (i := 214) rfl rfl
set_option maxRecDepth 100000 in
theorem gw_325 : Cond.fieldLinkNest "RepeatFree$Morph" 42 "RepeatFree$Line" "size" "I" "RepeatFree" ∈ gw_X := gv_1 (i := 215) rfl rfl
set_option maxRecDepth 100000 in
theorem gw_337 : Cond.classLink "RepeatFree" 43 "RepeatFree$Search" ∈ gw_G := gt_1 (i := 227) rfl rfl
set_option maxRecDepth 100000 in
theorem gw_338 : Cond.instantiable "RepeatFree$Search" 7 ∈ gw_G := gt_1 (i := 228) rfl rfl
set_option maxRecDepth 100000 in
theorem gw_339 : Cond.methodLinkNest "RepeatFree" 45 ⟨"RepeatFree$Search", "<init>", "()V"⟩ "RepeatFree" ∈ gw_X := gv_1 (i := 229) rfl rfl
set_option maxRecDepth 100000 in
theorem gw_340 : Cond.instanceMethod ⟨"RepeatFree$Search", "<init>", "()V"⟩ ∈ gw_G := gt_1 (i := 230) rfl rfl
set_option maxRecDepth 100000 in
theorem gw_341 : Cond.code yX5_init cX5_init 1 none ∈ gw_G := gt_1 (i := 231) rfl rfl
set_option maxRecDepth 100000 in
theorem gw_342 : Cond.methodLink "RepeatFree$Search" 3 ⟨"java/lang/Object", "<init>", "()V"⟩ ∈ gw_G := gt_1 (i := 232) rfl rfl
set_option maxRecDepth 100000 in
theorem gw_343 : Cond.classLink "RepeatFree$Search" 9 "RepeatFree$Line" ∈ gw_G := gt_1 (i := 233) rfl rfl
set_option maxRecDepth 100000 in
theorem gw_344 : Cond.methodLinkNest "RepeatFree$Search" 11 ⟨"RepeatFree$Line", "<init>", "()V"⟩ "RepeatFree" ∈ gw_X := gv_1 (i := 234) rfl rfl
set_option maxRecDepth 100000 in
theorem gw_345 : Cond.fieldLink "RepeatFree$Search" 12 "RepeatFree$Search" "trial" "LRepeatFree$Line;" ∈ gw_G := gt_1 (i := 235) rfl rfl
set_option maxRecDepth 100000 in
theorem gw_346 : Cond.fieldLinkNest "RepeatFree" 253 "RepeatFree$Search" "trial" "LRepeatFree$Line;" "RepeatFree" ∈ gw_X := gv_1 (i := 236) rfl rfl
set_option maxRecDepth 100000 in
theorem gw_347 : Cond.fieldLink "RepeatFree$Search" 18 "RepeatFree$Search" "told" "LRepeatFree$Told;" ∈ gw_G := gt_1 (i := 237) rfl rfl
set_option maxRecDepth 100000 in
theorem gw_348 : Cond.fieldLink "RepeatFree$Search" 22 "RepeatFree$Search" "base" "I" ∈ gw_G := gt_1 (i := 238) rfl rfl
set_option maxRecDepth 100000 in
theorem gw_349 : Cond.fieldLink "RepeatFree$Search" 26 "RepeatFree$Search" "goal" "I" ∈ gw_G := gt_1 (i := 239) rfl rfl
set_option maxRecDepth 100000 in
theorem gw_350 : Cond.fieldLink "RepeatFree$Search" 29 "RepeatFree$Search" "trying" "I" ∈ gw_G := gt_2 (i := 0) rfl rfl
set_option maxRecDepth 100000 in
theorem gw_351 : Cond.fieldLinkNest "RepeatFree" 262 "RepeatFree$Search" "trying" "I" "RepeatFree" ∈ gw_X := gv_2 (i := 1) rfl rfl
set_option maxRecDepth 100000 in
theorem gw_352 : Cond.fieldLink "RepeatFree$Search" 32 "RepeatFree$Search" "tries" "I" ∈ gw_G := gt_2 (i := 2) rfl rfl
set_option maxRecDepth 100000 in
theorem gw_353 : Cond.fieldLinkNest "RepeatFree" 256 "RepeatFree$Search" "tries" "I" "RepeatFree" ∈ gw_X := gv_2 (i := 3) rfl rfl
set_option maxRecDepth 100000 in
theorem gw_354 : Cond.fieldLink "RepeatFree$Search" 35 "RepeatFree$Search" "deepest" "I" ∈ gw_G := gt_2 (i := 4) rfl rfl
set_option maxRecDepth 100000 in
theorem gw_370 : Cond.classLink "RepeatFree" 50 "RepeatFree$Acts" ∈ gw_G := gt_2 (i := 20) rfl rfl
set_option maxRecDepth 100000 in
theorem gw_371 : Cond.instantiable "RepeatFree$Acts" 4 ∈ gw_G := gt_2 (i := 21) rfl rfl
set_option maxRecDepth 100000 in
theorem gw_372 : Cond.methodLinkNest "RepeatFree" 52 ⟨"RepeatFree$Acts", "<init>", "()V"⟩ "RepeatFree" ∈ gw_X := gv_2 (i := 22) rfl rfl
set_option maxRecDepth 100000 in
theorem gw_373 : Cond.instanceMethod ⟨"RepeatFree$Acts", "<init>", "()V"⟩ ∈ gw_G := gt_2 (i := 23) rfl rfl
set_option maxRecDepth 100000 in
theorem gw_374 : Cond.code yX0_init cX0_init 1 none ∈ gw_G := gt_2 (i := 24) rfl rfl
set_option maxRecDepth 100000 in
theorem gw_375 : Cond.methodLink "RepeatFree$Acts" 3 ⟨"java/lang/Object", "<init>", "()V"⟩ ∈ gw_G := gt_2 (i := 25) rfl rfl
set_option maxRecDepth 100000 in
theorem gw_376 : Cond.classLink "RepeatFree$Acts" 9 "[[I" ∈ gw_G := gt_2 (i := 26) rfl rfl
set_option maxRecDepth 100000 in
theorem gw_377 : Cond.fieldLink "RepeatFree$Acts" 11 "RepeatFree$Acts" "words" "[[I" ∈ gw_G := gt_2 (i := 27) rfl rfl
set_option maxRecDepth 100000 in
theorem gw_378 : Cond.fieldLink "RepeatFree$Acts" 16 "RepeatFree$Acts" "wordSizes" "[I" ∈ gw_G := gt_2 (i := 28) rfl rfl
set_option maxRecDepth 100000 in
theorem gw_379 : Cond.fieldLink "RepeatFree$Acts" 20 "RepeatFree$Acts" "top" "I" ∈ gw_G := gt_2 (i := 29) rfl rfl
set_option maxRecDepth 100000 in
theorem gw_380 : Cond.fieldLink "RepeatFree$Acts" 24 "RepeatFree$Acts" "count" "I" ∈ gw_G := gt_2 (i := 30) rfl rfl
set_option maxRecDepth 100000 in
theorem gw_381 : Cond.fieldLinkNest "RepeatFree" 128 "RepeatFree$Acts" "count" "I" "RepeatFree" ∈ gw_X := gv_2 (i := 31) rfl rfl
set_option maxRecDepth 100000 in
theorem gw_391 : Cond.classLink "RepeatFree" 57 "[[J" ∈ gw_G := gt_2 (i := 41) rfl rfl
set_option maxRecDepth 100000 in
theorem gw_393 : Cond.fieldLink "RepeatFree" 10 "RepeatFree" "reader" "LRepeatFree$Reader;" ∈ gw_G := gt_2 (i := 43) rfl rfl
set_option maxRecDepth 100000 in
theorem gw_394 : Cond.fieldLink "RepeatFree" 19 "RepeatFree" "told" "LRepeatFree$Told;" ∈ gw_G := gt_2 (i := 44) rfl rfl
set_option maxRecDepth 100000 in
theorem gw_395 : Cond.fieldLink "RepeatFree" 23 "RepeatFree" "spare" "LRepeatFree$Told;" ∈ gw_G := gt_2 (i := 45) rfl rfl
set_option maxRecDepth 100000 in
theorem gw_396 : Cond.fieldLink "RepeatFree" 36 "RepeatFree" "current" "LRepeatFree$Line;" ∈ gw_G := gt_2 (i := 46) rfl rfl
set_option maxRecDepth 100000 in
theorem gw_397 : Cond.fieldLink "RepeatFree" 40 "RepeatFree" "picture" "LRepeatFree$Line;" ∈ gw_G := gt_2 (i := 47) rfl rfl
set_option maxRecDepth 100000 in
theorem gw_398 : Cond.fieldLink "RepeatFree" 46 "RepeatFree" "search" "LRepeatFree$Search;" ∈ gw_G := gt_2 (i := 48) rfl rfl
set_option maxRecDepth 100000 in
theorem gw_399 : Cond.fieldLink "RepeatFree" 29 "RepeatFree" "sizes" "LRepeatFree$Sizes;" ∈ gw_G := gt_2 (i := 49) rfl rfl
set_option maxRecDepth 100000 in
theorem gw_400 : Cond.fieldLink "RepeatFree" 53 "RepeatFree" "acts" "LRepeatFree$Acts;" ∈ gw_G := gt_2 (i := 50) rfl rfl
set_option maxRecDepth 100000 in
theorem gw_401 : Cond.fieldLink "RepeatFree" 59 "RepeatFree" "tallies" "[[J" ∈ gw_G := gt_2 (i := 51) rfl rfl
set_option maxRecDepth 100000 in
theorem gw_402 : Cond.fieldLink "RepeatFree" 62 "RepeatFree" "ways" "[J" ∈ gw_G := gt_2 (i := 52) rfl rfl
set_option maxRecDepth 100000 in
theorem gw_424 : Cond.arrayClass .long ∈ gw_G := gt_2 (i := 74) rfl rfl
set_option maxRecDepth 100000 in
theorem gw_425 : Cond.methodLink "RepeatFreeLaw" 133 ⟨"RepeatFree", "feed", "(IIIII)I"⟩ ∈ gw_G := gt_2 (i := 75) rfl rfl
set_option maxRecDepth 100000 in
theorem gw_426 : Cond.instanceMethod ⟨"RepeatFree", "feed", "(IIIII)I"⟩ ∈ gw_G := gt_2 (i := 76) rfl rfl
set_option maxRecDepth 100000 in
theorem gw_427 : Cond.selects "RepeatFree" ⟨"RepeatFree", "feed", "(IIIII)I"⟩ ⟨"RepeatFree", "feed", "(IIIII)I"⟩ ∈ gw_G := gt_2 (i := 77) rfl rfl
set_option maxRecDepth 100000 in
theorem gw_428 : Cond.code yX10_feed cX10_feed 7 (some .int) ∈ gw_G := gt_2 (i := 78) rfl rfl
set_option maxRecDepth 100000 in
theorem gw_429 : Cond.methodLink "RepeatFree" 76 ⟨"RepeatFree$Tape", "add", "(I)V"⟩ ∈ gw_G := gt_2 (i := 79) rfl rfl
set_option maxRecDepth 100000 in
theorem gw_430 : Cond.instanceMethod ⟨"RepeatFree$Tape", "add", "(I)V"⟩ ∈ gw_G := gt_2 (i := 80) rfl rfl
set_option maxRecDepth 100000 in
theorem gw_431 : Cond.selects "RepeatFree$Tape" ⟨"RepeatFree$Tape", "add", "(I)V"⟩ ⟨"RepeatFree$Tape", "add", "(I)V"⟩ ∈ gw_G := gt_2 (i := 81) rfl rfl
set_option maxRecDepth 100000 in
theorem gw_432 : Cond.code yX8_add cX8_add 3 none ∈ gw_G := gt_2 (i := 82) rfl rfl
set_option maxRecDepth 100000 in
theorem gw_433 : Cond.methodLink "RepeatFreeLaw" 138 ⟨"RepeatFree", "end", "(I)Z"⟩ ∈ gw_G := gt_2 (i := 83) rfl rfl
set_option maxRecDepth 100000 in
theorem gw_434 : Cond.instanceMethod ⟨"RepeatFree", "end", "(I)Z"⟩ ∈ gw_G := gt_2 (i := 84) rfl rfl
set_option maxRecDepth 100000 in
theorem gw_435 : Cond.selects "RepeatFree" ⟨"RepeatFree", "end", "(I)Z"⟩ ⟨"RepeatFree", "end", "(I)Z"⟩ ∈ gw_G := gt_2 (i := 85) rfl rfl
set_option maxRecDepth 100000 in
theorem gw_436 : Cond.code yX10_end cX10_end 2 (some .boolean) ∈ gw_G := gt_2 (i := 86) rfl rfl
set_option maxRecDepth 100000 in
theorem gw_437 : Cond.methodLink "RepeatFreeLaw" 154 ⟨"RepeatFree", "fault", "()I"⟩ ∈ gw_G := gt_2 (i := 87) rfl rfl
set_option maxRecDepth 100000 in
theorem gw_438 : Cond.instanceMethod ⟨"RepeatFree", "fault", "()I"⟩ ∈ gw_G := gt_2 (i := 88) rfl rfl
set_option maxRecDepth 100000 in
theorem gw_439 : Cond.selects "RepeatFree" ⟨"RepeatFree", "fault", "()I"⟩ ⟨"RepeatFree", "fault", "()I"⟩ ∈ gw_G := gt_2 (i := 89) rfl rfl
set_option maxRecDepth 100000 in
theorem gw_440 : Cond.code yX10_fault cX10_fault 1 (some .int) ∈ gw_G := gt_2 (i := 90) rfl rfl
set_option maxRecDepth 100000 in
theorem gw_441 : Cond.methodLink "RepeatFreeLaw" 158 ⟨"RepeatFree", "letter", "(I)I"⟩ ∈ gw_G := gt_2 (i := 91) rfl rfl
set_option maxRecDepth 100000 in
theorem gw_442 : Cond.instanceMethod ⟨"RepeatFree", "letter", "(I)I"⟩ ∈ gw_G := gt_2 (i := 92) rfl rfl
set_option maxRecDepth 100000 in
theorem gw_443 : Cond.selects "RepeatFree" ⟨"RepeatFree", "letter", "(I)I"⟩ ⟨"RepeatFree", "letter", "(I)I"⟩ ∈ gw_G := gt_2 (i := 93) rfl rfl
set_option maxRecDepth 100000 in
theorem gw_444 : Cond.code yX10_letter cX10_letter 2 (some .int) ∈ gw_G := gt_2 (i := 94) rfl rfl
set_option maxRecDepth 100000 in
theorem gw_445 : Cond.methodLink "RepeatFree" 106 ⟨"RepeatFree$Line", "at", "(I)I"⟩ ∈ gw_G := gt_2 (i := 95) rfl rfl
set_option maxRecDepth 100000 in
theorem gw_446 : Cond.instanceMethod ⟨"RepeatFree$Line", "at", "(I)I"⟩ ∈ gw_G := gt_2 (i := 96) rfl rfl
set_option maxRecDepth 100000 in
theorem gw_447 : Cond.selects "RepeatFree$Line" ⟨"RepeatFree$Line", "at", "(I)I"⟩ ⟨"RepeatFree$Line", "at", "(I)I"⟩ ∈ gw_G := gt_2 (i := 97) rfl rfl
set_option maxRecDepth 100000 in
theorem gw_448 : Cond.code yX1_at cX1_at 2 (some .int) ∈ gw_G := gt_2 (i := 98) rfl rfl
set_option maxRecDepth 100000 in
theorem gw_449 : Cond.methodLink "RepeatFreeLaw" 169 ⟨"RepeatFree", "undo", "()I"⟩ ∈ gw_G := gt_2 (i := 99) rfl rfl
set_option maxRecDepth 100000 in
theorem gw_450 : Cond.instanceMethod ⟨"RepeatFree", "undo", "()I"⟩ ∈ gw_G := gt_2 (i := 100) rfl rfl
set_option maxRecDepth 100000 in
theorem gw_451 : Cond.selects "RepeatFree" ⟨"RepeatFree", "undo", "()I"⟩ ⟨"RepeatFree", "undo", "()I"⟩ ∈ gw_G := gt_2 (i := 101) rfl rfl
set_option maxRecDepth 100000 in
theorem gw_452 : Cond.code yX10_undo cX10_undo 1 (some .int) ∈ gw_G := gt_2 (i := 102) rfl rfl
set_option maxRecDepth 100000 in
theorem gw_453 : Cond.methodLink "RepeatFree" 124 ⟨"RepeatFree$Acts", "takeBack", "(LRepeatFree$Line;)Z"⟩ ∈ gw_G := gt_2 (i := 103) rfl rfl
set_option maxRecDepth 100000 in
theorem gw_454 : Cond.instanceMethod ⟨"RepeatFree$Acts", "takeBack", "(LRepeatFree$Line;)Z"⟩ ∈ gw_G := gt_2 (i := 104) rfl rfl
set_option maxRecDepth 100000 in
theorem gw_455 : Cond.selects "RepeatFree$Acts" ⟨"RepeatFree$Acts", "takeBack", "(LRepeatFree$Line;)Z"⟩ ⟨"RepeatFree$Acts", "takeBack", "(LRepeatFree$Line;)Z"⟩ ∈ gw_G := gt_2 (i := 105) rfl rfl
set_option maxRecDepth 100000 in
theorem gw_456 : Cond.code yX0_takeBack cX0_takeBack 5 (some .boolean) ∈ gw_G := gt_2 (i := 106) rfl rfl
set_option maxRecDepth 100000 in
theorem gw_457 : Cond.methodLink "RepeatFree$Acts" 42 ⟨"RepeatFree$Line", "clear", "()V"⟩ ∈ gw_G := gt_2 (i := 107) rfl rfl
set_option maxRecDepth 100000 in
theorem gw_458 : Cond.instanceMethod ⟨"RepeatFree$Line", "clear", "()V"⟩ ∈ gw_G := gt_2 (i := 108) rfl rfl
set_option maxRecDepth 100000 in
theorem gw_459 : Cond.selects "RepeatFree$Line" ⟨"RepeatFree$Line", "clear", "()V"⟩ ⟨"RepeatFree$Line", "clear", "()V"⟩ ∈ gw_G := gt_2 (i := 109) rfl rfl
set_option maxRecDepth 100000 in
theorem gw_460 : Cond.code yX1_clear cX1_clear 1 none ∈ gw_G := gt_2 (i := 110) rfl rfl
set_option maxRecDepth 100000 in
theorem gw_461 : Cond.methodLink "RepeatFree$Acts" 45 ⟨"RepeatFree$Line", "add", "(I)V"⟩ ∈ gw_G := gt_2 (i := 111) rfl rfl
set_option maxRecDepth 100000 in
theorem gw_462 : Cond.instanceMethod ⟨"RepeatFree$Line", "add", "(I)V"⟩ ∈ gw_G := gt_2 (i := 112) rfl rfl
set_option maxRecDepth 100000 in
theorem gw_463 : Cond.selects "RepeatFree$Line" ⟨"RepeatFree$Line", "add", "(I)V"⟩ ⟨"RepeatFree$Line", "add", "(I)V"⟩ ∈ gw_G := gt_2 (i := 113) rfl rfl
set_option maxRecDepth 100000 in
theorem gw_464 : Cond.code yX1_add cX1_add 8 none ∈ gw_G := gt_2 (i := 114) rfl rfl
set_option maxRecDepth 100000 in
theorem gw_465 : Cond.methodLink "RepeatFree$Line" 40 ⟨"java/lang/Math", "max", "(II)I"⟩ ∈ gw_G := gt_2 (i := 115) rfl rfl
set_option maxRecDepth 100000 in
theorem gw_466 : Cond.static ⟨"java/lang/Math", "max", "(II)I"⟩ ∈ gw_G := gt_2 (i := 116) rfl rfl
set_option maxRecDepth 100000 in
theorem gw_467 : Cond.code Lib.Math.max.name Lib.Math.max.code 2 (some .int) ∈ gw_G := gt_2 (i := 117) rfl rfl
set_option maxRecDepth 100000 in
theorem gw_468 : Cond.methodLink "RepeatFreeLaw" 173 ⟨"RepeatFree", "free", "()Z"⟩ ∈ gw_G := gt_2 (i := 118) rfl rfl
set_option maxRecDepth 100000 in
theorem gw_469 : Cond.instanceMethod ⟨"RepeatFree", "free", "()Z"⟩ ∈ gw_G := gt_2 (i := 119) rfl rfl
set_option maxRecDepth 100000 in
theorem gw_470 : Cond.selects "RepeatFree" ⟨"RepeatFree", "free", "()Z"⟩ ⟨"RepeatFree", "free", "()Z"⟩ ∈ gw_G := gt_2 (i := 120) rfl rfl
set_option maxRecDepth 100000 in
theorem gw_471 : Cond.code yX10_free cX10_free 1 (some .boolean) ∈ gw_G := gt_2 (i := 121) rfl rfl
set_option maxRecDepth 100000 in
theorem gw_472 : Cond.methodLink "RepeatFree" 155 ⟨"RepeatFree$Line", "firstBad", "(LRepeatFree$Told;)I"⟩ ∈ gw_G := gt_2 (i := 122) rfl rfl
set_option maxRecDepth 100000 in
theorem gw_473 : Cond.instanceMethod ⟨"RepeatFree$Line", "firstBad", "(LRepeatFree$Told;)I"⟩ ∈ gw_G := gt_2 (i := 123) rfl rfl
set_option maxRecDepth 100000 in
theorem gw_474 : Cond.selects "RepeatFree$Line" ⟨"RepeatFree$Line", "firstBad", "(LRepeatFree$Told;)I"⟩ ⟨"RepeatFree$Line", "firstBad", "(LRepeatFree$Told;)I"⟩ ∈ gw_G := gt_2 (i := 124) rfl rfl
set_option maxRecDepth 100000 in
theorem gw_475 : Cond.code yX1_firstBad cX1_firstBad 3 (some .int) ∈ gw_G := gt_2 (i := 125) rfl rfl
set_option maxRecDepth 100000 in
theorem gw_476 : Cond.methodLink "RepeatFree$Line" 83 ⟨"RepeatFree$Line", "isBadAt", "(LRepeatFree$Told;I)Z"⟩ ∈ gw_G := gt_2 (i := 126) rfl rfl
set_option maxRecDepth 100000 in
theorem gw_477 : Cond.instanceMethod ⟨"RepeatFree$Line", "isBadAt", "(LRepeatFree$Told;I)Z"⟩ ∈ gw_G := gt_2 (i := 127) rfl rfl
set_option maxRecDepth 100000 in
theorem gw_478 : Cond.selects "RepeatFree$Line" ⟨"RepeatFree$Line", "isBadAt", "(LRepeatFree$Told;I)Z"⟩ ⟨"RepeatFree$Line", "isBadAt", "(LRepeatFree$Told;I)Z"⟩ ∈ gw_G := gt_2 (i := 128) rfl rfl
set_option maxRecDepth 100000 in
theorem gw_479 : Cond.code yX1_isBadAt cX1_isBadAt 6 (some .boolean) ∈ gw_G := gt_2 (i := 129) rfl rfl
set_option maxRecDepth 100000 in
theorem gw_480 : Cond.methodLink "RepeatFree$Line" 60 ⟨"RepeatFree$Told", "isBeyond", "(II)Z"⟩ ∈ gw_G := gt_2 (i := 130) rfl rfl
set_option maxRecDepth 100000 in
theorem gw_481 : Cond.instanceMethod ⟨"RepeatFree$Told", "isBeyond", "(II)Z"⟩ ∈ gw_G := gt_2 (i := 131) rfl rfl
set_option maxRecDepth 100000 in
theorem gw_482 : Cond.selects "RepeatFree$Told" ⟨"RepeatFree$Told", "isBeyond", "(II)Z"⟩ ⟨"RepeatFree$Told", "isBeyond", "(II)Z"⟩ ∈ gw_G := gt_2 (i := 132) rfl rfl
set_option maxRecDepth 100000 in
theorem gw_483 : Cond.code yX9_isBeyond cX9_isBeyond 4 (some .boolean) ∈ gw_G := gt_2 (i := 133) rfl rfl
set_option maxRecDepth 100000 in
theorem gw_484 : Cond.methodLink "RepeatFree$Line" 69 ⟨"RepeatFree$Told", "shapeAt", "(I)LRepeatFree$Shape;"⟩ ∈ gw_G := gt_2 (i := 134) rfl rfl
set_option maxRecDepth 100000 in
theorem gw_485 : Cond.instanceMethod ⟨"RepeatFree$Told", "shapeAt", "(I)LRepeatFree$Shape;"⟩ ∈ gw_G := gt_2 (i := 135) rfl rfl
set_option maxRecDepth 100000 in
theorem gw_486 : Cond.selects "RepeatFree$Told" ⟨"RepeatFree$Told", "shapeAt", "(I)LRepeatFree$Shape;"⟩ ⟨"RepeatFree$Told", "shapeAt", "(I)LRepeatFree$Shape;"⟩ ∈ gw_G := gt_2 (i := 136) rfl rfl
set_option maxRecDepth 100000 in
theorem gw_487 : Cond.code yX9_shapeAt cX9_shapeAt 2 (some (.object "RepeatFree$Shape")) ∈ gw_G := gt_2 (i := 137) rfl rfl
set_option maxRecDepth 100000 in
theorem gw_488 : Cond.methodLinkNest "RepeatFree$Line" 79 ⟨"RepeatFree$Sizes", "lays", "(LRepeatFree$Line;LRepeatFree$Shape;LRepeatFree$Sizes;III)Z"⟩ "RepeatFree" ∈ gw_X := gv_2 (i := 138) rfl rfl
set_option maxRecDepth 100000 in
theorem gw_489 : Cond.static ⟨"RepeatFree$Sizes", "lays", "(LRepeatFree$Line;LRepeatFree$Shape;LRepeatFree$Sizes;III)Z"⟩ ∈ gw_G := gt_2 (i := 139) rfl rfl
set_option maxRecDepth 100000 in
theorem gw_490 : Cond.code yX7_lays cX7_lays 12 (some .boolean) ∈ gw_G := gt_2 (i := 140) rfl rfl
set_option maxRecDepth 100000 in
theorem gw_491 : Cond.methodLink "RepeatFree$Sizes" 28 ⟨"RepeatFree$Sizes", "clear", "()V"⟩ ∈ gw_G := gt_2 (i := 141) rfl rfl
set_option maxRecDepth 100000 in
theorem gw_493 : Cond.instanceMethod ⟨"RepeatFree$Sizes", "clear", "()V"⟩ ∈ gw_G := gt_2 (i := 143) rfl rfl
set_option maxRecDepth 100000 in
theorem gw_494 : Cond.code yX7_clear cX7_clear 2 none ∈ gw_G := gt_2 (i := 144) rfl rfl
set_option maxRecDepth 100000 in
theorem gw_495 : Cond.methodLink "RepeatFree$Sizes" 18 ⟨"RepeatFree$Sizes", "set", "(III)V"⟩ ∈ gw_G := gt_2 (i := 145) rfl rfl
set_option maxRecDepth 100000 in
theorem gw_497 : Cond.instanceMethod ⟨"RepeatFree$Sizes", "set", "(III)V"⟩ ∈ gw_G := gt_2 (i := 147) rfl rfl
set_option maxRecDepth 100000 in
theorem gw_498 : Cond.code yX7_set cX7_set 4 none ∈ gw_G := gt_2 (i := 148) rfl rfl
set_option maxRecDepth 100000 in
theorem gw_499 : Cond.methodLink "RepeatFree$Sizes" 31 ⟨"RepeatFree$Shape", "at", "(I)I"⟩ ∈ gw_G := gt_2 (i := 149) rfl rfl
set_option maxRecDepth 100000 in
theorem gw_500 : Cond.instanceMethod ⟨"RepeatFree$Shape", "at", "(I)I"⟩ ∈ gw_G := gt_2 (i := 150) rfl rfl
set_option maxRecDepth 100000 in
theorem gw_501 : Cond.selects "RepeatFree$Shape" ⟨"RepeatFree$Shape", "at", "(I)I"⟩ ⟨"RepeatFree$Shape", "at", "(I)I"⟩ ∈ gw_G := gt_2 (i := 151) rfl rfl
set_option maxRecDepth 100000 in
theorem gw_502 : Cond.code yX6_at cX6_at 2 (some .int) ∈ gw_G := gt_2 (i := 152) rfl rfl
set_option maxRecDepth 100000 in
theorem gw_503 : Cond.methodLink "RepeatFree$Sizes" 35 ⟨"RepeatFree$Sizes", "of", "(I)I"⟩ ∈ gw_G := gt_2 (i := 153) rfl rfl
set_option maxRecDepth 100000 in
theorem gw_504 : Cond.instanceMethod ⟨"RepeatFree$Sizes", "of", "(I)I"⟩ ∈ gw_G := gt_2 (i := 154) rfl rfl
set_option maxRecDepth 100000 in
theorem gw_505 : Cond.selects "RepeatFree$Sizes" ⟨"RepeatFree$Sizes", "of", "(I)I"⟩ ⟨"RepeatFree$Sizes", "of", "(I)I"⟩ ∈ gw_G := gt_2 (i := 155) rfl rfl
set_option maxRecDepth 100000 in
theorem gw_506 : Cond.code yX7_of cX7_of 2 (some .int) ∈ gw_G := gt_2 (i := 156) rfl rfl
set_option maxRecDepth 100000 in
theorem gw_507 : Cond.methodLink "RepeatFree$Sizes" 38 ⟨"RepeatFree$Sizes", "isAgainAt", "(LRepeatFree$Line;III)Z"⟩ ∈ gw_G := gt_2 (i := 157) rfl rfl
set_option maxRecDepth 100000 in
theorem gw_509 : Cond.instanceMethod ⟨"RepeatFree$Sizes", "isAgainAt", "(LRepeatFree$Line;III)Z"⟩ ∈ gw_G := gt_2 (i := 159) rfl rfl
set_option maxRecDepth 100000 in
theorem gw_510 : Cond.code yX7_isAgainAt cX7_isAgainAt 7 (some .boolean) ∈ gw_G := gt_2 (i := 160) rfl rfl
set_option maxRecDepth 100000 in
theorem gw_511 : Cond.methodLink "RepeatFree$Sizes" 62 ⟨"RepeatFree$Sizes", "edge", "(I)I"⟩ ∈ gw_G := gt_2 (i := 161) rfl rfl
set_option maxRecDepth 100000 in
theorem gw_513 : Cond.instanceMethod ⟨"RepeatFree$Sizes", "edge", "(I)I"⟩ ∈ gw_G := gt_2 (i := 163) rfl rfl
set_option maxRecDepth 100000 in
theorem gw_514 : Cond.code yX7_edge cX7_edge 2 (some .int) ∈ gw_G := gt_2 (i := 164) rfl rfl
set_option maxRecDepth 100000 in
theorem gw_515 : Cond.methodLink "RepeatFree$Sizes" 65 ⟨"RepeatFree$Line", "alike", "(II)I"⟩ ∈ gw_G := gt_2 (i := 165) rfl rfl
set_option maxRecDepth 100000 in
theorem gw_516 : Cond.instanceMethod ⟨"RepeatFree$Line", "alike", "(II)I"⟩ ∈ gw_G := gt_2 (i := 166) rfl rfl
set_option maxRecDepth 100000 in
theorem gw_517 : Cond.selects "RepeatFree$Line" ⟨"RepeatFree$Line", "alike", "(II)I"⟩ ⟨"RepeatFree$Line", "alike", "(II)I"⟩ ∈ gw_G := gt_2 (i := 167) rfl rfl
set_option maxRecDepth 100000 in
theorem gw_518 : Cond.code yX1_alike cX1_alike 5 (some .int) ∈ gw_G := gt_2 (i := 168) rfl rfl
set_option maxRecDepth 100000 in
theorem gw_519 : Cond.methodLink "RepeatFree$Sizes" 42 ⟨"RepeatFree$Sizes", "lays", "(LRepeatFree$Line;LRepeatFree$Shape;LRepeatFree$Sizes;III)Z"⟩ ∈ gw_G := gt_2 (i := 169) rfl rfl
set_option maxRecDepth 100000 in
theorem gw_520 : Cond.methodLink "RepeatFree$Sizes" 49 ⟨"java/lang/Math", "max", "(II)I"⟩ ∈ gw_G := gt_2 (i := 170) rfl rfl
set_option maxRecDepth 100000 in
theorem gw_521 : Cond.methodLink "RepeatFree$Sizes" 55 ⟨"RepeatFree$Line", "twiceAt", "(I)I"⟩ ∈ gw_G := gt_2 (i := 171) rfl rfl
set_option maxRecDepth 100000 in
theorem gw_522 : Cond.instanceMethod ⟨"RepeatFree$Line", "twiceAt", "(I)I"⟩ ∈ gw_G := gt_2 (i := 172) rfl rfl
set_option maxRecDepth 100000 in
theorem gw_523 : Cond.selects "RepeatFree$Line" ⟨"RepeatFree$Line", "twiceAt", "(I)I"⟩ ⟨"RepeatFree$Line", "twiceAt", "(I)I"⟩ ∈ gw_G := gt_2 (i := 173) rfl rfl
set_option maxRecDepth 100000 in
theorem gw_524 : Cond.code yX1_twiceAt cX1_twiceAt 2 (some .int) ∈ gw_G := gt_2 (i := 174) rfl rfl
set_option maxRecDepth 100000 in
theorem gw_525 : Cond.methodLink "RepeatFree$Sizes" 58 ⟨"RepeatFree$Shape", "isShort", "(I)Z"⟩ ∈ gw_G := gt_2 (i := 175) rfl rfl
set_option maxRecDepth 100000 in
theorem gw_526 : Cond.instanceMethod ⟨"RepeatFree$Shape", "isShort", "(I)Z"⟩ ∈ gw_G := gt_2 (i := 176) rfl rfl
set_option maxRecDepth 100000 in
theorem gw_527 : Cond.selects "RepeatFree$Shape" ⟨"RepeatFree$Shape", "isShort", "(I)Z"⟩ ⟨"RepeatFree$Shape", "isShort", "(I)Z"⟩ ∈ gw_G := gt_2 (i := 177) rfl rfl
set_option maxRecDepth 100000 in
theorem gw_528 : Cond.code yX6_isShort cX6_isShort 2 (some .boolean) ∈ gw_G := gt_2 (i := 178) rfl rfl
set_option maxRecDepth 100000 in
theorem gw_529 : Cond.methodLink "RepeatFreeLaw" 178 ⟨"RepeatFree", "ends", "()I"⟩ ∈ gw_G := gt_2 (i := 179) rfl rfl
set_option maxRecDepth 100000 in
theorem gw_530 : Cond.instanceMethod ⟨"RepeatFree", "ends", "()I"⟩ ∈ gw_G := gt_2 (i := 180) rfl rfl
set_option maxRecDepth 100000 in
theorem gw_531 : Cond.selects "RepeatFree" ⟨"RepeatFree", "ends", "()I"⟩ ⟨"RepeatFree", "ends", "()I"⟩ ∈ gw_G := gt_2 (i := 181) rfl rfl
set_option maxRecDepth 100000 in
theorem gw_532 : Cond.code yX10_ends cX10_ends 1 (some .int) ∈ gw_G := gt_2 (i := 182) rfl rfl
set_option maxRecDepth 100000 in
theorem gw_533 : Cond.methodLink "RepeatFreeLaw" 185 ⟨"RepeatFree", "period", "()I"⟩ ∈ gw_G := gt_2 (i := 183) rfl rfl
set_option maxRecDepth 100000 in
theorem gw_534 : Cond.instanceMethod ⟨"RepeatFree", "period", "()I"⟩ ∈ gw_G := gt_2 (i := 184) rfl rfl
set_option maxRecDepth 100000 in
theorem gw_535 : Cond.selects "RepeatFree" ⟨"RepeatFree", "period", "()I"⟩ ⟨"RepeatFree", "period", "()I"⟩ ∈ gw_G := gt_2 (i := 185) rfl rfl
set_option maxRecDepth 100000 in
theorem gw_536 : Cond.code yX10_period cX10_period 1 (some .int) ∈ gw_G := gt_2 (i := 186) rfl rfl
set_option maxRecDepth 100000 in
theorem gw_537 : Cond.methodLink "RepeatFree" 167 ⟨"RepeatFree$Line", "leastPeriod", "(II)I"⟩ ∈ gw_G := gt_2 (i := 187) rfl rfl
set_option maxRecDepth 100000 in
theorem gw_538 : Cond.instanceMethod ⟨"RepeatFree$Line", "leastPeriod", "(II)I"⟩ ∈ gw_G := gt_2 (i := 188) rfl rfl
set_option maxRecDepth 100000 in
theorem gw_539 : Cond.selects "RepeatFree$Line" ⟨"RepeatFree$Line", "leastPeriod", "(II)I"⟩ ⟨"RepeatFree$Line", "leastPeriod", "(II)I"⟩ ∈ gw_G := gt_2 (i := 189) rfl rfl
set_option maxRecDepth 100000 in
theorem gw_540 : Cond.code yX1_leastPeriod cX1_leastPeriod 5 (some .int) ∈ gw_G := gt_2 (i := 190) rfl rfl
set_option maxRecDepth 100000 in
theorem gw_541 : Cond.methodLink "RepeatFree$Line" 57 ⟨"RepeatFree$Line", "alike", "(II)I"⟩ ∈ gw_G := gt_2 (i := 191) rfl rfl
set_option maxRecDepth 100000 in
theorem gw_542 : Cond.methodLink "RepeatFreeLaw" 189 ⟨"RepeatFree", "border", "(I)I"⟩ ∈ gw_G := gt_2 (i := 192) rfl rfl
set_option maxRecDepth 100000 in
theorem gw_543 : Cond.instanceMethod ⟨"RepeatFree", "border", "(I)I"⟩ ∈ gw_G := gt_2 (i := 193) rfl rfl
set_option maxRecDepth 100000 in
theorem gw_544 : Cond.selects "RepeatFree" ⟨"RepeatFree", "border", "(I)I"⟩ ⟨"RepeatFree", "border", "(I)I"⟩ ∈ gw_G := gt_2 (i := 194) rfl rfl
set_option maxRecDepth 100000 in
theorem gw_545 : Cond.code yX10_border cX10_border 5 (some .int) ∈ gw_G := gt_2 (i := 195) rfl rfl
set_option maxRecDepth 100000 in
theorem gw_546 : Cond.methodLink "RepeatFree" 163 ⟨"RepeatFree$Line", "alike", "(II)I"⟩ ∈ gw_G := gt_2 (i := 196) rfl rfl
set_option maxRecDepth 100000 in
theorem gw_547 : Cond.methodLink "RepeatFreeLaw" 200 ⟨"RepeatFree", "mirror", "()I"⟩ ∈ gw_G := gt_2 (i := 197) rfl rfl
set_option maxRecDepth 100000 in
theorem gw_548 : Cond.instanceMethod ⟨"RepeatFree", "mirror", "()I"⟩ ∈ gw_G := gt_2 (i := 198) rfl rfl
set_option maxRecDepth 100000 in
theorem gw_549 : Cond.selects "RepeatFree" ⟨"RepeatFree", "mirror", "()I"⟩ ⟨"RepeatFree", "mirror", "()I"⟩ ∈ gw_G := gt_2 (i := 199) rfl rfl
set_option maxRecDepth 100000 in
theorem gw_550 : Cond.code yX10_mirror cX10_mirror 5 (some .int) ∈ gw_G := gt_2 (i := 200) rfl rfl
set_option maxRecDepth 100000 in
theorem gw_551 : Cond.methodLink "RepeatFree" 177 ⟨"java/lang/Math", "max", "(II)I"⟩ ∈ gw_G := gt_2 (i := 201) rfl rfl
set_option maxRecDepth 100000 in
theorem gw_552 : Cond.methodLink "RepeatFreeLaw" 292 ⟨"RepeatFree", "lyndon", "(I)I"⟩ ∈ gw_G := gt_2 (i := 202) rfl rfl
set_option maxRecDepth 100000 in
theorem gw_553 : Cond.instanceMethod ⟨"RepeatFree", "lyndon", "(I)I"⟩ ∈ gw_G := gt_2 (i := 203) rfl rfl
set_option maxRecDepth 100000 in
theorem gw_554 : Cond.selects "RepeatFree" ⟨"RepeatFree", "lyndon", "(I)I"⟩ ⟨"RepeatFree", "lyndon", "(I)I"⟩ ∈ gw_G := gt_2 (i := 204) rfl rfl
set_option maxRecDepth 100000 in
theorem gw_555 : Cond.code yX10_lyndon cX10_lyndon 5 (some .int) ∈ gw_G := gt_2 (i := 205) rfl rfl
set_option maxRecDepth 100000 in
theorem gw_556 : Cond.methodLink "RepeatFree" 182 ⟨"RepeatFree$Line", "endIsLess", "(II)Z"⟩ ∈ gw_G := gt_2 (i := 206) rfl rfl
set_option maxRecDepth 100000 in
theorem gw_557 : Cond.instanceMethod ⟨"RepeatFree$Line", "endIsLess", "(II)Z"⟩ ∈ gw_G := gt_2 (i := 207) rfl rfl
set_option maxRecDepth 100000 in
theorem gw_558 : Cond.selects "RepeatFree$Line" ⟨"RepeatFree$Line", "endIsLess", "(II)Z"⟩ ⟨"RepeatFree$Line", "endIsLess", "(II)Z"⟩ ∈ gw_G := gt_2 (i := 208) rfl rfl
set_option maxRecDepth 100000 in
theorem gw_559 : Cond.code yX1_endIsLess cX1_endIsLess 4 (some .boolean) ∈ gw_G := gt_2 (i := 209) rfl rfl
set_option maxRecDepth 100000 in
theorem gw_560 : Cond.methodLink "RepeatFree$Line" 43 ⟨"RepeatFree$Line", "at", "(I)I"⟩ ∈ gw_G := gt_2 (i := 210) rfl rfl
set_option maxRecDepth 100000 in
theorem gw_561 : Cond.methodLink "RepeatFreeLaw" 296 ⟨"RepeatFree", "turned", "()I"⟩ ∈ gw_G := gt_2 (i := 211) rfl rfl
set_option maxRecDepth 100000 in
theorem gw_562 : Cond.instanceMethod ⟨"RepeatFree", "turned", "()I"⟩ ∈ gw_G := gt_2 (i := 212) rfl rfl
set_option maxRecDepth 100000 in
theorem gw_563 : Cond.selects "RepeatFree" ⟨"RepeatFree", "turned", "()I"⟩ ⟨"RepeatFree", "turned", "()I"⟩ ∈ gw_G := gt_2 (i := 213) rfl rfl
set_option maxRecDepth 100000 in
theorem gw_564 : Cond.code yX10_turned cX10_turned 3 (some .int) ∈ gw_G := gt_2 (i := 214) rfl rfl
set_option maxRecDepth 100000 in
theorem gw_565 : Cond.methodLink "RepeatFree" 186 ⟨"RepeatFree$Line", "turnIsLess", "(II)Z"⟩ ∈ gw_G := gt_2 (i := 215) rfl rfl
set_option maxRecDepth 100000 in
theorem gw_566 : Cond.instanceMethod ⟨"RepeatFree$Line", "turnIsLess", "(II)Z"⟩ ∈ gw_G := gt_2 (i := 216) rfl rfl
set_option maxRecDepth 100000 in
theorem gw_567 : Cond.selects "RepeatFree$Line" ⟨"RepeatFree$Line", "turnIsLess", "(II)Z"⟩ ⟨"RepeatFree$Line", "turnIsLess", "(II)Z"⟩ ∈ gw_G := gt_2 (i := 217) rfl rfl
set_option maxRecDepth 100000 in
theorem gw_568 : Cond.code yX1_turnIsLess cX1_turnIsLess 6 (some .boolean) ∈ gw_G := gt_2 (i := 218) rfl rfl
set_option maxRecDepth 100000 in
theorem gw_569 : Cond.methodLink "RepeatFreeLaw" 207 ⟨"RepeatFree", "goes", "()I"⟩ ∈ gw_G := gt_2 (i := 219) rfl rfl
set_option maxRecDepth 100000 in
theorem gw_570 : Cond.instanceMethod ⟨"RepeatFree", "goes", "()I"⟩ ∈ gw_G := gt_2 (i := 220) rfl rfl
set_option maxRecDepth 100000 in
theorem gw_571 : Cond.selects "RepeatFree" ⟨"RepeatFree", "goes", "()I"⟩ ⟨"RepeatFree", "goes", "()I"⟩ ∈ gw_G := gt_2 (i := 221) rfl rfl
set_option maxRecDepth 100000 in
theorem gw_572 : Cond.code yX10_goes cX10_goes 1 (some .int) ∈ gw_G := gt_2 (i := 222) rfl rfl
set_option maxRecDepth 100000 in
theorem gw_573 : Cond.methodLink "RepeatFree" 229 ⟨"RepeatFree$Search", "behind", "(LRepeatFree$Told;LRepeatFree$Line;)I"⟩ ∈ gw_G := gt_2 (i := 223) rfl rfl
set_option maxRecDepth 100000 in
theorem gw_574 : Cond.instanceMethod ⟨"RepeatFree$Search", "behind", "(LRepeatFree$Told;LRepeatFree$Line;)I"⟩ ∈ gw_G := gt_2 (i := 224) rfl rfl
set_option maxRecDepth 100000 in
theorem gw_575 : Cond.selects "RepeatFree$Search" ⟨"RepeatFree$Search", "behind", "(LRepeatFree$Told;LRepeatFree$Line;)I"⟩ ⟨"RepeatFree$Search", "behind", "(LRepeatFree$Told;LRepeatFree$Line;)I"⟩ ∈ gw_G := gt_2 (i := 225) rfl rfl
set_option maxRecDepth 100000 in
theorem gw_576 : Cond.code yX5_behind cX5_behind 5 (some .int) ∈ gw_G := gt_2 (i := 226) rfl rfl
set_option maxRecDepth 100000 in
theorem gw_577 : Cond.methodLink "RepeatFree$Search" 55 ⟨"RepeatFree$Line", "add", "(I)V"⟩ ∈ gw_G := gt_2 (i := 227) rfl rfl
set_option maxRecDepth 100000 in
theorem gw_578 : Cond.methodLink "RepeatFree$Search" 59 ⟨"RepeatFree$Line", "isBadAt", "(LRepeatFree$Told;I)Z"⟩ ∈ gw_G := gt_2 (i := 228) rfl rfl
set_option maxRecDepth 100000 in
theorem gw_579 : Cond.methodLink "RepeatFree$Search" 45 ⟨"RepeatFree$Line", "dropLast", "()I"⟩ ∈ gw_G := gt_2 (i := 229) rfl rfl
set_option maxRecDepth 100000 in
theorem gw_580 : Cond.instanceMethod ⟨"RepeatFree$Line", "dropLast", "()I"⟩ ∈ gw_G := gt_2 (i := 230) rfl rfl
set_option maxRecDepth 100000 in
theorem gw_581 : Cond.selects "RepeatFree$Line" ⟨"RepeatFree$Line", "dropLast", "()I"⟩ ⟨"RepeatFree$Line", "dropLast", "()I"⟩ ∈ gw_G := gt_2 (i := 231) rfl rfl
set_option maxRecDepth 100000 in
theorem gw_582 : Cond.code yX1_dropLast cX1_dropLast 2 (some .int) ∈ gw_G := gt_2 (i := 232) rfl rfl
set_option maxRecDepth 100000 in
theorem gw_583 : Cond.methodLink "RepeatFree$Line" 47 ⟨"RepeatFree$Line", "cutTo", "(I)V"⟩ ∈ gw_G := gt_2 (i := 233) rfl rfl
set_option maxRecDepth 100000 in
theorem gw_584 : Cond.instanceMethod ⟨"RepeatFree$Line", "cutTo", "(I)V"⟩ ∈ gw_G := gt_2 (i := 234) rfl rfl
set_option maxRecDepth 100000 in
theorem gw_585 : Cond.selects "RepeatFree$Line" ⟨"RepeatFree$Line", "cutTo", "(I)V"⟩ ⟨"RepeatFree$Line", "cutTo", "(I)V"⟩ ∈ gw_G := gt_2 (i := 235) rfl rfl
set_option maxRecDepth 100000 in
theorem gw_586 : Cond.code yX1_cutTo cX1_cutTo 2 none ∈ gw_G := gt_2 (i := 236) rfl rfl
set_option maxRecDepth 100000 in
theorem gw_587 : Cond.methodLink "RepeatFree$Line" 34 ⟨"java/lang/Math", "min", "(II)I"⟩ ∈ gw_G := gt_2 (i := 237) rfl rfl
set_option maxRecDepth 100000 in
theorem gw_588 : Cond.static ⟨"java/lang/Math", "min", "(II)I"⟩ ∈ gw_G := gt_2 (i := 238) rfl rfl
set_option maxRecDepth 100000 in
theorem gw_589 : Cond.code Lib.Math.min.name Lib.Math.min.code 2 (some .int) ∈ gw_G := gt_2 (i := 239) rfl rfl
set_option maxRecDepth 100000 in
theorem gw_590 : Cond.methodLink "RepeatFreeLaw" 281 ⟨"RepeatFree", "ahead", "()I"⟩ ∈ gw_G := gt_3 (i := 0) rfl rfl
set_option maxRecDepth 100000 in
theorem gw_591 : Cond.instanceMethod ⟨"RepeatFree", "ahead", "()I"⟩ ∈ gw_G := gt_3 (i := 1) rfl rfl
set_option maxRecDepth 100000 in
theorem gw_592 : Cond.selects "RepeatFree" ⟨"RepeatFree", "ahead", "()I"⟩ ⟨"RepeatFree", "ahead", "()I"⟩ ∈ gw_G := gt_3 (i := 2) rfl rfl
set_option maxRecDepth 100000 in
theorem gw_593 : Cond.code yX10_ahead cX10_ahead 4 (some .int) ∈ gw_G := gt_3 (i := 3) rfl rfl
set_option maxRecDepth 100000 in
theorem gw_594 : Cond.methodLink "RepeatFree" 87 ⟨"RepeatFree$Line", "clear", "()V"⟩ ∈ gw_G := gt_3 (i := 4) rfl rfl
set_option maxRecDepth 100000 in
theorem gw_595 : Cond.methodLink "RepeatFree" 119 ⟨"RepeatFree$Line", "add", "(I)V"⟩ ∈ gw_G := gt_3 (i := 5) rfl rfl
set_option maxRecDepth 100000 in
theorem gw_596 : Cond.methodLink "RepeatFreeLaw" 211 ⟨"RepeatFree", "further", "()I"⟩ ∈ gw_G := gt_3 (i := 6) rfl rfl
set_option maxRecDepth 100000 in
theorem gw_597 : Cond.instanceMethod ⟨"RepeatFree", "further", "()I"⟩ ∈ gw_G := gt_3 (i := 7) rfl rfl
set_option maxRecDepth 100000 in
theorem gw_598 : Cond.selects "RepeatFree" ⟨"RepeatFree", "further", "()I"⟩ ⟨"RepeatFree", "further", "()I"⟩ ∈ gw_G := gt_3 (i := 8) rfl rfl
set_option maxRecDepth 100000 in
theorem gw_599 : Cond.code yX10_further cX10_further 2 (some .int) ∈ gw_G := gt_3 (i := 9) rfl rfl
set_option maxRecDepth 100000 in
theorem gw_600 : Cond.methodLink "RepeatFree" 233 ⟨"java/lang/Math", "min", "(II)I"⟩ ∈ gw_G := gt_3 (i := 10) rfl rfl
set_option maxRecDepth 100000 in
theorem gw_601 : Cond.methodLink "RepeatFree" 236 ⟨"RepeatFree$Search", "reset", "(LRepeatFree$Told;)V"⟩ ∈ gw_G := gt_3 (i := 11) rfl rfl
set_option maxRecDepth 100000 in
theorem gw_602 : Cond.instanceMethod ⟨"RepeatFree$Search", "reset", "(LRepeatFree$Told;)V"⟩ ∈ gw_G := gt_3 (i := 12) rfl rfl
set_option maxRecDepth 100000 in
theorem gw_603 : Cond.selects "RepeatFree$Search" ⟨"RepeatFree$Search", "reset", "(LRepeatFree$Told;)V"⟩ ⟨"RepeatFree$Search", "reset", "(LRepeatFree$Told;)V"⟩ ∈ gw_G := gt_3 (i := 13) rfl rfl
set_option maxRecDepth 100000 in
theorem gw_604 : Cond.code yX5_reset cX5_reset 2 none ∈ gw_G := gt_3 (i := 14) rfl rfl
set_option maxRecDepth 100000 in
theorem gw_605 : Cond.methodLink "RepeatFree" 240 ⟨"RepeatFree$Search", "begin", "(LRepeatFree$Line;III)V"⟩ ∈ gw_G := gt_3 (i := 15) rfl rfl
set_option maxRecDepth 100000 in
theorem gw_606 : Cond.instanceMethod ⟨"RepeatFree$Search", "begin", "(LRepeatFree$Line;III)V"⟩ ∈ gw_G := gt_3 (i := 16) rfl rfl
set_option maxRecDepth 100000 in
theorem gw_607 : Cond.selects "RepeatFree$Search" ⟨"RepeatFree$Search", "begin", "(LRepeatFree$Line;III)V"⟩ ⟨"RepeatFree$Search", "begin", "(LRepeatFree$Line;III)V"⟩ ∈ gw_G := gt_3 (i := 17) rfl rfl
set_option maxRecDepth 100000 in
theorem gw_608 : Cond.code yX5_begin cX5_begin 5 none ∈ gw_G := gt_3 (i := 18) rfl rfl
set_option maxRecDepth 100000 in
theorem gw_609 : Cond.methodLink "RepeatFree$Search" 38 ⟨"RepeatFree$Line", "copy", "(LRepeatFree$Line;I)V"⟩ ∈ gw_G := gt_3 (i := 19) rfl rfl
set_option maxRecDepth 100000 in
theorem gw_610 : Cond.instanceMethod ⟨"RepeatFree$Line", "copy", "(LRepeatFree$Line;I)V"⟩ ∈ gw_G := gt_3 (i := 20) rfl rfl
set_option maxRecDepth 100000 in
theorem gw_611 : Cond.selects "RepeatFree$Line" ⟨"RepeatFree$Line", "copy", "(LRepeatFree$Line;I)V"⟩ ⟨"RepeatFree$Line", "copy", "(LRepeatFree$Line;I)V"⟩ ∈ gw_G := gt_3 (i := 21) rfl rfl
set_option maxRecDepth 100000 in
theorem gw_612 : Cond.code yX1_copy cX1_copy 4 none ∈ gw_G := gt_3 (i := 22) rfl rfl
set_option maxRecDepth 100000 in
theorem gw_613 : Cond.methodLink "RepeatFree$Line" 54 ⟨"RepeatFree$Line", "clear", "()V"⟩ ∈ gw_G := gt_3 (i := 23) rfl rfl
set_option maxRecDepth 100000 in
theorem gw_614 : Cond.methodLink "RepeatFree$Line" 51 ⟨"RepeatFree$Line", "add", "(I)V"⟩ ∈ gw_G := gt_3 (i := 24) rfl rfl
set_option maxRecDepth 100000 in
theorem gw_615 : Cond.methodLink "RepeatFree" 244 ⟨"RepeatFree$Search", "deepestBehind", "()I"⟩ ∈ gw_G := gt_3 (i := 25) rfl rfl
set_option maxRecDepth 100000 in
theorem gw_616 : Cond.instanceMethod ⟨"RepeatFree$Search", "deepestBehind", "()I"⟩ ∈ gw_G := gt_3 (i := 26) rfl rfl
set_option maxRecDepth 100000 in
theorem gw_617 : Cond.selects "RepeatFree$Search" ⟨"RepeatFree$Search", "deepestBehind", "()I"⟩ ⟨"RepeatFree$Search", "deepestBehind", "()I"⟩ ∈ gw_G := gt_3 (i := 27) rfl rfl
set_option maxRecDepth 100000 in
theorem gw_618 : Cond.code yX5_deepestBehind cX5_deepestBehind 2 (some .int) ∈ gw_G := gt_3 (i := 28) rfl rfl
set_option maxRecDepth 100000 in
theorem gw_619 : Cond.methodLink "RepeatFree$Search" 69 ⟨"RepeatFree$Search", "seek", "()I"⟩ ∈ gw_G := gt_3 (i := 29) rfl rfl
set_option maxRecDepth 100000 in
theorem gw_620 : Cond.instanceMethod ⟨"RepeatFree$Search", "seek", "()I"⟩ ∈ gw_G := gt_3 (i := 30) rfl rfl
set_option maxRecDepth 100000 in
theorem gw_621 : Cond.selects "RepeatFree$Search" ⟨"RepeatFree$Search", "seek", "()I"⟩ ⟨"RepeatFree$Search", "seek", "()I"⟩ ∈ gw_G := gt_3 (i := 31) rfl rfl
set_option maxRecDepth 100000 in
theorem gw_622 : Cond.code yX5_seek cX5_seek 2 (some .int) ∈ gw_G := gt_3 (i := 32) rfl rfl
set_option maxRecDepth 100000 in
theorem gw_623 : Cond.constant "RepeatFree$Search" 49 1000000 ∈ gw_G := gt_3 (i := 33) rfl rfl
set_option maxRecDepth 100000 in
theorem gw_624 : Cond.methodLink "RepeatFree$Search" 63 ⟨"java/lang/Math", "max", "(II)I"⟩ ∈ gw_G := gt_3 (i := 34) rfl rfl
set_option maxRecDepth 100000 in
theorem gw_625 : Cond.methodLink "RepeatFreeLaw" 224 ⟨"RepeatFree", "longest", "()I"⟩ ∈ gw_G := gt_3 (i := 35) rfl rfl
set_option maxRecDepth 100000 in
theorem gw_626 : Cond.instanceMethod ⟨"RepeatFree", "longest", "()I"⟩ ∈ gw_G := gt_3 (i := 36) rfl rfl
set_option maxRecDepth 100000 in
theorem gw_627 : Cond.selects "RepeatFree" ⟨"RepeatFree", "longest", "()I"⟩ ⟨"RepeatFree", "longest", "()I"⟩ ∈ gw_G := gt_3 (i := 37) rfl rfl
set_option maxRecDepth 100000 in
theorem gw_628 : Cond.code yX10_longest cX10_longest 1 (some .int) ∈ gw_G := gt_3 (i := 38) rfl rfl
set_option maxRecDepth 100000 in
theorem gw_629 : Cond.methodLink "RepeatFreeLaw" 315 ⟨"RepeatFree", "count", "(I)I"⟩ ∈ gw_G := gt_3 (i := 39) rfl rfl
set_option maxRecDepth 100000 in
theorem gw_630 : Cond.instanceMethod ⟨"RepeatFree", "count", "(I)I"⟩ ∈ gw_G := gt_3 (i := 40) rfl rfl
set_option maxRecDepth 100000 in
theorem gw_631 : Cond.selects "RepeatFree" ⟨"RepeatFree", "count", "(I)I"⟩ ⟨"RepeatFree", "count", "(I)I"⟩ ∈ gw_G := gt_3 (i := 41) rfl rfl
set_option maxRecDepth 100000 in
theorem gw_632 : Cond.code yX10_count cX10_count 2 (some .int) ∈ gw_G := gt_3 (i := 42) rfl rfl
set_option maxRecDepth 100000 in
theorem gw_633 : Cond.methodLink "RepeatFree" 323 ⟨"RepeatFree$Told", "avoidedCount", "()I"⟩ ∈ gw_G := gt_3 (i := 43) rfl rfl
set_option maxRecDepth 100000 in
theorem gw_634 : Cond.instanceMethod ⟨"RepeatFree$Told", "avoidedCount", "()I"⟩ ∈ gw_G := gt_3 (i := 44) rfl rfl
set_option maxRecDepth 100000 in
theorem gw_635 : Cond.selects "RepeatFree$Told" ⟨"RepeatFree$Told", "avoidedCount", "()I"⟩ ⟨"RepeatFree$Told", "avoidedCount", "()I"⟩ ∈ gw_G := gt_3 (i := 45) rfl rfl
set_option maxRecDepth 100000 in
theorem gw_636 : Cond.code yX9_avoidedCount cX9_avoidedCount 4 (some .int) ∈ gw_G := gt_3 (i := 46) rfl rfl
set_option maxRecDepth 100000 in
theorem gw_637 : Cond.methodLink "RepeatFree$Told" 62 ⟨"RepeatFree$Told", "shapeAt", "(I)LRepeatFree$Shape;"⟩ ∈ gw_G := gt_3 (i := 47) rfl rfl
set_option maxRecDepth 100000 in
theorem gw_638 : Cond.methodLink "RepeatFreeLaw" 142 ⟨"RepeatFreeLaw", "read", "(LRepeatFree;[J)I"⟩ ∈ gw_G := gt_3 (i := 48) rfl rfl
set_option maxRecDepth 100000 in
theorem gw_639 : Cond.static ⟨"RepeatFreeLaw", "read", "(LRepeatFree;[J)I"⟩ ∈ gw_G := gt_3 (i := 49) rfl rfl
set_option maxRecDepth 100000 in
theorem gw_640 : Cond.codeWith yL_read cL_read 3 (some .int) [(0, 8, 11, 13)] ∈ gw_G := gt_3 (i := 50) rfl rfl
set_option maxRecDepth 100000 in
theorem gw_641 : Cond.classLink "RepeatFreeLaw" 13 "java/lang/IllegalArgumentException" ∈ gw_G := gt_3 (i := 51) rfl rfl
set_option maxRecDepth 100000 in
theorem gw_642 : Cond.methodLink "RepeatFreeLaw" 7 ⟨"RepeatFree", "read", "()I"⟩ ∈ gw_G := gt_3 (i := 52) rfl rfl
set_option maxRecDepth 100000 in
theorem gw_643 : Cond.instanceMethod ⟨"RepeatFree", "read", "()I"⟩ ∈ gw_G := gt_3 (i := 53) rfl rfl
set_option maxRecDepth 100000 in
theorem gw_644 : Cond.selects "RepeatFree" ⟨"RepeatFree", "read", "()I"⟩ ⟨"RepeatFree", "read", "()I"⟩ ∈ gw_G := gt_3 (i := 54) rfl rfl
set_option maxRecDepth 100000 in
theorem gw_645 : Cond.code yX10_read cX10_read 3 (some .int) ∈ gw_G := gt_3 (i := 55) rfl rfl
set_option maxRecDepth 100000 in
theorem gw_646 : Cond.methodLink "RepeatFree" 80 ⟨"RepeatFree$Reader", "takesText", "(LRepeatFree$Told;)Z"⟩ ∈ gw_G := gt_3 (i := 56) rfl rfl
set_option maxRecDepth 100000 in
theorem gw_647 : Cond.instanceMethod ⟨"RepeatFree$Reader", "takesText", "(LRepeatFree$Told;)Z"⟩ ∈ gw_G := gt_3 (i := 57) rfl rfl
set_option maxRecDepth 100000 in
theorem gw_648 : Cond.selects "RepeatFree$Reader" ⟨"RepeatFree$Reader", "takesText", "(LRepeatFree$Told;)Z"⟩ ⟨"RepeatFree$Reader", "takesText", "(LRepeatFree$Told;)Z"⟩ ∈ gw_G := gt_3 (i := 58) rfl rfl
set_option maxRecDepth 100000 in
theorem gw_649 : Cond.code yX4_takesText cX4_takesText 4 (some .boolean) ∈ gw_G := gt_3 (i := 59) rfl rfl
set_option maxRecDepth 100000 in
theorem gw_650 : Cond.methodLink "RepeatFree$Reader" 31 ⟨"RepeatFree$Reader", "begin", "()V"⟩ ∈ gw_G := gt_3 (i := 60) rfl rfl
set_option maxRecDepth 100000 in
theorem gw_652 : Cond.instanceMethod ⟨"RepeatFree$Reader", "begin", "()V"⟩ ∈ gw_G := gt_3 (i := 62) rfl rfl
set_option maxRecDepth 100000 in
theorem gw_653 : Cond.code yX4_begin cX4_begin 1 none ∈ gw_G := gt_3 (i := 63) rfl rfl
set_option maxRecDepth 100000 in
theorem gw_654 : Cond.methodLink "RepeatFree$Reader" 34 ⟨"RepeatFree$Told", "clear", "()V"⟩ ∈ gw_G := gt_3 (i := 64) rfl rfl
set_option maxRecDepth 100000 in
theorem gw_655 : Cond.instanceMethod ⟨"RepeatFree$Told", "clear", "()V"⟩ ∈ gw_G := gt_3 (i := 65) rfl rfl
set_option maxRecDepth 100000 in
theorem gw_656 : Cond.selects "RepeatFree$Told" ⟨"RepeatFree$Told", "clear", "()V"⟩ ⟨"RepeatFree$Told", "clear", "()V"⟩ ∈ gw_G := gt_3 (i := 66) rfl rfl
set_option maxRecDepth 100000 in
theorem gw_657 : Cond.code yX9_clear cX9_clear 1 none ∈ gw_G := gt_3 (i := 67) rfl rfl
set_option maxRecDepth 100000 in
theorem gw_658 : Cond.methodLink "RepeatFree$Told" 44 ⟨"RepeatFree$Told", "setLimit", "(III)V"⟩ ∈ gw_G := gt_3 (i := 68) rfl rfl
set_option maxRecDepth 100000 in
theorem gw_659 : Cond.instanceMethod ⟨"RepeatFree$Told", "setLimit", "(III)V"⟩ ∈ gw_G := gt_3 (i := 69) rfl rfl
set_option maxRecDepth 100000 in
theorem gw_660 : Cond.selects "RepeatFree$Told" ⟨"RepeatFree$Told", "setLimit", "(III)V"⟩ ⟨"RepeatFree$Told", "setLimit", "(III)V"⟩ ∈ gw_G := gt_3 (i := 70) rfl rfl
set_option maxRecDepth 100000 in
theorem gw_661 : Cond.code yX9_setLimit cX9_setLimit 4 none ∈ gw_G := gt_3 (i := 71) rfl rfl
set_option maxRecDepth 100000 in
theorem gw_663 : Cond.methodLink "RepeatFree$Reader" 41 ⟨"RepeatFree$Reader", "takesKeyword", "(Ljava/lang/String;)Z"⟩ ∈ gw_G := gt_3 (i := 73) rfl rfl
set_option maxRecDepth 100000 in
theorem gw_665 : Cond.instanceMethod ⟨"RepeatFree$Reader", "takesKeyword", "(Ljava/lang/String;)Z"⟩ ∈ gw_G := gt_3 (i := 75) rfl rfl
set_option maxRecDepth 100000 in
theorem gw_666 : Cond.code yX4_takesKeyword cX4_takesKeyword 2 (some .boolean) ∈ gw_G := gt_3 (i := 76) rfl rfl
set_option maxRecDepth 100000 in
theorem gw_667 : Cond.methodLink "RepeatFree$Reader" 95 ⟨"RepeatFree$Reader", "takesWord", "()Z"⟩ ∈ gw_G := gt_3 (i := 77) rfl rfl
set_option maxRecDepth 100000 in
theorem gw_669 : Cond.instanceMethod ⟨"RepeatFree$Reader", "takesWord", "()Z"⟩ ∈ gw_G := gt_3 (i := 79) rfl rfl
set_option maxRecDepth 100000 in
theorem gw_670 : Cond.code yX4_takesWord cX4_takesWord 1 (some .boolean) ∈ gw_G := gt_3 (i := 80) rfl rfl
set_option maxRecDepth 100000 in
theorem gw_671 : Cond.methodLink "RepeatFree$Reader" 55 ⟨"RepeatFree$Reader", "skipBlanks", "()V"⟩ ∈ gw_G := gt_3 (i := 81) rfl rfl
set_option maxRecDepth 100000 in
theorem gw_673 : Cond.instanceMethod ⟨"RepeatFree$Reader", "skipBlanks", "()V"⟩ ∈ gw_G := gt_3 (i := 83) rfl rfl
set_option maxRecDepth 100000 in
theorem gw_674 : Cond.code yX4_skipBlanks cX4_skipBlanks 1 none ∈ gw_G := gt_3 (i := 84) rfl rfl
set_option maxRecDepth 100000 in
theorem gw_675 : Cond.methodLink "RepeatFree$Reader" 68 ⟨"RepeatFree$Tape", "at", "(I)I"⟩ ∈ gw_G := gt_3 (i := 85) rfl rfl
set_option maxRecDepth 100000 in
theorem gw_676 : Cond.instanceMethod ⟨"RepeatFree$Tape", "at", "(I)I"⟩ ∈ gw_G := gt_3 (i := 86) rfl rfl
set_option maxRecDepth 100000 in
theorem gw_677 : Cond.selects "RepeatFree$Tape" ⟨"RepeatFree$Tape", "at", "(I)I"⟩ ⟨"RepeatFree$Tape", "at", "(I)I"⟩ ∈ gw_G := gt_3 (i := 87) rfl rfl
set_option maxRecDepth 100000 in
theorem gw_678 : Cond.code yX8_at cX8_at 2 (some .int) ∈ gw_G := gt_3 (i := 88) rfl rfl
set_option maxRecDepth 100000 in
theorem gw_679 : Cond.methodLink "RepeatFree$Reader" 82 ⟨"RepeatFree$Tape", "isBlank", "(I)Z"⟩ ∈ gw_G := gt_3 (i := 89) rfl rfl
set_option maxRecDepth 100000 in
theorem gw_680 : Cond.static ⟨"RepeatFree$Tape", "isBlank", "(I)Z"⟩ ∈ gw_G := gt_3 (i := 90) rfl rfl
set_option maxRecDepth 100000 in
theorem gw_681 : Cond.code yX8_isBlank cX8_isBlank 1 (some .boolean) ∈ gw_G := gt_3 (i := 91) rfl rfl
set_option maxRecDepth 100000 in
theorem gw_682 : Cond.methodLink "RepeatFree$Reader" 71 ⟨"RepeatFree$Tape", "isSmall", "(I)Z"⟩ ∈ gw_G := gt_3 (i := 92) rfl rfl
set_option maxRecDepth 100000 in
theorem gw_683 : Cond.static ⟨"RepeatFree$Tape", "isSmall", "(I)Z"⟩ ∈ gw_G := gt_3 (i := 93) rfl rfl
set_option maxRecDepth 100000 in
theorem gw_684 : Cond.code yX8_isSmall cX8_isSmall 1 (some .boolean) ∈ gw_G := gt_3 (i := 94) rfl rfl
set_option maxRecDepth 100000 in
theorem gw_685 : Cond.methodLink "RepeatFree$Reader" 75 ⟨"RepeatFree$Reader", "miss", "(I)Z"⟩ ∈ gw_G := gt_3 (i := 95) rfl rfl
set_option maxRecDepth 100000 in
theorem gw_687 : Cond.instanceMethod ⟨"RepeatFree$Reader", "miss", "(I)Z"⟩ ∈ gw_G := gt_3 (i := 97) rfl rfl
set_option maxRecDepth 100000 in
theorem gw_688 : Cond.code yX4_miss cX4_miss 2 (some .boolean) ∈ gw_G := gt_3 (i := 98) rfl rfl
set_option maxRecDepth 100000 in
theorem gw_689 : Cond.methodLink "RepeatFree$Reader" 99 ⟨"RepeatFree$Reader", "isWord", "(Ljava/lang/String;)Z"⟩ ∈ gw_G := gt_3 (i := 99) rfl rfl
set_option maxRecDepth 100000 in
theorem gw_691 : Cond.instanceMethod ⟨"RepeatFree$Reader", "isWord", "(Ljava/lang/String;)Z"⟩ ∈ gw_G := gt_3 (i := 101) rfl rfl
set_option maxRecDepth 100000 in
theorem gw_692 : Cond.code yX4_isWord cX4_isWord 3 (some .boolean) ∈ gw_G := gt_3 (i := 102) rfl rfl
set_option maxRecDepth 100000 in
theorem gw_693 : Cond.methodLink "RepeatFree$Reader" 85 ⟨"java/lang/String", "length", "()I"⟩ ∈ gw_G := gt_3 (i := 103) rfl rfl
set_option maxRecDepth 100000 in
theorem gw_703 : Cond.methodLink "RepeatFree$Reader" 91 ⟨"java/lang/String", "charAt", "(I)C"⟩ ∈ gw_G := gt_3 (i := 113) rfl rfl
set_option maxRecDepth 100000 in
theorem gw_741 : Cond.methodLink "RepeatFree$Reader" 45 ⟨"RepeatFree$Reader", "takesNumber", "(II)Z"⟩ ∈ gw_G := gt_3 (i := 151) rfl rfl
set_option maxRecDepth 100000 in
theorem gw_743 : Cond.instanceMethod ⟨"RepeatFree$Reader", "takesNumber", "(II)Z"⟩ ∈ gw_G := gt_3 (i := 153) rfl rfl
set_option maxRecDepth 100000 in
theorem gw_744 : Cond.code yX4_takesNumber cX4_takesNumber 4 (some .boolean) ∈ gw_G := gt_3 (i := 154) rfl rfl
set_option maxRecDepth 100000 in
theorem gw_745 : Cond.methodLink "RepeatFree$Reader" 102 ⟨"RepeatFree$Tape", "isDigit", "(I)Z"⟩ ∈ gw_G := gt_3 (i := 155) rfl rfl
set_option maxRecDepth 100000 in
theorem gw_746 : Cond.static ⟨"RepeatFree$Tape", "isDigit", "(I)Z"⟩ ∈ gw_G := gt_3 (i := 156) rfl rfl
set_option maxRecDepth 100000 in
theorem gw_747 : Cond.code yX8_isDigit cX8_isDigit 1 (some .boolean) ∈ gw_G := gt_3 (i := 157) rfl rfl
set_option maxRecDepth 100000 in
theorem gw_748 : Cond.methodLink "RepeatFree$Reader" 51 ⟨"RepeatFree$Reader", "takesSign", "(I)Z"⟩ ∈ gw_G := gt_3 (i := 158) rfl rfl
set_option maxRecDepth 100000 in
theorem gw_750 : Cond.instanceMethod ⟨"RepeatFree$Reader", "takesSign", "(I)Z"⟩ ∈ gw_G := gt_3 (i := 160) rfl rfl
set_option maxRecDepth 100000 in
theorem gw_751 : Cond.code yX4_takesSign cX4_takesSign 2 (some .boolean) ∈ gw_G := gt_3 (i := 161) rfl rfl
set_option maxRecDepth 100000 in
theorem gw_752 : Cond.methodLink "RepeatFree$Reader" 61 ⟨"RepeatFree$Reader", "takesLine", "(LRepeatFree$Told;)Z"⟩ ∈ gw_G := gt_3 (i := 162) rfl rfl
set_option maxRecDepth 100000 in
theorem gw_754 : Cond.instanceMethod ⟨"RepeatFree$Reader", "takesLine", "(LRepeatFree$Told;)Z"⟩ ∈ gw_G := gt_3 (i := 164) rfl rfl
set_option maxRecDepth 100000 in
theorem gw_755 : Cond.code yX4_takesLine cX4_takesLine 2 (some .boolean) ∈ gw_G := gt_3 (i := 165) rfl rfl
set_option maxRecDepth 100000 in
theorem gw_757 : Cond.methodLink "RepeatFree$Reader" 110 ⟨"RepeatFree$Reader", "takesLimit", "(LRepeatFree$Told;)Z"⟩ ∈ gw_G := gt_3 (i := 167) rfl rfl
set_option maxRecDepth 100000 in
theorem gw_759 : Cond.instanceMethod ⟨"RepeatFree$Reader", "takesLimit", "(LRepeatFree$Told;)Z"⟩ ∈ gw_G := gt_3 (i := 169) rfl rfl
set_option maxRecDepth 100000 in
theorem gw_760 : Cond.code yX4_takesLimit cX4_takesLimit 4 (some .boolean) ∈ gw_G := gt_3 (i := 170) rfl rfl
set_option maxRecDepth 100000 in
theorem gw_764 : Cond.methodLink "RepeatFree$Reader" 134 ⟨"RepeatFree$Told", "setLimit", "(III)V"⟩ ∈ gw_G := gt_3 (i := 174) rfl rfl
set_option maxRecDepth 100000 in
theorem gw_766 : Cond.methodLink "RepeatFree$Reader" 115 ⟨"RepeatFree$Reader", "takesMap", "(LRepeatFree$Told;)Z"⟩ ∈ gw_G := gt_3 (i := 176) rfl rfl
set_option maxRecDepth 100000 in
theorem gw_768 : Cond.instanceMethod ⟨"RepeatFree$Reader", "takesMap", "(LRepeatFree$Told;)Z"⟩ ∈ gw_G := gt_3 (i := 178) rfl rfl
set_option maxRecDepth 100000 in
theorem gw_769 : Cond.code yX4_takesMap cX4_takesMap 4 (some .boolean) ∈ gw_G := gt_3 (i := 179) rfl rfl
set_option maxRecDepth 100000 in
theorem gw_770 : Cond.methodLink "RepeatFree$Reader" 154 ⟨"RepeatFree$Told", "mapAt", "(I)LRepeatFree$Morph;"⟩ ∈ gw_G := gt_3 (i := 180) rfl rfl
set_option maxRecDepth 100000 in
theorem gw_771 : Cond.instanceMethod ⟨"RepeatFree$Told", "mapAt", "(I)LRepeatFree$Morph;"⟩ ∈ gw_G := gt_3 (i := 181) rfl rfl
set_option maxRecDepth 100000 in
theorem gw_772 : Cond.selects "RepeatFree$Told" ⟨"RepeatFree$Told", "mapAt", "(I)LRepeatFree$Morph;"⟩ ⟨"RepeatFree$Told", "mapAt", "(I)LRepeatFree$Morph;"⟩ ∈ gw_G := gt_3 (i := 182) rfl rfl
set_option maxRecDepth 100000 in
theorem gw_773 : Cond.code yX9_mapAt cX9_mapAt 2 (some (.object "RepeatFree$Morph")) ∈ gw_G := gt_3 (i := 183) rfl rfl
set_option maxRecDepth 100000 in
theorem gw_774 : Cond.methodLink "RepeatFree$Reader" 164 ⟨"RepeatFree$Reader", "takesNewName", "(LRepeatFree$Told;LRepeatFree$Name;)Z"⟩ ∈ gw_G := gt_3 (i := 184) rfl rfl
set_option maxRecDepth 100000 in
theorem gw_776 : Cond.instanceMethod ⟨"RepeatFree$Reader", "takesNewName", "(LRepeatFree$Told;LRepeatFree$Name;)Z"⟩ ∈ gw_G := gt_3 (i := 186) rfl rfl
set_option maxRecDepth 100000 in
theorem gw_777 : Cond.code yX4_takesNewName cX4_takesNewName 3 (some .boolean) ∈ gw_G := gt_3 (i := 187) rfl rfl
set_option maxRecDepth 100000 in
theorem gw_778 : Cond.methodLink "RepeatFree$Reader" 138 ⟨"RepeatFree$Reader", "isReserved", "()Z"⟩ ∈ gw_G := gt_3 (i := 188) rfl rfl
set_option maxRecDepth 100000 in
theorem gw_780 : Cond.instanceMethod ⟨"RepeatFree$Reader", "isReserved", "()Z"⟩ ∈ gw_G := gt_3 (i := 190) rfl rfl
set_option maxRecDepth 100000 in
theorem gw_781 : Cond.code yX4_isReserved cX4_isReserved 1 (some .boolean) ∈ gw_G := gt_3 (i := 191) rfl rfl
set_option maxRecDepth 100000 in
theorem gw_784 : Cond.methodLink "RepeatFree$Reader" 141 ⟨"RepeatFree$Told", "isNamed", "(LRepeatFree$Tape;II)Z"⟩ ∈ gw_G := gt_3 (i := 194) rfl rfl
set_option maxRecDepth 100000 in
theorem gw_785 : Cond.instanceMethod ⟨"RepeatFree$Told", "isNamed", "(LRepeatFree$Tape;II)Z"⟩ ∈ gw_G := gt_3 (i := 195) rfl rfl
set_option maxRecDepth 100000 in
theorem gw_786 : Cond.selects "RepeatFree$Told" ⟨"RepeatFree$Told", "isNamed", "(LRepeatFree$Tape;II)Z"⟩ ⟨"RepeatFree$Told", "isNamed", "(LRepeatFree$Tape;II)Z"⟩ ∈ gw_G := gt_3 (i := 196) rfl rfl
set_option maxRecDepth 100000 in
theorem gw_787 : Cond.code yX9_isNamed cX9_isNamed 6 (some .boolean) ∈ gw_G := gt_3 (i := 197) rfl rfl
set_option maxRecDepth 100000 in
theorem gw_788 : Cond.methodLink "RepeatFree$Told" 48 ⟨"RepeatFree$Told", "mapAt", "(I)LRepeatFree$Morph;"⟩ ∈ gw_G := gt_3 (i := 198) rfl rfl
set_option maxRecDepth 100000 in
theorem gw_789 : Cond.methodLink "RepeatFree$Told" 56 ⟨"RepeatFree$Name", "isAt", "(LRepeatFree$Tape;II)Z"⟩ ∈ gw_G := gt_3 (i := 199) rfl rfl
set_option maxRecDepth 100000 in
theorem gw_790 : Cond.instanceMethod ⟨"RepeatFree$Name", "isAt", "(LRepeatFree$Tape;II)Z"⟩ ∈ gw_G := gt_3 (i := 200) rfl rfl
set_option maxRecDepth 100000 in
theorem gw_791 : Cond.selects "RepeatFree$Name" ⟨"RepeatFree$Name", "isAt", "(LRepeatFree$Tape;II)Z"⟩ ⟨"RepeatFree$Name", "isAt", "(LRepeatFree$Tape;II)Z"⟩ ∈ gw_G := gt_3 (i := 201) rfl rfl
set_option maxRecDepth 100000 in
theorem gw_792 : Cond.code yX3_isAt cX3_isAt 5 (some .boolean) ∈ gw_G := gt_3 (i := 202) rfl rfl
set_option maxRecDepth 100000 in
theorem gw_793 : Cond.methodLink "RepeatFree$Name" 19 ⟨"RepeatFree$Tape", "at", "(I)I"⟩ ∈ gw_G := gt_3 (i := 203) rfl rfl
set_option maxRecDepth 100000 in
theorem gw_794 : Cond.methodLink "RepeatFree$Reader" 145 ⟨"RepeatFree$Name", "put", "(LRepeatFree$Tape;II)V"⟩ ∈ gw_G := gt_3 (i := 204) rfl rfl
set_option maxRecDepth 100000 in
theorem gw_795 : Cond.instanceMethod ⟨"RepeatFree$Name", "put", "(LRepeatFree$Tape;II)V"⟩ ∈ gw_G := gt_3 (i := 205) rfl rfl
set_option maxRecDepth 100000 in
theorem gw_796 : Cond.selects "RepeatFree$Name" ⟨"RepeatFree$Name", "put", "(LRepeatFree$Tape;II)V"⟩ ⟨"RepeatFree$Name", "put", "(LRepeatFree$Tape;II)V"⟩ ∈ gw_G := gt_3 (i := 206) rfl rfl
set_option maxRecDepth 100000 in
theorem gw_797 : Cond.code yX3_put cX3_put 5 none ∈ gw_G := gt_3 (i := 207) rfl rfl
set_option maxRecDepth 100000 in
theorem gw_798 : Cond.methodLink "RepeatFree$Reader" 168 ⟨"RepeatFree$Reader", "takesPart", "(III)Z"⟩ ∈ gw_G := gt_3 (i := 208) rfl rfl
set_option maxRecDepth 100000 in
theorem gw_800 : Cond.instanceMethod ⟨"RepeatFree$Reader", "takesPart", "(III)Z"⟩ ∈ gw_G := gt_3 (i := 210) rfl rfl
set_option maxRecDepth 100000 in
theorem gw_801 : Cond.code yX4_takesPart cX4_takesPart 7 (some .boolean) ∈ gw_G := gt_3 (i := 211) rfl rfl
set_option maxRecDepth 100000 in
theorem gw_802 : Cond.methodLink "RepeatFree$Reader" 172 ⟨"RepeatFree$Morph", "put", "(ILRepeatFree$Tape;II)V"⟩ ∈ gw_G := gt_3 (i := 212) rfl rfl
set_option maxRecDepth 100000 in
theorem gw_803 : Cond.instanceMethod ⟨"RepeatFree$Morph", "put", "(ILRepeatFree$Tape;II)V"⟩ ∈ gw_G := gt_3 (i := 213) rfl rfl
set_option maxRecDepth 100000 in
theorem gw_804 : Cond.selects "RepeatFree$Morph" ⟨"RepeatFree$Morph", "put", "(ILRepeatFree$Tape;II)V"⟩ ⟨"RepeatFree$Morph", "put", "(ILRepeatFree$Tape;II)V"⟩ ∈ gw_G := gt_3 (i := 214) rfl rfl
set_option maxRecDepth 100000 in
theorem gw_805 : Cond.code yX2_put cX2_put 7 none ∈ gw_G := gt_3 (i := 215) rfl rfl
set_option maxRecDepth 100000 in
theorem gw_806 : Cond.methodLink "RepeatFree$Morph" 27 ⟨"RepeatFree$Tape", "at", "(I)I"⟩ ∈ gw_G := gt_3 (i := 216) rfl rfl
set_option maxRecDepth 100000 in
theorem gw_807 : Cond.methodLink "RepeatFree$Reader" 120 ⟨"RepeatFree$Reader", "takesShape", "(LRepeatFree$Told;)Z"⟩ ∈ gw_G := gt_3 (i := 217) rfl rfl
set_option maxRecDepth 100000 in
theorem gw_809 : Cond.instanceMethod ⟨"RepeatFree$Reader", "takesShape", "(LRepeatFree$Told;)Z"⟩ ∈ gw_G := gt_3 (i := 219) rfl rfl
set_option maxRecDepth 100000 in
theorem gw_810 : Cond.code yX4_takesShape cX4_takesShape 3 (some .boolean) ∈ gw_G := gt_3 (i := 220) rfl rfl
set_option maxRecDepth 100000 in
theorem gw_811 : Cond.methodLink "RepeatFree$Reader" 178 ⟨"RepeatFree$Told", "shapeAt", "(I)LRepeatFree$Shape;"⟩ ∈ gw_G := gt_3 (i := 221) rfl rfl
set_option maxRecDepth 100000 in
theorem gw_812 : Cond.methodLink "RepeatFree$Reader" 185 ⟨"RepeatFree$Shape", "put", "(LRepeatFree$Tape;II)V"⟩ ∈ gw_G := gt_3 (i := 222) rfl rfl
set_option maxRecDepth 100000 in
theorem gw_813 : Cond.instanceMethod ⟨"RepeatFree$Shape", "put", "(LRepeatFree$Tape;II)V"⟩ ∈ gw_G := gt_3 (i := 223) rfl rfl
set_option maxRecDepth 100000 in
theorem gw_814 : Cond.selects "RepeatFree$Shape" ⟨"RepeatFree$Shape", "put", "(LRepeatFree$Tape;II)V"⟩ ⟨"RepeatFree$Shape", "put", "(LRepeatFree$Tape;II)V"⟩ ∈ gw_G := gt_3 (i := 224) rfl rfl
set_option maxRecDepth 100000 in
theorem gw_815 : Cond.code yX6_put cX6_put 5 none ∈ gw_G := gt_3 (i := 225) rfl rfl
set_option maxRecDepth 100000 in
theorem gw_816 : Cond.methodLink "RepeatFree$Shape" 33 ⟨"RepeatFree$Tape", "at", "(I)I"⟩ ∈ gw_G := gt_3 (i := 226) rfl rfl
set_option maxRecDepth 100000 in
theorem gw_817 : Cond.methodLink "RepeatFree$Shape" 39 ⟨"RepeatFree$Shape", "needingOne", "()I"⟩ ∈ gw_G := gt_3 (i := 227) rfl rfl
set_option maxRecDepth 100000 in
theorem gw_819 : Cond.instanceMethod ⟨"RepeatFree$Shape", "needingOne", "()I"⟩ ∈ gw_G := gt_3 (i := 229) rfl rfl
set_option maxRecDepth 100000 in
theorem gw_820 : Cond.code yX6_needingOne cX6_needingOne 4 (some .int) ∈ gw_G := gt_3 (i := 230) rfl rfl
set_option maxRecDepth 100000 in
theorem gw_821 : Cond.methodLink "RepeatFree$Shape" 43 ⟨"RepeatFree$Shape", "at", "(I)I"⟩ ∈ gw_G := gt_3 (i := 231) rfl rfl
set_option maxRecDepth 100000 in
theorem gw_822 : Cond.methodLink "RepeatFree$Shape" 44 ⟨"RepeatFree$Shape", "times", "(I)I"⟩ ∈ gw_G := gt_3 (i := 232) rfl rfl
set_option maxRecDepth 100000 in
theorem gw_823 : Cond.instanceMethod ⟨"RepeatFree$Shape", "times", "(I)I"⟩ ∈ gw_G := gt_3 (i := 233) rfl rfl
set_option maxRecDepth 100000 in
theorem gw_824 : Cond.selects "RepeatFree$Shape" ⟨"RepeatFree$Shape", "times", "(I)I"⟩ ⟨"RepeatFree$Shape", "times", "(I)I"⟩ ∈ gw_G := gt_3 (i := 234) rfl rfl
set_option maxRecDepth 100000 in
theorem gw_825 : Cond.code yX6_times cX6_times 4 (some .int) ∈ gw_G := gt_3 (i := 235) rfl rfl
set_option maxRecDepth 100000 in
theorem gw_826 : Cond.methodLink "RepeatFree$Reader" 125 ⟨"RepeatFree$Reader", "takesAvoid", "(LRepeatFree$Told;)Z"⟩ ∈ gw_G := gt_3 (i := 236) rfl rfl
set_option maxRecDepth 100000 in
theorem gw_828 : Cond.instanceMethod ⟨"RepeatFree$Reader", "takesAvoid", "(LRepeatFree$Told;)Z"⟩ ∈ gw_G := gt_3 (i := 238) rfl rfl
set_option maxRecDepth 100000 in
theorem gw_829 : Cond.code yX4_takesAvoid cX4_takesAvoid 4 (some .boolean) ∈ gw_G := gt_3 (i := 239) rfl rfl
set_option maxRecDepth 100000 in
theorem gw_830 : Cond.methodLink "RepeatFree$Reader" 190 ⟨"RepeatFree$Name", "isAt", "(LRepeatFree$Tape;II)Z"⟩ ∈ gw_G := gt_4 (i := 0) rfl rfl
set_option maxRecDepth 100000 in
theorem gw_831 : Cond.classLink "RepeatFree" 84 "java/lang/IllegalArgumentException" ∈ gw_G := gt_4 (i := 1) rfl rfl
set_option maxRecDepth 100000 in
theorem gw_833 : Cond.castable "java/lang/IllegalArgumentException" "java/lang/IllegalArgumentException" ∈ gw_X := gv_4 (i := 3) rfl rfl
set_option maxRecDepth 100000 in
theorem gw_895 : Cond.arrayClass .byte ∈ gw_G := gt_4 (i := 65) rfl rfl
set_option maxRecDepth 100000 in
theorem gw_896 : Cond.methodLink "RepeatFree" 90 ⟨"RepeatFree$Acts", "clear", "()V"⟩ ∈ gw_G := gt_4 (i := 66) rfl rfl
set_option maxRecDepth 100000 in
theorem gw_897 : Cond.instanceMethod ⟨"RepeatFree$Acts", "clear", "()V"⟩ ∈ gw_G := gt_4 (i := 67) rfl rfl
set_option maxRecDepth 100000 in
theorem gw_898 : Cond.selects "RepeatFree$Acts" ⟨"RepeatFree$Acts", "clear", "()V"⟩ ⟨"RepeatFree$Acts", "clear", "()V"⟩ ∈ gw_G := gt_4 (i := 68) rfl rfl
set_option maxRecDepth 100000 in
theorem gw_899 : Cond.code yX0_clear cX0_clear 1 none ∈ gw_G := gt_4 (i := 69) rfl rfl
set_option maxRecDepth 100000 in
theorem gw_900 : Cond.methodLink "RepeatFreeLaw" 151 ⟨"RepeatFreeLaw", "word", "(LRepeatFree;[J)I"⟩ ∈ gw_G := gt_4 (i := 70) rfl rfl
set_option maxRecDepth 100000 in
theorem gw_901 : Cond.static ⟨"RepeatFreeLaw", "word", "(LRepeatFree;[J)I"⟩ ∈ gw_G := gt_4 (i := 71) rfl rfl
set_option maxRecDepth 100000 in
theorem gw_902 : Cond.codeWith yL_word cL_word 3 (some .int) [(0, 8, 11, 13)] ∈ gw_G := gt_4 (i := 72) rfl rfl
set_option maxRecDepth 100000 in
theorem gw_903 : Cond.methodLink "RepeatFreeLaw" 15 ⟨"RepeatFree", "word", "()I"⟩ ∈ gw_G := gt_4 (i := 73) rfl rfl
set_option maxRecDepth 100000 in
theorem gw_904 : Cond.instanceMethod ⟨"RepeatFree", "word", "()I"⟩ ∈ gw_G := gt_4 (i := 74) rfl rfl
set_option maxRecDepth 100000 in
theorem gw_905 : Cond.selects "RepeatFree" ⟨"RepeatFree", "word", "()I"⟩ ⟨"RepeatFree", "word", "()I"⟩ ∈ gw_G := gt_4 (i := 75) rfl rfl
set_option maxRecDepth 100000 in
theorem gw_906 : Cond.code yX10_word cX10_word 2 (some .int) ∈ gw_G := gt_4 (i := 76) rfl rfl
set_option maxRecDepth 100000 in
theorem gw_907 : Cond.methodLink "RepeatFree" 94 ⟨"RepeatFree$Reader", "takesLetters", "(ILRepeatFree$Line;)Z"⟩ ∈ gw_G := gt_4 (i := 77) rfl rfl
set_option maxRecDepth 100000 in
theorem gw_908 : Cond.instanceMethod ⟨"RepeatFree$Reader", "takesLetters", "(ILRepeatFree$Line;)Z"⟩ ∈ gw_G := gt_4 (i := 78) rfl rfl
set_option maxRecDepth 100000 in
theorem gw_909 : Cond.selects "RepeatFree$Reader" ⟨"RepeatFree$Reader", "takesLetters", "(ILRepeatFree$Line;)Z"⟩ ⟨"RepeatFree$Reader", "takesLetters", "(ILRepeatFree$Line;)Z"⟩ ∈ gw_G := gt_4 (i := 79) rfl rfl
set_option maxRecDepth 100000 in
theorem gw_910 : Cond.code yX4_takesLetters cX4_takesLetters 3 (some .boolean) ∈ gw_G := gt_4 (i := 80) rfl rfl
set_option maxRecDepth 100000 in
theorem gw_911 : Cond.methodLink "RepeatFree$Reader" 65 ⟨"RepeatFree$Line", "clear", "()V"⟩ ∈ gw_G := gt_4 (i := 81) rfl rfl
set_option maxRecDepth 100000 in
theorem gw_912 : Cond.methodLink "RepeatFree$Reader" 78 ⟨"RepeatFree$Line", "add", "(I)V"⟩ ∈ gw_G := gt_4 (i := 82) rfl rfl
set_option maxRecDepth 100000 in
theorem gw_913 : Cond.methodLink "RepeatFree" 98 ⟨"RepeatFree", "become", "(LRepeatFree$Line;)V"⟩ ∈ gw_G := gt_4 (i := 83) rfl rfl
set_option maxRecDepth 100000 in
theorem gw_915 : Cond.instanceMethod ⟨"RepeatFree", "become", "(LRepeatFree$Line;)V"⟩ ∈ gw_G := gt_4 (i := 85) rfl rfl
set_option maxRecDepth 100000 in
theorem gw_916 : Cond.code yX10_become cX10_become 2 none ∈ gw_G := gt_4 (i := 86) rfl rfl
set_option maxRecDepth 100000 in
theorem gw_917 : Cond.methodLink "RepeatFree" 116 ⟨"RepeatFree$Acts", "keep", "(LRepeatFree$Line;)V"⟩ ∈ gw_G := gt_4 (i := 87) rfl rfl
set_option maxRecDepth 100000 in
theorem gw_918 : Cond.instanceMethod ⟨"RepeatFree$Acts", "keep", "(LRepeatFree$Line;)V"⟩ ∈ gw_G := gt_4 (i := 88) rfl rfl
set_option maxRecDepth 100000 in
theorem gw_919 : Cond.selects "RepeatFree$Acts" ⟨"RepeatFree$Acts", "keep", "(LRepeatFree$Line;)V"⟩ ⟨"RepeatFree$Acts", "keep", "(LRepeatFree$Line;)V"⟩ ∈ gw_G := gt_4 (i := 89) rfl rfl
set_option maxRecDepth 100000 in
theorem gw_920 : Cond.code yX0_keep cX0_keep 4 none ∈ gw_G := gt_4 (i := 90) rfl rfl
set_option maxRecDepth 100000 in
theorem gw_921 : Cond.methodLink "RepeatFree$Acts" 32 ⟨"RepeatFree$Line", "at", "(I)I"⟩ ∈ gw_G := gt_4 (i := 91) rfl rfl
set_option maxRecDepth 100000 in
theorem gw_922 : Cond.methodLink "RepeatFree$Acts" 36 ⟨"java/lang/Math", "min", "(II)I"⟩ ∈ gw_G := gt_4 (i := 92) rfl rfl
set_option maxRecDepth 100000 in
theorem gw_923 : Cond.methodLink "RepeatFree" 131 ⟨"RepeatFree$Line", "copy", "(LRepeatFree$Line;I)V"⟩ ∈ gw_G := gt_4 (i := 93) rfl rfl
set_option maxRecDepth 100000 in
theorem gw_924 : Cond.methodLink "RepeatFreeLaw" 162 ⟨"RepeatFreeLaw", "push", "(LRepeatFree;I[J)I"⟩ ∈ gw_G := gt_4 (i := 94) rfl rfl
set_option maxRecDepth 100000 in
theorem gw_925 : Cond.static ⟨"RepeatFreeLaw", "push", "(LRepeatFree;I[J)I"⟩ ∈ gw_G := gt_4 (i := 95) rfl rfl
set_option maxRecDepth 100000 in
theorem gw_926 : Cond.codeWith yL_push cL_push 4 (some .int) [(0, 9, 12, 13), (0, 9, 15, 22)] ∈ gw_G := gt_4 (i := 96) rfl rfl
set_option maxRecDepth 100000 in
theorem gw_927 : Cond.classLink "RepeatFreeLaw" 22 "java/lang/IllegalStateException" ∈ gw_G := gt_4 (i := 97) rfl rfl
set_option maxRecDepth 100000 in
theorem gw_928 : Cond.methodLink "RepeatFreeLaw" 18 ⟨"RepeatFree", "push", "(I)I"⟩ ∈ gw_G := gt_4 (i := 98) rfl rfl
set_option maxRecDepth 100000 in
theorem gw_929 : Cond.instanceMethod ⟨"RepeatFree", "push", "(I)I"⟩ ∈ gw_G := gt_4 (i := 99) rfl rfl
set_option maxRecDepth 100000 in
theorem gw_930 : Cond.selects "RepeatFree" ⟨"RepeatFree", "push", "(I)I"⟩ ⟨"RepeatFree", "push", "(I)I"⟩ ∈ gw_G := gt_4 (i := 100) rfl rfl
set_option maxRecDepth 100000 in
theorem gw_931 : Cond.code yX10_push cX10_push 2 (some .int) ∈ gw_G := gt_4 (i := 101) rfl rfl
set_option maxRecDepth 100000 in
theorem gw_932 : Cond.methodLink "RepeatFree" 110 ⟨"RepeatFree", "checkLetter", "(I)V"⟩ ∈ gw_G := gt_4 (i := 102) rfl rfl
set_option maxRecDepth 100000 in
theorem gw_934 : Cond.instanceMethod ⟨"RepeatFree", "checkLetter", "(I)V"⟩ ∈ gw_G := gt_4 (i := 104) rfl rfl
set_option maxRecDepth 100000 in
theorem gw_935 : Cond.code yX10_checkLetter cX10_checkLetter 2 none ∈ gw_G := gt_4 (i := 105) rfl rfl
set_option maxRecDepth 100000 in
theorem gw_936 : Cond.classLink "RepeatFree" 113 "java/lang/IllegalStateException" ∈ gw_G := gt_4 (i := 106) rfl rfl
set_option maxRecDepth 100000 in
theorem gw_938 : Cond.castable "java/lang/IllegalStateException" "java/lang/IllegalStateException" ∈ gw_X := gv_4 (i := 108) rfl rfl
set_option maxRecDepth 100000 in
theorem gw_951 : Cond.methodLink "RepeatFreeLaw" 166 ⟨"RepeatFreeLaw", "pop", "(LRepeatFree;[J)I"⟩ ∈ gw_G := gt_4 (i := 121) rfl rfl
set_option maxRecDepth 100000 in
theorem gw_952 : Cond.static ⟨"RepeatFreeLaw", "pop", "(LRepeatFree;[J)I"⟩ ∈ gw_G := gt_4 (i := 122) rfl rfl
set_option maxRecDepth 100000 in
theorem gw_953 : Cond.codeWith yL_pop cL_pop 3 (some .int) [(0, 8, 11, 22)] ∈ gw_G := gt_4 (i := 123) rfl rfl
set_option maxRecDepth 100000 in
theorem gw_954 : Cond.methodLink "RepeatFreeLaw" 24 ⟨"RepeatFree", "pop", "()I"⟩ ∈ gw_G := gt_4 (i := 124) rfl rfl
set_option maxRecDepth 100000 in
theorem gw_955 : Cond.instanceMethod ⟨"RepeatFree", "pop", "()I"⟩ ∈ gw_G := gt_4 (i := 125) rfl rfl
set_option maxRecDepth 100000 in
theorem gw_956 : Cond.selects "RepeatFree" ⟨"RepeatFree", "pop", "()I"⟩ ⟨"RepeatFree", "pop", "()I"⟩ ∈ gw_G := gt_4 (i := 126) rfl rfl
set_option maxRecDepth 100000 in
theorem gw_957 : Cond.code yX10_pop cX10_pop 1 (some .int) ∈ gw_G := gt_4 (i := 127) rfl rfl
set_option maxRecDepth 100000 in
theorem gw_958 : Cond.methodLink "RepeatFree" 120 ⟨"RepeatFree$Line", "dropLast", "()I"⟩ ∈ gw_G := gt_4 (i := 128) rfl rfl
set_option maxRecDepth 100000 in
theorem gw_959 : Cond.methodLink "RepeatFreeLaw" 182 ⟨"RepeatFreeLaw", "greatest", "(LRepeatFree;I[J)I"⟩ ∈ gw_G := gt_4 (i := 129) rfl rfl
set_option maxRecDepth 100000 in
theorem gw_960 : Cond.static ⟨"RepeatFreeLaw", "greatest", "(LRepeatFree;I[J)I"⟩ ∈ gw_G := gt_4 (i := 130) rfl rfl
set_option maxRecDepth 100000 in
theorem gw_961 : Cond.codeWith yL_greatest cL_greatest 4 (some .int) [(0, 9, 12, 30)] ∈ gw_G := gt_4 (i := 131) rfl rfl
set_option maxRecDepth 100000 in
theorem gw_962 : Cond.classLink "RepeatFreeLaw" 30 "java/util/NoSuchElementException" ∈ gw_G := gt_4 (i := 132) rfl rfl
set_option maxRecDepth 100000 in
theorem gw_963 : Cond.methodLink "RepeatFreeLaw" 27 ⟨"RepeatFree", "greatest", "(I)I"⟩ ∈ gw_G := gt_4 (i := 133) rfl rfl
set_option maxRecDepth 100000 in
theorem gw_964 : Cond.instanceMethod ⟨"RepeatFree", "greatest", "(I)I"⟩ ∈ gw_G := gt_4 (i := 134) rfl rfl
set_option maxRecDepth 100000 in
theorem gw_965 : Cond.selects "RepeatFree" ⟨"RepeatFree", "greatest", "(I)I"⟩ ⟨"RepeatFree", "greatest", "(I)I"⟩ ∈ gw_G := gt_4 (i := 135) rfl rfl
set_option maxRecDepth 100000 in
theorem gw_966 : Cond.code yX10_greatest cX10_greatest 11 (some .int) ∈ gw_G := gt_4 (i := 136) rfl rfl
set_option maxRecDepth 100000 in
theorem gw_967 : Cond.methodLink "RepeatFree" 159 ⟨"RepeatFree", "checkWhat", "(II)V"⟩ ∈ gw_G := gt_4 (i := 137) rfl rfl
set_option maxRecDepth 100000 in
theorem gw_969 : Cond.instanceMethod ⟨"RepeatFree", "checkWhat", "(II)V"⟩ ∈ gw_G := gt_4 (i := 139) rfl rfl
set_option maxRecDepth 100000 in
theorem gw_970 : Cond.code yX10_checkWhat cX10_checkWhat 3 none ∈ gw_G := gt_4 (i := 140) rfl rfl
set_option maxRecDepth 100000 in
theorem gw_971 : Cond.classLink "RepeatFree" 135 "java/util/NoSuchElementException" ∈ gw_G := gt_4 (i := 141) rfl rfl
set_option maxRecDepth 100000 in
theorem gw_973 : Cond.castable "java/util/NoSuchElementException" "java/util/NoSuchElementException" ∈ gw_X := gv_4 (i := 143) rfl rfl
set_option maxRecDepth 100000 in
theorem gw_986 : Cond.methodLink "RepeatFreeLaw" 193 ⟨"RepeatFreeLaw", "run", "(LRepeatFree;II[J)I"⟩ ∈ gw_G := gt_4 (i := 156) rfl rfl
set_option maxRecDepth 100000 in
theorem gw_987 : Cond.static ⟨"RepeatFreeLaw", "run", "(LRepeatFree;II[J)I"⟩ ∈ gw_G := gt_4 (i := 157) rfl rfl
set_option maxRecDepth 100000 in
theorem gw_988 : Cond.codeWith yL_run cL_run 5 (some .int) [(0, 10, 13, 30)] ∈ gw_G := gt_4 (i := 158) rfl rfl
set_option maxRecDepth 100000 in
theorem gw_989 : Cond.methodLink "RepeatFreeLaw" 32 ⟨"RepeatFree", "run", "(II)I"⟩ ∈ gw_G := gt_4 (i := 159) rfl rfl
set_option maxRecDepth 100000 in
theorem gw_990 : Cond.instanceMethod ⟨"RepeatFree", "run", "(II)I"⟩ ∈ gw_G := gt_4 (i := 160) rfl rfl
set_option maxRecDepth 100000 in
theorem gw_991 : Cond.selects "RepeatFree" ⟨"RepeatFree", "run", "(II)I"⟩ ⟨"RepeatFree", "run", "(II)I"⟩ ∈ gw_G := gt_4 (i := 161) rfl rfl
set_option maxRecDepth 100000 in
theorem gw_992 : Cond.code yX10_run cX10_run 7 (some .int) ∈ gw_G := gt_4 (i := 162) rfl rfl
set_option maxRecDepth 100000 in
theorem gw_993 : Cond.methodLink "RepeatFree" 170 ⟨"RepeatFree", "runSize", "(II)I"⟩ ∈ gw_G := gt_4 (i := 163) rfl rfl
set_option maxRecDepth 100000 in
theorem gw_995 : Cond.instanceMethod ⟨"RepeatFree", "runSize", "(II)I"⟩ ∈ gw_G := gt_4 (i := 165) rfl rfl
set_option maxRecDepth 100000 in
theorem gw_996 : Cond.code yX10_runSize cX10_runSize 4 (some .int) ∈ gw_G := gt_4 (i := 166) rfl rfl
set_option maxRecDepth 100000 in
theorem gw_997 : Cond.methodLink "RepeatFreeLaw" 197 ⟨"RepeatFreeLaw", "factors", "(LRepeatFree;I[J)I"⟩ ∈ gw_G := gt_4 (i := 167) rfl rfl
set_option maxRecDepth 100000 in
theorem gw_998 : Cond.static ⟨"RepeatFreeLaw", "factors", "(LRepeatFree;I[J)I"⟩ ∈ gw_G := gt_4 (i := 168) rfl rfl
set_option maxRecDepth 100000 in
theorem gw_999 : Cond.codeWith yL_factors cL_factors 4 (some .int) [(0, 9, 12, 13)] ∈ gw_G := gt_4 (i := 169) rfl rfl
set_option maxRecDepth 100000 in
theorem gw_1000 : Cond.methodLink "RepeatFreeLaw" 36 ⟨"RepeatFree", "factors", "(I)I"⟩ ∈ gw_G := gt_4 (i := 170) rfl rfl
set_option maxRecDepth 100000 in
theorem gw_1001 : Cond.instanceMethod ⟨"RepeatFree", "factors", "(I)I"⟩ ∈ gw_G := gt_4 (i := 171) rfl rfl
set_option maxRecDepth 100000 in
theorem gw_1002 : Cond.selects "RepeatFree" ⟨"RepeatFree", "factors", "(I)I"⟩ ⟨"RepeatFree", "factors", "(I)I"⟩ ∈ gw_G := gt_4 (i := 172) rfl rfl
set_option maxRecDepth 100000 in
theorem gw_1003 : Cond.code yX10_factors cX10_factors 6 (some .int) ∈ gw_G := gt_4 (i := 173) rfl rfl
set_option maxRecDepth 100000 in
theorem gw_1004 : Cond.methodLink "RepeatFree" 173 ⟨"RepeatFree", "checkRange", "(III)V"⟩ ∈ gw_G := gt_4 (i := 174) rfl rfl
set_option maxRecDepth 100000 in
theorem gw_1006 : Cond.instanceMethod ⟨"RepeatFree", "checkRange", "(III)V"⟩ ∈ gw_G := gt_4 (i := 176) rfl rfl
set_option maxRecDepth 100000 in
theorem gw_1007 : Cond.code yX10_checkRange cX10_checkRange 4 none ∈ gw_G := gt_4 (i := 177) rfl rfl
set_option maxRecDepth 100000 in
theorem gw_1008 : Cond.methodLink "RepeatFreeLaw" 204 ⟨"RepeatFreeLaw", "met", "(LRepeatFree;II[J)I"⟩ ∈ gw_G := gt_4 (i := 178) rfl rfl
set_option maxRecDepth 100000 in
theorem gw_1009 : Cond.static ⟨"RepeatFreeLaw", "met", "(LRepeatFree;II[J)I"⟩ ∈ gw_G := gt_4 (i := 179) rfl rfl
set_option maxRecDepth 100000 in
theorem gw_1010 : Cond.codeWith yL_met cL_met 5 (some .int) [(0, 10, 13, 42), (0, 10, 17, 30)] ∈ gw_G := gt_4 (i := 180) rfl rfl
set_option maxRecDepth 100000 in
theorem gw_1011 : Cond.classLink "RepeatFreeLaw" 42 "java/lang/IndexOutOfBoundsException" ∈ gw_G := gt_4 (i := 181) rfl rfl
set_option maxRecDepth 100000 in
theorem gw_1012 : Cond.methodLink "RepeatFreeLaw" 39 ⟨"RepeatFree", "met", "(II)I"⟩ ∈ gw_G := gt_4 (i := 182) rfl rfl
set_option maxRecDepth 100000 in
theorem gw_1013 : Cond.instanceMethod ⟨"RepeatFree", "met", "(II)I"⟩ ∈ gw_G := gt_4 (i := 183) rfl rfl
set_option maxRecDepth 100000 in
theorem gw_1014 : Cond.selects "RepeatFree" ⟨"RepeatFree", "met", "(II)I"⟩ ⟨"RepeatFree", "met", "(II)I"⟩ ∈ gw_G := gt_4 (i := 184) rfl rfl
set_option maxRecDepth 100000 in
theorem gw_1015 : Cond.code yX10_met cX10_met 5 (some .int) ∈ gw_G := gt_4 (i := 185) rfl rfl
set_option maxRecDepth 100000 in
theorem gw_1016 : Cond.methodLink "RepeatFree" 192 ⟨"RepeatFree", "shapeOf", "(I)LRepeatFree$Shape;"⟩ ∈ gw_G := gt_4 (i := 186) rfl rfl
set_option maxRecDepth 100000 in
theorem gw_1018 : Cond.instanceMethod ⟨"RepeatFree", "shapeOf", "(I)LRepeatFree$Shape;"⟩ ∈ gw_G := gt_4 (i := 188) rfl rfl
set_option maxRecDepth 100000 in
theorem gw_1019 : Cond.code yX10_shapeOf cX10_shapeOf 3 (some (.object "RepeatFree$Shape")) ∈ gw_G := gt_4 (i := 189) rfl rfl
set_option maxRecDepth 100000 in
theorem gw_1020 : Cond.methodLink "RepeatFree" 151 ⟨"RepeatFree$Told", "shapeAt", "(I)LRepeatFree$Shape;"⟩ ∈ gw_G := gt_4 (i := 190) rfl rfl
set_option maxRecDepth 100000 in
theorem gw_1021 : Cond.classLink "RepeatFree" 145 "java/lang/IndexOutOfBoundsException" ∈ gw_G := gt_4 (i := 191) rfl rfl
set_option maxRecDepth 100000 in
theorem gw_1023 : Cond.castable "java/lang/IndexOutOfBoundsException" "java/lang/IndexOutOfBoundsException" ∈ gw_X := gv_4 (i := 193) rfl rfl
set_option maxRecDepth 100000 in
theorem gw_1036 : Cond.methodLinkNest "RepeatFree" 198 ⟨"RepeatFree$Sizes", "lays", "(LRepeatFree$Line;LRepeatFree$Shape;LRepeatFree$Sizes;III)Z"⟩ "RepeatFree" ∈ gw_X := gv_4 (i := 206) rfl rfl
set_option maxRecDepth 100000 in
theorem gw_1037 : Cond.methodLink "RepeatFree" 202 ⟨"RepeatFree$Sizes", "choose", "(LRepeatFree$Line;LRepeatFree$Shape;IZI)I"⟩ ∈ gw_G := gt_4 (i := 207) rfl rfl
set_option maxRecDepth 100000 in
theorem gw_1038 : Cond.instanceMethod ⟨"RepeatFree$Sizes", "choose", "(LRepeatFree$Line;LRepeatFree$Shape;IZI)I"⟩ ∈ gw_G := gt_4 (i := 208) rfl rfl
set_option maxRecDepth 100000 in
theorem gw_1039 : Cond.selects "RepeatFree$Sizes" ⟨"RepeatFree$Sizes", "choose", "(LRepeatFree$Line;LRepeatFree$Shape;IZI)I"⟩ ⟨"RepeatFree$Sizes", "choose", "(LRepeatFree$Line;LRepeatFree$Shape;IZI)I"⟩ ∈ gw_G := gt_4 (i := 209) rfl rfl
set_option maxRecDepth 100000 in
theorem gw_1040 : Cond.code yX7_choose cX7_choose 16 (some .int) ∈ gw_G := gt_4 (i := 210) rfl rfl
set_option maxRecDepth 100000 in
theorem gw_1041 : Cond.methodLink "RepeatFree$Sizes" 68 ⟨"RepeatFree$Shape", "times", "(I)I"⟩ ∈ gw_G := gt_4 (i := 211) rfl rfl
set_option maxRecDepth 100000 in
theorem gw_1042 : Cond.methodLink "RepeatFree$Sizes" 71 ⟨"java/lang/Math", "min", "(II)I"⟩ ∈ gw_G := gt_4 (i := 212) rfl rfl
set_option maxRecDepth 100000 in
theorem gw_1043 : Cond.methodLink "RepeatFree$Sizes" 74 ⟨"RepeatFree$Sizes", "leastZ", "(IIZ)I"⟩ ∈ gw_G := gt_4 (i := 213) rfl rfl
set_option maxRecDepth 100000 in
theorem gw_1045 : Cond.instanceMethod ⟨"RepeatFree$Sizes", "leastZ", "(IIZ)I"⟩ ∈ gw_G := gt_4 (i := 215) rfl rfl
set_option maxRecDepth 100000 in
theorem gw_1046 : Cond.code yX7_leastZ cX7_leastZ 4 (some .int) ∈ gw_G := gt_4 (i := 216) rfl rfl
set_option maxRecDepth 100000 in
theorem gw_1047 : Cond.methodLink "RepeatFree$Sizes" 78 ⟨"RepeatFree$Sizes", "fits", "(LRepeatFree$Line;LRepeatFree$Shape;IIII)Z"⟩ ∈ gw_G := gt_4 (i := 217) rfl rfl
set_option maxRecDepth 100000 in
theorem gw_1049 : Cond.instanceMethod ⟨"RepeatFree$Sizes", "fits", "(LRepeatFree$Line;LRepeatFree$Shape;IIII)Z"⟩ ∈ gw_G := gt_4 (i := 219) rfl rfl
set_option maxRecDepth 100000 in
theorem gw_1050 : Cond.code yX7_fits cX7_fits 11 (some .boolean) ∈ gw_G := gt_4 (i := 220) rfl rfl
set_option maxRecDepth 100000 in
theorem gw_1051 : Cond.methodLink "RepeatFree" 206 ⟨"RepeatFree$Sizes", "of", "(I)I"⟩ ∈ gw_G := gt_4 (i := 221) rfl rfl
set_option maxRecDepth 100000 in
theorem gw_1052 : Cond.methodLink "RepeatFreeLaw" 215 ⟨"RepeatFreeLaw", "first", "(LRepeatFree;I[J)I"⟩ ∈ gw_G := gt_4 (i := 222) rfl rfl
set_option maxRecDepth 100000 in
theorem gw_1053 : Cond.static ⟨"RepeatFreeLaw", "first", "(LRepeatFree;I[J)I"⟩ ∈ gw_G := gt_4 (i := 223) rfl rfl
set_option maxRecDepth 100000 in
theorem gw_1054 : Cond.codeWith yL_first cL_first 4 (some .int) [(0, 9, 12, 13)] ∈ gw_G := gt_4 (i := 224) rfl rfl
set_option maxRecDepth 100000 in
theorem gw_1055 : Cond.methodLink "RepeatFreeLaw" 44 ⟨"RepeatFree", "first", "(I)I"⟩ ∈ gw_G := gt_4 (i := 225) rfl rfl
set_option maxRecDepth 100000 in
theorem gw_1056 : Cond.instanceMethod ⟨"RepeatFree", "first", "(I)I"⟩ ∈ gw_G := gt_4 (i := 226) rfl rfl
set_option maxRecDepth 100000 in
theorem gw_1057 : Cond.selects "RepeatFree" ⟨"RepeatFree", "first", "(I)I"⟩ ⟨"RepeatFree", "first", "(I)I"⟩ ∈ gw_G := gt_4 (i := 227) rfl rfl
set_option maxRecDepth 100000 in
theorem gw_1058 : Cond.code yX10_first cX10_first 2 (some .int) ∈ gw_G := gt_4 (i := 228) rfl rfl
set_option maxRecDepth 100000 in
theorem gw_1059 : Cond.methodLink "RepeatFree" 247 ⟨"RepeatFree", "becomeNth", "(II)I"⟩ ∈ gw_G := gt_4 (i := 229) rfl rfl
set_option maxRecDepth 100000 in
theorem gw_1061 : Cond.instanceMethod ⟨"RepeatFree", "becomeNth", "(II)I"⟩ ∈ gw_G := gt_4 (i := 231) rfl rfl
set_option maxRecDepth 100000 in
theorem gw_1062 : Cond.code yX10_becomeNth cX10_becomeNth 5 (some .int) ∈ gw_G := gt_4 (i := 232) rfl rfl
set_option maxRecDepth 100000 in
theorem gw_1063 : Cond.methodLink "RepeatFree" 250 ⟨"RepeatFree$Search", "seek", "()I"⟩ ∈ gw_G := gt_4 (i := 233) rfl rfl
set_option maxRecDepth 100000 in
theorem gw_1064 : Cond.methodLink "RepeatFreeLaw" 218 ⟨"RepeatFreeLaw", "next", "(LRepeatFree;[J)I"⟩ ∈ gw_G := gt_4 (i := 234) rfl rfl
set_option maxRecDepth 100000 in
theorem gw_1065 : Cond.static ⟨"RepeatFreeLaw", "next", "(LRepeatFree;[J)I"⟩ ∈ gw_G := gt_4 (i := 235) rfl rfl
set_option maxRecDepth 100000 in
theorem gw_1066 : Cond.codeWith yL_next cL_next 3 (some .int) [(0, 8, 11, 22)] ∈ gw_G := gt_4 (i := 236) rfl rfl
set_option maxRecDepth 100000 in
theorem gw_1067 : Cond.methodLink "RepeatFreeLaw" 47 ⟨"RepeatFree", "next", "()I"⟩ ∈ gw_G := gt_4 (i := 237) rfl rfl
set_option maxRecDepth 100000 in
theorem gw_1068 : Cond.instanceMethod ⟨"RepeatFree", "next", "()I"⟩ ∈ gw_G := gt_4 (i := 238) rfl rfl
set_option maxRecDepth 100000 in
theorem gw_1069 : Cond.selects "RepeatFree" ⟨"RepeatFree", "next", "()I"⟩ ⟨"RepeatFree", "next", "()I"⟩ ∈ gw_G := gt_4 (i := 239) rfl rfl
set_option maxRecDepth 100000 in
theorem gw_1070 : Cond.code yX10_next cX10_next 5 (some .int) ∈ gw_G := gt_5 (i := 0) rfl rfl
set_option maxRecDepth 100000 in
theorem gw_1071 : Cond.methodLink "RepeatFree" 259 ⟨"RepeatFree", "checkSearched", "()V"⟩ ∈ gw_G := gt_5 (i := 1) rfl rfl
set_option maxRecDepth 100000 in
theorem gw_1073 : Cond.instanceMethod ⟨"RepeatFree", "checkSearched", "()V"⟩ ∈ gw_G := gt_5 (i := 3) rfl rfl
set_option maxRecDepth 100000 in
theorem gw_1074 : Cond.code yX10_checkSearched cX10_checkSearched 1 none ∈ gw_G := gt_5 (i := 4) rfl rfl
set_option maxRecDepth 100000 in
theorem gw_1075 : Cond.methodLink "RepeatFree" 265 ⟨"RepeatFree$Line", "firstUnlike", "(LRepeatFree$Line;)I"⟩ ∈ gw_G := gt_5 (i := 5) rfl rfl
set_option maxRecDepth 100000 in
theorem gw_1076 : Cond.instanceMethod ⟨"RepeatFree$Line", "firstUnlike", "(LRepeatFree$Line;)I"⟩ ∈ gw_G := gt_5 (i := 6) rfl rfl
set_option maxRecDepth 100000 in
theorem gw_1077 : Cond.selects "RepeatFree$Line" ⟨"RepeatFree$Line", "firstUnlike", "(LRepeatFree$Line;)I"⟩ ⟨"RepeatFree$Line", "firstUnlike", "(LRepeatFree$Line;)I"⟩ ∈ gw_G := gt_5 (i := 7) rfl rfl
set_option maxRecDepth 100000 in
theorem gw_1078 : Cond.code yX1_firstUnlike cX1_firstUnlike 3 (some .int) ∈ gw_G := gt_5 (i := 8) rfl rfl
set_option maxRecDepth 100000 in
theorem gw_1079 : Cond.methodLink "RepeatFreeLaw" 221 ⟨"RepeatFreeLaw", "many", "(LRepeatFree;I[J)I"⟩ ∈ gw_G := gt_5 (i := 9) rfl rfl
set_option maxRecDepth 100000 in
theorem gw_1080 : Cond.static ⟨"RepeatFreeLaw", "many", "(LRepeatFree;I[J)I"⟩ ∈ gw_G := gt_5 (i := 10) rfl rfl
set_option maxRecDepth 100000 in
theorem gw_1081 : Cond.codeWith yL_many cL_many 4 (some .int) [(0, 9, 12, 13)] ∈ gw_G := gt_5 (i := 11) rfl rfl
set_option maxRecDepth 100000 in
theorem gw_1082 : Cond.methodLink "RepeatFreeLaw" 50 ⟨"RepeatFree", "many", "(I)I"⟩ ∈ gw_G := gt_5 (i := 12) rfl rfl
set_option maxRecDepth 100000 in
theorem gw_1083 : Cond.instanceMethod ⟨"RepeatFree", "many", "(I)I"⟩ ∈ gw_G := gt_5 (i := 13) rfl rfl
set_option maxRecDepth 100000 in
theorem gw_1084 : Cond.selects "RepeatFree" ⟨"RepeatFree", "many", "(I)I"⟩ ⟨"RepeatFree", "many", "(I)I"⟩ ∈ gw_G := gt_5 (i := 14) rfl rfl
set_option maxRecDepth 100000 in
theorem gw_1085 : Cond.code yX10_many cX10_many 2 (some .int) ∈ gw_G := gt_5 (i := 15) rfl rfl
set_option maxRecDepth 100000 in
theorem gw_1086 : Cond.methodLink "RepeatFree" 269 ⟨"RepeatFree", "howMany", "(I)I"⟩ ∈ gw_G := gt_5 (i := 16) rfl rfl
set_option maxRecDepth 100000 in
theorem gw_1088 : Cond.instanceMethod ⟨"RepeatFree", "howMany", "(I)I"⟩ ∈ gw_G := gt_5 (i := 18) rfl rfl
set_option maxRecDepth 100000 in
theorem gw_1089 : Cond.code yX10_howMany cX10_howMany 4 (some .int) ∈ gw_G := gt_5 (i := 19) rfl rfl
set_option maxRecDepth 100000 in
theorem gw_1090 : Cond.methodLink "RepeatFreeLaw" 228 ⟨"RepeatFreeLaw", "growth", "(LRepeatFree;I[J)I"⟩ ∈ gw_G := gt_5 (i := 20) rfl rfl
set_option maxRecDepth 100000 in
theorem gw_1091 : Cond.static ⟨"RepeatFreeLaw", "growth", "(LRepeatFree;I[J)I"⟩ ∈ gw_G := gt_5 (i := 21) rfl rfl
set_option maxRecDepth 100000 in
theorem gw_1092 : Cond.codeWith yL_growth cL_growth 4 (some .int) [(0, 9, 12, 13)] ∈ gw_G := gt_5 (i := 22) rfl rfl
set_option maxRecDepth 100000 in
theorem gw_1093 : Cond.methodLink "RepeatFreeLaw" 53 ⟨"RepeatFree", "growth", "(I)I"⟩ ∈ gw_G := gt_5 (i := 23) rfl rfl
set_option maxRecDepth 100000 in
theorem gw_1094 : Cond.instanceMethod ⟨"RepeatFree", "growth", "(I)I"⟩ ∈ gw_G := gt_5 (i := 24) rfl rfl
set_option maxRecDepth 100000 in
theorem gw_1095 : Cond.selects "RepeatFree" ⟨"RepeatFree", "growth", "(I)I"⟩ ⟨"RepeatFree", "growth", "(I)I"⟩ ∈ gw_G := gt_5 (i := 25) rfl rfl
set_option maxRecDepth 100000 in
theorem gw_1096 : Cond.code yX10_growth cX10_growth 4 (some .int) ∈ gw_G := gt_5 (i := 26) rfl rfl
set_option maxRecDepth 100000 in
theorem gw_1097 : Cond.methodLink "RepeatFreeLaw" 231 ⟨"RepeatFreeLaw", "image", "(LRepeatFree;I[J)I"⟩ ∈ gw_G := gt_5 (i := 27) rfl rfl
set_option maxRecDepth 100000 in
theorem gw_1098 : Cond.static ⟨"RepeatFreeLaw", "image", "(LRepeatFree;I[J)I"⟩ ∈ gw_G := gt_5 (i := 28) rfl rfl
set_option maxRecDepth 100000 in
theorem gw_1099 : Cond.codeWith yL_image cL_image 4 (some .int) [(0, 9, 12, 42), (0, 9, 15, 22)] ∈ gw_G := gt_5 (i := 29) rfl rfl
set_option maxRecDepth 100000 in
theorem gw_1100 : Cond.methodLink "RepeatFreeLaw" 56 ⟨"RepeatFree", "image", "(I)I"⟩ ∈ gw_G := gt_5 (i := 30) rfl rfl
set_option maxRecDepth 100000 in
theorem gw_1101 : Cond.instanceMethod ⟨"RepeatFree", "image", "(I)I"⟩ ∈ gw_G := gt_5 (i := 31) rfl rfl
set_option maxRecDepth 100000 in
theorem gw_1102 : Cond.selects "RepeatFree" ⟨"RepeatFree", "image", "(I)I"⟩ ⟨"RepeatFree", "image", "(I)I"⟩ ∈ gw_G := gt_5 (i := 32) rfl rfl
set_option maxRecDepth 100000 in
theorem gw_1103 : Cond.code yX10_image cX10_image 5 (some .int) ∈ gw_G := gt_5 (i := 33) rfl rfl
set_option maxRecDepth 100000 in
theorem gw_1104 : Cond.methodLink "RepeatFree" 275 ⟨"RepeatFree", "mapOf", "(I)LRepeatFree$Morph;"⟩ ∈ gw_G := gt_5 (i := 34) rfl rfl
set_option maxRecDepth 100000 in
theorem gw_1106 : Cond.instanceMethod ⟨"RepeatFree", "mapOf", "(I)LRepeatFree$Morph;"⟩ ∈ gw_G := gt_5 (i := 36) rfl rfl
set_option maxRecDepth 100000 in
theorem gw_1107 : Cond.code yX10_mapOf cX10_mapOf 3 (some (.object "RepeatFree$Morph")) ∈ gw_G := gt_5 (i := 37) rfl rfl
set_option maxRecDepth 100000 in
theorem gw_1108 : Cond.methodLink "RepeatFree" 141 ⟨"RepeatFree$Told", "mapAt", "(I)LRepeatFree$Morph;"⟩ ∈ gw_G := gt_5 (i := 38) rfl rfl
set_option maxRecDepth 100000 in
theorem gw_1109 : Cond.methodLink "RepeatFree" 278 ⟨"RepeatFree$Morph", "sizeOf", "(I)I"⟩ ∈ gw_G := gt_5 (i := 39) rfl rfl
set_option maxRecDepth 100000 in
theorem gw_1110 : Cond.instanceMethod ⟨"RepeatFree$Morph", "sizeOf", "(I)I"⟩ ∈ gw_G := gt_5 (i := 40) rfl rfl
set_option maxRecDepth 100000 in
theorem gw_1111 : Cond.selects "RepeatFree$Morph" ⟨"RepeatFree$Morph", "sizeOf", "(I)I"⟩ ⟨"RepeatFree$Morph", "sizeOf", "(I)I"⟩ ∈ gw_G := gt_5 (i := 41) rfl rfl
set_option maxRecDepth 100000 in
theorem gw_1112 : Cond.code yX2_sizeOf cX2_sizeOf 2 (some .int) ∈ gw_G := gt_5 (i := 42) rfl rfl
set_option maxRecDepth 100000 in
theorem gw_1113 : Cond.methodLink "RepeatFree" 283 ⟨"RepeatFree$Morph", "draw", "(LRepeatFree$Line;LRepeatFree$Line;)V"⟩ ∈ gw_G := gt_5 (i := 43) rfl rfl
set_option maxRecDepth 100000 in
theorem gw_1114 : Cond.instanceMethod ⟨"RepeatFree$Morph", "draw", "(LRepeatFree$Line;LRepeatFree$Line;)V"⟩ ∈ gw_G := gt_5 (i := 44) rfl rfl
set_option maxRecDepth 100000 in
theorem gw_1115 : Cond.selects "RepeatFree$Morph" ⟨"RepeatFree$Morph", "draw", "(LRepeatFree$Line;LRepeatFree$Line;)V"⟩ ⟨"RepeatFree$Morph", "draw", "(LRepeatFree$Line;LRepeatFree$Line;)V"⟩ ∈ gw_G := gt_5 (i := 45) rfl rfl
set_option maxRecDepth 100000 in
theorem gw_1116 : Cond.code yX2_draw cX2_draw 7 none ∈ gw_G := gt_5 (i := 46) rfl rfl
set_option maxRecDepth 100000 in
theorem gw_1117 : Cond.methodLink "RepeatFree$Morph" 39 ⟨"RepeatFree$Line", "at", "(I)I"⟩ ∈ gw_G := gt_5 (i := 47) rfl rfl
set_option maxRecDepth 100000 in
theorem gw_1118 : Cond.methodLink "RepeatFree$Morph" 33 ⟨"RepeatFree$Morph", "sizeOf", "(I)I"⟩ ∈ gw_G := gt_5 (i := 48) rfl rfl
set_option maxRecDepth 100000 in
theorem gw_1119 : Cond.methodLink "RepeatFree$Morph" 36 ⟨"RepeatFree$Morph", "at", "(II)I"⟩ ∈ gw_G := gt_5 (i := 49) rfl rfl
set_option maxRecDepth 100000 in
theorem gw_1120 : Cond.instanceMethod ⟨"RepeatFree$Morph", "at", "(II)I"⟩ ∈ gw_G := gt_5 (i := 50) rfl rfl
set_option maxRecDepth 100000 in
theorem gw_1121 : Cond.selects "RepeatFree$Morph" ⟨"RepeatFree$Morph", "at", "(II)I"⟩ ⟨"RepeatFree$Morph", "at", "(II)I"⟩ ∈ gw_G := gt_5 (i := 51) rfl rfl
set_option maxRecDepth 100000 in
theorem gw_1122 : Cond.code yX2_at cX2_at 3 (some .int) ∈ gw_G := gt_5 (i := 52) rfl rfl
set_option maxRecDepth 100000 in
theorem gw_1123 : Cond.methodLink "RepeatFree$Morph" 46 ⟨"RepeatFree$Line", "lay", "(II)V"⟩ ∈ gw_G := gt_5 (i := 53) rfl rfl
set_option maxRecDepth 100000 in
theorem gw_1124 : Cond.instanceMethod ⟨"RepeatFree$Line", "lay", "(II)V"⟩ ∈ gw_G := gt_5 (i := 54) rfl rfl
set_option maxRecDepth 100000 in
theorem gw_1125 : Cond.selects "RepeatFree$Line" ⟨"RepeatFree$Line", "lay", "(II)V"⟩ ⟨"RepeatFree$Line", "lay", "(II)V"⟩ ∈ gw_G := gt_5 (i := 55) rfl rfl
set_option maxRecDepth 100000 in
theorem gw_1126 : Cond.code yX1_lay cX1_lay 3 none ∈ gw_G := gt_5 (i := 56) rfl rfl
set_option maxRecDepth 100000 in
theorem gw_1127 : Cond.methodLink "RepeatFree$Morph" 50 ⟨"RepeatFree$Line", "cutTo", "(I)V"⟩ ∈ gw_G := gt_5 (i := 57) rfl rfl
set_option maxRecDepth 100000 in
theorem gw_1128 : Cond.methodLink "RepeatFreeLaw" 234 ⟨"RepeatFreeLaw", "imaged", "(LRepeatFree;III[J)I"⟩ ∈ gw_G := gt_5 (i := 58) rfl rfl
set_option maxRecDepth 100000 in
theorem gw_1129 : Cond.static ⟨"RepeatFreeLaw", "imaged", "(LRepeatFree;III[J)I"⟩ ∈ gw_G := gt_5 (i := 59) rfl rfl
set_option maxRecDepth 100000 in
theorem gw_1130 : Cond.codeWith yL_imaged cL_imaged 6 (some .int) [(0, 12, 15, 42), (0, 12, 19, 13)] ∈ gw_G := gt_5 (i := 60) rfl rfl
set_option maxRecDepth 100000 in
theorem gw_1131 : Cond.methodLink "RepeatFreeLaw" 59 ⟨"RepeatFree", "imaged", "(III)I"⟩ ∈ gw_G := gt_5 (i := 61) rfl rfl
set_option maxRecDepth 100000 in
theorem gw_1132 : Cond.instanceMethod ⟨"RepeatFree", "imaged", "(III)I"⟩ ∈ gw_G := gt_5 (i := 62) rfl rfl
set_option maxRecDepth 100000 in
theorem gw_1133 : Cond.selects "RepeatFree" ⟨"RepeatFree", "imaged", "(III)I"⟩ ⟨"RepeatFree", "imaged", "(III)I"⟩ ∈ gw_G := gt_5 (i := 63) rfl rfl
set_option maxRecDepth 100000 in
theorem gw_1134 : Cond.code yX10_imaged cX10_imaged 5 (some .int) ∈ gw_G := gt_5 (i := 64) rfl rfl
set_option maxRecDepth 100000 in
theorem gw_1135 : Cond.methodLink "RepeatFree" 287 ⟨"RepeatFree$Morph", "at", "(II)I"⟩ ∈ gw_G := gt_5 (i := 65) rfl rfl
set_option maxRecDepth 100000 in
theorem gw_1136 : Cond.methodLink "RepeatFreeLaw" 238 ⟨"RepeatFreeLaw", "length", "(LRepeatFree;III[J)I"⟩ ∈ gw_G := gt_5 (i := 66) rfl rfl
set_option maxRecDepth 100000 in
theorem gw_1137 : Cond.static ⟨"RepeatFreeLaw", "length", "(LRepeatFree;III[J)I"⟩ ∈ gw_G := gt_5 (i := 67) rfl rfl
set_option maxRecDepth 100000 in
theorem gw_1138 : Cond.codeWith yL_length cL_length 6 (some .int) [(0, 11, 14, 42), (0, 11, 18, 13)] ∈ gw_G := gt_5 (i := 68) rfl rfl
set_option maxRecDepth 100000 in
theorem gw_1139 : Cond.methodLink "RepeatFreeLaw" 63 ⟨"RepeatFree", "length", "(III)J"⟩ ∈ gw_G := gt_5 (i := 69) rfl rfl
set_option maxRecDepth 100000 in
theorem gw_1140 : Cond.instanceMethod ⟨"RepeatFree", "length", "(III)J"⟩ ∈ gw_G := gt_5 (i := 70) rfl rfl
set_option maxRecDepth 100000 in
theorem gw_1141 : Cond.selects "RepeatFree" ⟨"RepeatFree", "length", "(III)J"⟩ ⟨"RepeatFree", "length", "(III)J"⟩ ∈ gw_G := gt_5 (i := 71) rfl rfl
set_option maxRecDepth 100000 in
theorem gw_1142 : Cond.code yX10_length cX10_length 5 (some .long) ∈ gw_G := gt_5 (i := 72) rfl rfl
set_option maxRecDepth 100000 in
theorem gw_1143 : Cond.methodLink "RepeatFree" 289 ⟨"RepeatFree", "tally", "(LRepeatFree$Morph;II)V"⟩ ∈ gw_G := gt_5 (i := 73) rfl rfl
set_option maxRecDepth 100000 in
theorem gw_1145 : Cond.instanceMethod ⟨"RepeatFree", "tally", "(LRepeatFree$Morph;II)V"⟩ ∈ gw_G := gt_5 (i := 75) rfl rfl
set_option maxRecDepth 100000 in
theorem gw_1146 : Cond.code yX10_tally cX10_tally 10 none ∈ gw_G := gt_5 (i := 76) rfl rfl
set_option maxRecDepth 100000 in
theorem gw_1147 : Cond.methodLink "RepeatFree" 293 ⟨"RepeatFree", "tallied", "(II)J"⟩ ∈ gw_G := gt_5 (i := 77) rfl rfl
set_option maxRecDepth 100000 in
theorem gw_1149 : Cond.instanceMethod ⟨"RepeatFree", "tallied", "(II)J"⟩ ∈ gw_G := gt_5 (i := 79) rfl rfl
set_option maxRecDepth 100000 in
theorem gw_1150 : Cond.code yX10_tallied cX10_tallied 3 (some .long) ∈ gw_G := gt_5 (i := 80) rfl rfl
set_option maxRecDepth 100000 in
theorem gw_1151 : Cond.methodLink "RepeatFreeLaw" 243 ⟨"RepeatFreeLaw", "power", "(LRepeatFree;IIIJ[J)I"⟩ ∈ gw_G := gt_5 (i := 81) rfl rfl
set_option maxRecDepth 100000 in
theorem gw_1152 : Cond.static ⟨"RepeatFreeLaw", "power", "(LRepeatFree;IIIJ[J)I"⟩ ∈ gw_G := gt_5 (i := 82) rfl rfl
set_option maxRecDepth 100000 in
theorem gw_1153 : Cond.codeWith yL_power cL_power 8 (some .int) [(0, 14, 17, 42), (0, 14, 21, 13)] ∈ gw_G := gt_5 (i := 83) rfl rfl
set_option maxRecDepth 100000 in
theorem gw_1154 : Cond.methodLink "RepeatFreeLaw" 67 ⟨"RepeatFree", "power", "(IIIJ)I"⟩ ∈ gw_G := gt_5 (i := 84) rfl rfl
set_option maxRecDepth 100000 in
theorem gw_1155 : Cond.instanceMethod ⟨"RepeatFree", "power", "(IIIJ)I"⟩ ∈ gw_G := gt_5 (i := 85) rfl rfl
set_option maxRecDepth 100000 in
theorem gw_1156 : Cond.selects "RepeatFree" ⟨"RepeatFree", "power", "(IIIJ)I"⟩ ⟨"RepeatFree", "power", "(IIIJ)I"⟩ ∈ gw_G := gt_5 (i := 86) rfl rfl
set_option maxRecDepth 100000 in
theorem gw_1157 : Cond.code yX10_power cX10_power 12 (some .int) ∈ gw_G := gt_5 (i := 87) rfl rfl
set_option maxRecDepth 100000 in
theorem gw_1158 : Cond.methodLink "RepeatFreeLaw" 247 ⟨"RepeatFreeLaw", "often", "(LRepeatFree;IIII[J)I"⟩ ∈ gw_G := gt_5 (i := 88) rfl rfl
set_option maxRecDepth 100000 in
theorem gw_1159 : Cond.static ⟨"RepeatFreeLaw", "often", "(LRepeatFree;IIII[J)I"⟩ ∈ gw_G := gt_5 (i := 89) rfl rfl
set_option maxRecDepth 100000 in
theorem gw_1160 : Cond.codeWith yL_often cL_often 7 (some .int) [(0, 13, 16, 42), (0, 13, 20, 13)] ∈ gw_G := gt_5 (i := 90) rfl rfl
set_option maxRecDepth 100000 in
theorem gw_1161 : Cond.methodLink "RepeatFreeLaw" 71 ⟨"RepeatFree", "often", "(IIII)J"⟩ ∈ gw_G := gt_5 (i := 91) rfl rfl
set_option maxRecDepth 100000 in
theorem gw_1162 : Cond.instanceMethod ⟨"RepeatFree", "often", "(IIII)J"⟩ ∈ gw_G := gt_5 (i := 92) rfl rfl
set_option maxRecDepth 100000 in
theorem gw_1163 : Cond.selects "RepeatFree" ⟨"RepeatFree", "often", "(IIII)J"⟩ ⟨"RepeatFree", "often", "(IIII)J"⟩ ∈ gw_G := gt_5 (i := 93) rfl rfl
set_option maxRecDepth 100000 in
theorem gw_1164 : Cond.code yX10_often cX10_often 6 (some .long) ∈ gw_G := gt_5 (i := 94) rfl rfl
set_option maxRecDepth 100000 in
theorem gw_1165 : Cond.methodLink "RepeatFreeLaw" 251 ⟨"RepeatFreeLaw", "keeps", "(LRepeatFree;II[J)I"⟩ ∈ gw_G := gt_5 (i := 95) rfl rfl
set_option maxRecDepth 100000 in
theorem gw_1166 : Cond.static ⟨"RepeatFreeLaw", "keeps", "(LRepeatFree;II[J)I"⟩ ∈ gw_G := gt_5 (i := 96) rfl rfl
set_option maxRecDepth 100000 in
theorem gw_1167 : Cond.codeWith yL_keeps cL_keeps 5 (some .int) [(0, 10, 13, 42), (0, 10, 17, 13)] ∈ gw_G := gt_5 (i := 97) rfl rfl
set_option maxRecDepth 100000 in
theorem gw_1168 : Cond.methodLink "RepeatFreeLaw" 75 ⟨"RepeatFree", "keeps", "(II)I"⟩ ∈ gw_G := gt_5 (i := 98) rfl rfl
set_option maxRecDepth 100000 in
theorem gw_1169 : Cond.instanceMethod ⟨"RepeatFree", "keeps", "(II)I"⟩ ∈ gw_G := gt_5 (i := 99) rfl rfl
set_option maxRecDepth 100000 in
theorem gw_1170 : Cond.selects "RepeatFree" ⟨"RepeatFree", "keeps", "(II)I"⟩ ⟨"RepeatFree", "keeps", "(II)I"⟩ ∈ gw_G := gt_5 (i := 100) rfl rfl
set_option maxRecDepth 100000 in
theorem gw_1171 : Cond.code yX10_keeps cX10_keeps 5 (some .int) ∈ gw_G := gt_5 (i := 101) rfl rfl
set_option maxRecDepth 100000 in
theorem gw_1172 : Cond.methodLink "RepeatFree" 297 ⟨"RepeatFree", "breaker", "(LRepeatFree$Morph;I)I"⟩ ∈ gw_G := gt_5 (i := 102) rfl rfl
set_option maxRecDepth 100000 in
theorem gw_1174 : Cond.instanceMethod ⟨"RepeatFree", "breaker", "(LRepeatFree$Morph;I)I"⟩ ∈ gw_G := gt_5 (i := 104) rfl rfl
set_option maxRecDepth 100000 in
theorem gw_1175 : Cond.code yX10_breaker cX10_breaker 6 (some .int) ∈ gw_G := gt_5 (i := 105) rfl rfl
set_option maxRecDepth 100000 in
theorem gw_1176 : Cond.methodLink "RepeatFree" 301 ⟨"RepeatFree", "imageBreaks", "(LRepeatFree$Morph;LRepeatFree$Line;)Z"⟩ ∈ gw_G := gt_5 (i := 106) rfl rfl
set_option maxRecDepth 100000 in
theorem gw_1178 : Cond.instanceMethod ⟨"RepeatFree", "imageBreaks", "(LRepeatFree$Morph;LRepeatFree$Line;)Z"⟩ ∈ gw_G := gt_5 (i := 108) rfl rfl
set_option maxRecDepth 100000 in
theorem gw_1179 : Cond.code yX10_imageBreaks cX10_imageBreaks 5 (some .boolean) ∈ gw_G := gt_5 (i := 109) rfl rfl
set_option maxRecDepth 100000 in
theorem gw_1180 : Cond.methodLink "RepeatFree" 308 ⟨"RepeatFree$Line", "isBadAt", "(LRepeatFree$Told;I)Z"⟩ ∈ gw_G := gt_5 (i := 110) rfl rfl
set_option maxRecDepth 100000 in
theorem gw_1181 : Cond.methodLink "RepeatFree" 305 ⟨"RepeatFree$Line", "figures", "()I"⟩ ∈ gw_G := gt_5 (i := 111) rfl rfl
set_option maxRecDepth 100000 in
theorem gw_1182 : Cond.instanceMethod ⟨"RepeatFree$Line", "figures", "()I"⟩ ∈ gw_G := gt_5 (i := 112) rfl rfl
set_option maxRecDepth 100000 in
theorem gw_1183 : Cond.selects "RepeatFree$Line" ⟨"RepeatFree$Line", "figures", "()I"⟩ ⟨"RepeatFree$Line", "figures", "()I"⟩ ∈ gw_G := gt_5 (i := 113) rfl rfl
set_option maxRecDepth 100000 in
theorem gw_1184 : Cond.code yX1_figures cX1_figures 3 (some .int) ∈ gw_G := gt_5 (i := 114) rfl rfl
set_option maxRecDepth 100000 in
theorem gw_1185 : Cond.methodLink "RepeatFreeLaw" 254 ⟨"RepeatFreeLaw", "breaks", "(LRepeatFree;II[J)I"⟩ ∈ gw_G := gt_5 (i := 115) rfl rfl
set_option maxRecDepth 100000 in
theorem gw_1186 : Cond.static ⟨"RepeatFreeLaw", "breaks", "(LRepeatFree;II[J)I"⟩ ∈ gw_G := gt_5 (i := 116) rfl rfl
set_option maxRecDepth 100000 in
theorem gw_1187 : Cond.codeWith yL_breaks cL_breaks 5 (some .int) [(0, 10, 13, 42), (0, 10, 17, 13)] ∈ gw_G := gt_5 (i := 117) rfl rfl
set_option maxRecDepth 100000 in
theorem gw_1188 : Cond.methodLink "RepeatFreeLaw" 78 ⟨"RepeatFree", "breaks", "(II)I"⟩ ∈ gw_G := gt_5 (i := 118) rfl rfl
set_option maxRecDepth 100000 in
theorem gw_1189 : Cond.instanceMethod ⟨"RepeatFree", "breaks", "(II)I"⟩ ∈ gw_G := gt_5 (i := 119) rfl rfl
set_option maxRecDepth 100000 in
theorem gw_1190 : Cond.selects "RepeatFree" ⟨"RepeatFree", "breaks", "(II)I"⟩ ⟨"RepeatFree", "breaks", "(II)I"⟩ ∈ gw_G := gt_5 (i := 120) rfl rfl
set_option maxRecDepth 100000 in
theorem gw_1191 : Cond.code yX10_breaks cX10_breaks 4 (some .int) ∈ gw_G := gt_5 (i := 121) rfl rfl
set_option maxRecDepth 100000 in
theorem gw_1192 : Cond.methodLink "RepeatFreeLaw" 257 ⟨"RepeatFreeLaw", "grows", "(LRepeatFree;I[J)I"⟩ ∈ gw_G := gt_5 (i := 122) rfl rfl
set_option maxRecDepth 100000 in
theorem gw_1193 : Cond.static ⟨"RepeatFreeLaw", "grows", "(LRepeatFree;I[J)I"⟩ ∈ gw_G := gt_5 (i := 123) rfl rfl
set_option maxRecDepth 100000 in
theorem gw_1194 : Cond.codeWith yL_grows cL_grows 4 (some .int) [(0, 9, 12, 42)] ∈ gw_G := gt_5 (i := 124) rfl rfl
set_option maxRecDepth 100000 in
theorem gw_1195 : Cond.methodLink "RepeatFreeLaw" 81 ⟨"RepeatFree", "grows", "(I)I"⟩ ∈ gw_G := gt_5 (i := 125) rfl rfl
set_option maxRecDepth 100000 in
theorem gw_1196 : Cond.instanceMethod ⟨"RepeatFree", "grows", "(I)I"⟩ ∈ gw_G := gt_5 (i := 126) rfl rfl
set_option maxRecDepth 100000 in
theorem gw_1197 : Cond.selects "RepeatFree" ⟨"RepeatFree", "grows", "(I)I"⟩ ⟨"RepeatFree", "grows", "(I)I"⟩ ∈ gw_G := gt_5 (i := 127) rfl rfl
set_option maxRecDepth 100000 in
theorem gw_1198 : Cond.code yX10_grows cX10_grows 5 (some .int) ∈ gw_G := gt_5 (i := 128) rfl rfl
set_option maxRecDepth 100000 in
theorem gw_1199 : Cond.methodLink "RepeatFree" 312 ⟨"RepeatFree$Morph", "growsFrom", "(I)Z"⟩ ∈ gw_G := gt_5 (i := 129) rfl rfl
set_option maxRecDepth 100000 in
theorem gw_1200 : Cond.instanceMethod ⟨"RepeatFree$Morph", "growsFrom", "(I)Z"⟩ ∈ gw_G := gt_5 (i := 130) rfl rfl
set_option maxRecDepth 100000 in
theorem gw_1201 : Cond.selects "RepeatFree$Morph" ⟨"RepeatFree$Morph", "growsFrom", "(I)Z"⟩ ⟨"RepeatFree$Morph", "growsFrom", "(I)Z"⟩ ∈ gw_G := gt_5 (i := 131) rfl rfl
set_option maxRecDepth 100000 in
theorem gw_1202 : Cond.code yX2_growsFrom cX2_growsFrom 2 (some .boolean) ∈ gw_G := gt_5 (i := 132) rfl rfl
set_option maxRecDepth 100000 in
theorem gw_1203 : Cond.methodLink "RepeatFreeLaw" 260 ⟨"RepeatFreeLaw", "uniform", "(LRepeatFree;I[J)I"⟩ ∈ gw_G := gt_5 (i := 133) rfl rfl
set_option maxRecDepth 100000 in
theorem gw_1204 : Cond.static ⟨"RepeatFreeLaw", "uniform", "(LRepeatFree;I[J)I"⟩ ∈ gw_G := gt_5 (i := 134) rfl rfl
set_option maxRecDepth 100000 in
theorem gw_1205 : Cond.codeWith yL_uniform cL_uniform 4 (some .int) [(0, 9, 12, 42)] ∈ gw_G := gt_5 (i := 135) rfl rfl
set_option maxRecDepth 100000 in
theorem gw_1206 : Cond.methodLink "RepeatFreeLaw" 84 ⟨"RepeatFree", "uniform", "(I)I"⟩ ∈ gw_G := gt_5 (i := 136) rfl rfl
set_option maxRecDepth 100000 in
theorem gw_1207 : Cond.instanceMethod ⟨"RepeatFree", "uniform", "(I)I"⟩ ∈ gw_G := gt_5 (i := 137) rfl rfl
set_option maxRecDepth 100000 in
theorem gw_1208 : Cond.selects "RepeatFree" ⟨"RepeatFree", "uniform", "(I)I"⟩ ⟨"RepeatFree", "uniform", "(I)I"⟩ ∈ gw_G := gt_5 (i := 138) rfl rfl
set_option maxRecDepth 100000 in
theorem gw_1209 : Cond.code yX10_uniform cX10_uniform 5 (some .int) ∈ gw_G := gt_5 (i := 139) rfl rfl
set_option maxRecDepth 100000 in
theorem gw_1210 : Cond.methodLink "RepeatFreeLaw" 263 ⟨"RepeatFreeLaw", "cannot", "(LRepeatFree;I[J)I"⟩ ∈ gw_G := gt_5 (i := 140) rfl rfl
set_option maxRecDepth 100000 in
theorem gw_1211 : Cond.static ⟨"RepeatFreeLaw", "cannot", "(LRepeatFree;I[J)I"⟩ ∈ gw_G := gt_5 (i := 141) rfl rfl
set_option maxRecDepth 100000 in
theorem gw_1212 : Cond.codeWith yL_cannot cL_cannot 4 (some .int) [(0, 16, 19, 42)] ∈ gw_G := gt_5 (i := 142) rfl rfl
set_option maxRecDepth 100000 in
theorem gw_1213 : Cond.methodLink "RepeatFreeLaw" 87 ⟨"RepeatFree", "cannot", "(I)Z"⟩ ∈ gw_G := gt_5 (i := 143) rfl rfl
set_option maxRecDepth 100000 in
theorem gw_1214 : Cond.instanceMethod ⟨"RepeatFree", "cannot", "(I)Z"⟩ ∈ gw_G := gt_5 (i := 144) rfl rfl
set_option maxRecDepth 100000 in
theorem gw_1215 : Cond.selects "RepeatFree" ⟨"RepeatFree", "cannot", "(I)Z"⟩ ⟨"RepeatFree", "cannot", "(I)Z"⟩ ∈ gw_G := gt_5 (i := 145) rfl rfl
set_option maxRecDepth 100000 in
theorem gw_1216 : Cond.code yX10_cannot cX10_cannot 2 (some .boolean) ∈ gw_G := gt_5 (i := 146) rfl rfl
set_option maxRecDepth 100000 in
theorem gw_1217 : Cond.methodLink "RepeatFree" 209 ⟨"RepeatFree$Shape", "cannotBeAvoided", "()Z"⟩ ∈ gw_G := gt_5 (i := 147) rfl rfl
set_option maxRecDepth 100000 in
theorem gw_1218 : Cond.instanceMethod ⟨"RepeatFree$Shape", "cannotBeAvoided", "()Z"⟩ ∈ gw_G := gt_5 (i := 148) rfl rfl
set_option maxRecDepth 100000 in
theorem gw_1219 : Cond.selects "RepeatFree$Shape" ⟨"RepeatFree$Shape", "cannotBeAvoided", "()Z"⟩ ⟨"RepeatFree$Shape", "cannotBeAvoided", "()Z"⟩ ∈ gw_G := gt_5 (i := 149) rfl rfl
set_option maxRecDepth 100000 in
theorem gw_1220 : Cond.code yX6_cannotBeAvoided cX6_cannotBeAvoided 4 (some .boolean) ∈ gw_G := gt_5 (i := 150) rfl rfl
set_option maxRecDepth 100000 in
theorem gw_1221 : Cond.methodLink "RepeatFree$Shape" 47 ⟨"RepeatFree$Shape", "variables", "()I"⟩ ∈ gw_G := gt_5 (i := 151) rfl rfl
set_option maxRecDepth 100000 in
theorem gw_1222 : Cond.instanceMethod ⟨"RepeatFree$Shape", "variables", "()I"⟩ ∈ gw_G := gt_5 (i := 152) rfl rfl
set_option maxRecDepth 100000 in
theorem gw_1223 : Cond.selects "RepeatFree$Shape" ⟨"RepeatFree$Shape", "variables", "()I"⟩ ⟨"RepeatFree$Shape", "variables", "()I"⟩ ∈ gw_G := gt_5 (i := 153) rfl rfl
set_option maxRecDepth 100000 in
theorem gw_1224 : Cond.code yX6_variables cX6_variables 3 (some .int) ∈ gw_G := gt_5 (i := 154) rfl rfl
set_option maxRecDepth 100000 in
theorem gw_1225 : Cond.methodLink "RepeatFree$Shape" 50 ⟨"RepeatFree$Shape", "sizeWithin", "(I)I"⟩ ∈ gw_G := gt_5 (i := 155) rfl rfl
set_option maxRecDepth 100000 in
theorem gw_1227 : Cond.instanceMethod ⟨"RepeatFree$Shape", "sizeWithin", "(I)I"⟩ ∈ gw_G := gt_5 (i := 157) rfl rfl
set_option maxRecDepth 100000 in
theorem gw_1228 : Cond.code yX6_sizeWithin cX6_sizeWithin 4 (some .int) ∈ gw_G := gt_5 (i := 158) rfl rfl
set_option maxRecDepth 100000 in
theorem gw_1229 : Cond.methodLink "RepeatFree$Shape" 53 ⟨"RepeatFree$Shape", "losesSome", "(II)Z"⟩ ∈ gw_G := gt_5 (i := 159) rfl rfl
set_option maxRecDepth 100000 in
theorem gw_1231 : Cond.instanceMethod ⟨"RepeatFree$Shape", "losesSome", "(II)Z"⟩ ∈ gw_G := gt_5 (i := 161) rfl rfl
set_option maxRecDepth 100000 in
theorem gw_1232 : Cond.code yX6_losesSome cX6_losesSome 4 (some .boolean) ∈ gw_G := gt_5 (i := 162) rfl rfl
set_option maxRecDepth 100000 in
theorem gw_1233 : Cond.methodLink "RepeatFree$Shape" 57 ⟨"RepeatFree$Shape", "isLoose", "(II)Z"⟩ ∈ gw_G := gt_5 (i := 163) rfl rfl
set_option maxRecDepth 100000 in
theorem gw_1234 : Cond.instanceMethod ⟨"RepeatFree$Shape", "isLoose", "(II)Z"⟩ ∈ gw_G := gt_5 (i := 164) rfl rfl
set_option maxRecDepth 100000 in
theorem gw_1235 : Cond.selects "RepeatFree$Shape" ⟨"RepeatFree$Shape", "isLoose", "(II)Z"⟩ ⟨"RepeatFree$Shape", "isLoose", "(II)Z"⟩ ∈ gw_G := gt_5 (i := 165) rfl rfl
set_option maxRecDepth 100000 in
theorem gw_1236 : Cond.code yX6_isLoose cX6_isLoose 9 (some .boolean) ∈ gw_G := gt_5 (i := 166) rfl rfl
set_option maxRecDepth 100000 in
theorem gw_1237 : Cond.methodLink "RepeatFreeLaw" 266 ⟨"RepeatFreeLaw", "loose", "(LRepeatFree;II[J)I"⟩ ∈ gw_G := gt_5 (i := 167) rfl rfl
set_option maxRecDepth 100000 in
theorem gw_1238 : Cond.static ⟨"RepeatFreeLaw", "loose", "(LRepeatFree;II[J)I"⟩ ∈ gw_G := gt_5 (i := 168) rfl rfl
set_option maxRecDepth 100000 in
theorem gw_1239 : Cond.codeWith yL_loose cL_loose 5 (some .int) [(0, 10, 13, 42)] ∈ gw_G := gt_5 (i := 169) rfl rfl
set_option maxRecDepth 100000 in
theorem gw_1240 : Cond.methodLink "RepeatFreeLaw" 91 ⟨"RepeatFree", "loose", "(II)I"⟩ ∈ gw_G := gt_5 (i := 170) rfl rfl
set_option maxRecDepth 100000 in
theorem gw_1241 : Cond.instanceMethod ⟨"RepeatFree", "loose", "(II)I"⟩ ∈ gw_G := gt_5 (i := 171) rfl rfl
set_option maxRecDepth 100000 in
theorem gw_1242 : Cond.selects "RepeatFree" ⟨"RepeatFree", "loose", "(II)I"⟩ ⟨"RepeatFree", "loose", "(II)I"⟩ ∈ gw_G := gt_5 (i := 172) rfl rfl
set_option maxRecDepth 100000 in
theorem gw_1243 : Cond.code yX10_loose cX10_loose 7 (some .int) ∈ gw_G := gt_5 (i := 173) rfl rfl
set_option maxRecDepth 100000 in
theorem gw_1244 : Cond.methodLink "RepeatFree" 213 ⟨"RepeatFree$Shape", "variables", "()I"⟩ ∈ gw_G := gt_5 (i := 174) rfl rfl
set_option maxRecDepth 100000 in
theorem gw_1245 : Cond.methodLink "RepeatFree" 216 ⟨"RepeatFree$Shape", "isLoose", "(II)Z"⟩ ∈ gw_G := gt_5 (i := 175) rfl rfl
set_option maxRecDepth 100000 in
theorem gw_1246 : Cond.methodLink "RepeatFreeLaw" 269 ⟨"RepeatFreeLaw", "pattern", "(LRepeatFree;II[J)I"⟩ ∈ gw_G := gt_5 (i := 176) rfl rfl
set_option maxRecDepth 100000 in
theorem gw_1247 : Cond.static ⟨"RepeatFreeLaw", "pattern", "(LRepeatFree;II[J)I"⟩ ∈ gw_G := gt_5 (i := 177) rfl rfl
set_option maxRecDepth 100000 in
theorem gw_1248 : Cond.codeWith yL_pattern cL_pattern 5 (some .int) [(0, 10, 13, 42), (0, 10, 17, 30)] ∈ gw_G := gt_5 (i := 178) rfl rfl
set_option maxRecDepth 100000 in
theorem gw_1249 : Cond.methodLink "RepeatFreeLaw" 94 ⟨"RepeatFree", "pattern", "(II)I"⟩ ∈ gw_G := gt_5 (i := 179) rfl rfl
set_option maxRecDepth 100000 in
theorem gw_1250 : Cond.instanceMethod ⟨"RepeatFree", "pattern", "(II)I"⟩ ∈ gw_G := gt_5 (i := 180) rfl rfl
set_option maxRecDepth 100000 in
theorem gw_1251 : Cond.selects "RepeatFree" ⟨"RepeatFree", "pattern", "(II)I"⟩ ⟨"RepeatFree", "pattern", "(II)I"⟩ ∈ gw_G := gt_5 (i := 181) rfl rfl
set_option maxRecDepth 100000 in
theorem gw_1252 : Cond.code yX10_pattern cX10_pattern 4 (some .int) ∈ gw_G := gt_5 (i := 182) rfl rfl
set_option maxRecDepth 100000 in
theorem gw_1253 : Cond.methodLink "RepeatFreeLaw" 272 ⟨"RepeatFreeLaw", "stuck", "(LRepeatFree;I[J)I"⟩ ∈ gw_G := gt_5 (i := 183) rfl rfl
set_option maxRecDepth 100000 in
theorem gw_1254 : Cond.static ⟨"RepeatFreeLaw", "stuck", "(LRepeatFree;I[J)I"⟩ ∈ gw_G := gt_5 (i := 184) rfl rfl
set_option maxRecDepth 100000 in
theorem gw_1255 : Cond.codeWith yL_stuck cL_stuck 4 (some .int) [(0, 9, 12, 13)] ∈ gw_G := gt_5 (i := 185) rfl rfl
set_option maxRecDepth 100000 in
theorem gw_1256 : Cond.methodLink "RepeatFreeLaw" 97 ⟨"RepeatFree", "stuck", "(I)I"⟩ ∈ gw_G := gt_5 (i := 186) rfl rfl
set_option maxRecDepth 100000 in
theorem gw_1257 : Cond.instanceMethod ⟨"RepeatFree", "stuck", "(I)I"⟩ ∈ gw_G := gt_5 (i := 187) rfl rfl
set_option maxRecDepth 100000 in
theorem gw_1258 : Cond.selects "RepeatFree" ⟨"RepeatFree", "stuck", "(I)I"⟩ ⟨"RepeatFree", "stuck", "(I)I"⟩ ∈ gw_G := gt_5 (i := 188) rfl rfl
set_option maxRecDepth 100000 in
theorem gw_1259 : Cond.code yX10_stuck cX10_stuck 5 (some .int) ∈ gw_G := gt_5 (i := 189) rfl rfl
set_option maxRecDepth 100000 in
theorem gw_1260 : Cond.methodLink "RepeatFreeLaw" 275 ⟨"RepeatFreeLaw", "rank", "(LRepeatFree;[J)I"⟩ ∈ gw_G := gt_5 (i := 190) rfl rfl
set_option maxRecDepth 100000 in
theorem gw_1261 : Cond.static ⟨"RepeatFreeLaw", "rank", "(LRepeatFree;[J)I"⟩ ∈ gw_G := gt_5 (i := 191) rfl rfl
set_option maxRecDepth 100000 in
theorem gw_1262 : Cond.codeWith yL_rank cL_rank 3 (some .int) [(0, 8, 11, 22)] ∈ gw_G := gt_5 (i := 192) rfl rfl
set_option maxRecDepth 100000 in
theorem gw_1263 : Cond.methodLink "RepeatFreeLaw" 100 ⟨"RepeatFree", "rank", "()I"⟩ ∈ gw_G := gt_5 (i := 193) rfl rfl
set_option maxRecDepth 100000 in
theorem gw_1264 : Cond.instanceMethod ⟨"RepeatFree", "rank", "()I"⟩ ∈ gw_G := gt_5 (i := 194) rfl rfl
set_option maxRecDepth 100000 in
theorem gw_1265 : Cond.selects "RepeatFree" ⟨"RepeatFree", "rank", "()I"⟩ ⟨"RepeatFree", "rank", "()I"⟩ ∈ gw_G := gt_5 (i := 195) rfl rfl
set_option maxRecDepth 100000 in
theorem gw_1266 : Cond.code yX10_rank cX10_rank 3 (some .int) ∈ gw_G := gt_5 (i := 196) rfl rfl
set_option maxRecDepth 100000 in
theorem gw_1267 : Cond.methodLink "RepeatFree" 272 ⟨"RepeatFree$Line", "isAheadOf", "(LRepeatFree$Line;)Z"⟩ ∈ gw_G := gt_5 (i := 197) rfl rfl
set_option maxRecDepth 100000 in
theorem gw_1268 : Cond.instanceMethod ⟨"RepeatFree$Line", "isAheadOf", "(LRepeatFree$Line;)Z"⟩ ∈ gw_G := gt_5 (i := 198) rfl rfl
set_option maxRecDepth 100000 in
theorem gw_1269 : Cond.selects "RepeatFree$Line" ⟨"RepeatFree$Line", "isAheadOf", "(LRepeatFree$Line;)Z"⟩ ⟨"RepeatFree$Line", "isAheadOf", "(LRepeatFree$Line;)Z"⟩ ∈ gw_G := gt_5 (i := 199) rfl rfl
set_option maxRecDepth 100000 in
theorem gw_1270 : Cond.code yX1_isAheadOf cX1_isAheadOf 3 (some .boolean) ∈ gw_G := gt_5 (i := 200) rfl rfl
set_option maxRecDepth 100000 in
theorem gw_1271 : Cond.methodLink "RepeatFree$Line" 87 ⟨"RepeatFree$Line", "firstUnlike", "(LRepeatFree$Line;)I"⟩ ∈ gw_G := gt_5 (i := 201) rfl rfl
set_option maxRecDepth 100000 in
theorem gw_1272 : Cond.methodLink "RepeatFreeLaw" 278 ⟨"RepeatFreeLaw", "nth", "(LRepeatFree;II[J)I"⟩ ∈ gw_G := gt_5 (i := 202) rfl rfl
set_option maxRecDepth 100000 in
theorem gw_1273 : Cond.static ⟨"RepeatFreeLaw", "nth", "(LRepeatFree;II[J)I"⟩ ∈ gw_G := gt_5 (i := 203) rfl rfl
set_option maxRecDepth 100000 in
theorem gw_1274 : Cond.codeWith yL_nth cL_nth 5 (some .int) [(0, 10, 13, 13)] ∈ gw_G := gt_5 (i := 204) rfl rfl
set_option maxRecDepth 100000 in
theorem gw_1275 : Cond.methodLink "RepeatFreeLaw" 103 ⟨"RepeatFree", "nth", "(II)I"⟩ ∈ gw_G := gt_5 (i := 205) rfl rfl
set_option maxRecDepth 100000 in
theorem gw_1276 : Cond.instanceMethod ⟨"RepeatFree", "nth", "(II)I"⟩ ∈ gw_G := gt_5 (i := 206) rfl rfl
set_option maxRecDepth 100000 in
theorem gw_1277 : Cond.selects "RepeatFree" ⟨"RepeatFree", "nth", "(II)I"⟩ ⟨"RepeatFree", "nth", "(II)I"⟩ ∈ gw_G := gt_5 (i := 207) rfl rfl
set_option maxRecDepth 100000 in
theorem gw_1278 : Cond.code yX10_nth cX10_nth 3 (some .int) ∈ gw_G := gt_5 (i := 208) rfl rfl
set_option maxRecDepth 100000 in
theorem gw_1279 : Cond.methodLink "RepeatFreeLaw" 285 ⟨"RepeatFreeLaw", "limit", "(LRepeatFree;III[J)I"⟩ ∈ gw_G := gt_5 (i := 209) rfl rfl
set_option maxRecDepth 100000 in
theorem gw_1280 : Cond.static ⟨"RepeatFreeLaw", "limit", "(LRepeatFree;III[J)I"⟩ ∈ gw_G := gt_5 (i := 210) rfl rfl
set_option maxRecDepth 100000 in
theorem gw_1281 : Cond.codeWith yL_limit cL_limit 6 (some .int) [(0, 12, 15, 13)] ∈ gw_G := gt_5 (i := 211) rfl rfl
set_option maxRecDepth 100000 in
theorem gw_1282 : Cond.methodLink "RepeatFreeLaw" 106 ⟨"RepeatFree", "limit", "(III)I"⟩ ∈ gw_G := gt_5 (i := 212) rfl rfl
set_option maxRecDepth 100000 in
theorem gw_1283 : Cond.instanceMethod ⟨"RepeatFree", "limit", "(III)I"⟩ ∈ gw_G := gt_5 (i := 213) rfl rfl
set_option maxRecDepth 100000 in
theorem gw_1284 : Cond.selects "RepeatFree" ⟨"RepeatFree", "limit", "(III)I"⟩ ⟨"RepeatFree", "limit", "(III)I"⟩ ∈ gw_G := gt_5 (i := 214) rfl rfl
set_option maxRecDepth 100000 in
theorem gw_1285 : Cond.code yX10_limit cX10_limit 5 (some .int) ∈ gw_G := gt_5 (i := 215) rfl rfl
set_option maxRecDepth 100000 in
theorem gw_1286 : Cond.methodLink "RepeatFree" 226 ⟨"RepeatFree$Told", "setLimit", "(III)V"⟩ ∈ gw_G := gt_5 (i := 216) rfl rfl
set_option maxRecDepth 100000 in
theorem gw_1287 : Cond.methodLink "RepeatFreeLaw" 288 ⟨"RepeatFreeLaw", "avoid", "(LRepeatFree;IZ[J)I"⟩ ∈ gw_G := gt_5 (i := 217) rfl rfl
set_option maxRecDepth 100000 in
theorem gw_1288 : Cond.static ⟨"RepeatFreeLaw", "avoid", "(LRepeatFree;IZ[J)I"⟩ ∈ gw_G := gt_5 (i := 218) rfl rfl
set_option maxRecDepth 100000 in
theorem gw_1289 : Cond.codeWith yL_avoid cL_avoid 5 (some .int) [(0, 17, 20, 42)] ∈ gw_G := gt_5 (i := 219) rfl rfl
set_option maxRecDepth 100000 in
theorem gw_1290 : Cond.methodLink "RepeatFreeLaw" 109 ⟨"RepeatFree", "avoid", "(IZ)Z"⟩ ∈ gw_G := gt_5 (i := 220) rfl rfl
set_option maxRecDepth 100000 in
theorem gw_1291 : Cond.instanceMethod ⟨"RepeatFree", "avoid", "(IZ)Z"⟩ ∈ gw_G := gt_5 (i := 221) rfl rfl
set_option maxRecDepth 100000 in
theorem gw_1292 : Cond.selects "RepeatFree" ⟨"RepeatFree", "avoid", "(IZ)Z"⟩ ⟨"RepeatFree", "avoid", "(IZ)Z"⟩ ∈ gw_G := gt_5 (i := 222) rfl rfl
set_option maxRecDepth 100000 in
theorem gw_1293 : Cond.code yX10_avoid cX10_avoid 5 (some .boolean) ∈ gw_G := gt_5 (i := 223) rfl rfl
set_option maxRecDepth 100000 in
theorem gw_1294 : Cond.methodLink "RepeatFreeLaw" 300 ⟨"RepeatFreeLaw", "local", "(LRepeatFree;I[J)I"⟩ ∈ gw_G := gt_5 (i := 224) rfl rfl
set_option maxRecDepth 100000 in
theorem gw_1295 : Cond.static ⟨"RepeatFreeLaw", "local", "(LRepeatFree;I[J)I"⟩ ∈ gw_G := gt_5 (i := 225) rfl rfl
set_option maxRecDepth 100000 in
theorem gw_1296 : Cond.codeWith yL_local cL_local 4 (some .int) [(0, 9, 12, 13)] ∈ gw_G := gt_5 (i := 226) rfl rfl
set_option maxRecDepth 100000 in
theorem gw_1297 : Cond.methodLink "RepeatFreeLaw" 113 ⟨"RepeatFree", "local", "(I)I"⟩ ∈ gw_G := gt_5 (i := 227) rfl rfl
set_option maxRecDepth 100000 in
theorem gw_1298 : Cond.instanceMethod ⟨"RepeatFree", "local", "(I)I"⟩ ∈ gw_G := gt_5 (i := 228) rfl rfl
set_option maxRecDepth 100000 in
theorem gw_1299 : Cond.selects "RepeatFree" ⟨"RepeatFree", "local", "(I)I"⟩ ⟨"RepeatFree", "local", "(I)I"⟩ ∈ gw_G := gt_5 (i := 229) rfl rfl
set_option maxRecDepth 100000 in
theorem gw_1300 : Cond.code yX10_local cX10_local 3 (some .int) ∈ gw_G := gt_5 (i := 230) rfl rfl
set_option maxRecDepth 100000 in
theorem gw_1301 : Cond.methodLink "RepeatFree" 189 ⟨"RepeatFree$Line", "repeatsAround", "(II)Z"⟩ ∈ gw_G := gt_5 (i := 231) rfl rfl
set_option maxRecDepth 100000 in
theorem gw_1302 : Cond.instanceMethod ⟨"RepeatFree$Line", "repeatsAround", "(II)Z"⟩ ∈ gw_G := gt_5 (i := 232) rfl rfl
set_option maxRecDepth 100000 in
theorem gw_1303 : Cond.selects "RepeatFree$Line" ⟨"RepeatFree$Line", "repeatsAround", "(II)Z"⟩ ⟨"RepeatFree$Line", "repeatsAround", "(II)Z"⟩ ∈ gw_G := gt_5 (i := 233) rfl rfl
set_option maxRecDepth 100000 in
theorem gw_1304 : Cond.code yX1_repeatsAround cX1_repeatsAround 4 (some .boolean) ∈ gw_G := gt_5 (i := 234) rfl rfl
set_option maxRecDepth 100000 in
theorem gw_1305 : Cond.methodLink "RepeatFreeLaw" 303 ⟨"RepeatFreeLaw", "fill", "(LRepeatFree;III[J)I"⟩ ∈ gw_G := gt_5 (i := 235) rfl rfl
set_option maxRecDepth 100000 in
theorem gw_1306 : Cond.static ⟨"RepeatFreeLaw", "fill", "(LRepeatFree;III[J)I"⟩ ∈ gw_G := gt_5 (i := 236) rfl rfl
set_option maxRecDepth 100000 in
theorem gw_1307 : Cond.codeWith yL_fill cL_fill 6 (some .int) [(0, 12, 15, 42), (0, 12, 19, 13), (0, 12, 23, 22)] ∈ gw_G := gt_5 (i := 237) rfl rfl
set_option maxRecDepth 100000 in
theorem gw_1308 : Cond.methodLink "RepeatFreeLaw" 116 ⟨"RepeatFree", "fill", "(III)I"⟩ ∈ gw_G := gt_5 (i := 238) rfl rfl
set_option maxRecDepth 100000 in
theorem gw_1309 : Cond.instanceMethod ⟨"RepeatFree", "fill", "(III)I"⟩ ∈ gw_G := gt_5 (i := 239) rfl rfl
set_option maxRecDepth 100000 in
theorem gw_1310 : Cond.selects "RepeatFree" ⟨"RepeatFree", "fill", "(III)I"⟩ ⟨"RepeatFree", "fill", "(III)I"⟩ ∈ gw_G := gt_6 (i := 0) rfl rfl
set_option maxRecDepth 100000 in
theorem gw_1311 : Cond.code yX10_fill cX10_fill 7 (some .int) ∈ gw_G := gt_6 (i := 1) rfl rfl
set_option maxRecDepth 100000 in
theorem gw_1312 : Cond.methodLink "RepeatFreeLaw" 306 ⟨"RepeatFreeLaw", "sources", "(LRepeatFree;I[J)I"⟩ ∈ gw_G := gt_6 (i := 2) rfl rfl
set_option maxRecDepth 100000 in
theorem gw_1313 : Cond.static ⟨"RepeatFreeLaw", "sources", "(LRepeatFree;I[J)I"⟩ ∈ gw_G := gt_6 (i := 3) rfl rfl
set_option maxRecDepth 100000 in
theorem gw_1314 : Cond.codeWith yL_sources cL_sources 4 (some .int) [(0, 8, 11, 42)] ∈ gw_G := gt_6 (i := 4) rfl rfl
set_option maxRecDepth 100000 in
theorem gw_1315 : Cond.methodLink "RepeatFreeLaw" 119 ⟨"RepeatFree", "sources", "(I)J"⟩ ∈ gw_G := gt_6 (i := 5) rfl rfl
set_option maxRecDepth 100000 in
theorem gw_1316 : Cond.instanceMethod ⟨"RepeatFree", "sources", "(I)J"⟩ ∈ gw_G := gt_6 (i := 6) rfl rfl
set_option maxRecDepth 100000 in
theorem gw_1317 : Cond.selects "RepeatFree" ⟨"RepeatFree", "sources", "(I)J"⟩ ⟨"RepeatFree", "sources", "(I)J"⟩ ∈ gw_G := gt_6 (i := 7) rfl rfl
set_option maxRecDepth 100000 in
theorem gw_1318 : Cond.code yX10_sources cX10_sources 8 (some .long) ∈ gw_G := gt_6 (i := 8) rfl rfl
set_option maxRecDepth 100000 in
theorem gw_1319 : Cond.methodLink "RepeatFree" 316 ⟨"RepeatFree$Morph", "standsAt", "(LRepeatFree$Line;II)Z"⟩ ∈ gw_G := gt_6 (i := 9) rfl rfl
set_option maxRecDepth 100000 in
theorem gw_1320 : Cond.instanceMethod ⟨"RepeatFree$Morph", "standsAt", "(LRepeatFree$Line;II)Z"⟩ ∈ gw_G := gt_6 (i := 10) rfl rfl
set_option maxRecDepth 100000 in
theorem gw_1321 : Cond.selects "RepeatFree$Morph" ⟨"RepeatFree$Morph", "standsAt", "(LRepeatFree$Line;II)Z"⟩ ⟨"RepeatFree$Morph", "standsAt", "(LRepeatFree$Line;II)Z"⟩ ∈ gw_G := gt_6 (i := 11) rfl rfl
set_option maxRecDepth 100000 in
theorem gw_1322 : Cond.code yX2_standsAt cX2_standsAt 5 (some .boolean) ∈ gw_G := gt_6 (i := 12) rfl rfl
set_option maxRecDepth 100000 in
theorem gw_1323 : Cond.methodLink "RepeatFreeLaw" 309 ⟨"RepeatFreeLaw", "code", "(LRepeatFree;I[J)I"⟩ ∈ gw_G := gt_6 (i := 13) rfl rfl
set_option maxRecDepth 100000 in
theorem gw_1324 : Cond.static ⟨"RepeatFreeLaw", "code", "(LRepeatFree;I[J)I"⟩ ∈ gw_G := gt_6 (i := 14) rfl rfl
set_option maxRecDepth 100000 in
theorem gw_1325 : Cond.codeWith yL_code cL_code 4 (some .int) [(0, 16, 19, 42)] ∈ gw_G := gt_6 (i := 15) rfl rfl
set_option maxRecDepth 100000 in
theorem gw_1326 : Cond.methodLink "RepeatFreeLaw" 123 ⟨"RepeatFree", "code", "(I)Z"⟩ ∈ gw_G := gt_6 (i := 16) rfl rfl
set_option maxRecDepth 100000 in
theorem gw_1327 : Cond.instanceMethod ⟨"RepeatFree", "code", "(I)Z"⟩ ∈ gw_G := gt_6 (i := 17) rfl rfl
set_option maxRecDepth 100000 in
theorem gw_1328 : Cond.selects "RepeatFree" ⟨"RepeatFree", "code", "(I)Z"⟩ ⟨"RepeatFree", "code", "(I)Z"⟩ ∈ gw_G := gt_6 (i := 18) rfl rfl
set_option maxRecDepth 100000 in
theorem gw_1329 : Cond.code yX10_code cX10_code 2 (some .boolean) ∈ gw_G := gt_6 (i := 19) rfl rfl
set_option maxRecDepth 100000 in
theorem gw_1330 : Cond.methodLink "RepeatFree" 320 ⟨"RepeatFree$Morph", "isCode", "(I)Z"⟩ ∈ gw_G := gt_6 (i := 20) rfl rfl
set_option maxRecDepth 100000 in
theorem gw_1331 : Cond.instanceMethod ⟨"RepeatFree$Morph", "isCode", "(I)Z"⟩ ∈ gw_G := gt_6 (i := 21) rfl rfl
set_option maxRecDepth 100000 in
theorem gw_1332 : Cond.selects "RepeatFree$Morph" ⟨"RepeatFree$Morph", "isCode", "(I)Z"⟩ ⟨"RepeatFree$Morph", "isCode", "(I)Z"⟩ ∈ gw_G := gt_6 (i := 22) rfl rfl
set_option maxRecDepth 100000 in
theorem gw_1333 : Cond.code yX2_isCode cX2_isCode 7 (some .boolean) ∈ gw_G := gt_6 (i := 23) rfl rfl
set_option maxRecDepth 100000 in
theorem gw_1334 : Cond.methodLink "RepeatFree$Morph" 54 ⟨"RepeatFree$Morph", "agrees", "(III)Z"⟩ ∈ gw_G := gt_6 (i := 24) rfl rfl
set_option maxRecDepth 100000 in
theorem gw_1336 : Cond.instanceMethod ⟨"RepeatFree$Morph", "agrees", "(III)Z"⟩ ∈ gw_G := gt_6 (i := 26) rfl rfl
set_option maxRecDepth 100000 in
theorem gw_1337 : Cond.code yX2_agrees cX2_agrees 5 (some .boolean) ∈ gw_G := gt_6 (i := 27) rfl rfl
set_option maxRecDepth 100000 in
theorem gw_1338 : Cond.methodLink "RepeatFree$Morph" 58 ⟨"RepeatFree$Morph", "restBehind", "(III)J"⟩ ∈ gw_G := gt_6 (i := 28) rfl rfl
set_option maxRecDepth 100000 in
theorem gw_1340 : Cond.instanceMethod ⟨"RepeatFree$Morph", "restBehind", "(III)J"⟩ ∈ gw_G := gt_6 (i := 30) rfl rfl
set_option maxRecDepth 100000 in
theorem gw_1341 : Cond.code yX2_restBehind cX2_restBehind 5 (some .long) ∈ gw_G := gt_6 (i := 31) rfl rfl
set_option maxRecDepth 100000 in
theorem gw_1342 : Cond.methodLink "RepeatFree$Morph" 62 ⟨"RepeatFree$Morph", "restBit", "(II)J"⟩ ∈ gw_G := gt_6 (i := 32) rfl rfl
set_option maxRecDepth 100000 in
theorem gw_1344 : Cond.instanceMethod ⟨"RepeatFree$Morph", "restBit", "(II)J"⟩ ∈ gw_G := gt_6 (i := 34) rfl rfl
set_option maxRecDepth 100000 in
theorem gw_1345 : Cond.code yX2_restBit cX2_restBit 3 (some .long) ∈ gw_G := gt_6 (i := 35) rfl rfl
set_option maxRecDepth 100000 in
theorem gw_1346 : Cond.methodLink "RepeatFree$Morph" 66 ⟨"RepeatFree$Morph", "restsBehind", "(III)J"⟩ ∈ gw_G := gt_6 (i := 36) rfl rfl
set_option maxRecDepth 100000 in
theorem gw_1348 : Cond.instanceMethod ⟨"RepeatFree$Morph", "restsBehind", "(III)J"⟩ ∈ gw_G := gt_6 (i := 38) rfl rfl
set_option maxRecDepth 100000 in
theorem gw_1349 : Cond.code yX2_restsBehind cX2_restsBehind 7 (some .long) ∈ gw_G := gt_6 (i := 39) rfl rfl
set_option maxRecDepth 100000 in
theorem gw_1350 : Cond.methodLink "RepeatFreeLaw" 312 ⟨"RepeatFreeLaw", "whole", "(LRepeatFree;III[J)I"⟩ ∈ gw_G := gt_6 (i := 40) rfl rfl
set_option maxRecDepth 100000 in
theorem gw_1351 : Cond.static ⟨"RepeatFreeLaw", "whole", "(LRepeatFree;III[J)I"⟩ ∈ gw_G := gt_6 (i := 41) rfl rfl
set_option maxRecDepth 100000 in
theorem gw_1352 : Cond.codeWith yL_whole cL_whole 6 (some .int) [(0, 12, 15, 42), (0, 12, 19, 30)] ∈ gw_G := gt_6 (i := 42) rfl rfl
set_option maxRecDepth 100000 in
theorem gw_1353 : Cond.methodLink "RepeatFreeLaw" 126 ⟨"RepeatFree", "whole", "(III)I"⟩ ∈ gw_G := gt_6 (i := 43) rfl rfl
set_option maxRecDepth 100000 in
theorem gw_1354 : Cond.instanceMethod ⟨"RepeatFree", "whole", "(III)I"⟩ ∈ gw_G := gt_6 (i := 44) rfl rfl
set_option maxRecDepth 100000 in
theorem gw_1355 : Cond.selects "RepeatFree" ⟨"RepeatFree", "whole", "(III)I"⟩ ⟨"RepeatFree", "whole", "(III)I"⟩ ∈ gw_G := gt_6 (i := 45) rfl rfl
set_option maxRecDepth 100000 in
theorem gw_1356 : Cond.code yX10_whole cX10_whole 6 (some .int) ∈ gw_G := gt_6 (i := 46) rfl rfl
set_option maxRecDepth 100000 in
theorem gw_1357 : Cond.methodLink "RepeatFreeLaw" 148 ⟨"RepeatFreeModel", "thrown", "()I"⟩ ∈ gw_G := gt_6 (i := 47) rfl rfl
set_option maxRecDepth 100000 in
theorem gw_1358 : Cond.instanceMethod ⟨"RepeatFreeModel", "thrown", "()I"⟩ ∈ gw_G := gt_6 (i := 48) rfl rfl
set_option maxRecDepth 100000 in
theorem gw_1359 : Cond.selects "RepeatFreeModel" ⟨"RepeatFreeModel", "thrown", "()I"⟩ ⟨"RepeatFreeModel", "thrown", "()I"⟩ ∈ gw_G := gt_6 (i := 49) rfl rfl
set_option maxRecDepth 100000 in
theorem gw_1360 : Cond.code yX11_thrown cX11_thrown 1 (some .int) ∈ gw_G := gt_6 (i := 50) rfl rfl
set_option maxRecDepth 100000 in
theorem gw_1361 : Cond.methodLink "RepeatFreeLaw" 137 ⟨"RepeatFreeModel", "feed", "(IIIII)I"⟩ ∈ gw_G := gt_6 (i := 51) rfl rfl
set_option maxRecDepth 100000 in
theorem gw_1362 : Cond.instanceMethod ⟨"RepeatFreeModel", "feed", "(IIIII)I"⟩ ∈ gw_G := gt_6 (i := 52) rfl rfl
set_option maxRecDepth 100000 in
theorem gw_1363 : Cond.selects "RepeatFreeModel" ⟨"RepeatFreeModel", "feed", "(IIIII)I"⟩ ⟨"RepeatFreeModel", "feed", "(IIIII)I"⟩ ∈ gw_G := gt_6 (i := 53) rfl rfl
set_option maxRecDepth 100000 in
theorem gw_1364 : Cond.code yX11_feed cX11_feed 7 (some .int) ∈ gw_G := gt_6 (i := 54) rfl rfl
set_option maxRecDepth 100000 in
theorem gw_1365 : Cond.methodLink "RepeatFreeLaw" 141 ⟨"RepeatFreeModel", "end", "(I)Z"⟩ ∈ gw_G := gt_6 (i := 55) rfl rfl
set_option maxRecDepth 100000 in
theorem gw_1366 : Cond.instanceMethod ⟨"RepeatFreeModel", "end", "(I)Z"⟩ ∈ gw_G := gt_6 (i := 56) rfl rfl
set_option maxRecDepth 100000 in
theorem gw_1367 : Cond.selects "RepeatFreeModel" ⟨"RepeatFreeModel", "end", "(I)Z"⟩ ⟨"RepeatFreeModel", "end", "(I)Z"⟩ ∈ gw_G := gt_6 (i := 57) rfl rfl
set_option maxRecDepth 100000 in
theorem gw_1368 : Cond.code yX11_end cX11_end 2 (some .boolean) ∈ gw_G := gt_6 (i := 58) rfl rfl
set_option maxRecDepth 100000 in
theorem gw_1369 : Cond.methodLink "RepeatFreeLaw" 157 ⟨"RepeatFreeModel", "fault", "()I"⟩ ∈ gw_G := gt_6 (i := 59) rfl rfl
set_option maxRecDepth 100000 in
theorem gw_1370 : Cond.instanceMethod ⟨"RepeatFreeModel", "fault", "()I"⟩ ∈ gw_G := gt_6 (i := 60) rfl rfl
set_option maxRecDepth 100000 in
theorem gw_1371 : Cond.selects "RepeatFreeModel" ⟨"RepeatFreeModel", "fault", "()I"⟩ ⟨"RepeatFreeModel", "fault", "()I"⟩ ∈ gw_G := gt_6 (i := 61) rfl rfl
set_option maxRecDepth 100000 in
theorem gw_1372 : Cond.code yX11_fault cX11_fault 1 (some .int) ∈ gw_G := gt_6 (i := 62) rfl rfl
set_option maxRecDepth 100000 in
theorem gw_1373 : Cond.classLink "RepeatFreeLaw" 130 "RepeatFreeModel" ∈ gw_G := gt_6 (i := 63) rfl rfl
set_option maxRecDepth 100000 in
theorem gw_1374 : Cond.instantiable "RepeatFreeModel" 32 ∈ gw_G := gt_6 (i := 64) rfl rfl
set_option maxRecDepth 100000 in
theorem gw_1375 : Cond.methodLink "RepeatFreeLaw" 132 ⟨"RepeatFreeModel", "<init>", "()V"⟩ ∈ gw_G := gt_6 (i := 65) rfl rfl
set_option maxRecDepth 100000 in
theorem gw_1376 : Cond.instanceMethod ⟨"RepeatFreeModel", "<init>", "()V"⟩ ∈ gw_G := gt_6 (i := 66) rfl rfl
set_option maxRecDepth 100000 in
theorem gw_1377 : Cond.code yX11_init cX11_init 1 none ∈ gw_G := gt_6 (i := 67) rfl rfl
set_option maxRecDepth 100000 in
theorem gw_1378 : Cond.methodLink "RepeatFreeModel" 72 ⟨"java/lang/Object", "<init>", "()V"⟩ ∈ gw_G := gt_6 (i := 68) rfl rfl
set_option maxRecDepth 100000 in
theorem gw_1379 : Cond.fieldLink "RepeatFreeModel" 3 "RepeatFreeModel" "thrown" "I" ∈ gw_G := gt_6 (i := 69) rfl rfl
set_option maxRecDepth 100000 in
theorem gw_1380 : Cond.fieldLink "RepeatFreeModel" 14 "RepeatFreeModel" "tape" "[B" ∈ gw_G := gt_6 (i := 70) rfl rfl
set_option maxRecDepth 100000 in
theorem gw_1381 : Cond.fieldLink "RepeatFreeModel" 7 "RepeatFreeModel" "taped" "I" ∈ gw_G := gt_6 (i := 71) rfl rfl
set_option maxRecDepth 100000 in
theorem gw_1382 : Cond.fieldLink "RepeatFreeModel" 10 "RepeatFreeModel" "five" "[I" ∈ gw_G := gt_6 (i := 72) rfl rfl
set_option maxRecDepth 100000 in
theorem gw_1383 : Cond.fieldLink "RepeatFreeModel" 21 "RepeatFreeModel" "point" "I" ∈ gw_G := gt_6 (i := 73) rfl rfl
set_option maxRecDepth 100000 in
theorem gw_1384 : Cond.fieldLink "RepeatFreeModel" 31 "RepeatFreeModel" "begin" "I" ∈ gw_G := gt_6 (i := 74) rfl rfl
set_option maxRecDepth 100000 in
theorem gw_1385 : Cond.fieldLink "RepeatFreeModel" 18 "RepeatFreeModel" "size" "I" ∈ gw_G := gt_6 (i := 75) rfl rfl
set_option maxRecDepth 100000 in
theorem gw_1386 : Cond.fieldLink "RepeatFreeModel" 24 "RepeatFreeModel" "faultAt" "I" ∈ gw_G := gt_6 (i := 76) rfl rfl
set_option maxRecDepth 100000 in
theorem gw_1387 : Cond.fieldLink "RepeatFreeModel" 69 "RepeatFreeModel" "fault" "I" ∈ gw_G := gt_6 (i := 77) rfl rfl
set_option maxRecDepth 100000 in
theorem gw_1388 : Cond.fieldLink "RepeatFreeModel" 77 "RepeatFreeModel" "told" "[I" ∈ gw_G := gt_6 (i := 78) rfl rfl
set_option maxRecDepth 100000 in
theorem gw_1389 : Cond.fieldLink "RepeatFreeModel" 80 "RepeatFreeModel" "draft" "[I" ∈ gw_G := gt_6 (i := 79) rfl rfl
set_option maxRecDepth 100000 in
theorem gw_1390 : Cond.fieldLink "RepeatFreeModel" 141 "RepeatFreeModel" "hasLimit" "Z" ∈ gw_G := gt_6 (i := 80) rfl rfl
set_option maxRecDepth 100000 in
theorem gw_1391 : Cond.fieldLink "RepeatFreeModel" 83 "RepeatFreeModel" "word" "[I" ∈ gw_G := gt_6 (i := 81) rfl rfl
set_option maxRecDepth 100000 in
theorem gw_1392 : Cond.fieldLink "RepeatFreeModel" 86 "RepeatFreeModel" "given" "[I" ∈ gw_G := gt_6 (i := 82) rfl rfl
set_option maxRecDepth 100000 in
theorem gw_1393 : Cond.fieldLink "RepeatFreeModel" 184 "RepeatFreeModel" "many" "I" ∈ gw_G := gt_6 (i := 83) rfl rfl
set_option maxRecDepth 100000 in
theorem gw_1394 : Cond.fieldLink "RepeatFreeModel" 187 "RepeatFreeModel" "acts" "I" ∈ gw_G := gt_6 (i := 84) rfl rfl
set_option maxRecDepth 100000 in
theorem gw_1395 : Cond.fieldLink "RepeatFreeModel" 89 "RepeatFreeModel" "past" "[I" ∈ gw_G := gt_6 (i := 85) rfl rfl
set_option maxRecDepth 100000 in
theorem gw_1396 : Cond.fieldLink "RepeatFreeModel" 92 "RepeatFreeModel" "sizes" "[I" ∈ gw_G := gt_6 (i := 86) rfl rfl
set_option maxRecDepth 100000 in
theorem gw_1397 : Cond.fieldLink "RepeatFreeModel" 95 "RepeatFreeModel" "begun" "[I" ∈ gw_G := gt_6 (i := 87) rfl rfl
set_option maxRecDepth 100000 in
theorem gw_1398 : Cond.fieldLink "RepeatFreeModel" 98 "RepeatFreeModel" "row" "[I" ∈ gw_G := gt_6 (i := 88) rfl rfl
set_option maxRecDepth 100000 in
theorem gw_1399 : Cond.fieldLink "RepeatFreeModel" 262 "RepeatFreeModel" "tries" "I" ∈ gw_G := gt_6 (i := 89) rfl rfl
set_option maxRecDepth 100000 in
theorem gw_1400 : Cond.fieldLink "RepeatFreeModel" 274 "RepeatFreeModel" "foundMany" "I" ∈ gw_G := gt_6 (i := 90) rfl rfl
set_option maxRecDepth 100000 in
theorem gw_1401 : Cond.fieldLink "RepeatFreeModel" 265 "RepeatFreeModel" "isCut" "Z" ∈ gw_G := gt_6 (i := 91) rfl rfl
set_option maxRecDepth 100000 in
theorem gw_1402 : Cond.fieldLink "RepeatFreeModel" 284 "RepeatFreeModel" "wanted" "I" ∈ gw_G := gt_6 (i := 92) rfl rfl
set_option maxRecDepth 100000 in
theorem gw_1403 : Cond.fieldLink "RepeatFreeModel" 312 "RepeatFreeModel" "mapNow" "I" ∈ gw_G := gt_6 (i := 93) rfl rfl
set_option maxRecDepth 100000 in
theorem gw_1404 : Cond.fieldLink "RepeatFreeModel" 271 "RepeatFreeModel" "isFound" "Z" ∈ gw_G := gt_6 (i := 94) rfl rfl
set_option maxRecDepth 100000 in
theorem gw_1405 : Cond.fieldLink "RepeatFreeModel" 101 "RepeatFreeModel" "imaged" "[I" ∈ gw_G := gt_6 (i := 95) rfl rfl
set_option maxRecDepth 100000 in
theorem gw_1406 : Cond.fieldLink "RepeatFreeModel" 104 "RepeatFreeModel" "counts" "[J" ∈ gw_G := gt_6 (i := 96) rfl rfl
set_option maxRecDepth 100000 in
theorem gw_1407 : Cond.fieldLink "RepeatFreeModel" 108 "RepeatFreeModel" "sums" "[J" ∈ gw_G := gt_6 (i := 97) rfl rfl
set_option maxRecDepth 100000 in
theorem gw_1408 : Cond.fieldLink "RepeatFreeModel" 111 "RepeatFreeModel" "hangs" "[Z" ∈ gw_G := gt_6 (i := 98) rfl rfl
set_option maxRecDepth 100000 in
theorem gw_1409 : Cond.fieldLink "RepeatFreeModel" 346 "RepeatFreeModel" "isNoCode" "Z" ∈ gw_G := gt_6 (i := 99) rfl rfl
set_option maxRecDepth 100000 in
theorem gw_1410 : Cond.fieldLink "RepeatFreeModel" 115 "RepeatFreeModel" "joined" "[I" ∈ gw_G := gt_6 (i := 100) rfl rfl
set_option maxRecDepth 100000 in
theorem gw_1476 : Cond.arrayClass .boolean ∈ gw_G := gt_6 (i := 166) rfl rfl
set_option maxRecDepth 100000 in
theorem gw_1477 : Cond.methodLink "RepeatFreeLaw" 147 ⟨"RepeatFreeModel", "read", "()I"⟩ ∈ gw_G := gt_6 (i := 167) rfl rfl
set_option maxRecDepth 100000 in
theorem gw_1478 : Cond.instanceMethod ⟨"RepeatFreeModel", "read", "()I"⟩ ∈ gw_G := gt_6 (i := 168) rfl rfl
set_option maxRecDepth 100000 in
theorem gw_1479 : Cond.selects "RepeatFreeModel" ⟨"RepeatFreeModel", "read", "()I"⟩ ⟨"RepeatFreeModel", "read", "()I"⟩ ∈ gw_G := gt_6 (i := 169) rfl rfl
set_option maxRecDepth 100000 in
theorem gw_1480 : Cond.code yX11_read cX11_read 2 (some .int) ∈ gw_G := gt_6 (i := 170) rfl rfl
set_option maxRecDepth 100000 in
theorem gw_1481 : Cond.methodLink "RepeatFreeModel" 174 ⟨"RepeatFreeModel", "begins", "()V"⟩ ∈ gw_G := gt_6 (i := 171) rfl rfl
set_option maxRecDepth 100000 in
theorem gw_1483 : Cond.instanceMethod ⟨"RepeatFreeModel", "begins", "()V"⟩ ∈ gw_G := gt_6 (i := 173) rfl rfl
set_option maxRecDepth 100000 in
theorem gw_1484 : Cond.code yX11_begins cX11_begins 1 none ∈ gw_G := gt_6 (i := 174) rfl rfl
set_option maxRecDepth 100000 in
theorem gw_1485 : Cond.methodLink "RepeatFreeModel" 34 ⟨"RepeatFreeModel", "blanks", "()V"⟩ ∈ gw_G := gt_6 (i := 175) rfl rfl
set_option maxRecDepth 100000 in
theorem gw_1487 : Cond.instanceMethod ⟨"RepeatFreeModel", "blanks", "()V"⟩ ∈ gw_G := gt_6 (i := 177) rfl rfl
set_option maxRecDepth 100000 in
theorem gw_1488 : Cond.code yX11_blanks cX11_blanks 1 none ∈ gw_G := gt_6 (i := 178) rfl rfl
set_option maxRecDepth 100000 in
theorem gw_1489 : Cond.methodLink "RepeatFreeModel" 27 ⟨"RepeatFreeModel", "isAt", "(II)Z"⟩ ∈ gw_G := gt_6 (i := 179) rfl rfl
set_option maxRecDepth 100000 in
theorem gw_1491 : Cond.instanceMethod ⟨"RepeatFreeModel", "isAt", "(II)Z"⟩ ∈ gw_G := gt_6 (i := 181) rfl rfl
set_option maxRecDepth 100000 in
theorem gw_1492 : Cond.code yX11_isAt cX11_isAt 3 (some .boolean) ∈ gw_G := gt_6 (i := 182) rfl rfl
set_option maxRecDepth 100000 in
theorem gw_1493 : Cond.methodLink "RepeatFreeModel" 38 ⟨"RepeatFreeModel", "hasFailed", "()Z"⟩ ∈ gw_G := gt_6 (i := 183) rfl rfl
set_option maxRecDepth 100000 in
theorem gw_1495 : Cond.instanceMethod ⟨"RepeatFreeModel", "hasFailed", "()Z"⟩ ∈ gw_G := gt_6 (i := 185) rfl rfl
set_option maxRecDepth 100000 in
theorem gw_1496 : Cond.code yX11_hasFailed cX11_hasFailed 1 (some .boolean) ∈ gw_G := gt_6 (i := 186) rfl rfl
set_option maxRecDepth 100000 in
theorem gw_1497 : Cond.methodLink "RepeatFreeModel" 177 ⟨"RepeatFreeModel", "line", "()V"⟩ ∈ gw_G := gt_6 (i := 187) rfl rfl
set_option maxRecDepth 100000 in
theorem gw_1499 : Cond.instanceMethod ⟨"RepeatFreeModel", "line", "()V"⟩ ∈ gw_G := gt_6 (i := 189) rfl rfl
set_option maxRecDepth 100000 in
theorem gw_1500 : Cond.code yX11_line cX11_line 2 none ∈ gw_G := gt_6 (i := 190) rfl rfl
set_option maxRecDepth 100000 in
theorem gw_1502 : Cond.methodLink "RepeatFreeModel" 62 ⟨"RepeatFreeModel", "takesWord", "(Ljava/lang/String;)Z"⟩ ∈ gw_G := gt_6 (i := 192) rfl rfl
set_option maxRecDepth 100000 in
theorem gw_1504 : Cond.instanceMethod ⟨"RepeatFreeModel", "takesWord", "(Ljava/lang/String;)Z"⟩ ∈ gw_G := gt_6 (i := 194) rfl rfl
set_option maxRecDepth 100000 in
theorem gw_1505 : Cond.code yX11_takesWord cX11_takesWord 3 (some .boolean) ∈ gw_G := gt_6 (i := 195) rfl rfl
set_option maxRecDepth 100000 in
theorem gw_1506 : Cond.methodLink "RepeatFreeModel" 58 ⟨"RepeatFreeModel", "isWord", "(Ljava/lang/String;)Z"⟩ ∈ gw_G := gt_6 (i := 196) rfl rfl
set_option maxRecDepth 100000 in
theorem gw_1508 : Cond.instanceMethod ⟨"RepeatFreeModel", "isWord", "(Ljava/lang/String;)Z"⟩ ∈ gw_G := gt_6 (i := 198) rfl rfl
set_option maxRecDepth 100000 in
theorem gw_1509 : Cond.code yX11_isWord cX11_isWord 4 (some .boolean) ∈ gw_G := gt_6 (i := 199) rfl rfl
set_option maxRecDepth 100000 in
theorem gw_1510 : Cond.methodLink "RepeatFreeModel" 45 ⟨"RepeatFreeModel", "wordMany", "()I"⟩ ∈ gw_G := gt_6 (i := 200) rfl rfl
set_option maxRecDepth 100000 in
theorem gw_1512 : Cond.instanceMethod ⟨"RepeatFreeModel", "wordMany", "()I"⟩ ∈ gw_G := gt_6 (i := 202) rfl rfl
set_option maxRecDepth 100000 in
theorem gw_1513 : Cond.code yX11_wordMany cX11_wordMany 2 (some .int) ∈ gw_G := gt_6 (i := 203) rfl rfl
set_option maxRecDepth 100000 in
theorem gw_1514 : Cond.methodLink "RepeatFreeModel" 49 ⟨"java/lang/String", "length", "()I"⟩ ∈ gw_G := gt_6 (i := 204) rfl rfl
set_option maxRecDepth 100000 in
theorem gw_1515 : Cond.methodLink "RepeatFreeModel" 54 ⟨"java/lang/String", "charAt", "(I)C"⟩ ∈ gw_G := gt_6 (i := 205) rfl rfl
set_option maxRecDepth 100000 in
theorem gw_1516 : Cond.methodLink "RepeatFreeModel" 149 ⟨"RepeatFreeModel", "number", "(II)I"⟩ ∈ gw_G := gt_6 (i := 206) rfl rfl
set_option maxRecDepth 100000 in
theorem gw_1518 : Cond.instanceMethod ⟨"RepeatFreeModel", "number", "(II)I"⟩ ∈ gw_G := gt_6 (i := 208) rfl rfl
set_option maxRecDepth 100000 in
theorem gw_1519 : Cond.code yX11_number cX11_number 5 (some .int) ∈ gw_G := gt_6 (i := 209) rfl rfl
set_option maxRecDepth 100000 in
theorem gw_1520 : Cond.methodLink "RepeatFreeModel" 65 ⟨"RepeatFreeModel", "in", "(III)Z"⟩ ∈ gw_G := gt_6 (i := 210) rfl rfl
set_option maxRecDepth 100000 in
theorem gw_1521 : Cond.static ⟨"RepeatFreeModel", "in", "(III)Z"⟩ ∈ gw_G := gt_6 (i := 211) rfl rfl
set_option maxRecDepth 100000 in
theorem gw_1522 : Cond.code yX11_in cX11_in 3 (some .boolean) ∈ gw_G := gt_6 (i := 212) rfl rfl
set_option maxRecDepth 100000 in
theorem gw_1523 : Cond.methodLink "RepeatFreeModel" 42 ⟨"RepeatFreeModel", "fails", "()V"⟩ ∈ gw_G := gt_6 (i := 213) rfl rfl
set_option maxRecDepth 100000 in
theorem gw_1525 : Cond.instanceMethod ⟨"RepeatFreeModel", "fails", "()V"⟩ ∈ gw_G := gt_6 (i := 215) rfl rfl
set_option maxRecDepth 100000 in
theorem gw_1526 : Cond.code yX11_fails cX11_fails 1 none ∈ gw_G := gt_6 (i := 216) rfl rfl
set_option maxRecDepth 100000 in
theorem gw_1528 : Cond.methodLink "RepeatFreeModel" 159 ⟨"RepeatFreeModel", "limitLine", "()V"⟩ ∈ gw_G := gt_6 (i := 218) rfl rfl
set_option maxRecDepth 100000 in
theorem gw_1530 : Cond.instanceMethod ⟨"RepeatFreeModel", "limitLine", "()V"⟩ ∈ gw_G := gt_6 (i := 220) rfl rfl
set_option maxRecDepth 100000 in
theorem gw_1531 : Cond.code yX11_limitLine cX11_limitLine 2 none ∈ gw_G := gt_6 (i := 221) rfl rfl
set_option maxRecDepth 100000 in
theorem gw_1532 : Cond.methodLink "RepeatFreeModel" 145 ⟨"RepeatFreeModel", "asksWord", "(Ljava/lang/String;)V"⟩ ∈ gw_G := gt_6 (i := 222) rfl rfl
set_option maxRecDepth 100000 in
theorem gw_1534 : Cond.instanceMethod ⟨"RepeatFreeModel", "asksWord", "(Ljava/lang/String;)V"⟩ ∈ gw_G := gt_6 (i := 224) rfl rfl
set_option maxRecDepth 100000 in
theorem gw_1535 : Cond.code yX11_asksWord cX11_asksWord 2 none ∈ gw_G := gt_6 (i := 225) rfl rfl
set_option maxRecDepth 100000 in
theorem gw_1540 : Cond.methodLink "RepeatFreeModel" 162 ⟨"RepeatFreeModel", "mapLine", "()V"⟩ ∈ gw_G := gt_6 (i := 230) rfl rfl
set_option maxRecDepth 100000 in
theorem gw_1542 : Cond.instanceMethod ⟨"RepeatFreeModel", "mapLine", "()V"⟩ ∈ gw_G := gt_6 (i := 232) rfl rfl
set_option maxRecDepth 100000 in
theorem gw_1543 : Cond.code yX11_mapLine cX11_mapLine 3 none ∈ gw_G := gt_6 (i := 233) rfl rfl
set_option maxRecDepth 100000 in
theorem gw_1544 : Cond.methodLink "RepeatFreeModel" 152 ⟨"RepeatFreeModel", "freshName", "(I)V"⟩ ∈ gw_G := gt_6 (i := 234) rfl rfl
set_option maxRecDepth 100000 in
theorem gw_1546 : Cond.instanceMethod ⟨"RepeatFreeModel", "freshName", "(I)V"⟩ ∈ gw_G := gt_6 (i := 236) rfl rfl
set_option maxRecDepth 100000 in
theorem gw_1547 : Cond.code yX11_freshName cX11_freshName 4 none ∈ gw_G := gt_6 (i := 237) rfl rfl
set_option maxRecDepth 100000 in
theorem gw_1548 : Cond.methodLink "RepeatFreeModel" 134 ⟨"RepeatFreeModel", "isName", "()Z"⟩ ∈ gw_G := gt_6 (i := 238) rfl rfl
set_option maxRecDepth 100000 in
theorem gw_1550 : Cond.instanceMethod ⟨"RepeatFreeModel", "isName", "()Z"⟩ ∈ gw_G := gt_7 (i := 0) rfl rfl
set_option maxRecDepth 100000 in
theorem gw_1551 : Cond.code yX11_isName cX11_isName 2 (some .boolean) ∈ gw_G := gt_7 (i := 1) rfl rfl
set_option maxRecDepth 100000 in
theorem gw_1554 : Cond.methodLink "RepeatFreeModel" 137 ⟨"RepeatFreeModel", "named", "(II)I"⟩ ∈ gw_G := gt_7 (i := 4) rfl rfl
set_option maxRecDepth 100000 in
theorem gw_1556 : Cond.instanceMethod ⟨"RepeatFreeModel", "named", "(II)I"⟩ ∈ gw_G := gt_7 (i := 6) rfl rfl
set_option maxRecDepth 100000 in
theorem gw_1557 : Cond.code yX11_named cX11_named 7 (some .int) ∈ gw_G := gt_7 (i := 7) rfl rfl
set_option maxRecDepth 100000 in
theorem gw_1558 : Cond.methodLink "RepeatFreeModel" 156 ⟨"RepeatFreeModel", "letters", "(II[II)I"⟩ ∈ gw_G := gt_7 (i := 8) rfl rfl
set_option maxRecDepth 100000 in
theorem gw_1560 : Cond.instanceMethod ⟨"RepeatFreeModel", "letters", "(II[II)I"⟩ ∈ gw_G := gt_7 (i := 10) rfl rfl
set_option maxRecDepth 100000 in
theorem gw_1561 : Cond.code yX11_letters cX11_letters 8 (some .int) ∈ gw_G := gt_7 (i := 11) rfl rfl
set_option maxRecDepth 100000 in
theorem gw_1562 : Cond.methodLink "RepeatFreeModel" 165 ⟨"RepeatFreeModel", "patternLine", "()V"⟩ ∈ gw_G := gt_7 (i := 12) rfl rfl
set_option maxRecDepth 100000 in
theorem gw_1564 : Cond.instanceMethod ⟨"RepeatFreeModel", "patternLine", "()V"⟩ ∈ gw_G := gt_7 (i := 14) rfl rfl
set_option maxRecDepth 100000 in
theorem gw_1565 : Cond.code yX11_patternLine cX11_patternLine 2 none ∈ gw_G := gt_7 (i := 15) rfl rfl
set_option maxRecDepth 100000 in
theorem gw_1566 : Cond.methodLink "RepeatFreeModel" 168 ⟨"RepeatFreeModel", "avoidLine", "()V"⟩ ∈ gw_G := gt_7 (i := 16) rfl rfl
set_option maxRecDepth 100000 in
theorem gw_1568 : Cond.instanceMethod ⟨"RepeatFreeModel", "avoidLine", "()V"⟩ ∈ gw_G := gt_7 (i := 18) rfl rfl
set_option maxRecDepth 100000 in
theorem gw_1569 : Cond.code yX11_avoidLine cX11_avoidLine 2 none ∈ gw_G := gt_7 (i := 19) rfl rfl
set_option maxRecDepth 100000 in
theorem gw_1570 : Cond.methodLink "RepeatFreeModel" 171 ⟨"RepeatFreeModel", "asksSign", "(I)V"⟩ ∈ gw_G := gt_7 (i := 20) rfl rfl
set_option maxRecDepth 100000 in
theorem gw_1572 : Cond.instanceMethod ⟨"RepeatFreeModel", "asksSign", "(I)V"⟩ ∈ gw_G := gt_7 (i := 22) rfl rfl
set_option maxRecDepth 100000 in
theorem gw_1573 : Cond.code yX11_asksSign cX11_asksSign 2 none ∈ gw_G := gt_7 (i := 23) rfl rfl
set_option maxRecDepth 100000 in
theorem gw_1574 : Cond.methodLink "RepeatFreeModel" 180 ⟨"RepeatFreeModel", "throwsIf", "(ZI)Z"⟩ ∈ gw_G := gt_7 (i := 24) rfl rfl
set_option maxRecDepth 100000 in
theorem gw_1576 : Cond.instanceMethod ⟨"RepeatFreeModel", "throwsIf", "(ZI)Z"⟩ ∈ gw_G := gt_7 (i := 26) rfl rfl
set_option maxRecDepth 100000 in
theorem gw_1577 : Cond.code yX11_throwsIf cX11_throwsIf 3 (some .boolean) ∈ gw_G := gt_7 (i := 27) rfl rfl
set_option maxRecDepth 100000 in
theorem gw_1578 : Cond.methodLink "RepeatFreeLaw" 172 ⟨"RepeatFreeModel", "undo", "()I"⟩ ∈ gw_G := gt_7 (i := 28) rfl rfl
set_option maxRecDepth 100000 in
theorem gw_1579 : Cond.instanceMethod ⟨"RepeatFreeModel", "undo", "()I"⟩ ∈ gw_G := gt_7 (i := 29) rfl rfl
set_option maxRecDepth 100000 in
theorem gw_1580 : Cond.selects "RepeatFreeModel" ⟨"RepeatFreeModel", "undo", "()I"⟩ ⟨"RepeatFreeModel", "undo", "()I"⟩ ∈ gw_G := gt_7 (i := 30) rfl rfl
set_option maxRecDepth 100000 in
theorem gw_1581 : Cond.code yX11_undo cX11_undo 3 (some .int) ∈ gw_G := gt_7 (i := 31) rfl rfl
set_option maxRecDepth 100000 in
theorem gw_1582 : Cond.methodLink "RepeatFreeLaw" 153 ⟨"RepeatFreeModel", "word", "()I"⟩ ∈ gw_G := gt_7 (i := 32) rfl rfl
set_option maxRecDepth 100000 in
theorem gw_1583 : Cond.instanceMethod ⟨"RepeatFreeModel", "word", "()I"⟩ ∈ gw_G := gt_7 (i := 33) rfl rfl
set_option maxRecDepth 100000 in
theorem gw_1584 : Cond.selects "RepeatFreeModel" ⟨"RepeatFreeModel", "word", "()I"⟩ ⟨"RepeatFreeModel", "word", "()I"⟩ ∈ gw_G := gt_7 (i := 34) rfl rfl
set_option maxRecDepth 100000 in
theorem gw_1585 : Cond.code yX11_word cX11_word 2 (some .int) ∈ gw_G := gt_7 (i := 35) rfl rfl
set_option maxRecDepth 100000 in
theorem gw_1586 : Cond.methodLink "RepeatFreeModel" 193 ⟨"RepeatFreeModel", "becomes", "(I)V"⟩ ∈ gw_G := gt_7 (i := 36) rfl rfl
set_option maxRecDepth 100000 in
theorem gw_1588 : Cond.instanceMethod ⟨"RepeatFreeModel", "becomes", "(I)V"⟩ ∈ gw_G := gt_7 (i := 38) rfl rfl
set_option maxRecDepth 100000 in
theorem gw_1589 : Cond.code yX11_becomes cX11_becomes 3 none ∈ gw_G := gt_7 (i := 39) rfl rfl
set_option maxRecDepth 100000 in
theorem gw_1590 : Cond.methodLink "RepeatFreeModel" 190 ⟨"RepeatFreeModel", "laysAside", "()V"⟩ ∈ gw_G := gt_7 (i := 40) rfl rfl
set_option maxRecDepth 100000 in
theorem gw_1592 : Cond.instanceMethod ⟨"RepeatFreeModel", "laysAside", "()V"⟩ ∈ gw_G := gt_7 (i := 42) rfl rfl
set_option maxRecDepth 100000 in
theorem gw_1593 : Cond.code yX11_laysAside cX11_laysAside 3 none ∈ gw_G := gt_7 (i := 43) rfl rfl
set_option maxRecDepth 100000 in
theorem gw_1594 : Cond.methodLink "RepeatFreeLaw" 161 ⟨"RepeatFreeModel", "letter", "(I)I"⟩ ∈ gw_G := gt_7 (i := 44) rfl rfl
set_option maxRecDepth 100000 in
theorem gw_1595 : Cond.instanceMethod ⟨"RepeatFreeModel", "letter", "(I)I"⟩ ∈ gw_G := gt_7 (i := 45) rfl rfl
set_option maxRecDepth 100000 in
theorem gw_1596 : Cond.selects "RepeatFreeModel" ⟨"RepeatFreeModel", "letter", "(I)I"⟩ ⟨"RepeatFreeModel", "letter", "(I)I"⟩ ∈ gw_G := gt_7 (i := 46) rfl rfl
set_option maxRecDepth 100000 in
theorem gw_1597 : Cond.code yX11_letter cX11_letter 2 (some .int) ∈ gw_G := gt_7 (i := 47) rfl rfl
set_option maxRecDepth 100000 in
theorem gw_1598 : Cond.methodLink "RepeatFreeLaw" 165 ⟨"RepeatFreeModel", "push", "(I)I"⟩ ∈ gw_G := gt_7 (i := 48) rfl rfl
set_option maxRecDepth 100000 in
theorem gw_1599 : Cond.instanceMethod ⟨"RepeatFreeModel", "push", "(I)I"⟩ ∈ gw_G := gt_7 (i := 49) rfl rfl
set_option maxRecDepth 100000 in
theorem gw_1600 : Cond.selects "RepeatFreeModel" ⟨"RepeatFreeModel", "push", "(I)I"⟩ ⟨"RepeatFreeModel", "push", "(I)I"⟩ ∈ gw_G := gt_7 (i := 50) rfl rfl
set_option maxRecDepth 100000 in
theorem gw_1601 : Cond.code yX11_push cX11_push 2 (some .int) ∈ gw_G := gt_7 (i := 51) rfl rfl
set_option maxRecDepth 100000 in
theorem gw_1602 : Cond.methodLink "RepeatFreeModel" 196 ⟨"RepeatFreeModel", "noLetter", "(II)Z"⟩ ∈ gw_G := gt_7 (i := 52) rfl rfl
set_option maxRecDepth 100000 in
theorem gw_1604 : Cond.instanceMethod ⟨"RepeatFreeModel", "noLetter", "(II)Z"⟩ ∈ gw_G := gt_7 (i := 54) rfl rfl
set_option maxRecDepth 100000 in
theorem gw_1605 : Cond.code yX11_noLetter cX11_noLetter 3 (some .boolean) ∈ gw_G := gt_7 (i := 55) rfl rfl
set_option maxRecDepth 100000 in
theorem gw_1606 : Cond.methodLink "RepeatFreeLaw" 168 ⟨"RepeatFreeModel", "pop", "()I"⟩ ∈ gw_G := gt_7 (i := 56) rfl rfl
set_option maxRecDepth 100000 in
theorem gw_1607 : Cond.instanceMethod ⟨"RepeatFreeModel", "pop", "()I"⟩ ∈ gw_G := gt_7 (i := 57) rfl rfl
set_option maxRecDepth 100000 in
theorem gw_1608 : Cond.selects "RepeatFreeModel" ⟨"RepeatFreeModel", "pop", "()I"⟩ ⟨"RepeatFreeModel", "pop", "()I"⟩ ∈ gw_G := gt_7 (i := 58) rfl rfl
set_option maxRecDepth 100000 in
theorem gw_1609 : Cond.code yX11_pop cX11_pop 1 (some .int) ∈ gw_G := gt_7 (i := 59) rfl rfl
set_option maxRecDepth 100000 in
theorem gw_1610 : Cond.methodLink "RepeatFreeLaw" 177 ⟨"RepeatFreeModel", "free", "()Z"⟩ ∈ gw_G := gt_7 (i := 60) rfl rfl
set_option maxRecDepth 100000 in
theorem gw_1611 : Cond.instanceMethod ⟨"RepeatFreeModel", "free", "()Z"⟩ ∈ gw_G := gt_7 (i := 61) rfl rfl
set_option maxRecDepth 100000 in
theorem gw_1612 : Cond.selects "RepeatFreeModel" ⟨"RepeatFreeModel", "free", "()Z"⟩ ⟨"RepeatFreeModel", "free", "()Z"⟩ ∈ gw_G := gt_7 (i := 62) rfl rfl
set_option maxRecDepth 100000 in
theorem gw_1613 : Cond.code yX11_free cX11_free 1 (some .boolean) ∈ gw_G := gt_7 (i := 63) rfl rfl
set_option maxRecDepth 100000 in
theorem gw_1614 : Cond.methodLink "RepeatFreeModel" 236 ⟨"RepeatFreeModel", "isFree", "()Z"⟩ ∈ gw_G := gt_7 (i := 64) rfl rfl
set_option maxRecDepth 100000 in
theorem gw_1616 : Cond.instanceMethod ⟨"RepeatFreeModel", "isFree", "()Z"⟩ ∈ gw_G := gt_7 (i := 66) rfl rfl
set_option maxRecDepth 100000 in
theorem gw_1617 : Cond.code yX11_isFree cX11_isFree 1 (some .boolean) ∈ gw_G := gt_7 (i := 67) rfl rfl
set_option maxRecDepth 100000 in
theorem gw_1618 : Cond.methodLink "RepeatFreeModel" 232 ⟨"RepeatFreeModel", "freeOf", "([II)I"⟩ ∈ gw_G := gt_7 (i := 68) rfl rfl
set_option maxRecDepth 100000 in
theorem gw_1620 : Cond.instanceMethod ⟨"RepeatFreeModel", "freeOf", "([II)I"⟩ ∈ gw_G := gt_7 (i := 70) rfl rfl
set_option maxRecDepth 100000 in
theorem gw_1621 : Cond.code yX11_freeOf cX11_freeOf 4 (some .int) ∈ gw_G := gt_7 (i := 71) rfl rfl
set_option maxRecDepth 100000 in
theorem gw_1622 : Cond.methodLink "RepeatFreeModel" 229 ⟨"RepeatFreeModel", "goesOn", "([II)Z"⟩ ∈ gw_G := gt_7 (i := 72) rfl rfl
set_option maxRecDepth 100000 in
theorem gw_1624 : Cond.instanceMethod ⟨"RepeatFreeModel", "goesOn", "([II)Z"⟩ ∈ gw_G := gt_7 (i := 74) rfl rfl
set_option maxRecDepth 100000 in
theorem gw_1625 : Cond.code yX11_goesOn cX11_goesOn 4 (some .boolean) ∈ gw_G := gt_7 (i := 75) rfl rfl
set_option maxRecDepth 100000 in
theorem gw_1626 : Cond.methodLink "RepeatFreeModel" 222 ⟨"RepeatFreeModel", "isRepeated", "([II)Z"⟩ ∈ gw_G := gt_7 (i := 76) rfl rfl
set_option maxRecDepth 100000 in
theorem gw_1628 : Cond.instanceMethod ⟨"RepeatFreeModel", "isRepeated", "([II)Z"⟩ ∈ gw_G := gt_7 (i := 78) rfl rfl
set_option maxRecDepth 100000 in
theorem gw_1629 : Cond.code yX11_isRepeated cX11_isRepeated 5 (some .boolean) ∈ gw_G := gt_7 (i := 79) rfl rfl
set_option maxRecDepth 100000 in
theorem gw_1630 : Cond.methodLink "RepeatFreeModel" 199 ⟨"RepeatFreeModel", "isBeyond", "(II)Z"⟩ ∈ gw_G := gt_7 (i := 80) rfl rfl
set_option maxRecDepth 100000 in
theorem gw_1632 : Cond.instanceMethod ⟨"RepeatFreeModel", "isBeyond", "(II)Z"⟩ ∈ gw_G := gt_7 (i := 82) rfl rfl
set_option maxRecDepth 100000 in
theorem gw_1633 : Cond.code yX11_isBeyond cX11_isBeyond 4 (some .boolean) ∈ gw_G := gt_7 (i := 83) rfl rfl
set_option maxRecDepth 100000 in
theorem gw_1634 : Cond.methodLink "RepeatFreeModel" 226 ⟨"RepeatFreeModel", "endsBy", "([III)Z"⟩ ∈ gw_G := gt_7 (i := 84) rfl rfl
set_option maxRecDepth 100000 in
theorem gw_1636 : Cond.instanceMethod ⟨"RepeatFreeModel", "endsBy", "([III)Z"⟩ ∈ gw_G := gt_7 (i := 86) rfl rfl
set_option maxRecDepth 100000 in
theorem gw_1637 : Cond.code yX11_endsBy cX11_endsBy 5 (some .boolean) ∈ gw_G := gt_7 (i := 87) rfl rfl
set_option maxRecDepth 100000 in
theorem gw_1638 : Cond.methodLink "RepeatFreeModel" 212 ⟨"RepeatFreeModel", "firstSizes", "(II)Z"⟩ ∈ gw_G := gt_7 (i := 88) rfl rfl
set_option maxRecDepth 100000 in
theorem gw_1640 : Cond.instanceMethod ⟨"RepeatFreeModel", "firstSizes", "(II)Z"⟩ ∈ gw_G := gt_7 (i := 90) rfl rfl
set_option maxRecDepth 100000 in
theorem gw_1641 : Cond.code yX11_firstSizes cX11_firstSizes 4 (some .boolean) ∈ gw_G := gt_7 (i := 91) rfl rfl
set_option maxRecDepth 100000 in
theorem gw_1642 : Cond.methodLink "RepeatFreeModel" 205 ⟨"RepeatFreeModel", "hasLetter", "(II)Z"⟩ ∈ gw_G := gt_7 (i := 92) rfl rfl
set_option maxRecDepth 100000 in
theorem gw_1644 : Cond.instanceMethod ⟨"RepeatFreeModel", "hasLetter", "(II)Z"⟩ ∈ gw_G := gt_7 (i := 94) rfl rfl
set_option maxRecDepth 100000 in
theorem gw_1645 : Cond.code yX11_hasLetter cX11_hasLetter 4 (some .boolean) ∈ gw_G := gt_7 (i := 95) rfl rfl
set_option maxRecDepth 100000 in
theorem gw_1646 : Cond.methodLink "RepeatFreeModel" 202 ⟨"RepeatFreeModel", "letterOf", "(II)I"⟩ ∈ gw_G := gt_7 (i := 96) rfl rfl
set_option maxRecDepth 100000 in
theorem gw_1648 : Cond.instanceMethod ⟨"RepeatFreeModel", "letterOf", "(II)I"⟩ ∈ gw_G := gt_7 (i := 98) rfl rfl
set_option maxRecDepth 100000 in
theorem gw_1649 : Cond.code yX11_letterOf cX11_letterOf 3 (some .int) ∈ gw_G := gt_7 (i := 99) rfl rfl
set_option maxRecDepth 100000 in
theorem gw_1650 : Cond.methodLink "RepeatFreeModel" 208 ⟨"RepeatFreeModel", "longBy", "(I)I"⟩ ∈ gw_G := gt_7 (i := 100) rfl rfl
set_option maxRecDepth 100000 in
theorem gw_1652 : Cond.instanceMethod ⟨"RepeatFreeModel", "longBy", "(I)I"⟩ ∈ gw_G := gt_7 (i := 102) rfl rfl
set_option maxRecDepth 100000 in
theorem gw_1653 : Cond.code yX11_longBy cX11_longBy 4 (some .int) ∈ gw_G := gt_7 (i := 103) rfl rfl
set_option maxRecDepth 100000 in
theorem gw_1654 : Cond.methodLink "RepeatFreeModel" 215 ⟨"RepeatFreeModel", "fitsAt", "([III)Z"⟩ ∈ gw_G := gt_7 (i := 104) rfl rfl
set_option maxRecDepth 100000 in
theorem gw_1656 : Cond.instanceMethod ⟨"RepeatFreeModel", "fitsAt", "([III)Z"⟩ ∈ gw_G := gt_7 (i := 106) rfl rfl
set_option maxRecDepth 100000 in
theorem gw_1657 : Cond.code yX11_fitsAt cX11_fitsAt 8 (some .boolean) ∈ gw_G := gt_7 (i := 107) rfl rfl
set_option maxRecDepth 100000 in
theorem gw_1658 : Cond.methodLink "RepeatFreeModel" 219 ⟨"RepeatFreeModel", "nextSizes", "(II)Z"⟩ ∈ gw_G := gt_7 (i := 108) rfl rfl
set_option maxRecDepth 100000 in
theorem gw_1660 : Cond.instanceMethod ⟨"RepeatFreeModel", "nextSizes", "(II)Z"⟩ ∈ gw_G := gt_7 (i := 110) rfl rfl
set_option maxRecDepth 100000 in
theorem gw_1661 : Cond.code yX11_nextSizes cX11_nextSizes 4 (some .boolean) ∈ gw_G := gt_7 (i := 111) rfl rfl
set_option maxRecDepth 100000 in
theorem gw_1662 : Cond.methodLink "RepeatFreeLaw" 181 ⟨"RepeatFreeModel", "ends", "()I"⟩ ∈ gw_G := gt_7 (i := 112) rfl rfl
set_option maxRecDepth 100000 in
theorem gw_1663 : Cond.instanceMethod ⟨"RepeatFreeModel", "ends", "()I"⟩ ∈ gw_G := gt_7 (i := 113) rfl rfl
set_option maxRecDepth 100000 in
theorem gw_1664 : Cond.selects "RepeatFreeModel" ⟨"RepeatFreeModel", "ends", "()I"⟩ ⟨"RepeatFreeModel", "ends", "()I"⟩ ∈ gw_G := gt_7 (i := 114) rfl rfl
set_option maxRecDepth 100000 in
theorem gw_1665 : Cond.code yX11_ends cX11_ends 1 (some .int) ∈ gw_G := gt_7 (i := 115) rfl rfl
set_option maxRecDepth 100000 in
theorem gw_1666 : Cond.methodLink "RepeatFreeModel" 239 ⟨"RepeatFreeModel", "endsAt", "()I"⟩ ∈ gw_G := gt_7 (i := 116) rfl rfl
set_option maxRecDepth 100000 in
theorem gw_1668 : Cond.instanceMethod ⟨"RepeatFreeModel", "endsAt", "()I"⟩ ∈ gw_G := gt_7 (i := 118) rfl rfl
set_option maxRecDepth 100000 in
theorem gw_1669 : Cond.code yX11_endsAt cX11_endsAt 2 (some .int) ∈ gw_G := gt_7 (i := 119) rfl rfl
set_option maxRecDepth 100000 in
theorem gw_1670 : Cond.methodLink "RepeatFreeLaw" 210 ⟨"RepeatFreeModel", "goes", "()I"⟩ ∈ gw_G := gt_7 (i := 120) rfl rfl
set_option maxRecDepth 100000 in
theorem gw_1671 : Cond.instanceMethod ⟨"RepeatFreeModel", "goes", "()I"⟩ ∈ gw_G := gt_7 (i := 121) rfl rfl
set_option maxRecDepth 100000 in
theorem gw_1672 : Cond.selects "RepeatFreeModel" ⟨"RepeatFreeModel", "goes", "()I"⟩ ⟨"RepeatFreeModel", "goes", "()I"⟩ ∈ gw_G := gt_7 (i := 122) rfl rfl
set_option maxRecDepth 100000 in
theorem gw_1673 : Cond.code yX11_goes cX11_goes 3 (some .int) ∈ gw_G := gt_7 (i := 123) rfl rfl
set_option maxRecDepth 100000 in
theorem gw_1674 : Cond.methodLink "RepeatFreeModel" 242 ⟨"RepeatFreeModel", "laysGiven", "(I)V"⟩ ∈ gw_G := gt_7 (i := 124) rfl rfl
set_option maxRecDepth 100000 in
theorem gw_1676 : Cond.instanceMethod ⟨"RepeatFreeModel", "laysGiven", "(I)V"⟩ ∈ gw_G := gt_7 (i := 126) rfl rfl
set_option maxRecDepth 100000 in
theorem gw_1677 : Cond.code yX11_laysGiven cX11_laysGiven 3 none ∈ gw_G := gt_7 (i := 127) rfl rfl
set_option maxRecDepth 100000 in
theorem gw_1678 : Cond.methodLink "RepeatFreeLaw" 284 ⟨"RepeatFreeModel", "ahead", "()I"⟩ ∈ gw_G := gt_7 (i := 128) rfl rfl
set_option maxRecDepth 100000 in
theorem gw_1679 : Cond.instanceMethod ⟨"RepeatFreeModel", "ahead", "()I"⟩ ∈ gw_G := gt_7 (i := 129) rfl rfl
set_option maxRecDepth 100000 in
theorem gw_1680 : Cond.selects "RepeatFreeModel" ⟨"RepeatFreeModel", "ahead", "()I"⟩ ⟨"RepeatFreeModel", "ahead", "()I"⟩ ∈ gw_G := gt_7 (i := 130) rfl rfl
set_option maxRecDepth 100000 in
theorem gw_1681 : Cond.code yX11_ahead cX11_ahead 3 (some .int) ∈ gw_G := gt_7 (i := 131) rfl rfl
set_option maxRecDepth 100000 in
theorem gw_1682 : Cond.methodLink "RepeatFreeLaw" 184 ⟨"RepeatFreeModel", "greatest", "(I)I"⟩ ∈ gw_G := gt_7 (i := 132) rfl rfl
set_option maxRecDepth 100000 in
theorem gw_1683 : Cond.instanceMethod ⟨"RepeatFreeModel", "greatest", "(I)I"⟩ ∈ gw_G := gt_7 (i := 133) rfl rfl
set_option maxRecDepth 100000 in
theorem gw_1684 : Cond.selects "RepeatFreeModel" ⟨"RepeatFreeModel", "greatest", "(I)I"⟩ ⟨"RepeatFreeModel", "greatest", "(I)I"⟩ ∈ gw_G := gt_7 (i := 134) rfl rfl
set_option maxRecDepth 100000 in
theorem gw_1685 : Cond.code yX11_greatest cX11_greatest 9 (some .int) ∈ gw_G := gt_7 (i := 135) rfl rfl
set_option maxRecDepth 100000 in
theorem gw_1686 : Cond.methodLink "RepeatFreeModel" 245 ⟨"RepeatFreeModel", "periodOf", "(II)I"⟩ ∈ gw_G := gt_7 (i := 136) rfl rfl
set_option maxRecDepth 100000 in
theorem gw_1688 : Cond.instanceMethod ⟨"RepeatFreeModel", "periodOf", "(II)I"⟩ ∈ gw_G := gt_7 (i := 138) rfl rfl
set_option maxRecDepth 100000 in
theorem gw_1689 : Cond.code yX11_periodOf cX11_periodOf 5 (some .int) ∈ gw_G := gt_7 (i := 139) rfl rfl
set_option maxRecDepth 100000 in
theorem gw_1690 : Cond.methodLink "RepeatFreeLaw" 188 ⟨"RepeatFreeModel", "period", "()I"⟩ ∈ gw_G := gt_7 (i := 140) rfl rfl
set_option maxRecDepth 100000 in
theorem gw_1691 : Cond.instanceMethod ⟨"RepeatFreeModel", "period", "()I"⟩ ∈ gw_G := gt_7 (i := 141) rfl rfl
set_option maxRecDepth 100000 in
theorem gw_1692 : Cond.selects "RepeatFreeModel" ⟨"RepeatFreeModel", "period", "()I"⟩ ⟨"RepeatFreeModel", "period", "()I"⟩ ∈ gw_G := gt_7 (i := 142) rfl rfl
set_option maxRecDepth 100000 in
theorem gw_1693 : Cond.code yX11_period cX11_period 1 (some .int) ∈ gw_G := gt_7 (i := 143) rfl rfl
set_option maxRecDepth 100000 in
theorem gw_1694 : Cond.methodLink "RepeatFreeLaw" 192 ⟨"RepeatFreeModel", "border", "(I)I"⟩ ∈ gw_G := gt_7 (i := 144) rfl rfl
set_option maxRecDepth 100000 in
theorem gw_1695 : Cond.instanceMethod ⟨"RepeatFreeModel", "border", "(I)I"⟩ ∈ gw_G := gt_7 (i := 145) rfl rfl
set_option maxRecDepth 100000 in
theorem gw_1696 : Cond.selects "RepeatFreeModel" ⟨"RepeatFreeModel", "border", "(I)I"⟩ ⟨"RepeatFreeModel", "border", "(I)I"⟩ ∈ gw_G := gt_7 (i := 146) rfl rfl
set_option maxRecDepth 100000 in
theorem gw_1697 : Cond.code yX11_border cX11_border 6 (some .int) ∈ gw_G := gt_7 (i := 147) rfl rfl
set_option maxRecDepth 100000 in
theorem gw_1698 : Cond.methodLink "RepeatFreeLaw" 196 ⟨"RepeatFreeModel", "run", "(II)I"⟩ ∈ gw_G := gt_7 (i := 148) rfl rfl
set_option maxRecDepth 100000 in
theorem gw_1699 : Cond.instanceMethod ⟨"RepeatFreeModel", "run", "(II)I"⟩ ∈ gw_G := gt_7 (i := 149) rfl rfl
set_option maxRecDepth 100000 in
theorem gw_1700 : Cond.selects "RepeatFreeModel" ⟨"RepeatFreeModel", "run", "(II)I"⟩ ⟨"RepeatFreeModel", "run", "(II)I"⟩ ∈ gw_G := gt_7 (i := 150) rfl rfl
set_option maxRecDepth 100000 in
theorem gw_1701 : Cond.code yX11_run cX11_run 7 (some .int) ∈ gw_G := gt_7 (i := 151) rfl rfl
set_option maxRecDepth 100000 in
theorem gw_1702 : Cond.methodLink "RepeatFreeModel" 248 ⟨"RepeatFreeModel", "runAt", "(II)I"⟩ ∈ gw_G := gt_7 (i := 152) rfl rfl
set_option maxRecDepth 100000 in
theorem gw_1704 : Cond.instanceMethod ⟨"RepeatFreeModel", "runAt", "(II)I"⟩ ∈ gw_G := gt_7 (i := 154) rfl rfl
set_option maxRecDepth 100000 in
theorem gw_1705 : Cond.code yX11_runAt cX11_runAt 4 (some .int) ∈ gw_G := gt_7 (i := 155) rfl rfl
set_option maxRecDepth 100000 in
theorem gw_1706 : Cond.methodLink "RepeatFreeLaw" 199 ⟨"RepeatFreeModel", "factors", "(I)I"⟩ ∈ gw_G := gt_7 (i := 156) rfl rfl
set_option maxRecDepth 100000 in
theorem gw_1707 : Cond.instanceMethod ⟨"RepeatFreeModel", "factors", "(I)I"⟩ ∈ gw_G := gt_7 (i := 157) rfl rfl
set_option maxRecDepth 100000 in
theorem gw_1708 : Cond.selects "RepeatFreeModel" ⟨"RepeatFreeModel", "factors", "(I)I"⟩ ⟨"RepeatFreeModel", "factors", "(I)I"⟩ ∈ gw_G := gt_7 (i := 158) rfl rfl
set_option maxRecDepth 100000 in
theorem gw_1709 : Cond.code yX11_factors cX11_factors 6 (some .int) ∈ gw_G := gt_7 (i := 159) rfl rfl
set_option maxRecDepth 100000 in
theorem gw_1710 : Cond.methodLink "RepeatFreeModel" 251 ⟨"RepeatFreeModel", "areAlike", "(III)Z"⟩ ∈ gw_G := gt_7 (i := 160) rfl rfl
set_option maxRecDepth 100000 in
theorem gw_1712 : Cond.instanceMethod ⟨"RepeatFreeModel", "areAlike", "(III)Z"⟩ ∈ gw_G := gt_7 (i := 162) rfl rfl
set_option maxRecDepth 100000 in
theorem gw_1713 : Cond.code yX11_areAlike cX11_areAlike 5 (some .boolean) ∈ gw_G := gt_7 (i := 163) rfl rfl
set_option maxRecDepth 100000 in
theorem gw_1714 : Cond.methodLink "RepeatFreeLaw" 203 ⟨"RepeatFreeModel", "mirror", "()I"⟩ ∈ gw_G := gt_7 (i := 164) rfl rfl
set_option maxRecDepth 100000 in
theorem gw_1715 : Cond.instanceMethod ⟨"RepeatFreeModel", "mirror", "()I"⟩ ∈ gw_G := gt_7 (i := 165) rfl rfl
set_option maxRecDepth 100000 in
theorem gw_1716 : Cond.selects "RepeatFreeModel" ⟨"RepeatFreeModel", "mirror", "()I"⟩ ⟨"RepeatFreeModel", "mirror", "()I"⟩ ∈ gw_G := gt_7 (i := 166) rfl rfl
set_option maxRecDepth 100000 in
theorem gw_1717 : Cond.code yX11_mirror cX11_mirror 5 (some .int) ∈ gw_G := gt_7 (i := 167) rfl rfl
set_option maxRecDepth 100000 in
theorem gw_1718 : Cond.methodLink "RepeatFreeModel" 254 ⟨"java/lang/Math", "max", "(II)I"⟩ ∈ gw_G := gt_7 (i := 168) rfl rfl
set_option maxRecDepth 100000 in
theorem gw_1719 : Cond.methodLink "RepeatFreeLaw" 295 ⟨"RepeatFreeModel", "lyndon", "(I)I"⟩ ∈ gw_G := gt_7 (i := 169) rfl rfl
set_option maxRecDepth 100000 in
theorem gw_1720 : Cond.instanceMethod ⟨"RepeatFreeModel", "lyndon", "(I)I"⟩ ∈ gw_G := gt_7 (i := 170) rfl rfl
set_option maxRecDepth 100000 in
theorem gw_1721 : Cond.selects "RepeatFreeModel" ⟨"RepeatFreeModel", "lyndon", "(I)I"⟩ ⟨"RepeatFreeModel", "lyndon", "(I)I"⟩ ∈ gw_G := gt_7 (i := 171) rfl rfl
set_option maxRecDepth 100000 in
theorem gw_1722 : Cond.code yX11_lyndon cX11_lyndon 7 (some .int) ∈ gw_G := gt_7 (i := 172) rfl rfl
set_option maxRecDepth 100000 in
theorem gw_1723 : Cond.methodLink "RepeatFreeLaw" 299 ⟨"RepeatFreeModel", "turned", "()I"⟩ ∈ gw_G := gt_7 (i := 173) rfl rfl
set_option maxRecDepth 100000 in
theorem gw_1724 : Cond.instanceMethod ⟨"RepeatFreeModel", "turned", "()I"⟩ ∈ gw_G := gt_7 (i := 174) rfl rfl
set_option maxRecDepth 100000 in
theorem gw_1725 : Cond.selects "RepeatFreeModel" ⟨"RepeatFreeModel", "turned", "()I"⟩ ⟨"RepeatFreeModel", "turned", "()I"⟩ ∈ gw_G := gt_7 (i := 175) rfl rfl
set_option maxRecDepth 100000 in
theorem gw_1726 : Cond.code yX11_turned cX11_turned 4 (some .int) ∈ gw_G := gt_7 (i := 176) rfl rfl
set_option maxRecDepth 100000 in
theorem gw_1727 : Cond.methodLink "RepeatFreeLaw" 302 ⟨"RepeatFreeModel", "local", "(I)I"⟩ ∈ gw_G := gt_7 (i := 177) rfl rfl
set_option maxRecDepth 100000 in
theorem gw_1728 : Cond.instanceMethod ⟨"RepeatFreeModel", "local", "(I)I"⟩ ∈ gw_G := gt_7 (i := 178) rfl rfl
set_option maxRecDepth 100000 in
theorem gw_1729 : Cond.selects "RepeatFreeModel" ⟨"RepeatFreeModel", "local", "(I)I"⟩ ⟨"RepeatFreeModel", "local", "(I)I"⟩ ∈ gw_G := gt_7 (i := 179) rfl rfl
set_option maxRecDepth 100000 in
theorem gw_1730 : Cond.code yX11_local cX11_local 5 (some .int) ∈ gw_G := gt_7 (i := 180) rfl rfl
set_option maxRecDepth 100000 in
theorem gw_1731 : Cond.methodLink "RepeatFreeLaw" 217 ⟨"RepeatFreeModel", "first", "(I)I"⟩ ∈ gw_G := gt_7 (i := 181) rfl rfl
set_option maxRecDepth 100000 in
theorem gw_1732 : Cond.instanceMethod ⟨"RepeatFreeModel", "first", "(I)I"⟩ ∈ gw_G := gt_7 (i := 182) rfl rfl
set_option maxRecDepth 100000 in
theorem gw_1733 : Cond.selects "RepeatFreeModel" ⟨"RepeatFreeModel", "first", "(I)I"⟩ ⟨"RepeatFreeModel", "first", "(I)I"⟩ ∈ gw_G := gt_7 (i := 183) rfl rfl
set_option maxRecDepth 100000 in
theorem gw_1734 : Cond.code yX11_first cX11_first 3 (some .int) ∈ gw_G := gt_7 (i := 184) rfl rfl
set_option maxRecDepth 100000 in
theorem gw_1735 : Cond.methodLink "RepeatFreeModel" 290 ⟨"RepeatFreeModel", "startsSearch", "()V"⟩ ∈ gw_G := gt_7 (i := 185) rfl rfl
set_option maxRecDepth 100000 in
theorem gw_1737 : Cond.instanceMethod ⟨"RepeatFreeModel", "startsSearch", "()V"⟩ ∈ gw_G := gt_7 (i := 187) rfl rfl
set_option maxRecDepth 100000 in
theorem gw_1738 : Cond.code yX11_startsSearch cX11_startsSearch 1 none ∈ gw_G := gt_7 (i := 188) rfl rfl
set_option maxRecDepth 100000 in
theorem gw_1739 : Cond.methodLink "RepeatFreeModel" 268 ⟨"RepeatFreeModel", "searches", "(III)Z"⟩ ∈ gw_G := gt_7 (i := 189) rfl rfl
set_option maxRecDepth 100000 in
theorem gw_1741 : Cond.instanceMethod ⟨"RepeatFreeModel", "searches", "(III)Z"⟩ ∈ gw_G := gt_7 (i := 191) rfl rfl
set_option maxRecDepth 100000 in
theorem gw_1742 : Cond.code yX11_searches cX11_searches 5 (some .boolean) ∈ gw_G := gt_7 (i := 192) rfl rfl
set_option maxRecDepth 100000 in
theorem gw_1743 : Cond.methodLink "RepeatFreeModel" 259 ⟨"RepeatFreeModel", "meets", "(II)Z"⟩ ∈ gw_G := gt_7 (i := 193) rfl rfl
set_option maxRecDepth 100000 in
theorem gw_1745 : Cond.instanceMethod ⟨"RepeatFreeModel", "meets", "(II)Z"⟩ ∈ gw_G := gt_7 (i := 195) rfl rfl
set_option maxRecDepth 100000 in
theorem gw_1746 : Cond.code yX11_meets cX11_meets 3 (some .boolean) ∈ gw_G := gt_7 (i := 196) rfl rfl
set_option maxRecDepth 100000 in
theorem gw_1747 : Cond.methodLink "RepeatFreeModel" 277 ⟨"RepeatFreeModel", "isStuck", "(I)Z"⟩ ∈ gw_G := gt_7 (i := 197) rfl rfl
set_option maxRecDepth 100000 in
theorem gw_1749 : Cond.instanceMethod ⟨"RepeatFreeModel", "isStuck", "(I)Z"⟩ ∈ gw_G := gt_7 (i := 199) rfl rfl
set_option maxRecDepth 100000 in
theorem gw_1750 : Cond.code yX11_isStuck cX11_isStuck 3 (some .boolean) ∈ gw_G := gt_7 (i := 200) rfl rfl
set_option maxRecDepth 100000 in
theorem gw_1751 : Cond.methodLink "RepeatFreeModel" 281 ⟨"RepeatFreeModel", "isAheadOf", "(I)Z"⟩ ∈ gw_G := gt_7 (i := 201) rfl rfl
set_option maxRecDepth 100000 in
theorem gw_1753 : Cond.instanceMethod ⟨"RepeatFreeModel", "isAheadOf", "(I)Z"⟩ ∈ gw_G := gt_7 (i := 203) rfl rfl
set_option maxRecDepth 100000 in
theorem gw_1754 : Cond.code yX11_isAheadOf cX11_isAheadOf 3 (some .boolean) ∈ gw_G := gt_7 (i := 204) rfl rfl
set_option maxRecDepth 100000 in
theorem gw_1755 : Cond.methodLink "RepeatFreeModel" 287 ⟨"RepeatFreeModel", "doesBreak", "(I)Z"⟩ ∈ gw_G := gt_7 (i := 205) rfl rfl
set_option maxRecDepth 100000 in
theorem gw_1757 : Cond.instanceMethod ⟨"RepeatFreeModel", "doesBreak", "(I)Z"⟩ ∈ gw_G := gt_7 (i := 207) rfl rfl
set_option maxRecDepth 100000 in
theorem gw_1758 : Cond.code yX11_doesBreak cX11_doesBreak 3 (some .boolean) ∈ gw_G := gt_7 (i := 208) rfl rfl
set_option maxRecDepth 100000 in
theorem gw_1759 : Cond.methodLink "RepeatFreeModel" 315 ⟨"RepeatFreeModel", "images", "([III)I"⟩ ∈ gw_G := gt_7 (i := 209) rfl rfl
set_option maxRecDepth 100000 in
theorem gw_1761 : Cond.instanceMethod ⟨"RepeatFreeModel", "images", "([III)I"⟩ ∈ gw_G := gt_7 (i := 211) rfl rfl
set_option maxRecDepth 100000 in
theorem gw_1762 : Cond.code yX11_images cX11_images 7 (some .int) ∈ gw_G := gt_7 (i := 212) rfl rfl
set_option maxRecDepth 100000 in
theorem gw_1763 : Cond.methodLink "RepeatFreeModel" 305 ⟨"RepeatFreeModel", "longOf", "(II)I"⟩ ∈ gw_G := gt_7 (i := 213) rfl rfl
set_option maxRecDepth 100000 in
theorem gw_1765 : Cond.instanceMethod ⟨"RepeatFreeModel", "longOf", "(II)I"⟩ ∈ gw_G := gt_7 (i := 215) rfl rfl
set_option maxRecDepth 100000 in
theorem gw_1766 : Cond.code yX11_longOf cX11_longOf 3 (some .int) ∈ gw_G := gt_7 (i := 216) rfl rfl
set_option maxRecDepth 100000 in
theorem gw_1767 : Cond.methodLink "RepeatFreeModel" 308 ⟨"RepeatFreeModel", "imageOf", "(III)I"⟩ ∈ gw_G := gt_7 (i := 217) rfl rfl
set_option maxRecDepth 100000 in
theorem gw_1769 : Cond.instanceMethod ⟨"RepeatFreeModel", "imageOf", "(III)I"⟩ ∈ gw_G := gt_7 (i := 219) rfl rfl
set_option maxRecDepth 100000 in
theorem gw_1770 : Cond.code yX11_imageOf cX11_imageOf 4 (some .int) ∈ gw_G := gt_7 (i := 220) rfl rfl
set_option maxRecDepth 100000 in
theorem gw_1771 : Cond.methodLink "RepeatFreeModel" 293 ⟨"RepeatFreeModel", "becomesFound", "(I)V"⟩ ∈ gw_G := gt_7 (i := 221) rfl rfl
set_option maxRecDepth 100000 in
theorem gw_1773 : Cond.instanceMethod ⟨"RepeatFreeModel", "becomesFound", "(I)V"⟩ ∈ gw_G := gt_7 (i := 223) rfl rfl
set_option maxRecDepth 100000 in
theorem gw_1774 : Cond.code yX11_becomesFound cX11_becomesFound 3 none ∈ gw_G := gt_7 (i := 224) rfl rfl
set_option maxRecDepth 100000 in
theorem gw_1775 : Cond.methodLink "RepeatFreeLaw" 220 ⟨"RepeatFreeModel", "next", "()I"⟩ ∈ gw_G := gt_7 (i := 225) rfl rfl
set_option maxRecDepth 100000 in
theorem gw_1776 : Cond.instanceMethod ⟨"RepeatFreeModel", "next", "()I"⟩ ∈ gw_G := gt_7 (i := 226) rfl rfl
set_option maxRecDepth 100000 in
theorem gw_1777 : Cond.selects "RepeatFreeModel" ⟨"RepeatFreeModel", "next", "()I"⟩ ⟨"RepeatFreeModel", "next", "()I"⟩ ∈ gw_G := gt_7 (i := 227) rfl rfl
set_option maxRecDepth 100000 in
theorem gw_1778 : Cond.code yX11_next cX11_next 5 (some .int) ∈ gw_G := gt_7 (i := 228) rfl rfl
set_option maxRecDepth 100000 in
theorem gw_1779 : Cond.methodLink "RepeatFreeModel" 296 ⟨"RepeatFreeModel", "takes", "()V"⟩ ∈ gw_G := gt_7 (i := 229) rfl rfl
set_option maxRecDepth 100000 in
theorem gw_1781 : Cond.instanceMethod ⟨"RepeatFreeModel", "takes", "()V"⟩ ∈ gw_G := gt_7 (i := 231) rfl rfl
set_option maxRecDepth 100000 in
theorem gw_1782 : Cond.code yX11_takes cX11_takes 2 none ∈ gw_G := gt_7 (i := 232) rfl rfl
set_option maxRecDepth 100000 in
theorem gw_1783 : Cond.methodLink "RepeatFreeLaw" 223 ⟨"RepeatFreeModel", "many", "(I)I"⟩ ∈ gw_G := gt_7 (i := 233) rfl rfl
set_option maxRecDepth 100000 in
theorem gw_1784 : Cond.instanceMethod ⟨"RepeatFreeModel", "many", "(I)I"⟩ ∈ gw_G := gt_7 (i := 234) rfl rfl
set_option maxRecDepth 100000 in
theorem gw_1785 : Cond.selects "RepeatFreeModel" ⟨"RepeatFreeModel", "many", "(I)I"⟩ ⟨"RepeatFreeModel", "many", "(I)I"⟩ ∈ gw_G := gt_7 (i := 235) rfl rfl
set_option maxRecDepth 100000 in
theorem gw_1786 : Cond.code yX11_many cX11_many 2 (some .int) ∈ gw_G := gt_7 (i := 236) rfl rfl
set_option maxRecDepth 100000 in
theorem gw_1787 : Cond.methodLink "RepeatFreeModel" 299 ⟨"RepeatFreeModel", "countBy", "(II)I"⟩ ∈ gw_G := gt_7 (i := 237) rfl rfl
set_option maxRecDepth 100000 in
theorem gw_1789 : Cond.instanceMethod ⟨"RepeatFreeModel", "countBy", "(II)I"⟩ ∈ gw_G := gt_7 (i := 239) rfl rfl
set_option maxRecDepth 100000 in
theorem gw_1790 : Cond.code yX11_countBy cX11_countBy 4 (some .int) ∈ gw_G := gt_8 (i := 0) rfl rfl
set_option maxRecDepth 100000 in
theorem gw_1791 : Cond.methodLink "RepeatFreeLaw" 230 ⟨"RepeatFreeModel", "growth", "(I)I"⟩ ∈ gw_G := gt_8 (i := 1) rfl rfl
set_option maxRecDepth 100000 in
theorem gw_1792 : Cond.instanceMethod ⟨"RepeatFreeModel", "growth", "(I)I"⟩ ∈ gw_G := gt_8 (i := 2) rfl rfl
set_option maxRecDepth 100000 in
theorem gw_1793 : Cond.selects "RepeatFreeModel" ⟨"RepeatFreeModel", "growth", "(I)I"⟩ ⟨"RepeatFreeModel", "growth", "(I)I"⟩ ∈ gw_G := gt_8 (i := 3) rfl rfl
set_option maxRecDepth 100000 in
theorem gw_1794 : Cond.code yX11_growth cX11_growth 4 (some .int) ∈ gw_G := gt_8 (i := 4) rfl rfl
set_option maxRecDepth 100000 in
theorem gw_1795 : Cond.methodLink "RepeatFreeLaw" 227 ⟨"RepeatFreeModel", "longest", "()I"⟩ ∈ gw_G := gt_8 (i := 5) rfl rfl
set_option maxRecDepth 100000 in
theorem gw_1796 : Cond.instanceMethod ⟨"RepeatFreeModel", "longest", "()I"⟩ ∈ gw_G := gt_8 (i := 6) rfl rfl
set_option maxRecDepth 100000 in
theorem gw_1797 : Cond.selects "RepeatFreeModel" ⟨"RepeatFreeModel", "longest", "()I"⟩ ⟨"RepeatFreeModel", "longest", "()I"⟩ ∈ gw_G := gt_8 (i := 7) rfl rfl
set_option maxRecDepth 100000 in
theorem gw_1798 : Cond.code yX11_longest cX11_longest 3 (some .int) ∈ gw_G := gt_8 (i := 8) rfl rfl
set_option maxRecDepth 100000 in
theorem gw_1799 : Cond.methodLink "RepeatFreeLaw" 214 ⟨"RepeatFreeModel", "further", "()I"⟩ ∈ gw_G := gt_8 (i := 9) rfl rfl
set_option maxRecDepth 100000 in
theorem gw_1800 : Cond.instanceMethod ⟨"RepeatFreeModel", "further", "()I"⟩ ∈ gw_G := gt_8 (i := 10) rfl rfl
set_option maxRecDepth 100000 in
theorem gw_1801 : Cond.selects "RepeatFreeModel" ⟨"RepeatFreeModel", "further", "()I"⟩ ⟨"RepeatFreeModel", "further", "()I"⟩ ∈ gw_G := gt_8 (i := 11) rfl rfl
set_option maxRecDepth 100000 in
theorem gw_1802 : Cond.code yX11_further cX11_further 4 (some .int) ∈ gw_G := gt_8 (i := 12) rfl rfl
set_option maxRecDepth 100000 in
theorem gw_1803 : Cond.methodLink "RepeatFreeModel" 302 ⟨"java/lang/Math", "min", "(II)I"⟩ ∈ gw_G := gt_8 (i := 13) rfl rfl
set_option maxRecDepth 100000 in
theorem gw_1804 : Cond.methodLink "RepeatFreeLaw" 274 ⟨"RepeatFreeModel", "stuck", "(I)I"⟩ ∈ gw_G := gt_8 (i := 14) rfl rfl
set_option maxRecDepth 100000 in
theorem gw_1805 : Cond.instanceMethod ⟨"RepeatFreeModel", "stuck", "(I)I"⟩ ∈ gw_G := gt_8 (i := 15) rfl rfl
set_option maxRecDepth 100000 in
theorem gw_1806 : Cond.selects "RepeatFreeModel" ⟨"RepeatFreeModel", "stuck", "(I)I"⟩ ⟨"RepeatFreeModel", "stuck", "(I)I"⟩ ∈ gw_G := gt_8 (i := 16) rfl rfl
set_option maxRecDepth 100000 in
theorem gw_1807 : Cond.code yX11_stuck cX11_stuck 2 (some .int) ∈ gw_G := gt_8 (i := 17) rfl rfl
set_option maxRecDepth 100000 in
theorem gw_1808 : Cond.methodLink "RepeatFreeLaw" 277 ⟨"RepeatFreeModel", "rank", "()I"⟩ ∈ gw_G := gt_8 (i := 18) rfl rfl
set_option maxRecDepth 100000 in
theorem gw_1809 : Cond.instanceMethod ⟨"RepeatFreeModel", "rank", "()I"⟩ ∈ gw_G := gt_8 (i := 19) rfl rfl
set_option maxRecDepth 100000 in
theorem gw_1810 : Cond.selects "RepeatFreeModel" ⟨"RepeatFreeModel", "rank", "()I"⟩ ⟨"RepeatFreeModel", "rank", "()I"⟩ ∈ gw_G := gt_8 (i := 20) rfl rfl
set_option maxRecDepth 100000 in
theorem gw_1811 : Cond.code yX11_rank cX11_rank 1 (some .int) ∈ gw_G := gt_8 (i := 21) rfl rfl
set_option maxRecDepth 100000 in
theorem gw_1812 : Cond.methodLink "RepeatFreeLaw" 280 ⟨"RepeatFreeModel", "nth", "(II)I"⟩ ∈ gw_G := gt_8 (i := 22) rfl rfl
set_option maxRecDepth 100000 in
theorem gw_1813 : Cond.instanceMethod ⟨"RepeatFreeModel", "nth", "(II)I"⟩ ∈ gw_G := gt_8 (i := 23) rfl rfl
set_option maxRecDepth 100000 in
theorem gw_1814 : Cond.selects "RepeatFreeModel" ⟨"RepeatFreeModel", "nth", "(II)I"⟩ ⟨"RepeatFreeModel", "nth", "(II)I"⟩ ∈ gw_G := gt_8 (i := 24) rfl rfl
set_option maxRecDepth 100000 in
theorem gw_1815 : Cond.code yX11_nth cX11_nth 4 (some .int) ∈ gw_G := gt_8 (i := 25) rfl rfl
set_option maxRecDepth 100000 in
theorem gw_1816 : Cond.methodLink "RepeatFreeLaw" 233 ⟨"RepeatFreeModel", "image", "(I)I"⟩ ∈ gw_G := gt_8 (i := 26) rfl rfl
set_option maxRecDepth 100000 in
theorem gw_1817 : Cond.instanceMethod ⟨"RepeatFreeModel", "image", "(I)I"⟩ ∈ gw_G := gt_8 (i := 27) rfl rfl
set_option maxRecDepth 100000 in
theorem gw_1818 : Cond.selects "RepeatFreeModel" ⟨"RepeatFreeModel", "image", "(I)I"⟩ ⟨"RepeatFreeModel", "image", "(I)I"⟩ ∈ gw_G := gt_8 (i := 28) rfl rfl
set_option maxRecDepth 100000 in
theorem gw_1819 : Cond.code yX11_image cX11_image 4 (some .int) ∈ gw_G := gt_8 (i := 29) rfl rfl
set_option maxRecDepth 100000 in
theorem gw_1820 : Cond.methodLink "RepeatFreeModel" 319 ⟨"RepeatFreeModel", "noMap", "(I)Z"⟩ ∈ gw_G := gt_8 (i := 30) rfl rfl
set_option maxRecDepth 100000 in
theorem gw_1822 : Cond.instanceMethod ⟨"RepeatFreeModel", "noMap", "(I)Z"⟩ ∈ gw_G := gt_8 (i := 32) rfl rfl
set_option maxRecDepth 100000 in
theorem gw_1823 : Cond.code yX11_noMap cX11_noMap 2 (some .boolean) ∈ gw_G := gt_8 (i := 33) rfl rfl
set_option maxRecDepth 100000 in
theorem gw_1824 : Cond.methodLink "RepeatFreeLaw" 237 ⟨"RepeatFreeModel", "imaged", "(III)I"⟩ ∈ gw_G := gt_8 (i := 34) rfl rfl
set_option maxRecDepth 100000 in
theorem gw_1825 : Cond.instanceMethod ⟨"RepeatFreeModel", "imaged", "(III)I"⟩ ∈ gw_G := gt_8 (i := 35) rfl rfl
set_option maxRecDepth 100000 in
theorem gw_1826 : Cond.selects "RepeatFreeModel" ⟨"RepeatFreeModel", "imaged", "(III)I"⟩ ⟨"RepeatFreeModel", "imaged", "(III)I"⟩ ∈ gw_G := gt_8 (i := 36) rfl rfl
set_option maxRecDepth 100000 in
theorem gw_1827 : Cond.code yX11_imaged cX11_imaged 4 (some .int) ∈ gw_G := gt_8 (i := 37) rfl rfl
set_option maxRecDepth 100000 in
theorem gw_1828 : Cond.methodLink "RepeatFreeLaw" 240 ⟨"RepeatFreeModel", "length", "(III)J"⟩ ∈ gw_G := gt_8 (i := 38) rfl rfl
set_option maxRecDepth 100000 in
theorem gw_1829 : Cond.instanceMethod ⟨"RepeatFreeModel", "length", "(III)J"⟩ ∈ gw_G := gt_8 (i := 39) rfl rfl
set_option maxRecDepth 100000 in
theorem gw_1830 : Cond.selects "RepeatFreeModel" ⟨"RepeatFreeModel", "length", "(III)J"⟩ ⟨"RepeatFreeModel", "length", "(III)J"⟩ ∈ gw_G := gt_8 (i := 40) rfl rfl
set_option maxRecDepth 100000 in
theorem gw_1831 : Cond.code yX11_length cX11_length 4 (some .long) ∈ gw_G := gt_8 (i := 41) rfl rfl
set_option maxRecDepth 100000 in
theorem gw_1832 : Cond.methodLink "RepeatFreeModel" 325 ⟨"RepeatFreeModel", "noPower", "(III)Z"⟩ ∈ gw_G := gt_8 (i := 42) rfl rfl
set_option maxRecDepth 100000 in
theorem gw_1834 : Cond.instanceMethod ⟨"RepeatFreeModel", "noPower", "(III)Z"⟩ ∈ gw_G := gt_8 (i := 44) rfl rfl
set_option maxRecDepth 100000 in
theorem gw_1835 : Cond.code yX11_noPower cX11_noPower 4 (some .boolean) ∈ gw_G := gt_8 (i := 45) rfl rfl
set_option maxRecDepth 100000 in
theorem gw_1836 : Cond.methodLink "RepeatFreeModel" 328 ⟨"RepeatFreeModel", "laysCounts", "(II)V"⟩ ∈ gw_G := gt_8 (i := 46) rfl rfl
set_option maxRecDepth 100000 in
theorem gw_1838 : Cond.instanceMethod ⟨"RepeatFreeModel", "laysCounts", "(II)V"⟩ ∈ gw_G := gt_8 (i := 48) rfl rfl
set_option maxRecDepth 100000 in
theorem gw_1839 : Cond.code yX11_laysCounts cX11_laysCounts 7 none ∈ gw_G := gt_8 (i := 49) rfl rfl
set_option maxRecDepth 100000 in
theorem gw_1840 : Cond.methodLink "RepeatFreeModel" 322 ⟨"RepeatFreeModel", "at", "(III)I"⟩ ∈ gw_G := gt_8 (i := 50) rfl rfl
set_option maxRecDepth 100000 in
theorem gw_1841 : Cond.static ⟨"RepeatFreeModel", "at", "(III)I"⟩ ∈ gw_G := gt_8 (i := 51) rfl rfl
set_option maxRecDepth 100000 in
theorem gw_1842 : Cond.code yX11_at cX11_at 3 (some .int) ∈ gw_G := gt_8 (i := 52) rfl rfl
set_option maxRecDepth 100000 in
theorem gw_1843 : Cond.methodLink "RepeatFreeModel" 332 ⟨"RepeatFreeModel", "lengthOf", "(II)J"⟩ ∈ gw_G := gt_8 (i := 53) rfl rfl
set_option maxRecDepth 100000 in
theorem gw_1845 : Cond.instanceMethod ⟨"RepeatFreeModel", "lengthOf", "(II)J"⟩ ∈ gw_G := gt_8 (i := 55) rfl rfl
set_option maxRecDepth 100000 in
theorem gw_1846 : Cond.code yX11_lengthOf cX11_lengthOf 6 (some .long) ∈ gw_G := gt_8 (i := 56) rfl rfl
set_option maxRecDepth 100000 in
theorem gw_1847 : Cond.methodLink "RepeatFreeLaw" 246 ⟨"RepeatFreeModel", "power", "(IIIJ)I"⟩ ∈ gw_G := gt_8 (i := 57) rfl rfl
set_option maxRecDepth 100000 in
theorem gw_1848 : Cond.instanceMethod ⟨"RepeatFreeModel", "power", "(IIIJ)I"⟩ ∈ gw_G := gt_8 (i := 58) rfl rfl
set_option maxRecDepth 100000 in
theorem gw_1849 : Cond.selects "RepeatFreeModel" ⟨"RepeatFreeModel", "power", "(IIIJ)I"⟩ ⟨"RepeatFreeModel", "power", "(IIIJ)I"⟩ ∈ gw_G := gt_8 (i := 59) rfl rfl
set_option maxRecDepth 100000 in
theorem gw_1850 : Cond.code yX11_power cX11_power 6 (some .int) ∈ gw_G := gt_8 (i := 60) rfl rfl
set_option maxRecDepth 100000 in
theorem gw_1851 : Cond.methodLink "RepeatFreeModel" 336 ⟨"RepeatFreeModel", "placed", "(IIIJ)I"⟩ ∈ gw_G := gt_8 (i := 61) rfl rfl
set_option maxRecDepth 100000 in
theorem gw_1853 : Cond.instanceMethod ⟨"RepeatFreeModel", "placed", "(IIIJ)I"⟩ ∈ gw_G := gt_8 (i := 63) rfl rfl
set_option maxRecDepth 100000 in
theorem gw_1854 : Cond.code yX11_placed cX11_placed 11 (some .int) ∈ gw_G := gt_8 (i := 64) rfl rfl
set_option maxRecDepth 100000 in
theorem gw_1855 : Cond.methodLink "RepeatFreeLaw" 250 ⟨"RepeatFreeModel", "often", "(IIII)J"⟩ ∈ gw_G := gt_8 (i := 65) rfl rfl
set_option maxRecDepth 100000 in
theorem gw_1856 : Cond.instanceMethod ⟨"RepeatFreeModel", "often", "(IIII)J"⟩ ∈ gw_G := gt_8 (i := 66) rfl rfl
set_option maxRecDepth 100000 in
theorem gw_1857 : Cond.selects "RepeatFreeModel" ⟨"RepeatFreeModel", "often", "(IIII)J"⟩ ⟨"RepeatFreeModel", "often", "(IIII)J"⟩ ∈ gw_G := gt_8 (i := 67) rfl rfl
set_option maxRecDepth 100000 in
theorem gw_1858 : Cond.code yX11_often cX11_often 5 (some .long) ∈ gw_G := gt_8 (i := 68) rfl rfl
set_option maxRecDepth 100000 in
theorem gw_1859 : Cond.methodLink "RepeatFreeLaw" 253 ⟨"RepeatFreeModel", "keeps", "(II)I"⟩ ∈ gw_G := gt_8 (i := 69) rfl rfl
set_option maxRecDepth 100000 in
theorem gw_1860 : Cond.instanceMethod ⟨"RepeatFreeModel", "keeps", "(II)I"⟩ ∈ gw_G := gt_8 (i := 70) rfl rfl
set_option maxRecDepth 100000 in
theorem gw_1861 : Cond.selects "RepeatFreeModel" ⟨"RepeatFreeModel", "keeps", "(II)I"⟩ ⟨"RepeatFreeModel", "keeps", "(II)I"⟩ ∈ gw_G := gt_8 (i := 71) rfl rfl
set_option maxRecDepth 100000 in
theorem gw_1862 : Cond.code yX11_keeps cX11_keeps 3 (some .int) ∈ gw_G := gt_8 (i := 72) rfl rfl
set_option maxRecDepth 100000 in
theorem gw_1863 : Cond.methodLink "RepeatFreeModel" 340 ⟨"RepeatFreeModel", "laysBreak", "(II)V"⟩ ∈ gw_G := gt_8 (i := 73) rfl rfl
set_option maxRecDepth 100000 in
theorem gw_1865 : Cond.instanceMethod ⟨"RepeatFreeModel", "laysBreak", "(II)V"⟩ ∈ gw_G := gt_8 (i := 75) rfl rfl
set_option maxRecDepth 100000 in
theorem gw_1866 : Cond.code yX11_laysBreak cX11_laysBreak 5 none ∈ gw_G := gt_8 (i := 76) rfl rfl
set_option maxRecDepth 100000 in
theorem gw_1867 : Cond.methodLink "RepeatFreeLaw" 256 ⟨"RepeatFreeModel", "breaks", "(II)I"⟩ ∈ gw_G := gt_8 (i := 77) rfl rfl
set_option maxRecDepth 100000 in
theorem gw_1868 : Cond.instanceMethod ⟨"RepeatFreeModel", "breaks", "(II)I"⟩ ∈ gw_G := gt_8 (i := 78) rfl rfl
set_option maxRecDepth 100000 in
theorem gw_1869 : Cond.selects "RepeatFreeModel" ⟨"RepeatFreeModel", "breaks", "(II)I"⟩ ⟨"RepeatFreeModel", "breaks", "(II)I"⟩ ∈ gw_G := gt_8 (i := 79) rfl rfl
set_option maxRecDepth 100000 in
theorem gw_1870 : Cond.code yX11_breaks cX11_breaks 5 (some .int) ∈ gw_G := gt_8 (i := 80) rfl rfl
set_option maxRecDepth 100000 in
theorem gw_1871 : Cond.methodLink "RepeatFreeLaw" 259 ⟨"RepeatFreeModel", "grows", "(I)I"⟩ ∈ gw_G := gt_8 (i := 81) rfl rfl
set_option maxRecDepth 100000 in
theorem gw_1872 : Cond.instanceMethod ⟨"RepeatFreeModel", "grows", "(I)I"⟩ ∈ gw_G := gt_8 (i := 82) rfl rfl
set_option maxRecDepth 100000 in
theorem gw_1873 : Cond.selects "RepeatFreeModel" ⟨"RepeatFreeModel", "grows", "(I)I"⟩ ⟨"RepeatFreeModel", "grows", "(I)I"⟩ ∈ gw_G := gt_8 (i := 83) rfl rfl
set_option maxRecDepth 100000 in
theorem gw_1874 : Cond.code yX11_grows cX11_grows 4 (some .int) ∈ gw_G := gt_8 (i := 84) rfl rfl
set_option maxRecDepth 100000 in
theorem gw_1875 : Cond.methodLink "RepeatFreeModel" 343 ⟨"RepeatFreeModel", "doesGrow", "(II)Z"⟩ ∈ gw_G := gt_8 (i := 85) rfl rfl
set_option maxRecDepth 100000 in
theorem gw_1877 : Cond.instanceMethod ⟨"RepeatFreeModel", "doesGrow", "(II)Z"⟩ ∈ gw_G := gt_8 (i := 87) rfl rfl
set_option maxRecDepth 100000 in
theorem gw_1878 : Cond.code yX11_doesGrow cX11_doesGrow 3 (some .boolean) ∈ gw_G := gt_8 (i := 88) rfl rfl
set_option maxRecDepth 100000 in
theorem gw_1879 : Cond.methodLink "RepeatFreeLaw" 262 ⟨"RepeatFreeModel", "uniform", "(I)I"⟩ ∈ gw_G := gt_8 (i := 89) rfl rfl
set_option maxRecDepth 100000 in
theorem gw_1880 : Cond.instanceMethod ⟨"RepeatFreeModel", "uniform", "(I)I"⟩ ∈ gw_G := gt_8 (i := 90) rfl rfl
set_option maxRecDepth 100000 in
theorem gw_1881 : Cond.selects "RepeatFreeModel" ⟨"RepeatFreeModel", "uniform", "(I)I"⟩ ⟨"RepeatFreeModel", "uniform", "(I)I"⟩ ∈ gw_G := gt_8 (i := 91) rfl rfl
set_option maxRecDepth 100000 in
theorem gw_1882 : Cond.code yX11_uniform cX11_uniform 3 (some .int) ∈ gw_G := gt_8 (i := 92) rfl rfl
set_option maxRecDepth 100000 in
theorem gw_1883 : Cond.methodLink "RepeatFreeLaw" 305 ⟨"RepeatFreeModel", "fill", "(III)I"⟩ ∈ gw_G := gt_8 (i := 93) rfl rfl
set_option maxRecDepth 100000 in
theorem gw_1884 : Cond.instanceMethod ⟨"RepeatFreeModel", "fill", "(III)I"⟩ ∈ gw_G := gt_8 (i := 94) rfl rfl
set_option maxRecDepth 100000 in
theorem gw_1885 : Cond.selects "RepeatFreeModel" ⟨"RepeatFreeModel", "fill", "(III)I"⟩ ⟨"RepeatFreeModel", "fill", "(III)I"⟩ ∈ gw_G := gt_8 (i := 95) rfl rfl
set_option maxRecDepth 100000 in
theorem gw_1886 : Cond.code yX11_fill cX11_fill 7 (some .int) ∈ gw_G := gt_8 (i := 96) rfl rfl
set_option maxRecDepth 100000 in
theorem gw_1887 : Cond.methodLink "RepeatFreeLaw" 308 ⟨"RepeatFreeModel", "sources", "(I)J"⟩ ∈ gw_G := gt_8 (i := 97) rfl rfl
set_option maxRecDepth 100000 in
theorem gw_1888 : Cond.instanceMethod ⟨"RepeatFreeModel", "sources", "(I)J"⟩ ∈ gw_G := gt_8 (i := 98) rfl rfl
set_option maxRecDepth 100000 in
theorem gw_1889 : Cond.selects "RepeatFreeModel" ⟨"RepeatFreeModel", "sources", "(I)J"⟩ ⟨"RepeatFreeModel", "sources", "(I)J"⟩ ∈ gw_G := gt_8 (i := 99) rfl rfl
set_option maxRecDepth 100000 in
theorem gw_1890 : Cond.code yX11_sources cX11_sources 7 (some .long) ∈ gw_G := gt_8 (i := 100) rfl rfl
set_option maxRecDepth 100000 in
theorem gw_1891 : Cond.methodLink "RepeatFreeLaw" 311 ⟨"RepeatFreeModel", "code", "(I)Z"⟩ ∈ gw_G := gt_8 (i := 101) rfl rfl
set_option maxRecDepth 100000 in
theorem gw_1892 : Cond.instanceMethod ⟨"RepeatFreeModel", "code", "(I)Z"⟩ ∈ gw_G := gt_8 (i := 102) rfl rfl
set_option maxRecDepth 100000 in
theorem gw_1893 : Cond.selects "RepeatFreeModel" ⟨"RepeatFreeModel", "code", "(I)Z"⟩ ⟨"RepeatFreeModel", "code", "(I)Z"⟩ ∈ gw_G := gt_8 (i := 103) rfl rfl
set_option maxRecDepth 100000 in
theorem gw_1894 : Cond.code yX11_code cX11_code 6 (some .boolean) ∈ gw_G := gt_8 (i := 104) rfl rfl
set_option maxRecDepth 100000 in
theorem gw_1895 : Cond.methodLink "RepeatFreeModel" 349 ⟨"RepeatFreeModel", "against", "(IIII)Z"⟩ ∈ gw_G := gt_8 (i := 105) rfl rfl
set_option maxRecDepth 100000 in
theorem gw_1897 : Cond.instanceMethod ⟨"RepeatFreeModel", "against", "(IIII)Z"⟩ ∈ gw_G := gt_8 (i := 107) rfl rfl
set_option maxRecDepth 100000 in
theorem gw_1898 : Cond.code yX11_against cX11_against 9 (some .boolean) ∈ gw_G := gt_8 (i := 108) rfl rfl
set_option maxRecDepth 100000 in
theorem gw_1899 : Cond.methodLink "RepeatFreeLaw" 206 ⟨"RepeatFreeModel", "met", "(II)I"⟩ ∈ gw_G := gt_8 (i := 109) rfl rfl
set_option maxRecDepth 100000 in
theorem gw_1900 : Cond.instanceMethod ⟨"RepeatFreeModel", "met", "(II)I"⟩ ∈ gw_G := gt_8 (i := 110) rfl rfl
set_option maxRecDepth 100000 in
theorem gw_1901 : Cond.selects "RepeatFreeModel" ⟨"RepeatFreeModel", "met", "(II)I"⟩ ⟨"RepeatFreeModel", "met", "(II)I"⟩ ∈ gw_G := gt_8 (i := 111) rfl rfl
set_option maxRecDepth 100000 in
theorem gw_1902 : Cond.code yX11_met cX11_met 5 (some .int) ∈ gw_G := gt_8 (i := 112) rfl rfl
set_option maxRecDepth 100000 in
theorem gw_1903 : Cond.methodLink "RepeatFreeModel" 353 ⟨"RepeatFreeModel", "noPattern", "(I)Z"⟩ ∈ gw_G := gt_8 (i := 113) rfl rfl
set_option maxRecDepth 100000 in
theorem gw_1905 : Cond.instanceMethod ⟨"RepeatFreeModel", "noPattern", "(I)Z"⟩ ∈ gw_G := gt_8 (i := 115) rfl rfl
set_option maxRecDepth 100000 in
theorem gw_1906 : Cond.code yX11_noPattern cX11_noPattern 2 (some .boolean) ∈ gw_G := gt_8 (i := 116) rfl rfl
set_option maxRecDepth 100000 in
theorem gw_1907 : Cond.methodLink "RepeatFreeLaw" 314 ⟨"RepeatFreeModel", "whole", "(III)I"⟩ ∈ gw_G := gt_8 (i := 117) rfl rfl
set_option maxRecDepth 100000 in
theorem gw_1908 : Cond.instanceMethod ⟨"RepeatFreeModel", "whole", "(III)I"⟩ ∈ gw_G := gt_8 (i := 118) rfl rfl
set_option maxRecDepth 100000 in
theorem gw_1909 : Cond.selects "RepeatFreeModel" ⟨"RepeatFreeModel", "whole", "(III)I"⟩ ⟨"RepeatFreeModel", "whole", "(III)I"⟩ ∈ gw_G := gt_8 (i := 119) rfl rfl
set_option maxRecDepth 100000 in
theorem gw_1910 : Cond.code yX11_whole cX11_whole 6 (some .int) ∈ gw_G := gt_8 (i := 120) rfl rfl
set_option maxRecDepth 100000 in
theorem gw_1911 : Cond.methodLink "RepeatFreeLaw" 265 ⟨"RepeatFreeModel", "cannot", "(I)Z"⟩ ∈ gw_G := gt_8 (i := 121) rfl rfl
set_option maxRecDepth 100000 in
theorem gw_1912 : Cond.instanceMethod ⟨"RepeatFreeModel", "cannot", "(I)Z"⟩ ∈ gw_G := gt_8 (i := 122) rfl rfl
set_option maxRecDepth 100000 in
theorem gw_1913 : Cond.selects "RepeatFreeModel" ⟨"RepeatFreeModel", "cannot", "(I)Z"⟩ ⟨"RepeatFreeModel", "cannot", "(I)Z"⟩ ∈ gw_G := gt_8 (i := 123) rfl rfl
set_option maxRecDepth 100000 in
theorem gw_1914 : Cond.code yX11_cannot cX11_cannot 2 (some .boolean) ∈ gw_G := gt_8 (i := 124) rfl rfl
set_option maxRecDepth 100000 in
theorem gw_1915 : Cond.methodLink "RepeatFreeModel" 365 ⟨"RepeatFreeModel", "cannotBe", "(II)Z"⟩ ∈ gw_G := gt_8 (i := 125) rfl rfl
set_option maxRecDepth 100000 in
theorem gw_1917 : Cond.instanceMethod ⟨"RepeatFreeModel", "cannotBe", "(II)Z"⟩ ∈ gw_G := gt_8 (i := 127) rfl rfl
set_option maxRecDepth 100000 in
theorem gw_1918 : Cond.code yX11_cannotBe cX11_cannotBe 6 (some .boolean) ∈ gw_G := gt_8 (i := 128) rfl rfl
set_option maxRecDepth 100000 in
theorem gw_1919 : Cond.methodLink "RepeatFreeModel" 359 ⟨"RepeatFreeModel", "lettersOf", "(I)I"⟩ ∈ gw_G := gt_8 (i := 129) rfl rfl
set_option maxRecDepth 100000 in
theorem gw_1921 : Cond.instanceMethod ⟨"RepeatFreeModel", "lettersOf", "(I)I"⟩ ∈ gw_G := gt_8 (i := 131) rfl rfl
set_option maxRecDepth 100000 in
theorem gw_1922 : Cond.code yX11_lettersOf cX11_lettersOf 4 (some .int) ∈ gw_G := gt_8 (i := 132) rfl rfl
set_option maxRecDepth 100000 in
theorem gw_1923 : Cond.methodLink "RepeatFreeModel" 362 ⟨"RepeatFreeModel", "isLoose", "(III)Z"⟩ ∈ gw_G := gt_8 (i := 133) rfl rfl
set_option maxRecDepth 100000 in
theorem gw_1925 : Cond.instanceMethod ⟨"RepeatFreeModel", "isLoose", "(III)Z"⟩ ∈ gw_G := gt_8 (i := 135) rfl rfl
set_option maxRecDepth 100000 in
theorem gw_1926 : Cond.code yX11_isLoose cX11_isLoose 7 (some .boolean) ∈ gw_G := gt_8 (i := 136) rfl rfl
set_option maxRecDepth 100000 in
theorem gw_1927 : Cond.methodLink "RepeatFreeModel" 356 ⟨"RepeatFreeModel", "endOf", "(I)I"⟩ ∈ gw_G := gt_8 (i := 137) rfl rfl
set_option maxRecDepth 100000 in
theorem gw_1929 : Cond.instanceMethod ⟨"RepeatFreeModel", "endOf", "(I)I"⟩ ∈ gw_G := gt_8 (i := 139) rfl rfl
set_option maxRecDepth 100000 in
theorem gw_1930 : Cond.code yX11_endOf cX11_endOf 3 (some .int) ∈ gw_G := gt_8 (i := 140) rfl rfl
set_option maxRecDepth 100000 in
theorem gw_1931 : Cond.methodLink "RepeatFreeLaw" 268 ⟨"RepeatFreeModel", "loose", "(II)I"⟩ ∈ gw_G := gt_8 (i := 141) rfl rfl
set_option maxRecDepth 100000 in
theorem gw_1932 : Cond.instanceMethod ⟨"RepeatFreeModel", "loose", "(II)I"⟩ ∈ gw_G := gt_8 (i := 142) rfl rfl
set_option maxRecDepth 100000 in
theorem gw_1933 : Cond.selects "RepeatFreeModel" ⟨"RepeatFreeModel", "loose", "(II)I"⟩ ⟨"RepeatFreeModel", "loose", "(II)I"⟩ ∈ gw_G := gt_8 (i := 143) rfl rfl
set_option maxRecDepth 100000 in
theorem gw_1934 : Cond.code yX11_loose cX11_loose 5 (some .int) ∈ gw_G := gt_8 (i := 144) rfl rfl
set_option maxRecDepth 100000 in
theorem gw_1935 : Cond.methodLink "RepeatFreeLaw" 271 ⟨"RepeatFreeModel", "pattern", "(II)I"⟩ ∈ gw_G := gt_8 (i := 145) rfl rfl
set_option maxRecDepth 100000 in
theorem gw_1936 : Cond.instanceMethod ⟨"RepeatFreeModel", "pattern", "(II)I"⟩ ∈ gw_G := gt_8 (i := 146) rfl rfl
set_option maxRecDepth 100000 in
theorem gw_1937 : Cond.selects "RepeatFreeModel" ⟨"RepeatFreeModel", "pattern", "(II)I"⟩ ⟨"RepeatFreeModel", "pattern", "(II)I"⟩ ∈ gw_G := gt_8 (i := 147) rfl rfl
set_option maxRecDepth 100000 in
theorem gw_1938 : Cond.code yX11_pattern cX11_pattern 3 (some .int) ∈ gw_G := gt_8 (i := 148) rfl rfl
set_option maxRecDepth 100000 in
theorem gw_1939 : Cond.methodLink "RepeatFreeLaw" 287 ⟨"RepeatFreeModel", "limit", "(III)I"⟩ ∈ gw_G := gt_8 (i := 149) rfl rfl
set_option maxRecDepth 100000 in
theorem gw_1940 : Cond.instanceMethod ⟨"RepeatFreeModel", "limit", "(III)I"⟩ ∈ gw_G := gt_8 (i := 150) rfl rfl
set_option maxRecDepth 100000 in
theorem gw_1941 : Cond.selects "RepeatFreeModel" ⟨"RepeatFreeModel", "limit", "(III)I"⟩ ⟨"RepeatFreeModel", "limit", "(III)I"⟩ ∈ gw_G := gt_8 (i := 151) rfl rfl
set_option maxRecDepth 100000 in
theorem gw_1942 : Cond.code yX11_limit cX11_limit 5 (some .int) ∈ gw_G := gt_8 (i := 152) rfl rfl
set_option maxRecDepth 100000 in
theorem gw_1943 : Cond.methodLink "RepeatFreeLaw" 291 ⟨"RepeatFreeModel", "avoid", "(IZ)Z"⟩ ∈ gw_G := gt_8 (i := 153) rfl rfl
set_option maxRecDepth 100000 in
theorem gw_1944 : Cond.instanceMethod ⟨"RepeatFreeModel", "avoid", "(IZ)Z"⟩ ∈ gw_G := gt_8 (i := 154) rfl rfl
set_option maxRecDepth 100000 in
theorem gw_1945 : Cond.selects "RepeatFreeModel" ⟨"RepeatFreeModel", "avoid", "(IZ)Z"⟩ ⟨"RepeatFreeModel", "avoid", "(IZ)Z"⟩ ∈ gw_G := gt_8 (i := 155) rfl rfl
set_option maxRecDepth 100000 in
theorem gw_1946 : Cond.code yX11_avoid cX11_avoid 4 (some .boolean) ∈ gw_G := gt_8 (i := 156) rfl rfl
set_option maxRecDepth 100000 in
theorem gw_1947 : Cond.methodLink "RepeatFreeLaw" 318 ⟨"RepeatFreeModel", "count", "(I)I"⟩ ∈ gw_G := gt_8 (i := 157) rfl rfl
set_option maxRecDepth 100000 in
theorem gw_1948 : Cond.instanceMethod ⟨"RepeatFreeModel", "count", "(I)I"⟩ ∈ gw_G := gt_8 (i := 158) rfl rfl
set_option maxRecDepth 100000 in
theorem gw_1949 : Cond.selects "RepeatFreeModel" ⟨"RepeatFreeModel", "count", "(I)I"⟩ ⟨"RepeatFreeModel", "count", "(I)I"⟩ ∈ gw_G := gt_8 (i := 159) rfl rfl
set_option maxRecDepth 100000 in
theorem gw_1950 : Cond.code yX11_count cX11_count 4 (some .int) ∈ gw_G := gt_8 (i := 160) rfl rfl
set_option maxRecDepth 100000 in
theorem gw_1951 : Cond.constantLong "RepeatFreeLaw" 241 4294967295 ∈ gw_G := gt_8 (i := 161) rfl rfl
