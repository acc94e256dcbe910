theorem lw_in1 {w : Cond} (h : w ∈ tables_1_1) : w ∈ lw_tbl := List.mem_append_right _ (show w ∈ tables_1 from List.mem_append_left _ h)
theorem lw_in2 {w : Cond} (h : w ∈ tables_1_2) : w ∈ lw_tbl := List.mem_append_right _ (show w ∈ tables_1 from List.mem_append_right _ (List.mem_append_left _ h))
theorem lw_in3 {w : Cond} (h : w ∈ tables_1_3) : w ∈ lw_tbl := List.mem_append_right _ (show w ∈ tables_1 from List.mem_append_right _ (List.mem_append_right _ (List.mem_append_left _ h)))
theorem lw_in4 {w : Cond} (h : w ∈ tables_1_4) : w ∈ lw_tbl := List.mem_append_right _ (show w ∈ tables_1 from List.mem_append_right _ (List.mem_append_right _ (List.mem_append_right _ (List.mem_append_left _ h))))
theorem lw_in5 {w : Cond} (h : w ∈ tables_1_5) : w ∈ lw_tbl := List.mem_append_right _ (show w ∈ tables_1 from List.mem_append_right _ (List.mem_append_right _ (List.mem_append_right _ (List.mem_append_right _ (h)))))
theorem lw_good : ∀ w ∈ lw_U, goodWord w = true := fun w h => (List.mem_filter.mp h).2
theorem gUC {y : MethodName} {c : ByteArray} {n : Nat} {ret : Option FieldType} (h5 : .code y c n ret ∈ lw_U) : GoodIn lw_U (.code y c n ret :: lw_U) := by
  intro w hw
  have hm : w ∈ lw_U := by
    rcases List.mem_cons.mp hw with h | h
    · rw [h]; exact h5
    · exact h
  exact ⟨hm, good_of_word (lw_good w hm)⟩
theorem gUV {own C : String} {idx : Nat} {y : MethodName} {c : ByteArray} {n : Nat} {ret : Option FieldType} (h1 : .methodLink own idx y ∈ lw_U) (h2 : .instanceMethod y ∈ lw_U) (h3 : .selects C y y ∈ lw_U) (h4 : .initialized C ∈ lw_U) (h5 : .code y c n ret ∈ lw_U) : GoodIn lw_U (wsV own idx C y (.code y c n ret :: lw_U)) := by
  intro w hw
  have hm : w ∈ lw_U := by
    rcases List.mem_append.mp (show w ∈ [.methodLink own idx y, .instanceMethod y, .selects C y y, .initialized C] ++ (.code y c n ret :: lw_U) from hw) with h | h
    · rcases List.mem_cons.mp h with h | h
      · rw [h]; exact h1
      · rcases List.mem_cons.mp h with h | h
        · rw [h]; exact h2
        · rcases List.mem_cons.mp h with h | h
          · rw [h]; exact h3
          · rw [List.mem_singleton.mp h]; exact h4
    · exact (gUC h5 w h).1
  exact ⟨hm, good_of_word (lw_good w hm)⟩
theorem gUS {own : String} {idx : Nat} {y : MethodName} {c : ByteArray} {n : Nat} {ret : Option FieldType} (h1 : .methodLink own idx y ∈ lw_U) (h2 : .static y ∈ lw_U) (h4 : .initialized y.cls ∈ lw_U) (h5 : .code y c n ret ∈ lw_U) : GoodIn lw_U (va_wsS own idx y (.code y c n ret :: lw_U)) := by
  intro w hw
  have hm : w ∈ lw_U := by
    rcases List.mem_append.mp (show w ∈ [.methodLink own idx y, .static y, .initialized y.cls] ++ (.code y c n ret :: lw_U) from hw) with h | h
    · rcases List.mem_cons.mp h with h | h
      · rw [h]; exact h1
      · rcases List.mem_cons.mp h with h | h
        · rw [h]; exact h2
        · rw [List.mem_singleton.mp h]; exact h4
    · exact (gUC h5 w h).1
  exact ⟨hm, good_of_word (lw_good w hm)⟩
theorem mw_0 : (.fieldLink RX0 27 "TokenFloor$Colours" "count" "I" : Cond) ∈ lw_U := List.mem_filter.mpr ⟨lw_in1 (List.mem_of_getElem? (i := 147) (by decide +kernel)), by decide +kernel⟩
theorem mw_1 : (.fieldLink RX0 18 "TokenFloor$Colours" "key" "[I" : Cond) ∈ lw_U := List.mem_filter.mpr ⟨lw_in1 (List.mem_of_getElem? (i := 151) (by decide +kernel)), by decide +kernel⟩
theorem mw_2 : (.fieldLink RX0 11 "TokenFloor$Colours" "origin" "[I" : Cond) ∈ lw_U := List.mem_filter.mpr ⟨lw_in1 (List.mem_of_getElem? (i := 149) (by decide +kernel)), by decide +kernel⟩
theorem mw_3 : (.fieldLink RX0 15 "TokenFloor$Colours" "outer" "[I" : Cond) ∈ lw_U := List.mem_filter.mpr ⟨lw_in1 (List.mem_of_getElem? (i := 150) (by decide +kernel)), by decide +kernel⟩
theorem mw_4 : (.fieldLink RX0 21 "TokenFloor$Colours" "firstReached" "[I" : Cond) ∈ lw_U := List.mem_filter.mpr ⟨lw_in1 (List.mem_of_getElem? (i := 152) (by decide +kernel)), by decide +kernel⟩
theorem mw_5 : (.fieldLink RX0 24 "TokenFloor$Colours" "nextReached" "[I" : Cond) ∈ lw_U := List.mem_filter.mpr ⟨lw_in1 (List.mem_of_getElem? (i := 153) (by decide +kernel)), by decide +kernel⟩
theorem mw_6 : (.methodLink RX0 31 yX0_add : Cond) ∈ lw_U := List.mem_filter.mpr ⟨lw_in2 (List.mem_of_getElem? (i := 124) (by decide +kernel)), by decide +kernel⟩
theorem mw_7 : (.code yX0_add cX0_add 5 (some .int) : Cond) ∈ lw_U := List.mem_filter.mpr ⟨lw_in2 (List.mem_of_getElem? (i := 127) (by decide +kernel)), by decide +kernel⟩
theorem mw_8 : (.initialized RX0 : Cond) ∈ lw_U := List.mem_filter.mpr ⟨lw_in1 (List.mem_of_getElem? (i := 6) (by decide +kernel)), by decide +kernel⟩
theorem mw_9 : (.instanceMethod yX0_add : Cond) ∈ lw_U := List.mem_filter.mpr ⟨lw_in2 (List.mem_of_getElem? (i := 126) (by decide +kernel)), by decide +kernel⟩
theorem mw_10 : (.selects RX0 yX0_add yX0_add : Cond) ∈ lw_U := List.mem_filter.mpr ⟨List.mem_append_left _ (List.mem_of_getElem? (i := 1) (by decide +kernel)), by decide +kernel⟩
theorem mw_11 : (.methodLink RX0 35 yX0_reach : Cond) ∈ lw_U := List.mem_filter.mpr ⟨lw_in2 (List.mem_of_getElem? (i := 226) (by decide +kernel)), by decide +kernel⟩
theorem mw_12 : (.code yX0_reach cX0_reach 7 (some .int) : Cond) ∈ lw_U := List.mem_filter.mpr ⟨lw_in2 (List.mem_of_getElem? (i := 229) (by decide +kernel)), by decide +kernel⟩
theorem mw_13 : (.instanceMethod yX0_reach : Cond) ∈ lw_U := List.mem_filter.mpr ⟨lw_in2 (List.mem_of_getElem? (i := 228) (by decide +kernel)), by decide +kernel⟩
theorem mw_14 : (.selects RX0 yX0_reach yX0_reach : Cond) ∈ lw_U := List.mem_filter.mpr ⟨List.mem_append_left _ (List.mem_of_getElem? (i := 8) (by decide +kernel)), by decide +kernel⟩
theorem mw_15 : (.fieldLink RX1 31 "TokenFloor$Floor" "left" "I" : Cond) ∈ lw_U := List.mem_filter.mpr ⟨lw_in1 (List.mem_of_getElem? (i := 173) (by decide +kernel)), by decide +kernel⟩
theorem mw_16 : (.fieldLink RX1 35 "TokenFloor$Floor" "count" "I" : Cond) ∈ lw_U := List.mem_filter.mpr ⟨lw_in1 (List.mem_of_getElem? (i := 179) (by decide +kernel)), by decide +kernel⟩
theorem mw_17 : (.fieldLink RX1 25 "TokenFloor$Floor" "firstPair" "[I" : Cond) ∈ lw_U := List.mem_filter.mpr ⟨lw_in1 (List.mem_of_getElem? (i := 182) (by decide +kernel)), by decide +kernel⟩
theorem mw_18 : (.methodLink RX1 38 yJ7_fill_53178 : Cond) ∈ lw_U := List.mem_filter.mpr ⟨lw_in2 (List.mem_of_getElem? (i := 132) (by decide +kernel)), by decide +kernel⟩
theorem mw_19 : (.code yJ7_fill_53178 cJ7_fill_53178 4 none : Cond) ∈ lw_U := List.mem_filter.mpr ⟨lw_in1 (List.mem_of_getElem? (i := 31) (by decide +kernel)), by decide +kernel⟩
theorem mw_20 : (.initialized RJ7 : Cond) ∈ lw_U := List.mem_filter.mpr ⟨lw_in1 (List.mem_of_getElem? (i := 3) (by decide +kernel)), by decide +kernel⟩
theorem mw_21 : (.static yJ7_fill_53178 : Cond) ∈ lw_U := List.mem_filter.mpr ⟨lw_in1 (List.mem_of_getElem? (i := 30) (by decide +kernel)), by decide +kernel⟩
theorem mw_22 : (.fieldLink RX1 9 "TokenFloor$Floor" "actOf" "[I" : Cond) ∈ lw_U := List.mem_filter.mpr ⟨lw_in1 (List.mem_of_getElem? (i := 175) (by decide +kernel)), by decide +kernel⟩
theorem mw_23 : (.fieldLink RX1 28 "TokenFloor$Floor" "nextPair" "[I" : Cond) ∈ lw_U := List.mem_filter.mpr ⟨lw_in1 (List.mem_of_getElem? (i := 183) (by decide +kernel)), by decide +kernel⟩
theorem mw_24 : (.fieldLink RX1 15 "TokenFloor$Floor" "colourOf" "[I" : Cond) ∈ lw_U := List.mem_filter.mpr ⟨lw_in1 (List.mem_of_getElem? (i := 177) (by decide +kernel)), by decide +kernel⟩
theorem mw_25 : (.fieldLink RX1 18 "TokenFloor$Floor" "had" "[I" : Cond) ∈ lw_U := List.mem_filter.mpr ⟨lw_in1 (List.mem_of_getElem? (i := 180) (by decide +kernel)), by decide +kernel⟩
theorem mw_26 : (.fieldLink RX1 21 "TokenFloor$Floor" "came" "[J" : Cond) ∈ lw_U := List.mem_filter.mpr ⟨lw_in1 (List.mem_of_getElem? (i := 181) (by decide +kernel)), by decide +kernel⟩
theorem mw_27 : (.fieldLink RX2 54 "TokenFloor$Graph" "acts" "I" : Cond) ∈ lw_U := List.mem_filter.mpr ⟨lw_in1 (List.mem_of_getElem? (i := 32) (by decide +kernel)), by decide +kernel⟩
theorem mw_28 : (.methodLink RX2 58 yX2_hasAct : Cond) ∈ lw_U := List.mem_filter.mpr ⟨lw_in2 (List.mem_of_getElem? (i := 70) (by decide +kernel)), by decide +kernel⟩
theorem mw_29 : (.code yX2_hasAct cX2_hasAct 2 (some .boolean) : Cond) ∈ lw_U := List.mem_filter.mpr ⟨lw_in2 (List.mem_of_getElem? (i := 73) (by decide +kernel)), by decide +kernel⟩
theorem mw_30 : (.initialized RX2 : Cond) ∈ lw_U := List.mem_filter.mpr ⟨lw_in1 (List.mem_of_getElem? (i := 2) (by decide +kernel)), by decide +kernel⟩
theorem mw_31 : (.instanceMethod yX2_hasAct : Cond) ∈ lw_U := List.mem_filter.mpr ⟨lw_in2 (List.mem_of_getElem? (i := 71) (by decide +kernel)), by decide +kernel⟩
theorem mw_32 : (.selects RX2 yX2_hasAct yX2_hasAct : Cond) ∈ lw_U := List.mem_filter.mpr ⟨lw_in2 (List.mem_of_getElem? (i := 72) (by decide +kernel)), by decide +kernel⟩
theorem mw_33 : (.fieldLink RX2 18 "TokenFloor$Graph" "ports" "[I" : Cond) ∈ lw_U := List.mem_filter.mpr ⟨lw_in1 (List.mem_of_getElem? (i := 39) (by decide +kernel)), by decide +kernel⟩
theorem mw_34 : (.methodLink RX3 11 yX3_exists : Cond) ∈ lw_U := List.mem_filter.mpr ⟨lw_in2 (List.mem_of_getElem? (i := 59) (by decide +kernel)), by decide +kernel⟩
theorem mw_35 : (.code yX3_exists cX3_exists 1 (some .boolean) : Cond) ∈ lw_U := List.mem_filter.mpr ⟨lw_in2 (List.mem_of_getElem? (i := 49) (by decide +kernel)), by decide +kernel⟩
theorem mw_36 : (.initialized RX3 : Cond) ∈ lw_U := List.mem_filter.mpr ⟨lw_in1 (List.mem_of_getElem? (i := 10) (by decide +kernel)), by decide +kernel⟩
theorem mw_37 : (.static yX3_exists : Cond) ∈ lw_U := List.mem_filter.mpr ⟨lw_in2 (List.mem_of_getElem? (i := 48) (by decide +kernel)), by decide +kernel⟩
theorem mw_38 : (.fieldLink RX3 15 "TokenFloor$Kind" "PORTS" "[I" : Cond) ∈ lw_U := List.mem_filter.mpr ⟨lw_in2 (List.mem_of_getElem? (i := 60) (by decide +kernel)), by decide +kernel⟩
theorem mw_39 : (.fieldLink RX2 9 "TokenFloor$Graph" "kind" "[I" : Cond) ∈ lw_U := List.mem_filter.mpr ⟨lw_in1 (List.mem_of_getElem? (i := 33) (by decide +kernel)), by decide +kernel⟩
theorem mw_40 : (.fieldLink RX2 15 "TokenFloor$Graph" "number" "[I" : Cond) ∈ lw_U := List.mem_filter.mpr ⟨lw_in1 (List.mem_of_getElem? (i := 36) (by decide +kernel)), by decide +kernel⟩
theorem mw_41 : (.methodLink RX2 74 yX3_portsOf : Cond) ∈ lw_U := List.mem_filter.mpr ⟨lw_in2 (List.mem_of_getElem? (i := 56) (by decide +kernel)), by decide +kernel⟩
theorem mw_42 : (.code yX3_portsOf cX3_portsOf 2 (some .int) : Cond) ∈ lw_U := List.mem_filter.mpr ⟨lw_in2 (List.mem_of_getElem? (i := 58) (by decide +kernel)), by decide +kernel⟩
theorem mw_43 : (.static yX3_portsOf : Cond) ∈ lw_U := List.mem_filter.mpr ⟨lw_in2 (List.mem_of_getElem? (i := 57) (by decide +kernel)), by decide +kernel⟩
theorem mw_44 : (.fieldLink RX2 21 "TokenFloor$Graph" "parameter" "[I" : Cond) ∈ lw_U := List.mem_filter.mpr ⟨lw_in1 (List.mem_of_getElem? (i := 42) (by decide +kernel)), by decide +kernel⟩
theorem mw_45 : (.methodLink RX2 62 yX3_exists : Cond) ∈ lw_U := List.mem_filter.mpr ⟨lw_in2 (List.mem_of_getElem? (i := 47) (by decide +kernel)), by decide +kernel⟩
theorem mw_46 : (.methodLink RX2 67 yX3_allowsNumber : Cond) ∈ lw_U := List.mem_filter.mpr ⟨lw_in2 (List.mem_of_getElem? (i := 50) (by decide +kernel)), by decide +kernel⟩
theorem mw_47 : (.code yX3_allowsNumber cX3_allowsNumber 2 (some .boolean) : Cond) ∈ lw_U := List.mem_filter.mpr ⟨lw_in2 (List.mem_of_getElem? (i := 52) (by decide +kernel)), by decide +kernel⟩
theorem mw_48 : (.static yX3_allowsNumber : Cond) ∈ lw_U := List.mem_filter.mpr ⟨lw_in2 (List.mem_of_getElem? (i := 51) (by decide +kernel)), by decide +kernel⟩
theorem mw_49 : (.methodLink RX2 71 yX3_allowsPorts : Cond) ∈ lw_U := List.mem_filter.mpr ⟨lw_in2 (List.mem_of_getElem? (i := 53) (by decide +kernel)), by decide +kernel⟩
theorem mw_50 : (.code yX3_allowsPorts cX3_allowsPorts 2 (some .boolean) : Cond) ∈ lw_U := List.mem_filter.mpr ⟨lw_in2 (List.mem_of_getElem? (i := 55) (by decide +kernel)), by decide +kernel⟩
theorem mw_51 : (.static yX3_allowsPorts : Cond) ∈ lw_U := List.mem_filter.mpr ⟨lw_in2 (List.mem_of_getElem? (i := 54) (by decide +kernel)), by decide +kernel⟩
theorem mw_52 : (.methodLink RX2 78 yX3_hasSide : Cond) ∈ lw_U := List.mem_filter.mpr ⟨lw_in2 (List.mem_of_getElem? (i := 74) (by decide +kernel)), by decide +kernel⟩
theorem mw_53 : (.code yX3_hasSide cX3_hasSide 2 (some .boolean) : Cond) ∈ lw_U := List.mem_filter.mpr ⟨lw_in2 (List.mem_of_getElem? (i := 76) (by decide +kernel)), by decide +kernel⟩
theorem mw_54 : (.static yX3_hasSide : Cond) ∈ lw_U := List.mem_filter.mpr ⟨lw_in2 (List.mem_of_getElem? (i := 75) (by decide +kernel)), by decide +kernel⟩
theorem mw_55 : (.methodLink RX2 81 yX2_hasPort : Cond) ∈ lw_U := List.mem_filter.mpr ⟨lw_in2 (List.mem_of_getElem? (i := 77) (by decide +kernel)), by decide +kernel⟩
theorem mw_56 : (.code yX2_hasPort cX2_hasPort 3 (some .boolean) : Cond) ∈ lw_U := List.mem_filter.mpr ⟨lw_in2 (List.mem_of_getElem? (i := 80) (by decide +kernel)), by decide +kernel⟩
theorem mw_57 : (.instanceMethod yX2_hasPort : Cond) ∈ lw_U := List.mem_filter.mpr ⟨lw_in2 (List.mem_of_getElem? (i := 78) (by decide +kernel)), by decide +kernel⟩
theorem mw_58 : (.selects RX2 yX2_hasPort yX2_hasPort : Cond) ∈ lw_U := List.mem_filter.mpr ⟨lw_in2 (List.mem_of_getElem? (i := 79) (by decide +kernel)), by decide +kernel⟩
theorem mw_59 : (.fieldLink RX2 84 "TokenFloor$Graph" "ways" "I" : Cond) ∈ lw_U := List.mem_filter.mpr ⟨lw_in1 (List.mem_of_getElem? (i := 43) (by decide +kernel)), by decide +kernel⟩
theorem mw_60 : (.fieldLink RX2 24 "TokenFloor$Graph" "wayTo" "[I" : Cond) ∈ lw_U := List.mem_filter.mpr ⟨lw_in1 (List.mem_of_getElem? (i := 44) (by decide +kernel)), by decide +kernel⟩
theorem mw_61 : (.fieldLink RX2 27 "TokenFloor$Graph" "wayPort" "[I" : Cond) ∈ lw_U := List.mem_filter.mpr ⟨lw_in1 (List.mem_of_getElem? (i := 46) (by decide +kernel)), by decide +kernel⟩
theorem mw_62 : (.fieldLink RX2 30 "TokenFloor$Graph" "nextWay" "[I" : Cond) ∈ lw_U := List.mem_filter.mpr ⟨lw_in1 (List.mem_of_getElem? (i := 48) (by decide +kernel)), by decide +kernel⟩
theorem mw_63 : (.fieldLink RX2 36 "TokenFloor$Graph" "lastWay" "[I" : Cond) ∈ lw_U := List.mem_filter.mpr ⟨lw_in1 (List.mem_of_getElem? (i := 51) (by decide +kernel)), by decide +kernel⟩
theorem mw_64 : (.fieldLink RX2 33 "TokenFloor$Graph" "firstWay" "[I" : Cond) ∈ lw_U := List.mem_filter.mpr ⟨lw_in1 (List.mem_of_getElem? (i := 50) (by decide +kernel)), by decide +kernel⟩
theorem mw_65 : (.fieldLink RX2 87 "TokenFloor$Graph" "tokens" "I" : Cond) ∈ lw_U := List.mem_filter.mpr ⟨lw_in1 (List.mem_of_getElem? (i := 52) (by decide +kernel)), by decide +kernel⟩
theorem mw_66 : (.fieldLink RX2 39 "TokenFloor$Graph" "tokenAct" "[I" : Cond) ∈ lw_U := List.mem_filter.mpr ⟨lw_in1 (List.mem_of_getElem? (i := 54) (by decide +kernel)), by decide +kernel⟩
theorem mw_67 : (.fieldLink RX2 42 "TokenFloor$Graph" "tokenPort" "[I" : Cond) ∈ lw_U := List.mem_filter.mpr ⟨lw_in1 (List.mem_of_getElem? (i := 56) (by decide +kernel)), by decide +kernel⟩
theorem mw_68 : (.fieldLink RX2 45 "TokenFloor$Graph" "tokenValue" "[I" : Cond) ∈ lw_U := List.mem_filter.mpr ⟨lw_in1 (List.mem_of_getElem? (i := 58) (by decide +kernel)), by decide +kernel⟩
theorem mw_69 : (.methodLink RX2 48 yJ7_fill_53178 : Cond) ∈ lw_U := List.mem_filter.mpr ⟨lw_in1 (List.mem_of_getElem? (i := 29) (by decide +kernel)), by decide +kernel⟩
theorem mw_70 : (.methodLink RX2 90 yX2_firstWayOf : Cond) ∈ lw_U := List.mem_filter.mpr ⟨lw_in3 (List.mem_of_getElem? (i := 159) (by decide +kernel)), by decide +kernel⟩
theorem mw_71 : (.code yX2_firstWayOf cX2_firstWayOf 3 (some .int) : Cond) ∈ lw_U := List.mem_filter.mpr ⟨lw_in2 (List.mem_of_getElem? (i := 221) (by decide +kernel)), by decide +kernel⟩
theorem mw_72 : (.instanceMethod yX2_firstWayOf : Cond) ∈ lw_U := List.mem_filter.mpr ⟨lw_in2 (List.mem_of_getElem? (i := 219) (by decide +kernel)), by decide +kernel⟩
theorem mw_73 : (.selects RX2 yX2_firstWayOf yX2_firstWayOf : Cond) ∈ lw_U := List.mem_filter.mpr ⟨lw_in2 (List.mem_of_getElem? (i := 220) (by decide +kernel)), by decide +kernel⟩
theorem mw_74 : (.fieldLink RX5 15 "TokenFloor$ReadyRow" "head" "I" : Cond) ∈ lw_U := List.mem_filter.mpr ⟨lw_in1 (List.mem_of_getElem? (i := 208) (by decide +kernel)), by decide +kernel⟩
theorem mw_75 : (.fieldLink RX5 19 "TokenFloor$ReadyRow" "tail" "I" : Cond) ∈ lw_U := List.mem_filter.mpr ⟨lw_in1 (List.mem_of_getElem? (i := 209) (by decide +kernel)), by decide +kernel⟩
theorem mw_76 : (.fieldLink RX6 34 "TokenFloor$Store" "waiting" "I" : Cond) ∈ lw_U := List.mem_filter.mpr ⟨lw_in1 (List.mem_of_getElem? (i := 104) (by decide +kernel)), by decide +kernel⟩
theorem mw_77 : (.fieldLink RX6 38 "TokenFloor$Store" "rows" "I" : Cond) ∈ lw_U := List.mem_filter.mpr ⟨lw_in1 (List.mem_of_getElem? (i := 112) (by decide +kernel)), by decide +kernel⟩
theorem mw_78 : (.fieldLink RX6 41 "TokenFloor$Store" "cells" "I" : Cond) ∈ lw_U := List.mem_filter.mpr ⟨lw_in1 (List.mem_of_getElem? (i := 113) (by decide +kernel)), by decide +kernel⟩
theorem mw_79 : (.fieldLink RX6 9 "TokenFloor$Store" "rowOfAct" "[I" : Cond) ∈ lw_U := List.mem_filter.mpr ⟨lw_in1 (List.mem_of_getElem? (i := 106) (by decide +kernel)), by decide +kernel⟩
theorem mw_80 : (.methodLink RX6 44 yJ7_fill_53178 : Cond) ∈ lw_U := List.mem_filter.mpr ⟨lw_in2 (List.mem_of_getElem? (i := 141) (by decide +kernel)), by decide +kernel⟩
theorem mw_81 : (.constantLong RX8 11 4294967295 : Cond) ∈ lw_U := List.mem_filter.mpr ⟨lw_in2 (List.mem_of_getElem? (i := 150) (by decide +kernel)), by decide +kernel⟩
theorem mw_82 : (.constantLong RX8 9 1099511627776 : Cond) ∈ lw_U := List.mem_filter.mpr ⟨lw_in2 (List.mem_of_getElem? (i := 149) (by decide +kernel)), by decide +kernel⟩
theorem mw_83 : (.fieldLink RX4 78 "TokenFloor$Machine" "how" "I" : Cond) ∈ lw_U := List.mem_filter.mpr ⟨lw_in1 (List.mem_of_getElem? (i := 227) (by decide +kernel)), by decide +kernel⟩
theorem mw_84 : (.fieldLink RX4 102 "TokenFloor$Machine" "clashAct" "I" : Cond) ∈ lw_U := List.mem_filter.mpr ⟨lw_in1 (List.mem_of_getElem? (i := 233) (by decide +kernel)), by decide +kernel⟩
theorem mw_85 : (.fieldLink RX5 9 "TokenFloor$ReadyRow" "row" "[I" : Cond) ∈ lw_U := List.mem_filter.mpr ⟨lw_in1 (List.mem_of_getElem? (i := 207) (by decide +kernel)), by decide +kernel⟩
theorem mw_86 : (.fieldLink RX4 36 "TokenFloor$Machine" "floor" "LTokenFloor$Floor;" : Cond) ∈ lw_U := List.mem_filter.mpr ⟨lw_in1 (List.mem_of_getElem? (i := 225) (by decide +kernel)), by decide +kernel⟩
theorem mw_87 : (.methodLink RX4 315 yX1_hadToken : Cond) ∈ lw_U := List.mem_filter.mpr ⟨lw_in2 (List.mem_of_getElem? (i := 163) (by decide +kernel)), by decide +kernel⟩
theorem mw_88 : (.code yX1_hadToken cX1_hadToken 3 (some .boolean) : Cond) ∈ lw_U := List.mem_filter.mpr ⟨lw_in2 (List.mem_of_getElem? (i := 166) (by decide +kernel)), by decide +kernel⟩
theorem mw_89 : (.initialized RX1 : Cond) ∈ lw_U := List.mem_filter.mpr ⟨lw_in1 (List.mem_of_getElem? (i := 7) (by decide +kernel)), by decide +kernel⟩
theorem mw_90 : (.instanceMethod yX1_hadToken : Cond) ∈ lw_U := List.mem_filter.mpr ⟨lw_in2 (List.mem_of_getElem? (i := 164) (by decide +kernel)), by decide +kernel⟩
theorem mw_91 : (.selects RX1 yX1_hadToken yX1_hadToken : Cond) ∈ lw_U := List.mem_filter.mpr ⟨lw_in2 (List.mem_of_getElem? (i := 165) (by decide +kernel)), by decide +kernel⟩
theorem mw_92 : (.fieldLink RX4 47 "TokenFloor$Machine" "graph" "LTokenFloor$Graph;" : Cond) ∈ lw_U := List.mem_filter.mpr ⟨lw_in1 (List.mem_of_getElem? (i := 223) (by decide +kernel)), by decide +kernel⟩
theorem mw_93 : (.fieldLink RX4 255 "TokenFloor$Graph" "ports" "[I" : Cond) ∈ lw_U := List.mem_filter.mpr ⟨lw_in1 (List.mem_of_getElem? (i := 41) (by decide +kernel)), by decide +kernel⟩
theorem mw_94 : (.methodLink RX4 318 yX1_put : Cond) ∈ lw_U := List.mem_filter.mpr ⟨lw_in2 (List.mem_of_getElem? (i := 171) (by decide +kernel)), by decide +kernel⟩
theorem mw_95 : (.code yX1_put cX1_put 7 (some .boolean) : Cond) ∈ lw_U := List.mem_filter.mpr ⟨lw_in2 (List.mem_of_getElem? (i := 174) (by decide +kernel)), by decide +kernel⟩
theorem mw_96 : (.instanceMethod yX1_put : Cond) ∈ lw_U := List.mem_filter.mpr ⟨lw_in2 (List.mem_of_getElem? (i := 172) (by decide +kernel)), by decide +kernel⟩
theorem mw_97 : (.selects RX1 yX1_put yX1_put : Cond) ∈ lw_U := List.mem_filter.mpr ⟨lw_in2 (List.mem_of_getElem? (i := 173) (by decide +kernel)), by decide +kernel⟩
theorem mw_98 : (.fieldLink RX4 43 "TokenFloor$Machine" "ready" "LTokenFloor$ReadyRow;" : Cond) ∈ lw_U := List.mem_filter.mpr ⟨lw_in1 (List.mem_of_getElem? (i := 226) (by decide +kernel)), by decide +kernel⟩
theorem mw_99 : (.methodLink RX4 322 yX5_add : Cond) ∈ lw_U := List.mem_filter.mpr ⟨lw_in2 (List.mem_of_getElem? (i := 175) (by decide +kernel)), by decide +kernel⟩
theorem mw_100 : (.code yX5_add cX5_add 2 none : Cond) ∈ lw_U := List.mem_filter.mpr ⟨lw_in2 (List.mem_of_getElem? (i := 178) (by decide +kernel)), by decide +kernel⟩
theorem mw_101 : (.initialized RX5 : Cond) ∈ lw_U := List.mem_filter.mpr ⟨lw_in1 (List.mem_of_getElem? (i := 8) (by decide +kernel)), by decide +kernel⟩
theorem mw_102 : (.instanceMethod yX5_add : Cond) ∈ lw_U := List.mem_filter.mpr ⟨lw_in2 (List.mem_of_getElem? (i := 176) (by decide +kernel)), by decide +kernel⟩
theorem mw_103 : (.selects RX5 yX5_add yX5_add : Cond) ∈ lw_U := List.mem_filter.mpr ⟨lw_in2 (List.mem_of_getElem? (i := 177) (by decide +kernel)), by decide +kernel⟩
theorem mw_104 : (.methodLink RX4 284 yX4_clashAt : Cond) ∈ lw_U := List.mem_filter.mpr ⟨lw_in2 (List.mem_of_getElem? (i := 167) (by decide +kernel)), by decide +kernel⟩
theorem mw_105 : (.code yX4_clashAt cX4_clashAt 2 none : Cond) ∈ lw_U := List.mem_filter.mpr ⟨lw_in2 (List.mem_of_getElem? (i := 170) (by decide +kernel)), by decide +kernel⟩
theorem mw_106 : (.initialized RX4 : Cond) ∈ lw_U := List.mem_filter.mpr ⟨lw_in1 (List.mem_of_getElem? (i := 4) (by decide +kernel)), by decide +kernel⟩
theorem mw_107 : (.instanceMethod yX4_clashAt : Cond) ∈ lw_U := List.mem_filter.mpr ⟨lw_in2 (List.mem_of_getElem? (i := 169) (by decide +kernel)), by decide +kernel⟩
theorem mw_108 : (.selects RX4 yX4_clashAt yX4_clashAt : Cond) ∈ lw_U := List.mem_filter.mpr ⟨List.mem_append_left _ (List.mem_of_getElem? (i := 3) (by decide +kernel)), by decide +kernel⟩
theorem mw_109 : (.methodLink RX4 309 yX1_find : Cond) ∈ lw_U := List.mem_filter.mpr ⟨lw_in2 (List.mem_of_getElem? (i := 155) (by decide +kernel)), by decide +kernel⟩
theorem mw_110 : (.code yX1_find cX1_find 5 (some .int) : Cond) ∈ lw_U := List.mem_filter.mpr ⟨lw_in2 (List.mem_of_getElem? (i := 158) (by decide +kernel)), by decide +kernel⟩
theorem mw_111 : (.instanceMethod yX1_find : Cond) ∈ lw_U := List.mem_filter.mpr ⟨lw_in2 (List.mem_of_getElem? (i := 156) (by decide +kernel)), by decide +kernel⟩
theorem mw_112 : (.selects RX1 yX1_find yX1_find : Cond) ∈ lw_U := List.mem_filter.mpr ⟨lw_in2 (List.mem_of_getElem? (i := 157) (by decide +kernel)), by decide +kernel⟩
theorem mw_113 : (.methodLink RX4 312 yX1_add : Cond) ∈ lw_U := List.mem_filter.mpr ⟨lw_in2 (List.mem_of_getElem? (i := 159) (by decide +kernel)), by decide +kernel⟩
theorem mw_114 : (.code yX1_add cX1_add 4 (some .int) : Cond) ∈ lw_U := List.mem_filter.mpr ⟨lw_in2 (List.mem_of_getElem? (i := 162) (by decide +kernel)), by decide +kernel⟩
theorem mw_115 : (.instanceMethod yX1_add : Cond) ∈ lw_U := List.mem_filter.mpr ⟨lw_in2 (List.mem_of_getElem? (i := 160) (by decide +kernel)), by decide +kernel⟩
theorem mw_116 : (.selects RX1 yX1_add yX1_add : Cond) ∈ lw_U := List.mem_filter.mpr ⟨lw_in2 (List.mem_of_getElem? (i := 161) (by decide +kernel)), by decide +kernel⟩
theorem mw_117 : (.fieldLink RX4 143 "TokenFloor$Graph" "tokens" "I" : Cond) ∈ lw_U := List.mem_filter.mpr ⟨lw_in1 (List.mem_of_getElem? (i := 53) (by decide +kernel)), by decide +kernel⟩
theorem mw_118 : (.fieldLink RX4 148 "TokenFloor$Graph" "tokenValue" "[I" : Cond) ∈ lw_U := List.mem_filter.mpr ⟨lw_in1 (List.mem_of_getElem? (i := 59) (by decide +kernel)), by decide +kernel⟩
theorem mw_119 : (.methodLink RX4 151 yX8_ofNumber : Cond) ∈ lw_U := List.mem_filter.mpr ⟨lw_in2 (List.mem_of_getElem? (i := 146) (by decide +kernel)), by decide +kernel⟩
theorem mw_120 : (.code yX8_ofNumber cX8_ofNumber 1 (some .long) : Cond) ∈ lw_U := List.mem_filter.mpr ⟨lw_in2 (List.mem_of_getElem? (i := 148) (by decide +kernel)), by decide +kernel⟩
theorem mw_121 : (.initialized RX8 : Cond) ∈ lw_U := List.mem_filter.mpr ⟨lw_in1 (List.mem_of_getElem? (i := 11) (by decide +kernel)), by decide +kernel⟩
theorem mw_122 : (.static yX8_ofNumber : Cond) ∈ lw_U := List.mem_filter.mpr ⟨lw_in2 (List.mem_of_getElem? (i := 147) (by decide +kernel)), by decide +kernel⟩
theorem mw_123 : (.fieldLink RX4 154 "TokenFloor$Graph" "tokenAct" "[I" : Cond) ∈ lw_U := List.mem_filter.mpr ⟨lw_in1 (List.mem_of_getElem? (i := 55) (by decide +kernel)), by decide +kernel⟩
theorem mw_124 : (.fieldLink RX4 157 "TokenFloor$Graph" "tokenPort" "[I" : Cond) ∈ lw_U := List.mem_filter.mpr ⟨lw_in1 (List.mem_of_getElem? (i := 57) (by decide +kernel)), by decide +kernel⟩
theorem mw_125 : (.methodLink RX4 160 yX4_arrive : Cond) ∈ lw_U := List.mem_filter.mpr ⟨lw_in2 (List.mem_of_getElem? (i := 151) (by decide +kernel)), by decide +kernel⟩
theorem mw_126 : (.code yX4_arrive cX4_arrive 7 none : Cond) ∈ lw_U := List.mem_filter.mpr ⟨lw_in2 (List.mem_of_getElem? (i := 154) (by decide +kernel)), by decide +kernel⟩
theorem mw_127 : (.instanceMethod yX4_arrive : Cond) ∈ lw_U := List.mem_filter.mpr ⟨lw_in2 (List.mem_of_getElem? (i := 153) (by decide +kernel)), by decide +kernel⟩
theorem mw_128 : (.selects RX4 yX4_arrive yX4_arrive : Cond) ∈ lw_U := List.mem_filter.mpr ⟨List.mem_append_left _ (List.mem_of_getElem? (i := 2) (by decide +kernel)), by decide +kernel⟩
theorem mw_129 : (.fieldLink RX4 29 "TokenFloor$Machine" "colours" "LTokenFloor$Colours;" : Cond) ∈ lw_U := List.mem_filter.mpr ⟨lw_in1 (List.mem_of_getElem? (i := 224) (by decide +kernel)), by decide +kernel⟩
theorem mw_130 : (.methodLink RX4 128 yX0_reset : Cond) ∈ lw_U := List.mem_filter.mpr ⟨lw_in2 (List.mem_of_getElem? (i := 120) (by decide +kernel)), by decide +kernel⟩
theorem mw_131 : (.code yX0_reset cX0_reset 1 none : Cond) ∈ lw_U := List.mem_filter.mpr ⟨lw_in2 (List.mem_of_getElem? (i := 123) (by decide +kernel)), by decide +kernel⟩
theorem mw_132 : (.instanceMethod yX0_reset : Cond) ∈ lw_U := List.mem_filter.mpr ⟨lw_in2 (List.mem_of_getElem? (i := 121) (by decide +kernel)), by decide +kernel⟩
theorem mw_133 : (.selects RX0 yX0_reset yX0_reset : Cond) ∈ lw_U := List.mem_filter.mpr ⟨lw_in2 (List.mem_of_getElem? (i := 122) (by decide +kernel)), by decide +kernel⟩
theorem mw_134 : (.methodLink RX4 131 yX1_reset : Cond) ∈ lw_U := List.mem_filter.mpr ⟨lw_in2 (List.mem_of_getElem? (i := 128) (by decide +kernel)), by decide +kernel⟩
theorem mw_135 : (.code yX1_reset cX1_reset 1 none : Cond) ∈ lw_U := List.mem_filter.mpr ⟨lw_in2 (List.mem_of_getElem? (i := 131) (by decide +kernel)), by decide +kernel⟩
theorem mw_136 : (.instanceMethod yX1_reset : Cond) ∈ lw_U := List.mem_filter.mpr ⟨lw_in2 (List.mem_of_getElem? (i := 129) (by decide +kernel)), by decide +kernel⟩
theorem mw_137 : (.selects RX1 yX1_reset yX1_reset : Cond) ∈ lw_U := List.mem_filter.mpr ⟨lw_in2 (List.mem_of_getElem? (i := 130) (by decide +kernel)), by decide +kernel⟩
theorem mw_138 : (.methodLink RX4 132 yX5_reset : Cond) ∈ lw_U := List.mem_filter.mpr ⟨lw_in2 (List.mem_of_getElem? (i := 133) (by decide +kernel)), by decide +kernel⟩
theorem mw_139 : (.code yX5_reset cX5_reset 1 none : Cond) ∈ lw_U := List.mem_filter.mpr ⟨lw_in2 (List.mem_of_getElem? (i := 136) (by decide +kernel)), by decide +kernel⟩
theorem mw_140 : (.instanceMethod yX5_reset : Cond) ∈ lw_U := List.mem_filter.mpr ⟨lw_in2 (List.mem_of_getElem? (i := 134) (by decide +kernel)), by decide +kernel⟩
theorem mw_141 : (.selects RX5 yX5_reset yX5_reset : Cond) ∈ lw_U := List.mem_filter.mpr ⟨lw_in2 (List.mem_of_getElem? (i := 135) (by decide +kernel)), by decide +kernel⟩
theorem mw_142 : (.fieldLink RX4 12 "TokenFloor$Machine" "store" "LTokenFloor$Store;" : Cond) ∈ lw_U := List.mem_filter.mpr ⟨lw_in1 (List.mem_of_getElem? (i := 217) (by decide +kernel)), by decide +kernel⟩
theorem mw_143 : (.methodLink RX4 133 yX6_reset : Cond) ∈ lw_U := List.mem_filter.mpr ⟨lw_in2 (List.mem_of_getElem? (i := 137) (by decide +kernel)), by decide +kernel⟩
theorem mw_144 : (.code yX6_reset cX6_reset 1 none : Cond) ∈ lw_U := List.mem_filter.mpr ⟨lw_in2 (List.mem_of_getElem? (i := 140) (by decide +kernel)), by decide +kernel⟩
theorem mw_145 : (.initialized RX6 : Cond) ∈ lw_U := List.mem_filter.mpr ⟨lw_in1 (List.mem_of_getElem? (i := 5) (by decide +kernel)), by decide +kernel⟩
theorem mw_146 : (.instanceMethod yX6_reset : Cond) ∈ lw_U := List.mem_filter.mpr ⟨lw_in2 (List.mem_of_getElem? (i := 138) (by decide +kernel)), by decide +kernel⟩
theorem mw_147 : (.selects RX6 yX6_reset yX6_reset : Cond) ∈ lw_U := List.mem_filter.mpr ⟨lw_in2 (List.mem_of_getElem? (i := 139) (by decide +kernel)), by decide +kernel⟩
theorem mw_148 : (.fieldLink RX4 18 "TokenFloor$Machine" "firings" "[I" : Cond) ∈ lw_U := List.mem_filter.mpr ⟨lw_in1 (List.mem_of_getElem? (i := 219) (by decide +kernel)), by decide +kernel⟩
theorem mw_149 : (.fieldLink RX4 22 "TokenFloor$Machine" "ends" "[J" : Cond) ∈ lw_U := List.mem_filter.mpr ⟨lw_in1 (List.mem_of_getElem? (i := 221) (by decide +kernel)), by decide +kernel⟩
theorem mw_150 : (.fieldLink RX4 71 "TokenFloor$Machine" "steps" "I" : Cond) ∈ lw_U := List.mem_filter.mpr ⟨lw_in1 (List.mem_of_getElem? (i := 228) (by decide +kernel)), by decide +kernel⟩
theorem mw_151 : (.fieldLink RX4 84 "TokenFloor$Machine" "tickCount" "I" : Cond) ∈ lw_U := List.mem_filter.mpr ⟨lw_in1 (List.mem_of_getElem? (i := 229) (by decide +kernel)), by decide +kernel⟩
theorem mw_152 : (.fieldLink RX4 75 "TokenFloor$Machine" "most" "I" : Cond) ∈ lw_U := List.mem_filter.mpr ⟨lw_in1 (List.mem_of_getElem? (i := 230) (by decide +kernel)), by decide +kernel⟩
theorem mw_153 : (.fieldLink RX4 93 "TokenFloor$Machine" "lost" "I" : Cond) ∈ lw_U := List.mem_filter.mpr ⟨lw_in1 (List.mem_of_getElem? (i := 231) (by decide +kernel)), by decide +kernel⟩
theorem mw_154 : (.fieldLink RX4 96 "TokenFloor$Machine" "strays" "I" : Cond) ∈ lw_U := List.mem_filter.mpr ⟨lw_in1 (List.mem_of_getElem? (i := 232) (by decide +kernel)), by decide +kernel⟩
theorem mw_155 : (.methodLink RX4 140 yJ7_fill_d0a16 : Cond) ∈ lw_U := List.mem_filter.mpr ⟨lw_in2 (List.mem_of_getElem? (i := 143) (by decide +kernel)), by decide +kernel⟩
theorem mw_156 : (.code yJ7_fill_d0a16 cJ7_fill_d0a16 5 none : Cond) ∈ lw_U := List.mem_filter.mpr ⟨lw_in2 (List.mem_of_getElem? (i := 145) (by decide +kernel)), by decide +kernel⟩
theorem mw_157 : (.static yJ7_fill_d0a16 : Cond) ∈ lw_U := List.mem_filter.mpr ⟨lw_in2 (List.mem_of_getElem? (i := 144) (by decide +kernel)), by decide +kernel⟩
theorem mw_158 : (.methodLink RX4 134 yJ7_fill_53178 : Cond) ∈ lw_U := List.mem_filter.mpr ⟨lw_in2 (List.mem_of_getElem? (i := 142) (by decide +kernel)), by decide +kernel⟩
theorem mw_159 : (.methodLink RX4 59 yX5_size : Cond) ∈ lw_U := List.mem_filter.mpr ⟨lw_in2 (List.mem_of_getElem? (i := 183) (by decide +kernel)), by decide +kernel⟩
theorem mw_160 : (.code yX5_size cX5_size 1 (some .int) : Cond) ∈ lw_U := List.mem_filter.mpr ⟨lw_in2 (List.mem_of_getElem? (i := 186) (by decide +kernel)), by decide +kernel⟩
theorem mw_161 : (.instanceMethod yX5_size : Cond) ∈ lw_U := List.mem_filter.mpr ⟨lw_in2 (List.mem_of_getElem? (i := 184) (by decide +kernel)), by decide +kernel⟩
theorem mw_162 : (.selects RX5 yX5_size yX5_size : Cond) ∈ lw_U := List.mem_filter.mpr ⟨lw_in2 (List.mem_of_getElem? (i := 185) (by decide +kernel)), by decide +kernel⟩
theorem mw_163 : (.methodLink RX5 22 yX5_size : Cond) ∈ lw_U := List.mem_filter.mpr ⟨lw_in2 (List.mem_of_getElem? (i := 192) (by decide +kernel)), by decide +kernel⟩
theorem mw_164 : (.methodLink RX5 26 arraycopyName : Cond) ∈ lw_U := List.mem_filter.mpr ⟨lw_in2 (List.mem_of_getElem? (i := 193) (by decide +kernel)), by decide +kernel⟩
theorem mw_165 : (.native arraycopyName : Cond) ∈ lw_U := List.mem_filter.mpr ⟨lw_in2 (List.mem_of_getElem? (i := 195) (by decide +kernel)), by decide +kernel⟩
theorem mw_166 : (.static arraycopyName : Cond) ∈ lw_U := List.mem_filter.mpr ⟨lw_in2 (List.mem_of_getElem? (i := 194) (by decide +kernel)), by decide +kernel⟩
theorem mw_167 : (.initialized "java/lang/System" : Cond) ∈ lw_U := List.mem_filter.mpr ⟨lw_in1 (List.mem_of_getElem? (i := 12) (by decide +kernel)), by decide +kernel⟩
theorem mw_168 : (.fieldLink RX4 300 "TokenFloor$Graph" "wayTo" "[I" : Cond) ∈ lw_U := List.mem_filter.mpr ⟨lw_in1 (List.mem_of_getElem? (i := 45) (by decide +kernel)), by decide +kernel⟩
theorem mw_169 : (.fieldLink RX4 303 "TokenFloor$Graph" "wayPort" "[I" : Cond) ∈ lw_U := List.mem_filter.mpr ⟨lw_in1 (List.mem_of_getElem? (i := 47) (by decide +kernel)), by decide +kernel⟩
theorem mw_170 : (.fieldLink RX4 306 "TokenFloor$Graph" "nextWay" "[I" : Cond) ∈ lw_U := List.mem_filter.mpr ⟨lw_in1 (List.mem_of_getElem? (i := 49) (by decide +kernel)), by decide +kernel⟩
theorem mw_171 : (.methodLink RX4 297 yX2_firstWayOf : Cond) ∈ lw_U := List.mem_filter.mpr ⟨lw_in2 (List.mem_of_getElem? (i := 218) (by decide +kernel)), by decide +kernel⟩
theorem mw_172 : (.methodLink RX4 105 yX8_sortOf : Cond) ∈ lw_U := List.mem_filter.mpr ⟨lw_in2 (List.mem_of_getElem? (i := 208) (by decide +kernel)), by decide +kernel⟩
theorem mw_173 : (.code yX8_sortOf cX8_sortOf 2 (some .int) : Cond) ∈ lw_U := List.mem_filter.mpr ⟨lw_in2 (List.mem_of_getElem? (i := 210) (by decide +kernel)), by decide +kernel⟩
theorem mw_174 : (.static yX8_sortOf : Cond) ∈ lw_U := List.mem_filter.mpr ⟨lw_in2 (List.mem_of_getElem? (i := 209) (by decide +kernel)), by decide +kernel⟩
theorem mw_175 : (.methodLink RX4 111 yX8_contentOf : Cond) ∈ lw_U := List.mem_filter.mpr ⟨lw_in2 (List.mem_of_getElem? (i := 211) (by decide +kernel)), by decide +kernel⟩
theorem mw_176 : (.code yX8_contentOf cX8_contentOf 2 (some .int) : Cond) ∈ lw_U := List.mem_filter.mpr ⟨lw_in2 (List.mem_of_getElem? (i := 213) (by decide +kernel)), by decide +kernel⟩
theorem mw_177 : (.static yX8_contentOf : Cond) ∈ lw_U := List.mem_filter.mpr ⟨lw_in2 (List.mem_of_getElem? (i := 212) (by decide +kernel)), by decide +kernel⟩
theorem mw_178 : (.methodLink RX4 192 yX4_give : Cond) ∈ lw_U := List.mem_filter.mpr ⟨lw_in2 (List.mem_of_getElem? (i := 214) (by decide +kernel)), by decide +kernel⟩
theorem mw_179 : (.code yX4_give cX4_give 8 none : Cond) ∈ lw_U := List.mem_filter.mpr ⟨lw_in2 (List.mem_of_getElem? (i := 217) (by decide +kernel)), by decide +kernel⟩
theorem mw_180 : (.instanceMethod yX4_give : Cond) ∈ lw_U := List.mem_filter.mpr ⟨lw_in2 (List.mem_of_getElem? (i := 216) (by decide +kernel)), by decide +kernel⟩
theorem mw_181 : (.selects RX4 yX4_give yX4_give : Cond) ∈ lw_U := List.mem_filter.mpr ⟨List.mem_append_left _ (List.mem_of_getElem? (i := 7) (by decide +kernel)), by decide +kernel⟩
theorem mw_182 : (.constantLong RX8 19 3298534883328 : Cond) ∈ lw_U := List.mem_filter.mpr ⟨lw_in3 (List.mem_of_getElem? (i := 1) (by decide +kernel)), by decide +kernel⟩
theorem mw_183 : (.fieldLink RX4 186 "TokenFloor$Graph" "number" "[I" : Cond) ∈ lw_U := List.mem_filter.mpr ⟨lw_in1 (List.mem_of_getElem? (i := 37) (by decide +kernel)), by decide +kernel⟩
theorem mw_184 : (.methodLink RX4 237 yX0_isTurnOf : Cond) ∈ lw_U := List.mem_filter.mpr ⟨lw_in2 (List.mem_of_getElem? (i := 234) (by decide +kernel)), by decide +kernel⟩
theorem mw_185 : (.code yX0_isTurnOf cX0_isTurnOf 3 (some .boolean) : Cond) ∈ lw_U := List.mem_filter.mpr ⟨lw_in2 (List.mem_of_getElem? (i := 237) (by decide +kernel)), by decide +kernel⟩
theorem mw_186 : (.instanceMethod yX0_isTurnOf : Cond) ∈ lw_U := List.mem_filter.mpr ⟨lw_in2 (List.mem_of_getElem? (i := 235) (by decide +kernel)), by decide +kernel⟩
theorem mw_187 : (.selects RX0 yX0_isTurnOf yX0_isTurnOf : Cond) ∈ lw_U := List.mem_filter.mpr ⟨lw_in2 (List.mem_of_getElem? (i := 236) (by decide +kernel)), by decide +kernel⟩
theorem mw_188 : (.fieldLink RX4 179 "TokenFloor$Graph" "kind" "[I" : Cond) ∈ lw_U := List.mem_filter.mpr ⟨lw_in1 (List.mem_of_getElem? (i := 34) (by decide +kernel)), by decide +kernel⟩
theorem mw_189 : (.methodLink RX4 249 yX0_outerOf : Cond) ∈ lw_U := List.mem_filter.mpr ⟨lw_in3 (List.mem_of_getElem? (i := 6) (by decide +kernel)), by decide +kernel⟩
theorem mw_190 : (.code yX0_outerOf cX0_outerOf 2 (some .int) : Cond) ∈ lw_U := List.mem_filter.mpr ⟨lw_in3 (List.mem_of_getElem? (i := 9) (by decide +kernel)), by decide +kernel⟩
theorem mw_191 : (.instanceMethod yX0_outerOf : Cond) ∈ lw_U := List.mem_filter.mpr ⟨lw_in3 (List.mem_of_getElem? (i := 7) (by decide +kernel)), by decide +kernel⟩
theorem mw_192 : (.selects RX0 yX0_outerOf yX0_outerOf : Cond) ∈ lw_U := List.mem_filter.mpr ⟨lw_in3 (List.mem_of_getElem? (i := 8) (by decide +kernel)), by decide +kernel⟩
theorem mw_193 : (.methodLink RX4 246 yX0_nextTurn : Cond) ∈ lw_U := List.mem_filter.mpr ⟨lw_in3 (List.mem_of_getElem? (i := 2) (by decide +kernel)), by decide +kernel⟩
theorem mw_194 : (.code yX0_nextTurn cX0_nextTurn 2 (some .int) : Cond) ∈ lw_U := List.mem_filter.mpr ⟨lw_in3 (List.mem_of_getElem? (i := 5) (by decide +kernel)), by decide +kernel⟩
theorem mw_195 : (.instanceMethod yX0_nextTurn : Cond) ∈ lw_U := List.mem_filter.mpr ⟨lw_in3 (List.mem_of_getElem? (i := 3) (by decide +kernel)), by decide +kernel⟩
theorem mw_196 : (.selects RX0 yX0_nextTurn yX0_nextTurn : Cond) ∈ lw_U := List.mem_filter.mpr ⟨lw_in3 (List.mem_of_getElem? (i := 4) (by decide +kernel)), by decide +kernel⟩
theorem mw_197 : (.methodLink RX4 241 yX8_ofFault : Cond) ∈ lw_U := List.mem_filter.mpr ⟨lw_in2 (List.mem_of_getElem? (i := 238) (by decide +kernel)), by decide +kernel⟩
theorem mw_198 : (.code yX8_ofFault cX8_ofFault 2 (some .long) : Cond) ∈ lw_U := List.mem_filter.mpr ⟨lw_in3 (List.mem_of_getElem? (i := 0) (by decide +kernel)), by decide +kernel⟩
theorem mw_199 : (.static yX8_ofFault : Cond) ∈ lw_U := List.mem_filter.mpr ⟨lw_in2 (List.mem_of_getElem? (i := 239) (by decide +kernel)), by decide +kernel⟩
theorem mw_200 : (.methodLink RX4 258 yX2_parameterFor : Cond) ∈ lw_U := List.mem_filter.mpr ⟨lw_in3 (List.mem_of_getElem? (i := 18) (by decide +kernel)), by decide +kernel⟩
theorem mw_201 : (.code yX2_parameterFor cX2_parameterFor 4 (some .int) : Cond) ∈ lw_U := List.mem_filter.mpr ⟨lw_in3 (List.mem_of_getElem? (i := 21) (by decide +kernel)), by decide +kernel⟩
theorem mw_202 : (.instanceMethod yX2_parameterFor : Cond) ∈ lw_U := List.mem_filter.mpr ⟨lw_in3 (List.mem_of_getElem? (i := 19) (by decide +kernel)), by decide +kernel⟩
theorem mw_203 : (.selects RX2 yX2_parameterFor yX2_parameterFor : Cond) ∈ lw_U := List.mem_filter.mpr ⟨lw_in3 (List.mem_of_getElem? (i := 20) (by decide +kernel)), by decide +kernel⟩
theorem mw_204 : (.methodLink RX4 175 yX1_cameTo : Cond) ∈ lw_U := List.mem_filter.mpr ⟨lw_in2 (List.mem_of_getElem? (i := 200) (by decide +kernel)), by decide +kernel⟩
theorem mw_205 : (.code yX1_cameTo cX1_cameTo 3 (some .long) : Cond) ∈ lw_U := List.mem_filter.mpr ⟨lw_in2 (List.mem_of_getElem? (i := 203) (by decide +kernel)), by decide +kernel⟩
theorem mw_206 : (.instanceMethod yX1_cameTo : Cond) ∈ lw_U := List.mem_filter.mpr ⟨lw_in2 (List.mem_of_getElem? (i := 201) (by decide +kernel)), by decide +kernel⟩
theorem mw_207 : (.selects RX1 yX1_cameTo yX1_cameTo : Cond) ∈ lw_U := List.mem_filter.mpr ⟨lw_in2 (List.mem_of_getElem? (i := 202) (by decide +kernel)), by decide +kernel⟩
theorem mw_208 : (.methodLink RX4 252 yX0_callBy : Cond) ∈ lw_U := List.mem_filter.mpr ⟨lw_in3 (List.mem_of_getElem? (i := 14) (by decide +kernel)), by decide +kernel⟩
theorem mw_209 : (.code yX0_callBy cX0_callBy 3 (some .int) : Cond) ∈ lw_U := List.mem_filter.mpr ⟨lw_in3 (List.mem_of_getElem? (i := 17) (by decide +kernel)), by decide +kernel⟩
theorem mw_210 : (.instanceMethod yX0_callBy : Cond) ∈ lw_U := List.mem_filter.mpr ⟨lw_in3 (List.mem_of_getElem? (i := 15) (by decide +kernel)), by decide +kernel⟩
theorem mw_211 : (.selects RX0 yX0_callBy yX0_callBy : Cond) ∈ lw_U := List.mem_filter.mpr ⟨lw_in3 (List.mem_of_getElem? (i := 16) (by decide +kernel)), by decide +kernel⟩
theorem mw_212 : (.methodLink RX4 261 yX0_callerOf : Cond) ∈ lw_U := List.mem_filter.mpr ⟨lw_in3 (List.mem_of_getElem? (i := 26) (by decide +kernel)), by decide +kernel⟩
theorem mw_213 : (.code yX0_callerOf cX0_callerOf 2 (some .int) : Cond) ∈ lw_U := List.mem_filter.mpr ⟨lw_in3 (List.mem_of_getElem? (i := 29) (by decide +kernel)), by decide +kernel⟩
theorem mw_214 : (.instanceMethod yX0_callerOf : Cond) ∈ lw_U := List.mem_filter.mpr ⟨lw_in3 (List.mem_of_getElem? (i := 27) (by decide +kernel)), by decide +kernel⟩
theorem mw_215 : (.selects RX0 yX0_callerOf yX0_callerOf : Cond) ∈ lw_U := List.mem_filter.mpr ⟨lw_in3 (List.mem_of_getElem? (i := 28) (by decide +kernel)), by decide +kernel⟩
theorem mw_216 : (.methodLink RX8 21 yX8_sortOf : Cond) ∈ lw_U := List.mem_filter.mpr ⟨lw_in3 (List.mem_of_getElem? (i := 37) (by decide +kernel)), by decide +kernel⟩
theorem mw_217 : (.methodLink RX8 25 yX8_ofFault : Cond) ∈ lw_U := List.mem_filter.mpr ⟨lw_in3 (List.mem_of_getElem? (i := 38) (by decide +kernel)), by decide +kernel⟩
theorem mw_218 : (.fieldLink RX6 15 "TokenFloor$Store" "written" "[J" : Cond) ∈ lw_U := List.mem_filter.mpr ⟨lw_in1 (List.mem_of_getElem? (i := 109) (by decide +kernel)), by decide +kernel⟩
theorem mw_219 : (.fieldLink RX6 25 "TokenFloor$Store" "firstReader" "[I" : Cond) ∈ lw_U := List.mem_filter.mpr ⟨lw_in1 (List.mem_of_getElem? (i := 116) (by decide +kernel)), by decide +kernel⟩
theorem mw_220 : (.fieldLink RX6 28 "TokenFloor$Store" "lastReader" "[I" : Cond) ∈ lw_U := List.mem_filter.mpr ⟨lw_in1 (List.mem_of_getElem? (i := 117) (by decide +kernel)), by decide +kernel⟩
theorem mw_221 : (.fieldLink RX6 19 "TokenFloor$Store" "start" "[I" : Cond) ∈ lw_U := List.mem_filter.mpr ⟨lw_in1 (List.mem_of_getElem? (i := 114) (by decide +kernel)), by decide +kernel⟩
theorem mw_222 : (.fieldLink RX6 22 "TokenFloor$Store" "size" "[I" : Cond) ∈ lw_U := List.mem_filter.mpr ⟨lw_in1 (List.mem_of_getElem? (i := 115) (by decide +kernel)), by decide +kernel⟩
theorem mw_223 : (.constantLong RX8 17 2199023255552 : Cond) ∈ lw_U := List.mem_filter.mpr ⟨lw_in3 (List.mem_of_getElem? (i := 46) (by decide +kernel)), by decide +kernel⟩
theorem mw_224 : (.methodLink RX4 264 yX6_make : Cond) ∈ lw_U := List.mem_filter.mpr ⟨lw_in3 (List.mem_of_getElem? (i := 39) (by decide +kernel)), by decide +kernel⟩
theorem mw_225 : (.code yX6_make cX6_make 4 (some .int) : Cond) ∈ lw_U := List.mem_filter.mpr ⟨lw_in3 (List.mem_of_getElem? (i := 42) (by decide +kernel)), by decide +kernel⟩
theorem mw_226 : (.instanceMethod yX6_make : Cond) ∈ lw_U := List.mem_filter.mpr ⟨lw_in3 (List.mem_of_getElem? (i := 40) (by decide +kernel)), by decide +kernel⟩
theorem mw_227 : (.selects RX6 yX6_make yX6_make : Cond) ∈ lw_U := List.mem_filter.mpr ⟨lw_in3 (List.mem_of_getElem? (i := 41) (by decide +kernel)), by decide +kernel⟩
theorem mw_228 : (.methodLink RX4 124 yX8_ofRow : Cond) ∈ lw_U := List.mem_filter.mpr ⟨lw_in3 (List.mem_of_getElem? (i := 43) (by decide +kernel)), by decide +kernel⟩
theorem mw_229 : (.code yX8_ofRow cX8_ofRow 1 (some .long) : Cond) ∈ lw_U := List.mem_filter.mpr ⟨lw_in3 (List.mem_of_getElem? (i := 45) (by decide +kernel)), by decide +kernel⟩
theorem mw_230 : (.static yX8_ofRow : Cond) ∈ lw_U := List.mem_filter.mpr ⟨lw_in3 (List.mem_of_getElem? (i := 44) (by decide +kernel)), by decide +kernel⟩
theorem mw_231 : (.fieldLink RX4 267 "TokenFloor$Store" "rowOfAct" "[I" : Cond) ∈ lw_U := List.mem_filter.mpr ⟨lw_in1 (List.mem_of_getElem? (i := 108) (by decide +kernel)), by decide +kernel⟩
theorem mw_232 : (.methodLink RX4 229 yX8_refuse : Cond) ∈ lw_U := List.mem_filter.mpr ⟨lw_in3 (List.mem_of_getElem? (i := 34) (by decide +kernel)), by decide +kernel⟩
theorem mw_233 : (.code yX8_refuse cX8_refuse 5 (some .long) : Cond) ∈ lw_U := List.mem_filter.mpr ⟨lw_in3 (List.mem_of_getElem? (i := 36) (by decide +kernel)), by decide +kernel⟩
theorem mw_234 : (.static yX8_refuse : Cond) ∈ lw_U := List.mem_filter.mpr ⟨lw_in3 (List.mem_of_getElem? (i := 35) (by decide +kernel)), by decide +kernel⟩
theorem mw_235 : (.methodLink RX6 52 yX6_sizeOf : Cond) ∈ lw_U := List.mem_filter.mpr ⟨lw_in3 (List.mem_of_getElem? (i := 59) (by decide +kernel)), by decide +kernel⟩
theorem mw_236 : (.code yX6_sizeOf cX6_sizeOf 2 (some .int) : Cond) ∈ lw_U := List.mem_filter.mpr ⟨lw_in3 (List.mem_of_getElem? (i := 62) (by decide +kernel)), by decide +kernel⟩
theorem mw_237 : (.instanceMethod yX6_sizeOf : Cond) ∈ lw_U := List.mem_filter.mpr ⟨lw_in3 (List.mem_of_getElem? (i := 60) (by decide +kernel)), by decide +kernel⟩
theorem mw_238 : (.selects RX6 yX6_sizeOf yX6_sizeOf : Cond) ∈ lw_U := List.mem_filter.mpr ⟨lw_in3 (List.mem_of_getElem? (i := 61) (by decide +kernel)), by decide +kernel⟩
theorem mw_239 : (.methodLink RX4 294 yX6_placeIn : Cond) ∈ lw_U := List.mem_filter.mpr ⟨lw_in3 (List.mem_of_getElem? (i := 55) (by decide +kernel)), by decide +kernel⟩
theorem mw_240 : (.code yX6_placeIn cX6_placeIn 3 (some .int) : Cond) ∈ lw_U := List.mem_filter.mpr ⟨lw_in3 (List.mem_of_getElem? (i := 58) (by decide +kernel)), by decide +kernel⟩
theorem mw_241 : (.instanceMethod yX6_placeIn : Cond) ∈ lw_U := List.mem_filter.mpr ⟨lw_in3 (List.mem_of_getElem? (i := 56) (by decide +kernel)), by decide +kernel⟩
theorem mw_242 : (.selects RX6 yX6_placeIn yX6_placeIn : Cond) ∈ lw_U := List.mem_filter.mpr ⟨lw_in3 (List.mem_of_getElem? (i := 57) (by decide +kernel)), by decide +kernel⟩
theorem mw_243 : (.methodLink RX4 290 yX8_refuseTwo : Cond) ∈ lw_U := List.mem_filter.mpr ⟨lw_in3 (List.mem_of_getElem? (i := 67) (by decide +kernel)), by decide +kernel⟩
theorem mw_244 : (.code yX8_refuseTwo cX8_refuseTwo 8 (some .long) : Cond) ∈ lw_U := List.mem_filter.mpr ⟨lw_in3 (List.mem_of_getElem? (i := 69) (by decide +kernel)), by decide +kernel⟩
theorem mw_245 : (.static yX8_refuseTwo : Cond) ∈ lw_U := List.mem_filter.mpr ⟨lw_in3 (List.mem_of_getElem? (i := 68) (by decide +kernel)), by decide +kernel⟩
theorem mw_246 : (.fieldLink RX6 31 "TokenFloor$Store" "nextReader" "[I" : Cond) ∈ lw_U := List.mem_filter.mpr ⟨lw_in1 (List.mem_of_getElem? (i := 118) (by decide +kernel)), by decide +kernel⟩
theorem mw_247 : (.methodLink RX4 270 yX4_placeAsked : Cond) ∈ lw_U := List.mem_filter.mpr ⟨lw_in3 (List.mem_of_getElem? (i := 51) (by decide +kernel)), by decide +kernel⟩
theorem mw_248 : (.code yX4_placeAsked cX4_placeAsked 3 (some .int) : Cond) ∈ lw_U := List.mem_filter.mpr ⟨lw_in3 (List.mem_of_getElem? (i := 54) (by decide +kernel)), by decide +kernel⟩
theorem mw_249 : (.instanceMethod yX4_placeAsked : Cond) ∈ lw_U := List.mem_filter.mpr ⟨lw_in3 (List.mem_of_getElem? (i := 53) (by decide +kernel)), by decide +kernel⟩
theorem mw_250 : (.selects RX4 yX4_placeAsked yX4_placeAsked : Cond) ∈ lw_U := List.mem_filter.mpr ⟨List.mem_append_left _ (List.mem_of_getElem? (i := 14) (by decide +kernel)), by decide +kernel⟩
theorem mw_251 : (.methodLink RX4 273 yX4_refuseCell : Cond) ∈ lw_U := List.mem_filter.mpr ⟨lw_in3 (List.mem_of_getElem? (i := 63) (by decide +kernel)), by decide +kernel⟩
theorem mw_252 : (.code yX4_refuseCell cX4_refuseCell 10 (some .long) : Cond) ∈ lw_U := List.mem_filter.mpr ⟨lw_in3 (List.mem_of_getElem? (i := 66) (by decide +kernel)), by decide +kernel⟩
theorem mw_253 : (.instanceMethod yX4_refuseCell : Cond) ∈ lw_U := List.mem_filter.mpr ⟨lw_in3 (List.mem_of_getElem? (i := 65) (by decide +kernel)), by decide +kernel⟩
theorem mw_254 : (.selects RX4 yX4_refuseCell yX4_refuseCell : Cond) ∈ lw_U := List.mem_filter.mpr ⟨List.mem_append_left _ (List.mem_of_getElem? (i := 15) (by decide +kernel)), by decide +kernel⟩
theorem mw_255 : (.fieldLink RX4 277 "TokenFloor$Store" "written" "[J" : Cond) ∈ lw_U := List.mem_filter.mpr ⟨lw_in1 (List.mem_of_getElem? (i := 111) (by decide +kernel)), by decide +kernel⟩
theorem mw_256 : (.methodLink RX4 280 yX6_addReader : Cond) ∈ lw_U := List.mem_filter.mpr ⟨lw_in3 (List.mem_of_getElem? (i := 70) (by decide +kernel)), by decide +kernel⟩
theorem mw_257 : (.code yX6_addReader cX6_addReader 4 none : Cond) ∈ lw_U := List.mem_filter.mpr ⟨lw_in3 (List.mem_of_getElem? (i := 73) (by decide +kernel)), by decide +kernel⟩
theorem mw_258 : (.instanceMethod yX6_addReader : Cond) ∈ lw_U := List.mem_filter.mpr ⟨lw_in3 (List.mem_of_getElem? (i := 71) (by decide +kernel)), by decide +kernel⟩
theorem mw_259 : (.selects RX6 yX6_addReader yX6_addReader : Cond) ∈ lw_U := List.mem_filter.mpr ⟨lw_in3 (List.mem_of_getElem? (i := 72) (by decide +kernel)), by decide +kernel⟩
theorem mw_260 : (.fieldLink RX4 170 "TokenFloor$Floor" "actOf" "[I" : Cond) ∈ lw_U := List.mem_filter.mpr ⟨lw_in1 (List.mem_of_getElem? (i := 176) (by decide +kernel)), by decide +kernel⟩
theorem mw_261 : (.fieldLink RX4 172 "TokenFloor$Floor" "colourOf" "[I" : Cond) ∈ lw_U := List.mem_filter.mpr ⟨lw_in1 (List.mem_of_getElem? (i := 178) (by decide +kernel)), by decide +kernel⟩
theorem mw_262 : (.methodLink RX4 287 yX6_takeReader : Cond) ∈ lw_U := List.mem_filter.mpr ⟨lw_in3 (List.mem_of_getElem? (i := 78) (by decide +kernel)), by decide +kernel⟩
theorem mw_263 : (.code yX6_takeReader cX6_takeReader 3 (some .int) : Cond) ∈ lw_U := List.mem_filter.mpr ⟨lw_in3 (List.mem_of_getElem? (i := 81) (by decide +kernel)), by decide +kernel⟩
theorem mw_264 : (.instanceMethod yX6_takeReader : Cond) ∈ lw_U := List.mem_filter.mpr ⟨lw_in3 (List.mem_of_getElem? (i := 79) (by decide +kernel)), by decide +kernel⟩
theorem mw_265 : (.selects RX6 yX6_takeReader yX6_takeReader : Cond) ∈ lw_U := List.mem_filter.mpr ⟨lw_in3 (List.mem_of_getElem? (i := 80) (by decide +kernel)), by decide +kernel⟩
theorem mw_266 : (.methodLink RX8 13 yX8_ofNumber : Cond) ∈ lw_U := List.mem_filter.mpr ⟨lw_in3 (List.mem_of_getElem? (i := 98) (by decide +kernel)), by decide +kernel⟩
theorem mw_267 : (.methodLink RX7 34 yX8_refuse : Cond) ∈ lw_U := List.mem_filter.mpr ⟨lw_in3 (List.mem_of_getElem? (i := 93) (by decide +kernel)), by decide +kernel⟩
theorem mw_268 : (.methodLink RX7 19 yX8_contentOf : Cond) ∈ lw_U := List.mem_filter.mpr ⟨lw_in3 (List.mem_of_getElem? (i := 94) (by decide +kernel)), by decide +kernel⟩
theorem mw_269 : (.methodLink RX7 30 yX8_ofTruth : Cond) ∈ lw_U := List.mem_filter.mpr ⟨lw_in3 (List.mem_of_getElem? (i := 95) (by decide +kernel)), by decide +kernel⟩
theorem mw_270 : (.code yX8_ofTruth cX8_ofTruth 1 (some .long) : Cond) ∈ lw_U := List.mem_filter.mpr ⟨lw_in3 (List.mem_of_getElem? (i := 97) (by decide +kernel)), by decide +kernel⟩
theorem mw_271 : (.static yX8_ofTruth : Cond) ∈ lw_U := List.mem_filter.mpr ⟨lw_in3 (List.mem_of_getElem? (i := 96) (by decide +kernel)), by decide +kernel⟩
theorem mw_272 : (.methodLink RX7 15 yX8_refuseTwo : Cond) ∈ lw_U := List.mem_filter.mpr ⟨lw_in3 (List.mem_of_getElem? (i := 104) (by decide +kernel)), by decide +kernel⟩
theorem mw_273 : (.methodLink RX7 22 yX8_ofNumber : Cond) ∈ lw_U := List.mem_filter.mpr ⟨lw_in3 (List.mem_of_getElem? (i := 105) (by decide +kernel)), by decide +kernel⟩
theorem mw_274 : (.methodLink RX7 26 yX8_ofFault : Cond) ∈ lw_U := List.mem_filter.mpr ⟨lw_in3 (List.mem_of_getElem? (i := 106) (by decide +kernel)), by decide +kernel⟩
theorem mw_275 : (.methodLink RX7 9 yX8_sortOf : Cond) ∈ lw_U := List.mem_filter.mpr ⟨lw_in3 (List.mem_of_getElem? (i := 103) (by decide +kernel)), by decide +kernel⟩
theorem mw_276 : (.methodLink RX4 223 yX7_not : Cond) ∈ lw_U := List.mem_filter.mpr ⟨lw_in3 (List.mem_of_getElem? (i := 90) (by decide +kernel)), by decide +kernel⟩
theorem mw_277 : (.code yX7_not cX7_not 5 (some .long) : Cond) ∈ lw_U := List.mem_filter.mpr ⟨lw_in3 (List.mem_of_getElem? (i := 92) (by decide +kernel)), by decide +kernel⟩
theorem mw_278 : (.initialized RX7 : Cond) ∈ lw_U := List.mem_filter.mpr ⟨lw_in1 (List.mem_of_getElem? (i := 13) (by decide +kernel)), by decide +kernel⟩
theorem mw_279 : (.static yX7_not : Cond) ∈ lw_U := List.mem_filter.mpr ⟨lw_in3 (List.mem_of_getElem? (i := 91) (by decide +kernel)), by decide +kernel⟩
theorem mw_280 : (.methodLink RX4 114 yX6_sizeOf : Cond) ∈ lw_U := List.mem_filter.mpr ⟨lw_in3 (List.mem_of_getElem? (i := 99) (by decide +kernel)), by decide +kernel⟩
theorem mw_281 : (.methodLink RX4 233 yX7_ofTwo : Cond) ∈ lw_U := List.mem_filter.mpr ⟨lw_in3 (List.mem_of_getElem? (i := 100) (by decide +kernel)), by decide +kernel⟩
theorem mw_282 : (.code yX7_ofTwo cX7_ofTwo 11 (some .long) : Cond) ∈ lw_U := List.mem_filter.mpr ⟨lw_in3 (List.mem_of_getElem? (i := 102) (by decide +kernel)), by decide +kernel⟩
theorem mw_283 : (.static yX7_ofTwo : Cond) ∈ lw_U := List.mem_filter.mpr ⟨lw_in3 (List.mem_of_getElem? (i := 101) (by decide +kernel)), by decide +kernel⟩
theorem mw_284 : (.methodLink RX4 182 yX4_goSwitch : Cond) ∈ lw_U := List.mem_filter.mpr ⟨lw_in2 (List.mem_of_getElem? (i := 204) (by decide +kernel)), by decide +kernel⟩
theorem mw_285 : (.code yX4_goSwitch cX4_goSwitch 7 none : Cond) ∈ lw_U := List.mem_filter.mpr ⟨lw_in2 (List.mem_of_getElem? (i := 207) (by decide +kernel)), by decide +kernel⟩
theorem mw_286 : (.instanceMethod yX4_goSwitch : Cond) ∈ lw_U := List.mem_filter.mpr ⟨lw_in2 (List.mem_of_getElem? (i := 206) (by decide +kernel)), by decide +kernel⟩
theorem mw_287 : (.selects RX4 yX4_goSwitch yX4_goSwitch : Cond) ∈ lw_U := List.mem_filter.mpr ⟨List.mem_append_left _ (List.mem_of_getElem? (i := 6) (by decide +kernel)), by decide +kernel⟩
theorem mw_288 : (.methodLink RX4 189 yX0_enter : Cond) ∈ lw_U := List.mem_filter.mpr ⟨lw_in2 (List.mem_of_getElem? (i := 222) (by decide +kernel)), by decide +kernel⟩
theorem mw_289 : (.code yX0_enter cX0_enter 3 (some .int) : Cond) ∈ lw_U := List.mem_filter.mpr ⟨lw_in2 (List.mem_of_getElem? (i := 225) (by decide +kernel)), by decide +kernel⟩
theorem mw_290 : (.instanceMethod yX0_enter : Cond) ∈ lw_U := List.mem_filter.mpr ⟨lw_in2 (List.mem_of_getElem? (i := 223) (by decide +kernel)), by decide +kernel⟩
theorem mw_291 : (.selects RX0 yX0_enter yX0_enter : Cond) ∈ lw_U := List.mem_filter.mpr ⟨lw_in2 (List.mem_of_getElem? (i := 224) (by decide +kernel)), by decide +kernel⟩
theorem mw_292 : (.methodLink RX4 195 yX4_goTurn : Cond) ∈ lw_U := List.mem_filter.mpr ⟨lw_in2 (List.mem_of_getElem? (i := 230) (by decide +kernel)), by decide +kernel⟩
theorem mw_293 : (.code yX4_goTurn cX4_goTurn 5 none : Cond) ∈ lw_U := List.mem_filter.mpr ⟨lw_in2 (List.mem_of_getElem? (i := 233) (by decide +kernel)), by decide +kernel⟩
theorem mw_294 : (.instanceMethod yX4_goTurn : Cond) ∈ lw_U := List.mem_filter.mpr ⟨lw_in2 (List.mem_of_getElem? (i := 232) (by decide +kernel)), by decide +kernel⟩
theorem mw_295 : (.selects RX4 yX4_goTurn yX4_goTurn : Cond) ∈ lw_U := List.mem_filter.mpr ⟨List.mem_append_left _ (List.mem_of_getElem? (i := 9) (by decide +kernel)), by decide +kernel⟩
theorem mw_296 : (.methodLink RX4 199 yX4_goCall : Cond) ∈ lw_U := List.mem_filter.mpr ⟨lw_in3 (List.mem_of_getElem? (i := 10) (by decide +kernel)), by decide +kernel⟩
theorem mw_297 : (.code yX4_goCall cX4_goCall 7 none : Cond) ∈ lw_U := List.mem_filter.mpr ⟨lw_in3 (List.mem_of_getElem? (i := 13) (by decide +kernel)), by decide +kernel⟩
theorem mw_298 : (.instanceMethod yX4_goCall : Cond) ∈ lw_U := List.mem_filter.mpr ⟨lw_in3 (List.mem_of_getElem? (i := 12) (by decide +kernel)), by decide +kernel⟩
theorem mw_299 : (.selects RX4 yX4_goCall yX4_goCall : Cond) ∈ lw_U := List.mem_filter.mpr ⟨List.mem_append_left _ (List.mem_of_getElem? (i := 10) (by decide +kernel)), by decide +kernel⟩
theorem mw_300 : (.methodLink RX4 203 yX4_goReturn : Cond) ∈ lw_U := List.mem_filter.mpr ⟨lw_in3 (List.mem_of_getElem? (i := 22) (by decide +kernel)), by decide +kernel⟩
theorem mw_301 : (.code yX4_goReturn cX4_goReturn 5 none : Cond) ∈ lw_U := List.mem_filter.mpr ⟨lw_in3 (List.mem_of_getElem? (i := 25) (by decide +kernel)), by decide +kernel⟩
theorem mw_302 : (.instanceMethod yX4_goReturn : Cond) ∈ lw_U := List.mem_filter.mpr ⟨lw_in3 (List.mem_of_getElem? (i := 24) (by decide +kernel)), by decide +kernel⟩
theorem mw_303 : (.selects RX4 yX4_goReturn yX4_goReturn : Cond) ∈ lw_U := List.mem_filter.mpr ⟨List.mem_append_left _ (List.mem_of_getElem? (i := 11) (by decide +kernel)), by decide +kernel⟩
theorem mw_304 : (.methodLink RX4 207 yX4_goMake : Cond) ∈ lw_U := List.mem_filter.mpr ⟨lw_in3 (List.mem_of_getElem? (i := 30) (by decide +kernel)), by decide +kernel⟩
theorem mw_305 : (.code yX4_goMake cX4_goMake 9 none : Cond) ∈ lw_U := List.mem_filter.mpr ⟨lw_in3 (List.mem_of_getElem? (i := 33) (by decide +kernel)), by decide +kernel⟩
theorem mw_306 : (.instanceMethod yX4_goMake : Cond) ∈ lw_U := List.mem_filter.mpr ⟨lw_in3 (List.mem_of_getElem? (i := 32) (by decide +kernel)), by decide +kernel⟩
theorem mw_307 : (.selects RX4 yX4_goMake yX4_goMake : Cond) ∈ lw_U := List.mem_filter.mpr ⟨List.mem_append_left _ (List.mem_of_getElem? (i := 12) (by decide +kernel)), by decide +kernel⟩
theorem mw_308 : (.methodLink RX4 210 yX4_goRead : Cond) ∈ lw_U := List.mem_filter.mpr ⟨lw_in3 (List.mem_of_getElem? (i := 47) (by decide +kernel)), by decide +kernel⟩
theorem mw_309 : (.code yX4_goRead cX4_goRead 9 none : Cond) ∈ lw_U := List.mem_filter.mpr ⟨lw_in3 (List.mem_of_getElem? (i := 50) (by decide +kernel)), by decide +kernel⟩
theorem mw_310 : (.instanceMethod yX4_goRead : Cond) ∈ lw_U := List.mem_filter.mpr ⟨lw_in3 (List.mem_of_getElem? (i := 49) (by decide +kernel)), by decide +kernel⟩
theorem mw_311 : (.selects RX4 yX4_goRead yX4_goRead : Cond) ∈ lw_U := List.mem_filter.mpr ⟨List.mem_append_left _ (List.mem_of_getElem? (i := 13) (by decide +kernel)), by decide +kernel⟩
theorem mw_312 : (.methodLink RX4 213 yX4_goWrite : Cond) ∈ lw_U := List.mem_filter.mpr ⟨lw_in3 (List.mem_of_getElem? (i := 74) (by decide +kernel)), by decide +kernel⟩
theorem mw_313 : (.code yX4_goWrite cX4_goWrite 11 none : Cond) ∈ lw_U := List.mem_filter.mpr ⟨lw_in3 (List.mem_of_getElem? (i := 77) (by decide +kernel)), by decide +kernel⟩
theorem mw_314 : (.instanceMethod yX4_goWrite : Cond) ∈ lw_U := List.mem_filter.mpr ⟨lw_in3 (List.mem_of_getElem? (i := 76) (by decide +kernel)), by decide +kernel⟩
theorem mw_315 : (.selects RX4 yX4_goWrite yX4_goWrite : Cond) ∈ lw_U := List.mem_filter.mpr ⟨List.mem_append_left _ (List.mem_of_getElem? (i := 16) (by decide +kernel)), by decide +kernel⟩
theorem mw_316 : (.methodLink RX4 216 yX4_goEnd : Cond) ∈ lw_U := List.mem_filter.mpr ⟨lw_in3 (List.mem_of_getElem? (i := 82) (by decide +kernel)), by decide +kernel⟩
theorem mw_317 : (.code yX4_goEnd cX4_goEnd 6 none : Cond) ∈ lw_U := List.mem_filter.mpr ⟨lw_in3 (List.mem_of_getElem? (i := 85) (by decide +kernel)), by decide +kernel⟩
theorem mw_318 : (.instanceMethod yX4_goEnd : Cond) ∈ lw_U := List.mem_filter.mpr ⟨lw_in3 (List.mem_of_getElem? (i := 84) (by decide +kernel)), by decide +kernel⟩
theorem mw_319 : (.selects RX4 yX4_goEnd yX4_goEnd : Cond) ∈ lw_U := List.mem_filter.mpr ⟨List.mem_append_left _ (List.mem_of_getElem? (i := 17) (by decide +kernel)), by decide +kernel⟩
theorem mw_320 : (.methodLink RX4 219 yX4_plainResult : Cond) ∈ lw_U := List.mem_filter.mpr ⟨lw_in3 (List.mem_of_getElem? (i := 86) (by decide +kernel)), by decide +kernel⟩
theorem mw_321 : (.code yX4_plainResult cX4_plainResult 9 (some .long) : Cond) ∈ lw_U := List.mem_filter.mpr ⟨lw_in3 (List.mem_of_getElem? (i := 89) (by decide +kernel)), by decide +kernel⟩
theorem mw_322 : (.instanceMethod yX4_plainResult : Cond) ∈ lw_U := List.mem_filter.mpr ⟨lw_in3 (List.mem_of_getElem? (i := 88) (by decide +kernel)), by decide +kernel⟩
theorem mw_323 : (.selects RX4 yX4_plainResult yX4_plainResult : Cond) ∈ lw_U := List.mem_filter.mpr ⟨List.mem_append_left _ (List.mem_of_getElem? (i := 18) (by decide +kernel)), by decide +kernel⟩
theorem mw_324 : (.methodLink RX4 54 yX4_mayStep : Cond) ∈ lw_U := List.mem_filter.mpr ⟨lw_in2 (List.mem_of_getElem? (i := 179) (by decide +kernel)), by decide +kernel⟩
theorem mw_325 : (.code yX4_mayStep cX4_mayStep 2 (some .boolean) : Cond) ∈ lw_U := List.mem_filter.mpr ⟨lw_in2 (List.mem_of_getElem? (i := 182) (by decide +kernel)), by decide +kernel⟩
theorem mw_326 : (.instanceMethod yX4_mayStep : Cond) ∈ lw_U := List.mem_filter.mpr ⟨lw_in2 (List.mem_of_getElem? (i := 181) (by decide +kernel)), by decide +kernel⟩
theorem mw_327 : (.selects RX4 yX4_mayStep yX4_mayStep : Cond) ∈ lw_U := List.mem_filter.mpr ⟨List.mem_append_left _ (List.mem_of_getElem? (i := 4) (by decide +kernel)), by decide +kernel⟩
theorem mw_328 : (.methodLink RX4 63 yX5_take : Cond) ∈ lw_U := List.mem_filter.mpr ⟨lw_in2 (List.mem_of_getElem? (i := 188) (by decide +kernel)), by decide +kernel⟩
theorem mw_329 : (.code yX5_take cX5_take 4 (some .int) : Cond) ∈ lw_U := List.mem_filter.mpr ⟨lw_in2 (List.mem_of_getElem? (i := 191) (by decide +kernel)), by decide +kernel⟩
theorem mw_330 : (.instanceMethod yX5_take : Cond) ∈ lw_U := List.mem_filter.mpr ⟨lw_in2 (List.mem_of_getElem? (i := 189) (by decide +kernel)), by decide +kernel⟩
theorem mw_331 : (.selects RX5 yX5_take yX5_take : Cond) ∈ lw_U := List.mem_filter.mpr ⟨lw_in2 (List.mem_of_getElem? (i := 190) (by decide +kernel)), by decide +kernel⟩
theorem mw_332 : (.methodLink RX4 67 yX4_goOff : Cond) ∈ lw_U := List.mem_filter.mpr ⟨lw_in2 (List.mem_of_getElem? (i := 196) (by decide +kernel)), by decide +kernel⟩
theorem mw_333 : (.code yX4_goOff cX4_goOff 6 none : Cond) ∈ lw_U := List.mem_filter.mpr ⟨lw_in2 (List.mem_of_getElem? (i := 199) (by decide +kernel)), by decide +kernel⟩
theorem mw_334 : (.instanceMethod yX4_goOff : Cond) ∈ lw_U := List.mem_filter.mpr ⟨lw_in2 (List.mem_of_getElem? (i := 198) (by decide +kernel)), by decide +kernel⟩
theorem mw_335 : (.selects RX4 yX4_goOff yX4_goOff : Cond) ∈ lw_U := List.mem_filter.mpr ⟨List.mem_append_left _ (List.mem_of_getElem? (i := 5) (by decide +kernel)), by decide +kernel⟩
theorem mw_336 : (.constant RX4 58 1103515245 : Cond) ∈ lw_U := List.mem_filter.mpr ⟨lw_in2 (List.mem_of_getElem? (i := 187) (by decide +kernel)), by decide +kernel⟩
theorem mw_337 : (.methodLink RX4 51 yX4_begin : Cond) ∈ lw_U := List.mem_filter.mpr ⟨lw_in2 (List.mem_of_getElem? (i := 116) (by decide +kernel)), by decide +kernel⟩
theorem mw_338 : (.code yX4_begin cX4_begin 4 none : Cond) ∈ lw_U := List.mem_filter.mpr ⟨lw_in2 (List.mem_of_getElem? (i := 119) (by decide +kernel)), by decide +kernel⟩
theorem mw_339 : (.instanceMethod yX4_begin : Cond) ∈ lw_U := List.mem_filter.mpr ⟨lw_in2 (List.mem_of_getElem? (i := 118) (by decide +kernel)), by decide +kernel⟩
theorem mw_340 : (.selects RX4 yX4_begin yX4_begin : Cond) ∈ lw_U := List.mem_filter.mpr ⟨List.mem_append_left _ (List.mem_of_getElem? (i := 0) (by decide +kernel)), by decide +kernel⟩
theorem mw_341 : (.methodLink RX4 164 Lib.Math.max.name : Cond) ∈ lw_U := List.mem_filter.mpr ⟨lw_in3 (List.mem_of_getElem? (i := 119) (by decide +kernel)), by decide +kernel⟩
theorem mw_342 : (.static Lib.Math.max.name : Cond) ∈ lw_U := List.mem_filter.mpr ⟨lw_in3 (List.mem_of_getElem? (i := 120) (by decide +kernel)), by decide +kernel⟩
theorem mw_343 : (.initialized "java/lang/Math" : Cond) ∈ lw_U := List.mem_filter.mpr ⟨lw_in1 (List.mem_of_getElem? (i := 14) (by decide +kernel)), by decide +kernel⟩
theorem mw_344 : (.code Lib.Math.max.name Lib.Math.max.code 2 (some .int) : Cond) ∈ lw_U := List.mem_filter.mpr ⟨lw_in3 (List.mem_of_getElem? (i := 121) (by decide +kernel)), by decide +kernel⟩
theorem mw_345 : (.methodLink RX4 81 yX4_goTick : Cond) ∈ lw_U := List.mem_filter.mpr ⟨lw_in3 (List.mem_of_getElem? (i := 115) (by decide +kernel)), by decide +kernel⟩
theorem mw_346 : (.code yX4_goTick cX4_goTick 4 none : Cond) ∈ lw_U := List.mem_filter.mpr ⟨lw_in3 (List.mem_of_getElem? (i := 118) (by decide +kernel)), by decide +kernel⟩
theorem mw_347 : (.instanceMethod yX4_goTick : Cond) ∈ lw_U := List.mem_filter.mpr ⟨lw_in3 (List.mem_of_getElem? (i := 117) (by decide +kernel)), by decide +kernel⟩
theorem mw_348 : (.selects RX4 yX4_goTick yX4_goTick : Cond) ∈ lw_U := List.mem_filter.mpr ⟨List.mem_append_left _ (List.mem_of_getElem? (i := 19) (by decide +kernel)), by decide +kernel⟩
theorem mw_349 : (.fieldLink RX4 87 "TokenFloor$Floor" "left" "I" : Cond) ∈ lw_U := List.mem_filter.mpr ⟨lw_in1 (List.mem_of_getElem? (i := 174) (by decide +kernel)), by decide +kernel⟩
theorem mw_350 : (.fieldLink RX4 90 "TokenFloor$Store" "waiting" "I" : Cond) ∈ lw_U := List.mem_filter.mpr ⟨lw_in1 (List.mem_of_getElem? (i := 105) (by decide +kernel)), by decide +kernel⟩
theorem mw_351 : (.fieldLink RX4 99 "TokenFloor$Colours" "count" "I" : Cond) ∈ lw_U := List.mem_filter.mpr ⟨lw_in1 (List.mem_of_getElem? (i := 148) (by decide +kernel)), by decide +kernel⟩
theorem mw_352 : (.methodLink RX4 117 yX8_actOf : Cond) ∈ lw_U := List.mem_filter.mpr ⟨lw_in3 (List.mem_of_getElem? (i := 138) (by decide +kernel)), by decide +kernel⟩
theorem mw_353 : (.code yX8_actOf cX8_actOf 2 (some .int) : Cond) ∈ lw_U := List.mem_filter.mpr ⟨lw_in3 (List.mem_of_getElem? (i := 140) (by decide +kernel)), by decide +kernel⟩
theorem mw_354 : (.static yX8_actOf : Cond) ∈ lw_U := List.mem_filter.mpr ⟨lw_in3 (List.mem_of_getElem? (i := 139) (by decide +kernel)), by decide +kernel⟩
theorem mw_355 : (.methodLink RX4 120 yX4_comparable : Cond) ∈ lw_U := List.mem_filter.mpr ⟨lw_in3 (List.mem_of_getElem? (i := 172) (by decide +kernel)), by decide +kernel⟩
theorem mw_356 : (.code yX4_comparable cX4_comparable 3 (some .long) : Cond) ∈ lw_U := List.mem_filter.mpr ⟨lw_in3 (List.mem_of_getElem? (i := 175) (by decide +kernel)), by decide +kernel⟩
theorem mw_357 : (.instanceMethod yX4_comparable : Cond) ∈ lw_U := List.mem_filter.mpr ⟨lw_in3 (List.mem_of_getElem? (i := 174) (by decide +kernel)), by decide +kernel⟩
theorem mw_358 : (.selects RX4 yX4_comparable yX4_comparable : Cond) ∈ lw_U := List.mem_filter.mpr ⟨List.mem_append_left _ (List.mem_of_getElem? (i := 20) (by decide +kernel)), by decide +kernel⟩
theorem mw_359 : (.fieldLink RX9 10 "TokenFloor" "graph" "LTokenFloor$Graph;" : Cond) ∈ lw_U := List.mem_filter.mpr ⟨lw_in2 (List.mem_of_getElem? (i := 23) (by decide +kernel)), by decide +kernel⟩
theorem mw_360 : (.methodLink RX9 36 yX2_addAct : Cond) ∈ lw_U := List.mem_filter.mpr ⟨lw_in2 (List.mem_of_getElem? (i := 43) (by decide +kernel)), by decide +kernel⟩
theorem mw_361 : (.code yX2_addAct cX2_addAct 6 (some .int) : Cond) ∈ lw_U := List.mem_filter.mpr ⟨lw_in2 (List.mem_of_getElem? (i := 46) (by decide +kernel)), by decide +kernel⟩
theorem mw_362 : (.instanceMethod yX2_addAct : Cond) ∈ lw_U := List.mem_filter.mpr ⟨lw_in2 (List.mem_of_getElem? (i := 44) (by decide +kernel)), by decide +kernel⟩
theorem mw_363 : (.selects RX2 yX2_addAct yX2_addAct : Cond) ∈ lw_U := List.mem_filter.mpr ⟨lw_in2 (List.mem_of_getElem? (i := 45) (by decide +kernel)), by decide +kernel⟩
theorem mw_364 : (.methodLink RX9 40 yX2_addWay : Cond) ∈ lw_U := List.mem_filter.mpr ⟨lw_in2 (List.mem_of_getElem? (i := 66) (by decide +kernel)), by decide +kernel⟩
theorem mw_365 : (.code yX2_addWay cX2_addWay 8 (some .int) : Cond) ∈ lw_U := List.mem_filter.mpr ⟨lw_in2 (List.mem_of_getElem? (i := 69) (by decide +kernel)), by decide +kernel⟩
theorem mw_366 : (.instanceMethod yX2_addWay : Cond) ∈ lw_U := List.mem_filter.mpr ⟨lw_in2 (List.mem_of_getElem? (i := 67) (by decide +kernel)), by decide +kernel⟩
theorem mw_367 : (.selects RX2 yX2_addWay yX2_addWay : Cond) ∈ lw_U := List.mem_filter.mpr ⟨lw_in2 (List.mem_of_getElem? (i := 68) (by decide +kernel)), by decide +kernel⟩
theorem mw_368 : (.methodLink RX9 44 yX2_addToken : Cond) ∈ lw_U := List.mem_filter.mpr ⟨lw_in2 (List.mem_of_getElem? (i := 85) (by decide +kernel)), by decide +kernel⟩
theorem mw_369 : (.code yX2_addToken cX2_addToken 4 (some .int) : Cond) ∈ lw_U := List.mem_filter.mpr ⟨lw_in2 (List.mem_of_getElem? (i := 88) (by decide +kernel)), by decide +kernel⟩
theorem mw_370 : (.instanceMethod yX2_addToken : Cond) ∈ lw_U := List.mem_filter.mpr ⟨lw_in2 (List.mem_of_getElem? (i := 86) (by decide +kernel)), by decide +kernel⟩
theorem mw_371 : (.selects RX2 yX2_addToken yX2_addToken : Cond) ∈ lw_U := List.mem_filter.mpr ⟨lw_in2 (List.mem_of_getElem? (i := 87) (by decide +kernel)), by decide +kernel⟩
theorem mw_372 : (.fieldLink RX9 32 "TokenFloor" "hasRun" "Z" : Cond) ∈ lw_U := List.mem_filter.mpr ⟨lw_in2 (List.mem_of_getElem? (i := 27) (by decide +kernel)), by decide +kernel⟩
theorem mw_373 : (.methodLink RX9 53 yX2_dropActs : Cond) ∈ lw_U := List.mem_filter.mpr ⟨lw_in2 (List.mem_of_getElem? (i := 101) (by decide +kernel)), by decide +kernel⟩
theorem mw_374 : (.code yX2_dropActs cX2_dropActs 1 none : Cond) ∈ lw_U := List.mem_filter.mpr ⟨lw_in2 (List.mem_of_getElem? (i := 104) (by decide +kernel)), by decide +kernel⟩
theorem mw_375 : (.instanceMethod yX2_dropActs : Cond) ∈ lw_U := List.mem_filter.mpr ⟨lw_in2 (List.mem_of_getElem? (i := 102) (by decide +kernel)), by decide +kernel⟩
theorem mw_376 : (.selects RX2 yX2_dropActs yX2_dropActs : Cond) ∈ lw_U := List.mem_filter.mpr ⟨lw_in2 (List.mem_of_getElem? (i := 103) (by decide +kernel)), by decide +kernel⟩
theorem mw_377 : (.methodLink RX9 47 yX2_dropTokens : Cond) ∈ lw_U := List.mem_filter.mpr ⟨lw_in2 (List.mem_of_getElem? (i := 93) (by decide +kernel)), by decide +kernel⟩
theorem mw_378 : (.code yX2_dropTokens cX2_dropTokens 1 none : Cond) ∈ lw_U := List.mem_filter.mpr ⟨lw_in2 (List.mem_of_getElem? (i := 96) (by decide +kernel)), by decide +kernel⟩
theorem mw_379 : (.instanceMethod yX2_dropTokens : Cond) ∈ lw_U := List.mem_filter.mpr ⟨lw_in2 (List.mem_of_getElem? (i := 94) (by decide +kernel)), by decide +kernel⟩
theorem mw_380 : (.selects RX2 yX2_dropTokens yX2_dropTokens : Cond) ∈ lw_U := List.mem_filter.mpr ⟨lw_in2 (List.mem_of_getElem? (i := 95) (by decide +kernel)), by decide +kernel⟩
theorem mw_381 : (.methodLink RX9 50 yX2_dropWays : Cond) ∈ lw_U := List.mem_filter.mpr ⟨lw_in2 (List.mem_of_getElem? (i := 97) (by decide +kernel)), by decide +kernel⟩
theorem mw_382 : (.code yX2_dropWays cX2_dropWays 1 none : Cond) ∈ lw_U := List.mem_filter.mpr ⟨lw_in2 (List.mem_of_getElem? (i := 100) (by decide +kernel)), by decide +kernel⟩
theorem mw_383 : (.instanceMethod yX2_dropWays : Cond) ∈ lw_U := List.mem_filter.mpr ⟨lw_in2 (List.mem_of_getElem? (i := 98) (by decide +kernel)), by decide +kernel⟩
theorem mw_384 : (.selects RX2 yX2_dropWays yX2_dropWays : Cond) ∈ lw_U := List.mem_filter.mpr ⟨lw_in2 (List.mem_of_getElem? (i := 99) (by decide +kernel)), by decide +kernel⟩
theorem mw_385 : (.methodLink RX9 56 yX9_isFuel : Cond) ∈ lw_U := List.mem_filter.mpr ⟨lw_in2 (List.mem_of_getElem? (i := 109) (by decide +kernel)), by decide +kernel⟩
theorem mw_386 : (.code yX9_isFuel cX9_isFuel 1 (some .boolean) : Cond) ∈ lw_U := List.mem_filter.mpr ⟨lw_in2 (List.mem_of_getElem? (i := 111) (by decide +kernel)), by decide +kernel⟩
theorem mw_387 : (.initialized RX9 : Cond) ∈ lw_U := List.mem_filter.mpr ⟨lw_in1 (List.mem_of_getElem? (i := 1) (by decide +kernel)), by decide +kernel⟩
theorem mw_388 : (.static yX9_isFuel : Cond) ∈ lw_U := List.mem_filter.mpr ⟨lw_in2 (List.mem_of_getElem? (i := 110) (by decide +kernel)), by decide +kernel⟩
theorem mw_389 : (.fieldLink RX9 21 "TokenFloor" "machine" "LTokenFloor$Machine;" : Cond) ∈ lw_U := List.mem_filter.mpr ⟨lw_in2 (List.mem_of_getElem? (i := 24) (by decide +kernel)), by decide +kernel⟩
theorem mw_390 : (.methodLink RX9 60 yX4_goBySeed : Cond) ∈ lw_U := List.mem_filter.mpr ⟨lw_in2 (List.mem_of_getElem? (i := 112) (by decide +kernel)), by decide +kernel⟩
theorem mw_391 : (.code yX4_goBySeed cX4_goBySeed 6 (some .int) : Cond) ∈ lw_U := List.mem_filter.mpr ⟨lw_in2 (List.mem_of_getElem? (i := 115) (by decide +kernel)), by decide +kernel⟩
theorem mw_392 : (.instanceMethod yX4_goBySeed : Cond) ∈ lw_U := List.mem_filter.mpr ⟨lw_in2 (List.mem_of_getElem? (i := 113) (by decide +kernel)), by decide +kernel⟩
theorem mw_393 : (.selects RX4 yX4_goBySeed yX4_goBySeed : Cond) ∈ lw_U := List.mem_filter.mpr ⟨lw_in2 (List.mem_of_getElem? (i := 114) (by decide +kernel)), by decide +kernel⟩
theorem mw_394 : (.methodLink RX9 64 yX4_goByTicks : Cond) ∈ lw_U := List.mem_filter.mpr ⟨lw_in3 (List.mem_of_getElem? (i := 111) (by decide +kernel)), by decide +kernel⟩
theorem mw_395 : (.code yX4_goByTicks cX4_goByTicks 3 (some .int) : Cond) ∈ lw_U := List.mem_filter.mpr ⟨lw_in3 (List.mem_of_getElem? (i := 114) (by decide +kernel)), by decide +kernel⟩
theorem mw_396 : (.instanceMethod yX4_goByTicks : Cond) ∈ lw_U := List.mem_filter.mpr ⟨lw_in3 (List.mem_of_getElem? (i := 112) (by decide +kernel)), by decide +kernel⟩
theorem mw_397 : (.selects RX4 yX4_goByTicks yX4_goByTicks : Cond) ∈ lw_U := List.mem_filter.mpr ⟨lw_in3 (List.mem_of_getElem? (i := 113) (by decide +kernel)), by decide +kernel⟩
theorem mw_398 : (.methodLink RX9 68 yX4_figure : Cond) ∈ lw_U := List.mem_filter.mpr ⟨lw_in3 (List.mem_of_getElem? (i := 126) (by decide +kernel)), by decide +kernel⟩
theorem mw_399 : (.code yX4_figure cX4_figure 2 (some .int) : Cond) ∈ lw_U := List.mem_filter.mpr ⟨lw_in3 (List.mem_of_getElem? (i := 129) (by decide +kernel)), by decide +kernel⟩
theorem mw_400 : (.instanceMethod yX4_figure : Cond) ∈ lw_U := List.mem_filter.mpr ⟨lw_in3 (List.mem_of_getElem? (i := 127) (by decide +kernel)), by decide +kernel⟩
theorem mw_401 : (.selects RX4 yX4_figure yX4_figure : Cond) ∈ lw_U := List.mem_filter.mpr ⟨lw_in3 (List.mem_of_getElem? (i := 128) (by decide +kernel)), by decide +kernel⟩
theorem mw_402 : (.fieldLink RX9 71 "TokenFloor$Machine" "ends" "[J" : Cond) ∈ lw_U := List.mem_filter.mpr ⟨lw_in1 (List.mem_of_getElem? (i := 222) (by decide +kernel)), by decide +kernel⟩
theorem mw_403 : (.methodLink RX9 74 yX4_describe : Cond) ∈ lw_U := List.mem_filter.mpr ⟨lw_in3 (List.mem_of_getElem? (i := 134) (by decide +kernel)), by decide +kernel⟩
theorem mw_404 : (.code yX4_describe cX4_describe 6 (some .int) : Cond) ∈ lw_U := List.mem_filter.mpr ⟨lw_in3 (List.mem_of_getElem? (i := 137) (by decide +kernel)), by decide +kernel⟩
theorem mw_405 : (.instanceMethod yX4_describe : Cond) ∈ lw_U := List.mem_filter.mpr ⟨lw_in3 (List.mem_of_getElem? (i := 135) (by decide +kernel)), by decide +kernel⟩
theorem mw_406 : (.selects RX4 yX4_describe yX4_describe : Cond) ∈ lw_U := List.mem_filter.mpr ⟨lw_in3 (List.mem_of_getElem? (i := 136) (by decide +kernel)), by decide +kernel⟩
theorem mw_407 : (.methodLink RX9 78 yX2_hasAct : Cond) ∈ lw_U := List.mem_filter.mpr ⟨lw_in3 (List.mem_of_getElem? (i := 145) (by decide +kernel)), by decide +kernel⟩
theorem mw_408 : (.fieldLink RX9 81 "TokenFloor$Machine" "firings" "[I" : Cond) ∈ lw_U := List.mem_filter.mpr ⟨lw_in1 (List.mem_of_getElem? (i := 220) (by decide +kernel)), by decide +kernel⟩
theorem mw_409 : (.fieldLink RX9 85 "TokenFloor$Machine" "store" "LTokenFloor$Store;" : Cond) ∈ lw_U := List.mem_filter.mpr ⟨lw_in1 (List.mem_of_getElem? (i := 218) (by decide +kernel)), by decide +kernel⟩
theorem mw_410 : (.fieldLink RX9 89 "TokenFloor$Store" "rowOfAct" "[I" : Cond) ∈ lw_U := List.mem_filter.mpr ⟨lw_in1 (List.mem_of_getElem? (i := 107) (by decide +kernel)), by decide +kernel⟩
theorem mw_411 : (.methodLink RX9 94 yX6_placeIn : Cond) ∈ lw_U := List.mem_filter.mpr ⟨lw_in3 (List.mem_of_getElem? (i := 150) (by decide +kernel)), by decide +kernel⟩
theorem mw_412 : (.fieldLink RX9 97 "TokenFloor$Store" "written" "[J" : Cond) ∈ lw_U := List.mem_filter.mpr ⟨lw_in1 (List.mem_of_getElem? (i := 110) (by decide +kernel)), by decide +kernel⟩
theorem mw_413 : (.fieldLink RX9 100 "TokenFloor$Graph" "kind" "[I" : Cond) ∈ lw_U := List.mem_filter.mpr ⟨lw_in1 (List.mem_of_getElem? (i := 35) (by decide +kernel)), by decide +kernel⟩
theorem mw_414 : (.fieldLink RX9 103 "TokenFloor$Graph" "number" "[I" : Cond) ∈ lw_U := List.mem_filter.mpr ⟨lw_in1 (List.mem_of_getElem? (i := 38) (by decide +kernel)), by decide +kernel⟩
theorem mw_415 : (.fieldLink RX9 106 "TokenFloor$Graph" "ports" "[I" : Cond) ∈ lw_U := List.mem_filter.mpr ⟨lw_in1 (List.mem_of_getElem? (i := 40) (by decide +kernel)), by decide +kernel⟩
theorem mw_416 : (.methodLink RX9 109 yX2_countWays : Cond) ∈ lw_U := List.mem_filter.mpr ⟨lw_in3 (List.mem_of_getElem? (i := 155) (by decide +kernel)), by decide +kernel⟩
theorem mw_417 : (.code yX2_countWays cX2_countWays 5 (some .int) : Cond) ∈ lw_U := List.mem_filter.mpr ⟨lw_in3 (List.mem_of_getElem? (i := 158) (by decide +kernel)), by decide +kernel⟩
theorem mw_418 : (.instanceMethod yX2_countWays : Cond) ∈ lw_U := List.mem_filter.mpr ⟨lw_in3 (List.mem_of_getElem? (i := 156) (by decide +kernel)), by decide +kernel⟩
theorem mw_419 : (.selects RX2 yX2_countWays yX2_countWays : Cond) ∈ lw_U := List.mem_filter.mpr ⟨lw_in3 (List.mem_of_getElem? (i := 157) (by decide +kernel)), by decide +kernel⟩
theorem mw_420 : (.methodLink RX9 112 yX2_countTokens : Cond) ∈ lw_U := List.mem_filter.mpr ⟨lw_in3 (List.mem_of_getElem? (i := 160) (by decide +kernel)), by decide +kernel⟩
theorem mw_421 : (.code yX2_countTokens cX2_countTokens 4 (some .int) : Cond) ∈ lw_U := List.mem_filter.mpr ⟨lw_in3 (List.mem_of_getElem? (i := 163) (by decide +kernel)), by decide +kernel⟩
theorem mw_422 : (.instanceMethod yX2_countTokens : Cond) ∈ lw_U := List.mem_filter.mpr ⟨lw_in3 (List.mem_of_getElem? (i := 161) (by decide +kernel)), by decide +kernel⟩
theorem mw_423 : (.selects RX2 yX2_countTokens yX2_countTokens : Cond) ∈ lw_U := List.mem_filter.mpr ⟨lw_in3 (List.mem_of_getElem? (i := 162) (by decide +kernel)), by decide +kernel⟩
theorem mw_424 : (.fieldLink RX9 25 "TokenFloor" "figuresA" "[J" : Cond) ∈ lw_U := List.mem_filter.mpr ⟨lw_in2 (List.mem_of_getElem? (i := 25) (by decide +kernel)), by decide +kernel⟩
theorem mw_425 : (.fieldLink RX9 29 "TokenFloor" "figuresB" "[J" : Cond) ∈ lw_U := List.mem_filter.mpr ⟨lw_in2 (List.mem_of_getElem? (i := 26) (by decide +kernel)), by decide +kernel⟩
theorem mw_426 : (.methodLink RX9 115 yX4_copyFigures : Cond) ∈ lw_U := List.mem_filter.mpr ⟨lw_in3 (List.mem_of_getElem? (i := 168) (by decide +kernel)), by decide +kernel⟩
theorem mw_427 : (.code yX4_copyFigures cX4_copyFigures 3 none : Cond) ∈ lw_U := List.mem_filter.mpr ⟨lw_in3 (List.mem_of_getElem? (i := 171) (by decide +kernel)), by decide +kernel⟩
theorem mw_428 : (.instanceMethod yX4_copyFigures : Cond) ∈ lw_U := List.mem_filter.mpr ⟨lw_in3 (List.mem_of_getElem? (i := 169) (by decide +kernel)), by decide +kernel⟩
theorem mw_429 : (.selects RX4 yX4_copyFigures yX4_copyFigures : Cond) ∈ lw_U := List.mem_filter.mpr ⟨lw_in3 (List.mem_of_getElem? (i := 170) (by decide +kernel)), by decide +kernel⟩
theorem mw_430 : (.methodLink RX9 119 yX9_firstDifference : Cond) ∈ lw_U := List.mem_filter.mpr ⟨lw_in3 (List.mem_of_getElem? (i := 176) (by decide +kernel)), by decide +kernel⟩
theorem mw_431 : (.code yX9_firstDifference cX9_firstDifference 4 (some .int) : Cond) ∈ lw_U := List.mem_filter.mpr ⟨lw_in3 (List.mem_of_getElem? (i := 179) (by decide +kernel)), by decide +kernel⟩
theorem mw_432 : (.instanceMethod yX9_firstDifference : Cond) ∈ lw_U := List.mem_filter.mpr ⟨lw_in3 (List.mem_of_getElem? (i := 178) (by decide +kernel)), by decide +kernel⟩
theorem mw_433 : (.selects RX9 yX9_firstDifference yX9_firstDifference : Cond) ∈ lw_U := List.mem_filter.mpr ⟨List.mem_append_left _ (List.mem_of_getElem? (i := 21) (by decide +kernel)), by decide +kernel⟩
theorem mw_434 : (.fieldLink RX10 127 "TokenFloorModel" "acts" "I" : Cond) ∈ lw_U := List.mem_filter.mpr ⟨lw_in3 (List.mem_of_getElem? (i := 196) (by decide +kernel)), by decide +kernel⟩
theorem mw_435 : (.methodLink RX10 131 yX10_in : Cond) ∈ lw_U := List.mem_filter.mpr ⟨lw_in4 (List.mem_of_getElem? (i := 122) (by decide +kernel)), by decide +kernel⟩
theorem mw_436 : (.code yX10_in cX10_in 3 (some .boolean) : Cond) ∈ lw_U := List.mem_filter.mpr ⟨lw_in4 (List.mem_of_getElem? (i := 124) (by decide +kernel)), by decide +kernel⟩
theorem mw_437 : (.initialized RX10 : Cond) ∈ lw_U := List.mem_filter.mpr ⟨lw_in1 (List.mem_of_getElem? (i := 9) (by decide +kernel)), by decide +kernel⟩
theorem mw_438 : (.static yX10_in : Cond) ∈ lw_U := List.mem_filter.mpr ⟨lw_in4 (List.mem_of_getElem? (i := 123) (by decide +kernel)), by decide +kernel⟩
theorem mw_439 : (.fieldLink RX10 7 "TokenFloorModel" "kind" "[I" : Cond) ∈ lw_U := List.mem_filter.mpr ⟨lw_in3 (List.mem_of_getElem? (i := 186) (by decide +kernel)), by decide +kernel⟩
theorem mw_440 : (.fieldLink RX10 13 "TokenFloorModel" "own" "[I" : Cond) ∈ lw_U := List.mem_filter.mpr ⟨lw_in3 (List.mem_of_getElem? (i := 187) (by decide +kernel)), by decide +kernel⟩
theorem mw_441 : (.fieldLink RX10 16 "TokenFloorModel" "ports" "[I" : Cond) ∈ lw_U := List.mem_filter.mpr ⟨lw_in3 (List.mem_of_getElem? (i := 188) (by decide +kernel)), by decide +kernel⟩
theorem mw_442 : (.methodLink RX10 135 yX10_portsOf : Cond) ∈ lw_U := List.mem_filter.mpr ⟨lw_in4 (List.mem_of_getElem? (i := 125) (by decide +kernel)), by decide +kernel⟩
theorem mw_443 : (.code yX10_portsOf cX10_portsOf 2 (some .int) : Cond) ∈ lw_U := List.mem_filter.mpr ⟨lw_in4 (List.mem_of_getElem? (i := 127) (by decide +kernel)), by decide +kernel⟩
theorem mw_444 : (.static yX10_portsOf : Cond) ∈ lw_U := List.mem_filter.mpr ⟨lw_in4 (List.mem_of_getElem? (i := 126) (by decide +kernel)), by decide +kernel⟩
theorem mw_445 : (.fieldLink RX10 143 "TokenFloorModel" "ways" "I" : Cond) ∈ lw_U := List.mem_filter.mpr ⟨lw_in3 (List.mem_of_getElem? (i := 197) (by decide +kernel)), by decide +kernel⟩
theorem mw_446 : (.fieldLink RX10 19 "TokenFloorModel" "wayFrom" "[I" : Cond) ∈ lw_U := List.mem_filter.mpr ⟨lw_in3 (List.mem_of_getElem? (i := 189) (by decide +kernel)), by decide +kernel⟩
theorem mw_447 : (.fieldLink RX10 22 "TokenFloorModel" "waySide" "[I" : Cond) ∈ lw_U := List.mem_filter.mpr ⟨lw_in3 (List.mem_of_getElem? (i := 190) (by decide +kernel)), by decide +kernel⟩
theorem mw_448 : (.fieldLink RX10 25 "TokenFloorModel" "wayTo" "[I" : Cond) ∈ lw_U := List.mem_filter.mpr ⟨lw_in3 (List.mem_of_getElem? (i := 191) (by decide +kernel)), by decide +kernel⟩
theorem mw_449 : (.fieldLink RX10 28 "TokenFloorModel" "wayPort" "[I" : Cond) ∈ lw_U := List.mem_filter.mpr ⟨lw_in3 (List.mem_of_getElem? (i := 192) (by decide +kernel)), by decide +kernel⟩
theorem mw_450 : (.methodLink RX10 139 yX10_isAct : Cond) ∈ lw_U := List.mem_filter.mpr ⟨lw_in4 (List.mem_of_getElem? (i := 132) (by decide +kernel)), by decide +kernel⟩
theorem mw_451 : (.code yX10_isAct cX10_isAct 2 (some .boolean) : Cond) ∈ lw_U := List.mem_filter.mpr ⟨lw_in4 (List.mem_of_getElem? (i := 135) (by decide +kernel)), by decide +kernel⟩
theorem mw_452 : (.instanceMethod yX10_isAct : Cond) ∈ lw_U := List.mem_filter.mpr ⟨lw_in4 (List.mem_of_getElem? (i := 134) (by decide +kernel)), by decide +kernel⟩
theorem mw_453 : (.selects RX10 yX10_isAct yX10_isAct : Cond) ∈ lw_U := List.mem_filter.mpr ⟨List.mem_append_left _ (List.mem_of_getElem? (i := 22) (by decide +kernel)), by decide +kernel⟩
theorem mw_454 : (.fieldLink RX10 146 "TokenFloorModel" "tokens" "I" : Cond) ∈ lw_U := List.mem_filter.mpr ⟨lw_in3 (List.mem_of_getElem? (i := 198) (by decide +kernel)), by decide +kernel⟩
theorem mw_455 : (.fieldLink RX10 31 "TokenFloorModel" "tokenAct" "[I" : Cond) ∈ lw_U := List.mem_filter.mpr ⟨lw_in3 (List.mem_of_getElem? (i := 193) (by decide +kernel)), by decide +kernel⟩
theorem mw_456 : (.fieldLink RX10 34 "TokenFloorModel" "tokenPort" "[I" : Cond) ∈ lw_U := List.mem_filter.mpr ⟨lw_in3 (List.mem_of_getElem? (i := 194) (by decide +kernel)), by decide +kernel⟩
theorem mw_457 : (.fieldLink RX10 37 "TokenFloorModel" "tokenValue" "[I" : Cond) ∈ lw_U := List.mem_filter.mpr ⟨lw_in3 (List.mem_of_getElem? (i := 195) (by decide +kernel)), by decide +kernel⟩
theorem mw_458 : (.fieldLink RX10 149 "TokenFloorModel" "isRun" "Z" : Cond) ∈ lw_U := List.mem_filter.mpr ⟨lw_in3 (List.mem_of_getElem? (i := 199) (by decide +kernel)), by decide +kernel⟩
theorem mw_459 : (.fieldLink RX10 153 "TokenFloorModel" "how" "I" : Cond) ∈ lw_U := List.mem_filter.mpr ⟨lw_in3 (List.mem_of_getElem? (i := 201) (by decide +kernel)), by decide +kernel⟩
theorem mw_460 : (.fieldLink RX10 156 "TokenFloorModel" "clash" "I" : Cond) ∈ lw_U := List.mem_filter.mpr ⟨lw_in3 (List.mem_of_getElem? (i := 207) (by decide +kernel)), by decide +kernel⟩
theorem mw_461 : (.fieldLink RX10 159 "TokenFloorModel" "isStopped" "Z" : Cond) ∈ lw_U := List.mem_filter.mpr ⟨lw_in3 (List.mem_of_getElem? (i := 200) (by decide +kernel)), by decide +kernel⟩
theorem mw_462 : (.fieldLink RX10 162 "TokenFloorModel" "colours" "I" : Cond) ∈ lw_U := List.mem_filter.mpr ⟨lw_in3 (List.mem_of_getElem? (i := 212) (by decide +kernel)), by decide +kernel⟩
theorem mw_463 : (.fieldLink RX10 40 "TokenFloorModel" "cSort" "[I" : Cond) ∈ lw_U := List.mem_filter.mpr ⟨lw_in3 (List.mem_of_getElem? (i := 208) (by decide +kernel)), by decide +kernel⟩
theorem mw_464 : (.fieldLink RX10 43 "TokenFloorModel" "cOf" "[I" : Cond) ∈ lw_U := List.mem_filter.mpr ⟨lw_in3 (List.mem_of_getElem? (i := 209) (by decide +kernel)), by decide +kernel⟩
theorem mw_465 : (.fieldLink RX10 46 "TokenFloorModel" "cTurn" "[I" : Cond) ∈ lw_U := List.mem_filter.mpr ⟨lw_in3 (List.mem_of_getElem? (i := 210) (by decide +kernel)), by decide +kernel⟩
theorem mw_466 : (.fieldLink RX10 49 "TokenFloorModel" "cIn" "[I" : Cond) ∈ lw_U := List.mem_filter.mpr ⟨lw_in3 (List.mem_of_getElem? (i := 211) (by decide +kernel)), by decide +kernel⟩
theorem mw_467 : (.methodLink RX10 165 yX10_stops : Cond) ∈ lw_U := List.mem_filter.mpr ⟨lw_in4 (List.mem_of_getElem? (i := 156) (by decide +kernel)), by decide +kernel⟩
theorem mw_468 : (.code yX10_stops cX10_stops 3 (some .boolean) : Cond) ∈ lw_U := List.mem_filter.mpr ⟨lw_in4 (List.mem_of_getElem? (i := 159) (by decide +kernel)), by decide +kernel⟩
theorem mw_469 : (.instanceMethod yX10_stops : Cond) ∈ lw_U := List.mem_filter.mpr ⟨lw_in4 (List.mem_of_getElem? (i := 158) (by decide +kernel)), by decide +kernel⟩
theorem mw_470 : (.selects RX10 yX10_stops yX10_stops : Cond) ∈ lw_U := List.mem_filter.mpr ⟨List.mem_append_left _ (List.mem_of_getElem? (i := 25) (by decide +kernel)), by decide +kernel⟩
theorem mw_471 : (.fieldLink RX10 169 "TokenFloorModel" "pairs" "I" : Cond) ∈ lw_U := List.mem_filter.mpr ⟨lw_in3 (List.mem_of_getElem? (i := 223) (by decide +kernel)), by decide +kernel⟩
theorem mw_472 : (.fieldLink RX10 52 "TokenFloorModel" "pAct" "[I" : Cond) ∈ lw_U := List.mem_filter.mpr ⟨lw_in3 (List.mem_of_getElem? (i := 213) (by decide +kernel)), by decide +kernel⟩
theorem mw_473 : (.fieldLink RX10 55 "TokenFloorModel" "pColour" "[I" : Cond) ∈ lw_U := List.mem_filter.mpr ⟨lw_in3 (List.mem_of_getElem? (i := 214) (by decide +kernel)), by decide +kernel⟩
theorem mw_474 : (.fieldLink RX10 58 "TokenFloorModel" "pHas" "[I" : Cond) ∈ lw_U := List.mem_filter.mpr ⟨lw_in3 (List.mem_of_getElem? (i := 215) (by decide +kernel)), by decide +kernel⟩
theorem mw_475 : (.fieldLink RX10 61 "TokenFloorModel" "pHow" "[I" : Cond) ∈ lw_U := List.mem_filter.mpr ⟨lw_in3 (List.mem_of_getElem? (i := 216) (by decide +kernel)), by decide +kernel⟩
theorem mw_476 : (.fieldLink RX10 64 "TokenFloorModel" "pNext" "[I" : Cond) ∈ lw_U := List.mem_filter.mpr ⟨lw_in3 (List.mem_of_getElem? (i := 217) (by decide +kernel)), by decide +kernel⟩
theorem mw_477 : (.fieldLink RX10 76 "TokenFloorModel" "first" "[I" : Cond) ∈ lw_U := List.mem_filter.mpr ⟨lw_in3 (List.mem_of_getElem? (i := 221) (by decide +kernel)), by decide +kernel⟩
theorem mw_478 : (.methodLink RX10 172 yX10_pair : Cond) ∈ lw_U := List.mem_filter.mpr ⟨lw_in4 (List.mem_of_getElem? (i := 164) (by decide +kernel)), by decide +kernel⟩
theorem mw_479 : (.code yX10_pair cX10_pair 4 (some .int) : Cond) ∈ lw_U := List.mem_filter.mpr ⟨lw_in4 (List.mem_of_getElem? (i := 167) (by decide +kernel)), by decide +kernel⟩
theorem mw_480 : (.instanceMethod yX10_pair : Cond) ∈ lw_U := List.mem_filter.mpr ⟨lw_in4 (List.mem_of_getElem? (i := 166) (by decide +kernel)), by decide +kernel⟩
theorem mw_481 : (.selects RX10 yX10_pair yX10_pair : Cond) ∈ lw_U := List.mem_filter.mpr ⟨List.mem_append_left _ (List.mem_of_getElem? (i := 27) (by decide +kernel)), by decide +kernel⟩
theorem mw_482 : (.fieldLink RX10 67 "TokenFloorModel" "pKind" "[I" : Cond) ∈ lw_U := List.mem_filter.mpr ⟨lw_in3 (List.mem_of_getElem? (i := 218) (by decide +kernel)), by decide +kernel⟩
theorem mw_483 : (.fieldLink RX10 70 "TokenFloorModel" "pValue" "[I" : Cond) ∈ lw_U := List.mem_filter.mpr ⟨lw_in3 (List.mem_of_getElem? (i := 219) (by decide +kernel)), by decide +kernel⟩
theorem mw_484 : (.fieldLink RX10 73 "TokenFloorModel" "pOf" "[I" : Cond) ∈ lw_U := List.mem_filter.mpr ⟨lw_in3 (List.mem_of_getElem? (i := 220) (by decide +kernel)), by decide +kernel⟩
theorem mw_485 : (.fieldLink RX10 82 "TokenFloorModel" "ready" "[I" : Cond) ∈ lw_U := List.mem_filter.mpr ⟨lw_in3 (List.mem_of_getElem? (i := 224) (by decide +kernel)), by decide +kernel⟩
theorem mw_486 : (.fieldLink RX10 175 "TokenFloorModel" "readyMany" "I" : Cond) ∈ lw_U := List.mem_filter.mpr ⟨lw_in3 (List.mem_of_getElem? (i := 225) (by decide +kernel)), by decide +kernel⟩
theorem mw_487 : (.methodLink RX10 178 yX10_comes : Cond) ∈ lw_U := List.mem_filter.mpr ⟨lw_in4 (List.mem_of_getElem? (i := 160) (by decide +kernel)), by decide +kernel⟩
theorem mw_488 : (.code yX10_comes cX10_comes 8 (some .boolean) : Cond) ∈ lw_U := List.mem_filter.mpr ⟨lw_in4 (List.mem_of_getElem? (i := 163) (by decide +kernel)), by decide +kernel⟩
theorem mw_489 : (.instanceMethod yX10_comes : Cond) ∈ lw_U := List.mem_filter.mpr ⟨lw_in4 (List.mem_of_getElem? (i := 162) (by decide +kernel)), by decide +kernel⟩
theorem mw_490 : (.selects RX10 yX10_comes yX10_comes : Cond) ∈ lw_U := List.mem_filter.mpr ⟨List.mem_append_left _ (List.mem_of_getElem? (i := 26) (by decide +kernel)), by decide +kernel⟩
theorem mw_491 : (.methodLink RX10 182 yX10_gives : Cond) ∈ lw_U := List.mem_filter.mpr ⟨lw_in4 (List.mem_of_getElem? (i := 181) (by decide +kernel)), by decide +kernel⟩
theorem mw_492 : (.code yX10_gives cX10_gives 8 (some .boolean) : Cond) ∈ lw_U := List.mem_filter.mpr ⟨lw_in4 (List.mem_of_getElem? (i := 184) (by decide +kernel)), by decide +kernel⟩
theorem mw_493 : (.instanceMethod yX10_gives : Cond) ∈ lw_U := List.mem_filter.mpr ⟨lw_in4 (List.mem_of_getElem? (i := 183) (by decide +kernel)), by decide +kernel⟩
theorem mw_494 : (.selects RX10 yX10_gives yX10_gives : Cond) ∈ lw_U := List.mem_filter.mpr ⟨List.mem_append_left _ (List.mem_of_getElem? (i := 31) (by decide +kernel)), by decide +kernel⟩
theorem mw_495 : (.methodLink RX10 185 yX10_kindAt : Cond) ∈ lw_U := List.mem_filter.mpr ⟨lw_in4 (List.mem_of_getElem? (i := 193) (by decide +kernel)), by decide +kernel⟩
theorem mw_496 : (.code yX10_kindAt cX10_kindAt 3 (some .int) : Cond) ∈ lw_U := List.mem_filter.mpr ⟨lw_in4 (List.mem_of_getElem? (i := 196) (by decide +kernel)), by decide +kernel⟩
theorem mw_497 : (.instanceMethod yX10_kindAt : Cond) ∈ lw_U := List.mem_filter.mpr ⟨lw_in4 (List.mem_of_getElem? (i := 195) (by decide +kernel)), by decide +kernel⟩
theorem mw_498 : (.selects RX10 yX10_kindAt yX10_kindAt : Cond) ∈ lw_U := List.mem_filter.mpr ⟨List.mem_append_left _ (List.mem_of_getElem? (i := 34) (by decide +kernel)), by decide +kernel⟩
theorem mw_499 : (.methodLink RX10 221 yX10_valueAt : Cond) ∈ lw_U := List.mem_filter.mpr ⟨lw_in4 (List.mem_of_getElem? (i := 197) (by decide +kernel)), by decide +kernel⟩
theorem mw_500 : (.code yX10_valueAt cX10_valueAt 3 (some .int) : Cond) ∈ lw_U := List.mem_filter.mpr ⟨lw_in4 (List.mem_of_getElem? (i := 200) (by decide +kernel)), by decide +kernel⟩
theorem mw_501 : (.instanceMethod yX10_valueAt : Cond) ∈ lw_U := List.mem_filter.mpr ⟨lw_in4 (List.mem_of_getElem? (i := 199) (by decide +kernel)), by decide +kernel⟩
theorem mw_502 : (.selects RX10 yX10_valueAt yX10_valueAt : Cond) ∈ lw_U := List.mem_filter.mpr ⟨List.mem_append_left _ (List.mem_of_getElem? (i := 35) (by decide +kernel)), by decide +kernel⟩
theorem mw_503 : (.methodLink RX10 188 yX10_passes : Cond) ∈ lw_U := List.mem_filter.mpr ⟨lw_in4 (List.mem_of_getElem? (i := 177) (by decide +kernel)), by decide +kernel⟩
theorem mw_504 : (.code yX10_passes cX10_passes 4 (some .boolean) : Cond) ∈ lw_U := List.mem_filter.mpr ⟨lw_in4 (List.mem_of_getElem? (i := 180) (by decide +kernel)), by decide +kernel⟩
theorem mw_505 : (.instanceMethod yX10_passes : Cond) ∈ lw_U := List.mem_filter.mpr ⟨lw_in4 (List.mem_of_getElem? (i := 179) (by decide +kernel)), by decide +kernel⟩
theorem mw_506 : (.selects RX10 yX10_passes yX10_passes : Cond) ∈ lw_U := List.mem_filter.mpr ⟨List.mem_append_left _ (List.mem_of_getElem? (i := 30) (by decide +kernel)), by decide +kernel⟩
theorem mw_507 : (.fieldLink RX10 218 "TokenFloorModel" "lost" "I" : Cond) ∈ lw_U := List.mem_filter.mpr ⟨lw_in3 (List.mem_of_getElem? (i := 205) (by decide +kernel)), by decide +kernel⟩
theorem mw_508 : (.methodLink RX10 228 yX10_faults : Cond) ∈ lw_U := List.mem_filter.mpr ⟨lw_in4 (List.mem_of_getElem? (i := 205) (by decide +kernel)), by decide +kernel⟩
theorem mw_509 : (.code yX10_faults cX10_faults 4 (some .boolean) : Cond) ∈ lw_U := List.mem_filter.mpr ⟨lw_in4 (List.mem_of_getElem? (i := 208) (by decide +kernel)), by decide +kernel⟩
theorem mw_510 : (.instanceMethod yX10_faults : Cond) ∈ lw_U := List.mem_filter.mpr ⟨lw_in4 (List.mem_of_getElem? (i := 207) (by decide +kernel)), by decide +kernel⟩
theorem mw_511 : (.selects RX10 yX10_faults yX10_faults : Cond) ∈ lw_U := List.mem_filter.mpr ⟨List.mem_append_left _ (List.mem_of_getElem? (i := 37) (by decide +kernel)), by decide +kernel⟩
theorem mw_512 : (.methodLink RX10 224 yX10_colour : Cond) ∈ lw_U := List.mem_filter.mpr ⟨lw_in4 (List.mem_of_getElem? (i := 152) (by decide +kernel)), by decide +kernel⟩
theorem mw_513 : (.code yX10_colour cX10_colour 6 (some .int) : Cond) ∈ lw_U := List.mem_filter.mpr ⟨lw_in4 (List.mem_of_getElem? (i := 155) (by decide +kernel)), by decide +kernel⟩
theorem mw_514 : (.instanceMethod yX10_colour : Cond) ∈ lw_U := List.mem_filter.mpr ⟨lw_in4 (List.mem_of_getElem? (i := 154) (by decide +kernel)), by decide +kernel⟩
theorem mw_515 : (.selects RX10 yX10_colour yX10_colour : Cond) ∈ lw_U := List.mem_filter.mpr ⟨List.mem_append_left _ (List.mem_of_getElem? (i := 24) (by decide +kernel)), by decide +kernel⟩
theorem mw_516 : (.fieldLink RX10 112 "TokenFloorModel" "endKind" "[I" : Cond) ∈ lw_U := List.mem_filter.mpr ⟨lw_in3 (List.mem_of_getElem? (i := 238) (by decide +kernel)), by decide +kernel⟩
theorem mw_517 : (.fieldLink RX10 115 "TokenFloorModel" "endValue" "[I" : Cond) ∈ lw_U := List.mem_filter.mpr ⟨lw_in3 (List.mem_of_getElem? (i := 239) (by decide +kernel)), by decide +kernel⟩
theorem mw_518 : (.fieldLink RX10 118 "TokenFloorModel" "endOf" "[I" : Cond) ∈ lw_U := List.mem_filter.mpr ⟨lw_in4 (List.mem_of_getElem? (i := 0) (by decide +kernel)), by decide +kernel⟩
theorem mw_519 : (.fieldLink RX10 231 "TokenFloorModel" "strays" "I" : Cond) ∈ lw_U := List.mem_filter.mpr ⟨lw_in3 (List.mem_of_getElem? (i := 206) (by decide +kernel)), by decide +kernel⟩
theorem mw_520 : (.fieldLink RX10 240 "TokenFloorModel" "cells" "I" : Cond) ∈ lw_U := List.mem_filter.mpr ⟨lw_in3 (List.mem_of_getElem? (i := 234) (by decide +kernel)), by decide +kernel⟩
theorem mw_521 : (.fieldLink RX10 237 "TokenFloorModel" "rows" "I" : Cond) ∈ lw_U := List.mem_filter.mpr ⟨lw_in3 (List.mem_of_getElem? (i := 233) (by decide +kernel)), by decide +kernel⟩
theorem mw_522 : (.fieldLink RX10 97 "TokenFloorModel" "cellKind" "[I" : Cond) ∈ lw_U := List.mem_filter.mpr ⟨lw_in3 (List.mem_of_getElem? (i := 230) (by decide +kernel)), by decide +kernel⟩
theorem mw_523 : (.fieldLink RX10 85 "TokenFloorModel" "rFrom" "[I" : Cond) ∈ lw_U := List.mem_filter.mpr ⟨lw_in3 (List.mem_of_getElem? (i := 226) (by decide +kernel)), by decide +kernel⟩
theorem mw_524 : (.fieldLink RX10 88 "TokenFloorModel" "rSize" "[I" : Cond) ∈ lw_U := List.mem_filter.mpr ⟨lw_in3 (List.mem_of_getElem? (i := 227) (by decide +kernel)), by decide +kernel⟩
theorem mw_525 : (.fieldLink RX10 91 "TokenFloorModel" "rAct" "[I" : Cond) ∈ lw_U := List.mem_filter.mpr ⟨lw_in3 (List.mem_of_getElem? (i := 228) (by decide +kernel)), by decide +kernel⟩
theorem mw_526 : (.fieldLink RX10 94 "TokenFloorModel" "rColour" "[I" : Cond) ∈ lw_U := List.mem_filter.mpr ⟨lw_in3 (List.mem_of_getElem? (i := 229) (by decide +kernel)), by decide +kernel⟩
theorem mw_527 : (.methodLink RX10 191 yX10_number : Cond) ∈ lw_U := List.mem_filter.mpr ⟨lw_in4 (List.mem_of_getElem? (i := 185) (by decide +kernel)), by decide +kernel⟩
theorem mw_528 : (.code yX10_number cX10_number 3 (some .boolean) : Cond) ∈ lw_U := List.mem_filter.mpr ⟨lw_in4 (List.mem_of_getElem? (i := 188) (by decide +kernel)), by decide +kernel⟩
theorem mw_529 : (.instanceMethod yX10_number : Cond) ∈ lw_U := List.mem_filter.mpr ⟨lw_in4 (List.mem_of_getElem? (i := 187) (by decide +kernel)), by decide +kernel⟩
theorem mw_530 : (.selects RX10 yX10_number yX10_number : Cond) ∈ lw_U := List.mem_filter.mpr ⟨List.mem_append_left _ (List.mem_of_getElem? (i := 32) (by decide +kernel)), by decide +kernel⟩
theorem mw_531 : (.methodLink RX10 234 yX10_makes : Cond) ∈ lw_U := List.mem_filter.mpr ⟨lw_in4 (List.mem_of_getElem? (i := 229) (by decide +kernel)), by decide +kernel⟩
theorem mw_532 : (.code yX10_makes cX10_makes 4 (some .boolean) : Cond) ∈ lw_U := List.mem_filter.mpr ⟨lw_in4 (List.mem_of_getElem? (i := 232) (by decide +kernel)), by decide +kernel⟩
theorem mw_533 : (.instanceMethod yX10_makes : Cond) ∈ lw_U := List.mem_filter.mpr ⟨lw_in4 (List.mem_of_getElem? (i := 231) (by decide +kernel)), by decide +kernel⟩
theorem mw_534 : (.selects RX10 yX10_makes yX10_makes : Cond) ∈ lw_U := List.mem_filter.mpr ⟨List.mem_append_left _ (List.mem_of_getElem? (i := 43) (by decide +kernel)), by decide +kernel⟩
theorem mw_535 : (.fieldLink RX10 242 "TokenFloorModel" "readers" "I" : Cond) ∈ lw_U := List.mem_filter.mpr ⟨lw_in3 (List.mem_of_getElem? (i := 237) (by decide +kernel)), by decide +kernel⟩
theorem mw_536 : (.fieldLink RX10 100 "TokenFloorModel" "cellValue" "[I" : Cond) ∈ lw_U := List.mem_filter.mpr ⟨lw_in3 (List.mem_of_getElem? (i := 231) (by decide +kernel)), by decide +kernel⟩
theorem mw_537 : (.fieldLink RX10 103 "TokenFloorModel" "cellOf" "[I" : Cond) ∈ lw_U := List.mem_filter.mpr ⟨lw_in3 (List.mem_of_getElem? (i := 232) (by decide +kernel)), by decide +kernel⟩
theorem mw_538 : (.fieldLink RX10 106 "TokenFloorModel" "readCell" "[I" : Cond) ∈ lw_U := List.mem_filter.mpr ⟨lw_in3 (List.mem_of_getElem? (i := 235) (by decide +kernel)), by decide +kernel⟩
theorem mw_539 : (.fieldLink RX10 109 "TokenFloorModel" "readPair" "[I" : Cond) ∈ lw_U := List.mem_filter.mpr ⟨lw_in3 (List.mem_of_getElem? (i := 236) (by decide +kernel)), by decide +kernel⟩
theorem mw_540 : (.methodLink RX10 209 yX10_faultOf : Cond) ∈ lw_U := List.mem_filter.mpr ⟨lw_in4 (List.mem_of_getElem? (i := 221) (by decide +kernel)), by decide +kernel⟩
theorem mw_541 : (.code yX10_faultOf cX10_faultOf 4 (some .int) : Cond) ∈ lw_U := List.mem_filter.mpr ⟨lw_in4 (List.mem_of_getElem? (i := 224) (by decide +kernel)), by decide +kernel⟩
theorem mw_542 : (.instanceMethod yX10_faultOf : Cond) ∈ lw_U := List.mem_filter.mpr ⟨lw_in4 (List.mem_of_getElem? (i := 223) (by decide +kernel)), by decide +kernel⟩
theorem mw_543 : (.selects RX10 yX10_faultOf yX10_faultOf : Cond) ∈ lw_U := List.mem_filter.mpr ⟨List.mem_append_left _ (List.mem_of_getElem? (i := 41) (by decide +kernel)), by decide +kernel⟩
theorem mw_544 : (.methodLink RX10 212 yX10_reckons : Cond) ∈ lw_U := List.mem_filter.mpr ⟨lw_in4 (List.mem_of_getElem? (i := 225) (by decide +kernel)), by decide +kernel⟩
theorem mw_545 : (.code yX10_reckons cX10_reckons 8 (some .boolean) : Cond) ∈ lw_U := List.mem_filter.mpr ⟨lw_in4 (List.mem_of_getElem? (i := 228) (by decide +kernel)), by decide +kernel⟩
theorem mw_546 : (.instanceMethod yX10_reckons : Cond) ∈ lw_U := List.mem_filter.mpr ⟨lw_in4 (List.mem_of_getElem? (i := 227) (by decide +kernel)), by decide +kernel⟩
theorem mw_547 : (.selects RX10 yX10_reckons yX10_reckons : Cond) ∈ lw_U := List.mem_filter.mpr ⟨List.mem_append_left _ (List.mem_of_getElem? (i := 42) (by decide +kernel)), by decide +kernel⟩
theorem mw_548 : (.methodLink RX10 215 yX10_cells : Cond) ∈ lw_U := List.mem_filter.mpr ⟨lw_in4 (List.mem_of_getElem? (i := 233) (by decide +kernel)), by decide +kernel⟩
theorem mw_549 : (.code yX10_cells cX10_cells 10 (some .boolean) : Cond) ∈ lw_U := List.mem_filter.mpr ⟨lw_in4 (List.mem_of_getElem? (i := 236) (by decide +kernel)), by decide +kernel⟩
theorem mw_550 : (.instanceMethod yX10_cells : Cond) ∈ lw_U := List.mem_filter.mpr ⟨lw_in4 (List.mem_of_getElem? (i := 235) (by decide +kernel)), by decide +kernel⟩
theorem mw_551 : (.selects RX10 yX10_cells yX10_cells : Cond) ∈ lw_U := List.mem_filter.mpr ⟨List.mem_append_left _ (List.mem_of_getElem? (i := 44) (by decide +kernel)), by decide +kernel⟩
theorem mw_552 : (.methodLink RX10 194 yX10_switches : Cond) ∈ lw_U := List.mem_filter.mpr ⟨lw_in4 (List.mem_of_getElem? (i := 189) (by decide +kernel)), by decide +kernel⟩
theorem mw_553 : (.code yX10_switches cX10_switches 2 (some .boolean) : Cond) ∈ lw_U := List.mem_filter.mpr ⟨lw_in4 (List.mem_of_getElem? (i := 192) (by decide +kernel)), by decide +kernel⟩
theorem mw_554 : (.instanceMethod yX10_switches : Cond) ∈ lw_U := List.mem_filter.mpr ⟨lw_in4 (List.mem_of_getElem? (i := 191) (by decide +kernel)), by decide +kernel⟩
theorem mw_555 : (.selects RX10 yX10_switches yX10_switches : Cond) ∈ lw_U := List.mem_filter.mpr ⟨List.mem_append_left _ (List.mem_of_getElem? (i := 33) (by decide +kernel)), by decide +kernel⟩
theorem mw_556 : (.methodLink RX10 197 yX10_loops : Cond) ∈ lw_U := List.mem_filter.mpr ⟨lw_in4 (List.mem_of_getElem? (i := 201) (by decide +kernel)), by decide +kernel⟩
theorem mw_557 : (.code yX10_loops cX10_loops 6 (some .boolean) : Cond) ∈ lw_U := List.mem_filter.mpr ⟨lw_in4 (List.mem_of_getElem? (i := 204) (by decide +kernel)), by decide +kernel⟩
theorem mw_558 : (.instanceMethod yX10_loops : Cond) ∈ lw_U := List.mem_filter.mpr ⟨lw_in4 (List.mem_of_getElem? (i := 203) (by decide +kernel)), by decide +kernel⟩
theorem mw_559 : (.selects RX10 yX10_loops yX10_loops : Cond) ∈ lw_U := List.mem_filter.mpr ⟨List.mem_append_left _ (List.mem_of_getElem? (i := 36) (by decide +kernel)), by decide +kernel⟩
theorem mw_560 : (.methodLink RX10 200 yX10_calls : Cond) ∈ lw_U := List.mem_filter.mpr ⟨lw_in4 (List.mem_of_getElem? (i := 209) (by decide +kernel)), by decide +kernel⟩
theorem mw_561 : (.code yX10_calls cX10_calls 6 (some .boolean) : Cond) ∈ lw_U := List.mem_filter.mpr ⟨lw_in4 (List.mem_of_getElem? (i := 212) (by decide +kernel)), by decide +kernel⟩
theorem mw_562 : (.instanceMethod yX10_calls : Cond) ∈ lw_U := List.mem_filter.mpr ⟨lw_in4 (List.mem_of_getElem? (i := 211) (by decide +kernel)), by decide +kernel⟩
theorem mw_563 : (.selects RX10 yX10_calls yX10_calls : Cond) ∈ lw_U := List.mem_filter.mpr ⟨List.mem_append_left _ (List.mem_of_getElem? (i := 38) (by decide +kernel)), by decide +kernel⟩
theorem mw_564 : (.methodLink RX10 203 yX10_returns : Cond) ∈ lw_U := List.mem_filter.mpr ⟨lw_in4 (List.mem_of_getElem? (i := 213) (by decide +kernel)), by decide +kernel⟩
theorem mw_565 : (.code yX10_returns cX10_returns 3 (some .boolean) : Cond) ∈ lw_U := List.mem_filter.mpr ⟨lw_in4 (List.mem_of_getElem? (i := 216) (by decide +kernel)), by decide +kernel⟩
theorem mw_566 : (.instanceMethod yX10_returns : Cond) ∈ lw_U := List.mem_filter.mpr ⟨lw_in4 (List.mem_of_getElem? (i := 215) (by decide +kernel)), by decide +kernel⟩
theorem mw_567 : (.selects RX10 yX10_returns yX10_returns : Cond) ∈ lw_U := List.mem_filter.mpr ⟨List.mem_append_left _ (List.mem_of_getElem? (i := 39) (by decide +kernel)), by decide +kernel⟩
theorem mw_568 : (.methodLink RX10 206 yX10_ends : Cond) ∈ lw_U := List.mem_filter.mpr ⟨lw_in4 (List.mem_of_getElem? (i := 217) (by decide +kernel)), by decide +kernel⟩
theorem mw_569 : (.code yX10_ends cX10_ends 3 (some .boolean) : Cond) ∈ lw_U := List.mem_filter.mpr ⟨lw_in4 (List.mem_of_getElem? (i := 220) (by decide +kernel)), by decide +kernel⟩
theorem mw_570 : (.instanceMethod yX10_ends : Cond) ∈ lw_U := List.mem_filter.mpr ⟨lw_in4 (List.mem_of_getElem? (i := 219) (by decide +kernel)), by decide +kernel⟩
theorem mw_571 : (.selects RX10 yX10_ends yX10_ends : Cond) ∈ lw_U := List.mem_filter.mpr ⟨List.mem_append_left _ (List.mem_of_getElem? (i := 40) (by decide +kernel)), by decide +kernel⟩
theorem mw_572 : (.fieldLink RX10 79 "TokenFloorModel" "fired" "[I" : Cond) ∈ lw_U := List.mem_filter.mpr ⟨lw_in3 (List.mem_of_getElem? (i := 222) (by decide +kernel)), by decide +kernel⟩
theorem mw_573 : (.fieldLink RX10 245 "TokenFloorModel" "steps" "I" : Cond) ∈ lw_U := List.mem_filter.mpr ⟨lw_in3 (List.mem_of_getElem? (i := 202) (by decide +kernel)), by decide +kernel⟩
theorem mw_574 : (.fieldLink RX10 248 "TokenFloorModel" "ticked" "I" : Cond) ∈ lw_U := List.mem_filter.mpr ⟨lw_in3 (List.mem_of_getElem? (i := 203) (by decide +kernel)), by decide +kernel⟩
theorem mw_575 : (.fieldLink RX10 251 "TokenFloorModel" "most" "I" : Cond) ∈ lw_U := List.mem_filter.mpr ⟨lw_in3 (List.mem_of_getElem? (i := 204) (by decide +kernel)), by decide +kernel⟩
theorem mw_576 : (.methodLink RX10 254 yX10_goesOff : Cond) ∈ lw_U := List.mem_filter.mpr ⟨lw_in4 (List.mem_of_getElem? (i := 173) (by decide +kernel)), by decide +kernel⟩
theorem mw_577 : (.code yX10_goesOff cX10_goesOff 6 (some .boolean) : Cond) ∈ lw_U := List.mem_filter.mpr ⟨lw_in4 (List.mem_of_getElem? (i := 176) (by decide +kernel)), by decide +kernel⟩
theorem mw_578 : (.instanceMethod yX10_goesOff : Cond) ∈ lw_U := List.mem_filter.mpr ⟨lw_in4 (List.mem_of_getElem? (i := 175) (by decide +kernel)), by decide +kernel⟩
theorem mw_579 : (.selects RX10 yX10_goesOff yX10_goesOff : Cond) ∈ lw_U := List.mem_filter.mpr ⟨List.mem_append_left _ (List.mem_of_getElem? (i := 29) (by decide +kernel)), by decide +kernel⟩
theorem mw_580 : (.methodLink RX10 261 yX10_stepped : Cond) ∈ lw_U := List.mem_filter.mpr ⟨lw_in4 (List.mem_of_getElem? (i := 169) (by decide +kernel)), by decide +kernel⟩
theorem mw_581 : (.code yX10_stepped cX10_stepped 4 none : Cond) ∈ lw_U := List.mem_filter.mpr ⟨lw_in4 (List.mem_of_getElem? (i := 172) (by decide +kernel)), by decide +kernel⟩
theorem mw_582 : (.instanceMethod yX10_stepped : Cond) ∈ lw_U := List.mem_filter.mpr ⟨lw_in4 (List.mem_of_getElem? (i := 171) (by decide +kernel)), by decide +kernel⟩
theorem mw_583 : (.selects RX10 yX10_stepped yX10_stepped : Cond) ∈ lw_U := List.mem_filter.mpr ⟨List.mem_append_left _ (List.mem_of_getElem? (i := 28) (by decide +kernel)), by decide +kernel⟩
theorem mw_584 : (.constant RX10 260 1103515245 : Cond) ∈ lw_U := List.mem_filter.mpr ⟨lw_in4 (List.mem_of_getElem? (i := 168) (by decide +kernel)), by decide +kernel⟩
theorem mw_585 : (.methodLink RX10 257 yX10_begins : Cond) ∈ lw_U := List.mem_filter.mpr ⟨lw_in4 (List.mem_of_getElem? (i := 148) (by decide +kernel)), by decide +kernel⟩
theorem mw_586 : (.code yX10_begins cX10_begins 3 none : Cond) ∈ lw_U := List.mem_filter.mpr ⟨lw_in4 (List.mem_of_getElem? (i := 151) (by decide +kernel)), by decide +kernel⟩
theorem mw_587 : (.instanceMethod yX10_begins : Cond) ∈ lw_U := List.mem_filter.mpr ⟨lw_in4 (List.mem_of_getElem? (i := 150) (by decide +kernel)), by decide +kernel⟩
theorem mw_588 : (.selects RX10 yX10_begins yX10_begins : Cond) ∈ lw_U := List.mem_filter.mpr ⟨List.mem_append_left _ (List.mem_of_getElem? (i := 23) (by decide +kernel)), by decide +kernel⟩
theorem mw_589 : (.methodLink RX10 265 yX10_left : Cond) ∈ lw_U := List.mem_filter.mpr ⟨lw_in5 (List.mem_of_getElem? (i := 5) (by decide +kernel)), by decide +kernel⟩
theorem mw_590 : (.code yX10_left cX10_left 4 (some .int) : Cond) ∈ lw_U := List.mem_filter.mpr ⟨lw_in5 (List.mem_of_getElem? (i := 8) (by decide +kernel)), by decide +kernel⟩
theorem mw_591 : (.instanceMethod yX10_left : Cond) ∈ lw_U := List.mem_filter.mpr ⟨lw_in5 (List.mem_of_getElem? (i := 7) (by decide +kernel)), by decide +kernel⟩
theorem mw_592 : (.selects RX10 yX10_left yX10_left : Cond) ∈ lw_U := List.mem_filter.mpr ⟨List.mem_append_left _ (List.mem_of_getElem? (i := 45) (by decide +kernel)), by decide +kernel⟩
theorem mw_593 : (.methodLink RX10 269 yX10_waiting : Cond) ∈ lw_U := List.mem_filter.mpr ⟨lw_in5 (List.mem_of_getElem? (i := 9) (by decide +kernel)), by decide +kernel⟩
theorem mw_594 : (.code yX10_waiting cX10_waiting 3 (some .int) : Cond) ∈ lw_U := List.mem_filter.mpr ⟨lw_in5 (List.mem_of_getElem? (i := 12) (by decide +kernel)), by decide +kernel⟩
theorem mw_595 : (.instanceMethod yX10_waiting : Cond) ∈ lw_U := List.mem_filter.mpr ⟨lw_in5 (List.mem_of_getElem? (i := 11) (by decide +kernel)), by decide +kernel⟩
theorem mw_596 : (.selects RX10 yX10_waiting yX10_waiting : Cond) ∈ lw_U := List.mem_filter.mpr ⟨List.mem_append_left _ (List.mem_of_getElem? (i := 46) (by decide +kernel)), by decide +kernel⟩
theorem mw_597 : (.methodLink RX10 272 yX10_told1 : Cond) ∈ lw_U := List.mem_filter.mpr ⟨lw_in5 (List.mem_of_getElem? (i := 17) (by decide +kernel)), by decide +kernel⟩
theorem mw_598 : (.code yX10_told1 cX10_told1 5 (some .int) : Cond) ∈ lw_U := List.mem_filter.mpr ⟨lw_in5 (List.mem_of_getElem? (i := 20) (by decide +kernel)), by decide +kernel⟩
theorem mw_599 : (.instanceMethod yX10_told1 : Cond) ∈ lw_U := List.mem_filter.mpr ⟨lw_in5 (List.mem_of_getElem? (i := 19) (by decide +kernel)), by decide +kernel⟩
theorem mw_600 : (.selects RX10 yX10_told1 yX10_told1 : Cond) ∈ lw_U := List.mem_filter.mpr ⟨List.mem_append_left _ (List.mem_of_getElem? (i := 47) (by decide +kernel)), by decide +kernel⟩
theorem mw_601 : (.methodLink RX10 275 yX10_end : Cond) ∈ lw_U := List.mem_filter.mpr ⟨lw_in5 (List.mem_of_getElem? (i := 42) (by decide +kernel)), by decide +kernel⟩
theorem mw_602 : (.code yX10_end cX10_end 3 (some .int) : Cond) ∈ lw_U := List.mem_filter.mpr ⟨lw_in5 (List.mem_of_getElem? (i := 16) (by decide +kernel)), by decide +kernel⟩
theorem mw_603 : (.instanceMethod yX10_end : Cond) ∈ lw_U := List.mem_filter.mpr ⟨lw_in5 (List.mem_of_getElem? (i := 14) (by decide +kernel)), by decide +kernel⟩
theorem mw_604 : (.selects RX10 yX10_end yX10_end : Cond) ∈ lw_U := List.mem_filter.mpr ⟨lw_in5 (List.mem_of_getElem? (i := 15) (by decide +kernel)), by decide +kernel⟩
theorem mw_605 : (.fieldLink RX10 121 "TokenFloorModel" "was" "[I" : Cond) ∈ lw_U := List.mem_filter.mpr ⟨lw_in4 (List.mem_of_getElem? (i := 1) (by decide +kernel)), by decide +kernel⟩
theorem mw_606 : (.fieldLink RX10 124 "TokenFloorModel" "is" "[I" : Cond) ∈ lw_U := List.mem_filter.mpr ⟨lw_in4 (List.mem_of_getElem? (i := 2) (by decide +kernel)), by decide +kernel⟩
theorem mw_607 : (.methodLink RX10 278 yX10_run : Cond) ∈ lw_U := List.mem_filter.mpr ⟨lw_in5 (List.mem_of_getElem? (i := 37) (by decide +kernel)), by decide +kernel⟩
theorem mw_608 : (.code yX10_run cX10_run 4 (some .int) : Cond) ∈ lw_U := List.mem_filter.mpr ⟨lw_in4 (List.mem_of_getElem? (i := 147) (by decide +kernel)), by decide +kernel⟩
theorem mw_609 : (.instanceMethod yX10_run : Cond) ∈ lw_U := List.mem_filter.mpr ⟨lw_in4 (List.mem_of_getElem? (i := 145) (by decide +kernel)), by decide +kernel⟩
theorem mw_610 : (.selects RX10 yX10_run yX10_run : Cond) ∈ lw_U := List.mem_filter.mpr ⟨lw_in4 (List.mem_of_getElem? (i := 146) (by decide +kernel)), by decide +kernel⟩
theorem mw_611 : (.methodLink RX10 281 yX10_notes : Cond) ∈ lw_U := List.mem_filter.mpr ⟨lw_in5 (List.mem_of_getElem? (i := 38) (by decide +kernel)), by decide +kernel⟩
theorem mw_612 : (.code yX10_notes cX10_notes 4 none : Cond) ∈ lw_U := List.mem_filter.mpr ⟨lw_in5 (List.mem_of_getElem? (i := 41) (by decide +kernel)), by decide +kernel⟩
theorem mw_613 : (.instanceMethod yX10_notes : Cond) ∈ lw_U := List.mem_filter.mpr ⟨lw_in5 (List.mem_of_getElem? (i := 40) (by decide +kernel)), by decide +kernel⟩
theorem mw_614 : (.selects RX10 yX10_notes yX10_notes : Cond) ∈ lw_U := List.mem_filter.mpr ⟨List.mem_append_left _ (List.mem_of_getElem? (i := 48) (by decide +kernel)), by decide +kernel⟩
theorem mw_615 : (.methodLink RX0 5 objectInit : Cond) ∈ lw_U := List.mem_filter.mpr ⟨lw_in1 (List.mem_of_getElem? (i := 146) (by decide +kernel)), by decide +kernel⟩
theorem mw_616 : (.instanceMethod objectInit : Cond) ∈ lw_U := List.mem_filter.mpr ⟨lw_in1 (List.mem_of_getElem? (i := 21) (by decide +kernel)), by decide +kernel⟩
theorem mw_617 : (.code objectInit ⟨#[0xb1]⟩ 1 none : Cond) ∈ lw_U := List.mem_filter.mpr ⟨lw_in1 (List.mem_of_getElem? (i := 22) (by decide +kernel)), by decide +kernel⟩
theorem mw_618 : (.arrayClass .int : Cond) ∈ lw_U := List.mem_filter.mpr ⟨lw_in1 (List.mem_of_getElem? (i := 91) (by decide +kernel)), by decide +kernel⟩
theorem mw_619 : (.methodLink RX1 3 objectInit : Cond) ∈ lw_U := List.mem_filter.mpr ⟨lw_in1 (List.mem_of_getElem? (i := 172) (by decide +kernel)), by decide +kernel⟩
theorem mw_620 : (.arrayClass .long : Cond) ∈ lw_U := List.mem_filter.mpr ⟨lw_in1 (List.mem_of_getElem? (i := 140) (by decide +kernel)), by decide +kernel⟩
theorem mw_621 : (.methodLink RX5 3 objectInit : Cond) ∈ lw_U := List.mem_filter.mpr ⟨lw_in1 (List.mem_of_getElem? (i := 206) (by decide +kernel)), by decide +kernel⟩
theorem mw_622 : (.methodLink RX6 3 objectInit : Cond) ∈ lw_U := List.mem_filter.mpr ⟨lw_in1 (List.mem_of_getElem? (i := 103) (by decide +kernel)), by decide +kernel⟩
theorem mw_623 : (.methodLink RX2 3 objectInit : Cond) ∈ lw_U := List.mem_filter.mpr ⟨lw_in1 (List.mem_of_getElem? (i := 28) (by decide +kernel)), by decide +kernel⟩
theorem mw_624 : (.methodLink RX10 1 objectInit : Cond) ∈ lw_U := List.mem_filter.mpr ⟨lw_in3 (List.mem_of_getElem? (i := 185) (by decide +kernel)), by decide +kernel⟩
theorem mw_625 : (.methodLink RX4 3 objectInit : Cond) ∈ lw_U := List.mem_filter.mpr ⟨lw_in1 (List.mem_of_getElem? (i := 97) (by decide +kernel)), by decide +kernel⟩
theorem mw_626 : (.classLink RX4 9 RX6 : Cond) ∈ lw_U := List.mem_filter.mpr ⟨lw_in1 (List.mem_of_getElem? (i := 98) (by decide +kernel)), by decide +kernel⟩
theorem mw_627 : (.instantiable RX6 10 : Cond) ∈ lw_U := List.mem_filter.mpr ⟨lw_in1 (List.mem_of_getElem? (i := 99) (by decide +kernel)), by decide +kernel⟩
theorem mw_628 : (.instanceMethod yX6_init : Cond) ∈ lw_U := List.mem_filter.mpr ⟨lw_in1 (List.mem_of_getElem? (i := 101) (by decide +kernel)), by decide +kernel⟩
theorem mw_629 : (.code yX6_init cX6_init 1 none : Cond) ∈ lw_U := List.mem_filter.mpr ⟨lw_in1 (List.mem_of_getElem? (i := 102) (by decide +kernel)), by decide +kernel⟩
theorem mw_630 : (.classLink RX4 26 RX0 : Cond) ∈ lw_U := List.mem_filter.mpr ⟨lw_in1 (List.mem_of_getElem? (i := 141) (by decide +kernel)), by decide +kernel⟩
theorem mw_631 : (.instantiable RX0 6 : Cond) ∈ lw_U := List.mem_filter.mpr ⟨lw_in1 (List.mem_of_getElem? (i := 142) (by decide +kernel)), by decide +kernel⟩
theorem mw_632 : (.instanceMethod yX0_init : Cond) ∈ lw_U := List.mem_filter.mpr ⟨lw_in1 (List.mem_of_getElem? (i := 144) (by decide +kernel)), by decide +kernel⟩
theorem mw_633 : (.code yX0_init cX0_init 1 none : Cond) ∈ lw_U := List.mem_filter.mpr ⟨lw_in1 (List.mem_of_getElem? (i := 145) (by decide +kernel)), by decide +kernel⟩
theorem mw_634 : (.classLink RX4 33 RX1 : Cond) ∈ lw_U := List.mem_filter.mpr ⟨lw_in1 (List.mem_of_getElem? (i := 167) (by decide +kernel)), by decide +kernel⟩
theorem mw_635 : (.instantiable RX1 8 : Cond) ∈ lw_U := List.mem_filter.mpr ⟨lw_in1 (List.mem_of_getElem? (i := 168) (by decide +kernel)), by decide +kernel⟩
theorem mw_636 : (.instanceMethod yX1_init : Cond) ∈ lw_U := List.mem_filter.mpr ⟨lw_in1 (List.mem_of_getElem? (i := 170) (by decide +kernel)), by decide +kernel⟩
theorem mw_637 : (.code yX1_init cX1_init 1 none : Cond) ∈ lw_U := List.mem_filter.mpr ⟨lw_in1 (List.mem_of_getElem? (i := 171) (by decide +kernel)), by decide +kernel⟩
theorem mw_638 : (.classLink RX4 40 RX5 : Cond) ∈ lw_U := List.mem_filter.mpr ⟨lw_in1 (List.mem_of_getElem? (i := 201) (by decide +kernel)), by decide +kernel⟩
theorem mw_639 : (.instantiable RX5 3 : Cond) ∈ lw_U := List.mem_filter.mpr ⟨lw_in1 (List.mem_of_getElem? (i := 202) (by decide +kernel)), by decide +kernel⟩
theorem mw_640 : (.instanceMethod yX5_init : Cond) ∈ lw_U := List.mem_filter.mpr ⟨lw_in1 (List.mem_of_getElem? (i := 204) (by decide +kernel)), by decide +kernel⟩
theorem mw_641 : (.code yX5_init cX5_init 1 none : Cond) ∈ lw_U := List.mem_filter.mpr ⟨lw_in1 (List.mem_of_getElem? (i := 205) (by decide +kernel)), by decide +kernel⟩
theorem mw_642 : (.methodLink RX9 1 objectInit : Cond) ∈ lw_U := List.mem_filter.mpr ⟨lw_in1 (List.mem_of_getElem? (i := 20) (by decide +kernel)), by decide +kernel⟩
theorem mw_643 : (.classLink RX9 7 RX2 : Cond) ∈ lw_U := List.mem_filter.mpr ⟨lw_in1 (List.mem_of_getElem? (i := 23) (by decide +kernel)), by decide +kernel⟩
theorem mw_644 : (.instantiable RX2 15 : Cond) ∈ lw_U := List.mem_filter.mpr ⟨lw_in1 (List.mem_of_getElem? (i := 24) (by decide +kernel)), by decide +kernel⟩
theorem mw_645 : (.instanceMethod yX2_init : Cond) ∈ lw_U := List.mem_filter.mpr ⟨lw_in1 (List.mem_of_getElem? (i := 26) (by decide +kernel)), by decide +kernel⟩
theorem mw_646 : (.code yX2_init cX2_init 1 none : Cond) ∈ lw_U := List.mem_filter.mpr ⟨lw_in1 (List.mem_of_getElem? (i := 27) (by decide +kernel)), by decide +kernel⟩
theorem mw_647 : (.methodLink RX9 9 yX2_init : Cond) ∈ lw_U := List.mem_filter.mpr ⟨lw_in1 (List.mem_of_getElem? (i := 25) (by decide +kernel)), by decide +kernel⟩
theorem mw_648 : (.classLink RX9 16 RX4 : Cond) ∈ lw_U := List.mem_filter.mpr ⟨lw_in1 (List.mem_of_getElem? (i := 92) (by decide +kernel)), by decide +kernel⟩
theorem mw_649 : (.instantiable RX4 14 : Cond) ∈ lw_U := List.mem_filter.mpr ⟨lw_in1 (List.mem_of_getElem? (i := 93) (by decide +kernel)), by decide +kernel⟩
theorem mw_650 : (.instanceMethod yX4_init : Cond) ∈ lw_U := List.mem_filter.mpr ⟨lw_in1 (List.mem_of_getElem? (i := 95) (by decide +kernel)), by decide +kernel⟩
theorem mw_651 : (.code yX4_init cX4_init 2 none : Cond) ∈ lw_U := List.mem_filter.mpr ⟨lw_in1 (List.mem_of_getElem? (i := 96) (by decide +kernel)), by decide +kernel⟩
theorem mw_652 : (.methodLink RX9 18 yX4_init : Cond) ∈ lw_U := List.mem_filter.mpr ⟨lw_in1 (List.mem_of_getElem? (i := 94) (by decide +kernel)), by decide +kernel⟩
-- X0 in chunks [0]
set_option maxRecDepth 20000 in
theorem iw_X0 : ∀ w ∈ u_ws RX0 TX0 6, w ∈ lw_U := fun w h => List.mem_filter.mpr ⟨lw_in1 ((by decide +kernel : ∀ w ∈ u_ws RX0 TX0 6, w ∈ tables_1_1) w h), (by decide +kernel : ∀ w ∈ u_ws RX0 TX0 6, goodWord w = true) w h⟩
-- X1 in chunks [0]
set_option maxRecDepth 20000 in
theorem iw_X1 : ∀ w ∈ u_ws RX1 TX1 8, w ∈ lw_U := fun w h => List.mem_filter.mpr ⟨lw_in1 ((by decide +kernel : ∀ w ∈ u_ws RX1 TX1 8, w ∈ tables_1_1) w h), (by decide +kernel : ∀ w ∈ u_ws RX1 TX1 8, goodWord w = true) w h⟩
-- X2 in chunks [0]
set_option maxRecDepth 20000 in
theorem iw_X2 : ∀ w ∈ u_ws RX2 TX2 15, w ∈ lw_U := fun w h => List.mem_filter.mpr ⟨lw_in1 ((by decide +kernel : ∀ w ∈ u_ws RX2 TX2 15, w ∈ tables_1_1) w h), (by decide +kernel : ∀ w ∈ u_ws RX2 TX2 15, goodWord w = true) w h⟩
-- X4 in chunks [0, 1]
set_option maxRecDepth 20000 in
theorem iw_X4 : ∀ w ∈ u_ws RX4 TX4 14, w ∈ lw_U := fun w h => List.mem_filter.mpr ⟨(List.mem_append.mp ((by decide +kernel : ∀ w ∈ u_ws RX4 TX4 14, w ∈ tables_1_1 ++ tables_1_2) w h)).elim lw_in1 lw_in2, (by decide +kernel : ∀ w ∈ u_ws RX4 TX4 14, goodWord w = true) w h⟩
-- X5 in chunks [0]
set_option maxRecDepth 20000 in
theorem iw_X5 : ∀ w ∈ u_ws RX5 TX5 3, w ∈ lw_U := fun w h => List.mem_filter.mpr ⟨lw_in1 ((by decide +kernel : ∀ w ∈ u_ws RX5 TX5 3, w ∈ tables_1_1) w h), (by decide +kernel : ∀ w ∈ u_ws RX5 TX5 3, goodWord w = true) w h⟩
-- X6 in chunks [0]
set_option maxRecDepth 20000 in
theorem iw_X6 : ∀ w ∈ u_ws RX6 TX6 10, w ∈ lw_U := fun w h => List.mem_filter.mpr ⟨lw_in1 ((by decide +kernel : ∀ w ∈ u_ws RX6 TX6 10, w ∈ tables_1_1) w h), (by decide +kernel : ∀ w ∈ u_ws RX6 TX6 10, goodWord w = true) w h⟩
-- X9 in chunks [1]
set_option maxRecDepth 20000 in
theorem iw_X9 : ∀ w ∈ u_ws RX9 TX9 5, w ∈ lw_U := fun w h => List.mem_filter.mpr ⟨lw_in2 ((by decide +kernel : ∀ w ∈ u_ws RX9 TX9 5, w ∈ tables_1_2) w h), (by decide +kernel : ∀ w ∈ u_ws RX9 TX9 5, goodWord w = true) w h⟩
-- X10 in chunks [3]
set_option maxRecDepth 20000 in
theorem iw_X10 : ∀ w ∈ u_ws RX10 TX10 57, w ∈ lw_U := fun w h => List.mem_filter.mpr ⟨lw_in4 ((by decide +kernel : ∀ w ∈ u_ws RX10 TX10 57, w ∈ tables_1_4) w h), (by decide +kernel : ∀ w ∈ u_ws RX10 TX10 57, goodWord w = true) w h⟩
theorem gU_X0_31 : GoodIn lw_U (wsV RX0 31 RX0 yX0_add wU_X0_add) := gUV mw_6 mw_9 mw_10 mw_8 mw_7
theorem gU_X0_35 : GoodIn lw_U (wsV RX0 35 RX0 yX0_reach wU_X0_reach) := gUV mw_11 mw_13 mw_14 mw_8 mw_12
theorem gU_X1_38 : GoodIn lw_U (va_wsS RX1 38 yJ7_fill_53178 wU_J7_fill_53178) := gUS mw_18 mw_21 mw_20 mw_19
theorem gU_X2_58 : GoodIn lw_U (wsV RX2 58 RX2 yX2_hasAct wU_X2_hasAct) := gUV mw_28 mw_31 mw_32 mw_30 mw_29
theorem gU_X3_11 : GoodIn lw_U (va_wsS RX3 11 yX3_exists wU_X3_exists) := gUS mw_34 mw_37 mw_36 mw_35
theorem gU_X2_74 : GoodIn lw_U (va_wsS RX2 74 yX3_portsOf wU_X3_portsOf) := gUS mw_41 mw_43 mw_36 mw_42
theorem gU_X2_62 : GoodIn lw_U (va_wsS RX2 62 yX3_exists wU_X3_exists) := gUS mw_45 mw_37 mw_36 mw_35
theorem gU_X2_67 : GoodIn lw_U (va_wsS RX2 67 yX3_allowsNumber wU_X3_allowsNumber) := gUS mw_46 mw_48 mw_36 mw_47
theorem gU_X2_71 : GoodIn lw_U (va_wsS RX2 71 yX3_allowsPorts wU_X3_allowsPorts) := gUS mw_49 mw_51 mw_36 mw_50
theorem gU_X2_78 : GoodIn lw_U (va_wsS RX2 78 yX3_hasSide wU_X3_hasSide) := gUS mw_52 mw_54 mw_36 mw_53
theorem gU_X2_81 : GoodIn lw_U (wsV RX2 81 RX2 yX2_hasPort wU_X2_hasPort) := gUV mw_55 mw_57 mw_58 mw_30 mw_56
theorem gU_X2_48 : GoodIn lw_U (va_wsS RX2 48 yJ7_fill_53178 wU_J7_fill_53178) := gUS mw_69 mw_21 mw_20 mw_19
theorem gU_X2_90 : GoodIn lw_U (wsV RX2 90 RX2 yX2_firstWayOf wU_X2_firstWayOf) := gUV mw_70 mw_72 mw_73 mw_30 mw_71
theorem gU_X6_44 : GoodIn lw_U (va_wsS RX6 44 yJ7_fill_53178 wU_J7_fill_53178) := gUS mw_80 mw_21 mw_20 mw_19
theorem gU_X4_315 : GoodIn lw_U (wsV RX4 315 RX1 yX1_hadToken wU_X1_hadToken) := gUV mw_87 mw_90 mw_91 mw_89 mw_88
theorem gU_X4_318 : GoodIn lw_U (wsV RX4 318 RX1 yX1_put wU_X1_put) := gUV mw_94 mw_96 mw_97 mw_89 mw_95
theorem gU_X4_322 : GoodIn lw_U (wsV RX4 322 RX5 yX5_add wU_X5_add) := gUV mw_99 mw_102 mw_103 mw_101 mw_100
theorem gU_X4_284 : GoodIn lw_U (wsV RX4 284 RX4 yX4_clashAt wU_X4_clashAt) := gUV mw_104 mw_107 mw_108 mw_106 mw_105
theorem gU_X4_309 : GoodIn lw_U (wsV RX4 309 RX1 yX1_find wU_X1_find) := gUV mw_109 mw_111 mw_112 mw_89 mw_110
theorem gU_X4_312 : GoodIn lw_U (wsV RX4 312 RX1 yX1_add wU_X1_add) := gUV mw_113 mw_115 mw_116 mw_89 mw_114
theorem gU_X4_151 : GoodIn lw_U (va_wsS RX4 151 yX8_ofNumber wU_X8_ofNumber) := gUS mw_119 mw_122 mw_121 mw_120
theorem gU_X4_160 : GoodIn lw_U (wsV RX4 160 RX4 yX4_arrive wU_X4_arrive) := gUV mw_125 mw_127 mw_128 mw_106 mw_126
theorem gU_X4_128 : GoodIn lw_U (wsV RX4 128 RX0 yX0_reset wU_X0_reset) := gUV mw_130 mw_132 mw_133 mw_8 mw_131
theorem gU_X4_131 : GoodIn lw_U (wsV RX4 131 RX1 yX1_reset wU_X1_reset) := gUV mw_134 mw_136 mw_137 mw_89 mw_135
theorem gU_X4_132 : GoodIn lw_U (wsV RX4 132 RX5 yX5_reset wU_X5_reset) := gUV mw_138 mw_140 mw_141 mw_101 mw_139
theorem gU_X4_133 : GoodIn lw_U (wsV RX4 133 RX6 yX6_reset wU_X6_reset) := gUV mw_143 mw_146 mw_147 mw_145 mw_144
theorem gU_X4_140 : GoodIn lw_U (va_wsS RX4 140 yJ7_fill_d0a16 wU_J7_fill_d0a16) := gUS mw_155 mw_157 mw_20 mw_156
theorem gU_X4_134 : GoodIn lw_U (va_wsS RX4 134 yJ7_fill_53178 wU_J7_fill_53178) := gUS mw_158 mw_21 mw_20 mw_19
theorem gU_X4_59 : GoodIn lw_U (wsV RX4 59 RX5 yX5_size wU_X5_size) := gUV mw_159 mw_161 mw_162 mw_101 mw_160
theorem gU_X5_22 : GoodIn lw_U (wsV RX5 22 RX5 yX5_size wU_X5_size) := gUV mw_163 mw_161 mw_162 mw_101 mw_160
theorem gU_X4_297 : GoodIn lw_U (wsV RX4 297 RX2 yX2_firstWayOf wU_X2_firstWayOf) := gUV mw_171 mw_72 mw_73 mw_30 mw_71
theorem gU_X4_105 : GoodIn lw_U (va_wsS RX4 105 yX8_sortOf wU_X8_sortOf) := gUS mw_172 mw_174 mw_121 mw_173
theorem gU_X4_111 : GoodIn lw_U (va_wsS RX4 111 yX8_contentOf wU_X8_contentOf) := gUS mw_175 mw_177 mw_121 mw_176
theorem gU_X4_192 : GoodIn lw_U (wsV RX4 192 RX4 yX4_give wU_X4_give) := gUV mw_178 mw_180 mw_181 mw_106 mw_179
theorem gU_X4_237 : GoodIn lw_U (wsV RX4 237 RX0 yX0_isTurnOf wU_X0_isTurnOf) := gUV mw_184 mw_186 mw_187 mw_8 mw_185
theorem gU_X4_249 : GoodIn lw_U (wsV RX4 249 RX0 yX0_outerOf wU_X0_outerOf) := gUV mw_189 mw_191 mw_192 mw_8 mw_190
theorem gU_X4_246 : GoodIn lw_U (wsV RX4 246 RX0 yX0_nextTurn wU_X0_nextTurn) := gUV mw_193 mw_195 mw_196 mw_8 mw_194
theorem gU_X4_241 : GoodIn lw_U (va_wsS RX4 241 yX8_ofFault wU_X8_ofFault) := gUS mw_197 mw_199 mw_121 mw_198
theorem gU_X4_258 : GoodIn lw_U (wsV RX4 258 RX2 yX2_parameterFor wU_X2_parameterFor) := gUV mw_200 mw_202 mw_203 mw_30 mw_201
theorem gU_X4_175 : GoodIn lw_U (wsV RX4 175 RX1 yX1_cameTo wU_X1_cameTo) := gUV mw_204 mw_206 mw_207 mw_89 mw_205
theorem gU_X4_252 : GoodIn lw_U (wsV RX4 252 RX0 yX0_callBy wU_X0_callBy) := gUV mw_208 mw_210 mw_211 mw_8 mw_209
theorem gU_X4_261 : GoodIn lw_U (wsV RX4 261 RX0 yX0_callerOf wU_X0_callerOf) := gUV mw_212 mw_214 mw_215 mw_8 mw_213
theorem gU_X8_21 : GoodIn lw_U (va_wsS RX8 21 yX8_sortOf wU_X8_sortOf) := gUS mw_216 mw_174 mw_121 mw_173
theorem gU_X8_25 : GoodIn lw_U (va_wsS RX8 25 yX8_ofFault wU_X8_ofFault) := gUS mw_217 mw_199 mw_121 mw_198
theorem gU_X4_264 : GoodIn lw_U (wsV RX4 264 RX6 yX6_make wU_X6_make) := gUV mw_224 mw_226 mw_227 mw_145 mw_225
theorem gU_X4_124 : GoodIn lw_U (va_wsS RX4 124 yX8_ofRow wU_X8_ofRow) := gUS mw_228 mw_230 mw_121 mw_229
theorem gU_X4_229 : GoodIn lw_U (va_wsS RX4 229 yX8_refuse wU_X8_refuse) := gUS mw_232 mw_234 mw_121 mw_233
theorem gU_X6_52 : GoodIn lw_U (wsV RX6 52 RX6 yX6_sizeOf wU_X6_sizeOf) := gUV mw_235 mw_237 mw_238 mw_145 mw_236
theorem gU_X4_294 : GoodIn lw_U (wsV RX4 294 RX6 yX6_placeIn wU_X6_placeIn) := gUV mw_239 mw_241 mw_242 mw_145 mw_240
theorem gU_X4_290 : GoodIn lw_U (va_wsS RX4 290 yX8_refuseTwo wU_X8_refuseTwo) := gUS mw_243 mw_245 mw_121 mw_244
theorem gU_X4_270 : GoodIn lw_U (wsV RX4 270 RX4 yX4_placeAsked wU_X4_placeAsked) := gUV mw_247 mw_249 mw_250 mw_106 mw_248
theorem gU_X4_273 : GoodIn lw_U (wsV RX4 273 RX4 yX4_refuseCell wU_X4_refuseCell) := gUV mw_251 mw_253 mw_254 mw_106 mw_252
theorem gU_X4_280 : GoodIn lw_U (wsV RX4 280 RX6 yX6_addReader wU_X6_addReader) := gUV mw_256 mw_258 mw_259 mw_145 mw_257
theorem gU_X4_287 : GoodIn lw_U (wsV RX4 287 RX6 yX6_takeReader wU_X6_takeReader) := gUV mw_262 mw_264 mw_265 mw_145 mw_263
theorem gU_X8_13 : GoodIn lw_U (va_wsS RX8 13 yX8_ofNumber wU_X8_ofNumber) := gUS mw_266 mw_122 mw_121 mw_120
theorem gU_X7_34 : GoodIn lw_U (va_wsS RX7 34 yX8_refuse wU_X8_refuse) := gUS mw_267 mw_234 mw_121 mw_233
theorem gU_X7_19 : GoodIn lw_U (va_wsS RX7 19 yX8_contentOf wU_X8_contentOf) := gUS mw_268 mw_177 mw_121 mw_176
theorem gU_X7_30 : GoodIn lw_U (va_wsS RX7 30 yX8_ofTruth wU_X8_ofTruth) := gUS mw_269 mw_271 mw_121 mw_270
theorem gU_X7_15 : GoodIn lw_U (va_wsS RX7 15 yX8_refuseTwo wU_X8_refuseTwo) := gUS mw_272 mw_245 mw_121 mw_244
theorem gU_X7_22 : GoodIn lw_U (va_wsS RX7 22 yX8_ofNumber wU_X8_ofNumber) := gUS mw_273 mw_122 mw_121 mw_120
theorem gU_X7_26 : GoodIn lw_U (va_wsS RX7 26 yX8_ofFault wU_X8_ofFault) := gUS mw_274 mw_199 mw_121 mw_198
theorem gU_X7_9 : GoodIn lw_U (va_wsS RX7 9 yX8_sortOf wU_X8_sortOf) := gUS mw_275 mw_174 mw_121 mw_173
theorem gU_X4_223 : GoodIn lw_U (va_wsS RX4 223 yX7_not wU_X7_not) := gUS mw_276 mw_279 mw_278 mw_277
theorem gU_X4_114 : GoodIn lw_U (wsV RX4 114 RX6 yX6_sizeOf wU_X6_sizeOf) := gUV mw_280 mw_237 mw_238 mw_145 mw_236
theorem gU_X4_233 : GoodIn lw_U (va_wsS RX4 233 yX7_ofTwo wU_X7_ofTwo) := gUS mw_281 mw_283 mw_278 mw_282
theorem gU_X4_182 : GoodIn lw_U (wsV RX4 182 RX4 yX4_goSwitch wU_X4_goSwitch) := gUV mw_284 mw_286 mw_287 mw_106 mw_285
theorem gU_X4_189 : GoodIn lw_U (wsV RX4 189 RX0 yX0_enter wU_X0_enter) := gUV mw_288 mw_290 mw_291 mw_8 mw_289
theorem gU_X4_195 : GoodIn lw_U (wsV RX4 195 RX4 yX4_goTurn wU_X4_goTurn) := gUV mw_292 mw_294 mw_295 mw_106 mw_293
theorem gU_X4_199 : GoodIn lw_U (wsV RX4 199 RX4 yX4_goCall wU_X4_goCall) := gUV mw_296 mw_298 mw_299 mw_106 mw_297
theorem gU_X4_203 : GoodIn lw_U (wsV RX4 203 RX4 yX4_goReturn wU_X4_goReturn) := gUV mw_300 mw_302 mw_303 mw_106 mw_301
theorem gU_X4_207 : GoodIn lw_U (wsV RX4 207 RX4 yX4_goMake wU_X4_goMake) := gUV mw_304 mw_306 mw_307 mw_106 mw_305
theorem gU_X4_210 : GoodIn lw_U (wsV RX4 210 RX4 yX4_goRead wU_X4_goRead) := gUV mw_308 mw_310 mw_311 mw_106 mw_309
theorem gU_X4_213 : GoodIn lw_U (wsV RX4 213 RX4 yX4_goWrite wU_X4_goWrite) := gUV mw_312 mw_314 mw_315 mw_106 mw_313
theorem gU_X4_216 : GoodIn lw_U (wsV RX4 216 RX4 yX4_goEnd wU_X4_goEnd) := gUV mw_316 mw_318 mw_319 mw_106 mw_317
theorem gU_X4_219 : GoodIn lw_U (wsV RX4 219 RX4 yX4_plainResult wU_X4_plainResult) := gUV mw_320 mw_322 mw_323 mw_106 mw_321
theorem gU_X4_54 : GoodIn lw_U (wsV RX4 54 RX4 yX4_mayStep wU_X4_mayStep) := gUV mw_324 mw_326 mw_327 mw_106 mw_325
theorem gU_X4_63 : GoodIn lw_U (wsV RX4 63 RX5 yX5_take wU_X5_take) := gUV mw_328 mw_330 mw_331 mw_101 mw_329
theorem gU_X4_67 : GoodIn lw_U (wsV RX4 67 RX4 yX4_goOff wU_X4_goOff) := gUV mw_332 mw_334 mw_335 mw_106 mw_333
theorem gU_X4_51 : GoodIn lw_U (wsV RX4 51 RX4 yX4_begin wU_X4_begin) := gUV mw_337 mw_339 mw_340 mw_106 mw_338
theorem gU_X4_81 : GoodIn lw_U (wsV RX4 81 RX4 yX4_goTick wU_X4_goTick) := gUV mw_345 mw_347 mw_348 mw_106 mw_346
theorem gU_X4_117 : GoodIn lw_U (va_wsS RX4 117 yX8_actOf wU_X8_actOf) := gUS mw_352 mw_354 mw_121 mw_353
theorem gU_X4_120 : GoodIn lw_U (wsV RX4 120 RX4 yX4_comparable wU_X4_comparable) := gUV mw_355 mw_357 mw_358 mw_106 mw_356
theorem gU_X9_36 : GoodIn lw_U (wsV RX9 36 RX2 yX2_addAct wU_X2_addAct) := gUV mw_360 mw_362 mw_363 mw_30 mw_361
theorem gU_X9_40 : GoodIn lw_U (wsV RX9 40 RX2 yX2_addWay wU_X2_addWay) := gUV mw_364 mw_366 mw_367 mw_30 mw_365
theorem gU_X9_44 : GoodIn lw_U (wsV RX9 44 RX2 yX2_addToken wU_X2_addToken) := gUV mw_368 mw_370 mw_371 mw_30 mw_369
theorem gU_X9_53 : GoodIn lw_U (wsV RX9 53 RX2 yX2_dropActs wU_X2_dropActs) := gUV mw_373 mw_375 mw_376 mw_30 mw_374
theorem gU_X9_47 : GoodIn lw_U (wsV RX9 47 RX2 yX2_dropTokens wU_X2_dropTokens) := gUV mw_377 mw_379 mw_380 mw_30 mw_378
theorem gU_X9_50 : GoodIn lw_U (wsV RX9 50 RX2 yX2_dropWays wU_X2_dropWays) := gUV mw_381 mw_383 mw_384 mw_30 mw_382
theorem gU_X9_56 : GoodIn lw_U (va_wsS RX9 56 yX9_isFuel wU_X9_isFuel) := gUS mw_385 mw_388 mw_387 mw_386
theorem gU_X9_60 : GoodIn lw_U (wsV RX9 60 RX4 yX4_goBySeed wU_X4_goBySeed) := gUV mw_390 mw_392 mw_393 mw_106 mw_391
theorem gU_X9_64 : GoodIn lw_U (wsV RX9 64 RX4 yX4_goByTicks wU_X4_goByTicks) := gUV mw_394 mw_396 mw_397 mw_106 mw_395
theorem gU_X9_68 : GoodIn lw_U (wsV RX9 68 RX4 yX4_figure wU_X4_figure) := gUV mw_398 mw_400 mw_401 mw_106 mw_399
theorem gU_X9_74 : GoodIn lw_U (wsV RX9 74 RX4 yX4_describe wU_X4_describe) := gUV mw_403 mw_405 mw_406 mw_106 mw_404
theorem gU_X9_78 : GoodIn lw_U (wsV RX9 78 RX2 yX2_hasAct wU_X2_hasAct) := gUV mw_407 mw_31 mw_32 mw_30 mw_29
theorem gU_X9_94 : GoodIn lw_U (wsV RX9 94 RX6 yX6_placeIn wU_X6_placeIn) := gUV mw_411 mw_241 mw_242 mw_145 mw_240
theorem gU_X9_109 : GoodIn lw_U (wsV RX9 109 RX2 yX2_countWays wU_X2_countWays) := gUV mw_416 mw_418 mw_419 mw_30 mw_417
theorem gU_X9_112 : GoodIn lw_U (wsV RX9 112 RX2 yX2_countTokens wU_X2_countTokens) := gUV mw_420 mw_422 mw_423 mw_30 mw_421
theorem gU_X9_115 : GoodIn lw_U (wsV RX9 115 RX4 yX4_copyFigures wU_X4_copyFigures) := gUV mw_426 mw_428 mw_429 mw_106 mw_427
theorem gU_X9_119 : GoodIn lw_U (wsV RX9 119 RX9 yX9_firstDifference wU_X9_firstDifference) := gUV mw_430 mw_432 mw_433 mw_387 mw_431
theorem gU_X10_131 : GoodIn lw_U (va_wsS RX10 131 yX10_in wU_X10_in) := gUS mw_435 mw_438 mw_437 mw_436
theorem gU_X10_135 : GoodIn lw_U (va_wsS RX10 135 yX10_portsOf wU_X10_portsOf) := gUS mw_442 mw_444 mw_437 mw_443
theorem gU_X10_139 : GoodIn lw_U (wsV RX10 139 RX10 yX10_isAct wU_X10_isAct) := gUV mw_450 mw_452 mw_453 mw_437 mw_451
theorem gU_X10_165 : GoodIn lw_U (wsV RX10 165 RX10 yX10_stops wU_X10_stops) := gUV mw_467 mw_469 mw_470 mw_437 mw_468
theorem gU_X10_172 : GoodIn lw_U (wsV RX10 172 RX10 yX10_pair wU_X10_pair) := gUV mw_478 mw_480 mw_481 mw_437 mw_479
theorem gU_X10_178 : GoodIn lw_U (wsV RX10 178 RX10 yX10_comes wU_X10_comes) := gUV mw_487 mw_489 mw_490 mw_437 mw_488
theorem gU_X10_182 : GoodIn lw_U (wsV RX10 182 RX10 yX10_gives wU_X10_gives) := gUV mw_491 mw_493 mw_494 mw_437 mw_492
theorem gU_X10_185 : GoodIn lw_U (wsV RX10 185 RX10 yX10_kindAt wU_X10_kindAt) := gUV mw_495 mw_497 mw_498 mw_437 mw_496
theorem gU_X10_221 : GoodIn lw_U (wsV RX10 221 RX10 yX10_valueAt wU_X10_valueAt) := gUV mw_499 mw_501 mw_502 mw_437 mw_500
theorem gU_X10_188 : GoodIn lw_U (wsV RX10 188 RX10 yX10_passes wU_X10_passes) := gUV mw_503 mw_505 mw_506 mw_437 mw_504
theorem gU_X10_228 : GoodIn lw_U (wsV RX10 228 RX10 yX10_faults wU_X10_faults) := gUV mw_508 mw_510 mw_511 mw_437 mw_509
theorem gU_X10_224 : GoodIn lw_U (wsV RX10 224 RX10 yX10_colour wU_X10_colour) := gUV mw_512 mw_514 mw_515 mw_437 mw_513
theorem gU_X10_191 : GoodIn lw_U (wsV RX10 191 RX10 yX10_number wU_X10_number) := gUV mw_527 mw_529 mw_530 mw_437 mw_528
theorem gU_X10_234 : GoodIn lw_U (wsV RX10 234 RX10 yX10_makes wU_X10_makes) := gUV mw_531 mw_533 mw_534 mw_437 mw_532
theorem gU_X10_209 : GoodIn lw_U (wsV RX10 209 RX10 yX10_faultOf wU_X10_faultOf) := gUV mw_540 mw_542 mw_543 mw_437 mw_541
theorem gU_X10_212 : GoodIn lw_U (wsV RX10 212 RX10 yX10_reckons wU_X10_reckons) := gUV mw_544 mw_546 mw_547 mw_437 mw_545
theorem gU_X10_215 : GoodIn lw_U (wsV RX10 215 RX10 yX10_cells wU_X10_cells) := gUV mw_548 mw_550 mw_551 mw_437 mw_549
theorem gU_X10_194 : GoodIn lw_U (wsV RX10 194 RX10 yX10_switches wU_X10_switches) := gUV mw_552 mw_554 mw_555 mw_437 mw_553
theorem gU_X10_197 : GoodIn lw_U (wsV RX10 197 RX10 yX10_loops wU_X10_loops) := gUV mw_556 mw_558 mw_559 mw_437 mw_557
theorem gU_X10_200 : GoodIn lw_U (wsV RX10 200 RX10 yX10_calls wU_X10_calls) := gUV mw_560 mw_562 mw_563 mw_437 mw_561
theorem gU_X10_203 : GoodIn lw_U (wsV RX10 203 RX10 yX10_returns wU_X10_returns) := gUV mw_564 mw_566 mw_567 mw_437 mw_565
theorem gU_X10_206 : GoodIn lw_U (wsV RX10 206 RX10 yX10_ends wU_X10_ends) := gUV mw_568 mw_570 mw_571 mw_437 mw_569
theorem gU_X10_254 : GoodIn lw_U (wsV RX10 254 RX10 yX10_goesOff wU_X10_goesOff) := gUV mw_576 mw_578 mw_579 mw_437 mw_577
theorem gU_X10_261 : GoodIn lw_U (wsV RX10 261 RX10 yX10_stepped wU_X10_stepped) := gUV mw_580 mw_582 mw_583 mw_437 mw_581
theorem gU_X10_257 : GoodIn lw_U (wsV RX10 257 RX10 yX10_begins wU_X10_begins) := gUV mw_585 mw_587 mw_588 mw_437 mw_586
theorem gU_X10_265 : GoodIn lw_U (wsV RX10 265 RX10 yX10_left wU_X10_left) := gUV mw_589 mw_591 mw_592 mw_437 mw_590
theorem gU_X10_269 : GoodIn lw_U (wsV RX10 269 RX10 yX10_waiting wU_X10_waiting) := gUV mw_593 mw_595 mw_596 mw_437 mw_594
theorem gU_X10_272 : GoodIn lw_U (wsV RX10 272 RX10 yX10_told1 wU_X10_told1) := gUV mw_597 mw_599 mw_600 mw_437 mw_598
theorem gU_X10_275 : GoodIn lw_U (wsV RX10 275 RX10 yX10_end wU_X10_end) := gUV mw_601 mw_603 mw_604 mw_437 mw_602
theorem gU_X10_278 : GoodIn lw_U (wsV RX10 278 RX10 yX10_run wU_X10_run) := gUV mw_607 mw_609 mw_610 mw_437 mw_608
theorem gU_X10_281 : GoodIn lw_U (wsV RX10 281 RX10 yX10_notes wU_X10_notes) := gUV mw_611 mw_613 mw_614 mw_437 mw_612
