theorem iwX12 : ∀ w ∈ u_ws RX12 TX12 69, w ∈ wT := by decide +kernel
theorem iwX3 : ∀ w ∈ u_ws RX3 TX3 12, w ∈ wT := by decide +kernel
theorem iwX7 : ∀ w ∈ u_ws RX7 TX7 7, w ∈ wT := by decide +kernel
theorem iwX9 : ∀ w ∈ u_ws RX9 TX9 2, w ∈ wT := by decide +kernel
theorem tw_126 : Cond.initialized RX3 ∈ wT := List.mem_filter.mpr ⟨List.mem_of_getElem? (i := 126) (by decide +kernel), by decide +kernel⟩
theorem tw_133 : Cond.initialized RX12 ∈ wT := List.mem_filter.mpr ⟨List.mem_of_getElem? (i := 133) (by decide +kernel), by decide +kernel⟩
theorem tw_141 : Cond.initialized "java/lang/System" ∈ wT := List.mem_filter.mpr ⟨List.mem_of_getElem? (i := 141) (by decide +kernel), by decide +kernel⟩
theorem tw_156 : Cond.fieldLink RX9 9 RX9 (TX9 0).2.1 (TX9 0).2.2.1 ∈ wT := List.mem_filter.mpr ⟨List.mem_of_getElem? (i := 156) (by decide +kernel), by decide +kernel⟩
theorem tw_157 : Cond.fieldLink RX9 15 RX9 (TX9 1).2.1 (TX9 1).2.2.1 ∈ wT := List.mem_filter.mpr ⟨List.mem_of_getElem? (i := 157) (by decide +kernel), by decide +kernel⟩
theorem tw_189 : Cond.fieldLink RX7 9 RX7 (TX7 0).2.1 (TX7 0).2.2.1 ∈ wT := List.mem_filter.mpr ⟨List.mem_of_getElem? (i := 189) (by decide +kernel), by decide +kernel⟩
theorem tw_195 : Cond.fieldLink RX7 15 RX7 (TX7 1).2.1 (TX7 1).2.2.1 ∈ wT := List.mem_filter.mpr ⟨List.mem_of_getElem? (i := 195) (by decide +kernel), by decide +kernel⟩
theorem tw_199 : Cond.fieldLink RX7 18 RX7 (TX7 2).2.1 (TX7 2).2.2.1 ∈ wT := List.mem_filter.mpr ⟨List.mem_of_getElem? (i := 199) (by decide +kernel), by decide +kernel⟩
theorem tw_202 : Cond.fieldLink RX7 21 RX7 (TX7 3).2.1 (TX7 3).2.2.1 ∈ wT := List.mem_filter.mpr ⟨List.mem_of_getElem? (i := 202) (by decide +kernel), by decide +kernel⟩
theorem tw_207 : Cond.fieldLink RX7 25 RX7 (TX7 4).2.1 (TX7 4).2.2.1 ∈ wT := List.mem_filter.mpr ⟨List.mem_of_getElem? (i := 207) (by decide +kernel), by decide +kernel⟩
theorem tw_212 : Cond.fieldLink RX7 28 RX7 (TX7 5).2.1 (TX7 5).2.2.1 ∈ wT := List.mem_filter.mpr ⟨List.mem_of_getElem? (i := 212) (by decide +kernel), by decide +kernel⟩
theorem tw_217 : Cond.fieldLink RX7 31 RX7 (TX7 6).2.1 (TX7 6).2.2.1 ∈ wT := List.mem_filter.mpr ⟨List.mem_of_getElem? (i := 217) (by decide +kernel), by decide +kernel⟩
theorem tw_280 : Cond.fieldLink RX3 9 RX3 (TX3 0).2.1 (TX3 0).2.2.1 ∈ wT := List.mem_filter.mpr ⟨List.mem_of_getElem? (i := 280) (by decide +kernel), by decide +kernel⟩
theorem tw_287 : Cond.fieldLink RX3 15 RX3 (TX3 1).2.1 (TX3 1).2.2.1 ∈ wT := List.mem_filter.mpr ⟨List.mem_of_getElem? (i := 287) (by decide +kernel), by decide +kernel⟩
theorem tw_897 : Cond.instanceMethod yX3_isThere ∈ wT := List.mem_filter.mpr ⟨List.mem_of_getElem? (i := 897) (by decide +kernel), by decide +kernel⟩
theorem tw_898 : Cond.selects (yX3_isThere).cls yX3_isThere yX3_isThere ∈ wT := List.mem_filter.mpr ⟨List.mem_of_getElem? (i := 898) (by decide +kernel), by decide +kernel⟩
theorem tw_899 : Cond.code yX3_isThere cX3_isThere 3 (some .boolean) ∈ wT := List.mem_filter.mpr ⟨List.mem_of_getElem? (i := 899) (by decide +kernel), by decide +kernel⟩
theorem tw_904 : Cond.methodLink RX3 58 yX3_isThere ∈ wT := List.mem_filter.mpr ⟨List.mem_of_getElem? (i := 904) (by decide +kernel), by decide +kernel⟩
theorem tw_1028 : Cond.methodLink RX7 42 arraycopyName ∈ wT := List.mem_filter.mpr ⟨List.mem_of_getElem? (i := 1028) (by decide +kernel), by decide +kernel⟩
theorem tw_1029 : Cond.static arraycopyName ∈ wT := List.mem_filter.mpr ⟨List.mem_of_getElem? (i := 1029) (by decide +kernel), by decide +kernel⟩
theorem tw_1030 : Cond.native arraycopyName ∈ wT := List.mem_filter.mpr ⟨List.mem_of_getElem? (i := 1030) (by decide +kernel), by decide +kernel⟩
theorem tw_1273 : Cond.fieldLink RX12 7 RX12 (TX12 0).2.1 (TX12 0).2.2.1 ∈ wT := List.mem_filter.mpr ⟨List.mem_of_getElem? (i := 1273) (by decide +kernel), by decide +kernel⟩
theorem tw_1275 : Cond.fieldLink RX12 17 RX12 (TX12 2).2.1 (TX12 2).2.2.1 ∈ wT := List.mem_filter.mpr ⟨List.mem_of_getElem? (i := 1275) (by decide +kernel), by decide +kernel⟩
theorem tw_1276 : Cond.fieldLink RX12 20 RX12 (TX12 3).2.1 (TX12 3).2.2.1 ∈ wT := List.mem_filter.mpr ⟨List.mem_of_getElem? (i := 1276) (by decide +kernel), by decide +kernel⟩
theorem tw_1277 : Cond.fieldLink RX12 23 RX12 (TX12 4).2.1 (TX12 4).2.2.1 ∈ wT := List.mem_filter.mpr ⟨List.mem_of_getElem? (i := 1277) (by decide +kernel), by decide +kernel⟩
theorem tw_1278 : Cond.fieldLink RX12 26 RX12 (TX12 5).2.1 (TX12 5).2.2.1 ∈ wT := List.mem_filter.mpr ⟨List.mem_of_getElem? (i := 1278) (by decide +kernel), by decide +kernel⟩
theorem tw_1279 : Cond.fieldLink RX12 29 RX12 (TX12 6).2.1 (TX12 6).2.2.1 ∈ wT := List.mem_filter.mpr ⟨List.mem_of_getElem? (i := 1279) (by decide +kernel), by decide +kernel⟩
theorem tw_1280 : Cond.fieldLink RX12 32 RX12 (TX12 7).2.1 (TX12 7).2.2.1 ∈ wT := List.mem_filter.mpr ⟨List.mem_of_getElem? (i := 1280) (by decide +kernel), by decide +kernel⟩
theorem tw_1285 : Cond.fieldLink RX12 48 RX12 (TX12 12).2.1 (TX12 12).2.2.1 ∈ wT := List.mem_filter.mpr ⟨List.mem_of_getElem? (i := 1285) (by decide +kernel), by decide +kernel⟩
theorem tw_1506 : Cond.methodLink RX12 234 yX12_isLetter ∈ wT := List.mem_filter.mpr ⟨List.mem_of_getElem? (i := 1506) (by decide +kernel), by decide +kernel⟩
theorem tw_1507 : Cond.static yX12_isLetter ∈ wT := List.mem_filter.mpr ⟨List.mem_of_getElem? (i := 1507) (by decide +kernel), by decide +kernel⟩
theorem tw_1508 : Cond.code yX12_isLetter cX12_isLetter 1 (some .boolean) ∈ wT := List.mem_filter.mpr ⟨List.mem_of_getElem? (i := 1508) (by decide +kernel), by decide +kernel⟩
theorem tw_1509 : Cond.methodLink RX12 238 yX12_isDigit ∈ wT := List.mem_filter.mpr ⟨List.mem_of_getElem? (i := 1509) (by decide +kernel), by decide +kernel⟩
theorem tw_1510 : Cond.static yX12_isDigit ∈ wT := List.mem_filter.mpr ⟨List.mem_of_getElem? (i := 1510) (by decide +kernel), by decide +kernel⟩
theorem tw_1511 : Cond.code yX12_isDigit cX12_isDigit 1 (some .boolean) ∈ wT := List.mem_filter.mpr ⟨List.mem_of_getElem? (i := 1511) (by decide +kernel), by decide +kernel⟩
theorem fl_X12_17 : wPL RX12 17 12 2 0 .int false := ⟨RX12, TX12, 69, tyX12, iwX12, rfl, by decide, tw_1275, rfl, rfl, by decide, by decide, tyX12_ok, nmX12, rfl, rfl⟩
theorem fl_X12_20 : wPL RX12 20 12 3 0 .int false := ⟨RX12, TX12, 69, tyX12, iwX12, rfl, by decide, tw_1276, rfl, rfl, by decide, by decide, tyX12_ok, nmX12, rfl, rfl⟩
theorem fl_X12_23 : wPL RX12 23 12 4 0 .int false := ⟨RX12, TX12, 69, tyX12, iwX12, rfl, by decide, tw_1277, rfl, rfl, by decide, by decide, tyX12_ok, nmX12, rfl, rfl⟩
theorem fl_X12_26 : wPL RX12 26 12 5 0 .int false := ⟨RX12, TX12, 69, tyX12, iwX12, rfl, by decide, tw_1278, rfl, rfl, by decide, by decide, tyX12_ok, nmX12, rfl, rfl⟩
theorem fl_X12_29 : wPL RX12 29 12 6 0 .int false := ⟨RX12, TX12, 69, tyX12, iwX12, rfl, by decide, tw_1279, rfl, rfl, by decide, by decide, tyX12_ok, nmX12, rfl, rfl⟩
theorem fl_X12_32 : wPL RX12 32 12 7 1 .long false := ⟨RX12, TX12, 69, tyX12, iwX12, rfl, by decide, tw_1280, rfl, rfl, by decide, by decide, tyX12_ok, nmX12, rfl, rfl⟩
theorem fl_X12_48 : wPL RX12 48 12 12 0 .int false := ⟨RX12, TX12, 69, tyX12, iwX12, rfl, by decide, tw_1285, rfl, rfl, by decide, by decide, tyX12_ok, nmX12, rfl, rfl⟩
theorem fl_X12_7 : wPL RX12 7 12 0 2 (tyX12 0) true := ⟨RX12, TX12, 69, tyX12, iwX12, rfl, by decide, tw_1273, rfl, rfl, by decide, by decide, tyX12_ok, nmX12, rfl, rfl⟩
theorem fl_X3_15 : wPL RX3 15 3 1 2 (tyX3 1) true := ⟨RX3, TX3, 12, tyX3, iwX3, rfl, by decide, tw_287, rfl, rfl, by decide, by decide, tyX3_ok, nmX3, rfl, rfl⟩
theorem fl_X3_9 : wPL RX3 9 3 0 2 (tyX3 0) true := ⟨RX3, TX3, 12, tyX3, iwX3, rfl, by decide, tw_280, rfl, rfl, by decide, by decide, tyX3_ok, nmX3, rfl, rfl⟩
theorem fl_X7_15 : wPL RX7 15 7 1 0 .int false := ⟨RX7, TX7, 7, tyX7, iwX7, rfl, by decide, tw_195, rfl, rfl, by decide, by decide, tyX7_ok, nmX7, rfl, rfl⟩
theorem fl_X7_18 : wPL RX7 18 7 2 0 .int false := ⟨RX7, TX7, 7, tyX7, iwX7, rfl, by decide, tw_199, rfl, rfl, by decide, by decide, tyX7_ok, nmX7, rfl, rfl⟩
theorem fl_X7_21 : wPL RX7 21 7 3 2 (tyX7 3) true := ⟨RX7, TX7, 7, tyX7, iwX7, rfl, by decide, tw_202, rfl, rfl, by decide, by decide, tyX7_ok, nmX7, rfl, rfl⟩
theorem fl_X7_25 : wPL RX7 25 7 4 2 (tyX7 4) true := ⟨RX7, TX7, 7, tyX7, iwX7, rfl, by decide, tw_207, rfl, rfl, by decide, by decide, tyX7_ok, nmX7, rfl, rfl⟩
theorem fl_X7_28 : wPL RX7 28 7 5 2 (tyX7 5) true := ⟨RX7, TX7, 7, tyX7, iwX7, rfl, by decide, tw_212, rfl, rfl, by decide, by decide, tyX7_ok, nmX7, rfl, rfl⟩
theorem fl_X7_31 : wPL RX7 31 7 6 2 (tyX7 6) true := ⟨RX7, TX7, 7, tyX7, iwX7, rfl, by decide, tw_217, rfl, rfl, by decide, by decide, tyX7_ok, nmX7, rfl, rfl⟩
theorem fl_X7_9 : wPL RX7 9 7 0 0 .int false := ⟨RX7, TX7, 7, tyX7, iwX7, rfl, by decide, tw_189, rfl, rfl, by decide, by decide, tyX7_ok, nmX7, rfl, rfl⟩
theorem fl_X9_15 : wPL RX9 15 9 1 0 .int false := ⟨RX9, TX9, 2, tyX9, iwX9, rfl, by decide, tw_157, rfl, rfl, by decide, by decide, tyX9_ok, nmX9, rfl, rfl⟩
theorem fl_X9_9 : wPL RX9 9 9 0 2 (tyX9 0) true := ⟨RX9, TX9, 2, tyX9, iwX9, rfl, by decide, tw_156, rfl, rfl, by decide, by decide, tyX9_ok, nmX9, rfl, rfl⟩
theorem ml_X12_234 : wCS RX12 234 yX12_isLetter cX12_isLetter 1 (some .boolean) 1 := ⟨⟨tw_1506, tw_133, tw_1508, by decide, by decide, by decide +kernel⟩, tw_1507⟩
theorem ml_X12_238 : wCS RX12 238 yX12_isDigit cX12_isDigit 1 (some .boolean) 1 := ⟨⟨tw_1509, tw_133, tw_1511, by decide, by decide, by decide +kernel⟩, tw_1510⟩
theorem ml_X3_58 : wCV RX3 58 yX3_isThere cX3_isThere 3 (some .boolean) 2 3 := ⟨⟨tw_904, tw_126, tw_899, by decide, by decide, by decide +kernel⟩, tw_897, tw_898, _, rfl, rfl, by decide⟩
theorem cw_X7_42 : Cond.methodLink RX7 42 arraycopyName ∈ wT ∧ Cond.native arraycopyName ∈ wT ∧ Cond.static arraycopyName ∈ wT ∧ Cond.initialized "java/lang/System" ∈ wT := ⟨tw_1028, tw_1030, tw_1029, tw_141⟩
