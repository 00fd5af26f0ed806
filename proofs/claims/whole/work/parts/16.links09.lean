theorem tw_1901 : Cond.instanceMethod yX12_isClear ∈ wT := List.mem_filter.mpr ⟨List.mem_of_getElem? (i := 1901) (by decide +kernel), by decide +kernel⟩
theorem tw_1902 : Cond.code yX12_isClear cX12_isClear 3 (some .boolean) ∈ wT := List.mem_filter.mpr ⟨List.mem_of_getElem? (i := 1902) (by decide +kernel), by decide +kernel⟩
theorem tw_1915 : Cond.methodLink RX12 547 yX12_tasteBits ∈ wT := List.mem_filter.mpr ⟨List.mem_of_getElem? (i := 1915) (by decide +kernel), by decide +kernel⟩
theorem tw_1917 : Cond.instanceMethod yX12_tasteBits ∈ wT := List.mem_filter.mpr ⟨List.mem_of_getElem? (i := 1917) (by decide +kernel), by decide +kernel⟩
theorem tw_1918 : Cond.code yX12_tasteBits cX12_tasteBits 7 (some .int) ∈ wT := List.mem_filter.mpr ⟨List.mem_of_getElem? (i := 1918) (by decide +kernel), by decide +kernel⟩
theorem tw_1924 : Cond.methodLink RX12 551 yX12_mostBy ∈ wT := List.mem_filter.mpr ⟨List.mem_of_getElem? (i := 1924) (by decide +kernel), by decide +kernel⟩
theorem tw_1926 : Cond.instanceMethod yX12_mostBy ∈ wT := List.mem_filter.mpr ⟨List.mem_of_getElem? (i := 1926) (by decide +kernel), by decide +kernel⟩
theorem tw_1927 : Cond.code yX12_mostBy cX12_mostBy 8 (some .int) ∈ wT := List.mem_filter.mpr ⟨List.mem_of_getElem? (i := 1927) (by decide +kernel), by decide +kernel⟩
theorem tw_1932 : Cond.methodLink RX12 554 yX12_keeps ∈ wT := List.mem_filter.mpr ⟨List.mem_of_getElem? (i := 1932) (by decide +kernel), by decide +kernel⟩
theorem tw_1934 : Cond.instanceMethod yX12_keeps ∈ wT := List.mem_filter.mpr ⟨List.mem_of_getElem? (i := 1934) (by decide +kernel), by decide +kernel⟩
theorem tw_1935 : Cond.code yX12_keeps cX12_keeps 1 none ∈ wT := List.mem_filter.mpr ⟨List.mem_of_getElem? (i := 1935) (by decide +kernel), by decide +kernel⟩
theorem tw_1940 : Cond.methodLink RX12 565 yX12_draw ∈ wT := List.mem_filter.mpr ⟨List.mem_of_getElem? (i := 1940) (by decide +kernel), by decide +kernel⟩
theorem tw_1942 : Cond.instanceMethod yX12_draw ∈ wT := List.mem_filter.mpr ⟨List.mem_of_getElem? (i := 1942) (by decide +kernel), by decide +kernel⟩
theorem tw_1943 : Cond.code yX12_draw cX12_draw 2 (some .int) ∈ wT := List.mem_filter.mpr ⟨List.mem_of_getElem? (i := 1943) (by decide +kernel), by decide +kernel⟩
theorem tw_1972 : Cond.methodLink RX12 568 yX12_writes ∈ wT := List.mem_filter.mpr ⟨List.mem_of_getElem? (i := 1972) (by decide +kernel), by decide +kernel⟩
theorem tw_1974 : Cond.instanceMethod yX12_writes ∈ wT := List.mem_filter.mpr ⟨List.mem_of_getElem? (i := 1974) (by decide +kernel), by decide +kernel⟩
theorem tw_1975 : Cond.code yX12_writes cX12_writes 2 none ∈ wT := List.mem_filter.mpr ⟨List.mem_of_getElem? (i := 1975) (by decide +kernel), by decide +kernel⟩
theorem tw_1984 : Cond.methodLink RX12 571 yX12_comesOn ∈ wT := List.mem_filter.mpr ⟨List.mem_of_getElem? (i := 1984) (by decide +kernel), by decide +kernel⟩
theorem tw_1986 : Cond.instanceMethod yX12_comesOn ∈ wT := List.mem_filter.mpr ⟨List.mem_of_getElem? (i := 1986) (by decide +kernel), by decide +kernel⟩
theorem tw_1987 : Cond.code yX12_comesOn cX12_comesOn 8 (some .boolean) ∈ wT := List.mem_filter.mpr ⟨List.mem_of_getElem? (i := 1987) (by decide +kernel), by decide +kernel⟩
theorem tw_1988 : Cond.fieldLink RJ0 9 "java/lang/String" "value" "[B" ∈ wT := List.mem_filter.mpr ⟨List.mem_of_getElem? (i := 1988) (by decide +kernel), by decide +kernel⟩
theorem tw_1989 : Cond.fieldLink RJ0 15 "java/lang/String" "coder" "B" ∈ wT := List.mem_filter.mpr ⟨List.mem_of_getElem? (i := 1989) (by decide +kernel), by decide +kernel⟩
theorem fl_X0_15 : wPL RX0 15 0 1 2 (tyX0 1) true := ⟨RX0, TX0, 2, tyX0, iwX0, rfl, by decide, tw_444, rfl, rfl, by decide, by decide, tyX0_ok, nmX0, rfl, rfl⟩
theorem fl_X0_23 : wPL RX0 23 7 1 0 .int false := ⟨RX7, TX7, 7, tyX7, iwX7, rfl, by decide, tw_196, rfl, rfl, by decide, by decide, tyX7_ok, nmX7, rfl, rfl⟩
theorem fl_X0_29 : wPL RX0 29 3 0 2 (tyX3 0) true := ⟨RX3, TX3, 12, tyX3, iwX3, rfl, by decide, tw_281, rfl, rfl, by decide, by decide, tyX3_ok, nmX3, rfl, rfl⟩
theorem fl_X0_35 : wPL RX0 35 7 0 0 .int false := ⟨RX7, TX7, 7, tyX7, iwX7, rfl, by decide, tw_191, rfl, rfl, by decide, by decide, tyX7_ok, nmX7, rfl, rfl⟩
theorem fl_X0_48 : wPL RX0 48 7 3 2 (tyX7 3) true := ⟨RX7, TX7, 7, tyX7, iwX7, rfl, by decide, tw_204, rfl, rfl, by decide, by decide, tyX7_ok, nmX7, rfl, rfl⟩
theorem fl_X0_84 : wPL RX0 84 7 5 2 (tyX7 5) true := ⟨RX7, TX7, 7, tyX7, iwX7, rfl, by decide, tw_214, rfl, rfl, by decide, by decide, tyX7_ok, nmX7, rfl, rfl⟩
theorem fl_X0_9 : wPL RX0 9 0 0 2 (tyX0 0) true := ⟨RX0, TX0, 2, tyX0, iwX0, rfl, by decide, tw_443, rfl, rfl, by decide, by decide, tyX0_ok, nmX0, rfl, rfl⟩
theorem fl_X0_90 : wPL RX0 90 7 4 2 (tyX7 4) true := ⟨RX7, TX7, 7, tyX7, iwX7, rfl, by decide, tw_210, rfl, rfl, by decide, by decide, tyX7_ok, nmX7, rfl, rfl⟩
theorem fl_X10_15 : wPL RX10 15 10 1 2 (tyX10 1) true := ⟨RX10, TX10, 6, tyX10, iwX10, rfl, by decide, tw_355, rfl, rfl, by decide, by decide, tyX10_ok, nmX10, rfl, rfl⟩
theorem fl_X10_18 : wPL RX10 18 10 2 2 (tyX10 2) true := ⟨RX10, TX10, 6, tyX10, iwX10, rfl, by decide, tw_356, rfl, rfl, by decide, by decide, tyX10_ok, nmX10, rfl, rfl⟩
theorem fl_X10_21 : wPL RX10 21 10 3 0 .int false := ⟨RX10, TX10, 6, tyX10, iwX10, rfl, by decide, tw_357, rfl, rfl, by decide, by decide, tyX10_ok, nmX10, rfl, rfl⟩
theorem fl_X10_25 : wPL RX10 25 10 4 0 .int false := ⟨RX10, TX10, 6, tyX10, iwX10, rfl, by decide, tw_358, rfl, rfl, by decide, by decide, tyX10_ok, nmX10, rfl, rfl⟩
theorem fl_X10_28 : wPL RX10 28 10 5 0 .int false := ⟨RX10, TX10, 6, tyX10, iwX10, rfl, by decide, tw_359, rfl, rfl, by decide, by decide, tyX10_ok, nmX10, rfl, rfl⟩
theorem fl_X10_31 : wPL RX10 31 9 1 0 .int false := ⟨RX9, TX9, 2, tyX9, iwX9, rfl, by decide, tw_160, rfl, rfl, by decide, by decide, tyX9_ok, nmX9, rfl, rfl⟩
theorem fl_X10_9 : wPL RX10 9 10 0 2 (tyX10 0) true := ⟨RX10, TX10, 6, tyX10, iwX10, rfl, by decide, tw_354, rfl, rfl, by decide, by decide, tyX10_ok, nmX10, rfl, rfl⟩
theorem fl_X11_10 : wPL RX11 10 11 0 2 (tyX11 0) true := ⟨RX11, TX11, 17, tyX11, iwX11, rfl, by decide, tw_494, rfl, rfl, by decide, by decide, tyX11_ok, nmX11, rfl, rfl⟩
theorem fl_X11_106 : wPL RX11 106 11 11 2 (tyX11 11) true := ⟨RX11, TX11, 17, tyX11, iwX11, rfl, by decide, tw_505, rfl, rfl, by decide, by decide, tyX11_ok, nmX11, rfl, rfl⟩
theorem fl_X11_114 : wPL RX11 114 9 1 0 .int false := ⟨RX9, TX9, 2, tyX9, iwX9, rfl, by decide, tw_159, rfl, rfl, by decide, by decide, tyX9_ok, nmX9, rfl, rfl⟩
theorem fl_X11_133 : wPL RX11 133 6 6 0 .int false := ⟨RX6, TX6, 8, tyX6, iwX6, rfl, by decide, tw_380, rfl, rfl, by decide, by decide, tyX6_ok, nmX6, rfl, rfl⟩
theorem fl_X11_136 : wPL RX11 136 6 7 0 .int false := ⟨RX6, TX6, 8, tyX6, iwX6, rfl, by decide, tw_382, rfl, rfl, by decide, by decide, tyX6_ok, nmX6, rfl, rfl⟩
theorem fl_X11_139 : wPL RX11 139 4 2 0 .int false := ⟨RX4, TX4, 3, tyX4, iwX4, rfl, by decide, tw_245, rfl, rfl, by decide, by decide, tyX4_ok, nmX4, rfl, rfl⟩
theorem fl_X11_142 : wPL RX11 142 2 5 0 .int false := ⟨RX2, TX2, 9, tyX2, iwX2, rfl, by decide, tw_464, rfl, rfl, by decide, by decide, tyX2_ok, nmX2, rfl, rfl⟩
theorem fl_X11_145 : wPL RX11 145 3 0 2 (tyX3 0) true := ⟨RX3, TX3, 12, tyX3, iwX3, rfl, by decide, tw_285, rfl, rfl, by decide, by decide, tyX3_ok, nmX3, rfl, rfl⟩
theorem fl_X11_147 : wPL RX11 147 7 0 0 .int false := ⟨RX7, TX7, 7, tyX7, iwX7, rfl, by decide, tw_194, rfl, rfl, by decide, by decide, tyX7_ok, nmX7, rfl, rfl⟩
theorem fl_X11_150 : wPL RX11 150 7 1 0 .int false := ⟨RX7, TX7, 7, tyX7, iwX7, rfl, by decide, tw_198, rfl, rfl, by decide, by decide, tyX7_ok, nmX7, rfl, rfl⟩
theorem fl_X11_157 : wPL RX11 157 7 5 2 (tyX7 5) true := ⟨RX7, TX7, 7, tyX7, iwX7, rfl, by decide, tw_216, rfl, rfl, by decide, by decide, tyX7_ok, nmX7, rfl, rfl⟩
theorem fl_X11_164 : wPL RX11 164 7 2 0 .int false := ⟨RX7, TX7, 7, tyX7, iwX7, rfl, by decide, tw_200, rfl, rfl, by decide, by decide, tyX7_ok, nmX7, rfl, rfl⟩
theorem fl_X11_181 : wPL RX11 181 7 4 2 (tyX7 4) true := ⟨RX7, TX7, 7, tyX7, iwX7, rfl, by decide, tw_211, rfl, rfl, by decide, by decide, tyX7_ok, nmX7, rfl, rfl⟩
theorem fl_X11_19 : wPL RX11 19 11 1 2 (tyX11 1) true := ⟨RX11, TX11, 17, tyX11, iwX11, rfl, by decide, tw_495, rfl, rfl, by decide, by decide, tyX11_ok, nmX11, rfl, rfl⟩
theorem fl_X11_194 : wPL RX11 194 3 3 2 (tyX3 3) true := ⟨RX3, TX3, 12, tyX3, iwX3, rfl, by decide, tw_292, rfl, rfl, by decide, by decide, tyX3_ok, nmX3, rfl, rfl⟩
theorem fl_X11_213 : wPL RX11 213 7 3 2 (tyX7 3) true := ⟨RX7, TX7, 7, tyX7, iwX7, rfl, by decide, tw_205, rfl, rfl, by decide, by decide, tyX7_ok, nmX7, rfl, rfl⟩
theorem fl_X11_26 : wPL RX11 26 11 2 2 (tyX11 2) true := ⟨RX11, TX11, 17, tyX11, iwX11, rfl, by decide, tw_496, rfl, rfl, by decide, by decide, tyX11_ok, nmX11, rfl, rfl⟩
theorem fl_X11_265 : wPL RX11 265 2 6 0 .int false := ⟨RX2, TX2, 9, tyX2, iwX2, rfl, by decide, tw_466, rfl, rfl, by decide, by decide, tyX2_ok, nmX2, rfl, rfl⟩
theorem fl_X11_268 : wPL RX11 268 2 7 0 .int false := ⟨RX2, TX2, 9, tyX2, iwX2, rfl, by decide, tw_468, rfl, rfl, by decide, by decide, tyX2_ok, nmX2, rfl, rfl⟩
theorem fl_X11_271 : wPL RX11 271 2 8 0 .int false := ⟨RX2, TX2, 9, tyX2, iwX2, rfl, by decide, tw_470, rfl, rfl, by decide, by decide, tyX2_ok, nmX2, rfl, rfl⟩
theorem fl_X11_285 : wPL RX11 285 3 11 0 .int false := ⟨RX3, TX3, 12, tyX3, iwX3, rfl, by decide, tw_316, rfl, rfl, by decide, by decide, tyX3_ok, nmX3, rfl, rfl⟩
theorem fl_X11_297 : wPL RX11 297 5 1 0 .int false := ⟨RX5, TX5, 2, tyX5, iwX5, rfl, by decide, tw_261, rfl, rfl, by decide, by decide, tyX5_ok, nmX5, rfl, rfl⟩
theorem fl_X11_30 : wPL RX11 30 11 3 2 (tyX11 3) true := ⟨RX11, TX11, 17, tyX11, iwX11, rfl, by decide, tw_497, rfl, rfl, by decide, by decide, tyX11_ok, nmX11, rfl, rfl⟩
theorem fl_X11_36 : wPL RX11 36 11 4 2 (tyX11 4) true := ⟨RX11, TX11, 17, tyX11, iwX11, rfl, by decide, tw_498, rfl, rfl, by decide, by decide, tyX11_ok, nmX11, rfl, rfl⟩
theorem fl_X11_43 : wPL RX11 43 11 5 2 (tyX11 5) true := ⟨RX11, TX11, 17, tyX11, iwX11, rfl, by decide, tw_499, rfl, rfl, by decide, by decide, tyX11_ok, nmX11, rfl, rfl⟩
theorem fl_X11_47 : wPL RX11 47 11 6 2 (tyX11 6) true := ⟨RX11, TX11, 17, tyX11, iwX11, rfl, by decide, tw_500, rfl, rfl, by decide, by decide, tyX11_ok, nmX11, rfl, rfl⟩
theorem fl_X11_51 : wPL RX11 51 11 7 2 (tyX11 7) true := ⟨RX11, TX11, 17, tyX11, iwX11, rfl, by decide, tw_501, rfl, rfl, by decide, by decide, tyX11_ok, nmX11, rfl, rfl⟩
theorem fl_X11_57 : wPL RX11 57 11 12 2 (tyX11 12) false := ⟨RX11, TX11, 17, tyX11, iwX11, rfl, by decide, tw_506, rfl, rfl, by decide, by decide, tyX11_ok, nmX11, rfl, rfl⟩
theorem fl_X11_61 : wPL RX11 61 11 13 2 (tyX11 13) false := ⟨RX11, TX11, 17, tyX11, iwX11, rfl, by decide, tw_507, rfl, rfl, by decide, by decide, tyX11_ok, nmX11, rfl, rfl⟩
theorem fl_X11_64 : wPL RX11 64 11 14 0 .int false := ⟨RX11, TX11, 17, tyX11, iwX11, rfl, by decide, tw_508, rfl, rfl, by decide, by decide, tyX11_ok, nmX11, rfl, rfl⟩
theorem fl_X11_68 : wPL RX11 68 11 15 0 .int false := ⟨RX11, TX11, 17, tyX11, iwX11, rfl, by decide, tw_509, rfl, rfl, by decide, by decide, tyX11_ok, nmX11, rfl, rfl⟩
theorem fl_X11_71 : wPL RX11 71 11 16 0 .int false := ⟨RX11, TX11, 17, tyX11, iwX11, rfl, by decide, tw_510, rfl, rfl, by decide, by decide, tyX11_ok, nmX11, rfl, rfl⟩
theorem fl_X11_79 : wPL RX11 79 11 8 2 (tyX11 8) true := ⟨RX11, TX11, 17, tyX11, iwX11, rfl, by decide, tw_502, rfl, rfl, by decide, by decide, tyX11_ok, nmX11, rfl, rfl⟩
theorem fl_X11_88 : wPL RX11 88 11 9 2 (tyX11 9) true := ⟨RX11, TX11, 17, tyX11, iwX11, rfl, by decide, tw_503, rfl, rfl, by decide, by decide, tyX11_ok, nmX11, rfl, rfl⟩
theorem fl_X11_97 : wPL RX11 97 11 10 2 (tyX11 10) true := ⟨RX11, TX11, 17, tyX11, iwX11, rfl, by decide, tw_504, rfl, rfl, by decide, by decide, tyX11_ok, nmX11, rfl, rfl⟩
theorem fl_X12_102 : wPL RX12 102 12 30 2 (tyX12 30) true := ⟨RX12, TX12, 69, tyX12, iwX12, rfl, by decide, tw_1303, rfl, rfl, by decide, by decide, tyX12_ok, nmX12, rfl, rfl⟩
theorem fl_X12_106 : wPL RX12 106 12 31 0 .int false := ⟨RX12, TX12, 69, tyX12, iwX12, rfl, by decide, tw_1304, rfl, rfl, by decide, by decide, tyX12_ok, nmX12, rfl, rfl⟩
theorem fl_X12_109 : wPL RX12 109 12 32 0 .int false := ⟨RX12, TX12, 69, tyX12, iwX12, rfl, by decide, tw_1305, rfl, rfl, by decide, by decide, tyX12_ok, nmX12, rfl, rfl⟩
theorem fl_X12_112 : wPL RX12 112 12 33 0 .int false := ⟨RX12, TX12, 69, tyX12, iwX12, rfl, by decide, tw_1306, rfl, rfl, by decide, by decide, tyX12_ok, nmX12, rfl, rfl⟩
theorem fl_X12_115 : wPL RX12 115 12 34 2 (tyX12 34) true := ⟨RX12, TX12, 69, tyX12, iwX12, rfl, by decide, tw_1307, rfl, rfl, by decide, by decide, tyX12_ok, nmX12, rfl, rfl⟩
theorem fl_X12_118 : wPL RX12 118 12 35 2 (tyX12 35) true := ⟨RX12, TX12, 69, tyX12, iwX12, rfl, by decide, tw_1308, rfl, rfl, by decide, by decide, tyX12_ok, nmX12, rfl, rfl⟩
theorem fl_X12_121 : wPL RX12 121 12 36 2 (tyX12 36) true := ⟨RX12, TX12, 69, tyX12, iwX12, rfl, by decide, tw_1309, rfl, rfl, by decide, by decide, tyX12_ok, nmX12, rfl, rfl⟩
theorem fl_X12_125 : wPL RX12 125 12 37 2 (tyX12 37) true := ⟨RX12, TX12, 69, tyX12, iwX12, rfl, by decide, tw_1310, rfl, rfl, by decide, by decide, tyX12_ok, nmX12, rfl, rfl⟩
theorem fl_X12_128 : wPL RX12 128 12 38 2 (tyX12 38) true := ⟨RX12, TX12, 69, tyX12, iwX12, rfl, by decide, tw_1311, rfl, rfl, by decide, by decide, tyX12_ok, nmX12, rfl, rfl⟩
theorem fl_X12_13 : wPL RX12 13 12 1 0 .int false := ⟨RX12, TX12, 69, tyX12, iwX12, rfl, by decide, tw_1274, rfl, rfl, by decide, by decide, tyX12_ok, nmX12, rfl, rfl⟩
theorem fl_X12_131 : wPL RX12 131 12 39 0 .int false := ⟨RX12, TX12, 69, tyX12, iwX12, rfl, by decide, tw_1312, rfl, rfl, by decide, by decide, tyX12_ok, nmX12, rfl, rfl⟩
theorem fl_X12_134 : wPL RX12 134 12 40 0 .int false := ⟨RX12, TX12, 69, tyX12, iwX12, rfl, by decide, tw_1313, rfl, rfl, by decide, by decide, tyX12_ok, nmX12, rfl, rfl⟩
theorem fl_X12_137 : wPL RX12 137 12 41 2 (tyX12 41) true := ⟨RX12, TX12, 69, tyX12, iwX12, rfl, by decide, tw_1314, rfl, rfl, by decide, by decide, tyX12_ok, nmX12, rfl, rfl⟩
theorem fl_X12_140 : wPL RX12 140 12 42 0 .int false := ⟨RX12, TX12, 69, tyX12, iwX12, rfl, by decide, tw_1315, rfl, rfl, by decide, by decide, tyX12_ok, nmX12, rfl, rfl⟩
theorem fl_X12_143 : wPL RX12 143 12 43 0 .boolean false := ⟨RX12, TX12, 69, tyX12, iwX12, rfl, by decide, tw_1316, rfl, rfl, by decide, by decide, tyX12_ok, nmX12, rfl, rfl⟩
theorem fl_X12_147 : wPL RX12 147 12 44 2 (tyX12 44) true := ⟨RX12, TX12, 69, tyX12, iwX12, rfl, by decide, tw_1317, rfl, rfl, by decide, by decide, tyX12_ok, nmX12, rfl, rfl⟩
theorem fl_X12_150 : wPL RX12 150 12 45 2 (tyX12 45) true := ⟨RX12, TX12, 69, tyX12, iwX12, rfl, by decide, tw_1318, rfl, rfl, by decide, by decide, tyX12_ok, nmX12, rfl, rfl⟩
theorem fl_X12_153 : wPL RX12 153 12 46 2 (tyX12 46) true := ⟨RX12, TX12, 69, tyX12, iwX12, rfl, by decide, tw_1319, rfl, rfl, by decide, by decide, tyX12_ok, nmX12, rfl, rfl⟩
theorem fl_X12_156 : wPL RX12 156 12 47 2 (tyX12 47) true := ⟨RX12, TX12, 69, tyX12, iwX12, rfl, by decide, tw_1320, rfl, rfl, by decide, by decide, tyX12_ok, nmX12, rfl, rfl⟩
theorem fl_X12_159 : wPL RX12 159 12 48 2 (tyX12 48) true := ⟨RX12, TX12, 69, tyX12, iwX12, rfl, by decide, tw_1321, rfl, rfl, by decide, by decide, tyX12_ok, nmX12, rfl, rfl⟩
theorem fl_X12_162 : wPL RX12 162 12 49 2 (tyX12 49) true := ⟨RX12, TX12, 69, tyX12, iwX12, rfl, by decide, tw_1322, rfl, rfl, by decide, by decide, tyX12_ok, nmX12, rfl, rfl⟩
theorem fl_X12_165 : wPL RX12 165 12 50 2 (tyX12 50) true := ⟨RX12, TX12, 69, tyX12, iwX12, rfl, by decide, tw_1323, rfl, rfl, by decide, by decide, tyX12_ok, nmX12, rfl, rfl⟩
theorem fl_X12_168 : wPL RX12 168 12 51 2 (tyX12 51) true := ⟨RX12, TX12, 69, tyX12, iwX12, rfl, by decide, tw_1324, rfl, rfl, by decide, by decide, tyX12_ok, nmX12, rfl, rfl⟩
theorem fl_X12_17 : wPL RX12 17 12 2 0 .int false := ⟨RX12, TX12, 69, tyX12, iwX12, rfl, by decide, tw_1275, rfl, rfl, by decide, by decide, tyX12_ok, nmX12, rfl, rfl⟩
theorem fl_X12_171 : wPL RX12 171 12 52 0 .int false := ⟨RX12, TX12, 69, tyX12, iwX12, rfl, by decide, tw_1325, rfl, rfl, by decide, by decide, tyX12_ok, nmX12, rfl, rfl⟩
theorem fl_X12_174 : wPL RX12 174 12 53 0 .int false := ⟨RX12, TX12, 69, tyX12, iwX12, rfl, by decide, tw_1326, rfl, rfl, by decide, by decide, tyX12_ok, nmX12, rfl, rfl⟩
theorem fl_X12_177 : wPL RX12 177 12 54 1 .long false := ⟨RX12, TX12, 69, tyX12, iwX12, rfl, by decide, tw_1327, rfl, rfl, by decide, by decide, tyX12_ok, nmX12, rfl, rfl⟩
theorem fl_X12_180 : wPL RX12 180 12 55 2 (tyX12 55) true := ⟨RX12, TX12, 69, tyX12, iwX12, rfl, by decide, tw_1328, rfl, rfl, by decide, by decide, tyX12_ok, nmX12, rfl, rfl⟩
theorem fl_X12_183 : wPL RX12 183 12 56 2 (tyX12 56) true := ⟨RX12, TX12, 69, tyX12, iwX12, rfl, by decide, tw_1329, rfl, rfl, by decide, by decide, tyX12_ok, nmX12, rfl, rfl⟩
theorem fl_X12_186 : wPL RX12 186 12 57 2 (tyX12 57) true := ⟨RX12, TX12, 69, tyX12, iwX12, rfl, by decide, tw_1330, rfl, rfl, by decide, by decide, tyX12_ok, nmX12, rfl, rfl⟩
theorem fl_X12_189 : wPL RX12 189 12 58 2 (tyX12 58) true := ⟨RX12, TX12, 69, tyX12, iwX12, rfl, by decide, tw_1331, rfl, rfl, by decide, by decide, tyX12_ok, nmX12, rfl, rfl⟩
theorem fl_X12_192 : wPL RX12 192 12 59 2 (tyX12 59) true := ⟨RX12, TX12, 69, tyX12, iwX12, rfl, by decide, tw_1332, rfl, rfl, by decide, by decide, tyX12_ok, nmX12, rfl, rfl⟩
theorem fl_X12_195 : wPL RX12 195 12 60 2 (tyX12 60) true := ⟨RX12, TX12, 69, tyX12, iwX12, rfl, by decide, tw_1333, rfl, rfl, by decide, by decide, tyX12_ok, nmX12, rfl, rfl⟩
theorem fl_X12_198 : wPL RX12 198 12 61 2 (tyX12 61) true := ⟨RX12, TX12, 69, tyX12, iwX12, rfl, by decide, tw_1334, rfl, rfl, by decide, by decide, tyX12_ok, nmX12, rfl, rfl⟩
theorem fl_X12_20 : wPL RX12 20 12 3 0 .int false := ⟨RX12, TX12, 69, tyX12, iwX12, rfl, by decide, tw_1276, rfl, rfl, by decide, by decide, tyX12_ok, nmX12, rfl, rfl⟩
theorem fl_X12_201 : wPL RX12 201 12 62 0 .int false := ⟨RX12, TX12, 69, tyX12, iwX12, rfl, by decide, tw_1335, rfl, rfl, by decide, by decide, tyX12_ok, nmX12, rfl, rfl⟩
theorem fl_X12_204 : wPL RX12 204 12 63 2 (tyX12 63) true := ⟨RX12, TX12, 69, tyX12, iwX12, rfl, by decide, tw_1336, rfl, rfl, by decide, by decide, tyX12_ok, nmX12, rfl, rfl⟩
theorem fl_X12_207 : wPL RX12 207 12 64 2 (tyX12 64) true := ⟨RX12, TX12, 69, tyX12, iwX12, rfl, by decide, tw_1337, rfl, rfl, by decide, by decide, tyX12_ok, nmX12, rfl, rfl⟩
theorem fl_X12_210 : wPL RX12 210 12 65 2 (tyX12 65) true := ⟨RX12, TX12, 69, tyX12, iwX12, rfl, by decide, tw_1338, rfl, rfl, by decide, by decide, tyX12_ok, nmX12, rfl, rfl⟩
theorem fl_X12_213 : wPL RX12 213 12 66 2 (tyX12 66) true := ⟨RX12, TX12, 69, tyX12, iwX12, rfl, by decide, tw_1339, rfl, rfl, by decide, by decide, tyX12_ok, nmX12, rfl, rfl⟩
theorem fl_X12_216 : wPL RX12 216 12 67 2 (tyX12 67) true := ⟨RX12, TX12, 69, tyX12, iwX12, rfl, by decide, tw_1340, rfl, rfl, by decide, by decide, tyX12_ok, nmX12, rfl, rfl⟩
theorem fl_X12_219 : wPL RX12 219 12 68 0 .int false := ⟨RX12, TX12, 69, tyX12, iwX12, rfl, by decide, tw_1341, rfl, rfl, by decide, by decide, tyX12_ok, nmX12, rfl, rfl⟩
theorem fl_X12_23 : wPL RX12 23 12 4 0 .int false := ⟨RX12, TX12, 69, tyX12, iwX12, rfl, by decide, tw_1277, rfl, rfl, by decide, by decide, tyX12_ok, nmX12, rfl, rfl⟩
theorem fl_X12_26 : wPL RX12 26 12 5 0 .int false := ⟨RX12, TX12, 69, tyX12, iwX12, rfl, by decide, tw_1278, rfl, rfl, by decide, by decide, tyX12_ok, nmX12, rfl, rfl⟩
theorem fl_X12_29 : wPL RX12 29 12 6 0 .int false := ⟨RX12, TX12, 69, tyX12, iwX12, rfl, by decide, tw_1279, rfl, rfl, by decide, by decide, tyX12_ok, nmX12, rfl, rfl⟩
theorem fl_X12_32 : wPL RX12 32 12 7 1 .long false := ⟨RX12, TX12, 69, tyX12, iwX12, rfl, by decide, tw_1280, rfl, rfl, by decide, by decide, tyX12_ok, nmX12, rfl, rfl⟩
theorem fl_X12_36 : wPL RX12 36 12 8 0 .int false := ⟨RX12, TX12, 69, tyX12, iwX12, rfl, by decide, tw_1281, rfl, rfl, by decide, by decide, tyX12_ok, nmX12, rfl, rfl⟩
theorem fl_X12_39 : wPL RX12 39 12 9 0 .int false := ⟨RX12, TX12, 69, tyX12, iwX12, rfl, by decide, tw_1282, rfl, rfl, by decide, by decide, tyX12_ok, nmX12, rfl, rfl⟩
theorem fl_X12_42 : wPL RX12 42 12 10 0 .int false := ⟨RX12, TX12, 69, tyX12, iwX12, rfl, by decide, tw_1283, rfl, rfl, by decide, by decide, tyX12_ok, nmX12, rfl, rfl⟩
theorem fl_X12_45 : wPL RX12 45 12 11 0 .int false := ⟨RX12, TX12, 69, tyX12, iwX12, rfl, by decide, tw_1284, rfl, rfl, by decide, by decide, tyX12_ok, nmX12, rfl, rfl⟩
theorem fl_X12_48 : wPL RX12 48 12 12 0 .int false := ⟨RX12, TX12, 69, tyX12, iwX12, rfl, by decide, tw_1285, rfl, rfl, by decide, by decide, tyX12_ok, nmX12, rfl, rfl⟩
theorem fl_X12_51 : wPL RX12 51 12 13 0 .int false := ⟨RX12, TX12, 69, tyX12, iwX12, rfl, by decide, tw_1286, rfl, rfl, by decide, by decide, tyX12_ok, nmX12, rfl, rfl⟩
theorem fl_X12_54 : wPL RX12 54 12 14 2 (tyX12 14) true := ⟨RX12, TX12, 69, tyX12, iwX12, rfl, by decide, tw_1287, rfl, rfl, by decide, by decide, tyX12_ok, nmX12, rfl, rfl⟩
theorem fl_X12_57 : wPL RX12 57 12 15 2 (tyX12 15) true := ⟨RX12, TX12, 69, tyX12, iwX12, rfl, by decide, tw_1288, rfl, rfl, by decide, by decide, tyX12_ok, nmX12, rfl, rfl⟩
theorem fl_X12_60 : wPL RX12 60 12 16 2 (tyX12 16) true := ⟨RX12, TX12, 69, tyX12, iwX12, rfl, by decide, tw_1289, rfl, rfl, by decide, by decide, tyX12_ok, nmX12, rfl, rfl⟩
theorem fl_X12_63 : wPL RX12 63 12 17 2 (tyX12 17) true := ⟨RX12, TX12, 69, tyX12, iwX12, rfl, by decide, tw_1290, rfl, rfl, by decide, by decide, tyX12_ok, nmX12, rfl, rfl⟩
theorem fl_X12_66 : wPL RX12 66 12 18 2 (tyX12 18) true := ⟨RX12, TX12, 69, tyX12, iwX12, rfl, by decide, tw_1291, rfl, rfl, by decide, by decide, tyX12_ok, nmX12, rfl, rfl⟩
theorem fl_X12_69 : wPL RX12 69 12 19 2 (tyX12 19) true := ⟨RX12, TX12, 69, tyX12, iwX12, rfl, by decide, tw_1292, rfl, rfl, by decide, by decide, tyX12_ok, nmX12, rfl, rfl⟩
theorem fl_X12_7 : wPL RX12 7 12 0 2 (tyX12 0) true := ⟨RX12, TX12, 69, tyX12, iwX12, rfl, by decide, tw_1273, rfl, rfl, by decide, by decide, tyX12_ok, nmX12, rfl, rfl⟩
theorem fl_X12_72 : wPL RX12 72 12 20 2 (tyX12 20) true := ⟨RX12, TX12, 69, tyX12, iwX12, rfl, by decide, tw_1293, rfl, rfl, by decide, by decide, tyX12_ok, nmX12, rfl, rfl⟩
theorem fl_X12_75 : wPL RX12 75 12 21 2 (tyX12 21) true := ⟨RX12, TX12, 69, tyX12, iwX12, rfl, by decide, tw_1294, rfl, rfl, by decide, by decide, tyX12_ok, nmX12, rfl, rfl⟩
theorem fl_X12_78 : wPL RX12 78 12 22 2 (tyX12 22) true := ⟨RX12, TX12, 69, tyX12, iwX12, rfl, by decide, tw_1295, rfl, rfl, by decide, by decide, tyX12_ok, nmX12, rfl, rfl⟩
theorem fl_X12_81 : wPL RX12 81 12 23 2 (tyX12 23) true := ⟨RX12, TX12, 69, tyX12, iwX12, rfl, by decide, tw_1296, rfl, rfl, by decide, by decide, tyX12_ok, nmX12, rfl, rfl⟩
theorem fl_X12_84 : wPL RX12 84 12 24 2 (tyX12 24) true := ⟨RX12, TX12, 69, tyX12, iwX12, rfl, by decide, tw_1297, rfl, rfl, by decide, by decide, tyX12_ok, nmX12, rfl, rfl⟩
theorem fl_X12_87 : wPL RX12 87 12 25 2 (tyX12 25) true := ⟨RX12, TX12, 69, tyX12, iwX12, rfl, by decide, tw_1298, rfl, rfl, by decide, by decide, tyX12_ok, nmX12, rfl, rfl⟩
theorem fl_X12_90 : wPL RX12 90 12 26 2 (tyX12 26) true := ⟨RX12, TX12, 69, tyX12, iwX12, rfl, by decide, tw_1299, rfl, rfl, by decide, by decide, tyX12_ok, nmX12, rfl, rfl⟩
theorem fl_X12_93 : wPL RX12 93 12 27 2 (tyX12 27) true := ⟨RX12, TX12, 69, tyX12, iwX12, rfl, by decide, tw_1300, rfl, rfl, by decide, by decide, tyX12_ok, nmX12, rfl, rfl⟩
theorem fl_X12_96 : wPL RX12 96 12 28 2 (tyX12 28) true := ⟨RX12, TX12, 69, tyX12, iwX12, rfl, by decide, tw_1301, rfl, rfl, by decide, by decide, tyX12_ok, nmX12, rfl, rfl⟩
theorem fl_X12_99 : wPL RX12 99 12 29 2 (tyX12 29) true := ⟨RX12, TX12, 69, tyX12, iwX12, rfl, by decide, tw_1302, rfl, rfl, by decide, by decide, tyX12_ok, nmX12, rfl, rfl⟩
theorem fl_X1_129 : wPL RX1 129 7 3 2 (tyX7 3) true := ⟨RX7, TX7, 7, tyX7, iwX7, rfl, by decide, tw_206, rfl, rfl, by decide, by decide, tyX7_ok, nmX7, rfl, rfl⟩
theorem fl_X1_132 : wPL RX1 132 3 11 0 .int false := ⟨RX3, TX3, 12, tyX3, iwX3, rfl, by decide, tw_315, rfl, rfl, by decide, by decide, tyX3_ok, nmX3, rfl, rfl⟩
theorem fl_X1_15 : wPL RX1 15 1 2 2 (tyX1 2) true := ⟨RX1, TX1, 10, tyX1, iwX1, rfl, by decide, tw_408, rfl, rfl, by decide, by decide, tyX1_ok, nmX1, rfl, rfl⟩
theorem fl_X1_18 : wPL RX1 18 1 3 2 (tyX1 3) true := ⟨RX1, TX1, 10, tyX1, iwX1, rfl, by decide, tw_409, rfl, rfl, by decide, by decide, tyX1_ok, nmX1, rfl, rfl⟩
theorem fl_X1_21 : wPL RX1 21 1 6 0 .int false := ⟨RX1, TX1, 10, tyX1, iwX1, rfl, by decide, tw_412, rfl, rfl, by decide, by decide, tyX1_ok, nmX1, rfl, rfl⟩
theorem fl_X1_25 : wPL RX1 25 1 7 0 .int false := ⟨RX1, TX1, 10, tyX1, iwX1, rfl, by decide, tw_413, rfl, rfl, by decide, by decide, tyX1_ok, nmX1, rfl, rfl⟩
theorem fl_X1_28 : wPL RX1 28 1 8 0 .int false := ⟨RX1, TX1, 10, tyX1, iwX1, rfl, by decide, tw_414, rfl, rfl, by decide, by decide, tyX1_ok, nmX1, rfl, rfl⟩
theorem fl_X1_31 : wPL RX1 31 1 9 0 .int false := ⟨RX1, TX1, 10, tyX1, iwX1, rfl, by decide, tw_415, rfl, rfl, by decide, by decide, tyX1_ok, nmX1, rfl, rfl⟩
theorem fl_X1_34 : wPL RX1 34 1 0 2 (tyX1 0) true := ⟨RX1, TX1, 10, tyX1, iwX1, rfl, by decide, tw_406, rfl, rfl, by decide, by decide, tyX1_ok, nmX1, rfl, rfl⟩
