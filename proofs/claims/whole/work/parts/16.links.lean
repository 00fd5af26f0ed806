theorem iwX0 : ∀ w ∈ u_ws RX0 TX0 2, w ∈ wT := by decide +kernel
theorem iwX1 : ∀ w ∈ u_ws RX1 TX1 10, w ∈ wT := by decide +kernel
theorem iwX10 : ∀ w ∈ u_ws RX10 TX10 6, w ∈ wT := by decide +kernel
theorem iwX11 : ∀ w ∈ u_ws RX11 TX11 17, w ∈ wT := by decide +kernel
theorem iwX12 : ∀ w ∈ u_ws RX12 TX12 69, w ∈ wT := by decide +kernel
theorem iwX2 : ∀ w ∈ u_ws RX2 TX2 9, w ∈ wT := by decide +kernel
theorem iwX3 : ∀ w ∈ u_ws RX3 TX3 12, w ∈ wT := by decide +kernel
theorem iwX4 : ∀ w ∈ u_ws RX4 TX4 3, w ∈ wT := by decide +kernel
theorem iwX5 : ∀ w ∈ u_ws RX5 TX5 2, w ∈ wT := by decide +kernel
theorem iwX6 : ∀ w ∈ u_ws RX6 TX6 8, w ∈ wT := by decide +kernel
theorem iwX7 : ∀ w ∈ u_ws RX7 TX7 7, w ∈ wT := by decide +kernel
theorem iwX8 : ∀ w ∈ u_ws RX8 TX8 2, w ∈ wT := by decide +kernel
theorem iwX9 : ∀ w ∈ u_ws RX9 TX9 2, w ∈ wT := by decide +kernel
theorem tc_J6_265 : Cond.constant RJ6 265 (1431655765) ∈ wT := List.mem_filter.mpr ⟨List.mem_of_getElem? (i := 962) (by decide +kernel), by decide +kernel⟩
theorem tc_J6_266 : Cond.constant RJ6 266 (858993459) ∈ wT := List.mem_filter.mpr ⟨List.mem_of_getElem? (i := 963) (by decide +kernel), by decide +kernel⟩
theorem tc_J6_267 : Cond.constant RJ6 267 (252645135) ∈ wT := List.mem_filter.mpr ⟨List.mem_of_getElem? (i := 964) (by decide +kernel), by decide +kernel⟩
theorem tc_X11_205 : Cond.constantLong RX11 205 (-1000000000000000) ∈ wT := List.mem_filter.mpr ⟨List.mem_of_getElem? (i := 973) (by decide +kernel), by decide +kernel⟩
theorem tc_X11_310 : Cond.constantLong RX11 310 (1103515245) ∈ wT := List.mem_filter.mpr ⟨List.mem_of_getElem? (i := 1189) (by decide +kernel), by decide +kernel⟩
theorem tc_X11_312 : Cond.constantLong RX11 312 (12345) ∈ wT := List.mem_filter.mpr ⟨List.mem_of_getElem? (i := 1190) (by decide +kernel), by decide +kernel⟩
theorem tc_X11_314 : Cond.constantLong RX11 314 (2147483647) ∈ wT := List.mem_filter.mpr ⟨List.mem_of_getElem? (i := 1191) (by decide +kernel), by decide +kernel⟩
theorem tc_X12_250 : Cond.constantLong RX12 250 (422725643876) ∈ wT := List.mem_filter.mpr ⟨List.mem_of_getElem? (i := 1524) (by decide +kernel), by decide +kernel⟩
theorem tc_X12_252 : Cond.constantLong RX12 252 (2002874989) ∈ wT := List.mem_filter.mpr ⟨List.mem_of_getElem? (i := 1553) (by decide +kernel), by decide +kernel⟩
theorem tc_X12_254 : Cond.constantLong RX12 254 (1819243876) ∈ wT := List.mem_filter.mpr ⟨List.mem_of_getElem? (i := 1554) (by decide +kernel), by decide +kernel⟩
theorem tc_X12_256 : Cond.constantLong RX12 256 (1684366704) ∈ wT := List.mem_filter.mpr ⟨List.mem_of_getElem? (i := 1555) (by decide +kernel), by decide +kernel⟩
theorem tc_X12_258 : Cond.constantLong RX12 258 (109330211763570) ∈ wT := List.mem_filter.mpr ⟨List.mem_of_getElem? (i := 1556) (by decide +kernel), by decide +kernel⟩
theorem tc_X12_260 : Cond.constantLong RX12 260 (1668248436) ∈ wT := List.mem_filter.mpr ⟨List.mem_of_getElem? (i := 1557) (by decide +kernel), by decide +kernel⟩
theorem tc_X12_262 : Cond.constantLong RX12 262 (499967946343) ∈ wT := List.mem_filter.mpr ⟨List.mem_of_getElem? (i := 1558) (by decide +kernel), by decide +kernel⟩
theorem tc_X12_264 : Cond.constantLong RX12 264 (1818326117) ∈ wT := List.mem_filter.mpr ⟨List.mem_of_getElem? (i := 1559) (by decide +kernel), by decide +kernel⟩
theorem tc_X12_266 : Cond.constantLong RX12 266 (1852137842) ∈ wT := List.mem_filter.mpr ⟨List.mem_of_getElem? (i := 1560) (by decide +kernel), by decide +kernel⟩
theorem tc_X12_268 : Cond.constantLong RX12 268 (512801993331) ∈ wT := List.mem_filter.mpr ⟨List.mem_of_getElem? (i := 1561) (by decide +kernel), by decide +kernel⟩
theorem tc_X12_270 : Cond.constantLong RX12 270 (483006772069) ∈ wT := List.mem_filter.mpr ⟨List.mem_of_getElem? (i := 1562) (by decide +kernel), by decide +kernel⟩
theorem tc_X12_272 : Cond.constantLong RX12 272 (7499639) ∈ wT := List.mem_filter.mpr ⟨List.mem_of_getElem? (i := 1563) (by decide +kernel), by decide +kernel⟩
theorem tc_X12_274 : Cond.constantLong RX12 274 (126870908724595) ∈ wT := List.mem_filter.mpr ⟨List.mem_of_getElem? (i := 1564) (by decide +kernel), by decide +kernel⟩
theorem tc_X12_276 : Cond.constantLong RX12 276 (109330362692723) ∈ wT := List.mem_filter.mpr ⟨List.mem_of_getElem? (i := 1565) (by decide +kernel), by decide +kernel⟩
theorem tc_X12_278 : Cond.constantLong RX12 278 (444150998387) ∈ wT := List.mem_filter.mpr ⟨List.mem_of_getElem? (i := 1566) (by decide +kernel), by decide +kernel⟩
theorem tc_X12_280 : Cond.constantLong RX12 280 (2036687218) ∈ wT := List.mem_filter.mpr ⟨List.mem_of_getElem? (i := 1567) (by decide +kernel), by decide +kernel⟩
theorem tc_X12_282 : Cond.constantLong RX12 282 (1836019556) ∈ wT := List.mem_filter.mpr ⟨List.mem_of_getElem? (i := 1568) (by decide +kernel), by decide +kernel⟩
theorem tc_X12_284 : Cond.constantLong RX12 284 (469786452840) ∈ wT := List.mem_filter.mpr ⟨List.mem_of_getElem? (i := 1569) (by decide +kernel), by decide +kernel⟩
theorem tc_X12_286 : Cond.constantLong RX12 286 (2003792494) ∈ wT := List.mem_filter.mpr ⟨List.mem_of_getElem? (i := 1570) (by decide +kernel), by decide +kernel⟩
theorem tc_X12_288 : Cond.constantLong RX12 288 (448377483876) ∈ wT := List.mem_filter.mpr ⟨List.mem_of_getElem? (i := 1571) (by decide +kernel), by decide +kernel⟩
theorem tc_X12_290 : Cond.constantLong RX12 290 (1650553445) ∈ wT := List.mem_filter.mpr ⟨List.mem_of_getElem? (i := 1572) (by decide +kernel), by decide +kernel⟩
theorem tc_X12_292 : Cond.constantLong RX12 292 (26982) ∈ wT := List.mem_filter.mpr ⟨List.mem_of_getElem? (i := 1573) (by decide +kernel), by decide +kernel⟩
theorem tc_X12_294 : Cond.constantLong RX12 294 (28530) ∈ wT := List.mem_filter.mpr ⟨List.mem_of_getElem? (i := 1574) (by decide +kernel), by decide +kernel⟩
theorem tc_X12_296 : Cond.constantLong RX12 296 (6385252) ∈ wT := List.mem_filter.mpr ⟨List.mem_of_getElem? (i := 1575) (by decide +kernel), by decide +kernel⟩
theorem tc_X12_298 : Cond.constantLong RX12 298 (7237492) ∈ wT := List.mem_filter.mpr ⟨List.mem_of_getElem? (i := 1576) (by decide +kernel), by decide +kernel⟩
theorem tc_X12_300 : Cond.constantLong RX12 300 (6384748) ∈ wT := List.mem_filter.mpr ⟨List.mem_of_getElem? (i := 1577) (by decide +kernel), by decide +kernel⟩
theorem tc_X12_302 : Cond.constantLong RX12 302 (7170414) ∈ wT := List.mem_filter.mpr ⟨List.mem_of_getElem? (i := 1578) (by decide +kernel), by decide +kernel⟩
theorem tc_X12_304 : Cond.constantLong RX12 304 (7168376) ∈ wT := List.mem_filter.mpr ⟨List.mem_of_getElem? (i := 1579) (by decide +kernel), by decide +kernel⟩
theorem tc_X12_427 : Cond.constantLong RX12 427 (1000000) ∈ wT := List.mem_filter.mpr ⟨List.mem_of_getElem? (i := 1770) (by decide +kernel), by decide +kernel⟩
theorem tc_X12_429 : Cond.constantLong RX12 429 (-1000000) ∈ wT := List.mem_filter.mpr ⟨List.mem_of_getElem? (i := 1771) (by decide +kernel), by decide +kernel⟩
theorem tc_X12_482 : Cond.constantLong RX12 482 (99) ∈ wT := List.mem_filter.mpr ⟨List.mem_of_getElem? (i := 1854) (by decide +kernel), by decide +kernel⟩
theorem tc_X12_516 : Cond.constantLong RX12 516 (255) ∈ wT := List.mem_filter.mpr ⟨List.mem_of_getElem? (i := 1739) (by decide +kernel), by decide +kernel⟩
theorem tc_X12_524 : Cond.constantLong RX12 524 (-1000000000000000) ∈ wT := List.mem_filter.mpr ⟨List.mem_of_getElem? (i := 1801) (by decide +kernel), by decide +kernel⟩
theorem tc_X12_550 : Cond.constant RX12 550 (100000000) ∈ wT := List.mem_filter.mpr ⟨List.mem_of_getElem? (i := 1923) (by decide +kernel), by decide +kernel⟩
theorem tc_X12_557 : Cond.constantLong RX12 557 (1103515245) ∈ wT := List.mem_filter.mpr ⟨List.mem_of_getElem? (i := 1944) (by decide +kernel), by decide +kernel⟩
theorem tc_X12_559 : Cond.constantLong RX12 559 (12345) ∈ wT := List.mem_filter.mpr ⟨List.mem_of_getElem? (i := 1945) (by decide +kernel), by decide +kernel⟩
theorem tc_X12_561 : Cond.constantLong RX12 561 (2147483648) ∈ wT := List.mem_filter.mpr ⟨List.mem_of_getElem? (i := 1946) (by decide +kernel), by decide +kernel⟩
theorem tc_X12_563 : Cond.constantLong RX12 563 (64) ∈ wT := List.mem_filter.mpr ⟨List.mem_of_getElem? (i := 1947) (by decide +kernel), by decide +kernel⟩
theorem tc_X1_46 : Cond.constant RX1 46 (-2000000) ∈ wT := List.mem_filter.mpr ⟨List.mem_of_getElem? (i := 922) (by decide +kernel), by decide +kernel⟩
theorem tc_X8_40 : Cond.constantLong RX8 40 (1000000) ∈ wT := List.mem_filter.mpr ⟨List.mem_of_getElem? (i := 945) (by decide +kernel), by decide +kernel⟩
theorem tc_X8_42 : Cond.constantLong RX8 42 (-1000000) ∈ wT := List.mem_filter.mpr ⟨List.mem_of_getElem? (i := 946) (by decide +kernel), by decide +kernel⟩
theorem tw_0 : Cond.selects (yX11_refuse).cls yX11_refuse yX11_refuse ∈ wT := List.mem_filter.mpr ⟨List.mem_of_getElem? (i := 0) (by decide +kernel), by decide +kernel⟩
theorem tw_1 : Cond.selects (yX11_refuseIt).cls yX11_refuseIt yX11_refuseIt ∈ wT := List.mem_filter.mpr ⟨List.mem_of_getElem? (i := 1) (by decide +kernel), by decide +kernel⟩
theorem tw_2 : Cond.selects (yX10_cutOne).cls yX10_cutOne yX10_cutOne ∈ wT := List.mem_filter.mpr ⟨List.mem_of_getElem? (i := 2) (by decide +kernel), by decide +kernel⟩
theorem tw_3 : Cond.selects (yX10_add).cls yX10_add yX10_add ∈ wT := List.mem_filter.mpr ⟨List.mem_of_getElem? (i := 3) (by decide +kernel), by decide +kernel⟩
theorem tw_4 : Cond.selects (yX10_cutWord).cls yX10_cutWord yX10_cutWord ∈ wT := List.mem_filter.mpr ⟨List.mem_of_getElem? (i := 4) (by decide +kernel), by decide +kernel⟩
theorem tw_5 : Cond.selects (yX10_cutNumber).cls yX10_cutNumber yX10_cutNumber ∈ wT := List.mem_filter.mpr ⟨List.mem_of_getElem? (i := 5) (by decide +kernel), by decide +kernel⟩
theorem tw_6 : Cond.selects (yX6_readStatement).cls yX6_readStatement yX6_readStatement ∈ wT := List.mem_filter.mpr ⟨List.mem_of_getElem? (i := 6) (by decide +kernel), by decide +kernel⟩
theorem tw_7 : Cond.selects (yX6_ownHere).cls yX6_ownHere yX6_ownHere ∈ wT := List.mem_filter.mpr ⟨List.mem_of_getElem? (i := 7) (by decide +kernel), by decide +kernel⟩
theorem tw_8 : Cond.selects (yX6_fail).cls yX6_fail yX6_fail ∈ wT := List.mem_filter.mpr ⟨List.mem_of_getElem? (i := 8) (by decide +kernel), by decide +kernel⟩
theorem tw_9 : Cond.selects (yX6_isFull).cls yX6_isFull yX6_isFull ∈ wT := List.mem_filter.mpr ⟨List.mem_of_getElem? (i := 9) (by decide +kernel), by decide +kernel⟩
theorem tw_10 : Cond.selects (yX6_readOne).cls yX6_readOne yX6_readOne ∈ wT := List.mem_filter.mpr ⟨List.mem_of_getElem? (i := 10) (by decide +kernel), by decide +kernel⟩
theorem tw_11 : Cond.selects (yX6_isName).cls yX6_isName yX6_isName ∈ wT := List.mem_filter.mpr ⟨List.mem_of_getElem? (i := 11) (by decide +kernel), by decide +kernel⟩
theorem tw_12 : Cond.selects (yX6_isTaken).cls yX6_isTaken yX6_isTaken ∈ wT := List.mem_filter.mpr ⟨List.mem_of_getElem? (i := 12) (by decide +kernel), by decide +kernel⟩
theorem tw_13 : Cond.selects (yX6_takeTrait).cls yX6_takeTrait yX6_takeTrait ∈ wT := List.mem_filter.mpr ⟨List.mem_of_getElem? (i := 13) (by decide +kernel), by decide +kernel⟩
theorem tw_14 : Cond.selects (yX6_isOwn).cls yX6_isOwn yX6_isOwn ∈ wT := List.mem_filter.mpr ⟨List.mem_of_getElem? (i := 14) (by decide +kernel), by decide +kernel⟩
theorem tw_15 : Cond.selects (yX6_takeUpTo).cls yX6_takeUpTo yX6_takeUpTo ∈ wT := List.mem_filter.mpr ⟨List.mem_of_getElem? (i := 15) (by decide +kernel), by decide +kernel⟩
theorem tw_16 : Cond.selects (yX6_readLate).cls yX6_readLate yX6_readLate ∈ wT := List.mem_filter.mpr ⟨List.mem_of_getElem? (i := 16) (by decide +kernel), by decide +kernel⟩
theorem tw_17 : Cond.selects (yX6_findNamed).cls yX6_findNamed yX6_findNamed ∈ wT := List.mem_filter.mpr ⟨List.mem_of_getElem? (i := 17) (by decide +kernel), by decide +kernel⟩
theorem tw_18 : Cond.selects (yX6_readNear).cls yX6_readNear yX6_readNear ∈ wT := List.mem_filter.mpr ⟨List.mem_of_getElem? (i := 18) (by decide +kernel), by decide +kernel⟩
theorem tw_19 : Cond.selects (yX6_readWears).cls yX6_readWears yX6_readWears ∈ wT := List.mem_filter.mpr ⟨List.mem_of_getElem? (i := 19) (by decide +kernel), by decide +kernel⟩
theorem tw_20 : Cond.selects (yX6_readFormula).cls yX6_readFormula yX6_readFormula ∈ wT := List.mem_filter.mpr ⟨List.mem_of_getElem? (i := 20) (by decide +kernel), by decide +kernel⟩
theorem tw_21 : Cond.selects (yX6_readTest).cls yX6_readTest yX6_readTest ∈ wT := List.mem_filter.mpr ⟨List.mem_of_getElem? (i := 21) (by decide +kernel), by decide +kernel⟩
theorem tw_22 : Cond.selects (yX6_readBoth).cls yX6_readBoth yX6_readBoth ∈ wT := List.mem_filter.mpr ⟨List.mem_of_getElem? (i := 22) (by decide +kernel), by decide +kernel⟩
theorem tw_23 : Cond.selects (yX6_readFact).cls yX6_readFact yX6_readFact ∈ wT := List.mem_filter.mpr ⟨List.mem_of_getElem? (i := 23) (by decide +kernel), by decide +kernel⟩
theorem tw_24 : Cond.selects (yX6_opens).cls yX6_opens yX6_opens ∈ wT := List.mem_filter.mpr ⟨List.mem_of_getElem? (i := 24) (by decide +kernel), by decide +kernel⟩
theorem tw_25 : Cond.selects (yX6_emit).cls yX6_emit yX6_emit ∈ wT := List.mem_filter.mpr ⟨List.mem_of_getElem? (i := 25) (by decide +kernel), by decide +kernel⟩
theorem tw_26 : Cond.selects (yX6_isSign).cls yX6_isSign yX6_isSign ∈ wT := List.mem_filter.mpr ⟨List.mem_of_getElem? (i := 26) (by decide +kernel), by decide +kernel⟩
theorem tw_27 : Cond.selects (yX6_expect).cls yX6_expect yX6_expect ∈ wT := List.mem_filter.mpr ⟨List.mem_of_getElem? (i := 27) (by decide +kernel), by decide +kernel⟩
theorem tw_28 : Cond.selects (yX6_readComparison).cls yX6_readComparison yX6_readComparison ∈ wT := List.mem_filter.mpr ⟨List.mem_of_getElem? (i := 28) (by decide +kernel), by decide +kernel⟩
theorem tw_29 : Cond.selects (yX6_readSum).cls yX6_readSum yX6_readSum ∈ wT := List.mem_filter.mpr ⟨List.mem_of_getElem? (i := 29) (by decide +kernel), by decide +kernel⟩
theorem tw_30 : Cond.selects (yX6_readProduct).cls yX6_readProduct yX6_readProduct ∈ wT := List.mem_filter.mpr ⟨List.mem_of_getElem? (i := 30) (by decide +kernel), by decide +kernel⟩
theorem tw_31 : Cond.selects (yX6_readPart).cls yX6_readPart yX6_readPart ∈ wT := List.mem_filter.mpr ⟨List.mem_of_getElem? (i := 31) (by decide +kernel), by decide +kernel⟩
theorem tw_32 : Cond.selects (yX6_variable).cls yX6_variable yX6_variable ∈ wT := List.mem_filter.mpr ⟨List.mem_of_getElem? (i := 32) (by decide +kernel), by decide +kernel⟩
theorem tw_33 : Cond.selects (yX6_readChosen).cls yX6_readChosen yX6_readChosen ∈ wT := List.mem_filter.mpr ⟨List.mem_of_getElem? (i := 33) (by decide +kernel), by decide +kernel⟩
theorem tw_34 : Cond.selects (yX3_clashesBelow).cls yX3_clashesBelow yX3_clashesBelow ∈ wT := List.mem_filter.mpr ⟨List.mem_of_getElem? (i := 34) (by decide +kernel), by decide +kernel⟩
theorem tw_35 : Cond.selects (yX1_putPerson).cls yX1_putPerson yX1_putPerson ∈ wT := List.mem_filter.mpr ⟨List.mem_of_getElem? (i := 35) (by decide +kernel), by decide +kernel⟩
theorem tw_36 : Cond.selects (yX11_areThere).cls yX11_areThere yX11_areThere ∈ wT := List.mem_filter.mpr ⟨List.mem_of_getElem? (i := 36) (by decide +kernel), by decide +kernel⟩
theorem tw_37 : Cond.selects (yX11_canPass).cls yX11_canPass yX11_canPass ∈ wT := List.mem_filter.mpr ⟨List.mem_of_getElem? (i := 37) (by decide +kernel), by decide +kernel⟩
theorem tw_38 : Cond.selects (yX11_lookAhead).cls yX11_lookAhead yX11_lookAhead ∈ wT := List.mem_filter.mpr ⟨List.mem_of_getElem? (i := 38) (by decide +kernel), by decide +kernel⟩
theorem tw_39 : Cond.selects (yX0_gift).cls yX0_gift yX0_gift ∈ wT := List.mem_filter.mpr ⟨List.mem_of_getElem? (i := 39) (by decide +kernel), by decide +kernel⟩
theorem tw_40 : Cond.selects (yX0_changeMoods).cls yX0_changeMoods yX0_changeMoods ∈ wT := List.mem_filter.mpr ⟨List.mem_of_getElem? (i := 40) (by decide +kernel), by decide +kernel⟩
theorem tw_41 : Cond.selects (yX1_beginOrders).cls yX1_beginOrders yX1_beginOrders ∈ wT := List.mem_filter.mpr ⟨List.mem_of_getElem? (i := 41) (by decide +kernel), by decide +kernel⟩
theorem tw_42 : Cond.selects (yX1_nextOrder).cls yX1_nextOrder yX1_nextOrder ∈ wT := List.mem_filter.mpr ⟨List.mem_of_getElem? (i := 42) (by decide +kernel), by decide +kernel⟩
theorem tw_43 : Cond.selects (yX2_agrees).cls yX2_agrees yX2_agrees ∈ wT := List.mem_filter.mpr ⟨List.mem_of_getElem? (i := 43) (by decide +kernel), by decide +kernel⟩
theorem tw_44 : Cond.selects (yX11_draw).cls yX11_draw yX11_draw ∈ wT := List.mem_filter.mpr ⟨List.mem_of_getElem? (i := 44) (by decide +kernel), by decide +kernel⟩
theorem tw_45 : Cond.selects (yX5_add).cls yX5_add yX5_add ∈ wT := List.mem_filter.mpr ⟨List.mem_of_getElem? (i := 45) (by decide +kernel), by decide +kernel⟩
theorem tw_46 : Cond.selects (yX12_refuses).cls yX12_refuses yX12_refuses ∈ wT := List.mem_filter.mpr ⟨List.mem_of_getElem? (i := 46) (by decide +kernel), by decide +kernel⟩
theorem tw_47 : Cond.selects (yX12_put).cls yX12_put yX12_put ∈ wT := List.mem_filter.mpr ⟨List.mem_of_getElem? (i := 47) (by decide +kernel), by decide +kernel⟩
theorem tw_48 : Cond.selects (yX12_ahead).cls yX12_ahead yX12_ahead ∈ wT := List.mem_filter.mpr ⟨List.mem_of_getElem? (i := 48) (by decide +kernel), by decide +kernel⟩
theorem tw_49 : Cond.selects (yX12_statement).cls yX12_statement yX12_statement ∈ wT := List.mem_filter.mpr ⟨List.mem_of_getElem? (i := 49) (by decide +kernel), by decide +kernel⟩
theorem tw_50 : Cond.selects (yX12_lex).cls yX12_lex yX12_lex ∈ wT := List.mem_filter.mpr ⟨List.mem_of_getElem? (i := 50) (by decide +kernel), by decide +kernel⟩
theorem tw_51 : Cond.selects (yX12_blame).cls yX12_blame yX12_blame ∈ wT := List.mem_filter.mpr ⟨List.mem_of_getElem? (i := 51) (by decide +kernel), by decide +kernel⟩
theorem tw_52 : Cond.selects (yX12_isWord).cls yX12_isWord yX12_isWord ∈ wT := List.mem_filter.mpr ⟨List.mem_of_getElem? (i := 52) (by decide +kernel), by decide +kernel⟩
theorem tw_53 : Cond.selects (yX12_blinding).cls yX12_blinding yX12_blinding ∈ wT := List.mem_filter.mpr ⟨List.mem_of_getElem? (i := 53) (by decide +kernel), by decide +kernel⟩
theorem tw_54 : Cond.selects (yX12_isShaped).cls yX12_isShaped yX12_isShaped ∈ wT := List.mem_filter.mpr ⟨List.mem_of_getElem? (i := 54) (by decide +kernel), by decide +kernel⟩
theorem tw_55 : Cond.selects (yX12_manyOf).cls yX12_manyOf yX12_manyOf ∈ wT := List.mem_filter.mpr ⟨List.mem_of_getElem? (i := 55) (by decide +kernel), by decide +kernel⟩
theorem tw_56 : Cond.selects (yX12_isCounted).cls yX12_isCounted yX12_isCounted ∈ wT := List.mem_filter.mpr ⟨List.mem_of_getElem? (i := 56) (by decide +kernel), by decide +kernel⟩
theorem tw_57 : Cond.selects (yX12_fresh).cls yX12_fresh yX12_fresh ∈ wT := List.mem_filter.mpr ⟨List.mem_of_getElem? (i := 57) (by decide +kernel), by decide +kernel⟩
theorem tw_58 : Cond.selects (yX12_isOwn).cls yX12_isOwn yX12_isOwn ∈ wT := List.mem_filter.mpr ⟨List.mem_of_getElem? (i := 58) (by decide +kernel), by decide +kernel⟩
theorem tw_59 : Cond.selects (yX12_named).cls yX12_named yX12_named ∈ wT := List.mem_filter.mpr ⟨List.mem_of_getElem? (i := 59) (by decide +kernel), by decide +kernel⟩
theorem tw_60 : Cond.selects (yX12_mustWord).cls yX12_mustWord yX12_mustWord ∈ wT := List.mem_filter.mpr ⟨List.mem_of_getElem? (i := 60) (by decide +kernel), by decide +kernel⟩
theorem tw_61 : Cond.selects (yX12_number).cls yX12_number yX12_number ∈ wT := List.mem_filter.mpr ⟨List.mem_of_getElem? (i := 61) (by decide +kernel), by decide +kernel⟩
theorem tw_62 : Cond.selects (yX12_colouring).cls yX12_colouring yX12_colouring ∈ wT := List.mem_filter.mpr ⟨List.mem_of_getElem? (i := 62) (by decide +kernel), by decide +kernel⟩
theorem tw_63 : Cond.selects (yX12_thinging).cls yX12_thinging yX12_thinging ∈ wT := List.mem_filter.mpr ⟨List.mem_of_getElem? (i := 63) (by decide +kernel), by decide +kernel⟩
theorem tw_64 : Cond.selects (yX12_lateness).cls yX12_lateness yX12_lateness ∈ wT := List.mem_filter.mpr ⟨List.mem_of_getElem? (i := 64) (by decide +kernel), by decide +kernel⟩
theorem tw_65 : Cond.selects (yX12_known).cls yX12_known yX12_known ∈ wT := List.mem_filter.mpr ⟨List.mem_of_getElem? (i := 65) (by decide +kernel), by decide +kernel⟩
theorem tw_66 : Cond.selects (yX12_nearing).cls yX12_nearing yX12_nearing ∈ wT := List.mem_filter.mpr ⟨List.mem_of_getElem? (i := 66) (by decide +kernel), by decide +kernel⟩
theorem tw_67 : Cond.selects (yX12_wearing).cls yX12_wearing yX12_wearing ∈ wT := List.mem_filter.mpr ⟨List.mem_of_getElem? (i := 67) (by decide +kernel), by decide +kernel⟩
theorem tw_68 : Cond.selects (yX12_telling).cls yX12_telling yX12_telling ∈ wT := List.mem_filter.mpr ⟨List.mem_of_getElem? (i := 68) (by decide +kernel), by decide +kernel⟩
theorem tw_69 : Cond.selects (yX12_reading).cls yX12_reading yX12_reading ∈ wT := List.mem_filter.mpr ⟨List.mem_of_getElem? (i := 69) (by decide +kernel), by decide +kernel⟩
theorem tw_70 : Cond.selects (yX12_reads).cls yX12_reads yX12_reads ∈ wT := List.mem_filter.mpr ⟨List.mem_of_getElem? (i := 70) (by decide +kernel), by decide +kernel⟩
theorem tw_71 : Cond.selects (yX12_pushes).cls yX12_pushes yX12_pushes ∈ wT := List.mem_filter.mpr ⟨List.mem_of_getElem? (i := 71) (by decide +kernel), by decide +kernel⟩
theorem tw_72 : Cond.selects (yX12_operand).cls yX12_operand yX12_operand ∈ wT := List.mem_filter.mpr ⟨List.mem_of_getElem? (i := 72) (by decide +kernel), by decide +kernel⟩
theorem tw_73 : Cond.selects (yX12_holdsBack).cls yX12_holdsBack yX12_holdsBack ∈ wT := List.mem_filter.mpr ⟨List.mem_of_getElem? (i := 73) (by decide +kernel), by decide +kernel⟩
theorem tw_74 : Cond.selects (yX12_isSign).cls yX12_isSign yX12_isSign ∈ wT := List.mem_filter.mpr ⟨List.mem_of_getElem? (i := 74) (by decide +kernel), by decide +kernel⟩
theorem tw_75 : Cond.selects (yX12_opens).cls yX12_opens yX12_opens ∈ wT := List.mem_filter.mpr ⟨List.mem_of_getElem? (i := 75) (by decide +kernel), by decide +kernel⟩
theorem tw_76 : Cond.selects (yX12_add).cls yX12_add yX12_add ∈ wT := List.mem_filter.mpr ⟨List.mem_of_getElem? (i := 76) (by decide +kernel), by decide +kernel⟩
theorem tw_77 : Cond.selects (yX12_goesOn).cls yX12_goesOn yX12_goesOn ∈ wT := List.mem_filter.mpr ⟨List.mem_of_getElem? (i := 77) (by decide +kernel), by decide +kernel⟩
theorem tw_78 : Cond.selects (yX12_joins).cls yX12_joins yX12_joins ∈ wT := List.mem_filter.mpr ⟨List.mem_of_getElem? (i := 78) (by decide +kernel), by decide +kernel⟩
theorem tw_79 : Cond.selects (yX12_finishes).cls yX12_finishes yX12_finishes ∈ wT := List.mem_filter.mpr ⟨List.mem_of_getElem? (i := 79) (by decide +kernel), by decide +kernel⟩
theorem tw_80 : Cond.selects (yX12_must).cls yX12_must yX12_must ∈ wT := List.mem_filter.mpr ⟨List.mem_of_getElem? (i := 80) (by decide +kernel), by decide +kernel⟩
theorem tw_81 : Cond.selects (yX12_begin).cls yX12_begin yX12_begin ∈ wT := List.mem_filter.mpr ⟨List.mem_of_getElem? (i := 81) (by decide +kernel), by decide +kernel⟩
theorem tw_82 : Cond.selects (yX12_slot).cls yX12_slot yX12_slot ∈ wT := List.mem_filter.mpr ⟨List.mem_of_getElem? (i := 82) (by decide +kernel), by decide +kernel⟩
theorem tw_83 : Cond.selects (yX12_copies).cls yX12_copies yX12_copies ∈ wT := List.mem_filter.mpr ⟨List.mem_of_getElem? (i := 83) (by decide +kernel), by decide +kernel⟩
theorem tw_84 : Cond.selects (yX12_wornOf).cls yX12_wornOf yX12_wornOf ∈ wT := List.mem_filter.mpr ⟨List.mem_of_getElem? (i := 84) (by decide +kernel), by decide +kernel⟩
theorem tw_85 : Cond.selects (yX12_clashes).cls yX12_clashes yX12_clashes ∈ wT := List.mem_filter.mpr ⟨List.mem_of_getElem? (i := 85) (by decide +kernel), by decide +kernel⟩
theorem tw_86 : Cond.selects (yX12_nearSet).cls yX12_nearSet yX12_nearSet ∈ wT := List.mem_filter.mpr ⟨List.mem_of_getElem? (i := 86) (by decide +kernel), by decide +kernel⟩
theorem tw_87 : Cond.selects (yX12_isBlind).cls yX12_isBlind yX12_isBlind ∈ wT := List.mem_filter.mpr ⟨List.mem_of_getElem? (i := 87) (by decide +kernel), by decide +kernel⟩
theorem tw_88 : Cond.selects (yX12_isColour).cls yX12_isColour yX12_isColour ∈ wT := List.mem_filter.mpr ⟨List.mem_of_getElem? (i := 88) (by decide +kernel), by decide +kernel⟩
theorem tw_89 : Cond.selects (yX12_isThing).cls yX12_isThing yX12_isThing ∈ wT := List.mem_filter.mpr ⟨List.mem_of_getElem? (i := 89) (by decide +kernel), by decide +kernel⟩
theorem tw_90 : Cond.selects (yX12_placeOf).cls yX12_placeOf yX12_placeOf ∈ wT := List.mem_filter.mpr ⟨List.mem_of_getElem? (i := 90) (by decide +kernel), by decide +kernel⟩
theorem tw_91 : Cond.selects (yX12_isCounting).cls yX12_isCounting yX12_isCounting ∈ wT := List.mem_filter.mpr ⟨List.mem_of_getElem? (i := 91) (by decide +kernel), by decide +kernel⟩
theorem tw_92 : Cond.selects (yX12_isTold).cls yX12_isTold yX12_isTold ∈ wT := List.mem_filter.mpr ⟨List.mem_of_getElem? (i := 92) (by decide +kernel), by decide +kernel⟩
theorem tw_93 : Cond.selects (yX12_lays).cls yX12_lays yX12_lays ∈ wT := List.mem_filter.mpr ⟨List.mem_of_getElem? (i := 93) (by decide +kernel), by decide +kernel⟩
theorem tw_94 : Cond.selects (yX12_reckons).cls yX12_reckons yX12_reckons ∈ wT := List.mem_filter.mpr ⟨List.mem_of_getElem? (i := 94) (by decide +kernel), by decide +kernel⟩
theorem tw_95 : Cond.selects (yX12_scoreOf).cls yX12_scoreOf yX12_scoreOf ∈ wT := List.mem_filter.mpr ⟨List.mem_of_getElem? (i := 95) (by decide +kernel), by decide +kernel⟩
theorem tw_96 : Cond.selects (yX12_matchOf).cls yX12_matchOf yX12_matchOf ∈ wT := List.mem_filter.mpr ⟨List.mem_of_getElem? (i := 96) (by decide +kernel), by decide +kernel⟩
theorem tw_97 : Cond.selects (yX12_hushes).cls yX12_hushes yX12_hushes ∈ wT := List.mem_filter.mpr ⟨List.mem_of_getElem? (i := 97) (by decide +kernel), by decide +kernel⟩
theorem tw_98 : Cond.selects (yX12_wordBy).cls yX12_wordBy yX12_wordBy ∈ wT := List.mem_filter.mpr ⟨List.mem_of_getElem? (i := 98) (by decide +kernel), by decide +kernel⟩
theorem tw_99 : Cond.selects (yX12_everybody).cls yX12_everybody yX12_everybody ∈ wT := List.mem_filter.mpr ⟨List.mem_of_getElem? (i := 99) (by decide +kernel), by decide +kernel⟩
theorem tw_100 : Cond.selects (yX12_choiceOf).cls yX12_choiceOf yX12_choiceOf ∈ wT := List.mem_filter.mpr ⟨List.mem_of_getElem? (i := 100) (by decide +kernel), by decide +kernel⟩
theorem tw_101 : Cond.selects (yX12_laysNow).cls yX12_laysNow yX12_laysNow ∈ wT := List.mem_filter.mpr ⟨List.mem_of_getElem? (i := 101) (by decide +kernel), by decide +kernel⟩
theorem tw_102 : Cond.selects (yX12_chosen).cls yX12_chosen yX12_chosen ∈ wT := List.mem_filter.mpr ⟨List.mem_of_getElem? (i := 102) (by decide +kernel), by decide +kernel⟩
theorem tw_103 : Cond.selects (yX12_isAhead).cls yX12_isAhead yX12_isAhead ∈ wT := List.mem_filter.mpr ⟨List.mem_of_getElem? (i := 103) (by decide +kernel), by decide +kernel⟩
theorem tw_104 : Cond.selects (yX12_runsOn).cls yX12_runsOn yX12_runsOn ∈ wT := List.mem_filter.mpr ⟨List.mem_of_getElem? (i := 104) (by decide +kernel), by decide +kernel⟩
theorem tw_105 : Cond.selects (yX12_ticks).cls yX12_ticks yX12_ticks ∈ wT := List.mem_filter.mpr ⟨List.mem_of_getElem? (i := 105) (by decide +kernel), by decide +kernel⟩
theorem tw_106 : Cond.selects (yX12_gift).cls yX12_gift yX12_gift ∈ wT := List.mem_filter.mpr ⟨List.mem_of_getElem? (i := 106) (by decide +kernel), by decide +kernel⟩
theorem tw_107 : Cond.selects (yX12_moods).cls yX12_moods yX12_moods ∈ wT := List.mem_filter.mpr ⟨List.mem_of_getElem? (i := 107) (by decide +kernel), by decide +kernel⟩
theorem tw_108 : Cond.selects (yX12_writesDown).cls yX12_writesDown yX12_writesDown ∈ wT := List.mem_filter.mpr ⟨List.mem_of_getElem? (i := 108) (by decide +kernel), by decide +kernel⟩
theorem tw_109 : Cond.selects (yX12_rowsOf).cls yX12_rowsOf yX12_rowsOf ∈ wT := List.mem_filter.mpr ⟨List.mem_of_getElem? (i := 109) (by decide +kernel), by decide +kernel⟩
theorem tw_110 : Cond.selects (yX12_laysOrder).cls yX12_laysOrder yX12_laysOrder ∈ wT := List.mem_filter.mpr ⟨List.mem_of_getElem? (i := 110) (by decide +kernel), by decide +kernel⟩
theorem tw_111 : Cond.selects (yX12_isCleared).cls yX12_isCleared yX12_isCleared ∈ wT := List.mem_filter.mpr ⟨List.mem_of_getElem? (i := 111) (by decide +kernel), by decide +kernel⟩
theorem tw_112 : Cond.selects (yX12_isClear).cls yX12_isClear yX12_isClear ∈ wT := List.mem_filter.mpr ⟨List.mem_of_getElem? (i := 112) (by decide +kernel), by decide +kernel⟩
theorem tw_113 : Cond.selects (yX12_tasteBits).cls yX12_tasteBits yX12_tasteBits ∈ wT := List.mem_filter.mpr ⟨List.mem_of_getElem? (i := 113) (by decide +kernel), by decide +kernel⟩
theorem tw_114 : Cond.selects (yX12_mostBy).cls yX12_mostBy yX12_mostBy ∈ wT := List.mem_filter.mpr ⟨List.mem_of_getElem? (i := 114) (by decide +kernel), by decide +kernel⟩
theorem tw_115 : Cond.selects (yX12_keeps).cls yX12_keeps yX12_keeps ∈ wT := List.mem_filter.mpr ⟨List.mem_of_getElem? (i := 115) (by decide +kernel), by decide +kernel⟩
theorem tw_116 : Cond.selects (yX12_draw).cls yX12_draw yX12_draw ∈ wT := List.mem_filter.mpr ⟨List.mem_of_getElem? (i := 116) (by decide +kernel), by decide +kernel⟩
theorem tw_117 : Cond.selects (yX12_writes).cls yX12_writes yX12_writes ∈ wT := List.mem_filter.mpr ⟨List.mem_of_getElem? (i := 117) (by decide +kernel), by decide +kernel⟩
theorem tw_118 : Cond.selects (yX12_comesOn).cls yX12_comesOn yX12_comesOn ∈ wT := List.mem_filter.mpr ⟨List.mem_of_getElem? (i := 118) (by decide +kernel), by decide +kernel⟩
theorem tw_120 : Cond.initialized RX11 ∈ wT := List.mem_filter.mpr ⟨List.mem_of_getElem? (i := 120) (by decide +kernel), by decide +kernel⟩
theorem tw_121 : Cond.initialized RX9 ∈ wT := List.mem_filter.mpr ⟨List.mem_of_getElem? (i := 121) (by decide +kernel), by decide +kernel⟩
theorem tw_122 : Cond.initialized RX8 ∈ wT := List.mem_filter.mpr ⟨List.mem_of_getElem? (i := 122) (by decide +kernel), by decide +kernel⟩
theorem tw_123 : Cond.initialized RX7 ∈ wT := List.mem_filter.mpr ⟨List.mem_of_getElem? (i := 123) (by decide +kernel), by decide +kernel⟩
theorem tw_124 : Cond.initialized RX4 ∈ wT := List.mem_filter.mpr ⟨List.mem_of_getElem? (i := 124) (by decide +kernel), by decide +kernel⟩
theorem tw_125 : Cond.initialized RX5 ∈ wT := List.mem_filter.mpr ⟨List.mem_of_getElem? (i := 125) (by decide +kernel), by decide +kernel⟩
theorem tw_126 : Cond.initialized RX3 ∈ wT := List.mem_filter.mpr ⟨List.mem_of_getElem? (i := 126) (by decide +kernel), by decide +kernel⟩
theorem tw_127 : Cond.initialized RJ7 ∈ wT := List.mem_filter.mpr ⟨List.mem_of_getElem? (i := 127) (by decide +kernel), by decide +kernel⟩
theorem tw_128 : Cond.initialized RX6 ∈ wT := List.mem_filter.mpr ⟨List.mem_of_getElem? (i := 128) (by decide +kernel), by decide +kernel⟩
theorem tw_129 : Cond.initialized RX10 ∈ wT := List.mem_filter.mpr ⟨List.mem_of_getElem? (i := 129) (by decide +kernel), by decide +kernel⟩
theorem tw_130 : Cond.initialized RX1 ∈ wT := List.mem_filter.mpr ⟨List.mem_of_getElem? (i := 130) (by decide +kernel), by decide +kernel⟩
theorem tw_131 : Cond.initialized RX0 ∈ wT := List.mem_filter.mpr ⟨List.mem_of_getElem? (i := 131) (by decide +kernel), by decide +kernel⟩
theorem tw_132 : Cond.initialized RX2 ∈ wT := List.mem_filter.mpr ⟨List.mem_of_getElem? (i := 132) (by decide +kernel), by decide +kernel⟩
theorem tw_133 : Cond.initialized RX12 ∈ wT := List.mem_filter.mpr ⟨List.mem_of_getElem? (i := 133) (by decide +kernel), by decide +kernel⟩
theorem tw_134 : Cond.initialized RJ0 ∈ wT := List.mem_filter.mpr ⟨List.mem_of_getElem? (i := 134) (by decide +kernel), by decide +kernel⟩
theorem tw_135 : Cond.initialized RJ1 ∈ wT := List.mem_filter.mpr ⟨List.mem_of_getElem? (i := 135) (by decide +kernel), by decide +kernel⟩
theorem tw_136 : Cond.initialized RJ3 ∈ wT := List.mem_filter.mpr ⟨List.mem_of_getElem? (i := 136) (by decide +kernel), by decide +kernel⟩
theorem tw_138 : Cond.initialized RJ9 ∈ wT := List.mem_filter.mpr ⟨List.mem_of_getElem? (i := 138) (by decide +kernel), by decide +kernel⟩
theorem tw_140 : Cond.initialized RJ6 ∈ wT := List.mem_filter.mpr ⟨List.mem_of_getElem? (i := 140) (by decide +kernel), by decide +kernel⟩
theorem tw_141 : Cond.initialized "java/lang/System" ∈ wT := List.mem_filter.mpr ⟨List.mem_of_getElem? (i := 141) (by decide +kernel), by decide +kernel⟩
theorem tw_147 : Cond.methodLink RX11 1 objectInit ∈ wT := List.mem_filter.mpr ⟨List.mem_of_getElem? (i := 147) (by decide +kernel), by decide +kernel⟩
theorem tw_148 : Cond.instanceMethod objectInit ∈ wT := List.mem_filter.mpr ⟨List.mem_of_getElem? (i := 148) (by decide +kernel), by decide +kernel⟩
theorem tw_149 : Cond.code objectInit ⟨#[0xb1]⟩ 1 none ∈ wT := List.mem_filter.mpr ⟨List.mem_of_getElem? (i := 149) (by decide +kernel), by decide +kernel⟩
theorem tw_150 : Cond.classLink RX11 7 RX9 ∈ wT := List.mem_filter.mpr ⟨List.mem_of_getElem? (i := 150) (by decide +kernel), by decide +kernel⟩
theorem tw_151 : Cond.instantiable RX9 2 ∈ wT := List.mem_filter.mpr ⟨List.mem_of_getElem? (i := 151) (by decide +kernel), by decide +kernel⟩
theorem tw_152 : Cond.methodLinkNest RX11 9 yX9_init "BlindColours" ∈ wT := List.mem_filter.mpr ⟨List.mem_of_getElem? (i := 152) (by decide +kernel), by decide +kernel⟩
theorem tw_153 : Cond.instanceMethod yX9_init ∈ wT := List.mem_filter.mpr ⟨List.mem_of_getElem? (i := 153) (by decide +kernel), by decide +kernel⟩
theorem tw_154 : Cond.code yX9_init cX9_init 1 none ∈ wT := List.mem_filter.mpr ⟨List.mem_of_getElem? (i := 154) (by decide +kernel), by decide +kernel⟩
theorem tw_155 : Cond.methodLink RX9 3 objectInit ∈ wT := List.mem_filter.mpr ⟨List.mem_of_getElem? (i := 155) (by decide +kernel), by decide +kernel⟩
theorem tw_156 : Cond.fieldLink RX9 9 RX9 (TX9 0).2.1 (TX9 0).2.2.1 ∈ wT := List.mem_filter.mpr ⟨List.mem_of_getElem? (i := 156) (by decide +kernel), by decide +kernel⟩
theorem tw_157 : Cond.fieldLink RX9 15 RX9 (TX9 1).2.1 (TX9 1).2.2.1 ∈ wT := List.mem_filter.mpr ⟨List.mem_of_getElem? (i := 157) (by decide +kernel), by decide +kernel⟩
theorem tw_158 : Cond.fieldLink RX2 46 RX9 (TX9 1).2.1 (TX9 1).2.2.1 ∈ wT := List.mem_filter.mpr ⟨List.mem_of_getElem? (i := 158) (by decide +kernel), by decide +kernel⟩
theorem tw_159 : Cond.fieldLink RX11 114 RX9 (TX9 1).2.1 (TX9 1).2.2.1 ∈ wT := List.mem_filter.mpr ⟨List.mem_of_getElem? (i := 159) (by decide +kernel), by decide +kernel⟩
theorem tw_160 : Cond.fieldLink RX10 31 RX9 (TX9 1).2.1 (TX9 1).2.2.1 ∈ wT := List.mem_filter.mpr ⟨List.mem_of_getElem? (i := 160) (by decide +kernel), by decide +kernel⟩
theorem tw_161 : Cond.fieldLink RX5 45 RX9 (TX9 1).2.1 (TX9 1).2.2.1 ∈ wT := List.mem_filter.mpr ⟨List.mem_of_getElem? (i := 161) (by decide +kernel), by decide +kernel⟩
theorem tw_167 : Cond.arrayClass .byte ∈ wT := List.mem_filter.mpr ⟨List.mem_of_getElem? (i := 167) (by decide +kernel), by decide +kernel⟩
theorem tw_168 : Cond.classLink RX11 16 RX8 ∈ wT := List.mem_filter.mpr ⟨List.mem_of_getElem? (i := 168) (by decide +kernel), by decide +kernel⟩
theorem tw_169 : Cond.instantiable RX8 2 ∈ wT := List.mem_filter.mpr ⟨List.mem_of_getElem? (i := 169) (by decide +kernel), by decide +kernel⟩
theorem tw_170 : Cond.methodLinkNest RX11 18 yX8_init "BlindColours" ∈ wT := List.mem_filter.mpr ⟨List.mem_of_getElem? (i := 170) (by decide +kernel), by decide +kernel⟩
theorem tw_171 : Cond.instanceMethod yX8_init ∈ wT := List.mem_filter.mpr ⟨List.mem_of_getElem? (i := 171) (by decide +kernel), by decide +kernel⟩
theorem tw_172 : Cond.code yX8_init cX8_init 1 none ∈ wT := List.mem_filter.mpr ⟨List.mem_of_getElem? (i := 172) (by decide +kernel), by decide +kernel⟩
theorem tw_173 : Cond.methodLink RX8 1 objectInit ∈ wT := List.mem_filter.mpr ⟨List.mem_of_getElem? (i := 173) (by decide +kernel), by decide +kernel⟩
theorem tw_174 : Cond.fieldLink RX8 7 RX8 (TX8 0).2.1 (TX8 0).2.2.1 ∈ wT := List.mem_filter.mpr ⟨List.mem_of_getElem? (i := 174) (by decide +kernel), by decide +kernel⟩
theorem tw_175 : Cond.fieldLink RX8 13 RX8 (TX8 1).2.1 (TX8 1).2.2.1 ∈ wT := List.mem_filter.mpr ⟨List.mem_of_getElem? (i := 175) (by decide +kernel), by decide +kernel⟩
theorem tw_181 : Cond.arrayClass .int ∈ wT := List.mem_filter.mpr ⟨List.mem_of_getElem? (i := 181) (by decide +kernel), by decide +kernel⟩
theorem tw_182 : Cond.arrayClass .long ∈ wT := List.mem_filter.mpr ⟨List.mem_of_getElem? (i := 182) (by decide +kernel), by decide +kernel⟩
theorem tw_183 : Cond.classLink RX11 23 RX7 ∈ wT := List.mem_filter.mpr ⟨List.mem_of_getElem? (i := 183) (by decide +kernel), by decide +kernel⟩
theorem tw_184 : Cond.instantiable RX7 7 ∈ wT := List.mem_filter.mpr ⟨List.mem_of_getElem? (i := 184) (by decide +kernel), by decide +kernel⟩
theorem tw_185 : Cond.methodLinkNest RX11 25 yX7_init "BlindColours" ∈ wT := List.mem_filter.mpr ⟨List.mem_of_getElem? (i := 185) (by decide +kernel), by decide +kernel⟩
theorem tw_186 : Cond.instanceMethod yX7_init ∈ wT := List.mem_filter.mpr ⟨List.mem_of_getElem? (i := 186) (by decide +kernel), by decide +kernel⟩
theorem tw_187 : Cond.code yX7_init cX7_init 1 none ∈ wT := List.mem_filter.mpr ⟨List.mem_of_getElem? (i := 187) (by decide +kernel), by decide +kernel⟩
theorem tw_188 : Cond.methodLink RX7 3 objectInit ∈ wT := List.mem_filter.mpr ⟨List.mem_of_getElem? (i := 188) (by decide +kernel), by decide +kernel⟩
theorem tw_189 : Cond.fieldLink RX7 9 RX7 (TX7 0).2.1 (TX7 0).2.2.1 ∈ wT := List.mem_filter.mpr ⟨List.mem_of_getElem? (i := 189) (by decide +kernel), by decide +kernel⟩
theorem tw_190 : Cond.fieldLink RX5 19 RX7 (TX7 0).2.1 (TX7 0).2.2.1 ∈ wT := List.mem_filter.mpr ⟨List.mem_of_getElem? (i := 190) (by decide +kernel), by decide +kernel⟩
theorem tw_191 : Cond.fieldLink RX0 35 RX7 (TX7 0).2.1 (TX7 0).2.2.1 ∈ wT := List.mem_filter.mpr ⟨List.mem_of_getElem? (i := 191) (by decide +kernel), by decide +kernel⟩
theorem tw_192 : Cond.fieldLink RX2 61 RX7 (TX7 0).2.1 (TX7 0).2.2.1 ∈ wT := List.mem_filter.mpr ⟨List.mem_of_getElem? (i := 192) (by decide +kernel), by decide +kernel⟩
theorem tw_193 : Cond.fieldLink RX1 72 RX7 (TX7 0).2.1 (TX7 0).2.2.1 ∈ wT := List.mem_filter.mpr ⟨List.mem_of_getElem? (i := 193) (by decide +kernel), by decide +kernel⟩
theorem tw_194 : Cond.fieldLink RX11 147 RX7 (TX7 0).2.1 (TX7 0).2.2.1 ∈ wT := List.mem_filter.mpr ⟨List.mem_of_getElem? (i := 194) (by decide +kernel), by decide +kernel⟩
theorem tw_195 : Cond.fieldLink RX7 15 RX7 (TX7 1).2.1 (TX7 1).2.2.1 ∈ wT := List.mem_filter.mpr ⟨List.mem_of_getElem? (i := 195) (by decide +kernel), by decide +kernel⟩
theorem tw_196 : Cond.fieldLink RX0 23 RX7 (TX7 1).2.1 (TX7 1).2.2.1 ∈ wT := List.mem_filter.mpr ⟨List.mem_of_getElem? (i := 196) (by decide +kernel), by decide +kernel⟩
theorem tw_197 : Cond.fieldLink RX5 28 RX7 (TX7 1).2.1 (TX7 1).2.2.1 ∈ wT := List.mem_filter.mpr ⟨List.mem_of_getElem? (i := 197) (by decide +kernel), by decide +kernel⟩
theorem tw_198 : Cond.fieldLink RX11 150 RX7 (TX7 1).2.1 (TX7 1).2.2.1 ∈ wT := List.mem_filter.mpr ⟨List.mem_of_getElem? (i := 198) (by decide +kernel), by decide +kernel⟩
theorem tw_199 : Cond.fieldLink RX7 18 RX7 (TX7 2).2.1 (TX7 2).2.2.1 ∈ wT := List.mem_filter.mpr ⟨List.mem_of_getElem? (i := 199) (by decide +kernel), by decide +kernel⟩
theorem tw_200 : Cond.fieldLink RX11 164 RX7 (TX7 2).2.1 (TX7 2).2.2.1 ∈ wT := List.mem_filter.mpr ⟨List.mem_of_getElem? (i := 200) (by decide +kernel), by decide +kernel⟩
theorem tw_201 : Cond.fieldLink RX5 68 RX7 (TX7 2).2.1 (TX7 2).2.2.1 ∈ wT := List.mem_filter.mpr ⟨List.mem_of_getElem? (i := 201) (by decide +kernel), by decide +kernel⟩
theorem tw_202 : Cond.fieldLink RX7 21 RX7 (TX7 3).2.1 (TX7 3).2.2.1 ∈ wT := List.mem_filter.mpr ⟨List.mem_of_getElem? (i := 202) (by decide +kernel), by decide +kernel⟩
theorem tw_203 : Cond.fieldLink RX5 36 RX7 (TX7 3).2.1 (TX7 3).2.2.1 ∈ wT := List.mem_filter.mpr ⟨List.mem_of_getElem? (i := 203) (by decide +kernel), by decide +kernel⟩
theorem tw_204 : Cond.fieldLink RX0 48 RX7 (TX7 3).2.1 (TX7 3).2.2.1 ∈ wT := List.mem_filter.mpr ⟨List.mem_of_getElem? (i := 204) (by decide +kernel), by decide +kernel⟩
theorem tw_205 : Cond.fieldLink RX11 213 RX7 (TX7 3).2.1 (TX7 3).2.2.1 ∈ wT := List.mem_filter.mpr ⟨List.mem_of_getElem? (i := 205) (by decide +kernel), by decide +kernel⟩
theorem tw_206 : Cond.fieldLink RX1 129 RX7 (TX7 3).2.1 (TX7 3).2.2.1 ∈ wT := List.mem_filter.mpr ⟨List.mem_of_getElem? (i := 206) (by decide +kernel), by decide +kernel⟩
theorem tw_207 : Cond.fieldLink RX7 25 RX7 (TX7 4).2.1 (TX7 4).2.2.1 ∈ wT := List.mem_filter.mpr ⟨List.mem_of_getElem? (i := 207) (by decide +kernel), by decide +kernel⟩
theorem tw_208 : Cond.fieldLink RX5 39 RX7 (TX7 4).2.1 (TX7 4).2.2.1 ∈ wT := List.mem_filter.mpr ⟨List.mem_of_getElem? (i := 208) (by decide +kernel), by decide +kernel⟩
theorem tw_209 : Cond.fieldLink RX1 81 RX7 (TX7 4).2.1 (TX7 4).2.2.1 ∈ wT := List.mem_filter.mpr ⟨List.mem_of_getElem? (i := 209) (by decide +kernel), by decide +kernel⟩
theorem tw_210 : Cond.fieldLink RX0 90 RX7 (TX7 4).2.1 (TX7 4).2.2.1 ∈ wT := List.mem_filter.mpr ⟨List.mem_of_getElem? (i := 210) (by decide +kernel), by decide +kernel⟩
theorem tw_211 : Cond.fieldLink RX11 181 RX7 (TX7 4).2.1 (TX7 4).2.2.1 ∈ wT := List.mem_filter.mpr ⟨List.mem_of_getElem? (i := 211) (by decide +kernel), by decide +kernel⟩
theorem tw_212 : Cond.fieldLink RX7 28 RX7 (TX7 5).2.1 (TX7 5).2.2.1 ∈ wT := List.mem_filter.mpr ⟨List.mem_of_getElem? (i := 212) (by decide +kernel), by decide +kernel⟩
theorem tw_213 : Cond.fieldLink RX5 42 RX7 (TX7 5).2.1 (TX7 5).2.2.1 ∈ wT := List.mem_filter.mpr ⟨List.mem_of_getElem? (i := 213) (by decide +kernel), by decide +kernel⟩
theorem tw_214 : Cond.fieldLink RX0 84 RX7 (TX7 5).2.1 (TX7 5).2.2.1 ∈ wT := List.mem_filter.mpr ⟨List.mem_of_getElem? (i := 214) (by decide +kernel), by decide +kernel⟩
theorem tw_215 : Cond.fieldLink RX2 84 RX7 (TX7 5).2.1 (TX7 5).2.2.1 ∈ wT := List.mem_filter.mpr ⟨List.mem_of_getElem? (i := 215) (by decide +kernel), by decide +kernel⟩
theorem tw_216 : Cond.fieldLink RX11 157 RX7 (TX7 5).2.1 (TX7 5).2.2.1 ∈ wT := List.mem_filter.mpr ⟨List.mem_of_getElem? (i := 216) (by decide +kernel), by decide +kernel⟩
theorem tw_217 : Cond.fieldLink RX7 31 RX7 (TX7 6).2.1 (TX7 6).2.2.1 ∈ wT := List.mem_filter.mpr ⟨List.mem_of_getElem? (i := 217) (by decide +kernel), by decide +kernel⟩
theorem tw_233 : Cond.classLink RX11 33 RX4 ∈ wT := List.mem_filter.mpr ⟨List.mem_of_getElem? (i := 233) (by decide +kernel), by decide +kernel⟩
theorem tw_234 : Cond.instantiable RX4 3 ∈ wT := List.mem_filter.mpr ⟨List.mem_of_getElem? (i := 234) (by decide +kernel), by decide +kernel⟩
theorem tw_235 : Cond.methodLink RX11 35 yX4_init ∈ wT := List.mem_filter.mpr ⟨List.mem_of_getElem? (i := 235) (by decide +kernel), by decide +kernel⟩
theorem tw_236 : Cond.instanceMethod yX4_init ∈ wT := List.mem_filter.mpr ⟨List.mem_of_getElem? (i := 236) (by decide +kernel), by decide +kernel⟩
theorem tw_237 : Cond.code yX4_init cX4_init 2 none ∈ wT := List.mem_filter.mpr ⟨List.mem_of_getElem? (i := 237) (by decide +kernel), by decide +kernel⟩
theorem tw_238 : Cond.methodLink RX4 1 objectInit ∈ wT := List.mem_filter.mpr ⟨List.mem_of_getElem? (i := 238) (by decide +kernel), by decide +kernel⟩
theorem tw_239 : Cond.classLink RX4 9 "BlindColours$State" ∈ wT := List.mem_filter.mpr ⟨List.mem_of_getElem? (i := 239) (by decide +kernel), by decide +kernel⟩
theorem tw_240 : Cond.arrayOver (.object "BlindColours$State") ∈ wT := List.mem_filter.mpr ⟨List.mem_of_getElem? (i := 240) (by decide +kernel), by decide +kernel⟩
theorem tw_241 : Cond.methodLinkNest RX4 22 yX7_init "BlindColours" ∈ wT := List.mem_filter.mpr ⟨List.mem_of_getElem? (i := 241) (by decide +kernel), by decide +kernel⟩
theorem tw_242 : Cond.fieldLink RX4 11 RX4 (TX4 0).2.1 (TX4 0).2.2.1 ∈ wT := List.mem_filter.mpr ⟨List.mem_of_getElem? (i := 242) (by decide +kernel), by decide +kernel⟩
theorem tw_243 : Cond.fieldLink RX4 15 RX4 (TX4 1).2.1 (TX4 1).2.2.1 ∈ wT := List.mem_filter.mpr ⟨List.mem_of_getElem? (i := 243) (by decide +kernel), by decide +kernel⟩
theorem tw_244 : Cond.fieldLink RX4 19 RX4 (TX4 2).2.1 (TX4 2).2.2.1 ∈ wT := List.mem_filter.mpr ⟨List.mem_of_getElem? (i := 244) (by decide +kernel), by decide +kernel⟩
theorem tw_245 : Cond.fieldLink RX11 139 RX4 (TX4 2).2.1 (TX4 2).2.2.1 ∈ wT := List.mem_filter.mpr ⟨List.mem_of_getElem? (i := 245) (by decide +kernel), by decide +kernel⟩
theorem tw_253 : Cond.classLink RX11 40 RX5 ∈ wT := List.mem_filter.mpr ⟨List.mem_of_getElem? (i := 253) (by decide +kernel), by decide +kernel⟩
theorem tw_254 : Cond.instantiable RX5 2 ∈ wT := List.mem_filter.mpr ⟨List.mem_of_getElem? (i := 254) (by decide +kernel), by decide +kernel⟩
theorem tw_255 : Cond.methodLinkNest RX11 42 yX5_init "BlindColours" ∈ wT := List.mem_filter.mpr ⟨List.mem_of_getElem? (i := 255) (by decide +kernel), by decide +kernel⟩
theorem tw_256 : Cond.instanceMethod yX5_init ∈ wT := List.mem_filter.mpr ⟨List.mem_of_getElem? (i := 256) (by decide +kernel), by decide +kernel⟩
theorem tw_257 : Cond.code yX5_init cX5_init 1 none ∈ wT := List.mem_filter.mpr ⟨List.mem_of_getElem? (i := 257) (by decide +kernel), by decide +kernel⟩
theorem tw_258 : Cond.methodLink RX5 3 objectInit ∈ wT := List.mem_filter.mpr ⟨List.mem_of_getElem? (i := 258) (by decide +kernel), by decide +kernel⟩
theorem tw_259 : Cond.fieldLink RX5 9 RX5 (TX5 0).2.1 (TX5 0).2.2.1 ∈ wT := List.mem_filter.mpr ⟨List.mem_of_getElem? (i := 259) (by decide +kernel), by decide +kernel⟩
theorem tw_260 : Cond.fieldLink RX5 15 RX5 (TX5 1).2.1 (TX5 1).2.2.1 ∈ wT := List.mem_filter.mpr ⟨List.mem_of_getElem? (i := 260) (by decide +kernel), by decide +kernel⟩
theorem tw_261 : Cond.fieldLink RX11 297 RX5 (TX5 1).2.1 (TX5 1).2.2.1 ∈ wT := List.mem_filter.mpr ⟨List.mem_of_getElem? (i := 261) (by decide +kernel), by decide +kernel⟩
theorem tw_267 : Cond.classLink RX11 54 RX3 ∈ wT := List.mem_filter.mpr ⟨List.mem_of_getElem? (i := 267) (by decide +kernel), by decide +kernel⟩
theorem tw_268 : Cond.instantiable RX3 12 ∈ wT := List.mem_filter.mpr ⟨List.mem_of_getElem? (i := 268) (by decide +kernel), by decide +kernel⟩
theorem tw_269 : Cond.methodLink RX11 56 yX3_init ∈ wT := List.mem_filter.mpr ⟨List.mem_of_getElem? (i := 269) (by decide +kernel), by decide +kernel⟩
theorem tw_270 : Cond.instanceMethod yX3_init ∈ wT := List.mem_filter.mpr ⟨List.mem_of_getElem? (i := 270) (by decide +kernel), by decide +kernel⟩
theorem tw_271 : Cond.code yX3_init cX3_init 1 none ∈ wT := List.mem_filter.mpr ⟨List.mem_of_getElem? (i := 271) (by decide +kernel), by decide +kernel⟩
theorem tw_272 : Cond.methodLink RX3 3 objectInit ∈ wT := List.mem_filter.mpr ⟨List.mem_of_getElem? (i := 272) (by decide +kernel), by decide +kernel⟩
theorem tw_273 : Cond.methodLink RX3 49 yX3_empty ∈ wT := List.mem_filter.mpr ⟨List.mem_of_getElem? (i := 273) (by decide +kernel), by decide +kernel⟩
theorem tw_274 : Cond.instanceMethod yX3_empty ∈ wT := List.mem_filter.mpr ⟨List.mem_of_getElem? (i := 274) (by decide +kernel), by decide +kernel⟩
theorem tw_275 : Cond.selects (yX3_empty).cls yX3_empty yX3_empty ∈ wT := List.mem_filter.mpr ⟨List.mem_of_getElem? (i := 275) (by decide +kernel), by decide +kernel⟩
theorem tw_276 : Cond.code yX3_empty cX3_empty 1 none ∈ wT := List.mem_filter.mpr ⟨List.mem_of_getElem? (i := 276) (by decide +kernel), by decide +kernel⟩
theorem tw_277 : Cond.methodLink RX3 52 yJ7_fill_53178 ∈ wT := List.mem_filter.mpr ⟨List.mem_of_getElem? (i := 277) (by decide +kernel), by decide +kernel⟩
theorem tw_278 : Cond.static yJ7_fill_53178 ∈ wT := List.mem_filter.mpr ⟨List.mem_of_getElem? (i := 278) (by decide +kernel), by decide +kernel⟩
theorem tw_279 : Cond.code yJ7_fill_53178 cJ7_fill_53178 4 none ∈ wT := List.mem_filter.mpr ⟨List.mem_of_getElem? (i := 279) (by decide +kernel), by decide +kernel⟩
theorem tw_280 : Cond.fieldLink RX3 9 RX3 (TX3 0).2.1 (TX3 0).2.2.1 ∈ wT := List.mem_filter.mpr ⟨List.mem_of_getElem? (i := 280) (by decide +kernel), by decide +kernel⟩
theorem tw_281 : Cond.fieldLink RX0 29 RX3 (TX3 0).2.1 (TX3 0).2.2.1 ∈ wT := List.mem_filter.mpr ⟨List.mem_of_getElem? (i := 281) (by decide +kernel), by decide +kernel⟩
theorem tw_282 : Cond.fieldLink RX5 31 RX3 (TX3 0).2.1 (TX3 0).2.2.1 ∈ wT := List.mem_filter.mpr ⟨List.mem_of_getElem? (i := 282) (by decide +kernel), by decide +kernel⟩
theorem tw_283 : Cond.fieldLink RX1 53 RX3 (TX3 0).2.1 (TX3 0).2.2.1 ∈ wT := List.mem_filter.mpr ⟨List.mem_of_getElem? (i := 283) (by decide +kernel), by decide +kernel⟩
theorem tw_284 : Cond.fieldLink RX2 93 RX3 (TX3 0).2.1 (TX3 0).2.2.1 ∈ wT := List.mem_filter.mpr ⟨List.mem_of_getElem? (i := 284) (by decide +kernel), by decide +kernel⟩
theorem tw_285 : Cond.fieldLink RX11 145 RX3 (TX3 0).2.1 (TX3 0).2.2.1 ∈ wT := List.mem_filter.mpr ⟨List.mem_of_getElem? (i := 285) (by decide +kernel), by decide +kernel⟩
theorem tw_286 : Cond.fieldLink RX6 132 RX3 (TX3 0).2.1 (TX3 0).2.2.1 ∈ wT := List.mem_filter.mpr ⟨List.mem_of_getElem? (i := 286) (by decide +kernel), by decide +kernel⟩
theorem tw_287 : Cond.fieldLink RX3 15 RX3 (TX3 1).2.1 (TX3 1).2.2.1 ∈ wT := List.mem_filter.mpr ⟨List.mem_of_getElem? (i := 287) (by decide +kernel), by decide +kernel⟩
theorem tw_288 : Cond.fieldLink RX6 146 RX3 (TX3 1).2.1 (TX3 1).2.2.1 ∈ wT := List.mem_filter.mpr ⟨List.mem_of_getElem? (i := 288) (by decide +kernel), by decide +kernel⟩
theorem tw_289 : Cond.fieldLink RX3 18 RX3 (TX3 2).2.1 (TX3 2).2.2.1 ∈ wT := List.mem_filter.mpr ⟨List.mem_of_getElem? (i := 289) (by decide +kernel), by decide +kernel⟩
theorem tw_290 : Cond.fieldLink RX6 149 RX3 (TX3 2).2.1 (TX3 2).2.2.1 ∈ wT := List.mem_filter.mpr ⟨List.mem_of_getElem? (i := 290) (by decide +kernel), by decide +kernel⟩
theorem tw_291 : Cond.fieldLink RX3 21 RX3 (TX3 3).2.1 (TX3 3).2.2.1 ∈ wT := List.mem_filter.mpr ⟨List.mem_of_getElem? (i := 291) (by decide +kernel), by decide +kernel⟩
theorem tw_292 : Cond.fieldLink RX11 194 RX3 (TX3 3).2.1 (TX3 3).2.2.1 ∈ wT := List.mem_filter.mpr ⟨List.mem_of_getElem? (i := 292) (by decide +kernel), by decide +kernel⟩
theorem tw_293 : Cond.fieldLink RX6 168 RX3 (TX3 3).2.1 (TX3 3).2.2.1 ∈ wT := List.mem_filter.mpr ⟨List.mem_of_getElem? (i := 293) (by decide +kernel), by decide +kernel⟩
theorem tw_294 : Cond.fieldLink RX3 24 RX3 (TX3 4).2.1 (TX3 4).2.2.1 ∈ wT := List.mem_filter.mpr ⟨List.mem_of_getElem? (i := 294) (by decide +kernel), by decide +kernel⟩
theorem tw_295 : Cond.fieldLink RX7 39 RX3 (TX3 4).2.1 (TX3 4).2.2.1 ∈ wT := List.mem_filter.mpr ⟨List.mem_of_getElem? (i := 295) (by decide +kernel), by decide +kernel⟩
theorem tw_296 : Cond.fieldLink RX6 171 RX3 (TX3 4).2.1 (TX3 4).2.2.1 ∈ wT := List.mem_filter.mpr ⟨List.mem_of_getElem? (i := 296) (by decide +kernel), by decide +kernel⟩
theorem tw_297 : Cond.fieldLink RX3 27 RX3 (TX3 5).2.1 (TX3 5).2.2.1 ∈ wT := List.mem_filter.mpr ⟨List.mem_of_getElem? (i := 297) (by decide +kernel), by decide +kernel⟩
theorem tw_298 : Cond.fieldLink RX8 26 RX3 (TX3 5).2.1 (TX3 5).2.2.1 ∈ wT := List.mem_filter.mpr ⟨List.mem_of_getElem? (i := 298) (by decide +kernel), by decide +kernel⟩
theorem tw_299 : Cond.fieldLink RX6 192 RX3 (TX3 5).2.1 (TX3 5).2.2.1 ∈ wT := List.mem_filter.mpr ⟨List.mem_of_getElem? (i := 299) (by decide +kernel), by decide +kernel⟩
theorem tw_300 : Cond.fieldLink RX3 30 RX3 (TX3 6).2.1 (TX3 6).2.2.1 ∈ wT := List.mem_filter.mpr ⟨List.mem_of_getElem? (i := 300) (by decide +kernel), by decide +kernel⟩
theorem tw_301 : Cond.fieldLink RX8 29 RX3 (TX3 6).2.1 (TX3 6).2.2.1 ∈ wT := List.mem_filter.mpr ⟨List.mem_of_getElem? (i := 301) (by decide +kernel), by decide +kernel⟩
theorem tw_302 : Cond.fieldLink RX6 177 RX3 (TX3 6).2.1 (TX3 6).2.2.1 ∈ wT := List.mem_filter.mpr ⟨List.mem_of_getElem? (i := 302) (by decide +kernel), by decide +kernel⟩
theorem tw_303 : Cond.fieldLink RX3 33 RX3 (TX3 7).2.1 (TX3 7).2.2.1 ∈ wT := List.mem_filter.mpr ⟨List.mem_of_getElem? (i := 303) (by decide +kernel), by decide +kernel⟩
theorem tw_304 : Cond.fieldLink RX8 23 RX3 (TX3 7).2.1 (TX3 7).2.2.1 ∈ wT := List.mem_filter.mpr ⟨List.mem_of_getElem? (i := 304) (by decide +kernel), by decide +kernel⟩
theorem tw_305 : Cond.fieldLink RX6 189 RX3 (TX3 7).2.1 (TX3 7).2.2.1 ∈ wT := List.mem_filter.mpr ⟨List.mem_of_getElem? (i := 305) (by decide +kernel), by decide +kernel⟩
theorem tw_306 : Cond.fieldLink RX3 36 RX3 (TX3 8).2.1 (TX3 8).2.2.1 ∈ wT := List.mem_filter.mpr ⟨List.mem_of_getElem? (i := 306) (by decide +kernel), by decide +kernel⟩
theorem tw_307 : Cond.fieldLink RX6 180 RX3 (TX3 8).2.1 (TX3 8).2.2.1 ∈ wT := List.mem_filter.mpr ⟨List.mem_of_getElem? (i := 307) (by decide +kernel), by decide +kernel⟩
theorem tw_308 : Cond.fieldLink RX3 40 RX3 (TX3 9).2.1 (TX3 9).2.2.1 ∈ wT := List.mem_filter.mpr ⟨List.mem_of_getElem? (i := 308) (by decide +kernel), by decide +kernel⟩
theorem tw_309 : Cond.fieldLink RX6 165 RX3 (TX3 9).2.1 (TX3 9).2.2.1 ∈ wT := List.mem_filter.mpr ⟨List.mem_of_getElem? (i := 309) (by decide +kernel), by decide +kernel⟩
theorem tw_310 : Cond.fieldLink RX3 43 RX3 (TX3 10).2.1 (TX3 10).2.2.1 ∈ wT := List.mem_filter.mpr ⟨List.mem_of_getElem? (i := 310) (by decide +kernel), by decide +kernel⟩
theorem tw_311 : Cond.fieldLink RX7 34 RX3 (TX3 10).2.1 (TX3 10).2.2.1 ∈ wT := List.mem_filter.mpr ⟨List.mem_of_getElem? (i := 311) (by decide +kernel), by decide +kernel⟩
theorem tw_312 : Cond.fieldLink RX6 119 RX3 (TX3 10).2.1 (TX3 10).2.2.1 ∈ wT := List.mem_filter.mpr ⟨List.mem_of_getElem? (i := 312) (by decide +kernel), by decide +kernel⟩
theorem tw_313 : Cond.fieldLink RX3 46 RX3 (TX3 11).2.1 (TX3 11).2.2.1 ∈ wT := List.mem_filter.mpr ⟨List.mem_of_getElem? (i := 313) (by decide +kernel), by decide +kernel⟩
theorem tw_314 : Cond.fieldLink RX6 122 RX3 (TX3 11).2.1 (TX3 11).2.2.1 ∈ wT := List.mem_filter.mpr ⟨List.mem_of_getElem? (i := 314) (by decide +kernel), by decide +kernel⟩
theorem tw_315 : Cond.fieldLink RX1 132 RX3 (TX3 11).2.1 (TX3 11).2.2.1 ∈ wT := List.mem_filter.mpr ⟨List.mem_of_getElem? (i := 315) (by decide +kernel), by decide +kernel⟩
theorem tw_316 : Cond.fieldLink RX11 285 RX3 (TX3 11).2.1 (TX3 11).2.2.1 ∈ wT := List.mem_filter.mpr ⟨List.mem_of_getElem? (i := 316) (by decide +kernel), by decide +kernel⟩
theorem tw_342 : Cond.classLink RX11 74 RX6 ∈ wT := List.mem_filter.mpr ⟨List.mem_of_getElem? (i := 342) (by decide +kernel), by decide +kernel⟩
theorem tw_343 : Cond.instantiable RX6 8 ∈ wT := List.mem_filter.mpr ⟨List.mem_of_getElem? (i := 343) (by decide +kernel), by decide +kernel⟩
theorem tw_344 : Cond.methodLink RX11 76 yX6_init ∈ wT := List.mem_filter.mpr ⟨List.mem_of_getElem? (i := 344) (by decide +kernel), by decide +kernel⟩
theorem tw_345 : Cond.instanceMethod yX6_init ∈ wT := List.mem_filter.mpr ⟨List.mem_of_getElem? (i := 345) (by decide +kernel), by decide +kernel⟩
theorem tw_346 : Cond.code yX6_init cX6_init 3 none ∈ wT := List.mem_filter.mpr ⟨List.mem_of_getElem? (i := 346) (by decide +kernel), by decide +kernel⟩
theorem tw_347 : Cond.methodLink RX6 3 objectInit ∈ wT := List.mem_filter.mpr ⟨List.mem_of_getElem? (i := 347) (by decide +kernel), by decide +kernel⟩
theorem tw_348 : Cond.classLink RX6 9 RX10 ∈ wT := List.mem_filter.mpr ⟨List.mem_of_getElem? (i := 348) (by decide +kernel), by decide +kernel⟩
theorem tw_349 : Cond.instantiable RX10 6 ∈ wT := List.mem_filter.mpr ⟨List.mem_of_getElem? (i := 349) (by decide +kernel), by decide +kernel⟩
theorem tw_350 : Cond.methodLinkNest RX6 11 yX10_init "BlindColours" ∈ wT := List.mem_filter.mpr ⟨List.mem_of_getElem? (i := 350) (by decide +kernel), by decide +kernel⟩
theorem tw_351 : Cond.instanceMethod yX10_init ∈ wT := List.mem_filter.mpr ⟨List.mem_of_getElem? (i := 351) (by decide +kernel), by decide +kernel⟩
theorem tw_352 : Cond.code yX10_init cX10_init 1 none ∈ wT := List.mem_filter.mpr ⟨List.mem_of_getElem? (i := 352) (by decide +kernel), by decide +kernel⟩
theorem tw_353 : Cond.methodLink RX10 3 objectInit ∈ wT := List.mem_filter.mpr ⟨List.mem_of_getElem? (i := 353) (by decide +kernel), by decide +kernel⟩
theorem tw_354 : Cond.fieldLink RX10 9 RX10 (TX10 0).2.1 (TX10 0).2.2.1 ∈ wT := List.mem_filter.mpr ⟨List.mem_of_getElem? (i := 354) (by decide +kernel), by decide +kernel⟩
theorem tw_355 : Cond.fieldLink RX10 15 RX10 (TX10 1).2.1 (TX10 1).2.2.1 ∈ wT := List.mem_filter.mpr ⟨List.mem_of_getElem? (i := 355) (by decide +kernel), by decide +kernel⟩
theorem tw_356 : Cond.fieldLink RX10 18 RX10 (TX10 2).2.1 (TX10 2).2.2.1 ∈ wT := List.mem_filter.mpr ⟨List.mem_of_getElem? (i := 356) (by decide +kernel), by decide +kernel⟩
theorem tw_357 : Cond.fieldLink RX10 21 RX10 (TX10 3).2.1 (TX10 3).2.2.1 ∈ wT := List.mem_filter.mpr ⟨List.mem_of_getElem? (i := 357) (by decide +kernel), by decide +kernel⟩
theorem tw_358 : Cond.fieldLink RX10 25 RX10 (TX10 4).2.1 (TX10 4).2.2.1 ∈ wT := List.mem_filter.mpr ⟨List.mem_of_getElem? (i := 358) (by decide +kernel), by decide +kernel⟩
theorem tw_359 : Cond.fieldLink RX10 28 RX10 (TX10 5).2.1 (TX10 5).2.2.1 ∈ wT := List.mem_filter.mpr ⟨List.mem_of_getElem? (i := 359) (by decide +kernel), by decide +kernel⟩
theorem tw_373 : Cond.fieldLink RX6 34 RX6 (TX6 0).2.1 (TX6 0).2.2.1 ∈ wT := List.mem_filter.mpr ⟨List.mem_of_getElem? (i := 373) (by decide +kernel), by decide +kernel⟩
theorem tw_374 : Cond.fieldLink RX6 12 RX6 (TX6 1).2.1 (TX6 1).2.2.1 ∈ wT := List.mem_filter.mpr ⟨List.mem_of_getElem? (i := 374) (by decide +kernel), by decide +kernel⟩
theorem tw_375 : Cond.fieldLink RX6 38 RX6 (TX6 2).2.1 (TX6 2).2.2.1 ∈ wT := List.mem_filter.mpr ⟨List.mem_of_getElem? (i := 375) (by decide +kernel), by decide +kernel⟩
theorem tw_376 : Cond.fieldLink RX6 18 RX6 (TX6 3).2.1 (TX6 3).2.2.1 ∈ wT := List.mem_filter.mpr ⟨List.mem_of_getElem? (i := 376) (by decide +kernel), by decide +kernel⟩
theorem tw_377 : Cond.fieldLink RX6 22 RX6 (TX6 4).2.1 (TX6 4).2.2.1 ∈ wT := List.mem_filter.mpr ⟨List.mem_of_getElem? (i := 377) (by decide +kernel), by decide +kernel⟩
theorem tw_378 : Cond.fieldLink RX6 25 RX6 (TX6 5).2.1 (TX6 5).2.2.1 ∈ wT := List.mem_filter.mpr ⟨List.mem_of_getElem? (i := 378) (by decide +kernel), by decide +kernel⟩
theorem tw_379 : Cond.fieldLink RX6 28 RX6 (TX6 6).2.1 (TX6 6).2.2.1 ∈ wT := List.mem_filter.mpr ⟨List.mem_of_getElem? (i := 379) (by decide +kernel), by decide +kernel⟩
theorem tw_380 : Cond.fieldLink RX11 133 RX6 (TX6 6).2.1 (TX6 6).2.2.1 ∈ wT := List.mem_filter.mpr ⟨List.mem_of_getElem? (i := 380) (by decide +kernel), by decide +kernel⟩
theorem tw_381 : Cond.fieldLink RX6 31 RX6 (TX6 7).2.1 (TX6 7).2.2.1 ∈ wT := List.mem_filter.mpr ⟨List.mem_of_getElem? (i := 381) (by decide +kernel), by decide +kernel⟩
theorem tw_382 : Cond.fieldLink RX11 136 RX6 (TX6 7).2.1 (TX6 7).2.2.1 ∈ wT := List.mem_filter.mpr ⟨List.mem_of_getElem? (i := 382) (by decide +kernel), by decide +kernel⟩
theorem tw_400 : Cond.classLink RX11 83 RX1 ∈ wT := List.mem_filter.mpr ⟨List.mem_of_getElem? (i := 400) (by decide +kernel), by decide +kernel⟩
theorem tw_401 : Cond.instantiable RX1 10 ∈ wT := List.mem_filter.mpr ⟨List.mem_of_getElem? (i := 401) (by decide +kernel), by decide +kernel⟩
theorem tw_402 : Cond.methodLink RX11 85 yX1_init ∈ wT := List.mem_filter.mpr ⟨List.mem_of_getElem? (i := 402) (by decide +kernel), by decide +kernel⟩
theorem tw_403 : Cond.instanceMethod yX1_init ∈ wT := List.mem_filter.mpr ⟨List.mem_of_getElem? (i := 403) (by decide +kernel), by decide +kernel⟩
theorem tw_404 : Cond.code yX1_init cX1_init 4 none ∈ wT := List.mem_filter.mpr ⟨List.mem_of_getElem? (i := 404) (by decide +kernel), by decide +kernel⟩
theorem tw_405 : Cond.methodLink RX1 3 objectInit ∈ wT := List.mem_filter.mpr ⟨List.mem_of_getElem? (i := 405) (by decide +kernel), by decide +kernel⟩
theorem tw_406 : Cond.fieldLink RX1 34 RX1 (TX1 0).2.1 (TX1 0).2.2.1 ∈ wT := List.mem_filter.mpr ⟨List.mem_of_getElem? (i := 406) (by decide +kernel), by decide +kernel⟩
theorem tw_407 : Cond.fieldLink RX1 9 RX1 (TX1 1).2.1 (TX1 1).2.2.1 ∈ wT := List.mem_filter.mpr ⟨List.mem_of_getElem? (i := 407) (by decide +kernel), by decide +kernel⟩
theorem tw_408 : Cond.fieldLink RX1 15 RX1 (TX1 2).2.1 (TX1 2).2.2.1 ∈ wT := List.mem_filter.mpr ⟨List.mem_of_getElem? (i := 408) (by decide +kernel), by decide +kernel⟩
theorem tw_409 : Cond.fieldLink RX1 18 RX1 (TX1 3).2.1 (TX1 3).2.2.1 ∈ wT := List.mem_filter.mpr ⟨List.mem_of_getElem? (i := 409) (by decide +kernel), by decide +kernel⟩
theorem tw_410 : Cond.fieldLink RX1 38 RX1 (TX1 4).2.1 (TX1 4).2.2.1 ∈ wT := List.mem_filter.mpr ⟨List.mem_of_getElem? (i := 410) (by decide +kernel), by decide +kernel⟩
theorem tw_411 : Cond.fieldLink RX1 42 RX1 (TX1 5).2.1 (TX1 5).2.2.1 ∈ wT := List.mem_filter.mpr ⟨List.mem_of_getElem? (i := 411) (by decide +kernel), by decide +kernel⟩
theorem tw_412 : Cond.fieldLink RX1 21 RX1 (TX1 6).2.1 (TX1 6).2.2.1 ∈ wT := List.mem_filter.mpr ⟨List.mem_of_getElem? (i := 412) (by decide +kernel), by decide +kernel⟩
theorem tw_413 : Cond.fieldLink RX1 25 RX1 (TX1 7).2.1 (TX1 7).2.2.1 ∈ wT := List.mem_filter.mpr ⟨List.mem_of_getElem? (i := 413) (by decide +kernel), by decide +kernel⟩
theorem tw_414 : Cond.fieldLink RX1 28 RX1 (TX1 8).2.1 (TX1 8).2.2.1 ∈ wT := List.mem_filter.mpr ⟨List.mem_of_getElem? (i := 414) (by decide +kernel), by decide +kernel⟩
theorem tw_415 : Cond.fieldLink RX1 31 RX1 (TX1 9).2.1 (TX1 9).2.2.1 ∈ wT := List.mem_filter.mpr ⟨List.mem_of_getElem? (i := 415) (by decide +kernel), by decide +kernel⟩
theorem tw_437 : Cond.classLink RX11 92 RX0 ∈ wT := List.mem_filter.mpr ⟨List.mem_of_getElem? (i := 437) (by decide +kernel), by decide +kernel⟩
theorem tw_438 : Cond.instantiable RX0 2 ∈ wT := List.mem_filter.mpr ⟨List.mem_of_getElem? (i := 438) (by decide +kernel), by decide +kernel⟩
theorem tw_439 : Cond.methodLink RX11 94 yX0_init ∈ wT := List.mem_filter.mpr ⟨List.mem_of_getElem? (i := 439) (by decide +kernel), by decide +kernel⟩
theorem tw_440 : Cond.instanceMethod yX0_init ∈ wT := List.mem_filter.mpr ⟨List.mem_of_getElem? (i := 440) (by decide +kernel), by decide +kernel⟩
theorem tw_441 : Cond.code yX0_init cX0_init 3 none ∈ wT := List.mem_filter.mpr ⟨List.mem_of_getElem? (i := 441) (by decide +kernel), by decide +kernel⟩
theorem tw_442 : Cond.methodLink RX0 3 objectInit ∈ wT := List.mem_filter.mpr ⟨List.mem_of_getElem? (i := 442) (by decide +kernel), by decide +kernel⟩
theorem tw_443 : Cond.fieldLink RX0 9 RX0 (TX0 0).2.1 (TX0 0).2.2.1 ∈ wT := List.mem_filter.mpr ⟨List.mem_of_getElem? (i := 443) (by decide +kernel), by decide +kernel⟩
theorem tw_444 : Cond.fieldLink RX0 15 RX0 (TX0 1).2.1 (TX0 1).2.2.1 ∈ wT := List.mem_filter.mpr ⟨List.mem_of_getElem? (i := 444) (by decide +kernel), by decide +kernel⟩
theorem tw_450 : Cond.classLink RX11 101 RX2 ∈ wT := List.mem_filter.mpr ⟨List.mem_of_getElem? (i := 450) (by decide +kernel), by decide +kernel⟩
theorem tw_451 : Cond.instantiable RX2 9 ∈ wT := List.mem_filter.mpr ⟨List.mem_of_getElem? (i := 451) (by decide +kernel), by decide +kernel⟩
theorem tw_452 : Cond.methodLink RX11 103 yX2_init ∈ wT := List.mem_filter.mpr ⟨List.mem_of_getElem? (i := 452) (by decide +kernel), by decide +kernel⟩
theorem tw_453 : Cond.instanceMethod yX2_init ∈ wT := List.mem_filter.mpr ⟨List.mem_of_getElem? (i := 453) (by decide +kernel), by decide +kernel⟩
theorem tw_454 : Cond.code yX2_init cX2_init 3 none ∈ wT := List.mem_filter.mpr ⟨List.mem_of_getElem? (i := 454) (by decide +kernel), by decide +kernel⟩
theorem tw_455 : Cond.methodLink RX2 3 objectInit ∈ wT := List.mem_filter.mpr ⟨List.mem_of_getElem? (i := 455) (by decide +kernel), by decide +kernel⟩
theorem tw_456 : Cond.classLink RX2 9 RX7 ∈ wT := List.mem_filter.mpr ⟨List.mem_of_getElem? (i := 456) (by decide +kernel), by decide +kernel⟩
theorem tw_457 : Cond.methodLinkNest RX2 11 yX7_init "BlindColours" ∈ wT := List.mem_filter.mpr ⟨List.mem_of_getElem? (i := 457) (by decide +kernel), by decide +kernel⟩
theorem tw_458 : Cond.fieldLink RX2 38 RX2 (TX2 0).2.1 (TX2 0).2.2.1 ∈ wT := List.mem_filter.mpr ⟨List.mem_of_getElem? (i := 458) (by decide +kernel), by decide +kernel⟩
theorem tw_459 : Cond.fieldLink RX2 42 RX2 (TX2 1).2.1 (TX2 1).2.2.1 ∈ wT := List.mem_filter.mpr ⟨List.mem_of_getElem? (i := 459) (by decide +kernel), by decide +kernel⟩
theorem tw_460 : Cond.fieldLink RX2 12 RX2 (TX2 2).2.1 (TX2 2).2.2.1 ∈ wT := List.mem_filter.mpr ⟨List.mem_of_getElem? (i := 460) (by decide +kernel), by decide +kernel⟩
theorem tw_461 : Cond.fieldLink RX2 18 RX2 (TX2 3).2.1 (TX2 3).2.2.1 ∈ wT := List.mem_filter.mpr ⟨List.mem_of_getElem? (i := 461) (by decide +kernel), by decide +kernel⟩
theorem tw_462 : Cond.fieldLink RX2 22 RX2 (TX2 4).2.1 (TX2 4).2.2.1 ∈ wT := List.mem_filter.mpr ⟨List.mem_of_getElem? (i := 462) (by decide +kernel), by decide +kernel⟩
theorem tw_463 : Cond.fieldLink RX2 25 RX2 (TX2 5).2.1 (TX2 5).2.2.1 ∈ wT := List.mem_filter.mpr ⟨List.mem_of_getElem? (i := 463) (by decide +kernel), by decide +kernel⟩
theorem tw_464 : Cond.fieldLink RX11 142 RX2 (TX2 5).2.1 (TX2 5).2.2.1 ∈ wT := List.mem_filter.mpr ⟨List.mem_of_getElem? (i := 464) (by decide +kernel), by decide +kernel⟩
theorem tw_465 : Cond.fieldLink RX2 29 RX2 (TX2 6).2.1 (TX2 6).2.2.1 ∈ wT := List.mem_filter.mpr ⟨List.mem_of_getElem? (i := 465) (by decide +kernel), by decide +kernel⟩
theorem tw_466 : Cond.fieldLink RX11 265 RX2 (TX2 6).2.1 (TX2 6).2.2.1 ∈ wT := List.mem_filter.mpr ⟨List.mem_of_getElem? (i := 466) (by decide +kernel), by decide +kernel⟩
theorem tw_467 : Cond.fieldLink RX2 32 RX2 (TX2 7).2.1 (TX2 7).2.2.1 ∈ wT := List.mem_filter.mpr ⟨List.mem_of_getElem? (i := 467) (by decide +kernel), by decide +kernel⟩
theorem tw_468 : Cond.fieldLink RX11 268 RX2 (TX2 7).2.1 (TX2 7).2.2.1 ∈ wT := List.mem_filter.mpr ⟨List.mem_of_getElem? (i := 468) (by decide +kernel), by decide +kernel⟩
theorem tw_469 : Cond.fieldLink RX2 35 RX2 (TX2 8).2.1 (TX2 8).2.2.1 ∈ wT := List.mem_filter.mpr ⟨List.mem_of_getElem? (i := 469) (by decide +kernel), by decide +kernel⟩
theorem tw_470 : Cond.fieldLink RX11 271 RX2 (TX2 8).2.1 (TX2 8).2.2.1 ∈ wT := List.mem_filter.mpr ⟨List.mem_of_getElem? (i := 470) (by decide +kernel), by decide +kernel⟩
theorem tw_490 : Cond.methodLink RX11 110 yX7_begin ∈ wT := List.mem_filter.mpr ⟨List.mem_of_getElem? (i := 490) (by decide +kernel), by decide +kernel⟩
theorem tw_491 : Cond.instanceMethod yX7_begin ∈ wT := List.mem_filter.mpr ⟨List.mem_of_getElem? (i := 491) (by decide +kernel), by decide +kernel⟩
theorem tw_492 : Cond.selects (yX7_begin).cls yX7_begin yX7_begin ∈ wT := List.mem_filter.mpr ⟨List.mem_of_getElem? (i := 492) (by decide +kernel), by decide +kernel⟩
theorem tw_493 : Cond.code yX7_begin cX7_begin 3 none ∈ wT := List.mem_filter.mpr ⟨List.mem_of_getElem? (i := 493) (by decide +kernel), by decide +kernel⟩
theorem tw_494 : Cond.fieldLink RX11 10 RX11 (TX11 0).2.1 (TX11 0).2.2.1 ∈ wT := List.mem_filter.mpr ⟨List.mem_of_getElem? (i := 494) (by decide +kernel), by decide +kernel⟩
theorem tw_495 : Cond.fieldLink RX11 19 RX11 (TX11 1).2.1 (TX11 1).2.2.1 ∈ wT := List.mem_filter.mpr ⟨List.mem_of_getElem? (i := 495) (by decide +kernel), by decide +kernel⟩
theorem tw_496 : Cond.fieldLink RX11 26 RX11 (TX11 2).2.1 (TX11 2).2.2.1 ∈ wT := List.mem_filter.mpr ⟨List.mem_of_getElem? (i := 496) (by decide +kernel), by decide +kernel⟩
theorem tw_497 : Cond.fieldLink RX11 30 RX11 (TX11 3).2.1 (TX11 3).2.2.1 ∈ wT := List.mem_filter.mpr ⟨List.mem_of_getElem? (i := 497) (by decide +kernel), by decide +kernel⟩
theorem tw_498 : Cond.fieldLink RX11 36 RX11 (TX11 4).2.1 (TX11 4).2.2.1 ∈ wT := List.mem_filter.mpr ⟨List.mem_of_getElem? (i := 498) (by decide +kernel), by decide +kernel⟩
theorem tw_499 : Cond.fieldLink RX11 43 RX11 (TX11 5).2.1 (TX11 5).2.2.1 ∈ wT := List.mem_filter.mpr ⟨List.mem_of_getElem? (i := 499) (by decide +kernel), by decide +kernel⟩
theorem tw_500 : Cond.fieldLink RX11 47 RX11 (TX11 6).2.1 (TX11 6).2.2.1 ∈ wT := List.mem_filter.mpr ⟨List.mem_of_getElem? (i := 500) (by decide +kernel), by decide +kernel⟩
theorem tw_501 : Cond.fieldLink RX11 51 RX11 (TX11 7).2.1 (TX11 7).2.2.1 ∈ wT := List.mem_filter.mpr ⟨List.mem_of_getElem? (i := 501) (by decide +kernel), by decide +kernel⟩
theorem tw_502 : Cond.fieldLink RX11 79 RX11 (TX11 8).2.1 (TX11 8).2.2.1 ∈ wT := List.mem_filter.mpr ⟨List.mem_of_getElem? (i := 502) (by decide +kernel), by decide +kernel⟩
theorem tw_503 : Cond.fieldLink RX11 88 RX11 (TX11 9).2.1 (TX11 9).2.2.1 ∈ wT := List.mem_filter.mpr ⟨List.mem_of_getElem? (i := 503) (by decide +kernel), by decide +kernel⟩
theorem tw_504 : Cond.fieldLink RX11 97 RX11 (TX11 10).2.1 (TX11 10).2.2.1 ∈ wT := List.mem_filter.mpr ⟨List.mem_of_getElem? (i := 504) (by decide +kernel), by decide +kernel⟩
theorem tw_505 : Cond.fieldLink RX11 106 RX11 (TX11 11).2.1 (TX11 11).2.2.1 ∈ wT := List.mem_filter.mpr ⟨List.mem_of_getElem? (i := 505) (by decide +kernel), by decide +kernel⟩
theorem tw_506 : Cond.fieldLink RX11 57 RX11 (TX11 12).2.1 (TX11 12).2.2.1 ∈ wT := List.mem_filter.mpr ⟨List.mem_of_getElem? (i := 506) (by decide +kernel), by decide +kernel⟩
theorem tw_507 : Cond.fieldLink RX11 61 RX11 (TX11 13).2.1 (TX11 13).2.2.1 ∈ wT := List.mem_filter.mpr ⟨List.mem_of_getElem? (i := 507) (by decide +kernel), by decide +kernel⟩
theorem tw_508 : Cond.fieldLink RX11 64 RX11 (TX11 14).2.1 (TX11 14).2.2.1 ∈ wT := List.mem_filter.mpr ⟨List.mem_of_getElem? (i := 508) (by decide +kernel), by decide +kernel⟩
theorem tw_509 : Cond.fieldLink RX11 68 RX11 (TX11 15).2.1 (TX11 15).2.2.1 ∈ wT := List.mem_filter.mpr ⟨List.mem_of_getElem? (i := 509) (by decide +kernel), by decide +kernel⟩
theorem tw_510 : Cond.fieldLink RX11 71 RX11 (TX11 16).2.1 (TX11 16).2.2.1 ∈ wT := List.mem_filter.mpr ⟨List.mem_of_getElem? (i := 510) (by decide +kernel), by decide +kernel⟩
theorem tw_550 : Cond.methodLink RX11 117 yX11_refuse ∈ wT := List.mem_filter.mpr ⟨List.mem_of_getElem? (i := 550) (by decide +kernel), by decide +kernel⟩
theorem tw_552 : Cond.instanceMethod yX11_refuse ∈ wT := List.mem_filter.mpr ⟨List.mem_of_getElem? (i := 552) (by decide +kernel), by decide +kernel⟩
theorem tw_553 : Cond.code yX11_refuse cX11_refuse 2 (some .int) ∈ wT := List.mem_filter.mpr ⟨List.mem_of_getElem? (i := 553) (by decide +kernel), by decide +kernel⟩
theorem tw_554 : Cond.methodLink RX11 121 yX9_addNumber ∈ wT := List.mem_filter.mpr ⟨List.mem_of_getElem? (i := 554) (by decide +kernel), by decide +kernel⟩
theorem tw_555 : Cond.instanceMethod yX9_addNumber ∈ wT := List.mem_filter.mpr ⟨List.mem_of_getElem? (i := 555) (by decide +kernel), by decide +kernel⟩
theorem tw_556 : Cond.selects (yX9_addNumber).cls yX9_addNumber yX9_addNumber ∈ wT := List.mem_filter.mpr ⟨List.mem_of_getElem? (i := 556) (by decide +kernel), by decide +kernel⟩
theorem tw_557 : Cond.code yX9_addNumber cX9_addNumber 3 none ∈ wT := List.mem_filter.mpr ⟨List.mem_of_getElem? (i := 557) (by decide +kernel), by decide +kernel⟩
theorem tw_562 : Cond.methodLink RX11 125 yX11_refuseIt ∈ wT := List.mem_filter.mpr ⟨List.mem_of_getElem? (i := 562) (by decide +kernel), by decide +kernel⟩
theorem tw_564 : Cond.instanceMethod yX11_refuseIt ∈ wT := List.mem_filter.mpr ⟨List.mem_of_getElem? (i := 564) (by decide +kernel), by decide +kernel⟩
theorem tw_565 : Cond.code yX11_refuseIt cX11_refuseIt 2 (some .boolean) ∈ wT := List.mem_filter.mpr ⟨List.mem_of_getElem? (i := 565) (by decide +kernel), by decide +kernel⟩
theorem tw_570 : Cond.methodLink RX11 129 yX6_read ∈ wT := List.mem_filter.mpr ⟨List.mem_of_getElem? (i := 570) (by decide +kernel), by decide +kernel⟩
theorem tw_571 : Cond.instanceMethod yX6_read ∈ wT := List.mem_filter.mpr ⟨List.mem_of_getElem? (i := 571) (by decide +kernel), by decide +kernel⟩
theorem tw_572 : Cond.selects (yX6_read).cls yX6_read yX6_read ∈ wT := List.mem_filter.mpr ⟨List.mem_of_getElem? (i := 572) (by decide +kernel), by decide +kernel⟩
theorem tw_573 : Cond.code yX6_read cX6_read 3 (some .int) ∈ wT := List.mem_filter.mpr ⟨List.mem_of_getElem? (i := 573) (by decide +kernel), by decide +kernel⟩
theorem tw_574 : Cond.methodLink RX6 42 yX3_empty ∈ wT := List.mem_filter.mpr ⟨List.mem_of_getElem? (i := 574) (by decide +kernel), by decide +kernel⟩
theorem tw_575 : Cond.methodLink RX6 47 yX10_cut ∈ wT := List.mem_filter.mpr ⟨List.mem_of_getElem? (i := 575) (by decide +kernel), by decide +kernel⟩
theorem tw_576 : Cond.instanceMethod yX10_cut ∈ wT := List.mem_filter.mpr ⟨List.mem_of_getElem? (i := 576) (by decide +kernel), by decide +kernel⟩
theorem tw_577 : Cond.selects (yX10_cut).cls yX10_cut yX10_cut ∈ wT := List.mem_filter.mpr ⟨List.mem_of_getElem? (i := 577) (by decide +kernel), by decide +kernel⟩
theorem tw_578 : Cond.code yX10_cut cX10_cut 6 none ∈ wT := List.mem_filter.mpr ⟨List.mem_of_getElem? (i := 578) (by decide +kernel), by decide +kernel⟩
theorem tw_579 : Cond.methodLink RX10 36 yX9_byteAt ∈ wT := List.mem_filter.mpr ⟨List.mem_of_getElem? (i := 579) (by decide +kernel), by decide +kernel⟩
theorem tw_580 : Cond.instanceMethod yX9_byteAt ∈ wT := List.mem_filter.mpr ⟨List.mem_of_getElem? (i := 580) (by decide +kernel), by decide +kernel⟩
theorem tw_581 : Cond.selects (yX9_byteAt).cls yX9_byteAt yX9_byteAt ∈ wT := List.mem_filter.mpr ⟨List.mem_of_getElem? (i := 581) (by decide +kernel), by decide +kernel⟩
theorem tw_582 : Cond.code yX9_byteAt cX9_byteAt 2 (some .int) ∈ wT := List.mem_filter.mpr ⟨List.mem_of_getElem? (i := 582) (by decide +kernel), by decide +kernel⟩
theorem tw_583 : Cond.methodLink RX10 40 yX10_isBlank ∈ wT := List.mem_filter.mpr ⟨List.mem_of_getElem? (i := 583) (by decide +kernel), by decide +kernel⟩
theorem tw_584 : Cond.static yX10_isBlank ∈ wT := List.mem_filter.mpr ⟨List.mem_of_getElem? (i := 584) (by decide +kernel), by decide +kernel⟩
theorem tw_585 : Cond.code yX10_isBlank cX10_isBlank 1 (some .boolean) ∈ wT := List.mem_filter.mpr ⟨List.mem_of_getElem? (i := 585) (by decide +kernel), by decide +kernel⟩
theorem tw_586 : Cond.methodLink RX10 44 yX10_cutOne ∈ wT := List.mem_filter.mpr ⟨List.mem_of_getElem? (i := 586) (by decide +kernel), by decide +kernel⟩
theorem tw_588 : Cond.instanceMethod yX10_cutOne ∈ wT := List.mem_filter.mpr ⟨List.mem_of_getElem? (i := 588) (by decide +kernel), by decide +kernel⟩
theorem tw_589 : Cond.code yX10_cutOne cX10_cutOne 4 (some .int) ∈ wT := List.mem_filter.mpr ⟨List.mem_of_getElem? (i := 589) (by decide +kernel), by decide +kernel⟩
theorem tw_590 : Cond.methodLink RX10 48 yX10_add ∈ wT := List.mem_filter.mpr ⟨List.mem_of_getElem? (i := 590) (by decide +kernel), by decide +kernel⟩
theorem tw_592 : Cond.instanceMethod yX10_add ∈ wT := List.mem_filter.mpr ⟨List.mem_of_getElem? (i := 592) (by decide +kernel), by decide +kernel⟩
theorem tw_593 : Cond.code yX10_add cX10_add 4 (some .int) ∈ wT := List.mem_filter.mpr ⟨List.mem_of_getElem? (i := 593) (by decide +kernel), by decide +kernel⟩
theorem tw_594 : Cond.methodLink RX10 52 yX10_isLetter ∈ wT := List.mem_filter.mpr ⟨List.mem_of_getElem? (i := 594) (by decide +kernel), by decide +kernel⟩
theorem tw_595 : Cond.static yX10_isLetter ∈ wT := List.mem_filter.mpr ⟨List.mem_of_getElem? (i := 595) (by decide +kernel), by decide +kernel⟩
theorem tw_596 : Cond.code yX10_isLetter cX10_isLetter 1 (some .boolean) ∈ wT := List.mem_filter.mpr ⟨List.mem_of_getElem? (i := 596) (by decide +kernel), by decide +kernel⟩
theorem tw_597 : Cond.methodLink RX10 55 yX10_cutWord ∈ wT := List.mem_filter.mpr ⟨List.mem_of_getElem? (i := 597) (by decide +kernel), by decide +kernel⟩
theorem tw_599 : Cond.instanceMethod yX10_cutWord ∈ wT := List.mem_filter.mpr ⟨List.mem_of_getElem? (i := 599) (by decide +kernel), by decide +kernel⟩
theorem tw_600 : Cond.code yX10_cutWord cX10_cutWord 5 (some .int) ∈ wT := List.mem_filter.mpr ⟨List.mem_of_getElem? (i := 600) (by decide +kernel), by decide +kernel⟩
theorem tw_601 : Cond.methodLink RX10 72 yX6_ownNumber ∈ wT := List.mem_filter.mpr ⟨List.mem_of_getElem? (i := 601) (by decide +kernel), by decide +kernel⟩
theorem tw_602 : Cond.static yX6_ownNumber ∈ wT := List.mem_filter.mpr ⟨List.mem_of_getElem? (i := 602) (by decide +kernel), by decide +kernel⟩
theorem tw_603 : Cond.code yX6_ownNumber cX6_ownNumber 5 (some .int) ∈ wT := List.mem_filter.mpr ⟨List.mem_of_getElem? (i := 603) (by decide +kernel), by decide +kernel⟩
theorem tw_605 : Cond.methodLink RX6 69 yJ0_length_8abf5 ∈ wT := List.mem_filter.mpr ⟨List.mem_of_getElem? (i := 605) (by decide +kernel), by decide +kernel⟩
theorem tw_606 : Cond.instanceMethod yJ0_length_8abf5 ∈ wT := List.mem_filter.mpr ⟨List.mem_of_getElem? (i := 606) (by decide +kernel), by decide +kernel⟩
theorem tw_607 : Cond.selects (yJ0_length_8abf5).cls yJ0_length_8abf5 yJ0_length_8abf5 ∈ wT := List.mem_filter.mpr ⟨List.mem_of_getElem? (i := 607) (by decide +kernel), by decide +kernel⟩
theorem tw_608 : Cond.code yJ0_length_8abf5 cJ0_length_8abf5 1 (some .int) ∈ wT := List.mem_filter.mpr ⟨List.mem_of_getElem? (i := 608) (by decide +kernel), by decide +kernel⟩
theorem tw_609 : Cond.methodLink RJ0 335 yJ0_coder_7d493 ∈ wT := List.mem_filter.mpr ⟨List.mem_of_getElem? (i := 609) (by decide +kernel), by decide +kernel⟩
theorem tw_610 : Cond.instanceMethod yJ0_coder_7d493 ∈ wT := List.mem_filter.mpr ⟨List.mem_of_getElem? (i := 610) (by decide +kernel), by decide +kernel⟩
theorem tw_611 : Cond.selects (yJ0_coder_7d493).cls yJ0_coder_7d493 yJ0_coder_7d493 ∈ wT := List.mem_filter.mpr ⟨List.mem_of_getElem? (i := 611) (by decide +kernel), by decide +kernel⟩
theorem tw_612 : Cond.code yJ0_coder_7d493 cJ0_coder_7d493 1 (some .byte) ∈ wT := List.mem_filter.mpr ⟨List.mem_of_getElem? (i := 612) (by decide +kernel), by decide +kernel⟩
theorem tw_613 : Cond.fieldLink RJ0 38 "java/lang/String" "COMPACT_STRINGS" "Z" ∈ wT := List.mem_filter.mpr ⟨List.mem_of_getElem? (i := 613) (by decide +kernel), by decide +kernel⟩
theorem tw_615 : Cond.methodLink RX6 74 yJ0_charAt_5068e ∈ wT := List.mem_filter.mpr ⟨List.mem_of_getElem? (i := 615) (by decide +kernel), by decide +kernel⟩
theorem tw_616 : Cond.instanceMethod yJ0_charAt_5068e ∈ wT := List.mem_filter.mpr ⟨List.mem_of_getElem? (i := 616) (by decide +kernel), by decide +kernel⟩
theorem tw_617 : Cond.selects (yJ0_charAt_5068e).cls yJ0_charAt_5068e yJ0_charAt_5068e ∈ wT := List.mem_filter.mpr ⟨List.mem_of_getElem? (i := 617) (by decide +kernel), by decide +kernel⟩
theorem tw_618 : Cond.code yJ0_charAt_5068e cJ0_charAt_5068e 2 (some .char) ∈ wT := List.mem_filter.mpr ⟨List.mem_of_getElem? (i := 618) (by decide +kernel), by decide +kernel⟩
theorem tw_619 : Cond.methodLink RJ0 492 yJ0_isLatin1_aae02 ∈ wT := List.mem_filter.mpr ⟨List.mem_of_getElem? (i := 619) (by decide +kernel), by decide +kernel⟩
theorem tw_620 : Cond.instanceMethod yJ0_isLatin1_aae02 ∈ wT := List.mem_filter.mpr ⟨List.mem_of_getElem? (i := 620) (by decide +kernel), by decide +kernel⟩
theorem tw_621 : Cond.selects (yJ0_isLatin1_aae02).cls yJ0_isLatin1_aae02 yJ0_isLatin1_aae02 ∈ wT := List.mem_filter.mpr ⟨List.mem_of_getElem? (i := 621) (by decide +kernel), by decide +kernel⟩
theorem tw_622 : Cond.code yJ0_isLatin1_aae02 cJ0_isLatin1_aae02 1 (some .boolean) ∈ wT := List.mem_filter.mpr ⟨List.mem_of_getElem? (i := 622) (by decide +kernel), by decide +kernel⟩
theorem tw_623 : Cond.methodLink RJ0 495 yJ1_charAt_3b067 ∈ wT := List.mem_filter.mpr ⟨List.mem_of_getElem? (i := 623) (by decide +kernel), by decide +kernel⟩
theorem tw_624 : Cond.static yJ1_charAt_3b067 ∈ wT := List.mem_filter.mpr ⟨List.mem_of_getElem? (i := 624) (by decide +kernel), by decide +kernel⟩
theorem tw_625 : Cond.code yJ1_charAt_3b067 cJ1_charAt_3b067 2 (some .char) ∈ wT := List.mem_filter.mpr ⟨List.mem_of_getElem? (i := 625) (by decide +kernel), by decide +kernel⟩
theorem tw_626 : Cond.methodLink RJ1 9 yJ0_checkIndex_df160 ∈ wT := List.mem_filter.mpr ⟨List.mem_of_getElem? (i := 626) (by decide +kernel), by decide +kernel⟩
theorem tw_627 : Cond.static yJ0_checkIndex_df160 ∈ wT := List.mem_filter.mpr ⟨List.mem_of_getElem? (i := 627) (by decide +kernel), by decide +kernel⟩
theorem tw_628 : Cond.code yJ0_checkIndex_df160 cJ0_checkIndex_df160 2 none ∈ wT := List.mem_filter.mpr ⟨List.mem_of_getElem? (i := 628) (by decide +kernel), by decide +kernel⟩
theorem tw_629 : Cond.fieldLink RJ0 1053 "jdk/internal/util/Preconditions" "SIOOBE_FORMATTER" "Ljava/util/function/BiFunction;" ∈ wT := List.mem_filter.mpr ⟨List.mem_of_getElem? (i := 629) (by decide +kernel), by decide +kernel⟩
theorem tw_631 : Cond.methodLink RJ0 1059 yJ3_checkIndex_8e157 ∈ wT := List.mem_filter.mpr ⟨List.mem_of_getElem? (i := 631) (by decide +kernel), by decide +kernel⟩
theorem tw_632 : Cond.static yJ3_checkIndex_8e157 ∈ wT := List.mem_filter.mpr ⟨List.mem_of_getElem? (i := 632) (by decide +kernel), by decide +kernel⟩
theorem tw_633 : Cond.code yJ3_checkIndex_8e157 cJ3_checkIndex_8e157 3 (some .int) ∈ wT := List.mem_filter.mpr ⟨List.mem_of_getElem? (i := 633) (by decide +kernel), by decide +kernel⟩
theorem tw_653 : Cond.methodLink RX10 59 yX10_isDigit ∈ wT := List.mem_filter.mpr ⟨List.mem_of_getElem? (i := 653) (by decide +kernel), by decide +kernel⟩
theorem tw_654 : Cond.static yX10_isDigit ∈ wT := List.mem_filter.mpr ⟨List.mem_of_getElem? (i := 654) (by decide +kernel), by decide +kernel⟩
theorem tw_655 : Cond.code yX10_isDigit cX10_isDigit 1 (some .boolean) ∈ wT := List.mem_filter.mpr ⟨List.mem_of_getElem? (i := 655) (by decide +kernel), by decide +kernel⟩
theorem tw_656 : Cond.methodLink RX10 62 yX10_cutNumber ∈ wT := List.mem_filter.mpr ⟨List.mem_of_getElem? (i := 656) (by decide +kernel), by decide +kernel⟩
theorem tw_658 : Cond.instanceMethod yX10_cutNumber ∈ wT := List.mem_filter.mpr ⟨List.mem_of_getElem? (i := 658) (by decide +kernel), by decide +kernel⟩
theorem tw_659 : Cond.code yX10_cutNumber cX10_cutNumber 4 (some .int) ∈ wT := List.mem_filter.mpr ⟨List.mem_of_getElem? (i := 659) (by decide +kernel), by decide +kernel⟩
theorem tw_661 : Cond.methodLink RX10 67 yJ0_indexOf_0f7a4 ∈ wT := List.mem_filter.mpr ⟨List.mem_of_getElem? (i := 661) (by decide +kernel), by decide +kernel⟩
theorem tw_662 : Cond.instanceMethod yJ0_indexOf_0f7a4 ∈ wT := List.mem_filter.mpr ⟨List.mem_of_getElem? (i := 662) (by decide +kernel), by decide +kernel⟩
theorem tw_663 : Cond.selects (yJ0_indexOf_0f7a4).cls yJ0_indexOf_0f7a4 yJ0_indexOf_0f7a4 ∈ wT := List.mem_filter.mpr ⟨List.mem_of_getElem? (i := 663) (by decide +kernel), by decide +kernel⟩
theorem tw_664 : Cond.code yJ0_indexOf_0f7a4 cJ0_indexOf_0f7a4 2 (some .int) ∈ wT := List.mem_filter.mpr ⟨List.mem_of_getElem? (i := 664) (by decide +kernel), by decide +kernel⟩
theorem tw_665 : Cond.methodLink RJ0 633 yJ0_indexOf_7cf53 ∈ wT := List.mem_filter.mpr ⟨List.mem_of_getElem? (i := 665) (by decide +kernel), by decide +kernel⟩
theorem tw_666 : Cond.instanceMethod yJ0_indexOf_7cf53 ∈ wT := List.mem_filter.mpr ⟨List.mem_of_getElem? (i := 666) (by decide +kernel), by decide +kernel⟩
theorem tw_667 : Cond.selects (yJ0_indexOf_7cf53).cls yJ0_indexOf_7cf53 yJ0_indexOf_7cf53 ∈ wT := List.mem_filter.mpr ⟨List.mem_of_getElem? (i := 667) (by decide +kernel), by decide +kernel⟩
theorem tw_668 : Cond.code yJ0_indexOf_7cf53 cJ0_indexOf_7cf53 3 (some .int) ∈ wT := List.mem_filter.mpr ⟨List.mem_of_getElem? (i := 668) (by decide +kernel), by decide +kernel⟩
theorem tw_669 : Cond.methodLink RJ0 505 yJ0_length_8abf5 ∈ wT := List.mem_filter.mpr ⟨List.mem_of_getElem? (i := 669) (by decide +kernel), by decide +kernel⟩
theorem tw_670 : Cond.methodLink RJ0 637 yJ1_indexOf_4cfef ∈ wT := List.mem_filter.mpr ⟨List.mem_of_getElem? (i := 670) (by decide +kernel), by decide +kernel⟩
theorem tw_671 : Cond.static yJ1_indexOf_4cfef ∈ wT := List.mem_filter.mpr ⟨List.mem_of_getElem? (i := 671) (by decide +kernel), by decide +kernel⟩
theorem tw_672 : Cond.code yJ1_indexOf_4cfef cJ1_indexOf_4cfef 4 (some .int) ∈ wT := List.mem_filter.mpr ⟨List.mem_of_getElem? (i := 672) (by decide +kernel), by decide +kernel⟩
theorem tw_673 : Cond.methodLink RJ1 88 yJ1_canEncode_9a6ad ∈ wT := List.mem_filter.mpr ⟨List.mem_of_getElem? (i := 673) (by decide +kernel), by decide +kernel⟩
theorem tw_674 : Cond.static yJ1_canEncode_9a6ad ∈ wT := List.mem_filter.mpr ⟨List.mem_of_getElem? (i := 674) (by decide +kernel), by decide +kernel⟩
theorem tw_675 : Cond.code yJ1_canEncode_9a6ad cJ1_canEncode_9a6ad 1 (some .boolean) ∈ wT := List.mem_filter.mpr ⟨List.mem_of_getElem? (i := 675) (by decide +kernel), by decide +kernel⟩
theorem tw_676 : Cond.methodLink RJ1 92 yJ9_max_7cf53 ∈ wT := List.mem_filter.mpr ⟨List.mem_of_getElem? (i := 676) (by decide +kernel), by decide +kernel⟩
theorem tw_677 : Cond.static yJ9_max_7cf53 ∈ wT := List.mem_filter.mpr ⟨List.mem_of_getElem? (i := 677) (by decide +kernel), by decide +kernel⟩
theorem tw_678 : Cond.code yJ9_max_7cf53 cJ9_max_7cf53 2 (some .int) ∈ wT := List.mem_filter.mpr ⟨List.mem_of_getElem? (i := 678) (by decide +kernel), by decide +kernel⟩
theorem tw_679 : Cond.methodLink RJ1 38 yJ9_min_7cf53 ∈ wT := List.mem_filter.mpr ⟨List.mem_of_getElem? (i := 679) (by decide +kernel), by decide +kernel⟩
theorem tw_680 : Cond.static yJ9_min_7cf53 ∈ wT := List.mem_filter.mpr ⟨List.mem_of_getElem? (i := 680) (by decide +kernel), by decide +kernel⟩
theorem tw_681 : Cond.code yJ9_min_7cf53 cJ9_min_7cf53 2 (some .int) ∈ wT := List.mem_filter.mpr ⟨List.mem_of_getElem? (i := 681) (by decide +kernel), by decide +kernel⟩
theorem tw_682 : Cond.methodLink RJ1 95 yJ1_indexOfChar_4cfef ∈ wT := List.mem_filter.mpr ⟨List.mem_of_getElem? (i := 682) (by decide +kernel), by decide +kernel⟩
theorem tw_683 : Cond.static yJ1_indexOfChar_4cfef ∈ wT := List.mem_filter.mpr ⟨List.mem_of_getElem? (i := 683) (by decide +kernel), by decide +kernel⟩
theorem tw_684 : Cond.code yJ1_indexOfChar_4cfef cJ1_indexOfChar_4cfef 6 (some .int) ∈ wT := List.mem_filter.mpr ⟨List.mem_of_getElem? (i := 684) (by decide +kernel), by decide +kernel⟩
theorem tw_720 : Cond.methodLink RX6 51 yX10_sortHere ∈ wT := List.mem_filter.mpr ⟨List.mem_of_getElem? (i := 720) (by decide +kernel), by decide +kernel⟩
theorem tw_721 : Cond.instanceMethod yX10_sortHere ∈ wT := List.mem_filter.mpr ⟨List.mem_of_getElem? (i := 721) (by decide +kernel), by decide +kernel⟩
theorem tw_722 : Cond.selects (yX10_sortHere).cls yX10_sortHere yX10_sortHere ∈ wT := List.mem_filter.mpr ⟨List.mem_of_getElem? (i := 722) (by decide +kernel), by decide +kernel⟩
theorem tw_723 : Cond.code yX10_sortHere cX10_sortHere 1 (some .int) ∈ wT := List.mem_filter.mpr ⟨List.mem_of_getElem? (i := 723) (by decide +kernel), by decide +kernel⟩
theorem tw_724 : Cond.methodLink RX6 55 yX6_readStatement ∈ wT := List.mem_filter.mpr ⟨List.mem_of_getElem? (i := 724) (by decide +kernel), by decide +kernel⟩
theorem tw_726 : Cond.instanceMethod yX6_readStatement ∈ wT := List.mem_filter.mpr ⟨List.mem_of_getElem? (i := 726) (by decide +kernel), by decide +kernel⟩
theorem tw_727 : Cond.code yX6_readStatement cX6_readStatement 2 none ∈ wT := List.mem_filter.mpr ⟨List.mem_of_getElem? (i := 727) (by decide +kernel), by decide +kernel⟩
theorem tw_728 : Cond.methodLink RX6 96 yX6_ownHere ∈ wT := List.mem_filter.mpr ⟨List.mem_of_getElem? (i := 728) (by decide +kernel), by decide +kernel⟩
theorem tw_730 : Cond.instanceMethod yX6_ownHere ∈ wT := List.mem_filter.mpr ⟨List.mem_of_getElem? (i := 730) (by decide +kernel), by decide +kernel⟩
theorem tw_731 : Cond.code yX6_ownHere cX6_ownHere 1 (some .int) ∈ wT := List.mem_filter.mpr ⟨List.mem_of_getElem? (i := 731) (by decide +kernel), by decide +kernel⟩
theorem tw_732 : Cond.methodLink RX6 78 yX10_valueHere ∈ wT := List.mem_filter.mpr ⟨List.mem_of_getElem? (i := 732) (by decide +kernel), by decide +kernel⟩
theorem tw_733 : Cond.instanceMethod yX10_valueHere ∈ wT := List.mem_filter.mpr ⟨List.mem_of_getElem? (i := 733) (by decide +kernel), by decide +kernel⟩
theorem tw_734 : Cond.selects (yX10_valueHere).cls yX10_valueHere yX10_valueHere ∈ wT := List.mem_filter.mpr ⟨List.mem_of_getElem? (i := 734) (by decide +kernel), by decide +kernel⟩
theorem tw_735 : Cond.code yX10_valueHere cX10_valueHere 1 (some .int) ∈ wT := List.mem_filter.mpr ⟨List.mem_of_getElem? (i := 735) (by decide +kernel), by decide +kernel⟩
theorem tw_736 : Cond.methodLink RX6 92 yX6_fail ∈ wT := List.mem_filter.mpr ⟨List.mem_of_getElem? (i := 736) (by decide +kernel), by decide +kernel⟩
theorem tw_738 : Cond.instanceMethod yX6_fail ∈ wT := List.mem_filter.mpr ⟨List.mem_of_getElem? (i := 738) (by decide +kernel), by decide +kernel⟩
theorem tw_739 : Cond.code yX6_fail cX6_fail 2 none ∈ wT := List.mem_filter.mpr ⟨List.mem_of_getElem? (i := 739) (by decide +kernel), by decide +kernel⟩
theorem tw_740 : Cond.methodLink RX6 58 yX10_beginHere ∈ wT := List.mem_filter.mpr ⟨List.mem_of_getElem? (i := 740) (by decide +kernel), by decide +kernel⟩
theorem tw_741 : Cond.instanceMethod yX10_beginHere ∈ wT := List.mem_filter.mpr ⟨List.mem_of_getElem? (i := 741) (by decide +kernel), by decide +kernel⟩
theorem tw_742 : Cond.selects (yX10_beginHere).cls yX10_beginHere yX10_beginHere ∈ wT := List.mem_filter.mpr ⟨List.mem_of_getElem? (i := 742) (by decide +kernel), by decide +kernel⟩
theorem tw_743 : Cond.code yX10_beginHere cX10_beginHere 1 (some .int) ∈ wT := List.mem_filter.mpr ⟨List.mem_of_getElem? (i := 743) (by decide +kernel), by decide +kernel⟩
theorem tw_744 : Cond.methodLink RX6 61 yX10_placeHere ∈ wT := List.mem_filter.mpr ⟨List.mem_of_getElem? (i := 744) (by decide +kernel), by decide +kernel⟩
theorem tw_745 : Cond.instanceMethod yX10_placeHere ∈ wT := List.mem_filter.mpr ⟨List.mem_of_getElem? (i := 745) (by decide +kernel), by decide +kernel⟩
theorem tw_746 : Cond.selects (yX10_placeHere).cls yX10_placeHere yX10_placeHere ∈ wT := List.mem_filter.mpr ⟨List.mem_of_getElem? (i := 746) (by decide +kernel), by decide +kernel⟩
theorem tw_747 : Cond.code yX10_placeHere cX10_placeHere 1 (some .int) ∈ wT := List.mem_filter.mpr ⟨List.mem_of_getElem? (i := 747) (by decide +kernel), by decide +kernel⟩
theorem tw_748 : Cond.methodLink RX6 64 yX10_stop ∈ wT := List.mem_filter.mpr ⟨List.mem_of_getElem? (i := 748) (by decide +kernel), by decide +kernel⟩
theorem tw_749 : Cond.instanceMethod yX10_stop ∈ wT := List.mem_filter.mpr ⟨List.mem_of_getElem? (i := 749) (by decide +kernel), by decide +kernel⟩
theorem tw_750 : Cond.selects (yX10_stop).cls yX10_stop yX10_stop ∈ wT := List.mem_filter.mpr ⟨List.mem_of_getElem? (i := 750) (by decide +kernel), by decide +kernel⟩
theorem tw_751 : Cond.code yX10_stop cX10_stop 1 none ∈ wT := List.mem_filter.mpr ⟨List.mem_of_getElem? (i := 751) (by decide +kernel), by decide +kernel⟩
theorem tw_752 : Cond.methodLink RX6 99 yX6_isFull ∈ wT := List.mem_filter.mpr ⟨List.mem_of_getElem? (i := 752) (by decide +kernel), by decide +kernel⟩
theorem tw_754 : Cond.instanceMethod yX6_isFull ∈ wT := List.mem_filter.mpr ⟨List.mem_of_getElem? (i := 754) (by decide +kernel), by decide +kernel⟩
theorem tw_755 : Cond.code yX6_isFull cX6_isFull 2 (some .boolean) ∈ wT := List.mem_filter.mpr ⟨List.mem_of_getElem? (i := 755) (by decide +kernel), by decide +kernel⟩
theorem tw_756 : Cond.methodLink RX6 136 yX3_hasCode ∈ wT := List.mem_filter.mpr ⟨List.mem_of_getElem? (i := 756) (by decide +kernel), by decide +kernel⟩
theorem tw_757 : Cond.instanceMethod yX3_hasCode ∈ wT := List.mem_filter.mpr ⟨List.mem_of_getElem? (i := 757) (by decide +kernel), by decide +kernel⟩
theorem tw_758 : Cond.selects (yX3_hasCode).cls yX3_hasCode yX3_hasCode ∈ wT := List.mem_filter.mpr ⟨List.mem_of_getElem? (i := 758) (by decide +kernel), by decide +kernel⟩
theorem tw_759 : Cond.code yX3_hasCode cX3_hasCode 2 (some .boolean) ∈ wT := List.mem_filter.mpr ⟨List.mem_of_getElem? (i := 759) (by decide +kernel), by decide +kernel⟩
theorem tw_760 : Cond.methodLink RX6 89 yX10_step ∈ wT := List.mem_filter.mpr ⟨List.mem_of_getElem? (i := 760) (by decide +kernel), by decide +kernel⟩
theorem tw_761 : Cond.instanceMethod yX10_step ∈ wT := List.mem_filter.mpr ⟨List.mem_of_getElem? (i := 761) (by decide +kernel), by decide +kernel⟩
theorem tw_762 : Cond.selects (yX10_step).cls yX10_step yX10_step ∈ wT := List.mem_filter.mpr ⟨List.mem_of_getElem? (i := 762) (by decide +kernel), by decide +kernel⟩
theorem tw_763 : Cond.code yX10_step cX10_step 1 none ∈ wT := List.mem_filter.mpr ⟨List.mem_of_getElem? (i := 763) (by decide +kernel), by decide +kernel⟩
theorem tw_764 : Cond.methodLink RX6 103 yX6_readOne ∈ wT := List.mem_filter.mpr ⟨List.mem_of_getElem? (i := 764) (by decide +kernel), by decide +kernel⟩
theorem tw_766 : Cond.instanceMethod yX6_readOne ∈ wT := List.mem_filter.mpr ⟨List.mem_of_getElem? (i := 766) (by decide +kernel), by decide +kernel⟩
theorem tw_767 : Cond.code yX6_readOne cX6_readOne 4 none ∈ wT := List.mem_filter.mpr ⟨List.mem_of_getElem? (i := 767) (by decide +kernel), by decide +kernel⟩
theorem tw_768 : Cond.methodLink RX6 139 yX6_isName ∈ wT := List.mem_filter.mpr ⟨List.mem_of_getElem? (i := 768) (by decide +kernel), by decide +kernel⟩
theorem tw_770 : Cond.instanceMethod yX6_isName ∈ wT := List.mem_filter.mpr ⟨List.mem_of_getElem? (i := 770) (by decide +kernel), by decide +kernel⟩
theorem tw_771 : Cond.code yX6_isName cX6_isName 1 (some .boolean) ∈ wT := List.mem_filter.mpr ⟨List.mem_of_getElem? (i := 771) (by decide +kernel), by decide +kernel⟩
theorem tw_772 : Cond.methodLink RX6 143 yX6_isTaken ∈ wT := List.mem_filter.mpr ⟨List.mem_of_getElem? (i := 772) (by decide +kernel), by decide +kernel⟩
theorem tw_774 : Cond.instanceMethod yX6_isTaken ∈ wT := List.mem_filter.mpr ⟨List.mem_of_getElem? (i := 774) (by decide +kernel), by decide +kernel⟩
theorem tw_775 : Cond.code yX6_isTaken cX6_isTaken 2 (some .boolean) ∈ wT := List.mem_filter.mpr ⟨List.mem_of_getElem? (i := 775) (by decide +kernel), by decide +kernel⟩
theorem tw_776 : Cond.methodLink RX6 174 yX3_find ∈ wT := List.mem_filter.mpr ⟨List.mem_of_getElem? (i := 776) (by decide +kernel), by decide +kernel⟩
theorem tw_777 : Cond.instanceMethod yX3_find ∈ wT := List.mem_filter.mpr ⟨List.mem_of_getElem? (i := 777) (by decide +kernel), by decide +kernel⟩
theorem tw_778 : Cond.selects (yX3_find).cls yX3_find yX3_find ∈ wT := List.mem_filter.mpr ⟨List.mem_of_getElem? (i := 778) (by decide +kernel), by decide +kernel⟩
theorem tw_779 : Cond.code yX3_find cX3_find 4 (some .int) ∈ wT := List.mem_filter.mpr ⟨List.mem_of_getElem? (i := 779) (by decide +kernel), by decide +kernel⟩
theorem tw_780 : Cond.methodLink RX6 152 yX6_takeTrait ∈ wT := List.mem_filter.mpr ⟨List.mem_of_getElem? (i := 780) (by decide +kernel), by decide +kernel⟩
theorem tw_782 : Cond.instanceMethod yX6_takeTrait ∈ wT := List.mem_filter.mpr ⟨List.mem_of_getElem? (i := 782) (by decide +kernel), by decide +kernel⟩
theorem tw_783 : Cond.code yX6_takeTrait cX6_takeTrait 3 (some .int) ∈ wT := List.mem_filter.mpr ⟨List.mem_of_getElem? (i := 783) (by decide +kernel), by decide +kernel⟩
theorem tw_784 : Cond.methodLink RX6 156 yX6_isOwn ∈ wT := List.mem_filter.mpr ⟨List.mem_of_getElem? (i := 784) (by decide +kernel), by decide +kernel⟩
theorem tw_786 : Cond.instanceMethod yX6_isOwn ∈ wT := List.mem_filter.mpr ⟨List.mem_of_getElem? (i := 786) (by decide +kernel), by decide +kernel⟩
theorem tw_787 : Cond.code yX6_isOwn cX6_isOwn 2 (some .boolean) ∈ wT := List.mem_filter.mpr ⟨List.mem_of_getElem? (i := 787) (by decide +kernel), by decide +kernel⟩
theorem tw_788 : Cond.methodLink RX6 81 yX10_isHere ∈ wT := List.mem_filter.mpr ⟨List.mem_of_getElem? (i := 788) (by decide +kernel), by decide +kernel⟩
theorem tw_789 : Cond.instanceMethod yX10_isHere ∈ wT := List.mem_filter.mpr ⟨List.mem_of_getElem? (i := 789) (by decide +kernel), by decide +kernel⟩
theorem tw_790 : Cond.selects (yX10_isHere).cls yX10_isHere yX10_isHere ∈ wT := List.mem_filter.mpr ⟨List.mem_of_getElem? (i := 790) (by decide +kernel), by decide +kernel⟩
theorem tw_791 : Cond.code yX10_isHere cX10_isHere 3 (some .boolean) ∈ wT := List.mem_filter.mpr ⟨List.mem_of_getElem? (i := 791) (by decide +kernel), by decide +kernel⟩
theorem tw_792 : Cond.methodLink RX6 115 yX6_takeUpTo ∈ wT := List.mem_filter.mpr ⟨List.mem_of_getElem? (i := 792) (by decide +kernel), by decide +kernel⟩
theorem tw_794 : Cond.instanceMethod yX6_takeUpTo ∈ wT := List.mem_filter.mpr ⟨List.mem_of_getElem? (i := 794) (by decide +kernel), by decide +kernel⟩
theorem tw_795 : Cond.code yX6_takeUpTo cX6_takeUpTo 3 (some .int) ∈ wT := List.mem_filter.mpr ⟨List.mem_of_getElem? (i := 795) (by decide +kernel), by decide +kernel⟩
theorem tw_796 : Cond.methodLink RX6 106 yX6_readLate ∈ wT := List.mem_filter.mpr ⟨List.mem_of_getElem? (i := 796) (by decide +kernel), by decide +kernel⟩
theorem tw_798 : Cond.instanceMethod yX6_readLate ∈ wT := List.mem_filter.mpr ⟨List.mem_of_getElem? (i := 798) (by decide +kernel), by decide +kernel⟩
theorem tw_799 : Cond.code yX6_readLate cX6_readLate 2 none ∈ wT := List.mem_filter.mpr ⟨List.mem_of_getElem? (i := 799) (by decide +kernel), by decide +kernel⟩
theorem tw_800 : Cond.methodLink RX6 159 yX6_findNamed ∈ wT := List.mem_filter.mpr ⟨List.mem_of_getElem? (i := 800) (by decide +kernel), by decide +kernel⟩
theorem tw_802 : Cond.instanceMethod yX6_findNamed ∈ wT := List.mem_filter.mpr ⟨List.mem_of_getElem? (i := 802) (by decide +kernel), by decide +kernel⟩
theorem tw_803 : Cond.code yX6_findNamed cX6_findNamed 3 (some .int) ∈ wT := List.mem_filter.mpr ⟨List.mem_of_getElem? (i := 803) (by decide +kernel), by decide +kernel⟩
theorem tw_804 : Cond.methodLink RX6 162 yX3_isLate ∈ wT := List.mem_filter.mpr ⟨List.mem_of_getElem? (i := 804) (by decide +kernel), by decide +kernel⟩
theorem tw_805 : Cond.instanceMethod yX3_isLate ∈ wT := List.mem_filter.mpr ⟨List.mem_of_getElem? (i := 805) (by decide +kernel), by decide +kernel⟩
theorem tw_806 : Cond.selects (yX3_isLate).cls yX3_isLate yX3_isLate ∈ wT := List.mem_filter.mpr ⟨List.mem_of_getElem? (i := 806) (by decide +kernel), by decide +kernel⟩
theorem tw_807 : Cond.code yX3_isLate cX3_isLate 2 (some .int) ∈ wT := List.mem_filter.mpr ⟨List.mem_of_getElem? (i := 807) (by decide +kernel), by decide +kernel⟩
theorem tw_808 : Cond.methodLink RX6 109 yX6_readNear ∈ wT := List.mem_filter.mpr ⟨List.mem_of_getElem? (i := 808) (by decide +kernel), by decide +kernel⟩
theorem tw_810 : Cond.instanceMethod yX6_readNear ∈ wT := List.mem_filter.mpr ⟨List.mem_of_getElem? (i := 810) (by decide +kernel), by decide +kernel⟩
theorem tw_811 : Cond.code yX6_readNear cX6_readNear 3 none ∈ wT := List.mem_filter.mpr ⟨List.mem_of_getElem? (i := 811) (by decide +kernel), by decide +kernel⟩
theorem tw_812 : Cond.methodLink RX6 112 yX6_readWears ∈ wT := List.mem_filter.mpr ⟨List.mem_of_getElem? (i := 812) (by decide +kernel), by decide +kernel⟩
theorem tw_814 : Cond.instanceMethod yX6_readWears ∈ wT := List.mem_filter.mpr ⟨List.mem_of_getElem? (i := 814) (by decide +kernel), by decide +kernel⟩
theorem tw_815 : Cond.code yX6_readWears cX6_readWears 3 none ∈ wT := List.mem_filter.mpr ⟨List.mem_of_getElem? (i := 815) (by decide +kernel), by decide +kernel⟩
theorem tw_816 : Cond.methodLink RX6 125 yX6_readFormula ∈ wT := List.mem_filter.mpr ⟨List.mem_of_getElem? (i := 816) (by decide +kernel), by decide +kernel⟩
theorem tw_818 : Cond.instanceMethod yX6_readFormula ∈ wT := List.mem_filter.mpr ⟨List.mem_of_getElem? (i := 818) (by decide +kernel), by decide +kernel⟩
theorem tw_819 : Cond.code yX6_readFormula cX6_readFormula 2 none ∈ wT := List.mem_filter.mpr ⟨List.mem_of_getElem? (i := 819) (by decide +kernel), by decide +kernel⟩
theorem tw_820 : Cond.methodLink RX6 183 yX6_readTest ∈ wT := List.mem_filter.mpr ⟨List.mem_of_getElem? (i := 820) (by decide +kernel), by decide +kernel⟩
theorem tw_822 : Cond.instanceMethod yX6_readTest ∈ wT := List.mem_filter.mpr ⟨List.mem_of_getElem? (i := 822) (by decide +kernel), by decide +kernel⟩
theorem tw_823 : Cond.code yX6_readTest cX6_readTest 2 none ∈ wT := List.mem_filter.mpr ⟨List.mem_of_getElem? (i := 823) (by decide +kernel), by decide +kernel⟩
theorem tw_824 : Cond.methodLink RX6 195 yX6_readBoth ∈ wT := List.mem_filter.mpr ⟨List.mem_of_getElem? (i := 824) (by decide +kernel), by decide +kernel⟩
theorem tw_826 : Cond.instanceMethod yX6_readBoth ∈ wT := List.mem_filter.mpr ⟨List.mem_of_getElem? (i := 826) (by decide +kernel), by decide +kernel⟩
theorem tw_827 : Cond.code yX6_readBoth cX6_readBoth 2 none ∈ wT := List.mem_filter.mpr ⟨List.mem_of_getElem? (i := 827) (by decide +kernel), by decide +kernel⟩
theorem tw_828 : Cond.methodLink RX6 203 yX6_readFact ∈ wT := List.mem_filter.mpr ⟨List.mem_of_getElem? (i := 828) (by decide +kernel), by decide +kernel⟩
theorem tw_830 : Cond.instanceMethod yX6_readFact ∈ wT := List.mem_filter.mpr ⟨List.mem_of_getElem? (i := 830) (by decide +kernel), by decide +kernel⟩
theorem tw_831 : Cond.code yX6_readFact cX6_readFact 1 none ∈ wT := List.mem_filter.mpr ⟨List.mem_of_getElem? (i := 831) (by decide +kernel), by decide +kernel⟩
theorem tw_832 : Cond.methodLink RX6 206 yX6_opens ∈ wT := List.mem_filter.mpr ⟨List.mem_of_getElem? (i := 832) (by decide +kernel), by decide +kernel⟩
theorem tw_834 : Cond.instanceMethod yX6_opens ∈ wT := List.mem_filter.mpr ⟨List.mem_of_getElem? (i := 834) (by decide +kernel), by decide +kernel⟩
theorem tw_835 : Cond.code yX6_opens cX6_opens 1 (some .boolean) ∈ wT := List.mem_filter.mpr ⟨List.mem_of_getElem? (i := 835) (by decide +kernel), by decide +kernel⟩
theorem tw_836 : Cond.methodLink RX6 200 yX6_emit ∈ wT := List.mem_filter.mpr ⟨List.mem_of_getElem? (i := 836) (by decide +kernel), by decide +kernel⟩
theorem tw_838 : Cond.instanceMethod yX6_emit ∈ wT := List.mem_filter.mpr ⟨List.mem_of_getElem? (i := 838) (by decide +kernel), by decide +kernel⟩
theorem tw_839 : Cond.code yX6_emit cX6_emit 2 none ∈ wT := List.mem_filter.mpr ⟨List.mem_of_getElem? (i := 839) (by decide +kernel), by decide +kernel⟩
theorem tw_840 : Cond.methodLink RX6 85 yX6_isSign ∈ wT := List.mem_filter.mpr ⟨List.mem_of_getElem? (i := 840) (by decide +kernel), by decide +kernel⟩
theorem tw_842 : Cond.instanceMethod yX6_isSign ∈ wT := List.mem_filter.mpr ⟨List.mem_of_getElem? (i := 842) (by decide +kernel), by decide +kernel⟩
theorem tw_843 : Cond.code yX6_isSign cX6_isSign 2 (some .boolean) ∈ wT := List.mem_filter.mpr ⟨List.mem_of_getElem? (i := 843) (by decide +kernel), by decide +kernel⟩
theorem tw_844 : Cond.methodLink RX6 128 yX6_expect ∈ wT := List.mem_filter.mpr ⟨List.mem_of_getElem? (i := 844) (by decide +kernel), by decide +kernel⟩
theorem tw_846 : Cond.instanceMethod yX6_expect ∈ wT := List.mem_filter.mpr ⟨List.mem_of_getElem? (i := 846) (by decide +kernel), by decide +kernel⟩
theorem tw_847 : Cond.code yX6_expect cX6_expect 2 none ∈ wT := List.mem_filter.mpr ⟨List.mem_of_getElem? (i := 847) (by decide +kernel), by decide +kernel⟩
theorem tw_848 : Cond.methodLink RX6 209 yX6_readComparison ∈ wT := List.mem_filter.mpr ⟨List.mem_of_getElem? (i := 848) (by decide +kernel), by decide +kernel⟩
theorem tw_850 : Cond.instanceMethod yX6_readComparison ∈ wT := List.mem_filter.mpr ⟨List.mem_of_getElem? (i := 850) (by decide +kernel), by decide +kernel⟩
theorem tw_851 : Cond.code yX6_readComparison cX6_readComparison 2 none ∈ wT := List.mem_filter.mpr ⟨List.mem_of_getElem? (i := 851) (by decide +kernel), by decide +kernel⟩
theorem tw_852 : Cond.methodLink RX6 186 yX6_readSum ∈ wT := List.mem_filter.mpr ⟨List.mem_of_getElem? (i := 852) (by decide +kernel), by decide +kernel⟩
theorem tw_854 : Cond.instanceMethod yX6_readSum ∈ wT := List.mem_filter.mpr ⟨List.mem_of_getElem? (i := 854) (by decide +kernel), by decide +kernel⟩
theorem tw_855 : Cond.code yX6_readSum cX6_readSum 3 none ∈ wT := List.mem_filter.mpr ⟨List.mem_of_getElem? (i := 855) (by decide +kernel), by decide +kernel⟩
theorem tw_856 : Cond.methodLink RX6 212 yX6_readProduct ∈ wT := List.mem_filter.mpr ⟨List.mem_of_getElem? (i := 856) (by decide +kernel), by decide +kernel⟩
theorem tw_858 : Cond.instanceMethod yX6_readProduct ∈ wT := List.mem_filter.mpr ⟨List.mem_of_getElem? (i := 858) (by decide +kernel), by decide +kernel⟩
theorem tw_859 : Cond.code yX6_readProduct cX6_readProduct 3 none ∈ wT := List.mem_filter.mpr ⟨List.mem_of_getElem? (i := 859) (by decide +kernel), by decide +kernel⟩
theorem tw_860 : Cond.methodLink RX6 215 yX6_readPart ∈ wT := List.mem_filter.mpr ⟨List.mem_of_getElem? (i := 860) (by decide +kernel), by decide +kernel⟩
theorem tw_862 : Cond.instanceMethod yX6_readPart ∈ wT := List.mem_filter.mpr ⟨List.mem_of_getElem? (i := 862) (by decide +kernel), by decide +kernel⟩
theorem tw_863 : Cond.code yX6_readPart cX6_readPart 2 none ∈ wT := List.mem_filter.mpr ⟨List.mem_of_getElem? (i := 863) (by decide +kernel), by decide +kernel⟩
theorem tw_864 : Cond.methodLink RX6 218 yX6_variable ∈ wT := List.mem_filter.mpr ⟨List.mem_of_getElem? (i := 864) (by decide +kernel), by decide +kernel⟩
theorem tw_866 : Cond.instanceMethod yX6_variable ∈ wT := List.mem_filter.mpr ⟨List.mem_of_getElem? (i := 866) (by decide +kernel), by decide +kernel⟩
theorem tw_867 : Cond.code yX6_variable cX6_variable 2 (some .int) ∈ wT := List.mem_filter.mpr ⟨List.mem_of_getElem? (i := 867) (by decide +kernel), by decide +kernel⟩
theorem tw_868 : Cond.methodLink RX6 221 yX6_readChosen ∈ wT := List.mem_filter.mpr ⟨List.mem_of_getElem? (i := 868) (by decide +kernel), by decide +kernel⟩
theorem tw_870 : Cond.instanceMethod yX6_readChosen ∈ wT := List.mem_filter.mpr ⟨List.mem_of_getElem? (i := 870) (by decide +kernel), by decide +kernel⟩
theorem tw_871 : Cond.code yX6_readChosen cX6_readChosen 2 none ∈ wT := List.mem_filter.mpr ⟨List.mem_of_getElem? (i := 871) (by decide +kernel), by decide +kernel⟩
theorem tw_880 : Cond.methodLink RX11 153 yX7_wornBy ∈ wT := List.mem_filter.mpr ⟨List.mem_of_getElem? (i := 880) (by decide +kernel), by decide +kernel⟩
theorem tw_881 : Cond.instanceMethod yX7_wornBy ∈ wT := List.mem_filter.mpr ⟨List.mem_of_getElem? (i := 881) (by decide +kernel), by decide +kernel⟩
theorem tw_882 : Cond.selects (yX7_wornBy).cls yX7_wornBy yX7_wornBy ∈ wT := List.mem_filter.mpr ⟨List.mem_of_getElem? (i := 882) (by decide +kernel), by decide +kernel⟩
theorem tw_883 : Cond.code yX7_wornBy cX7_wornBy 5 (some .int) ∈ wT := List.mem_filter.mpr ⟨List.mem_of_getElem? (i := 883) (by decide +kernel), by decide +kernel⟩
theorem tw_884 : Cond.methodLink RX11 160 yX3_clashes ∈ wT := List.mem_filter.mpr ⟨List.mem_of_getElem? (i := 884) (by decide +kernel), by decide +kernel⟩
theorem tw_885 : Cond.instanceMethod yX3_clashes ∈ wT := List.mem_filter.mpr ⟨List.mem_of_getElem? (i := 885) (by decide +kernel), by decide +kernel⟩
theorem tw_886 : Cond.selects (yX3_clashes).cls yX3_clashes yX3_clashes ∈ wT := List.mem_filter.mpr ⟨List.mem_of_getElem? (i := 886) (by decide +kernel), by decide +kernel⟩
theorem tw_887 : Cond.code yX3_clashes cX3_clashes 4 (some .int) ∈ wT := List.mem_filter.mpr ⟨List.mem_of_getElem? (i := 887) (by decide +kernel), by decide +kernel⟩
theorem tw_888 : Cond.methodLink RX3 66 yX3_clashesBelow ∈ wT := List.mem_filter.mpr ⟨List.mem_of_getElem? (i := 888) (by decide +kernel), by decide +kernel⟩
theorem tw_890 : Cond.instanceMethod yX3_clashesBelow ∈ wT := List.mem_filter.mpr ⟨List.mem_of_getElem? (i := 890) (by decide +kernel), by decide +kernel⟩
theorem tw_891 : Cond.code yX3_clashesBelow cX3_clashesBelow 5 (some .int) ∈ wT := List.mem_filter.mpr ⟨List.mem_of_getElem? (i := 891) (by decide +kernel), by decide +kernel⟩
theorem tw_896 : Cond.methodLink RX11 167 yX3_isThere ∈ wT := List.mem_filter.mpr ⟨List.mem_of_getElem? (i := 896) (by decide +kernel), by decide +kernel⟩
theorem tw_897 : Cond.instanceMethod yX3_isThere ∈ wT := List.mem_filter.mpr ⟨List.mem_of_getElem? (i := 897) (by decide +kernel), by decide +kernel⟩
theorem tw_898 : Cond.selects (yX3_isThere).cls yX3_isThere yX3_isThere ∈ wT := List.mem_filter.mpr ⟨List.mem_of_getElem? (i := 898) (by decide +kernel), by decide +kernel⟩
theorem tw_899 : Cond.code yX3_isThere cX3_isThere 3 (some .boolean) ∈ wT := List.mem_filter.mpr ⟨List.mem_of_getElem? (i := 899) (by decide +kernel), by decide +kernel⟩
theorem tw_900 : Cond.methodLink RX11 171 yX3_letterOf ∈ wT := List.mem_filter.mpr ⟨List.mem_of_getElem? (i := 900) (by decide +kernel), by decide +kernel⟩
theorem tw_901 : Cond.instanceMethod yX3_letterOf ∈ wT := List.mem_filter.mpr ⟨List.mem_of_getElem? (i := 901) (by decide +kernel), by decide +kernel⟩
theorem tw_902 : Cond.selects (yX3_letterOf).cls yX3_letterOf yX3_letterOf ∈ wT := List.mem_filter.mpr ⟨List.mem_of_getElem? (i := 902) (by decide +kernel), by decide +kernel⟩
theorem tw_903 : Cond.code yX3_letterOf cX3_letterOf 7 (some .int) ∈ wT := List.mem_filter.mpr ⟨List.mem_of_getElem? (i := 903) (by decide +kernel), by decide +kernel⟩
theorem tw_904 : Cond.methodLink RX3 58 yX3_isThere ∈ wT := List.mem_filter.mpr ⟨List.mem_of_getElem? (i := 904) (by decide +kernel), by decide +kernel⟩
theorem tw_909 : Cond.methodLink RX11 175 yX3_traitOf ∈ wT := List.mem_filter.mpr ⟨List.mem_of_getElem? (i := 909) (by decide +kernel), by decide +kernel⟩
theorem tw_910 : Cond.instanceMethod yX3_traitOf ∈ wT := List.mem_filter.mpr ⟨List.mem_of_getElem? (i := 910) (by decide +kernel), by decide +kernel⟩
theorem tw_911 : Cond.selects (yX3_traitOf).cls yX3_traitOf yX3_traitOf ∈ wT := List.mem_filter.mpr ⟨List.mem_of_getElem? (i := 911) (by decide +kernel), by decide +kernel⟩
theorem tw_912 : Cond.code yX3_traitOf cX3_traitOf 5 (some .int) ∈ wT := List.mem_filter.mpr ⟨List.mem_of_getElem? (i := 912) (by decide +kernel), by decide +kernel⟩
theorem tw_913 : Cond.methodLink RX11 178 yX3_isLate ∈ wT := List.mem_filter.mpr ⟨List.mem_of_getElem? (i := 913) (by decide +kernel), by decide +kernel⟩
theorem tw_914 : Cond.methodLink RX11 184 yX7_placeOf ∈ wT := List.mem_filter.mpr ⟨List.mem_of_getElem? (i := 914) (by decide +kernel), by decide +kernel⟩
theorem tw_915 : Cond.instanceMethod yX7_placeOf ∈ wT := List.mem_filter.mpr ⟨List.mem_of_getElem? (i := 915) (by decide +kernel), by decide +kernel⟩
theorem tw_916 : Cond.selects (yX7_placeOf).cls yX7_placeOf yX7_placeOf ∈ wT := List.mem_filter.mpr ⟨List.mem_of_getElem? (i := 916) (by decide +kernel), by decide +kernel⟩
theorem tw_917 : Cond.code yX7_placeOf cX7_placeOf 4 (some .int) ∈ wT := List.mem_filter.mpr ⟨List.mem_of_getElem? (i := 917) (by decide +kernel), by decide +kernel⟩
theorem tw_918 : Cond.methodLink RX11 187 yX1_sit ∈ wT := List.mem_filter.mpr ⟨List.mem_of_getElem? (i := 918) (by decide +kernel), by decide +kernel⟩
theorem tw_919 : Cond.instanceMethod yX1_sit ∈ wT := List.mem_filter.mpr ⟨List.mem_of_getElem? (i := 919) (by decide +kernel), by decide +kernel⟩
theorem tw_920 : Cond.selects (yX1_sit).cls yX1_sit yX1_sit ∈ wT := List.mem_filter.mpr ⟨List.mem_of_getElem? (i := 920) (by decide +kernel), by decide +kernel⟩
theorem tw_921 : Cond.code yX1_sit cX1_sit 5 none ∈ wT := List.mem_filter.mpr ⟨List.mem_of_getElem? (i := 921) (by decide +kernel), by decide +kernel⟩
theorem tw_923 : Cond.methodLink RX1 47 yJ7_fill_53178 ∈ wT := List.mem_filter.mpr ⟨List.mem_of_getElem? (i := 923) (by decide +kernel), by decide +kernel⟩
theorem tw_924 : Cond.methodLink RX1 58 yX1_putPerson ∈ wT := List.mem_filter.mpr ⟨List.mem_of_getElem? (i := 924) (by decide +kernel), by decide +kernel⟩
theorem tw_926 : Cond.instanceMethod yX1_putPerson ∈ wT := List.mem_filter.mpr ⟨List.mem_of_getElem? (i := 926) (by decide +kernel), by decide +kernel⟩
theorem tw_927 : Cond.code yX1_putPerson cX1_putPerson 2 none ∈ wT := List.mem_filter.mpr ⟨List.mem_of_getElem? (i := 927) (by decide +kernel), by decide +kernel⟩
theorem tw_928 : Cond.methodLink RX1 77 yX8_put ∈ wT := List.mem_filter.mpr ⟨List.mem_of_getElem? (i := 928) (by decide +kernel), by decide +kernel⟩
theorem tw_929 : Cond.instanceMethod yX8_put ∈ wT := List.mem_filter.mpr ⟨List.mem_of_getElem? (i := 929) (by decide +kernel), by decide +kernel⟩
theorem tw_930 : Cond.selects (yX8_put).cls yX8_put yX8_put ∈ wT := List.mem_filter.mpr ⟨List.mem_of_getElem? (i := 930) (by decide +kernel), by decide +kernel⟩
theorem tw_931 : Cond.code yX8_put cX8_put 4 none ∈ wT := List.mem_filter.mpr ⟨List.mem_of_getElem? (i := 931) (by decide +kernel), by decide +kernel⟩
theorem tw_932 : Cond.methodLink RX1 84 yX3_isLate ∈ wT := List.mem_filter.mpr ⟨List.mem_of_getElem? (i := 932) (by decide +kernel), by decide +kernel⟩
theorem tw_933 : Cond.methodLink RX1 62 yX3_hasCode ∈ wT := List.mem_filter.mpr ⟨List.mem_of_getElem? (i := 933) (by decide +kernel), by decide +kernel⟩
theorem tw_934 : Cond.methodLink RX1 66 yX8_workOut ∈ wT := List.mem_filter.mpr ⟨List.mem_of_getElem? (i := 934) (by decide +kernel), by decide +kernel⟩
theorem tw_935 : Cond.instanceMethod yX8_workOut ∈ wT := List.mem_filter.mpr ⟨List.mem_of_getElem? (i := 935) (by decide +kernel), by decide +kernel⟩
theorem tw_936 : Cond.selects (yX8_workOut).cls yX8_workOut yX8_workOut ∈ wT := List.mem_filter.mpr ⟨List.mem_of_getElem? (i := 936) (by decide +kernel), by decide +kernel⟩
theorem tw_937 : Cond.code yX8_workOut cX8_workOut 7 (some .int) ∈ wT := List.mem_filter.mpr ⟨List.mem_of_getElem? (i := 937) (by decide +kernel), by decide +kernel⟩
theorem tw_938 : Cond.methodLink RX8 17 yX3_hasCode ∈ wT := List.mem_filter.mpr ⟨List.mem_of_getElem? (i := 938) (by decide +kernel), by decide +kernel⟩
theorem tw_939 : Cond.methodLink RX8 32 yX8_join ∈ wT := List.mem_filter.mpr ⟨List.mem_of_getElem? (i := 939) (by decide +kernel), by decide +kernel⟩
theorem tw_940 : Cond.static yX8_join ∈ wT := List.mem_filter.mpr ⟨List.mem_of_getElem? (i := 940) (by decide +kernel), by decide +kernel⟩
theorem tw_941 : Cond.code yX8_join cX8_join 5 (some .long) ∈ wT := List.mem_filter.mpr ⟨List.mem_of_getElem? (i := 941) (by decide +kernel), by decide +kernel⟩
theorem tw_942 : Cond.methodLink RX8 36 yX8_within ∈ wT := List.mem_filter.mpr ⟨List.mem_of_getElem? (i := 942) (by decide +kernel), by decide +kernel⟩
theorem tw_943 : Cond.static yX8_within ∈ wT := List.mem_filter.mpr ⟨List.mem_of_getElem? (i := 943) (by decide +kernel), by decide +kernel⟩
theorem tw_944 : Cond.code yX8_within cX8_within 2 (some .long) ∈ wT := List.mem_filter.mpr ⟨List.mem_of_getElem? (i := 944) (by decide +kernel), by decide +kernel⟩
theorem tw_947 : Cond.methodLink RX11 191 yX1_isCounting ∈ wT := List.mem_filter.mpr ⟨List.mem_of_getElem? (i := 947) (by decide +kernel), by decide +kernel⟩
theorem tw_948 : Cond.instanceMethod yX1_isCounting ∈ wT := List.mem_filter.mpr ⟨List.mem_of_getElem? (i := 948) (by decide +kernel), by decide +kernel⟩
theorem tw_949 : Cond.selects (yX1_isCounting).cls yX1_isCounting yX1_isCounting ∈ wT := List.mem_filter.mpr ⟨List.mem_of_getElem? (i := 949) (by decide +kernel), by decide +kernel⟩
theorem tw_950 : Cond.code yX1_isCounting cX1_isCounting 2 (some .boolean) ∈ wT := List.mem_filter.mpr ⟨List.mem_of_getElem? (i := 950) (by decide +kernel), by decide +kernel⟩
theorem tw_959 : Cond.methodLink RX11 197 yJ6_bitCount_0f7a4 ∈ wT := List.mem_filter.mpr ⟨List.mem_of_getElem? (i := 959) (by decide +kernel), by decide +kernel⟩
theorem tw_960 : Cond.static yJ6_bitCount_0f7a4 ∈ wT := List.mem_filter.mpr ⟨List.mem_of_getElem? (i := 960) (by decide +kernel), by decide +kernel⟩
theorem tw_961 : Cond.code yJ6_bitCount_0f7a4 cJ6_bitCount_0f7a4 1 (some .int) ∈ wT := List.mem_filter.mpr ⟨List.mem_of_getElem? (i := 961) (by decide +kernel), by decide +kernel⟩
theorem tw_969 : Cond.methodLink RX11 202 yX11_areThere ∈ wT := List.mem_filter.mpr ⟨List.mem_of_getElem? (i := 969) (by decide +kernel), by decide +kernel⟩
theorem tw_971 : Cond.instanceMethod yX11_areThere ∈ wT := List.mem_filter.mpr ⟨List.mem_of_getElem? (i := 971) (by decide +kernel), by decide +kernel⟩
theorem tw_972 : Cond.code yX11_areThere cX11_areThere 3 (some .boolean) ∈ wT := List.mem_filter.mpr ⟨List.mem_of_getElem? (i := 972) (by decide +kernel), by decide +kernel⟩
theorem tw_974 : Cond.methodLink RX11 207 yX1_scoreOf ∈ wT := List.mem_filter.mpr ⟨List.mem_of_getElem? (i := 974) (by decide +kernel), by decide +kernel⟩
theorem tw_975 : Cond.instanceMethod yX1_scoreOf ∈ wT := List.mem_filter.mpr ⟨List.mem_of_getElem? (i := 975) (by decide +kernel), by decide +kernel⟩
theorem tw_976 : Cond.selects (yX1_scoreOf).cls yX1_scoreOf yX1_scoreOf ∈ wT := List.mem_filter.mpr ⟨List.mem_of_getElem? (i := 976) (by decide +kernel), by decide +kernel⟩
theorem tw_977 : Cond.code yX1_scoreOf cX1_scoreOf 6 (some .int) ∈ wT := List.mem_filter.mpr ⟨List.mem_of_getElem? (i := 977) (by decide +kernel), by decide +kernel⟩
theorem tw_978 : Cond.methodLink RX1 88 yX3_traitOf ∈ wT := List.mem_filter.mpr ⟨List.mem_of_getElem? (i := 978) (by decide +kernel), by decide +kernel⟩
theorem tw_979 : Cond.methodLink RX1 92 yX3_matchOf ∈ wT := List.mem_filter.mpr ⟨List.mem_of_getElem? (i := 979) (by decide +kernel), by decide +kernel⟩
theorem tw_980 : Cond.instanceMethod yX3_matchOf ∈ wT := List.mem_filter.mpr ⟨List.mem_of_getElem? (i := 980) (by decide +kernel), by decide +kernel⟩
theorem tw_981 : Cond.selects (yX3_matchOf).cls yX3_matchOf yX3_matchOf ∈ wT := List.mem_filter.mpr ⟨List.mem_of_getElem? (i := 981) (by decide +kernel), by decide +kernel⟩
theorem tw_982 : Cond.code yX3_matchOf cX3_matchOf 9 (some .int) ∈ wT := List.mem_filter.mpr ⟨List.mem_of_getElem? (i := 982) (by decide +kernel), by decide +kernel⟩
theorem tw_983 : Cond.methodLink RX3 62 yX3_traitOf ∈ wT := List.mem_filter.mpr ⟨List.mem_of_getElem? (i := 983) (by decide +kernel), by decide +kernel⟩
theorem tw_984 : Cond.methodLink RX1 96 yX7_wornBy ∈ wT := List.mem_filter.mpr ⟨List.mem_of_getElem? (i := 984) (by decide +kernel), by decide +kernel⟩
theorem tw_989 : Cond.methodLink RX11 210 yX1_wordOf ∈ wT := List.mem_filter.mpr ⟨List.mem_of_getElem? (i := 989) (by decide +kernel), by decide +kernel⟩
theorem tw_990 : Cond.instanceMethod yX1_wordOf ∈ wT := List.mem_filter.mpr ⟨List.mem_of_getElem? (i := 990) (by decide +kernel), by decide +kernel⟩
theorem tw_991 : Cond.selects (yX1_wordOf).cls yX1_wordOf yX1_wordOf ∈ wT := List.mem_filter.mpr ⟨List.mem_of_getElem? (i := 991) (by decide +kernel), by decide +kernel⟩
theorem tw_992 : Cond.code yX1_wordOf cX1_wordOf 6 (some .int) ∈ wT := List.mem_filter.mpr ⟨List.mem_of_getElem? (i := 992) (by decide +kernel), by decide +kernel⟩
theorem tw_993 : Cond.methodLink RX1 100 yX1_scoreOf ∈ wT := List.mem_filter.mpr ⟨List.mem_of_getElem? (i := 993) (by decide +kernel), by decide +kernel⟩
theorem tw_998 : Cond.methodLink RX11 216 yX3_everybody ∈ wT := List.mem_filter.mpr ⟨List.mem_of_getElem? (i := 998) (by decide +kernel), by decide +kernel⟩
theorem tw_999 : Cond.instanceMethod yX3_everybody ∈ wT := List.mem_filter.mpr ⟨List.mem_of_getElem? (i := 999) (by decide +kernel), by decide +kernel⟩
theorem tw_1000 : Cond.selects (yX3_everybody).cls yX3_everybody yX3_everybody ∈ wT := List.mem_filter.mpr ⟨List.mem_of_getElem? (i := 1000) (by decide +kernel), by decide +kernel⟩
theorem tw_1001 : Cond.code yX3_everybody cX3_everybody 1 (some .int) ∈ wT := List.mem_filter.mpr ⟨List.mem_of_getElem? (i := 1001) (by decide +kernel), by decide +kernel⟩
theorem tw_1002 : Cond.methodLink RX11 220 yX1_ask ∈ wT := List.mem_filter.mpr ⟨List.mem_of_getElem? (i := 1002) (by decide +kernel), by decide +kernel⟩
theorem tw_1003 : Cond.instanceMethod yX1_ask ∈ wT := List.mem_filter.mpr ⟨List.mem_of_getElem? (i := 1003) (by decide +kernel), by decide +kernel⟩
theorem tw_1004 : Cond.selects (yX1_ask).cls yX1_ask yX1_ask ∈ wT := List.mem_filter.mpr ⟨List.mem_of_getElem? (i := 1004) (by decide +kernel), by decide +kernel⟩
theorem tw_1005 : Cond.code yX1_ask cX1_ask 6 (some .int) ∈ wT := List.mem_filter.mpr ⟨List.mem_of_getElem? (i := 1005) (by decide +kernel), by decide +kernel⟩
theorem tw_1006 : Cond.methodLink RX1 103 yX1_wordOf ∈ wT := List.mem_filter.mpr ⟨List.mem_of_getElem? (i := 1006) (by decide +kernel), by decide +kernel⟩
theorem tw_1007 : Cond.methodLink RX1 106 yX1_isCounting ∈ wT := List.mem_filter.mpr ⟨List.mem_of_getElem? (i := 1007) (by decide +kernel), by decide +kernel⟩
theorem tw_1008 : Cond.methodLink RX11 224 yX1_votesFor ∈ wT := List.mem_filter.mpr ⟨List.mem_of_getElem? (i := 1008) (by decide +kernel), by decide +kernel⟩
theorem tw_1009 : Cond.instanceMethod yX1_votesFor ∈ wT := List.mem_filter.mpr ⟨List.mem_of_getElem? (i := 1009) (by decide +kernel), by decide +kernel⟩
theorem tw_1010 : Cond.selects (yX1_votesFor).cls yX1_votesFor yX1_votesFor ∈ wT := List.mem_filter.mpr ⟨List.mem_of_getElem? (i := 1010) (by decide +kernel), by decide +kernel⟩
theorem tw_1011 : Cond.code yX1_votesFor cX1_votesFor 2 (some .int) ∈ wT := List.mem_filter.mpr ⟨List.mem_of_getElem? (i := 1011) (by decide +kernel), by decide +kernel⟩
theorem tw_1016 : Cond.methodLink RX11 227 yX11_canPass ∈ wT := List.mem_filter.mpr ⟨List.mem_of_getElem? (i := 1016) (by decide +kernel), by decide +kernel⟩
theorem tw_1018 : Cond.instanceMethod yX11_canPass ∈ wT := List.mem_filter.mpr ⟨List.mem_of_getElem? (i := 1018) (by decide +kernel), by decide +kernel⟩
theorem tw_1019 : Cond.code yX11_canPass cX11_canPass 2 (some .boolean) ∈ wT := List.mem_filter.mpr ⟨List.mem_of_getElem? (i := 1019) (by decide +kernel), by decide +kernel⟩
theorem tw_1020 : Cond.methodLink RX11 230 yX11_lookAhead ∈ wT := List.mem_filter.mpr ⟨List.mem_of_getElem? (i := 1020) (by decide +kernel), by decide +kernel⟩
theorem tw_1022 : Cond.instanceMethod yX11_lookAhead ∈ wT := List.mem_filter.mpr ⟨List.mem_of_getElem? (i := 1022) (by decide +kernel), by decide +kernel⟩
theorem tw_1023 : Cond.code yX11_lookAhead cX11_lookAhead 3 none ∈ wT := List.mem_filter.mpr ⟨List.mem_of_getElem? (i := 1023) (by decide +kernel), by decide +kernel⟩
theorem tw_1024 : Cond.methodLink RX11 308 yX7_take ∈ wT := List.mem_filter.mpr ⟨List.mem_of_getElem? (i := 1024) (by decide +kernel), by decide +kernel⟩
theorem tw_1025 : Cond.instanceMethod yX7_take ∈ wT := List.mem_filter.mpr ⟨List.mem_of_getElem? (i := 1025) (by decide +kernel), by decide +kernel⟩
theorem tw_1026 : Cond.selects (yX7_take).cls yX7_take yX7_take ∈ wT := List.mem_filter.mpr ⟨List.mem_of_getElem? (i := 1026) (by decide +kernel), by decide +kernel⟩
theorem tw_1027 : Cond.code yX7_take cX7_take 2 none ∈ wT := List.mem_filter.mpr ⟨List.mem_of_getElem? (i := 1027) (by decide +kernel), by decide +kernel⟩
theorem tw_1028 : Cond.methodLink RX7 42 arraycopyName ∈ wT := List.mem_filter.mpr ⟨List.mem_of_getElem? (i := 1028) (by decide +kernel), by decide +kernel⟩
theorem tw_1029 : Cond.static arraycopyName ∈ wT := List.mem_filter.mpr ⟨List.mem_of_getElem? (i := 1029) (by decide +kernel), by decide +kernel⟩
theorem tw_1030 : Cond.native arraycopyName ∈ wT := List.mem_filter.mpr ⟨List.mem_of_getElem? (i := 1030) (by decide +kernel), by decide +kernel⟩
theorem tw_1031 : Cond.methodLink RX11 278 yX0_pass ∈ wT := List.mem_filter.mpr ⟨List.mem_of_getElem? (i := 1031) (by decide +kernel), by decide +kernel⟩
theorem tw_1032 : Cond.instanceMethod yX0_pass ∈ wT := List.mem_filter.mpr ⟨List.mem_of_getElem? (i := 1032) (by decide +kernel), by decide +kernel⟩
theorem tw_1033 : Cond.selects (yX0_pass).cls yX0_pass yX0_pass ∈ wT := List.mem_filter.mpr ⟨List.mem_of_getElem? (i := 1033) (by decide +kernel), by decide +kernel⟩
theorem tw_1034 : Cond.code yX0_pass cX0_pass 10 (some .boolean) ∈ wT := List.mem_filter.mpr ⟨List.mem_of_getElem? (i := 1034) (by decide +kernel), by decide +kernel⟩
theorem tw_1035 : Cond.methodLink RX0 19 yX0_gift ∈ wT := List.mem_filter.mpr ⟨List.mem_of_getElem? (i := 1035) (by decide +kernel), by decide +kernel⟩
theorem tw_1037 : Cond.instanceMethod yX0_gift ∈ wT := List.mem_filter.mpr ⟨List.mem_of_getElem? (i := 1037) (by decide +kernel), by decide +kernel⟩
theorem tw_1038 : Cond.code yX0_gift cX0_gift 4 (some .int) ∈ wT := List.mem_filter.mpr ⟨List.mem_of_getElem? (i := 1038) (by decide +kernel), by decide +kernel⟩
theorem tw_1039 : Cond.methodLink RX0 62 yX3_hasCode ∈ wT := List.mem_filter.mpr ⟨List.mem_of_getElem? (i := 1039) (by decide +kernel), by decide +kernel⟩
theorem tw_1040 : Cond.methodLink RX0 68 yX8_put ∈ wT := List.mem_filter.mpr ⟨List.mem_of_getElem? (i := 1040) (by decide +kernel), by decide +kernel⟩
theorem tw_1041 : Cond.methodLink RX0 72 yX7_wornBy ∈ wT := List.mem_filter.mpr ⟨List.mem_of_getElem? (i := 1041) (by decide +kernel), by decide +kernel⟩
theorem tw_1042 : Cond.methodLink RX0 76 yX8_workOut ∈ wT := List.mem_filter.mpr ⟨List.mem_of_getElem? (i := 1042) (by decide +kernel), by decide +kernel⟩
theorem tw_1043 : Cond.methodLink RX0 38 yX3_everybody ∈ wT := List.mem_filter.mpr ⟨List.mem_of_getElem? (i := 1043) (by decide +kernel), by decide +kernel⟩
theorem tw_1044 : Cond.methodLink RX0 42 yX1_sit ∈ wT := List.mem_filter.mpr ⟨List.mem_of_getElem? (i := 1044) (by decide +kernel), by decide +kernel⟩
theorem tw_1045 : Cond.methodLink RX0 51 yX1_ask ∈ wT := List.mem_filter.mpr ⟨List.mem_of_getElem? (i := 1045) (by decide +kernel), by decide +kernel⟩
theorem tw_1046 : Cond.methodLink RX0 55 yX0_paintIfPaid ∈ wT := List.mem_filter.mpr ⟨List.mem_of_getElem? (i := 1046) (by decide +kernel), by decide +kernel⟩
theorem tw_1047 : Cond.static yX0_paintIfPaid ∈ wT := List.mem_filter.mpr ⟨List.mem_of_getElem? (i := 1047) (by decide +kernel), by decide +kernel⟩
theorem tw_1048 : Cond.code yX0_paintIfPaid cX0_paintIfPaid 5 (some .boolean) ∈ wT := List.mem_filter.mpr ⟨List.mem_of_getElem? (i := 1048) (by decide +kernel), by decide +kernel⟩
theorem tw_1049 : Cond.methodLink RX0 80 yX3_traitOf ∈ wT := List.mem_filter.mpr ⟨List.mem_of_getElem? (i := 1049) (by decide +kernel), by decide +kernel⟩
theorem tw_1050 : Cond.methodLink RX0 87 yX7_keep ∈ wT := List.mem_filter.mpr ⟨List.mem_of_getElem? (i := 1050) (by decide +kernel), by decide +kernel⟩
theorem tw_1051 : Cond.instanceMethod yX7_keep ∈ wT := List.mem_filter.mpr ⟨List.mem_of_getElem? (i := 1051) (by decide +kernel), by decide +kernel⟩
theorem tw_1052 : Cond.selects (yX7_keep).cls yX7_keep yX7_keep ∈ wT := List.mem_filter.mpr ⟨List.mem_of_getElem? (i := 1052) (by decide +kernel), by decide +kernel⟩
theorem tw_1053 : Cond.code yX7_keep cX7_keep 3 none ∈ wT := List.mem_filter.mpr ⟨List.mem_of_getElem? (i := 1053) (by decide +kernel), by decide +kernel⟩
theorem tw_1054 : Cond.methodLink RX0 59 yX0_changeMoods ∈ wT := List.mem_filter.mpr ⟨List.mem_of_getElem? (i := 1054) (by decide +kernel), by decide +kernel⟩
theorem tw_1056 : Cond.instanceMethod yX0_changeMoods ∈ wT := List.mem_filter.mpr ⟨List.mem_of_getElem? (i := 1056) (by decide +kernel), by decide +kernel⟩
theorem tw_1057 : Cond.code yX0_changeMoods cX0_changeMoods 6 none ∈ wT := List.mem_filter.mpr ⟨List.mem_of_getElem? (i := 1057) (by decide +kernel), by decide +kernel⟩
theorem tw_1058 : Cond.methodLink RX0 93 yX1_saidBy ∈ wT := List.mem_filter.mpr ⟨List.mem_of_getElem? (i := 1058) (by decide +kernel), by decide +kernel⟩
theorem tw_1059 : Cond.instanceMethod yX1_saidBy ∈ wT := List.mem_filter.mpr ⟨List.mem_of_getElem? (i := 1059) (by decide +kernel), by decide +kernel⟩
theorem tw_1060 : Cond.selects (yX1_saidBy).cls yX1_saidBy yX1_saidBy ∈ wT := List.mem_filter.mpr ⟨List.mem_of_getElem? (i := 1060) (by decide +kernel), by decide +kernel⟩
theorem tw_1061 : Cond.code yX1_saidBy cX1_saidBy 2 (some .int) ∈ wT := List.mem_filter.mpr ⟨List.mem_of_getElem? (i := 1061) (by decide +kernel), by decide +kernel⟩
theorem tw_1074 : Cond.methodLink RX11 233 yX1_firstOrder ∈ wT := List.mem_filter.mpr ⟨List.mem_of_getElem? (i := 1074) (by decide +kernel), by decide +kernel⟩
theorem tw_1075 : Cond.instanceMethod yX1_firstOrder ∈ wT := List.mem_filter.mpr ⟨List.mem_of_getElem? (i := 1075) (by decide +kernel), by decide +kernel⟩
theorem tw_1076 : Cond.selects (yX1_firstOrder).cls yX1_firstOrder yX1_firstOrder ∈ wT := List.mem_filter.mpr ⟨List.mem_of_getElem? (i := 1076) (by decide +kernel), by decide +kernel⟩
theorem tw_1077 : Cond.code yX1_firstOrder cX1_firstOrder 5 (some .boolean) ∈ wT := List.mem_filter.mpr ⟨List.mem_of_getElem? (i := 1077) (by decide +kernel), by decide +kernel⟩
theorem tw_1078 : Cond.methodLink RX1 109 yX1_beginOrders ∈ wT := List.mem_filter.mpr ⟨List.mem_of_getElem? (i := 1078) (by decide +kernel), by decide +kernel⟩
theorem tw_1080 : Cond.instanceMethod yX1_beginOrders ∈ wT := List.mem_filter.mpr ⟨List.mem_of_getElem? (i := 1080) (by decide +kernel), by decide +kernel⟩
theorem tw_1081 : Cond.code yX1_beginOrders cX1_beginOrders 4 (some .int) ∈ wT := List.mem_filter.mpr ⟨List.mem_of_getElem? (i := 1081) (by decide +kernel), by decide +kernel⟩
theorem tw_1082 : Cond.methodLink RX1 113 yX3_everybody ∈ wT := List.mem_filter.mpr ⟨List.mem_of_getElem? (i := 1082) (by decide +kernel), by decide +kernel⟩
theorem tw_1083 : Cond.methodLink RX1 117 yX1_ask ∈ wT := List.mem_filter.mpr ⟨List.mem_of_getElem? (i := 1083) (by decide +kernel), by decide +kernel⟩
theorem tw_1084 : Cond.methodLink RX1 121 yX1_nextOrder ∈ wT := List.mem_filter.mpr ⟨List.mem_of_getElem? (i := 1084) (by decide +kernel), by decide +kernel⟩
theorem tw_1086 : Cond.instanceMethod yX1_nextOrder ∈ wT := List.mem_filter.mpr ⟨List.mem_of_getElem? (i := 1086) (by decide +kernel), by decide +kernel⟩
theorem tw_1087 : Cond.code yX1_nextOrder cX1_nextOrder 7 none ∈ wT := List.mem_filter.mpr ⟨List.mem_of_getElem? (i := 1087) (by decide +kernel), by decide +kernel⟩
theorem tw_1088 : Cond.methodLink RX1 125 yX1_exchange ∈ wT := List.mem_filter.mpr ⟨List.mem_of_getElem? (i := 1088) (by decide +kernel), by decide +kernel⟩
theorem tw_1089 : Cond.static yX1_exchange ∈ wT := List.mem_filter.mpr ⟨List.mem_of_getElem? (i := 1089) (by decide +kernel), by decide +kernel⟩
theorem tw_1090 : Cond.code yX1_exchange cX1_exchange 4 none ∈ wT := List.mem_filter.mpr ⟨List.mem_of_getElem? (i := 1090) (by decide +kernel), by decide +kernel⟩
theorem tw_1095 : Cond.methodLink RX11 237 yX1_countOrders ∈ wT := List.mem_filter.mpr ⟨List.mem_of_getElem? (i := 1095) (by decide +kernel), by decide +kernel⟩
theorem tw_1096 : Cond.instanceMethod yX1_countOrders ∈ wT := List.mem_filter.mpr ⟨List.mem_of_getElem? (i := 1096) (by decide +kernel), by decide +kernel⟩
theorem tw_1097 : Cond.selects (yX1_countOrders).cls yX1_countOrders yX1_countOrders ∈ wT := List.mem_filter.mpr ⟨List.mem_of_getElem? (i := 1097) (by decide +kernel), by decide +kernel⟩
theorem tw_1098 : Cond.code yX1_countOrders cX1_countOrders 6 (some .int) ∈ wT := List.mem_filter.mpr ⟨List.mem_of_getElem? (i := 1098) (by decide +kernel), by decide +kernel⟩
theorem tw_1103 : Cond.methodLink RX11 240 yX1_powerOf ∈ wT := List.mem_filter.mpr ⟨List.mem_of_getElem? (i := 1103) (by decide +kernel), by decide +kernel⟩
theorem tw_1104 : Cond.instanceMethod yX1_powerOf ∈ wT := List.mem_filter.mpr ⟨List.mem_of_getElem? (i := 1104) (by decide +kernel), by decide +kernel⟩
theorem tw_1105 : Cond.selects (yX1_powerOf).cls yX1_powerOf yX1_powerOf ∈ wT := List.mem_filter.mpr ⟨List.mem_of_getElem? (i := 1105) (by decide +kernel), by decide +kernel⟩
theorem tw_1106 : Cond.code yX1_powerOf cX1_powerOf 4 (some .int) ∈ wT := List.mem_filter.mpr ⟨List.mem_of_getElem? (i := 1106) (by decide +kernel), by decide +kernel⟩
theorem tw_1111 : Cond.methodLink RX11 243 yX3_fewestToClear ∈ wT := List.mem_filter.mpr ⟨List.mem_of_getElem? (i := 1111) (by decide +kernel), by decide +kernel⟩
theorem tw_1112 : Cond.instanceMethod yX3_fewestToClear ∈ wT := List.mem_filter.mpr ⟨List.mem_of_getElem? (i := 1112) (by decide +kernel), by decide +kernel⟩
theorem tw_1113 : Cond.selects (yX3_fewestToClear).cls yX3_fewestToClear yX3_fewestToClear ∈ wT := List.mem_filter.mpr ⟨List.mem_of_getElem? (i := 1113) (by decide +kernel), by decide +kernel⟩
theorem tw_1114 : Cond.code yX3_fewestToClear cX3_fewestToClear 7 (some .int) ∈ wT := List.mem_filter.mpr ⟨List.mem_of_getElem? (i := 1114) (by decide +kernel), by decide +kernel⟩
theorem tw_1115 : Cond.methodLink RX3 70 yJ6_bitCount_0f7a4 ∈ wT := List.mem_filter.mpr ⟨List.mem_of_getElem? (i := 1115) (by decide +kernel), by decide +kernel⟩
theorem tw_1116 : Cond.methodLink RX3 76 arraycopyName ∈ wT := List.mem_filter.mpr ⟨List.mem_of_getElem? (i := 1116) (by decide +kernel), by decide +kernel⟩
theorem tw_1117 : Cond.methodLink RX3 82 yX3_canClear ∈ wT := List.mem_filter.mpr ⟨List.mem_of_getElem? (i := 1117) (by decide +kernel), by decide +kernel⟩
theorem tw_1118 : Cond.static yX3_canClear ∈ wT := List.mem_filter.mpr ⟨List.mem_of_getElem? (i := 1118) (by decide +kernel), by decide +kernel⟩
theorem tw_1119 : Cond.code yX3_canClear cX3_canClear 5 (some .boolean) ∈ wT := List.mem_filter.mpr ⟨List.mem_of_getElem? (i := 1119) (by decide +kernel), by decide +kernel⟩
theorem tw_1124 : Cond.methodLink RX11 247 yX1_oddsOf ∈ wT := List.mem_filter.mpr ⟨List.mem_of_getElem? (i := 1124) (by decide +kernel), by decide +kernel⟩
theorem tw_1125 : Cond.instanceMethod yX1_oddsOf ∈ wT := List.mem_filter.mpr ⟨List.mem_of_getElem? (i := 1125) (by decide +kernel), by decide +kernel⟩
theorem tw_1126 : Cond.selects (yX1_oddsOf).cls yX1_oddsOf yX1_oddsOf ∈ wT := List.mem_filter.mpr ⟨List.mem_of_getElem? (i := 1126) (by decide +kernel), by decide +kernel⟩
theorem tw_1127 : Cond.code yX1_oddsOf cX1_oddsOf 6 (some .int) ∈ wT := List.mem_filter.mpr ⟨List.mem_of_getElem? (i := 1127) (by decide +kernel), by decide +kernel⟩
theorem tw_1132 : Cond.methodLink RX11 250 yX2_take ∈ wT := List.mem_filter.mpr ⟨List.mem_of_getElem? (i := 1132) (by decide +kernel), by decide +kernel⟩
theorem tw_1133 : Cond.instanceMethod yX2_take ∈ wT := List.mem_filter.mpr ⟨List.mem_of_getElem? (i := 1133) (by decide +kernel), by decide +kernel⟩
theorem tw_1134 : Cond.selects (yX2_take).cls yX2_take yX2_take ∈ wT := List.mem_filter.mpr ⟨List.mem_of_getElem? (i := 1134) (by decide +kernel), by decide +kernel⟩
theorem tw_1135 : Cond.code yX2_take cX2_take 6 (some .boolean) ∈ wT := List.mem_filter.mpr ⟨List.mem_of_getElem? (i := 1135) (by decide +kernel), by decide +kernel⟩
theorem tw_1136 : Cond.methodLink RX2 51 yX9_byteAt ∈ wT := List.mem_filter.mpr ⟨List.mem_of_getElem? (i := 1136) (by decide +kernel), by decide +kernel⟩
theorem tw_1137 : Cond.methodLink RX2 57 yX3_isThere ∈ wT := List.mem_filter.mpr ⟨List.mem_of_getElem? (i := 1137) (by decide +kernel), by decide +kernel⟩
theorem tw_1142 : Cond.methodLink RX11 254 yX2_left ∈ wT := List.mem_filter.mpr ⟨List.mem_of_getElem? (i := 1142) (by decide +kernel), by decide +kernel⟩
theorem tw_1143 : Cond.instanceMethod yX2_left ∈ wT := List.mem_filter.mpr ⟨List.mem_of_getElem? (i := 1143) (by decide +kernel), by decide +kernel⟩
theorem tw_1144 : Cond.selects (yX2_left).cls yX2_left yX2_left ∈ wT := List.mem_filter.mpr ⟨List.mem_of_getElem? (i := 1144) (by decide +kernel), by decide +kernel⟩
theorem tw_1145 : Cond.code yX2_left cX2_left 9 (some .int) ∈ wT := List.mem_filter.mpr ⟨List.mem_of_getElem? (i := 1145) (by decide +kernel), by decide +kernel⟩
theorem tw_1146 : Cond.methodLink RX2 64 yX1_suppose ∈ wT := List.mem_filter.mpr ⟨List.mem_of_getElem? (i := 1146) (by decide +kernel), by decide +kernel⟩
theorem tw_1147 : Cond.instanceMethod yX1_suppose ∈ wT := List.mem_filter.mpr ⟨List.mem_of_getElem? (i := 1147) (by decide +kernel), by decide +kernel⟩
theorem tw_1148 : Cond.selects (yX1_suppose).cls yX1_suppose yX1_suppose ∈ wT := List.mem_filter.mpr ⟨List.mem_of_getElem? (i := 1148) (by decide +kernel), by decide +kernel⟩
theorem tw_1149 : Cond.code yX1_suppose cX1_suppose 3 none ∈ wT := List.mem_filter.mpr ⟨List.mem_of_getElem? (i := 1149) (by decide +kernel), by decide +kernel⟩
theorem tw_1150 : Cond.methodLink RX2 70 yX7_take ∈ wT := List.mem_filter.mpr ⟨List.mem_of_getElem? (i := 1150) (by decide +kernel), by decide +kernel⟩
theorem tw_1151 : Cond.methodLink RX2 74 yX2_agrees ∈ wT := List.mem_filter.mpr ⟨List.mem_of_getElem? (i := 1151) (by decide +kernel), by decide +kernel⟩
theorem tw_1153 : Cond.instanceMethod yX2_agrees ∈ wT := List.mem_filter.mpr ⟨List.mem_of_getElem? (i := 1153) (by decide +kernel), by decide +kernel⟩
theorem tw_1154 : Cond.code yX2_agrees cX2_agrees 4 (some .boolean) ∈ wT := List.mem_filter.mpr ⟨List.mem_of_getElem? (i := 1154) (by decide +kernel), by decide +kernel⟩
theorem tw_1155 : Cond.methodLink RX2 78 yX0_pass ∈ wT := List.mem_filter.mpr ⟨List.mem_of_getElem? (i := 1155) (by decide +kernel), by decide +kernel⟩
theorem tw_1160 : Cond.methodLink RX11 258 yX2_count ∈ wT := List.mem_filter.mpr ⟨List.mem_of_getElem? (i := 1160) (by decide +kernel), by decide +kernel⟩
theorem tw_1161 : Cond.instanceMethod yX2_count ∈ wT := List.mem_filter.mpr ⟨List.mem_of_getElem? (i := 1161) (by decide +kernel), by decide +kernel⟩
theorem tw_1162 : Cond.selects (yX2_count).cls yX2_count yX2_count ∈ wT := List.mem_filter.mpr ⟨List.mem_of_getElem? (i := 1162) (by decide +kernel), by decide +kernel⟩
theorem tw_1163 : Cond.code yX2_count cX2_count 8 none ∈ wT := List.mem_filter.mpr ⟨List.mem_of_getElem? (i := 1163) (by decide +kernel), by decide +kernel⟩
theorem tw_1164 : Cond.methodLink RX2 87 yJ7_fill_53178 ∈ wT := List.mem_filter.mpr ⟨List.mem_of_getElem? (i := 1164) (by decide +kernel), by decide +kernel⟩
theorem tw_1165 : Cond.methodLink RX2 96 yX2_slotOf ∈ wT := List.mem_filter.mpr ⟨List.mem_of_getElem? (i := 1165) (by decide +kernel), by decide +kernel⟩
theorem tw_1166 : Cond.static yX2_slotOf ∈ wT := List.mem_filter.mpr ⟨List.mem_of_getElem? (i := 1166) (by decide +kernel), by decide +kernel⟩
theorem tw_1167 : Cond.code yX2_slotOf cX2_slotOf 2 (some .int) ∈ wT := List.mem_filter.mpr ⟨List.mem_of_getElem? (i := 1167) (by decide +kernel), by decide +kernel⟩
theorem tw_1168 : Cond.methodLink RX11 261 yX2_findTelling ∈ wT := List.mem_filter.mpr ⟨List.mem_of_getElem? (i := 1168) (by decide +kernel), by decide +kernel⟩
theorem tw_1169 : Cond.instanceMethod yX2_findTelling ∈ wT := List.mem_filter.mpr ⟨List.mem_of_getElem? (i := 1169) (by decide +kernel), by decide +kernel⟩
theorem tw_1170 : Cond.selects (yX2_findTelling).cls yX2_findTelling yX2_findTelling ∈ wT := List.mem_filter.mpr ⟨List.mem_of_getElem? (i := 1170) (by decide +kernel), by decide +kernel⟩
theorem tw_1171 : Cond.code yX2_findTelling cX2_findTelling 8 none ∈ wT := List.mem_filter.mpr ⟨List.mem_of_getElem? (i := 1171) (by decide +kernel), by decide +kernel⟩
theorem tw_1176 : Cond.methodLink RX11 274 yX4_add ∈ wT := List.mem_filter.mpr ⟨List.mem_of_getElem? (i := 1176) (by decide +kernel), by decide +kernel⟩
theorem tw_1177 : Cond.instanceMethod yX4_add ∈ wT := List.mem_filter.mpr ⟨List.mem_of_getElem? (i := 1177) (by decide +kernel), by decide +kernel⟩
theorem tw_1178 : Cond.selects (yX4_add).cls yX4_add yX4_add ∈ wT := List.mem_filter.mpr ⟨List.mem_of_getElem? (i := 1178) (by decide +kernel), by decide +kernel⟩
theorem tw_1179 : Cond.code yX4_add cX4_add 2 none ∈ wT := List.mem_filter.mpr ⟨List.mem_of_getElem? (i := 1179) (by decide +kernel), by decide +kernel⟩
theorem tw_1180 : Cond.methodLink RX4 23 yX7_take ∈ wT := List.mem_filter.mpr ⟨List.mem_of_getElem? (i := 1180) (by decide +kernel), by decide +kernel⟩
theorem tw_1185 : Cond.methodLink RX11 282 yX11_draw ∈ wT := List.mem_filter.mpr ⟨List.mem_of_getElem? (i := 1185) (by decide +kernel), by decide +kernel⟩
theorem tw_1187 : Cond.instanceMethod yX11_draw ∈ wT := List.mem_filter.mpr ⟨List.mem_of_getElem? (i := 1187) (by decide +kernel), by decide +kernel⟩
theorem tw_1188 : Cond.code yX11_draw cX11_draw 2 (some .int) ∈ wT := List.mem_filter.mpr ⟨List.mem_of_getElem? (i := 1188) (by decide +kernel), by decide +kernel⟩
theorem tw_1208 : Cond.methodLink RX11 287 yX4_takeBack ∈ wT := List.mem_filter.mpr ⟨List.mem_of_getElem? (i := 1208) (by decide +kernel), by decide +kernel⟩
theorem tw_1209 : Cond.instanceMethod yX4_takeBack ∈ wT := List.mem_filter.mpr ⟨List.mem_of_getElem? (i := 1209) (by decide +kernel), by decide +kernel⟩
theorem tw_1210 : Cond.selects (yX4_takeBack).cls yX4_takeBack yX4_takeBack ∈ wT := List.mem_filter.mpr ⟨List.mem_of_getElem? (i := 1210) (by decide +kernel), by decide +kernel⟩
theorem tw_1211 : Cond.code yX4_takeBack cX4_takeBack 2 none ∈ wT := List.mem_filter.mpr ⟨List.mem_of_getElem? (i := 1211) (by decide +kernel), by decide +kernel⟩
theorem tw_1220 : Cond.methodLink RX11 290 yX7_keptOf ∈ wT := List.mem_filter.mpr ⟨List.mem_of_getElem? (i := 1220) (by decide +kernel), by decide +kernel⟩
theorem tw_1221 : Cond.instanceMethod yX7_keptOf ∈ wT := List.mem_filter.mpr ⟨List.mem_of_getElem? (i := 1221) (by decide +kernel), by decide +kernel⟩
theorem tw_1222 : Cond.selects (yX7_keptOf).cls yX7_keptOf yX7_keptOf ∈ wT := List.mem_filter.mpr ⟨List.mem_of_getElem? (i := 1222) (by decide +kernel), by decide +kernel⟩
theorem tw_1223 : Cond.code yX7_keptOf cX7_keptOf 3 (some .int) ∈ wT := List.mem_filter.mpr ⟨List.mem_of_getElem? (i := 1223) (by decide +kernel), by decide +kernel⟩
theorem tw_1228 : Cond.methodLink RX11 293 yX5_write ∈ wT := List.mem_filter.mpr ⟨List.mem_of_getElem? (i := 1228) (by decide +kernel), by decide +kernel⟩
theorem tw_1229 : Cond.instanceMethod yX5_write ∈ wT := List.mem_filter.mpr ⟨List.mem_of_getElem? (i := 1229) (by decide +kernel), by decide +kernel⟩
theorem tw_1230 : Cond.selects (yX5_write).cls yX5_write yX5_write ∈ wT := List.mem_filter.mpr ⟨List.mem_of_getElem? (i := 1230) (by decide +kernel), by decide +kernel⟩
theorem tw_1231 : Cond.code yX5_write cX5_write 6 none ∈ wT := List.mem_filter.mpr ⟨List.mem_of_getElem? (i := 1231) (by decide +kernel), by decide +kernel⟩
theorem tw_1232 : Cond.methodLink RX5 24 yX5_add ∈ wT := List.mem_filter.mpr ⟨List.mem_of_getElem? (i := 1232) (by decide +kernel), by decide +kernel⟩
theorem tw_1234 : Cond.instanceMethod yX5_add ∈ wT := List.mem_filter.mpr ⟨List.mem_of_getElem? (i := 1234) (by decide +kernel), by decide +kernel⟩
theorem tw_1235 : Cond.code yX5_add cX5_add 2 none ∈ wT := List.mem_filter.mpr ⟨List.mem_of_getElem? (i := 1235) (by decide +kernel), by decide +kernel⟩
theorem tw_1240 : Cond.methodLink RX11 298 yX5_byteAt ∈ wT := List.mem_filter.mpr ⟨List.mem_of_getElem? (i := 1240) (by decide +kernel), by decide +kernel⟩
theorem tw_1241 : Cond.instanceMethod yX5_byteAt ∈ wT := List.mem_filter.mpr ⟨List.mem_of_getElem? (i := 1241) (by decide +kernel), by decide +kernel⟩
theorem tw_1242 : Cond.selects (yX5_byteAt).cls yX5_byteAt yX5_byteAt ∈ wT := List.mem_filter.mpr ⟨List.mem_of_getElem? (i := 1242) (by decide +kernel), by decide +kernel⟩
theorem tw_1243 : Cond.code yX5_byteAt cX5_byteAt 2 (some .int) ∈ wT := List.mem_filter.mpr ⟨List.mem_of_getElem? (i := 1243) (by decide +kernel), by decide +kernel⟩
theorem tw_1248 : Cond.methodLink RX11 301 yX5_fits ∈ wT := List.mem_filter.mpr ⟨List.mem_of_getElem? (i := 1248) (by decide +kernel), by decide +kernel⟩
theorem tw_1249 : Cond.static yX5_fits ∈ wT := List.mem_filter.mpr ⟨List.mem_of_getElem? (i := 1249) (by decide +kernel), by decide +kernel⟩
theorem tw_1250 : Cond.code yX5_fits cX5_fits 7 (some .boolean) ∈ wT := List.mem_filter.mpr ⟨List.mem_of_getElem? (i := 1250) (by decide +kernel), by decide +kernel⟩
theorem tw_1251 : Cond.methodLink RX5 48 yX5_isChecked ∈ wT := List.mem_filter.mpr ⟨List.mem_of_getElem? (i := 1251) (by decide +kernel), by decide +kernel⟩
theorem tw_1252 : Cond.static yX5_isChecked ∈ wT := List.mem_filter.mpr ⟨List.mem_of_getElem? (i := 1252) (by decide +kernel), by decide +kernel⟩
theorem tw_1253 : Cond.code yX5_isChecked cX5_isChecked 3 (some .boolean) ∈ wT := List.mem_filter.mpr ⟨List.mem_of_getElem? (i := 1253) (by decide +kernel), by decide +kernel⟩
theorem tw_1254 : Cond.methodLink RX5 56 yX9_byteAt ∈ wT := List.mem_filter.mpr ⟨List.mem_of_getElem? (i := 1254) (by decide +kernel), by decide +kernel⟩
theorem tw_1255 : Cond.methodLink RX5 52 yX5_pairAt ∈ wT := List.mem_filter.mpr ⟨List.mem_of_getElem? (i := 1255) (by decide +kernel), by decide +kernel⟩
theorem tw_1256 : Cond.static yX5_pairAt ∈ wT := List.mem_filter.mpr ⟨List.mem_of_getElem? (i := 1256) (by decide +kernel), by decide +kernel⟩
theorem tw_1257 : Cond.code yX5_pairAt cX5_pairAt 2 (some .int) ∈ wT := List.mem_filter.mpr ⟨List.mem_of_getElem? (i := 1257) (by decide +kernel), by decide +kernel⟩
theorem tw_1258 : Cond.methodLink RX5 60 yX3_isThere ∈ wT := List.mem_filter.mpr ⟨List.mem_of_getElem? (i := 1258) (by decide +kernel), by decide +kernel⟩
theorem tw_1259 : Cond.methodLink RX5 64 yX3_everybody ∈ wT := List.mem_filter.mpr ⟨List.mem_of_getElem? (i := 1259) (by decide +kernel), by decide +kernel⟩
theorem tw_1260 : Cond.methodLink RX11 304 yX5_show ∈ wT := List.mem_filter.mpr ⟨List.mem_of_getElem? (i := 1260) (by decide +kernel), by decide +kernel⟩
theorem tw_1261 : Cond.static yX5_show ∈ wT := List.mem_filter.mpr ⟨List.mem_of_getElem? (i := 1261) (by decide +kernel), by decide +kernel⟩
theorem tw_1262 : Cond.code yX5_show cX5_show 6 none ∈ wT := List.mem_filter.mpr ⟨List.mem_of_getElem? (i := 1262) (by decide +kernel), by decide +kernel⟩
theorem tw_1272 : Cond.methodLink RX12 1 objectInit ∈ wT := List.mem_filter.mpr ⟨List.mem_of_getElem? (i := 1272) (by decide +kernel), by decide +kernel⟩
theorem tw_1273 : Cond.fieldLink RX12 7 RX12 (TX12 0).2.1 (TX12 0).2.2.1 ∈ wT := List.mem_filter.mpr ⟨List.mem_of_getElem? (i := 1273) (by decide +kernel), by decide +kernel⟩
theorem tw_1274 : Cond.fieldLink RX12 13 RX12 (TX12 1).2.1 (TX12 1).2.2.1 ∈ wT := List.mem_filter.mpr ⟨List.mem_of_getElem? (i := 1274) (by decide +kernel), by decide +kernel⟩
theorem tw_1275 : Cond.fieldLink RX12 17 RX12 (TX12 2).2.1 (TX12 2).2.2.1 ∈ wT := List.mem_filter.mpr ⟨List.mem_of_getElem? (i := 1275) (by decide +kernel), by decide +kernel⟩
theorem tw_1276 : Cond.fieldLink RX12 20 RX12 (TX12 3).2.1 (TX12 3).2.2.1 ∈ wT := List.mem_filter.mpr ⟨List.mem_of_getElem? (i := 1276) (by decide +kernel), by decide +kernel⟩
theorem tw_1277 : Cond.fieldLink RX12 23 RX12 (TX12 4).2.1 (TX12 4).2.2.1 ∈ wT := List.mem_filter.mpr ⟨List.mem_of_getElem? (i := 1277) (by decide +kernel), by decide +kernel⟩
theorem tw_1278 : Cond.fieldLink RX12 26 RX12 (TX12 5).2.1 (TX12 5).2.2.1 ∈ wT := List.mem_filter.mpr ⟨List.mem_of_getElem? (i := 1278) (by decide +kernel), by decide +kernel⟩
theorem tw_1279 : Cond.fieldLink RX12 29 RX12 (TX12 6).2.1 (TX12 6).2.2.1 ∈ wT := List.mem_filter.mpr ⟨List.mem_of_getElem? (i := 1279) (by decide +kernel), by decide +kernel⟩
theorem tw_1280 : Cond.fieldLink RX12 32 RX12 (TX12 7).2.1 (TX12 7).2.2.1 ∈ wT := List.mem_filter.mpr ⟨List.mem_of_getElem? (i := 1280) (by decide +kernel), by decide +kernel⟩
theorem tw_1281 : Cond.fieldLink RX12 36 RX12 (TX12 8).2.1 (TX12 8).2.2.1 ∈ wT := List.mem_filter.mpr ⟨List.mem_of_getElem? (i := 1281) (by decide +kernel), by decide +kernel⟩
theorem tw_1282 : Cond.fieldLink RX12 39 RX12 (TX12 9).2.1 (TX12 9).2.2.1 ∈ wT := List.mem_filter.mpr ⟨List.mem_of_getElem? (i := 1282) (by decide +kernel), by decide +kernel⟩
theorem tw_1283 : Cond.fieldLink RX12 42 RX12 (TX12 10).2.1 (TX12 10).2.2.1 ∈ wT := List.mem_filter.mpr ⟨List.mem_of_getElem? (i := 1283) (by decide +kernel), by decide +kernel⟩
theorem tw_1284 : Cond.fieldLink RX12 45 RX12 (TX12 11).2.1 (TX12 11).2.2.1 ∈ wT := List.mem_filter.mpr ⟨List.mem_of_getElem? (i := 1284) (by decide +kernel), by decide +kernel⟩
theorem tw_1285 : Cond.fieldLink RX12 48 RX12 (TX12 12).2.1 (TX12 12).2.2.1 ∈ wT := List.mem_filter.mpr ⟨List.mem_of_getElem? (i := 1285) (by decide +kernel), by decide +kernel⟩
theorem tw_1286 : Cond.fieldLink RX12 51 RX12 (TX12 13).2.1 (TX12 13).2.2.1 ∈ wT := List.mem_filter.mpr ⟨List.mem_of_getElem? (i := 1286) (by decide +kernel), by decide +kernel⟩
theorem tw_1287 : Cond.fieldLink RX12 54 RX12 (TX12 14).2.1 (TX12 14).2.2.1 ∈ wT := List.mem_filter.mpr ⟨List.mem_of_getElem? (i := 1287) (by decide +kernel), by decide +kernel⟩
theorem tw_1288 : Cond.fieldLink RX12 57 RX12 (TX12 15).2.1 (TX12 15).2.2.1 ∈ wT := List.mem_filter.mpr ⟨List.mem_of_getElem? (i := 1288) (by decide +kernel), by decide +kernel⟩
theorem tw_1289 : Cond.fieldLink RX12 60 RX12 (TX12 16).2.1 (TX12 16).2.2.1 ∈ wT := List.mem_filter.mpr ⟨List.mem_of_getElem? (i := 1289) (by decide +kernel), by decide +kernel⟩
theorem tw_1290 : Cond.fieldLink RX12 63 RX12 (TX12 17).2.1 (TX12 17).2.2.1 ∈ wT := List.mem_filter.mpr ⟨List.mem_of_getElem? (i := 1290) (by decide +kernel), by decide +kernel⟩
theorem tw_1291 : Cond.fieldLink RX12 66 RX12 (TX12 18).2.1 (TX12 18).2.2.1 ∈ wT := List.mem_filter.mpr ⟨List.mem_of_getElem? (i := 1291) (by decide +kernel), by decide +kernel⟩
theorem tw_1292 : Cond.fieldLink RX12 69 RX12 (TX12 19).2.1 (TX12 19).2.2.1 ∈ wT := List.mem_filter.mpr ⟨List.mem_of_getElem? (i := 1292) (by decide +kernel), by decide +kernel⟩
theorem tw_1293 : Cond.fieldLink RX12 72 RX12 (TX12 20).2.1 (TX12 20).2.2.1 ∈ wT := List.mem_filter.mpr ⟨List.mem_of_getElem? (i := 1293) (by decide +kernel), by decide +kernel⟩
theorem tw_1294 : Cond.fieldLink RX12 75 RX12 (TX12 21).2.1 (TX12 21).2.2.1 ∈ wT := List.mem_filter.mpr ⟨List.mem_of_getElem? (i := 1294) (by decide +kernel), by decide +kernel⟩
theorem tw_1295 : Cond.fieldLink RX12 78 RX12 (TX12 22).2.1 (TX12 22).2.2.1 ∈ wT := List.mem_filter.mpr ⟨List.mem_of_getElem? (i := 1295) (by decide +kernel), by decide +kernel⟩
theorem tw_1296 : Cond.fieldLink RX12 81 RX12 (TX12 23).2.1 (TX12 23).2.2.1 ∈ wT := List.mem_filter.mpr ⟨List.mem_of_getElem? (i := 1296) (by decide +kernel), by decide +kernel⟩
theorem tw_1297 : Cond.fieldLink RX12 84 RX12 (TX12 24).2.1 (TX12 24).2.2.1 ∈ wT := List.mem_filter.mpr ⟨List.mem_of_getElem? (i := 1297) (by decide +kernel), by decide +kernel⟩
theorem tw_1298 : Cond.fieldLink RX12 87 RX12 (TX12 25).2.1 (TX12 25).2.2.1 ∈ wT := List.mem_filter.mpr ⟨List.mem_of_getElem? (i := 1298) (by decide +kernel), by decide +kernel⟩
theorem tw_1299 : Cond.fieldLink RX12 90 RX12 (TX12 26).2.1 (TX12 26).2.2.1 ∈ wT := List.mem_filter.mpr ⟨List.mem_of_getElem? (i := 1299) (by decide +kernel), by decide +kernel⟩
theorem tw_1300 : Cond.fieldLink RX12 93 RX12 (TX12 27).2.1 (TX12 27).2.2.1 ∈ wT := List.mem_filter.mpr ⟨List.mem_of_getElem? (i := 1300) (by decide +kernel), by decide +kernel⟩
theorem tw_1301 : Cond.fieldLink RX12 96 RX12 (TX12 28).2.1 (TX12 28).2.2.1 ∈ wT := List.mem_filter.mpr ⟨List.mem_of_getElem? (i := 1301) (by decide +kernel), by decide +kernel⟩
theorem tw_1302 : Cond.fieldLink RX12 99 RX12 (TX12 29).2.1 (TX12 29).2.2.1 ∈ wT := List.mem_filter.mpr ⟨List.mem_of_getElem? (i := 1302) (by decide +kernel), by decide +kernel⟩
theorem tw_1303 : Cond.fieldLink RX12 102 RX12 (TX12 30).2.1 (TX12 30).2.2.1 ∈ wT := List.mem_filter.mpr ⟨List.mem_of_getElem? (i := 1303) (by decide +kernel), by decide +kernel⟩
theorem tw_1304 : Cond.fieldLink RX12 106 RX12 (TX12 31).2.1 (TX12 31).2.2.1 ∈ wT := List.mem_filter.mpr ⟨List.mem_of_getElem? (i := 1304) (by decide +kernel), by decide +kernel⟩
theorem tw_1305 : Cond.fieldLink RX12 109 RX12 (TX12 32).2.1 (TX12 32).2.2.1 ∈ wT := List.mem_filter.mpr ⟨List.mem_of_getElem? (i := 1305) (by decide +kernel), by decide +kernel⟩
theorem tw_1306 : Cond.fieldLink RX12 112 RX12 (TX12 33).2.1 (TX12 33).2.2.1 ∈ wT := List.mem_filter.mpr ⟨List.mem_of_getElem? (i := 1306) (by decide +kernel), by decide +kernel⟩
theorem tw_1307 : Cond.fieldLink RX12 115 RX12 (TX12 34).2.1 (TX12 34).2.2.1 ∈ wT := List.mem_filter.mpr ⟨List.mem_of_getElem? (i := 1307) (by decide +kernel), by decide +kernel⟩
theorem tw_1308 : Cond.fieldLink RX12 118 RX12 (TX12 35).2.1 (TX12 35).2.2.1 ∈ wT := List.mem_filter.mpr ⟨List.mem_of_getElem? (i := 1308) (by decide +kernel), by decide +kernel⟩
theorem tw_1309 : Cond.fieldLink RX12 121 RX12 (TX12 36).2.1 (TX12 36).2.2.1 ∈ wT := List.mem_filter.mpr ⟨List.mem_of_getElem? (i := 1309) (by decide +kernel), by decide +kernel⟩
theorem tw_1310 : Cond.fieldLink RX12 125 RX12 (TX12 37).2.1 (TX12 37).2.2.1 ∈ wT := List.mem_filter.mpr ⟨List.mem_of_getElem? (i := 1310) (by decide +kernel), by decide +kernel⟩
theorem tw_1311 : Cond.fieldLink RX12 128 RX12 (TX12 38).2.1 (TX12 38).2.2.1 ∈ wT := List.mem_filter.mpr ⟨List.mem_of_getElem? (i := 1311) (by decide +kernel), by decide +kernel⟩
theorem tw_1312 : Cond.fieldLink RX12 131 RX12 (TX12 39).2.1 (TX12 39).2.2.1 ∈ wT := List.mem_filter.mpr ⟨List.mem_of_getElem? (i := 1312) (by decide +kernel), by decide +kernel⟩
theorem tw_1313 : Cond.fieldLink RX12 134 RX12 (TX12 40).2.1 (TX12 40).2.2.1 ∈ wT := List.mem_filter.mpr ⟨List.mem_of_getElem? (i := 1313) (by decide +kernel), by decide +kernel⟩
theorem tw_1314 : Cond.fieldLink RX12 137 RX12 (TX12 41).2.1 (TX12 41).2.2.1 ∈ wT := List.mem_filter.mpr ⟨List.mem_of_getElem? (i := 1314) (by decide +kernel), by decide +kernel⟩
theorem tw_1315 : Cond.fieldLink RX12 140 RX12 (TX12 42).2.1 (TX12 42).2.2.1 ∈ wT := List.mem_filter.mpr ⟨List.mem_of_getElem? (i := 1315) (by decide +kernel), by decide +kernel⟩
theorem tw_1316 : Cond.fieldLink RX12 143 RX12 (TX12 43).2.1 (TX12 43).2.2.1 ∈ wT := List.mem_filter.mpr ⟨List.mem_of_getElem? (i := 1316) (by decide +kernel), by decide +kernel⟩
theorem tw_1317 : Cond.fieldLink RX12 147 RX12 (TX12 44).2.1 (TX12 44).2.2.1 ∈ wT := List.mem_filter.mpr ⟨List.mem_of_getElem? (i := 1317) (by decide +kernel), by decide +kernel⟩
theorem tw_1318 : Cond.fieldLink RX12 150 RX12 (TX12 45).2.1 (TX12 45).2.2.1 ∈ wT := List.mem_filter.mpr ⟨List.mem_of_getElem? (i := 1318) (by decide +kernel), by decide +kernel⟩
theorem tw_1319 : Cond.fieldLink RX12 153 RX12 (TX12 46).2.1 (TX12 46).2.2.1 ∈ wT := List.mem_filter.mpr ⟨List.mem_of_getElem? (i := 1319) (by decide +kernel), by decide +kernel⟩
theorem tw_1320 : Cond.fieldLink RX12 156 RX12 (TX12 47).2.1 (TX12 47).2.2.1 ∈ wT := List.mem_filter.mpr ⟨List.mem_of_getElem? (i := 1320) (by decide +kernel), by decide +kernel⟩
theorem tw_1321 : Cond.fieldLink RX12 159 RX12 (TX12 48).2.1 (TX12 48).2.2.1 ∈ wT := List.mem_filter.mpr ⟨List.mem_of_getElem? (i := 1321) (by decide +kernel), by decide +kernel⟩
theorem tw_1322 : Cond.fieldLink RX12 162 RX12 (TX12 49).2.1 (TX12 49).2.2.1 ∈ wT := List.mem_filter.mpr ⟨List.mem_of_getElem? (i := 1322) (by decide +kernel), by decide +kernel⟩
theorem tw_1323 : Cond.fieldLink RX12 165 RX12 (TX12 50).2.1 (TX12 50).2.2.1 ∈ wT := List.mem_filter.mpr ⟨List.mem_of_getElem? (i := 1323) (by decide +kernel), by decide +kernel⟩
theorem tw_1324 : Cond.fieldLink RX12 168 RX12 (TX12 51).2.1 (TX12 51).2.2.1 ∈ wT := List.mem_filter.mpr ⟨List.mem_of_getElem? (i := 1324) (by decide +kernel), by decide +kernel⟩
theorem tw_1325 : Cond.fieldLink RX12 171 RX12 (TX12 52).2.1 (TX12 52).2.2.1 ∈ wT := List.mem_filter.mpr ⟨List.mem_of_getElem? (i := 1325) (by decide +kernel), by decide +kernel⟩
theorem tw_1326 : Cond.fieldLink RX12 174 RX12 (TX12 53).2.1 (TX12 53).2.2.1 ∈ wT := List.mem_filter.mpr ⟨List.mem_of_getElem? (i := 1326) (by decide +kernel), by decide +kernel⟩
theorem tw_1327 : Cond.fieldLink RX12 177 RX12 (TX12 54).2.1 (TX12 54).2.2.1 ∈ wT := List.mem_filter.mpr ⟨List.mem_of_getElem? (i := 1327) (by decide +kernel), by decide +kernel⟩
theorem tw_1328 : Cond.fieldLink RX12 180 RX12 (TX12 55).2.1 (TX12 55).2.2.1 ∈ wT := List.mem_filter.mpr ⟨List.mem_of_getElem? (i := 1328) (by decide +kernel), by decide +kernel⟩
theorem tw_1329 : Cond.fieldLink RX12 183 RX12 (TX12 56).2.1 (TX12 56).2.2.1 ∈ wT := List.mem_filter.mpr ⟨List.mem_of_getElem? (i := 1329) (by decide +kernel), by decide +kernel⟩
theorem tw_1330 : Cond.fieldLink RX12 186 RX12 (TX12 57).2.1 (TX12 57).2.2.1 ∈ wT := List.mem_filter.mpr ⟨List.mem_of_getElem? (i := 1330) (by decide +kernel), by decide +kernel⟩
theorem tw_1331 : Cond.fieldLink RX12 189 RX12 (TX12 58).2.1 (TX12 58).2.2.1 ∈ wT := List.mem_filter.mpr ⟨List.mem_of_getElem? (i := 1331) (by decide +kernel), by decide +kernel⟩
theorem tw_1332 : Cond.fieldLink RX12 192 RX12 (TX12 59).2.1 (TX12 59).2.2.1 ∈ wT := List.mem_filter.mpr ⟨List.mem_of_getElem? (i := 1332) (by decide +kernel), by decide +kernel⟩
theorem tw_1333 : Cond.fieldLink RX12 195 RX12 (TX12 60).2.1 (TX12 60).2.2.1 ∈ wT := List.mem_filter.mpr ⟨List.mem_of_getElem? (i := 1333) (by decide +kernel), by decide +kernel⟩
theorem tw_1334 : Cond.fieldLink RX12 198 RX12 (TX12 61).2.1 (TX12 61).2.2.1 ∈ wT := List.mem_filter.mpr ⟨List.mem_of_getElem? (i := 1334) (by decide +kernel), by decide +kernel⟩
theorem tw_1335 : Cond.fieldLink RX12 201 RX12 (TX12 62).2.1 (TX12 62).2.2.1 ∈ wT := List.mem_filter.mpr ⟨List.mem_of_getElem? (i := 1335) (by decide +kernel), by decide +kernel⟩
theorem tw_1336 : Cond.fieldLink RX12 204 RX12 (TX12 63).2.1 (TX12 63).2.2.1 ∈ wT := List.mem_filter.mpr ⟨List.mem_of_getElem? (i := 1336) (by decide +kernel), by decide +kernel⟩
theorem tw_1337 : Cond.fieldLink RX12 207 RX12 (TX12 64).2.1 (TX12 64).2.2.1 ∈ wT := List.mem_filter.mpr ⟨List.mem_of_getElem? (i := 1337) (by decide +kernel), by decide +kernel⟩
theorem tw_1338 : Cond.fieldLink RX12 210 RX12 (TX12 65).2.1 (TX12 65).2.2.1 ∈ wT := List.mem_filter.mpr ⟨List.mem_of_getElem? (i := 1338) (by decide +kernel), by decide +kernel⟩
theorem tw_1339 : Cond.fieldLink RX12 213 RX12 (TX12 66).2.1 (TX12 66).2.2.1 ∈ wT := List.mem_filter.mpr ⟨List.mem_of_getElem? (i := 1339) (by decide +kernel), by decide +kernel⟩
theorem tw_1340 : Cond.fieldLink RX12 216 RX12 (TX12 67).2.1 (TX12 67).2.2.1 ∈ wT := List.mem_filter.mpr ⟨List.mem_of_getElem? (i := 1340) (by decide +kernel), by decide +kernel⟩
theorem tw_1341 : Cond.fieldLink RX12 219 RX12 (TX12 68).2.1 (TX12 68).2.2.1 ∈ wT := List.mem_filter.mpr ⟨List.mem_of_getElem? (i := 1341) (by decide +kernel), by decide +kernel⟩
theorem tw_1481 : Cond.arrayClass .boolean ∈ wT := List.mem_filter.mpr ⟨List.mem_of_getElem? (i := 1481) (by decide +kernel), by decide +kernel⟩
theorem tw_1486 : Cond.methodLink RX12 222 yX12_refuses ∈ wT := List.mem_filter.mpr ⟨List.mem_of_getElem? (i := 1486) (by decide +kernel), by decide +kernel⟩
theorem tw_1488 : Cond.instanceMethod yX12_refuses ∈ wT := List.mem_filter.mpr ⟨List.mem_of_getElem? (i := 1488) (by decide +kernel), by decide +kernel⟩
theorem tw_1489 : Cond.code yX12_refuses cX12_refuses 2 (some .int) ∈ wT := List.mem_filter.mpr ⟨List.mem_of_getElem? (i := 1489) (by decide +kernel), by decide +kernel⟩
theorem tw_1490 : Cond.methodLink RX12 226 yX12_put ∈ wT := List.mem_filter.mpr ⟨List.mem_of_getElem? (i := 1490) (by decide +kernel), by decide +kernel⟩
theorem tw_1492 : Cond.instanceMethod yX12_put ∈ wT := List.mem_filter.mpr ⟨List.mem_of_getElem? (i := 1492) (by decide +kernel), by decide +kernel⟩
theorem tw_1493 : Cond.code yX12_put cX12_put 3 none ∈ wT := List.mem_filter.mpr ⟨List.mem_of_getElem? (i := 1493) (by decide +kernel), by decide +kernel⟩
theorem tw_1502 : Cond.methodLink RX12 247 yX12_ahead ∈ wT := List.mem_filter.mpr ⟨List.mem_of_getElem? (i := 1502) (by decide +kernel), by decide +kernel⟩
theorem tw_1504 : Cond.instanceMethod yX12_ahead ∈ wT := List.mem_filter.mpr ⟨List.mem_of_getElem? (i := 1504) (by decide +kernel), by decide +kernel⟩
theorem tw_1505 : Cond.code yX12_ahead cX12_ahead 6 none ∈ wT := List.mem_filter.mpr ⟨List.mem_of_getElem? (i := 1505) (by decide +kernel), by decide +kernel⟩
theorem tw_1506 : Cond.methodLink RX12 234 yX12_isLetter ∈ wT := List.mem_filter.mpr ⟨List.mem_of_getElem? (i := 1506) (by decide +kernel), by decide +kernel⟩
theorem tw_1507 : Cond.static yX12_isLetter ∈ wT := List.mem_filter.mpr ⟨List.mem_of_getElem? (i := 1507) (by decide +kernel), by decide +kernel⟩
theorem tw_1508 : Cond.code yX12_isLetter cX12_isLetter 1 (some .boolean) ∈ wT := List.mem_filter.mpr ⟨List.mem_of_getElem? (i := 1508) (by decide +kernel), by decide +kernel⟩
theorem tw_1509 : Cond.methodLink RX12 238 yX12_isDigit ∈ wT := List.mem_filter.mpr ⟨List.mem_of_getElem? (i := 1509) (by decide +kernel), by decide +kernel⟩
theorem tw_1510 : Cond.static yX12_isDigit ∈ wT := List.mem_filter.mpr ⟨List.mem_of_getElem? (i := 1510) (by decide +kernel), by decide +kernel⟩
theorem tw_1511 : Cond.code yX12_isDigit cX12_isDigit 1 (some .boolean) ∈ wT := List.mem_filter.mpr ⟨List.mem_of_getElem? (i := 1511) (by decide +kernel), by decide +kernel⟩
theorem tw_1512 : Cond.methodLink RX12 412 yX12_statement ∈ wT := List.mem_filter.mpr ⟨List.mem_of_getElem? (i := 1512) (by decide +kernel), by decide +kernel⟩
theorem tw_1514 : Cond.instanceMethod yX12_statement ∈ wT := List.mem_filter.mpr ⟨List.mem_of_getElem? (i := 1514) (by decide +kernel), by decide +kernel⟩
theorem tw_1515 : Cond.code yX12_statement cX12_statement 1 none ∈ wT := List.mem_filter.mpr ⟨List.mem_of_getElem? (i := 1515) (by decide +kernel), by decide +kernel⟩
theorem tw_1516 : Cond.methodLink RX12 241 yX12_lex ∈ wT := List.mem_filter.mpr ⟨List.mem_of_getElem? (i := 1516) (by decide +kernel), by decide +kernel⟩
theorem tw_1518 : Cond.instanceMethod yX12_lex ∈ wT := List.mem_filter.mpr ⟨List.mem_of_getElem? (i := 1518) (by decide +kernel), by decide +kernel⟩
theorem tw_1519 : Cond.code yX12_lex cX12_lex 1 none ∈ wT := List.mem_filter.mpr ⟨List.mem_of_getElem? (i := 1519) (by decide +kernel), by decide +kernel⟩
theorem tw_1520 : Cond.methodLink RX12 230 yX12_blame ∈ wT := List.mem_filter.mpr ⟨List.mem_of_getElem? (i := 1520) (by decide +kernel), by decide +kernel⟩
theorem tw_1522 : Cond.instanceMethod yX12_blame ∈ wT := List.mem_filter.mpr ⟨List.mem_of_getElem? (i := 1522) (by decide +kernel), by decide +kernel⟩
theorem tw_1523 : Cond.code yX12_blame cX12_blame 3 none ∈ wT := List.mem_filter.mpr ⟨List.mem_of_getElem? (i := 1523) (by decide +kernel), by decide +kernel⟩
theorem tw_1525 : Cond.methodLink RX12 325 yX12_isWord ∈ wT := List.mem_filter.mpr ⟨List.mem_of_getElem? (i := 1525) (by decide +kernel), by decide +kernel⟩
theorem tw_1527 : Cond.instanceMethod yX12_isWord ∈ wT := List.mem_filter.mpr ⟨List.mem_of_getElem? (i := 1527) (by decide +kernel), by decide +kernel⟩
theorem tw_1528 : Cond.code yX12_isWord cX12_isWord 3 (some .boolean) ∈ wT := List.mem_filter.mpr ⟨List.mem_of_getElem? (i := 1528) (by decide +kernel), by decide +kernel⟩
theorem tw_1529 : Cond.methodLink RX12 385 yX12_blinding ∈ wT := List.mem_filter.mpr ⟨List.mem_of_getElem? (i := 1529) (by decide +kernel), by decide +kernel⟩
theorem tw_1531 : Cond.instanceMethod yX12_blinding ∈ wT := List.mem_filter.mpr ⟨List.mem_of_getElem? (i := 1531) (by decide +kernel), by decide +kernel⟩
theorem tw_1532 : Cond.code yX12_blinding cX12_blinding 1 none ∈ wT := List.mem_filter.mpr ⟨List.mem_of_getElem? (i := 1532) (by decide +kernel), by decide +kernel⟩
theorem tw_1533 : Cond.methodLink RX12 375 yX12_isShaped ∈ wT := List.mem_filter.mpr ⟨List.mem_of_getElem? (i := 1533) (by decide +kernel), by decide +kernel⟩
theorem tw_1535 : Cond.instanceMethod yX12_isShaped ∈ wT := List.mem_filter.mpr ⟨List.mem_of_getElem? (i := 1535) (by decide +kernel), by decide +kernel⟩
theorem tw_1536 : Cond.code yX12_isShaped cX12_isShaped 9 (some .boolean) ∈ wT := List.mem_filter.mpr ⟨List.mem_of_getElem? (i := 1536) (by decide +kernel), by decide +kernel⟩
theorem tw_1537 : Cond.methodLink RX12 306 yX12_manyOf ∈ wT := List.mem_filter.mpr ⟨List.mem_of_getElem? (i := 1537) (by decide +kernel), by decide +kernel⟩
theorem tw_1539 : Cond.instanceMethod yX12_manyOf ∈ wT := List.mem_filter.mpr ⟨List.mem_of_getElem? (i := 1539) (by decide +kernel), by decide +kernel⟩
theorem tw_1540 : Cond.code yX12_manyOf cX12_manyOf 2 (some .int) ∈ wT := List.mem_filter.mpr ⟨List.mem_of_getElem? (i := 1540) (by decide +kernel), by decide +kernel⟩
theorem tw_1541 : Cond.methodLink RX12 355 yX12_isCounted ∈ wT := List.mem_filter.mpr ⟨List.mem_of_getElem? (i := 1541) (by decide +kernel), by decide +kernel⟩
theorem tw_1543 : Cond.instanceMethod yX12_isCounted ∈ wT := List.mem_filter.mpr ⟨List.mem_of_getElem? (i := 1543) (by decide +kernel), by decide +kernel⟩
theorem tw_1544 : Cond.code yX12_isCounted cX12_isCounted 2 (some .boolean) ∈ wT := List.mem_filter.mpr ⟨List.mem_of_getElem? (i := 1544) (by decide +kernel), by decide +kernel⟩
theorem tw_1545 : Cond.methodLink RX12 363 yX12_fresh ∈ wT := List.mem_filter.mpr ⟨List.mem_of_getElem? (i := 1545) (by decide +kernel), by decide +kernel⟩
theorem tw_1547 : Cond.instanceMethod yX12_fresh ∈ wT := List.mem_filter.mpr ⟨List.mem_of_getElem? (i := 1547) (by decide +kernel), by decide +kernel⟩
theorem tw_1548 : Cond.code yX12_fresh cX12_fresh 3 (some .long) ∈ wT := List.mem_filter.mpr ⟨List.mem_of_getElem? (i := 1548) (by decide +kernel), by decide +kernel⟩
theorem tw_1549 : Cond.methodLink RX12 344 yX12_isOwn ∈ wT := List.mem_filter.mpr ⟨List.mem_of_getElem? (i := 1549) (by decide +kernel), by decide +kernel⟩
theorem tw_1551 : Cond.instanceMethod yX12_isOwn ∈ wT := List.mem_filter.mpr ⟨List.mem_of_getElem? (i := 1551) (by decide +kernel), by decide +kernel⟩
theorem tw_1552 : Cond.code yX12_isOwn cX12_isOwn 3 (some .boolean) ∈ wT := List.mem_filter.mpr ⟨List.mem_of_getElem? (i := 1552) (by decide +kernel), by decide +kernel⟩
theorem tw_1580 : Cond.methodLink RX12 347 yX12_named ∈ wT := List.mem_filter.mpr ⟨List.mem_of_getElem? (i := 1580) (by decide +kernel), by decide +kernel⟩
theorem tw_1582 : Cond.instanceMethod yX12_named ∈ wT := List.mem_filter.mpr ⟨List.mem_of_getElem? (i := 1582) (by decide +kernel), by decide +kernel⟩
theorem tw_1583 : Cond.code yX12_named cX12_named 5 (some .int) ∈ wT := List.mem_filter.mpr ⟨List.mem_of_getElem? (i := 1583) (by decide +kernel), by decide +kernel⟩
theorem tw_1584 : Cond.methodLink RX12 367 yX12_mustWord ∈ wT := List.mem_filter.mpr ⟨List.mem_of_getElem? (i := 1584) (by decide +kernel), by decide +kernel⟩
theorem tw_1586 : Cond.instanceMethod yX12_mustWord ∈ wT := List.mem_filter.mpr ⟨List.mem_of_getElem? (i := 1586) (by decide +kernel), by decide +kernel⟩
theorem tw_1587 : Cond.code yX12_mustWord cX12_mustWord 3 none ∈ wT := List.mem_filter.mpr ⟨List.mem_of_getElem? (i := 1587) (by decide +kernel), by decide +kernel⟩
theorem tw_1588 : Cond.methodLink RX12 359 yX12_number ∈ wT := List.mem_filter.mpr ⟨List.mem_of_getElem? (i := 1588) (by decide +kernel), by decide +kernel⟩
theorem tw_1590 : Cond.instanceMethod yX12_number ∈ wT := List.mem_filter.mpr ⟨List.mem_of_getElem? (i := 1590) (by decide +kernel), by decide +kernel⟩
theorem tw_1591 : Cond.code yX12_number cX12_number 4 (some .int) ∈ wT := List.mem_filter.mpr ⟨List.mem_of_getElem? (i := 1591) (by decide +kernel), by decide +kernel⟩
theorem tw_1592 : Cond.methodLink RX12 309 yX12_is ∈ wT := List.mem_filter.mpr ⟨List.mem_of_getElem? (i := 1592) (by decide +kernel), by decide +kernel⟩
theorem tw_1593 : Cond.static yX12_is ∈ wT := List.mem_filter.mpr ⟨List.mem_of_getElem? (i := 1593) (by decide +kernel), by decide +kernel⟩
theorem tw_1594 : Cond.code yX12_is cX12_is 3 (some .boolean) ∈ wT := List.mem_filter.mpr ⟨List.mem_of_getElem? (i := 1594) (by decide +kernel), by decide +kernel⟩
theorem tw_1595 : Cond.methodLink RX12 371 yX12_shapes ∈ wT := List.mem_filter.mpr ⟨List.mem_of_getElem? (i := 1595) (by decide +kernel), by decide +kernel⟩
theorem tw_1596 : Cond.static yX12_shapes ∈ wT := List.mem_filter.mpr ⟨List.mem_of_getElem? (i := 1596) (by decide +kernel), by decide +kernel⟩
theorem tw_1597 : Cond.code yX12_shapes cX12_shapes 5 none ∈ wT := List.mem_filter.mpr ⟨List.mem_of_getElem? (i := 1597) (by decide +kernel), by decide +kernel⟩
theorem tw_1598 : Cond.methodLink RX12 388 yX12_colouring ∈ wT := List.mem_filter.mpr ⟨List.mem_of_getElem? (i := 1598) (by decide +kernel), by decide +kernel⟩
theorem tw_1600 : Cond.instanceMethod yX12_colouring ∈ wT := List.mem_filter.mpr ⟨List.mem_of_getElem? (i := 1600) (by decide +kernel), by decide +kernel⟩
theorem tw_1601 : Cond.code yX12_colouring cX12_colouring 1 none ∈ wT := List.mem_filter.mpr ⟨List.mem_of_getElem? (i := 1601) (by decide +kernel), by decide +kernel⟩
theorem tw_1602 : Cond.methodLink RX12 391 yX12_thinging ∈ wT := List.mem_filter.mpr ⟨List.mem_of_getElem? (i := 1602) (by decide +kernel), by decide +kernel⟩
theorem tw_1604 : Cond.instanceMethod yX12_thinging ∈ wT := List.mem_filter.mpr ⟨List.mem_of_getElem? (i := 1604) (by decide +kernel), by decide +kernel⟩
theorem tw_1605 : Cond.code yX12_thinging cX12_thinging 1 none ∈ wT := List.mem_filter.mpr ⟨List.mem_of_getElem? (i := 1605) (by decide +kernel), by decide +kernel⟩
theorem tw_1606 : Cond.methodLink RX12 394 yX12_lateness ∈ wT := List.mem_filter.mpr ⟨List.mem_of_getElem? (i := 1606) (by decide +kernel), by decide +kernel⟩
theorem tw_1608 : Cond.instanceMethod yX12_lateness ∈ wT := List.mem_filter.mpr ⟨List.mem_of_getElem? (i := 1608) (by decide +kernel), by decide +kernel⟩
theorem tw_1609 : Cond.code yX12_lateness cX12_lateness 2 none ∈ wT := List.mem_filter.mpr ⟨List.mem_of_getElem? (i := 1609) (by decide +kernel), by decide +kernel⟩
theorem tw_1610 : Cond.methodLink RX12 378 yX12_known ∈ wT := List.mem_filter.mpr ⟨List.mem_of_getElem? (i := 1610) (by decide +kernel), by decide +kernel⟩
theorem tw_1612 : Cond.instanceMethod yX12_known ∈ wT := List.mem_filter.mpr ⟨List.mem_of_getElem? (i := 1612) (by decide +kernel), by decide +kernel⟩
theorem tw_1613 : Cond.code yX12_known cX12_known 4 (some .int) ∈ wT := List.mem_filter.mpr ⟨List.mem_of_getElem? (i := 1613) (by decide +kernel), by decide +kernel⟩
theorem tw_1614 : Cond.methodLink RX12 351 yX12_has2 ∈ wT := List.mem_filter.mpr ⟨List.mem_of_getElem? (i := 1614) (by decide +kernel), by decide +kernel⟩
theorem tw_1615 : Cond.static yX12_has2 ∈ wT := List.mem_filter.mpr ⟨List.mem_of_getElem? (i := 1615) (by decide +kernel), by decide +kernel⟩
theorem tw_1616 : Cond.code yX12_has2 cX12_has2 2 (some .boolean) ∈ wT := List.mem_filter.mpr ⟨List.mem_of_getElem? (i := 1616) (by decide +kernel), by decide +kernel⟩
theorem tw_1617 : Cond.methodLink RX12 397 yX12_nearing ∈ wT := List.mem_filter.mpr ⟨List.mem_of_getElem? (i := 1617) (by decide +kernel), by decide +kernel⟩
theorem tw_1619 : Cond.instanceMethod yX12_nearing ∈ wT := List.mem_filter.mpr ⟨List.mem_of_getElem? (i := 1619) (by decide +kernel), by decide +kernel⟩
theorem tw_1620 : Cond.code yX12_nearing cX12_nearing 3 none ∈ wT := List.mem_filter.mpr ⟨List.mem_of_getElem? (i := 1620) (by decide +kernel), by decide +kernel⟩
theorem tw_1621 : Cond.methodLink RX12 400 yX12_wearing ∈ wT := List.mem_filter.mpr ⟨List.mem_of_getElem? (i := 1621) (by decide +kernel), by decide +kernel⟩
theorem tw_1623 : Cond.instanceMethod yX12_wearing ∈ wT := List.mem_filter.mpr ⟨List.mem_of_getElem? (i := 1623) (by decide +kernel), by decide +kernel⟩
theorem tw_1624 : Cond.code yX12_wearing cX12_wearing 3 none ∈ wT := List.mem_filter.mpr ⟨List.mem_of_getElem? (i := 1624) (by decide +kernel), by decide +kernel⟩
theorem tw_1625 : Cond.methodLink RX12 403 yX12_telling ∈ wT := List.mem_filter.mpr ⟨List.mem_of_getElem? (i := 1625) (by decide +kernel), by decide +kernel⟩
theorem tw_1627 : Cond.instanceMethod yX12_telling ∈ wT := List.mem_filter.mpr ⟨List.mem_of_getElem? (i := 1627) (by decide +kernel), by decide +kernel⟩
theorem tw_1628 : Cond.code yX12_telling cX12_telling 2 (some .int) ∈ wT := List.mem_filter.mpr ⟨List.mem_of_getElem? (i := 1628) (by decide +kernel), by decide +kernel⟩
theorem tw_1629 : Cond.methodLink RX12 406 yX12_reading ∈ wT := List.mem_filter.mpr ⟨List.mem_of_getElem? (i := 1629) (by decide +kernel), by decide +kernel⟩
theorem tw_1631 : Cond.instanceMethod yX12_reading ∈ wT := List.mem_filter.mpr ⟨List.mem_of_getElem? (i := 1631) (by decide +kernel), by decide +kernel⟩
theorem tw_1632 : Cond.code yX12_reading cX12_reading 3 none ∈ wT := List.mem_filter.mpr ⟨List.mem_of_getElem? (i := 1632) (by decide +kernel), by decide +kernel⟩
theorem tw_1633 : Cond.methodLink RX12 381 yX12_reads ∈ wT := List.mem_filter.mpr ⟨List.mem_of_getElem? (i := 1633) (by decide +kernel), by decide +kernel⟩
theorem tw_1635 : Cond.instanceMethod yX12_reads ∈ wT := List.mem_filter.mpr ⟨List.mem_of_getElem? (i := 1635) (by decide +kernel), by decide +kernel⟩
theorem tw_1636 : Cond.code yX12_reads cX12_reads 3 none ∈ wT := List.mem_filter.mpr ⟨List.mem_of_getElem? (i := 1636) (by decide +kernel), by decide +kernel⟩
theorem tw_1637 : Cond.methodLink RX12 319 yX12_pushes ∈ wT := List.mem_filter.mpr ⟨List.mem_of_getElem? (i := 1637) (by decide +kernel), by decide +kernel⟩
theorem tw_1639 : Cond.instanceMethod yX12_pushes ∈ wT := List.mem_filter.mpr ⟨List.mem_of_getElem? (i := 1639) (by decide +kernel), by decide +kernel⟩
theorem tw_1640 : Cond.code yX12_pushes cX12_pushes 2 none ∈ wT := List.mem_filter.mpr ⟨List.mem_of_getElem? (i := 1640) (by decide +kernel), by decide +kernel⟩
theorem tw_1641 : Cond.methodLink RX12 338 yX12_operand ∈ wT := List.mem_filter.mpr ⟨List.mem_of_getElem? (i := 1641) (by decide +kernel), by decide +kernel⟩
theorem tw_1643 : Cond.instanceMethod yX12_operand ∈ wT := List.mem_filter.mpr ⟨List.mem_of_getElem? (i := 1643) (by decide +kernel), by decide +kernel⟩
theorem tw_1644 : Cond.code yX12_operand cX12_operand 4 (some .boolean) ∈ wT := List.mem_filter.mpr ⟨List.mem_of_getElem? (i := 1644) (by decide +kernel), by decide +kernel⟩
theorem tw_1645 : Cond.methodLink RX12 322 yX12_isTest ∈ wT := List.mem_filter.mpr ⟨List.mem_of_getElem? (i := 1645) (by decide +kernel), by decide +kernel⟩
theorem tw_1646 : Cond.static yX12_isTest ∈ wT := List.mem_filter.mpr ⟨List.mem_of_getElem? (i := 1646) (by decide +kernel), by decide +kernel⟩
theorem tw_1647 : Cond.code yX12_isTest cX12_isTest 1 (some .boolean) ∈ wT := List.mem_filter.mpr ⟨List.mem_of_getElem? (i := 1647) (by decide +kernel), by decide +kernel⟩
theorem tw_1648 : Cond.methodLink RX12 329 yX12_holdsBack ∈ wT := List.mem_filter.mpr ⟨List.mem_of_getElem? (i := 1648) (by decide +kernel), by decide +kernel⟩
theorem tw_1650 : Cond.instanceMethod yX12_holdsBack ∈ wT := List.mem_filter.mpr ⟨List.mem_of_getElem? (i := 1650) (by decide +kernel), by decide +kernel⟩
theorem tw_1651 : Cond.code yX12_holdsBack cX12_holdsBack 2 none ∈ wT := List.mem_filter.mpr ⟨List.mem_of_getElem? (i := 1651) (by decide +kernel), by decide +kernel⟩
theorem tw_1652 : Cond.methodLink RX12 244 yX12_isSign ∈ wT := List.mem_filter.mpr ⟨List.mem_of_getElem? (i := 1652) (by decide +kernel), by decide +kernel⟩
theorem tw_1654 : Cond.instanceMethod yX12_isSign ∈ wT := List.mem_filter.mpr ⟨List.mem_of_getElem? (i := 1654) (by decide +kernel), by decide +kernel⟩
theorem tw_1655 : Cond.code yX12_isSign cX12_isSign 2 (some .boolean) ∈ wT := List.mem_filter.mpr ⟨List.mem_of_getElem? (i := 1655) (by decide +kernel), by decide +kernel⟩
theorem tw_1656 : Cond.methodLink RX12 332 yX12_opens ∈ wT := List.mem_filter.mpr ⟨List.mem_of_getElem? (i := 1656) (by decide +kernel), by decide +kernel⟩
theorem tw_1658 : Cond.instanceMethod yX12_opens ∈ wT := List.mem_filter.mpr ⟨List.mem_of_getElem? (i := 1658) (by decide +kernel), by decide +kernel⟩
theorem tw_1659 : Cond.code yX12_opens cX12_opens 2 none ∈ wT := List.mem_filter.mpr ⟨List.mem_of_getElem? (i := 1659) (by decide +kernel), by decide +kernel⟩
theorem tw_1660 : Cond.methodLink RX12 316 yX12_add ∈ wT := List.mem_filter.mpr ⟨List.mem_of_getElem? (i := 1660) (by decide +kernel), by decide +kernel⟩
theorem tw_1662 : Cond.instanceMethod yX12_add ∈ wT := List.mem_filter.mpr ⟨List.mem_of_getElem? (i := 1662) (by decide +kernel), by decide +kernel⟩
theorem tw_1663 : Cond.code yX12_add cX12_add 3 none ∈ wT := List.mem_filter.mpr ⟨List.mem_of_getElem? (i := 1663) (by decide +kernel), by decide +kernel⟩
theorem tw_1664 : Cond.methodLink RX12 341 yX12_goesOn ∈ wT := List.mem_filter.mpr ⟨List.mem_of_getElem? (i := 1664) (by decide +kernel), by decide +kernel⟩
theorem tw_1666 : Cond.instanceMethod yX12_goesOn ∈ wT := List.mem_filter.mpr ⟨List.mem_of_getElem? (i := 1666) (by decide +kernel), by decide +kernel⟩
theorem tw_1667 : Cond.code yX12_goesOn cX12_goesOn 5 (some .boolean) ∈ wT := List.mem_filter.mpr ⟨List.mem_of_getElem? (i := 1667) (by decide +kernel), by decide +kernel⟩
theorem tw_1668 : Cond.methodLink RX12 335 yX12_joins ∈ wT := List.mem_filter.mpr ⟨List.mem_of_getElem? (i := 1668) (by decide +kernel), by decide +kernel⟩
theorem tw_1670 : Cond.instanceMethod yX12_joins ∈ wT := List.mem_filter.mpr ⟨List.mem_of_getElem? (i := 1670) (by decide +kernel), by decide +kernel⟩
theorem tw_1671 : Cond.code yX12_joins cX12_joins 2 none ∈ wT := List.mem_filter.mpr ⟨List.mem_of_getElem? (i := 1671) (by decide +kernel), by decide +kernel⟩
theorem tw_1672 : Cond.methodLink RX12 313 yX12_rank ∈ wT := List.mem_filter.mpr ⟨List.mem_of_getElem? (i := 1672) (by decide +kernel), by decide +kernel⟩
theorem tw_1673 : Cond.static yX12_rank ∈ wT := List.mem_filter.mpr ⟨List.mem_of_getElem? (i := 1673) (by decide +kernel), by decide +kernel⟩
theorem tw_1674 : Cond.code yX12_rank cX12_rank 1 (some .int) ∈ wT := List.mem_filter.mpr ⟨List.mem_of_getElem? (i := 1674) (by decide +kernel), by decide +kernel⟩
theorem tw_1675 : Cond.methodLink RX12 415 yX12_finishes ∈ wT := List.mem_filter.mpr ⟨List.mem_of_getElem? (i := 1675) (by decide +kernel), by decide +kernel⟩
theorem tw_1677 : Cond.instanceMethod yX12_finishes ∈ wT := List.mem_filter.mpr ⟨List.mem_of_getElem? (i := 1677) (by decide +kernel), by decide +kernel⟩
theorem tw_1678 : Cond.code yX12_finishes cX12_finishes 3 none ∈ wT := List.mem_filter.mpr ⟨List.mem_of_getElem? (i := 1678) (by decide +kernel), by decide +kernel⟩
theorem tw_1679 : Cond.methodLink RX12 409 yX12_must ∈ wT := List.mem_filter.mpr ⟨List.mem_of_getElem? (i := 1679) (by decide +kernel), by decide +kernel⟩
theorem tw_1681 : Cond.instanceMethod yX12_must ∈ wT := List.mem_filter.mpr ⟨List.mem_of_getElem? (i := 1681) (by decide +kernel), by decide +kernel⟩
theorem tw_1682 : Cond.code yX12_must cX12_must 2 none ∈ wT := List.mem_filter.mpr ⟨List.mem_of_getElem? (i := 1682) (by decide +kernel), by decide +kernel⟩
theorem tw_1683 : Cond.methodLink RX12 418 yX12_begin ∈ wT := List.mem_filter.mpr ⟨List.mem_of_getElem? (i := 1683) (by decide +kernel), by decide +kernel⟩
theorem tw_1685 : Cond.instanceMethod yX12_begin ∈ wT := List.mem_filter.mpr ⟨List.mem_of_getElem? (i := 1685) (by decide +kernel), by decide +kernel⟩
theorem tw_1686 : Cond.code yX12_begin cX12_begin 2 none ∈ wT := List.mem_filter.mpr ⟨List.mem_of_getElem? (i := 1686) (by decide +kernel), by decide +kernel⟩
theorem tw_1699 : Cond.methodLink RX12 421 yX12_slot ∈ wT := List.mem_filter.mpr ⟨List.mem_of_getElem? (i := 1699) (by decide +kernel), by decide +kernel⟩
theorem tw_1701 : Cond.instanceMethod yX12_slot ∈ wT := List.mem_filter.mpr ⟨List.mem_of_getElem? (i := 1701) (by decide +kernel), by decide +kernel⟩
theorem tw_1702 : Cond.code yX12_slot cX12_slot 2 (some .int) ∈ wT := List.mem_filter.mpr ⟨List.mem_of_getElem? (i := 1702) (by decide +kernel), by decide +kernel⟩
theorem tw_1703 : Cond.methodLink RX12 424 yX12_copies ∈ wT := List.mem_filter.mpr ⟨List.mem_of_getElem? (i := 1703) (by decide +kernel), by decide +kernel⟩
theorem tw_1705 : Cond.instanceMethod yX12_copies ∈ wT := List.mem_filter.mpr ⟨List.mem_of_getElem? (i := 1705) (by decide +kernel), by decide +kernel⟩
theorem tw_1706 : Cond.code yX12_copies cX12_copies 4 none ∈ wT := List.mem_filter.mpr ⟨List.mem_of_getElem? (i := 1706) (by decide +kernel), by decide +kernel⟩
theorem tw_1711 : Cond.methodLink RX12 456 yX12_wornOf ∈ wT := List.mem_filter.mpr ⟨List.mem_of_getElem? (i := 1711) (by decide +kernel), by decide +kernel⟩
theorem tw_1713 : Cond.instanceMethod yX12_wornOf ∈ wT := List.mem_filter.mpr ⟨List.mem_of_getElem? (i := 1713) (by decide +kernel), by decide +kernel⟩
theorem tw_1714 : Cond.code yX12_wornOf cX12_wornOf 5 (some .int) ∈ wT := List.mem_filter.mpr ⟨List.mem_of_getElem? (i := 1714) (by decide +kernel), by decide +kernel⟩
theorem tw_1715 : Cond.methodLink RX12 504 yX12_clashes ∈ wT := List.mem_filter.mpr ⟨List.mem_of_getElem? (i := 1715) (by decide +kernel), by decide +kernel⟩
theorem tw_1717 : Cond.instanceMethod yX12_clashes ∈ wT := List.mem_filter.mpr ⟨List.mem_of_getElem? (i := 1717) (by decide +kernel), by decide +kernel⟩
theorem tw_1718 : Cond.code yX12_clashes cX12_clashes 4 (some .int) ∈ wT := List.mem_filter.mpr ⟨List.mem_of_getElem? (i := 1718) (by decide +kernel), by decide +kernel⟩
theorem tw_1719 : Cond.methodLink RX12 501 yX12_nearSet ∈ wT := List.mem_filter.mpr ⟨List.mem_of_getElem? (i := 1719) (by decide +kernel), by decide +kernel⟩
theorem tw_1721 : Cond.instanceMethod yX12_nearSet ∈ wT := List.mem_filter.mpr ⟨List.mem_of_getElem? (i := 1721) (by decide +kernel), by decide +kernel⟩
theorem tw_1722 : Cond.code yX12_nearSet cX12_nearSet 2 (some .int) ∈ wT := List.mem_filter.mpr ⟨List.mem_of_getElem? (i := 1722) (by decide +kernel), by decide +kernel⟩
theorem tw_1727 : Cond.methodLink RX12 507 yX12_isBlind ∈ wT := List.mem_filter.mpr ⟨List.mem_of_getElem? (i := 1727) (by decide +kernel), by decide +kernel⟩
theorem tw_1729 : Cond.instanceMethod yX12_isBlind ∈ wT := List.mem_filter.mpr ⟨List.mem_of_getElem? (i := 1729) (by decide +kernel), by decide +kernel⟩
theorem tw_1730 : Cond.code yX12_isBlind cX12_isBlind 2 (some .boolean) ∈ wT := List.mem_filter.mpr ⟨List.mem_of_getElem? (i := 1730) (by decide +kernel), by decide +kernel⟩
theorem tw_1731 : Cond.methodLink RX12 510 yX12_isColour ∈ wT := List.mem_filter.mpr ⟨List.mem_of_getElem? (i := 1731) (by decide +kernel), by decide +kernel⟩
theorem tw_1733 : Cond.instanceMethod yX12_isColour ∈ wT := List.mem_filter.mpr ⟨List.mem_of_getElem? (i := 1733) (by decide +kernel), by decide +kernel⟩
theorem tw_1734 : Cond.code yX12_isColour cX12_isColour 2 (some .boolean) ∈ wT := List.mem_filter.mpr ⟨List.mem_of_getElem? (i := 1734) (by decide +kernel), by decide +kernel⟩
theorem tw_1735 : Cond.methodLink RX12 513 yX12_isThing ∈ wT := List.mem_filter.mpr ⟨List.mem_of_getElem? (i := 1735) (by decide +kernel), by decide +kernel⟩
theorem tw_1737 : Cond.instanceMethod yX12_isThing ∈ wT := List.mem_filter.mpr ⟨List.mem_of_getElem? (i := 1737) (by decide +kernel), by decide +kernel⟩
theorem tw_1738 : Cond.code yX12_isThing cX12_isThing 2 (some .boolean) ∈ wT := List.mem_filter.mpr ⟨List.mem_of_getElem? (i := 1738) (by decide +kernel), by decide +kernel⟩
theorem tw_1744 : Cond.methodLink RX12 518 yX12_placeOf ∈ wT := List.mem_filter.mpr ⟨List.mem_of_getElem? (i := 1744) (by decide +kernel), by decide +kernel⟩
theorem tw_1746 : Cond.instanceMethod yX12_placeOf ∈ wT := List.mem_filter.mpr ⟨List.mem_of_getElem? (i := 1746) (by decide +kernel), by decide +kernel⟩
theorem tw_1747 : Cond.code yX12_placeOf cX12_placeOf 3 (some .int) ∈ wT := List.mem_filter.mpr ⟨List.mem_of_getElem? (i := 1747) (by decide +kernel), by decide +kernel⟩
theorem tw_1748 : Cond.methodLink RX12 473 yX12_isCounting ∈ wT := List.mem_filter.mpr ⟨List.mem_of_getElem? (i := 1748) (by decide +kernel), by decide +kernel⟩
theorem tw_1750 : Cond.instanceMethod yX12_isCounting ∈ wT := List.mem_filter.mpr ⟨List.mem_of_getElem? (i := 1750) (by decide +kernel), by decide +kernel⟩
theorem tw_1751 : Cond.code yX12_isCounting cX12_isCounting 3 (some .boolean) ∈ wT := List.mem_filter.mpr ⟨List.mem_of_getElem? (i := 1751) (by decide +kernel), by decide +kernel⟩
theorem tw_1752 : Cond.methodLink RX12 450 yX12_isTold ∈ wT := List.mem_filter.mpr ⟨List.mem_of_getElem? (i := 1752) (by decide +kernel), by decide +kernel⟩
theorem tw_1754 : Cond.instanceMethod yX12_isTold ∈ wT := List.mem_filter.mpr ⟨List.mem_of_getElem? (i := 1754) (by decide +kernel), by decide +kernel⟩
theorem tw_1755 : Cond.code yX12_isTold cX12_isTold 2 (some .boolean) ∈ wT := List.mem_filter.mpr ⟨List.mem_of_getElem? (i := 1755) (by decide +kernel), by decide +kernel⟩
theorem tw_1756 : Cond.methodLink RX12 453 yX12_lays ∈ wT := List.mem_filter.mpr ⟨List.mem_of_getElem? (i := 1756) (by decide +kernel), by decide +kernel⟩
theorem tw_1758 : Cond.instanceMethod yX12_lays ∈ wT := List.mem_filter.mpr ⟨List.mem_of_getElem? (i := 1758) (by decide +kernel), by decide +kernel⟩
theorem tw_1759 : Cond.code yX12_lays cX12_lays 3 none ∈ wT := List.mem_filter.mpr ⟨List.mem_of_getElem? (i := 1759) (by decide +kernel), by decide +kernel⟩
theorem tw_1760 : Cond.methodLink RX12 459 yX12_reckons ∈ wT := List.mem_filter.mpr ⟨List.mem_of_getElem? (i := 1760) (by decide +kernel), by decide +kernel⟩
theorem tw_1762 : Cond.instanceMethod yX12_reckons ∈ wT := List.mem_filter.mpr ⟨List.mem_of_getElem? (i := 1762) (by decide +kernel), by decide +kernel⟩
theorem tw_1763 : Cond.code yX12_reckons cX12_reckons 5 (some .long) ∈ wT := List.mem_filter.mpr ⟨List.mem_of_getElem? (i := 1763) (by decide +kernel), by decide +kernel⟩
theorem tw_1764 : Cond.methodLink RX12 439 yX12_two ∈ wT := List.mem_filter.mpr ⟨List.mem_of_getElem? (i := 1764) (by decide +kernel), by decide +kernel⟩
theorem tw_1765 : Cond.static yX12_two ∈ wT := List.mem_filter.mpr ⟨List.mem_of_getElem? (i := 1765) (by decide +kernel), by decide +kernel⟩
theorem tw_1766 : Cond.code yX12_two cX12_two 5 (some .long) ∈ wT := List.mem_filter.mpr ⟨List.mem_of_getElem? (i := 1766) (by decide +kernel), by decide +kernel⟩
theorem tw_1767 : Cond.methodLink RX12 431 yX12_within ∈ wT := List.mem_filter.mpr ⟨List.mem_of_getElem? (i := 1767) (by decide +kernel), by decide +kernel⟩
theorem tw_1768 : Cond.static yX12_within ∈ wT := List.mem_filter.mpr ⟨List.mem_of_getElem? (i := 1768) (by decide +kernel), by decide +kernel⟩
theorem tw_1769 : Cond.code yX12_within cX12_within 2 (some .long) ∈ wT := List.mem_filter.mpr ⟨List.mem_of_getElem? (i := 1769) (by decide +kernel), by decide +kernel⟩
theorem tw_1772 : Cond.methodLink RX12 435 yX12_floor ∈ wT := List.mem_filter.mpr ⟨List.mem_of_getElem? (i := 1772) (by decide +kernel), by decide +kernel⟩
theorem tw_1773 : Cond.static yX12_floor ∈ wT := List.mem_filter.mpr ⟨List.mem_of_getElem? (i := 1773) (by decide +kernel), by decide +kernel⟩
theorem tw_1774 : Cond.code yX12_floor cX12_floor 6 (some .long) ∈ wT := List.mem_filter.mpr ⟨List.mem_of_getElem? (i := 1774) (by decide +kernel), by decide +kernel⟩
theorem tw_1783 : Cond.methodLink RX12 521 yX12_bits ∈ wT := List.mem_filter.mpr ⟨List.mem_of_getElem? (i := 1783) (by decide +kernel), by decide +kernel⟩
theorem tw_1784 : Cond.static yX12_bits ∈ wT := List.mem_filter.mpr ⟨List.mem_of_getElem? (i := 1784) (by decide +kernel), by decide +kernel⟩
theorem tw_1785 : Cond.code yX12_bits cX12_bits 3 (some .int) ∈ wT := List.mem_filter.mpr ⟨List.mem_of_getElem? (i := 1785) (by decide +kernel), by decide +kernel⟩
theorem tw_1790 : Cond.methodLink RX12 463 yX12_scoreOf ∈ wT := List.mem_filter.mpr ⟨List.mem_of_getElem? (i := 1790) (by decide +kernel), by decide +kernel⟩
theorem tw_1792 : Cond.instanceMethod yX12_scoreOf ∈ wT := List.mem_filter.mpr ⟨List.mem_of_getElem? (i := 1792) (by decide +kernel), by decide +kernel⟩
theorem tw_1793 : Cond.code yX12_scoreOf cX12_scoreOf 7 (some .long) ∈ wT := List.mem_filter.mpr ⟨List.mem_of_getElem? (i := 1793) (by decide +kernel), by decide +kernel⟩
theorem tw_1794 : Cond.methodLink RX12 446 yX12_matchOf ∈ wT := List.mem_filter.mpr ⟨List.mem_of_getElem? (i := 1794) (by decide +kernel), by decide +kernel⟩
theorem tw_1796 : Cond.instanceMethod yX12_matchOf ∈ wT := List.mem_filter.mpr ⟨List.mem_of_getElem? (i := 1796) (by decide +kernel), by decide +kernel⟩
theorem tw_1797 : Cond.code yX12_matchOf cX12_matchOf 6 (some .int) ∈ wT := List.mem_filter.mpr ⟨List.mem_of_getElem? (i := 1797) (by decide +kernel), by decide +kernel⟩
theorem tw_1798 : Cond.methodLink RX12 443 yX12_gap ∈ wT := List.mem_filter.mpr ⟨List.mem_of_getElem? (i := 1798) (by decide +kernel), by decide +kernel⟩
theorem tw_1799 : Cond.static yX12_gap ∈ wT := List.mem_filter.mpr ⟨List.mem_of_getElem? (i := 1799) (by decide +kernel), by decide +kernel⟩
theorem tw_1800 : Cond.code yX12_gap cX12_gap 2 (some .int) ∈ wT := List.mem_filter.mpr ⟨List.mem_of_getElem? (i := 1800) (by decide +kernel), by decide +kernel⟩
theorem tw_1806 : Cond.methodLink RX12 467 yX12_hushes ∈ wT := List.mem_filter.mpr ⟨List.mem_of_getElem? (i := 1806) (by decide +kernel), by decide +kernel⟩
theorem tw_1808 : Cond.instanceMethod yX12_hushes ∈ wT := List.mem_filter.mpr ⟨List.mem_of_getElem? (i := 1808) (by decide +kernel), by decide +kernel⟩
theorem tw_1809 : Cond.code yX12_hushes cX12_hushes 2 none ∈ wT := List.mem_filter.mpr ⟨List.mem_of_getElem? (i := 1809) (by decide +kernel), by decide +kernel⟩
theorem tw_1810 : Cond.methodLink RX12 470 yX12_wordBy ∈ wT := List.mem_filter.mpr ⟨List.mem_of_getElem? (i := 1810) (by decide +kernel), by decide +kernel⟩
theorem tw_1812 : Cond.instanceMethod yX12_wordBy ∈ wT := List.mem_filter.mpr ⟨List.mem_of_getElem? (i := 1812) (by decide +kernel), by decide +kernel⟩
theorem tw_1813 : Cond.code yX12_wordBy cX12_wordBy 10 (some .int) ∈ wT := List.mem_filter.mpr ⟨List.mem_of_getElem? (i := 1813) (by decide +kernel), by decide +kernel⟩
theorem tw_1818 : Cond.methodLink RX12 487 yX12_everybody ∈ wT := List.mem_filter.mpr ⟨List.mem_of_getElem? (i := 1818) (by decide +kernel), by decide +kernel⟩
theorem tw_1820 : Cond.instanceMethod yX12_everybody ∈ wT := List.mem_filter.mpr ⟨List.mem_of_getElem? (i := 1820) (by decide +kernel), by decide +kernel⟩
theorem tw_1821 : Cond.code yX12_everybody cX12_everybody 1 (some .int) ∈ wT := List.mem_filter.mpr ⟨List.mem_of_getElem? (i := 1821) (by decide +kernel), by decide +kernel⟩
theorem tw_1822 : Cond.methodLink RX12 491 yX12_choiceOf ∈ wT := List.mem_filter.mpr ⟨List.mem_of_getElem? (i := 1822) (by decide +kernel), by decide +kernel⟩
theorem tw_1824 : Cond.instanceMethod yX12_choiceOf ∈ wT := List.mem_filter.mpr ⟨List.mem_of_getElem? (i := 1824) (by decide +kernel), by decide +kernel⟩
theorem tw_1825 : Cond.code yX12_choiceOf cX12_choiceOf 4 (some .int) ∈ wT := List.mem_filter.mpr ⟨List.mem_of_getElem? (i := 1825) (by decide +kernel), by decide +kernel⟩
theorem tw_1826 : Cond.methodLink RX12 476 yX12_laysNow ∈ wT := List.mem_filter.mpr ⟨List.mem_of_getElem? (i := 1826) (by decide +kernel), by decide +kernel⟩
theorem tw_1828 : Cond.instanceMethod yX12_laysNow ∈ wT := List.mem_filter.mpr ⟨List.mem_of_getElem? (i := 1828) (by decide +kernel), by decide +kernel⟩
theorem tw_1829 : Cond.code yX12_laysNow cX12_laysNow 3 none ∈ wT := List.mem_filter.mpr ⟨List.mem_of_getElem? (i := 1829) (by decide +kernel), by decide +kernel⟩
theorem tw_1830 : Cond.methodLink RX12 479 yX12_chosen ∈ wT := List.mem_filter.mpr ⟨List.mem_of_getElem? (i := 1830) (by decide +kernel), by decide +kernel⟩
theorem tw_1832 : Cond.instanceMethod yX12_chosen ∈ wT := List.mem_filter.mpr ⟨List.mem_of_getElem? (i := 1832) (by decide +kernel), by decide +kernel⟩
theorem tw_1833 : Cond.code yX12_chosen cX12_chosen 6 (some .int) ∈ wT := List.mem_filter.mpr ⟨List.mem_of_getElem? (i := 1833) (by decide +kernel), by decide +kernel⟩
theorem tw_1838 : Cond.methodLink RX12 529 yX12_isAhead ∈ wT := List.mem_filter.mpr ⟨List.mem_of_getElem? (i := 1838) (by decide +kernel), by decide +kernel⟩
theorem tw_1840 : Cond.instanceMethod yX12_isAhead ∈ wT := List.mem_filter.mpr ⟨List.mem_of_getElem? (i := 1840) (by decide +kernel), by decide +kernel⟩
theorem tw_1841 : Cond.code yX12_isAhead cX12_isAhead 4 (some .boolean) ∈ wT := List.mem_filter.mpr ⟨List.mem_of_getElem? (i := 1841) (by decide +kernel), by decide +kernel⟩
theorem tw_1842 : Cond.methodLink RX12 532 yX12_runsOn ∈ wT := List.mem_filter.mpr ⟨List.mem_of_getElem? (i := 1842) (by decide +kernel), by decide +kernel⟩
theorem tw_1844 : Cond.instanceMethod yX12_runsOn ∈ wT := List.mem_filter.mpr ⟨List.mem_of_getElem? (i := 1844) (by decide +kernel), by decide +kernel⟩
theorem tw_1845 : Cond.code yX12_runsOn cX12_runsOn 3 none ∈ wT := List.mem_filter.mpr ⟨List.mem_of_getElem? (i := 1845) (by decide +kernel), by decide +kernel⟩
theorem tw_1846 : Cond.methodLink RX12 526 yX12_ticks ∈ wT := List.mem_filter.mpr ⟨List.mem_of_getElem? (i := 1846) (by decide +kernel), by decide +kernel⟩
theorem tw_1848 : Cond.instanceMethod yX12_ticks ∈ wT := List.mem_filter.mpr ⟨List.mem_of_getElem? (i := 1848) (by decide +kernel), by decide +kernel⟩
theorem tw_1849 : Cond.code yX12_ticks cX12_ticks 7 (some .boolean) ∈ wT := List.mem_filter.mpr ⟨List.mem_of_getElem? (i := 1849) (by decide +kernel), by decide +kernel⟩
theorem tw_1850 : Cond.methodLink RX12 484 yX12_gift ∈ wT := List.mem_filter.mpr ⟨List.mem_of_getElem? (i := 1850) (by decide +kernel), by decide +kernel⟩
theorem tw_1852 : Cond.instanceMethod yX12_gift ∈ wT := List.mem_filter.mpr ⟨List.mem_of_getElem? (i := 1852) (by decide +kernel), by decide +kernel⟩
theorem tw_1853 : Cond.code yX12_gift cX12_gift 4 (some .int) ∈ wT := List.mem_filter.mpr ⟨List.mem_of_getElem? (i := 1853) (by decide +kernel), by decide +kernel⟩
theorem tw_1855 : Cond.methodLink RX12 494 yX12_moods ∈ wT := List.mem_filter.mpr ⟨List.mem_of_getElem? (i := 1855) (by decide +kernel), by decide +kernel⟩
theorem tw_1857 : Cond.instanceMethod yX12_moods ∈ wT := List.mem_filter.mpr ⟨List.mem_of_getElem? (i := 1857) (by decide +kernel), by decide +kernel⟩
theorem tw_1858 : Cond.code yX12_moods cX12_moods 5 none ∈ wT := List.mem_filter.mpr ⟨List.mem_of_getElem? (i := 1858) (by decide +kernel), by decide +kernel⟩
theorem tw_1859 : Cond.methodLink RX12 497 yX12_writesDown ∈ wT := List.mem_filter.mpr ⟨List.mem_of_getElem? (i := 1859) (by decide +kernel), by decide +kernel⟩
theorem tw_1861 : Cond.instanceMethod yX12_writesDown ∈ wT := List.mem_filter.mpr ⟨List.mem_of_getElem? (i := 1861) (by decide +kernel), by decide +kernel⟩
theorem tw_1862 : Cond.code yX12_writesDown cX12_writesDown 5 none ∈ wT := List.mem_filter.mpr ⟨List.mem_of_getElem? (i := 1862) (by decide +kernel), by decide +kernel⟩
theorem tw_1875 : Cond.methodLink RX12 535 yX12_rowsOf ∈ wT := List.mem_filter.mpr ⟨List.mem_of_getElem? (i := 1875) (by decide +kernel), by decide +kernel⟩
theorem tw_1877 : Cond.instanceMethod yX12_rowsOf ∈ wT := List.mem_filter.mpr ⟨List.mem_of_getElem? (i := 1877) (by decide +kernel), by decide +kernel⟩
theorem tw_1878 : Cond.code yX12_rowsOf cX12_rowsOf 3 (some .int) ∈ wT := List.mem_filter.mpr ⟨List.mem_of_getElem? (i := 1878) (by decide +kernel), by decide +kernel⟩
theorem tw_1879 : Cond.methodLink RX12 538 yX12_laysOrder ∈ wT := List.mem_filter.mpr ⟨List.mem_of_getElem? (i := 1879) (by decide +kernel), by decide +kernel⟩
theorem tw_1881 : Cond.instanceMethod yX12_laysOrder ∈ wT := List.mem_filter.mpr ⟨List.mem_of_getElem? (i := 1881) (by decide +kernel), by decide +kernel⟩
theorem tw_1882 : Cond.code yX12_laysOrder cX12_laysOrder 9 none ∈ wT := List.mem_filter.mpr ⟨List.mem_of_getElem? (i := 1882) (by decide +kernel), by decide +kernel⟩
theorem tw_1895 : Cond.methodLink RX12 544 yX12_isCleared ∈ wT := List.mem_filter.mpr ⟨List.mem_of_getElem? (i := 1895) (by decide +kernel), by decide +kernel⟩
theorem tw_1897 : Cond.instanceMethod yX12_isCleared ∈ wT := List.mem_filter.mpr ⟨List.mem_of_getElem? (i := 1897) (by decide +kernel), by decide +kernel⟩
theorem tw_1898 : Cond.code yX12_isCleared cX12_isCleared 6 (some .boolean) ∈ wT := List.mem_filter.mpr ⟨List.mem_of_getElem? (i := 1898) (by decide +kernel), by decide +kernel⟩
theorem tw_1899 : Cond.methodLink RX12 541 yX12_isClear ∈ wT := List.mem_filter.mpr ⟨List.mem_of_getElem? (i := 1899) (by decide +kernel), by decide +kernel⟩
theorem tw_1901 : Cond.instanceMethod yX12_isClear ∈ wT := List.mem_filter.mpr ⟨List.mem_of_getElem? (i := 1901) (by decide +kernel), by decide +kernel⟩
theorem tw_1902 : Cond.code yX12_isClear cX12_isClear 3 (some .boolean) ∈ wT := List.mem_filter.mpr ⟨List.mem_of_getElem? (i := 1902) (by decide +kernel), by decide +kernel⟩
theorem tw_1915 : Cond.methodLink RX12 547 yX12_tasteBits ∈ wT := List.mem_filter.mpr ⟨List.mem_of_getElem? (i := 1915) (by decide +kernel), by decide +kernel⟩
theorem tw_1917 : Cond.instanceMethod yX12_tasteBits ∈ wT := List.mem_filter.mpr ⟨List.mem_of_getElem? (i := 1917) (by decide +kernel), by decide +kernel⟩
theorem tw_1918 : Cond.code yX12_tasteBits cX12_tasteBits 7 (some .int) ∈ wT := List.mem_filter.mpr ⟨List.mem_of_getElem? (i := 1918) (by decide +kernel), by decide +kernel⟩
theorem tw_1924 : Cond.methodLink RX12 551 yX12_mostBy ∈ wT := List.mem_filter.mpr ⟨List.mem_of_getElem? (i := 1924) (by decide +kernel), by decide +kernel⟩
theorem tw_1926 : Cond.instanceMethod yX12_mostBy ∈ wT := List.mem_filter.mpr ⟨List.mem_of_getElem? (i := 1926) (by decide +kernel), by decide +kernel⟩
theorem tw_1927 : Cond.code yX12_mostBy cX12_mostBy 8 (some .int) ∈ wT := List.mem_filter.mpr ⟨List.mem_of_getElem? (i := 1927) (by decide +kernel), by decide +kernel⟩
theorem tw_1932 : Cond.methodLink RX12 554 yX12_keeps ∈ wT := List.mem_filter.mpr ⟨List.mem_of_getElem? (i := 1932) (by decide +kernel), by decide +kernel⟩
theorem tw_1934 : Cond.instanceMethod yX12_keeps ∈ wT := List.mem_filter.mpr ⟨List.mem_of_getElem? (i := 1934) (by decide +kernel), by decide +kernel⟩
theorem tw_1935 : Cond.code yX12_keeps cX12_keeps 1 none ∈ wT := List.mem_filter.mpr ⟨List.mem_of_getElem? (i := 1935) (by decide +kernel), by decide +kernel⟩
theorem tw_1940 : Cond.methodLink RX12 565 yX12_draw ∈ wT := List.mem_filter.mpr ⟨List.mem_of_getElem? (i := 1940) (by decide +kernel), by decide +kernel⟩
theorem tw_1942 : Cond.instanceMethod yX12_draw ∈ wT := List.mem_filter.mpr ⟨List.mem_of_getElem? (i := 1942) (by decide +kernel), by decide +kernel⟩
theorem tw_1943 : Cond.code yX12_draw cX12_draw 2 (some .int) ∈ wT := List.mem_filter.mpr ⟨List.mem_of_getElem? (i := 1943) (by decide +kernel), by decide +kernel⟩
theorem tw_1972 : Cond.methodLink RX12 568 yX12_writes ∈ wT := List.mem_filter.mpr ⟨List.mem_of_getElem? (i := 1972) (by decide +kernel), by decide +kernel⟩
theorem tw_1974 : Cond.instanceMethod yX12_writes ∈ wT := List.mem_filter.mpr ⟨List.mem_of_getElem? (i := 1974) (by decide +kernel), by decide +kernel⟩
theorem tw_1975 : Cond.code yX12_writes cX12_writes 2 none ∈ wT := List.mem_filter.mpr ⟨List.mem_of_getElem? (i := 1975) (by decide +kernel), by decide +kernel⟩
theorem tw_1984 : Cond.methodLink RX12 571 yX12_comesOn ∈ wT := List.mem_filter.mpr ⟨List.mem_of_getElem? (i := 1984) (by decide +kernel), by decide +kernel⟩
theorem tw_1986 : Cond.instanceMethod yX12_comesOn ∈ wT := List.mem_filter.mpr ⟨List.mem_of_getElem? (i := 1986) (by decide +kernel), by decide +kernel⟩
theorem tw_1987 : Cond.code yX12_comesOn cX12_comesOn 8 (some .boolean) ∈ wT := List.mem_filter.mpr ⟨List.mem_of_getElem? (i := 1987) (by decide +kernel), by decide +kernel⟩
theorem tw_1988 : Cond.fieldLink RJ0 9 "java/lang/String" "value" "[B" ∈ wT := List.mem_filter.mpr ⟨List.mem_of_getElem? (i := 1988) (by decide +kernel), by decide +kernel⟩
theorem tw_1989 : Cond.fieldLink RJ0 15 "java/lang/String" "coder" "B" ∈ wT := List.mem_filter.mpr ⟨List.mem_of_getElem? (i := 1989) (by decide +kernel), by decide +kernel⟩
theorem fl_X0_15 : wPL RX0 15 0 1 2 (tyX0 1) true := ⟨RX0, TX0, 2, tyX0, iwX0, rfl, by decide, tw_444, rfl, rfl, by decide, by decide, tyX0_ok, nmX0, rfl, rfl⟩
theorem fl_X0_23 : wPL RX0 23 7 1 0 .int false := ⟨RX7, TX7, 7, tyX7, iwX7, rfl, by decide, tw_196, rfl, rfl, by decide, by decide, tyX7_ok, nmX7, rfl, rfl⟩
theorem fl_X0_29 : wPL RX0 29 3 0 2 (tyX3 0) true := ⟨RX3, TX3, 12, tyX3, iwX3, rfl, by decide, tw_281, rfl, rfl, by decide, by decide, tyX3_ok, nmX3, rfl, rfl⟩
theorem fl_X0_35 : wPL RX0 35 7 0 0 .int false := ⟨RX7, TX7, 7, tyX7, iwX7, rfl, by decide, tw_191, rfl, rfl, by decide, by decide, tyX7_ok, nmX7, rfl, rfl⟩
theorem fl_X0_48 : wPL RX0 48 7 3 2 (tyX7 3) true := ⟨RX7, TX7, 7, tyX7, iwX7, rfl, by decide, tw_204, rfl, rfl, by decide, by decide, tyX7_ok, nmX7, rfl, rfl⟩
theorem fl_X0_84 : wPL RX0 84 7 5 2 (tyX7 5) true := ⟨RX7, TX7, 7, tyX7, iwX7, rfl, by decide, tw_214, rfl, rfl, by decide, by decide, tyX7_ok, nmX7, rfl, rfl⟩
theorem fl_X0_9 : wPL RX0 9 0 0 2 (tyX0 0) true := ⟨RX0, TX0, 2, tyX0, iwX0, rfl, by decide, tw_443, rfl, rfl, by decide, by decide, tyX0_ok, nmX0, rfl, rfl⟩
theorem fl_X0_90 : wPL RX0 90 7 4 2 (tyX7 4) true := ⟨RX7, TX7, 7, tyX7, iwX7, rfl, by decide, tw_210, rfl, rfl, by decide, by decide, tyX7_ok, nmX7, rfl, rfl⟩
theorem fl_X10_15 : wPL RX10 15 10 1 2 (tyX10 1) true := ⟨RX10, TX10, 6, tyX10, iwX10, rfl, by decide, tw_355, rfl, rfl, by decide, by decide, tyX10_ok, nmX10, rfl, rfl⟩
theorem fl_X10_18 : wPL RX10 18 10 2 2 (tyX10 2) true := ⟨RX10, TX10, 6, tyX10, iwX10, rfl, by decide, tw_356, rfl, rfl, by decide, by decide, tyX10_ok, nmX10, rfl, rfl⟩
theorem fl_X10_21 : wPL RX10 21 10 3 0 .int false := ⟨RX10, TX10, 6, tyX10, iwX10, rfl, by decide, tw_357, rfl, rfl, by decide, by decide, tyX10_ok, nmX10, rfl, rfl⟩
theorem fl_X10_25 : wPL RX10 25 10 4 0 .int false := ⟨RX10, TX10, 6, tyX10, iwX10, rfl, by decide, tw_358, rfl, rfl, by decide, by decide, tyX10_ok, nmX10, rfl, rfl⟩
theorem fl_X10_28 : wPL RX10 28 10 5 0 .int false := ⟨RX10, TX10, 6, tyX10, iwX10, rfl, by decide, tw_359, rfl, rfl, by decide, by decide, tyX10_ok, nmX10, rfl, rfl⟩
theorem fl_X10_31 : wPL RX10 31 9 1 0 .int false := ⟨RX9, TX9, 2, tyX9, iwX9, rfl, by decide, tw_160, rfl, rfl, by decide, by decide, tyX9_ok, nmX9, rfl, rfl⟩
theorem fl_X10_9 : wPL RX10 9 10 0 2 (tyX10 0) true := ⟨RX10, TX10, 6, tyX10, iwX10, rfl, by decide, tw_354, rfl, rfl, by decide, by decide, tyX10_ok, nmX10, rfl, rfl⟩
theorem fl_X11_10 : wPL RX11 10 11 0 2 (tyX11 0) true := ⟨RX11, TX11, 17, tyX11, iwX11, rfl, by decide, tw_494, rfl, rfl, by decide, by decide, tyX11_ok, nmX11, rfl, rfl⟩
theorem fl_X11_106 : wPL RX11 106 11 11 2 (tyX11 11) true := ⟨RX11, TX11, 17, tyX11, iwX11, rfl, by decide, tw_505, rfl, rfl, by decide, by decide, tyX11_ok, nmX11, rfl, rfl⟩
theorem fl_X11_114 : wPL RX11 114 9 1 0 .int false := ⟨RX9, TX9, 2, tyX9, iwX9, rfl, by decide, tw_159, rfl, rfl, by decide, by decide, tyX9_ok, nmX9, rfl, rfl⟩
theorem fl_X11_133 : wPL RX11 133 6 6 0 .int false := ⟨RX6, TX6, 8, tyX6, iwX6, rfl, by decide, tw_380, rfl, rfl, by decide, by decide, tyX6_ok, nmX6, rfl, rfl⟩
theorem fl_X11_136 : wPL RX11 136 6 7 0 .int false := ⟨RX6, TX6, 8, tyX6, iwX6, rfl, by decide, tw_382, rfl, rfl, by decide, by decide, tyX6_ok, nmX6, rfl, rfl⟩
theorem fl_X11_139 : wPL RX11 139 4 2 0 .int false := ⟨RX4, TX4, 3, tyX4, iwX4, rfl, by decide, tw_245, rfl, rfl, by decide, by decide, tyX4_ok, nmX4, rfl, rfl⟩
theorem fl_X11_142 : wPL RX11 142 2 5 0 .int false := ⟨RX2, TX2, 9, tyX2, iwX2, rfl, by decide, tw_464, rfl, rfl, by decide, by decide, tyX2_ok, nmX2, rfl, rfl⟩
theorem fl_X11_145 : wPL RX11 145 3 0 2 (tyX3 0) true := ⟨RX3, TX3, 12, tyX3, iwX3, rfl, by decide, tw_285, rfl, rfl, by decide, by decide, tyX3_ok, nmX3, rfl, rfl⟩
theorem fl_X11_147 : wPL RX11 147 7 0 0 .int false := ⟨RX7, TX7, 7, tyX7, iwX7, rfl, by decide, tw_194, rfl, rfl, by decide, by decide, tyX7_ok, nmX7, rfl, rfl⟩
theorem fl_X11_150 : wPL RX11 150 7 1 0 .int false := ⟨RX7, TX7, 7, tyX7, iwX7, rfl, by decide, tw_198, rfl, rfl, by decide, by decide, tyX7_ok, nmX7, rfl, rfl⟩
theorem fl_X11_157 : wPL RX11 157 7 5 2 (tyX7 5) true := ⟨RX7, TX7, 7, tyX7, iwX7, rfl, by decide, tw_216, rfl, rfl, by decide, by decide, tyX7_ok, nmX7, rfl, rfl⟩
theorem fl_X11_164 : wPL RX11 164 7 2 0 .int false := ⟨RX7, TX7, 7, tyX7, iwX7, rfl, by decide, tw_200, rfl, rfl, by decide, by decide, tyX7_ok, nmX7, rfl, rfl⟩
theorem fl_X11_181 : wPL RX11 181 7 4 2 (tyX7 4) true := ⟨RX7, TX7, 7, tyX7, iwX7, rfl, by decide, tw_211, rfl, rfl, by decide, by decide, tyX7_ok, nmX7, rfl, rfl⟩
theorem fl_X11_19 : wPL RX11 19 11 1 2 (tyX11 1) true := ⟨RX11, TX11, 17, tyX11, iwX11, rfl, by decide, tw_495, rfl, rfl, by decide, by decide, tyX11_ok, nmX11, rfl, rfl⟩
theorem fl_X11_194 : wPL RX11 194 3 3 2 (tyX3 3) true := ⟨RX3, TX3, 12, tyX3, iwX3, rfl, by decide, tw_292, rfl, rfl, by decide, by decide, tyX3_ok, nmX3, rfl, rfl⟩
theorem fl_X11_213 : wPL RX11 213 7 3 2 (tyX7 3) true := ⟨RX7, TX7, 7, tyX7, iwX7, rfl, by decide, tw_205, rfl, rfl, by decide, by decide, tyX7_ok, nmX7, rfl, rfl⟩
theorem fl_X11_26 : wPL RX11 26 11 2 2 (tyX11 2) true := ⟨RX11, TX11, 17, tyX11, iwX11, rfl, by decide, tw_496, rfl, rfl, by decide, by decide, tyX11_ok, nmX11, rfl, rfl⟩
theorem fl_X11_265 : wPL RX11 265 2 6 0 .int false := ⟨RX2, TX2, 9, tyX2, iwX2, rfl, by decide, tw_466, rfl, rfl, by decide, by decide, tyX2_ok, nmX2, rfl, rfl⟩
theorem fl_X11_268 : wPL RX11 268 2 7 0 .int false := ⟨RX2, TX2, 9, tyX2, iwX2, rfl, by decide, tw_468, rfl, rfl, by decide, by decide, tyX2_ok, nmX2, rfl, rfl⟩
theorem fl_X11_271 : wPL RX11 271 2 8 0 .int false := ⟨RX2, TX2, 9, tyX2, iwX2, rfl, by decide, tw_470, rfl, rfl, by decide, by decide, tyX2_ok, nmX2, rfl, rfl⟩
theorem fl_X11_285 : wPL RX11 285 3 11 0 .int false := ⟨RX3, TX3, 12, tyX3, iwX3, rfl, by decide, tw_316, rfl, rfl, by decide, by decide, tyX3_ok, nmX3, rfl, rfl⟩
theorem fl_X11_297 : wPL RX11 297 5 1 0 .int false := ⟨RX5, TX5, 2, tyX5, iwX5, rfl, by decide, tw_261, rfl, rfl, by decide, by decide, tyX5_ok, nmX5, rfl, rfl⟩
theorem fl_X11_30 : wPL RX11 30 11 3 2 (tyX11 3) true := ⟨RX11, TX11, 17, tyX11, iwX11, rfl, by decide, tw_497, rfl, rfl, by decide, by decide, tyX11_ok, nmX11, rfl, rfl⟩
theorem fl_X11_36 : wPL RX11 36 11 4 2 (tyX11 4) true := ⟨RX11, TX11, 17, tyX11, iwX11, rfl, by decide, tw_498, rfl, rfl, by decide, by decide, tyX11_ok, nmX11, rfl, rfl⟩
theorem fl_X11_43 : wPL RX11 43 11 5 2 (tyX11 5) true := ⟨RX11, TX11, 17, tyX11, iwX11, rfl, by decide, tw_499, rfl, rfl, by decide, by decide, tyX11_ok, nmX11, rfl, rfl⟩
theorem fl_X11_47 : wPL RX11 47 11 6 2 (tyX11 6) true := ⟨RX11, TX11, 17, tyX11, iwX11, rfl, by decide, tw_500, rfl, rfl, by decide, by decide, tyX11_ok, nmX11, rfl, rfl⟩
theorem fl_X11_51 : wPL RX11 51 11 7 2 (tyX11 7) true := ⟨RX11, TX11, 17, tyX11, iwX11, rfl, by decide, tw_501, rfl, rfl, by decide, by decide, tyX11_ok, nmX11, rfl, rfl⟩
theorem fl_X11_57 : wPL RX11 57 11 12 2 (tyX11 12) false := ⟨RX11, TX11, 17, tyX11, iwX11, rfl, by decide, tw_506, rfl, rfl, by decide, by decide, tyX11_ok, nmX11, rfl, rfl⟩
theorem fl_X11_61 : wPL RX11 61 11 13 2 (tyX11 13) false := ⟨RX11, TX11, 17, tyX11, iwX11, rfl, by decide, tw_507, rfl, rfl, by decide, by decide, tyX11_ok, nmX11, rfl, rfl⟩
theorem fl_X11_64 : wPL RX11 64 11 14 0 .int false := ⟨RX11, TX11, 17, tyX11, iwX11, rfl, by decide, tw_508, rfl, rfl, by decide, by decide, tyX11_ok, nmX11, rfl, rfl⟩
theorem fl_X11_68 : wPL RX11 68 11 15 0 .int false := ⟨RX11, TX11, 17, tyX11, iwX11, rfl, by decide, tw_509, rfl, rfl, by decide, by decide, tyX11_ok, nmX11, rfl, rfl⟩
theorem fl_X11_71 : wPL RX11 71 11 16 0 .int false := ⟨RX11, TX11, 17, tyX11, iwX11, rfl, by decide, tw_510, rfl, rfl, by decide, by decide, tyX11_ok, nmX11, rfl, rfl⟩
theorem fl_X11_79 : wPL RX11 79 11 8 2 (tyX11 8) true := ⟨RX11, TX11, 17, tyX11, iwX11, rfl, by decide, tw_502, rfl, rfl, by decide, by decide, tyX11_ok, nmX11, rfl, rfl⟩
theorem fl_X11_88 : wPL RX11 88 11 9 2 (tyX11 9) true := ⟨RX11, TX11, 17, tyX11, iwX11, rfl, by decide, tw_503, rfl, rfl, by decide, by decide, tyX11_ok, nmX11, rfl, rfl⟩
theorem fl_X11_97 : wPL RX11 97 11 10 2 (tyX11 10) true := ⟨RX11, TX11, 17, tyX11, iwX11, rfl, by decide, tw_504, rfl, rfl, by decide, by decide, tyX11_ok, nmX11, rfl, rfl⟩
theorem fl_X12_102 : wPL RX12 102 12 30 2 (tyX12 30) true := ⟨RX12, TX12, 69, tyX12, iwX12, rfl, by decide, tw_1303, rfl, rfl, by decide, by decide, tyX12_ok, nmX12, rfl, rfl⟩
theorem fl_X12_106 : wPL RX12 106 12 31 0 .int false := ⟨RX12, TX12, 69, tyX12, iwX12, rfl, by decide, tw_1304, rfl, rfl, by decide, by decide, tyX12_ok, nmX12, rfl, rfl⟩
theorem fl_X12_109 : wPL RX12 109 12 32 0 .int false := ⟨RX12, TX12, 69, tyX12, iwX12, rfl, by decide, tw_1305, rfl, rfl, by decide, by decide, tyX12_ok, nmX12, rfl, rfl⟩
theorem fl_X12_112 : wPL RX12 112 12 33 0 .int false := ⟨RX12, TX12, 69, tyX12, iwX12, rfl, by decide, tw_1306, rfl, rfl, by decide, by decide, tyX12_ok, nmX12, rfl, rfl⟩
theorem fl_X12_115 : wPL RX12 115 12 34 2 (tyX12 34) true := ⟨RX12, TX12, 69, tyX12, iwX12, rfl, by decide, tw_1307, rfl, rfl, by decide, by decide, tyX12_ok, nmX12, rfl, rfl⟩
theorem fl_X12_118 : wPL RX12 118 12 35 2 (tyX12 35) true := ⟨RX12, TX12, 69, tyX12, iwX12, rfl, by decide, tw_1308, rfl, rfl, by decide, by decide, tyX12_ok, nmX12, rfl, rfl⟩
theorem fl_X12_121 : wPL RX12 121 12 36 2 (tyX12 36) true := ⟨RX12, TX12, 69, tyX12, iwX12, rfl, by decide, tw_1309, rfl, rfl, by decide, by decide, tyX12_ok, nmX12, rfl, rfl⟩
theorem fl_X12_125 : wPL RX12 125 12 37 2 (tyX12 37) true := ⟨RX12, TX12, 69, tyX12, iwX12, rfl, by decide, tw_1310, rfl, rfl, by decide, by decide, tyX12_ok, nmX12, rfl, rfl⟩
theorem fl_X12_128 : wPL RX12 128 12 38 2 (tyX12 38) true := ⟨RX12, TX12, 69, tyX12, iwX12, rfl, by decide, tw_1311, rfl, rfl, by decide, by decide, tyX12_ok, nmX12, rfl, rfl⟩
theorem fl_X12_13 : wPL RX12 13 12 1 0 .int false := ⟨RX12, TX12, 69, tyX12, iwX12, rfl, by decide, tw_1274, rfl, rfl, by decide, by decide, tyX12_ok, nmX12, rfl, rfl⟩
theorem fl_X12_131 : wPL RX12 131 12 39 0 .int false := ⟨RX12, TX12, 69, tyX12, iwX12, rfl, by decide, tw_1312, rfl, rfl, by decide, by decide, tyX12_ok, nmX12, rfl, rfl⟩
theorem fl_X12_134 : wPL RX12 134 12 40 0 .int false := ⟨RX12, TX12, 69, tyX12, iwX12, rfl, by decide, tw_1313, rfl, rfl, by decide, by decide, tyX12_ok, nmX12, rfl, rfl⟩
theorem fl_X12_137 : wPL RX12 137 12 41 2 (tyX12 41) true := ⟨RX12, TX12, 69, tyX12, iwX12, rfl, by decide, tw_1314, rfl, rfl, by decide, by decide, tyX12_ok, nmX12, rfl, rfl⟩
theorem fl_X12_140 : wPL RX12 140 12 42 0 .int false := ⟨RX12, TX12, 69, tyX12, iwX12, rfl, by decide, tw_1315, rfl, rfl, by decide, by decide, tyX12_ok, nmX12, rfl, rfl⟩
theorem fl_X12_143 : wPL RX12 143 12 43 0 .boolean false := ⟨RX12, TX12, 69, tyX12, iwX12, rfl, by decide, tw_1316, rfl, rfl, by decide, by decide, tyX12_ok, nmX12, rfl, rfl⟩
theorem fl_X12_147 : wPL RX12 147 12 44 2 (tyX12 44) true := ⟨RX12, TX12, 69, tyX12, iwX12, rfl, by decide, tw_1317, rfl, rfl, by decide, by decide, tyX12_ok, nmX12, rfl, rfl⟩
theorem fl_X12_150 : wPL RX12 150 12 45 2 (tyX12 45) true := ⟨RX12, TX12, 69, tyX12, iwX12, rfl, by decide, tw_1318, rfl, rfl, by decide, by decide, tyX12_ok, nmX12, rfl, rfl⟩
theorem fl_X12_153 : wPL RX12 153 12 46 2 (tyX12 46) true := ⟨RX12, TX12, 69, tyX12, iwX12, rfl, by decide, tw_1319, rfl, rfl, by decide, by decide, tyX12_ok, nmX12, rfl, rfl⟩
theorem fl_X12_156 : wPL RX12 156 12 47 2 (tyX12 47) true := ⟨RX12, TX12, 69, tyX12, iwX12, rfl, by decide, tw_1320, rfl, rfl, by decide, by decide, tyX12_ok, nmX12, rfl, rfl⟩
theorem fl_X12_159 : wPL RX12 159 12 48 2 (tyX12 48) true := ⟨RX12, TX12, 69, tyX12, iwX12, rfl, by decide, tw_1321, rfl, rfl, by decide, by decide, tyX12_ok, nmX12, rfl, rfl⟩
theorem fl_X12_162 : wPL RX12 162 12 49 2 (tyX12 49) true := ⟨RX12, TX12, 69, tyX12, iwX12, rfl, by decide, tw_1322, rfl, rfl, by decide, by decide, tyX12_ok, nmX12, rfl, rfl⟩
theorem fl_X12_165 : wPL RX12 165 12 50 2 (tyX12 50) true := ⟨RX12, TX12, 69, tyX12, iwX12, rfl, by decide, tw_1323, rfl, rfl, by decide, by decide, tyX12_ok, nmX12, rfl, rfl⟩
theorem fl_X12_168 : wPL RX12 168 12 51 2 (tyX12 51) true := ⟨RX12, TX12, 69, tyX12, iwX12, rfl, by decide, tw_1324, rfl, rfl, by decide, by decide, tyX12_ok, nmX12, rfl, rfl⟩
theorem fl_X12_17 : wPL RX12 17 12 2 0 .int false := ⟨RX12, TX12, 69, tyX12, iwX12, rfl, by decide, tw_1275, rfl, rfl, by decide, by decide, tyX12_ok, nmX12, rfl, rfl⟩
theorem fl_X12_171 : wPL RX12 171 12 52 0 .int false := ⟨RX12, TX12, 69, tyX12, iwX12, rfl, by decide, tw_1325, rfl, rfl, by decide, by decide, tyX12_ok, nmX12, rfl, rfl⟩
theorem fl_X12_174 : wPL RX12 174 12 53 0 .int false := ⟨RX12, TX12, 69, tyX12, iwX12, rfl, by decide, tw_1326, rfl, rfl, by decide, by decide, tyX12_ok, nmX12, rfl, rfl⟩
theorem fl_X12_177 : wPL RX12 177 12 54 1 .long false := ⟨RX12, TX12, 69, tyX12, iwX12, rfl, by decide, tw_1327, rfl, rfl, by decide, by decide, tyX12_ok, nmX12, rfl, rfl⟩
theorem fl_X12_180 : wPL RX12 180 12 55 2 (tyX12 55) true := ⟨RX12, TX12, 69, tyX12, iwX12, rfl, by decide, tw_1328, rfl, rfl, by decide, by decide, tyX12_ok, nmX12, rfl, rfl⟩
theorem fl_X12_183 : wPL RX12 183 12 56 2 (tyX12 56) true := ⟨RX12, TX12, 69, tyX12, iwX12, rfl, by decide, tw_1329, rfl, rfl, by decide, by decide, tyX12_ok, nmX12, rfl, rfl⟩
theorem fl_X12_186 : wPL RX12 186 12 57 2 (tyX12 57) true := ⟨RX12, TX12, 69, tyX12, iwX12, rfl, by decide, tw_1330, rfl, rfl, by decide, by decide, tyX12_ok, nmX12, rfl, rfl⟩
theorem fl_X12_189 : wPL RX12 189 12 58 2 (tyX12 58) true := ⟨RX12, TX12, 69, tyX12, iwX12, rfl, by decide, tw_1331, rfl, rfl, by decide, by decide, tyX12_ok, nmX12, rfl, rfl⟩
theorem fl_X12_192 : wPL RX12 192 12 59 2 (tyX12 59) true := ⟨RX12, TX12, 69, tyX12, iwX12, rfl, by decide, tw_1332, rfl, rfl, by decide, by decide, tyX12_ok, nmX12, rfl, rfl⟩
theorem fl_X12_195 : wPL RX12 195 12 60 2 (tyX12 60) true := ⟨RX12, TX12, 69, tyX12, iwX12, rfl, by decide, tw_1333, rfl, rfl, by decide, by decide, tyX12_ok, nmX12, rfl, rfl⟩
theorem fl_X12_198 : wPL RX12 198 12 61 2 (tyX12 61) true := ⟨RX12, TX12, 69, tyX12, iwX12, rfl, by decide, tw_1334, rfl, rfl, by decide, by decide, tyX12_ok, nmX12, rfl, rfl⟩
theorem fl_X12_20 : wPL RX12 20 12 3 0 .int false := ⟨RX12, TX12, 69, tyX12, iwX12, rfl, by decide, tw_1276, rfl, rfl, by decide, by decide, tyX12_ok, nmX12, rfl, rfl⟩
theorem fl_X12_201 : wPL RX12 201 12 62 0 .int false := ⟨RX12, TX12, 69, tyX12, iwX12, rfl, by decide, tw_1335, rfl, rfl, by decide, by decide, tyX12_ok, nmX12, rfl, rfl⟩
theorem fl_X12_204 : wPL RX12 204 12 63 2 (tyX12 63) true := ⟨RX12, TX12, 69, tyX12, iwX12, rfl, by decide, tw_1336, rfl, rfl, by decide, by decide, tyX12_ok, nmX12, rfl, rfl⟩
theorem fl_X12_207 : wPL RX12 207 12 64 2 (tyX12 64) true := ⟨RX12, TX12, 69, tyX12, iwX12, rfl, by decide, tw_1337, rfl, rfl, by decide, by decide, tyX12_ok, nmX12, rfl, rfl⟩
theorem fl_X12_210 : wPL RX12 210 12 65 2 (tyX12 65) true := ⟨RX12, TX12, 69, tyX12, iwX12, rfl, by decide, tw_1338, rfl, rfl, by decide, by decide, tyX12_ok, nmX12, rfl, rfl⟩
theorem fl_X12_213 : wPL RX12 213 12 66 2 (tyX12 66) true := ⟨RX12, TX12, 69, tyX12, iwX12, rfl, by decide, tw_1339, rfl, rfl, by decide, by decide, tyX12_ok, nmX12, rfl, rfl⟩
theorem fl_X12_216 : wPL RX12 216 12 67 2 (tyX12 67) true := ⟨RX12, TX12, 69, tyX12, iwX12, rfl, by decide, tw_1340, rfl, rfl, by decide, by decide, tyX12_ok, nmX12, rfl, rfl⟩
theorem fl_X12_219 : wPL RX12 219 12 68 0 .int false := ⟨RX12, TX12, 69, tyX12, iwX12, rfl, by decide, tw_1341, rfl, rfl, by decide, by decide, tyX12_ok, nmX12, rfl, rfl⟩
theorem fl_X12_23 : wPL RX12 23 12 4 0 .int false := ⟨RX12, TX12, 69, tyX12, iwX12, rfl, by decide, tw_1277, rfl, rfl, by decide, by decide, tyX12_ok, nmX12, rfl, rfl⟩
theorem fl_X12_26 : wPL RX12 26 12 5 0 .int false := ⟨RX12, TX12, 69, tyX12, iwX12, rfl, by decide, tw_1278, rfl, rfl, by decide, by decide, tyX12_ok, nmX12, rfl, rfl⟩
theorem fl_X12_29 : wPL RX12 29 12 6 0 .int false := ⟨RX12, TX12, 69, tyX12, iwX12, rfl, by decide, tw_1279, rfl, rfl, by decide, by decide, tyX12_ok, nmX12, rfl, rfl⟩
theorem fl_X12_32 : wPL RX12 32 12 7 1 .long false := ⟨RX12, TX12, 69, tyX12, iwX12, rfl, by decide, tw_1280, rfl, rfl, by decide, by decide, tyX12_ok, nmX12, rfl, rfl⟩
theorem fl_X12_36 : wPL RX12 36 12 8 0 .int false := ⟨RX12, TX12, 69, tyX12, iwX12, rfl, by decide, tw_1281, rfl, rfl, by decide, by decide, tyX12_ok, nmX12, rfl, rfl⟩
theorem fl_X12_39 : wPL RX12 39 12 9 0 .int false := ⟨RX12, TX12, 69, tyX12, iwX12, rfl, by decide, tw_1282, rfl, rfl, by decide, by decide, tyX12_ok, nmX12, rfl, rfl⟩
theorem fl_X12_42 : wPL RX12 42 12 10 0 .int false := ⟨RX12, TX12, 69, tyX12, iwX12, rfl, by decide, tw_1283, rfl, rfl, by decide, by decide, tyX12_ok, nmX12, rfl, rfl⟩
theorem fl_X12_45 : wPL RX12 45 12 11 0 .int false := ⟨RX12, TX12, 69, tyX12, iwX12, rfl, by decide, tw_1284, rfl, rfl, by decide, by decide, tyX12_ok, nmX12, rfl, rfl⟩
theorem fl_X12_48 : wPL RX12 48 12 12 0 .int false := ⟨RX12, TX12, 69, tyX12, iwX12, rfl, by decide, tw_1285, rfl, rfl, by decide, by decide, tyX12_ok, nmX12, rfl, rfl⟩
theorem fl_X12_51 : wPL RX12 51 12 13 0 .int false := ⟨RX12, TX12, 69, tyX12, iwX12, rfl, by decide, tw_1286, rfl, rfl, by decide, by decide, tyX12_ok, nmX12, rfl, rfl⟩
theorem fl_X12_54 : wPL RX12 54 12 14 2 (tyX12 14) true := ⟨RX12, TX12, 69, tyX12, iwX12, rfl, by decide, tw_1287, rfl, rfl, by decide, by decide, tyX12_ok, nmX12, rfl, rfl⟩
theorem fl_X12_57 : wPL RX12 57 12 15 2 (tyX12 15) true := ⟨RX12, TX12, 69, tyX12, iwX12, rfl, by decide, tw_1288, rfl, rfl, by decide, by decide, tyX12_ok, nmX12, rfl, rfl⟩
theorem fl_X12_60 : wPL RX12 60 12 16 2 (tyX12 16) true := ⟨RX12, TX12, 69, tyX12, iwX12, rfl, by decide, tw_1289, rfl, rfl, by decide, by decide, tyX12_ok, nmX12, rfl, rfl⟩
theorem fl_X12_63 : wPL RX12 63 12 17 2 (tyX12 17) true := ⟨RX12, TX12, 69, tyX12, iwX12, rfl, by decide, tw_1290, rfl, rfl, by decide, by decide, tyX12_ok, nmX12, rfl, rfl⟩
theorem fl_X12_66 : wPL RX12 66 12 18 2 (tyX12 18) true := ⟨RX12, TX12, 69, tyX12, iwX12, rfl, by decide, tw_1291, rfl, rfl, by decide, by decide, tyX12_ok, nmX12, rfl, rfl⟩
theorem fl_X12_69 : wPL RX12 69 12 19 2 (tyX12 19) true := ⟨RX12, TX12, 69, tyX12, iwX12, rfl, by decide, tw_1292, rfl, rfl, by decide, by decide, tyX12_ok, nmX12, rfl, rfl⟩
theorem fl_X12_7 : wPL RX12 7 12 0 2 (tyX12 0) true := ⟨RX12, TX12, 69, tyX12, iwX12, rfl, by decide, tw_1273, rfl, rfl, by decide, by decide, tyX12_ok, nmX12, rfl, rfl⟩
theorem fl_X12_72 : wPL RX12 72 12 20 2 (tyX12 20) true := ⟨RX12, TX12, 69, tyX12, iwX12, rfl, by decide, tw_1293, rfl, rfl, by decide, by decide, tyX12_ok, nmX12, rfl, rfl⟩
theorem fl_X12_75 : wPL RX12 75 12 21 2 (tyX12 21) true := ⟨RX12, TX12, 69, tyX12, iwX12, rfl, by decide, tw_1294, rfl, rfl, by decide, by decide, tyX12_ok, nmX12, rfl, rfl⟩
theorem fl_X12_78 : wPL RX12 78 12 22 2 (tyX12 22) true := ⟨RX12, TX12, 69, tyX12, iwX12, rfl, by decide, tw_1295, rfl, rfl, by decide, by decide, tyX12_ok, nmX12, rfl, rfl⟩
theorem fl_X12_81 : wPL RX12 81 12 23 2 (tyX12 23) true := ⟨RX12, TX12, 69, tyX12, iwX12, rfl, by decide, tw_1296, rfl, rfl, by decide, by decide, tyX12_ok, nmX12, rfl, rfl⟩
theorem fl_X12_84 : wPL RX12 84 12 24 2 (tyX12 24) true := ⟨RX12, TX12, 69, tyX12, iwX12, rfl, by decide, tw_1297, rfl, rfl, by decide, by decide, tyX12_ok, nmX12, rfl, rfl⟩
theorem fl_X12_87 : wPL RX12 87 12 25 2 (tyX12 25) true := ⟨RX12, TX12, 69, tyX12, iwX12, rfl, by decide, tw_1298, rfl, rfl, by decide, by decide, tyX12_ok, nmX12, rfl, rfl⟩
theorem fl_X12_90 : wPL RX12 90 12 26 2 (tyX12 26) true := ⟨RX12, TX12, 69, tyX12, iwX12, rfl, by decide, tw_1299, rfl, rfl, by decide, by decide, tyX12_ok, nmX12, rfl, rfl⟩
theorem fl_X12_93 : wPL RX12 93 12 27 2 (tyX12 27) true := ⟨RX12, TX12, 69, tyX12, iwX12, rfl, by decide, tw_1300, rfl, rfl, by decide, by decide, tyX12_ok, nmX12, rfl, rfl⟩
theorem fl_X12_96 : wPL RX12 96 12 28 2 (tyX12 28) true := ⟨RX12, TX12, 69, tyX12, iwX12, rfl, by decide, tw_1301, rfl, rfl, by decide, by decide, tyX12_ok, nmX12, rfl, rfl⟩
theorem fl_X12_99 : wPL RX12 99 12 29 2 (tyX12 29) true := ⟨RX12, TX12, 69, tyX12, iwX12, rfl, by decide, tw_1302, rfl, rfl, by decide, by decide, tyX12_ok, nmX12, rfl, rfl⟩
theorem fl_X1_129 : wPL RX1 129 7 3 2 (tyX7 3) true := ⟨RX7, TX7, 7, tyX7, iwX7, rfl, by decide, tw_206, rfl, rfl, by decide, by decide, tyX7_ok, nmX7, rfl, rfl⟩
theorem fl_X1_132 : wPL RX1 132 3 11 0 .int false := ⟨RX3, TX3, 12, tyX3, iwX3, rfl, by decide, tw_315, rfl, rfl, by decide, by decide, tyX3_ok, nmX3, rfl, rfl⟩
theorem fl_X1_15 : wPL RX1 15 1 2 2 (tyX1 2) true := ⟨RX1, TX1, 10, tyX1, iwX1, rfl, by decide, tw_408, rfl, rfl, by decide, by decide, tyX1_ok, nmX1, rfl, rfl⟩
theorem fl_X1_18 : wPL RX1 18 1 3 2 (tyX1 3) true := ⟨RX1, TX1, 10, tyX1, iwX1, rfl, by decide, tw_409, rfl, rfl, by decide, by decide, tyX1_ok, nmX1, rfl, rfl⟩
theorem fl_X1_21 : wPL RX1 21 1 6 0 .int false := ⟨RX1, TX1, 10, tyX1, iwX1, rfl, by decide, tw_412, rfl, rfl, by decide, by decide, tyX1_ok, nmX1, rfl, rfl⟩
theorem fl_X1_25 : wPL RX1 25 1 7 0 .int false := ⟨RX1, TX1, 10, tyX1, iwX1, rfl, by decide, tw_413, rfl, rfl, by decide, by decide, tyX1_ok, nmX1, rfl, rfl⟩
theorem fl_X1_28 : wPL RX1 28 1 8 0 .int false := ⟨RX1, TX1, 10, tyX1, iwX1, rfl, by decide, tw_414, rfl, rfl, by decide, by decide, tyX1_ok, nmX1, rfl, rfl⟩
theorem fl_X1_31 : wPL RX1 31 1 9 0 .int false := ⟨RX1, TX1, 10, tyX1, iwX1, rfl, by decide, tw_415, rfl, rfl, by decide, by decide, tyX1_ok, nmX1, rfl, rfl⟩
theorem fl_X1_34 : wPL RX1 34 1 0 2 (tyX1 0) true := ⟨RX1, TX1, 10, tyX1, iwX1, rfl, by decide, tw_406, rfl, rfl, by decide, by decide, tyX1_ok, nmX1, rfl, rfl⟩
theorem fl_X1_38 : wPL RX1 38 1 4 2 (tyX1 4) false := ⟨RX1, TX1, 10, tyX1, iwX1, rfl, by decide, tw_410, rfl, rfl, by decide, by decide, tyX1_ok, nmX1, rfl, rfl⟩
theorem fl_X1_42 : wPL RX1 42 1 5 2 (tyX1 5) false := ⟨RX1, TX1, 10, tyX1, iwX1, rfl, by decide, tw_411, rfl, rfl, by decide, by decide, tyX1_ok, nmX1, rfl, rfl⟩
theorem fl_X1_53 : wPL RX1 53 3 0 2 (tyX3 0) true := ⟨RX3, TX3, 12, tyX3, iwX3, rfl, by decide, tw_283, rfl, rfl, by decide, by decide, tyX3_ok, nmX3, rfl, rfl⟩
theorem fl_X1_72 : wPL RX1 72 7 0 0 .int false := ⟨RX7, TX7, 7, tyX7, iwX7, rfl, by decide, tw_193, rfl, rfl, by decide, by decide, tyX7_ok, nmX7, rfl, rfl⟩
theorem fl_X1_81 : wPL RX1 81 7 4 2 (tyX7 4) true := ⟨RX7, TX7, 7, tyX7, iwX7, rfl, by decide, tw_209, rfl, rfl, by decide, by decide, tyX7_ok, nmX7, rfl, rfl⟩
theorem fl_X1_9 : wPL RX1 9 1 1 2 (tyX1 1) true := ⟨RX1, TX1, 10, tyX1, iwX1, rfl, by decide, tw_407, rfl, rfl, by decide, by decide, tyX1_ok, nmX1, rfl, rfl⟩
theorem fl_X2_12 : wPL RX2 12 2 2 2 (tyX2 2) true := ⟨RX2, TX2, 9, tyX2, iwX2, rfl, by decide, tw_460, rfl, rfl, by decide, by decide, tyX2_ok, nmX2, rfl, rfl⟩
theorem fl_X2_18 : wPL RX2 18 2 3 2 (tyX2 3) true := ⟨RX2, TX2, 9, tyX2, iwX2, rfl, by decide, tw_461, rfl, rfl, by decide, by decide, tyX2_ok, nmX2, rfl, rfl⟩
theorem fl_X2_22 : wPL RX2 22 2 4 2 (tyX2 4) true := ⟨RX2, TX2, 9, tyX2, iwX2, rfl, by decide, tw_462, rfl, rfl, by decide, by decide, tyX2_ok, nmX2, rfl, rfl⟩
theorem fl_X2_25 : wPL RX2 25 2 5 0 .int false := ⟨RX2, TX2, 9, tyX2, iwX2, rfl, by decide, tw_463, rfl, rfl, by decide, by decide, tyX2_ok, nmX2, rfl, rfl⟩
theorem fl_X2_29 : wPL RX2 29 2 6 0 .int false := ⟨RX2, TX2, 9, tyX2, iwX2, rfl, by decide, tw_465, rfl, rfl, by decide, by decide, tyX2_ok, nmX2, rfl, rfl⟩
theorem fl_X2_32 : wPL RX2 32 2 7 0 .int false := ⟨RX2, TX2, 9, tyX2, iwX2, rfl, by decide, tw_467, rfl, rfl, by decide, by decide, tyX2_ok, nmX2, rfl, rfl⟩
theorem fl_X2_35 : wPL RX2 35 2 8 0 .int false := ⟨RX2, TX2, 9, tyX2, iwX2, rfl, by decide, tw_469, rfl, rfl, by decide, by decide, tyX2_ok, nmX2, rfl, rfl⟩
theorem fl_X2_38 : wPL RX2 38 2 0 2 (tyX2 0) true := ⟨RX2, TX2, 9, tyX2, iwX2, rfl, by decide, tw_458, rfl, rfl, by decide, by decide, tyX2_ok, nmX2, rfl, rfl⟩
theorem fl_X2_42 : wPL RX2 42 2 1 2 (tyX2 1) true := ⟨RX2, TX2, 9, tyX2, iwX2, rfl, by decide, tw_459, rfl, rfl, by decide, by decide, tyX2_ok, nmX2, rfl, rfl⟩
theorem fl_X2_46 : wPL RX2 46 9 1 0 .int false := ⟨RX9, TX9, 2, tyX9, iwX9, rfl, by decide, tw_158, rfl, rfl, by decide, by decide, tyX9_ok, nmX9, rfl, rfl⟩
theorem fl_X2_61 : wPL RX2 61 7 0 0 .int false := ⟨RX7, TX7, 7, tyX7, iwX7, rfl, by decide, tw_192, rfl, rfl, by decide, by decide, tyX7_ok, nmX7, rfl, rfl⟩
theorem fl_X2_84 : wPL RX2 84 7 5 2 (tyX7 5) true := ⟨RX7, TX7, 7, tyX7, iwX7, rfl, by decide, tw_215, rfl, rfl, by decide, by decide, tyX7_ok, nmX7, rfl, rfl⟩
theorem fl_X2_93 : wPL RX2 93 3 0 2 (tyX3 0) true := ⟨RX3, TX3, 12, tyX3, iwX3, rfl, by decide, tw_284, rfl, rfl, by decide, by decide, tyX3_ok, nmX3, rfl, rfl⟩
theorem fl_X3_15 : wPL RX3 15 3 1 2 (tyX3 1) true := ⟨RX3, TX3, 12, tyX3, iwX3, rfl, by decide, tw_287, rfl, rfl, by decide, by decide, tyX3_ok, nmX3, rfl, rfl⟩
theorem fl_X3_18 : wPL RX3 18 3 2 2 (tyX3 2) true := ⟨RX3, TX3, 12, tyX3, iwX3, rfl, by decide, tw_289, rfl, rfl, by decide, by decide, tyX3_ok, nmX3, rfl, rfl⟩
theorem fl_X3_21 : wPL RX3 21 3 3 2 (tyX3 3) true := ⟨RX3, TX3, 12, tyX3, iwX3, rfl, by decide, tw_291, rfl, rfl, by decide, by decide, tyX3_ok, nmX3, rfl, rfl⟩
theorem fl_X3_24 : wPL RX3 24 3 4 2 (tyX3 4) true := ⟨RX3, TX3, 12, tyX3, iwX3, rfl, by decide, tw_294, rfl, rfl, by decide, by decide, tyX3_ok, nmX3, rfl, rfl⟩
theorem fl_X3_27 : wPL RX3 27 3 5 2 (tyX3 5) true := ⟨RX3, TX3, 12, tyX3, iwX3, rfl, by decide, tw_297, rfl, rfl, by decide, by decide, tyX3_ok, nmX3, rfl, rfl⟩
theorem fl_X3_30 : wPL RX3 30 3 6 2 (tyX3 6) true := ⟨RX3, TX3, 12, tyX3, iwX3, rfl, by decide, tw_300, rfl, rfl, by decide, by decide, tyX3_ok, nmX3, rfl, rfl⟩
theorem fl_X3_33 : wPL RX3 33 3 7 2 (tyX3 7) true := ⟨RX3, TX3, 12, tyX3, iwX3, rfl, by decide, tw_303, rfl, rfl, by decide, by decide, tyX3_ok, nmX3, rfl, rfl⟩
theorem fl_X3_36 : wPL RX3 36 3 8 0 .int false := ⟨RX3, TX3, 12, tyX3, iwX3, rfl, by decide, tw_306, rfl, rfl, by decide, by decide, tyX3_ok, nmX3, rfl, rfl⟩
theorem fl_X3_40 : wPL RX3 40 3 9 0 .int false := ⟨RX3, TX3, 12, tyX3, iwX3, rfl, by decide, tw_308, rfl, rfl, by decide, by decide, tyX3_ok, nmX3, rfl, rfl⟩
theorem fl_X3_43 : wPL RX3 43 3 10 0 .int false := ⟨RX3, TX3, 12, tyX3, iwX3, rfl, by decide, tw_310, rfl, rfl, by decide, by decide, tyX3_ok, nmX3, rfl, rfl⟩
theorem fl_X3_46 : wPL RX3 46 3 11 0 .int false := ⟨RX3, TX3, 12, tyX3, iwX3, rfl, by decide, tw_313, rfl, rfl, by decide, by decide, tyX3_ok, nmX3, rfl, rfl⟩
theorem fl_X3_9 : wPL RX3 9 3 0 2 (tyX3 0) true := ⟨RX3, TX3, 12, tyX3, iwX3, rfl, by decide, tw_280, rfl, rfl, by decide, by decide, tyX3_ok, nmX3, rfl, rfl⟩
theorem fl_X4_11 : wPL RX4 11 4 0 2 (tyX4 0) true := ⟨RX4, TX4, 3, tyX4, iwX4, rfl, by decide, tw_242, rfl, rfl, by decide, by decide, tyX4_ok, nmX4, rfl, rfl⟩
theorem fl_X4_15 : wPL RX4 15 4 1 0 .int false := ⟨RX4, TX4, 3, tyX4, iwX4, rfl, by decide, tw_243, rfl, rfl, by decide, by decide, tyX4_ok, nmX4, rfl, rfl⟩
theorem fl_X4_19 : wPL RX4 19 4 2 0 .int false := ⟨RX4, TX4, 3, tyX4, iwX4, rfl, by decide, tw_244, rfl, rfl, by decide, by decide, tyX4_ok, nmX4, rfl, rfl⟩
theorem fl_X5_15 : wPL RX5 15 5 1 0 .int false := ⟨RX5, TX5, 2, tyX5, iwX5, rfl, by decide, tw_260, rfl, rfl, by decide, by decide, tyX5_ok, nmX5, rfl, rfl⟩
theorem fl_X5_19 : wPL RX5 19 7 0 0 .int false := ⟨RX7, TX7, 7, tyX7, iwX7, rfl, by decide, tw_190, rfl, rfl, by decide, by decide, tyX7_ok, nmX7, rfl, rfl⟩
theorem fl_X5_28 : wPL RX5 28 7 1 0 .int false := ⟨RX7, TX7, 7, tyX7, iwX7, rfl, by decide, tw_197, rfl, rfl, by decide, by decide, tyX7_ok, nmX7, rfl, rfl⟩
theorem fl_X5_31 : wPL RX5 31 3 0 2 (tyX3 0) true := ⟨RX3, TX3, 12, tyX3, iwX3, rfl, by decide, tw_282, rfl, rfl, by decide, by decide, tyX3_ok, nmX3, rfl, rfl⟩
theorem fl_X5_36 : wPL RX5 36 7 3 2 (tyX7 3) true := ⟨RX7, TX7, 7, tyX7, iwX7, rfl, by decide, tw_203, rfl, rfl, by decide, by decide, tyX7_ok, nmX7, rfl, rfl⟩
theorem fl_X5_39 : wPL RX5 39 7 4 2 (tyX7 4) true := ⟨RX7, TX7, 7, tyX7, iwX7, rfl, by decide, tw_208, rfl, rfl, by decide, by decide, tyX7_ok, nmX7, rfl, rfl⟩
theorem fl_X5_42 : wPL RX5 42 7 5 2 (tyX7 5) true := ⟨RX7, TX7, 7, tyX7, iwX7, rfl, by decide, tw_213, rfl, rfl, by decide, by decide, tyX7_ok, nmX7, rfl, rfl⟩
theorem fl_X5_45 : wPL RX5 45 9 1 0 .int false := ⟨RX9, TX9, 2, tyX9, iwX9, rfl, by decide, tw_161, rfl, rfl, by decide, by decide, tyX9_ok, nmX9, rfl, rfl⟩
theorem fl_X5_68 : wPL RX5 68 7 2 0 .int false := ⟨RX7, TX7, 7, tyX7, iwX7, rfl, by decide, tw_201, rfl, rfl, by decide, by decide, tyX7_ok, nmX7, rfl, rfl⟩
theorem fl_X5_9 : wPL RX5 9 5 0 2 (tyX5 0) true := ⟨RX5, TX5, 2, tyX5, iwX5, rfl, by decide, tw_259, rfl, rfl, by decide, by decide, tyX5_ok, nmX5, rfl, rfl⟩
theorem fl_X6_119 : wPL RX6 119 3 10 0 .int false := ⟨RX3, TX3, 12, tyX3, iwX3, rfl, by decide, tw_312, rfl, rfl, by decide, by decide, tyX3_ok, nmX3, rfl, rfl⟩
theorem fl_X6_12 : wPL RX6 12 6 1 2 (tyX6 1) true := ⟨RX6, TX6, 8, tyX6, iwX6, rfl, by decide, tw_374, rfl, rfl, by decide, by decide, tyX6_ok, nmX6, rfl, rfl⟩
theorem fl_X6_122 : wPL RX6 122 3 11 0 .int false := ⟨RX3, TX3, 12, tyX3, iwX3, rfl, by decide, tw_314, rfl, rfl, by decide, by decide, tyX3_ok, nmX3, rfl, rfl⟩
theorem fl_X6_132 : wPL RX6 132 3 0 2 (tyX3 0) true := ⟨RX3, TX3, 12, tyX3, iwX3, rfl, by decide, tw_286, rfl, rfl, by decide, by decide, tyX3_ok, nmX3, rfl, rfl⟩
theorem fl_X6_146 : wPL RX6 146 3 1 2 (tyX3 1) true := ⟨RX3, TX3, 12, tyX3, iwX3, rfl, by decide, tw_288, rfl, rfl, by decide, by decide, tyX3_ok, nmX3, rfl, rfl⟩
theorem fl_X6_149 : wPL RX6 149 3 2 2 (tyX3 2) true := ⟨RX3, TX3, 12, tyX3, iwX3, rfl, by decide, tw_290, rfl, rfl, by decide, by decide, tyX3_ok, nmX3, rfl, rfl⟩
theorem fl_X6_165 : wPL RX6 165 3 9 0 .int false := ⟨RX3, TX3, 12, tyX3, iwX3, rfl, by decide, tw_309, rfl, rfl, by decide, by decide, tyX3_ok, nmX3, rfl, rfl⟩
theorem fl_X6_168 : wPL RX6 168 3 3 2 (tyX3 3) true := ⟨RX3, TX3, 12, tyX3, iwX3, rfl, by decide, tw_293, rfl, rfl, by decide, by decide, tyX3_ok, nmX3, rfl, rfl⟩
theorem fl_X6_171 : wPL RX6 171 3 4 2 (tyX3 4) true := ⟨RX3, TX3, 12, tyX3, iwX3, rfl, by decide, tw_296, rfl, rfl, by decide, by decide, tyX3_ok, nmX3, rfl, rfl⟩
theorem fl_X6_177 : wPL RX6 177 3 6 2 (tyX3 6) true := ⟨RX3, TX3, 12, tyX3, iwX3, rfl, by decide, tw_302, rfl, rfl, by decide, by decide, tyX3_ok, nmX3, rfl, rfl⟩
theorem fl_X6_18 : wPL RX6 18 6 3 0 .int false := ⟨RX6, TX6, 8, tyX6, iwX6, rfl, by decide, tw_376, rfl, rfl, by decide, by decide, tyX6_ok, nmX6, rfl, rfl⟩
theorem fl_X6_180 : wPL RX6 180 3 8 0 .int false := ⟨RX3, TX3, 12, tyX3, iwX3, rfl, by decide, tw_307, rfl, rfl, by decide, by decide, tyX3_ok, nmX3, rfl, rfl⟩
theorem fl_X6_189 : wPL RX6 189 3 7 2 (tyX3 7) true := ⟨RX3, TX3, 12, tyX3, iwX3, rfl, by decide, tw_305, rfl, rfl, by decide, by decide, tyX3_ok, nmX3, rfl, rfl⟩
theorem fl_X6_192 : wPL RX6 192 3 5 2 (tyX3 5) true := ⟨RX3, TX3, 12, tyX3, iwX3, rfl, by decide, tw_299, rfl, rfl, by decide, by decide, tyX3_ok, nmX3, rfl, rfl⟩
theorem fl_X6_22 : wPL RX6 22 6 4 0 .int false := ⟨RX6, TX6, 8, tyX6, iwX6, rfl, by decide, tw_377, rfl, rfl, by decide, by decide, tyX6_ok, nmX6, rfl, rfl⟩
theorem fl_X6_25 : wPL RX6 25 6 5 0 .int false := ⟨RX6, TX6, 8, tyX6, iwX6, rfl, by decide, tw_378, rfl, rfl, by decide, by decide, tyX6_ok, nmX6, rfl, rfl⟩
theorem fl_X6_28 : wPL RX6 28 6 6 0 .int false := ⟨RX6, TX6, 8, tyX6, iwX6, rfl, by decide, tw_379, rfl, rfl, by decide, by decide, tyX6_ok, nmX6, rfl, rfl⟩
theorem fl_X6_31 : wPL RX6 31 6 7 0 .int false := ⟨RX6, TX6, 8, tyX6, iwX6, rfl, by decide, tw_381, rfl, rfl, by decide, by decide, tyX6_ok, nmX6, rfl, rfl⟩
theorem fl_X6_34 : wPL RX6 34 6 0 2 (tyX6 0) true := ⟨RX6, TX6, 8, tyX6, iwX6, rfl, by decide, tw_373, rfl, rfl, by decide, by decide, tyX6_ok, nmX6, rfl, rfl⟩
theorem fl_X6_38 : wPL RX6 38 6 2 2 (tyX6 2) false := ⟨RX6, TX6, 8, tyX6, iwX6, rfl, by decide, tw_375, rfl, rfl, by decide, by decide, tyX6_ok, nmX6, rfl, rfl⟩
theorem fl_X7_15 : wPL RX7 15 7 1 0 .int false := ⟨RX7, TX7, 7, tyX7, iwX7, rfl, by decide, tw_195, rfl, rfl, by decide, by decide, tyX7_ok, nmX7, rfl, rfl⟩
theorem fl_X7_18 : wPL RX7 18 7 2 0 .int false := ⟨RX7, TX7, 7, tyX7, iwX7, rfl, by decide, tw_199, rfl, rfl, by decide, by decide, tyX7_ok, nmX7, rfl, rfl⟩
theorem fl_X7_21 : wPL RX7 21 7 3 2 (tyX7 3) true := ⟨RX7, TX7, 7, tyX7, iwX7, rfl, by decide, tw_202, rfl, rfl, by decide, by decide, tyX7_ok, nmX7, rfl, rfl⟩
theorem fl_X7_25 : wPL RX7 25 7 4 2 (tyX7 4) true := ⟨RX7, TX7, 7, tyX7, iwX7, rfl, by decide, tw_207, rfl, rfl, by decide, by decide, tyX7_ok, nmX7, rfl, rfl⟩
theorem fl_X7_28 : wPL RX7 28 7 5 2 (tyX7 5) true := ⟨RX7, TX7, 7, tyX7, iwX7, rfl, by decide, tw_212, rfl, rfl, by decide, by decide, tyX7_ok, nmX7, rfl, rfl⟩
theorem fl_X7_31 : wPL RX7 31 7 6 2 (tyX7 6) true := ⟨RX7, TX7, 7, tyX7, iwX7, rfl, by decide, tw_217, rfl, rfl, by decide, by decide, tyX7_ok, nmX7, rfl, rfl⟩
theorem fl_X7_34 : wPL RX7 34 3 10 0 .int false := ⟨RX3, TX3, 12, tyX3, iwX3, rfl, by decide, tw_311, rfl, rfl, by decide, by decide, tyX3_ok, nmX3, rfl, rfl⟩
theorem fl_X7_39 : wPL RX7 39 3 4 2 (tyX3 4) true := ⟨RX3, TX3, 12, tyX3, iwX3, rfl, by decide, tw_295, rfl, rfl, by decide, by decide, tyX3_ok, nmX3, rfl, rfl⟩
theorem fl_X7_9 : wPL RX7 9 7 0 0 .int false := ⟨RX7, TX7, 7, tyX7, iwX7, rfl, by decide, tw_189, rfl, rfl, by decide, by decide, tyX7_ok, nmX7, rfl, rfl⟩
theorem fl_X8_13 : wPL RX8 13 8 1 2 (tyX8 1) true := ⟨RX8, TX8, 2, tyX8, iwX8, rfl, by decide, tw_175, rfl, rfl, by decide, by decide, tyX8_ok, nmX8, rfl, rfl⟩
theorem fl_X8_23 : wPL RX8 23 3 7 2 (tyX3 7) true := ⟨RX3, TX3, 12, tyX3, iwX3, rfl, by decide, tw_304, rfl, rfl, by decide, by decide, tyX3_ok, nmX3, rfl, rfl⟩
theorem fl_X8_26 : wPL RX8 26 3 5 2 (tyX3 5) true := ⟨RX3, TX3, 12, tyX3, iwX3, rfl, by decide, tw_298, rfl, rfl, by decide, by decide, tyX3_ok, nmX3, rfl, rfl⟩
theorem fl_X8_29 : wPL RX8 29 3 6 2 (tyX3 6) true := ⟨RX3, TX3, 12, tyX3, iwX3, rfl, by decide, tw_301, rfl, rfl, by decide, by decide, tyX3_ok, nmX3, rfl, rfl⟩
theorem fl_X8_7 : wPL RX8 7 8 0 2 (tyX8 0) true := ⟨RX8, TX8, 2, tyX8, iwX8, rfl, by decide, tw_174, rfl, rfl, by decide, by decide, tyX8_ok, nmX8, rfl, rfl⟩
theorem fl_X9_15 : wPL RX9 15 9 1 0 .int false := ⟨RX9, TX9, 2, tyX9, iwX9, rfl, by decide, tw_157, rfl, rfl, by decide, by decide, tyX9_ok, nmX9, rfl, rfl⟩
theorem fl_X9_9 : wPL RX9 9 9 0 2 (tyX9 0) true := ⟨RX9, TX9, 2, tyX9, iwX9, rfl, by decide, tw_156, rfl, rfl, by decide, by decide, tyX9_ok, nmX9, rfl, rfl⟩
theorem ml_J0_1059 : wCS RJ0 1059 yJ3_checkIndex_8e157 cJ3_checkIndex_8e157 3 (some .int) 3 := ⟨⟨tw_631, tw_136, tw_633, by decide, by decide, by decide +kernel⟩, tw_632⟩
theorem ml_J0_335 : wCT RJ0 335 yJ0_coder_7d493 cJ0_coder_7d493 1 (some .byte) 0 := ⟨⟨tw_609, tw_134, tw_612, by decide, by decide, by decide +kernel⟩, tw_610, tw_611, rfl⟩
theorem ml_J0_492 : wCT RJ0 492 yJ0_isLatin1_aae02 cJ0_isLatin1_aae02 1 (some .boolean) 0 := ⟨⟨tw_619, tw_134, tw_622, by decide, by decide, by decide +kernel⟩, tw_620, tw_621, rfl⟩
theorem ml_J0_495 : wCS RJ0 495 yJ1_charAt_3b067 cJ1_charAt_3b067 2 (some .char) 2 := ⟨⟨tw_623, tw_135, tw_625, by decide, by decide, by decide +kernel⟩, tw_624⟩
theorem ml_J0_505 : wCT RJ0 505 yJ0_length_8abf5 cJ0_length_8abf5 1 (some .int) 0 := ⟨⟨tw_669, tw_134, tw_608, by decide, by decide, by decide +kernel⟩, tw_606, tw_607, rfl⟩
theorem ml_J0_633 : wCT RJ0 633 yJ0_indexOf_7cf53 cJ0_indexOf_7cf53 3 (some .int) 2 := ⟨⟨tw_665, tw_134, tw_668, by decide, by decide, by decide +kernel⟩, tw_666, tw_667, rfl⟩
theorem ml_J0_637 : wCS RJ0 637 yJ1_indexOf_4cfef cJ1_indexOf_4cfef 4 (some .int) 4 := ⟨⟨tw_670, tw_135, tw_672, by decide, by decide, by decide +kernel⟩, tw_671⟩
theorem ml_J1_38 : wCS RJ1 38 yJ9_min_7cf53 cJ9_min_7cf53 2 (some .int) 2 := ⟨⟨tw_679, tw_138, tw_681, by decide, by decide, by decide +kernel⟩, tw_680⟩
theorem ml_J1_88 : wCS RJ1 88 yJ1_canEncode_9a6ad cJ1_canEncode_9a6ad 1 (some .boolean) 1 := ⟨⟨tw_673, tw_135, tw_675, by decide, by decide, by decide +kernel⟩, tw_674⟩
theorem ml_J1_9 : wCS RJ1 9 yJ0_checkIndex_df160 cJ0_checkIndex_df160 2 none 2 := ⟨⟨tw_626, tw_134, tw_628, by decide, by decide, by decide +kernel⟩, tw_627⟩
theorem ml_J1_92 : wCS RJ1 92 yJ9_max_7cf53 cJ9_max_7cf53 2 (some .int) 2 := ⟨⟨tw_676, tw_138, tw_678, by decide, by decide, by decide +kernel⟩, tw_677⟩
theorem ml_J1_95 : wCS RJ1 95 yJ1_indexOfChar_4cfef cJ1_indexOfChar_4cfef 6 (some .int) 4 := ⟨⟨tw_682, tw_135, tw_684, by decide, by decide, by decide +kernel⟩, tw_683⟩
theorem ml_X0_19 : wCV RX0 19 yX0_gift cX0_gift 4 (some .int) 2 0 := ⟨⟨tw_1035, tw_131, tw_1038, by decide, by decide, by decide +kernel⟩, tw_1037, tw_39, _, rfl, rfl, by decide⟩
theorem ml_X0_38 : wCV RX0 38 yX3_everybody cX3_everybody 1 (some .int) 0 3 := ⟨⟨tw_1043, tw_126, tw_1001, by decide, by decide, by decide +kernel⟩, tw_999, tw_1000, _, rfl, rfl, by decide⟩
theorem ml_X0_42 : wCV RX0 42 yX1_sit cX1_sit 5 none 3 1 := ⟨⟨tw_1044, tw_130, tw_921, by decide, by decide, by decide +kernel⟩, tw_919, tw_920, _, rfl, rfl, by decide⟩
theorem ml_X0_51 : wCV RX0 51 yX1_ask cX1_ask 6 (some .int) 2 1 := ⟨⟨tw_1045, tw_130, tw_1005, by decide, by decide, by decide +kernel⟩, tw_1003, tw_1004, _, rfl, rfl, by decide⟩
theorem ml_X0_55 : wCS RX0 55 yX0_paintIfPaid cX0_paintIfPaid 5 (some .boolean) 4 := ⟨⟨tw_1046, tw_131, tw_1048, by decide, by decide, by decide +kernel⟩, tw_1047⟩
theorem ml_X0_59 : wCV RX0 59 yX0_changeMoods cX0_changeMoods 6 none 3 0 := ⟨⟨tw_1054, tw_131, tw_1057, by decide, by decide, by decide +kernel⟩, tw_1056, tw_40, _, rfl, rfl, by decide⟩
theorem ml_X0_62 : wCV RX0 62 yX3_hasCode cX3_hasCode 2 (some .boolean) 1 3 := ⟨⟨tw_1039, tw_126, tw_759, by decide, by decide, by decide +kernel⟩, tw_757, tw_758, _, rfl, rfl, by decide⟩
theorem ml_X0_68 : wCV RX0 68 yX8_put cX8_put 4 none 2 8 := ⟨⟨tw_1040, tw_122, tw_931, by decide, by decide, by decide +kernel⟩, tw_929, tw_930, _, rfl, rfl, by decide⟩
theorem ml_X0_72 : wCV RX0 72 yX7_wornBy cX7_wornBy 5 (some .int) 2 7 := ⟨⟨tw_1041, tw_123, tw_883, by decide, by decide, by decide +kernel⟩, tw_881, tw_882, _, rfl, rfl, by decide⟩
theorem ml_X0_76 : wCV RX0 76 yX8_workOut cX8_workOut 7 (some .int) 2 8 := ⟨⟨tw_1042, tw_122, tw_937, by decide, by decide, by decide +kernel⟩, tw_935, tw_936, _, rfl, rfl, by decide⟩
theorem ml_X0_80 : wCV RX0 80 yX3_traitOf cX3_traitOf 5 (some .int) 3 3 := ⟨⟨tw_1049, tw_126, tw_912, by decide, by decide, by decide +kernel⟩, tw_910, tw_911, _, rfl, rfl, by decide⟩
theorem ml_X0_87 : wCV RX0 87 yX7_keep cX7_keep 3 none 2 7 := ⟨⟨tw_1050, tw_123, tw_1053, by decide, by decide, by decide +kernel⟩, tw_1051, tw_1052, _, rfl, rfl, by decide⟩
theorem ml_X0_93 : wCV RX0 93 yX1_saidBy cX1_saidBy 2 (some .int) 1 1 := ⟨⟨tw_1058, tw_130, tw_1061, by decide, by decide, by decide +kernel⟩, tw_1059, tw_1060, _, rfl, rfl, by decide⟩
theorem ml_X10_36 : wCV RX10 36 yX9_byteAt cX9_byteAt 2 (some .int) 1 9 := ⟨⟨tw_579, tw_121, tw_582, by decide, by decide, by decide +kernel⟩, tw_580, tw_581, _, rfl, rfl, by decide⟩
theorem ml_X10_40 : wCS RX10 40 yX10_isBlank cX10_isBlank 1 (some .boolean) 1 := ⟨⟨tw_583, tw_129, tw_585, by decide, by decide, by decide +kernel⟩, tw_584⟩
theorem ml_X10_44 : wCV RX10 44 yX10_cutOne cX10_cutOne 4 (some .int) 2 10 := ⟨⟨tw_586, tw_129, tw_589, by decide, by decide, by decide +kernel⟩, tw_588, tw_2, _, rfl, rfl, by decide⟩
theorem ml_X10_48 : wCV RX10 48 yX10_add cX10_add 4 (some .int) 3 10 := ⟨⟨tw_590, tw_129, tw_593, by decide, by decide, by decide +kernel⟩, tw_592, tw_3, _, rfl, rfl, by decide⟩
theorem ml_X10_52 : wCS RX10 52 yX10_isLetter cX10_isLetter 1 (some .boolean) 1 := ⟨⟨tw_594, tw_129, tw_596, by decide, by decide, by decide +kernel⟩, tw_595⟩
theorem ml_X10_55 : wCV RX10 55 yX10_cutWord cX10_cutWord 5 (some .int) 1 10 := ⟨⟨tw_597, tw_129, tw_600, by decide, by decide, by decide +kernel⟩, tw_599, tw_4, _, rfl, rfl, by decide⟩
theorem ml_X10_59 : wCS RX10 59 yX10_isDigit cX10_isDigit 1 (some .boolean) 1 := ⟨⟨tw_653, tw_129, tw_655, by decide, by decide, by decide +kernel⟩, tw_654⟩
theorem ml_X10_62 : wCV RX10 62 yX10_cutNumber cX10_cutNumber 4 (some .int) 1 10 := ⟨⟨tw_656, tw_129, tw_659, by decide, by decide, by decide +kernel⟩, tw_658, tw_5, _, rfl, rfl, by decide⟩
theorem ml_X10_67 : wCT RX10 67 yJ0_indexOf_0f7a4 cJ0_indexOf_0f7a4 2 (some .int) 1 := ⟨⟨tw_661, tw_134, tw_664, by decide, by decide, by decide +kernel⟩, tw_662, tw_663, rfl⟩
theorem ml_X10_72 : wCS RX10 72 yX6_ownNumber cX6_ownNumber 5 (some .int) 1 := ⟨⟨tw_601, tw_128, tw_603, by decide, by decide, by decide +kernel⟩, tw_602⟩
theorem ml_X11_110 : wCV RX11 110 yX7_begin cX7_begin 3 none 1 7 := ⟨⟨tw_490, tw_123, tw_493, by decide, by decide, by decide +kernel⟩, tw_491, tw_492, _, rfl, rfl, by decide⟩
theorem ml_X11_117 : wCV RX11 117 yX11_refuse cX11_refuse 2 (some .int) 1 11 := ⟨⟨tw_550, tw_120, tw_553, by decide, by decide, by decide +kernel⟩, tw_552, tw_0, _, rfl, rfl, by decide⟩
theorem ml_X11_121 : wCV RX11 121 yX9_addNumber cX9_addNumber 3 none 1 9 := ⟨⟨tw_554, tw_121, tw_557, by decide, by decide, by decide +kernel⟩, tw_555, tw_556, _, rfl, rfl, by decide⟩
theorem ml_X11_125 : wCV RX11 125 yX11_refuseIt cX11_refuseIt 2 (some .boolean) 1 11 := ⟨⟨tw_562, tw_120, tw_565, by decide, by decide, by decide +kernel⟩, tw_564, tw_1, _, rfl, rfl, by decide⟩
theorem ml_X11_129 : wCV RX11 129 yX6_read cX6_read 3 (some .int) 1 6 := ⟨⟨tw_570, tw_128, tw_573, by decide, by decide, by decide +kernel⟩, tw_571, tw_572, _, rfl, rfl, by decide⟩
theorem ml_X11_153 : wCV RX11 153 yX7_wornBy cX7_wornBy 5 (some .int) 2 7 := ⟨⟨tw_880, tw_123, tw_883, by decide, by decide, by decide +kernel⟩, tw_881, tw_882, _, rfl, rfl, by decide⟩
theorem ml_X11_160 : wCV RX11 160 yX3_clashes cX3_clashes 4 (some .int) 1 3 := ⟨⟨tw_884, tw_126, tw_887, by decide, by decide, by decide +kernel⟩, tw_885, tw_886, _, rfl, rfl, by decide⟩
theorem ml_X11_167 : wCV RX11 167 yX3_isThere cX3_isThere 3 (some .boolean) 2 3 := ⟨⟨tw_896, tw_126, tw_899, by decide, by decide, by decide +kernel⟩, tw_897, tw_898, _, rfl, rfl, by decide⟩
theorem ml_X11_171 : wCV RX11 171 yX3_letterOf cX3_letterOf 7 (some .int) 3 3 := ⟨⟨tw_900, tw_126, tw_903, by decide, by decide, by decide +kernel⟩, tw_901, tw_902, _, rfl, rfl, by decide⟩
theorem ml_X11_175 : wCV RX11 175 yX3_traitOf cX3_traitOf 5 (some .int) 3 3 := ⟨⟨tw_909, tw_126, tw_912, by decide, by decide, by decide +kernel⟩, tw_910, tw_911, _, rfl, rfl, by decide⟩
theorem ml_X11_178 : wCV RX11 178 yX3_isLate cX3_isLate 2 (some .int) 1 3 := ⟨⟨tw_913, tw_126, tw_807, by decide, by decide, by decide +kernel⟩, tw_805, tw_806, _, rfl, rfl, by decide⟩
theorem ml_X11_184 : wCV RX11 184 yX7_placeOf cX7_placeOf 4 (some .int) 2 7 := ⟨⟨tw_914, tw_123, tw_917, by decide, by decide, by decide +kernel⟩, tw_915, tw_916, _, rfl, rfl, by decide⟩
theorem ml_X11_187 : wCV RX11 187 yX1_sit cX1_sit 5 none 3 1 := ⟨⟨tw_918, tw_130, tw_921, by decide, by decide, by decide +kernel⟩, tw_919, tw_920, _, rfl, rfl, by decide⟩
theorem ml_X11_191 : wCV RX11 191 yX1_isCounting cX1_isCounting 2 (some .boolean) 1 1 := ⟨⟨tw_947, tw_130, tw_950, by decide, by decide, by decide +kernel⟩, tw_948, tw_949, _, rfl, rfl, by decide⟩
theorem ml_X11_197 : wCS RX11 197 yJ6_bitCount_0f7a4 cJ6_bitCount_0f7a4 1 (some .int) 1 := ⟨⟨tw_959, tw_140, tw_961, by decide, by decide, by decide +kernel⟩, tw_960⟩
theorem ml_X11_202 : wCV RX11 202 yX11_areThere cX11_areThere 3 (some .boolean) 2 11 := ⟨⟨tw_969, tw_120, tw_972, by decide, by decide, by decide +kernel⟩, tw_971, tw_36, _, rfl, rfl, by decide⟩
theorem ml_X11_207 : wCV RX11 207 yX1_scoreOf cX1_scoreOf 6 (some .int) 3 1 := ⟨⟨tw_974, tw_130, tw_977, by decide, by decide, by decide +kernel⟩, tw_975, tw_976, _, rfl, rfl, by decide⟩
theorem ml_X11_210 : wCV RX11 210 yX1_wordOf cX1_wordOf 6 (some .int) 1 1 := ⟨⟨tw_989, tw_130, tw_992, by decide, by decide, by decide +kernel⟩, tw_990, tw_991, _, rfl, rfl, by decide⟩
theorem ml_X11_216 : wCV RX11 216 yX3_everybody cX3_everybody 1 (some .int) 0 3 := ⟨⟨tw_998, tw_126, tw_1001, by decide, by decide, by decide +kernel⟩, tw_999, tw_1000, _, rfl, rfl, by decide⟩
theorem ml_X11_220 : wCV RX11 220 yX1_ask cX1_ask 6 (some .int) 2 1 := ⟨⟨tw_1002, tw_130, tw_1005, by decide, by decide, by decide +kernel⟩, tw_1003, tw_1004, _, rfl, rfl, by decide⟩
theorem ml_X11_224 : wCV RX11 224 yX1_votesFor cX1_votesFor 2 (some .int) 1 1 := ⟨⟨tw_1008, tw_130, tw_1011, by decide, by decide, by decide +kernel⟩, tw_1009, tw_1010, _, rfl, rfl, by decide⟩
theorem ml_X11_227 : wCV RX11 227 yX11_canPass cX11_canPass 2 (some .boolean) 1 11 := ⟨⟨tw_1016, tw_120, tw_1019, by decide, by decide, by decide +kernel⟩, tw_1018, tw_37, _, rfl, rfl, by decide⟩
theorem ml_X11_230 : wCV RX11 230 yX11_lookAhead cX11_lookAhead 3 none 1 11 := ⟨⟨tw_1020, tw_120, tw_1023, by decide, by decide, by decide +kernel⟩, tw_1022, tw_38, _, rfl, rfl, by decide⟩
theorem ml_X11_233 : wCV RX11 233 yX1_firstOrder cX1_firstOrder 5 (some .boolean) 2 1 := ⟨⟨tw_1074, tw_130, tw_1077, by decide, by decide, by decide +kernel⟩, tw_1075, tw_1076, _, rfl, rfl, by decide⟩
theorem ml_X11_237 : wCV RX11 237 yX1_countOrders cX1_countOrders 6 (some .int) 2 1 := ⟨⟨tw_1095, tw_130, tw_1098, by decide, by decide, by decide +kernel⟩, tw_1096, tw_1097, _, rfl, rfl, by decide⟩
theorem ml_X11_240 : wCV RX11 240 yX1_powerOf cX1_powerOf 4 (some .int) 1 1 := ⟨⟨tw_1103, tw_130, tw_1106, by decide, by decide, by decide +kernel⟩, tw_1104, tw_1105, _, rfl, rfl, by decide⟩
theorem ml_X11_243 : wCV RX11 243 yX3_fewestToClear cX3_fewestToClear 7 (some .int) 2 3 := ⟨⟨tw_1111, tw_126, tw_1114, by decide, by decide, by decide +kernel⟩, tw_1112, tw_1113, _, rfl, rfl, by decide⟩
theorem ml_X11_247 : wCV RX11 247 yX1_oddsOf cX1_oddsOf 6 (some .int) 1 1 := ⟨⟨tw_1124, tw_130, tw_1127, by decide, by decide, by decide +kernel⟩, tw_1125, tw_1126, _, rfl, rfl, by decide⟩
theorem ml_X11_250 : wCV RX11 250 yX2_take cX2_take 6 (some .boolean) 2 2 := ⟨⟨tw_1132, tw_132, tw_1135, by decide, by decide, by decide +kernel⟩, tw_1133, tw_1134, _, rfl, rfl, by decide⟩
theorem ml_X11_254 : wCV RX11 254 yX2_left cX2_left 9 (some .int) 3 2 := ⟨⟨tw_1142, tw_132, tw_1145, by decide, by decide, by decide +kernel⟩, tw_1143, tw_1144, _, rfl, rfl, by decide⟩
theorem ml_X11_258 : wCV RX11 258 yX2_count cX2_count 8 none 4 2 := ⟨⟨tw_1160, tw_132, tw_1163, by decide, by decide, by decide +kernel⟩, tw_1161, tw_1162, _, rfl, rfl, by decide⟩
theorem ml_X11_261 : wCV RX11 261 yX2_findTelling cX2_findTelling 8 none 2 2 := ⟨⟨tw_1168, tw_132, tw_1171, by decide, by decide, by decide +kernel⟩, tw_1169, tw_1170, _, rfl, rfl, by decide⟩
theorem ml_X11_274 : wCV RX11 274 yX4_add cX4_add 2 none 1 4 := ⟨⟨tw_1176, tw_124, tw_1179, by decide, by decide, by decide +kernel⟩, tw_1177, tw_1178, _, rfl, rfl, by decide⟩
theorem ml_X11_278 : wCV RX11 278 yX0_pass cX0_pass 10 (some .boolean) 3 0 := ⟨⟨tw_1031, tw_131, tw_1034, by decide, by decide, by decide +kernel⟩, tw_1032, tw_1033, _, rfl, rfl, by decide⟩
theorem ml_X11_282 : wCV RX11 282 yX11_draw cX11_draw 2 (some .int) 1 11 := ⟨⟨tw_1185, tw_120, tw_1188, by decide, by decide, by decide +kernel⟩, tw_1187, tw_44, _, rfl, rfl, by decide⟩
theorem ml_X11_287 : wCV RX11 287 yX4_takeBack cX4_takeBack 2 none 1 4 := ⟨⟨tw_1208, tw_124, tw_1211, by decide, by decide, by decide +kernel⟩, tw_1209, tw_1210, _, rfl, rfl, by decide⟩
theorem ml_X11_290 : wCV RX11 290 yX7_keptOf cX7_keptOf 3 (some .int) 2 7 := ⟨⟨tw_1220, tw_123, tw_1223, by decide, by decide, by decide +kernel⟩, tw_1221, tw_1222, _, rfl, rfl, by decide⟩
theorem ml_X11_293 : wCV RX11 293 yX5_write cX5_write 6 none 2 5 := ⟨⟨tw_1228, tw_125, tw_1231, by decide, by decide, by decide +kernel⟩, tw_1229, tw_1230, _, rfl, rfl, by decide⟩
theorem ml_X11_298 : wCV RX11 298 yX5_byteAt cX5_byteAt 2 (some .int) 1 5 := ⟨⟨tw_1240, tw_125, tw_1243, by decide, by decide, by decide +kernel⟩, tw_1241, tw_1242, _, rfl, rfl, by decide⟩
theorem ml_X11_301 : wCS RX11 301 yX5_fits cX5_fits 7 (some .boolean) 2 := ⟨⟨tw_1248, tw_125, tw_1250, by decide, by decide, by decide +kernel⟩, tw_1249⟩
theorem ml_X11_304 : wCS RX11 304 yX5_show cX5_show 6 none 3 := ⟨⟨tw_1260, tw_125, tw_1262, by decide, by decide, by decide +kernel⟩, tw_1261⟩
theorem ml_X11_308 : wCV RX11 308 yX7_take cX7_take 2 none 1 7 := ⟨⟨tw_1024, tw_123, tw_1027, by decide, by decide, by decide +kernel⟩, tw_1025, tw_1026, _, rfl, rfl, by decide⟩
theorem ml_X12_222 : wCV RX12 222 yX12_refuses cX12_refuses 2 (some .int) 1 12 := ⟨⟨tw_1486, tw_133, tw_1489, by decide, by decide, by decide +kernel⟩, tw_1488, tw_46, _, rfl, rfl, by decide⟩
theorem ml_X12_226 : wCV RX12 226 yX12_put cX12_put 3 none 1 12 := ⟨⟨tw_1490, tw_133, tw_1493, by decide, by decide, by decide +kernel⟩, tw_1492, tw_47, _, rfl, rfl, by decide⟩
theorem ml_X12_230 : wCV RX12 230 yX12_blame cX12_blame 3 none 2 12 := ⟨⟨tw_1520, tw_133, tw_1523, by decide, by decide, by decide +kernel⟩, tw_1522, tw_51, _, rfl, rfl, by decide⟩
theorem ml_X12_234 : wCS RX12 234 yX12_isLetter cX12_isLetter 1 (some .boolean) 1 := ⟨⟨tw_1506, tw_133, tw_1508, by decide, by decide, by decide +kernel⟩, tw_1507⟩
theorem ml_X12_238 : wCS RX12 238 yX12_isDigit cX12_isDigit 1 (some .boolean) 1 := ⟨⟨tw_1509, tw_133, tw_1511, by decide, by decide, by decide +kernel⟩, tw_1510⟩
theorem ml_X12_241 : wCV RX12 241 yX12_lex cX12_lex 1 none 0 12 := ⟨⟨tw_1516, tw_133, tw_1519, by decide, by decide, by decide +kernel⟩, tw_1518, tw_50, _, rfl, rfl, by decide⟩
theorem ml_X12_244 : wCV RX12 244 yX12_isSign cX12_isSign 2 (some .boolean) 1 12 := ⟨⟨tw_1652, tw_133, tw_1655, by decide, by decide, by decide +kernel⟩, tw_1654, tw_74, _, rfl, rfl, by decide⟩
theorem ml_X12_247 : wCV RX12 247 yX12_ahead cX12_ahead 6 none 0 12 := ⟨⟨tw_1502, tw_133, tw_1505, by decide, by decide, by decide +kernel⟩, tw_1504, tw_48, _, rfl, rfl, by decide⟩
theorem ml_X12_306 : wCV RX12 306 yX12_manyOf cX12_manyOf 2 (some .int) 1 12 := ⟨⟨tw_1537, tw_133, tw_1540, by decide, by decide, by decide +kernel⟩, tw_1539, tw_55, _, rfl, rfl, by decide⟩
theorem ml_X12_309 : wCS RX12 309 yX12_is cX12_is 3 (some .boolean) 3 := ⟨⟨tw_1592, tw_133, tw_1594, by decide, by decide, by decide +kernel⟩, tw_1593⟩
theorem ml_X12_313 : wCS RX12 313 yX12_rank cX12_rank 1 (some .int) 1 := ⟨⟨tw_1672, tw_133, tw_1674, by decide, by decide, by decide +kernel⟩, tw_1673⟩
theorem ml_X12_316 : wCV RX12 316 yX12_add cX12_add 3 none 2 12 := ⟨⟨tw_1660, tw_133, tw_1663, by decide, by decide, by decide +kernel⟩, tw_1662, tw_76, _, rfl, rfl, by decide⟩
theorem ml_X12_319 : wCV RX12 319 yX12_pushes cX12_pushes 2 none 1 12 := ⟨⟨tw_1637, tw_133, tw_1640, by decide, by decide, by decide +kernel⟩, tw_1639, tw_71, _, rfl, rfl, by decide⟩
theorem ml_X12_322 : wCS RX12 322 yX12_isTest cX12_isTest 1 (some .boolean) 1 := ⟨⟨tw_1645, tw_133, tw_1647, by decide, by decide, by decide +kernel⟩, tw_1646⟩
theorem ml_X12_325 : wCV RX12 325 yX12_isWord cX12_isWord 3 (some .boolean) 1 12 := ⟨⟨tw_1525, tw_133, tw_1528, by decide, by decide, by decide +kernel⟩, tw_1527, tw_52, _, rfl, rfl, by decide⟩
theorem ml_X12_329 : wCV RX12 329 yX12_holdsBack cX12_holdsBack 2 none 1 12 := ⟨⟨tw_1648, tw_133, tw_1651, by decide, by decide, by decide +kernel⟩, tw_1650, tw_73, _, rfl, rfl, by decide⟩
theorem ml_X12_332 : wCV RX12 332 yX12_opens cX12_opens 2 none 1 12 := ⟨⟨tw_1656, tw_133, tw_1659, by decide, by decide, by decide +kernel⟩, tw_1658, tw_75, _, rfl, rfl, by decide⟩
theorem ml_X12_335 : wCV RX12 335 yX12_joins cX12_joins 2 none 1 12 := ⟨⟨tw_1668, tw_133, tw_1671, by decide, by decide, by decide +kernel⟩, tw_1670, tw_78, _, rfl, rfl, by decide⟩
theorem ml_X12_338 : wCV RX12 338 yX12_operand cX12_operand 4 (some .boolean) 0 12 := ⟨⟨tw_1641, tw_133, tw_1644, by decide, by decide, by decide +kernel⟩, tw_1643, tw_72, _, rfl, rfl, by decide⟩
theorem ml_X12_341 : wCV RX12 341 yX12_goesOn cX12_goesOn 5 (some .boolean) 0 12 := ⟨⟨tw_1664, tw_133, tw_1667, by decide, by decide, by decide +kernel⟩, tw_1666, tw_77, _, rfl, rfl, by decide⟩
theorem ml_X12_344 : wCV RX12 344 yX12_isOwn cX12_isOwn 3 (some .boolean) 1 12 := ⟨⟨tw_1549, tw_133, tw_1552, by decide, by decide, by decide +kernel⟩, tw_1551, tw_58, _, rfl, rfl, by decide⟩
theorem ml_X12_347 : wCV RX12 347 yX12_named cX12_named 5 (some .int) 2 12 := ⟨⟨tw_1580, tw_133, tw_1583, by decide, by decide, by decide +kernel⟩, tw_1582, tw_59, _, rfl, rfl, by decide⟩
theorem ml_X12_351 : wCS RX12 351 yX12_has2 cX12_has2 2 (some .boolean) 2 := ⟨⟨tw_1614, tw_133, tw_1616, by decide, by decide, by decide +kernel⟩, tw_1615⟩
theorem ml_X12_355 : wCV RX12 355 yX12_isCounted cX12_isCounted 2 (some .boolean) 1 12 := ⟨⟨tw_1541, tw_133, tw_1544, by decide, by decide, by decide +kernel⟩, tw_1543, tw_56, _, rfl, rfl, by decide⟩
theorem ml_X12_359 : wCV RX12 359 yX12_number cX12_number 4 (some .int) 2 12 := ⟨⟨tw_1588, tw_133, tw_1591, by decide, by decide, by decide +kernel⟩, tw_1590, tw_61, _, rfl, rfl, by decide⟩
theorem ml_X12_363 : wCV RX12 363 yX12_fresh cX12_fresh 3 (some .long) 0 12 := ⟨⟨tw_1545, tw_133, tw_1548, by decide, by decide, by decide +kernel⟩, tw_1547, tw_57, _, rfl, rfl, by decide⟩
theorem ml_X12_367 : wCV RX12 367 yX12_mustWord cX12_mustWord 3 none 1 12 := ⟨⟨tw_1584, tw_133, tw_1587, by decide, by decide, by decide +kernel⟩, tw_1586, tw_60, _, rfl, rfl, by decide⟩
theorem ml_X12_371 : wCS RX12 371 yX12_shapes cX12_shapes 5 none 5 := ⟨⟨tw_1595, tw_133, tw_1597, by decide, by decide, by decide +kernel⟩, tw_1596⟩
theorem ml_X12_375 : wCV RX12 375 yX12_isShaped cX12_isShaped 9 (some .boolean) 1 12 := ⟨⟨tw_1533, tw_133, tw_1536, by decide, by decide, by decide +kernel⟩, tw_1535, tw_54, _, rfl, rfl, by decide⟩
theorem ml_X12_378 : wCV RX12 378 yX12_known cX12_known 4 (some .int) 2 12 := ⟨⟨tw_1610, tw_133, tw_1613, by decide, by decide, by decide +kernel⟩, tw_1612, tw_65, _, rfl, rfl, by decide⟩
theorem ml_X12_381 : wCV RX12 381 yX12_reads cX12_reads 3 none 1 12 := ⟨⟨tw_1633, tw_133, tw_1636, by decide, by decide, by decide +kernel⟩, tw_1635, tw_70, _, rfl, rfl, by decide⟩
theorem ml_X12_385 : wCV RX12 385 yX12_blinding cX12_blinding 1 none 0 12 := ⟨⟨tw_1529, tw_133, tw_1532, by decide, by decide, by decide +kernel⟩, tw_1531, tw_53, _, rfl, rfl, by decide⟩
theorem ml_X12_388 : wCV RX12 388 yX12_colouring cX12_colouring 1 none 0 12 := ⟨⟨tw_1598, tw_133, tw_1601, by decide, by decide, by decide +kernel⟩, tw_1600, tw_62, _, rfl, rfl, by decide⟩
theorem ml_X12_391 : wCV RX12 391 yX12_thinging cX12_thinging 1 none 0 12 := ⟨⟨tw_1602, tw_133, tw_1605, by decide, by decide, by decide +kernel⟩, tw_1604, tw_63, _, rfl, rfl, by decide⟩
theorem ml_X12_394 : wCV RX12 394 yX12_lateness cX12_lateness 2 none 0 12 := ⟨⟨tw_1606, tw_133, tw_1609, by decide, by decide, by decide +kernel⟩, tw_1608, tw_64, _, rfl, rfl, by decide⟩
theorem ml_X12_397 : wCV RX12 397 yX12_nearing cX12_nearing 3 none 0 12 := ⟨⟨tw_1617, tw_133, tw_1620, by decide, by decide, by decide +kernel⟩, tw_1619, tw_66, _, rfl, rfl, by decide⟩
theorem ml_X12_400 : wCV RX12 400 yX12_wearing cX12_wearing 3 none 0 12 := ⟨⟨tw_1621, tw_133, tw_1624, by decide, by decide, by decide +kernel⟩, tw_1623, tw_67, _, rfl, rfl, by decide⟩
theorem ml_X12_403 : wCV RX12 403 yX12_telling cX12_telling 2 (some .int) 1 12 := ⟨⟨tw_1625, tw_133, tw_1628, by decide, by decide, by decide +kernel⟩, tw_1627, tw_68, _, rfl, rfl, by decide⟩
theorem ml_X12_406 : wCV RX12 406 yX12_reading cX12_reading 3 none 1 12 := ⟨⟨tw_1629, tw_133, tw_1632, by decide, by decide, by decide +kernel⟩, tw_1631, tw_69, _, rfl, rfl, by decide⟩
theorem ml_X12_409 : wCV RX12 409 yX12_must cX12_must 2 none 1 12 := ⟨⟨tw_1679, tw_133, tw_1682, by decide, by decide, by decide +kernel⟩, tw_1681, tw_80, _, rfl, rfl, by decide⟩
theorem ml_X12_412 : wCV RX12 412 yX12_statement cX12_statement 1 none 0 12 := ⟨⟨tw_1512, tw_133, tw_1515, by decide, by decide, by decide +kernel⟩, tw_1514, tw_49, _, rfl, rfl, by decide⟩
theorem ml_X12_415 : wCV RX12 415 yX12_finishes cX12_finishes 3 none 1 12 := ⟨⟨tw_1675, tw_133, tw_1678, by decide, by decide, by decide +kernel⟩, tw_1677, tw_79, _, rfl, rfl, by decide⟩
theorem ml_X12_418 : wCV RX12 418 yX12_begin cX12_begin 2 none 0 12 := ⟨⟨tw_1683, tw_133, tw_1686, by decide, by decide, by decide +kernel⟩, tw_1685, tw_81, _, rfl, rfl, by decide⟩
theorem ml_X12_421 : wCV RX12 421 yX12_slot cX12_slot 2 (some .int) 1 12 := ⟨⟨tw_1699, tw_133, tw_1702, by decide, by decide, by decide +kernel⟩, tw_1701, tw_82, _, rfl, rfl, by decide⟩
theorem ml_X12_424 : wCV RX12 424 yX12_copies cX12_copies 4 none 2 12 := ⟨⟨tw_1703, tw_133, tw_1706, by decide, by decide, by decide +kernel⟩, tw_1705, tw_83, _, rfl, rfl, by decide⟩
theorem ml_X12_431 : wCS RX12 431 yX12_within cX12_within 2 (some .long) 1 := ⟨⟨tw_1767, tw_133, tw_1769, by decide, by decide, by decide +kernel⟩, tw_1768⟩
theorem ml_X12_435 : wCS RX12 435 yX12_floor cX12_floor 6 (some .long) 2 := ⟨⟨tw_1772, tw_133, tw_1774, by decide, by decide, by decide +kernel⟩, tw_1773⟩
theorem ml_X12_439 : wCS RX12 439 yX12_two cX12_two 5 (some .long) 3 := ⟨⟨tw_1764, tw_133, tw_1766, by decide, by decide, by decide +kernel⟩, tw_1765⟩
theorem ml_X12_443 : wCS RX12 443 yX12_gap cX12_gap 2 (some .int) 2 := ⟨⟨tw_1798, tw_133, tw_1800, by decide, by decide, by decide +kernel⟩, tw_1799⟩
theorem ml_X12_446 : wCV RX12 446 yX12_matchOf cX12_matchOf 6 (some .int) 3 12 := ⟨⟨tw_1794, tw_133, tw_1797, by decide, by decide, by decide +kernel⟩, tw_1796, tw_96, _, rfl, rfl, by decide⟩
theorem ml_X12_450 : wCV RX12 450 yX12_isTold cX12_isTold 2 (some .boolean) 1 12 := ⟨⟨tw_1752, tw_133, tw_1755, by decide, by decide, by decide +kernel⟩, tw_1754, tw_92, _, rfl, rfl, by decide⟩
theorem ml_X12_453 : wCV RX12 453 yX12_lays cX12_lays 3 none 2 12 := ⟨⟨tw_1756, tw_133, tw_1759, by decide, by decide, by decide +kernel⟩, tw_1758, tw_93, _, rfl, rfl, by decide⟩
theorem ml_X12_456 : wCV RX12 456 yX12_wornOf cX12_wornOf 5 (some .int) 2 12 := ⟨⟨tw_1711, tw_133, tw_1714, by decide, by decide, by decide +kernel⟩, tw_1713, tw_84, _, rfl, rfl, by decide⟩
theorem ml_X12_459 : wCV RX12 459 yX12_reckons cX12_reckons 5 (some .long) 1 12 := ⟨⟨tw_1760, tw_133, tw_1763, by decide, by decide, by decide +kernel⟩, tw_1762, tw_94, _, rfl, rfl, by decide⟩
theorem ml_X12_463 : wCV RX12 463 yX12_scoreOf cX12_scoreOf 7 (some .long) 5 12 := ⟨⟨tw_1790, tw_133, tw_1793, by decide, by decide, by decide +kernel⟩, tw_1792, tw_95, _, rfl, rfl, by decide⟩
theorem ml_X12_467 : wCV RX12 467 yX12_hushes cX12_hushes 2 none 0 12 := ⟨⟨tw_1806, tw_133, tw_1809, by decide, by decide, by decide +kernel⟩, tw_1808, tw_97, _, rfl, rfl, by decide⟩
theorem ml_X12_470 : wCV RX12 470 yX12_wordBy cX12_wordBy 10 (some .int) 3 12 := ⟨⟨tw_1810, tw_133, tw_1813, by decide, by decide, by decide +kernel⟩, tw_1812, tw_98, _, rfl, rfl, by decide⟩
theorem ml_X12_473 : wCV RX12 473 yX12_isCounting cX12_isCounting 3 (some .boolean) 2 12 := ⟨⟨tw_1748, tw_133, tw_1751, by decide, by decide, by decide +kernel⟩, tw_1750, tw_91, _, rfl, rfl, by decide⟩
theorem ml_X12_476 : wCV RX12 476 yX12_laysNow cX12_laysNow 3 none 1 12 := ⟨⟨tw_1826, tw_133, tw_1829, by decide, by decide, by decide +kernel⟩, tw_1828, tw_101, _, rfl, rfl, by decide⟩
theorem ml_X12_479 : wCV RX12 479 yX12_chosen cX12_chosen 6 (some .int) 3 12 := ⟨⟨tw_1830, tw_133, tw_1833, by decide, by decide, by decide +kernel⟩, tw_1832, tw_102, _, rfl, rfl, by decide⟩
theorem ml_X12_484 : wCV RX12 484 yX12_gift cX12_gift 4 (some .int) 1 12 := ⟨⟨tw_1850, tw_133, tw_1853, by decide, by decide, by decide +kernel⟩, tw_1852, tw_106, _, rfl, rfl, by decide⟩
theorem ml_X12_487 : wCV RX12 487 yX12_everybody cX12_everybody 1 (some .int) 0 12 := ⟨⟨tw_1818, tw_133, tw_1821, by decide, by decide, by decide +kernel⟩, tw_1820, tw_99, _, rfl, rfl, by decide⟩
theorem ml_X12_491 : wCV RX12 491 yX12_choiceOf cX12_choiceOf 4 (some .int) 3 12 := ⟨⟨tw_1822, tw_133, tw_1825, by decide, by decide, by decide +kernel⟩, tw_1824, tw_100, _, rfl, rfl, by decide⟩
theorem ml_X12_494 : wCV RX12 494 yX12_moods cX12_moods 5 none 2 12 := ⟨⟨tw_1855, tw_133, tw_1858, by decide, by decide, by decide +kernel⟩, tw_1857, tw_107, _, rfl, rfl, by decide⟩
theorem ml_X12_497 : wCV RX12 497 yX12_writesDown cX12_writesDown 5 none 3 12 := ⟨⟨tw_1859, tw_133, tw_1862, by decide, by decide, by decide +kernel⟩, tw_1861, tw_108, _, rfl, rfl, by decide⟩
theorem ml_X12_501 : wCV RX12 501 yX12_nearSet cX12_nearSet 2 (some .int) 1 12 := ⟨⟨tw_1719, tw_133, tw_1722, by decide, by decide, by decide +kernel⟩, tw_1721, tw_86, _, rfl, rfl, by decide⟩
theorem ml_X12_504 : wCV RX12 504 yX12_clashes cX12_clashes 4 (some .int) 0 12 := ⟨⟨tw_1715, tw_133, tw_1718, by decide, by decide, by decide +kernel⟩, tw_1717, tw_85, _, rfl, rfl, by decide⟩
theorem ml_X12_507 : wCV RX12 507 yX12_isBlind cX12_isBlind 2 (some .boolean) 1 12 := ⟨⟨tw_1727, tw_133, tw_1730, by decide, by decide, by decide +kernel⟩, tw_1729, tw_87, _, rfl, rfl, by decide⟩
theorem ml_X12_510 : wCV RX12 510 yX12_isColour cX12_isColour 2 (some .boolean) 1 12 := ⟨⟨tw_1731, tw_133, tw_1734, by decide, by decide, by decide +kernel⟩, tw_1733, tw_88, _, rfl, rfl, by decide⟩
theorem ml_X12_513 : wCV RX12 513 yX12_isThing cX12_isThing 2 (some .boolean) 1 12 := ⟨⟨tw_1735, tw_133, tw_1738, by decide, by decide, by decide +kernel⟩, tw_1737, tw_89, _, rfl, rfl, by decide⟩
theorem ml_X12_518 : wCV RX12 518 yX12_placeOf cX12_placeOf 3 (some .int) 1 12 := ⟨⟨tw_1744, tw_133, tw_1747, by decide, by decide, by decide +kernel⟩, tw_1746, tw_90, _, rfl, rfl, by decide⟩
theorem ml_X12_521 : wCS RX12 521 yX12_bits cX12_bits 3 (some .int) 1 := ⟨⟨tw_1783, tw_133, tw_1785, by decide, by decide, by decide +kernel⟩, tw_1784⟩
theorem ml_X12_526 : wCV RX12 526 yX12_ticks cX12_ticks 7 (some .boolean) 2 12 := ⟨⟨tw_1846, tw_133, tw_1849, by decide, by decide, by decide +kernel⟩, tw_1848, tw_105, _, rfl, rfl, by decide⟩
theorem ml_X12_529 : wCV RX12 529 yX12_isAhead cX12_isAhead 4 (some .boolean) 3 12 := ⟨⟨tw_1838, tw_133, tw_1841, by decide, by decide, by decide +kernel⟩, tw_1840, tw_103, _, rfl, rfl, by decide⟩
theorem ml_X12_532 : wCV RX12 532 yX12_runsOn cX12_runsOn 3 none 1 12 := ⟨⟨tw_1842, tw_133, tw_1845, by decide, by decide, by decide +kernel⟩, tw_1844, tw_104, _, rfl, rfl, by decide⟩
theorem ml_X12_535 : wCV RX12 535 yX12_rowsOf cX12_rowsOf 3 (some .int) 0 12 := ⟨⟨tw_1875, tw_133, tw_1878, by decide, by decide, by decide +kernel⟩, tw_1877, tw_109, _, rfl, rfl, by decide⟩
theorem ml_X12_538 : wCV RX12 538 yX12_laysOrder cX12_laysOrder 9 none 1 12 := ⟨⟨tw_1879, tw_133, tw_1882, by decide, by decide, by decide +kernel⟩, tw_1881, tw_110, _, rfl, rfl, by decide⟩
theorem ml_X12_541 : wCV RX12 541 yX12_isClear cX12_isClear 3 (some .boolean) 0 12 := ⟨⟨tw_1899, tw_133, tw_1902, by decide, by decide, by decide +kernel⟩, tw_1901, tw_112, _, rfl, rfl, by decide⟩
theorem ml_X12_544 : wCV RX12 544 yX12_isCleared cX12_isCleared 6 (some .boolean) 1 12 := ⟨⟨tw_1895, tw_133, tw_1898, by decide, by decide, by decide +kernel⟩, tw_1897, tw_111, _, rfl, rfl, by decide⟩
theorem ml_X12_547 : wCV RX12 547 yX12_tasteBits cX12_tasteBits 7 (some .int) 1 12 := ⟨⟨tw_1915, tw_133, tw_1918, by decide, by decide, by decide +kernel⟩, tw_1917, tw_113, _, rfl, rfl, by decide⟩
theorem ml_X12_551 : wCV RX12 551 yX12_mostBy cX12_mostBy 8 (some .int) 3 12 := ⟨⟨tw_1924, tw_133, tw_1927, by decide, by decide, by decide +kernel⟩, tw_1926, tw_114, _, rfl, rfl, by decide⟩
theorem ml_X12_554 : wCV RX12 554 yX12_keeps cX12_keeps 1 none 0 12 := ⟨⟨tw_1932, tw_133, tw_1935, by decide, by decide, by decide +kernel⟩, tw_1934, tw_115, _, rfl, rfl, by decide⟩
theorem ml_X12_565 : wCV RX12 565 yX12_draw cX12_draw 2 (some .int) 1 12 := ⟨⟨tw_1940, tw_133, tw_1943, by decide, by decide, by decide +kernel⟩, tw_1942, tw_116, _, rfl, rfl, by decide⟩
theorem ml_X12_568 : wCV RX12 568 yX12_writes cX12_writes 2 none 1 12 := ⟨⟨tw_1972, tw_133, tw_1975, by decide, by decide, by decide +kernel⟩, tw_1974, tw_117, _, rfl, rfl, by decide⟩
theorem ml_X12_571 : wCV RX12 571 yX12_comesOn cX12_comesOn 8 (some .boolean) 1 12 := ⟨⟨tw_1984, tw_133, tw_1987, by decide, by decide, by decide +kernel⟩, tw_1986, tw_118, _, rfl, rfl, by decide⟩
theorem ml_X1_100 : wCV RX1 100 yX1_scoreOf cX1_scoreOf 6 (some .int) 3 1 := ⟨⟨tw_993, tw_130, tw_977, by decide, by decide, by decide +kernel⟩, tw_975, tw_976, _, rfl, rfl, by decide⟩
theorem ml_X1_103 : wCV RX1 103 yX1_wordOf cX1_wordOf 6 (some .int) 1 1 := ⟨⟨tw_1006, tw_130, tw_992, by decide, by decide, by decide +kernel⟩, tw_990, tw_991, _, rfl, rfl, by decide⟩
theorem ml_X1_106 : wCV RX1 106 yX1_isCounting cX1_isCounting 2 (some .boolean) 1 1 := ⟨⟨tw_1007, tw_130, tw_950, by decide, by decide, by decide +kernel⟩, tw_948, tw_949, _, rfl, rfl, by decide⟩
theorem ml_X1_109 : wCV RX1 109 yX1_beginOrders cX1_beginOrders 4 (some .int) 1 1 := ⟨⟨tw_1078, tw_130, tw_1081, by decide, by decide, by decide +kernel⟩, tw_1080, tw_41, _, rfl, rfl, by decide⟩
theorem ml_X1_113 : wCV RX1 113 yX3_everybody cX3_everybody 1 (some .int) 0 3 := ⟨⟨tw_1082, tw_126, tw_1001, by decide, by decide, by decide +kernel⟩, tw_999, tw_1000, _, rfl, rfl, by decide⟩
theorem ml_X1_117 : wCV RX1 117 yX1_ask cX1_ask 6 (some .int) 2 1 := ⟨⟨tw_1083, tw_130, tw_1005, by decide, by decide, by decide +kernel⟩, tw_1003, tw_1004, _, rfl, rfl, by decide⟩
theorem ml_X1_121 : wCV RX1 121 yX1_nextOrder cX1_nextOrder 7 none 1 1 := ⟨⟨tw_1084, tw_130, tw_1087, by decide, by decide, by decide +kernel⟩, tw_1086, tw_42, _, rfl, rfl, by decide⟩
theorem ml_X1_125 : wCS RX1 125 yX1_exchange cX1_exchange 4 none 3 := ⟨⟨tw_1088, tw_130, tw_1090, by decide, by decide, by decide +kernel⟩, tw_1089⟩
theorem ml_X1_47 : wCS RX1 47 yJ7_fill_53178 cJ7_fill_53178 4 none 2 := ⟨⟨tw_923, tw_127, tw_279, by decide, by decide, by decide +kernel⟩, tw_278⟩
theorem ml_X1_58 : wCV RX1 58 yX1_putPerson cX1_putPerson 2 none 1 1 := ⟨⟨tw_924, tw_130, tw_927, by decide, by decide, by decide +kernel⟩, tw_926, tw_35, _, rfl, rfl, by decide⟩
theorem ml_X1_62 : wCV RX1 62 yX3_hasCode cX3_hasCode 2 (some .boolean) 1 3 := ⟨⟨tw_933, tw_126, tw_759, by decide, by decide, by decide +kernel⟩, tw_757, tw_758, _, rfl, rfl, by decide⟩
theorem ml_X1_66 : wCV RX1 66 yX8_workOut cX8_workOut 7 (some .int) 2 8 := ⟨⟨tw_934, tw_122, tw_937, by decide, by decide, by decide +kernel⟩, tw_935, tw_936, _, rfl, rfl, by decide⟩
theorem ml_X1_77 : wCV RX1 77 yX8_put cX8_put 4 none 2 8 := ⟨⟨tw_928, tw_122, tw_931, by decide, by decide, by decide +kernel⟩, tw_929, tw_930, _, rfl, rfl, by decide⟩
theorem ml_X1_84 : wCV RX1 84 yX3_isLate cX3_isLate 2 (some .int) 1 3 := ⟨⟨tw_932, tw_126, tw_807, by decide, by decide, by decide +kernel⟩, tw_805, tw_806, _, rfl, rfl, by decide⟩
theorem ml_X1_88 : wCV RX1 88 yX3_traitOf cX3_traitOf 5 (some .int) 3 3 := ⟨⟨tw_978, tw_126, tw_912, by decide, by decide, by decide +kernel⟩, tw_910, tw_911, _, rfl, rfl, by decide⟩
theorem ml_X1_92 : wCV RX1 92 yX3_matchOf cX3_matchOf 9 (some .int) 4 3 := ⟨⟨tw_979, tw_126, tw_982, by decide, by decide, by decide +kernel⟩, tw_980, tw_981, _, rfl, rfl, by decide⟩
theorem ml_X1_96 : wCV RX1 96 yX7_wornBy cX7_wornBy 5 (some .int) 2 7 := ⟨⟨tw_984, tw_123, tw_883, by decide, by decide, by decide +kernel⟩, tw_881, tw_882, _, rfl, rfl, by decide⟩
theorem ml_X2_51 : wCV RX2 51 yX9_byteAt cX9_byteAt 2 (some .int) 1 9 := ⟨⟨tw_1136, tw_121, tw_582, by decide, by decide, by decide +kernel⟩, tw_580, tw_581, _, rfl, rfl, by decide⟩
theorem ml_X2_57 : wCV RX2 57 yX3_isThere cX3_isThere 3 (some .boolean) 2 3 := ⟨⟨tw_1137, tw_126, tw_899, by decide, by decide, by decide +kernel⟩, tw_897, tw_898, _, rfl, rfl, by decide⟩
theorem ml_X2_64 : wCV RX2 64 yX1_suppose cX1_suppose 3 none 2 1 := ⟨⟨tw_1146, tw_130, tw_1149, by decide, by decide, by decide +kernel⟩, tw_1147, tw_1148, _, rfl, rfl, by decide⟩
theorem ml_X2_70 : wCV RX2 70 yX7_take cX7_take 2 none 1 7 := ⟨⟨tw_1150, tw_123, tw_1027, by decide, by decide, by decide +kernel⟩, tw_1025, tw_1026, _, rfl, rfl, by decide⟩
theorem ml_X2_74 : wCV RX2 74 yX2_agrees cX2_agrees 4 (some .boolean) 1 2 := ⟨⟨tw_1151, tw_132, tw_1154, by decide, by decide, by decide +kernel⟩, tw_1153, tw_43, _, rfl, rfl, by decide⟩
theorem ml_X2_78 : wCV RX2 78 yX0_pass cX0_pass 10 (some .boolean) 3 0 := ⟨⟨tw_1155, tw_131, tw_1034, by decide, by decide, by decide +kernel⟩, tw_1032, tw_1033, _, rfl, rfl, by decide⟩
theorem ml_X2_87 : wCS RX2 87 yJ7_fill_53178 cJ7_fill_53178 4 none 2 := ⟨⟨tw_1164, tw_127, tw_279, by decide, by decide, by decide +kernel⟩, tw_278⟩
theorem ml_X2_96 : wCS RX2 96 yX2_slotOf cX2_slotOf 2 (some .int) 2 := ⟨⟨tw_1165, tw_132, tw_1167, by decide, by decide, by decide +kernel⟩, tw_1166⟩
theorem ml_X3_49 : wCV RX3 49 yX3_empty cX3_empty 1 none 0 3 := ⟨⟨tw_273, tw_126, tw_276, by decide, by decide, by decide +kernel⟩, tw_274, tw_275, _, rfl, rfl, by decide⟩
theorem ml_X3_52 : wCS RX3 52 yJ7_fill_53178 cJ7_fill_53178 4 none 2 := ⟨⟨tw_277, tw_127, tw_279, by decide, by decide, by decide +kernel⟩, tw_278⟩
theorem ml_X3_58 : wCV RX3 58 yX3_isThere cX3_isThere 3 (some .boolean) 2 3 := ⟨⟨tw_904, tw_126, tw_899, by decide, by decide, by decide +kernel⟩, tw_897, tw_898, _, rfl, rfl, by decide⟩
theorem ml_X3_62 : wCV RX3 62 yX3_traitOf cX3_traitOf 5 (some .int) 3 3 := ⟨⟨tw_983, tw_126, tw_912, by decide, by decide, by decide +kernel⟩, tw_910, tw_911, _, rfl, rfl, by decide⟩
theorem ml_X3_66 : wCV RX3 66 yX3_clashesBelow cX3_clashesBelow 5 (some .int) 2 3 := ⟨⟨tw_888, tw_126, tw_891, by decide, by decide, by decide +kernel⟩, tw_890, tw_34, _, rfl, rfl, by decide⟩
theorem ml_X3_70 : wCS RX3 70 yJ6_bitCount_0f7a4 cJ6_bitCount_0f7a4 1 (some .int) 1 := ⟨⟨tw_1115, tw_140, tw_961, by decide, by decide, by decide +kernel⟩, tw_960⟩
theorem ml_X3_82 : wCS RX3 82 yX3_canClear cX3_canClear 5 (some .boolean) 4 := ⟨⟨tw_1117, tw_126, tw_1119, by decide, by decide, by decide +kernel⟩, tw_1118⟩
theorem ml_X4_23 : wCV RX4 23 yX7_take cX7_take 2 none 1 7 := ⟨⟨tw_1180, tw_123, tw_1027, by decide, by decide, by decide +kernel⟩, tw_1025, tw_1026, _, rfl, rfl, by decide⟩
theorem ml_X5_24 : wCV RX5 24 yX5_add cX5_add 2 none 1 5 := ⟨⟨tw_1232, tw_125, tw_1235, by decide, by decide, by decide +kernel⟩, tw_1234, tw_45, _, rfl, rfl, by decide⟩
theorem ml_X5_48 : wCS RX5 48 yX5_isChecked cX5_isChecked 3 (some .boolean) 1 := ⟨⟨tw_1251, tw_125, tw_1253, by decide, by decide, by decide +kernel⟩, tw_1252⟩
theorem ml_X5_52 : wCS RX5 52 yX5_pairAt cX5_pairAt 2 (some .int) 2 := ⟨⟨tw_1255, tw_125, tw_1257, by decide, by decide, by decide +kernel⟩, tw_1256⟩
theorem ml_X5_56 : wCV RX5 56 yX9_byteAt cX9_byteAt 2 (some .int) 1 9 := ⟨⟨tw_1254, tw_121, tw_582, by decide, by decide, by decide +kernel⟩, tw_580, tw_581, _, rfl, rfl, by decide⟩
theorem ml_X5_60 : wCV RX5 60 yX3_isThere cX3_isThere 3 (some .boolean) 2 3 := ⟨⟨tw_1258, tw_126, tw_899, by decide, by decide, by decide +kernel⟩, tw_897, tw_898, _, rfl, rfl, by decide⟩
theorem ml_X5_64 : wCV RX5 64 yX3_everybody cX3_everybody 1 (some .int) 0 3 := ⟨⟨tw_1259, tw_126, tw_1001, by decide, by decide, by decide +kernel⟩, tw_999, tw_1000, _, rfl, rfl, by decide⟩
theorem ml_X6_103 : wCV RX6 103 yX6_readOne cX6_readOne 4 none 1 6 := ⟨⟨tw_764, tw_128, tw_767, by decide, by decide, by decide +kernel⟩, tw_766, tw_10, _, rfl, rfl, by decide⟩
theorem ml_X6_106 : wCV RX6 106 yX6_readLate cX6_readLate 2 none 0 6 := ⟨⟨tw_796, tw_128, tw_799, by decide, by decide, by decide +kernel⟩, tw_798, tw_16, _, rfl, rfl, by decide⟩
theorem ml_X6_109 : wCV RX6 109 yX6_readNear cX6_readNear 3 none 0 6 := ⟨⟨tw_808, tw_128, tw_811, by decide, by decide, by decide +kernel⟩, tw_810, tw_18, _, rfl, rfl, by decide⟩
theorem ml_X6_112 : wCV RX6 112 yX6_readWears cX6_readWears 3 none 0 6 := ⟨⟨tw_812, tw_128, tw_815, by decide, by decide, by decide +kernel⟩, tw_814, tw_19, _, rfl, rfl, by decide⟩
theorem ml_X6_115 : wCV RX6 115 yX6_takeUpTo cX6_takeUpTo 3 (some .int) 1 6 := ⟨⟨tw_792, tw_128, tw_795, by decide, by decide, by decide +kernel⟩, tw_794, tw_15, _, rfl, rfl, by decide⟩
theorem ml_X6_125 : wCV RX6 125 yX6_readFormula cX6_readFormula 2 none 1 6 := ⟨⟨tw_816, tw_128, tw_819, by decide, by decide, by decide +kernel⟩, tw_818, tw_20, _, rfl, rfl, by decide⟩
theorem ml_X6_128 : wCV RX6 128 yX6_expect cX6_expect 2 none 1 6 := ⟨⟨tw_844, tw_128, tw_847, by decide, by decide, by decide +kernel⟩, tw_846, tw_27, _, rfl, rfl, by decide⟩
theorem ml_X6_136 : wCV RX6 136 yX3_hasCode cX3_hasCode 2 (some .boolean) 1 3 := ⟨⟨tw_756, tw_126, tw_759, by decide, by decide, by decide +kernel⟩, tw_757, tw_758, _, rfl, rfl, by decide⟩
theorem ml_X6_139 : wCV RX6 139 yX6_isName cX6_isName 1 (some .boolean) 0 6 := ⟨⟨tw_768, tw_128, tw_771, by decide, by decide, by decide +kernel⟩, tw_770, tw_11, _, rfl, rfl, by decide⟩
theorem ml_X6_143 : wCV RX6 143 yX6_isTaken cX6_isTaken 2 (some .boolean) 1 6 := ⟨⟨tw_772, tw_128, tw_775, by decide, by decide, by decide +kernel⟩, tw_774, tw_12, _, rfl, rfl, by decide⟩
theorem ml_X6_152 : wCV RX6 152 yX6_takeTrait cX6_takeTrait 3 (some .int) 2 6 := ⟨⟨tw_780, tw_128, tw_783, by decide, by decide, by decide +kernel⟩, tw_782, tw_13, _, rfl, rfl, by decide⟩
theorem ml_X6_156 : wCV RX6 156 yX6_isOwn cX6_isOwn 2 (some .boolean) 1 6 := ⟨⟨tw_784, tw_128, tw_787, by decide, by decide, by decide +kernel⟩, tw_786, tw_14, _, rfl, rfl, by decide⟩
theorem ml_X6_159 : wCV RX6 159 yX6_findNamed cX6_findNamed 3 (some .int) 1 6 := ⟨⟨tw_800, tw_128, tw_803, by decide, by decide, by decide +kernel⟩, tw_802, tw_17, _, rfl, rfl, by decide⟩
theorem ml_X6_162 : wCV RX6 162 yX3_isLate cX3_isLate 2 (some .int) 1 3 := ⟨⟨tw_804, tw_126, tw_807, by decide, by decide, by decide +kernel⟩, tw_805, tw_806, _, rfl, rfl, by decide⟩
theorem ml_X6_174 : wCV RX6 174 yX3_find cX3_find 4 (some .int) 2 3 := ⟨⟨tw_776, tw_126, tw_779, by decide, by decide, by decide +kernel⟩, tw_777, tw_778, _, rfl, rfl, by decide⟩
theorem ml_X6_183 : wCV RX6 183 yX6_readTest cX6_readTest 2 none 0 6 := ⟨⟨tw_820, tw_128, tw_823, by decide, by decide, by decide +kernel⟩, tw_822, tw_21, _, rfl, rfl, by decide⟩
theorem ml_X6_186 : wCV RX6 186 yX6_readSum cX6_readSum 3 none 0 6 := ⟨⟨tw_852, tw_128, tw_855, by decide, by decide, by decide +kernel⟩, tw_854, tw_29, _, rfl, rfl, by decide⟩
theorem ml_X6_195 : wCV RX6 195 yX6_readBoth cX6_readBoth 2 none 0 6 := ⟨⟨tw_824, tw_128, tw_827, by decide, by decide, by decide +kernel⟩, tw_826, tw_22, _, rfl, rfl, by decide⟩
theorem ml_X6_200 : wCV RX6 200 yX6_emit cX6_emit 2 none 1 6 := ⟨⟨tw_836, tw_128, tw_839, by decide, by decide, by decide +kernel⟩, tw_838, tw_25, _, rfl, rfl, by decide⟩
theorem ml_X6_203 : wCV RX6 203 yX6_readFact cX6_readFact 1 none 0 6 := ⟨⟨tw_828, tw_128, tw_831, by decide, by decide, by decide +kernel⟩, tw_830, tw_23, _, rfl, rfl, by decide⟩
theorem ml_X6_206 : wCV RX6 206 yX6_opens cX6_opens 1 (some .boolean) 0 6 := ⟨⟨tw_832, tw_128, tw_835, by decide, by decide, by decide +kernel⟩, tw_834, tw_24, _, rfl, rfl, by decide⟩
theorem ml_X6_209 : wCV RX6 209 yX6_readComparison cX6_readComparison 2 none 0 6 := ⟨⟨tw_848, tw_128, tw_851, by decide, by decide, by decide +kernel⟩, tw_850, tw_28, _, rfl, rfl, by decide⟩
theorem ml_X6_212 : wCV RX6 212 yX6_readProduct cX6_readProduct 3 none 0 6 := ⟨⟨tw_856, tw_128, tw_859, by decide, by decide, by decide +kernel⟩, tw_858, tw_30, _, rfl, rfl, by decide⟩
theorem ml_X6_215 : wCV RX6 215 yX6_readPart cX6_readPart 2 none 0 6 := ⟨⟨tw_860, tw_128, tw_863, by decide, by decide, by decide +kernel⟩, tw_862, tw_31, _, rfl, rfl, by decide⟩
theorem ml_X6_218 : wCV RX6 218 yX6_variable cX6_variable 2 (some .int) 1 6 := ⟨⟨tw_864, tw_128, tw_867, by decide, by decide, by decide +kernel⟩, tw_866, tw_32, _, rfl, rfl, by decide⟩
theorem ml_X6_221 : wCV RX6 221 yX6_readChosen cX6_readChosen 2 none 1 6 := ⟨⟨tw_868, tw_128, tw_871, by decide, by decide, by decide +kernel⟩, tw_870, tw_33, _, rfl, rfl, by decide⟩
theorem ml_X6_42 : wCV RX6 42 yX3_empty cX3_empty 1 none 0 3 := ⟨⟨tw_574, tw_126, tw_276, by decide, by decide, by decide +kernel⟩, tw_274, tw_275, _, rfl, rfl, by decide⟩
theorem ml_X6_47 : wCV RX6 47 yX10_cut cX10_cut 6 none 1 10 := ⟨⟨tw_575, tw_129, tw_578, by decide, by decide, by decide +kernel⟩, tw_576, tw_577, _, rfl, rfl, by decide⟩
theorem ml_X6_51 : wCV RX6 51 yX10_sortHere cX10_sortHere 1 (some .int) 0 10 := ⟨⟨tw_720, tw_129, tw_723, by decide, by decide, by decide +kernel⟩, tw_721, tw_722, _, rfl, rfl, by decide⟩
theorem ml_X6_55 : wCV RX6 55 yX6_readStatement cX6_readStatement 2 none 0 6 := ⟨⟨tw_724, tw_128, tw_727, by decide, by decide, by decide +kernel⟩, tw_726, tw_6, _, rfl, rfl, by decide⟩
theorem ml_X6_58 : wCV RX6 58 yX10_beginHere cX10_beginHere 1 (some .int) 0 10 := ⟨⟨tw_740, tw_129, tw_743, by decide, by decide, by decide +kernel⟩, tw_741, tw_742, _, rfl, rfl, by decide⟩
theorem ml_X6_61 : wCV RX6 61 yX10_placeHere cX10_placeHere 1 (some .int) 0 10 := ⟨⟨tw_744, tw_129, tw_747, by decide, by decide, by decide +kernel⟩, tw_745, tw_746, _, rfl, rfl, by decide⟩
theorem ml_X6_64 : wCV RX6 64 yX10_stop cX10_stop 1 none 0 10 := ⟨⟨tw_748, tw_129, tw_751, by decide, by decide, by decide +kernel⟩, tw_749, tw_750, _, rfl, rfl, by decide⟩
theorem ml_X6_69 : wCT RX6 69 yJ0_length_8abf5 cJ0_length_8abf5 1 (some .int) 0 := ⟨⟨tw_605, tw_134, tw_608, by decide, by decide, by decide +kernel⟩, tw_606, tw_607, rfl⟩
theorem ml_X6_74 : wCT RX6 74 yJ0_charAt_5068e cJ0_charAt_5068e 2 (some .char) 1 := ⟨⟨tw_615, tw_134, tw_618, by decide, by decide, by decide +kernel⟩, tw_616, tw_617, rfl⟩
theorem ml_X6_78 : wCV RX6 78 yX10_valueHere cX10_valueHere 1 (some .int) 0 10 := ⟨⟨tw_732, tw_129, tw_735, by decide, by decide, by decide +kernel⟩, tw_733, tw_734, _, rfl, rfl, by decide⟩
theorem ml_X6_81 : wCV RX6 81 yX10_isHere cX10_isHere 3 (some .boolean) 2 10 := ⟨⟨tw_788, tw_129, tw_791, by decide, by decide, by decide +kernel⟩, tw_789, tw_790, _, rfl, rfl, by decide⟩
theorem ml_X6_85 : wCV RX6 85 yX6_isSign cX6_isSign 2 (some .boolean) 1 6 := ⟨⟨tw_840, tw_128, tw_843, by decide, by decide, by decide +kernel⟩, tw_842, tw_26, _, rfl, rfl, by decide⟩
theorem ml_X6_89 : wCV RX6 89 yX10_step cX10_step 1 none 0 10 := ⟨⟨tw_760, tw_129, tw_763, by decide, by decide, by decide +kernel⟩, tw_761, tw_762, _, rfl, rfl, by decide⟩
theorem ml_X6_92 : wCV RX6 92 yX6_fail cX6_fail 2 none 1 6 := ⟨⟨tw_736, tw_128, tw_739, by decide, by decide, by decide +kernel⟩, tw_738, tw_8, _, rfl, rfl, by decide⟩
theorem ml_X6_96 : wCV RX6 96 yX6_ownHere cX6_ownHere 1 (some .int) 0 6 := ⟨⟨tw_728, tw_128, tw_731, by decide, by decide, by decide +kernel⟩, tw_730, tw_7, _, rfl, rfl, by decide⟩
theorem ml_X6_99 : wCV RX6 99 yX6_isFull cX6_isFull 2 (some .boolean) 1 6 := ⟨⟨tw_752, tw_128, tw_755, by decide, by decide, by decide +kernel⟩, tw_754, tw_9, _, rfl, rfl, by decide⟩
theorem ml_X8_17 : wCV RX8 17 yX3_hasCode cX3_hasCode 2 (some .boolean) 1 3 := ⟨⟨tw_938, tw_126, tw_759, by decide, by decide, by decide +kernel⟩, tw_757, tw_758, _, rfl, rfl, by decide⟩
theorem ml_X8_32 : wCS RX8 32 yX8_join cX8_join 5 (some .long) 3 := ⟨⟨tw_939, tw_122, tw_941, by decide, by decide, by decide +kernel⟩, tw_940⟩
theorem ml_X8_36 : wCS RX8 36 yX8_within cX8_within 2 (some .long) 1 := ⟨⟨tw_942, tw_122, tw_944, by decide, by decide, by decide +kernel⟩, tw_943⟩
theorem sw_J0_1053 : Cond.fieldLink RJ0 1053 "jdk/internal/util/Preconditions" "SIOOBE_FORMATTER" "Ljava/util/function/BiFunction;" ∈ wT := tw_629
theorem sw_J0_15 : Cond.fieldLink RJ0 15 "java/lang/String" "coder" "B" ∈ wT := tw_1989
theorem sw_J0_38 : Cond.fieldLink RJ0 38 "java/lang/String" "COMPACT_STRINGS" "Z" ∈ wT := tw_613
theorem sw_J0_9 : Cond.fieldLink RJ0 9 "java/lang/String" "value" "[B" ∈ wT := tw_1988
theorem cw_X3_76 : Cond.methodLink RX3 76 arraycopyName ∈ wT ∧ Cond.native arraycopyName ∈ wT ∧ Cond.static arraycopyName ∈ wT ∧ Cond.initialized "java/lang/System" ∈ wT := ⟨tw_1116, tw_1030, tw_1029, tw_141⟩
theorem cw_X7_42 : Cond.methodLink RX7 42 arraycopyName ∈ wT ∧ Cond.native arraycopyName ∈ wT ∧ Cond.static arraycopyName ∈ wT ∧ Cond.initialized "java/lang/System" ∈ wT := ⟨tw_1028, tw_1030, tw_1029, tw_141⟩
theorem oi_inst : Cond.instanceMethod objectInit ∈ wT := tw_148
theorem oi_code : Cond.code objectInit ⟨#[0xb1]⟩ 1 none ∈ wT := tw_149
theorem ac_byte : Cond.arrayClass .byte ∈ wT := tw_167
theorem ac_int : Cond.arrayClass .int ∈ wT := tw_181
theorem ac_long : Cond.arrayClass .long ∈ wT := tw_182
theorem ac_boolean : Cond.arrayClass .boolean ∈ wT := tw_1481
theorem ao_State : Cond.arrayOver (.object "BlindColours$State") ∈ wT := tw_240
theorem oi_X0_3 : Cond.methodLink RX0 3 objectInit ∈ wT := tw_442
theorem oi_X10_3 : Cond.methodLink RX10 3 objectInit ∈ wT := tw_353
theorem oi_X11_1 : Cond.methodLink RX11 1 objectInit ∈ wT := tw_147
theorem oi_X12_1 : Cond.methodLink RX12 1 objectInit ∈ wT := tw_1272
theorem oi_X1_3 : Cond.methodLink RX1 3 objectInit ∈ wT := tw_405
theorem oi_X2_3 : Cond.methodLink RX2 3 objectInit ∈ wT := tw_455
theorem oi_X3_3 : Cond.methodLink RX3 3 objectInit ∈ wT := tw_272
theorem oi_X4_1 : Cond.methodLink RX4 1 objectInit ∈ wT := tw_238
theorem oi_X5_3 : Cond.methodLink RX5 3 objectInit ∈ wT := tw_258
theorem oi_X6_3 : Cond.methodLink RX6 3 objectInit ∈ wT := tw_347
theorem oi_X7_3 : Cond.methodLink RX7 3 objectInit ∈ wT := tw_188
theorem oi_X8_1 : Cond.methodLink RX8 1 objectInit ∈ wT := tw_173
theorem oi_X9_3 : Cond.methodLink RX9 3 objectInit ∈ wT := tw_155
theorem an_X4_9 : Cond.classLink RX4 9 "BlindColours$State" ∈ wT := tw_239
theorem nl_X11_101 : wNL RX11 101 2 := ⟨RX2, TX2, 9, tyX2, iwX2, rfl, tyX2_ok, tw_450, tw_451, tw_132, rfl, by decide, by decide +kernel⟩
theorem nl_X11_16 : wNL RX11 16 8 := ⟨RX8, TX8, 2, tyX8, iwX8, rfl, tyX8_ok, tw_168, tw_169, tw_122, rfl, by decide, by decide +kernel⟩
theorem nl_X11_23 : wNL RX11 23 7 := ⟨RX7, TX7, 7, tyX7, iwX7, rfl, tyX7_ok, tw_183, tw_184, tw_123, rfl, by decide, by decide +kernel⟩
theorem nl_X11_33 : wNL RX11 33 4 := ⟨RX4, TX4, 3, tyX4, iwX4, rfl, tyX4_ok, tw_233, tw_234, tw_124, rfl, by decide, by decide +kernel⟩
theorem nl_X11_40 : wNL RX11 40 5 := ⟨RX5, TX5, 2, tyX5, iwX5, rfl, tyX5_ok, tw_253, tw_254, tw_125, rfl, by decide, by decide +kernel⟩
theorem nl_X11_54 : wNL RX11 54 3 := ⟨RX3, TX3, 12, tyX3, iwX3, rfl, tyX3_ok, tw_267, tw_268, tw_126, rfl, by decide, by decide +kernel⟩
theorem nl_X11_7 : wNL RX11 7 9 := ⟨RX9, TX9, 2, tyX9, iwX9, rfl, tyX9_ok, tw_150, tw_151, tw_121, rfl, by decide, by decide +kernel⟩
theorem nl_X11_74 : wNL RX11 74 6 := ⟨RX6, TX6, 8, tyX6, iwX6, rfl, tyX6_ok, tw_342, tw_343, tw_128, rfl, by decide, by decide +kernel⟩
theorem nl_X11_83 : wNL RX11 83 1 := ⟨RX1, TX1, 10, tyX1, iwX1, rfl, tyX1_ok, tw_400, tw_401, tw_130, rfl, by decide, by decide +kernel⟩
theorem nl_X11_92 : wNL RX11 92 0 := ⟨RX0, TX0, 2, tyX0, iwX0, rfl, tyX0_ok, tw_437, tw_438, tw_131, rfl, by decide, by decide +kernel⟩
theorem nl_X2_9 : wNL RX2 9 7 := ⟨RX7, TX7, 7, tyX7, iwX7, rfl, tyX7_ok, tw_456, tw_184, tw_123, rfl, by decide, by decide +kernel⟩
theorem nl_X4_9 : wNL RX4 9 7 := ⟨RX7, TX7, 7, tyX7, iwX7, rfl, tyX7_ok, tw_239, tw_184, tw_123, rfl, by decide, by decide +kernel⟩
theorem nl_X6_9 : wNL RX6 9 10 := ⟨RX10, TX10, 6, tyX10, iwX10, rfl, tyX10_ok, tw_348, tw_349, tw_129, rfl, by decide, by decide +kernel⟩
theorem ci_X11_103 : wCI RX11 103 yX2_init cX2_init 3 2 := ⟨⟨tw_452, tw_132, tw_454, by decide, by decide, by decide +kernel⟩, rfl, tw_453⟩
theorem ci_X11_35 : wCI RX11 35 yX4_init cX4_init 2 0 := ⟨⟨tw_235, tw_124, tw_237, by decide, by decide, by decide +kernel⟩, rfl, tw_236⟩
theorem ci_X11_56 : wCI RX11 56 yX3_init cX3_init 1 0 := ⟨⟨tw_269, tw_126, tw_271, by decide, by decide, by decide +kernel⟩, rfl, tw_270⟩
theorem ci_X11_76 : wCI RX11 76 yX6_init cX6_init 3 2 := ⟨⟨tw_344, tw_128, tw_346, by decide, by decide, by decide +kernel⟩, rfl, tw_345⟩
theorem ci_X11_85 : wCI RX11 85 yX1_init cX1_init 4 3 := ⟨⟨tw_402, tw_130, tw_404, by decide, by decide, by decide +kernel⟩, rfl, tw_403⟩
theorem ci_X11_94 : wCI RX11 94 yX0_init cX0_init 3 2 := ⟨⟨tw_439, tw_131, tw_441, by decide, by decide, by decide +kernel⟩, rfl, tw_440⟩
theorem cn_X11_18 : wCN RX11 18 yX8_init "BlindColours" cX8_init 1 0 := ⟨tw_170, tw_122, tw_172, ⟨by decide, by decide, by decide +kernel⟩, rfl, tw_171⟩
theorem cn_X11_25 : wCN RX11 25 yX7_init "BlindColours" cX7_init 1 0 := ⟨tw_185, tw_123, tw_187, ⟨by decide, by decide, by decide +kernel⟩, rfl, tw_186⟩
theorem cn_X11_42 : wCN RX11 42 yX5_init "BlindColours" cX5_init 1 0 := ⟨tw_255, tw_125, tw_257, ⟨by decide, by decide, by decide +kernel⟩, rfl, tw_256⟩
theorem cn_X11_9 : wCN RX11 9 yX9_init "BlindColours" cX9_init 1 0 := ⟨tw_152, tw_121, tw_154, ⟨by decide, by decide, by decide +kernel⟩, rfl, tw_153⟩
theorem cn_X2_11 : wCN RX2 11 yX7_init "BlindColours" cX7_init 1 0 := ⟨tw_457, tw_123, tw_187, ⟨by decide, by decide, by decide +kernel⟩, rfl, tw_186⟩
theorem cn_X4_22 : wCN RX4 22 yX7_init "BlindColours" cX7_init 1 0 := ⟨tw_241, tw_123, tw_187, ⟨by decide, by decide, by decide +kernel⟩, rfl, tw_186⟩
theorem cn_X6_11 : wCN RX6 11 yX10_init "BlindColours" cX10_init 1 0 := ⟨tw_350, tw_129, tw_352, ⟨by decide, by decide, by decide +kernel⟩, rfl, tw_351⟩
