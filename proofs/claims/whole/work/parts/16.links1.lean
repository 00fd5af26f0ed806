theorem iwX0 : ∀ w ∈ u_ws RX0 TX0 2, w ∈ wT := by decide +kernel
theorem iwX1 : ∀ w ∈ u_ws RX1 TX1 10, w ∈ wT := by decide +kernel
theorem iwX10 : ∀ w ∈ u_ws RX10 TX10 6, w ∈ wT := by decide +kernel
theorem iwX11 : ∀ w ∈ u_ws RX11 TX11 17, w ∈ wT := by decide +kernel
theorem iwX12 : ∀ w ∈ u_ws RX12 TX12 69, w ∈ wT := by decide +kernel
theorem iwX2 : ∀ w ∈ u_ws RX2 TX2 9, w ∈ wT := by decide +kernel
theorem iwX3 : ∀ w ∈ u_ws RX3 TX3 12, w ∈ wT := by decide +kernel
theorem iwX4 : ∀ w ∈ u_ws RX4 TX4 3, w ∈ wT := by decide +kernel
theorem iwX5 : ∀ w ∈ u_ws RX5 TX5 2, w ∈ wT := by decide +kernel
theorem iwX6 : ∀ w ∈ u_ws RX6 TX6 8, w ∈ wT := by decide +kernel
theorem iwX7 : ∀ w ∈ u_ws RX7 TX7 7, w ∈ wT := by decide +kernel
theorem iwX8 : ∀ w ∈ u_ws RX8 TX8 2, w ∈ wT := by decide +kernel
theorem iwX9 : ∀ w ∈ u_ws RX9 TX9 2, w ∈ wT := by decide +kernel
theorem tc_J6_265 : Cond.constant RJ6 265 (1431655765) ∈ wT := List.mem_filter.mpr ⟨List.mem_of_getElem? (i := 962) (by decide +kernel), by decide +kernel⟩
theorem tc_J6_266 : Cond.constant RJ6 266 (858993459) ∈ wT := List.mem_filter.mpr ⟨List.mem_of_getElem? (i := 963) (by decide +kernel), by decide +kernel⟩
theorem tc_J6_267 : Cond.constant RJ6 267 (252645135) ∈ wT := List.mem_filter.mpr ⟨List.mem_of_getElem? (i := 964) (by decide +kernel), by decide +kernel⟩
theorem tc_X11_205 : Cond.constantLong RX11 205 (-1000000000000000) ∈ wT := List.mem_filter.mpr ⟨List.mem_of_getElem? (i := 973) (by decide +kernel), by decide +kernel⟩
theorem tc_X11_310 : Cond.constantLong RX11 310 (1103515245) ∈ wT := List.mem_filter.mpr ⟨List.mem_of_getElem? (i := 1189) (by decide +kernel), by decide +kernel⟩
theorem tc_X11_312 : Cond.constantLong RX11 312 (12345) ∈ wT := List.mem_filter.mpr ⟨List.mem_of_getElem? (i := 1190) (by decide +kernel), by decide +kernel⟩
theorem tc_X11_314 : Cond.constantLong RX11 314 (2147483647) ∈ wT := List.mem_filter.mpr ⟨List.mem_of_getElem? (i := 1191) (by decide +kernel), by decide +kernel⟩
theorem tc_X12_250 : Cond.constantLong RX12 250 (422725643876) ∈ wT := List.mem_filter.mpr ⟨List.mem_of_getElem? (i := 1524) (by decide +kernel), by decide +kernel⟩
theorem tc_X12_252 : Cond.constantLong RX12 252 (2002874989) ∈ wT := List.mem_filter.mpr ⟨List.mem_of_getElem? (i := 1553) (by decide +kernel), by decide +kernel⟩
theorem tc_X12_254 : Cond.constantLong RX12 254 (1819243876) ∈ wT := List.mem_filter.mpr ⟨List.mem_of_getElem? (i := 1554) (by decide +kernel), by decide +kernel⟩
theorem tc_X12_256 : Cond.constantLong RX12 256 (1684366704) ∈ wT := List.mem_filter.mpr ⟨List.mem_of_getElem? (i := 1555) (by decide +kernel), by decide +kernel⟩
theorem tc_X12_258 : Cond.constantLong RX12 258 (109330211763570) ∈ wT := List.mem_filter.mpr ⟨List.mem_of_getElem? (i := 1556) (by decide +kernel), by decide +kernel⟩
theorem tc_X12_260 : Cond.constantLong RX12 260 (1668248436) ∈ wT := List.mem_filter.mpr ⟨List.mem_of_getElem? (i := 1557) (by decide +kernel), by decide +kernel⟩
theorem tc_X12_262 : Cond.constantLong RX12 262 (499967946343) ∈ wT := List.mem_filter.mpr ⟨List.mem_of_getElem? (i := 1558) (by decide +kernel), by decide +kernel⟩
theorem tc_X12_264 : Cond.constantLong RX12 264 (1818326117) ∈ wT := List.mem_filter.mpr ⟨List.mem_of_getElem? (i := 1559) (by decide +kernel), by decide +kernel⟩
theorem tc_X12_266 : Cond.constantLong RX12 266 (1852137842) ∈ wT := List.mem_filter.mpr ⟨List.mem_of_getElem? (i := 1560) (by decide +kernel), by decide +kernel⟩
theorem tc_X12_268 : Cond.constantLong RX12 268 (512801993331) ∈ wT := List.mem_filter.mpr ⟨List.mem_of_getElem? (i := 1561) (by decide +kernel), by decide +kernel⟩
theorem tc_X12_270 : Cond.constantLong RX12 270 (483006772069) ∈ wT := List.mem_filter.mpr ⟨List.mem_of_getElem? (i := 1562) (by decide +kernel), by decide +kernel⟩
theorem tc_X12_272 : Cond.constantLong RX12 272 (7499639) ∈ wT := List.mem_filter.mpr ⟨List.mem_of_getElem? (i := 1563) (by decide +kernel), by decide +kernel⟩
theorem tc_X12_274 : Cond.constantLong RX12 274 (126870908724595) ∈ wT := List.mem_filter.mpr ⟨List.mem_of_getElem? (i := 1564) (by decide +kernel), by decide +kernel⟩
theorem tc_X12_276 : Cond.constantLong RX12 276 (109330362692723) ∈ wT := List.mem_filter.mpr ⟨List.mem_of_getElem? (i := 1565) (by decide +kernel), by decide +kernel⟩
theorem tc_X12_278 : Cond.constantLong RX12 278 (444150998387) ∈ wT := List.mem_filter.mpr ⟨List.mem_of_getElem? (i := 1566) (by decide +kernel), by decide +kernel⟩
theorem tc_X12_280 : Cond.constantLong RX12 280 (2036687218) ∈ wT := List.mem_filter.mpr ⟨List.mem_of_getElem? (i := 1567) (by decide +kernel), by decide +kernel⟩
theorem tc_X12_282 : Cond.constantLong RX12 282 (1836019556) ∈ wT := List.mem_filter.mpr ⟨List.mem_of_getElem? (i := 1568) (by decide +kernel), by decide +kernel⟩
theorem tc_X12_284 : Cond.constantLong RX12 284 (469786452840) ∈ wT := List.mem_filter.mpr ⟨List.mem_of_getElem? (i := 1569) (by decide +kernel), by decide +kernel⟩
theorem tc_X12_286 : Cond.constantLong RX12 286 (2003792494) ∈ wT := List.mem_filter.mpr ⟨List.mem_of_getElem? (i := 1570) (by decide +kernel), by decide +kernel⟩
theorem tc_X12_288 : Cond.constantLong RX12 288 (448377483876) ∈ wT := List.mem_filter.mpr ⟨List.mem_of_getElem? (i := 1571) (by decide +kernel), by decide +kernel⟩
theorem tc_X12_290 : Cond.constantLong RX12 290 (1650553445) ∈ wT := List.mem_filter.mpr ⟨List.mem_of_getElem? (i := 1572) (by decide +kernel), by decide +kernel⟩
theorem tc_X12_292 : Cond.constantLong RX12 292 (26982) ∈ wT := List.mem_filter.mpr ⟨List.mem_of_getElem? (i := 1573) (by decide +kernel), by decide +kernel⟩
theorem tc_X12_294 : Cond.constantLong RX12 294 (28530) ∈ wT := List.mem_filter.mpr ⟨List.mem_of_getElem? (i := 1574) (by decide +kernel), by decide +kernel⟩
theorem tc_X12_296 : Cond.constantLong RX12 296 (6385252) ∈ wT := List.mem_filter.mpr ⟨List.mem_of_getElem? (i := 1575) (by decide +kernel), by decide +kernel⟩
theorem tc_X12_298 : Cond.constantLong RX12 298 (7237492) ∈ wT := List.mem_filter.mpr ⟨List.mem_of_getElem? (i := 1576) (by decide +kernel), by decide +kernel⟩
theorem tc_X12_300 : Cond.constantLong RX12 300 (6384748) ∈ wT := List.mem_filter.mpr ⟨List.mem_of_getElem? (i := 1577) (by decide +kernel), by decide +kernel⟩
theorem tc_X12_302 : Cond.constantLong RX12 302 (7170414) ∈ wT := List.mem_filter.mpr ⟨List.mem_of_getElem? (i := 1578) (by decide +kernel), by decide +kernel⟩
theorem tc_X12_304 : Cond.constantLong RX12 304 (7168376) ∈ wT := List.mem_filter.mpr ⟨List.mem_of_getElem? (i := 1579) (by decide +kernel), by decide +kernel⟩
theorem tc_X12_427 : Cond.constantLong RX12 427 (1000000) ∈ wT := List.mem_filter.mpr ⟨List.mem_of_getElem? (i := 1770) (by decide +kernel), by decide +kernel⟩
theorem tc_X12_429 : Cond.constantLong RX12 429 (-1000000) ∈ wT := List.mem_filter.mpr ⟨List.mem_of_getElem? (i := 1771) (by decide +kernel), by decide +kernel⟩
theorem tc_X12_482 : Cond.constantLong RX12 482 (99) ∈ wT := List.mem_filter.mpr ⟨List.mem_of_getElem? (i := 1854) (by decide +kernel), by decide +kernel⟩
theorem tc_X12_516 : Cond.constantLong RX12 516 (255) ∈ wT := List.mem_filter.mpr ⟨List.mem_of_getElem? (i := 1739) (by decide +kernel), by decide +kernel⟩
theorem tc_X12_524 : Cond.constantLong RX12 524 (-1000000000000000) ∈ wT := List.mem_filter.mpr ⟨List.mem_of_getElem? (i := 1801) (by decide +kernel), by decide +kernel⟩
theorem tc_X12_550 : Cond.constant RX12 550 (100000000) ∈ wT := List.mem_filter.mpr ⟨List.mem_of_getElem? (i := 1923) (by decide +kernel), by decide +kernel⟩
theorem tc_X12_557 : Cond.constantLong RX12 557 (1103515245) ∈ wT := List.mem_filter.mpr ⟨List.mem_of_getElem? (i := 1944) (by decide +kernel), by decide +kernel⟩
theorem tc_X12_559 : Cond.constantLong RX12 559 (12345) ∈ wT := List.mem_filter.mpr ⟨List.mem_of_getElem? (i := 1945) (by decide +kernel), by decide +kernel⟩
theorem tc_X12_561 : Cond.constantLong RX12 561 (2147483648) ∈ wT := List.mem_filter.mpr ⟨List.mem_of_getElem? (i := 1946) (by decide +kernel), by decide +kernel⟩
theorem tc_X12_563 : Cond.constantLong RX12 563 (64) ∈ wT := List.mem_filter.mpr ⟨List.mem_of_getElem? (i := 1947) (by decide +kernel), by decide +kernel⟩
theorem tc_X1_46 : Cond.constant RX1 46 (-2000000) ∈ wT := List.mem_filter.mpr ⟨List.mem_of_getElem? (i := 922) (by decide +kernel), by decide +kernel⟩
theorem tc_X8_40 : Cond.constantLong RX8 40 (1000000) ∈ wT := List.mem_filter.mpr ⟨List.mem_of_getElem? (i := 945) (by decide +kernel), by decide +kernel⟩
theorem tc_X8_42 : Cond.constantLong RX8 42 (-1000000) ∈ wT := List.mem_filter.mpr ⟨List.mem_of_getElem? (i := 946) (by decide +kernel), by decide +kernel⟩
theorem tw_0 : Cond.selects (yX11_refuse).cls yX11_refuse yX11_refuse ∈ wT := List.mem_filter.mpr ⟨List.mem_of_getElem? (i := 0) (by decide +kernel), by decide +kernel⟩
theorem tw_1 : Cond.selects (yX11_refuseIt).cls yX11_refuseIt yX11_refuseIt ∈ wT := List.mem_filter.mpr ⟨List.mem_of_getElem? (i := 1) (by decide +kernel), by decide +kernel⟩
theorem tw_2 : Cond.selects (yX10_cutOne).cls yX10_cutOne yX10_cutOne ∈ wT := List.mem_filter.mpr ⟨List.mem_of_getElem? (i := 2) (by decide +kernel), by decide +kernel⟩
theorem tw_3 : Cond.selects (yX10_add).cls yX10_add yX10_add ∈ wT := List.mem_filter.mpr ⟨List.mem_of_getElem? (i := 3) (by decide +kernel), by decide +kernel⟩
theorem tw_4 : Cond.selects (yX10_cutWord).cls yX10_cutWord yX10_cutWord ∈ wT := List.mem_filter.mpr ⟨List.mem_of_getElem? (i := 4) (by decide +kernel), by decide +kernel⟩
theorem tw_5 : Cond.selects (yX10_cutNumber).cls yX10_cutNumber yX10_cutNumber ∈ wT := List.mem_filter.mpr ⟨List.mem_of_getElem? (i := 5) (by decide +kernel), by decide +kernel⟩
theorem tw_6 : Cond.selects (yX6_readStatement).cls yX6_readStatement yX6_readStatement ∈ wT := List.mem_filter.mpr ⟨List.mem_of_getElem? (i := 6) (by decide +kernel), by decide +kernel⟩
theorem tw_7 : Cond.selects (yX6_ownHere).cls yX6_ownHere yX6_ownHere ∈ wT := List.mem_filter.mpr ⟨List.mem_of_getElem? (i := 7) (by decide +kernel), by decide +kernel⟩
theorem tw_8 : Cond.selects (yX6_fail).cls yX6_fail yX6_fail ∈ wT := List.mem_filter.mpr ⟨List.mem_of_getElem? (i := 8) (by decide +kernel), by decide +kernel⟩
theorem tw_9 : Cond.selects (yX6_isFull).cls yX6_isFull yX6_isFull ∈ wT := List.mem_filter.mpr ⟨List.mem_of_getElem? (i := 9) (by decide +kernel), by decide +kernel⟩
theorem tw_10 : Cond.selects (yX6_readOne).cls yX6_readOne yX6_readOne ∈ wT := List.mem_filter.mpr ⟨List.mem_of_getElem? (i := 10) (by decide +kernel), by decide +kernel⟩
theorem tw_11 : Cond.selects (yX6_isName).cls yX6_isName yX6_isName ∈ wT := List.mem_filter.mpr ⟨List.mem_of_getElem? (i := 11) (by decide +kernel), by decide +kernel⟩
theorem tw_12 : Cond.selects (yX6_isTaken).cls yX6_isTaken yX6_isTaken ∈ wT := List.mem_filter.mpr ⟨List.mem_of_getElem? (i := 12) (by decide +kernel), by decide +kernel⟩
theorem tw_13 : Cond.selects (yX6_takeTrait).cls yX6_takeTrait yX6_takeTrait ∈ wT := List.mem_filter.mpr ⟨List.mem_of_getElem? (i := 13) (by decide +kernel), by decide +kernel⟩
theorem tw_14 : Cond.selects (yX6_isOwn).cls yX6_isOwn yX6_isOwn ∈ wT := List.mem_filter.mpr ⟨List.mem_of_getElem? (i := 14) (by decide +kernel), by decide +kernel⟩
theorem tw_15 : Cond.selects (yX6_takeUpTo).cls yX6_takeUpTo yX6_takeUpTo ∈ wT := List.mem_filter.mpr ⟨List.mem_of_getElem? (i := 15) (by decide +kernel), by decide +kernel⟩
theorem tw_16 : Cond.selects (yX6_readLate).cls yX6_readLate yX6_readLate ∈ wT := List.mem_filter.mpr ⟨List.mem_of_getElem? (i := 16) (by decide +kernel), by decide +kernel⟩
theorem tw_17 : Cond.selects (yX6_findNamed).cls yX6_findNamed yX6_findNamed ∈ wT := List.mem_filter.mpr ⟨List.mem_of_getElem? (i := 17) (by decide +kernel), by decide +kernel⟩
theorem tw_18 : Cond.selects (yX6_readNear).cls yX6_readNear yX6_readNear ∈ wT := List.mem_filter.mpr ⟨List.mem_of_getElem? (i := 18) (by decide +kernel), by decide +kernel⟩
theorem tw_19 : Cond.selects (yX6_readWears).cls yX6_readWears yX6_readWears ∈ wT := List.mem_filter.mpr ⟨List.mem_of_getElem? (i := 19) (by decide +kernel), by decide +kernel⟩
theorem tw_20 : Cond.selects (yX6_readFormula).cls yX6_readFormula yX6_readFormula ∈ wT := List.mem_filter.mpr ⟨List.mem_of_getElem? (i := 20) (by decide +kernel), by decide +kernel⟩
theorem tw_21 : Cond.selects (yX6_readTest).cls yX6_readTest yX6_readTest ∈ wT := List.mem_filter.mpr ⟨List.mem_of_getElem? (i := 21) (by decide +kernel), by decide +kernel⟩
theorem tw_22 : Cond.selects (yX6_readBoth).cls yX6_readBoth yX6_readBoth ∈ wT := List.mem_filter.mpr ⟨List.mem_of_getElem? (i := 22) (by decide +kernel), by decide +kernel⟩
theorem tw_23 : Cond.selects (yX6_readFact).cls yX6_readFact yX6_readFact ∈ wT := List.mem_filter.mpr ⟨List.mem_of_getElem? (i := 23) (by decide +kernel), by decide +kernel⟩
theorem tw_24 : Cond.selects (yX6_opens).cls yX6_opens yX6_opens ∈ wT := List.mem_filter.mpr ⟨List.mem_of_getElem? (i := 24) (by decide +kernel), by decide +kernel⟩
theorem tw_25 : Cond.selects (yX6_emit).cls yX6_emit yX6_emit ∈ wT := List.mem_filter.mpr ⟨List.mem_of_getElem? (i := 25) (by decide +kernel), by decide +kernel⟩
theorem tw_26 : Cond.selects (yX6_isSign).cls yX6_isSign yX6_isSign ∈ wT := List.mem_filter.mpr ⟨List.mem_of_getElem? (i := 26) (by decide +kernel), by decide +kernel⟩
theorem tw_27 : Cond.selects (yX6_expect).cls yX6_expect yX6_expect ∈ wT := List.mem_filter.mpr ⟨List.mem_of_getElem? (i := 27) (by decide +kernel), by decide +kernel⟩
theorem tw_28 : Cond.selects (yX6_readComparison).cls yX6_readComparison yX6_readComparison ∈ wT := List.mem_filter.mpr ⟨List.mem_of_getElem? (i := 28) (by decide +kernel), by decide +kernel⟩
theorem tw_29 : Cond.selects (yX6_readSum).cls yX6_readSum yX6_readSum ∈ wT := List.mem_filter.mpr ⟨List.mem_of_getElem? (i := 29) (by decide +kernel), by decide +kernel⟩
theorem tw_30 : Cond.selects (yX6_readProduct).cls yX6_readProduct yX6_readProduct ∈ wT := List.mem_filter.mpr ⟨List.mem_of_getElem? (i := 30) (by decide +kernel), by decide +kernel⟩
theorem tw_31 : Cond.selects (yX6_readPart).cls yX6_readPart yX6_readPart ∈ wT := List.mem_filter.mpr ⟨List.mem_of_getElem? (i := 31) (by decide +kernel), by decide +kernel⟩
theorem tw_32 : Cond.selects (yX6_variable).cls yX6_variable yX6_variable ∈ wT := List.mem_filter.mpr ⟨List.mem_of_getElem? (i := 32) (by decide +kernel), by decide +kernel⟩
theorem tw_33 : Cond.selects (yX6_readChosen).cls yX6_readChosen yX6_readChosen ∈ wT := List.mem_filter.mpr ⟨List.mem_of_getElem? (i := 33) (by decide +kernel), by decide +kernel⟩
theorem tw_34 : Cond.selects (yX3_clashesBelow).cls yX3_clashesBelow yX3_clashesBelow ∈ wT := List.mem_filter.mpr ⟨List.mem_of_getElem? (i := 34) (by decide +kernel), by decide +kernel⟩
theorem tw_35 : Cond.selects (yX1_putPerson).cls yX1_putPerson yX1_putPerson ∈ wT := List.mem_filter.mpr ⟨List.mem_of_getElem? (i := 35) (by decide +kernel), by decide +kernel⟩
theorem tw_36 : Cond.selects (yX11_areThere).cls yX11_areThere yX11_areThere ∈ wT := List.mem_filter.mpr ⟨List.mem_of_getElem? (i := 36) (by decide +kernel), by decide +kernel⟩
theorem tw_37 : Cond.selects (yX11_canPass).cls yX11_canPass yX11_canPass ∈ wT := List.mem_filter.mpr ⟨List.mem_of_getElem? (i := 37) (by decide +kernel), by decide +kernel⟩
theorem tw_38 : Cond.selects (yX11_lookAhead).cls yX11_lookAhead yX11_lookAhead ∈ wT := List.mem_filter.mpr ⟨List.mem_of_getElem? (i := 38) (by decide +kernel), by decide +kernel⟩
theorem tw_39 : Cond.selects (yX0_gift).cls yX0_gift yX0_gift ∈ wT := List.mem_filter.mpr ⟨List.mem_of_getElem? (i := 39) (by decide +kernel), by decide +kernel⟩
theorem tw_40 : Cond.selects (yX0_changeMoods).cls yX0_changeMoods yX0_changeMoods ∈ wT := List.mem_filter.mpr ⟨List.mem_of_getElem? (i := 40) (by decide +kernel), by decide +kernel⟩
theorem tw_41 : Cond.selects (yX1_beginOrders).cls yX1_beginOrders yX1_beginOrders ∈ wT := List.mem_filter.mpr ⟨List.mem_of_getElem? (i := 41) (by decide +kernel), by decide +kernel⟩
theorem tw_42 : Cond.selects (yX1_nextOrder).cls yX1_nextOrder yX1_nextOrder ∈ wT := List.mem_filter.mpr ⟨List.mem_of_getElem? (i := 42) (by decide +kernel), by decide +kernel⟩
theorem tw_43 : Cond.selects (yX2_agrees).cls yX2_agrees yX2_agrees ∈ wT := List.mem_filter.mpr ⟨List.mem_of_getElem? (i := 43) (by decide +kernel), by decide +kernel⟩
theorem tw_44 : Cond.selects (yX11_draw).cls yX11_draw yX11_draw ∈ wT := List.mem_filter.mpr ⟨List.mem_of_getElem? (i := 44) (by decide +kernel), by decide +kernel⟩
theorem tw_45 : Cond.selects (yX5_add).cls yX5_add yX5_add ∈ wT := List.mem_filter.mpr ⟨List.mem_of_getElem? (i := 45) (by decide +kernel), by decide +kernel⟩
theorem tw_46 : Cond.selects (yX12_refuses).cls yX12_refuses yX12_refuses ∈ wT := List.mem_filter.mpr ⟨List.mem_of_getElem? (i := 46) (by decide +kernel), by decide +kernel⟩
theorem tw_47 : Cond.selects (yX12_put).cls yX12_put yX12_put ∈ wT := List.mem_filter.mpr ⟨List.mem_of_getElem? (i := 47) (by decide +kernel), by decide +kernel⟩
theorem tw_48 : Cond.selects (yX12_ahead).cls yX12_ahead yX12_ahead ∈ wT := List.mem_filter.mpr ⟨List.mem_of_getElem? (i := 48) (by decide +kernel), by decide +kernel⟩
theorem tw_49 : Cond.selects (yX12_statement).cls yX12_statement yX12_statement ∈ wT := List.mem_filter.mpr ⟨List.mem_of_getElem? (i := 49) (by decide +kernel), by decide +kernel⟩
theorem tw_50 : Cond.selects (yX12_lex).cls yX12_lex yX12_lex ∈ wT := List.mem_filter.mpr ⟨List.mem_of_getElem? (i := 50) (by decide +kernel), by decide +kernel⟩
theorem tw_51 : Cond.selects (yX12_blame).cls yX12_blame yX12_blame ∈ wT := List.mem_filter.mpr ⟨List.mem_of_getElem? (i := 51) (by decide +kernel), by decide +kernel⟩
theorem tw_52 : Cond.selects (yX12_isWord).cls yX12_isWord yX12_isWord ∈ wT := List.mem_filter.mpr ⟨List.mem_of_getElem? (i := 52) (by decide +kernel), by decide +kernel⟩
theorem tw_53 : Cond.selects (yX12_blinding).cls yX12_blinding yX12_blinding ∈ wT := List.mem_filter.mpr ⟨List.mem_of_getElem? (i := 53) (by decide +kernel), by decide +kernel⟩
theorem tw_54 : Cond.selects (yX12_isShaped).cls yX12_isShaped yX12_isShaped ∈ wT := List.mem_filter.mpr ⟨List.mem_of_getElem? (i := 54) (by decide +kernel), by decide +kernel⟩
theorem tw_55 : Cond.selects (yX12_manyOf).cls yX12_manyOf yX12_manyOf ∈ wT := List.mem_filter.mpr ⟨List.mem_of_getElem? (i := 55) (by decide +kernel), by decide +kernel⟩
theorem tw_56 : Cond.selects (yX12_isCounted).cls yX12_isCounted yX12_isCounted ∈ wT := List.mem_filter.mpr ⟨List.mem_of_getElem? (i := 56) (by decide +kernel), by decide +kernel⟩
theorem tw_57 : Cond.selects (yX12_fresh).cls yX12_fresh yX12_fresh ∈ wT := List.mem_filter.mpr ⟨List.mem_of_getElem? (i := 57) (by decide +kernel), by decide +kernel⟩
theorem tw_58 : Cond.selects (yX12_isOwn).cls yX12_isOwn yX12_isOwn ∈ wT := List.mem_filter.mpr ⟨List.mem_of_getElem? (i := 58) (by decide +kernel), by decide +kernel⟩
theorem tw_59 : Cond.selects (yX12_named).cls yX12_named yX12_named ∈ wT := List.mem_filter.mpr ⟨List.mem_of_getElem? (i := 59) (by decide +kernel), by decide +kernel⟩
theorem tw_60 : Cond.selects (yX12_mustWord).cls yX12_mustWord yX12_mustWord ∈ wT := List.mem_filter.mpr ⟨List.mem_of_getElem? (i := 60) (by decide +kernel), by decide +kernel⟩
theorem tw_61 : Cond.selects (yX12_number).cls yX12_number yX12_number ∈ wT := List.mem_filter.mpr ⟨List.mem_of_getElem? (i := 61) (by decide +kernel), by decide +kernel⟩
theorem tw_62 : Cond.selects (yX12_colouring).cls yX12_colouring yX12_colouring ∈ wT := List.mem_filter.mpr ⟨List.mem_of_getElem? (i := 62) (by decide +kernel), by decide +kernel⟩
theorem tw_63 : Cond.selects (yX12_thinging).cls yX12_thinging yX12_thinging ∈ wT := List.mem_filter.mpr ⟨List.mem_of_getElem? (i := 63) (by decide +kernel), by decide +kernel⟩
theorem tw_64 : Cond.selects (yX12_lateness).cls yX12_lateness yX12_lateness ∈ wT := List.mem_filter.mpr ⟨List.mem_of_getElem? (i := 64) (by decide +kernel), by decide +kernel⟩
theorem tw_65 : Cond.selects (yX12_known).cls yX12_known yX12_known ∈ wT := List.mem_filter.mpr ⟨List.mem_of_getElem? (i := 65) (by decide +kernel), by decide +kernel⟩
theorem tw_66 : Cond.selects (yX12_nearing).cls yX12_nearing yX12_nearing ∈ wT := List.mem_filter.mpr ⟨List.mem_of_getElem? (i := 66) (by decide +kernel), by decide +kernel⟩
theorem tw_67 : Cond.selects (yX12_wearing).cls yX12_wearing yX12_wearing ∈ wT := List.mem_filter.mpr ⟨List.mem_of_getElem? (i := 67) (by decide +kernel), by decide +kernel⟩
theorem tw_68 : Cond.selects (yX12_telling).cls yX12_telling yX12_telling ∈ wT := List.mem_filter.mpr ⟨List.mem_of_getElem? (i := 68) (by decide +kernel), by decide +kernel⟩
theorem tw_69 : Cond.selects (yX12_reading).cls yX12_reading yX12_reading ∈ wT := List.mem_filter.mpr ⟨List.mem_of_getElem? (i := 69) (by decide +kernel), by decide +kernel⟩
theorem tw_70 : Cond.selects (yX12_reads).cls yX12_reads yX12_reads ∈ wT := List.mem_filter.mpr ⟨List.mem_of_getElem? (i := 70) (by decide +kernel), by decide +kernel⟩
theorem tw_71 : Cond.selects (yX12_pushes).cls yX12_pushes yX12_pushes ∈ wT := List.mem_filter.mpr ⟨List.mem_of_getElem? (i := 71) (by decide +kernel), by decide +kernel⟩
theorem tw_72 : Cond.selects (yX12_operand).cls yX12_operand yX12_operand ∈ wT := List.mem_filter.mpr ⟨List.mem_of_getElem? (i := 72) (by decide +kernel), by decide +kernel⟩
theorem tw_73 : Cond.selects (yX12_holdsBack).cls yX12_holdsBack yX12_holdsBack ∈ wT := List.mem_filter.mpr ⟨List.mem_of_getElem? (i := 73) (by decide +kernel), by decide +kernel⟩
theorem tw_74 : Cond.selects (yX12_isSign).cls yX12_isSign yX12_isSign ∈ wT := List.mem_filter.mpr ⟨List.mem_of_getElem? (i := 74) (by decide +kernel), by decide +kernel⟩
theorem tw_75 : Cond.selects (yX12_opens).cls yX12_opens yX12_opens ∈ wT := List.mem_filter.mpr ⟨List.mem_of_getElem? (i := 75) (by decide +kernel), by decide +kernel⟩
theorem tw_76 : Cond.selects (yX12_add).cls yX12_add yX12_add ∈ wT := List.mem_filter.mpr ⟨List.mem_of_getElem? (i := 76) (by decide +kernel), by decide +kernel⟩
theorem tw_77 : Cond.selects (yX12_goesOn).cls yX12_goesOn yX12_goesOn ∈ wT := List.mem_filter.mpr ⟨List.mem_of_getElem? (i := 77) (by decide +kernel), by decide +kernel⟩
theorem tw_78 : Cond.selects (yX12_joins).cls yX12_joins yX12_joins ∈ wT := List.mem_filter.mpr ⟨List.mem_of_getElem? (i := 78) (by decide +kernel), by decide +kernel⟩
theorem tw_79 : Cond.selects (yX12_finishes).cls yX12_finishes yX12_finishes ∈ wT := List.mem_filter.mpr ⟨List.mem_of_getElem? (i := 79) (by decide +kernel), by decide +kernel⟩
theorem tw_80 : Cond.selects (yX12_must).cls yX12_must yX12_must ∈ wT := List.mem_filter.mpr ⟨List.mem_of_getElem? (i := 80) (by decide +kernel), by decide +kernel⟩
theorem tw_81 : Cond.selects (yX12_begin).cls yX12_begin yX12_begin ∈ wT := List.mem_filter.mpr ⟨List.mem_of_getElem? (i := 81) (by decide +kernel), by decide +kernel⟩
theorem tw_82 : Cond.selects (yX12_slot).cls yX12_slot yX12_slot ∈ wT := List.mem_filter.mpr ⟨List.mem_of_getElem? (i := 82) (by decide +kernel), by decide +kernel⟩
theorem tw_83 : Cond.selects (yX12_copies).cls yX12_copies yX12_copies ∈ wT := List.mem_filter.mpr ⟨List.mem_of_getElem? (i := 83) (by decide +kernel), by decide +kernel⟩
theorem tw_84 : Cond.selects (yX12_wornOf).cls yX12_wornOf yX12_wornOf ∈ wT := List.mem_filter.mpr ⟨List.mem_of_getElem? (i := 84) (by decide +kernel), by decide +kernel⟩
theorem tw_85 : Cond.selects (yX12_clashes).cls yX12_clashes yX12_clashes ∈ wT := List.mem_filter.mpr ⟨List.mem_of_getElem? (i := 85) (by decide +kernel), by decide +kernel⟩
theorem tw_86 : Cond.selects (yX12_nearSet).cls yX12_nearSet yX12_nearSet ∈ wT := List.mem_filter.mpr ⟨List.mem_of_getElem? (i := 86) (by decide +kernel), by decide +kernel⟩
theorem tw_87 : Cond.selects (yX12_isBlind).cls yX12_isBlind yX12_isBlind ∈ wT := List.mem_filter.mpr ⟨List.mem_of_getElem? (i := 87) (by decide +kernel), by decide +kernel⟩
theorem tw_88 : Cond.selects (yX12_isColour).cls yX12_isColour yX12_isColour ∈ wT := List.mem_filter.mpr ⟨List.mem_of_getElem? (i := 88) (by decide +kernel), by decide +kernel⟩
theorem tw_89 : Cond.selects (yX12_isThing).cls yX12_isThing yX12_isThing ∈ wT := List.mem_filter.mpr ⟨List.mem_of_getElem? (i := 89) (by decide +kernel), by decide +kernel⟩
theorem tw_90 : Cond.selects (yX12_placeOf).cls yX12_placeOf yX12_placeOf ∈ wT := List.mem_filter.mpr ⟨List.mem_of_getElem? (i := 90) (by decide +kernel), by decide +kernel⟩
theorem tw_91 : Cond.selects (yX12_isCounting).cls yX12_isCounting yX12_isCounting ∈ wT := List.mem_filter.mpr ⟨List.mem_of_getElem? (i := 91) (by decide +kernel), by decide +kernel⟩
theorem tw_92 : Cond.selects (yX12_isTold).cls yX12_isTold yX12_isTold ∈ wT := List.mem_filter.mpr ⟨List.mem_of_getElem? (i := 92) (by decide +kernel), by decide +kernel⟩
theorem tw_93 : Cond.selects (yX12_lays).cls yX12_lays yX12_lays ∈ wT := List.mem_filter.mpr ⟨List.mem_of_getElem? (i := 93) (by decide +kernel), by decide +kernel⟩
theorem tw_94 : Cond.selects (yX12_reckons).cls yX12_reckons yX12_reckons ∈ wT := List.mem_filter.mpr ⟨List.mem_of_getElem? (i := 94) (by decide +kernel), by decide +kernel⟩
theorem tw_95 : Cond.selects (yX12_scoreOf).cls yX12_scoreOf yX12_scoreOf ∈ wT := List.mem_filter.mpr ⟨List.mem_of_getElem? (i := 95) (by decide +kernel), by decide +kernel⟩
theorem tw_96 : Cond.selects (yX12_matchOf).cls yX12_matchOf yX12_matchOf ∈ wT := List.mem_filter.mpr ⟨List.mem_of_getElem? (i := 96) (by decide +kernel), by decide +kernel⟩
theorem tw_97 : Cond.selects (yX12_hushes).cls yX12_hushes yX12_hushes ∈ wT := List.mem_filter.mpr ⟨List.mem_of_getElem? (i := 97) (by decide +kernel), by decide +kernel⟩
theorem tw_98 : Cond.selects (yX12_wordBy).cls yX12_wordBy yX12_wordBy ∈ wT := List.mem_filter.mpr ⟨List.mem_of_getElem? (i := 98) (by decide +kernel), by decide +kernel⟩
theorem tw_99 : Cond.selects (yX12_everybody).cls yX12_everybody yX12_everybody ∈ wT := List.mem_filter.mpr ⟨List.mem_of_getElem? (i := 99) (by decide +kernel), by decide +kernel⟩
theorem tw_100 : Cond.selects (yX12_choiceOf).cls yX12_choiceOf yX12_choiceOf ∈ wT := List.mem_filter.mpr ⟨List.mem_of_getElem? (i := 100) (by decide +kernel), by decide +kernel⟩
theorem tw_101 : Cond.selects (yX12_laysNow).cls yX12_laysNow yX12_laysNow ∈ wT := List.mem_filter.mpr ⟨List.mem_of_getElem? (i := 101) (by decide +kernel), by decide +kernel⟩
theorem tw_102 : Cond.selects (yX12_chosen).cls yX12_chosen yX12_chosen ∈ wT := List.mem_filter.mpr ⟨List.mem_of_getElem? (i := 102) (by decide +kernel), by decide +kernel⟩
theorem tw_103 : Cond.selects (yX12_isAhead).cls yX12_isAhead yX12_isAhead ∈ wT := List.mem_filter.mpr ⟨List.mem_of_getElem? (i := 103) (by decide +kernel), by decide +kernel⟩
theorem tw_104 : Cond.selects (yX12_runsOn).cls yX12_runsOn yX12_runsOn ∈ wT := List.mem_filter.mpr ⟨List.mem_of_getElem? (i := 104) (by decide +kernel), by decide +kernel⟩
theorem tw_105 : Cond.selects (yX12_ticks).cls yX12_ticks yX12_ticks ∈ wT := List.mem_filter.mpr ⟨List.mem_of_getElem? (i := 105) (by decide +kernel), by decide +kernel⟩
theorem tw_106 : Cond.selects (yX12_gift).cls yX12_gift yX12_gift ∈ wT := List.mem_filter.mpr ⟨List.mem_of_getElem? (i := 106) (by decide +kernel), by decide +kernel⟩
theorem tw_107 : Cond.selects (yX12_moods).cls yX12_moods yX12_moods ∈ wT := List.mem_filter.mpr ⟨List.mem_of_getElem? (i := 107) (by decide +kernel), by decide +kernel⟩
theorem tw_108 : Cond.selects (yX12_writesDown).cls yX12_writesDown yX12_writesDown ∈ wT := List.mem_filter.mpr ⟨List.mem_of_getElem? (i := 108) (by decide +kernel), by decide +kernel⟩
theorem tw_109 : Cond.selects (yX12_rowsOf).cls yX12_rowsOf yX12_rowsOf ∈ wT := List.mem_filter.mpr ⟨List.mem_of_getElem? (i := 109) (by decide +kernel), by decide +kernel⟩
theorem tw_110 : Cond.selects (yX12_laysOrder).cls yX12_laysOrder yX12_laysOrder ∈ wT := List.mem_filter.mpr ⟨List.mem_of_getElem? (i := 110) (by decide +kernel), by decide +kernel⟩
theorem tw_111 : Cond.selects (yX12_isCleared).cls yX12_isCleared yX12_isCleared ∈ wT := List.mem_filter.mpr ⟨List.mem_of_getElem? (i := 111) (by decide +kernel), by decide +kernel⟩
theorem tw_112 : Cond.selects (yX12_isClear).cls yX12_isClear yX12_isClear ∈ wT := List.mem_filter.mpr ⟨List.mem_of_getElem? (i := 112) (by decide +kernel), by decide +kernel⟩
theorem tw_113 : Cond.selects (yX12_tasteBits).cls yX12_tasteBits yX12_tasteBits ∈ wT := List.mem_filter.mpr ⟨List.mem_of_getElem? (i := 113) (by decide +kernel), by decide +kernel⟩
theorem tw_114 : Cond.selects (yX12_mostBy).cls yX12_mostBy yX12_mostBy ∈ wT := List.mem_filter.mpr ⟨List.mem_of_getElem? (i := 114) (by decide +kernel), by decide +kernel⟩
theorem tw_115 : Cond.selects (yX12_keeps).cls yX12_keeps yX12_keeps ∈ wT := List.mem_filter.mpr ⟨List.mem_of_getElem? (i := 115) (by decide +kernel), by decide +kernel⟩
theorem tw_116 : Cond.selects (yX12_draw).cls yX12_draw yX12_draw ∈ wT := List.mem_filter.mpr ⟨List.mem_of_getElem? (i := 116) (by decide +kernel), by decide +kernel⟩
theorem tw_117 : Cond.selects (yX12_writes).cls yX12_writes yX12_writes ∈ wT := List.mem_filter.mpr ⟨List.mem_of_getElem? (i := 117) (by decide +kernel), by decide +kernel⟩
theorem tw_118 : Cond.selects (yX12_comesOn).cls yX12_comesOn yX12_comesOn ∈ wT := List.mem_filter.mpr ⟨List.mem_of_getElem? (i := 118) (by decide +kernel), by decide +kernel⟩
theorem tw_120 : Cond.initialized RX11 ∈ wT := List.mem_filter.mpr ⟨List.mem_of_getElem? (i := 120) (by decide +kernel), by decide +kernel⟩
theorem tw_121 : Cond.initialized RX9 ∈ wT := List.mem_filter.mpr ⟨List.mem_of_getElem? (i := 121) (by decide +kernel), by decide +kernel⟩
theorem tw_122 : Cond.initialized RX8 ∈ wT := List.mem_filter.mpr ⟨List.mem_of_getElem? (i := 122) (by decide +kernel), by decide +kernel⟩
theorem tw_123 : Cond.initialized RX7 ∈ wT := List.mem_filter.mpr ⟨List.mem_of_getElem? (i := 123) (by decide +kernel), by decide +kernel⟩
theorem tw_124 : Cond.initialized RX4 ∈ wT := List.mem_filter.mpr ⟨List.mem_of_getElem? (i := 124) (by decide +kernel), by decide +kernel⟩
theorem tw_125 : Cond.initialized RX5 ∈ wT := List.mem_filter.mpr ⟨List.mem_of_getElem? (i := 125) (by decide +kernel), by decide +kernel⟩
theorem tw_126 : Cond.initialized RX3 ∈ wT := List.mem_filter.mpr ⟨List.mem_of_getElem? (i := 126) (by decide +kernel), by decide +kernel⟩
theorem tw_127 : Cond.initialized RJ7 ∈ wT := List.mem_filter.mpr ⟨List.mem_of_getElem? (i := 127) (by decide +kernel), by decide +kernel⟩
theorem tw_128 : Cond.initialized RX6 ∈ wT := List.mem_filter.mpr ⟨List.mem_of_getElem? (i := 128) (by decide +kernel), by decide +kernel⟩
theorem tw_129 : Cond.initialized RX10 ∈ wT := List.mem_filter.mpr ⟨List.mem_of_getElem? (i := 129) (by decide +kernel), by decide +kernel⟩
theorem tw_130 : Cond.initialized RX1 ∈ wT := List.mem_filter.mpr ⟨List.mem_of_getElem? (i := 130) (by decide +kernel), by decide +kernel⟩
theorem tw_131 : Cond.initialized RX0 ∈ wT := List.mem_filter.mpr ⟨List.mem_of_getElem? (i := 131) (by decide +kernel), by decide +kernel⟩
theorem tw_132 : Cond.initialized RX2 ∈ wT := List.mem_filter.mpr ⟨List.mem_of_getElem? (i := 132) (by decide +kernel), by decide +kernel⟩
theorem tw_133 : Cond.initialized RX12 ∈ wT := List.mem_filter.mpr ⟨List.mem_of_getElem? (i := 133) (by decide +kernel), by decide +kernel⟩
theorem tw_134 : Cond.initialized RJ0 ∈ wT := List.mem_filter.mpr ⟨List.mem_of_getElem? (i := 134) (by decide +kernel), by decide +kernel⟩
theorem tw_135 : Cond.initialized RJ1 ∈ wT := List.mem_filter.mpr ⟨List.mem_of_getElem? (i := 135) (by decide +kernel), by decide +kernel⟩
theorem tw_136 : Cond.initialized RJ3 ∈ wT := List.mem_filter.mpr ⟨List.mem_of_getElem? (i := 136) (by decide +kernel), by decide +kernel⟩
theorem tw_138 : Cond.initialized RJ9 ∈ wT := List.mem_filter.mpr ⟨List.mem_of_getElem? (i := 138) (by decide +kernel), by decide +kernel⟩
theorem tw_140 : Cond.initialized RJ6 ∈ wT := List.mem_filter.mpr ⟨List.mem_of_getElem? (i := 140) (by decide +kernel), by decide +kernel⟩
theorem tw_141 : Cond.initialized "java/lang/System" ∈ wT := List.mem_filter.mpr ⟨List.mem_of_getElem? (i := 141) (by decide +kernel), by decide +kernel⟩
theorem tw_147 : Cond.methodLink RX11 1 objectInit ∈ wT := List.mem_filter.mpr ⟨List.mem_of_getElem? (i := 147) (by decide +kernel), by decide +kernel⟩
theorem tw_148 : Cond.instanceMethod objectInit ∈ wT := List.mem_filter.mpr ⟨List.mem_of_getElem? (i := 148) (by decide +kernel), by decide +kernel⟩
theorem tw_149 : Cond.code objectInit ⟨#[0xb1]⟩ 1 none ∈ wT := List.mem_filter.mpr ⟨List.mem_of_getElem? (i := 149) (by decide +kernel), by decide +kernel⟩
theorem tw_150 : Cond.classLink RX11 7 RX9 ∈ wT := List.mem_filter.mpr ⟨List.mem_of_getElem? (i := 150) (by decide +kernel), by decide +kernel⟩
theorem tw_151 : Cond.instantiable RX9 2 ∈ wT := List.mem_filter.mpr ⟨List.mem_of_getElem? (i := 151) (by decide +kernel), by decide +kernel⟩
theorem tw_152 : Cond.methodLinkNest RX11 9 yX9_init "BlindColours" ∈ wT := List.mem_filter.mpr ⟨List.mem_of_getElem? (i := 152) (by decide +kernel), by decide +kernel⟩
theorem tw_153 : Cond.instanceMethod yX9_init ∈ wT := List.mem_filter.mpr ⟨List.mem_of_getElem? (i := 153) (by decide +kernel), by decide +kernel⟩
theorem tw_154 : Cond.code yX9_init cX9_init 1 none ∈ wT := List.mem_filter.mpr ⟨List.mem_of_getElem? (i := 154) (by decide +kernel), by decide +kernel⟩
theorem tw_155 : Cond.methodLink RX9 3 objectInit ∈ wT := List.mem_filter.mpr ⟨List.mem_of_getElem? (i := 155) (by decide +kernel), by decide +kernel⟩
theorem tw_156 : Cond.fieldLink RX9 9 RX9 (TX9 0).2.1 (TX9 0).2.2.1 ∈ wT := List.mem_filter.mpr ⟨List.mem_of_getElem? (i := 156) (by decide +kernel), by decide +kernel⟩
theorem tw_157 : Cond.fieldLink RX9 15 RX9 (TX9 1).2.1 (TX9 1).2.2.1 ∈ wT := List.mem_filter.mpr ⟨List.mem_of_getElem? (i := 157) (by decide +kernel), by decide +kernel⟩
theorem tw_158 : Cond.fieldLink RX2 46 RX9 (TX9 1).2.1 (TX9 1).2.2.1 ∈ wT := List.mem_filter.mpr ⟨List.mem_of_getElem? (i := 158) (by decide +kernel), by decide +kernel⟩
theorem tw_159 : Cond.fieldLink RX11 114 RX9 (TX9 1).2.1 (TX9 1).2.2.1 ∈ wT := List.mem_filter.mpr ⟨List.mem_of_getElem? (i := 159) (by decide +kernel), by decide +kernel⟩
theorem tw_160 : Cond.fieldLink RX10 31 RX9 (TX9 1).2.1 (TX9 1).2.2.1 ∈ wT := List.mem_filter.mpr ⟨List.mem_of_getElem? (i := 160) (by decide +kernel), by decide +kernel⟩
theorem tw_161 : Cond.fieldLink RX5 45 RX9 (TX9 1).2.1 (TX9 1).2.2.1 ∈ wT := List.mem_filter.mpr ⟨List.mem_of_getElem? (i := 161) (by decide +kernel), by decide +kernel⟩
theorem tw_167 : Cond.arrayClass .byte ∈ wT := List.mem_filter.mpr ⟨List.mem_of_getElem? (i := 167) (by decide +kernel), by decide +kernel⟩
theorem tw_168 : Cond.classLink RX11 16 RX8 ∈ wT := List.mem_filter.mpr ⟨List.mem_of_getElem? (i := 168) (by decide +kernel), by decide +kernel⟩
theorem tw_169 : Cond.instantiable RX8 2 ∈ wT := List.mem_filter.mpr ⟨List.mem_of_getElem? (i := 169) (by decide +kernel), by decide +kernel⟩
theorem tw_170 : Cond.methodLinkNest RX11 18 yX8_init "BlindColours" ∈ wT := List.mem_filter.mpr ⟨List.mem_of_getElem? (i := 170) (by decide +kernel), by decide +kernel⟩
theorem tw_171 : Cond.instanceMethod yX8_init ∈ wT := List.mem_filter.mpr ⟨List.mem_of_getElem? (i := 171) (by decide +kernel), by decide +kernel⟩
theorem tw_172 : Cond.code yX8_init cX8_init 1 none ∈ wT := List.mem_filter.mpr ⟨List.mem_of_getElem? (i := 172) (by decide +kernel), by decide +kernel⟩
theorem tw_173 : Cond.methodLink RX8 1 objectInit ∈ wT := List.mem_filter.mpr ⟨List.mem_of_getElem? (i := 173) (by decide +kernel), by decide +kernel⟩
theorem tw_174 : Cond.fieldLink RX8 7 RX8 (TX8 0).2.1 (TX8 0).2.2.1 ∈ wT := List.mem_filter.mpr ⟨List.mem_of_getElem? (i := 174) (by decide +kernel), by decide +kernel⟩
theorem tw_175 : Cond.fieldLink RX8 13 RX8 (TX8 1).2.1 (TX8 1).2.2.1 ∈ wT := List.mem_filter.mpr ⟨List.mem_of_getElem? (i := 175) (by decide +kernel), by decide +kernel⟩
theorem tw_181 : Cond.arrayClass .int ∈ wT := List.mem_filter.mpr ⟨List.mem_of_getElem? (i := 181) (by decide +kernel), by decide +kernel⟩
theorem tw_182 : Cond.arrayClass .long ∈ wT := List.mem_filter.mpr ⟨List.mem_of_getElem? (i := 182) (by decide +kernel), by decide +kernel⟩
theorem tw_183 : Cond.classLink RX11 23 RX7 ∈ wT := List.mem_filter.mpr ⟨List.mem_of_getElem? (i := 183) (by decide +kernel), by decide +kernel⟩
theorem tw_184 : Cond.instantiable RX7 7 ∈ wT := List.mem_filter.mpr ⟨List.mem_of_getElem? (i := 184) (by decide +kernel), by decide +kernel⟩
theorem tw_185 : Cond.methodLinkNest RX11 25 yX7_init "BlindColours" ∈ wT := List.mem_filter.mpr ⟨List.mem_of_getElem? (i := 185) (by decide +kernel), by decide +kernel⟩
theorem tw_186 : Cond.instanceMethod yX7_init ∈ wT := List.mem_filter.mpr ⟨List.mem_of_getElem? (i := 186) (by decide +kernel), by decide +kernel⟩
theorem tw_187 : Cond.code yX7_init cX7_init 1 none ∈ wT := List.mem_filter.mpr ⟨List.mem_of_getElem? (i := 187) (by decide +kernel), by decide +kernel⟩
theorem tw_188 : Cond.methodLink RX7 3 objectInit ∈ wT := List.mem_filter.mpr ⟨List.mem_of_getElem? (i := 188) (by decide +kernel), by decide +kernel⟩
theorem tw_189 : Cond.fieldLink RX7 9 RX7 (TX7 0).2.1 (TX7 0).2.2.1 ∈ wT := List.mem_filter.mpr ⟨List.mem_of_getElem? (i := 189) (by decide +kernel), by decide +kernel⟩
theorem tw_190 : Cond.fieldLink RX5 19 RX7 (TX7 0).2.1 (TX7 0).2.2.1 ∈ wT := List.mem_filter.mpr ⟨List.mem_of_getElem? (i := 190) (by decide +kernel), by decide +kernel⟩
theorem tw_191 : Cond.fieldLink RX0 35 RX7 (TX7 0).2.1 (TX7 0).2.2.1 ∈ wT := List.mem_filter.mpr ⟨List.mem_of_getElem? (i := 191) (by decide +kernel), by decide +kernel⟩
theorem tw_192 : Cond.fieldLink RX2 61 RX7 (TX7 0).2.1 (TX7 0).2.2.1 ∈ wT := List.mem_filter.mpr ⟨List.mem_of_getElem? (i := 192) (by decide +kernel), by decide +kernel⟩
theorem tw_193 : Cond.fieldLink RX1 72 RX7 (TX7 0).2.1 (TX7 0).2.2.1 ∈ wT := List.mem_filter.mpr ⟨List.mem_of_getElem? (i := 193) (by decide +kernel), by decide +kernel⟩
theorem tw_194 : Cond.fieldLink RX11 147 RX7 (TX7 0).2.1 (TX7 0).2.2.1 ∈ wT := List.mem_filter.mpr ⟨List.mem_of_getElem? (i := 194) (by decide +kernel), by decide +kernel⟩
theorem tw_195 : Cond.fieldLink RX7 15 RX7 (TX7 1).2.1 (TX7 1).2.2.1 ∈ wT := List.mem_filter.mpr ⟨List.mem_of_getElem? (i := 195) (by decide +kernel), by decide +kernel⟩
theorem tw_196 : Cond.fieldLink RX0 23 RX7 (TX7 1).2.1 (TX7 1).2.2.1 ∈ wT := List.mem_filter.mpr ⟨List.mem_of_getElem? (i := 196) (by decide +kernel), by decide +kernel⟩
theorem tw_197 : Cond.fieldLink RX5 28 RX7 (TX7 1).2.1 (TX7 1).2.2.1 ∈ wT := List.mem_filter.mpr ⟨List.mem_of_getElem? (i := 197) (by decide +kernel), by decide +kernel⟩
theorem tw_198 : Cond.fieldLink RX11 150 RX7 (TX7 1).2.1 (TX7 1).2.2.1 ∈ wT := List.mem_filter.mpr ⟨List.mem_of_getElem? (i := 198) (by decide +kernel), by decide +kernel⟩
theorem tw_199 : Cond.fieldLink RX7 18 RX7 (TX7 2).2.1 (TX7 2).2.2.1 ∈ wT := List.mem_filter.mpr ⟨List.mem_of_getElem? (i := 199) (by decide +kernel), by decide +kernel⟩
theorem tw_200 : Cond.fieldLink RX11 164 RX7 (TX7 2).2.1 (TX7 2).2.2.1 ∈ wT := List.mem_filter.mpr ⟨List.mem_of_getElem? (i := 200) (by decide +kernel), by decide +kernel⟩
theorem tw_201 : Cond.fieldLink RX5 68 RX7 (TX7 2).2.1 (TX7 2).2.2.1 ∈ wT := List.mem_filter.mpr ⟨List.mem_of_getElem? (i := 201) (by decide +kernel), by decide +kernel⟩
theorem tw_202 : Cond.fieldLink RX7 21 RX7 (TX7 3).2.1 (TX7 3).2.2.1 ∈ wT := List.mem_filter.mpr ⟨List.mem_of_getElem? (i := 202) (by decide +kernel), by decide +kernel⟩
theorem tw_203 : Cond.fieldLink RX5 36 RX7 (TX7 3).2.1 (TX7 3).2.2.1 ∈ wT := List.mem_filter.mpr ⟨List.mem_of_getElem? (i := 203) (by decide +kernel), by decide +kernel⟩
theorem tw_204 : Cond.fieldLink RX0 48 RX7 (TX7 3).2.1 (TX7 3).2.2.1 ∈ wT := List.mem_filter.mpr ⟨List.mem_of_getElem? (i := 204) (by decide +kernel), by decide +kernel⟩
theorem tw_205 : Cond.fieldLink RX11 213 RX7 (TX7 3).2.1 (TX7 3).2.2.1 ∈ wT := List.mem_filter.mpr ⟨List.mem_of_getElem? (i := 205) (by decide +kernel), by decide +kernel⟩
theorem tw_206 : Cond.fieldLink RX1 129 RX7 (TX7 3).2.1 (TX7 3).2.2.1 ∈ wT := List.mem_filter.mpr ⟨List.mem_of_getElem? (i := 206) (by decide +kernel), by decide +kernel⟩
theorem tw_207 : Cond.fieldLink RX7 25 RX7 (TX7 4).2.1 (TX7 4).2.2.1 ∈ wT := List.mem_filter.mpr ⟨List.mem_of_getElem? (i := 207) (by decide +kernel), by decide +kernel⟩
theorem tw_208 : Cond.fieldLink RX5 39 RX7 (TX7 4).2.1 (TX7 4).2.2.1 ∈ wT := List.mem_filter.mpr ⟨List.mem_of_getElem? (i := 208) (by decide +kernel), by decide +kernel⟩
theorem tw_209 : Cond.fieldLink RX1 81 RX7 (TX7 4).2.1 (TX7 4).2.2.1 ∈ wT := List.mem_filter.mpr ⟨List.mem_of_getElem? (i := 209) (by decide +kernel), by decide +kernel⟩
theorem tw_210 : Cond.fieldLink RX0 90 RX7 (TX7 4).2.1 (TX7 4).2.2.1 ∈ wT := List.mem_filter.mpr ⟨List.mem_of_getElem? (i := 210) (by decide +kernel), by decide +kernel⟩
theorem tw_211 : Cond.fieldLink RX11 181 RX7 (TX7 4).2.1 (TX7 4).2.2.1 ∈ wT := List.mem_filter.mpr ⟨List.mem_of_getElem? (i := 211) (by decide +kernel), by decide +kernel⟩
theorem tw_212 : Cond.fieldLink RX7 28 RX7 (TX7 5).2.1 (TX7 5).2.2.1 ∈ wT := List.mem_filter.mpr ⟨List.mem_of_getElem? (i := 212) (by decide +kernel), by decide +kernel⟩
theorem tw_213 : Cond.fieldLink RX5 42 RX7 (TX7 5).2.1 (TX7 5).2.2.1 ∈ wT := List.mem_filter.mpr ⟨List.mem_of_getElem? (i := 213) (by decide +kernel), by decide +kernel⟩
theorem tw_214 : Cond.fieldLink RX0 84 RX7 (TX7 5).2.1 (TX7 5).2.2.1 ∈ wT := List.mem_filter.mpr ⟨List.mem_of_getElem? (i := 214) (by decide +kernel), by decide +kernel⟩
theorem tw_215 : Cond.fieldLink RX2 84 RX7 (TX7 5).2.1 (TX7 5).2.2.1 ∈ wT := List.mem_filter.mpr ⟨List.mem_of_getElem? (i := 215) (by decide +kernel), by decide +kernel⟩
theorem tw_216 : Cond.fieldLink RX11 157 RX7 (TX7 5).2.1 (TX7 5).2.2.1 ∈ wT := List.mem_filter.mpr ⟨List.mem_of_getElem? (i := 216) (by decide +kernel), by decide +kernel⟩
theorem tw_217 : Cond.fieldLink RX7 31 RX7 (TX7 6).2.1 (TX7 6).2.2.1 ∈ wT := List.mem_filter.mpr ⟨List.mem_of_getElem? (i := 217) (by decide +kernel), by decide +kernel⟩
theorem tw_233 : Cond.classLink RX11 33 RX4 ∈ wT := List.mem_filter.mpr ⟨List.mem_of_getElem? (i := 233) (by decide +kernel), by decide +kernel⟩
theorem tw_234 : Cond.instantiable RX4 3 ∈ wT := List.mem_filter.mpr ⟨List.mem_of_getElem? (i := 234) (by decide +kernel), by decide +kernel⟩
theorem tw_235 : Cond.methodLink RX11 35 yX4_init ∈ wT := List.mem_filter.mpr ⟨List.mem_of_getElem? (i := 235) (by decide +kernel), by decide +kernel⟩
theorem tw_236 : Cond.instanceMethod yX4_init ∈ wT := List.mem_filter.mpr ⟨List.mem_of_getElem? (i := 236) (by decide +kernel), by decide +kernel⟩
theorem tw_237 : Cond.code yX4_init cX4_init 2 none ∈ wT := List.mem_filter.mpr ⟨List.mem_of_getElem? (i := 237) (by decide +kernel), by decide +kernel⟩
theorem tw_238 : Cond.methodLink RX4 1 objectInit ∈ wT := List.mem_filter.mpr ⟨List.mem_of_getElem? (i := 238) (by decide +kernel), by decide +kernel⟩
theorem tw_239 : Cond.classLink RX4 9 "BlindColours$State" ∈ wT := List.mem_filter.mpr ⟨List.mem_of_getElem? (i := 239) (by decide +kernel), by decide +kernel⟩
theorem tw_240 : Cond.arrayOver (.object "BlindColours$State") ∈ wT := List.mem_filter.mpr ⟨List.mem_of_getElem? (i := 240) (by decide +kernel), by decide +kernel⟩
theorem tw_241 : Cond.methodLinkNest RX4 22 yX7_init "BlindColours" ∈ wT := List.mem_filter.mpr ⟨List.mem_of_getElem? (i := 241) (by decide +kernel), by decide +kernel⟩
theorem tw_242 : Cond.fieldLink RX4 11 RX4 (TX4 0).2.1 (TX4 0).2.2.1 ∈ wT := List.mem_filter.mpr ⟨List.mem_of_getElem? (i := 242) (by decide +kernel), by decide +kernel⟩
theorem tw_243 : Cond.fieldLink RX4 15 RX4 (TX4 1).2.1 (TX4 1).2.2.1 ∈ wT := List.mem_filter.mpr ⟨List.mem_of_getElem? (i := 243) (by decide +kernel), by decide +kernel⟩
theorem tw_244 : Cond.fieldLink RX4 19 RX4 (TX4 2).2.1 (TX4 2).2.2.1 ∈ wT := List.mem_filter.mpr ⟨List.mem_of_getElem? (i := 244) (by decide +kernel), by decide +kernel⟩
theorem tw_245 : Cond.fieldLink RX11 139 RX4 (TX4 2).2.1 (TX4 2).2.2.1 ∈ wT := List.mem_filter.mpr ⟨List.mem_of_getElem? (i := 245) (by decide +kernel), by decide +kernel⟩
theorem tw_253 : Cond.classLink RX11 40 RX5 ∈ wT := List.mem_filter.mpr ⟨List.mem_of_getElem? (i := 253) (by decide +kernel), by decide +kernel⟩
theorem tw_254 : Cond.instantiable RX5 2 ∈ wT := List.mem_filter.mpr ⟨List.mem_of_getElem? (i := 254) (by decide +kernel), by decide +kernel⟩
theorem tw_255 : Cond.methodLinkNest RX11 42 yX5_init "BlindColours" ∈ wT := List.mem_filter.mpr ⟨List.mem_of_getElem? (i := 255) (by decide +kernel), by decide +kernel⟩
theorem tw_256 : Cond.instanceMethod yX5_init ∈ wT := List.mem_filter.mpr ⟨List.mem_of_getElem? (i := 256) (by decide +kernel), by decide +kernel⟩
theorem tw_257 : Cond.code yX5_init cX5_init 1 none ∈ wT := List.mem_filter.mpr ⟨List.mem_of_getElem? (i := 257) (by decide +kernel), by decide +kernel⟩
theorem tw_258 : Cond.methodLink RX5 3 objectInit ∈ wT := List.mem_filter.mpr ⟨List.mem_of_getElem? (i := 258) (by decide +kernel), by decide +kernel⟩
theorem tw_259 : Cond.fieldLink RX5 9 RX5 (TX5 0).2.1 (TX5 0).2.2.1 ∈ wT := List.mem_filter.mpr ⟨List.mem_of_getElem? (i := 259) (by decide +kernel), by decide +kernel⟩
theorem tw_260 : Cond.fieldLink RX5 15 RX5 (TX5 1).2.1 (TX5 1).2.2.1 ∈ wT := List.mem_filter.mpr ⟨List.mem_of_getElem? (i := 260) (by decide +kernel), by decide +kernel⟩
theorem tw_261 : Cond.fieldLink RX11 297 RX5 (TX5 1).2.1 (TX5 1).2.2.1 ∈ wT := List.mem_filter.mpr ⟨List.mem_of_getElem? (i := 261) (by decide +kernel), by decide +kernel⟩
theorem tw_267 : Cond.classLink RX11 54 RX3 ∈ wT := List.mem_filter.mpr ⟨List.mem_of_getElem? (i := 267) (by decide +kernel), by decide +kernel⟩
theorem tw_268 : Cond.instantiable RX3 12 ∈ wT := List.mem_filter.mpr ⟨List.mem_of_getElem? (i := 268) (by decide +kernel), by decide +kernel⟩
theorem tw_269 : Cond.methodLink RX11 56 yX3_init ∈ wT := List.mem_filter.mpr ⟨List.mem_of_getElem? (i := 269) (by decide +kernel), by decide +kernel⟩
theorem tw_270 : Cond.instanceMethod yX3_init ∈ wT := List.mem_filter.mpr ⟨List.mem_of_getElem? (i := 270) (by decide +kernel), by decide +kernel⟩
theorem tw_271 : Cond.code yX3_init cX3_init 1 none ∈ wT := List.mem_filter.mpr ⟨List.mem_of_getElem? (i := 271) (by decide +kernel), by decide +kernel⟩
theorem tw_272 : Cond.methodLink RX3 3 objectInit ∈ wT := List.mem_filter.mpr ⟨List.mem_of_getElem? (i := 272) (by decide +kernel), by decide +kernel⟩
theorem tw_273 : Cond.methodLink RX3 49 yX3_empty ∈ wT := List.mem_filter.mpr ⟨List.mem_of_getElem? (i := 273) (by decide +kernel), by decide +kernel⟩
theorem tw_274 : Cond.instanceMethod yX3_empty ∈ wT := List.mem_filter.mpr ⟨List.mem_of_getElem? (i := 274) (by decide +kernel), by decide +kernel⟩
theorem tw_275 : Cond.selects (yX3_empty).cls yX3_empty yX3_empty ∈ wT := List.mem_filter.mpr ⟨List.mem_of_getElem? (i := 275) (by decide +kernel), by decide +kernel⟩
theorem tw_276 : Cond.code yX3_empty cX3_empty 1 none ∈ wT := List.mem_filter.mpr ⟨List.mem_of_getElem? (i := 276) (by decide +kernel), by decide +kernel⟩
theorem tw_277 : Cond.methodLink RX3 52 yJ7_fill_53178 ∈ wT := List.mem_filter.mpr ⟨List.mem_of_getElem? (i := 277) (by decide +kernel), by decide +kernel⟩
theorem tw_278 : Cond.static yJ7_fill_53178 ∈ wT := List.mem_filter.mpr ⟨List.mem_of_getElem? (i := 278) (by decide +kernel), by decide +kernel⟩
theorem tw_279 : Cond.code yJ7_fill_53178 cJ7_fill_53178 4 none ∈ wT := List.mem_filter.mpr ⟨List.mem_of_getElem? (i := 279) (by decide +kernel), by decide +kernel⟩
theorem tw_280 : Cond.fieldLink RX3 9 RX3 (TX3 0).2.1 (TX3 0).2.2.1 ∈ wT := List.mem_filter.mpr ⟨List.mem_of_getElem? (i := 280) (by decide +kernel), by decide +kernel⟩
theorem tw_281 : Cond.fieldLink RX0 29 RX3 (TX3 0).2.1 (TX3 0).2.2.1 ∈ wT := List.mem_filter.mpr ⟨List.mem_of_getElem? (i := 281) (by decide +kernel), by decide +kernel⟩
theorem tw_282 : Cond.fieldLink RX5 31 RX3 (TX3 0).2.1 (TX3 0).2.2.1 ∈ wT := List.mem_filter.mpr ⟨List.mem_of_getElem? (i := 282) (by decide +kernel), by decide +kernel⟩
theorem tw_283 : Cond.fieldLink RX1 53 RX3 (TX3 0).2.1 (TX3 0).2.2.1 ∈ wT := List.mem_filter.mpr ⟨List.mem_of_getElem? (i := 283) (by decide +kernel), by decide +kernel⟩
theorem tw_284 : Cond.fieldLink RX2 93 RX3 (TX3 0).2.1 (TX3 0).2.2.1 ∈ wT := List.mem_filter.mpr ⟨List.mem_of_getElem? (i := 284) (by decide +kernel), by decide +kernel⟩
theorem tw_285 : Cond.fieldLink RX11 145 RX3 (TX3 0).2.1 (TX3 0).2.2.1 ∈ wT := List.mem_filter.mpr ⟨List.mem_of_getElem? (i := 285) (by decide +kernel), by decide +kernel⟩
theorem tw_286 : Cond.fieldLink RX6 132 RX3 (TX3 0).2.1 (TX3 0).2.2.1 ∈ wT := List.mem_filter.mpr ⟨List.mem_of_getElem? (i := 286) (by decide +kernel), by decide +kernel⟩
theorem tw_287 : Cond.fieldLink RX3 15 RX3 (TX3 1).2.1 (TX3 1).2.2.1 ∈ wT := List.mem_filter.mpr ⟨List.mem_of_getElem? (i := 287) (by decide +kernel), by decide +kernel⟩
theorem tw_288 : Cond.fieldLink RX6 146 RX3 (TX3 1).2.1 (TX3 1).2.2.1 ∈ wT := List.mem_filter.mpr ⟨List.mem_of_getElem? (i := 288) (by decide +kernel), by decide +kernel⟩
theorem tw_289 : Cond.fieldLink RX3 18 RX3 (TX3 2).2.1 (TX3 2).2.2.1 ∈ wT := List.mem_filter.mpr ⟨List.mem_of_getElem? (i := 289) (by decide +kernel), by decide +kernel⟩
theorem tw_290 : Cond.fieldLink RX6 149 RX3 (TX3 2).2.1 (TX3 2).2.2.1 ∈ wT := List.mem_filter.mpr ⟨List.mem_of_getElem? (i := 290) (by decide +kernel), by decide +kernel⟩
theorem tw_291 : Cond.fieldLink RX3 21 RX3 (TX3 3).2.1 (TX3 3).2.2.1 ∈ wT := List.mem_filter.mpr ⟨List.mem_of_getElem? (i := 291) (by decide +kernel), by decide +kernel⟩
theorem tw_292 : Cond.fieldLink RX11 194 RX3 (TX3 3).2.1 (TX3 3).2.2.1 ∈ wT := List.mem_filter.mpr ⟨List.mem_of_getElem? (i := 292) (by decide +kernel), by decide +kernel⟩
theorem tw_293 : Cond.fieldLink RX6 168 RX3 (TX3 3).2.1 (TX3 3).2.2.1 ∈ wT := List.mem_filter.mpr ⟨List.mem_of_getElem? (i := 293) (by decide +kernel), by decide +kernel⟩
theorem tw_294 : Cond.fieldLink RX3 24 RX3 (TX3 4).2.1 (TX3 4).2.2.1 ∈ wT := List.mem_filter.mpr ⟨List.mem_of_getElem? (i := 294) (by decide +kernel), by decide +kernel⟩
theorem tw_295 : Cond.fieldLink RX7 39 RX3 (TX3 4).2.1 (TX3 4).2.2.1 ∈ wT := List.mem_filter.mpr ⟨List.mem_of_getElem? (i := 295) (by decide +kernel), by decide +kernel⟩
theorem tw_296 : Cond.fieldLink RX6 171 RX3 (TX3 4).2.1 (TX3 4).2.2.1 ∈ wT := List.mem_filter.mpr ⟨List.mem_of_getElem? (i := 296) (by decide +kernel), by decide +kernel⟩
theorem tw_297 : Cond.fieldLink RX3 27 RX3 (TX3 5).2.1 (TX3 5).2.2.1 ∈ wT := List.mem_filter.mpr ⟨List.mem_of_getElem? (i := 297) (by decide +kernel), by decide +kernel⟩
theorem tw_298 : Cond.fieldLink RX8 26 RX3 (TX3 5).2.1 (TX3 5).2.2.1 ∈ wT := List.mem_filter.mpr ⟨List.mem_of_getElem? (i := 298) (by decide +kernel), by decide +kernel⟩
theorem tw_299 : Cond.fieldLink RX6 192 RX3 (TX3 5).2.1 (TX3 5).2.2.1 ∈ wT := List.mem_filter.mpr ⟨List.mem_of_getElem? (i := 299) (by decide +kernel), by decide +kernel⟩
theorem tw_300 : Cond.fieldLink RX3 30 RX3 (TX3 6).2.1 (TX3 6).2.2.1 ∈ wT := List.mem_filter.mpr ⟨List.mem_of_getElem? (i := 300) (by decide +kernel), by decide +kernel⟩
theorem tw_301 : Cond.fieldLink RX8 29 RX3 (TX3 6).2.1 (TX3 6).2.2.1 ∈ wT := List.mem_filter.mpr ⟨List.mem_of_getElem? (i := 301) (by decide +kernel), by decide +kernel⟩
theorem tw_302 : Cond.fieldLink RX6 177 RX3 (TX3 6).2.1 (TX3 6).2.2.1 ∈ wT := List.mem_filter.mpr ⟨List.mem_of_getElem? (i := 302) (by decide +kernel), by decide +kernel⟩
theorem tw_303 : Cond.fieldLink RX3 33 RX3 (TX3 7).2.1 (TX3 7).2.2.1 ∈ wT := List.mem_filter.mpr ⟨List.mem_of_getElem? (i := 303) (by decide +kernel), by decide +kernel⟩
theorem tw_304 : Cond.fieldLink RX8 23 RX3 (TX3 7).2.1 (TX3 7).2.2.1 ∈ wT := List.mem_filter.mpr ⟨List.mem_of_getElem? (i := 304) (by decide +kernel), by decide +kernel⟩
theorem tw_305 : Cond.fieldLink RX6 189 RX3 (TX3 7).2.1 (TX3 7).2.2.1 ∈ wT := List.mem_filter.mpr ⟨List.mem_of_getElem? (i := 305) (by decide +kernel), by decide +kernel⟩
theorem tw_306 : Cond.fieldLink RX3 36 RX3 (TX3 8).2.1 (TX3 8).2.2.1 ∈ wT := List.mem_filter.mpr ⟨List.mem_of_getElem? (i := 306) (by decide +kernel), by decide +kernel⟩
theorem tw_307 : Cond.fieldLink RX6 180 RX3 (TX3 8).2.1 (TX3 8).2.2.1 ∈ wT := List.mem_filter.mpr ⟨List.mem_of_getElem? (i := 307) (by decide +kernel), by decide +kernel⟩
theorem tw_308 : Cond.fieldLink RX3 40 RX3 (TX3 9).2.1 (TX3 9).2.2.1 ∈ wT := List.mem_filter.mpr ⟨List.mem_of_getElem? (i := 308) (by decide +kernel), by decide +kernel⟩
theorem tw_309 : Cond.fieldLink RX6 165 RX3 (TX3 9).2.1 (TX3 9).2.2.1 ∈ wT := List.mem_filter.mpr ⟨List.mem_of_getElem? (i := 309) (by decide +kernel), by decide +kernel⟩
theorem tw_310 : Cond.fieldLink RX3 43 RX3 (TX3 10).2.1 (TX3 10).2.2.1 ∈ wT := List.mem_filter.mpr ⟨List.mem_of_getElem? (i := 310) (by decide +kernel), by decide +kernel⟩
theorem tw_311 : Cond.fieldLink RX7 34 RX3 (TX3 10).2.1 (TX3 10).2.2.1 ∈ wT := List.mem_filter.mpr ⟨List.mem_of_getElem? (i := 311) (by decide +kernel), by decide +kernel⟩
theorem tw_312 : Cond.fieldLink RX6 119 RX3 (TX3 10).2.1 (TX3 10).2.2.1 ∈ wT := List.mem_filter.mpr ⟨List.mem_of_getElem? (i := 312) (by decide +kernel), by decide +kernel⟩
theorem tw_313 : Cond.fieldLink RX3 46 RX3 (TX3 11).2.1 (TX3 11).2.2.1 ∈ wT := List.mem_filter.mpr ⟨List.mem_of_getElem? (i := 313) (by decide +kernel), by decide +kernel⟩
theorem tw_314 : Cond.fieldLink RX6 122 RX3 (TX3 11).2.1 (TX3 11).2.2.1 ∈ wT := List.mem_filter.mpr ⟨List.mem_of_getElem? (i := 314) (by decide +kernel), by decide +kernel⟩
theorem tw_315 : Cond.fieldLink RX1 132 RX3 (TX3 11).2.1 (TX3 11).2.2.1 ∈ wT := List.mem_filter.mpr ⟨List.mem_of_getElem? (i := 315) (by decide +kernel), by decide +kernel⟩
theorem tw_316 : Cond.fieldLink RX11 285 RX3 (TX3 11).2.1 (TX3 11).2.2.1 ∈ wT := List.mem_filter.mpr ⟨List.mem_of_getElem? (i := 316) (by decide +kernel), by decide +kernel⟩
theorem tw_342 : Cond.classLink RX11 74 RX6 ∈ wT := List.mem_filter.mpr ⟨List.mem_of_getElem? (i := 342) (by decide +kernel), by decide +kernel⟩
theorem tw_343 : Cond.instantiable RX6 8 ∈ wT := List.mem_filter.mpr ⟨List.mem_of_getElem? (i := 343) (by decide +kernel), by decide +kernel⟩
theorem tw_344 : Cond.methodLink RX11 76 yX6_init ∈ wT := List.mem_filter.mpr ⟨List.mem_of_getElem? (i := 344) (by decide +kernel), by decide +kernel⟩
theorem tw_345 : Cond.instanceMethod yX6_init ∈ wT := List.mem_filter.mpr ⟨List.mem_of_getElem? (i := 345) (by decide +kernel), by decide +kernel⟩
theorem tw_346 : Cond.code yX6_init cX6_init 3 none ∈ wT := List.mem_filter.mpr ⟨List.mem_of_getElem? (i := 346) (by decide +kernel), by decide +kernel⟩
theorem tw_347 : Cond.methodLink RX6 3 objectInit ∈ wT := List.mem_filter.mpr ⟨List.mem_of_getElem? (i := 347) (by decide +kernel), by decide +kernel⟩
theorem tw_348 : Cond.classLink RX6 9 RX10 ∈ wT := List.mem_filter.mpr ⟨List.mem_of_getElem? (i := 348) (by decide +kernel), by decide +kernel⟩
theorem tw_349 : Cond.instantiable RX10 6 ∈ wT := List.mem_filter.mpr ⟨List.mem_of_getElem? (i := 349) (by decide +kernel), by decide +kernel⟩
theorem tw_350 : Cond.methodLinkNest RX6 11 yX10_init "BlindColours" ∈ wT := List.mem_filter.mpr ⟨List.mem_of_getElem? (i := 350) (by decide +kernel), by decide +kernel⟩
theorem tw_351 : Cond.instanceMethod yX10_init ∈ wT := List.mem_filter.mpr ⟨List.mem_of_getElem? (i := 351) (by decide +kernel), by decide +kernel⟩
theorem tw_352 : Cond.code yX10_init cX10_init 1 none ∈ wT := List.mem_filter.mpr ⟨List.mem_of_getElem? (i := 352) (by decide +kernel), by decide +kernel⟩
theorem tw_353 : Cond.methodLink RX10 3 objectInit ∈ wT := List.mem_filter.mpr ⟨List.mem_of_getElem? (i := 353) (by decide +kernel), by decide +kernel⟩
theorem tw_354 : Cond.fieldLink RX10 9 RX10 (TX10 0).2.1 (TX10 0).2.2.1 ∈ wT := List.mem_filter.mpr ⟨List.mem_of_getElem? (i := 354) (by decide +kernel), by decide +kernel⟩
theorem tw_355 : Cond.fieldLink RX10 15 RX10 (TX10 1).2.1 (TX10 1).2.2.1 ∈ wT := List.mem_filter.mpr ⟨List.mem_of_getElem? (i := 355) (by decide +kernel), by decide +kernel⟩
theorem tw_356 : Cond.fieldLink RX10 18 RX10 (TX10 2).2.1 (TX10 2).2.2.1 ∈ wT := List.mem_filter.mpr ⟨List.mem_of_getElem? (i := 356) (by decide +kernel), by decide +kernel⟩
theorem tw_357 : Cond.fieldLink RX10 21 RX10 (TX10 3).2.1 (TX10 3).2.2.1 ∈ wT := List.mem_filter.mpr ⟨List.mem_of_getElem? (i := 357) (by decide +kernel), by decide +kernel⟩
theorem tw_358 : Cond.fieldLink RX10 25 RX10 (TX10 4).2.1 (TX10 4).2.2.1 ∈ wT := List.mem_filter.mpr ⟨List.mem_of_getElem? (i := 358) (by decide +kernel), by decide +kernel⟩
theorem tw_359 : Cond.fieldLink RX10 28 RX10 (TX10 5).2.1 (TX10 5).2.2.1 ∈ wT := List.mem_filter.mpr ⟨List.mem_of_getElem? (i := 359) (by decide +kernel), by decide +kernel⟩
theorem tw_373 : Cond.fieldLink RX6 34 RX6 (TX6 0).2.1 (TX6 0).2.2.1 ∈ wT := List.mem_filter.mpr ⟨List.mem_of_getElem? (i := 373) (by decide +kernel), by decide +kernel⟩
theorem tw_374 : Cond.fieldLink RX6 12 RX6 (TX6 1).2.1 (TX6 1).2.2.1 ∈ wT := List.mem_filter.mpr ⟨List.mem_of_getElem? (i := 374) (by decide +kernel), by decide +kernel⟩
theorem tw_375 : Cond.fieldLink RX6 38 RX6 (TX6 2).2.1 (TX6 2).2.2.1 ∈ wT := List.mem_filter.mpr ⟨List.mem_of_getElem? (i := 375) (by decide +kernel), by decide +kernel⟩
theorem tw_376 : Cond.fieldLink RX6 18 RX6 (TX6 3).2.1 (TX6 3).2.2.1 ∈ wT := List.mem_filter.mpr ⟨List.mem_of_getElem? (i := 376) (by decide +kernel), by decide +kernel⟩
theorem tw_377 : Cond.fieldLink RX6 22 RX6 (TX6 4).2.1 (TX6 4).2.2.1 ∈ wT := List.mem_filter.mpr ⟨List.mem_of_getElem? (i := 377) (by decide +kernel), by decide +kernel⟩
theorem tw_378 : Cond.fieldLink RX6 25 RX6 (TX6 5).2.1 (TX6 5).2.2.1 ∈ wT := List.mem_filter.mpr ⟨List.mem_of_getElem? (i := 378) (by decide +kernel), by decide +kernel⟩
theorem tw_379 : Cond.fieldLink RX6 28 RX6 (TX6 6).2.1 (TX6 6).2.2.1 ∈ wT := List.mem_filter.mpr ⟨List.mem_of_getElem? (i := 379) (by decide +kernel), by decide +kernel⟩
theorem tw_380 : Cond.fieldLink RX11 133 RX6 (TX6 6).2.1 (TX6 6).2.2.1 ∈ wT := List.mem_filter.mpr ⟨List.mem_of_getElem? (i := 380) (by decide +kernel), by decide +kernel⟩
theorem tw_381 : Cond.fieldLink RX6 31 RX6 (TX6 7).2.1 (TX6 7).2.2.1 ∈ wT := List.mem_filter.mpr ⟨List.mem_of_getElem? (i := 381) (by decide +kernel), by decide +kernel⟩
theorem tw_382 : Cond.fieldLink RX11 136 RX6 (TX6 7).2.1 (TX6 7).2.2.1 ∈ wT := List.mem_filter.mpr ⟨List.mem_of_getElem? (i := 382) (by decide +kernel), by decide +kernel⟩
theorem tw_400 : Cond.classLink RX11 83 RX1 ∈ wT := List.mem_filter.mpr ⟨List.mem_of_getElem? (i := 400) (by decide +kernel), by decide +kernel⟩
theorem tw_401 : Cond.instantiable RX1 10 ∈ wT := List.mem_filter.mpr ⟨List.mem_of_getElem? (i := 401) (by decide +kernel), by decide +kernel⟩
theorem tw_402 : Cond.methodLink RX11 85 yX1_init ∈ wT := List.mem_filter.mpr ⟨List.mem_of_getElem? (i := 402) (by decide +kernel), by decide +kernel⟩
theorem tw_403 : Cond.instanceMethod yX1_init ∈ wT := List.mem_filter.mpr ⟨List.mem_of_getElem? (i := 403) (by decide +kernel), by decide +kernel⟩
theorem tw_404 : Cond.code yX1_init cX1_init 4 none ∈ wT := List.mem_filter.mpr ⟨List.mem_of_getElem? (i := 404) (by decide +kernel), by decide +kernel⟩
theorem tw_405 : Cond.methodLink RX1 3 objectInit ∈ wT := List.mem_filter.mpr ⟨List.mem_of_getElem? (i := 405) (by decide +kernel), by decide +kernel⟩
theorem tw_406 : Cond.fieldLink RX1 34 RX1 (TX1 0).2.1 (TX1 0).2.2.1 ∈ wT := List.mem_filter.mpr ⟨List.mem_of_getElem? (i := 406) (by decide +kernel), by decide +kernel⟩
theorem tw_407 : Cond.fieldLink RX1 9 RX1 (TX1 1).2.1 (TX1 1).2.2.1 ∈ wT := List.mem_filter.mpr ⟨List.mem_of_getElem? (i := 407) (by decide +kernel), by decide +kernel⟩
theorem tw_408 : Cond.fieldLink RX1 15 RX1 (TX1 2).2.1 (TX1 2).2.2.1 ∈ wT := List.mem_filter.mpr ⟨List.mem_of_getElem? (i := 408) (by decide +kernel), by decide +kernel⟩
theorem tw_409 : Cond.fieldLink RX1 18 RX1 (TX1 3).2.1 (TX1 3).2.2.1 ∈ wT := List.mem_filter.mpr ⟨List.mem_of_getElem? (i := 409) (by decide +kernel), by decide +kernel⟩
theorem tw_410 : Cond.fieldLink RX1 38 RX1 (TX1 4).2.1 (TX1 4).2.2.1 ∈ wT := List.mem_filter.mpr ⟨List.mem_of_getElem? (i := 410) (by decide +kernel), by decide +kernel⟩
theorem tw_411 : Cond.fieldLink RX1 42 RX1 (TX1 5).2.1 (TX1 5).2.2.1 ∈ wT := List.mem_filter.mpr ⟨List.mem_of_getElem? (i := 411) (by decide +kernel), by decide +kernel⟩
theorem tw_412 : Cond.fieldLink RX1 21 RX1 (TX1 6).2.1 (TX1 6).2.2.1 ∈ wT := List.mem_filter.mpr ⟨List.mem_of_getElem? (i := 412) (by decide +kernel), by decide +kernel⟩
theorem tw_413 : Cond.fieldLink RX1 25 RX1 (TX1 7).2.1 (TX1 7).2.2.1 ∈ wT := List.mem_filter.mpr ⟨List.mem_of_getElem? (i := 413) (by decide +kernel), by decide +kernel⟩
theorem tw_414 : Cond.fieldLink RX1 28 RX1 (TX1 8).2.1 (TX1 8).2.2.1 ∈ wT := List.mem_filter.mpr ⟨List.mem_of_getElem? (i := 414) (by decide +kernel), by decide +kernel⟩
theorem tw_415 : Cond.fieldLink RX1 31 RX1 (TX1 9).2.1 (TX1 9).2.2.1 ∈ wT := List.mem_filter.mpr ⟨List.mem_of_getElem? (i := 415) (by decide +kernel), by decide +kernel⟩
theorem tw_437 : Cond.classLink RX11 92 RX0 ∈ wT := List.mem_filter.mpr ⟨List.mem_of_getElem? (i := 437) (by decide +kernel), by decide +kernel⟩
theorem tw_438 : Cond.instantiable RX0 2 ∈ wT := List.mem_filter.mpr ⟨List.mem_of_getElem? (i := 438) (by decide +kernel), by decide +kernel⟩
theorem tw_439 : Cond.methodLink RX11 94 yX0_init ∈ wT := List.mem_filter.mpr ⟨List.mem_of_getElem? (i := 439) (by decide +kernel), by decide +kernel⟩
theorem tw_440 : Cond.instanceMethod yX0_init ∈ wT := List.mem_filter.mpr ⟨List.mem_of_getElem? (i := 440) (by decide +kernel), by decide +kernel⟩
theorem tw_441 : Cond.code yX0_init cX0_init 3 none ∈ wT := List.mem_filter.mpr ⟨List.mem_of_getElem? (i := 441) (by decide +kernel), by decide +kernel⟩
theorem tw_442 : Cond.methodLink RX0 3 objectInit ∈ wT := List.mem_filter.mpr ⟨List.mem_of_getElem? (i := 442) (by decide +kernel), by decide +kernel⟩
theorem tw_443 : Cond.fieldLink RX0 9 RX0 (TX0 0).2.1 (TX0 0).2.2.1 ∈ wT := List.mem_filter.mpr ⟨List.mem_of_getElem? (i := 443) (by decide +kernel), by decide +kernel⟩
theorem tw_444 : Cond.fieldLink RX0 15 RX0 (TX0 1).2.1 (TX0 1).2.2.1 ∈ wT := List.mem_filter.mpr ⟨List.mem_of_getElem? (i := 444) (by decide +kernel), by decide +kernel⟩
theorem tw_450 : Cond.classLink RX11 101 RX2 ∈ wT := List.mem_filter.mpr ⟨List.mem_of_getElem? (i := 450) (by decide +kernel), by decide +kernel⟩
theorem tw_451 : Cond.instantiable RX2 9 ∈ wT := List.mem_filter.mpr ⟨List.mem_of_getElem? (i := 451) (by decide +kernel), by decide +kernel⟩
theorem tw_452 : Cond.methodLink RX11 103 yX2_init ∈ wT := List.mem_filter.mpr ⟨List.mem_of_getElem? (i := 452) (by decide +kernel), by decide +kernel⟩
theorem tw_453 : Cond.instanceMethod yX2_init ∈ wT := List.mem_filter.mpr ⟨List.mem_of_getElem? (i := 453) (by decide +kernel), by decide +kernel⟩
theorem tw_454 : Cond.code yX2_init cX2_init 3 none ∈ wT := List.mem_filter.mpr ⟨List.mem_of_getElem? (i := 454) (by decide +kernel), by decide +kernel⟩
theorem tw_455 : Cond.methodLink RX2 3 objectInit ∈ wT := List.mem_filter.mpr ⟨List.mem_of_getElem? (i := 455) (by decide +kernel), by decide +kernel⟩
theorem tw_456 : Cond.classLink RX2 9 RX7 ∈ wT := List.mem_filter.mpr ⟨List.mem_of_getElem? (i := 456) (by decide +kernel), by decide +kernel⟩
theorem tw_457 : Cond.methodLinkNest RX2 11 yX7_init "BlindColours" ∈ wT := List.mem_filter.mpr ⟨List.mem_of_getElem? (i := 457) (by decide +kernel), by decide +kernel⟩
theorem tw_458 : Cond.fieldLink RX2 38 RX2 (TX2 0).2.1 (TX2 0).2.2.1 ∈ wT := List.mem_filter.mpr ⟨List.mem_of_getElem? (i := 458) (by decide +kernel), by decide +kernel⟩
theorem tw_459 : Cond.fieldLink RX2 42 RX2 (TX2 1).2.1 (TX2 1).2.2.1 ∈ wT := List.mem_filter.mpr ⟨List.mem_of_getElem? (i := 459) (by decide +kernel), by decide +kernel⟩
theorem tw_460 : Cond.fieldLink RX2 12 RX2 (TX2 2).2.1 (TX2 2).2.2.1 ∈ wT := List.mem_filter.mpr ⟨List.mem_of_getElem? (i := 460) (by decide +kernel), by decide +kernel⟩
theorem tw_461 : Cond.fieldLink RX2 18 RX2 (TX2 3).2.1 (TX2 3).2.2.1 ∈ wT := List.mem_filter.mpr ⟨List.mem_of_getElem? (i := 461) (by decide +kernel), by decide +kernel⟩
theorem tw_462 : Cond.fieldLink RX2 22 RX2 (TX2 4).2.1 (TX2 4).2.2.1 ∈ wT := List.mem_filter.mpr ⟨List.mem_of_getElem? (i := 462) (by decide +kernel), by decide +kernel⟩
theorem tw_463 : Cond.fieldLink RX2 25 RX2 (TX2 5).2.1 (TX2 5).2.2.1 ∈ wT := List.mem_filter.mpr ⟨List.mem_of_getElem? (i := 463) (by decide +kernel), by decide +kernel⟩
theorem tw_464 : Cond.fieldLink RX11 142 RX2 (TX2 5).2.1 (TX2 5).2.2.1 ∈ wT := List.mem_filter.mpr ⟨List.mem_of_getElem? (i := 464) (by decide +kernel), by decide +kernel⟩
theorem tw_465 : Cond.fieldLink RX2 29 RX2 (TX2 6).2.1 (TX2 6).2.2.1 ∈ wT := List.mem_filter.mpr ⟨List.mem_of_getElem? (i := 465) (by decide +kernel), by decide +kernel⟩
theorem tw_466 : Cond.fieldLink RX11 265 RX2 (TX2 6).2.1 (TX2 6).2.2.1 ∈ wT := List.mem_filter.mpr ⟨List.mem_of_getElem? (i := 466) (by decide +kernel), by decide +kernel⟩
theorem tw_467 : Cond.fieldLink RX2 32 RX2 (TX2 7).2.1 (TX2 7).2.2.1 ∈ wT := List.mem_filter.mpr ⟨List.mem_of_getElem? (i := 467) (by decide +kernel), by decide +kernel⟩
theorem tw_468 : Cond.fieldLink RX11 268 RX2 (TX2 7).2.1 (TX2 7).2.2.1 ∈ wT := List.mem_filter.mpr ⟨List.mem_of_getElem? (i := 468) (by decide +kernel), by decide +kernel⟩
theorem tw_469 : Cond.fieldLink RX2 35 RX2 (TX2 8).2.1 (TX2 8).2.2.1 ∈ wT := List.mem_filter.mpr ⟨List.mem_of_getElem? (i := 469) (by decide +kernel), by decide +kernel⟩
theorem tw_470 : Cond.fieldLink RX11 271 RX2 (TX2 8).2.1 (TX2 8).2.2.1 ∈ wT := List.mem_filter.mpr ⟨List.mem_of_getElem? (i := 470) (by decide +kernel), by decide +kernel⟩
theorem tw_490 : Cond.methodLink RX11 110 yX7_begin ∈ wT := List.mem_filter.mpr ⟨List.mem_of_getElem? (i := 490) (by decide +kernel), by decide +kernel⟩
theorem tw_491 : Cond.instanceMethod yX7_begin ∈ wT := List.mem_filter.mpr ⟨List.mem_of_getElem? (i := 491) (by decide +kernel), by decide +kernel⟩
theorem tw_492 : Cond.selects (yX7_begin).cls yX7_begin yX7_begin ∈ wT := List.mem_filter.mpr ⟨List.mem_of_getElem? (i := 492) (by decide +kernel), by decide +kernel⟩
theorem tw_493 : Cond.code yX7_begin cX7_begin 3 none ∈ wT := List.mem_filter.mpr ⟨List.mem_of_getElem? (i := 493) (by decide +kernel), by decide +kernel⟩
theorem tw_494 : Cond.fieldLink RX11 10 RX11 (TX11 0).2.1 (TX11 0).2.2.1 ∈ wT := List.mem_filter.mpr ⟨List.mem_of_getElem? (i := 494) (by decide +kernel), by decide +kernel⟩
theorem tw_495 : Cond.fieldLink RX11 19 RX11 (TX11 1).2.1 (TX11 1).2.2.1 ∈ wT := List.mem_filter.mpr ⟨List.mem_of_getElem? (i := 495) (by decide +kernel), by decide +kernel⟩
theorem tw_496 : Cond.fieldLink RX11 26 RX11 (TX11 2).2.1 (TX11 2).2.2.1 ∈ wT := List.mem_filter.mpr ⟨List.mem_of_getElem? (i := 496) (by decide +kernel), by decide +kernel⟩
theorem tw_497 : Cond.fieldLink RX11 30 RX11 (TX11 3).2.1 (TX11 3).2.2.1 ∈ wT := List.mem_filter.mpr ⟨List.mem_of_getElem? (i := 497) (by decide +kernel), by decide +kernel⟩
theorem tw_498 : Cond.fieldLink RX11 36 RX11 (TX11 4).2.1 (TX11 4).2.2.1 ∈ wT := List.mem_filter.mpr ⟨List.mem_of_getElem? (i := 498) (by decide +kernel), by decide +kernel⟩
theorem tw_499 : Cond.fieldLink RX11 43 RX11 (TX11 5).2.1 (TX11 5).2.2.1 ∈ wT := List.mem_filter.mpr ⟨List.mem_of_getElem? (i := 499) (by decide +kernel), by decide +kernel⟩
theorem tw_500 : Cond.fieldLink RX11 47 RX11 (TX11 6).2.1 (TX11 6).2.2.1 ∈ wT := List.mem_filter.mpr ⟨List.mem_of_getElem? (i := 500) (by decide +kernel), by decide +kernel⟩
theorem tw_501 : Cond.fieldLink RX11 51 RX11 (TX11 7).2.1 (TX11 7).2.2.1 ∈ wT := List.mem_filter.mpr ⟨List.mem_of_getElem? (i := 501) (by decide +kernel), by decide +kernel⟩
theorem tw_502 : Cond.fieldLink RX11 79 RX11 (TX11 8).2.1 (TX11 8).2.2.1 ∈ wT := List.mem_filter.mpr ⟨List.mem_of_getElem? (i := 502) (by decide +kernel), by decide +kernel⟩
theorem tw_503 : Cond.fieldLink RX11 88 RX11 (TX11 9).2.1 (TX11 9).2.2.1 ∈ wT := List.mem_filter.mpr ⟨List.mem_of_getElem? (i := 503) (by decide +kernel), by decide +kernel⟩
theorem tw_504 : Cond.fieldLink RX11 97 RX11 (TX11 10).2.1 (TX11 10).2.2.1 ∈ wT := List.mem_filter.mpr ⟨List.mem_of_getElem? (i := 504) (by decide +kernel), by decide +kernel⟩
theorem tw_505 : Cond.fieldLink RX11 106 RX11 (TX11 11).2.1 (TX11 11).2.2.1 ∈ wT := List.mem_filter.mpr ⟨List.mem_of_getElem? (i := 505) (by decide +kernel), by decide +kernel⟩
theorem tw_506 : Cond.fieldLink RX11 57 RX11 (TX11 12).2.1 (TX11 12).2.2.1 ∈ wT := List.mem_filter.mpr ⟨List.mem_of_getElem? (i := 506) (by decide +kernel), by decide +kernel⟩
theorem tw_507 : Cond.fieldLink RX11 61 RX11 (TX11 13).2.1 (TX11 13).2.2.1 ∈ wT := List.mem_filter.mpr ⟨List.mem_of_getElem? (i := 507) (by decide +kernel), by decide +kernel⟩
theorem tw_508 : Cond.fieldLink RX11 64 RX11 (TX11 14).2.1 (TX11 14).2.2.1 ∈ wT := List.mem_filter.mpr ⟨List.mem_of_getElem? (i := 508) (by decide +kernel), by decide +kernel⟩
theorem tw_509 : Cond.fieldLink RX11 68 RX11 (TX11 15).2.1 (TX11 15).2.2.1 ∈ wT := List.mem_filter.mpr ⟨List.mem_of_getElem? (i := 509) (by decide +kernel), by decide +kernel⟩
theorem tw_510 : Cond.fieldLink RX11 71 RX11 (TX11 16).2.1 (TX11 16).2.2.1 ∈ wT := List.mem_filter.mpr ⟨List.mem_of_getElem? (i := 510) (by decide +kernel), by decide +kernel⟩
theorem tw_550 : Cond.methodLink RX11 117 yX11_refuse ∈ wT := List.mem_filter.mpr ⟨List.mem_of_getElem? (i := 550) (by decide +kernel), by decide +kernel⟩
theorem tw_552 : Cond.instanceMethod yX11_refuse ∈ wT := List.mem_filter.mpr ⟨List.mem_of_getElem? (i := 552) (by decide +kernel), by decide +kernel⟩
theorem tw_553 : Cond.code yX11_refuse cX11_refuse 2 (some .int) ∈ wT := List.mem_filter.mpr ⟨List.mem_of_getElem? (i := 553) (by decide +kernel), by decide +kernel⟩
theorem tw_554 : Cond.methodLink RX11 121 yX9_addNumber ∈ wT := List.mem_filter.mpr ⟨List.mem_of_getElem? (i := 554) (by decide +kernel), by decide +kernel⟩
theorem tw_555 : Cond.instanceMethod yX9_addNumber ∈ wT := List.mem_filter.mpr ⟨List.mem_of_getElem? (i := 555) (by decide +kernel), by decide +kernel⟩
theorem tw_556 : Cond.selects (yX9_addNumber).cls yX9_addNumber yX9_addNumber ∈ wT := List.mem_filter.mpr ⟨List.mem_of_getElem? (i := 556) (by decide +kernel), by decide +kernel⟩
theorem tw_557 : Cond.code yX9_addNumber cX9_addNumber 3 none ∈ wT := List.mem_filter.mpr ⟨List.mem_of_getElem? (i := 557) (by decide +kernel), by decide +kernel⟩
theorem tw_562 : Cond.methodLink RX11 125 yX11_refuseIt ∈ wT := List.mem_filter.mpr ⟨List.mem_of_getElem? (i := 562) (by decide +kernel), by decide +kernel⟩
theorem tw_564 : Cond.instanceMethod yX11_refuseIt ∈ wT := List.mem_filter.mpr ⟨List.mem_of_getElem? (i := 564) (by decide +kernel), by decide +kernel⟩
theorem tw_565 : Cond.code yX11_refuseIt cX11_refuseIt 2 (some .boolean) ∈ wT := List.mem_filter.mpr ⟨List.mem_of_getElem? (i := 565) (by decide +kernel), by decide +kernel⟩
theorem tw_570 : Cond.methodLink RX11 129 yX6_read ∈ wT := List.mem_filter.mpr ⟨List.mem_of_getElem? (i := 570) (by decide +kernel), by decide +kernel⟩
theorem tw_571 : Cond.instanceMethod yX6_read ∈ wT := List.mem_filter.mpr ⟨List.mem_of_getElem? (i := 571) (by decide +kernel), by decide +kernel⟩
theorem tw_572 : Cond.selects (yX6_read).cls yX6_read yX6_read ∈ wT := List.mem_filter.mpr ⟨List.mem_of_getElem? (i := 572) (by decide +kernel), by decide +kernel⟩
