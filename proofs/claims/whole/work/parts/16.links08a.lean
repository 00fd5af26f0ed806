theorem tw_1631 : Cond.instanceMethod yX12_reading ∈ wT := List.mem_filter.mpr ⟨List.mem_of_getElem? (i := 1631) (by decide +kernel), by decide +kernel⟩
theorem tw_1632 : Cond.code yX12_reading cX12_reading 3 none ∈ wT := List.mem_filter.mpr ⟨List.mem_of_getElem? (i := 1632) (by decide +kernel), by decide +kernel⟩
theorem tw_1633 : Cond.methodLink RX12 381 yX12_reads ∈ wT := List.mem_filter.mpr ⟨List.mem_of_getElem? (i := 1633) (by decide +kernel), by decide +kernel⟩
theorem tw_1635 : Cond.instanceMethod yX12_reads ∈ wT := List.mem_filter.mpr ⟨List.mem_of_getElem? (i := 1635) (by decide +kernel), by decide +kernel⟩
theorem tw_1636 : Cond.code yX12_reads cX12_reads 3 none ∈ wT := List.mem_filter.mpr ⟨List.mem_of_getElem? (i := 1636) (by decide +kernel), by decide +kernel⟩
theorem tw_1637 : Cond.methodLink RX12 319 yX12_pushes ∈ wT := List.mem_filter.mpr ⟨List.mem_of_getElem? (i := 1637) (by decide +kernel), by decide +kernel⟩
theorem tw_1639 : Cond.instanceMethod yX12_pushes ∈ wT := List.mem_filter.mpr ⟨List.mem_of_getElem? (i := 1639) (by decide +kernel), by decide +kernel⟩
theorem tw_1640 : Cond.code yX12_pushes cX12_pushes 2 none ∈ wT := List.mem_filter.mpr ⟨List.mem_of_getElem? (i := 1640) (by decide +kernel), by decide +kernel⟩
theorem tw_1641 : Cond.methodLink RX12 338 yX12_operand ∈ wT := List.mem_filter.mpr ⟨List.mem_of_getElem? (i := 1641) (by decide +kernel), by decide +kernel⟩
theorem tw_1643 : Cond.instanceMethod yX12_operand ∈ wT := List.mem_filter.mpr ⟨List.mem_of_getElem? (i := 1643) (by decide +kernel), by decide +kernel⟩
set_option maxRecDepth 100000 in
theorem tw_1644 : Cond.code yX12_operand cX12_operand 4 (some .boolean) ∈ wT := List.mem_filter.mpr ⟨List.mem_of_getElem? (i := 1644) rfl, by decide +kernel⟩
theorem tw_1645 : Cond.methodLink RX12 322 yX12_isTest ∈ wT := List.mem_filter.mpr ⟨List.mem_of_getElem? (i := 1645) (by decide +kernel), by decide +kernel⟩
theorem tw_1646 : Cond.static yX12_isTest ∈ wT := List.mem_filter.mpr ⟨List.mem_of_getElem? (i := 1646) (by decide +kernel), by decide +kernel⟩
theorem tw_1647 : Cond.code yX12_isTest cX12_isTest 1 (some .boolean) ∈ wT := List.mem_filter.mpr ⟨List.mem_of_getElem? (i := 1647) (by decide +kernel), by decide +kernel⟩
theorem tw_1648 : Cond.methodLink RX12 329 yX12_holdsBack ∈ wT := List.mem_filter.mpr ⟨List.mem_of_getElem? (i := 1648) (by decide +kernel), by decide +kernel⟩
theorem tw_1650 : Cond.instanceMethod yX12_holdsBack ∈ wT := List.mem_filter.mpr ⟨List.mem_of_getElem? (i := 1650) (by decide +kernel), by decide +kernel⟩
theorem tw_1651 : Cond.code yX12_holdsBack cX12_holdsBack 2 none ∈ wT := List.mem_filter.mpr ⟨List.mem_of_getElem? (i := 1651) (by decide +kernel), by decide +kernel⟩
theorem tw_1652 : Cond.methodLink RX12 244 yX12_isSign ∈ wT := List.mem_filter.mpr ⟨List.mem_of_getElem? (i := 1652) (by decide +kernel), by decide +kernel⟩
theorem tw_1654 : Cond.instanceMethod yX12_isSign ∈ wT := List.mem_filter.mpr ⟨List.mem_of_getElem? (i := 1654) (by decide +kernel), by decide +kernel⟩
theorem tw_1655 : Cond.code yX12_isSign cX12_isSign 2 (some .boolean) ∈ wT := List.mem_filter.mpr ⟨List.mem_of_getElem? (i := 1655) (by decide +kernel), by decide +kernel⟩
