theorem tw_1656 : Cond.methodLink RX12 332 yX12_opens ∈ wT := List.mem_filter.mpr ⟨List.mem_of_getElem? (i := 1656) (by decide +kernel), by decide +kernel⟩
theorem tw_1658 : Cond.instanceMethod yX12_opens ∈ wT := List.mem_filter.mpr ⟨List.mem_of_getElem? (i := 1658) (by decide +kernel), by decide +kernel⟩
theorem tw_1659 : Cond.code yX12_opens cX12_opens 2 none ∈ wT := List.mem_filter.mpr ⟨List.mem_of_getElem? (i := 1659) (by decide +kernel), by decide +kernel⟩
theorem tw_1660 : Cond.methodLink RX12 316 yX12_add ∈ wT := List.mem_filter.mpr ⟨List.mem_of_getElem? (i := 1660) (by decide +kernel), by decide +kernel⟩
theorem tw_1662 : Cond.instanceMethod yX12_add ∈ wT := List.mem_filter.mpr ⟨List.mem_of_getElem? (i := 1662) (by decide +kernel), by decide +kernel⟩
theorem tw_1663 : Cond.code yX12_add cX12_add 3 none ∈ wT := List.mem_filter.mpr ⟨List.mem_of_getElem? (i := 1663) (by decide +kernel), by decide +kernel⟩
theorem tw_1664 : Cond.methodLink RX12 341 yX12_goesOn ∈ wT := List.mem_filter.mpr ⟨List.mem_of_getElem? (i := 1664) (by decide +kernel), by decide +kernel⟩
theorem tw_1666 : Cond.instanceMethod yX12_goesOn ∈ wT := List.mem_filter.mpr ⟨List.mem_of_getElem? (i := 1666) (by decide +kernel), by decide +kernel⟩
set_option maxRecDepth 100000 in
theorem tw_1667 : Cond.code yX12_goesOn cX12_goesOn 5 (some .boolean) ∈ wT := List.mem_filter.mpr ⟨List.mem_of_getElem? (i := 1667) rfl, by decide +kernel⟩
theorem tw_1668 : Cond.methodLink RX12 335 yX12_joins ∈ wT := List.mem_filter.mpr ⟨List.mem_of_getElem? (i := 1668) (by decide +kernel), by decide +kernel⟩
theorem tw_1670 : Cond.instanceMethod yX12_joins ∈ wT := List.mem_filter.mpr ⟨List.mem_of_getElem? (i := 1670) (by decide +kernel), by decide +kernel⟩
theorem tw_1671 : Cond.code yX12_joins cX12_joins 2 none ∈ wT := List.mem_filter.mpr ⟨List.mem_of_getElem? (i := 1671) (by decide +kernel), by decide +kernel⟩
theorem tw_1672 : Cond.methodLink RX12 313 yX12_rank ∈ wT := List.mem_filter.mpr ⟨List.mem_of_getElem? (i := 1672) (by decide +kernel), by decide +kernel⟩
theorem tw_1673 : Cond.static yX12_rank ∈ wT := List.mem_filter.mpr ⟨List.mem_of_getElem? (i := 1673) (by decide +kernel), by decide +kernel⟩
theorem tw_1674 : Cond.code yX12_rank cX12_rank 1 (some .int) ∈ wT := List.mem_filter.mpr ⟨List.mem_of_getElem? (i := 1674) (by decide +kernel), by decide +kernel⟩
theorem tw_1675 : Cond.methodLink RX12 415 yX12_finishes ∈ wT := List.mem_filter.mpr ⟨List.mem_of_getElem? (i := 1675) (by decide +kernel), by decide +kernel⟩
theorem tw_1677 : Cond.instanceMethod yX12_finishes ∈ wT := List.mem_filter.mpr ⟨List.mem_of_getElem? (i := 1677) (by decide +kernel), by decide +kernel⟩
theorem tw_1678 : Cond.code yX12_finishes cX12_finishes 3 none ∈ wT := List.mem_filter.mpr ⟨List.mem_of_getElem? (i := 1678) (by decide +kernel), by decide +kernel⟩
theorem tw_1679 : Cond.methodLink RX12 409 yX12_must ∈ wT := List.mem_filter.mpr ⟨List.mem_of_getElem? (i := 1679) (by decide +kernel), by decide +kernel⟩
theorem tw_1681 : Cond.instanceMethod yX12_must ∈ wT := List.mem_filter.mpr ⟨List.mem_of_getElem? (i := 1681) (by decide +kernel), by decide +kernel⟩
theorem tw_1682 : Cond.code yX12_must cX12_must 2 none ∈ wT := List.mem_filter.mpr ⟨List.mem_of_getElem? (i := 1682) (by decide +kernel), by decide +kernel⟩
theorem tw_1683 : Cond.methodLink RX12 418 yX12_begin ∈ wT := List.mem_filter.mpr ⟨List.mem_of_getElem? (i := 1683) (by decide +kernel), by decide +kernel⟩
theorem tw_1685 : Cond.instanceMethod yX12_begin ∈ wT := List.mem_filter.mpr ⟨List.mem_of_getElem? (i := 1685) (by decide +kernel), by decide +kernel⟩
theorem tw_1686 : Cond.code yX12_begin cX12_begin 2 none ∈ wT := List.mem_filter.mpr ⟨List.mem_of_getElem? (i := 1686) (by decide +kernel), by decide +kernel⟩
theorem tw_1699 : Cond.methodLink RX12 421 yX12_slot ∈ wT := List.mem_filter.mpr ⟨List.mem_of_getElem? (i := 1699) (by decide +kernel), by decide +kernel⟩
theorem tw_1701 : Cond.instanceMethod yX12_slot ∈ wT := List.mem_filter.mpr ⟨List.mem_of_getElem? (i := 1701) (by decide +kernel), by decide +kernel⟩
theorem tw_1702 : Cond.code yX12_slot cX12_slot 2 (some .int) ∈ wT := List.mem_filter.mpr ⟨List.mem_of_getElem? (i := 1702) (by decide +kernel), by decide +kernel⟩
theorem tw_1703 : Cond.methodLink RX12 424 yX12_copies ∈ wT := List.mem_filter.mpr ⟨List.mem_of_getElem? (i := 1703) (by decide +kernel), by decide +kernel⟩
theorem tw_1705 : Cond.instanceMethod yX12_copies ∈ wT := List.mem_filter.mpr ⟨List.mem_of_getElem? (i := 1705) (by decide +kernel), by decide +kernel⟩
theorem tw_1706 : Cond.code yX12_copies cX12_copies 4 none ∈ wT := List.mem_filter.mpr ⟨List.mem_of_getElem? (i := 1706) (by decide +kernel), by decide +kernel⟩
