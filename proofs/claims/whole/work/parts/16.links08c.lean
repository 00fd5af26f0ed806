theorem tw_1711 : Cond.methodLink RX12 456 yX12_wornOf ∈ wT := List.mem_filter.mpr ⟨List.mem_of_getElem? (i := 1711) (by decide +kernel), by decide +kernel⟩
theorem tw_1713 : Cond.instanceMethod yX12_wornOf ∈ wT := List.mem_filter.mpr ⟨List.mem_of_getElem? (i := 1713) (by decide +kernel), by decide +kernel⟩
theorem tw_1714 : Cond.code yX12_wornOf cX12_wornOf 5 (some .int) ∈ wT := List.mem_filter.mpr ⟨List.mem_of_getElem? (i := 1714) (by decide +kernel), by decide +kernel⟩
theorem tw_1715 : Cond.methodLink RX12 504 yX12_clashes ∈ wT := List.mem_filter.mpr ⟨List.mem_of_getElem? (i := 1715) (by decide +kernel), by decide +kernel⟩
theorem tw_1717 : Cond.instanceMethod yX12_clashes ∈ wT := List.mem_filter.mpr ⟨List.mem_of_getElem? (i := 1717) (by decide +kernel), by decide +kernel⟩
theorem tw_1718 : Cond.code yX12_clashes cX12_clashes 4 (some .int) ∈ wT := List.mem_filter.mpr ⟨List.mem_of_getElem? (i := 1718) (by decide +kernel), by decide +kernel⟩
theorem tw_1719 : Cond.methodLink RX12 501 yX12_nearSet ∈ wT := List.mem_filter.mpr ⟨List.mem_of_getElem? (i := 1719) (by decide +kernel), by decide +kernel⟩
theorem tw_1721 : Cond.instanceMethod yX12_nearSet ∈ wT := List.mem_filter.mpr ⟨List.mem_of_getElem? (i := 1721) (by decide +kernel), by decide +kernel⟩
theorem tw_1722 : Cond.code yX12_nearSet cX12_nearSet 2 (some .int) ∈ wT := List.mem_filter.mpr ⟨List.mem_of_getElem? (i := 1722) (by decide +kernel), by decide +kernel⟩
theorem tw_1727 : Cond.methodLink RX12 507 yX12_isBlind ∈ wT := List.mem_filter.mpr ⟨List.mem_of_getElem? (i := 1727) (by decide +kernel), by decide +kernel⟩
theorem tw_1729 : Cond.instanceMethod yX12_isBlind ∈ wT := List.mem_filter.mpr ⟨List.mem_of_getElem? (i := 1729) (by decide +kernel), by decide +kernel⟩
theorem tw_1730 : Cond.code yX12_isBlind cX12_isBlind 2 (some .boolean) ∈ wT := List.mem_filter.mpr ⟨List.mem_of_getElem? (i := 1730) (by decide +kernel), by decide +kernel⟩
theorem tw_1731 : Cond.methodLink RX12 510 yX12_isColour ∈ wT := List.mem_filter.mpr ⟨List.mem_of_getElem? (i := 1731) (by decide +kernel), by decide +kernel⟩
theorem tw_1733 : Cond.instanceMethod yX12_isColour ∈ wT := List.mem_filter.mpr ⟨List.mem_of_getElem? (i := 1733) (by decide +kernel), by decide +kernel⟩
theorem tw_1734 : Cond.code yX12_isColour cX12_isColour 2 (some .boolean) ∈ wT := List.mem_filter.mpr ⟨List.mem_of_getElem? (i := 1734) (by decide +kernel), by decide +kernel⟩
theorem tw_1735 : Cond.methodLink RX12 513 yX12_isThing ∈ wT := List.mem_filter.mpr ⟨List.mem_of_getElem? (i := 1735) (by decide +kernel), by decide +kernel⟩
theorem tw_1737 : Cond.instanceMethod yX12_isThing ∈ wT := List.mem_filter.mpr ⟨List.mem_of_getElem? (i := 1737) (by decide +kernel), by decide +kernel⟩
theorem tw_1738 : Cond.code yX12_isThing cX12_isThing 2 (some .boolean) ∈ wT := List.mem_filter.mpr ⟨List.mem_of_getElem? (i := 1738) (by decide +kernel), by decide +kernel⟩
theorem tw_1744 : Cond.methodLink RX12 518 yX12_placeOf ∈ wT := List.mem_filter.mpr ⟨List.mem_of_getElem? (i := 1744) (by decide +kernel), by decide +kernel⟩
theorem tw_1746 : Cond.instanceMethod yX12_placeOf ∈ wT := List.mem_filter.mpr ⟨List.mem_of_getElem? (i := 1746) (by decide +kernel), by decide +kernel⟩
theorem tw_1747 : Cond.code yX12_placeOf cX12_placeOf 3 (some .int) ∈ wT := List.mem_filter.mpr ⟨List.mem_of_getElem? (i := 1747) (by decide +kernel), by decide +kernel⟩
theorem tw_1748 : Cond.methodLink RX12 473 yX12_isCounting ∈ wT := List.mem_filter.mpr ⟨List.mem_of_getElem? (i := 1748) (by decide +kernel), by decide +kernel⟩
theorem tw_1750 : Cond.instanceMethod yX12_isCounting ∈ wT := List.mem_filter.mpr ⟨List.mem_of_getElem? (i := 1750) (by decide +kernel), by decide +kernel⟩
theorem tw_1751 : Cond.code yX12_isCounting cX12_isCounting 3 (some .boolean) ∈ wT := List.mem_filter.mpr ⟨List.mem_of_getElem? (i := 1751) (by decide +kernel), by decide +kernel⟩
theorem tw_1752 : Cond.methodLink RX12 450 yX12_isTold ∈ wT := List.mem_filter.mpr ⟨List.mem_of_getElem? (i := 1752) (by decide +kernel), by decide +kernel⟩
theorem tw_1754 : Cond.instanceMethod yX12_isTold ∈ wT := List.mem_filter.mpr ⟨List.mem_of_getElem? (i := 1754) (by decide +kernel), by decide +kernel⟩
theorem tw_1755 : Cond.code yX12_isTold cX12_isTold 2 (some .boolean) ∈ wT := List.mem_filter.mpr ⟨List.mem_of_getElem? (i := 1755) (by decide +kernel), by decide +kernel⟩
theorem tw_1756 : Cond.methodLink RX12 453 yX12_lays ∈ wT := List.mem_filter.mpr ⟨List.mem_of_getElem? (i := 1756) (by decide +kernel), by decide +kernel⟩
theorem tw_1758 : Cond.instanceMethod yX12_lays ∈ wT := List.mem_filter.mpr ⟨List.mem_of_getElem? (i := 1758) (by decide +kernel), by decide +kernel⟩
theorem tw_1759 : Cond.code yX12_lays cX12_lays 3 none ∈ wT := List.mem_filter.mpr ⟨List.mem_of_getElem? (i := 1759) (by decide +kernel), by decide +kernel⟩
theorem tw_1760 : Cond.methodLink RX12 459 yX12_reckons ∈ wT := List.mem_filter.mpr ⟨List.mem_of_getElem? (i := 1760) (by decide +kernel), by decide +kernel⟩
theorem tw_1762 : Cond.instanceMethod yX12_reckons ∈ wT := List.mem_filter.mpr ⟨List.mem_of_getElem? (i := 1762) (by decide +kernel), by decide +kernel⟩
theorem tw_1763 : Cond.code yX12_reckons cX12_reckons 5 (some .long) ∈ wT := List.mem_filter.mpr ⟨List.mem_of_getElem? (i := 1763) (by decide +kernel), by decide +kernel⟩
theorem tw_1764 : Cond.methodLink RX12 439 yX12_two ∈ wT := List.mem_filter.mpr ⟨List.mem_of_getElem? (i := 1764) (by decide +kernel), by decide +kernel⟩
theorem tw_1765 : Cond.static yX12_two ∈ wT := List.mem_filter.mpr ⟨List.mem_of_getElem? (i := 1765) (by decide +kernel), by decide +kernel⟩
theorem tw_1766 : Cond.code yX12_two cX12_two 5 (some .long) ∈ wT := List.mem_filter.mpr ⟨List.mem_of_getElem? (i := 1766) (by decide +kernel), by decide +kernel⟩
theorem tw_1767 : Cond.methodLink RX12 431 yX12_within ∈ wT := List.mem_filter.mpr ⟨List.mem_of_getElem? (i := 1767) (by decide +kernel), by decide +kernel⟩
theorem tw_1768 : Cond.static yX12_within ∈ wT := List.mem_filter.mpr ⟨List.mem_of_getElem? (i := 1768) (by decide +kernel), by decide +kernel⟩
theorem tw_1769 : Cond.code yX12_within cX12_within 2 (some .long) ∈ wT := List.mem_filter.mpr ⟨List.mem_of_getElem? (i := 1769) (by decide +kernel), by decide +kernel⟩
theorem tw_1772 : Cond.methodLink RX12 435 yX12_floor ∈ wT := List.mem_filter.mpr ⟨List.mem_of_getElem? (i := 1772) (by decide +kernel), by decide +kernel⟩
theorem tw_1773 : Cond.static yX12_floor ∈ wT := List.mem_filter.mpr ⟨List.mem_of_getElem? (i := 1773) (by decide +kernel), by decide +kernel⟩
theorem tw_1774 : Cond.code yX12_floor cX12_floor 6 (some .long) ∈ wT := List.mem_filter.mpr ⟨List.mem_of_getElem? (i := 1774) (by decide +kernel), by decide +kernel⟩
theorem tw_1783 : Cond.methodLink RX12 521 yX12_bits ∈ wT := List.mem_filter.mpr ⟨List.mem_of_getElem? (i := 1783) (by decide +kernel), by decide +kernel⟩
theorem tw_1784 : Cond.static yX12_bits ∈ wT := List.mem_filter.mpr ⟨List.mem_of_getElem? (i := 1784) (by decide +kernel), by decide +kernel⟩
theorem tw_1785 : Cond.code yX12_bits cX12_bits 3 (some .int) ∈ wT := List.mem_filter.mpr ⟨List.mem_of_getElem? (i := 1785) (by decide +kernel), by decide +kernel⟩
theorem tw_1790 : Cond.methodLink RX12 463 yX12_scoreOf ∈ wT := List.mem_filter.mpr ⟨List.mem_of_getElem? (i := 1790) (by decide +kernel), by decide +kernel⟩
theorem tw_1792 : Cond.instanceMethod yX12_scoreOf ∈ wT := List.mem_filter.mpr ⟨List.mem_of_getElem? (i := 1792) (by decide +kernel), by decide +kernel⟩
theorem tw_1793 : Cond.code yX12_scoreOf cX12_scoreOf 7 (some .long) ∈ wT := List.mem_filter.mpr ⟨List.mem_of_getElem? (i := 1793) (by decide +kernel), by decide +kernel⟩
theorem tw_1794 : Cond.methodLink RX12 446 yX12_matchOf ∈ wT := List.mem_filter.mpr ⟨List.mem_of_getElem? (i := 1794) (by decide +kernel), by decide +kernel⟩
theorem tw_1796 : Cond.instanceMethod yX12_matchOf ∈ wT := List.mem_filter.mpr ⟨List.mem_of_getElem? (i := 1796) (by decide +kernel), by decide +kernel⟩
theorem tw_1797 : Cond.code yX12_matchOf cX12_matchOf 6 (some .int) ∈ wT := List.mem_filter.mpr ⟨List.mem_of_getElem? (i := 1797) (by decide +kernel), by decide +kernel⟩
theorem tw_1798 : Cond.methodLink RX12 443 yX12_gap ∈ wT := List.mem_filter.mpr ⟨List.mem_of_getElem? (i := 1798) (by decide +kernel), by decide +kernel⟩
theorem tw_1799 : Cond.static yX12_gap ∈ wT := List.mem_filter.mpr ⟨List.mem_of_getElem? (i := 1799) (by decide +kernel), by decide +kernel⟩
theorem tw_1800 : Cond.code yX12_gap cX12_gap 2 (some .int) ∈ wT := List.mem_filter.mpr ⟨List.mem_of_getElem? (i := 1800) (by decide +kernel), by decide +kernel⟩
theorem tw_1806 : Cond.methodLink RX12 467 yX12_hushes ∈ wT := List.mem_filter.mpr ⟨List.mem_of_getElem? (i := 1806) (by decide +kernel), by decide +kernel⟩
theorem tw_1808 : Cond.instanceMethod yX12_hushes ∈ wT := List.mem_filter.mpr ⟨List.mem_of_getElem? (i := 1808) (by decide +kernel), by decide +kernel⟩
theorem tw_1809 : Cond.code yX12_hushes cX12_hushes 2 none ∈ wT := List.mem_filter.mpr ⟨List.mem_of_getElem? (i := 1809) (by decide +kernel), by decide +kernel⟩
theorem tw_1810 : Cond.methodLink RX12 470 yX12_wordBy ∈ wT := List.mem_filter.mpr ⟨List.mem_of_getElem? (i := 1810) (by decide +kernel), by decide +kernel⟩
theorem tw_1812 : Cond.instanceMethod yX12_wordBy ∈ wT := List.mem_filter.mpr ⟨List.mem_of_getElem? (i := 1812) (by decide +kernel), by decide +kernel⟩
theorem tw_1813 : Cond.code yX12_wordBy cX12_wordBy 10 (some .int) ∈ wT := List.mem_filter.mpr ⟨List.mem_of_getElem? (i := 1813) (by decide +kernel), by decide +kernel⟩
theorem tw_1818 : Cond.methodLink RX12 487 yX12_everybody ∈ wT := List.mem_filter.mpr ⟨List.mem_of_getElem? (i := 1818) (by decide +kernel), by decide +kernel⟩
theorem tw_1820 : Cond.instanceMethod yX12_everybody ∈ wT := List.mem_filter.mpr ⟨List.mem_of_getElem? (i := 1820) (by decide +kernel), by decide +kernel⟩
theorem tw_1821 : Cond.code yX12_everybody cX12_everybody 1 (some .int) ∈ wT := List.mem_filter.mpr ⟨List.mem_of_getElem? (i := 1821) (by decide +kernel), by decide +kernel⟩
theorem tw_1822 : Cond.methodLink RX12 491 yX12_choiceOf ∈ wT := List.mem_filter.mpr ⟨List.mem_of_getElem? (i := 1822) (by decide +kernel), by decide +kernel⟩
theorem tw_1824 : Cond.instanceMethod yX12_choiceOf ∈ wT := List.mem_filter.mpr ⟨List.mem_of_getElem? (i := 1824) (by decide +kernel), by decide +kernel⟩
theorem tw_1825 : Cond.code yX12_choiceOf cX12_choiceOf 4 (some .int) ∈ wT := List.mem_filter.mpr ⟨List.mem_of_getElem? (i := 1825) (by decide +kernel), by decide +kernel⟩
theorem tw_1826 : Cond.methodLink RX12 476 yX12_laysNow ∈ wT := List.mem_filter.mpr ⟨List.mem_of_getElem? (i := 1826) (by decide +kernel), by decide +kernel⟩
theorem tw_1828 : Cond.instanceMethod yX12_laysNow ∈ wT := List.mem_filter.mpr ⟨List.mem_of_getElem? (i := 1828) (by decide +kernel), by decide +kernel⟩
theorem tw_1829 : Cond.code yX12_laysNow cX12_laysNow 3 none ∈ wT := List.mem_filter.mpr ⟨List.mem_of_getElem? (i := 1829) (by decide +kernel), by decide +kernel⟩
theorem tw_1830 : Cond.methodLink RX12 479 yX12_chosen ∈ wT := List.mem_filter.mpr ⟨List.mem_of_getElem? (i := 1830) (by decide +kernel), by decide +kernel⟩
theorem tw_1832 : Cond.instanceMethod yX12_chosen ∈ wT := List.mem_filter.mpr ⟨List.mem_of_getElem? (i := 1832) (by decide +kernel), by decide +kernel⟩
theorem tw_1833 : Cond.code yX12_chosen cX12_chosen 6 (some .int) ∈ wT := List.mem_filter.mpr ⟨List.mem_of_getElem? (i := 1833) (by decide +kernel), by decide +kernel⟩
theorem tw_1838 : Cond.methodLink RX12 529 yX12_isAhead ∈ wT := List.mem_filter.mpr ⟨List.mem_of_getElem? (i := 1838) (by decide +kernel), by decide +kernel⟩
theorem tw_1840 : Cond.instanceMethod yX12_isAhead ∈ wT := List.mem_filter.mpr ⟨List.mem_of_getElem? (i := 1840) (by decide +kernel), by decide +kernel⟩
theorem tw_1841 : Cond.code yX12_isAhead cX12_isAhead 4 (some .boolean) ∈ wT := List.mem_filter.mpr ⟨List.mem_of_getElem? (i := 1841) (by decide +kernel), by decide +kernel⟩
theorem tw_1842 : Cond.methodLink RX12 532 yX12_runsOn ∈ wT := List.mem_filter.mpr ⟨List.mem_of_getElem? (i := 1842) (by decide +kernel), by decide +kernel⟩
theorem tw_1844 : Cond.instanceMethod yX12_runsOn ∈ wT := List.mem_filter.mpr ⟨List.mem_of_getElem? (i := 1844) (by decide +kernel), by decide +kernel⟩
theorem tw_1845 : Cond.code yX12_runsOn cX12_runsOn 3 none ∈ wT := List.mem_filter.mpr ⟨List.mem_of_getElem? (i := 1845) (by decide +kernel), by decide +kernel⟩
theorem tw_1846 : Cond.methodLink RX12 526 yX12_ticks ∈ wT := List.mem_filter.mpr ⟨List.mem_of_getElem? (i := 1846) (by decide +kernel), by decide +kernel⟩
theorem tw_1848 : Cond.instanceMethod yX12_ticks ∈ wT := List.mem_filter.mpr ⟨List.mem_of_getElem? (i := 1848) (by decide +kernel), by decide +kernel⟩
theorem tw_1849 : Cond.code yX12_ticks cX12_ticks 7 (some .boolean) ∈ wT := List.mem_filter.mpr ⟨List.mem_of_getElem? (i := 1849) (by decide +kernel), by decide +kernel⟩
theorem tw_1850 : Cond.methodLink RX12 484 yX12_gift ∈ wT := List.mem_filter.mpr ⟨List.mem_of_getElem? (i := 1850) (by decide +kernel), by decide +kernel⟩
theorem tw_1852 : Cond.instanceMethod yX12_gift ∈ wT := List.mem_filter.mpr ⟨List.mem_of_getElem? (i := 1852) (by decide +kernel), by decide +kernel⟩
theorem tw_1853 : Cond.code yX12_gift cX12_gift 4 (some .int) ∈ wT := List.mem_filter.mpr ⟨List.mem_of_getElem? (i := 1853) (by decide +kernel), by decide +kernel⟩
theorem tw_1855 : Cond.methodLink RX12 494 yX12_moods ∈ wT := List.mem_filter.mpr ⟨List.mem_of_getElem? (i := 1855) (by decide +kernel), by decide +kernel⟩
theorem tw_1857 : Cond.instanceMethod yX12_moods ∈ wT := List.mem_filter.mpr ⟨List.mem_of_getElem? (i := 1857) (by decide +kernel), by decide +kernel⟩
theorem tw_1858 : Cond.code yX12_moods cX12_moods 5 none ∈ wT := List.mem_filter.mpr ⟨List.mem_of_getElem? (i := 1858) (by decide +kernel), by decide +kernel⟩
theorem tw_1859 : Cond.methodLink RX12 497 yX12_writesDown ∈ wT := List.mem_filter.mpr ⟨List.mem_of_getElem? (i := 1859) (by decide +kernel), by decide +kernel⟩
theorem tw_1861 : Cond.instanceMethod yX12_writesDown ∈ wT := List.mem_filter.mpr ⟨List.mem_of_getElem? (i := 1861) (by decide +kernel), by decide +kernel⟩
theorem tw_1862 : Cond.code yX12_writesDown cX12_writesDown 5 none ∈ wT := List.mem_filter.mpr ⟨List.mem_of_getElem? (i := 1862) (by decide +kernel), by decide +kernel⟩
theorem tw_1875 : Cond.methodLink RX12 535 yX12_rowsOf ∈ wT := List.mem_filter.mpr ⟨List.mem_of_getElem? (i := 1875) (by decide +kernel), by decide +kernel⟩
theorem tw_1877 : Cond.instanceMethod yX12_rowsOf ∈ wT := List.mem_filter.mpr ⟨List.mem_of_getElem? (i := 1877) (by decide +kernel), by decide +kernel⟩
theorem tw_1878 : Cond.code yX12_rowsOf cX12_rowsOf 3 (some .int) ∈ wT := List.mem_filter.mpr ⟨List.mem_of_getElem? (i := 1878) (by decide +kernel), by decide +kernel⟩
theorem tw_1879 : Cond.methodLink RX12 538 yX12_laysOrder ∈ wT := List.mem_filter.mpr ⟨List.mem_of_getElem? (i := 1879) (by decide +kernel), by decide +kernel⟩
theorem tw_1881 : Cond.instanceMethod yX12_laysOrder ∈ wT := List.mem_filter.mpr ⟨List.mem_of_getElem? (i := 1881) (by decide +kernel), by decide +kernel⟩
theorem tw_1882 : Cond.code yX12_laysOrder cX12_laysOrder 9 none ∈ wT := List.mem_filter.mpr ⟨List.mem_of_getElem? (i := 1882) (by decide +kernel), by decide +kernel⟩
theorem tw_1895 : Cond.methodLink RX12 544 yX12_isCleared ∈ wT := List.mem_filter.mpr ⟨List.mem_of_getElem? (i := 1895) (by decide +kernel), by decide +kernel⟩
theorem tw_1897 : Cond.instanceMethod yX12_isCleared ∈ wT := List.mem_filter.mpr ⟨List.mem_of_getElem? (i := 1897) (by decide +kernel), by decide +kernel⟩
theorem tw_1898 : Cond.code yX12_isCleared cX12_isCleared 6 (some .boolean) ∈ wT := List.mem_filter.mpr ⟨List.mem_of_getElem? (i := 1898) (by decide +kernel), by decide +kernel⟩
theorem tw_1899 : Cond.methodLink RX12 541 yX12_isClear ∈ wT := List.mem_filter.mpr ⟨List.mem_of_getElem? (i := 1899) (by decide +kernel), by decide +kernel⟩
