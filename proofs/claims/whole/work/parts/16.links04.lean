theorem tw_583 : Cond.methodLink RX10 40 yX10_isBlank ∈ wT := List.mem_filter.mpr ⟨List.mem_of_getElem? (i := 583) (by decide +kernel), by decide +kernel⟩
theorem tw_584 : Cond.static yX10_isBlank ∈ wT := List.mem_filter.mpr ⟨List.mem_of_getElem? (i := 584) (by decide +kernel), by decide +kernel⟩
theorem tw_585 : Cond.code yX10_isBlank cX10_isBlank 1 (some .boolean) ∈ wT := List.mem_filter.mpr ⟨List.mem_of_getElem? (i := 585) (by decide +kernel), by decide +kernel⟩
theorem tw_586 : Cond.methodLink RX10 44 yX10_cutOne ∈ wT := List.mem_filter.mpr ⟨List.mem_of_getElem? (i := 586) (by decide +kernel), by decide +kernel⟩
theorem tw_588 : Cond.instanceMethod yX10_cutOne ∈ wT := List.mem_filter.mpr ⟨List.mem_of_getElem? (i := 588) (by decide +kernel), by decide +kernel⟩
theorem tw_589 : Cond.code yX10_cutOne cX10_cutOne 4 (some .int) ∈ wT := List.mem_filter.mpr ⟨List.mem_of_getElem? (i := 589) (by decide +kernel), by decide +kernel⟩
theorem tw_590 : Cond.methodLink RX10 48 yX10_add ∈ wT := List.mem_filter.mpr ⟨List.mem_of_getElem? (i := 590) (by decide +kernel), by decide +kernel⟩
theorem tw_592 : Cond.instanceMethod yX10_add ∈ wT := List.mem_filter.mpr ⟨List.mem_of_getElem? (i := 592) (by decide +kernel), by decide +kernel⟩
theorem tw_593 : Cond.code yX10_add cX10_add 4 (some .int) ∈ wT := List.mem_filter.mpr ⟨List.mem_of_getElem? (i := 593) (by decide +kernel), by decide +kernel⟩
theorem tw_594 : Cond.methodLink RX10 52 yX10_isLetter ∈ wT := List.mem_filter.mpr ⟨List.mem_of_getElem? (i := 594) (by decide +kernel), by decide +kernel⟩
theorem tw_595 : Cond.static yX10_isLetter ∈ wT := List.mem_filter.mpr ⟨List.mem_of_getElem? (i := 595) (by decide +kernel), by decide +kernel⟩
theorem tw_596 : Cond.code yX10_isLetter cX10_isLetter 1 (some .boolean) ∈ wT := List.mem_filter.mpr ⟨List.mem_of_getElem? (i := 596) (by decide +kernel), by decide +kernel⟩
theorem tw_597 : Cond.methodLink RX10 55 yX10_cutWord ∈ wT := List.mem_filter.mpr ⟨List.mem_of_getElem? (i := 597) (by decide +kernel), by decide +kernel⟩
theorem tw_599 : Cond.instanceMethod yX10_cutWord ∈ wT := List.mem_filter.mpr ⟨List.mem_of_getElem? (i := 599) (by decide +kernel), by decide +kernel⟩
theorem tw_600 : Cond.code yX10_cutWord cX10_cutWord 5 (some .int) ∈ wT := List.mem_filter.mpr ⟨List.mem_of_getElem? (i := 600) (by decide +kernel), by decide +kernel⟩
theorem tw_601 : Cond.methodLink RX10 72 yX6_ownNumber ∈ wT := List.mem_filter.mpr ⟨List.mem_of_getElem? (i := 601) (by decide +kernel), by decide +kernel⟩
theorem tw_602 : Cond.static yX6_ownNumber ∈ wT := List.mem_filter.mpr ⟨List.mem_of_getElem? (i := 602) (by decide +kernel), by decide +kernel⟩
theorem tw_603 : Cond.code yX6_ownNumber cX6_ownNumber 5 (some .int) ∈ wT := List.mem_filter.mpr ⟨List.mem_of_getElem? (i := 603) (by decide +kernel), by decide +kernel⟩
theorem tw_605 : Cond.methodLink RX6 69 yJ0_length_8abf5 ∈ wT := List.mem_filter.mpr ⟨List.mem_of_getElem? (i := 605) (by decide +kernel), by decide +kernel⟩
theorem tw_606 : Cond.instanceMethod yJ0_length_8abf5 ∈ wT := List.mem_filter.mpr ⟨List.mem_of_getElem? (i := 606) (by decide +kernel), by decide +kernel⟩
theorem tw_607 : Cond.selects (yJ0_length_8abf5).cls yJ0_length_8abf5 yJ0_length_8abf5 ∈ wT := List.mem_filter.mpr ⟨List.mem_of_getElem? (i := 607) (by decide +kernel), by decide +kernel⟩
theorem tw_608 : Cond.code yJ0_length_8abf5 cJ0_length_8abf5 1 (some .int) ∈ wT := List.mem_filter.mpr ⟨List.mem_of_getElem? (i := 608) (by decide +kernel), by decide +kernel⟩
theorem tw_609 : Cond.methodLink RJ0 335 yJ0_coder_7d493 ∈ wT := List.mem_filter.mpr ⟨List.mem_of_getElem? (i := 609) (by decide +kernel), by decide +kernel⟩
theorem tw_610 : Cond.instanceMethod yJ0_coder_7d493 ∈ wT := List.mem_filter.mpr ⟨List.mem_of_getElem? (i := 610) (by decide +kernel), by decide +kernel⟩
theorem tw_611 : Cond.selects (yJ0_coder_7d493).cls yJ0_coder_7d493 yJ0_coder_7d493 ∈ wT := List.mem_filter.mpr ⟨List.mem_of_getElem? (i := 611) (by decide +kernel), by decide +kernel⟩
theorem tw_612 : Cond.code yJ0_coder_7d493 cJ0_coder_7d493 1 (some .byte) ∈ wT := List.mem_filter.mpr ⟨List.mem_of_getElem? (i := 612) (by decide +kernel), by decide +kernel⟩
theorem tw_613 : Cond.fieldLink RJ0 38 "java/lang/String" "COMPACT_STRINGS" "Z" ∈ wT := List.mem_filter.mpr ⟨List.mem_of_getElem? (i := 613) (by decide +kernel), by decide +kernel⟩
theorem tw_615 : Cond.methodLink RX6 74 yJ0_charAt_5068e ∈ wT := List.mem_filter.mpr ⟨List.mem_of_getElem? (i := 615) (by decide +kernel), by decide +kernel⟩
theorem tw_616 : Cond.instanceMethod yJ0_charAt_5068e ∈ wT := List.mem_filter.mpr ⟨List.mem_of_getElem? (i := 616) (by decide +kernel), by decide +kernel⟩
theorem tw_617 : Cond.selects (yJ0_charAt_5068e).cls yJ0_charAt_5068e yJ0_charAt_5068e ∈ wT := List.mem_filter.mpr ⟨List.mem_of_getElem? (i := 617) (by decide +kernel), by decide +kernel⟩
theorem tw_618 : Cond.code yJ0_charAt_5068e cJ0_charAt_5068e 2 (some .char) ∈ wT := List.mem_filter.mpr ⟨List.mem_of_getElem? (i := 618) (by decide +kernel), by decide +kernel⟩
theorem tw_619 : Cond.methodLink RJ0 492 yJ0_isLatin1_aae02 ∈ wT := List.mem_filter.mpr ⟨List.mem_of_getElem? (i := 619) (by decide +kernel), by decide +kernel⟩
theorem tw_620 : Cond.instanceMethod yJ0_isLatin1_aae02 ∈ wT := List.mem_filter.mpr ⟨List.mem_of_getElem? (i := 620) (by decide +kernel), by decide +kernel⟩
theorem tw_621 : Cond.selects (yJ0_isLatin1_aae02).cls yJ0_isLatin1_aae02 yJ0_isLatin1_aae02 ∈ wT := List.mem_filter.mpr ⟨List.mem_of_getElem? (i := 621) (by decide +kernel), by decide +kernel⟩
theorem tw_622 : Cond.code yJ0_isLatin1_aae02 cJ0_isLatin1_aae02 1 (some .boolean) ∈ wT := List.mem_filter.mpr ⟨List.mem_of_getElem? (i := 622) (by decide +kernel), by decide +kernel⟩
theorem tw_623 : Cond.methodLink RJ0 495 yJ1_charAt_3b067 ∈ wT := List.mem_filter.mpr ⟨List.mem_of_getElem? (i := 623) (by decide +kernel), by decide +kernel⟩
theorem tw_624 : Cond.static yJ1_charAt_3b067 ∈ wT := List.mem_filter.mpr ⟨List.mem_of_getElem? (i := 624) (by decide +kernel), by decide +kernel⟩
theorem tw_625 : Cond.code yJ1_charAt_3b067 cJ1_charAt_3b067 2 (some .char) ∈ wT := List.mem_filter.mpr ⟨List.mem_of_getElem? (i := 625) (by decide +kernel), by decide +kernel⟩
theorem tw_626 : Cond.methodLink RJ1 9 yJ0_checkIndex_df160 ∈ wT := List.mem_filter.mpr ⟨List.mem_of_getElem? (i := 626) (by decide +kernel), by decide +kernel⟩
theorem tw_627 : Cond.static yJ0_checkIndex_df160 ∈ wT := List.mem_filter.mpr ⟨List.mem_of_getElem? (i := 627) (by decide +kernel), by decide +kernel⟩
theorem tw_628 : Cond.code yJ0_checkIndex_df160 cJ0_checkIndex_df160 2 none ∈ wT := List.mem_filter.mpr ⟨List.mem_of_getElem? (i := 628) (by decide +kernel), by decide +kernel⟩
theorem tw_629 : Cond.fieldLink RJ0 1053 "jdk/internal/util/Preconditions" "SIOOBE_FORMATTER" "Ljava/util/function/BiFunction;" ∈ wT := List.mem_filter.mpr ⟨List.mem_of_getElem? (i := 629) (by decide +kernel), by decide +kernel⟩
theorem tw_631 : Cond.methodLink RJ0 1059 yJ3_checkIndex_8e157 ∈ wT := List.mem_filter.mpr ⟨List.mem_of_getElem? (i := 631) (by decide +kernel), by decide +kernel⟩
theorem tw_632 : Cond.static yJ3_checkIndex_8e157 ∈ wT := List.mem_filter.mpr ⟨List.mem_of_getElem? (i := 632) (by decide +kernel), by decide +kernel⟩
theorem tw_633 : Cond.code yJ3_checkIndex_8e157 cJ3_checkIndex_8e157 3 (some .int) ∈ wT := List.mem_filter.mpr ⟨List.mem_of_getElem? (i := 633) (by decide +kernel), by decide +kernel⟩
theorem tw_653 : Cond.methodLink RX10 59 yX10_isDigit ∈ wT := List.mem_filter.mpr ⟨List.mem_of_getElem? (i := 653) (by decide +kernel), by decide +kernel⟩
theorem tw_654 : Cond.static yX10_isDigit ∈ wT := List.mem_filter.mpr ⟨List.mem_of_getElem? (i := 654) (by decide +kernel), by decide +kernel⟩
theorem tw_655 : Cond.code yX10_isDigit cX10_isDigit 1 (some .boolean) ∈ wT := List.mem_filter.mpr ⟨List.mem_of_getElem? (i := 655) (by decide +kernel), by decide +kernel⟩
theorem tw_656 : Cond.methodLink RX10 62 yX10_cutNumber ∈ wT := List.mem_filter.mpr ⟨List.mem_of_getElem? (i := 656) (by decide +kernel), by decide +kernel⟩
theorem tw_658 : Cond.instanceMethod yX10_cutNumber ∈ wT := List.mem_filter.mpr ⟨List.mem_of_getElem? (i := 658) (by decide +kernel), by decide +kernel⟩
theorem tw_659 : Cond.code yX10_cutNumber cX10_cutNumber 4 (some .int) ∈ wT := List.mem_filter.mpr ⟨List.mem_of_getElem? (i := 659) (by decide +kernel), by decide +kernel⟩
theorem tw_661 : Cond.methodLink RX10 67 yJ0_indexOf_0f7a4 ∈ wT := List.mem_filter.mpr ⟨List.mem_of_getElem? (i := 661) (by decide +kernel), by decide +kernel⟩
theorem tw_662 : Cond.instanceMethod yJ0_indexOf_0f7a4 ∈ wT := List.mem_filter.mpr ⟨List.mem_of_getElem? (i := 662) (by decide +kernel), by decide +kernel⟩
theorem tw_663 : Cond.selects (yJ0_indexOf_0f7a4).cls yJ0_indexOf_0f7a4 yJ0_indexOf_0f7a4 ∈ wT := List.mem_filter.mpr ⟨List.mem_of_getElem? (i := 663) (by decide +kernel), by decide +kernel⟩
theorem tw_664 : Cond.code yJ0_indexOf_0f7a4 cJ0_indexOf_0f7a4 2 (some .int) ∈ wT := List.mem_filter.mpr ⟨List.mem_of_getElem? (i := 664) (by decide +kernel), by decide +kernel⟩
theorem tw_665 : Cond.methodLink RJ0 633 yJ0_indexOf_7cf53 ∈ wT := List.mem_filter.mpr ⟨List.mem_of_getElem? (i := 665) (by decide +kernel), by decide +kernel⟩
theorem tw_666 : Cond.instanceMethod yJ0_indexOf_7cf53 ∈ wT := List.mem_filter.mpr ⟨List.mem_of_getElem? (i := 666) (by decide +kernel), by decide +kernel⟩
theorem tw_667 : Cond.selects (yJ0_indexOf_7cf53).cls yJ0_indexOf_7cf53 yJ0_indexOf_7cf53 ∈ wT := List.mem_filter.mpr ⟨List.mem_of_getElem? (i := 667) (by decide +kernel), by decide +kernel⟩
theorem tw_668 : Cond.code yJ0_indexOf_7cf53 cJ0_indexOf_7cf53 3 (some .int) ∈ wT := List.mem_filter.mpr ⟨List.mem_of_getElem? (i := 668) (by decide +kernel), by decide +kernel⟩
theorem tw_669 : Cond.methodLink RJ0 505 yJ0_length_8abf5 ∈ wT := List.mem_filter.mpr ⟨List.mem_of_getElem? (i := 669) (by decide +kernel), by decide +kernel⟩
theorem tw_670 : Cond.methodLink RJ0 637 yJ1_indexOf_4cfef ∈ wT := List.mem_filter.mpr ⟨List.mem_of_getElem? (i := 670) (by decide +kernel), by decide +kernel⟩
theorem tw_671 : Cond.static yJ1_indexOf_4cfef ∈ wT := List.mem_filter.mpr ⟨List.mem_of_getElem? (i := 671) (by decide +kernel), by decide +kernel⟩
theorem tw_672 : Cond.code yJ1_indexOf_4cfef cJ1_indexOf_4cfef 4 (some .int) ∈ wT := List.mem_filter.mpr ⟨List.mem_of_getElem? (i := 672) (by decide +kernel), by decide +kernel⟩
theorem tw_673 : Cond.methodLink RJ1 88 yJ1_canEncode_9a6ad ∈ wT := List.mem_filter.mpr ⟨List.mem_of_getElem? (i := 673) (by decide +kernel), by decide +kernel⟩
theorem tw_674 : Cond.static yJ1_canEncode_9a6ad ∈ wT := List.mem_filter.mpr ⟨List.mem_of_getElem? (i := 674) (by decide +kernel), by decide +kernel⟩
theorem tw_675 : Cond.code yJ1_canEncode_9a6ad cJ1_canEncode_9a6ad 1 (some .boolean) ∈ wT := List.mem_filter.mpr ⟨List.mem_of_getElem? (i := 675) (by decide +kernel), by decide +kernel⟩
theorem tw_676 : Cond.methodLink RJ1 92 yJ9_max_7cf53 ∈ wT := List.mem_filter.mpr ⟨List.mem_of_getElem? (i := 676) (by decide +kernel), by decide +kernel⟩
theorem tw_677 : Cond.static yJ9_max_7cf53 ∈ wT := List.mem_filter.mpr ⟨List.mem_of_getElem? (i := 677) (by decide +kernel), by decide +kernel⟩
theorem tw_678 : Cond.code yJ9_max_7cf53 cJ9_max_7cf53 2 (some .int) ∈ wT := List.mem_filter.mpr ⟨List.mem_of_getElem? (i := 678) (by decide +kernel), by decide +kernel⟩
theorem tw_679 : Cond.methodLink RJ1 38 yJ9_min_7cf53 ∈ wT := List.mem_filter.mpr ⟨List.mem_of_getElem? (i := 679) (by decide +kernel), by decide +kernel⟩
theorem tw_680 : Cond.static yJ9_min_7cf53 ∈ wT := List.mem_filter.mpr ⟨List.mem_of_getElem? (i := 680) (by decide +kernel), by decide +kernel⟩
theorem tw_681 : Cond.code yJ9_min_7cf53 cJ9_min_7cf53 2 (some .int) ∈ wT := List.mem_filter.mpr ⟨List.mem_of_getElem? (i := 681) (by decide +kernel), by decide +kernel⟩
theorem tw_682 : Cond.methodLink RJ1 95 yJ1_indexOfChar_4cfef ∈ wT := List.mem_filter.mpr ⟨List.mem_of_getElem? (i := 682) (by decide +kernel), by decide +kernel⟩
theorem tw_683 : Cond.static yJ1_indexOfChar_4cfef ∈ wT := List.mem_filter.mpr ⟨List.mem_of_getElem? (i := 683) (by decide +kernel), by decide +kernel⟩
theorem tw_684 : Cond.code yJ1_indexOfChar_4cfef cJ1_indexOfChar_4cfef 6 (some .int) ∈ wT := List.mem_filter.mpr ⟨List.mem_of_getElem? (i := 684) (by decide +kernel), by decide +kernel⟩
theorem tw_720 : Cond.methodLink RX6 51 yX10_sortHere ∈ wT := List.mem_filter.mpr ⟨List.mem_of_getElem? (i := 720) (by decide +kernel), by decide +kernel⟩
theorem tw_721 : Cond.instanceMethod yX10_sortHere ∈ wT := List.mem_filter.mpr ⟨List.mem_of_getElem? (i := 721) (by decide +kernel), by decide +kernel⟩
theorem tw_722 : Cond.selects (yX10_sortHere).cls yX10_sortHere yX10_sortHere ∈ wT := List.mem_filter.mpr ⟨List.mem_of_getElem? (i := 722) (by decide +kernel), by decide +kernel⟩
theorem tw_723 : Cond.code yX10_sortHere cX10_sortHere 1 (some .int) ∈ wT := List.mem_filter.mpr ⟨List.mem_of_getElem? (i := 723) (by decide +kernel), by decide +kernel⟩
theorem tw_724 : Cond.methodLink RX6 55 yX6_readStatement ∈ wT := List.mem_filter.mpr ⟨List.mem_of_getElem? (i := 724) (by decide +kernel), by decide +kernel⟩
theorem tw_726 : Cond.instanceMethod yX6_readStatement ∈ wT := List.mem_filter.mpr ⟨List.mem_of_getElem? (i := 726) (by decide +kernel), by decide +kernel⟩
theorem tw_727 : Cond.code yX6_readStatement cX6_readStatement 2 none ∈ wT := List.mem_filter.mpr ⟨List.mem_of_getElem? (i := 727) (by decide +kernel), by decide +kernel⟩
theorem tw_728 : Cond.methodLink RX6 96 yX6_ownHere ∈ wT := List.mem_filter.mpr ⟨List.mem_of_getElem? (i := 728) (by decide +kernel), by decide +kernel⟩
theorem tw_730 : Cond.instanceMethod yX6_ownHere ∈ wT := List.mem_filter.mpr ⟨List.mem_of_getElem? (i := 730) (by decide +kernel), by decide +kernel⟩
theorem tw_731 : Cond.code yX6_ownHere cX6_ownHere 1 (some .int) ∈ wT := List.mem_filter.mpr ⟨List.mem_of_getElem? (i := 731) (by decide +kernel), by decide +kernel⟩
theorem tw_732 : Cond.methodLink RX6 78 yX10_valueHere ∈ wT := List.mem_filter.mpr ⟨List.mem_of_getElem? (i := 732) (by decide +kernel), by decide +kernel⟩
theorem tw_733 : Cond.instanceMethod yX10_valueHere ∈ wT := List.mem_filter.mpr ⟨List.mem_of_getElem? (i := 733) (by decide +kernel), by decide +kernel⟩
theorem tw_734 : Cond.selects (yX10_valueHere).cls yX10_valueHere yX10_valueHere ∈ wT := List.mem_filter.mpr ⟨List.mem_of_getElem? (i := 734) (by decide +kernel), by decide +kernel⟩
theorem tw_735 : Cond.code yX10_valueHere cX10_valueHere 1 (some .int) ∈ wT := List.mem_filter.mpr ⟨List.mem_of_getElem? (i := 735) (by decide +kernel), by decide +kernel⟩
theorem tw_736 : Cond.methodLink RX6 92 yX6_fail ∈ wT := List.mem_filter.mpr ⟨List.mem_of_getElem? (i := 736) (by decide +kernel), by decide +kernel⟩
theorem tw_738 : Cond.instanceMethod yX6_fail ∈ wT := List.mem_filter.mpr ⟨List.mem_of_getElem? (i := 738) (by decide +kernel), by decide +kernel⟩
theorem tw_739 : Cond.code yX6_fail cX6_fail 2 none ∈ wT := List.mem_filter.mpr ⟨List.mem_of_getElem? (i := 739) (by decide +kernel), by decide +kernel⟩
theorem tw_740 : Cond.methodLink RX6 58 yX10_beginHere ∈ wT := List.mem_filter.mpr ⟨List.mem_of_getElem? (i := 740) (by decide +kernel), by decide +kernel⟩
theorem tw_741 : Cond.instanceMethod yX10_beginHere ∈ wT := List.mem_filter.mpr ⟨List.mem_of_getElem? (i := 741) (by decide +kernel), by decide +kernel⟩
theorem tw_742 : Cond.selects (yX10_beginHere).cls yX10_beginHere yX10_beginHere ∈ wT := List.mem_filter.mpr ⟨List.mem_of_getElem? (i := 742) (by decide +kernel), by decide +kernel⟩
theorem tw_743 : Cond.code yX10_beginHere cX10_beginHere 1 (some .int) ∈ wT := List.mem_filter.mpr ⟨List.mem_of_getElem? (i := 743) (by decide +kernel), by decide +kernel⟩
theorem tw_744 : Cond.methodLink RX6 61 yX10_placeHere ∈ wT := List.mem_filter.mpr ⟨List.mem_of_getElem? (i := 744) (by decide +kernel), by decide +kernel⟩
theorem tw_745 : Cond.instanceMethod yX10_placeHere ∈ wT := List.mem_filter.mpr ⟨List.mem_of_getElem? (i := 745) (by decide +kernel), by decide +kernel⟩
theorem tw_746 : Cond.selects (yX10_placeHere).cls yX10_placeHere yX10_placeHere ∈ wT := List.mem_filter.mpr ⟨List.mem_of_getElem? (i := 746) (by decide +kernel), by decide +kernel⟩
theorem tw_747 : Cond.code yX10_placeHere cX10_placeHere 1 (some .int) ∈ wT := List.mem_filter.mpr ⟨List.mem_of_getElem? (i := 747) (by decide +kernel), by decide +kernel⟩
theorem tw_748 : Cond.methodLink RX6 64 yX10_stop ∈ wT := List.mem_filter.mpr ⟨List.mem_of_getElem? (i := 748) (by decide +kernel), by decide +kernel⟩
theorem tw_749 : Cond.instanceMethod yX10_stop ∈ wT := List.mem_filter.mpr ⟨List.mem_of_getElem? (i := 749) (by decide +kernel), by decide +kernel⟩
theorem tw_750 : Cond.selects (yX10_stop).cls yX10_stop yX10_stop ∈ wT := List.mem_filter.mpr ⟨List.mem_of_getElem? (i := 750) (by decide +kernel), by decide +kernel⟩
theorem tw_751 : Cond.code yX10_stop cX10_stop 1 none ∈ wT := List.mem_filter.mpr ⟨List.mem_of_getElem? (i := 751) (by decide +kernel), by decide +kernel⟩
theorem tw_752 : Cond.methodLink RX6 99 yX6_isFull ∈ wT := List.mem_filter.mpr ⟨List.mem_of_getElem? (i := 752) (by decide +kernel), by decide +kernel⟩
theorem tw_754 : Cond.instanceMethod yX6_isFull ∈ wT := List.mem_filter.mpr ⟨List.mem_of_getElem? (i := 754) (by decide +kernel), by decide +kernel⟩
theorem tw_755 : Cond.code yX6_isFull cX6_isFull 2 (some .boolean) ∈ wT := List.mem_filter.mpr ⟨List.mem_of_getElem? (i := 755) (by decide +kernel), by decide +kernel⟩
theorem tw_756 : Cond.methodLink RX6 136 yX3_hasCode ∈ wT := List.mem_filter.mpr ⟨List.mem_of_getElem? (i := 756) (by decide +kernel), by decide +kernel⟩
theorem tw_757 : Cond.instanceMethod yX3_hasCode ∈ wT := List.mem_filter.mpr ⟨List.mem_of_getElem? (i := 757) (by decide +kernel), by decide +kernel⟩
theorem tw_758 : Cond.selects (yX3_hasCode).cls yX3_hasCode yX3_hasCode ∈ wT := List.mem_filter.mpr ⟨List.mem_of_getElem? (i := 758) (by decide +kernel), by decide +kernel⟩
theorem tw_759 : Cond.code yX3_hasCode cX3_hasCode 2 (some .boolean) ∈ wT := List.mem_filter.mpr ⟨List.mem_of_getElem? (i := 759) (by decide +kernel), by decide +kernel⟩
theorem tw_760 : Cond.methodLink RX6 89 yX10_step ∈ wT := List.mem_filter.mpr ⟨List.mem_of_getElem? (i := 760) (by decide +kernel), by decide +kernel⟩
theorem tw_761 : Cond.instanceMethod yX10_step ∈ wT := List.mem_filter.mpr ⟨List.mem_of_getElem? (i := 761) (by decide +kernel), by decide +kernel⟩
theorem tw_762 : Cond.selects (yX10_step).cls yX10_step yX10_step ∈ wT := List.mem_filter.mpr ⟨List.mem_of_getElem? (i := 762) (by decide +kernel), by decide +kernel⟩
theorem tw_763 : Cond.code yX10_step cX10_step 1 none ∈ wT := List.mem_filter.mpr ⟨List.mem_of_getElem? (i := 763) (by decide +kernel), by decide +kernel⟩
theorem tw_764 : Cond.methodLink RX6 103 yX6_readOne ∈ wT := List.mem_filter.mpr ⟨List.mem_of_getElem? (i := 764) (by decide +kernel), by decide +kernel⟩
theorem tw_766 : Cond.instanceMethod yX6_readOne ∈ wT := List.mem_filter.mpr ⟨List.mem_of_getElem? (i := 766) (by decide +kernel), by decide +kernel⟩
theorem tw_767 : Cond.code yX6_readOne cX6_readOne 4 none ∈ wT := List.mem_filter.mpr ⟨List.mem_of_getElem? (i := 767) (by decide +kernel), by decide +kernel⟩
theorem tw_768 : Cond.methodLink RX6 139 yX6_isName ∈ wT := List.mem_filter.mpr ⟨List.mem_of_getElem? (i := 768) (by decide +kernel), by decide +kernel⟩
theorem tw_770 : Cond.instanceMethod yX6_isName ∈ wT := List.mem_filter.mpr ⟨List.mem_of_getElem? (i := 770) (by decide +kernel), by decide +kernel⟩
theorem tw_771 : Cond.code yX6_isName cX6_isName 1 (some .boolean) ∈ wT := List.mem_filter.mpr ⟨List.mem_of_getElem? (i := 771) (by decide +kernel), by decide +kernel⟩
theorem tw_772 : Cond.methodLink RX6 143 yX6_isTaken ∈ wT := List.mem_filter.mpr ⟨List.mem_of_getElem? (i := 772) (by decide +kernel), by decide +kernel⟩
theorem tw_774 : Cond.instanceMethod yX6_isTaken ∈ wT := List.mem_filter.mpr ⟨List.mem_of_getElem? (i := 774) (by decide +kernel), by decide +kernel⟩
theorem tw_775 : Cond.code yX6_isTaken cX6_isTaken 2 (some .boolean) ∈ wT := List.mem_filter.mpr ⟨List.mem_of_getElem? (i := 775) (by decide +kernel), by decide +kernel⟩
theorem tw_776 : Cond.methodLink RX6 174 yX3_find ∈ wT := List.mem_filter.mpr ⟨List.mem_of_getElem? (i := 776) (by decide +kernel), by decide +kernel⟩
theorem tw_777 : Cond.instanceMethod yX3_find ∈ wT := List.mem_filter.mpr ⟨List.mem_of_getElem? (i := 777) (by decide +kernel), by decide +kernel⟩
theorem tw_778 : Cond.selects (yX3_find).cls yX3_find yX3_find ∈ wT := List.mem_filter.mpr ⟨List.mem_of_getElem? (i := 778) (by decide +kernel), by decide +kernel⟩
theorem tw_779 : Cond.code yX3_find cX3_find 4 (some .int) ∈ wT := List.mem_filter.mpr ⟨List.mem_of_getElem? (i := 779) (by decide +kernel), by decide +kernel⟩
theorem tw_780 : Cond.methodLink RX6 152 yX6_takeTrait ∈ wT := List.mem_filter.mpr ⟨List.mem_of_getElem? (i := 780) (by decide +kernel), by decide +kernel⟩
theorem tw_782 : Cond.instanceMethod yX6_takeTrait ∈ wT := List.mem_filter.mpr ⟨List.mem_of_getElem? (i := 782) (by decide +kernel), by decide +kernel⟩
theorem tw_783 : Cond.code yX6_takeTrait cX6_takeTrait 3 (some .int) ∈ wT := List.mem_filter.mpr ⟨List.mem_of_getElem? (i := 783) (by decide +kernel), by decide +kernel⟩
theorem tw_784 : Cond.methodLink RX6 156 yX6_isOwn ∈ wT := List.mem_filter.mpr ⟨List.mem_of_getElem? (i := 784) (by decide +kernel), by decide +kernel⟩
theorem tw_786 : Cond.instanceMethod yX6_isOwn ∈ wT := List.mem_filter.mpr ⟨List.mem_of_getElem? (i := 786) (by decide +kernel), by decide +kernel⟩
theorem tw_787 : Cond.code yX6_isOwn cX6_isOwn 2 (some .boolean) ∈ wT := List.mem_filter.mpr ⟨List.mem_of_getElem? (i := 787) (by decide +kernel), by decide +kernel⟩
theorem tw_788 : Cond.methodLink RX6 81 yX10_isHere ∈ wT := List.mem_filter.mpr ⟨List.mem_of_getElem? (i := 788) (by decide +kernel), by decide +kernel⟩
theorem tw_789 : Cond.instanceMethod yX10_isHere ∈ wT := List.mem_filter.mpr ⟨List.mem_of_getElem? (i := 789) (by decide +kernel), by decide +kernel⟩
theorem tw_790 : Cond.selects (yX10_isHere).cls yX10_isHere yX10_isHere ∈ wT := List.mem_filter.mpr ⟨List.mem_of_getElem? (i := 790) (by decide +kernel), by decide +kernel⟩
theorem tw_791 : Cond.code yX10_isHere cX10_isHere 3 (some .boolean) ∈ wT := List.mem_filter.mpr ⟨List.mem_of_getElem? (i := 791) (by decide +kernel), by decide +kernel⟩
theorem tw_792 : Cond.methodLink RX6 115 yX6_takeUpTo ∈ wT := List.mem_filter.mpr ⟨List.mem_of_getElem? (i := 792) (by decide +kernel), by decide +kernel⟩
theorem tw_794 : Cond.instanceMethod yX6_takeUpTo ∈ wT := List.mem_filter.mpr ⟨List.mem_of_getElem? (i := 794) (by decide +kernel), by decide +kernel⟩
theorem tw_795 : Cond.code yX6_takeUpTo cX6_takeUpTo 3 (some .int) ∈ wT := List.mem_filter.mpr ⟨List.mem_of_getElem? (i := 795) (by decide +kernel), by decide +kernel⟩
theorem tw_796 : Cond.methodLink RX6 106 yX6_readLate ∈ wT := List.mem_filter.mpr ⟨List.mem_of_getElem? (i := 796) (by decide +kernel), by decide +kernel⟩
theorem tw_798 : Cond.instanceMethod yX6_readLate ∈ wT := List.mem_filter.mpr ⟨List.mem_of_getElem? (i := 798) (by decide +kernel), by decide +kernel⟩
theorem tw_799 : Cond.code yX6_readLate cX6_readLate 2 none ∈ wT := List.mem_filter.mpr ⟨List.mem_of_getElem? (i := 799) (by decide +kernel), by decide +kernel⟩
theorem tw_800 : Cond.methodLink RX6 159 yX6_findNamed ∈ wT := List.mem_filter.mpr ⟨List.mem_of_getElem? (i := 800) (by decide +kernel), by decide +kernel⟩
theorem tw_802 : Cond.instanceMethod yX6_findNamed ∈ wT := List.mem_filter.mpr ⟨List.mem_of_getElem? (i := 802) (by decide +kernel), by decide +kernel⟩
theorem tw_803 : Cond.code yX6_findNamed cX6_findNamed 3 (some .int) ∈ wT := List.mem_filter.mpr ⟨List.mem_of_getElem? (i := 803) (by decide +kernel), by decide +kernel⟩
theorem tw_804 : Cond.methodLink RX6 162 yX3_isLate ∈ wT := List.mem_filter.mpr ⟨List.mem_of_getElem? (i := 804) (by decide +kernel), by decide +kernel⟩
theorem tw_805 : Cond.instanceMethod yX3_isLate ∈ wT := List.mem_filter.mpr ⟨List.mem_of_getElem? (i := 805) (by decide +kernel), by decide +kernel⟩
theorem tw_806 : Cond.selects (yX3_isLate).cls yX3_isLate yX3_isLate ∈ wT := List.mem_filter.mpr ⟨List.mem_of_getElem? (i := 806) (by decide +kernel), by decide +kernel⟩
