theorem tw_573 : Cond.code yX6_read cX6_read 3 (some .int) ∈ wT := List.mem_filter.mpr ⟨List.mem_of_getElem? (i := 573) (by decide +kernel), by decide +kernel⟩
theorem tw_574 : Cond.methodLink RX6 42 yX3_empty ∈ wT := List.mem_filter.mpr ⟨List.mem_of_getElem? (i := 574) (by decide +kernel), by decide +kernel⟩
theorem tw_575 : Cond.methodLink RX6 47 yX10_cut ∈ wT := List.mem_filter.mpr ⟨List.mem_of_getElem? (i := 575) (by decide +kernel), by decide +kernel⟩
theorem tw_576 : Cond.instanceMethod yX10_cut ∈ wT := List.mem_filter.mpr ⟨List.mem_of_getElem? (i := 576) (by decide +kernel), by decide +kernel⟩
theorem tw_577 : Cond.selects (yX10_cut).cls yX10_cut yX10_cut ∈ wT := List.mem_filter.mpr ⟨List.mem_of_getElem? (i := 577) (by decide +kernel), by decide +kernel⟩
theorem tw_578 : Cond.code yX10_cut cX10_cut 6 none ∈ wT := List.mem_filter.mpr ⟨List.mem_of_getElem? (i := 578) (by decide +kernel), by decide +kernel⟩
theorem tw_579 : Cond.methodLink RX10 36 yX9_byteAt ∈ wT := List.mem_filter.mpr ⟨List.mem_of_getElem? (i := 579) (by decide +kernel), by decide +kernel⟩
theorem tw_580 : Cond.instanceMethod yX9_byteAt ∈ wT := List.mem_filter.mpr ⟨List.mem_of_getElem? (i := 580) (by decide +kernel), by decide +kernel⟩
theorem tw_581 : Cond.selects (yX9_byteAt).cls yX9_byteAt yX9_byteAt ∈ wT := List.mem_filter.mpr ⟨List.mem_of_getElem? (i := 581) (by decide +kernel), by decide +kernel⟩
theorem tw_582 : Cond.code yX9_byteAt cX9_byteAt 2 (some .int) ∈ wT := List.mem_filter.mpr ⟨List.mem_of_getElem? (i := 582) (by decide +kernel), by decide +kernel⟩
theorem tw_583 : Cond.methodLink RX10 40 yX10_isBlank ∈ wT := List.mem_filter.mpr ⟨List.mem_of_getElem? (i := 583) (by decide +kernel), by decide +kernel⟩
theorem tw_584 : Cond.static yX10_isBlank ∈ wT := List.mem_filter.mpr ⟨List.mem_of_getElem? (i := 584) (by decide +kernel), by decide +kernel⟩
theorem tw_585 : Cond.code yX10_isBlank cX10_isBlank 1 (some .boolean) ∈ wT := List.mem_filter.mpr ⟨List.mem_of_getElem? (i := 585) (by decide +kernel), by decide +kernel⟩
theorem tw_586 : Cond.methodLink RX10 44 yX10_cutOne ∈ wT := List.mem_filter.mpr ⟨List.mem_of_getElem? (i := 586) (by decide +kernel), by decide +kernel⟩
theorem tw_588 : Cond.instanceMethod yX10_cutOne ∈ wT := List.mem_filter.mpr ⟨List.mem_of_getElem? (i := 588) (by decide +kernel), by decide +kernel⟩
theorem tw_589 : Cond.code yX10_cutOne cX10_cutOne 4 (some .int) ∈ wT := List.mem_filter.mpr ⟨List.mem_of_getElem? (i := 589) (by decide +kernel), by decide +kernel⟩
theorem tw_590 : Cond.methodLink RX10 48 yX10_add ∈ wT := List.mem_filter.mpr ⟨List.mem_of_getElem? (i := 590) (by decide +kernel), by decide +kernel⟩
theorem tw_592 : Cond.instanceMethod yX10_add ∈ wT := List.mem_filter.mpr ⟨List.mem_of_getElem? (i := 592) (by decide +kernel), by decide +kernel⟩
theorem tw_593 : Cond.code yX10_add cX10_add 4 (some .int) ∈ wT := List.mem_filter.mpr ⟨List.mem_of_getElem? (i := 593) (by decide +kernel), by decide +kernel⟩
theorem tw_594 : Cond.methodLink RX10 52 yX10_isLetter ∈ wT := List.mem_filter.mpr ⟨List.mem_of_getElem? (i := 594) (by decide +kernel), by decide +kernel⟩
theorem tw_595 : Cond.static yX10_isLetter ∈ wT := List.mem_filter.mpr ⟨List.mem_of_getElem? (i := 595) (by decide +kernel), by decide +kernel⟩
theorem tw_596 : Cond.code yX10_isLetter cX10_isLetter 1 (some .boolean) ∈ wT := List.mem_filter.mpr ⟨List.mem_of_getElem? (i := 596) (by decide +kernel), by decide +kernel⟩
theorem tw_597 : Cond.methodLink RX10 55 yX10_cutWord ∈ wT := List.mem_filter.mpr ⟨List.mem_of_getElem? (i := 597) (by decide +kernel), by decide +kernel⟩
theorem tw_599 : Cond.instanceMethod yX10_cutWord ∈ wT := List.mem_filter.mpr ⟨List.mem_of_getElem? (i := 599) (by decide +kernel), by decide +kernel⟩
theorem tw_600 : Cond.code yX10_cutWord cX10_cutWord 5 (some .int) ∈ wT := List.mem_filter.mpr ⟨List.mem_of_getElem? (i := 600) (by decide +kernel), by decide +kernel⟩
theorem tw_601 : Cond.methodLink RX10 72 yX6_ownNumber ∈ wT := List.mem_filter.mpr ⟨List.mem_of_getElem? (i := 601) (by decide +kernel), by decide +kernel⟩
theorem tw_602 : Cond.static yX6_ownNumber ∈ wT := List.mem_filter.mpr ⟨List.mem_of_getElem? (i := 602) (by decide +kernel), by decide +kernel⟩
theorem tw_603 : Cond.code yX6_ownNumber cX6_ownNumber 5 (some .int) ∈ wT := List.mem_filter.mpr ⟨List.mem_of_getElem? (i := 603) (by decide +kernel), by decide +kernel⟩
theorem tw_605 : Cond.methodLink RX6 69 yJ0_length_8abf5 ∈ wT := List.mem_filter.mpr ⟨List.mem_of_getElem? (i := 605) (by decide +kernel), by decide +kernel⟩
theorem tw_606 : Cond.instanceMethod yJ0_length_8abf5 ∈ wT := List.mem_filter.mpr ⟨List.mem_of_getElem? (i := 606) (by decide +kernel), by decide +kernel⟩
theorem tw_607 : Cond.selects (yJ0_length_8abf5).cls yJ0_length_8abf5 yJ0_length_8abf5 ∈ wT := List.mem_filter.mpr ⟨List.mem_of_getElem? (i := 607) (by decide +kernel), by decide +kernel⟩
theorem tw_608 : Cond.code yJ0_length_8abf5 cJ0_length_8abf5 1 (some .int) ∈ wT := List.mem_filter.mpr ⟨List.mem_of_getElem? (i := 608) (by decide +kernel), by decide +kernel⟩
theorem tw_609 : Cond.methodLink RJ0 335 yJ0_coder_7d493 ∈ wT := List.mem_filter.mpr ⟨List.mem_of_getElem? (i := 609) (by decide +kernel), by decide +kernel⟩
theorem tw_610 : Cond.instanceMethod yJ0_coder_7d493 ∈ wT := List.mem_filter.mpr ⟨List.mem_of_getElem? (i := 610) (by decide +kernel), by decide +kernel⟩
theorem tw_611 : Cond.selects (yJ0_coder_7d493).cls yJ0_coder_7d493 yJ0_coder_7d493 ∈ wT := List.mem_filter.mpr ⟨List.mem_of_getElem? (i := 611) (by decide +kernel), by decide +kernel⟩
theorem tw_612 : Cond.code yJ0_coder_7d493 cJ0_coder_7d493 1 (some .byte) ∈ wT := List.mem_filter.mpr ⟨List.mem_of_getElem? (i := 612) (by decide +kernel), by decide +kernel⟩
theorem tw_613 : Cond.fieldLink RJ0 38 "java/lang/String" "COMPACT_STRINGS" "Z" ∈ wT := List.mem_filter.mpr ⟨List.mem_of_getElem? (i := 613) (by decide +kernel), by decide +kernel⟩
theorem tw_615 : Cond.methodLink RX6 74 yJ0_charAt_5068e ∈ wT := List.mem_filter.mpr ⟨List.mem_of_getElem? (i := 615) (by decide +kernel), by decide +kernel⟩
theorem tw_616 : Cond.instanceMethod yJ0_charAt_5068e ∈ wT := List.mem_filter.mpr ⟨List.mem_of_getElem? (i := 616) (by decide +kernel), by decide +kernel⟩
theorem tw_617 : Cond.selects (yJ0_charAt_5068e).cls yJ0_charAt_5068e yJ0_charAt_5068e ∈ wT := List.mem_filter.mpr ⟨List.mem_of_getElem? (i := 617) (by decide +kernel), by decide +kernel⟩
theorem tw_618 : Cond.code yJ0_charAt_5068e cJ0_charAt_5068e 2 (some .char) ∈ wT := List.mem_filter.mpr ⟨List.mem_of_getElem? (i := 618) (by decide +kernel), by decide +kernel⟩
theorem tw_619 : Cond.methodLink RJ0 492 yJ0_isLatin1_aae02 ∈ wT := List.mem_filter.mpr ⟨List.mem_of_getElem? (i := 619) (by decide +kernel), by decide +kernel⟩
theorem tw_620 : Cond.instanceMethod yJ0_isLatin1_aae02 ∈ wT := List.mem_filter.mpr ⟨List.mem_of_getElem? (i := 620) (by decide +kernel), by decide +kernel⟩
theorem tw_621 : Cond.selects (yJ0_isLatin1_aae02).cls yJ0_isLatin1_aae02 yJ0_isLatin1_aae02 ∈ wT := List.mem_filter.mpr ⟨List.mem_of_getElem? (i := 621) (by decide +kernel), by decide +kernel⟩
theorem tw_622 : Cond.code yJ0_isLatin1_aae02 cJ0_isLatin1_aae02 1 (some .boolean) ∈ wT := List.mem_filter.mpr ⟨List.mem_of_getElem? (i := 622) (by decide +kernel), by decide +kernel⟩
theorem tw_623 : Cond.methodLink RJ0 495 yJ1_charAt_3b067 ∈ wT := List.mem_filter.mpr ⟨List.mem_of_getElem? (i := 623) (by decide +kernel), by decide +kernel⟩
theorem tw_624 : Cond.static yJ1_charAt_3b067 ∈ wT := List.mem_filter.mpr ⟨List.mem_of_getElem? (i := 624) (by decide +kernel), by decide +kernel⟩
theorem tw_625 : Cond.code yJ1_charAt_3b067 cJ1_charAt_3b067 2 (some .char) ∈ wT := List.mem_filter.mpr ⟨List.mem_of_getElem? (i := 625) (by decide +kernel), by decide +kernel⟩
theorem tw_626 : Cond.methodLink RJ1 9 yJ0_checkIndex_df160 ∈ wT := List.mem_filter.mpr ⟨List.mem_of_getElem? (i := 626) (by decide +kernel), by decide +kernel⟩
theorem tw_627 : Cond.static yJ0_checkIndex_df160 ∈ wT := List.mem_filter.mpr ⟨List.mem_of_getElem? (i := 627) (by decide +kernel), by decide +kernel⟩
theorem tw_628 : Cond.code yJ0_checkIndex_df160 cJ0_checkIndex_df160 2 none ∈ wT := List.mem_filter.mpr ⟨List.mem_of_getElem? (i := 628) (by decide +kernel), by decide +kernel⟩
theorem tw_629 : Cond.fieldLink RJ0 1053 "jdk/internal/util/Preconditions" "SIOOBE_FORMATTER" "Ljava/util/function/BiFunction;" ∈ wT := List.mem_filter.mpr ⟨List.mem_of_getElem? (i := 629) (by decide +kernel), by decide +kernel⟩
theorem tw_631 : Cond.methodLink RJ0 1059 yJ3_checkIndex_8e157 ∈ wT := List.mem_filter.mpr ⟨List.mem_of_getElem? (i := 631) (by decide +kernel), by decide +kernel⟩
theorem tw_632 : Cond.static yJ3_checkIndex_8e157 ∈ wT := List.mem_filter.mpr ⟨List.mem_of_getElem? (i := 632) (by decide +kernel), by decide +kernel⟩
theorem tw_633 : Cond.code yJ3_checkIndex_8e157 cJ3_checkIndex_8e157 3 (some .int) ∈ wT := List.mem_filter.mpr ⟨List.mem_of_getElem? (i := 633) (by decide +kernel), by decide +kernel⟩
theorem tw_653 : Cond.methodLink RX10 59 yX10_isDigit ∈ wT := List.mem_filter.mpr ⟨List.mem_of_getElem? (i := 653) (by decide +kernel), by decide +kernel⟩
theorem tw_654 : Cond.static yX10_isDigit ∈ wT := List.mem_filter.mpr ⟨List.mem_of_getElem? (i := 654) (by decide +kernel), by decide +kernel⟩
theorem tw_655 : Cond.code yX10_isDigit cX10_isDigit 1 (some .boolean) ∈ wT := List.mem_filter.mpr ⟨List.mem_of_getElem? (i := 655) (by decide +kernel), by decide +kernel⟩
theorem tw_656 : Cond.methodLink RX10 62 yX10_cutNumber ∈ wT := List.mem_filter.mpr ⟨List.mem_of_getElem? (i := 656) (by decide +kernel), by decide +kernel⟩
theorem tw_658 : Cond.instanceMethod yX10_cutNumber ∈ wT := List.mem_filter.mpr ⟨List.mem_of_getElem? (i := 658) (by decide +kernel), by decide +kernel⟩
theorem tw_659 : Cond.code yX10_cutNumber cX10_cutNumber 4 (some .int) ∈ wT := List.mem_filter.mpr ⟨List.mem_of_getElem? (i := 659) (by decide +kernel), by decide +kernel⟩
theorem tw_661 : Cond.methodLink RX10 67 yJ0_indexOf_0f7a4 ∈ wT := List.mem_filter.mpr ⟨List.mem_of_getElem? (i := 661) (by decide +kernel), by decide +kernel⟩
theorem tw_662 : Cond.instanceMethod yJ0_indexOf_0f7a4 ∈ wT := List.mem_filter.mpr ⟨List.mem_of_getElem? (i := 662) (by decide +kernel), by decide +kernel⟩
theorem tw_663 : Cond.selects (yJ0_indexOf_0f7a4).cls yJ0_indexOf_0f7a4 yJ0_indexOf_0f7a4 ∈ wT := List.mem_filter.mpr ⟨List.mem_of_getElem? (i := 663) (by decide +kernel), by decide +kernel⟩
theorem tw_664 : Cond.code yJ0_indexOf_0f7a4 cJ0_indexOf_0f7a4 2 (some .int) ∈ wT := List.mem_filter.mpr ⟨List.mem_of_getElem? (i := 664) (by decide +kernel), by decide +kernel⟩
theorem tw_665 : Cond.methodLink RJ0 633 yJ0_indexOf_7cf53 ∈ wT := List.mem_filter.mpr ⟨List.mem_of_getElem? (i := 665) (by decide +kernel), by decide +kernel⟩
theorem tw_666 : Cond.instanceMethod yJ0_indexOf_7cf53 ∈ wT := List.mem_filter.mpr ⟨List.mem_of_getElem? (i := 666) (by decide +kernel), by decide +kernel⟩
theorem tw_667 : Cond.selects (yJ0_indexOf_7cf53).cls yJ0_indexOf_7cf53 yJ0_indexOf_7cf53 ∈ wT := List.mem_filter.mpr ⟨List.mem_of_getElem? (i := 667) (by decide +kernel), by decide +kernel⟩
theorem tw_668 : Cond.code yJ0_indexOf_7cf53 cJ0_indexOf_7cf53 3 (some .int) ∈ wT := List.mem_filter.mpr ⟨List.mem_of_getElem? (i := 668) (by decide +kernel), by decide +kernel⟩
theorem tw_669 : Cond.methodLink RJ0 505 yJ0_length_8abf5 ∈ wT := List.mem_filter.mpr ⟨List.mem_of_getElem? (i := 669) (by decide +kernel), by decide +kernel⟩
theorem tw_670 : Cond.methodLink RJ0 637 yJ1_indexOf_4cfef ∈ wT := List.mem_filter.mpr ⟨List.mem_of_getElem? (i := 670) (by decide +kernel), by decide +kernel⟩
theorem tw_671 : Cond.static yJ1_indexOf_4cfef ∈ wT := List.mem_filter.mpr ⟨List.mem_of_getElem? (i := 671) (by decide +kernel), by decide +kernel⟩
theorem tw_672 : Cond.code yJ1_indexOf_4cfef cJ1_indexOf_4cfef 4 (some .int) ∈ wT := List.mem_filter.mpr ⟨List.mem_of_getElem? (i := 672) (by decide +kernel), by decide +kernel⟩
theorem tw_673 : Cond.methodLink RJ1 88 yJ1_canEncode_9a6ad ∈ wT := List.mem_filter.mpr ⟨List.mem_of_getElem? (i := 673) (by decide +kernel), by decide +kernel⟩
theorem tw_674 : Cond.static yJ1_canEncode_9a6ad ∈ wT := List.mem_filter.mpr ⟨List.mem_of_getElem? (i := 674) (by decide +kernel), by decide +kernel⟩
theorem tw_675 : Cond.code yJ1_canEncode_9a6ad cJ1_canEncode_9a6ad 1 (some .boolean) ∈ wT := List.mem_filter.mpr ⟨List.mem_of_getElem? (i := 675) (by decide +kernel), by decide +kernel⟩
theorem tw_676 : Cond.methodLink RJ1 92 yJ9_max_7cf53 ∈ wT := List.mem_filter.mpr ⟨List.mem_of_getElem? (i := 676) (by decide +kernel), by decide +kernel⟩
theorem tw_677 : Cond.static yJ9_max_7cf53 ∈ wT := List.mem_filter.mpr ⟨List.mem_of_getElem? (i := 677) (by decide +kernel), by decide +kernel⟩
theorem tw_678 : Cond.code yJ9_max_7cf53 cJ9_max_7cf53 2 (some .int) ∈ wT := List.mem_filter.mpr ⟨List.mem_of_getElem? (i := 678) (by decide +kernel), by decide +kernel⟩
theorem tw_679 : Cond.methodLink RJ1 38 yJ9_min_7cf53 ∈ wT := List.mem_filter.mpr ⟨List.mem_of_getElem? (i := 679) (by decide +kernel), by decide +kernel⟩
theorem tw_680 : Cond.static yJ9_min_7cf53 ∈ wT := List.mem_filter.mpr ⟨List.mem_of_getElem? (i := 680) (by decide +kernel), by decide +kernel⟩
theorem tw_681 : Cond.code yJ9_min_7cf53 cJ9_min_7cf53 2 (some .int) ∈ wT := List.mem_filter.mpr ⟨List.mem_of_getElem? (i := 681) (by decide +kernel), by decide +kernel⟩
theorem tw_682 : Cond.methodLink RJ1 95 yJ1_indexOfChar_4cfef ∈ wT := List.mem_filter.mpr ⟨List.mem_of_getElem? (i := 682) (by decide +kernel), by decide +kernel⟩
theorem tw_683 : Cond.static yJ1_indexOfChar_4cfef ∈ wT := List.mem_filter.mpr ⟨List.mem_of_getElem? (i := 683) (by decide +kernel), by decide +kernel⟩
theorem tw_684 : Cond.code yJ1_indexOfChar_4cfef cJ1_indexOfChar_4cfef 6 (some .int) ∈ wT := List.mem_filter.mpr ⟨List.mem_of_getElem? (i := 684) (by decide +kernel), by decide +kernel⟩
theorem tw_720 : Cond.methodLink RX6 51 yX10_sortHere ∈ wT := List.mem_filter.mpr ⟨List.mem_of_getElem? (i := 720) (by decide +kernel), by decide +kernel⟩
theorem tw_721 : Cond.instanceMethod yX10_sortHere ∈ wT := List.mem_filter.mpr ⟨List.mem_of_getElem? (i := 721) (by decide +kernel), by decide +kernel⟩
theorem tw_722 : Cond.selects (yX10_sortHere).cls yX10_sortHere yX10_sortHere ∈ wT := List.mem_filter.mpr ⟨List.mem_of_getElem? (i := 722) (by decide +kernel), by decide +kernel⟩
theorem tw_723 : Cond.code yX10_sortHere cX10_sortHere 1 (some .int) ∈ wT := List.mem_filter.mpr ⟨List.mem_of_getElem? (i := 723) (by decide +kernel), by decide +kernel⟩
theorem tw_724 : Cond.methodLink RX6 55 yX6_readStatement ∈ wT := List.mem_filter.mpr ⟨List.mem_of_getElem? (i := 724) (by decide +kernel), by decide +kernel⟩
theorem tw_726 : Cond.instanceMethod yX6_readStatement ∈ wT := List.mem_filter.mpr ⟨List.mem_of_getElem? (i := 726) (by decide +kernel), by decide +kernel⟩
theorem tw_727 : Cond.code yX6_readStatement cX6_readStatement 2 none ∈ wT := List.mem_filter.mpr ⟨List.mem_of_getElem? (i := 727) (by decide +kernel), by decide +kernel⟩
theorem tw_728 : Cond.methodLink RX6 96 yX6_ownHere ∈ wT := List.mem_filter.mpr ⟨List.mem_of_getElem? (i := 728) (by decide +kernel), by decide +kernel⟩
theorem tw_730 : Cond.instanceMethod yX6_ownHere ∈ wT := List.mem_filter.mpr ⟨List.mem_of_getElem? (i := 730) (by decide +kernel), by decide +kernel⟩
theorem tw_731 : Cond.code yX6_ownHere cX6_ownHere 1 (some .int) ∈ wT := List.mem_filter.mpr ⟨List.mem_of_getElem? (i := 731) (by decide +kernel), by decide +kernel⟩
theorem tw_732 : Cond.methodLink RX6 78 yX10_valueHere ∈ wT := List.mem_filter.mpr ⟨List.mem_of_getElem? (i := 732) (by decide +kernel), by decide +kernel⟩
theorem tw_733 : Cond.instanceMethod yX10_valueHere ∈ wT := List.mem_filter.mpr ⟨List.mem_of_getElem? (i := 733) (by decide +kernel), by decide +kernel⟩
theorem tw_734 : Cond.selects (yX10_valueHere).cls yX10_valueHere yX10_valueHere ∈ wT := List.mem_filter.mpr ⟨List.mem_of_getElem? (i := 734) (by decide +kernel), by decide +kernel⟩
theorem tw_735 : Cond.code yX10_valueHere cX10_valueHere 1 (some .int) ∈ wT := List.mem_filter.mpr ⟨List.mem_of_getElem? (i := 735) (by decide +kernel), by decide +kernel⟩
theorem tw_736 : Cond.methodLink RX6 92 yX6_fail ∈ wT := List.mem_filter.mpr ⟨List.mem_of_getElem? (i := 736) (by decide +kernel), by decide +kernel⟩
theorem tw_738 : Cond.instanceMethod yX6_fail ∈ wT := List.mem_filter.mpr ⟨List.mem_of_getElem? (i := 738) (by decide +kernel), by decide +kernel⟩
theorem tw_739 : Cond.code yX6_fail cX6_fail 2 none ∈ wT := List.mem_filter.mpr ⟨List.mem_of_getElem? (i := 739) (by decide +kernel), by decide +kernel⟩
theorem tw_740 : Cond.methodLink RX6 58 yX10_beginHere ∈ wT := List.mem_filter.mpr ⟨List.mem_of_getElem? (i := 740) (by decide +kernel), by decide +kernel⟩
theorem tw_741 : Cond.instanceMethod yX10_beginHere ∈ wT := List.mem_filter.mpr ⟨List.mem_of_getElem? (i := 741) (by decide +kernel), by decide +kernel⟩
theorem tw_742 : Cond.selects (yX10_beginHere).cls yX10_beginHere yX10_beginHere ∈ wT := List.mem_filter.mpr ⟨List.mem_of_getElem? (i := 742) (by decide +kernel), by decide +kernel⟩
theorem tw_743 : Cond.code yX10_beginHere cX10_beginHere 1 (some .int) ∈ wT := List.mem_filter.mpr ⟨List.mem_of_getElem? (i := 743) (by decide +kernel), by decide +kernel⟩
theorem tw_744 : Cond.methodLink RX6 61 yX10_placeHere ∈ wT := List.mem_filter.mpr ⟨List.mem_of_getElem? (i := 744) (by decide +kernel), by decide +kernel⟩
theorem tw_745 : Cond.instanceMethod yX10_placeHere ∈ wT := List.mem_filter.mpr ⟨List.mem_of_getElem? (i := 745) (by decide +kernel), by decide +kernel⟩
theorem tw_746 : Cond.selects (yX10_placeHere).cls yX10_placeHere yX10_placeHere ∈ wT := List.mem_filter.mpr ⟨List.mem_of_getElem? (i := 746) (by decide +kernel), by decide +kernel⟩
theorem tw_747 : Cond.code yX10_placeHere cX10_placeHere 1 (some .int) ∈ wT := List.mem_filter.mpr ⟨List.mem_of_getElem? (i := 747) (by decide +kernel), by decide +kernel⟩
theorem tw_748 : Cond.methodLink RX6 64 yX10_stop ∈ wT := List.mem_filter.mpr ⟨List.mem_of_getElem? (i := 748) (by decide +kernel), by decide +kernel⟩
theorem tw_749 : Cond.instanceMethod yX10_stop ∈ wT := List.mem_filter.mpr ⟨List.mem_of_getElem? (i := 749) (by decide +kernel), by decide +kernel⟩
theorem tw_750 : Cond.selects (yX10_stop).cls yX10_stop yX10_stop ∈ wT := List.mem_filter.mpr ⟨List.mem_of_getElem? (i := 750) (by decide +kernel), by decide +kernel⟩
theorem tw_751 : Cond.code yX10_stop cX10_stop 1 none ∈ wT := List.mem_filter.mpr ⟨List.mem_of_getElem? (i := 751) (by decide +kernel), by decide +kernel⟩
theorem tw_752 : Cond.methodLink RX6 99 yX6_isFull ∈ wT := List.mem_filter.mpr ⟨List.mem_of_getElem? (i := 752) (by decide +kernel), by decide +kernel⟩
theorem tw_754 : Cond.instanceMethod yX6_isFull ∈ wT := List.mem_filter.mpr ⟨List.mem_of_getElem? (i := 754) (by decide +kernel), by decide +kernel⟩
theorem tw_755 : Cond.code yX6_isFull cX6_isFull 2 (some .boolean) ∈ wT := List.mem_filter.mpr ⟨List.mem_of_getElem? (i := 755) (by decide +kernel), by decide +kernel⟩
theorem tw_756 : Cond.methodLink RX6 136 yX3_hasCode ∈ wT := List.mem_filter.mpr ⟨List.mem_of_getElem? (i := 756) (by decide +kernel), by decide +kernel⟩
theorem tw_757 : Cond.instanceMethod yX3_hasCode ∈ wT := List.mem_filter.mpr ⟨List.mem_of_getElem? (i := 757) (by decide +kernel), by decide +kernel⟩
theorem tw_758 : Cond.selects (yX3_hasCode).cls yX3_hasCode yX3_hasCode ∈ wT := List.mem_filter.mpr ⟨List.mem_of_getElem? (i := 758) (by decide +kernel), by decide +kernel⟩
theorem tw_759 : Cond.code yX3_hasCode cX3_hasCode 2 (some .boolean) ∈ wT := List.mem_filter.mpr ⟨List.mem_of_getElem? (i := 759) (by decide +kernel), by decide +kernel⟩
theorem tw_760 : Cond.methodLink RX6 89 yX10_step ∈ wT := List.mem_filter.mpr ⟨List.mem_of_getElem? (i := 760) (by decide +kernel), by decide +kernel⟩
theorem tw_761 : Cond.instanceMethod yX10_step ∈ wT := List.mem_filter.mpr ⟨List.mem_of_getElem? (i := 761) (by decide +kernel), by decide +kernel⟩
theorem tw_762 : Cond.selects (yX10_step).cls yX10_step yX10_step ∈ wT := List.mem_filter.mpr ⟨List.mem_of_getElem? (i := 762) (by decide +kernel), by decide +kernel⟩
theorem tw_763 : Cond.code yX10_step cX10_step 1 none ∈ wT := List.mem_filter.mpr ⟨List.mem_of_getElem? (i := 763) (by decide +kernel), by decide +kernel⟩
theorem tw_764 : Cond.methodLink RX6 103 yX6_readOne ∈ wT := List.mem_filter.mpr ⟨List.mem_of_getElem? (i := 764) (by decide +kernel), by decide +kernel⟩
theorem tw_766 : Cond.instanceMethod yX6_readOne ∈ wT := List.mem_filter.mpr ⟨List.mem_of_getElem? (i := 766) (by decide +kernel), by decide +kernel⟩
theorem tw_767 : Cond.code yX6_readOne cX6_readOne 4 none ∈ wT := List.mem_filter.mpr ⟨List.mem_of_getElem? (i := 767) (by decide +kernel), by decide +kernel⟩
theorem tw_768 : Cond.methodLink RX6 139 yX6_isName ∈ wT := List.mem_filter.mpr ⟨List.mem_of_getElem? (i := 768) (by decide +kernel), by decide +kernel⟩
theorem tw_770 : Cond.instanceMethod yX6_isName ∈ wT := List.mem_filter.mpr ⟨List.mem_of_getElem? (i := 770) (by decide +kernel), by decide +kernel⟩
theorem tw_771 : Cond.code yX6_isName cX6_isName 1 (some .boolean) ∈ wT := List.mem_filter.mpr ⟨List.mem_of_getElem? (i := 771) (by decide +kernel), by decide +kernel⟩
theorem tw_772 : Cond.methodLink RX6 143 yX6_isTaken ∈ wT := List.mem_filter.mpr ⟨List.mem_of_getElem? (i := 772) (by decide +kernel), by decide +kernel⟩
theorem tw_774 : Cond.instanceMethod yX6_isTaken ∈ wT := List.mem_filter.mpr ⟨List.mem_of_getElem? (i := 774) (by decide +kernel), by decide +kernel⟩
theorem tw_775 : Cond.code yX6_isTaken cX6_isTaken 2 (some .boolean) ∈ wT := List.mem_filter.mpr ⟨List.mem_of_getElem? (i := 775) (by decide +kernel), by decide +kernel⟩
theorem tw_776 : Cond.methodLink RX6 174 yX3_find ∈ wT := List.mem_filter.mpr ⟨List.mem_of_getElem? (i := 776) (by decide +kernel), by decide +kernel⟩
theorem tw_777 : Cond.instanceMethod yX3_find ∈ wT := List.mem_filter.mpr ⟨List.mem_of_getElem? (i := 777) (by decide +kernel), by decide +kernel⟩
theorem tw_778 : Cond.selects (yX3_find).cls yX3_find yX3_find ∈ wT := List.mem_filter.mpr ⟨List.mem_of_getElem? (i := 778) (by decide +kernel), by decide +kernel⟩
theorem tw_779 : Cond.code yX3_find cX3_find 4 (some .int) ∈ wT := List.mem_filter.mpr ⟨List.mem_of_getElem? (i := 779) (by decide +kernel), by decide +kernel⟩
theorem tw_780 : Cond.methodLink RX6 152 yX6_takeTrait ∈ wT := List.mem_filter.mpr ⟨List.mem_of_getElem? (i := 780) (by decide +kernel), by decide +kernel⟩
theorem tw_782 : Cond.instanceMethod yX6_takeTrait ∈ wT := List.mem_filter.mpr ⟨List.mem_of_getElem? (i := 782) (by decide +kernel), by decide +kernel⟩
theorem tw_783 : Cond.code yX6_takeTrait cX6_takeTrait 3 (some .int) ∈ wT := List.mem_filter.mpr ⟨List.mem_of_getElem? (i := 783) (by decide +kernel), by decide +kernel⟩
theorem tw_784 : Cond.methodLink RX6 156 yX6_isOwn ∈ wT := List.mem_filter.mpr ⟨List.mem_of_getElem? (i := 784) (by decide +kernel), by decide +kernel⟩
theorem tw_786 : Cond.instanceMethod yX6_isOwn ∈ wT := List.mem_filter.mpr ⟨List.mem_of_getElem? (i := 786) (by decide +kernel), by decide +kernel⟩
theorem tw_787 : Cond.code yX6_isOwn cX6_isOwn 2 (some .boolean) ∈ wT := List.mem_filter.mpr ⟨List.mem_of_getElem? (i := 787) (by decide +kernel), by decide +kernel⟩
theorem tw_788 : Cond.methodLink RX6 81 yX10_isHere ∈ wT := List.mem_filter.mpr ⟨List.mem_of_getElem? (i := 788) (by decide +kernel), by decide +kernel⟩
theorem tw_789 : Cond.instanceMethod yX10_isHere ∈ wT := List.mem_filter.mpr ⟨List.mem_of_getElem? (i := 789) (by decide +kernel), by decide +kernel⟩
theorem tw_790 : Cond.selects (yX10_isHere).cls yX10_isHere yX10_isHere ∈ wT := List.mem_filter.mpr ⟨List.mem_of_getElem? (i := 790) (by decide +kernel), by decide +kernel⟩
theorem tw_791 : Cond.code yX10_isHere cX10_isHere 3 (some .boolean) ∈ wT := List.mem_filter.mpr ⟨List.mem_of_getElem? (i := 791) (by decide +kernel), by decide +kernel⟩
theorem tw_792 : Cond.methodLink RX6 115 yX6_takeUpTo ∈ wT := List.mem_filter.mpr ⟨List.mem_of_getElem? (i := 792) (by decide +kernel), by decide +kernel⟩
theorem tw_794 : Cond.instanceMethod yX6_takeUpTo ∈ wT := List.mem_filter.mpr ⟨List.mem_of_getElem? (i := 794) (by decide +kernel), by decide +kernel⟩
theorem tw_795 : Cond.code yX6_takeUpTo cX6_takeUpTo 3 (some .int) ∈ wT := List.mem_filter.mpr ⟨List.mem_of_getElem? (i := 795) (by decide +kernel), by decide +kernel⟩
theorem tw_796 : Cond.methodLink RX6 106 yX6_readLate ∈ wT := List.mem_filter.mpr ⟨List.mem_of_getElem? (i := 796) (by decide +kernel), by decide +kernel⟩
theorem tw_798 : Cond.instanceMethod yX6_readLate ∈ wT := List.mem_filter.mpr ⟨List.mem_of_getElem? (i := 798) (by decide +kernel), by decide +kernel⟩
theorem tw_799 : Cond.code yX6_readLate cX6_readLate 2 none ∈ wT := List.mem_filter.mpr ⟨List.mem_of_getElem? (i := 799) (by decide +kernel), by decide +kernel⟩
theorem tw_800 : Cond.methodLink RX6 159 yX6_findNamed ∈ wT := List.mem_filter.mpr ⟨List.mem_of_getElem? (i := 800) (by decide +kernel), by decide +kernel⟩
theorem tw_802 : Cond.instanceMethod yX6_findNamed ∈ wT := List.mem_filter.mpr ⟨List.mem_of_getElem? (i := 802) (by decide +kernel), by decide +kernel⟩
theorem tw_803 : Cond.code yX6_findNamed cX6_findNamed 3 (some .int) ∈ wT := List.mem_filter.mpr ⟨List.mem_of_getElem? (i := 803) (by decide +kernel), by decide +kernel⟩
theorem tw_804 : Cond.methodLink RX6 162 yX3_isLate ∈ wT := List.mem_filter.mpr ⟨List.mem_of_getElem? (i := 804) (by decide +kernel), by decide +kernel⟩
theorem tw_805 : Cond.instanceMethod yX3_isLate ∈ wT := List.mem_filter.mpr ⟨List.mem_of_getElem? (i := 805) (by decide +kernel), by decide +kernel⟩
theorem tw_806 : Cond.selects (yX3_isLate).cls yX3_isLate yX3_isLate ∈ wT := List.mem_filter.mpr ⟨List.mem_of_getElem? (i := 806) (by decide +kernel), by decide +kernel⟩
theorem tw_807 : Cond.code yX3_isLate cX3_isLate 2 (some .int) ∈ wT := List.mem_filter.mpr ⟨List.mem_of_getElem? (i := 807) (by decide +kernel), by decide +kernel⟩
theorem tw_808 : Cond.methodLink RX6 109 yX6_readNear ∈ wT := List.mem_filter.mpr ⟨List.mem_of_getElem? (i := 808) (by decide +kernel), by decide +kernel⟩
theorem tw_810 : Cond.instanceMethod yX6_readNear ∈ wT := List.mem_filter.mpr ⟨List.mem_of_getElem? (i := 810) (by decide +kernel), by decide +kernel⟩
theorem tw_811 : Cond.code yX6_readNear cX6_readNear 3 none ∈ wT := List.mem_filter.mpr ⟨List.mem_of_getElem? (i := 811) (by decide +kernel), by decide +kernel⟩
theorem tw_812 : Cond.methodLink RX6 112 yX6_readWears ∈ wT := List.mem_filter.mpr ⟨List.mem_of_getElem? (i := 812) (by decide +kernel), by decide +kernel⟩
theorem tw_814 : Cond.instanceMethod yX6_readWears ∈ wT := List.mem_filter.mpr ⟨List.mem_of_getElem? (i := 814) (by decide +kernel), by decide +kernel⟩
theorem tw_815 : Cond.code yX6_readWears cX6_readWears 3 none ∈ wT := List.mem_filter.mpr ⟨List.mem_of_getElem? (i := 815) (by decide +kernel), by decide +kernel⟩
theorem tw_816 : Cond.methodLink RX6 125 yX6_readFormula ∈ wT := List.mem_filter.mpr ⟨List.mem_of_getElem? (i := 816) (by decide +kernel), by decide +kernel⟩
theorem tw_818 : Cond.instanceMethod yX6_readFormula ∈ wT := List.mem_filter.mpr ⟨List.mem_of_getElem? (i := 818) (by decide +kernel), by decide +kernel⟩
theorem tw_819 : Cond.code yX6_readFormula cX6_readFormula 2 none ∈ wT := List.mem_filter.mpr ⟨List.mem_of_getElem? (i := 819) (by decide +kernel), by decide +kernel⟩
theorem tw_820 : Cond.methodLink RX6 183 yX6_readTest ∈ wT := List.mem_filter.mpr ⟨List.mem_of_getElem? (i := 820) (by decide +kernel), by decide +kernel⟩
theorem tw_822 : Cond.instanceMethod yX6_readTest ∈ wT := List.mem_filter.mpr ⟨List.mem_of_getElem? (i := 822) (by decide +kernel), by decide +kernel⟩
theorem tw_823 : Cond.code yX6_readTest cX6_readTest 2 none ∈ wT := List.mem_filter.mpr ⟨List.mem_of_getElem? (i := 823) (by decide +kernel), by decide +kernel⟩
theorem tw_824 : Cond.methodLink RX6 195 yX6_readBoth ∈ wT := List.mem_filter.mpr ⟨List.mem_of_getElem? (i := 824) (by decide +kernel), by decide +kernel⟩
theorem tw_826 : Cond.instanceMethod yX6_readBoth ∈ wT := List.mem_filter.mpr ⟨List.mem_of_getElem? (i := 826) (by decide +kernel), by decide +kernel⟩
theorem tw_827 : Cond.code yX6_readBoth cX6_readBoth 2 none ∈ wT := List.mem_filter.mpr ⟨List.mem_of_getElem? (i := 827) (by decide +kernel), by decide +kernel⟩
theorem tw_828 : Cond.methodLink RX6 203 yX6_readFact ∈ wT := List.mem_filter.mpr ⟨List.mem_of_getElem? (i := 828) (by decide +kernel), by decide +kernel⟩
theorem tw_830 : Cond.instanceMethod yX6_readFact ∈ wT := List.mem_filter.mpr ⟨List.mem_of_getElem? (i := 830) (by decide +kernel), by decide +kernel⟩
theorem tw_831 : Cond.code yX6_readFact cX6_readFact 1 none ∈ wT := List.mem_filter.mpr ⟨List.mem_of_getElem? (i := 831) (by decide +kernel), by decide +kernel⟩
theorem tw_832 : Cond.methodLink RX6 206 yX6_opens ∈ wT := List.mem_filter.mpr ⟨List.mem_of_getElem? (i := 832) (by decide +kernel), by decide +kernel⟩
theorem tw_834 : Cond.instanceMethod yX6_opens ∈ wT := List.mem_filter.mpr ⟨List.mem_of_getElem? (i := 834) (by decide +kernel), by decide +kernel⟩
theorem tw_835 : Cond.code yX6_opens cX6_opens 1 (some .boolean) ∈ wT := List.mem_filter.mpr ⟨List.mem_of_getElem? (i := 835) (by decide +kernel), by decide +kernel⟩
theorem tw_836 : Cond.methodLink RX6 200 yX6_emit ∈ wT := List.mem_filter.mpr ⟨List.mem_of_getElem? (i := 836) (by decide +kernel), by decide +kernel⟩
theorem tw_838 : Cond.instanceMethod yX6_emit ∈ wT := List.mem_filter.mpr ⟨List.mem_of_getElem? (i := 838) (by decide +kernel), by decide +kernel⟩
theorem tw_839 : Cond.code yX6_emit cX6_emit 2 none ∈ wT := List.mem_filter.mpr ⟨List.mem_of_getElem? (i := 839) (by decide +kernel), by decide +kernel⟩
theorem tw_840 : Cond.methodLink RX6 85 yX6_isSign ∈ wT := List.mem_filter.mpr ⟨List.mem_of_getElem? (i := 840) (by decide +kernel), by decide +kernel⟩
theorem tw_842 : Cond.instanceMethod yX6_isSign ∈ wT := List.mem_filter.mpr ⟨List.mem_of_getElem? (i := 842) (by decide +kernel), by decide +kernel⟩
theorem tw_843 : Cond.code yX6_isSign cX6_isSign 2 (some .boolean) ∈ wT := List.mem_filter.mpr ⟨List.mem_of_getElem? (i := 843) (by decide +kernel), by decide +kernel⟩
theorem tw_844 : Cond.methodLink RX6 128 yX6_expect ∈ wT := List.mem_filter.mpr ⟨List.mem_of_getElem? (i := 844) (by decide +kernel), by decide +kernel⟩
theorem tw_846 : Cond.instanceMethod yX6_expect ∈ wT := List.mem_filter.mpr ⟨List.mem_of_getElem? (i := 846) (by decide +kernel), by decide +kernel⟩
theorem tw_847 : Cond.code yX6_expect cX6_expect 2 none ∈ wT := List.mem_filter.mpr ⟨List.mem_of_getElem? (i := 847) (by decide +kernel), by decide +kernel⟩
theorem tw_848 : Cond.methodLink RX6 209 yX6_readComparison ∈ wT := List.mem_filter.mpr ⟨List.mem_of_getElem? (i := 848) (by decide +kernel), by decide +kernel⟩
theorem tw_850 : Cond.instanceMethod yX6_readComparison ∈ wT := List.mem_filter.mpr ⟨List.mem_of_getElem? (i := 850) (by decide +kernel), by decide +kernel⟩
theorem tw_851 : Cond.code yX6_readComparison cX6_readComparison 2 none ∈ wT := List.mem_filter.mpr ⟨List.mem_of_getElem? (i := 851) (by decide +kernel), by decide +kernel⟩
theorem tw_852 : Cond.methodLink RX6 186 yX6_readSum ∈ wT := List.mem_filter.mpr ⟨List.mem_of_getElem? (i := 852) (by decide +kernel), by decide +kernel⟩
theorem tw_854 : Cond.instanceMethod yX6_readSum ∈ wT := List.mem_filter.mpr ⟨List.mem_of_getElem? (i := 854) (by decide +kernel), by decide +kernel⟩
theorem tw_855 : Cond.code yX6_readSum cX6_readSum 3 none ∈ wT := List.mem_filter.mpr ⟨List.mem_of_getElem? (i := 855) (by decide +kernel), by decide +kernel⟩
theorem tw_856 : Cond.methodLink RX6 212 yX6_readProduct ∈ wT := List.mem_filter.mpr ⟨List.mem_of_getElem? (i := 856) (by decide +kernel), by decide +kernel⟩
theorem tw_858 : Cond.instanceMethod yX6_readProduct ∈ wT := List.mem_filter.mpr ⟨List.mem_of_getElem? (i := 858) (by decide +kernel), by decide +kernel⟩
theorem tw_859 : Cond.code yX6_readProduct cX6_readProduct 3 none ∈ wT := List.mem_filter.mpr ⟨List.mem_of_getElem? (i := 859) (by decide +kernel), by decide +kernel⟩
theorem tw_860 : Cond.methodLink RX6 215 yX6_readPart ∈ wT := List.mem_filter.mpr ⟨List.mem_of_getElem? (i := 860) (by decide +kernel), by decide +kernel⟩
theorem tw_862 : Cond.instanceMethod yX6_readPart ∈ wT := List.mem_filter.mpr ⟨List.mem_of_getElem? (i := 862) (by decide +kernel), by decide +kernel⟩
theorem tw_863 : Cond.code yX6_readPart cX6_readPart 2 none ∈ wT := List.mem_filter.mpr ⟨List.mem_of_getElem? (i := 863) (by decide +kernel), by decide +kernel⟩
theorem tw_864 : Cond.methodLink RX6 218 yX6_variable ∈ wT := List.mem_filter.mpr ⟨List.mem_of_getElem? (i := 864) (by decide +kernel), by decide +kernel⟩
theorem tw_866 : Cond.instanceMethod yX6_variable ∈ wT := List.mem_filter.mpr ⟨List.mem_of_getElem? (i := 866) (by decide +kernel), by decide +kernel⟩
theorem tw_867 : Cond.code yX6_variable cX6_variable 2 (some .int) ∈ wT := List.mem_filter.mpr ⟨List.mem_of_getElem? (i := 867) (by decide +kernel), by decide +kernel⟩
theorem tw_868 : Cond.methodLink RX6 221 yX6_readChosen ∈ wT := List.mem_filter.mpr ⟨List.mem_of_getElem? (i := 868) (by decide +kernel), by decide +kernel⟩
theorem tw_870 : Cond.instanceMethod yX6_readChosen ∈ wT := List.mem_filter.mpr ⟨List.mem_of_getElem? (i := 870) (by decide +kernel), by decide +kernel⟩
theorem tw_871 : Cond.code yX6_readChosen cX6_readChosen 2 none ∈ wT := List.mem_filter.mpr ⟨List.mem_of_getElem? (i := 871) (by decide +kernel), by decide +kernel⟩
theorem tw_880 : Cond.methodLink RX11 153 yX7_wornBy ∈ wT := List.mem_filter.mpr ⟨List.mem_of_getElem? (i := 880) (by decide +kernel), by decide +kernel⟩
theorem tw_881 : Cond.instanceMethod yX7_wornBy ∈ wT := List.mem_filter.mpr ⟨List.mem_of_getElem? (i := 881) (by decide +kernel), by decide +kernel⟩
theorem tw_882 : Cond.selects (yX7_wornBy).cls yX7_wornBy yX7_wornBy ∈ wT := List.mem_filter.mpr ⟨List.mem_of_getElem? (i := 882) (by decide +kernel), by decide +kernel⟩
theorem tw_883 : Cond.code yX7_wornBy cX7_wornBy 5 (some .int) ∈ wT := List.mem_filter.mpr ⟨List.mem_of_getElem? (i := 883) (by decide +kernel), by decide +kernel⟩
theorem tw_884 : Cond.methodLink RX11 160 yX3_clashes ∈ wT := List.mem_filter.mpr ⟨List.mem_of_getElem? (i := 884) (by decide +kernel), by decide +kernel⟩
theorem tw_885 : Cond.instanceMethod yX3_clashes ∈ wT := List.mem_filter.mpr ⟨List.mem_of_getElem? (i := 885) (by decide +kernel), by decide +kernel⟩
theorem tw_886 : Cond.selects (yX3_clashes).cls yX3_clashes yX3_clashes ∈ wT := List.mem_filter.mpr ⟨List.mem_of_getElem? (i := 886) (by decide +kernel), by decide +kernel⟩
theorem tw_887 : Cond.code yX3_clashes cX3_clashes 4 (some .int) ∈ wT := List.mem_filter.mpr ⟨List.mem_of_getElem? (i := 887) (by decide +kernel), by decide +kernel⟩
theorem tw_888 : Cond.methodLink RX3 66 yX3_clashesBelow ∈ wT := List.mem_filter.mpr ⟨List.mem_of_getElem? (i := 888) (by decide +kernel), by decide +kernel⟩
theorem tw_890 : Cond.instanceMethod yX3_clashesBelow ∈ wT := List.mem_filter.mpr ⟨List.mem_of_getElem? (i := 890) (by decide +kernel), by decide +kernel⟩
theorem tw_891 : Cond.code yX3_clashesBelow cX3_clashesBelow 5 (some .int) ∈ wT := List.mem_filter.mpr ⟨List.mem_of_getElem? (i := 891) (by decide +kernel), by decide +kernel⟩
theorem tw_896 : Cond.methodLink RX11 167 yX3_isThere ∈ wT := List.mem_filter.mpr ⟨List.mem_of_getElem? (i := 896) (by decide +kernel), by decide +kernel⟩
theorem tw_897 : Cond.instanceMethod yX3_isThere ∈ wT := List.mem_filter.mpr ⟨List.mem_of_getElem? (i := 897) (by decide +kernel), by decide +kernel⟩
theorem tw_898 : Cond.selects (yX3_isThere).cls yX3_isThere yX3_isThere ∈ wT := List.mem_filter.mpr ⟨List.mem_of_getElem? (i := 898) (by decide +kernel), by decide +kernel⟩
theorem tw_899 : Cond.code yX3_isThere cX3_isThere 3 (some .boolean) ∈ wT := List.mem_filter.mpr ⟨List.mem_of_getElem? (i := 899) (by decide +kernel), by decide +kernel⟩
theorem tw_900 : Cond.methodLink RX11 171 yX3_letterOf ∈ wT := List.mem_filter.mpr ⟨List.mem_of_getElem? (i := 900) (by decide +kernel), by decide +kernel⟩
theorem tw_901 : Cond.instanceMethod yX3_letterOf ∈ wT := List.mem_filter.mpr ⟨List.mem_of_getElem? (i := 901) (by decide +kernel), by decide +kernel⟩
theorem tw_902 : Cond.selects (yX3_letterOf).cls yX3_letterOf yX3_letterOf ∈ wT := List.mem_filter.mpr ⟨List.mem_of_getElem? (i := 902) (by decide +kernel), by decide +kernel⟩
theorem tw_903 : Cond.code yX3_letterOf cX3_letterOf 7 (some .int) ∈ wT := List.mem_filter.mpr ⟨List.mem_of_getElem? (i := 903) (by decide +kernel), by decide +kernel⟩
theorem tw_904 : Cond.methodLink RX3 58 yX3_isThere ∈ wT := List.mem_filter.mpr ⟨List.mem_of_getElem? (i := 904) (by decide +kernel), by decide +kernel⟩
theorem tw_909 : Cond.methodLink RX11 175 yX3_traitOf ∈ wT := List.mem_filter.mpr ⟨List.mem_of_getElem? (i := 909) (by decide +kernel), by decide +kernel⟩
theorem tw_910 : Cond.instanceMethod yX3_traitOf ∈ wT := List.mem_filter.mpr ⟨List.mem_of_getElem? (i := 910) (by decide +kernel), by decide +kernel⟩
theorem tw_911 : Cond.selects (yX3_traitOf).cls yX3_traitOf yX3_traitOf ∈ wT := List.mem_filter.mpr ⟨List.mem_of_getElem? (i := 911) (by decide +kernel), by decide +kernel⟩
theorem tw_912 : Cond.code yX3_traitOf cX3_traitOf 5 (some .int) ∈ wT := List.mem_filter.mpr ⟨List.mem_of_getElem? (i := 912) (by decide +kernel), by decide +kernel⟩
theorem tw_913 : Cond.methodLink RX11 178 yX3_isLate ∈ wT := List.mem_filter.mpr ⟨List.mem_of_getElem? (i := 913) (by decide +kernel), by decide +kernel⟩
theorem tw_914 : Cond.methodLink RX11 184 yX7_placeOf ∈ wT := List.mem_filter.mpr ⟨List.mem_of_getElem? (i := 914) (by decide +kernel), by decide +kernel⟩
theorem tw_915 : Cond.instanceMethod yX7_placeOf ∈ wT := List.mem_filter.mpr ⟨List.mem_of_getElem? (i := 915) (by decide +kernel), by decide +kernel⟩
theorem tw_916 : Cond.selects (yX7_placeOf).cls yX7_placeOf yX7_placeOf ∈ wT := List.mem_filter.mpr ⟨List.mem_of_getElem? (i := 916) (by decide +kernel), by decide +kernel⟩
theorem tw_917 : Cond.code yX7_placeOf cX7_placeOf 4 (some .int) ∈ wT := List.mem_filter.mpr ⟨List.mem_of_getElem? (i := 917) (by decide +kernel), by decide +kernel⟩
theorem tw_918 : Cond.methodLink RX11 187 yX1_sit ∈ wT := List.mem_filter.mpr ⟨List.mem_of_getElem? (i := 918) (by decide +kernel), by decide +kernel⟩
theorem tw_919 : Cond.instanceMethod yX1_sit ∈ wT := List.mem_filter.mpr ⟨List.mem_of_getElem? (i := 919) (by decide +kernel), by decide +kernel⟩
theorem tw_920 : Cond.selects (yX1_sit).cls yX1_sit yX1_sit ∈ wT := List.mem_filter.mpr ⟨List.mem_of_getElem? (i := 920) (by decide +kernel), by decide +kernel⟩
theorem tw_921 : Cond.code yX1_sit cX1_sit 5 none ∈ wT := List.mem_filter.mpr ⟨List.mem_of_getElem? (i := 921) (by decide +kernel), by decide +kernel⟩
theorem tw_923 : Cond.methodLink RX1 47 yJ7_fill_53178 ∈ wT := List.mem_filter.mpr ⟨List.mem_of_getElem? (i := 923) (by decide +kernel), by decide +kernel⟩
theorem tw_924 : Cond.methodLink RX1 58 yX1_putPerson ∈ wT := List.mem_filter.mpr ⟨List.mem_of_getElem? (i := 924) (by decide +kernel), by decide +kernel⟩
theorem tw_926 : Cond.instanceMethod yX1_putPerson ∈ wT := List.mem_filter.mpr ⟨List.mem_of_getElem? (i := 926) (by decide +kernel), by decide +kernel⟩
theorem tw_927 : Cond.code yX1_putPerson cX1_putPerson 2 none ∈ wT := List.mem_filter.mpr ⟨List.mem_of_getElem? (i := 927) (by decide +kernel), by decide +kernel⟩
theorem tw_928 : Cond.methodLink RX1 77 yX8_put ∈ wT := List.mem_filter.mpr ⟨List.mem_of_getElem? (i := 928) (by decide +kernel), by decide +kernel⟩
theorem tw_929 : Cond.instanceMethod yX8_put ∈ wT := List.mem_filter.mpr ⟨List.mem_of_getElem? (i := 929) (by decide +kernel), by decide +kernel⟩
theorem tw_930 : Cond.selects (yX8_put).cls yX8_put yX8_put ∈ wT := List.mem_filter.mpr ⟨List.mem_of_getElem? (i := 930) (by decide +kernel), by decide +kernel⟩
theorem tw_931 : Cond.code yX8_put cX8_put 4 none ∈ wT := List.mem_filter.mpr ⟨List.mem_of_getElem? (i := 931) (by decide +kernel), by decide +kernel⟩
theorem tw_932 : Cond.methodLink RX1 84 yX3_isLate ∈ wT := List.mem_filter.mpr ⟨List.mem_of_getElem? (i := 932) (by decide +kernel), by decide +kernel⟩
theorem tw_933 : Cond.methodLink RX1 62 yX3_hasCode ∈ wT := List.mem_filter.mpr ⟨List.mem_of_getElem? (i := 933) (by decide +kernel), by decide +kernel⟩
theorem tw_934 : Cond.methodLink RX1 66 yX8_workOut ∈ wT := List.mem_filter.mpr ⟨List.mem_of_getElem? (i := 934) (by decide +kernel), by decide +kernel⟩
theorem tw_935 : Cond.instanceMethod yX8_workOut ∈ wT := List.mem_filter.mpr ⟨List.mem_of_getElem? (i := 935) (by decide +kernel), by decide +kernel⟩
theorem tw_936 : Cond.selects (yX8_workOut).cls yX8_workOut yX8_workOut ∈ wT := List.mem_filter.mpr ⟨List.mem_of_getElem? (i := 936) (by decide +kernel), by decide +kernel⟩
theorem tw_937 : Cond.code yX8_workOut cX8_workOut 7 (some .int) ∈ wT := List.mem_filter.mpr ⟨List.mem_of_getElem? (i := 937) (by decide +kernel), by decide +kernel⟩
theorem tw_938 : Cond.methodLink RX8 17 yX3_hasCode ∈ wT := List.mem_filter.mpr ⟨List.mem_of_getElem? (i := 938) (by decide +kernel), by decide +kernel⟩
theorem tw_939 : Cond.methodLink RX8 32 yX8_join ∈ wT := List.mem_filter.mpr ⟨List.mem_of_getElem? (i := 939) (by decide +kernel), by decide +kernel⟩
theorem tw_940 : Cond.static yX8_join ∈ wT := List.mem_filter.mpr ⟨List.mem_of_getElem? (i := 940) (by decide +kernel), by decide +kernel⟩
theorem tw_941 : Cond.code yX8_join cX8_join 5 (some .long) ∈ wT := List.mem_filter.mpr ⟨List.mem_of_getElem? (i := 941) (by decide +kernel), by decide +kernel⟩
theorem tw_942 : Cond.methodLink RX8 36 yX8_within ∈ wT := List.mem_filter.mpr ⟨List.mem_of_getElem? (i := 942) (by decide +kernel), by decide +kernel⟩
theorem tw_943 : Cond.static yX8_within ∈ wT := List.mem_filter.mpr ⟨List.mem_of_getElem? (i := 943) (by decide +kernel), by decide +kernel⟩
theorem tw_944 : Cond.code yX8_within cX8_within 2 (some .long) ∈ wT := List.mem_filter.mpr ⟨List.mem_of_getElem? (i := 944) (by decide +kernel), by decide +kernel⟩
theorem tw_947 : Cond.methodLink RX11 191 yX1_isCounting ∈ wT := List.mem_filter.mpr ⟨List.mem_of_getElem? (i := 947) (by decide +kernel), by decide +kernel⟩
theorem tw_948 : Cond.instanceMethod yX1_isCounting ∈ wT := List.mem_filter.mpr ⟨List.mem_of_getElem? (i := 948) (by decide +kernel), by decide +kernel⟩
theorem tw_949 : Cond.selects (yX1_isCounting).cls yX1_isCounting yX1_isCounting ∈ wT := List.mem_filter.mpr ⟨List.mem_of_getElem? (i := 949) (by decide +kernel), by decide +kernel⟩
theorem tw_950 : Cond.code yX1_isCounting cX1_isCounting 2 (some .boolean) ∈ wT := List.mem_filter.mpr ⟨List.mem_of_getElem? (i := 950) (by decide +kernel), by decide +kernel⟩
theorem tw_959 : Cond.methodLink RX11 197 yJ6_bitCount_0f7a4 ∈ wT := List.mem_filter.mpr ⟨List.mem_of_getElem? (i := 959) (by decide +kernel), by decide +kernel⟩
theorem tw_960 : Cond.static yJ6_bitCount_0f7a4 ∈ wT := List.mem_filter.mpr ⟨List.mem_of_getElem? (i := 960) (by decide +kernel), by decide +kernel⟩
theorem tw_961 : Cond.code yJ6_bitCount_0f7a4 cJ6_bitCount_0f7a4 1 (some .int) ∈ wT := List.mem_filter.mpr ⟨List.mem_of_getElem? (i := 961) (by decide +kernel), by decide +kernel⟩
theorem tw_969 : Cond.methodLink RX11 202 yX11_areThere ∈ wT := List.mem_filter.mpr ⟨List.mem_of_getElem? (i := 969) (by decide +kernel), by decide +kernel⟩
theorem tw_971 : Cond.instanceMethod yX11_areThere ∈ wT := List.mem_filter.mpr ⟨List.mem_of_getElem? (i := 971) (by decide +kernel), by decide +kernel⟩
theorem tw_972 : Cond.code yX11_areThere cX11_areThere 3 (some .boolean) ∈ wT := List.mem_filter.mpr ⟨List.mem_of_getElem? (i := 972) (by decide +kernel), by decide +kernel⟩
theorem tw_974 : Cond.methodLink RX11 207 yX1_scoreOf ∈ wT := List.mem_filter.mpr ⟨List.mem_of_getElem? (i := 974) (by decide +kernel), by decide +kernel⟩
theorem tw_975 : Cond.instanceMethod yX1_scoreOf ∈ wT := List.mem_filter.mpr ⟨List.mem_of_getElem? (i := 975) (by decide +kernel), by decide +kernel⟩
theorem tw_976 : Cond.selects (yX1_scoreOf).cls yX1_scoreOf yX1_scoreOf ∈ wT := List.mem_filter.mpr ⟨List.mem_of_getElem? (i := 976) (by decide +kernel), by decide +kernel⟩
theorem tw_977 : Cond.code yX1_scoreOf cX1_scoreOf 6 (some .int) ∈ wT := List.mem_filter.mpr ⟨List.mem_of_getElem? (i := 977) (by decide +kernel), by decide +kernel⟩
theorem tw_978 : Cond.methodLink RX1 88 yX3_traitOf ∈ wT := List.mem_filter.mpr ⟨List.mem_of_getElem? (i := 978) (by decide +kernel), by decide +kernel⟩
theorem tw_979 : Cond.methodLink RX1 92 yX3_matchOf ∈ wT := List.mem_filter.mpr ⟨List.mem_of_getElem? (i := 979) (by decide +kernel), by decide +kernel⟩
theorem tw_980 : Cond.instanceMethod yX3_matchOf ∈ wT := List.mem_filter.mpr ⟨List.mem_of_getElem? (i := 980) (by decide +kernel), by decide +kernel⟩
theorem tw_981 : Cond.selects (yX3_matchOf).cls yX3_matchOf yX3_matchOf ∈ wT := List.mem_filter.mpr ⟨List.mem_of_getElem? (i := 981) (by decide +kernel), by decide +kernel⟩
theorem tw_982 : Cond.code yX3_matchOf cX3_matchOf 9 (some .int) ∈ wT := List.mem_filter.mpr ⟨List.mem_of_getElem? (i := 982) (by decide +kernel), by decide +kernel⟩
theorem tw_983 : Cond.methodLink RX3 62 yX3_traitOf ∈ wT := List.mem_filter.mpr ⟨List.mem_of_getElem? (i := 983) (by decide +kernel), by decide +kernel⟩
theorem tw_984 : Cond.methodLink RX1 96 yX7_wornBy ∈ wT := List.mem_filter.mpr ⟨List.mem_of_getElem? (i := 984) (by decide +kernel), by decide +kernel⟩
theorem tw_989 : Cond.methodLink RX11 210 yX1_wordOf ∈ wT := List.mem_filter.mpr ⟨List.mem_of_getElem? (i := 989) (by decide +kernel), by decide +kernel⟩
theorem tw_990 : Cond.instanceMethod yX1_wordOf ∈ wT := List.mem_filter.mpr ⟨List.mem_of_getElem? (i := 990) (by decide +kernel), by decide +kernel⟩
theorem tw_991 : Cond.selects (yX1_wordOf).cls yX1_wordOf yX1_wordOf ∈ wT := List.mem_filter.mpr ⟨List.mem_of_getElem? (i := 991) (by decide +kernel), by decide +kernel⟩
theorem tw_992 : Cond.code yX1_wordOf cX1_wordOf 6 (some .int) ∈ wT := List.mem_filter.mpr ⟨List.mem_of_getElem? (i := 992) (by decide +kernel), by decide +kernel⟩
theorem tw_993 : Cond.methodLink RX1 100 yX1_scoreOf ∈ wT := List.mem_filter.mpr ⟨List.mem_of_getElem? (i := 993) (by decide +kernel), by decide +kernel⟩
theorem tw_998 : Cond.methodLink RX11 216 yX3_everybody ∈ wT := List.mem_filter.mpr ⟨List.mem_of_getElem? (i := 998) (by decide +kernel), by decide +kernel⟩
theorem tw_999 : Cond.instanceMethod yX3_everybody ∈ wT := List.mem_filter.mpr ⟨List.mem_of_getElem? (i := 999) (by decide +kernel), by decide +kernel⟩
theorem tw_1000 : Cond.selects (yX3_everybody).cls yX3_everybody yX3_everybody ∈ wT := List.mem_filter.mpr ⟨List.mem_of_getElem? (i := 1000) (by decide +kernel), by decide +kernel⟩
theorem tw_1001 : Cond.code yX3_everybody cX3_everybody 1 (some .int) ∈ wT := List.mem_filter.mpr ⟨List.mem_of_getElem? (i := 1001) (by decide +kernel), by decide +kernel⟩
theorem tw_1002 : Cond.methodLink RX11 220 yX1_ask ∈ wT := List.mem_filter.mpr ⟨List.mem_of_getElem? (i := 1002) (by decide +kernel), by decide +kernel⟩
theorem tw_1003 : Cond.instanceMethod yX1_ask ∈ wT := List.mem_filter.mpr ⟨List.mem_of_getElem? (i := 1003) (by decide +kernel), by decide +kernel⟩
theorem tw_1004 : Cond.selects (yX1_ask).cls yX1_ask yX1_ask ∈ wT := List.mem_filter.mpr ⟨List.mem_of_getElem? (i := 1004) (by decide +kernel), by decide +kernel⟩
theorem tw_1005 : Cond.code yX1_ask cX1_ask 6 (some .int) ∈ wT := List.mem_filter.mpr ⟨List.mem_of_getElem? (i := 1005) (by decide +kernel), by decide +kernel⟩
theorem tw_1006 : Cond.methodLink RX1 103 yX1_wordOf ∈ wT := List.mem_filter.mpr ⟨List.mem_of_getElem? (i := 1006) (by decide +kernel), by decide +kernel⟩
theorem tw_1007 : Cond.methodLink RX1 106 yX1_isCounting ∈ wT := List.mem_filter.mpr ⟨List.mem_of_getElem? (i := 1007) (by decide +kernel), by decide +kernel⟩
theorem tw_1008 : Cond.methodLink RX11 224 yX1_votesFor ∈ wT := List.mem_filter.mpr ⟨List.mem_of_getElem? (i := 1008) (by decide +kernel), by decide +kernel⟩
theorem tw_1009 : Cond.instanceMethod yX1_votesFor ∈ wT := List.mem_filter.mpr ⟨List.mem_of_getElem? (i := 1009) (by decide +kernel), by decide +kernel⟩
theorem tw_1010 : Cond.selects (yX1_votesFor).cls yX1_votesFor yX1_votesFor ∈ wT := List.mem_filter.mpr ⟨List.mem_of_getElem? (i := 1010) (by decide +kernel), by decide +kernel⟩
theorem tw_1011 : Cond.code yX1_votesFor cX1_votesFor 2 (some .int) ∈ wT := List.mem_filter.mpr ⟨List.mem_of_getElem? (i := 1011) (by decide +kernel), by decide +kernel⟩
theorem tw_1016 : Cond.methodLink RX11 227 yX11_canPass ∈ wT := List.mem_filter.mpr ⟨List.mem_of_getElem? (i := 1016) (by decide +kernel), by decide +kernel⟩
theorem tw_1018 : Cond.instanceMethod yX11_canPass ∈ wT := List.mem_filter.mpr ⟨List.mem_of_getElem? (i := 1018) (by decide +kernel), by decide +kernel⟩
theorem tw_1019 : Cond.code yX11_canPass cX11_canPass 2 (some .boolean) ∈ wT := List.mem_filter.mpr ⟨List.mem_of_getElem? (i := 1019) (by decide +kernel), by decide +kernel⟩
theorem tw_1020 : Cond.methodLink RX11 230 yX11_lookAhead ∈ wT := List.mem_filter.mpr ⟨List.mem_of_getElem? (i := 1020) (by decide +kernel), by decide +kernel⟩
theorem tw_1022 : Cond.instanceMethod yX11_lookAhead ∈ wT := List.mem_filter.mpr ⟨List.mem_of_getElem? (i := 1022) (by decide +kernel), by decide +kernel⟩
theorem tw_1023 : Cond.code yX11_lookAhead cX11_lookAhead 3 none ∈ wT := List.mem_filter.mpr ⟨List.mem_of_getElem? (i := 1023) (by decide +kernel), by decide +kernel⟩
theorem tw_1024 : Cond.methodLink RX11 308 yX7_take ∈ wT := List.mem_filter.mpr ⟨List.mem_of_getElem? (i := 1024) (by decide +kernel), by decide +kernel⟩
theorem tw_1025 : Cond.instanceMethod yX7_take ∈ wT := List.mem_filter.mpr ⟨List.mem_of_getElem? (i := 1025) (by decide +kernel), by decide +kernel⟩
theorem tw_1026 : Cond.selects (yX7_take).cls yX7_take yX7_take ∈ wT := List.mem_filter.mpr ⟨List.mem_of_getElem? (i := 1026) (by decide +kernel), by decide +kernel⟩
theorem tw_1027 : Cond.code yX7_take cX7_take 2 none ∈ wT := List.mem_filter.mpr ⟨List.mem_of_getElem? (i := 1027) (by decide +kernel), by decide +kernel⟩
theorem tw_1028 : Cond.methodLink RX7 42 arraycopyName ∈ wT := List.mem_filter.mpr ⟨List.mem_of_getElem? (i := 1028) (by decide +kernel), by decide +kernel⟩
theorem tw_1029 : Cond.static arraycopyName ∈ wT := List.mem_filter.mpr ⟨List.mem_of_getElem? (i := 1029) (by decide +kernel), by decide +kernel⟩
theorem tw_1030 : Cond.native arraycopyName ∈ wT := List.mem_filter.mpr ⟨List.mem_of_getElem? (i := 1030) (by decide +kernel), by decide +kernel⟩
theorem tw_1031 : Cond.methodLink RX11 278 yX0_pass ∈ wT := List.mem_filter.mpr ⟨List.mem_of_getElem? (i := 1031) (by decide +kernel), by decide +kernel⟩
theorem tw_1032 : Cond.instanceMethod yX0_pass ∈ wT := List.mem_filter.mpr ⟨List.mem_of_getElem? (i := 1032) (by decide +kernel), by decide +kernel⟩
theorem tw_1033 : Cond.selects (yX0_pass).cls yX0_pass yX0_pass ∈ wT := List.mem_filter.mpr ⟨List.mem_of_getElem? (i := 1033) (by decide +kernel), by decide +kernel⟩
theorem tw_1034 : Cond.code yX0_pass cX0_pass 10 (some .boolean) ∈ wT := List.mem_filter.mpr ⟨List.mem_of_getElem? (i := 1034) (by decide +kernel), by decide +kernel⟩
theorem tw_1035 : Cond.methodLink RX0 19 yX0_gift ∈ wT := List.mem_filter.mpr ⟨List.mem_of_getElem? (i := 1035) (by decide +kernel), by decide +kernel⟩
theorem tw_1037 : Cond.instanceMethod yX0_gift ∈ wT := List.mem_filter.mpr ⟨List.mem_of_getElem? (i := 1037) (by decide +kernel), by decide +kernel⟩
theorem tw_1038 : Cond.code yX0_gift cX0_gift 4 (some .int) ∈ wT := List.mem_filter.mpr ⟨List.mem_of_getElem? (i := 1038) (by decide +kernel), by decide +kernel⟩
theorem tw_1039 : Cond.methodLink RX0 62 yX3_hasCode ∈ wT := List.mem_filter.mpr ⟨List.mem_of_getElem? (i := 1039) (by decide +kernel), by decide +kernel⟩
theorem tw_1040 : Cond.methodLink RX0 68 yX8_put ∈ wT := List.mem_filter.mpr ⟨List.mem_of_getElem? (i := 1040) (by decide +kernel), by decide +kernel⟩
theorem tw_1041 : Cond.methodLink RX0 72 yX7_wornBy ∈ wT := List.mem_filter.mpr ⟨List.mem_of_getElem? (i := 1041) (by decide +kernel), by decide +kernel⟩
theorem tw_1042 : Cond.methodLink RX0 76 yX8_workOut ∈ wT := List.mem_filter.mpr ⟨List.mem_of_getElem? (i := 1042) (by decide +kernel), by decide +kernel⟩
theorem tw_1043 : Cond.methodLink RX0 38 yX3_everybody ∈ wT := List.mem_filter.mpr ⟨List.mem_of_getElem? (i := 1043) (by decide +kernel), by decide +kernel⟩
theorem tw_1044 : Cond.methodLink RX0 42 yX1_sit ∈ wT := List.mem_filter.mpr ⟨List.mem_of_getElem? (i := 1044) (by decide +kernel), by decide +kernel⟩
theorem tw_1045 : Cond.methodLink RX0 51 yX1_ask ∈ wT := List.mem_filter.mpr ⟨List.mem_of_getElem? (i := 1045) (by decide +kernel), by decide +kernel⟩
theorem tw_1046 : Cond.methodLink RX0 55 yX0_paintIfPaid ∈ wT := List.mem_filter.mpr ⟨List.mem_of_getElem? (i := 1046) (by decide +kernel), by decide +kernel⟩
theorem tw_1047 : Cond.static yX0_paintIfPaid ∈ wT := List.mem_filter.mpr ⟨List.mem_of_getElem? (i := 1047) (by decide +kernel), by decide +kernel⟩
theorem tw_1048 : Cond.code yX0_paintIfPaid cX0_paintIfPaid 5 (some .boolean) ∈ wT := List.mem_filter.mpr ⟨List.mem_of_getElem? (i := 1048) (by decide +kernel), by decide +kernel⟩
theorem tw_1049 : Cond.methodLink RX0 80 yX3_traitOf ∈ wT := List.mem_filter.mpr ⟨List.mem_of_getElem? (i := 1049) (by decide +kernel), by decide +kernel⟩
theorem tw_1050 : Cond.methodLink RX0 87 yX7_keep ∈ wT := List.mem_filter.mpr ⟨List.mem_of_getElem? (i := 1050) (by decide +kernel), by decide +kernel⟩
theorem tw_1051 : Cond.instanceMethod yX7_keep ∈ wT := List.mem_filter.mpr ⟨List.mem_of_getElem? (i := 1051) (by decide +kernel), by decide +kernel⟩
theorem tw_1052 : Cond.selects (yX7_keep).cls yX7_keep yX7_keep ∈ wT := List.mem_filter.mpr ⟨List.mem_of_getElem? (i := 1052) (by decide +kernel), by decide +kernel⟩
theorem tw_1053 : Cond.code yX7_keep cX7_keep 3 none ∈ wT := List.mem_filter.mpr ⟨List.mem_of_getElem? (i := 1053) (by decide +kernel), by decide +kernel⟩
theorem tw_1054 : Cond.methodLink RX0 59 yX0_changeMoods ∈ wT := List.mem_filter.mpr ⟨List.mem_of_getElem? (i := 1054) (by decide +kernel), by decide +kernel⟩
theorem tw_1056 : Cond.instanceMethod yX0_changeMoods ∈ wT := List.mem_filter.mpr ⟨List.mem_of_getElem? (i := 1056) (by decide +kernel), by decide +kernel⟩
theorem tw_1057 : Cond.code yX0_changeMoods cX0_changeMoods 6 none ∈ wT := List.mem_filter.mpr ⟨List.mem_of_getElem? (i := 1057) (by decide +kernel), by decide +kernel⟩
theorem tw_1058 : Cond.methodLink RX0 93 yX1_saidBy ∈ wT := List.mem_filter.mpr ⟨List.mem_of_getElem? (i := 1058) (by decide +kernel), by decide +kernel⟩
theorem tw_1059 : Cond.instanceMethod yX1_saidBy ∈ wT := List.mem_filter.mpr ⟨List.mem_of_getElem? (i := 1059) (by decide +kernel), by decide +kernel⟩
theorem tw_1060 : Cond.selects (yX1_saidBy).cls yX1_saidBy yX1_saidBy ∈ wT := List.mem_filter.mpr ⟨List.mem_of_getElem? (i := 1060) (by decide +kernel), by decide +kernel⟩
theorem tw_1061 : Cond.code yX1_saidBy cX1_saidBy 2 (some .int) ∈ wT := List.mem_filter.mpr ⟨List.mem_of_getElem? (i := 1061) (by decide +kernel), by decide +kernel⟩
theorem tw_1074 : Cond.methodLink RX11 233 yX1_firstOrder ∈ wT := List.mem_filter.mpr ⟨List.mem_of_getElem? (i := 1074) (by decide +kernel), by decide +kernel⟩
theorem tw_1075 : Cond.instanceMethod yX1_firstOrder ∈ wT := List.mem_filter.mpr ⟨List.mem_of_getElem? (i := 1075) (by decide +kernel), by decide +kernel⟩
theorem tw_1076 : Cond.selects (yX1_firstOrder).cls yX1_firstOrder yX1_firstOrder ∈ wT := List.mem_filter.mpr ⟨List.mem_of_getElem? (i := 1076) (by decide +kernel), by decide +kernel⟩
theorem tw_1077 : Cond.code yX1_firstOrder cX1_firstOrder 5 (some .boolean) ∈ wT := List.mem_filter.mpr ⟨List.mem_of_getElem? (i := 1077) (by decide +kernel), by decide +kernel⟩
theorem tw_1078 : Cond.methodLink RX1 109 yX1_beginOrders ∈ wT := List.mem_filter.mpr ⟨List.mem_of_getElem? (i := 1078) (by decide +kernel), by decide +kernel⟩
theorem tw_1080 : Cond.instanceMethod yX1_beginOrders ∈ wT := List.mem_filter.mpr ⟨List.mem_of_getElem? (i := 1080) (by decide +kernel), by decide +kernel⟩
theorem tw_1081 : Cond.code yX1_beginOrders cX1_beginOrders 4 (some .int) ∈ wT := List.mem_filter.mpr ⟨List.mem_of_getElem? (i := 1081) (by decide +kernel), by decide +kernel⟩
theorem tw_1082 : Cond.methodLink RX1 113 yX3_everybody ∈ wT := List.mem_filter.mpr ⟨List.mem_of_getElem? (i := 1082) (by decide +kernel), by decide +kernel⟩
theorem tw_1083 : Cond.methodLink RX1 117 yX1_ask ∈ wT := List.mem_filter.mpr ⟨List.mem_of_getElem? (i := 1083) (by decide +kernel), by decide +kernel⟩
theorem tw_1084 : Cond.methodLink RX1 121 yX1_nextOrder ∈ wT := List.mem_filter.mpr ⟨List.mem_of_getElem? (i := 1084) (by decide +kernel), by decide +kernel⟩
theorem tw_1086 : Cond.instanceMethod yX1_nextOrder ∈ wT := List.mem_filter.mpr ⟨List.mem_of_getElem? (i := 1086) (by decide +kernel), by decide +kernel⟩
theorem tw_1087 : Cond.code yX1_nextOrder cX1_nextOrder 7 none ∈ wT := List.mem_filter.mpr ⟨List.mem_of_getElem? (i := 1087) (by decide +kernel), by decide +kernel⟩
theorem tw_1088 : Cond.methodLink RX1 125 yX1_exchange ∈ wT := List.mem_filter.mpr ⟨List.mem_of_getElem? (i := 1088) (by decide +kernel), by decide +kernel⟩
theorem tw_1089 : Cond.static yX1_exchange ∈ wT := List.mem_filter.mpr ⟨List.mem_of_getElem? (i := 1089) (by decide +kernel), by decide +kernel⟩
theorem tw_1090 : Cond.code yX1_exchange cX1_exchange 4 none ∈ wT := List.mem_filter.mpr ⟨List.mem_of_getElem? (i := 1090) (by decide +kernel), by decide +kernel⟩
theorem tw_1095 : Cond.methodLink RX11 237 yX1_countOrders ∈ wT := List.mem_filter.mpr ⟨List.mem_of_getElem? (i := 1095) (by decide +kernel), by decide +kernel⟩
theorem tw_1096 : Cond.instanceMethod yX1_countOrders ∈ wT := List.mem_filter.mpr ⟨List.mem_of_getElem? (i := 1096) (by decide +kernel), by decide +kernel⟩
theorem tw_1097 : Cond.selects (yX1_countOrders).cls yX1_countOrders yX1_countOrders ∈ wT := List.mem_filter.mpr ⟨List.mem_of_getElem? (i := 1097) (by decide +kernel), by decide +kernel⟩
theorem tw_1098 : Cond.code yX1_countOrders cX1_countOrders 6 (some .int) ∈ wT := List.mem_filter.mpr ⟨List.mem_of_getElem? (i := 1098) (by decide +kernel), by decide +kernel⟩
theorem tw_1103 : Cond.methodLink RX11 240 yX1_powerOf ∈ wT := List.mem_filter.mpr ⟨List.mem_of_getElem? (i := 1103) (by decide +kernel), by decide +kernel⟩
theorem tw_1104 : Cond.instanceMethod yX1_powerOf ∈ wT := List.mem_filter.mpr ⟨List.mem_of_getElem? (i := 1104) (by decide +kernel), by decide +kernel⟩
theorem tw_1105 : Cond.selects (yX1_powerOf).cls yX1_powerOf yX1_powerOf ∈ wT := List.mem_filter.mpr ⟨List.mem_of_getElem? (i := 1105) (by decide +kernel), by decide +kernel⟩
theorem tw_1106 : Cond.code yX1_powerOf cX1_powerOf 4 (some .int) ∈ wT := List.mem_filter.mpr ⟨List.mem_of_getElem? (i := 1106) (by decide +kernel), by decide +kernel⟩
theorem tw_1111 : Cond.methodLink RX11 243 yX3_fewestToClear ∈ wT := List.mem_filter.mpr ⟨List.mem_of_getElem? (i := 1111) (by decide +kernel), by decide +kernel⟩
theorem tw_1112 : Cond.instanceMethod yX3_fewestToClear ∈ wT := List.mem_filter.mpr ⟨List.mem_of_getElem? (i := 1112) (by decide +kernel), by decide +kernel⟩
theorem tw_1113 : Cond.selects (yX3_fewestToClear).cls yX3_fewestToClear yX3_fewestToClear ∈ wT := List.mem_filter.mpr ⟨List.mem_of_getElem? (i := 1113) (by decide +kernel), by decide +kernel⟩
theorem tw_1114 : Cond.code yX3_fewestToClear cX3_fewestToClear 7 (some .int) ∈ wT := List.mem_filter.mpr ⟨List.mem_of_getElem? (i := 1114) (by decide +kernel), by decide +kernel⟩
theorem tw_1115 : Cond.methodLink RX3 70 yJ6_bitCount_0f7a4 ∈ wT := List.mem_filter.mpr ⟨List.mem_of_getElem? (i := 1115) (by decide +kernel), by decide +kernel⟩
theorem tw_1116 : Cond.methodLink RX3 76 arraycopyName ∈ wT := List.mem_filter.mpr ⟨List.mem_of_getElem? (i := 1116) (by decide +kernel), by decide +kernel⟩
theorem tw_1117 : Cond.methodLink RX3 82 yX3_canClear ∈ wT := List.mem_filter.mpr ⟨List.mem_of_getElem? (i := 1117) (by decide +kernel), by decide +kernel⟩
theorem tw_1118 : Cond.static yX3_canClear ∈ wT := List.mem_filter.mpr ⟨List.mem_of_getElem? (i := 1118) (by decide +kernel), by decide +kernel⟩
theorem tw_1119 : Cond.code yX3_canClear cX3_canClear 5 (some .boolean) ∈ wT := List.mem_filter.mpr ⟨List.mem_of_getElem? (i := 1119) (by decide +kernel), by decide +kernel⟩
theorem tw_1124 : Cond.methodLink RX11 247 yX1_oddsOf ∈ wT := List.mem_filter.mpr ⟨List.mem_of_getElem? (i := 1124) (by decide +kernel), by decide +kernel⟩
theorem tw_1125 : Cond.instanceMethod yX1_oddsOf ∈ wT := List.mem_filter.mpr ⟨List.mem_of_getElem? (i := 1125) (by decide +kernel), by decide +kernel⟩
theorem tw_1126 : Cond.selects (yX1_oddsOf).cls yX1_oddsOf yX1_oddsOf ∈ wT := List.mem_filter.mpr ⟨List.mem_of_getElem? (i := 1126) (by decide +kernel), by decide +kernel⟩
theorem tw_1127 : Cond.code yX1_oddsOf cX1_oddsOf 6 (some .int) ∈ wT := List.mem_filter.mpr ⟨List.mem_of_getElem? (i := 1127) (by decide +kernel), by decide +kernel⟩
theorem tw_1132 : Cond.methodLink RX11 250 yX2_take ∈ wT := List.mem_filter.mpr ⟨List.mem_of_getElem? (i := 1132) (by decide +kernel), by decide +kernel⟩
theorem tw_1133 : Cond.instanceMethod yX2_take ∈ wT := List.mem_filter.mpr ⟨List.mem_of_getElem? (i := 1133) (by decide +kernel), by decide +kernel⟩
theorem tw_1134 : Cond.selects (yX2_take).cls yX2_take yX2_take ∈ wT := List.mem_filter.mpr ⟨List.mem_of_getElem? (i := 1134) (by decide +kernel), by decide +kernel⟩
theorem tw_1135 : Cond.code yX2_take cX2_take 6 (some .boolean) ∈ wT := List.mem_filter.mpr ⟨List.mem_of_getElem? (i := 1135) (by decide +kernel), by decide +kernel⟩
theorem tw_1136 : Cond.methodLink RX2 51 yX9_byteAt ∈ wT := List.mem_filter.mpr ⟨List.mem_of_getElem? (i := 1136) (by decide +kernel), by decide +kernel⟩
theorem tw_1137 : Cond.methodLink RX2 57 yX3_isThere ∈ wT := List.mem_filter.mpr ⟨List.mem_of_getElem? (i := 1137) (by decide +kernel), by decide +kernel⟩
theorem tw_1142 : Cond.methodLink RX11 254 yX2_left ∈ wT := List.mem_filter.mpr ⟨List.mem_of_getElem? (i := 1142) (by decide +kernel), by decide +kernel⟩
theorem tw_1143 : Cond.instanceMethod yX2_left ∈ wT := List.mem_filter.mpr ⟨List.mem_of_getElem? (i := 1143) (by decide +kernel), by decide +kernel⟩
theorem tw_1144 : Cond.selects (yX2_left).cls yX2_left yX2_left ∈ wT := List.mem_filter.mpr ⟨List.mem_of_getElem? (i := 1144) (by decide +kernel), by decide +kernel⟩
theorem tw_1145 : Cond.code yX2_left cX2_left 9 (some .int) ∈ wT := List.mem_filter.mpr ⟨List.mem_of_getElem? (i := 1145) (by decide +kernel), by decide +kernel⟩
theorem tw_1146 : Cond.methodLink RX2 64 yX1_suppose ∈ wT := List.mem_filter.mpr ⟨List.mem_of_getElem? (i := 1146) (by decide +kernel), by decide +kernel⟩
theorem tw_1147 : Cond.instanceMethod yX1_suppose ∈ wT := List.mem_filter.mpr ⟨List.mem_of_getElem? (i := 1147) (by decide +kernel), by decide +kernel⟩
theorem tw_1148 : Cond.selects (yX1_suppose).cls yX1_suppose yX1_suppose ∈ wT := List.mem_filter.mpr ⟨List.mem_of_getElem? (i := 1148) (by decide +kernel), by decide +kernel⟩
theorem tw_1149 : Cond.code yX1_suppose cX1_suppose 3 none ∈ wT := List.mem_filter.mpr ⟨List.mem_of_getElem? (i := 1149) (by decide +kernel), by decide +kernel⟩
theorem tw_1150 : Cond.methodLink RX2 70 yX7_take ∈ wT := List.mem_filter.mpr ⟨List.mem_of_getElem? (i := 1150) (by decide +kernel), by decide +kernel⟩
theorem tw_1151 : Cond.methodLink RX2 74 yX2_agrees ∈ wT := List.mem_filter.mpr ⟨List.mem_of_getElem? (i := 1151) (by decide +kernel), by decide +kernel⟩
theorem tw_1153 : Cond.instanceMethod yX2_agrees ∈ wT := List.mem_filter.mpr ⟨List.mem_of_getElem? (i := 1153) (by decide +kernel), by decide +kernel⟩
theorem tw_1154 : Cond.code yX2_agrees cX2_agrees 4 (some .boolean) ∈ wT := List.mem_filter.mpr ⟨List.mem_of_getElem? (i := 1154) (by decide +kernel), by decide +kernel⟩
theorem tw_1155 : Cond.methodLink RX2 78 yX0_pass ∈ wT := List.mem_filter.mpr ⟨List.mem_of_getElem? (i := 1155) (by decide +kernel), by decide +kernel⟩
theorem tw_1160 : Cond.methodLink RX11 258 yX2_count ∈ wT := List.mem_filter.mpr ⟨List.mem_of_getElem? (i := 1160) (by decide +kernel), by decide +kernel⟩
theorem tw_1161 : Cond.instanceMethod yX2_count ∈ wT := List.mem_filter.mpr ⟨List.mem_of_getElem? (i := 1161) (by decide +kernel), by decide +kernel⟩
theorem tw_1162 : Cond.selects (yX2_count).cls yX2_count yX2_count ∈ wT := List.mem_filter.mpr ⟨List.mem_of_getElem? (i := 1162) (by decide +kernel), by decide +kernel⟩
theorem tw_1163 : Cond.code yX2_count cX2_count 8 none ∈ wT := List.mem_filter.mpr ⟨List.mem_of_getElem? (i := 1163) (by decide +kernel), by decide +kernel⟩
theorem tw_1164 : Cond.methodLink RX2 87 yJ7_fill_53178 ∈ wT := List.mem_filter.mpr ⟨List.mem_of_getElem? (i := 1164) (by decide +kernel), by decide +kernel⟩
theorem tw_1165 : Cond.methodLink RX2 96 yX2_slotOf ∈ wT := List.mem_filter.mpr ⟨List.mem_of_getElem? (i := 1165) (by decide +kernel), by decide +kernel⟩
theorem tw_1166 : Cond.static yX2_slotOf ∈ wT := List.mem_filter.mpr ⟨List.mem_of_getElem? (i := 1166) (by decide +kernel), by decide +kernel⟩
theorem tw_1167 : Cond.code yX2_slotOf cX2_slotOf 2 (some .int) ∈ wT := List.mem_filter.mpr ⟨List.mem_of_getElem? (i := 1167) (by decide +kernel), by decide +kernel⟩
theorem tw_1168 : Cond.methodLink RX11 261 yX2_findTelling ∈ wT := List.mem_filter.mpr ⟨List.mem_of_getElem? (i := 1168) (by decide +kernel), by decide +kernel⟩
theorem tw_1169 : Cond.instanceMethod yX2_findTelling ∈ wT := List.mem_filter.mpr ⟨List.mem_of_getElem? (i := 1169) (by decide +kernel), by decide +kernel⟩
theorem tw_1170 : Cond.selects (yX2_findTelling).cls yX2_findTelling yX2_findTelling ∈ wT := List.mem_filter.mpr ⟨List.mem_of_getElem? (i := 1170) (by decide +kernel), by decide +kernel⟩
theorem tw_1171 : Cond.code yX2_findTelling cX2_findTelling 8 none ∈ wT := List.mem_filter.mpr ⟨List.mem_of_getElem? (i := 1171) (by decide +kernel), by decide +kernel⟩
theorem tw_1176 : Cond.methodLink RX11 274 yX4_add ∈ wT := List.mem_filter.mpr ⟨List.mem_of_getElem? (i := 1176) (by decide +kernel), by decide +kernel⟩
theorem tw_1177 : Cond.instanceMethod yX4_add ∈ wT := List.mem_filter.mpr ⟨List.mem_of_getElem? (i := 1177) (by decide +kernel), by decide +kernel⟩
theorem tw_1178 : Cond.selects (yX4_add).cls yX4_add yX4_add ∈ wT := List.mem_filter.mpr ⟨List.mem_of_getElem? (i := 1178) (by decide +kernel), by decide +kernel⟩
theorem tw_1179 : Cond.code yX4_add cX4_add 2 none ∈ wT := List.mem_filter.mpr ⟨List.mem_of_getElem? (i := 1179) (by decide +kernel), by decide +kernel⟩
theorem tw_1180 : Cond.methodLink RX4 23 yX7_take ∈ wT := List.mem_filter.mpr ⟨List.mem_of_getElem? (i := 1180) (by decide +kernel), by decide +kernel⟩
theorem tw_1185 : Cond.methodLink RX11 282 yX11_draw ∈ wT := List.mem_filter.mpr ⟨List.mem_of_getElem? (i := 1185) (by decide +kernel), by decide +kernel⟩
theorem tw_1187 : Cond.instanceMethod yX11_draw ∈ wT := List.mem_filter.mpr ⟨List.mem_of_getElem? (i := 1187) (by decide +kernel), by decide +kernel⟩
theorem tw_1188 : Cond.code yX11_draw cX11_draw 2 (some .int) ∈ wT := List.mem_filter.mpr ⟨List.mem_of_getElem? (i := 1188) (by decide +kernel), by decide +kernel⟩
theorem tw_1208 : Cond.methodLink RX11 287 yX4_takeBack ∈ wT := List.mem_filter.mpr ⟨List.mem_of_getElem? (i := 1208) (by decide +kernel), by decide +kernel⟩
theorem tw_1209 : Cond.instanceMethod yX4_takeBack ∈ wT := List.mem_filter.mpr ⟨List.mem_of_getElem? (i := 1209) (by decide +kernel), by decide +kernel⟩
theorem tw_1210 : Cond.selects (yX4_takeBack).cls yX4_takeBack yX4_takeBack ∈ wT := List.mem_filter.mpr ⟨List.mem_of_getElem? (i := 1210) (by decide +kernel), by decide +kernel⟩
theorem tw_1211 : Cond.code yX4_takeBack cX4_takeBack 2 none ∈ wT := List.mem_filter.mpr ⟨List.mem_of_getElem? (i := 1211) (by decide +kernel), by decide +kernel⟩
theorem tw_1220 : Cond.methodLink RX11 290 yX7_keptOf ∈ wT := List.mem_filter.mpr ⟨List.mem_of_getElem? (i := 1220) (by decide +kernel), by decide +kernel⟩
theorem tw_1221 : Cond.instanceMethod yX7_keptOf ∈ wT := List.mem_filter.mpr ⟨List.mem_of_getElem? (i := 1221) (by decide +kernel), by decide +kernel⟩
theorem tw_1222 : Cond.selects (yX7_keptOf).cls yX7_keptOf yX7_keptOf ∈ wT := List.mem_filter.mpr ⟨List.mem_of_getElem? (i := 1222) (by decide +kernel), by decide +kernel⟩
theorem tw_1223 : Cond.code yX7_keptOf cX7_keptOf 3 (some .int) ∈ wT := List.mem_filter.mpr ⟨List.mem_of_getElem? (i := 1223) (by decide +kernel), by decide +kernel⟩
theorem tw_1228 : Cond.methodLink RX11 293 yX5_write ∈ wT := List.mem_filter.mpr ⟨List.mem_of_getElem? (i := 1228) (by decide +kernel), by decide +kernel⟩
theorem tw_1229 : Cond.instanceMethod yX5_write ∈ wT := List.mem_filter.mpr ⟨List.mem_of_getElem? (i := 1229) (by decide +kernel), by decide +kernel⟩
