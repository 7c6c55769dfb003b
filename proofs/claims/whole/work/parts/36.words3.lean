/-! words of the law, by program -/
set_option maxRecDepth 100000 in
theorem zb_678 : Cond.codeWith yL_letter cL_letter 4 (some .int) [(0, 9, 12, 29)] ∈ zBig := zb_of (by decide +kernel) (by decide +kernel)
set_option maxRecDepth 100000 in
theorem zb_679 : Cond.methodLink RL 151 yL_letter ∈ zBig := zb_of (by decide +kernel) (by decide +kernel)
set_option maxRecDepth 100000 in
theorem zb_680 : Cond.static yL_letter ∈ zBig := zb_of (by decide +kernel) (by decide +kernel)
set_option maxRecDepth 100000 in
theorem zb_681 : Cond.initialized RL ∈ zBig := zb_of (by decide +kernel) (by decide +kernel)
set_option maxRecDepth 100000 in
theorem zb_682 : Cond.code yX10_letter cX10_letter 2 (some .int) ∈ zBig := zb_of (by decide +kernel) (by decide +kernel)
set_option maxRecDepth 100000 in
theorem zb_683 : Cond.methodLink RL 153 yX10_letter ∈ zBig := zb_of (by decide +kernel) (by decide +kernel)
set_option maxRecDepth 100000 in
theorem zb_684 : Cond.instanceMethod yX10_letter ∈ zBig := zb_of (by decide +kernel) (by decide +kernel)
set_option maxRecDepth 100000 in
theorem zb_685 : Cond.selects RX10 yX10_letter yX10_letter ∈ zBig := zb_of (by decide +kernel) (by decide +kernel)
set_option maxRecDepth 100000 in
theorem zb_686 : Cond.code yX10_thrown cX10_thrown 1 (some .int) ∈ zBig := zb_of (by decide +kernel) (by decide +kernel)
set_option maxRecDepth 100000 in
theorem zb_687 : Cond.methodLink RL 86 yX10_thrown ∈ zBig := zb_of (by decide +kernel) (by decide +kernel)
set_option maxRecDepth 100000 in
theorem zb_688 : Cond.instanceMethod yX10_thrown ∈ zBig := zb_of (by decide +kernel) (by decide +kernel)
set_option maxRecDepth 100000 in
theorem zb_689 : Cond.selects RX10 yX10_thrown yX10_thrown ∈ zBig := zb_of (by decide +kernel) (by decide +kernel)
set_option maxRecDepth 100000 in
theorem zb_690 : Cond.codeWith yL_differ cL_differ 3 (some .int) [(0, 8, 11, 15)] ∈ zBig := zb_of (by decide +kernel) (by decide +kernel)
set_option maxRecDepth 100000 in
theorem zb_691 : Cond.methodLink RL 148 yL_differ ∈ zBig := zb_of (by decide +kernel) (by decide +kernel)
set_option maxRecDepth 100000 in
theorem zb_692 : Cond.static yL_differ ∈ zBig := zb_of (by decide +kernel) (by decide +kernel)
set_option maxRecDepth 100000 in
theorem zb_693 : Cond.code yX10_differ cX10_differ 7 (some .int) ∈ zBig := zb_of (by decide +kernel) (by decide +kernel)
set_option maxRecDepth 100000 in
theorem zb_694 : Cond.methodLink RL 150 yX10_differ ∈ zBig := zb_of (by decide +kernel) (by decide +kernel)
set_option maxRecDepth 100000 in
theorem zb_695 : Cond.instanceMethod yX10_differ ∈ zBig := zb_of (by decide +kernel) (by decide +kernel)
set_option maxRecDepth 100000 in
theorem zb_696 : Cond.selects RX10 yX10_differ yX10_differ ∈ zBig := zb_of (by decide +kernel) (by decide +kernel)
set_option maxRecDepth 100000 in
theorem zb_697 : Cond.codeWith yL_keep cL_keep 2 (some .int) [(0, 4, 7, 15)] ∈ zBig := zb_of (by decide +kernel) (by decide +kernel)
set_option maxRecDepth 100000 in
theorem zb_698 : Cond.methodLink RL 144 yL_keep ∈ zBig := zb_of (by decide +kernel) (by decide +kernel)
set_option maxRecDepth 100000 in
theorem zb_699 : Cond.static yL_keep ∈ zBig := zb_of (by decide +kernel) (by decide +kernel)
set_option maxRecDepth 100000 in
theorem zb_700 : Cond.code yX10_keep cX10_keep 1 none ∈ zBig := zb_of (by decide +kernel) (by decide +kernel)
set_option maxRecDepth 100000 in
theorem zb_701 : Cond.methodLink RL 147 yX10_keep ∈ zBig := zb_of (by decide +kernel) (by decide +kernel)
set_option maxRecDepth 100000 in
theorem zb_702 : Cond.instanceMethod yX10_keep ∈ zBig := zb_of (by decide +kernel) (by decide +kernel)
set_option maxRecDepth 100000 in
theorem zb_703 : Cond.selects RX10 yX10_keep yX10_keep ∈ zBig := zb_of (by decide +kernel) (by decide +kernel)
set_option maxRecDepth 100000 in
theorem zb_704 : Cond.codeWith yL_classes cL_classes 3 (some .int) [(0, 8, 11, 15)] ∈ zBig := zb_of (by decide +kernel) (by decide +kernel)
set_option maxRecDepth 100000 in
theorem zb_705 : Cond.methodLink RL 141 yL_classes ∈ zBig := zb_of (by decide +kernel) (by decide +kernel)
set_option maxRecDepth 100000 in
theorem zb_706 : Cond.static yL_classes ∈ zBig := zb_of (by decide +kernel) (by decide +kernel)
set_option maxRecDepth 100000 in
theorem zb_707 : Cond.code yX10_classes cX10_classes 7 (some .int) ∈ zBig := zb_of (by decide +kernel) (by decide +kernel)
set_option maxRecDepth 100000 in
theorem zb_708 : Cond.methodLink RL 143 yX10_classes ∈ zBig := zb_of (by decide +kernel) (by decide +kernel)
set_option maxRecDepth 100000 in
theorem zb_709 : Cond.instanceMethod yX10_classes ∈ zBig := zb_of (by decide +kernel) (by decide +kernel)
set_option maxRecDepth 100000 in
theorem zb_710 : Cond.selects RX10 yX10_classes yX10_classes ∈ zBig := zb_of (by decide +kernel) (by decide +kernel)
set_option maxRecDepth 100000 in
theorem zb_711 : Cond.codeWith yL_good cL_good 4 (some .int) [(0, 16, 19, 15), (0, 16, 22, 29)] ∈ zBig := zb_of (by decide +kernel) (by decide +kernel)
set_option maxRecDepth 100000 in
theorem zb_712 : Cond.methodLink RL 137 yL_good ∈ zBig := zb_of (by decide +kernel) (by decide +kernel)
set_option maxRecDepth 100000 in
theorem zb_713 : Cond.static yL_good ∈ zBig := zb_of (by decide +kernel) (by decide +kernel)
set_option maxRecDepth 100000 in
theorem zb_714 : Cond.code yX10_good cX10_good 2 (some .boolean) ∈ zBig := zb_of (by decide +kernel) (by decide +kernel)
set_option maxRecDepth 100000 in
theorem zb_715 : Cond.methodLink RL 140 yX10_good ∈ zBig := zb_of (by decide +kernel) (by decide +kernel)
set_option maxRecDepth 100000 in
theorem zb_716 : Cond.instanceMethod yX10_good ∈ zBig := zb_of (by decide +kernel) (by decide +kernel)
set_option maxRecDepth 100000 in
theorem zb_717 : Cond.selects RX10 yX10_good yX10_good ∈ zBig := zb_of (by decide +kernel) (by decide +kernel)
set_option maxRecDepth 100000 in
theorem zb_718 : Cond.codeWith yL_next cL_next 5 (some .int) [(0, 10, 13, 15), (0, 10, 17, 29)] ∈ zBig := zb_of (by decide +kernel) (by decide +kernel)
set_option maxRecDepth 100000 in
theorem zb_719 : Cond.methodLink RL 134 yL_next ∈ zBig := zb_of (by decide +kernel) (by decide +kernel)
set_option maxRecDepth 100000 in
theorem zb_720 : Cond.static yL_next ∈ zBig := zb_of (by decide +kernel) (by decide +kernel)
set_option maxRecDepth 100000 in
theorem zb_721 : Cond.code yX10_next cX10_next 3 (some .int) ∈ zBig := zb_of (by decide +kernel) (by decide +kernel)
set_option maxRecDepth 100000 in
theorem zb_722 : Cond.methodLink RL 136 yX10_next ∈ zBig := zb_of (by decide +kernel) (by decide +kernel)
set_option maxRecDepth 100000 in
theorem zb_723 : Cond.instanceMethod yX10_next ∈ zBig := zb_of (by decide +kernel) (by decide +kernel)
set_option maxRecDepth 100000 in
theorem zb_724 : Cond.selects RX10 yX10_next yX10_next ∈ zBig := zb_of (by decide +kernel) (by decide +kernel)
set_option maxRecDepth 100000 in
theorem zb_725 : Cond.codeWith yL_states cL_states 3 (some .int) [(0, 8, 11, 15)] ∈ zBig := zb_of (by decide +kernel) (by decide +kernel)
set_option maxRecDepth 100000 in
theorem zb_726 : Cond.methodLink RL 131 yL_states ∈ zBig := zb_of (by decide +kernel) (by decide +kernel)
set_option maxRecDepth 100000 in
theorem zb_727 : Cond.static yL_states ∈ zBig := zb_of (by decide +kernel) (by decide +kernel)
set_option maxRecDepth 100000 in
theorem zb_728 : Cond.code yX10_states cX10_states 1 (some .int) ∈ zBig := zb_of (by decide +kernel) (by decide +kernel)
set_option maxRecDepth 100000 in
theorem zb_729 : Cond.methodLink RL 133 yX10_states ∈ zBig := zb_of (by decide +kernel) (by decide +kernel)
set_option maxRecDepth 100000 in
theorem zb_730 : Cond.instanceMethod yX10_states ∈ zBig := zb_of (by decide +kernel) (by decide +kernel)
set_option maxRecDepth 100000 in
theorem zb_731 : Cond.selects RX10 yX10_states yX10_states ∈ zBig := zb_of (by decide +kernel) (by decide +kernel)
set_option maxRecDepth 100000 in
theorem zb_732 : Cond.code yX10_find cX10_find 3 (some .int) ∈ zBig := zb_of (by decide +kernel) (by decide +kernel)
set_option maxRecDepth 100000 in
theorem zb_733 : Cond.methodLink RL 130 yX10_find ∈ zBig := zb_of (by decide +kernel) (by decide +kernel)
set_option maxRecDepth 100000 in
theorem zb_734 : Cond.instanceMethod yX10_find ∈ zBig := zb_of (by decide +kernel) (by decide +kernel)
set_option maxRecDepth 100000 in
theorem zb_735 : Cond.selects RX10 yX10_find yX10_find ∈ zBig := zb_of (by decide +kernel) (by decide +kernel)
set_option maxRecDepth 100000 in
theorem zb_736 : Cond.codeWith yL_find cL_find 5 (some .int) [(0, 10, 13, 15), (0, 10, 17, 29)] ∈ zBig := zb_of (by decide +kernel) (by decide +kernel)
set_option maxRecDepth 100000 in
theorem zb_737 : Cond.methodLink RL 127 yL_find ∈ zBig := zb_of (by decide +kernel) (by decide +kernel)
set_option maxRecDepth 100000 in
theorem zb_738 : Cond.static yL_find ∈ zBig := zb_of (by decide +kernel) (by decide +kernel)
set_option maxRecDepth 100000 in
theorem zb_739 : Cond.codeWith yL_finds cL_finds 3 (some .int) [(0, 8, 11, 15)] ∈ zBig := zb_of (by decide +kernel) (by decide +kernel)
set_option maxRecDepth 100000 in
theorem zb_740 : Cond.methodLink RL 124 yL_finds ∈ zBig := zb_of (by decide +kernel) (by decide +kernel)
set_option maxRecDepth 100000 in
theorem zb_741 : Cond.static yL_finds ∈ zBig := zb_of (by decide +kernel) (by decide +kernel)
set_option maxRecDepth 100000 in
theorem zb_742 : Cond.code yX10_finds cX10_finds 1 (some .int) ∈ zBig := zb_of (by decide +kernel) (by decide +kernel)
set_option maxRecDepth 100000 in
theorem zb_743 : Cond.methodLink RL 126 yX10_finds ∈ zBig := zb_of (by decide +kernel) (by decide +kernel)
set_option maxRecDepth 100000 in
theorem zb_744 : Cond.instanceMethod yX10_finds ∈ zBig := zb_of (by decide +kernel) (by decide +kernel)
set_option maxRecDepth 100000 in
theorem zb_745 : Cond.selects RX10 yX10_finds yX10_finds ∈ zBig := zb_of (by decide +kernel) (by decide +kernel)
set_option maxRecDepth 100000 in
theorem zb_746 : Cond.codeWith yL_whole cL_whole 3 (some .int) [(0, 15, 18, 15)] ∈ zBig := zb_of (by decide +kernel) (by decide +kernel)
set_option maxRecDepth 100000 in
theorem zb_747 : Cond.methodLink RL 121 yL_whole ∈ zBig := zb_of (by decide +kernel) (by decide +kernel)
set_option maxRecDepth 100000 in
theorem zb_748 : Cond.static yL_whole ∈ zBig := zb_of (by decide +kernel) (by decide +kernel)
set_option maxRecDepth 100000 in
theorem zb_749 : Cond.code yX10_whole cX10_whole 4 (some .boolean) ∈ zBig := zb_of (by decide +kernel) (by decide +kernel)
set_option maxRecDepth 100000 in
theorem zb_750 : Cond.methodLink RL 123 yX10_whole ∈ zBig := zb_of (by decide +kernel) (by decide +kernel)
set_option maxRecDepth 100000 in
theorem zb_751 : Cond.instanceMethod yX10_whole ∈ zBig := zb_of (by decide +kernel) (by decide +kernel)
set_option maxRecDepth 100000 in
theorem zb_752 : Cond.selects RX10 yX10_whole yX10_whole ∈ zBig := zb_of (by decide +kernel) (by decide +kernel)
set_option maxRecDepth 100000 in
theorem zb_753 : Cond.code yX9_clear cX9_clear 2 (some .int) ∈ zBig := zb_of (by decide +kernel) (by decide +kernel)
set_option maxRecDepth 100000 in
theorem zb_754 : Cond.methodLink RL 117 yX9_clear ∈ zBig := zb_of (by decide +kernel) (by decide +kernel)
set_option maxRecDepth 100000 in
theorem zb_755 : Cond.instanceMethod yX9_clear ∈ zBig := zb_of (by decide +kernel) (by decide +kernel)
set_option maxRecDepth 100000 in
theorem zb_756 : Cond.selects RX9 yX9_clear yX9_clear ∈ zBig := zb_of (by decide +kernel) (by decide +kernel)
set_option maxRecDepth 100000 in
theorem zb_757 : Cond.code yX10_clear cX10_clear 2 (some .int) ∈ zBig := zb_of (by decide +kernel) (by decide +kernel)
set_option maxRecDepth 100000 in
theorem zb_758 : Cond.methodLink RL 120 yX10_clear ∈ zBig := zb_of (by decide +kernel) (by decide +kernel)
set_option maxRecDepth 100000 in
theorem zb_759 : Cond.instanceMethod yX10_clear ∈ zBig := zb_of (by decide +kernel) (by decide +kernel)
set_option maxRecDepth 100000 in
theorem zb_760 : Cond.selects RX10 yX10_clear yX10_clear ∈ zBig := zb_of (by decide +kernel) (by decide +kernel)
set_option maxRecDepth 100000 in
theorem zb_761 : Cond.constantLong RL 78 (4294967295) ∈ zBig := zb_of (by decide +kernel) (by decide +kernel)
set_option maxRecDepth 100000 in
theorem zb_762 : Cond.codeWith yL_feed cL_feed 6 (some .int) [(0, 11, 14, 13), (0, 11, 18, 15)] ∈ zBig := zb_of (by decide +kernel) (by decide +kernel)
set_option maxRecDepth 100000 in
theorem zb_763 : Cond.methodLink RL 114 yL_feed ∈ zBig := zb_of (by decide +kernel) (by decide +kernel)
set_option maxRecDepth 100000 in
theorem zb_764 : Cond.static yL_feed ∈ zBig := zb_of (by decide +kernel) (by decide +kernel)
set_option maxRecDepth 100000 in
theorem zb_765 : Cond.code yX10_feed cX10_feed 5 (some .int) ∈ zBig := zb_of (by decide +kernel) (by decide +kernel)
set_option maxRecDepth 100000 in
theorem zb_766 : Cond.methodLink RL 116 yX10_feed ∈ zBig := zb_of (by decide +kernel) (by decide +kernel)
set_option maxRecDepth 100000 in
theorem zb_767 : Cond.instanceMethod yX10_feed ∈ zBig := zb_of (by decide +kernel) (by decide +kernel)
set_option maxRecDepth 100000 in
theorem zb_768 : Cond.selects RX10 yX10_feed yX10_feed ∈ zBig := zb_of (by decide +kernel) (by decide +kernel)
set_option maxRecDepth 100000 in
theorem zb_769 : Cond.codeWith yL_has cL_has 5 (some .int) [(0, 17, 20, 15), (0, 17, 24, 29)] ∈ zBig := zb_of (by decide +kernel) (by decide +kernel)
set_option maxRecDepth 100000 in
theorem zb_770 : Cond.methodLink RL 111 yL_has ∈ zBig := zb_of (by decide +kernel) (by decide +kernel)
set_option maxRecDepth 100000 in
theorem zb_771 : Cond.static yL_has ∈ zBig := zb_of (by decide +kernel) (by decide +kernel)
set_option maxRecDepth 100000 in
theorem zb_772 : Cond.code yX10_has cX10_has 3 (some .boolean) ∈ zBig := zb_of (by decide +kernel) (by decide +kernel)
set_option maxRecDepth 100000 in
theorem zb_773 : Cond.methodLink RL 113 yX10_has ∈ zBig := zb_of (by decide +kernel) (by decide +kernel)
set_option maxRecDepth 100000 in
theorem zb_774 : Cond.instanceMethod yX10_has ∈ zBig := zb_of (by decide +kernel) (by decide +kernel)
set_option maxRecDepth 100000 in
theorem zb_775 : Cond.selects RX10 yX10_has yX10_has ∈ zBig := zb_of (by decide +kernel) (by decide +kernel)
set_option maxRecDepth 100000 in
theorem zb_776 : Cond.codeWith yL_follows cL_follows 5 (some .int) [(0, 17, 20, 15), (0, 17, 24, 29)] ∈ zBig := zb_of (by decide +kernel) (by decide +kernel)
set_option maxRecDepth 100000 in
theorem zb_777 : Cond.methodLink RL 108 yL_follows ∈ zBig := zb_of (by decide +kernel) (by decide +kernel)
set_option maxRecDepth 100000 in
theorem zb_778 : Cond.static yL_follows ∈ zBig := zb_of (by decide +kernel) (by decide +kernel)
set_option maxRecDepth 100000 in
theorem zb_779 : Cond.code yX10_follows cX10_follows 3 (some .boolean) ∈ zBig := zb_of (by decide +kernel) (by decide +kernel)
set_option maxRecDepth 100000 in
theorem zb_780 : Cond.methodLink RL 110 yX10_follows ∈ zBig := zb_of (by decide +kernel) (by decide +kernel)
set_option maxRecDepth 100000 in
theorem zb_781 : Cond.instanceMethod yX10_follows ∈ zBig := zb_of (by decide +kernel) (by decide +kernel)
set_option maxRecDepth 100000 in
theorem zb_782 : Cond.selects RX10 yX10_follows yX10_follows ∈ zBig := zb_of (by decide +kernel) (by decide +kernel)
set_option maxRecDepth 100000 in
theorem zb_783 : Cond.codeWith yL_is cL_is 5 (some .int) [(0, 17, 20, 15), (0, 17, 24, 29), (0, 17, 28, 13)] ∈ zBig := zb_of (by decide +kernel) (by decide +kernel)
set_option maxRecDepth 100000 in
theorem zb_784 : Cond.methodLink RL 104 yL_is ∈ zBig := zb_of (by decide +kernel) (by decide +kernel)
set_option maxRecDepth 100000 in
theorem zb_785 : Cond.static yL_is ∈ zBig := zb_of (by decide +kernel) (by decide +kernel)
set_option maxRecDepth 100000 in
theorem zb_786 : Cond.code yX10_is cX10_is 3 (some .boolean) ∈ zBig := zb_of (by decide +kernel) (by decide +kernel)
set_option maxRecDepth 100000 in
theorem zb_787 : Cond.methodLink RL 107 yX10_is ∈ zBig := zb_of (by decide +kernel) (by decide +kernel)
set_option maxRecDepth 100000 in
theorem zb_788 : Cond.instanceMethod yX10_is ∈ zBig := zb_of (by decide +kernel) (by decide +kernel)
set_option maxRecDepth 100000 in
theorem zb_789 : Cond.selects RX10 yX10_is yX10_is ∈ zBig := zb_of (by decide +kernel) (by decide +kernel)
set_option maxRecDepth 100000 in
theorem zb_790 : Cond.codeWith yL_empty cL_empty 3 (some .int) [(0, 15, 18, 15)] ∈ zBig := zb_of (by decide +kernel) (by decide +kernel)
set_option maxRecDepth 100000 in
theorem zb_791 : Cond.methodLink RL 101 yL_empty ∈ zBig := zb_of (by decide +kernel) (by decide +kernel)
set_option maxRecDepth 100000 in
theorem zb_792 : Cond.static yL_empty ∈ zBig := zb_of (by decide +kernel) (by decide +kernel)
set_option maxRecDepth 100000 in
theorem zb_793 : Cond.code yX10_empty cX10_empty 1 (some .boolean) ∈ zBig := zb_of (by decide +kernel) (by decide +kernel)
set_option maxRecDepth 100000 in
theorem zb_794 : Cond.methodLink RL 103 yX10_empty ∈ zBig := zb_of (by decide +kernel) (by decide +kernel)
set_option maxRecDepth 100000 in
theorem zb_795 : Cond.instanceMethod yX10_empty ∈ zBig := zb_of (by decide +kernel) (by decide +kernel)
set_option maxRecDepth 100000 in
theorem zb_796 : Cond.selects RX10 yX10_empty yX10_empty ∈ zBig := zb_of (by decide +kernel) (by decide +kernel)
set_option maxRecDepth 100000 in
theorem zb_797 : Cond.codeWith yL_positions cL_positions 3 (some .int) [(0, 8, 11, 15)] ∈ zBig := zb_of (by decide +kernel) (by decide +kernel)
set_option maxRecDepth 100000 in
theorem zb_798 : Cond.methodLink RL 97 yL_positions ∈ zBig := zb_of (by decide +kernel) (by decide +kernel)
set_option maxRecDepth 100000 in
theorem zb_799 : Cond.static yL_positions ∈ zBig := zb_of (by decide +kernel) (by decide +kernel)
set_option maxRecDepth 100000 in
theorem zb_800 : Cond.code yX10_positions cX10_positions 1 (some .int) ∈ zBig := zb_of (by decide +kernel) (by decide +kernel)
set_option maxRecDepth 100000 in
theorem zb_801 : Cond.methodLink RL 100 yX10_positions ∈ zBig := zb_of (by decide +kernel) (by decide +kernel)
set_option maxRecDepth 100000 in
theorem zb_802 : Cond.instanceMethod yX10_positions ∈ zBig := zb_of (by decide +kernel) (by decide +kernel)
set_option maxRecDepth 100000 in
theorem zb_803 : Cond.selects RX10 yX10_positions yX10_positions ∈ zBig := zb_of (by decide +kernel) (by decide +kernel)
set_option maxRecDepth 100000 in
theorem zb_804 : Cond.code yX9_place cX9_place 1 (some .int) ∈ zBig := zb_of (by decide +kernel) (by decide +kernel)
set_option maxRecDepth 100000 in
theorem zb_805 : Cond.methodLink RL 93 yX9_place ∈ zBig := zb_of (by decide +kernel) (by decide +kernel)
set_option maxRecDepth 100000 in
theorem zb_806 : Cond.instanceMethod yX9_place ∈ zBig := zb_of (by decide +kernel) (by decide +kernel)
set_option maxRecDepth 100000 in
theorem zb_807 : Cond.selects RX9 yX9_place yX9_place ∈ zBig := zb_of (by decide +kernel) (by decide +kernel)
set_option maxRecDepth 100000 in
theorem zb_808 : Cond.code yX10_place cX10_place 1 (some .int) ∈ zBig := zb_of (by decide +kernel) (by decide +kernel)
set_option maxRecDepth 100000 in
theorem zb_809 : Cond.methodLink RL 96 yX10_place ∈ zBig := zb_of (by decide +kernel) (by decide +kernel)
set_option maxRecDepth 100000 in
theorem zb_810 : Cond.instanceMethod yX10_place ∈ zBig := zb_of (by decide +kernel) (by decide +kernel)
set_option maxRecDepth 100000 in
theorem zb_811 : Cond.selects RX10 yX10_place yX10_place ∈ zBig := zb_of (by decide +kernel) (by decide +kernel)
set_option maxRecDepth 100000 in
theorem zb_812 : Cond.code yX9_read cX9_read 3 (some .int) ∈ zBig := zb_of (by decide +kernel) (by decide +kernel)
set_option maxRecDepth 100000 in
theorem zb_813 : Cond.methodLink RL 89 yX9_read ∈ zBig := zb_of (by decide +kernel) (by decide +kernel)
set_option maxRecDepth 100000 in
theorem zb_814 : Cond.instanceMethod yX9_read ∈ zBig := zb_of (by decide +kernel) (by decide +kernel)
set_option maxRecDepth 100000 in
theorem zb_815 : Cond.selects RX9 yX9_read yX9_read ∈ zBig := zb_of (by decide +kernel) (by decide +kernel)
set_option maxRecDepth 100000 in
theorem zb_816 : Cond.code yX10_read cX10_read 1 (some .int) ∈ zBig := zb_of (by decide +kernel) (by decide +kernel)
set_option maxRecDepth 100000 in
theorem zb_817 : Cond.methodLink RL 92 yX10_read ∈ zBig := zb_of (by decide +kernel) (by decide +kernel)
set_option maxRecDepth 100000 in
theorem zb_818 : Cond.instanceMethod yX10_read ∈ zBig := zb_of (by decide +kernel) (by decide +kernel)
set_option maxRecDepth 100000 in
theorem zb_819 : Cond.selects RX10 yX10_read yX10_read ∈ zBig := zb_of (by decide +kernel) (by decide +kernel)
set_option maxRecDepth 100000 in
theorem zb_820 : Cond.codeWith yL_type cL_type 6 (some .int) [(0, 11, 14, 13), (0, 11, 18, 15)] ∈ zBig := zb_of (by decide +kernel) (by decide +kernel)
set_option maxRecDepth 100000 in
theorem zb_821 : Cond.methodLink RL 80 yL_type ∈ zBig := zb_of (by decide +kernel) (by decide +kernel)
set_option maxRecDepth 100000 in
theorem zb_822 : Cond.static yL_type ∈ zBig := zb_of (by decide +kernel) (by decide +kernel)
set_option maxRecDepth 100000 in
theorem zb_823 : Cond.code yX10_type cX10_type 5 (some .int) ∈ zBig := zb_of (by decide +kernel) (by decide +kernel)
set_option maxRecDepth 100000 in
theorem zb_824 : Cond.methodLink RL 85 yX10_type ∈ zBig := zb_of (by decide +kernel) (by decide +kernel)
set_option maxRecDepth 100000 in
theorem zb_825 : Cond.instanceMethod yX10_type ∈ zBig := zb_of (by decide +kernel) (by decide +kernel)
set_option maxRecDepth 100000 in
theorem zb_826 : Cond.selects RX10 yX10_type yX10_type ∈ zBig := zb_of (by decide +kernel) (by decide +kernel)
set_option maxRecDepth 100000 in
theorem zb_827 : Cond.classLink RL 8 RX9 ∈ zBig := zb_of (by decide +kernel) (by decide +kernel)
set_option maxRecDepth 100000 in
theorem zb_828 : Cond.instantiable RX9 8 ∈ zBig := zb_of (by decide +kernel) (by decide +kernel)
set_option maxRecDepth 100000 in
theorem zb_829 : Cond.code yX9_init cX9_init 1 none ∈ zBig := zb_of (by decide +kernel) (by decide +kernel)
set_option maxRecDepth 100000 in
theorem zb_830 : Cond.methodLink RL 74 yX9_init ∈ zBig := zb_of (by decide +kernel) (by decide +kernel)
set_option maxRecDepth 100000 in
theorem zb_831 : Cond.instanceMethod yX9_init ∈ zBig := zb_of (by decide +kernel) (by decide +kernel)
set_option maxRecDepth 100000 in
theorem zb_832 : Cond.classLink RL 75 RX10 ∈ zBig := zb_of (by decide +kernel) (by decide +kernel)
set_option maxRecDepth 100000 in
theorem zb_833 : Cond.instantiable RX10 43 ∈ zBig := zb_of (by decide +kernel) (by decide +kernel)
set_option maxRecDepth 100000 in
theorem zb_834 : Cond.code yX10_init cX10_init 1 none ∈ zBig := zb_of (by decide +kernel) (by decide +kernel)
set_option maxRecDepth 100000 in
theorem zb_835 : Cond.methodLink RL 77 yX10_init ∈ zBig := zb_of (by decide +kernel) (by decide +kernel)
set_option maxRecDepth 100000 in
theorem zb_836 : Cond.instanceMethod yX10_init ∈ zBig := zb_of (by decide +kernel) (by decide +kernel)
