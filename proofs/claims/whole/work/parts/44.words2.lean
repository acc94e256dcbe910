theorem mw_653 : (.methodLink RL 13 yX9_act : Cond) ∈ lw_U := List.mem_filter.mpr ⟨lw_in2 (List.mem_of_getElem? (i := 39) (by decide +kernel)), by decide +kernel⟩
theorem mw_654 : (.code yX9_act cX9_act 4 (some .int) : Cond) ∈ lw_U := List.mem_filter.mpr ⟨lw_in2 (List.mem_of_getElem? (i := 42) (by decide +kernel)), by decide +kernel⟩
theorem mw_655 : (.instanceMethod yX9_act : Cond) ∈ lw_U := List.mem_filter.mpr ⟨lw_in2 (List.mem_of_getElem? (i := 40) (by decide +kernel)), by decide +kernel⟩
theorem mw_656 : (.selects RX9 yX9_act yX9_act : Cond) ∈ lw_U := List.mem_filter.mpr ⟨lw_in2 (List.mem_of_getElem? (i := 41) (by decide +kernel)), by decide +kernel⟩
theorem mw_657 : (.methodLink RL 17 yX10_act : Cond) ∈ lw_U := List.mem_filter.mpr ⟨lw_in4 (List.mem_of_getElem? (i := 118) (by decide +kernel)), by decide +kernel⟩
theorem mw_658 : (.code yX10_act cX10_act 4 (some .int) : Cond) ∈ lw_U := List.mem_filter.mpr ⟨lw_in4 (List.mem_of_getElem? (i := 121) (by decide +kernel)), by decide +kernel⟩
theorem mw_659 : (.instanceMethod yX10_act : Cond) ∈ lw_U := List.mem_filter.mpr ⟨lw_in4 (List.mem_of_getElem? (i := 119) (by decide +kernel)), by decide +kernel⟩
theorem mw_660 : (.selects RX10 yX10_act yX10_act : Cond) ∈ lw_U := List.mem_filter.mpr ⟨lw_in4 (List.mem_of_getElem? (i := 120) (by decide +kernel)), by decide +kernel⟩
theorem mw_661 : (.methodLink RL 18 yX9_way : Cond) ∈ lw_U := List.mem_filter.mpr ⟨lw_in2 (List.mem_of_getElem? (i := 62) (by decide +kernel)), by decide +kernel⟩
theorem mw_662 : (.code yX9_way cX9_way 5 (some .int) : Cond) ∈ lw_U := List.mem_filter.mpr ⟨lw_in2 (List.mem_of_getElem? (i := 65) (by decide +kernel)), by decide +kernel⟩
theorem mw_663 : (.instanceMethod yX9_way : Cond) ∈ lw_U := List.mem_filter.mpr ⟨lw_in2 (List.mem_of_getElem? (i := 63) (by decide +kernel)), by decide +kernel⟩
theorem mw_664 : (.selects RX9 yX9_way yX9_way : Cond) ∈ lw_U := List.mem_filter.mpr ⟨lw_in2 (List.mem_of_getElem? (i := 64) (by decide +kernel)), by decide +kernel⟩
theorem mw_665 : (.methodLink RL 22 yX10_way : Cond) ∈ lw_U := List.mem_filter.mpr ⟨lw_in4 (List.mem_of_getElem? (i := 128) (by decide +kernel)), by decide +kernel⟩
theorem mw_666 : (.code yX10_way cX10_way 5 (some .int) : Cond) ∈ lw_U := List.mem_filter.mpr ⟨lw_in4 (List.mem_of_getElem? (i := 131) (by decide +kernel)), by decide +kernel⟩
theorem mw_667 : (.instanceMethod yX10_way : Cond) ∈ lw_U := List.mem_filter.mpr ⟨lw_in4 (List.mem_of_getElem? (i := 129) (by decide +kernel)), by decide +kernel⟩
theorem mw_668 : (.selects RX10 yX10_way yX10_way : Cond) ∈ lw_U := List.mem_filter.mpr ⟨lw_in4 (List.mem_of_getElem? (i := 130) (by decide +kernel)), by decide +kernel⟩
theorem mw_669 : (.methodLink RL 23 yX9_token : Cond) ∈ lw_U := List.mem_filter.mpr ⟨lw_in2 (List.mem_of_getElem? (i := 81) (by decide +kernel)), by decide +kernel⟩
theorem mw_670 : (.code yX9_token cX9_token 4 (some .int) : Cond) ∈ lw_U := List.mem_filter.mpr ⟨lw_in2 (List.mem_of_getElem? (i := 84) (by decide +kernel)), by decide +kernel⟩
theorem mw_671 : (.instanceMethod yX9_token : Cond) ∈ lw_U := List.mem_filter.mpr ⟨lw_in2 (List.mem_of_getElem? (i := 82) (by decide +kernel)), by decide +kernel⟩
theorem mw_672 : (.selects RX9 yX9_token yX9_token : Cond) ∈ lw_U := List.mem_filter.mpr ⟨lw_in2 (List.mem_of_getElem? (i := 83) (by decide +kernel)), by decide +kernel⟩
theorem mw_673 : (.methodLink RL 26 yX10_token : Cond) ∈ lw_U := List.mem_filter.mpr ⟨lw_in4 (List.mem_of_getElem? (i := 136) (by decide +kernel)), by decide +kernel⟩
theorem mw_674 : (.code yX10_token cX10_token 4 (some .int) : Cond) ∈ lw_U := List.mem_filter.mpr ⟨lw_in4 (List.mem_of_getElem? (i := 139) (by decide +kernel)), by decide +kernel⟩
theorem mw_675 : (.instanceMethod yX10_token : Cond) ∈ lw_U := List.mem_filter.mpr ⟨lw_in4 (List.mem_of_getElem? (i := 137) (by decide +kernel)), by decide +kernel⟩
theorem mw_676 : (.selects RX10 yX10_token yX10_token : Cond) ∈ lw_U := List.mem_filter.mpr ⟨lw_in4 (List.mem_of_getElem? (i := 138) (by decide +kernel)), by decide +kernel⟩
theorem mw_677 : (.methodLink RL 27 yX9_clear : Cond) ∈ lw_U := List.mem_filter.mpr ⟨lw_in2 (List.mem_of_getElem? (i := 89) (by decide +kernel)), by decide +kernel⟩
theorem mw_678 : (.code yX9_clear cX9_clear 2 (some .boolean) : Cond) ∈ lw_U := List.mem_filter.mpr ⟨lw_in2 (List.mem_of_getElem? (i := 92) (by decide +kernel)), by decide +kernel⟩
theorem mw_679 : (.instanceMethod yX9_clear : Cond) ∈ lw_U := List.mem_filter.mpr ⟨lw_in2 (List.mem_of_getElem? (i := 90) (by decide +kernel)), by decide +kernel⟩
theorem mw_680 : (.selects RX9 yX9_clear yX9_clear : Cond) ∈ lw_U := List.mem_filter.mpr ⟨lw_in2 (List.mem_of_getElem? (i := 91) (by decide +kernel)), by decide +kernel⟩
theorem mw_681 : (.methodLink RL 31 yX10_clear : Cond) ∈ lw_U := List.mem_filter.mpr ⟨lw_in4 (List.mem_of_getElem? (i := 140) (by decide +kernel)), by decide +kernel⟩
theorem mw_682 : (.code yX10_clear cX10_clear 2 (some .boolean) : Cond) ∈ lw_U := List.mem_filter.mpr ⟨lw_in4 (List.mem_of_getElem? (i := 143) (by decide +kernel)), by decide +kernel⟩
theorem mw_683 : (.instanceMethod yX10_clear : Cond) ∈ lw_U := List.mem_filter.mpr ⟨lw_in4 (List.mem_of_getElem? (i := 141) (by decide +kernel)), by decide +kernel⟩
theorem mw_684 : (.selects RX10 yX10_clear yX10_clear : Cond) ∈ lw_U := List.mem_filter.mpr ⟨lw_in4 (List.mem_of_getElem? (i := 142) (by decide +kernel)), by decide +kernel⟩
theorem mw_685 : (.methodLink RL 32 yX9_run : Cond) ∈ lw_U := List.mem_filter.mpr ⟨lw_in2 (List.mem_of_getElem? (i := 105) (by decide +kernel)), by decide +kernel⟩
theorem mw_686 : (.code yX9_run cX9_run 3 (some .int) : Cond) ∈ lw_U := List.mem_filter.mpr ⟨lw_in2 (List.mem_of_getElem? (i := 108) (by decide +kernel)), by decide +kernel⟩
theorem mw_687 : (.instanceMethod yX9_run : Cond) ∈ lw_U := List.mem_filter.mpr ⟨lw_in2 (List.mem_of_getElem? (i := 106) (by decide +kernel)), by decide +kernel⟩
theorem mw_688 : (.selects RX9 yX9_run yX9_run : Cond) ∈ lw_U := List.mem_filter.mpr ⟨lw_in2 (List.mem_of_getElem? (i := 107) (by decide +kernel)), by decide +kernel⟩
theorem mw_689 : (.methodLink RL 36 yX10_run : Cond) ∈ lw_U := List.mem_filter.mpr ⟨lw_in4 (List.mem_of_getElem? (i := 144) (by decide +kernel)), by decide +kernel⟩
theorem mw_690 : (.methodLink RL 37 yX9_ticks : Cond) ∈ lw_U := List.mem_filter.mpr ⟨lw_in3 (List.mem_of_getElem? (i := 107) (by decide +kernel)), by decide +kernel⟩
theorem mw_691 : (.code yX9_ticks cX9_ticks 2 (some .int) : Cond) ∈ lw_U := List.mem_filter.mpr ⟨lw_in3 (List.mem_of_getElem? (i := 110) (by decide +kernel)), by decide +kernel⟩
theorem mw_692 : (.instanceMethod yX9_ticks : Cond) ∈ lw_U := List.mem_filter.mpr ⟨lw_in3 (List.mem_of_getElem? (i := 108) (by decide +kernel)), by decide +kernel⟩
theorem mw_693 : (.selects RX9 yX9_ticks yX9_ticks : Cond) ∈ lw_U := List.mem_filter.mpr ⟨lw_in3 (List.mem_of_getElem? (i := 109) (by decide +kernel)), by decide +kernel⟩
theorem mw_694 : (.methodLink RL 41 yX10_ticks : Cond) ∈ lw_U := List.mem_filter.mpr ⟨lw_in4 (List.mem_of_getElem? (i := 237) (by decide +kernel)), by decide +kernel⟩
theorem mw_695 : (.code yX10_ticks cX10_ticks 5 (some .int) : Cond) ∈ lw_U := List.mem_filter.mpr ⟨lw_in5 (List.mem_of_getElem? (i := 0) (by decide +kernel)), by decide +kernel⟩
theorem mw_696 : (.instanceMethod yX10_ticks : Cond) ∈ lw_U := List.mem_filter.mpr ⟨lw_in4 (List.mem_of_getElem? (i := 238) (by decide +kernel)), by decide +kernel⟩
theorem mw_697 : (.selects RX10 yX10_ticks yX10_ticks : Cond) ∈ lw_U := List.mem_filter.mpr ⟨lw_in4 (List.mem_of_getElem? (i := 239) (by decide +kernel)), by decide +kernel⟩
theorem mw_698 : (.methodLink RL 42 yX9_about : Cond) ∈ lw_U := List.mem_filter.mpr ⟨lw_in3 (List.mem_of_getElem? (i := 122) (by decide +kernel)), by decide +kernel⟩
theorem mw_699 : (.code yX9_about cX9_about 2 (some .int) : Cond) ∈ lw_U := List.mem_filter.mpr ⟨lw_in3 (List.mem_of_getElem? (i := 125) (by decide +kernel)), by decide +kernel⟩
theorem mw_700 : (.instanceMethod yX9_about : Cond) ∈ lw_U := List.mem_filter.mpr ⟨lw_in3 (List.mem_of_getElem? (i := 123) (by decide +kernel)), by decide +kernel⟩
theorem mw_701 : (.selects RX9 yX9_about yX9_about : Cond) ∈ lw_U := List.mem_filter.mpr ⟨lw_in3 (List.mem_of_getElem? (i := 124) (by decide +kernel)), by decide +kernel⟩
theorem mw_702 : (.methodLink RL 45 yX10_about : Cond) ∈ lw_U := List.mem_filter.mpr ⟨lw_in5 (List.mem_of_getElem? (i := 1) (by decide +kernel)), by decide +kernel⟩
theorem mw_703 : (.code yX10_about cX10_about 2 (some .int) : Cond) ∈ lw_U := List.mem_filter.mpr ⟨lw_in5 (List.mem_of_getElem? (i := 4) (by decide +kernel)), by decide +kernel⟩
theorem mw_704 : (.instanceMethod yX10_about : Cond) ∈ lw_U := List.mem_filter.mpr ⟨lw_in5 (List.mem_of_getElem? (i := 2) (by decide +kernel)), by decide +kernel⟩
theorem mw_705 : (.selects RX10 yX10_about yX10_about : Cond) ∈ lw_U := List.mem_filter.mpr ⟨lw_in5 (List.mem_of_getElem? (i := 3) (by decide +kernel)), by decide +kernel⟩
theorem mw_706 : (.methodLink RL 46 yX9_end : Cond) ∈ lw_U := List.mem_filter.mpr ⟨lw_in3 (List.mem_of_getElem? (i := 130) (by decide +kernel)), by decide +kernel⟩
theorem mw_707 : (.code yX9_end cX9_end 3 (some .int) : Cond) ∈ lw_U := List.mem_filter.mpr ⟨lw_in3 (List.mem_of_getElem? (i := 133) (by decide +kernel)), by decide +kernel⟩
theorem mw_708 : (.instanceMethod yX9_end : Cond) ∈ lw_U := List.mem_filter.mpr ⟨lw_in3 (List.mem_of_getElem? (i := 131) (by decide +kernel)), by decide +kernel⟩
theorem mw_709 : (.selects RX9 yX9_end yX9_end : Cond) ∈ lw_U := List.mem_filter.mpr ⟨lw_in3 (List.mem_of_getElem? (i := 132) (by decide +kernel)), by decide +kernel⟩
theorem mw_710 : (.methodLink RL 49 yX10_end : Cond) ∈ lw_U := List.mem_filter.mpr ⟨lw_in5 (List.mem_of_getElem? (i := 13) (by decide +kernel)), by decide +kernel⟩
theorem mw_711 : (.methodLink RL 50 yX9_fired : Cond) ∈ lw_U := List.mem_filter.mpr ⟨lw_in3 (List.mem_of_getElem? (i := 141) (by decide +kernel)), by decide +kernel⟩
theorem mw_712 : (.code yX9_fired cX9_fired 2 (some .int) : Cond) ∈ lw_U := List.mem_filter.mpr ⟨lw_in3 (List.mem_of_getElem? (i := 144) (by decide +kernel)), by decide +kernel⟩
theorem mw_713 : (.instanceMethod yX9_fired : Cond) ∈ lw_U := List.mem_filter.mpr ⟨lw_in3 (List.mem_of_getElem? (i := 142) (by decide +kernel)), by decide +kernel⟩
theorem mw_714 : (.selects RX9 yX9_fired yX9_fired : Cond) ∈ lw_U := List.mem_filter.mpr ⟨lw_in3 (List.mem_of_getElem? (i := 143) (by decide +kernel)), by decide +kernel⟩
theorem mw_715 : (.methodLink RL 53 yX10_fired : Cond) ∈ lw_U := List.mem_filter.mpr ⟨lw_in5 (List.mem_of_getElem? (i := 21) (by decide +kernel)), by decide +kernel⟩
theorem mw_716 : (.code yX10_fired cX10_fired 2 (some .int) : Cond) ∈ lw_U := List.mem_filter.mpr ⟨lw_in5 (List.mem_of_getElem? (i := 24) (by decide +kernel)), by decide +kernel⟩
theorem mw_717 : (.instanceMethod yX10_fired : Cond) ∈ lw_U := List.mem_filter.mpr ⟨lw_in5 (List.mem_of_getElem? (i := 22) (by decide +kernel)), by decide +kernel⟩
theorem mw_718 : (.selects RX10 yX10_fired yX10_fired : Cond) ∈ lw_U := List.mem_filter.mpr ⟨lw_in5 (List.mem_of_getElem? (i := 23) (by decide +kernel)), by decide +kernel⟩
theorem mw_719 : (.methodLink RL 54 yX9_cell : Cond) ∈ lw_U := List.mem_filter.mpr ⟨lw_in3 (List.mem_of_getElem? (i := 146) (by decide +kernel)), by decide +kernel⟩
theorem mw_720 : (.code yX9_cell cX9_cell 5 (some .int) : Cond) ∈ lw_U := List.mem_filter.mpr ⟨lw_in3 (List.mem_of_getElem? (i := 149) (by decide +kernel)), by decide +kernel⟩
theorem mw_721 : (.instanceMethod yX9_cell : Cond) ∈ lw_U := List.mem_filter.mpr ⟨lw_in3 (List.mem_of_getElem? (i := 147) (by decide +kernel)), by decide +kernel⟩
theorem mw_722 : (.selects RX9 yX9_cell yX9_cell : Cond) ∈ lw_U := List.mem_filter.mpr ⟨lw_in3 (List.mem_of_getElem? (i := 148) (by decide +kernel)), by decide +kernel⟩
theorem mw_723 : (.methodLink RL 57 yX10_cell : Cond) ∈ lw_U := List.mem_filter.mpr ⟨lw_in5 (List.mem_of_getElem? (i := 25) (by decide +kernel)), by decide +kernel⟩
theorem mw_724 : (.code yX10_cell cX10_cell 6 (some .int) : Cond) ∈ lw_U := List.mem_filter.mpr ⟨lw_in5 (List.mem_of_getElem? (i := 28) (by decide +kernel)), by decide +kernel⟩
theorem mw_725 : (.instanceMethod yX10_cell : Cond) ∈ lw_U := List.mem_filter.mpr ⟨lw_in5 (List.mem_of_getElem? (i := 26) (by decide +kernel)), by decide +kernel⟩
theorem mw_726 : (.selects RX10 yX10_cell yX10_cell : Cond) ∈ lw_U := List.mem_filter.mpr ⟨lw_in5 (List.mem_of_getElem? (i := 27) (by decide +kernel)), by decide +kernel⟩
theorem mw_727 : (.methodLink RL 58 yX9_told : Cond) ∈ lw_U := List.mem_filter.mpr ⟨lw_in3 (List.mem_of_getElem? (i := 151) (by decide +kernel)), by decide +kernel⟩
theorem mw_728 : (.code yX9_told cX9_told 3 (some .int) : Cond) ∈ lw_U := List.mem_filter.mpr ⟨lw_in3 (List.mem_of_getElem? (i := 154) (by decide +kernel)), by decide +kernel⟩
theorem mw_729 : (.instanceMethod yX9_told : Cond) ∈ lw_U := List.mem_filter.mpr ⟨lw_in3 (List.mem_of_getElem? (i := 152) (by decide +kernel)), by decide +kernel⟩
theorem mw_730 : (.selects RX9 yX9_told yX9_told : Cond) ∈ lw_U := List.mem_filter.mpr ⟨lw_in3 (List.mem_of_getElem? (i := 153) (by decide +kernel)), by decide +kernel⟩
theorem mw_731 : (.methodLink RL 61 yX10_told : Cond) ∈ lw_U := List.mem_filter.mpr ⟨lw_in5 (List.mem_of_getElem? (i := 29) (by decide +kernel)), by decide +kernel⟩
theorem mw_732 : (.code yX10_told cX10_told 5 (some .int) : Cond) ∈ lw_U := List.mem_filter.mpr ⟨lw_in5 (List.mem_of_getElem? (i := 32) (by decide +kernel)), by decide +kernel⟩
theorem mw_733 : (.instanceMethod yX10_told : Cond) ∈ lw_U := List.mem_filter.mpr ⟨lw_in5 (List.mem_of_getElem? (i := 30) (by decide +kernel)), by decide +kernel⟩
theorem mw_734 : (.selects RX10 yX10_told yX10_told : Cond) ∈ lw_U := List.mem_filter.mpr ⟨lw_in5 (List.mem_of_getElem? (i := 31) (by decide +kernel)), by decide +kernel⟩
theorem mw_735 : (.methodLink RL 62 yX9_beside : Cond) ∈ lw_U := List.mem_filter.mpr ⟨lw_in3 (List.mem_of_getElem? (i := 164) (by decide +kernel)), by decide +kernel⟩
theorem mw_736 : (.code yX9_beside cX9_beside 4 (some .int) : Cond) ∈ lw_U := List.mem_filter.mpr ⟨lw_in3 (List.mem_of_getElem? (i := 167) (by decide +kernel)), by decide +kernel⟩
theorem mw_737 : (.instanceMethod yX9_beside : Cond) ∈ lw_U := List.mem_filter.mpr ⟨lw_in3 (List.mem_of_getElem? (i := 165) (by decide +kernel)), by decide +kernel⟩
theorem mw_738 : (.selects RX9 yX9_beside yX9_beside : Cond) ∈ lw_U := List.mem_filter.mpr ⟨lw_in3 (List.mem_of_getElem? (i := 166) (by decide +kernel)), by decide +kernel⟩
theorem mw_739 : (.methodLink RL 65 yX10_beside : Cond) ∈ lw_U := List.mem_filter.mpr ⟨lw_in5 (List.mem_of_getElem? (i := 33) (by decide +kernel)), by decide +kernel⟩
theorem mw_740 : (.code yX10_beside cX10_beside 5 (some .int) : Cond) ∈ lw_U := List.mem_filter.mpr ⟨lw_in5 (List.mem_of_getElem? (i := 36) (by decide +kernel)), by decide +kernel⟩
theorem mw_741 : (.instanceMethod yX10_beside : Cond) ∈ lw_U := List.mem_filter.mpr ⟨lw_in5 (List.mem_of_getElem? (i := 34) (by decide +kernel)), by decide +kernel⟩
theorem mw_742 : (.selects RX10 yX10_beside yX10_beside : Cond) ∈ lw_U := List.mem_filter.mpr ⟨lw_in5 (List.mem_of_getElem? (i := 35) (by decide +kernel)), by decide +kernel⟩
theorem mw_743 : (.instantiable RX9 5 : Cond) ∈ lw_U := List.mem_filter.mpr ⟨lw_in1 (List.mem_of_getElem? (i := 16) (by decide +kernel)), by decide +kernel⟩
theorem mw_744 : (.instantiable RX10 57 : Cond) ∈ lw_U := List.mem_filter.mpr ⟨lw_in3 (List.mem_of_getElem? (i := 181) (by decide +kernel)), by decide +kernel⟩
theorem mw_745 : (.classLink RL 7 RX9 : Cond) ∈ lw_U := List.mem_filter.mpr ⟨lw_in1 (List.mem_of_getElem? (i := 15) (by decide +kernel)), by decide +kernel⟩
theorem mw_746 : (.instanceMethod yX9_init : Cond) ∈ lw_U := List.mem_filter.mpr ⟨lw_in1 (List.mem_of_getElem? (i := 18) (by decide +kernel)), by decide +kernel⟩
theorem mw_747 : (.code yX9_init cX9_init 1 none : Cond) ∈ lw_U := List.mem_filter.mpr ⟨lw_in1 (List.mem_of_getElem? (i := 19) (by decide +kernel)), by decide +kernel⟩
theorem mw_748 : (.methodLink RL 9 yX9_init : Cond) ∈ lw_U := List.mem_filter.mpr ⟨lw_in1 (List.mem_of_getElem? (i := 17) (by decide +kernel)), by decide +kernel⟩
theorem mw_749 : (.classLink RL 10 RX10 : Cond) ∈ lw_U := List.mem_filter.mpr ⟨lw_in3 (List.mem_of_getElem? (i := 180) (by decide +kernel)), by decide +kernel⟩
theorem mw_750 : (.instanceMethod yX10_init : Cond) ∈ lw_U := List.mem_filter.mpr ⟨lw_in3 (List.mem_of_getElem? (i := 183) (by decide +kernel)), by decide +kernel⟩
theorem mw_751 : (.code yX10_init cX10_init 1 none : Cond) ∈ lw_U := List.mem_filter.mpr ⟨lw_in3 (List.mem_of_getElem? (i := 184) (by decide +kernel)), by decide +kernel⟩
theorem mw_752 : (.methodLink RL 12 yX10_init : Cond) ∈ lw_U := List.mem_filter.mpr ⟨lw_in3 (List.mem_of_getElem? (i := 182) (by decide +kernel)), by decide +kernel⟩
theorem gU_L_13 : GoodIn lw_U (wsV RL 13 RX9 yX9_act wU_X9_act) := gUV mw_653 mw_655 mw_656 mw_387 mw_654
theorem gU_L_17 : GoodIn lw_U (wsV RL 17 RX10 yX10_act wU_X10_act) := gUV mw_657 mw_659 mw_660 mw_437 mw_658
theorem gU_L_18 : GoodIn lw_U (wsV RL 18 RX9 yX9_way wU_X9_way) := gUV mw_661 mw_663 mw_664 mw_387 mw_662
theorem gU_L_22 : GoodIn lw_U (wsV RL 22 RX10 yX10_way wU_X10_way) := gUV mw_665 mw_667 mw_668 mw_437 mw_666
theorem gU_L_23 : GoodIn lw_U (wsV RL 23 RX9 yX9_token wU_X9_token) := gUV mw_669 mw_671 mw_672 mw_387 mw_670
theorem gU_L_26 : GoodIn lw_U (wsV RL 26 RX10 yX10_token wU_X10_token) := gUV mw_673 mw_675 mw_676 mw_437 mw_674
theorem gU_L_27 : GoodIn lw_U (wsV RL 27 RX9 yX9_clear wU_X9_clear) := gUV mw_677 mw_679 mw_680 mw_387 mw_678
theorem gU_L_31 : GoodIn lw_U (wsV RL 31 RX10 yX10_clear wU_X10_clear) := gUV mw_681 mw_683 mw_684 mw_437 mw_682
theorem gU_L_32 : GoodIn lw_U (wsV RL 32 RX9 yX9_run wU_X9_run) := gUV mw_685 mw_687 mw_688 mw_387 mw_686
theorem gU_L_36 : GoodIn lw_U (wsV RL 36 RX10 yX10_run wU_X10_run) := gUV mw_689 mw_609 mw_610 mw_437 mw_608
theorem gU_L_37 : GoodIn lw_U (wsV RL 37 RX9 yX9_ticks wU_X9_ticks) := gUV mw_690 mw_692 mw_693 mw_387 mw_691
theorem gU_L_41 : GoodIn lw_U (wsV RL 41 RX10 yX10_ticks wU_X10_ticks) := gUV mw_694 mw_696 mw_697 mw_437 mw_695
theorem gU_L_42 : GoodIn lw_U (wsV RL 42 RX9 yX9_about wU_X9_about) := gUV mw_698 mw_700 mw_701 mw_387 mw_699
theorem gU_L_45 : GoodIn lw_U (wsV RL 45 RX10 yX10_about wU_X10_about) := gUV mw_702 mw_704 mw_705 mw_437 mw_703
theorem gU_L_46 : GoodIn lw_U (wsV RL 46 RX9 yX9_end wU_X9_end) := gUV mw_706 mw_708 mw_709 mw_387 mw_707
theorem gU_L_49 : GoodIn lw_U (wsV RL 49 RX10 yX10_end wU_X10_end) := gUV mw_710 mw_603 mw_604 mw_437 mw_602
theorem gU_L_50 : GoodIn lw_U (wsV RL 50 RX9 yX9_fired wU_X9_fired) := gUV mw_711 mw_713 mw_714 mw_387 mw_712
theorem gU_L_53 : GoodIn lw_U (wsV RL 53 RX10 yX10_fired wU_X10_fired) := gUV mw_715 mw_717 mw_718 mw_437 mw_716
theorem gU_L_54 : GoodIn lw_U (wsV RL 54 RX9 yX9_cell wU_X9_cell) := gUV mw_719 mw_721 mw_722 mw_387 mw_720
theorem gU_L_57 : GoodIn lw_U (wsV RL 57 RX10 yX10_cell wU_X10_cell) := gUV mw_723 mw_725 mw_726 mw_437 mw_724
theorem gU_L_58 : GoodIn lw_U (wsV RL 58 RX9 yX9_told wU_X9_told) := gUV mw_727 mw_729 mw_730 mw_387 mw_728
theorem gU_L_61 : GoodIn lw_U (wsV RL 61 RX10 yX10_told wU_X10_told) := gUV mw_731 mw_733 mw_734 mw_437 mw_732
theorem gU_L_62 : GoodIn lw_U (wsV RL 62 RX9 yX9_beside wU_X9_beside) := gUV mw_735 mw_737 mw_738 mw_387 mw_736
theorem gU_L_65 : GoodIn lw_U (wsV RL 65 RX10 yX10_beside wU_X10_beside) := gUV mw_739 mw_741 mw_742 mw_437 mw_740
