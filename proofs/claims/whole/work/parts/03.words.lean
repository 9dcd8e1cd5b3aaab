theorem q_148 : (.code y_K_isVariable b_K_isVariable 1 (some .boolean) : Cond) ∈ sr_T := sr_q 148 (by decide +kernel) (by decide +kernel)
theorem q_146 : (.methodLink R_K 9 y_K_isVariable : Cond) ∈ sr_T := sr_q 146 (by decide +kernel) (by decide +kernel)
theorem q_5 : (.initialized R_K : Cond) ∈ sr_T := sr_q 5 (by decide +kernel) (by decide +kernel)
theorem q_147 : (.static y_K_isVariable : Cond) ∈ sr_T := sr_q 147 (by decide +kernel) (by decide +kernel)
theorem q_57 : (.fieldLink R_P 54 R_P "size" "I" : Cond) ∈ sr_T := sr_q 57 (by decide +kernel) (by decide +kernel)
theorem q_156 : (.code y_P_hasActivity b_P_hasActivity 2 (some .boolean) : Cond) ∈ sr_T := sr_q 156 (by decide +kernel) (by decide +kernel)
theorem q_153 : (.methodLink R_P 58 y_P_hasActivity : Cond) ∈ sr_T := sr_q 153 (by decide +kernel) (by decide +kernel)
theorem q_2 : (.initialized R_P : Cond) ∈ sr_T := sr_q 2 (by decide +kernel) (by decide +kernel)
theorem q_154 : (.instanceMethod y_P_hasActivity : Cond) ∈ sr_T := sr_q 154 (by decide +kernel) (by decide +kernel)
theorem q_155 : (.selects R_P y_P_hasActivity y_P_hasActivity : Cond) ∈ sr_T := sr_q 155 (by decide +kernel) (by decide +kernel)
theorem q_33 : (.fieldLink R_P 18 R_P "kinds" "[I" : Cond) ∈ sr_T := sr_q 33 (by decide +kernel) (by decide +kernel)
theorem q_27 : (.fieldLink R_P 9 R_P "parents" "[I" : Cond) ∈ sr_T := sr_q 27 (by decide +kernel) (by decide +kernel)
theorem q_30 : (.fieldLink R_P 15 R_P "roles" "[I" : Cond) ∈ sr_T := sr_q 30 (by decide +kernel) (by decide +kernel)
theorem q_160 : (.code y_P_handlerOf b_P_handlerOf 4 (some .int) : Cond) ∈ sr_T := sr_q 160 (by decide +kernel) (by decide +kernel)
theorem q_157 : (.methodLink R_P 64 y_P_handlerOf : Cond) ∈ sr_T := sr_q 157 (by decide +kernel) (by decide +kernel)
theorem q_158 : (.instanceMethod y_P_handlerOf : Cond) ∈ sr_T := sr_q 158 (by decide +kernel) (by decide +kernel)
theorem q_159 : (.selects R_P y_P_handlerOf y_P_handlerOf : Cond) ∈ sr_T := sr_q 159 (by decide +kernel) (by decide +kernel)
theorem q_36 : (.fieldLink R_P 21 R_P "ps" "[I" : Cond) ∈ sr_T := sr_q 36 (by decide +kernel) (by decide +kernel)
theorem q_39 : (.fieldLink R_P 24 R_P "qs" "[I" : Cond) ∈ sr_T := sr_q 39 (by decide +kernel) (by decide +kernel)
theorem q_168 : (.code y_P_hasScope b_P_hasScope 2 (some .boolean) : Cond) ∈ sr_T := sr_q 168 (by decide +kernel) (by decide +kernel)
theorem q_165 : (.methodLink R_P 68 y_P_hasScope : Cond) ∈ sr_T := sr_q 165 (by decide +kernel) (by decide +kernel)
theorem q_166 : (.instanceMethod y_P_hasScope : Cond) ∈ sr_T := sr_q 166 (by decide +kernel) (by decide +kernel)
theorem q_167 : (.selects R_P y_P_hasScope y_P_hasScope : Cond) ∈ sr_T := sr_q 167 (by decide +kernel) (by decide +kernel)
theorem q_45 : (.fieldLink R_P 30 R_P "scopesAround" "[I" : Cond) ∈ sr_T := sr_q 45 (by decide +kernel) (by decide +kernel)
theorem q_51 : (.fieldLink R_P 36 R_P "branches" "[I" : Cond) ∈ sr_T := sr_q 51 (by decide +kernel) (by decide +kernel)
theorem q_49 : (.fieldLink R_P 33 R_P "handlers" "[I" : Cond) ∈ sr_T := sr_q 49 (by decide +kernel) (by decide +kernel)
theorem q_53 : (.fieldLink R_P 39 R_P "within" "[I" : Cond) ∈ sr_T := sr_q 53 (by decide +kernel) (by decide +kernel)
theorem q_171 : (.code y_P_isIn b_P_isIn 2 (some .boolean) : Cond) ∈ sr_T := sr_q 171 (by decide +kernel) (by decide +kernel)
theorem q_169 : (.methodLink R_P 71 y_P_isIn : Cond) ∈ sr_T := sr_q 169 (by decide +kernel) (by decide +kernel)
theorem q_170 : (.static y_P_isIn : Cond) ∈ sr_T := sr_q 170 (by decide +kernel) (by decide +kernel)
theorem q_71 : (.fieldLink R_P 75 R_P "linkCount" "I" : Cond) ∈ sr_T := sr_q 71 (by decide +kernel) (by decide +kernel)
theorem q_59 : (.fieldLink R_P 42 R_P "sources" "[I" : Cond) ∈ sr_T := sr_q 59 (by decide +kernel) (by decide +kernel)
theorem q_62 : (.fieldLink R_P 45 R_P "targets" "[I" : Cond) ∈ sr_T := sr_q 62 (by decide +kernel) (by decide +kernel)
theorem q_65 : (.fieldLink R_P 48 R_P "conditions" "[I" : Cond) ∈ sr_T := sr_q 65 (by decide +kernel) (by decide +kernel)
theorem q_67 : (.fieldLink R_P 51 R_P "bounds" "[I" : Cond) ∈ sr_T := sr_q 67 (by decide +kernel) (by decide +kernel)
theorem q_299 : (.code y_P_childAfter b_P_childAfter 4 (some .int) : Cond) ∈ sr_T := sr_q 299 (by decide +kernel) (by decide +kernel)
theorem q_296 : (.methodLink R_P 78 y_P_childAfter : Cond) ∈ sr_T := sr_q 296 (by decide +kernel) (by decide +kernel)
theorem q_297 : (.instanceMethod y_P_childAfter : Cond) ∈ sr_T := sr_q 297 (by decide +kernel) (by decide +kernel)
theorem q_298 : (.selects R_P y_P_childAfter y_P_childAfter : Cond) ∈ sr_T := sr_q 298 (by decide +kernel) (by decide +kernel)
theorem q_295 : (.code y_P_firstChild b_P_firstChild 2 (some .int) : Cond) ∈ sr_T := sr_q 295 (by decide +kernel) (by decide +kernel)
theorem q_292 : (.methodLink R_P 81 y_P_firstChild : Cond) ∈ sr_T := sr_q 292 (by decide +kernel) (by decide +kernel)
theorem q_293 : (.instanceMethod y_P_firstChild : Cond) ∈ sr_T := sr_q 293 (by decide +kernel) (by decide +kernel)
theorem q_294 : (.selects R_P y_P_firstChild y_P_firstChild : Cond) ∈ sr_T := sr_q 294 (by decide +kernel) (by decide +kernel)
theorem q_291 : (.code y_P_findStart b_P_findStart 3 (some .int) : Cond) ∈ sr_T := sr_q 291 (by decide +kernel) (by decide +kernel)
theorem q_446 : (.methodLink R_P 85 y_P_findStart : Cond) ∈ sr_T := sr_q 446 (by decide +kernel) (by decide +kernel)
theorem q_289 : (.instanceMethod y_P_findStart : Cond) ∈ sr_T := sr_q 289 (by decide +kernel) (by decide +kernel)
theorem q_290 : (.selects R_P y_P_findStart y_P_findStart : Cond) ∈ sr_T := sr_q 290 (by decide +kernel) (by decide +kernel)
theorem q_854 : (.code y_M_in b_M_in 3 (some .boolean) : Cond) ∈ sr_T := sr_q 854 (by decide +kernel) (by decide +kernel)
theorem q_852 : (.methodLink R_M 92 y_M_in : Cond) ∈ sr_T := sr_q 852 (by decide +kernel) (by decide +kernel)
theorem q_4 : (.initialized R_M : Cond) ∈ sr_T := sr_q 4 (by decide +kernel) (by decide +kernel)
theorem q_853 : (.static y_M_in : Cond) ∈ sr_T := sr_q 853 (by decide +kernel) (by decide +kernel)
theorem q_736 : (.fieldLink R_M 100 R_M "n" "I" : Cond) ∈ sr_T := sr_q 736 (by decide +kernel) (by decide +kernel)
theorem q_737 : (.fieldLink R_M 7 R_M "parent" "[I" : Cond) ∈ sr_T := sr_q 737 (by decide +kernel) (by decide +kernel)
theorem q_738 : (.fieldLink R_M 13 R_M "role" "[I" : Cond) ∈ sr_T := sr_q 738 (by decide +kernel) (by decide +kernel)
theorem q_866 : (.code y_M_nextInRole b_M_nextInRole 5 (some .int) : Cond) ∈ sr_T := sr_q 866 (by decide +kernel) (by decide +kernel)
theorem q_863 : (.methodLink R_M 111 y_M_nextInRole : Cond) ∈ sr_T := sr_q 863 (by decide +kernel) (by decide +kernel)
theorem q_865 : (.instanceMethod y_M_nextInRole : Cond) ∈ sr_T := sr_q 865 (by decide +kernel) (by decide +kernel)
theorem qs_M_nextInRole : (.selects R_M y_M_nextInRole y_M_nextInRole : Cond) ∈ sr_T := sr_qs 53 (by decide +kernel) (by decide +kernel)
theorem q_748 : (.fieldLink R_M 96 R_M "deployed" "Z" : Cond) ∈ sr_T := sr_q 748 (by decide +kernel) (by decide +kernel)
theorem q_858 : (.code y_M_numbersFit b_M_numbersFit 5 (some .boolean) : Cond) ∈ sr_T := sr_q 858 (by decide +kernel) (by decide +kernel)
theorem q_855 : (.methodLink R_M 104 y_M_numbersFit : Cond) ∈ sr_T := sr_q 855 (by decide +kernel) (by decide +kernel)
theorem q_857 : (.instanceMethod y_M_numbersFit : Cond) ∈ sr_T := sr_q 857 (by decide +kernel) (by decide +kernel)
theorem qs_M_numbersFit : (.selects R_M y_M_numbersFit y_M_numbersFit : Cond) ∈ sr_T := sr_qs 51 (by decide +kernel) (by decide +kernel)
theorem q_739 : (.fieldLink R_M 16 R_M "kind" "[I" : Cond) ∈ sr_T := sr_q 739 (by decide +kernel) (by decide +kernel)
theorem q_740 : (.fieldLink R_M 19 R_M "p" "[I" : Cond) ∈ sr_T := sr_q 740 (by decide +kernel) (by decide +kernel)
theorem q_741 : (.fieldLink R_M 22 R_M "q" "[I" : Cond) ∈ sr_T := sr_q 741 (by decide +kernel) (by decide +kernel)
theorem q_862 : (.code y_M_inRole b_M_inRole 3 (some .int) : Cond) ∈ sr_T := sr_q 862 (by decide +kernel) (by decide +kernel)
theorem q_859 : (.methodLink R_M 107 y_M_inRole : Cond) ∈ sr_T := sr_q 859 (by decide +kernel) (by decide +kernel)
theorem q_861 : (.instanceMethod y_M_inRole : Cond) ∈ sr_T := sr_q 861 (by decide +kernel) (by decide +kernel)
theorem qs_M_inRole : (.selects R_M y_M_inRole y_M_inRole : Cond) ∈ sr_T := sr_qs 52 (by decide +kernel) (by decide +kernel)
theorem q_742 : (.fieldLink R_M 25 R_M "mode" "[I" : Cond) ∈ sr_T := sr_q 742 (by decide +kernel) (by decide +kernel)
theorem q_743 : (.fieldLink R_M 115 R_M "links" "I" : Cond) ∈ sr_T := sr_q 743 (by decide +kernel) (by decide +kernel)
theorem q_744 : (.fieldLink R_M 28 R_M "from" "[I" : Cond) ∈ sr_T := sr_q 744 (by decide +kernel) (by decide +kernel)
theorem q_745 : (.fieldLink R_M 31 R_M "to" "[I" : Cond) ∈ sr_T := sr_q 745 (by decide +kernel) (by decide +kernel)
theorem q_746 : (.fieldLink R_M 34 R_M "tested" "[I" : Cond) ∈ sr_T := sr_q 746 (by decide +kernel) (by decide +kernel)
theorem q_747 : (.fieldLink R_M 37 R_M "bound" "[I" : Cond) ∈ sr_T := sr_q 747 (by decide +kernel) (by decide +kernel)
theorem q_886 : (.code y_M_children b_M_children 4 (some .int) : Cond) ∈ sr_T := sr_q 886 (by decide +kernel) (by decide +kernel)
theorem q_883 : (.methodLink R_M 118 y_M_children : Cond) ∈ sr_T := sr_q 883 (by decide +kernel) (by decide +kernel)
theorem q_885 : (.instanceMethod y_M_children : Cond) ∈ sr_T := sr_q 885 (by decide +kernel) (by decide +kernel)
theorem qs_M_children : (.selects R_M y_M_children y_M_children : Cond) ∈ sr_T := sr_qs 55 (by decide +kernel) (by decide +kernel)
theorem q_894 : (.code y_M_handler b_M_handler 4 (some .int) : Cond) ∈ sr_T := sr_q 894 (by decide +kernel) (by decide +kernel)
theorem q_891 : (.methodLink R_M 122 y_M_handler : Cond) ∈ sr_T := sr_q 891 (by decide +kernel) (by decide +kernel)
theorem q_893 : (.instanceMethod y_M_handler : Cond) ∈ sr_T := sr_q 893 (by decide +kernel) (by decide +kernel)
theorem qs_M_handler : (.selects R_M y_M_handler y_M_handler : Cond) ∈ sr_T := sr_qs 57 (by decide +kernel) (by decide +kernel)
theorem q_910 : (.code y_M_around b_M_around 4 (some .int) : Cond) ∈ sr_T := sr_q 910 (by decide +kernel) (by decide +kernel)
theorem q_907 : (.methodLink R_M 129 y_M_around : Cond) ∈ sr_T := sr_q 907 (by decide +kernel) (by decide +kernel)
theorem q_909 : (.instanceMethod y_M_around : Cond) ∈ sr_T := sr_q 909 (by decide +kernel) (by decide +kernel)
theorem qs_M_around : (.selects R_M y_M_around y_M_around : Cond) ∈ sr_T := sr_qs 61 (by decide +kernel) (by decide +kernel)
theorem q_906 : (.code y_M_below b_M_below 5 (some .boolean) : Cond) ∈ sr_T := sr_q 906 (by decide +kernel) (by decide +kernel)
theorem q_903 : (.methodLink R_M 125 y_M_below : Cond) ∈ sr_T := sr_q 903 (by decide +kernel) (by decide +kernel)
theorem q_905 : (.instanceMethod y_M_below : Cond) ∈ sr_T := sr_q 905 (by decide +kernel) (by decide +kernel)
theorem qs_M_below : (.selects R_M y_M_below y_M_below : Cond) ∈ sr_T := sr_qs 60 (by decide +kernel) (by decide +kernel)
theorem q_750 : (.fieldLink R_M 40 R_M "rank" "[I" : Cond) ∈ sr_T := sr_q 750 (by decide +kernel) (by decide +kernel)
theorem q_751 : (.fieldLink R_M 132 R_M "moved" "Z" : Cond) ∈ sr_T := sr_q 751 (by decide +kernel) (by decide +kernel)
theorem q_922 : (.code y_M_before b_M_before 3 none : Cond) ∈ sr_T := sr_q 922 (by decide +kernel) (by decide +kernel)
theorem q_919 : (.methodLink R_M 135 y_M_before : Cond) ∈ sr_T := sr_q 919 (by decide +kernel) (by decide +kernel)
theorem q_921 : (.instanceMethod y_M_before : Cond) ∈ sr_T := sr_q 921 (by decide +kernel) (by decide +kernel)
theorem qs_M_before : (.selects R_M y_M_before y_M_before : Cond) ∈ sr_T := sr_qs 64 (by decide +kernel) (by decide +kernel)
theorem q_930 : (.code y_M_targeted b_M_targeted 3 (some .boolean) : Cond) ∈ sr_T := sr_q 930 (by decide +kernel) (by decide +kernel)
theorem q_927 : (.methodLink R_M 139 y_M_targeted : Cond) ∈ sr_T := sr_q 927 (by decide +kernel) (by decide +kernel)
theorem q_929 : (.instanceMethod y_M_targeted : Cond) ∈ sr_T := sr_q 929 (by decide +kernel) (by decide +kernel)
theorem qs_M_targeted : (.selects R_M y_M_targeted y_M_targeted : Cond) ∈ sr_T := sr_qs 66 (by decide +kernel) (by decide +kernel)
theorem q_749 : (.fieldLink R_M 143 R_M "start" "I" : Cond) ∈ sr_T := sr_q 749 (by decide +kernel) (by decide +kernel)
theorem q_882 : (.code y_M_rule1 b_M_rule1 4 (some .boolean) : Cond) ∈ sr_T := sr_q 882 (by decide +kernel) (by decide +kernel)
theorem q_879 : (.methodLink R_M 146 y_M_rule1 : Cond) ∈ sr_T := sr_q 879 (by decide +kernel) (by decide +kernel)
theorem q_881 : (.instanceMethod y_M_rule1 : Cond) ∈ sr_T := sr_q 881 (by decide +kernel) (by decide +kernel)
theorem qs_M_rule1 : (.selects R_M y_M_rule1 y_M_rule1 : Cond) ∈ sr_T := sr_qs 54 (by decide +kernel) (by decide +kernel)
theorem q_890 : (.code y_M_rule2 b_M_rule2 2 (some .boolean) : Cond) ∈ sr_T := sr_q 890 (by decide +kernel) (by decide +kernel)
theorem q_887 : (.methodLink R_M 150 y_M_rule2 : Cond) ∈ sr_T := sr_q 887 (by decide +kernel) (by decide +kernel)
theorem q_889 : (.instanceMethod y_M_rule2 : Cond) ∈ sr_T := sr_q 889 (by decide +kernel) (by decide +kernel)
theorem qs_M_rule2 : (.selects R_M y_M_rule2 y_M_rule2 : Cond) ∈ sr_T := sr_qs 56 (by decide +kernel) (by decide +kernel)
theorem q_898 : (.code y_M_rule3 b_M_rule3 3 (some .boolean) : Cond) ∈ sr_T := sr_q 898 (by decide +kernel) (by decide +kernel)
theorem q_895 : (.methodLink R_M 153 y_M_rule3 : Cond) ∈ sr_T := sr_q 895 (by decide +kernel) (by decide +kernel)
theorem q_897 : (.instanceMethod y_M_rule3 : Cond) ∈ sr_T := sr_q 897 (by decide +kernel) (by decide +kernel)
theorem qs_M_rule3 : (.selects R_M y_M_rule3 y_M_rule3 : Cond) ∈ sr_T := sr_qs 58 (by decide +kernel) (by decide +kernel)
theorem q_902 : (.code y_M_rule4 b_M_rule4 3 (some .boolean) : Cond) ∈ sr_T := sr_q 902 (by decide +kernel) (by decide +kernel)
theorem q_899 : (.methodLink R_M 156 y_M_rule4 : Cond) ∈ sr_T := sr_q 899 (by decide +kernel) (by decide +kernel)
theorem q_901 : (.instanceMethod y_M_rule4 : Cond) ∈ sr_T := sr_q 901 (by decide +kernel) (by decide +kernel)
theorem qs_M_rule4 : (.selects R_M y_M_rule4 y_M_rule4 : Cond) ∈ sr_T := sr_qs 59 (by decide +kernel) (by decide +kernel)
theorem q_918 : (.code y_M_rule6 b_M_rule6 5 (some .boolean) : Cond) ∈ sr_T := sr_q 918 (by decide +kernel) (by decide +kernel)
theorem q_915 : (.methodLink R_M 162 y_M_rule6 : Cond) ∈ sr_T := sr_q 915 (by decide +kernel) (by decide +kernel)
theorem q_917 : (.instanceMethod y_M_rule6 : Cond) ∈ sr_T := sr_q 917 (by decide +kernel) (by decide +kernel)
theorem qs_M_rule6 : (.selects R_M y_M_rule6 y_M_rule6 : Cond) ∈ sr_T := sr_qs 63 (by decide +kernel) (by decide +kernel)
theorem q_926 : (.code y_M_rule7 b_M_rule7 4 (some .boolean) : Cond) ∈ sr_T := sr_q 926 (by decide +kernel) (by decide +kernel)
theorem q_923 : (.methodLink R_M 165 y_M_rule7 : Cond) ∈ sr_T := sr_q 923 (by decide +kernel) (by decide +kernel)
theorem q_925 : (.instanceMethod y_M_rule7 : Cond) ∈ sr_T := sr_q 925 (by decide +kernel) (by decide +kernel)
theorem qs_M_rule7 : (.selects R_M y_M_rule7 y_M_rule7 : Cond) ∈ sr_T := sr_qs 65 (by decide +kernel) (by decide +kernel)
theorem q_914 : (.code y_M_rule5 b_M_rule5 7 (some .boolean) : Cond) ∈ sr_T := sr_q 914 (by decide +kernel) (by decide +kernel)
theorem q_911 : (.methodLink R_M 159 y_M_rule5 : Cond) ∈ sr_T := sr_q 911 (by decide +kernel) (by decide +kernel)
theorem q_913 : (.instanceMethod y_M_rule5 : Cond) ∈ sr_T := sr_q 913 (by decide +kernel) (by decide +kernel)
theorem qs_M_rule5 : (.selects R_M y_M_rule5 y_M_rule5 : Cond) ∈ sr_T := sr_qs 62 (by decide +kernel) (by decide +kernel)
theorem q_757 : (.fieldLink R_M 55 R_M "status" "[I" : Cond) ∈ sr_T := sr_q 757 (by decide +kernel) (by decide +kernel)
theorem q_769 : (.fieldLink R_M 168 R_M "now" "I" : Cond) ∈ sr_T := sr_q 769 (by decide +kernel) (by decide +kernel)
theorem q_767 : (.fieldLink R_M 86 R_M "log" "[I" : Cond) ∈ sr_T := sr_q 767 (by decide +kernel) (by decide +kernel)
theorem q_768 : (.fieldLink R_M 89 R_M "logged" "[I" : Cond) ∈ sr_T := sr_q 768 (by decide +kernel) (by decide +kernel)
theorem q_758 : (.fieldLink R_M 58 R_M "own" "[I" : Cond) ∈ sr_T := sr_q 758 (by decide +kernel) (by decide +kernel)
theorem q_756 : (.fieldLink R_M 52 R_M "vars" "[I" : Cond) ∈ sr_T := sr_q 756 (by decide +kernel) (by decide +kernel)
theorem q_942 : (.code y_M_st b_M_st 2 (some .int) : Cond) ∈ sr_T := sr_q 942 (by decide +kernel) (by decide +kernel)
theorem q_939 : (.methodLink R_M 171 y_M_st : Cond) ∈ sr_T := sr_q 939 (by decide +kernel) (by decide +kernel)
theorem q_941 : (.instanceMethod y_M_st : Cond) ∈ sr_T := sr_q 941 (by decide +kernel) (by decide +kernel)
theorem qs_M_st : (.selects R_M y_M_st y_M_st : Cond) ∈ sr_T := sr_qs 68 (by decide +kernel) (by decide +kernel)
theorem q_770 : (.fieldLink R_M 174 R_M "todo" "I" : Cond) ∈ sr_T := sr_q 770 (by decide +kernel) (by decide +kernel)
theorem q_771 : (.fieldLink R_M 177 R_M "who" "I" : Cond) ∈ sr_T := sr_q 771 (by decide +kernel) (by decide +kernel)
theorem q_772 : (.fieldLink R_M 180 R_M "fault" "I" : Cond) ∈ sr_T := sr_q 772 (by decide +kernel) (by decide +kernel)
theorem q_762 : (.fieldLink R_M 71 R_M "linkValue" "[I" : Cond) ∈ sr_T := sr_q 762 (by decide +kernel) (by decide +kernel)
theorem q_962 : (.code y_M_put b_M_put 3 none : Cond) ∈ sr_T := sr_q 962 (by decide +kernel) (by decide +kernel)
theorem q_959 : (.methodLink R_M 183 y_M_put : Cond) ∈ sr_T := sr_q 959 (by decide +kernel) (by decide +kernel)
theorem q_961 : (.instanceMethod y_M_put : Cond) ∈ sr_T := sr_q 961 (by decide +kernel) (by decide +kernel)
theorem qs_M_put : (.selects R_M y_M_put y_M_put : Cond) ∈ sr_T := sr_qs 73 (by decide +kernel) (by decide +kernel)
theorem q_966 : (.code y_M_write b_M_write 3 none : Cond) ∈ sr_T := sr_q 966 (by decide +kernel) (by decide +kernel)
theorem q_963 : (.methodLink R_M 186 y_M_write : Cond) ∈ sr_T := sr_q 963 (by decide +kernel) (by decide +kernel)
theorem q_965 : (.instanceMethod y_M_write : Cond) ∈ sr_T := sr_q 965 (by decide +kernel) (by decide +kernel)
theorem qs_M_write : (.selects R_M y_M_write y_M_write : Cond) ∈ sr_T := sr_qs 74 (by decide +kernel) (by decide +kernel)
theorem q_994 : (.code y_M_setLinks b_M_setLinks 5 none : Cond) ∈ sr_T := sr_q 994 (by decide +kernel) (by decide +kernel)
theorem q_991 : (.methodLink R_M 189 y_M_setLinks : Cond) ∈ sr_T := sr_q 991 (by decide +kernel) (by decide +kernel)
theorem q_993 : (.instanceMethod y_M_setLinks : Cond) ∈ sr_T := sr_q 993 (by decide +kernel) (by decide +kernel)
theorem qs_M_setLinks : (.selects R_M y_M_setLinks y_M_setLinks : Cond) ∈ sr_T := sr_qs 81 (by decide +kernel) (by decide +kernel)
theorem q_763 : (.fieldLink R_M 74 R_M "entries" "[I" : Cond) ∈ sr_T := sr_q 763 (by decide +kernel) (by decide +kernel)
theorem q_766 : (.fieldLink R_M 83 R_M "place" "[I" : Cond) ∈ sr_T := sr_q 766 (by decide +kernel) (by decide +kernel)
theorem q_950 : (.code y_M_then b_M_then 4 none : Cond) ∈ sr_T := sr_q 950 (by decide +kernel) (by decide +kernel)
theorem q_947 : (.methodLink R_M 209 y_M_then : Cond) ∈ sr_T := sr_q 947 (by decide +kernel) (by decide +kernel)
theorem q_949 : (.instanceMethod y_M_then : Cond) ∈ sr_T := sr_q 949 (by decide +kernel) (by decide +kernel)
theorem qs_M_then : (.selects R_M y_M_then y_M_then : Cond) ∈ sr_T := sr_qs 70 (by decide +kernel) (by decide +kernel)
theorem q_970 : (.code y_M_see b_M_see 3 (some .int) : Cond) ∈ sr_T := sr_q 970 (by decide +kernel) (by decide +kernel)
theorem q_967 : (.methodLink R_M 206 y_M_see : Cond) ∈ sr_T := sr_q 967 (by decide +kernel) (by decide +kernel)
theorem q_969 : (.instanceMethod y_M_see : Cond) ∈ sr_T := sr_q 969 (by decide +kernel) (by decide +kernel)
theorem qs_M_see : (.selects R_M y_M_see y_M_see : Cond) ∈ sr_T := sr_qs 75 (by decide +kernel) (by decide +kernel)
theorem q_978 : (.code y_M_carry b_M_carry 4 none : Cond) ∈ sr_T := sr_q 978 (by decide +kernel) (by decide +kernel)
theorem q_975 : (.methodLink R_M 213 y_M_carry : Cond) ∈ sr_T := sr_q 975 (by decide +kernel) (by decide +kernel)
theorem q_977 : (.instanceMethod y_M_carry : Cond) ∈ sr_T := sr_q 977 (by decide +kernel) (by decide +kernel)
theorem qs_M_carry : (.selects R_M y_M_carry y_M_carry : Cond) ∈ sr_T := sr_qs 77 (by decide +kernel) (by decide +kernel)
theorem q_764 : (.fieldLink R_M 77 R_M "entryScope" "[I" : Cond) ∈ sr_T := sr_q 764 (by decide +kernel) (by decide +kernel)
theorem q_765 : (.fieldLink R_M 80 R_M "entryOwn" "[I" : Cond) ∈ sr_T := sr_q 765 (by decide +kernel) (by decide +kernel)
theorem q_982 : (.code y_M_bodyDone b_M_bodyDone 4 none : Cond) ∈ sr_T := sr_q 982 (by decide +kernel) (by decide +kernel)
theorem q_979 : (.methodLink R_M 216 y_M_bodyDone : Cond) ∈ sr_T := sr_q 979 (by decide +kernel) (by decide +kernel)
theorem q_981 : (.instanceMethod y_M_bodyDone : Cond) ∈ sr_T := sr_q 981 (by decide +kernel) (by decide +kernel)
theorem qs_M_bodyDone : (.selects R_M y_M_bodyDone y_M_bodyDone : Cond) ∈ sr_T := sr_qs 78 (by decide +kernel) (by decide +kernel)
theorem q_761 : (.fieldLink R_M 67 R_M "busy" "[Z" : Cond) ∈ sr_T := sr_q 761 (by decide +kernel) (by decide +kernel)
theorem q_760 : (.fieldLink R_M 64 R_M "taker" "[I" : Cond) ∈ sr_T := sr_q 760 (by decide +kernel) (by decide +kernel)
theorem q_753 : (.fieldLink R_M 43 R_M "state" "[I" : Cond) ∈ sr_T := sr_q 753 (by decide +kernel) (by decide +kernel)
theorem q_759 : (.fieldLink R_M 61 R_M "faultOf" "[I" : Cond) ∈ sr_T := sr_q 759 (by decide +kernel) (by decide +kernel)
theorem q_990 : (.code y_M_active b_M_active 2 (some .boolean) : Cond) ∈ sr_T := sr_q 990 (by decide +kernel) (by decide +kernel)
theorem q_987 : (.methodLink R_M 219 y_M_active : Cond) ∈ sr_T := sr_q 987 (by decide +kernel) (by decide +kernel)
theorem q_989 : (.instanceMethod y_M_active : Cond) ∈ sr_T := sr_q 989 (by decide +kernel) (by decide +kernel)
theorem qs_M_active : (.selects R_M y_M_active y_M_active : Cond) ∈ sr_T := sr_qs 80 (by decide +kernel) (by decide +kernel)
theorem q_998 : (.code y_M_fails b_M_fails 4 none : Cond) ∈ sr_T := sr_q 998 (by decide +kernel) (by decide +kernel)
theorem q_995 : (.methodLink R_M 203 y_M_fails : Cond) ∈ sr_T := sr_q 995 (by decide +kernel) (by decide +kernel)
theorem q_997 : (.instanceMethod y_M_fails : Cond) ∈ sr_T := sr_q 997 (by decide +kernel) (by decide +kernel)
theorem qs_M_fails : (.selects R_M y_M_fails y_M_fails : Cond) ∈ sr_T := sr_qs 82 (by decide +kernel) (by decide +kernel)
theorem q_986 : (.code y_M_faults b_M_faults 6 none : Cond) ∈ sr_T := sr_q 986 (by decide +kernel) (by decide +kernel)
theorem q_983 : (.methodLink R_M 200 y_M_faults : Cond) ∈ sr_T := sr_q 983 (by decide +kernel) (by decide +kernel)
theorem q_985 : (.instanceMethod y_M_faults : Cond) ∈ sr_T := sr_q 985 (by decide +kernel) (by decide +kernel)
theorem qs_M_faults : (.selects R_M y_M_faults y_M_faults : Cond) ∈ sr_T := sr_qs 79 (by decide +kernel) (by decide +kernel)
theorem q_974 : (.code y_M_report b_M_report 5 none : Cond) ∈ sr_T := sr_q 974 (by decide +kernel) (by decide +kernel)
theorem q_971 : (.methodLink R_M 197 y_M_report : Cond) ∈ sr_T := sr_q 971 (by decide +kernel) (by decide +kernel)
theorem q_973 : (.instanceMethod y_M_report : Cond) ∈ sr_T := sr_q 973 (by decide +kernel) (by decide +kernel)
theorem qs_M_report : (.selects R_M y_M_report y_M_report : Cond) ∈ sr_T := sr_qs 76 (by decide +kernel) (by decide +kernel)
theorem q_958 : (.code y_M_complete b_M_complete 4 none : Cond) ∈ sr_T := sr_q 958 (by decide +kernel) (by decide +kernel)
theorem q_955 : (.methodLink R_M 193 y_M_complete : Cond) ∈ sr_T := sr_q 955 (by decide +kernel) (by decide +kernel)
theorem q_957 : (.instanceMethod y_M_complete : Cond) ∈ sr_T := sr_q 957 (by decide +kernel) (by decide +kernel)
theorem qs_M_complete : (.selects R_M y_M_complete y_M_complete : Cond) ∈ sr_T := sr_qs 72 (by decide +kernel) (by decide +kernel)
theorem q_1010 : (.code y_M_canStep b_M_canStep 3 (some .boolean) : Cond) ∈ sr_T := sr_q 1010 (by decide +kernel) (by decide +kernel)
theorem q_1007 : (.methodLink R_M 222 y_M_canStep : Cond) ∈ sr_T := sr_q 1007 (by decide +kernel) (by decide +kernel)
theorem q_1009 : (.instanceMethod y_M_canStep : Cond) ∈ sr_T := sr_q 1009 (by decide +kernel) (by decide +kernel)
theorem qs_M_canStep : (.selects R_M y_M_canStep y_M_canStep : Cond) ∈ sr_T := sr_qs 84 (by decide +kernel) (by decide +kernel)
theorem q_1022 : (.code y_M_take b_M_take 6 none : Cond) ∈ sr_T := sr_q 1022 (by decide +kernel) (by decide +kernel)
theorem q_1019 : (.methodLink R_M 252 y_M_take : Cond) ∈ sr_T := sr_q 1019 (by decide +kernel) (by decide +kernel)
theorem q_1021 : (.instanceMethod y_M_take : Cond) ∈ sr_T := sr_q 1021 (by decide +kernel) (by decide +kernel)
theorem qs_M_take : (.selects R_M y_M_take y_M_take : Cond) ∈ sr_T := sr_qs 87 (by decide +kernel) (by decide +kernel)
theorem q_755 : (.fieldLink R_M 49 R_M "first" "[I" : Cond) ∈ sr_T := sr_q 755 (by decide +kernel) (by decide +kernel)
theorem q_946 : (.code y_M_store b_M_store 4 none : Cond) ∈ sr_T := sr_q 946 (by decide +kernel) (by decide +kernel)
theorem q_943 : (.methodLink R_M 249 y_M_store : Cond) ∈ sr_T := sr_q 943 (by decide +kernel) (by decide +kernel)
theorem q_945 : (.instanceMethod y_M_store : Cond) ∈ sr_T := sr_q 945 (by decide +kernel) (by decide +kernel)
theorem qs_M_store : (.selects R_M y_M_store y_M_store : Cond) ∈ sr_T := sr_qs 69 (by decide +kernel) (by decide +kernel)
theorem q_938 : (.code y_M_waiting b_M_waiting 3 (some .int) : Cond) ∈ sr_T := sr_q 938 (by decide +kernel) (by decide +kernel)
theorem q_935 : (.methodLink R_M 246 y_M_waiting : Cond) ∈ sr_T := sr_q 935 (by decide +kernel) (by decide +kernel)
theorem q_937 : (.instanceMethod y_M_waiting : Cond) ∈ sr_T := sr_q 937 (by decide +kernel) (by decide +kernel)
theorem qs_M_waiting : (.selects R_M y_M_waiting y_M_waiting : Cond) ∈ sr_T := sr_qs 67 (by decide +kernel) (by decide +kernel)
theorem q_1034 : (.code y_M_skip b_M_skip 2 none : Cond) ∈ sr_T := sr_q 1034 (by decide +kernel) (by decide +kernel)
theorem q_1031 : (.methodLink R_M 234 y_M_skip : Cond) ∈ sr_T := sr_q 1031 (by decide +kernel) (by decide +kernel)
theorem q_1033 : (.instanceMethod y_M_skip : Cond) ∈ sr_T := sr_q 1033 (by decide +kernel) (by decide +kernel)
theorem qs_M_skip : (.selects R_M y_M_skip y_M_skip : Cond) ∈ sr_T := sr_qs 90 (by decide +kernel) (by decide +kernel)
theorem q_1026 : (.code y_M_loop b_M_loop 3 none : Cond) ∈ sr_T := sr_q 1026 (by decide +kernel) (by decide +kernel)
theorem q_1023 : (.methodLink R_M 228 y_M_loop : Cond) ∈ sr_T := sr_q 1023 (by decide +kernel) (by decide +kernel)
theorem q_1025 : (.instanceMethod y_M_loop : Cond) ∈ sr_T := sr_q 1025 (by decide +kernel) (by decide +kernel)
theorem qs_M_loop : (.selects R_M y_M_loop y_M_loop : Cond) ∈ sr_T := sr_qs 88 (by decide +kernel) (by decide +kernel)
theorem q_1018 : (.code y_M_undo b_M_undo 6 none : Cond) ∈ sr_T := sr_q 1018 (by decide +kernel) (by decide +kernel)
theorem q_1015 : (.methodLink R_M 225 y_M_undo : Cond) ∈ sr_T := sr_q 1015 (by decide +kernel) (by decide +kernel)
theorem q_1017 : (.instanceMethod y_M_undo : Cond) ∈ sr_T := sr_q 1017 (by decide +kernel) (by decide +kernel)
theorem qs_M_undo : (.selects R_M y_M_undo y_M_undo : Cond) ∈ sr_T := sr_qs 86 (by decide +kernel) (by decide +kernel)
theorem q_954 : (.code y_M_settle b_M_settle 3 none : Cond) ∈ sr_T := sr_q 954 (by decide +kernel) (by decide +kernel)
theorem q_951 : (.methodLink R_M 243 y_M_settle : Cond) ∈ sr_T := sr_q 951 (by decide +kernel) (by decide +kernel)
theorem q_953 : (.instanceMethod y_M_settle : Cond) ∈ sr_T := sr_q 953 (by decide +kernel) (by decide +kernel)
theorem qs_M_settle : (.selects R_M y_M_settle y_M_settle : Cond) ∈ sr_T := sr_qs 71 (by decide +kernel) (by decide +kernel)
theorem q_1030 : (.code y_M_joined b_M_joined 5 (some .boolean) : Cond) ∈ sr_T := sr_q 1030 (by decide +kernel) (by decide +kernel)
theorem q_1027 : (.methodLink R_M 231 y_M_joined : Cond) ∈ sr_T := sr_q 1027 (by decide +kernel) (by decide +kernel)
theorem q_1029 : (.instanceMethod y_M_joined : Cond) ∈ sr_T := sr_q 1029 (by decide +kernel) (by decide +kernel)
theorem qs_M_joined : (.selects R_M y_M_joined y_M_joined : Cond) ∈ sr_T := sr_qs 89 (by decide +kernel) (by decide +kernel)
theorem q_1042 : (.code y_M_open b_M_open 7 none : Cond) ∈ sr_T := sr_q 1042 (by decide +kernel) (by decide +kernel)
theorem q_1039 : (.methodLink R_M 240 y_M_open : Cond) ∈ sr_T := sr_q 1039 (by decide +kernel) (by decide +kernel)
theorem q_1041 : (.instanceMethod y_M_open : Cond) ∈ sr_T := sr_q 1041 (by decide +kernel) (by decide +kernel)
theorem qs_M_open : (.selects R_M y_M_open y_M_open : Cond) ∈ sr_T := sr_qs 92 (by decide +kernel) (by decide +kernel)
theorem q_1038 : (.code y_M_simple b_M_simple 3 none : Cond) ∈ sr_T := sr_q 1038 (by decide +kernel) (by decide +kernel)
theorem q_1035 : (.methodLink R_M 237 y_M_simple : Cond) ∈ sr_T := sr_q 1035 (by decide +kernel) (by decide +kernel)
theorem q_1037 : (.instanceMethod y_M_simple : Cond) ∈ sr_T := sr_q 1037 (by decide +kernel) (by decide +kernel)
theorem qs_M_simple : (.selects R_M y_M_simple y_M_simple : Cond) ∈ sr_T := sr_qs 91 (by decide +kernel) (by decide +kernel)
theorem q_752 : (.fieldLink R_M 255 R_M "made" "I" : Cond) ∈ sr_T := sr_q 752 (by decide +kernel) (by decide +kernel)
theorem q_754 : (.fieldLink R_M 46 R_M "key" "[I" : Cond) ∈ sr_T := sr_q 754 (by decide +kernel) (by decide +kernel)
theorem q_1014 : (.code y_M_step b_M_step 2 none : Cond) ∈ sr_T := sr_q 1014 (by decide +kernel) (by decide +kernel)
theorem q_1011 : (.methodLink R_M 262 y_M_step : Cond) ∈ sr_T := sr_q 1011 (by decide +kernel) (by decide +kernel)
theorem q_1013 : (.instanceMethod y_M_step : Cond) ∈ sr_T := sr_q 1013 (by decide +kernel) (by decide +kernel)
theorem qs_M_step : (.selects R_M y_M_step y_M_step : Cond) ∈ sr_T := sr_qs 85 (by decide +kernel) (by decide +kernel)
theorem q_1006 : (.code y_M_stepper b_M_stepper 2 (some .int) : Cond) ∈ sr_T := sr_q 1006 (by decide +kernel) (by decide +kernel)
theorem q_1003 : (.methodLink R_M 258 y_M_stepper : Cond) ∈ sr_T := sr_q 1003 (by decide +kernel) (by decide +kernel)
theorem q_1005 : (.instanceMethod y_M_stepper : Cond) ∈ sr_T := sr_q 1005 (by decide +kernel) (by decide +kernel)
theorem qs_M_stepper : (.selects R_M y_M_stepper y_M_stepper : Cond) ∈ sr_T := sr_qs 83 (by decide +kernel) (by decide +kernel)
theorem q_1070 : (.code y_M_isScope b_M_isScope 3 (some .boolean) : Cond) ∈ sr_T := sr_q 1070 (by decide +kernel) (by decide +kernel)
theorem q_1067 : (.methodLink R_M 265 y_M_isScope : Cond) ∈ sr_T := sr_q 1067 (by decide +kernel) (by decide +kernel)
theorem q_1069 : (.instanceMethod y_M_isScope : Cond) ∈ sr_T := sr_q 1069 (by decide +kernel) (by decide +kernel)
theorem qs_M_isScope : (.selects R_M y_M_isScope y_M_isScope : Cond) ∈ sr_T := sr_qs 93 (by decide +kernel) (by decide +kernel)
theorem q_113 : (.fieldLink R_R 15 R_R "plan" "LScopeRunner$Plan;" : Cond) ∈ sr_T := sr_q 113 (by decide +kernel) (by decide +kernel)
theorem q_58 : (.fieldLink R_R 41 R_P "size" "I" : Cond) ∈ sr_T := sr_q 58 (by decide +kernel) (by decide +kernel)
theorem q_34 : (.fieldLink R_R 47 R_P "kinds" "[I" : Cond) ∈ sr_T := sr_q 34 (by decide +kernel) (by decide +kernel)
theorem q_205 : (.code y_P_countChildren b_P_countChildren 4 (some .int) : Cond) ∈ sr_T := sr_q 205 (by decide +kernel) (by decide +kernel)
theorem q_202 : (.methodLink R_R 51 y_P_countChildren : Cond) ∈ sr_T := sr_q 202 (by decide +kernel) (by decide +kernel)
theorem q_203 : (.instanceMethod y_P_countChildren : Cond) ∈ sr_T := sr_q 203 (by decide +kernel) (by decide +kernel)
theorem q_204 : (.selects R_P y_P_countChildren y_P_countChildren : Cond) ∈ sr_T := sr_q 204 (by decide +kernel) (by decide +kernel)
theorem q_208 : (.code y_R_mayHave b_R_mayHave 2 (some .boolean) : Cond) ∈ sr_T := sr_q 208 (by decide +kernel) (by decide +kernel)
theorem q_206 : (.methodLink R_R 55 y_R_mayHave : Cond) ∈ sr_T := sr_q 206 (by decide +kernel) (by decide +kernel)
theorem q_3 : (.initialized R_R : Cond) ∈ sr_T := sr_q 3 (by decide +kernel) (by decide +kernel)
theorem q_207 : (.static y_R_mayHave : Cond) ∈ sr_T := sr_q 207 (by decide +kernel) (by decide +kernel)
theorem q_50 : (.fieldLink R_R 61 R_P "handlers" "[I" : Cond) ∈ sr_T := sr_q 50 (by decide +kernel) (by decide +kernel)
theorem q_31 : (.fieldLink R_R 64 R_P "roles" "[I" : Cond) ∈ sr_T := sr_q 31 (by decide +kernel) (by decide +kernel)
theorem q_228 : (.code y_P_isBelow b_P_isBelow 3 (some .boolean) : Cond) ∈ sr_T := sr_q 228 (by decide +kernel) (by decide +kernel)
theorem q_225 : (.methodLink R_R 77 y_P_isBelow : Cond) ∈ sr_T := sr_q 225 (by decide +kernel) (by decide +kernel)
theorem q_226 : (.instanceMethod y_P_isBelow : Cond) ∈ sr_T := sr_q 226 (by decide +kernel) (by decide +kernel)
theorem q_227 : (.selects R_P y_P_isBelow y_P_isBelow : Cond) ∈ sr_T := sr_q 227 (by decide +kernel) (by decide +kernel)
theorem q_233 : (.methodLink R_R 80 y_P_hasScope : Cond) ∈ sr_T := sr_q 233 (by decide +kernel) (by decide +kernel)
theorem q_47 : (.fieldLink R_R 83 R_P "scopesAround" "[I" : Cond) ∈ sr_T := sr_q 47 (by decide +kernel) (by decide +kernel)
theorem q_224 : (.code y_R_isInHandlersFlow b_R_isInHandlersFlow 3 (some .boolean) : Cond) ∈ sr_T := sr_q 224 (by decide +kernel) (by decide +kernel)
theorem q_221 : (.methodLink R_R 67 y_R_isInHandlersFlow : Cond) ∈ sr_T := sr_q 221 (by decide +kernel) (by decide +kernel)
theorem q_223 : (.instanceMethod y_R_isInHandlersFlow : Cond) ∈ sr_T := sr_q 223 (by decide +kernel) (by decide +kernel)
theorem qs_R_isInHandlersFlow : (.selects R_R y_R_isInHandlersFlow y_R_isInHandlersFlow : Cond) ∈ sr_T := sr_qs 4 (by decide +kernel) (by decide +kernel)
theorem q_37 : (.fieldLink R_R 71 R_P "ps" "[I" : Cond) ∈ sr_T := sr_q 37 (by decide +kernel) (by decide +kernel)
theorem q_232 : (.code y_R_mayUndo b_R_mayUndo 3 (some .boolean) : Cond) ∈ sr_T := sr_q 232 (by decide +kernel) (by decide +kernel)
theorem q_229 : (.methodLink R_R 74 y_R_mayUndo : Cond) ∈ sr_T := sr_q 229 (by decide +kernel) (by decide +kernel)
theorem q_231 : (.instanceMethod y_R_mayUndo : Cond) ∈ sr_T := sr_q 231 (by decide +kernel) (by decide +kernel)
theorem qs_R_mayUndo : (.selects R_R y_R_mayUndo y_R_mayUndo : Cond) ∈ sr_T := sr_qs 5 (by decide +kernel) (by decide +kernel)
theorem q_246 : (.methodLink R_R 105 Lib.Math.min.name : Cond) ∈ sr_T := sr_q 246 (by decide +kernel) (by decide +kernel)
theorem q_247 : (.static Lib.Math.min.name : Cond) ∈ sr_T := sr_q 247 (by decide +kernel) (by decide +kernel)
theorem q_6 : (.initialized "java/lang/Math" : Cond) ∈ sr_T := sr_q 6 (by decide +kernel) (by decide +kernel)
theorem q_248 : (.code Lib.Math.min.name Lib.Math.min.code 2 (some .int) : Cond) ∈ sr_T := sr_q 248 (by decide +kernel) (by decide +kernel)
theorem q_55 : (.fieldLink R_R 110 R_P "within" "[I" : Cond) ∈ sr_T := sr_q 55 (by decide +kernel) (by decide +kernel)
theorem q_253 : (.methodLink R_R 113 y_P_isIn : Cond) ∈ sr_T := sr_q 253 (by decide +kernel) (by decide +kernel)
theorem q_245 : (.code y_R_nearestAbove b_R_nearestAbove 4 (some .int) : Cond) ∈ sr_T := sr_q 245 (by decide +kernel) (by decide +kernel)
theorem q_242 : (.methodLink R_R 98 y_R_nearestAbove : Cond) ∈ sr_T := sr_q 242 (by decide +kernel) (by decide +kernel)
theorem q_244 : (.instanceMethod y_R_nearestAbove : Cond) ∈ sr_T := sr_q 244 (by decide +kernel) (by decide +kernel)
theorem qs_R_nearestAbove : (.selects R_R y_R_nearestAbove y_R_nearestAbove : Cond) ∈ sr_T := sr_qs 8 (by decide +kernel) (by decide +kernel)
theorem q_252 : (.code y_R_mayReach b_R_mayReach 5 (some .boolean) : Cond) ∈ sr_T := sr_q 252 (by decide +kernel) (by decide +kernel)
theorem q_249 : (.methodLink R_R 102 y_R_mayReach : Cond) ∈ sr_T := sr_q 249 (by decide +kernel) (by decide +kernel)
theorem q_251 : (.instanceMethod y_R_mayReach : Cond) ∈ sr_T := sr_q 251 (by decide +kernel) (by decide +kernel)
theorem qs_R_mayReach : (.selects R_R y_R_mayReach y_R_mayReach : Cond) ∈ sr_T := sr_qs 9 (by decide +kernel) (by decide +kernel)
theorem q_72 : (.fieldLink R_R 86 R_P "linkCount" "I" : Cond) ∈ sr_T := sr_q 72 (by decide +kernel) (by decide +kernel)
theorem q_61 : (.fieldLink R_R 89 R_P "sources" "[I" : Cond) ∈ sr_T := sr_q 61 (by decide +kernel) (by decide +kernel)
theorem q_64 : (.fieldLink R_R 92 R_P "targets" "[I" : Cond) ∈ sr_T := sr_q 64 (by decide +kernel) (by decide +kernel)
theorem q_241 : (.code y_R_linkIsRight b_R_linkIsRight 4 (some .boolean) : Cond) ∈ sr_T := sr_q 241 (by decide +kernel) (by decide +kernel)
theorem q_238 : (.methodLink R_R 95 y_R_linkIsRight : Cond) ∈ sr_T := sr_q 238 (by decide +kernel) (by decide +kernel)
theorem q_240 : (.instanceMethod y_R_linkIsRight : Cond) ∈ sr_T := sr_q 240 (by decide +kernel) (by decide +kernel)
theorem qs_R_linkIsRight : (.selects R_R y_R_linkIsRight y_R_linkIsRight : Cond) ∈ sr_T := sr_qs 7 (by decide +kernel) (by decide +kernel)
theorem q_114 : (.fieldLink R_R 9 R_R "before" "[J" : Cond) ∈ sr_T := sr_q 114 (by decide +kernel) (by decide +kernel)
theorem q_264 : (.code y_R_beginning b_R_beginning 1 (some .int) : Cond) ∈ sr_T := sr_q 264 (by decide +kernel) (by decide +kernel)
theorem q_262 : (.methodLink R_R 126 y_R_beginning : Cond) ∈ sr_T := sr_q 262 (by decide +kernel) (by decide +kernel)
theorem q_263 : (.static y_R_beginning : Cond) ∈ sr_T := sr_q 263 (by decide +kernel) (by decide +kernel)
theorem q_267 : (.code y_R_end b_R_end 1 (some .int) : Cond) ∈ sr_T := sr_q 267 (by decide +kernel) (by decide +kernel)
theorem q_265 : (.methodLink R_R 129 y_R_end : Cond) ∈ sr_T := sr_q 265 (by decide +kernel) (by decide +kernel)
theorem q_266 : (.static y_R_end : Cond) ∈ sr_T := sr_q 266 (by decide +kernel) (by decide +kernel)
theorem q_270 : (.code y_R_bit b_R_bit 1 (some .long) : Cond) ∈ sr_T := sr_q 270 (by decide +kernel) (by decide +kernel)
theorem q_268 : (.methodLink R_R 132 y_R_bit : Cond) ∈ sr_T := sr_q 268 (by decide +kernel) (by decide +kernel)
theorem q_269 : (.static y_R_bit : Cond) ∈ sr_T := sr_q 269 (by decide +kernel) (by decide +kernel)
theorem q_28 : (.fieldLink R_R 136 R_P "parents" "[I" : Cond) ∈ sr_T := sr_q 28 (by decide +kernel) (by decide +kernel)
theorem q_274 : (.code y_R_noteNextInSequence b_R_noteNextInSequence 5 none : Cond) ∈ sr_T := sr_q 274 (by decide +kernel) (by decide +kernel)
theorem q_271 : (.methodLink R_R 139 y_R_noteNextInSequence : Cond) ∈ sr_T := sr_q 271 (by decide +kernel) (by decide +kernel)
theorem q_273 : (.instanceMethod y_R_noteNextInSequence : Cond) ∈ sr_T := sr_q 273 (by decide +kernel) (by decide +kernel)
theorem qs_R_noteNextInSequence : (.selects R_R y_R_noteNextInSequence y_R_noteNextInSequence : Cond) ∈ sr_T := sr_qs 12 (by decide +kernel) (by decide +kernel)
theorem q_283 : (.constantLong R_R 143 (-1) : Cond) ∈ sr_T := sr_q 283 (by decide +kernel) (by decide +kernel)
theorem q_261 : (.code y_R_noteTree b_R_noteTree 3 none : Cond) ∈ sr_T := sr_q 261 (by decide +kernel) (by decide +kernel)
theorem q_258 : (.methodLink R_R 116 y_R_noteTree : Cond) ∈ sr_T := sr_q 258 (by decide +kernel) (by decide +kernel)
theorem q_260 : (.instanceMethod y_R_noteTree : Cond) ∈ sr_T := sr_q 260 (by decide +kernel) (by decide +kernel)
theorem qs_R_noteTree : (.selects R_R y_R_noteTree y_R_noteTree : Cond) ∈ sr_T := sr_qs 11 (by decide +kernel) (by decide +kernel)
theorem q_278 : (.code y_R_noteLinks b_R_noteLinks 2 none : Cond) ∈ sr_T := sr_q 278 (by decide +kernel) (by decide +kernel)
theorem q_275 : (.methodLink R_R 119 y_R_noteLinks : Cond) ∈ sr_T := sr_q 275 (by decide +kernel) (by decide +kernel)
theorem q_277 : (.instanceMethod y_R_noteLinks : Cond) ∈ sr_T := sr_q 277 (by decide +kernel) (by decide +kernel)
theorem qs_R_noteLinks : (.selects R_R y_R_noteLinks y_R_noteLinks : Cond) ∈ sr_T := sr_qs 13 (by decide +kernel) (by decide +kernel)
theorem q_282 : (.code y_R_withoutFirst b_R_withoutFirst 6 (some .long) : Cond) ∈ sr_T := sr_q 282 (by decide +kernel) (by decide +kernel)
theorem q_279 : (.methodLink R_R 122 y_R_withoutFirst : Cond) ∈ sr_T := sr_q 279 (by decide +kernel) (by decide +kernel)
theorem q_281 : (.instanceMethod y_R_withoutFirst : Cond) ∈ sr_T := sr_q 281 (by decide +kernel) (by decide +kernel)
theorem qs_R_withoutFirst : (.selects R_R y_R_withoutFirst y_R_withoutFirst : Cond) ∈ sr_T := sr_qs 14 (by decide +kernel) (by decide +kernel)
theorem q_288 : (.methodLink R_R 145 y_P_findStart : Cond) ∈ sr_T := sr_q 288 (by decide +kernel) (by decide +kernel)
theorem q_303 : (.code y_P_isTarget b_P_isTarget 3 (some .boolean) : Cond) ∈ sr_T := sr_q 303 (by decide +kernel) (by decide +kernel)
theorem q_300 : (.methodLink R_R 149 y_P_isTarget : Cond) ∈ sr_T := sr_q 300 (by decide +kernel) (by decide +kernel)
theorem q_301 : (.instanceMethod y_P_isTarget : Cond) ∈ sr_T := sr_q 301 (by decide +kernel) (by decide +kernel)
theorem q_302 : (.selects R_P y_P_isTarget y_P_isTarget : Cond) ∈ sr_T := sr_q 302 (by decide +kernel) (by decide +kernel)
theorem q_201 : (.code y_R_childrenAreRight b_R_childrenAreRight 2 (some .boolean) : Cond) ∈ sr_T := sr_q 201 (by decide +kernel) (by decide +kernel)
theorem q_198 : (.methodLink R_R 19 y_R_childrenAreRight : Cond) ∈ sr_T := sr_q 198 (by decide +kernel) (by decide +kernel)
theorem q_200 : (.instanceMethod y_R_childrenAreRight : Cond) ∈ sr_T := sr_q 200 (by decide +kernel) (by decide +kernel)
theorem qs_R_childrenAreRight : (.selects R_R y_R_childrenAreRight y_R_childrenAreRight : Cond) ∈ sr_T := sr_qs 0 (by decide +kernel) (by decide +kernel)
theorem q_212 : (.code y_R_handlersAreFlat b_R_handlersAreFlat 2 (some .boolean) : Cond) ∈ sr_T := sr_q 212 (by decide +kernel) (by decide +kernel)
theorem q_209 : (.methodLink R_R 23 y_R_handlersAreFlat : Cond) ∈ sr_T := sr_q 209 (by decide +kernel) (by decide +kernel)
theorem q_211 : (.instanceMethod y_R_handlersAreFlat : Cond) ∈ sr_T := sr_q 211 (by decide +kernel) (by decide +kernel)
theorem qs_R_handlersAreFlat : (.selects R_R y_R_handlersAreFlat y_R_handlersAreFlat : Cond) ∈ sr_T := sr_qs 1 (by decide +kernel) (by decide +kernel)
theorem q_216 : (.code y_R_handlerKindsAreInside b_R_handlerKindsAreInside 5 (some .boolean) : Cond) ∈ sr_T := sr_q 216 (by decide +kernel) (by decide +kernel)
theorem q_213 : (.methodLink R_R 26 y_R_handlerKindsAreInside : Cond) ∈ sr_T := sr_q 213 (by decide +kernel) (by decide +kernel)
theorem q_215 : (.instanceMethod y_R_handlerKindsAreInside : Cond) ∈ sr_T := sr_q 215 (by decide +kernel) (by decide +kernel)
theorem qs_R_handlerKindsAreInside : (.selects R_R y_R_handlerKindsAreInside y_R_handlerKindsAreInside : Cond) ∈ sr_T := sr_qs 2 (by decide +kernel) (by decide +kernel)
theorem q_220 : (.code y_R_compensatesAreRight b_R_compensatesAreRight 2 (some .boolean) : Cond) ∈ sr_T := sr_q 220 (by decide +kernel) (by decide +kernel)
theorem q_217 : (.methodLink R_R 29 y_R_compensatesAreRight : Cond) ∈ sr_T := sr_q 217 (by decide +kernel) (by decide +kernel)
theorem q_219 : (.instanceMethod y_R_compensatesAreRight : Cond) ∈ sr_T := sr_q 219 (by decide +kernel) (by decide +kernel)
theorem qs_R_compensatesAreRight : (.selects R_R y_R_compensatesAreRight y_R_compensatesAreRight : Cond) ∈ sr_T := sr_qs 3 (by decide +kernel) (by decide +kernel)
theorem q_237 : (.code y_R_linksAreRight b_R_linksAreRight 2 (some .boolean) : Cond) ∈ sr_T := sr_q 237 (by decide +kernel) (by decide +kernel)
theorem q_234 : (.methodLink R_R 32 y_R_linksAreRight : Cond) ∈ sr_T := sr_q 234 (by decide +kernel) (by decide +kernel)
theorem q_236 : (.instanceMethod y_R_linksAreRight : Cond) ∈ sr_T := sr_q 236 (by decide +kernel) (by decide +kernel)
theorem qs_R_linksAreRight : (.selects R_R y_R_linksAreRight y_R_linksAreRight : Cond) ∈ sr_T := sr_qs 6 (by decide +kernel) (by decide +kernel)
theorem q_257 : (.code y_R_orderIsRight b_R_orderIsRight 5 (some .boolean) : Cond) ∈ sr_T := sr_q 257 (by decide +kernel) (by decide +kernel)
theorem q_254 : (.methodLink R_R 35 y_R_orderIsRight : Cond) ∈ sr_T := sr_q 254 (by decide +kernel) (by decide +kernel)
theorem q_256 : (.instanceMethod y_R_orderIsRight : Cond) ∈ sr_T := sr_q 256 (by decide +kernel) (by decide +kernel)
theorem qs_R_orderIsRight : (.selects R_R y_R_orderIsRight y_R_orderIsRight : Cond) ∈ sr_T := sr_qs 10 (by decide +kernel) (by decide +kernel)
theorem q_287 : (.code y_R_startIsRight b_R_startIsRight 3 (some .boolean) : Cond) ∈ sr_T := sr_q 287 (by decide +kernel) (by decide +kernel)
theorem q_284 : (.methodLink R_R 38 y_R_startIsRight : Cond) ∈ sr_T := sr_q 284 (by decide +kernel) (by decide +kernel)
theorem q_286 : (.instanceMethod y_R_startIsRight : Cond) ∈ sr_T := sr_q 286 (by decide +kernel) (by decide +kernel)
theorem qs_R_startIsRight : (.selects R_R y_R_startIsRight y_R_startIsRight : Cond) ∈ sr_T := sr_qs 15 (by decide +kernel) (by decide +kernel)
theorem q_496 : (.fieldLink R_E 21 R_E "count" "I" : Cond) ∈ sr_T := sr_q 496 (by decide +kernel) (by decide +kernel)
theorem q_495 : (.fieldLink R_E 18 R_E "places" "[I" : Cond) ∈ sr_T := sr_q 495 (by decide +kernel) (by decide +kernel)
theorem q_373 : (.code y_E_moveAll b_E_moveAll 4 none : Cond) ∈ sr_T := sr_q 373 (by decide +kernel) (by decide +kernel)
theorem q_369 : (.methodLink R_E 25 y_E_moveAll : Cond) ∈ sr_T := sr_q 369 (by decide +kernel) (by decide +kernel)
theorem q_11 : (.initialized R_E : Cond) ∈ sr_T := sr_q 11 (by decide +kernel) (by decide +kernel)
theorem q_371 : (.instanceMethod y_E_moveAll : Cond) ∈ sr_T := sr_q 371 (by decide +kernel) (by decide +kernel)
theorem qs_E_moveAll : (.selects R_E y_E_moveAll y_E_moveAll : Cond) ∈ sr_T := sr_qs 25 (by decide +kernel) (by decide +kernel)
theorem q_491 : (.fieldLink R_E 9 R_E "scopes" "[I" : Cond) ∈ sr_T := sr_q 491 (by decide +kernel) (by decide +kernel)
theorem q_493 : (.fieldLink R_E 15 R_E "owned" "[I" : Cond) ∈ sr_T := sr_q 493 (by decide +kernel) (by decide +kernel)
theorem q_368 : (.code y_E_clear b_E_clear 2 none : Cond) ∈ sr_T := sr_q 368 (by decide +kernel) (by decide +kernel)
theorem q_634 : (.methodLink R_E 29 y_E_clear : Cond) ∈ sr_T := sr_q 634 (by decide +kernel) (by decide +kernel)
theorem q_366 : (.instanceMethod y_E_clear : Cond) ∈ sr_T := sr_q 366 (by decide +kernel) (by decide +kernel)
theorem q_367 : (.selects R_E y_E_clear y_E_clear : Cond) ∈ sr_T := sr_q 367 (by decide +kernel) (by decide +kernel)
theorem q_423 : (.methodLink R_E 33 y_P_isIn : Cond) ∈ sr_T := sr_q 423 (by decide +kernel) (by decide +kernel)
theorem q_512 : (.fieldLink R_G 9 R_G "latest" "[I" : Cond) ∈ sr_T := sr_q 512 (by decide +kernel) (by decide +kernel)
theorem q_513 : (.fieldLink R_G 15 R_G "count" "I" : Cond) ∈ sr_T := sr_q 513 (by decide +kernel) (by decide +kernel)
theorem q_478 : (.fieldLink R_L 15 R_L "plan" "LScopeRunner$Plan;" : Cond) ∈ sr_T := sr_q 478 (by decide +kernel) (by decide +kernel)
theorem q_69 : (.fieldLink R_L 19 R_P "linkCount" "I" : Cond) ∈ sr_T := sr_q 69 (by decide +kernel) (by decide +kernel)
theorem q_63 : (.fieldLink R_L 25 R_P "targets" "[I" : Cond) ∈ sr_T := sr_q 63 (by decide +kernel) (by decide +kernel)
theorem q_479 : (.fieldLink R_L 9 R_L "values" "[I" : Cond) ∈ sr_T := sr_q 479 (by decide +kernel) (by decide +kernel)
theorem q_599 : (.code y_L_countTo b_L_countTo 5 (some .int) : Cond) ∈ sr_T := sr_q 599 (by decide +kernel) (by decide +kernel)
theorem q_596 : (.methodLink R_L 28 y_L_countTo : Cond) ∈ sr_T := sr_q 596 (by decide +kernel) (by decide +kernel)
theorem q_10 : (.initialized R_L : Cond) ∈ sr_T := sr_q 10 (by decide +kernel) (by decide +kernel)
theorem q_598 : (.instanceMethod y_L_countTo : Cond) ∈ sr_T := sr_q 598 (by decide +kernel) (by decide +kernel)
theorem qs_L_countTo : (.selects R_L y_L_countTo y_L_countTo : Cond) ∈ sr_T := sr_qs 38 (by decide +kernel) (by decide +kernel)
theorem q_527 : (.fieldLink R_I 9 R_I "statuses" "[I" : Cond) ∈ sr_T := sr_q 527 (by decide +kernel) (by decide +kernel)
theorem q_534 : (.fieldLink R_I 57 R_I "links" "LScopeRunner$Links;" : Cond) ∈ sr_T := sr_q 534 (by decide +kernel) (by decide +kernel)
theorem q_595 : (.code y_L_areSetTo b_L_areSetTo 2 (some .boolean) : Cond) ∈ sr_T := sr_q 595 (by decide +kernel) (by decide +kernel)
theorem q_592 : (.methodLink R_I 87 y_L_areSetTo : Cond) ∈ sr_T := sr_q 592 (by decide +kernel) (by decide +kernel)
theorem q_593 : (.instanceMethod y_L_areSetTo : Cond) ∈ sr_T := sr_q 593 (by decide +kernel) (by decide +kernel)
theorem q_594 : (.selects R_L y_L_areSetTo y_L_areSetTo : Cond) ∈ sr_T := sr_q 594 (by decide +kernel) (by decide +kernel)
theorem q_531 : (.fieldLink R_I 21 R_I "busy" "[Z" : Cond) ∈ sr_T := sr_q 531 (by decide +kernel) (by decide +kernel)
theorem q_520 : (.fieldLink R_I 25 R_I "plan" "LScopeRunner$Plan;" : Cond) ∈ sr_T := sr_q 520 (by decide +kernel) (by decide +kernel)
theorem q_56 : (.fieldLink R_I 80 R_P "size" "I" : Cond) ∈ sr_T := sr_q 56 (by decide +kernel) (by decide +kernel)
theorem q_525 : (.fieldLink R_I 75 R_I "outcome" "I" : Cond) ∈ sr_T := sr_q 525 (by decide +kernel) (by decide +kernel)
theorem q_591 : (.code y_I_canStep b_I_canStep 2 (some .boolean) : Cond) ∈ sr_T := sr_q 591 (by decide +kernel) (by decide +kernel)
theorem q_588 : (.methodLink R_I 83 y_I_canStep : Cond) ∈ sr_T := sr_q 588 (by decide +kernel) (by decide +kernel)
theorem q_8 : (.initialized R_I : Cond) ∈ sr_T := sr_q 8 (by decide +kernel) (by decide +kernel)
theorem q_590 : (.instanceMethod y_I_canStep : Cond) ∈ sr_T := sr_q 590 (by decide +kernel) (by decide +kernel)
theorem qs_I_canStep : (.selects R_I y_I_canStep y_I_canStep : Cond) ∈ sr_T := sr_qs 37 (by decide +kernel) (by decide +kernel)
theorem q_458 : (.fieldLink R_V 18 R_V "plan" "LScopeRunner$Plan;" : Cond) ∈ sr_T := sr_q 458 (by decide +kernel) (by decide +kernel)
theorem q_46 : (.fieldLink R_V 22 R_P "scopesAround" "[I" : Cond) ∈ sr_T := sr_q 46 (by decide +kernel) (by decide +kernel)
theorem q_461 : (.fieldLink R_V 15 R_V "owned" "[I" : Cond) ∈ sr_T := sr_q 461 (by decide +kernel) (by decide +kernel)
theorem q_459 : (.fieldLink R_V 9 R_V "shared" "[I" : Cond) ∈ sr_T := sr_q 459 (by decide +kernel) (by decide +kernel)
theorem q_532 : (.fieldLink R_I 50 R_I "variables" "LScopeRunner$Variables;" : Cond) ∈ sr_T := sr_q 532 (by decide +kernel) (by decide +kernel)
theorem q_38 : (.fieldLink R_I 141 R_P "ps" "[I" : Cond) ∈ sr_T := sr_q 38 (by decide +kernel) (by decide +kernel)
theorem q_356 : (.code y_V_read b_V_read 4 (some .int) : Cond) ∈ sr_T := sr_q 356 (by decide +kernel) (by decide +kernel)
theorem q_608 : (.methodLink R_I 182 y_V_read : Cond) ∈ sr_T := sr_q 608 (by decide +kernel) (by decide +kernel)
theorem q_9 : (.initialized R_V : Cond) ∈ sr_T := sr_q 9 (by decide +kernel) (by decide +kernel)
theorem q_354 : (.instanceMethod y_V_read : Cond) ∈ sr_T := sr_q 354 (by decide +kernel) (by decide +kernel)
theorem q_355 : (.selects R_V y_V_read y_V_read : Cond) ∈ sr_T := sr_q 355 (by decide +kernel) (by decide +kernel)
theorem q_40 : (.fieldLink R_I 116 R_P "qs" "[I" : Cond) ∈ sr_T := sr_q 40 (by decide +kernel) (by decide +kernel)
theorem q_60 : (.fieldLink R_L 39 R_P "sources" "[I" : Cond) ∈ sr_T := sr_q 60 (by decide +kernel) (by decide +kernel)
theorem q_428 : (.methodLink R_L 53 y_P_isIn : Cond) ∈ sr_T := sr_q 428 (by decide +kernel) (by decide +kernel)
theorem q_616 : (.code y_L_unsetFrom b_L_unsetFrom 3 none : Cond) ∈ sr_T := sr_q 616 (by decide +kernel) (by decide +kernel)
theorem q_613 : (.methodLink R_I 226 y_L_unsetFrom : Cond) ∈ sr_T := sr_q 613 (by decide +kernel) (by decide +kernel)
theorem q_614 : (.instanceMethod y_L_unsetFrom : Cond) ∈ sr_T := sr_q 614 (by decide +kernel) (by decide +kernel)
theorem q_615 : (.selects R_L y_L_unsetFrom y_L_unsetFrom : Cond) ∈ sr_T := sr_q 615 (by decide +kernel) (by decide +kernel)
theorem q_411 : (.methodLink R_I 222 y_P_isIn : Cond) ∈ sr_T := sr_q 411 (by decide +kernel) (by decide +kernel)
theorem q_540 : (.fieldLink R_I 146 R_I "due" "I" : Cond) ∈ sr_T := sr_q 540 (by decide +kernel) (by decide +kernel)
theorem q_541 : (.fieldLink R_I 149 R_I "dueActivity" "I" : Cond) ∈ sr_T := sr_q 541 (by decide +kernel) (by decide +kernel)
theorem q_332 : (.code y_I_completes b_I_completes 2 none : Cond) ∈ sr_T := sr_q 332 (by decide +kernel) (by decide +kernel)
theorem q_329 : (.methodLink R_I 123 y_I_completes : Cond) ∈ sr_T := sr_q 329 (by decide +kernel) (by decide +kernel)
theorem q_331 : (.instanceMethod y_I_completes : Cond) ∈ sr_T := sr_q 331 (by decide +kernel) (by decide +kernel)
theorem qs_I_completes : (.selects R_I y_I_completes y_I_completes : Cond) ∈ sr_T := sr_qs 19 (by decide +kernel) (by decide +kernel)
theorem q_607 : (.code y_I_conditionHolds b_I_conditionHolds 2 (some .boolean) : Cond) ∈ sr_T := sr_q 607 (by decide +kernel) (by decide +kernel)
theorem q_604 : (.methodLink R_I 216 y_I_conditionHolds : Cond) ∈ sr_T := sr_q 604 (by decide +kernel) (by decide +kernel)
theorem q_606 : (.instanceMethod y_I_conditionHolds : Cond) ∈ sr_T := sr_q 606 (by decide +kernel) (by decide +kernel)
theorem qs_I_conditionHolds : (.selects R_I y_I_conditionHolds y_I_conditionHolds : Cond) ∈ sr_T := sr_qs 40 (by decide +kernel) (by decide +kernel)
theorem q_54 : (.fieldLink R_I 135 R_P "within" "[I" : Cond) ∈ sr_T := sr_q 54 (by decide +kernel) (by decide +kernel)
theorem q_612 : (.code y_I_renew b_I_renew 3 none : Cond) ∈ sr_T := sr_q 612 (by decide +kernel) (by decide +kernel)
theorem q_609 : (.methodLink R_I 219 y_I_renew : Cond) ∈ sr_T := sr_q 609 (by decide +kernel) (by decide +kernel)
theorem q_611 : (.instanceMethod y_I_renew : Cond) ∈ sr_T := sr_q 611 (by decide +kernel) (by decide +kernel)
theorem qs_I_renew : (.selects R_I y_I_renew y_I_renew : Cond) ∈ sr_T := sr_qs 41 (by decide +kernel) (by decide +kernel)
theorem q_617 : (.methodLink R_I 195 y_P_firstChild : Cond) ∈ sr_T := sr_q 617 (by decide +kernel) (by decide +kernel)
theorem q_398 : (.code y_I_openOrComplete b_I_openOrComplete 3 none : Cond) ∈ sr_T := sr_q 398 (by decide +kernel) (by decide +kernel)
theorem q_395 : (.methodLink R_I 198 y_I_openOrComplete : Cond) ∈ sr_T := sr_q 395 (by decide +kernel) (by decide +kernel)
theorem q_397 : (.instanceMethod y_I_openOrComplete : Cond) ∈ sr_T := sr_q 397 (by decide +kernel) (by decide +kernel)
theorem qs_I_openOrComplete : (.selects R_I y_I_openOrComplete y_I_openOrComplete : Cond) ∈ sr_T := sr_qs 29 (by decide +kernel) (by decide +kernel)
theorem q_536 : (.fieldLink R_I 64 R_I "entries" "LScopeRunner$Entries;" : Cond) ∈ sr_T := sr_q 536 (by decide +kernel) (by decide +kernel)
theorem q_492 : (.fieldLink R_I 244 R_E "scopes" "[I" : Cond) ∈ sr_T := sr_q 492 (by decide +kernel) (by decide +kernel)
theorem q_530 : (.fieldLink R_I 18 R_I "takers" "[I" : Cond) ∈ sr_T := sr_q 530 (by decide +kernel) (by decide +kernel)
theorem q_538 : (.fieldLink R_I 71 R_I "log" "LScopeRunner$EventLog;" : Cond) ∈ sr_T := sr_q 538 (by decide +kernel) (by decide +kernel)
theorem q_348 : (.code y_G_write b_G_write 3 none : Cond) ∈ sr_T := sr_q 348 (by decide +kernel) (by decide +kernel)
theorem q_345 : (.methodLink R_I 144 y_G_write : Cond) ∈ sr_T := sr_q 345 (by decide +kernel) (by decide +kernel)
theorem q_12 : (.initialized R_G : Cond) ∈ sr_T := sr_q 12 (by decide +kernel) (by decide +kernel)
theorem q_346 : (.instanceMethod y_G_write : Cond) ∈ sr_T := sr_q 346 (by decide +kernel) (by decide +kernel)
theorem q_347 : (.selects R_G y_G_write y_G_write : Cond) ∈ sr_T := sr_q 347 (by decide +kernel) (by decide +kernel)
theorem q_463 : (.fieldLink R_I 229 R_V "owned" "[I" : Cond) ∈ sr_T := sr_q 463 (by decide +kernel) (by decide +kernel)
theorem q_494 : (.fieldLink R_I 247 R_E "owned" "[I" : Cond) ∈ sr_T := sr_q 494 (by decide +kernel) (by decide +kernel)
theorem q_633 : (.code y_E_handBack b_E_handBack 2 none : Cond) ∈ sr_T := sr_q 633 (by decide +kernel) (by decide +kernel)
theorem q_630 : (.methodLink R_I 248 y_E_handBack : Cond) ∈ sr_T := sr_q 630 (by decide +kernel) (by decide +kernel)
theorem q_631 : (.instanceMethod y_E_handBack : Cond) ∈ sr_T := sr_q 631 (by decide +kernel) (by decide +kernel)
theorem q_632 : (.selects R_E y_E_handBack y_E_handBack : Cond) ∈ sr_T := sr_q 632 (by decide +kernel) (by decide +kernel)
theorem q_433 : (.methodLink R_I 251 y_P_handlerOf : Cond) ∈ sr_T := sr_q 433 (by decide +kernel) (by decide +kernel)
theorem q_437 : (.code y_I_becomeUndoer b_I_becomeUndoer 3 none : Cond) ∈ sr_T := sr_q 437 (by decide +kernel) (by decide +kernel)
theorem q_434 : (.methodLink R_I 192 y_I_becomeUndoer : Cond) ∈ sr_T := sr_q 434 (by decide +kernel) (by decide +kernel)
theorem q_436 : (.instanceMethod y_I_becomeUndoer : Cond) ∈ sr_T := sr_q 436 (by decide +kernel) (by decide +kernel)
theorem qs_I_becomeUndoer : (.selects R_I y_I_becomeUndoer y_I_becomeUndoer : Cond) ∈ sr_T := sr_qs 35 (by decide +kernel) (by decide +kernel)
theorem q_365 : (.methodLink R_I 232 y_E_clear : Cond) ∈ sr_T := sr_q 365 (by decide +kernel) (by decide +kernel)
theorem q_344 : (.code y_I_become b_I_become 4 none : Cond) ∈ sr_T := sr_q 344 (by decide +kernel) (by decide +kernel)
theorem q_341 : (.methodLink R_I 176 y_I_become : Cond) ∈ sr_T := sr_q 341 (by decide +kernel) (by decide +kernel)
theorem q_343 : (.instanceMethod y_I_become : Cond) ∈ sr_T := sr_q 343 (by decide +kernel) (by decide +kernel)
theorem qs_I_become : (.selects R_I y_I_become y_I_become : Cond) ∈ sr_T := sr_qs 22 (by decide +kernel) (by decide +kernel)
theorem q_542 : (.fieldLink R_I 152 R_I "dueFault" "I" : Cond) ∈ sr_T := sr_q 542 (by decide +kernel) (by decide +kernel)
theorem q_35 : (.fieldLink R_I 126 R_P "kinds" "[I" : Cond) ∈ sr_T := sr_q 35 (by decide +kernel) (by decide +kernel)
theorem q_625 : (.code y_E_latestIn b_E_latestIn 4 (some .int) : Cond) ∈ sr_T := sr_q 625 (by decide +kernel) (by decide +kernel)
theorem q_622 : (.methodLink R_I 235 y_E_latestIn : Cond) ∈ sr_T := sr_q 622 (by decide +kernel) (by decide +kernel)
theorem q_623 : (.instanceMethod y_E_latestIn : Cond) ∈ sr_T := sr_q 623 (by decide +kernel) (by decide +kernel)
theorem q_624 : (.selects R_E y_E_latestIn y_E_latestIn : Cond) ∈ sr_T := sr_q 624 (by decide +kernel) (by decide +kernel)
theorem q_529 : (.fieldLink R_I 15 R_I "faultsOf" "[I" : Cond) ∈ sr_T := sr_q 529 (by decide +kernel) (by decide +kernel)
theorem q_389 : (.code y_I_faults b_I_faults 3 none : Cond) ∈ sr_T := sr_q 389 (by decide +kernel) (by decide +kernel)
theorem q_386 : (.methodLink R_I 131 y_I_faults : Cond) ∈ sr_T := sr_q 386 (by decide +kernel) (by decide +kernel)
theorem q_388 : (.instanceMethod y_I_faults : Cond) ∈ sr_T := sr_q 388 (by decide +kernel) (by decide +kernel)
theorem qs_I_faults : (.selects R_I y_I_faults y_I_faults : Cond) ∈ sr_T := sr_qs 28 (by decide +kernel) (by decide +kernel)
theorem q_377 : (.code y_I_endUndo b_I_endUndo 4 none : Cond) ∈ sr_T := sr_q 377 (by decide +kernel) (by decide +kernel)
theorem q_374 : (.methodLink R_I 241 y_I_endUndo : Cond) ∈ sr_T := sr_q 374 (by decide +kernel) (by decide +kernel)
theorem q_376 : (.instanceMethod y_I_endUndo : Cond) ∈ sr_T := sr_q 376 (by decide +kernel) (by decide +kernel)
theorem qs_I_endUndo : (.selects R_I y_I_endUndo y_I_endUndo : Cond) ∈ sr_T := sr_qs 26 (by decide +kernel) (by decide +kernel)
theorem q_629 : (.code y_I_undo b_I_undo 5 none : Cond) ∈ sr_T := sr_q 629 (by decide +kernel) (by decide +kernel)
theorem q_626 : (.methodLink R_I 238 y_I_undo : Cond) ∈ sr_T := sr_q 626 (by decide +kernel) (by decide +kernel)
theorem q_628 : (.instanceMethod y_I_undo : Cond) ∈ sr_T := sr_q 628 (by decide +kernel) (by decide +kernel)
theorem qs_I_undo : (.selects R_I y_I_undo y_I_undo : Cond) ∈ sr_T := sr_qs 43 (by decide +kernel) (by decide +kernel)
theorem q_48 : (.fieldLink R_I 186 R_P "scopesAround" "[I" : Cond) ∈ sr_T := sr_q 48 (by decide +kernel) (by decide +kernel)
theorem q_43 : (.fieldLink R_L 32 R_P "modes" "[I" : Cond) ∈ sr_T := sr_q 43 (by decide +kernel) (by decide +kernel)
theorem q_639 : (.methodLink R_L 35 y_P_isTarget : Cond) ∈ sr_T := sr_q 639 (by decide +kernel) (by decide +kernel)
theorem q_521 : (.fieldLink R_I 35 R_I "start" "I" : Cond) ∈ sr_T := sr_q 521 (by decide +kernel) (by decide +kernel)
theorem q_324 : (.code y_I_waitingReceive b_I_waitingReceive 3 (some .int) : Cond) ∈ sr_T := sr_q 324 (by decide +kernel) (by decide +kernel)
theorem q_320 : (.methodLink R_I 112 y_I_waitingReceive : Cond) ∈ sr_T := sr_q 320 (by decide +kernel) (by decide +kernel)
theorem q_322 : (.instanceMethod y_I_waitingReceive : Cond) ∈ sr_T := sr_q 322 (by decide +kernel) (by decide +kernel)
theorem qs_I_waitingReceive : (.selects R_I y_I_waitingReceive y_I_waitingReceive : Cond) ∈ sr_T := sr_qs 18 (by decide +kernel) (by decide +kernel)
theorem q_524 : (.fieldLink R_I 42 R_I "startValue" "I" : Cond) ∈ sr_T := sr_q 524 (by decide +kernel) (by decide +kernel)
theorem q_328 : (.code y_V_write b_V_write 5 none : Cond) ∈ sr_T := sr_q 328 (by decide +kernel) (by decide +kernel)
theorem q_325 : (.methodLink R_I 119 y_V_write : Cond) ∈ sr_T := sr_q 325 (by decide +kernel) (by decide +kernel)
theorem q_326 : (.instanceMethod y_V_write : Cond) ∈ sr_T := sr_q 326 (by decide +kernel) (by decide +kernel)
theorem q_327 : (.selects R_V y_V_write y_V_write : Cond) ∈ sr_T := sr_q 327 (by decide +kernel) (by decide +kernel)
theorem q_29 : (.fieldLink R_I 210 R_P "parents" "[I" : Cond) ∈ sr_T := sr_q 29 (by decide +kernel) (by decide +kernel)
theorem q_427 : (.code y_L_closeFrom b_L_closeFrom 3 none : Cond) ∈ sr_T := sr_q 427 (by decide +kernel) (by decide +kernel)
theorem q_424 : (.methodLink R_I 179 y_L_closeFrom : Cond) ∈ sr_T := sr_q 424 (by decide +kernel) (by decide +kernel)
theorem q_425 : (.instanceMethod y_L_closeFrom : Cond) ∈ sr_T := sr_q 425 (by decide +kernel) (by decide +kernel)
theorem q_426 : (.selects R_L y_L_closeFrom y_L_closeFrom : Cond) ∈ sr_T := sr_q 426 (by decide +kernel) (by decide +kernel)
theorem q_394 : (.methodLink R_I 213 y_P_childAfter : Cond) ∈ sr_T := sr_q 394 (by decide +kernel) (by decide +kernel)
theorem q_659 : (.code y_I_skip b_I_skip 2 none : Cond) ∈ sr_T := sr_q 659 (by decide +kernel) (by decide +kernel)
theorem q_656 : (.methodLink R_I 170 y_I_skip : Cond) ∈ sr_T := sr_q 656 (by decide +kernel) (by decide +kernel)
theorem q_658 : (.instanceMethod y_I_skip : Cond) ∈ sr_T := sr_q 658 (by decide +kernel) (by decide +kernel)
theorem qs_I_skip : (.selects R_I y_I_skip y_I_skip : Cond) ∈ sr_T := sr_qs 48 (by decide +kernel) (by decide +kernel)
theorem q_647 : (.code y_I_beginReceive b_I_beginReceive 2 none : Cond) ∈ sr_T := sr_q 647 (by decide +kernel) (by decide +kernel)
theorem q_644 : (.methodLink R_I 189 y_I_beginReceive : Cond) ∈ sr_T := sr_q 644 (by decide +kernel) (by decide +kernel)
theorem q_646 : (.instanceMethod y_I_beginReceive : Cond) ∈ sr_T := sr_q 646 (by decide +kernel) (by decide +kernel)
theorem qs_I_beginReceive : (.selects R_I y_I_beginReceive y_I_beginReceive : Cond) ∈ sr_T := sr_qs 45 (by decide +kernel) (by decide +kernel)
theorem q_651 : (.code y_I_beginFlow b_I_beginFlow 3 none : Cond) ∈ sr_T := sr_q 651 (by decide +kernel) (by decide +kernel)
theorem q_648 : (.methodLink R_I 201 y_I_beginFlow : Cond) ∈ sr_T := sr_q 648 (by decide +kernel) (by decide +kernel)
theorem q_650 : (.instanceMethod y_I_beginFlow : Cond) ∈ sr_T := sr_q 650 (by decide +kernel) (by decide +kernel)
theorem qs_I_beginFlow : (.selects R_I y_I_beginFlow y_I_beginFlow : Cond) ∈ sr_T := sr_qs 46 (by decide +kernel) (by decide +kernel)
theorem q_655 : (.code y_I_beginIf b_I_beginIf 7 none : Cond) ∈ sr_T := sr_q 655 (by decide +kernel) (by decide +kernel)
theorem q_652 : (.methodLink R_I 204 y_I_beginIf : Cond) ∈ sr_T := sr_q 652 (by decide +kernel) (by decide +kernel)
theorem q_654 : (.instanceMethod y_I_beginIf : Cond) ∈ sr_T := sr_q 654 (by decide +kernel) (by decide +kernel)
theorem qs_I_beginIf : (.selects R_I y_I_beginIf y_I_beginIf : Cond) ∈ sr_T := sr_qs 47 (by decide +kernel) (by decide +kernel)
theorem q_603 : (.code y_I_loop b_I_loop 2 none : Cond) ∈ sr_T := sr_q 603 (by decide +kernel) (by decide +kernel)
theorem q_600 : (.methodLink R_I 93 y_I_loop : Cond) ∈ sr_T := sr_q 600 (by decide +kernel) (by decide +kernel)
theorem q_602 : (.instanceMethod y_I_loop : Cond) ∈ sr_T := sr_q 602 (by decide +kernel) (by decide +kernel)
theorem qs_I_loop : (.selects R_I y_I_loop y_I_loop : Cond) ∈ sr_T := sr_qs 39 (by decide +kernel) (by decide +kernel)
theorem q_663 : (.code y_I_beginScope b_I_beginScope 2 none : Cond) ∈ sr_T := sr_q 663 (by decide +kernel) (by decide +kernel)
theorem q_660 : (.methodLink R_I 207 y_I_beginScope : Cond) ∈ sr_T := sr_q 660 (by decide +kernel) (by decide +kernel)
theorem q_662 : (.instanceMethod y_I_beginScope : Cond) ∈ sr_T := sr_q 662 (by decide +kernel) (by decide +kernel)
theorem qs_I_beginScope : (.selects R_I y_I_beginScope y_I_beginScope : Cond) ∈ sr_T := sr_qs 49 (by decide +kernel) (by decide +kernel)
theorem q_44 : (.fieldLink R_I 167 R_P "modes" "[I" : Cond) ∈ sr_T := sr_q 44 (by decide +kernel) (by decide +kernel)
theorem q_360 : (.code y_I_reports b_I_reports 2 none : Cond) ∈ sr_T := sr_q 360 (by decide +kernel) (by decide +kernel)
theorem q_357 : (.methodLink R_I 173 y_I_reports : Cond) ∈ sr_T := sr_q 357 (by decide +kernel) (by decide +kernel)
theorem q_359 : (.instanceMethod y_I_reports : Cond) ∈ sr_T := sr_q 359 (by decide +kernel) (by decide +kernel)
theorem qs_I_reports : (.selects R_I y_I_reports y_I_reports : Cond) ∈ sr_T := sr_qs 23 (by decide +kernel) (by decide +kernel)
theorem q_66 : (.fieldLink R_L 42 R_P "conditions" "[I" : Cond) ∈ sr_T := sr_q 66 (by decide +kernel) (by decide +kernel)
theorem q_353 : (.methodLink R_L 45 y_V_read : Cond) ∈ sr_T := sr_q 353 (by decide +kernel) (by decide +kernel)
theorem q_68 : (.fieldLink R_L 50 R_P "bounds" "[I" : Cond) ∈ sr_T := sr_q 68 (by decide +kernel) (by decide +kernel)
theorem q_352 : (.code y_L_decideFrom b_L_decideFrom 6 none : Cond) ∈ sr_T := sr_q 352 (by decide +kernel) (by decide +kernel)
theorem q_349 : (.methodLink R_I 254 y_L_decideFrom : Cond) ∈ sr_T := sr_q 349 (by decide +kernel) (by decide +kernel)
theorem q_350 : (.instanceMethod y_L_decideFrom : Cond) ∈ sr_T := sr_q 350 (by decide +kernel) (by decide +kernel)
theorem q_351 : (.selects R_L y_L_decideFrom y_L_decideFrom : Cond) ∈ sr_T := sr_q 351 (by decide +kernel) (by decide +kernel)
theorem q_385 : (.code y_E_areUsedUp b_E_areUsedUp 1 (some .boolean) : Cond) ∈ sr_T := sr_q 385 (by decide +kernel) (by decide +kernel)
theorem q_382 : (.methodLink R_I 267 y_E_areUsedUp : Cond) ∈ sr_T := sr_q 382 (by decide +kernel) (by decide +kernel)
theorem q_383 : (.instanceMethod y_E_areUsedUp : Cond) ∈ sr_T := sr_q 383 (by decide +kernel) (by decide +kernel)
theorem q_384 : (.selects R_E y_E_areUsedUp y_E_areUsedUp : Cond) ∈ sr_T := sr_q 384 (by decide +kernel) (by decide +kernel)
theorem q_393 : (.code y_E_make b_E_make 4 none : Cond) ∈ sr_T := sr_q 393 (by decide +kernel) (by decide +kernel)
theorem q_390 : (.methodLink R_I 271 y_E_make : Cond) ∈ sr_T := sr_q 390 (by decide +kernel) (by decide +kernel)
theorem q_391 : (.instanceMethod y_E_make : Cond) ∈ sr_T := sr_q 391 (by decide +kernel) (by decide +kernel)
theorem q_392 : (.selects R_E y_E_make y_E_make : Cond) ∈ sr_T := sr_q 392 (by decide +kernel) (by decide +kernel)
theorem q_32 : (.fieldLink R_I 258 R_P "roles" "[I" : Cond) ∈ sr_T := sr_q 32 (by decide +kernel) (by decide +kernel)
theorem q_402 : (.code y_I_allChildrenEnded b_I_allChildrenEnded 4 (some .boolean) : Cond) ∈ sr_T := sr_q 402 (by decide +kernel) (by decide +kernel)
theorem q_399 : (.methodLink R_I 264 y_I_allChildrenEnded : Cond) ∈ sr_T := sr_q 399 (by decide +kernel) (by decide +kernel)
theorem q_401 : (.instanceMethod y_I_allChildrenEnded : Cond) ∈ sr_T := sr_q 401 (by decide +kernel) (by decide +kernel)
theorem qs_I_allChildrenEnded : (.selects R_I y_I_allChildrenEnded y_I_allChildrenEnded : Cond) ∈ sr_T := sr_qs 30 (by decide +kernel) (by decide +kernel)
theorem q_381 : (.code y_I_endBody b_I_endBody 3 none : Cond) ∈ sr_T := sr_q 381 (by decide +kernel) (by decide +kernel)
theorem q_378 : (.methodLink R_I 261 y_I_endBody : Cond) ∈ sr_T := sr_q 378 (by decide +kernel) (by decide +kernel)
theorem q_380 : (.instanceMethod y_I_endBody : Cond) ∈ sr_T := sr_q 380 (by decide +kernel) (by decide +kernel)
theorem qs_I_endBody : (.selects R_I y_I_endBody y_I_endBody : Cond) ∈ sr_T := sr_qs 27 (by decide +kernel) (by decide +kernel)
theorem q_414 : (.code y_T_isActive b_T_isActive 1 (some .boolean) : Cond) ∈ sr_T := sr_q 414 (by decide +kernel) (by decide +kernel)
theorem q_412 : (.methodLink R_I 286 y_T_isActive : Cond) ∈ sr_T := sr_q 412 (by decide +kernel) (by decide +kernel)
theorem q_7 : (.initialized R_T : Cond) ∈ sr_T := sr_q 7 (by decide +kernel) (by decide +kernel)
theorem q_413 : (.static y_T_isActive : Cond) ∈ sr_T := sr_q 413 (by decide +kernel) (by decide +kernel)
theorem q_52 : (.fieldLink R_I 274 R_P "branches" "[I" : Cond) ∈ sr_T := sr_q 52 (by decide +kernel) (by decide +kernel)
theorem q_410 : (.code y_I_endWithin b_I_endWithin 4 (some .int) : Cond) ∈ sr_T := sr_q 410 (by decide +kernel) (by decide +kernel)
theorem q_407 : (.methodLink R_I 138 y_I_endWithin : Cond) ∈ sr_T := sr_q 407 (by decide +kernel) (by decide +kernel)
theorem q_409 : (.instanceMethod y_I_endWithin : Cond) ∈ sr_T := sr_q 409 (by decide +kernel) (by decide +kernel)
theorem qs_I_endWithin : (.selects R_I y_I_endWithin y_I_endWithin : Cond) ∈ sr_T := sr_qs 32 (by decide +kernel) (by decide +kernel)
theorem q_422 : (.code y_E_gather b_E_gather 5 none : Cond) ∈ sr_T := sr_q 422 (by decide +kernel) (by decide +kernel)
theorem q_419 : (.methodLink R_I 280 y_E_gather : Cond) ∈ sr_T := sr_q 419 (by decide +kernel) (by decide +kernel)
theorem q_420 : (.instanceMethod y_E_gather : Cond) ∈ sr_T := sr_q 420 (by decide +kernel) (by decide +kernel)
theorem q_421 : (.selects R_E y_E_gather y_E_gather : Cond) ∈ sr_T := sr_q 421 (by decide +kernel) (by decide +kernel)
theorem q_432 : (.code y_I_takeFault b_I_takeFault 5 none : Cond) ∈ sr_T := sr_q 432 (by decide +kernel) (by decide +kernel)
theorem q_429 : (.methodLink R_I 283 y_I_takeFault : Cond) ∈ sr_T := sr_q 429 (by decide +kernel) (by decide +kernel)
theorem q_431 : (.instanceMethod y_I_takeFault : Cond) ∈ sr_T := sr_q 431 (by decide +kernel) (by decide +kernel)
theorem qs_I_takeFault : (.selects R_I y_I_takeFault y_I_takeFault : Cond) ∈ sr_T := sr_qs 34 (by decide +kernel) (by decide +kernel)
theorem q_418 : (.code y_I_entryFails b_I_entryFails 3 none : Cond) ∈ sr_T := sr_q 418 (by decide +kernel) (by decide +kernel)
theorem q_415 : (.methodLink R_I 277 y_I_entryFails : Cond) ∈ sr_T := sr_q 415 (by decide +kernel) (by decide +kernel)
theorem q_417 : (.instanceMethod y_I_entryFails : Cond) ∈ sr_T := sr_q 417 (by decide +kernel) (by decide +kernel)
theorem qs_I_entryFails : (.selects R_I y_I_entryFails y_I_entryFails : Cond) ∈ sr_T := sr_qs 33 (by decide +kernel) (by decide +kernel)
theorem q_340 : (.code y_I_complete b_I_complete 2 none : Cond) ∈ sr_T := sr_q 340 (by decide +kernel) (by decide +kernel)
theorem q_337 : (.methodLink R_I 155 y_I_complete : Cond) ∈ sr_T := sr_q 337 (by decide +kernel) (by decide +kernel)
theorem q_339 : (.instanceMethod y_I_complete : Cond) ∈ sr_T := sr_q 339 (by decide +kernel) (by decide +kernel)
theorem qs_I_complete : (.selects R_I y_I_complete y_I_complete : Cond) ∈ sr_T := sr_qs 21 (by decide +kernel) (by decide +kernel)
theorem q_364 : (.code y_I_report b_I_report 3 none : Cond) ∈ sr_T := sr_q 364 (by decide +kernel) (by decide +kernel)
theorem q_361 : (.methodLink R_I 158 y_I_report : Cond) ∈ sr_T := sr_q 361 (by decide +kernel) (by decide +kernel)
theorem q_363 : (.instanceMethod y_I_report : Cond) ∈ sr_T := sr_q 363 (by decide +kernel) (by decide +kernel)
theorem qs_I_report : (.selects R_I y_I_report y_I_report : Cond) ∈ sr_T := sr_qs 24 (by decide +kernel) (by decide +kernel)
theorem q_406 : (.code y_I_fault b_I_fault 6 none : Cond) ∈ sr_T := sr_q 406 (by decide +kernel) (by decide +kernel)
theorem q_403 : (.methodLink R_I 161 y_I_fault : Cond) ∈ sr_T := sr_q 403 (by decide +kernel) (by decide +kernel)
theorem q_405 : (.instanceMethod y_I_fault : Cond) ∈ sr_T := sr_q 405 (by decide +kernel) (by decide +kernel)
theorem qs_I_fault : (.selects R_I y_I_fault y_I_fault : Cond) ∈ sr_T := sr_qs 31 (by decide +kernel) (by decide +kernel)
theorem q_441 : (.code y_I_failEntry b_I_failEntry 4 none : Cond) ∈ sr_T := sr_q 441 (by decide +kernel) (by decide +kernel)
theorem q_438 : (.methodLink R_I 164 y_I_failEntry : Cond) ∈ sr_T := sr_q 438 (by decide +kernel) (by decide +kernel)
theorem q_440 : (.instanceMethod y_I_failEntry : Cond) ∈ sr_T := sr_q 440 (by decide +kernel) (by decide +kernel)
theorem qs_I_failEntry : (.selects R_I y_I_failEntry y_I_failEntry : Cond) ∈ sr_T := sr_qs 36 (by decide +kernel) (by decide +kernel)
theorem q_587 : (.code y_I_nextToStep b_I_nextToStep 2 (some .int) : Cond) ∈ sr_T := sr_q 587 (by decide +kernel) (by decide +kernel)
theorem q_584 : (.methodLink R_I 90 y_I_nextToStep : Cond) ∈ sr_T := sr_q 584 (by decide +kernel) (by decide +kernel)
theorem q_585 : (.instanceMethod y_I_nextToStep : Cond) ∈ sr_T := sr_q 585 (by decide +kernel) (by decide +kernel)
theorem q_586 : (.selects R_I y_I_nextToStep y_I_nextToStep : Cond) ∈ sr_T := sr_q 586 (by decide +kernel) (by decide +kernel)
theorem q_638 : (.code y_L_joinHoldsAt b_L_joinHoldsAt 3 (some .boolean) : Cond) ∈ sr_T := sr_q 638 (by decide +kernel) (by decide +kernel)
theorem q_635 : (.methodLink R_I 100 y_L_joinHoldsAt : Cond) ∈ sr_T := sr_q 635 (by decide +kernel) (by decide +kernel)
theorem q_636 : (.instanceMethod y_L_joinHoldsAt : Cond) ∈ sr_T := sr_q 636 (by decide +kernel) (by decide +kernel)
theorem q_637 : (.selects R_L y_L_joinHoldsAt y_L_joinHoldsAt : Cond) ∈ sr_T := sr_q 637 (by decide +kernel) (by decide +kernel)
theorem q_667 : (.code y_I_missJoin b_I_missJoin 2 none : Cond) ∈ sr_T := sr_q 667 (by decide +kernel) (by decide +kernel)
theorem q_664 : (.methodLink R_I 106 y_I_missJoin : Cond) ∈ sr_T := sr_q 664 (by decide +kernel) (by decide +kernel)
theorem q_666 : (.instanceMethod y_I_missJoin : Cond) ∈ sr_T := sr_q 666 (by decide +kernel) (by decide +kernel)
theorem qs_I_missJoin : (.selects R_I y_I_missJoin y_I_missJoin : Cond) ∈ sr_T := sr_qs 50 (by decide +kernel) (by decide +kernel)
theorem q_336 : (.code y_I_settle b_I_settle 3 none : Cond) ∈ sr_T := sr_q 336 (by decide +kernel) (by decide +kernel)
theorem q_333 : (.methodLink R_I 109 y_I_settle : Cond) ∈ sr_T := sr_q 333 (by decide +kernel) (by decide +kernel)
theorem q_335 : (.instanceMethod y_I_settle : Cond) ∈ sr_T := sr_q 335 (by decide +kernel) (by decide +kernel)
theorem qs_I_settle : (.selects R_I y_I_settle y_I_settle : Cond) ∈ sr_T := sr_qs 20 (by decide +kernel) (by decide +kernel)
theorem q_643 : (.code y_I_begin b_I_begin 4 none : Cond) ∈ sr_T := sr_q 643 (by decide +kernel) (by decide +kernel)
theorem q_640 : (.methodLink R_I 103 y_I_begin : Cond) ∈ sr_T := sr_q 640 (by decide +kernel) (by decide +kernel)
theorem q_642 : (.instanceMethod y_I_begin : Cond) ∈ sr_T := sr_q 642 (by decide +kernel) (by decide +kernel)
theorem qs_I_begin : (.selects R_I y_I_begin y_I_begin : Cond) ∈ sr_T := sr_qs 44 (by decide +kernel) (by decide +kernel)
theorem q_621 : (.code y_I_undoLatest b_I_undoLatest 5 none : Cond) ∈ sr_T := sr_q 621 (by decide +kernel) (by decide +kernel)
theorem q_618 : (.methodLink R_I 97 y_I_undoLatest : Cond) ∈ sr_T := sr_q 618 (by decide +kernel) (by decide +kernel)
theorem q_620 : (.instanceMethod y_I_undoLatest : Cond) ∈ sr_T := sr_q 620 (by decide +kernel) (by decide +kernel)
theorem qs_I_undoLatest : (.selects R_I y_I_undoLatest y_I_undoLatest : Cond) ∈ sr_T := sr_qs 42 (by decide +kernel) (by decide +kernel)
theorem cw_K_9 {R : Room} {s : State} {args : Array Value} {x0 : Cond} (ht : ∀ w ∈ (x0 :: sr_T), w.before args s = true) (hR : 0 + 1 ≤ R.frames ∧ 8 + (1 + 11) + 0 ≤ R.locals) : CallB R s args R_K 9 y_K_isVariable b_K_isVariable 1 (some .boolean) w_K_isVariable (sr_rm 0 0) 0 0 1 ∧ (Cond.static y_K_isVariable).before args s = true :=
  va_cwS 1 ht (sr_gS q_146 q_147 q_5 q_148) rfl rfl rfl ⟨by decide, by decide, by decide +kernel⟩ hR
theorem cw_P_58 {R : Room} {s : State} {args : Array Value} {x0 : Cond} (ht : ∀ w ∈ (x0 :: sr_T), w.before args s = true) (hR : 0 + 1 ≤ R.frames ∧ 8 + (2 + 11) + 0 ≤ R.locals) : CallW R s args R_P R_P 58 y_P_hasActivity b_P_hasActivity 2 (some .boolean) w_P_hasActivity (sr_rm 0 0) 0 0 1 :=
  cwV 1 ht (sr_gV q_153 q_154 q_155 q_2 q_156) rfl rfl rfl ⟨rfl, by decide, by decide, by decide +kernel⟩ hR
theorem cw_P_64 {R : Room} {s : State} {args : Array Value} {x0 : Cond} (ht : ∀ w ∈ (x0 :: sr_T), w.before args s = true) (hR : 0 + 1 ≤ R.frames ∧ 8 + (4 + 11) + 0 ≤ R.locals) : CallW R s args R_P R_P 64 y_P_handlerOf b_P_handlerOf 4 (some .int) w_P_handlerOf (sr_rm 0 0) 0 0 2 :=
  cwV 2 ht (sr_gV q_157 q_158 q_159 q_2 q_160) rfl rfl rfl ⟨rfl, by decide, by decide, by decide +kernel⟩ hR
theorem cw_P_68 {R : Room} {s : State} {args : Array Value} {x0 : Cond} (ht : ∀ w ∈ (x0 :: sr_T), w.before args s = true) (hR : 1 + 1 ≤ R.frames ∧ 8 + (2 + 11) + 21 ≤ R.locals) : CallW R s args R_P R_P 68 y_P_hasScope b_P_hasScope 2 (some .boolean) w_P_hasScope (sr_rm 1 21) 0 0 1 :=
  cwV 1 ht (sr_gV q_165 q_166 q_167 q_2 q_168) rfl rfl rfl ⟨rfl, by decide, by decide, by decide +kernel⟩ hR
theorem cw_P_71 {R : Room} {s : State} {args : Array Value} {x0 : Cond} (ht : ∀ w ∈ (x0 :: sr_T), w.before args s = true) (hR : 0 + 1 ≤ R.frames ∧ 8 + (2 + 11) + 0 ≤ R.locals) : CallB R s args R_P 71 y_P_isIn b_P_isIn 2 (some .boolean) w_P_isIn (sr_rm 0 0) 0 0 2 ∧ (Cond.static y_P_isIn).before args s = true :=
  va_cwS 2 ht (sr_gS q_169 q_170 q_2 q_171) rfl rfl rfl ⟨by decide, by decide, by decide +kernel⟩ hR
theorem cw_P_78 {R : Room} {s : State} {args : Array Value} {x0 : Cond} (ht : ∀ w ∈ (x0 :: sr_T), w.before args s = true) (hR : 0 + 1 ≤ R.frames ∧ 8 + (4 + 11) + 0 ≤ R.locals) : CallW R s args R_P R_P 78 y_P_childAfter b_P_childAfter 4 (some .int) w_P_childAfter (sr_rm 0 0) 0 0 2 :=
  cwV 2 ht (sr_gV q_296 q_297 q_298 q_2 q_299) rfl rfl rfl ⟨rfl, by decide, by decide, by decide +kernel⟩ hR
theorem cw_P_81 {R : Room} {s : State} {args : Array Value} {x0 : Cond} (ht : ∀ w ∈ (x0 :: sr_T), w.before args s = true) (hR : 1 + 1 ≤ R.frames ∧ 8 + (2 + 11) + 23 ≤ R.locals) : CallW R s args R_P R_P 81 y_P_firstChild b_P_firstChild 2 (some .int) w_P_firstChild (sr_rm 1 23) 0 0 1 :=
  cwV 1 ht (sr_gV q_292 q_293 q_294 q_2 q_295) rfl rfl rfl ⟨rfl, by decide, by decide, by decide +kernel⟩ hR
theorem cw_P_85 {R : Room} {s : State} {args : Array Value} {x0 : Cond} (ht : ∀ w ∈ (x0 :: sr_T), w.before args s = true) (hR : 2 + 1 ≤ R.frames ∧ 8 + (3 + 11) + 44 ≤ R.locals) : CallW R s args R_P R_P 85 y_P_findStart b_P_findStart 3 (some .int) w_P_findStart (sr_rm 2 44) 0 0 0 :=
  cwV 0 ht (sr_gV q_446 q_289 q_290 q_2 q_291) rfl rfl rfl ⟨rfl, by decide, by decide, by decide +kernel⟩ hR
theorem cw_M_92 {R : Room} {s : State} {args : Array Value} {x0 : Cond} (ht : ∀ w ∈ (x0 :: sr_T), w.before args s = true) (hR : 0 + 1 ≤ R.frames ∧ 8 + (3 + 11) + 0 ≤ R.locals) : CallB R s args R_M 92 y_M_in b_M_in 3 (some .boolean) w_M_in (sr_rm 0 0) 0 0 3 ∧ (Cond.static y_M_in).before args s = true :=
  va_cwS 3 ht (sr_gS q_852 q_853 q_4 q_854) rfl rfl rfl ⟨by decide, by decide, by decide +kernel⟩ hR
theorem cw_M_111 {R : Room} {s : State} {args : Array Value} {x0 : Cond} (ht : ∀ w ∈ (x0 :: sr_T), w.before args s = true) (hR : 0 + 1 ≤ R.frames ∧ 8 + (5 + 11) + 0 ≤ R.locals) : CallW R s args R_M R_M 111 y_M_nextInRole b_M_nextInRole 5 (some .int) w_M_nextInRole (sr_rm 0 0) 0 0 3 :=
  cwV 3 ht (sr_gV q_863 q_865 qs_M_nextInRole q_4 q_866) rfl rfl rfl ⟨rfl, by decide, by decide, by decide +kernel⟩ hR
theorem cw_M_104 {R : Room} {s : State} {args : Array Value} {x0 : Cond} (ht : ∀ w ∈ (x0 :: sr_T), w.before args s = true) (hR : 1 + 1 ≤ R.frames ∧ 8 + (5 + 11) + 22 ≤ R.locals) : CallW R s args R_M R_M 104 y_M_numbersFit b_M_numbersFit 5 (some .boolean) w_M_numbersFit (sr_rm 1 22) 0 0 3 :=
  cwV 3 ht (sr_gV q_855 q_857 qs_M_numbersFit q_4 q_858) rfl rfl rfl ⟨rfl, by decide, by decide, by decide +kernel⟩ hR
theorem cw_M_107 {R : Room} {s : State} {args : Array Value} {x0 : Cond} (ht : ∀ w ∈ (x0 :: sr_T), w.before args s = true) (hR : 1 + 1 ≤ R.frames ∧ 8 + (3 + 11) + 24 ≤ R.locals) : CallW R s args R_M R_M 107 y_M_inRole b_M_inRole 3 (some .int) w_M_inRole (sr_rm 1 24) 0 0 2 :=
  cwV 2 ht (sr_gV q_859 q_861 qs_M_inRole q_4 q_862) rfl rfl rfl ⟨rfl, by decide, by decide, by decide +kernel⟩ hR
theorem cw_M_118 {R : Room} {s : State} {args : Array Value} {x0 : Cond} (ht : ∀ w ∈ (x0 :: sr_T), w.before args s = true) (hR : 0 + 1 ≤ R.frames ∧ 8 + (4 + 11) + 0 ≤ R.locals) : CallW R s args R_M R_M 118 y_M_children b_M_children 4 (some .int) w_M_children (sr_rm 0 0) 0 0 1 :=
  cwV 1 ht (sr_gV q_883 q_885 qs_M_children q_4 q_886) rfl rfl rfl ⟨rfl, by decide, by decide, by decide +kernel⟩ hR
theorem cw_M_122 {R : Room} {s : State} {args : Array Value} {x0 : Cond} (ht : ∀ w ∈ (x0 :: sr_T), w.before args s = true) (hR : 0 + 1 ≤ R.frames ∧ 8 + (4 + 11) + 0 ≤ R.locals) : CallW R s args R_M R_M 122 y_M_handler b_M_handler 4 (some .int) w_M_handler (sr_rm 0 0) 0 0 1 :=
  cwV 1 ht (sr_gV q_891 q_893 qs_M_handler q_4 q_894) rfl rfl rfl ⟨rfl, by decide, by decide, by decide +kernel⟩ hR
theorem cw_M_129 {R : Room} {s : State} {args : Array Value} {x0 : Cond} (ht : ∀ w ∈ (x0 :: sr_T), w.before args s = true) (hR : 0 + 1 ≤ R.frames ∧ 8 + (4 + 11) + 0 ≤ R.locals) : CallW R s args R_M R_M 129 y_M_around b_M_around 4 (some .int) w_M_around (sr_rm 0 0) 0 0 1 :=
  cwV 1 ht (sr_gV q_907 q_909 qs_M_around q_4 q_910) rfl rfl rfl ⟨rfl, by decide, by decide, by decide +kernel⟩ hR
theorem cw_M_125 {R : Room} {s : State} {args : Array Value} {x0 : Cond} (ht : ∀ w ∈ (x0 :: sr_T), w.before args s = true) (hR : 0 + 1 ≤ R.frames ∧ 8 + (5 + 11) + 0 ≤ R.locals) : CallW R s args R_M R_M 125 y_M_below b_M_below 5 (some .boolean) w_M_below (sr_rm 0 0) 0 0 2 :=
  cwV 2 ht (sr_gV q_903 q_905 qs_M_below q_4 q_906) rfl rfl rfl ⟨rfl, by decide, by decide, by decide +kernel⟩ hR
theorem cw_M_135 {R : Room} {s : State} {args : Array Value} {x0 : Cond} (ht : ∀ w ∈ (x0 :: sr_T), w.before args s = true) (hR : 0 + 1 ≤ R.frames ∧ 8 + (3 + 11) + 0 ≤ R.locals) : CallW R s args R_M R_M 135 y_M_before b_M_before 3 none w_M_before (sr_rm 0 0) 0 0 2 :=
  cwV 2 ht (sr_gV q_919 q_921 qs_M_before q_4 q_922) rfl rfl rfl ⟨rfl, by decide, by decide, by decide +kernel⟩ hR
theorem cw_M_139 {R : Room} {s : State} {args : Array Value} {x0 : Cond} (ht : ∀ w ∈ (x0 :: sr_T), w.before args s = true) (hR : 0 + 1 ≤ R.frames ∧ 8 + (3 + 11) + 0 ≤ R.locals) : CallW R s args R_M R_M 139 y_M_targeted b_M_targeted 3 (some .boolean) w_M_targeted (sr_rm 0 0) 0 0 1 :=
  cwV 1 ht (sr_gV q_927 q_929 qs_M_targeted q_4 q_930) rfl rfl rfl ⟨rfl, by decide, by decide, by decide +kernel⟩ hR
theorem cw_M_146 {R : Room} {s : State} {args : Array Value} {x0 : Cond} (ht : ∀ w ∈ (x0 :: sr_T), w.before args s = true) (hR : 1 + 1 ≤ R.frames ∧ 8 + (4 + 11) + 23 ≤ R.locals) : CallW R s args R_M R_M 146 y_M_rule1 b_M_rule1 4 (some .boolean) w_M_rule1 (sr_rm 1 23) 0 0 0 :=
  cwV 0 ht (sr_gV q_879 q_881 qs_M_rule1 q_4 q_882) rfl rfl rfl ⟨rfl, by decide, by decide, by decide +kernel⟩ hR
theorem cw_M_150 {R : Room} {s : State} {args : Array Value} {x0 : Cond} (ht : ∀ w ∈ (x0 :: sr_T), w.before args s = true) (hR : 1 + 1 ≤ R.frames ∧ 8 + (2 + 11) + 23 ≤ R.locals) : CallW R s args R_M R_M 150 y_M_rule2 b_M_rule2 2 (some .boolean) w_M_rule2 (sr_rm 1 23) 0 0 0 :=
  cwV 0 ht (sr_gV q_887 q_889 qs_M_rule2 q_4 q_890) rfl rfl rfl ⟨rfl, by decide, by decide, by decide +kernel⟩ hR
theorem cw_M_153 {R : Room} {s : State} {args : Array Value} {x0 : Cond} (ht : ∀ w ∈ (x0 :: sr_T), w.before args s = true) (hR : 1 + 1 ≤ R.frames ∧ 8 + (3 + 11) + 23 ≤ R.locals) : CallW R s args R_M R_M 153 y_M_rule3 b_M_rule3 3 (some .boolean) w_M_rule3 (sr_rm 1 23) 0 0 0 :=
  cwV 0 ht (sr_gV q_895 q_897 qs_M_rule3 q_4 q_898) rfl rfl rfl ⟨rfl, by decide, by decide, by decide +kernel⟩ hR
theorem cw_M_156 {R : Room} {s : State} {args : Array Value} {x0 : Cond} (ht : ∀ w ∈ (x0 :: sr_T), w.before args s = true) (hR : 1 + 1 ≤ R.frames ∧ 8 + (3 + 11) + 24 ≤ R.locals) : CallW R s args R_M R_M 156 y_M_rule4 b_M_rule4 3 (some .boolean) w_M_rule4 (sr_rm 1 24) 0 0 0 :=
  cwV 0 ht (sr_gV q_899 q_901 qs_M_rule4 q_4 q_902) rfl rfl rfl ⟨rfl, by decide, by decide, by decide +kernel⟩ hR
theorem cw_M_162 {R : Room} {s : State} {args : Array Value} {x0 : Cond} (ht : ∀ w ∈ (x0 :: sr_T), w.before args s = true) (hR : 1 + 1 ≤ R.frames ∧ 8 + (5 + 11) + 24 ≤ R.locals) : CallW R s args R_M R_M 162 y_M_rule6 b_M_rule6 5 (some .boolean) w_M_rule6 (sr_rm 1 24) 0 0 0 :=
  cwV 0 ht (sr_gV q_915 q_917 qs_M_rule6 q_4 q_918) rfl rfl rfl ⟨rfl, by decide, by decide, by decide +kernel⟩ hR
theorem cw_M_165 {R : Room} {s : State} {args : Array Value} {x0 : Cond} (ht : ∀ w ∈ (x0 :: sr_T), w.before args s = true) (hR : 2 + 1 ≤ R.frames ∧ 8 + (4 + 11) + 46 ≤ R.locals) : CallW R s args R_M R_M 165 y_M_rule7 b_M_rule7 4 (some .boolean) w_M_rule7 (sr_rm 2 46) 0 0 0 :=
  cwV 0 ht (sr_gV q_923 q_925 qs_M_rule7 q_4 q_926) rfl rfl rfl ⟨rfl, by decide, by decide, by decide +kernel⟩ hR
theorem cw_M_159 {R : Room} {s : State} {args : Array Value} {x0 : Cond} (ht : ∀ w ∈ (x0 :: sr_T), w.before args s = true) (hR : 1 + 1 ≤ R.frames ∧ 8 + (7 + 11) + 24 ≤ R.locals) : CallW R s args R_M R_M 159 y_M_rule5 b_M_rule5 7 (some .boolean) w_M_rule5 (sr_rm 1 24) 0 0 1 :=
  cwV 1 ht (sr_gV q_911 q_913 qs_M_rule5 q_4 q_914) rfl rfl rfl ⟨rfl, by decide, by decide, by decide +kernel⟩ hR
theorem cw_M_171 {R : Room} {s : State} {args : Array Value} {x0 : Cond} (ht : ∀ w ∈ (x0 :: sr_T), w.before args s = true) (hR : 0 + 1 ≤ R.frames ∧ 8 + (2 + 11) + 0 ≤ R.locals) : CallW R s args R_M R_M 171 y_M_st b_M_st 2 (some .int) w_M_st (sr_rm 0 0) 0 0 1 :=
  cwV 1 ht (sr_gV q_939 q_941 qs_M_st q_4 q_942) rfl rfl rfl ⟨rfl, by decide, by decide, by decide +kernel⟩ hR
theorem cw_M_183 {R : Room} {s : State} {args : Array Value} {x0 : Cond} (ht : ∀ w ∈ (x0 :: sr_T), w.before args s = true) (hR : 0 + 1 ≤ R.frames ∧ 8 + (3 + 11) + 0 ≤ R.locals) : CallW R s args R_M R_M 183 y_M_put b_M_put 3 none w_M_put (sr_rm 0 0) 0 0 2 :=
  cwV 2 ht (sr_gV q_959 q_961 qs_M_put q_4 q_962) rfl rfl rfl ⟨rfl, by decide, by decide, by decide +kernel⟩ hR
theorem cw_M_186 {R : Room} {s : State} {args : Array Value} {x0 : Cond} (ht : ∀ w ∈ (x0 :: sr_T), w.before args s = true) (hR : 0 + 1 ≤ R.frames ∧ 8 + (3 + 11) + 0 ≤ R.locals) : CallW R s args R_M R_M 186 y_M_write b_M_write 3 none w_M_write (sr_rm 0 0) 0 0 2 :=
  cwV 2 ht (sr_gV q_963 q_965 qs_M_write q_4 q_966) rfl rfl rfl ⟨rfl, by decide, by decide, by decide +kernel⟩ hR
theorem cw_M_189 {R : Room} {s : State} {args : Array Value} {x0 : Cond} (ht : ∀ w ∈ (x0 :: sr_T), w.before args s = true) (hR : 1 + 1 ≤ R.frames ∧ 8 + (5 + 11) + 24 ≤ R.locals) : CallW R s args R_M R_M 189 y_M_setLinks b_M_setLinks 5 none w_M_setLinks (sr_rm 1 24) 0 0 2 :=
  cwV 2 ht (sr_gV q_991 q_993 qs_M_setLinks q_4 q_994) rfl rfl rfl ⟨rfl, by decide, by decide, by decide +kernel⟩ hR
theorem cw_M_209 {R : Room} {s : State} {args : Array Value} {x0 : Cond} (ht : ∀ w ∈ (x0 :: sr_T), w.before args s = true) (hR : 0 + 1 ≤ R.frames ∧ 8 + (4 + 11) + 0 ≤ R.locals) : CallW R s args R_M R_M 209 y_M_then b_M_then 4 none w_M_then (sr_rm 0 0) 0 0 3 :=
  cwV 3 ht (sr_gV q_947 q_949 qs_M_then q_4 q_950) rfl rfl rfl ⟨rfl, by decide, by decide, by decide +kernel⟩ hR
theorem cw_M_206 {R : Room} {s : State} {args : Array Value} {x0 : Cond} (ht : ∀ w ∈ (x0 :: sr_T), w.before args s = true) (hR : 1 + 1 ≤ R.frames ∧ 8 + (3 + 11) + 23 ≤ R.locals) : CallW R s args R_M R_M 206 y_M_see b_M_see 3 (some .int) w_M_see (sr_rm 1 23) 0 0 2 :=
  cwV 2 ht (sr_gV q_967 q_969 qs_M_see q_4 q_970) rfl rfl rfl ⟨rfl, by decide, by decide, by decide +kernel⟩ hR
theorem cw_M_213 {R : Room} {s : State} {args : Array Value} {x0 : Cond} (ht : ∀ w ∈ (x0 :: sr_T), w.before args s = true) (hR : 0 + 1 ≤ R.frames ∧ 8 + (4 + 11) + 0 ≤ R.locals) : CallW R s args R_M R_M 213 y_M_carry b_M_carry 4 none w_M_carry (sr_rm 0 0) 0 0 2 :=
  cwV 2 ht (sr_gV q_975 q_977 qs_M_carry q_4 q_978) rfl rfl rfl ⟨rfl, by decide, by decide, by decide +kernel⟩ hR
theorem cw_M_216 {R : Room} {s : State} {args : Array Value} {x0 : Cond} (ht : ∀ w ∈ (x0 :: sr_T), w.before args s = true) (hR : 1 + 1 ≤ R.frames ∧ 8 + (4 + 11) + 23 ≤ R.locals) : CallW R s args R_M R_M 216 y_M_bodyDone b_M_bodyDone 4 none w_M_bodyDone (sr_rm 1 23) 0 0 1 :=
  cwV 1 ht (sr_gV q_979 q_981 qs_M_bodyDone q_4 q_982) rfl rfl rfl ⟨rfl, by decide, by decide, by decide +kernel⟩ hR
theorem cw_M_219 {R : Room} {s : State} {args : Array Value} {x0 : Cond} (ht : ∀ w ∈ (x0 :: sr_T), w.before args s = true) (hR : 1 + 1 ≤ R.frames ∧ 8 + (2 + 11) + 21 ≤ R.locals) : CallW R s args R_M R_M 219 y_M_active b_M_active 2 (some .boolean) w_M_active (sr_rm 1 21) 0 0 1 :=
  cwV 1 ht (sr_gV q_987 q_989 qs_M_active q_4 q_990) rfl rfl rfl ⟨rfl, by decide, by decide, by decide +kernel⟩ hR
theorem cw_M_203 {R : Room} {s : State} {args : Array Value} {x0 : Cond} (ht : ∀ w ∈ (x0 :: sr_T), w.before args s = true) (hR : 1 + 1 ≤ R.frames ∧ 8 + (4 + 11) + 23 ≤ R.locals) : CallW R s args R_M R_M 203 y_M_fails b_M_fails 4 none w_M_fails (sr_rm 1 23) 0 0 2 :=
  cwV 2 ht (sr_gV q_995 q_997 qs_M_fails q_4 q_998) rfl rfl rfl ⟨rfl, by decide, by decide, by decide +kernel⟩ hR
theorem cw_M_200 {R : Room} {s : State} {args : Array Value} {x0 : Cond} (ht : ∀ w ∈ (x0 :: sr_T), w.before args s = true) (hR : 2 + 1 ≤ R.frames ∧ 8 + (6 + 11) + 48 ≤ R.locals) : CallW R s args R_M R_M 200 y_M_faults b_M_faults 6 none w_M_faults (sr_rm 2 48) 0 0 2 :=
  cwV 2 ht (sr_gV q_983 q_985 qs_M_faults q_4 q_986) rfl rfl rfl ⟨rfl, by decide, by decide, by decide +kernel⟩ hR
theorem cw_M_197 {R : Room} {s : State} {args : Array Value} {x0 : Cond} (ht : ∀ w ∈ (x0 :: sr_T), w.before args s = true) (hR : 2 + 1 ≤ R.frames ∧ 8 + (5 + 11) + 46 ≤ R.locals) : CallW R s args R_M R_M 197 y_M_report b_M_report 5 none w_M_report (sr_rm 2 46) 0 0 1 :=
  cwV 1 ht (sr_gV q_971 q_973 qs_M_report q_4 q_974) rfl rfl rfl ⟨rfl, by decide, by decide, by decide +kernel⟩ hR
theorem cw_M_193 {R : Room} {s : State} {args : Array Value} {x0 : Cond} (ht : ∀ w ∈ (x0 :: sr_T), w.before args s = true) (hR : 2 + 1 ≤ R.frames ∧ 8 + (4 + 11) + 45 ≤ R.locals) : CallW R s args R_M R_M 193 y_M_complete b_M_complete 4 none w_M_complete (sr_rm 2 45) 0 0 1 :=
  cwV 1 ht (sr_gV q_955 q_957 qs_M_complete q_4 q_958) rfl rfl rfl ⟨rfl, by decide, by decide, by decide +kernel⟩ hR
theorem cw_M_222 {R : Room} {s : State} {args : Array Value} {x0 : Cond} (ht : ∀ w ∈ (x0 :: sr_T), w.before args s = true) (hR : 1 + 1 ≤ R.frames ∧ 8 + (3 + 11) + 21 ≤ R.locals) : CallW R s args R_M R_M 222 y_M_canStep b_M_canStep 3 (some .boolean) w_M_canStep (sr_rm 1 21) 0 0 1 :=
  cwV 1 ht (sr_gV q_1007 q_1009 qs_M_canStep q_4 q_1010) rfl rfl rfl ⟨rfl, by decide, by decide, by decide +kernel⟩ hR
theorem cw_M_252 {R : Room} {s : State} {args : Array Value} {x0 : Cond} (ht : ∀ w ∈ (x0 :: sr_T), w.before args s = true) (hR : 2 + 1 ≤ R.frames ∧ 8 + (6 + 11) + 48 ≤ R.locals) : CallW R s args R_M R_M 252 y_M_take b_M_take 6 none w_M_take (sr_rm 2 48) 0 0 2 :=
  cwV 2 ht (sr_gV q_1019 q_1021 qs_M_take q_4 q_1022) rfl rfl rfl ⟨rfl, by decide, by decide, by decide +kernel⟩ hR
theorem cw_M_249 {R : Room} {s : State} {args : Array Value} {x0 : Cond} (ht : ∀ w ∈ (x0 :: sr_T), w.before args s = true) (hR : 1 + 1 ≤ R.frames ∧ 8 + (4 + 11) + 23 ≤ R.locals) : CallW R s args R_M R_M 249 y_M_store b_M_store 4 none w_M_store (sr_rm 1 23) 0 0 3 :=
  cwV 3 ht (sr_gV q_943 q_945 qs_M_store q_4 q_946) rfl rfl rfl ⟨rfl, by decide, by decide, by decide +kernel⟩ hR
theorem cw_M_246 {R : Room} {s : State} {args : Array Value} {x0 : Cond} (ht : ∀ w ∈ (x0 :: sr_T), w.before args s = true) (hR : 1 + 1 ≤ R.frames ∧ 8 + (3 + 11) + 21 ≤ R.locals) : CallW R s args R_M R_M 246 y_M_waiting b_M_waiting 3 (some .int) w_M_waiting (sr_rm 1 21) 0 0 1 :=
  cwV 1 ht (sr_gV q_935 q_937 qs_M_waiting q_4 q_938) rfl rfl rfl ⟨rfl, by decide, by decide, by decide +kernel⟩ hR
theorem cw_M_234 {R : Room} {s : State} {args : Array Value} {x0 : Cond} (ht : ∀ w ∈ (x0 :: sr_T), w.before args s = true) (hR : 2 + 1 ≤ R.frames ∧ 8 + (2 + 11) + 48 ≤ R.locals) : CallW R s args R_M R_M 234 y_M_skip b_M_skip 2 none w_M_skip (sr_rm 2 48) 0 0 1 :=
  cwV 1 ht (sr_gV q_1031 q_1033 qs_M_skip q_4 q_1034) rfl rfl rfl ⟨rfl, by decide, by decide, by decide +kernel⟩ hR
theorem cw_M_228 {R : Room} {s : State} {args : Array Value} {x0 : Cond} (ht : ∀ w ∈ (x0 :: sr_T), w.before args s = true) (hR : 2 + 1 ≤ R.frames ∧ 8 + (3 + 11) + 48 ≤ R.locals) : CallW R s args R_M R_M 228 y_M_loop b_M_loop 3 none w_M_loop (sr_rm 2 48) 0 0 1 :=
  cwV 1 ht (sr_gV q_1023 q_1025 qs_M_loop q_4 q_1026) rfl rfl rfl ⟨rfl, by decide, by decide, by decide +kernel⟩ hR
theorem cw_M_225 {R : Room} {s : State} {args : Array Value} {x0 : Cond} (ht : ∀ w ∈ (x0 :: sr_T), w.before args s = true) (hR : 3 + 1 ≤ R.frames ∧ 8 + (6 + 11) + 73 ≤ R.locals) : CallW R s args R_M R_M 225 y_M_undo b_M_undo 6 none w_M_undo (sr_rm 3 73) 0 0 1 :=
  cwV 1 ht (sr_gV q_1015 q_1017 qs_M_undo q_4 q_1018) rfl rfl rfl ⟨rfl, by decide, by decide, by decide +kernel⟩ hR
theorem cw_M_243 {R : Room} {s : State} {args : Array Value} {x0 : Cond} (ht : ∀ w ∈ (x0 :: sr_T), w.before args s = true) (hR : 3 + 1 ≤ R.frames ∧ 8 + (3 + 11) + 73 ≤ R.locals) : CallW R s args R_M R_M 243 y_M_settle b_M_settle 3 none w_M_settle (sr_rm 3 73) 0 0 0 :=
  cwV 0 ht (sr_gV q_951 q_953 qs_M_settle q_4 q_954) rfl rfl rfl ⟨rfl, by decide, by decide, by decide +kernel⟩ hR
theorem cw_M_231 {R : Room} {s : State} {args : Array Value} {x0 : Cond} (ht : ∀ w ∈ (x0 :: sr_T), w.before args s = true) (hR : 0 + 1 ≤ R.frames ∧ 8 + (5 + 11) + 0 ≤ R.locals) : CallW R s args R_M R_M 231 y_M_joined b_M_joined 5 (some .boolean) w_M_joined (sr_rm 0 0) 0 0 1 :=
  cwV 1 ht (sr_gV q_1027 q_1029 qs_M_joined q_4 q_1030) rfl rfl rfl ⟨rfl, by decide, by decide, by decide +kernel⟩ hR
theorem cw_M_240 {R : Room} {s : State} {args : Array Value} {x0 : Cond} (ht : ∀ w ∈ (x0 :: sr_T), w.before args s = true) (hR : 3 + 1 ≤ R.frames ∧ 8 + (7 + 11) + 70 ≤ R.locals) : CallW R s args R_M R_M 240 y_M_open b_M_open 7 none w_M_open (sr_rm 3 70) 0 0 1 :=
  cwV 1 ht (sr_gV q_1039 q_1041 qs_M_open q_4 q_1042) rfl rfl rfl ⟨rfl, by decide, by decide, by decide +kernel⟩ hR
theorem cw_M_237 {R : Room} {s : State} {args : Array Value} {x0 : Cond} (ht : ∀ w ∈ (x0 :: sr_T), w.before args s = true) (hR : 2 + 1 ≤ R.frames ∧ 8 + (3 + 11) + 46 ≤ R.locals) : CallW R s args R_M R_M 237 y_M_simple b_M_simple 3 none w_M_simple (sr_rm 2 46) 0 0 1 :=
  cwV 1 ht (sr_gV q_1035 q_1037 qs_M_simple q_4 q_1038) rfl rfl rfl ⟨rfl, by decide, by decide, by decide +kernel⟩ hR
theorem cw_M_262 {R : Room} {s : State} {args : Array Value} {x0 : Cond} (ht : ∀ w ∈ (x0 :: sr_T), w.before args s = true) (hR : 4 + 1 ≤ R.frames ∧ 8 + (2 + 11) + 98 ≤ R.locals) : CallW R s args R_M R_M 262 y_M_step b_M_step 2 none w_M_step (sr_rm 4 98) 0 0 1 :=
  cwV 1 ht (sr_gV q_1011 q_1013 qs_M_step q_4 q_1014) rfl rfl rfl ⟨rfl, by decide, by decide, by decide +kernel⟩ hR
theorem cw_M_258 {R : Room} {s : State} {args : Array Value} {x0 : Cond} (ht : ∀ w ∈ (x0 :: sr_T), w.before args s = true) (hR : 2 + 1 ≤ R.frames ∧ 8 + (2 + 11) + 43 ≤ R.locals) : CallW R s args R_M R_M 258 y_M_stepper b_M_stepper 2 (some .int) w_M_stepper (sr_rm 2 43) 0 0 0 :=
  cwV 0 ht (sr_gV q_1003 q_1005 qs_M_stepper q_4 q_1006) rfl rfl rfl ⟨rfl, by decide, by decide, by decide +kernel⟩ hR
theorem cw_M_265 {R : Room} {s : State} {args : Array Value} {x0 : Cond} (ht : ∀ w ∈ (x0 :: sr_T), w.before args s = true) (hR : 1 + 1 ≤ R.frames ∧ 8 + (3 + 11) + 22 ≤ R.locals) : CallW R s args R_M R_M 265 y_M_isScope b_M_isScope 3 (some .boolean) w_M_isScope (sr_rm 1 22) 0 0 2 :=
  cwV 2 ht (sr_gV q_1067 q_1069 qs_M_isScope q_4 q_1070) rfl rfl rfl ⟨rfl, by decide, by decide, by decide +kernel⟩ hR
theorem cw_R_51 {R : Room} {s : State} {args : Array Value} {x0 : Cond} (ht : ∀ w ∈ (x0 :: sr_T), w.before args s = true) (hR : 0 + 1 ≤ R.frames ∧ 8 + (4 + 11) + 0 ≤ R.locals) : CallW R s args R_R R_P 51 y_P_countChildren b_P_countChildren 4 (some .int) w_P_countChildren (sr_rm 0 0) 0 0 1 :=
  cwV 1 ht (sr_gV q_202 q_203 q_204 q_2 q_205) rfl rfl rfl ⟨rfl, by decide, by decide, by decide +kernel⟩ hR
theorem cw_R_55 {R : Room} {s : State} {args : Array Value} {x0 : Cond} (ht : ∀ w ∈ (x0 :: sr_T), w.before args s = true) (hR : 0 + 1 ≤ R.frames ∧ 8 + (2 + 11) + 0 ≤ R.locals) : CallB R s args R_R 55 y_R_mayHave b_R_mayHave 2 (some .boolean) w_R_mayHave (sr_rm 0 0) 0 0 2 ∧ (Cond.static y_R_mayHave).before args s = true :=
  va_cwS 2 ht (sr_gS q_206 q_207 q_3 q_208) rfl rfl rfl ⟨by decide, by decide, by decide +kernel⟩ hR
theorem cw_R_77 {R : Room} {s : State} {args : Array Value} {x0 : Cond} (ht : ∀ w ∈ (x0 :: sr_T), w.before args s = true) (hR : 1 + 1 ≤ R.frames ∧ 8 + (3 + 11) + 21 ≤ R.locals) : CallW R s args R_R R_P 77 y_P_isBelow b_P_isBelow 3 (some .boolean) w_P_isBelow (sr_rm 1 21) 0 0 2 :=
  cwV 2 ht (sr_gV q_225 q_226 q_227 q_2 q_228) rfl rfl rfl ⟨rfl, by decide, by decide, by decide +kernel⟩ hR
theorem cw_R_80 {R : Room} {s : State} {args : Array Value} {x0 : Cond} (ht : ∀ w ∈ (x0 :: sr_T), w.before args s = true) (hR : 1 + 1 ≤ R.frames ∧ 8 + (2 + 11) + 21 ≤ R.locals) : CallW R s args R_R R_P 80 y_P_hasScope b_P_hasScope 2 (some .boolean) w_P_hasScope (sr_rm 1 21) 0 0 1 :=
  cwV 1 ht (sr_gV q_233 q_166 q_167 q_2 q_168) rfl rfl rfl ⟨rfl, by decide, by decide, by decide +kernel⟩ hR
theorem cw_R_67 {R : Room} {s : State} {args : Array Value} {x0 : Cond} (ht : ∀ w ∈ (x0 :: sr_T), w.before args s = true) (hR : 2 + 1 ≤ R.frames ∧ 8 + (3 + 11) + 43 ≤ R.locals) : CallW R s args R_R R_R 67 y_R_isInHandlersFlow b_R_isInHandlersFlow 3 (some .boolean) w_R_isInHandlersFlow (sr_rm 2 43) 0 0 1 :=
  cwV 1 ht (sr_gV q_221 q_223 qs_R_isInHandlersFlow q_3 q_224) rfl rfl rfl ⟨rfl, by decide, by decide, by decide +kernel⟩ hR
theorem cw_R_74 {R : Room} {s : State} {args : Array Value} {x0 : Cond} (ht : ∀ w ∈ (x0 :: sr_T), w.before args s = true) (hR : 2 + 1 ≤ R.frames ∧ 8 + (3 + 11) + 42 ≤ R.locals) : CallW R s args R_R R_R 74 y_R_mayUndo b_R_mayUndo 3 (some .boolean) w_R_mayUndo (sr_rm 2 42) 0 0 2 :=
  cwV 2 ht (sr_gV q_229 q_231 qs_R_mayUndo q_3 q_232) rfl rfl rfl ⟨rfl, by decide, by decide, by decide +kernel⟩ hR
theorem cw_R_113 {R : Room} {s : State} {args : Array Value} {x0 : Cond} (ht : ∀ w ∈ (x0 :: sr_T), w.before args s = true) (hR : 0 + 1 ≤ R.frames ∧ 8 + (2 + 11) + 0 ≤ R.locals) : CallB R s args R_R 113 y_P_isIn b_P_isIn 2 (some .boolean) w_P_isIn (sr_rm 0 0) 0 0 2 ∧ (Cond.static y_P_isIn).before args s = true :=
  va_cwS 2 ht (sr_gS q_253 q_170 q_2 q_171) rfl rfl rfl ⟨by decide, by decide, by decide +kernel⟩ hR
theorem cw_R_98 {R : Room} {s : State} {args : Array Value} {x0 : Cond} (ht : ∀ w ∈ (x0 :: sr_T), w.before args s = true) (hR : 2 + 1 ≤ R.frames ∧ 8 + (4 + 11) + 43 ≤ R.locals) : CallW R s args R_R R_R 98 y_R_nearestAbove b_R_nearestAbove 4 (some .int) w_R_nearestAbove (sr_rm 2 43) 0 0 2 :=
  cwV 2 ht (sr_gV q_242 q_244 qs_R_nearestAbove q_3 q_245) rfl rfl rfl ⟨rfl, by decide, by decide, by decide +kernel⟩ hR
theorem cw_R_102 {R : Room} {s : State} {args : Array Value} {x0 : Cond} (ht : ∀ w ∈ (x0 :: sr_T), w.before args s = true) (hR : 2 + 1 ≤ R.frames ∧ 8 + (5 + 11) + 43 ≤ R.locals) : CallW R s args R_R R_R 102 y_R_mayReach b_R_mayReach 5 (some .boolean) w_R_mayReach (sr_rm 2 43) 0 0 2 :=
  cwV 2 ht (sr_gV q_249 q_251 qs_R_mayReach q_3 q_252) rfl rfl rfl ⟨rfl, by decide, by decide, by decide +kernel⟩ hR
theorem cw_R_95 {R : Room} {s : State} {args : Array Value} {x0 : Cond} (ht : ∀ w ∈ (x0 :: sr_T), w.before args s = true) (hR : 3 + 1 ≤ R.frames ∧ 8 + (4 + 11) + 67 ≤ R.locals) : CallW R s args R_R R_R 95 y_R_linkIsRight b_R_linkIsRight 4 (some .boolean) w_R_linkIsRight (sr_rm 3 67) 0 0 2 :=
  cwV 2 ht (sr_gV q_238 q_240 qs_R_linkIsRight q_3 q_241) rfl rfl rfl ⟨rfl, by decide, by decide, by decide +kernel⟩ hR
theorem cw_R_126 {R : Room} {s : State} {args : Array Value} {x0 : Cond} (ht : ∀ w ∈ (x0 :: sr_T), w.before args s = true) (hR : 0 + 1 ≤ R.frames ∧ 8 + (1 + 11) + 0 ≤ R.locals) : CallB R s args R_R 126 y_R_beginning b_R_beginning 1 (some .int) w_R_beginning (sr_rm 0 0) 0 0 1 ∧ (Cond.static y_R_beginning).before args s = true :=
  va_cwS 1 ht (sr_gS q_262 q_263 q_3 q_264) rfl rfl rfl ⟨by decide, by decide, by decide +kernel⟩ hR
theorem cw_R_129 {R : Room} {s : State} {args : Array Value} {x0 : Cond} (ht : ∀ w ∈ (x0 :: sr_T), w.before args s = true) (hR : 0 + 1 ≤ R.frames ∧ 8 + (1 + 11) + 0 ≤ R.locals) : CallB R s args R_R 129 y_R_end b_R_end 1 (some .int) w_R_end (sr_rm 0 0) 0 0 1 ∧ (Cond.static y_R_end).before args s = true :=
  va_cwS 1 ht (sr_gS q_265 q_266 q_3 q_267) rfl rfl rfl ⟨by decide, by decide, by decide +kernel⟩ hR
theorem cw_R_132 {R : Room} {s : State} {args : Array Value} {x0 : Cond} (ht : ∀ w ∈ (x0 :: sr_T), w.before args s = true) (hR : 0 + 1 ≤ R.frames ∧ 8 + (1 + 11) + 0 ≤ R.locals) : CallB R s args R_R 132 y_R_bit b_R_bit 1 (some .long) w_R_bit (sr_rm 0 0) 0 0 1 ∧ (Cond.static y_R_bit).before args s = true :=
  va_cwS 1 ht (sr_gS q_268 q_269 q_3 q_270) rfl rfl rfl ⟨by decide, by decide, by decide +kernel⟩ hR
theorem cw_R_139 {R : Room} {s : State} {args : Array Value} {x0 : Cond} (ht : ∀ w ∈ (x0 :: sr_T), w.before args s = true) (hR : 1 + 1 ≤ R.frames ∧ 8 + (5 + 11) + 20 ≤ R.locals) : CallW R s args R_R R_R 139 y_R_noteNextInSequence b_R_noteNextInSequence 5 none w_R_noteNextInSequence (sr_rm 1 20) 0 0 2 :=
  cwV 2 ht (sr_gV q_271 q_273 qs_R_noteNextInSequence q_3 q_274) rfl rfl rfl ⟨rfl, by decide, by decide, by decide +kernel⟩ hR
theorem cw_R_116 {R : Room} {s : State} {args : Array Value} {x0 : Cond} (ht : ∀ w ∈ (x0 :: sr_T), w.before args s = true) (hR : 2 + 1 ≤ R.frames ∧ 8 + (3 + 11) + 44 ≤ R.locals) : CallW R s args R_R R_R 116 y_R_noteTree b_R_noteTree 3 none w_R_noteTree (sr_rm 2 44) 0 0 0 :=
  cwV 0 ht (sr_gV q_258 q_260 qs_R_noteTree q_3 q_261) rfl rfl rfl ⟨rfl, by decide, by decide, by decide +kernel⟩ hR
theorem cw_R_119 {R : Room} {s : State} {args : Array Value} {x0 : Cond} (ht : ∀ w ∈ (x0 :: sr_T), w.before args s = true) (hR : 1 + 1 ≤ R.frames ∧ 8 + (2 + 11) + 20 ≤ R.locals) : CallW R s args R_R R_R 119 y_R_noteLinks b_R_noteLinks 2 none w_R_noteLinks (sr_rm 1 20) 0 0 0 :=
  cwV 0 ht (sr_gV q_275 q_277 qs_R_noteLinks q_3 q_278) rfl rfl rfl ⟨rfl, by decide, by decide, by decide +kernel⟩ hR
theorem cw_R_122 {R : Room} {s : State} {args : Array Value} {x0 : Cond} (ht : ∀ w ∈ (x0 :: sr_T), w.before args s = true) (hR : 1 + 1 ≤ R.frames ∧ 8 + (6 + 11) + 20 ≤ R.locals) : CallW R s args R_R R_R 122 y_R_withoutFirst b_R_withoutFirst 6 (some .long) w_R_withoutFirst (sr_rm 1 20) 0 0 1 :=
  cwV 1 ht (sr_gV q_279 q_281 qs_R_withoutFirst q_3 q_282) rfl rfl rfl ⟨rfl, by decide, by decide, by decide +kernel⟩ hR
theorem cw_R_145 {R : Room} {s : State} {args : Array Value} {x0 : Cond} (ht : ∀ w ∈ (x0 :: sr_T), w.before args s = true) (hR : 2 + 1 ≤ R.frames ∧ 8 + (3 + 11) + 44 ≤ R.locals) : CallW R s args R_R R_P 145 y_P_findStart b_P_findStart 3 (some .int) w_P_findStart (sr_rm 2 44) 0 0 0 :=
  cwV 0 ht (sr_gV q_288 q_289 q_290 q_2 q_291) rfl rfl rfl ⟨rfl, by decide, by decide, by decide +kernel⟩ hR
theorem cw_R_149 {R : Room} {s : State} {args : Array Value} {x0 : Cond} (ht : ∀ w ∈ (x0 :: sr_T), w.before args s = true) (hR : 0 + 1 ≤ R.frames ∧ 8 + (3 + 11) + 0 ≤ R.locals) : CallW R s args R_R R_P 149 y_P_isTarget b_P_isTarget 3 (some .boolean) w_P_isTarget (sr_rm 0 0) 0 0 1 :=
  cwV 1 ht (sr_gV q_300 q_301 q_302 q_2 q_303) rfl rfl rfl ⟨rfl, by decide, by decide, by decide +kernel⟩ hR
theorem cw_R_19 {R : Room} {s : State} {args : Array Value} {x0 : Cond} (ht : ∀ w ∈ (x0 :: sr_T), w.before args s = true) (hR : 1 + 1 ≤ R.frames ∧ 8 + (2 + 11) + 23 ≤ R.locals) : CallW R s args R_R R_R 19 y_R_childrenAreRight b_R_childrenAreRight 2 (some .boolean) w_R_childrenAreRight (sr_rm 1 23) 0 0 0 :=
  cwV 0 ht (sr_gV q_198 q_200 qs_R_childrenAreRight q_3 q_201) rfl rfl rfl ⟨rfl, by decide, by decide, by decide +kernel⟩ hR
theorem cw_R_23 {R : Room} {s : State} {args : Array Value} {x0 : Cond} (ht : ∀ w ∈ (x0 :: sr_T), w.before args s = true) (hR : 0 + 1 ≤ R.frames ∧ 8 + (2 + 11) + 0 ≤ R.locals) : CallW R s args R_R R_R 23 y_R_handlersAreFlat b_R_handlersAreFlat 2 (some .boolean) w_R_handlersAreFlat (sr_rm 0 0) 0 0 0 :=
  cwV 0 ht (sr_gV q_209 q_211 qs_R_handlersAreFlat q_3 q_212) rfl rfl rfl ⟨rfl, by decide, by decide, by decide +kernel⟩ hR
theorem cw_R_26 {R : Room} {s : State} {args : Array Value} {x0 : Cond} (ht : ∀ w ∈ (x0 :: sr_T), w.before args s = true) (hR : 0 + 1 ≤ R.frames ∧ 8 + (5 + 11) + 0 ≤ R.locals) : CallW R s args R_R R_R 26 y_R_handlerKindsAreInside b_R_handlerKindsAreInside 5 (some .boolean) w_R_handlerKindsAreInside (sr_rm 0 0) 0 0 0 :=
  cwV 0 ht (sr_gV q_213 q_215 qs_R_handlerKindsAreInside q_3 q_216) rfl rfl rfl ⟨rfl, by decide, by decide, by decide +kernel⟩ hR
theorem cw_R_29 {R : Room} {s : State} {args : Array Value} {x0 : Cond} (ht : ∀ w ∈ (x0 :: sr_T), w.before args s = true) (hR : 3 + 1 ≤ R.frames ∧ 8 + (2 + 11) + 65 ≤ R.locals) : CallW R s args R_R R_R 29 y_R_compensatesAreRight b_R_compensatesAreRight 2 (some .boolean) w_R_compensatesAreRight (sr_rm 3 65) 0 0 0 :=
  cwV 0 ht (sr_gV q_217 q_219 qs_R_compensatesAreRight q_3 q_220) rfl rfl rfl ⟨rfl, by decide, by decide, by decide +kernel⟩ hR
theorem cw_R_32 {R : Room} {s : State} {args : Array Value} {x0 : Cond} (ht : ∀ w ∈ (x0 :: sr_T), w.before args s = true) (hR : 4 + 1 ≤ R.frames ∧ 8 + (2 + 11) + 90 ≤ R.locals) : CallW R s args R_R R_R 32 y_R_linksAreRight b_R_linksAreRight 2 (some .boolean) w_R_linksAreRight (sr_rm 4 90) 0 0 0 :=
  cwV 0 ht (sr_gV q_234 q_236 qs_R_linksAreRight q_3 q_237) rfl rfl rfl ⟨rfl, by decide, by decide, by decide +kernel⟩ hR
theorem cw_R_35 {R : Room} {s : State} {args : Array Value} {x0 : Cond} (ht : ∀ w ∈ (x0 :: sr_T), w.before args s = true) (hR : 3 + 1 ≤ R.frames ∧ 8 + (5 + 11) + 66 ≤ R.locals) : CallW R s args R_R R_R 35 y_R_orderIsRight b_R_orderIsRight 5 (some .boolean) w_R_orderIsRight (sr_rm 3 66) 0 0 0 :=
  cwV 0 ht (sr_gV q_254 q_256 qs_R_orderIsRight q_3 q_257) rfl rfl rfl ⟨rfl, by decide, by decide, by decide +kernel⟩ hR
theorem cw_R_38 {R : Room} {s : State} {args : Array Value} {x0 : Cond} (ht : ∀ w ∈ (x0 :: sr_T), w.before args s = true) (hR : 3 + 1 ≤ R.frames ∧ 8 + (3 + 11) + 66 ≤ R.locals) : CallW R s args R_R R_R 38 y_R_startIsRight b_R_startIsRight 3 (some .boolean) w_R_startIsRight (sr_rm 3 66) 0 0 0 :=
  cwV 0 ht (sr_gV q_284 q_286 qs_R_startIsRight q_3 q_287) rfl rfl rfl ⟨rfl, by decide, by decide, by decide +kernel⟩ hR
theorem cw_E_25 {R : Room} {s : State} {args : Array Value} {x0 : Cond} (ht : ∀ w ∈ (x0 :: sr_T), w.before args s = true) (hR : 0 + 1 ≤ R.frames ∧ 8 + (4 + 11) + 0 ≤ R.locals) : CallW R s args R_E R_E 25 y_E_moveAll b_E_moveAll 4 none w_E_moveAll (sr_rm 0 0) 0 0 2 :=
  cwV 2 ht (sr_gV q_369 q_371 qs_E_moveAll q_11 q_373) rfl rfl rfl ⟨rfl, by decide, by decide, by decide +kernel⟩ hR
theorem cw_E_29 {R : Room} {s : State} {args : Array Value} {x0 : Cond} (ht : ∀ w ∈ (x0 :: sr_T), w.before args s = true) (hR : 1 + 1 ≤ R.frames ∧ 8 + (2 + 11) + 23 ≤ R.locals) : CallW R s args R_E R_E 29 y_E_clear b_E_clear 2 none w_E_clear (sr_rm 1 23) 0 0 1 :=
  cwV 1 ht (sr_gV q_634 q_366 q_367 q_11 q_368) rfl rfl rfl ⟨rfl, by decide, by decide, by decide +kernel⟩ hR
theorem cw_E_33 {R : Room} {s : State} {args : Array Value} {x0 : Cond} (ht : ∀ w ∈ (x0 :: sr_T), w.before args s = true) (hR : 0 + 1 ≤ R.frames ∧ 8 + (2 + 11) + 0 ≤ R.locals) : CallB R s args R_E 33 y_P_isIn b_P_isIn 2 (some .boolean) w_P_isIn (sr_rm 0 0) 0 0 2 ∧ (Cond.static y_P_isIn).before args s = true :=
  va_cwS 2 ht (sr_gS q_423 q_170 q_2 q_171) rfl rfl rfl ⟨by decide, by decide, by decide +kernel⟩ hR
theorem cw_L_28 {R : Room} {s : State} {args : Array Value} {x0 : Cond} (ht : ∀ w ∈ (x0 :: sr_T), w.before args s = true) (hR : 0 + 1 ≤ R.frames ∧ 8 + (5 + 11) + 0 ≤ R.locals) : CallW R s args R_L R_L 28 y_L_countTo b_L_countTo 5 (some .int) w_L_countTo (sr_rm 0 0) 0 0 2 :=
  cwV 2 ht (sr_gV q_596 q_598 qs_L_countTo q_10 q_599) rfl rfl rfl ⟨rfl, by decide, by decide, by decide +kernel⟩ hR
theorem cw_I_87 {R : Room} {s : State} {args : Array Value} {x0 : Cond} (ht : ∀ w ∈ (x0 :: sr_T), w.before args s = true) (hR : 1 + 1 ≤ R.frames ∧ 8 + (2 + 11) + 24 ≤ R.locals) : CallW R s args R_I R_L 87 y_L_areSetTo b_L_areSetTo 2 (some .boolean) w_L_areSetTo (sr_rm 1 24) 0 0 1 :=
  cwV 1 ht (sr_gV q_592 q_593 q_594 q_10 q_595) rfl rfl rfl ⟨rfl, by decide, by decide, by decide +kernel⟩ hR
theorem cw_I_83 {R : Room} {s : State} {args : Array Value} {x0 : Cond} (ht : ∀ w ∈ (x0 :: sr_T), w.before args s = true) (hR : 2 + 1 ≤ R.frames ∧ 8 + (2 + 11) + 45 ≤ R.locals) : CallW R s args R_I R_I 83 y_I_canStep b_I_canStep 2 (some .boolean) w_I_canStep (sr_rm 2 45) 0 0 1 :=
  cwV 1 ht (sr_gV q_588 q_590 qs_I_canStep q_8 q_591) rfl rfl rfl ⟨rfl, by decide, by decide, by decide +kernel⟩ hR
theorem cw_I_182 {R : Room} {s : State} {args : Array Value} {x0 : Cond} (ht : ∀ w ∈ (x0 :: sr_T), w.before args s = true) (hR : 0 + 1 ≤ R.frames ∧ 8 + (4 + 11) + 0 ≤ R.locals) : CallW R s args R_I R_V 182 y_V_read b_V_read 4 (some .int) w_V_read (sr_rm 0 0) 0 0 2 :=
  cwV 2 ht (sr_gV q_608 q_354 q_355 q_9 q_356) rfl rfl rfl ⟨rfl, by decide, by decide, by decide +kernel⟩ hR
theorem cw_L_53 {R : Room} {s : State} {args : Array Value} {x0 : Cond} (ht : ∀ w ∈ (x0 :: sr_T), w.before args s = true) (hR : 0 + 1 ≤ R.frames ∧ 8 + (2 + 11) + 0 ≤ R.locals) : CallB R s args R_L 53 y_P_isIn b_P_isIn 2 (some .boolean) w_P_isIn (sr_rm 0 0) 0 0 2 ∧ (Cond.static y_P_isIn).before args s = true :=
  va_cwS 2 ht (sr_gS q_428 q_170 q_2 q_171) rfl rfl rfl ⟨by decide, by decide, by decide +kernel⟩ hR
theorem cw_I_226 {R : Room} {s : State} {args : Array Value} {x0 : Cond} (ht : ∀ w ∈ (x0 :: sr_T), w.before args s = true) (hR : 1 + 1 ≤ R.frames ∧ 8 + (3 + 11) + 21 ≤ R.locals) : CallW R s args R_I R_L 226 y_L_unsetFrom b_L_unsetFrom 3 none w_L_unsetFrom (sr_rm 1 21) 0 0 1 :=
  cwV 1 ht (sr_gV q_613 q_614 q_615 q_10 q_616) rfl rfl rfl ⟨rfl, by decide, by decide, by decide +kernel⟩ hR
theorem cw_I_222 {R : Room} {s : State} {args : Array Value} {x0 : Cond} (ht : ∀ w ∈ (x0 :: sr_T), w.before args s = true) (hR : 0 + 1 ≤ R.frames ∧ 8 + (2 + 11) + 0 ≤ R.locals) : CallB R s args R_I 222 y_P_isIn b_P_isIn 2 (some .boolean) w_P_isIn (sr_rm 0 0) 0 0 2 ∧ (Cond.static y_P_isIn).before args s = true :=
  va_cwS 2 ht (sr_gS q_411 q_170 q_2 q_171) rfl rfl rfl ⟨by decide, by decide, by decide +kernel⟩ hR
theorem cw_I_123 {R : Room} {s : State} {args : Array Value} {x0 : Cond} (ht : ∀ w ∈ (x0 :: sr_T), w.before args s = true) (hR : 0 + 1 ≤ R.frames ∧ 8 + (2 + 11) + 0 ≤ R.locals) : CallW R s args R_I R_I 123 y_I_completes b_I_completes 2 none w_I_completes (sr_rm 0 0) 0 0 1 :=
  cwV 1 ht (sr_gV q_329 q_331 qs_I_completes q_8 q_332) rfl rfl rfl ⟨rfl, by decide, by decide, by decide +kernel⟩ hR
theorem cw_I_216 {R : Room} {s : State} {args : Array Value} {x0 : Cond} (ht : ∀ w ∈ (x0 :: sr_T), w.before args s = true) (hR : 1 + 1 ≤ R.frames ∧ 8 + (2 + 11) + 23 ≤ R.locals) : CallW R s args R_I R_I 216 y_I_conditionHolds b_I_conditionHolds 2 (some .boolean) w_I_conditionHolds (sr_rm 1 23) 0 0 1 :=
  cwV 1 ht (sr_gV q_604 q_606 qs_I_conditionHolds q_8 q_607) rfl rfl rfl ⟨rfl, by decide, by decide, by decide +kernel⟩ hR
theorem cw_I_219 {R : Room} {s : State} {args : Array Value} {x0 : Cond} (ht : ∀ w ∈ (x0 :: sr_T), w.before args s = true) (hR : 2 + 1 ≤ R.frames ∧ 8 + (3 + 11) + 43 ≤ R.locals) : CallW R s args R_I R_I 219 y_I_renew b_I_renew 3 none w_I_renew (sr_rm 2 43) 0 0 1 :=
  cwV 1 ht (sr_gV q_609 q_611 qs_I_renew q_8 q_612) rfl rfl rfl ⟨rfl, by decide, by decide, by decide +kernel⟩ hR
theorem cw_I_195 {R : Room} {s : State} {args : Array Value} {x0 : Cond} (ht : ∀ w ∈ (x0 :: sr_T), w.before args s = true) (hR : 1 + 1 ≤ R.frames ∧ 8 + (2 + 11) + 23 ≤ R.locals) : CallW R s args R_I R_P 195 y_P_firstChild b_P_firstChild 2 (some .int) w_P_firstChild (sr_rm 1 23) 0 0 1 :=
  cwV 1 ht (sr_gV q_617 q_293 q_294 q_2 q_295) rfl rfl rfl ⟨rfl, by decide, by decide, by decide +kernel⟩ hR
theorem cw_I_198 {R : Room} {s : State} {args : Array Value} {x0 : Cond} (ht : ∀ w ∈ (x0 :: sr_T), w.before args s = true) (hR : 1 + 1 ≤ R.frames ∧ 8 + (3 + 11) + 21 ≤ R.locals) : CallW R s args R_I R_I 198 y_I_openOrComplete b_I_openOrComplete 3 none w_I_openOrComplete (sr_rm 1 21) 0 0 2 :=
  cwV 2 ht (sr_gV q_395 q_397 qs_I_openOrComplete q_8 q_398) rfl rfl rfl ⟨rfl, by decide, by decide, by decide +kernel⟩ hR
theorem cw_I_144 {R : Room} {s : State} {args : Array Value} {x0 : Cond} (ht : ∀ w ∈ (x0 :: sr_T), w.before args s = true) (hR : 0 + 1 ≤ R.frames ∧ 8 + (3 + 11) + 0 ≤ R.locals) : CallW R s args R_I R_G 144 y_G_write b_G_write 3 none w_G_write (sr_rm 0 0) 0 0 2 :=
  cwV 2 ht (sr_gV q_345 q_346 q_347 q_12 q_348) rfl rfl rfl ⟨rfl, by decide, by decide, by decide +kernel⟩ hR
theorem cw_I_248 {R : Room} {s : State} {args : Array Value} {x0 : Cond} (ht : ∀ w ∈ (x0 :: sr_T), w.before args s = true) (hR : 2 + 1 ≤ R.frames ∧ 8 + (2 + 11) + 44 ≤ R.locals) : CallW R s args R_I R_E 248 y_E_handBack b_E_handBack 2 none w_E_handBack (sr_rm 2 44) 0 0 1 :=
  cwV 1 ht (sr_gV q_630 q_631 q_632 q_11 q_633) rfl rfl rfl ⟨rfl, by decide, by decide, by decide +kernel⟩ hR
theorem cw_I_251 {R : Room} {s : State} {args : Array Value} {x0 : Cond} (ht : ∀ w ∈ (x0 :: sr_T), w.before args s = true) (hR : 0 + 1 ≤ R.frames ∧ 8 + (4 + 11) + 0 ≤ R.locals) : CallW R s args R_I R_P 251 y_P_handlerOf b_P_handlerOf 4 (some .int) w_P_handlerOf (sr_rm 0 0) 0 0 2 :=
  cwV 2 ht (sr_gV q_433 q_158 q_159 q_2 q_160) rfl rfl rfl ⟨rfl, by decide, by decide, by decide +kernel⟩ hR
theorem cw_I_192 {R : Room} {s : State} {args : Array Value} {x0 : Cond} (ht : ∀ w ∈ (x0 :: sr_T), w.before args s = true) (hR : 0 + 1 ≤ R.frames ∧ 8 + (3 + 11) + 0 ≤ R.locals) : CallW R s args R_I R_I 192 y_I_becomeUndoer b_I_becomeUndoer 3 none w_I_becomeUndoer (sr_rm 0 0) 0 0 2 :=
  cwV 2 ht (sr_gV q_434 q_436 qs_I_becomeUndoer q_8 q_437) rfl rfl rfl ⟨rfl, by decide, by decide, by decide +kernel⟩ hR
theorem cw_I_232 {R : Room} {s : State} {args : Array Value} {x0 : Cond} (ht : ∀ w ∈ (x0 :: sr_T), w.before args s = true) (hR : 1 + 1 ≤ R.frames ∧ 8 + (2 + 11) + 23 ≤ R.locals) : CallW R s args R_I R_E 232 y_E_clear b_E_clear 2 none w_E_clear (sr_rm 1 23) 0 0 1 :=
  cwV 1 ht (sr_gV q_365 q_366 q_367 q_11 q_368) rfl rfl rfl ⟨rfl, by decide, by decide, by decide +kernel⟩ hR
theorem cw_I_176 {R : Room} {s : State} {args : Array Value} {x0 : Cond} (ht : ∀ w ∈ (x0 :: sr_T), w.before args s = true) (hR : 1 + 1 ≤ R.frames ∧ 8 + (4 + 11) + 22 ≤ R.locals) : CallW R s args R_I R_I 176 y_I_become b_I_become 4 none w_I_become (sr_rm 1 22) 0 0 3 :=
  cwV 3 ht (sr_gV q_341 q_343 qs_I_become q_8 q_344) rfl rfl rfl ⟨rfl, by decide, by decide, by decide +kernel⟩ hR
theorem cw_I_235 {R : Room} {s : State} {args : Array Value} {x0 : Cond} (ht : ∀ w ∈ (x0 :: sr_T), w.before args s = true) (hR : 0 + 1 ≤ R.frames ∧ 8 + (4 + 11) + 0 ≤ R.locals) : CallW R s args R_I R_E 235 y_E_latestIn b_E_latestIn 4 (some .int) w_E_latestIn (sr_rm 0 0) 0 0 2 :=
  cwV 2 ht (sr_gV q_622 q_623 q_624 q_11 q_625) rfl rfl rfl ⟨rfl, by decide, by decide, by decide +kernel⟩ hR
theorem cw_I_131 {R : Room} {s : State} {args : Array Value} {x0 : Cond} (ht : ∀ w ∈ (x0 :: sr_T), w.before args s = true) (hR : 0 + 1 ≤ R.frames ∧ 8 + (3 + 11) + 0 ≤ R.locals) : CallW R s args R_I R_I 131 y_I_faults b_I_faults 3 none w_I_faults (sr_rm 0 0) 0 0 2 :=
  cwV 2 ht (sr_gV q_386 q_388 qs_I_faults q_8 q_389) rfl rfl rfl ⟨rfl, by decide, by decide, by decide +kernel⟩ hR
theorem cw_I_241 {R : Room} {s : State} {args : Array Value} {x0 : Cond} (ht : ∀ w ∈ (x0 :: sr_T), w.before args s = true) (hR : 2 + 1 ≤ R.frames ∧ 8 + (4 + 11) + 45 ≤ R.locals) : CallW R s args R_I R_I 241 y_I_endUndo b_I_endUndo 4 none w_I_endUndo (sr_rm 2 45) 0 0 3 :=
  cwV 3 ht (sr_gV q_374 q_376 qs_I_endUndo q_8 q_377) rfl rfl rfl ⟨rfl, by decide, by decide, by decide +kernel⟩ hR
theorem cw_I_238 {R : Room} {s : State} {args : Array Value} {x0 : Cond} (ht : ∀ w ∈ (x0 :: sr_T), w.before args s = true) (hR : 3 + 1 ≤ R.frames ∧ 8 + (5 + 11) + 65 ≤ R.locals) : CallW R s args R_I R_I 238 y_I_undo b_I_undo 5 none w_I_undo (sr_rm 3 65) 0 0 2 :=
  cwV 2 ht (sr_gV q_626 q_628 qs_I_undo q_8 q_629) rfl rfl rfl ⟨rfl, by decide, by decide, by decide +kernel⟩ hR
theorem cw_L_35 {R : Room} {s : State} {args : Array Value} {x0 : Cond} (ht : ∀ w ∈ (x0 :: sr_T), w.before args s = true) (hR : 0 + 1 ≤ R.frames ∧ 8 + (3 + 11) + 0 ≤ R.locals) : CallW R s args R_L R_P 35 y_P_isTarget b_P_isTarget 3 (some .boolean) w_P_isTarget (sr_rm 0 0) 0 0 1 :=
  cwV 1 ht (sr_gV q_639 q_301 q_302 q_2 q_303) rfl rfl rfl ⟨rfl, by decide, by decide, by decide +kernel⟩ hR
theorem cw_I_112 {R : Room} {s : State} {args : Array Value} {x0 : Cond} (ht : ∀ w ∈ (x0 :: sr_T), w.before args s = true) (hR : 0 + 1 ≤ R.frames ∧ 8 + (3 + 11) + 0 ≤ R.locals) : CallW R s args R_I R_I 112 y_I_waitingReceive b_I_waitingReceive 3 (some .int) w_I_waitingReceive (sr_rm 0 0) 0 0 1 :=
  cwV 1 ht (sr_gV q_320 q_322 qs_I_waitingReceive q_8 q_324) rfl rfl rfl ⟨rfl, by decide, by decide, by decide +kernel⟩ hR
theorem cw_I_119 {R : Room} {s : State} {args : Array Value} {x0 : Cond} (ht : ∀ w ∈ (x0 :: sr_T), w.before args s = true) (hR : 0 + 1 ≤ R.frames ∧ 8 + (5 + 11) + 0 ≤ R.locals) : CallW R s args R_I R_V 119 y_V_write b_V_write 5 none w_V_write (sr_rm 0 0) 0 0 3 :=
  cwV 3 ht (sr_gV q_325 q_326 q_327 q_9 q_328) rfl rfl rfl ⟨rfl, by decide, by decide, by decide +kernel⟩ hR
theorem cw_I_179 {R : Room} {s : State} {args : Array Value} {x0 : Cond} (ht : ∀ w ∈ (x0 :: sr_T), w.before args s = true) (hR : 1 + 1 ≤ R.frames ∧ 8 + (3 + 11) + 21 ≤ R.locals) : CallW R s args R_I R_L 179 y_L_closeFrom b_L_closeFrom 3 none w_L_closeFrom (sr_rm 1 21) 0 0 1 :=
  cwV 1 ht (sr_gV q_424 q_425 q_426 q_10 q_427) rfl rfl rfl ⟨rfl, by decide, by decide, by decide +kernel⟩ hR
theorem cw_I_213 {R : Room} {s : State} {args : Array Value} {x0 : Cond} (ht : ∀ w ∈ (x0 :: sr_T), w.before args s = true) (hR : 0 + 1 ≤ R.frames ∧ 8 + (4 + 11) + 0 ≤ R.locals) : CallW R s args R_I R_P 213 y_P_childAfter b_P_childAfter 4 (some .int) w_P_childAfter (sr_rm 0 0) 0 0 2 :=
  cwV 2 ht (sr_gV q_394 q_297 q_298 q_2 q_299) rfl rfl rfl ⟨rfl, by decide, by decide, by decide +kernel⟩ hR
theorem cw_I_170 {R : Room} {s : State} {args : Array Value} {x0 : Cond} (ht : ∀ w ∈ (x0 :: sr_T), w.before args s = true) (hR : 2 + 1 ≤ R.frames ∧ 8 + (2 + 11) + 45 ≤ R.locals) : CallW R s args R_I R_I 170 y_I_skip b_I_skip 2 none w_I_skip (sr_rm 2 45) 0 0 1 :=
  cwV 1 ht (sr_gV q_656 q_658 qs_I_skip q_8 q_659) rfl rfl rfl ⟨rfl, by decide, by decide, by decide +kernel⟩ hR
theorem cw_I_189 {R : Room} {s : State} {args : Array Value} {x0 : Cond} (ht : ∀ w ∈ (x0 :: sr_T), w.before args s = true) (hR : 1 + 1 ≤ R.frames ∧ 8 + (2 + 11) + 24 ≤ R.locals) : CallW R s args R_I R_I 189 y_I_beginReceive b_I_beginReceive 2 none w_I_beginReceive (sr_rm 1 24) 0 0 1 :=
  cwV 1 ht (sr_gV q_644 q_646 qs_I_beginReceive q_8 q_647) rfl rfl rfl ⟨rfl, by decide, by decide, by decide +kernel⟩ hR
theorem cw_I_201 {R : Room} {s : State} {args : Array Value} {x0 : Cond} (ht : ∀ w ∈ (x0 :: sr_T), w.before args s = true) (hR : 0 + 1 ≤ R.frames ∧ 8 + (3 + 11) + 0 ≤ R.locals) : CallW R s args R_I R_I 201 y_I_beginFlow b_I_beginFlow 3 none w_I_beginFlow (sr_rm 0 0) 0 0 1 :=
  cwV 1 ht (sr_gV q_648 q_650 qs_I_beginFlow q_8 q_651) rfl rfl rfl ⟨rfl, by decide, by decide, by decide +kernel⟩ hR
theorem cw_I_204 {R : Room} {s : State} {args : Array Value} {x0 : Cond} (ht : ∀ w ∈ (x0 :: sr_T), w.before args s = true) (hR : 3 + 1 ≤ R.frames ∧ 8 + (7 + 11) + 66 ≤ R.locals) : CallW R s args R_I R_I 204 y_I_beginIf b_I_beginIf 7 none w_I_beginIf (sr_rm 3 66) 0 0 1 :=
  cwV 1 ht (sr_gV q_652 q_654 qs_I_beginIf q_8 q_655) rfl rfl rfl ⟨rfl, by decide, by decide, by decide +kernel⟩ hR
theorem cw_I_93 {R : Room} {s : State} {args : Array Value} {x0 : Cond} (ht : ∀ w ∈ (x0 :: sr_T), w.before args s = true) (hR : 3 + 1 ≤ R.frames ∧ 8 + (2 + 11) + 65 ≤ R.locals) : CallW R s args R_I R_I 93 y_I_loop b_I_loop 2 none w_I_loop (sr_rm 3 65) 0 0 1 :=
  cwV 1 ht (sr_gV q_600 q_602 qs_I_loop q_8 q_603) rfl rfl rfl ⟨rfl, by decide, by decide, by decide +kernel⟩ hR
theorem cw_I_207 {R : Room} {s : State} {args : Array Value} {x0 : Cond} (ht : ∀ w ∈ (x0 :: sr_T), w.before args s = true) (hR : 2 + 1 ≤ R.frames ∧ 8 + (2 + 11) + 44 ≤ R.locals) : CallW R s args R_I R_I 207 y_I_beginScope b_I_beginScope 2 none w_I_beginScope (sr_rm 2 44) 0 0 1 :=
  cwV 1 ht (sr_gV q_660 q_662 qs_I_beginScope q_8 q_663) rfl rfl rfl ⟨rfl, by decide, by decide, by decide +kernel⟩ hR
theorem cw_I_173 {R : Room} {s : State} {args : Array Value} {x0 : Cond} (ht : ∀ w ∈ (x0 :: sr_T), w.before args s = true) (hR : 0 + 1 ≤ R.frames ∧ 8 + (2 + 11) + 0 ≤ R.locals) : CallW R s args R_I R_I 173 y_I_reports b_I_reports 2 none w_I_reports (sr_rm 0 0) 0 0 1 :=
  cwV 1 ht (sr_gV q_357 q_359 qs_I_reports q_8 q_360) rfl rfl rfl ⟨rfl, by decide, by decide, by decide +kernel⟩ hR
theorem cw_L_45 {R : Room} {s : State} {args : Array Value} {x0 : Cond} (ht : ∀ w ∈ (x0 :: sr_T), w.before args s = true) (hR : 0 + 1 ≤ R.frames ∧ 8 + (4 + 11) + 0 ≤ R.locals) : CallW R s args R_L R_V 45 y_V_read b_V_read 4 (some .int) w_V_read (sr_rm 0 0) 0 0 2 :=
  cwV 2 ht (sr_gV q_353 q_354 q_355 q_9 q_356) rfl rfl rfl ⟨rfl, by decide, by decide, by decide +kernel⟩ hR
theorem cw_I_254 {R : Room} {s : State} {args : Array Value} {x0 : Cond} (ht : ∀ w ∈ (x0 :: sr_T), w.before args s = true) (hR : 1 + 1 ≤ R.frames ∧ 8 + (6 + 11) + 23 ≤ R.locals) : CallW R s args R_I R_L 254 y_L_decideFrom b_L_decideFrom 6 none w_L_decideFrom (sr_rm 1 23) 0 0 2 :=
  cwV 2 ht (sr_gV q_349 q_350 q_351 q_10 q_352) rfl rfl rfl ⟨rfl, by decide, by decide, by decide +kernel⟩ hR
theorem cw_I_267 {R : Room} {s : State} {args : Array Value} {x0 : Cond} (ht : ∀ w ∈ (x0 :: sr_T), w.before args s = true) (hR : 0 + 1 ≤ R.frames ∧ 8 + (1 + 11) + 0 ≤ R.locals) : CallW R s args R_I R_E 267 y_E_areUsedUp b_E_areUsedUp 1 (some .boolean) w_E_areUsedUp (sr_rm 0 0) 0 0 0 :=
  cwV 0 ht (sr_gV q_382 q_383 q_384 q_11 q_385) rfl rfl rfl ⟨rfl, by decide, by decide, by decide +kernel⟩ hR
theorem cw_I_271 {R : Room} {s : State} {args : Array Value} {x0 : Cond} (ht : ∀ w ∈ (x0 :: sr_T), w.before args s = true) (hR : 1 + 1 ≤ R.frames ∧ 8 + (4 + 11) + 23 ≤ R.locals) : CallW R s args R_I R_E 271 y_E_make b_E_make 4 none w_E_make (sr_rm 1 23) 0 0 3 :=
  cwV 3 ht (sr_gV q_390 q_391 q_392 q_11 q_393) rfl rfl rfl ⟨rfl, by decide, by decide, by decide +kernel⟩ hR
theorem cw_I_264 {R : Room} {s : State} {args : Array Value} {x0 : Cond} (ht : ∀ w ∈ (x0 :: sr_T), w.before args s = true) (hR : 0 + 1 ≤ R.frames ∧ 8 + (4 + 11) + 0 ≤ R.locals) : CallW R s args R_I R_I 264 y_I_allChildrenEnded b_I_allChildrenEnded 4 (some .boolean) w_I_allChildrenEnded (sr_rm 0 0) 0 0 1 :=
  cwV 1 ht (sr_gV q_399 q_401 qs_I_allChildrenEnded q_8 q_402) rfl rfl rfl ⟨rfl, by decide, by decide, by decide +kernel⟩ hR
theorem cw_I_261 {R : Room} {s : State} {args : Array Value} {x0 : Cond} (ht : ∀ w ∈ (x0 :: sr_T), w.before args s = true) (hR : 2 + 1 ≤ R.frames ∧ 8 + (3 + 11) + 46 ≤ R.locals) : CallW R s args R_I R_I 261 y_I_endBody b_I_endBody 3 none w_I_endBody (sr_rm 2 46) 0 0 2 :=
  cwV 2 ht (sr_gV q_378 q_380 qs_I_endBody q_8 q_381) rfl rfl rfl ⟨rfl, by decide, by decide, by decide +kernel⟩ hR
theorem cw_I_286 {R : Room} {s : State} {args : Array Value} {x0 : Cond} (ht : ∀ w ∈ (x0 :: sr_T), w.before args s = true) (hR : 0 + 1 ≤ R.frames ∧ 8 + (1 + 11) + 0 ≤ R.locals) : CallB R s args R_I 286 y_T_isActive b_T_isActive 1 (some .boolean) w_T_isActive (sr_rm 0 0) 0 0 1 ∧ (Cond.static y_T_isActive).before args s = true :=
  va_cwS 1 ht (sr_gS q_412 q_413 q_7 q_414) rfl rfl rfl ⟨by decide, by decide, by decide +kernel⟩ hR
theorem cw_I_138 {R : Room} {s : State} {args : Array Value} {x0 : Cond} (ht : ∀ w ∈ (x0 :: sr_T), w.before args s = true) (hR : 2 + 1 ≤ R.frames ∧ 8 + (4 + 11) + 45 ≤ R.locals) : CallW R s args R_I R_I 138 y_I_endWithin b_I_endWithin 4 (some .int) w_I_endWithin (sr_rm 2 45) 0 0 1 :=
  cwV 1 ht (sr_gV q_407 q_409 qs_I_endWithin q_8 q_410) rfl rfl rfl ⟨rfl, by decide, by decide, by decide +kernel⟩ hR
theorem cw_I_280 {R : Room} {s : State} {args : Array Value} {x0 : Cond} (ht : ∀ w ∈ (x0 :: sr_T), w.before args s = true) (hR : 1 + 1 ≤ R.frames ∧ 8 + (5 + 11) + 21 ≤ R.locals) : CallW R s args R_I R_E 280 y_E_gather b_E_gather 5 none w_E_gather (sr_rm 1 21) 0 0 2 :=
  cwV 2 ht (sr_gV q_419 q_420 q_421 q_11 q_422) rfl rfl rfl ⟨rfl, by decide, by decide, by decide +kernel⟩ hR
theorem cw_I_283 {R : Room} {s : State} {args : Array Value} {x0 : Cond} (ht : ∀ w ∈ (x0 :: sr_T), w.before args s = true) (hR : 2 + 1 ≤ R.frames ∧ 8 + (5 + 11) + 45 ≤ R.locals) : CallW R s args R_I R_I 283 y_I_takeFault b_I_takeFault 5 none w_I_takeFault (sr_rm 2 45) 0 0 2 :=
  cwV 2 ht (sr_gV q_429 q_431 qs_I_takeFault q_8 q_432) rfl rfl rfl ⟨rfl, by decide, by decide, by decide +kernel⟩ hR
theorem cw_I_277 {R : Room} {s : State} {args : Array Value} {x0 : Cond} (ht : ∀ w ∈ (x0 :: sr_T), w.before args s = true) (hR : 0 + 1 ≤ R.frames ∧ 8 + (3 + 11) + 0 ≤ R.locals) : CallW R s args R_I R_I 277 y_I_entryFails b_I_entryFails 3 none w_I_entryFails (sr_rm 0 0) 0 0 2 :=
  cwV 2 ht (sr_gV q_415 q_417 qs_I_entryFails q_8 q_418) rfl rfl rfl ⟨rfl, by decide, by decide, by decide +kernel⟩ hR
theorem cw_I_155 {R : Room} {s : State} {args : Array Value} {x0 : Cond} (ht : ∀ w ∈ (x0 :: sr_T), w.before args s = true) (hR : 2 + 1 ≤ R.frames ∧ 8 + (2 + 11) + 48 ≤ R.locals) : CallW R s args R_I R_I 155 y_I_complete b_I_complete 2 none w_I_complete (sr_rm 2 48) 0 0 1 :=
  cwV 1 ht (sr_gV q_337 q_339 qs_I_complete q_8 q_340) rfl rfl rfl ⟨rfl, by decide, by decide, by decide +kernel⟩ hR
theorem cw_I_158 {R : Room} {s : State} {args : Array Value} {x0 : Cond} (ht : ∀ w ∈ (x0 :: sr_T), w.before args s = true) (hR : 3 + 1 ≤ R.frames ∧ 8 + (3 + 11) + 68 ≤ R.locals) : CallW R s args R_I R_I 158 y_I_report b_I_report 3 none w_I_report (sr_rm 3 68) 0 0 1 :=
  cwV 1 ht (sr_gV q_361 q_363 qs_I_report q_8 q_364) rfl rfl rfl ⟨rfl, by decide, by decide, by decide +kernel⟩ hR
theorem cw_I_161 {R : Room} {s : State} {args : Array Value} {x0 : Cond} (ht : ∀ w ∈ (x0 :: sr_T), w.before args s = true) (hR : 3 + 1 ≤ R.frames ∧ 8 + (6 + 11) + 69 ≤ R.locals) : CallW R s args R_I R_I 161 y_I_fault b_I_fault 6 none w_I_fault (sr_rm 3 69) 0 0 2 :=
  cwV 2 ht (sr_gV q_403 q_405 qs_I_fault q_8 q_406) rfl rfl rfl ⟨rfl, by decide, by decide, by decide +kernel⟩ hR
theorem cw_I_164 {R : Room} {s : State} {args : Array Value} {x0 : Cond} (ht : ∀ w ∈ (x0 :: sr_T), w.before args s = true) (hR : 3 + 1 ≤ R.frames ∧ 8 + (4 + 11) + 68 ≤ R.locals) : CallW R s args R_I R_I 164 y_I_failEntry b_I_failEntry 4 none w_I_failEntry (sr_rm 3 68) 0 0 2 :=
  cwV 2 ht (sr_gV q_438 q_440 qs_I_failEntry q_8 q_441) rfl rfl rfl ⟨rfl, by decide, by decide, by decide +kernel⟩ hR
theorem cw_I_90 {R : Room} {s : State} {args : Array Value} {x0 : Cond} (ht : ∀ w ∈ (x0 :: sr_T), w.before args s = true) (hR : 3 + 1 ≤ R.frames ∧ 8 + (2 + 11) + 66 ≤ R.locals) : CallW R s args R_I R_I 90 y_I_nextToStep b_I_nextToStep 2 (some .int) w_I_nextToStep (sr_rm 3 66) 0 0 0 :=
  cwV 0 ht (sr_gV q_584 q_585 q_586 q_8 q_587) rfl rfl rfl ⟨rfl, by decide, by decide, by decide +kernel⟩ hR
theorem cw_I_100 {R : Room} {s : State} {args : Array Value} {x0 : Cond} (ht : ∀ w ∈ (x0 :: sr_T), w.before args s = true) (hR : 1 + 1 ≤ R.frames ∧ 8 + (3 + 11) + 24 ≤ R.locals) : CallW R s args R_I R_L 100 y_L_joinHoldsAt b_L_joinHoldsAt 3 (some .boolean) w_L_joinHoldsAt (sr_rm 1 24) 0 0 1 :=
  cwV 1 ht (sr_gV q_635 q_636 q_637 q_10 q_638) rfl rfl rfl ⟨rfl, by decide, by decide, by decide +kernel⟩ hR
theorem cw_I_106 {R : Room} {s : State} {args : Array Value} {x0 : Cond} (ht : ∀ w ∈ (x0 :: sr_T), w.before args s = true) (hR : 3 + 1 ≤ R.frames ∧ 8 + (2 + 11) + 66 ≤ R.locals) : CallW R s args R_I R_I 106 y_I_missJoin b_I_missJoin 2 none w_I_missJoin (sr_rm 3 66) 0 0 1 :=
  cwV 1 ht (sr_gV q_664 q_666 qs_I_missJoin q_8 q_667) rfl rfl rfl ⟨rfl, by decide, by decide, by decide +kernel⟩ hR
theorem cw_I_109 {R : Room} {s : State} {args : Array Value} {x0 : Cond} (ht : ∀ w ∈ (x0 :: sr_T), w.before args s = true) (hR : 4 + 1 ≤ R.frames ∧ 8 + (3 + 11) + 94 ≤ R.locals) : CallW R s args R_I R_I 109 y_I_settle b_I_settle 3 none w_I_settle (sr_rm 4 94) 0 0 0 :=
  cwV 0 ht (sr_gV q_333 q_335 qs_I_settle q_8 q_336) rfl rfl rfl ⟨rfl, by decide, by decide, by decide +kernel⟩ hR
theorem cw_I_103 {R : Room} {s : State} {args : Array Value} {x0 : Cond} (ht : ∀ w ∈ (x0 :: sr_T), w.before args s = true) (hR : 4 + 1 ≤ R.frames ∧ 8 + (4 + 11) + 92 ≤ R.locals) : CallW R s args R_I R_I 103 y_I_begin b_I_begin 4 none w_I_begin (sr_rm 4 92) 0 0 1 :=
  cwV 1 ht (sr_gV q_640 q_642 qs_I_begin q_8 q_643) rfl rfl rfl ⟨rfl, by decide, by decide, by decide +kernel⟩ hR
theorem cw_I_97 {R : Room} {s : State} {args : Array Value} {x0 : Cond} (ht : ∀ w ∈ (x0 :: sr_T), w.before args s = true) (hR : 4 + 1 ≤ R.frames ∧ 8 + (5 + 11) + 89 ≤ R.locals) : CallW R s args R_I R_I 97 y_I_undoLatest b_I_undoLatest 5 none w_I_undoLatest (sr_rm 4 89) 0 0 1 :=
  cwV 1 ht (sr_gV q_618 q_620 qs_I_undoLatest q_8 q_621) rfl rfl rfl ⟨rfl, by decide, by decide, by decide +kernel⟩ hR
