def R_W : String := "ScopeRunnerLaw"
abbrev b_W_law : ByteArray := code
theorem q_13 : (.classLink R_W 7 R_S : Cond) ∈ sr_T := sr_q 13 (by decide +kernel) (by decide +kernel)
theorem q_14 : (.instantiable R_S 5 : Cond) ∈ sr_T := sr_q 14 (by decide +kernel) (by decide +kernel)
theorem q_15 : (.methodLink R_W 9 y_S_init : Cond) ∈ sr_T := sr_q 15 (by decide +kernel) (by decide +kernel)
theorem q_16 : (.instanceMethod y_S_init : Cond) ∈ sr_T := sr_q 16 (by decide +kernel) (by decide +kernel)
theorem q_17 : (.code y_S_init b_S_init 1 none : Cond) ∈ sr_T := sr_q 17 (by decide +kernel) (by decide +kernel)
theorem q_730 : (.classLink R_W 10 R_M : Cond) ∈ sr_T := sr_q 730 (by decide +kernel) (by decide +kernel)
theorem q_731 : (.instantiable R_M 37 : Cond) ∈ sr_T := sr_q 731 (by decide +kernel) (by decide +kernel)
theorem q_732 : (.methodLink R_W 12 y_M_init : Cond) ∈ sr_T := sr_q 732 (by decide +kernel) (by decide +kernel)
theorem q_733 : (.instanceMethod y_M_init : Cond) ∈ sr_T := sr_q 733 (by decide +kernel) (by decide +kernel)
theorem q_734 : (.code y_M_init b_M_init 1 none : Cond) ∈ sr_T := sr_q 734 (by decide +kernel) (by decide +kernel)
theorem q_142 : (.code y_S_add b_S_add 6 (some .int) : Cond) ∈ sr_T := sr_q 142 (by decide +kernel) (by decide +kernel)
theorem q_139 : (.methodLink R_W 13 y_S_add : Cond) ∈ sr_T := sr_q 139 (by decide +kernel) (by decide +kernel)
theorem q_140 : (.instanceMethod y_S_add : Cond) ∈ sr_T := sr_q 140 (by decide +kernel) (by decide +kernel)
theorem q_141 : (.selects R_S y_S_add y_S_add : Cond) ∈ sr_T := sr_q 141 (by decide +kernel) (by decide +kernel)
theorem q_851 : (.code y_M_add b_M_add 6 (some .int) : Cond) ∈ sr_T := sr_q 851 (by decide +kernel) (by decide +kernel)
theorem q_848 : (.methodLink R_W 17 y_M_add : Cond) ∈ sr_T := sr_q 848 (by decide +kernel) (by decide +kernel)
theorem q_849 : (.instanceMethod y_M_add : Cond) ∈ sr_T := sr_q 849 (by decide +kernel) (by decide +kernel)
theorem q_850 : (.selects R_M y_M_add y_M_add : Cond) ∈ sr_T := sr_q 850 (by decide +kernel) (by decide +kernel)
theorem q_175 : (.code y_S_join b_S_join 3 (some .boolean) : Cond) ∈ sr_T := sr_q 175 (by decide +kernel) (by decide +kernel)
theorem q_172 : (.methodLink R_W 18 y_S_join : Cond) ∈ sr_T := sr_q 172 (by decide +kernel) (by decide +kernel)
theorem q_173 : (.instanceMethod y_S_join : Cond) ∈ sr_T := sr_q 173 (by decide +kernel) (by decide +kernel)
theorem q_174 : (.selects R_S y_S_join y_S_join : Cond) ∈ sr_T := sr_q 174 (by decide +kernel) (by decide +kernel)
theorem q_870 : (.code y_M_join b_M_join 3 (some .boolean) : Cond) ∈ sr_T := sr_q 870 (by decide +kernel) (by decide +kernel)
theorem q_867 : (.methodLink R_W 22 y_M_join : Cond) ∈ sr_T := sr_q 867 (by decide +kernel) (by decide +kernel)
theorem q_868 : (.instanceMethod y_M_join : Cond) ∈ sr_T := sr_q 868 (by decide +kernel) (by decide +kernel)
theorem q_869 : (.selects R_M y_M_join y_M_join : Cond) ∈ sr_T := sr_q 869 (by decide +kernel) (by decide +kernel)
theorem q_180 : (.code y_S_link b_S_link 7 (some .int) : Cond) ∈ sr_T := sr_q 180 (by decide +kernel) (by decide +kernel)
theorem q_177 : (.methodLink R_W 23 y_S_link : Cond) ∈ sr_T := sr_q 177 (by decide +kernel) (by decide +kernel)
theorem q_178 : (.instanceMethod y_S_link : Cond) ∈ sr_T := sr_q 178 (by decide +kernel) (by decide +kernel)
theorem q_179 : (.selects R_S y_S_link y_S_link : Cond) ∈ sr_T := sr_q 179 (by decide +kernel) (by decide +kernel)
theorem q_874 : (.code y_M_link b_M_link 6 (some .int) : Cond) ∈ sr_T := sr_q 874 (by decide +kernel) (by decide +kernel)
theorem q_871 : (.methodLink R_W 27 y_M_link : Cond) ∈ sr_T := sr_q 871 (by decide +kernel) (by decide +kernel)
theorem q_872 : (.instanceMethod y_M_link : Cond) ∈ sr_T := sr_q 872 (by decide +kernel) (by decide +kernel)
theorem q_873 : (.selects R_M y_M_link y_M_link : Cond) ∈ sr_T := sr_q 873 (by decide +kernel) (by decide +kernel)
theorem q_193 : (.code y_S_deploy b_S_deploy 2 (some .int) : Cond) ∈ sr_T := sr_q 193 (by decide +kernel) (by decide +kernel)
theorem q_190 : (.methodLink R_W 28 y_S_deploy : Cond) ∈ sr_T := sr_q 190 (by decide +kernel) (by decide +kernel)
theorem q_191 : (.instanceMethod y_S_deploy : Cond) ∈ sr_T := sr_q 191 (by decide +kernel) (by decide +kernel)
theorem q_192 : (.selects R_S y_S_deploy y_S_deploy : Cond) ∈ sr_T := sr_q 192 (by decide +kernel) (by decide +kernel)
theorem q_878 : (.code y_M_deploy b_M_deploy 2 (some .int) : Cond) ∈ sr_T := sr_q 878 (by decide +kernel) (by decide +kernel)
theorem q_875 : (.methodLink R_W 32 y_M_deploy : Cond) ∈ sr_T := sr_q 875 (by decide +kernel) (by decide +kernel)
theorem q_876 : (.instanceMethod y_M_deploy : Cond) ∈ sr_T := sr_q 876 (by decide +kernel) (by decide +kernel)
theorem q_877 : (.selects R_M y_M_deploy y_M_deploy : Cond) ∈ sr_T := sr_q 877 (by decide +kernel) (by decide +kernel)
theorem q_307 : (.code y_S_message b_S_message 6 (some .int) : Cond) ∈ sr_T := sr_q 307 (by decide +kernel) (by decide +kernel)
theorem q_304 : (.methodLink R_W 33 y_S_message : Cond) ∈ sr_T := sr_q 304 (by decide +kernel) (by decide +kernel)
theorem q_305 : (.instanceMethod y_S_message : Cond) ∈ sr_T := sr_q 305 (by decide +kernel) (by decide +kernel)
theorem q_306 : (.selects R_S y_S_message y_S_message : Cond) ∈ sr_T := sr_q 306 (by decide +kernel) (by decide +kernel)
theorem q_934 : (.code y_M_message b_M_message 6 (some .int) : Cond) ∈ sr_T := sr_q 934 (by decide +kernel) (by decide +kernel)
theorem q_931 : (.methodLink R_W 37 y_M_message : Cond) ∈ sr_T := sr_q 931 (by decide +kernel) (by decide +kernel)
theorem q_932 : (.instanceMethod y_M_message : Cond) ∈ sr_T := sr_q 932 (by decide +kernel) (by decide +kernel)
theorem q_933 : (.selects R_M y_M_message y_M_message : Cond) ∈ sr_T := sr_q 933 (by decide +kernel) (by decide +kernel)
theorem q_579 : (.code y_S_run b_S_run 5 (some .int) : Cond) ∈ sr_T := sr_q 579 (by decide +kernel) (by decide +kernel)
theorem q_576 : (.methodLink R_W 38 y_S_run : Cond) ∈ sr_T := sr_q 576 (by decide +kernel) (by decide +kernel)
theorem q_577 : (.instanceMethod y_S_run : Cond) ∈ sr_T := sr_q 577 (by decide +kernel) (by decide +kernel)
theorem q_578 : (.selects R_S y_S_run y_S_run : Cond) ∈ sr_T := sr_q 578 (by decide +kernel) (by decide +kernel)
theorem q_1002 : (.code y_M_run b_M_run 5 (some .int) : Cond) ∈ sr_T := sr_q 1002 (by decide +kernel) (by decide +kernel)
theorem q_999 : (.methodLink R_W 42 y_M_run : Cond) ∈ sr_T := sr_q 999 (by decide +kernel) (by decide +kernel)
theorem q_1000 : (.instanceMethod y_M_run : Cond) ∈ sr_T := sr_q 1000 (by decide +kernel) (by decide +kernel)
theorem q_1001 : (.selects R_M y_M_run y_M_run : Cond) ∈ sr_T := sr_q 1001 (by decide +kernel) (by decide +kernel)
theorem q_671 : (.code y_S_answer b_S_answer 6 (some .boolean) : Cond) ∈ sr_T := sr_q 671 (by decide +kernel) (by decide +kernel)
theorem q_668 : (.methodLink R_W 43 y_S_answer : Cond) ∈ sr_T := sr_q 668 (by decide +kernel) (by decide +kernel)
theorem q_669 : (.instanceMethod y_S_answer : Cond) ∈ sr_T := sr_q 669 (by decide +kernel) (by decide +kernel)
theorem q_670 : (.selects R_S y_S_answer y_S_answer : Cond) ∈ sr_T := sr_q 670 (by decide +kernel) (by decide +kernel)
theorem q_1046 : (.code y_M_answer b_M_answer 5 (some .boolean) : Cond) ∈ sr_T := sr_q 1046 (by decide +kernel) (by decide +kernel)
theorem q_1043 : (.methodLink R_W 47 y_M_answer : Cond) ∈ sr_T := sr_q 1043 (by decide +kernel) (by decide +kernel)
theorem q_1044 : (.instanceMethod y_M_answer : Cond) ∈ sr_T := sr_q 1044 (by decide +kernel) (by decide +kernel)
theorem q_1045 : (.selects R_M y_M_answer y_M_answer : Cond) ∈ sr_T := sr_q 1045 (by decide +kernel) (by decide +kernel)
theorem q_679 : (.code y_S_terminate b_S_terminate 3 (some .boolean) : Cond) ∈ sr_T := sr_q 679 (by decide +kernel) (by decide +kernel)
theorem q_676 : (.methodLink R_W 48 y_S_terminate : Cond) ∈ sr_T := sr_q 676 (by decide +kernel) (by decide +kernel)
theorem q_677 : (.instanceMethod y_S_terminate : Cond) ∈ sr_T := sr_q 677 (by decide +kernel) (by decide +kernel)
theorem q_678 : (.selects R_S y_S_terminate y_S_terminate : Cond) ∈ sr_T := sr_q 678 (by decide +kernel) (by decide +kernel)
theorem q_1050 : (.code y_M_terminate b_M_terminate 3 (some .boolean) : Cond) ∈ sr_T := sr_q 1050 (by decide +kernel) (by decide +kernel)
theorem q_1047 : (.methodLink R_W 52 y_M_terminate : Cond) ∈ sr_T := sr_q 1047 (by decide +kernel) (by decide +kernel)
theorem q_1048 : (.instanceMethod y_M_terminate : Cond) ∈ sr_T := sr_q 1048 (by decide +kernel) (by decide +kernel)
theorem q_1049 : (.selects R_M y_M_terminate y_M_terminate : Cond) ∈ sr_T := sr_q 1049 (by decide +kernel) (by decide +kernel)
theorem q_687 : (.code y_S_state b_S_state 3 (some .int) : Cond) ∈ sr_T := sr_q 687 (by decide +kernel) (by decide +kernel)
theorem q_684 : (.methodLink R_W 53 y_S_state : Cond) ∈ sr_T := sr_q 684 (by decide +kernel) (by decide +kernel)
theorem q_685 : (.instanceMethod y_S_state : Cond) ∈ sr_T := sr_q 685 (by decide +kernel) (by decide +kernel)
theorem q_686 : (.selects R_S y_S_state y_S_state : Cond) ∈ sr_T := sr_q 686 (by decide +kernel) (by decide +kernel)
theorem q_1054 : (.code y_M_state b_M_state 2 (some .int) : Cond) ∈ sr_T := sr_q 1054 (by decide +kernel) (by decide +kernel)
theorem q_1051 : (.methodLink R_W 57 y_M_state : Cond) ∈ sr_T := sr_q 1051 (by decide +kernel) (by decide +kernel)
theorem q_1052 : (.instanceMethod y_M_state : Cond) ∈ sr_T := sr_q 1052 (by decide +kernel) (by decide +kernel)
theorem q_1053 : (.selects R_M y_M_state y_M_state : Cond) ∈ sr_T := sr_q 1053 (by decide +kernel) (by decide +kernel)
theorem q_691 : (.code y_S_status b_S_status 4 (some .int) : Cond) ∈ sr_T := sr_q 691 (by decide +kernel) (by decide +kernel)
theorem q_688 : (.methodLink R_W 58 y_S_status : Cond) ∈ sr_T := sr_q 688 (by decide +kernel) (by decide +kernel)
theorem q_689 : (.instanceMethod y_S_status : Cond) ∈ sr_T := sr_q 689 (by decide +kernel) (by decide +kernel)
theorem q_690 : (.selects R_S y_S_status y_S_status : Cond) ∈ sr_T := sr_q 690 (by decide +kernel) (by decide +kernel)
theorem q_1058 : (.code y_M_status b_M_status 3 (some .int) : Cond) ∈ sr_T := sr_q 1058 (by decide +kernel) (by decide +kernel)
theorem q_1055 : (.methodLink R_W 61 y_M_status : Cond) ∈ sr_T := sr_q 1055 (by decide +kernel) (by decide +kernel)
theorem q_1056 : (.instanceMethod y_M_status : Cond) ∈ sr_T := sr_q 1056 (by decide +kernel) (by decide +kernel)
theorem q_1057 : (.selects R_M y_M_status y_M_status : Cond) ∈ sr_T := sr_q 1057 (by decide +kernel) (by decide +kernel)
theorem q_695 : (.code y_S_variable b_S_variable 4 (some .int) : Cond) ∈ sr_T := sr_q 695 (by decide +kernel) (by decide +kernel)
theorem q_692 : (.methodLink R_W 62 y_S_variable : Cond) ∈ sr_T := sr_q 692 (by decide +kernel) (by decide +kernel)
theorem q_693 : (.instanceMethod y_S_variable : Cond) ∈ sr_T := sr_q 693 (by decide +kernel) (by decide +kernel)
theorem q_694 : (.selects R_S y_S_variable y_S_variable : Cond) ∈ sr_T := sr_q 694 (by decide +kernel) (by decide +kernel)
theorem q_1062 : (.code y_M_variable b_M_variable 3 (some .int) : Cond) ∈ sr_T := sr_q 1062 (by decide +kernel) (by decide +kernel)
theorem q_1059 : (.methodLink R_W 65 y_M_variable : Cond) ∈ sr_T := sr_q 1059 (by decide +kernel) (by decide +kernel)
theorem q_1060 : (.instanceMethod y_M_variable : Cond) ∈ sr_T := sr_q 1060 (by decide +kernel) (by decide +kernel)
theorem q_1061 : (.selects R_M y_M_variable y_M_variable : Cond) ∈ sr_T := sr_q 1061 (by decide +kernel) (by decide +kernel)
theorem q_699 : (.code y_S_own b_S_own 4 (some .int) : Cond) ∈ sr_T := sr_q 699 (by decide +kernel) (by decide +kernel)
theorem q_696 : (.methodLink R_W 66 y_S_own : Cond) ∈ sr_T := sr_q 696 (by decide +kernel) (by decide +kernel)
theorem q_697 : (.instanceMethod y_S_own : Cond) ∈ sr_T := sr_q 697 (by decide +kernel) (by decide +kernel)
theorem q_698 : (.selects R_S y_S_own y_S_own : Cond) ∈ sr_T := sr_q 698 (by decide +kernel) (by decide +kernel)
theorem q_1066 : (.code y_M_own b_M_own 3 (some .int) : Cond) ∈ sr_T := sr_q 1066 (by decide +kernel) (by decide +kernel)
theorem q_1063 : (.methodLink R_W 69 y_M_own : Cond) ∈ sr_T := sr_q 1063 (by decide +kernel) (by decide +kernel)
theorem q_1064 : (.instanceMethod y_M_own : Cond) ∈ sr_T := sr_q 1064 (by decide +kernel) (by decide +kernel)
theorem q_1065 : (.selects R_M y_M_own y_M_own : Cond) ∈ sr_T := sr_q 1065 (by decide +kernel) (by decide +kernel)
theorem q_704 : (.code y_S_linkState b_S_linkState 4 (some .int) : Cond) ∈ sr_T := sr_q 704 (by decide +kernel) (by decide +kernel)
theorem q_701 : (.methodLink R_W 70 y_S_linkState : Cond) ∈ sr_T := sr_q 701 (by decide +kernel) (by decide +kernel)
theorem q_702 : (.instanceMethod y_S_linkState : Cond) ∈ sr_T := sr_q 702 (by decide +kernel) (by decide +kernel)
theorem q_703 : (.selects R_S y_S_linkState y_S_linkState : Cond) ∈ sr_T := sr_q 703 (by decide +kernel) (by decide +kernel)
theorem q_1074 : (.code y_M_linkState b_M_linkState 3 (some .int) : Cond) ∈ sr_T := sr_q 1074 (by decide +kernel) (by decide +kernel)
theorem q_1071 : (.methodLink R_W 73 y_M_linkState : Cond) ∈ sr_T := sr_q 1071 (by decide +kernel) (by decide +kernel)
theorem q_1072 : (.instanceMethod y_M_linkState : Cond) ∈ sr_T := sr_q 1072 (by decide +kernel) (by decide +kernel)
theorem q_1073 : (.selects R_M y_M_linkState y_M_linkState : Cond) ∈ sr_T := sr_q 1073 (by decide +kernel) (by decide +kernel)
theorem q_708 : (.code y_S_kept b_S_kept 4 (some .int) : Cond) ∈ sr_T := sr_q 708 (by decide +kernel) (by decide +kernel)
theorem q_705 : (.methodLink R_W 74 y_S_kept : Cond) ∈ sr_T := sr_q 705 (by decide +kernel) (by decide +kernel)
theorem q_706 : (.instanceMethod y_S_kept : Cond) ∈ sr_T := sr_q 706 (by decide +kernel) (by decide +kernel)
theorem q_707 : (.selects R_S y_S_kept y_S_kept : Cond) ∈ sr_T := sr_q 707 (by decide +kernel) (by decide +kernel)
theorem q_1078 : (.code y_M_kept b_M_kept 5 (some .int) : Cond) ∈ sr_T := sr_q 1078 (by decide +kernel) (by decide +kernel)
theorem q_1075 : (.methodLink R_W 77 y_M_kept : Cond) ∈ sr_T := sr_q 1075 (by decide +kernel) (by decide +kernel)
theorem q_1076 : (.instanceMethod y_M_kept : Cond) ∈ sr_T := sr_q 1076 (by decide +kernel) (by decide +kernel)
theorem q_1077 : (.selects R_M y_M_kept y_M_kept : Cond) ∈ sr_T := sr_q 1077 (by decide +kernel) (by decide +kernel)
theorem q_716 : (.code y_S_events b_S_events 3 (some .int) : Cond) ∈ sr_T := sr_q 716 (by decide +kernel) (by decide +kernel)
theorem q_713 : (.methodLink R_W 78 y_S_events : Cond) ∈ sr_T := sr_q 713 (by decide +kernel) (by decide +kernel)
theorem q_714 : (.instanceMethod y_S_events : Cond) ∈ sr_T := sr_q 714 (by decide +kernel) (by decide +kernel)
theorem q_715 : (.selects R_S y_S_events y_S_events : Cond) ∈ sr_T := sr_q 715 (by decide +kernel) (by decide +kernel)
theorem q_1082 : (.code y_M_events b_M_events 2 (some .int) : Cond) ∈ sr_T := sr_q 1082 (by decide +kernel) (by decide +kernel)
theorem q_1079 : (.methodLink R_W 81 y_M_events : Cond) ∈ sr_T := sr_q 1079 (by decide +kernel) (by decide +kernel)
theorem q_1080 : (.instanceMethod y_M_events : Cond) ∈ sr_T := sr_q 1080 (by decide +kernel) (by decide +kernel)
theorem q_1081 : (.selects R_M y_M_events y_M_events : Cond) ∈ sr_T := sr_q 1081 (by decide +kernel) (by decide +kernel)
theorem q_720 : (.code y_S_event b_S_event 4 (some .int) : Cond) ∈ sr_T := sr_q 720 (by decide +kernel) (by decide +kernel)
theorem q_717 : (.methodLink R_W 82 y_S_event : Cond) ∈ sr_T := sr_q 717 (by decide +kernel) (by decide +kernel)
theorem q_718 : (.instanceMethod y_S_event : Cond) ∈ sr_T := sr_q 718 (by decide +kernel) (by decide +kernel)
theorem q_719 : (.selects R_S y_S_event y_S_event : Cond) ∈ sr_T := sr_q 719 (by decide +kernel) (by decide +kernel)
theorem q_1086 : (.code y_M_event b_M_event 3 (some .int) : Cond) ∈ sr_T := sr_q 1086 (by decide +kernel) (by decide +kernel)
theorem q_1083 : (.methodLink R_W 85 y_M_event : Cond) ∈ sr_T := sr_q 1083 (by decide +kernel) (by decide +kernel)
theorem q_1084 : (.instanceMethod y_M_event : Cond) ∈ sr_T := sr_q 1084 (by decide +kernel) (by decide +kernel)
theorem q_1085 : (.selects R_M y_M_event y_M_event : Cond) ∈ sr_T := sr_q 1085 (by decide +kernel) (by decide +kernel)
theorem q_728 : (.code y_S_next b_S_next 3 (some .int) : Cond) ∈ sr_T := sr_q 728 (by decide +kernel) (by decide +kernel)
theorem q_725 : (.methodLink R_W 86 y_S_next : Cond) ∈ sr_T := sr_q 725 (by decide +kernel) (by decide +kernel)
theorem q_726 : (.instanceMethod y_S_next : Cond) ∈ sr_T := sr_q 726 (by decide +kernel) (by decide +kernel)
theorem q_727 : (.selects R_S y_S_next y_S_next : Cond) ∈ sr_T := sr_q 727 (by decide +kernel) (by decide +kernel)
theorem q_1090 : (.code y_M_next b_M_next 2 (some .int) : Cond) ∈ sr_T := sr_q 1090 (by decide +kernel) (by decide +kernel)
theorem q_1087 : (.methodLink R_W 89 y_M_next : Cond) ∈ sr_T := sr_q 1087 (by decide +kernel) (by decide +kernel)
theorem q_1088 : (.instanceMethod y_M_next : Cond) ∈ sr_T := sr_q 1088 (by decide +kernel) (by decide +kernel)
theorem q_1089 : (.selects R_M y_M_next y_M_next : Cond) ∈ sr_T := sr_q 1089 (by decide +kernel) (by decide +kernel)
theorem cw_W_13 {R : Room} {s : State} {args : Array Value} {x0 : Cond} (ht : ∀ w ∈ (x0 :: sr_T), w.before args s = true) (hR : 3 + 1 ≤ R.frames ∧ 8 + (6 + 11) + 71 ≤ R.locals) : CallW R s args R_W R_S 13 y_S_add b_S_add 6 (some .int) w_S_add (sr_rm 3 71) 0 0 5 :=
  cwV 5 ht (sr_gV q_139 q_140 q_141 q_1 q_142) rfl rfl rfl ⟨rfl, by decide, by decide, by decide +kernel⟩ hR
theorem cw_W_17 {R : Room} {s : State} {args : Array Value} {x0 : Cond} (ht : ∀ w ∈ (x0 :: sr_T), w.before args s = true) (hR : 2 + 1 ≤ R.frames ∧ 8 + (6 + 11) + 46 ≤ R.locals) : CallW R s args R_W R_M 17 y_M_add b_M_add 6 (some .int) w_M_add (sr_rm 2 46) 0 0 5 :=
  cwV 5 ht (sr_gV q_848 q_849 q_850 q_4 q_851) rfl rfl rfl ⟨rfl, by decide, by decide, by decide +kernel⟩ hR
theorem cw_W_18 {R : Room} {s : State} {args : Array Value} {x0 : Cond} (ht : ∀ w ∈ (x0 :: sr_T), w.before args s = true) (hR : 1 + 1 ≤ R.frames ∧ 8 + (3 + 11) + 21 ≤ R.locals) : CallW R s args R_W R_S 18 y_S_join b_S_join 3 (some .boolean) w_S_join (sr_rm 1 21) 0 0 2 :=
  cwV 2 ht (sr_gV q_172 q_173 q_174 q_1 q_175) rfl rfl rfl ⟨rfl, by decide, by decide, by decide +kernel⟩ hR
theorem cw_W_22 {R : Room} {s : State} {args : Array Value} {x0 : Cond} (ht : ∀ w ∈ (x0 :: sr_T), w.before args s = true) (hR : 1 + 1 ≤ R.frames ∧ 8 + (3 + 11) + 22 ≤ R.locals) : CallW R s args R_W R_M 22 y_M_join b_M_join 3 (some .boolean) w_M_join (sr_rm 1 22) 0 0 2 :=
  cwV 2 ht (sr_gV q_867 q_868 q_869 q_4 q_870) rfl rfl rfl ⟨rfl, by decide, by decide, by decide +kernel⟩ hR
theorem cw_W_23 {R : Room} {s : State} {args : Array Value} {x0 : Cond} (ht : ∀ w ∈ (x0 :: sr_T), w.before args s = true) (hR : 1 + 1 ≤ R.frames ∧ 8 + (7 + 11) + 24 ≤ R.locals) : CallW R s args R_W R_S 23 y_S_link b_S_link 7 (some .int) w_S_link (sr_rm 1 24) 0 0 4 :=
  cwV 4 ht (sr_gV q_177 q_178 q_179 q_1 q_180) rfl rfl rfl ⟨rfl, by decide, by decide, by decide +kernel⟩ hR
theorem cw_W_27 {R : Room} {s : State} {args : Array Value} {x0 : Cond} (ht : ∀ w ∈ (x0 :: sr_T), w.before args s = true) (hR : 1 + 1 ≤ R.frames ∧ 8 + (6 + 11) + 22 ≤ R.locals) : CallW R s args R_W R_M 27 y_M_link b_M_link 6 (some .int) w_M_link (sr_rm 1 22) 0 0 4 :=
  cwV 4 ht (sr_gV q_871 q_872 q_873 q_4 q_874) rfl rfl rfl ⟨rfl, by decide, by decide, by decide +kernel⟩ hR
theorem cw_W_28 {R : Room} {s : State} {args : Array Value} {x0 : Cond} (ht : ∀ w ∈ (x0 :: sr_T), w.before args s = true) (hR : 6 + 1 ≤ R.frames ∧ 8 + (2 + 11) + 131 ≤ R.locals) : CallW R s args R_W R_S 28 y_S_deploy b_S_deploy 2 (some .int) w_S_deploy (sr_rm 6 131) 0 0 0 :=
  cwV 0 ht (sr_gV q_190 q_191 q_192 q_1 q_193) rfl rfl rfl ⟨rfl, by decide, by decide, by decide +kernel⟩ hR
theorem cw_W_32 {R : Room} {s : State} {args : Array Value} {x0 : Cond} (ht : ∀ w ∈ (x0 :: sr_T), w.before args s = true) (hR : 3 + 1 ≤ R.frames ∧ 8 + (2 + 11) + 69 ≤ R.locals) : CallW R s args R_W R_M 32 y_M_deploy b_M_deploy 2 (some .int) w_M_deploy (sr_rm 3 69) 0 0 0 :=
  cwV 0 ht (sr_gV q_875 q_876 q_877 q_4 q_878) rfl rfl rfl ⟨rfl, by decide, by decide, by decide +kernel⟩ hR
theorem cw_W_33 {R : Room} {s : State} {args : Array Value} {x0 : Cond} (ht : ∀ w ∈ (x0 :: sr_T), w.before args s = true) (hR : 6 + 1 ≤ R.frames ∧ 8 + (6 + 11) + 139 ≤ R.locals) : CallW R s args R_W R_S 33 y_S_message b_S_message 6 (some .int) w_S_message (sr_rm 6 139) 0 0 3 :=
  cwV 3 ht (sr_gV q_304 q_305 q_306 q_1 q_307) rfl rfl rfl ⟨rfl, by decide, by decide, by decide +kernel⟩ hR
theorem cw_W_37 {R : Room} {s : State} {args : Array Value} {x0 : Cond} (ht : ∀ w ∈ (x0 :: sr_T), w.before args s = true) (hR : 4 + 1 ≤ R.frames ∧ 8 + (6 + 11) + 95 ≤ R.locals) : CallW R s args R_W R_M 37 y_M_message b_M_message 6 (some .int) w_M_message (sr_rm 4 95) 0 0 3 :=
  cwV 3 ht (sr_gV q_931 q_932 q_933 q_4 q_934) rfl rfl rfl ⟨rfl, by decide, by decide, by decide +kernel⟩ hR
theorem cw_W_38 {R : Room} {s : State} {args : Array Value} {x0 : Cond} (ht : ∀ w ∈ (x0 :: sr_T), w.before args s = true) (hR : 6 + 1 ≤ R.frames ∧ 8 + (5 + 11) + 137 ≤ R.locals) : CallW R s args R_W R_S 38 y_S_run b_S_run 5 (some .int) w_S_run (sr_rm 6 137) 0 0 2 :=
  cwV 2 ht (sr_gV q_576 q_577 q_578 q_1 q_579) rfl rfl rfl ⟨rfl, by decide, by decide, by decide +kernel⟩ hR
theorem cw_W_42 {R : Room} {s : State} {args : Array Value} {x0 : Cond} (ht : ∀ w ∈ (x0 :: sr_T), w.before args s = true) (hR : 5 + 1 ≤ R.frames ∧ 8 + (5 + 11) + 119 ≤ R.locals) : CallW R s args R_W R_M 42 y_M_run b_M_run 5 (some .int) w_M_run (sr_rm 5 119) 0 0 2 :=
  cwV 2 ht (sr_gV q_999 q_1000 q_1001 q_4 q_1002) rfl rfl rfl ⟨rfl, by decide, by decide, by decide +kernel⟩ hR
theorem cw_W_43 {R : Room} {s : State} {args : Array Value} {x0 : Cond} (ht : ∀ w ∈ (x0 :: sr_T), w.before args s = true) (hR : 6 + 1 ≤ R.frames ∧ 8 + (6 + 11) + 139 ≤ R.locals) : CallW R s args R_W R_S 43 y_S_answer b_S_answer 6 (some .boolean) w_S_answer (sr_rm 6 139) 0 0 4 :=
  cwV 4 ht (sr_gV q_668 q_669 q_670 q_1 q_671) rfl rfl rfl ⟨rfl, by decide, by decide, by decide +kernel⟩ hR
theorem cw_W_47 {R : Room} {s : State} {args : Array Value} {x0 : Cond} (ht : ∀ w ∈ (x0 :: sr_T), w.before args s = true) (hR : 4 + 1 ≤ R.frames ∧ 8 + (5 + 11) + 95 ≤ R.locals) : CallW R s args R_W R_M 47 y_M_answer b_M_answer 5 (some .boolean) w_M_answer (sr_rm 4 95) 0 0 4 :=
  cwV 4 ht (sr_gV q_1043 q_1044 q_1045 q_4 q_1046) rfl rfl rfl ⟨rfl, by decide, by decide, by decide +kernel⟩ hR
theorem cw_W_48 {R : Room} {s : State} {args : Array Value} {x0 : Cond} (ht : ∀ w ∈ (x0 :: sr_T), w.before args s = true) (hR : 4 + 1 ≤ R.frames ∧ 8 + (3 + 11) + 88 ≤ R.locals) : CallW R s args R_W R_S 48 y_S_terminate b_S_terminate 3 (some .boolean) w_S_terminate (sr_rm 4 88) 0 0 1 :=
  cwV 1 ht (sr_gV q_676 q_677 q_678 q_1 q_679) rfl rfl rfl ⟨rfl, by decide, by decide, by decide +kernel⟩ hR
theorem cw_W_52 {R : Room} {s : State} {args : Array Value} {x0 : Cond} (ht : ∀ w ∈ (x0 :: sr_T), w.before args s = true) (hR : 2 + 1 ≤ R.frames ∧ 8 + (3 + 11) + 42 ≤ R.locals) : CallW R s args R_W R_M 52 y_M_terminate b_M_terminate 3 (some .boolean) w_M_terminate (sr_rm 2 42) 0 0 1 :=
  cwV 1 ht (sr_gV q_1047 q_1048 q_1049 q_4 q_1050) rfl rfl rfl ⟨rfl, by decide, by decide, by decide +kernel⟩ hR
theorem cw_W_53 {R : Room} {s : State} {args : Array Value} {x0 : Cond} (ht : ∀ w ∈ (x0 :: sr_T), w.before args s = true) (hR : 1 + 1 ≤ R.frames ∧ 8 + (3 + 11) + 21 ≤ R.locals) : CallW R s args R_W R_S 53 y_S_state b_S_state 3 (some .int) w_S_state (sr_rm 1 21) 0 0 1 :=
  cwV 1 ht (sr_gV q_684 q_685 q_686 q_1 q_687) rfl rfl rfl ⟨rfl, by decide, by decide, by decide +kernel⟩ hR
theorem cw_W_57 {R : Room} {s : State} {args : Array Value} {x0 : Cond} (ht : ∀ w ∈ (x0 :: sr_T), w.before args s = true) (hR : 1 + 1 ≤ R.frames ∧ 8 + (2 + 11) + 22 ≤ R.locals) : CallW R s args R_W R_M 57 y_M_state b_M_state 2 (some .int) w_M_state (sr_rm 1 22) 0 0 1 :=
  cwV 1 ht (sr_gV q_1051 q_1052 q_1053 q_4 q_1054) rfl rfl rfl ⟨rfl, by decide, by decide, by decide +kernel⟩ hR
theorem cw_W_58 {R : Room} {s : State} {args : Array Value} {x0 : Cond} (ht : ∀ w ∈ (x0 :: sr_T), w.before args s = true) (hR : 1 + 1 ≤ R.frames ∧ 8 + (4 + 11) + 21 ≤ R.locals) : CallW R s args R_W R_S 58 y_S_status b_S_status 4 (some .int) w_S_status (sr_rm 1 21) 0 0 2 :=
  cwV 2 ht (sr_gV q_688 q_689 q_690 q_1 q_691) rfl rfl rfl ⟨rfl, by decide, by decide, by decide +kernel⟩ hR
theorem cw_W_61 {R : Room} {s : State} {args : Array Value} {x0 : Cond} (ht : ∀ w ∈ (x0 :: sr_T), w.before args s = true) (hR : 1 + 1 ≤ R.frames ∧ 8 + (3 + 11) + 22 ≤ R.locals) : CallW R s args R_W R_M 61 y_M_status b_M_status 3 (some .int) w_M_status (sr_rm 1 22) 0 0 2 :=
  cwV 2 ht (sr_gV q_1055 q_1056 q_1057 q_4 q_1058) rfl rfl rfl ⟨rfl, by decide, by decide, by decide +kernel⟩ hR
theorem cw_W_62 {R : Room} {s : State} {args : Array Value} {x0 : Cond} (ht : ∀ w ∈ (x0 :: sr_T), w.before args s = true) (hR : 1 + 1 ≤ R.frames ∧ 8 + (4 + 11) + 21 ≤ R.locals) : CallW R s args R_W R_S 62 y_S_variable b_S_variable 4 (some .int) w_S_variable (sr_rm 1 21) 0 0 2 :=
  cwV 2 ht (sr_gV q_692 q_693 q_694 q_1 q_695) rfl rfl rfl ⟨rfl, by decide, by decide, by decide +kernel⟩ hR
theorem cw_W_65 {R : Room} {s : State} {args : Array Value} {x0 : Cond} (ht : ∀ w ∈ (x0 :: sr_T), w.before args s = true) (hR : 1 + 1 ≤ R.frames ∧ 8 + (3 + 11) + 22 ≤ R.locals) : CallW R s args R_W R_M 65 y_M_variable b_M_variable 3 (some .int) w_M_variable (sr_rm 1 22) 0 0 2 :=
  cwV 2 ht (sr_gV q_1059 q_1060 q_1061 q_4 q_1062) rfl rfl rfl ⟨rfl, by decide, by decide, by decide +kernel⟩ hR
theorem cw_W_66 {R : Room} {s : State} {args : Array Value} {x0 : Cond} (ht : ∀ w ∈ (x0 :: sr_T), w.before args s = true) (hR : 2 + 1 ≤ R.frames ∧ 8 + (4 + 11) + 42 ≤ R.locals) : CallW R s args R_W R_S 66 y_S_own b_S_own 4 (some .int) w_S_own (sr_rm 2 42) 0 0 2 :=
  cwV 2 ht (sr_gV q_696 q_697 q_698 q_1 q_699) rfl rfl rfl ⟨rfl, by decide, by decide, by decide +kernel⟩ hR
theorem cw_W_69 {R : Room} {s : State} {args : Array Value} {x0 : Cond} (ht : ∀ w ∈ (x0 :: sr_T), w.before args s = true) (hR : 2 + 1 ≤ R.frames ∧ 8 + (3 + 11) + 44 ≤ R.locals) : CallW R s args R_W R_M 69 y_M_own b_M_own 3 (some .int) w_M_own (sr_rm 2 44) 0 0 2 :=
  cwV 2 ht (sr_gV q_1063 q_1064 q_1065 q_4 q_1066) rfl rfl rfl ⟨rfl, by decide, by decide, by decide +kernel⟩ hR
theorem cw_W_70 {R : Room} {s : State} {args : Array Value} {x0 : Cond} (ht : ∀ w ∈ (x0 :: sr_T), w.before args s = true) (hR : 1 + 1 ≤ R.frames ∧ 8 + (4 + 11) + 21 ≤ R.locals) : CallW R s args R_W R_S 70 y_S_linkState b_S_linkState 4 (some .int) w_S_linkState (sr_rm 1 21) 0 0 2 :=
  cwV 2 ht (sr_gV q_701 q_702 q_703 q_1 q_704) rfl rfl rfl ⟨rfl, by decide, by decide, by decide +kernel⟩ hR
theorem cw_W_73 {R : Room} {s : State} {args : Array Value} {x0 : Cond} (ht : ∀ w ∈ (x0 :: sr_T), w.before args s = true) (hR : 1 + 1 ≤ R.frames ∧ 8 + (3 + 11) + 22 ≤ R.locals) : CallW R s args R_W R_M 73 y_M_linkState b_M_linkState 3 (some .int) w_M_linkState (sr_rm 1 22) 0 0 2 :=
  cwV 2 ht (sr_gV q_1071 q_1072 q_1073 q_4 q_1074) rfl rfl rfl ⟨rfl, by decide, by decide, by decide +kernel⟩ hR
theorem cw_W_74 {R : Room} {s : State} {args : Array Value} {x0 : Cond} (ht : ∀ w ∈ (x0 :: sr_T), w.before args s = true) (hR : 2 + 1 ≤ R.frames ∧ 8 + (4 + 11) + 42 ≤ R.locals) : CallW R s args R_W R_S 74 y_S_kept b_S_kept 4 (some .int) w_S_kept (sr_rm 2 42) 0 0 2 :=
  cwV 2 ht (sr_gV q_705 q_706 q_707 q_1 q_708) rfl rfl rfl ⟨rfl, by decide, by decide, by decide +kernel⟩ hR
theorem cw_W_77 {R : Room} {s : State} {args : Array Value} {x0 : Cond} (ht : ∀ w ∈ (x0 :: sr_T), w.before args s = true) (hR : 2 + 1 ≤ R.frames ∧ 8 + (5 + 11) + 44 ≤ R.locals) : CallW R s args R_W R_M 77 y_M_kept b_M_kept 5 (some .int) w_M_kept (sr_rm 2 44) 0 0 2 :=
  cwV 2 ht (sr_gV q_1075 q_1076 q_1077 q_4 q_1078) rfl rfl rfl ⟨rfl, by decide, by decide, by decide +kernel⟩ hR
theorem cw_W_78 {R : Room} {s : State} {args : Array Value} {x0 : Cond} (ht : ∀ w ∈ (x0 :: sr_T), w.before args s = true) (hR : 1 + 1 ≤ R.frames ∧ 8 + (3 + 11) + 21 ≤ R.locals) : CallW R s args R_W R_S 78 y_S_events b_S_events 3 (some .int) w_S_events (sr_rm 1 21) 0 0 1 :=
  cwV 1 ht (sr_gV q_713 q_714 q_715 q_1 q_716) rfl rfl rfl ⟨rfl, by decide, by decide, by decide +kernel⟩ hR
theorem cw_W_81 {R : Room} {s : State} {args : Array Value} {x0 : Cond} (ht : ∀ w ∈ (x0 :: sr_T), w.before args s = true) (hR : 1 + 1 ≤ R.frames ∧ 8 + (2 + 11) + 22 ≤ R.locals) : CallW R s args R_W R_M 81 y_M_events b_M_events 2 (some .int) w_M_events (sr_rm 1 22) 0 0 1 :=
  cwV 1 ht (sr_gV q_1079 q_1080 q_1081 q_4 q_1082) rfl rfl rfl ⟨rfl, by decide, by decide, by decide +kernel⟩ hR
theorem cw_W_82 {R : Room} {s : State} {args : Array Value} {x0 : Cond} (ht : ∀ w ∈ (x0 :: sr_T), w.before args s = true) (hR : 1 + 1 ≤ R.frames ∧ 8 + (4 + 11) + 21 ≤ R.locals) : CallW R s args R_W R_S 82 y_S_event b_S_event 4 (some .int) w_S_event (sr_rm 1 21) 0 0 2 :=
  cwV 2 ht (sr_gV q_717 q_718 q_719 q_1 q_720) rfl rfl rfl ⟨rfl, by decide, by decide, by decide +kernel⟩ hR
theorem cw_W_85 {R : Room} {s : State} {args : Array Value} {x0 : Cond} (ht : ∀ w ∈ (x0 :: sr_T), w.before args s = true) (hR : 1 + 1 ≤ R.frames ∧ 8 + (3 + 11) + 22 ≤ R.locals) : CallW R s args R_W R_M 85 y_M_event b_M_event 3 (some .int) w_M_event (sr_rm 1 22) 0 0 2 :=
  cwV 2 ht (sr_gV q_1083 q_1084 q_1085 q_4 q_1086) rfl rfl rfl ⟨rfl, by decide, by decide, by decide +kernel⟩ hR
theorem cw_W_86 {R : Room} {s : State} {args : Array Value} {x0 : Cond} (ht : ∀ w ∈ (x0 :: sr_T), w.before args s = true) (hR : 4 + 1 ≤ R.frames ∧ 8 + (3 + 11) + 87 ≤ R.locals) : CallW R s args R_W R_S 86 y_S_next b_S_next 3 (some .int) w_S_next (sr_rm 4 87) 0 0 1 :=
  cwV 1 ht (sr_gV q_725 q_726 q_727 q_1 q_728) rfl rfl rfl ⟨rfl, by decide, by decide, by decide +kernel⟩ hR
theorem cw_W_89 {R : Room} {s : State} {args : Array Value} {x0 : Cond} (ht : ∀ w ∈ (x0 :: sr_T), w.before args s = true) (hR : 3 + 1 ≤ R.frames ∧ 8 + (2 + 11) + 64 ≤ R.locals) : CallW R s args R_W R_M 89 y_M_next b_M_next 2 (some .int) w_M_next (sr_rm 3 64) 0 0 1 :=
  cwV 1 ht (sr_gV q_1087 q_1088 q_1089 q_4 q_1090) rfl rfl rfl ⟨rfl, by decide, by decide, by decide +kernel⟩ hR
theorem cwm_W_message {R : Room} {s : State} {args : Array Value} {x0 : Cond} (ht : ∀ w ∈ (x0 :: sr_T), w.before args s = true) (hR : 6 + 1 ≤ R.frames ∧ 8 + (6 + 11) + 139 ≤ R.locals) : CallW R s args R_W R_S 33 y_S_message b_S_message 6 (some .int) w_S_message ({ frames := 6, cells := 16, slots := 247, locals := 139 }) 16 247 3 :=
  cwV 3 ht (sr_gV q_304 q_305 q_306 q_1 q_307) rfl rfl rfl ⟨rfl, by decide, by decide, by decide +kernel⟩ hR
theorem d_W_law_0 : decode b_W_law 0 = .ok (.new 7, 3) := by decide +kernel
theorem d_W_law_3 : decode b_W_law 3 = .ok (.dup, 1) := by decide +kernel
theorem d_W_law_4 : decode b_W_law 4 = .ok (.invokespecial 9, 3) := by decide +kernel
theorem d_W_law_7 : decode b_W_law 7 = .ok (.astore_n 1, 1) := by decide +kernel
theorem d_W_law_8 : decode b_W_law 8 = .ok (.new 10, 3) := by decide +kernel
theorem d_W_law_11 : decode b_W_law 11 = .ok (.dup, 1) := by decide +kernel
theorem d_W_law_12 : decode b_W_law 12 = .ok (.invokespecial 12, 3) := by decide +kernel
theorem d_W_law_15 : decode b_W_law 15 = .ok (.astore_n 2, 1) := by decide +kernel
theorem d_W_law_16 : decode b_W_law 16 = .ok (.iconst 0, 1) := by decide +kernel
theorem d_W_law_17 : decode b_W_law 17 = .ok (.istore_n 3, 1) := by decide +kernel
theorem d_W_law_18 : decode b_W_law 18 = .ok (.iload_n 3, 1) := by decide +kernel
theorem d_W_law_19 : decode b_W_law 19 = .ok (.aload_n 0, 1) := by decide +kernel
theorem d_W_law_20 : decode b_W_law 20 = .ok (.arraylength, 1) := by decide +kernel
theorem d_W_law_21 : decode b_W_law 21 = .ok (.bipush 6, 2) := by decide +kernel
theorem d_W_law_23 : decode b_W_law 23 = .ok (.isub, 1) := by decide +kernel
theorem d_W_law_24 : decode b_W_law 24 = .ok (.if_icmp .gt 679, 3) := by decide +kernel
theorem d_W_law_27 : decode b_W_law 27 = .ok (.aload_n 0, 1) := by decide +kernel
theorem d_W_law_28 : decode b_W_law 28 = .ok (.iload_n 3, 1) := by decide +kernel
theorem d_W_law_29 : decode b_W_law 29 = .ok (.iaload, 1) := by decide +kernel
theorem d_W_law_30 : decode b_W_law 30 = .ok (.bipush 31, 2) := by decide +kernel
theorem d_W_law_32 : decode b_W_law 32 = .ok (.iand, 1) := by decide +kernel
theorem d_W_law_33 : decode b_W_law 33 = .ok (.tableswitch 664 0 16 #[83, 146, 179, 232, 245, 288, 321, 374, 397, 420, 453, 486, 519, 552, 585, 608, 641], 83) := by decide +kernel
theorem d_W_law_116 : decode b_W_law 116 = .ok (.aload_n 1, 1) := by decide +kernel
theorem d_W_law_117 : decode b_W_law 117 = .ok (.aload_n 0, 1) := by decide +kernel
theorem d_W_law_118 : decode b_W_law 118 = .ok (.iload_n 3, 1) := by decide +kernel
theorem d_W_law_119 : decode b_W_law 119 = .ok (.iconst 1, 1) := by decide +kernel
theorem d_W_law_120 : decode b_W_law 120 = .ok (.iadd, 1) := by decide +kernel
theorem d_W_law_121 : decode b_W_law 121 = .ok (.iaload, 1) := by decide +kernel
theorem d_W_law_122 : decode b_W_law 122 = .ok (.aload_n 0, 1) := by decide +kernel
theorem d_W_law_123 : decode b_W_law 123 = .ok (.iload_n 3, 1) := by decide +kernel
theorem d_W_law_124 : decode b_W_law 124 = .ok (.iconst 2, 1) := by decide +kernel
theorem d_W_law_125 : decode b_W_law 125 = .ok (.iadd, 1) := by decide +kernel
theorem d_W_law_126 : decode b_W_law 126 = .ok (.iaload, 1) := by decide +kernel
theorem d_W_law_127 : decode b_W_law 127 = .ok (.aload_n 0, 1) := by decide +kernel
theorem d_W_law_128 : decode b_W_law 128 = .ok (.iload_n 3, 1) := by decide +kernel
theorem d_W_law_129 : decode b_W_law 129 = .ok (.iconst 3, 1) := by decide +kernel
theorem d_W_law_130 : decode b_W_law 130 = .ok (.iadd, 1) := by decide +kernel
theorem d_W_law_131 : decode b_W_law 131 = .ok (.iaload, 1) := by decide +kernel
theorem d_W_law_132 : decode b_W_law 132 = .ok (.aload_n 0, 1) := by decide +kernel
theorem d_W_law_133 : decode b_W_law 133 = .ok (.iload_n 3, 1) := by decide +kernel
theorem d_W_law_134 : decode b_W_law 134 = .ok (.iconst 4, 1) := by decide +kernel
theorem d_W_law_135 : decode b_W_law 135 = .ok (.iadd, 1) := by decide +kernel
theorem d_W_law_136 : decode b_W_law 136 = .ok (.iaload, 1) := by decide +kernel
theorem d_W_law_137 : decode b_W_law 137 = .ok (.aload_n 0, 1) := by decide +kernel
theorem d_W_law_138 : decode b_W_law 138 = .ok (.iload_n 3, 1) := by decide +kernel
theorem d_W_law_139 : decode b_W_law 139 = .ok (.iconst 5, 1) := by decide +kernel
theorem d_W_law_140 : decode b_W_law 140 = .ok (.iadd, 1) := by decide +kernel
theorem d_W_law_141 : decode b_W_law 141 = .ok (.iaload, 1) := by decide +kernel
theorem d_W_law_142 : decode b_W_law 142 = .ok (.invokevirtual 13, 3) := by decide +kernel
theorem d_W_law_145 : decode b_W_law 145 = .ok (.aload_n 2, 1) := by decide +kernel
theorem d_W_law_146 : decode b_W_law 146 = .ok (.aload_n 0, 1) := by decide +kernel
theorem d_W_law_147 : decode b_W_law 147 = .ok (.iload_n 3, 1) := by decide +kernel
theorem d_W_law_148 : decode b_W_law 148 = .ok (.iconst 1, 1) := by decide +kernel
theorem d_W_law_149 : decode b_W_law 149 = .ok (.iadd, 1) := by decide +kernel
theorem d_W_law_150 : decode b_W_law 150 = .ok (.iaload, 1) := by decide +kernel
theorem d_W_law_151 : decode b_W_law 151 = .ok (.aload_n 0, 1) := by decide +kernel
theorem d_W_law_152 : decode b_W_law 152 = .ok (.iload_n 3, 1) := by decide +kernel
theorem d_W_law_153 : decode b_W_law 153 = .ok (.iconst 2, 1) := by decide +kernel
theorem d_W_law_154 : decode b_W_law 154 = .ok (.iadd, 1) := by decide +kernel
theorem d_W_law_155 : decode b_W_law 155 = .ok (.iaload, 1) := by decide +kernel
theorem d_W_law_156 : decode b_W_law 156 = .ok (.aload_n 0, 1) := by decide +kernel
theorem d_W_law_157 : decode b_W_law 157 = .ok (.iload_n 3, 1) := by decide +kernel
theorem d_W_law_158 : decode b_W_law 158 = .ok (.iconst 3, 1) := by decide +kernel
theorem d_W_law_159 : decode b_W_law 159 = .ok (.iadd, 1) := by decide +kernel
theorem d_W_law_160 : decode b_W_law 160 = .ok (.iaload, 1) := by decide +kernel
theorem d_W_law_161 : decode b_W_law 161 = .ok (.aload_n 0, 1) := by decide +kernel
theorem d_W_law_162 : decode b_W_law 162 = .ok (.iload_n 3, 1) := by decide +kernel
theorem d_W_law_163 : decode b_W_law 163 = .ok (.iconst 4, 1) := by decide +kernel
theorem d_W_law_164 : decode b_W_law 164 = .ok (.iadd, 1) := by decide +kernel
theorem d_W_law_165 : decode b_W_law 165 = .ok (.iaload, 1) := by decide +kernel
theorem d_W_law_166 : decode b_W_law 166 = .ok (.aload_n 0, 1) := by decide +kernel
theorem d_W_law_167 : decode b_W_law 167 = .ok (.iload_n 3, 1) := by decide +kernel
theorem d_W_law_168 : decode b_W_law 168 = .ok (.iconst 5, 1) := by decide +kernel
theorem d_W_law_169 : decode b_W_law 169 = .ok (.iadd, 1) := by decide +kernel
theorem d_W_law_170 : decode b_W_law 170 = .ok (.iaload, 1) := by decide +kernel
theorem d_W_law_171 : decode b_W_law 171 = .ok (.invokevirtual 17, 3) := by decide +kernel
theorem d_W_law_174 : decode b_W_law 174 = .ok (.if_icmp .eq 523, 3) := by decide +kernel
theorem d_W_law_177 : decode b_W_law 177 = .ok (.iconst 0, 1) := by decide +kernel
theorem d_W_law_178 : decode b_W_law 178 = .ok (.ireturn, 1) := by decide +kernel
theorem d_W_law_179 : decode b_W_law 179 = .ok (.aload_n 1, 1) := by decide +kernel
theorem d_W_law_180 : decode b_W_law 180 = .ok (.aload_n 0, 1) := by decide +kernel
theorem d_W_law_181 : decode b_W_law 181 = .ok (.iload_n 3, 1) := by decide +kernel
theorem d_W_law_182 : decode b_W_law 182 = .ok (.iconst 1, 1) := by decide +kernel
theorem d_W_law_183 : decode b_W_law 183 = .ok (.iadd, 1) := by decide +kernel
theorem d_W_law_184 : decode b_W_law 184 = .ok (.iaload, 1) := by decide +kernel
theorem d_W_law_185 : decode b_W_law 185 = .ok (.aload_n 0, 1) := by decide +kernel
theorem d_W_law_186 : decode b_W_law 186 = .ok (.iload_n 3, 1) := by decide +kernel
theorem d_W_law_187 : decode b_W_law 187 = .ok (.iconst 2, 1) := by decide +kernel
theorem d_W_law_188 : decode b_W_law 188 = .ok (.iadd, 1) := by decide +kernel
theorem d_W_law_189 : decode b_W_law 189 = .ok (.iaload, 1) := by decide +kernel
theorem d_W_law_190 : decode b_W_law 190 = .ok (.invokevirtual 18, 3) := by decide +kernel
theorem d_W_law_193 : decode b_W_law 193 = .ok (.aload_n 2, 1) := by decide +kernel
theorem d_W_law_194 : decode b_W_law 194 = .ok (.aload_n 0, 1) := by decide +kernel
theorem d_W_law_195 : decode b_W_law 195 = .ok (.iload_n 3, 1) := by decide +kernel
theorem d_W_law_196 : decode b_W_law 196 = .ok (.iconst 1, 1) := by decide +kernel
theorem d_W_law_197 : decode b_W_law 197 = .ok (.iadd, 1) := by decide +kernel
theorem d_W_law_198 : decode b_W_law 198 = .ok (.iaload, 1) := by decide +kernel
theorem d_W_law_199 : decode b_W_law 199 = .ok (.aload_n 0, 1) := by decide +kernel
theorem d_W_law_200 : decode b_W_law 200 = .ok (.iload_n 3, 1) := by decide +kernel
theorem d_W_law_201 : decode b_W_law 201 = .ok (.iconst 2, 1) := by decide +kernel
theorem d_W_law_202 : decode b_W_law 202 = .ok (.iadd, 1) := by decide +kernel
theorem d_W_law_203 : decode b_W_law 203 = .ok (.iaload, 1) := by decide +kernel
theorem d_W_law_204 : decode b_W_law 204 = .ok (.invokevirtual 22, 3) := by decide +kernel
theorem d_W_law_207 : decode b_W_law 207 = .ok (.if_icmp .eq 490, 3) := by decide +kernel
theorem d_W_law_210 : decode b_W_law 210 = .ok (.iconst 0, 1) := by decide +kernel
theorem d_W_law_211 : decode b_W_law 211 = .ok (.ireturn, 1) := by decide +kernel
theorem d_W_law_212 : decode b_W_law 212 = .ok (.aload_n 1, 1) := by decide +kernel
theorem d_W_law_213 : decode b_W_law 213 = .ok (.aload_n 0, 1) := by decide +kernel
theorem d_W_law_214 : decode b_W_law 214 = .ok (.iload_n 3, 1) := by decide +kernel
theorem d_W_law_215 : decode b_W_law 215 = .ok (.iconst 1, 1) := by decide +kernel
theorem d_W_law_216 : decode b_W_law 216 = .ok (.iadd, 1) := by decide +kernel
theorem d_W_law_217 : decode b_W_law 217 = .ok (.iaload, 1) := by decide +kernel
theorem d_W_law_218 : decode b_W_law 218 = .ok (.aload_n 0, 1) := by decide +kernel
theorem d_W_law_219 : decode b_W_law 219 = .ok (.iload_n 3, 1) := by decide +kernel
theorem d_W_law_220 : decode b_W_law 220 = .ok (.iconst 2, 1) := by decide +kernel
theorem d_W_law_221 : decode b_W_law 221 = .ok (.iadd, 1) := by decide +kernel
theorem d_W_law_222 : decode b_W_law 222 = .ok (.iaload, 1) := by decide +kernel
theorem d_W_law_223 : decode b_W_law 223 = .ok (.aload_n 0, 1) := by decide +kernel
theorem d_W_law_224 : decode b_W_law 224 = .ok (.iload_n 3, 1) := by decide +kernel
theorem d_W_law_225 : decode b_W_law 225 = .ok (.iconst 3, 1) := by decide +kernel
theorem d_W_law_226 : decode b_W_law 226 = .ok (.iadd, 1) := by decide +kernel
theorem d_W_law_227 : decode b_W_law 227 = .ok (.iaload, 1) := by decide +kernel
theorem d_W_law_228 : decode b_W_law 228 = .ok (.aload_n 0, 1) := by decide +kernel
theorem d_W_law_229 : decode b_W_law 229 = .ok (.iload_n 3, 1) := by decide +kernel
theorem d_W_law_230 : decode b_W_law 230 = .ok (.iconst 4, 1) := by decide +kernel
theorem d_W_law_231 : decode b_W_law 231 = .ok (.iadd, 1) := by decide +kernel
theorem d_W_law_232 : decode b_W_law 232 = .ok (.iaload, 1) := by decide +kernel
theorem d_W_law_233 : decode b_W_law 233 = .ok (.invokevirtual 23, 3) := by decide +kernel
theorem d_W_law_236 : decode b_W_law 236 = .ok (.aload_n 2, 1) := by decide +kernel
theorem d_W_law_237 : decode b_W_law 237 = .ok (.aload_n 0, 1) := by decide +kernel
theorem d_W_law_238 : decode b_W_law 238 = .ok (.iload_n 3, 1) := by decide +kernel
theorem d_W_law_239 : decode b_W_law 239 = .ok (.iconst 1, 1) := by decide +kernel
theorem d_W_law_240 : decode b_W_law 240 = .ok (.iadd, 1) := by decide +kernel
theorem d_W_law_241 : decode b_W_law 241 = .ok (.iaload, 1) := by decide +kernel
theorem d_W_law_242 : decode b_W_law 242 = .ok (.aload_n 0, 1) := by decide +kernel
theorem d_W_law_243 : decode b_W_law 243 = .ok (.iload_n 3, 1) := by decide +kernel
theorem d_W_law_244 : decode b_W_law 244 = .ok (.iconst 2, 1) := by decide +kernel
theorem d_W_law_245 : decode b_W_law 245 = .ok (.iadd, 1) := by decide +kernel
theorem d_W_law_246 : decode b_W_law 246 = .ok (.iaload, 1) := by decide +kernel
theorem d_W_law_247 : decode b_W_law 247 = .ok (.aload_n 0, 1) := by decide +kernel
theorem d_W_law_248 : decode b_W_law 248 = .ok (.iload_n 3, 1) := by decide +kernel
theorem d_W_law_249 : decode b_W_law 249 = .ok (.iconst 3, 1) := by decide +kernel
theorem d_W_law_250 : decode b_W_law 250 = .ok (.iadd, 1) := by decide +kernel
theorem d_W_law_251 : decode b_W_law 251 = .ok (.iaload, 1) := by decide +kernel
theorem d_W_law_252 : decode b_W_law 252 = .ok (.aload_n 0, 1) := by decide +kernel
theorem d_W_law_253 : decode b_W_law 253 = .ok (.iload_n 3, 1) := by decide +kernel
theorem d_W_law_254 : decode b_W_law 254 = .ok (.iconst 4, 1) := by decide +kernel
theorem d_W_law_255 : decode b_W_law 255 = .ok (.iadd, 1) := by decide +kernel
theorem d_W_law_256 : decode b_W_law 256 = .ok (.iaload, 1) := by decide +kernel
theorem d_W_law_257 : decode b_W_law 257 = .ok (.invokevirtual 27, 3) := by decide +kernel
theorem d_W_law_260 : decode b_W_law 260 = .ok (.if_icmp .eq 437, 3) := by decide +kernel
theorem d_W_law_263 : decode b_W_law 263 = .ok (.iconst 0, 1) := by decide +kernel
theorem d_W_law_264 : decode b_W_law 264 = .ok (.ireturn, 1) := by decide +kernel
theorem d_W_law_265 : decode b_W_law 265 = .ok (.aload_n 1, 1) := by decide +kernel
theorem d_W_law_266 : decode b_W_law 266 = .ok (.invokevirtual 28, 3) := by decide +kernel
theorem d_W_law_269 : decode b_W_law 269 = .ok (.aload_n 2, 1) := by decide +kernel
theorem d_W_law_270 : decode b_W_law 270 = .ok (.invokevirtual 32, 3) := by decide +kernel
theorem d_W_law_273 : decode b_W_law 273 = .ok (.if_icmp .eq 424, 3) := by decide +kernel
theorem d_W_law_276 : decode b_W_law 276 = .ok (.iconst 0, 1) := by decide +kernel
theorem d_W_law_277 : decode b_W_law 277 = .ok (.ireturn, 1) := by decide +kernel
theorem d_W_law_278 : decode b_W_law 278 = .ok (.aload_n 1, 1) := by decide +kernel
theorem d_W_law_279 : decode b_W_law 279 = .ok (.aload_n 0, 1) := by decide +kernel
theorem d_W_law_280 : decode b_W_law 280 = .ok (.iload_n 3, 1) := by decide +kernel
theorem d_W_law_281 : decode b_W_law 281 = .ok (.iconst 1, 1) := by decide +kernel
theorem d_W_law_282 : decode b_W_law 282 = .ok (.iadd, 1) := by decide +kernel
theorem d_W_law_283 : decode b_W_law 283 = .ok (.iaload, 1) := by decide +kernel
theorem d_W_law_284 : decode b_W_law 284 = .ok (.aload_n 0, 1) := by decide +kernel
theorem d_W_law_285 : decode b_W_law 285 = .ok (.iload_n 3, 1) := by decide +kernel
theorem d_W_law_286 : decode b_W_law 286 = .ok (.iconst 2, 1) := by decide +kernel
theorem d_W_law_287 : decode b_W_law 287 = .ok (.iadd, 1) := by decide +kernel
theorem d_W_law_288 : decode b_W_law 288 = .ok (.iaload, 1) := by decide +kernel
theorem d_W_law_289 : decode b_W_law 289 = .ok (.aload_n 0, 1) := by decide +kernel
theorem d_W_law_290 : decode b_W_law 290 = .ok (.iload_n 3, 1) := by decide +kernel
theorem d_W_law_291 : decode b_W_law 291 = .ok (.iconst 3, 1) := by decide +kernel
theorem d_W_law_292 : decode b_W_law 292 = .ok (.iadd, 1) := by decide +kernel
theorem d_W_law_293 : decode b_W_law 293 = .ok (.iaload, 1) := by decide +kernel
theorem d_W_law_294 : decode b_W_law 294 = .ok (.invokevirtual 33, 3) := by decide +kernel
theorem d_W_law_297 : decode b_W_law 297 = .ok (.aload_n 2, 1) := by decide +kernel
theorem d_W_law_298 : decode b_W_law 298 = .ok (.aload_n 0, 1) := by decide +kernel
theorem d_W_law_299 : decode b_W_law 299 = .ok (.iload_n 3, 1) := by decide +kernel
theorem d_W_law_300 : decode b_W_law 300 = .ok (.iconst 1, 1) := by decide +kernel
theorem d_W_law_301 : decode b_W_law 301 = .ok (.iadd, 1) := by decide +kernel
theorem d_W_law_302 : decode b_W_law 302 = .ok (.iaload, 1) := by decide +kernel
theorem d_W_law_303 : decode b_W_law 303 = .ok (.aload_n 0, 1) := by decide +kernel
theorem d_W_law_304 : decode b_W_law 304 = .ok (.iload_n 3, 1) := by decide +kernel
theorem d_W_law_305 : decode b_W_law 305 = .ok (.iconst 2, 1) := by decide +kernel
theorem d_W_law_306 : decode b_W_law 306 = .ok (.iadd, 1) := by decide +kernel
theorem d_W_law_307 : decode b_W_law 307 = .ok (.iaload, 1) := by decide +kernel
theorem d_W_law_308 : decode b_W_law 308 = .ok (.aload_n 0, 1) := by decide +kernel
theorem d_W_law_309 : decode b_W_law 309 = .ok (.iload_n 3, 1) := by decide +kernel
theorem d_W_law_310 : decode b_W_law 310 = .ok (.iconst 3, 1) := by decide +kernel
theorem d_W_law_311 : decode b_W_law 311 = .ok (.iadd, 1) := by decide +kernel
theorem d_W_law_312 : decode b_W_law 312 = .ok (.iaload, 1) := by decide +kernel
theorem d_W_law_313 : decode b_W_law 313 = .ok (.invokevirtual 37, 3) := by decide +kernel
theorem d_W_law_316 : decode b_W_law 316 = .ok (.if_icmp .eq 381, 3) := by decide +kernel
theorem d_W_law_319 : decode b_W_law 319 = .ok (.iconst 0, 1) := by decide +kernel
theorem d_W_law_320 : decode b_W_law 320 = .ok (.ireturn, 1) := by decide +kernel
theorem d_W_law_321 : decode b_W_law 321 = .ok (.aload_n 1, 1) := by decide +kernel
theorem d_W_law_322 : decode b_W_law 322 = .ok (.aload_n 0, 1) := by decide +kernel
theorem d_W_law_323 : decode b_W_law 323 = .ok (.iload_n 3, 1) := by decide +kernel
theorem d_W_law_324 : decode b_W_law 324 = .ok (.iconst 1, 1) := by decide +kernel
theorem d_W_law_325 : decode b_W_law 325 = .ok (.iadd, 1) := by decide +kernel
theorem d_W_law_326 : decode b_W_law 326 = .ok (.iaload, 1) := by decide +kernel
theorem d_W_law_327 : decode b_W_law 327 = .ok (.aload_n 0, 1) := by decide +kernel
theorem d_W_law_328 : decode b_W_law 328 = .ok (.iload_n 3, 1) := by decide +kernel
theorem d_W_law_329 : decode b_W_law 329 = .ok (.iconst 2, 1) := by decide +kernel
theorem d_W_law_330 : decode b_W_law 330 = .ok (.iadd, 1) := by decide +kernel
theorem d_W_law_331 : decode b_W_law 331 = .ok (.iaload, 1) := by decide +kernel
theorem d_W_law_332 : decode b_W_law 332 = .ok (.invokevirtual 38, 3) := by decide +kernel
theorem d_W_law_335 : decode b_W_law 335 = .ok (.aload_n 2, 1) := by decide +kernel
theorem d_W_law_336 : decode b_W_law 336 = .ok (.aload_n 0, 1) := by decide +kernel
theorem d_W_law_337 : decode b_W_law 337 = .ok (.iload_n 3, 1) := by decide +kernel
theorem d_W_law_338 : decode b_W_law 338 = .ok (.iconst 1, 1) := by decide +kernel
theorem d_W_law_339 : decode b_W_law 339 = .ok (.iadd, 1) := by decide +kernel
theorem d_W_law_340 : decode b_W_law 340 = .ok (.iaload, 1) := by decide +kernel
theorem d_W_law_341 : decode b_W_law 341 = .ok (.aload_n 0, 1) := by decide +kernel
theorem d_W_law_342 : decode b_W_law 342 = .ok (.iload_n 3, 1) := by decide +kernel
theorem d_W_law_343 : decode b_W_law 343 = .ok (.iconst 2, 1) := by decide +kernel
theorem d_W_law_344 : decode b_W_law 344 = .ok (.iadd, 1) := by decide +kernel
theorem d_W_law_345 : decode b_W_law 345 = .ok (.iaload, 1) := by decide +kernel
theorem d_W_law_346 : decode b_W_law 346 = .ok (.invokevirtual 42, 3) := by decide +kernel
theorem d_W_law_349 : decode b_W_law 349 = .ok (.if_icmp .eq 348, 3) := by decide +kernel
theorem d_W_law_352 : decode b_W_law 352 = .ok (.iconst 0, 1) := by decide +kernel
theorem d_W_law_353 : decode b_W_law 353 = .ok (.ireturn, 1) := by decide +kernel
theorem d_W_law_354 : decode b_W_law 354 = .ok (.aload_n 1, 1) := by decide +kernel
theorem d_W_law_355 : decode b_W_law 355 = .ok (.aload_n 0, 1) := by decide +kernel
theorem d_W_law_356 : decode b_W_law 356 = .ok (.iload_n 3, 1) := by decide +kernel
theorem d_W_law_357 : decode b_W_law 357 = .ok (.iconst 1, 1) := by decide +kernel
theorem d_W_law_358 : decode b_W_law 358 = .ok (.iadd, 1) := by decide +kernel
theorem d_W_law_359 : decode b_W_law 359 = .ok (.iaload, 1) := by decide +kernel
theorem d_W_law_360 : decode b_W_law 360 = .ok (.aload_n 0, 1) := by decide +kernel
theorem d_W_law_361 : decode b_W_law 361 = .ok (.iload_n 3, 1) := by decide +kernel
theorem d_W_law_362 : decode b_W_law 362 = .ok (.iconst 2, 1) := by decide +kernel
theorem d_W_law_363 : decode b_W_law 363 = .ok (.iadd, 1) := by decide +kernel
theorem d_W_law_364 : decode b_W_law 364 = .ok (.iaload, 1) := by decide +kernel
theorem d_W_law_365 : decode b_W_law 365 = .ok (.aload_n 0, 1) := by decide +kernel
theorem d_W_law_366 : decode b_W_law 366 = .ok (.iload_n 3, 1) := by decide +kernel
theorem d_W_law_367 : decode b_W_law 367 = .ok (.iconst 3, 1) := by decide +kernel
theorem d_W_law_368 : decode b_W_law 368 = .ok (.iadd, 1) := by decide +kernel
theorem d_W_law_369 : decode b_W_law 369 = .ok (.iaload, 1) := by decide +kernel
theorem d_W_law_370 : decode b_W_law 370 = .ok (.aload_n 0, 1) := by decide +kernel
theorem d_W_law_371 : decode b_W_law 371 = .ok (.iload_n 3, 1) := by decide +kernel
theorem d_W_law_372 : decode b_W_law 372 = .ok (.iconst 4, 1) := by decide +kernel
theorem d_W_law_373 : decode b_W_law 373 = .ok (.iadd, 1) := by decide +kernel
theorem d_W_law_374 : decode b_W_law 374 = .ok (.iaload, 1) := by decide +kernel
theorem d_W_law_375 : decode b_W_law 375 = .ok (.invokevirtual 43, 3) := by decide +kernel
theorem d_W_law_378 : decode b_W_law 378 = .ok (.aload_n 2, 1) := by decide +kernel
theorem d_W_law_379 : decode b_W_law 379 = .ok (.aload_n 0, 1) := by decide +kernel
theorem d_W_law_380 : decode b_W_law 380 = .ok (.iload_n 3, 1) := by decide +kernel
theorem d_W_law_381 : decode b_W_law 381 = .ok (.iconst 1, 1) := by decide +kernel
theorem d_W_law_382 : decode b_W_law 382 = .ok (.iadd, 1) := by decide +kernel
theorem d_W_law_383 : decode b_W_law 383 = .ok (.iaload, 1) := by decide +kernel
theorem d_W_law_384 : decode b_W_law 384 = .ok (.aload_n 0, 1) := by decide +kernel
theorem d_W_law_385 : decode b_W_law 385 = .ok (.iload_n 3, 1) := by decide +kernel
theorem d_W_law_386 : decode b_W_law 386 = .ok (.iconst 2, 1) := by decide +kernel
theorem d_W_law_387 : decode b_W_law 387 = .ok (.iadd, 1) := by decide +kernel
theorem d_W_law_388 : decode b_W_law 388 = .ok (.iaload, 1) := by decide +kernel
theorem d_W_law_389 : decode b_W_law 389 = .ok (.aload_n 0, 1) := by decide +kernel
theorem d_W_law_390 : decode b_W_law 390 = .ok (.iload_n 3, 1) := by decide +kernel
theorem d_W_law_391 : decode b_W_law 391 = .ok (.iconst 3, 1) := by decide +kernel
theorem d_W_law_392 : decode b_W_law 392 = .ok (.iadd, 1) := by decide +kernel
theorem d_W_law_393 : decode b_W_law 393 = .ok (.iaload, 1) := by decide +kernel
theorem d_W_law_394 : decode b_W_law 394 = .ok (.aload_n 0, 1) := by decide +kernel
theorem d_W_law_395 : decode b_W_law 395 = .ok (.iload_n 3, 1) := by decide +kernel
theorem d_W_law_396 : decode b_W_law 396 = .ok (.iconst 4, 1) := by decide +kernel
theorem d_W_law_397 : decode b_W_law 397 = .ok (.iadd, 1) := by decide +kernel
theorem d_W_law_398 : decode b_W_law 398 = .ok (.iaload, 1) := by decide +kernel
theorem d_W_law_399 : decode b_W_law 399 = .ok (.invokevirtual 47, 3) := by decide +kernel
theorem d_W_law_402 : decode b_W_law 402 = .ok (.if_icmp .eq 295, 3) := by decide +kernel
theorem d_W_law_405 : decode b_W_law 405 = .ok (.iconst 0, 1) := by decide +kernel
theorem d_W_law_406 : decode b_W_law 406 = .ok (.ireturn, 1) := by decide +kernel
theorem d_W_law_407 : decode b_W_law 407 = .ok (.aload_n 1, 1) := by decide +kernel
theorem d_W_law_408 : decode b_W_law 408 = .ok (.aload_n 0, 1) := by decide +kernel
theorem d_W_law_409 : decode b_W_law 409 = .ok (.iload_n 3, 1) := by decide +kernel
theorem d_W_law_410 : decode b_W_law 410 = .ok (.iconst 1, 1) := by decide +kernel
theorem d_W_law_411 : decode b_W_law 411 = .ok (.iadd, 1) := by decide +kernel
theorem d_W_law_412 : decode b_W_law 412 = .ok (.iaload, 1) := by decide +kernel
theorem d_W_law_413 : decode b_W_law 413 = .ok (.invokevirtual 48, 3) := by decide +kernel
theorem d_W_law_416 : decode b_W_law 416 = .ok (.aload_n 2, 1) := by decide +kernel
theorem d_W_law_417 : decode b_W_law 417 = .ok (.aload_n 0, 1) := by decide +kernel
theorem d_W_law_418 : decode b_W_law 418 = .ok (.iload_n 3, 1) := by decide +kernel
theorem d_W_law_419 : decode b_W_law 419 = .ok (.iconst 1, 1) := by decide +kernel
theorem d_W_law_420 : decode b_W_law 420 = .ok (.iadd, 1) := by decide +kernel
theorem d_W_law_421 : decode b_W_law 421 = .ok (.iaload, 1) := by decide +kernel
theorem d_W_law_422 : decode b_W_law 422 = .ok (.invokevirtual 52, 3) := by decide +kernel
theorem d_W_law_425 : decode b_W_law 425 = .ok (.if_icmp .eq 272, 3) := by decide +kernel
theorem d_W_law_428 : decode b_W_law 428 = .ok (.iconst 0, 1) := by decide +kernel
theorem d_W_law_429 : decode b_W_law 429 = .ok (.ireturn, 1) := by decide +kernel
theorem d_W_law_430 : decode b_W_law 430 = .ok (.aload_n 1, 1) := by decide +kernel
theorem d_W_law_431 : decode b_W_law 431 = .ok (.aload_n 0, 1) := by decide +kernel
theorem d_W_law_432 : decode b_W_law 432 = .ok (.iload_n 3, 1) := by decide +kernel
theorem d_W_law_433 : decode b_W_law 433 = .ok (.iconst 1, 1) := by decide +kernel
theorem d_W_law_434 : decode b_W_law 434 = .ok (.iadd, 1) := by decide +kernel
theorem d_W_law_435 : decode b_W_law 435 = .ok (.iaload, 1) := by decide +kernel
theorem d_W_law_436 : decode b_W_law 436 = .ok (.invokevirtual 53, 3) := by decide +kernel
theorem d_W_law_439 : decode b_W_law 439 = .ok (.aload_n 2, 1) := by decide +kernel
theorem d_W_law_440 : decode b_W_law 440 = .ok (.aload_n 0, 1) := by decide +kernel
theorem d_W_law_441 : decode b_W_law 441 = .ok (.iload_n 3, 1) := by decide +kernel
theorem d_W_law_442 : decode b_W_law 442 = .ok (.iconst 1, 1) := by decide +kernel
theorem d_W_law_443 : decode b_W_law 443 = .ok (.iadd, 1) := by decide +kernel
theorem d_W_law_444 : decode b_W_law 444 = .ok (.iaload, 1) := by decide +kernel
theorem d_W_law_445 : decode b_W_law 445 = .ok (.invokevirtual 57, 3) := by decide +kernel
theorem d_W_law_448 : decode b_W_law 448 = .ok (.if_icmp .eq 249, 3) := by decide +kernel
theorem d_W_law_451 : decode b_W_law 451 = .ok (.iconst 0, 1) := by decide +kernel
theorem d_W_law_452 : decode b_W_law 452 = .ok (.ireturn, 1) := by decide +kernel
theorem d_W_law_453 : decode b_W_law 453 = .ok (.aload_n 1, 1) := by decide +kernel
theorem d_W_law_454 : decode b_W_law 454 = .ok (.aload_n 0, 1) := by decide +kernel
theorem d_W_law_455 : decode b_W_law 455 = .ok (.iload_n 3, 1) := by decide +kernel
theorem d_W_law_456 : decode b_W_law 456 = .ok (.iconst 1, 1) := by decide +kernel
theorem d_W_law_457 : decode b_W_law 457 = .ok (.iadd, 1) := by decide +kernel
theorem d_W_law_458 : decode b_W_law 458 = .ok (.iaload, 1) := by decide +kernel
theorem d_W_law_459 : decode b_W_law 459 = .ok (.aload_n 0, 1) := by decide +kernel
theorem d_W_law_460 : decode b_W_law 460 = .ok (.iload_n 3, 1) := by decide +kernel
theorem d_W_law_461 : decode b_W_law 461 = .ok (.iconst 2, 1) := by decide +kernel
theorem d_W_law_462 : decode b_W_law 462 = .ok (.iadd, 1) := by decide +kernel
theorem d_W_law_463 : decode b_W_law 463 = .ok (.iaload, 1) := by decide +kernel
theorem d_W_law_464 : decode b_W_law 464 = .ok (.invokevirtual 58, 3) := by decide +kernel
theorem d_W_law_467 : decode b_W_law 467 = .ok (.aload_n 2, 1) := by decide +kernel
theorem d_W_law_468 : decode b_W_law 468 = .ok (.aload_n 0, 1) := by decide +kernel
theorem d_W_law_469 : decode b_W_law 469 = .ok (.iload_n 3, 1) := by decide +kernel
theorem d_W_law_470 : decode b_W_law 470 = .ok (.iconst 1, 1) := by decide +kernel
theorem d_W_law_471 : decode b_W_law 471 = .ok (.iadd, 1) := by decide +kernel
theorem d_W_law_472 : decode b_W_law 472 = .ok (.iaload, 1) := by decide +kernel
theorem d_W_law_473 : decode b_W_law 473 = .ok (.aload_n 0, 1) := by decide +kernel
theorem d_W_law_474 : decode b_W_law 474 = .ok (.iload_n 3, 1) := by decide +kernel
theorem d_W_law_475 : decode b_W_law 475 = .ok (.iconst 2, 1) := by decide +kernel
theorem d_W_law_476 : decode b_W_law 476 = .ok (.iadd, 1) := by decide +kernel
theorem d_W_law_477 : decode b_W_law 477 = .ok (.iaload, 1) := by decide +kernel
theorem d_W_law_478 : decode b_W_law 478 = .ok (.invokevirtual 61, 3) := by decide +kernel
theorem d_W_law_481 : decode b_W_law 481 = .ok (.if_icmp .eq 216, 3) := by decide +kernel
theorem d_W_law_484 : decode b_W_law 484 = .ok (.iconst 0, 1) := by decide +kernel
theorem d_W_law_485 : decode b_W_law 485 = .ok (.ireturn, 1) := by decide +kernel
theorem d_W_law_486 : decode b_W_law 486 = .ok (.aload_n 1, 1) := by decide +kernel
theorem d_W_law_487 : decode b_W_law 487 = .ok (.aload_n 0, 1) := by decide +kernel
theorem d_W_law_488 : decode b_W_law 488 = .ok (.iload_n 3, 1) := by decide +kernel
theorem d_W_law_489 : decode b_W_law 489 = .ok (.iconst 1, 1) := by decide +kernel
theorem d_W_law_490 : decode b_W_law 490 = .ok (.iadd, 1) := by decide +kernel
theorem d_W_law_491 : decode b_W_law 491 = .ok (.iaload, 1) := by decide +kernel
theorem d_W_law_492 : decode b_W_law 492 = .ok (.aload_n 0, 1) := by decide +kernel
theorem d_W_law_493 : decode b_W_law 493 = .ok (.iload_n 3, 1) := by decide +kernel
theorem d_W_law_494 : decode b_W_law 494 = .ok (.iconst 2, 1) := by decide +kernel
theorem d_W_law_495 : decode b_W_law 495 = .ok (.iadd, 1) := by decide +kernel
theorem d_W_law_496 : decode b_W_law 496 = .ok (.iaload, 1) := by decide +kernel
theorem d_W_law_497 : decode b_W_law 497 = .ok (.invokevirtual 62, 3) := by decide +kernel
theorem d_W_law_500 : decode b_W_law 500 = .ok (.aload_n 2, 1) := by decide +kernel
theorem d_W_law_501 : decode b_W_law 501 = .ok (.aload_n 0, 1) := by decide +kernel
theorem d_W_law_502 : decode b_W_law 502 = .ok (.iload_n 3, 1) := by decide +kernel
theorem d_W_law_503 : decode b_W_law 503 = .ok (.iconst 1, 1) := by decide +kernel
theorem d_W_law_504 : decode b_W_law 504 = .ok (.iadd, 1) := by decide +kernel
theorem d_W_law_505 : decode b_W_law 505 = .ok (.iaload, 1) := by decide +kernel
theorem d_W_law_506 : decode b_W_law 506 = .ok (.aload_n 0, 1) := by decide +kernel
theorem d_W_law_507 : decode b_W_law 507 = .ok (.iload_n 3, 1) := by decide +kernel
theorem d_W_law_508 : decode b_W_law 508 = .ok (.iconst 2, 1) := by decide +kernel
theorem d_W_law_509 : decode b_W_law 509 = .ok (.iadd, 1) := by decide +kernel
theorem d_W_law_510 : decode b_W_law 510 = .ok (.iaload, 1) := by decide +kernel
theorem d_W_law_511 : decode b_W_law 511 = .ok (.invokevirtual 65, 3) := by decide +kernel
theorem d_W_law_514 : decode b_W_law 514 = .ok (.if_icmp .eq 183, 3) := by decide +kernel
theorem d_W_law_517 : decode b_W_law 517 = .ok (.iconst 0, 1) := by decide +kernel
theorem d_W_law_518 : decode b_W_law 518 = .ok (.ireturn, 1) := by decide +kernel
theorem d_W_law_519 : decode b_W_law 519 = .ok (.aload_n 1, 1) := by decide +kernel
theorem d_W_law_520 : decode b_W_law 520 = .ok (.aload_n 0, 1) := by decide +kernel
theorem d_W_law_521 : decode b_W_law 521 = .ok (.iload_n 3, 1) := by decide +kernel
theorem d_W_law_522 : decode b_W_law 522 = .ok (.iconst 1, 1) := by decide +kernel
theorem d_W_law_523 : decode b_W_law 523 = .ok (.iadd, 1) := by decide +kernel
theorem d_W_law_524 : decode b_W_law 524 = .ok (.iaload, 1) := by decide +kernel
theorem d_W_law_525 : decode b_W_law 525 = .ok (.aload_n 0, 1) := by decide +kernel
theorem d_W_law_526 : decode b_W_law 526 = .ok (.iload_n 3, 1) := by decide +kernel
theorem d_W_law_527 : decode b_W_law 527 = .ok (.iconst 2, 1) := by decide +kernel
theorem d_W_law_528 : decode b_W_law 528 = .ok (.iadd, 1) := by decide +kernel
theorem d_W_law_529 : decode b_W_law 529 = .ok (.iaload, 1) := by decide +kernel
theorem d_W_law_530 : decode b_W_law 530 = .ok (.invokevirtual 66, 3) := by decide +kernel
theorem d_W_law_533 : decode b_W_law 533 = .ok (.aload_n 2, 1) := by decide +kernel
theorem d_W_law_534 : decode b_W_law 534 = .ok (.aload_n 0, 1) := by decide +kernel
theorem d_W_law_535 : decode b_W_law 535 = .ok (.iload_n 3, 1) := by decide +kernel
theorem d_W_law_536 : decode b_W_law 536 = .ok (.iconst 1, 1) := by decide +kernel
theorem d_W_law_537 : decode b_W_law 537 = .ok (.iadd, 1) := by decide +kernel
theorem d_W_law_538 : decode b_W_law 538 = .ok (.iaload, 1) := by decide +kernel
theorem d_W_law_539 : decode b_W_law 539 = .ok (.aload_n 0, 1) := by decide +kernel
theorem d_W_law_540 : decode b_W_law 540 = .ok (.iload_n 3, 1) := by decide +kernel
theorem d_W_law_541 : decode b_W_law 541 = .ok (.iconst 2, 1) := by decide +kernel
theorem d_W_law_542 : decode b_W_law 542 = .ok (.iadd, 1) := by decide +kernel
theorem d_W_law_543 : decode b_W_law 543 = .ok (.iaload, 1) := by decide +kernel
theorem d_W_law_544 : decode b_W_law 544 = .ok (.invokevirtual 69, 3) := by decide +kernel
theorem d_W_law_547 : decode b_W_law 547 = .ok (.if_icmp .eq 150, 3) := by decide +kernel
theorem d_W_law_550 : decode b_W_law 550 = .ok (.iconst 0, 1) := by decide +kernel
theorem d_W_law_551 : decode b_W_law 551 = .ok (.ireturn, 1) := by decide +kernel
theorem d_W_law_552 : decode b_W_law 552 = .ok (.aload_n 1, 1) := by decide +kernel
theorem d_W_law_553 : decode b_W_law 553 = .ok (.aload_n 0, 1) := by decide +kernel
theorem d_W_law_554 : decode b_W_law 554 = .ok (.iload_n 3, 1) := by decide +kernel
theorem d_W_law_555 : decode b_W_law 555 = .ok (.iconst 1, 1) := by decide +kernel
theorem d_W_law_556 : decode b_W_law 556 = .ok (.iadd, 1) := by decide +kernel
theorem d_W_law_557 : decode b_W_law 557 = .ok (.iaload, 1) := by decide +kernel
theorem d_W_law_558 : decode b_W_law 558 = .ok (.aload_n 0, 1) := by decide +kernel
theorem d_W_law_559 : decode b_W_law 559 = .ok (.iload_n 3, 1) := by decide +kernel
theorem d_W_law_560 : decode b_W_law 560 = .ok (.iconst 2, 1) := by decide +kernel
theorem d_W_law_561 : decode b_W_law 561 = .ok (.iadd, 1) := by decide +kernel
theorem d_W_law_562 : decode b_W_law 562 = .ok (.iaload, 1) := by decide +kernel
theorem d_W_law_563 : decode b_W_law 563 = .ok (.invokevirtual 70, 3) := by decide +kernel
theorem d_W_law_566 : decode b_W_law 566 = .ok (.aload_n 2, 1) := by decide +kernel
theorem d_W_law_567 : decode b_W_law 567 = .ok (.aload_n 0, 1) := by decide +kernel
theorem d_W_law_568 : decode b_W_law 568 = .ok (.iload_n 3, 1) := by decide +kernel
theorem d_W_law_569 : decode b_W_law 569 = .ok (.iconst 1, 1) := by decide +kernel
theorem d_W_law_570 : decode b_W_law 570 = .ok (.iadd, 1) := by decide +kernel
theorem d_W_law_571 : decode b_W_law 571 = .ok (.iaload, 1) := by decide +kernel
theorem d_W_law_572 : decode b_W_law 572 = .ok (.aload_n 0, 1) := by decide +kernel
theorem d_W_law_573 : decode b_W_law 573 = .ok (.iload_n 3, 1) := by decide +kernel
theorem d_W_law_574 : decode b_W_law 574 = .ok (.iconst 2, 1) := by decide +kernel
theorem d_W_law_575 : decode b_W_law 575 = .ok (.iadd, 1) := by decide +kernel
theorem d_W_law_576 : decode b_W_law 576 = .ok (.iaload, 1) := by decide +kernel
theorem d_W_law_577 : decode b_W_law 577 = .ok (.invokevirtual 73, 3) := by decide +kernel
theorem d_W_law_580 : decode b_W_law 580 = .ok (.if_icmp .eq 117, 3) := by decide +kernel
theorem d_W_law_583 : decode b_W_law 583 = .ok (.iconst 0, 1) := by decide +kernel
theorem d_W_law_584 : decode b_W_law 584 = .ok (.ireturn, 1) := by decide +kernel
theorem d_W_law_585 : decode b_W_law 585 = .ok (.aload_n 1, 1) := by decide +kernel
theorem d_W_law_586 : decode b_W_law 586 = .ok (.aload_n 0, 1) := by decide +kernel
theorem d_W_law_587 : decode b_W_law 587 = .ok (.iload_n 3, 1) := by decide +kernel
theorem d_W_law_588 : decode b_W_law 588 = .ok (.iconst 1, 1) := by decide +kernel
theorem d_W_law_589 : decode b_W_law 589 = .ok (.iadd, 1) := by decide +kernel
theorem d_W_law_590 : decode b_W_law 590 = .ok (.iaload, 1) := by decide +kernel
theorem d_W_law_591 : decode b_W_law 591 = .ok (.aload_n 0, 1) := by decide +kernel
theorem d_W_law_592 : decode b_W_law 592 = .ok (.iload_n 3, 1) := by decide +kernel
theorem d_W_law_593 : decode b_W_law 593 = .ok (.iconst 2, 1) := by decide +kernel
theorem d_W_law_594 : decode b_W_law 594 = .ok (.iadd, 1) := by decide +kernel
theorem d_W_law_595 : decode b_W_law 595 = .ok (.iaload, 1) := by decide +kernel
theorem d_W_law_596 : decode b_W_law 596 = .ok (.invokevirtual 74, 3) := by decide +kernel
theorem d_W_law_599 : decode b_W_law 599 = .ok (.aload_n 2, 1) := by decide +kernel
theorem d_W_law_600 : decode b_W_law 600 = .ok (.aload_n 0, 1) := by decide +kernel
theorem d_W_law_601 : decode b_W_law 601 = .ok (.iload_n 3, 1) := by decide +kernel
theorem d_W_law_602 : decode b_W_law 602 = .ok (.iconst 1, 1) := by decide +kernel
theorem d_W_law_603 : decode b_W_law 603 = .ok (.iadd, 1) := by decide +kernel
theorem d_W_law_604 : decode b_W_law 604 = .ok (.iaload, 1) := by decide +kernel
theorem d_W_law_605 : decode b_W_law 605 = .ok (.aload_n 0, 1) := by decide +kernel
theorem d_W_law_606 : decode b_W_law 606 = .ok (.iload_n 3, 1) := by decide +kernel
theorem d_W_law_607 : decode b_W_law 607 = .ok (.iconst 2, 1) := by decide +kernel
theorem d_W_law_608 : decode b_W_law 608 = .ok (.iadd, 1) := by decide +kernel
theorem d_W_law_609 : decode b_W_law 609 = .ok (.iaload, 1) := by decide +kernel
theorem d_W_law_610 : decode b_W_law 610 = .ok (.invokevirtual 77, 3) := by decide +kernel
theorem d_W_law_613 : decode b_W_law 613 = .ok (.if_icmp .eq 84, 3) := by decide +kernel
theorem d_W_law_616 : decode b_W_law 616 = .ok (.iconst 0, 1) := by decide +kernel
theorem d_W_law_617 : decode b_W_law 617 = .ok (.ireturn, 1) := by decide +kernel
theorem d_W_law_618 : decode b_W_law 618 = .ok (.aload_n 1, 1) := by decide +kernel
theorem d_W_law_619 : decode b_W_law 619 = .ok (.aload_n 0, 1) := by decide +kernel
theorem d_W_law_620 : decode b_W_law 620 = .ok (.iload_n 3, 1) := by decide +kernel
theorem d_W_law_621 : decode b_W_law 621 = .ok (.iconst 1, 1) := by decide +kernel
theorem d_W_law_622 : decode b_W_law 622 = .ok (.iadd, 1) := by decide +kernel
theorem d_W_law_623 : decode b_W_law 623 = .ok (.iaload, 1) := by decide +kernel
theorem d_W_law_624 : decode b_W_law 624 = .ok (.invokevirtual 78, 3) := by decide +kernel
theorem d_W_law_627 : decode b_W_law 627 = .ok (.aload_n 2, 1) := by decide +kernel
theorem d_W_law_628 : decode b_W_law 628 = .ok (.aload_n 0, 1) := by decide +kernel
theorem d_W_law_629 : decode b_W_law 629 = .ok (.iload_n 3, 1) := by decide +kernel
theorem d_W_law_630 : decode b_W_law 630 = .ok (.iconst 1, 1) := by decide +kernel
theorem d_W_law_631 : decode b_W_law 631 = .ok (.iadd, 1) := by decide +kernel
theorem d_W_law_632 : decode b_W_law 632 = .ok (.iaload, 1) := by decide +kernel
theorem d_W_law_633 : decode b_W_law 633 = .ok (.invokevirtual 81, 3) := by decide +kernel
theorem d_W_law_636 : decode b_W_law 636 = .ok (.if_icmp .eq 61, 3) := by decide +kernel
theorem d_W_law_639 : decode b_W_law 639 = .ok (.iconst 0, 1) := by decide +kernel
theorem d_W_law_640 : decode b_W_law 640 = .ok (.ireturn, 1) := by decide +kernel
theorem d_W_law_641 : decode b_W_law 641 = .ok (.aload_n 1, 1) := by decide +kernel
theorem d_W_law_642 : decode b_W_law 642 = .ok (.aload_n 0, 1) := by decide +kernel
theorem d_W_law_643 : decode b_W_law 643 = .ok (.iload_n 3, 1) := by decide +kernel
theorem d_W_law_644 : decode b_W_law 644 = .ok (.iconst 1, 1) := by decide +kernel
theorem d_W_law_645 : decode b_W_law 645 = .ok (.iadd, 1) := by decide +kernel
theorem d_W_law_646 : decode b_W_law 646 = .ok (.iaload, 1) := by decide +kernel
theorem d_W_law_647 : decode b_W_law 647 = .ok (.aload_n 0, 1) := by decide +kernel
theorem d_W_law_648 : decode b_W_law 648 = .ok (.iload_n 3, 1) := by decide +kernel
theorem d_W_law_649 : decode b_W_law 649 = .ok (.iconst 2, 1) := by decide +kernel
theorem d_W_law_650 : decode b_W_law 650 = .ok (.iadd, 1) := by decide +kernel
theorem d_W_law_651 : decode b_W_law 651 = .ok (.iaload, 1) := by decide +kernel
theorem d_W_law_652 : decode b_W_law 652 = .ok (.invokevirtual 82, 3) := by decide +kernel
theorem d_W_law_655 : decode b_W_law 655 = .ok (.aload_n 2, 1) := by decide +kernel
theorem d_W_law_656 : decode b_W_law 656 = .ok (.aload_n 0, 1) := by decide +kernel
theorem d_W_law_657 : decode b_W_law 657 = .ok (.iload_n 3, 1) := by decide +kernel
theorem d_W_law_658 : decode b_W_law 658 = .ok (.iconst 1, 1) := by decide +kernel
theorem d_W_law_659 : decode b_W_law 659 = .ok (.iadd, 1) := by decide +kernel
theorem d_W_law_660 : decode b_W_law 660 = .ok (.iaload, 1) := by decide +kernel
theorem d_W_law_661 : decode b_W_law 661 = .ok (.aload_n 0, 1) := by decide +kernel
theorem d_W_law_662 : decode b_W_law 662 = .ok (.iload_n 3, 1) := by decide +kernel
theorem d_W_law_663 : decode b_W_law 663 = .ok (.iconst 2, 1) := by decide +kernel
theorem d_W_law_664 : decode b_W_law 664 = .ok (.iadd, 1) := by decide +kernel
theorem d_W_law_665 : decode b_W_law 665 = .ok (.iaload, 1) := by decide +kernel
theorem d_W_law_666 : decode b_W_law 666 = .ok (.invokevirtual 85, 3) := by decide +kernel
theorem d_W_law_669 : decode b_W_law 669 = .ok (.if_icmp .eq 28, 3) := by decide +kernel
theorem d_W_law_672 : decode b_W_law 672 = .ok (.iconst 0, 1) := by decide +kernel
theorem d_W_law_673 : decode b_W_law 673 = .ok (.ireturn, 1) := by decide +kernel
theorem d_W_law_674 : decode b_W_law 674 = .ok (.aload_n 1, 1) := by decide +kernel
theorem d_W_law_675 : decode b_W_law 675 = .ok (.aload_n 0, 1) := by decide +kernel
theorem d_W_law_676 : decode b_W_law 676 = .ok (.iload_n 3, 1) := by decide +kernel
theorem d_W_law_677 : decode b_W_law 677 = .ok (.iconst 1, 1) := by decide +kernel
theorem d_W_law_678 : decode b_W_law 678 = .ok (.iadd, 1) := by decide +kernel
theorem d_W_law_679 : decode b_W_law 679 = .ok (.iaload, 1) := by decide +kernel
theorem d_W_law_680 : decode b_W_law 680 = .ok (.invokevirtual 86, 3) := by decide +kernel
theorem d_W_law_683 : decode b_W_law 683 = .ok (.aload_n 2, 1) := by decide +kernel
theorem d_W_law_684 : decode b_W_law 684 = .ok (.aload_n 0, 1) := by decide +kernel
theorem d_W_law_685 : decode b_W_law 685 = .ok (.iload_n 3, 1) := by decide +kernel
theorem d_W_law_686 : decode b_W_law 686 = .ok (.iconst 1, 1) := by decide +kernel
theorem d_W_law_687 : decode b_W_law 687 = .ok (.iadd, 1) := by decide +kernel
theorem d_W_law_688 : decode b_W_law 688 = .ok (.iaload, 1) := by decide +kernel
theorem d_W_law_689 : decode b_W_law 689 = .ok (.invokevirtual 89, 3) := by decide +kernel
theorem d_W_law_692 : decode b_W_law 692 = .ok (.if_icmp .eq 5, 3) := by decide +kernel
theorem d_W_law_695 : decode b_W_law 695 = .ok (.iconst 0, 1) := by decide +kernel
theorem d_W_law_696 : decode b_W_law 696 = .ok (.ireturn, 1) := by decide +kernel
theorem d_W_law_697 : decode b_W_law 697 = .ok (.iinc 3 6, 3) := by decide +kernel
theorem d_W_law_700 : decode b_W_law 700 = .ok (.goto (-682), 3) := by decide +kernel
theorem d_W_law_703 : decode b_W_law 703 = .ok (.iconst 1, 1) := by decide +kernel
theorem d_W_law_704 : decode b_W_law 704 = .ok (.ireturn, 1) := by decide +kernel
