abbrev b_S_add : ByteArray := prog_1_method_2_code
def y_S_add : MethodName := ⟨R_S, "add", "(IIIII)I"⟩
def w_S_add : List Cond := .code y_S_add b_S_add 6 (some .int) :: sr_T
abbrev b_S_join : ByteArray := prog_1_method_3_code
def y_S_join : MethodName := ⟨R_S, "join", "(II)Z"⟩
def w_S_join : List Cond := .code y_S_join b_S_join 3 (some .boolean) :: sr_T
abbrev b_S_link : ByteArray := prog_1_method_4_code
def y_S_link : MethodName := ⟨R_S, "link", "(IIII)I"⟩
def w_S_link : List Cond := .code y_S_link b_S_link 7 (some .int) :: sr_T
abbrev b_S_deploy : ByteArray := prog_1_method_5_code
def y_S_deploy : MethodName := ⟨R_S, "deploy", "()I"⟩
def w_S_deploy : List Cond := .code y_S_deploy b_S_deploy 2 (some .int) :: sr_T
abbrev b_S_message : ByteArray := prog_1_method_6_code
def y_S_message : MethodName := ⟨R_S, "message", "(III)I"⟩
def w_S_message : List Cond := .code y_S_message b_S_message 6 (some .int) :: sr_T
abbrev b_S_run : ByteArray := prog_1_method_7_code
def y_S_run : MethodName := ⟨R_S, "run", "(II)I"⟩
def w_S_run : List Cond := .code y_S_run b_S_run 5 (some .int) :: sr_T
abbrev b_S_answer : ByteArray := prog_1_method_8_code
def y_S_answer : MethodName := ⟨R_S, "answer", "(IIII)Z"⟩
def w_S_answer : List Cond := .code y_S_answer b_S_answer 6 (some .boolean) :: sr_T
abbrev b_S_terminate : ByteArray := prog_1_method_9_code
def y_S_terminate : MethodName := ⟨R_S, "terminate", "(I)Z"⟩
def w_S_terminate : List Cond := .code y_S_terminate b_S_terminate 3 (some .boolean) :: sr_T
abbrev b_S_state : ByteArray := prog_1_method_10_code
def y_S_state : MethodName := ⟨R_S, "state", "(I)I"⟩
def w_S_state : List Cond := .code y_S_state b_S_state 3 (some .int) :: sr_T
abbrev b_S_status : ByteArray := prog_1_method_11_code
def y_S_status : MethodName := ⟨R_S, "status", "(II)I"⟩
def w_S_status : List Cond := .code y_S_status b_S_status 4 (some .int) :: sr_T
abbrev b_S_variable : ByteArray := prog_1_method_12_code
def y_S_variable : MethodName := ⟨R_S, "variable", "(II)I"⟩
def w_S_variable : List Cond := .code y_S_variable b_S_variable 4 (some .int) :: sr_T
abbrev b_S_own : ByteArray := prog_1_method_13_code
def y_S_own : MethodName := ⟨R_S, "own", "(II)I"⟩
def w_S_own : List Cond := .code y_S_own b_S_own 4 (some .int) :: sr_T
abbrev b_S_linkState : ByteArray := prog_1_method_14_code
def y_S_linkState : MethodName := ⟨R_S, "linkState", "(II)I"⟩
def w_S_linkState : List Cond := .code y_S_linkState b_S_linkState 4 (some .int) :: sr_T
abbrev b_S_kept : ByteArray := prog_1_method_15_code
def y_S_kept : MethodName := ⟨R_S, "kept", "(II)I"⟩
def w_S_kept : List Cond := .code y_S_kept b_S_kept 4 (some .int) :: sr_T
abbrev b_S_events : ByteArray := prog_1_method_16_code
def y_S_events : MethodName := ⟨R_S, "events", "(I)I"⟩
def w_S_events : List Cond := .code y_S_events b_S_events 3 (some .int) :: sr_T
abbrev b_S_event : ByteArray := prog_1_method_17_code
def y_S_event : MethodName := ⟨R_S, "event", "(II)I"⟩
def w_S_event : List Cond := .code y_S_event b_S_event 4 (some .int) :: sr_T
abbrev b_S_next : ByteArray := prog_1_method_18_code
def y_S_next : MethodName := ⟨R_S, "next", "(I)I"⟩
def w_S_next : List Cond := .code y_S_next b_S_next 3 (some .int) :: sr_T
abbrev b_S_find : ByteArray := prog_1_method_19_code
def y_S_find : MethodName := ⟨R_S, "find", "(I)LScopeRunner$Instance;"⟩
def w_S_find : List Cond := .code y_S_find b_S_find 2 (some (.object "ScopeRunner$Instance")) :: sr_T
abbrev b_S_runningWith : ByteArray := prog_1_method_20_code
def y_S_runningWith : MethodName := ⟨R_S, "runningWith", "(I)I"⟩
def w_S_runningWith : List Cond := .code y_S_runningWith b_S_runningWith 4 (some .int) :: sr_T
theorem q_126 : (.fieldLink R_S 86 R_S "made" "I" : Cond) ∈ sr_T := sr_q 126 (by decide +kernel) (by decide +kernel)
theorem q_125 : (.fieldLink R_S 27 R_S "instances" "[LScopeRunner$Instance;" : Cond) ∈ sr_T := sr_q 125 (by decide +kernel) (by decide +kernel)
theorem q_315 : (.code y_S_find b_S_find 2 (some (.object "ScopeRunner$Instance")) : Cond) ∈ sr_T := sr_q 315 (by decide +kernel) (by decide +kernel)
theorem q_312 : (.methodLink R_S 79 y_S_find : Cond) ∈ sr_T := sr_q 312 (by decide +kernel) (by decide +kernel)
theorem q_1 : (.initialized R_S : Cond) ∈ sr_T := sr_q 1 (by decide +kernel) (by decide +kernel)
theorem q_314 : (.instanceMethod y_S_find : Cond) ∈ sr_T := sr_q 314 (by decide +kernel) (by decide +kernel)
theorem qs_S_find : (.selects R_S y_S_find y_S_find : Cond) ∈ sr_T := sr_qs 17 (by decide +kernel) (by decide +kernel)
theorem q_523 : (.fieldLink R_S 159 R_I "key" "I" : Cond) ∈ sr_T := sr_q 523 (by decide +kernel) (by decide +kernel)
theorem q_526 : (.fieldLink R_S 105 R_I "outcome" "I" : Cond) ∈ sr_T := sr_q 526 (by decide +kernel) (by decide +kernel)
theorem q_127 : (.fieldLink R_S 31 R_S "deployed" "Z" : Cond) ∈ sr_T := sr_q 127 (by decide +kernel) (by decide +kernel)
theorem q_145 : (.code y_K_fits b_K_fits 3 (some .boolean) : Cond) ∈ sr_T := sr_q 145 (by decide +kernel) (by decide +kernel)
theorem q_143 : (.methodLink R_S 35 y_K_fits : Cond) ∈ sr_T := sr_q 143 (by decide +kernel) (by decide +kernel)
theorem q_144 : (.static y_K_fits : Cond) ∈ sr_T := sr_q 144 (by decide +kernel) (by decide +kernel)
theorem q_123 : (.fieldLink R_S 10 R_S "plan" "LScopeRunner$Plan;" : Cond) ∈ sr_T := sr_q 123 (by decide +kernel) (by decide +kernel)
theorem q_152 : (.code y_P_hasPlaceFor b_P_hasPlaceFor 4 (some .boolean) : Cond) ∈ sr_T := sr_q 152 (by decide +kernel) (by decide +kernel)
theorem q_149 : (.methodLink R_S 41 y_P_hasPlaceFor : Cond) ∈ sr_T := sr_q 149 (by decide +kernel) (by decide +kernel)
theorem q_150 : (.instanceMethod y_P_hasPlaceFor : Cond) ∈ sr_T := sr_q 150 (by decide +kernel) (by decide +kernel)
theorem q_151 : (.selects R_P y_P_hasPlaceFor y_P_hasPlaceFor : Cond) ∈ sr_T := sr_q 151 (by decide +kernel) (by decide +kernel)
theorem q_164 : (.code y_P_append b_P_append 10 (some .int) : Cond) ∈ sr_T := sr_q 164 (by decide +kernel) (by decide +kernel)
theorem q_161 : (.methodLink R_S 44 y_P_append : Cond) ∈ sr_T := sr_q 161 (by decide +kernel) (by decide +kernel)
theorem q_162 : (.instanceMethod y_P_append : Cond) ∈ sr_T := sr_q 162 (by decide +kernel) (by decide +kernel)
theorem q_163 : (.selects R_P y_P_append y_P_append : Cond) ∈ sr_T := sr_q 163 (by decide +kernel) (by decide +kernel)
theorem q_176 : (.methodLink R_S 48 y_P_hasActivity : Cond) ∈ sr_T := sr_q 176 (by decide +kernel) (by decide +kernel)
theorem q_42 : (.fieldLink R_S 52 R_P "modes" "[I" : Cond) ∈ sr_T := sr_q 42 (by decide +kernel) (by decide +kernel)
theorem q_70 : (.fieldLink R_S 59 R_P "linkCount" "I" : Cond) ∈ sr_T := sr_q 70 (by decide +kernel) (by decide +kernel)
theorem q_185 : (.code y_P_isLinked b_P_isLinked 4 (some .boolean) : Cond) ∈ sr_T := sr_q 185 (by decide +kernel) (by decide +kernel)
theorem q_182 : (.methodLink R_S 63 y_P_isLinked : Cond) ∈ sr_T := sr_q 182 (by decide +kernel) (by decide +kernel)
theorem q_183 : (.instanceMethod y_P_isLinked : Cond) ∈ sr_T := sr_q 183 (by decide +kernel) (by decide +kernel)
theorem q_184 : (.selects R_P y_P_isLinked y_P_isLinked : Cond) ∈ sr_T := sr_q 184 (by decide +kernel) (by decide +kernel)
theorem q_189 : (.code y_P_appendLink b_P_appendLink 5 (some .int) : Cond) ∈ sr_T := sr_q 189 (by decide +kernel) (by decide +kernel)
theorem q_186 : (.methodLink R_S 67 y_P_appendLink : Cond) ∈ sr_T := sr_q 186 (by decide +kernel) (by decide +kernel)
theorem q_187 : (.instanceMethod y_P_appendLink : Cond) ∈ sr_T := sr_q 187 (by decide +kernel) (by decide +kernel)
theorem q_188 : (.selects R_P y_P_appendLink y_P_appendLink : Cond) ∈ sr_T := sr_q 188 (by decide +kernel) (by decide +kernel)
theorem q_181 : (.methodLink R_S 56 y_K_isVariable : Cond) ∈ sr_T := sr_q 181 (by decide +kernel) (by decide +kernel)
theorem q_124 : (.fieldLink R_S 21 R_S "rules" "LScopeRunner$Rules;" : Cond) ∈ sr_T := sr_q 124 (by decide +kernel) (by decide +kernel)
theorem q_197 : (.code y_R_leastBroken b_R_leastBroken 1 (some .int) : Cond) ∈ sr_T := sr_q 197 (by decide +kernel) (by decide +kernel)
theorem q_194 : (.methodLink R_S 71 y_R_leastBroken : Cond) ∈ sr_T := sr_q 194 (by decide +kernel) (by decide +kernel)
theorem q_195 : (.instanceMethod y_R_leastBroken : Cond) ∈ sr_T := sr_q 195 (by decide +kernel) (by decide +kernel)
theorem q_196 : (.selects R_R y_R_leastBroken y_R_leastBroken : Cond) ∈ sr_T := sr_q 196 (by decide +kernel) (by decide +kernel)
theorem q_311 : (.code y_S_runningWith b_S_runningWith 4 (some .int) : Cond) ∈ sr_T := sr_q 311 (by decide +kernel) (by decide +kernel)
theorem q_308 : (.methodLink R_S 75 y_S_runningWith : Cond) ∈ sr_T := sr_q 308 (by decide +kernel) (by decide +kernel)
theorem q_310 : (.instanceMethod y_S_runningWith : Cond) ∈ sr_T := sr_q 310 (by decide +kernel) (by decide +kernel)
theorem qs_S_runningWith : (.selects R_S y_S_runningWith y_S_runningWith : Cond) ∈ sr_T := sr_qs 16 (by decide +kernel) (by decide +kernel)
theorem q_445 : (.code y_P_startsWith b_P_startsWith 3 (some .boolean) : Cond) ∈ sr_T := sr_q 445 (by decide +kernel) (by decide +kernel)
theorem q_442 : (.methodLink R_S 89 y_P_startsWith : Cond) ∈ sr_T := sr_q 442 (by decide +kernel) (by decide +kernel)
theorem q_443 : (.instanceMethod y_P_startsWith : Cond) ∈ sr_T := sr_q 443 (by decide +kernel) (by decide +kernel)
theorem q_444 : (.selects R_P y_P_startsWith y_P_startsWith : Cond) ∈ sr_T := sr_q 444 (by decide +kernel) (by decide +kernel)
theorem q_319 : (.code y_I_takeMessage b_I_takeMessage 4 (some .boolean) : Cond) ∈ sr_T := sr_q 319 (by decide +kernel) (by decide +kernel)
theorem q_316 : (.methodLink R_S 83 y_I_takeMessage : Cond) ∈ sr_T := sr_q 316 (by decide +kernel) (by decide +kernel)
theorem q_317 : (.instanceMethod y_I_takeMessage : Cond) ∈ sr_T := sr_q 317 (by decide +kernel) (by decide +kernel)
theorem q_318 : (.selects R_I y_I_takeMessage y_I_takeMessage : Cond) ∈ sr_T := sr_q 318 (by decide +kernel) (by decide +kernel)
theorem q_583 : (.code y_I_makeStep b_I_makeStep 2 (some .boolean) : Cond) ∈ sr_T := sr_q 583 (by decide +kernel) (by decide +kernel)
theorem q_580 : (.methodLink R_S 95 y_I_makeStep : Cond) ∈ sr_T := sr_q 580 (by decide +kernel) (by decide +kernel)
theorem q_581 : (.instanceMethod y_I_makeStep : Cond) ∈ sr_T := sr_q 581 (by decide +kernel) (by decide +kernel)
theorem q_582 : (.selects R_I y_I_makeStep y_I_makeStep : Cond) ∈ sr_T := sr_q 582 (by decide +kernel) (by decide +kernel)
theorem q_675 : (.code y_I_takeAnswer b_I_takeAnswer 4 (some .boolean) : Cond) ∈ sr_T := sr_q 675 (by decide +kernel) (by decide +kernel)
theorem q_672 : (.methodLink R_S 99 y_I_takeAnswer : Cond) ∈ sr_T := sr_q 672 (by decide +kernel) (by decide +kernel)
theorem q_673 : (.instanceMethod y_I_takeAnswer : Cond) ∈ sr_T := sr_q 673 (by decide +kernel) (by decide +kernel)
theorem q_674 : (.selects R_I y_I_takeAnswer y_I_takeAnswer : Cond) ∈ sr_T := sr_q 674 (by decide +kernel) (by decide +kernel)
theorem q_683 : (.code y_I_endNow b_I_endNow 1 (some .boolean) : Cond) ∈ sr_T := sr_q 683 (by decide +kernel) (by decide +kernel)
theorem q_680 : (.methodLink R_S 102 y_I_endNow : Cond) ∈ sr_T := sr_q 680 (by decide +kernel) (by decide +kernel)
theorem q_681 : (.instanceMethod y_I_endNow : Cond) ∈ sr_T := sr_q 681 (by decide +kernel) (by decide +kernel)
theorem q_682 : (.selects R_I y_I_endNow y_I_endNow : Cond) ∈ sr_T := sr_q 682 (by decide +kernel) (by decide +kernel)
theorem q_528 : (.fieldLink R_S 108 R_I "statuses" "[I" : Cond) ∈ sr_T := sr_q 528 (by decide +kernel) (by decide +kernel)
theorem q_533 : (.fieldLink R_S 111 R_I "variables" "LScopeRunner$Variables;" : Cond) ∈ sr_T := sr_q 533 (by decide +kernel) (by decide +kernel)
theorem q_460 : (.fieldLink R_S 115 R_V "shared" "[I" : Cond) ∈ sr_T := sr_q 460 (by decide +kernel) (by decide +kernel)
theorem q_700 : (.methodLink R_S 120 y_P_hasScope : Cond) ∈ sr_T := sr_q 700 (by decide +kernel) (by decide +kernel)
theorem q_462 : (.fieldLink R_S 123 R_V "owned" "[I" : Cond) ∈ sr_T := sr_q 462 (by decide +kernel) (by decide +kernel)
theorem q_535 : (.fieldLink R_S 126 R_I "links" "LScopeRunner$Links;" : Cond) ∈ sr_T := sr_q 535 (by decide +kernel) (by decide +kernel)
theorem q_480 : (.fieldLink R_S 130 R_L "values" "[I" : Cond) ∈ sr_T := sr_q 480 (by decide +kernel) (by decide +kernel)
theorem q_537 : (.fieldLink R_S 135 R_I "entries" "LScopeRunner$Entries;" : Cond) ∈ sr_T := sr_q 537 (by decide +kernel) (by decide +kernel)
theorem q_712 : (.code y_E_countIn b_E_countIn 4 (some .int) : Cond) ∈ sr_T := sr_q 712 (by decide +kernel) (by decide +kernel)
theorem q_709 : (.methodLink R_S 139 y_E_countIn : Cond) ∈ sr_T := sr_q 709 (by decide +kernel) (by decide +kernel)
theorem q_710 : (.instanceMethod y_E_countIn : Cond) ∈ sr_T := sr_q 710 (by decide +kernel) (by decide +kernel)
theorem q_711 : (.selects R_E y_E_countIn y_E_countIn : Cond) ∈ sr_T := sr_q 711 (by decide +kernel) (by decide +kernel)
theorem q_539 : (.fieldLink R_S 144 R_I "log" "LScopeRunner$EventLog;" : Cond) ∈ sr_T := sr_q 539 (by decide +kernel) (by decide +kernel)
theorem q_514 : (.fieldLink R_S 148 R_G "count" "I" : Cond) ∈ sr_T := sr_q 514 (by decide +kernel) (by decide +kernel)
theorem q_724 : (.code y_G_before b_G_before 2 (some .int) : Cond) ∈ sr_T := sr_q 724 (by decide +kernel) (by decide +kernel)
theorem q_721 : (.methodLink R_S 153 y_G_before : Cond) ∈ sr_T := sr_q 721 (by decide +kernel) (by decide +kernel)
theorem q_722 : (.instanceMethod y_G_before : Cond) ∈ sr_T := sr_q 722 (by decide +kernel) (by decide +kernel)
theorem q_723 : (.selects R_G y_G_before y_G_before : Cond) ∈ sr_T := sr_q 723 (by decide +kernel) (by decide +kernel)
theorem q_729 : (.methodLink R_S 156 y_I_nextToStep : Cond) ∈ sr_T := sr_q 729 (by decide +kernel) (by decide +kernel)
theorem cw_S_79 {R : Room} {s : State} {args : Array Value} {x0 : Cond} (ht : ∀ w ∈ (x0 :: sr_T), w.before args s = true) (hR : 0 + 1 ≤ R.frames ∧ 8 + (2 + 11) + 0 ≤ R.locals) : CallW R s args R_S R_S 79 y_S_find b_S_find 2 (some (.object "ScopeRunner$Instance")) w_S_find (sr_rm 0 0) 0 0 1 :=
  cwV 1 ht (sr_gV q_312 q_314 qs_S_find q_1 q_315) rfl rfl rfl ⟨rfl, by decide, by decide, by decide +kernel⟩ hR
theorem cw_S_35 {R : Room} {s : State} {args : Array Value} {x0 : Cond} (ht : ∀ w ∈ (x0 :: sr_T), w.before args s = true) (hR : 1 + 1 ≤ R.frames ∧ 8 + (3 + 11) + 20 ≤ R.locals) : CallB R s args R_S 35 y_K_fits b_K_fits 3 (some .boolean) w_K_fits (sr_rm 1 20) 0 0 3 ∧ (Cond.static y_K_fits).before args s = true :=
  va_cwS 3 ht (sr_gS q_143 q_144 q_5 q_145) rfl rfl rfl ⟨by decide, by decide, by decide +kernel⟩ hR
theorem cw_S_41 {R : Room} {s : State} {args : Array Value} {x0 : Cond} (ht : ∀ w ∈ (x0 :: sr_T), w.before args s = true) (hR : 1 + 1 ≤ R.frames ∧ 8 + (4 + 11) + 23 ≤ R.locals) : CallW R s args R_S R_P 41 y_P_hasPlaceFor b_P_hasPlaceFor 4 (some .boolean) w_P_hasPlaceFor (sr_rm 1 23) 0 0 3 :=
  cwV 3 ht (sr_gV q_149 q_150 q_151 q_2 q_152) rfl rfl rfl ⟨rfl, by decide, by decide, by decide +kernel⟩ hR
theorem cw_S_44 {R : Room} {s : State} {args : Array Value} {x0 : Cond} (ht : ∀ w ∈ (x0 :: sr_T), w.before args s = true) (hR : 2 + 1 ≤ R.frames ∧ 8 + (10 + 11) + 42 ≤ R.locals) : CallW R s args R_S R_P 44 y_P_append b_P_append 10 (some .int) w_P_append (sr_rm 2 42) 0 0 5 :=
  cwV 5 ht (sr_gV q_161 q_162 q_163 q_2 q_164) rfl rfl rfl ⟨rfl, by decide, by decide, by decide +kernel⟩ hR
theorem cw_S_48 {R : Room} {s : State} {args : Array Value} {x0 : Cond} (ht : ∀ w ∈ (x0 :: sr_T), w.before args s = true) (hR : 0 + 1 ≤ R.frames ∧ 8 + (2 + 11) + 0 ≤ R.locals) : CallW R s args R_S R_P 48 y_P_hasActivity b_P_hasActivity 2 (some .boolean) w_P_hasActivity (sr_rm 0 0) 0 0 1 :=
  cwV 1 ht (sr_gV q_176 q_154 q_155 q_2 q_156) rfl rfl rfl ⟨rfl, by decide, by decide, by decide +kernel⟩ hR
theorem cw_S_63 {R : Room} {s : State} {args : Array Value} {x0 : Cond} (ht : ∀ w ∈ (x0 :: sr_T), w.before args s = true) (hR : 0 + 1 ≤ R.frames ∧ 8 + (4 + 11) + 0 ≤ R.locals) : CallW R s args R_S R_P 63 y_P_isLinked b_P_isLinked 4 (some .boolean) w_P_isLinked (sr_rm 0 0) 0 0 2 :=
  cwV 2 ht (sr_gV q_182 q_183 q_184 q_2 q_185) rfl rfl rfl ⟨rfl, by decide, by decide, by decide +kernel⟩ hR
theorem cw_S_67 {R : Room} {s : State} {args : Array Value} {x0 : Cond} (ht : ∀ w ∈ (x0 :: sr_T), w.before args s = true) (hR : 0 + 1 ≤ R.frames ∧ 8 + (5 + 11) + 0 ≤ R.locals) : CallW R s args R_S R_P 67 y_P_appendLink b_P_appendLink 5 (some .int) w_P_appendLink (sr_rm 0 0) 0 0 4 :=
  cwV 4 ht (sr_gV q_186 q_187 q_188 q_2 q_189) rfl rfl rfl ⟨rfl, by decide, by decide, by decide +kernel⟩ hR
theorem cw_S_56 {R : Room} {s : State} {args : Array Value} {x0 : Cond} (ht : ∀ w ∈ (x0 :: sr_T), w.before args s = true) (hR : 0 + 1 ≤ R.frames ∧ 8 + (1 + 11) + 0 ≤ R.locals) : CallB R s args R_S 56 y_K_isVariable b_K_isVariable 1 (some .boolean) w_K_isVariable (sr_rm 0 0) 0 0 1 ∧ (Cond.static y_K_isVariable).before args s = true :=
  va_cwS 1 ht (sr_gS q_181 q_147 q_5 q_148) rfl rfl rfl ⟨by decide, by decide, by decide +kernel⟩ hR
theorem cw_S_71 {R : Room} {s : State} {args : Array Value} {x0 : Cond} (ht : ∀ w ∈ (x0 :: sr_T), w.before args s = true) (hR : 5 + 1 ≤ R.frames ∧ 8 + (1 + 11) + 111 ≤ R.locals) : CallW R s args R_S R_R 71 y_R_leastBroken b_R_leastBroken 1 (some .int) w_R_leastBroken (sr_rm 5 111) 0 0 0 :=
  cwV 0 ht (sr_gV q_194 q_195 q_196 q_3 q_197) rfl rfl rfl ⟨rfl, by decide, by decide, by decide +kernel⟩ hR
theorem cw_S_75 {R : Room} {s : State} {args : Array Value} {x0 : Cond} (ht : ∀ w ∈ (x0 :: sr_T), w.before args s = true) (hR : 1 + 1 ≤ R.frames ∧ 8 + (4 + 11) + 21 ≤ R.locals) : CallW R s args R_S R_S 75 y_S_runningWith b_S_runningWith 4 (some .int) w_S_runningWith (sr_rm 1 21) 0 0 1 :=
  cwV 1 ht (sr_gV q_308 q_310 qs_S_runningWith q_1 q_311) rfl rfl rfl ⟨rfl, by decide, by decide, by decide +kernel⟩ hR
theorem cw_S_89 {R : Room} {s : State} {args : Array Value} {x0 : Cond} (ht : ∀ w ∈ (x0 :: sr_T), w.before args s = true) (hR : 3 + 1 ≤ R.frames ∧ 8 + (3 + 11) + 66 ≤ R.locals) : CallW R s args R_S R_P 89 y_P_startsWith b_P_startsWith 3 (some .boolean) w_P_startsWith (sr_rm 3 66) 0 0 1 :=
  cwV 1 ht (sr_gV q_442 q_443 q_444 q_2 q_445) rfl rfl rfl ⟨rfl, by decide, by decide, by decide +kernel⟩ hR
theorem cw_S_83 {R : Room} {s : State} {args : Array Value} {x0 : Cond} (ht : ∀ w ∈ (x0 :: sr_T), w.before args s = true) (hR : 5 + 1 ≤ R.frames ∧ 8 + (4 + 11) + 116 ≤ R.locals) : CallW R s args R_S R_I 83 y_I_takeMessage b_I_takeMessage 4 (some .boolean) w_I_takeMessage (sr_rm 5 116) 0 0 2 :=
  cwV 2 ht (sr_gV q_316 q_317 q_318 q_8 q_319) rfl rfl rfl ⟨rfl, by decide, by decide, by decide +kernel⟩ hR
theorem cw_S_95 {R : Room} {s : State} {args : Array Value} {x0 : Cond} (ht : ∀ w ∈ (x0 :: sr_T), w.before args s = true) (hR : 5 + 1 ≤ R.frames ∧ 8 + (2 + 11) + 116 ≤ R.locals) : CallW R s args R_S R_I 95 y_I_makeStep b_I_makeStep 2 (some .boolean) w_I_makeStep (sr_rm 5 116) 0 0 0 :=
  cwV 0 ht (sr_gV q_580 q_581 q_582 q_8 q_583) rfl rfl rfl ⟨rfl, by decide, by decide, by decide +kernel⟩ hR
theorem cw_S_99 {R : Room} {s : State} {args : Array Value} {x0 : Cond} (ht : ∀ w ∈ (x0 :: sr_T), w.before args s = true) (hR : 5 + 1 ≤ R.frames ∧ 8 + (4 + 11) + 116 ≤ R.locals) : CallW R s args R_S R_I 99 y_I_takeAnswer b_I_takeAnswer 4 (some .boolean) w_I_takeAnswer (sr_rm 5 116) 0 0 3 :=
  cwV 3 ht (sr_gV q_672 q_673 q_674 q_8 q_675) rfl rfl rfl ⟨rfl, by decide, by decide, by decide +kernel⟩ hR
theorem cw_S_102 {R : Room} {s : State} {args : Array Value} {x0 : Cond} (ht : ∀ w ∈ (x0 :: sr_T), w.before args s = true) (hR : 3 + 1 ≤ R.frames ∧ 8 + (1 + 11) + 68 ≤ R.locals) : CallW R s args R_S R_I 102 y_I_endNow b_I_endNow 1 (some .boolean) w_I_endNow (sr_rm 3 68) 0 0 0 :=
  cwV 0 ht (sr_gV q_680 q_681 q_682 q_8 q_683) rfl rfl rfl ⟨rfl, by decide, by decide, by decide +kernel⟩ hR
theorem cw_S_120 {R : Room} {s : State} {args : Array Value} {x0 : Cond} (ht : ∀ w ∈ (x0 :: sr_T), w.before args s = true) (hR : 1 + 1 ≤ R.frames ∧ 8 + (2 + 11) + 21 ≤ R.locals) : CallW R s args R_S R_P 120 y_P_hasScope b_P_hasScope 2 (some .boolean) w_P_hasScope (sr_rm 1 21) 0 0 1 :=
  cwV 1 ht (sr_gV q_700 q_166 q_167 q_2 q_168) rfl rfl rfl ⟨rfl, by decide, by decide, by decide +kernel⟩ hR
theorem cw_S_139 {R : Room} {s : State} {args : Array Value} {x0 : Cond} (ht : ∀ w ∈ (x0 :: sr_T), w.before args s = true) (hR : 0 + 1 ≤ R.frames ∧ 8 + (4 + 11) + 0 ≤ R.locals) : CallW R s args R_S R_E 139 y_E_countIn b_E_countIn 4 (some .int) w_E_countIn (sr_rm 0 0) 0 0 1 :=
  cwV 1 ht (sr_gV q_709 q_710 q_711 q_11 q_712) rfl rfl rfl ⟨rfl, by decide, by decide, by decide +kernel⟩ hR
theorem cw_S_153 {R : Room} {s : State} {args : Array Value} {x0 : Cond} (ht : ∀ w ∈ (x0 :: sr_T), w.before args s = true) (hR : 0 + 1 ≤ R.frames ∧ 8 + (2 + 11) + 0 ≤ R.locals) : CallW R s args R_S R_G 153 y_G_before b_G_before 2 (some .int) w_G_before (sr_rm 0 0) 0 0 1 :=
  cwV 1 ht (sr_gV q_721 q_722 q_723 q_12 q_724) rfl rfl rfl ⟨rfl, by decide, by decide, by decide +kernel⟩ hR
theorem cw_S_156 {R : Room} {s : State} {args : Array Value} {x0 : Cond} (ht : ∀ w ∈ (x0 :: sr_T), w.before args s = true) (hR : 3 + 1 ≤ R.frames ∧ 8 + (2 + 11) + 66 ≤ R.locals) : CallW R s args R_S R_I 156 y_I_nextToStep b_I_nextToStep 2 (some .int) w_I_nextToStep (sr_rm 3 66) 0 0 0 :=
  cwV 0 ht (sr_gV q_729 q_585 q_586 q_8 q_587) rfl rfl rfl ⟨rfl, by decide, by decide, by decide +kernel⟩ hR
