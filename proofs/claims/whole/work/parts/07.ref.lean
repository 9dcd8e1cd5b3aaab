/-! M_numbersFit -/
theorem d_M_numbersFit_0 : decode b_M_numbersFit 0 = .ok (.iconst 1, 1) := by decide +kernel
theorem d_M_numbersFit_1 : decode b_M_numbersFit 1 = .ok (.istore 4, 2) := by decide +kernel
theorem d_M_numbersFit_3 : decode b_M_numbersFit 3 = .ok (.iload_n 1, 1) := by decide +kernel
theorem d_M_numbersFit_4 : decode b_M_numbersFit 4 = .ok (.iconst 1, 1) := by decide +kernel
theorem d_M_numbersFit_5 : decode b_M_numbersFit 5 = .ok (.if_icmp .ne 12, 3) := by decide +kernel
theorem d_M_numbersFit_8 : decode b_M_numbersFit 8 = .ok (.iload_n 2, 1) := by decide +kernel
theorem d_M_numbersFit_9 : decode b_M_numbersFit 9 = .ok (.iconst 0, 1) := by decide +kernel
theorem d_M_numbersFit_10 : decode b_M_numbersFit 10 = .ok (.iconst 4, 1) := by decide +kernel
theorem d_M_numbersFit_11 : decode b_M_numbersFit 11 = .ok (.invokestatic 92, 3) := by decide +kernel
theorem d_M_numbersFit_14 : decode b_M_numbersFit 14 = .ok (.goto 5, 3) := by decide +kernel
theorem d_M_numbersFit_17 : decode b_M_numbersFit 17 = .ok (.iload 4, 2) := by decide +kernel
theorem d_M_numbersFit_19 : decode b_M_numbersFit 19 = .ok (.istore 4, 2) := by decide +kernel
theorem d_M_numbersFit_21 : decode b_M_numbersFit 21 = .ok (.iload_n 1, 1) := by decide +kernel
theorem d_M_numbersFit_22 : decode b_M_numbersFit 22 = .ok (.iconst 2, 1) := by decide +kernel
theorem d_M_numbersFit_23 : decode b_M_numbersFit 23 = .ok (.if_icmp .ne 29, 3) := by decide +kernel
theorem d_M_numbersFit_26 : decode b_M_numbersFit 26 = .ok (.iload_n 2, 1) := by decide +kernel
theorem d_M_numbersFit_27 : decode b_M_numbersFit 27 = .ok (.iconst 0, 1) := by decide +kernel
theorem d_M_numbersFit_28 : decode b_M_numbersFit 28 = .ok (.iconst 4, 1) := by decide +kernel
theorem d_M_numbersFit_29 : decode b_M_numbersFit 29 = .ok (.invokestatic 92, 3) := by decide +kernel
theorem d_M_numbersFit_32 : decode b_M_numbersFit 32 = .ok (.ifCond .eq 16, 3) := by decide +kernel
theorem d_M_numbersFit_35 : decode b_M_numbersFit 35 = .ok (.iload_n 3, 1) := by decide +kernel
theorem d_M_numbersFit_36 : decode b_M_numbersFit 36 = .ok (.iconst 0, 1) := by decide +kernel
theorem d_M_numbersFit_37 : decode b_M_numbersFit 37 = .ok (.iconst 4, 1) := by decide +kernel
theorem d_M_numbersFit_38 : decode b_M_numbersFit 38 = .ok (.invokestatic 92, 3) := by decide +kernel
theorem d_M_numbersFit_41 : decode b_M_numbersFit 41 = .ok (.ifCond .eq 7, 3) := by decide +kernel
theorem d_M_numbersFit_44 : decode b_M_numbersFit 44 = .ok (.iconst 1, 1) := by decide +kernel
theorem d_M_numbersFit_45 : decode b_M_numbersFit 45 = .ok (.goto 9, 3) := by decide +kernel
theorem d_M_numbersFit_48 : decode b_M_numbersFit 48 = .ok (.iconst 0, 1) := by decide +kernel
theorem d_M_numbersFit_49 : decode b_M_numbersFit 49 = .ok (.goto 5, 3) := by decide +kernel
theorem d_M_numbersFit_52 : decode b_M_numbersFit 52 = .ok (.iload 4, 2) := by decide +kernel
theorem d_M_numbersFit_54 : decode b_M_numbersFit 54 = .ok (.istore 4, 2) := by decide +kernel
theorem d_M_numbersFit_56 : decode b_M_numbersFit 56 = .ok (.iload_n 1, 1) := by decide +kernel
theorem d_M_numbersFit_57 : decode b_M_numbersFit 57 = .ok (.iconst 3, 1) := by decide +kernel
theorem d_M_numbersFit_58 : decode b_M_numbersFit 58 = .ok (.if_icmp .ne 13, 3) := by decide +kernel
theorem d_M_numbersFit_61 : decode b_M_numbersFit 61 = .ok (.iload_n 2, 1) := by decide +kernel
theorem d_M_numbersFit_62 : decode b_M_numbersFit 62 = .ok (.iconst 1, 1) := by decide +kernel
theorem d_M_numbersFit_63 : decode b_M_numbersFit 63 = .ok (.bipush 99, 2) := by decide +kernel
theorem d_M_numbersFit_65 : decode b_M_numbersFit 65 = .ok (.invokestatic 92, 3) := by decide +kernel
theorem d_M_numbersFit_68 : decode b_M_numbersFit 68 = .ok (.goto 5, 3) := by decide +kernel
theorem d_M_numbersFit_71 : decode b_M_numbersFit 71 = .ok (.iload 4, 2) := by decide +kernel
theorem d_M_numbersFit_73 : decode b_M_numbersFit 73 = .ok (.istore 4, 2) := by decide +kernel
theorem d_M_numbersFit_75 : decode b_M_numbersFit 75 = .ok (.iload_n 1, 1) := by decide +kernel
theorem d_M_numbersFit_76 : decode b_M_numbersFit 76 = .ok (.iconst 5, 1) := by decide +kernel
theorem d_M_numbersFit_77 : decode b_M_numbersFit 77 = .ok (.if_icmp .ne 30, 3) := by decide +kernel
theorem d_M_numbersFit_80 : decode b_M_numbersFit 80 = .ok (.iload_n 2, 1) := by decide +kernel
theorem d_M_numbersFit_81 : decode b_M_numbersFit 81 = .ok (.iconst 0, 1) := by decide +kernel
theorem d_M_numbersFit_82 : decode b_M_numbersFit 82 = .ok (.bipush 7, 2) := by decide +kernel
theorem d_M_numbersFit_84 : decode b_M_numbersFit 84 = .ok (.invokestatic 92, 3) := by decide +kernel
theorem d_M_numbersFit_87 : decode b_M_numbersFit 87 = .ok (.ifCond .eq 16, 3) := by decide +kernel
theorem d_M_numbersFit_90 : decode b_M_numbersFit 90 = .ok (.iload_n 3, 1) := by decide +kernel
theorem d_M_numbersFit_91 : decode b_M_numbersFit 91 = .ok (.iconst 0, 1) := by decide +kernel
theorem d_M_numbersFit_92 : decode b_M_numbersFit 92 = .ok (.iconst 4, 1) := by decide +kernel
theorem d_M_numbersFit_93 : decode b_M_numbersFit 93 = .ok (.invokestatic 92, 3) := by decide +kernel
theorem d_M_numbersFit_96 : decode b_M_numbersFit 96 = .ok (.ifCond .eq 7, 3) := by decide +kernel
theorem d_M_numbersFit_99 : decode b_M_numbersFit 99 = .ok (.iconst 1, 1) := by decide +kernel
theorem d_M_numbersFit_100 : decode b_M_numbersFit 100 = .ok (.goto 9, 3) := by decide +kernel
theorem d_M_numbersFit_103 : decode b_M_numbersFit 103 = .ok (.iconst 0, 1) := by decide +kernel
theorem d_M_numbersFit_104 : decode b_M_numbersFit 104 = .ok (.goto 5, 3) := by decide +kernel
theorem d_M_numbersFit_107 : decode b_M_numbersFit 107 = .ok (.iload 4, 2) := by decide +kernel
theorem d_M_numbersFit_109 : decode b_M_numbersFit 109 = .ok (.istore 4, 2) := by decide +kernel
theorem d_M_numbersFit_111 : decode b_M_numbersFit 111 = .ok (.iload_n 1, 1) := by decide +kernel
theorem d_M_numbersFit_112 : decode b_M_numbersFit 112 = .ok (.bipush 6, 2) := by decide +kernel
theorem d_M_numbersFit_114 : decode b_M_numbersFit 114 = .ok (.if_icmp .ne 12, 3) := by decide +kernel
theorem d_M_numbersFit_117 : decode b_M_numbersFit 117 = .ok (.iload_n 3, 1) := by decide +kernel
theorem d_M_numbersFit_118 : decode b_M_numbersFit 118 = .ok (.iconst 0, 1) := by decide +kernel
theorem d_M_numbersFit_119 : decode b_M_numbersFit 119 = .ok (.iconst 4, 1) := by decide +kernel
theorem d_M_numbersFit_120 : decode b_M_numbersFit 120 = .ok (.invokestatic 92, 3) := by decide +kernel
theorem d_M_numbersFit_123 : decode b_M_numbersFit 123 = .ok (.goto 5, 3) := by decide +kernel
theorem d_M_numbersFit_126 : decode b_M_numbersFit 126 = .ok (.iload 4, 2) := by decide +kernel
theorem d_M_numbersFit_128 : decode b_M_numbersFit 128 = .ok (.istore 4, 2) := by decide +kernel
theorem d_M_numbersFit_130 : decode b_M_numbersFit 130 = .ok (.iload_n 1, 1) := by decide +kernel
theorem d_M_numbersFit_131 : decode b_M_numbersFit 131 = .ok (.bipush 7, 2) := by decide +kernel
theorem d_M_numbersFit_133 : decode b_M_numbersFit 133 = .ok (.if_icmp .ne 13, 3) := by decide +kernel
theorem d_M_numbersFit_136 : decode b_M_numbersFit 136 = .ok (.iload_n 2, 1) := by decide +kernel
theorem d_M_numbersFit_137 : decode b_M_numbersFit 137 = .ok (.iconst 0, 1) := by decide +kernel
theorem d_M_numbersFit_138 : decode b_M_numbersFit 138 = .ok (.bipush 23, 2) := by decide +kernel
theorem d_M_numbersFit_140 : decode b_M_numbersFit 140 = .ok (.invokestatic 92, 3) := by decide +kernel
theorem d_M_numbersFit_143 : decode b_M_numbersFit 143 = .ok (.goto 5, 3) := by decide +kernel
theorem d_M_numbersFit_146 : decode b_M_numbersFit 146 = .ok (.iload 4, 2) := by decide +kernel
theorem d_M_numbersFit_148 : decode b_M_numbersFit 148 = .ok (.istore 4, 2) := by decide +kernel
theorem d_M_numbersFit_150 : decode b_M_numbersFit 150 = .ok (.iload_n 1, 1) := by decide +kernel
theorem d_M_numbersFit_151 : decode b_M_numbersFit 151 = .ok (.bipush 10, 2) := by decide +kernel
theorem d_M_numbersFit_153 : decode b_M_numbersFit 153 = .ok (.if_icmp .eq 9, 3) := by decide +kernel
theorem d_M_numbersFit_156 : decode b_M_numbersFit 156 = .ok (.iload_n 1, 1) := by decide +kernel
theorem d_M_numbersFit_157 : decode b_M_numbersFit 157 = .ok (.bipush 11, 2) := by decide +kernel
theorem d_M_numbersFit_159 : decode b_M_numbersFit 159 = .ok (.if_icmp .ne 12, 3) := by decide +kernel
theorem d_M_numbersFit_162 : decode b_M_numbersFit 162 = .ok (.iload_n 2, 1) := by decide +kernel
theorem d_M_numbersFit_163 : decode b_M_numbersFit 163 = .ok (.iconst 0, 1) := by decide +kernel
theorem d_M_numbersFit_164 : decode b_M_numbersFit 164 = .ok (.iconst 4, 1) := by decide +kernel
theorem d_M_numbersFit_165 : decode b_M_numbersFit 165 = .ok (.invokestatic 92, 3) := by decide +kernel
theorem d_M_numbersFit_168 : decode b_M_numbersFit 168 = .ok (.goto 5, 3) := by decide +kernel
theorem d_M_numbersFit_171 : decode b_M_numbersFit 171 = .ok (.iload 4, 2) := by decide +kernel
theorem d_M_numbersFit_173 : decode b_M_numbersFit 173 = .ok (.istore 4, 2) := by decide +kernel
theorem d_M_numbersFit_175 : decode b_M_numbersFit 175 = .ok (.iload_n 1, 1) := by decide +kernel
theorem d_M_numbersFit_176 : decode b_M_numbersFit 176 = .ok (.bipush 12, 2) := by decide +kernel
theorem d_M_numbersFit_178 : decode b_M_numbersFit 178 = .ok (.if_icmp .ne 13, 3) := by decide +kernel
theorem d_M_numbersFit_181 : decode b_M_numbersFit 181 = .ok (.iload_n 2, 1) := by decide +kernel
theorem d_M_numbersFit_182 : decode b_M_numbersFit 182 = .ok (.iconst 0, 1) := by decide +kernel
theorem d_M_numbersFit_183 : decode b_M_numbersFit 183 = .ok (.bipush 102, 2) := by decide +kernel
theorem d_M_numbersFit_185 : decode b_M_numbersFit 185 = .ok (.invokestatic 92, 3) := by decide +kernel
theorem d_M_numbersFit_188 : decode b_M_numbersFit 188 = .ok (.goto 5, 3) := by decide +kernel
theorem d_M_numbersFit_191 : decode b_M_numbersFit 191 = .ok (.iload 4, 2) := by decide +kernel
theorem d_M_numbersFit_193 : decode b_M_numbersFit 193 = .ok (.istore 4, 2) := by decide +kernel
theorem d_M_numbersFit_195 : decode b_M_numbersFit 195 = .ok (.iload 4, 2) := by decide +kernel
theorem d_M_numbersFit_197 : decode b_M_numbersFit 197 = .ok (.ireturn, 1) := by decide +kernel
section
variable {p : Program} {l : Launch} {e : Env} {s : State} {m : MethodId} {args : Array Value} {below : List Frame} {meth : Method} {c : Code} {H : Heap} {locs : List Loc} {ls : Array Slot} {D : va_G} {A : Nat → Prop} {h o : Nat → Nat} {t v : Nat → ClassId}
def f_M_numbersFit_193 (u0 : St) (y0 : Int32) : Option (Int32) :=
  (sr_z y0).bind fun _ =>
  some y0
set_option maxHeartbeats 4000000 in
set_option maxRecDepth 100000 in
theorem k_M_numbersFit_193 {u0 : St} {y0 : Int32} {r : Int32} (X : sr_X D (tM t) b_M_numbersFit 5 R_M w_M_numbersFit p s m args meth c A (some .boolean)) (Z : sr_Z D A s.heap (wM h t u0) H locs) (hl : lv_has ls 5 []) (hf : f_M_numbersFit_193 u0 y0 = some r) : W p l e (sr_rm 1 22) s m args below meth c H locs 0 0 (sr_Qi D (tM t) below args s A (wM h t u0) r) (F0 m 193 ls [.int y0]) := by
  have hx := X.1
  have hb := X.2.1
  have hK := X.2.2.2.2.2.2.1
  unfold f_M_numbersFit_193 at hf
  refine lv_istore (lv' := [(4, .int y0)]) hx hb d_M_numbersFit_193 hl (by decide) rfl (fun ls hl => ?_)
  refine lv_iload hx hb d_M_numbersFit_195 (lv_at hl 0 rfl) ?_
  obtain ⟨_, e_11, hf⟩ := sr_b hf
  cases hf
  exact sr_retz X Z (sr_z_i e_11) d_M_numbersFit_197
def f_M_numbersFit_173 (u0 : St) (x1 : Int32) (x2 : Int32) (y0 : Int32) : Option (Int32) :=
  if x1 = 12 then
    (f_M_in x2 0 102).bind fun v_12 =>
    f_M_numbersFit_193 u0 v_12
  else
    f_M_numbersFit_193 u0 y0
set_option maxHeartbeats 4000000 in
set_option maxRecDepth 100000 in
theorem k_M_numbersFit_173 {u0 : St} {x1 : Int32} {x2 : Int32} {y0 : Int32} {r : Int32} (X : sr_X D (tM t) b_M_numbersFit 5 R_M w_M_numbersFit p s m args meth c A (some .boolean)) (Z : sr_Z D A s.heap (wM h t u0) H locs) (hl : lv_has ls 5 [(1, .int x1), (2, .int x2)]) (hf : f_M_numbersFit_173 u0 x1 x2 y0 = some r) : W p l e (sr_rm 1 22) s m args below meth c H locs 0 0 (sr_Qi D (tM t) below args s A (wM h t u0) r) (F0 m 173 ls [.int y0]) := by
  have hx := X.1
  have hb := X.2.1
  have hK := X.2.2.2.2.2.2.1
  unfold f_M_numbersFit_173 at hf
  refine lv_istore (lv' := [(4, .int y0), (1, .int x1), (2, .int x2)]) hx hb d_M_numbersFit_173 hl (by decide) rfl (fun ls hl => ?_)
  refine lv_iload_n hx hb d_M_numbersFit_175 rfl (lv_at hl 1 rfl) ?_
  refine lv_bipush (v := 12) hx hb d_M_numbersFit_176 (by decide) ?_
  refine lv_icmp_ne (tgt := 191) hx hb d_M_numbersFit_178 rfl (fun q_10 => ?_) (fun q_10 => ?_)
  · have hf := sr_if q_10 hf
    refine lv_iload hx hb d_M_numbersFit_191 (lv_at hl 0 rfl) ?_
    exact k_M_numbersFit_193 X Z (lv_sub hl [] rfl) hf
  · have hf := sr_it q_10 hf
    refine lv_iload_n hx hb d_M_numbersFit_181 rfl (lv_at hl 2 rfl) ?_
    refine lv_iconst (v := 0) hx hb d_M_numbersFit_182 (by decide) ?_
    refine lv_bipush (v := 102) hx hb d_M_numbersFit_183 (by decide) ?_
    obtain ⟨v_12, e_13, hf⟩ := sr_b hf
    refine sr_cSi (As := [.int x2, .int 0, .int 102]) (rest := []) X Z sr_cut_0 (va_K.sub hK [] rfl) (c_M_in e_13) (cw_M_92 X.2.2.2.2.2.1 (by decide)) rfl hl rfl (Nat.le_of_ble_eq_true rfl) d_M_numbersFit_185 (fun H locs Z => ?_)
    refine lv_goto (tgt := 193) hx hb d_M_numbersFit_188 rfl ?_
    exact k_M_numbersFit_193 X Z (lv_sub hl [] rfl) hf
def f_M_numbersFit_162 (u0 : St) (x1 : Int32) (x2 : Int32) : Option (Int32) :=
  (f_M_in x2 0 4).bind fun v_8 =>
  f_M_numbersFit_173 u0 x1 x2 v_8
set_option maxHeartbeats 4000000 in
set_option maxRecDepth 100000 in
theorem k_M_numbersFit_162 {u0 : St} {x1 : Int32} {x2 : Int32} {r : Int32} (X : sr_X D (tM t) b_M_numbersFit 5 R_M w_M_numbersFit p s m args meth c A (some .boolean)) (Z : sr_Z D A s.heap (wM h t u0) H locs) (hl : lv_has ls 5 [(1, .int x1), (2, .int x2)]) (hf : f_M_numbersFit_162 u0 x1 x2 = some r) : W p l e (sr_rm 1 22) s m args below meth c H locs 0 0 (sr_Qi D (tM t) below args s A (wM h t u0) r) (F0 m 162 ls []) := by
  have hx := X.1
  have hb := X.2.1
  have hK := X.2.2.2.2.2.2.1
  unfold f_M_numbersFit_162 at hf
  refine lv_iload_n hx hb d_M_numbersFit_162 rfl (lv_at hl 1 rfl) ?_
  refine lv_iconst (v := 0) hx hb d_M_numbersFit_163 (by decide) ?_
  refine lv_iconst (v := 4) hx hb d_M_numbersFit_164 (by decide) ?_
  obtain ⟨v_8, e_9, hf⟩ := sr_b hf
  refine sr_cSi (As := [.int x2, .int 0, .int 4]) (rest := []) X Z sr_cut_0 (va_K.sub hK [] rfl) (c_M_in e_9) (cw_M_92 X.2.2.2.2.2.1 (by decide)) rfl hl rfl (Nat.le_of_ble_eq_true rfl) d_M_numbersFit_165 (fun H locs Z => ?_)
  refine lv_goto (tgt := 173) hx hb d_M_numbersFit_168 rfl ?_
  exact k_M_numbersFit_173 X Z (lv_sub hl [0, 1] rfl) hf
def f_M_numbersFit_148 (u0 : St) (x1 : Int32) (x2 : Int32) (y0 : Int32) : Option (Int32) :=
  if x1 = 10 then
    f_M_numbersFit_162 u0 x1 x2
  else
    if x1 = 11 then
      f_M_numbersFit_162 u0 x1 x2
    else
      f_M_numbersFit_173 u0 x1 x2 y0
set_option maxHeartbeats 4000000 in
set_option maxRecDepth 100000 in
theorem k_M_numbersFit_148 {u0 : St} {x1 : Int32} {x2 : Int32} {y0 : Int32} {r : Int32} (X : sr_X D (tM t) b_M_numbersFit 5 R_M w_M_numbersFit p s m args meth c A (some .boolean)) (Z : sr_Z D A s.heap (wM h t u0) H locs) (hl : lv_has ls 5 [(1, .int x1), (2, .int x2)]) (hf : f_M_numbersFit_148 u0 x1 x2 y0 = some r) : W p l e (sr_rm 1 22) s m args below meth c H locs 0 0 (sr_Qi D (tM t) below args s A (wM h t u0) r) (F0 m 148 ls [.int y0]) := by
  have hx := X.1
  have hb := X.2.1
  have hK := X.2.2.2.2.2.2.1
  unfold f_M_numbersFit_148 at hf
  refine lv_istore (lv' := [(4, .int y0), (1, .int x1), (2, .int x2)]) hx hb d_M_numbersFit_148 hl (by decide) rfl (fun ls hl => ?_)
  refine lv_iload_n hx hb d_M_numbersFit_150 rfl (lv_at hl 1 rfl) ?_
  refine lv_bipush (v := 10) hx hb d_M_numbersFit_151 (by decide) ?_
  refine lv_icmp_eq (tgt := 162) hx hb d_M_numbersFit_153 rfl (fun q_7 => ?_) (fun q_7 => ?_)
  · have hf := sr_it q_7 hf
    exact k_M_numbersFit_162 X Z (lv_sub hl [1, 2] rfl) hf
  · have hf := sr_if q_7 hf
    refine lv_iload_n hx hb d_M_numbersFit_156 rfl (lv_at hl 1 rfl) ?_
    refine lv_bipush (v := 11) hx hb d_M_numbersFit_157 (by decide) ?_
    refine lv_icmp_ne (tgt := 171) hx hb d_M_numbersFit_159 rfl (fun q_14 => ?_) (fun q_14 => ?_)
    · have hf := sr_if q_14 hf
      refine lv_iload hx hb d_M_numbersFit_171 (lv_at hl 0 rfl) ?_
      exact k_M_numbersFit_173 X Z (lv_sub hl [1, 2] rfl) hf
    · have hf := sr_it q_14 hf
      exact k_M_numbersFit_162 X Z (lv_sub hl [1, 2] rfl) hf
def f_M_numbersFit_128 (u0 : St) (x1 : Int32) (x2 : Int32) (y0 : Int32) : Option (Int32) :=
  if x1 = 7 then
    (f_M_in x2 0 23).bind fun v_15 =>
    f_M_numbersFit_148 u0 x1 x2 v_15
  else
    f_M_numbersFit_148 u0 x1 x2 y0
set_option maxHeartbeats 4000000 in
set_option maxRecDepth 100000 in
theorem k_M_numbersFit_128 {u0 : St} {x1 : Int32} {x2 : Int32} {y0 : Int32} {r : Int32} (X : sr_X D (tM t) b_M_numbersFit 5 R_M w_M_numbersFit p s m args meth c A (some .boolean)) (Z : sr_Z D A s.heap (wM h t u0) H locs) (hl : lv_has ls 5 [(1, .int x1), (2, .int x2)]) (hf : f_M_numbersFit_128 u0 x1 x2 y0 = some r) : W p l e (sr_rm 1 22) s m args below meth c H locs 0 0 (sr_Qi D (tM t) below args s A (wM h t u0) r) (F0 m 128 ls [.int y0]) := by
  have hx := X.1
  have hb := X.2.1
  have hK := X.2.2.2.2.2.2.1
  unfold f_M_numbersFit_128 at hf
  refine lv_istore (lv' := [(4, .int y0), (1, .int x1), (2, .int x2)]) hx hb d_M_numbersFit_128 hl (by decide) rfl (fun ls hl => ?_)
  refine lv_iload_n hx hb d_M_numbersFit_130 rfl (lv_at hl 1 rfl) ?_
  refine lv_bipush (v := 7) hx hb d_M_numbersFit_131 (by decide) ?_
  refine lv_icmp_ne (tgt := 146) hx hb d_M_numbersFit_133 rfl (fun q_6 => ?_) (fun q_6 => ?_)
  · have hf := sr_if q_6 hf
    refine lv_iload hx hb d_M_numbersFit_146 (lv_at hl 0 rfl) ?_
    exact k_M_numbersFit_148 X Z (lv_sub hl [1, 2] rfl) hf
  · have hf := sr_it q_6 hf
    refine lv_iload_n hx hb d_M_numbersFit_136 rfl (lv_at hl 2 rfl) ?_
    refine lv_iconst (v := 0) hx hb d_M_numbersFit_137 (by decide) ?_
    refine lv_bipush (v := 23) hx hb d_M_numbersFit_138 (by decide) ?_
    obtain ⟨v_15, e_16, hf⟩ := sr_b hf
    refine sr_cSi (As := [.int x2, .int 0, .int 23]) (rest := []) X Z sr_cut_0 (va_K.sub hK [] rfl) (c_M_in e_16) (cw_M_92 X.2.2.2.2.2.1 (by decide)) rfl hl rfl (Nat.le_of_ble_eq_true rfl) d_M_numbersFit_140 (fun H locs Z => ?_)
    refine lv_goto (tgt := 148) hx hb d_M_numbersFit_143 rfl ?_
    exact k_M_numbersFit_148 X Z (lv_sub hl [1, 2] rfl) hf
def f_M_numbersFit_109 (u0 : St) (x1 : Int32) (x2 : Int32) (x3 : Int32) (y0 : Int32) : Option (Int32) :=
  if x1 = 6 then
    (f_M_in x3 0 4).bind fun v_17 =>
    f_M_numbersFit_128 u0 x1 x2 v_17
  else
    f_M_numbersFit_128 u0 x1 x2 y0
set_option maxHeartbeats 4000000 in
set_option maxRecDepth 100000 in
theorem k_M_numbersFit_109 {u0 : St} {x1 : Int32} {x2 : Int32} {x3 : Int32} {y0 : Int32} {r : Int32} (X : sr_X D (tM t) b_M_numbersFit 5 R_M w_M_numbersFit p s m args meth c A (some .boolean)) (Z : sr_Z D A s.heap (wM h t u0) H locs) (hl : lv_has ls 5 [(1, .int x1), (2, .int x2), (3, .int x3)]) (hf : f_M_numbersFit_109 u0 x1 x2 x3 y0 = some r) : W p l e (sr_rm 1 22) s m args below meth c H locs 0 0 (sr_Qi D (tM t) below args s A (wM h t u0) r) (F0 m 109 ls [.int y0]) := by
  have hx := X.1
  have hb := X.2.1
  have hK := X.2.2.2.2.2.2.1
  unfold f_M_numbersFit_109 at hf
  refine lv_istore (lv' := [(4, .int y0), (1, .int x1), (2, .int x2), (3, .int x3)]) hx hb d_M_numbersFit_109 hl (by decide) rfl (fun ls hl => ?_)
  refine lv_iload_n hx hb d_M_numbersFit_111 rfl (lv_at hl 1 rfl) ?_
  refine lv_bipush (v := 6) hx hb d_M_numbersFit_112 (by decide) ?_
  refine lv_icmp_ne (tgt := 126) hx hb d_M_numbersFit_114 rfl (fun q_5 => ?_) (fun q_5 => ?_)
  · have hf := sr_if q_5 hf
    refine lv_iload hx hb d_M_numbersFit_126 (lv_at hl 0 rfl) ?_
    exact k_M_numbersFit_128 X Z (lv_sub hl [1, 2] rfl) hf
  · have hf := sr_it q_5 hf
    refine lv_iload_n hx hb d_M_numbersFit_117 rfl (lv_at hl 3 rfl) ?_
    refine lv_iconst (v := 0) hx hb d_M_numbersFit_118 (by decide) ?_
    refine lv_iconst (v := 4) hx hb d_M_numbersFit_119 (by decide) ?_
    obtain ⟨v_17, e_18, hf⟩ := sr_b hf
    refine sr_cSi (As := [.int x3, .int 0, .int 4]) (rest := []) X Z sr_cut_0 (va_K.sub hK [] rfl) (c_M_in e_18) (cw_M_92 X.2.2.2.2.2.1 (by decide)) rfl hl rfl (Nat.le_of_ble_eq_true rfl) d_M_numbersFit_120 (fun H locs Z => ?_)
    refine lv_goto (tgt := 128) hx hb d_M_numbersFit_123 rfl ?_
    exact k_M_numbersFit_128 X Z (lv_sub hl [1, 2] rfl) hf
def f_M_numbersFit_103 (u0 : St) (x1 : Int32) (x2 : Int32) (x3 : Int32) : Option (Int32) :=
  f_M_numbersFit_109 u0 x1 x2 x3 0
set_option maxHeartbeats 4000000 in
set_option maxRecDepth 100000 in
theorem k_M_numbersFit_103 {u0 : St} {x1 : Int32} {x2 : Int32} {x3 : Int32} {r : Int32} (X : sr_X D (tM t) b_M_numbersFit 5 R_M w_M_numbersFit p s m args meth c A (some .boolean)) (Z : sr_Z D A s.heap (wM h t u0) H locs) (hl : lv_has ls 5 [(1, .int x1), (2, .int x2), (3, .int x3)]) (hf : f_M_numbersFit_103 u0 x1 x2 x3 = some r) : W p l e (sr_rm 1 22) s m args below meth c H locs 0 0 (sr_Qi D (tM t) below args s A (wM h t u0) r) (F0 m 103 ls []) := by
  have hx := X.1
  have hb := X.2.1
  have hK := X.2.2.2.2.2.2.1
  unfold f_M_numbersFit_103 at hf
  refine lv_iconst (v := 0) hx hb d_M_numbersFit_103 (by decide) ?_
  refine lv_goto (tgt := 109) hx hb d_M_numbersFit_104 rfl ?_
  exact k_M_numbersFit_109 X Z (lv_sub hl [0, 1, 2] rfl) hf
def f_M_numbersFit_73 (u0 : St) (x1 : Int32) (x2 : Int32) (x3 : Int32) (y0 : Int32) : Option (Int32) :=
  if x1 = 5 then
    (f_M_in x2 0 7).bind fun v_19 =>
    if v_19 = 0 then
      f_M_numbersFit_103 u0 x1 x2 x3
    else
      (f_M_in x3 0 4).bind fun v_22 =>
      if v_22 = 0 then
        f_M_numbersFit_103 u0 x1 x2 x3
      else
        f_M_numbersFit_109 u0 x1 x2 x3 1
  else
    f_M_numbersFit_109 u0 x1 x2 x3 y0
set_option maxHeartbeats 4000000 in
set_option maxRecDepth 100000 in
theorem k_M_numbersFit_73 {u0 : St} {x1 : Int32} {x2 : Int32} {x3 : Int32} {y0 : Int32} {r : Int32} (X : sr_X D (tM t) b_M_numbersFit 5 R_M w_M_numbersFit p s m args meth c A (some .boolean)) (Z : sr_Z D A s.heap (wM h t u0) H locs) (hl : lv_has ls 5 [(1, .int x1), (2, .int x2), (3, .int x3)]) (hf : f_M_numbersFit_73 u0 x1 x2 x3 y0 = some r) : W p l e (sr_rm 1 22) s m args below meth c H locs 0 0 (sr_Qi D (tM t) below args s A (wM h t u0) r) (F0 m 73 ls [.int y0]) := by
  have hx := X.1
  have hb := X.2.1
  have hK := X.2.2.2.2.2.2.1
  unfold f_M_numbersFit_73 at hf
  refine lv_istore (lv' := [(4, .int y0), (1, .int x1), (2, .int x2), (3, .int x3)]) hx hb d_M_numbersFit_73 hl (by decide) rfl (fun ls hl => ?_)
  refine lv_iload_n hx hb d_M_numbersFit_75 rfl (lv_at hl 1 rfl) ?_
  refine lv_iconst (v := 5) hx hb d_M_numbersFit_76 (by decide) ?_
  refine lv_icmp_ne (tgt := 107) hx hb d_M_numbersFit_77 rfl (fun q_4 => ?_) (fun q_4 => ?_)
  · have hf := sr_if q_4 hf
    refine lv_iload hx hb d_M_numbersFit_107 (lv_at hl 0 rfl) ?_
    exact k_M_numbersFit_109 X Z (lv_sub hl [1, 2, 3] rfl) hf
  · have hf := sr_it q_4 hf
    refine lv_iload_n hx hb d_M_numbersFit_80 rfl (lv_at hl 2 rfl) ?_
    refine lv_iconst (v := 0) hx hb d_M_numbersFit_81 (by decide) ?_
    refine lv_bipush (v := 7) hx hb d_M_numbersFit_82 (by decide) ?_
    obtain ⟨v_19, e_20, hf⟩ := sr_b hf
    refine sr_cSi (As := [.int x2, .int 0, .int 7]) (rest := []) X Z sr_cut_0 (va_K.sub hK [] rfl) (c_M_in e_20) (cw_M_92 X.2.2.2.2.2.1 (by decide)) rfl hl rfl (Nat.le_of_ble_eq_true rfl) d_M_numbersFit_84 (fun H locs Z => ?_)
    refine lv_if_eq (tgt := 103) hx hb d_M_numbersFit_87 rfl (fun q_21 => ?_) (fun q_21 => ?_)
    · have hf := sr_it q_21 hf
      exact k_M_numbersFit_103 X Z (lv_sub hl [1, 2, 3] rfl) hf
    · have hf := sr_if q_21 hf
      refine lv_iload_n hx hb d_M_numbersFit_90 rfl (lv_at hl 3 rfl) ?_
      refine lv_iconst (v := 0) hx hb d_M_numbersFit_91 (by decide) ?_
      refine lv_iconst (v := 4) hx hb d_M_numbersFit_92 (by decide) ?_
      obtain ⟨v_22, e_23, hf⟩ := sr_b hf
      refine sr_cSi (As := [.int x3, .int 0, .int 4]) (rest := []) X Z sr_cut_0 (va_K.sub hK [] rfl) (c_M_in e_23) (cw_M_92 X.2.2.2.2.2.1 (by decide)) rfl hl rfl (Nat.le_of_ble_eq_true rfl) d_M_numbersFit_93 (fun H locs Z => ?_)
      refine lv_if_eq (tgt := 103) hx hb d_M_numbersFit_96 rfl (fun q_24 => ?_) (fun q_24 => ?_)
      · have hf := sr_it q_24 hf
        exact k_M_numbersFit_103 X Z (lv_sub hl [1, 2, 3] rfl) hf
      · have hf := sr_if q_24 hf
        refine lv_iconst (v := 1) hx hb d_M_numbersFit_99 (by decide) ?_
        refine lv_goto (tgt := 109) hx hb d_M_numbersFit_100 rfl ?_
        exact k_M_numbersFit_109 X Z (lv_sub hl [1, 2, 3] rfl) hf
def f_M_numbersFit_54 (u0 : St) (x1 : Int32) (x2 : Int32) (x3 : Int32) (y0 : Int32) : Option (Int32) :=
  if x1 = 3 then
    (f_M_in x2 1 99).bind fun v_25 =>
    f_M_numbersFit_73 u0 x1 x2 x3 v_25
  else
    f_M_numbersFit_73 u0 x1 x2 x3 y0
set_option maxHeartbeats 4000000 in
set_option maxRecDepth 100000 in
theorem k_M_numbersFit_54 {u0 : St} {x1 : Int32} {x2 : Int32} {x3 : Int32} {y0 : Int32} {r : Int32} (X : sr_X D (tM t) b_M_numbersFit 5 R_M w_M_numbersFit p s m args meth c A (some .boolean)) (Z : sr_Z D A s.heap (wM h t u0) H locs) (hl : lv_has ls 5 [(1, .int x1), (2, .int x2), (3, .int x3)]) (hf : f_M_numbersFit_54 u0 x1 x2 x3 y0 = some r) : W p l e (sr_rm 1 22) s m args below meth c H locs 0 0 (sr_Qi D (tM t) below args s A (wM h t u0) r) (F0 m 54 ls [.int y0]) := by
  have hx := X.1
  have hb := X.2.1
  have hK := X.2.2.2.2.2.2.1
  unfold f_M_numbersFit_54 at hf
  refine lv_istore (lv' := [(4, .int y0), (1, .int x1), (2, .int x2), (3, .int x3)]) hx hb d_M_numbersFit_54 hl (by decide) rfl (fun ls hl => ?_)
  refine lv_iload_n hx hb d_M_numbersFit_56 rfl (lv_at hl 1 rfl) ?_
  refine lv_iconst (v := 3) hx hb d_M_numbersFit_57 (by decide) ?_
  refine lv_icmp_ne (tgt := 71) hx hb d_M_numbersFit_58 rfl (fun q_3 => ?_) (fun q_3 => ?_)
  · have hf := sr_if q_3 hf
    refine lv_iload hx hb d_M_numbersFit_71 (lv_at hl 0 rfl) ?_
    exact k_M_numbersFit_73 X Z (lv_sub hl [1, 2, 3] rfl) hf
  · have hf := sr_it q_3 hf
    refine lv_iload_n hx hb d_M_numbersFit_61 rfl (lv_at hl 2 rfl) ?_
    refine lv_iconst (v := 1) hx hb d_M_numbersFit_62 (by decide) ?_
    refine lv_bipush (v := 99) hx hb d_M_numbersFit_63 (by decide) ?_
    obtain ⟨v_25, e_26, hf⟩ := sr_b hf
    refine sr_cSi (As := [.int x2, .int 1, .int 99]) (rest := []) X Z sr_cut_0 (va_K.sub hK [] rfl) (c_M_in e_26) (cw_M_92 X.2.2.2.2.2.1 (by decide)) rfl hl rfl (Nat.le_of_ble_eq_true rfl) d_M_numbersFit_65 (fun H locs Z => ?_)
    refine lv_goto (tgt := 73) hx hb d_M_numbersFit_68 rfl ?_
    exact k_M_numbersFit_73 X Z (lv_sub hl [1, 2, 3] rfl) hf
def f_M_numbersFit_48 (u0 : St) (x1 : Int32) (x2 : Int32) (x3 : Int32) : Option (Int32) :=
  f_M_numbersFit_54 u0 x1 x2 x3 0
set_option maxHeartbeats 4000000 in
set_option maxRecDepth 100000 in
theorem k_M_numbersFit_48 {u0 : St} {x1 : Int32} {x2 : Int32} {x3 : Int32} {r : Int32} (X : sr_X D (tM t) b_M_numbersFit 5 R_M w_M_numbersFit p s m args meth c A (some .boolean)) (Z : sr_Z D A s.heap (wM h t u0) H locs) (hl : lv_has ls 5 [(1, .int x1), (2, .int x2), (3, .int x3)]) (hf : f_M_numbersFit_48 u0 x1 x2 x3 = some r) : W p l e (sr_rm 1 22) s m args below meth c H locs 0 0 (sr_Qi D (tM t) below args s A (wM h t u0) r) (F0 m 48 ls []) := by
  have hx := X.1
  have hb := X.2.1
  have hK := X.2.2.2.2.2.2.1
  unfold f_M_numbersFit_48 at hf
  refine lv_iconst (v := 0) hx hb d_M_numbersFit_48 (by decide) ?_
  refine lv_goto (tgt := 54) hx hb d_M_numbersFit_49 rfl ?_
  exact k_M_numbersFit_54 X Z (lv_sub hl [0, 1, 2] rfl) hf
def f_M_numbersFit_19 (u0 : St) (x1 : Int32) (x2 : Int32) (x3 : Int32) (y0 : Int32) : Option (Int32) :=
  if x1 = 2 then
    (f_M_in x2 0 4).bind fun v_27 =>
    if v_27 = 0 then
      f_M_numbersFit_48 u0 x1 x2 x3
    else
      (f_M_in x3 0 4).bind fun v_30 =>
      if v_30 = 0 then
        f_M_numbersFit_48 u0 x1 x2 x3
      else
        f_M_numbersFit_54 u0 x1 x2 x3 1
  else
    f_M_numbersFit_54 u0 x1 x2 x3 y0
set_option maxHeartbeats 4000000 in
set_option maxRecDepth 100000 in
theorem k_M_numbersFit_19 {u0 : St} {x1 : Int32} {x2 : Int32} {x3 : Int32} {y0 : Int32} {r : Int32} (X : sr_X D (tM t) b_M_numbersFit 5 R_M w_M_numbersFit p s m args meth c A (some .boolean)) (Z : sr_Z D A s.heap (wM h t u0) H locs) (hl : lv_has ls 5 [(1, .int x1), (2, .int x2), (3, .int x3)]) (hf : f_M_numbersFit_19 u0 x1 x2 x3 y0 = some r) : W p l e (sr_rm 1 22) s m args below meth c H locs 0 0 (sr_Qi D (tM t) below args s A (wM h t u0) r) (F0 m 19 ls [.int y0]) := by
  have hx := X.1
  have hb := X.2.1
  have hK := X.2.2.2.2.2.2.1
  unfold f_M_numbersFit_19 at hf
  refine lv_istore (lv' := [(4, .int y0), (1, .int x1), (2, .int x2), (3, .int x3)]) hx hb d_M_numbersFit_19 hl (by decide) rfl (fun ls hl => ?_)
  refine lv_iload_n hx hb d_M_numbersFit_21 rfl (lv_at hl 1 rfl) ?_
  refine lv_iconst (v := 2) hx hb d_M_numbersFit_22 (by decide) ?_
  refine lv_icmp_ne (tgt := 52) hx hb d_M_numbersFit_23 rfl (fun q_2 => ?_) (fun q_2 => ?_)
  · have hf := sr_if q_2 hf
    refine lv_iload hx hb d_M_numbersFit_52 (lv_at hl 0 rfl) ?_
    exact k_M_numbersFit_54 X Z (lv_sub hl [1, 2, 3] rfl) hf
  · have hf := sr_it q_2 hf
    refine lv_iload_n hx hb d_M_numbersFit_26 rfl (lv_at hl 2 rfl) ?_
    refine lv_iconst (v := 0) hx hb d_M_numbersFit_27 (by decide) ?_
    refine lv_iconst (v := 4) hx hb d_M_numbersFit_28 (by decide) ?_
    obtain ⟨v_27, e_28, hf⟩ := sr_b hf
    refine sr_cSi (As := [.int x2, .int 0, .int 4]) (rest := []) X Z sr_cut_0 (va_K.sub hK [] rfl) (c_M_in e_28) (cw_M_92 X.2.2.2.2.2.1 (by decide)) rfl hl rfl (Nat.le_of_ble_eq_true rfl) d_M_numbersFit_29 (fun H locs Z => ?_)
    refine lv_if_eq (tgt := 48) hx hb d_M_numbersFit_32 rfl (fun q_29 => ?_) (fun q_29 => ?_)
    · have hf := sr_it q_29 hf
      exact k_M_numbersFit_48 X Z (lv_sub hl [1, 2, 3] rfl) hf
    · have hf := sr_if q_29 hf
      refine lv_iload_n hx hb d_M_numbersFit_35 rfl (lv_at hl 3 rfl) ?_
      refine lv_iconst (v := 0) hx hb d_M_numbersFit_36 (by decide) ?_
      refine lv_iconst (v := 4) hx hb d_M_numbersFit_37 (by decide) ?_
      obtain ⟨v_30, e_31, hf⟩ := sr_b hf
      refine sr_cSi (As := [.int x3, .int 0, .int 4]) (rest := []) X Z sr_cut_0 (va_K.sub hK [] rfl) (c_M_in e_31) (cw_M_92 X.2.2.2.2.2.1 (by decide)) rfl hl rfl (Nat.le_of_ble_eq_true rfl) d_M_numbersFit_38 (fun H locs Z => ?_)
      refine lv_if_eq (tgt := 48) hx hb d_M_numbersFit_41 rfl (fun q_32 => ?_) (fun q_32 => ?_)
      · have hf := sr_it q_32 hf
        exact k_M_numbersFit_48 X Z (lv_sub hl [1, 2, 3] rfl) hf
      · have hf := sr_if q_32 hf
        refine lv_iconst (v := 1) hx hb d_M_numbersFit_44 (by decide) ?_
        refine lv_goto (tgt := 54) hx hb d_M_numbersFit_45 rfl ?_
        exact k_M_numbersFit_54 X Z (lv_sub hl [1, 2, 3] rfl) hf
def f_M_numbersFit (u0 : St) (x1 : Int32) (x2 : Int32) (x3 : Int32) : Option (Int32) :=
  if x1 = 1 then
    (f_M_in x2 0 4).bind fun v_33 =>
    f_M_numbersFit_19 u0 x1 x2 x3 v_33
  else
    f_M_numbersFit_19 u0 x1 x2 x3 1
set_option maxHeartbeats 4000000 in
set_option maxRecDepth 100000 in
theorem k_M_numbersFit_0 {u0 : St} {x1 : Int32} {x2 : Int32} {x3 : Int32} {r : Int32} (X : sr_X D (tM t) b_M_numbersFit 5 R_M w_M_numbersFit p s m args meth c A (some .boolean)) (Z : sr_Z D A s.heap (wM h t u0) H locs) (hl : lv_has ls 5 [(0, .ref (h 0)), (1, .int x1), (2, .int x2), (3, .int x3)]) (hf : f_M_numbersFit u0 x1 x2 x3 = some r) : W p l e (sr_rm 1 22) s m args below meth c H locs 0 0 (sr_Qi D (tM t) below args s A (wM h t u0) r) (F0 m 0 ls []) := by
  have hx := X.1
  have hb := X.2.1
  have hK := X.2.2.2.2.2.2.1
  unfold f_M_numbersFit at hf
  refine lv_iconst (v := 1) hx hb d_M_numbersFit_0 (by decide) ?_
  refine lv_istore (lv' := [(4, .int 1), (0, .ref (h 0)), (1, .int x1), (2, .int x2), (3, .int x3)]) hx hb d_M_numbersFit_1 hl (by decide) rfl (fun ls hl => ?_)
  refine lv_iload_n hx hb d_M_numbersFit_3 rfl (lv_at hl 2 rfl) ?_
  refine lv_iconst (v := 1) hx hb d_M_numbersFit_4 (by decide) ?_
  refine lv_icmp_ne (tgt := 17) hx hb d_M_numbersFit_5 rfl (fun q_1 => ?_) (fun q_1 => ?_)
  · have hf := sr_if q_1 hf
    refine lv_iload hx hb d_M_numbersFit_17 (lv_at hl 0 rfl) ?_
    exact k_M_numbersFit_19 X Z (lv_sub hl [2, 3, 4] rfl) hf
  · have hf := sr_it q_1 hf
    refine lv_iload_n hx hb d_M_numbersFit_8 rfl (lv_at hl 3 rfl) ?_
    refine lv_iconst (v := 0) hx hb d_M_numbersFit_9 (by decide) ?_
    refine lv_iconst (v := 4) hx hb d_M_numbersFit_10 (by decide) ?_
    obtain ⟨v_33, e_34, hf⟩ := sr_b hf
    refine sr_cSi (As := [.int x2, .int 0, .int 4]) (rest := []) X Z sr_cut_0 (va_K.sub hK [] rfl) (c_M_in e_34) (cw_M_92 X.2.2.2.2.2.1 (by decide)) rfl hl rfl (Nat.le_of_ble_eq_true rfl) d_M_numbersFit_11 (fun H locs Z => ?_)
    refine lv_goto (tgt := 19) hx hb d_M_numbersFit_14 rfl ?_
    exact k_M_numbersFit_19 X Z (lv_sub hl [2, 3, 4] rfl) hf
end
set_option maxHeartbeats 4000000 in
set_option maxRecDepth 100000 in
theorem c_M_numbersFit {l : Launch} {D : va_G} {h : Nat → Nat} {t : Nat → ClassId} {sz : Nat} {u0 : St} {x1 : Int32} {x2 : Int32} {x3 : Int32} {r : Int32} (hf : f_M_numbersFit u0 x1 x2 x3 = some r) : sr_Ci l y_M_numbersFit w_M_numbersFit (sr_rm 1 22) D (tM t) (wM h t u0) (wM h t u0) sz [.ref (h 0), .int x1, .int x2, .int x3] r := by
  refine Met.ofW (cc := b_M_numbersFit) (maxL := 5) (ret := (some .boolean)) (by decide) rfl ?_
  intro p e s m args below meth c s₁ B hml hv
  obtain ⟨rfl, hsz, hP, hK, hD0⟩ := hv
  subst hsz
  have X : sr_X D (tM t) b_M_numbersFit 5 R_M w_M_numbersFit p s m _ meth c (va_A (wM h t u0) s.heap.size) (some .boolean) := ⟨B.exec, B.bytes, hml, findClass_of_methodNamed B.named, B.notSynchronized, atoms_spec (ws := w_M_numbersFit) B.pre, hK, fun q h => Or.inr h, B.returns⟩
  have Z : sr_Z D (va_A (wM h t u0) s.heap.size) s.heap (wM h t u0) s.heap [] := ⟨hP, hD0.self, va_S.rf⟩
  have hl := lv_entry ([.ref (h 0), .int x1, .int x2, .int x3] : List Value) (n := 5) (Nat.le_of_ble_eq_true rfl)
  rw [lg_entry_eq]
  exact k_M_numbersFit_0 X Z hl hf
/-! M_nextInRole -/
theorem d_M_nextInRole_0 : decode b_M_nextInRole 0 = .ok (.iload_n 3, 1) := by decide +kernel
theorem d_M_nextInRole_1 : decode b_M_nextInRole 1 = .ok (.iconst 1, 1) := by decide +kernel
theorem d_M_nextInRole_2 : decode b_M_nextInRole 2 = .ok (.iadd, 1) := by decide +kernel
theorem d_M_nextInRole_3 : decode b_M_nextInRole 3 = .ok (.istore 4, 2) := by decide +kernel
theorem d_M_nextInRole_5 : decode b_M_nextInRole 5 = .ok (.iload 4, 2) := by decide +kernel
theorem d_M_nextInRole_7 : decode b_M_nextInRole 7 = .ok (.aload_n 0, 1) := by decide +kernel
theorem d_M_nextInRole_8 : decode b_M_nextInRole 8 = .ok (.getfield 100, 3) := by decide +kernel
theorem d_M_nextInRole_11 : decode b_M_nextInRole 11 = .ok (.if_icmp .ge 39, 3) := by decide +kernel
theorem d_M_nextInRole_14 : decode b_M_nextInRole 14 = .ok (.iload 4, 2) := by decide +kernel
theorem d_M_nextInRole_16 : decode b_M_nextInRole 16 = .ok (.ifCond .le 28, 3) := by decide +kernel
theorem d_M_nextInRole_19 : decode b_M_nextInRole 19 = .ok (.aload_n 0, 1) := by decide +kernel
theorem d_M_nextInRole_20 : decode b_M_nextInRole 20 = .ok (.getfield 7, 3) := by decide +kernel
theorem d_M_nextInRole_23 : decode b_M_nextInRole 23 = .ok (.iload 4, 2) := by decide +kernel
theorem d_M_nextInRole_25 : decode b_M_nextInRole 25 = .ok (.iaload, 1) := by decide +kernel
theorem d_M_nextInRole_26 : decode b_M_nextInRole 26 = .ok (.iload_n 1, 1) := by decide +kernel
theorem d_M_nextInRole_27 : decode b_M_nextInRole 27 = .ok (.if_icmp .ne 17, 3) := by decide +kernel
theorem d_M_nextInRole_30 : decode b_M_nextInRole 30 = .ok (.aload_n 0, 1) := by decide +kernel
theorem d_M_nextInRole_31 : decode b_M_nextInRole 31 = .ok (.getfield 13, 3) := by decide +kernel
theorem d_M_nextInRole_34 : decode b_M_nextInRole 34 = .ok (.iload 4, 2) := by decide +kernel
theorem d_M_nextInRole_36 : decode b_M_nextInRole 36 = .ok (.iaload, 1) := by decide +kernel
theorem d_M_nextInRole_37 : decode b_M_nextInRole 37 = .ok (.iload_n 2, 1) := by decide +kernel
theorem d_M_nextInRole_38 : decode b_M_nextInRole 38 = .ok (.if_icmp .ne 6, 3) := by decide +kernel
theorem d_M_nextInRole_41 : decode b_M_nextInRole 41 = .ok (.iload 4, 2) := by decide +kernel
theorem d_M_nextInRole_43 : decode b_M_nextInRole 43 = .ok (.ireturn, 1) := by decide +kernel
theorem d_M_nextInRole_44 : decode b_M_nextInRole 44 = .ok (.iinc 4 1, 3) := by decide +kernel
theorem d_M_nextInRole_47 : decode b_M_nextInRole 47 = .ok (.goto (-42), 3) := by decide +kernel
theorem d_M_nextInRole_50 : decode b_M_nextInRole 50 = .ok (.iconst (-1), 1) := by decide +kernel
theorem d_M_nextInRole_51 : decode b_M_nextInRole 51 = .ok (.ireturn, 1) := by decide +kernel
section
variable {p : Program} {l : Launch} {e : Env} {s : State} {m : MethodId} {args : Array Value} {below : List Frame} {meth : Method} {c : Code} {H : Heap} {locs : List Loc} {ls : Array Slot} {D : va_G} {A : Nat → Prop} {h o : Nat → Nat} {t v : Nat → ClassId}
def f_M_nextInRole_44 (k5 : Int32 → Int32 → Int32 → Option (Int32)) (u0 : St) (x1 : Int32) (x2 : Int32) (x4 : Int32) : Option (Int32) :=
  k5 x1 x2 (x4 + 1)
set_option maxHeartbeats 4000000 in
set_option maxRecDepth 100000 in
theorem k_M_nextInRole_44 {k5 : Int32 → Int32 → Int32 → Option (Int32)} {u0 : St} {x1 : Int32} {x2 : Int32} {x4 : Int32} {r : Int32} (X : sr_X D (tM t) b_M_nextInRole 5 R_M w_M_nextInRole p s m args meth c A (some .int)) (hk5 : ∀ (x1 : Int32) (x2 : Int32) (x4 : Int32) (H : Heap) (locs : List Loc) (ls : Array Slot), sr_Z D A s.heap (wM h t u0) H locs → lv_has ls 5 [(0, .ref (h 0)), (1, .int x1), (2, .int x2), (4, .int x4)] → k5 x1 x2 x4 = some r → W p l e (sr_rm 0 0) s m args below meth c H locs 0 0 (sr_Qi D (tM t) below args s A (wM h t u0) r) (F0 m 5 ls [])) (Z : sr_Z D A s.heap (wM h t u0) H locs) (hl : lv_has ls 5 [(0, .ref (h 0)), (1, .int x1), (2, .int x2), (4, .int x4)]) (hf : f_M_nextInRole_44 k5 u0 x1 x2 x4 = some r) : W p l e (sr_rm 0 0) s m args below meth c H locs 0 0 (sr_Qi D (tM t) below args s A (wM h t u0) r) (F0 m 44 ls []) := by
  have hx := X.1
  have hb := X.2.1
  have hK := X.2.2.2.2.2.2.1
  unfold f_M_nextInRole_44 at hf
  refine lv_iinc (k := 3) (v := x4 + 1) (lv' := [(4, .int (x4 + 1)), (0, .ref (h 0)), (1, .int x1), (2, .int x2)]) hx hb d_M_nextInRole_44 hl rfl rfl (by decide) rfl (fun ls hl => ?_)
  refine lv_goto (tgt := 5) hx hb d_M_nextInRole_47 rfl ?_
  exact hk5 x1 x2 (x4 + 1) _ _ _ Z (lv_sub hl [1, 2, 3, 0] rfl) hf
def f_M_nextInRole_5 (k5 : Int32 → Int32 → Int32 → Option (Int32)) (u0 : St) (x1 : Int32) (x2 : Int32) (x4 : Int32) : Option (Int32) :=
  if (u0 0 0) ≤ x4 then
    some (-1)
  else
    if x4 ≤ 0 then
      f_M_nextInRole_44 k5 u0 x1 x2 x4
    else
      (sr_ald 24 (u0 1) x4).bind fun v_3 =>
      if v_3 = x1 then
        (sr_ald 24 (u0 2) x4).bind fun v_6 =>
        if v_6 = x2 then
          some x4
        else
          f_M_nextInRole_44 k5 u0 x1 x2 x4
      else
        f_M_nextInRole_44 k5 u0 x1 x2 x4
set_option maxHeartbeats 4000000 in
set_option maxRecDepth 100000 in
theorem k_M_nextInRole_5 {k5 : Int32 → Int32 → Int32 → Option (Int32)} {u0 : St} {x1 : Int32} {x2 : Int32} {x4 : Int32} {r : Int32} (X : sr_X D (tM t) b_M_nextInRole 5 R_M w_M_nextInRole p s m args meth c A (some .int)) (hk5 : ∀ (x1 : Int32) (x2 : Int32) (x4 : Int32) (H : Heap) (locs : List Loc) (ls : Array Slot), sr_Z D A s.heap (wM h t u0) H locs → lv_has ls 5 [(0, .ref (h 0)), (1, .int x1), (2, .int x2), (4, .int x4)] → k5 x1 x2 x4 = some r → W p l e (sr_rm 0 0) s m args below meth c H locs 0 0 (sr_Qi D (tM t) below args s A (wM h t u0) r) (F0 m 5 ls [])) (Z : sr_Z D A s.heap (wM h t u0) H locs) (hl : lv_has ls 5 [(0, .ref (h 0)), (1, .int x1), (2, .int x2), (4, .int x4)]) (hf : f_M_nextInRole_5 k5 u0 x1 x2 x4 = some r) : W p l e (sr_rm 0 0) s m args below meth c H locs 0 0 (sr_Qi D (tM t) below args s A (wM h t u0) r) (F0 m 5 ls []) := by
  have hx := X.1
  have hb := X.2.1
  have hK := X.2.2.2.2.2.2.1
  unfold f_M_nextInRole_5 at hf
  refine lv_iload hx hb d_M_nextInRole_5 (lv_at hl 3 rfl) ?_
  refine lv_aload_n hx hb d_M_nextInRole_7 rfl (lv_at hl 0 rfl) ?_
  refine g_M_100_M X Z d_M_nextInRole_8 ?_
  refine lv_icmp_ge (tgt := 50) hx hb d_M_nextInRole_11 rfl (fun q_1 => ?_) (fun q_1 => ?_)
  · have hf := sr_it q_1 hf
    refine lv_iconst (v := -1) hx hb d_M_nextInRole_50 (by decide) ?_
    cases hf
    exact sr_reti X Z d_M_nextInRole_51
  · have hf := sr_if q_1 hf
    refine lv_iload hx hb d_M_nextInRole_14 (lv_at hl 3 rfl) ?_
    refine lv_if_le (tgt := 44) hx hb d_M_nextInRole_16 rfl (fun q_2 => ?_) (fun q_2 => ?_)
    · have hf := sr_it q_2 hf
      exact k_M_nextInRole_44 X hk5 Z (lv_sub hl [0, 1, 2, 3] rfl) hf
    · have hf := sr_if q_2 hf
      refine lv_aload_n hx hb d_M_nextInRole_19 rfl (lv_at hl 0 rfl) ?_
      refine g_M_7_M X Z d_M_nextInRole_20 ?_
      refine lv_iload hx hb d_M_nextInRole_23 (lv_at hl 3 rfl) ?_
      obtain ⟨v_3, e_4, hf⟩ := sr_b hf
      refine sr_iald hx hb hK Z 1 0 rfl rfl e_4 d_M_nextInRole_25 ?_
      refine lv_iload_n hx hb d_M_nextInRole_26 rfl (lv_at hl 1 rfl) ?_
      refine lv_icmp_ne (tgt := 44) hx hb d_M_nextInRole_27 rfl (fun q_5 => ?_) (fun q_5 => ?_)
      · have hf := sr_if q_5 hf
        exact k_M_nextInRole_44 X hk5 Z (lv_sub hl [0, 1, 2, 3] rfl) hf
      · have hf := sr_it q_5 hf
        refine lv_aload_n hx hb d_M_nextInRole_30 rfl (lv_at hl 0 rfl) ?_
        refine g_M_13_M X Z d_M_nextInRole_31 ?_
        refine lv_iload hx hb d_M_nextInRole_34 (lv_at hl 3 rfl) ?_
        obtain ⟨v_6, e_7, hf⟩ := sr_b hf
        refine sr_iald hx hb hK Z 2 1 rfl rfl e_7 d_M_nextInRole_36 ?_
        refine lv_iload_n hx hb d_M_nextInRole_37 rfl (lv_at hl 2 rfl) ?_
        refine lv_icmp_ne (tgt := 44) hx hb d_M_nextInRole_38 rfl (fun q_8 => ?_) (fun q_8 => ?_)
        · have hf := sr_if q_8 hf
          exact k_M_nextInRole_44 X hk5 Z (lv_sub hl [0, 1, 2, 3] rfl) hf
        · have hf := sr_it q_8 hf
          refine lv_iload hx hb d_M_nextInRole_41 (lv_at hl 3 rfl) ?_
          cases hf
          exact sr_reti X Z d_M_nextInRole_43
def f_M_nextInRole_5_it (u0 : St) : Nat → Int32 → Int32 → Int32 → Option (Int32)
  | 0 => fun _ _ _ => none
  | n + 1 => fun x1 x2 x4 => f_M_nextInRole_5 (f_M_nextInRole_5_it u0 n) u0 x1 x2 x4
set_option maxHeartbeats 4000000 in
set_option maxRecDepth 100000 in
theorem k_M_nextInRole_5_it {u0 : St} {r : Int32} (X : sr_X D (tM t) b_M_nextInRole 5 R_M w_M_nextInRole p s m args meth c A (some .int)) (n : Nat) : ∀ {x1 : Int32} {x2 : Int32} {x4 : Int32} {H : Heap} {locs : List Loc} {ls : Array Slot}, sr_Z D A s.heap (wM h t u0) H locs → lv_has ls 5 [(0, .ref (h 0)), (1, .int x1), (2, .int x2), (4, .int x4)] → f_M_nextInRole_5_it u0 n x1 x2 x4 = some r → W p l e (sr_rm 0 0) s m args below meth c H locs 0 0 (sr_Qi D (tM t) below args s A (wM h t u0) r) (F0 m 5 ls []) := by
  induction n with
  | zero => intro x1 x2 x4 H locs ls Z hl hf; exact absurd hf (by simp [f_M_nextInRole_5_it])
  | succ n ih =>
    intro x1 x2 x4 H locs ls Z hl hf
    exact k_M_nextInRole_5 X (fun x1 x2 x4 H locs ls Z hl hf => ih Z hl hf) Z hl hf
def f_M_nextInRole (u0 : St) (x1 : Int32) (x2 : Int32) (x3 : Int32) : Option (Int32) :=
  f_M_nextInRole_5_it u0 60 x1 x2 (x3 + 1)
set_option maxHeartbeats 4000000 in
set_option maxRecDepth 100000 in
theorem k_M_nextInRole_0 {u0 : St} {x1 : Int32} {x2 : Int32} {x3 : Int32} {r : Int32} (X : sr_X D (tM t) b_M_nextInRole 5 R_M w_M_nextInRole p s m args meth c A (some .int)) (Z : sr_Z D A s.heap (wM h t u0) H locs) (hl : lv_has ls 5 [(0, .ref (h 0)), (1, .int x1), (2, .int x2), (3, .int x3)]) (hf : f_M_nextInRole u0 x1 x2 x3 = some r) : W p l e (sr_rm 0 0) s m args below meth c H locs 0 0 (sr_Qi D (tM t) below args s A (wM h t u0) r) (F0 m 0 ls []) := by
  have hx := X.1
  have hb := X.2.1
  have hK := X.2.2.2.2.2.2.1
  unfold f_M_nextInRole at hf
  refine lv_iload_n hx hb d_M_nextInRole_0 rfl (lv_at hl 3 rfl) ?_
  refine lv_iconst (v := 1) hx hb d_M_nextInRole_1 (by decide) ?_
  refine lv_iadd hx hb d_M_nextInRole_2 ?_
  refine lv_istore (lv' := [(4, .int (x3 + 1)), (0, .ref (h 0)), (1, .int x1), (2, .int x2), (3, .int x3)]) hx hb d_M_nextInRole_3 hl (by decide) rfl (fun ls hl => ?_)
  exact k_M_nextInRole_5_it X _ Z (lv_sub hl [1, 2, 3, 0] rfl) hf
end
set_option maxHeartbeats 4000000 in
set_option maxRecDepth 100000 in
theorem c_M_nextInRole {l : Launch} {D : va_G} {h : Nat → Nat} {t : Nat → ClassId} {sz : Nat} {u0 : St} {x1 : Int32} {x2 : Int32} {x3 : Int32} {r : Int32} (hf : f_M_nextInRole u0 x1 x2 x3 = some r) : sr_Ci l y_M_nextInRole w_M_nextInRole (sr_rm 0 0) D (tM t) (wM h t u0) (wM h t u0) sz [.ref (h 0), .int x1, .int x2, .int x3] r := by
  refine Met.ofW (cc := b_M_nextInRole) (maxL := 5) (ret := (some .int)) (by decide) rfl ?_
  intro p e s m args below meth c s₁ B hml hv
  obtain ⟨rfl, hsz, hP, hK, hD0⟩ := hv
  subst hsz
  have X : sr_X D (tM t) b_M_nextInRole 5 R_M w_M_nextInRole p s m _ meth c (va_A (wM h t u0) s.heap.size) (some .int) := ⟨B.exec, B.bytes, hml, findClass_of_methodNamed B.named, B.notSynchronized, atoms_spec (ws := w_M_nextInRole) B.pre, hK, fun q h => Or.inr h, B.returns⟩
  have Z : sr_Z D (va_A (wM h t u0) s.heap.size) s.heap (wM h t u0) s.heap [] := ⟨hP, hD0.self, va_S.rf⟩
  have hl := lv_entry ([.ref (h 0), .int x1, .int x2, .int x3] : List Value) (n := 5) (Nat.le_of_ble_eq_true rfl)
  rw [lg_entry_eq]
  exact k_M_nextInRole_0 X Z hl hf
/-! M_inRole -/
theorem d_M_inRole_0 : decode b_M_inRole 0 = .ok (.aload_n 0, 1) := by decide +kernel
theorem d_M_inRole_1 : decode b_M_inRole 1 = .ok (.iload_n 1, 1) := by decide +kernel
theorem d_M_inRole_2 : decode b_M_inRole 2 = .ok (.iload_n 2, 1) := by decide +kernel
theorem d_M_inRole_3 : decode b_M_inRole 3 = .ok (.iconst (-1), 1) := by decide +kernel
theorem d_M_inRole_4 : decode b_M_inRole 4 = .ok (.invokevirtual 111, 3) := by decide +kernel
theorem d_M_inRole_7 : decode b_M_inRole 7 = .ok (.ireturn, 1) := by decide +kernel
section
variable {p : Program} {l : Launch} {e : Env} {s : State} {m : MethodId} {args : Array Value} {below : List Frame} {meth : Method} {c : Code} {H : Heap} {locs : List Loc} {ls : Array Slot} {D : va_G} {A : Nat → Prop} {h o : Nat → Nat} {t v : Nat → ClassId}
def f_M_inRole (u0 : St) (x1 : Int32) (x2 : Int32) : Option (Int32) :=
  (f_M_nextInRole u0 x1 x2 (-1)).bind fun v_1 =>
  some v_1
set_option maxHeartbeats 4000000 in
set_option maxRecDepth 100000 in
theorem k_M_inRole_0 {u0 : St} {x1 : Int32} {x2 : Int32} {r : Int32} (X : sr_X D (tM t) b_M_inRole 3 R_M w_M_inRole p s m args meth c A (some .int)) (Z : sr_Z D A s.heap (wM h t u0) H locs) (hl : lv_has ls 3 [(0, .ref (h 0)), (1, .int x1), (2, .int x2)]) (hf : f_M_inRole u0 x1 x2 = some r) : W p l e (sr_rm 1 24) s m args below meth c H locs 0 0 (sr_Qi D (tM t) below args s A (wM h t u0) r) (F0 m 0 ls []) := by
  have hx := X.1
  have hb := X.2.1
  have hK := X.2.2.2.2.2.2.1
  unfold f_M_inRole at hf
  refine lv_aload_n hx hb d_M_inRole_0 rfl (lv_at hl 0 rfl) ?_
  refine lv_iload_n hx hb d_M_inRole_1 rfl (lv_at hl 1 rfl) ?_
  refine lv_iload_n hx hb d_M_inRole_2 rfl (lv_at hl 2 rfl) ?_
  refine lv_iconst (v := -1) hx hb d_M_inRole_3 (by decide) ?_
  obtain ⟨v_1, e_2, hf⟩ := sr_b hf
  refine sr_cVi (As := [.int x1, .int x2, .int (-1)]) (rest := []) X Z sr_cut_self hK (c_M_nextInRole e_2) (cw_M_111 X.2.2.2.2.2.1 (by decide)) 0 rfl rfl rfl hl rfl (Nat.le_of_ble_eq_true rfl) d_M_inRole_4 (fun H locs Z => ?_)
  cases hf
  exact sr_reti X Z d_M_inRole_7
end
set_option maxHeartbeats 4000000 in
set_option maxRecDepth 100000 in
theorem c_M_inRole {l : Launch} {D : va_G} {h : Nat → Nat} {t : Nat → ClassId} {sz : Nat} {u0 : St} {x1 : Int32} {x2 : Int32} {r : Int32} (hf : f_M_inRole u0 x1 x2 = some r) : sr_Ci l y_M_inRole w_M_inRole (sr_rm 1 24) D (tM t) (wM h t u0) (wM h t u0) sz [.ref (h 0), .int x1, .int x2] r := by
  refine Met.ofW (cc := b_M_inRole) (maxL := 3) (ret := (some .int)) (by decide) rfl ?_
  intro p e s m args below meth c s₁ B hml hv
  obtain ⟨rfl, hsz, hP, hK, hD0⟩ := hv
  subst hsz
  have X : sr_X D (tM t) b_M_inRole 3 R_M w_M_inRole p s m _ meth c (va_A (wM h t u0) s.heap.size) (some .int) := ⟨B.exec, B.bytes, hml, findClass_of_methodNamed B.named, B.notSynchronized, atoms_spec (ws := w_M_inRole) B.pre, hK, fun q h => Or.inr h, B.returns⟩
  have Z : sr_Z D (va_A (wM h t u0) s.heap.size) s.heap (wM h t u0) s.heap [] := ⟨hP, hD0.self, va_S.rf⟩
  have hl := lv_entry ([.ref (h 0), .int x1, .int x2] : List Value) (n := 3) (Nat.le_of_ble_eq_true rfl)
  rw [lg_entry_eq]
  exact k_M_inRole_0 X Z hl hf
/-! M_add -/
theorem d_M_add_0 : decode b_M_add 0 = .ok (.aload_n 0, 1) := by decide +kernel
theorem d_M_add_1 : decode b_M_add 1 = .ok (.getfield 96, 3) := by decide +kernel
theorem d_M_add_4 : decode b_M_add 4 = .ok (.ifCond .ne 43, 3) := by decide +kernel
theorem d_M_add_7 : decode b_M_add 7 = .ok (.aload_n 0, 1) := by decide +kernel
theorem d_M_add_8 : decode b_M_add 8 = .ok (.getfield 100, 3) := by decide +kernel
theorem d_M_add_11 : decode b_M_add 11 = .ok (.bipush 24, 2) := by decide +kernel
theorem d_M_add_13 : decode b_M_add 13 = .ok (.if_icmp .ge 34, 3) := by decide +kernel
theorem d_M_add_16 : decode b_M_add 16 = .ok (.iload_n 3, 1) := by decide +kernel
theorem d_M_add_17 : decode b_M_add 17 = .ok (.iconst 0, 1) := by decide +kernel
theorem d_M_add_18 : decode b_M_add 18 = .ok (.bipush 12, 2) := by decide +kernel
theorem d_M_add_20 : decode b_M_add 20 = .ok (.invokestatic 92, 3) := by decide +kernel
theorem d_M_add_23 : decode b_M_add 23 = .ok (.ifCond .eq 24, 3) := by decide +kernel
theorem d_M_add_26 : decode b_M_add 26 = .ok (.aload_n 0, 1) := by decide +kernel
theorem d_M_add_27 : decode b_M_add 27 = .ok (.iload_n 3, 1) := by decide +kernel
theorem d_M_add_28 : decode b_M_add 28 = .ok (.iload 4, 2) := by decide +kernel
theorem d_M_add_30 : decode b_M_add 30 = .ok (.iload 5, 2) := by decide +kernel
theorem d_M_add_32 : decode b_M_add 32 = .ok (.invokevirtual 104, 3) := by decide +kernel
theorem d_M_add_35 : decode b_M_add 35 = .ok (.ifCond .eq 12, 3) := by decide +kernel
theorem d_M_add_38 : decode b_M_add 38 = .ok (.iload_n 2, 1) := by decide +kernel
theorem d_M_add_39 : decode b_M_add 39 = .ok (.iconst 0, 1) := by decide +kernel
theorem d_M_add_40 : decode b_M_add 40 = .ok (.iconst 2, 1) := by decide +kernel
theorem d_M_add_41 : decode b_M_add 41 = .ok (.invokestatic 92, 3) := by decide +kernel
theorem d_M_add_44 : decode b_M_add 44 = .ok (.ifCond .ne 5, 3) := by decide +kernel
theorem d_M_add_47 : decode b_M_add 47 = .ok (.iconst (-1), 1) := by decide +kernel
theorem d_M_add_48 : decode b_M_add 48 = .ok (.ireturn, 1) := by decide +kernel
theorem d_M_add_49 : decode b_M_add 49 = .ok (.aload_n 0, 1) := by decide +kernel
theorem d_M_add_50 : decode b_M_add 50 = .ok (.getfield 100, 3) := by decide +kernel
theorem d_M_add_53 : decode b_M_add 53 = .ok (.ifCond .ne 20, 3) := by decide +kernel
theorem d_M_add_56 : decode b_M_add 56 = .ok (.iload_n 1, 1) := by decide +kernel
theorem d_M_add_57 : decode b_M_add 57 = .ok (.iconst (-1), 1) := by decide +kernel
theorem d_M_add_58 : decode b_M_add 58 = .ok (.if_icmp .ne 13, 3) := by decide +kernel
theorem d_M_add_61 : decode b_M_add 61 = .ok (.iload_n 2, 1) := by decide +kernel
theorem d_M_add_62 : decode b_M_add 62 = .ok (.ifCond .ne 9, 3) := by decide +kernel
theorem d_M_add_65 : decode b_M_add 65 = .ok (.iload_n 3, 1) := by decide +kernel
theorem d_M_add_66 : decode b_M_add 66 = .ok (.bipush 12, 2) := by decide +kernel
theorem d_M_add_68 : decode b_M_add 68 = .ok (.if_icmp .eq 58, 3) := by decide +kernel
theorem d_M_add_71 : decode b_M_add 71 = .ok (.iconst (-1), 1) := by decide +kernel
theorem d_M_add_72 : decode b_M_add 72 = .ok (.ireturn, 1) := by decide +kernel
theorem d_M_add_73 : decode b_M_add 73 = .ok (.iload_n 1, 1) := by decide +kernel
theorem d_M_add_74 : decode b_M_add 74 = .ok (.iconst 0, 1) := by decide +kernel
theorem d_M_add_75 : decode b_M_add 75 = .ok (.aload_n 0, 1) := by decide +kernel
theorem d_M_add_76 : decode b_M_add 76 = .ok (.getfield 100, 3) := by decide +kernel
theorem d_M_add_79 : decode b_M_add 79 = .ok (.iconst 1, 1) := by decide +kernel
theorem d_M_add_80 : decode b_M_add 80 = .ok (.isub, 1) := by decide +kernel
theorem d_M_add_81 : decode b_M_add 81 = .ok (.invokestatic 92, 3) := by decide +kernel
theorem d_M_add_84 : decode b_M_add 84 = .ok (.ifCond .eq 14, 3) := by decide +kernel
theorem d_M_add_87 : decode b_M_add 87 = .ok (.aload_n 0, 1) := by decide +kernel
theorem d_M_add_88 : decode b_M_add 88 = .ok (.getfield 16, 3) := by decide +kernel
theorem d_M_add_91 : decode b_M_add 91 = .ok (.iload_n 1, 1) := by decide +kernel
theorem d_M_add_92 : decode b_M_add 92 = .ok (.iaload, 1) := by decide +kernel
theorem d_M_add_93 : decode b_M_add 93 = .ok (.bipush 8, 2) := by decide +kernel
theorem d_M_add_95 : decode b_M_add 95 = .ok (.if_icmp .ge 5, 3) := by decide +kernel
theorem d_M_add_98 : decode b_M_add 98 = .ok (.iconst (-1), 1) := by decide +kernel
theorem d_M_add_99 : decode b_M_add 99 = .ok (.ireturn, 1) := by decide +kernel
theorem d_M_add_100 : decode b_M_add 100 = .ok (.iload_n 2, 1) := by decide +kernel
theorem d_M_add_101 : decode b_M_add 101 = .ok (.ifCond .le 25, 3) := by decide +kernel
theorem d_M_add_104 : decode b_M_add 104 = .ok (.aload_n 0, 1) := by decide +kernel
theorem d_M_add_105 : decode b_M_add 105 = .ok (.getfield 16, 3) := by decide +kernel
theorem d_M_add_108 : decode b_M_add 108 = .ok (.iload_n 1, 1) := by decide +kernel
theorem d_M_add_109 : decode b_M_add 109 = .ok (.iaload, 1) := by decide +kernel
theorem d_M_add_110 : decode b_M_add 110 = .ok (.bipush 12, 2) := by decide +kernel
theorem d_M_add_112 : decode b_M_add 112 = .ok (.if_icmp .ne 12, 3) := by decide +kernel
theorem d_M_add_115 : decode b_M_add 115 = .ok (.aload_n 0, 1) := by decide +kernel
theorem d_M_add_116 : decode b_M_add 116 = .ok (.iload_n 1, 1) := by decide +kernel
theorem d_M_add_117 : decode b_M_add 117 = .ok (.iload_n 2, 1) := by decide +kernel
theorem d_M_add_118 : decode b_M_add 118 = .ok (.invokevirtual 107, 3) := by decide +kernel
theorem d_M_add_121 : decode b_M_add 121 = .ok (.ifCond .lt 5, 3) := by decide +kernel
theorem d_M_add_124 : decode b_M_add 124 = .ok (.iconst (-1), 1) := by decide +kernel
theorem d_M_add_125 : decode b_M_add 125 = .ok (.ireturn, 1) := by decide +kernel
theorem d_M_add_126 : decode b_M_add 126 = .ok (.aload_n 0, 1) := by decide +kernel
theorem d_M_add_127 : decode b_M_add 127 = .ok (.getfield 7, 3) := by decide +kernel
theorem d_M_add_130 : decode b_M_add 130 = .ok (.aload_n 0, 1) := by decide +kernel
theorem d_M_add_131 : decode b_M_add 131 = .ok (.getfield 100, 3) := by decide +kernel
theorem d_M_add_134 : decode b_M_add 134 = .ok (.iload_n 1, 1) := by decide +kernel
theorem d_M_add_135 : decode b_M_add 135 = .ok (.iastore, 1) := by decide +kernel
theorem d_M_add_136 : decode b_M_add 136 = .ok (.aload_n 0, 1) := by decide +kernel
theorem d_M_add_137 : decode b_M_add 137 = .ok (.getfield 13, 3) := by decide +kernel
theorem d_M_add_140 : decode b_M_add 140 = .ok (.aload_n 0, 1) := by decide +kernel
theorem d_M_add_141 : decode b_M_add 141 = .ok (.getfield 100, 3) := by decide +kernel
theorem d_M_add_144 : decode b_M_add 144 = .ok (.iload_n 2, 1) := by decide +kernel
theorem d_M_add_145 : decode b_M_add 145 = .ok (.iastore, 1) := by decide +kernel
theorem d_M_add_146 : decode b_M_add 146 = .ok (.aload_n 0, 1) := by decide +kernel
theorem d_M_add_147 : decode b_M_add 147 = .ok (.getfield 16, 3) := by decide +kernel
theorem d_M_add_150 : decode b_M_add 150 = .ok (.aload_n 0, 1) := by decide +kernel
theorem d_M_add_151 : decode b_M_add 151 = .ok (.getfield 100, 3) := by decide +kernel
theorem d_M_add_154 : decode b_M_add 154 = .ok (.iload_n 3, 1) := by decide +kernel
theorem d_M_add_155 : decode b_M_add 155 = .ok (.iastore, 1) := by decide +kernel
theorem d_M_add_156 : decode b_M_add 156 = .ok (.aload_n 0, 1) := by decide +kernel
theorem d_M_add_157 : decode b_M_add 157 = .ok (.getfield 19, 3) := by decide +kernel
theorem d_M_add_160 : decode b_M_add 160 = .ok (.aload_n 0, 1) := by decide +kernel
theorem d_M_add_161 : decode b_M_add 161 = .ok (.getfield 100, 3) := by decide +kernel
theorem d_M_add_164 : decode b_M_add 164 = .ok (.iload 4, 2) := by decide +kernel
theorem d_M_add_166 : decode b_M_add 166 = .ok (.iastore, 1) := by decide +kernel
theorem d_M_add_167 : decode b_M_add 167 = .ok (.aload_n 0, 1) := by decide +kernel
theorem d_M_add_168 : decode b_M_add 168 = .ok (.getfield 22, 3) := by decide +kernel
theorem d_M_add_171 : decode b_M_add 171 = .ok (.aload_n 0, 1) := by decide +kernel
theorem d_M_add_172 : decode b_M_add 172 = .ok (.getfield 100, 3) := by decide +kernel
theorem d_M_add_175 : decode b_M_add 175 = .ok (.iload 5, 2) := by decide +kernel
theorem d_M_add_177 : decode b_M_add 177 = .ok (.iastore, 1) := by decide +kernel
theorem d_M_add_178 : decode b_M_add 178 = .ok (.aload_n 0, 1) := by decide +kernel
theorem d_M_add_179 : decode b_M_add 179 = .ok (.dup, 1) := by decide +kernel
theorem d_M_add_180 : decode b_M_add 180 = .ok (.getfield 100, 3) := by decide +kernel
theorem d_M_add_183 : decode b_M_add 183 = .ok (.iconst 1, 1) := by decide +kernel
theorem d_M_add_184 : decode b_M_add 184 = .ok (.iadd, 1) := by decide +kernel
theorem d_M_add_185 : decode b_M_add 185 = .ok (.putfield 100, 3) := by decide +kernel
theorem d_M_add_188 : decode b_M_add 188 = .ok (.aload_n 0, 1) := by decide +kernel
theorem d_M_add_189 : decode b_M_add 189 = .ok (.getfield 100, 3) := by decide +kernel
theorem d_M_add_192 : decode b_M_add 192 = .ok (.iconst 1, 1) := by decide +kernel
theorem d_M_add_193 : decode b_M_add 193 = .ok (.isub, 1) := by decide +kernel
theorem d_M_add_194 : decode b_M_add 194 = .ok (.ireturn, 1) := by decide +kernel
section
variable {p : Program} {l : Launch} {e : Env} {s : State} {m : MethodId} {args : Array Value} {below : List Frame} {meth : Method} {c : Code} {H : Heap} {locs : List Loc} {ls : Array Slot} {D : va_G} {A : Nat → Prop} {h o : Nat → Nat} {t v : Nat → ClassId}
def f_M_add_126 (x1 : Int32) (x2 : Int32) (x3 : Int32) (x4 : Int32) (x5 : Int32) (u0 : St) : Option (Int32 × St) :=
  (sr_ast 24 u0 1 (u0 0 0) x1).bind fun u_20 =>
  (sr_ast 24 u_20 2 (u_20 0 0) x2).bind fun u_22 =>
  (sr_ast 24 u_22 3 (u_22 0 0) x3).bind fun u_24 =>
  (sr_ast 24 u_24 4 (u_24 0 0) x4).bind fun u_26 =>
  (sr_ast 24 u_26 5 (u_26 0 0) x5).bind fun u_28 =>
  (sr_pf u_28 0 ((u_28 0 0) + 1)).bind fun u_30 =>
  some ((u_30 0 0) - 1, u_30)
set_option maxHeartbeats 4000000 in
set_option maxRecDepth 100000 in
theorem k_M_add_126 {x1 : Int32} {x2 : Int32} {x3 : Int32} {x4 : Int32} {x5 : Int32} {u0 : St} {r : Int32} {u' : St} (X : sr_X D (tM t) b_M_add 6 R_M w_M_add p s m args meth c A (some .int)) (Z : sr_Z D A s.heap (wM h t u0) H locs) (hl : lv_has ls 6 [(0, .ref (h 0)), (1, .int x1), (2, .int x2), (3, .int x3), (4, .int x4), (5, .int x5)]) (hf : f_M_add_126 x1 x2 x3 x4 x5 u0 = some (r, u')) : W p l e (sr_rm 2 46) s m args below meth c H locs 0 0 (sr_Qi D (tM t) below args s A (wM h t u') r) (F0 m 126 ls []) := by
  have hx := X.1
  have hb := X.2.1
  have hK := X.2.2.2.2.2.2.1
  unfold f_M_add_126 at hf
  refine lv_aload_n hx hb d_M_add_126 rfl (lv_at hl 0 rfl) ?_
  refine g_M_7_M X Z d_M_add_127 ?_
  refine lv_aload_n hx hb d_M_add_130 rfl (lv_at hl 0 rfl) ?_
  refine g_M_100_M X Z d_M_add_131 ?_
  refine lv_iload_n hx hb d_M_add_134 rfl (lv_at hl 1 rfl) ?_
  obtain ⟨u_20, e_21, hf⟩ := sr_b hf
  refine sr_iast (wf := (fun q => (wM h t q))) hx hb hK Z 1 0 rfl rfl e_21 (fun _ => rfl) d_M_add_135 (fun H locs Z => ?_)
  refine lv_aload_n hx hb d_M_add_136 rfl (lv_at hl 0 rfl) ?_
  refine g_M_13_M X Z d_M_add_137 ?_
  refine lv_aload_n hx hb d_M_add_140 rfl (lv_at hl 0 rfl) ?_
  refine g_M_100_M X Z d_M_add_141 ?_
  refine lv_iload_n hx hb d_M_add_144 rfl (lv_at hl 2 rfl) ?_
  obtain ⟨u_22, e_23, hf⟩ := sr_b hf
  refine sr_iast (wf := (fun q => (wM h t q))) hx hb hK Z 2 1 rfl rfl e_23 (fun _ => rfl) d_M_add_145 (fun H locs Z => ?_)
  refine lv_aload_n hx hb d_M_add_146 rfl (lv_at hl 0 rfl) ?_
  refine g_M_16_M X Z d_M_add_147 ?_
  refine lv_aload_n hx hb d_M_add_150 rfl (lv_at hl 0 rfl) ?_
  refine g_M_100_M X Z d_M_add_151 ?_
  refine lv_iload_n hx hb d_M_add_154 rfl (lv_at hl 3 rfl) ?_
  obtain ⟨u_24, e_25, hf⟩ := sr_b hf
  refine sr_iast (wf := (fun q => (wM h t q))) hx hb hK Z 3 2 rfl rfl e_25 (fun _ => rfl) d_M_add_155 (fun H locs Z => ?_)
  refine lv_aload_n hx hb d_M_add_156 rfl (lv_at hl 0 rfl) ?_
  refine g_M_19_M X Z d_M_add_157 ?_
  refine lv_aload_n hx hb d_M_add_160 rfl (lv_at hl 0 rfl) ?_
  refine g_M_100_M X Z d_M_add_161 ?_
  refine lv_iload hx hb d_M_add_164 (lv_at hl 4 rfl) ?_
  obtain ⟨u_26, e_27, hf⟩ := sr_b hf
  refine sr_iast (wf := (fun q => (wM h t q))) hx hb hK Z 4 3 rfl rfl e_27 (fun _ => rfl) d_M_add_166 (fun H locs Z => ?_)
  refine lv_aload_n hx hb d_M_add_167 rfl (lv_at hl 0 rfl) ?_
  refine g_M_22_M X Z d_M_add_168 ?_
  refine lv_aload_n hx hb d_M_add_171 rfl (lv_at hl 0 rfl) ?_
  refine g_M_100_M X Z d_M_add_172 ?_
  refine lv_iload hx hb d_M_add_175 (lv_at hl 5 rfl) ?_
  obtain ⟨u_28, e_29, hf⟩ := sr_b hf
  refine sr_iast (wf := (fun q => (wM h t q))) hx hb hK Z 5 4 rfl rfl e_29 (fun _ => rfl) d_M_add_177 (fun H locs Z => ?_)
  refine lv_aload_n hx hb d_M_add_178 rfl (lv_at hl 0 rfl) ?_
  refine lv_dup hx hb d_M_add_179 rfl ?_
  refine g_M_100_M X Z d_M_add_180 ?_
  refine lv_iconst (v := 1) hx hb d_M_add_183 (by decide) ?_
  refine lv_iadd hx hb d_M_add_184 ?_
  obtain ⟨u_30, e_31, hf⟩ := sr_b hf
  refine s_M_100_M X Z e_31 d_M_add_185 (fun H locs Z => ?_)
  refine lv_aload_n hx hb d_M_add_188 rfl (lv_at hl 0 rfl) ?_
  refine g_M_100_M X Z d_M_add_189 ?_
  refine lv_iconst (v := 1) hx hb d_M_add_192 (by decide) ?_
  refine lv_isub hx hb d_M_add_193 ?_
  cases hf
  exact sr_reti X Z d_M_add_194
def f_M_add (x1 : Int32) (x2 : Int32) (x3 : Int32) (x4 : Int32) (x5 : Int32) (u0 : St) : Option (Int32 × St) :=
  if (u0 12 0) = 0 then
    if 24 ≤ (u0 0 0) then
      some (-1, u0)
    else
      (f_M_in x3 0 12).bind fun v_3 =>
      if v_3 = 0 then
        some (-1, u0)
      else
        (f_M_numbersFit u0 x3 x4 x5).bind fun v_6 =>
        if v_6 = 0 then
          some (-1, u0)
        else
          (f_M_in x2 0 2).bind fun v_9 =>
          if v_9 = 0 then
            some (-1, u0)
          else
            if (u0 0 0) = 0 then
              if x1 = (-1) then
                if x2 = 0 then
                  if x3 = 12 then
                    f_M_add_126 x1 x2 x3 x4 x5 u0
                  else
                    some (-1, u0)
                else
                  some (-1, u0)
              else
                some (-1, u0)
            else
              (f_M_in x1 0 ((u0 0 0) - 1)).bind fun v_13 =>
              if v_13 = 0 then
                some (-1, u0)
              else
                (sr_ald 24 (u0 3) x1).bind fun v_16 =>
                if 8 ≤ v_16 then
                  if x2 ≤ 0 then
                    f_M_add_126 x1 x2 x3 x4 x5 u0
                  else
                    (sr_ald 24 (u0 3) x1).bind fun v_32 =>
                    if v_32 = 12 then
                      (f_M_inRole u0 x1 x2).bind fun v_35 =>
                      if v_35 < 0 then
                        f_M_add_126 x1 x2 x3 x4 x5 u0
                      else
                        some (-1, u0)
                    else
                      some (-1, u0)
                else
                  some (-1, u0)
  else
    some (-1, u0)
set_option maxHeartbeats 4000000 in
set_option maxRecDepth 100000 in
theorem k_M_add_0 {x1 : Int32} {x2 : Int32} {x3 : Int32} {x4 : Int32} {x5 : Int32} {u0 : St} {r : Int32} {u' : St} (X : sr_X D (tM t) b_M_add 6 R_M w_M_add p s m args meth c A (some .int)) (Z : sr_Z D A s.heap (wM h t u0) H locs) (hl : lv_has ls 6 [(0, .ref (h 0)), (1, .int x1), (2, .int x2), (3, .int x3), (4, .int x4), (5, .int x5)]) (hf : f_M_add x1 x2 x3 x4 x5 u0 = some (r, u')) : W p l e (sr_rm 2 46) s m args below meth c H locs 0 0 (sr_Qi D (tM t) below args s A (wM h t u') r) (F0 m 0 ls []) := by
  have hx := X.1
  have hb := X.2.1
  have hK := X.2.2.2.2.2.2.1
  unfold f_M_add at hf
  refine lv_aload_n hx hb d_M_add_0 rfl (lv_at hl 0 rfl) ?_
  refine g_M_96_M X Z d_M_add_1 ?_
  refine lv_if_ne (tgt := 47) hx hb d_M_add_4 rfl (fun q_1 => ?_) (fun q_1 => ?_)
  · have hf := sr_if q_1 hf
    refine lv_iconst (v := -1) hx hb d_M_add_47 (by decide) ?_
    cases hf
    exact sr_reti X Z d_M_add_48
  · have hf := sr_it q_1 hf
    refine lv_aload_n hx hb d_M_add_7 rfl (lv_at hl 0 rfl) ?_
    refine g_M_100_M X Z d_M_add_8 ?_
    refine lv_bipush (v := 24) hx hb d_M_add_11 (by decide) ?_
    refine lv_icmp_ge (tgt := 47) hx hb d_M_add_13 rfl (fun q_2 => ?_) (fun q_2 => ?_)
    · have hf := sr_it q_2 hf
      refine lv_iconst (v := -1) hx hb d_M_add_47 (by decide) ?_
      cases hf
      exact sr_reti X Z d_M_add_48
    · have hf := sr_if q_2 hf
      refine lv_iload_n hx hb d_M_add_16 rfl (lv_at hl 3 rfl) ?_
      refine lv_iconst (v := 0) hx hb d_M_add_17 (by decide) ?_
      refine lv_bipush (v := 12) hx hb d_M_add_18 (by decide) ?_
      obtain ⟨v_3, e_4, hf⟩ := sr_b hf
      refine sr_cSi (As := [.int x3, .int 0, .int 12]) (rest := []) X Z sr_cut_0 (va_K.sub hK [] rfl) (c_M_in e_4) (cw_M_92 X.2.2.2.2.2.1 (by decide)) rfl hl rfl (Nat.le_of_ble_eq_true rfl) d_M_add_20 (fun H locs Z => ?_)
      refine lv_if_eq (tgt := 47) hx hb d_M_add_23 rfl (fun q_5 => ?_) (fun q_5 => ?_)
      · have hf := sr_it q_5 hf
        refine lv_iconst (v := -1) hx hb d_M_add_47 (by decide) ?_
        cases hf
        exact sr_reti X Z d_M_add_48
      · have hf := sr_if q_5 hf
        refine lv_aload_n hx hb d_M_add_26 rfl (lv_at hl 0 rfl) ?_
        refine lv_iload_n hx hb d_M_add_27 rfl (lv_at hl 3 rfl) ?_
        refine lv_iload hx hb d_M_add_28 (lv_at hl 4 rfl) ?_
        refine lv_iload hx hb d_M_add_30 (lv_at hl 5 rfl) ?_
        obtain ⟨v_6, e_7, hf⟩ := sr_b hf
        refine sr_cVi (As := [.int x3, .int x4, .int x5]) (rest := []) X Z sr_cut_self hK (c_M_numbersFit e_7) (cw_M_104 X.2.2.2.2.2.1 (by decide)) 0 rfl rfl rfl hl rfl (Nat.le_of_ble_eq_true rfl) d_M_add_32 (fun H locs Z => ?_)
        refine lv_if_eq (tgt := 47) hx hb d_M_add_35 rfl (fun q_8 => ?_) (fun q_8 => ?_)
        · have hf := sr_it q_8 hf
          refine lv_iconst (v := -1) hx hb d_M_add_47 (by decide) ?_
          cases hf
          exact sr_reti X Z d_M_add_48
        · have hf := sr_if q_8 hf
          refine lv_iload_n hx hb d_M_add_38 rfl (lv_at hl 2 rfl) ?_
          refine lv_iconst (v := 0) hx hb d_M_add_39 (by decide) ?_
          refine lv_iconst (v := 2) hx hb d_M_add_40 (by decide) ?_
          obtain ⟨v_9, e_10, hf⟩ := sr_b hf
          refine sr_cSi (As := [.int x2, .int 0, .int 2]) (rest := []) X Z sr_cut_0 (va_K.sub hK [] rfl) (c_M_in e_10) (cw_M_92 X.2.2.2.2.2.1 (by decide)) rfl hl rfl (Nat.le_of_ble_eq_true rfl) d_M_add_41 (fun H locs Z => ?_)
          refine lv_if_ne (tgt := 49) hx hb d_M_add_44 rfl (fun q_11 => ?_) (fun q_11 => ?_)
          · have hf := sr_if q_11 hf
            refine lv_aload_n hx hb d_M_add_49 rfl (lv_at hl 0 rfl) ?_
            refine g_M_100_M X Z d_M_add_50 ?_
            refine lv_if_ne (tgt := 73) hx hb d_M_add_53 rfl (fun q_12 => ?_) (fun q_12 => ?_)
            · have hf := sr_if q_12 hf
              refine lv_iload_n hx hb d_M_add_73 rfl (lv_at hl 1 rfl) ?_
              refine lv_iconst (v := 0) hx hb d_M_add_74 (by decide) ?_
              refine lv_aload_n hx hb d_M_add_75 rfl (lv_at hl 0 rfl) ?_
              refine g_M_100_M X Z d_M_add_76 ?_
              refine lv_iconst (v := 1) hx hb d_M_add_79 (by decide) ?_
              refine lv_isub hx hb d_M_add_80 ?_
              obtain ⟨v_13, e_14, hf⟩ := sr_b hf
              refine sr_cSi (As := [.int x1, .int 0, .int ((u0 0 0) - 1)]) (rest := []) X Z sr_cut_0 (va_K.sub hK [] rfl) (c_M_in e_14) (cw_M_92 X.2.2.2.2.2.1 (by decide)) rfl hl rfl (Nat.le_of_ble_eq_true rfl) d_M_add_81 (fun H locs Z => ?_)
              refine lv_if_eq (tgt := 98) hx hb d_M_add_84 rfl (fun q_15 => ?_) (fun q_15 => ?_)
              · have hf := sr_it q_15 hf
                refine lv_iconst (v := -1) hx hb d_M_add_98 (by decide) ?_
                cases hf
                exact sr_reti X Z d_M_add_99
              · have hf := sr_if q_15 hf
                refine lv_aload_n hx hb d_M_add_87 rfl (lv_at hl 0 rfl) ?_
                refine g_M_16_M X Z d_M_add_88 ?_
                refine lv_iload_n hx hb d_M_add_91 rfl (lv_at hl 1 rfl) ?_
                obtain ⟨v_16, e_17, hf⟩ := sr_b hf
                refine sr_iald hx hb hK Z 3 2 rfl rfl e_17 d_M_add_92 ?_
                refine lv_bipush (v := 8) hx hb d_M_add_93 (by decide) ?_
                refine lv_icmp_ge (tgt := 100) hx hb d_M_add_95 rfl (fun q_18 => ?_) (fun q_18 => ?_)
                · have hf := sr_it q_18 hf
                  refine lv_iload_n hx hb d_M_add_100 rfl (lv_at hl 2 rfl) ?_
                  refine lv_if_le (tgt := 126) hx hb d_M_add_101 rfl (fun q_19 => ?_) (fun q_19 => ?_)
                  · have hf := sr_it q_19 hf
                    exact k_M_add_126 X Z (lv_sub hl [0, 1, 2, 3, 4, 5] rfl) hf
                  · have hf := sr_if q_19 hf
                    refine lv_aload_n hx hb d_M_add_104 rfl (lv_at hl 0 rfl) ?_
                    refine g_M_16_M X Z d_M_add_105 ?_
                    refine lv_iload_n hx hb d_M_add_108 rfl (lv_at hl 1 rfl) ?_
                    obtain ⟨v_32, e_33, hf⟩ := sr_b hf
                    refine sr_iald hx hb hK Z 3 2 rfl rfl e_33 d_M_add_109 ?_
                    refine lv_bipush (v := 12) hx hb d_M_add_110 (by decide) ?_
                    refine lv_icmp_ne (tgt := 124) hx hb d_M_add_112 rfl (fun q_34 => ?_) (fun q_34 => ?_)
                    · have hf := sr_if q_34 hf
                      refine lv_iconst (v := -1) hx hb d_M_add_124 (by decide) ?_
                      cases hf
                      exact sr_reti X Z d_M_add_125
                    · have hf := sr_it q_34 hf
                      refine lv_aload_n hx hb d_M_add_115 rfl (lv_at hl 0 rfl) ?_
                      refine lv_iload_n hx hb d_M_add_116 rfl (lv_at hl 1 rfl) ?_
                      refine lv_iload_n hx hb d_M_add_117 rfl (lv_at hl 2 rfl) ?_
                      obtain ⟨v_35, e_36, hf⟩ := sr_b hf
                      refine sr_cVi (As := [.int x1, .int x2]) (rest := []) X Z sr_cut_self hK (c_M_inRole e_36) (cw_M_107 X.2.2.2.2.2.1 (by decide)) 0 rfl rfl rfl hl rfl (Nat.le_of_ble_eq_true rfl) d_M_add_118 (fun H locs Z => ?_)
                      refine lv_if_lt (tgt := 126) hx hb d_M_add_121 rfl (fun q_37 => ?_) (fun q_37 => ?_)
                      · have hf := sr_it q_37 hf
                        exact k_M_add_126 X Z (lv_sub hl [0, 1, 2, 3, 4, 5] rfl) hf
                      · have hf := sr_if q_37 hf
                        refine lv_iconst (v := -1) hx hb d_M_add_124 (by decide) ?_
                        cases hf
                        exact sr_reti X Z d_M_add_125
                · have hf := sr_if q_18 hf
                  refine lv_iconst (v := -1) hx hb d_M_add_98 (by decide) ?_
                  cases hf
                  exact sr_reti X Z d_M_add_99
            · have hf := sr_it q_12 hf
              refine lv_iload_n hx hb d_M_add_56 rfl (lv_at hl 1 rfl) ?_
              refine lv_iconst (v := -1) hx hb d_M_add_57 (by decide) ?_
              refine lv_icmp_ne (tgt := 71) hx hb d_M_add_58 rfl (fun q_38 => ?_) (fun q_38 => ?_)
              · have hf := sr_if q_38 hf
                refine lv_iconst (v := -1) hx hb d_M_add_71 (by decide) ?_
                cases hf
                exact sr_reti X Z d_M_add_72
              · have hf := sr_it q_38 hf
                refine lv_iload_n hx hb d_M_add_61 rfl (lv_at hl 2 rfl) ?_
                refine lv_if_ne (tgt := 71) hx hb d_M_add_62 rfl (fun q_39 => ?_) (fun q_39 => ?_)
                · have hf := sr_if q_39 hf
                  refine lv_iconst (v := -1) hx hb d_M_add_71 (by decide) ?_
                  cases hf
                  exact sr_reti X Z d_M_add_72
                · have hf := sr_it q_39 hf
                  refine lv_iload_n hx hb d_M_add_65 rfl (lv_at hl 3 rfl) ?_
                  refine lv_bipush (v := 12) hx hb d_M_add_66 (by decide) ?_
                  refine lv_icmp_eq (tgt := 126) hx hb d_M_add_68 rfl (fun q_40 => ?_) (fun q_40 => ?_)
                  · have hf := sr_it q_40 hf
                    exact k_M_add_126 X Z (lv_sub hl [0, 1, 2, 3, 4, 5] rfl) hf
                  · have hf := sr_if q_40 hf
                    refine lv_iconst (v := -1) hx hb d_M_add_71 (by decide) ?_
                    cases hf
                    exact sr_reti X Z d_M_add_72
          · have hf := sr_it q_11 hf
            refine lv_iconst (v := -1) hx hb d_M_add_47 (by decide) ?_
            cases hf
            exact sr_reti X Z d_M_add_48
end
set_option maxHeartbeats 4000000 in
set_option maxRecDepth 100000 in
theorem c_M_add {l : Launch} {D : va_G} {h : Nat → Nat} {t : Nat → ClassId} {sz : Nat} {x1 : Int32} {x2 : Int32} {x3 : Int32} {x4 : Int32} {x5 : Int32} {u0 : St} {r : Int32} {u' : St} (hf : f_M_add x1 x2 x3 x4 x5 u0 = some (r, u')) : sr_Ci l y_M_add w_M_add (sr_rm 2 46) D (tM t) (wM h t u0) (wM h t u') sz [.ref (h 0), .int x1, .int x2, .int x3, .int x4, .int x5] r := by
  refine Met.ofW (cc := b_M_add) (maxL := 6) (ret := (some .int)) (by decide) rfl ?_
  intro p e s m args below meth c s₁ B hml hv
  obtain ⟨rfl, hsz, hP, hK, hD0⟩ := hv
  subst hsz
  have X : sr_X D (tM t) b_M_add 6 R_M w_M_add p s m _ meth c (va_A (wM h t u0) s.heap.size) (some .int) := ⟨B.exec, B.bytes, hml, findClass_of_methodNamed B.named, B.notSynchronized, atoms_spec (ws := w_M_add) B.pre, hK, fun q h => Or.inr h, B.returns⟩
  have Z : sr_Z D (va_A (wM h t u0) s.heap.size) s.heap (wM h t u0) s.heap [] := ⟨hP, hD0.self, va_S.rf⟩
  have hl := lv_entry ([.ref (h 0), .int x1, .int x2, .int x3, .int x4, .int x5] : List Value) (n := 6) (Nat.le_of_ble_eq_true rfl)
  rw [lg_entry_eq]
  exact k_M_add_0 X Z hl hf
/-! M_children -/
theorem d_M_children_0 : decode b_M_children 0 = .ok (.iconst 0, 1) := by decide +kernel
theorem d_M_children_1 : decode b_M_children 1 = .ok (.istore_n 2, 1) := by decide +kernel
theorem d_M_children_2 : decode b_M_children 2 = .ok (.iconst 1, 1) := by decide +kernel
theorem d_M_children_3 : decode b_M_children 3 = .ok (.istore_n 3, 1) := by decide +kernel
theorem d_M_children_4 : decode b_M_children 4 = .ok (.iload_n 3, 1) := by decide +kernel
theorem d_M_children_5 : decode b_M_children 5 = .ok (.aload_n 0, 1) := by decide +kernel
theorem d_M_children_6 : decode b_M_children 6 = .ok (.getfield 100, 3) := by decide +kernel
theorem d_M_children_9 : decode b_M_children 9 = .ok (.if_icmp .ge 36, 3) := by decide +kernel
theorem d_M_children_12 : decode b_M_children 12 = .ok (.iload_n 2, 1) := by decide +kernel
theorem d_M_children_13 : decode b_M_children 13 = .ok (.aload_n 0, 1) := by decide +kernel
theorem d_M_children_14 : decode b_M_children 14 = .ok (.getfield 7, 3) := by decide +kernel
theorem d_M_children_17 : decode b_M_children 17 = .ok (.iload_n 3, 1) := by decide +kernel
theorem d_M_children_18 : decode b_M_children 18 = .ok (.iaload, 1) := by decide +kernel
theorem d_M_children_19 : decode b_M_children 19 = .ok (.iload_n 1, 1) := by decide +kernel
theorem d_M_children_20 : decode b_M_children 20 = .ok (.if_icmp .ne 16, 3) := by decide +kernel
theorem d_M_children_23 : decode b_M_children 23 = .ok (.aload_n 0, 1) := by decide +kernel
theorem d_M_children_24 : decode b_M_children 24 = .ok (.getfield 13, 3) := by decide +kernel
theorem d_M_children_27 : decode b_M_children 27 = .ok (.iload_n 3, 1) := by decide +kernel
theorem d_M_children_28 : decode b_M_children 28 = .ok (.iaload, 1) := by decide +kernel
theorem d_M_children_29 : decode b_M_children 29 = .ok (.ifCond .ne 7, 3) := by decide +kernel
theorem d_M_children_32 : decode b_M_children 32 = .ok (.iconst 1, 1) := by decide +kernel
theorem d_M_children_33 : decode b_M_children 33 = .ok (.goto 4, 3) := by decide +kernel
theorem d_M_children_36 : decode b_M_children 36 = .ok (.iconst 0, 1) := by decide +kernel
theorem d_M_children_37 : decode b_M_children 37 = .ok (.iadd, 1) := by decide +kernel
theorem d_M_children_38 : decode b_M_children 38 = .ok (.istore_n 2, 1) := by decide +kernel
theorem d_M_children_39 : decode b_M_children 39 = .ok (.iinc 3 1, 3) := by decide +kernel
theorem d_M_children_42 : decode b_M_children 42 = .ok (.goto (-38), 3) := by decide +kernel
theorem d_M_children_45 : decode b_M_children 45 = .ok (.iload_n 2, 1) := by decide +kernel
theorem d_M_children_46 : decode b_M_children 46 = .ok (.ireturn, 1) := by decide +kernel
section
variable {p : Program} {l : Launch} {e : Env} {s : State} {m : MethodId} {args : Array Value} {below : List Frame} {meth : Method} {c : Code} {H : Heap} {locs : List Loc} {ls : Array Slot} {D : va_G} {A : Nat → Prop} {h o : Nat → Nat} {t v : Nat → ClassId}
def f_M_children_37 (k4 : Int32 → Int32 → Int32 → Option (Int32)) (u0 : St) (x1 : Int32) (x3 : Int32) (y0 : Int32) (y1 : Int32) : Option (Int32) :=
  k4 x1 (y1 + y0) (x3 + 1)
set_option maxHeartbeats 4000000 in
set_option maxRecDepth 100000 in
theorem k_M_children_37 {k4 : Int32 → Int32 → Int32 → Option (Int32)} {u0 : St} {x1 : Int32} {x3 : Int32} {y0 : Int32} {y1 : Int32} {r : Int32} (X : sr_X D (tM t) b_M_children 4 R_M w_M_children p s m args meth c A (some .int)) (hk4 : ∀ (x1 : Int32) (x2 : Int32) (x3 : Int32) (H : Heap) (locs : List Loc) (ls : Array Slot), sr_Z D A s.heap (wM h t u0) H locs → lv_has ls 4 [(0, .ref (h 0)), (1, .int x1), (2, .int x2), (3, .int x3)] → k4 x1 x2 x3 = some r → W p l e (sr_rm 0 0) s m args below meth c H locs 0 0 (sr_Qi D (tM t) below args s A (wM h t u0) r) (F0 m 4 ls [])) (Z : sr_Z D A s.heap (wM h t u0) H locs) (hl : lv_has ls 4 [(0, .ref (h 0)), (1, .int x1), (3, .int x3)]) (hf : f_M_children_37 k4 u0 x1 x3 y0 y1 = some r) : W p l e (sr_rm 0 0) s m args below meth c H locs 0 0 (sr_Qi D (tM t) below args s A (wM h t u0) r) (F0 m 37 ls [.int y0, .int y1]) := by
  have hx := X.1
  have hb := X.2.1
  have hK := X.2.2.2.2.2.2.1
  unfold f_M_children_37 at hf
  refine lv_iadd hx hb d_M_children_37 ?_
  refine lv_istore_n (lv' := [(2, .int (y1 + y0)), (0, .ref (h 0)), (1, .int x1), (3, .int x3)]) hx hb d_M_children_38 rfl hl (by decide) rfl (fun ls hl => ?_)
  refine lv_iinc (k := 3) (v := x3 + 1) (lv' := [(3, .int (x3 + 1)), (2, .int (y1 + y0)), (0, .ref (h 0)), (1, .int x1)]) hx hb d_M_children_39 hl rfl rfl (by decide) rfl (fun ls hl => ?_)
  refine lv_goto (tgt := 4) hx hb d_M_children_42 rfl ?_
  exact hk4 x1 (y1 + y0) (x3 + 1) _ _ _ Z (lv_sub hl [2, 3, 1, 0] rfl) hf
def f_M_children_36 (k4 : Int32 → Int32 → Int32 → Option (Int32)) (u0 : St) (x1 : Int32) (x3 : Int32) (y0 : Int32) : Option (Int32) :=
  f_M_children_37 k4 u0 x1 x3 0 y0
set_option maxHeartbeats 4000000 in
set_option maxRecDepth 100000 in
theorem k_M_children_36 {k4 : Int32 → Int32 → Int32 → Option (Int32)} {u0 : St} {x1 : Int32} {x3 : Int32} {y0 : Int32} {r : Int32} (X : sr_X D (tM t) b_M_children 4 R_M w_M_children p s m args meth c A (some .int)) (hk4 : ∀ (x1 : Int32) (x2 : Int32) (x3 : Int32) (H : Heap) (locs : List Loc) (ls : Array Slot), sr_Z D A s.heap (wM h t u0) H locs → lv_has ls 4 [(0, .ref (h 0)), (1, .int x1), (2, .int x2), (3, .int x3)] → k4 x1 x2 x3 = some r → W p l e (sr_rm 0 0) s m args below meth c H locs 0 0 (sr_Qi D (tM t) below args s A (wM h t u0) r) (F0 m 4 ls [])) (Z : sr_Z D A s.heap (wM h t u0) H locs) (hl : lv_has ls 4 [(0, .ref (h 0)), (1, .int x1), (3, .int x3)]) (hf : f_M_children_36 k4 u0 x1 x3 y0 = some r) : W p l e (sr_rm 0 0) s m args below meth c H locs 0 0 (sr_Qi D (tM t) below args s A (wM h t u0) r) (F0 m 36 ls [.int y0]) := by
  have hx := X.1
  have hb := X.2.1
  have hK := X.2.2.2.2.2.2.1
  unfold f_M_children_36 at hf
  refine lv_iconst (v := 0) hx hb d_M_children_36 (by decide) ?_
  exact k_M_children_37 X hk4 Z (lv_sub hl [0, 1, 2] rfl) hf
def f_M_children_4 (k4 : Int32 → Int32 → Int32 → Option (Int32)) (u0 : St) (x1 : Int32) (x2 : Int32) (x3 : Int32) : Option (Int32) :=
  if (u0 0 0) ≤ x3 then
    some x2
  else
    (sr_ald 24 (u0 1) x3).bind fun v_2 =>
    if v_2 = x1 then
      (sr_ald 24 (u0 2) x3).bind fun v_5 =>
      if v_5 = 0 then
        f_M_children_37 k4 u0 x1 x3 1 x2
      else
        f_M_children_36 k4 u0 x1 x3 x2
    else
      f_M_children_36 k4 u0 x1 x3 x2
set_option maxHeartbeats 4000000 in
set_option maxRecDepth 100000 in
theorem k_M_children_4 {k4 : Int32 → Int32 → Int32 → Option (Int32)} {u0 : St} {x1 : Int32} {x2 : Int32} {x3 : Int32} {r : Int32} (X : sr_X D (tM t) b_M_children 4 R_M w_M_children p s m args meth c A (some .int)) (hk4 : ∀ (x1 : Int32) (x2 : Int32) (x3 : Int32) (H : Heap) (locs : List Loc) (ls : Array Slot), sr_Z D A s.heap (wM h t u0) H locs → lv_has ls 4 [(0, .ref (h 0)), (1, .int x1), (2, .int x2), (3, .int x3)] → k4 x1 x2 x3 = some r → W p l e (sr_rm 0 0) s m args below meth c H locs 0 0 (sr_Qi D (tM t) below args s A (wM h t u0) r) (F0 m 4 ls [])) (Z : sr_Z D A s.heap (wM h t u0) H locs) (hl : lv_has ls 4 [(0, .ref (h 0)), (1, .int x1), (2, .int x2), (3, .int x3)]) (hf : f_M_children_4 k4 u0 x1 x2 x3 = some r) : W p l e (sr_rm 0 0) s m args below meth c H locs 0 0 (sr_Qi D (tM t) below args s A (wM h t u0) r) (F0 m 4 ls []) := by
  have hx := X.1
  have hb := X.2.1
  have hK := X.2.2.2.2.2.2.1
  unfold f_M_children_4 at hf
  refine lv_iload_n hx hb d_M_children_4 rfl (lv_at hl 3 rfl) ?_
  refine lv_aload_n hx hb d_M_children_5 rfl (lv_at hl 0 rfl) ?_
  refine g_M_100_M X Z d_M_children_6 ?_
  refine lv_icmp_ge (tgt := 45) hx hb d_M_children_9 rfl (fun q_1 => ?_) (fun q_1 => ?_)
  · have hf := sr_it q_1 hf
    refine lv_iload_n hx hb d_M_children_45 rfl (lv_at hl 2 rfl) ?_
    cases hf
    exact sr_reti X Z d_M_children_46
  · have hf := sr_if q_1 hf
    refine lv_iload_n hx hb d_M_children_12 rfl (lv_at hl 2 rfl) ?_
    refine lv_aload_n hx hb d_M_children_13 rfl (lv_at hl 0 rfl) ?_
    refine g_M_7_M X Z d_M_children_14 ?_
    refine lv_iload_n hx hb d_M_children_17 rfl (lv_at hl 3 rfl) ?_
    obtain ⟨v_2, e_3, hf⟩ := sr_b hf
    refine sr_iald hx hb hK Z 1 0 rfl rfl e_3 d_M_children_18 ?_
    refine lv_iload_n hx hb d_M_children_19 rfl (lv_at hl 1 rfl) ?_
    refine lv_icmp_ne (tgt := 36) hx hb d_M_children_20 rfl (fun q_4 => ?_) (fun q_4 => ?_)
    · have hf := sr_if q_4 hf
      exact k_M_children_36 X hk4 Z (lv_sub hl [0, 1, 3] rfl) hf
    · have hf := sr_it q_4 hf
      refine lv_aload_n hx hb d_M_children_23 rfl (lv_at hl 0 rfl) ?_
      refine g_M_13_M X Z d_M_children_24 ?_
      refine lv_iload_n hx hb d_M_children_27 rfl (lv_at hl 3 rfl) ?_
      obtain ⟨v_5, e_6, hf⟩ := sr_b hf
      refine sr_iald hx hb hK Z 2 1 rfl rfl e_6 d_M_children_28 ?_
      refine lv_if_ne (tgt := 36) hx hb d_M_children_29 rfl (fun q_7 => ?_) (fun q_7 => ?_)
      · have hf := sr_if q_7 hf
        exact k_M_children_36 X hk4 Z (lv_sub hl [0, 1, 3] rfl) hf
      · have hf := sr_it q_7 hf
        refine lv_iconst (v := 1) hx hb d_M_children_32 (by decide) ?_
        refine lv_goto (tgt := 37) hx hb d_M_children_33 rfl ?_
        exact k_M_children_37 X hk4 Z (lv_sub hl [0, 1, 3] rfl) hf
def f_M_children_4_it (u0 : St) : Nat → Int32 → Int32 → Int32 → Option (Int32)
  | 0 => fun _ _ _ => none
  | n + 1 => fun x1 x2 x3 => f_M_children_4 (f_M_children_4_it u0 n) u0 x1 x2 x3
set_option maxHeartbeats 4000000 in
set_option maxRecDepth 100000 in
theorem k_M_children_4_it {u0 : St} {r : Int32} (X : sr_X D (tM t) b_M_children 4 R_M w_M_children p s m args meth c A (some .int)) (n : Nat) : ∀ {x1 : Int32} {x2 : Int32} {x3 : Int32} {H : Heap} {locs : List Loc} {ls : Array Slot}, sr_Z D A s.heap (wM h t u0) H locs → lv_has ls 4 [(0, .ref (h 0)), (1, .int x1), (2, .int x2), (3, .int x3)] → f_M_children_4_it u0 n x1 x2 x3 = some r → W p l e (sr_rm 0 0) s m args below meth c H locs 0 0 (sr_Qi D (tM t) below args s A (wM h t u0) r) (F0 m 4 ls []) := by
  induction n with
  | zero => intro x1 x2 x3 H locs ls Z hl hf; exact absurd hf (by simp [f_M_children_4_it])
  | succ n ih =>
    intro x1 x2 x3 H locs ls Z hl hf
    exact k_M_children_4 X (fun x1 x2 x3 H locs ls Z hl hf => ih Z hl hf) Z hl hf
def f_M_children (u0 : St) (x1 : Int32) : Option (Int32) :=
  f_M_children_4_it u0 60 x1 0 1
set_option maxHeartbeats 4000000 in
set_option maxRecDepth 100000 in
theorem k_M_children_0 {u0 : St} {x1 : Int32} {r : Int32} (X : sr_X D (tM t) b_M_children 4 R_M w_M_children p s m args meth c A (some .int)) (Z : sr_Z D A s.heap (wM h t u0) H locs) (hl : lv_has ls 4 [(0, .ref (h 0)), (1, .int x1)]) (hf : f_M_children u0 x1 = some r) : W p l e (sr_rm 0 0) s m args below meth c H locs 0 0 (sr_Qi D (tM t) below args s A (wM h t u0) r) (F0 m 0 ls []) := by
  have hx := X.1
  have hb := X.2.1
  have hK := X.2.2.2.2.2.2.1
  unfold f_M_children at hf
  refine lv_iconst (v := 0) hx hb d_M_children_0 (by decide) ?_
  refine lv_istore_n (lv' := [(2, .int 0), (0, .ref (h 0)), (1, .int x1)]) hx hb d_M_children_1 rfl hl (by decide) rfl (fun ls hl => ?_)
  refine lv_iconst (v := 1) hx hb d_M_children_2 (by decide) ?_
  refine lv_istore_n (lv' := [(3, .int 1), (2, .int 0), (0, .ref (h 0)), (1, .int x1)]) hx hb d_M_children_3 rfl hl (by decide) rfl (fun ls hl => ?_)
  exact k_M_children_4_it X _ Z (lv_sub hl [2, 3, 1, 0] rfl) hf
end
set_option maxHeartbeats 4000000 in
set_option maxRecDepth 100000 in
theorem c_M_children {l : Launch} {D : va_G} {h : Nat → Nat} {t : Nat → ClassId} {sz : Nat} {u0 : St} {x1 : Int32} {r : Int32} (hf : f_M_children u0 x1 = some r) : sr_Ci l y_M_children w_M_children (sr_rm 0 0) D (tM t) (wM h t u0) (wM h t u0) sz [.ref (h 0), .int x1] r := by
  refine Met.ofW (cc := b_M_children) (maxL := 4) (ret := (some .int)) (by decide) rfl ?_
  intro p e s m args below meth c s₁ B hml hv
  obtain ⟨rfl, hsz, hP, hK, hD0⟩ := hv
  subst hsz
  have X : sr_X D (tM t) b_M_children 4 R_M w_M_children p s m _ meth c (va_A (wM h t u0) s.heap.size) (some .int) := ⟨B.exec, B.bytes, hml, findClass_of_methodNamed B.named, B.notSynchronized, atoms_spec (ws := w_M_children) B.pre, hK, fun q h => Or.inr h, B.returns⟩
  have Z : sr_Z D (va_A (wM h t u0) s.heap.size) s.heap (wM h t u0) s.heap [] := ⟨hP, hD0.self, va_S.rf⟩
  have hl := lv_entry ([.ref (h 0), .int x1] : List Value) (n := 4) (Nat.le_of_ble_eq_true rfl)
  rw [lg_entry_eq]
  exact k_M_children_0 X Z hl hf
/-! M_below -/
theorem d_M_below_0 : decode b_M_below 0 = .ok (.iload_n 1, 1) := by decide +kernel
theorem d_M_below_1 : decode b_M_below 1 = .ok (.ifCond .ne 7, 3) := by decide +kernel
theorem d_M_below_4 : decode b_M_below 4 = .ok (.iconst (-1), 1) := by decide +kernel
theorem d_M_below_5 : decode b_M_below 5 = .ok (.goto 9, 3) := by decide +kernel
theorem d_M_below_8 : decode b_M_below 8 = .ok (.aload_n 0, 1) := by decide +kernel
theorem d_M_below_9 : decode b_M_below 9 = .ok (.getfield 7, 3) := by decide +kernel
theorem d_M_below_12 : decode b_M_below 12 = .ok (.iload_n 1, 1) := by decide +kernel
theorem d_M_below_13 : decode b_M_below 13 = .ok (.iaload, 1) := by decide +kernel
theorem d_M_below_14 : decode b_M_below 14 = .ok (.istore_n 3, 1) := by decide +kernel
theorem d_M_below_15 : decode b_M_below 15 = .ok (.iconst 0, 1) := by decide +kernel
theorem d_M_below_16 : decode b_M_below 16 = .ok (.istore 4, 2) := by decide +kernel
theorem d_M_below_18 : decode b_M_below 18 = .ok (.iload 4, 2) := by decide +kernel
theorem d_M_below_20 : decode b_M_below 20 = .ok (.bipush 24, 2) := by decide +kernel
theorem d_M_below_22 : decode b_M_below 22 = .ok (.if_icmp .ge 35, 3) := by decide +kernel
theorem d_M_below_25 : decode b_M_below 25 = .ok (.iload_n 3, 1) := by decide +kernel
theorem d_M_below_26 : decode b_M_below 26 = .ok (.ifCond .lt 31, 3) := by decide +kernel
theorem d_M_below_29 : decode b_M_below 29 = .ok (.iload_n 3, 1) := by decide +kernel
theorem d_M_below_30 : decode b_M_below 30 = .ok (.iload_n 2, 1) := by decide +kernel
theorem d_M_below_31 : decode b_M_below 31 = .ok (.if_icmp .ne 5, 3) := by decide +kernel
theorem d_M_below_34 : decode b_M_below 34 = .ok (.iconst 1, 1) := by decide +kernel
theorem d_M_below_35 : decode b_M_below 35 = .ok (.ireturn, 1) := by decide +kernel
theorem d_M_below_36 : decode b_M_below 36 = .ok (.iload_n 3, 1) := by decide +kernel
theorem d_M_below_37 : decode b_M_below 37 = .ok (.ifCond .ne 7, 3) := by decide +kernel
theorem d_M_below_40 : decode b_M_below 40 = .ok (.iconst (-1), 1) := by decide +kernel
theorem d_M_below_41 : decode b_M_below 41 = .ok (.goto 9, 3) := by decide +kernel
theorem d_M_below_44 : decode b_M_below 44 = .ok (.aload_n 0, 1) := by decide +kernel
theorem d_M_below_45 : decode b_M_below 45 = .ok (.getfield 7, 3) := by decide +kernel
theorem d_M_below_48 : decode b_M_below 48 = .ok (.iload_n 3, 1) := by decide +kernel
theorem d_M_below_49 : decode b_M_below 49 = .ok (.iaload, 1) := by decide +kernel
theorem d_M_below_50 : decode b_M_below 50 = .ok (.istore_n 3, 1) := by decide +kernel
theorem d_M_below_51 : decode b_M_below 51 = .ok (.iinc 4 1, 3) := by decide +kernel
theorem d_M_below_54 : decode b_M_below 54 = .ok (.goto (-36), 3) := by decide +kernel
theorem d_M_below_57 : decode b_M_below 57 = .ok (.iconst 0, 1) := by decide +kernel
theorem d_M_below_58 : decode b_M_below 58 = .ok (.ireturn, 1) := by decide +kernel
section
variable {p : Program} {l : Launch} {e : Env} {s : State} {m : MethodId} {args : Array Value} {below : List Frame} {meth : Method} {c : Code} {H : Heap} {locs : List Loc} {ls : Array Slot} {D : va_G} {A : Nat → Prop} {h o : Nat → Nat} {t v : Nat → ClassId}
def f_M_below_50 (k18 : Int32 → Int32 → Int32 → Option (Int32)) (u0 : St) (x2 : Int32) (x4 : Int32) (y0 : Int32) : Option (Int32) :=
  k18 x2 y0 (x4 + 1)
set_option maxHeartbeats 4000000 in
set_option maxRecDepth 100000 in
theorem k_M_below_50 {k18 : Int32 → Int32 → Int32 → Option (Int32)} {u0 : St} {x2 : Int32} {x4 : Int32} {y0 : Int32} {r : Int32} (X : sr_X D (tM t) b_M_below 5 R_M w_M_below p s m args meth c A (some .boolean)) (hk18 : ∀ (x2 : Int32) (x3 : Int32) (x4 : Int32) (H : Heap) (locs : List Loc) (ls : Array Slot), sr_Z D A s.heap (wM h t u0) H locs → lv_has ls 5 [(0, .ref (h 0)), (2, .int x2), (3, .int x3), (4, .int x4)] → k18 x2 x3 x4 = some r → W p l e (sr_rm 0 0) s m args below meth c H locs 0 0 (sr_Qi D (tM t) below args s A (wM h t u0) r) (F0 m 18 ls [])) (Z : sr_Z D A s.heap (wM h t u0) H locs) (hl : lv_has ls 5 [(0, .ref (h 0)), (2, .int x2), (4, .int x4)]) (hf : f_M_below_50 k18 u0 x2 x4 y0 = some r) : W p l e (sr_rm 0 0) s m args below meth c H locs 0 0 (sr_Qi D (tM t) below args s A (wM h t u0) r) (F0 m 50 ls [.int y0]) := by
  have hx := X.1
  have hb := X.2.1
  have hK := X.2.2.2.2.2.2.1
  unfold f_M_below_50 at hf
  refine lv_istore_n (lv' := [(3, .int y0), (0, .ref (h 0)), (2, .int x2), (4, .int x4)]) hx hb d_M_below_50 rfl hl (by decide) rfl (fun ls hl => ?_)
  refine lv_iinc (k := 3) (v := x4 + 1) (lv' := [(4, .int (x4 + 1)), (3, .int y0), (0, .ref (h 0)), (2, .int x2)]) hx hb d_M_below_51 hl rfl rfl (by decide) rfl (fun ls hl => ?_)
  refine lv_goto (tgt := 18) hx hb d_M_below_54 rfl ?_
  exact hk18 x2 y0 (x4 + 1) _ _ _ Z (lv_sub hl [2, 3, 1, 0] rfl) hf
def f_M_below_18 (k18 : Int32 → Int32 → Int32 → Option (Int32)) (u0 : St) (x2 : Int32) (x3 : Int32) (x4 : Int32) : Option (Int32) :=
  if 24 ≤ x4 then
    some 0
  else
    if x3 < 0 then
      some 0
    else
      if x3 = x2 then
        some 1
      else
        if x3 = 0 then
          f_M_below_50 k18 u0 x2 x4 (-1)
        else
          (sr_ald 24 (u0 1) x3).bind fun v_8 =>
          f_M_below_50 k18 u0 x2 x4 v_8
set_option maxHeartbeats 4000000 in
set_option maxRecDepth 100000 in
theorem k_M_below_18 {k18 : Int32 → Int32 → Int32 → Option (Int32)} {u0 : St} {x2 : Int32} {x3 : Int32} {x4 : Int32} {r : Int32} (X : sr_X D (tM t) b_M_below 5 R_M w_M_below p s m args meth c A (some .boolean)) (hk18 : ∀ (x2 : Int32) (x3 : Int32) (x4 : Int32) (H : Heap) (locs : List Loc) (ls : Array Slot), sr_Z D A s.heap (wM h t u0) H locs → lv_has ls 5 [(0, .ref (h 0)), (2, .int x2), (3, .int x3), (4, .int x4)] → k18 x2 x3 x4 = some r → W p l e (sr_rm 0 0) s m args below meth c H locs 0 0 (sr_Qi D (tM t) below args s A (wM h t u0) r) (F0 m 18 ls [])) (Z : sr_Z D A s.heap (wM h t u0) H locs) (hl : lv_has ls 5 [(0, .ref (h 0)), (2, .int x2), (3, .int x3), (4, .int x4)]) (hf : f_M_below_18 k18 u0 x2 x3 x4 = some r) : W p l e (sr_rm 0 0) s m args below meth c H locs 0 0 (sr_Qi D (tM t) below args s A (wM h t u0) r) (F0 m 18 ls []) := by
  have hx := X.1
  have hb := X.2.1
  have hK := X.2.2.2.2.2.2.1
  unfold f_M_below_18 at hf
  refine lv_iload hx hb d_M_below_18 (lv_at hl 3 rfl) ?_
  refine lv_bipush (v := 24) hx hb d_M_below_20 (by decide) ?_
  refine lv_icmp_ge (tgt := 57) hx hb d_M_below_22 rfl (fun q_4 => ?_) (fun q_4 => ?_)
  · have hf := sr_it q_4 hf
    refine lv_iconst (v := 0) hx hb d_M_below_57 (by decide) ?_
    cases hf
    exact sr_retz X Z (by decide) d_M_below_58
  · have hf := sr_if q_4 hf
    refine lv_iload_n hx hb d_M_below_25 rfl (lv_at hl 2 rfl) ?_
    refine lv_if_lt (tgt := 57) hx hb d_M_below_26 rfl (fun q_5 => ?_) (fun q_5 => ?_)
    · have hf := sr_it q_5 hf
      refine lv_iconst (v := 0) hx hb d_M_below_57 (by decide) ?_
      cases hf
      exact sr_retz X Z (by decide) d_M_below_58
    · have hf := sr_if q_5 hf
      refine lv_iload_n hx hb d_M_below_29 rfl (lv_at hl 2 rfl) ?_
      refine lv_iload_n hx hb d_M_below_30 rfl (lv_at hl 1 rfl) ?_
      refine lv_icmp_ne (tgt := 36) hx hb d_M_below_31 rfl (fun q_6 => ?_) (fun q_6 => ?_)
      · have hf := sr_if q_6 hf
        refine lv_iload_n hx hb d_M_below_36 rfl (lv_at hl 2 rfl) ?_
        refine lv_if_ne (tgt := 44) hx hb d_M_below_37 rfl (fun q_7 => ?_) (fun q_7 => ?_)
        · have hf := sr_if q_7 hf
          refine lv_aload_n hx hb d_M_below_44 rfl (lv_at hl 0 rfl) ?_
          refine g_M_7_M X Z d_M_below_45 ?_
          refine lv_iload_n hx hb d_M_below_48 rfl (lv_at hl 2 rfl) ?_
          obtain ⟨v_8, e_9, hf⟩ := sr_b hf
          refine sr_iald hx hb hK Z 1 0 rfl rfl e_9 d_M_below_49 ?_
          exact k_M_below_50 X hk18 Z (lv_sub hl [0, 1, 3] rfl) hf
        · have hf := sr_it q_7 hf
          refine lv_iconst (v := -1) hx hb d_M_below_40 (by decide) ?_
          refine lv_goto (tgt := 50) hx hb d_M_below_41 rfl ?_
          exact k_M_below_50 X hk18 Z (lv_sub hl [0, 1, 3] rfl) hf
      · have hf := sr_it q_6 hf
        refine lv_iconst (v := 1) hx hb d_M_below_34 (by decide) ?_
        cases hf
        exact sr_retz X Z (by decide) d_M_below_35
def f_M_below_18_it (u0 : St) : Nat → Int32 → Int32 → Int32 → Option (Int32)
  | 0 => fun _ _ _ => none
  | n + 1 => fun x2 x3 x4 => f_M_below_18 (f_M_below_18_it u0 n) u0 x2 x3 x4
set_option maxHeartbeats 4000000 in
set_option maxRecDepth 100000 in
theorem k_M_below_18_it {u0 : St} {r : Int32} (X : sr_X D (tM t) b_M_below 5 R_M w_M_below p s m args meth c A (some .boolean)) (n : Nat) : ∀ {x2 : Int32} {x3 : Int32} {x4 : Int32} {H : Heap} {locs : List Loc} {ls : Array Slot}, sr_Z D A s.heap (wM h t u0) H locs → lv_has ls 5 [(0, .ref (h 0)), (2, .int x2), (3, .int x3), (4, .int x4)] → f_M_below_18_it u0 n x2 x3 x4 = some r → W p l e (sr_rm 0 0) s m args below meth c H locs 0 0 (sr_Qi D (tM t) below args s A (wM h t u0) r) (F0 m 18 ls []) := by
  induction n with
  | zero => intro x2 x3 x4 H locs ls Z hl hf; exact absurd hf (by simp [f_M_below_18_it])
  | succ n ih =>
    intro x2 x3 x4 H locs ls Z hl hf
    exact k_M_below_18 X (fun x2 x3 x4 H locs ls Z hl hf => ih Z hl hf) Z hl hf
def f_M_below_14 (u0 : St) (x2 : Int32) (y0 : Int32) : Option (Int32) :=
  f_M_below_18_it u0 60 x2 y0 0
set_option maxHeartbeats 4000000 in
set_option maxRecDepth 100000 in
theorem k_M_below_14 {u0 : St} {x2 : Int32} {y0 : Int32} {r : Int32} (X : sr_X D (tM t) b_M_below 5 R_M w_M_below p s m args meth c A (some .boolean)) (Z : sr_Z D A s.heap (wM h t u0) H locs) (hl : lv_has ls 5 [(0, .ref (h 0)), (2, .int x2)]) (hf : f_M_below_14 u0 x2 y0 = some r) : W p l e (sr_rm 0 0) s m args below meth c H locs 0 0 (sr_Qi D (tM t) below args s A (wM h t u0) r) (F0 m 14 ls [.int y0]) := by
  have hx := X.1
  have hb := X.2.1
  have hK := X.2.2.2.2.2.2.1
  unfold f_M_below_14 at hf
  refine lv_istore_n (lv' := [(3, .int y0), (0, .ref (h 0)), (2, .int x2)]) hx hb d_M_below_14 rfl hl (by decide) rfl (fun ls hl => ?_)
  refine lv_iconst (v := 0) hx hb d_M_below_15 (by decide) ?_
  refine lv_istore (lv' := [(4, .int 0), (3, .int y0), (0, .ref (h 0)), (2, .int x2)]) hx hb d_M_below_16 hl (by decide) rfl (fun ls hl => ?_)
  exact k_M_below_18_it X _ Z (lv_sub hl [2, 3, 1, 0] rfl) hf
def f_M_below (u0 : St) (x1 : Int32) (x2 : Int32) : Option (Int32) :=
  if x1 = 0 then
    f_M_below_14 u0 x2 (-1)
  else
    (sr_ald 24 (u0 1) x1).bind fun v_2 =>
    f_M_below_14 u0 x2 v_2
set_option maxHeartbeats 4000000 in
set_option maxRecDepth 100000 in
theorem k_M_below_0 {u0 : St} {x1 : Int32} {x2 : Int32} {r : Int32} (X : sr_X D (tM t) b_M_below 5 R_M w_M_below p s m args meth c A (some .boolean)) (Z : sr_Z D A s.heap (wM h t u0) H locs) (hl : lv_has ls 5 [(0, .ref (h 0)), (1, .int x1), (2, .int x2)]) (hf : f_M_below u0 x1 x2 = some r) : W p l e (sr_rm 0 0) s m args below meth c H locs 0 0 (sr_Qi D (tM t) below args s A (wM h t u0) r) (F0 m 0 ls []) := by
  have hx := X.1
  have hb := X.2.1
  have hK := X.2.2.2.2.2.2.1
  unfold f_M_below at hf
  refine lv_iload_n hx hb d_M_below_0 rfl (lv_at hl 1 rfl) ?_
  refine lv_if_ne (tgt := 8) hx hb d_M_below_1 rfl (fun q_1 => ?_) (fun q_1 => ?_)
  · have hf := sr_if q_1 hf
    refine lv_aload_n hx hb d_M_below_8 rfl (lv_at hl 0 rfl) ?_
    refine g_M_7_M X Z d_M_below_9 ?_
    refine lv_iload_n hx hb d_M_below_12 rfl (lv_at hl 1 rfl) ?_
    obtain ⟨v_2, e_3, hf⟩ := sr_b hf
    refine sr_iald hx hb hK Z 1 0 rfl rfl e_3 d_M_below_13 ?_
    exact k_M_below_14 X Z (lv_sub hl [0, 2] rfl) hf
  · have hf := sr_it q_1 hf
    refine lv_iconst (v := -1) hx hb d_M_below_4 (by decide) ?_
    refine lv_goto (tgt := 14) hx hb d_M_below_5 rfl ?_
    exact k_M_below_14 X Z (lv_sub hl [0, 2] rfl) hf
end
set_option maxHeartbeats 4000000 in
set_option maxRecDepth 100000 in
theorem c_M_below {l : Launch} {D : va_G} {h : Nat → Nat} {t : Nat → ClassId} {sz : Nat} {u0 : St} {x1 : Int32} {x2 : Int32} {r : Int32} (hf : f_M_below u0 x1 x2 = some r) : sr_Ci l y_M_below w_M_below (sr_rm 0 0) D (tM t) (wM h t u0) (wM h t u0) sz [.ref (h 0), .int x1, .int x2] r := by
  refine Met.ofW (cc := b_M_below) (maxL := 5) (ret := (some .boolean)) (by decide) rfl ?_
  intro p e s m args below meth c s₁ B hml hv
  obtain ⟨rfl, hsz, hP, hK, hD0⟩ := hv
  subst hsz
  have X : sr_X D (tM t) b_M_below 5 R_M w_M_below p s m _ meth c (va_A (wM h t u0) s.heap.size) (some .boolean) := ⟨B.exec, B.bytes, hml, findClass_of_methodNamed B.named, B.notSynchronized, atoms_spec (ws := w_M_below) B.pre, hK, fun q h => Or.inr h, B.returns⟩
  have Z : sr_Z D (va_A (wM h t u0) s.heap.size) s.heap (wM h t u0) s.heap [] := ⟨hP, hD0.self, va_S.rf⟩
  have hl := lv_entry ([.ref (h 0), .int x1, .int x2] : List Value) (n := 5) (Nat.le_of_ble_eq_true rfl)
  rw [lg_entry_eq]
  exact k_M_below_0 X Z hl hf
/-! M_around -/
theorem d_M_around_0 : decode b_M_around 0 = .ok (.iload_n 1, 1) := by decide +kernel
theorem d_M_around_1 : decode b_M_around 1 = .ok (.ifCond .ne 7, 3) := by decide +kernel
theorem d_M_around_4 : decode b_M_around 4 = .ok (.iconst (-1), 1) := by decide +kernel
theorem d_M_around_5 : decode b_M_around 5 = .ok (.goto 9, 3) := by decide +kernel
theorem d_M_around_8 : decode b_M_around 8 = .ok (.aload_n 0, 1) := by decide +kernel
theorem d_M_around_9 : decode b_M_around 9 = .ok (.getfield 7, 3) := by decide +kernel
theorem d_M_around_12 : decode b_M_around 12 = .ok (.iload_n 1, 1) := by decide +kernel
theorem d_M_around_13 : decode b_M_around 13 = .ok (.iaload, 1) := by decide +kernel
theorem d_M_around_14 : decode b_M_around 14 = .ok (.istore_n 2, 1) := by decide +kernel
theorem d_M_around_15 : decode b_M_around 15 = .ok (.iconst 0, 1) := by decide +kernel
theorem d_M_around_16 : decode b_M_around 16 = .ok (.istore_n 3, 1) := by decide +kernel
theorem d_M_around_17 : decode b_M_around 17 = .ok (.iload_n 3, 1) := by decide +kernel
theorem d_M_around_18 : decode b_M_around 18 = .ok (.bipush 24, 2) := by decide +kernel
theorem d_M_around_20 : decode b_M_around 20 = .ok (.if_icmp .ge 41, 3) := by decide +kernel
theorem d_M_around_23 : decode b_M_around 23 = .ok (.iload_n 2, 1) := by decide +kernel
theorem d_M_around_24 : decode b_M_around 24 = .ok (.ifCond .lt 37, 3) := by decide +kernel
theorem d_M_around_27 : decode b_M_around 27 = .ok (.aload_n 0, 1) := by decide +kernel
theorem d_M_around_28 : decode b_M_around 28 = .ok (.getfield 16, 3) := by decide +kernel
theorem d_M_around_31 : decode b_M_around 31 = .ok (.iload_n 2, 1) := by decide +kernel
theorem d_M_around_32 : decode b_M_around 32 = .ok (.iaload, 1) := by decide +kernel
theorem d_M_around_33 : decode b_M_around 33 = .ok (.bipush 12, 2) := by decide +kernel
theorem d_M_around_35 : decode b_M_around 35 = .ok (.if_icmp .ne 5, 3) := by decide +kernel
theorem d_M_around_38 : decode b_M_around 38 = .ok (.iload_n 2, 1) := by decide +kernel
theorem d_M_around_39 : decode b_M_around 39 = .ok (.ireturn, 1) := by decide +kernel
theorem d_M_around_40 : decode b_M_around 40 = .ok (.iload_n 2, 1) := by decide +kernel
theorem d_M_around_41 : decode b_M_around 41 = .ok (.ifCond .ne 7, 3) := by decide +kernel
theorem d_M_around_44 : decode b_M_around 44 = .ok (.iconst (-1), 1) := by decide +kernel
theorem d_M_around_45 : decode b_M_around 45 = .ok (.goto 9, 3) := by decide +kernel
theorem d_M_around_48 : decode b_M_around 48 = .ok (.aload_n 0, 1) := by decide +kernel
theorem d_M_around_49 : decode b_M_around 49 = .ok (.getfield 7, 3) := by decide +kernel
theorem d_M_around_52 : decode b_M_around 52 = .ok (.iload_n 2, 1) := by decide +kernel
theorem d_M_around_53 : decode b_M_around 53 = .ok (.iaload, 1) := by decide +kernel
theorem d_M_around_54 : decode b_M_around 54 = .ok (.istore_n 2, 1) := by decide +kernel
theorem d_M_around_55 : decode b_M_around 55 = .ok (.iinc 3 1, 3) := by decide +kernel
theorem d_M_around_58 : decode b_M_around 58 = .ok (.goto (-41), 3) := by decide +kernel
theorem d_M_around_61 : decode b_M_around 61 = .ok (.iconst (-1), 1) := by decide +kernel
theorem d_M_around_62 : decode b_M_around 62 = .ok (.ireturn, 1) := by decide +kernel
section
variable {p : Program} {l : Launch} {e : Env} {s : State} {m : MethodId} {args : Array Value} {below : List Frame} {meth : Method} {c : Code} {H : Heap} {locs : List Loc} {ls : Array Slot} {D : va_G} {A : Nat → Prop} {h o : Nat → Nat} {t v : Nat → ClassId}
def f_M_around_54 (k17 : Int32 → Int32 → Option (Int32)) (u0 : St) (x3 : Int32) (y0 : Int32) : Option (Int32) :=
  k17 y0 (x3 + 1)
set_option maxHeartbeats 4000000 in
set_option maxRecDepth 100000 in
theorem k_M_around_54 {k17 : Int32 → Int32 → Option (Int32)} {u0 : St} {x3 : Int32} {y0 : Int32} {r : Int32} (X : sr_X D (tM t) b_M_around 4 R_M w_M_around p s m args meth c A (some .int)) (hk17 : ∀ (x2 : Int32) (x3 : Int32) (H : Heap) (locs : List Loc) (ls : Array Slot), sr_Z D A s.heap (wM h t u0) H locs → lv_has ls 4 [(0, .ref (h 0)), (2, .int x2), (3, .int x3)] → k17 x2 x3 = some r → W p l e (sr_rm 0 0) s m args below meth c H locs 0 0 (sr_Qi D (tM t) below args s A (wM h t u0) r) (F0 m 17 ls [])) (Z : sr_Z D A s.heap (wM h t u0) H locs) (hl : lv_has ls 4 [(0, .ref (h 0)), (3, .int x3)]) (hf : f_M_around_54 k17 u0 x3 y0 = some r) : W p l e (sr_rm 0 0) s m args below meth c H locs 0 0 (sr_Qi D (tM t) below args s A (wM h t u0) r) (F0 m 54 ls [.int y0]) := by
  have hx := X.1
  have hb := X.2.1
  have hK := X.2.2.2.2.2.2.1
  unfold f_M_around_54 at hf
  refine lv_istore_n (lv' := [(2, .int y0), (0, .ref (h 0)), (3, .int x3)]) hx hb d_M_around_54 rfl hl (by decide) rfl (fun ls hl => ?_)
  refine lv_iinc (k := 2) (v := x3 + 1) (lv' := [(3, .int (x3 + 1)), (2, .int y0), (0, .ref (h 0))]) hx hb d_M_around_55 hl rfl rfl (by decide) rfl (fun ls hl => ?_)
  refine lv_goto (tgt := 17) hx hb d_M_around_58 rfl ?_
  exact hk17 y0 (x3 + 1) _ _ _ Z (lv_sub hl [2, 1, 0] rfl) hf
def f_M_around_17 (k17 : Int32 → Int32 → Option (Int32)) (u0 : St) (x2 : Int32) (x3 : Int32) : Option (Int32) :=
  if 24 ≤ x3 then
    some (-1)
  else
    if x2 < 0 then
      some (-1)
    else
      (sr_ald 24 (u0 3) x2).bind fun v_6 =>
      if v_6 = 12 then
        some x2
      else
        if x2 = 0 then
          f_M_around_54 k17 u0 x3 (-1)
        else
          (sr_ald 24 (u0 1) x2).bind fun v_10 =>
          f_M_around_54 k17 u0 x3 v_10
set_option maxHeartbeats 4000000 in
set_option maxRecDepth 100000 in
theorem k_M_around_17 {k17 : Int32 → Int32 → Option (Int32)} {u0 : St} {x2 : Int32} {x3 : Int32} {r : Int32} (X : sr_X D (tM t) b_M_around 4 R_M w_M_around p s m args meth c A (some .int)) (hk17 : ∀ (x2 : Int32) (x3 : Int32) (H : Heap) (locs : List Loc) (ls : Array Slot), sr_Z D A s.heap (wM h t u0) H locs → lv_has ls 4 [(0, .ref (h 0)), (2, .int x2), (3, .int x3)] → k17 x2 x3 = some r → W p l e (sr_rm 0 0) s m args below meth c H locs 0 0 (sr_Qi D (tM t) below args s A (wM h t u0) r) (F0 m 17 ls [])) (Z : sr_Z D A s.heap (wM h t u0) H locs) (hl : lv_has ls 4 [(0, .ref (h 0)), (2, .int x2), (3, .int x3)]) (hf : f_M_around_17 k17 u0 x2 x3 = some r) : W p l e (sr_rm 0 0) s m args below meth c H locs 0 0 (sr_Qi D (tM t) below args s A (wM h t u0) r) (F0 m 17 ls []) := by
  have hx := X.1
  have hb := X.2.1
  have hK := X.2.2.2.2.2.2.1
  unfold f_M_around_17 at hf
  refine lv_iload_n hx hb d_M_around_17 rfl (lv_at hl 2 rfl) ?_
  refine lv_bipush (v := 24) hx hb d_M_around_18 (by decide) ?_
  refine lv_icmp_ge (tgt := 61) hx hb d_M_around_20 rfl (fun q_4 => ?_) (fun q_4 => ?_)
  · have hf := sr_it q_4 hf
    refine lv_iconst (v := -1) hx hb d_M_around_61 (by decide) ?_
    cases hf
    exact sr_reti X Z d_M_around_62
  · have hf := sr_if q_4 hf
    refine lv_iload_n hx hb d_M_around_23 rfl (lv_at hl 1 rfl) ?_
    refine lv_if_lt (tgt := 61) hx hb d_M_around_24 rfl (fun q_5 => ?_) (fun q_5 => ?_)
    · have hf := sr_it q_5 hf
      refine lv_iconst (v := -1) hx hb d_M_around_61 (by decide) ?_
      cases hf
      exact sr_reti X Z d_M_around_62
    · have hf := sr_if q_5 hf
      refine lv_aload_n hx hb d_M_around_27 rfl (lv_at hl 0 rfl) ?_
      refine g_M_16_M X Z d_M_around_28 ?_
      refine lv_iload_n hx hb d_M_around_31 rfl (lv_at hl 1 rfl) ?_
      obtain ⟨v_6, e_7, hf⟩ := sr_b hf
      refine sr_iald hx hb hK Z 3 2 rfl rfl e_7 d_M_around_32 ?_
      refine lv_bipush (v := 12) hx hb d_M_around_33 (by decide) ?_
      refine lv_icmp_ne (tgt := 40) hx hb d_M_around_35 rfl (fun q_8 => ?_) (fun q_8 => ?_)
      · have hf := sr_if q_8 hf
        refine lv_iload_n hx hb d_M_around_40 rfl (lv_at hl 1 rfl) ?_
        refine lv_if_ne (tgt := 48) hx hb d_M_around_41 rfl (fun q_9 => ?_) (fun q_9 => ?_)
        · have hf := sr_if q_9 hf
          refine lv_aload_n hx hb d_M_around_48 rfl (lv_at hl 0 rfl) ?_
          refine g_M_7_M X Z d_M_around_49 ?_
          refine lv_iload_n hx hb d_M_around_52 rfl (lv_at hl 1 rfl) ?_
          obtain ⟨v_10, e_11, hf⟩ := sr_b hf
          refine sr_iald hx hb hK Z 1 0 rfl rfl e_11 d_M_around_53 ?_
          exact k_M_around_54 X hk17 Z (lv_sub hl [0, 2] rfl) hf
        · have hf := sr_it q_9 hf
          refine lv_iconst (v := -1) hx hb d_M_around_44 (by decide) ?_
          refine lv_goto (tgt := 54) hx hb d_M_around_45 rfl ?_
          exact k_M_around_54 X hk17 Z (lv_sub hl [0, 2] rfl) hf
      · have hf := sr_it q_8 hf
        refine lv_iload_n hx hb d_M_around_38 rfl (lv_at hl 1 rfl) ?_
        cases hf
        exact sr_reti X Z d_M_around_39
def f_M_around_17_it (u0 : St) : Nat → Int32 → Int32 → Option (Int32)
  | 0 => fun _ _ => none
  | n + 1 => fun x2 x3 => f_M_around_17 (f_M_around_17_it u0 n) u0 x2 x3
set_option maxHeartbeats 4000000 in
set_option maxRecDepth 100000 in
theorem k_M_around_17_it {u0 : St} {r : Int32} (X : sr_X D (tM t) b_M_around 4 R_M w_M_around p s m args meth c A (some .int)) (n : Nat) : ∀ {x2 : Int32} {x3 : Int32} {H : Heap} {locs : List Loc} {ls : Array Slot}, sr_Z D A s.heap (wM h t u0) H locs → lv_has ls 4 [(0, .ref (h 0)), (2, .int x2), (3, .int x3)] → f_M_around_17_it u0 n x2 x3 = some r → W p l e (sr_rm 0 0) s m args below meth c H locs 0 0 (sr_Qi D (tM t) below args s A (wM h t u0) r) (F0 m 17 ls []) := by
  induction n with
  | zero => intro x2 x3 H locs ls Z hl hf; exact absurd hf (by simp [f_M_around_17_it])
  | succ n ih =>
    intro x2 x3 H locs ls Z hl hf
    exact k_M_around_17 X (fun x2 x3 H locs ls Z hl hf => ih Z hl hf) Z hl hf
def f_M_around_14 (u0 : St) (y0 : Int32) : Option (Int32) :=
  f_M_around_17_it u0 60 y0 0
set_option maxHeartbeats 4000000 in
set_option maxRecDepth 100000 in
theorem k_M_around_14 {u0 : St} {y0 : Int32} {r : Int32} (X : sr_X D (tM t) b_M_around 4 R_M w_M_around p s m args meth c A (some .int)) (Z : sr_Z D A s.heap (wM h t u0) H locs) (hl : lv_has ls 4 [(0, .ref (h 0))]) (hf : f_M_around_14 u0 y0 = some r) : W p l e (sr_rm 0 0) s m args below meth c H locs 0 0 (sr_Qi D (tM t) below args s A (wM h t u0) r) (F0 m 14 ls [.int y0]) := by
  have hx := X.1
  have hb := X.2.1
  have hK := X.2.2.2.2.2.2.1
  unfold f_M_around_14 at hf
  refine lv_istore_n (lv' := [(2, .int y0), (0, .ref (h 0))]) hx hb d_M_around_14 rfl hl (by decide) rfl (fun ls hl => ?_)
  refine lv_iconst (v := 0) hx hb d_M_around_15 (by decide) ?_
  refine lv_istore_n (lv' := [(3, .int 0), (2, .int y0), (0, .ref (h 0))]) hx hb d_M_around_16 rfl hl (by decide) rfl (fun ls hl => ?_)
  exact k_M_around_17_it X _ Z (lv_sub hl [2, 1, 0] rfl) hf
def f_M_around (u0 : St) (x1 : Int32) : Option (Int32) :=
  if x1 = 0 then
    f_M_around_14 u0 (-1)
  else
    (sr_ald 24 (u0 1) x1).bind fun v_2 =>
    f_M_around_14 u0 v_2
set_option maxHeartbeats 4000000 in
set_option maxRecDepth 100000 in
theorem k_M_around_0 {u0 : St} {x1 : Int32} {r : Int32} (X : sr_X D (tM t) b_M_around 4 R_M w_M_around p s m args meth c A (some .int)) (Z : sr_Z D A s.heap (wM h t u0) H locs) (hl : lv_has ls 4 [(0, .ref (h 0)), (1, .int x1)]) (hf : f_M_around u0 x1 = some r) : W p l e (sr_rm 0 0) s m args below meth c H locs 0 0 (sr_Qi D (tM t) below args s A (wM h t u0) r) (F0 m 0 ls []) := by
  have hx := X.1
  have hb := X.2.1
  have hK := X.2.2.2.2.2.2.1
  unfold f_M_around at hf
  refine lv_iload_n hx hb d_M_around_0 rfl (lv_at hl 1 rfl) ?_
  refine lv_if_ne (tgt := 8) hx hb d_M_around_1 rfl (fun q_1 => ?_) (fun q_1 => ?_)
  · have hf := sr_if q_1 hf
    refine lv_aload_n hx hb d_M_around_8 rfl (lv_at hl 0 rfl) ?_
    refine g_M_7_M X Z d_M_around_9 ?_
    refine lv_iload_n hx hb d_M_around_12 rfl (lv_at hl 1 rfl) ?_
    obtain ⟨v_2, e_3, hf⟩ := sr_b hf
    refine sr_iald hx hb hK Z 1 0 rfl rfl e_3 d_M_around_13 ?_
    exact k_M_around_14 X Z (lv_sub hl [0] rfl) hf
  · have hf := sr_it q_1 hf
    refine lv_iconst (v := -1) hx hb d_M_around_4 (by decide) ?_
    refine lv_goto (tgt := 14) hx hb d_M_around_5 rfl ?_
    exact k_M_around_14 X Z (lv_sub hl [0] rfl) hf
end
set_option maxHeartbeats 4000000 in
set_option maxRecDepth 100000 in
theorem c_M_around {l : Launch} {D : va_G} {h : Nat → Nat} {t : Nat → ClassId} {sz : Nat} {u0 : St} {x1 : Int32} {r : Int32} (hf : f_M_around u0 x1 = some r) : sr_Ci l y_M_around w_M_around (sr_rm 0 0) D (tM t) (wM h t u0) (wM h t u0) sz [.ref (h 0), .int x1] r := by
  refine Met.ofW (cc := b_M_around) (maxL := 4) (ret := (some .int)) (by decide) rfl ?_
  intro p e s m args below meth c s₁ B hml hv
  obtain ⟨rfl, hsz, hP, hK, hD0⟩ := hv
  subst hsz
  have X : sr_X D (tM t) b_M_around 4 R_M w_M_around p s m _ meth c (va_A (wM h t u0) s.heap.size) (some .int) := ⟨B.exec, B.bytes, hml, findClass_of_methodNamed B.named, B.notSynchronized, atoms_spec (ws := w_M_around) B.pre, hK, fun q h => Or.inr h, B.returns⟩
  have Z : sr_Z D (va_A (wM h t u0) s.heap.size) s.heap (wM h t u0) s.heap [] := ⟨hP, hD0.self, va_S.rf⟩
  have hl := lv_entry ([.ref (h 0), .int x1] : List Value) (n := 4) (Nat.le_of_ble_eq_true rfl)
  rw [lg_entry_eq]
  exact k_M_around_0 X Z hl hf
/-! M_handler -/
theorem d_M_handler_0 : decode b_M_handler 0 = .ok (.iload_n 1, 1) := by decide +kernel
theorem d_M_handler_1 : decode b_M_handler 1 = .ok (.istore_n 2, 1) := by decide +kernel
theorem d_M_handler_2 : decode b_M_handler 2 = .ok (.iconst 0, 1) := by decide +kernel
theorem d_M_handler_3 : decode b_M_handler 3 = .ok (.istore_n 3, 1) := by decide +kernel
theorem d_M_handler_4 : decode b_M_handler 4 = .ok (.iload_n 3, 1) := by decide +kernel
theorem d_M_handler_5 : decode b_M_handler 5 = .ok (.bipush 24, 2) := by decide +kernel
theorem d_M_handler_7 : decode b_M_handler 7 = .ok (.if_icmp .ge 39, 3) := by decide +kernel
theorem d_M_handler_10 : decode b_M_handler 10 = .ok (.iload_n 2, 1) := by decide +kernel
theorem d_M_handler_11 : decode b_M_handler 11 = .ok (.ifCond .lt 35, 3) := by decide +kernel
theorem d_M_handler_14 : decode b_M_handler 14 = .ok (.aload_n 0, 1) := by decide +kernel
theorem d_M_handler_15 : decode b_M_handler 15 = .ok (.getfield 13, 3) := by decide +kernel
theorem d_M_handler_18 : decode b_M_handler 18 = .ok (.iload_n 2, 1) := by decide +kernel
theorem d_M_handler_19 : decode b_M_handler 19 = .ok (.iaload, 1) := by decide +kernel
theorem d_M_handler_20 : decode b_M_handler 20 = .ok (.ifCond .le 5, 3) := by decide +kernel
theorem d_M_handler_23 : decode b_M_handler 23 = .ok (.iload_n 2, 1) := by decide +kernel
theorem d_M_handler_24 : decode b_M_handler 24 = .ok (.ireturn, 1) := by decide +kernel
theorem d_M_handler_25 : decode b_M_handler 25 = .ok (.iload_n 2, 1) := by decide +kernel
theorem d_M_handler_26 : decode b_M_handler 26 = .ok (.ifCond .ne 7, 3) := by decide +kernel
theorem d_M_handler_29 : decode b_M_handler 29 = .ok (.iconst (-1), 1) := by decide +kernel
theorem d_M_handler_30 : decode b_M_handler 30 = .ok (.goto 9, 3) := by decide +kernel
theorem d_M_handler_33 : decode b_M_handler 33 = .ok (.aload_n 0, 1) := by decide +kernel
theorem d_M_handler_34 : decode b_M_handler 34 = .ok (.getfield 7, 3) := by decide +kernel
theorem d_M_handler_37 : decode b_M_handler 37 = .ok (.iload_n 2, 1) := by decide +kernel
theorem d_M_handler_38 : decode b_M_handler 38 = .ok (.iaload, 1) := by decide +kernel
theorem d_M_handler_39 : decode b_M_handler 39 = .ok (.istore_n 2, 1) := by decide +kernel
theorem d_M_handler_40 : decode b_M_handler 40 = .ok (.iinc 3 1, 3) := by decide +kernel
theorem d_M_handler_43 : decode b_M_handler 43 = .ok (.goto (-39), 3) := by decide +kernel
theorem d_M_handler_46 : decode b_M_handler 46 = .ok (.iconst (-1), 1) := by decide +kernel
theorem d_M_handler_47 : decode b_M_handler 47 = .ok (.ireturn, 1) := by decide +kernel
section
variable {p : Program} {l : Launch} {e : Env} {s : State} {m : MethodId} {args : Array Value} {below : List Frame} {meth : Method} {c : Code} {H : Heap} {locs : List Loc} {ls : Array Slot} {D : va_G} {A : Nat → Prop} {h o : Nat → Nat} {t v : Nat → ClassId}
def f_M_handler_39 (k4 : Int32 → Int32 → Option (Int32)) (u0 : St) (x3 : Int32) (y0 : Int32) : Option (Int32) :=
  k4 y0 (x3 + 1)
set_option maxHeartbeats 4000000 in
set_option maxRecDepth 100000 in
theorem k_M_handler_39 {k4 : Int32 → Int32 → Option (Int32)} {u0 : St} {x3 : Int32} {y0 : Int32} {r : Int32} (X : sr_X D (tM t) b_M_handler 4 R_M w_M_handler p s m args meth c A (some .int)) (hk4 : ∀ (x2 : Int32) (x3 : Int32) (H : Heap) (locs : List Loc) (ls : Array Slot), sr_Z D A s.heap (wM h t u0) H locs → lv_has ls 4 [(0, .ref (h 0)), (2, .int x2), (3, .int x3)] → k4 x2 x3 = some r → W p l e (sr_rm 0 0) s m args below meth c H locs 0 0 (sr_Qi D (tM t) below args s A (wM h t u0) r) (F0 m 4 ls [])) (Z : sr_Z D A s.heap (wM h t u0) H locs) (hl : lv_has ls 4 [(0, .ref (h 0)), (3, .int x3)]) (hf : f_M_handler_39 k4 u0 x3 y0 = some r) : W p l e (sr_rm 0 0) s m args below meth c H locs 0 0 (sr_Qi D (tM t) below args s A (wM h t u0) r) (F0 m 39 ls [.int y0]) := by
  have hx := X.1
  have hb := X.2.1
  have hK := X.2.2.2.2.2.2.1
  unfold f_M_handler_39 at hf
  refine lv_istore_n (lv' := [(2, .int y0), (0, .ref (h 0)), (3, .int x3)]) hx hb d_M_handler_39 rfl hl (by decide) rfl (fun ls hl => ?_)
  refine lv_iinc (k := 2) (v := x3 + 1) (lv' := [(3, .int (x3 + 1)), (2, .int y0), (0, .ref (h 0))]) hx hb d_M_handler_40 hl rfl rfl (by decide) rfl (fun ls hl => ?_)
  refine lv_goto (tgt := 4) hx hb d_M_handler_43 rfl ?_
  exact hk4 y0 (x3 + 1) _ _ _ Z (lv_sub hl [2, 1, 0] rfl) hf
def f_M_handler_4 (k4 : Int32 → Int32 → Option (Int32)) (u0 : St) (x2 : Int32) (x3 : Int32) : Option (Int32) :=
  if 24 ≤ x3 then
    some (-1)
  else
    if x2 < 0 then
      some (-1)
    else
      (sr_ald 24 (u0 2) x2).bind fun v_3 =>
      if v_3 ≤ 0 then
        if x2 = 0 then
          f_M_handler_39 k4 u0 x3 (-1)
        else
          (sr_ald 24 (u0 1) x2).bind fun v_7 =>
          f_M_handler_39 k4 u0 x3 v_7
      else
        some x2
set_option maxHeartbeats 4000000 in
set_option maxRecDepth 100000 in
theorem k_M_handler_4 {k4 : Int32 → Int32 → Option (Int32)} {u0 : St} {x2 : Int32} {x3 : Int32} {r : Int32} (X : sr_X D (tM t) b_M_handler 4 R_M w_M_handler p s m args meth c A (some .int)) (hk4 : ∀ (x2 : Int32) (x3 : Int32) (H : Heap) (locs : List Loc) (ls : Array Slot), sr_Z D A s.heap (wM h t u0) H locs → lv_has ls 4 [(0, .ref (h 0)), (2, .int x2), (3, .int x3)] → k4 x2 x3 = some r → W p l e (sr_rm 0 0) s m args below meth c H locs 0 0 (sr_Qi D (tM t) below args s A (wM h t u0) r) (F0 m 4 ls [])) (Z : sr_Z D A s.heap (wM h t u0) H locs) (hl : lv_has ls 4 [(0, .ref (h 0)), (2, .int x2), (3, .int x3)]) (hf : f_M_handler_4 k4 u0 x2 x3 = some r) : W p l e (sr_rm 0 0) s m args below meth c H locs 0 0 (sr_Qi D (tM t) below args s A (wM h t u0) r) (F0 m 4 ls []) := by
  have hx := X.1
  have hb := X.2.1
  have hK := X.2.2.2.2.2.2.1
  unfold f_M_handler_4 at hf
  refine lv_iload_n hx hb d_M_handler_4 rfl (lv_at hl 2 rfl) ?_
  refine lv_bipush (v := 24) hx hb d_M_handler_5 (by decide) ?_
  refine lv_icmp_ge (tgt := 46) hx hb d_M_handler_7 rfl (fun q_1 => ?_) (fun q_1 => ?_)
  · have hf := sr_it q_1 hf
    refine lv_iconst (v := -1) hx hb d_M_handler_46 (by decide) ?_
    cases hf
    exact sr_reti X Z d_M_handler_47
  · have hf := sr_if q_1 hf
    refine lv_iload_n hx hb d_M_handler_10 rfl (lv_at hl 1 rfl) ?_
    refine lv_if_lt (tgt := 46) hx hb d_M_handler_11 rfl (fun q_2 => ?_) (fun q_2 => ?_)
    · have hf := sr_it q_2 hf
      refine lv_iconst (v := -1) hx hb d_M_handler_46 (by decide) ?_
      cases hf
      exact sr_reti X Z d_M_handler_47
    · have hf := sr_if q_2 hf
      refine lv_aload_n hx hb d_M_handler_14 rfl (lv_at hl 0 rfl) ?_
      refine g_M_13_M X Z d_M_handler_15 ?_
      refine lv_iload_n hx hb d_M_handler_18 rfl (lv_at hl 1 rfl) ?_
      obtain ⟨v_3, e_4, hf⟩ := sr_b hf
      refine sr_iald hx hb hK Z 2 1 rfl rfl e_4 d_M_handler_19 ?_
      refine lv_if_le (tgt := 25) hx hb d_M_handler_20 rfl (fun q_5 => ?_) (fun q_5 => ?_)
      · have hf := sr_it q_5 hf
        refine lv_iload_n hx hb d_M_handler_25 rfl (lv_at hl 1 rfl) ?_
        refine lv_if_ne (tgt := 33) hx hb d_M_handler_26 rfl (fun q_6 => ?_) (fun q_6 => ?_)
        · have hf := sr_if q_6 hf
          refine lv_aload_n hx hb d_M_handler_33 rfl (lv_at hl 0 rfl) ?_
          refine g_M_7_M X Z d_M_handler_34 ?_
          refine lv_iload_n hx hb d_M_handler_37 rfl (lv_at hl 1 rfl) ?_
          obtain ⟨v_7, e_8, hf⟩ := sr_b hf
          refine sr_iald hx hb hK Z 1 0 rfl rfl e_8 d_M_handler_38 ?_
          exact k_M_handler_39 X hk4 Z (lv_sub hl [0, 2] rfl) hf
        · have hf := sr_it q_6 hf
          refine lv_iconst (v := -1) hx hb d_M_handler_29 (by decide) ?_
          refine lv_goto (tgt := 39) hx hb d_M_handler_30 rfl ?_
          exact k_M_handler_39 X hk4 Z (lv_sub hl [0, 2] rfl) hf
      · have hf := sr_if q_5 hf
        refine lv_iload_n hx hb d_M_handler_23 rfl (lv_at hl 1 rfl) ?_
        cases hf
        exact sr_reti X Z d_M_handler_24
def f_M_handler_4_it (u0 : St) : Nat → Int32 → Int32 → Option (Int32)
  | 0 => fun _ _ => none
  | n + 1 => fun x2 x3 => f_M_handler_4 (f_M_handler_4_it u0 n) u0 x2 x3
set_option maxHeartbeats 4000000 in
set_option maxRecDepth 100000 in
theorem k_M_handler_4_it {u0 : St} {r : Int32} (X : sr_X D (tM t) b_M_handler 4 R_M w_M_handler p s m args meth c A (some .int)) (n : Nat) : ∀ {x2 : Int32} {x3 : Int32} {H : Heap} {locs : List Loc} {ls : Array Slot}, sr_Z D A s.heap (wM h t u0) H locs → lv_has ls 4 [(0, .ref (h 0)), (2, .int x2), (3, .int x3)] → f_M_handler_4_it u0 n x2 x3 = some r → W p l e (sr_rm 0 0) s m args below meth c H locs 0 0 (sr_Qi D (tM t) below args s A (wM h t u0) r) (F0 m 4 ls []) := by
  induction n with
  | zero => intro x2 x3 H locs ls Z hl hf; exact absurd hf (by simp [f_M_handler_4_it])
  | succ n ih =>
    intro x2 x3 H locs ls Z hl hf
    exact k_M_handler_4 X (fun x2 x3 H locs ls Z hl hf => ih Z hl hf) Z hl hf
def f_M_handler (u0 : St) (x1 : Int32) : Option (Int32) :=
  f_M_handler_4_it u0 60 x1 0
set_option maxHeartbeats 4000000 in
set_option maxRecDepth 100000 in
theorem k_M_handler_0 {u0 : St} {x1 : Int32} {r : Int32} (X : sr_X D (tM t) b_M_handler 4 R_M w_M_handler p s m args meth c A (some .int)) (Z : sr_Z D A s.heap (wM h t u0) H locs) (hl : lv_has ls 4 [(0, .ref (h 0)), (1, .int x1)]) (hf : f_M_handler u0 x1 = some r) : W p l e (sr_rm 0 0) s m args below meth c H locs 0 0 (sr_Qi D (tM t) below args s A (wM h t u0) r) (F0 m 0 ls []) := by
  have hx := X.1
  have hb := X.2.1
  have hK := X.2.2.2.2.2.2.1
  unfold f_M_handler at hf
  refine lv_iload_n hx hb d_M_handler_0 rfl (lv_at hl 1 rfl) ?_
  refine lv_istore_n (lv' := [(2, .int x1), (0, .ref (h 0)), (1, .int x1)]) hx hb d_M_handler_1 rfl hl (by decide) rfl (fun ls hl => ?_)
  refine lv_iconst (v := 0) hx hb d_M_handler_2 (by decide) ?_
  refine lv_istore_n (lv' := [(3, .int 0), (2, .int x1), (0, .ref (h 0)), (1, .int x1)]) hx hb d_M_handler_3 rfl hl (by decide) rfl (fun ls hl => ?_)
  exact k_M_handler_4_it X _ Z (lv_sub hl [2, 1, 0] rfl) hf
end
set_option maxHeartbeats 4000000 in
set_option maxRecDepth 100000 in
theorem c_M_handler {l : Launch} {D : va_G} {h : Nat → Nat} {t : Nat → ClassId} {sz : Nat} {u0 : St} {x1 : Int32} {r : Int32} (hf : f_M_handler u0 x1 = some r) : sr_Ci l y_M_handler w_M_handler (sr_rm 0 0) D (tM t) (wM h t u0) (wM h t u0) sz [.ref (h 0), .int x1] r := by
  refine Met.ofW (cc := b_M_handler) (maxL := 4) (ret := (some .int)) (by decide) rfl ?_
  intro p e s m args below meth c s₁ B hml hv
  obtain ⟨rfl, hsz, hP, hK, hD0⟩ := hv
  subst hsz
  have X : sr_X D (tM t) b_M_handler 4 R_M w_M_handler p s m _ meth c (va_A (wM h t u0) s.heap.size) (some .int) := ⟨B.exec, B.bytes, hml, findClass_of_methodNamed B.named, B.notSynchronized, atoms_spec (ws := w_M_handler) B.pre, hK, fun q h => Or.inr h, B.returns⟩
  have Z : sr_Z D (va_A (wM h t u0) s.heap.size) s.heap (wM h t u0) s.heap [] := ⟨hP, hD0.self, va_S.rf⟩
  have hl := lv_entry ([.ref (h 0), .int x1] : List Value) (n := 4) (Nat.le_of_ble_eq_true rfl)
  rw [lg_entry_eq]
  exact k_M_handler_0 X Z hl hf
/-! M_join -/
theorem d_M_join_0 : decode b_M_join 0 = .ok (.aload_n 0, 1) := by decide +kernel
theorem d_M_join_1 : decode b_M_join 1 = .ok (.getfield 96, 3) := by decide +kernel
theorem d_M_join_4 : decode b_M_join 4 = .ok (.ifCond .ne 26, 3) := by decide +kernel
theorem d_M_join_7 : decode b_M_join 7 = .ok (.iload_n 1, 1) := by decide +kernel
theorem d_M_join_8 : decode b_M_join 8 = .ok (.iconst 0, 1) := by decide +kernel
theorem d_M_join_9 : decode b_M_join 9 = .ok (.aload_n 0, 1) := by decide +kernel
theorem d_M_join_10 : decode b_M_join 10 = .ok (.getfield 100, 3) := by decide +kernel
theorem d_M_join_13 : decode b_M_join 13 = .ok (.iconst 1, 1) := by decide +kernel
theorem d_M_join_14 : decode b_M_join 14 = .ok (.isub, 1) := by decide +kernel
theorem d_M_join_15 : decode b_M_join 15 = .ok (.invokestatic 92, 3) := by decide +kernel
theorem d_M_join_18 : decode b_M_join 18 = .ok (.ifCond .eq 12, 3) := by decide +kernel
theorem d_M_join_21 : decode b_M_join 21 = .ok (.iload_n 2, 1) := by decide +kernel
theorem d_M_join_22 : decode b_M_join 22 = .ok (.iconst 0, 1) := by decide +kernel
theorem d_M_join_23 : decode b_M_join 23 = .ok (.iconst 3, 1) := by decide +kernel
theorem d_M_join_24 : decode b_M_join 24 = .ok (.invokestatic 92, 3) := by decide +kernel
theorem d_M_join_27 : decode b_M_join 27 = .ok (.ifCond .ne 5, 3) := by decide +kernel
theorem d_M_join_30 : decode b_M_join 30 = .ok (.iconst 0, 1) := by decide +kernel
theorem d_M_join_31 : decode b_M_join 31 = .ok (.ireturn, 1) := by decide +kernel
theorem d_M_join_32 : decode b_M_join 32 = .ok (.aload_n 0, 1) := by decide +kernel
theorem d_M_join_33 : decode b_M_join 33 = .ok (.getfield 25, 3) := by decide +kernel
theorem d_M_join_36 : decode b_M_join 36 = .ok (.iload_n 1, 1) := by decide +kernel
theorem d_M_join_37 : decode b_M_join 37 = .ok (.iload_n 2, 1) := by decide +kernel
theorem d_M_join_38 : decode b_M_join 38 = .ok (.iastore, 1) := by decide +kernel
theorem d_M_join_39 : decode b_M_join 39 = .ok (.iconst 1, 1) := by decide +kernel
theorem d_M_join_40 : decode b_M_join 40 = .ok (.ireturn, 1) := by decide +kernel
section
variable {p : Program} {l : Launch} {e : Env} {s : State} {m : MethodId} {args : Array Value} {below : List Frame} {meth : Method} {c : Code} {H : Heap} {locs : List Loc} {ls : Array Slot} {D : va_G} {A : Nat → Prop} {h o : Nat → Nat} {t v : Nat → ClassId}
def f_M_join (x1 : Int32) (x2 : Int32) (u0 : St) : Option (Int32 × St) :=
  if (u0 12 0) = 0 then
    (f_M_in x1 0 ((u0 0 0) - 1)).bind fun v_2 =>
    if v_2 = 0 then
      some (0, u0)
    else
      (f_M_in x2 0 3).bind fun v_5 =>
      if v_5 = 0 then
        some (0, u0)
      else
        (sr_ast 24 u0 6 x1 x2).bind fun u_8 =>
        some (1, u_8)
  else
    some (0, u0)
set_option maxHeartbeats 4000000 in
set_option maxRecDepth 100000 in
theorem k_M_join_0 {x1 : Int32} {x2 : Int32} {u0 : St} {r : Int32} {u' : St} (X : sr_X D (tM t) b_M_join 3 R_M w_M_join p s m args meth c A (some .boolean)) (Z : sr_Z D A s.heap (wM h t u0) H locs) (hl : lv_has ls 3 [(0, .ref (h 0)), (1, .int x1), (2, .int x2)]) (hf : f_M_join x1 x2 u0 = some (r, u')) : W p l e (sr_rm 1 22) s m args below meth c H locs 0 0 (sr_Qi D (tM t) below args s A (wM h t u') r) (F0 m 0 ls []) := by
  have hx := X.1
  have hb := X.2.1
  have hK := X.2.2.2.2.2.2.1
  unfold f_M_join at hf
  refine lv_aload_n hx hb d_M_join_0 rfl (lv_at hl 0 rfl) ?_
  refine g_M_96_M X Z d_M_join_1 ?_
  refine lv_if_ne (tgt := 30) hx hb d_M_join_4 rfl (fun q_1 => ?_) (fun q_1 => ?_)
  · have hf := sr_if q_1 hf
    refine lv_iconst (v := 0) hx hb d_M_join_30 (by decide) ?_
    cases hf
    exact sr_retz X Z (by decide) d_M_join_31
  · have hf := sr_it q_1 hf
    refine lv_iload_n hx hb d_M_join_7 rfl (lv_at hl 1 rfl) ?_
    refine lv_iconst (v := 0) hx hb d_M_join_8 (by decide) ?_
    refine lv_aload_n hx hb d_M_join_9 rfl (lv_at hl 0 rfl) ?_
    refine g_M_100_M X Z d_M_join_10 ?_
    refine lv_iconst (v := 1) hx hb d_M_join_13 (by decide) ?_
    refine lv_isub hx hb d_M_join_14 ?_
    obtain ⟨v_2, e_3, hf⟩ := sr_b hf
    refine sr_cSi (As := [.int x1, .int 0, .int ((u0 0 0) - 1)]) (rest := []) X Z sr_cut_0 (va_K.sub hK [] rfl) (c_M_in e_3) (cw_M_92 X.2.2.2.2.2.1 (by decide)) rfl hl rfl (Nat.le_of_ble_eq_true rfl) d_M_join_15 (fun H locs Z => ?_)
    refine lv_if_eq (tgt := 30) hx hb d_M_join_18 rfl (fun q_4 => ?_) (fun q_4 => ?_)
    · have hf := sr_it q_4 hf
      refine lv_iconst (v := 0) hx hb d_M_join_30 (by decide) ?_
      cases hf
      exact sr_retz X Z (by decide) d_M_join_31
    · have hf := sr_if q_4 hf
      refine lv_iload_n hx hb d_M_join_21 rfl (lv_at hl 2 rfl) ?_
      refine lv_iconst (v := 0) hx hb d_M_join_22 (by decide) ?_
      refine lv_iconst (v := 3) hx hb d_M_join_23 (by decide) ?_
      obtain ⟨v_5, e_6, hf⟩ := sr_b hf
      refine sr_cSi (As := [.int x2, .int 0, .int 3]) (rest := []) X Z sr_cut_0 (va_K.sub hK [] rfl) (c_M_in e_6) (cw_M_92 X.2.2.2.2.2.1 (by decide)) rfl hl rfl (Nat.le_of_ble_eq_true rfl) d_M_join_24 (fun H locs Z => ?_)
      refine lv_if_ne (tgt := 32) hx hb d_M_join_27 rfl (fun q_7 => ?_) (fun q_7 => ?_)
      · have hf := sr_if q_7 hf
        refine lv_aload_n hx hb d_M_join_32 rfl (lv_at hl 0 rfl) ?_
        refine g_M_25_M X Z d_M_join_33 ?_
        refine lv_iload_n hx hb d_M_join_36 rfl (lv_at hl 1 rfl) ?_
        refine lv_iload_n hx hb d_M_join_37 rfl (lv_at hl 2 rfl) ?_
        obtain ⟨u_8, e_9, hf⟩ := sr_b hf
        refine sr_iast (wf := (fun q => (wM h t q))) hx hb hK Z 6 5 rfl rfl e_9 (fun _ => rfl) d_M_join_38 (fun H locs Z => ?_)
        refine lv_iconst (v := 1) hx hb d_M_join_39 (by decide) ?_
        cases hf
        exact sr_retz X Z (by decide) d_M_join_40
      · have hf := sr_it q_7 hf
        refine lv_iconst (v := 0) hx hb d_M_join_30 (by decide) ?_
        cases hf
        exact sr_retz X Z (by decide) d_M_join_31
end
set_option maxHeartbeats 4000000 in
set_option maxRecDepth 100000 in
theorem c_M_join {l : Launch} {D : va_G} {h : Nat → Nat} {t : Nat → ClassId} {sz : Nat} {x1 : Int32} {x2 : Int32} {u0 : St} {r : Int32} {u' : St} (hf : f_M_join x1 x2 u0 = some (r, u')) : sr_Ci l y_M_join w_M_join (sr_rm 1 22) D (tM t) (wM h t u0) (wM h t u') sz [.ref (h 0), .int x1, .int x2] r := by
  refine Met.ofW (cc := b_M_join) (maxL := 3) (ret := (some .boolean)) (by decide) rfl ?_
  intro p e s m args below meth c s₁ B hml hv
  obtain ⟨rfl, hsz, hP, hK, hD0⟩ := hv
  subst hsz
  have X : sr_X D (tM t) b_M_join 3 R_M w_M_join p s m _ meth c (va_A (wM h t u0) s.heap.size) (some .boolean) := ⟨B.exec, B.bytes, hml, findClass_of_methodNamed B.named, B.notSynchronized, atoms_spec (ws := w_M_join) B.pre, hK, fun q h => Or.inr h, B.returns⟩
  have Z : sr_Z D (va_A (wM h t u0) s.heap.size) s.heap (wM h t u0) s.heap [] := ⟨hP, hD0.self, va_S.rf⟩
  have hl := lv_entry ([.ref (h 0), .int x1, .int x2] : List Value) (n := 3) (Nat.le_of_ble_eq_true rfl)
  rw [lg_entry_eq]
  exact k_M_join_0 X Z hl hf
