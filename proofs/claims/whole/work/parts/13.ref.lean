/-! M_simple -/
theorem d_M_simple_0 : decode b_M_simple 0 = .ok (.aload_n 0, 1) := by decide +kernel
theorem d_M_simple_1 : decode b_M_simple 1 = .ok (.getfield 16, 3) := by decide +kernel
theorem d_M_simple_4 : decode b_M_simple 4 = .ok (.iload_n 1, 1) := by decide +kernel
theorem d_M_simple_5 : decode b_M_simple 5 = .ok (.iaload, 1) := by decide +kernel
theorem d_M_simple_6 : decode b_M_simple 6 = .ok (.istore_n 2, 1) := by decide +kernel
theorem d_M_simple_7 : decode b_M_simple 7 = .ok (.iload_n 2, 1) := by decide +kernel
theorem d_M_simple_8 : decode b_M_simple 8 = .ok (.iconst 3, 1) := by decide +kernel
theorem d_M_simple_9 : decode b_M_simple 9 = .ok (.if_icmp .ne 18, 3) := by decide +kernel
theorem d_M_simple_12 : decode b_M_simple 12 = .ok (.aload_n 0, 1) := by decide +kernel
theorem d_M_simple_13 : decode b_M_simple 13 = .ok (.iconst 3, 1) := by decide +kernel
theorem d_M_simple_14 : decode b_M_simple 14 = .ok (.iload_n 1, 1) := by decide +kernel
theorem d_M_simple_15 : decode b_M_simple 15 = .ok (.aload_n 0, 1) := by decide +kernel
theorem d_M_simple_16 : decode b_M_simple 16 = .ok (.getfield 19, 3) := by decide +kernel
theorem d_M_simple_19 : decode b_M_simple 19 = .ok (.iload_n 1, 1) := by decide +kernel
theorem d_M_simple_20 : decode b_M_simple 20 = .ok (.iaload, 1) := by decide +kernel
theorem d_M_simple_21 : decode b_M_simple 21 = .ok (.invokevirtual 209, 3) := by decide +kernel
theorem d_M_simple_24 : decode b_M_simple 24 = .ok (.goto 231, 3) := by decide +kernel
theorem d_M_simple_27 : decode b_M_simple 27 = .ok (.iload_n 2, 1) := by decide +kernel
theorem d_M_simple_28 : decode b_M_simple 28 = .ok (.iconst 4, 1) := by decide +kernel
theorem d_M_simple_29 : decode b_M_simple 29 = .ok (.if_icmp .ne 35, 3) := by decide +kernel
theorem d_M_simple_32 : decode b_M_simple 32 = .ok (.aload_n 0, 1) := by decide +kernel
theorem d_M_simple_33 : decode b_M_simple 33 = .ok (.iconst 3, 1) := by decide +kernel
theorem d_M_simple_34 : decode b_M_simple 34 = .ok (.iload_n 1, 1) := by decide +kernel
theorem d_M_simple_35 : decode b_M_simple 35 = .ok (.aload_n 0, 1) := by decide +kernel
theorem d_M_simple_36 : decode b_M_simple 36 = .ok (.getfield 61, 3) := by decide +kernel
theorem d_M_simple_39 : decode b_M_simple 39 = .ok (.bipush 24, 2) := by decide +kernel
theorem d_M_simple_41 : decode b_M_simple 41 = .ok (.aload_n 0, 1) := by decide +kernel
theorem d_M_simple_42 : decode b_M_simple 42 = .ok (.getfield 168, 3) := by decide +kernel
theorem d_M_simple_45 : decode b_M_simple 45 = .ok (.imul, 1) := by decide +kernel
theorem d_M_simple_46 : decode b_M_simple 46 = .ok (.aload_n 0, 1) := by decide +kernel
theorem d_M_simple_47 : decode b_M_simple 47 = .ok (.getfield 7, 3) := by decide +kernel
theorem d_M_simple_50 : decode b_M_simple 50 = .ok (.aload_n 0, 1) := by decide +kernel
theorem d_M_simple_51 : decode b_M_simple 51 = .ok (.iload_n 1, 1) := by decide +kernel
theorem d_M_simple_52 : decode b_M_simple 52 = .ok (.invokevirtual 122, 3) := by decide +kernel
theorem d_M_simple_55 : decode b_M_simple 55 = .ok (.iaload, 1) := by decide +kernel
theorem d_M_simple_56 : decode b_M_simple 56 = .ok (.iadd, 1) := by decide +kernel
theorem d_M_simple_57 : decode b_M_simple 57 = .ok (.iaload, 1) := by decide +kernel
theorem d_M_simple_58 : decode b_M_simple 58 = .ok (.invokevirtual 209, 3) := by decide +kernel
theorem d_M_simple_61 : decode b_M_simple 61 = .ok (.goto 194, 3) := by decide +kernel
theorem d_M_simple_64 : decode b_M_simple 64 = .ok (.iload_n 2, 1) := by decide +kernel
theorem d_M_simple_65 : decode b_M_simple 65 = .ok (.bipush 6, 2) := by decide +kernel
theorem d_M_simple_67 : decode b_M_simple 67 = .ok (.if_icmp .ne 12, 3) := by decide +kernel
theorem d_M_simple_70 : decode b_M_simple 70 = .ok (.aload_n 0, 1) := by decide +kernel
theorem d_M_simple_71 : decode b_M_simple 71 = .ok (.iload_n 1, 1) := by decide +kernel
theorem d_M_simple_72 : decode b_M_simple 72 = .ok (.iconst 3, 1) := by decide +kernel
theorem d_M_simple_73 : decode b_M_simple 73 = .ok (.invokevirtual 183, 3) := by decide +kernel
theorem d_M_simple_76 : decode b_M_simple 76 = .ok (.goto 179, 3) := by decide +kernel
theorem d_M_simple_79 : decode b_M_simple 79 = .ok (.iload_n 2, 1) := by decide +kernel
theorem d_M_simple_80 : decode b_M_simple 80 = .ok (.bipush 7, 2) := by decide +kernel
theorem d_M_simple_82 : decode b_M_simple 82 = .ok (.if_icmp .ne 28, 3) := by decide +kernel
theorem d_M_simple_85 : decode b_M_simple 85 = .ok (.aload_n 0, 1) := by decide +kernel
theorem d_M_simple_86 : decode b_M_simple 86 = .ok (.iload_n 1, 1) := by decide +kernel
theorem d_M_simple_87 : decode b_M_simple 87 = .ok (.bipush 7, 2) := by decide +kernel
theorem d_M_simple_89 : decode b_M_simple 89 = .ok (.invokevirtual 183, 3) := by decide +kernel
theorem d_M_simple_92 : decode b_M_simple 92 = .ok (.aload_n 0, 1) := by decide +kernel
theorem d_M_simple_93 : decode b_M_simple 93 = .ok (.getfield 67, 3) := by decide +kernel
theorem d_M_simple_96 : decode b_M_simple 96 = .ok (.bipush 24, 2) := by decide +kernel
theorem d_M_simple_98 : decode b_M_simple 98 = .ok (.aload_n 0, 1) := by decide +kernel
theorem d_M_simple_99 : decode b_M_simple 99 = .ok (.getfield 168, 3) := by decide +kernel
theorem d_M_simple_102 : decode b_M_simple 102 = .ok (.imul, 1) := by decide +kernel
theorem d_M_simple_103 : decode b_M_simple 103 = .ok (.iload_n 1, 1) := by decide +kernel
theorem d_M_simple_104 : decode b_M_simple 104 = .ok (.iadd, 1) := by decide +kernel
theorem d_M_simple_105 : decode b_M_simple 105 = .ok (.iconst 0, 1) := by decide +kernel
theorem d_M_simple_106 : decode b_M_simple 106 = .ok (.bastore, 1) := by decide +kernel
theorem d_M_simple_107 : decode b_M_simple 107 = .ok (.goto 148, 3) := by decide +kernel
theorem d_M_simple_110 : decode b_M_simple 110 = .ok (.iload_n 2, 1) := by decide +kernel
theorem d_M_simple_111 : decode b_M_simple 111 = .ok (.iconst 5, 1) := by decide +kernel
theorem d_M_simple_112 : decode b_M_simple 112 = .ok (.if_icmp .ne 44, 3) := by decide +kernel
theorem d_M_simple_115 : decode b_M_simple 115 = .ok (.iload_n 1, 1) := by decide +kernel
theorem d_M_simple_116 : decode b_M_simple 116 = .ok (.aload_n 0, 1) := by decide +kernel
theorem d_M_simple_117 : decode b_M_simple 117 = .ok (.getfield 143, 3) := by decide +kernel
theorem d_M_simple_120 : decode b_M_simple 120 = .ok (.if_icmp .eq 36, 3) := by decide +kernel
theorem d_M_simple_123 : decode b_M_simple 123 = .ok (.aload_n 0, 1) := by decide +kernel
theorem d_M_simple_124 : decode b_M_simple 124 = .ok (.aload_n 0, 1) := by decide +kernel
theorem d_M_simple_125 : decode b_M_simple 125 = .ok (.getfield 19, 3) := by decide +kernel
theorem d_M_simple_128 : decode b_M_simple 128 = .ok (.iload_n 1, 1) := by decide +kernel
theorem d_M_simple_129 : decode b_M_simple 129 = .ok (.iaload, 1) := by decide +kernel
theorem d_M_simple_130 : decode b_M_simple 130 = .ok (.invokevirtual 246, 3) := by decide +kernel
theorem d_M_simple_133 : decode b_M_simple 133 = .ok (.ifCond .lt 14, 3) := by decide +kernel
theorem d_M_simple_136 : decode b_M_simple 136 = .ok (.aload_n 0, 1) := by decide +kernel
theorem d_M_simple_137 : decode b_M_simple 137 = .ok (.iconst 3, 1) := by decide +kernel
theorem d_M_simple_138 : decode b_M_simple 138 = .ok (.iload_n 1, 1) := by decide +kernel
theorem d_M_simple_139 : decode b_M_simple 139 = .ok (.bipush 101, 2) := by decide +kernel
theorem d_M_simple_141 : decode b_M_simple 141 = .ok (.invokevirtual 209, 3) := by decide +kernel
theorem d_M_simple_144 : decode b_M_simple 144 = .ok (.goto 111, 3) := by decide +kernel
theorem d_M_simple_147 : decode b_M_simple 147 = .ok (.aload_n 0, 1) := by decide +kernel
theorem d_M_simple_148 : decode b_M_simple 148 = .ok (.iload_n 1, 1) := by decide +kernel
theorem d_M_simple_149 : decode b_M_simple 149 = .ok (.iconst 3, 1) := by decide +kernel
theorem d_M_simple_150 : decode b_M_simple 150 = .ok (.invokevirtual 183, 3) := by decide +kernel
theorem d_M_simple_153 : decode b_M_simple 153 = .ok (.goto 102, 3) := by decide +kernel
theorem d_M_simple_156 : decode b_M_simple 156 = .ok (.iload_n 2, 1) := by decide +kernel
theorem d_M_simple_157 : decode b_M_simple 157 = .ok (.iconst 1, 1) := by decide +kernel
theorem d_M_simple_158 : decode b_M_simple 158 = .ok (.if_icmp .ne 35, 3) := by decide +kernel
theorem d_M_simple_161 : decode b_M_simple 161 = .ok (.aload_n 0, 1) := by decide +kernel
theorem d_M_simple_162 : decode b_M_simple 162 = .ok (.iload_n 1, 1) := by decide +kernel
theorem d_M_simple_163 : decode b_M_simple 163 = .ok (.aload_n 0, 1) := by decide +kernel
theorem d_M_simple_164 : decode b_M_simple 164 = .ok (.getfield 19, 3) := by decide +kernel
theorem d_M_simple_167 : decode b_M_simple 167 = .ok (.iload_n 1, 1) := by decide +kernel
theorem d_M_simple_168 : decode b_M_simple 168 = .ok (.iaload, 1) := by decide +kernel
theorem d_M_simple_169 : decode b_M_simple 169 = .ok (.aload_n 0, 1) := by decide +kernel
theorem d_M_simple_170 : decode b_M_simple 170 = .ok (.iload_n 1, 1) := by decide +kernel
theorem d_M_simple_171 : decode b_M_simple 171 = .ok (.aload_n 0, 1) := by decide +kernel
theorem d_M_simple_172 : decode b_M_simple 172 = .ok (.getfield 19, 3) := by decide +kernel
theorem d_M_simple_175 : decode b_M_simple 175 = .ok (.iload_n 1, 1) := by decide +kernel
theorem d_M_simple_176 : decode b_M_simple 176 = .ok (.iaload, 1) := by decide +kernel
theorem d_M_simple_177 : decode b_M_simple 177 = .ok (.invokevirtual 206, 3) := by decide +kernel
theorem d_M_simple_180 : decode b_M_simple 180 = .ok (.aload_n 0, 1) := by decide +kernel
theorem d_M_simple_181 : decode b_M_simple 181 = .ok (.getfield 22, 3) := by decide +kernel
theorem d_M_simple_184 : decode b_M_simple 184 = .ok (.iload_n 1, 1) := by decide +kernel
theorem d_M_simple_185 : decode b_M_simple 185 = .ok (.iaload, 1) := by decide +kernel
theorem d_M_simple_186 : decode b_M_simple 186 = .ok (.iadd, 1) := by decide +kernel
theorem d_M_simple_187 : decode b_M_simple 187 = .ok (.invokevirtual 249, 3) := by decide +kernel
theorem d_M_simple_190 : decode b_M_simple 190 = .ok (.goto 58, 3) := by decide +kernel
theorem d_M_simple_193 : decode b_M_simple 193 = .ok (.iload_n 2, 1) := by decide +kernel
theorem d_M_simple_194 : decode b_M_simple 194 = .ok (.iconst 2, 1) := by decide +kernel
theorem d_M_simple_195 : decode b_M_simple 195 = .ok (.if_icmp .ne 28, 3) := by decide +kernel
theorem d_M_simple_198 : decode b_M_simple 198 = .ok (.aload_n 0, 1) := by decide +kernel
theorem d_M_simple_199 : decode b_M_simple 199 = .ok (.iload_n 1, 1) := by decide +kernel
theorem d_M_simple_200 : decode b_M_simple 200 = .ok (.aload_n 0, 1) := by decide +kernel
theorem d_M_simple_201 : decode b_M_simple 201 = .ok (.getfield 19, 3) := by decide +kernel
theorem d_M_simple_204 : decode b_M_simple 204 = .ok (.iload_n 1, 1) := by decide +kernel
theorem d_M_simple_205 : decode b_M_simple 205 = .ok (.iaload, 1) := by decide +kernel
theorem d_M_simple_206 : decode b_M_simple 206 = .ok (.aload_n 0, 1) := by decide +kernel
theorem d_M_simple_207 : decode b_M_simple 207 = .ok (.iload_n 1, 1) := by decide +kernel
theorem d_M_simple_208 : decode b_M_simple 208 = .ok (.aload_n 0, 1) := by decide +kernel
theorem d_M_simple_209 : decode b_M_simple 209 = .ok (.getfield 22, 3) := by decide +kernel
theorem d_M_simple_212 : decode b_M_simple 212 = .ok (.iload_n 1, 1) := by decide +kernel
theorem d_M_simple_213 : decode b_M_simple 213 = .ok (.iaload, 1) := by decide +kernel
theorem d_M_simple_214 : decode b_M_simple 214 = .ok (.invokevirtual 206, 3) := by decide +kernel
theorem d_M_simple_217 : decode b_M_simple 217 = .ok (.invokevirtual 249, 3) := by decide +kernel
theorem d_M_simple_220 : decode b_M_simple 220 = .ok (.goto 28, 3) := by decide +kernel
theorem d_M_simple_223 : decode b_M_simple 223 = .ok (.iload_n 2, 1) := by decide +kernel
theorem d_M_simple_224 : decode b_M_simple 224 = .ok (.iconst 5, 1) := by decide +kernel
theorem d_M_simple_225 : decode b_M_simple 225 = .ok (.if_icmp .ne 23, 3) := by decide +kernel
theorem d_M_simple_228 : decode b_M_simple 228 = .ok (.aload_n 0, 1) := by decide +kernel
theorem d_M_simple_229 : decode b_M_simple 229 = .ok (.iload_n 1, 1) := by decide +kernel
theorem d_M_simple_230 : decode b_M_simple 230 = .ok (.aload_n 0, 1) := by decide +kernel
theorem d_M_simple_231 : decode b_M_simple 231 = .ok (.getfield 22, 3) := by decide +kernel
theorem d_M_simple_234 : decode b_M_simple 234 = .ok (.iload_n 1, 1) := by decide +kernel
theorem d_M_simple_235 : decode b_M_simple 235 = .ok (.iaload, 1) := by decide +kernel
theorem d_M_simple_236 : decode b_M_simple 236 = .ok (.aload_n 0, 1) := by decide +kernel
theorem d_M_simple_237 : decode b_M_simple 237 = .ok (.getfield 49, 3) := by decide +kernel
theorem d_M_simple_240 : decode b_M_simple 240 = .ok (.aload_n 0, 1) := by decide +kernel
theorem d_M_simple_241 : decode b_M_simple 241 = .ok (.getfield 168, 3) := by decide +kernel
theorem d_M_simple_244 : decode b_M_simple 244 = .ok (.iaload, 1) := by decide +kernel
theorem d_M_simple_245 : decode b_M_simple 245 = .ok (.invokevirtual 249, 3) := by decide +kernel
theorem d_M_simple_248 : decode b_M_simple 248 = .ok (.aload_n 0, 1) := by decide +kernel
theorem d_M_simple_249 : decode b_M_simple 249 = .ok (.iconst 1, 1) := by decide +kernel
theorem d_M_simple_250 : decode b_M_simple 250 = .ok (.iload_n 1, 1) := by decide +kernel
theorem d_M_simple_251 : decode b_M_simple 251 = .ok (.iconst 0, 1) := by decide +kernel
theorem d_M_simple_252 : decode b_M_simple 252 = .ok (.invokevirtual 209, 3) := by decide +kernel
theorem d_M_simple_255 : decode b_M_simple 255 = .ok (.return_, 1) := by decide +kernel
section
variable {p : Program} {l : Launch} {e : Env} {s : State} {m : MethodId} {args : Array Value} {below : List Frame} {meth : Method} {c : Code} {H : Heap} {locs : List Loc} {ls : Array Slot} {D : va_G} {A : Nat → Prop} {h o : Nat → Nat} {t v : Nat → ClassId}
def f_M_simple_248 (x1 : Int32) (u0 : St) : Option (St) :=
  (f_M_then 1 x1 0 u0).bind fun u_11 =>
  some u_11
set_option maxHeartbeats 4000000 in
set_option maxRecDepth 100000 in
theorem k_M_simple_248 {x1 : Int32} {u0 : St} {u' : St} (X : sr_X D (tM t) b_M_simple 3 R_M w_M_simple p s m args meth c A none) (Z : sr_Z D A s.heap (wM h t u0) H locs) (hl : lv_has ls 3 [(0, .ref (h 0)), (1, .int x1)]) (hf : f_M_simple_248 x1 u0 = some u') : W p l e (sr_rm 2 46) s m args below meth c H locs 0 0 (sr_Qv D (tM t) below args s A (wM h t u')) (F0 m 248 ls []) := by
  have hx := X.1
  have hb := X.2.1
  have hK := X.2.2.2.2.2.2.1
  unfold f_M_simple_248 at hf
  refine lv_aload_n hx hb d_M_simple_248 rfl (lv_at hl 0 rfl) ?_
  refine lv_iconst (v := 1) hx hb d_M_simple_249 (by decide) ?_
  refine lv_iload_n hx hb d_M_simple_250 rfl (lv_at hl 1 rfl) ?_
  refine lv_iconst (v := 0) hx hb d_M_simple_251 (by decide) ?_
  obtain ⟨u_11, e_12, hf⟩ := sr_b hf
  refine sr_cVv (As := [.int 1, .int x1, .int 0]) (rest := []) X Z sr_cut_self hK (c_M_then e_12) (cw_M_209 X.2.2.2.2.2.1 (by decide)) 0 rfl rfl rfl hl rfl (Nat.le_of_ble_eq_true rfl) d_M_simple_252 (fun H locs Z => ?_)
  cases hf
  exact sr_retv X Z d_M_simple_255
def f_M_simple_156 (x1 : Int32) (x2 : Int32) (u0 : St) : Option (St) :=
  if x2 = 1 then
    (sr_ald 24 (u0 4) x1).bind fun v_27 =>
    (sr_ald 24 (u0 4) x1).bind fun v_29 =>
    (f_M_see u0 x1 v_29).bind fun v_31 =>
    (sr_ald 24 (u0 5) x1).bind fun v_33 =>
    (f_M_store x1 v_27 (v_31 + v_33) u0).bind fun u_35 =>
    f_M_simple_248 x1 u_35
  else
    if x2 = 2 then
      (sr_ald 24 (u0 4) x1).bind fun v_19 =>
      (sr_ald 24 (u0 5) x1).bind fun v_21 =>
      (f_M_see u0 x1 v_21).bind fun v_23 =>
      (f_M_store x1 v_19 v_23 u0).bind fun u_25 =>
      f_M_simple_248 x1 u_25
    else
      if x2 = 5 then
        (sr_ald 24 (u0 5) x1).bind fun v_13 =>
        (sr_ald 8 (u0 19) (u0 33 0)).bind fun v_15 =>
        (f_M_store x1 v_13 v_15 u0).bind fun u_17 =>
        f_M_simple_248 x1 u_17
      else
        f_M_simple_248 x1 u0
set_option maxHeartbeats 4000000 in
set_option maxRecDepth 100000 in
theorem k_M_simple_156 {x1 : Int32} {x2 : Int32} {u0 : St} {u' : St} (X : sr_X D (tM t) b_M_simple 3 R_M w_M_simple p s m args meth c A none) (Z : sr_Z D A s.heap (wM h t u0) H locs) (hl : lv_has ls 3 [(0, .ref (h 0)), (1, .int x1), (2, .int x2)]) (hf : f_M_simple_156 x1 x2 u0 = some u') : W p l e (sr_rm 2 46) s m args below meth c H locs 0 0 (sr_Qv D (tM t) below args s A (wM h t u')) (F0 m 156 ls []) := by
  have hx := X.1
  have hb := X.2.1
  have hK := X.2.2.2.2.2.2.1
  unfold f_M_simple_156 at hf
  refine lv_iload_n hx hb d_M_simple_156 rfl (lv_at hl 2 rfl) ?_
  refine lv_iconst (v := 1) hx hb d_M_simple_157 (by decide) ?_
  refine lv_icmp_ne (tgt := 193) hx hb d_M_simple_158 rfl (fun q_8 => ?_) (fun q_8 => ?_)
  · have hf := sr_if q_8 hf
    refine lv_iload_n hx hb d_M_simple_193 rfl (lv_at hl 2 rfl) ?_
    refine lv_iconst (v := 2) hx hb d_M_simple_194 (by decide) ?_
    refine lv_icmp_ne (tgt := 223) hx hb d_M_simple_195 rfl (fun q_9 => ?_) (fun q_9 => ?_)
    · have hf := sr_if q_9 hf
      refine lv_iload_n hx hb d_M_simple_223 rfl (lv_at hl 2 rfl) ?_
      refine lv_iconst (v := 5) hx hb d_M_simple_224 (by decide) ?_
      refine lv_icmp_ne (tgt := 248) hx hb d_M_simple_225 rfl (fun q_10 => ?_) (fun q_10 => ?_)
      · have hf := sr_if q_10 hf
        exact k_M_simple_248 X Z (lv_sub hl [0, 1] rfl) hf
      · have hf := sr_it q_10 hf
        refine lv_aload_n hx hb d_M_simple_228 rfl (lv_at hl 0 rfl) ?_
        refine lv_iload_n hx hb d_M_simple_229 rfl (lv_at hl 1 rfl) ?_
        refine lv_aload_n hx hb d_M_simple_230 rfl (lv_at hl 0 rfl) ?_
        refine g_M_22_M X Z d_M_simple_231 ?_
        refine lv_iload_n hx hb d_M_simple_234 rfl (lv_at hl 1 rfl) ?_
        obtain ⟨v_13, e_14, hf⟩ := sr_b hf
        refine sr_iald hx hb hK Z 5 4 rfl rfl e_14 d_M_simple_235 ?_
        refine lv_aload_n hx hb d_M_simple_236 rfl (lv_at hl 0 rfl) ?_
        refine g_M_49_M X Z d_M_simple_237 ?_
        refine lv_aload_n hx hb d_M_simple_240 rfl (lv_at hl 0 rfl) ?_
        refine g_M_168_M X Z d_M_simple_241 ?_
        obtain ⟨v_15, e_16, hf⟩ := sr_b hf
        refine sr_iald hx hb hK Z 14 13 rfl rfl e_16 d_M_simple_244 ?_
        obtain ⟨u_17, e_18, hf⟩ := sr_b hf
        refine sr_cVv (As := [.int x1, .int v_13, .int v_15]) (rest := []) X Z sr_cut_self hK (c_M_store e_18) (cw_M_249 X.2.2.2.2.2.1 (by decide)) 0 rfl rfl rfl hl rfl (Nat.le_of_ble_eq_true rfl) d_M_simple_245 (fun H locs Z => ?_)
        exact k_M_simple_248 X Z (lv_sub hl [0, 1] rfl) hf
    · have hf := sr_it q_9 hf
      refine lv_aload_n hx hb d_M_simple_198 rfl (lv_at hl 0 rfl) ?_
      refine lv_iload_n hx hb d_M_simple_199 rfl (lv_at hl 1 rfl) ?_
      refine lv_aload_n hx hb d_M_simple_200 rfl (lv_at hl 0 rfl) ?_
      refine g_M_19_M X Z d_M_simple_201 ?_
      refine lv_iload_n hx hb d_M_simple_204 rfl (lv_at hl 1 rfl) ?_
      obtain ⟨v_19, e_20, hf⟩ := sr_b hf
      refine sr_iald hx hb hK Z 4 3 rfl rfl e_20 d_M_simple_205 ?_
      refine lv_aload_n hx hb d_M_simple_206 rfl (lv_at hl 0 rfl) ?_
      refine lv_iload_n hx hb d_M_simple_207 rfl (lv_at hl 1 rfl) ?_
      refine lv_aload_n hx hb d_M_simple_208 rfl (lv_at hl 0 rfl) ?_
      refine g_M_22_M X Z d_M_simple_209 ?_
      refine lv_iload_n hx hb d_M_simple_212 rfl (lv_at hl 1 rfl) ?_
      obtain ⟨v_21, e_22, hf⟩ := sr_b hf
      refine sr_iald hx hb hK Z 5 4 rfl rfl e_22 d_M_simple_213 ?_
      obtain ⟨v_23, e_24, hf⟩ := sr_b hf
      refine sr_cVi (As := [.int x1, .int v_21]) (rest := [.int v_19, .int x1, .ref (h 0)]) X Z sr_cut_self hK (c_M_see e_24) (cw_M_206 X.2.2.2.2.2.1 (by decide)) 0 rfl rfl rfl hl rfl (Nat.le_of_ble_eq_true rfl) d_M_simple_214 (fun H locs Z => ?_)
      obtain ⟨u_25, e_26, hf⟩ := sr_b hf
      refine sr_cVv (As := [.int x1, .int v_19, .int v_23]) (rest := []) X Z sr_cut_self hK (c_M_store e_26) (cw_M_249 X.2.2.2.2.2.1 (by decide)) 0 rfl rfl rfl hl rfl (Nat.le_of_ble_eq_true rfl) d_M_simple_217 (fun H locs Z => ?_)
      refine lv_goto (tgt := 248) hx hb d_M_simple_220 rfl ?_
      exact k_M_simple_248 X Z (lv_sub hl [0, 1] rfl) hf
  · have hf := sr_it q_8 hf
    refine lv_aload_n hx hb d_M_simple_161 rfl (lv_at hl 0 rfl) ?_
    refine lv_iload_n hx hb d_M_simple_162 rfl (lv_at hl 1 rfl) ?_
    refine lv_aload_n hx hb d_M_simple_163 rfl (lv_at hl 0 rfl) ?_
    refine g_M_19_M X Z d_M_simple_164 ?_
    refine lv_iload_n hx hb d_M_simple_167 rfl (lv_at hl 1 rfl) ?_
    obtain ⟨v_27, e_28, hf⟩ := sr_b hf
    refine sr_iald hx hb hK Z 4 3 rfl rfl e_28 d_M_simple_168 ?_
    refine lv_aload_n hx hb d_M_simple_169 rfl (lv_at hl 0 rfl) ?_
    refine lv_iload_n hx hb d_M_simple_170 rfl (lv_at hl 1 rfl) ?_
    refine lv_aload_n hx hb d_M_simple_171 rfl (lv_at hl 0 rfl) ?_
    refine g_M_19_M X Z d_M_simple_172 ?_
    refine lv_iload_n hx hb d_M_simple_175 rfl (lv_at hl 1 rfl) ?_
    obtain ⟨v_29, e_30, hf⟩ := sr_b hf
    refine sr_iald hx hb hK Z 4 3 rfl rfl e_30 d_M_simple_176 ?_
    obtain ⟨v_31, e_32, hf⟩ := sr_b hf
    refine sr_cVi (As := [.int x1, .int v_29]) (rest := [.int v_27, .int x1, .ref (h 0)]) X Z sr_cut_self hK (c_M_see e_32) (cw_M_206 X.2.2.2.2.2.1 (by decide)) 0 rfl rfl rfl hl rfl (Nat.le_of_ble_eq_true rfl) d_M_simple_177 (fun H locs Z => ?_)
    refine lv_aload_n hx hb d_M_simple_180 rfl (lv_at hl 0 rfl) ?_
    refine g_M_22_M X Z d_M_simple_181 ?_
    refine lv_iload_n hx hb d_M_simple_184 rfl (lv_at hl 1 rfl) ?_
    obtain ⟨v_33, e_34, hf⟩ := sr_b hf
    refine sr_iald hx hb hK Z 5 4 rfl rfl e_34 d_M_simple_185 ?_
    refine lv_iadd hx hb d_M_simple_186 ?_
    obtain ⟨u_35, e_36, hf⟩ := sr_b hf
    refine sr_cVv (As := [.int x1, .int v_27, .int (v_31 + v_33)]) (rest := []) X Z sr_cut_self hK (c_M_store e_36) (cw_M_249 X.2.2.2.2.2.1 (by decide)) 0 rfl rfl rfl hl rfl (Nat.le_of_ble_eq_true rfl) d_M_simple_187 (fun H locs Z => ?_)
    refine lv_goto (tgt := 248) hx hb d_M_simple_190 rfl ?_
    exact k_M_simple_248 X Z (lv_sub hl [0, 1] rfl) hf
def f_M_simple (x1 : Int32) (u0 : St) : Option (St) :=
  (sr_ald 24 (u0 3) x1).bind fun v_1 =>
  if v_1 = 3 then
    (sr_ald 24 (u0 4) x1).bind fun v_61 =>
    (f_M_then 3 x1 v_61 u0).bind fun u_63 =>
    some u_63
  else
    if v_1 = 4 then
      (f_M_handler u0 x1).bind fun v_53 =>
      (sr_ald 24 (u0 1) v_53).bind fun v_55 =>
      (sr_ald 192 (u0 23) ((24 * (u0 33 0)) + v_55)).bind fun v_57 =>
      (f_M_then 3 x1 v_57 u0).bind fun u_59 =>
      some u_59
    else
      if v_1 = 6 then
        (f_M_put x1 3 u0).bind fun u_51 =>
        some u_51
      else
        if v_1 = 7 then
          (f_M_put x1 7 u0).bind fun u_47 =>
          (sr_ast 192 u_47 25 ((24 * (u_47 33 0)) + x1) 0).bind fun u_49 =>
          some u_49
        else
          if v_1 = 5 then
            if x1 = (u0 13 0) then
              f_M_simple_156 x1 v_1 u0
            else
              (sr_ald 24 (u0 4) x1).bind fun v_38 =>
              (f_M_waiting u0 v_38).bind fun v_40 =>
              if v_40 < 0 then
                (f_M_put x1 3 u0).bind fun u_43 =>
                some u_43
              else
                (f_M_then 3 x1 101 u0).bind fun u_45 =>
                some u_45
          else
            f_M_simple_156 x1 v_1 u0
set_option maxHeartbeats 4000000 in
set_option maxRecDepth 100000 in
theorem k_M_simple_0 {x1 : Int32} {u0 : St} {u' : St} (X : sr_X D (tM t) b_M_simple 3 R_M w_M_simple p s m args meth c A none) (Z : sr_Z D A s.heap (wM h t u0) H locs) (hl : lv_has ls 3 [(0, .ref (h 0)), (1, .int x1)]) (hf : f_M_simple x1 u0 = some u') : W p l e (sr_rm 2 46) s m args below meth c H locs 0 0 (sr_Qv D (tM t) below args s A (wM h t u')) (F0 m 0 ls []) := by
  have hx := X.1
  have hb := X.2.1
  have hK := X.2.2.2.2.2.2.1
  unfold f_M_simple at hf
  refine lv_aload_n hx hb d_M_simple_0 rfl (lv_at hl 0 rfl) ?_
  refine g_M_16_M X Z d_M_simple_1 ?_
  refine lv_iload_n hx hb d_M_simple_4 rfl (lv_at hl 1 rfl) ?_
  obtain ⟨v_1, e_2, hf⟩ := sr_b hf
  refine sr_iald hx hb hK Z 3 2 rfl rfl e_2 d_M_simple_5 ?_
  refine lv_istore_n (lv' := [(2, .int v_1), (0, .ref (h 0)), (1, .int x1)]) hx hb d_M_simple_6 rfl hl (by decide) rfl (fun ls hl => ?_)
  refine lv_iload_n hx hb d_M_simple_7 rfl (lv_at hl 0 rfl) ?_
  refine lv_iconst (v := 3) hx hb d_M_simple_8 (by decide) ?_
  refine lv_icmp_ne (tgt := 27) hx hb d_M_simple_9 rfl (fun q_3 => ?_) (fun q_3 => ?_)
  · have hf := sr_if q_3 hf
    refine lv_iload_n hx hb d_M_simple_27 rfl (lv_at hl 0 rfl) ?_
    refine lv_iconst (v := 4) hx hb d_M_simple_28 (by decide) ?_
    refine lv_icmp_ne (tgt := 64) hx hb d_M_simple_29 rfl (fun q_4 => ?_) (fun q_4 => ?_)
    · have hf := sr_if q_4 hf
      refine lv_iload_n hx hb d_M_simple_64 rfl (lv_at hl 0 rfl) ?_
      refine lv_bipush (v := 6) hx hb d_M_simple_65 (by decide) ?_
      refine lv_icmp_ne (tgt := 79) hx hb d_M_simple_67 rfl (fun q_5 => ?_) (fun q_5 => ?_)
      · have hf := sr_if q_5 hf
        refine lv_iload_n hx hb d_M_simple_79 rfl (lv_at hl 0 rfl) ?_
        refine lv_bipush (v := 7) hx hb d_M_simple_80 (by decide) ?_
        refine lv_icmp_ne (tgt := 110) hx hb d_M_simple_82 rfl (fun q_6 => ?_) (fun q_6 => ?_)
        · have hf := sr_if q_6 hf
          refine lv_iload_n hx hb d_M_simple_110 rfl (lv_at hl 0 rfl) ?_
          refine lv_iconst (v := 5) hx hb d_M_simple_111 (by decide) ?_
          refine lv_icmp_ne (tgt := 156) hx hb d_M_simple_112 rfl (fun q_7 => ?_) (fun q_7 => ?_)
          · have hf := sr_if q_7 hf
            exact k_M_simple_156 X Z (lv_sub hl [1, 2, 0] rfl) hf
          · have hf := sr_it q_7 hf
            refine lv_iload_n hx hb d_M_simple_115 rfl (lv_at hl 2 rfl) ?_
            refine lv_aload_n hx hb d_M_simple_116 rfl (lv_at hl 1 rfl) ?_
            refine g_M_143_M X Z d_M_simple_117 ?_
            refine lv_icmp_eq (tgt := 156) hx hb d_M_simple_120 rfl (fun q_37 => ?_) (fun q_37 => ?_)
            · have hf := sr_it q_37 hf
              exact k_M_simple_156 X Z (lv_sub hl [1, 2, 0] rfl) hf
            · have hf := sr_if q_37 hf
              refine lv_aload_n hx hb d_M_simple_123 rfl (lv_at hl 1 rfl) ?_
              refine lv_aload_n hx hb d_M_simple_124 rfl (lv_at hl 1 rfl) ?_
              refine g_M_19_M X Z d_M_simple_125 ?_
              refine lv_iload_n hx hb d_M_simple_128 rfl (lv_at hl 2 rfl) ?_
              obtain ⟨v_38, e_39, hf⟩ := sr_b hf
              refine sr_iald hx hb hK Z 4 3 rfl rfl e_39 d_M_simple_129 ?_
              obtain ⟨v_40, e_41, hf⟩ := sr_b hf
              refine sr_cVi (As := [.int v_38]) (rest := []) X Z sr_cut_self hK (c_M_waiting e_41) (cw_M_246 X.2.2.2.2.2.1 (by decide)) 0 rfl rfl rfl hl rfl (Nat.le_of_ble_eq_true rfl) d_M_simple_130 (fun H locs Z => ?_)
              refine lv_if_lt (tgt := 147) hx hb d_M_simple_133 rfl (fun q_42 => ?_) (fun q_42 => ?_)
              · have hf := sr_it q_42 hf
                refine lv_aload_n hx hb d_M_simple_147 rfl (lv_at hl 1 rfl) ?_
                refine lv_iload_n hx hb d_M_simple_148 rfl (lv_at hl 2 rfl) ?_
                refine lv_iconst (v := 3) hx hb d_M_simple_149 (by decide) ?_
                obtain ⟨u_43, e_44, hf⟩ := sr_b hf
                refine sr_cVv (As := [.int x1, .int 3]) (rest := []) X Z sr_cut_self hK (c_M_put e_44) (cw_M_183 X.2.2.2.2.2.1 (by decide)) 0 rfl rfl rfl hl rfl (Nat.le_of_ble_eq_true rfl) d_M_simple_150 (fun H locs Z => ?_)
                refine lv_goto (tgt := 255) hx hb d_M_simple_153 rfl ?_
                cases hf
                exact sr_retv X Z d_M_simple_255
              · have hf := sr_if q_42 hf
                refine lv_aload_n hx hb d_M_simple_136 rfl (lv_at hl 1 rfl) ?_
                refine lv_iconst (v := 3) hx hb d_M_simple_137 (by decide) ?_
                refine lv_iload_n hx hb d_M_simple_138 rfl (lv_at hl 2 rfl) ?_
                refine lv_bipush (v := 101) hx hb d_M_simple_139 (by decide) ?_
                obtain ⟨u_45, e_46, hf⟩ := sr_b hf
                refine sr_cVv (As := [.int 3, .int x1, .int 101]) (rest := []) X Z sr_cut_self hK (c_M_then e_46) (cw_M_209 X.2.2.2.2.2.1 (by decide)) 0 rfl rfl rfl hl rfl (Nat.le_of_ble_eq_true rfl) d_M_simple_141 (fun H locs Z => ?_)
                refine lv_goto (tgt := 255) hx hb d_M_simple_144 rfl ?_
                cases hf
                exact sr_retv X Z d_M_simple_255
        · have hf := sr_it q_6 hf
          refine lv_aload_n hx hb d_M_simple_85 rfl (lv_at hl 1 rfl) ?_
          refine lv_iload_n hx hb d_M_simple_86 rfl (lv_at hl 2 rfl) ?_
          refine lv_bipush (v := 7) hx hb d_M_simple_87 (by decide) ?_
          obtain ⟨u_47, e_48, hf⟩ := sr_b hf
          refine sr_cVv (As := [.int x1, .int 7]) (rest := []) X Z sr_cut_self hK (c_M_put e_48) (cw_M_183 X.2.2.2.2.2.1 (by decide)) 0 rfl rfl rfl hl rfl (Nat.le_of_ble_eq_true rfl) d_M_simple_89 (fun H locs Z => ?_)
          refine lv_aload_n hx hb d_M_simple_92 rfl (lv_at hl 1 rfl) ?_
          refine g_M_67_M X Z d_M_simple_93 ?_
          refine lv_bipush (v := 24) hx hb d_M_simple_96 (by decide) ?_
          refine lv_aload_n hx hb d_M_simple_98 rfl (lv_at hl 1 rfl) ?_
          refine g_M_168_M X Z d_M_simple_99 ?_
          refine lv_imul hx hb d_M_simple_102 ?_
          refine lv_iload_n hx hb d_M_simple_103 rfl (lv_at hl 2 rfl) ?_
          refine lv_iadd hx hb d_M_simple_104 ?_
          refine lv_iconst (v := 0) hx hb d_M_simple_105 (by decide) ?_
          obtain ⟨u_49, e_50, hf⟩ := sr_b hf
          refine sr_zast (wf := (fun q => (wM h t q))) hx hb hK Z 20 19 rfl rfl rfl e_50 (fun _ => rfl) d_M_simple_106 (fun H locs Z => ?_)
          refine lv_goto (tgt := 255) hx hb d_M_simple_107 rfl ?_
          cases hf
          exact sr_retv X Z d_M_simple_255
      · have hf := sr_it q_5 hf
        refine lv_aload_n hx hb d_M_simple_70 rfl (lv_at hl 1 rfl) ?_
        refine lv_iload_n hx hb d_M_simple_71 rfl (lv_at hl 2 rfl) ?_
        refine lv_iconst (v := 3) hx hb d_M_simple_72 (by decide) ?_
        obtain ⟨u_51, e_52, hf⟩ := sr_b hf
        refine sr_cVv (As := [.int x1, .int 3]) (rest := []) X Z sr_cut_self hK (c_M_put e_52) (cw_M_183 X.2.2.2.2.2.1 (by decide)) 0 rfl rfl rfl hl rfl (Nat.le_of_ble_eq_true rfl) d_M_simple_73 (fun H locs Z => ?_)
        refine lv_goto (tgt := 255) hx hb d_M_simple_76 rfl ?_
        cases hf
        exact sr_retv X Z d_M_simple_255
    · have hf := sr_it q_4 hf
      refine lv_aload_n hx hb d_M_simple_32 rfl (lv_at hl 1 rfl) ?_
      refine lv_iconst (v := 3) hx hb d_M_simple_33 (by decide) ?_
      refine lv_iload_n hx hb d_M_simple_34 rfl (lv_at hl 2 rfl) ?_
      refine lv_aload_n hx hb d_M_simple_35 rfl (lv_at hl 1 rfl) ?_
      refine g_M_61_M X Z d_M_simple_36 ?_
      refine lv_bipush (v := 24) hx hb d_M_simple_39 (by decide) ?_
      refine lv_aload_n hx hb d_M_simple_41 rfl (lv_at hl 1 rfl) ?_
      refine g_M_168_M X Z d_M_simple_42 ?_
      refine lv_imul hx hb d_M_simple_45 ?_
      refine lv_aload_n hx hb d_M_simple_46 rfl (lv_at hl 1 rfl) ?_
      refine g_M_7_M X Z d_M_simple_47 ?_
      refine lv_aload_n hx hb d_M_simple_50 rfl (lv_at hl 1 rfl) ?_
      refine lv_iload_n hx hb d_M_simple_51 rfl (lv_at hl 2 rfl) ?_
      obtain ⟨v_53, e_54, hf⟩ := sr_b hf
      refine sr_cVi (As := [.int x1]) (rest := [.ref (h 2), .int (24 * (u0 33 0)), .ref (h 24), .int x1, .int 3, .ref (h 0)]) X Z sr_cut_self hK (c_M_handler e_54) (cw_M_122 X.2.2.2.2.2.1 (by decide)) 0 rfl rfl rfl hl rfl (Nat.le_of_ble_eq_true rfl) d_M_simple_52 (fun H locs Z => ?_)
      obtain ⟨v_55, e_56, hf⟩ := sr_b hf
      refine sr_iald hx hb hK Z 1 0 rfl rfl e_56 d_M_simple_55 ?_
      refine lv_iadd hx hb d_M_simple_56 ?_
      obtain ⟨v_57, e_58, hf⟩ := sr_b hf
      refine sr_iald hx hb hK Z 18 17 rfl rfl e_58 d_M_simple_57 ?_
      obtain ⟨u_59, e_60, hf⟩ := sr_b hf
      refine sr_cVv (As := [.int 3, .int x1, .int v_57]) (rest := []) X Z sr_cut_self hK (c_M_then e_60) (cw_M_209 X.2.2.2.2.2.1 (by decide)) 0 rfl rfl rfl hl rfl (Nat.le_of_ble_eq_true rfl) d_M_simple_58 (fun H locs Z => ?_)
      refine lv_goto (tgt := 255) hx hb d_M_simple_61 rfl ?_
      cases hf
      exact sr_retv X Z d_M_simple_255
  · have hf := sr_it q_3 hf
    refine lv_aload_n hx hb d_M_simple_12 rfl (lv_at hl 1 rfl) ?_
    refine lv_iconst (v := 3) hx hb d_M_simple_13 (by decide) ?_
    refine lv_iload_n hx hb d_M_simple_14 rfl (lv_at hl 2 rfl) ?_
    refine lv_aload_n hx hb d_M_simple_15 rfl (lv_at hl 1 rfl) ?_
    refine g_M_19_M X Z d_M_simple_16 ?_
    refine lv_iload_n hx hb d_M_simple_19 rfl (lv_at hl 2 rfl) ?_
    obtain ⟨v_61, e_62, hf⟩ := sr_b hf
    refine sr_iald hx hb hK Z 4 3 rfl rfl e_62 d_M_simple_20 ?_
    obtain ⟨u_63, e_64, hf⟩ := sr_b hf
    refine sr_cVv (As := [.int 3, .int x1, .int v_61]) (rest := []) X Z sr_cut_self hK (c_M_then e_64) (cw_M_209 X.2.2.2.2.2.1 (by decide)) 0 rfl rfl rfl hl rfl (Nat.le_of_ble_eq_true rfl) d_M_simple_21 (fun H locs Z => ?_)
    refine lv_goto (tgt := 255) hx hb d_M_simple_24 rfl ?_
    cases hf
    exact sr_retv X Z d_M_simple_255
end
set_option maxHeartbeats 4000000 in
set_option maxRecDepth 100000 in
theorem c_M_simple {l : Launch} {D : va_G} {h : Nat → Nat} {t : Nat → ClassId} {sz : Nat} {x1 : Int32} {u0 : St} {u' : St} (hf : f_M_simple x1 u0 = some u') : sr_Cv l y_M_simple w_M_simple (sr_rm 2 46) D (tM t) (wM h t u0) (wM h t u') sz [.ref (h 0), .int x1] := by
  refine Met.ofW (cc := b_M_simple) (maxL := 3) (ret := none) (by decide) rfl ?_
  intro p e s m args below meth c s₁ B hml hv
  obtain ⟨rfl, hsz, hP, hK, hD0⟩ := hv
  subst hsz
  have X : sr_X D (tM t) b_M_simple 3 R_M w_M_simple p s m _ meth c (va_A (wM h t u0) s.heap.size) none := ⟨B.exec, B.bytes, hml, findClass_of_methodNamed B.named, B.notSynchronized, atoms_spec (ws := w_M_simple) B.pre, hK, fun q h => Or.inr h, B.returns⟩
  have Z : sr_Z D (va_A (wM h t u0) s.heap.size) s.heap (wM h t u0) s.heap [] := ⟨hP, hD0.self, va_S.rf⟩
  have hl := lv_entry ([.ref (h 0), .int x1] : List Value) (n := 3) (Nat.le_of_ble_eq_true rfl)
  rw [lg_entry_eq]
  exact k_M_simple_0 X Z hl hf
/-! M_open -/
theorem d_M_open_0 : decode b_M_open 0 = .ok (.aload_n 0, 1) := by decide +kernel
theorem d_M_open_1 : decode b_M_open 1 = .ok (.getfield 16, 3) := by decide +kernel
theorem d_M_open_4 : decode b_M_open 4 = .ok (.iload_n 1, 1) := by decide +kernel
theorem d_M_open_5 : decode b_M_open 5 = .ok (.iaload, 1) := by decide +kernel
theorem d_M_open_6 : decode b_M_open 6 = .ok (.bipush 11, 2) := by decide +kernel
theorem d_M_open_8 : decode b_M_open 8 = .ok (.if_icmp .ne 9, 3) := by decide +kernel
theorem d_M_open_11 : decode b_M_open 11 = .ok (.aload_n 0, 1) := by decide +kernel
theorem d_M_open_12 : decode b_M_open 12 = .ok (.iload_n 1, 1) := by decide +kernel
theorem d_M_open_13 : decode b_M_open 13 = .ok (.invokevirtual 228, 3) := by decide +kernel
theorem d_M_open_16 : decode b_M_open 16 = .ok (.return_, 1) := by decide +kernel
theorem d_M_open_17 : decode b_M_open 17 = .ok (.aload_n 0, 1) := by decide +kernel
theorem d_M_open_18 : decode b_M_open 18 = .ok (.iload_n 1, 1) := by decide +kernel
theorem d_M_open_19 : decode b_M_open 19 = .ok (.iconst 2, 1) := by decide +kernel
theorem d_M_open_20 : decode b_M_open 20 = .ok (.invokevirtual 183, 3) := by decide +kernel
theorem d_M_open_23 : decode b_M_open 23 = .ok (.aload_n 0, 1) := by decide +kernel
theorem d_M_open_24 : decode b_M_open 24 = .ok (.getfield 16, 3) := by decide +kernel
theorem d_M_open_27 : decode b_M_open 27 = .ok (.iload_n 1, 1) := by decide +kernel
theorem d_M_open_28 : decode b_M_open 28 = .ok (.iaload, 1) := by decide +kernel
theorem d_M_open_29 : decode b_M_open 29 = .ok (.bipush 12, 2) := by decide +kernel
theorem d_M_open_31 : decode b_M_open 31 = .ok (.if_icmp .ne 24, 3) := by decide +kernel
theorem d_M_open_34 : decode b_M_open 34 = .ok (.aload_n 0, 1) := by decide +kernel
theorem d_M_open_35 : decode b_M_open 35 = .ok (.getfield 58, 3) := by decide +kernel
theorem d_M_open_38 : decode b_M_open 38 = .ok (.bipush 24, 2) := by decide +kernel
theorem d_M_open_40 : decode b_M_open 40 = .ok (.aload_n 0, 1) := by decide +kernel
theorem d_M_open_41 : decode b_M_open 41 = .ok (.getfield 168, 3) := by decide +kernel
theorem d_M_open_44 : decode b_M_open 44 = .ok (.imul, 1) := by decide +kernel
theorem d_M_open_45 : decode b_M_open 45 = .ok (.iload_n 1, 1) := by decide +kernel
theorem d_M_open_46 : decode b_M_open 46 = .ok (.iadd, 1) := by decide +kernel
theorem d_M_open_47 : decode b_M_open 47 = .ok (.iconst 0, 1) := by decide +kernel
theorem d_M_open_48 : decode b_M_open 48 = .ok (.iastore, 1) := by decide +kernel
theorem d_M_open_49 : decode b_M_open 49 = .ok (.aload_n 0, 1) := by decide +kernel
theorem d_M_open_50 : decode b_M_open 50 = .ok (.iload_n 1, 1) := by decide +kernel
theorem d_M_open_51 : decode b_M_open 51 = .ok (.iconst (-1), 1) := by decide +kernel
theorem d_M_open_52 : decode b_M_open 52 = .ok (.invokevirtual 213, 3) := by decide +kernel
theorem d_M_open_55 : decode b_M_open 55 = .ok (.aload_n 0, 1) := by decide +kernel
theorem d_M_open_56 : decode b_M_open 56 = .ok (.iload_n 1, 1) := by decide +kernel
theorem d_M_open_57 : decode b_M_open 57 = .ok (.iconst 0, 1) := by decide +kernel
theorem d_M_open_58 : decode b_M_open 58 = .ok (.invokevirtual 107, 3) := by decide +kernel
theorem d_M_open_61 : decode b_M_open 61 = .ok (.istore_n 2, 1) := by decide +kernel
theorem d_M_open_62 : decode b_M_open 62 = .ok (.aload_n 0, 1) := by decide +kernel
theorem d_M_open_63 : decode b_M_open 63 = .ok (.getfield 16, 3) := by decide +kernel
theorem d_M_open_66 : decode b_M_open 66 = .ok (.iload_n 1, 1) := by decide +kernel
theorem d_M_open_67 : decode b_M_open 67 = .ok (.iaload, 1) := by decide +kernel
theorem d_M_open_68 : decode b_M_open 68 = .ok (.bipush 10, 2) := by decide +kernel
theorem d_M_open_70 : decode b_M_open 70 = .ok (.if_icmp .ne 96, 3) := by decide +kernel
theorem d_M_open_73 : decode b_M_open 73 = .ok (.aload_n 0, 1) := by decide +kernel
theorem d_M_open_74 : decode b_M_open 74 = .ok (.iload_n 1, 1) := by decide +kernel
theorem d_M_open_75 : decode b_M_open 75 = .ok (.iconst 0, 1) := by decide +kernel
theorem d_M_open_76 : decode b_M_open 76 = .ok (.iload_n 2, 1) := by decide +kernel
theorem d_M_open_77 : decode b_M_open 77 = .ok (.invokevirtual 111, 3) := by decide +kernel
theorem d_M_open_80 : decode b_M_open 80 = .ok (.istore_n 3, 1) := by decide +kernel
theorem d_M_open_81 : decode b_M_open 81 = .ok (.aload_n 0, 1) := by decide +kernel
theorem d_M_open_82 : decode b_M_open 82 = .ok (.iload_n 1, 1) := by decide +kernel
theorem d_M_open_83 : decode b_M_open 83 = .ok (.aload_n 0, 1) := by decide +kernel
theorem d_M_open_84 : decode b_M_open 84 = .ok (.getfield 19, 3) := by decide +kernel
theorem d_M_open_87 : decode b_M_open 87 = .ok (.iload_n 1, 1) := by decide +kernel
theorem d_M_open_88 : decode b_M_open 88 = .ok (.iaload, 1) := by decide +kernel
theorem d_M_open_89 : decode b_M_open 89 = .ok (.invokevirtual 206, 3) := by decide +kernel
theorem d_M_open_92 : decode b_M_open 92 = .ok (.aload_n 0, 1) := by decide +kernel
theorem d_M_open_93 : decode b_M_open 93 = .ok (.getfield 22, 3) := by decide +kernel
theorem d_M_open_96 : decode b_M_open 96 = .ok (.iload_n 1, 1) := by decide +kernel
theorem d_M_open_97 : decode b_M_open 97 = .ok (.iaload, 1) := by decide +kernel
theorem d_M_open_98 : decode b_M_open 98 = .ok (.if_icmp .ge 7, 3) := by decide +kernel
theorem d_M_open_101 : decode b_M_open 101 = .ok (.iconst 1, 1) := by decide +kernel
theorem d_M_open_102 : decode b_M_open 102 = .ok (.goto 4, 3) := by decide +kernel
theorem d_M_open_105 : decode b_M_open 105 = .ok (.iconst 0, 1) := by decide +kernel
theorem d_M_open_106 : decode b_M_open 106 = .ok (.istore 4, 2) := by decide +kernel
theorem d_M_open_108 : decode b_M_open 108 = .ok (.iload 4, 2) := by decide +kernel
theorem d_M_open_110 : decode b_M_open 110 = .ok (.ifCond .eq 7, 3) := by decide +kernel
theorem d_M_open_113 : decode b_M_open 113 = .ok (.iload_n 3, 1) := by decide +kernel
theorem d_M_open_114 : decode b_M_open 114 = .ok (.goto 4, 3) := by decide +kernel
theorem d_M_open_117 : decode b_M_open 117 = .ok (.iload_n 2, 1) := by decide +kernel
theorem d_M_open_118 : decode b_M_open 118 = .ok (.istore 5, 2) := by decide +kernel
theorem d_M_open_120 : decode b_M_open 120 = .ok (.iload 4, 2) := by decide +kernel
theorem d_M_open_122 : decode b_M_open 122 = .ok (.ifCond .eq 7, 3) := by decide +kernel
theorem d_M_open_125 : decode b_M_open 125 = .ok (.iload_n 2, 1) := by decide +kernel
theorem d_M_open_126 : decode b_M_open 126 = .ok (.goto 4, 3) := by decide +kernel
theorem d_M_open_129 : decode b_M_open 129 = .ok (.iload_n 3, 1) := by decide +kernel
theorem d_M_open_130 : decode b_M_open 130 = .ok (.istore 6, 2) := by decide +kernel
theorem d_M_open_132 : decode b_M_open 132 = .ok (.iload 5, 2) := by decide +kernel
theorem d_M_open_134 : decode b_M_open 134 = .ok (.ifCond .lt 9, 3) := by decide +kernel
theorem d_M_open_137 : decode b_M_open 137 = .ok (.aload_n 0, 1) := by decide +kernel
theorem d_M_open_138 : decode b_M_open 138 = .ok (.iload 5, 2) := by decide +kernel
theorem d_M_open_140 : decode b_M_open 140 = .ok (.invokevirtual 234, 3) := by decide +kernel
theorem d_M_open_143 : decode b_M_open 143 = .ok (.iload 6, 2) := by decide +kernel
theorem d_M_open_145 : decode b_M_open 145 = .ok (.ifCond .lt 13, 3) := by decide +kernel
theorem d_M_open_148 : decode b_M_open 148 = .ok (.aload_n 0, 1) := by decide +kernel
theorem d_M_open_149 : decode b_M_open 149 = .ok (.iload 6, 2) := by decide +kernel
theorem d_M_open_151 : decode b_M_open 151 = .ok (.iconst 1, 1) := by decide +kernel
theorem d_M_open_152 : decode b_M_open 152 = .ok (.invokevirtual 183, 3) := by decide +kernel
theorem d_M_open_155 : decode b_M_open 155 = .ok (.goto 10, 3) := by decide +kernel
theorem d_M_open_158 : decode b_M_open 158 = .ok (.aload_n 0, 1) := by decide +kernel
theorem d_M_open_159 : decode b_M_open 159 = .ok (.iconst 1, 1) := by decide +kernel
theorem d_M_open_160 : decode b_M_open 160 = .ok (.iload_n 1, 1) := by decide +kernel
theorem d_M_open_161 : decode b_M_open 161 = .ok (.iconst 0, 1) := by decide +kernel
theorem d_M_open_162 : decode b_M_open 162 = .ok (.invokevirtual 209, 3) := by decide +kernel
theorem d_M_open_165 : decode b_M_open 165 = .ok (.return_, 1) := by decide +kernel
theorem d_M_open_166 : decode b_M_open 166 = .ok (.iload_n 2, 1) := by decide +kernel
theorem d_M_open_167 : decode b_M_open 167 = .ok (.istore_n 3, 1) := by decide +kernel
theorem d_M_open_168 : decode b_M_open 168 = .ok (.iload_n 3, 1) := by decide +kernel
theorem d_M_open_169 : decode b_M_open 169 = .ok (.aload_n 0, 1) := by decide +kernel
theorem d_M_open_170 : decode b_M_open 170 = .ok (.getfield 100, 3) := by decide +kernel
theorem d_M_open_173 : decode b_M_open 173 = .ok (.if_icmp .ge 50, 3) := by decide +kernel
theorem d_M_open_176 : decode b_M_open 176 = .ok (.iload_n 3, 1) := by decide +kernel
theorem d_M_open_177 : decode b_M_open 177 = .ok (.iload_n 2, 1) := by decide +kernel
theorem d_M_open_178 : decode b_M_open 178 = .ok (.if_icmp .eq 33, 3) := by decide +kernel
theorem d_M_open_181 : decode b_M_open 181 = .ok (.aload_n 0, 1) := by decide +kernel
theorem d_M_open_182 : decode b_M_open 182 = .ok (.getfield 16, 3) := by decide +kernel
theorem d_M_open_185 : decode b_M_open 185 = .ok (.iload_n 1, 1) := by decide +kernel
theorem d_M_open_186 : decode b_M_open 186 = .ok (.iaload, 1) := by decide +kernel
theorem d_M_open_187 : decode b_M_open 187 = .ok (.bipush 9, 2) := by decide +kernel
theorem d_M_open_189 : decode b_M_open 189 = .ok (.if_icmp .ne 28, 3) := by decide +kernel
theorem d_M_open_192 : decode b_M_open 192 = .ok (.aload_n 0, 1) := by decide +kernel
theorem d_M_open_193 : decode b_M_open 193 = .ok (.getfield 7, 3) := by decide +kernel
theorem d_M_open_196 : decode b_M_open 196 = .ok (.iload_n 3, 1) := by decide +kernel
theorem d_M_open_197 : decode b_M_open 197 = .ok (.iaload, 1) := by decide +kernel
theorem d_M_open_198 : decode b_M_open 198 = .ok (.iload_n 1, 1) := by decide +kernel
theorem d_M_open_199 : decode b_M_open 199 = .ok (.if_icmp .ne 18, 3) := by decide +kernel
theorem d_M_open_202 : decode b_M_open 202 = .ok (.aload_n 0, 1) := by decide +kernel
theorem d_M_open_203 : decode b_M_open 203 = .ok (.getfield 13, 3) := by decide +kernel
theorem d_M_open_206 : decode b_M_open 206 = .ok (.iload_n 3, 1) := by decide +kernel
theorem d_M_open_207 : decode b_M_open 207 = .ok (.iaload, 1) := by decide +kernel
theorem d_M_open_208 : decode b_M_open 208 = .ok (.ifCond .ne 9, 3) := by decide +kernel
theorem d_M_open_211 : decode b_M_open 211 = .ok (.aload_n 0, 1) := by decide +kernel
theorem d_M_open_212 : decode b_M_open 212 = .ok (.iload_n 3, 1) := by decide +kernel
theorem d_M_open_213 : decode b_M_open 213 = .ok (.iconst 1, 1) := by decide +kernel
theorem d_M_open_214 : decode b_M_open 214 = .ok (.invokevirtual 183, 3) := by decide +kernel
theorem d_M_open_217 : decode b_M_open 217 = .ok (.iinc 3 1, 3) := by decide +kernel
theorem d_M_open_220 : decode b_M_open 220 = .ok (.goto (-52), 3) := by decide +kernel
theorem d_M_open_223 : decode b_M_open 223 = .ok (.return_, 1) := by decide +kernel
section
variable {p : Program} {l : Launch} {e : Env} {s : State} {m : MethodId} {args : Array Value} {below : List Frame} {meth : Method} {c : Code} {H : Heap} {locs : List Loc} {ls : Array Slot} {D : va_G} {A : Nat → Prop} {h o : Nat → Nat} {t v : Nat → ClassId}
def f_M_open_217 (k168 : Int32 → Int32 → Int32 → St → Option (St)) (x1 : Int32) (x2 : Int32) (x3 : Int32) (u0 : St) : Option (St) :=
  k168 x1 x2 (x3 + 1) u0
set_option maxHeartbeats 4000000 in
set_option maxRecDepth 100000 in
theorem k_M_open_217 {k168 : Int32 → Int32 → Int32 → St → Option (St)} {x1 : Int32} {x2 : Int32} {x3 : Int32} {u0 : St} {u' : St} (X : sr_X D (tM t) b_M_open 7 R_M w_M_open p s m args meth c A none) (hk168 : ∀ (x1 : Int32) (x2 : Int32) (x3 : Int32) (u0 : St) (H : Heap) (locs : List Loc) (ls : Array Slot), sr_Z D A s.heap (wM h t u0) H locs → lv_has ls 7 [(0, .ref (h 0)), (1, .int x1), (2, .int x2), (3, .int x3)] → k168 x1 x2 x3 u0 = some u' → W p l e (sr_rm 3 70) s m args below meth c H locs 0 0 (sr_Qv D (tM t) below args s A (wM h t u')) (F0 m 168 ls [])) (Z : sr_Z D A s.heap (wM h t u0) H locs) (hl : lv_has ls 7 [(0, .ref (h 0)), (1, .int x1), (2, .int x2), (3, .int x3)]) (hf : f_M_open_217 k168 x1 x2 x3 u0 = some u') : W p l e (sr_rm 3 70) s m args below meth c H locs 0 0 (sr_Qv D (tM t) below args s A (wM h t u')) (F0 m 217 ls []) := by
  have hx := X.1
  have hb := X.2.1
  have hK := X.2.2.2.2.2.2.1
  unfold f_M_open_217 at hf
  refine lv_iinc (k := 3) (v := x3 + 1) (lv' := [(3, .int (x3 + 1)), (0, .ref (h 0)), (1, .int x1), (2, .int x2)]) hx hb d_M_open_217 hl rfl rfl (by decide) rfl (fun ls hl => ?_)
  refine lv_goto (tgt := 168) hx hb d_M_open_220 rfl ?_
  exact hk168 x1 x2 (x3 + 1) u0 _ _ _ Z (lv_sub hl [1, 2, 3, 0] rfl) hf
def f_M_open_211 (k168 : Int32 → Int32 → Int32 → St → Option (St)) (x1 : Int32) (x2 : Int32) (x3 : Int32) (u0 : St) : Option (St) :=
  (f_M_put x3 1 u0).bind fun u_16 =>
  f_M_open_217 k168 x1 x2 x3 u_16
set_option maxHeartbeats 4000000 in
set_option maxRecDepth 100000 in
theorem k_M_open_211 {k168 : Int32 → Int32 → Int32 → St → Option (St)} {x1 : Int32} {x2 : Int32} {x3 : Int32} {u0 : St} {u' : St} (X : sr_X D (tM t) b_M_open 7 R_M w_M_open p s m args meth c A none) (hk168 : ∀ (x1 : Int32) (x2 : Int32) (x3 : Int32) (u0 : St) (H : Heap) (locs : List Loc) (ls : Array Slot), sr_Z D A s.heap (wM h t u0) H locs → lv_has ls 7 [(0, .ref (h 0)), (1, .int x1), (2, .int x2), (3, .int x3)] → k168 x1 x2 x3 u0 = some u' → W p l e (sr_rm 3 70) s m args below meth c H locs 0 0 (sr_Qv D (tM t) below args s A (wM h t u')) (F0 m 168 ls [])) (Z : sr_Z D A s.heap (wM h t u0) H locs) (hl : lv_has ls 7 [(0, .ref (h 0)), (1, .int x1), (2, .int x2), (3, .int x3)]) (hf : f_M_open_211 k168 x1 x2 x3 u0 = some u') : W p l e (sr_rm 3 70) s m args below meth c H locs 0 0 (sr_Qv D (tM t) below args s A (wM h t u')) (F0 m 211 ls []) := by
  have hx := X.1
  have hb := X.2.1
  have hK := X.2.2.2.2.2.2.1
  unfold f_M_open_211 at hf
  refine lv_aload_n hx hb d_M_open_211 rfl (lv_at hl 0 rfl) ?_
  refine lv_iload_n hx hb d_M_open_212 rfl (lv_at hl 3 rfl) ?_
  refine lv_iconst (v := 1) hx hb d_M_open_213 (by decide) ?_
  obtain ⟨u_16, e_17, hf⟩ := sr_b hf
  refine sr_cVv (As := [.int x3, .int 1]) (rest := []) X Z sr_cut_self hK (c_M_put e_17) (cw_M_183 X.2.2.2.2.2.1 (by decide)) 0 rfl rfl rfl hl rfl (Nat.le_of_ble_eq_true rfl) d_M_open_214 (fun H locs Z => ?_)
  exact k_M_open_217 X hk168 Z (lv_sub hl [0, 1, 2, 3] rfl) hf
def f_M_open_168 (k168 : Int32 → Int32 → Int32 → St → Option (St)) (x1 : Int32) (x2 : Int32) (x3 : Int32) (u0 : St) : Option (St) :=
  if (u0 0 0) ≤ x3 then
    some u0
  else
    if x3 = x2 then
      f_M_open_211 k168 x1 x2 x3 u0
    else
      (sr_ald 24 (u0 3) x1).bind fun v_18 =>
      if v_18 = 9 then
        (sr_ald 24 (u0 1) x3).bind fun v_21 =>
        if v_21 = x1 then
          (sr_ald 24 (u0 2) x3).bind fun v_24 =>
          if v_24 = 0 then
            f_M_open_211 k168 x1 x2 x3 u0
          else
            f_M_open_217 k168 x1 x2 x3 u0
        else
          f_M_open_217 k168 x1 x2 x3 u0
      else
        f_M_open_217 k168 x1 x2 x3 u0
set_option maxHeartbeats 4000000 in
set_option maxRecDepth 100000 in
theorem k_M_open_168 {k168 : Int32 → Int32 → Int32 → St → Option (St)} {x1 : Int32} {x2 : Int32} {x3 : Int32} {u0 : St} {u' : St} (X : sr_X D (tM t) b_M_open 7 R_M w_M_open p s m args meth c A none) (hk168 : ∀ (x1 : Int32) (x2 : Int32) (x3 : Int32) (u0 : St) (H : Heap) (locs : List Loc) (ls : Array Slot), sr_Z D A s.heap (wM h t u0) H locs → lv_has ls 7 [(0, .ref (h 0)), (1, .int x1), (2, .int x2), (3, .int x3)] → k168 x1 x2 x3 u0 = some u' → W p l e (sr_rm 3 70) s m args below meth c H locs 0 0 (sr_Qv D (tM t) below args s A (wM h t u')) (F0 m 168 ls [])) (Z : sr_Z D A s.heap (wM h t u0) H locs) (hl : lv_has ls 7 [(0, .ref (h 0)), (1, .int x1), (2, .int x2), (3, .int x3)]) (hf : f_M_open_168 k168 x1 x2 x3 u0 = some u') : W p l e (sr_rm 3 70) s m args below meth c H locs 0 0 (sr_Qv D (tM t) below args s A (wM h t u')) (F0 m 168 ls []) := by
  have hx := X.1
  have hb := X.2.1
  have hK := X.2.2.2.2.2.2.1
  unfold f_M_open_168 at hf
  refine lv_iload_n hx hb d_M_open_168 rfl (lv_at hl 3 rfl) ?_
  refine lv_aload_n hx hb d_M_open_169 rfl (lv_at hl 0 rfl) ?_
  refine g_M_100_M X Z d_M_open_170 ?_
  refine lv_icmp_ge (tgt := 223) hx hb d_M_open_173 rfl (fun q_14 => ?_) (fun q_14 => ?_)
  · have hf := sr_it q_14 hf
    cases hf
    exact sr_retv X Z d_M_open_223
  · have hf := sr_if q_14 hf
    refine lv_iload_n hx hb d_M_open_176 rfl (lv_at hl 3 rfl) ?_
    refine lv_iload_n hx hb d_M_open_177 rfl (lv_at hl 2 rfl) ?_
    refine lv_icmp_eq (tgt := 211) hx hb d_M_open_178 rfl (fun q_15 => ?_) (fun q_15 => ?_)
    · have hf := sr_it q_15 hf
      exact k_M_open_211 X hk168 Z (lv_sub hl [0, 1, 2, 3] rfl) hf
    · have hf := sr_if q_15 hf
      refine lv_aload_n hx hb d_M_open_181 rfl (lv_at hl 0 rfl) ?_
      refine g_M_16_M X Z d_M_open_182 ?_
      refine lv_iload_n hx hb d_M_open_185 rfl (lv_at hl 1 rfl) ?_
      obtain ⟨v_18, e_19, hf⟩ := sr_b hf
      refine sr_iald hx hb hK Z 3 2 rfl rfl e_19 d_M_open_186 ?_
      refine lv_bipush (v := 9) hx hb d_M_open_187 (by decide) ?_
      refine lv_icmp_ne (tgt := 217) hx hb d_M_open_189 rfl (fun q_20 => ?_) (fun q_20 => ?_)
      · have hf := sr_if q_20 hf
        exact k_M_open_217 X hk168 Z (lv_sub hl [0, 1, 2, 3] rfl) hf
      · have hf := sr_it q_20 hf
        refine lv_aload_n hx hb d_M_open_192 rfl (lv_at hl 0 rfl) ?_
        refine g_M_7_M X Z d_M_open_193 ?_
        refine lv_iload_n hx hb d_M_open_196 rfl (lv_at hl 3 rfl) ?_
        obtain ⟨v_21, e_22, hf⟩ := sr_b hf
        refine sr_iald hx hb hK Z 1 0 rfl rfl e_22 d_M_open_197 ?_
        refine lv_iload_n hx hb d_M_open_198 rfl (lv_at hl 1 rfl) ?_
        refine lv_icmp_ne (tgt := 217) hx hb d_M_open_199 rfl (fun q_23 => ?_) (fun q_23 => ?_)
        · have hf := sr_if q_23 hf
          exact k_M_open_217 X hk168 Z (lv_sub hl [0, 1, 2, 3] rfl) hf
        · have hf := sr_it q_23 hf
          refine lv_aload_n hx hb d_M_open_202 rfl (lv_at hl 0 rfl) ?_
          refine g_M_13_M X Z d_M_open_203 ?_
          refine lv_iload_n hx hb d_M_open_206 rfl (lv_at hl 3 rfl) ?_
          obtain ⟨v_24, e_25, hf⟩ := sr_b hf
          refine sr_iald hx hb hK Z 2 1 rfl rfl e_25 d_M_open_207 ?_
          refine lv_if_ne (tgt := 217) hx hb d_M_open_208 rfl (fun q_26 => ?_) (fun q_26 => ?_)
          · have hf := sr_if q_26 hf
            exact k_M_open_217 X hk168 Z (lv_sub hl [0, 1, 2, 3] rfl) hf
          · have hf := sr_it q_26 hf
            exact k_M_open_211 X hk168 Z (lv_sub hl [0, 1, 2, 3] rfl) hf
def f_M_open_168_it : Nat → Int32 → Int32 → Int32 → St → Option (St)
  | 0 => fun _ _ _ _ => none
  | n + 1 => fun x1 x2 x3 u0 => f_M_open_168 (f_M_open_168_it n) x1 x2 x3 u0
set_option maxHeartbeats 4000000 in
set_option maxRecDepth 100000 in
theorem k_M_open_168_it {u' : St} (X : sr_X D (tM t) b_M_open 7 R_M w_M_open p s m args meth c A none) (n : Nat) : ∀ {x1 : Int32} {x2 : Int32} {x3 : Int32} {u0 : St} {H : Heap} {locs : List Loc} {ls : Array Slot}, sr_Z D A s.heap (wM h t u0) H locs → lv_has ls 7 [(0, .ref (h 0)), (1, .int x1), (2, .int x2), (3, .int x3)] → f_M_open_168_it n x1 x2 x3 u0 = some u' → W p l e (sr_rm 3 70) s m args below meth c H locs 0 0 (sr_Qv D (tM t) below args s A (wM h t u')) (F0 m 168 ls []) := by
  induction n with
  | zero => intro x1 x2 x3 u0 H locs ls Z hl hf; exact absurd hf (by simp [f_M_open_168_it])
  | succ n ih =>
    intro x1 x2 x3 u0 H locs ls Z hl hf
    exact k_M_open_168 X (fun x1 x2 x3 u0 H locs ls Z hl hf => ih Z hl hf) Z hl hf
def f_M_open_143 (x1 : Int32) (x6 : Int32) (u0 : St) : Option (St) :=
  if x6 < 0 then
    (f_M_then 1 x1 0 u0).bind fun u_40 =>
    some u_40
  else
    (f_M_put x6 1 u0).bind fun u_42 =>
    some u_42
set_option maxHeartbeats 4000000 in
set_option maxRecDepth 100000 in
theorem k_M_open_143 {x1 : Int32} {x6 : Int32} {u0 : St} {u' : St} (X : sr_X D (tM t) b_M_open 7 R_M w_M_open p s m args meth c A none) (Z : sr_Z D A s.heap (wM h t u0) H locs) (hl : lv_has ls 7 [(0, .ref (h 0)), (1, .int x1), (6, .int x6)]) (hf : f_M_open_143 x1 x6 u0 = some u') : W p l e (sr_rm 3 70) s m args below meth c H locs 0 0 (sr_Qv D (tM t) below args s A (wM h t u')) (F0 m 143 ls []) := by
  have hx := X.1
  have hb := X.2.1
  have hK := X.2.2.2.2.2.2.1
  unfold f_M_open_143 at hf
  refine lv_iload hx hb d_M_open_143 (lv_at hl 2 rfl) ?_
  refine lv_if_lt (tgt := 158) hx hb d_M_open_145 rfl (fun q_39 => ?_) (fun q_39 => ?_)
  · have hf := sr_it q_39 hf
    refine lv_aload_n hx hb d_M_open_158 rfl (lv_at hl 0 rfl) ?_
    refine lv_iconst (v := 1) hx hb d_M_open_159 (by decide) ?_
    refine lv_iload_n hx hb d_M_open_160 rfl (lv_at hl 1 rfl) ?_
    refine lv_iconst (v := 0) hx hb d_M_open_161 (by decide) ?_
    obtain ⟨u_40, e_41, hf⟩ := sr_b hf
    refine sr_cVv (As := [.int 1, .int x1, .int 0]) (rest := []) X Z sr_cut_self hK (c_M_then e_41) (cw_M_209 X.2.2.2.2.2.1 (by decide)) 0 rfl rfl rfl hl rfl (Nat.le_of_ble_eq_true rfl) d_M_open_162 (fun H locs Z => ?_)
    cases hf
    exact sr_retv X Z d_M_open_165
  · have hf := sr_if q_39 hf
    refine lv_aload_n hx hb d_M_open_148 rfl (lv_at hl 0 rfl) ?_
    refine lv_iload hx hb d_M_open_149 (lv_at hl 2 rfl) ?_
    refine lv_iconst (v := 1) hx hb d_M_open_151 (by decide) ?_
    obtain ⟨u_42, e_43, hf⟩ := sr_b hf
    refine sr_cVv (As := [.int x6, .int 1]) (rest := []) X Z sr_cut_self hK (c_M_put e_43) (cw_M_183 X.2.2.2.2.2.1 (by decide)) 0 rfl rfl rfl hl rfl (Nat.le_of_ble_eq_true rfl) d_M_open_152 (fun H locs Z => ?_)
    refine lv_goto (tgt := 165) hx hb d_M_open_155 rfl ?_
    cases hf
    exact sr_retv X Z d_M_open_165
def f_M_open_130 (x1 : Int32) (x5 : Int32) (y0 : Int32) (u0 : St) : Option (St) :=
  if x5 < 0 then
    f_M_open_143 x1 y0 u0
  else
    (f_M_skip x5 u0).bind fun u_44 =>
    f_M_open_143 x1 y0 u_44
set_option maxHeartbeats 4000000 in
set_option maxRecDepth 100000 in
theorem k_M_open_130 {x1 : Int32} {x5 : Int32} {y0 : Int32} {u0 : St} {u' : St} (X : sr_X D (tM t) b_M_open 7 R_M w_M_open p s m args meth c A none) (Z : sr_Z D A s.heap (wM h t u0) H locs) (hl : lv_has ls 7 [(0, .ref (h 0)), (1, .int x1), (5, .int x5)]) (hf : f_M_open_130 x1 x5 y0 u0 = some u') : W p l e (sr_rm 3 70) s m args below meth c H locs 0 0 (sr_Qv D (tM t) below args s A (wM h t u')) (F0 m 130 ls [.int y0]) := by
  have hx := X.1
  have hb := X.2.1
  have hK := X.2.2.2.2.2.2.1
  unfold f_M_open_130 at hf
  refine lv_istore (lv' := [(6, .int y0), (0, .ref (h 0)), (1, .int x1), (5, .int x5)]) hx hb d_M_open_130 hl (by decide) rfl (fun ls hl => ?_)
  refine lv_iload hx hb d_M_open_132 (lv_at hl 3 rfl) ?_
  refine lv_if_lt (tgt := 143) hx hb d_M_open_134 rfl (fun q_38 => ?_) (fun q_38 => ?_)
  · have hf := sr_it q_38 hf
    exact k_M_open_143 X Z (lv_sub hl [1, 2, 0] rfl) hf
  · have hf := sr_if q_38 hf
    refine lv_aload_n hx hb d_M_open_137 rfl (lv_at hl 1 rfl) ?_
    refine lv_iload hx hb d_M_open_138 (lv_at hl 3 rfl) ?_
    obtain ⟨u_44, e_45, hf⟩ := sr_b hf
    refine sr_cVv (As := [.int x5]) (rest := []) X Z sr_cut_self hK (c_M_skip e_45) (cw_M_234 X.2.2.2.2.2.1 (by decide)) 0 rfl rfl rfl hl rfl (Nat.le_of_ble_eq_true rfl) d_M_open_140 (fun H locs Z => ?_)
    exact k_M_open_143 X Z (lv_sub hl [1, 2, 0] rfl) hf
def f_M_open_118 (x1 : Int32) (x2 : Int32) (x3 : Int32) (x4 : Int32) (y0 : Int32) (u0 : St) : Option (St) :=
  if x4 = 0 then
    f_M_open_130 x1 y0 x3 u0
  else
    f_M_open_130 x1 y0 x2 u0
set_option maxHeartbeats 4000000 in
set_option maxRecDepth 100000 in
theorem k_M_open_118 {x1 : Int32} {x2 : Int32} {x3 : Int32} {x4 : Int32} {y0 : Int32} {u0 : St} {u' : St} (X : sr_X D (tM t) b_M_open 7 R_M w_M_open p s m args meth c A none) (Z : sr_Z D A s.heap (wM h t u0) H locs) (hl : lv_has ls 7 [(0, .ref (h 0)), (1, .int x1), (2, .int x2), (3, .int x3), (4, .int x4)]) (hf : f_M_open_118 x1 x2 x3 x4 y0 u0 = some u') : W p l e (sr_rm 3 70) s m args below meth c H locs 0 0 (sr_Qv D (tM t) below args s A (wM h t u')) (F0 m 118 ls [.int y0]) := by
  have hx := X.1
  have hb := X.2.1
  have hK := X.2.2.2.2.2.2.1
  unfold f_M_open_118 at hf
  refine lv_istore (lv' := [(5, .int y0), (0, .ref (h 0)), (1, .int x1), (2, .int x2), (3, .int x3), (4, .int x4)]) hx hb d_M_open_118 hl (by decide) rfl (fun ls hl => ?_)
  refine lv_iload hx hb d_M_open_120 (lv_at hl 5 rfl) ?_
  refine lv_if_eq (tgt := 129) hx hb d_M_open_122 rfl (fun q_37 => ?_) (fun q_37 => ?_)
  · have hf := sr_it q_37 hf
    refine lv_iload_n hx hb d_M_open_129 rfl (lv_at hl 4 rfl) ?_
    exact k_M_open_130 X Z (lv_sub hl [1, 2, 0] rfl) hf
  · have hf := sr_if q_37 hf
    refine lv_iload_n hx hb d_M_open_125 rfl (lv_at hl 3 rfl) ?_
    refine lv_goto (tgt := 130) hx hb d_M_open_126 rfl ?_
    exact k_M_open_130 X Z (lv_sub hl [1, 2, 0] rfl) hf
def f_M_open_106 (x1 : Int32) (x2 : Int32) (x3 : Int32) (y0 : Int32) (u0 : St) : Option (St) :=
  if y0 = 0 then
    f_M_open_118 x1 x2 x3 y0 x2 u0
  else
    f_M_open_118 x1 x2 x3 y0 x3 u0
set_option maxHeartbeats 4000000 in
set_option maxRecDepth 100000 in
theorem k_M_open_106 {x1 : Int32} {x2 : Int32} {x3 : Int32} {y0 : Int32} {u0 : St} {u' : St} (X : sr_X D (tM t) b_M_open 7 R_M w_M_open p s m args meth c A none) (Z : sr_Z D A s.heap (wM h t u0) H locs) (hl : lv_has ls 7 [(0, .ref (h 0)), (1, .int x1), (2, .int x2), (3, .int x3)]) (hf : f_M_open_106 x1 x2 x3 y0 u0 = some u') : W p l e (sr_rm 3 70) s m args below meth c H locs 0 0 (sr_Qv D (tM t) below args s A (wM h t u')) (F0 m 106 ls [.int y0]) := by
  have hx := X.1
  have hb := X.2.1
  have hK := X.2.2.2.2.2.2.1
  unfold f_M_open_106 at hf
  refine lv_istore (lv' := [(4, .int y0), (0, .ref (h 0)), (1, .int x1), (2, .int x2), (3, .int x3)]) hx hb d_M_open_106 hl (by decide) rfl (fun ls hl => ?_)
  refine lv_iload hx hb d_M_open_108 (lv_at hl 0 rfl) ?_
  refine lv_if_eq (tgt := 117) hx hb d_M_open_110 rfl (fun q_36 => ?_) (fun q_36 => ?_)
  · have hf := sr_it q_36 hf
    refine lv_iload_n hx hb d_M_open_117 rfl (lv_at hl 3 rfl) ?_
    exact k_M_open_118 X Z (lv_sub hl [1, 2, 3, 4, 0] rfl) hf
  · have hf := sr_if q_36 hf
    refine lv_iload_n hx hb d_M_open_113 rfl (lv_at hl 4 rfl) ?_
    refine lv_goto (tgt := 118) hx hb d_M_open_114 rfl ?_
    exact k_M_open_118 X Z (lv_sub hl [1, 2, 3, 4, 0] rfl) hf
def f_M_open_55 (x1 : Int32) (u0 : St) : Option (St) :=
  (f_M_inRole u0 x1 0).bind fun v_9 =>
  (sr_ald 24 (u0 3) x1).bind fun v_11 =>
  if v_11 = 10 then
    (f_M_nextInRole u0 x1 0 v_9).bind fun v_27 =>
    (sr_ald 24 (u0 4) x1).bind fun v_29 =>
    (f_M_see u0 x1 v_29).bind fun v_31 =>
    (sr_ald 24 (u0 5) x1).bind fun v_33 =>
    if v_33 ≤ v_31 then
      f_M_open_106 x1 v_9 v_27 0 u0
    else
      f_M_open_106 x1 v_9 v_27 1 u0
  else
    f_M_open_168_it 60 x1 v_9 v_9 u0
set_option maxHeartbeats 4000000 in
set_option maxRecDepth 100000 in
theorem k_M_open_55 {x1 : Int32} {u0 : St} {u' : St} (X : sr_X D (tM t) b_M_open 7 R_M w_M_open p s m args meth c A none) (Z : sr_Z D A s.heap (wM h t u0) H locs) (hl : lv_has ls 7 [(0, .ref (h 0)), (1, .int x1)]) (hf : f_M_open_55 x1 u0 = some u') : W p l e (sr_rm 3 70) s m args below meth c H locs 0 0 (sr_Qv D (tM t) below args s A (wM h t u')) (F0 m 55 ls []) := by
  have hx := X.1
  have hb := X.2.1
  have hK := X.2.2.2.2.2.2.1
  unfold f_M_open_55 at hf
  refine lv_aload_n hx hb d_M_open_55 rfl (lv_at hl 0 rfl) ?_
  refine lv_iload_n hx hb d_M_open_56 rfl (lv_at hl 1 rfl) ?_
  refine lv_iconst (v := 0) hx hb d_M_open_57 (by decide) ?_
  obtain ⟨v_9, e_10, hf⟩ := sr_b hf
  refine sr_cVi (As := [.int x1, .int 0]) (rest := []) X Z sr_cut_self hK (c_M_inRole e_10) (cw_M_107 X.2.2.2.2.2.1 (by decide)) 0 rfl rfl rfl hl rfl (Nat.le_of_ble_eq_true rfl) d_M_open_58 (fun H locs Z => ?_)
  refine lv_istore_n (lv' := [(2, .int v_9), (0, .ref (h 0)), (1, .int x1)]) hx hb d_M_open_61 rfl hl (by decide) rfl (fun ls hl => ?_)
  refine lv_aload_n hx hb d_M_open_62 rfl (lv_at hl 1 rfl) ?_
  refine g_M_16_M X Z d_M_open_63 ?_
  refine lv_iload_n hx hb d_M_open_66 rfl (lv_at hl 2 rfl) ?_
  obtain ⟨v_11, e_12, hf⟩ := sr_b hf
  refine sr_iald hx hb hK Z 3 2 rfl rfl e_12 d_M_open_67 ?_
  refine lv_bipush (v := 10) hx hb d_M_open_68 (by decide) ?_
  refine lv_icmp_ne (tgt := 166) hx hb d_M_open_70 rfl (fun q_13 => ?_) (fun q_13 => ?_)
  · have hf := sr_if q_13 hf
    refine lv_iload_n hx hb d_M_open_166 rfl (lv_at hl 0 rfl) ?_
    refine lv_istore_n (lv' := [(3, .int v_9), (2, .int v_9), (0, .ref (h 0)), (1, .int x1)]) hx hb d_M_open_167 rfl hl (by decide) rfl (fun ls hl => ?_)
    exact k_M_open_168_it X _ Z (lv_sub hl [2, 3, 1, 0] rfl) hf
  · have hf := sr_it q_13 hf
    refine lv_aload_n hx hb d_M_open_73 rfl (lv_at hl 1 rfl) ?_
    refine lv_iload_n hx hb d_M_open_74 rfl (lv_at hl 2 rfl) ?_
    refine lv_iconst (v := 0) hx hb d_M_open_75 (by decide) ?_
    refine lv_iload_n hx hb d_M_open_76 rfl (lv_at hl 0 rfl) ?_
    obtain ⟨v_27, e_28, hf⟩ := sr_b hf
    refine sr_cVi (As := [.int x1, .int 0, .int v_9]) (rest := []) X Z sr_cut_self hK (c_M_nextInRole e_28) (cw_M_111 X.2.2.2.2.2.1 (by decide)) 0 rfl rfl rfl hl rfl (Nat.le_of_ble_eq_true rfl) d_M_open_77 (fun H locs Z => ?_)
    refine lv_istore_n (lv' := [(3, .int v_27), (2, .int v_9), (0, .ref (h 0)), (1, .int x1)]) hx hb d_M_open_80 rfl hl (by decide) rfl (fun ls hl => ?_)
    refine lv_aload_n hx hb d_M_open_81 rfl (lv_at hl 2 rfl) ?_
    refine lv_iload_n hx hb d_M_open_82 rfl (lv_at hl 3 rfl) ?_
    refine lv_aload_n hx hb d_M_open_83 rfl (lv_at hl 2 rfl) ?_
    refine g_M_19_M X Z d_M_open_84 ?_
    refine lv_iload_n hx hb d_M_open_87 rfl (lv_at hl 3 rfl) ?_
    obtain ⟨v_29, e_30, hf⟩ := sr_b hf
    refine sr_iald hx hb hK Z 4 3 rfl rfl e_30 d_M_open_88 ?_
    obtain ⟨v_31, e_32, hf⟩ := sr_b hf
    refine sr_cVi (As := [.int x1, .int v_29]) (rest := []) X Z sr_cut_self hK (c_M_see e_32) (cw_M_206 X.2.2.2.2.2.1 (by decide)) 0 rfl rfl rfl hl rfl (Nat.le_of_ble_eq_true rfl) d_M_open_89 (fun H locs Z => ?_)
    refine lv_aload_n hx hb d_M_open_92 rfl (lv_at hl 2 rfl) ?_
    refine g_M_22_M X Z d_M_open_93 ?_
    refine lv_iload_n hx hb d_M_open_96 rfl (lv_at hl 3 rfl) ?_
    obtain ⟨v_33, e_34, hf⟩ := sr_b hf
    refine sr_iald hx hb hK Z 5 4 rfl rfl e_34 d_M_open_97 ?_
    refine lv_icmp_ge (tgt := 105) hx hb d_M_open_98 rfl (fun q_35 => ?_) (fun q_35 => ?_)
    · have hf := sr_it q_35 hf
      refine lv_iconst (v := 0) hx hb d_M_open_105 (by decide) ?_
      exact k_M_open_106 X Z (lv_sub hl [2, 3, 1, 0] rfl) hf
    · have hf := sr_if q_35 hf
      refine lv_iconst (v := 1) hx hb d_M_open_101 (by decide) ?_
      refine lv_goto (tgt := 106) hx hb d_M_open_102 rfl ?_
      exact k_M_open_106 X Z (lv_sub hl [2, 3, 1, 0] rfl) hf
def f_M_open (x1 : Int32) (u0 : St) : Option (St) :=
  (sr_ald 24 (u0 3) x1).bind fun v_1 =>
  if v_1 = 11 then
    (f_M_loop x1 u0).bind fun u_50 =>
    some u_50
  else
    (f_M_put x1 2 u0).bind fun u_4 =>
    (sr_ald 24 (u_4 3) x1).bind fun v_6 =>
    if v_6 = 12 then
      (sr_ast 192 u_4 22 ((24 * (u_4 33 0)) + x1) 0).bind fun u_46 =>
      (f_M_carry x1 (-1) u_46).bind fun u_48 =>
      f_M_open_55 x1 u_48
    else
      f_M_open_55 x1 u_4
set_option maxHeartbeats 4000000 in
set_option maxRecDepth 100000 in
theorem k_M_open_0 {x1 : Int32} {u0 : St} {u' : St} (X : sr_X D (tM t) b_M_open 7 R_M w_M_open p s m args meth c A none) (Z : sr_Z D A s.heap (wM h t u0) H locs) (hl : lv_has ls 7 [(0, .ref (h 0)), (1, .int x1)]) (hf : f_M_open x1 u0 = some u') : W p l e (sr_rm 3 70) s m args below meth c H locs 0 0 (sr_Qv D (tM t) below args s A (wM h t u')) (F0 m 0 ls []) := by
  have hx := X.1
  have hb := X.2.1
  have hK := X.2.2.2.2.2.2.1
  unfold f_M_open at hf
  refine lv_aload_n hx hb d_M_open_0 rfl (lv_at hl 0 rfl) ?_
  refine g_M_16_M X Z d_M_open_1 ?_
  refine lv_iload_n hx hb d_M_open_4 rfl (lv_at hl 1 rfl) ?_
  obtain ⟨v_1, e_2, hf⟩ := sr_b hf
  refine sr_iald hx hb hK Z 3 2 rfl rfl e_2 d_M_open_5 ?_
  refine lv_bipush (v := 11) hx hb d_M_open_6 (by decide) ?_
  refine lv_icmp_ne (tgt := 17) hx hb d_M_open_8 rfl (fun q_3 => ?_) (fun q_3 => ?_)
  · have hf := sr_if q_3 hf
    refine lv_aload_n hx hb d_M_open_17 rfl (lv_at hl 0 rfl) ?_
    refine lv_iload_n hx hb d_M_open_18 rfl (lv_at hl 1 rfl) ?_
    refine lv_iconst (v := 2) hx hb d_M_open_19 (by decide) ?_
    obtain ⟨u_4, e_5, hf⟩ := sr_b hf
    refine sr_cVv (As := [.int x1, .int 2]) (rest := []) X Z sr_cut_self hK (c_M_put e_5) (cw_M_183 X.2.2.2.2.2.1 (by decide)) 0 rfl rfl rfl hl rfl (Nat.le_of_ble_eq_true rfl) d_M_open_20 (fun H locs Z => ?_)
    refine lv_aload_n hx hb d_M_open_23 rfl (lv_at hl 0 rfl) ?_
    refine g_M_16_M X Z d_M_open_24 ?_
    refine lv_iload_n hx hb d_M_open_27 rfl (lv_at hl 1 rfl) ?_
    obtain ⟨v_6, e_7, hf⟩ := sr_b hf
    refine sr_iald hx hb hK Z 3 2 rfl rfl e_7 d_M_open_28 ?_
    refine lv_bipush (v := 12) hx hb d_M_open_29 (by decide) ?_
    refine lv_icmp_ne (tgt := 55) hx hb d_M_open_31 rfl (fun q_8 => ?_) (fun q_8 => ?_)
    · have hf := sr_if q_8 hf
      exact k_M_open_55 X Z (lv_sub hl [0, 1] rfl) hf
    · have hf := sr_it q_8 hf
      refine lv_aload_n hx hb d_M_open_34 rfl (lv_at hl 0 rfl) ?_
      refine g_M_58_M X Z d_M_open_35 ?_
      refine lv_bipush (v := 24) hx hb d_M_open_38 (by decide) ?_
      refine lv_aload_n hx hb d_M_open_40 rfl (lv_at hl 0 rfl) ?_
      refine g_M_168_M X Z d_M_open_41 ?_
      refine lv_imul hx hb d_M_open_44 ?_
      refine lv_iload_n hx hb d_M_open_45 rfl (lv_at hl 1 rfl) ?_
      refine lv_iadd hx hb d_M_open_46 ?_
      refine lv_iconst (v := 0) hx hb d_M_open_47 (by decide) ?_
      obtain ⟨u_46, e_47, hf⟩ := sr_b hf
      refine sr_iast (wf := (fun q => (wM h t q))) hx hb hK Z 17 16 rfl rfl e_47 (fun _ => rfl) d_M_open_48 (fun H locs Z => ?_)
      refine lv_aload_n hx hb d_M_open_49 rfl (lv_at hl 0 rfl) ?_
      refine lv_iload_n hx hb d_M_open_50 rfl (lv_at hl 1 rfl) ?_
      refine lv_iconst (v := -1) hx hb d_M_open_51 (by decide) ?_
      obtain ⟨u_48, e_49, hf⟩ := sr_b hf
      refine sr_cVv (As := [.int x1, .int (-1)]) (rest := []) X Z sr_cut_self hK (c_M_carry e_49) (cw_M_213 X.2.2.2.2.2.1 (by decide)) 0 rfl rfl rfl hl rfl (Nat.le_of_ble_eq_true rfl) d_M_open_52 (fun H locs Z => ?_)
      exact k_M_open_55 X Z (lv_sub hl [0, 1] rfl) hf
  · have hf := sr_it q_3 hf
    refine lv_aload_n hx hb d_M_open_11 rfl (lv_at hl 0 rfl) ?_
    refine lv_iload_n hx hb d_M_open_12 rfl (lv_at hl 1 rfl) ?_
    obtain ⟨u_50, e_51, hf⟩ := sr_b hf
    refine sr_cVv (As := [.int x1]) (rest := []) X Z sr_cut_self hK (c_M_loop e_51) (cw_M_228 X.2.2.2.2.2.1 (by decide)) 0 rfl rfl rfl hl rfl (Nat.le_of_ble_eq_true rfl) d_M_open_13 (fun H locs Z => ?_)
    cases hf
    exact sr_retv X Z d_M_open_16
end
set_option maxHeartbeats 4000000 in
set_option maxRecDepth 100000 in
theorem c_M_open {l : Launch} {D : va_G} {h : Nat → Nat} {t : Nat → ClassId} {sz : Nat} {x1 : Int32} {u0 : St} {u' : St} (hf : f_M_open x1 u0 = some u') : sr_Cv l y_M_open w_M_open (sr_rm 3 70) D (tM t) (wM h t u0) (wM h t u') sz [.ref (h 0), .int x1] := by
  refine Met.ofW (cc := b_M_open) (maxL := 7) (ret := none) (by decide) rfl ?_
  intro p e s m args below meth c s₁ B hml hv
  obtain ⟨rfl, hsz, hP, hK, hD0⟩ := hv
  subst hsz
  have X : sr_X D (tM t) b_M_open 7 R_M w_M_open p s m _ meth c (va_A (wM h t u0) s.heap.size) none := ⟨B.exec, B.bytes, hml, findClass_of_methodNamed B.named, B.notSynchronized, atoms_spec (ws := w_M_open) B.pre, hK, fun q h => Or.inr h, B.returns⟩
  have Z : sr_Z D (va_A (wM h t u0) s.heap.size) s.heap (wM h t u0) s.heap [] := ⟨hP, hD0.self, va_S.rf⟩
  have hl := lv_entry ([.ref (h 0), .int x1] : List Value) (n := 7) (Nat.le_of_ble_eq_true rfl)
  rw [lg_entry_eq]
  exact k_M_open_0 X Z hl hf
/-! M_step -/
theorem d_M_step_0 : decode b_M_step 0 = .ok (.aload_n 0, 1) := by decide +kernel
theorem d_M_step_1 : decode b_M_step 1 = .ok (.iload_n 1, 1) := by decide +kernel
theorem d_M_step_2 : decode b_M_step 2 = .ok (.invokevirtual 171, 3) := by decide +kernel
theorem d_M_step_5 : decode b_M_step 5 = .ok (.bipush 6, 2) := by decide +kernel
theorem d_M_step_7 : decode b_M_step 7 = .ok (.if_icmp .eq 13, 3) := by decide +kernel
theorem d_M_step_10 : decode b_M_step 10 = .ok (.aload_n 0, 1) := by decide +kernel
theorem d_M_step_11 : decode b_M_step 11 = .ok (.iload_n 1, 1) := by decide +kernel
theorem d_M_step_12 : decode b_M_step 12 = .ok (.invokevirtual 171, 3) := by decide +kernel
theorem d_M_step_15 : decode b_M_step 15 = .ok (.bipush 7, 2) := by decide +kernel
theorem d_M_step_17 : decode b_M_step 17 = .ok (.if_icmp .ne 11, 3) := by decide +kernel
theorem d_M_step_20 : decode b_M_step 20 = .ok (.aload_n 0, 1) := by decide +kernel
theorem d_M_step_21 : decode b_M_step 21 = .ok (.iload_n 1, 1) := by decide +kernel
theorem d_M_step_22 : decode b_M_step 22 = .ok (.invokevirtual 225, 3) := by decide +kernel
theorem d_M_step_25 : decode b_M_step 25 = .ok (.goto 94, 3) := by decide +kernel
theorem d_M_step_28 : decode b_M_step 28 = .ok (.aload_n 0, 1) := by decide +kernel
theorem d_M_step_29 : decode b_M_step 29 = .ok (.iload_n 1, 1) := by decide +kernel
theorem d_M_step_30 : decode b_M_step 30 = .ok (.invokevirtual 171, 3) := by decide +kernel
theorem d_M_step_33 : decode b_M_step 33 = .ok (.iconst 4, 1) := by decide +kernel
theorem d_M_step_34 : decode b_M_step 34 = .ok (.if_icmp .ne 11, 3) := by decide +kernel
theorem d_M_step_37 : decode b_M_step 37 = .ok (.aload_n 0, 1) := by decide +kernel
theorem d_M_step_38 : decode b_M_step 38 = .ok (.iload_n 1, 1) := by decide +kernel
theorem d_M_step_39 : decode b_M_step 39 = .ok (.invokevirtual 228, 3) := by decide +kernel
theorem d_M_step_42 : decode b_M_step 42 = .ok (.goto 77, 3) := by decide +kernel
theorem d_M_step_45 : decode b_M_step 45 = .ok (.aload_n 0, 1) := by decide +kernel
theorem d_M_step_46 : decode b_M_step 46 = .ok (.iload_n 1, 1) := by decide +kernel
theorem d_M_step_47 : decode b_M_step 47 = .ok (.invokevirtual 231, 3) := by decide +kernel
theorem d_M_step_50 : decode b_M_step 50 = .ok (.ifCond .ne 39, 3) := by decide +kernel
theorem d_M_step_53 : decode b_M_step 53 = .ok (.aload_n 0, 1) := by decide +kernel
theorem d_M_step_54 : decode b_M_step 54 = .ok (.getfield 25, 3) := by decide +kernel
theorem d_M_step_57 : decode b_M_step 57 = .ok (.iload_n 1, 1) := by decide +kernel
theorem d_M_step_58 : decode b_M_step 58 = .ok (.iaload, 1) := by decide +kernel
theorem d_M_step_59 : decode b_M_step 59 = .ok (.iconst 2, 1) := by decide +kernel
theorem d_M_step_60 : decode b_M_step 60 = .ok (.if_icmp .lt 14, 3) := by decide +kernel
theorem d_M_step_63 : decode b_M_step 63 = .ok (.aload_n 0, 1) := by decide +kernel
theorem d_M_step_64 : decode b_M_step 64 = .ok (.iconst 3, 1) := by decide +kernel
theorem d_M_step_65 : decode b_M_step 65 = .ok (.iload_n 1, 1) := by decide +kernel
theorem d_M_step_66 : decode b_M_step 66 = .ok (.bipush 100, 2) := by decide +kernel
theorem d_M_step_68 : decode b_M_step 68 = .ok (.invokevirtual 209, 3) := by decide +kernel
theorem d_M_step_71 : decode b_M_step 71 = .ok (.goto 48, 3) := by decide +kernel
theorem d_M_step_74 : decode b_M_step 74 = .ok (.aload_n 0, 1) := by decide +kernel
theorem d_M_step_75 : decode b_M_step 75 = .ok (.iload_n 1, 1) := by decide +kernel
theorem d_M_step_76 : decode b_M_step 76 = .ok (.invokevirtual 234, 3) := by decide +kernel
theorem d_M_step_79 : decode b_M_step 79 = .ok (.aload_n 0, 1) := by decide +kernel
theorem d_M_step_80 : decode b_M_step 80 = .ok (.iconst 2, 1) := by decide +kernel
theorem d_M_step_81 : decode b_M_step 81 = .ok (.iload_n 1, 1) := by decide +kernel
theorem d_M_step_82 : decode b_M_step 82 = .ok (.iconst 0, 1) := by decide +kernel
theorem d_M_step_83 : decode b_M_step 83 = .ok (.invokevirtual 209, 3) := by decide +kernel
theorem d_M_step_86 : decode b_M_step 86 = .ok (.goto 33, 3) := by decide +kernel
theorem d_M_step_89 : decode b_M_step 89 = .ok (.aload_n 0, 1) := by decide +kernel
theorem d_M_step_90 : decode b_M_step 90 = .ok (.iconst 1, 1) := by decide +kernel
theorem d_M_step_91 : decode b_M_step 91 = .ok (.iload_n 1, 1) := by decide +kernel
theorem d_M_step_92 : decode b_M_step 92 = .ok (.invokevirtual 186, 3) := by decide +kernel
theorem d_M_step_95 : decode b_M_step 95 = .ok (.aload_n 0, 1) := by decide +kernel
theorem d_M_step_96 : decode b_M_step 96 = .ok (.getfield 16, 3) := by decide +kernel
theorem d_M_step_99 : decode b_M_step 99 = .ok (.iload_n 1, 1) := by decide +kernel
theorem d_M_step_100 : decode b_M_step 100 = .ok (.iaload, 1) := by decide +kernel
theorem d_M_step_101 : decode b_M_step 101 = .ok (.bipush 8, 2) := by decide +kernel
theorem d_M_step_103 : decode b_M_step 103 = .ok (.if_icmp .ge 11, 3) := by decide +kernel
theorem d_M_step_106 : decode b_M_step 106 = .ok (.aload_n 0, 1) := by decide +kernel
theorem d_M_step_107 : decode b_M_step 107 = .ok (.iload_n 1, 1) := by decide +kernel
theorem d_M_step_108 : decode b_M_step 108 = .ok (.invokevirtual 237, 3) := by decide +kernel
theorem d_M_step_111 : decode b_M_step 111 = .ok (.goto 8, 3) := by decide +kernel
theorem d_M_step_114 : decode b_M_step 114 = .ok (.aload_n 0, 1) := by decide +kernel
theorem d_M_step_115 : decode b_M_step 115 = .ok (.iload_n 1, 1) := by decide +kernel
theorem d_M_step_116 : decode b_M_step 116 = .ok (.invokevirtual 240, 3) := by decide +kernel
theorem d_M_step_119 : decode b_M_step 119 = .ok (.aload_n 0, 1) := by decide +kernel
theorem d_M_step_120 : decode b_M_step 120 = .ok (.invokevirtual 243, 3) := by decide +kernel
theorem d_M_step_123 : decode b_M_step 123 = .ok (.return_, 1) := by decide +kernel
section
variable {p : Program} {l : Launch} {e : Env} {s : State} {m : MethodId} {args : Array Value} {below : List Frame} {meth : Method} {c : Code} {H : Heap} {locs : List Loc} {ls : Array Slot} {D : va_G} {A : Nat → Prop} {h o : Nat → Nat} {t v : Nat → ClassId}
def f_M_step_119 (u0 : St) : Option (St) :=
  (f_M_settle u0).bind fun u_6 =>
  some u_6
set_option maxHeartbeats 4000000 in
set_option maxRecDepth 100000 in
theorem k_M_step_119 {u0 : St} {u' : St} (X : sr_X D (tM t) b_M_step 2 R_M w_M_step p s m args meth c A none) (Z : sr_Z D A s.heap (wM h t u0) H locs) (hl : lv_has ls 2 [(0, .ref (h 0))]) (hf : f_M_step_119 u0 = some u') : W p l e (sr_rm 4 98) s m args below meth c H locs 0 0 (sr_Qv D (tM t) below args s A (wM h t u')) (F0 m 119 ls []) := by
  have hx := X.1
  have hb := X.2.1
  have hK := X.2.2.2.2.2.2.1
  unfold f_M_step_119 at hf
  refine lv_aload_n hx hb d_M_step_119 rfl (lv_at hl 0 rfl) ?_
  obtain ⟨u_6, e_7, hf⟩ := sr_b hf
  refine sr_cVv (As := []) (rest := []) X Z sr_cut_self hK (c_M_settle e_7) (cw_M_243 X.2.2.2.2.2.1 (by decide)) 0 rfl rfl rfl hl rfl (Nat.le_of_ble_eq_true rfl) d_M_step_120 (fun H locs Z => ?_)
  cases hf
  exact sr_retv X Z d_M_step_123
def f_M_step_20 (x1 : Int32) (u0 : St) : Option (St) :=
  (f_M_undo x1 u0).bind fun u_4 =>
  f_M_step_119 u_4
set_option maxHeartbeats 4000000 in
set_option maxRecDepth 100000 in
theorem k_M_step_20 {x1 : Int32} {u0 : St} {u' : St} (X : sr_X D (tM t) b_M_step 2 R_M w_M_step p s m args meth c A none) (Z : sr_Z D A s.heap (wM h t u0) H locs) (hl : lv_has ls 2 [(0, .ref (h 0)), (1, .int x1)]) (hf : f_M_step_20 x1 u0 = some u') : W p l e (sr_rm 4 98) s m args below meth c H locs 0 0 (sr_Qv D (tM t) below args s A (wM h t u')) (F0 m 20 ls []) := by
  have hx := X.1
  have hb := X.2.1
  have hK := X.2.2.2.2.2.2.1
  unfold f_M_step_20 at hf
  refine lv_aload_n hx hb d_M_step_20 rfl (lv_at hl 0 rfl) ?_
  refine lv_iload_n hx hb d_M_step_21 rfl (lv_at hl 1 rfl) ?_
  obtain ⟨u_4, e_5, hf⟩ := sr_b hf
  refine sr_cVv (As := [.int x1]) (rest := []) X Z sr_cut_self hK (c_M_undo e_5) (cw_M_225 X.2.2.2.2.2.1 (by decide)) 0 rfl rfl rfl hl rfl (Nat.le_of_ble_eq_true rfl) d_M_step_22 (fun H locs Z => ?_)
  refine lv_goto (tgt := 119) hx hb d_M_step_25 rfl ?_
  exact k_M_step_119 X Z (lv_sub hl [0] rfl) hf
def f_M_step (x1 : Int32) (u0 : St) : Option (St) :=
  (f_M_st u0 x1).bind fun v_1 =>
  if v_1 = 6 then
    f_M_step_20 x1 u0
  else
    (f_M_st u0 x1).bind fun v_8 =>
    if v_8 = 7 then
      f_M_step_20 x1 u0
    else
      (f_M_st u0 x1).bind fun v_11 =>
      if v_11 = 4 then
        (f_M_loop x1 u0).bind fun u_35 =>
        f_M_step_119 u_35
      else
        (f_M_joined u0 x1).bind fun v_14 =>
        if v_14 = 0 then
          (sr_ald 24 (u0 6) x1).bind fun v_26 =>
          if v_26 < 2 then
            (f_M_skip x1 u0).bind fun u_29 =>
            (f_M_then 2 x1 0 u_29).bind fun u_31 =>
            f_M_step_119 u_31
          else
            (f_M_then 3 x1 100 u0).bind fun u_33 =>
            f_M_step_119 u_33
        else
          (f_M_write 1 x1 u0).bind fun u_17 =>
          (sr_ald 24 (u_17 3) x1).bind fun v_19 =>
          if 8 ≤ v_19 then
            (f_M_open x1 u_17).bind fun u_22 =>
            f_M_step_119 u_22
          else
            (f_M_simple x1 u_17).bind fun u_24 =>
            f_M_step_119 u_24
set_option maxHeartbeats 4000000 in
set_option maxRecDepth 100000 in
theorem k_M_step_0 {x1 : Int32} {u0 : St} {u' : St} (X : sr_X D (tM t) b_M_step 2 R_M w_M_step p s m args meth c A none) (Z : sr_Z D A s.heap (wM h t u0) H locs) (hl : lv_has ls 2 [(0, .ref (h 0)), (1, .int x1)]) (hf : f_M_step x1 u0 = some u') : W p l e (sr_rm 4 98) s m args below meth c H locs 0 0 (sr_Qv D (tM t) below args s A (wM h t u')) (F0 m 0 ls []) := by
  have hx := X.1
  have hb := X.2.1
  have hK := X.2.2.2.2.2.2.1
  unfold f_M_step at hf
  refine lv_aload_n hx hb d_M_step_0 rfl (lv_at hl 0 rfl) ?_
  refine lv_iload_n hx hb d_M_step_1 rfl (lv_at hl 1 rfl) ?_
  obtain ⟨v_1, e_2, hf⟩ := sr_b hf
  refine sr_cVi (As := [.int x1]) (rest := []) X Z sr_cut_self hK (c_M_st e_2) (cw_M_171 X.2.2.2.2.2.1 (by decide)) 0 rfl rfl rfl hl rfl (Nat.le_of_ble_eq_true rfl) d_M_step_2 (fun H locs Z => ?_)
  refine lv_bipush (v := 6) hx hb d_M_step_5 (by decide) ?_
  refine lv_icmp_eq (tgt := 20) hx hb d_M_step_7 rfl (fun q_3 => ?_) (fun q_3 => ?_)
  · have hf := sr_it q_3 hf
    exact k_M_step_20 X Z (lv_sub hl [0, 1] rfl) hf
  · have hf := sr_if q_3 hf
    refine lv_aload_n hx hb d_M_step_10 rfl (lv_at hl 0 rfl) ?_
    refine lv_iload_n hx hb d_M_step_11 rfl (lv_at hl 1 rfl) ?_
    obtain ⟨v_8, e_9, hf⟩ := sr_b hf
    refine sr_cVi (As := [.int x1]) (rest := []) X Z sr_cut_self hK (c_M_st e_9) (cw_M_171 X.2.2.2.2.2.1 (by decide)) 0 rfl rfl rfl hl rfl (Nat.le_of_ble_eq_true rfl) d_M_step_12 (fun H locs Z => ?_)
    refine lv_bipush (v := 7) hx hb d_M_step_15 (by decide) ?_
    refine lv_icmp_ne (tgt := 28) hx hb d_M_step_17 rfl (fun q_10 => ?_) (fun q_10 => ?_)
    · have hf := sr_if q_10 hf
      refine lv_aload_n hx hb d_M_step_28 rfl (lv_at hl 0 rfl) ?_
      refine lv_iload_n hx hb d_M_step_29 rfl (lv_at hl 1 rfl) ?_
      obtain ⟨v_11, e_12, hf⟩ := sr_b hf
      refine sr_cVi (As := [.int x1]) (rest := []) X Z sr_cut_self hK (c_M_st e_12) (cw_M_171 X.2.2.2.2.2.1 (by decide)) 0 rfl rfl rfl hl rfl (Nat.le_of_ble_eq_true rfl) d_M_step_30 (fun H locs Z => ?_)
      refine lv_iconst (v := 4) hx hb d_M_step_33 (by decide) ?_
      refine lv_icmp_ne (tgt := 45) hx hb d_M_step_34 rfl (fun q_13 => ?_) (fun q_13 => ?_)
      · have hf := sr_if q_13 hf
        refine lv_aload_n hx hb d_M_step_45 rfl (lv_at hl 0 rfl) ?_
        refine lv_iload_n hx hb d_M_step_46 rfl (lv_at hl 1 rfl) ?_
        obtain ⟨v_14, e_15, hf⟩ := sr_b hf
        refine sr_cVi (As := [.int x1]) (rest := []) X Z sr_cut_self hK (c_M_joined e_15) (cw_M_231 X.2.2.2.2.2.1 (by decide)) 0 rfl rfl rfl hl rfl (Nat.le_of_ble_eq_true rfl) d_M_step_47 (fun H locs Z => ?_)
        refine lv_if_ne (tgt := 89) hx hb d_M_step_50 rfl (fun q_16 => ?_) (fun q_16 => ?_)
        · have hf := sr_if q_16 hf
          refine lv_aload_n hx hb d_M_step_89 rfl (lv_at hl 0 rfl) ?_
          refine lv_iconst (v := 1) hx hb d_M_step_90 (by decide) ?_
          refine lv_iload_n hx hb d_M_step_91 rfl (lv_at hl 1 rfl) ?_
          obtain ⟨u_17, e_18, hf⟩ := sr_b hf
          refine sr_cVv (As := [.int 1, .int x1]) (rest := []) X Z sr_cut_self hK (c_M_write e_18) (cw_M_186 X.2.2.2.2.2.1 (by decide)) 0 rfl rfl rfl hl rfl (Nat.le_of_ble_eq_true rfl) d_M_step_92 (fun H locs Z => ?_)
          refine lv_aload_n hx hb d_M_step_95 rfl (lv_at hl 0 rfl) ?_
          refine g_M_16_M X Z d_M_step_96 ?_
          refine lv_iload_n hx hb d_M_step_99 rfl (lv_at hl 1 rfl) ?_
          obtain ⟨v_19, e_20, hf⟩ := sr_b hf
          refine sr_iald hx hb hK Z 3 2 rfl rfl e_20 d_M_step_100 ?_
          refine lv_bipush (v := 8) hx hb d_M_step_101 (by decide) ?_
          refine lv_icmp_ge (tgt := 114) hx hb d_M_step_103 rfl (fun q_21 => ?_) (fun q_21 => ?_)
          · have hf := sr_it q_21 hf
            refine lv_aload_n hx hb d_M_step_114 rfl (lv_at hl 0 rfl) ?_
            refine lv_iload_n hx hb d_M_step_115 rfl (lv_at hl 1 rfl) ?_
            obtain ⟨u_22, e_23, hf⟩ := sr_b hf
            refine sr_cVv (As := [.int x1]) (rest := []) X Z sr_cut_self hK (c_M_open e_23) (cw_M_240 X.2.2.2.2.2.1 (by decide)) 0 rfl rfl rfl hl rfl (Nat.le_of_ble_eq_true rfl) d_M_step_116 (fun H locs Z => ?_)
            exact k_M_step_119 X Z (lv_sub hl [0] rfl) hf
          · have hf := sr_if q_21 hf
            refine lv_aload_n hx hb d_M_step_106 rfl (lv_at hl 0 rfl) ?_
            refine lv_iload_n hx hb d_M_step_107 rfl (lv_at hl 1 rfl) ?_
            obtain ⟨u_24, e_25, hf⟩ := sr_b hf
            refine sr_cVv (As := [.int x1]) (rest := []) X Z sr_cut_self hK (c_M_simple e_25) (cw_M_237 X.2.2.2.2.2.1 (by decide)) 0 rfl rfl rfl hl rfl (Nat.le_of_ble_eq_true rfl) d_M_step_108 (fun H locs Z => ?_)
            refine lv_goto (tgt := 119) hx hb d_M_step_111 rfl ?_
            exact k_M_step_119 X Z (lv_sub hl [0] rfl) hf
        · have hf := sr_it q_16 hf
          refine lv_aload_n hx hb d_M_step_53 rfl (lv_at hl 0 rfl) ?_
          refine g_M_25_M X Z d_M_step_54 ?_
          refine lv_iload_n hx hb d_M_step_57 rfl (lv_at hl 1 rfl) ?_
          obtain ⟨v_26, e_27, hf⟩ := sr_b hf
          refine sr_iald hx hb hK Z 6 5 rfl rfl e_27 d_M_step_58 ?_
          refine lv_iconst (v := 2) hx hb d_M_step_59 (by decide) ?_
          refine lv_icmp_lt (tgt := 74) hx hb d_M_step_60 rfl (fun q_28 => ?_) (fun q_28 => ?_)
          · have hf := sr_it q_28 hf
            refine lv_aload_n hx hb d_M_step_74 rfl (lv_at hl 0 rfl) ?_
            refine lv_iload_n hx hb d_M_step_75 rfl (lv_at hl 1 rfl) ?_
            obtain ⟨u_29, e_30, hf⟩ := sr_b hf
            refine sr_cVv (As := [.int x1]) (rest := []) X Z sr_cut_self hK (c_M_skip e_30) (cw_M_234 X.2.2.2.2.2.1 (by decide)) 0 rfl rfl rfl hl rfl (Nat.le_of_ble_eq_true rfl) d_M_step_76 (fun H locs Z => ?_)
            refine lv_aload_n hx hb d_M_step_79 rfl (lv_at hl 0 rfl) ?_
            refine lv_iconst (v := 2) hx hb d_M_step_80 (by decide) ?_
            refine lv_iload_n hx hb d_M_step_81 rfl (lv_at hl 1 rfl) ?_
            refine lv_iconst (v := 0) hx hb d_M_step_82 (by decide) ?_
            obtain ⟨u_31, e_32, hf⟩ := sr_b hf
            refine sr_cVv (As := [.int 2, .int x1, .int 0]) (rest := []) X Z sr_cut_self hK (c_M_then e_32) (cw_M_209 X.2.2.2.2.2.1 (by decide)) 0 rfl rfl rfl hl rfl (Nat.le_of_ble_eq_true rfl) d_M_step_83 (fun H locs Z => ?_)
            refine lv_goto (tgt := 119) hx hb d_M_step_86 rfl ?_
            exact k_M_step_119 X Z (lv_sub hl [0] rfl) hf
          · have hf := sr_if q_28 hf
            refine lv_aload_n hx hb d_M_step_63 rfl (lv_at hl 0 rfl) ?_
            refine lv_iconst (v := 3) hx hb d_M_step_64 (by decide) ?_
            refine lv_iload_n hx hb d_M_step_65 rfl (lv_at hl 1 rfl) ?_
            refine lv_bipush (v := 100) hx hb d_M_step_66 (by decide) ?_
            obtain ⟨u_33, e_34, hf⟩ := sr_b hf
            refine sr_cVv (As := [.int 3, .int x1, .int 100]) (rest := []) X Z sr_cut_self hK (c_M_then e_34) (cw_M_209 X.2.2.2.2.2.1 (by decide)) 0 rfl rfl rfl hl rfl (Nat.le_of_ble_eq_true rfl) d_M_step_68 (fun H locs Z => ?_)
            refine lv_goto (tgt := 119) hx hb d_M_step_71 rfl ?_
            exact k_M_step_119 X Z (lv_sub hl [0] rfl) hf
      · have hf := sr_it q_13 hf
        refine lv_aload_n hx hb d_M_step_37 rfl (lv_at hl 0 rfl) ?_
        refine lv_iload_n hx hb d_M_step_38 rfl (lv_at hl 1 rfl) ?_
        obtain ⟨u_35, e_36, hf⟩ := sr_b hf
        refine sr_cVv (As := [.int x1]) (rest := []) X Z sr_cut_self hK (c_M_loop e_36) (cw_M_228 X.2.2.2.2.2.1 (by decide)) 0 rfl rfl rfl hl rfl (Nat.le_of_ble_eq_true rfl) d_M_step_39 (fun H locs Z => ?_)
        refine lv_goto (tgt := 119) hx hb d_M_step_42 rfl ?_
        exact k_M_step_119 X Z (lv_sub hl [0] rfl) hf
    · have hf := sr_it q_10 hf
      exact k_M_step_20 X Z (lv_sub hl [0, 1] rfl) hf
end
set_option maxHeartbeats 4000000 in
set_option maxRecDepth 100000 in
theorem c_M_step {l : Launch} {D : va_G} {h : Nat → Nat} {t : Nat → ClassId} {sz : Nat} {x1 : Int32} {u0 : St} {u' : St} (hf : f_M_step x1 u0 = some u') : sr_Cv l y_M_step w_M_step (sr_rm 4 98) D (tM t) (wM h t u0) (wM h t u') sz [.ref (h 0), .int x1] := by
  refine Met.ofW (cc := b_M_step) (maxL := 2) (ret := none) (by decide) rfl ?_
  intro p e s m args below meth c s₁ B hml hv
  obtain ⟨rfl, hsz, hP, hK, hD0⟩ := hv
  subst hsz
  have X : sr_X D (tM t) b_M_step 2 R_M w_M_step p s m _ meth c (va_A (wM h t u0) s.heap.size) none := ⟨B.exec, B.bytes, hml, findClass_of_methodNamed B.named, B.notSynchronized, atoms_spec (ws := w_M_step) B.pre, hK, fun q h => Or.inr h, B.returns⟩
  have Z : sr_Z D (va_A (wM h t u0) s.heap.size) s.heap (wM h t u0) s.heap [] := ⟨hP, hD0.self, va_S.rf⟩
  have hl := lv_entry ([.ref (h 0), .int x1] : List Value) (n := 2) (Nat.le_of_ble_eq_true rfl)
  rw [lg_entry_eq]
  exact k_M_step_0 X Z hl hf
