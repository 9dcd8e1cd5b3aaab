/-! M_faults -/
theorem d_M_faults_0 : decode b_M_faults 0 = .ok (.aload_n 0, 1) := by decide +kernel
theorem d_M_faults_1 : decode b_M_faults 1 = .ok (.iload_n 1, 1) := by decide +kernel
theorem d_M_faults_2 : decode b_M_faults 2 = .ok (.bipush 10, 2) := by decide +kernel
theorem d_M_faults_4 : decode b_M_faults 4 = .ok (.invokevirtual 183, 3) := by decide +kernel
theorem d_M_faults_7 : decode b_M_faults 7 = .ok (.aload_n 0, 1) := by decide +kernel
theorem d_M_faults_8 : decode b_M_faults 8 = .ok (.iconst 4, 1) := by decide +kernel
theorem d_M_faults_9 : decode b_M_faults 9 = .ok (.iload_n 1, 1) := by decide +kernel
theorem d_M_faults_10 : decode b_M_faults 10 = .ok (.invokevirtual 186, 3) := by decide +kernel
theorem d_M_faults_13 : decode b_M_faults 13 = .ok (.iload_n 1, 1) := by decide +kernel
theorem d_M_faults_14 : decode b_M_faults 14 = .ok (.ifCond .ne 17, 3) := by decide +kernel
theorem d_M_faults_17 : decode b_M_faults 17 = .ok (.aload_n 0, 1) := by decide +kernel
theorem d_M_faults_18 : decode b_M_faults 18 = .ok (.getfield 43, 3) := by decide +kernel
theorem d_M_faults_21 : decode b_M_faults 21 = .ok (.aload_n 0, 1) := by decide +kernel
theorem d_M_faults_22 : decode b_M_faults 22 = .ok (.getfield 168, 3) := by decide +kernel
theorem d_M_faults_25 : decode b_M_faults 25 = .ok (.bipush 10, 2) := by decide +kernel
theorem d_M_faults_27 : decode b_M_faults 27 = .ok (.iload_n 2, 1) := by decide +kernel
theorem d_M_faults_28 : decode b_M_faults 28 = .ok (.iadd, 1) := by decide +kernel
theorem d_M_faults_29 : decode b_M_faults 29 = .ok (.iastore, 1) := by decide +kernel
theorem d_M_faults_30 : decode b_M_faults 30 = .ok (.return_, 1) := by decide +kernel
theorem d_M_faults_31 : decode b_M_faults 31 = .ok (.iload_n 1, 1) := by decide +kernel
theorem d_M_faults_32 : decode b_M_faults 32 = .ok (.istore_n 3, 1) := by decide +kernel
theorem d_M_faults_33 : decode b_M_faults 33 = .ok (.iconst 0, 1) := by decide +kernel
theorem d_M_faults_34 : decode b_M_faults 34 = .ok (.istore 4, 2) := by decide +kernel
theorem d_M_faults_36 : decode b_M_faults 36 = .ok (.iload 4, 2) := by decide +kernel
theorem d_M_faults_38 : decode b_M_faults 38 = .ok (.bipush 24, 2) := by decide +kernel
theorem d_M_faults_40 : decode b_M_faults 40 = .ok (.if_icmp .ge 32, 3) := by decide +kernel
theorem d_M_faults_43 : decode b_M_faults 43 = .ok (.aload_n 0, 1) := by decide +kernel
theorem d_M_faults_44 : decode b_M_faults 44 = .ok (.getfield 16, 3) := by decide +kernel
theorem d_M_faults_47 : decode b_M_faults 47 = .ok (.aload_n 0, 1) := by decide +kernel
theorem d_M_faults_48 : decode b_M_faults 48 = .ok (.getfield 7, 3) := by decide +kernel
theorem d_M_faults_51 : decode b_M_faults 51 = .ok (.iload_n 3, 1) := by decide +kernel
theorem d_M_faults_52 : decode b_M_faults 52 = .ok (.iaload, 1) := by decide +kernel
theorem d_M_faults_53 : decode b_M_faults 53 = .ok (.iaload, 1) := by decide +kernel
theorem d_M_faults_54 : decode b_M_faults 54 = .ok (.bipush 12, 2) := by decide +kernel
theorem d_M_faults_56 : decode b_M_faults 56 = .ok (.if_icmp .eq 16, 3) := by decide +kernel
theorem d_M_faults_59 : decode b_M_faults 59 = .ok (.aload_n 0, 1) := by decide +kernel
theorem d_M_faults_60 : decode b_M_faults 60 = .ok (.getfield 7, 3) := by decide +kernel
theorem d_M_faults_63 : decode b_M_faults 63 = .ok (.iload_n 3, 1) := by decide +kernel
theorem d_M_faults_64 : decode b_M_faults 64 = .ok (.iaload, 1) := by decide +kernel
theorem d_M_faults_65 : decode b_M_faults 65 = .ok (.istore_n 3, 1) := by decide +kernel
theorem d_M_faults_66 : decode b_M_faults 66 = .ok (.iinc 4 1, 3) := by decide +kernel
theorem d_M_faults_69 : decode b_M_faults 69 = .ok (.goto (-33), 3) := by decide +kernel
theorem d_M_faults_72 : decode b_M_faults 72 = .ok (.aload_n 0, 1) := by decide +kernel
theorem d_M_faults_73 : decode b_M_faults 73 = .ok (.getfield 7, 3) := by decide +kernel
theorem d_M_faults_76 : decode b_M_faults 76 = .ok (.iload_n 3, 1) := by decide +kernel
theorem d_M_faults_77 : decode b_M_faults 77 = .ok (.iaload, 1) := by decide +kernel
theorem d_M_faults_78 : decode b_M_faults 78 = .ok (.istore 4, 2) := by decide +kernel
theorem d_M_faults_80 : decode b_M_faults 80 = .ok (.iconst 0, 1) := by decide +kernel
theorem d_M_faults_81 : decode b_M_faults 81 = .ok (.istore 5, 2) := by decide +kernel
theorem d_M_faults_83 : decode b_M_faults 83 = .ok (.iload 5, 2) := by decide +kernel
theorem d_M_faults_85 : decode b_M_faults 85 = .ok (.aload_n 0, 1) := by decide +kernel
theorem d_M_faults_86 : decode b_M_faults 86 = .ok (.getfield 100, 3) := by decide +kernel
theorem d_M_faults_89 : decode b_M_faults 89 = .ok (.if_icmp .ge 78, 3) := by decide +kernel
theorem d_M_faults_92 : decode b_M_faults 92 = .ok (.iload 5, 2) := by decide +kernel
theorem d_M_faults_94 : decode b_M_faults 94 = .ok (.iload_n 3, 1) := by decide +kernel
theorem d_M_faults_95 : decode b_M_faults 95 = .ok (.if_icmp .eq 13, 3) := by decide +kernel
theorem d_M_faults_98 : decode b_M_faults 98 = .ok (.aload_n 0, 1) := by decide +kernel
theorem d_M_faults_99 : decode b_M_faults 99 = .ok (.iload 5, 2) := by decide +kernel
theorem d_M_faults_101 : decode b_M_faults 101 = .ok (.iload_n 3, 1) := by decide +kernel
theorem d_M_faults_102 : decode b_M_faults 102 = .ok (.invokevirtual 125, 3) := by decide +kernel
theorem d_M_faults_105 : decode b_M_faults 105 = .ok (.ifCond .eq 56, 3) := by decide +kernel
theorem d_M_faults_108 : decode b_M_faults 108 = .ok (.aload_n 0, 1) := by decide +kernel
theorem d_M_faults_109 : decode b_M_faults 109 = .ok (.iload 5, 2) := by decide +kernel
theorem d_M_faults_111 : decode b_M_faults 111 = .ok (.invokevirtual 219, 3) := by decide +kernel
theorem d_M_faults_114 : decode b_M_faults 114 = .ok (.ifCond .eq 47, 3) := by decide +kernel
theorem d_M_faults_117 : decode b_M_faults 117 = .ok (.aload_n 0, 1) := by decide +kernel
theorem d_M_faults_118 : decode b_M_faults 118 = .ok (.iload 5, 2) := by decide +kernel
theorem d_M_faults_120 : decode b_M_faults 120 = .ok (.bipush 11, 2) := by decide +kernel
theorem d_M_faults_122 : decode b_M_faults 122 = .ok (.invokevirtual 183, 3) := by decide +kernel
theorem d_M_faults_125 : decode b_M_faults 125 = .ok (.aload_n 0, 1) := by decide +kernel
theorem d_M_faults_126 : decode b_M_faults 126 = .ok (.iconst 5, 1) := by decide +kernel
theorem d_M_faults_127 : decode b_M_faults 127 = .ok (.iload 5, 2) := by decide +kernel
theorem d_M_faults_129 : decode b_M_faults 129 = .ok (.invokevirtual 186, 3) := by decide +kernel
theorem d_M_faults_132 : decode b_M_faults 132 = .ok (.aload_n 0, 1) := by decide +kernel
theorem d_M_faults_133 : decode b_M_faults 133 = .ok (.getfield 16, 3) := by decide +kernel
theorem d_M_faults_136 : decode b_M_faults 136 = .ok (.iload 5, 2) := by decide +kernel
theorem d_M_faults_138 : decode b_M_faults 138 = .ok (.iaload, 1) := by decide +kernel
theorem d_M_faults_139 : decode b_M_faults 139 = .ok (.bipush 12, 2) := by decide +kernel
theorem d_M_faults_141 : decode b_M_faults 141 = .ok (.if_icmp .ne 20, 3) := by decide +kernel
theorem d_M_faults_144 : decode b_M_faults 144 = .ok (.aload_n 0, 1) := by decide +kernel
theorem d_M_faults_145 : decode b_M_faults 145 = .ok (.getfield 13, 3) := by decide +kernel
theorem d_M_faults_148 : decode b_M_faults 148 = .ok (.iload_n 3, 1) := by decide +kernel
theorem d_M_faults_149 : decode b_M_faults 149 = .ok (.iaload, 1) := by decide +kernel
theorem d_M_faults_150 : decode b_M_faults 150 = .ok (.ifCond .ne 11, 3) := by decide +kernel
theorem d_M_faults_153 : decode b_M_faults 153 = .ok (.aload_n 0, 1) := by decide +kernel
theorem d_M_faults_154 : decode b_M_faults 154 = .ok (.iload 5, 2) := by decide +kernel
theorem d_M_faults_156 : decode b_M_faults 156 = .ok (.iload 4, 2) := by decide +kernel
theorem d_M_faults_158 : decode b_M_faults 158 = .ok (.invokevirtual 213, 3) := by decide +kernel
theorem d_M_faults_161 : decode b_M_faults 161 = .ok (.iinc 5 1, 3) := by decide +kernel
theorem d_M_faults_164 : decode b_M_faults 164 = .ok (.goto (-81), 3) := by decide +kernel
theorem d_M_faults_167 : decode b_M_faults 167 = .ok (.aload_n 0, 1) := by decide +kernel
theorem d_M_faults_168 : decode b_M_faults 168 = .ok (.getfield 13, 3) := by decide +kernel
theorem d_M_faults_171 : decode b_M_faults 171 = .ok (.iload_n 3, 1) := by decide +kernel
theorem d_M_faults_172 : decode b_M_faults 172 = .ok (.iaload, 1) := by decide +kernel
theorem d_M_faults_173 : decode b_M_faults 173 = .ok (.iconst 1, 1) := by decide +kernel
theorem d_M_faults_174 : decode b_M_faults 174 = .ok (.if_icmp .ne 21, 3) := by decide +kernel
theorem d_M_faults_177 : decode b_M_faults 177 = .ok (.aload_n 0, 1) := by decide +kernel
theorem d_M_faults_178 : decode b_M_faults 178 = .ok (.iload 4, 2) := by decide +kernel
theorem d_M_faults_180 : decode b_M_faults 180 = .ok (.iconst (-1), 1) := by decide +kernel
theorem d_M_faults_181 : decode b_M_faults 181 = .ok (.invokevirtual 213, 3) := by decide +kernel
theorem d_M_faults_184 : decode b_M_faults 184 = .ok (.aload_n 0, 1) := by decide +kernel
theorem d_M_faults_185 : decode b_M_faults 185 = .ok (.iconst 3, 1) := by decide +kernel
theorem d_M_faults_186 : decode b_M_faults 186 = .ok (.iload 4, 2) := by decide +kernel
theorem d_M_faults_188 : decode b_M_faults 188 = .ok (.iload_n 2, 1) := by decide +kernel
theorem d_M_faults_189 : decode b_M_faults 189 = .ok (.invokevirtual 209, 3) := by decide +kernel
theorem d_M_faults_192 : decode b_M_faults 192 = .ok (.goto 130, 3) := by decide +kernel
theorem d_M_faults_195 : decode b_M_faults 195 = .ok (.aload_n 0, 1) := by decide +kernel
theorem d_M_faults_196 : decode b_M_faults 196 = .ok (.getfield 13, 3) := by decide +kernel
theorem d_M_faults_199 : decode b_M_faults 199 = .ok (.iload_n 3, 1) := by decide +kernel
theorem d_M_faults_200 : decode b_M_faults 200 = .ok (.iaload, 1) := by decide +kernel
theorem d_M_faults_201 : decode b_M_faults 201 = .ok (.iconst 2, 1) := by decide +kernel
theorem d_M_faults_202 : decode b_M_faults 202 = .ok (.if_icmp .ne 14, 3) := by decide +kernel
theorem d_M_faults_205 : decode b_M_faults 205 = .ok (.aload_n 0, 1) := by decide +kernel
theorem d_M_faults_206 : decode b_M_faults 206 = .ok (.iconst 4, 1) := by decide +kernel
theorem d_M_faults_207 : decode b_M_faults 207 = .ok (.iload 4, 2) := by decide +kernel
theorem d_M_faults_209 : decode b_M_faults 209 = .ok (.iload_n 2, 1) := by decide +kernel
theorem d_M_faults_210 : decode b_M_faults 210 = .ok (.invokevirtual 209, 3) := by decide +kernel
theorem d_M_faults_213 : decode b_M_faults 213 = .ok (.goto 109, 3) := by decide +kernel
theorem d_M_faults_216 : decode b_M_faults 216 = .ok (.aload_n 0, 1) := by decide +kernel
theorem d_M_faults_217 : decode b_M_faults 217 = .ok (.iload_n 3, 1) := by decide +kernel
theorem d_M_faults_218 : decode b_M_faults 218 = .ok (.iconst 1, 1) := by decide +kernel
theorem d_M_faults_219 : decode b_M_faults 219 = .ok (.invokevirtual 189, 3) := by decide +kernel
theorem d_M_faults_222 : decode b_M_faults 222 = .ok (.aload_n 0, 1) := by decide +kernel
theorem d_M_faults_223 : decode b_M_faults 223 = .ok (.getfield 61, 3) := by decide +kernel
theorem d_M_faults_226 : decode b_M_faults 226 = .ok (.bipush 24, 2) := by decide +kernel
theorem d_M_faults_228 : decode b_M_faults 228 = .ok (.aload_n 0, 1) := by decide +kernel
theorem d_M_faults_229 : decode b_M_faults 229 = .ok (.getfield 168, 3) := by decide +kernel
theorem d_M_faults_232 : decode b_M_faults 232 = .ok (.imul, 1) := by decide +kernel
theorem d_M_faults_233 : decode b_M_faults 233 = .ok (.iload 4, 2) := by decide +kernel
theorem d_M_faults_235 : decode b_M_faults 235 = .ok (.iadd, 1) := by decide +kernel
theorem d_M_faults_236 : decode b_M_faults 236 = .ok (.iload_n 2, 1) := by decide +kernel
theorem d_M_faults_237 : decode b_M_faults 237 = .ok (.iastore, 1) := by decide +kernel
theorem d_M_faults_238 : decode b_M_faults 238 = .ok (.aload_n 0, 1) := by decide +kernel
theorem d_M_faults_239 : decode b_M_faults 239 = .ok (.iload 4, 2) := by decide +kernel
theorem d_M_faults_241 : decode b_M_faults 241 = .ok (.iconst 1, 1) := by decide +kernel
theorem d_M_faults_242 : decode b_M_faults 242 = .ok (.invokevirtual 107, 3) := by decide +kernel
theorem d_M_faults_245 : decode b_M_faults 245 = .ok (.istore 5, 2) := by decide +kernel
theorem d_M_faults_247 : decode b_M_faults 247 = .ok (.iload 5, 2) := by decide +kernel
theorem d_M_faults_249 : decode b_M_faults 249 = .ok (.ifCond .lt 49, 3) := by decide +kernel
theorem d_M_faults_252 : decode b_M_faults 252 = .ok (.aload_n 0, 1) := by decide +kernel
theorem d_M_faults_253 : decode b_M_faults 253 = .ok (.getfield 19, 3) := by decide +kernel
theorem d_M_faults_256 : decode b_M_faults 256 = .ok (.iload 4, 2) := by decide +kernel
theorem d_M_faults_258 : decode b_M_faults 258 = .ok (.iaload, 1) := by decide +kernel
theorem d_M_faults_259 : decode b_M_faults 259 = .ok (.ifCond .eq 14, 3) := by decide +kernel
theorem d_M_faults_262 : decode b_M_faults 262 = .ok (.aload_n 0, 1) := by decide +kernel
theorem d_M_faults_263 : decode b_M_faults 263 = .ok (.getfield 19, 3) := by decide +kernel
theorem d_M_faults_266 : decode b_M_faults 266 = .ok (.iload 4, 2) := by decide +kernel
theorem d_M_faults_268 : decode b_M_faults 268 = .ok (.iaload, 1) := by decide +kernel
theorem d_M_faults_269 : decode b_M_faults 269 = .ok (.iload_n 2, 1) := by decide +kernel
theorem d_M_faults_270 : decode b_M_faults 270 = .ok (.if_icmp .ne 28, 3) := by decide +kernel
theorem d_M_faults_273 : decode b_M_faults 273 = .ok (.aload_n 0, 1) := by decide +kernel
theorem d_M_faults_274 : decode b_M_faults 274 = .ok (.bipush 6, 2) := by decide +kernel
theorem d_M_faults_276 : decode b_M_faults 276 = .ok (.iload 4, 2) := by decide +kernel
theorem d_M_faults_278 : decode b_M_faults 278 = .ok (.invokevirtual 186, 3) := by decide +kernel
theorem d_M_faults_281 : decode b_M_faults 281 = .ok (.aload_n 0, 1) := by decide +kernel
theorem d_M_faults_282 : decode b_M_faults 282 = .ok (.iload 4, 2) := by decide +kernel
theorem d_M_faults_284 : decode b_M_faults 284 = .ok (.iconst 5, 1) := by decide +kernel
theorem d_M_faults_285 : decode b_M_faults 285 = .ok (.invokevirtual 183, 3) := by decide +kernel
theorem d_M_faults_288 : decode b_M_faults 288 = .ok (.aload_n 0, 1) := by decide +kernel
theorem d_M_faults_289 : decode b_M_faults 289 = .ok (.iload 5, 2) := by decide +kernel
theorem d_M_faults_291 : decode b_M_faults 291 = .ok (.iconst 1, 1) := by decide +kernel
theorem d_M_faults_292 : decode b_M_faults 292 = .ok (.invokevirtual 183, 3) := by decide +kernel
theorem d_M_faults_295 : decode b_M_faults 295 = .ok (.goto 27, 3) := by decide +kernel
theorem d_M_faults_298 : decode b_M_faults 298 = .ok (.aload_n 0, 1) := by decide +kernel
theorem d_M_faults_299 : decode b_M_faults 299 = .ok (.iload 4, 2) := by decide +kernel
theorem d_M_faults_301 : decode b_M_faults 301 = .ok (.bipush 6, 2) := by decide +kernel
theorem d_M_faults_303 : decode b_M_faults 303 = .ok (.invokevirtual 183, 3) := by decide +kernel
theorem d_M_faults_306 : decode b_M_faults 306 = .ok (.aload_n 0, 1) := by decide +kernel
theorem d_M_faults_307 : decode b_M_faults 307 = .ok (.getfield 67, 3) := by decide +kernel
theorem d_M_faults_310 : decode b_M_faults 310 = .ok (.bipush 24, 2) := by decide +kernel
theorem d_M_faults_312 : decode b_M_faults 312 = .ok (.aload_n 0, 1) := by decide +kernel
theorem d_M_faults_313 : decode b_M_faults 313 = .ok (.getfield 168, 3) := by decide +kernel
theorem d_M_faults_316 : decode b_M_faults 316 = .ok (.imul, 1) := by decide +kernel
theorem d_M_faults_317 : decode b_M_faults 317 = .ok (.iload 4, 2) := by decide +kernel
theorem d_M_faults_319 : decode b_M_faults 319 = .ok (.iadd, 1) := by decide +kernel
theorem d_M_faults_320 : decode b_M_faults 320 = .ok (.iconst 0, 1) := by decide +kernel
theorem d_M_faults_321 : decode b_M_faults 321 = .ok (.bastore, 1) := by decide +kernel
theorem d_M_faults_322 : decode b_M_faults 322 = .ok (.return_, 1) := by decide +kernel
section
variable {p : Program} {l : Launch} {e : Env} {s : State} {m : MethodId} {args : Array Value} {below : List Frame} {meth : Method} {c : Code} {H : Heap} {locs : List Loc} {ls : Array Slot} {D : va_G} {A : Nat → Prop} {h o : Nat → Nat} {t v : Nat → ClassId}
def f_M_faults_298 (x4 : Int32) (u0 : St) : Option (St) :=
  (f_M_put x4 6 u0).bind fun u_23 =>
  (sr_ast 192 u_23 25 ((24 * (u_23 33 0)) + x4) 0).bind fun u_25 =>
  some u_25
set_option maxHeartbeats 4000000 in
set_option maxRecDepth 100000 in
theorem k_M_faults_298 {x4 : Int32} {u0 : St} {u' : St} (X : sr_X D (tM t) b_M_faults 6 R_M w_M_faults p s m args meth c A none) (Z : sr_Z D A s.heap (wM h t u0) H locs) (hl : lv_has ls 6 [(0, .ref (h 0)), (4, .int x4)]) (hf : f_M_faults_298 x4 u0 = some u') : W p l e (sr_rm 2 48) s m args below meth c H locs 0 0 (sr_Qv D (tM t) below args s A (wM h t u')) (F0 m 298 ls []) := by
  have hx := X.1
  have hb := X.2.1
  have hK := X.2.2.2.2.2.2.1
  unfold f_M_faults_298 at hf
  refine lv_aload_n hx hb d_M_faults_298 rfl (lv_at hl 0 rfl) ?_
  refine lv_iload hx hb d_M_faults_299 (lv_at hl 1 rfl) ?_
  refine lv_bipush (v := 6) hx hb d_M_faults_301 (by decide) ?_
  obtain ⟨u_23, e_24, hf⟩ := sr_b hf
  refine sr_cVv (As := [.int x4, .int 6]) (rest := []) X Z sr_cut_self hK (c_M_put e_24) (cw_M_183 X.2.2.2.2.2.1 (by decide)) 0 rfl rfl rfl hl rfl (Nat.le_of_ble_eq_true rfl) d_M_faults_303 (fun H locs Z => ?_)
  refine lv_aload_n hx hb d_M_faults_306 rfl (lv_at hl 0 rfl) ?_
  refine g_M_67_M X Z d_M_faults_307 ?_
  refine lv_bipush (v := 24) hx hb d_M_faults_310 (by decide) ?_
  refine lv_aload_n hx hb d_M_faults_312 rfl (lv_at hl 0 rfl) ?_
  refine g_M_168_M X Z d_M_faults_313 ?_
  refine lv_imul hx hb d_M_faults_316 ?_
  refine lv_iload hx hb d_M_faults_317 (lv_at hl 1 rfl) ?_
  refine lv_iadd hx hb d_M_faults_319 ?_
  refine lv_iconst (v := 0) hx hb d_M_faults_320 (by decide) ?_
  obtain ⟨u_25, e_26, hf⟩ := sr_b hf
  refine sr_zast (wf := (fun q => (wM h t q))) hx hb hK Z 20 19 rfl rfl rfl e_26 (fun _ => rfl) d_M_faults_321 (fun H locs Z => ?_)
  cases hf
  exact sr_retv X Z d_M_faults_322
def f_M_faults_273 (x4 : Int32) (x5 : Int32) (u0 : St) : Option (St) :=
  (f_M_write 6 x4 u0).bind fun u_30 =>
  (f_M_put x4 5 u_30).bind fun u_32 =>
  (f_M_put x5 1 u_32).bind fun u_34 =>
  some u_34
set_option maxHeartbeats 4000000 in
set_option maxRecDepth 100000 in
theorem k_M_faults_273 {x4 : Int32} {x5 : Int32} {u0 : St} {u' : St} (X : sr_X D (tM t) b_M_faults 6 R_M w_M_faults p s m args meth c A none) (Z : sr_Z D A s.heap (wM h t u0) H locs) (hl : lv_has ls 6 [(0, .ref (h 0)), (4, .int x4), (5, .int x5)]) (hf : f_M_faults_273 x4 x5 u0 = some u') : W p l e (sr_rm 2 48) s m args below meth c H locs 0 0 (sr_Qv D (tM t) below args s A (wM h t u')) (F0 m 273 ls []) := by
  have hx := X.1
  have hb := X.2.1
  have hK := X.2.2.2.2.2.2.1
  unfold f_M_faults_273 at hf
  refine lv_aload_n hx hb d_M_faults_273 rfl (lv_at hl 0 rfl) ?_
  refine lv_bipush (v := 6) hx hb d_M_faults_274 (by decide) ?_
  refine lv_iload hx hb d_M_faults_276 (lv_at hl 1 rfl) ?_
  obtain ⟨u_30, e_31, hf⟩ := sr_b hf
  refine sr_cVv (As := [.int 6, .int x4]) (rest := []) X Z sr_cut_self hK (c_M_write e_31) (cw_M_186 X.2.2.2.2.2.1 (by decide)) 0 rfl rfl rfl hl rfl (Nat.le_of_ble_eq_true rfl) d_M_faults_278 (fun H locs Z => ?_)
  refine lv_aload_n hx hb d_M_faults_281 rfl (lv_at hl 0 rfl) ?_
  refine lv_iload hx hb d_M_faults_282 (lv_at hl 1 rfl) ?_
  refine lv_iconst (v := 5) hx hb d_M_faults_284 (by decide) ?_
  obtain ⟨u_32, e_33, hf⟩ := sr_b hf
  refine sr_cVv (As := [.int x4, .int 5]) (rest := []) X Z sr_cut_self hK (c_M_put e_33) (cw_M_183 X.2.2.2.2.2.1 (by decide)) 0 rfl rfl rfl hl rfl (Nat.le_of_ble_eq_true rfl) d_M_faults_285 (fun H locs Z => ?_)
  refine lv_aload_n hx hb d_M_faults_288 rfl (lv_at hl 0 rfl) ?_
  refine lv_iload hx hb d_M_faults_289 (lv_at hl 2 rfl) ?_
  refine lv_iconst (v := 1) hx hb d_M_faults_291 (by decide) ?_
  obtain ⟨u_34, e_35, hf⟩ := sr_b hf
  refine sr_cVv (As := [.int x5, .int 1]) (rest := []) X Z sr_cut_self hK (c_M_put e_35) (cw_M_183 X.2.2.2.2.2.1 (by decide)) 0 rfl rfl rfl hl rfl (Nat.le_of_ble_eq_true rfl) d_M_faults_292 (fun H locs Z => ?_)
  refine lv_goto (tgt := 322) hx hb d_M_faults_295 rfl ?_
  cases hf
  exact sr_retv X Z d_M_faults_322
def f_M_faults_161 (k83 : Int32 → Int32 → Int32 → Int32 → St → Option (St)) (x2 : Int32) (x3 : Int32) (x4 : Int32) (x5 : Int32) (u0 : St) : Option (St) :=
  k83 x2 x3 x4 (x5 + 1) u0
set_option maxHeartbeats 4000000 in
set_option maxRecDepth 100000 in
theorem k_M_faults_161 {k83 : Int32 → Int32 → Int32 → Int32 → St → Option (St)} {x2 : Int32} {x3 : Int32} {x4 : Int32} {x5 : Int32} {u0 : St} {u' : St} (X : sr_X D (tM t) b_M_faults 6 R_M w_M_faults p s m args meth c A none) (hk83 : ∀ (x2 : Int32) (x3 : Int32) (x4 : Int32) (x5 : Int32) (u0 : St) (H : Heap) (locs : List Loc) (ls : Array Slot), sr_Z D A s.heap (wM h t u0) H locs → lv_has ls 6 [(0, .ref (h 0)), (2, .int x2), (3, .int x3), (4, .int x4), (5, .int x5)] → k83 x2 x3 x4 x5 u0 = some u' → W p l e (sr_rm 2 48) s m args below meth c H locs 0 0 (sr_Qv D (tM t) below args s A (wM h t u')) (F0 m 83 ls [])) (Z : sr_Z D A s.heap (wM h t u0) H locs) (hl : lv_has ls 6 [(0, .ref (h 0)), (2, .int x2), (3, .int x3), (4, .int x4), (5, .int x5)]) (hf : f_M_faults_161 k83 x2 x3 x4 x5 u0 = some u') : W p l e (sr_rm 2 48) s m args below meth c H locs 0 0 (sr_Qv D (tM t) below args s A (wM h t u')) (F0 m 161 ls []) := by
  have hx := X.1
  have hb := X.2.1
  have hK := X.2.2.2.2.2.2.1
  unfold f_M_faults_161 at hf
  refine lv_iinc (k := 4) (v := x5 + 1) (lv' := [(5, .int (x5 + 1)), (0, .ref (h 0)), (2, .int x2), (3, .int x3), (4, .int x4)]) hx hb d_M_faults_161 hl rfl rfl (by decide) rfl (fun ls hl => ?_)
  refine lv_goto (tgt := 83) hx hb d_M_faults_164 rfl ?_
  exact hk83 x2 x3 x4 (x5 + 1) u0 _ _ _ Z (lv_sub hl [1, 2, 3, 4, 0] rfl) hf
def f_M_faults_108 (k83 : Int32 → Int32 → Int32 → Int32 → St → Option (St)) (x2 : Int32) (x3 : Int32) (x4 : Int32) (x5 : Int32) (u0 : St) : Option (St) :=
  (f_M_active u0 x5).bind fun v_46 =>
  if v_46 = 0 then
    f_M_faults_161 k83 x2 x3 x4 x5 u0
  else
    (f_M_put x5 11 u0).bind fun u_49 =>
    (f_M_write 5 x5 u_49).bind fun u_51 =>
    (sr_ald 24 (u_51 3) x5).bind fun v_53 =>
    if v_53 = 12 then
      (sr_ald 24 (u_51 2) x3).bind fun v_56 =>
      if v_56 = 0 then
        (f_M_carry x5 x4 u_51).bind fun u_59 =>
        f_M_faults_161 k83 x2 x3 x4 x5 u_59
      else
        f_M_faults_161 k83 x2 x3 x4 x5 u_51
    else
      f_M_faults_161 k83 x2 x3 x4 x5 u_51
set_option maxHeartbeats 4000000 in
set_option maxRecDepth 100000 in
theorem k_M_faults_108 {k83 : Int32 → Int32 → Int32 → Int32 → St → Option (St)} {x2 : Int32} {x3 : Int32} {x4 : Int32} {x5 : Int32} {u0 : St} {u' : St} (X : sr_X D (tM t) b_M_faults 6 R_M w_M_faults p s m args meth c A none) (hk83 : ∀ (x2 : Int32) (x3 : Int32) (x4 : Int32) (x5 : Int32) (u0 : St) (H : Heap) (locs : List Loc) (ls : Array Slot), sr_Z D A s.heap (wM h t u0) H locs → lv_has ls 6 [(0, .ref (h 0)), (2, .int x2), (3, .int x3), (4, .int x4), (5, .int x5)] → k83 x2 x3 x4 x5 u0 = some u' → W p l e (sr_rm 2 48) s m args below meth c H locs 0 0 (sr_Qv D (tM t) below args s A (wM h t u')) (F0 m 83 ls [])) (Z : sr_Z D A s.heap (wM h t u0) H locs) (hl : lv_has ls 6 [(0, .ref (h 0)), (2, .int x2), (3, .int x3), (4, .int x4), (5, .int x5)]) (hf : f_M_faults_108 k83 x2 x3 x4 x5 u0 = some u') : W p l e (sr_rm 2 48) s m args below meth c H locs 0 0 (sr_Qv D (tM t) below args s A (wM h t u')) (F0 m 108 ls []) := by
  have hx := X.1
  have hb := X.2.1
  have hK := X.2.2.2.2.2.2.1
  unfold f_M_faults_108 at hf
  refine lv_aload_n hx hb d_M_faults_108 rfl (lv_at hl 0 rfl) ?_
  refine lv_iload hx hb d_M_faults_109 (lv_at hl 4 rfl) ?_
  obtain ⟨v_46, e_47, hf⟩ := sr_b hf
  refine sr_cVi (As := [.int x5]) (rest := []) X Z sr_cut_self hK (c_M_active e_47) (cw_M_219 X.2.2.2.2.2.1 (by decide)) 0 rfl rfl rfl hl rfl (Nat.le_of_ble_eq_true rfl) d_M_faults_111 (fun H locs Z => ?_)
  refine lv_if_eq (tgt := 161) hx hb d_M_faults_114 rfl (fun q_48 => ?_) (fun q_48 => ?_)
  · have hf := sr_it q_48 hf
    exact k_M_faults_161 X hk83 Z (lv_sub hl [0, 1, 2, 3, 4] rfl) hf
  · have hf := sr_if q_48 hf
    refine lv_aload_n hx hb d_M_faults_117 rfl (lv_at hl 0 rfl) ?_
    refine lv_iload hx hb d_M_faults_118 (lv_at hl 4 rfl) ?_
    refine lv_bipush (v := 11) hx hb d_M_faults_120 (by decide) ?_
    obtain ⟨u_49, e_50, hf⟩ := sr_b hf
    refine sr_cVv (As := [.int x5, .int 11]) (rest := []) X Z sr_cut_self hK (c_M_put e_50) (cw_M_183 X.2.2.2.2.2.1 (by decide)) 0 rfl rfl rfl hl rfl (Nat.le_of_ble_eq_true rfl) d_M_faults_122 (fun H locs Z => ?_)
    refine lv_aload_n hx hb d_M_faults_125 rfl (lv_at hl 0 rfl) ?_
    refine lv_iconst (v := 5) hx hb d_M_faults_126 (by decide) ?_
    refine lv_iload hx hb d_M_faults_127 (lv_at hl 4 rfl) ?_
    obtain ⟨u_51, e_52, hf⟩ := sr_b hf
    refine sr_cVv (As := [.int 5, .int x5]) (rest := []) X Z sr_cut_self hK (c_M_write e_52) (cw_M_186 X.2.2.2.2.2.1 (by decide)) 0 rfl rfl rfl hl rfl (Nat.le_of_ble_eq_true rfl) d_M_faults_129 (fun H locs Z => ?_)
    refine lv_aload_n hx hb d_M_faults_132 rfl (lv_at hl 0 rfl) ?_
    refine g_M_16_M X Z d_M_faults_133 ?_
    refine lv_iload hx hb d_M_faults_136 (lv_at hl 4 rfl) ?_
    obtain ⟨v_53, e_54, hf⟩ := sr_b hf
    refine sr_iald hx hb hK Z 3 2 rfl rfl e_54 d_M_faults_138 ?_
    refine lv_bipush (v := 12) hx hb d_M_faults_139 (by decide) ?_
    refine lv_icmp_ne (tgt := 161) hx hb d_M_faults_141 rfl (fun q_55 => ?_) (fun q_55 => ?_)
    · have hf := sr_if q_55 hf
      exact k_M_faults_161 X hk83 Z (lv_sub hl [0, 1, 2, 3, 4] rfl) hf
    · have hf := sr_it q_55 hf
      refine lv_aload_n hx hb d_M_faults_144 rfl (lv_at hl 0 rfl) ?_
      refine g_M_13_M X Z d_M_faults_145 ?_
      refine lv_iload_n hx hb d_M_faults_148 rfl (lv_at hl 2 rfl) ?_
      obtain ⟨v_56, e_57, hf⟩ := sr_b hf
      refine sr_iald hx hb hK Z 2 1 rfl rfl e_57 d_M_faults_149 ?_
      refine lv_if_ne (tgt := 161) hx hb d_M_faults_150 rfl (fun q_58 => ?_) (fun q_58 => ?_)
      · have hf := sr_if q_58 hf
        exact k_M_faults_161 X hk83 Z (lv_sub hl [0, 1, 2, 3, 4] rfl) hf
      · have hf := sr_it q_58 hf
        refine lv_aload_n hx hb d_M_faults_153 rfl (lv_at hl 0 rfl) ?_
        refine lv_iload hx hb d_M_faults_154 (lv_at hl 4 rfl) ?_
        refine lv_iload hx hb d_M_faults_156 (lv_at hl 3 rfl) ?_
        obtain ⟨u_59, e_60, hf⟩ := sr_b hf
        refine sr_cVv (As := [.int x5, .int x4]) (rest := []) X Z sr_cut_self hK (c_M_carry e_60) (cw_M_213 X.2.2.2.2.2.1 (by decide)) 0 rfl rfl rfl hl rfl (Nat.le_of_ble_eq_true rfl) d_M_faults_158 (fun H locs Z => ?_)
        exact k_M_faults_161 X hk83 Z (lv_sub hl [0, 1, 2, 3, 4] rfl) hf
def f_M_faults_83 (k83 : Int32 → Int32 → Int32 → Int32 → St → Option (St)) (x2 : Int32) (x3 : Int32) (x4 : Int32) (x5 : Int32) (u0 : St) : Option (St) :=
  if (u0 0 0) ≤ x5 then
    (sr_ald 24 (u0 2) x3).bind fun v_10 =>
    if v_10 = 1 then
      (f_M_carry x4 (-1) u0).bind fun u_41 =>
      (f_M_then 3 x4 x2 u_41).bind fun u_43 =>
      some u_43
    else
      (sr_ald 24 (u0 2) x3).bind fun v_13 =>
      if v_13 = 2 then
        (f_M_then 4 x4 x2 u0).bind fun u_39 =>
        some u_39
      else
        (f_M_setLinks x3 1 u0).bind fun u_16 =>
        (sr_ast 192 u_16 23 ((24 * (u_16 33 0)) + x4) x2).bind fun u_18 =>
        (f_M_inRole u_18 x4 1).bind fun v_20 =>
        if v_20 < 0 then
          f_M_faults_298 x4 u_18
        else
          (sr_ald 24 (u_18 4) x4).bind fun v_27 =>
          if v_27 = 0 then
            f_M_faults_273 x4 v_20 u_18
          else
            (sr_ald 24 (u_18 4) x4).bind fun v_36 =>
            if v_36 = x2 then
              f_M_faults_273 x4 v_20 u_18
            else
              f_M_faults_298 x4 u_18
  else
    if x5 = x3 then
      f_M_faults_108 k83 x2 x3 x4 x5 u0
    else
      (f_M_below u0 x5 x3).bind fun v_61 =>
      if v_61 = 0 then
        f_M_faults_161 k83 x2 x3 x4 x5 u0
      else
        f_M_faults_108 k83 x2 x3 x4 x5 u0
set_option maxHeartbeats 4000000 in
set_option maxRecDepth 100000 in
theorem k_M_faults_83 {k83 : Int32 → Int32 → Int32 → Int32 → St → Option (St)} {x2 : Int32} {x3 : Int32} {x4 : Int32} {x5 : Int32} {u0 : St} {u' : St} (X : sr_X D (tM t) b_M_faults 6 R_M w_M_faults p s m args meth c A none) (hk83 : ∀ (x2 : Int32) (x3 : Int32) (x4 : Int32) (x5 : Int32) (u0 : St) (H : Heap) (locs : List Loc) (ls : Array Slot), sr_Z D A s.heap (wM h t u0) H locs → lv_has ls 6 [(0, .ref (h 0)), (2, .int x2), (3, .int x3), (4, .int x4), (5, .int x5)] → k83 x2 x3 x4 x5 u0 = some u' → W p l e (sr_rm 2 48) s m args below meth c H locs 0 0 (sr_Qv D (tM t) below args s A (wM h t u')) (F0 m 83 ls [])) (Z : sr_Z D A s.heap (wM h t u0) H locs) (hl : lv_has ls 6 [(0, .ref (h 0)), (2, .int x2), (3, .int x3), (4, .int x4), (5, .int x5)]) (hf : f_M_faults_83 k83 x2 x3 x4 x5 u0 = some u') : W p l e (sr_rm 2 48) s m args below meth c H locs 0 0 (sr_Qv D (tM t) below args s A (wM h t u')) (F0 m 83 ls []) := by
  have hx := X.1
  have hb := X.2.1
  have hK := X.2.2.2.2.2.2.1
  unfold f_M_faults_83 at hf
  refine lv_iload hx hb d_M_faults_83 (lv_at hl 4 rfl) ?_
  refine lv_aload_n hx hb d_M_faults_85 rfl (lv_at hl 0 rfl) ?_
  refine g_M_100_M X Z d_M_faults_86 ?_
  refine lv_icmp_ge (tgt := 167) hx hb d_M_faults_89 rfl (fun q_9 => ?_) (fun q_9 => ?_)
  · have hf := sr_it q_9 hf
    refine lv_aload_n hx hb d_M_faults_167 rfl (lv_at hl 0 rfl) ?_
    refine g_M_13_M X Z d_M_faults_168 ?_
    refine lv_iload_n hx hb d_M_faults_171 rfl (lv_at hl 2 rfl) ?_
    obtain ⟨v_10, e_11, hf⟩ := sr_b hf
    refine sr_iald hx hb hK Z 2 1 rfl rfl e_11 d_M_faults_172 ?_
    refine lv_iconst (v := 1) hx hb d_M_faults_173 (by decide) ?_
    refine lv_icmp_ne (tgt := 195) hx hb d_M_faults_174 rfl (fun q_12 => ?_) (fun q_12 => ?_)
    · have hf := sr_if q_12 hf
      refine lv_aload_n hx hb d_M_faults_195 rfl (lv_at hl 0 rfl) ?_
      refine g_M_13_M X Z d_M_faults_196 ?_
      refine lv_iload_n hx hb d_M_faults_199 rfl (lv_at hl 2 rfl) ?_
      obtain ⟨v_13, e_14, hf⟩ := sr_b hf
      refine sr_iald hx hb hK Z 2 1 rfl rfl e_14 d_M_faults_200 ?_
      refine lv_iconst (v := 2) hx hb d_M_faults_201 (by decide) ?_
      refine lv_icmp_ne (tgt := 216) hx hb d_M_faults_202 rfl (fun q_15 => ?_) (fun q_15 => ?_)
      · have hf := sr_if q_15 hf
        refine lv_aload_n hx hb d_M_faults_216 rfl (lv_at hl 0 rfl) ?_
        refine lv_iload_n hx hb d_M_faults_217 rfl (lv_at hl 2 rfl) ?_
        refine lv_iconst (v := 1) hx hb d_M_faults_218 (by decide) ?_
        obtain ⟨u_16, e_17, hf⟩ := sr_b hf
        refine sr_cVv (As := [.int x3, .int 1]) (rest := []) X Z sr_cut_self hK (c_M_setLinks e_17) (cw_M_189 X.2.2.2.2.2.1 (by decide)) 0 rfl rfl rfl hl rfl (Nat.le_of_ble_eq_true rfl) d_M_faults_219 (fun H locs Z => ?_)
        refine lv_aload_n hx hb d_M_faults_222 rfl (lv_at hl 0 rfl) ?_
        refine g_M_61_M X Z d_M_faults_223 ?_
        refine lv_bipush (v := 24) hx hb d_M_faults_226 (by decide) ?_
        refine lv_aload_n hx hb d_M_faults_228 rfl (lv_at hl 0 rfl) ?_
        refine g_M_168_M X Z d_M_faults_229 ?_
        refine lv_imul hx hb d_M_faults_232 ?_
        refine lv_iload hx hb d_M_faults_233 (lv_at hl 3 rfl) ?_
        refine lv_iadd hx hb d_M_faults_235 ?_
        refine lv_iload_n hx hb d_M_faults_236 rfl (lv_at hl 1 rfl) ?_
        obtain ⟨u_18, e_19, hf⟩ := sr_b hf
        refine sr_iast (wf := (fun q => (wM h t q))) hx hb hK Z 18 17 rfl rfl e_19 (fun _ => rfl) d_M_faults_237 (fun H locs Z => ?_)
        refine lv_aload_n hx hb d_M_faults_238 rfl (lv_at hl 0 rfl) ?_
        refine lv_iload hx hb d_M_faults_239 (lv_at hl 3 rfl) ?_
        refine lv_iconst (v := 1) hx hb d_M_faults_241 (by decide) ?_
        obtain ⟨v_20, e_21, hf⟩ := sr_b hf
        refine sr_cVi (As := [.int x4, .int 1]) (rest := []) X Z sr_cut_self hK (c_M_inRole e_21) (cw_M_107 X.2.2.2.2.2.1 (by decide)) 0 rfl rfl rfl hl rfl (Nat.le_of_ble_eq_true rfl) d_M_faults_242 (fun H locs Z => ?_)
        refine lv_istore (lv' := [(5, .int v_20), (0, .ref (h 0)), (2, .int x2), (3, .int x3), (4, .int x4)]) hx hb d_M_faults_245 hl (by decide) rfl (fun ls hl => ?_)
        refine lv_iload hx hb d_M_faults_247 (lv_at hl 0 rfl) ?_
        refine lv_if_lt (tgt := 298) hx hb d_M_faults_249 rfl (fun q_22 => ?_) (fun q_22 => ?_)
        · have hf := sr_it q_22 hf
          exact k_M_faults_298 X Z (lv_sub hl [1, 4] rfl) hf
        · have hf := sr_if q_22 hf
          refine lv_aload_n hx hb d_M_faults_252 rfl (lv_at hl 1 rfl) ?_
          refine g_M_19_M X Z d_M_faults_253 ?_
          refine lv_iload hx hb d_M_faults_256 (lv_at hl 4 rfl) ?_
          obtain ⟨v_27, e_28, hf⟩ := sr_b hf
          refine sr_iald hx hb hK Z 4 3 rfl rfl e_28 d_M_faults_258 ?_
          refine lv_if_eq (tgt := 273) hx hb d_M_faults_259 rfl (fun q_29 => ?_) (fun q_29 => ?_)
          · have hf := sr_it q_29 hf
            exact k_M_faults_273 X Z (lv_sub hl [1, 4, 0] rfl) hf
          · have hf := sr_if q_29 hf
            refine lv_aload_n hx hb d_M_faults_262 rfl (lv_at hl 1 rfl) ?_
            refine g_M_19_M X Z d_M_faults_263 ?_
            refine lv_iload hx hb d_M_faults_266 (lv_at hl 4 rfl) ?_
            obtain ⟨v_36, e_37, hf⟩ := sr_b hf
            refine sr_iald hx hb hK Z 4 3 rfl rfl e_37 d_M_faults_268 ?_
            refine lv_iload_n hx hb d_M_faults_269 rfl (lv_at hl 2 rfl) ?_
            refine lv_icmp_ne (tgt := 298) hx hb d_M_faults_270 rfl (fun q_38 => ?_) (fun q_38 => ?_)
            · have hf := sr_if q_38 hf
              exact k_M_faults_298 X Z (lv_sub hl [1, 4] rfl) hf
            · have hf := sr_it q_38 hf
              exact k_M_faults_273 X Z (lv_sub hl [1, 4, 0] rfl) hf
      · have hf := sr_it q_15 hf
        refine lv_aload_n hx hb d_M_faults_205 rfl (lv_at hl 0 rfl) ?_
        refine lv_iconst (v := 4) hx hb d_M_faults_206 (by decide) ?_
        refine lv_iload hx hb d_M_faults_207 (lv_at hl 3 rfl) ?_
        refine lv_iload_n hx hb d_M_faults_209 rfl (lv_at hl 1 rfl) ?_
        obtain ⟨u_39, e_40, hf⟩ := sr_b hf
        refine sr_cVv (As := [.int 4, .int x4, .int x2]) (rest := []) X Z sr_cut_self hK (c_M_then e_40) (cw_M_209 X.2.2.2.2.2.1 (by decide)) 0 rfl rfl rfl hl rfl (Nat.le_of_ble_eq_true rfl) d_M_faults_210 (fun H locs Z => ?_)
        refine lv_goto (tgt := 322) hx hb d_M_faults_213 rfl ?_
        cases hf
        exact sr_retv X Z d_M_faults_322
    · have hf := sr_it q_12 hf
      refine lv_aload_n hx hb d_M_faults_177 rfl (lv_at hl 0 rfl) ?_
      refine lv_iload hx hb d_M_faults_178 (lv_at hl 3 rfl) ?_
      refine lv_iconst (v := -1) hx hb d_M_faults_180 (by decide) ?_
      obtain ⟨u_41, e_42, hf⟩ := sr_b hf
      refine sr_cVv (As := [.int x4, .int (-1)]) (rest := []) X Z sr_cut_self hK (c_M_carry e_42) (cw_M_213 X.2.2.2.2.2.1 (by decide)) 0 rfl rfl rfl hl rfl (Nat.le_of_ble_eq_true rfl) d_M_faults_181 (fun H locs Z => ?_)
      refine lv_aload_n hx hb d_M_faults_184 rfl (lv_at hl 0 rfl) ?_
      refine lv_iconst (v := 3) hx hb d_M_faults_185 (by decide) ?_
      refine lv_iload hx hb d_M_faults_186 (lv_at hl 3 rfl) ?_
      refine lv_iload_n hx hb d_M_faults_188 rfl (lv_at hl 1 rfl) ?_
      obtain ⟨u_43, e_44, hf⟩ := sr_b hf
      refine sr_cVv (As := [.int 3, .int x4, .int x2]) (rest := []) X Z sr_cut_self hK (c_M_then e_44) (cw_M_209 X.2.2.2.2.2.1 (by decide)) 0 rfl rfl rfl hl rfl (Nat.le_of_ble_eq_true rfl) d_M_faults_189 (fun H locs Z => ?_)
      refine lv_goto (tgt := 322) hx hb d_M_faults_192 rfl ?_
      cases hf
      exact sr_retv X Z d_M_faults_322
  · have hf := sr_if q_9 hf
    refine lv_iload hx hb d_M_faults_92 (lv_at hl 4 rfl) ?_
    refine lv_iload_n hx hb d_M_faults_94 rfl (lv_at hl 2 rfl) ?_
    refine lv_icmp_eq (tgt := 108) hx hb d_M_faults_95 rfl (fun q_45 => ?_) (fun q_45 => ?_)
    · have hf := sr_it q_45 hf
      exact k_M_faults_108 X hk83 Z (lv_sub hl [0, 1, 2, 3, 4] rfl) hf
    · have hf := sr_if q_45 hf
      refine lv_aload_n hx hb d_M_faults_98 rfl (lv_at hl 0 rfl) ?_
      refine lv_iload hx hb d_M_faults_99 (lv_at hl 4 rfl) ?_
      refine lv_iload_n hx hb d_M_faults_101 rfl (lv_at hl 2 rfl) ?_
      obtain ⟨v_61, e_62, hf⟩ := sr_b hf
      refine sr_cVi (As := [.int x5, .int x3]) (rest := []) X Z sr_cut_self hK (c_M_below e_62) (cw_M_125 X.2.2.2.2.2.1 (by decide)) 0 rfl rfl rfl hl rfl (Nat.le_of_ble_eq_true rfl) d_M_faults_102 (fun H locs Z => ?_)
      refine lv_if_eq (tgt := 161) hx hb d_M_faults_105 rfl (fun q_63 => ?_) (fun q_63 => ?_)
      · have hf := sr_it q_63 hf
        exact k_M_faults_161 X hk83 Z (lv_sub hl [0, 1, 2, 3, 4] rfl) hf
      · have hf := sr_if q_63 hf
        exact k_M_faults_108 X hk83 Z (lv_sub hl [0, 1, 2, 3, 4] rfl) hf
def f_M_faults_83_it : Nat → Int32 → Int32 → Int32 → Int32 → St → Option (St)
  | 0 => fun _ _ _ _ _ => none
  | n + 1 => fun x2 x3 x4 x5 u0 => f_M_faults_83 (f_M_faults_83_it n) x2 x3 x4 x5 u0
set_option maxHeartbeats 4000000 in
set_option maxRecDepth 100000 in
theorem k_M_faults_83_it {u' : St} (X : sr_X D (tM t) b_M_faults 6 R_M w_M_faults p s m args meth c A none) (n : Nat) : ∀ {x2 : Int32} {x3 : Int32} {x4 : Int32} {x5 : Int32} {u0 : St} {H : Heap} {locs : List Loc} {ls : Array Slot}, sr_Z D A s.heap (wM h t u0) H locs → lv_has ls 6 [(0, .ref (h 0)), (2, .int x2), (3, .int x3), (4, .int x4), (5, .int x5)] → f_M_faults_83_it n x2 x3 x4 x5 u0 = some u' → W p l e (sr_rm 2 48) s m args below meth c H locs 0 0 (sr_Qv D (tM t) below args s A (wM h t u')) (F0 m 83 ls []) := by
  induction n with
  | zero => intro x2 x3 x4 x5 u0 H locs ls Z hl hf; exact absurd hf (by simp [f_M_faults_83_it])
  | succ n ih =>
    intro x2 x3 x4 x5 u0 H locs ls Z hl hf
    exact k_M_faults_83 X (fun x2 x3 x4 x5 u0 H locs ls Z hl hf => ih Z hl hf) Z hl hf
def f_M_faults_72 (x2 : Int32) (x3 : Int32) (u0 : St) : Option (St) :=
  (sr_ald 24 (u0 1) x3).bind fun v_7 =>
  f_M_faults_83_it 60 x2 x3 v_7 0 u0
set_option maxHeartbeats 4000000 in
set_option maxRecDepth 100000 in
theorem k_M_faults_72 {x2 : Int32} {x3 : Int32} {u0 : St} {u' : St} (X : sr_X D (tM t) b_M_faults 6 R_M w_M_faults p s m args meth c A none) (Z : sr_Z D A s.heap (wM h t u0) H locs) (hl : lv_has ls 6 [(0, .ref (h 0)), (2, .int x2), (3, .int x3)]) (hf : f_M_faults_72 x2 x3 u0 = some u') : W p l e (sr_rm 2 48) s m args below meth c H locs 0 0 (sr_Qv D (tM t) below args s A (wM h t u')) (F0 m 72 ls []) := by
  have hx := X.1
  have hb := X.2.1
  have hK := X.2.2.2.2.2.2.1
  unfold f_M_faults_72 at hf
  refine lv_aload_n hx hb d_M_faults_72 rfl (lv_at hl 0 rfl) ?_
  refine g_M_7_M X Z d_M_faults_73 ?_
  refine lv_iload_n hx hb d_M_faults_76 rfl (lv_at hl 2 rfl) ?_
  obtain ⟨v_7, e_8, hf⟩ := sr_b hf
  refine sr_iald hx hb hK Z 1 0 rfl rfl e_8 d_M_faults_77 ?_
  refine lv_istore (lv' := [(4, .int v_7), (0, .ref (h 0)), (2, .int x2), (3, .int x3)]) hx hb d_M_faults_78 hl (by decide) rfl (fun ls hl => ?_)
  refine lv_iconst (v := 0) hx hb d_M_faults_80 (by decide) ?_
  refine lv_istore (lv' := [(5, .int 0), (4, .int v_7), (0, .ref (h 0)), (2, .int x2), (3, .int x3)]) hx hb d_M_faults_81 hl (by decide) rfl (fun ls hl => ?_)
  exact k_M_faults_83_it X _ Z (lv_sub hl [2, 3, 4, 1, 0] rfl) hf
def f_M_faults_36 (k36 : Int32 → Int32 → Int32 → St → Option (St)) (x2 : Int32) (x3 : Int32) (x4 : Int32) (u0 : St) : Option (St) :=
  if 24 ≤ x4 then
    f_M_faults_72 x2 x3 u0
  else
    (sr_ald 24 (u0 1) x3).bind fun v_64 =>
    (sr_ald 24 (u0 3) v_64).bind fun v_66 =>
    if v_66 = 12 then
      f_M_faults_72 x2 x3 u0
    else
      (sr_ald 24 (u0 1) x3).bind fun v_69 =>
      k36 x2 v_69 (x4 + 1) u0
set_option maxHeartbeats 4000000 in
set_option maxRecDepth 100000 in
theorem k_M_faults_36 {k36 : Int32 → Int32 → Int32 → St → Option (St)} {x2 : Int32} {x3 : Int32} {x4 : Int32} {u0 : St} {u' : St} (X : sr_X D (tM t) b_M_faults 6 R_M w_M_faults p s m args meth c A none) (hk36 : ∀ (x2 : Int32) (x3 : Int32) (x4 : Int32) (u0 : St) (H : Heap) (locs : List Loc) (ls : Array Slot), sr_Z D A s.heap (wM h t u0) H locs → lv_has ls 6 [(0, .ref (h 0)), (2, .int x2), (3, .int x3), (4, .int x4)] → k36 x2 x3 x4 u0 = some u' → W p l e (sr_rm 2 48) s m args below meth c H locs 0 0 (sr_Qv D (tM t) below args s A (wM h t u')) (F0 m 36 ls [])) (Z : sr_Z D A s.heap (wM h t u0) H locs) (hl : lv_has ls 6 [(0, .ref (h 0)), (2, .int x2), (3, .int x3), (4, .int x4)]) (hf : f_M_faults_36 k36 x2 x3 x4 u0 = some u') : W p l e (sr_rm 2 48) s m args below meth c H locs 0 0 (sr_Qv D (tM t) below args s A (wM h t u')) (F0 m 36 ls []) := by
  have hx := X.1
  have hb := X.2.1
  have hK := X.2.2.2.2.2.2.1
  unfold f_M_faults_36 at hf
  refine lv_iload hx hb d_M_faults_36 (lv_at hl 3 rfl) ?_
  refine lv_bipush (v := 24) hx hb d_M_faults_38 (by decide) ?_
  refine lv_icmp_ge (tgt := 72) hx hb d_M_faults_40 rfl (fun q_6 => ?_) (fun q_6 => ?_)
  · have hf := sr_it q_6 hf
    exact k_M_faults_72 X Z (lv_sub hl [0, 1, 2] rfl) hf
  · have hf := sr_if q_6 hf
    refine lv_aload_n hx hb d_M_faults_43 rfl (lv_at hl 0 rfl) ?_
    refine g_M_16_M X Z d_M_faults_44 ?_
    refine lv_aload_n hx hb d_M_faults_47 rfl (lv_at hl 0 rfl) ?_
    refine g_M_7_M X Z d_M_faults_48 ?_
    refine lv_iload_n hx hb d_M_faults_51 rfl (lv_at hl 2 rfl) ?_
    obtain ⟨v_64, e_65, hf⟩ := sr_b hf
    refine sr_iald hx hb hK Z 1 0 rfl rfl e_65 d_M_faults_52 ?_
    obtain ⟨v_66, e_67, hf⟩ := sr_b hf
    refine sr_iald hx hb hK Z 3 2 rfl rfl e_67 d_M_faults_53 ?_
    refine lv_bipush (v := 12) hx hb d_M_faults_54 (by decide) ?_
    refine lv_icmp_eq (tgt := 72) hx hb d_M_faults_56 rfl (fun q_68 => ?_) (fun q_68 => ?_)
    · have hf := sr_it q_68 hf
      exact k_M_faults_72 X Z (lv_sub hl [0, 1, 2] rfl) hf
    · have hf := sr_if q_68 hf
      refine lv_aload_n hx hb d_M_faults_59 rfl (lv_at hl 0 rfl) ?_
      refine g_M_7_M X Z d_M_faults_60 ?_
      refine lv_iload_n hx hb d_M_faults_63 rfl (lv_at hl 2 rfl) ?_
      obtain ⟨v_69, e_70, hf⟩ := sr_b hf
      refine sr_iald hx hb hK Z 1 0 rfl rfl e_70 d_M_faults_64 ?_
      refine lv_istore_n (lv' := [(3, .int v_69), (0, .ref (h 0)), (2, .int x2), (4, .int x4)]) hx hb d_M_faults_65 rfl hl (by decide) rfl (fun ls hl => ?_)
      refine lv_iinc (k := 3) (v := x4 + 1) (lv' := [(4, .int (x4 + 1)), (3, .int v_69), (0, .ref (h 0)), (2, .int x2)]) hx hb d_M_faults_66 hl rfl rfl (by decide) rfl (fun ls hl => ?_)
      refine lv_goto (tgt := 36) hx hb d_M_faults_69 rfl ?_
      exact hk36 x2 v_69 (x4 + 1) u0 _ _ _ Z (lv_sub hl [2, 3, 1, 0] rfl) hf
def f_M_faults_36_it : Nat → Int32 → Int32 → Int32 → St → Option (St)
  | 0 => fun _ _ _ _ => none
  | n + 1 => fun x2 x3 x4 u0 => f_M_faults_36 (f_M_faults_36_it n) x2 x3 x4 u0
set_option maxHeartbeats 4000000 in
set_option maxRecDepth 100000 in
theorem k_M_faults_36_it {u' : St} (X : sr_X D (tM t) b_M_faults 6 R_M w_M_faults p s m args meth c A none) (n : Nat) : ∀ {x2 : Int32} {x3 : Int32} {x4 : Int32} {u0 : St} {H : Heap} {locs : List Loc} {ls : Array Slot}, sr_Z D A s.heap (wM h t u0) H locs → lv_has ls 6 [(0, .ref (h 0)), (2, .int x2), (3, .int x3), (4, .int x4)] → f_M_faults_36_it n x2 x3 x4 u0 = some u' → W p l e (sr_rm 2 48) s m args below meth c H locs 0 0 (sr_Qv D (tM t) below args s A (wM h t u')) (F0 m 36 ls []) := by
  induction n with
  | zero => intro x2 x3 x4 u0 H locs ls Z hl hf; exact absurd hf (by simp [f_M_faults_36_it])
  | succ n ih =>
    intro x2 x3 x4 u0 H locs ls Z hl hf
    exact k_M_faults_36 X (fun x2 x3 x4 u0 H locs ls Z hl hf => ih Z hl hf) Z hl hf
def f_M_faults (x1 : Int32) (x2 : Int32) (u0 : St) : Option (St) :=
  (f_M_put x1 10 u0).bind fun u_1 =>
  (f_M_write 4 x1 u_1).bind fun u_3 =>
  if x1 = 0 then
    (sr_ast 8 u_3 17 (u_3 33 0) (10 + x2)).bind fun u_71 =>
    some u_71
  else
    f_M_faults_36_it 60 x2 x1 0 u_3
set_option maxHeartbeats 4000000 in
set_option maxRecDepth 100000 in
theorem k_M_faults_0 {x1 : Int32} {x2 : Int32} {u0 : St} {u' : St} (X : sr_X D (tM t) b_M_faults 6 R_M w_M_faults p s m args meth c A none) (Z : sr_Z D A s.heap (wM h t u0) H locs) (hl : lv_has ls 6 [(0, .ref (h 0)), (1, .int x1), (2, .int x2)]) (hf : f_M_faults x1 x2 u0 = some u') : W p l e (sr_rm 2 48) s m args below meth c H locs 0 0 (sr_Qv D (tM t) below args s A (wM h t u')) (F0 m 0 ls []) := by
  have hx := X.1
  have hb := X.2.1
  have hK := X.2.2.2.2.2.2.1
  unfold f_M_faults at hf
  refine lv_aload_n hx hb d_M_faults_0 rfl (lv_at hl 0 rfl) ?_
  refine lv_iload_n hx hb d_M_faults_1 rfl (lv_at hl 1 rfl) ?_
  refine lv_bipush (v := 10) hx hb d_M_faults_2 (by decide) ?_
  obtain ⟨u_1, e_2, hf⟩ := sr_b hf
  refine sr_cVv (As := [.int x1, .int 10]) (rest := []) X Z sr_cut_self hK (c_M_put e_2) (cw_M_183 X.2.2.2.2.2.1 (by decide)) 0 rfl rfl rfl hl rfl (Nat.le_of_ble_eq_true rfl) d_M_faults_4 (fun H locs Z => ?_)
  refine lv_aload_n hx hb d_M_faults_7 rfl (lv_at hl 0 rfl) ?_
  refine lv_iconst (v := 4) hx hb d_M_faults_8 (by decide) ?_
  refine lv_iload_n hx hb d_M_faults_9 rfl (lv_at hl 1 rfl) ?_
  obtain ⟨u_3, e_4, hf⟩ := sr_b hf
  refine sr_cVv (As := [.int 4, .int x1]) (rest := []) X Z sr_cut_self hK (c_M_write e_4) (cw_M_186 X.2.2.2.2.2.1 (by decide)) 0 rfl rfl rfl hl rfl (Nat.le_of_ble_eq_true rfl) d_M_faults_10 (fun H locs Z => ?_)
  refine lv_iload_n hx hb d_M_faults_13 rfl (lv_at hl 1 rfl) ?_
  refine lv_if_ne (tgt := 31) hx hb d_M_faults_14 rfl (fun q_5 => ?_) (fun q_5 => ?_)
  · have hf := sr_if q_5 hf
    refine lv_iload_n hx hb d_M_faults_31 rfl (lv_at hl 1 rfl) ?_
    refine lv_istore_n (lv' := [(3, .int x1), (0, .ref (h 0)), (1, .int x1), (2, .int x2)]) hx hb d_M_faults_32 rfl hl (by decide) rfl (fun ls hl => ?_)
    refine lv_iconst (v := 0) hx hb d_M_faults_33 (by decide) ?_
    refine lv_istore (lv' := [(4, .int 0), (3, .int x1), (0, .ref (h 0)), (1, .int x1), (2, .int x2)]) hx hb d_M_faults_34 hl (by decide) rfl (fun ls hl => ?_)
    exact k_M_faults_36_it X _ Z (lv_sub hl [2, 4, 1, 0] rfl) hf
  · have hf := sr_it q_5 hf
    refine lv_aload_n hx hb d_M_faults_17 rfl (lv_at hl 0 rfl) ?_
    refine g_M_43_M X Z d_M_faults_18 ?_
    refine lv_aload_n hx hb d_M_faults_21 rfl (lv_at hl 0 rfl) ?_
    refine g_M_168_M X Z d_M_faults_22 ?_
    refine lv_bipush (v := 10) hx hb d_M_faults_25 (by decide) ?_
    refine lv_iload_n hx hb d_M_faults_27 rfl (lv_at hl 2 rfl) ?_
    refine lv_iadd hx hb d_M_faults_28 ?_
    obtain ⟨u_71, e_72, hf⟩ := sr_b hf
    refine sr_iast (wf := (fun q => (wM h t q))) hx hb hK Z 12 11 rfl rfl e_72 (fun _ => rfl) d_M_faults_29 (fun H locs Z => ?_)
    cases hf
    exact sr_retv X Z d_M_faults_30
end
set_option maxHeartbeats 4000000 in
set_option maxRecDepth 100000 in
theorem c_M_faults {l : Launch} {D : va_G} {h : Nat → Nat} {t : Nat → ClassId} {sz : Nat} {x1 : Int32} {x2 : Int32} {u0 : St} {u' : St} (hf : f_M_faults x1 x2 u0 = some u') : sr_Cv l y_M_faults w_M_faults (sr_rm 2 48) D (tM t) (wM h t u0) (wM h t u') sz [.ref (h 0), .int x1, .int x2] := by
  refine Met.ofW (cc := b_M_faults) (maxL := 6) (ret := none) (by decide) rfl ?_
  intro p e s m args below meth c s₁ B hml hv
  obtain ⟨rfl, hsz, hP, hK, hD0⟩ := hv
  subst hsz
  have X : sr_X D (tM t) b_M_faults 6 R_M w_M_faults p s m _ meth c (va_A (wM h t u0) s.heap.size) none := ⟨B.exec, B.bytes, hml, findClass_of_methodNamed B.named, B.notSynchronized, atoms_spec (ws := w_M_faults) B.pre, hK, fun q h => Or.inr h, B.returns⟩
  have Z : sr_Z D (va_A (wM h t u0) s.heap.size) s.heap (wM h t u0) s.heap [] := ⟨hP, hD0.self, va_S.rf⟩
  have hl := lv_entry ([.ref (h 0), .int x1, .int x2] : List Value) (n := 6) (Nat.le_of_ble_eq_true rfl)
  rw [lg_entry_eq]
  exact k_M_faults_0 X Z hl hf
/-! M_fails -/
theorem d_M_fails_0 : decode b_M_fails 0 = .ok (.aload_n 0, 1) := by decide +kernel
theorem d_M_fails_1 : decode b_M_fails 1 = .ok (.iload_n 1, 1) := by decide +kernel
theorem d_M_fails_2 : decode b_M_fails 2 = .ok (.iconst (-1), 1) := by decide +kernel
theorem d_M_fails_3 : decode b_M_fails 3 = .ok (.invokevirtual 213, 3) := by decide +kernel
theorem d_M_fails_6 : decode b_M_fails 6 = .ok (.aload_n 0, 1) := by decide +kernel
theorem d_M_fails_7 : decode b_M_fails 7 = .ok (.iload_n 1, 1) := by decide +kernel
theorem d_M_fails_8 : decode b_M_fails 8 = .ok (.bipush 10, 2) := by decide +kernel
theorem d_M_fails_10 : decode b_M_fails 10 = .ok (.invokevirtual 183, 3) := by decide +kernel
theorem d_M_fails_13 : decode b_M_fails 13 = .ok (.aload_n 0, 1) := by decide +kernel
theorem d_M_fails_14 : decode b_M_fails 14 = .ok (.iconst 4, 1) := by decide +kernel
theorem d_M_fails_15 : decode b_M_fails 15 = .ok (.iload_n 1, 1) := by decide +kernel
theorem d_M_fails_16 : decode b_M_fails 16 = .ok (.invokevirtual 186, 3) := by decide +kernel
theorem d_M_fails_19 : decode b_M_fails 19 = .ok (.aload_n 0, 1) := by decide +kernel
theorem d_M_fails_20 : decode b_M_fails 20 = .ok (.getfield 64, 3) := by decide +kernel
theorem d_M_fails_23 : decode b_M_fails 23 = .ok (.bipush 24, 2) := by decide +kernel
theorem d_M_fails_25 : decode b_M_fails 25 = .ok (.aload_n 0, 1) := by decide +kernel
theorem d_M_fails_26 : decode b_M_fails 26 = .ok (.getfield 168, 3) := by decide +kernel
theorem d_M_fails_29 : decode b_M_fails 29 = .ok (.imul, 1) := by decide +kernel
theorem d_M_fails_30 : decode b_M_fails 30 = .ok (.iload_n 1, 1) := by decide +kernel
theorem d_M_fails_31 : decode b_M_fails 31 = .ok (.iadd, 1) := by decide +kernel
theorem d_M_fails_32 : decode b_M_fails 32 = .ok (.iaload, 1) := by decide +kernel
theorem d_M_fails_33 : decode b_M_fails 33 = .ok (.istore_n 3, 1) := by decide +kernel
theorem d_M_fails_34 : decode b_M_fails 34 = .ok (.aload_n 0, 1) := by decide +kernel
theorem d_M_fails_35 : decode b_M_fails 35 = .ok (.getfield 67, 3) := by decide +kernel
theorem d_M_fails_38 : decode b_M_fails 38 = .ok (.bipush 24, 2) := by decide +kernel
theorem d_M_fails_40 : decode b_M_fails 40 = .ok (.aload_n 0, 1) := by decide +kernel
theorem d_M_fails_41 : decode b_M_fails 41 = .ok (.getfield 168, 3) := by decide +kernel
theorem d_M_fails_44 : decode b_M_fails 44 = .ok (.imul, 1) := by decide +kernel
theorem d_M_fails_45 : decode b_M_fails 45 = .ok (.iload_n 3, 1) := by decide +kernel
theorem d_M_fails_46 : decode b_M_fails 46 = .ok (.iadd, 1) := by decide +kernel
theorem d_M_fails_47 : decode b_M_fails 47 = .ok (.iconst 0, 1) := by decide +kernel
theorem d_M_fails_48 : decode b_M_fails 48 = .ok (.bastore, 1) := by decide +kernel
theorem d_M_fails_49 : decode b_M_fails 49 = .ok (.aload_n 0, 1) := by decide +kernel
theorem d_M_fails_50 : decode b_M_fails 50 = .ok (.getfield 16, 3) := by decide +kernel
theorem d_M_fails_53 : decode b_M_fails 53 = .ok (.iload_n 3, 1) := by decide +kernel
theorem d_M_fails_54 : decode b_M_fails 54 = .ok (.iaload, 1) := by decide +kernel
theorem d_M_fails_55 : decode b_M_fails 55 = .ok (.bipush 7, 2) := by decide +kernel
theorem d_M_fails_57 : decode b_M_fails 57 = .ok (.if_icmp .ne 13, 3) := by decide +kernel
theorem d_M_fails_60 : decode b_M_fails 60 = .ok (.aload_n 0, 1) := by decide +kernel
theorem d_M_fails_61 : decode b_M_fails 61 = .ok (.iconst 3, 1) := by decide +kernel
theorem d_M_fails_62 : decode b_M_fails 62 = .ok (.iload_n 3, 1) := by decide +kernel
theorem d_M_fails_63 : decode b_M_fails 63 = .ok (.iload_n 2, 1) := by decide +kernel
theorem d_M_fails_64 : decode b_M_fails 64 = .ok (.invokevirtual 209, 3) := by decide +kernel
theorem d_M_fails_67 : decode b_M_fails 67 = .ok (.goto 36, 3) := by decide +kernel
theorem d_M_fails_70 : decode b_M_fails 70 = .ok (.aload_n 0, 1) := by decide +kernel
theorem d_M_fails_71 : decode b_M_fails 71 = .ok (.iload_n 3, 1) := by decide +kernel
theorem d_M_fails_72 : decode b_M_fails 72 = .ok (.invokevirtual 171, 3) := by decide +kernel
theorem d_M_fails_75 : decode b_M_fails 75 = .ok (.bipush 7, 2) := by decide +kernel
theorem d_M_fails_77 : decode b_M_fails 77 = .ok (.if_icmp .ne 13, 3) := by decide +kernel
theorem d_M_fails_80 : decode b_M_fails 80 = .ok (.aload_n 0, 1) := by decide +kernel
theorem d_M_fails_81 : decode b_M_fails 81 = .ok (.iconst 4, 1) := by decide +kernel
theorem d_M_fails_82 : decode b_M_fails 82 = .ok (.iload_n 3, 1) := by decide +kernel
theorem d_M_fails_83 : decode b_M_fails 83 = .ok (.iload_n 2, 1) := by decide +kernel
theorem d_M_fails_84 : decode b_M_fails 84 = .ok (.invokevirtual 209, 3) := by decide +kernel
theorem d_M_fails_87 : decode b_M_fails 87 = .ok (.goto 16, 3) := by decide +kernel
theorem d_M_fails_90 : decode b_M_fails 90 = .ok (.aload_n 0, 1) := by decide +kernel
theorem d_M_fails_91 : decode b_M_fails 91 = .ok (.iload_n 3, 1) := by decide +kernel
theorem d_M_fails_92 : decode b_M_fails 92 = .ok (.iconst (-1), 1) := by decide +kernel
theorem d_M_fails_93 : decode b_M_fails 93 = .ok (.invokevirtual 213, 3) := by decide +kernel
theorem d_M_fails_96 : decode b_M_fails 96 = .ok (.aload_n 0, 1) := by decide +kernel
theorem d_M_fails_97 : decode b_M_fails 97 = .ok (.iconst 3, 1) := by decide +kernel
theorem d_M_fails_98 : decode b_M_fails 98 = .ok (.iload_n 3, 1) := by decide +kernel
theorem d_M_fails_99 : decode b_M_fails 99 = .ok (.iload_n 2, 1) := by decide +kernel
theorem d_M_fails_100 : decode b_M_fails 100 = .ok (.invokevirtual 209, 3) := by decide +kernel
theorem d_M_fails_103 : decode b_M_fails 103 = .ok (.return_, 1) := by decide +kernel
section
variable {p : Program} {l : Launch} {e : Env} {s : State} {m : MethodId} {args : Array Value} {below : List Frame} {meth : Method} {c : Code} {H : Heap} {locs : List Loc} {ls : Array Slot} {D : va_G} {A : Nat → Prop} {h o : Nat → Nat} {t v : Nat → ClassId}
def f_M_fails (x1 : Int32) (x2 : Int32) (u0 : St) : Option (St) :=
  (f_M_carry x1 (-1) u0).bind fun u_1 =>
  (f_M_put x1 10 u_1).bind fun u_3 =>
  (f_M_write 4 x1 u_3).bind fun u_5 =>
  (sr_ald 192 (u_5 24) ((24 * (u_5 33 0)) + x1)).bind fun v_7 =>
  (sr_ast 192 u_5 25 ((24 * (u_5 33 0)) + v_7) 0).bind fun u_9 =>
  (sr_ald 24 (u_9 3) v_7).bind fun v_11 =>
  if v_11 = 7 then
    (f_M_then 3 v_7 x2 u_9).bind fun u_23 =>
    some u_23
  else
    (f_M_st u_9 v_7).bind fun v_14 =>
    if v_14 = 7 then
      (f_M_then 4 v_7 x2 u_9).bind fun u_21 =>
      some u_21
    else
      (f_M_carry v_7 (-1) u_9).bind fun u_17 =>
      (f_M_then 3 v_7 x2 u_17).bind fun u_19 =>
      some u_19
set_option maxHeartbeats 4000000 in
set_option maxRecDepth 100000 in
theorem k_M_fails_0 {x1 : Int32} {x2 : Int32} {u0 : St} {u' : St} (X : sr_X D (tM t) b_M_fails 4 R_M w_M_fails p s m args meth c A none) (Z : sr_Z D A s.heap (wM h t u0) H locs) (hl : lv_has ls 4 [(0, .ref (h 0)), (1, .int x1), (2, .int x2)]) (hf : f_M_fails x1 x2 u0 = some u') : W p l e (sr_rm 1 23) s m args below meth c H locs 0 0 (sr_Qv D (tM t) below args s A (wM h t u')) (F0 m 0 ls []) := by
  have hx := X.1
  have hb := X.2.1
  have hK := X.2.2.2.2.2.2.1
  unfold f_M_fails at hf
  refine lv_aload_n hx hb d_M_fails_0 rfl (lv_at hl 0 rfl) ?_
  refine lv_iload_n hx hb d_M_fails_1 rfl (lv_at hl 1 rfl) ?_
  refine lv_iconst (v := -1) hx hb d_M_fails_2 (by decide) ?_
  obtain ⟨u_1, e_2, hf⟩ := sr_b hf
  refine sr_cVv (As := [.int x1, .int (-1)]) (rest := []) X Z sr_cut_self hK (c_M_carry e_2) (cw_M_213 X.2.2.2.2.2.1 (by decide)) 0 rfl rfl rfl hl rfl (Nat.le_of_ble_eq_true rfl) d_M_fails_3 (fun H locs Z => ?_)
  refine lv_aload_n hx hb d_M_fails_6 rfl (lv_at hl 0 rfl) ?_
  refine lv_iload_n hx hb d_M_fails_7 rfl (lv_at hl 1 rfl) ?_
  refine lv_bipush (v := 10) hx hb d_M_fails_8 (by decide) ?_
  obtain ⟨u_3, e_4, hf⟩ := sr_b hf
  refine sr_cVv (As := [.int x1, .int 10]) (rest := []) X Z sr_cut_self hK (c_M_put e_4) (cw_M_183 X.2.2.2.2.2.1 (by decide)) 0 rfl rfl rfl hl rfl (Nat.le_of_ble_eq_true rfl) d_M_fails_10 (fun H locs Z => ?_)
  refine lv_aload_n hx hb d_M_fails_13 rfl (lv_at hl 0 rfl) ?_
  refine lv_iconst (v := 4) hx hb d_M_fails_14 (by decide) ?_
  refine lv_iload_n hx hb d_M_fails_15 rfl (lv_at hl 1 rfl) ?_
  obtain ⟨u_5, e_6, hf⟩ := sr_b hf
  refine sr_cVv (As := [.int 4, .int x1]) (rest := []) X Z sr_cut_self hK (c_M_write e_6) (cw_M_186 X.2.2.2.2.2.1 (by decide)) 0 rfl rfl rfl hl rfl (Nat.le_of_ble_eq_true rfl) d_M_fails_16 (fun H locs Z => ?_)
  refine lv_aload_n hx hb d_M_fails_19 rfl (lv_at hl 0 rfl) ?_
  refine g_M_64_M X Z d_M_fails_20 ?_
  refine lv_bipush (v := 24) hx hb d_M_fails_23 (by decide) ?_
  refine lv_aload_n hx hb d_M_fails_25 rfl (lv_at hl 0 rfl) ?_
  refine g_M_168_M X Z d_M_fails_26 ?_
  refine lv_imul hx hb d_M_fails_29 ?_
  refine lv_iload_n hx hb d_M_fails_30 rfl (lv_at hl 1 rfl) ?_
  refine lv_iadd hx hb d_M_fails_31 ?_
  obtain ⟨v_7, e_8, hf⟩ := sr_b hf
  refine sr_iald hx hb hK Z 19 18 rfl rfl e_8 d_M_fails_32 ?_
  refine lv_istore_n (lv' := [(3, .int v_7), (0, .ref (h 0)), (1, .int x1), (2, .int x2)]) hx hb d_M_fails_33 rfl hl (by decide) rfl (fun ls hl => ?_)
  refine lv_aload_n hx hb d_M_fails_34 rfl (lv_at hl 1 rfl) ?_
  refine g_M_67_M X Z d_M_fails_35 ?_
  refine lv_bipush (v := 24) hx hb d_M_fails_38 (by decide) ?_
  refine lv_aload_n hx hb d_M_fails_40 rfl (lv_at hl 1 rfl) ?_
  refine g_M_168_M X Z d_M_fails_41 ?_
  refine lv_imul hx hb d_M_fails_44 ?_
  refine lv_iload_n hx hb d_M_fails_45 rfl (lv_at hl 0 rfl) ?_
  refine lv_iadd hx hb d_M_fails_46 ?_
  refine lv_iconst (v := 0) hx hb d_M_fails_47 (by decide) ?_
  obtain ⟨u_9, e_10, hf⟩ := sr_b hf
  refine sr_zast (wf := (fun q => (wM h t q))) hx hb hK Z 20 19 rfl rfl rfl e_10 (fun _ => rfl) d_M_fails_48 (fun H locs Z => ?_)
  refine lv_aload_n hx hb d_M_fails_49 rfl (lv_at hl 1 rfl) ?_
  refine g_M_16_M X Z d_M_fails_50 ?_
  refine lv_iload_n hx hb d_M_fails_53 rfl (lv_at hl 0 rfl) ?_
  obtain ⟨v_11, e_12, hf⟩ := sr_b hf
  refine sr_iald hx hb hK Z 3 2 rfl rfl e_12 d_M_fails_54 ?_
  refine lv_bipush (v := 7) hx hb d_M_fails_55 (by decide) ?_
  refine lv_icmp_ne (tgt := 70) hx hb d_M_fails_57 rfl (fun q_13 => ?_) (fun q_13 => ?_)
  · have hf := sr_if q_13 hf
    refine lv_aload_n hx hb d_M_fails_70 rfl (lv_at hl 1 rfl) ?_
    refine lv_iload_n hx hb d_M_fails_71 rfl (lv_at hl 0 rfl) ?_
    obtain ⟨v_14, e_15, hf⟩ := sr_b hf
    refine sr_cVi (As := [.int v_7]) (rest := []) X Z sr_cut_self hK (c_M_st e_15) (cw_M_171 X.2.2.2.2.2.1 (by decide)) 0 rfl rfl rfl hl rfl (Nat.le_of_ble_eq_true rfl) d_M_fails_72 (fun H locs Z => ?_)
    refine lv_bipush (v := 7) hx hb d_M_fails_75 (by decide) ?_
    refine lv_icmp_ne (tgt := 90) hx hb d_M_fails_77 rfl (fun q_16 => ?_) (fun q_16 => ?_)
    · have hf := sr_if q_16 hf
      refine lv_aload_n hx hb d_M_fails_90 rfl (lv_at hl 1 rfl) ?_
      refine lv_iload_n hx hb d_M_fails_91 rfl (lv_at hl 0 rfl) ?_
      refine lv_iconst (v := -1) hx hb d_M_fails_92 (by decide) ?_
      obtain ⟨u_17, e_18, hf⟩ := sr_b hf
      refine sr_cVv (As := [.int v_7, .int (-1)]) (rest := []) X Z sr_cut_self hK (c_M_carry e_18) (cw_M_213 X.2.2.2.2.2.1 (by decide)) 0 rfl rfl rfl hl rfl (Nat.le_of_ble_eq_true rfl) d_M_fails_93 (fun H locs Z => ?_)
      refine lv_aload_n hx hb d_M_fails_96 rfl (lv_at hl 1 rfl) ?_
      refine lv_iconst (v := 3) hx hb d_M_fails_97 (by decide) ?_
      refine lv_iload_n hx hb d_M_fails_98 rfl (lv_at hl 0 rfl) ?_
      refine lv_iload_n hx hb d_M_fails_99 rfl (lv_at hl 3 rfl) ?_
      obtain ⟨u_19, e_20, hf⟩ := sr_b hf
      refine sr_cVv (As := [.int 3, .int v_7, .int x2]) (rest := []) X Z sr_cut_self hK (c_M_then e_20) (cw_M_209 X.2.2.2.2.2.1 (by decide)) 0 rfl rfl rfl hl rfl (Nat.le_of_ble_eq_true rfl) d_M_fails_100 (fun H locs Z => ?_)
      cases hf
      exact sr_retv X Z d_M_fails_103
    · have hf := sr_it q_16 hf
      refine lv_aload_n hx hb d_M_fails_80 rfl (lv_at hl 1 rfl) ?_
      refine lv_iconst (v := 4) hx hb d_M_fails_81 (by decide) ?_
      refine lv_iload_n hx hb d_M_fails_82 rfl (lv_at hl 0 rfl) ?_
      refine lv_iload_n hx hb d_M_fails_83 rfl (lv_at hl 3 rfl) ?_
      obtain ⟨u_21, e_22, hf⟩ := sr_b hf
      refine sr_cVv (As := [.int 4, .int v_7, .int x2]) (rest := []) X Z sr_cut_self hK (c_M_then e_22) (cw_M_209 X.2.2.2.2.2.1 (by decide)) 0 rfl rfl rfl hl rfl (Nat.le_of_ble_eq_true rfl) d_M_fails_84 (fun H locs Z => ?_)
      refine lv_goto (tgt := 103) hx hb d_M_fails_87 rfl ?_
      cases hf
      exact sr_retv X Z d_M_fails_103
  · have hf := sr_it q_13 hf
    refine lv_aload_n hx hb d_M_fails_60 rfl (lv_at hl 1 rfl) ?_
    refine lv_iconst (v := 3) hx hb d_M_fails_61 (by decide) ?_
    refine lv_iload_n hx hb d_M_fails_62 rfl (lv_at hl 0 rfl) ?_
    refine lv_iload_n hx hb d_M_fails_63 rfl (lv_at hl 3 rfl) ?_
    obtain ⟨u_23, e_24, hf⟩ := sr_b hf
    refine sr_cVv (As := [.int 3, .int v_7, .int x2]) (rest := []) X Z sr_cut_self hK (c_M_then e_24) (cw_M_209 X.2.2.2.2.2.1 (by decide)) 0 rfl rfl rfl hl rfl (Nat.le_of_ble_eq_true rfl) d_M_fails_64 (fun H locs Z => ?_)
    refine lv_goto (tgt := 103) hx hb d_M_fails_67 rfl ?_
    cases hf
    exact sr_retv X Z d_M_fails_103
end
set_option maxHeartbeats 4000000 in
set_option maxRecDepth 100000 in
theorem c_M_fails {l : Launch} {D : va_G} {h : Nat → Nat} {t : Nat → ClassId} {sz : Nat} {x1 : Int32} {x2 : Int32} {u0 : St} {u' : St} (hf : f_M_fails x1 x2 u0 = some u') : sr_Cv l y_M_fails w_M_fails (sr_rm 1 23) D (tM t) (wM h t u0) (wM h t u') sz [.ref (h 0), .int x1, .int x2] := by
  refine Met.ofW (cc := b_M_fails) (maxL := 4) (ret := none) (by decide) rfl ?_
  intro p e s m args below meth c s₁ B hml hv
  obtain ⟨rfl, hsz, hP, hK, hD0⟩ := hv
  subst hsz
  have X : sr_X D (tM t) b_M_fails 4 R_M w_M_fails p s m _ meth c (va_A (wM h t u0) s.heap.size) none := ⟨B.exec, B.bytes, hml, findClass_of_methodNamed B.named, B.notSynchronized, atoms_spec (ws := w_M_fails) B.pre, hK, fun q h => Or.inr h, B.returns⟩
  have Z : sr_Z D (va_A (wM h t u0) s.heap.size) s.heap (wM h t u0) s.heap [] := ⟨hP, hD0.self, va_S.rf⟩
  have hl := lv_entry ([.ref (h 0), .int x1, .int x2] : List Value) (n := 4) (Nat.le_of_ble_eq_true rfl)
  rw [lg_entry_eq]
  exact k_M_fails_0 X Z hl hf
/-! M_settle -/
theorem d_M_settle_0 : decode b_M_settle 0 = .ok (.iconst 0, 1) := by decide +kernel
theorem d_M_settle_1 : decode b_M_settle 1 = .ok (.istore_n 1, 1) := by decide +kernel
theorem d_M_settle_2 : decode b_M_settle 2 = .ok (.iload_n 1, 1) := by decide +kernel
theorem d_M_settle_3 : decode b_M_settle 3 = .ok (.sipush 10000, 3) := by decide +kernel
theorem d_M_settle_6 : decode b_M_settle 6 = .ok (.if_icmp .ge 90, 3) := by decide +kernel
theorem d_M_settle_9 : decode b_M_settle 9 = .ok (.aload_n 0, 1) := by decide +kernel
theorem d_M_settle_10 : decode b_M_settle 10 = .ok (.getfield 174, 3) := by decide +kernel
theorem d_M_settle_13 : decode b_M_settle 13 = .ok (.ifCond .eq 83, 3) := by decide +kernel
theorem d_M_settle_16 : decode b_M_settle 16 = .ok (.aload_n 0, 1) := by decide +kernel
theorem d_M_settle_17 : decode b_M_settle 17 = .ok (.getfield 174, 3) := by decide +kernel
theorem d_M_settle_20 : decode b_M_settle 20 = .ok (.istore_n 2, 1) := by decide +kernel
theorem d_M_settle_21 : decode b_M_settle 21 = .ok (.aload_n 0, 1) := by decide +kernel
theorem d_M_settle_22 : decode b_M_settle 22 = .ok (.iconst 0, 1) := by decide +kernel
theorem d_M_settle_23 : decode b_M_settle 23 = .ok (.putfield 174, 3) := by decide +kernel
theorem d_M_settle_26 : decode b_M_settle 26 = .ok (.iload_n 2, 1) := by decide +kernel
theorem d_M_settle_27 : decode b_M_settle 27 = .ok (.iconst 1, 1) := by decide +kernel
theorem d_M_settle_28 : decode b_M_settle 28 = .ok (.if_icmp .ne 14, 3) := by decide +kernel
theorem d_M_settle_31 : decode b_M_settle 31 = .ok (.aload_n 0, 1) := by decide +kernel
theorem d_M_settle_32 : decode b_M_settle 32 = .ok (.aload_n 0, 1) := by decide +kernel
theorem d_M_settle_33 : decode b_M_settle 33 = .ok (.getfield 177, 3) := by decide +kernel
theorem d_M_settle_36 : decode b_M_settle 36 = .ok (.invokevirtual 193, 3) := by decide +kernel
theorem d_M_settle_39 : decode b_M_settle 39 = .ok (.goto 51, 3) := by decide +kernel
theorem d_M_settle_42 : decode b_M_settle 42 = .ok (.iload_n 2, 1) := by decide +kernel
theorem d_M_settle_43 : decode b_M_settle 43 = .ok (.iconst 2, 1) := by decide +kernel
theorem d_M_settle_44 : decode b_M_settle 44 = .ok (.if_icmp .ne 14, 3) := by decide +kernel
theorem d_M_settle_47 : decode b_M_settle 47 = .ok (.aload_n 0, 1) := by decide +kernel
theorem d_M_settle_48 : decode b_M_settle 48 = .ok (.aload_n 0, 1) := by decide +kernel
theorem d_M_settle_49 : decode b_M_settle 49 = .ok (.getfield 177, 3) := by decide +kernel
theorem d_M_settle_52 : decode b_M_settle 52 = .ok (.invokevirtual 197, 3) := by decide +kernel
theorem d_M_settle_55 : decode b_M_settle 55 = .ok (.goto 35, 3) := by decide +kernel
theorem d_M_settle_58 : decode b_M_settle 58 = .ok (.iload_n 2, 1) := by decide +kernel
theorem d_M_settle_59 : decode b_M_settle 59 = .ok (.iconst 3, 1) := by decide +kernel
theorem d_M_settle_60 : decode b_M_settle 60 = .ok (.if_icmp .ne 18, 3) := by decide +kernel
theorem d_M_settle_63 : decode b_M_settle 63 = .ok (.aload_n 0, 1) := by decide +kernel
theorem d_M_settle_64 : decode b_M_settle 64 = .ok (.aload_n 0, 1) := by decide +kernel
theorem d_M_settle_65 : decode b_M_settle 65 = .ok (.getfield 177, 3) := by decide +kernel
theorem d_M_settle_68 : decode b_M_settle 68 = .ok (.aload_n 0, 1) := by decide +kernel
theorem d_M_settle_69 : decode b_M_settle 69 = .ok (.getfield 180, 3) := by decide +kernel
theorem d_M_settle_72 : decode b_M_settle 72 = .ok (.invokevirtual 200, 3) := by decide +kernel
theorem d_M_settle_75 : decode b_M_settle 75 = .ok (.goto 15, 3) := by decide +kernel
theorem d_M_settle_78 : decode b_M_settle 78 = .ok (.aload_n 0, 1) := by decide +kernel
theorem d_M_settle_79 : decode b_M_settle 79 = .ok (.aload_n 0, 1) := by decide +kernel
theorem d_M_settle_80 : decode b_M_settle 80 = .ok (.getfield 177, 3) := by decide +kernel
theorem d_M_settle_83 : decode b_M_settle 83 = .ok (.aload_n 0, 1) := by decide +kernel
theorem d_M_settle_84 : decode b_M_settle 84 = .ok (.getfield 180, 3) := by decide +kernel
theorem d_M_settle_87 : decode b_M_settle 87 = .ok (.invokevirtual 203, 3) := by decide +kernel
theorem d_M_settle_90 : decode b_M_settle 90 = .ok (.iinc 1 1, 3) := by decide +kernel
theorem d_M_settle_93 : decode b_M_settle 93 = .ok (.goto (-91), 3) := by decide +kernel
theorem d_M_settle_96 : decode b_M_settle 96 = .ok (.return_, 1) := by decide +kernel
section
variable {p : Program} {l : Launch} {e : Env} {s : State} {m : MethodId} {args : Array Value} {below : List Frame} {meth : Method} {c : Code} {H : Heap} {locs : List Loc} {ls : Array Slot} {D : va_G} {A : Nat → Prop} {h o : Nat → Nat} {t v : Nat → ClassId}
def f_M_settle_90 (k2 : Int32 → St → Option (St)) (x1 : Int32) (u0 : St) : Option (St) :=
  k2 (x1 + 1) u0
set_option maxHeartbeats 4000000 in
set_option maxRecDepth 100000 in
theorem k_M_settle_90 {k2 : Int32 → St → Option (St)} {x1 : Int32} {u0 : St} {u' : St} (X : sr_X D (tM t) b_M_settle 3 R_M w_M_settle p s m args meth c A none) (hk2 : ∀ (x1 : Int32) (u0 : St) (H : Heap) (locs : List Loc) (ls : Array Slot), sr_Z D A s.heap (wM h t u0) H locs → lv_has ls 3 [(0, .ref (h 0)), (1, .int x1)] → k2 x1 u0 = some u' → W p l e (sr_rm 3 73) s m args below meth c H locs 0 0 (sr_Qv D (tM t) below args s A (wM h t u')) (F0 m 2 ls [])) (Z : sr_Z D A s.heap (wM h t u0) H locs) (hl : lv_has ls 3 [(0, .ref (h 0)), (1, .int x1)]) (hf : f_M_settle_90 k2 x1 u0 = some u') : W p l e (sr_rm 3 73) s m args below meth c H locs 0 0 (sr_Qv D (tM t) below args s A (wM h t u')) (F0 m 90 ls []) := by
  have hx := X.1
  have hb := X.2.1
  have hK := X.2.2.2.2.2.2.1
  unfold f_M_settle_90 at hf
  refine lv_iinc (k := 1) (v := x1 + 1) (lv' := [(1, .int (x1 + 1)), (0, .ref (h 0))]) hx hb d_M_settle_90 hl rfl rfl (by decide) rfl (fun ls hl => ?_)
  refine lv_goto (tgt := 2) hx hb d_M_settle_93 rfl ?_
  exact hk2 (x1 + 1) u0 _ _ _ Z (lv_sub hl [1, 0] rfl) hf
def f_M_settle_2 (k2 : Int32 → St → Option (St)) (x1 : Int32) (u0 : St) : Option (St) :=
  if 10000 ≤ x1 then
    some u0
  else
    if (u0 34 0) = 0 then
      some u0
    else
      (sr_pf u0 34 0).bind fun u_3 =>
      if (u0 34 0) = 1 then
        (f_M_complete (u_3 35 0) u_3).bind fun u_14 =>
        f_M_settle_90 k2 x1 u_14
      else
        if (u0 34 0) = 2 then
          (f_M_report (u_3 35 0) u_3).bind fun u_12 =>
          f_M_settle_90 k2 x1 u_12
        else
          if (u0 34 0) = 3 then
            (f_M_faults (u_3 35 0) (u_3 36 0) u_3).bind fun u_10 =>
            f_M_settle_90 k2 x1 u_10
          else
            (f_M_fails (u_3 35 0) (u_3 36 0) u_3).bind fun u_8 =>
            f_M_settle_90 k2 x1 u_8
set_option maxHeartbeats 4000000 in
set_option maxRecDepth 100000 in
theorem k_M_settle_2 {k2 : Int32 → St → Option (St)} {x1 : Int32} {u0 : St} {u' : St} (X : sr_X D (tM t) b_M_settle 3 R_M w_M_settle p s m args meth c A none) (hk2 : ∀ (x1 : Int32) (u0 : St) (H : Heap) (locs : List Loc) (ls : Array Slot), sr_Z D A s.heap (wM h t u0) H locs → lv_has ls 3 [(0, .ref (h 0)), (1, .int x1)] → k2 x1 u0 = some u' → W p l e (sr_rm 3 73) s m args below meth c H locs 0 0 (sr_Qv D (tM t) below args s A (wM h t u')) (F0 m 2 ls [])) (Z : sr_Z D A s.heap (wM h t u0) H locs) (hl : lv_has ls 3 [(0, .ref (h 0)), (1, .int x1)]) (hf : f_M_settle_2 k2 x1 u0 = some u') : W p l e (sr_rm 3 73) s m args below meth c H locs 0 0 (sr_Qv D (tM t) below args s A (wM h t u')) (F0 m 2 ls []) := by
  have hx := X.1
  have hb := X.2.1
  have hK := X.2.2.2.2.2.2.1
  unfold f_M_settle_2 at hf
  refine lv_iload_n hx hb d_M_settle_2 rfl (lv_at hl 1 rfl) ?_
  refine lv_sipush (v := 10000) hx hb d_M_settle_3 (by decide) ?_
  refine lv_icmp_ge (tgt := 96) hx hb d_M_settle_6 rfl (fun q_1 => ?_) (fun q_1 => ?_)
  · have hf := sr_it q_1 hf
    cases hf
    exact sr_retv X Z d_M_settle_96
  · have hf := sr_if q_1 hf
    refine lv_aload_n hx hb d_M_settle_9 rfl (lv_at hl 0 rfl) ?_
    refine g_M_174_M X Z d_M_settle_10 ?_
    refine lv_if_eq (tgt := 96) hx hb d_M_settle_13 rfl (fun q_2 => ?_) (fun q_2 => ?_)
    · have hf := sr_it q_2 hf
      cases hf
      exact sr_retv X Z d_M_settle_96
    · have hf := sr_if q_2 hf
      refine lv_aload_n hx hb d_M_settle_16 rfl (lv_at hl 0 rfl) ?_
      refine g_M_174_M X Z d_M_settle_17 ?_
      refine lv_istore_n (lv' := [(2, .int (u0 34 0)), (0, .ref (h 0)), (1, .int x1)]) hx hb d_M_settle_20 rfl hl (by decide) rfl (fun ls hl => ?_)
      refine lv_aload_n hx hb d_M_settle_21 rfl (lv_at hl 1 rfl) ?_
      refine lv_iconst (v := 0) hx hb d_M_settle_22 (by decide) ?_
      obtain ⟨u_3, e_4, hf⟩ := sr_b hf
      refine s_M_174_M X Z e_4 d_M_settle_23 (fun H locs Z => ?_)
      refine lv_iload_n hx hb d_M_settle_26 rfl (lv_at hl 0 rfl) ?_
      refine lv_iconst (v := 1) hx hb d_M_settle_27 (by decide) ?_
      refine lv_icmp_ne (tgt := 42) hx hb d_M_settle_28 rfl (fun q_5 => ?_) (fun q_5 => ?_)
      · have hf := sr_if q_5 hf
        refine lv_iload_n hx hb d_M_settle_42 rfl (lv_at hl 0 rfl) ?_
        refine lv_iconst (v := 2) hx hb d_M_settle_43 (by decide) ?_
        refine lv_icmp_ne (tgt := 58) hx hb d_M_settle_44 rfl (fun q_6 => ?_) (fun q_6 => ?_)
        · have hf := sr_if q_6 hf
          refine lv_iload_n hx hb d_M_settle_58 rfl (lv_at hl 0 rfl) ?_
          refine lv_iconst (v := 3) hx hb d_M_settle_59 (by decide) ?_
          refine lv_icmp_ne (tgt := 78) hx hb d_M_settle_60 rfl (fun q_7 => ?_) (fun q_7 => ?_)
          · have hf := sr_if q_7 hf
            refine lv_aload_n hx hb d_M_settle_78 rfl (lv_at hl 1 rfl) ?_
            refine lv_aload_n hx hb d_M_settle_79 rfl (lv_at hl 1 rfl) ?_
            refine g_M_177_M X Z d_M_settle_80 ?_
            refine lv_aload_n hx hb d_M_settle_83 rfl (lv_at hl 1 rfl) ?_
            refine g_M_180_M X Z d_M_settle_84 ?_
            obtain ⟨u_8, e_9, hf⟩ := sr_b hf
            refine sr_cVv (As := [.int (u_3 35 0), .int (u_3 36 0)]) (rest := []) X Z sr_cut_self hK (c_M_fails e_9) (cw_M_203 X.2.2.2.2.2.1 (by decide)) 0 rfl rfl rfl hl rfl (Nat.le_of_ble_eq_true rfl) d_M_settle_87 (fun H locs Z => ?_)
            exact k_M_settle_90 X hk2 Z (lv_sub hl [1, 2] rfl) hf
          · have hf := sr_it q_7 hf
            refine lv_aload_n hx hb d_M_settle_63 rfl (lv_at hl 1 rfl) ?_
            refine lv_aload_n hx hb d_M_settle_64 rfl (lv_at hl 1 rfl) ?_
            refine g_M_177_M X Z d_M_settle_65 ?_
            refine lv_aload_n hx hb d_M_settle_68 rfl (lv_at hl 1 rfl) ?_
            refine g_M_180_M X Z d_M_settle_69 ?_
            obtain ⟨u_10, e_11, hf⟩ := sr_b hf
            refine sr_cVv (As := [.int (u_3 35 0), .int (u_3 36 0)]) (rest := []) X Z sr_cut_self hK (c_M_faults e_11) (cw_M_200 X.2.2.2.2.2.1 (by decide)) 0 rfl rfl rfl hl rfl (Nat.le_of_ble_eq_true rfl) d_M_settle_72 (fun H locs Z => ?_)
            refine lv_goto (tgt := 90) hx hb d_M_settle_75 rfl ?_
            exact k_M_settle_90 X hk2 Z (lv_sub hl [1, 2] rfl) hf
        · have hf := sr_it q_6 hf
          refine lv_aload_n hx hb d_M_settle_47 rfl (lv_at hl 1 rfl) ?_
          refine lv_aload_n hx hb d_M_settle_48 rfl (lv_at hl 1 rfl) ?_
          refine g_M_177_M X Z d_M_settle_49 ?_
          obtain ⟨u_12, e_13, hf⟩ := sr_b hf
          refine sr_cVv (As := [.int (u_3 35 0)]) (rest := []) X Z sr_cut_self hK (c_M_report e_13) (cw_M_197 X.2.2.2.2.2.1 (by decide)) 0 rfl rfl rfl hl rfl (Nat.le_of_ble_eq_true rfl) d_M_settle_52 (fun H locs Z => ?_)
          refine lv_goto (tgt := 90) hx hb d_M_settle_55 rfl ?_
          exact k_M_settle_90 X hk2 Z (lv_sub hl [1, 2] rfl) hf
      · have hf := sr_it q_5 hf
        refine lv_aload_n hx hb d_M_settle_31 rfl (lv_at hl 1 rfl) ?_
        refine lv_aload_n hx hb d_M_settle_32 rfl (lv_at hl 1 rfl) ?_
        refine g_M_177_M X Z d_M_settle_33 ?_
        obtain ⟨u_14, e_15, hf⟩ := sr_b hf
        refine sr_cVv (As := [.int (u_3 35 0)]) (rest := []) X Z sr_cut_self hK (c_M_complete e_15) (cw_M_193 X.2.2.2.2.2.1 (by decide)) 0 rfl rfl rfl hl rfl (Nat.le_of_ble_eq_true rfl) d_M_settle_36 (fun H locs Z => ?_)
        refine lv_goto (tgt := 90) hx hb d_M_settle_39 rfl ?_
        exact k_M_settle_90 X hk2 Z (lv_sub hl [1, 2] rfl) hf
def f_M_settle_2_it : Nat → Int32 → St → Option (St)
  | 0 => fun _ _ => none
  | n + 1 => fun x1 u0 => f_M_settle_2 (f_M_settle_2_it n) x1 u0
set_option maxHeartbeats 4000000 in
set_option maxRecDepth 100000 in
theorem k_M_settle_2_it {u' : St} (X : sr_X D (tM t) b_M_settle 3 R_M w_M_settle p s m args meth c A none) (n : Nat) : ∀ {x1 : Int32} {u0 : St} {H : Heap} {locs : List Loc} {ls : Array Slot}, sr_Z D A s.heap (wM h t u0) H locs → lv_has ls 3 [(0, .ref (h 0)), (1, .int x1)] → f_M_settle_2_it n x1 u0 = some u' → W p l e (sr_rm 3 73) s m args below meth c H locs 0 0 (sr_Qv D (tM t) below args s A (wM h t u')) (F0 m 2 ls []) := by
  induction n with
  | zero => intro x1 u0 H locs ls Z hl hf; exact absurd hf (by simp [f_M_settle_2_it])
  | succ n ih =>
    intro x1 u0 H locs ls Z hl hf
    exact k_M_settle_2 X (fun x1 u0 H locs ls Z hl hf => ih Z hl hf) Z hl hf
def f_M_settle (u0 : St) : Option (St) :=
  f_M_settle_2_it 10001 0 u0
set_option maxHeartbeats 4000000 in
set_option maxRecDepth 100000 in
theorem k_M_settle_0 {u0 : St} {u' : St} (X : sr_X D (tM t) b_M_settle 3 R_M w_M_settle p s m args meth c A none) (Z : sr_Z D A s.heap (wM h t u0) H locs) (hl : lv_has ls 3 [(0, .ref (h 0))]) (hf : f_M_settle u0 = some u') : W p l e (sr_rm 3 73) s m args below meth c H locs 0 0 (sr_Qv D (tM t) below args s A (wM h t u')) (F0 m 0 ls []) := by
  have hx := X.1
  have hb := X.2.1
  have hK := X.2.2.2.2.2.2.1
  unfold f_M_settle at hf
  refine lv_iconst (v := 0) hx hb d_M_settle_0 (by decide) ?_
  refine lv_istore_n (lv' := [(1, .int 0), (0, .ref (h 0))]) hx hb d_M_settle_1 rfl hl (by decide) rfl (fun ls hl => ?_)
  exact k_M_settle_2_it X _ Z (lv_sub hl [1, 0] rfl) hf
end
set_option maxHeartbeats 4000000 in
set_option maxRecDepth 100000 in
theorem c_M_settle {l : Launch} {D : va_G} {h : Nat → Nat} {t : Nat → ClassId} {sz : Nat} {u0 : St} {u' : St} (hf : f_M_settle u0 = some u') : sr_Cv l y_M_settle w_M_settle (sr_rm 3 73) D (tM t) (wM h t u0) (wM h t u') sz [.ref (h 0)] := by
  refine Met.ofW (cc := b_M_settle) (maxL := 3) (ret := none) (by decide) rfl ?_
  intro p e s m args below meth c s₁ B hml hv
  obtain ⟨rfl, hsz, hP, hK, hD0⟩ := hv
  subst hsz
  have X : sr_X D (tM t) b_M_settle 3 R_M w_M_settle p s m _ meth c (va_A (wM h t u0) s.heap.size) none := ⟨B.exec, B.bytes, hml, findClass_of_methodNamed B.named, B.notSynchronized, atoms_spec (ws := w_M_settle) B.pre, hK, fun q h => Or.inr h, B.returns⟩
  have Z : sr_Z D (va_A (wM h t u0) s.heap.size) s.heap (wM h t u0) s.heap [] := ⟨hP, hD0.self, va_S.rf⟩
  have hl := lv_entry ([.ref (h 0)] : List Value) (n := 3) (Nat.le_of_ble_eq_true rfl)
  rw [lg_entry_eq]
  exact k_M_settle_0 X Z hl hf
/-! M_canStep -/
theorem d_M_canStep_0 : decode b_M_canStep 0 = .ok (.aload_n 0, 1) := by decide +kernel
theorem d_M_canStep_1 : decode b_M_canStep 1 = .ok (.iload_n 1, 1) := by decide +kernel
theorem d_M_canStep_2 : decode b_M_canStep 2 = .ok (.invokevirtual 171, 3) := by decide +kernel
theorem d_M_canStep_5 : decode b_M_canStep 5 = .ok (.iconst 1, 1) := by decide +kernel
theorem d_M_canStep_6 : decode b_M_canStep 6 = .ok (.if_icmp .ne 50, 3) := by decide +kernel
theorem d_M_canStep_9 : decode b_M_canStep 9 = .ok (.iconst 0, 1) := by decide +kernel
theorem d_M_canStep_10 : decode b_M_canStep 10 = .ok (.istore_n 2, 1) := by decide +kernel
theorem d_M_canStep_11 : decode b_M_canStep 11 = .ok (.iload_n 2, 1) := by decide +kernel
theorem d_M_canStep_12 : decode b_M_canStep 12 = .ok (.aload_n 0, 1) := by decide +kernel
theorem d_M_canStep_13 : decode b_M_canStep 13 = .ok (.getfield 115, 3) := by decide +kernel
theorem d_M_canStep_16 : decode b_M_canStep 16 = .ok (.if_icmp .ge 38, 3) := by decide +kernel
theorem d_M_canStep_19 : decode b_M_canStep 19 = .ok (.aload_n 0, 1) := by decide +kernel
theorem d_M_canStep_20 : decode b_M_canStep 20 = .ok (.getfield 31, 3) := by decide +kernel
theorem d_M_canStep_23 : decode b_M_canStep 23 = .ok (.iload_n 2, 1) := by decide +kernel
theorem d_M_canStep_24 : decode b_M_canStep 24 = .ok (.iaload, 1) := by decide +kernel
theorem d_M_canStep_25 : decode b_M_canStep 25 = .ok (.iload_n 1, 1) := by decide +kernel
theorem d_M_canStep_26 : decode b_M_canStep 26 = .ok (.if_icmp .ne 22, 3) := by decide +kernel
theorem d_M_canStep_29 : decode b_M_canStep 29 = .ok (.aload_n 0, 1) := by decide +kernel
theorem d_M_canStep_30 : decode b_M_canStep 30 = .ok (.getfield 71, 3) := by decide +kernel
theorem d_M_canStep_33 : decode b_M_canStep 33 = .ok (.bipush 16, 2) := by decide +kernel
theorem d_M_canStep_35 : decode b_M_canStep 35 = .ok (.aload_n 0, 1) := by decide +kernel
theorem d_M_canStep_36 : decode b_M_canStep 36 = .ok (.getfield 168, 3) := by decide +kernel
theorem d_M_canStep_39 : decode b_M_canStep 39 = .ok (.imul, 1) := by decide +kernel
theorem d_M_canStep_40 : decode b_M_canStep 40 = .ok (.iload_n 2, 1) := by decide +kernel
theorem d_M_canStep_41 : decode b_M_canStep 41 = .ok (.iadd, 1) := by decide +kernel
theorem d_M_canStep_42 : decode b_M_canStep 42 = .ok (.iaload, 1) := by decide +kernel
theorem d_M_canStep_43 : decode b_M_canStep 43 = .ok (.ifCond .ne 5, 3) := by decide +kernel
theorem d_M_canStep_46 : decode b_M_canStep 46 = .ok (.iconst 0, 1) := by decide +kernel
theorem d_M_canStep_47 : decode b_M_canStep 47 = .ok (.ireturn, 1) := by decide +kernel
theorem d_M_canStep_48 : decode b_M_canStep 48 = .ok (.iinc 2 1, 3) := by decide +kernel
theorem d_M_canStep_51 : decode b_M_canStep 51 = .ok (.goto (-40), 3) := by decide +kernel
theorem d_M_canStep_54 : decode b_M_canStep 54 = .ok (.iconst 1, 1) := by decide +kernel
theorem d_M_canStep_55 : decode b_M_canStep 55 = .ok (.ireturn, 1) := by decide +kernel
theorem d_M_canStep_56 : decode b_M_canStep 56 = .ok (.aload_n 0, 1) := by decide +kernel
theorem d_M_canStep_57 : decode b_M_canStep 57 = .ok (.iload_n 1, 1) := by decide +kernel
theorem d_M_canStep_58 : decode b_M_canStep 58 = .ok (.invokevirtual 171, 3) := by decide +kernel
theorem d_M_canStep_61 : decode b_M_canStep 61 = .ok (.iconst 4, 1) := by decide +kernel
theorem d_M_canStep_62 : decode b_M_canStep 62 = .ok (.if_icmp .eq 40, 3) := by decide +kernel
theorem d_M_canStep_65 : decode b_M_canStep 65 = .ok (.aload_n 0, 1) := by decide +kernel
theorem d_M_canStep_66 : decode b_M_canStep 66 = .ok (.iload_n 1, 1) := by decide +kernel
theorem d_M_canStep_67 : decode b_M_canStep 67 = .ok (.invokevirtual 171, 3) := by decide +kernel
theorem d_M_canStep_70 : decode b_M_canStep 70 = .ok (.bipush 6, 2) := by decide +kernel
theorem d_M_canStep_72 : decode b_M_canStep 72 = .ok (.if_icmp .eq 13, 3) := by decide +kernel
theorem d_M_canStep_75 : decode b_M_canStep 75 = .ok (.aload_n 0, 1) := by decide +kernel
theorem d_M_canStep_76 : decode b_M_canStep 76 = .ok (.iload_n 1, 1) := by decide +kernel
theorem d_M_canStep_77 : decode b_M_canStep 77 = .ok (.invokevirtual 171, 3) := by decide +kernel
theorem d_M_canStep_80 : decode b_M_canStep 80 = .ok (.bipush 7, 2) := by decide +kernel
theorem d_M_canStep_82 : decode b_M_canStep 82 = .ok (.if_icmp .ne 24, 3) := by decide +kernel
theorem d_M_canStep_85 : decode b_M_canStep 85 = .ok (.aload_n 0, 1) := by decide +kernel
theorem d_M_canStep_86 : decode b_M_canStep 86 = .ok (.getfield 67, 3) := by decide +kernel
theorem d_M_canStep_89 : decode b_M_canStep 89 = .ok (.bipush 24, 2) := by decide +kernel
theorem d_M_canStep_91 : decode b_M_canStep 91 = .ok (.aload_n 0, 1) := by decide +kernel
theorem d_M_canStep_92 : decode b_M_canStep 92 = .ok (.getfield 168, 3) := by decide +kernel
theorem d_M_canStep_95 : decode b_M_canStep 95 = .ok (.imul, 1) := by decide +kernel
theorem d_M_canStep_96 : decode b_M_canStep 96 = .ok (.iload_n 1, 1) := by decide +kernel
theorem d_M_canStep_97 : decode b_M_canStep 97 = .ok (.iadd, 1) := by decide +kernel
theorem d_M_canStep_98 : decode b_M_canStep 98 = .ok (.baload, 1) := by decide +kernel
theorem d_M_canStep_99 : decode b_M_canStep 99 = .ok (.ifCond .ne 7, 3) := by decide +kernel
theorem d_M_canStep_102 : decode b_M_canStep 102 = .ok (.iconst 1, 1) := by decide +kernel
theorem d_M_canStep_103 : decode b_M_canStep 103 = .ok (.goto 4, 3) := by decide +kernel
theorem d_M_canStep_106 : decode b_M_canStep 106 = .ok (.iconst 0, 1) := by decide +kernel
theorem d_M_canStep_107 : decode b_M_canStep 107 = .ok (.ireturn, 1) := by decide +kernel
section
variable {p : Program} {l : Launch} {e : Env} {s : State} {m : MethodId} {args : Array Value} {below : List Frame} {meth : Method} {c : Code} {H : Heap} {locs : List Loc} {ls : Array Slot} {D : va_G} {A : Nat → Prop} {h o : Nat → Nat} {t v : Nat → ClassId}
def f_M_canStep_102 (u0 : St) : Option (Int32) :=
  some 1
set_option maxHeartbeats 4000000 in
set_option maxRecDepth 100000 in
theorem k_M_canStep_102 {u0 : St} {r : Int32} (X : sr_X D (tM t) b_M_canStep 3 R_M w_M_canStep p s m args meth c A (some .boolean)) (Z : sr_Z D A s.heap (wM h t u0) H locs) (hl : lv_has ls 3 []) (hf : f_M_canStep_102 u0 = some r) : W p l e (sr_rm 1 21) s m args below meth c H locs 0 0 (sr_Qi D (tM t) below args s A (wM h t u0) r) (F0 m 102 ls []) := by
  have hx := X.1
  have hb := X.2.1
  have hK := X.2.2.2.2.2.2.1
  unfold f_M_canStep_102 at hf
  refine lv_iconst (v := 1) hx hb d_M_canStep_102 (by decide) ?_
  refine lv_goto (tgt := 107) hx hb d_M_canStep_103 rfl ?_
  cases hf
  exact sr_retz X Z (by decide) d_M_canStep_107
def f_M_canStep_85 (u0 : St) (x1 : Int32) : Option (Int32) :=
  (sr_ald 192 (u0 25) ((24 * (u0 33 0)) + x1)).bind fun v_10 =>
  if v_10 = 0 then
    f_M_canStep_102 u0
  else
    some 0
set_option maxHeartbeats 4000000 in
set_option maxRecDepth 100000 in
theorem k_M_canStep_85 {u0 : St} {x1 : Int32} {r : Int32} (X : sr_X D (tM t) b_M_canStep 3 R_M w_M_canStep p s m args meth c A (some .boolean)) (Z : sr_Z D A s.heap (wM h t u0) H locs) (hl : lv_has ls 3 [(0, .ref (h 0)), (1, .int x1)]) (hf : f_M_canStep_85 u0 x1 = some r) : W p l e (sr_rm 1 21) s m args below meth c H locs 0 0 (sr_Qi D (tM t) below args s A (wM h t u0) r) (F0 m 85 ls []) := by
  have hx := X.1
  have hb := X.2.1
  have hK := X.2.2.2.2.2.2.1
  unfold f_M_canStep_85 at hf
  refine lv_aload_n hx hb d_M_canStep_85 rfl (lv_at hl 0 rfl) ?_
  refine g_M_67_M X Z d_M_canStep_86 ?_
  refine lv_bipush (v := 24) hx hb d_M_canStep_89 (by decide) ?_
  refine lv_aload_n hx hb d_M_canStep_91 rfl (lv_at hl 0 rfl) ?_
  refine g_M_168_M X Z d_M_canStep_92 ?_
  refine lv_imul hx hb d_M_canStep_95 ?_
  refine lv_iload_n hx hb d_M_canStep_96 rfl (lv_at hl 1 rfl) ?_
  refine lv_iadd hx hb d_M_canStep_97 ?_
  obtain ⟨v_10, e_11, hf⟩ := sr_b hf
  refine sr_zald hx hb hK Z 20 19 rfl rfl e_11 d_M_canStep_98 ?_
  refine lv_if_ne (tgt := 106) hx hb d_M_canStep_99 rfl (fun q_12 => ?_) (fun q_12 => ?_)
  · have hf := sr_if q_12 hf
    refine lv_iconst (v := 0) hx hb d_M_canStep_106 (by decide) ?_
    cases hf
    exact sr_retz X Z (by decide) d_M_canStep_107
  · have hf := sr_it q_12 hf
    exact k_M_canStep_102 X Z (lv_sub hl [] rfl) hf
def f_M_canStep_48 (k11 : Int32 → Int32 → Option (Int32)) (u0 : St) (x1 : Int32) (x2 : Int32) : Option (Int32) :=
  k11 x1 (x2 + 1)
set_option maxHeartbeats 4000000 in
set_option maxRecDepth 100000 in
theorem k_M_canStep_48 {k11 : Int32 → Int32 → Option (Int32)} {u0 : St} {x1 : Int32} {x2 : Int32} {r : Int32} (X : sr_X D (tM t) b_M_canStep 3 R_M w_M_canStep p s m args meth c A (some .boolean)) (hk11 : ∀ (x1 : Int32) (x2 : Int32) (H : Heap) (locs : List Loc) (ls : Array Slot), sr_Z D A s.heap (wM h t u0) H locs → lv_has ls 3 [(0, .ref (h 0)), (1, .int x1), (2, .int x2)] → k11 x1 x2 = some r → W p l e (sr_rm 1 21) s m args below meth c H locs 0 0 (sr_Qi D (tM t) below args s A (wM h t u0) r) (F0 m 11 ls [])) (Z : sr_Z D A s.heap (wM h t u0) H locs) (hl : lv_has ls 3 [(0, .ref (h 0)), (1, .int x1), (2, .int x2)]) (hf : f_M_canStep_48 k11 u0 x1 x2 = some r) : W p l e (sr_rm 1 21) s m args below meth c H locs 0 0 (sr_Qi D (tM t) below args s A (wM h t u0) r) (F0 m 48 ls []) := by
  have hx := X.1
  have hb := X.2.1
  have hK := X.2.2.2.2.2.2.1
  unfold f_M_canStep_48 at hf
  refine lv_iinc (k := 2) (v := x2 + 1) (lv' := [(2, .int (x2 + 1)), (0, .ref (h 0)), (1, .int x1)]) hx hb d_M_canStep_48 hl rfl rfl (by decide) rfl (fun ls hl => ?_)
  refine lv_goto (tgt := 11) hx hb d_M_canStep_51 rfl ?_
  exact hk11 x1 (x2 + 1) _ _ _ Z (lv_sub hl [1, 2, 0] rfl) hf
def f_M_canStep_11 (k11 : Int32 → Int32 → Option (Int32)) (u0 : St) (x1 : Int32) (x2 : Int32) : Option (Int32) :=
  if (u0 7 0) ≤ x2 then
    some 1
  else
    (sr_ald 16 (u0 9) x2).bind fun v_17 =>
    if v_17 = x1 then
      (sr_ald 128 (u0 26) ((16 * (u0 33 0)) + x2)).bind fun v_20 =>
      if v_20 = 0 then
        some 0
      else
        f_M_canStep_48 k11 u0 x1 x2
    else
      f_M_canStep_48 k11 u0 x1 x2
set_option maxHeartbeats 4000000 in
set_option maxRecDepth 100000 in
theorem k_M_canStep_11 {k11 : Int32 → Int32 → Option (Int32)} {u0 : St} {x1 : Int32} {x2 : Int32} {r : Int32} (X : sr_X D (tM t) b_M_canStep 3 R_M w_M_canStep p s m args meth c A (some .boolean)) (hk11 : ∀ (x1 : Int32) (x2 : Int32) (H : Heap) (locs : List Loc) (ls : Array Slot), sr_Z D A s.heap (wM h t u0) H locs → lv_has ls 3 [(0, .ref (h 0)), (1, .int x1), (2, .int x2)] → k11 x1 x2 = some r → W p l e (sr_rm 1 21) s m args below meth c H locs 0 0 (sr_Qi D (tM t) below args s A (wM h t u0) r) (F0 m 11 ls [])) (Z : sr_Z D A s.heap (wM h t u0) H locs) (hl : lv_has ls 3 [(0, .ref (h 0)), (1, .int x1), (2, .int x2)]) (hf : f_M_canStep_11 k11 u0 x1 x2 = some r) : W p l e (sr_rm 1 21) s m args below meth c H locs 0 0 (sr_Qi D (tM t) below args s A (wM h t u0) r) (F0 m 11 ls []) := by
  have hx := X.1
  have hb := X.2.1
  have hK := X.2.2.2.2.2.2.1
  unfold f_M_canStep_11 at hf
  refine lv_iload_n hx hb d_M_canStep_11 rfl (lv_at hl 2 rfl) ?_
  refine lv_aload_n hx hb d_M_canStep_12 rfl (lv_at hl 0 rfl) ?_
  refine g_M_115_M X Z d_M_canStep_13 ?_
  refine lv_icmp_ge (tgt := 54) hx hb d_M_canStep_16 rfl (fun q_16 => ?_) (fun q_16 => ?_)
  · have hf := sr_it q_16 hf
    refine lv_iconst (v := 1) hx hb d_M_canStep_54 (by decide) ?_
    cases hf
    exact sr_retz X Z (by decide) d_M_canStep_55
  · have hf := sr_if q_16 hf
    refine lv_aload_n hx hb d_M_canStep_19 rfl (lv_at hl 0 rfl) ?_
    refine g_M_31_M X Z d_M_canStep_20 ?_
    refine lv_iload_n hx hb d_M_canStep_23 rfl (lv_at hl 2 rfl) ?_
    obtain ⟨v_17, e_18, hf⟩ := sr_b hf
    refine sr_iald hx hb hK Z 8 7 rfl rfl e_18 d_M_canStep_24 ?_
    refine lv_iload_n hx hb d_M_canStep_25 rfl (lv_at hl 1 rfl) ?_
    refine lv_icmp_ne (tgt := 48) hx hb d_M_canStep_26 rfl (fun q_19 => ?_) (fun q_19 => ?_)
    · have hf := sr_if q_19 hf
      exact k_M_canStep_48 X hk11 Z (lv_sub hl [0, 1, 2] rfl) hf
    · have hf := sr_it q_19 hf
      refine lv_aload_n hx hb d_M_canStep_29 rfl (lv_at hl 0 rfl) ?_
      refine g_M_71_M X Z d_M_canStep_30 ?_
      refine lv_bipush (v := 16) hx hb d_M_canStep_33 (by decide) ?_
      refine lv_aload_n hx hb d_M_canStep_35 rfl (lv_at hl 0 rfl) ?_
      refine g_M_168_M X Z d_M_canStep_36 ?_
      refine lv_imul hx hb d_M_canStep_39 ?_
      refine lv_iload_n hx hb d_M_canStep_40 rfl (lv_at hl 2 rfl) ?_
      refine lv_iadd hx hb d_M_canStep_41 ?_
      obtain ⟨v_20, e_21, hf⟩ := sr_b hf
      refine sr_iald hx hb hK Z 21 20 rfl rfl e_21 d_M_canStep_42 ?_
      refine lv_if_ne (tgt := 48) hx hb d_M_canStep_43 rfl (fun q_22 => ?_) (fun q_22 => ?_)
      · have hf := sr_if q_22 hf
        exact k_M_canStep_48 X hk11 Z (lv_sub hl [0, 1, 2] rfl) hf
      · have hf := sr_it q_22 hf
        refine lv_iconst (v := 0) hx hb d_M_canStep_46 (by decide) ?_
        cases hf
        exact sr_retz X Z (by decide) d_M_canStep_47
def f_M_canStep_11_it (u0 : St) : Nat → Int32 → Int32 → Option (Int32)
  | 0 => fun _ _ => none
  | n + 1 => fun x1 x2 => f_M_canStep_11 (f_M_canStep_11_it u0 n) u0 x1 x2
set_option maxHeartbeats 4000000 in
set_option maxRecDepth 100000 in
theorem k_M_canStep_11_it {u0 : St} {r : Int32} (X : sr_X D (tM t) b_M_canStep 3 R_M w_M_canStep p s m args meth c A (some .boolean)) (n : Nat) : ∀ {x1 : Int32} {x2 : Int32} {H : Heap} {locs : List Loc} {ls : Array Slot}, sr_Z D A s.heap (wM h t u0) H locs → lv_has ls 3 [(0, .ref (h 0)), (1, .int x1), (2, .int x2)] → f_M_canStep_11_it u0 n x1 x2 = some r → W p l e (sr_rm 1 21) s m args below meth c H locs 0 0 (sr_Qi D (tM t) below args s A (wM h t u0) r) (F0 m 11 ls []) := by
  induction n with
  | zero => intro x1 x2 H locs ls Z hl hf; exact absurd hf (by simp [f_M_canStep_11_it])
  | succ n ih =>
    intro x1 x2 H locs ls Z hl hf
    exact k_M_canStep_11 X (fun x1 x2 H locs ls Z hl hf => ih Z hl hf) Z hl hf
def f_M_canStep (u0 : St) (x1 : Int32) : Option (Int32) :=
  (f_M_st u0 x1).bind fun v_1 =>
  if v_1 = 1 then
    f_M_canStep_11_it u0 60 x1 0
  else
    (f_M_st u0 x1).bind fun v_4 =>
    if v_4 = 4 then
      f_M_canStep_102 u0
    else
      (f_M_st u0 x1).bind fun v_7 =>
      if v_7 = 6 then
        f_M_canStep_85 u0 x1
      else
        (f_M_st u0 x1).bind fun v_13 =>
        if v_13 = 7 then
          f_M_canStep_85 u0 x1
        else
          some 0
set_option maxHeartbeats 4000000 in
set_option maxRecDepth 100000 in
theorem k_M_canStep_0 {u0 : St} {x1 : Int32} {r : Int32} (X : sr_X D (tM t) b_M_canStep 3 R_M w_M_canStep p s m args meth c A (some .boolean)) (Z : sr_Z D A s.heap (wM h t u0) H locs) (hl : lv_has ls 3 [(0, .ref (h 0)), (1, .int x1)]) (hf : f_M_canStep u0 x1 = some r) : W p l e (sr_rm 1 21) s m args below meth c H locs 0 0 (sr_Qi D (tM t) below args s A (wM h t u0) r) (F0 m 0 ls []) := by
  have hx := X.1
  have hb := X.2.1
  have hK := X.2.2.2.2.2.2.1
  unfold f_M_canStep at hf
  refine lv_aload_n hx hb d_M_canStep_0 rfl (lv_at hl 0 rfl) ?_
  refine lv_iload_n hx hb d_M_canStep_1 rfl (lv_at hl 1 rfl) ?_
  obtain ⟨v_1, e_2, hf⟩ := sr_b hf
  refine sr_cVi (As := [.int x1]) (rest := []) X Z sr_cut_self hK (c_M_st e_2) (cw_M_171 X.2.2.2.2.2.1 (by decide)) 0 rfl rfl rfl hl rfl (Nat.le_of_ble_eq_true rfl) d_M_canStep_2 (fun H locs Z => ?_)
  refine lv_iconst (v := 1) hx hb d_M_canStep_5 (by decide) ?_
  refine lv_icmp_ne (tgt := 56) hx hb d_M_canStep_6 rfl (fun q_3 => ?_) (fun q_3 => ?_)
  · have hf := sr_if q_3 hf
    refine lv_aload_n hx hb d_M_canStep_56 rfl (lv_at hl 0 rfl) ?_
    refine lv_iload_n hx hb d_M_canStep_57 rfl (lv_at hl 1 rfl) ?_
    obtain ⟨v_4, e_5, hf⟩ := sr_b hf
    refine sr_cVi (As := [.int x1]) (rest := []) X Z sr_cut_self hK (c_M_st e_5) (cw_M_171 X.2.2.2.2.2.1 (by decide)) 0 rfl rfl rfl hl rfl (Nat.le_of_ble_eq_true rfl) d_M_canStep_58 (fun H locs Z => ?_)
    refine lv_iconst (v := 4) hx hb d_M_canStep_61 (by decide) ?_
    refine lv_icmp_eq (tgt := 102) hx hb d_M_canStep_62 rfl (fun q_6 => ?_) (fun q_6 => ?_)
    · have hf := sr_it q_6 hf
      exact k_M_canStep_102 X Z (lv_sub hl [] rfl) hf
    · have hf := sr_if q_6 hf
      refine lv_aload_n hx hb d_M_canStep_65 rfl (lv_at hl 0 rfl) ?_
      refine lv_iload_n hx hb d_M_canStep_66 rfl (lv_at hl 1 rfl) ?_
      obtain ⟨v_7, e_8, hf⟩ := sr_b hf
      refine sr_cVi (As := [.int x1]) (rest := []) X Z sr_cut_self hK (c_M_st e_8) (cw_M_171 X.2.2.2.2.2.1 (by decide)) 0 rfl rfl rfl hl rfl (Nat.le_of_ble_eq_true rfl) d_M_canStep_67 (fun H locs Z => ?_)
      refine lv_bipush (v := 6) hx hb d_M_canStep_70 (by decide) ?_
      refine lv_icmp_eq (tgt := 85) hx hb d_M_canStep_72 rfl (fun q_9 => ?_) (fun q_9 => ?_)
      · have hf := sr_it q_9 hf
        exact k_M_canStep_85 X Z (lv_sub hl [0, 1] rfl) hf
      · have hf := sr_if q_9 hf
        refine lv_aload_n hx hb d_M_canStep_75 rfl (lv_at hl 0 rfl) ?_
        refine lv_iload_n hx hb d_M_canStep_76 rfl (lv_at hl 1 rfl) ?_
        obtain ⟨v_13, e_14, hf⟩ := sr_b hf
        refine sr_cVi (As := [.int x1]) (rest := []) X Z sr_cut_self hK (c_M_st e_14) (cw_M_171 X.2.2.2.2.2.1 (by decide)) 0 rfl rfl rfl hl rfl (Nat.le_of_ble_eq_true rfl) d_M_canStep_77 (fun H locs Z => ?_)
        refine lv_bipush (v := 7) hx hb d_M_canStep_80 (by decide) ?_
        refine lv_icmp_ne (tgt := 106) hx hb d_M_canStep_82 rfl (fun q_15 => ?_) (fun q_15 => ?_)
        · have hf := sr_if q_15 hf
          refine lv_iconst (v := 0) hx hb d_M_canStep_106 (by decide) ?_
          cases hf
          exact sr_retz X Z (by decide) d_M_canStep_107
        · have hf := sr_it q_15 hf
          exact k_M_canStep_85 X Z (lv_sub hl [0, 1] rfl) hf
  · have hf := sr_it q_3 hf
    refine lv_iconst (v := 0) hx hb d_M_canStep_9 (by decide) ?_
    refine lv_istore_n (lv' := [(2, .int 0), (0, .ref (h 0)), (1, .int x1)]) hx hb d_M_canStep_10 rfl hl (by decide) rfl (fun ls hl => ?_)
    exact k_M_canStep_11_it X _ Z (lv_sub hl [1, 2, 0] rfl) hf
end
set_option maxHeartbeats 4000000 in
set_option maxRecDepth 100000 in
theorem c_M_canStep {l : Launch} {D : va_G} {h : Nat → Nat} {t : Nat → ClassId} {sz : Nat} {u0 : St} {x1 : Int32} {r : Int32} (hf : f_M_canStep u0 x1 = some r) : sr_Ci l y_M_canStep w_M_canStep (sr_rm 1 21) D (tM t) (wM h t u0) (wM h t u0) sz [.ref (h 0), .int x1] r := by
  refine Met.ofW (cc := b_M_canStep) (maxL := 3) (ret := (some .boolean)) (by decide) rfl ?_
  intro p e s m args below meth c s₁ B hml hv
  obtain ⟨rfl, hsz, hP, hK, hD0⟩ := hv
  subst hsz
  have X : sr_X D (tM t) b_M_canStep 3 R_M w_M_canStep p s m _ meth c (va_A (wM h t u0) s.heap.size) (some .boolean) := ⟨B.exec, B.bytes, hml, findClass_of_methodNamed B.named, B.notSynchronized, atoms_spec (ws := w_M_canStep) B.pre, hK, fun q h => Or.inr h, B.returns⟩
  have Z : sr_Z D (va_A (wM h t u0) s.heap.size) s.heap (wM h t u0) s.heap [] := ⟨hP, hD0.self, va_S.rf⟩
  have hl := lv_entry ([.ref (h 0), .int x1] : List Value) (n := 3) (Nat.le_of_ble_eq_true rfl)
  rw [lg_entry_eq]
  exact k_M_canStep_0 X Z hl hf
/-! M_stepper -/
theorem d_M_stepper_0 : decode b_M_stepper 0 = .ok (.iconst 0, 1) := by decide +kernel
theorem d_M_stepper_1 : decode b_M_stepper 1 = .ok (.istore_n 1, 1) := by decide +kernel
theorem d_M_stepper_2 : decode b_M_stepper 2 = .ok (.iload_n 1, 1) := by decide +kernel
theorem d_M_stepper_3 : decode b_M_stepper 3 = .ok (.aload_n 0, 1) := by decide +kernel
theorem d_M_stepper_4 : decode b_M_stepper 4 = .ok (.getfield 100, 3) := by decide +kernel
theorem d_M_stepper_7 : decode b_M_stepper 7 = .ok (.if_icmp .ge 19, 3) := by decide +kernel
theorem d_M_stepper_10 : decode b_M_stepper 10 = .ok (.aload_n 0, 1) := by decide +kernel
theorem d_M_stepper_11 : decode b_M_stepper 11 = .ok (.iload_n 1, 1) := by decide +kernel
theorem d_M_stepper_12 : decode b_M_stepper 12 = .ok (.invokevirtual 222, 3) := by decide +kernel
theorem d_M_stepper_15 : decode b_M_stepper 15 = .ok (.ifCond .eq 5, 3) := by decide +kernel
theorem d_M_stepper_18 : decode b_M_stepper 18 = .ok (.iload_n 1, 1) := by decide +kernel
theorem d_M_stepper_19 : decode b_M_stepper 19 = .ok (.ireturn, 1) := by decide +kernel
theorem d_M_stepper_20 : decode b_M_stepper 20 = .ok (.iinc 1 1, 3) := by decide +kernel
theorem d_M_stepper_23 : decode b_M_stepper 23 = .ok (.goto (-21), 3) := by decide +kernel
theorem d_M_stepper_26 : decode b_M_stepper 26 = .ok (.iconst (-1), 1) := by decide +kernel
theorem d_M_stepper_27 : decode b_M_stepper 27 = .ok (.ireturn, 1) := by decide +kernel
section
variable {p : Program} {l : Launch} {e : Env} {s : State} {m : MethodId} {args : Array Value} {below : List Frame} {meth : Method} {c : Code} {H : Heap} {locs : List Loc} {ls : Array Slot} {D : va_G} {A : Nat → Prop} {h o : Nat → Nat} {t v : Nat → ClassId}
def f_M_stepper_2 (k2 : Int32 → Option (Int32)) (u0 : St) (x1 : Int32) : Option (Int32) :=
  if (u0 0 0) ≤ x1 then
    some (-1)
  else
    (f_M_canStep u0 x1).bind fun v_2 =>
    if v_2 = 0 then
      k2 (x1 + 1)
    else
      some x1
set_option maxHeartbeats 4000000 in
set_option maxRecDepth 100000 in
theorem k_M_stepper_2 {k2 : Int32 → Option (Int32)} {u0 : St} {x1 : Int32} {r : Int32} (X : sr_X D (tM t) b_M_stepper 2 R_M w_M_stepper p s m args meth c A (some .int)) (hk2 : ∀ (x1 : Int32) (H : Heap) (locs : List Loc) (ls : Array Slot), sr_Z D A s.heap (wM h t u0) H locs → lv_has ls 2 [(0, .ref (h 0)), (1, .int x1)] → k2 x1 = some r → W p l e (sr_rm 2 43) s m args below meth c H locs 0 0 (sr_Qi D (tM t) below args s A (wM h t u0) r) (F0 m 2 ls [])) (Z : sr_Z D A s.heap (wM h t u0) H locs) (hl : lv_has ls 2 [(0, .ref (h 0)), (1, .int x1)]) (hf : f_M_stepper_2 k2 u0 x1 = some r) : W p l e (sr_rm 2 43) s m args below meth c H locs 0 0 (sr_Qi D (tM t) below args s A (wM h t u0) r) (F0 m 2 ls []) := by
  have hx := X.1
  have hb := X.2.1
  have hK := X.2.2.2.2.2.2.1
  unfold f_M_stepper_2 at hf
  refine lv_iload_n hx hb d_M_stepper_2 rfl (lv_at hl 1 rfl) ?_
  refine lv_aload_n hx hb d_M_stepper_3 rfl (lv_at hl 0 rfl) ?_
  refine g_M_100_M X Z d_M_stepper_4 ?_
  refine lv_icmp_ge (tgt := 26) hx hb d_M_stepper_7 rfl (fun q_1 => ?_) (fun q_1 => ?_)
  · have hf := sr_it q_1 hf
    refine lv_iconst (v := -1) hx hb d_M_stepper_26 (by decide) ?_
    cases hf
    exact sr_reti X Z d_M_stepper_27
  · have hf := sr_if q_1 hf
    refine lv_aload_n hx hb d_M_stepper_10 rfl (lv_at hl 0 rfl) ?_
    refine lv_iload_n hx hb d_M_stepper_11 rfl (lv_at hl 1 rfl) ?_
    obtain ⟨v_2, e_3, hf⟩ := sr_b hf
    refine sr_cVi (As := [.int x1]) (rest := []) X Z sr_cut_self hK (c_M_canStep e_3) (cw_M_222 X.2.2.2.2.2.1 (by decide)) 0 rfl rfl rfl hl rfl (Nat.le_of_ble_eq_true rfl) d_M_stepper_12 (fun H locs Z => ?_)
    refine lv_if_eq (tgt := 20) hx hb d_M_stepper_15 rfl (fun q_4 => ?_) (fun q_4 => ?_)
    · have hf := sr_it q_4 hf
      refine lv_iinc (k := 1) (v := x1 + 1) (lv' := [(1, .int (x1 + 1)), (0, .ref (h 0))]) hx hb d_M_stepper_20 hl rfl rfl (by decide) rfl (fun ls hl => ?_)
      refine lv_goto (tgt := 2) hx hb d_M_stepper_23 rfl ?_
      exact hk2 (x1 + 1) _ _ _ Z (lv_sub hl [1, 0] rfl) hf
    · have hf := sr_if q_4 hf
      refine lv_iload_n hx hb d_M_stepper_18 rfl (lv_at hl 1 rfl) ?_
      cases hf
      exact sr_reti X Z d_M_stepper_19
def f_M_stepper_2_it (u0 : St) : Nat → Int32 → Option (Int32)
  | 0 => fun _ => none
  | n + 1 => fun x1 => f_M_stepper_2 (f_M_stepper_2_it u0 n) u0 x1
set_option maxHeartbeats 4000000 in
set_option maxRecDepth 100000 in
theorem k_M_stepper_2_it {u0 : St} {r : Int32} (X : sr_X D (tM t) b_M_stepper 2 R_M w_M_stepper p s m args meth c A (some .int)) (n : Nat) : ∀ {x1 : Int32} {H : Heap} {locs : List Loc} {ls : Array Slot}, sr_Z D A s.heap (wM h t u0) H locs → lv_has ls 2 [(0, .ref (h 0)), (1, .int x1)] → f_M_stepper_2_it u0 n x1 = some r → W p l e (sr_rm 2 43) s m args below meth c H locs 0 0 (sr_Qi D (tM t) below args s A (wM h t u0) r) (F0 m 2 ls []) := by
  induction n with
  | zero => intro x1 H locs ls Z hl hf; exact absurd hf (by simp [f_M_stepper_2_it])
  | succ n ih =>
    intro x1 H locs ls Z hl hf
    exact k_M_stepper_2 X (fun x1 H locs ls Z hl hf => ih Z hl hf) Z hl hf
def f_M_stepper (u0 : St) : Option (Int32) :=
  f_M_stepper_2_it u0 60 0
set_option maxHeartbeats 4000000 in
set_option maxRecDepth 100000 in
theorem k_M_stepper_0 {u0 : St} {r : Int32} (X : sr_X D (tM t) b_M_stepper 2 R_M w_M_stepper p s m args meth c A (some .int)) (Z : sr_Z D A s.heap (wM h t u0) H locs) (hl : lv_has ls 2 [(0, .ref (h 0))]) (hf : f_M_stepper u0 = some r) : W p l e (sr_rm 2 43) s m args below meth c H locs 0 0 (sr_Qi D (tM t) below args s A (wM h t u0) r) (F0 m 0 ls []) := by
  have hx := X.1
  have hb := X.2.1
  have hK := X.2.2.2.2.2.2.1
  unfold f_M_stepper at hf
  refine lv_iconst (v := 0) hx hb d_M_stepper_0 (by decide) ?_
  refine lv_istore_n (lv' := [(1, .int 0), (0, .ref (h 0))]) hx hb d_M_stepper_1 rfl hl (by decide) rfl (fun ls hl => ?_)
  exact k_M_stepper_2_it X _ Z (lv_sub hl [1, 0] rfl) hf
end
set_option maxHeartbeats 4000000 in
set_option maxRecDepth 100000 in
theorem c_M_stepper {l : Launch} {D : va_G} {h : Nat → Nat} {t : Nat → ClassId} {sz : Nat} {u0 : St} {r : Int32} (hf : f_M_stepper u0 = some r) : sr_Ci l y_M_stepper w_M_stepper (sr_rm 2 43) D (tM t) (wM h t u0) (wM h t u0) sz [.ref (h 0)] r := by
  refine Met.ofW (cc := b_M_stepper) (maxL := 2) (ret := (some .int)) (by decide) rfl ?_
  intro p e s m args below meth c s₁ B hml hv
  obtain ⟨rfl, hsz, hP, hK, hD0⟩ := hv
  subst hsz
  have X : sr_X D (tM t) b_M_stepper 2 R_M w_M_stepper p s m _ meth c (va_A (wM h t u0) s.heap.size) (some .int) := ⟨B.exec, B.bytes, hml, findClass_of_methodNamed B.named, B.notSynchronized, atoms_spec (ws := w_M_stepper) B.pre, hK, fun q h => Or.inr h, B.returns⟩
  have Z : sr_Z D (va_A (wM h t u0) s.heap.size) s.heap (wM h t u0) s.heap [] := ⟨hP, hD0.self, va_S.rf⟩
  have hl := lv_entry ([.ref (h 0)] : List Value) (n := 2) (Nat.le_of_ble_eq_true rfl)
  rw [lg_entry_eq]
  exact k_M_stepper_0 X Z hl hf
