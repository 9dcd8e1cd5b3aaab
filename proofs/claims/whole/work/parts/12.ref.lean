/-! M_take -/
theorem d_M_take_0 : decode b_M_take 0 = .ok (.aload_n 0, 1) := by decide +kernel
theorem d_M_take_1 : decode b_M_take 1 = .ok (.getfield 77, 3) := by decide +kernel
theorem d_M_take_4 : decode b_M_take 4 = .ok (.bipush 16, 2) := by decide +kernel
theorem d_M_take_6 : decode b_M_take 6 = .ok (.aload_n 0, 1) := by decide +kernel
theorem d_M_take_7 : decode b_M_take 7 = .ok (.getfield 168, 3) := by decide +kernel
theorem d_M_take_10 : decode b_M_take 10 = .ok (.imul, 1) := by decide +kernel
theorem d_M_take_11 : decode b_M_take 11 = .ok (.iload_n 2, 1) := by decide +kernel
theorem d_M_take_12 : decode b_M_take 12 = .ok (.iadd, 1) := by decide +kernel
theorem d_M_take_13 : decode b_M_take 13 = .ok (.iaload, 1) := by decide +kernel
theorem d_M_take_14 : decode b_M_take 14 = .ok (.istore_n 3, 1) := by decide +kernel
theorem d_M_take_15 : decode b_M_take 15 = .ok (.aload_n 0, 1) := by decide +kernel
theorem d_M_take_16 : decode b_M_take 16 = .ok (.getfield 83, 3) := by decide +kernel
theorem d_M_take_19 : decode b_M_take 19 = .ok (.bipush 16, 2) := by decide +kernel
theorem d_M_take_21 : decode b_M_take 21 = .ok (.aload_n 0, 1) := by decide +kernel
theorem d_M_take_22 : decode b_M_take 22 = .ok (.getfield 168, 3) := by decide +kernel
theorem d_M_take_25 : decode b_M_take 25 = .ok (.imul, 1) := by decide +kernel
theorem d_M_take_26 : decode b_M_take 26 = .ok (.iload_n 2, 1) := by decide +kernel
theorem d_M_take_27 : decode b_M_take 27 = .ok (.iadd, 1) := by decide +kernel
theorem d_M_take_28 : decode b_M_take 28 = .ok (.iconst (-1), 1) := by decide +kernel
theorem d_M_take_29 : decode b_M_take 29 = .ok (.iastore, 1) := by decide +kernel
theorem d_M_take_30 : decode b_M_take 30 = .ok (.aload_n 0, 1) := by decide +kernel
theorem d_M_take_31 : decode b_M_take 31 = .ok (.getfield 67, 3) := by decide +kernel
theorem d_M_take_34 : decode b_M_take 34 = .ok (.bipush 24, 2) := by decide +kernel
theorem d_M_take_36 : decode b_M_take 36 = .ok (.aload_n 0, 1) := by decide +kernel
theorem d_M_take_37 : decode b_M_take 37 = .ok (.getfield 168, 3) := by decide +kernel
theorem d_M_take_40 : decode b_M_take 40 = .ok (.imul, 1) := by decide +kernel
theorem d_M_take_41 : decode b_M_take 41 = .ok (.iload_n 1, 1) := by decide +kernel
theorem d_M_take_42 : decode b_M_take 42 = .ok (.iadd, 1) := by decide +kernel
theorem d_M_take_43 : decode b_M_take 43 = .ok (.iconst 1, 1) := by decide +kernel
theorem d_M_take_44 : decode b_M_take 44 = .ok (.bastore, 1) := by decide +kernel
theorem d_M_take_45 : decode b_M_take 45 = .ok (.aload_n 0, 1) := by decide +kernel
theorem d_M_take_46 : decode b_M_take 46 = .ok (.getfield 64, 3) := by decide +kernel
theorem d_M_take_49 : decode b_M_take 49 = .ok (.bipush 24, 2) := by decide +kernel
theorem d_M_take_51 : decode b_M_take 51 = .ok (.aload_n 0, 1) := by decide +kernel
theorem d_M_take_52 : decode b_M_take 52 = .ok (.getfield 168, 3) := by decide +kernel
theorem d_M_take_55 : decode b_M_take 55 = .ok (.imul, 1) := by decide +kernel
theorem d_M_take_56 : decode b_M_take 56 = .ok (.iload_n 3, 1) := by decide +kernel
theorem d_M_take_57 : decode b_M_take 57 = .ok (.iadd, 1) := by decide +kernel
theorem d_M_take_58 : decode b_M_take 58 = .ok (.iload_n 1, 1) := by decide +kernel
theorem d_M_take_59 : decode b_M_take 59 = .ok (.iastore, 1) := by decide +kernel
theorem d_M_take_60 : decode b_M_take 60 = .ok (.aload_n 0, 1) := by decide +kernel
theorem d_M_take_61 : decode b_M_take 61 = .ok (.bipush 7, 2) := by decide +kernel
theorem d_M_take_63 : decode b_M_take 63 = .ok (.iload_n 3, 1) := by decide +kernel
theorem d_M_take_64 : decode b_M_take 64 = .ok (.invokevirtual 186, 3) := by decide +kernel
theorem d_M_take_67 : decode b_M_take 67 = .ok (.aload_n 0, 1) := by decide +kernel
theorem d_M_take_68 : decode b_M_take 68 = .ok (.getfield 58, 3) := by decide +kernel
theorem d_M_take_71 : decode b_M_take 71 = .ok (.bipush 24, 2) := by decide +kernel
theorem d_M_take_73 : decode b_M_take 73 = .ok (.aload_n 0, 1) := by decide +kernel
theorem d_M_take_74 : decode b_M_take 74 = .ok (.getfield 168, 3) := by decide +kernel
theorem d_M_take_77 : decode b_M_take 77 = .ok (.imul, 1) := by decide +kernel
theorem d_M_take_78 : decode b_M_take 78 = .ok (.iload_n 3, 1) := by decide +kernel
theorem d_M_take_79 : decode b_M_take 79 = .ok (.iadd, 1) := by decide +kernel
theorem d_M_take_80 : decode b_M_take 80 = .ok (.aload_n 0, 1) := by decide +kernel
theorem d_M_take_81 : decode b_M_take 81 = .ok (.getfield 80, 3) := by decide +kernel
theorem d_M_take_84 : decode b_M_take 84 = .ok (.bipush 16, 2) := by decide +kernel
theorem d_M_take_86 : decode b_M_take 86 = .ok (.aload_n 0, 1) := by decide +kernel
theorem d_M_take_87 : decode b_M_take 87 = .ok (.getfield 168, 3) := by decide +kernel
theorem d_M_take_90 : decode b_M_take 90 = .ok (.imul, 1) := by decide +kernel
theorem d_M_take_91 : decode b_M_take 91 = .ok (.iload_n 2, 1) := by decide +kernel
theorem d_M_take_92 : decode b_M_take 92 = .ok (.iadd, 1) := by decide +kernel
theorem d_M_take_93 : decode b_M_take 93 = .ok (.iaload, 1) := by decide +kernel
theorem d_M_take_94 : decode b_M_take 94 = .ok (.iastore, 1) := by decide +kernel
theorem d_M_take_95 : decode b_M_take 95 = .ok (.aload_n 0, 1) := by decide +kernel
theorem d_M_take_96 : decode b_M_take 96 = .ok (.iload_n 3, 1) := by decide +kernel
theorem d_M_take_97 : decode b_M_take 97 = .ok (.iconst (-1), 1) := by decide +kernel
theorem d_M_take_98 : decode b_M_take 98 = .ok (.invokevirtual 213, 3) := by decide +kernel
theorem d_M_take_101 : decode b_M_take 101 = .ok (.aload_n 0, 1) := by decide +kernel
theorem d_M_take_102 : decode b_M_take 102 = .ok (.bipush 100, 2) := by decide +kernel
theorem d_M_take_104 : decode b_M_take 104 = .ok (.iload_n 2, 1) := by decide +kernel
theorem d_M_take_105 : decode b_M_take 105 = .ok (.iadd, 1) := by decide +kernel
theorem d_M_take_106 : decode b_M_take 106 = .ok (.iload_n 3, 1) := by decide +kernel
theorem d_M_take_107 : decode b_M_take 107 = .ok (.invokevirtual 213, 3) := by decide +kernel
theorem d_M_take_110 : decode b_M_take 110 = .ok (.aload_n 0, 1) := by decide +kernel
theorem d_M_take_111 : decode b_M_take 111 = .ok (.iload_n 3, 1) := by decide +kernel
theorem d_M_take_112 : decode b_M_take 112 = .ok (.iconst 2, 1) := by decide +kernel
theorem d_M_take_113 : decode b_M_take 113 = .ok (.invokevirtual 107, 3) := by decide +kernel
theorem d_M_take_116 : decode b_M_take 116 = .ok (.istore 4, 2) := by decide +kernel
theorem d_M_take_118 : decode b_M_take 118 = .ok (.iload 4, 2) := by decide +kernel
theorem d_M_take_120 : decode b_M_take 120 = .ok (.ifCond .ge 26, 3) := by decide +kernel
theorem d_M_take_123 : decode b_M_take 123 = .ok (.aload_n 0, 1) := by decide +kernel
theorem d_M_take_124 : decode b_M_take 124 = .ok (.iload_n 3, 1) := by decide +kernel
theorem d_M_take_125 : decode b_M_take 125 = .ok (.bipush 7, 2) := by decide +kernel
theorem d_M_take_127 : decode b_M_take 127 = .ok (.invokevirtual 183, 3) := by decide +kernel
theorem d_M_take_130 : decode b_M_take 130 = .ok (.aload_n 0, 1) := by decide +kernel
theorem d_M_take_131 : decode b_M_take 131 = .ok (.getfield 67, 3) := by decide +kernel
theorem d_M_take_134 : decode b_M_take 134 = .ok (.bipush 24, 2) := by decide +kernel
theorem d_M_take_136 : decode b_M_take 136 = .ok (.aload_n 0, 1) := by decide +kernel
theorem d_M_take_137 : decode b_M_take 137 = .ok (.getfield 168, 3) := by decide +kernel
theorem d_M_take_140 : decode b_M_take 140 = .ok (.imul, 1) := by decide +kernel
theorem d_M_take_141 : decode b_M_take 141 = .ok (.iload_n 3, 1) := by decide +kernel
theorem d_M_take_142 : decode b_M_take 142 = .ok (.iadd, 1) := by decide +kernel
theorem d_M_take_143 : decode b_M_take 143 = .ok (.iconst 0, 1) := by decide +kernel
theorem d_M_take_144 : decode b_M_take 144 = .ok (.bastore, 1) := by decide +kernel
theorem d_M_take_145 : decode b_M_take 145 = .ok (.return_, 1) := by decide +kernel
theorem d_M_take_146 : decode b_M_take 146 = .ok (.aload_n 0, 1) := by decide +kernel
theorem d_M_take_147 : decode b_M_take 147 = .ok (.iload_n 3, 1) := by decide +kernel
theorem d_M_take_148 : decode b_M_take 148 = .ok (.iconst 5, 1) := by decide +kernel
theorem d_M_take_149 : decode b_M_take 149 = .ok (.invokevirtual 183, 3) := by decide +kernel
theorem d_M_take_152 : decode b_M_take 152 = .ok (.iload 4, 2) := by decide +kernel
theorem d_M_take_154 : decode b_M_take 154 = .ok (.istore 5, 2) := by decide +kernel
theorem d_M_take_156 : decode b_M_take 156 = .ok (.iload 5, 2) := by decide +kernel
theorem d_M_take_158 : decode b_M_take 158 = .ok (.aload_n 0, 1) := by decide +kernel
theorem d_M_take_159 : decode b_M_take 159 = .ok (.getfield 100, 3) := by decide +kernel
theorem d_M_take_162 : decode b_M_take 162 = .ok (.if_icmp .ge 41, 3) := by decide +kernel
theorem d_M_take_165 : decode b_M_take 165 = .ok (.iload 5, 2) := by decide +kernel
theorem d_M_take_167 : decode b_M_take 167 = .ok (.iload 4, 2) := by decide +kernel
theorem d_M_take_169 : decode b_M_take 169 = .ok (.if_icmp .eq 14, 3) := by decide +kernel
theorem d_M_take_172 : decode b_M_take 172 = .ok (.aload_n 0, 1) := by decide +kernel
theorem d_M_take_173 : decode b_M_take 173 = .ok (.iload 5, 2) := by decide +kernel
theorem d_M_take_175 : decode b_M_take 175 = .ok (.iload 4, 2) := by decide +kernel
theorem d_M_take_177 : decode b_M_take 177 = .ok (.invokevirtual 125, 3) := by decide +kernel
theorem d_M_take_180 : decode b_M_take 180 = .ok (.ifCond .eq 17, 3) := by decide +kernel
theorem d_M_take_183 : decode b_M_take 183 = .ok (.aload_n 0, 1) := by decide +kernel
theorem d_M_take_184 : decode b_M_take 184 = .ok (.iload 5, 2) := by decide +kernel
theorem d_M_take_186 : decode b_M_take 186 = .ok (.iconst 0, 1) := by decide +kernel
theorem d_M_take_187 : decode b_M_take 187 = .ok (.invokevirtual 183, 3) := by decide +kernel
theorem d_M_take_190 : decode b_M_take 190 = .ok (.aload_n 0, 1) := by decide +kernel
theorem d_M_take_191 : decode b_M_take 191 = .ok (.iload 5, 2) := by decide +kernel
theorem d_M_take_193 : decode b_M_take 193 = .ok (.iconst 0, 1) := by decide +kernel
theorem d_M_take_194 : decode b_M_take 194 = .ok (.invokevirtual 189, 3) := by decide +kernel
theorem d_M_take_197 : decode b_M_take 197 = .ok (.iinc 5 1, 3) := by decide +kernel
theorem d_M_take_200 : decode b_M_take 200 = .ok (.goto (-44), 3) := by decide +kernel
theorem d_M_take_203 : decode b_M_take 203 = .ok (.aload_n 0, 1) := by decide +kernel
theorem d_M_take_204 : decode b_M_take 204 = .ok (.iload 4, 2) := by decide +kernel
theorem d_M_take_206 : decode b_M_take 206 = .ok (.iconst 1, 1) := by decide +kernel
theorem d_M_take_207 : decode b_M_take 207 = .ok (.invokevirtual 183, 3) := by decide +kernel
theorem d_M_take_210 : decode b_M_take 210 = .ok (.return_, 1) := by decide +kernel
section
variable {p : Program} {l : Launch} {e : Env} {s : State} {m : MethodId} {args : Array Value} {below : List Frame} {meth : Method} {c : Code} {H : Heap} {locs : List Loc} {ls : Array Slot} {D : va_G} {A : Nat → Prop} {h o : Nat → Nat} {t v : Nat → ClassId}
def f_M_take_197 (k156 : Int32 → Int32 → St → Option (St)) (x4 : Int32) (x5 : Int32) (u0 : St) : Option (St) :=
  k156 x4 (x5 + 1) u0
set_option maxHeartbeats 4000000 in
set_option maxRecDepth 100000 in
theorem k_M_take_197 {k156 : Int32 → Int32 → St → Option (St)} {x4 : Int32} {x5 : Int32} {u0 : St} {u' : St} (X : sr_X D (tM t) b_M_take 6 R_M w_M_take p s m args meth c A none) (hk156 : ∀ (x4 : Int32) (x5 : Int32) (u0 : St) (H : Heap) (locs : List Loc) (ls : Array Slot), sr_Z D A s.heap (wM h t u0) H locs → lv_has ls 6 [(0, .ref (h 0)), (4, .int x4), (5, .int x5)] → k156 x4 x5 u0 = some u' → W p l e (sr_rm 2 48) s m args below meth c H locs 0 0 (sr_Qv D (tM t) below args s A (wM h t u')) (F0 m 156 ls [])) (Z : sr_Z D A s.heap (wM h t u0) H locs) (hl : lv_has ls 6 [(0, .ref (h 0)), (4, .int x4), (5, .int x5)]) (hf : f_M_take_197 k156 x4 x5 u0 = some u') : W p l e (sr_rm 2 48) s m args below meth c H locs 0 0 (sr_Qv D (tM t) below args s A (wM h t u')) (F0 m 197 ls []) := by
  have hx := X.1
  have hb := X.2.1
  have hK := X.2.2.2.2.2.2.1
  unfold f_M_take_197 at hf
  refine lv_iinc (k := 2) (v := x5 + 1) (lv' := [(5, .int (x5 + 1)), (0, .ref (h 0)), (4, .int x4)]) hx hb d_M_take_197 hl rfl rfl (by decide) rfl (fun ls hl => ?_)
  refine lv_goto (tgt := 156) hx hb d_M_take_200 rfl ?_
  exact hk156 x4 (x5 + 1) u0 _ _ _ Z (lv_sub hl [1, 2, 0] rfl) hf
def f_M_take_183 (k156 : Int32 → Int32 → St → Option (St)) (x4 : Int32) (x5 : Int32) (u0 : St) : Option (St) :=
  (f_M_put x5 0 u0).bind fun u_28 =>
  (f_M_setLinks x5 0 u_28).bind fun u_30 =>
  f_M_take_197 k156 x4 x5 u_30
set_option maxHeartbeats 4000000 in
set_option maxRecDepth 100000 in
theorem k_M_take_183 {k156 : Int32 → Int32 → St → Option (St)} {x4 : Int32} {x5 : Int32} {u0 : St} {u' : St} (X : sr_X D (tM t) b_M_take 6 R_M w_M_take p s m args meth c A none) (hk156 : ∀ (x4 : Int32) (x5 : Int32) (u0 : St) (H : Heap) (locs : List Loc) (ls : Array Slot), sr_Z D A s.heap (wM h t u0) H locs → lv_has ls 6 [(0, .ref (h 0)), (4, .int x4), (5, .int x5)] → k156 x4 x5 u0 = some u' → W p l e (sr_rm 2 48) s m args below meth c H locs 0 0 (sr_Qv D (tM t) below args s A (wM h t u')) (F0 m 156 ls [])) (Z : sr_Z D A s.heap (wM h t u0) H locs) (hl : lv_has ls 6 [(0, .ref (h 0)), (4, .int x4), (5, .int x5)]) (hf : f_M_take_183 k156 x4 x5 u0 = some u') : W p l e (sr_rm 2 48) s m args below meth c H locs 0 0 (sr_Qv D (tM t) below args s A (wM h t u')) (F0 m 183 ls []) := by
  have hx := X.1
  have hb := X.2.1
  have hK := X.2.2.2.2.2.2.1
  unfold f_M_take_183 at hf
  refine lv_aload_n hx hb d_M_take_183 rfl (lv_at hl 0 rfl) ?_
  refine lv_iload hx hb d_M_take_184 (lv_at hl 2 rfl) ?_
  refine lv_iconst (v := 0) hx hb d_M_take_186 (by decide) ?_
  obtain ⟨u_28, e_29, hf⟩ := sr_b hf
  refine sr_cVv (As := [.int x5, .int 0]) (rest := []) X Z sr_cut_self hK (c_M_put e_29) (cw_M_183 X.2.2.2.2.2.1 (by decide)) 0 rfl rfl rfl hl rfl (Nat.le_of_ble_eq_true rfl) d_M_take_187 (fun H locs Z => ?_)
  refine lv_aload_n hx hb d_M_take_190 rfl (lv_at hl 0 rfl) ?_
  refine lv_iload hx hb d_M_take_191 (lv_at hl 2 rfl) ?_
  refine lv_iconst (v := 0) hx hb d_M_take_193 (by decide) ?_
  obtain ⟨u_30, e_31, hf⟩ := sr_b hf
  refine sr_cVv (As := [.int x5, .int 0]) (rest := []) X Z sr_cut_self hK (c_M_setLinks e_31) (cw_M_189 X.2.2.2.2.2.1 (by decide)) 0 rfl rfl rfl hl rfl (Nat.le_of_ble_eq_true rfl) d_M_take_194 (fun H locs Z => ?_)
  exact k_M_take_197 X hk156 Z (lv_sub hl [0, 1, 2] rfl) hf
def f_M_take_156 (k156 : Int32 → Int32 → St → Option (St)) (x4 : Int32) (x5 : Int32) (u0 : St) : Option (St) :=
  if (u0 0 0) ≤ x5 then
    (f_M_put x4 1 u0).bind fun u_25 =>
    some u_25
  else
    if x5 = x4 then
      f_M_take_183 k156 x4 x5 u0
    else
      (f_M_below u0 x5 x4).bind fun v_32 =>
      if v_32 = 0 then
        f_M_take_197 k156 x4 x5 u0
      else
        f_M_take_183 k156 x4 x5 u0
set_option maxHeartbeats 4000000 in
set_option maxRecDepth 100000 in
theorem k_M_take_156 {k156 : Int32 → Int32 → St → Option (St)} {x4 : Int32} {x5 : Int32} {u0 : St} {u' : St} (X : sr_X D (tM t) b_M_take 6 R_M w_M_take p s m args meth c A none) (hk156 : ∀ (x4 : Int32) (x5 : Int32) (u0 : St) (H : Heap) (locs : List Loc) (ls : Array Slot), sr_Z D A s.heap (wM h t u0) H locs → lv_has ls 6 [(0, .ref (h 0)), (4, .int x4), (5, .int x5)] → k156 x4 x5 u0 = some u' → W p l e (sr_rm 2 48) s m args below meth c H locs 0 0 (sr_Qv D (tM t) below args s A (wM h t u')) (F0 m 156 ls [])) (Z : sr_Z D A s.heap (wM h t u0) H locs) (hl : lv_has ls 6 [(0, .ref (h 0)), (4, .int x4), (5, .int x5)]) (hf : f_M_take_156 k156 x4 x5 u0 = some u') : W p l e (sr_rm 2 48) s m args below meth c H locs 0 0 (sr_Qv D (tM t) below args s A (wM h t u')) (F0 m 156 ls []) := by
  have hx := X.1
  have hb := X.2.1
  have hK := X.2.2.2.2.2.2.1
  unfold f_M_take_156 at hf
  refine lv_iload hx hb d_M_take_156 (lv_at hl 2 rfl) ?_
  refine lv_aload_n hx hb d_M_take_158 rfl (lv_at hl 0 rfl) ?_
  refine g_M_100_M X Z d_M_take_159 ?_
  refine lv_icmp_ge (tgt := 203) hx hb d_M_take_162 rfl (fun q_24 => ?_) (fun q_24 => ?_)
  · have hf := sr_it q_24 hf
    refine lv_aload_n hx hb d_M_take_203 rfl (lv_at hl 0 rfl) ?_
    refine lv_iload hx hb d_M_take_204 (lv_at hl 1 rfl) ?_
    refine lv_iconst (v := 1) hx hb d_M_take_206 (by decide) ?_
    obtain ⟨u_25, e_26, hf⟩ := sr_b hf
    refine sr_cVv (As := [.int x4, .int 1]) (rest := []) X Z sr_cut_self hK (c_M_put e_26) (cw_M_183 X.2.2.2.2.2.1 (by decide)) 0 rfl rfl rfl hl rfl (Nat.le_of_ble_eq_true rfl) d_M_take_207 (fun H locs Z => ?_)
    cases hf
    exact sr_retv X Z d_M_take_210
  · have hf := sr_if q_24 hf
    refine lv_iload hx hb d_M_take_165 (lv_at hl 2 rfl) ?_
    refine lv_iload hx hb d_M_take_167 (lv_at hl 1 rfl) ?_
    refine lv_icmp_eq (tgt := 183) hx hb d_M_take_169 rfl (fun q_27 => ?_) (fun q_27 => ?_)
    · have hf := sr_it q_27 hf
      exact k_M_take_183 X hk156 Z (lv_sub hl [0, 1, 2] rfl) hf
    · have hf := sr_if q_27 hf
      refine lv_aload_n hx hb d_M_take_172 rfl (lv_at hl 0 rfl) ?_
      refine lv_iload hx hb d_M_take_173 (lv_at hl 2 rfl) ?_
      refine lv_iload hx hb d_M_take_175 (lv_at hl 1 rfl) ?_
      obtain ⟨v_32, e_33, hf⟩ := sr_b hf
      refine sr_cVi (As := [.int x5, .int x4]) (rest := []) X Z sr_cut_self hK (c_M_below e_33) (cw_M_125 X.2.2.2.2.2.1 (by decide)) 0 rfl rfl rfl hl rfl (Nat.le_of_ble_eq_true rfl) d_M_take_177 (fun H locs Z => ?_)
      refine lv_if_eq (tgt := 197) hx hb d_M_take_180 rfl (fun q_34 => ?_) (fun q_34 => ?_)
      · have hf := sr_it q_34 hf
        exact k_M_take_197 X hk156 Z (lv_sub hl [0, 1, 2] rfl) hf
      · have hf := sr_if q_34 hf
        exact k_M_take_183 X hk156 Z (lv_sub hl [0, 1, 2] rfl) hf
def f_M_take_156_it : Nat → Int32 → Int32 → St → Option (St)
  | 0 => fun _ _ _ => none
  | n + 1 => fun x4 x5 u0 => f_M_take_156 (f_M_take_156_it n) x4 x5 u0
set_option maxHeartbeats 4000000 in
set_option maxRecDepth 100000 in
theorem k_M_take_156_it {u' : St} (X : sr_X D (tM t) b_M_take 6 R_M w_M_take p s m args meth c A none) (n : Nat) : ∀ {x4 : Int32} {x5 : Int32} {u0 : St} {H : Heap} {locs : List Loc} {ls : Array Slot}, sr_Z D A s.heap (wM h t u0) H locs → lv_has ls 6 [(0, .ref (h 0)), (4, .int x4), (5, .int x5)] → f_M_take_156_it n x4 x5 u0 = some u' → W p l e (sr_rm 2 48) s m args below meth c H locs 0 0 (sr_Qv D (tM t) below args s A (wM h t u')) (F0 m 156 ls []) := by
  induction n with
  | zero => intro x4 x5 u0 H locs ls Z hl hf; exact absurd hf (by simp [f_M_take_156_it])
  | succ n ih =>
    intro x4 x5 u0 H locs ls Z hl hf
    exact k_M_take_156 X (fun x4 x5 u0 H locs ls Z hl hf => ih Z hl hf) Z hl hf
def f_M_take (x1 : Int32) (x2 : Int32) (u0 : St) : Option (St) :=
  (sr_ald 128 (u0 28) ((16 * (u0 33 0)) + x2)).bind fun v_1 =>
  (sr_ast 128 u0 30 ((16 * (u0 33 0)) + x2) (-1)).bind fun u_3 =>
  (sr_ast 192 u_3 25 ((24 * (u_3 33 0)) + x1) 1).bind fun u_5 =>
  (sr_ast 192 u_5 24 ((24 * (u_5 33 0)) + v_1) x1).bind fun u_7 =>
  (f_M_write 7 v_1 u_7).bind fun u_9 =>
  (sr_ald 128 (u_9 29) ((16 * (u_9 33 0)) + x2)).bind fun v_11 =>
  (sr_ast 192 u_9 22 ((24 * (u_9 33 0)) + v_1) v_11).bind fun u_13 =>
  (f_M_carry v_1 (-1) u_13).bind fun u_15 =>
  (f_M_carry (100 + x2) v_1 u_15).bind fun u_17 =>
  (f_M_inRole u_17 v_1 2).bind fun v_19 =>
  if 0 ≤ v_19 then
    (f_M_put v_1 5 u_17).bind fun u_22 =>
    f_M_take_156_it 60 v_19 v_19 u_22
  else
    (f_M_put v_1 7 u_17).bind fun u_35 =>
    (sr_ast 192 u_35 25 ((24 * (u_35 33 0)) + v_1) 0).bind fun u_37 =>
    some u_37
set_option maxHeartbeats 4000000 in
set_option maxRecDepth 100000 in
theorem k_M_take_0 {x1 : Int32} {x2 : Int32} {u0 : St} {u' : St} (X : sr_X D (tM t) b_M_take 6 R_M w_M_take p s m args meth c A none) (Z : sr_Z D A s.heap (wM h t u0) H locs) (hl : lv_has ls 6 [(0, .ref (h 0)), (1, .int x1), (2, .int x2)]) (hf : f_M_take x1 x2 u0 = some u') : W p l e (sr_rm 2 48) s m args below meth c H locs 0 0 (sr_Qv D (tM t) below args s A (wM h t u')) (F0 m 0 ls []) := by
  have hx := X.1
  have hb := X.2.1
  have hK := X.2.2.2.2.2.2.1
  unfold f_M_take at hf
  refine lv_aload_n hx hb d_M_take_0 rfl (lv_at hl 0 rfl) ?_
  refine g_M_77_M X Z d_M_take_1 ?_
  refine lv_bipush (v := 16) hx hb d_M_take_4 (by decide) ?_
  refine lv_aload_n hx hb d_M_take_6 rfl (lv_at hl 0 rfl) ?_
  refine g_M_168_M X Z d_M_take_7 ?_
  refine lv_imul hx hb d_M_take_10 ?_
  refine lv_iload_n hx hb d_M_take_11 rfl (lv_at hl 2 rfl) ?_
  refine lv_iadd hx hb d_M_take_12 ?_
  obtain ⟨v_1, e_2, hf⟩ := sr_b hf
  refine sr_iald hx hb hK Z 23 22 rfl rfl e_2 d_M_take_13 ?_
  refine lv_istore_n (lv' := [(3, .int v_1), (0, .ref (h 0)), (1, .int x1), (2, .int x2)]) hx hb d_M_take_14 rfl hl (by decide) rfl (fun ls hl => ?_)
  refine lv_aload_n hx hb d_M_take_15 rfl (lv_at hl 1 rfl) ?_
  refine g_M_83_M X Z d_M_take_16 ?_
  refine lv_bipush (v := 16) hx hb d_M_take_19 (by decide) ?_
  refine lv_aload_n hx hb d_M_take_21 rfl (lv_at hl 1 rfl) ?_
  refine g_M_168_M X Z d_M_take_22 ?_
  refine lv_imul hx hb d_M_take_25 ?_
  refine lv_iload_n hx hb d_M_take_26 rfl (lv_at hl 3 rfl) ?_
  refine lv_iadd hx hb d_M_take_27 ?_
  refine lv_iconst (v := -1) hx hb d_M_take_28 (by decide) ?_
  obtain ⟨u_3, e_4, hf⟩ := sr_b hf
  refine sr_iast (wf := (fun q => (wM h t q))) hx hb hK Z 25 24 rfl rfl e_4 (fun _ => rfl) d_M_take_29 (fun H locs Z => ?_)
  refine lv_aload_n hx hb d_M_take_30 rfl (lv_at hl 1 rfl) ?_
  refine g_M_67_M X Z d_M_take_31 ?_
  refine lv_bipush (v := 24) hx hb d_M_take_34 (by decide) ?_
  refine lv_aload_n hx hb d_M_take_36 rfl (lv_at hl 1 rfl) ?_
  refine g_M_168_M X Z d_M_take_37 ?_
  refine lv_imul hx hb d_M_take_40 ?_
  refine lv_iload_n hx hb d_M_take_41 rfl (lv_at hl 2 rfl) ?_
  refine lv_iadd hx hb d_M_take_42 ?_
  refine lv_iconst (v := 1) hx hb d_M_take_43 (by decide) ?_
  obtain ⟨u_5, e_6, hf⟩ := sr_b hf
  refine sr_zast (wf := (fun q => (wM h t q))) hx hb hK Z 20 19 rfl rfl rfl e_6 (fun _ => rfl) d_M_take_44 (fun H locs Z => ?_)
  refine lv_aload_n hx hb d_M_take_45 rfl (lv_at hl 1 rfl) ?_
  refine g_M_64_M X Z d_M_take_46 ?_
  refine lv_bipush (v := 24) hx hb d_M_take_49 (by decide) ?_
  refine lv_aload_n hx hb d_M_take_51 rfl (lv_at hl 1 rfl) ?_
  refine g_M_168_M X Z d_M_take_52 ?_
  refine lv_imul hx hb d_M_take_55 ?_
  refine lv_iload_n hx hb d_M_take_56 rfl (lv_at hl 0 rfl) ?_
  refine lv_iadd hx hb d_M_take_57 ?_
  refine lv_iload_n hx hb d_M_take_58 rfl (lv_at hl 2 rfl) ?_
  obtain ⟨u_7, e_8, hf⟩ := sr_b hf
  refine sr_iast (wf := (fun q => (wM h t q))) hx hb hK Z 19 18 rfl rfl e_8 (fun _ => rfl) d_M_take_59 (fun H locs Z => ?_)
  refine lv_aload_n hx hb d_M_take_60 rfl (lv_at hl 1 rfl) ?_
  refine lv_bipush (v := 7) hx hb d_M_take_61 (by decide) ?_
  refine lv_iload_n hx hb d_M_take_63 rfl (lv_at hl 0 rfl) ?_
  obtain ⟨u_9, e_10, hf⟩ := sr_b hf
  refine sr_cVv (As := [.int 7, .int v_1]) (rest := []) X Z sr_cut_self hK (c_M_write e_10) (cw_M_186 X.2.2.2.2.2.1 (by decide)) 0 rfl rfl rfl hl rfl (Nat.le_of_ble_eq_true rfl) d_M_take_64 (fun H locs Z => ?_)
  refine lv_aload_n hx hb d_M_take_67 rfl (lv_at hl 1 rfl) ?_
  refine g_M_58_M X Z d_M_take_68 ?_
  refine lv_bipush (v := 24) hx hb d_M_take_71 (by decide) ?_
  refine lv_aload_n hx hb d_M_take_73 rfl (lv_at hl 1 rfl) ?_
  refine g_M_168_M X Z d_M_take_74 ?_
  refine lv_imul hx hb d_M_take_77 ?_
  refine lv_iload_n hx hb d_M_take_78 rfl (lv_at hl 0 rfl) ?_
  refine lv_iadd hx hb d_M_take_79 ?_
  refine lv_aload_n hx hb d_M_take_80 rfl (lv_at hl 1 rfl) ?_
  refine g_M_80_M X Z d_M_take_81 ?_
  refine lv_bipush (v := 16) hx hb d_M_take_84 (by decide) ?_
  refine lv_aload_n hx hb d_M_take_86 rfl (lv_at hl 1 rfl) ?_
  refine g_M_168_M X Z d_M_take_87 ?_
  refine lv_imul hx hb d_M_take_90 ?_
  refine lv_iload_n hx hb d_M_take_91 rfl (lv_at hl 3 rfl) ?_
  refine lv_iadd hx hb d_M_take_92 ?_
  obtain ⟨v_11, e_12, hf⟩ := sr_b hf
  refine sr_iald hx hb hK Z 24 23 rfl rfl e_12 d_M_take_93 ?_
  obtain ⟨u_13, e_14, hf⟩ := sr_b hf
  refine sr_iast (wf := (fun q => (wM h t q))) hx hb hK Z 17 16 rfl rfl e_14 (fun _ => rfl) d_M_take_94 (fun H locs Z => ?_)
  refine lv_aload_n hx hb d_M_take_95 rfl (lv_at hl 1 rfl) ?_
  refine lv_iload_n hx hb d_M_take_96 rfl (lv_at hl 0 rfl) ?_
  refine lv_iconst (v := -1) hx hb d_M_take_97 (by decide) ?_
  obtain ⟨u_15, e_16, hf⟩ := sr_b hf
  refine sr_cVv (As := [.int v_1, .int (-1)]) (rest := []) X Z sr_cut_self hK (c_M_carry e_16) (cw_M_213 X.2.2.2.2.2.1 (by decide)) 0 rfl rfl rfl hl rfl (Nat.le_of_ble_eq_true rfl) d_M_take_98 (fun H locs Z => ?_)
  refine lv_aload_n hx hb d_M_take_101 rfl (lv_at hl 1 rfl) ?_
  refine lv_bipush (v := 100) hx hb d_M_take_102 (by decide) ?_
  refine lv_iload_n hx hb d_M_take_104 rfl (lv_at hl 3 rfl) ?_
  refine lv_iadd hx hb d_M_take_105 ?_
  refine lv_iload_n hx hb d_M_take_106 rfl (lv_at hl 0 rfl) ?_
  obtain ⟨u_17, e_18, hf⟩ := sr_b hf
  refine sr_cVv (As := [.int (100 + x2), .int v_1]) (rest := []) X Z sr_cut_self hK (c_M_carry e_18) (cw_M_213 X.2.2.2.2.2.1 (by decide)) 0 rfl rfl rfl hl rfl (Nat.le_of_ble_eq_true rfl) d_M_take_107 (fun H locs Z => ?_)
  refine lv_aload_n hx hb d_M_take_110 rfl (lv_at hl 1 rfl) ?_
  refine lv_iload_n hx hb d_M_take_111 rfl (lv_at hl 0 rfl) ?_
  refine lv_iconst (v := 2) hx hb d_M_take_112 (by decide) ?_
  obtain ⟨v_19, e_20, hf⟩ := sr_b hf
  refine sr_cVi (As := [.int v_1, .int 2]) (rest := []) X Z sr_cut_self hK (c_M_inRole e_20) (cw_M_107 X.2.2.2.2.2.1 (by decide)) 0 rfl rfl rfl hl rfl (Nat.le_of_ble_eq_true rfl) d_M_take_113 (fun H locs Z => ?_)
  refine lv_istore (lv' := [(4, .int v_19), (3, .int v_1), (0, .ref (h 0)), (1, .int x1), (2, .int x2)]) hx hb d_M_take_116 hl (by decide) rfl (fun ls hl => ?_)
  refine lv_iload hx hb d_M_take_118 (lv_at hl 0 rfl) ?_
  refine lv_if_ge (tgt := 146) hx hb d_M_take_120 rfl (fun q_21 => ?_) (fun q_21 => ?_)
  · have hf := sr_it q_21 hf
    refine lv_aload_n hx hb d_M_take_146 rfl (lv_at hl 2 rfl) ?_
    refine lv_iload_n hx hb d_M_take_147 rfl (lv_at hl 1 rfl) ?_
    refine lv_iconst (v := 5) hx hb d_M_take_148 (by decide) ?_
    obtain ⟨u_22, e_23, hf⟩ := sr_b hf
    refine sr_cVv (As := [.int v_1, .int 5]) (rest := []) X Z sr_cut_self hK (c_M_put e_23) (cw_M_183 X.2.2.2.2.2.1 (by decide)) 0 rfl rfl rfl hl rfl (Nat.le_of_ble_eq_true rfl) d_M_take_149 (fun H locs Z => ?_)
    refine lv_iload hx hb d_M_take_152 (lv_at hl 0 rfl) ?_
    refine lv_istore (lv' := [(5, .int v_19), (4, .int v_19), (3, .int v_1), (0, .ref (h 0)), (1, .int x1), (2, .int x2)]) hx hb d_M_take_154 hl (by decide) rfl (fun ls hl => ?_)
    exact k_M_take_156_it X _ Z (lv_sub hl [3, 1, 0] rfl) hf
  · have hf := sr_if q_21 hf
    refine lv_aload_n hx hb d_M_take_123 rfl (lv_at hl 2 rfl) ?_
    refine lv_iload_n hx hb d_M_take_124 rfl (lv_at hl 1 rfl) ?_
    refine lv_bipush (v := 7) hx hb d_M_take_125 (by decide) ?_
    obtain ⟨u_35, e_36, hf⟩ := sr_b hf
    refine sr_cVv (As := [.int v_1, .int 7]) (rest := []) X Z sr_cut_self hK (c_M_put e_36) (cw_M_183 X.2.2.2.2.2.1 (by decide)) 0 rfl rfl rfl hl rfl (Nat.le_of_ble_eq_true rfl) d_M_take_127 (fun H locs Z => ?_)
    refine lv_aload_n hx hb d_M_take_130 rfl (lv_at hl 2 rfl) ?_
    refine g_M_67_M X Z d_M_take_131 ?_
    refine lv_bipush (v := 24) hx hb d_M_take_134 (by decide) ?_
    refine lv_aload_n hx hb d_M_take_136 rfl (lv_at hl 2 rfl) ?_
    refine g_M_168_M X Z d_M_take_137 ?_
    refine lv_imul hx hb d_M_take_140 ?_
    refine lv_iload_n hx hb d_M_take_141 rfl (lv_at hl 1 rfl) ?_
    refine lv_iadd hx hb d_M_take_142 ?_
    refine lv_iconst (v := 0) hx hb d_M_take_143 (by decide) ?_
    obtain ⟨u_37, e_38, hf⟩ := sr_b hf
    refine sr_zast (wf := (fun q => (wM h t q))) hx hb hK Z 20 19 rfl rfl rfl e_38 (fun _ => rfl) d_M_take_144 (fun H locs Z => ?_)
    cases hf
    exact sr_retv X Z d_M_take_145
end
set_option maxHeartbeats 4000000 in
set_option maxRecDepth 100000 in
theorem c_M_take {l : Launch} {D : va_G} {h : Nat → Nat} {t : Nat → ClassId} {sz : Nat} {x1 : Int32} {x2 : Int32} {u0 : St} {u' : St} (hf : f_M_take x1 x2 u0 = some u') : sr_Cv l y_M_take w_M_take (sr_rm 2 48) D (tM t) (wM h t u0) (wM h t u') sz [.ref (h 0), .int x1, .int x2] := by
  refine Met.ofW (cc := b_M_take) (maxL := 6) (ret := none) (by decide) rfl ?_
  intro p e s m args below meth c s₁ B hml hv
  obtain ⟨rfl, hsz, hP, hK, hD0⟩ := hv
  subst hsz
  have X : sr_X D (tM t) b_M_take 6 R_M w_M_take p s m _ meth c (va_A (wM h t u0) s.heap.size) none := ⟨B.exec, B.bytes, hml, findClass_of_methodNamed B.named, B.notSynchronized, atoms_spec (ws := w_M_take) B.pre, hK, fun q h => Or.inr h, B.returns⟩
  have Z : sr_Z D (va_A (wM h t u0) s.heap.size) s.heap (wM h t u0) s.heap [] := ⟨hP, hD0.self, va_S.rf⟩
  have hl := lv_entry ([.ref (h 0), .int x1, .int x2] : List Value) (n := 6) (Nat.le_of_ble_eq_true rfl)
  rw [lg_entry_eq]
  exact k_M_take_0 X Z hl hf
/-! M_undo -/
theorem d_M_undo_0 : decode b_M_undo 0 = .ok (.aload_n 0, 1) := by decide +kernel
theorem d_M_undo_1 : decode b_M_undo 1 = .ok (.getfield 16, 3) := by decide +kernel
theorem d_M_undo_4 : decode b_M_undo 4 = .ok (.iload_n 1, 1) := by decide +kernel
theorem d_M_undo_5 : decode b_M_undo 5 = .ok (.iaload, 1) := by decide +kernel
theorem d_M_undo_6 : decode b_M_undo 6 = .ok (.bipush 7, 2) := by decide +kernel
theorem d_M_undo_8 : decode b_M_undo 8 = .ok (.if_icmp .ne 16, 3) := by decide +kernel
theorem d_M_undo_11 : decode b_M_undo 11 = .ok (.aload_n 0, 1) := by decide +kernel
theorem d_M_undo_12 : decode b_M_undo 12 = .ok (.getfield 7, 3) := by decide +kernel
theorem d_M_undo_15 : decode b_M_undo 15 = .ok (.aload_n 0, 1) := by decide +kernel
theorem d_M_undo_16 : decode b_M_undo 16 = .ok (.iload_n 1, 1) := by decide +kernel
theorem d_M_undo_17 : decode b_M_undo 17 = .ok (.invokevirtual 122, 3) := by decide +kernel
theorem d_M_undo_20 : decode b_M_undo 20 = .ok (.iaload, 1) := by decide +kernel
theorem d_M_undo_21 : decode b_M_undo 21 = .ok (.goto 4, 3) := by decide +kernel
theorem d_M_undo_24 : decode b_M_undo 24 = .ok (.iload_n 1, 1) := by decide +kernel
theorem d_M_undo_25 : decode b_M_undo 25 = .ok (.istore_n 2, 1) := by decide +kernel
theorem d_M_undo_26 : decode b_M_undo 26 = .ok (.iconst (-1), 1) := by decide +kernel
theorem d_M_undo_27 : decode b_M_undo 27 = .ok (.istore_n 3, 1) := by decide +kernel
theorem d_M_undo_28 : decode b_M_undo 28 = .ok (.iconst 0, 1) := by decide +kernel
theorem d_M_undo_29 : decode b_M_undo 29 = .ok (.istore 4, 2) := by decide +kernel
theorem d_M_undo_31 : decode b_M_undo 31 = .ok (.iload 4, 2) := by decide +kernel
theorem d_M_undo_33 : decode b_M_undo 33 = .ok (.aload_n 0, 1) := by decide +kernel
theorem d_M_undo_34 : decode b_M_undo 34 = .ok (.getfield 74, 3) := by decide +kernel
theorem d_M_undo_37 : decode b_M_undo 37 = .ok (.aload_n 0, 1) := by decide +kernel
theorem d_M_undo_38 : decode b_M_undo 38 = .ok (.getfield 168, 3) := by decide +kernel
theorem d_M_undo_41 : decode b_M_undo 41 = .ok (.iaload, 1) := by decide +kernel
theorem d_M_undo_42 : decode b_M_undo 42 = .ok (.if_icmp .ge 91, 3) := by decide +kernel
theorem d_M_undo_45 : decode b_M_undo 45 = .ok (.aload_n 0, 1) := by decide +kernel
theorem d_M_undo_46 : decode b_M_undo 46 = .ok (.getfield 16, 3) := by decide +kernel
theorem d_M_undo_49 : decode b_M_undo 49 = .ok (.iload_n 1, 1) := by decide +kernel
theorem d_M_undo_50 : decode b_M_undo 50 = .ok (.iaload, 1) := by decide +kernel
theorem d_M_undo_51 : decode b_M_undo 51 = .ok (.bipush 7, 2) := by decide +kernel
theorem d_M_undo_53 : decode b_M_undo 53 = .ok (.if_icmp .ne 36, 3) := by decide +kernel
theorem d_M_undo_56 : decode b_M_undo 56 = .ok (.aload_n 0, 1) := by decide +kernel
theorem d_M_undo_57 : decode b_M_undo 57 = .ok (.getfield 19, 3) := by decide +kernel
theorem d_M_undo_60 : decode b_M_undo 60 = .ok (.iload_n 1, 1) := by decide +kernel
theorem d_M_undo_61 : decode b_M_undo 61 = .ok (.iaload, 1) := by decide +kernel
theorem d_M_undo_62 : decode b_M_undo 62 = .ok (.ifCond .eq 27, 3) := by decide +kernel
theorem d_M_undo_65 : decode b_M_undo 65 = .ok (.aload_n 0, 1) := by decide +kernel
theorem d_M_undo_66 : decode b_M_undo 66 = .ok (.getfield 19, 3) := by decide +kernel
theorem d_M_undo_69 : decode b_M_undo 69 = .ok (.iload_n 1, 1) := by decide +kernel
theorem d_M_undo_70 : decode b_M_undo 70 = .ok (.iaload, 1) := by decide +kernel
theorem d_M_undo_71 : decode b_M_undo 71 = .ok (.aload_n 0, 1) := by decide +kernel
theorem d_M_undo_72 : decode b_M_undo 72 = .ok (.getfield 77, 3) := by decide +kernel
theorem d_M_undo_75 : decode b_M_undo 75 = .ok (.bipush 16, 2) := by decide +kernel
theorem d_M_undo_77 : decode b_M_undo 77 = .ok (.aload_n 0, 1) := by decide +kernel
theorem d_M_undo_78 : decode b_M_undo 78 = .ok (.getfield 168, 3) := by decide +kernel
theorem d_M_undo_81 : decode b_M_undo 81 = .ok (.imul, 1) := by decide +kernel
theorem d_M_undo_82 : decode b_M_undo 82 = .ok (.iload 4, 2) := by decide +kernel
theorem d_M_undo_84 : decode b_M_undo 84 = .ok (.iadd, 1) := by decide +kernel
theorem d_M_undo_85 : decode b_M_undo 85 = .ok (.iaload, 1) := by decide +kernel
theorem d_M_undo_86 : decode b_M_undo 86 = .ok (.if_icmp .ne 7, 3) := by decide +kernel
theorem d_M_undo_89 : decode b_M_undo 89 = .ok (.iconst 1, 1) := by decide +kernel
theorem d_M_undo_90 : decode b_M_undo 90 = .ok (.goto 4, 3) := by decide +kernel
theorem d_M_undo_93 : decode b_M_undo 93 = .ok (.iconst 0, 1) := by decide +kernel
theorem d_M_undo_94 : decode b_M_undo 94 = .ok (.istore 5, 2) := by decide +kernel
theorem d_M_undo_96 : decode b_M_undo 96 = .ok (.iload 5, 2) := by decide +kernel
theorem d_M_undo_98 : decode b_M_undo 98 = .ok (.ifCond .eq 27, 3) := by decide +kernel
theorem d_M_undo_101 : decode b_M_undo 101 = .ok (.aload_n 0, 1) := by decide +kernel
theorem d_M_undo_102 : decode b_M_undo 102 = .ok (.getfield 83, 3) := by decide +kernel
theorem d_M_undo_105 : decode b_M_undo 105 = .ok (.bipush 16, 2) := by decide +kernel
theorem d_M_undo_107 : decode b_M_undo 107 = .ok (.aload_n 0, 1) := by decide +kernel
theorem d_M_undo_108 : decode b_M_undo 108 = .ok (.getfield 168, 3) := by decide +kernel
theorem d_M_undo_111 : decode b_M_undo 111 = .ok (.imul, 1) := by decide +kernel
theorem d_M_undo_112 : decode b_M_undo 112 = .ok (.iload 4, 2) := by decide +kernel
theorem d_M_undo_114 : decode b_M_undo 114 = .ok (.iadd, 1) := by decide +kernel
theorem d_M_undo_115 : decode b_M_undo 115 = .ok (.iaload, 1) := by decide +kernel
theorem d_M_undo_116 : decode b_M_undo 116 = .ok (.iload_n 2, 1) := by decide +kernel
theorem d_M_undo_117 : decode b_M_undo 117 = .ok (.if_icmp .ne 8, 3) := by decide +kernel
theorem d_M_undo_120 : decode b_M_undo 120 = .ok (.iload 4, 2) := by decide +kernel
theorem d_M_undo_122 : decode b_M_undo 122 = .ok (.goto 4, 3) := by decide +kernel
theorem d_M_undo_125 : decode b_M_undo 125 = .ok (.iload_n 3, 1) := by decide +kernel
theorem d_M_undo_126 : decode b_M_undo 126 = .ok (.istore_n 3, 1) := by decide +kernel
theorem d_M_undo_127 : decode b_M_undo 127 = .ok (.iinc 4 1, 3) := by decide +kernel
theorem d_M_undo_130 : decode b_M_undo 130 = .ok (.goto (-99), 3) := by decide +kernel
theorem d_M_undo_133 : decode b_M_undo 133 = .ok (.iload_n 3, 1) := by decide +kernel
theorem d_M_undo_134 : decode b_M_undo 134 = .ok (.ifCond .lt 12, 3) := by decide +kernel
theorem d_M_undo_137 : decode b_M_undo 137 = .ok (.aload_n 0, 1) := by decide +kernel
theorem d_M_undo_138 : decode b_M_undo 138 = .ok (.iload_n 1, 1) := by decide +kernel
theorem d_M_undo_139 : decode b_M_undo 139 = .ok (.iload_n 3, 1) := by decide +kernel
theorem d_M_undo_140 : decode b_M_undo 140 = .ok (.invokevirtual 252, 3) := by decide +kernel
theorem d_M_undo_143 : decode b_M_undo 143 = .ok (.goto 99, 3) := by decide +kernel
theorem d_M_undo_146 : decode b_M_undo 146 = .ok (.aload_n 0, 1) := by decide +kernel
theorem d_M_undo_147 : decode b_M_undo 147 = .ok (.getfield 16, 3) := by decide +kernel
theorem d_M_undo_150 : decode b_M_undo 150 = .ok (.iload_n 1, 1) := by decide +kernel
theorem d_M_undo_151 : decode b_M_undo 151 = .ok (.iaload, 1) := by decide +kernel
theorem d_M_undo_152 : decode b_M_undo 152 = .ok (.bipush 7, 2) := by decide +kernel
theorem d_M_undo_154 : decode b_M_undo 154 = .ok (.if_icmp .ne 13, 3) := by decide +kernel
theorem d_M_undo_157 : decode b_M_undo 157 = .ok (.aload_n 0, 1) := by decide +kernel
theorem d_M_undo_158 : decode b_M_undo 158 = .ok (.iconst 1, 1) := by decide +kernel
theorem d_M_undo_159 : decode b_M_undo 159 = .ok (.iload_n 1, 1) := by decide +kernel
theorem d_M_undo_160 : decode b_M_undo 160 = .ok (.iconst 0, 1) := by decide +kernel
theorem d_M_undo_161 : decode b_M_undo 161 = .ok (.invokevirtual 209, 3) := by decide +kernel
theorem d_M_undo_164 : decode b_M_undo 164 = .ok (.goto 78, 3) := by decide +kernel
theorem d_M_undo_167 : decode b_M_undo 167 = .ok (.aload_n 0, 1) := by decide +kernel
theorem d_M_undo_168 : decode b_M_undo 168 = .ok (.iload_n 1, 1) := by decide +kernel
theorem d_M_undo_169 : decode b_M_undo 169 = .ok (.invokevirtual 171, 3) := by decide +kernel
theorem d_M_undo_172 : decode b_M_undo 172 = .ok (.bipush 7, 2) := by decide +kernel
theorem d_M_undo_174 : decode b_M_undo 174 = .ok (.if_icmp .ne 48, 3) := by decide +kernel
theorem d_M_undo_177 : decode b_M_undo 177 = .ok (.aload_n 0, 1) := by decide +kernel
theorem d_M_undo_178 : decode b_M_undo 178 = .ok (.iload_n 1, 1) := by decide +kernel
theorem d_M_undo_179 : decode b_M_undo 179 = .ok (.bipush 12, 2) := by decide +kernel
theorem d_M_undo_181 : decode b_M_undo 181 = .ok (.invokevirtual 183, 3) := by decide +kernel
theorem d_M_undo_184 : decode b_M_undo 184 = .ok (.aload_n 0, 1) := by decide +kernel
theorem d_M_undo_185 : decode b_M_undo 185 = .ok (.bipush 8, 2) := by decide +kernel
theorem d_M_undo_187 : decode b_M_undo 187 = .ok (.iload_n 1, 1) := by decide +kernel
theorem d_M_undo_188 : decode b_M_undo 188 = .ok (.invokevirtual 186, 3) := by decide +kernel
theorem d_M_undo_191 : decode b_M_undo 191 = .ok (.aload_n 0, 1) := by decide +kernel
theorem d_M_undo_192 : decode b_M_undo 192 = .ok (.getfield 67, 3) := by decide +kernel
theorem d_M_undo_195 : decode b_M_undo 195 = .ok (.bipush 24, 2) := by decide +kernel
theorem d_M_undo_197 : decode b_M_undo 197 = .ok (.aload_n 0, 1) := by decide +kernel
theorem d_M_undo_198 : decode b_M_undo 198 = .ok (.getfield 168, 3) := by decide +kernel
theorem d_M_undo_201 : decode b_M_undo 201 = .ok (.imul, 1) := by decide +kernel
theorem d_M_undo_202 : decode b_M_undo 202 = .ok (.aload_n 0, 1) := by decide +kernel
theorem d_M_undo_203 : decode b_M_undo 203 = .ok (.getfield 64, 3) := by decide +kernel
theorem d_M_undo_206 : decode b_M_undo 206 = .ok (.bipush 24, 2) := by decide +kernel
theorem d_M_undo_208 : decode b_M_undo 208 = .ok (.aload_n 0, 1) := by decide +kernel
theorem d_M_undo_209 : decode b_M_undo 209 = .ok (.getfield 168, 3) := by decide +kernel
theorem d_M_undo_212 : decode b_M_undo 212 = .ok (.imul, 1) := by decide +kernel
theorem d_M_undo_213 : decode b_M_undo 213 = .ok (.iload_n 1, 1) := by decide +kernel
theorem d_M_undo_214 : decode b_M_undo 214 = .ok (.iadd, 1) := by decide +kernel
theorem d_M_undo_215 : decode b_M_undo 215 = .ok (.iaload, 1) := by decide +kernel
theorem d_M_undo_216 : decode b_M_undo 216 = .ok (.iadd, 1) := by decide +kernel
theorem d_M_undo_217 : decode b_M_undo 217 = .ok (.iconst 0, 1) := by decide +kernel
theorem d_M_undo_218 : decode b_M_undo 218 = .ok (.bastore, 1) := by decide +kernel
theorem d_M_undo_219 : decode b_M_undo 219 = .ok (.goto 23, 3) := by decide +kernel
theorem d_M_undo_222 : decode b_M_undo 222 = .ok (.aload_n 0, 1) := by decide +kernel
theorem d_M_undo_223 : decode b_M_undo 223 = .ok (.iconst 3, 1) := by decide +kernel
theorem d_M_undo_224 : decode b_M_undo 224 = .ok (.iload_n 1, 1) := by decide +kernel
theorem d_M_undo_225 : decode b_M_undo 225 = .ok (.aload_n 0, 1) := by decide +kernel
theorem d_M_undo_226 : decode b_M_undo 226 = .ok (.getfield 61, 3) := by decide +kernel
theorem d_M_undo_229 : decode b_M_undo 229 = .ok (.bipush 24, 2) := by decide +kernel
theorem d_M_undo_231 : decode b_M_undo 231 = .ok (.aload_n 0, 1) := by decide +kernel
theorem d_M_undo_232 : decode b_M_undo 232 = .ok (.getfield 168, 3) := by decide +kernel
theorem d_M_undo_235 : decode b_M_undo 235 = .ok (.imul, 1) := by decide +kernel
theorem d_M_undo_236 : decode b_M_undo 236 = .ok (.iload_n 1, 1) := by decide +kernel
theorem d_M_undo_237 : decode b_M_undo 237 = .ok (.iadd, 1) := by decide +kernel
theorem d_M_undo_238 : decode b_M_undo 238 = .ok (.iaload, 1) := by decide +kernel
theorem d_M_undo_239 : decode b_M_undo 239 = .ok (.invokevirtual 209, 3) := by decide +kernel
theorem d_M_undo_242 : decode b_M_undo 242 = .ok (.return_, 1) := by decide +kernel
section
variable {p : Program} {l : Launch} {e : Env} {s : State} {m : MethodId} {args : Array Value} {below : List Frame} {meth : Method} {c : Code} {H : Heap} {locs : List Loc} {ls : Array Slot} {D : va_G} {A : Nat → Prop} {h o : Nat → Nat} {t v : Nat → ClassId}
def f_M_undo_126 (k31 : Int32 → Int32 → Int32 → Int32 → St → Option (St)) (x1 : Int32) (x2 : Int32) (x4 : Int32) (y0 : Int32) (u0 : St) : Option (St) :=
  k31 x1 x2 y0 (x4 + 1) u0
set_option maxHeartbeats 4000000 in
set_option maxRecDepth 100000 in
theorem k_M_undo_126 {k31 : Int32 → Int32 → Int32 → Int32 → St → Option (St)} {x1 : Int32} {x2 : Int32} {x4 : Int32} {y0 : Int32} {u0 : St} {u' : St} (X : sr_X D (tM t) b_M_undo 6 R_M w_M_undo p s m args meth c A none) (hk31 : ∀ (x1 : Int32) (x2 : Int32) (x3 : Int32) (x4 : Int32) (u0 : St) (H : Heap) (locs : List Loc) (ls : Array Slot), sr_Z D A s.heap (wM h t u0) H locs → lv_has ls 6 [(0, .ref (h 0)), (1, .int x1), (2, .int x2), (3, .int x3), (4, .int x4)] → k31 x1 x2 x3 x4 u0 = some u' → W p l e (sr_rm 3 73) s m args below meth c H locs 0 0 (sr_Qv D (tM t) below args s A (wM h t u')) (F0 m 31 ls [])) (Z : sr_Z D A s.heap (wM h t u0) H locs) (hl : lv_has ls 6 [(0, .ref (h 0)), (1, .int x1), (2, .int x2), (4, .int x4)]) (hf : f_M_undo_126 k31 x1 x2 x4 y0 u0 = some u') : W p l e (sr_rm 3 73) s m args below meth c H locs 0 0 (sr_Qv D (tM t) below args s A (wM h t u')) (F0 m 126 ls [.int y0]) := by
  have hx := X.1
  have hb := X.2.1
  have hK := X.2.2.2.2.2.2.1
  unfold f_M_undo_126 at hf
  refine lv_istore_n (lv' := [(3, .int y0), (0, .ref (h 0)), (1, .int x1), (2, .int x2), (4, .int x4)]) hx hb d_M_undo_126 rfl hl (by decide) rfl (fun ls hl => ?_)
  refine lv_iinc (k := 4) (v := x4 + 1) (lv' := [(4, .int (x4 + 1)), (3, .int y0), (0, .ref (h 0)), (1, .int x1), (2, .int x2)]) hx hb d_M_undo_127 hl rfl rfl (by decide) rfl (fun ls hl => ?_)
  refine lv_goto (tgt := 31) hx hb d_M_undo_130 rfl ?_
  exact hk31 x1 x2 y0 (x4 + 1) u0 _ _ _ Z (lv_sub hl [2, 3, 4, 1, 0] rfl) hf
def f_M_undo_125 (k31 : Int32 → Int32 → Int32 → Int32 → St → Option (St)) (x1 : Int32) (x2 : Int32) (x3 : Int32) (x4 : Int32) (u0 : St) : Option (St) :=
  f_M_undo_126 k31 x1 x2 x4 x3 u0
set_option maxHeartbeats 4000000 in
set_option maxRecDepth 100000 in
theorem k_M_undo_125 {k31 : Int32 → Int32 → Int32 → Int32 → St → Option (St)} {x1 : Int32} {x2 : Int32} {x3 : Int32} {x4 : Int32} {u0 : St} {u' : St} (X : sr_X D (tM t) b_M_undo 6 R_M w_M_undo p s m args meth c A none) (hk31 : ∀ (x1 : Int32) (x2 : Int32) (x3 : Int32) (x4 : Int32) (u0 : St) (H : Heap) (locs : List Loc) (ls : Array Slot), sr_Z D A s.heap (wM h t u0) H locs → lv_has ls 6 [(0, .ref (h 0)), (1, .int x1), (2, .int x2), (3, .int x3), (4, .int x4)] → k31 x1 x2 x3 x4 u0 = some u' → W p l e (sr_rm 3 73) s m args below meth c H locs 0 0 (sr_Qv D (tM t) below args s A (wM h t u')) (F0 m 31 ls [])) (Z : sr_Z D A s.heap (wM h t u0) H locs) (hl : lv_has ls 6 [(0, .ref (h 0)), (1, .int x1), (2, .int x2), (3, .int x3), (4, .int x4)]) (hf : f_M_undo_125 k31 x1 x2 x3 x4 u0 = some u') : W p l e (sr_rm 3 73) s m args below meth c H locs 0 0 (sr_Qv D (tM t) below args s A (wM h t u')) (F0 m 125 ls []) := by
  have hx := X.1
  have hb := X.2.1
  have hK := X.2.2.2.2.2.2.1
  unfold f_M_undo_125 at hf
  refine lv_iload_n hx hb d_M_undo_125 rfl (lv_at hl 3 rfl) ?_
  exact k_M_undo_126 X hk31 Z (lv_sub hl [0, 1, 2, 4] rfl) hf
def f_M_undo_94 (k31 : Int32 → Int32 → Int32 → Int32 → St → Option (St)) (x1 : Int32) (x2 : Int32) (x3 : Int32) (x4 : Int32) (y0 : Int32) (u0 : St) : Option (St) :=
  if y0 = 0 then
    f_M_undo_125 k31 x1 x2 x3 x4 u0
  else
    (sr_ald 128 (u0 30) ((16 * (u0 33 0)) + x4)).bind fun v_34 =>
    if v_34 = x2 then
      f_M_undo_126 k31 x1 x2 x4 x4 u0
    else
      f_M_undo_125 k31 x1 x2 x3 x4 u0
set_option maxHeartbeats 4000000 in
set_option maxRecDepth 100000 in
theorem k_M_undo_94 {k31 : Int32 → Int32 → Int32 → Int32 → St → Option (St)} {x1 : Int32} {x2 : Int32} {x3 : Int32} {x4 : Int32} {y0 : Int32} {u0 : St} {u' : St} (X : sr_X D (tM t) b_M_undo 6 R_M w_M_undo p s m args meth c A none) (hk31 : ∀ (x1 : Int32) (x2 : Int32) (x3 : Int32) (x4 : Int32) (u0 : St) (H : Heap) (locs : List Loc) (ls : Array Slot), sr_Z D A s.heap (wM h t u0) H locs → lv_has ls 6 [(0, .ref (h 0)), (1, .int x1), (2, .int x2), (3, .int x3), (4, .int x4)] → k31 x1 x2 x3 x4 u0 = some u' → W p l e (sr_rm 3 73) s m args below meth c H locs 0 0 (sr_Qv D (tM t) below args s A (wM h t u')) (F0 m 31 ls [])) (Z : sr_Z D A s.heap (wM h t u0) H locs) (hl : lv_has ls 6 [(0, .ref (h 0)), (1, .int x1), (2, .int x2), (3, .int x3), (4, .int x4)]) (hf : f_M_undo_94 k31 x1 x2 x3 x4 y0 u0 = some u') : W p l e (sr_rm 3 73) s m args below meth c H locs 0 0 (sr_Qv D (tM t) below args s A (wM h t u')) (F0 m 94 ls [.int y0]) := by
  have hx := X.1
  have hb := X.2.1
  have hK := X.2.2.2.2.2.2.1
  unfold f_M_undo_94 at hf
  refine lv_istore (lv' := [(5, .int y0), (0, .ref (h 0)), (1, .int x1), (2, .int x2), (3, .int x3), (4, .int x4)]) hx hb d_M_undo_94 hl (by decide) rfl (fun ls hl => ?_)
  refine lv_iload hx hb d_M_undo_96 (lv_at hl 0 rfl) ?_
  refine lv_if_eq (tgt := 125) hx hb d_M_undo_98 rfl (fun q_33 => ?_) (fun q_33 => ?_)
  · have hf := sr_it q_33 hf
    exact k_M_undo_125 X hk31 Z (lv_sub hl [1, 2, 3, 4, 5] rfl) hf
  · have hf := sr_if q_33 hf
    refine lv_aload_n hx hb d_M_undo_101 rfl (lv_at hl 1 rfl) ?_
    refine g_M_83_M X Z d_M_undo_102 ?_
    refine lv_bipush (v := 16) hx hb d_M_undo_105 (by decide) ?_
    refine lv_aload_n hx hb d_M_undo_107 rfl (lv_at hl 1 rfl) ?_
    refine g_M_168_M X Z d_M_undo_108 ?_
    refine lv_imul hx hb d_M_undo_111 ?_
    refine lv_iload hx hb d_M_undo_112 (lv_at hl 5 rfl) ?_
    refine lv_iadd hx hb d_M_undo_114 ?_
    obtain ⟨v_34, e_35, hf⟩ := sr_b hf
    refine sr_iald hx hb hK Z 25 24 rfl rfl e_35 d_M_undo_115 ?_
    refine lv_iload_n hx hb d_M_undo_116 rfl (lv_at hl 3 rfl) ?_
    refine lv_icmp_ne (tgt := 125) hx hb d_M_undo_117 rfl (fun q_36 => ?_) (fun q_36 => ?_)
    · have hf := sr_if q_36 hf
      exact k_M_undo_125 X hk31 Z (lv_sub hl [1, 2, 3, 4, 5] rfl) hf
    · have hf := sr_it q_36 hf
      refine lv_iload hx hb d_M_undo_120 (lv_at hl 5 rfl) ?_
      refine lv_goto (tgt := 126) hx hb d_M_undo_122 rfl ?_
      exact k_M_undo_126 X hk31 Z (lv_sub hl [1, 2, 3, 5] rfl) hf
def f_M_undo_89 (k31 : Int32 → Int32 → Int32 → Int32 → St → Option (St)) (x1 : Int32) (x2 : Int32) (x3 : Int32) (x4 : Int32) (u0 : St) : Option (St) :=
  f_M_undo_94 k31 x1 x2 x3 x4 1 u0
set_option maxHeartbeats 4000000 in
set_option maxRecDepth 100000 in
theorem k_M_undo_89 {k31 : Int32 → Int32 → Int32 → Int32 → St → Option (St)} {x1 : Int32} {x2 : Int32} {x3 : Int32} {x4 : Int32} {u0 : St} {u' : St} (X : sr_X D (tM t) b_M_undo 6 R_M w_M_undo p s m args meth c A none) (hk31 : ∀ (x1 : Int32) (x2 : Int32) (x3 : Int32) (x4 : Int32) (u0 : St) (H : Heap) (locs : List Loc) (ls : Array Slot), sr_Z D A s.heap (wM h t u0) H locs → lv_has ls 6 [(0, .ref (h 0)), (1, .int x1), (2, .int x2), (3, .int x3), (4, .int x4)] → k31 x1 x2 x3 x4 u0 = some u' → W p l e (sr_rm 3 73) s m args below meth c H locs 0 0 (sr_Qv D (tM t) below args s A (wM h t u')) (F0 m 31 ls [])) (Z : sr_Z D A s.heap (wM h t u0) H locs) (hl : lv_has ls 6 [(0, .ref (h 0)), (1, .int x1), (2, .int x2), (3, .int x3), (4, .int x4)]) (hf : f_M_undo_89 k31 x1 x2 x3 x4 u0 = some u') : W p l e (sr_rm 3 73) s m args below meth c H locs 0 0 (sr_Qv D (tM t) below args s A (wM h t u')) (F0 m 89 ls []) := by
  have hx := X.1
  have hb := X.2.1
  have hK := X.2.2.2.2.2.2.1
  unfold f_M_undo_89 at hf
  refine lv_iconst (v := 1) hx hb d_M_undo_89 (by decide) ?_
  refine lv_goto (tgt := 94) hx hb d_M_undo_90 rfl ?_
  exact k_M_undo_94 X hk31 Z (lv_sub hl [0, 1, 2, 3, 4] rfl) hf
def f_M_undo_31 (k31 : Int32 → Int32 → Int32 → Int32 → St → Option (St)) (x1 : Int32) (x2 : Int32) (x3 : Int32) (x4 : Int32) (u0 : St) : Option (St) :=
  (sr_ald 8 (u0 27) (u0 33 0)).bind fun v_4 =>
  if v_4 ≤ x4 then
    if x3 < 0 then
      (sr_ald 24 (u0 3) x1).bind fun v_8 =>
      if v_8 = 7 then
        (f_M_then 1 x1 0 u0).bind fun u_26 =>
        some u_26
      else
        (f_M_st u0 x1).bind fun v_11 =>
        if v_11 = 7 then
          (f_M_put x1 12 u0).bind fun u_18 =>
          (f_M_write 8 x1 u_18).bind fun u_20 =>
          (sr_ald 192 (u_20 24) ((24 * (u_20 33 0)) + x1)).bind fun v_22 =>
          (sr_ast 192 u_20 25 ((24 * (u_20 33 0)) + v_22) 0).bind fun u_24 =>
          some u_24
        else
          (sr_ald 192 (u0 23) ((24 * (u0 33 0)) + x1)).bind fun v_14 =>
          (f_M_then 3 x1 v_14 u0).bind fun u_16 =>
          some u_16
    else
      (f_M_take x1 x3 u0).bind fun u_28 =>
      some u_28
  else
    (sr_ald 24 (u0 3) x1).bind fun v_30 =>
    if v_30 = 7 then
      (sr_ald 24 (u0 4) x1).bind fun v_37 =>
      if v_37 = 0 then
        f_M_undo_89 k31 x1 x2 x3 x4 u0
      else
        (sr_ald 24 (u0 4) x1).bind fun v_40 =>
        (sr_ald 128 (u0 28) ((16 * (u0 33 0)) + x4)).bind fun v_42 =>
        if v_40 = v_42 then
          f_M_undo_89 k31 x1 x2 x3 x4 u0
        else
          f_M_undo_94 k31 x1 x2 x3 x4 0 u0
    else
      f_M_undo_89 k31 x1 x2 x3 x4 u0
set_option maxHeartbeats 4000000 in
set_option maxRecDepth 100000 in
theorem k_M_undo_31 {k31 : Int32 → Int32 → Int32 → Int32 → St → Option (St)} {x1 : Int32} {x2 : Int32} {x3 : Int32} {x4 : Int32} {u0 : St} {u' : St} (X : sr_X D (tM t) b_M_undo 6 R_M w_M_undo p s m args meth c A none) (hk31 : ∀ (x1 : Int32) (x2 : Int32) (x3 : Int32) (x4 : Int32) (u0 : St) (H : Heap) (locs : List Loc) (ls : Array Slot), sr_Z D A s.heap (wM h t u0) H locs → lv_has ls 6 [(0, .ref (h 0)), (1, .int x1), (2, .int x2), (3, .int x3), (4, .int x4)] → k31 x1 x2 x3 x4 u0 = some u' → W p l e (sr_rm 3 73) s m args below meth c H locs 0 0 (sr_Qv D (tM t) below args s A (wM h t u')) (F0 m 31 ls [])) (Z : sr_Z D A s.heap (wM h t u0) H locs) (hl : lv_has ls 6 [(0, .ref (h 0)), (1, .int x1), (2, .int x2), (3, .int x3), (4, .int x4)]) (hf : f_M_undo_31 k31 x1 x2 x3 x4 u0 = some u') : W p l e (sr_rm 3 73) s m args below meth c H locs 0 0 (sr_Qv D (tM t) below args s A (wM h t u')) (F0 m 31 ls []) := by
  have hx := X.1
  have hb := X.2.1
  have hK := X.2.2.2.2.2.2.1
  unfold f_M_undo_31 at hf
  refine lv_iload hx hb d_M_undo_31 (lv_at hl 4 rfl) ?_
  refine lv_aload_n hx hb d_M_undo_33 rfl (lv_at hl 0 rfl) ?_
  refine g_M_74_M X Z d_M_undo_34 ?_
  refine lv_aload_n hx hb d_M_undo_37 rfl (lv_at hl 0 rfl) ?_
  refine g_M_168_M X Z d_M_undo_38 ?_
  obtain ⟨v_4, e_5, hf⟩ := sr_b hf
  refine sr_iald hx hb hK Z 22 21 rfl rfl e_5 d_M_undo_41 ?_
  refine lv_icmp_ge (tgt := 133) hx hb d_M_undo_42 rfl (fun q_6 => ?_) (fun q_6 => ?_)
  · have hf := sr_it q_6 hf
    refine lv_iload_n hx hb d_M_undo_133 rfl (lv_at hl 3 rfl) ?_
    refine lv_if_lt (tgt := 146) hx hb d_M_undo_134 rfl (fun q_7 => ?_) (fun q_7 => ?_)
    · have hf := sr_it q_7 hf
      refine lv_aload_n hx hb d_M_undo_146 rfl (lv_at hl 0 rfl) ?_
      refine g_M_16_M X Z d_M_undo_147 ?_
      refine lv_iload_n hx hb d_M_undo_150 rfl (lv_at hl 1 rfl) ?_
      obtain ⟨v_8, e_9, hf⟩ := sr_b hf
      refine sr_iald hx hb hK Z 3 2 rfl rfl e_9 d_M_undo_151 ?_
      refine lv_bipush (v := 7) hx hb d_M_undo_152 (by decide) ?_
      refine lv_icmp_ne (tgt := 167) hx hb d_M_undo_154 rfl (fun q_10 => ?_) (fun q_10 => ?_)
      · have hf := sr_if q_10 hf
        refine lv_aload_n hx hb d_M_undo_167 rfl (lv_at hl 0 rfl) ?_
        refine lv_iload_n hx hb d_M_undo_168 rfl (lv_at hl 1 rfl) ?_
        obtain ⟨v_11, e_12, hf⟩ := sr_b hf
        refine sr_cVi (As := [.int x1]) (rest := []) X Z sr_cut_self hK (c_M_st e_12) (cw_M_171 X.2.2.2.2.2.1 (by decide)) 0 rfl rfl rfl hl rfl (Nat.le_of_ble_eq_true rfl) d_M_undo_169 (fun H locs Z => ?_)
        refine lv_bipush (v := 7) hx hb d_M_undo_172 (by decide) ?_
        refine lv_icmp_ne (tgt := 222) hx hb d_M_undo_174 rfl (fun q_13 => ?_) (fun q_13 => ?_)
        · have hf := sr_if q_13 hf
          refine lv_aload_n hx hb d_M_undo_222 rfl (lv_at hl 0 rfl) ?_
          refine lv_iconst (v := 3) hx hb d_M_undo_223 (by decide) ?_
          refine lv_iload_n hx hb d_M_undo_224 rfl (lv_at hl 1 rfl) ?_
          refine lv_aload_n hx hb d_M_undo_225 rfl (lv_at hl 0 rfl) ?_
          refine g_M_61_M X Z d_M_undo_226 ?_
          refine lv_bipush (v := 24) hx hb d_M_undo_229 (by decide) ?_
          refine lv_aload_n hx hb d_M_undo_231 rfl (lv_at hl 0 rfl) ?_
          refine g_M_168_M X Z d_M_undo_232 ?_
          refine lv_imul hx hb d_M_undo_235 ?_
          refine lv_iload_n hx hb d_M_undo_236 rfl (lv_at hl 1 rfl) ?_
          refine lv_iadd hx hb d_M_undo_237 ?_
          obtain ⟨v_14, e_15, hf⟩ := sr_b hf
          refine sr_iald hx hb hK Z 18 17 rfl rfl e_15 d_M_undo_238 ?_
          obtain ⟨u_16, e_17, hf⟩ := sr_b hf
          refine sr_cVv (As := [.int 3, .int x1, .int v_14]) (rest := []) X Z sr_cut_self hK (c_M_then e_17) (cw_M_209 X.2.2.2.2.2.1 (by decide)) 0 rfl rfl rfl hl rfl (Nat.le_of_ble_eq_true rfl) d_M_undo_239 (fun H locs Z => ?_)
          cases hf
          exact sr_retv X Z d_M_undo_242
        · have hf := sr_it q_13 hf
          refine lv_aload_n hx hb d_M_undo_177 rfl (lv_at hl 0 rfl) ?_
          refine lv_iload_n hx hb d_M_undo_178 rfl (lv_at hl 1 rfl) ?_
          refine lv_bipush (v := 12) hx hb d_M_undo_179 (by decide) ?_
          obtain ⟨u_18, e_19, hf⟩ := sr_b hf
          refine sr_cVv (As := [.int x1, .int 12]) (rest := []) X Z sr_cut_self hK (c_M_put e_19) (cw_M_183 X.2.2.2.2.2.1 (by decide)) 0 rfl rfl rfl hl rfl (Nat.le_of_ble_eq_true rfl) d_M_undo_181 (fun H locs Z => ?_)
          refine lv_aload_n hx hb d_M_undo_184 rfl (lv_at hl 0 rfl) ?_
          refine lv_bipush (v := 8) hx hb d_M_undo_185 (by decide) ?_
          refine lv_iload_n hx hb d_M_undo_187 rfl (lv_at hl 1 rfl) ?_
          obtain ⟨u_20, e_21, hf⟩ := sr_b hf
          refine sr_cVv (As := [.int 8, .int x1]) (rest := []) X Z sr_cut_self hK (c_M_write e_21) (cw_M_186 X.2.2.2.2.2.1 (by decide)) 0 rfl rfl rfl hl rfl (Nat.le_of_ble_eq_true rfl) d_M_undo_188 (fun H locs Z => ?_)
          refine lv_aload_n hx hb d_M_undo_191 rfl (lv_at hl 0 rfl) ?_
          refine g_M_67_M X Z d_M_undo_192 ?_
          refine lv_bipush (v := 24) hx hb d_M_undo_195 (by decide) ?_
          refine lv_aload_n hx hb d_M_undo_197 rfl (lv_at hl 0 rfl) ?_
          refine g_M_168_M X Z d_M_undo_198 ?_
          refine lv_imul hx hb d_M_undo_201 ?_
          refine lv_aload_n hx hb d_M_undo_202 rfl (lv_at hl 0 rfl) ?_
          refine g_M_64_M X Z d_M_undo_203 ?_
          refine lv_bipush (v := 24) hx hb d_M_undo_206 (by decide) ?_
          refine lv_aload_n hx hb d_M_undo_208 rfl (lv_at hl 0 rfl) ?_
          refine g_M_168_M X Z d_M_undo_209 ?_
          refine lv_imul hx hb d_M_undo_212 ?_
          refine lv_iload_n hx hb d_M_undo_213 rfl (lv_at hl 1 rfl) ?_
          refine lv_iadd hx hb d_M_undo_214 ?_
          obtain ⟨v_22, e_23, hf⟩ := sr_b hf
          refine sr_iald hx hb hK Z 19 18 rfl rfl e_23 d_M_undo_215 ?_
          refine lv_iadd hx hb d_M_undo_216 ?_
          refine lv_iconst (v := 0) hx hb d_M_undo_217 (by decide) ?_
          obtain ⟨u_24, e_25, hf⟩ := sr_b hf
          refine sr_zast (wf := (fun q => (wM h t q))) hx hb hK Z 20 19 rfl rfl rfl e_25 (fun _ => rfl) d_M_undo_218 (fun H locs Z => ?_)
          refine lv_goto (tgt := 242) hx hb d_M_undo_219 rfl ?_
          cases hf
          exact sr_retv X Z d_M_undo_242
      · have hf := sr_it q_10 hf
        refine lv_aload_n hx hb d_M_undo_157 rfl (lv_at hl 0 rfl) ?_
        refine lv_iconst (v := 1) hx hb d_M_undo_158 (by decide) ?_
        refine lv_iload_n hx hb d_M_undo_159 rfl (lv_at hl 1 rfl) ?_
        refine lv_iconst (v := 0) hx hb d_M_undo_160 (by decide) ?_
        obtain ⟨u_26, e_27, hf⟩ := sr_b hf
        refine sr_cVv (As := [.int 1, .int x1, .int 0]) (rest := []) X Z sr_cut_self hK (c_M_then e_27) (cw_M_209 X.2.2.2.2.2.1 (by decide)) 0 rfl rfl rfl hl rfl (Nat.le_of_ble_eq_true rfl) d_M_undo_161 (fun H locs Z => ?_)
        refine lv_goto (tgt := 242) hx hb d_M_undo_164 rfl ?_
        cases hf
        exact sr_retv X Z d_M_undo_242
    · have hf := sr_if q_7 hf
      refine lv_aload_n hx hb d_M_undo_137 rfl (lv_at hl 0 rfl) ?_
      refine lv_iload_n hx hb d_M_undo_138 rfl (lv_at hl 1 rfl) ?_
      refine lv_iload_n hx hb d_M_undo_139 rfl (lv_at hl 3 rfl) ?_
      obtain ⟨u_28, e_29, hf⟩ := sr_b hf
      refine sr_cVv (As := [.int x1, .int x3]) (rest := []) X Z sr_cut_self hK (c_M_take e_29) (cw_M_252 X.2.2.2.2.2.1 (by decide)) 0 rfl rfl rfl hl rfl (Nat.le_of_ble_eq_true rfl) d_M_undo_140 (fun H locs Z => ?_)
      refine lv_goto (tgt := 242) hx hb d_M_undo_143 rfl ?_
      cases hf
      exact sr_retv X Z d_M_undo_242
  · have hf := sr_if q_6 hf
    refine lv_aload_n hx hb d_M_undo_45 rfl (lv_at hl 0 rfl) ?_
    refine g_M_16_M X Z d_M_undo_46 ?_
    refine lv_iload_n hx hb d_M_undo_49 rfl (lv_at hl 1 rfl) ?_
    obtain ⟨v_30, e_31, hf⟩ := sr_b hf
    refine sr_iald hx hb hK Z 3 2 rfl rfl e_31 d_M_undo_50 ?_
    refine lv_bipush (v := 7) hx hb d_M_undo_51 (by decide) ?_
    refine lv_icmp_ne (tgt := 89) hx hb d_M_undo_53 rfl (fun q_32 => ?_) (fun q_32 => ?_)
    · have hf := sr_if q_32 hf
      exact k_M_undo_89 X hk31 Z (lv_sub hl [0, 1, 2, 3, 4] rfl) hf
    · have hf := sr_it q_32 hf
      refine lv_aload_n hx hb d_M_undo_56 rfl (lv_at hl 0 rfl) ?_
      refine g_M_19_M X Z d_M_undo_57 ?_
      refine lv_iload_n hx hb d_M_undo_60 rfl (lv_at hl 1 rfl) ?_
      obtain ⟨v_37, e_38, hf⟩ := sr_b hf
      refine sr_iald hx hb hK Z 4 3 rfl rfl e_38 d_M_undo_61 ?_
      refine lv_if_eq (tgt := 89) hx hb d_M_undo_62 rfl (fun q_39 => ?_) (fun q_39 => ?_)
      · have hf := sr_it q_39 hf
        exact k_M_undo_89 X hk31 Z (lv_sub hl [0, 1, 2, 3, 4] rfl) hf
      · have hf := sr_if q_39 hf
        refine lv_aload_n hx hb d_M_undo_65 rfl (lv_at hl 0 rfl) ?_
        refine g_M_19_M X Z d_M_undo_66 ?_
        refine lv_iload_n hx hb d_M_undo_69 rfl (lv_at hl 1 rfl) ?_
        obtain ⟨v_40, e_41, hf⟩ := sr_b hf
        refine sr_iald hx hb hK Z 4 3 rfl rfl e_41 d_M_undo_70 ?_
        refine lv_aload_n hx hb d_M_undo_71 rfl (lv_at hl 0 rfl) ?_
        refine g_M_77_M X Z d_M_undo_72 ?_
        refine lv_bipush (v := 16) hx hb d_M_undo_75 (by decide) ?_
        refine lv_aload_n hx hb d_M_undo_77 rfl (lv_at hl 0 rfl) ?_
        refine g_M_168_M X Z d_M_undo_78 ?_
        refine lv_imul hx hb d_M_undo_81 ?_
        refine lv_iload hx hb d_M_undo_82 (lv_at hl 4 rfl) ?_
        refine lv_iadd hx hb d_M_undo_84 ?_
        obtain ⟨v_42, e_43, hf⟩ := sr_b hf
        refine sr_iald hx hb hK Z 23 22 rfl rfl e_43 d_M_undo_85 ?_
        refine lv_icmp_ne (tgt := 93) hx hb d_M_undo_86 rfl (fun q_44 => ?_) (fun q_44 => ?_)
        · have hf := sr_if q_44 hf
          refine lv_iconst (v := 0) hx hb d_M_undo_93 (by decide) ?_
          exact k_M_undo_94 X hk31 Z (lv_sub hl [0, 1, 2, 3, 4] rfl) hf
        · have hf := sr_it q_44 hf
          exact k_M_undo_89 X hk31 Z (lv_sub hl [0, 1, 2, 3, 4] rfl) hf
def f_M_undo_31_it : Nat → Int32 → Int32 → Int32 → Int32 → St → Option (St)
  | 0 => fun _ _ _ _ _ => none
  | n + 1 => fun x1 x2 x3 x4 u0 => f_M_undo_31 (f_M_undo_31_it n) x1 x2 x3 x4 u0
set_option maxHeartbeats 4000000 in
set_option maxRecDepth 100000 in
theorem k_M_undo_31_it {u' : St} (X : sr_X D (tM t) b_M_undo 6 R_M w_M_undo p s m args meth c A none) (n : Nat) : ∀ {x1 : Int32} {x2 : Int32} {x3 : Int32} {x4 : Int32} {u0 : St} {H : Heap} {locs : List Loc} {ls : Array Slot}, sr_Z D A s.heap (wM h t u0) H locs → lv_has ls 6 [(0, .ref (h 0)), (1, .int x1), (2, .int x2), (3, .int x3), (4, .int x4)] → f_M_undo_31_it n x1 x2 x3 x4 u0 = some u' → W p l e (sr_rm 3 73) s m args below meth c H locs 0 0 (sr_Qv D (tM t) below args s A (wM h t u')) (F0 m 31 ls []) := by
  induction n with
  | zero => intro x1 x2 x3 x4 u0 H locs ls Z hl hf; exact absurd hf (by simp [f_M_undo_31_it])
  | succ n ih =>
    intro x1 x2 x3 x4 u0 H locs ls Z hl hf
    exact k_M_undo_31 X (fun x1 x2 x3 x4 u0 H locs ls Z hl hf => ih Z hl hf) Z hl hf
def f_M_undo_25 (x1 : Int32) (y0 : Int32) (u0 : St) : Option (St) :=
  f_M_undo_31_it 60 x1 y0 (-1) 0 u0
set_option maxHeartbeats 4000000 in
set_option maxRecDepth 100000 in
theorem k_M_undo_25 {x1 : Int32} {y0 : Int32} {u0 : St} {u' : St} (X : sr_X D (tM t) b_M_undo 6 R_M w_M_undo p s m args meth c A none) (Z : sr_Z D A s.heap (wM h t u0) H locs) (hl : lv_has ls 6 [(0, .ref (h 0)), (1, .int x1)]) (hf : f_M_undo_25 x1 y0 u0 = some u') : W p l e (sr_rm 3 73) s m args below meth c H locs 0 0 (sr_Qv D (tM t) below args s A (wM h t u')) (F0 m 25 ls [.int y0]) := by
  have hx := X.1
  have hb := X.2.1
  have hK := X.2.2.2.2.2.2.1
  unfold f_M_undo_25 at hf
  refine lv_istore_n (lv' := [(2, .int y0), (0, .ref (h 0)), (1, .int x1)]) hx hb d_M_undo_25 rfl hl (by decide) rfl (fun ls hl => ?_)
  refine lv_iconst (v := -1) hx hb d_M_undo_26 (by decide) ?_
  refine lv_istore_n (lv' := [(3, .int (-1)), (2, .int y0), (0, .ref (h 0)), (1, .int x1)]) hx hb d_M_undo_27 rfl hl (by decide) rfl (fun ls hl => ?_)
  refine lv_iconst (v := 0) hx hb d_M_undo_28 (by decide) ?_
  refine lv_istore (lv' := [(4, .int 0), (3, .int (-1)), (2, .int y0), (0, .ref (h 0)), (1, .int x1)]) hx hb d_M_undo_29 hl (by decide) rfl (fun ls hl => ?_)
  exact k_M_undo_31_it X _ Z (lv_sub hl [3, 4, 2, 1, 0] rfl) hf
def f_M_undo (x1 : Int32) (u0 : St) : Option (St) :=
  (sr_ald 24 (u0 3) x1).bind fun v_1 =>
  if v_1 = 7 then
    (f_M_handler u0 x1).bind fun v_45 =>
    (sr_ald 24 (u0 1) v_45).bind fun v_47 =>
    f_M_undo_25 x1 v_47 u0
  else
    f_M_undo_25 x1 x1 u0
set_option maxHeartbeats 4000000 in
set_option maxRecDepth 100000 in
theorem k_M_undo_0 {x1 : Int32} {u0 : St} {u' : St} (X : sr_X D (tM t) b_M_undo 6 R_M w_M_undo p s m args meth c A none) (Z : sr_Z D A s.heap (wM h t u0) H locs) (hl : lv_has ls 6 [(0, .ref (h 0)), (1, .int x1)]) (hf : f_M_undo x1 u0 = some u') : W p l e (sr_rm 3 73) s m args below meth c H locs 0 0 (sr_Qv D (tM t) below args s A (wM h t u')) (F0 m 0 ls []) := by
  have hx := X.1
  have hb := X.2.1
  have hK := X.2.2.2.2.2.2.1
  unfold f_M_undo at hf
  refine lv_aload_n hx hb d_M_undo_0 rfl (lv_at hl 0 rfl) ?_
  refine g_M_16_M X Z d_M_undo_1 ?_
  refine lv_iload_n hx hb d_M_undo_4 rfl (lv_at hl 1 rfl) ?_
  obtain ⟨v_1, e_2, hf⟩ := sr_b hf
  refine sr_iald hx hb hK Z 3 2 rfl rfl e_2 d_M_undo_5 ?_
  refine lv_bipush (v := 7) hx hb d_M_undo_6 (by decide) ?_
  refine lv_icmp_ne (tgt := 24) hx hb d_M_undo_8 rfl (fun q_3 => ?_) (fun q_3 => ?_)
  · have hf := sr_if q_3 hf
    refine lv_iload_n hx hb d_M_undo_24 rfl (lv_at hl 1 rfl) ?_
    exact k_M_undo_25 X Z (lv_sub hl [0, 1] rfl) hf
  · have hf := sr_it q_3 hf
    refine lv_aload_n hx hb d_M_undo_11 rfl (lv_at hl 0 rfl) ?_
    refine g_M_7_M X Z d_M_undo_12 ?_
    refine lv_aload_n hx hb d_M_undo_15 rfl (lv_at hl 0 rfl) ?_
    refine lv_iload_n hx hb d_M_undo_16 rfl (lv_at hl 1 rfl) ?_
    obtain ⟨v_45, e_46, hf⟩ := sr_b hf
    refine sr_cVi (As := [.int x1]) (rest := [.ref (h 2)]) X Z sr_cut_self hK (c_M_handler e_46) (cw_M_122 X.2.2.2.2.2.1 (by decide)) 0 rfl rfl rfl hl rfl (Nat.le_of_ble_eq_true rfl) d_M_undo_17 (fun H locs Z => ?_)
    obtain ⟨v_47, e_48, hf⟩ := sr_b hf
    refine sr_iald hx hb hK Z 1 0 rfl rfl e_48 d_M_undo_20 ?_
    refine lv_goto (tgt := 25) hx hb d_M_undo_21 rfl ?_
    exact k_M_undo_25 X Z (lv_sub hl [0, 1] rfl) hf
end
set_option maxHeartbeats 4000000 in
set_option maxRecDepth 100000 in
theorem c_M_undo {l : Launch} {D : va_G} {h : Nat → Nat} {t : Nat → ClassId} {sz : Nat} {x1 : Int32} {u0 : St} {u' : St} (hf : f_M_undo x1 u0 = some u') : sr_Cv l y_M_undo w_M_undo (sr_rm 3 73) D (tM t) (wM h t u0) (wM h t u') sz [.ref (h 0), .int x1] := by
  refine Met.ofW (cc := b_M_undo) (maxL := 6) (ret := none) (by decide) rfl ?_
  intro p e s m args below meth c s₁ B hml hv
  obtain ⟨rfl, hsz, hP, hK, hD0⟩ := hv
  subst hsz
  have X : sr_X D (tM t) b_M_undo 6 R_M w_M_undo p s m _ meth c (va_A (wM h t u0) s.heap.size) none := ⟨B.exec, B.bytes, hml, findClass_of_methodNamed B.named, B.notSynchronized, atoms_spec (ws := w_M_undo) B.pre, hK, fun q h => Or.inr h, B.returns⟩
  have Z : sr_Z D (va_A (wM h t u0) s.heap.size) s.heap (wM h t u0) s.heap [] := ⟨hP, hD0.self, va_S.rf⟩
  have hl := lv_entry ([.ref (h 0), .int x1] : List Value) (n := 6) (Nat.le_of_ble_eq_true rfl)
  rw [lg_entry_eq]
  exact k_M_undo_0 X Z hl hf
/-! M_loop -/
theorem d_M_loop_0 : decode b_M_loop 0 = .ok (.aload_n 0, 1) := by decide +kernel
theorem d_M_loop_1 : decode b_M_loop 1 = .ok (.iload_n 1, 1) := by decide +kernel
theorem d_M_loop_2 : decode b_M_loop 2 = .ok (.aload_n 0, 1) := by decide +kernel
theorem d_M_loop_3 : decode b_M_loop 3 = .ok (.getfield 19, 3) := by decide +kernel
theorem d_M_loop_6 : decode b_M_loop 6 = .ok (.iload_n 1, 1) := by decide +kernel
theorem d_M_loop_7 : decode b_M_loop 7 = .ok (.iaload, 1) := by decide +kernel
theorem d_M_loop_8 : decode b_M_loop 8 = .ok (.invokevirtual 206, 3) := by decide +kernel
theorem d_M_loop_11 : decode b_M_loop 11 = .ok (.aload_n 0, 1) := by decide +kernel
theorem d_M_loop_12 : decode b_M_loop 12 = .ok (.getfield 22, 3) := by decide +kernel
theorem d_M_loop_15 : decode b_M_loop 15 = .ok (.iload_n 1, 1) := by decide +kernel
theorem d_M_loop_16 : decode b_M_loop 16 = .ok (.iaload, 1) := by decide +kernel
theorem d_M_loop_17 : decode b_M_loop 17 = .ok (.if_icmp .lt 11, 3) := by decide +kernel
theorem d_M_loop_20 : decode b_M_loop 20 = .ok (.aload_n 0, 1) := by decide +kernel
theorem d_M_loop_21 : decode b_M_loop 21 = .ok (.iconst 1, 1) := by decide +kernel
theorem d_M_loop_22 : decode b_M_loop 22 = .ok (.iload_n 1, 1) := by decide +kernel
theorem d_M_loop_23 : decode b_M_loop 23 = .ok (.iconst 0, 1) := by decide +kernel
theorem d_M_loop_24 : decode b_M_loop 24 = .ok (.invokevirtual 209, 3) := by decide +kernel
theorem d_M_loop_27 : decode b_M_loop 27 = .ok (.return_, 1) := by decide +kernel
theorem d_M_loop_28 : decode b_M_loop 28 = .ok (.aload_n 0, 1) := by decide +kernel
theorem d_M_loop_29 : decode b_M_loop 29 = .ok (.iload_n 1, 1) := by decide +kernel
theorem d_M_loop_30 : decode b_M_loop 30 = .ok (.iconst 2, 1) := by decide +kernel
theorem d_M_loop_31 : decode b_M_loop 31 = .ok (.invokevirtual 183, 3) := by decide +kernel
theorem d_M_loop_34 : decode b_M_loop 34 = .ok (.iconst 0, 1) := by decide +kernel
theorem d_M_loop_35 : decode b_M_loop 35 = .ok (.istore_n 2, 1) := by decide +kernel
theorem d_M_loop_36 : decode b_M_loop 36 = .ok (.iload_n 2, 1) := by decide +kernel
theorem d_M_loop_37 : decode b_M_loop 37 = .ok (.aload_n 0, 1) := by decide +kernel
theorem d_M_loop_38 : decode b_M_loop 38 = .ok (.getfield 100, 3) := by decide +kernel
theorem d_M_loop_41 : decode b_M_loop 41 = .ok (.if_icmp .ge 30, 3) := by decide +kernel
theorem d_M_loop_44 : decode b_M_loop 44 = .ok (.aload_n 0, 1) := by decide +kernel
theorem d_M_loop_45 : decode b_M_loop 45 = .ok (.iload_n 2, 1) := by decide +kernel
theorem d_M_loop_46 : decode b_M_loop 46 = .ok (.iload_n 1, 1) := by decide +kernel
theorem d_M_loop_47 : decode b_M_loop 47 = .ok (.invokevirtual 125, 3) := by decide +kernel
theorem d_M_loop_50 : decode b_M_loop 50 = .ok (.ifCond .eq 15, 3) := by decide +kernel
theorem d_M_loop_53 : decode b_M_loop 53 = .ok (.aload_n 0, 1) := by decide +kernel
theorem d_M_loop_54 : decode b_M_loop 54 = .ok (.iload_n 2, 1) := by decide +kernel
theorem d_M_loop_55 : decode b_M_loop 55 = .ok (.iconst 0, 1) := by decide +kernel
theorem d_M_loop_56 : decode b_M_loop 56 = .ok (.invokevirtual 183, 3) := by decide +kernel
theorem d_M_loop_59 : decode b_M_loop 59 = .ok (.aload_n 0, 1) := by decide +kernel
theorem d_M_loop_60 : decode b_M_loop 60 = .ok (.iload_n 2, 1) := by decide +kernel
theorem d_M_loop_61 : decode b_M_loop 61 = .ok (.iconst 0, 1) := by decide +kernel
theorem d_M_loop_62 : decode b_M_loop 62 = .ok (.invokevirtual 189, 3) := by decide +kernel
theorem d_M_loop_65 : decode b_M_loop 65 = .ok (.iinc 2 1, 3) := by decide +kernel
theorem d_M_loop_68 : decode b_M_loop 68 = .ok (.goto (-32), 3) := by decide +kernel
theorem d_M_loop_71 : decode b_M_loop 71 = .ok (.aload_n 0, 1) := by decide +kernel
theorem d_M_loop_72 : decode b_M_loop 72 = .ok (.aload_n 0, 1) := by decide +kernel
theorem d_M_loop_73 : decode b_M_loop 73 = .ok (.iload_n 1, 1) := by decide +kernel
theorem d_M_loop_74 : decode b_M_loop 74 = .ok (.iconst 0, 1) := by decide +kernel
theorem d_M_loop_75 : decode b_M_loop 75 = .ok (.invokevirtual 107, 3) := by decide +kernel
theorem d_M_loop_78 : decode b_M_loop 78 = .ok (.iconst 1, 1) := by decide +kernel
theorem d_M_loop_79 : decode b_M_loop 79 = .ok (.invokevirtual 183, 3) := by decide +kernel
theorem d_M_loop_82 : decode b_M_loop 82 = .ok (.return_, 1) := by decide +kernel
section
variable {p : Program} {l : Launch} {e : Env} {s : State} {m : MethodId} {args : Array Value} {below : List Frame} {meth : Method} {c : Code} {H : Heap} {locs : List Loc} {ls : Array Slot} {D : va_G} {A : Nat → Prop} {h o : Nat → Nat} {t v : Nat → ClassId}
def f_M_loop_65 (k36 : Int32 → Int32 → St → Option (St)) (x1 : Int32) (x2 : Int32) (u0 : St) : Option (St) :=
  k36 x1 (x2 + 1) u0
set_option maxHeartbeats 4000000 in
set_option maxRecDepth 100000 in
theorem k_M_loop_65 {k36 : Int32 → Int32 → St → Option (St)} {x1 : Int32} {x2 : Int32} {u0 : St} {u' : St} (X : sr_X D (tM t) b_M_loop 3 R_M w_M_loop p s m args meth c A none) (hk36 : ∀ (x1 : Int32) (x2 : Int32) (u0 : St) (H : Heap) (locs : List Loc) (ls : Array Slot), sr_Z D A s.heap (wM h t u0) H locs → lv_has ls 3 [(0, .ref (h 0)), (1, .int x1), (2, .int x2)] → k36 x1 x2 u0 = some u' → W p l e (sr_rm 2 48) s m args below meth c H locs 0 0 (sr_Qv D (tM t) below args s A (wM h t u')) (F0 m 36 ls [])) (Z : sr_Z D A s.heap (wM h t u0) H locs) (hl : lv_has ls 3 [(0, .ref (h 0)), (1, .int x1), (2, .int x2)]) (hf : f_M_loop_65 k36 x1 x2 u0 = some u') : W p l e (sr_rm 2 48) s m args below meth c H locs 0 0 (sr_Qv D (tM t) below args s A (wM h t u')) (F0 m 65 ls []) := by
  have hx := X.1
  have hb := X.2.1
  have hK := X.2.2.2.2.2.2.1
  unfold f_M_loop_65 at hf
  refine lv_iinc (k := 2) (v := x2 + 1) (lv' := [(2, .int (x2 + 1)), (0, .ref (h 0)), (1, .int x1)]) hx hb d_M_loop_65 hl rfl rfl (by decide) rfl (fun ls hl => ?_)
  refine lv_goto (tgt := 36) hx hb d_M_loop_68 rfl ?_
  exact hk36 x1 (x2 + 1) u0 _ _ _ Z (lv_sub hl [1, 2, 0] rfl) hf
def f_M_loop_36 (k36 : Int32 → Int32 → St → Option (St)) (x1 : Int32) (x2 : Int32) (u0 : St) : Option (St) :=
  if (u0 0 0) ≤ x2 then
    (f_M_inRole u0 x1 0).bind fun v_11 =>
    (f_M_put v_11 1 u0).bind fun u_13 =>
    some u_13
  else
    (f_M_below u0 x2 x1).bind fun v_15 =>
    if v_15 = 0 then
      f_M_loop_65 k36 x1 x2 u0
    else
      (f_M_put x2 0 u0).bind fun u_18 =>
      (f_M_setLinks x2 0 u_18).bind fun u_20 =>
      f_M_loop_65 k36 x1 x2 u_20
set_option maxHeartbeats 4000000 in
set_option maxRecDepth 100000 in
theorem k_M_loop_36 {k36 : Int32 → Int32 → St → Option (St)} {x1 : Int32} {x2 : Int32} {u0 : St} {u' : St} (X : sr_X D (tM t) b_M_loop 3 R_M w_M_loop p s m args meth c A none) (hk36 : ∀ (x1 : Int32) (x2 : Int32) (u0 : St) (H : Heap) (locs : List Loc) (ls : Array Slot), sr_Z D A s.heap (wM h t u0) H locs → lv_has ls 3 [(0, .ref (h 0)), (1, .int x1), (2, .int x2)] → k36 x1 x2 u0 = some u' → W p l e (sr_rm 2 48) s m args below meth c H locs 0 0 (sr_Qv D (tM t) below args s A (wM h t u')) (F0 m 36 ls [])) (Z : sr_Z D A s.heap (wM h t u0) H locs) (hl : lv_has ls 3 [(0, .ref (h 0)), (1, .int x1), (2, .int x2)]) (hf : f_M_loop_36 k36 x1 x2 u0 = some u') : W p l e (sr_rm 2 48) s m args below meth c H locs 0 0 (sr_Qv D (tM t) below args s A (wM h t u')) (F0 m 36 ls []) := by
  have hx := X.1
  have hb := X.2.1
  have hK := X.2.2.2.2.2.2.1
  unfold f_M_loop_36 at hf
  refine lv_iload_n hx hb d_M_loop_36 rfl (lv_at hl 2 rfl) ?_
  refine lv_aload_n hx hb d_M_loop_37 rfl (lv_at hl 0 rfl) ?_
  refine g_M_100_M X Z d_M_loop_38 ?_
  refine lv_icmp_ge (tgt := 71) hx hb d_M_loop_41 rfl (fun q_10 => ?_) (fun q_10 => ?_)
  · have hf := sr_it q_10 hf
    refine lv_aload_n hx hb d_M_loop_71 rfl (lv_at hl 0 rfl) ?_
    refine lv_aload_n hx hb d_M_loop_72 rfl (lv_at hl 0 rfl) ?_
    refine lv_iload_n hx hb d_M_loop_73 rfl (lv_at hl 1 rfl) ?_
    refine lv_iconst (v := 0) hx hb d_M_loop_74 (by decide) ?_
    obtain ⟨v_11, e_12, hf⟩ := sr_b hf
    refine sr_cVi (As := [.int x1, .int 0]) (rest := [.ref (h 0)]) X Z sr_cut_self hK (c_M_inRole e_12) (cw_M_107 X.2.2.2.2.2.1 (by decide)) 0 rfl rfl rfl hl rfl (Nat.le_of_ble_eq_true rfl) d_M_loop_75 (fun H locs Z => ?_)
    refine lv_iconst (v := 1) hx hb d_M_loop_78 (by decide) ?_
    obtain ⟨u_13, e_14, hf⟩ := sr_b hf
    refine sr_cVv (As := [.int v_11, .int 1]) (rest := []) X Z sr_cut_self hK (c_M_put e_14) (cw_M_183 X.2.2.2.2.2.1 (by decide)) 0 rfl rfl rfl hl rfl (Nat.le_of_ble_eq_true rfl) d_M_loop_79 (fun H locs Z => ?_)
    cases hf
    exact sr_retv X Z d_M_loop_82
  · have hf := sr_if q_10 hf
    refine lv_aload_n hx hb d_M_loop_44 rfl (lv_at hl 0 rfl) ?_
    refine lv_iload_n hx hb d_M_loop_45 rfl (lv_at hl 2 rfl) ?_
    refine lv_iload_n hx hb d_M_loop_46 rfl (lv_at hl 1 rfl) ?_
    obtain ⟨v_15, e_16, hf⟩ := sr_b hf
    refine sr_cVi (As := [.int x2, .int x1]) (rest := []) X Z sr_cut_self hK (c_M_below e_16) (cw_M_125 X.2.2.2.2.2.1 (by decide)) 0 rfl rfl rfl hl rfl (Nat.le_of_ble_eq_true rfl) d_M_loop_47 (fun H locs Z => ?_)
    refine lv_if_eq (tgt := 65) hx hb d_M_loop_50 rfl (fun q_17 => ?_) (fun q_17 => ?_)
    · have hf := sr_it q_17 hf
      exact k_M_loop_65 X hk36 Z (lv_sub hl [0, 1, 2] rfl) hf
    · have hf := sr_if q_17 hf
      refine lv_aload_n hx hb d_M_loop_53 rfl (lv_at hl 0 rfl) ?_
      refine lv_iload_n hx hb d_M_loop_54 rfl (lv_at hl 2 rfl) ?_
      refine lv_iconst (v := 0) hx hb d_M_loop_55 (by decide) ?_
      obtain ⟨u_18, e_19, hf⟩ := sr_b hf
      refine sr_cVv (As := [.int x2, .int 0]) (rest := []) X Z sr_cut_self hK (c_M_put e_19) (cw_M_183 X.2.2.2.2.2.1 (by decide)) 0 rfl rfl rfl hl rfl (Nat.le_of_ble_eq_true rfl) d_M_loop_56 (fun H locs Z => ?_)
      refine lv_aload_n hx hb d_M_loop_59 rfl (lv_at hl 0 rfl) ?_
      refine lv_iload_n hx hb d_M_loop_60 rfl (lv_at hl 2 rfl) ?_
      refine lv_iconst (v := 0) hx hb d_M_loop_61 (by decide) ?_
      obtain ⟨u_20, e_21, hf⟩ := sr_b hf
      refine sr_cVv (As := [.int x2, .int 0]) (rest := []) X Z sr_cut_self hK (c_M_setLinks e_21) (cw_M_189 X.2.2.2.2.2.1 (by decide)) 0 rfl rfl rfl hl rfl (Nat.le_of_ble_eq_true rfl) d_M_loop_62 (fun H locs Z => ?_)
      exact k_M_loop_65 X hk36 Z (lv_sub hl [0, 1, 2] rfl) hf
def f_M_loop_36_it : Nat → Int32 → Int32 → St → Option (St)
  | 0 => fun _ _ _ => none
  | n + 1 => fun x1 x2 u0 => f_M_loop_36 (f_M_loop_36_it n) x1 x2 u0
set_option maxHeartbeats 4000000 in
set_option maxRecDepth 100000 in
theorem k_M_loop_36_it {u' : St} (X : sr_X D (tM t) b_M_loop 3 R_M w_M_loop p s m args meth c A none) (n : Nat) : ∀ {x1 : Int32} {x2 : Int32} {u0 : St} {H : Heap} {locs : List Loc} {ls : Array Slot}, sr_Z D A s.heap (wM h t u0) H locs → lv_has ls 3 [(0, .ref (h 0)), (1, .int x1), (2, .int x2)] → f_M_loop_36_it n x1 x2 u0 = some u' → W p l e (sr_rm 2 48) s m args below meth c H locs 0 0 (sr_Qv D (tM t) below args s A (wM h t u')) (F0 m 36 ls []) := by
  induction n with
  | zero => intro x1 x2 u0 H locs ls Z hl hf; exact absurd hf (by simp [f_M_loop_36_it])
  | succ n ih =>
    intro x1 x2 u0 H locs ls Z hl hf
    exact k_M_loop_36 X (fun x1 x2 u0 H locs ls Z hl hf => ih Z hl hf) Z hl hf
def f_M_loop (x1 : Int32) (u0 : St) : Option (St) :=
  (sr_ald 24 (u0 4) x1).bind fun v_1 =>
  (f_M_see u0 x1 v_1).bind fun v_3 =>
  (sr_ald 24 (u0 5) x1).bind fun v_5 =>
  if v_3 < v_5 then
    (f_M_put x1 2 u0).bind fun u_8 =>
    f_M_loop_36_it 60 x1 0 u_8
  else
    (f_M_then 1 x1 0 u0).bind fun u_22 =>
    some u_22
set_option maxHeartbeats 4000000 in
set_option maxRecDepth 100000 in
theorem k_M_loop_0 {x1 : Int32} {u0 : St} {u' : St} (X : sr_X D (tM t) b_M_loop 3 R_M w_M_loop p s m args meth c A none) (Z : sr_Z D A s.heap (wM h t u0) H locs) (hl : lv_has ls 3 [(0, .ref (h 0)), (1, .int x1)]) (hf : f_M_loop x1 u0 = some u') : W p l e (sr_rm 2 48) s m args below meth c H locs 0 0 (sr_Qv D (tM t) below args s A (wM h t u')) (F0 m 0 ls []) := by
  have hx := X.1
  have hb := X.2.1
  have hK := X.2.2.2.2.2.2.1
  unfold f_M_loop at hf
  refine lv_aload_n hx hb d_M_loop_0 rfl (lv_at hl 0 rfl) ?_
  refine lv_iload_n hx hb d_M_loop_1 rfl (lv_at hl 1 rfl) ?_
  refine lv_aload_n hx hb d_M_loop_2 rfl (lv_at hl 0 rfl) ?_
  refine g_M_19_M X Z d_M_loop_3 ?_
  refine lv_iload_n hx hb d_M_loop_6 rfl (lv_at hl 1 rfl) ?_
  obtain ⟨v_1, e_2, hf⟩ := sr_b hf
  refine sr_iald hx hb hK Z 4 3 rfl rfl e_2 d_M_loop_7 ?_
  obtain ⟨v_3, e_4, hf⟩ := sr_b hf
  refine sr_cVi (As := [.int x1, .int v_1]) (rest := []) X Z sr_cut_self hK (c_M_see e_4) (cw_M_206 X.2.2.2.2.2.1 (by decide)) 0 rfl rfl rfl hl rfl (Nat.le_of_ble_eq_true rfl) d_M_loop_8 (fun H locs Z => ?_)
  refine lv_aload_n hx hb d_M_loop_11 rfl (lv_at hl 0 rfl) ?_
  refine g_M_22_M X Z d_M_loop_12 ?_
  refine lv_iload_n hx hb d_M_loop_15 rfl (lv_at hl 1 rfl) ?_
  obtain ⟨v_5, e_6, hf⟩ := sr_b hf
  refine sr_iald hx hb hK Z 5 4 rfl rfl e_6 d_M_loop_16 ?_
  refine lv_icmp_lt (tgt := 28) hx hb d_M_loop_17 rfl (fun q_7 => ?_) (fun q_7 => ?_)
  · have hf := sr_it q_7 hf
    refine lv_aload_n hx hb d_M_loop_28 rfl (lv_at hl 0 rfl) ?_
    refine lv_iload_n hx hb d_M_loop_29 rfl (lv_at hl 1 rfl) ?_
    refine lv_iconst (v := 2) hx hb d_M_loop_30 (by decide) ?_
    obtain ⟨u_8, e_9, hf⟩ := sr_b hf
    refine sr_cVv (As := [.int x1, .int 2]) (rest := []) X Z sr_cut_self hK (c_M_put e_9) (cw_M_183 X.2.2.2.2.2.1 (by decide)) 0 rfl rfl rfl hl rfl (Nat.le_of_ble_eq_true rfl) d_M_loop_31 (fun H locs Z => ?_)
    refine lv_iconst (v := 0) hx hb d_M_loop_34 (by decide) ?_
    refine lv_istore_n (lv' := [(2, .int 0), (0, .ref (h 0)), (1, .int x1)]) hx hb d_M_loop_35 rfl hl (by decide) rfl (fun ls hl => ?_)
    exact k_M_loop_36_it X _ Z (lv_sub hl [1, 2, 0] rfl) hf
  · have hf := sr_if q_7 hf
    refine lv_aload_n hx hb d_M_loop_20 rfl (lv_at hl 0 rfl) ?_
    refine lv_iconst (v := 1) hx hb d_M_loop_21 (by decide) ?_
    refine lv_iload_n hx hb d_M_loop_22 rfl (lv_at hl 1 rfl) ?_
    refine lv_iconst (v := 0) hx hb d_M_loop_23 (by decide) ?_
    obtain ⟨u_22, e_23, hf⟩ := sr_b hf
    refine sr_cVv (As := [.int 1, .int x1, .int 0]) (rest := []) X Z sr_cut_self hK (c_M_then e_23) (cw_M_209 X.2.2.2.2.2.1 (by decide)) 0 rfl rfl rfl hl rfl (Nat.le_of_ble_eq_true rfl) d_M_loop_24 (fun H locs Z => ?_)
    cases hf
    exact sr_retv X Z d_M_loop_27
end
set_option maxHeartbeats 4000000 in
set_option maxRecDepth 100000 in
theorem c_M_loop {l : Launch} {D : va_G} {h : Nat → Nat} {t : Nat → ClassId} {sz : Nat} {x1 : Int32} {u0 : St} {u' : St} (hf : f_M_loop x1 u0 = some u') : sr_Cv l y_M_loop w_M_loop (sr_rm 2 48) D (tM t) (wM h t u0) (wM h t u') sz [.ref (h 0), .int x1] := by
  refine Met.ofW (cc := b_M_loop) (maxL := 3) (ret := none) (by decide) rfl ?_
  intro p e s m args below meth c s₁ B hml hv
  obtain ⟨rfl, hsz, hP, hK, hD0⟩ := hv
  subst hsz
  have X : sr_X D (tM t) b_M_loop 3 R_M w_M_loop p s m _ meth c (va_A (wM h t u0) s.heap.size) none := ⟨B.exec, B.bytes, hml, findClass_of_methodNamed B.named, B.notSynchronized, atoms_spec (ws := w_M_loop) B.pre, hK, fun q h => Or.inr h, B.returns⟩
  have Z : sr_Z D (va_A (wM h t u0) s.heap.size) s.heap (wM h t u0) s.heap [] := ⟨hP, hD0.self, va_S.rf⟩
  have hl := lv_entry ([.ref (h 0), .int x1] : List Value) (n := 3) (Nat.le_of_ble_eq_true rfl)
  rw [lg_entry_eq]
  exact k_M_loop_0 X Z hl hf
/-! M_joined -/
theorem d_M_joined_0 : decode b_M_joined 0 = .ok (.iconst 0, 1) := by decide +kernel
theorem d_M_joined_1 : decode b_M_joined 1 = .ok (.istore_n 2, 1) := by decide +kernel
theorem d_M_joined_2 : decode b_M_joined 2 = .ok (.iconst 0, 1) := by decide +kernel
theorem d_M_joined_3 : decode b_M_joined 3 = .ok (.istore_n 3, 1) := by decide +kernel
theorem d_M_joined_4 : decode b_M_joined 4 = .ok (.iconst 0, 1) := by decide +kernel
theorem d_M_joined_5 : decode b_M_joined 5 = .ok (.istore 4, 2) := by decide +kernel
theorem d_M_joined_7 : decode b_M_joined 7 = .ok (.iload 4, 2) := by decide +kernel
theorem d_M_joined_9 : decode b_M_joined 9 = .ok (.aload_n 0, 1) := by decide +kernel
theorem d_M_joined_10 : decode b_M_joined 10 = .ok (.getfield 115, 3) := by decide +kernel
theorem d_M_joined_13 : decode b_M_joined 13 = .ok (.if_icmp .ge 50, 3) := by decide +kernel
theorem d_M_joined_16 : decode b_M_joined 16 = .ok (.aload_n 0, 1) := by decide +kernel
theorem d_M_joined_17 : decode b_M_joined 17 = .ok (.getfield 31, 3) := by decide +kernel
theorem d_M_joined_20 : decode b_M_joined 20 = .ok (.iload 4, 2) := by decide +kernel
theorem d_M_joined_22 : decode b_M_joined 22 = .ok (.iaload, 1) := by decide +kernel
theorem d_M_joined_23 : decode b_M_joined 23 = .ok (.iload_n 1, 1) := by decide +kernel
theorem d_M_joined_24 : decode b_M_joined 24 = .ok (.if_icmp .ne 33, 3) := by decide +kernel
theorem d_M_joined_27 : decode b_M_joined 27 = .ok (.iinc 2 1, 3) := by decide +kernel
theorem d_M_joined_30 : decode b_M_joined 30 = .ok (.iload_n 3, 1) := by decide +kernel
theorem d_M_joined_31 : decode b_M_joined 31 = .ok (.aload_n 0, 1) := by decide +kernel
theorem d_M_joined_32 : decode b_M_joined 32 = .ok (.getfield 71, 3) := by decide +kernel
theorem d_M_joined_35 : decode b_M_joined 35 = .ok (.bipush 16, 2) := by decide +kernel
theorem d_M_joined_37 : decode b_M_joined 37 = .ok (.aload_n 0, 1) := by decide +kernel
theorem d_M_joined_38 : decode b_M_joined 38 = .ok (.getfield 168, 3) := by decide +kernel
theorem d_M_joined_41 : decode b_M_joined 41 = .ok (.imul, 1) := by decide +kernel
theorem d_M_joined_42 : decode b_M_joined 42 = .ok (.iload 4, 2) := by decide +kernel
theorem d_M_joined_44 : decode b_M_joined 44 = .ok (.iadd, 1) := by decide +kernel
theorem d_M_joined_45 : decode b_M_joined 45 = .ok (.iaload, 1) := by decide +kernel
theorem d_M_joined_46 : decode b_M_joined 46 = .ok (.iconst 1, 1) := by decide +kernel
theorem d_M_joined_47 : decode b_M_joined 47 = .ok (.if_icmp .ne 7, 3) := by decide +kernel
theorem d_M_joined_50 : decode b_M_joined 50 = .ok (.iconst 1, 1) := by decide +kernel
theorem d_M_joined_51 : decode b_M_joined 51 = .ok (.goto 4, 3) := by decide +kernel
theorem d_M_joined_54 : decode b_M_joined 54 = .ok (.iconst 0, 1) := by decide +kernel
theorem d_M_joined_55 : decode b_M_joined 55 = .ok (.iadd, 1) := by decide +kernel
theorem d_M_joined_56 : decode b_M_joined 56 = .ok (.istore_n 3, 1) := by decide +kernel
theorem d_M_joined_57 : decode b_M_joined 57 = .ok (.iinc 4 1, 3) := by decide +kernel
theorem d_M_joined_60 : decode b_M_joined 60 = .ok (.goto (-53), 3) := by decide +kernel
theorem d_M_joined_63 : decode b_M_joined 63 = .ok (.iload_n 2, 1) := by decide +kernel
theorem d_M_joined_64 : decode b_M_joined 64 = .ok (.ifCond .eq 27, 3) := by decide +kernel
theorem d_M_joined_67 : decode b_M_joined 67 = .ok (.aload_n 0, 1) := by decide +kernel
theorem d_M_joined_68 : decode b_M_joined 68 = .ok (.getfield 25, 3) := by decide +kernel
theorem d_M_joined_71 : decode b_M_joined 71 = .ok (.iload_n 1, 1) := by decide +kernel
theorem d_M_joined_72 : decode b_M_joined 72 = .ok (.iaload, 1) := by decide +kernel
theorem d_M_joined_73 : decode b_M_joined 73 = .ok (.iconst 2, 1) := by decide +kernel
theorem d_M_joined_74 : decode b_M_joined 74 = .ok (.irem, 1) := by decide +kernel
theorem d_M_joined_75 : decode b_M_joined 75 = .ok (.iconst 1, 1) := by decide +kernel
theorem d_M_joined_76 : decode b_M_joined 76 = .ok (.if_icmp .ne 11, 3) := by decide +kernel
theorem d_M_joined_79 : decode b_M_joined 79 = .ok (.iload_n 3, 1) := by decide +kernel
theorem d_M_joined_80 : decode b_M_joined 80 = .ok (.iload_n 2, 1) := by decide +kernel
theorem d_M_joined_81 : decode b_M_joined 81 = .ok (.if_icmp .ne 14, 3) := by decide +kernel
theorem d_M_joined_84 : decode b_M_joined 84 = .ok (.goto 7, 3) := by decide +kernel
theorem d_M_joined_87 : decode b_M_joined 87 = .ok (.iload_n 3, 1) := by decide +kernel
theorem d_M_joined_88 : decode b_M_joined 88 = .ok (.ifCond .le 7, 3) := by decide +kernel
theorem d_M_joined_91 : decode b_M_joined 91 = .ok (.iconst 1, 1) := by decide +kernel
theorem d_M_joined_92 : decode b_M_joined 92 = .ok (.goto 4, 3) := by decide +kernel
theorem d_M_joined_95 : decode b_M_joined 95 = .ok (.iconst 0, 1) := by decide +kernel
theorem d_M_joined_96 : decode b_M_joined 96 = .ok (.ireturn, 1) := by decide +kernel
section
variable {p : Program} {l : Launch} {e : Env} {s : State} {m : MethodId} {args : Array Value} {below : List Frame} {meth : Method} {c : Code} {H : Heap} {locs : List Loc} {ls : Array Slot} {D : va_G} {A : Nat → Prop} {h o : Nat → Nat} {t v : Nat → ClassId}
def f_M_joined_91 (u0 : St) : Option (Int32) :=
  some 1
set_option maxHeartbeats 4000000 in
set_option maxRecDepth 100000 in
theorem k_M_joined_91 {u0 : St} {r : Int32} (X : sr_X D (tM t) b_M_joined 5 R_M w_M_joined p s m args meth c A (some .boolean)) (Z : sr_Z D A s.heap (wM h t u0) H locs) (hl : lv_has ls 5 []) (hf : f_M_joined_91 u0 = some r) : W p l e (sr_rm 0 0) s m args below meth c H locs 0 0 (sr_Qi D (tM t) below args s A (wM h t u0) r) (F0 m 91 ls []) := by
  have hx := X.1
  have hb := X.2.1
  have hK := X.2.2.2.2.2.2.1
  unfold f_M_joined_91 at hf
  refine lv_iconst (v := 1) hx hb d_M_joined_91 (by decide) ?_
  refine lv_goto (tgt := 96) hx hb d_M_joined_92 rfl ?_
  cases hf
  exact sr_retz X Z (by decide) d_M_joined_96
def f_M_joined_57 (k7 : Int32 → Int32 → Int32 → Int32 → Option (Int32)) (u0 : St) (x1 : Int32) (x2 : Int32) (x3 : Int32) (x4 : Int32) : Option (Int32) :=
  k7 x1 x2 x3 (x4 + 1)
set_option maxHeartbeats 4000000 in
set_option maxRecDepth 100000 in
theorem k_M_joined_57 {k7 : Int32 → Int32 → Int32 → Int32 → Option (Int32)} {u0 : St} {x1 : Int32} {x2 : Int32} {x3 : Int32} {x4 : Int32} {r : Int32} (X : sr_X D (tM t) b_M_joined 5 R_M w_M_joined p s m args meth c A (some .boolean)) (hk7 : ∀ (x1 : Int32) (x2 : Int32) (x3 : Int32) (x4 : Int32) (H : Heap) (locs : List Loc) (ls : Array Slot), sr_Z D A s.heap (wM h t u0) H locs → lv_has ls 5 [(0, .ref (h 0)), (1, .int x1), (2, .int x2), (3, .int x3), (4, .int x4)] → k7 x1 x2 x3 x4 = some r → W p l e (sr_rm 0 0) s m args below meth c H locs 0 0 (sr_Qi D (tM t) below args s A (wM h t u0) r) (F0 m 7 ls [])) (Z : sr_Z D A s.heap (wM h t u0) H locs) (hl : lv_has ls 5 [(0, .ref (h 0)), (1, .int x1), (2, .int x2), (3, .int x3), (4, .int x4)]) (hf : f_M_joined_57 k7 u0 x1 x2 x3 x4 = some r) : W p l e (sr_rm 0 0) s m args below meth c H locs 0 0 (sr_Qi D (tM t) below args s A (wM h t u0) r) (F0 m 57 ls []) := by
  have hx := X.1
  have hb := X.2.1
  have hK := X.2.2.2.2.2.2.1
  unfold f_M_joined_57 at hf
  refine lv_iinc (k := 4) (v := x4 + 1) (lv' := [(4, .int (x4 + 1)), (0, .ref (h 0)), (1, .int x1), (2, .int x2), (3, .int x3)]) hx hb d_M_joined_57 hl rfl rfl (by decide) rfl (fun ls hl => ?_)
  refine lv_goto (tgt := 7) hx hb d_M_joined_60 rfl ?_
  exact hk7 x1 x2 x3 (x4 + 1) _ _ _ Z (lv_sub hl [1, 2, 3, 4, 0] rfl) hf
def f_M_joined_55 (k7 : Int32 → Int32 → Int32 → Int32 → Option (Int32)) (u0 : St) (x1 : Int32) (x2 : Int32) (x4 : Int32) (y0 : Int32) (y1 : Int32) : Option (Int32) :=
  f_M_joined_57 k7 u0 x1 x2 (y1 + y0) x4
set_option maxHeartbeats 4000000 in
set_option maxRecDepth 100000 in
theorem k_M_joined_55 {k7 : Int32 → Int32 → Int32 → Int32 → Option (Int32)} {u0 : St} {x1 : Int32} {x2 : Int32} {x4 : Int32} {y0 : Int32} {y1 : Int32} {r : Int32} (X : sr_X D (tM t) b_M_joined 5 R_M w_M_joined p s m args meth c A (some .boolean)) (hk7 : ∀ (x1 : Int32) (x2 : Int32) (x3 : Int32) (x4 : Int32) (H : Heap) (locs : List Loc) (ls : Array Slot), sr_Z D A s.heap (wM h t u0) H locs → lv_has ls 5 [(0, .ref (h 0)), (1, .int x1), (2, .int x2), (3, .int x3), (4, .int x4)] → k7 x1 x2 x3 x4 = some r → W p l e (sr_rm 0 0) s m args below meth c H locs 0 0 (sr_Qi D (tM t) below args s A (wM h t u0) r) (F0 m 7 ls [])) (Z : sr_Z D A s.heap (wM h t u0) H locs) (hl : lv_has ls 5 [(0, .ref (h 0)), (1, .int x1), (2, .int x2), (4, .int x4)]) (hf : f_M_joined_55 k7 u0 x1 x2 x4 y0 y1 = some r) : W p l e (sr_rm 0 0) s m args below meth c H locs 0 0 (sr_Qi D (tM t) below args s A (wM h t u0) r) (F0 m 55 ls [.int y0, .int y1]) := by
  have hx := X.1
  have hb := X.2.1
  have hK := X.2.2.2.2.2.2.1
  unfold f_M_joined_55 at hf
  refine lv_iadd hx hb d_M_joined_55 ?_
  refine lv_istore_n (lv' := [(3, .int (y1 + y0)), (0, .ref (h 0)), (1, .int x1), (2, .int x2), (4, .int x4)]) hx hb d_M_joined_56 rfl hl (by decide) rfl (fun ls hl => ?_)
  exact k_M_joined_57 X hk7 Z (lv_sub hl [1, 2, 3, 0, 4] rfl) hf
def f_M_joined_7 (k7 : Int32 → Int32 → Int32 → Int32 → Option (Int32)) (u0 : St) (x1 : Int32) (x2 : Int32) (x3 : Int32) (x4 : Int32) : Option (Int32) :=
  if (u0 7 0) ≤ x4 then
    if x2 = 0 then
      f_M_joined_91 u0
    else
      (sr_ald 24 (u0 6) x1).bind fun v_3 =>
      if (v_3 - v_3 / 2 * 2) = 1 then
        if x3 = x2 then
          f_M_joined_91 u0
        else
          some 0
      else
        if x3 ≤ 0 then
          some 0
        else
          f_M_joined_91 u0
  else
    (sr_ald 16 (u0 9) x4).bind fun v_8 =>
    if v_8 = x1 then
      (sr_ald 128 (u0 26) ((16 * (u0 33 0)) + x4)).bind fun v_11 =>
      if v_11 = 1 then
        f_M_joined_55 k7 u0 x1 (x2 + 1) x4 1 x3
      else
        f_M_joined_55 k7 u0 x1 (x2 + 1) x4 0 x3
    else
      f_M_joined_57 k7 u0 x1 x2 x3 x4
set_option maxHeartbeats 4000000 in
set_option maxRecDepth 100000 in
theorem k_M_joined_7 {k7 : Int32 → Int32 → Int32 → Int32 → Option (Int32)} {u0 : St} {x1 : Int32} {x2 : Int32} {x3 : Int32} {x4 : Int32} {r : Int32} (X : sr_X D (tM t) b_M_joined 5 R_M w_M_joined p s m args meth c A (some .boolean)) (hk7 : ∀ (x1 : Int32) (x2 : Int32) (x3 : Int32) (x4 : Int32) (H : Heap) (locs : List Loc) (ls : Array Slot), sr_Z D A s.heap (wM h t u0) H locs → lv_has ls 5 [(0, .ref (h 0)), (1, .int x1), (2, .int x2), (3, .int x3), (4, .int x4)] → k7 x1 x2 x3 x4 = some r → W p l e (sr_rm 0 0) s m args below meth c H locs 0 0 (sr_Qi D (tM t) below args s A (wM h t u0) r) (F0 m 7 ls [])) (Z : sr_Z D A s.heap (wM h t u0) H locs) (hl : lv_has ls 5 [(0, .ref (h 0)), (1, .int x1), (2, .int x2), (3, .int x3), (4, .int x4)]) (hf : f_M_joined_7 k7 u0 x1 x2 x3 x4 = some r) : W p l e (sr_rm 0 0) s m args below meth c H locs 0 0 (sr_Qi D (tM t) below args s A (wM h t u0) r) (F0 m 7 ls []) := by
  have hx := X.1
  have hb := X.2.1
  have hK := X.2.2.2.2.2.2.1
  unfold f_M_joined_7 at hf
  refine lv_iload hx hb d_M_joined_7 (lv_at hl 4 rfl) ?_
  refine lv_aload_n hx hb d_M_joined_9 rfl (lv_at hl 0 rfl) ?_
  refine g_M_115_M X Z d_M_joined_10 ?_
  refine lv_icmp_ge (tgt := 63) hx hb d_M_joined_13 rfl (fun q_1 => ?_) (fun q_1 => ?_)
  · have hf := sr_it q_1 hf
    refine lv_iload_n hx hb d_M_joined_63 rfl (lv_at hl 2 rfl) ?_
    refine lv_if_eq (tgt := 91) hx hb d_M_joined_64 rfl (fun q_2 => ?_) (fun q_2 => ?_)
    · have hf := sr_it q_2 hf
      exact k_M_joined_91 X Z (lv_sub hl [] rfl) hf
    · have hf := sr_if q_2 hf
      refine lv_aload_n hx hb d_M_joined_67 rfl (lv_at hl 0 rfl) ?_
      refine g_M_25_M X Z d_M_joined_68 ?_
      refine lv_iload_n hx hb d_M_joined_71 rfl (lv_at hl 1 rfl) ?_
      obtain ⟨v_3, e_4, hf⟩ := sr_b hf
      refine sr_iald hx hb hK Z 6 5 rfl rfl e_4 d_M_joined_72 ?_
      refine lv_iconst (v := 2) hx hb d_M_joined_73 (by decide) ?_
      refine lv_irem hx hb d_M_joined_74 (by decide) ?_
      refine lv_iconst (v := 1) hx hb d_M_joined_75 (by decide) ?_
      refine lv_icmp_ne (tgt := 87) hx hb d_M_joined_76 rfl (fun q_5 => ?_) (fun q_5 => ?_)
      · have hf := sr_if q_5 hf
        refine lv_iload_n hx hb d_M_joined_87 rfl (lv_at hl 3 rfl) ?_
        refine lv_if_le (tgt := 95) hx hb d_M_joined_88 rfl (fun q_6 => ?_) (fun q_6 => ?_)
        · have hf := sr_it q_6 hf
          refine lv_iconst (v := 0) hx hb d_M_joined_95 (by decide) ?_
          cases hf
          exact sr_retz X Z (by decide) d_M_joined_96
        · have hf := sr_if q_6 hf
          exact k_M_joined_91 X Z (lv_sub hl [] rfl) hf
      · have hf := sr_it q_5 hf
        refine lv_iload_n hx hb d_M_joined_79 rfl (lv_at hl 3 rfl) ?_
        refine lv_iload_n hx hb d_M_joined_80 rfl (lv_at hl 2 rfl) ?_
        refine lv_icmp_ne (tgt := 95) hx hb d_M_joined_81 rfl (fun q_7 => ?_) (fun q_7 => ?_)
        · have hf := sr_if q_7 hf
          refine lv_iconst (v := 0) hx hb d_M_joined_95 (by decide) ?_
          cases hf
          exact sr_retz X Z (by decide) d_M_joined_96
        · have hf := sr_it q_7 hf
          refine lv_goto (tgt := 91) hx hb d_M_joined_84 rfl ?_
          exact k_M_joined_91 X Z (lv_sub hl [] rfl) hf
  · have hf := sr_if q_1 hf
    refine lv_aload_n hx hb d_M_joined_16 rfl (lv_at hl 0 rfl) ?_
    refine g_M_31_M X Z d_M_joined_17 ?_
    refine lv_iload hx hb d_M_joined_20 (lv_at hl 4 rfl) ?_
    obtain ⟨v_8, e_9, hf⟩ := sr_b hf
    refine sr_iald hx hb hK Z 8 7 rfl rfl e_9 d_M_joined_22 ?_
    refine lv_iload_n hx hb d_M_joined_23 rfl (lv_at hl 1 rfl) ?_
    refine lv_icmp_ne (tgt := 57) hx hb d_M_joined_24 rfl (fun q_10 => ?_) (fun q_10 => ?_)
    · have hf := sr_if q_10 hf
      exact k_M_joined_57 X hk7 Z (lv_sub hl [0, 1, 2, 3, 4] rfl) hf
    · have hf := sr_it q_10 hf
      refine lv_iinc (k := 2) (v := x2 + 1) (lv' := [(2, .int (x2 + 1)), (0, .ref (h 0)), (1, .int x1), (3, .int x3), (4, .int x4)]) hx hb d_M_joined_27 hl rfl rfl (by decide) rfl (fun ls hl => ?_)
      refine lv_iload_n hx hb d_M_joined_30 rfl (lv_at hl 3 rfl) ?_
      refine lv_aload_n hx hb d_M_joined_31 rfl (lv_at hl 1 rfl) ?_
      refine g_M_71_M X Z d_M_joined_32 ?_
      refine lv_bipush (v := 16) hx hb d_M_joined_35 (by decide) ?_
      refine lv_aload_n hx hb d_M_joined_37 rfl (lv_at hl 1 rfl) ?_
      refine g_M_168_M X Z d_M_joined_38 ?_
      refine lv_imul hx hb d_M_joined_41 ?_
      refine lv_iload hx hb d_M_joined_42 (lv_at hl 4 rfl) ?_
      refine lv_iadd hx hb d_M_joined_44 ?_
      obtain ⟨v_11, e_12, hf⟩ := sr_b hf
      refine sr_iald hx hb hK Z 21 20 rfl rfl e_12 d_M_joined_45 ?_
      refine lv_iconst (v := 1) hx hb d_M_joined_46 (by decide) ?_
      refine lv_icmp_ne (tgt := 54) hx hb d_M_joined_47 rfl (fun q_13 => ?_) (fun q_13 => ?_)
      · have hf := sr_if q_13 hf
        refine lv_iconst (v := 0) hx hb d_M_joined_54 (by decide) ?_
        exact k_M_joined_55 X hk7 Z (lv_sub hl [1, 2, 0, 4] rfl) hf
      · have hf := sr_it q_13 hf
        refine lv_iconst (v := 1) hx hb d_M_joined_50 (by decide) ?_
        refine lv_goto (tgt := 55) hx hb d_M_joined_51 rfl ?_
        exact k_M_joined_55 X hk7 Z (lv_sub hl [1, 2, 0, 4] rfl) hf
def f_M_joined_7_it (u0 : St) : Nat → Int32 → Int32 → Int32 → Int32 → Option (Int32)
  | 0 => fun _ _ _ _ => none
  | n + 1 => fun x1 x2 x3 x4 => f_M_joined_7 (f_M_joined_7_it u0 n) u0 x1 x2 x3 x4
set_option maxHeartbeats 4000000 in
set_option maxRecDepth 100000 in
theorem k_M_joined_7_it {u0 : St} {r : Int32} (X : sr_X D (tM t) b_M_joined 5 R_M w_M_joined p s m args meth c A (some .boolean)) (n : Nat) : ∀ {x1 : Int32} {x2 : Int32} {x3 : Int32} {x4 : Int32} {H : Heap} {locs : List Loc} {ls : Array Slot}, sr_Z D A s.heap (wM h t u0) H locs → lv_has ls 5 [(0, .ref (h 0)), (1, .int x1), (2, .int x2), (3, .int x3), (4, .int x4)] → f_M_joined_7_it u0 n x1 x2 x3 x4 = some r → W p l e (sr_rm 0 0) s m args below meth c H locs 0 0 (sr_Qi D (tM t) below args s A (wM h t u0) r) (F0 m 7 ls []) := by
  induction n with
  | zero => intro x1 x2 x3 x4 H locs ls Z hl hf; exact absurd hf (by simp [f_M_joined_7_it])
  | succ n ih =>
    intro x1 x2 x3 x4 H locs ls Z hl hf
    exact k_M_joined_7 X (fun x1 x2 x3 x4 H locs ls Z hl hf => ih Z hl hf) Z hl hf
def f_M_joined (u0 : St) (x1 : Int32) : Option (Int32) :=
  f_M_joined_7_it u0 60 x1 0 0 0
set_option maxHeartbeats 4000000 in
set_option maxRecDepth 100000 in
theorem k_M_joined_0 {u0 : St} {x1 : Int32} {r : Int32} (X : sr_X D (tM t) b_M_joined 5 R_M w_M_joined p s m args meth c A (some .boolean)) (Z : sr_Z D A s.heap (wM h t u0) H locs) (hl : lv_has ls 5 [(0, .ref (h 0)), (1, .int x1)]) (hf : f_M_joined u0 x1 = some r) : W p l e (sr_rm 0 0) s m args below meth c H locs 0 0 (sr_Qi D (tM t) below args s A (wM h t u0) r) (F0 m 0 ls []) := by
  have hx := X.1
  have hb := X.2.1
  have hK := X.2.2.2.2.2.2.1
  unfold f_M_joined at hf
  refine lv_iconst (v := 0) hx hb d_M_joined_0 (by decide) ?_
  refine lv_istore_n (lv' := [(2, .int 0), (0, .ref (h 0)), (1, .int x1)]) hx hb d_M_joined_1 rfl hl (by decide) rfl (fun ls hl => ?_)
  refine lv_iconst (v := 0) hx hb d_M_joined_2 (by decide) ?_
  refine lv_istore_n (lv' := [(3, .int 0), (2, .int 0), (0, .ref (h 0)), (1, .int x1)]) hx hb d_M_joined_3 rfl hl (by decide) rfl (fun ls hl => ?_)
  refine lv_iconst (v := 0) hx hb d_M_joined_4 (by decide) ?_
  refine lv_istore (lv' := [(4, .int 0), (3, .int 0), (2, .int 0), (0, .ref (h 0)), (1, .int x1)]) hx hb d_M_joined_5 hl (by decide) rfl (fun ls hl => ?_)
  exact k_M_joined_7_it X _ Z (lv_sub hl [3, 4, 2, 1, 0] rfl) hf
end
set_option maxHeartbeats 4000000 in
set_option maxRecDepth 100000 in
theorem c_M_joined {l : Launch} {D : va_G} {h : Nat → Nat} {t : Nat → ClassId} {sz : Nat} {u0 : St} {x1 : Int32} {r : Int32} (hf : f_M_joined u0 x1 = some r) : sr_Ci l y_M_joined w_M_joined (sr_rm 0 0) D (tM t) (wM h t u0) (wM h t u0) sz [.ref (h 0), .int x1] r := by
  refine Met.ofW (cc := b_M_joined) (maxL := 5) (ret := (some .boolean)) (by decide) rfl ?_
  intro p e s m args below meth c s₁ B hml hv
  obtain ⟨rfl, hsz, hP, hK, hD0⟩ := hv
  subst hsz
  have X : sr_X D (tM t) b_M_joined 5 R_M w_M_joined p s m _ meth c (va_A (wM h t u0) s.heap.size) (some .boolean) := ⟨B.exec, B.bytes, hml, findClass_of_methodNamed B.named, B.notSynchronized, atoms_spec (ws := w_M_joined) B.pre, hK, fun q h => Or.inr h, B.returns⟩
  have Z : sr_Z D (va_A (wM h t u0) s.heap.size) s.heap (wM h t u0) s.heap [] := ⟨hP, hD0.self, va_S.rf⟩
  have hl := lv_entry ([.ref (h 0), .int x1] : List Value) (n := 5) (Nat.le_of_ble_eq_true rfl)
  rw [lg_entry_eq]
  exact k_M_joined_0 X Z hl hf
/-! M_waiting -/
theorem d_M_waiting_0 : decode b_M_waiting 0 = .ok (.iconst 0, 1) := by decide +kernel
theorem d_M_waiting_1 : decode b_M_waiting 1 = .ok (.istore_n 2, 1) := by decide +kernel
theorem d_M_waiting_2 : decode b_M_waiting 2 = .ok (.iload_n 2, 1) := by decide +kernel
theorem d_M_waiting_3 : decode b_M_waiting 3 = .ok (.aload_n 0, 1) := by decide +kernel
theorem d_M_waiting_4 : decode b_M_waiting 4 = .ok (.getfield 100, 3) := by decide +kernel
theorem d_M_waiting_7 : decode b_M_waiting 7 = .ok (.if_icmp .ge 40, 3) := by decide +kernel
theorem d_M_waiting_10 : decode b_M_waiting 10 = .ok (.aload_n 0, 1) := by decide +kernel
theorem d_M_waiting_11 : decode b_M_waiting 11 = .ok (.getfield 16, 3) := by decide +kernel
theorem d_M_waiting_14 : decode b_M_waiting 14 = .ok (.iload_n 2, 1) := by decide +kernel
theorem d_M_waiting_15 : decode b_M_waiting 15 = .ok (.iaload, 1) := by decide +kernel
theorem d_M_waiting_16 : decode b_M_waiting 16 = .ok (.iconst 5, 1) := by decide +kernel
theorem d_M_waiting_17 : decode b_M_waiting 17 = .ok (.if_icmp .ne 24, 3) := by decide +kernel
theorem d_M_waiting_20 : decode b_M_waiting 20 = .ok (.aload_n 0, 1) := by decide +kernel
theorem d_M_waiting_21 : decode b_M_waiting 21 = .ok (.getfield 19, 3) := by decide +kernel
theorem d_M_waiting_24 : decode b_M_waiting 24 = .ok (.iload_n 2, 1) := by decide +kernel
theorem d_M_waiting_25 : decode b_M_waiting 25 = .ok (.iaload, 1) := by decide +kernel
theorem d_M_waiting_26 : decode b_M_waiting 26 = .ok (.iload_n 1, 1) := by decide +kernel
theorem d_M_waiting_27 : decode b_M_waiting 27 = .ok (.if_icmp .ne 14, 3) := by decide +kernel
theorem d_M_waiting_30 : decode b_M_waiting 30 = .ok (.aload_n 0, 1) := by decide +kernel
theorem d_M_waiting_31 : decode b_M_waiting 31 = .ok (.iload_n 2, 1) := by decide +kernel
theorem d_M_waiting_32 : decode b_M_waiting 32 = .ok (.invokevirtual 171, 3) := by decide +kernel
theorem d_M_waiting_35 : decode b_M_waiting 35 = .ok (.iconst 3, 1) := by decide +kernel
theorem d_M_waiting_36 : decode b_M_waiting 36 = .ok (.if_icmp .ne 5, 3) := by decide +kernel
theorem d_M_waiting_39 : decode b_M_waiting 39 = .ok (.iload_n 2, 1) := by decide +kernel
theorem d_M_waiting_40 : decode b_M_waiting 40 = .ok (.ireturn, 1) := by decide +kernel
theorem d_M_waiting_41 : decode b_M_waiting 41 = .ok (.iinc 2 1, 3) := by decide +kernel
theorem d_M_waiting_44 : decode b_M_waiting 44 = .ok (.goto (-42), 3) := by decide +kernel
theorem d_M_waiting_47 : decode b_M_waiting 47 = .ok (.iconst (-1), 1) := by decide +kernel
theorem d_M_waiting_48 : decode b_M_waiting 48 = .ok (.ireturn, 1) := by decide +kernel
section
variable {p : Program} {l : Launch} {e : Env} {s : State} {m : MethodId} {args : Array Value} {below : List Frame} {meth : Method} {c : Code} {H : Heap} {locs : List Loc} {ls : Array Slot} {D : va_G} {A : Nat → Prop} {h o : Nat → Nat} {t v : Nat → ClassId}
def f_M_waiting_41 (k2 : Int32 → Int32 → Option (Int32)) (u0 : St) (x1 : Int32) (x2 : Int32) : Option (Int32) :=
  k2 x1 (x2 + 1)
set_option maxHeartbeats 4000000 in
set_option maxRecDepth 100000 in
theorem k_M_waiting_41 {k2 : Int32 → Int32 → Option (Int32)} {u0 : St} {x1 : Int32} {x2 : Int32} {r : Int32} (X : sr_X D (tM t) b_M_waiting 3 R_M w_M_waiting p s m args meth c A (some .int)) (hk2 : ∀ (x1 : Int32) (x2 : Int32) (H : Heap) (locs : List Loc) (ls : Array Slot), sr_Z D A s.heap (wM h t u0) H locs → lv_has ls 3 [(0, .ref (h 0)), (1, .int x1), (2, .int x2)] → k2 x1 x2 = some r → W p l e (sr_rm 1 21) s m args below meth c H locs 0 0 (sr_Qi D (tM t) below args s A (wM h t u0) r) (F0 m 2 ls [])) (Z : sr_Z D A s.heap (wM h t u0) H locs) (hl : lv_has ls 3 [(0, .ref (h 0)), (1, .int x1), (2, .int x2)]) (hf : f_M_waiting_41 k2 u0 x1 x2 = some r) : W p l e (sr_rm 1 21) s m args below meth c H locs 0 0 (sr_Qi D (tM t) below args s A (wM h t u0) r) (F0 m 41 ls []) := by
  have hx := X.1
  have hb := X.2.1
  have hK := X.2.2.2.2.2.2.1
  unfold f_M_waiting_41 at hf
  refine lv_iinc (k := 2) (v := x2 + 1) (lv' := [(2, .int (x2 + 1)), (0, .ref (h 0)), (1, .int x1)]) hx hb d_M_waiting_41 hl rfl rfl (by decide) rfl (fun ls hl => ?_)
  refine lv_goto (tgt := 2) hx hb d_M_waiting_44 rfl ?_
  exact hk2 x1 (x2 + 1) _ _ _ Z (lv_sub hl [1, 2, 0] rfl) hf
def f_M_waiting_2 (k2 : Int32 → Int32 → Option (Int32)) (u0 : St) (x1 : Int32) (x2 : Int32) : Option (Int32) :=
  if (u0 0 0) ≤ x2 then
    some (-1)
  else
    (sr_ald 24 (u0 3) x2).bind fun v_2 =>
    if v_2 = 5 then
      (sr_ald 24 (u0 4) x2).bind fun v_5 =>
      if v_5 = x1 then
        (f_M_st u0 x2).bind fun v_8 =>
        if v_8 = 3 then
          some x2
        else
          f_M_waiting_41 k2 u0 x1 x2
      else
        f_M_waiting_41 k2 u0 x1 x2
    else
      f_M_waiting_41 k2 u0 x1 x2
set_option maxHeartbeats 4000000 in
set_option maxRecDepth 100000 in
theorem k_M_waiting_2 {k2 : Int32 → Int32 → Option (Int32)} {u0 : St} {x1 : Int32} {x2 : Int32} {r : Int32} (X : sr_X D (tM t) b_M_waiting 3 R_M w_M_waiting p s m args meth c A (some .int)) (hk2 : ∀ (x1 : Int32) (x2 : Int32) (H : Heap) (locs : List Loc) (ls : Array Slot), sr_Z D A s.heap (wM h t u0) H locs → lv_has ls 3 [(0, .ref (h 0)), (1, .int x1), (2, .int x2)] → k2 x1 x2 = some r → W p l e (sr_rm 1 21) s m args below meth c H locs 0 0 (sr_Qi D (tM t) below args s A (wM h t u0) r) (F0 m 2 ls [])) (Z : sr_Z D A s.heap (wM h t u0) H locs) (hl : lv_has ls 3 [(0, .ref (h 0)), (1, .int x1), (2, .int x2)]) (hf : f_M_waiting_2 k2 u0 x1 x2 = some r) : W p l e (sr_rm 1 21) s m args below meth c H locs 0 0 (sr_Qi D (tM t) below args s A (wM h t u0) r) (F0 m 2 ls []) := by
  have hx := X.1
  have hb := X.2.1
  have hK := X.2.2.2.2.2.2.1
  unfold f_M_waiting_2 at hf
  refine lv_iload_n hx hb d_M_waiting_2 rfl (lv_at hl 2 rfl) ?_
  refine lv_aload_n hx hb d_M_waiting_3 rfl (lv_at hl 0 rfl) ?_
  refine g_M_100_M X Z d_M_waiting_4 ?_
  refine lv_icmp_ge (tgt := 47) hx hb d_M_waiting_7 rfl (fun q_1 => ?_) (fun q_1 => ?_)
  · have hf := sr_it q_1 hf
    refine lv_iconst (v := -1) hx hb d_M_waiting_47 (by decide) ?_
    cases hf
    exact sr_reti X Z d_M_waiting_48
  · have hf := sr_if q_1 hf
    refine lv_aload_n hx hb d_M_waiting_10 rfl (lv_at hl 0 rfl) ?_
    refine g_M_16_M X Z d_M_waiting_11 ?_
    refine lv_iload_n hx hb d_M_waiting_14 rfl (lv_at hl 2 rfl) ?_
    obtain ⟨v_2, e_3, hf⟩ := sr_b hf
    refine sr_iald hx hb hK Z 3 2 rfl rfl e_3 d_M_waiting_15 ?_
    refine lv_iconst (v := 5) hx hb d_M_waiting_16 (by decide) ?_
    refine lv_icmp_ne (tgt := 41) hx hb d_M_waiting_17 rfl (fun q_4 => ?_) (fun q_4 => ?_)
    · have hf := sr_if q_4 hf
      exact k_M_waiting_41 X hk2 Z (lv_sub hl [0, 1, 2] rfl) hf
    · have hf := sr_it q_4 hf
      refine lv_aload_n hx hb d_M_waiting_20 rfl (lv_at hl 0 rfl) ?_
      refine g_M_19_M X Z d_M_waiting_21 ?_
      refine lv_iload_n hx hb d_M_waiting_24 rfl (lv_at hl 2 rfl) ?_
      obtain ⟨v_5, e_6, hf⟩ := sr_b hf
      refine sr_iald hx hb hK Z 4 3 rfl rfl e_6 d_M_waiting_25 ?_
      refine lv_iload_n hx hb d_M_waiting_26 rfl (lv_at hl 1 rfl) ?_
      refine lv_icmp_ne (tgt := 41) hx hb d_M_waiting_27 rfl (fun q_7 => ?_) (fun q_7 => ?_)
      · have hf := sr_if q_7 hf
        exact k_M_waiting_41 X hk2 Z (lv_sub hl [0, 1, 2] rfl) hf
      · have hf := sr_it q_7 hf
        refine lv_aload_n hx hb d_M_waiting_30 rfl (lv_at hl 0 rfl) ?_
        refine lv_iload_n hx hb d_M_waiting_31 rfl (lv_at hl 2 rfl) ?_
        obtain ⟨v_8, e_9, hf⟩ := sr_b hf
        refine sr_cVi (As := [.int x2]) (rest := []) X Z sr_cut_self hK (c_M_st e_9) (cw_M_171 X.2.2.2.2.2.1 (by decide)) 0 rfl rfl rfl hl rfl (Nat.le_of_ble_eq_true rfl) d_M_waiting_32 (fun H locs Z => ?_)
        refine lv_iconst (v := 3) hx hb d_M_waiting_35 (by decide) ?_
        refine lv_icmp_ne (tgt := 41) hx hb d_M_waiting_36 rfl (fun q_10 => ?_) (fun q_10 => ?_)
        · have hf := sr_if q_10 hf
          exact k_M_waiting_41 X hk2 Z (lv_sub hl [0, 1, 2] rfl) hf
        · have hf := sr_it q_10 hf
          refine lv_iload_n hx hb d_M_waiting_39 rfl (lv_at hl 2 rfl) ?_
          cases hf
          exact sr_reti X Z d_M_waiting_40
def f_M_waiting_2_it (u0 : St) : Nat → Int32 → Int32 → Option (Int32)
  | 0 => fun _ _ => none
  | n + 1 => fun x1 x2 => f_M_waiting_2 (f_M_waiting_2_it u0 n) u0 x1 x2
set_option maxHeartbeats 4000000 in
set_option maxRecDepth 100000 in
theorem k_M_waiting_2_it {u0 : St} {r : Int32} (X : sr_X D (tM t) b_M_waiting 3 R_M w_M_waiting p s m args meth c A (some .int)) (n : Nat) : ∀ {x1 : Int32} {x2 : Int32} {H : Heap} {locs : List Loc} {ls : Array Slot}, sr_Z D A s.heap (wM h t u0) H locs → lv_has ls 3 [(0, .ref (h 0)), (1, .int x1), (2, .int x2)] → f_M_waiting_2_it u0 n x1 x2 = some r → W p l e (sr_rm 1 21) s m args below meth c H locs 0 0 (sr_Qi D (tM t) below args s A (wM h t u0) r) (F0 m 2 ls []) := by
  induction n with
  | zero => intro x1 x2 H locs ls Z hl hf; exact absurd hf (by simp [f_M_waiting_2_it])
  | succ n ih =>
    intro x1 x2 H locs ls Z hl hf
    exact k_M_waiting_2 X (fun x1 x2 H locs ls Z hl hf => ih Z hl hf) Z hl hf
def f_M_waiting (u0 : St) (x1 : Int32) : Option (Int32) :=
  f_M_waiting_2_it u0 60 x1 0
set_option maxHeartbeats 4000000 in
set_option maxRecDepth 100000 in
theorem k_M_waiting_0 {u0 : St} {x1 : Int32} {r : Int32} (X : sr_X D (tM t) b_M_waiting 3 R_M w_M_waiting p s m args meth c A (some .int)) (Z : sr_Z D A s.heap (wM h t u0) H locs) (hl : lv_has ls 3 [(0, .ref (h 0)), (1, .int x1)]) (hf : f_M_waiting u0 x1 = some r) : W p l e (sr_rm 1 21) s m args below meth c H locs 0 0 (sr_Qi D (tM t) below args s A (wM h t u0) r) (F0 m 0 ls []) := by
  have hx := X.1
  have hb := X.2.1
  have hK := X.2.2.2.2.2.2.1
  unfold f_M_waiting at hf
  refine lv_iconst (v := 0) hx hb d_M_waiting_0 (by decide) ?_
  refine lv_istore_n (lv' := [(2, .int 0), (0, .ref (h 0)), (1, .int x1)]) hx hb d_M_waiting_1 rfl hl (by decide) rfl (fun ls hl => ?_)
  exact k_M_waiting_2_it X _ Z (lv_sub hl [1, 2, 0] rfl) hf
end
set_option maxHeartbeats 4000000 in
set_option maxRecDepth 100000 in
theorem c_M_waiting {l : Launch} {D : va_G} {h : Nat → Nat} {t : Nat → ClassId} {sz : Nat} {u0 : St} {x1 : Int32} {r : Int32} (hf : f_M_waiting u0 x1 = some r) : sr_Ci l y_M_waiting w_M_waiting (sr_rm 1 21) D (tM t) (wM h t u0) (wM h t u0) sz [.ref (h 0), .int x1] r := by
  refine Met.ofW (cc := b_M_waiting) (maxL := 3) (ret := (some .int)) (by decide) rfl ?_
  intro p e s m args below meth c s₁ B hml hv
  obtain ⟨rfl, hsz, hP, hK, hD0⟩ := hv
  subst hsz
  have X : sr_X D (tM t) b_M_waiting 3 R_M w_M_waiting p s m _ meth c (va_A (wM h t u0) s.heap.size) (some .int) := ⟨B.exec, B.bytes, hml, findClass_of_methodNamed B.named, B.notSynchronized, atoms_spec (ws := w_M_waiting) B.pre, hK, fun q h => Or.inr h, B.returns⟩
  have Z : sr_Z D (va_A (wM h t u0) s.heap.size) s.heap (wM h t u0) s.heap [] := ⟨hP, hD0.self, va_S.rf⟩
  have hl := lv_entry ([.ref (h 0), .int x1] : List Value) (n := 3) (Nat.le_of_ble_eq_true rfl)
  rw [lg_entry_eq]
  exact k_M_waiting_0 X Z hl hf
