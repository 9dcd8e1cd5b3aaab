/-! M_message -/
theorem d_M_message_0 : decode b_M_message 0 = .ok (.iconst 0, 1) := by decide +kernel
theorem d_M_message_1 : decode b_M_message 1 = .ok (.istore 4, 2) := by decide +kernel
theorem d_M_message_3 : decode b_M_message 3 = .ok (.iload 4, 2) := by decide +kernel
theorem d_M_message_5 : decode b_M_message 5 = .ok (.aload_n 0, 1) := by decide +kernel
theorem d_M_message_6 : decode b_M_message 6 = .ok (.getfield 255, 3) := by decide +kernel
theorem d_M_message_9 : decode b_M_message 9 = .ok (.if_icmp .ge 79, 3) := by decide +kernel
theorem d_M_message_12 : decode b_M_message 12 = .ok (.aload_n 0, 1) := by decide +kernel
theorem d_M_message_13 : decode b_M_message 13 = .ok (.getfield 43, 3) := by decide +kernel
theorem d_M_message_16 : decode b_M_message 16 = .ok (.iload 4, 2) := by decide +kernel
theorem d_M_message_18 : decode b_M_message 18 = .ok (.iaload, 1) := by decide +kernel
theorem d_M_message_19 : decode b_M_message 19 = .ok (.ifCond .ne 63, 3) := by decide +kernel
theorem d_M_message_22 : decode b_M_message 22 = .ok (.aload_n 0, 1) := by decide +kernel
theorem d_M_message_23 : decode b_M_message 23 = .ok (.getfield 46, 3) := by decide +kernel
theorem d_M_message_26 : decode b_M_message 26 = .ok (.iload 4, 2) := by decide +kernel
theorem d_M_message_28 : decode b_M_message 28 = .ok (.iaload, 1) := by decide +kernel
theorem d_M_message_29 : decode b_M_message 29 = .ok (.iload_n 2, 1) := by decide +kernel
theorem d_M_message_30 : decode b_M_message 30 = .ok (.if_icmp .ne 52, 3) := by decide +kernel
theorem d_M_message_33 : decode b_M_message 33 = .ok (.aload_n 0, 1) := by decide +kernel
theorem d_M_message_34 : decode b_M_message 34 = .ok (.iload 4, 2) := by decide +kernel
theorem d_M_message_36 : decode b_M_message 36 = .ok (.putfield 168, 3) := by decide +kernel
theorem d_M_message_39 : decode b_M_message 39 = .ok (.aload_n 0, 1) := by decide +kernel
theorem d_M_message_40 : decode b_M_message 40 = .ok (.iload_n 1, 1) := by decide +kernel
theorem d_M_message_41 : decode b_M_message 41 = .ok (.invokevirtual 246, 3) := by decide +kernel
theorem d_M_message_44 : decode b_M_message 44 = .ok (.istore 5, 2) := by decide +kernel
theorem d_M_message_46 : decode b_M_message 46 = .ok (.iload 5, 2) := by decide +kernel
theorem d_M_message_48 : decode b_M_message 48 = .ok (.ifCond .ge 5, 3) := by decide +kernel
theorem d_M_message_51 : decode b_M_message 51 = .ok (.iconst (-1), 1) := by decide +kernel
theorem d_M_message_52 : decode b_M_message 52 = .ok (.ireturn, 1) := by decide +kernel
theorem d_M_message_53 : decode b_M_message 53 = .ok (.aload_n 0, 1) := by decide +kernel
theorem d_M_message_54 : decode b_M_message 54 = .ok (.iload 5, 2) := by decide +kernel
theorem d_M_message_56 : decode b_M_message 56 = .ok (.aload_n 0, 1) := by decide +kernel
theorem d_M_message_57 : decode b_M_message 57 = .ok (.getfield 22, 3) := by decide +kernel
theorem d_M_message_60 : decode b_M_message 60 = .ok (.iload 5, 2) := by decide +kernel
theorem d_M_message_62 : decode b_M_message 62 = .ok (.iaload, 1) := by decide +kernel
theorem d_M_message_63 : decode b_M_message 63 = .ok (.iload_n 3, 1) := by decide +kernel
theorem d_M_message_64 : decode b_M_message 64 = .ok (.invokevirtual 249, 3) := by decide +kernel
theorem d_M_message_67 : decode b_M_message 67 = .ok (.aload_n 0, 1) := by decide +kernel
theorem d_M_message_68 : decode b_M_message 68 = .ok (.iconst 1, 1) := by decide +kernel
theorem d_M_message_69 : decode b_M_message 69 = .ok (.iload 5, 2) := by decide +kernel
theorem d_M_message_71 : decode b_M_message 71 = .ok (.iconst 0, 1) := by decide +kernel
theorem d_M_message_72 : decode b_M_message 72 = .ok (.invokevirtual 209, 3) := by decide +kernel
theorem d_M_message_75 : decode b_M_message 75 = .ok (.aload_n 0, 1) := by decide +kernel
theorem d_M_message_76 : decode b_M_message 76 = .ok (.invokevirtual 243, 3) := by decide +kernel
theorem d_M_message_79 : decode b_M_message 79 = .ok (.iload 4, 2) := by decide +kernel
theorem d_M_message_81 : decode b_M_message 81 = .ok (.ireturn, 1) := by decide +kernel
theorem d_M_message_82 : decode b_M_message 82 = .ok (.iinc 4 1, 3) := by decide +kernel
theorem d_M_message_85 : decode b_M_message 85 = .ok (.goto (-82), 3) := by decide +kernel
theorem d_M_message_88 : decode b_M_message 88 = .ok (.aload_n 0, 1) := by decide +kernel
theorem d_M_message_89 : decode b_M_message 89 = .ok (.getfield 96, 3) := by decide +kernel
theorem d_M_message_92 : decode b_M_message 92 = .ok (.ifCond .eq 25, 3) := by decide +kernel
theorem d_M_message_95 : decode b_M_message 95 = .ok (.iload_n 1, 1) := by decide +kernel
theorem d_M_message_96 : decode b_M_message 96 = .ok (.aload_n 0, 1) := by decide +kernel
theorem d_M_message_97 : decode b_M_message 97 = .ok (.getfield 19, 3) := by decide +kernel
theorem d_M_message_100 : decode b_M_message 100 = .ok (.aload_n 0, 1) := by decide +kernel
theorem d_M_message_101 : decode b_M_message 101 = .ok (.getfield 143, 3) := by decide +kernel
theorem d_M_message_104 : decode b_M_message 104 = .ok (.iaload, 1) := by decide +kernel
theorem d_M_message_105 : decode b_M_message 105 = .ok (.if_icmp .ne 12, 3) := by decide +kernel
theorem d_M_message_108 : decode b_M_message 108 = .ok (.aload_n 0, 1) := by decide +kernel
theorem d_M_message_109 : decode b_M_message 109 = .ok (.getfield 255, 3) := by decide +kernel
theorem d_M_message_112 : decode b_M_message 112 = .ok (.bipush 8, 2) := by decide +kernel
theorem d_M_message_114 : decode b_M_message 114 = .ok (.if_icmp .lt 5, 3) := by decide +kernel
theorem d_M_message_117 : decode b_M_message 117 = .ok (.iconst (-1), 1) := by decide +kernel
theorem d_M_message_118 : decode b_M_message 118 = .ok (.ireturn, 1) := by decide +kernel
theorem d_M_message_119 : decode b_M_message 119 = .ok (.aload_n 0, 1) := by decide +kernel
theorem d_M_message_120 : decode b_M_message 120 = .ok (.getfield 46, 3) := by decide +kernel
theorem d_M_message_123 : decode b_M_message 123 = .ok (.aload_n 0, 1) := by decide +kernel
theorem d_M_message_124 : decode b_M_message 124 = .ok (.getfield 255, 3) := by decide +kernel
theorem d_M_message_127 : decode b_M_message 127 = .ok (.iload_n 2, 1) := by decide +kernel
theorem d_M_message_128 : decode b_M_message 128 = .ok (.iastore, 1) := by decide +kernel
theorem d_M_message_129 : decode b_M_message 129 = .ok (.aload_n 0, 1) := by decide +kernel
theorem d_M_message_130 : decode b_M_message 130 = .ok (.getfield 49, 3) := by decide +kernel
theorem d_M_message_133 : decode b_M_message 133 = .ok (.aload_n 0, 1) := by decide +kernel
theorem d_M_message_134 : decode b_M_message 134 = .ok (.getfield 255, 3) := by decide +kernel
theorem d_M_message_137 : decode b_M_message 137 = .ok (.iload_n 3, 1) := by decide +kernel
theorem d_M_message_138 : decode b_M_message 138 = .ok (.iastore, 1) := by decide +kernel
theorem d_M_message_139 : decode b_M_message 139 = .ok (.aload_n 0, 1) := by decide +kernel
theorem d_M_message_140 : decode b_M_message 140 = .ok (.getfield 55, 3) := by decide +kernel
theorem d_M_message_143 : decode b_M_message 143 = .ok (.bipush 24, 2) := by decide +kernel
theorem d_M_message_145 : decode b_M_message 145 = .ok (.aload_n 0, 1) := by decide +kernel
theorem d_M_message_146 : decode b_M_message 146 = .ok (.getfield 255, 3) := by decide +kernel
theorem d_M_message_149 : decode b_M_message 149 = .ok (.imul, 1) := by decide +kernel
theorem d_M_message_150 : decode b_M_message 150 = .ok (.iconst 1, 1) := by decide +kernel
theorem d_M_message_151 : decode b_M_message 151 = .ok (.iastore, 1) := by decide +kernel
theorem d_M_message_152 : decode b_M_message 152 = .ok (.aload_n 0, 1) := by decide +kernel
theorem d_M_message_153 : decode b_M_message 153 = .ok (.dup, 1) := by decide +kernel
theorem d_M_message_154 : decode b_M_message 154 = .ok (.getfield 255, 3) := by decide +kernel
theorem d_M_message_157 : decode b_M_message 157 = .ok (.iconst 1, 1) := by decide +kernel
theorem d_M_message_158 : decode b_M_message 158 = .ok (.iadd, 1) := by decide +kernel
theorem d_M_message_159 : decode b_M_message 159 = .ok (.putfield 255, 3) := by decide +kernel
theorem d_M_message_162 : decode b_M_message 162 = .ok (.aload_n 0, 1) := by decide +kernel
theorem d_M_message_163 : decode b_M_message 163 = .ok (.getfield 255, 3) := by decide +kernel
theorem d_M_message_166 : decode b_M_message 166 = .ok (.iconst 1, 1) := by decide +kernel
theorem d_M_message_167 : decode b_M_message 167 = .ok (.isub, 1) := by decide +kernel
theorem d_M_message_168 : decode b_M_message 168 = .ok (.ireturn, 1) := by decide +kernel
section
variable {p : Program} {l : Launch} {e : Env} {s : State} {m : MethodId} {args : Array Value} {below : List Frame} {meth : Method} {c : Code} {H : Heap} {locs : List Loc} {ls : Array Slot} {D : va_G} {A : Nat → Prop} {h o : Nat → Nat} {t v : Nat → ClassId}
def f_M_message_82 (k3 : Int32 → Int32 → Int32 → Int32 → St → Option (Int32 × St)) (x1 : Int32) (x2 : Int32) (x3 : Int32) (x4 : Int32) (u0 : St) : Option (Int32 × St) :=
  k3 x1 x2 x3 (x4 + 1) u0
set_option maxHeartbeats 4000000 in
set_option maxRecDepth 100000 in
theorem k_M_message_82 {k3 : Int32 → Int32 → Int32 → Int32 → St → Option (Int32 × St)} {x1 : Int32} {x2 : Int32} {x3 : Int32} {x4 : Int32} {u0 : St} {r : Int32} {u' : St} (X : sr_X D (tM t) b_M_message 6 R_M w_M_message p s m args meth c A (some .int)) (hk3 : ∀ (x1 : Int32) (x2 : Int32) (x3 : Int32) (x4 : Int32) (u0 : St) (H : Heap) (locs : List Loc) (ls : Array Slot), sr_Z D A s.heap (wM h t u0) H locs → lv_has ls 6 [(0, .ref (h 0)), (1, .int x1), (2, .int x2), (3, .int x3), (4, .int x4)] → k3 x1 x2 x3 x4 u0 = some (r, u') → W p l e (sr_rm 4 95) s m args below meth c H locs 0 0 (sr_Qi D (tM t) below args s A (wM h t u') r) (F0 m 3 ls [])) (Z : sr_Z D A s.heap (wM h t u0) H locs) (hl : lv_has ls 6 [(0, .ref (h 0)), (1, .int x1), (2, .int x2), (3, .int x3), (4, .int x4)]) (hf : f_M_message_82 k3 x1 x2 x3 x4 u0 = some (r, u')) : W p l e (sr_rm 4 95) s m args below meth c H locs 0 0 (sr_Qi D (tM t) below args s A (wM h t u') r) (F0 m 82 ls []) := by
  have hx := X.1
  have hb := X.2.1
  have hK := X.2.2.2.2.2.2.1
  unfold f_M_message_82 at hf
  refine lv_iinc (k := 4) (v := x4 + 1) (lv' := [(4, .int (x4 + 1)), (0, .ref (h 0)), (1, .int x1), (2, .int x2), (3, .int x3)]) hx hb d_M_message_82 hl rfl rfl (by decide) rfl (fun ls hl => ?_)
  refine lv_goto (tgt := 3) hx hb d_M_message_85 rfl ?_
  exact hk3 x1 x2 x3 (x4 + 1) u0 _ _ _ Z (lv_sub hl [1, 2, 3, 4, 0] rfl) hf
def f_M_message_3 (k3 : Int32 → Int32 → Int32 → Int32 → St → Option (Int32 × St)) (x1 : Int32) (x2 : Int32) (x3 : Int32) (x4 : Int32) (u0 : St) : Option (Int32 × St) :=
  if (u0 16 0) ≤ x4 then
    if (u0 12 0) = 0 then
      some (-1, u0)
    else
      (sr_ald 24 (u0 4) (u0 13 0)).bind fun v_3 =>
      if x1 = v_3 then
        if (u0 16 0) < 8 then
          (sr_ast 8 u0 18 (u0 16 0) x2).bind fun u_7 =>
          (sr_ast 8 u_7 19 (u_7 16 0) x3).bind fun u_9 =>
          (sr_ast 192 u_9 21 (24 * (u_9 16 0)) 1).bind fun u_11 =>
          (sr_pf u_11 16 ((u_11 16 0) + 1)).bind fun u_13 =>
          some ((u_13 16 0) - 1, u_13)
        else
          some (-1, u0)
      else
        some (-1, u0)
  else
    (sr_ald 8 (u0 17) x4).bind fun v_15 =>
    if v_15 = 0 then
      (sr_ald 8 (u0 18) x4).bind fun v_18 =>
      if v_18 = x2 then
        (sr_pf u0 33 x4).bind fun u_21 =>
        (f_M_waiting u_21 x1).bind fun v_23 =>
        if 0 ≤ v_23 then
          (sr_ald 24 (u_21 5) v_23).bind fun v_26 =>
          (f_M_store v_23 v_26 x3 u_21).bind fun u_28 =>
          (f_M_then 1 v_23 0 u_28).bind fun u_30 =>
          (f_M_settle u_30).bind fun u_32 =>
          some (x4, u_32)
        else
          some (-1, u_21)
      else
        f_M_message_82 k3 x1 x2 x3 x4 u0
    else
      f_M_message_82 k3 x1 x2 x3 x4 u0
set_option maxHeartbeats 4000000 in
set_option maxRecDepth 100000 in
theorem k_M_message_3 {k3 : Int32 → Int32 → Int32 → Int32 → St → Option (Int32 × St)} {x1 : Int32} {x2 : Int32} {x3 : Int32} {x4 : Int32} {u0 : St} {r : Int32} {u' : St} (X : sr_X D (tM t) b_M_message 6 R_M w_M_message p s m args meth c A (some .int)) (hk3 : ∀ (x1 : Int32) (x2 : Int32) (x3 : Int32) (x4 : Int32) (u0 : St) (H : Heap) (locs : List Loc) (ls : Array Slot), sr_Z D A s.heap (wM h t u0) H locs → lv_has ls 6 [(0, .ref (h 0)), (1, .int x1), (2, .int x2), (3, .int x3), (4, .int x4)] → k3 x1 x2 x3 x4 u0 = some (r, u') → W p l e (sr_rm 4 95) s m args below meth c H locs 0 0 (sr_Qi D (tM t) below args s A (wM h t u') r) (F0 m 3 ls [])) (Z : sr_Z D A s.heap (wM h t u0) H locs) (hl : lv_has ls 6 [(0, .ref (h 0)), (1, .int x1), (2, .int x2), (3, .int x3), (4, .int x4)]) (hf : f_M_message_3 k3 x1 x2 x3 x4 u0 = some (r, u')) : W p l e (sr_rm 4 95) s m args below meth c H locs 0 0 (sr_Qi D (tM t) below args s A (wM h t u') r) (F0 m 3 ls []) := by
  have hx := X.1
  have hb := X.2.1
  have hK := X.2.2.2.2.2.2.1
  unfold f_M_message_3 at hf
  refine lv_iload hx hb d_M_message_3 (lv_at hl 4 rfl) ?_
  refine lv_aload_n hx hb d_M_message_5 rfl (lv_at hl 0 rfl) ?_
  refine g_M_255_M X Z d_M_message_6 ?_
  refine lv_icmp_ge (tgt := 88) hx hb d_M_message_9 rfl (fun q_1 => ?_) (fun q_1 => ?_)
  · have hf := sr_it q_1 hf
    refine lv_aload_n hx hb d_M_message_88 rfl (lv_at hl 0 rfl) ?_
    refine g_M_96_M X Z d_M_message_89 ?_
    refine lv_if_eq (tgt := 117) hx hb d_M_message_92 rfl (fun q_2 => ?_) (fun q_2 => ?_)
    · have hf := sr_it q_2 hf
      refine lv_iconst (v := -1) hx hb d_M_message_117 (by decide) ?_
      cases hf
      exact sr_reti X Z d_M_message_118
    · have hf := sr_if q_2 hf
      refine lv_iload_n hx hb d_M_message_95 rfl (lv_at hl 1 rfl) ?_
      refine lv_aload_n hx hb d_M_message_96 rfl (lv_at hl 0 rfl) ?_
      refine g_M_19_M X Z d_M_message_97 ?_
      refine lv_aload_n hx hb d_M_message_100 rfl (lv_at hl 0 rfl) ?_
      refine g_M_143_M X Z d_M_message_101 ?_
      obtain ⟨v_3, e_4, hf⟩ := sr_b hf
      refine sr_iald hx hb hK Z 4 3 rfl rfl e_4 d_M_message_104 ?_
      refine lv_icmp_ne (tgt := 117) hx hb d_M_message_105 rfl (fun q_5 => ?_) (fun q_5 => ?_)
      · have hf := sr_if q_5 hf
        refine lv_iconst (v := -1) hx hb d_M_message_117 (by decide) ?_
        cases hf
        exact sr_reti X Z d_M_message_118
      · have hf := sr_it q_5 hf
        refine lv_aload_n hx hb d_M_message_108 rfl (lv_at hl 0 rfl) ?_
        refine g_M_255_M X Z d_M_message_109 ?_
        refine lv_bipush (v := 8) hx hb d_M_message_112 (by decide) ?_
        refine lv_icmp_lt (tgt := 119) hx hb d_M_message_114 rfl (fun q_6 => ?_) (fun q_6 => ?_)
        · have hf := sr_it q_6 hf
          refine lv_aload_n hx hb d_M_message_119 rfl (lv_at hl 0 rfl) ?_
          refine g_M_46_M X Z d_M_message_120 ?_
          refine lv_aload_n hx hb d_M_message_123 rfl (lv_at hl 0 rfl) ?_
          refine g_M_255_M X Z d_M_message_124 ?_
          refine lv_iload_n hx hb d_M_message_127 rfl (lv_at hl 2 rfl) ?_
          obtain ⟨u_7, e_8, hf⟩ := sr_b hf
          refine sr_iast (wf := (fun q => (wM h t q))) hx hb hK Z 13 12 rfl rfl e_8 (fun _ => rfl) d_M_message_128 (fun H locs Z => ?_)
          refine lv_aload_n hx hb d_M_message_129 rfl (lv_at hl 0 rfl) ?_
          refine g_M_49_M X Z d_M_message_130 ?_
          refine lv_aload_n hx hb d_M_message_133 rfl (lv_at hl 0 rfl) ?_
          refine g_M_255_M X Z d_M_message_134 ?_
          refine lv_iload_n hx hb d_M_message_137 rfl (lv_at hl 3 rfl) ?_
          obtain ⟨u_9, e_10, hf⟩ := sr_b hf
          refine sr_iast (wf := (fun q => (wM h t q))) hx hb hK Z 14 13 rfl rfl e_10 (fun _ => rfl) d_M_message_138 (fun H locs Z => ?_)
          refine lv_aload_n hx hb d_M_message_139 rfl (lv_at hl 0 rfl) ?_
          refine g_M_55_M X Z d_M_message_140 ?_
          refine lv_bipush (v := 24) hx hb d_M_message_143 (by decide) ?_
          refine lv_aload_n hx hb d_M_message_145 rfl (lv_at hl 0 rfl) ?_
          refine g_M_255_M X Z d_M_message_146 ?_
          refine lv_imul hx hb d_M_message_149 ?_
          refine lv_iconst (v := 1) hx hb d_M_message_150 (by decide) ?_
          obtain ⟨u_11, e_12, hf⟩ := sr_b hf
          refine sr_iast (wf := (fun q => (wM h t q))) hx hb hK Z 16 15 rfl rfl e_12 (fun _ => rfl) d_M_message_151 (fun H locs Z => ?_)
          refine lv_aload_n hx hb d_M_message_152 rfl (lv_at hl 0 rfl) ?_
          refine lv_dup hx hb d_M_message_153 rfl ?_
          refine g_M_255_M X Z d_M_message_154 ?_
          refine lv_iconst (v := 1) hx hb d_M_message_157 (by decide) ?_
          refine lv_iadd hx hb d_M_message_158 ?_
          obtain ⟨u_13, e_14, hf⟩ := sr_b hf
          refine s_M_255_M X Z e_14 d_M_message_159 (fun H locs Z => ?_)
          refine lv_aload_n hx hb d_M_message_162 rfl (lv_at hl 0 rfl) ?_
          refine g_M_255_M X Z d_M_message_163 ?_
          refine lv_iconst (v := 1) hx hb d_M_message_166 (by decide) ?_
          refine lv_isub hx hb d_M_message_167 ?_
          cases hf
          exact sr_reti X Z d_M_message_168
        · have hf := sr_if q_6 hf
          refine lv_iconst (v := -1) hx hb d_M_message_117 (by decide) ?_
          cases hf
          exact sr_reti X Z d_M_message_118
  · have hf := sr_if q_1 hf
    refine lv_aload_n hx hb d_M_message_12 rfl (lv_at hl 0 rfl) ?_
    refine g_M_43_M X Z d_M_message_13 ?_
    refine lv_iload hx hb d_M_message_16 (lv_at hl 4 rfl) ?_
    obtain ⟨v_15, e_16, hf⟩ := sr_b hf
    refine sr_iald hx hb hK Z 12 11 rfl rfl e_16 d_M_message_18 ?_
    refine lv_if_ne (tgt := 82) hx hb d_M_message_19 rfl (fun q_17 => ?_) (fun q_17 => ?_)
    · have hf := sr_if q_17 hf
      exact k_M_message_82 X hk3 Z (lv_sub hl [0, 1, 2, 3, 4] rfl) hf
    · have hf := sr_it q_17 hf
      refine lv_aload_n hx hb d_M_message_22 rfl (lv_at hl 0 rfl) ?_
      refine g_M_46_M X Z d_M_message_23 ?_
      refine lv_iload hx hb d_M_message_26 (lv_at hl 4 rfl) ?_
      obtain ⟨v_18, e_19, hf⟩ := sr_b hf
      refine sr_iald hx hb hK Z 13 12 rfl rfl e_19 d_M_message_28 ?_
      refine lv_iload_n hx hb d_M_message_29 rfl (lv_at hl 2 rfl) ?_
      refine lv_icmp_ne (tgt := 82) hx hb d_M_message_30 rfl (fun q_20 => ?_) (fun q_20 => ?_)
      · have hf := sr_if q_20 hf
        exact k_M_message_82 X hk3 Z (lv_sub hl [0, 1, 2, 3, 4] rfl) hf
      · have hf := sr_it q_20 hf
        refine lv_aload_n hx hb d_M_message_33 rfl (lv_at hl 0 rfl) ?_
        refine lv_iload hx hb d_M_message_34 (lv_at hl 4 rfl) ?_
        obtain ⟨u_21, e_22, hf⟩ := sr_b hf
        refine s_M_168_M X Z e_22 d_M_message_36 (fun H locs Z => ?_)
        refine lv_aload_n hx hb d_M_message_39 rfl (lv_at hl 0 rfl) ?_
        refine lv_iload_n hx hb d_M_message_40 rfl (lv_at hl 1 rfl) ?_
        obtain ⟨v_23, e_24, hf⟩ := sr_b hf
        refine sr_cVi (As := [.int x1]) (rest := []) X Z sr_cut_self hK (c_M_waiting e_24) (cw_M_246 X.2.2.2.2.2.1 (by decide)) 0 rfl rfl rfl hl rfl (Nat.le_of_ble_eq_true rfl) d_M_message_41 (fun H locs Z => ?_)
        refine lv_istore (lv' := [(5, .int v_23), (0, .ref (h 0)), (1, .int x1), (2, .int x2), (3, .int x3), (4, .int x4)]) hx hb d_M_message_44 hl (by decide) rfl (fun ls hl => ?_)
        refine lv_iload hx hb d_M_message_46 (lv_at hl 0 rfl) ?_
        refine lv_if_ge (tgt := 53) hx hb d_M_message_48 rfl (fun q_25 => ?_) (fun q_25 => ?_)
        · have hf := sr_it q_25 hf
          refine lv_aload_n hx hb d_M_message_53 rfl (lv_at hl 1 rfl) ?_
          refine lv_iload hx hb d_M_message_54 (lv_at hl 0 rfl) ?_
          refine lv_aload_n hx hb d_M_message_56 rfl (lv_at hl 1 rfl) ?_
          refine g_M_22_M X Z d_M_message_57 ?_
          refine lv_iload hx hb d_M_message_60 (lv_at hl 0 rfl) ?_
          obtain ⟨v_26, e_27, hf⟩ := sr_b hf
          refine sr_iald hx hb hK Z 5 4 rfl rfl e_27 d_M_message_62 ?_
          refine lv_iload_n hx hb d_M_message_63 rfl (lv_at hl 4 rfl) ?_
          obtain ⟨u_28, e_29, hf⟩ := sr_b hf
          refine sr_cVv (As := [.int v_23, .int v_26, .int x3]) (rest := []) X Z sr_cut_self hK (c_M_store e_29) (cw_M_249 X.2.2.2.2.2.1 (by decide)) 0 rfl rfl rfl hl rfl (Nat.le_of_ble_eq_true rfl) d_M_message_64 (fun H locs Z => ?_)
          refine lv_aload_n hx hb d_M_message_67 rfl (lv_at hl 1 rfl) ?_
          refine lv_iconst (v := 1) hx hb d_M_message_68 (by decide) ?_
          refine lv_iload hx hb d_M_message_69 (lv_at hl 0 rfl) ?_
          refine lv_iconst (v := 0) hx hb d_M_message_71 (by decide) ?_
          obtain ⟨u_30, e_31, hf⟩ := sr_b hf
          refine sr_cVv (As := [.int 1, .int v_23, .int 0]) (rest := []) X Z sr_cut_self hK (c_M_then e_31) (cw_M_209 X.2.2.2.2.2.1 (by decide)) 0 rfl rfl rfl hl rfl (Nat.le_of_ble_eq_true rfl) d_M_message_72 (fun H locs Z => ?_)
          refine lv_aload_n hx hb d_M_message_75 rfl (lv_at hl 1 rfl) ?_
          obtain ⟨u_32, e_33, hf⟩ := sr_b hf
          refine sr_cVv (As := []) (rest := []) X Z sr_cut_self hK (c_M_settle e_33) (cw_M_243 X.2.2.2.2.2.1 (by decide)) 0 rfl rfl rfl hl rfl (Nat.le_of_ble_eq_true rfl) d_M_message_76 (fun H locs Z => ?_)
          refine lv_iload hx hb d_M_message_79 (lv_at hl 5 rfl) ?_
          cases hf
          exact sr_reti X Z d_M_message_81
        · have hf := sr_if q_25 hf
          refine lv_iconst (v := -1) hx hb d_M_message_51 (by decide) ?_
          cases hf
          exact sr_reti X Z d_M_message_52
def f_M_message_3_it : Nat → Int32 → Int32 → Int32 → Int32 → St → Option (Int32 × St)
  | 0 => fun _ _ _ _ _ => none
  | n + 1 => fun x1 x2 x3 x4 u0 => f_M_message_3 (f_M_message_3_it n) x1 x2 x3 x4 u0
set_option maxHeartbeats 4000000 in
set_option maxRecDepth 100000 in
theorem k_M_message_3_it {r : Int32} {u' : St} (X : sr_X D (tM t) b_M_message 6 R_M w_M_message p s m args meth c A (some .int)) (n : Nat) : ∀ {x1 : Int32} {x2 : Int32} {x3 : Int32} {x4 : Int32} {u0 : St} {H : Heap} {locs : List Loc} {ls : Array Slot}, sr_Z D A s.heap (wM h t u0) H locs → lv_has ls 6 [(0, .ref (h 0)), (1, .int x1), (2, .int x2), (3, .int x3), (4, .int x4)] → f_M_message_3_it n x1 x2 x3 x4 u0 = some (r, u') → W p l e (sr_rm 4 95) s m args below meth c H locs 0 0 (sr_Qi D (tM t) below args s A (wM h t u') r) (F0 m 3 ls []) := by
  induction n with
  | zero => intro x1 x2 x3 x4 u0 H locs ls Z hl hf; exact absurd hf (by simp [f_M_message_3_it])
  | succ n ih =>
    intro x1 x2 x3 x4 u0 H locs ls Z hl hf
    exact k_M_message_3 X (fun x1 x2 x3 x4 u0 H locs ls Z hl hf => ih Z hl hf) Z hl hf
def f_M_message (x1 : Int32) (x2 : Int32) (x3 : Int32) (u0 : St) : Option (Int32 × St) :=
  f_M_message_3_it 60 x1 x2 x3 0 u0
set_option maxHeartbeats 4000000 in
set_option maxRecDepth 100000 in
theorem k_M_message_0 {x1 : Int32} {x2 : Int32} {x3 : Int32} {u0 : St} {r : Int32} {u' : St} (X : sr_X D (tM t) b_M_message 6 R_M w_M_message p s m args meth c A (some .int)) (Z : sr_Z D A s.heap (wM h t u0) H locs) (hl : lv_has ls 6 [(0, .ref (h 0)), (1, .int x1), (2, .int x2), (3, .int x3)]) (hf : f_M_message x1 x2 x3 u0 = some (r, u')) : W p l e (sr_rm 4 95) s m args below meth c H locs 0 0 (sr_Qi D (tM t) below args s A (wM h t u') r) (F0 m 0 ls []) := by
  have hx := X.1
  have hb := X.2.1
  have hK := X.2.2.2.2.2.2.1
  unfold f_M_message at hf
  refine lv_iconst (v := 0) hx hb d_M_message_0 (by decide) ?_
  refine lv_istore (lv' := [(4, .int 0), (0, .ref (h 0)), (1, .int x1), (2, .int x2), (3, .int x3)]) hx hb d_M_message_1 hl (by decide) rfl (fun ls hl => ?_)
  exact k_M_message_3_it X _ Z (lv_sub hl [1, 2, 3, 4, 0] rfl) hf
end
set_option maxHeartbeats 4000000 in
set_option maxRecDepth 100000 in
theorem c_M_message {l : Launch} {D : va_G} {h : Nat → Nat} {t : Nat → ClassId} {sz : Nat} {x1 : Int32} {x2 : Int32} {x3 : Int32} {u0 : St} {r : Int32} {u' : St} (hf : f_M_message x1 x2 x3 u0 = some (r, u')) : sr_Ci l y_M_message w_M_message (sr_rm 4 95) D (tM t) (wM h t u0) (wM h t u') sz [.ref (h 0), .int x1, .int x2, .int x3] r := by
  refine Met.ofW (cc := b_M_message) (maxL := 6) (ret := (some .int)) (by decide) rfl ?_
  intro p e s m args below meth c s₁ B hml hv
  obtain ⟨rfl, hsz, hP, hK, hD0⟩ := hv
  subst hsz
  have X : sr_X D (tM t) b_M_message 6 R_M w_M_message p s m _ meth c (va_A (wM h t u0) s.heap.size) (some .int) := ⟨B.exec, B.bytes, hml, findClass_of_methodNamed B.named, B.notSynchronized, atoms_spec (ws := w_M_message) B.pre, hK, fun q h => Or.inr h, B.returns⟩
  have Z : sr_Z D (va_A (wM h t u0) s.heap.size) s.heap (wM h t u0) s.heap [] := ⟨hP, hD0.self, va_S.rf⟩
  have hl := lv_entry ([.ref (h 0), .int x1, .int x2, .int x3] : List Value) (n := 6) (Nat.le_of_ble_eq_true rfl)
  rw [lg_entry_eq]
  exact k_M_message_0 X Z hl hf
/-! M_run -/
theorem d_M_run_0 : decode b_M_run 0 = .ok (.iload_n 1, 1) := by decide +kernel
theorem d_M_run_1 : decode b_M_run 1 = .ok (.iconst 0, 1) := by decide +kernel
theorem d_M_run_2 : decode b_M_run 2 = .ok (.aload_n 0, 1) := by decide +kernel
theorem d_M_run_3 : decode b_M_run 3 = .ok (.getfield 255, 3) := by decide +kernel
theorem d_M_run_6 : decode b_M_run 6 = .ok (.iconst 1, 1) := by decide +kernel
theorem d_M_run_7 : decode b_M_run 7 = .ok (.isub, 1) := by decide +kernel
theorem d_M_run_8 : decode b_M_run 8 = .ok (.invokestatic 92, 3) := by decide +kernel
theorem d_M_run_11 : decode b_M_run 11 = .ok (.ifCond .eq 13, 3) := by decide +kernel
theorem d_M_run_14 : decode b_M_run 14 = .ok (.iload_n 2, 1) := by decide +kernel
theorem d_M_run_15 : decode b_M_run 15 = .ok (.iconst 1, 1) := by decide +kernel
theorem d_M_run_16 : decode b_M_run 16 = .ok (.bipush 50, 2) := by decide +kernel
theorem d_M_run_18 : decode b_M_run 18 = .ok (.invokestatic 92, 3) := by decide +kernel
theorem d_M_run_21 : decode b_M_run 21 = .ok (.ifCond .ne 5, 3) := by decide +kernel
theorem d_M_run_24 : decode b_M_run 24 = .ok (.iconst 0, 1) := by decide +kernel
theorem d_M_run_25 : decode b_M_run 25 = .ok (.ireturn, 1) := by decide +kernel
theorem d_M_run_26 : decode b_M_run 26 = .ok (.aload_n 0, 1) := by decide +kernel
theorem d_M_run_27 : decode b_M_run 27 = .ok (.iload_n 1, 1) := by decide +kernel
theorem d_M_run_28 : decode b_M_run 28 = .ok (.putfield 168, 3) := by decide +kernel
theorem d_M_run_31 : decode b_M_run 31 = .ok (.iconst 0, 1) := by decide +kernel
theorem d_M_run_32 : decode b_M_run 32 = .ok (.istore_n 3, 1) := by decide +kernel
theorem d_M_run_33 : decode b_M_run 33 = .ok (.iload_n 3, 1) := by decide +kernel
theorem d_M_run_34 : decode b_M_run 34 = .ok (.iload_n 2, 1) := by decide +kernel
theorem d_M_run_35 : decode b_M_run 35 = .ok (.if_icmp .ge 44, 3) := by decide +kernel
theorem d_M_run_38 : decode b_M_run 38 = .ok (.aload_n 0, 1) := by decide +kernel
theorem d_M_run_39 : decode b_M_run 39 = .ok (.getfield 43, 3) := by decide +kernel
theorem d_M_run_42 : decode b_M_run 42 = .ok (.aload_n 0, 1) := by decide +kernel
theorem d_M_run_43 : decode b_M_run 43 = .ok (.getfield 168, 3) := by decide +kernel
theorem d_M_run_46 : decode b_M_run 46 = .ok (.iaload, 1) := by decide +kernel
theorem d_M_run_47 : decode b_M_run 47 = .ok (.ifCond .ne 10, 3) := by decide +kernel
theorem d_M_run_50 : decode b_M_run 50 = .ok (.aload_n 0, 1) := by decide +kernel
theorem d_M_run_51 : decode b_M_run 51 = .ok (.invokevirtual 258, 3) := by decide +kernel
theorem d_M_run_54 : decode b_M_run 54 = .ok (.goto 4, 3) := by decide +kernel
theorem d_M_run_57 : decode b_M_run 57 = .ok (.iconst (-1), 1) := by decide +kernel
theorem d_M_run_58 : decode b_M_run 58 = .ok (.istore 4, 2) := by decide +kernel
theorem d_M_run_60 : decode b_M_run 60 = .ok (.iload 4, 2) := by decide +kernel
theorem d_M_run_62 : decode b_M_run 62 = .ok (.ifCond .ge 5, 3) := by decide +kernel
theorem d_M_run_65 : decode b_M_run 65 = .ok (.iload_n 3, 1) := by decide +kernel
theorem d_M_run_66 : decode b_M_run 66 = .ok (.ireturn, 1) := by decide +kernel
theorem d_M_run_67 : decode b_M_run 67 = .ok (.aload_n 0, 1) := by decide +kernel
theorem d_M_run_68 : decode b_M_run 68 = .ok (.iload 4, 2) := by decide +kernel
theorem d_M_run_70 : decode b_M_run 70 = .ok (.invokevirtual 262, 3) := by decide +kernel
theorem d_M_run_73 : decode b_M_run 73 = .ok (.iinc 3 1, 3) := by decide +kernel
theorem d_M_run_76 : decode b_M_run 76 = .ok (.goto (-43), 3) := by decide +kernel
theorem d_M_run_79 : decode b_M_run 79 = .ok (.iload_n 2, 1) := by decide +kernel
theorem d_M_run_80 : decode b_M_run 80 = .ok (.ireturn, 1) := by decide +kernel
section
variable {p : Program} {l : Launch} {e : Env} {s : State} {m : MethodId} {args : Array Value} {below : List Frame} {meth : Method} {c : Code} {H : Heap} {locs : List Loc} {ls : Array Slot} {D : va_G} {A : Nat → Prop} {h o : Nat → Nat} {t v : Nat → ClassId}
def f_M_run_58 (k33 : Int32 → Int32 → St → Option (Int32 × St)) (x2 : Int32) (x3 : Int32) (y0 : Int32) (u0 : St) : Option (Int32 × St) :=
  if 0 ≤ y0 then
    (f_M_step y0 u0).bind fun u_14 =>
    k33 x2 (x3 + 1) u_14
  else
    some (x3, u0)
set_option maxHeartbeats 4000000 in
set_option maxRecDepth 100000 in
theorem k_M_run_58 {k33 : Int32 → Int32 → St → Option (Int32 × St)} {x2 : Int32} {x3 : Int32} {y0 : Int32} {u0 : St} {r : Int32} {u' : St} (X : sr_X D (tM t) b_M_run 5 R_M w_M_run p s m args meth c A (some .int)) (hk33 : ∀ (x2 : Int32) (x3 : Int32) (u0 : St) (H : Heap) (locs : List Loc) (ls : Array Slot), sr_Z D A s.heap (wM h t u0) H locs → lv_has ls 5 [(0, .ref (h 0)), (2, .int x2), (3, .int x3)] → k33 x2 x3 u0 = some (r, u') → W p l e (sr_rm 5 119) s m args below meth c H locs 0 0 (sr_Qi D (tM t) below args s A (wM h t u') r) (F0 m 33 ls [])) (Z : sr_Z D A s.heap (wM h t u0) H locs) (hl : lv_has ls 5 [(0, .ref (h 0)), (2, .int x2), (3, .int x3)]) (hf : f_M_run_58 k33 x2 x3 y0 u0 = some (r, u')) : W p l e (sr_rm 5 119) s m args below meth c H locs 0 0 (sr_Qi D (tM t) below args s A (wM h t u') r) (F0 m 58 ls [.int y0]) := by
  have hx := X.1
  have hb := X.2.1
  have hK := X.2.2.2.2.2.2.1
  unfold f_M_run_58 at hf
  refine lv_istore (lv' := [(4, .int y0), (0, .ref (h 0)), (2, .int x2), (3, .int x3)]) hx hb d_M_run_58 hl (by decide) rfl (fun ls hl => ?_)
  refine lv_iload hx hb d_M_run_60 (lv_at hl 0 rfl) ?_
  refine lv_if_ge (tgt := 67) hx hb d_M_run_62 rfl (fun q_13 => ?_) (fun q_13 => ?_)
  · have hf := sr_it q_13 hf
    refine lv_aload_n hx hb d_M_run_67 rfl (lv_at hl 1 rfl) ?_
    refine lv_iload hx hb d_M_run_68 (lv_at hl 0 rfl) ?_
    obtain ⟨u_14, e_15, hf⟩ := sr_b hf
    refine sr_cVv (As := [.int y0]) (rest := []) X Z sr_cut_self hK (c_M_step e_15) (cw_M_262 X.2.2.2.2.2.1 (by decide)) 0 rfl rfl rfl hl rfl (Nat.le_of_ble_eq_true rfl) d_M_run_70 (fun H locs Z => ?_)
    refine lv_iinc (k := 3) (v := x3 + 1) (lv' := [(3, .int (x3 + 1)), (4, .int y0), (0, .ref (h 0)), (2, .int x2)]) hx hb d_M_run_73 hl rfl rfl (by decide) rfl (fun ls hl => ?_)
    refine lv_goto (tgt := 33) hx hb d_M_run_76 rfl ?_
    exact hk33 x2 (x3 + 1) u_14 _ _ _ Z (lv_sub hl [2, 3, 0] rfl) hf
  · have hf := sr_if q_13 hf
    refine lv_iload_n hx hb d_M_run_65 rfl (lv_at hl 3 rfl) ?_
    cases hf
    exact sr_reti X Z d_M_run_66
def f_M_run_33 (k33 : Int32 → Int32 → St → Option (Int32 × St)) (x2 : Int32) (x3 : Int32) (u0 : St) : Option (Int32 × St) :=
  if x2 ≤ x3 then
    some (x2, u0)
  else
    (sr_ald 8 (u0 17) (u0 33 0)).bind fun v_10 =>
    if v_10 = 0 then
      (f_M_stepper u0).bind fun v_16 =>
      f_M_run_58 k33 x2 x3 v_16 u0
    else
      f_M_run_58 k33 x2 x3 (-1) u0
set_option maxHeartbeats 4000000 in
set_option maxRecDepth 100000 in
theorem k_M_run_33 {k33 : Int32 → Int32 → St → Option (Int32 × St)} {x2 : Int32} {x3 : Int32} {u0 : St} {r : Int32} {u' : St} (X : sr_X D (tM t) b_M_run 5 R_M w_M_run p s m args meth c A (some .int)) (hk33 : ∀ (x2 : Int32) (x3 : Int32) (u0 : St) (H : Heap) (locs : List Loc) (ls : Array Slot), sr_Z D A s.heap (wM h t u0) H locs → lv_has ls 5 [(0, .ref (h 0)), (2, .int x2), (3, .int x3)] → k33 x2 x3 u0 = some (r, u') → W p l e (sr_rm 5 119) s m args below meth c H locs 0 0 (sr_Qi D (tM t) below args s A (wM h t u') r) (F0 m 33 ls [])) (Z : sr_Z D A s.heap (wM h t u0) H locs) (hl : lv_has ls 5 [(0, .ref (h 0)), (2, .int x2), (3, .int x3)]) (hf : f_M_run_33 k33 x2 x3 u0 = some (r, u')) : W p l e (sr_rm 5 119) s m args below meth c H locs 0 0 (sr_Qi D (tM t) below args s A (wM h t u') r) (F0 m 33 ls []) := by
  have hx := X.1
  have hb := X.2.1
  have hK := X.2.2.2.2.2.2.1
  unfold f_M_run_33 at hf
  refine lv_iload_n hx hb d_M_run_33 rfl (lv_at hl 2 rfl) ?_
  refine lv_iload_n hx hb d_M_run_34 rfl (lv_at hl 1 rfl) ?_
  refine lv_icmp_ge (tgt := 79) hx hb d_M_run_35 rfl (fun q_9 => ?_) (fun q_9 => ?_)
  · have hf := sr_it q_9 hf
    refine lv_iload_n hx hb d_M_run_79 rfl (lv_at hl 1 rfl) ?_
    cases hf
    exact sr_reti X Z d_M_run_80
  · have hf := sr_if q_9 hf
    refine lv_aload_n hx hb d_M_run_38 rfl (lv_at hl 0 rfl) ?_
    refine g_M_43_M X Z d_M_run_39 ?_
    refine lv_aload_n hx hb d_M_run_42 rfl (lv_at hl 0 rfl) ?_
    refine g_M_168_M X Z d_M_run_43 ?_
    obtain ⟨v_10, e_11, hf⟩ := sr_b hf
    refine sr_iald hx hb hK Z 12 11 rfl rfl e_11 d_M_run_46 ?_
    refine lv_if_ne (tgt := 57) hx hb d_M_run_47 rfl (fun q_12 => ?_) (fun q_12 => ?_)
    · have hf := sr_if q_12 hf
      refine lv_iconst (v := -1) hx hb d_M_run_57 (by decide) ?_
      exact k_M_run_58 X hk33 Z (lv_sub hl [0, 1, 2] rfl) hf
    · have hf := sr_it q_12 hf
      refine lv_aload_n hx hb d_M_run_50 rfl (lv_at hl 0 rfl) ?_
      obtain ⟨v_16, e_17, hf⟩ := sr_b hf
      refine sr_cVi (As := []) (rest := []) X Z sr_cut_self hK (c_M_stepper e_17) (cw_M_258 X.2.2.2.2.2.1 (by decide)) 0 rfl rfl rfl hl rfl (Nat.le_of_ble_eq_true rfl) d_M_run_51 (fun H locs Z => ?_)
      refine lv_goto (tgt := 58) hx hb d_M_run_54 rfl ?_
      exact k_M_run_58 X hk33 Z (lv_sub hl [0, 1, 2] rfl) hf
def f_M_run_33_it : Nat → Int32 → Int32 → St → Option (Int32 × St)
  | 0 => fun _ _ _ => none
  | n + 1 => fun x2 x3 u0 => f_M_run_33 (f_M_run_33_it n) x2 x3 u0
set_option maxHeartbeats 4000000 in
set_option maxRecDepth 100000 in
theorem k_M_run_33_it {r : Int32} {u' : St} (X : sr_X D (tM t) b_M_run 5 R_M w_M_run p s m args meth c A (some .int)) (n : Nat) : ∀ {x2 : Int32} {x3 : Int32} {u0 : St} {H : Heap} {locs : List Loc} {ls : Array Slot}, sr_Z D A s.heap (wM h t u0) H locs → lv_has ls 5 [(0, .ref (h 0)), (2, .int x2), (3, .int x3)] → f_M_run_33_it n x2 x3 u0 = some (r, u') → W p l e (sr_rm 5 119) s m args below meth c H locs 0 0 (sr_Qi D (tM t) below args s A (wM h t u') r) (F0 m 33 ls []) := by
  induction n with
  | zero => intro x2 x3 u0 H locs ls Z hl hf; exact absurd hf (by simp [f_M_run_33_it])
  | succ n ih =>
    intro x2 x3 u0 H locs ls Z hl hf
    exact k_M_run_33 X (fun x2 x3 u0 H locs ls Z hl hf => ih Z hl hf) Z hl hf
def f_M_run (x1 : Int32) (x2 : Int32) (u0 : St) : Option (Int32 × St) :=
  (f_M_in x1 0 ((u0 16 0) - 1)).bind fun v_1 =>
  if v_1 = 0 then
    some (0, u0)
  else
    (f_M_in x2 1 50).bind fun v_4 =>
    if v_4 = 0 then
      some (0, u0)
    else
      (sr_pf u0 33 x1).bind fun u_7 =>
      f_M_run_33_it 60 x2 0 u_7
set_option maxHeartbeats 4000000 in
set_option maxRecDepth 100000 in
theorem k_M_run_0 {x1 : Int32} {x2 : Int32} {u0 : St} {r : Int32} {u' : St} (X : sr_X D (tM t) b_M_run 5 R_M w_M_run p s m args meth c A (some .int)) (Z : sr_Z D A s.heap (wM h t u0) H locs) (hl : lv_has ls 5 [(0, .ref (h 0)), (1, .int x1), (2, .int x2)]) (hf : f_M_run x1 x2 u0 = some (r, u')) : W p l e (sr_rm 5 119) s m args below meth c H locs 0 0 (sr_Qi D (tM t) below args s A (wM h t u') r) (F0 m 0 ls []) := by
  have hx := X.1
  have hb := X.2.1
  have hK := X.2.2.2.2.2.2.1
  unfold f_M_run at hf
  refine lv_iload_n hx hb d_M_run_0 rfl (lv_at hl 1 rfl) ?_
  refine lv_iconst (v := 0) hx hb d_M_run_1 (by decide) ?_
  refine lv_aload_n hx hb d_M_run_2 rfl (lv_at hl 0 rfl) ?_
  refine g_M_255_M X Z d_M_run_3 ?_
  refine lv_iconst (v := 1) hx hb d_M_run_6 (by decide) ?_
  refine lv_isub hx hb d_M_run_7 ?_
  obtain ⟨v_1, e_2, hf⟩ := sr_b hf
  refine sr_cSi (As := [.int x1, .int 0, .int ((u0 16 0) - 1)]) (rest := []) X Z sr_cut_0 (va_K.sub hK [] rfl) (c_M_in e_2) (cw_M_92 X.2.2.2.2.2.1 (by decide)) rfl hl rfl (Nat.le_of_ble_eq_true rfl) d_M_run_8 (fun H locs Z => ?_)
  refine lv_if_eq (tgt := 24) hx hb d_M_run_11 rfl (fun q_3 => ?_) (fun q_3 => ?_)
  · have hf := sr_it q_3 hf
    refine lv_iconst (v := 0) hx hb d_M_run_24 (by decide) ?_
    cases hf
    exact sr_reti X Z d_M_run_25
  · have hf := sr_if q_3 hf
    refine lv_iload_n hx hb d_M_run_14 rfl (lv_at hl 2 rfl) ?_
    refine lv_iconst (v := 1) hx hb d_M_run_15 (by decide) ?_
    refine lv_bipush (v := 50) hx hb d_M_run_16 (by decide) ?_
    obtain ⟨v_4, e_5, hf⟩ := sr_b hf
    refine sr_cSi (As := [.int x2, .int 1, .int 50]) (rest := []) X Z sr_cut_0 (va_K.sub hK [] rfl) (c_M_in e_5) (cw_M_92 X.2.2.2.2.2.1 (by decide)) rfl hl rfl (Nat.le_of_ble_eq_true rfl) d_M_run_18 (fun H locs Z => ?_)
    refine lv_if_ne (tgt := 26) hx hb d_M_run_21 rfl (fun q_6 => ?_) (fun q_6 => ?_)
    · have hf := sr_if q_6 hf
      refine lv_aload_n hx hb d_M_run_26 rfl (lv_at hl 0 rfl) ?_
      refine lv_iload_n hx hb d_M_run_27 rfl (lv_at hl 1 rfl) ?_
      obtain ⟨u_7, e_8, hf⟩ := sr_b hf
      refine s_M_168_M X Z e_8 d_M_run_28 (fun H locs Z => ?_)
      refine lv_iconst (v := 0) hx hb d_M_run_31 (by decide) ?_
      refine lv_istore_n (lv' := [(3, .int 0), (0, .ref (h 0)), (1, .int x1), (2, .int x2)]) hx hb d_M_run_32 rfl hl (by decide) rfl (fun ls hl => ?_)
      exact k_M_run_33_it X _ Z (lv_sub hl [1, 3, 0] rfl) hf
    · have hf := sr_it q_6 hf
      refine lv_iconst (v := 0) hx hb d_M_run_24 (by decide) ?_
      cases hf
      exact sr_reti X Z d_M_run_25
end
set_option maxHeartbeats 4000000 in
set_option maxRecDepth 100000 in
theorem c_M_run {l : Launch} {D : va_G} {h : Nat → Nat} {t : Nat → ClassId} {sz : Nat} {x1 : Int32} {x2 : Int32} {u0 : St} {r : Int32} {u' : St} (hf : f_M_run x1 x2 u0 = some (r, u')) : sr_Ci l y_M_run w_M_run (sr_rm 5 119) D (tM t) (wM h t u0) (wM h t u') sz [.ref (h 0), .int x1, .int x2] r := by
  refine Met.ofW (cc := b_M_run) (maxL := 5) (ret := (some .int)) (by decide) rfl ?_
  intro p e s m args below meth c s₁ B hml hv
  obtain ⟨rfl, hsz, hP, hK, hD0⟩ := hv
  subst hsz
  have X : sr_X D (tM t) b_M_run 5 R_M w_M_run p s m _ meth c (va_A (wM h t u0) s.heap.size) (some .int) := ⟨B.exec, B.bytes, hml, findClass_of_methodNamed B.named, B.notSynchronized, atoms_spec (ws := w_M_run) B.pre, hK, fun q h => Or.inr h, B.returns⟩
  have Z : sr_Z D (va_A (wM h t u0) s.heap.size) s.heap (wM h t u0) s.heap [] := ⟨hP, hD0.self, va_S.rf⟩
  have hl := lv_entry ([.ref (h 0), .int x1, .int x2] : List Value) (n := 5) (Nat.le_of_ble_eq_true rfl)
  rw [lg_entry_eq]
  exact k_M_run_0 X Z hl hf
/-! M_answer -/
theorem d_M_answer_0 : decode b_M_answer 0 = .ok (.iload_n 1, 1) := by decide +kernel
theorem d_M_answer_1 : decode b_M_answer 1 = .ok (.iconst 0, 1) := by decide +kernel
theorem d_M_answer_2 : decode b_M_answer 2 = .ok (.aload_n 0, 1) := by decide +kernel
theorem d_M_answer_3 : decode b_M_answer 3 = .ok (.getfield 255, 3) := by decide +kernel
theorem d_M_answer_6 : decode b_M_answer 6 = .ok (.iconst 1, 1) := by decide +kernel
theorem d_M_answer_7 : decode b_M_answer 7 = .ok (.isub, 1) := by decide +kernel
theorem d_M_answer_8 : decode b_M_answer 8 = .ok (.invokestatic 92, 3) := by decide +kernel
theorem d_M_answer_11 : decode b_M_answer 11 = .ok (.ifCond .eq 27, 3) := by decide +kernel
theorem d_M_answer_14 : decode b_M_answer 14 = .ok (.iload_n 2, 1) := by decide +kernel
theorem d_M_answer_15 : decode b_M_answer 15 = .ok (.iconst 0, 1) := by decide +kernel
theorem d_M_answer_16 : decode b_M_answer 16 = .ok (.aload_n 0, 1) := by decide +kernel
theorem d_M_answer_17 : decode b_M_answer 17 = .ok (.getfield 100, 3) := by decide +kernel
theorem d_M_answer_20 : decode b_M_answer 20 = .ok (.iconst 1, 1) := by decide +kernel
theorem d_M_answer_21 : decode b_M_answer 21 = .ok (.isub, 1) := by decide +kernel
theorem d_M_answer_22 : decode b_M_answer 22 = .ok (.invokestatic 92, 3) := by decide +kernel
theorem d_M_answer_25 : decode b_M_answer 25 = .ok (.ifCond .eq 13, 3) := by decide +kernel
theorem d_M_answer_28 : decode b_M_answer 28 = .ok (.iload_n 3, 1) := by decide +kernel
theorem d_M_answer_29 : decode b_M_answer 29 = .ok (.iconst 0, 1) := by decide +kernel
theorem d_M_answer_30 : decode b_M_answer 30 = .ok (.bipush 99, 2) := by decide +kernel
theorem d_M_answer_32 : decode b_M_answer 32 = .ok (.invokestatic 92, 3) := by decide +kernel
theorem d_M_answer_35 : decode b_M_answer 35 = .ok (.ifCond .ne 5, 3) := by decide +kernel
theorem d_M_answer_38 : decode b_M_answer 38 = .ok (.iconst 0, 1) := by decide +kernel
theorem d_M_answer_39 : decode b_M_answer 39 = .ok (.ireturn, 1) := by decide +kernel
theorem d_M_answer_40 : decode b_M_answer 40 = .ok (.aload_n 0, 1) := by decide +kernel
theorem d_M_answer_41 : decode b_M_answer 41 = .ok (.iload_n 1, 1) := by decide +kernel
theorem d_M_answer_42 : decode b_M_answer 42 = .ok (.putfield 168, 3) := by decide +kernel
theorem d_M_answer_45 : decode b_M_answer 45 = .ok (.aload_n 0, 1) := by decide +kernel
theorem d_M_answer_46 : decode b_M_answer 46 = .ok (.getfield 16, 3) := by decide +kernel
theorem d_M_answer_49 : decode b_M_answer 49 = .ok (.iload_n 2, 1) := by decide +kernel
theorem d_M_answer_50 : decode b_M_answer 50 = .ok (.iaload, 1) := by decide +kernel
theorem d_M_answer_51 : decode b_M_answer 51 = .ok (.bipush 6, 2) := by decide +kernel
theorem d_M_answer_53 : decode b_M_answer 53 = .ok (.if_icmp .ne 12, 3) := by decide +kernel
theorem d_M_answer_56 : decode b_M_answer 56 = .ok (.aload_n 0, 1) := by decide +kernel
theorem d_M_answer_57 : decode b_M_answer 57 = .ok (.iload_n 2, 1) := by decide +kernel
theorem d_M_answer_58 : decode b_M_answer 58 = .ok (.invokevirtual 171, 3) := by decide +kernel
theorem d_M_answer_61 : decode b_M_answer 61 = .ok (.iconst 3, 1) := by decide +kernel
theorem d_M_answer_62 : decode b_M_answer 62 = .ok (.if_icmp .eq 5, 3) := by decide +kernel
theorem d_M_answer_65 : decode b_M_answer 65 = .ok (.iconst 0, 1) := by decide +kernel
theorem d_M_answer_66 : decode b_M_answer 66 = .ok (.ireturn, 1) := by decide +kernel
theorem d_M_answer_67 : decode b_M_answer 67 = .ok (.iload_n 3, 1) := by decide +kernel
theorem d_M_answer_68 : decode b_M_answer 68 = .ok (.ifCond .ne 26, 3) := by decide +kernel
theorem d_M_answer_71 : decode b_M_answer 71 = .ok (.aload_n 0, 1) := by decide +kernel
theorem d_M_answer_72 : decode b_M_answer 72 = .ok (.iload_n 2, 1) := by decide +kernel
theorem d_M_answer_73 : decode b_M_answer 73 = .ok (.aload_n 0, 1) := by decide +kernel
theorem d_M_answer_74 : decode b_M_answer 74 = .ok (.getfield 22, 3) := by decide +kernel
theorem d_M_answer_77 : decode b_M_answer 77 = .ok (.iload_n 2, 1) := by decide +kernel
theorem d_M_answer_78 : decode b_M_answer 78 = .ok (.iaload, 1) := by decide +kernel
theorem d_M_answer_79 : decode b_M_answer 79 = .ok (.iload 4, 2) := by decide +kernel
theorem d_M_answer_81 : decode b_M_answer 81 = .ok (.invokevirtual 249, 3) := by decide +kernel
theorem d_M_answer_84 : decode b_M_answer 84 = .ok (.aload_n 0, 1) := by decide +kernel
theorem d_M_answer_85 : decode b_M_answer 85 = .ok (.iconst 1, 1) := by decide +kernel
theorem d_M_answer_86 : decode b_M_answer 86 = .ok (.iload_n 2, 1) := by decide +kernel
theorem d_M_answer_87 : decode b_M_answer 87 = .ok (.iconst 0, 1) := by decide +kernel
theorem d_M_answer_88 : decode b_M_answer 88 = .ok (.invokevirtual 209, 3) := by decide +kernel
theorem d_M_answer_91 : decode b_M_answer 91 = .ok (.goto 10, 3) := by decide +kernel
theorem d_M_answer_94 : decode b_M_answer 94 = .ok (.aload_n 0, 1) := by decide +kernel
theorem d_M_answer_95 : decode b_M_answer 95 = .ok (.iconst 3, 1) := by decide +kernel
theorem d_M_answer_96 : decode b_M_answer 96 = .ok (.iload_n 2, 1) := by decide +kernel
theorem d_M_answer_97 : decode b_M_answer 97 = .ok (.iload_n 3, 1) := by decide +kernel
theorem d_M_answer_98 : decode b_M_answer 98 = .ok (.invokevirtual 209, 3) := by decide +kernel
theorem d_M_answer_101 : decode b_M_answer 101 = .ok (.aload_n 0, 1) := by decide +kernel
theorem d_M_answer_102 : decode b_M_answer 102 = .ok (.invokevirtual 243, 3) := by decide +kernel
theorem d_M_answer_105 : decode b_M_answer 105 = .ok (.iconst 1, 1) := by decide +kernel
theorem d_M_answer_106 : decode b_M_answer 106 = .ok (.ireturn, 1) := by decide +kernel
section
variable {p : Program} {l : Launch} {e : Env} {s : State} {m : MethodId} {args : Array Value} {below : List Frame} {meth : Method} {c : Code} {H : Heap} {locs : List Loc} {ls : Array Slot} {D : va_G} {A : Nat → Prop} {h o : Nat → Nat} {t v : Nat → ClassId}
def f_M_answer_101 (u0 : St) : Option (Int32 × St) :=
  (f_M_settle u0).bind fun u_21 =>
  some (1, u_21)
set_option maxHeartbeats 4000000 in
set_option maxRecDepth 100000 in
theorem k_M_answer_101 {u0 : St} {r : Int32} {u' : St} (X : sr_X D (tM t) b_M_answer 5 R_M w_M_answer p s m args meth c A (some .boolean)) (Z : sr_Z D A s.heap (wM h t u0) H locs) (hl : lv_has ls 5 [(0, .ref (h 0))]) (hf : f_M_answer_101 u0 = some (r, u')) : W p l e (sr_rm 4 95) s m args below meth c H locs 0 0 (sr_Qi D (tM t) below args s A (wM h t u') r) (F0 m 101 ls []) := by
  have hx := X.1
  have hb := X.2.1
  have hK := X.2.2.2.2.2.2.1
  unfold f_M_answer_101 at hf
  refine lv_aload_n hx hb d_M_answer_101 rfl (lv_at hl 0 rfl) ?_
  obtain ⟨u_21, e_22, hf⟩ := sr_b hf
  refine sr_cVv (As := []) (rest := []) X Z sr_cut_self hK (c_M_settle e_22) (cw_M_243 X.2.2.2.2.2.1 (by decide)) 0 rfl rfl rfl hl rfl (Nat.le_of_ble_eq_true rfl) d_M_answer_102 (fun H locs Z => ?_)
  refine lv_iconst (v := 1) hx hb d_M_answer_105 (by decide) ?_
  cases hf
  exact sr_retz X Z (by decide) d_M_answer_106
def f_M_answer (x1 : Int32) (x2 : Int32) (x3 : Int32) (x4 : Int32) (u0 : St) : Option (Int32 × St) :=
  (f_M_in x1 0 ((u0 16 0) - 1)).bind fun v_1 =>
  if v_1 = 0 then
    some (0, u0)
  else
    (f_M_in x2 0 ((u0 0 0) - 1)).bind fun v_4 =>
    if v_4 = 0 then
      some (0, u0)
    else
      (f_M_in x3 0 99).bind fun v_7 =>
      if v_7 = 0 then
        some (0, u0)
      else
        (sr_pf u0 33 x1).bind fun u_10 =>
        (sr_ald 24 (u_10 3) x2).bind fun v_12 =>
        if v_12 = 6 then
          (f_M_st u_10 x2).bind fun v_15 =>
          if v_15 = 3 then
            if x3 = 0 then
              (sr_ald 24 (u_10 5) x2).bind fun v_23 =>
              (f_M_store x2 v_23 x4 u_10).bind fun u_25 =>
              (f_M_then 1 x2 0 u_25).bind fun u_27 =>
              f_M_answer_101 u_27
            else
              (f_M_then 3 x2 x3 u_10).bind fun u_19 =>
              f_M_answer_101 u_19
          else
            some (0, u_10)
        else
          some (0, u_10)
set_option maxHeartbeats 4000000 in
set_option maxRecDepth 100000 in
theorem k_M_answer_0 {x1 : Int32} {x2 : Int32} {x3 : Int32} {x4 : Int32} {u0 : St} {r : Int32} {u' : St} (X : sr_X D (tM t) b_M_answer 5 R_M w_M_answer p s m args meth c A (some .boolean)) (Z : sr_Z D A s.heap (wM h t u0) H locs) (hl : lv_has ls 5 [(0, .ref (h 0)), (1, .int x1), (2, .int x2), (3, .int x3), (4, .int x4)]) (hf : f_M_answer x1 x2 x3 x4 u0 = some (r, u')) : W p l e (sr_rm 4 95) s m args below meth c H locs 0 0 (sr_Qi D (tM t) below args s A (wM h t u') r) (F0 m 0 ls []) := by
  have hx := X.1
  have hb := X.2.1
  have hK := X.2.2.2.2.2.2.1
  unfold f_M_answer at hf
  refine lv_iload_n hx hb d_M_answer_0 rfl (lv_at hl 1 rfl) ?_
  refine lv_iconst (v := 0) hx hb d_M_answer_1 (by decide) ?_
  refine lv_aload_n hx hb d_M_answer_2 rfl (lv_at hl 0 rfl) ?_
  refine g_M_255_M X Z d_M_answer_3 ?_
  refine lv_iconst (v := 1) hx hb d_M_answer_6 (by decide) ?_
  refine lv_isub hx hb d_M_answer_7 ?_
  obtain ⟨v_1, e_2, hf⟩ := sr_b hf
  refine sr_cSi (As := [.int x1, .int 0, .int ((u0 16 0) - 1)]) (rest := []) X Z sr_cut_0 (va_K.sub hK [] rfl) (c_M_in e_2) (cw_M_92 X.2.2.2.2.2.1 (by decide)) rfl hl rfl (Nat.le_of_ble_eq_true rfl) d_M_answer_8 (fun H locs Z => ?_)
  refine lv_if_eq (tgt := 38) hx hb d_M_answer_11 rfl (fun q_3 => ?_) (fun q_3 => ?_)
  · have hf := sr_it q_3 hf
    refine lv_iconst (v := 0) hx hb d_M_answer_38 (by decide) ?_
    cases hf
    exact sr_retz X Z (by decide) d_M_answer_39
  · have hf := sr_if q_3 hf
    refine lv_iload_n hx hb d_M_answer_14 rfl (lv_at hl 2 rfl) ?_
    refine lv_iconst (v := 0) hx hb d_M_answer_15 (by decide) ?_
    refine lv_aload_n hx hb d_M_answer_16 rfl (lv_at hl 0 rfl) ?_
    refine g_M_100_M X Z d_M_answer_17 ?_
    refine lv_iconst (v := 1) hx hb d_M_answer_20 (by decide) ?_
    refine lv_isub hx hb d_M_answer_21 ?_
    obtain ⟨v_4, e_5, hf⟩ := sr_b hf
    refine sr_cSi (As := [.int x2, .int 0, .int ((u0 0 0) - 1)]) (rest := []) X Z sr_cut_0 (va_K.sub hK [] rfl) (c_M_in e_5) (cw_M_92 X.2.2.2.2.2.1 (by decide)) rfl hl rfl (Nat.le_of_ble_eq_true rfl) d_M_answer_22 (fun H locs Z => ?_)
    refine lv_if_eq (tgt := 38) hx hb d_M_answer_25 rfl (fun q_6 => ?_) (fun q_6 => ?_)
    · have hf := sr_it q_6 hf
      refine lv_iconst (v := 0) hx hb d_M_answer_38 (by decide) ?_
      cases hf
      exact sr_retz X Z (by decide) d_M_answer_39
    · have hf := sr_if q_6 hf
      refine lv_iload_n hx hb d_M_answer_28 rfl (lv_at hl 3 rfl) ?_
      refine lv_iconst (v := 0) hx hb d_M_answer_29 (by decide) ?_
      refine lv_bipush (v := 99) hx hb d_M_answer_30 (by decide) ?_
      obtain ⟨v_7, e_8, hf⟩ := sr_b hf
      refine sr_cSi (As := [.int x3, .int 0, .int 99]) (rest := []) X Z sr_cut_0 (va_K.sub hK [] rfl) (c_M_in e_8) (cw_M_92 X.2.2.2.2.2.1 (by decide)) rfl hl rfl (Nat.le_of_ble_eq_true rfl) d_M_answer_32 (fun H locs Z => ?_)
      refine lv_if_ne (tgt := 40) hx hb d_M_answer_35 rfl (fun q_9 => ?_) (fun q_9 => ?_)
      · have hf := sr_if q_9 hf
        refine lv_aload_n hx hb d_M_answer_40 rfl (lv_at hl 0 rfl) ?_
        refine lv_iload_n hx hb d_M_answer_41 rfl (lv_at hl 1 rfl) ?_
        obtain ⟨u_10, e_11, hf⟩ := sr_b hf
        refine s_M_168_M X Z e_11 d_M_answer_42 (fun H locs Z => ?_)
        refine lv_aload_n hx hb d_M_answer_45 rfl (lv_at hl 0 rfl) ?_
        refine g_M_16_M X Z d_M_answer_46 ?_
        refine lv_iload_n hx hb d_M_answer_49 rfl (lv_at hl 2 rfl) ?_
        obtain ⟨v_12, e_13, hf⟩ := sr_b hf
        refine sr_iald hx hb hK Z 3 2 rfl rfl e_13 d_M_answer_50 ?_
        refine lv_bipush (v := 6) hx hb d_M_answer_51 (by decide) ?_
        refine lv_icmp_ne (tgt := 65) hx hb d_M_answer_53 rfl (fun q_14 => ?_) (fun q_14 => ?_)
        · have hf := sr_if q_14 hf
          refine lv_iconst (v := 0) hx hb d_M_answer_65 (by decide) ?_
          cases hf
          exact sr_retz X Z (by decide) d_M_answer_66
        · have hf := sr_it q_14 hf
          refine lv_aload_n hx hb d_M_answer_56 rfl (lv_at hl 0 rfl) ?_
          refine lv_iload_n hx hb d_M_answer_57 rfl (lv_at hl 2 rfl) ?_
          obtain ⟨v_15, e_16, hf⟩ := sr_b hf
          refine sr_cVi (As := [.int x2]) (rest := []) X Z sr_cut_self hK (c_M_st e_16) (cw_M_171 X.2.2.2.2.2.1 (by decide)) 0 rfl rfl rfl hl rfl (Nat.le_of_ble_eq_true rfl) d_M_answer_58 (fun H locs Z => ?_)
          refine lv_iconst (v := 3) hx hb d_M_answer_61 (by decide) ?_
          refine lv_icmp_eq (tgt := 67) hx hb d_M_answer_62 rfl (fun q_17 => ?_) (fun q_17 => ?_)
          · have hf := sr_it q_17 hf
            refine lv_iload_n hx hb d_M_answer_67 rfl (lv_at hl 3 rfl) ?_
            refine lv_if_ne (tgt := 94) hx hb d_M_answer_68 rfl (fun q_18 => ?_) (fun q_18 => ?_)
            · have hf := sr_if q_18 hf
              refine lv_aload_n hx hb d_M_answer_94 rfl (lv_at hl 0 rfl) ?_
              refine lv_iconst (v := 3) hx hb d_M_answer_95 (by decide) ?_
              refine lv_iload_n hx hb d_M_answer_96 rfl (lv_at hl 2 rfl) ?_
              refine lv_iload_n hx hb d_M_answer_97 rfl (lv_at hl 3 rfl) ?_
              obtain ⟨u_19, e_20, hf⟩ := sr_b hf
              refine sr_cVv (As := [.int 3, .int x2, .int x3]) (rest := []) X Z sr_cut_self hK (c_M_then e_20) (cw_M_209 X.2.2.2.2.2.1 (by decide)) 0 rfl rfl rfl hl rfl (Nat.le_of_ble_eq_true rfl) d_M_answer_98 (fun H locs Z => ?_)
              exact k_M_answer_101 X Z (lv_sub hl [0] rfl) hf
            · have hf := sr_it q_18 hf
              refine lv_aload_n hx hb d_M_answer_71 rfl (lv_at hl 0 rfl) ?_
              refine lv_iload_n hx hb d_M_answer_72 rfl (lv_at hl 2 rfl) ?_
              refine lv_aload_n hx hb d_M_answer_73 rfl (lv_at hl 0 rfl) ?_
              refine g_M_22_M X Z d_M_answer_74 ?_
              refine lv_iload_n hx hb d_M_answer_77 rfl (lv_at hl 2 rfl) ?_
              obtain ⟨v_23, e_24, hf⟩ := sr_b hf
              refine sr_iald hx hb hK Z 5 4 rfl rfl e_24 d_M_answer_78 ?_
              refine lv_iload hx hb d_M_answer_79 (lv_at hl 4 rfl) ?_
              obtain ⟨u_25, e_26, hf⟩ := sr_b hf
              refine sr_cVv (As := [.int x2, .int v_23, .int x4]) (rest := []) X Z sr_cut_self hK (c_M_store e_26) (cw_M_249 X.2.2.2.2.2.1 (by decide)) 0 rfl rfl rfl hl rfl (Nat.le_of_ble_eq_true rfl) d_M_answer_81 (fun H locs Z => ?_)
              refine lv_aload_n hx hb d_M_answer_84 rfl (lv_at hl 0 rfl) ?_
              refine lv_iconst (v := 1) hx hb d_M_answer_85 (by decide) ?_
              refine lv_iload_n hx hb d_M_answer_86 rfl (lv_at hl 2 rfl) ?_
              refine lv_iconst (v := 0) hx hb d_M_answer_87 (by decide) ?_
              obtain ⟨u_27, e_28, hf⟩ := sr_b hf
              refine sr_cVv (As := [.int 1, .int x2, .int 0]) (rest := []) X Z sr_cut_self hK (c_M_then e_28) (cw_M_209 X.2.2.2.2.2.1 (by decide)) 0 rfl rfl rfl hl rfl (Nat.le_of_ble_eq_true rfl) d_M_answer_88 (fun H locs Z => ?_)
              refine lv_goto (tgt := 101) hx hb d_M_answer_91 rfl ?_
              exact k_M_answer_101 X Z (lv_sub hl [0] rfl) hf
          · have hf := sr_if q_17 hf
            refine lv_iconst (v := 0) hx hb d_M_answer_65 (by decide) ?_
            cases hf
            exact sr_retz X Z (by decide) d_M_answer_66
      · have hf := sr_it q_9 hf
        refine lv_iconst (v := 0) hx hb d_M_answer_38 (by decide) ?_
        cases hf
        exact sr_retz X Z (by decide) d_M_answer_39
end
set_option maxHeartbeats 4000000 in
set_option maxRecDepth 100000 in
theorem c_M_answer {l : Launch} {D : va_G} {h : Nat → Nat} {t : Nat → ClassId} {sz : Nat} {x1 : Int32} {x2 : Int32} {x3 : Int32} {x4 : Int32} {u0 : St} {r : Int32} {u' : St} (hf : f_M_answer x1 x2 x3 x4 u0 = some (r, u')) : sr_Ci l y_M_answer w_M_answer (sr_rm 4 95) D (tM t) (wM h t u0) (wM h t u') sz [.ref (h 0), .int x1, .int x2, .int x3, .int x4] r := by
  refine Met.ofW (cc := b_M_answer) (maxL := 5) (ret := (some .boolean)) (by decide) rfl ?_
  intro p e s m args below meth c s₁ B hml hv
  obtain ⟨rfl, hsz, hP, hK, hD0⟩ := hv
  subst hsz
  have X : sr_X D (tM t) b_M_answer 5 R_M w_M_answer p s m _ meth c (va_A (wM h t u0) s.heap.size) (some .boolean) := ⟨B.exec, B.bytes, hml, findClass_of_methodNamed B.named, B.notSynchronized, atoms_spec (ws := w_M_answer) B.pre, hK, fun q h => Or.inr h, B.returns⟩
  have Z : sr_Z D (va_A (wM h t u0) s.heap.size) s.heap (wM h t u0) s.heap [] := ⟨hP, hD0.self, va_S.rf⟩
  have hl := lv_entry ([.ref (h 0), .int x1, .int x2, .int x3, .int x4] : List Value) (n := 5) (Nat.le_of_ble_eq_true rfl)
  rw [lg_entry_eq]
  exact k_M_answer_0 X Z hl hf
/-! M_terminate -/
theorem d_M_terminate_0 : decode b_M_terminate 0 = .ok (.iload_n 1, 1) := by decide +kernel
theorem d_M_terminate_1 : decode b_M_terminate 1 = .ok (.iconst 0, 1) := by decide +kernel
theorem d_M_terminate_2 : decode b_M_terminate 2 = .ok (.aload_n 0, 1) := by decide +kernel
theorem d_M_terminate_3 : decode b_M_terminate 3 = .ok (.getfield 255, 3) := by decide +kernel
theorem d_M_terminate_6 : decode b_M_terminate 6 = .ok (.iconst 1, 1) := by decide +kernel
theorem d_M_terminate_7 : decode b_M_terminate 7 = .ok (.isub, 1) := by decide +kernel
theorem d_M_terminate_8 : decode b_M_terminate 8 = .ok (.invokestatic 92, 3) := by decide +kernel
theorem d_M_terminate_11 : decode b_M_terminate 11 = .ok (.ifCond .eq 12, 3) := by decide +kernel
theorem d_M_terminate_14 : decode b_M_terminate 14 = .ok (.aload_n 0, 1) := by decide +kernel
theorem d_M_terminate_15 : decode b_M_terminate 15 = .ok (.getfield 43, 3) := by decide +kernel
theorem d_M_terminate_18 : decode b_M_terminate 18 = .ok (.iload_n 1, 1) := by decide +kernel
theorem d_M_terminate_19 : decode b_M_terminate 19 = .ok (.iaload, 1) := by decide +kernel
theorem d_M_terminate_20 : decode b_M_terminate 20 = .ok (.ifCond .eq 5, 3) := by decide +kernel
theorem d_M_terminate_23 : decode b_M_terminate 23 = .ok (.iconst 0, 1) := by decide +kernel
theorem d_M_terminate_24 : decode b_M_terminate 24 = .ok (.ireturn, 1) := by decide +kernel
theorem d_M_terminate_25 : decode b_M_terminate 25 = .ok (.aload_n 0, 1) := by decide +kernel
theorem d_M_terminate_26 : decode b_M_terminate 26 = .ok (.iload_n 1, 1) := by decide +kernel
theorem d_M_terminate_27 : decode b_M_terminate 27 = .ok (.putfield 168, 3) := by decide +kernel
theorem d_M_terminate_30 : decode b_M_terminate 30 = .ok (.iconst 0, 1) := by decide +kernel
theorem d_M_terminate_31 : decode b_M_terminate 31 = .ok (.istore_n 2, 1) := by decide +kernel
theorem d_M_terminate_32 : decode b_M_terminate 32 = .ok (.iload_n 2, 1) := by decide +kernel
theorem d_M_terminate_33 : decode b_M_terminate 33 = .ok (.aload_n 0, 1) := by decide +kernel
theorem d_M_terminate_34 : decode b_M_terminate 34 = .ok (.getfield 100, 3) := by decide +kernel
theorem d_M_terminate_37 : decode b_M_terminate 37 = .ok (.if_icmp .ge 30, 3) := by decide +kernel
theorem d_M_terminate_40 : decode b_M_terminate 40 = .ok (.aload_n 0, 1) := by decide +kernel
theorem d_M_terminate_41 : decode b_M_terminate 41 = .ok (.iload_n 2, 1) := by decide +kernel
theorem d_M_terminate_42 : decode b_M_terminate 42 = .ok (.invokevirtual 219, 3) := by decide +kernel
theorem d_M_terminate_45 : decode b_M_terminate 45 = .ok (.ifCond .eq 16, 3) := by decide +kernel
theorem d_M_terminate_48 : decode b_M_terminate 48 = .ok (.aload_n 0, 1) := by decide +kernel
theorem d_M_terminate_49 : decode b_M_terminate 49 = .ok (.iload_n 2, 1) := by decide +kernel
theorem d_M_terminate_50 : decode b_M_terminate 50 = .ok (.bipush 11, 2) := by decide +kernel
theorem d_M_terminate_52 : decode b_M_terminate 52 = .ok (.invokevirtual 183, 3) := by decide +kernel
theorem d_M_terminate_55 : decode b_M_terminate 55 = .ok (.aload_n 0, 1) := by decide +kernel
theorem d_M_terminate_56 : decode b_M_terminate 56 = .ok (.iconst 5, 1) := by decide +kernel
theorem d_M_terminate_57 : decode b_M_terminate 57 = .ok (.iload_n 2, 1) := by decide +kernel
theorem d_M_terminate_58 : decode b_M_terminate 58 = .ok (.invokevirtual 186, 3) := by decide +kernel
theorem d_M_terminate_61 : decode b_M_terminate 61 = .ok (.iinc 2 1, 3) := by decide +kernel
theorem d_M_terminate_64 : decode b_M_terminate 64 = .ok (.goto (-32), 3) := by decide +kernel
theorem d_M_terminate_67 : decode b_M_terminate 67 = .ok (.aload_n 0, 1) := by decide +kernel
theorem d_M_terminate_68 : decode b_M_terminate 68 = .ok (.getfield 43, 3) := by decide +kernel
theorem d_M_terminate_71 : decode b_M_terminate 71 = .ok (.aload_n 0, 1) := by decide +kernel
theorem d_M_terminate_72 : decode b_M_terminate 72 = .ok (.getfield 168, 3) := by decide +kernel
theorem d_M_terminate_75 : decode b_M_terminate 75 = .ok (.iconst 2, 1) := by decide +kernel
theorem d_M_terminate_76 : decode b_M_terminate 76 = .ok (.iastore, 1) := by decide +kernel
theorem d_M_terminate_77 : decode b_M_terminate 77 = .ok (.iconst 1, 1) := by decide +kernel
theorem d_M_terminate_78 : decode b_M_terminate 78 = .ok (.ireturn, 1) := by decide +kernel
section
variable {p : Program} {l : Launch} {e : Env} {s : State} {m : MethodId} {args : Array Value} {below : List Frame} {meth : Method} {c : Code} {H : Heap} {locs : List Loc} {ls : Array Slot} {D : va_G} {A : Nat → Prop} {h o : Nat → Nat} {t v : Nat → ClassId}
def f_M_terminate_61 (k32 : Int32 → St → Option (Int32 × St)) (x2 : Int32) (u0 : St) : Option (Int32 × St) :=
  k32 (x2 + 1) u0
set_option maxHeartbeats 4000000 in
set_option maxRecDepth 100000 in
theorem k_M_terminate_61 {k32 : Int32 → St → Option (Int32 × St)} {x2 : Int32} {u0 : St} {r : Int32} {u' : St} (X : sr_X D (tM t) b_M_terminate 3 R_M w_M_terminate p s m args meth c A (some .boolean)) (hk32 : ∀ (x2 : Int32) (u0 : St) (H : Heap) (locs : List Loc) (ls : Array Slot), sr_Z D A s.heap (wM h t u0) H locs → lv_has ls 3 [(0, .ref (h 0)), (2, .int x2)] → k32 x2 u0 = some (r, u') → W p l e (sr_rm 2 42) s m args below meth c H locs 0 0 (sr_Qi D (tM t) below args s A (wM h t u') r) (F0 m 32 ls [])) (Z : sr_Z D A s.heap (wM h t u0) H locs) (hl : lv_has ls 3 [(0, .ref (h 0)), (2, .int x2)]) (hf : f_M_terminate_61 k32 x2 u0 = some (r, u')) : W p l e (sr_rm 2 42) s m args below meth c H locs 0 0 (sr_Qi D (tM t) below args s A (wM h t u') r) (F0 m 61 ls []) := by
  have hx := X.1
  have hb := X.2.1
  have hK := X.2.2.2.2.2.2.1
  unfold f_M_terminate_61 at hf
  refine lv_iinc (k := 1) (v := x2 + 1) (lv' := [(2, .int (x2 + 1)), (0, .ref (h 0))]) hx hb d_M_terminate_61 hl rfl rfl (by decide) rfl (fun ls hl => ?_)
  refine lv_goto (tgt := 32) hx hb d_M_terminate_64 rfl ?_
  exact hk32 (x2 + 1) u0 _ _ _ Z (lv_sub hl [1, 0] rfl) hf
def f_M_terminate_32 (k32 : Int32 → St → Option (Int32 × St)) (x2 : Int32) (u0 : St) : Option (Int32 × St) :=
  if (u0 0 0) ≤ x2 then
    (sr_ast 8 u0 17 (u0 33 0) 2).bind fun u_10 =>
    some (1, u_10)
  else
    (f_M_active u0 x2).bind fun v_12 =>
    if v_12 = 0 then
      f_M_terminate_61 k32 x2 u0
    else
      (f_M_put x2 11 u0).bind fun u_15 =>
      (f_M_write 5 x2 u_15).bind fun u_17 =>
      f_M_terminate_61 k32 x2 u_17
set_option maxHeartbeats 4000000 in
set_option maxRecDepth 100000 in
theorem k_M_terminate_32 {k32 : Int32 → St → Option (Int32 × St)} {x2 : Int32} {u0 : St} {r : Int32} {u' : St} (X : sr_X D (tM t) b_M_terminate 3 R_M w_M_terminate p s m args meth c A (some .boolean)) (hk32 : ∀ (x2 : Int32) (u0 : St) (H : Heap) (locs : List Loc) (ls : Array Slot), sr_Z D A s.heap (wM h t u0) H locs → lv_has ls 3 [(0, .ref (h 0)), (2, .int x2)] → k32 x2 u0 = some (r, u') → W p l e (sr_rm 2 42) s m args below meth c H locs 0 0 (sr_Qi D (tM t) below args s A (wM h t u') r) (F0 m 32 ls [])) (Z : sr_Z D A s.heap (wM h t u0) H locs) (hl : lv_has ls 3 [(0, .ref (h 0)), (2, .int x2)]) (hf : f_M_terminate_32 k32 x2 u0 = some (r, u')) : W p l e (sr_rm 2 42) s m args below meth c H locs 0 0 (sr_Qi D (tM t) below args s A (wM h t u') r) (F0 m 32 ls []) := by
  have hx := X.1
  have hb := X.2.1
  have hK := X.2.2.2.2.2.2.1
  unfold f_M_terminate_32 at hf
  refine lv_iload_n hx hb d_M_terminate_32 rfl (lv_at hl 1 rfl) ?_
  refine lv_aload_n hx hb d_M_terminate_33 rfl (lv_at hl 0 rfl) ?_
  refine g_M_100_M X Z d_M_terminate_34 ?_
  refine lv_icmp_ge (tgt := 67) hx hb d_M_terminate_37 rfl (fun q_9 => ?_) (fun q_9 => ?_)
  · have hf := sr_it q_9 hf
    refine lv_aload_n hx hb d_M_terminate_67 rfl (lv_at hl 0 rfl) ?_
    refine g_M_43_M X Z d_M_terminate_68 ?_
    refine lv_aload_n hx hb d_M_terminate_71 rfl (lv_at hl 0 rfl) ?_
    refine g_M_168_M X Z d_M_terminate_72 ?_
    refine lv_iconst (v := 2) hx hb d_M_terminate_75 (by decide) ?_
    obtain ⟨u_10, e_11, hf⟩ := sr_b hf
    refine sr_iast (wf := (fun q => (wM h t q))) hx hb hK Z 12 11 rfl rfl e_11 (fun _ => rfl) d_M_terminate_76 (fun H locs Z => ?_)
    refine lv_iconst (v := 1) hx hb d_M_terminate_77 (by decide) ?_
    cases hf
    exact sr_retz X Z (by decide) d_M_terminate_78
  · have hf := sr_if q_9 hf
    refine lv_aload_n hx hb d_M_terminate_40 rfl (lv_at hl 0 rfl) ?_
    refine lv_iload_n hx hb d_M_terminate_41 rfl (lv_at hl 1 rfl) ?_
    obtain ⟨v_12, e_13, hf⟩ := sr_b hf
    refine sr_cVi (As := [.int x2]) (rest := []) X Z sr_cut_self hK (c_M_active e_13) (cw_M_219 X.2.2.2.2.2.1 (by decide)) 0 rfl rfl rfl hl rfl (Nat.le_of_ble_eq_true rfl) d_M_terminate_42 (fun H locs Z => ?_)
    refine lv_if_eq (tgt := 61) hx hb d_M_terminate_45 rfl (fun q_14 => ?_) (fun q_14 => ?_)
    · have hf := sr_it q_14 hf
      exact k_M_terminate_61 X hk32 Z (lv_sub hl [0, 1] rfl) hf
    · have hf := sr_if q_14 hf
      refine lv_aload_n hx hb d_M_terminate_48 rfl (lv_at hl 0 rfl) ?_
      refine lv_iload_n hx hb d_M_terminate_49 rfl (lv_at hl 1 rfl) ?_
      refine lv_bipush (v := 11) hx hb d_M_terminate_50 (by decide) ?_
      obtain ⟨u_15, e_16, hf⟩ := sr_b hf
      refine sr_cVv (As := [.int x2, .int 11]) (rest := []) X Z sr_cut_self hK (c_M_put e_16) (cw_M_183 X.2.2.2.2.2.1 (by decide)) 0 rfl rfl rfl hl rfl (Nat.le_of_ble_eq_true rfl) d_M_terminate_52 (fun H locs Z => ?_)
      refine lv_aload_n hx hb d_M_terminate_55 rfl (lv_at hl 0 rfl) ?_
      refine lv_iconst (v := 5) hx hb d_M_terminate_56 (by decide) ?_
      refine lv_iload_n hx hb d_M_terminate_57 rfl (lv_at hl 1 rfl) ?_
      obtain ⟨u_17, e_18, hf⟩ := sr_b hf
      refine sr_cVv (As := [.int 5, .int x2]) (rest := []) X Z sr_cut_self hK (c_M_write e_18) (cw_M_186 X.2.2.2.2.2.1 (by decide)) 0 rfl rfl rfl hl rfl (Nat.le_of_ble_eq_true rfl) d_M_terminate_58 (fun H locs Z => ?_)
      exact k_M_terminate_61 X hk32 Z (lv_sub hl [0, 1] rfl) hf
def f_M_terminate_32_it : Nat → Int32 → St → Option (Int32 × St)
  | 0 => fun _ _ => none
  | n + 1 => fun x2 u0 => f_M_terminate_32 (f_M_terminate_32_it n) x2 u0
set_option maxHeartbeats 4000000 in
set_option maxRecDepth 100000 in
theorem k_M_terminate_32_it {r : Int32} {u' : St} (X : sr_X D (tM t) b_M_terminate 3 R_M w_M_terminate p s m args meth c A (some .boolean)) (n : Nat) : ∀ {x2 : Int32} {u0 : St} {H : Heap} {locs : List Loc} {ls : Array Slot}, sr_Z D A s.heap (wM h t u0) H locs → lv_has ls 3 [(0, .ref (h 0)), (2, .int x2)] → f_M_terminate_32_it n x2 u0 = some (r, u') → W p l e (sr_rm 2 42) s m args below meth c H locs 0 0 (sr_Qi D (tM t) below args s A (wM h t u') r) (F0 m 32 ls []) := by
  induction n with
  | zero => intro x2 u0 H locs ls Z hl hf; exact absurd hf (by simp [f_M_terminate_32_it])
  | succ n ih =>
    intro x2 u0 H locs ls Z hl hf
    exact k_M_terminate_32 X (fun x2 u0 H locs ls Z hl hf => ih Z hl hf) Z hl hf
def f_M_terminate (x1 : Int32) (u0 : St) : Option (Int32 × St) :=
  (f_M_in x1 0 ((u0 16 0) - 1)).bind fun v_1 =>
  if v_1 = 0 then
    some (0, u0)
  else
    (sr_ald 8 (u0 17) x1).bind fun v_4 =>
    if v_4 = 0 then
      (sr_pf u0 33 x1).bind fun u_7 =>
      f_M_terminate_32_it 60 0 u_7
    else
      some (0, u0)
set_option maxHeartbeats 4000000 in
set_option maxRecDepth 100000 in
theorem k_M_terminate_0 {x1 : Int32} {u0 : St} {r : Int32} {u' : St} (X : sr_X D (tM t) b_M_terminate 3 R_M w_M_terminate p s m args meth c A (some .boolean)) (Z : sr_Z D A s.heap (wM h t u0) H locs) (hl : lv_has ls 3 [(0, .ref (h 0)), (1, .int x1)]) (hf : f_M_terminate x1 u0 = some (r, u')) : W p l e (sr_rm 2 42) s m args below meth c H locs 0 0 (sr_Qi D (tM t) below args s A (wM h t u') r) (F0 m 0 ls []) := by
  have hx := X.1
  have hb := X.2.1
  have hK := X.2.2.2.2.2.2.1
  unfold f_M_terminate at hf
  refine lv_iload_n hx hb d_M_terminate_0 rfl (lv_at hl 1 rfl) ?_
  refine lv_iconst (v := 0) hx hb d_M_terminate_1 (by decide) ?_
  refine lv_aload_n hx hb d_M_terminate_2 rfl (lv_at hl 0 rfl) ?_
  refine g_M_255_M X Z d_M_terminate_3 ?_
  refine lv_iconst (v := 1) hx hb d_M_terminate_6 (by decide) ?_
  refine lv_isub hx hb d_M_terminate_7 ?_
  obtain ⟨v_1, e_2, hf⟩ := sr_b hf
  refine sr_cSi (As := [.int x1, .int 0, .int ((u0 16 0) - 1)]) (rest := []) X Z sr_cut_0 (va_K.sub hK [] rfl) (c_M_in e_2) (cw_M_92 X.2.2.2.2.2.1 (by decide)) rfl hl rfl (Nat.le_of_ble_eq_true rfl) d_M_terminate_8 (fun H locs Z => ?_)
  refine lv_if_eq (tgt := 23) hx hb d_M_terminate_11 rfl (fun q_3 => ?_) (fun q_3 => ?_)
  · have hf := sr_it q_3 hf
    refine lv_iconst (v := 0) hx hb d_M_terminate_23 (by decide) ?_
    cases hf
    exact sr_retz X Z (by decide) d_M_terminate_24
  · have hf := sr_if q_3 hf
    refine lv_aload_n hx hb d_M_terminate_14 rfl (lv_at hl 0 rfl) ?_
    refine g_M_43_M X Z d_M_terminate_15 ?_
    refine lv_iload_n hx hb d_M_terminate_18 rfl (lv_at hl 1 rfl) ?_
    obtain ⟨v_4, e_5, hf⟩ := sr_b hf
    refine sr_iald hx hb hK Z 12 11 rfl rfl e_5 d_M_terminate_19 ?_
    refine lv_if_eq (tgt := 25) hx hb d_M_terminate_20 rfl (fun q_6 => ?_) (fun q_6 => ?_)
    · have hf := sr_it q_6 hf
      refine lv_aload_n hx hb d_M_terminate_25 rfl (lv_at hl 0 rfl) ?_
      refine lv_iload_n hx hb d_M_terminate_26 rfl (lv_at hl 1 rfl) ?_
      obtain ⟨u_7, e_8, hf⟩ := sr_b hf
      refine s_M_168_M X Z e_8 d_M_terminate_27 (fun H locs Z => ?_)
      refine lv_iconst (v := 0) hx hb d_M_terminate_30 (by decide) ?_
      refine lv_istore_n (lv' := [(2, .int 0), (0, .ref (h 0)), (1, .int x1)]) hx hb d_M_terminate_31 rfl hl (by decide) rfl (fun ls hl => ?_)
      exact k_M_terminate_32_it X _ Z (lv_sub hl [1, 0] rfl) hf
    · have hf := sr_if q_6 hf
      refine lv_iconst (v := 0) hx hb d_M_terminate_23 (by decide) ?_
      cases hf
      exact sr_retz X Z (by decide) d_M_terminate_24
end
set_option maxHeartbeats 4000000 in
set_option maxRecDepth 100000 in
theorem c_M_terminate {l : Launch} {D : va_G} {h : Nat → Nat} {t : Nat → ClassId} {sz : Nat} {x1 : Int32} {u0 : St} {r : Int32} {u' : St} (hf : f_M_terminate x1 u0 = some (r, u')) : sr_Ci l y_M_terminate w_M_terminate (sr_rm 2 42) D (tM t) (wM h t u0) (wM h t u') sz [.ref (h 0), .int x1] r := by
  refine Met.ofW (cc := b_M_terminate) (maxL := 3) (ret := (some .boolean)) (by decide) rfl ?_
  intro p e s m args below meth c s₁ B hml hv
  obtain ⟨rfl, hsz, hP, hK, hD0⟩ := hv
  subst hsz
  have X : sr_X D (tM t) b_M_terminate 3 R_M w_M_terminate p s m _ meth c (va_A (wM h t u0) s.heap.size) (some .boolean) := ⟨B.exec, B.bytes, hml, findClass_of_methodNamed B.named, B.notSynchronized, atoms_spec (ws := w_M_terminate) B.pre, hK, fun q h => Or.inr h, B.returns⟩
  have Z : sr_Z D (va_A (wM h t u0) s.heap.size) s.heap (wM h t u0) s.heap [] := ⟨hP, hD0.self, va_S.rf⟩
  have hl := lv_entry ([.ref (h 0), .int x1] : List Value) (n := 3) (Nat.le_of_ble_eq_true rfl)
  rw [lg_entry_eq]
  exact k_M_terminate_0 X Z hl hf
/-! M_state -/
theorem d_M_state_0 : decode b_M_state 0 = .ok (.iload_n 1, 1) := by decide +kernel
theorem d_M_state_1 : decode b_M_state 1 = .ok (.iconst 0, 1) := by decide +kernel
theorem d_M_state_2 : decode b_M_state 2 = .ok (.aload_n 0, 1) := by decide +kernel
theorem d_M_state_3 : decode b_M_state 3 = .ok (.getfield 255, 3) := by decide +kernel
theorem d_M_state_6 : decode b_M_state 6 = .ok (.iconst 1, 1) := by decide +kernel
theorem d_M_state_7 : decode b_M_state 7 = .ok (.isub, 1) := by decide +kernel
theorem d_M_state_8 : decode b_M_state 8 = .ok (.invokestatic 92, 3) := by decide +kernel
theorem d_M_state_11 : decode b_M_state 11 = .ok (.ifCond .eq 12, 3) := by decide +kernel
theorem d_M_state_14 : decode b_M_state 14 = .ok (.aload_n 0, 1) := by decide +kernel
theorem d_M_state_15 : decode b_M_state 15 = .ok (.getfield 43, 3) := by decide +kernel
theorem d_M_state_18 : decode b_M_state 18 = .ok (.iload_n 1, 1) := by decide +kernel
theorem d_M_state_19 : decode b_M_state 19 = .ok (.iaload, 1) := by decide +kernel
theorem d_M_state_20 : decode b_M_state 20 = .ok (.goto 4, 3) := by decide +kernel
theorem d_M_state_23 : decode b_M_state 23 = .ok (.iconst (-1), 1) := by decide +kernel
theorem d_M_state_24 : decode b_M_state 24 = .ok (.ireturn, 1) := by decide +kernel
section
variable {p : Program} {l : Launch} {e : Env} {s : State} {m : MethodId} {args : Array Value} {below : List Frame} {meth : Method} {c : Code} {H : Heap} {locs : List Loc} {ls : Array Slot} {D : va_G} {A : Nat → Prop} {h o : Nat → Nat} {t v : Nat → ClassId}
def f_M_state (u0 : St) (x1 : Int32) : Option (Int32) :=
  (f_M_in x1 0 ((u0 16 0) - 1)).bind fun v_1 =>
  if v_1 = 0 then
    some (-1)
  else
    (sr_ald 8 (u0 17) x1).bind fun v_4 =>
    some v_4
set_option maxHeartbeats 4000000 in
set_option maxRecDepth 100000 in
theorem k_M_state_0 {u0 : St} {x1 : Int32} {r : Int32} (X : sr_X D (tM t) b_M_state 2 R_M w_M_state p s m args meth c A (some .int)) (Z : sr_Z D A s.heap (wM h t u0) H locs) (hl : lv_has ls 2 [(0, .ref (h 0)), (1, .int x1)]) (hf : f_M_state u0 x1 = some r) : W p l e (sr_rm 1 22) s m args below meth c H locs 0 0 (sr_Qi D (tM t) below args s A (wM h t u0) r) (F0 m 0 ls []) := by
  have hx := X.1
  have hb := X.2.1
  have hK := X.2.2.2.2.2.2.1
  unfold f_M_state at hf
  refine lv_iload_n hx hb d_M_state_0 rfl (lv_at hl 1 rfl) ?_
  refine lv_iconst (v := 0) hx hb d_M_state_1 (by decide) ?_
  refine lv_aload_n hx hb d_M_state_2 rfl (lv_at hl 0 rfl) ?_
  refine g_M_255_M X Z d_M_state_3 ?_
  refine lv_iconst (v := 1) hx hb d_M_state_6 (by decide) ?_
  refine lv_isub hx hb d_M_state_7 ?_
  obtain ⟨v_1, e_2, hf⟩ := sr_b hf
  refine sr_cSi (As := [.int x1, .int 0, .int ((u0 16 0) - 1)]) (rest := []) X Z sr_cut_0 (va_K.sub hK [] rfl) (c_M_in e_2) (cw_M_92 X.2.2.2.2.2.1 (by decide)) rfl hl rfl (Nat.le_of_ble_eq_true rfl) d_M_state_8 (fun H locs Z => ?_)
  refine lv_if_eq (tgt := 23) hx hb d_M_state_11 rfl (fun q_3 => ?_) (fun q_3 => ?_)
  · have hf := sr_it q_3 hf
    refine lv_iconst (v := -1) hx hb d_M_state_23 (by decide) ?_
    cases hf
    exact sr_reti X Z d_M_state_24
  · have hf := sr_if q_3 hf
    refine lv_aload_n hx hb d_M_state_14 rfl (lv_at hl 0 rfl) ?_
    refine g_M_43_M X Z d_M_state_15 ?_
    refine lv_iload_n hx hb d_M_state_18 rfl (lv_at hl 1 rfl) ?_
    obtain ⟨v_4, e_5, hf⟩ := sr_b hf
    refine sr_iald hx hb hK Z 12 11 rfl rfl e_5 d_M_state_19 ?_
    refine lv_goto (tgt := 24) hx hb d_M_state_20 rfl ?_
    cases hf
    exact sr_reti X Z d_M_state_24
end
set_option maxHeartbeats 4000000 in
set_option maxRecDepth 100000 in
theorem c_M_state {l : Launch} {D : va_G} {h : Nat → Nat} {t : Nat → ClassId} {sz : Nat} {u0 : St} {x1 : Int32} {r : Int32} (hf : f_M_state u0 x1 = some r) : sr_Ci l y_M_state w_M_state (sr_rm 1 22) D (tM t) (wM h t u0) (wM h t u0) sz [.ref (h 0), .int x1] r := by
  refine Met.ofW (cc := b_M_state) (maxL := 2) (ret := (some .int)) (by decide) rfl ?_
  intro p e s m args below meth c s₁ B hml hv
  obtain ⟨rfl, hsz, hP, hK, hD0⟩ := hv
  subst hsz
  have X : sr_X D (tM t) b_M_state 2 R_M w_M_state p s m _ meth c (va_A (wM h t u0) s.heap.size) (some .int) := ⟨B.exec, B.bytes, hml, findClass_of_methodNamed B.named, B.notSynchronized, atoms_spec (ws := w_M_state) B.pre, hK, fun q h => Or.inr h, B.returns⟩
  have Z : sr_Z D (va_A (wM h t u0) s.heap.size) s.heap (wM h t u0) s.heap [] := ⟨hP, hD0.self, va_S.rf⟩
  have hl := lv_entry ([.ref (h 0), .int x1] : List Value) (n := 2) (Nat.le_of_ble_eq_true rfl)
  rw [lg_entry_eq]
  exact k_M_state_0 X Z hl hf
/-! M_status -/
theorem d_M_status_0 : decode b_M_status 0 = .ok (.iload_n 1, 1) := by decide +kernel
theorem d_M_status_1 : decode b_M_status 1 = .ok (.iconst 0, 1) := by decide +kernel
theorem d_M_status_2 : decode b_M_status 2 = .ok (.aload_n 0, 1) := by decide +kernel
theorem d_M_status_3 : decode b_M_status 3 = .ok (.getfield 255, 3) := by decide +kernel
theorem d_M_status_6 : decode b_M_status 6 = .ok (.iconst 1, 1) := by decide +kernel
theorem d_M_status_7 : decode b_M_status 7 = .ok (.isub, 1) := by decide +kernel
theorem d_M_status_8 : decode b_M_status 8 = .ok (.invokestatic 92, 3) := by decide +kernel
theorem d_M_status_11 : decode b_M_status 11 = .ok (.ifCond .eq 31, 3) := by decide +kernel
theorem d_M_status_14 : decode b_M_status 14 = .ok (.iload_n 2, 1) := by decide +kernel
theorem d_M_status_15 : decode b_M_status 15 = .ok (.iconst 0, 1) := by decide +kernel
theorem d_M_status_16 : decode b_M_status 16 = .ok (.aload_n 0, 1) := by decide +kernel
theorem d_M_status_17 : decode b_M_status 17 = .ok (.getfield 100, 3) := by decide +kernel
theorem d_M_status_20 : decode b_M_status 20 = .ok (.iconst 1, 1) := by decide +kernel
theorem d_M_status_21 : decode b_M_status 21 = .ok (.isub, 1) := by decide +kernel
theorem d_M_status_22 : decode b_M_status 22 = .ok (.invokestatic 92, 3) := by decide +kernel
theorem d_M_status_25 : decode b_M_status 25 = .ok (.ifCond .eq 17, 3) := by decide +kernel
theorem d_M_status_28 : decode b_M_status 28 = .ok (.aload_n 0, 1) := by decide +kernel
theorem d_M_status_29 : decode b_M_status 29 = .ok (.getfield 55, 3) := by decide +kernel
theorem d_M_status_32 : decode b_M_status 32 = .ok (.bipush 24, 2) := by decide +kernel
theorem d_M_status_34 : decode b_M_status 34 = .ok (.iload_n 1, 1) := by decide +kernel
theorem d_M_status_35 : decode b_M_status 35 = .ok (.imul, 1) := by decide +kernel
theorem d_M_status_36 : decode b_M_status 36 = .ok (.iload_n 2, 1) := by decide +kernel
theorem d_M_status_37 : decode b_M_status 37 = .ok (.iadd, 1) := by decide +kernel
theorem d_M_status_38 : decode b_M_status 38 = .ok (.iaload, 1) := by decide +kernel
theorem d_M_status_39 : decode b_M_status 39 = .ok (.goto 4, 3) := by decide +kernel
theorem d_M_status_42 : decode b_M_status 42 = .ok (.iconst (-1), 1) := by decide +kernel
theorem d_M_status_43 : decode b_M_status 43 = .ok (.ireturn, 1) := by decide +kernel
section
variable {p : Program} {l : Launch} {e : Env} {s : State} {m : MethodId} {args : Array Value} {below : List Frame} {meth : Method} {c : Code} {H : Heap} {locs : List Loc} {ls : Array Slot} {D : va_G} {A : Nat → Prop} {h o : Nat → Nat} {t v : Nat → ClassId}
def f_M_status (u0 : St) (x1 : Int32) (x2 : Int32) : Option (Int32) :=
  (f_M_in x1 0 ((u0 16 0) - 1)).bind fun v_1 =>
  if v_1 = 0 then
    some (-1)
  else
    (f_M_in x2 0 ((u0 0 0) - 1)).bind fun v_4 =>
    if v_4 = 0 then
      some (-1)
    else
      (sr_ald 192 (u0 21) ((24 * x1) + x2)).bind fun v_7 =>
      some v_7
set_option maxHeartbeats 4000000 in
set_option maxRecDepth 100000 in
theorem k_M_status_0 {u0 : St} {x1 : Int32} {x2 : Int32} {r : Int32} (X : sr_X D (tM t) b_M_status 3 R_M w_M_status p s m args meth c A (some .int)) (Z : sr_Z D A s.heap (wM h t u0) H locs) (hl : lv_has ls 3 [(0, .ref (h 0)), (1, .int x1), (2, .int x2)]) (hf : f_M_status u0 x1 x2 = some r) : W p l e (sr_rm 1 22) s m args below meth c H locs 0 0 (sr_Qi D (tM t) below args s A (wM h t u0) r) (F0 m 0 ls []) := by
  have hx := X.1
  have hb := X.2.1
  have hK := X.2.2.2.2.2.2.1
  unfold f_M_status at hf
  refine lv_iload_n hx hb d_M_status_0 rfl (lv_at hl 1 rfl) ?_
  refine lv_iconst (v := 0) hx hb d_M_status_1 (by decide) ?_
  refine lv_aload_n hx hb d_M_status_2 rfl (lv_at hl 0 rfl) ?_
  refine g_M_255_M X Z d_M_status_3 ?_
  refine lv_iconst (v := 1) hx hb d_M_status_6 (by decide) ?_
  refine lv_isub hx hb d_M_status_7 ?_
  obtain ⟨v_1, e_2, hf⟩ := sr_b hf
  refine sr_cSi (As := [.int x1, .int 0, .int ((u0 16 0) - 1)]) (rest := []) X Z sr_cut_0 (va_K.sub hK [] rfl) (c_M_in e_2) (cw_M_92 X.2.2.2.2.2.1 (by decide)) rfl hl rfl (Nat.le_of_ble_eq_true rfl) d_M_status_8 (fun H locs Z => ?_)
  refine lv_if_eq (tgt := 42) hx hb d_M_status_11 rfl (fun q_3 => ?_) (fun q_3 => ?_)
  · have hf := sr_it q_3 hf
    refine lv_iconst (v := -1) hx hb d_M_status_42 (by decide) ?_
    cases hf
    exact sr_reti X Z d_M_status_43
  · have hf := sr_if q_3 hf
    refine lv_iload_n hx hb d_M_status_14 rfl (lv_at hl 2 rfl) ?_
    refine lv_iconst (v := 0) hx hb d_M_status_15 (by decide) ?_
    refine lv_aload_n hx hb d_M_status_16 rfl (lv_at hl 0 rfl) ?_
    refine g_M_100_M X Z d_M_status_17 ?_
    refine lv_iconst (v := 1) hx hb d_M_status_20 (by decide) ?_
    refine lv_isub hx hb d_M_status_21 ?_
    obtain ⟨v_4, e_5, hf⟩ := sr_b hf
    refine sr_cSi (As := [.int x2, .int 0, .int ((u0 0 0) - 1)]) (rest := []) X Z sr_cut_0 (va_K.sub hK [] rfl) (c_M_in e_5) (cw_M_92 X.2.2.2.2.2.1 (by decide)) rfl hl rfl (Nat.le_of_ble_eq_true rfl) d_M_status_22 (fun H locs Z => ?_)
    refine lv_if_eq (tgt := 42) hx hb d_M_status_25 rfl (fun q_6 => ?_) (fun q_6 => ?_)
    · have hf := sr_it q_6 hf
      refine lv_iconst (v := -1) hx hb d_M_status_42 (by decide) ?_
      cases hf
      exact sr_reti X Z d_M_status_43
    · have hf := sr_if q_6 hf
      refine lv_aload_n hx hb d_M_status_28 rfl (lv_at hl 0 rfl) ?_
      refine g_M_55_M X Z d_M_status_29 ?_
      refine lv_bipush (v := 24) hx hb d_M_status_32 (by decide) ?_
      refine lv_iload_n hx hb d_M_status_34 rfl (lv_at hl 1 rfl) ?_
      refine lv_imul hx hb d_M_status_35 ?_
      refine lv_iload_n hx hb d_M_status_36 rfl (lv_at hl 2 rfl) ?_
      refine lv_iadd hx hb d_M_status_37 ?_
      obtain ⟨v_7, e_8, hf⟩ := sr_b hf
      refine sr_iald hx hb hK Z 16 15 rfl rfl e_8 d_M_status_38 ?_
      refine lv_goto (tgt := 43) hx hb d_M_status_39 rfl ?_
      cases hf
      exact sr_reti X Z d_M_status_43
end
set_option maxHeartbeats 4000000 in
set_option maxRecDepth 100000 in
theorem c_M_status {l : Launch} {D : va_G} {h : Nat → Nat} {t : Nat → ClassId} {sz : Nat} {u0 : St} {x1 : Int32} {x2 : Int32} {r : Int32} (hf : f_M_status u0 x1 x2 = some r) : sr_Ci l y_M_status w_M_status (sr_rm 1 22) D (tM t) (wM h t u0) (wM h t u0) sz [.ref (h 0), .int x1, .int x2] r := by
  refine Met.ofW (cc := b_M_status) (maxL := 3) (ret := (some .int)) (by decide) rfl ?_
  intro p e s m args below meth c s₁ B hml hv
  obtain ⟨rfl, hsz, hP, hK, hD0⟩ := hv
  subst hsz
  have X : sr_X D (tM t) b_M_status 3 R_M w_M_status p s m _ meth c (va_A (wM h t u0) s.heap.size) (some .int) := ⟨B.exec, B.bytes, hml, findClass_of_methodNamed B.named, B.notSynchronized, atoms_spec (ws := w_M_status) B.pre, hK, fun q h => Or.inr h, B.returns⟩
  have Z : sr_Z D (va_A (wM h t u0) s.heap.size) s.heap (wM h t u0) s.heap [] := ⟨hP, hD0.self, va_S.rf⟩
  have hl := lv_entry ([.ref (h 0), .int x1, .int x2] : List Value) (n := 3) (Nat.le_of_ble_eq_true rfl)
  rw [lg_entry_eq]
  exact k_M_status_0 X Z hl hf
/-! M_variable -/
theorem d_M_variable_0 : decode b_M_variable 0 = .ok (.iload_n 1, 1) := by decide +kernel
theorem d_M_variable_1 : decode b_M_variable 1 = .ok (.iconst 0, 1) := by decide +kernel
theorem d_M_variable_2 : decode b_M_variable 2 = .ok (.aload_n 0, 1) := by decide +kernel
theorem d_M_variable_3 : decode b_M_variable 3 = .ok (.getfield 255, 3) := by decide +kernel
theorem d_M_variable_6 : decode b_M_variable 6 = .ok (.iconst 1, 1) := by decide +kernel
theorem d_M_variable_7 : decode b_M_variable 7 = .ok (.isub, 1) := by decide +kernel
theorem d_M_variable_8 : decode b_M_variable 8 = .ok (.invokestatic 92, 3) := by decide +kernel
theorem d_M_variable_11 : decode b_M_variable 11 = .ok (.ifCond .eq 25, 3) := by decide +kernel
theorem d_M_variable_14 : decode b_M_variable 14 = .ok (.iload_n 2, 1) := by decide +kernel
theorem d_M_variable_15 : decode b_M_variable 15 = .ok (.iconst 0, 1) := by decide +kernel
theorem d_M_variable_16 : decode b_M_variable 16 = .ok (.iconst 3, 1) := by decide +kernel
theorem d_M_variable_17 : decode b_M_variable 17 = .ok (.invokestatic 92, 3) := by decide +kernel
theorem d_M_variable_20 : decode b_M_variable 20 = .ok (.ifCond .eq 16, 3) := by decide +kernel
theorem d_M_variable_23 : decode b_M_variable 23 = .ok (.aload_n 0, 1) := by decide +kernel
theorem d_M_variable_24 : decode b_M_variable 24 = .ok (.getfield 52, 3) := by decide +kernel
theorem d_M_variable_27 : decode b_M_variable 27 = .ok (.iconst 4, 1) := by decide +kernel
theorem d_M_variable_28 : decode b_M_variable 28 = .ok (.iload_n 1, 1) := by decide +kernel
theorem d_M_variable_29 : decode b_M_variable 29 = .ok (.imul, 1) := by decide +kernel
theorem d_M_variable_30 : decode b_M_variable 30 = .ok (.iload_n 2, 1) := by decide +kernel
theorem d_M_variable_31 : decode b_M_variable 31 = .ok (.iadd, 1) := by decide +kernel
theorem d_M_variable_32 : decode b_M_variable 32 = .ok (.iaload, 1) := by decide +kernel
theorem d_M_variable_33 : decode b_M_variable 33 = .ok (.goto 4, 3) := by decide +kernel
theorem d_M_variable_36 : decode b_M_variable 36 = .ok (.iconst 0, 1) := by decide +kernel
theorem d_M_variable_37 : decode b_M_variable 37 = .ok (.ireturn, 1) := by decide +kernel
section
variable {p : Program} {l : Launch} {e : Env} {s : State} {m : MethodId} {args : Array Value} {below : List Frame} {meth : Method} {c : Code} {H : Heap} {locs : List Loc} {ls : Array Slot} {D : va_G} {A : Nat → Prop} {h o : Nat → Nat} {t v : Nat → ClassId}
def f_M_variable (u0 : St) (x1 : Int32) (x2 : Int32) : Option (Int32) :=
  (f_M_in x1 0 ((u0 16 0) - 1)).bind fun v_1 =>
  if v_1 = 0 then
    some 0
  else
    (f_M_in x2 0 3).bind fun v_4 =>
    if v_4 = 0 then
      some 0
    else
      (sr_ald 32 (u0 20) ((4 * x1) + x2)).bind fun v_7 =>
      some v_7
set_option maxHeartbeats 4000000 in
set_option maxRecDepth 100000 in
theorem k_M_variable_0 {u0 : St} {x1 : Int32} {x2 : Int32} {r : Int32} (X : sr_X D (tM t) b_M_variable 3 R_M w_M_variable p s m args meth c A (some .int)) (Z : sr_Z D A s.heap (wM h t u0) H locs) (hl : lv_has ls 3 [(0, .ref (h 0)), (1, .int x1), (2, .int x2)]) (hf : f_M_variable u0 x1 x2 = some r) : W p l e (sr_rm 1 22) s m args below meth c H locs 0 0 (sr_Qi D (tM t) below args s A (wM h t u0) r) (F0 m 0 ls []) := by
  have hx := X.1
  have hb := X.2.1
  have hK := X.2.2.2.2.2.2.1
  unfold f_M_variable at hf
  refine lv_iload_n hx hb d_M_variable_0 rfl (lv_at hl 1 rfl) ?_
  refine lv_iconst (v := 0) hx hb d_M_variable_1 (by decide) ?_
  refine lv_aload_n hx hb d_M_variable_2 rfl (lv_at hl 0 rfl) ?_
  refine g_M_255_M X Z d_M_variable_3 ?_
  refine lv_iconst (v := 1) hx hb d_M_variable_6 (by decide) ?_
  refine lv_isub hx hb d_M_variable_7 ?_
  obtain ⟨v_1, e_2, hf⟩ := sr_b hf
  refine sr_cSi (As := [.int x1, .int 0, .int ((u0 16 0) - 1)]) (rest := []) X Z sr_cut_0 (va_K.sub hK [] rfl) (c_M_in e_2) (cw_M_92 X.2.2.2.2.2.1 (by decide)) rfl hl rfl (Nat.le_of_ble_eq_true rfl) d_M_variable_8 (fun H locs Z => ?_)
  refine lv_if_eq (tgt := 36) hx hb d_M_variable_11 rfl (fun q_3 => ?_) (fun q_3 => ?_)
  · have hf := sr_it q_3 hf
    refine lv_iconst (v := 0) hx hb d_M_variable_36 (by decide) ?_
    cases hf
    exact sr_reti X Z d_M_variable_37
  · have hf := sr_if q_3 hf
    refine lv_iload_n hx hb d_M_variable_14 rfl (lv_at hl 2 rfl) ?_
    refine lv_iconst (v := 0) hx hb d_M_variable_15 (by decide) ?_
    refine lv_iconst (v := 3) hx hb d_M_variable_16 (by decide) ?_
    obtain ⟨v_4, e_5, hf⟩ := sr_b hf
    refine sr_cSi (As := [.int x2, .int 0, .int 3]) (rest := []) X Z sr_cut_0 (va_K.sub hK [] rfl) (c_M_in e_5) (cw_M_92 X.2.2.2.2.2.1 (by decide)) rfl hl rfl (Nat.le_of_ble_eq_true rfl) d_M_variable_17 (fun H locs Z => ?_)
    refine lv_if_eq (tgt := 36) hx hb d_M_variable_20 rfl (fun q_6 => ?_) (fun q_6 => ?_)
    · have hf := sr_it q_6 hf
      refine lv_iconst (v := 0) hx hb d_M_variable_36 (by decide) ?_
      cases hf
      exact sr_reti X Z d_M_variable_37
    · have hf := sr_if q_6 hf
      refine lv_aload_n hx hb d_M_variable_23 rfl (lv_at hl 0 rfl) ?_
      refine g_M_52_M X Z d_M_variable_24 ?_
      refine lv_iconst (v := 4) hx hb d_M_variable_27 (by decide) ?_
      refine lv_iload_n hx hb d_M_variable_28 rfl (lv_at hl 1 rfl) ?_
      refine lv_imul hx hb d_M_variable_29 ?_
      refine lv_iload_n hx hb d_M_variable_30 rfl (lv_at hl 2 rfl) ?_
      refine lv_iadd hx hb d_M_variable_31 ?_
      obtain ⟨v_7, e_8, hf⟩ := sr_b hf
      refine sr_iald hx hb hK Z 15 14 rfl rfl e_8 d_M_variable_32 ?_
      refine lv_goto (tgt := 37) hx hb d_M_variable_33 rfl ?_
      cases hf
      exact sr_reti X Z d_M_variable_37
end
set_option maxHeartbeats 4000000 in
set_option maxRecDepth 100000 in
theorem c_M_variable {l : Launch} {D : va_G} {h : Nat → Nat} {t : Nat → ClassId} {sz : Nat} {u0 : St} {x1 : Int32} {x2 : Int32} {r : Int32} (hf : f_M_variable u0 x1 x2 = some r) : sr_Ci l y_M_variable w_M_variable (sr_rm 1 22) D (tM t) (wM h t u0) (wM h t u0) sz [.ref (h 0), .int x1, .int x2] r := by
  refine Met.ofW (cc := b_M_variable) (maxL := 3) (ret := (some .int)) (by decide) rfl ?_
  intro p e s m args below meth c s₁ B hml hv
  obtain ⟨rfl, hsz, hP, hK, hD0⟩ := hv
  subst hsz
  have X : sr_X D (tM t) b_M_variable 3 R_M w_M_variable p s m _ meth c (va_A (wM h t u0) s.heap.size) (some .int) := ⟨B.exec, B.bytes, hml, findClass_of_methodNamed B.named, B.notSynchronized, atoms_spec (ws := w_M_variable) B.pre, hK, fun q h => Or.inr h, B.returns⟩
  have Z : sr_Z D (va_A (wM h t u0) s.heap.size) s.heap (wM h t u0) s.heap [] := ⟨hP, hD0.self, va_S.rf⟩
  have hl := lv_entry ([.ref (h 0), .int x1, .int x2] : List Value) (n := 3) (Nat.le_of_ble_eq_true rfl)
  rw [lg_entry_eq]
  exact k_M_variable_0 X Z hl hf
/-! M_isScope -/
theorem d_M_isScope_0 : decode b_M_isScope 0 = .ok (.iload_n 1, 1) := by decide +kernel
theorem d_M_isScope_1 : decode b_M_isScope 1 = .ok (.iconst 0, 1) := by decide +kernel
theorem d_M_isScope_2 : decode b_M_isScope 2 = .ok (.aload_n 0, 1) := by decide +kernel
theorem d_M_isScope_3 : decode b_M_isScope 3 = .ok (.getfield 255, 3) := by decide +kernel
theorem d_M_isScope_6 : decode b_M_isScope 6 = .ok (.iconst 1, 1) := by decide +kernel
theorem d_M_isScope_7 : decode b_M_isScope 7 = .ok (.isub, 1) := by decide +kernel
theorem d_M_isScope_8 : decode b_M_isScope 8 = .ok (.invokestatic 92, 3) := by decide +kernel
theorem d_M_isScope_11 : decode b_M_isScope 11 = .ok (.ifCond .eq 32, 3) := by decide +kernel
theorem d_M_isScope_14 : decode b_M_isScope 14 = .ok (.iload_n 2, 1) := by decide +kernel
theorem d_M_isScope_15 : decode b_M_isScope 15 = .ok (.iconst 0, 1) := by decide +kernel
theorem d_M_isScope_16 : decode b_M_isScope 16 = .ok (.aload_n 0, 1) := by decide +kernel
theorem d_M_isScope_17 : decode b_M_isScope 17 = .ok (.getfield 100, 3) := by decide +kernel
theorem d_M_isScope_20 : decode b_M_isScope 20 = .ok (.iconst 1, 1) := by decide +kernel
theorem d_M_isScope_21 : decode b_M_isScope 21 = .ok (.isub, 1) := by decide +kernel
theorem d_M_isScope_22 : decode b_M_isScope 22 = .ok (.invokestatic 92, 3) := by decide +kernel
theorem d_M_isScope_25 : decode b_M_isScope 25 = .ok (.ifCond .eq 18, 3) := by decide +kernel
theorem d_M_isScope_28 : decode b_M_isScope 28 = .ok (.aload_n 0, 1) := by decide +kernel
theorem d_M_isScope_29 : decode b_M_isScope 29 = .ok (.getfield 16, 3) := by decide +kernel
theorem d_M_isScope_32 : decode b_M_isScope 32 = .ok (.iload_n 2, 1) := by decide +kernel
theorem d_M_isScope_33 : decode b_M_isScope 33 = .ok (.iaload, 1) := by decide +kernel
theorem d_M_isScope_34 : decode b_M_isScope 34 = .ok (.bipush 12, 2) := by decide +kernel
theorem d_M_isScope_36 : decode b_M_isScope 36 = .ok (.if_icmp .ne 7, 3) := by decide +kernel
theorem d_M_isScope_39 : decode b_M_isScope 39 = .ok (.iconst 1, 1) := by decide +kernel
theorem d_M_isScope_40 : decode b_M_isScope 40 = .ok (.goto 4, 3) := by decide +kernel
theorem d_M_isScope_43 : decode b_M_isScope 43 = .ok (.iconst 0, 1) := by decide +kernel
theorem d_M_isScope_44 : decode b_M_isScope 44 = .ok (.ireturn, 1) := by decide +kernel
section
variable {p : Program} {l : Launch} {e : Env} {s : State} {m : MethodId} {args : Array Value} {below : List Frame} {meth : Method} {c : Code} {H : Heap} {locs : List Loc} {ls : Array Slot} {D : va_G} {A : Nat → Prop} {h o : Nat → Nat} {t v : Nat → ClassId}
def f_M_isScope (u0 : St) (x1 : Int32) (x2 : Int32) : Option (Int32) :=
  (f_M_in x1 0 ((u0 16 0) - 1)).bind fun v_1 =>
  if v_1 = 0 then
    some 0
  else
    (f_M_in x2 0 ((u0 0 0) - 1)).bind fun v_4 =>
    if v_4 = 0 then
      some 0
    else
      (sr_ald 24 (u0 3) x2).bind fun v_7 =>
      if v_7 = 12 then
        some 1
      else
        some 0
set_option maxHeartbeats 4000000 in
set_option maxRecDepth 100000 in
theorem k_M_isScope_0 {u0 : St} {x1 : Int32} {x2 : Int32} {r : Int32} (X : sr_X D (tM t) b_M_isScope 3 R_M w_M_isScope p s m args meth c A (some .boolean)) (Z : sr_Z D A s.heap (wM h t u0) H locs) (hl : lv_has ls 3 [(0, .ref (h 0)), (1, .int x1), (2, .int x2)]) (hf : f_M_isScope u0 x1 x2 = some r) : W p l e (sr_rm 1 22) s m args below meth c H locs 0 0 (sr_Qi D (tM t) below args s A (wM h t u0) r) (F0 m 0 ls []) := by
  have hx := X.1
  have hb := X.2.1
  have hK := X.2.2.2.2.2.2.1
  unfold f_M_isScope at hf
  refine lv_iload_n hx hb d_M_isScope_0 rfl (lv_at hl 1 rfl) ?_
  refine lv_iconst (v := 0) hx hb d_M_isScope_1 (by decide) ?_
  refine lv_aload_n hx hb d_M_isScope_2 rfl (lv_at hl 0 rfl) ?_
  refine g_M_255_M X Z d_M_isScope_3 ?_
  refine lv_iconst (v := 1) hx hb d_M_isScope_6 (by decide) ?_
  refine lv_isub hx hb d_M_isScope_7 ?_
  obtain ⟨v_1, e_2, hf⟩ := sr_b hf
  refine sr_cSi (As := [.int x1, .int 0, .int ((u0 16 0) - 1)]) (rest := []) X Z sr_cut_0 (va_K.sub hK [] rfl) (c_M_in e_2) (cw_M_92 X.2.2.2.2.2.1 (by decide)) rfl hl rfl (Nat.le_of_ble_eq_true rfl) d_M_isScope_8 (fun H locs Z => ?_)
  refine lv_if_eq (tgt := 43) hx hb d_M_isScope_11 rfl (fun q_3 => ?_) (fun q_3 => ?_)
  · have hf := sr_it q_3 hf
    refine lv_iconst (v := 0) hx hb d_M_isScope_43 (by decide) ?_
    cases hf
    exact sr_retz X Z (by decide) d_M_isScope_44
  · have hf := sr_if q_3 hf
    refine lv_iload_n hx hb d_M_isScope_14 rfl (lv_at hl 2 rfl) ?_
    refine lv_iconst (v := 0) hx hb d_M_isScope_15 (by decide) ?_
    refine lv_aload_n hx hb d_M_isScope_16 rfl (lv_at hl 0 rfl) ?_
    refine g_M_100_M X Z d_M_isScope_17 ?_
    refine lv_iconst (v := 1) hx hb d_M_isScope_20 (by decide) ?_
    refine lv_isub hx hb d_M_isScope_21 ?_
    obtain ⟨v_4, e_5, hf⟩ := sr_b hf
    refine sr_cSi (As := [.int x2, .int 0, .int ((u0 0 0) - 1)]) (rest := []) X Z sr_cut_0 (va_K.sub hK [] rfl) (c_M_in e_5) (cw_M_92 X.2.2.2.2.2.1 (by decide)) rfl hl rfl (Nat.le_of_ble_eq_true rfl) d_M_isScope_22 (fun H locs Z => ?_)
    refine lv_if_eq (tgt := 43) hx hb d_M_isScope_25 rfl (fun q_6 => ?_) (fun q_6 => ?_)
    · have hf := sr_it q_6 hf
      refine lv_iconst (v := 0) hx hb d_M_isScope_43 (by decide) ?_
      cases hf
      exact sr_retz X Z (by decide) d_M_isScope_44
    · have hf := sr_if q_6 hf
      refine lv_aload_n hx hb d_M_isScope_28 rfl (lv_at hl 0 rfl) ?_
      refine g_M_16_M X Z d_M_isScope_29 ?_
      refine lv_iload_n hx hb d_M_isScope_32 rfl (lv_at hl 2 rfl) ?_
      obtain ⟨v_7, e_8, hf⟩ := sr_b hf
      refine sr_iald hx hb hK Z 3 2 rfl rfl e_8 d_M_isScope_33 ?_
      refine lv_bipush (v := 12) hx hb d_M_isScope_34 (by decide) ?_
      refine lv_icmp_ne (tgt := 43) hx hb d_M_isScope_36 rfl (fun q_9 => ?_) (fun q_9 => ?_)
      · have hf := sr_if q_9 hf
        refine lv_iconst (v := 0) hx hb d_M_isScope_43 (by decide) ?_
        cases hf
        exact sr_retz X Z (by decide) d_M_isScope_44
      · have hf := sr_it q_9 hf
        refine lv_iconst (v := 1) hx hb d_M_isScope_39 (by decide) ?_
        refine lv_goto (tgt := 44) hx hb d_M_isScope_40 rfl ?_
        cases hf
        exact sr_retz X Z (by decide) d_M_isScope_44
end
set_option maxHeartbeats 4000000 in
set_option maxRecDepth 100000 in
theorem c_M_isScope {l : Launch} {D : va_G} {h : Nat → Nat} {t : Nat → ClassId} {sz : Nat} {u0 : St} {x1 : Int32} {x2 : Int32} {r : Int32} (hf : f_M_isScope u0 x1 x2 = some r) : sr_Ci l y_M_isScope w_M_isScope (sr_rm 1 22) D (tM t) (wM h t u0) (wM h t u0) sz [.ref (h 0), .int x1, .int x2] r := by
  refine Met.ofW (cc := b_M_isScope) (maxL := 3) (ret := (some .boolean)) (by decide) rfl ?_
  intro p e s m args below meth c s₁ B hml hv
  obtain ⟨rfl, hsz, hP, hK, hD0⟩ := hv
  subst hsz
  have X : sr_X D (tM t) b_M_isScope 3 R_M w_M_isScope p s m _ meth c (va_A (wM h t u0) s.heap.size) (some .boolean) := ⟨B.exec, B.bytes, hml, findClass_of_methodNamed B.named, B.notSynchronized, atoms_spec (ws := w_M_isScope) B.pre, hK, fun q h => Or.inr h, B.returns⟩
  have Z : sr_Z D (va_A (wM h t u0) s.heap.size) s.heap (wM h t u0) s.heap [] := ⟨hP, hD0.self, va_S.rf⟩
  have hl := lv_entry ([.ref (h 0), .int x1, .int x2] : List Value) (n := 3) (Nat.le_of_ble_eq_true rfl)
  rw [lg_entry_eq]
  exact k_M_isScope_0 X Z hl hf
/-! M_own -/
theorem d_M_own_0 : decode b_M_own 0 = .ok (.aload_n 0, 1) := by decide +kernel
theorem d_M_own_1 : decode b_M_own 1 = .ok (.iload_n 1, 1) := by decide +kernel
theorem d_M_own_2 : decode b_M_own 2 = .ok (.iload_n 2, 1) := by decide +kernel
theorem d_M_own_3 : decode b_M_own 3 = .ok (.invokevirtual 265, 3) := by decide +kernel
theorem d_M_own_6 : decode b_M_own 6 = .ok (.ifCond .eq 17, 3) := by decide +kernel
theorem d_M_own_9 : decode b_M_own 9 = .ok (.aload_n 0, 1) := by decide +kernel
theorem d_M_own_10 : decode b_M_own 10 = .ok (.getfield 58, 3) := by decide +kernel
theorem d_M_own_13 : decode b_M_own 13 = .ok (.bipush 24, 2) := by decide +kernel
theorem d_M_own_15 : decode b_M_own 15 = .ok (.iload_n 1, 1) := by decide +kernel
theorem d_M_own_16 : decode b_M_own 16 = .ok (.imul, 1) := by decide +kernel
theorem d_M_own_17 : decode b_M_own 17 = .ok (.iload_n 2, 1) := by decide +kernel
theorem d_M_own_18 : decode b_M_own 18 = .ok (.iadd, 1) := by decide +kernel
theorem d_M_own_19 : decode b_M_own 19 = .ok (.iaload, 1) := by decide +kernel
theorem d_M_own_20 : decode b_M_own 20 = .ok (.goto 4, 3) := by decide +kernel
theorem d_M_own_23 : decode b_M_own 23 = .ok (.iconst 0, 1) := by decide +kernel
theorem d_M_own_24 : decode b_M_own 24 = .ok (.ireturn, 1) := by decide +kernel
section
variable {p : Program} {l : Launch} {e : Env} {s : State} {m : MethodId} {args : Array Value} {below : List Frame} {meth : Method} {c : Code} {H : Heap} {locs : List Loc} {ls : Array Slot} {D : va_G} {A : Nat → Prop} {h o : Nat → Nat} {t v : Nat → ClassId}
def f_M_own (u0 : St) (x1 : Int32) (x2 : Int32) : Option (Int32) :=
  (f_M_isScope u0 x1 x2).bind fun v_1 =>
  if v_1 = 0 then
    some 0
  else
    (sr_ald 192 (u0 22) ((24 * x1) + x2)).bind fun v_4 =>
    some v_4
set_option maxHeartbeats 4000000 in
set_option maxRecDepth 100000 in
theorem k_M_own_0 {u0 : St} {x1 : Int32} {x2 : Int32} {r : Int32} (X : sr_X D (tM t) b_M_own 3 R_M w_M_own p s m args meth c A (some .int)) (Z : sr_Z D A s.heap (wM h t u0) H locs) (hl : lv_has ls 3 [(0, .ref (h 0)), (1, .int x1), (2, .int x2)]) (hf : f_M_own u0 x1 x2 = some r) : W p l e (sr_rm 2 44) s m args below meth c H locs 0 0 (sr_Qi D (tM t) below args s A (wM h t u0) r) (F0 m 0 ls []) := by
  have hx := X.1
  have hb := X.2.1
  have hK := X.2.2.2.2.2.2.1
  unfold f_M_own at hf
  refine lv_aload_n hx hb d_M_own_0 rfl (lv_at hl 0 rfl) ?_
  refine lv_iload_n hx hb d_M_own_1 rfl (lv_at hl 1 rfl) ?_
  refine lv_iload_n hx hb d_M_own_2 rfl (lv_at hl 2 rfl) ?_
  obtain ⟨v_1, e_2, hf⟩ := sr_b hf
  refine sr_cVi (As := [.int x1, .int x2]) (rest := []) X Z sr_cut_self hK (c_M_isScope e_2) (cw_M_265 X.2.2.2.2.2.1 (by decide)) 0 rfl rfl rfl hl rfl (Nat.le_of_ble_eq_true rfl) d_M_own_3 (fun H locs Z => ?_)
  refine lv_if_eq (tgt := 23) hx hb d_M_own_6 rfl (fun q_3 => ?_) (fun q_3 => ?_)
  · have hf := sr_it q_3 hf
    refine lv_iconst (v := 0) hx hb d_M_own_23 (by decide) ?_
    cases hf
    exact sr_reti X Z d_M_own_24
  · have hf := sr_if q_3 hf
    refine lv_aload_n hx hb d_M_own_9 rfl (lv_at hl 0 rfl) ?_
    refine g_M_58_M X Z d_M_own_10 ?_
    refine lv_bipush (v := 24) hx hb d_M_own_13 (by decide) ?_
    refine lv_iload_n hx hb d_M_own_15 rfl (lv_at hl 1 rfl) ?_
    refine lv_imul hx hb d_M_own_16 ?_
    refine lv_iload_n hx hb d_M_own_17 rfl (lv_at hl 2 rfl) ?_
    refine lv_iadd hx hb d_M_own_18 ?_
    obtain ⟨v_4, e_5, hf⟩ := sr_b hf
    refine sr_iald hx hb hK Z 17 16 rfl rfl e_5 d_M_own_19 ?_
    refine lv_goto (tgt := 24) hx hb d_M_own_20 rfl ?_
    cases hf
    exact sr_reti X Z d_M_own_24
end
set_option maxHeartbeats 4000000 in
set_option maxRecDepth 100000 in
theorem c_M_own {l : Launch} {D : va_G} {h : Nat → Nat} {t : Nat → ClassId} {sz : Nat} {u0 : St} {x1 : Int32} {x2 : Int32} {r : Int32} (hf : f_M_own u0 x1 x2 = some r) : sr_Ci l y_M_own w_M_own (sr_rm 2 44) D (tM t) (wM h t u0) (wM h t u0) sz [.ref (h 0), .int x1, .int x2] r := by
  refine Met.ofW (cc := b_M_own) (maxL := 3) (ret := (some .int)) (by decide) rfl ?_
  intro p e s m args below meth c s₁ B hml hv
  obtain ⟨rfl, hsz, hP, hK, hD0⟩ := hv
  subst hsz
  have X : sr_X D (tM t) b_M_own 3 R_M w_M_own p s m _ meth c (va_A (wM h t u0) s.heap.size) (some .int) := ⟨B.exec, B.bytes, hml, findClass_of_methodNamed B.named, B.notSynchronized, atoms_spec (ws := w_M_own) B.pre, hK, fun q h => Or.inr h, B.returns⟩
  have Z : sr_Z D (va_A (wM h t u0) s.heap.size) s.heap (wM h t u0) s.heap [] := ⟨hP, hD0.self, va_S.rf⟩
  have hl := lv_entry ([.ref (h 0), .int x1, .int x2] : List Value) (n := 3) (Nat.le_of_ble_eq_true rfl)
  rw [lg_entry_eq]
  exact k_M_own_0 X Z hl hf
/-! M_linkState -/
theorem d_M_linkState_0 : decode b_M_linkState 0 = .ok (.iload_n 1, 1) := by decide +kernel
theorem d_M_linkState_1 : decode b_M_linkState 1 = .ok (.iconst 0, 1) := by decide +kernel
theorem d_M_linkState_2 : decode b_M_linkState 2 = .ok (.aload_n 0, 1) := by decide +kernel
theorem d_M_linkState_3 : decode b_M_linkState 3 = .ok (.getfield 255, 3) := by decide +kernel
theorem d_M_linkState_6 : decode b_M_linkState 6 = .ok (.iconst 1, 1) := by decide +kernel
theorem d_M_linkState_7 : decode b_M_linkState 7 = .ok (.isub, 1) := by decide +kernel
theorem d_M_linkState_8 : decode b_M_linkState 8 = .ok (.invokestatic 92, 3) := by decide +kernel
theorem d_M_linkState_11 : decode b_M_linkState 11 = .ok (.ifCond .eq 31, 3) := by decide +kernel
theorem d_M_linkState_14 : decode b_M_linkState 14 = .ok (.iload_n 2, 1) := by decide +kernel
theorem d_M_linkState_15 : decode b_M_linkState 15 = .ok (.iconst 0, 1) := by decide +kernel
theorem d_M_linkState_16 : decode b_M_linkState 16 = .ok (.aload_n 0, 1) := by decide +kernel
theorem d_M_linkState_17 : decode b_M_linkState 17 = .ok (.getfield 115, 3) := by decide +kernel
theorem d_M_linkState_20 : decode b_M_linkState 20 = .ok (.iconst 1, 1) := by decide +kernel
theorem d_M_linkState_21 : decode b_M_linkState 21 = .ok (.isub, 1) := by decide +kernel
theorem d_M_linkState_22 : decode b_M_linkState 22 = .ok (.invokestatic 92, 3) := by decide +kernel
theorem d_M_linkState_25 : decode b_M_linkState 25 = .ok (.ifCond .eq 17, 3) := by decide +kernel
theorem d_M_linkState_28 : decode b_M_linkState 28 = .ok (.aload_n 0, 1) := by decide +kernel
theorem d_M_linkState_29 : decode b_M_linkState 29 = .ok (.getfield 71, 3) := by decide +kernel
theorem d_M_linkState_32 : decode b_M_linkState 32 = .ok (.bipush 16, 2) := by decide +kernel
theorem d_M_linkState_34 : decode b_M_linkState 34 = .ok (.iload_n 1, 1) := by decide +kernel
theorem d_M_linkState_35 : decode b_M_linkState 35 = .ok (.imul, 1) := by decide +kernel
theorem d_M_linkState_36 : decode b_M_linkState 36 = .ok (.iload_n 2, 1) := by decide +kernel
theorem d_M_linkState_37 : decode b_M_linkState 37 = .ok (.iadd, 1) := by decide +kernel
theorem d_M_linkState_38 : decode b_M_linkState 38 = .ok (.iaload, 1) := by decide +kernel
theorem d_M_linkState_39 : decode b_M_linkState 39 = .ok (.goto 4, 3) := by decide +kernel
theorem d_M_linkState_42 : decode b_M_linkState 42 = .ok (.iconst (-1), 1) := by decide +kernel
theorem d_M_linkState_43 : decode b_M_linkState 43 = .ok (.ireturn, 1) := by decide +kernel
section
variable {p : Program} {l : Launch} {e : Env} {s : State} {m : MethodId} {args : Array Value} {below : List Frame} {meth : Method} {c : Code} {H : Heap} {locs : List Loc} {ls : Array Slot} {D : va_G} {A : Nat → Prop} {h o : Nat → Nat} {t v : Nat → ClassId}
def f_M_linkState (u0 : St) (x1 : Int32) (x2 : Int32) : Option (Int32) :=
  (f_M_in x1 0 ((u0 16 0) - 1)).bind fun v_1 =>
  if v_1 = 0 then
    some (-1)
  else
    (f_M_in x2 0 ((u0 7 0) - 1)).bind fun v_4 =>
    if v_4 = 0 then
      some (-1)
    else
      (sr_ald 128 (u0 26) ((16 * x1) + x2)).bind fun v_7 =>
      some v_7
set_option maxHeartbeats 4000000 in
set_option maxRecDepth 100000 in
theorem k_M_linkState_0 {u0 : St} {x1 : Int32} {x2 : Int32} {r : Int32} (X : sr_X D (tM t) b_M_linkState 3 R_M w_M_linkState p s m args meth c A (some .int)) (Z : sr_Z D A s.heap (wM h t u0) H locs) (hl : lv_has ls 3 [(0, .ref (h 0)), (1, .int x1), (2, .int x2)]) (hf : f_M_linkState u0 x1 x2 = some r) : W p l e (sr_rm 1 22) s m args below meth c H locs 0 0 (sr_Qi D (tM t) below args s A (wM h t u0) r) (F0 m 0 ls []) := by
  have hx := X.1
  have hb := X.2.1
  have hK := X.2.2.2.2.2.2.1
  unfold f_M_linkState at hf
  refine lv_iload_n hx hb d_M_linkState_0 rfl (lv_at hl 1 rfl) ?_
  refine lv_iconst (v := 0) hx hb d_M_linkState_1 (by decide) ?_
  refine lv_aload_n hx hb d_M_linkState_2 rfl (lv_at hl 0 rfl) ?_
  refine g_M_255_M X Z d_M_linkState_3 ?_
  refine lv_iconst (v := 1) hx hb d_M_linkState_6 (by decide) ?_
  refine lv_isub hx hb d_M_linkState_7 ?_
  obtain ⟨v_1, e_2, hf⟩ := sr_b hf
  refine sr_cSi (As := [.int x1, .int 0, .int ((u0 16 0) - 1)]) (rest := []) X Z sr_cut_0 (va_K.sub hK [] rfl) (c_M_in e_2) (cw_M_92 X.2.2.2.2.2.1 (by decide)) rfl hl rfl (Nat.le_of_ble_eq_true rfl) d_M_linkState_8 (fun H locs Z => ?_)
  refine lv_if_eq (tgt := 42) hx hb d_M_linkState_11 rfl (fun q_3 => ?_) (fun q_3 => ?_)
  · have hf := sr_it q_3 hf
    refine lv_iconst (v := -1) hx hb d_M_linkState_42 (by decide) ?_
    cases hf
    exact sr_reti X Z d_M_linkState_43
  · have hf := sr_if q_3 hf
    refine lv_iload_n hx hb d_M_linkState_14 rfl (lv_at hl 2 rfl) ?_
    refine lv_iconst (v := 0) hx hb d_M_linkState_15 (by decide) ?_
    refine lv_aload_n hx hb d_M_linkState_16 rfl (lv_at hl 0 rfl) ?_
    refine g_M_115_M X Z d_M_linkState_17 ?_
    refine lv_iconst (v := 1) hx hb d_M_linkState_20 (by decide) ?_
    refine lv_isub hx hb d_M_linkState_21 ?_
    obtain ⟨v_4, e_5, hf⟩ := sr_b hf
    refine sr_cSi (As := [.int x2, .int 0, .int ((u0 7 0) - 1)]) (rest := []) X Z sr_cut_0 (va_K.sub hK [] rfl) (c_M_in e_5) (cw_M_92 X.2.2.2.2.2.1 (by decide)) rfl hl rfl (Nat.le_of_ble_eq_true rfl) d_M_linkState_22 (fun H locs Z => ?_)
    refine lv_if_eq (tgt := 42) hx hb d_M_linkState_25 rfl (fun q_6 => ?_) (fun q_6 => ?_)
    · have hf := sr_it q_6 hf
      refine lv_iconst (v := -1) hx hb d_M_linkState_42 (by decide) ?_
      cases hf
      exact sr_reti X Z d_M_linkState_43
    · have hf := sr_if q_6 hf
      refine lv_aload_n hx hb d_M_linkState_28 rfl (lv_at hl 0 rfl) ?_
      refine g_M_71_M X Z d_M_linkState_29 ?_
      refine lv_bipush (v := 16) hx hb d_M_linkState_32 (by decide) ?_
      refine lv_iload_n hx hb d_M_linkState_34 rfl (lv_at hl 1 rfl) ?_
      refine lv_imul hx hb d_M_linkState_35 ?_
      refine lv_iload_n hx hb d_M_linkState_36 rfl (lv_at hl 2 rfl) ?_
      refine lv_iadd hx hb d_M_linkState_37 ?_
      obtain ⟨v_7, e_8, hf⟩ := sr_b hf
      refine sr_iald hx hb hK Z 21 20 rfl rfl e_8 d_M_linkState_38 ?_
      refine lv_goto (tgt := 43) hx hb d_M_linkState_39 rfl ?_
      cases hf
      exact sr_reti X Z d_M_linkState_43
end
set_option maxHeartbeats 4000000 in
set_option maxRecDepth 100000 in
theorem c_M_linkState {l : Launch} {D : va_G} {h : Nat → Nat} {t : Nat → ClassId} {sz : Nat} {u0 : St} {x1 : Int32} {x2 : Int32} {r : Int32} (hf : f_M_linkState u0 x1 x2 = some r) : sr_Ci l y_M_linkState w_M_linkState (sr_rm 1 22) D (tM t) (wM h t u0) (wM h t u0) sz [.ref (h 0), .int x1, .int x2] r := by
  refine Met.ofW (cc := b_M_linkState) (maxL := 3) (ret := (some .int)) (by decide) rfl ?_
  intro p e s m args below meth c s₁ B hml hv
  obtain ⟨rfl, hsz, hP, hK, hD0⟩ := hv
  subst hsz
  have X : sr_X D (tM t) b_M_linkState 3 R_M w_M_linkState p s m _ meth c (va_A (wM h t u0) s.heap.size) (some .int) := ⟨B.exec, B.bytes, hml, findClass_of_methodNamed B.named, B.notSynchronized, atoms_spec (ws := w_M_linkState) B.pre, hK, fun q h => Or.inr h, B.returns⟩
  have Z : sr_Z D (va_A (wM h t u0) s.heap.size) s.heap (wM h t u0) s.heap [] := ⟨hP, hD0.self, va_S.rf⟩
  have hl := lv_entry ([.ref (h 0), .int x1, .int x2] : List Value) (n := 3) (Nat.le_of_ble_eq_true rfl)
  rw [lg_entry_eq]
  exact k_M_linkState_0 X Z hl hf
