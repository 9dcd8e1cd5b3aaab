/-! M_link -/
theorem d_M_link_0 : decode b_M_link 0 = .ok (.aload_n 0, 1) := by decide +kernel
theorem d_M_link_1 : decode b_M_link 1 = .ok (.getfield 96, 3) := by decide +kernel
theorem d_M_link_4 : decode b_M_link 4 = .ok (.ifCond .ne 49, 3) := by decide +kernel
theorem d_M_link_7 : decode b_M_link 7 = .ok (.aload_n 0, 1) := by decide +kernel
theorem d_M_link_8 : decode b_M_link 8 = .ok (.getfield 115, 3) := by decide +kernel
theorem d_M_link_11 : decode b_M_link 11 = .ok (.bipush 16, 2) := by decide +kernel
theorem d_M_link_13 : decode b_M_link 13 = .ok (.if_icmp .ge 40, 3) := by decide +kernel
theorem d_M_link_16 : decode b_M_link 16 = .ok (.iload_n 1, 1) := by decide +kernel
theorem d_M_link_17 : decode b_M_link 17 = .ok (.iconst 0, 1) := by decide +kernel
theorem d_M_link_18 : decode b_M_link 18 = .ok (.aload_n 0, 1) := by decide +kernel
theorem d_M_link_19 : decode b_M_link 19 = .ok (.getfield 100, 3) := by decide +kernel
theorem d_M_link_22 : decode b_M_link 22 = .ok (.iconst 1, 1) := by decide +kernel
theorem d_M_link_23 : decode b_M_link 23 = .ok (.isub, 1) := by decide +kernel
theorem d_M_link_24 : decode b_M_link 24 = .ok (.invokestatic 92, 3) := by decide +kernel
theorem d_M_link_27 : decode b_M_link 27 = .ok (.ifCond .eq 26, 3) := by decide +kernel
theorem d_M_link_30 : decode b_M_link 30 = .ok (.iload_n 2, 1) := by decide +kernel
theorem d_M_link_31 : decode b_M_link 31 = .ok (.iconst 0, 1) := by decide +kernel
theorem d_M_link_32 : decode b_M_link 32 = .ok (.aload_n 0, 1) := by decide +kernel
theorem d_M_link_33 : decode b_M_link 33 = .ok (.getfield 100, 3) := by decide +kernel
theorem d_M_link_36 : decode b_M_link 36 = .ok (.iconst 1, 1) := by decide +kernel
theorem d_M_link_37 : decode b_M_link 37 = .ok (.isub, 1) := by decide +kernel
theorem d_M_link_38 : decode b_M_link 38 = .ok (.invokestatic 92, 3) := by decide +kernel
theorem d_M_link_41 : decode b_M_link 41 = .ok (.ifCond .eq 12, 3) := by decide +kernel
theorem d_M_link_44 : decode b_M_link 44 = .ok (.iload_n 3, 1) := by decide +kernel
theorem d_M_link_45 : decode b_M_link 45 = .ok (.iconst (-1), 1) := by decide +kernel
theorem d_M_link_46 : decode b_M_link 46 = .ok (.iconst 4, 1) := by decide +kernel
theorem d_M_link_47 : decode b_M_link 47 = .ok (.invokestatic 92, 3) := by decide +kernel
theorem d_M_link_50 : decode b_M_link 50 = .ok (.ifCond .ne 5, 3) := by decide +kernel
theorem d_M_link_53 : decode b_M_link 53 = .ok (.iconst (-1), 1) := by decide +kernel
theorem d_M_link_54 : decode b_M_link 54 = .ok (.ireturn, 1) := by decide +kernel
theorem d_M_link_55 : decode b_M_link 55 = .ok (.iconst 0, 1) := by decide +kernel
theorem d_M_link_56 : decode b_M_link 56 = .ok (.istore 5, 2) := by decide +kernel
theorem d_M_link_58 : decode b_M_link 58 = .ok (.iload 5, 2) := by decide +kernel
theorem d_M_link_60 : decode b_M_link 60 = .ok (.aload_n 0, 1) := by decide +kernel
theorem d_M_link_61 : decode b_M_link 61 = .ok (.getfield 115, 3) := by decide +kernel
theorem d_M_link_64 : decode b_M_link 64 = .ok (.if_icmp .ge 33, 3) := by decide +kernel
theorem d_M_link_67 : decode b_M_link 67 = .ok (.aload_n 0, 1) := by decide +kernel
theorem d_M_link_68 : decode b_M_link 68 = .ok (.getfield 28, 3) := by decide +kernel
theorem d_M_link_71 : decode b_M_link 71 = .ok (.iload 5, 2) := by decide +kernel
theorem d_M_link_73 : decode b_M_link 73 = .ok (.iaload, 1) := by decide +kernel
theorem d_M_link_74 : decode b_M_link 74 = .ok (.iload_n 1, 1) := by decide +kernel
theorem d_M_link_75 : decode b_M_link 75 = .ok (.if_icmp .ne 16, 3) := by decide +kernel
theorem d_M_link_78 : decode b_M_link 78 = .ok (.aload_n 0, 1) := by decide +kernel
theorem d_M_link_79 : decode b_M_link 79 = .ok (.getfield 31, 3) := by decide +kernel
theorem d_M_link_82 : decode b_M_link 82 = .ok (.iload 5, 2) := by decide +kernel
theorem d_M_link_84 : decode b_M_link 84 = .ok (.iaload, 1) := by decide +kernel
theorem d_M_link_85 : decode b_M_link 85 = .ok (.iload_n 2, 1) := by decide +kernel
theorem d_M_link_86 : decode b_M_link 86 = .ok (.if_icmp .ne 5, 3) := by decide +kernel
theorem d_M_link_89 : decode b_M_link 89 = .ok (.iconst (-1), 1) := by decide +kernel
theorem d_M_link_90 : decode b_M_link 90 = .ok (.ireturn, 1) := by decide +kernel
theorem d_M_link_91 : decode b_M_link 91 = .ok (.iinc 5 1, 3) := by decide +kernel
theorem d_M_link_94 : decode b_M_link 94 = .ok (.goto (-36), 3) := by decide +kernel
theorem d_M_link_97 : decode b_M_link 97 = .ok (.aload_n 0, 1) := by decide +kernel
theorem d_M_link_98 : decode b_M_link 98 = .ok (.getfield 28, 3) := by decide +kernel
theorem d_M_link_101 : decode b_M_link 101 = .ok (.aload_n 0, 1) := by decide +kernel
theorem d_M_link_102 : decode b_M_link 102 = .ok (.getfield 115, 3) := by decide +kernel
theorem d_M_link_105 : decode b_M_link 105 = .ok (.iload_n 1, 1) := by decide +kernel
theorem d_M_link_106 : decode b_M_link 106 = .ok (.iastore, 1) := by decide +kernel
theorem d_M_link_107 : decode b_M_link 107 = .ok (.aload_n 0, 1) := by decide +kernel
theorem d_M_link_108 : decode b_M_link 108 = .ok (.getfield 31, 3) := by decide +kernel
theorem d_M_link_111 : decode b_M_link 111 = .ok (.aload_n 0, 1) := by decide +kernel
theorem d_M_link_112 : decode b_M_link 112 = .ok (.getfield 115, 3) := by decide +kernel
theorem d_M_link_115 : decode b_M_link 115 = .ok (.iload_n 2, 1) := by decide +kernel
theorem d_M_link_116 : decode b_M_link 116 = .ok (.iastore, 1) := by decide +kernel
theorem d_M_link_117 : decode b_M_link 117 = .ok (.aload_n 0, 1) := by decide +kernel
theorem d_M_link_118 : decode b_M_link 118 = .ok (.getfield 34, 3) := by decide +kernel
theorem d_M_link_121 : decode b_M_link 121 = .ok (.aload_n 0, 1) := by decide +kernel
theorem d_M_link_122 : decode b_M_link 122 = .ok (.getfield 115, 3) := by decide +kernel
theorem d_M_link_125 : decode b_M_link 125 = .ok (.iload_n 3, 1) := by decide +kernel
theorem d_M_link_126 : decode b_M_link 126 = .ok (.iastore, 1) := by decide +kernel
theorem d_M_link_127 : decode b_M_link 127 = .ok (.aload_n 0, 1) := by decide +kernel
theorem d_M_link_128 : decode b_M_link 128 = .ok (.getfield 37, 3) := by decide +kernel
theorem d_M_link_131 : decode b_M_link 131 = .ok (.aload_n 0, 1) := by decide +kernel
theorem d_M_link_132 : decode b_M_link 132 = .ok (.getfield 115, 3) := by decide +kernel
theorem d_M_link_135 : decode b_M_link 135 = .ok (.iload 4, 2) := by decide +kernel
theorem d_M_link_137 : decode b_M_link 137 = .ok (.iastore, 1) := by decide +kernel
theorem d_M_link_138 : decode b_M_link 138 = .ok (.aload_n 0, 1) := by decide +kernel
theorem d_M_link_139 : decode b_M_link 139 = .ok (.dup, 1) := by decide +kernel
theorem d_M_link_140 : decode b_M_link 140 = .ok (.getfield 115, 3) := by decide +kernel
theorem d_M_link_143 : decode b_M_link 143 = .ok (.iconst 1, 1) := by decide +kernel
theorem d_M_link_144 : decode b_M_link 144 = .ok (.iadd, 1) := by decide +kernel
theorem d_M_link_145 : decode b_M_link 145 = .ok (.putfield 115, 3) := by decide +kernel
theorem d_M_link_148 : decode b_M_link 148 = .ok (.aload_n 0, 1) := by decide +kernel
theorem d_M_link_149 : decode b_M_link 149 = .ok (.getfield 115, 3) := by decide +kernel
theorem d_M_link_152 : decode b_M_link 152 = .ok (.iconst 1, 1) := by decide +kernel
theorem d_M_link_153 : decode b_M_link 153 = .ok (.isub, 1) := by decide +kernel
theorem d_M_link_154 : decode b_M_link 154 = .ok (.ireturn, 1) := by decide +kernel
section
variable {p : Program} {l : Launch} {e : Env} {s : State} {m : MethodId} {args : Array Value} {below : List Frame} {meth : Method} {c : Code} {H : Heap} {locs : List Loc} {ls : Array Slot} {D : va_G} {A : Nat → Prop} {h o : Nat → Nat} {t v : Nat → ClassId}
def f_M_link_91 (k58 : Int32 → Int32 → Int32 → Int32 → Int32 → St → Option (Int32 × St)) (x1 : Int32) (x2 : Int32) (x3 : Int32) (x4 : Int32) (x5 : Int32) (u0 : St) : Option (Int32 × St) :=
  k58 x1 x2 x3 x4 (x5 + 1) u0
set_option maxHeartbeats 4000000 in
set_option maxRecDepth 100000 in
theorem k_M_link_91 {k58 : Int32 → Int32 → Int32 → Int32 → Int32 → St → Option (Int32 × St)} {x1 : Int32} {x2 : Int32} {x3 : Int32} {x4 : Int32} {x5 : Int32} {u0 : St} {r : Int32} {u' : St} (X : sr_X D (tM t) b_M_link 6 R_M w_M_link p s m args meth c A (some .int)) (hk58 : ∀ (x1 : Int32) (x2 : Int32) (x3 : Int32) (x4 : Int32) (x5 : Int32) (u0 : St) (H : Heap) (locs : List Loc) (ls : Array Slot), sr_Z D A s.heap (wM h t u0) H locs → lv_has ls 6 [(0, .ref (h 0)), (1, .int x1), (2, .int x2), (3, .int x3), (4, .int x4), (5, .int x5)] → k58 x1 x2 x3 x4 x5 u0 = some (r, u') → W p l e (sr_rm 1 22) s m args below meth c H locs 0 0 (sr_Qi D (tM t) below args s A (wM h t u') r) (F0 m 58 ls [])) (Z : sr_Z D A s.heap (wM h t u0) H locs) (hl : lv_has ls 6 [(0, .ref (h 0)), (1, .int x1), (2, .int x2), (3, .int x3), (4, .int x4), (5, .int x5)]) (hf : f_M_link_91 k58 x1 x2 x3 x4 x5 u0 = some (r, u')) : W p l e (sr_rm 1 22) s m args below meth c H locs 0 0 (sr_Qi D (tM t) below args s A (wM h t u') r) (F0 m 91 ls []) := by
  have hx := X.1
  have hb := X.2.1
  have hK := X.2.2.2.2.2.2.1
  unfold f_M_link_91 at hf
  refine lv_iinc (k := 5) (v := x5 + 1) (lv' := [(5, .int (x5 + 1)), (0, .ref (h 0)), (1, .int x1), (2, .int x2), (3, .int x3), (4, .int x4)]) hx hb d_M_link_91 hl rfl rfl (by decide) rfl (fun ls hl => ?_)
  refine lv_goto (tgt := 58) hx hb d_M_link_94 rfl ?_
  exact hk58 x1 x2 x3 x4 (x5 + 1) u0 _ _ _ Z (lv_sub hl [1, 2, 3, 4, 5, 0] rfl) hf
def f_M_link_58 (k58 : Int32 → Int32 → Int32 → Int32 → Int32 → St → Option (Int32 × St)) (x1 : Int32) (x2 : Int32) (x3 : Int32) (x4 : Int32) (x5 : Int32) (u0 : St) : Option (Int32 × St) :=
  if (u0 7 0) ≤ x5 then
    (sr_ast 16 u0 8 (u0 7 0) x1).bind fun u_13 =>
    (sr_ast 16 u_13 9 (u_13 7 0) x2).bind fun u_15 =>
    (sr_ast 16 u_15 10 (u_15 7 0) x3).bind fun u_17 =>
    (sr_ast 16 u_17 11 (u_17 7 0) x4).bind fun u_19 =>
    (sr_pf u_19 7 ((u_19 7 0) + 1)).bind fun u_21 =>
    some ((u_21 7 0) - 1, u_21)
  else
    (sr_ald 16 (u0 8) x5).bind fun v_23 =>
    if v_23 = x1 then
      (sr_ald 16 (u0 9) x5).bind fun v_26 =>
      if v_26 = x2 then
        some (-1, u0)
      else
        f_M_link_91 k58 x1 x2 x3 x4 x5 u0
    else
      f_M_link_91 k58 x1 x2 x3 x4 x5 u0
set_option maxHeartbeats 4000000 in
set_option maxRecDepth 100000 in
theorem k_M_link_58 {k58 : Int32 → Int32 → Int32 → Int32 → Int32 → St → Option (Int32 × St)} {x1 : Int32} {x2 : Int32} {x3 : Int32} {x4 : Int32} {x5 : Int32} {u0 : St} {r : Int32} {u' : St} (X : sr_X D (tM t) b_M_link 6 R_M w_M_link p s m args meth c A (some .int)) (hk58 : ∀ (x1 : Int32) (x2 : Int32) (x3 : Int32) (x4 : Int32) (x5 : Int32) (u0 : St) (H : Heap) (locs : List Loc) (ls : Array Slot), sr_Z D A s.heap (wM h t u0) H locs → lv_has ls 6 [(0, .ref (h 0)), (1, .int x1), (2, .int x2), (3, .int x3), (4, .int x4), (5, .int x5)] → k58 x1 x2 x3 x4 x5 u0 = some (r, u') → W p l e (sr_rm 1 22) s m args below meth c H locs 0 0 (sr_Qi D (tM t) below args s A (wM h t u') r) (F0 m 58 ls [])) (Z : sr_Z D A s.heap (wM h t u0) H locs) (hl : lv_has ls 6 [(0, .ref (h 0)), (1, .int x1), (2, .int x2), (3, .int x3), (4, .int x4), (5, .int x5)]) (hf : f_M_link_58 k58 x1 x2 x3 x4 x5 u0 = some (r, u')) : W p l e (sr_rm 1 22) s m args below meth c H locs 0 0 (sr_Qi D (tM t) below args s A (wM h t u') r) (F0 m 58 ls []) := by
  have hx := X.1
  have hb := X.2.1
  have hK := X.2.2.2.2.2.2.1
  unfold f_M_link_58 at hf
  refine lv_iload hx hb d_M_link_58 (lv_at hl 5 rfl) ?_
  refine lv_aload_n hx hb d_M_link_60 rfl (lv_at hl 0 rfl) ?_
  refine g_M_115_M X Z d_M_link_61 ?_
  refine lv_icmp_ge (tgt := 97) hx hb d_M_link_64 rfl (fun q_12 => ?_) (fun q_12 => ?_)
  · have hf := sr_it q_12 hf
    refine lv_aload_n hx hb d_M_link_97 rfl (lv_at hl 0 rfl) ?_
    refine g_M_28_M X Z d_M_link_98 ?_
    refine lv_aload_n hx hb d_M_link_101 rfl (lv_at hl 0 rfl) ?_
    refine g_M_115_M X Z d_M_link_102 ?_
    refine lv_iload_n hx hb d_M_link_105 rfl (lv_at hl 1 rfl) ?_
    obtain ⟨u_13, e_14, hf⟩ := sr_b hf
    refine sr_iast (wf := (fun q => (wM h t q))) hx hb hK Z 7 6 rfl rfl e_14 (fun _ => rfl) d_M_link_106 (fun H locs Z => ?_)
    refine lv_aload_n hx hb d_M_link_107 rfl (lv_at hl 0 rfl) ?_
    refine g_M_31_M X Z d_M_link_108 ?_
    refine lv_aload_n hx hb d_M_link_111 rfl (lv_at hl 0 rfl) ?_
    refine g_M_115_M X Z d_M_link_112 ?_
    refine lv_iload_n hx hb d_M_link_115 rfl (lv_at hl 2 rfl) ?_
    obtain ⟨u_15, e_16, hf⟩ := sr_b hf
    refine sr_iast (wf := (fun q => (wM h t q))) hx hb hK Z 8 7 rfl rfl e_16 (fun _ => rfl) d_M_link_116 (fun H locs Z => ?_)
    refine lv_aload_n hx hb d_M_link_117 rfl (lv_at hl 0 rfl) ?_
    refine g_M_34_M X Z d_M_link_118 ?_
    refine lv_aload_n hx hb d_M_link_121 rfl (lv_at hl 0 rfl) ?_
    refine g_M_115_M X Z d_M_link_122 ?_
    refine lv_iload_n hx hb d_M_link_125 rfl (lv_at hl 3 rfl) ?_
    obtain ⟨u_17, e_18, hf⟩ := sr_b hf
    refine sr_iast (wf := (fun q => (wM h t q))) hx hb hK Z 9 8 rfl rfl e_18 (fun _ => rfl) d_M_link_126 (fun H locs Z => ?_)
    refine lv_aload_n hx hb d_M_link_127 rfl (lv_at hl 0 rfl) ?_
    refine g_M_37_M X Z d_M_link_128 ?_
    refine lv_aload_n hx hb d_M_link_131 rfl (lv_at hl 0 rfl) ?_
    refine g_M_115_M X Z d_M_link_132 ?_
    refine lv_iload hx hb d_M_link_135 (lv_at hl 4 rfl) ?_
    obtain ⟨u_19, e_20, hf⟩ := sr_b hf
    refine sr_iast (wf := (fun q => (wM h t q))) hx hb hK Z 10 9 rfl rfl e_20 (fun _ => rfl) d_M_link_137 (fun H locs Z => ?_)
    refine lv_aload_n hx hb d_M_link_138 rfl (lv_at hl 0 rfl) ?_
    refine lv_dup hx hb d_M_link_139 rfl ?_
    refine g_M_115_M X Z d_M_link_140 ?_
    refine lv_iconst (v := 1) hx hb d_M_link_143 (by decide) ?_
    refine lv_iadd hx hb d_M_link_144 ?_
    obtain ⟨u_21, e_22, hf⟩ := sr_b hf
    refine s_M_115_M X Z e_22 d_M_link_145 (fun H locs Z => ?_)
    refine lv_aload_n hx hb d_M_link_148 rfl (lv_at hl 0 rfl) ?_
    refine g_M_115_M X Z d_M_link_149 ?_
    refine lv_iconst (v := 1) hx hb d_M_link_152 (by decide) ?_
    refine lv_isub hx hb d_M_link_153 ?_
    cases hf
    exact sr_reti X Z d_M_link_154
  · have hf := sr_if q_12 hf
    refine lv_aload_n hx hb d_M_link_67 rfl (lv_at hl 0 rfl) ?_
    refine g_M_28_M X Z d_M_link_68 ?_
    refine lv_iload hx hb d_M_link_71 (lv_at hl 5 rfl) ?_
    obtain ⟨v_23, e_24, hf⟩ := sr_b hf
    refine sr_iald hx hb hK Z 7 6 rfl rfl e_24 d_M_link_73 ?_
    refine lv_iload_n hx hb d_M_link_74 rfl (lv_at hl 1 rfl) ?_
    refine lv_icmp_ne (tgt := 91) hx hb d_M_link_75 rfl (fun q_25 => ?_) (fun q_25 => ?_)
    · have hf := sr_if q_25 hf
      exact k_M_link_91 X hk58 Z (lv_sub hl [0, 1, 2, 3, 4, 5] rfl) hf
    · have hf := sr_it q_25 hf
      refine lv_aload_n hx hb d_M_link_78 rfl (lv_at hl 0 rfl) ?_
      refine g_M_31_M X Z d_M_link_79 ?_
      refine lv_iload hx hb d_M_link_82 (lv_at hl 5 rfl) ?_
      obtain ⟨v_26, e_27, hf⟩ := sr_b hf
      refine sr_iald hx hb hK Z 8 7 rfl rfl e_27 d_M_link_84 ?_
      refine lv_iload_n hx hb d_M_link_85 rfl (lv_at hl 2 rfl) ?_
      refine lv_icmp_ne (tgt := 91) hx hb d_M_link_86 rfl (fun q_28 => ?_) (fun q_28 => ?_)
      · have hf := sr_if q_28 hf
        exact k_M_link_91 X hk58 Z (lv_sub hl [0, 1, 2, 3, 4, 5] rfl) hf
      · have hf := sr_it q_28 hf
        refine lv_iconst (v := -1) hx hb d_M_link_89 (by decide) ?_
        cases hf
        exact sr_reti X Z d_M_link_90
def f_M_link_58_it : Nat → Int32 → Int32 → Int32 → Int32 → Int32 → St → Option (Int32 × St)
  | 0 => fun _ _ _ _ _ _ => none
  | n + 1 => fun x1 x2 x3 x4 x5 u0 => f_M_link_58 (f_M_link_58_it n) x1 x2 x3 x4 x5 u0
set_option maxHeartbeats 4000000 in
set_option maxRecDepth 100000 in
theorem k_M_link_58_it {r : Int32} {u' : St} (X : sr_X D (tM t) b_M_link 6 R_M w_M_link p s m args meth c A (some .int)) (n : Nat) : ∀ {x1 : Int32} {x2 : Int32} {x3 : Int32} {x4 : Int32} {x5 : Int32} {u0 : St} {H : Heap} {locs : List Loc} {ls : Array Slot}, sr_Z D A s.heap (wM h t u0) H locs → lv_has ls 6 [(0, .ref (h 0)), (1, .int x1), (2, .int x2), (3, .int x3), (4, .int x4), (5, .int x5)] → f_M_link_58_it n x1 x2 x3 x4 x5 u0 = some (r, u') → W p l e (sr_rm 1 22) s m args below meth c H locs 0 0 (sr_Qi D (tM t) below args s A (wM h t u') r) (F0 m 58 ls []) := by
  induction n with
  | zero => intro x1 x2 x3 x4 x5 u0 H locs ls Z hl hf; exact absurd hf (by simp [f_M_link_58_it])
  | succ n ih =>
    intro x1 x2 x3 x4 x5 u0 H locs ls Z hl hf
    exact k_M_link_58 X (fun x1 x2 x3 x4 x5 u0 H locs ls Z hl hf => ih Z hl hf) Z hl hf
def f_M_link (x1 : Int32) (x2 : Int32) (x3 : Int32) (x4 : Int32) (u0 : St) : Option (Int32 × St) :=
  if (u0 12 0) = 0 then
    if 16 ≤ (u0 7 0) then
      some (-1, u0)
    else
      (f_M_in x1 0 ((u0 0 0) - 1)).bind fun v_3 =>
      if v_3 = 0 then
        some (-1, u0)
      else
        (f_M_in x2 0 ((u0 0 0) - 1)).bind fun v_6 =>
        if v_6 = 0 then
          some (-1, u0)
        else
          (f_M_in x3 (-1) 4).bind fun v_9 =>
          if v_9 = 0 then
            some (-1, u0)
          else
            f_M_link_58_it 60 x1 x2 x3 x4 0 u0
  else
    some (-1, u0)
set_option maxHeartbeats 4000000 in
set_option maxRecDepth 100000 in
theorem k_M_link_0 {x1 : Int32} {x2 : Int32} {x3 : Int32} {x4 : Int32} {u0 : St} {r : Int32} {u' : St} (X : sr_X D (tM t) b_M_link 6 R_M w_M_link p s m args meth c A (some .int)) (Z : sr_Z D A s.heap (wM h t u0) H locs) (hl : lv_has ls 6 [(0, .ref (h 0)), (1, .int x1), (2, .int x2), (3, .int x3), (4, .int x4)]) (hf : f_M_link x1 x2 x3 x4 u0 = some (r, u')) : W p l e (sr_rm 1 22) s m args below meth c H locs 0 0 (sr_Qi D (tM t) below args s A (wM h t u') r) (F0 m 0 ls []) := by
  have hx := X.1
  have hb := X.2.1
  have hK := X.2.2.2.2.2.2.1
  unfold f_M_link at hf
  refine lv_aload_n hx hb d_M_link_0 rfl (lv_at hl 0 rfl) ?_
  refine g_M_96_M X Z d_M_link_1 ?_
  refine lv_if_ne (tgt := 53) hx hb d_M_link_4 rfl (fun q_1 => ?_) (fun q_1 => ?_)
  · have hf := sr_if q_1 hf
    refine lv_iconst (v := -1) hx hb d_M_link_53 (by decide) ?_
    cases hf
    exact sr_reti X Z d_M_link_54
  · have hf := sr_it q_1 hf
    refine lv_aload_n hx hb d_M_link_7 rfl (lv_at hl 0 rfl) ?_
    refine g_M_115_M X Z d_M_link_8 ?_
    refine lv_bipush (v := 16) hx hb d_M_link_11 (by decide) ?_
    refine lv_icmp_ge (tgt := 53) hx hb d_M_link_13 rfl (fun q_2 => ?_) (fun q_2 => ?_)
    · have hf := sr_it q_2 hf
      refine lv_iconst (v := -1) hx hb d_M_link_53 (by decide) ?_
      cases hf
      exact sr_reti X Z d_M_link_54
    · have hf := sr_if q_2 hf
      refine lv_iload_n hx hb d_M_link_16 rfl (lv_at hl 1 rfl) ?_
      refine lv_iconst (v := 0) hx hb d_M_link_17 (by decide) ?_
      refine lv_aload_n hx hb d_M_link_18 rfl (lv_at hl 0 rfl) ?_
      refine g_M_100_M X Z d_M_link_19 ?_
      refine lv_iconst (v := 1) hx hb d_M_link_22 (by decide) ?_
      refine lv_isub hx hb d_M_link_23 ?_
      obtain ⟨v_3, e_4, hf⟩ := sr_b hf
      refine sr_cSi (As := [.int x1, .int 0, .int ((u0 0 0) - 1)]) (rest := []) X Z sr_cut_0 (va_K.sub hK [] rfl) (c_M_in e_4) (cw_M_92 X.2.2.2.2.2.1 (by decide)) rfl hl rfl (Nat.le_of_ble_eq_true rfl) d_M_link_24 (fun H locs Z => ?_)
      refine lv_if_eq (tgt := 53) hx hb d_M_link_27 rfl (fun q_5 => ?_) (fun q_5 => ?_)
      · have hf := sr_it q_5 hf
        refine lv_iconst (v := -1) hx hb d_M_link_53 (by decide) ?_
        cases hf
        exact sr_reti X Z d_M_link_54
      · have hf := sr_if q_5 hf
        refine lv_iload_n hx hb d_M_link_30 rfl (lv_at hl 2 rfl) ?_
        refine lv_iconst (v := 0) hx hb d_M_link_31 (by decide) ?_
        refine lv_aload_n hx hb d_M_link_32 rfl (lv_at hl 0 rfl) ?_
        refine g_M_100_M X Z d_M_link_33 ?_
        refine lv_iconst (v := 1) hx hb d_M_link_36 (by decide) ?_
        refine lv_isub hx hb d_M_link_37 ?_
        obtain ⟨v_6, e_7, hf⟩ := sr_b hf
        refine sr_cSi (As := [.int x2, .int 0, .int ((u0 0 0) - 1)]) (rest := []) X Z sr_cut_0 (va_K.sub hK [] rfl) (c_M_in e_7) (cw_M_92 X.2.2.2.2.2.1 (by decide)) rfl hl rfl (Nat.le_of_ble_eq_true rfl) d_M_link_38 (fun H locs Z => ?_)
        refine lv_if_eq (tgt := 53) hx hb d_M_link_41 rfl (fun q_8 => ?_) (fun q_8 => ?_)
        · have hf := sr_it q_8 hf
          refine lv_iconst (v := -1) hx hb d_M_link_53 (by decide) ?_
          cases hf
          exact sr_reti X Z d_M_link_54
        · have hf := sr_if q_8 hf
          refine lv_iload_n hx hb d_M_link_44 rfl (lv_at hl 3 rfl) ?_
          refine lv_iconst (v := -1) hx hb d_M_link_45 (by decide) ?_
          refine lv_iconst (v := 4) hx hb d_M_link_46 (by decide) ?_
          obtain ⟨v_9, e_10, hf⟩ := sr_b hf
          refine sr_cSi (As := [.int x3, .int (-1), .int 4]) (rest := []) X Z sr_cut_0 (va_K.sub hK [] rfl) (c_M_in e_10) (cw_M_92 X.2.2.2.2.2.1 (by decide)) rfl hl rfl (Nat.le_of_ble_eq_true rfl) d_M_link_47 (fun H locs Z => ?_)
          refine lv_if_ne (tgt := 55) hx hb d_M_link_50 rfl (fun q_11 => ?_) (fun q_11 => ?_)
          · have hf := sr_if q_11 hf
            refine lv_iconst (v := 0) hx hb d_M_link_55 (by decide) ?_
            refine lv_istore (lv' := [(5, .int 0), (0, .ref (h 0)), (1, .int x1), (2, .int x2), (3, .int x3), (4, .int x4)]) hx hb d_M_link_56 hl (by decide) rfl (fun ls hl => ?_)
            exact k_M_link_58_it X _ Z (lv_sub hl [1, 2, 3, 4, 5, 0] rfl) hf
          · have hf := sr_it q_11 hf
            refine lv_iconst (v := -1) hx hb d_M_link_53 (by decide) ?_
            cases hf
            exact sr_reti X Z d_M_link_54
end
set_option maxHeartbeats 4000000 in
set_option maxRecDepth 100000 in
theorem c_M_link {l : Launch} {D : va_G} {h : Nat → Nat} {t : Nat → ClassId} {sz : Nat} {x1 : Int32} {x2 : Int32} {x3 : Int32} {x4 : Int32} {u0 : St} {r : Int32} {u' : St} (hf : f_M_link x1 x2 x3 x4 u0 = some (r, u')) : sr_Ci l y_M_link w_M_link (sr_rm 1 22) D (tM t) (wM h t u0) (wM h t u') sz [.ref (h 0), .int x1, .int x2, .int x3, .int x4] r := by
  refine Met.ofW (cc := b_M_link) (maxL := 6) (ret := (some .int)) (by decide) rfl ?_
  intro p e s m args below meth c s₁ B hml hv
  obtain ⟨rfl, hsz, hP, hK, hD0⟩ := hv
  subst hsz
  have X : sr_X D (tM t) b_M_link 6 R_M w_M_link p s m _ meth c (va_A (wM h t u0) s.heap.size) (some .int) := ⟨B.exec, B.bytes, hml, findClass_of_methodNamed B.named, B.notSynchronized, atoms_spec (ws := w_M_link) B.pre, hK, fun q h => Or.inr h, B.returns⟩
  have Z : sr_Z D (va_A (wM h t u0) s.heap.size) s.heap (wM h t u0) s.heap [] := ⟨hP, hD0.self, va_S.rf⟩
  have hl := lv_entry ([.ref (h 0), .int x1, .int x2, .int x3, .int x4] : List Value) (n := 6) (Nat.le_of_ble_eq_true rfl)
  rw [lg_entry_eq]
  exact k_M_link_0 X Z hl hf
/-! M_rule1 -/
theorem d_M_rule1_0 : decode b_M_rule1 0 = .ok (.iconst 0, 1) := by decide +kernel
theorem d_M_rule1_1 : decode b_M_rule1 1 = .ok (.istore_n 1, 1) := by decide +kernel
theorem d_M_rule1_2 : decode b_M_rule1 2 = .ok (.iload_n 1, 1) := by decide +kernel
theorem d_M_rule1_3 : decode b_M_rule1 3 = .ok (.aload_n 0, 1) := by decide +kernel
theorem d_M_rule1_4 : decode b_M_rule1 4 = .ok (.getfield 100, 3) := by decide +kernel
theorem d_M_rule1_7 : decode b_M_rule1 7 = .ok (.if_icmp .ge 85, 3) := by decide +kernel
theorem d_M_rule1_10 : decode b_M_rule1 10 = .ok (.aload_n 0, 1) := by decide +kernel
theorem d_M_rule1_11 : decode b_M_rule1 11 = .ok (.iload_n 1, 1) := by decide +kernel
theorem d_M_rule1_12 : decode b_M_rule1 12 = .ok (.invokevirtual 118, 3) := by decide +kernel
theorem d_M_rule1_15 : decode b_M_rule1 15 = .ok (.istore_n 2, 1) := by decide +kernel
theorem d_M_rule1_16 : decode b_M_rule1 16 = .ok (.aload_n 0, 1) := by decide +kernel
theorem d_M_rule1_17 : decode b_M_rule1 17 = .ok (.getfield 16, 3) := by decide +kernel
theorem d_M_rule1_20 : decode b_M_rule1 20 = .ok (.iload_n 1, 1) := by decide +kernel
theorem d_M_rule1_21 : decode b_M_rule1 21 = .ok (.iaload, 1) := by decide +kernel
theorem d_M_rule1_22 : decode b_M_rule1 22 = .ok (.bipush 8, 2) := by decide +kernel
theorem d_M_rule1_24 : decode b_M_rule1 24 = .ok (.if_icmp .lt 8, 3) := by decide +kernel
theorem d_M_rule1_27 : decode b_M_rule1 27 = .ok (.iload_n 2, 1) := by decide +kernel
theorem d_M_rule1_28 : decode b_M_rule1 28 = .ok (.iconst 1, 1) := by decide +kernel
theorem d_M_rule1_29 : decode b_M_rule1 29 = .ok (.if_icmp .lt 7, 3) := by decide +kernel
theorem d_M_rule1_32 : decode b_M_rule1 32 = .ok (.iconst 1, 1) := by decide +kernel
theorem d_M_rule1_33 : decode b_M_rule1 33 = .ok (.goto 4, 3) := by decide +kernel
theorem d_M_rule1_36 : decode b_M_rule1 36 = .ok (.iconst 0, 1) := by decide +kernel
theorem d_M_rule1_37 : decode b_M_rule1 37 = .ok (.istore_n 3, 1) := by decide +kernel
theorem d_M_rule1_38 : decode b_M_rule1 38 = .ok (.iload_n 3, 1) := by decide +kernel
theorem d_M_rule1_39 : decode b_M_rule1 39 = .ok (.ifCond .eq 39, 3) := by decide +kernel
theorem d_M_rule1_42 : decode b_M_rule1 42 = .ok (.aload_n 0, 1) := by decide +kernel
theorem d_M_rule1_43 : decode b_M_rule1 43 = .ok (.getfield 16, 3) := by decide +kernel
theorem d_M_rule1_46 : decode b_M_rule1 46 = .ok (.iload_n 1, 1) := by decide +kernel
theorem d_M_rule1_47 : decode b_M_rule1 47 = .ok (.iaload, 1) := by decide +kernel
theorem d_M_rule1_48 : decode b_M_rule1 48 = .ok (.bipush 10, 2) := by decide +kernel
theorem d_M_rule1_50 : decode b_M_rule1 50 = .ok (.if_icmp .ne 8, 3) := by decide +kernel
theorem d_M_rule1_53 : decode b_M_rule1 53 = .ok (.iload_n 2, 1) := by decide +kernel
theorem d_M_rule1_54 : decode b_M_rule1 54 = .ok (.iconst 2, 1) := by decide +kernel
theorem d_M_rule1_55 : decode b_M_rule1 55 = .ok (.if_icmp .gt 23, 3) := by decide +kernel
theorem d_M_rule1_58 : decode b_M_rule1 58 = .ok (.aload_n 0, 1) := by decide +kernel
theorem d_M_rule1_59 : decode b_M_rule1 59 = .ok (.getfield 16, 3) := by decide +kernel
theorem d_M_rule1_62 : decode b_M_rule1 62 = .ok (.iload_n 1, 1) := by decide +kernel
theorem d_M_rule1_63 : decode b_M_rule1 63 = .ok (.iaload, 1) := by decide +kernel
theorem d_M_rule1_64 : decode b_M_rule1 64 = .ok (.bipush 11, 2) := by decide +kernel
theorem d_M_rule1_66 : decode b_M_rule1 66 = .ok (.if_icmp .lt 8, 3) := by decide +kernel
theorem d_M_rule1_69 : decode b_M_rule1 69 = .ok (.iload_n 2, 1) := by decide +kernel
theorem d_M_rule1_70 : decode b_M_rule1 70 = .ok (.iconst 1, 1) := by decide +kernel
theorem d_M_rule1_71 : decode b_M_rule1 71 = .ok (.if_icmp .ne 7, 3) := by decide +kernel
theorem d_M_rule1_74 : decode b_M_rule1 74 = .ok (.iconst 1, 1) := by decide +kernel
theorem d_M_rule1_75 : decode b_M_rule1 75 = .ok (.goto 4, 3) := by decide +kernel
theorem d_M_rule1_78 : decode b_M_rule1 78 = .ok (.iconst 0, 1) := by decide +kernel
theorem d_M_rule1_79 : decode b_M_rule1 79 = .ok (.istore_n 3, 1) := by decide +kernel
theorem d_M_rule1_80 : decode b_M_rule1 80 = .ok (.iload_n 3, 1) := by decide +kernel
theorem d_M_rule1_81 : decode b_M_rule1 81 = .ok (.ifCond .ne 5, 3) := by decide +kernel
theorem d_M_rule1_84 : decode b_M_rule1 84 = .ok (.iconst 0, 1) := by decide +kernel
theorem d_M_rule1_85 : decode b_M_rule1 85 = .ok (.ireturn, 1) := by decide +kernel
theorem d_M_rule1_86 : decode b_M_rule1 86 = .ok (.iinc 1 1, 3) := by decide +kernel
theorem d_M_rule1_89 : decode b_M_rule1 89 = .ok (.goto (-87), 3) := by decide +kernel
theorem d_M_rule1_92 : decode b_M_rule1 92 = .ok (.aload_n 0, 1) := by decide +kernel
theorem d_M_rule1_93 : decode b_M_rule1 93 = .ok (.getfield 100, 3) := by decide +kernel
theorem d_M_rule1_96 : decode b_M_rule1 96 = .ok (.ifCond .le 7, 3) := by decide +kernel
theorem d_M_rule1_99 : decode b_M_rule1 99 = .ok (.iconst 1, 1) := by decide +kernel
theorem d_M_rule1_100 : decode b_M_rule1 100 = .ok (.goto 4, 3) := by decide +kernel
theorem d_M_rule1_103 : decode b_M_rule1 103 = .ok (.iconst 0, 1) := by decide +kernel
theorem d_M_rule1_104 : decode b_M_rule1 104 = .ok (.ireturn, 1) := by decide +kernel
section
variable {p : Program} {l : Launch} {e : Env} {s : State} {m : MethodId} {args : Array Value} {below : List Frame} {meth : Method} {c : Code} {H : Heap} {locs : List Loc} {ls : Array Slot} {D : va_G} {A : Nat → Prop} {h o : Nat → Nat} {t v : Nat → ClassId}
def f_M_rule1_79 (k2 : Int32 → Option (Int32)) (u0 : St) (x1 : Int32) (y0 : Int32) : Option (Int32) :=
  if y0 = 0 then
    some 0
  else
    k2 (x1 + 1)
set_option maxHeartbeats 4000000 in
set_option maxRecDepth 100000 in
theorem k_M_rule1_79 {k2 : Int32 → Option (Int32)} {u0 : St} {x1 : Int32} {y0 : Int32} {r : Int32} (X : sr_X D (tM t) b_M_rule1 4 R_M w_M_rule1 p s m args meth c A (some .boolean)) (hk2 : ∀ (x1 : Int32) (H : Heap) (locs : List Loc) (ls : Array Slot), sr_Z D A s.heap (wM h t u0) H locs → lv_has ls 4 [(0, .ref (h 0)), (1, .int x1)] → k2 x1 = some r → W p l e (sr_rm 1 23) s m args below meth c H locs 0 0 (sr_Qi D (tM t) below args s A (wM h t u0) r) (F0 m 2 ls [])) (Z : sr_Z D A s.heap (wM h t u0) H locs) (hl : lv_has ls 4 [(0, .ref (h 0)), (1, .int x1)]) (hf : f_M_rule1_79 k2 u0 x1 y0 = some r) : W p l e (sr_rm 1 23) s m args below meth c H locs 0 0 (sr_Qi D (tM t) below args s A (wM h t u0) r) (F0 m 79 ls [.int y0]) := by
  have hx := X.1
  have hb := X.2.1
  have hK := X.2.2.2.2.2.2.1
  unfold f_M_rule1_79 at hf
  refine lv_istore_n (lv' := [(3, .int y0), (0, .ref (h 0)), (1, .int x1)]) hx hb d_M_rule1_79 rfl hl (by decide) rfl (fun ls hl => ?_)
  refine lv_iload_n hx hb d_M_rule1_80 rfl (lv_at hl 0 rfl) ?_
  refine lv_if_ne (tgt := 86) hx hb d_M_rule1_81 rfl (fun q_9 => ?_) (fun q_9 => ?_)
  · have hf := sr_if q_9 hf
    refine lv_iinc (k := 2) (v := x1 + 1) (lv' := [(1, .int (x1 + 1)), (3, .int y0), (0, .ref (h 0))]) hx hb d_M_rule1_86 hl rfl rfl (by decide) rfl (fun ls hl => ?_)
    refine lv_goto (tgt := 2) hx hb d_M_rule1_89 rfl ?_
    exact hk2 (x1 + 1) _ _ _ Z (lv_sub hl [2, 0] rfl) hf
  · have hf := sr_it q_9 hf
    refine lv_iconst (v := 0) hx hb d_M_rule1_84 (by decide) ?_
    cases hf
    exact sr_retz X Z (by decide) d_M_rule1_85
def f_M_rule1_78 (k2 : Int32 → Option (Int32)) (u0 : St) (x1 : Int32) : Option (Int32) :=
  f_M_rule1_79 k2 u0 x1 0
set_option maxHeartbeats 4000000 in
set_option maxRecDepth 100000 in
theorem k_M_rule1_78 {k2 : Int32 → Option (Int32)} {u0 : St} {x1 : Int32} {r : Int32} (X : sr_X D (tM t) b_M_rule1 4 R_M w_M_rule1 p s m args meth c A (some .boolean)) (hk2 : ∀ (x1 : Int32) (H : Heap) (locs : List Loc) (ls : Array Slot), sr_Z D A s.heap (wM h t u0) H locs → lv_has ls 4 [(0, .ref (h 0)), (1, .int x1)] → k2 x1 = some r → W p l e (sr_rm 1 23) s m args below meth c H locs 0 0 (sr_Qi D (tM t) below args s A (wM h t u0) r) (F0 m 2 ls [])) (Z : sr_Z D A s.heap (wM h t u0) H locs) (hl : lv_has ls 4 [(0, .ref (h 0)), (1, .int x1)]) (hf : f_M_rule1_78 k2 u0 x1 = some r) : W p l e (sr_rm 1 23) s m args below meth c H locs 0 0 (sr_Qi D (tM t) below args s A (wM h t u0) r) (F0 m 78 ls []) := by
  have hx := X.1
  have hb := X.2.1
  have hK := X.2.2.2.2.2.2.1
  unfold f_M_rule1_78 at hf
  refine lv_iconst (v := 0) hx hb d_M_rule1_78 (by decide) ?_
  exact k_M_rule1_79 X hk2 Z (lv_sub hl [0, 1] rfl) hf
def f_M_rule1_74 (k2 : Int32 → Option (Int32)) (u0 : St) (x1 : Int32) : Option (Int32) :=
  f_M_rule1_79 k2 u0 x1 1
set_option maxHeartbeats 4000000 in
set_option maxRecDepth 100000 in
theorem k_M_rule1_74 {k2 : Int32 → Option (Int32)} {u0 : St} {x1 : Int32} {r : Int32} (X : sr_X D (tM t) b_M_rule1 4 R_M w_M_rule1 p s m args meth c A (some .boolean)) (hk2 : ∀ (x1 : Int32) (H : Heap) (locs : List Loc) (ls : Array Slot), sr_Z D A s.heap (wM h t u0) H locs → lv_has ls 4 [(0, .ref (h 0)), (1, .int x1)] → k2 x1 = some r → W p l e (sr_rm 1 23) s m args below meth c H locs 0 0 (sr_Qi D (tM t) below args s A (wM h t u0) r) (F0 m 2 ls [])) (Z : sr_Z D A s.heap (wM h t u0) H locs) (hl : lv_has ls 4 [(0, .ref (h 0)), (1, .int x1)]) (hf : f_M_rule1_74 k2 u0 x1 = some r) : W p l e (sr_rm 1 23) s m args below meth c H locs 0 0 (sr_Qi D (tM t) below args s A (wM h t u0) r) (F0 m 74 ls []) := by
  have hx := X.1
  have hb := X.2.1
  have hK := X.2.2.2.2.2.2.1
  unfold f_M_rule1_74 at hf
  refine lv_iconst (v := 1) hx hb d_M_rule1_74 (by decide) ?_
  refine lv_goto (tgt := 79) hx hb d_M_rule1_75 rfl ?_
  exact k_M_rule1_79 X hk2 Z (lv_sub hl [0, 1] rfl) hf
def f_M_rule1_58 (k2 : Int32 → Option (Int32)) (u0 : St) (x1 : Int32) (x2 : Int32) : Option (Int32) :=
  (sr_ald 24 (u0 3) x1).bind fun v_13 =>
  if v_13 < 11 then
    f_M_rule1_74 k2 u0 x1
  else
    if x2 = 1 then
      f_M_rule1_74 k2 u0 x1
    else
      f_M_rule1_78 k2 u0 x1
set_option maxHeartbeats 4000000 in
set_option maxRecDepth 100000 in
theorem k_M_rule1_58 {k2 : Int32 → Option (Int32)} {u0 : St} {x1 : Int32} {x2 : Int32} {r : Int32} (X : sr_X D (tM t) b_M_rule1 4 R_M w_M_rule1 p s m args meth c A (some .boolean)) (hk2 : ∀ (x1 : Int32) (H : Heap) (locs : List Loc) (ls : Array Slot), sr_Z D A s.heap (wM h t u0) H locs → lv_has ls 4 [(0, .ref (h 0)), (1, .int x1)] → k2 x1 = some r → W p l e (sr_rm 1 23) s m args below meth c H locs 0 0 (sr_Qi D (tM t) below args s A (wM h t u0) r) (F0 m 2 ls [])) (Z : sr_Z D A s.heap (wM h t u0) H locs) (hl : lv_has ls 4 [(0, .ref (h 0)), (1, .int x1), (2, .int x2)]) (hf : f_M_rule1_58 k2 u0 x1 x2 = some r) : W p l e (sr_rm 1 23) s m args below meth c H locs 0 0 (sr_Qi D (tM t) below args s A (wM h t u0) r) (F0 m 58 ls []) := by
  have hx := X.1
  have hb := X.2.1
  have hK := X.2.2.2.2.2.2.1
  unfold f_M_rule1_58 at hf
  refine lv_aload_n hx hb d_M_rule1_58 rfl (lv_at hl 0 rfl) ?_
  refine g_M_16_M X Z d_M_rule1_59 ?_
  refine lv_iload_n hx hb d_M_rule1_62 rfl (lv_at hl 1 rfl) ?_
  obtain ⟨v_13, e_14, hf⟩ := sr_b hf
  refine sr_iald hx hb hK Z 3 2 rfl rfl e_14 d_M_rule1_63 ?_
  refine lv_bipush (v := 11) hx hb d_M_rule1_64 (by decide) ?_
  refine lv_icmp_lt (tgt := 74) hx hb d_M_rule1_66 rfl (fun q_15 => ?_) (fun q_15 => ?_)
  · have hf := sr_it q_15 hf
    exact k_M_rule1_74 X hk2 Z (lv_sub hl [0, 1] rfl) hf
  · have hf := sr_if q_15 hf
    refine lv_iload_n hx hb d_M_rule1_69 rfl (lv_at hl 2 rfl) ?_
    refine lv_iconst (v := 1) hx hb d_M_rule1_70 (by decide) ?_
    refine lv_icmp_ne (tgt := 78) hx hb d_M_rule1_71 rfl (fun q_16 => ?_) (fun q_16 => ?_)
    · have hf := sr_if q_16 hf
      exact k_M_rule1_78 X hk2 Z (lv_sub hl [0, 1] rfl) hf
    · have hf := sr_it q_16 hf
      exact k_M_rule1_74 X hk2 Z (lv_sub hl [0, 1] rfl) hf
def f_M_rule1_37 (k2 : Int32 → Option (Int32)) (u0 : St) (x1 : Int32) (x2 : Int32) (y0 : Int32) : Option (Int32) :=
  if y0 = 0 then
    f_M_rule1_78 k2 u0 x1
  else
    (sr_ald 24 (u0 3) x1).bind fun v_10 =>
    if v_10 = 10 then
      if 2 < x2 then
        f_M_rule1_78 k2 u0 x1
      else
        f_M_rule1_58 k2 u0 x1 x2
    else
      f_M_rule1_58 k2 u0 x1 x2
set_option maxHeartbeats 4000000 in
set_option maxRecDepth 100000 in
theorem k_M_rule1_37 {k2 : Int32 → Option (Int32)} {u0 : St} {x1 : Int32} {x2 : Int32} {y0 : Int32} {r : Int32} (X : sr_X D (tM t) b_M_rule1 4 R_M w_M_rule1 p s m args meth c A (some .boolean)) (hk2 : ∀ (x1 : Int32) (H : Heap) (locs : List Loc) (ls : Array Slot), sr_Z D A s.heap (wM h t u0) H locs → lv_has ls 4 [(0, .ref (h 0)), (1, .int x1)] → k2 x1 = some r → W p l e (sr_rm 1 23) s m args below meth c H locs 0 0 (sr_Qi D (tM t) below args s A (wM h t u0) r) (F0 m 2 ls [])) (Z : sr_Z D A s.heap (wM h t u0) H locs) (hl : lv_has ls 4 [(0, .ref (h 0)), (1, .int x1), (2, .int x2)]) (hf : f_M_rule1_37 k2 u0 x1 x2 y0 = some r) : W p l e (sr_rm 1 23) s m args below meth c H locs 0 0 (sr_Qi D (tM t) below args s A (wM h t u0) r) (F0 m 37 ls [.int y0]) := by
  have hx := X.1
  have hb := X.2.1
  have hK := X.2.2.2.2.2.2.1
  unfold f_M_rule1_37 at hf
  refine lv_istore_n (lv' := [(3, .int y0), (0, .ref (h 0)), (1, .int x1), (2, .int x2)]) hx hb d_M_rule1_37 rfl hl (by decide) rfl (fun ls hl => ?_)
  refine lv_iload_n hx hb d_M_rule1_38 rfl (lv_at hl 0 rfl) ?_
  refine lv_if_eq (tgt := 78) hx hb d_M_rule1_39 rfl (fun q_8 => ?_) (fun q_8 => ?_)
  · have hf := sr_it q_8 hf
    exact k_M_rule1_78 X hk2 Z (lv_sub hl [1, 2] rfl) hf
  · have hf := sr_if q_8 hf
    refine lv_aload_n hx hb d_M_rule1_42 rfl (lv_at hl 1 rfl) ?_
    refine g_M_16_M X Z d_M_rule1_43 ?_
    refine lv_iload_n hx hb d_M_rule1_46 rfl (lv_at hl 2 rfl) ?_
    obtain ⟨v_10, e_11, hf⟩ := sr_b hf
    refine sr_iald hx hb hK Z 3 2 rfl rfl e_11 d_M_rule1_47 ?_
    refine lv_bipush (v := 10) hx hb d_M_rule1_48 (by decide) ?_
    refine lv_icmp_ne (tgt := 58) hx hb d_M_rule1_50 rfl (fun q_12 => ?_) (fun q_12 => ?_)
    · have hf := sr_if q_12 hf
      exact k_M_rule1_58 X hk2 Z (lv_sub hl [1, 2, 3] rfl) hf
    · have hf := sr_it q_12 hf
      refine lv_iload_n hx hb d_M_rule1_53 rfl (lv_at hl 3 rfl) ?_
      refine lv_iconst (v := 2) hx hb d_M_rule1_54 (by decide) ?_
      refine lv_icmp_gt (tgt := 78) hx hb d_M_rule1_55 rfl (fun q_17 => ?_) (fun q_17 => ?_)
      · have hf := sr_it q_17 hf
        exact k_M_rule1_78 X hk2 Z (lv_sub hl [1, 2] rfl) hf
      · have hf := sr_if q_17 hf
        exact k_M_rule1_58 X hk2 Z (lv_sub hl [1, 2, 3] rfl) hf
def f_M_rule1_32 (k2 : Int32 → Option (Int32)) (u0 : St) (x1 : Int32) (x2 : Int32) : Option (Int32) :=
  f_M_rule1_37 k2 u0 x1 x2 1
set_option maxHeartbeats 4000000 in
set_option maxRecDepth 100000 in
theorem k_M_rule1_32 {k2 : Int32 → Option (Int32)} {u0 : St} {x1 : Int32} {x2 : Int32} {r : Int32} (X : sr_X D (tM t) b_M_rule1 4 R_M w_M_rule1 p s m args meth c A (some .boolean)) (hk2 : ∀ (x1 : Int32) (H : Heap) (locs : List Loc) (ls : Array Slot), sr_Z D A s.heap (wM h t u0) H locs → lv_has ls 4 [(0, .ref (h 0)), (1, .int x1)] → k2 x1 = some r → W p l e (sr_rm 1 23) s m args below meth c H locs 0 0 (sr_Qi D (tM t) below args s A (wM h t u0) r) (F0 m 2 ls [])) (Z : sr_Z D A s.heap (wM h t u0) H locs) (hl : lv_has ls 4 [(0, .ref (h 0)), (1, .int x1), (2, .int x2)]) (hf : f_M_rule1_32 k2 u0 x1 x2 = some r) : W p l e (sr_rm 1 23) s m args below meth c H locs 0 0 (sr_Qi D (tM t) below args s A (wM h t u0) r) (F0 m 32 ls []) := by
  have hx := X.1
  have hb := X.2.1
  have hK := X.2.2.2.2.2.2.1
  unfold f_M_rule1_32 at hf
  refine lv_iconst (v := 1) hx hb d_M_rule1_32 (by decide) ?_
  refine lv_goto (tgt := 37) hx hb d_M_rule1_33 rfl ?_
  exact k_M_rule1_37 X hk2 Z (lv_sub hl [0, 1, 2] rfl) hf
def f_M_rule1_2 (k2 : Int32 → Option (Int32)) (u0 : St) (x1 : Int32) : Option (Int32) :=
  if (u0 0 0) ≤ x1 then
    if (u0 0 0) ≤ 0 then
      some 0
    else
      some 1
  else
    (f_M_children u0 x1).bind fun v_3 =>
    (sr_ald 24 (u0 3) x1).bind fun v_5 =>
    if v_5 < 8 then
      f_M_rule1_32 k2 u0 x1 v_3
    else
      if v_3 < 1 then
        f_M_rule1_37 k2 u0 x1 v_3 0
      else
        f_M_rule1_32 k2 u0 x1 v_3
set_option maxHeartbeats 4000000 in
set_option maxRecDepth 100000 in
theorem k_M_rule1_2 {k2 : Int32 → Option (Int32)} {u0 : St} {x1 : Int32} {r : Int32} (X : sr_X D (tM t) b_M_rule1 4 R_M w_M_rule1 p s m args meth c A (some .boolean)) (hk2 : ∀ (x1 : Int32) (H : Heap) (locs : List Loc) (ls : Array Slot), sr_Z D A s.heap (wM h t u0) H locs → lv_has ls 4 [(0, .ref (h 0)), (1, .int x1)] → k2 x1 = some r → W p l e (sr_rm 1 23) s m args below meth c H locs 0 0 (sr_Qi D (tM t) below args s A (wM h t u0) r) (F0 m 2 ls [])) (Z : sr_Z D A s.heap (wM h t u0) H locs) (hl : lv_has ls 4 [(0, .ref (h 0)), (1, .int x1)]) (hf : f_M_rule1_2 k2 u0 x1 = some r) : W p l e (sr_rm 1 23) s m args below meth c H locs 0 0 (sr_Qi D (tM t) below args s A (wM h t u0) r) (F0 m 2 ls []) := by
  have hx := X.1
  have hb := X.2.1
  have hK := X.2.2.2.2.2.2.1
  unfold f_M_rule1_2 at hf
  refine lv_iload_n hx hb d_M_rule1_2 rfl (lv_at hl 1 rfl) ?_
  refine lv_aload_n hx hb d_M_rule1_3 rfl (lv_at hl 0 rfl) ?_
  refine g_M_100_M X Z d_M_rule1_4 ?_
  refine lv_icmp_ge (tgt := 92) hx hb d_M_rule1_7 rfl (fun q_1 => ?_) (fun q_1 => ?_)
  · have hf := sr_it q_1 hf
    refine lv_aload_n hx hb d_M_rule1_92 rfl (lv_at hl 0 rfl) ?_
    refine g_M_100_M X Z d_M_rule1_93 ?_
    refine lv_if_le (tgt := 103) hx hb d_M_rule1_96 rfl (fun q_2 => ?_) (fun q_2 => ?_)
    · have hf := sr_it q_2 hf
      refine lv_iconst (v := 0) hx hb d_M_rule1_103 (by decide) ?_
      cases hf
      exact sr_retz X Z (by decide) d_M_rule1_104
    · have hf := sr_if q_2 hf
      refine lv_iconst (v := 1) hx hb d_M_rule1_99 (by decide) ?_
      refine lv_goto (tgt := 104) hx hb d_M_rule1_100 rfl ?_
      cases hf
      exact sr_retz X Z (by decide) d_M_rule1_104
  · have hf := sr_if q_1 hf
    refine lv_aload_n hx hb d_M_rule1_10 rfl (lv_at hl 0 rfl) ?_
    refine lv_iload_n hx hb d_M_rule1_11 rfl (lv_at hl 1 rfl) ?_
    obtain ⟨v_3, e_4, hf⟩ := sr_b hf
    refine sr_cVi (As := [.int x1]) (rest := []) X Z sr_cut_self hK (c_M_children e_4) (cw_M_118 X.2.2.2.2.2.1 (by decide)) 0 rfl rfl rfl hl rfl (Nat.le_of_ble_eq_true rfl) d_M_rule1_12 (fun H locs Z => ?_)
    refine lv_istore_n (lv' := [(2, .int v_3), (0, .ref (h 0)), (1, .int x1)]) hx hb d_M_rule1_15 rfl hl (by decide) rfl (fun ls hl => ?_)
    refine lv_aload_n hx hb d_M_rule1_16 rfl (lv_at hl 1 rfl) ?_
    refine g_M_16_M X Z d_M_rule1_17 ?_
    refine lv_iload_n hx hb d_M_rule1_20 rfl (lv_at hl 2 rfl) ?_
    obtain ⟨v_5, e_6, hf⟩ := sr_b hf
    refine sr_iald hx hb hK Z 3 2 rfl rfl e_6 d_M_rule1_21 ?_
    refine lv_bipush (v := 8) hx hb d_M_rule1_22 (by decide) ?_
    refine lv_icmp_lt (tgt := 32) hx hb d_M_rule1_24 rfl (fun q_7 => ?_) (fun q_7 => ?_)
    · have hf := sr_it q_7 hf
      exact k_M_rule1_32 X hk2 Z (lv_sub hl [1, 2, 0] rfl) hf
    · have hf := sr_if q_7 hf
      refine lv_iload_n hx hb d_M_rule1_27 rfl (lv_at hl 0 rfl) ?_
      refine lv_iconst (v := 1) hx hb d_M_rule1_28 (by decide) ?_
      refine lv_icmp_lt (tgt := 36) hx hb d_M_rule1_29 rfl (fun q_18 => ?_) (fun q_18 => ?_)
      · have hf := sr_it q_18 hf
        refine lv_iconst (v := 0) hx hb d_M_rule1_36 (by decide) ?_
        exact k_M_rule1_37 X hk2 Z (lv_sub hl [1, 2, 0] rfl) hf
      · have hf := sr_if q_18 hf
        exact k_M_rule1_32 X hk2 Z (lv_sub hl [1, 2, 0] rfl) hf
def f_M_rule1_2_it (u0 : St) : Nat → Int32 → Option (Int32)
  | 0 => fun _ => none
  | n + 1 => fun x1 => f_M_rule1_2 (f_M_rule1_2_it u0 n) u0 x1
set_option maxHeartbeats 4000000 in
set_option maxRecDepth 100000 in
theorem k_M_rule1_2_it {u0 : St} {r : Int32} (X : sr_X D (tM t) b_M_rule1 4 R_M w_M_rule1 p s m args meth c A (some .boolean)) (n : Nat) : ∀ {x1 : Int32} {H : Heap} {locs : List Loc} {ls : Array Slot}, sr_Z D A s.heap (wM h t u0) H locs → lv_has ls 4 [(0, .ref (h 0)), (1, .int x1)] → f_M_rule1_2_it u0 n x1 = some r → W p l e (sr_rm 1 23) s m args below meth c H locs 0 0 (sr_Qi D (tM t) below args s A (wM h t u0) r) (F0 m 2 ls []) := by
  induction n with
  | zero => intro x1 H locs ls Z hl hf; exact absurd hf (by simp [f_M_rule1_2_it])
  | succ n ih =>
    intro x1 H locs ls Z hl hf
    exact k_M_rule1_2 X (fun x1 H locs ls Z hl hf => ih Z hl hf) Z hl hf
def f_M_rule1 (u0 : St) : Option (Int32) :=
  f_M_rule1_2_it u0 60 0
set_option maxHeartbeats 4000000 in
set_option maxRecDepth 100000 in
theorem k_M_rule1_0 {u0 : St} {r : Int32} (X : sr_X D (tM t) b_M_rule1 4 R_M w_M_rule1 p s m args meth c A (some .boolean)) (Z : sr_Z D A s.heap (wM h t u0) H locs) (hl : lv_has ls 4 [(0, .ref (h 0))]) (hf : f_M_rule1 u0 = some r) : W p l e (sr_rm 1 23) s m args below meth c H locs 0 0 (sr_Qi D (tM t) below args s A (wM h t u0) r) (F0 m 0 ls []) := by
  have hx := X.1
  have hb := X.2.1
  have hK := X.2.2.2.2.2.2.1
  unfold f_M_rule1 at hf
  refine lv_iconst (v := 0) hx hb d_M_rule1_0 (by decide) ?_
  refine lv_istore_n (lv' := [(1, .int 0), (0, .ref (h 0))]) hx hb d_M_rule1_1 rfl hl (by decide) rfl (fun ls hl => ?_)
  exact k_M_rule1_2_it X _ Z (lv_sub hl [1, 0] rfl) hf
end
set_option maxHeartbeats 4000000 in
set_option maxRecDepth 100000 in
theorem c_M_rule1 {l : Launch} {D : va_G} {h : Nat → Nat} {t : Nat → ClassId} {sz : Nat} {u0 : St} {r : Int32} (hf : f_M_rule1 u0 = some r) : sr_Ci l y_M_rule1 w_M_rule1 (sr_rm 1 23) D (tM t) (wM h t u0) (wM h t u0) sz [.ref (h 0)] r := by
  refine Met.ofW (cc := b_M_rule1) (maxL := 4) (ret := (some .boolean)) (by decide) rfl ?_
  intro p e s m args below meth c s₁ B hml hv
  obtain ⟨rfl, hsz, hP, hK, hD0⟩ := hv
  subst hsz
  have X : sr_X D (tM t) b_M_rule1 4 R_M w_M_rule1 p s m _ meth c (va_A (wM h t u0) s.heap.size) (some .boolean) := ⟨B.exec, B.bytes, hml, findClass_of_methodNamed B.named, B.notSynchronized, atoms_spec (ws := w_M_rule1) B.pre, hK, fun q h => Or.inr h, B.returns⟩
  have Z : sr_Z D (va_A (wM h t u0) s.heap.size) s.heap (wM h t u0) s.heap [] := ⟨hP, hD0.self, va_S.rf⟩
  have hl := lv_entry ([.ref (h 0)] : List Value) (n := 4) (Nat.le_of_ble_eq_true rfl)
  rw [lg_entry_eq]
  exact k_M_rule1_0 X Z hl hf
/-! M_rule2 -/
theorem d_M_rule2_0 : decode b_M_rule2 0 = .ok (.iconst 0, 1) := by decide +kernel
theorem d_M_rule2_1 : decode b_M_rule2 1 = .ok (.istore_n 1, 1) := by decide +kernel
theorem d_M_rule2_2 : decode b_M_rule2 2 = .ok (.iload_n 1, 1) := by decide +kernel
theorem d_M_rule2_3 : decode b_M_rule2 3 = .ok (.aload_n 0, 1) := by decide +kernel
theorem d_M_rule2_4 : decode b_M_rule2 4 = .ok (.getfield 100, 3) := by decide +kernel
theorem d_M_rule2_7 : decode b_M_rule2 7 = .ok (.if_icmp .ge 30, 3) := by decide +kernel
theorem d_M_rule2_10 : decode b_M_rule2 10 = .ok (.aload_n 0, 1) := by decide +kernel
theorem d_M_rule2_11 : decode b_M_rule2 11 = .ok (.getfield 16, 3) := by decide +kernel
theorem d_M_rule2_14 : decode b_M_rule2 14 = .ok (.iload_n 1, 1) := by decide +kernel
theorem d_M_rule2_15 : decode b_M_rule2 15 = .ok (.iaload, 1) := by decide +kernel
theorem d_M_rule2_16 : decode b_M_rule2 16 = .ok (.bipush 12, 2) := by decide +kernel
theorem d_M_rule2_18 : decode b_M_rule2 18 = .ok (.if_icmp .ne 13, 3) := by decide +kernel
theorem d_M_rule2_21 : decode b_M_rule2 21 = .ok (.aload_n 0, 1) := by decide +kernel
theorem d_M_rule2_22 : decode b_M_rule2 22 = .ok (.iload_n 1, 1) := by decide +kernel
theorem d_M_rule2_23 : decode b_M_rule2 23 = .ok (.invokevirtual 122, 3) := by decide +kernel
theorem d_M_rule2_26 : decode b_M_rule2 26 = .ok (.ifCond .lt 5, 3) := by decide +kernel
theorem d_M_rule2_29 : decode b_M_rule2 29 = .ok (.iconst 0, 1) := by decide +kernel
theorem d_M_rule2_30 : decode b_M_rule2 30 = .ok (.ireturn, 1) := by decide +kernel
theorem d_M_rule2_31 : decode b_M_rule2 31 = .ok (.iinc 1 1, 3) := by decide +kernel
theorem d_M_rule2_34 : decode b_M_rule2 34 = .ok (.goto (-32), 3) := by decide +kernel
theorem d_M_rule2_37 : decode b_M_rule2 37 = .ok (.iconst 1, 1) := by decide +kernel
theorem d_M_rule2_38 : decode b_M_rule2 38 = .ok (.ireturn, 1) := by decide +kernel
section
variable {p : Program} {l : Launch} {e : Env} {s : State} {m : MethodId} {args : Array Value} {below : List Frame} {meth : Method} {c : Code} {H : Heap} {locs : List Loc} {ls : Array Slot} {D : va_G} {A : Nat → Prop} {h o : Nat → Nat} {t v : Nat → ClassId}
def f_M_rule2_31 (k2 : Int32 → Option (Int32)) (u0 : St) (x1 : Int32) : Option (Int32) :=
  k2 (x1 + 1)
set_option maxHeartbeats 4000000 in
set_option maxRecDepth 100000 in
theorem k_M_rule2_31 {k2 : Int32 → Option (Int32)} {u0 : St} {x1 : Int32} {r : Int32} (X : sr_X D (tM t) b_M_rule2 2 R_M w_M_rule2 p s m args meth c A (some .boolean)) (hk2 : ∀ (x1 : Int32) (H : Heap) (locs : List Loc) (ls : Array Slot), sr_Z D A s.heap (wM h t u0) H locs → lv_has ls 2 [(0, .ref (h 0)), (1, .int x1)] → k2 x1 = some r → W p l e (sr_rm 1 23) s m args below meth c H locs 0 0 (sr_Qi D (tM t) below args s A (wM h t u0) r) (F0 m 2 ls [])) (Z : sr_Z D A s.heap (wM h t u0) H locs) (hl : lv_has ls 2 [(0, .ref (h 0)), (1, .int x1)]) (hf : f_M_rule2_31 k2 u0 x1 = some r) : W p l e (sr_rm 1 23) s m args below meth c H locs 0 0 (sr_Qi D (tM t) below args s A (wM h t u0) r) (F0 m 31 ls []) := by
  have hx := X.1
  have hb := X.2.1
  have hK := X.2.2.2.2.2.2.1
  unfold f_M_rule2_31 at hf
  refine lv_iinc (k := 1) (v := x1 + 1) (lv' := [(1, .int (x1 + 1)), (0, .ref (h 0))]) hx hb d_M_rule2_31 hl rfl rfl (by decide) rfl (fun ls hl => ?_)
  refine lv_goto (tgt := 2) hx hb d_M_rule2_34 rfl ?_
  exact hk2 (x1 + 1) _ _ _ Z (lv_sub hl [1, 0] rfl) hf
def f_M_rule2_2 (k2 : Int32 → Option (Int32)) (u0 : St) (x1 : Int32) : Option (Int32) :=
  if (u0 0 0) ≤ x1 then
    some 1
  else
    (sr_ald 24 (u0 3) x1).bind fun v_2 =>
    if v_2 = 12 then
      (f_M_handler u0 x1).bind fun v_5 =>
      if v_5 < 0 then
        f_M_rule2_31 k2 u0 x1
      else
        some 0
    else
      f_M_rule2_31 k2 u0 x1
set_option maxHeartbeats 4000000 in
set_option maxRecDepth 100000 in
theorem k_M_rule2_2 {k2 : Int32 → Option (Int32)} {u0 : St} {x1 : Int32} {r : Int32} (X : sr_X D (tM t) b_M_rule2 2 R_M w_M_rule2 p s m args meth c A (some .boolean)) (hk2 : ∀ (x1 : Int32) (H : Heap) (locs : List Loc) (ls : Array Slot), sr_Z D A s.heap (wM h t u0) H locs → lv_has ls 2 [(0, .ref (h 0)), (1, .int x1)] → k2 x1 = some r → W p l e (sr_rm 1 23) s m args below meth c H locs 0 0 (sr_Qi D (tM t) below args s A (wM h t u0) r) (F0 m 2 ls [])) (Z : sr_Z D A s.heap (wM h t u0) H locs) (hl : lv_has ls 2 [(0, .ref (h 0)), (1, .int x1)]) (hf : f_M_rule2_2 k2 u0 x1 = some r) : W p l e (sr_rm 1 23) s m args below meth c H locs 0 0 (sr_Qi D (tM t) below args s A (wM h t u0) r) (F0 m 2 ls []) := by
  have hx := X.1
  have hb := X.2.1
  have hK := X.2.2.2.2.2.2.1
  unfold f_M_rule2_2 at hf
  refine lv_iload_n hx hb d_M_rule2_2 rfl (lv_at hl 1 rfl) ?_
  refine lv_aload_n hx hb d_M_rule2_3 rfl (lv_at hl 0 rfl) ?_
  refine g_M_100_M X Z d_M_rule2_4 ?_
  refine lv_icmp_ge (tgt := 37) hx hb d_M_rule2_7 rfl (fun q_1 => ?_) (fun q_1 => ?_)
  · have hf := sr_it q_1 hf
    refine lv_iconst (v := 1) hx hb d_M_rule2_37 (by decide) ?_
    cases hf
    exact sr_retz X Z (by decide) d_M_rule2_38
  · have hf := sr_if q_1 hf
    refine lv_aload_n hx hb d_M_rule2_10 rfl (lv_at hl 0 rfl) ?_
    refine g_M_16_M X Z d_M_rule2_11 ?_
    refine lv_iload_n hx hb d_M_rule2_14 rfl (lv_at hl 1 rfl) ?_
    obtain ⟨v_2, e_3, hf⟩ := sr_b hf
    refine sr_iald hx hb hK Z 3 2 rfl rfl e_3 d_M_rule2_15 ?_
    refine lv_bipush (v := 12) hx hb d_M_rule2_16 (by decide) ?_
    refine lv_icmp_ne (tgt := 31) hx hb d_M_rule2_18 rfl (fun q_4 => ?_) (fun q_4 => ?_)
    · have hf := sr_if q_4 hf
      exact k_M_rule2_31 X hk2 Z (lv_sub hl [0, 1] rfl) hf
    · have hf := sr_it q_4 hf
      refine lv_aload_n hx hb d_M_rule2_21 rfl (lv_at hl 0 rfl) ?_
      refine lv_iload_n hx hb d_M_rule2_22 rfl (lv_at hl 1 rfl) ?_
      obtain ⟨v_5, e_6, hf⟩ := sr_b hf
      refine sr_cVi (As := [.int x1]) (rest := []) X Z sr_cut_self hK (c_M_handler e_6) (cw_M_122 X.2.2.2.2.2.1 (by decide)) 0 rfl rfl rfl hl rfl (Nat.le_of_ble_eq_true rfl) d_M_rule2_23 (fun H locs Z => ?_)
      refine lv_if_lt (tgt := 31) hx hb d_M_rule2_26 rfl (fun q_7 => ?_) (fun q_7 => ?_)
      · have hf := sr_it q_7 hf
        exact k_M_rule2_31 X hk2 Z (lv_sub hl [0, 1] rfl) hf
      · have hf := sr_if q_7 hf
        refine lv_iconst (v := 0) hx hb d_M_rule2_29 (by decide) ?_
        cases hf
        exact sr_retz X Z (by decide) d_M_rule2_30
def f_M_rule2_2_it (u0 : St) : Nat → Int32 → Option (Int32)
  | 0 => fun _ => none
  | n + 1 => fun x1 => f_M_rule2_2 (f_M_rule2_2_it u0 n) u0 x1
set_option maxHeartbeats 4000000 in
set_option maxRecDepth 100000 in
theorem k_M_rule2_2_it {u0 : St} {r : Int32} (X : sr_X D (tM t) b_M_rule2 2 R_M w_M_rule2 p s m args meth c A (some .boolean)) (n : Nat) : ∀ {x1 : Int32} {H : Heap} {locs : List Loc} {ls : Array Slot}, sr_Z D A s.heap (wM h t u0) H locs → lv_has ls 2 [(0, .ref (h 0)), (1, .int x1)] → f_M_rule2_2_it u0 n x1 = some r → W p l e (sr_rm 1 23) s m args below meth c H locs 0 0 (sr_Qi D (tM t) below args s A (wM h t u0) r) (F0 m 2 ls []) := by
  induction n with
  | zero => intro x1 H locs ls Z hl hf; exact absurd hf (by simp [f_M_rule2_2_it])
  | succ n ih =>
    intro x1 H locs ls Z hl hf
    exact k_M_rule2_2 X (fun x1 H locs ls Z hl hf => ih Z hl hf) Z hl hf
def f_M_rule2 (u0 : St) : Option (Int32) :=
  f_M_rule2_2_it u0 60 0
set_option maxHeartbeats 4000000 in
set_option maxRecDepth 100000 in
theorem k_M_rule2_0 {u0 : St} {r : Int32} (X : sr_X D (tM t) b_M_rule2 2 R_M w_M_rule2 p s m args meth c A (some .boolean)) (Z : sr_Z D A s.heap (wM h t u0) H locs) (hl : lv_has ls 2 [(0, .ref (h 0))]) (hf : f_M_rule2 u0 = some r) : W p l e (sr_rm 1 23) s m args below meth c H locs 0 0 (sr_Qi D (tM t) below args s A (wM h t u0) r) (F0 m 0 ls []) := by
  have hx := X.1
  have hb := X.2.1
  have hK := X.2.2.2.2.2.2.1
  unfold f_M_rule2 at hf
  refine lv_iconst (v := 0) hx hb d_M_rule2_0 (by decide) ?_
  refine lv_istore_n (lv' := [(1, .int 0), (0, .ref (h 0))]) hx hb d_M_rule2_1 rfl hl (by decide) rfl (fun ls hl => ?_)
  exact k_M_rule2_2_it X _ Z (lv_sub hl [1, 0] rfl) hf
end
set_option maxHeartbeats 4000000 in
set_option maxRecDepth 100000 in
theorem c_M_rule2 {l : Launch} {D : va_G} {h : Nat → Nat} {t : Nat → ClassId} {sz : Nat} {u0 : St} {r : Int32} (hf : f_M_rule2 u0 = some r) : sr_Ci l y_M_rule2 w_M_rule2 (sr_rm 1 23) D (tM t) (wM h t u0) (wM h t u0) sz [.ref (h 0)] r := by
  refine Met.ofW (cc := b_M_rule2) (maxL := 2) (ret := (some .boolean)) (by decide) rfl ?_
  intro p e s m args below meth c s₁ B hml hv
  obtain ⟨rfl, hsz, hP, hK, hD0⟩ := hv
  subst hsz
  have X : sr_X D (tM t) b_M_rule2 2 R_M w_M_rule2 p s m _ meth c (va_A (wM h t u0) s.heap.size) (some .boolean) := ⟨B.exec, B.bytes, hml, findClass_of_methodNamed B.named, B.notSynchronized, atoms_spec (ws := w_M_rule2) B.pre, hK, fun q h => Or.inr h, B.returns⟩
  have Z : sr_Z D (va_A (wM h t u0) s.heap.size) s.heap (wM h t u0) s.heap [] := ⟨hP, hD0.self, va_S.rf⟩
  have hl := lv_entry ([.ref (h 0)] : List Value) (n := 2) (Nat.le_of_ble_eq_true rfl)
  rw [lg_entry_eq]
  exact k_M_rule2_0 X Z hl hf
/-! M_rule3 -/
theorem d_M_rule3_0 : decode b_M_rule3 0 = .ok (.iconst 0, 1) := by decide +kernel
theorem d_M_rule3_1 : decode b_M_rule3 1 = .ok (.istore_n 1, 1) := by decide +kernel
theorem d_M_rule3_2 : decode b_M_rule3 2 = .ok (.iload_n 1, 1) := by decide +kernel
theorem d_M_rule3_3 : decode b_M_rule3 3 = .ok (.aload_n 0, 1) := by decide +kernel
theorem d_M_rule3_4 : decode b_M_rule3 4 = .ok (.getfield 100, 3) := by decide +kernel
theorem d_M_rule3_7 : decode b_M_rule3 7 = .ok (.if_icmp .ge 56, 3) := by decide +kernel
theorem d_M_rule3_10 : decode b_M_rule3 10 = .ok (.aload_n 0, 1) := by decide +kernel
theorem d_M_rule3_11 : decode b_M_rule3 11 = .ok (.iload_n 1, 1) := by decide +kernel
theorem d_M_rule3_12 : decode b_M_rule3 12 = .ok (.invokevirtual 122, 3) := by decide +kernel
theorem d_M_rule3_15 : decode b_M_rule3 15 = .ok (.istore_n 2, 1) := by decide +kernel
theorem d_M_rule3_16 : decode b_M_rule3 16 = .ok (.aload_n 0, 1) := by decide +kernel
theorem d_M_rule3_17 : decode b_M_rule3 17 = .ok (.getfield 16, 3) := by decide +kernel
theorem d_M_rule3_20 : decode b_M_rule3 20 = .ok (.iload_n 1, 1) := by decide +kernel
theorem d_M_rule3_21 : decode b_M_rule3 21 = .ok (.iaload, 1) := by decide +kernel
theorem d_M_rule3_22 : decode b_M_rule3 22 = .ok (.iconst 4, 1) := by decide +kernel
theorem d_M_rule3_23 : decode b_M_rule3 23 = .ok (.if_icmp .ne 17, 3) := by decide +kernel
theorem d_M_rule3_26 : decode b_M_rule3 26 = .ok (.iload_n 2, 1) := by decide +kernel
theorem d_M_rule3_27 : decode b_M_rule3 27 = .ok (.ifCond .lt 28, 3) := by decide +kernel
theorem d_M_rule3_30 : decode b_M_rule3 30 = .ok (.aload_n 0, 1) := by decide +kernel
theorem d_M_rule3_31 : decode b_M_rule3 31 = .ok (.getfield 13, 3) := by decide +kernel
theorem d_M_rule3_34 : decode b_M_rule3 34 = .ok (.iload_n 2, 1) := by decide +kernel
theorem d_M_rule3_35 : decode b_M_rule3 35 = .ok (.iaload, 1) := by decide +kernel
theorem d_M_rule3_36 : decode b_M_rule3 36 = .ok (.iconst 1, 1) := by decide +kernel
theorem d_M_rule3_37 : decode b_M_rule3 37 = .ok (.if_icmp .ne 18, 3) := by decide +kernel
theorem d_M_rule3_40 : decode b_M_rule3 40 = .ok (.aload_n 0, 1) := by decide +kernel
theorem d_M_rule3_41 : decode b_M_rule3 41 = .ok (.getfield 16, 3) := by decide +kernel
theorem d_M_rule3_44 : decode b_M_rule3 44 = .ok (.iload_n 1, 1) := by decide +kernel
theorem d_M_rule3_45 : decode b_M_rule3 45 = .ok (.iaload, 1) := by decide +kernel
theorem d_M_rule3_46 : decode b_M_rule3 46 = .ok (.bipush 7, 2) := by decide +kernel
theorem d_M_rule3_48 : decode b_M_rule3 48 = .ok (.if_icmp .ne 9, 3) := by decide +kernel
theorem d_M_rule3_51 : decode b_M_rule3 51 = .ok (.iload_n 2, 1) := by decide +kernel
theorem d_M_rule3_52 : decode b_M_rule3 52 = .ok (.ifCond .ge 5, 3) := by decide +kernel
theorem d_M_rule3_55 : decode b_M_rule3 55 = .ok (.iconst 0, 1) := by decide +kernel
theorem d_M_rule3_56 : decode b_M_rule3 56 = .ok (.ireturn, 1) := by decide +kernel
theorem d_M_rule3_57 : decode b_M_rule3 57 = .ok (.iinc 1 1, 3) := by decide +kernel
theorem d_M_rule3_60 : decode b_M_rule3 60 = .ok (.goto (-58), 3) := by decide +kernel
theorem d_M_rule3_63 : decode b_M_rule3 63 = .ok (.iconst 1, 1) := by decide +kernel
theorem d_M_rule3_64 : decode b_M_rule3 64 = .ok (.ireturn, 1) := by decide +kernel
section
variable {p : Program} {l : Launch} {e : Env} {s : State} {m : MethodId} {args : Array Value} {below : List Frame} {meth : Method} {c : Code} {H : Heap} {locs : List Loc} {ls : Array Slot} {D : va_G} {A : Nat → Prop} {h o : Nat → Nat} {t v : Nat → ClassId}
def f_M_rule3_57 (k2 : Int32 → Option (Int32)) (u0 : St) (x1 : Int32) : Option (Int32) :=
  k2 (x1 + 1)
set_option maxHeartbeats 4000000 in
set_option maxRecDepth 100000 in
theorem k_M_rule3_57 {k2 : Int32 → Option (Int32)} {u0 : St} {x1 : Int32} {r : Int32} (X : sr_X D (tM t) b_M_rule3 3 R_M w_M_rule3 p s m args meth c A (some .boolean)) (hk2 : ∀ (x1 : Int32) (H : Heap) (locs : List Loc) (ls : Array Slot), sr_Z D A s.heap (wM h t u0) H locs → lv_has ls 3 [(0, .ref (h 0)), (1, .int x1)] → k2 x1 = some r → W p l e (sr_rm 1 23) s m args below meth c H locs 0 0 (sr_Qi D (tM t) below args s A (wM h t u0) r) (F0 m 2 ls [])) (Z : sr_Z D A s.heap (wM h t u0) H locs) (hl : lv_has ls 3 [(0, .ref (h 0)), (1, .int x1)]) (hf : f_M_rule3_57 k2 u0 x1 = some r) : W p l e (sr_rm 1 23) s m args below meth c H locs 0 0 (sr_Qi D (tM t) below args s A (wM h t u0) r) (F0 m 57 ls []) := by
  have hx := X.1
  have hb := X.2.1
  have hK := X.2.2.2.2.2.2.1
  unfold f_M_rule3_57 at hf
  refine lv_iinc (k := 1) (v := x1 + 1) (lv' := [(1, .int (x1 + 1)), (0, .ref (h 0))]) hx hb d_M_rule3_57 hl rfl rfl (by decide) rfl (fun ls hl => ?_)
  refine lv_goto (tgt := 2) hx hb d_M_rule3_60 rfl ?_
  exact hk2 (x1 + 1) _ _ _ Z (lv_sub hl [1, 0] rfl) hf
def f_M_rule3_40 (k2 : Int32 → Option (Int32)) (u0 : St) (x1 : Int32) (x2 : Int32) : Option (Int32) :=
  (sr_ald 24 (u0 3) x1).bind fun v_7 =>
  if v_7 = 7 then
    if 0 ≤ x2 then
      f_M_rule3_57 k2 u0 x1
    else
      some 0
  else
    f_M_rule3_57 k2 u0 x1
set_option maxHeartbeats 4000000 in
set_option maxRecDepth 100000 in
theorem k_M_rule3_40 {k2 : Int32 → Option (Int32)} {u0 : St} {x1 : Int32} {x2 : Int32} {r : Int32} (X : sr_X D (tM t) b_M_rule3 3 R_M w_M_rule3 p s m args meth c A (some .boolean)) (hk2 : ∀ (x1 : Int32) (H : Heap) (locs : List Loc) (ls : Array Slot), sr_Z D A s.heap (wM h t u0) H locs → lv_has ls 3 [(0, .ref (h 0)), (1, .int x1)] → k2 x1 = some r → W p l e (sr_rm 1 23) s m args below meth c H locs 0 0 (sr_Qi D (tM t) below args s A (wM h t u0) r) (F0 m 2 ls [])) (Z : sr_Z D A s.heap (wM h t u0) H locs) (hl : lv_has ls 3 [(0, .ref (h 0)), (1, .int x1), (2, .int x2)]) (hf : f_M_rule3_40 k2 u0 x1 x2 = some r) : W p l e (sr_rm 1 23) s m args below meth c H locs 0 0 (sr_Qi D (tM t) below args s A (wM h t u0) r) (F0 m 40 ls []) := by
  have hx := X.1
  have hb := X.2.1
  have hK := X.2.2.2.2.2.2.1
  unfold f_M_rule3_40 at hf
  refine lv_aload_n hx hb d_M_rule3_40 rfl (lv_at hl 0 rfl) ?_
  refine g_M_16_M X Z d_M_rule3_41 ?_
  refine lv_iload_n hx hb d_M_rule3_44 rfl (lv_at hl 1 rfl) ?_
  obtain ⟨v_7, e_8, hf⟩ := sr_b hf
  refine sr_iald hx hb hK Z 3 2 rfl rfl e_8 d_M_rule3_45 ?_
  refine lv_bipush (v := 7) hx hb d_M_rule3_46 (by decide) ?_
  refine lv_icmp_ne (tgt := 57) hx hb d_M_rule3_48 rfl (fun q_9 => ?_) (fun q_9 => ?_)
  · have hf := sr_if q_9 hf
    exact k_M_rule3_57 X hk2 Z (lv_sub hl [0, 1] rfl) hf
  · have hf := sr_it q_9 hf
    refine lv_iload_n hx hb d_M_rule3_51 rfl (lv_at hl 2 rfl) ?_
    refine lv_if_ge (tgt := 57) hx hb d_M_rule3_52 rfl (fun q_10 => ?_) (fun q_10 => ?_)
    · have hf := sr_it q_10 hf
      exact k_M_rule3_57 X hk2 Z (lv_sub hl [0, 1] rfl) hf
    · have hf := sr_if q_10 hf
      refine lv_iconst (v := 0) hx hb d_M_rule3_55 (by decide) ?_
      cases hf
      exact sr_retz X Z (by decide) d_M_rule3_56
def f_M_rule3_2 (k2 : Int32 → Option (Int32)) (u0 : St) (x1 : Int32) : Option (Int32) :=
  if (u0 0 0) ≤ x1 then
    some 1
  else
    (f_M_handler u0 x1).bind fun v_2 =>
    (sr_ald 24 (u0 3) x1).bind fun v_4 =>
    if v_4 = 4 then
      if v_2 < 0 then
        some 0
      else
        (sr_ald 24 (u0 2) v_2).bind fun v_12 =>
        if v_12 = 1 then
          f_M_rule3_40 k2 u0 x1 v_2
        else
          some 0
    else
      f_M_rule3_40 k2 u0 x1 v_2
set_option maxHeartbeats 4000000 in
set_option maxRecDepth 100000 in
theorem k_M_rule3_2 {k2 : Int32 → Option (Int32)} {u0 : St} {x1 : Int32} {r : Int32} (X : sr_X D (tM t) b_M_rule3 3 R_M w_M_rule3 p s m args meth c A (some .boolean)) (hk2 : ∀ (x1 : Int32) (H : Heap) (locs : List Loc) (ls : Array Slot), sr_Z D A s.heap (wM h t u0) H locs → lv_has ls 3 [(0, .ref (h 0)), (1, .int x1)] → k2 x1 = some r → W p l e (sr_rm 1 23) s m args below meth c H locs 0 0 (sr_Qi D (tM t) below args s A (wM h t u0) r) (F0 m 2 ls [])) (Z : sr_Z D A s.heap (wM h t u0) H locs) (hl : lv_has ls 3 [(0, .ref (h 0)), (1, .int x1)]) (hf : f_M_rule3_2 k2 u0 x1 = some r) : W p l e (sr_rm 1 23) s m args below meth c H locs 0 0 (sr_Qi D (tM t) below args s A (wM h t u0) r) (F0 m 2 ls []) := by
  have hx := X.1
  have hb := X.2.1
  have hK := X.2.2.2.2.2.2.1
  unfold f_M_rule3_2 at hf
  refine lv_iload_n hx hb d_M_rule3_2 rfl (lv_at hl 1 rfl) ?_
  refine lv_aload_n hx hb d_M_rule3_3 rfl (lv_at hl 0 rfl) ?_
  refine g_M_100_M X Z d_M_rule3_4 ?_
  refine lv_icmp_ge (tgt := 63) hx hb d_M_rule3_7 rfl (fun q_1 => ?_) (fun q_1 => ?_)
  · have hf := sr_it q_1 hf
    refine lv_iconst (v := 1) hx hb d_M_rule3_63 (by decide) ?_
    cases hf
    exact sr_retz X Z (by decide) d_M_rule3_64
  · have hf := sr_if q_1 hf
    refine lv_aload_n hx hb d_M_rule3_10 rfl (lv_at hl 0 rfl) ?_
    refine lv_iload_n hx hb d_M_rule3_11 rfl (lv_at hl 1 rfl) ?_
    obtain ⟨v_2, e_3, hf⟩ := sr_b hf
    refine sr_cVi (As := [.int x1]) (rest := []) X Z sr_cut_self hK (c_M_handler e_3) (cw_M_122 X.2.2.2.2.2.1 (by decide)) 0 rfl rfl rfl hl rfl (Nat.le_of_ble_eq_true rfl) d_M_rule3_12 (fun H locs Z => ?_)
    refine lv_istore_n (lv' := [(2, .int v_2), (0, .ref (h 0)), (1, .int x1)]) hx hb d_M_rule3_15 rfl hl (by decide) rfl (fun ls hl => ?_)
    refine lv_aload_n hx hb d_M_rule3_16 rfl (lv_at hl 1 rfl) ?_
    refine g_M_16_M X Z d_M_rule3_17 ?_
    refine lv_iload_n hx hb d_M_rule3_20 rfl (lv_at hl 2 rfl) ?_
    obtain ⟨v_4, e_5, hf⟩ := sr_b hf
    refine sr_iald hx hb hK Z 3 2 rfl rfl e_5 d_M_rule3_21 ?_
    refine lv_iconst (v := 4) hx hb d_M_rule3_22 (by decide) ?_
    refine lv_icmp_ne (tgt := 40) hx hb d_M_rule3_23 rfl (fun q_6 => ?_) (fun q_6 => ?_)
    · have hf := sr_if q_6 hf
      exact k_M_rule3_40 X hk2 Z (lv_sub hl [1, 2, 0] rfl) hf
    · have hf := sr_it q_6 hf
      refine lv_iload_n hx hb d_M_rule3_26 rfl (lv_at hl 0 rfl) ?_
      refine lv_if_lt (tgt := 55) hx hb d_M_rule3_27 rfl (fun q_11 => ?_) (fun q_11 => ?_)
      · have hf := sr_it q_11 hf
        refine lv_iconst (v := 0) hx hb d_M_rule3_55 (by decide) ?_
        cases hf
        exact sr_retz X Z (by decide) d_M_rule3_56
      · have hf := sr_if q_11 hf
        refine lv_aload_n hx hb d_M_rule3_30 rfl (lv_at hl 1 rfl) ?_
        refine g_M_13_M X Z d_M_rule3_31 ?_
        refine lv_iload_n hx hb d_M_rule3_34 rfl (lv_at hl 0 rfl) ?_
        obtain ⟨v_12, e_13, hf⟩ := sr_b hf
        refine sr_iald hx hb hK Z 2 1 rfl rfl e_13 d_M_rule3_35 ?_
        refine lv_iconst (v := 1) hx hb d_M_rule3_36 (by decide) ?_
        refine lv_icmp_ne (tgt := 55) hx hb d_M_rule3_37 rfl (fun q_14 => ?_) (fun q_14 => ?_)
        · have hf := sr_if q_14 hf
          refine lv_iconst (v := 0) hx hb d_M_rule3_55 (by decide) ?_
          cases hf
          exact sr_retz X Z (by decide) d_M_rule3_56
        · have hf := sr_it q_14 hf
          exact k_M_rule3_40 X hk2 Z (lv_sub hl [1, 2, 0] rfl) hf
def f_M_rule3_2_it (u0 : St) : Nat → Int32 → Option (Int32)
  | 0 => fun _ => none
  | n + 1 => fun x1 => f_M_rule3_2 (f_M_rule3_2_it u0 n) u0 x1
set_option maxHeartbeats 4000000 in
set_option maxRecDepth 100000 in
theorem k_M_rule3_2_it {u0 : St} {r : Int32} (X : sr_X D (tM t) b_M_rule3 3 R_M w_M_rule3 p s m args meth c A (some .boolean)) (n : Nat) : ∀ {x1 : Int32} {H : Heap} {locs : List Loc} {ls : Array Slot}, sr_Z D A s.heap (wM h t u0) H locs → lv_has ls 3 [(0, .ref (h 0)), (1, .int x1)] → f_M_rule3_2_it u0 n x1 = some r → W p l e (sr_rm 1 23) s m args below meth c H locs 0 0 (sr_Qi D (tM t) below args s A (wM h t u0) r) (F0 m 2 ls []) := by
  induction n with
  | zero => intro x1 H locs ls Z hl hf; exact absurd hf (by simp [f_M_rule3_2_it])
  | succ n ih =>
    intro x1 H locs ls Z hl hf
    exact k_M_rule3_2 X (fun x1 H locs ls Z hl hf => ih Z hl hf) Z hl hf
def f_M_rule3 (u0 : St) : Option (Int32) :=
  f_M_rule3_2_it u0 60 0
set_option maxHeartbeats 4000000 in
set_option maxRecDepth 100000 in
theorem k_M_rule3_0 {u0 : St} {r : Int32} (X : sr_X D (tM t) b_M_rule3 3 R_M w_M_rule3 p s m args meth c A (some .boolean)) (Z : sr_Z D A s.heap (wM h t u0) H locs) (hl : lv_has ls 3 [(0, .ref (h 0))]) (hf : f_M_rule3 u0 = some r) : W p l e (sr_rm 1 23) s m args below meth c H locs 0 0 (sr_Qi D (tM t) below args s A (wM h t u0) r) (F0 m 0 ls []) := by
  have hx := X.1
  have hb := X.2.1
  have hK := X.2.2.2.2.2.2.1
  unfold f_M_rule3 at hf
  refine lv_iconst (v := 0) hx hb d_M_rule3_0 (by decide) ?_
  refine lv_istore_n (lv' := [(1, .int 0), (0, .ref (h 0))]) hx hb d_M_rule3_1 rfl hl (by decide) rfl (fun ls hl => ?_)
  exact k_M_rule3_2_it X _ Z (lv_sub hl [1, 0] rfl) hf
end
set_option maxHeartbeats 4000000 in
set_option maxRecDepth 100000 in
theorem c_M_rule3 {l : Launch} {D : va_G} {h : Nat → Nat} {t : Nat → ClassId} {sz : Nat} {u0 : St} {r : Int32} (hf : f_M_rule3 u0 = some r) : sr_Ci l y_M_rule3 w_M_rule3 (sr_rm 1 23) D (tM t) (wM h t u0) (wM h t u0) sz [.ref (h 0)] r := by
  refine Met.ofW (cc := b_M_rule3) (maxL := 3) (ret := (some .boolean)) (by decide) rfl ?_
  intro p e s m args below meth c s₁ B hml hv
  obtain ⟨rfl, hsz, hP, hK, hD0⟩ := hv
  subst hsz
  have X : sr_X D (tM t) b_M_rule3 3 R_M w_M_rule3 p s m _ meth c (va_A (wM h t u0) s.heap.size) (some .boolean) := ⟨B.exec, B.bytes, hml, findClass_of_methodNamed B.named, B.notSynchronized, atoms_spec (ws := w_M_rule3) B.pre, hK, fun q h => Or.inr h, B.returns⟩
  have Z : sr_Z D (va_A (wM h t u0) s.heap.size) s.heap (wM h t u0) s.heap [] := ⟨hP, hD0.self, va_S.rf⟩
  have hl := lv_entry ([.ref (h 0)] : List Value) (n := 3) (Nat.le_of_ble_eq_true rfl)
  rw [lg_entry_eq]
  exact k_M_rule3_0 X Z hl hf
/-! M_rule4 -/
theorem d_M_rule4_0 : decode b_M_rule4 0 = .ok (.iconst 0, 1) := by decide +kernel
theorem d_M_rule4_1 : decode b_M_rule4 1 = .ok (.istore_n 1, 1) := by decide +kernel
theorem d_M_rule4_2 : decode b_M_rule4 2 = .ok (.iload_n 1, 1) := by decide +kernel
theorem d_M_rule4_3 : decode b_M_rule4 3 = .ok (.aload_n 0, 1) := by decide +kernel
theorem d_M_rule4_4 : decode b_M_rule4 4 = .ok (.getfield 100, 3) := by decide +kernel
theorem d_M_rule4_7 : decode b_M_rule4 7 = .ok (.if_icmp .ge 116, 3) := by decide +kernel
theorem d_M_rule4_10 : decode b_M_rule4 10 = .ok (.aload_n 0, 1) := by decide +kernel
theorem d_M_rule4_11 : decode b_M_rule4 11 = .ok (.getfield 16, 3) := by decide +kernel
theorem d_M_rule4_14 : decode b_M_rule4 14 = .ok (.iload_n 1, 1) := by decide +kernel
theorem d_M_rule4_15 : decode b_M_rule4 15 = .ok (.iaload, 1) := by decide +kernel
theorem d_M_rule4_16 : decode b_M_rule4 16 = .ok (.bipush 7, 2) := by decide +kernel
theorem d_M_rule4_18 : decode b_M_rule4 18 = .ok (.if_icmp .ne 99, 3) := by decide +kernel
theorem d_M_rule4_21 : decode b_M_rule4 21 = .ok (.iconst 0, 1) := by decide +kernel
theorem d_M_rule4_22 : decode b_M_rule4 22 = .ok (.istore_n 2, 1) := by decide +kernel
theorem d_M_rule4_23 : decode b_M_rule4 23 = .ok (.iload_n 2, 1) := by decide +kernel
theorem d_M_rule4_24 : decode b_M_rule4 24 = .ok (.aload_n 0, 1) := by decide +kernel
theorem d_M_rule4_25 : decode b_M_rule4 25 = .ok (.getfield 100, 3) := by decide +kernel
theorem d_M_rule4_28 : decode b_M_rule4 28 = .ok (.if_icmp .ge 39, 3) := by decide +kernel
theorem d_M_rule4_31 : decode b_M_rule4 31 = .ok (.aload_n 0, 1) := by decide +kernel
theorem d_M_rule4_32 : decode b_M_rule4 32 = .ok (.getfield 16, 3) := by decide +kernel
theorem d_M_rule4_35 : decode b_M_rule4 35 = .ok (.iload_n 2, 1) := by decide +kernel
theorem d_M_rule4_36 : decode b_M_rule4 36 = .ok (.iaload, 1) := by decide +kernel
theorem d_M_rule4_37 : decode b_M_rule4 37 = .ok (.bipush 9, 2) := by decide +kernel
theorem d_M_rule4_39 : decode b_M_rule4 39 = .ok (.if_icmp .ne 22, 3) := by decide +kernel
theorem d_M_rule4_42 : decode b_M_rule4 42 = .ok (.aload_n 0, 1) := by decide +kernel
theorem d_M_rule4_43 : decode b_M_rule4 43 = .ok (.iload_n 1, 1) := by decide +kernel
theorem d_M_rule4_44 : decode b_M_rule4 44 = .ok (.iload_n 2, 1) := by decide +kernel
theorem d_M_rule4_45 : decode b_M_rule4 45 = .ok (.invokevirtual 125, 3) := by decide +kernel
theorem d_M_rule4_48 : decode b_M_rule4 48 = .ok (.ifCond .eq 13, 3) := by decide +kernel
theorem d_M_rule4_51 : decode b_M_rule4 51 = .ok (.aload_n 0, 1) := by decide +kernel
theorem d_M_rule4_52 : decode b_M_rule4 52 = .ok (.iload_n 2, 1) := by decide +kernel
theorem d_M_rule4_53 : decode b_M_rule4 53 = .ok (.invokevirtual 122, 3) := by decide +kernel
theorem d_M_rule4_56 : decode b_M_rule4 56 = .ok (.ifCond .lt 5, 3) := by decide +kernel
theorem d_M_rule4_59 : decode b_M_rule4 59 = .ok (.iconst 0, 1) := by decide +kernel
theorem d_M_rule4_60 : decode b_M_rule4 60 = .ok (.ireturn, 1) := by decide +kernel
theorem d_M_rule4_61 : decode b_M_rule4 61 = .ok (.iinc 2 1, 3) := by decide +kernel
theorem d_M_rule4_64 : decode b_M_rule4 64 = .ok (.goto (-41), 3) := by decide +kernel
theorem d_M_rule4_67 : decode b_M_rule4 67 = .ok (.aload_n 0, 1) := by decide +kernel
theorem d_M_rule4_68 : decode b_M_rule4 68 = .ok (.getfield 19, 3) := by decide +kernel
theorem d_M_rule4_71 : decode b_M_rule4 71 = .ok (.iload_n 1, 1) := by decide +kernel
theorem d_M_rule4_72 : decode b_M_rule4 72 = .ok (.iaload, 1) := by decide +kernel
theorem d_M_rule4_73 : decode b_M_rule4 73 = .ok (.istore_n 2, 1) := by decide +kernel
theorem d_M_rule4_74 : decode b_M_rule4 74 = .ok (.iload_n 2, 1) := by decide +kernel
theorem d_M_rule4_75 : decode b_M_rule4 75 = .ok (.ifCond .eq 42, 3) := by decide +kernel
theorem d_M_rule4_78 : decode b_M_rule4 78 = .ok (.iload_n 2, 1) := by decide +kernel
theorem d_M_rule4_79 : decode b_M_rule4 79 = .ok (.aload_n 0, 1) := by decide +kernel
theorem d_M_rule4_80 : decode b_M_rule4 80 = .ok (.getfield 100, 3) := by decide +kernel
theorem d_M_rule4_83 : decode b_M_rule4 83 = .ok (.if_icmp .ge 32, 3) := by decide +kernel
theorem d_M_rule4_86 : decode b_M_rule4 86 = .ok (.aload_n 0, 1) := by decide +kernel
theorem d_M_rule4_87 : decode b_M_rule4 87 = .ok (.getfield 16, 3) := by decide +kernel
theorem d_M_rule4_90 : decode b_M_rule4 90 = .ok (.iload_n 2, 1) := by decide +kernel
theorem d_M_rule4_91 : decode b_M_rule4 91 = .ok (.iaload, 1) := by decide +kernel
theorem d_M_rule4_92 : decode b_M_rule4 92 = .ok (.bipush 12, 2) := by decide +kernel
theorem d_M_rule4_94 : decode b_M_rule4 94 = .ok (.if_icmp .ne 21, 3) := by decide +kernel
theorem d_M_rule4_97 : decode b_M_rule4 97 = .ok (.aload_n 0, 1) := by decide +kernel
theorem d_M_rule4_98 : decode b_M_rule4 98 = .ok (.iload_n 2, 1) := by decide +kernel
theorem d_M_rule4_99 : decode b_M_rule4 99 = .ok (.invokevirtual 129, 3) := by decide +kernel
theorem d_M_rule4_102 : decode b_M_rule4 102 = .ok (.aload_n 0, 1) := by decide +kernel
theorem d_M_rule4_103 : decode b_M_rule4 103 = .ok (.getfield 7, 3) := by decide +kernel
theorem d_M_rule4_106 : decode b_M_rule4 106 = .ok (.aload_n 0, 1) := by decide +kernel
theorem d_M_rule4_107 : decode b_M_rule4 107 = .ok (.iload_n 1, 1) := by decide +kernel
theorem d_M_rule4_108 : decode b_M_rule4 108 = .ok (.invokevirtual 122, 3) := by decide +kernel
theorem d_M_rule4_111 : decode b_M_rule4 111 = .ok (.iaload, 1) := by decide +kernel
theorem d_M_rule4_112 : decode b_M_rule4 112 = .ok (.if_icmp .eq 5, 3) := by decide +kernel
theorem d_M_rule4_115 : decode b_M_rule4 115 = .ok (.iconst 0, 1) := by decide +kernel
theorem d_M_rule4_116 : decode b_M_rule4 116 = .ok (.ireturn, 1) := by decide +kernel
theorem d_M_rule4_117 : decode b_M_rule4 117 = .ok (.iinc 1 1, 3) := by decide +kernel
theorem d_M_rule4_120 : decode b_M_rule4 120 = .ok (.goto (-118), 3) := by decide +kernel
theorem d_M_rule4_123 : decode b_M_rule4 123 = .ok (.iconst 1, 1) := by decide +kernel
theorem d_M_rule4_124 : decode b_M_rule4 124 = .ok (.ireturn, 1) := by decide +kernel
section
variable {p : Program} {l : Launch} {e : Env} {s : State} {m : MethodId} {args : Array Value} {below : List Frame} {meth : Method} {c : Code} {H : Heap} {locs : List Loc} {ls : Array Slot} {D : va_G} {A : Nat → Prop} {h o : Nat → Nat} {t v : Nat → ClassId}
def f_M_rule4_117 (k2 : Int32 → Option (Int32)) (u0 : St) (x1 : Int32) : Option (Int32) :=
  k2 (x1 + 1)
set_option maxHeartbeats 4000000 in
set_option maxRecDepth 100000 in
theorem k_M_rule4_117 {k2 : Int32 → Option (Int32)} {u0 : St} {x1 : Int32} {r : Int32} (X : sr_X D (tM t) b_M_rule4 3 R_M w_M_rule4 p s m args meth c A (some .boolean)) (hk2 : ∀ (x1 : Int32) (H : Heap) (locs : List Loc) (ls : Array Slot), sr_Z D A s.heap (wM h t u0) H locs → lv_has ls 3 [(0, .ref (h 0)), (1, .int x1)] → k2 x1 = some r → W p l e (sr_rm 1 24) s m args below meth c H locs 0 0 (sr_Qi D (tM t) below args s A (wM h t u0) r) (F0 m 2 ls [])) (Z : sr_Z D A s.heap (wM h t u0) H locs) (hl : lv_has ls 3 [(0, .ref (h 0)), (1, .int x1)]) (hf : f_M_rule4_117 k2 u0 x1 = some r) : W p l e (sr_rm 1 24) s m args below meth c H locs 0 0 (sr_Qi D (tM t) below args s A (wM h t u0) r) (F0 m 117 ls []) := by
  have hx := X.1
  have hb := X.2.1
  have hK := X.2.2.2.2.2.2.1
  unfold f_M_rule4_117 at hf
  refine lv_iinc (k := 1) (v := x1 + 1) (lv' := [(1, .int (x1 + 1)), (0, .ref (h 0))]) hx hb d_M_rule4_117 hl rfl rfl (by decide) rfl (fun ls hl => ?_)
  refine lv_goto (tgt := 2) hx hb d_M_rule4_120 rfl ?_
  exact hk2 (x1 + 1) _ _ _ Z (lv_sub hl [1, 0] rfl) hf
def f_M_rule4_61 (k2 : Int32 → Option (Int32)) (k23 : Int32 → Int32 → Option (Int32)) (u0 : St) (x1 : Int32) (x2 : Int32) : Option (Int32) :=
  k23 x1 (x2 + 1)
set_option maxHeartbeats 4000000 in
set_option maxRecDepth 100000 in
theorem k_M_rule4_61 {k2 : Int32 → Option (Int32)} {k23 : Int32 → Int32 → Option (Int32)} {u0 : St} {x1 : Int32} {x2 : Int32} {r : Int32} (X : sr_X D (tM t) b_M_rule4 3 R_M w_M_rule4 p s m args meth c A (some .boolean)) (hk2 : ∀ (x1 : Int32) (H : Heap) (locs : List Loc) (ls : Array Slot), sr_Z D A s.heap (wM h t u0) H locs → lv_has ls 3 [(0, .ref (h 0)), (1, .int x1)] → k2 x1 = some r → W p l e (sr_rm 1 24) s m args below meth c H locs 0 0 (sr_Qi D (tM t) below args s A (wM h t u0) r) (F0 m 2 ls [])) (hk23 : ∀ (x1 : Int32) (x2 : Int32) (H : Heap) (locs : List Loc) (ls : Array Slot), sr_Z D A s.heap (wM h t u0) H locs → lv_has ls 3 [(0, .ref (h 0)), (1, .int x1), (2, .int x2)] → k23 x1 x2 = some r → W p l e (sr_rm 1 24) s m args below meth c H locs 0 0 (sr_Qi D (tM t) below args s A (wM h t u0) r) (F0 m 23 ls [])) (Z : sr_Z D A s.heap (wM h t u0) H locs) (hl : lv_has ls 3 [(0, .ref (h 0)), (1, .int x1), (2, .int x2)]) (hf : f_M_rule4_61 k2 k23 u0 x1 x2 = some r) : W p l e (sr_rm 1 24) s m args below meth c H locs 0 0 (sr_Qi D (tM t) below args s A (wM h t u0) r) (F0 m 61 ls []) := by
  have hx := X.1
  have hb := X.2.1
  have hK := X.2.2.2.2.2.2.1
  unfold f_M_rule4_61 at hf
  refine lv_iinc (k := 2) (v := x2 + 1) (lv' := [(2, .int (x2 + 1)), (0, .ref (h 0)), (1, .int x1)]) hx hb d_M_rule4_61 hl rfl rfl (by decide) rfl (fun ls hl => ?_)
  refine lv_goto (tgt := 23) hx hb d_M_rule4_64 rfl ?_
  exact hk23 x1 (x2 + 1) _ _ _ Z (lv_sub hl [1, 2, 0] rfl) hf
def f_M_rule4_23 (k2 : Int32 → Option (Int32)) (k23 : Int32 → Int32 → Option (Int32)) (u0 : St) (x1 : Int32) (x2 : Int32) : Option (Int32) :=
  if (u0 0 0) ≤ x2 then
    (sr_ald 24 (u0 4) x1).bind fun v_6 =>
    if v_6 = 0 then
      f_M_rule4_117 k2 u0 x1
    else
      if (u0 0 0) ≤ v_6 then
        some 0
      else
        (sr_ald 24 (u0 3) v_6).bind fun v_10 =>
        if v_10 = 12 then
          (f_M_around u0 v_6).bind fun v_13 =>
          (f_M_handler u0 x1).bind fun v_15 =>
          (sr_ald 24 (u0 1) v_15).bind fun v_17 =>
          if v_13 = v_17 then
            f_M_rule4_117 k2 u0 x1
          else
            some 0
        else
          some 0
  else
    (sr_ald 24 (u0 3) x2).bind fun v_20 =>
    if v_20 = 9 then
      (f_M_below u0 x1 x2).bind fun v_23 =>
      if v_23 = 0 then
        f_M_rule4_61 k2 k23 u0 x1 x2
      else
        (f_M_handler u0 x2).bind fun v_26 =>
        if v_26 < 0 then
          f_M_rule4_61 k2 k23 u0 x1 x2
        else
          some 0
    else
      f_M_rule4_61 k2 k23 u0 x1 x2
set_option maxHeartbeats 4000000 in
set_option maxRecDepth 100000 in
theorem k_M_rule4_23 {k2 : Int32 → Option (Int32)} {k23 : Int32 → Int32 → Option (Int32)} {u0 : St} {x1 : Int32} {x2 : Int32} {r : Int32} (X : sr_X D (tM t) b_M_rule4 3 R_M w_M_rule4 p s m args meth c A (some .boolean)) (hk2 : ∀ (x1 : Int32) (H : Heap) (locs : List Loc) (ls : Array Slot), sr_Z D A s.heap (wM h t u0) H locs → lv_has ls 3 [(0, .ref (h 0)), (1, .int x1)] → k2 x1 = some r → W p l e (sr_rm 1 24) s m args below meth c H locs 0 0 (sr_Qi D (tM t) below args s A (wM h t u0) r) (F0 m 2 ls [])) (hk23 : ∀ (x1 : Int32) (x2 : Int32) (H : Heap) (locs : List Loc) (ls : Array Slot), sr_Z D A s.heap (wM h t u0) H locs → lv_has ls 3 [(0, .ref (h 0)), (1, .int x1), (2, .int x2)] → k23 x1 x2 = some r → W p l e (sr_rm 1 24) s m args below meth c H locs 0 0 (sr_Qi D (tM t) below args s A (wM h t u0) r) (F0 m 23 ls [])) (Z : sr_Z D A s.heap (wM h t u0) H locs) (hl : lv_has ls 3 [(0, .ref (h 0)), (1, .int x1), (2, .int x2)]) (hf : f_M_rule4_23 k2 k23 u0 x1 x2 = some r) : W p l e (sr_rm 1 24) s m args below meth c H locs 0 0 (sr_Qi D (tM t) below args s A (wM h t u0) r) (F0 m 23 ls []) := by
  have hx := X.1
  have hb := X.2.1
  have hK := X.2.2.2.2.2.2.1
  unfold f_M_rule4_23 at hf
  refine lv_iload_n hx hb d_M_rule4_23 rfl (lv_at hl 2 rfl) ?_
  refine lv_aload_n hx hb d_M_rule4_24 rfl (lv_at hl 0 rfl) ?_
  refine g_M_100_M X Z d_M_rule4_25 ?_
  refine lv_icmp_ge (tgt := 67) hx hb d_M_rule4_28 rfl (fun q_5 => ?_) (fun q_5 => ?_)
  · have hf := sr_it q_5 hf
    refine lv_aload_n hx hb d_M_rule4_67 rfl (lv_at hl 0 rfl) ?_
    refine g_M_19_M X Z d_M_rule4_68 ?_
    refine lv_iload_n hx hb d_M_rule4_71 rfl (lv_at hl 1 rfl) ?_
    obtain ⟨v_6, e_7, hf⟩ := sr_b hf
    refine sr_iald hx hb hK Z 4 3 rfl rfl e_7 d_M_rule4_72 ?_
    refine lv_istore_n (lv' := [(2, .int v_6), (0, .ref (h 0)), (1, .int x1)]) hx hb d_M_rule4_73 rfl hl (by decide) rfl (fun ls hl => ?_)
    refine lv_iload_n hx hb d_M_rule4_74 rfl (lv_at hl 0 rfl) ?_
    refine lv_if_eq (tgt := 117) hx hb d_M_rule4_75 rfl (fun q_8 => ?_) (fun q_8 => ?_)
    · have hf := sr_it q_8 hf
      exact k_M_rule4_117 X hk2 Z (lv_sub hl [1, 2] rfl) hf
    · have hf := sr_if q_8 hf
      refine lv_iload_n hx hb d_M_rule4_78 rfl (lv_at hl 0 rfl) ?_
      refine lv_aload_n hx hb d_M_rule4_79 rfl (lv_at hl 1 rfl) ?_
      refine g_M_100_M X Z d_M_rule4_80 ?_
      refine lv_icmp_ge (tgt := 115) hx hb d_M_rule4_83 rfl (fun q_9 => ?_) (fun q_9 => ?_)
      · have hf := sr_it q_9 hf
        refine lv_iconst (v := 0) hx hb d_M_rule4_115 (by decide) ?_
        cases hf
        exact sr_retz X Z (by decide) d_M_rule4_116
      · have hf := sr_if q_9 hf
        refine lv_aload_n hx hb d_M_rule4_86 rfl (lv_at hl 1 rfl) ?_
        refine g_M_16_M X Z d_M_rule4_87 ?_
        refine lv_iload_n hx hb d_M_rule4_90 rfl (lv_at hl 0 rfl) ?_
        obtain ⟨v_10, e_11, hf⟩ := sr_b hf
        refine sr_iald hx hb hK Z 3 2 rfl rfl e_11 d_M_rule4_91 ?_
        refine lv_bipush (v := 12) hx hb d_M_rule4_92 (by decide) ?_
        refine lv_icmp_ne (tgt := 115) hx hb d_M_rule4_94 rfl (fun q_12 => ?_) (fun q_12 => ?_)
        · have hf := sr_if q_12 hf
          refine lv_iconst (v := 0) hx hb d_M_rule4_115 (by decide) ?_
          cases hf
          exact sr_retz X Z (by decide) d_M_rule4_116
        · have hf := sr_it q_12 hf
          refine lv_aload_n hx hb d_M_rule4_97 rfl (lv_at hl 1 rfl) ?_
          refine lv_iload_n hx hb d_M_rule4_98 rfl (lv_at hl 0 rfl) ?_
          obtain ⟨v_13, e_14, hf⟩ := sr_b hf
          refine sr_cVi (As := [.int v_6]) (rest := []) X Z sr_cut_self hK (c_M_around e_14) (cw_M_129 X.2.2.2.2.2.1 (by decide)) 0 rfl rfl rfl hl rfl (Nat.le_of_ble_eq_true rfl) d_M_rule4_99 (fun H locs Z => ?_)
          refine lv_aload_n hx hb d_M_rule4_102 rfl (lv_at hl 1 rfl) ?_
          refine g_M_7_M X Z d_M_rule4_103 ?_
          refine lv_aload_n hx hb d_M_rule4_106 rfl (lv_at hl 1 rfl) ?_
          refine lv_iload_n hx hb d_M_rule4_107 rfl (lv_at hl 2 rfl) ?_
          obtain ⟨v_15, e_16, hf⟩ := sr_b hf
          refine sr_cVi (As := [.int x1]) (rest := [.ref (h 2), .int v_13]) X Z sr_cut_self hK (c_M_handler e_16) (cw_M_122 X.2.2.2.2.2.1 (by decide)) 0 rfl rfl rfl hl rfl (Nat.le_of_ble_eq_true rfl) d_M_rule4_108 (fun H locs Z => ?_)
          obtain ⟨v_17, e_18, hf⟩ := sr_b hf
          refine sr_iald hx hb hK Z 1 0 rfl rfl e_18 d_M_rule4_111 ?_
          refine lv_icmp_eq (tgt := 117) hx hb d_M_rule4_112 rfl (fun q_19 => ?_) (fun q_19 => ?_)
          · have hf := sr_it q_19 hf
            exact k_M_rule4_117 X hk2 Z (lv_sub hl [1, 2] rfl) hf
          · have hf := sr_if q_19 hf
            refine lv_iconst (v := 0) hx hb d_M_rule4_115 (by decide) ?_
            cases hf
            exact sr_retz X Z (by decide) d_M_rule4_116
  · have hf := sr_if q_5 hf
    refine lv_aload_n hx hb d_M_rule4_31 rfl (lv_at hl 0 rfl) ?_
    refine g_M_16_M X Z d_M_rule4_32 ?_
    refine lv_iload_n hx hb d_M_rule4_35 rfl (lv_at hl 2 rfl) ?_
    obtain ⟨v_20, e_21, hf⟩ := sr_b hf
    refine sr_iald hx hb hK Z 3 2 rfl rfl e_21 d_M_rule4_36 ?_
    refine lv_bipush (v := 9) hx hb d_M_rule4_37 (by decide) ?_
    refine lv_icmp_ne (tgt := 61) hx hb d_M_rule4_39 rfl (fun q_22 => ?_) (fun q_22 => ?_)
    · have hf := sr_if q_22 hf
      exact k_M_rule4_61 X hk2 hk23 Z (lv_sub hl [0, 1, 2] rfl) hf
    · have hf := sr_it q_22 hf
      refine lv_aload_n hx hb d_M_rule4_42 rfl (lv_at hl 0 rfl) ?_
      refine lv_iload_n hx hb d_M_rule4_43 rfl (lv_at hl 1 rfl) ?_
      refine lv_iload_n hx hb d_M_rule4_44 rfl (lv_at hl 2 rfl) ?_
      obtain ⟨v_23, e_24, hf⟩ := sr_b hf
      refine sr_cVi (As := [.int x1, .int x2]) (rest := []) X Z sr_cut_self hK (c_M_below e_24) (cw_M_125 X.2.2.2.2.2.1 (by decide)) 0 rfl rfl rfl hl rfl (Nat.le_of_ble_eq_true rfl) d_M_rule4_45 (fun H locs Z => ?_)
      refine lv_if_eq (tgt := 61) hx hb d_M_rule4_48 rfl (fun q_25 => ?_) (fun q_25 => ?_)
      · have hf := sr_it q_25 hf
        exact k_M_rule4_61 X hk2 hk23 Z (lv_sub hl [0, 1, 2] rfl) hf
      · have hf := sr_if q_25 hf
        refine lv_aload_n hx hb d_M_rule4_51 rfl (lv_at hl 0 rfl) ?_
        refine lv_iload_n hx hb d_M_rule4_52 rfl (lv_at hl 2 rfl) ?_
        obtain ⟨v_26, e_27, hf⟩ := sr_b hf
        refine sr_cVi (As := [.int x2]) (rest := []) X Z sr_cut_self hK (c_M_handler e_27) (cw_M_122 X.2.2.2.2.2.1 (by decide)) 0 rfl rfl rfl hl rfl (Nat.le_of_ble_eq_true rfl) d_M_rule4_53 (fun H locs Z => ?_)
        refine lv_if_lt (tgt := 61) hx hb d_M_rule4_56 rfl (fun q_28 => ?_) (fun q_28 => ?_)
        · have hf := sr_it q_28 hf
          exact k_M_rule4_61 X hk2 hk23 Z (lv_sub hl [0, 1, 2] rfl) hf
        · have hf := sr_if q_28 hf
          refine lv_iconst (v := 0) hx hb d_M_rule4_59 (by decide) ?_
          cases hf
          exact sr_retz X Z (by decide) d_M_rule4_60
def f_M_rule4_23_it (k2 : Int32 → Option (Int32)) (u0 : St) : Nat → Int32 → Int32 → Option (Int32)
  | 0 => fun _ _ => none
  | n + 1 => fun x1 x2 => f_M_rule4_23 k2 (f_M_rule4_23_it k2 u0 n) u0 x1 x2
set_option maxHeartbeats 4000000 in
set_option maxRecDepth 100000 in
theorem k_M_rule4_23_it {k2 : Int32 → Option (Int32)} {u0 : St} {r : Int32} (X : sr_X D (tM t) b_M_rule4 3 R_M w_M_rule4 p s m args meth c A (some .boolean)) (hk2 : ∀ (x1 : Int32) (H : Heap) (locs : List Loc) (ls : Array Slot), sr_Z D A s.heap (wM h t u0) H locs → lv_has ls 3 [(0, .ref (h 0)), (1, .int x1)] → k2 x1 = some r → W p l e (sr_rm 1 24) s m args below meth c H locs 0 0 (sr_Qi D (tM t) below args s A (wM h t u0) r) (F0 m 2 ls [])) (n : Nat) : ∀ {x1 : Int32} {x2 : Int32} {H : Heap} {locs : List Loc} {ls : Array Slot}, sr_Z D A s.heap (wM h t u0) H locs → lv_has ls 3 [(0, .ref (h 0)), (1, .int x1), (2, .int x2)] → f_M_rule4_23_it k2 u0 n x1 x2 = some r → W p l e (sr_rm 1 24) s m args below meth c H locs 0 0 (sr_Qi D (tM t) below args s A (wM h t u0) r) (F0 m 23 ls []) := by
  induction n with
  | zero => intro x1 x2 H locs ls Z hl hf; exact absurd hf (by simp [f_M_rule4_23_it])
  | succ n ih =>
    intro x1 x2 H locs ls Z hl hf
    exact k_M_rule4_23 X hk2 (fun x1 x2 H locs ls Z hl hf => ih Z hl hf) Z hl hf
def f_M_rule4_2 (k2 : Int32 → Option (Int32)) (u0 : St) (x1 : Int32) : Option (Int32) :=
  if (u0 0 0) ≤ x1 then
    some 1
  else
    (sr_ald 24 (u0 3) x1).bind fun v_2 =>
    if v_2 = 7 then
      f_M_rule4_23_it k2 u0 60 x1 0
    else
      f_M_rule4_117 k2 u0 x1
set_option maxHeartbeats 4000000 in
set_option maxRecDepth 100000 in
theorem k_M_rule4_2 {k2 : Int32 → Option (Int32)} {u0 : St} {x1 : Int32} {r : Int32} (X : sr_X D (tM t) b_M_rule4 3 R_M w_M_rule4 p s m args meth c A (some .boolean)) (hk2 : ∀ (x1 : Int32) (H : Heap) (locs : List Loc) (ls : Array Slot), sr_Z D A s.heap (wM h t u0) H locs → lv_has ls 3 [(0, .ref (h 0)), (1, .int x1)] → k2 x1 = some r → W p l e (sr_rm 1 24) s m args below meth c H locs 0 0 (sr_Qi D (tM t) below args s A (wM h t u0) r) (F0 m 2 ls [])) (Z : sr_Z D A s.heap (wM h t u0) H locs) (hl : lv_has ls 3 [(0, .ref (h 0)), (1, .int x1)]) (hf : f_M_rule4_2 k2 u0 x1 = some r) : W p l e (sr_rm 1 24) s m args below meth c H locs 0 0 (sr_Qi D (tM t) below args s A (wM h t u0) r) (F0 m 2 ls []) := by
  have hx := X.1
  have hb := X.2.1
  have hK := X.2.2.2.2.2.2.1
  unfold f_M_rule4_2 at hf
  refine lv_iload_n hx hb d_M_rule4_2 rfl (lv_at hl 1 rfl) ?_
  refine lv_aload_n hx hb d_M_rule4_3 rfl (lv_at hl 0 rfl) ?_
  refine g_M_100_M X Z d_M_rule4_4 ?_
  refine lv_icmp_ge (tgt := 123) hx hb d_M_rule4_7 rfl (fun q_1 => ?_) (fun q_1 => ?_)
  · have hf := sr_it q_1 hf
    refine lv_iconst (v := 1) hx hb d_M_rule4_123 (by decide) ?_
    cases hf
    exact sr_retz X Z (by decide) d_M_rule4_124
  · have hf := sr_if q_1 hf
    refine lv_aload_n hx hb d_M_rule4_10 rfl (lv_at hl 0 rfl) ?_
    refine g_M_16_M X Z d_M_rule4_11 ?_
    refine lv_iload_n hx hb d_M_rule4_14 rfl (lv_at hl 1 rfl) ?_
    obtain ⟨v_2, e_3, hf⟩ := sr_b hf
    refine sr_iald hx hb hK Z 3 2 rfl rfl e_3 d_M_rule4_15 ?_
    refine lv_bipush (v := 7) hx hb d_M_rule4_16 (by decide) ?_
    refine lv_icmp_ne (tgt := 117) hx hb d_M_rule4_18 rfl (fun q_4 => ?_) (fun q_4 => ?_)
    · have hf := sr_if q_4 hf
      exact k_M_rule4_117 X hk2 Z (lv_sub hl [0, 1] rfl) hf
    · have hf := sr_it q_4 hf
      refine lv_iconst (v := 0) hx hb d_M_rule4_21 (by decide) ?_
      refine lv_istore_n (lv' := [(2, .int 0), (0, .ref (h 0)), (1, .int x1)]) hx hb d_M_rule4_22 rfl hl (by decide) rfl (fun ls hl => ?_)
      exact k_M_rule4_23_it X hk2 _ Z (lv_sub hl [1, 2, 0] rfl) hf
def f_M_rule4_2_it (u0 : St) : Nat → Int32 → Option (Int32)
  | 0 => fun _ => none
  | n + 1 => fun x1 => f_M_rule4_2 (f_M_rule4_2_it u0 n) u0 x1
set_option maxHeartbeats 4000000 in
set_option maxRecDepth 100000 in
theorem k_M_rule4_2_it {u0 : St} {r : Int32} (X : sr_X D (tM t) b_M_rule4 3 R_M w_M_rule4 p s m args meth c A (some .boolean)) (n : Nat) : ∀ {x1 : Int32} {H : Heap} {locs : List Loc} {ls : Array Slot}, sr_Z D A s.heap (wM h t u0) H locs → lv_has ls 3 [(0, .ref (h 0)), (1, .int x1)] → f_M_rule4_2_it u0 n x1 = some r → W p l e (sr_rm 1 24) s m args below meth c H locs 0 0 (sr_Qi D (tM t) below args s A (wM h t u0) r) (F0 m 2 ls []) := by
  induction n with
  | zero => intro x1 H locs ls Z hl hf; exact absurd hf (by simp [f_M_rule4_2_it])
  | succ n ih =>
    intro x1 H locs ls Z hl hf
    exact k_M_rule4_2 X (fun x1 H locs ls Z hl hf => ih Z hl hf) Z hl hf
def f_M_rule4 (u0 : St) : Option (Int32) :=
  f_M_rule4_2_it u0 60 0
set_option maxHeartbeats 4000000 in
set_option maxRecDepth 100000 in
theorem k_M_rule4_0 {u0 : St} {r : Int32} (X : sr_X D (tM t) b_M_rule4 3 R_M w_M_rule4 p s m args meth c A (some .boolean)) (Z : sr_Z D A s.heap (wM h t u0) H locs) (hl : lv_has ls 3 [(0, .ref (h 0))]) (hf : f_M_rule4 u0 = some r) : W p l e (sr_rm 1 24) s m args below meth c H locs 0 0 (sr_Qi D (tM t) below args s A (wM h t u0) r) (F0 m 0 ls []) := by
  have hx := X.1
  have hb := X.2.1
  have hK := X.2.2.2.2.2.2.1
  unfold f_M_rule4 at hf
  refine lv_iconst (v := 0) hx hb d_M_rule4_0 (by decide) ?_
  refine lv_istore_n (lv' := [(1, .int 0), (0, .ref (h 0))]) hx hb d_M_rule4_1 rfl hl (by decide) rfl (fun ls hl => ?_)
  exact k_M_rule4_2_it X _ Z (lv_sub hl [1, 0] rfl) hf
end
set_option maxHeartbeats 4000000 in
set_option maxRecDepth 100000 in
theorem c_M_rule4 {l : Launch} {D : va_G} {h : Nat → Nat} {t : Nat → ClassId} {sz : Nat} {u0 : St} {r : Int32} (hf : f_M_rule4 u0 = some r) : sr_Ci l y_M_rule4 w_M_rule4 (sr_rm 1 24) D (tM t) (wM h t u0) (wM h t u0) sz [.ref (h 0)] r := by
  refine Met.ofW (cc := b_M_rule4) (maxL := 3) (ret := (some .boolean)) (by decide) rfl ?_
  intro p e s m args below meth c s₁ B hml hv
  obtain ⟨rfl, hsz, hP, hK, hD0⟩ := hv
  subst hsz
  have X : sr_X D (tM t) b_M_rule4 3 R_M w_M_rule4 p s m _ meth c (va_A (wM h t u0) s.heap.size) (some .boolean) := ⟨B.exec, B.bytes, hml, findClass_of_methodNamed B.named, B.notSynchronized, atoms_spec (ws := w_M_rule4) B.pre, hK, fun q h => Or.inr h, B.returns⟩
  have Z : sr_Z D (va_A (wM h t u0) s.heap.size) s.heap (wM h t u0) s.heap [] := ⟨hP, hD0.self, va_S.rf⟩
  have hl := lv_entry ([.ref (h 0)] : List Value) (n := 3) (Nat.le_of_ble_eq_true rfl)
  rw [lg_entry_eq]
  exact k_M_rule4_0 X Z hl hf
/-! M_rule5 -/
theorem d_M_rule5_0 : decode b_M_rule5 0 = .ok (.aload_n 0, 1) := by decide +kernel
theorem d_M_rule5_1 : decode b_M_rule5 1 = .ok (.getfield 28, 3) := by decide +kernel
theorem d_M_rule5_4 : decode b_M_rule5 4 = .ok (.iload_n 1, 1) := by decide +kernel
theorem d_M_rule5_5 : decode b_M_rule5 5 = .ok (.iaload, 1) := by decide +kernel
theorem d_M_rule5_6 : decode b_M_rule5 6 = .ok (.istore_n 2, 1) := by decide +kernel
theorem d_M_rule5_7 : decode b_M_rule5 7 = .ok (.aload_n 0, 1) := by decide +kernel
theorem d_M_rule5_8 : decode b_M_rule5 8 = .ok (.getfield 31, 3) := by decide +kernel
theorem d_M_rule5_11 : decode b_M_rule5 11 = .ok (.iload_n 1, 1) := by decide +kernel
theorem d_M_rule5_12 : decode b_M_rule5 12 = .ok (.iaload, 1) := by decide +kernel
theorem d_M_rule5_13 : decode b_M_rule5 13 = .ok (.istore_n 3, 1) := by decide +kernel
theorem d_M_rule5_14 : decode b_M_rule5 14 = .ok (.iload_n 2, 1) := by decide +kernel
theorem d_M_rule5_15 : decode b_M_rule5 15 = .ok (.iload_n 3, 1) := by decide +kernel
theorem d_M_rule5_16 : decode b_M_rule5 16 = .ok (.if_icmp .eq 39, 3) := by decide +kernel
theorem d_M_rule5_19 : decode b_M_rule5 19 = .ok (.aload_n 0, 1) := by decide +kernel
theorem d_M_rule5_20 : decode b_M_rule5 20 = .ok (.iload_n 2, 1) := by decide +kernel
theorem d_M_rule5_21 : decode b_M_rule5 21 = .ok (.iload_n 3, 1) := by decide +kernel
theorem d_M_rule5_22 : decode b_M_rule5 22 = .ok (.invokevirtual 125, 3) := by decide +kernel
theorem d_M_rule5_25 : decode b_M_rule5 25 = .ok (.ifCond .ne 30, 3) := by decide +kernel
theorem d_M_rule5_28 : decode b_M_rule5 28 = .ok (.aload_n 0, 1) := by decide +kernel
theorem d_M_rule5_29 : decode b_M_rule5 29 = .ok (.iload_n 3, 1) := by decide +kernel
theorem d_M_rule5_30 : decode b_M_rule5 30 = .ok (.iload_n 2, 1) := by decide +kernel
theorem d_M_rule5_31 : decode b_M_rule5 31 = .ok (.invokevirtual 125, 3) := by decide +kernel
theorem d_M_rule5_34 : decode b_M_rule5 34 = .ok (.ifCond .ne 21, 3) := by decide +kernel
theorem d_M_rule5_37 : decode b_M_rule5 37 = .ok (.aload_n 0, 1) := by decide +kernel
theorem d_M_rule5_38 : decode b_M_rule5 38 = .ok (.getfield 13, 3) := by decide +kernel
theorem d_M_rule5_41 : decode b_M_rule5 41 = .ok (.iload_n 2, 1) := by decide +kernel
theorem d_M_rule5_42 : decode b_M_rule5 42 = .ok (.iaload, 1) := by decide +kernel
theorem d_M_rule5_43 : decode b_M_rule5 43 = .ok (.ifCond .gt 12, 3) := by decide +kernel
theorem d_M_rule5_46 : decode b_M_rule5 46 = .ok (.aload_n 0, 1) := by decide +kernel
theorem d_M_rule5_47 : decode b_M_rule5 47 = .ok (.getfield 13, 3) := by decide +kernel
theorem d_M_rule5_50 : decode b_M_rule5 50 = .ok (.iload_n 3, 1) := by decide +kernel
theorem d_M_rule5_51 : decode b_M_rule5 51 = .ok (.iaload, 1) := by decide +kernel
theorem d_M_rule5_52 : decode b_M_rule5 52 = .ok (.ifCond .le 5, 3) := by decide +kernel
theorem d_M_rule5_55 : decode b_M_rule5 55 = .ok (.iconst 0, 1) := by decide +kernel
theorem d_M_rule5_56 : decode b_M_rule5 56 = .ok (.ireturn, 1) := by decide +kernel
theorem d_M_rule5_57 : decode b_M_rule5 57 = .ok (.iconst 0, 1) := by decide +kernel
theorem d_M_rule5_58 : decode b_M_rule5 58 = .ok (.istore 4, 2) := by decide +kernel
theorem d_M_rule5_60 : decode b_M_rule5 60 = .ok (.iconst 0, 1) := by decide +kernel
theorem d_M_rule5_61 : decode b_M_rule5 61 = .ok (.istore 5, 2) := by decide +kernel
theorem d_M_rule5_63 : decode b_M_rule5 63 = .ok (.iload 5, 2) := by decide +kernel
theorem d_M_rule5_65 : decode b_M_rule5 65 = .ok (.aload_n 0, 1) := by decide +kernel
theorem d_M_rule5_66 : decode b_M_rule5 66 = .ok (.getfield 100, 3) := by decide +kernel
theorem d_M_rule5_69 : decode b_M_rule5 69 = .ok (.if_icmp .ge 38, 3) := by decide +kernel
theorem d_M_rule5_72 : decode b_M_rule5 72 = .ok (.aload_n 0, 1) := by decide +kernel
theorem d_M_rule5_73 : decode b_M_rule5 73 = .ok (.iload_n 2, 1) := by decide +kernel
theorem d_M_rule5_74 : decode b_M_rule5 74 = .ok (.iload 5, 2) := by decide +kernel
theorem d_M_rule5_76 : decode b_M_rule5 76 = .ok (.invokevirtual 125, 3) := by decide +kernel
theorem d_M_rule5_79 : decode b_M_rule5 79 = .ok (.ifCond .eq 18, 3) := by decide +kernel
theorem d_M_rule5_82 : decode b_M_rule5 82 = .ok (.aload_n 0, 1) := by decide +kernel
theorem d_M_rule5_83 : decode b_M_rule5 83 = .ok (.iload_n 3, 1) := by decide +kernel
theorem d_M_rule5_84 : decode b_M_rule5 84 = .ok (.iload 5, 2) := by decide +kernel
theorem d_M_rule5_86 : decode b_M_rule5 86 = .ok (.invokevirtual 125, 3) := by decide +kernel
theorem d_M_rule5_89 : decode b_M_rule5 89 = .ok (.ifCond .eq 8, 3) := by decide +kernel
theorem d_M_rule5_92 : decode b_M_rule5 92 = .ok (.iload 5, 2) := by decide +kernel
theorem d_M_rule5_94 : decode b_M_rule5 94 = .ok (.goto 5, 3) := by decide +kernel
theorem d_M_rule5_97 : decode b_M_rule5 97 = .ok (.iload 4, 2) := by decide +kernel
theorem d_M_rule5_99 : decode b_M_rule5 99 = .ok (.istore 4, 2) := by decide +kernel
theorem d_M_rule5_101 : decode b_M_rule5 101 = .ok (.iinc 5 1, 3) := by decide +kernel
theorem d_M_rule5_104 : decode b_M_rule5 104 = .ok (.goto (-41), 3) := by decide +kernel
theorem d_M_rule5_107 : decode b_M_rule5 107 = .ok (.aload_n 0, 1) := by decide +kernel
theorem d_M_rule5_108 : decode b_M_rule5 108 = .ok (.getfield 16, 3) := by decide +kernel
theorem d_M_rule5_111 : decode b_M_rule5 111 = .ok (.iload 4, 2) := by decide +kernel
theorem d_M_rule5_113 : decode b_M_rule5 113 = .ok (.iaload, 1) := by decide +kernel
theorem d_M_rule5_114 : decode b_M_rule5 114 = .ok (.bipush 9, 2) := by decide +kernel
theorem d_M_rule5_116 : decode b_M_rule5 116 = .ok (.if_icmp .eq 5, 3) := by decide +kernel
theorem d_M_rule5_119 : decode b_M_rule5 119 = .ok (.iconst 0, 1) := by decide +kernel
theorem d_M_rule5_120 : decode b_M_rule5 120 = .ok (.ireturn, 1) := by decide +kernel
theorem d_M_rule5_121 : decode b_M_rule5 121 = .ok (.iconst 0, 1) := by decide +kernel
theorem d_M_rule5_122 : decode b_M_rule5 122 = .ok (.istore 5, 2) := by decide +kernel
theorem d_M_rule5_124 : decode b_M_rule5 124 = .ok (.iload 5, 2) := by decide +kernel
theorem d_M_rule5_126 : decode b_M_rule5 126 = .ok (.aload_n 0, 1) := by decide +kernel
theorem d_M_rule5_127 : decode b_M_rule5 127 = .ok (.getfield 100, 3) := by decide +kernel
theorem d_M_rule5_130 : decode b_M_rule5 130 = .ok (.if_icmp .ge 76, 3) := by decide +kernel
theorem d_M_rule5_133 : decode b_M_rule5 133 = .ok (.aload_n 0, 1) := by decide +kernel
theorem d_M_rule5_134 : decode b_M_rule5 134 = .ok (.iload 5, 2) := by decide +kernel
theorem d_M_rule5_136 : decode b_M_rule5 136 = .ok (.iload 4, 2) := by decide +kernel
theorem d_M_rule5_138 : decode b_M_rule5 138 = .ok (.invokevirtual 125, 3) := by decide +kernel
theorem d_M_rule5_141 : decode b_M_rule5 141 = .ok (.ifCond .eq 27, 3) := by decide +kernel
theorem d_M_rule5_144 : decode b_M_rule5 144 = .ok (.aload_n 0, 1) := by decide +kernel
theorem d_M_rule5_145 : decode b_M_rule5 145 = .ok (.iload_n 2, 1) := by decide +kernel
theorem d_M_rule5_146 : decode b_M_rule5 146 = .ok (.iload 5, 2) := by decide +kernel
theorem d_M_rule5_148 : decode b_M_rule5 148 = .ok (.invokevirtual 125, 3) := by decide +kernel
theorem d_M_rule5_151 : decode b_M_rule5 151 = .ok (.ifCond .ne 13, 3) := by decide +kernel
theorem d_M_rule5_154 : decode b_M_rule5 154 = .ok (.aload_n 0, 1) := by decide +kernel
theorem d_M_rule5_155 : decode b_M_rule5 155 = .ok (.iload_n 3, 1) := by decide +kernel
theorem d_M_rule5_156 : decode b_M_rule5 156 = .ok (.iload 5, 2) := by decide +kernel
theorem d_M_rule5_158 : decode b_M_rule5 158 = .ok (.invokevirtual 125, 3) := by decide +kernel
theorem d_M_rule5_161 : decode b_M_rule5 161 = .ok (.ifCond .eq 7, 3) := by decide +kernel
theorem d_M_rule5_164 : decode b_M_rule5 164 = .ok (.iconst 1, 1) := by decide +kernel
theorem d_M_rule5_165 : decode b_M_rule5 165 = .ok (.goto 4, 3) := by decide +kernel
theorem d_M_rule5_168 : decode b_M_rule5 168 = .ok (.iconst 0, 1) := by decide +kernel
theorem d_M_rule5_169 : decode b_M_rule5 169 = .ok (.istore 6, 2) := by decide +kernel
theorem d_M_rule5_171 : decode b_M_rule5 171 = .ok (.iload 6, 2) := by decide +kernel
theorem d_M_rule5_173 : decode b_M_rule5 173 = .ok (.ifCond .eq 27, 3) := by decide +kernel
theorem d_M_rule5_176 : decode b_M_rule5 176 = .ok (.aload_n 0, 1) := by decide +kernel
theorem d_M_rule5_177 : decode b_M_rule5 177 = .ok (.getfield 13, 3) := by decide +kernel
theorem d_M_rule5_180 : decode b_M_rule5 180 = .ok (.iload 5, 2) := by decide +kernel
theorem d_M_rule5_182 : decode b_M_rule5 182 = .ok (.iaload, 1) := by decide +kernel
theorem d_M_rule5_183 : decode b_M_rule5 183 = .ok (.ifCond .gt 15, 3) := by decide +kernel
theorem d_M_rule5_186 : decode b_M_rule5 186 = .ok (.aload_n 0, 1) := by decide +kernel
theorem d_M_rule5_187 : decode b_M_rule5 187 = .ok (.getfield 16, 3) := by decide +kernel
theorem d_M_rule5_190 : decode b_M_rule5 190 = .ok (.iload 5, 2) := by decide +kernel
theorem d_M_rule5_192 : decode b_M_rule5 192 = .ok (.iaload, 1) := by decide +kernel
theorem d_M_rule5_193 : decode b_M_rule5 193 = .ok (.bipush 11, 2) := by decide +kernel
theorem d_M_rule5_195 : decode b_M_rule5 195 = .ok (.if_icmp .ne 5, 3) := by decide +kernel
theorem d_M_rule5_198 : decode b_M_rule5 198 = .ok (.iconst 0, 1) := by decide +kernel
theorem d_M_rule5_199 : decode b_M_rule5 199 = .ok (.ireturn, 1) := by decide +kernel
theorem d_M_rule5_200 : decode b_M_rule5 200 = .ok (.iinc 5 1, 3) := by decide +kernel
theorem d_M_rule5_203 : decode b_M_rule5 203 = .ok (.goto (-79), 3) := by decide +kernel
theorem d_M_rule5_206 : decode b_M_rule5 206 = .ok (.iconst 1, 1) := by decide +kernel
theorem d_M_rule5_207 : decode b_M_rule5 207 = .ok (.ireturn, 1) := by decide +kernel
section
variable {p : Program} {l : Launch} {e : Env} {s : State} {m : MethodId} {args : Array Value} {below : List Frame} {meth : Method} {c : Code} {H : Heap} {locs : List Loc} {ls : Array Slot} {D : va_G} {A : Nat → Prop} {h o : Nat → Nat} {t v : Nat → ClassId}
def f_M_rule5_200 (k124 : Int32 → Int32 → Int32 → Int32 → Option (Int32)) (u0 : St) (x2 : Int32) (x3 : Int32) (x4 : Int32) (x5 : Int32) : Option (Int32) :=
  k124 x2 x3 x4 (x5 + 1)
set_option maxHeartbeats 4000000 in
set_option maxRecDepth 100000 in
theorem k_M_rule5_200 {k124 : Int32 → Int32 → Int32 → Int32 → Option (Int32)} {u0 : St} {x2 : Int32} {x3 : Int32} {x4 : Int32} {x5 : Int32} {r : Int32} (X : sr_X D (tM t) b_M_rule5 7 R_M w_M_rule5 p s m args meth c A (some .boolean)) (hk124 : ∀ (x2 : Int32) (x3 : Int32) (x4 : Int32) (x5 : Int32) (H : Heap) (locs : List Loc) (ls : Array Slot), sr_Z D A s.heap (wM h t u0) H locs → lv_has ls 7 [(0, .ref (h 0)), (2, .int x2), (3, .int x3), (4, .int x4), (5, .int x5)] → k124 x2 x3 x4 x5 = some r → W p l e (sr_rm 1 24) s m args below meth c H locs 0 0 (sr_Qi D (tM t) below args s A (wM h t u0) r) (F0 m 124 ls [])) (Z : sr_Z D A s.heap (wM h t u0) H locs) (hl : lv_has ls 7 [(0, .ref (h 0)), (2, .int x2), (3, .int x3), (4, .int x4), (5, .int x5)]) (hf : f_M_rule5_200 k124 u0 x2 x3 x4 x5 = some r) : W p l e (sr_rm 1 24) s m args below meth c H locs 0 0 (sr_Qi D (tM t) below args s A (wM h t u0) r) (F0 m 200 ls []) := by
  have hx := X.1
  have hb := X.2.1
  have hK := X.2.2.2.2.2.2.1
  unfold f_M_rule5_200 at hf
  refine lv_iinc (k := 4) (v := x5 + 1) (lv' := [(5, .int (x5 + 1)), (0, .ref (h 0)), (2, .int x2), (3, .int x3), (4, .int x4)]) hx hb d_M_rule5_200 hl rfl rfl (by decide) rfl (fun ls hl => ?_)
  refine lv_goto (tgt := 124) hx hb d_M_rule5_203 rfl ?_
  exact hk124 x2 x3 x4 (x5 + 1) _ _ _ Z (lv_sub hl [1, 2, 3, 4, 0] rfl) hf
def f_M_rule5_169 (k124 : Int32 → Int32 → Int32 → Int32 → Option (Int32)) (u0 : St) (x2 : Int32) (x3 : Int32) (x4 : Int32) (x5 : Int32) (y0 : Int32) : Option (Int32) :=
  if y0 = 0 then
    f_M_rule5_200 k124 u0 x2 x3 x4 x5
  else
    (sr_ald 24 (u0 2) x5).bind fun v_27 =>
    if 0 < v_27 then
      some 0
    else
      (sr_ald 24 (u0 3) x5).bind fun v_30 =>
      if v_30 = 11 then
        some 0
      else
        f_M_rule5_200 k124 u0 x2 x3 x4 x5
set_option maxHeartbeats 4000000 in
set_option maxRecDepth 100000 in
theorem k_M_rule5_169 {k124 : Int32 → Int32 → Int32 → Int32 → Option (Int32)} {u0 : St} {x2 : Int32} {x3 : Int32} {x4 : Int32} {x5 : Int32} {y0 : Int32} {r : Int32} (X : sr_X D (tM t) b_M_rule5 7 R_M w_M_rule5 p s m args meth c A (some .boolean)) (hk124 : ∀ (x2 : Int32) (x3 : Int32) (x4 : Int32) (x5 : Int32) (H : Heap) (locs : List Loc) (ls : Array Slot), sr_Z D A s.heap (wM h t u0) H locs → lv_has ls 7 [(0, .ref (h 0)), (2, .int x2), (3, .int x3), (4, .int x4), (5, .int x5)] → k124 x2 x3 x4 x5 = some r → W p l e (sr_rm 1 24) s m args below meth c H locs 0 0 (sr_Qi D (tM t) below args s A (wM h t u0) r) (F0 m 124 ls [])) (Z : sr_Z D A s.heap (wM h t u0) H locs) (hl : lv_has ls 7 [(0, .ref (h 0)), (2, .int x2), (3, .int x3), (4, .int x4), (5, .int x5)]) (hf : f_M_rule5_169 k124 u0 x2 x3 x4 x5 y0 = some r) : W p l e (sr_rm 1 24) s m args below meth c H locs 0 0 (sr_Qi D (tM t) below args s A (wM h t u0) r) (F0 m 169 ls [.int y0]) := by
  have hx := X.1
  have hb := X.2.1
  have hK := X.2.2.2.2.2.2.1
  unfold f_M_rule5_169 at hf
  refine lv_istore (lv' := [(6, .int y0), (0, .ref (h 0)), (2, .int x2), (3, .int x3), (4, .int x4), (5, .int x5)]) hx hb d_M_rule5_169 hl (by decide) rfl (fun ls hl => ?_)
  refine lv_iload hx hb d_M_rule5_171 (lv_at hl 0 rfl) ?_
  refine lv_if_eq (tgt := 200) hx hb d_M_rule5_173 rfl (fun q_26 => ?_) (fun q_26 => ?_)
  · have hf := sr_it q_26 hf
    exact k_M_rule5_200 X hk124 Z (lv_sub hl [1, 2, 3, 4, 5] rfl) hf
  · have hf := sr_if q_26 hf
    refine lv_aload_n hx hb d_M_rule5_176 rfl (lv_at hl 1 rfl) ?_
    refine g_M_13_M X Z d_M_rule5_177 ?_
    refine lv_iload hx hb d_M_rule5_180 (lv_at hl 5 rfl) ?_
    obtain ⟨v_27, e_28, hf⟩ := sr_b hf
    refine sr_iald hx hb hK Z 2 1 rfl rfl e_28 d_M_rule5_182 ?_
    refine lv_if_gt (tgt := 198) hx hb d_M_rule5_183 rfl (fun q_29 => ?_) (fun q_29 => ?_)
    · have hf := sr_it q_29 hf
      refine lv_iconst (v := 0) hx hb d_M_rule5_198 (by decide) ?_
      cases hf
      exact sr_retz X Z (by decide) d_M_rule5_199
    · have hf := sr_if q_29 hf
      refine lv_aload_n hx hb d_M_rule5_186 rfl (lv_at hl 1 rfl) ?_
      refine g_M_16_M X Z d_M_rule5_187 ?_
      refine lv_iload hx hb d_M_rule5_190 (lv_at hl 5 rfl) ?_
      obtain ⟨v_30, e_31, hf⟩ := sr_b hf
      refine sr_iald hx hb hK Z 3 2 rfl rfl e_31 d_M_rule5_192 ?_
      refine lv_bipush (v := 11) hx hb d_M_rule5_193 (by decide) ?_
      refine lv_icmp_ne (tgt := 200) hx hb d_M_rule5_195 rfl (fun q_32 => ?_) (fun q_32 => ?_)
      · have hf := sr_if q_32 hf
        exact k_M_rule5_200 X hk124 Z (lv_sub hl [1, 2, 3, 4, 5] rfl) hf
      · have hf := sr_it q_32 hf
        refine lv_iconst (v := 0) hx hb d_M_rule5_198 (by decide) ?_
        cases hf
        exact sr_retz X Z (by decide) d_M_rule5_199
def f_M_rule5_168 (k124 : Int32 → Int32 → Int32 → Int32 → Option (Int32)) (u0 : St) (x2 : Int32) (x3 : Int32) (x4 : Int32) (x5 : Int32) : Option (Int32) :=
  f_M_rule5_169 k124 u0 x2 x3 x4 x5 0
set_option maxHeartbeats 4000000 in
set_option maxRecDepth 100000 in
theorem k_M_rule5_168 {k124 : Int32 → Int32 → Int32 → Int32 → Option (Int32)} {u0 : St} {x2 : Int32} {x3 : Int32} {x4 : Int32} {x5 : Int32} {r : Int32} (X : sr_X D (tM t) b_M_rule5 7 R_M w_M_rule5 p s m args meth c A (some .boolean)) (hk124 : ∀ (x2 : Int32) (x3 : Int32) (x4 : Int32) (x5 : Int32) (H : Heap) (locs : List Loc) (ls : Array Slot), sr_Z D A s.heap (wM h t u0) H locs → lv_has ls 7 [(0, .ref (h 0)), (2, .int x2), (3, .int x3), (4, .int x4), (5, .int x5)] → k124 x2 x3 x4 x5 = some r → W p l e (sr_rm 1 24) s m args below meth c H locs 0 0 (sr_Qi D (tM t) below args s A (wM h t u0) r) (F0 m 124 ls [])) (Z : sr_Z D A s.heap (wM h t u0) H locs) (hl : lv_has ls 7 [(0, .ref (h 0)), (2, .int x2), (3, .int x3), (4, .int x4), (5, .int x5)]) (hf : f_M_rule5_168 k124 u0 x2 x3 x4 x5 = some r) : W p l e (sr_rm 1 24) s m args below meth c H locs 0 0 (sr_Qi D (tM t) below args s A (wM h t u0) r) (F0 m 168 ls []) := by
  have hx := X.1
  have hb := X.2.1
  have hK := X.2.2.2.2.2.2.1
  unfold f_M_rule5_168 at hf
  refine lv_iconst (v := 0) hx hb d_M_rule5_168 (by decide) ?_
  exact k_M_rule5_169 X hk124 Z (lv_sub hl [0, 1, 2, 3, 4] rfl) hf
def f_M_rule5_164 (k124 : Int32 → Int32 → Int32 → Int32 → Option (Int32)) (u0 : St) (x2 : Int32) (x3 : Int32) (x4 : Int32) (x5 : Int32) : Option (Int32) :=
  f_M_rule5_169 k124 u0 x2 x3 x4 x5 1
set_option maxHeartbeats 4000000 in
set_option maxRecDepth 100000 in
theorem k_M_rule5_164 {k124 : Int32 → Int32 → Int32 → Int32 → Option (Int32)} {u0 : St} {x2 : Int32} {x3 : Int32} {x4 : Int32} {x5 : Int32} {r : Int32} (X : sr_X D (tM t) b_M_rule5 7 R_M w_M_rule5 p s m args meth c A (some .boolean)) (hk124 : ∀ (x2 : Int32) (x3 : Int32) (x4 : Int32) (x5 : Int32) (H : Heap) (locs : List Loc) (ls : Array Slot), sr_Z D A s.heap (wM h t u0) H locs → lv_has ls 7 [(0, .ref (h 0)), (2, .int x2), (3, .int x3), (4, .int x4), (5, .int x5)] → k124 x2 x3 x4 x5 = some r → W p l e (sr_rm 1 24) s m args below meth c H locs 0 0 (sr_Qi D (tM t) below args s A (wM h t u0) r) (F0 m 124 ls [])) (Z : sr_Z D A s.heap (wM h t u0) H locs) (hl : lv_has ls 7 [(0, .ref (h 0)), (2, .int x2), (3, .int x3), (4, .int x4), (5, .int x5)]) (hf : f_M_rule5_164 k124 u0 x2 x3 x4 x5 = some r) : W p l e (sr_rm 1 24) s m args below meth c H locs 0 0 (sr_Qi D (tM t) below args s A (wM h t u0) r) (F0 m 164 ls []) := by
  have hx := X.1
  have hb := X.2.1
  have hK := X.2.2.2.2.2.2.1
  unfold f_M_rule5_164 at hf
  refine lv_iconst (v := 1) hx hb d_M_rule5_164 (by decide) ?_
  refine lv_goto (tgt := 169) hx hb d_M_rule5_165 rfl ?_
  exact k_M_rule5_169 X hk124 Z (lv_sub hl [0, 1, 2, 3, 4] rfl) hf
def f_M_rule5_124 (k124 : Int32 → Int32 → Int32 → Int32 → Option (Int32)) (u0 : St) (x2 : Int32) (x3 : Int32) (x4 : Int32) (x5 : Int32) : Option (Int32) :=
  if (u0 0 0) ≤ x5 then
    some 1
  else
    (f_M_below u0 x5 x4).bind fun v_23 =>
    if v_23 = 0 then
      f_M_rule5_168 k124 u0 x2 x3 x4 x5
    else
      (f_M_below u0 x2 x5).bind fun v_33 =>
      if v_33 = 0 then
        (f_M_below u0 x3 x5).bind fun v_36 =>
        if v_36 = 0 then
          f_M_rule5_168 k124 u0 x2 x3 x4 x5
        else
          f_M_rule5_164 k124 u0 x2 x3 x4 x5
      else
        f_M_rule5_164 k124 u0 x2 x3 x4 x5
set_option maxHeartbeats 4000000 in
set_option maxRecDepth 100000 in
theorem k_M_rule5_124 {k124 : Int32 → Int32 → Int32 → Int32 → Option (Int32)} {u0 : St} {x2 : Int32} {x3 : Int32} {x4 : Int32} {x5 : Int32} {r : Int32} (X : sr_X D (tM t) b_M_rule5 7 R_M w_M_rule5 p s m args meth c A (some .boolean)) (hk124 : ∀ (x2 : Int32) (x3 : Int32) (x4 : Int32) (x5 : Int32) (H : Heap) (locs : List Loc) (ls : Array Slot), sr_Z D A s.heap (wM h t u0) H locs → lv_has ls 7 [(0, .ref (h 0)), (2, .int x2), (3, .int x3), (4, .int x4), (5, .int x5)] → k124 x2 x3 x4 x5 = some r → W p l e (sr_rm 1 24) s m args below meth c H locs 0 0 (sr_Qi D (tM t) below args s A (wM h t u0) r) (F0 m 124 ls [])) (Z : sr_Z D A s.heap (wM h t u0) H locs) (hl : lv_has ls 7 [(0, .ref (h 0)), (2, .int x2), (3, .int x3), (4, .int x4), (5, .int x5)]) (hf : f_M_rule5_124 k124 u0 x2 x3 x4 x5 = some r) : W p l e (sr_rm 1 24) s m args below meth c H locs 0 0 (sr_Qi D (tM t) below args s A (wM h t u0) r) (F0 m 124 ls []) := by
  have hx := X.1
  have hb := X.2.1
  have hK := X.2.2.2.2.2.2.1
  unfold f_M_rule5_124 at hf
  refine lv_iload hx hb d_M_rule5_124 (lv_at hl 4 rfl) ?_
  refine lv_aload_n hx hb d_M_rule5_126 rfl (lv_at hl 0 rfl) ?_
  refine g_M_100_M X Z d_M_rule5_127 ?_
  refine lv_icmp_ge (tgt := 206) hx hb d_M_rule5_130 rfl (fun q_22 => ?_) (fun q_22 => ?_)
  · have hf := sr_it q_22 hf
    refine lv_iconst (v := 1) hx hb d_M_rule5_206 (by decide) ?_
    cases hf
    exact sr_retz X Z (by decide) d_M_rule5_207
  · have hf := sr_if q_22 hf
    refine lv_aload_n hx hb d_M_rule5_133 rfl (lv_at hl 0 rfl) ?_
    refine lv_iload hx hb d_M_rule5_134 (lv_at hl 4 rfl) ?_
    refine lv_iload hx hb d_M_rule5_136 (lv_at hl 3 rfl) ?_
    obtain ⟨v_23, e_24, hf⟩ := sr_b hf
    refine sr_cVi (As := [.int x5, .int x4]) (rest := []) X Z sr_cut_self hK (c_M_below e_24) (cw_M_125 X.2.2.2.2.2.1 (by decide)) 0 rfl rfl rfl hl rfl (Nat.le_of_ble_eq_true rfl) d_M_rule5_138 (fun H locs Z => ?_)
    refine lv_if_eq (tgt := 168) hx hb d_M_rule5_141 rfl (fun q_25 => ?_) (fun q_25 => ?_)
    · have hf := sr_it q_25 hf
      exact k_M_rule5_168 X hk124 Z (lv_sub hl [0, 1, 2, 3, 4] rfl) hf
    · have hf := sr_if q_25 hf
      refine lv_aload_n hx hb d_M_rule5_144 rfl (lv_at hl 0 rfl) ?_
      refine lv_iload_n hx hb d_M_rule5_145 rfl (lv_at hl 1 rfl) ?_
      refine lv_iload hx hb d_M_rule5_146 (lv_at hl 4 rfl) ?_
      obtain ⟨v_33, e_34, hf⟩ := sr_b hf
      refine sr_cVi (As := [.int x2, .int x5]) (rest := []) X Z sr_cut_self hK (c_M_below e_34) (cw_M_125 X.2.2.2.2.2.1 (by decide)) 0 rfl rfl rfl hl rfl (Nat.le_of_ble_eq_true rfl) d_M_rule5_148 (fun H locs Z => ?_)
      refine lv_if_ne (tgt := 164) hx hb d_M_rule5_151 rfl (fun q_35 => ?_) (fun q_35 => ?_)
      · have hf := sr_if q_35 hf
        exact k_M_rule5_164 X hk124 Z (lv_sub hl [0, 1, 2, 3, 4] rfl) hf
      · have hf := sr_it q_35 hf
        refine lv_aload_n hx hb d_M_rule5_154 rfl (lv_at hl 0 rfl) ?_
        refine lv_iload_n hx hb d_M_rule5_155 rfl (lv_at hl 2 rfl) ?_
        refine lv_iload hx hb d_M_rule5_156 (lv_at hl 4 rfl) ?_
        obtain ⟨v_36, e_37, hf⟩ := sr_b hf
        refine sr_cVi (As := [.int x3, .int x5]) (rest := []) X Z sr_cut_self hK (c_M_below e_37) (cw_M_125 X.2.2.2.2.2.1 (by decide)) 0 rfl rfl rfl hl rfl (Nat.le_of_ble_eq_true rfl) d_M_rule5_158 (fun H locs Z => ?_)
        refine lv_if_eq (tgt := 168) hx hb d_M_rule5_161 rfl (fun q_38 => ?_) (fun q_38 => ?_)
        · have hf := sr_it q_38 hf
          exact k_M_rule5_168 X hk124 Z (lv_sub hl [0, 1, 2, 3, 4] rfl) hf
        · have hf := sr_if q_38 hf
          exact k_M_rule5_164 X hk124 Z (lv_sub hl [0, 1, 2, 3, 4] rfl) hf
def f_M_rule5_124_it (u0 : St) : Nat → Int32 → Int32 → Int32 → Int32 → Option (Int32)
  | 0 => fun _ _ _ _ => none
  | n + 1 => fun x2 x3 x4 x5 => f_M_rule5_124 (f_M_rule5_124_it u0 n) u0 x2 x3 x4 x5
set_option maxHeartbeats 4000000 in
set_option maxRecDepth 100000 in
theorem k_M_rule5_124_it {u0 : St} {r : Int32} (X : sr_X D (tM t) b_M_rule5 7 R_M w_M_rule5 p s m args meth c A (some .boolean)) (n : Nat) : ∀ {x2 : Int32} {x3 : Int32} {x4 : Int32} {x5 : Int32} {H : Heap} {locs : List Loc} {ls : Array Slot}, sr_Z D A s.heap (wM h t u0) H locs → lv_has ls 7 [(0, .ref (h 0)), (2, .int x2), (3, .int x3), (4, .int x4), (5, .int x5)] → f_M_rule5_124_it u0 n x2 x3 x4 x5 = some r → W p l e (sr_rm 1 24) s m args below meth c H locs 0 0 (sr_Qi D (tM t) below args s A (wM h t u0) r) (F0 m 124 ls []) := by
  induction n with
  | zero => intro x2 x3 x4 x5 H locs ls Z hl hf; exact absurd hf (by simp [f_M_rule5_124_it])
  | succ n ih =>
    intro x2 x3 x4 x5 H locs ls Z hl hf
    exact k_M_rule5_124 X (fun x2 x3 x4 x5 H locs ls Z hl hf => ih Z hl hf) Z hl hf
def f_M_rule5_99 (k63 : Int32 → Int32 → Int32 → Int32 → Option (Int32)) (u0 : St) (x2 : Int32) (x3 : Int32) (x5 : Int32) (y0 : Int32) : Option (Int32) :=
  k63 x2 x3 y0 (x5 + 1)
set_option maxHeartbeats 4000000 in
set_option maxRecDepth 100000 in
theorem k_M_rule5_99 {k63 : Int32 → Int32 → Int32 → Int32 → Option (Int32)} {u0 : St} {x2 : Int32} {x3 : Int32} {x5 : Int32} {y0 : Int32} {r : Int32} (X : sr_X D (tM t) b_M_rule5 7 R_M w_M_rule5 p s m args meth c A (some .boolean)) (hk63 : ∀ (x2 : Int32) (x3 : Int32) (x4 : Int32) (x5 : Int32) (H : Heap) (locs : List Loc) (ls : Array Slot), sr_Z D A s.heap (wM h t u0) H locs → lv_has ls 7 [(0, .ref (h 0)), (2, .int x2), (3, .int x3), (4, .int x4), (5, .int x5)] → k63 x2 x3 x4 x5 = some r → W p l e (sr_rm 1 24) s m args below meth c H locs 0 0 (sr_Qi D (tM t) below args s A (wM h t u0) r) (F0 m 63 ls [])) (Z : sr_Z D A s.heap (wM h t u0) H locs) (hl : lv_has ls 7 [(0, .ref (h 0)), (2, .int x2), (3, .int x3), (5, .int x5)]) (hf : f_M_rule5_99 k63 u0 x2 x3 x5 y0 = some r) : W p l e (sr_rm 1 24) s m args below meth c H locs 0 0 (sr_Qi D (tM t) below args s A (wM h t u0) r) (F0 m 99 ls [.int y0]) := by
  have hx := X.1
  have hb := X.2.1
  have hK := X.2.2.2.2.2.2.1
  unfold f_M_rule5_99 at hf
  refine lv_istore (lv' := [(4, .int y0), (0, .ref (h 0)), (2, .int x2), (3, .int x3), (5, .int x5)]) hx hb d_M_rule5_99 hl (by decide) rfl (fun ls hl => ?_)
  refine lv_iinc (k := 4) (v := x5 + 1) (lv' := [(5, .int (x5 + 1)), (4, .int y0), (0, .ref (h 0)), (2, .int x2), (3, .int x3)]) hx hb d_M_rule5_101 hl rfl rfl (by decide) rfl (fun ls hl => ?_)
  refine lv_goto (tgt := 63) hx hb d_M_rule5_104 rfl ?_
  exact hk63 x2 x3 y0 (x5 + 1) _ _ _ Z (lv_sub hl [2, 3, 4, 1, 0] rfl) hf
def f_M_rule5_97 (k63 : Int32 → Int32 → Int32 → Int32 → Option (Int32)) (u0 : St) (x2 : Int32) (x3 : Int32) (x4 : Int32) (x5 : Int32) : Option (Int32) :=
  f_M_rule5_99 k63 u0 x2 x3 x5 x4
set_option maxHeartbeats 4000000 in
set_option maxRecDepth 100000 in
theorem k_M_rule5_97 {k63 : Int32 → Int32 → Int32 → Int32 → Option (Int32)} {u0 : St} {x2 : Int32} {x3 : Int32} {x4 : Int32} {x5 : Int32} {r : Int32} (X : sr_X D (tM t) b_M_rule5 7 R_M w_M_rule5 p s m args meth c A (some .boolean)) (hk63 : ∀ (x2 : Int32) (x3 : Int32) (x4 : Int32) (x5 : Int32) (H : Heap) (locs : List Loc) (ls : Array Slot), sr_Z D A s.heap (wM h t u0) H locs → lv_has ls 7 [(0, .ref (h 0)), (2, .int x2), (3, .int x3), (4, .int x4), (5, .int x5)] → k63 x2 x3 x4 x5 = some r → W p l e (sr_rm 1 24) s m args below meth c H locs 0 0 (sr_Qi D (tM t) below args s A (wM h t u0) r) (F0 m 63 ls [])) (Z : sr_Z D A s.heap (wM h t u0) H locs) (hl : lv_has ls 7 [(0, .ref (h 0)), (2, .int x2), (3, .int x3), (4, .int x4), (5, .int x5)]) (hf : f_M_rule5_97 k63 u0 x2 x3 x4 x5 = some r) : W p l e (sr_rm 1 24) s m args below meth c H locs 0 0 (sr_Qi D (tM t) below args s A (wM h t u0) r) (F0 m 97 ls []) := by
  have hx := X.1
  have hb := X.2.1
  have hK := X.2.2.2.2.2.2.1
  unfold f_M_rule5_97 at hf
  refine lv_iload hx hb d_M_rule5_97 (lv_at hl 3 rfl) ?_
  exact k_M_rule5_99 X hk63 Z (lv_sub hl [0, 1, 2, 4] rfl) hf
def f_M_rule5_63 (k63 : Int32 → Int32 → Int32 → Int32 → Option (Int32)) (u0 : St) (x2 : Int32) (x3 : Int32) (x4 : Int32) (x5 : Int32) : Option (Int32) :=
  if (u0 0 0) ≤ x5 then
    (sr_ald 24 (u0 3) x4).bind fun v_19 =>
    if v_19 = 9 then
      f_M_rule5_124_it u0 60 x2 x3 x4 0
    else
      some 0
  else
    (f_M_below u0 x2 x5).bind fun v_39 =>
    if v_39 = 0 then
      f_M_rule5_97 k63 u0 x2 x3 x4 x5
    else
      (f_M_below u0 x3 x5).bind fun v_42 =>
      if v_42 = 0 then
        f_M_rule5_97 k63 u0 x2 x3 x4 x5
      else
        f_M_rule5_99 k63 u0 x2 x3 x5 x5
set_option maxHeartbeats 4000000 in
set_option maxRecDepth 100000 in
theorem k_M_rule5_63 {k63 : Int32 → Int32 → Int32 → Int32 → Option (Int32)} {u0 : St} {x2 : Int32} {x3 : Int32} {x4 : Int32} {x5 : Int32} {r : Int32} (X : sr_X D (tM t) b_M_rule5 7 R_M w_M_rule5 p s m args meth c A (some .boolean)) (hk63 : ∀ (x2 : Int32) (x3 : Int32) (x4 : Int32) (x5 : Int32) (H : Heap) (locs : List Loc) (ls : Array Slot), sr_Z D A s.heap (wM h t u0) H locs → lv_has ls 7 [(0, .ref (h 0)), (2, .int x2), (3, .int x3), (4, .int x4), (5, .int x5)] → k63 x2 x3 x4 x5 = some r → W p l e (sr_rm 1 24) s m args below meth c H locs 0 0 (sr_Qi D (tM t) below args s A (wM h t u0) r) (F0 m 63 ls [])) (Z : sr_Z D A s.heap (wM h t u0) H locs) (hl : lv_has ls 7 [(0, .ref (h 0)), (2, .int x2), (3, .int x3), (4, .int x4), (5, .int x5)]) (hf : f_M_rule5_63 k63 u0 x2 x3 x4 x5 = some r) : W p l e (sr_rm 1 24) s m args below meth c H locs 0 0 (sr_Qi D (tM t) below args s A (wM h t u0) r) (F0 m 63 ls []) := by
  have hx := X.1
  have hb := X.2.1
  have hK := X.2.2.2.2.2.2.1
  unfold f_M_rule5_63 at hf
  refine lv_iload hx hb d_M_rule5_63 (lv_at hl 4 rfl) ?_
  refine lv_aload_n hx hb d_M_rule5_65 rfl (lv_at hl 0 rfl) ?_
  refine g_M_100_M X Z d_M_rule5_66 ?_
  refine lv_icmp_ge (tgt := 107) hx hb d_M_rule5_69 rfl (fun q_18 => ?_) (fun q_18 => ?_)
  · have hf := sr_it q_18 hf
    refine lv_aload_n hx hb d_M_rule5_107 rfl (lv_at hl 0 rfl) ?_
    refine g_M_16_M X Z d_M_rule5_108 ?_
    refine lv_iload hx hb d_M_rule5_111 (lv_at hl 3 rfl) ?_
    obtain ⟨v_19, e_20, hf⟩ := sr_b hf
    refine sr_iald hx hb hK Z 3 2 rfl rfl e_20 d_M_rule5_113 ?_
    refine lv_bipush (v := 9) hx hb d_M_rule5_114 (by decide) ?_
    refine lv_icmp_eq (tgt := 121) hx hb d_M_rule5_116 rfl (fun q_21 => ?_) (fun q_21 => ?_)
    · have hf := sr_it q_21 hf
      refine lv_iconst (v := 0) hx hb d_M_rule5_121 (by decide) ?_
      refine lv_istore (lv' := [(5, .int 0), (0, .ref (h 0)), (2, .int x2), (3, .int x3), (4, .int x4)]) hx hb d_M_rule5_122 hl (by decide) rfl (fun ls hl => ?_)
      exact k_M_rule5_124_it X _ Z (lv_sub hl [1, 2, 3, 4, 0] rfl) hf
    · have hf := sr_if q_21 hf
      refine lv_iconst (v := 0) hx hb d_M_rule5_119 (by decide) ?_
      cases hf
      exact sr_retz X Z (by decide) d_M_rule5_120
  · have hf := sr_if q_18 hf
    refine lv_aload_n hx hb d_M_rule5_72 rfl (lv_at hl 0 rfl) ?_
    refine lv_iload_n hx hb d_M_rule5_73 rfl (lv_at hl 1 rfl) ?_
    refine lv_iload hx hb d_M_rule5_74 (lv_at hl 4 rfl) ?_
    obtain ⟨v_39, e_40, hf⟩ := sr_b hf
    refine sr_cVi (As := [.int x2, .int x5]) (rest := []) X Z sr_cut_self hK (c_M_below e_40) (cw_M_125 X.2.2.2.2.2.1 (by decide)) 0 rfl rfl rfl hl rfl (Nat.le_of_ble_eq_true rfl) d_M_rule5_76 (fun H locs Z => ?_)
    refine lv_if_eq (tgt := 97) hx hb d_M_rule5_79 rfl (fun q_41 => ?_) (fun q_41 => ?_)
    · have hf := sr_it q_41 hf
      exact k_M_rule5_97 X hk63 Z (lv_sub hl [0, 1, 2, 3, 4] rfl) hf
    · have hf := sr_if q_41 hf
      refine lv_aload_n hx hb d_M_rule5_82 rfl (lv_at hl 0 rfl) ?_
      refine lv_iload_n hx hb d_M_rule5_83 rfl (lv_at hl 2 rfl) ?_
      refine lv_iload hx hb d_M_rule5_84 (lv_at hl 4 rfl) ?_
      obtain ⟨v_42, e_43, hf⟩ := sr_b hf
      refine sr_cVi (As := [.int x3, .int x5]) (rest := []) X Z sr_cut_self hK (c_M_below e_43) (cw_M_125 X.2.2.2.2.2.1 (by decide)) 0 rfl rfl rfl hl rfl (Nat.le_of_ble_eq_true rfl) d_M_rule5_86 (fun H locs Z => ?_)
      refine lv_if_eq (tgt := 97) hx hb d_M_rule5_89 rfl (fun q_44 => ?_) (fun q_44 => ?_)
      · have hf := sr_it q_44 hf
        exact k_M_rule5_97 X hk63 Z (lv_sub hl [0, 1, 2, 3, 4] rfl) hf
      · have hf := sr_if q_44 hf
        refine lv_iload hx hb d_M_rule5_92 (lv_at hl 4 rfl) ?_
        refine lv_goto (tgt := 99) hx hb d_M_rule5_94 rfl ?_
        exact k_M_rule5_99 X hk63 Z (lv_sub hl [0, 1, 2, 4] rfl) hf
def f_M_rule5_63_it (u0 : St) : Nat → Int32 → Int32 → Int32 → Int32 → Option (Int32)
  | 0 => fun _ _ _ _ => none
  | n + 1 => fun x2 x3 x4 x5 => f_M_rule5_63 (f_M_rule5_63_it u0 n) u0 x2 x3 x4 x5
set_option maxHeartbeats 4000000 in
set_option maxRecDepth 100000 in
theorem k_M_rule5_63_it {u0 : St} {r : Int32} (X : sr_X D (tM t) b_M_rule5 7 R_M w_M_rule5 p s m args meth c A (some .boolean)) (n : Nat) : ∀ {x2 : Int32} {x3 : Int32} {x4 : Int32} {x5 : Int32} {H : Heap} {locs : List Loc} {ls : Array Slot}, sr_Z D A s.heap (wM h t u0) H locs → lv_has ls 7 [(0, .ref (h 0)), (2, .int x2), (3, .int x3), (4, .int x4), (5, .int x5)] → f_M_rule5_63_it u0 n x2 x3 x4 x5 = some r → W p l e (sr_rm 1 24) s m args below meth c H locs 0 0 (sr_Qi D (tM t) below args s A (wM h t u0) r) (F0 m 63 ls []) := by
  induction n with
  | zero => intro x2 x3 x4 x5 H locs ls Z hl hf; exact absurd hf (by simp [f_M_rule5_63_it])
  | succ n ih =>
    intro x2 x3 x4 x5 H locs ls Z hl hf
    exact k_M_rule5_63 X (fun x2 x3 x4 x5 H locs ls Z hl hf => ih Z hl hf) Z hl hf
def f_M_rule5 (u0 : St) (x1 : Int32) : Option (Int32) :=
  (sr_ald 16 (u0 8) x1).bind fun v_1 =>
  (sr_ald 16 (u0 9) x1).bind fun v_3 =>
  if v_1 = v_3 then
    some 0
  else
    (f_M_below u0 v_1 v_3).bind fun v_6 =>
    if v_6 = 0 then
      (f_M_below u0 v_3 v_1).bind fun v_9 =>
      if v_9 = 0 then
        (sr_ald 24 (u0 2) v_1).bind fun v_12 =>
        if 0 < v_12 then
          some 0
        else
          (sr_ald 24 (u0 2) v_3).bind fun v_15 =>
          if v_15 ≤ 0 then
            f_M_rule5_63_it u0 60 v_1 v_3 0 0
          else
            some 0
      else
        some 0
    else
      some 0
set_option maxHeartbeats 4000000 in
set_option maxRecDepth 100000 in
theorem k_M_rule5_0 {u0 : St} {x1 : Int32} {r : Int32} (X : sr_X D (tM t) b_M_rule5 7 R_M w_M_rule5 p s m args meth c A (some .boolean)) (Z : sr_Z D A s.heap (wM h t u0) H locs) (hl : lv_has ls 7 [(0, .ref (h 0)), (1, .int x1)]) (hf : f_M_rule5 u0 x1 = some r) : W p l e (sr_rm 1 24) s m args below meth c H locs 0 0 (sr_Qi D (tM t) below args s A (wM h t u0) r) (F0 m 0 ls []) := by
  have hx := X.1
  have hb := X.2.1
  have hK := X.2.2.2.2.2.2.1
  unfold f_M_rule5 at hf
  refine lv_aload_n hx hb d_M_rule5_0 rfl (lv_at hl 0 rfl) ?_
  refine g_M_28_M X Z d_M_rule5_1 ?_
  refine lv_iload_n hx hb d_M_rule5_4 rfl (lv_at hl 1 rfl) ?_
  obtain ⟨v_1, e_2, hf⟩ := sr_b hf
  refine sr_iald hx hb hK Z 7 6 rfl rfl e_2 d_M_rule5_5 ?_
  refine lv_istore_n (lv' := [(2, .int v_1), (0, .ref (h 0)), (1, .int x1)]) hx hb d_M_rule5_6 rfl hl (by decide) rfl (fun ls hl => ?_)
  refine lv_aload_n hx hb d_M_rule5_7 rfl (lv_at hl 1 rfl) ?_
  refine g_M_31_M X Z d_M_rule5_8 ?_
  refine lv_iload_n hx hb d_M_rule5_11 rfl (lv_at hl 2 rfl) ?_
  obtain ⟨v_3, e_4, hf⟩ := sr_b hf
  refine sr_iald hx hb hK Z 8 7 rfl rfl e_4 d_M_rule5_12 ?_
  refine lv_istore_n (lv' := [(3, .int v_3), (2, .int v_1), (0, .ref (h 0)), (1, .int x1)]) hx hb d_M_rule5_13 rfl hl (by decide) rfl (fun ls hl => ?_)
  refine lv_iload_n hx hb d_M_rule5_14 rfl (lv_at hl 1 rfl) ?_
  refine lv_iload_n hx hb d_M_rule5_15 rfl (lv_at hl 0 rfl) ?_
  refine lv_icmp_eq (tgt := 55) hx hb d_M_rule5_16 rfl (fun q_5 => ?_) (fun q_5 => ?_)
  · have hf := sr_it q_5 hf
    refine lv_iconst (v := 0) hx hb d_M_rule5_55 (by decide) ?_
    cases hf
    exact sr_retz X Z (by decide) d_M_rule5_56
  · have hf := sr_if q_5 hf
    refine lv_aload_n hx hb d_M_rule5_19 rfl (lv_at hl 2 rfl) ?_
    refine lv_iload_n hx hb d_M_rule5_20 rfl (lv_at hl 1 rfl) ?_
    refine lv_iload_n hx hb d_M_rule5_21 rfl (lv_at hl 0 rfl) ?_
    obtain ⟨v_6, e_7, hf⟩ := sr_b hf
    refine sr_cVi (As := [.int v_1, .int v_3]) (rest := []) X Z sr_cut_self hK (c_M_below e_7) (cw_M_125 X.2.2.2.2.2.1 (by decide)) 0 rfl rfl rfl hl rfl (Nat.le_of_ble_eq_true rfl) d_M_rule5_22 (fun H locs Z => ?_)
    refine lv_if_ne (tgt := 55) hx hb d_M_rule5_25 rfl (fun q_8 => ?_) (fun q_8 => ?_)
    · have hf := sr_if q_8 hf
      refine lv_iconst (v := 0) hx hb d_M_rule5_55 (by decide) ?_
      cases hf
      exact sr_retz X Z (by decide) d_M_rule5_56
    · have hf := sr_it q_8 hf
      refine lv_aload_n hx hb d_M_rule5_28 rfl (lv_at hl 2 rfl) ?_
      refine lv_iload_n hx hb d_M_rule5_29 rfl (lv_at hl 0 rfl) ?_
      refine lv_iload_n hx hb d_M_rule5_30 rfl (lv_at hl 1 rfl) ?_
      obtain ⟨v_9, e_10, hf⟩ := sr_b hf
      refine sr_cVi (As := [.int v_3, .int v_1]) (rest := []) X Z sr_cut_self hK (c_M_below e_10) (cw_M_125 X.2.2.2.2.2.1 (by decide)) 0 rfl rfl rfl hl rfl (Nat.le_of_ble_eq_true rfl) d_M_rule5_31 (fun H locs Z => ?_)
      refine lv_if_ne (tgt := 55) hx hb d_M_rule5_34 rfl (fun q_11 => ?_) (fun q_11 => ?_)
      · have hf := sr_if q_11 hf
        refine lv_iconst (v := 0) hx hb d_M_rule5_55 (by decide) ?_
        cases hf
        exact sr_retz X Z (by decide) d_M_rule5_56
      · have hf := sr_it q_11 hf
        refine lv_aload_n hx hb d_M_rule5_37 rfl (lv_at hl 2 rfl) ?_
        refine g_M_13_M X Z d_M_rule5_38 ?_
        refine lv_iload_n hx hb d_M_rule5_41 rfl (lv_at hl 1 rfl) ?_
        obtain ⟨v_12, e_13, hf⟩ := sr_b hf
        refine sr_iald hx hb hK Z 2 1 rfl rfl e_13 d_M_rule5_42 ?_
        refine lv_if_gt (tgt := 55) hx hb d_M_rule5_43 rfl (fun q_14 => ?_) (fun q_14 => ?_)
        · have hf := sr_it q_14 hf
          refine lv_iconst (v := 0) hx hb d_M_rule5_55 (by decide) ?_
          cases hf
          exact sr_retz X Z (by decide) d_M_rule5_56
        · have hf := sr_if q_14 hf
          refine lv_aload_n hx hb d_M_rule5_46 rfl (lv_at hl 2 rfl) ?_
          refine g_M_13_M X Z d_M_rule5_47 ?_
          refine lv_iload_n hx hb d_M_rule5_50 rfl (lv_at hl 0 rfl) ?_
          obtain ⟨v_15, e_16, hf⟩ := sr_b hf
          refine sr_iald hx hb hK Z 2 1 rfl rfl e_16 d_M_rule5_51 ?_
          refine lv_if_le (tgt := 57) hx hb d_M_rule5_52 rfl (fun q_17 => ?_) (fun q_17 => ?_)
          · have hf := sr_it q_17 hf
            refine lv_iconst (v := 0) hx hb d_M_rule5_57 (by decide) ?_
            refine lv_istore (lv' := [(4, .int 0), (3, .int v_3), (2, .int v_1), (0, .ref (h 0)), (1, .int x1)]) hx hb d_M_rule5_58 hl (by decide) rfl (fun ls hl => ?_)
            refine lv_iconst (v := 0) hx hb d_M_rule5_60 (by decide) ?_
            refine lv_istore (lv' := [(5, .int 0), (4, .int 0), (3, .int v_3), (2, .int v_1), (0, .ref (h 0)), (1, .int x1)]) hx hb d_M_rule5_61 hl (by decide) rfl (fun ls hl => ?_)
            exact k_M_rule5_63_it X _ Z (lv_sub hl [4, 3, 2, 1, 0] rfl) hf
          · have hf := sr_if q_17 hf
            refine lv_iconst (v := 0) hx hb d_M_rule5_55 (by decide) ?_
            cases hf
            exact sr_retz X Z (by decide) d_M_rule5_56
end
set_option maxHeartbeats 4000000 in
set_option maxRecDepth 100000 in
theorem c_M_rule5 {l : Launch} {D : va_G} {h : Nat → Nat} {t : Nat → ClassId} {sz : Nat} {u0 : St} {x1 : Int32} {r : Int32} (hf : f_M_rule5 u0 x1 = some r) : sr_Ci l y_M_rule5 w_M_rule5 (sr_rm 1 24) D (tM t) (wM h t u0) (wM h t u0) sz [.ref (h 0), .int x1] r := by
  refine Met.ofW (cc := b_M_rule5) (maxL := 7) (ret := (some .boolean)) (by decide) rfl ?_
  intro p e s m args below meth c s₁ B hml hv
  obtain ⟨rfl, hsz, hP, hK, hD0⟩ := hv
  subst hsz
  have X : sr_X D (tM t) b_M_rule5 7 R_M w_M_rule5 p s m _ meth c (va_A (wM h t u0) s.heap.size) (some .boolean) := ⟨B.exec, B.bytes, hml, findClass_of_methodNamed B.named, B.notSynchronized, atoms_spec (ws := w_M_rule5) B.pre, hK, fun q h => Or.inr h, B.returns⟩
  have Z : sr_Z D (va_A (wM h t u0) s.heap.size) s.heap (wM h t u0) s.heap [] := ⟨hP, hD0.self, va_S.rf⟩
  have hl := lv_entry ([.ref (h 0), .int x1] : List Value) (n := 7) (Nat.le_of_ble_eq_true rfl)
  rw [lg_entry_eq]
  exact k_M_rule5_0 X Z hl hf
/-! M_before -/
theorem d_M_before_0 : decode b_M_before 0 = .ok (.aload_n 0, 1) := by decide +kernel
theorem d_M_before_1 : decode b_M_before 1 = .ok (.getfield 40, 3) := by decide +kernel
theorem d_M_before_4 : decode b_M_before 4 = .ok (.iload_n 2, 1) := by decide +kernel
theorem d_M_before_5 : decode b_M_before 5 = .ok (.iaload, 1) := by decide +kernel
theorem d_M_before_6 : decode b_M_before 6 = .ok (.aload_n 0, 1) := by decide +kernel
theorem d_M_before_7 : decode b_M_before 7 = .ok (.getfield 40, 3) := by decide +kernel
theorem d_M_before_10 : decode b_M_before 10 = .ok (.iload_n 1, 1) := by decide +kernel
theorem d_M_before_11 : decode b_M_before 11 = .ok (.iaload, 1) := by decide +kernel
theorem d_M_before_12 : decode b_M_before 12 = .ok (.if_icmp .gt 22, 3) := by decide +kernel
theorem d_M_before_15 : decode b_M_before 15 = .ok (.aload_n 0, 1) := by decide +kernel
theorem d_M_before_16 : decode b_M_before 16 = .ok (.getfield 40, 3) := by decide +kernel
theorem d_M_before_19 : decode b_M_before 19 = .ok (.iload_n 2, 1) := by decide +kernel
theorem d_M_before_20 : decode b_M_before 20 = .ok (.aload_n 0, 1) := by decide +kernel
theorem d_M_before_21 : decode b_M_before 21 = .ok (.getfield 40, 3) := by decide +kernel
theorem d_M_before_24 : decode b_M_before 24 = .ok (.iload_n 1, 1) := by decide +kernel
theorem d_M_before_25 : decode b_M_before 25 = .ok (.iaload, 1) := by decide +kernel
theorem d_M_before_26 : decode b_M_before 26 = .ok (.iconst 1, 1) := by decide +kernel
theorem d_M_before_27 : decode b_M_before 27 = .ok (.iadd, 1) := by decide +kernel
theorem d_M_before_28 : decode b_M_before 28 = .ok (.iastore, 1) := by decide +kernel
theorem d_M_before_29 : decode b_M_before 29 = .ok (.aload_n 0, 1) := by decide +kernel
theorem d_M_before_30 : decode b_M_before 30 = .ok (.iconst 1, 1) := by decide +kernel
theorem d_M_before_31 : decode b_M_before 31 = .ok (.putfield 132, 3) := by decide +kernel
theorem d_M_before_34 : decode b_M_before 34 = .ok (.return_, 1) := by decide +kernel
section
variable {p : Program} {l : Launch} {e : Env} {s : State} {m : MethodId} {args : Array Value} {below : List Frame} {meth : Method} {c : Code} {H : Heap} {locs : List Loc} {ls : Array Slot} {D : va_G} {A : Nat → Prop} {h o : Nat → Nat} {t v : Nat → ClassId}
def f_M_before (x1 : Int32) (x2 : Int32) (u0 : St) : Option (St) :=
  (sr_ald 48 (u0 14) x2).bind fun v_1 =>
  (sr_ald 48 (u0 14) x1).bind fun v_3 =>
  if v_3 < v_1 then
    some u0
  else
    (sr_ald 48 (u0 14) x1).bind fun v_6 =>
    (sr_ast 48 u0 14 x2 (v_6 + 1)).bind fun u_8 =>
    (sr_pf u_8 15 1).bind fun u_10 =>
    some u_10
set_option maxHeartbeats 4000000 in
set_option maxRecDepth 100000 in
theorem k_M_before_0 {x1 : Int32} {x2 : Int32} {u0 : St} {u' : St} (X : sr_X D (tM t) b_M_before 3 R_M w_M_before p s m args meth c A none) (Z : sr_Z D A s.heap (wM h t u0) H locs) (hl : lv_has ls 3 [(0, .ref (h 0)), (1, .int x1), (2, .int x2)]) (hf : f_M_before x1 x2 u0 = some u') : W p l e (sr_rm 0 0) s m args below meth c H locs 0 0 (sr_Qv D (tM t) below args s A (wM h t u')) (F0 m 0 ls []) := by
  have hx := X.1
  have hb := X.2.1
  have hK := X.2.2.2.2.2.2.1
  unfold f_M_before at hf
  refine lv_aload_n hx hb d_M_before_0 rfl (lv_at hl 0 rfl) ?_
  refine g_M_40_M X Z d_M_before_1 ?_
  refine lv_iload_n hx hb d_M_before_4 rfl (lv_at hl 2 rfl) ?_
  obtain ⟨v_1, e_2, hf⟩ := sr_b hf
  refine sr_iald hx hb hK Z 11 10 rfl rfl e_2 d_M_before_5 ?_
  refine lv_aload_n hx hb d_M_before_6 rfl (lv_at hl 0 rfl) ?_
  refine g_M_40_M X Z d_M_before_7 ?_
  refine lv_iload_n hx hb d_M_before_10 rfl (lv_at hl 1 rfl) ?_
  obtain ⟨v_3, e_4, hf⟩ := sr_b hf
  refine sr_iald hx hb hK Z 11 10 rfl rfl e_4 d_M_before_11 ?_
  refine lv_icmp_gt (tgt := 34) hx hb d_M_before_12 rfl (fun q_5 => ?_) (fun q_5 => ?_)
  · have hf := sr_it q_5 hf
    cases hf
    exact sr_retv X Z d_M_before_34
  · have hf := sr_if q_5 hf
    refine lv_aload_n hx hb d_M_before_15 rfl (lv_at hl 0 rfl) ?_
    refine g_M_40_M X Z d_M_before_16 ?_
    refine lv_iload_n hx hb d_M_before_19 rfl (lv_at hl 2 rfl) ?_
    refine lv_aload_n hx hb d_M_before_20 rfl (lv_at hl 0 rfl) ?_
    refine g_M_40_M X Z d_M_before_21 ?_
    refine lv_iload_n hx hb d_M_before_24 rfl (lv_at hl 1 rfl) ?_
    obtain ⟨v_6, e_7, hf⟩ := sr_b hf
    refine sr_iald hx hb hK Z 11 10 rfl rfl e_7 d_M_before_25 ?_
    refine lv_iconst (v := 1) hx hb d_M_before_26 (by decide) ?_
    refine lv_iadd hx hb d_M_before_27 ?_
    obtain ⟨u_8, e_9, hf⟩ := sr_b hf
    refine sr_iast (wf := (fun q => (wM h t q))) hx hb hK Z 11 10 rfl rfl e_9 (fun _ => rfl) d_M_before_28 (fun H locs Z => ?_)
    refine lv_aload_n hx hb d_M_before_29 rfl (lv_at hl 0 rfl) ?_
    refine lv_iconst (v := 1) hx hb d_M_before_30 (by decide) ?_
    obtain ⟨u_10, e_11, hf⟩ := sr_b hf
    refine s_M_132_M X Z e_11 d_M_before_31 (fun H locs Z => ?_)
    cases hf
    exact sr_retv X Z d_M_before_34
end
set_option maxHeartbeats 4000000 in
set_option maxRecDepth 100000 in
theorem c_M_before {l : Launch} {D : va_G} {h : Nat → Nat} {t : Nat → ClassId} {sz : Nat} {x1 : Int32} {x2 : Int32} {u0 : St} {u' : St} (hf : f_M_before x1 x2 u0 = some u') : sr_Cv l y_M_before w_M_before (sr_rm 0 0) D (tM t) (wM h t u0) (wM h t u') sz [.ref (h 0), .int x1, .int x2] := by
  refine Met.ofW (cc := b_M_before) (maxL := 3) (ret := none) (by decide) rfl ?_
  intro p e s m args below meth c s₁ B hml hv
  obtain ⟨rfl, hsz, hP, hK, hD0⟩ := hv
  subst hsz
  have X : sr_X D (tM t) b_M_before 3 R_M w_M_before p s m _ meth c (va_A (wM h t u0) s.heap.size) none := ⟨B.exec, B.bytes, hml, findClass_of_methodNamed B.named, B.notSynchronized, atoms_spec (ws := w_M_before) B.pre, hK, fun q h => Or.inr h, B.returns⟩
  have Z : sr_Z D (va_A (wM h t u0) s.heap.size) s.heap (wM h t u0) s.heap [] := ⟨hP, hD0.self, va_S.rf⟩
  have hl := lv_entry ([.ref (h 0), .int x1, .int x2] : List Value) (n := 3) (Nat.le_of_ble_eq_true rfl)
  rw [lg_entry_eq]
  exact k_M_before_0 X Z hl hf
