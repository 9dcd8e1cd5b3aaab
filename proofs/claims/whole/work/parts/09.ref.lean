/-! M_rule6 -/
theorem d_M_rule6_0 : decode b_M_rule6 0 = .ok (.iconst 0, 1) := by decide +kernel
theorem d_M_rule6_1 : decode b_M_rule6 1 = .ok (.istore_n 1, 1) := by decide +kernel
theorem d_M_rule6_2 : decode b_M_rule6 2 = .ok (.iload_n 1, 1) := by decide +kernel
theorem d_M_rule6_3 : decode b_M_rule6 3 = .ok (.bipush 48, 2) := by decide +kernel
theorem d_M_rule6_5 : decode b_M_rule6 5 = .ok (.if_icmp .ge 16, 3) := by decide +kernel
theorem d_M_rule6_8 : decode b_M_rule6 8 = .ok (.aload_n 0, 1) := by decide +kernel
theorem d_M_rule6_9 : decode b_M_rule6 9 = .ok (.getfield 40, 3) := by decide +kernel
theorem d_M_rule6_12 : decode b_M_rule6 12 = .ok (.iload_n 1, 1) := by decide +kernel
theorem d_M_rule6_13 : decode b_M_rule6 13 = .ok (.iconst 0, 1) := by decide +kernel
theorem d_M_rule6_14 : decode b_M_rule6 14 = .ok (.iastore, 1) := by decide +kernel
theorem d_M_rule6_15 : decode b_M_rule6 15 = .ok (.iinc 1 1, 3) := by decide +kernel
theorem d_M_rule6_18 : decode b_M_rule6 18 = .ok (.goto (-16), 3) := by decide +kernel
theorem d_M_rule6_21 : decode b_M_rule6 21 = .ok (.aload_n 0, 1) := by decide +kernel
theorem d_M_rule6_22 : decode b_M_rule6 22 = .ok (.iconst 1, 1) := by decide +kernel
theorem d_M_rule6_23 : decode b_M_rule6 23 = .ok (.putfield 132, 3) := by decide +kernel
theorem d_M_rule6_26 : decode b_M_rule6 26 = .ok (.iconst 0, 1) := by decide +kernel
theorem d_M_rule6_27 : decode b_M_rule6 27 = .ok (.istore_n 1, 1) := by decide +kernel
theorem d_M_rule6_28 : decode b_M_rule6 28 = .ok (.iload_n 1, 1) := by decide +kernel
theorem d_M_rule6_29 : decode b_M_rule6 29 = .ok (.bipush 50, 2) := by decide +kernel
theorem d_M_rule6_31 : decode b_M_rule6 31 = .ok (.if_icmp .ge 145, 3) := by decide +kernel
theorem d_M_rule6_34 : decode b_M_rule6 34 = .ok (.aload_n 0, 1) := by decide +kernel
theorem d_M_rule6_35 : decode b_M_rule6 35 = .ok (.getfield 132, 3) := by decide +kernel
theorem d_M_rule6_38 : decode b_M_rule6 38 = .ok (.ifCond .eq 138, 3) := by decide +kernel
theorem d_M_rule6_41 : decode b_M_rule6 41 = .ok (.aload_n 0, 1) := by decide +kernel
theorem d_M_rule6_42 : decode b_M_rule6 42 = .ok (.iconst 0, 1) := by decide +kernel
theorem d_M_rule6_43 : decode b_M_rule6 43 = .ok (.putfield 132, 3) := by decide +kernel
theorem d_M_rule6_46 : decode b_M_rule6 46 = .ok (.iconst 0, 1) := by decide +kernel
theorem d_M_rule6_47 : decode b_M_rule6 47 = .ok (.istore_n 2, 1) := by decide +kernel
theorem d_M_rule6_48 : decode b_M_rule6 48 = .ok (.iload_n 2, 1) := by decide +kernel
theorem d_M_rule6_49 : decode b_M_rule6 49 = .ok (.aload_n 0, 1) := by decide +kernel
theorem d_M_rule6_50 : decode b_M_rule6 50 = .ok (.getfield 100, 3) := by decide +kernel
theorem d_M_rule6_53 : decode b_M_rule6 53 = .ok (.if_icmp .ge 82, 3) := by decide +kernel
theorem d_M_rule6_56 : decode b_M_rule6 56 = .ok (.aload_n 0, 1) := by decide +kernel
theorem d_M_rule6_57 : decode b_M_rule6 57 = .ok (.iload_n 2, 1) := by decide +kernel
theorem d_M_rule6_58 : decode b_M_rule6 58 = .ok (.bipush 24, 2) := by decide +kernel
theorem d_M_rule6_60 : decode b_M_rule6 60 = .ok (.iload_n 2, 1) := by decide +kernel
theorem d_M_rule6_61 : decode b_M_rule6 61 = .ok (.iadd, 1) := by decide +kernel
theorem d_M_rule6_62 : decode b_M_rule6 62 = .ok (.invokevirtual 135, 3) := by decide +kernel
theorem d_M_rule6_65 : decode b_M_rule6 65 = .ok (.iload_n 2, 1) := by decide +kernel
theorem d_M_rule6_66 : decode b_M_rule6 66 = .ok (.ifCond .le 63, 3) := by decide +kernel
theorem d_M_rule6_69 : decode b_M_rule6 69 = .ok (.aload_n 0, 1) := by decide +kernel
theorem d_M_rule6_70 : decode b_M_rule6 70 = .ok (.getfield 7, 3) := by decide +kernel
theorem d_M_rule6_73 : decode b_M_rule6 73 = .ok (.iload_n 2, 1) := by decide +kernel
theorem d_M_rule6_74 : decode b_M_rule6 74 = .ok (.iaload, 1) := by decide +kernel
theorem d_M_rule6_75 : decode b_M_rule6 75 = .ok (.istore_n 3, 1) := by decide +kernel
theorem d_M_rule6_76 : decode b_M_rule6 76 = .ok (.aload_n 0, 1) := by decide +kernel
theorem d_M_rule6_77 : decode b_M_rule6 77 = .ok (.iload_n 3, 1) := by decide +kernel
theorem d_M_rule6_78 : decode b_M_rule6 78 = .ok (.iload_n 2, 1) := by decide +kernel
theorem d_M_rule6_79 : decode b_M_rule6 79 = .ok (.invokevirtual 135, 3) := by decide +kernel
theorem d_M_rule6_82 : decode b_M_rule6 82 = .ok (.aload_n 0, 1) := by decide +kernel
theorem d_M_rule6_83 : decode b_M_rule6 83 = .ok (.bipush 24, 2) := by decide +kernel
theorem d_M_rule6_85 : decode b_M_rule6 85 = .ok (.iload_n 2, 1) := by decide +kernel
theorem d_M_rule6_86 : decode b_M_rule6 86 = .ok (.iadd, 1) := by decide +kernel
theorem d_M_rule6_87 : decode b_M_rule6 87 = .ok (.bipush 24, 2) := by decide +kernel
theorem d_M_rule6_89 : decode b_M_rule6 89 = .ok (.iload_n 3, 1) := by decide +kernel
theorem d_M_rule6_90 : decode b_M_rule6 90 = .ok (.iadd, 1) := by decide +kernel
theorem d_M_rule6_91 : decode b_M_rule6 91 = .ok (.invokevirtual 135, 3) := by decide +kernel
theorem d_M_rule6_94 : decode b_M_rule6 94 = .ok (.aload_n 0, 1) := by decide +kernel
theorem d_M_rule6_95 : decode b_M_rule6 95 = .ok (.iload_n 3, 1) := by decide +kernel
theorem d_M_rule6_96 : decode b_M_rule6 96 = .ok (.iconst 0, 1) := by decide +kernel
theorem d_M_rule6_97 : decode b_M_rule6 97 = .ok (.iload_n 2, 1) := by decide +kernel
theorem d_M_rule6_98 : decode b_M_rule6 98 = .ok (.invokevirtual 111, 3) := by decide +kernel
theorem d_M_rule6_101 : decode b_M_rule6 101 = .ok (.istore 4, 2) := by decide +kernel
theorem d_M_rule6_103 : decode b_M_rule6 103 = .ok (.aload_n 0, 1) := by decide +kernel
theorem d_M_rule6_104 : decode b_M_rule6 104 = .ok (.getfield 16, 3) := by decide +kernel
theorem d_M_rule6_107 : decode b_M_rule6 107 = .ok (.iload_n 3, 1) := by decide +kernel
theorem d_M_rule6_108 : decode b_M_rule6 108 = .ok (.iaload, 1) := by decide +kernel
theorem d_M_rule6_109 : decode b_M_rule6 109 = .ok (.bipush 8, 2) := by decide +kernel
theorem d_M_rule6_111 : decode b_M_rule6 111 = .ok (.if_icmp .ne 18, 3) := by decide +kernel
theorem d_M_rule6_114 : decode b_M_rule6 114 = .ok (.iload 4, 2) := by decide +kernel
theorem d_M_rule6_116 : decode b_M_rule6 116 = .ok (.ifCond .lt 13, 3) := by decide +kernel
theorem d_M_rule6_119 : decode b_M_rule6 119 = .ok (.aload_n 0, 1) := by decide +kernel
theorem d_M_rule6_120 : decode b_M_rule6 120 = .ok (.bipush 24, 2) := by decide +kernel
theorem d_M_rule6_122 : decode b_M_rule6 122 = .ok (.iload_n 2, 1) := by decide +kernel
theorem d_M_rule6_123 : decode b_M_rule6 123 = .ok (.iadd, 1) := by decide +kernel
theorem d_M_rule6_124 : decode b_M_rule6 124 = .ok (.iload 4, 2) := by decide +kernel
theorem d_M_rule6_126 : decode b_M_rule6 126 = .ok (.invokevirtual 135, 3) := by decide +kernel
theorem d_M_rule6_129 : decode b_M_rule6 129 = .ok (.iinc 2 1, 3) := by decide +kernel
theorem d_M_rule6_132 : decode b_M_rule6 132 = .ok (.goto (-84), 3) := by decide +kernel
theorem d_M_rule6_135 : decode b_M_rule6 135 = .ok (.iconst 0, 1) := by decide +kernel
theorem d_M_rule6_136 : decode b_M_rule6 136 = .ok (.istore_n 2, 1) := by decide +kernel
theorem d_M_rule6_137 : decode b_M_rule6 137 = .ok (.iload_n 2, 1) := by decide +kernel
theorem d_M_rule6_138 : decode b_M_rule6 138 = .ok (.aload_n 0, 1) := by decide +kernel
theorem d_M_rule6_139 : decode b_M_rule6 139 = .ok (.getfield 115, 3) := by decide +kernel
theorem d_M_rule6_142 : decode b_M_rule6 142 = .ok (.if_icmp .ge 28, 3) := by decide +kernel
theorem d_M_rule6_145 : decode b_M_rule6 145 = .ok (.aload_n 0, 1) := by decide +kernel
theorem d_M_rule6_146 : decode b_M_rule6 146 = .ok (.bipush 24, 2) := by decide +kernel
theorem d_M_rule6_148 : decode b_M_rule6 148 = .ok (.aload_n 0, 1) := by decide +kernel
theorem d_M_rule6_149 : decode b_M_rule6 149 = .ok (.getfield 28, 3) := by decide +kernel
theorem d_M_rule6_152 : decode b_M_rule6 152 = .ok (.iload_n 2, 1) := by decide +kernel
theorem d_M_rule6_153 : decode b_M_rule6 153 = .ok (.iaload, 1) := by decide +kernel
theorem d_M_rule6_154 : decode b_M_rule6 154 = .ok (.iadd, 1) := by decide +kernel
theorem d_M_rule6_155 : decode b_M_rule6 155 = .ok (.aload_n 0, 1) := by decide +kernel
theorem d_M_rule6_156 : decode b_M_rule6 156 = .ok (.getfield 31, 3) := by decide +kernel
theorem d_M_rule6_159 : decode b_M_rule6 159 = .ok (.iload_n 2, 1) := by decide +kernel
theorem d_M_rule6_160 : decode b_M_rule6 160 = .ok (.iaload, 1) := by decide +kernel
theorem d_M_rule6_161 : decode b_M_rule6 161 = .ok (.invokevirtual 135, 3) := by decide +kernel
theorem d_M_rule6_164 : decode b_M_rule6 164 = .ok (.iinc 2 1, 3) := by decide +kernel
theorem d_M_rule6_167 : decode b_M_rule6 167 = .ok (.goto (-30), 3) := by decide +kernel
theorem d_M_rule6_170 : decode b_M_rule6 170 = .ok (.iinc 1 1, 3) := by decide +kernel
theorem d_M_rule6_173 : decode b_M_rule6 173 = .ok (.goto (-145), 3) := by decide +kernel
theorem d_M_rule6_176 : decode b_M_rule6 176 = .ok (.aload_n 0, 1) := by decide +kernel
theorem d_M_rule6_177 : decode b_M_rule6 177 = .ok (.getfield 132, 3) := by decide +kernel
theorem d_M_rule6_180 : decode b_M_rule6 180 = .ok (.ifCond .ne 7, 3) := by decide +kernel
theorem d_M_rule6_183 : decode b_M_rule6 183 = .ok (.iconst 1, 1) := by decide +kernel
theorem d_M_rule6_184 : decode b_M_rule6 184 = .ok (.goto 4, 3) := by decide +kernel
theorem d_M_rule6_187 : decode b_M_rule6 187 = .ok (.iconst 0, 1) := by decide +kernel
theorem d_M_rule6_188 : decode b_M_rule6 188 = .ok (.ireturn, 1) := by decide +kernel
section
variable {p : Program} {l : Launch} {e : Env} {s : State} {m : MethodId} {args : Array Value} {below : List Frame} {meth : Method} {c : Code} {H : Heap} {locs : List Loc} {ls : Array Slot} {D : va_G} {A : Nat → Prop} {h o : Nat → Nat} {t v : Nat → ClassId}
def f_M_rule6_176 (u0 : St) : Option (Int32 × St) :=
  if (u0 15 0) = 0 then
    some (1, u0)
  else
    some (0, u0)
set_option maxHeartbeats 4000000 in
set_option maxRecDepth 100000 in
theorem k_M_rule6_176 {u0 : St} {r : Int32} {u' : St} (X : sr_X D (tM t) b_M_rule6 5 R_M w_M_rule6 p s m args meth c A (some .boolean)) (Z : sr_Z D A s.heap (wM h t u0) H locs) (hl : lv_has ls 5 [(0, .ref (h 0))]) (hf : f_M_rule6_176 u0 = some (r, u')) : W p l e (sr_rm 1 24) s m args below meth c H locs 0 0 (sr_Qi D (tM t) below args s A (wM h t u') r) (F0 m 176 ls []) := by
  have hx := X.1
  have hb := X.2.1
  have hK := X.2.2.2.2.2.2.1
  unfold f_M_rule6_176 at hf
  refine lv_aload_n hx hb d_M_rule6_176 rfl (lv_at hl 0 rfl) ?_
  refine g_M_132_M X Z d_M_rule6_177 ?_
  refine lv_if_ne (tgt := 187) hx hb d_M_rule6_180 rfl (fun q_5 => ?_) (fun q_5 => ?_)
  · have hf := sr_if q_5 hf
    refine lv_iconst (v := 0) hx hb d_M_rule6_187 (by decide) ?_
    cases hf
    exact sr_retz X Z (by decide) d_M_rule6_188
  · have hf := sr_it q_5 hf
    refine lv_iconst (v := 1) hx hb d_M_rule6_183 (by decide) ?_
    refine lv_goto (tgt := 188) hx hb d_M_rule6_184 rfl ?_
    cases hf
    exact sr_retz X Z (by decide) d_M_rule6_188
def f_M_rule6_137 (k28 : Int32 → St → Option (Int32 × St)) (k137 : Int32 → Int32 → St → Option (Int32 × St)) (x1 : Int32) (x2 : Int32) (u0 : St) : Option (Int32 × St) :=
  if (u0 7 0) ≤ x2 then
    k28 (x1 + 1) u0
  else
    (sr_ald 16 (u0 8) x2).bind fun v_11 =>
    (sr_ald 16 (u0 9) x2).bind fun v_13 =>
    (f_M_before (24 + v_11) v_13 u0).bind fun u_15 =>
    k137 x1 (x2 + 1) u_15
set_option maxHeartbeats 4000000 in
set_option maxRecDepth 100000 in
theorem k_M_rule6_137 {k28 : Int32 → St → Option (Int32 × St)} {k137 : Int32 → Int32 → St → Option (Int32 × St)} {x1 : Int32} {x2 : Int32} {u0 : St} {r : Int32} {u' : St} (X : sr_X D (tM t) b_M_rule6 5 R_M w_M_rule6 p s m args meth c A (some .boolean)) (hk28 : ∀ (x1 : Int32) (u0 : St) (H : Heap) (locs : List Loc) (ls : Array Slot), sr_Z D A s.heap (wM h t u0) H locs → lv_has ls 5 [(0, .ref (h 0)), (1, .int x1)] → k28 x1 u0 = some (r, u') → W p l e (sr_rm 1 24) s m args below meth c H locs 0 0 (sr_Qi D (tM t) below args s A (wM h t u') r) (F0 m 28 ls [])) (hk137 : ∀ (x1 : Int32) (x2 : Int32) (u0 : St) (H : Heap) (locs : List Loc) (ls : Array Slot), sr_Z D A s.heap (wM h t u0) H locs → lv_has ls 5 [(0, .ref (h 0)), (1, .int x1), (2, .int x2)] → k137 x1 x2 u0 = some (r, u') → W p l e (sr_rm 1 24) s m args below meth c H locs 0 0 (sr_Qi D (tM t) below args s A (wM h t u') r) (F0 m 137 ls [])) (Z : sr_Z D A s.heap (wM h t u0) H locs) (hl : lv_has ls 5 [(0, .ref (h 0)), (1, .int x1), (2, .int x2)]) (hf : f_M_rule6_137 k28 k137 x1 x2 u0 = some (r, u')) : W p l e (sr_rm 1 24) s m args below meth c H locs 0 0 (sr_Qi D (tM t) below args s A (wM h t u') r) (F0 m 137 ls []) := by
  have hx := X.1
  have hb := X.2.1
  have hK := X.2.2.2.2.2.2.1
  unfold f_M_rule6_137 at hf
  refine lv_iload_n hx hb d_M_rule6_137 rfl (lv_at hl 2 rfl) ?_
  refine lv_aload_n hx hb d_M_rule6_138 rfl (lv_at hl 0 rfl) ?_
  refine g_M_115_M X Z d_M_rule6_139 ?_
  refine lv_icmp_ge (tgt := 170) hx hb d_M_rule6_142 rfl (fun q_10 => ?_) (fun q_10 => ?_)
  · have hf := sr_it q_10 hf
    refine lv_iinc (k := 1) (v := x1 + 1) (lv' := [(1, .int (x1 + 1)), (0, .ref (h 0)), (2, .int x2)]) hx hb d_M_rule6_170 hl rfl rfl (by decide) rfl (fun ls hl => ?_)
    refine lv_goto (tgt := 28) hx hb d_M_rule6_173 rfl ?_
    exact hk28 (x1 + 1) u0 _ _ _ Z (lv_sub hl [1, 0] rfl) hf
  · have hf := sr_if q_10 hf
    refine lv_aload_n hx hb d_M_rule6_145 rfl (lv_at hl 0 rfl) ?_
    refine lv_bipush (v := 24) hx hb d_M_rule6_146 (by decide) ?_
    refine lv_aload_n hx hb d_M_rule6_148 rfl (lv_at hl 0 rfl) ?_
    refine g_M_28_M X Z d_M_rule6_149 ?_
    refine lv_iload_n hx hb d_M_rule6_152 rfl (lv_at hl 2 rfl) ?_
    obtain ⟨v_11, e_12, hf⟩ := sr_b hf
    refine sr_iald hx hb hK Z 7 6 rfl rfl e_12 d_M_rule6_153 ?_
    refine lv_iadd hx hb d_M_rule6_154 ?_
    refine lv_aload_n hx hb d_M_rule6_155 rfl (lv_at hl 0 rfl) ?_
    refine g_M_31_M X Z d_M_rule6_156 ?_
    refine lv_iload_n hx hb d_M_rule6_159 rfl (lv_at hl 2 rfl) ?_
    obtain ⟨v_13, e_14, hf⟩ := sr_b hf
    refine sr_iald hx hb hK Z 8 7 rfl rfl e_14 d_M_rule6_160 ?_
    obtain ⟨u_15, e_16, hf⟩ := sr_b hf
    refine sr_cVv (As := [.int (24 + v_11), .int v_13]) (rest := []) X Z sr_cut_self hK (c_M_before e_16) (cw_M_135 X.2.2.2.2.2.1 (by decide)) 0 rfl rfl rfl hl rfl (Nat.le_of_ble_eq_true rfl) d_M_rule6_161 (fun H locs Z => ?_)
    refine lv_iinc (k := 2) (v := x2 + 1) (lv' := [(2, .int (x2 + 1)), (0, .ref (h 0)), (1, .int x1)]) hx hb d_M_rule6_164 hl rfl rfl (by decide) rfl (fun ls hl => ?_)
    refine lv_goto (tgt := 137) hx hb d_M_rule6_167 rfl ?_
    exact hk137 x1 (x2 + 1) u_15 _ _ _ Z (lv_sub hl [1, 2, 0] rfl) hf
def f_M_rule6_137_it (k28 : Int32 → St → Option (Int32 × St)) : Nat → Int32 → Int32 → St → Option (Int32 × St)
  | 0 => fun _ _ _ => none
  | n + 1 => fun x1 x2 u0 => f_M_rule6_137 k28 (f_M_rule6_137_it k28 n) x1 x2 u0
set_option maxHeartbeats 4000000 in
set_option maxRecDepth 100000 in
theorem k_M_rule6_137_it {k28 : Int32 → St → Option (Int32 × St)} {r : Int32} {u' : St} (X : sr_X D (tM t) b_M_rule6 5 R_M w_M_rule6 p s m args meth c A (some .boolean)) (hk28 : ∀ (x1 : Int32) (u0 : St) (H : Heap) (locs : List Loc) (ls : Array Slot), sr_Z D A s.heap (wM h t u0) H locs → lv_has ls 5 [(0, .ref (h 0)), (1, .int x1)] → k28 x1 u0 = some (r, u') → W p l e (sr_rm 1 24) s m args below meth c H locs 0 0 (sr_Qi D (tM t) below args s A (wM h t u') r) (F0 m 28 ls [])) (n : Nat) : ∀ {x1 : Int32} {x2 : Int32} {u0 : St} {H : Heap} {locs : List Loc} {ls : Array Slot}, sr_Z D A s.heap (wM h t u0) H locs → lv_has ls 5 [(0, .ref (h 0)), (1, .int x1), (2, .int x2)] → f_M_rule6_137_it k28 n x1 x2 u0 = some (r, u') → W p l e (sr_rm 1 24) s m args below meth c H locs 0 0 (sr_Qi D (tM t) below args s A (wM h t u') r) (F0 m 137 ls []) := by
  induction n with
  | zero => intro x1 x2 u0 H locs ls Z hl hf; exact absurd hf (by simp [f_M_rule6_137_it])
  | succ n ih =>
    intro x1 x2 u0 H locs ls Z hl hf
    exact k_M_rule6_137 X hk28 (fun x1 x2 u0 H locs ls Z hl hf => ih Z hl hf) Z hl hf
def f_M_rule6_129 (k28 : Int32 → St → Option (Int32 × St)) (k48 : Int32 → Int32 → St → Option (Int32 × St)) (x1 : Int32) (x2 : Int32) (u0 : St) : Option (Int32 × St) :=
  k48 x1 (x2 + 1) u0
set_option maxHeartbeats 4000000 in
set_option maxRecDepth 100000 in
theorem k_M_rule6_129 {k28 : Int32 → St → Option (Int32 × St)} {k48 : Int32 → Int32 → St → Option (Int32 × St)} {x1 : Int32} {x2 : Int32} {u0 : St} {r : Int32} {u' : St} (X : sr_X D (tM t) b_M_rule6 5 R_M w_M_rule6 p s m args meth c A (some .boolean)) (hk28 : ∀ (x1 : Int32) (u0 : St) (H : Heap) (locs : List Loc) (ls : Array Slot), sr_Z D A s.heap (wM h t u0) H locs → lv_has ls 5 [(0, .ref (h 0)), (1, .int x1)] → k28 x1 u0 = some (r, u') → W p l e (sr_rm 1 24) s m args below meth c H locs 0 0 (sr_Qi D (tM t) below args s A (wM h t u') r) (F0 m 28 ls [])) (hk48 : ∀ (x1 : Int32) (x2 : Int32) (u0 : St) (H : Heap) (locs : List Loc) (ls : Array Slot), sr_Z D A s.heap (wM h t u0) H locs → lv_has ls 5 [(0, .ref (h 0)), (1, .int x1), (2, .int x2)] → k48 x1 x2 u0 = some (r, u') → W p l e (sr_rm 1 24) s m args below meth c H locs 0 0 (sr_Qi D (tM t) below args s A (wM h t u') r) (F0 m 48 ls [])) (Z : sr_Z D A s.heap (wM h t u0) H locs) (hl : lv_has ls 5 [(0, .ref (h 0)), (1, .int x1), (2, .int x2)]) (hf : f_M_rule6_129 k28 k48 x1 x2 u0 = some (r, u')) : W p l e (sr_rm 1 24) s m args below meth c H locs 0 0 (sr_Qi D (tM t) below args s A (wM h t u') r) (F0 m 129 ls []) := by
  have hx := X.1
  have hb := X.2.1
  have hK := X.2.2.2.2.2.2.1
  unfold f_M_rule6_129 at hf
  refine lv_iinc (k := 2) (v := x2 + 1) (lv' := [(2, .int (x2 + 1)), (0, .ref (h 0)), (1, .int x1)]) hx hb d_M_rule6_129 hl rfl rfl (by decide) rfl (fun ls hl => ?_)
  refine lv_goto (tgt := 48) hx hb d_M_rule6_132 rfl ?_
  exact hk48 x1 (x2 + 1) u0 _ _ _ Z (lv_sub hl [1, 2, 0] rfl) hf
def f_M_rule6_48 (k28 : Int32 → St → Option (Int32 × St)) (k48 : Int32 → Int32 → St → Option (Int32 × St)) (x1 : Int32) (x2 : Int32) (u0 : St) : Option (Int32 × St) :=
  if (u0 0 0) ≤ x2 then
    f_M_rule6_137_it k28 60 x1 0 u0
  else
    (f_M_before x2 (24 + x2) u0).bind fun u_17 =>
    if x2 ≤ 0 then
      f_M_rule6_129 k28 k48 x1 x2 u_17
    else
      (sr_ald 24 (u_17 1) x2).bind fun v_20 =>
      (f_M_before v_20 x2 u_17).bind fun u_22 =>
      (f_M_before (24 + x2) (24 + v_20) u_22).bind fun u_24 =>
      (f_M_nextInRole u_24 v_20 0 x2).bind fun v_26 =>
      (sr_ald 24 (u_24 3) v_20).bind fun v_28 =>
      if v_28 = 8 then
        if v_26 < 0 then
          f_M_rule6_129 k28 k48 x1 x2 u_24
        else
          (f_M_before (24 + x2) v_26 u_24).bind fun u_32 =>
          f_M_rule6_129 k28 k48 x1 x2 u_32
      else
        f_M_rule6_129 k28 k48 x1 x2 u_24
set_option maxHeartbeats 4000000 in
set_option maxRecDepth 100000 in
theorem k_M_rule6_48 {k28 : Int32 → St → Option (Int32 × St)} {k48 : Int32 → Int32 → St → Option (Int32 × St)} {x1 : Int32} {x2 : Int32} {u0 : St} {r : Int32} {u' : St} (X : sr_X D (tM t) b_M_rule6 5 R_M w_M_rule6 p s m args meth c A (some .boolean)) (hk28 : ∀ (x1 : Int32) (u0 : St) (H : Heap) (locs : List Loc) (ls : Array Slot), sr_Z D A s.heap (wM h t u0) H locs → lv_has ls 5 [(0, .ref (h 0)), (1, .int x1)] → k28 x1 u0 = some (r, u') → W p l e (sr_rm 1 24) s m args below meth c H locs 0 0 (sr_Qi D (tM t) below args s A (wM h t u') r) (F0 m 28 ls [])) (hk48 : ∀ (x1 : Int32) (x2 : Int32) (u0 : St) (H : Heap) (locs : List Loc) (ls : Array Slot), sr_Z D A s.heap (wM h t u0) H locs → lv_has ls 5 [(0, .ref (h 0)), (1, .int x1), (2, .int x2)] → k48 x1 x2 u0 = some (r, u') → W p l e (sr_rm 1 24) s m args below meth c H locs 0 0 (sr_Qi D (tM t) below args s A (wM h t u') r) (F0 m 48 ls [])) (Z : sr_Z D A s.heap (wM h t u0) H locs) (hl : lv_has ls 5 [(0, .ref (h 0)), (1, .int x1), (2, .int x2)]) (hf : f_M_rule6_48 k28 k48 x1 x2 u0 = some (r, u')) : W p l e (sr_rm 1 24) s m args below meth c H locs 0 0 (sr_Qi D (tM t) below args s A (wM h t u') r) (F0 m 48 ls []) := by
  have hx := X.1
  have hb := X.2.1
  have hK := X.2.2.2.2.2.2.1
  unfold f_M_rule6_48 at hf
  refine lv_iload_n hx hb d_M_rule6_48 rfl (lv_at hl 2 rfl) ?_
  refine lv_aload_n hx hb d_M_rule6_49 rfl (lv_at hl 0 rfl) ?_
  refine g_M_100_M X Z d_M_rule6_50 ?_
  refine lv_icmp_ge (tgt := 135) hx hb d_M_rule6_53 rfl (fun q_9 => ?_) (fun q_9 => ?_)
  · have hf := sr_it q_9 hf
    refine lv_iconst (v := 0) hx hb d_M_rule6_135 (by decide) ?_
    refine lv_istore_n (lv' := [(2, .int 0), (0, .ref (h 0)), (1, .int x1)]) hx hb d_M_rule6_136 rfl hl (by decide) rfl (fun ls hl => ?_)
    exact k_M_rule6_137_it X hk28 _ Z (lv_sub hl [1, 2, 0] rfl) hf
  · have hf := sr_if q_9 hf
    refine lv_aload_n hx hb d_M_rule6_56 rfl (lv_at hl 0 rfl) ?_
    refine lv_iload_n hx hb d_M_rule6_57 rfl (lv_at hl 2 rfl) ?_
    refine lv_bipush (v := 24) hx hb d_M_rule6_58 (by decide) ?_
    refine lv_iload_n hx hb d_M_rule6_60 rfl (lv_at hl 2 rfl) ?_
    refine lv_iadd hx hb d_M_rule6_61 ?_
    obtain ⟨u_17, e_18, hf⟩ := sr_b hf
    refine sr_cVv (As := [.int x2, .int (24 + x2)]) (rest := []) X Z sr_cut_self hK (c_M_before e_18) (cw_M_135 X.2.2.2.2.2.1 (by decide)) 0 rfl rfl rfl hl rfl (Nat.le_of_ble_eq_true rfl) d_M_rule6_62 (fun H locs Z => ?_)
    refine lv_iload_n hx hb d_M_rule6_65 rfl (lv_at hl 2 rfl) ?_
    refine lv_if_le (tgt := 129) hx hb d_M_rule6_66 rfl (fun q_19 => ?_) (fun q_19 => ?_)
    · have hf := sr_it q_19 hf
      exact k_M_rule6_129 X hk28 hk48 Z (lv_sub hl [0, 1, 2] rfl) hf
    · have hf := sr_if q_19 hf
      refine lv_aload_n hx hb d_M_rule6_69 rfl (lv_at hl 0 rfl) ?_
      refine g_M_7_M X Z d_M_rule6_70 ?_
      refine lv_iload_n hx hb d_M_rule6_73 rfl (lv_at hl 2 rfl) ?_
      obtain ⟨v_20, e_21, hf⟩ := sr_b hf
      refine sr_iald hx hb hK Z 1 0 rfl rfl e_21 d_M_rule6_74 ?_
      refine lv_istore_n (lv' := [(3, .int v_20), (0, .ref (h 0)), (1, .int x1), (2, .int x2)]) hx hb d_M_rule6_75 rfl hl (by decide) rfl (fun ls hl => ?_)
      refine lv_aload_n hx hb d_M_rule6_76 rfl (lv_at hl 1 rfl) ?_
      refine lv_iload_n hx hb d_M_rule6_77 rfl (lv_at hl 0 rfl) ?_
      refine lv_iload_n hx hb d_M_rule6_78 rfl (lv_at hl 3 rfl) ?_
      obtain ⟨u_22, e_23, hf⟩ := sr_b hf
      refine sr_cVv (As := [.int v_20, .int x2]) (rest := []) X Z sr_cut_self hK (c_M_before e_23) (cw_M_135 X.2.2.2.2.2.1 (by decide)) 0 rfl rfl rfl hl rfl (Nat.le_of_ble_eq_true rfl) d_M_rule6_79 (fun H locs Z => ?_)
      refine lv_aload_n hx hb d_M_rule6_82 rfl (lv_at hl 1 rfl) ?_
      refine lv_bipush (v := 24) hx hb d_M_rule6_83 (by decide) ?_
      refine lv_iload_n hx hb d_M_rule6_85 rfl (lv_at hl 3 rfl) ?_
      refine lv_iadd hx hb d_M_rule6_86 ?_
      refine lv_bipush (v := 24) hx hb d_M_rule6_87 (by decide) ?_
      refine lv_iload_n hx hb d_M_rule6_89 rfl (lv_at hl 0 rfl) ?_
      refine lv_iadd hx hb d_M_rule6_90 ?_
      obtain ⟨u_24, e_25, hf⟩ := sr_b hf
      refine sr_cVv (As := [.int (24 + x2), .int (24 + v_20)]) (rest := []) X Z sr_cut_self hK (c_M_before e_25) (cw_M_135 X.2.2.2.2.2.1 (by decide)) 0 rfl rfl rfl hl rfl (Nat.le_of_ble_eq_true rfl) d_M_rule6_91 (fun H locs Z => ?_)
      refine lv_aload_n hx hb d_M_rule6_94 rfl (lv_at hl 1 rfl) ?_
      refine lv_iload_n hx hb d_M_rule6_95 rfl (lv_at hl 0 rfl) ?_
      refine lv_iconst (v := 0) hx hb d_M_rule6_96 (by decide) ?_
      refine lv_iload_n hx hb d_M_rule6_97 rfl (lv_at hl 3 rfl) ?_
      obtain ⟨v_26, e_27, hf⟩ := sr_b hf
      refine sr_cVi (As := [.int v_20, .int 0, .int x2]) (rest := []) X Z sr_cut_self hK (c_M_nextInRole e_27) (cw_M_111 X.2.2.2.2.2.1 (by decide)) 0 rfl rfl rfl hl rfl (Nat.le_of_ble_eq_true rfl) d_M_rule6_98 (fun H locs Z => ?_)
      refine lv_istore (lv' := [(4, .int v_26), (3, .int v_20), (0, .ref (h 0)), (1, .int x1), (2, .int x2)]) hx hb d_M_rule6_101 hl (by decide) rfl (fun ls hl => ?_)
      refine lv_aload_n hx hb d_M_rule6_103 rfl (lv_at hl 2 rfl) ?_
      refine g_M_16_M X Z d_M_rule6_104 ?_
      refine lv_iload_n hx hb d_M_rule6_107 rfl (lv_at hl 1 rfl) ?_
      obtain ⟨v_28, e_29, hf⟩ := sr_b hf
      refine sr_iald hx hb hK Z 3 2 rfl rfl e_29 d_M_rule6_108 ?_
      refine lv_bipush (v := 8) hx hb d_M_rule6_109 (by decide) ?_
      refine lv_icmp_ne (tgt := 129) hx hb d_M_rule6_111 rfl (fun q_30 => ?_) (fun q_30 => ?_)
      · have hf := sr_if q_30 hf
        exact k_M_rule6_129 X hk28 hk48 Z (lv_sub hl [2, 3, 4] rfl) hf
      · have hf := sr_it q_30 hf
        refine lv_iload hx hb d_M_rule6_114 (lv_at hl 0 rfl) ?_
        refine lv_if_lt (tgt := 129) hx hb d_M_rule6_116 rfl (fun q_31 => ?_) (fun q_31 => ?_)
        · have hf := sr_it q_31 hf
          exact k_M_rule6_129 X hk28 hk48 Z (lv_sub hl [2, 3, 4] rfl) hf
        · have hf := sr_if q_31 hf
          refine lv_aload_n hx hb d_M_rule6_119 rfl (lv_at hl 2 rfl) ?_
          refine lv_bipush (v := 24) hx hb d_M_rule6_120 (by decide) ?_
          refine lv_iload_n hx hb d_M_rule6_122 rfl (lv_at hl 4 rfl) ?_
          refine lv_iadd hx hb d_M_rule6_123 ?_
          refine lv_iload hx hb d_M_rule6_124 (lv_at hl 0 rfl) ?_
          obtain ⟨u_32, e_33, hf⟩ := sr_b hf
          refine sr_cVv (As := [.int (24 + x2), .int v_26]) (rest := []) X Z sr_cut_self hK (c_M_before e_33) (cw_M_135 X.2.2.2.2.2.1 (by decide)) 0 rfl rfl rfl hl rfl (Nat.le_of_ble_eq_true rfl) d_M_rule6_126 (fun H locs Z => ?_)
          exact k_M_rule6_129 X hk28 hk48 Z (lv_sub hl [2, 3, 4] rfl) hf
def f_M_rule6_48_it (k28 : Int32 → St → Option (Int32 × St)) : Nat → Int32 → Int32 → St → Option (Int32 × St)
  | 0 => fun _ _ _ => none
  | n + 1 => fun x1 x2 u0 => f_M_rule6_48 k28 (f_M_rule6_48_it k28 n) x1 x2 u0
set_option maxHeartbeats 4000000 in
set_option maxRecDepth 100000 in
theorem k_M_rule6_48_it {k28 : Int32 → St → Option (Int32 × St)} {r : Int32} {u' : St} (X : sr_X D (tM t) b_M_rule6 5 R_M w_M_rule6 p s m args meth c A (some .boolean)) (hk28 : ∀ (x1 : Int32) (u0 : St) (H : Heap) (locs : List Loc) (ls : Array Slot), sr_Z D A s.heap (wM h t u0) H locs → lv_has ls 5 [(0, .ref (h 0)), (1, .int x1)] → k28 x1 u0 = some (r, u') → W p l e (sr_rm 1 24) s m args below meth c H locs 0 0 (sr_Qi D (tM t) below args s A (wM h t u') r) (F0 m 28 ls [])) (n : Nat) : ∀ {x1 : Int32} {x2 : Int32} {u0 : St} {H : Heap} {locs : List Loc} {ls : Array Slot}, sr_Z D A s.heap (wM h t u0) H locs → lv_has ls 5 [(0, .ref (h 0)), (1, .int x1), (2, .int x2)] → f_M_rule6_48_it k28 n x1 x2 u0 = some (r, u') → W p l e (sr_rm 1 24) s m args below meth c H locs 0 0 (sr_Qi D (tM t) below args s A (wM h t u') r) (F0 m 48 ls []) := by
  induction n with
  | zero => intro x1 x2 u0 H locs ls Z hl hf; exact absurd hf (by simp [f_M_rule6_48_it])
  | succ n ih =>
    intro x1 x2 u0 H locs ls Z hl hf
    exact k_M_rule6_48 X hk28 (fun x1 x2 u0 H locs ls Z hl hf => ih Z hl hf) Z hl hf
def f_M_rule6_28 (k28 : Int32 → St → Option (Int32 × St)) (x1 : Int32) (u0 : St) : Option (Int32 × St) :=
  if 50 ≤ x1 then
    f_M_rule6_176 u0
  else
    if (u0 15 0) = 0 then
      f_M_rule6_176 u0
    else
      (sr_pf u0 15 0).bind fun u_7 =>
      f_M_rule6_48_it k28 60 x1 0 u_7
set_option maxHeartbeats 4000000 in
set_option maxRecDepth 100000 in
theorem k_M_rule6_28 {k28 : Int32 → St → Option (Int32 × St)} {x1 : Int32} {u0 : St} {r : Int32} {u' : St} (X : sr_X D (tM t) b_M_rule6 5 R_M w_M_rule6 p s m args meth c A (some .boolean)) (hk28 : ∀ (x1 : Int32) (u0 : St) (H : Heap) (locs : List Loc) (ls : Array Slot), sr_Z D A s.heap (wM h t u0) H locs → lv_has ls 5 [(0, .ref (h 0)), (1, .int x1)] → k28 x1 u0 = some (r, u') → W p l e (sr_rm 1 24) s m args below meth c H locs 0 0 (sr_Qi D (tM t) below args s A (wM h t u') r) (F0 m 28 ls [])) (Z : sr_Z D A s.heap (wM h t u0) H locs) (hl : lv_has ls 5 [(0, .ref (h 0)), (1, .int x1)]) (hf : f_M_rule6_28 k28 x1 u0 = some (r, u')) : W p l e (sr_rm 1 24) s m args below meth c H locs 0 0 (sr_Qi D (tM t) below args s A (wM h t u') r) (F0 m 28 ls []) := by
  have hx := X.1
  have hb := X.2.1
  have hK := X.2.2.2.2.2.2.1
  unfold f_M_rule6_28 at hf
  refine lv_iload_n hx hb d_M_rule6_28 rfl (lv_at hl 1 rfl) ?_
  refine lv_bipush (v := 50) hx hb d_M_rule6_29 (by decide) ?_
  refine lv_icmp_ge (tgt := 176) hx hb d_M_rule6_31 rfl (fun q_4 => ?_) (fun q_4 => ?_)
  · have hf := sr_it q_4 hf
    exact k_M_rule6_176 X Z (lv_sub hl [0] rfl) hf
  · have hf := sr_if q_4 hf
    refine lv_aload_n hx hb d_M_rule6_34 rfl (lv_at hl 0 rfl) ?_
    refine g_M_132_M X Z d_M_rule6_35 ?_
    refine lv_if_eq (tgt := 176) hx hb d_M_rule6_38 rfl (fun q_6 => ?_) (fun q_6 => ?_)
    · have hf := sr_it q_6 hf
      exact k_M_rule6_176 X Z (lv_sub hl [0] rfl) hf
    · have hf := sr_if q_6 hf
      refine lv_aload_n hx hb d_M_rule6_41 rfl (lv_at hl 0 rfl) ?_
      refine lv_iconst (v := 0) hx hb d_M_rule6_42 (by decide) ?_
      obtain ⟨u_7, e_8, hf⟩ := sr_b hf
      refine s_M_132_M X Z e_8 d_M_rule6_43 (fun H locs Z => ?_)
      refine lv_iconst (v := 0) hx hb d_M_rule6_46 (by decide) ?_
      refine lv_istore_n (lv' := [(2, .int 0), (0, .ref (h 0)), (1, .int x1)]) hx hb d_M_rule6_47 rfl hl (by decide) rfl (fun ls hl => ?_)
      exact k_M_rule6_48_it X hk28 _ Z (lv_sub hl [1, 2, 0] rfl) hf
def f_M_rule6_28_it : Nat → Int32 → St → Option (Int32 × St)
  | 0 => fun _ _ => none
  | n + 1 => fun x1 u0 => f_M_rule6_28 (f_M_rule6_28_it n) x1 u0
set_option maxHeartbeats 4000000 in
set_option maxRecDepth 100000 in
theorem k_M_rule6_28_it {r : Int32} {u' : St} (X : sr_X D (tM t) b_M_rule6 5 R_M w_M_rule6 p s m args meth c A (some .boolean)) (n : Nat) : ∀ {x1 : Int32} {u0 : St} {H : Heap} {locs : List Loc} {ls : Array Slot}, sr_Z D A s.heap (wM h t u0) H locs → lv_has ls 5 [(0, .ref (h 0)), (1, .int x1)] → f_M_rule6_28_it n x1 u0 = some (r, u') → W p l e (sr_rm 1 24) s m args below meth c H locs 0 0 (sr_Qi D (tM t) below args s A (wM h t u') r) (F0 m 28 ls []) := by
  induction n with
  | zero => intro x1 u0 H locs ls Z hl hf; exact absurd hf (by simp [f_M_rule6_28_it])
  | succ n ih =>
    intro x1 u0 H locs ls Z hl hf
    exact k_M_rule6_28 X (fun x1 u0 H locs ls Z hl hf => ih Z hl hf) Z hl hf
def f_M_rule6_2 (k2 : Int32 → St → Option (Int32 × St)) (x1 : Int32) (u0 : St) : Option (Int32 × St) :=
  if 48 ≤ x1 then
    (sr_pf u0 15 1).bind fun u_2 =>
    f_M_rule6_28_it 60 0 u_2
  else
    (sr_ast 48 u0 14 x1 0).bind fun u_34 =>
    k2 (x1 + 1) u_34
set_option maxHeartbeats 4000000 in
set_option maxRecDepth 100000 in
theorem k_M_rule6_2 {k2 : Int32 → St → Option (Int32 × St)} {x1 : Int32} {u0 : St} {r : Int32} {u' : St} (X : sr_X D (tM t) b_M_rule6 5 R_M w_M_rule6 p s m args meth c A (some .boolean)) (hk2 : ∀ (x1 : Int32) (u0 : St) (H : Heap) (locs : List Loc) (ls : Array Slot), sr_Z D A s.heap (wM h t u0) H locs → lv_has ls 5 [(0, .ref (h 0)), (1, .int x1)] → k2 x1 u0 = some (r, u') → W p l e (sr_rm 1 24) s m args below meth c H locs 0 0 (sr_Qi D (tM t) below args s A (wM h t u') r) (F0 m 2 ls [])) (Z : sr_Z D A s.heap (wM h t u0) H locs) (hl : lv_has ls 5 [(0, .ref (h 0)), (1, .int x1)]) (hf : f_M_rule6_2 k2 x1 u0 = some (r, u')) : W p l e (sr_rm 1 24) s m args below meth c H locs 0 0 (sr_Qi D (tM t) below args s A (wM h t u') r) (F0 m 2 ls []) := by
  have hx := X.1
  have hb := X.2.1
  have hK := X.2.2.2.2.2.2.1
  unfold f_M_rule6_2 at hf
  refine lv_iload_n hx hb d_M_rule6_2 rfl (lv_at hl 1 rfl) ?_
  refine lv_bipush (v := 48) hx hb d_M_rule6_3 (by decide) ?_
  refine lv_icmp_ge (tgt := 21) hx hb d_M_rule6_5 rfl (fun q_1 => ?_) (fun q_1 => ?_)
  · have hf := sr_it q_1 hf
    refine lv_aload_n hx hb d_M_rule6_21 rfl (lv_at hl 0 rfl) ?_
    refine lv_iconst (v := 1) hx hb d_M_rule6_22 (by decide) ?_
    obtain ⟨u_2, e_3, hf⟩ := sr_b hf
    refine s_M_132_M X Z e_3 d_M_rule6_23 (fun H locs Z => ?_)
    refine lv_iconst (v := 0) hx hb d_M_rule6_26 (by decide) ?_
    refine lv_istore_n (lv' := [(1, .int 0), (0, .ref (h 0))]) hx hb d_M_rule6_27 rfl hl (by decide) rfl (fun ls hl => ?_)
    exact k_M_rule6_28_it X _ Z (lv_sub hl [1, 0] rfl) hf
  · have hf := sr_if q_1 hf
    refine lv_aload_n hx hb d_M_rule6_8 rfl (lv_at hl 0 rfl) ?_
    refine g_M_40_M X Z d_M_rule6_9 ?_
    refine lv_iload_n hx hb d_M_rule6_12 rfl (lv_at hl 1 rfl) ?_
    refine lv_iconst (v := 0) hx hb d_M_rule6_13 (by decide) ?_
    obtain ⟨u_34, e_35, hf⟩ := sr_b hf
    refine sr_iast (wf := (fun q => (wM h t q))) hx hb hK Z 11 10 rfl rfl e_35 (fun _ => rfl) d_M_rule6_14 (fun H locs Z => ?_)
    refine lv_iinc (k := 1) (v := x1 + 1) (lv' := [(1, .int (x1 + 1)), (0, .ref (h 0))]) hx hb d_M_rule6_15 hl rfl rfl (by decide) rfl (fun ls hl => ?_)
    refine lv_goto (tgt := 2) hx hb d_M_rule6_18 rfl ?_
    exact hk2 (x1 + 1) u_34 _ _ _ Z (lv_sub hl [1, 0] rfl) hf
def f_M_rule6_2_it : Nat → Int32 → St → Option (Int32 × St)
  | 0 => fun _ _ => none
  | n + 1 => fun x1 u0 => f_M_rule6_2 (f_M_rule6_2_it n) x1 u0
set_option maxHeartbeats 4000000 in
set_option maxRecDepth 100000 in
theorem k_M_rule6_2_it {r : Int32} {u' : St} (X : sr_X D (tM t) b_M_rule6 5 R_M w_M_rule6 p s m args meth c A (some .boolean)) (n : Nat) : ∀ {x1 : Int32} {u0 : St} {H : Heap} {locs : List Loc} {ls : Array Slot}, sr_Z D A s.heap (wM h t u0) H locs → lv_has ls 5 [(0, .ref (h 0)), (1, .int x1)] → f_M_rule6_2_it n x1 u0 = some (r, u') → W p l e (sr_rm 1 24) s m args below meth c H locs 0 0 (sr_Qi D (tM t) below args s A (wM h t u') r) (F0 m 2 ls []) := by
  induction n with
  | zero => intro x1 u0 H locs ls Z hl hf; exact absurd hf (by simp [f_M_rule6_2_it])
  | succ n ih =>
    intro x1 u0 H locs ls Z hl hf
    exact k_M_rule6_2 X (fun x1 u0 H locs ls Z hl hf => ih Z hl hf) Z hl hf
def f_M_rule6 (u0 : St) : Option (Int32 × St) :=
  f_M_rule6_2_it 60 0 u0
set_option maxHeartbeats 4000000 in
set_option maxRecDepth 100000 in
theorem k_M_rule6_0 {u0 : St} {r : Int32} {u' : St} (X : sr_X D (tM t) b_M_rule6 5 R_M w_M_rule6 p s m args meth c A (some .boolean)) (Z : sr_Z D A s.heap (wM h t u0) H locs) (hl : lv_has ls 5 [(0, .ref (h 0))]) (hf : f_M_rule6 u0 = some (r, u')) : W p l e (sr_rm 1 24) s m args below meth c H locs 0 0 (sr_Qi D (tM t) below args s A (wM h t u') r) (F0 m 0 ls []) := by
  have hx := X.1
  have hb := X.2.1
  have hK := X.2.2.2.2.2.2.1
  unfold f_M_rule6 at hf
  refine lv_iconst (v := 0) hx hb d_M_rule6_0 (by decide) ?_
  refine lv_istore_n (lv' := [(1, .int 0), (0, .ref (h 0))]) hx hb d_M_rule6_1 rfl hl (by decide) rfl (fun ls hl => ?_)
  exact k_M_rule6_2_it X _ Z (lv_sub hl [1, 0] rfl) hf
end
set_option maxHeartbeats 4000000 in
set_option maxRecDepth 100000 in
theorem c_M_rule6 {l : Launch} {D : va_G} {h : Nat → Nat} {t : Nat → ClassId} {sz : Nat} {u0 : St} {r : Int32} {u' : St} (hf : f_M_rule6 u0 = some (r, u')) : sr_Ci l y_M_rule6 w_M_rule6 (sr_rm 1 24) D (tM t) (wM h t u0) (wM h t u') sz [.ref (h 0)] r := by
  refine Met.ofW (cc := b_M_rule6) (maxL := 5) (ret := (some .boolean)) (by decide) rfl ?_
  intro p e s m args below meth c s₁ B hml hv
  obtain ⟨rfl, hsz, hP, hK, hD0⟩ := hv
  subst hsz
  have X : sr_X D (tM t) b_M_rule6 5 R_M w_M_rule6 p s m _ meth c (va_A (wM h t u0) s.heap.size) (some .boolean) := ⟨B.exec, B.bytes, hml, findClass_of_methodNamed B.named, B.notSynchronized, atoms_spec (ws := w_M_rule6) B.pre, hK, fun q h => Or.inr h, B.returns⟩
  have Z : sr_Z D (va_A (wM h t u0) s.heap.size) s.heap (wM h t u0) s.heap [] := ⟨hP, hD0.self, va_S.rf⟩
  have hl := lv_entry ([.ref (h 0)] : List Value) (n := 5) (Nat.le_of_ble_eq_true rfl)
  rw [lg_entry_eq]
  exact k_M_rule6_0 X Z hl hf
/-! M_targeted -/
theorem d_M_targeted_0 : decode b_M_targeted 0 = .ok (.iconst 0, 1) := by decide +kernel
theorem d_M_targeted_1 : decode b_M_targeted 1 = .ok (.istore_n 2, 1) := by decide +kernel
theorem d_M_targeted_2 : decode b_M_targeted 2 = .ok (.iload_n 2, 1) := by decide +kernel
theorem d_M_targeted_3 : decode b_M_targeted 3 = .ok (.aload_n 0, 1) := by decide +kernel
theorem d_M_targeted_4 : decode b_M_targeted 4 = .ok (.getfield 115, 3) := by decide +kernel
theorem d_M_targeted_7 : decode b_M_targeted 7 = .ok (.if_icmp .ge 21, 3) := by decide +kernel
theorem d_M_targeted_10 : decode b_M_targeted 10 = .ok (.aload_n 0, 1) := by decide +kernel
theorem d_M_targeted_11 : decode b_M_targeted 11 = .ok (.getfield 31, 3) := by decide +kernel
theorem d_M_targeted_14 : decode b_M_targeted 14 = .ok (.iload_n 2, 1) := by decide +kernel
theorem d_M_targeted_15 : decode b_M_targeted 15 = .ok (.iaload, 1) := by decide +kernel
theorem d_M_targeted_16 : decode b_M_targeted 16 = .ok (.iload_n 1, 1) := by decide +kernel
theorem d_M_targeted_17 : decode b_M_targeted 17 = .ok (.if_icmp .ne 5, 3) := by decide +kernel
theorem d_M_targeted_20 : decode b_M_targeted 20 = .ok (.iconst 1, 1) := by decide +kernel
theorem d_M_targeted_21 : decode b_M_targeted 21 = .ok (.ireturn, 1) := by decide +kernel
theorem d_M_targeted_22 : decode b_M_targeted 22 = .ok (.iinc 2 1, 3) := by decide +kernel
theorem d_M_targeted_25 : decode b_M_targeted 25 = .ok (.goto (-23), 3) := by decide +kernel
theorem d_M_targeted_28 : decode b_M_targeted 28 = .ok (.iconst 0, 1) := by decide +kernel
theorem d_M_targeted_29 : decode b_M_targeted 29 = .ok (.ireturn, 1) := by decide +kernel
section
variable {p : Program} {l : Launch} {e : Env} {s : State} {m : MethodId} {args : Array Value} {below : List Frame} {meth : Method} {c : Code} {H : Heap} {locs : List Loc} {ls : Array Slot} {D : va_G} {A : Nat → Prop} {h o : Nat → Nat} {t v : Nat → ClassId}
def f_M_targeted_2 (k2 : Int32 → Int32 → Option (Int32)) (u0 : St) (x1 : Int32) (x2 : Int32) : Option (Int32) :=
  if (u0 7 0) ≤ x2 then
    some 0
  else
    (sr_ald 16 (u0 9) x2).bind fun v_2 =>
    if v_2 = x1 then
      some 1
    else
      k2 x1 (x2 + 1)
set_option maxHeartbeats 4000000 in
set_option maxRecDepth 100000 in
theorem k_M_targeted_2 {k2 : Int32 → Int32 → Option (Int32)} {u0 : St} {x1 : Int32} {x2 : Int32} {r : Int32} (X : sr_X D (tM t) b_M_targeted 3 R_M w_M_targeted p s m args meth c A (some .boolean)) (hk2 : ∀ (x1 : Int32) (x2 : Int32) (H : Heap) (locs : List Loc) (ls : Array Slot), sr_Z D A s.heap (wM h t u0) H locs → lv_has ls 3 [(0, .ref (h 0)), (1, .int x1), (2, .int x2)] → k2 x1 x2 = some r → W p l e (sr_rm 0 0) s m args below meth c H locs 0 0 (sr_Qi D (tM t) below args s A (wM h t u0) r) (F0 m 2 ls [])) (Z : sr_Z D A s.heap (wM h t u0) H locs) (hl : lv_has ls 3 [(0, .ref (h 0)), (1, .int x1), (2, .int x2)]) (hf : f_M_targeted_2 k2 u0 x1 x2 = some r) : W p l e (sr_rm 0 0) s m args below meth c H locs 0 0 (sr_Qi D (tM t) below args s A (wM h t u0) r) (F0 m 2 ls []) := by
  have hx := X.1
  have hb := X.2.1
  have hK := X.2.2.2.2.2.2.1
  unfold f_M_targeted_2 at hf
  refine lv_iload_n hx hb d_M_targeted_2 rfl (lv_at hl 2 rfl) ?_
  refine lv_aload_n hx hb d_M_targeted_3 rfl (lv_at hl 0 rfl) ?_
  refine g_M_115_M X Z d_M_targeted_4 ?_
  refine lv_icmp_ge (tgt := 28) hx hb d_M_targeted_7 rfl (fun q_1 => ?_) (fun q_1 => ?_)
  · have hf := sr_it q_1 hf
    refine lv_iconst (v := 0) hx hb d_M_targeted_28 (by decide) ?_
    cases hf
    exact sr_retz X Z (by decide) d_M_targeted_29
  · have hf := sr_if q_1 hf
    refine lv_aload_n hx hb d_M_targeted_10 rfl (lv_at hl 0 rfl) ?_
    refine g_M_31_M X Z d_M_targeted_11 ?_
    refine lv_iload_n hx hb d_M_targeted_14 rfl (lv_at hl 2 rfl) ?_
    obtain ⟨v_2, e_3, hf⟩ := sr_b hf
    refine sr_iald hx hb hK Z 8 7 rfl rfl e_3 d_M_targeted_15 ?_
    refine lv_iload_n hx hb d_M_targeted_16 rfl (lv_at hl 1 rfl) ?_
    refine lv_icmp_ne (tgt := 22) hx hb d_M_targeted_17 rfl (fun q_4 => ?_) (fun q_4 => ?_)
    · have hf := sr_if q_4 hf
      refine lv_iinc (k := 2) (v := x2 + 1) (lv' := [(2, .int (x2 + 1)), (0, .ref (h 0)), (1, .int x1)]) hx hb d_M_targeted_22 hl rfl rfl (by decide) rfl (fun ls hl => ?_)
      refine lv_goto (tgt := 2) hx hb d_M_targeted_25 rfl ?_
      exact hk2 x1 (x2 + 1) _ _ _ Z (lv_sub hl [1, 2, 0] rfl) hf
    · have hf := sr_it q_4 hf
      refine lv_iconst (v := 1) hx hb d_M_targeted_20 (by decide) ?_
      cases hf
      exact sr_retz X Z (by decide) d_M_targeted_21
def f_M_targeted_2_it (u0 : St) : Nat → Int32 → Int32 → Option (Int32)
  | 0 => fun _ _ => none
  | n + 1 => fun x1 x2 => f_M_targeted_2 (f_M_targeted_2_it u0 n) u0 x1 x2
set_option maxHeartbeats 4000000 in
set_option maxRecDepth 100000 in
theorem k_M_targeted_2_it {u0 : St} {r : Int32} (X : sr_X D (tM t) b_M_targeted 3 R_M w_M_targeted p s m args meth c A (some .boolean)) (n : Nat) : ∀ {x1 : Int32} {x2 : Int32} {H : Heap} {locs : List Loc} {ls : Array Slot}, sr_Z D A s.heap (wM h t u0) H locs → lv_has ls 3 [(0, .ref (h 0)), (1, .int x1), (2, .int x2)] → f_M_targeted_2_it u0 n x1 x2 = some r → W p l e (sr_rm 0 0) s m args below meth c H locs 0 0 (sr_Qi D (tM t) below args s A (wM h t u0) r) (F0 m 2 ls []) := by
  induction n with
  | zero => intro x1 x2 H locs ls Z hl hf; exact absurd hf (by simp [f_M_targeted_2_it])
  | succ n ih =>
    intro x1 x2 H locs ls Z hl hf
    exact k_M_targeted_2 X (fun x1 x2 H locs ls Z hl hf => ih Z hl hf) Z hl hf
def f_M_targeted (u0 : St) (x1 : Int32) : Option (Int32) :=
  f_M_targeted_2_it u0 60 x1 0
set_option maxHeartbeats 4000000 in
set_option maxRecDepth 100000 in
theorem k_M_targeted_0 {u0 : St} {x1 : Int32} {r : Int32} (X : sr_X D (tM t) b_M_targeted 3 R_M w_M_targeted p s m args meth c A (some .boolean)) (Z : sr_Z D A s.heap (wM h t u0) H locs) (hl : lv_has ls 3 [(0, .ref (h 0)), (1, .int x1)]) (hf : f_M_targeted u0 x1 = some r) : W p l e (sr_rm 0 0) s m args below meth c H locs 0 0 (sr_Qi D (tM t) below args s A (wM h t u0) r) (F0 m 0 ls []) := by
  have hx := X.1
  have hb := X.2.1
  have hK := X.2.2.2.2.2.2.1
  unfold f_M_targeted at hf
  refine lv_iconst (v := 0) hx hb d_M_targeted_0 (by decide) ?_
  refine lv_istore_n (lv' := [(2, .int 0), (0, .ref (h 0)), (1, .int x1)]) hx hb d_M_targeted_1 rfl hl (by decide) rfl (fun ls hl => ?_)
  exact k_M_targeted_2_it X _ Z (lv_sub hl [1, 2, 0] rfl) hf
end
set_option maxHeartbeats 4000000 in
set_option maxRecDepth 100000 in
theorem c_M_targeted {l : Launch} {D : va_G} {h : Nat → Nat} {t : Nat → ClassId} {sz : Nat} {u0 : St} {x1 : Int32} {r : Int32} (hf : f_M_targeted u0 x1 = some r) : sr_Ci l y_M_targeted w_M_targeted (sr_rm 0 0) D (tM t) (wM h t u0) (wM h t u0) sz [.ref (h 0), .int x1] r := by
  refine Met.ofW (cc := b_M_targeted) (maxL := 3) (ret := (some .boolean)) (by decide) rfl ?_
  intro p e s m args below meth c s₁ B hml hv
  obtain ⟨rfl, hsz, hP, hK, hD0⟩ := hv
  subst hsz
  have X : sr_X D (tM t) b_M_targeted 3 R_M w_M_targeted p s m _ meth c (va_A (wM h t u0) s.heap.size) (some .boolean) := ⟨B.exec, B.bytes, hml, findClass_of_methodNamed B.named, B.notSynchronized, atoms_spec (ws := w_M_targeted) B.pre, hK, fun q h => Or.inr h, B.returns⟩
  have Z : sr_Z D (va_A (wM h t u0) s.heap.size) s.heap (wM h t u0) s.heap [] := ⟨hP, hD0.self, va_S.rf⟩
  have hl := lv_entry ([.ref (h 0), .int x1] : List Value) (n := 3) (Nat.le_of_ble_eq_true rfl)
  rw [lg_entry_eq]
  exact k_M_targeted_0 X Z hl hf
/-! M_rule7 -/
theorem d_M_rule7_0 : decode b_M_rule7 0 = .ok (.aload_n 0, 1) := by decide +kernel
theorem d_M_rule7_1 : decode b_M_rule7 1 = .ok (.iconst 0, 1) := by decide +kernel
theorem d_M_rule7_2 : decode b_M_rule7 2 = .ok (.iconst 0, 1) := by decide +kernel
theorem d_M_rule7_3 : decode b_M_rule7 3 = .ok (.invokevirtual 107, 3) := by decide +kernel
theorem d_M_rule7_6 : decode b_M_rule7 6 = .ok (.istore_n 1, 1) := by decide +kernel
theorem d_M_rule7_7 : decode b_M_rule7 7 = .ok (.aload_n 0, 1) := by decide +kernel
theorem d_M_rule7_8 : decode b_M_rule7 8 = .ok (.iload_n 1, 1) := by decide +kernel
theorem d_M_rule7_9 : decode b_M_rule7 9 = .ok (.invokevirtual 139, 3) := by decide +kernel
theorem d_M_rule7_12 : decode b_M_rule7 12 = .ok (.ifCond .ne 7, 3) := by decide +kernel
theorem d_M_rule7_15 : decode b_M_rule7 15 = .ok (.iconst 1, 1) := by decide +kernel
theorem d_M_rule7_16 : decode b_M_rule7 16 = .ok (.goto 4, 3) := by decide +kernel
theorem d_M_rule7_19 : decode b_M_rule7 19 = .ok (.iconst 0, 1) := by decide +kernel
theorem d_M_rule7_20 : decode b_M_rule7 20 = .ok (.istore_n 2, 1) := by decide +kernel
theorem d_M_rule7_21 : decode b_M_rule7 21 = .ok (.iconst 0, 1) := by decide +kernel
theorem d_M_rule7_22 : decode b_M_rule7 22 = .ok (.istore_n 3, 1) := by decide +kernel
theorem d_M_rule7_23 : decode b_M_rule7 23 = .ok (.iload_n 3, 1) := by decide +kernel
theorem d_M_rule7_24 : decode b_M_rule7 24 = .ok (.bipush 24, 2) := by decide +kernel
theorem d_M_rule7_26 : decode b_M_rule7 26 = .ok (.if_icmp .ge 45, 3) := by decide +kernel
theorem d_M_rule7_29 : decode b_M_rule7 29 = .ok (.aload_n 0, 1) := by decide +kernel
theorem d_M_rule7_30 : decode b_M_rule7 30 = .ok (.getfield 16, 3) := by decide +kernel
theorem d_M_rule7_33 : decode b_M_rule7 33 = .ok (.iload_n 1, 1) := by decide +kernel
theorem d_M_rule7_34 : decode b_M_rule7 34 = .ok (.iaload, 1) := by decide +kernel
theorem d_M_rule7_35 : decode b_M_rule7 35 = .ok (.bipush 8, 2) := by decide +kernel
theorem d_M_rule7_37 : decode b_M_rule7 37 = .ok (.if_icmp .ne 34, 3) := by decide +kernel
theorem d_M_rule7_40 : decode b_M_rule7 40 = .ok (.aload_n 0, 1) := by decide +kernel
theorem d_M_rule7_41 : decode b_M_rule7 41 = .ok (.iload_n 1, 1) := by decide +kernel
theorem d_M_rule7_42 : decode b_M_rule7 42 = .ok (.iconst 0, 1) := by decide +kernel
theorem d_M_rule7_43 : decode b_M_rule7 43 = .ok (.invokevirtual 107, 3) := by decide +kernel
theorem d_M_rule7_46 : decode b_M_rule7 46 = .ok (.istore_n 1, 1) := by decide +kernel
theorem d_M_rule7_47 : decode b_M_rule7 47 = .ok (.iload_n 2, 1) := by decide +kernel
theorem d_M_rule7_48 : decode b_M_rule7 48 = .ok (.ifCond .eq 15, 3) := by decide +kernel
theorem d_M_rule7_51 : decode b_M_rule7 51 = .ok (.aload_n 0, 1) := by decide +kernel
theorem d_M_rule7_52 : decode b_M_rule7 52 = .ok (.iload_n 1, 1) := by decide +kernel
theorem d_M_rule7_53 : decode b_M_rule7 53 = .ok (.invokevirtual 139, 3) := by decide +kernel
theorem d_M_rule7_56 : decode b_M_rule7 56 = .ok (.ifCond .ne 7, 3) := by decide +kernel
theorem d_M_rule7_59 : decode b_M_rule7 59 = .ok (.iconst 1, 1) := by decide +kernel
theorem d_M_rule7_60 : decode b_M_rule7 60 = .ok (.goto 4, 3) := by decide +kernel
theorem d_M_rule7_63 : decode b_M_rule7 63 = .ok (.iconst 0, 1) := by decide +kernel
theorem d_M_rule7_64 : decode b_M_rule7 64 = .ok (.istore_n 2, 1) := by decide +kernel
theorem d_M_rule7_65 : decode b_M_rule7 65 = .ok (.iinc 3 1, 3) := by decide +kernel
theorem d_M_rule7_68 : decode b_M_rule7 68 = .ok (.goto (-45), 3) := by decide +kernel
theorem d_M_rule7_71 : decode b_M_rule7 71 = .ok (.aload_n 0, 1) := by decide +kernel
theorem d_M_rule7_72 : decode b_M_rule7 72 = .ok (.iload_n 1, 1) := by decide +kernel
theorem d_M_rule7_73 : decode b_M_rule7 73 = .ok (.putfield 143, 3) := by decide +kernel
theorem d_M_rule7_76 : decode b_M_rule7 76 = .ok (.iload_n 2, 1) := by decide +kernel
theorem d_M_rule7_77 : decode b_M_rule7 77 = .ok (.ifCond .eq 17, 3) := by decide +kernel
theorem d_M_rule7_80 : decode b_M_rule7 80 = .ok (.aload_n 0, 1) := by decide +kernel
theorem d_M_rule7_81 : decode b_M_rule7 81 = .ok (.getfield 16, 3) := by decide +kernel
theorem d_M_rule7_84 : decode b_M_rule7 84 = .ok (.iload_n 1, 1) := by decide +kernel
theorem d_M_rule7_85 : decode b_M_rule7 85 = .ok (.iaload, 1) := by decide +kernel
theorem d_M_rule7_86 : decode b_M_rule7 86 = .ok (.iconst 5, 1) := by decide +kernel
theorem d_M_rule7_87 : decode b_M_rule7 87 = .ok (.if_icmp .ne 7, 3) := by decide +kernel
theorem d_M_rule7_90 : decode b_M_rule7 90 = .ok (.iconst 1, 1) := by decide +kernel
theorem d_M_rule7_91 : decode b_M_rule7 91 = .ok (.goto 4, 3) := by decide +kernel
theorem d_M_rule7_94 : decode b_M_rule7 94 = .ok (.iconst 0, 1) := by decide +kernel
theorem d_M_rule7_95 : decode b_M_rule7 95 = .ok (.ireturn, 1) := by decide +kernel
section
variable {p : Program} {l : Launch} {e : Env} {s : State} {m : MethodId} {args : Array Value} {below : List Frame} {meth : Method} {c : Code} {H : Heap} {locs : List Loc} {ls : Array Slot} {D : va_G} {A : Nat → Prop} {h o : Nat → Nat} {t v : Nat → ClassId}
def f_M_rule7_71 (x1 : Int32) (x2 : Int32) (u0 : St) : Option (Int32 × St) :=
  (sr_pf u0 13 x1).bind fun u_7 =>
  if x2 = 0 then
    some (0, u_7)
  else
    (sr_ald 24 (u_7 3) x1).bind fun v_10 =>
    if v_10 = 5 then
      some (1, u_7)
    else
      some (0, u_7)
set_option maxHeartbeats 4000000 in
set_option maxRecDepth 100000 in
theorem k_M_rule7_71 {x1 : Int32} {x2 : Int32} {u0 : St} {r : Int32} {u' : St} (X : sr_X D (tM t) b_M_rule7 4 R_M w_M_rule7 p s m args meth c A (some .boolean)) (Z : sr_Z D A s.heap (wM h t u0) H locs) (hl : lv_has ls 4 [(0, .ref (h 0)), (1, .int x1), (2, .int x2)]) (hf : f_M_rule7_71 x1 x2 u0 = some (r, u')) : W p l e (sr_rm 2 46) s m args below meth c H locs 0 0 (sr_Qi D (tM t) below args s A (wM h t u') r) (F0 m 71 ls []) := by
  have hx := X.1
  have hb := X.2.1
  have hK := X.2.2.2.2.2.2.1
  unfold f_M_rule7_71 at hf
  refine lv_aload_n hx hb d_M_rule7_71 rfl (lv_at hl 0 rfl) ?_
  refine lv_iload_n hx hb d_M_rule7_72 rfl (lv_at hl 1 rfl) ?_
  obtain ⟨u_7, e_8, hf⟩ := sr_b hf
  refine s_M_143_M X Z e_8 d_M_rule7_73 (fun H locs Z => ?_)
  refine lv_iload_n hx hb d_M_rule7_76 rfl (lv_at hl 2 rfl) ?_
  refine lv_if_eq (tgt := 94) hx hb d_M_rule7_77 rfl (fun q_9 => ?_) (fun q_9 => ?_)
  · have hf := sr_it q_9 hf
    refine lv_iconst (v := 0) hx hb d_M_rule7_94 (by decide) ?_
    cases hf
    exact sr_retz X Z (by decide) d_M_rule7_95
  · have hf := sr_if q_9 hf
    refine lv_aload_n hx hb d_M_rule7_80 rfl (lv_at hl 0 rfl) ?_
    refine g_M_16_M X Z d_M_rule7_81 ?_
    refine lv_iload_n hx hb d_M_rule7_84 rfl (lv_at hl 1 rfl) ?_
    obtain ⟨v_10, e_11, hf⟩ := sr_b hf
    refine sr_iald hx hb hK Z 3 2 rfl rfl e_11 d_M_rule7_85 ?_
    refine lv_iconst (v := 5) hx hb d_M_rule7_86 (by decide) ?_
    refine lv_icmp_ne (tgt := 94) hx hb d_M_rule7_87 rfl (fun q_12 => ?_) (fun q_12 => ?_)
    · have hf := sr_if q_12 hf
      refine lv_iconst (v := 0) hx hb d_M_rule7_94 (by decide) ?_
      cases hf
      exact sr_retz X Z (by decide) d_M_rule7_95
    · have hf := sr_it q_12 hf
      refine lv_iconst (v := 1) hx hb d_M_rule7_90 (by decide) ?_
      refine lv_goto (tgt := 95) hx hb d_M_rule7_91 rfl ?_
      cases hf
      exact sr_retz X Z (by decide) d_M_rule7_95
def f_M_rule7_64 (k23 : Int32 → Int32 → Int32 → St → Option (Int32 × St)) (x1 : Int32) (x3 : Int32) (y0 : Int32) (u0 : St) : Option (Int32 × St) :=
  k23 x1 y0 (x3 + 1) u0
set_option maxHeartbeats 4000000 in
set_option maxRecDepth 100000 in
theorem k_M_rule7_64 {k23 : Int32 → Int32 → Int32 → St → Option (Int32 × St)} {x1 : Int32} {x3 : Int32} {y0 : Int32} {u0 : St} {r : Int32} {u' : St} (X : sr_X D (tM t) b_M_rule7 4 R_M w_M_rule7 p s m args meth c A (some .boolean)) (hk23 : ∀ (x1 : Int32) (x2 : Int32) (x3 : Int32) (u0 : St) (H : Heap) (locs : List Loc) (ls : Array Slot), sr_Z D A s.heap (wM h t u0) H locs → lv_has ls 4 [(0, .ref (h 0)), (1, .int x1), (2, .int x2), (3, .int x3)] → k23 x1 x2 x3 u0 = some (r, u') → W p l e (sr_rm 2 46) s m args below meth c H locs 0 0 (sr_Qi D (tM t) below args s A (wM h t u') r) (F0 m 23 ls [])) (Z : sr_Z D A s.heap (wM h t u0) H locs) (hl : lv_has ls 4 [(0, .ref (h 0)), (1, .int x1), (3, .int x3)]) (hf : f_M_rule7_64 k23 x1 x3 y0 u0 = some (r, u')) : W p l e (sr_rm 2 46) s m args below meth c H locs 0 0 (sr_Qi D (tM t) below args s A (wM h t u') r) (F0 m 64 ls [.int y0]) := by
  have hx := X.1
  have hb := X.2.1
  have hK := X.2.2.2.2.2.2.1
  unfold f_M_rule7_64 at hf
  refine lv_istore_n (lv' := [(2, .int y0), (0, .ref (h 0)), (1, .int x1), (3, .int x3)]) hx hb d_M_rule7_64 rfl hl (by decide) rfl (fun ls hl => ?_)
  refine lv_iinc (k := 3) (v := x3 + 1) (lv' := [(3, .int (x3 + 1)), (2, .int y0), (0, .ref (h 0)), (1, .int x1)]) hx hb d_M_rule7_65 hl rfl rfl (by decide) rfl (fun ls hl => ?_)
  refine lv_goto (tgt := 23) hx hb d_M_rule7_68 rfl ?_
  exact hk23 x1 y0 (x3 + 1) u0 _ _ _ Z (lv_sub hl [2, 3, 1, 0] rfl) hf
def f_M_rule7_63 (k23 : Int32 → Int32 → Int32 → St → Option (Int32 × St)) (x1 : Int32) (x3 : Int32) (u0 : St) : Option (Int32 × St) :=
  f_M_rule7_64 k23 x1 x3 0 u0
set_option maxHeartbeats 4000000 in
set_option maxRecDepth 100000 in
theorem k_M_rule7_63 {k23 : Int32 → Int32 → Int32 → St → Option (Int32 × St)} {x1 : Int32} {x3 : Int32} {u0 : St} {r : Int32} {u' : St} (X : sr_X D (tM t) b_M_rule7 4 R_M w_M_rule7 p s m args meth c A (some .boolean)) (hk23 : ∀ (x1 : Int32) (x2 : Int32) (x3 : Int32) (u0 : St) (H : Heap) (locs : List Loc) (ls : Array Slot), sr_Z D A s.heap (wM h t u0) H locs → lv_has ls 4 [(0, .ref (h 0)), (1, .int x1), (2, .int x2), (3, .int x3)] → k23 x1 x2 x3 u0 = some (r, u') → W p l e (sr_rm 2 46) s m args below meth c H locs 0 0 (sr_Qi D (tM t) below args s A (wM h t u') r) (F0 m 23 ls [])) (Z : sr_Z D A s.heap (wM h t u0) H locs) (hl : lv_has ls 4 [(0, .ref (h 0)), (1, .int x1), (3, .int x3)]) (hf : f_M_rule7_63 k23 x1 x3 u0 = some (r, u')) : W p l e (sr_rm 2 46) s m args below meth c H locs 0 0 (sr_Qi D (tM t) below args s A (wM h t u') r) (F0 m 63 ls []) := by
  have hx := X.1
  have hb := X.2.1
  have hK := X.2.2.2.2.2.2.1
  unfold f_M_rule7_63 at hf
  refine lv_iconst (v := 0) hx hb d_M_rule7_63 (by decide) ?_
  exact k_M_rule7_64 X hk23 Z (lv_sub hl [0, 1, 2] rfl) hf
def f_M_rule7_23 (k23 : Int32 → Int32 → Int32 → St → Option (Int32 × St)) (x1 : Int32) (x2 : Int32) (x3 : Int32) (u0 : St) : Option (Int32 × St) :=
  if 24 ≤ x3 then
    f_M_rule7_71 x1 x2 u0
  else
    (sr_ald 24 (u0 3) x1).bind fun v_13 =>
    if v_13 = 8 then
      (f_M_inRole u0 x1 0).bind fun v_16 =>
      if x2 = 0 then
        f_M_rule7_63 k23 v_16 x3 u0
      else
        (f_M_targeted u0 v_16).bind fun v_19 =>
        if v_19 = 0 then
          f_M_rule7_64 k23 v_16 x3 1 u0
        else
          f_M_rule7_63 k23 v_16 x3 u0
    else
      f_M_rule7_71 x1 x2 u0
set_option maxHeartbeats 4000000 in
set_option maxRecDepth 100000 in
theorem k_M_rule7_23 {k23 : Int32 → Int32 → Int32 → St → Option (Int32 × St)} {x1 : Int32} {x2 : Int32} {x3 : Int32} {u0 : St} {r : Int32} {u' : St} (X : sr_X D (tM t) b_M_rule7 4 R_M w_M_rule7 p s m args meth c A (some .boolean)) (hk23 : ∀ (x1 : Int32) (x2 : Int32) (x3 : Int32) (u0 : St) (H : Heap) (locs : List Loc) (ls : Array Slot), sr_Z D A s.heap (wM h t u0) H locs → lv_has ls 4 [(0, .ref (h 0)), (1, .int x1), (2, .int x2), (3, .int x3)] → k23 x1 x2 x3 u0 = some (r, u') → W p l e (sr_rm 2 46) s m args below meth c H locs 0 0 (sr_Qi D (tM t) below args s A (wM h t u') r) (F0 m 23 ls [])) (Z : sr_Z D A s.heap (wM h t u0) H locs) (hl : lv_has ls 4 [(0, .ref (h 0)), (1, .int x1), (2, .int x2), (3, .int x3)]) (hf : f_M_rule7_23 k23 x1 x2 x3 u0 = some (r, u')) : W p l e (sr_rm 2 46) s m args below meth c H locs 0 0 (sr_Qi D (tM t) below args s A (wM h t u') r) (F0 m 23 ls []) := by
  have hx := X.1
  have hb := X.2.1
  have hK := X.2.2.2.2.2.2.1
  unfold f_M_rule7_23 at hf
  refine lv_iload_n hx hb d_M_rule7_23 rfl (lv_at hl 3 rfl) ?_
  refine lv_bipush (v := 24) hx hb d_M_rule7_24 (by decide) ?_
  refine lv_icmp_ge (tgt := 71) hx hb d_M_rule7_26 rfl (fun q_6 => ?_) (fun q_6 => ?_)
  · have hf := sr_it q_6 hf
    exact k_M_rule7_71 X Z (lv_sub hl [0, 1, 2] rfl) hf
  · have hf := sr_if q_6 hf
    refine lv_aload_n hx hb d_M_rule7_29 rfl (lv_at hl 0 rfl) ?_
    refine g_M_16_M X Z d_M_rule7_30 ?_
    refine lv_iload_n hx hb d_M_rule7_33 rfl (lv_at hl 1 rfl) ?_
    obtain ⟨v_13, e_14, hf⟩ := sr_b hf
    refine sr_iald hx hb hK Z 3 2 rfl rfl e_14 d_M_rule7_34 ?_
    refine lv_bipush (v := 8) hx hb d_M_rule7_35 (by decide) ?_
    refine lv_icmp_ne (tgt := 71) hx hb d_M_rule7_37 rfl (fun q_15 => ?_) (fun q_15 => ?_)
    · have hf := sr_if q_15 hf
      exact k_M_rule7_71 X Z (lv_sub hl [0, 1, 2] rfl) hf
    · have hf := sr_it q_15 hf
      refine lv_aload_n hx hb d_M_rule7_40 rfl (lv_at hl 0 rfl) ?_
      refine lv_iload_n hx hb d_M_rule7_41 rfl (lv_at hl 1 rfl) ?_
      refine lv_iconst (v := 0) hx hb d_M_rule7_42 (by decide) ?_
      obtain ⟨v_16, e_17, hf⟩ := sr_b hf
      refine sr_cVi (As := [.int x1, .int 0]) (rest := []) X Z sr_cut_self hK (c_M_inRole e_17) (cw_M_107 X.2.2.2.2.2.1 (by decide)) 0 rfl rfl rfl hl rfl (Nat.le_of_ble_eq_true rfl) d_M_rule7_43 (fun H locs Z => ?_)
      refine lv_istore_n (lv' := [(1, .int v_16), (0, .ref (h 0)), (2, .int x2), (3, .int x3)]) hx hb d_M_rule7_46 rfl hl (by decide) rfl (fun ls hl => ?_)
      refine lv_iload_n hx hb d_M_rule7_47 rfl (lv_at hl 2 rfl) ?_
      refine lv_if_eq (tgt := 63) hx hb d_M_rule7_48 rfl (fun q_18 => ?_) (fun q_18 => ?_)
      · have hf := sr_it q_18 hf
        exact k_M_rule7_63 X hk23 Z (lv_sub hl [1, 0, 3] rfl) hf
      · have hf := sr_if q_18 hf
        refine lv_aload_n hx hb d_M_rule7_51 rfl (lv_at hl 1 rfl) ?_
        refine lv_iload_n hx hb d_M_rule7_52 rfl (lv_at hl 0 rfl) ?_
        obtain ⟨v_19, e_20, hf⟩ := sr_b hf
        refine sr_cVi (As := [.int v_16]) (rest := []) X Z sr_cut_self hK (c_M_targeted e_20) (cw_M_139 X.2.2.2.2.2.1 (by decide)) 0 rfl rfl rfl hl rfl (Nat.le_of_ble_eq_true rfl) d_M_rule7_53 (fun H locs Z => ?_)
        refine lv_if_ne (tgt := 63) hx hb d_M_rule7_56 rfl (fun q_21 => ?_) (fun q_21 => ?_)
        · have hf := sr_if q_21 hf
          exact k_M_rule7_63 X hk23 Z (lv_sub hl [1, 0, 3] rfl) hf
        · have hf := sr_it q_21 hf
          refine lv_iconst (v := 1) hx hb d_M_rule7_59 (by decide) ?_
          refine lv_goto (tgt := 64) hx hb d_M_rule7_60 rfl ?_
          exact k_M_rule7_64 X hk23 Z (lv_sub hl [1, 0, 3] rfl) hf
def f_M_rule7_23_it : Nat → Int32 → Int32 → Int32 → St → Option (Int32 × St)
  | 0 => fun _ _ _ _ => none
  | n + 1 => fun x1 x2 x3 u0 => f_M_rule7_23 (f_M_rule7_23_it n) x1 x2 x3 u0
set_option maxHeartbeats 4000000 in
set_option maxRecDepth 100000 in
theorem k_M_rule7_23_it {r : Int32} {u' : St} (X : sr_X D (tM t) b_M_rule7 4 R_M w_M_rule7 p s m args meth c A (some .boolean)) (n : Nat) : ∀ {x1 : Int32} {x2 : Int32} {x3 : Int32} {u0 : St} {H : Heap} {locs : List Loc} {ls : Array Slot}, sr_Z D A s.heap (wM h t u0) H locs → lv_has ls 4 [(0, .ref (h 0)), (1, .int x1), (2, .int x2), (3, .int x3)] → f_M_rule7_23_it n x1 x2 x3 u0 = some (r, u') → W p l e (sr_rm 2 46) s m args below meth c H locs 0 0 (sr_Qi D (tM t) below args s A (wM h t u') r) (F0 m 23 ls []) := by
  induction n with
  | zero => intro x1 x2 x3 u0 H locs ls Z hl hf; exact absurd hf (by simp [f_M_rule7_23_it])
  | succ n ih =>
    intro x1 x2 x3 u0 H locs ls Z hl hf
    exact k_M_rule7_23 X (fun x1 x2 x3 u0 H locs ls Z hl hf => ih Z hl hf) Z hl hf
def f_M_rule7_20 (x1 : Int32) (y0 : Int32) (u0 : St) : Option (Int32 × St) :=
  f_M_rule7_23_it 60 x1 y0 0 u0
set_option maxHeartbeats 4000000 in
set_option maxRecDepth 100000 in
theorem k_M_rule7_20 {x1 : Int32} {y0 : Int32} {u0 : St} {r : Int32} {u' : St} (X : sr_X D (tM t) b_M_rule7 4 R_M w_M_rule7 p s m args meth c A (some .boolean)) (Z : sr_Z D A s.heap (wM h t u0) H locs) (hl : lv_has ls 4 [(0, .ref (h 0)), (1, .int x1)]) (hf : f_M_rule7_20 x1 y0 u0 = some (r, u')) : W p l e (sr_rm 2 46) s m args below meth c H locs 0 0 (sr_Qi D (tM t) below args s A (wM h t u') r) (F0 m 20 ls [.int y0]) := by
  have hx := X.1
  have hb := X.2.1
  have hK := X.2.2.2.2.2.2.1
  unfold f_M_rule7_20 at hf
  refine lv_istore_n (lv' := [(2, .int y0), (0, .ref (h 0)), (1, .int x1)]) hx hb d_M_rule7_20 rfl hl (by decide) rfl (fun ls hl => ?_)
  refine lv_iconst (v := 0) hx hb d_M_rule7_21 (by decide) ?_
  refine lv_istore_n (lv' := [(3, .int 0), (2, .int y0), (0, .ref (h 0)), (1, .int x1)]) hx hb d_M_rule7_22 rfl hl (by decide) rfl (fun ls hl => ?_)
  exact k_M_rule7_23_it X _ Z (lv_sub hl [2, 3, 1, 0] rfl) hf
def f_M_rule7 (u0 : St) : Option (Int32 × St) :=
  (f_M_inRole u0 0 0).bind fun v_1 =>
  (f_M_targeted u0 v_1).bind fun v_3 =>
  if v_3 = 0 then
    f_M_rule7_20 v_1 1 u0
  else
    f_M_rule7_20 v_1 0 u0
set_option maxHeartbeats 4000000 in
set_option maxRecDepth 100000 in
theorem k_M_rule7_0 {u0 : St} {r : Int32} {u' : St} (X : sr_X D (tM t) b_M_rule7 4 R_M w_M_rule7 p s m args meth c A (some .boolean)) (Z : sr_Z D A s.heap (wM h t u0) H locs) (hl : lv_has ls 4 [(0, .ref (h 0))]) (hf : f_M_rule7 u0 = some (r, u')) : W p l e (sr_rm 2 46) s m args below meth c H locs 0 0 (sr_Qi D (tM t) below args s A (wM h t u') r) (F0 m 0 ls []) := by
  have hx := X.1
  have hb := X.2.1
  have hK := X.2.2.2.2.2.2.1
  unfold f_M_rule7 at hf
  refine lv_aload_n hx hb d_M_rule7_0 rfl (lv_at hl 0 rfl) ?_
  refine lv_iconst (v := 0) hx hb d_M_rule7_1 (by decide) ?_
  refine lv_iconst (v := 0) hx hb d_M_rule7_2 (by decide) ?_
  obtain ⟨v_1, e_2, hf⟩ := sr_b hf
  refine sr_cVi (As := [.int 0, .int 0]) (rest := []) X Z sr_cut_self hK (c_M_inRole e_2) (cw_M_107 X.2.2.2.2.2.1 (by decide)) 0 rfl rfl rfl hl rfl (Nat.le_of_ble_eq_true rfl) d_M_rule7_3 (fun H locs Z => ?_)
  refine lv_istore_n (lv' := [(1, .int v_1), (0, .ref (h 0))]) hx hb d_M_rule7_6 rfl hl (by decide) rfl (fun ls hl => ?_)
  refine lv_aload_n hx hb d_M_rule7_7 rfl (lv_at hl 1 rfl) ?_
  refine lv_iload_n hx hb d_M_rule7_8 rfl (lv_at hl 0 rfl) ?_
  obtain ⟨v_3, e_4, hf⟩ := sr_b hf
  refine sr_cVi (As := [.int v_1]) (rest := []) X Z sr_cut_self hK (c_M_targeted e_4) (cw_M_139 X.2.2.2.2.2.1 (by decide)) 0 rfl rfl rfl hl rfl (Nat.le_of_ble_eq_true rfl) d_M_rule7_9 (fun H locs Z => ?_)
  refine lv_if_ne (tgt := 19) hx hb d_M_rule7_12 rfl (fun q_5 => ?_) (fun q_5 => ?_)
  · have hf := sr_if q_5 hf
    refine lv_iconst (v := 0) hx hb d_M_rule7_19 (by decide) ?_
    exact k_M_rule7_20 X Z (lv_sub hl [1, 0] rfl) hf
  · have hf := sr_it q_5 hf
    refine lv_iconst (v := 1) hx hb d_M_rule7_15 (by decide) ?_
    refine lv_goto (tgt := 20) hx hb d_M_rule7_16 rfl ?_
    exact k_M_rule7_20 X Z (lv_sub hl [1, 0] rfl) hf
end
set_option maxHeartbeats 4000000 in
set_option maxRecDepth 100000 in
theorem c_M_rule7 {l : Launch} {D : va_G} {h : Nat → Nat} {t : Nat → ClassId} {sz : Nat} {u0 : St} {r : Int32} {u' : St} (hf : f_M_rule7 u0 = some (r, u')) : sr_Ci l y_M_rule7 w_M_rule7 (sr_rm 2 46) D (tM t) (wM h t u0) (wM h t u') sz [.ref (h 0)] r := by
  refine Met.ofW (cc := b_M_rule7) (maxL := 4) (ret := (some .boolean)) (by decide) rfl ?_
  intro p e s m args below meth c s₁ B hml hv
  obtain ⟨rfl, hsz, hP, hK, hD0⟩ := hv
  subst hsz
  have X : sr_X D (tM t) b_M_rule7 4 R_M w_M_rule7 p s m _ meth c (va_A (wM h t u0) s.heap.size) (some .boolean) := ⟨B.exec, B.bytes, hml, findClass_of_methodNamed B.named, B.notSynchronized, atoms_spec (ws := w_M_rule7) B.pre, hK, fun q h => Or.inr h, B.returns⟩
  have Z : sr_Z D (va_A (wM h t u0) s.heap.size) s.heap (wM h t u0) s.heap [] := ⟨hP, hD0.self, va_S.rf⟩
  have hl := lv_entry ([.ref (h 0)] : List Value) (n := 4) (Nat.le_of_ble_eq_true rfl)
  rw [lg_entry_eq]
  exact k_M_rule7_0 X Z hl hf
/-! M_deploy -/
theorem d_M_deploy_0 : decode b_M_deploy 0 = .ok (.aload_n 0, 1) := by decide +kernel
theorem d_M_deploy_1 : decode b_M_deploy 1 = .ok (.getfield 96, 3) := by decide +kernel
theorem d_M_deploy_4 : decode b_M_deploy 4 = .ok (.ifCond .eq 5, 3) := by decide +kernel
theorem d_M_deploy_7 : decode b_M_deploy 7 = .ok (.iconst (-1), 1) := by decide +kernel
theorem d_M_deploy_8 : decode b_M_deploy 8 = .ok (.ireturn, 1) := by decide +kernel
theorem d_M_deploy_9 : decode b_M_deploy 9 = .ok (.aload_n 0, 1) := by decide +kernel
theorem d_M_deploy_10 : decode b_M_deploy 10 = .ok (.invokevirtual 146, 3) := by decide +kernel
theorem d_M_deploy_13 : decode b_M_deploy 13 = .ok (.ifCond .ne 5, 3) := by decide +kernel
theorem d_M_deploy_16 : decode b_M_deploy 16 = .ok (.iconst 1, 1) := by decide +kernel
theorem d_M_deploy_17 : decode b_M_deploy 17 = .ok (.ireturn, 1) := by decide +kernel
theorem d_M_deploy_18 : decode b_M_deploy 18 = .ok (.aload_n 0, 1) := by decide +kernel
theorem d_M_deploy_19 : decode b_M_deploy 19 = .ok (.invokevirtual 150, 3) := by decide +kernel
theorem d_M_deploy_22 : decode b_M_deploy 22 = .ok (.ifCond .ne 5, 3) := by decide +kernel
theorem d_M_deploy_25 : decode b_M_deploy 25 = .ok (.iconst 2, 1) := by decide +kernel
theorem d_M_deploy_26 : decode b_M_deploy 26 = .ok (.ireturn, 1) := by decide +kernel
theorem d_M_deploy_27 : decode b_M_deploy 27 = .ok (.aload_n 0, 1) := by decide +kernel
theorem d_M_deploy_28 : decode b_M_deploy 28 = .ok (.invokevirtual 153, 3) := by decide +kernel
theorem d_M_deploy_31 : decode b_M_deploy 31 = .ok (.ifCond .ne 5, 3) := by decide +kernel
theorem d_M_deploy_34 : decode b_M_deploy 34 = .ok (.iconst 3, 1) := by decide +kernel
theorem d_M_deploy_35 : decode b_M_deploy 35 = .ok (.ireturn, 1) := by decide +kernel
theorem d_M_deploy_36 : decode b_M_deploy 36 = .ok (.aload_n 0, 1) := by decide +kernel
theorem d_M_deploy_37 : decode b_M_deploy 37 = .ok (.invokevirtual 156, 3) := by decide +kernel
theorem d_M_deploy_40 : decode b_M_deploy 40 = .ok (.ifCond .ne 5, 3) := by decide +kernel
theorem d_M_deploy_43 : decode b_M_deploy 43 = .ok (.iconst 4, 1) := by decide +kernel
theorem d_M_deploy_44 : decode b_M_deploy 44 = .ok (.ireturn, 1) := by decide +kernel
theorem d_M_deploy_45 : decode b_M_deploy 45 = .ok (.iconst 0, 1) := by decide +kernel
theorem d_M_deploy_46 : decode b_M_deploy 46 = .ok (.istore_n 1, 1) := by decide +kernel
theorem d_M_deploy_47 : decode b_M_deploy 47 = .ok (.iload_n 1, 1) := by decide +kernel
theorem d_M_deploy_48 : decode b_M_deploy 48 = .ok (.aload_n 0, 1) := by decide +kernel
theorem d_M_deploy_49 : decode b_M_deploy 49 = .ok (.getfield 115, 3) := by decide +kernel
theorem d_M_deploy_52 : decode b_M_deploy 52 = .ok (.if_icmp .ge 19, 3) := by decide +kernel
theorem d_M_deploy_55 : decode b_M_deploy 55 = .ok (.aload_n 0, 1) := by decide +kernel
theorem d_M_deploy_56 : decode b_M_deploy 56 = .ok (.iload_n 1, 1) := by decide +kernel
theorem d_M_deploy_57 : decode b_M_deploy 57 = .ok (.invokevirtual 159, 3) := by decide +kernel
theorem d_M_deploy_60 : decode b_M_deploy 60 = .ok (.ifCond .ne 5, 3) := by decide +kernel
theorem d_M_deploy_63 : decode b_M_deploy 63 = .ok (.iconst 5, 1) := by decide +kernel
theorem d_M_deploy_64 : decode b_M_deploy 64 = .ok (.ireturn, 1) := by decide +kernel
theorem d_M_deploy_65 : decode b_M_deploy 65 = .ok (.iinc 1 1, 3) := by decide +kernel
theorem d_M_deploy_68 : decode b_M_deploy 68 = .ok (.goto (-21), 3) := by decide +kernel
theorem d_M_deploy_71 : decode b_M_deploy 71 = .ok (.aload_n 0, 1) := by decide +kernel
theorem d_M_deploy_72 : decode b_M_deploy 72 = .ok (.invokevirtual 162, 3) := by decide +kernel
theorem d_M_deploy_75 : decode b_M_deploy 75 = .ok (.ifCond .ne 6, 3) := by decide +kernel
theorem d_M_deploy_78 : decode b_M_deploy 78 = .ok (.bipush 6, 2) := by decide +kernel
theorem d_M_deploy_80 : decode b_M_deploy 80 = .ok (.ireturn, 1) := by decide +kernel
theorem d_M_deploy_81 : decode b_M_deploy 81 = .ok (.aload_n 0, 1) := by decide +kernel
theorem d_M_deploy_82 : decode b_M_deploy 82 = .ok (.invokevirtual 165, 3) := by decide +kernel
theorem d_M_deploy_85 : decode b_M_deploy 85 = .ok (.ifCond .ne 6, 3) := by decide +kernel
theorem d_M_deploy_88 : decode b_M_deploy 88 = .ok (.bipush 7, 2) := by decide +kernel
theorem d_M_deploy_90 : decode b_M_deploy 90 = .ok (.ireturn, 1) := by decide +kernel
theorem d_M_deploy_91 : decode b_M_deploy 91 = .ok (.aload_n 0, 1) := by decide +kernel
theorem d_M_deploy_92 : decode b_M_deploy 92 = .ok (.iconst 1, 1) := by decide +kernel
theorem d_M_deploy_93 : decode b_M_deploy 93 = .ok (.putfield 96, 3) := by decide +kernel
theorem d_M_deploy_96 : decode b_M_deploy 96 = .ok (.iconst 0, 1) := by decide +kernel
theorem d_M_deploy_97 : decode b_M_deploy 97 = .ok (.ireturn, 1) := by decide +kernel
section
variable {p : Program} {l : Launch} {e : Env} {s : State} {m : MethodId} {args : Array Value} {below : List Frame} {meth : Method} {c : Code} {H : Heap} {locs : List Loc} {ls : Array Slot} {D : va_G} {A : Nat → Prop} {h o : Nat → Nat} {t v : Nat → ClassId}
def f_M_deploy_47 (k47 : Int32 → St → Option (Int32 × St)) (x1 : Int32) (u0 : St) : Option (Int32 × St) :=
  if (u0 7 0) ≤ x1 then
    sr_b2 (f_M_rule6 u0) fun v_15 u_16 =>
    if v_15 = 0 then
      some (6, u_16)
    else
      sr_b2 (f_M_rule7 u_16) fun v_19 u_20 =>
      if v_19 = 0 then
        some (7, u_20)
      else
        (sr_pf u_20 12 1).bind fun u_23 =>
        some (0, u_23)
  else
    (f_M_rule5 u0 x1).bind fun v_25 =>
    if v_25 = 0 then
      some (5, u0)
    else
      k47 (x1 + 1) u0
set_option maxHeartbeats 4000000 in
set_option maxRecDepth 100000 in
theorem k_M_deploy_47 {k47 : Int32 → St → Option (Int32 × St)} {x1 : Int32} {u0 : St} {r : Int32} {u' : St} (X : sr_X D (tM t) b_M_deploy 2 R_M w_M_deploy p s m args meth c A (some .int)) (hk47 : ∀ (x1 : Int32) (u0 : St) (H : Heap) (locs : List Loc) (ls : Array Slot), sr_Z D A s.heap (wM h t u0) H locs → lv_has ls 2 [(0, .ref (h 0)), (1, .int x1)] → k47 x1 u0 = some (r, u') → W p l e (sr_rm 3 69) s m args below meth c H locs 0 0 (sr_Qi D (tM t) below args s A (wM h t u') r) (F0 m 47 ls [])) (Z : sr_Z D A s.heap (wM h t u0) H locs) (hl : lv_has ls 2 [(0, .ref (h 0)), (1, .int x1)]) (hf : f_M_deploy_47 k47 x1 u0 = some (r, u')) : W p l e (sr_rm 3 69) s m args below meth c H locs 0 0 (sr_Qi D (tM t) below args s A (wM h t u') r) (F0 m 47 ls []) := by
  have hx := X.1
  have hb := X.2.1
  have hK := X.2.2.2.2.2.2.1
  unfold f_M_deploy_47 at hf
  refine lv_iload_n hx hb d_M_deploy_47 rfl (lv_at hl 1 rfl) ?_
  refine lv_aload_n hx hb d_M_deploy_48 rfl (lv_at hl 0 rfl) ?_
  refine g_M_115_M X Z d_M_deploy_49 ?_
  refine lv_icmp_ge (tgt := 71) hx hb d_M_deploy_52 rfl (fun q_14 => ?_) (fun q_14 => ?_)
  · have hf := sr_it q_14 hf
    refine lv_aload_n hx hb d_M_deploy_71 rfl (lv_at hl 0 rfl) ?_
    obtain ⟨v_15, u_16, e_17, hf⟩ := sr_b2_i hf
    refine sr_cVi (As := []) (rest := []) X Z sr_cut_self hK (c_M_rule6 e_17) (cw_M_162 X.2.2.2.2.2.1 (by decide)) 0 rfl rfl rfl hl rfl (Nat.le_of_ble_eq_true rfl) d_M_deploy_72 (fun H locs Z => ?_)
    refine lv_if_ne (tgt := 81) hx hb d_M_deploy_75 rfl (fun q_18 => ?_) (fun q_18 => ?_)
    · have hf := sr_if q_18 hf
      refine lv_aload_n hx hb d_M_deploy_81 rfl (lv_at hl 0 rfl) ?_
      obtain ⟨v_19, u_20, e_21, hf⟩ := sr_b2_i hf
      refine sr_cVi (As := []) (rest := []) X Z sr_cut_self hK (c_M_rule7 e_21) (cw_M_165 X.2.2.2.2.2.1 (by decide)) 0 rfl rfl rfl hl rfl (Nat.le_of_ble_eq_true rfl) d_M_deploy_82 (fun H locs Z => ?_)
      refine lv_if_ne (tgt := 91) hx hb d_M_deploy_85 rfl (fun q_22 => ?_) (fun q_22 => ?_)
      · have hf := sr_if q_22 hf
        refine lv_aload_n hx hb d_M_deploy_91 rfl (lv_at hl 0 rfl) ?_
        refine lv_iconst (v := 1) hx hb d_M_deploy_92 (by decide) ?_
        obtain ⟨u_23, e_24, hf⟩ := sr_b hf
        refine s_M_96_M X Z e_24 d_M_deploy_93 (fun H locs Z => ?_)
        refine lv_iconst (v := 0) hx hb d_M_deploy_96 (by decide) ?_
        cases hf
        exact sr_reti X Z d_M_deploy_97
      · have hf := sr_it q_22 hf
        refine lv_bipush (v := 7) hx hb d_M_deploy_88 (by decide) ?_
        cases hf
        exact sr_reti X Z d_M_deploy_90
    · have hf := sr_it q_18 hf
      refine lv_bipush (v := 6) hx hb d_M_deploy_78 (by decide) ?_
      cases hf
      exact sr_reti X Z d_M_deploy_80
  · have hf := sr_if q_14 hf
    refine lv_aload_n hx hb d_M_deploy_55 rfl (lv_at hl 0 rfl) ?_
    refine lv_iload_n hx hb d_M_deploy_56 rfl (lv_at hl 1 rfl) ?_
    obtain ⟨v_25, e_26, hf⟩ := sr_b hf
    refine sr_cVi (As := [.int x1]) (rest := []) X Z sr_cut_self hK (c_M_rule5 e_26) (cw_M_159 X.2.2.2.2.2.1 (by decide)) 0 rfl rfl rfl hl rfl (Nat.le_of_ble_eq_true rfl) d_M_deploy_57 (fun H locs Z => ?_)
    refine lv_if_ne (tgt := 65) hx hb d_M_deploy_60 rfl (fun q_27 => ?_) (fun q_27 => ?_)
    · have hf := sr_if q_27 hf
      refine lv_iinc (k := 1) (v := x1 + 1) (lv' := [(1, .int (x1 + 1)), (0, .ref (h 0))]) hx hb d_M_deploy_65 hl rfl rfl (by decide) rfl (fun ls hl => ?_)
      refine lv_goto (tgt := 47) hx hb d_M_deploy_68 rfl ?_
      exact hk47 (x1 + 1) u0 _ _ _ Z (lv_sub hl [1, 0] rfl) hf
    · have hf := sr_it q_27 hf
      refine lv_iconst (v := 5) hx hb d_M_deploy_63 (by decide) ?_
      cases hf
      exact sr_reti X Z d_M_deploy_64
def f_M_deploy_47_it : Nat → Int32 → St → Option (Int32 × St)
  | 0 => fun _ _ => none
  | n + 1 => fun x1 u0 => f_M_deploy_47 (f_M_deploy_47_it n) x1 u0
set_option maxHeartbeats 4000000 in
set_option maxRecDepth 100000 in
theorem k_M_deploy_47_it {r : Int32} {u' : St} (X : sr_X D (tM t) b_M_deploy 2 R_M w_M_deploy p s m args meth c A (some .int)) (n : Nat) : ∀ {x1 : Int32} {u0 : St} {H : Heap} {locs : List Loc} {ls : Array Slot}, sr_Z D A s.heap (wM h t u0) H locs → lv_has ls 2 [(0, .ref (h 0)), (1, .int x1)] → f_M_deploy_47_it n x1 u0 = some (r, u') → W p l e (sr_rm 3 69) s m args below meth c H locs 0 0 (sr_Qi D (tM t) below args s A (wM h t u') r) (F0 m 47 ls []) := by
  induction n with
  | zero => intro x1 u0 H locs ls Z hl hf; exact absurd hf (by simp [f_M_deploy_47_it])
  | succ n ih =>
    intro x1 u0 H locs ls Z hl hf
    exact k_M_deploy_47 X (fun x1 u0 H locs ls Z hl hf => ih Z hl hf) Z hl hf
def f_M_deploy (u0 : St) : Option (Int32 × St) :=
  if (u0 12 0) = 0 then
    (f_M_rule1 u0).bind fun v_2 =>
    if v_2 = 0 then
      some (1, u0)
    else
      (f_M_rule2 u0).bind fun v_5 =>
      if v_5 = 0 then
        some (2, u0)
      else
        (f_M_rule3 u0).bind fun v_8 =>
        if v_8 = 0 then
          some (3, u0)
        else
          (f_M_rule4 u0).bind fun v_11 =>
          if v_11 = 0 then
            some (4, u0)
          else
            f_M_deploy_47_it 60 0 u0
  else
    some (-1, u0)
set_option maxHeartbeats 4000000 in
set_option maxRecDepth 100000 in
theorem k_M_deploy_0 {u0 : St} {r : Int32} {u' : St} (X : sr_X D (tM t) b_M_deploy 2 R_M w_M_deploy p s m args meth c A (some .int)) (Z : sr_Z D A s.heap (wM h t u0) H locs) (hl : lv_has ls 2 [(0, .ref (h 0))]) (hf : f_M_deploy u0 = some (r, u')) : W p l e (sr_rm 3 69) s m args below meth c H locs 0 0 (sr_Qi D (tM t) below args s A (wM h t u') r) (F0 m 0 ls []) := by
  have hx := X.1
  have hb := X.2.1
  have hK := X.2.2.2.2.2.2.1
  unfold f_M_deploy at hf
  refine lv_aload_n hx hb d_M_deploy_0 rfl (lv_at hl 0 rfl) ?_
  refine g_M_96_M X Z d_M_deploy_1 ?_
  refine lv_if_eq (tgt := 9) hx hb d_M_deploy_4 rfl (fun q_1 => ?_) (fun q_1 => ?_)
  · have hf := sr_it q_1 hf
    refine lv_aload_n hx hb d_M_deploy_9 rfl (lv_at hl 0 rfl) ?_
    obtain ⟨v_2, e_3, hf⟩ := sr_b hf
    refine sr_cVi (As := []) (rest := []) X Z sr_cut_self hK (c_M_rule1 e_3) (cw_M_146 X.2.2.2.2.2.1 (by decide)) 0 rfl rfl rfl hl rfl (Nat.le_of_ble_eq_true rfl) d_M_deploy_10 (fun H locs Z => ?_)
    refine lv_if_ne (tgt := 18) hx hb d_M_deploy_13 rfl (fun q_4 => ?_) (fun q_4 => ?_)
    · have hf := sr_if q_4 hf
      refine lv_aload_n hx hb d_M_deploy_18 rfl (lv_at hl 0 rfl) ?_
      obtain ⟨v_5, e_6, hf⟩ := sr_b hf
      refine sr_cVi (As := []) (rest := []) X Z sr_cut_self hK (c_M_rule2 e_6) (cw_M_150 X.2.2.2.2.2.1 (by decide)) 0 rfl rfl rfl hl rfl (Nat.le_of_ble_eq_true rfl) d_M_deploy_19 (fun H locs Z => ?_)
      refine lv_if_ne (tgt := 27) hx hb d_M_deploy_22 rfl (fun q_7 => ?_) (fun q_7 => ?_)
      · have hf := sr_if q_7 hf
        refine lv_aload_n hx hb d_M_deploy_27 rfl (lv_at hl 0 rfl) ?_
        obtain ⟨v_8, e_9, hf⟩ := sr_b hf
        refine sr_cVi (As := []) (rest := []) X Z sr_cut_self hK (c_M_rule3 e_9) (cw_M_153 X.2.2.2.2.2.1 (by decide)) 0 rfl rfl rfl hl rfl (Nat.le_of_ble_eq_true rfl) d_M_deploy_28 (fun H locs Z => ?_)
        refine lv_if_ne (tgt := 36) hx hb d_M_deploy_31 rfl (fun q_10 => ?_) (fun q_10 => ?_)
        · have hf := sr_if q_10 hf
          refine lv_aload_n hx hb d_M_deploy_36 rfl (lv_at hl 0 rfl) ?_
          obtain ⟨v_11, e_12, hf⟩ := sr_b hf
          refine sr_cVi (As := []) (rest := []) X Z sr_cut_self hK (c_M_rule4 e_12) (cw_M_156 X.2.2.2.2.2.1 (by decide)) 0 rfl rfl rfl hl rfl (Nat.le_of_ble_eq_true rfl) d_M_deploy_37 (fun H locs Z => ?_)
          refine lv_if_ne (tgt := 45) hx hb d_M_deploy_40 rfl (fun q_13 => ?_) (fun q_13 => ?_)
          · have hf := sr_if q_13 hf
            refine lv_iconst (v := 0) hx hb d_M_deploy_45 (by decide) ?_
            refine lv_istore_n (lv' := [(1, .int 0), (0, .ref (h 0))]) hx hb d_M_deploy_46 rfl hl (by decide) rfl (fun ls hl => ?_)
            exact k_M_deploy_47_it X _ Z (lv_sub hl [1, 0] rfl) hf
          · have hf := sr_it q_13 hf
            refine lv_iconst (v := 4) hx hb d_M_deploy_43 (by decide) ?_
            cases hf
            exact sr_reti X Z d_M_deploy_44
        · have hf := sr_it q_10 hf
          refine lv_iconst (v := 3) hx hb d_M_deploy_34 (by decide) ?_
          cases hf
          exact sr_reti X Z d_M_deploy_35
      · have hf := sr_it q_7 hf
        refine lv_iconst (v := 2) hx hb d_M_deploy_25 (by decide) ?_
        cases hf
        exact sr_reti X Z d_M_deploy_26
    · have hf := sr_it q_4 hf
      refine lv_iconst (v := 1) hx hb d_M_deploy_16 (by decide) ?_
      cases hf
      exact sr_reti X Z d_M_deploy_17
  · have hf := sr_if q_1 hf
    refine lv_iconst (v := -1) hx hb d_M_deploy_7 (by decide) ?_
    cases hf
    exact sr_reti X Z d_M_deploy_8
end
set_option maxHeartbeats 4000000 in
set_option maxRecDepth 100000 in
theorem c_M_deploy {l : Launch} {D : va_G} {h : Nat → Nat} {t : Nat → ClassId} {sz : Nat} {u0 : St} {r : Int32} {u' : St} (hf : f_M_deploy u0 = some (r, u')) : sr_Ci l y_M_deploy w_M_deploy (sr_rm 3 69) D (tM t) (wM h t u0) (wM h t u') sz [.ref (h 0)] r := by
  refine Met.ofW (cc := b_M_deploy) (maxL := 2) (ret := (some .int)) (by decide) rfl ?_
  intro p e s m args below meth c s₁ B hml hv
  obtain ⟨rfl, hsz, hP, hK, hD0⟩ := hv
  subst hsz
  have X : sr_X D (tM t) b_M_deploy 2 R_M w_M_deploy p s m _ meth c (va_A (wM h t u0) s.heap.size) (some .int) := ⟨B.exec, B.bytes, hml, findClass_of_methodNamed B.named, B.notSynchronized, atoms_spec (ws := w_M_deploy) B.pre, hK, fun q h => Or.inr h, B.returns⟩
  have Z : sr_Z D (va_A (wM h t u0) s.heap.size) s.heap (wM h t u0) s.heap [] := ⟨hP, hD0.self, va_S.rf⟩
  have hl := lv_entry ([.ref (h 0)] : List Value) (n := 2) (Nat.le_of_ble_eq_true rfl)
  rw [lg_entry_eq]
  exact k_M_deploy_0 X Z hl hf
/-! M_st -/
theorem d_M_st_0 : decode b_M_st 0 = .ok (.aload_n 0, 1) := by decide +kernel
theorem d_M_st_1 : decode b_M_st 1 = .ok (.getfield 55, 3) := by decide +kernel
theorem d_M_st_4 : decode b_M_st 4 = .ok (.bipush 24, 2) := by decide +kernel
theorem d_M_st_6 : decode b_M_st 6 = .ok (.aload_n 0, 1) := by decide +kernel
theorem d_M_st_7 : decode b_M_st 7 = .ok (.getfield 168, 3) := by decide +kernel
theorem d_M_st_10 : decode b_M_st 10 = .ok (.imul, 1) := by decide +kernel
theorem d_M_st_11 : decode b_M_st 11 = .ok (.iload_n 1, 1) := by decide +kernel
theorem d_M_st_12 : decode b_M_st 12 = .ok (.iadd, 1) := by decide +kernel
theorem d_M_st_13 : decode b_M_st 13 = .ok (.iaload, 1) := by decide +kernel
theorem d_M_st_14 : decode b_M_st 14 = .ok (.ireturn, 1) := by decide +kernel
section
variable {p : Program} {l : Launch} {e : Env} {s : State} {m : MethodId} {args : Array Value} {below : List Frame} {meth : Method} {c : Code} {H : Heap} {locs : List Loc} {ls : Array Slot} {D : va_G} {A : Nat → Prop} {h o : Nat → Nat} {t v : Nat → ClassId}
def f_M_st (u0 : St) (x1 : Int32) : Option (Int32) :=
  (sr_ald 192 (u0 21) ((24 * (u0 33 0)) + x1)).bind fun v_1 =>
  some v_1
set_option maxHeartbeats 4000000 in
set_option maxRecDepth 100000 in
theorem k_M_st_0 {u0 : St} {x1 : Int32} {r : Int32} (X : sr_X D (tM t) b_M_st 2 R_M w_M_st p s m args meth c A (some .int)) (Z : sr_Z D A s.heap (wM h t u0) H locs) (hl : lv_has ls 2 [(0, .ref (h 0)), (1, .int x1)]) (hf : f_M_st u0 x1 = some r) : W p l e (sr_rm 0 0) s m args below meth c H locs 0 0 (sr_Qi D (tM t) below args s A (wM h t u0) r) (F0 m 0 ls []) := by
  have hx := X.1
  have hb := X.2.1
  have hK := X.2.2.2.2.2.2.1
  unfold f_M_st at hf
  refine lv_aload_n hx hb d_M_st_0 rfl (lv_at hl 0 rfl) ?_
  refine g_M_55_M X Z d_M_st_1 ?_
  refine lv_bipush (v := 24) hx hb d_M_st_4 (by decide) ?_
  refine lv_aload_n hx hb d_M_st_6 rfl (lv_at hl 0 rfl) ?_
  refine g_M_168_M X Z d_M_st_7 ?_
  refine lv_imul hx hb d_M_st_10 ?_
  refine lv_iload_n hx hb d_M_st_11 rfl (lv_at hl 1 rfl) ?_
  refine lv_iadd hx hb d_M_st_12 ?_
  obtain ⟨v_1, e_2, hf⟩ := sr_b hf
  refine sr_iald hx hb hK Z 16 15 rfl rfl e_2 d_M_st_13 ?_
  cases hf
  exact sr_reti X Z d_M_st_14
end
set_option maxHeartbeats 4000000 in
set_option maxRecDepth 100000 in
theorem c_M_st {l : Launch} {D : va_G} {h : Nat → Nat} {t : Nat → ClassId} {sz : Nat} {u0 : St} {x1 : Int32} {r : Int32} (hf : f_M_st u0 x1 = some r) : sr_Ci l y_M_st w_M_st (sr_rm 0 0) D (tM t) (wM h t u0) (wM h t u0) sz [.ref (h 0), .int x1] r := by
  refine Met.ofW (cc := b_M_st) (maxL := 2) (ret := (some .int)) (by decide) rfl ?_
  intro p e s m args below meth c s₁ B hml hv
  obtain ⟨rfl, hsz, hP, hK, hD0⟩ := hv
  subst hsz
  have X : sr_X D (tM t) b_M_st 2 R_M w_M_st p s m _ meth c (va_A (wM h t u0) s.heap.size) (some .int) := ⟨B.exec, B.bytes, hml, findClass_of_methodNamed B.named, B.notSynchronized, atoms_spec (ws := w_M_st) B.pre, hK, fun q h => Or.inr h, B.returns⟩
  have Z : sr_Z D (va_A (wM h t u0) s.heap.size) s.heap (wM h t u0) s.heap [] := ⟨hP, hD0.self, va_S.rf⟩
  have hl := lv_entry ([.ref (h 0), .int x1] : List Value) (n := 2) (Nat.le_of_ble_eq_true rfl)
  rw [lg_entry_eq]
  exact k_M_st_0 X Z hl hf
/-! M_put -/
theorem d_M_put_0 : decode b_M_put 0 = .ok (.aload_n 0, 1) := by decide +kernel
theorem d_M_put_1 : decode b_M_put 1 = .ok (.getfield 55, 3) := by decide +kernel
theorem d_M_put_4 : decode b_M_put 4 = .ok (.bipush 24, 2) := by decide +kernel
theorem d_M_put_6 : decode b_M_put 6 = .ok (.aload_n 0, 1) := by decide +kernel
theorem d_M_put_7 : decode b_M_put 7 = .ok (.getfield 168, 3) := by decide +kernel
theorem d_M_put_10 : decode b_M_put 10 = .ok (.imul, 1) := by decide +kernel
theorem d_M_put_11 : decode b_M_put 11 = .ok (.iload_n 1, 1) := by decide +kernel
theorem d_M_put_12 : decode b_M_put 12 = .ok (.iadd, 1) := by decide +kernel
theorem d_M_put_13 : decode b_M_put 13 = .ok (.iload_n 2, 1) := by decide +kernel
theorem d_M_put_14 : decode b_M_put 14 = .ok (.iastore, 1) := by decide +kernel
theorem d_M_put_15 : decode b_M_put 15 = .ok (.return_, 1) := by decide +kernel
section
variable {p : Program} {l : Launch} {e : Env} {s : State} {m : MethodId} {args : Array Value} {below : List Frame} {meth : Method} {c : Code} {H : Heap} {locs : List Loc} {ls : Array Slot} {D : va_G} {A : Nat → Prop} {h o : Nat → Nat} {t v : Nat → ClassId}
def f_M_put (x1 : Int32) (x2 : Int32) (u0 : St) : Option (St) :=
  (sr_ast 192 u0 21 ((24 * (u0 33 0)) + x1) x2).bind fun u_1 =>
  some u_1
set_option maxHeartbeats 4000000 in
set_option maxRecDepth 100000 in
theorem k_M_put_0 {x1 : Int32} {x2 : Int32} {u0 : St} {u' : St} (X : sr_X D (tM t) b_M_put 3 R_M w_M_put p s m args meth c A none) (Z : sr_Z D A s.heap (wM h t u0) H locs) (hl : lv_has ls 3 [(0, .ref (h 0)), (1, .int x1), (2, .int x2)]) (hf : f_M_put x1 x2 u0 = some u') : W p l e (sr_rm 0 0) s m args below meth c H locs 0 0 (sr_Qv D (tM t) below args s A (wM h t u')) (F0 m 0 ls []) := by
  have hx := X.1
  have hb := X.2.1
  have hK := X.2.2.2.2.2.2.1
  unfold f_M_put at hf
  refine lv_aload_n hx hb d_M_put_0 rfl (lv_at hl 0 rfl) ?_
  refine g_M_55_M X Z d_M_put_1 ?_
  refine lv_bipush (v := 24) hx hb d_M_put_4 (by decide) ?_
  refine lv_aload_n hx hb d_M_put_6 rfl (lv_at hl 0 rfl) ?_
  refine g_M_168_M X Z d_M_put_7 ?_
  refine lv_imul hx hb d_M_put_10 ?_
  refine lv_iload_n hx hb d_M_put_11 rfl (lv_at hl 1 rfl) ?_
  refine lv_iadd hx hb d_M_put_12 ?_
  refine lv_iload_n hx hb d_M_put_13 rfl (lv_at hl 2 rfl) ?_
  obtain ⟨u_1, e_2, hf⟩ := sr_b hf
  refine sr_iast (wf := (fun q => (wM h t q))) hx hb hK Z 16 15 rfl rfl e_2 (fun _ => rfl) d_M_put_14 (fun H locs Z => ?_)
  cases hf
  exact sr_retv X Z d_M_put_15
end
set_option maxHeartbeats 4000000 in
set_option maxRecDepth 100000 in
theorem c_M_put {l : Launch} {D : va_G} {h : Nat → Nat} {t : Nat → ClassId} {sz : Nat} {x1 : Int32} {x2 : Int32} {u0 : St} {u' : St} (hf : f_M_put x1 x2 u0 = some u') : sr_Cv l y_M_put w_M_put (sr_rm 0 0) D (tM t) (wM h t u0) (wM h t u') sz [.ref (h 0), .int x1, .int x2] := by
  refine Met.ofW (cc := b_M_put) (maxL := 3) (ret := none) (by decide) rfl ?_
  intro p e s m args below meth c s₁ B hml hv
  obtain ⟨rfl, hsz, hP, hK, hD0⟩ := hv
  subst hsz
  have X : sr_X D (tM t) b_M_put 3 R_M w_M_put p s m _ meth c (va_A (wM h t u0) s.heap.size) none := ⟨B.exec, B.bytes, hml, findClass_of_methodNamed B.named, B.notSynchronized, atoms_spec (ws := w_M_put) B.pre, hK, fun q h => Or.inr h, B.returns⟩
  have Z : sr_Z D (va_A (wM h t u0) s.heap.size) s.heap (wM h t u0) s.heap [] := ⟨hP, hD0.self, va_S.rf⟩
  have hl := lv_entry ([.ref (h 0), .int x1, .int x2] : List Value) (n := 3) (Nat.le_of_ble_eq_true rfl)
  rw [lg_entry_eq]
  exact k_M_put_0 X Z hl hf
/-! M_write -/
theorem d_M_write_0 : decode b_M_write 0 = .ok (.aload_n 0, 1) := by decide +kernel
theorem d_M_write_1 : decode b_M_write 1 = .ok (.getfield 86, 3) := by decide +kernel
theorem d_M_write_4 : decode b_M_write 4 = .ok (.bipush 32, 2) := by decide +kernel
theorem d_M_write_6 : decode b_M_write 6 = .ok (.aload_n 0, 1) := by decide +kernel
theorem d_M_write_7 : decode b_M_write 7 = .ok (.getfield 168, 3) := by decide +kernel
theorem d_M_write_10 : decode b_M_write 10 = .ok (.imul, 1) := by decide +kernel
theorem d_M_write_11 : decode b_M_write 11 = .ok (.aload_n 0, 1) := by decide +kernel
theorem d_M_write_12 : decode b_M_write 12 = .ok (.getfield 89, 3) := by decide +kernel
theorem d_M_write_15 : decode b_M_write 15 = .ok (.aload_n 0, 1) := by decide +kernel
theorem d_M_write_16 : decode b_M_write 16 = .ok (.getfield 168, 3) := by decide +kernel
theorem d_M_write_19 : decode b_M_write 19 = .ok (.iaload, 1) := by decide +kernel
theorem d_M_write_20 : decode b_M_write 20 = .ok (.bipush 32, 2) := by decide +kernel
theorem d_M_write_22 : decode b_M_write 22 = .ok (.irem, 1) := by decide +kernel
theorem d_M_write_23 : decode b_M_write 23 = .ok (.iadd, 1) := by decide +kernel
theorem d_M_write_24 : decode b_M_write 24 = .ok (.bipush 32, 2) := by decide +kernel
theorem d_M_write_26 : decode b_M_write 26 = .ok (.iload_n 1, 1) := by decide +kernel
theorem d_M_write_27 : decode b_M_write 27 = .ok (.imul, 1) := by decide +kernel
theorem d_M_write_28 : decode b_M_write 28 = .ok (.iload_n 2, 1) := by decide +kernel
theorem d_M_write_29 : decode b_M_write 29 = .ok (.iadd, 1) := by decide +kernel
theorem d_M_write_30 : decode b_M_write 30 = .ok (.iastore, 1) := by decide +kernel
theorem d_M_write_31 : decode b_M_write 31 = .ok (.aload_n 0, 1) := by decide +kernel
theorem d_M_write_32 : decode b_M_write 32 = .ok (.getfield 89, 3) := by decide +kernel
theorem d_M_write_35 : decode b_M_write 35 = .ok (.aload_n 0, 1) := by decide +kernel
theorem d_M_write_36 : decode b_M_write 36 = .ok (.getfield 168, 3) := by decide +kernel
theorem d_M_write_39 : decode b_M_write 39 = .ok (.dup2, 1) := by decide +kernel
theorem d_M_write_40 : decode b_M_write 40 = .ok (.iaload, 1) := by decide +kernel
theorem d_M_write_41 : decode b_M_write 41 = .ok (.iconst 1, 1) := by decide +kernel
theorem d_M_write_42 : decode b_M_write 42 = .ok (.iadd, 1) := by decide +kernel
theorem d_M_write_43 : decode b_M_write 43 = .ok (.iastore, 1) := by decide +kernel
theorem d_M_write_44 : decode b_M_write 44 = .ok (.return_, 1) := by decide +kernel
section
variable {p : Program} {l : Launch} {e : Env} {s : State} {m : MethodId} {args : Array Value} {below : List Frame} {meth : Method} {c : Code} {H : Heap} {locs : List Loc} {ls : Array Slot} {D : va_G} {A : Nat → Prop} {h o : Nat → Nat} {t v : Nat → ClassId}
def f_M_write (x1 : Int32) (x2 : Int32) (u0 : St) : Option (St) :=
  (sr_ald 8 (u0 32) (u0 33 0)).bind fun v_1 =>
  (sr_ast 256 u0 31 ((32 * (u0 33 0)) + (v_1 - v_1 / 32 * 32)) ((32 * x1) + x2)).bind fun u_3 =>
  (sr_ald 8 (u_3 32) (u_3 33 0)).bind fun v_5 =>
  (sr_ast 8 u_3 32 (u_3 33 0) (v_5 + 1)).bind fun u_7 =>
  some u_7
set_option maxHeartbeats 4000000 in
set_option maxRecDepth 100000 in
theorem k_M_write_0 {x1 : Int32} {x2 : Int32} {u0 : St} {u' : St} (X : sr_X D (tM t) b_M_write 3 R_M w_M_write p s m args meth c A none) (Z : sr_Z D A s.heap (wM h t u0) H locs) (hl : lv_has ls 3 [(0, .ref (h 0)), (1, .int x1), (2, .int x2)]) (hf : f_M_write x1 x2 u0 = some u') : W p l e (sr_rm 0 0) s m args below meth c H locs 0 0 (sr_Qv D (tM t) below args s A (wM h t u')) (F0 m 0 ls []) := by
  have hx := X.1
  have hb := X.2.1
  have hK := X.2.2.2.2.2.2.1
  unfold f_M_write at hf
  refine lv_aload_n hx hb d_M_write_0 rfl (lv_at hl 0 rfl) ?_
  refine g_M_86_M X Z d_M_write_1 ?_
  refine lv_bipush (v := 32) hx hb d_M_write_4 (by decide) ?_
  refine lv_aload_n hx hb d_M_write_6 rfl (lv_at hl 0 rfl) ?_
  refine g_M_168_M X Z d_M_write_7 ?_
  refine lv_imul hx hb d_M_write_10 ?_
  refine lv_aload_n hx hb d_M_write_11 rfl (lv_at hl 0 rfl) ?_
  refine g_M_89_M X Z d_M_write_12 ?_
  refine lv_aload_n hx hb d_M_write_15 rfl (lv_at hl 0 rfl) ?_
  refine g_M_168_M X Z d_M_write_16 ?_
  obtain ⟨v_1, e_2, hf⟩ := sr_b hf
  refine sr_iald hx hb hK Z 27 26 rfl rfl e_2 d_M_write_19 ?_
  refine lv_bipush (v := 32) hx hb d_M_write_20 (by decide) ?_
  refine lv_irem hx hb d_M_write_22 (by decide) ?_
  refine lv_iadd hx hb d_M_write_23 ?_
  refine lv_bipush (v := 32) hx hb d_M_write_24 (by decide) ?_
  refine lv_iload_n hx hb d_M_write_26 rfl (lv_at hl 1 rfl) ?_
  refine lv_imul hx hb d_M_write_27 ?_
  refine lv_iload_n hx hb d_M_write_28 rfl (lv_at hl 2 rfl) ?_
  refine lv_iadd hx hb d_M_write_29 ?_
  obtain ⟨u_3, e_4, hf⟩ := sr_b hf
  refine sr_iast (wf := (fun q => (wM h t q))) hx hb hK Z 26 25 rfl rfl e_4 (fun _ => rfl) d_M_write_30 (fun H locs Z => ?_)
  refine lv_aload_n hx hb d_M_write_31 rfl (lv_at hl 0 rfl) ?_
  refine g_M_89_M X Z d_M_write_32 ?_
  refine lv_aload_n hx hb d_M_write_35 rfl (lv_at hl 0 rfl) ?_
  refine g_M_168_M X Z d_M_write_36 ?_
  refine lv_dup2_11 hx hb d_M_write_39 rfl rfl ?_
  obtain ⟨v_5, e_6, hf⟩ := sr_b hf
  refine sr_iald hx hb hK Z 27 26 rfl rfl e_6 d_M_write_40 ?_
  refine lv_iconst (v := 1) hx hb d_M_write_41 (by decide) ?_
  refine lv_iadd hx hb d_M_write_42 ?_
  obtain ⟨u_7, e_8, hf⟩ := sr_b hf
  refine sr_iast (wf := (fun q => (wM h t q))) hx hb hK Z 27 26 rfl rfl e_8 (fun _ => rfl) d_M_write_43 (fun H locs Z => ?_)
  cases hf
  exact sr_retv X Z d_M_write_44
end
set_option maxHeartbeats 4000000 in
set_option maxRecDepth 100000 in
theorem c_M_write {l : Launch} {D : va_G} {h : Nat → Nat} {t : Nat → ClassId} {sz : Nat} {x1 : Int32} {x2 : Int32} {u0 : St} {u' : St} (hf : f_M_write x1 x2 u0 = some u') : sr_Cv l y_M_write w_M_write (sr_rm 0 0) D (tM t) (wM h t u0) (wM h t u') sz [.ref (h 0), .int x1, .int x2] := by
  refine Met.ofW (cc := b_M_write) (maxL := 3) (ret := none) (by decide) rfl ?_
  intro p e s m args below meth c s₁ B hml hv
  obtain ⟨rfl, hsz, hP, hK, hD0⟩ := hv
  subst hsz
  have X : sr_X D (tM t) b_M_write 3 R_M w_M_write p s m _ meth c (va_A (wM h t u0) s.heap.size) none := ⟨B.exec, B.bytes, hml, findClass_of_methodNamed B.named, B.notSynchronized, atoms_spec (ws := w_M_write) B.pre, hK, fun q h => Or.inr h, B.returns⟩
  have Z : sr_Z D (va_A (wM h t u0) s.heap.size) s.heap (wM h t u0) s.heap [] := ⟨hP, hD0.self, va_S.rf⟩
  have hl := lv_entry ([.ref (h 0), .int x1, .int x2] : List Value) (n := 3) (Nat.le_of_ble_eq_true rfl)
  rw [lg_entry_eq]
  exact k_M_write_0 X Z hl hf
/-! M_see -/
theorem d_M_see_0 : decode b_M_see 0 = .ok (.iload_n 2, 1) := by decide +kernel
theorem d_M_see_1 : decode b_M_see 1 = .ok (.iconst 4, 1) := by decide +kernel
theorem d_M_see_2 : decode b_M_see 2 = .ok (.if_icmp .ge 19, 3) := by decide +kernel
theorem d_M_see_5 : decode b_M_see 5 = .ok (.aload_n 0, 1) := by decide +kernel
theorem d_M_see_6 : decode b_M_see 6 = .ok (.getfield 52, 3) := by decide +kernel
theorem d_M_see_9 : decode b_M_see 9 = .ok (.iconst 4, 1) := by decide +kernel
theorem d_M_see_10 : decode b_M_see 10 = .ok (.aload_n 0, 1) := by decide +kernel
theorem d_M_see_11 : decode b_M_see 11 = .ok (.getfield 168, 3) := by decide +kernel
theorem d_M_see_14 : decode b_M_see 14 = .ok (.imul, 1) := by decide +kernel
theorem d_M_see_15 : decode b_M_see 15 = .ok (.iload_n 2, 1) := by decide +kernel
theorem d_M_see_16 : decode b_M_see 16 = .ok (.iadd, 1) := by decide +kernel
theorem d_M_see_17 : decode b_M_see 17 = .ok (.iaload, 1) := by decide +kernel
theorem d_M_see_18 : decode b_M_see 18 = .ok (.goto 21, 3) := by decide +kernel
theorem d_M_see_21 : decode b_M_see 21 = .ok (.aload_n 0, 1) := by decide +kernel
theorem d_M_see_22 : decode b_M_see 22 = .ok (.getfield 58, 3) := by decide +kernel
theorem d_M_see_25 : decode b_M_see 25 = .ok (.bipush 24, 2) := by decide +kernel
theorem d_M_see_27 : decode b_M_see 27 = .ok (.aload_n 0, 1) := by decide +kernel
theorem d_M_see_28 : decode b_M_see 28 = .ok (.getfield 168, 3) := by decide +kernel
theorem d_M_see_31 : decode b_M_see 31 = .ok (.imul, 1) := by decide +kernel
theorem d_M_see_32 : decode b_M_see 32 = .ok (.aload_n 0, 1) := by decide +kernel
theorem d_M_see_33 : decode b_M_see 33 = .ok (.iload_n 1, 1) := by decide +kernel
theorem d_M_see_34 : decode b_M_see 34 = .ok (.invokevirtual 129, 3) := by decide +kernel
theorem d_M_see_37 : decode b_M_see 37 = .ok (.iadd, 1) := by decide +kernel
theorem d_M_see_38 : decode b_M_see 38 = .ok (.iaload, 1) := by decide +kernel
theorem d_M_see_39 : decode b_M_see 39 = .ok (.ireturn, 1) := by decide +kernel
section
variable {p : Program} {l : Launch} {e : Env} {s : State} {m : MethodId} {args : Array Value} {below : List Frame} {meth : Method} {c : Code} {H : Heap} {locs : List Loc} {ls : Array Slot} {D : va_G} {A : Nat → Prop} {h o : Nat → Nat} {t v : Nat → ClassId}
def f_M_see (u0 : St) (x1 : Int32) (x2 : Int32) : Option (Int32) :=
  if 4 ≤ x2 then
    (f_M_around u0 x1).bind fun v_2 =>
    (sr_ald 192 (u0 22) ((24 * (u0 33 0)) + v_2)).bind fun v_4 =>
    some v_4
  else
    (sr_ald 32 (u0 20) ((4 * (u0 33 0)) + x2)).bind fun v_6 =>
    some v_6
set_option maxHeartbeats 4000000 in
set_option maxRecDepth 100000 in
theorem k_M_see_0 {u0 : St} {x1 : Int32} {x2 : Int32} {r : Int32} (X : sr_X D (tM t) b_M_see 3 R_M w_M_see p s m args meth c A (some .int)) (Z : sr_Z D A s.heap (wM h t u0) H locs) (hl : lv_has ls 3 [(0, .ref (h 0)), (1, .int x1), (2, .int x2)]) (hf : f_M_see u0 x1 x2 = some r) : W p l e (sr_rm 1 23) s m args below meth c H locs 0 0 (sr_Qi D (tM t) below args s A (wM h t u0) r) (F0 m 0 ls []) := by
  have hx := X.1
  have hb := X.2.1
  have hK := X.2.2.2.2.2.2.1
  unfold f_M_see at hf
  refine lv_iload_n hx hb d_M_see_0 rfl (lv_at hl 2 rfl) ?_
  refine lv_iconst (v := 4) hx hb d_M_see_1 (by decide) ?_
  refine lv_icmp_ge (tgt := 21) hx hb d_M_see_2 rfl (fun q_1 => ?_) (fun q_1 => ?_)
  · have hf := sr_it q_1 hf
    refine lv_aload_n hx hb d_M_see_21 rfl (lv_at hl 0 rfl) ?_
    refine g_M_58_M X Z d_M_see_22 ?_
    refine lv_bipush (v := 24) hx hb d_M_see_25 (by decide) ?_
    refine lv_aload_n hx hb d_M_see_27 rfl (lv_at hl 0 rfl) ?_
    refine g_M_168_M X Z d_M_see_28 ?_
    refine lv_imul hx hb d_M_see_31 ?_
    refine lv_aload_n hx hb d_M_see_32 rfl (lv_at hl 0 rfl) ?_
    refine lv_iload_n hx hb d_M_see_33 rfl (lv_at hl 1 rfl) ?_
    obtain ⟨v_2, e_3, hf⟩ := sr_b hf
    refine sr_cVi (As := [.int x1]) (rest := [.int (24 * (u0 33 0)), .ref (h 23)]) X Z sr_cut_self hK (c_M_around e_3) (cw_M_129 X.2.2.2.2.2.1 (by decide)) 0 rfl rfl rfl hl rfl (Nat.le_of_ble_eq_true rfl) d_M_see_34 (fun H locs Z => ?_)
    refine lv_iadd hx hb d_M_see_37 ?_
    obtain ⟨v_4, e_5, hf⟩ := sr_b hf
    refine sr_iald hx hb hK Z 17 16 rfl rfl e_5 d_M_see_38 ?_
    cases hf
    exact sr_reti X Z d_M_see_39
  · have hf := sr_if q_1 hf
    refine lv_aload_n hx hb d_M_see_5 rfl (lv_at hl 0 rfl) ?_
    refine g_M_52_M X Z d_M_see_6 ?_
    refine lv_iconst (v := 4) hx hb d_M_see_9 (by decide) ?_
    refine lv_aload_n hx hb d_M_see_10 rfl (lv_at hl 0 rfl) ?_
    refine g_M_168_M X Z d_M_see_11 ?_
    refine lv_imul hx hb d_M_see_14 ?_
    refine lv_iload_n hx hb d_M_see_15 rfl (lv_at hl 2 rfl) ?_
    refine lv_iadd hx hb d_M_see_16 ?_
    obtain ⟨v_6, e_7, hf⟩ := sr_b hf
    refine sr_iald hx hb hK Z 15 14 rfl rfl e_7 d_M_see_17 ?_
    refine lv_goto (tgt := 39) hx hb d_M_see_18 rfl ?_
    cases hf
    exact sr_reti X Z d_M_see_39
end
set_option maxHeartbeats 4000000 in
set_option maxRecDepth 100000 in
theorem c_M_see {l : Launch} {D : va_G} {h : Nat → Nat} {t : Nat → ClassId} {sz : Nat} {u0 : St} {x1 : Int32} {x2 : Int32} {r : Int32} (hf : f_M_see u0 x1 x2 = some r) : sr_Ci l y_M_see w_M_see (sr_rm 1 23) D (tM t) (wM h t u0) (wM h t u0) sz [.ref (h 0), .int x1, .int x2] r := by
  refine Met.ofW (cc := b_M_see) (maxL := 3) (ret := (some .int)) (by decide) rfl ?_
  intro p e s m args below meth c s₁ B hml hv
  obtain ⟨rfl, hsz, hP, hK, hD0⟩ := hv
  subst hsz
  have X : sr_X D (tM t) b_M_see 3 R_M w_M_see p s m _ meth c (va_A (wM h t u0) s.heap.size) (some .int) := ⟨B.exec, B.bytes, hml, findClass_of_methodNamed B.named, B.notSynchronized, atoms_spec (ws := w_M_see) B.pre, hK, fun q h => Or.inr h, B.returns⟩
  have Z : sr_Z D (va_A (wM h t u0) s.heap.size) s.heap (wM h t u0) s.heap [] := ⟨hP, hD0.self, va_S.rf⟩
  have hl := lv_entry ([.ref (h 0), .int x1, .int x2] : List Value) (n := 3) (Nat.le_of_ble_eq_true rfl)
  rw [lg_entry_eq]
  exact k_M_see_0 X Z hl hf
/-! M_store -/
theorem d_M_store_0 : decode b_M_store 0 = .ok (.iload_n 2, 1) := by decide +kernel
theorem d_M_store_1 : decode b_M_store 1 = .ok (.iconst 4, 1) := by decide +kernel
theorem d_M_store_2 : decode b_M_store 2 = .ok (.if_icmp .ge 20, 3) := by decide +kernel
theorem d_M_store_5 : decode b_M_store 5 = .ok (.aload_n 0, 1) := by decide +kernel
theorem d_M_store_6 : decode b_M_store 6 = .ok (.getfield 52, 3) := by decide +kernel
theorem d_M_store_9 : decode b_M_store 9 = .ok (.iconst 4, 1) := by decide +kernel
theorem d_M_store_10 : decode b_M_store 10 = .ok (.aload_n 0, 1) := by decide +kernel
theorem d_M_store_11 : decode b_M_store 11 = .ok (.getfield 168, 3) := by decide +kernel
theorem d_M_store_14 : decode b_M_store 14 = .ok (.imul, 1) := by decide +kernel
theorem d_M_store_15 : decode b_M_store 15 = .ok (.iload_n 2, 1) := by decide +kernel
theorem d_M_store_16 : decode b_M_store 16 = .ok (.iadd, 1) := by decide +kernel
theorem d_M_store_17 : decode b_M_store 17 = .ok (.iload_n 3, 1) := by decide +kernel
theorem d_M_store_18 : decode b_M_store 18 = .ok (.iastore, 1) := by decide +kernel
theorem d_M_store_19 : decode b_M_store 19 = .ok (.goto 22, 3) := by decide +kernel
theorem d_M_store_22 : decode b_M_store 22 = .ok (.aload_n 0, 1) := by decide +kernel
theorem d_M_store_23 : decode b_M_store 23 = .ok (.getfield 58, 3) := by decide +kernel
theorem d_M_store_26 : decode b_M_store 26 = .ok (.bipush 24, 2) := by decide +kernel
theorem d_M_store_28 : decode b_M_store 28 = .ok (.aload_n 0, 1) := by decide +kernel
theorem d_M_store_29 : decode b_M_store 29 = .ok (.getfield 168, 3) := by decide +kernel
theorem d_M_store_32 : decode b_M_store 32 = .ok (.imul, 1) := by decide +kernel
theorem d_M_store_33 : decode b_M_store 33 = .ok (.aload_n 0, 1) := by decide +kernel
theorem d_M_store_34 : decode b_M_store 34 = .ok (.iload_n 1, 1) := by decide +kernel
theorem d_M_store_35 : decode b_M_store 35 = .ok (.invokevirtual 129, 3) := by decide +kernel
theorem d_M_store_38 : decode b_M_store 38 = .ok (.iadd, 1) := by decide +kernel
theorem d_M_store_39 : decode b_M_store 39 = .ok (.iload_n 3, 1) := by decide +kernel
theorem d_M_store_40 : decode b_M_store 40 = .ok (.iastore, 1) := by decide +kernel
theorem d_M_store_41 : decode b_M_store 41 = .ok (.return_, 1) := by decide +kernel
section
variable {p : Program} {l : Launch} {e : Env} {s : State} {m : MethodId} {args : Array Value} {below : List Frame} {meth : Method} {c : Code} {H : Heap} {locs : List Loc} {ls : Array Slot} {D : va_G} {A : Nat → Prop} {h o : Nat → Nat} {t v : Nat → ClassId}
def f_M_store (x1 : Int32) (x2 : Int32) (x3 : Int32) (u0 : St) : Option (St) :=
  if 4 ≤ x2 then
    (f_M_around u0 x1).bind fun v_2 =>
    (sr_ast 192 u0 22 ((24 * (u0 33 0)) + v_2) x3).bind fun u_4 =>
    some u_4
  else
    (sr_ast 32 u0 20 ((4 * (u0 33 0)) + x2) x3).bind fun u_6 =>
    some u_6
set_option maxHeartbeats 4000000 in
set_option maxRecDepth 100000 in
theorem k_M_store_0 {x1 : Int32} {x2 : Int32} {x3 : Int32} {u0 : St} {u' : St} (X : sr_X D (tM t) b_M_store 4 R_M w_M_store p s m args meth c A none) (Z : sr_Z D A s.heap (wM h t u0) H locs) (hl : lv_has ls 4 [(0, .ref (h 0)), (1, .int x1), (2, .int x2), (3, .int x3)]) (hf : f_M_store x1 x2 x3 u0 = some u') : W p l e (sr_rm 1 23) s m args below meth c H locs 0 0 (sr_Qv D (tM t) below args s A (wM h t u')) (F0 m 0 ls []) := by
  have hx := X.1
  have hb := X.2.1
  have hK := X.2.2.2.2.2.2.1
  unfold f_M_store at hf
  refine lv_iload_n hx hb d_M_store_0 rfl (lv_at hl 2 rfl) ?_
  refine lv_iconst (v := 4) hx hb d_M_store_1 (by decide) ?_
  refine lv_icmp_ge (tgt := 22) hx hb d_M_store_2 rfl (fun q_1 => ?_) (fun q_1 => ?_)
  · have hf := sr_it q_1 hf
    refine lv_aload_n hx hb d_M_store_22 rfl (lv_at hl 0 rfl) ?_
    refine g_M_58_M X Z d_M_store_23 ?_
    refine lv_bipush (v := 24) hx hb d_M_store_26 (by decide) ?_
    refine lv_aload_n hx hb d_M_store_28 rfl (lv_at hl 0 rfl) ?_
    refine g_M_168_M X Z d_M_store_29 ?_
    refine lv_imul hx hb d_M_store_32 ?_
    refine lv_aload_n hx hb d_M_store_33 rfl (lv_at hl 0 rfl) ?_
    refine lv_iload_n hx hb d_M_store_34 rfl (lv_at hl 1 rfl) ?_
    obtain ⟨v_2, e_3, hf⟩ := sr_b hf
    refine sr_cVi (As := [.int x1]) (rest := [.int (24 * (u0 33 0)), .ref (h 23)]) X Z sr_cut_self hK (c_M_around e_3) (cw_M_129 X.2.2.2.2.2.1 (by decide)) 0 rfl rfl rfl hl rfl (Nat.le_of_ble_eq_true rfl) d_M_store_35 (fun H locs Z => ?_)
    refine lv_iadd hx hb d_M_store_38 ?_
    refine lv_iload_n hx hb d_M_store_39 rfl (lv_at hl 3 rfl) ?_
    obtain ⟨u_4, e_5, hf⟩ := sr_b hf
    refine sr_iast (wf := (fun q => (wM h t q))) hx hb hK Z 17 16 rfl rfl e_5 (fun _ => rfl) d_M_store_40 (fun H locs Z => ?_)
    cases hf
    exact sr_retv X Z d_M_store_41
  · have hf := sr_if q_1 hf
    refine lv_aload_n hx hb d_M_store_5 rfl (lv_at hl 0 rfl) ?_
    refine g_M_52_M X Z d_M_store_6 ?_
    refine lv_iconst (v := 4) hx hb d_M_store_9 (by decide) ?_
    refine lv_aload_n hx hb d_M_store_10 rfl (lv_at hl 0 rfl) ?_
    refine g_M_168_M X Z d_M_store_11 ?_
    refine lv_imul hx hb d_M_store_14 ?_
    refine lv_iload_n hx hb d_M_store_15 rfl (lv_at hl 2 rfl) ?_
    refine lv_iadd hx hb d_M_store_16 ?_
    refine lv_iload_n hx hb d_M_store_17 rfl (lv_at hl 3 rfl) ?_
    obtain ⟨u_6, e_7, hf⟩ := sr_b hf
    refine sr_iast (wf := (fun q => (wM h t q))) hx hb hK Z 15 14 rfl rfl e_7 (fun _ => rfl) d_M_store_18 (fun H locs Z => ?_)
    refine lv_goto (tgt := 41) hx hb d_M_store_19 rfl ?_
    cases hf
    exact sr_retv X Z d_M_store_41
end
set_option maxHeartbeats 4000000 in
set_option maxRecDepth 100000 in
theorem c_M_store {l : Launch} {D : va_G} {h : Nat → Nat} {t : Nat → ClassId} {sz : Nat} {x1 : Int32} {x2 : Int32} {x3 : Int32} {u0 : St} {u' : St} (hf : f_M_store x1 x2 x3 u0 = some u') : sr_Cv l y_M_store w_M_store (sr_rm 1 23) D (tM t) (wM h t u0) (wM h t u') sz [.ref (h 0), .int x1, .int x2, .int x3] := by
  refine Met.ofW (cc := b_M_store) (maxL := 4) (ret := none) (by decide) rfl ?_
  intro p e s m args below meth c s₁ B hml hv
  obtain ⟨rfl, hsz, hP, hK, hD0⟩ := hv
  subst hsz
  have X : sr_X D (tM t) b_M_store 4 R_M w_M_store p s m _ meth c (va_A (wM h t u0) s.heap.size) none := ⟨B.exec, B.bytes, hml, findClass_of_methodNamed B.named, B.notSynchronized, atoms_spec (ws := w_M_store) B.pre, hK, fun q h => Or.inr h, B.returns⟩
  have Z : sr_Z D (va_A (wM h t u0) s.heap.size) s.heap (wM h t u0) s.heap [] := ⟨hP, hD0.self, va_S.rf⟩
  have hl := lv_entry ([.ref (h 0), .int x1, .int x2, .int x3] : List Value) (n := 4) (Nat.le_of_ble_eq_true rfl)
  rw [lg_entry_eq]
  exact k_M_store_0 X Z hl hf
/-! M_active -/
theorem d_M_active_0 : decode b_M_active 0 = .ok (.aload_n 0, 1) := by decide +kernel
theorem d_M_active_1 : decode b_M_active 1 = .ok (.iload_n 1, 1) := by decide +kernel
theorem d_M_active_2 : decode b_M_active 2 = .ok (.invokevirtual 171, 3) := by decide +kernel
theorem d_M_active_5 : decode b_M_active 5 = .ok (.iconst 1, 1) := by decide +kernel
theorem d_M_active_6 : decode b_M_active 6 = .ok (.if_icmp .lt 17, 3) := by decide +kernel
theorem d_M_active_9 : decode b_M_active 9 = .ok (.aload_n 0, 1) := by decide +kernel
theorem d_M_active_10 : decode b_M_active 10 = .ok (.iload_n 1, 1) := by decide +kernel
theorem d_M_active_11 : decode b_M_active 11 = .ok (.invokevirtual 171, 3) := by decide +kernel
theorem d_M_active_14 : decode b_M_active 14 = .ok (.bipush 7, 2) := by decide +kernel
theorem d_M_active_16 : decode b_M_active 16 = .ok (.if_icmp .gt 7, 3) := by decide +kernel
theorem d_M_active_19 : decode b_M_active 19 = .ok (.iconst 1, 1) := by decide +kernel
theorem d_M_active_20 : decode b_M_active 20 = .ok (.goto 4, 3) := by decide +kernel
theorem d_M_active_23 : decode b_M_active 23 = .ok (.iconst 0, 1) := by decide +kernel
theorem d_M_active_24 : decode b_M_active 24 = .ok (.ireturn, 1) := by decide +kernel
section
variable {p : Program} {l : Launch} {e : Env} {s : State} {m : MethodId} {args : Array Value} {below : List Frame} {meth : Method} {c : Code} {H : Heap} {locs : List Loc} {ls : Array Slot} {D : va_G} {A : Nat → Prop} {h o : Nat → Nat} {t v : Nat → ClassId}
def f_M_active (u0 : St) (x1 : Int32) : Option (Int32) :=
  (f_M_st u0 x1).bind fun v_1 =>
  if v_1 < 1 then
    some 0
  else
    (f_M_st u0 x1).bind fun v_4 =>
    if 7 < v_4 then
      some 0
    else
      some 1
set_option maxHeartbeats 4000000 in
set_option maxRecDepth 100000 in
theorem k_M_active_0 {u0 : St} {x1 : Int32} {r : Int32} (X : sr_X D (tM t) b_M_active 2 R_M w_M_active p s m args meth c A (some .boolean)) (Z : sr_Z D A s.heap (wM h t u0) H locs) (hl : lv_has ls 2 [(0, .ref (h 0)), (1, .int x1)]) (hf : f_M_active u0 x1 = some r) : W p l e (sr_rm 1 21) s m args below meth c H locs 0 0 (sr_Qi D (tM t) below args s A (wM h t u0) r) (F0 m 0 ls []) := by
  have hx := X.1
  have hb := X.2.1
  have hK := X.2.2.2.2.2.2.1
  unfold f_M_active at hf
  refine lv_aload_n hx hb d_M_active_0 rfl (lv_at hl 0 rfl) ?_
  refine lv_iload_n hx hb d_M_active_1 rfl (lv_at hl 1 rfl) ?_
  obtain ⟨v_1, e_2, hf⟩ := sr_b hf
  refine sr_cVi (As := [.int x1]) (rest := []) X Z sr_cut_self hK (c_M_st e_2) (cw_M_171 X.2.2.2.2.2.1 (by decide)) 0 rfl rfl rfl hl rfl (Nat.le_of_ble_eq_true rfl) d_M_active_2 (fun H locs Z => ?_)
  refine lv_iconst (v := 1) hx hb d_M_active_5 (by decide) ?_
  refine lv_icmp_lt (tgt := 23) hx hb d_M_active_6 rfl (fun q_3 => ?_) (fun q_3 => ?_)
  · have hf := sr_it q_3 hf
    refine lv_iconst (v := 0) hx hb d_M_active_23 (by decide) ?_
    cases hf
    exact sr_retz X Z (by decide) d_M_active_24
  · have hf := sr_if q_3 hf
    refine lv_aload_n hx hb d_M_active_9 rfl (lv_at hl 0 rfl) ?_
    refine lv_iload_n hx hb d_M_active_10 rfl (lv_at hl 1 rfl) ?_
    obtain ⟨v_4, e_5, hf⟩ := sr_b hf
    refine sr_cVi (As := [.int x1]) (rest := []) X Z sr_cut_self hK (c_M_st e_5) (cw_M_171 X.2.2.2.2.2.1 (by decide)) 0 rfl rfl rfl hl rfl (Nat.le_of_ble_eq_true rfl) d_M_active_11 (fun H locs Z => ?_)
    refine lv_bipush (v := 7) hx hb d_M_active_14 (by decide) ?_
    refine lv_icmp_gt (tgt := 23) hx hb d_M_active_16 rfl (fun q_6 => ?_) (fun q_6 => ?_)
    · have hf := sr_it q_6 hf
      refine lv_iconst (v := 0) hx hb d_M_active_23 (by decide) ?_
      cases hf
      exact sr_retz X Z (by decide) d_M_active_24
    · have hf := sr_if q_6 hf
      refine lv_iconst (v := 1) hx hb d_M_active_19 (by decide) ?_
      refine lv_goto (tgt := 24) hx hb d_M_active_20 rfl ?_
      cases hf
      exact sr_retz X Z (by decide) d_M_active_24
end
set_option maxHeartbeats 4000000 in
set_option maxRecDepth 100000 in
theorem c_M_active {l : Launch} {D : va_G} {h : Nat → Nat} {t : Nat → ClassId} {sz : Nat} {u0 : St} {x1 : Int32} {r : Int32} (hf : f_M_active u0 x1 = some r) : sr_Ci l y_M_active w_M_active (sr_rm 1 21) D (tM t) (wM h t u0) (wM h t u0) sz [.ref (h 0), .int x1] r := by
  refine Met.ofW (cc := b_M_active) (maxL := 2) (ret := (some .boolean)) (by decide) rfl ?_
  intro p e s m args below meth c s₁ B hml hv
  obtain ⟨rfl, hsz, hP, hK, hD0⟩ := hv
  subst hsz
  have X : sr_X D (tM t) b_M_active 2 R_M w_M_active p s m _ meth c (va_A (wM h t u0) s.heap.size) (some .boolean) := ⟨B.exec, B.bytes, hml, findClass_of_methodNamed B.named, B.notSynchronized, atoms_spec (ws := w_M_active) B.pre, hK, fun q h => Or.inr h, B.returns⟩
  have Z : sr_Z D (va_A (wM h t u0) s.heap.size) s.heap (wM h t u0) s.heap [] := ⟨hP, hD0.self, va_S.rf⟩
  have hl := lv_entry ([.ref (h 0), .int x1] : List Value) (n := 2) (Nat.le_of_ble_eq_true rfl)
  rw [lg_entry_eq]
  exact k_M_active_0 X Z hl hf
/-! M_then -/
theorem d_M_then_0 : decode b_M_then 0 = .ok (.aload_n 0, 1) := by decide +kernel
theorem d_M_then_1 : decode b_M_then 1 = .ok (.iload_n 1, 1) := by decide +kernel
theorem d_M_then_2 : decode b_M_then 2 = .ok (.putfield 174, 3) := by decide +kernel
theorem d_M_then_5 : decode b_M_then 5 = .ok (.aload_n 0, 1) := by decide +kernel
theorem d_M_then_6 : decode b_M_then 6 = .ok (.iload_n 2, 1) := by decide +kernel
theorem d_M_then_7 : decode b_M_then 7 = .ok (.putfield 177, 3) := by decide +kernel
theorem d_M_then_10 : decode b_M_then 10 = .ok (.aload_n 0, 1) := by decide +kernel
theorem d_M_then_11 : decode b_M_then 11 = .ok (.iload_n 3, 1) := by decide +kernel
theorem d_M_then_12 : decode b_M_then 12 = .ok (.putfield 180, 3) := by decide +kernel
theorem d_M_then_15 : decode b_M_then 15 = .ok (.return_, 1) := by decide +kernel
section
variable {p : Program} {l : Launch} {e : Env} {s : State} {m : MethodId} {args : Array Value} {below : List Frame} {meth : Method} {c : Code} {H : Heap} {locs : List Loc} {ls : Array Slot} {D : va_G} {A : Nat → Prop} {h o : Nat → Nat} {t v : Nat → ClassId}
def f_M_then (x1 : Int32) (x2 : Int32) (x3 : Int32) (u0 : St) : Option (St) :=
  (sr_pf u0 34 x1).bind fun u_1 =>
  (sr_pf u_1 35 x2).bind fun u_3 =>
  (sr_pf u_3 36 x3).bind fun u_5 =>
  some u_5
set_option maxHeartbeats 4000000 in
set_option maxRecDepth 100000 in
theorem k_M_then_0 {x1 : Int32} {x2 : Int32} {x3 : Int32} {u0 : St} {u' : St} (X : sr_X D (tM t) b_M_then 4 R_M w_M_then p s m args meth c A none) (Z : sr_Z D A s.heap (wM h t u0) H locs) (hl : lv_has ls 4 [(0, .ref (h 0)), (1, .int x1), (2, .int x2), (3, .int x3)]) (hf : f_M_then x1 x2 x3 u0 = some u') : W p l e (sr_rm 0 0) s m args below meth c H locs 0 0 (sr_Qv D (tM t) below args s A (wM h t u')) (F0 m 0 ls []) := by
  have hx := X.1
  have hb := X.2.1
  have hK := X.2.2.2.2.2.2.1
  unfold f_M_then at hf
  refine lv_aload_n hx hb d_M_then_0 rfl (lv_at hl 0 rfl) ?_
  refine lv_iload_n hx hb d_M_then_1 rfl (lv_at hl 1 rfl) ?_
  obtain ⟨u_1, e_2, hf⟩ := sr_b hf
  refine s_M_174_M X Z e_2 d_M_then_2 (fun H locs Z => ?_)
  refine lv_aload_n hx hb d_M_then_5 rfl (lv_at hl 0 rfl) ?_
  refine lv_iload_n hx hb d_M_then_6 rfl (lv_at hl 2 rfl) ?_
  obtain ⟨u_3, e_4, hf⟩ := sr_b hf
  refine s_M_177_M X Z e_4 d_M_then_7 (fun H locs Z => ?_)
  refine lv_aload_n hx hb d_M_then_10 rfl (lv_at hl 0 rfl) ?_
  refine lv_iload_n hx hb d_M_then_11 rfl (lv_at hl 3 rfl) ?_
  obtain ⟨u_5, e_6, hf⟩ := sr_b hf
  refine s_M_180_M X Z e_6 d_M_then_12 (fun H locs Z => ?_)
  cases hf
  exact sr_retv X Z d_M_then_15
end
set_option maxHeartbeats 4000000 in
set_option maxRecDepth 100000 in
theorem c_M_then {l : Launch} {D : va_G} {h : Nat → Nat} {t : Nat → ClassId} {sz : Nat} {x1 : Int32} {x2 : Int32} {x3 : Int32} {u0 : St} {u' : St} (hf : f_M_then x1 x2 x3 u0 = some u') : sr_Cv l y_M_then w_M_then (sr_rm 0 0) D (tM t) (wM h t u0) (wM h t u') sz [.ref (h 0), .int x1, .int x2, .int x3] := by
  refine Met.ofW (cc := b_M_then) (maxL := 4) (ret := none) (by decide) rfl ?_
  intro p e s m args below meth c s₁ B hml hv
  obtain ⟨rfl, hsz, hP, hK, hD0⟩ := hv
  subst hsz
  have X : sr_X D (tM t) b_M_then 4 R_M w_M_then p s m _ meth c (va_A (wM h t u0) s.heap.size) none := ⟨B.exec, B.bytes, hml, findClass_of_methodNamed B.named, B.notSynchronized, atoms_spec (ws := w_M_then) B.pre, hK, fun q h => Or.inr h, B.returns⟩
  have Z : sr_Z D (va_A (wM h t u0) s.heap.size) s.heap (wM h t u0) s.heap [] := ⟨hP, hD0.self, va_S.rf⟩
  have hl := lv_entry ([.ref (h 0), .int x1, .int x2, .int x3] : List Value) (n := 4) (Nat.le_of_ble_eq_true rfl)
  rw [lg_entry_eq]
  exact k_M_then_0 X Z hl hf
/-! M_setLinks -/
theorem d_M_setLinks_0 : decode b_M_setLinks 0 = .ok (.iconst 0, 1) := by decide +kernel
theorem d_M_setLinks_1 : decode b_M_setLinks 1 = .ok (.istore_n 3, 1) := by decide +kernel
theorem d_M_setLinks_2 : decode b_M_setLinks 2 = .ok (.iload_n 3, 1) := by decide +kernel
theorem d_M_setLinks_3 : decode b_M_setLinks 3 = .ok (.aload_n 0, 1) := by decide +kernel
theorem d_M_setLinks_4 : decode b_M_setLinks 4 = .ok (.getfield 115, 3) := by decide +kernel
theorem d_M_setLinks_7 : decode b_M_setLinks 7 = .ok (.if_icmp .ge 82, 3) := by decide +kernel
theorem d_M_setLinks_10 : decode b_M_setLinks 10 = .ok (.aload_n 0, 1) := by decide +kernel
theorem d_M_setLinks_11 : decode b_M_setLinks 11 = .ok (.getfield 28, 3) := by decide +kernel
theorem d_M_setLinks_14 : decode b_M_setLinks 14 = .ok (.iload_n 3, 1) := by decide +kernel
theorem d_M_setLinks_15 : decode b_M_setLinks 15 = .ok (.iaload, 1) := by decide +kernel
theorem d_M_setLinks_16 : decode b_M_setLinks 16 = .ok (.iload_n 1, 1) := by decide +kernel
theorem d_M_setLinks_17 : decode b_M_setLinks 17 = .ok (.if_icmp .eq 17, 3) := by decide +kernel
theorem d_M_setLinks_20 : decode b_M_setLinks 20 = .ok (.aload_n 0, 1) := by decide +kernel
theorem d_M_setLinks_21 : decode b_M_setLinks 21 = .ok (.aload_n 0, 1) := by decide +kernel
theorem d_M_setLinks_22 : decode b_M_setLinks 22 = .ok (.getfield 28, 3) := by decide +kernel
theorem d_M_setLinks_25 : decode b_M_setLinks 25 = .ok (.iload_n 3, 1) := by decide +kernel
theorem d_M_setLinks_26 : decode b_M_setLinks 26 = .ok (.iaload, 1) := by decide +kernel
theorem d_M_setLinks_27 : decode b_M_setLinks 27 = .ok (.iload_n 1, 1) := by decide +kernel
theorem d_M_setLinks_28 : decode b_M_setLinks 28 = .ok (.invokevirtual 125, 3) := by decide +kernel
theorem d_M_setLinks_31 : decode b_M_setLinks 31 = .ok (.ifCond .eq 52, 3) := by decide +kernel
theorem d_M_setLinks_34 : decode b_M_setLinks 34 = .ok (.aload_n 0, 1) := by decide +kernel
theorem d_M_setLinks_35 : decode b_M_setLinks 35 = .ok (.getfield 71, 3) := by decide +kernel
theorem d_M_setLinks_38 : decode b_M_setLinks 38 = .ok (.bipush 16, 2) := by decide +kernel
theorem d_M_setLinks_40 : decode b_M_setLinks 40 = .ok (.aload_n 0, 1) := by decide +kernel
theorem d_M_setLinks_41 : decode b_M_setLinks 41 = .ok (.getfield 168, 3) := by decide +kernel
theorem d_M_setLinks_44 : decode b_M_setLinks 44 = .ok (.imul, 1) := by decide +kernel
theorem d_M_setLinks_45 : decode b_M_setLinks 45 = .ok (.iload_n 3, 1) := by decide +kernel
theorem d_M_setLinks_46 : decode b_M_setLinks 46 = .ok (.iadd, 1) := by decide +kernel
theorem d_M_setLinks_47 : decode b_M_setLinks 47 = .ok (.iaload, 1) := by decide +kernel
theorem d_M_setLinks_48 : decode b_M_setLinks 48 = .ok (.istore 4, 2) := by decide +kernel
theorem d_M_setLinks_50 : decode b_M_setLinks 50 = .ok (.aload_n 0, 1) := by decide +kernel
theorem d_M_setLinks_51 : decode b_M_setLinks 51 = .ok (.getfield 71, 3) := by decide +kernel
theorem d_M_setLinks_54 : decode b_M_setLinks 54 = .ok (.bipush 16, 2) := by decide +kernel
theorem d_M_setLinks_56 : decode b_M_setLinks 56 = .ok (.aload_n 0, 1) := by decide +kernel
theorem d_M_setLinks_57 : decode b_M_setLinks 57 = .ok (.getfield 168, 3) := by decide +kernel
theorem d_M_setLinks_60 : decode b_M_setLinks 60 = .ok (.imul, 1) := by decide +kernel
theorem d_M_setLinks_61 : decode b_M_setLinks 61 = .ok (.iload_n 3, 1) := by decide +kernel
theorem d_M_setLinks_62 : decode b_M_setLinks 62 = .ok (.iadd, 1) := by decide +kernel
theorem d_M_setLinks_63 : decode b_M_setLinks 63 = .ok (.iload_n 2, 1) := by decide +kernel
theorem d_M_setLinks_64 : decode b_M_setLinks 64 = .ok (.ifCond .ne 7, 3) := by decide +kernel
theorem d_M_setLinks_67 : decode b_M_setLinks 67 = .ok (.iconst 0, 1) := by decide +kernel
theorem d_M_setLinks_68 : decode b_M_setLinks 68 = .ok (.goto 14, 3) := by decide +kernel
theorem d_M_setLinks_71 : decode b_M_setLinks 71 = .ok (.iload 4, 2) := by decide +kernel
theorem d_M_setLinks_73 : decode b_M_setLinks 73 = .ok (.ifCond .ne 7, 3) := by decide +kernel
theorem d_M_setLinks_76 : decode b_M_setLinks 76 = .ok (.iconst 2, 1) := by decide +kernel
theorem d_M_setLinks_77 : decode b_M_setLinks 77 = .ok (.goto 5, 3) := by decide +kernel
theorem d_M_setLinks_80 : decode b_M_setLinks 80 = .ok (.iload 4, 2) := by decide +kernel
theorem d_M_setLinks_82 : decode b_M_setLinks 82 = .ok (.iastore, 1) := by decide +kernel
theorem d_M_setLinks_83 : decode b_M_setLinks 83 = .ok (.iinc 3 1, 3) := by decide +kernel
theorem d_M_setLinks_86 : decode b_M_setLinks 86 = .ok (.goto (-84), 3) := by decide +kernel
theorem d_M_setLinks_89 : decode b_M_setLinks 89 = .ok (.return_, 1) := by decide +kernel
section
variable {p : Program} {l : Launch} {e : Env} {s : State} {m : MethodId} {args : Array Value} {below : List Frame} {meth : Method} {c : Code} {H : Heap} {locs : List Loc} {ls : Array Slot} {D : va_G} {A : Nat → Prop} {h o : Nat → Nat} {t v : Nat → ClassId}
def f_M_setLinks_83 (k2 : Int32 → Int32 → Int32 → St → Option (St)) (x1 : Int32) (x2 : Int32) (x3 : Int32) (u0 : St) : Option (St) :=
  k2 x1 x2 (x3 + 1) u0
set_option maxHeartbeats 4000000 in
set_option maxRecDepth 100000 in
theorem k_M_setLinks_83 {k2 : Int32 → Int32 → Int32 → St → Option (St)} {x1 : Int32} {x2 : Int32} {x3 : Int32} {u0 : St} {u' : St} (X : sr_X D (tM t) b_M_setLinks 5 R_M w_M_setLinks p s m args meth c A none) (hk2 : ∀ (x1 : Int32) (x2 : Int32) (x3 : Int32) (u0 : St) (H : Heap) (locs : List Loc) (ls : Array Slot), sr_Z D A s.heap (wM h t u0) H locs → lv_has ls 5 [(0, .ref (h 0)), (1, .int x1), (2, .int x2), (3, .int x3)] → k2 x1 x2 x3 u0 = some u' → W p l e (sr_rm 1 24) s m args below meth c H locs 0 0 (sr_Qv D (tM t) below args s A (wM h t u')) (F0 m 2 ls [])) (Z : sr_Z D A s.heap (wM h t u0) H locs) (hl : lv_has ls 5 [(0, .ref (h 0)), (1, .int x1), (2, .int x2), (3, .int x3)]) (hf : f_M_setLinks_83 k2 x1 x2 x3 u0 = some u') : W p l e (sr_rm 1 24) s m args below meth c H locs 0 0 (sr_Qv D (tM t) below args s A (wM h t u')) (F0 m 83 ls []) := by
  have hx := X.1
  have hb := X.2.1
  have hK := X.2.2.2.2.2.2.1
  unfold f_M_setLinks_83 at hf
  refine lv_iinc (k := 3) (v := x3 + 1) (lv' := [(3, .int (x3 + 1)), (0, .ref (h 0)), (1, .int x1), (2, .int x2)]) hx hb d_M_setLinks_83 hl rfl rfl (by decide) rfl (fun ls hl => ?_)
  refine lv_goto (tgt := 2) hx hb d_M_setLinks_86 rfl ?_
  exact hk2 x1 x2 (x3 + 1) u0 _ _ _ Z (lv_sub hl [1, 2, 3, 0] rfl) hf
def f_M_setLinks_82 (k2 : Int32 → Int32 → Int32 → St → Option (St)) (x1 : Int32) (x2 : Int32) (x3 : Int32) (y0 : Int32) (y1 : Int32) (u0 : St) : Option (St) :=
  (sr_ast 128 u0 26 y1 y0).bind fun u_9 =>
  f_M_setLinks_83 k2 x1 x2 x3 u_9
set_option maxHeartbeats 4000000 in
set_option maxRecDepth 100000 in
theorem k_M_setLinks_82 {k2 : Int32 → Int32 → Int32 → St → Option (St)} {x1 : Int32} {x2 : Int32} {x3 : Int32} {y0 : Int32} {y1 : Int32} {u0 : St} {u' : St} (X : sr_X D (tM t) b_M_setLinks 5 R_M w_M_setLinks p s m args meth c A none) (hk2 : ∀ (x1 : Int32) (x2 : Int32) (x3 : Int32) (u0 : St) (H : Heap) (locs : List Loc) (ls : Array Slot), sr_Z D A s.heap (wM h t u0) H locs → lv_has ls 5 [(0, .ref (h 0)), (1, .int x1), (2, .int x2), (3, .int x3)] → k2 x1 x2 x3 u0 = some u' → W p l e (sr_rm 1 24) s m args below meth c H locs 0 0 (sr_Qv D (tM t) below args s A (wM h t u')) (F0 m 2 ls [])) (Z : sr_Z D A s.heap (wM h t u0) H locs) (hl : lv_has ls 5 [(0, .ref (h 0)), (1, .int x1), (2, .int x2), (3, .int x3)]) (hf : f_M_setLinks_82 k2 x1 x2 x3 y0 y1 u0 = some u') : W p l e (sr_rm 1 24) s m args below meth c H locs 0 0 (sr_Qv D (tM t) below args s A (wM h t u')) (F0 m 82 ls [.int y0, .int y1, .ref (h 27)]) := by
  have hx := X.1
  have hb := X.2.1
  have hK := X.2.2.2.2.2.2.1
  unfold f_M_setLinks_82 at hf
  obtain ⟨u_9, e_10, hf⟩ := sr_b hf
  refine sr_iast (wf := (fun q => (wM h t q))) hx hb hK Z 21 20 rfl rfl e_10 (fun _ => rfl) d_M_setLinks_82 (fun H locs Z => ?_)
  exact k_M_setLinks_83 X hk2 Z (lv_sub hl [0, 1, 2, 3] rfl) hf
def f_M_setLinks_34 (k2 : Int32 → Int32 → Int32 → St → Option (St)) (x1 : Int32) (x2 : Int32) (x3 : Int32) (u0 : St) : Option (St) :=
  (sr_ald 128 (u0 26) ((16 * (u0 33 0)) + x3)).bind fun v_5 =>
  if x2 = 0 then
    f_M_setLinks_82 k2 x1 x2 x3 0 ((16 * (u0 33 0)) + x3) u0
  else
    if v_5 = 0 then
      f_M_setLinks_82 k2 x1 x2 x3 2 ((16 * (u0 33 0)) + x3) u0
    else
      f_M_setLinks_82 k2 x1 x2 x3 v_5 ((16 * (u0 33 0)) + x3) u0
set_option maxHeartbeats 4000000 in
set_option maxRecDepth 100000 in
theorem k_M_setLinks_34 {k2 : Int32 → Int32 → Int32 → St → Option (St)} {x1 : Int32} {x2 : Int32} {x3 : Int32} {u0 : St} {u' : St} (X : sr_X D (tM t) b_M_setLinks 5 R_M w_M_setLinks p s m args meth c A none) (hk2 : ∀ (x1 : Int32) (x2 : Int32) (x3 : Int32) (u0 : St) (H : Heap) (locs : List Loc) (ls : Array Slot), sr_Z D A s.heap (wM h t u0) H locs → lv_has ls 5 [(0, .ref (h 0)), (1, .int x1), (2, .int x2), (3, .int x3)] → k2 x1 x2 x3 u0 = some u' → W p l e (sr_rm 1 24) s m args below meth c H locs 0 0 (sr_Qv D (tM t) below args s A (wM h t u')) (F0 m 2 ls [])) (Z : sr_Z D A s.heap (wM h t u0) H locs) (hl : lv_has ls 5 [(0, .ref (h 0)), (1, .int x1), (2, .int x2), (3, .int x3)]) (hf : f_M_setLinks_34 k2 x1 x2 x3 u0 = some u') : W p l e (sr_rm 1 24) s m args below meth c H locs 0 0 (sr_Qv D (tM t) below args s A (wM h t u')) (F0 m 34 ls []) := by
  have hx := X.1
  have hb := X.2.1
  have hK := X.2.2.2.2.2.2.1
  unfold f_M_setLinks_34 at hf
  refine lv_aload_n hx hb d_M_setLinks_34 rfl (lv_at hl 0 rfl) ?_
  refine g_M_71_M X Z d_M_setLinks_35 ?_
  refine lv_bipush (v := 16) hx hb d_M_setLinks_38 (by decide) ?_
  refine lv_aload_n hx hb d_M_setLinks_40 rfl (lv_at hl 0 rfl) ?_
  refine g_M_168_M X Z d_M_setLinks_41 ?_
  refine lv_imul hx hb d_M_setLinks_44 ?_
  refine lv_iload_n hx hb d_M_setLinks_45 rfl (lv_at hl 3 rfl) ?_
  refine lv_iadd hx hb d_M_setLinks_46 ?_
  obtain ⟨v_5, e_6, hf⟩ := sr_b hf
  refine sr_iald hx hb hK Z 21 20 rfl rfl e_6 d_M_setLinks_47 ?_
  refine lv_istore (lv' := [(4, .int v_5), (0, .ref (h 0)), (1, .int x1), (2, .int x2), (3, .int x3)]) hx hb d_M_setLinks_48 hl (by decide) rfl (fun ls hl => ?_)
  refine lv_aload_n hx hb d_M_setLinks_50 rfl (lv_at hl 1 rfl) ?_
  refine g_M_71_M X Z d_M_setLinks_51 ?_
  refine lv_bipush (v := 16) hx hb d_M_setLinks_54 (by decide) ?_
  refine lv_aload_n hx hb d_M_setLinks_56 rfl (lv_at hl 1 rfl) ?_
  refine g_M_168_M X Z d_M_setLinks_57 ?_
  refine lv_imul hx hb d_M_setLinks_60 ?_
  refine lv_iload_n hx hb d_M_setLinks_61 rfl (lv_at hl 4 rfl) ?_
  refine lv_iadd hx hb d_M_setLinks_62 ?_
  refine lv_iload_n hx hb d_M_setLinks_63 rfl (lv_at hl 3 rfl) ?_
  refine lv_if_ne (tgt := 71) hx hb d_M_setLinks_64 rfl (fun q_7 => ?_) (fun q_7 => ?_)
  · have hf := sr_if q_7 hf
    refine lv_iload hx hb d_M_setLinks_71 (lv_at hl 0 rfl) ?_
    refine lv_if_ne (tgt := 80) hx hb d_M_setLinks_73 rfl (fun q_8 => ?_) (fun q_8 => ?_)
    · have hf := sr_if q_8 hf
      refine lv_iload hx hb d_M_setLinks_80 (lv_at hl 0 rfl) ?_
      exact k_M_setLinks_82 X hk2 Z (lv_sub hl [1, 2, 3, 4] rfl) hf
    · have hf := sr_it q_8 hf
      refine lv_iconst (v := 2) hx hb d_M_setLinks_76 (by decide) ?_
      refine lv_goto (tgt := 82) hx hb d_M_setLinks_77 rfl ?_
      exact k_M_setLinks_82 X hk2 Z (lv_sub hl [1, 2, 3, 4] rfl) hf
  · have hf := sr_it q_7 hf
    refine lv_iconst (v := 0) hx hb d_M_setLinks_67 (by decide) ?_
    refine lv_goto (tgt := 82) hx hb d_M_setLinks_68 rfl ?_
    exact k_M_setLinks_82 X hk2 Z (lv_sub hl [1, 2, 3, 4] rfl) hf
def f_M_setLinks_2 (k2 : Int32 → Int32 → Int32 → St → Option (St)) (x1 : Int32) (x2 : Int32) (x3 : Int32) (u0 : St) : Option (St) :=
  if (u0 7 0) ≤ x3 then
    some u0
  else
    (sr_ald 16 (u0 8) x3).bind fun v_2 =>
    if v_2 = x1 then
      f_M_setLinks_34 k2 x1 x2 x3 u0
    else
      (sr_ald 16 (u0 8) x3).bind fun v_11 =>
      (f_M_below u0 v_11 x1).bind fun v_13 =>
      if v_13 = 0 then
        f_M_setLinks_83 k2 x1 x2 x3 u0
      else
        f_M_setLinks_34 k2 x1 x2 x3 u0
set_option maxHeartbeats 4000000 in
set_option maxRecDepth 100000 in
theorem k_M_setLinks_2 {k2 : Int32 → Int32 → Int32 → St → Option (St)} {x1 : Int32} {x2 : Int32} {x3 : Int32} {u0 : St} {u' : St} (X : sr_X D (tM t) b_M_setLinks 5 R_M w_M_setLinks p s m args meth c A none) (hk2 : ∀ (x1 : Int32) (x2 : Int32) (x3 : Int32) (u0 : St) (H : Heap) (locs : List Loc) (ls : Array Slot), sr_Z D A s.heap (wM h t u0) H locs → lv_has ls 5 [(0, .ref (h 0)), (1, .int x1), (2, .int x2), (3, .int x3)] → k2 x1 x2 x3 u0 = some u' → W p l e (sr_rm 1 24) s m args below meth c H locs 0 0 (sr_Qv D (tM t) below args s A (wM h t u')) (F0 m 2 ls [])) (Z : sr_Z D A s.heap (wM h t u0) H locs) (hl : lv_has ls 5 [(0, .ref (h 0)), (1, .int x1), (2, .int x2), (3, .int x3)]) (hf : f_M_setLinks_2 k2 x1 x2 x3 u0 = some u') : W p l e (sr_rm 1 24) s m args below meth c H locs 0 0 (sr_Qv D (tM t) below args s A (wM h t u')) (F0 m 2 ls []) := by
  have hx := X.1
  have hb := X.2.1
  have hK := X.2.2.2.2.2.2.1
  unfold f_M_setLinks_2 at hf
  refine lv_iload_n hx hb d_M_setLinks_2 rfl (lv_at hl 3 rfl) ?_
  refine lv_aload_n hx hb d_M_setLinks_3 rfl (lv_at hl 0 rfl) ?_
  refine g_M_115_M X Z d_M_setLinks_4 ?_
  refine lv_icmp_ge (tgt := 89) hx hb d_M_setLinks_7 rfl (fun q_1 => ?_) (fun q_1 => ?_)
  · have hf := sr_it q_1 hf
    cases hf
    exact sr_retv X Z d_M_setLinks_89
  · have hf := sr_if q_1 hf
    refine lv_aload_n hx hb d_M_setLinks_10 rfl (lv_at hl 0 rfl) ?_
    refine g_M_28_M X Z d_M_setLinks_11 ?_
    refine lv_iload_n hx hb d_M_setLinks_14 rfl (lv_at hl 3 rfl) ?_
    obtain ⟨v_2, e_3, hf⟩ := sr_b hf
    refine sr_iald hx hb hK Z 7 6 rfl rfl e_3 d_M_setLinks_15 ?_
    refine lv_iload_n hx hb d_M_setLinks_16 rfl (lv_at hl 1 rfl) ?_
    refine lv_icmp_eq (tgt := 34) hx hb d_M_setLinks_17 rfl (fun q_4 => ?_) (fun q_4 => ?_)
    · have hf := sr_it q_4 hf
      exact k_M_setLinks_34 X hk2 Z (lv_sub hl [0, 1, 2, 3] rfl) hf
    · have hf := sr_if q_4 hf
      refine lv_aload_n hx hb d_M_setLinks_20 rfl (lv_at hl 0 rfl) ?_
      refine lv_aload_n hx hb d_M_setLinks_21 rfl (lv_at hl 0 rfl) ?_
      refine g_M_28_M X Z d_M_setLinks_22 ?_
      refine lv_iload_n hx hb d_M_setLinks_25 rfl (lv_at hl 3 rfl) ?_
      obtain ⟨v_11, e_12, hf⟩ := sr_b hf
      refine sr_iald hx hb hK Z 7 6 rfl rfl e_12 d_M_setLinks_26 ?_
      refine lv_iload_n hx hb d_M_setLinks_27 rfl (lv_at hl 1 rfl) ?_
      obtain ⟨v_13, e_14, hf⟩ := sr_b hf
      refine sr_cVi (As := [.int v_11, .int x1]) (rest := []) X Z sr_cut_self hK (c_M_below e_14) (cw_M_125 X.2.2.2.2.2.1 (by decide)) 0 rfl rfl rfl hl rfl (Nat.le_of_ble_eq_true rfl) d_M_setLinks_28 (fun H locs Z => ?_)
      refine lv_if_eq (tgt := 83) hx hb d_M_setLinks_31 rfl (fun q_15 => ?_) (fun q_15 => ?_)
      · have hf := sr_it q_15 hf
        exact k_M_setLinks_83 X hk2 Z (lv_sub hl [0, 1, 2, 3] rfl) hf
      · have hf := sr_if q_15 hf
        exact k_M_setLinks_34 X hk2 Z (lv_sub hl [0, 1, 2, 3] rfl) hf
def f_M_setLinks_2_it : Nat → Int32 → Int32 → Int32 → St → Option (St)
  | 0 => fun _ _ _ _ => none
  | n + 1 => fun x1 x2 x3 u0 => f_M_setLinks_2 (f_M_setLinks_2_it n) x1 x2 x3 u0
set_option maxHeartbeats 4000000 in
set_option maxRecDepth 100000 in
theorem k_M_setLinks_2_it {u' : St} (X : sr_X D (tM t) b_M_setLinks 5 R_M w_M_setLinks p s m args meth c A none) (n : Nat) : ∀ {x1 : Int32} {x2 : Int32} {x3 : Int32} {u0 : St} {H : Heap} {locs : List Loc} {ls : Array Slot}, sr_Z D A s.heap (wM h t u0) H locs → lv_has ls 5 [(0, .ref (h 0)), (1, .int x1), (2, .int x2), (3, .int x3)] → f_M_setLinks_2_it n x1 x2 x3 u0 = some u' → W p l e (sr_rm 1 24) s m args below meth c H locs 0 0 (sr_Qv D (tM t) below args s A (wM h t u')) (F0 m 2 ls []) := by
  induction n with
  | zero => intro x1 x2 x3 u0 H locs ls Z hl hf; exact absurd hf (by simp [f_M_setLinks_2_it])
  | succ n ih =>
    intro x1 x2 x3 u0 H locs ls Z hl hf
    exact k_M_setLinks_2 X (fun x1 x2 x3 u0 H locs ls Z hl hf => ih Z hl hf) Z hl hf
def f_M_setLinks (x1 : Int32) (x2 : Int32) (u0 : St) : Option (St) :=
  f_M_setLinks_2_it 60 x1 x2 0 u0
set_option maxHeartbeats 4000000 in
set_option maxRecDepth 100000 in
theorem k_M_setLinks_0 {x1 : Int32} {x2 : Int32} {u0 : St} {u' : St} (X : sr_X D (tM t) b_M_setLinks 5 R_M w_M_setLinks p s m args meth c A none) (Z : sr_Z D A s.heap (wM h t u0) H locs) (hl : lv_has ls 5 [(0, .ref (h 0)), (1, .int x1), (2, .int x2)]) (hf : f_M_setLinks x1 x2 u0 = some u') : W p l e (sr_rm 1 24) s m args below meth c H locs 0 0 (sr_Qv D (tM t) below args s A (wM h t u')) (F0 m 0 ls []) := by
  have hx := X.1
  have hb := X.2.1
  have hK := X.2.2.2.2.2.2.1
  unfold f_M_setLinks at hf
  refine lv_iconst (v := 0) hx hb d_M_setLinks_0 (by decide) ?_
  refine lv_istore_n (lv' := [(3, .int 0), (0, .ref (h 0)), (1, .int x1), (2, .int x2)]) hx hb d_M_setLinks_1 rfl hl (by decide) rfl (fun ls hl => ?_)
  exact k_M_setLinks_2_it X _ Z (lv_sub hl [1, 2, 3, 0] rfl) hf
end
set_option maxHeartbeats 4000000 in
set_option maxRecDepth 100000 in
theorem c_M_setLinks {l : Launch} {D : va_G} {h : Nat → Nat} {t : Nat → ClassId} {sz : Nat} {x1 : Int32} {x2 : Int32} {u0 : St} {u' : St} (hf : f_M_setLinks x1 x2 u0 = some u') : sr_Cv l y_M_setLinks w_M_setLinks (sr_rm 1 24) D (tM t) (wM h t u0) (wM h t u') sz [.ref (h 0), .int x1, .int x2] := by
  refine Met.ofW (cc := b_M_setLinks) (maxL := 5) (ret := none) (by decide) rfl ?_
  intro p e s m args below meth c s₁ B hml hv
  obtain ⟨rfl, hsz, hP, hK, hD0⟩ := hv
  subst hsz
  have X : sr_X D (tM t) b_M_setLinks 5 R_M w_M_setLinks p s m _ meth c (va_A (wM h t u0) s.heap.size) none := ⟨B.exec, B.bytes, hml, findClass_of_methodNamed B.named, B.notSynchronized, atoms_spec (ws := w_M_setLinks) B.pre, hK, fun q h => Or.inr h, B.returns⟩
  have Z : sr_Z D (va_A (wM h t u0) s.heap.size) s.heap (wM h t u0) s.heap [] := ⟨hP, hD0.self, va_S.rf⟩
  have hl := lv_entry ([.ref (h 0), .int x1, .int x2] : List Value) (n := 5) (Nat.le_of_ble_eq_true rfl)
  rw [lg_entry_eq]
  exact k_M_setLinks_0 X Z hl hf
