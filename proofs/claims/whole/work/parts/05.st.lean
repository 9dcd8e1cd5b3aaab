/-! M_in -/
theorem d_M_in_0 : decode b_M_in 0 = .ok (.iload_n 0, 1) := by decide +kernel
theorem d_M_in_1 : decode b_M_in 1 = .ok (.iload_n 1, 1) := by decide +kernel
theorem d_M_in_2 : decode b_M_in 2 = .ok (.if_icmp .lt 12, 3) := by decide +kernel
theorem d_M_in_5 : decode b_M_in 5 = .ok (.iload_n 0, 1) := by decide +kernel
theorem d_M_in_6 : decode b_M_in 6 = .ok (.iload_n 2, 1) := by decide +kernel
theorem d_M_in_7 : decode b_M_in 7 = .ok (.if_icmp .gt 7, 3) := by decide +kernel
theorem d_M_in_10 : decode b_M_in 10 = .ok (.iconst 1, 1) := by decide +kernel
theorem d_M_in_11 : decode b_M_in 11 = .ok (.goto 4, 3) := by decide +kernel
theorem d_M_in_14 : decode b_M_in 14 = .ok (.iconst 0, 1) := by decide +kernel
theorem d_M_in_15 : decode b_M_in 15 = .ok (.ireturn, 1) := by decide +kernel
section
variable {p : Program} {l : Launch} {e : Env} {s : State} {m : MethodId} {args : Array Value} {below : List Frame} {meth : Method} {c : Code} {H : Heap} {locs : List Loc} {ls : Array Slot} {D : va_G} {A : Nat → Prop} {h o : Nat → Nat} {t v : Nat → ClassId}
def f_M_in (x0 : Int32) (x1 : Int32) (x2 : Int32) : Option (Int32) :=
  if x0 < x1 then
    some 0
  else
    if x2 < x0 then
      some 0
    else
      some 1
set_option maxHeartbeats 4000000 in
set_option maxRecDepth 100000 in
theorem k_M_in_0 {x0 : Int32} {x1 : Int32} {x2 : Int32} {r : Int32} (X : sr_X D [] b_M_in 3 R_M w_M_in p s m args meth c A (some .boolean)) (Z : sr_Z D A s.heap [] H locs) (hl : lv_has ls 3 [(0, .int x0), (1, .int x1), (2, .int x2)]) (hf : f_M_in x0 x1 x2 = some r) : W p l e (sr_rm 0 0) s m args below meth c H locs 0 0 (sr_Qi D [] below args s A [] r) (F0 m 0 ls []) := by
  have hx := X.1
  have hb := X.2.1
  have hK := X.2.2.2.2.2.2.1
  unfold f_M_in at hf
  refine lv_iload_n hx hb d_M_in_0 rfl (lv_at hl 0 rfl) ?_
  refine lv_iload_n hx hb d_M_in_1 rfl (lv_at hl 1 rfl) ?_
  refine lv_icmp_lt (tgt := 14) hx hb d_M_in_2 rfl (fun q_1 => ?_) (fun q_1 => ?_)
  · have hf := sr_it q_1 hf
    refine lv_iconst (v := 0) hx hb d_M_in_14 (by decide) ?_
    cases hf
    exact sr_retz X Z (by decide) d_M_in_15
  · have hf := sr_if q_1 hf
    refine lv_iload_n hx hb d_M_in_5 rfl (lv_at hl 0 rfl) ?_
    refine lv_iload_n hx hb d_M_in_6 rfl (lv_at hl 2 rfl) ?_
    refine lv_icmp_gt (tgt := 14) hx hb d_M_in_7 rfl (fun q_2 => ?_) (fun q_2 => ?_)
    · have hf := sr_it q_2 hf
      refine lv_iconst (v := 0) hx hb d_M_in_14 (by decide) ?_
      cases hf
      exact sr_retz X Z (by decide) d_M_in_15
    · have hf := sr_if q_2 hf
      refine lv_iconst (v := 1) hx hb d_M_in_10 (by decide) ?_
      refine lv_goto (tgt := 15) hx hb d_M_in_11 rfl ?_
      cases hf
      exact sr_retz X Z (by decide) d_M_in_15
end
set_option maxHeartbeats 4000000 in
set_option maxRecDepth 100000 in
theorem c_M_in {l : Launch} {D : va_G}  {sz : Nat} {x0 : Int32} {x1 : Int32} {x2 : Int32} {r : Int32} (hf : f_M_in x0 x1 x2 = some r) : sr_Ci l y_M_in w_M_in (sr_rm 0 0) D [] [] [] sz [.int x0, .int x1, .int x2] r := by
  refine Met.ofW (cc := b_M_in) (maxL := 3) (ret := (some .boolean)) (by decide) rfl ?_
  intro p e s m args below meth c s₁ B hml hv
  obtain ⟨rfl, hsz, hP, hK, hD0⟩ := hv
  subst hsz
  have X : sr_X D [] b_M_in 3 R_M w_M_in p s m _ meth c (va_A [] s.heap.size) (some .boolean) := ⟨B.exec, B.bytes, hml, findClass_of_methodNamed B.named, B.notSynchronized, atoms_spec (ws := w_M_in) B.pre, hK, fun q h => Or.inr h, B.returns⟩
  have Z : sr_Z D (va_A [] s.heap.size) s.heap [] s.heap [] := ⟨hP, hD0.self, va_S.rf⟩
  have hl := lv_entry ([.int x0, .int x1, .int x2] : List Value) (n := 3) (Nat.le_of_ble_eq_true rfl)
  rw [lg_entry_eq]
  exact k_M_in_0 X Z hl hf
/-! K_isVariable -/
theorem d_K_isVariable_0 : decode b_K_isVariable 0 = .ok (.iload_n 0, 1) := by decide +kernel
theorem d_K_isVariable_1 : decode b_K_isVariable 1 = .ok (.ifCond .lt 12, 3) := by decide +kernel
theorem d_K_isVariable_4 : decode b_K_isVariable 4 = .ok (.iload_n 0, 1) := by decide +kernel
theorem d_K_isVariable_5 : decode b_K_isVariable 5 = .ok (.iconst 4, 1) := by decide +kernel
theorem d_K_isVariable_6 : decode b_K_isVariable 6 = .ok (.if_icmp .gt 7, 3) := by decide +kernel
theorem d_K_isVariable_9 : decode b_K_isVariable 9 = .ok (.iconst 1, 1) := by decide +kernel
theorem d_K_isVariable_10 : decode b_K_isVariable 10 = .ok (.goto 4, 3) := by decide +kernel
theorem d_K_isVariable_13 : decode b_K_isVariable 13 = .ok (.iconst 0, 1) := by decide +kernel
theorem d_K_isVariable_14 : decode b_K_isVariable 14 = .ok (.ireturn, 1) := by decide +kernel
section
variable {p : Program} {l : Launch} {e : Env} {s : State} {m : MethodId} {args : Array Value} {below : List Frame} {meth : Method} {c : Code} {H : Heap} {locs : List Loc} {ls : Array Slot} {D : va_G} {A : Nat → Prop} {h o : Nat → Nat} {t v : Nat → ClassId}
def f_K_isVariable (x0 : Int32) : Option (Int32) :=
  if x0 < 0 then
    some 0
  else
    if 4 < x0 then
      some 0
    else
      some 1
set_option maxHeartbeats 4000000 in
set_option maxRecDepth 100000 in
theorem k_K_isVariable_0 {x0 : Int32} {r : Int32} (X : sr_X D [] b_K_isVariable 1 R_K w_K_isVariable p s m args meth c A (some .boolean)) (Z : sr_Z D A s.heap [] H locs) (hl : lv_has ls 1 [(0, .int x0)]) (hf : f_K_isVariable x0 = some r) : W p l e (sr_rm 0 0) s m args below meth c H locs 0 0 (sr_Qi D [] below args s A [] r) (F0 m 0 ls []) := by
  have hx := X.1
  have hb := X.2.1
  have hK := X.2.2.2.2.2.2.1
  unfold f_K_isVariable at hf
  refine lv_iload_n hx hb d_K_isVariable_0 rfl (lv_at hl 0 rfl) ?_
  refine lv_if_lt (tgt := 13) hx hb d_K_isVariable_1 rfl (fun q_1 => ?_) (fun q_1 => ?_)
  · have hf := sr_it q_1 hf
    refine lv_iconst (v := 0) hx hb d_K_isVariable_13 (by decide) ?_
    cases hf
    exact sr_retz X Z (by decide) d_K_isVariable_14
  · have hf := sr_if q_1 hf
    refine lv_iload_n hx hb d_K_isVariable_4 rfl (lv_at hl 0 rfl) ?_
    refine lv_iconst (v := 4) hx hb d_K_isVariable_5 (by decide) ?_
    refine lv_icmp_gt (tgt := 13) hx hb d_K_isVariable_6 rfl (fun q_2 => ?_) (fun q_2 => ?_)
    · have hf := sr_it q_2 hf
      refine lv_iconst (v := 0) hx hb d_K_isVariable_13 (by decide) ?_
      cases hf
      exact sr_retz X Z (by decide) d_K_isVariable_14
    · have hf := sr_if q_2 hf
      refine lv_iconst (v := 1) hx hb d_K_isVariable_9 (by decide) ?_
      refine lv_goto (tgt := 14) hx hb d_K_isVariable_10 rfl ?_
      cases hf
      exact sr_retz X Z (by decide) d_K_isVariable_14
end
set_option maxHeartbeats 4000000 in
set_option maxRecDepth 100000 in
theorem c_K_isVariable {l : Launch} {D : va_G}  {sz : Nat} {x0 : Int32} {r : Int32} (hf : f_K_isVariable x0 = some r) : sr_Ci l y_K_isVariable w_K_isVariable (sr_rm 0 0) D [] [] [] sz [.int x0] r := by
  refine Met.ofW (cc := b_K_isVariable) (maxL := 1) (ret := (some .boolean)) (by decide) rfl ?_
  intro p e s m args below meth c s₁ B hml hv
  obtain ⟨rfl, hsz, hP, hK, hD0⟩ := hv
  subst hsz
  have X : sr_X D [] b_K_isVariable 1 R_K w_K_isVariable p s m _ meth c (va_A [] s.heap.size) (some .boolean) := ⟨B.exec, B.bytes, hml, findClass_of_methodNamed B.named, B.notSynchronized, atoms_spec (ws := w_K_isVariable) B.pre, hK, fun q h => Or.inr h, B.returns⟩
  have Z : sr_Z D (va_A [] s.heap.size) s.heap [] s.heap [] := ⟨hP, hD0.self, va_S.rf⟩
  have hl := lv_entry ([.int x0] : List Value) (n := 1) (Nat.le_of_ble_eq_true rfl)
  rw [lg_entry_eq]
  exact k_K_isVariable_0 X Z hl hf
/-! K_fits -/
theorem d_K_fits_0 : decode b_K_fits 0 = .ok (.iload_n 0, 1) := by decide +kernel
theorem d_K_fits_1 : decode b_K_fits 1 = .ok (.tableswitch 165 1 12 #[63, 68, 88, 165, 105, 128, 133, 165, 165, 63, 63, 149], 63) := by decide +kernel
theorem d_K_fits_64 : decode b_K_fits 64 = .ok (.iload_n 1, 1) := by decide +kernel
theorem d_K_fits_65 : decode b_K_fits 65 = .ok (.invokestatic 9, 3) := by decide +kernel
theorem d_K_fits_68 : decode b_K_fits 68 = .ok (.ireturn, 1) := by decide +kernel
theorem d_K_fits_69 : decode b_K_fits 69 = .ok (.iload_n 1, 1) := by decide +kernel
theorem d_K_fits_70 : decode b_K_fits 70 = .ok (.invokestatic 9, 3) := by decide +kernel
theorem d_K_fits_73 : decode b_K_fits 73 = .ok (.ifCond .eq 14, 3) := by decide +kernel
theorem d_K_fits_76 : decode b_K_fits 76 = .ok (.iload_n 2, 1) := by decide +kernel
theorem d_K_fits_77 : decode b_K_fits 77 = .ok (.invokestatic 9, 3) := by decide +kernel
theorem d_K_fits_80 : decode b_K_fits 80 = .ok (.ifCond .eq 7, 3) := by decide +kernel
theorem d_K_fits_83 : decode b_K_fits 83 = .ok (.iconst 1, 1) := by decide +kernel
theorem d_K_fits_84 : decode b_K_fits 84 = .ok (.goto 4, 3) := by decide +kernel
theorem d_K_fits_87 : decode b_K_fits 87 = .ok (.iconst 0, 1) := by decide +kernel
theorem d_K_fits_88 : decode b_K_fits 88 = .ok (.ireturn, 1) := by decide +kernel
theorem d_K_fits_89 : decode b_K_fits 89 = .ok (.iload_n 1, 1) := by decide +kernel
theorem d_K_fits_90 : decode b_K_fits 90 = .ok (.iconst 1, 1) := by decide +kernel
theorem d_K_fits_91 : decode b_K_fits 91 = .ok (.if_icmp .lt 13, 3) := by decide +kernel
theorem d_K_fits_94 : decode b_K_fits 94 = .ok (.iload_n 1, 1) := by decide +kernel
theorem d_K_fits_95 : decode b_K_fits 95 = .ok (.bipush 99, 2) := by decide +kernel
theorem d_K_fits_97 : decode b_K_fits 97 = .ok (.if_icmp .gt 7, 3) := by decide +kernel
theorem d_K_fits_100 : decode b_K_fits 100 = .ok (.iconst 1, 1) := by decide +kernel
theorem d_K_fits_101 : decode b_K_fits 101 = .ok (.goto 4, 3) := by decide +kernel
theorem d_K_fits_104 : decode b_K_fits 104 = .ok (.iconst 0, 1) := by decide +kernel
theorem d_K_fits_105 : decode b_K_fits 105 = .ok (.ireturn, 1) := by decide +kernel
theorem d_K_fits_106 : decode b_K_fits 106 = .ok (.iload_n 1, 1) := by decide +kernel
theorem d_K_fits_107 : decode b_K_fits 107 = .ok (.ifCond .lt 20, 3) := by decide +kernel
theorem d_K_fits_110 : decode b_K_fits 110 = .ok (.iload_n 1, 1) := by decide +kernel
theorem d_K_fits_111 : decode b_K_fits 111 = .ok (.bipush 7, 2) := by decide +kernel
theorem d_K_fits_113 : decode b_K_fits 113 = .ok (.if_icmp .gt 14, 3) := by decide +kernel
theorem d_K_fits_116 : decode b_K_fits 116 = .ok (.iload_n 2, 1) := by decide +kernel
theorem d_K_fits_117 : decode b_K_fits 117 = .ok (.invokestatic 9, 3) := by decide +kernel
theorem d_K_fits_120 : decode b_K_fits 120 = .ok (.ifCond .eq 7, 3) := by decide +kernel
theorem d_K_fits_123 : decode b_K_fits 123 = .ok (.iconst 1, 1) := by decide +kernel
theorem d_K_fits_124 : decode b_K_fits 124 = .ok (.goto 4, 3) := by decide +kernel
theorem d_K_fits_127 : decode b_K_fits 127 = .ok (.iconst 0, 1) := by decide +kernel
theorem d_K_fits_128 : decode b_K_fits 128 = .ok (.ireturn, 1) := by decide +kernel
theorem d_K_fits_129 : decode b_K_fits 129 = .ok (.iload_n 2, 1) := by decide +kernel
theorem d_K_fits_130 : decode b_K_fits 130 = .ok (.invokestatic 9, 3) := by decide +kernel
theorem d_K_fits_133 : decode b_K_fits 133 = .ok (.ireturn, 1) := by decide +kernel
theorem d_K_fits_134 : decode b_K_fits 134 = .ok (.iload_n 1, 1) := by decide +kernel
theorem d_K_fits_135 : decode b_K_fits 135 = .ok (.ifCond .lt 13, 3) := by decide +kernel
theorem d_K_fits_138 : decode b_K_fits 138 = .ok (.iload_n 1, 1) := by decide +kernel
theorem d_K_fits_139 : decode b_K_fits 139 = .ok (.bipush 24, 2) := by decide +kernel
theorem d_K_fits_141 : decode b_K_fits 141 = .ok (.if_icmp .ge 7, 3) := by decide +kernel
theorem d_K_fits_144 : decode b_K_fits 144 = .ok (.iconst 1, 1) := by decide +kernel
theorem d_K_fits_145 : decode b_K_fits 145 = .ok (.goto 4, 3) := by decide +kernel
theorem d_K_fits_148 : decode b_K_fits 148 = .ok (.iconst 0, 1) := by decide +kernel
theorem d_K_fits_149 : decode b_K_fits 149 = .ok (.ireturn, 1) := by decide +kernel
theorem d_K_fits_150 : decode b_K_fits 150 = .ok (.iload_n 1, 1) := by decide +kernel
theorem d_K_fits_151 : decode b_K_fits 151 = .ok (.ifCond .lt 13, 3) := by decide +kernel
theorem d_K_fits_154 : decode b_K_fits 154 = .ok (.iload_n 1, 1) := by decide +kernel
theorem d_K_fits_155 : decode b_K_fits 155 = .ok (.bipush 102, 2) := by decide +kernel
theorem d_K_fits_157 : decode b_K_fits 157 = .ok (.if_icmp .gt 7, 3) := by decide +kernel
theorem d_K_fits_160 : decode b_K_fits 160 = .ok (.iconst 1, 1) := by decide +kernel
theorem d_K_fits_161 : decode b_K_fits 161 = .ok (.goto 4, 3) := by decide +kernel
theorem d_K_fits_164 : decode b_K_fits 164 = .ok (.iconst 0, 1) := by decide +kernel
theorem d_K_fits_165 : decode b_K_fits 165 = .ok (.ireturn, 1) := by decide +kernel
theorem d_K_fits_166 : decode b_K_fits 166 = .ok (.iload_n 0, 1) := by decide +kernel
theorem d_K_fits_167 : decode b_K_fits 167 = .ok (.ifCond .eq 20, 3) := by decide +kernel
theorem d_K_fits_170 : decode b_K_fits 170 = .ok (.iload_n 0, 1) := by decide +kernel
theorem d_K_fits_171 : decode b_K_fits 171 = .ok (.iconst 4, 1) := by decide +kernel
theorem d_K_fits_172 : decode b_K_fits 172 = .ok (.if_icmp .eq 15, 3) := by decide +kernel
theorem d_K_fits_175 : decode b_K_fits 175 = .ok (.iload_n 0, 1) := by decide +kernel
theorem d_K_fits_176 : decode b_K_fits 176 = .ok (.bipush 8, 2) := by decide +kernel
theorem d_K_fits_178 : decode b_K_fits 178 = .ok (.if_icmp .eq 9, 3) := by decide +kernel
theorem d_K_fits_181 : decode b_K_fits 181 = .ok (.iload_n 0, 1) := by decide +kernel
theorem d_K_fits_182 : decode b_K_fits 182 = .ok (.bipush 9, 2) := by decide +kernel
theorem d_K_fits_184 : decode b_K_fits 184 = .ok (.if_icmp .ne 7, 3) := by decide +kernel
theorem d_K_fits_187 : decode b_K_fits 187 = .ok (.iconst 1, 1) := by decide +kernel
theorem d_K_fits_188 : decode b_K_fits 188 = .ok (.goto 4, 3) := by decide +kernel
theorem d_K_fits_191 : decode b_K_fits 191 = .ok (.iconst 0, 1) := by decide +kernel
theorem d_K_fits_192 : decode b_K_fits 192 = .ok (.ireturn, 1) := by decide +kernel
section
variable {p : Program} {l : Launch} {e : Env} {s : State} {m : MethodId} {args : Array Value} {below : List Frame} {meth : Method} {c : Code} {H : Heap} {locs : List Loc} {ls : Array Slot} {D : va_G} {A : Nat → Prop} {h o : Nat → Nat} {t v : Nat → ClassId}
def f_K_fits_64 (x1 : Int32) : Option (Int32) :=
  (f_K_isVariable x1).bind fun v_4 =>
  (sr_z v_4).bind fun _ =>
  some v_4
set_option maxHeartbeats 4000000 in
set_option maxRecDepth 100000 in
theorem k_K_fits_64 {x1 : Int32} {r : Int32} (X : sr_X D [] b_K_fits 3 R_K w_K_fits p s m args meth c A (some .boolean)) (Z : sr_Z D A s.heap [] H locs) (hl : lv_has ls 3 [(1, .int x1)]) (hf : f_K_fits_64 x1 = some r) : W p l e (sr_rm 1 20) s m args below meth c H locs 0 0 (sr_Qi D [] below args s A [] r) (F0 m 64 ls []) := by
  have hx := X.1
  have hb := X.2.1
  have hK := X.2.2.2.2.2.2.1
  unfold f_K_fits_64 at hf
  refine lv_iload_n hx hb d_K_fits_64 rfl (lv_at hl 0 rfl) ?_
  obtain ⟨v_4, e_5, hf⟩ := sr_b hf
  refine sr_cSi (As := [.int x1]) (rest := []) X Z sr_cut_0 (va_K.sub hK [] rfl) (c_K_isVariable e_5) (cw_K_9 X.2.2.2.2.2.1 (by decide)) rfl hl rfl (Nat.le_of_ble_eq_true rfl) d_K_fits_65 (fun H locs Z => ?_)
  obtain ⟨_, e_6, hf⟩ := sr_b hf
  cases hf
  exact sr_retz X Z (sr_z_i e_6) d_K_fits_68
def f_K_fits_187 : Option (Int32) :=
  some 1
set_option maxHeartbeats 4000000 in
set_option maxRecDepth 100000 in
theorem k_K_fits_187 {r : Int32} (X : sr_X D [] b_K_fits 3 R_K w_K_fits p s m args meth c A (some .boolean)) (Z : sr_Z D A s.heap [] H locs) (hl : lv_has ls 3 []) (hf : f_K_fits_187 = some r) : W p l e (sr_rm 1 20) s m args below meth c H locs 0 0 (sr_Qi D [] below args s A [] r) (F0 m 187 ls []) := by
  have hx := X.1
  have hb := X.2.1
  have hK := X.2.2.2.2.2.2.1
  unfold f_K_fits_187 at hf
  refine lv_iconst (v := 1) hx hb d_K_fits_187 (by decide) ?_
  refine lv_goto (tgt := 192) hx hb d_K_fits_188 rfl ?_
  cases hf
  exact sr_retz X Z (by decide) d_K_fits_192
def f_K_fits_166 (x0 : Int32) : Option (Int32) :=
  if x0 = 0 then
    f_K_fits_187 
  else
    if x0 = 4 then
      f_K_fits_187 
    else
      if x0 = 8 then
        f_K_fits_187 
      else
        if x0 = 9 then
          f_K_fits_187 
        else
          some 0
set_option maxHeartbeats 4000000 in
set_option maxRecDepth 100000 in
theorem k_K_fits_166 {x0 : Int32} {r : Int32} (X : sr_X D [] b_K_fits 3 R_K w_K_fits p s m args meth c A (some .boolean)) (Z : sr_Z D A s.heap [] H locs) (hl : lv_has ls 3 [(0, .int x0)]) (hf : f_K_fits_166 x0 = some r) : W p l e (sr_rm 1 20) s m args below meth c H locs 0 0 (sr_Qi D [] below args s A [] r) (F0 m 166 ls []) := by
  have hx := X.1
  have hb := X.2.1
  have hK := X.2.2.2.2.2.2.1
  unfold f_K_fits_166 at hf
  refine lv_iload_n hx hb d_K_fits_166 rfl (lv_at hl 0 rfl) ?_
  refine lv_if_eq (tgt := 187) hx hb d_K_fits_167 rfl (fun q_18 => ?_) (fun q_18 => ?_)
  · have hf := sr_it q_18 hf
    exact k_K_fits_187 X Z (lv_sub hl [] rfl) hf
  · have hf := sr_if q_18 hf
    refine lv_iload_n hx hb d_K_fits_170 rfl (lv_at hl 0 rfl) ?_
    refine lv_iconst (v := 4) hx hb d_K_fits_171 (by decide) ?_
    refine lv_icmp_eq (tgt := 187) hx hb d_K_fits_172 rfl (fun q_19 => ?_) (fun q_19 => ?_)
    · have hf := sr_it q_19 hf
      exact k_K_fits_187 X Z (lv_sub hl [] rfl) hf
    · have hf := sr_if q_19 hf
      refine lv_iload_n hx hb d_K_fits_175 rfl (lv_at hl 0 rfl) ?_
      refine lv_bipush (v := 8) hx hb d_K_fits_176 (by decide) ?_
      refine lv_icmp_eq (tgt := 187) hx hb d_K_fits_178 rfl (fun q_20 => ?_) (fun q_20 => ?_)
      · have hf := sr_it q_20 hf
        exact k_K_fits_187 X Z (lv_sub hl [] rfl) hf
      · have hf := sr_if q_20 hf
        refine lv_iload_n hx hb d_K_fits_181 rfl (lv_at hl 0 rfl) ?_
        refine lv_bipush (v := 9) hx hb d_K_fits_182 (by decide) ?_
        refine lv_icmp_ne (tgt := 191) hx hb d_K_fits_184 rfl (fun q_21 => ?_) (fun q_21 => ?_)
        · have hf := sr_if q_21 hf
          refine lv_iconst (v := 0) hx hb d_K_fits_191 (by decide) ?_
          cases hf
          exact sr_retz X Z (by decide) d_K_fits_192
        · have hf := sr_it q_21 hf
          exact k_K_fits_187 X Z (lv_sub hl [] rfl) hf
def f_K_fits (x0 : Int32) (x1 : Int32) (x2 : Int32) : Option (Int32) :=
  (some x0).bind fun w_1 =>
  if w_1 = 1 then
    f_K_fits_64 x1
  else
  if w_1 = 2 then
    (f_K_isVariable x1).bind fun v_8 =>
    if v_8 = 0 then
      some 0
    else
      (f_K_isVariable x2).bind fun v_11 =>
      if v_11 = 0 then
        some 0
      else
        some 1
  else
  if w_1 = 3 then
    if x1 < 1 then
      some 0
    else
      if 99 < x1 then
        some 0
      else
        some 1
  else
  if w_1 = 4 then
    f_K_fits_166 x0
  else
  if w_1 = 5 then
    if x1 < 0 then
      some 0
    else
      if 7 < x1 then
        some 0
      else
        (f_K_isVariable x2).bind fun v_25 =>
        if v_25 = 0 then
          some 0
        else
          some 1
  else
  if w_1 = 6 then
    (f_K_isVariable x2).bind fun v_29 =>
    (sr_z v_29).bind fun _ =>
    some v_29
  else
  if w_1 = 7 then
    if x1 < 0 then
      some 0
    else
      if 24 ≤ x1 then
        some 0
      else
        some 1
  else
  if w_1 = 8 then
    f_K_fits_166 x0
  else
  if w_1 = 9 then
    f_K_fits_166 x0
  else
  if w_1 = 10 then
    f_K_fits_64 x1
  else
  if w_1 = 11 then
    f_K_fits_64 x1
  else
  if w_1 = 12 then
    if x1 < 0 then
      some 0
    else
      if 102 < x1 then
        some 0
      else
        some 1
  else
  f_K_fits_166 x0
set_option maxHeartbeats 4000000 in
set_option maxRecDepth 100000 in
theorem k_K_fits_0 {x0 : Int32} {x1 : Int32} {x2 : Int32} {r : Int32} (X : sr_X D [] b_K_fits 3 R_K w_K_fits p s m args meth c A (some .boolean)) (Z : sr_Z D A s.heap [] H locs) (hl : lv_has ls 3 [(0, .int x0), (1, .int x1), (2, .int x2)]) (hf : f_K_fits x0 x1 x2 = some r) : W p l e (sr_rm 1 20) s m args below meth c H locs 0 0 (sr_Qi D [] below args s A [] r) (F0 m 0 ls []) := by
  have hx := X.1
  have hb := X.2.1
  have hK := X.2.2.2.2.2.2.1
  unfold f_K_fits at hf
  refine lv_iload_n hx hb d_K_fits_0 rfl (lv_at hl 0 rfl) ?_
  obtain ⟨w_1, e_2, hf⟩ := sr_b hf
  refine sr_nm e_2 ?_
  by_cases q_3 : w_1 = 1
  · have hf := sr_it q_3 hf
    rw [q_3]
    refine lv_tableIn (tgt := 64) hx hb d_K_fits_1 (by decide) (by decide) rfl rfl ?_
    exact k_K_fits_64 X Z (lv_sub hl [1] rfl) hf
  have hf := sr_if q_3 hf
  by_cases q_7 : w_1 = 2
  · have hf := sr_it q_7 hf
    rw [q_7]
    refine lv_tableIn (tgt := 69) hx hb d_K_fits_1 (by decide) (by decide) rfl rfl ?_
    refine lv_iload_n hx hb d_K_fits_69 rfl (lv_at hl 1 rfl) ?_
    obtain ⟨v_8, e_9, hf⟩ := sr_b hf
    refine sr_cSi (As := [.int x1]) (rest := []) X Z sr_cut_0 (va_K.sub hK [] rfl) (c_K_isVariable e_9) (cw_K_9 X.2.2.2.2.2.1 (by decide)) rfl hl rfl (Nat.le_of_ble_eq_true rfl) d_K_fits_70 (fun H locs Z => ?_)
    refine lv_if_eq (tgt := 87) hx hb d_K_fits_73 rfl (fun q_10 => ?_) (fun q_10 => ?_)
    · have hf := sr_it q_10 hf
      refine lv_iconst (v := 0) hx hb d_K_fits_87 (by decide) ?_
      cases hf
      exact sr_retz X Z (by decide) d_K_fits_88
    · have hf := sr_if q_10 hf
      refine lv_iload_n hx hb d_K_fits_76 rfl (lv_at hl 2 rfl) ?_
      obtain ⟨v_11, e_12, hf⟩ := sr_b hf
      refine sr_cSi (As := [.int x2]) (rest := []) X Z sr_cut_0 (va_K.sub hK [] rfl) (c_K_isVariable e_12) (cw_K_9 X.2.2.2.2.2.1 (by decide)) rfl hl rfl (Nat.le_of_ble_eq_true rfl) d_K_fits_77 (fun H locs Z => ?_)
      refine lv_if_eq (tgt := 87) hx hb d_K_fits_80 rfl (fun q_13 => ?_) (fun q_13 => ?_)
      · have hf := sr_it q_13 hf
        refine lv_iconst (v := 0) hx hb d_K_fits_87 (by decide) ?_
        cases hf
        exact sr_retz X Z (by decide) d_K_fits_88
      · have hf := sr_if q_13 hf
        refine lv_iconst (v := 1) hx hb d_K_fits_83 (by decide) ?_
        refine lv_goto (tgt := 88) hx hb d_K_fits_84 rfl ?_
        cases hf
        exact sr_retz X Z (by decide) d_K_fits_88
  have hf := sr_if q_7 hf
  by_cases q_14 : w_1 = 3
  · have hf := sr_it q_14 hf
    rw [q_14]
    refine lv_tableIn (tgt := 89) hx hb d_K_fits_1 (by decide) (by decide) rfl rfl ?_
    refine lv_iload_n hx hb d_K_fits_89 rfl (lv_at hl 1 rfl) ?_
    refine lv_iconst (v := 1) hx hb d_K_fits_90 (by decide) ?_
    refine lv_icmp_lt (tgt := 104) hx hb d_K_fits_91 rfl (fun q_15 => ?_) (fun q_15 => ?_)
    · have hf := sr_it q_15 hf
      refine lv_iconst (v := 0) hx hb d_K_fits_104 (by decide) ?_
      cases hf
      exact sr_retz X Z (by decide) d_K_fits_105
    · have hf := sr_if q_15 hf
      refine lv_iload_n hx hb d_K_fits_94 rfl (lv_at hl 1 rfl) ?_
      refine lv_bipush (v := 99) hx hb d_K_fits_95 (by decide) ?_
      refine lv_icmp_gt (tgt := 104) hx hb d_K_fits_97 rfl (fun q_16 => ?_) (fun q_16 => ?_)
      · have hf := sr_it q_16 hf
        refine lv_iconst (v := 0) hx hb d_K_fits_104 (by decide) ?_
        cases hf
        exact sr_retz X Z (by decide) d_K_fits_105
      · have hf := sr_if q_16 hf
        refine lv_iconst (v := 1) hx hb d_K_fits_100 (by decide) ?_
        refine lv_goto (tgt := 105) hx hb d_K_fits_101 rfl ?_
        cases hf
        exact sr_retz X Z (by decide) d_K_fits_105
  have hf := sr_if q_14 hf
  by_cases q_17 : w_1 = 4
  · have hf := sr_it q_17 hf
    rw [q_17]
    refine lv_tableIn (tgt := 166) hx hb d_K_fits_1 (by decide) (by decide) rfl rfl ?_
    exact k_K_fits_166 X Z (lv_sub hl [0] rfl) hf
  have hf := sr_if q_17 hf
  by_cases q_22 : w_1 = 5
  · have hf := sr_it q_22 hf
    rw [q_22]
    refine lv_tableIn (tgt := 106) hx hb d_K_fits_1 (by decide) (by decide) rfl rfl ?_
    refine lv_iload_n hx hb d_K_fits_106 rfl (lv_at hl 1 rfl) ?_
    refine lv_if_lt (tgt := 127) hx hb d_K_fits_107 rfl (fun q_23 => ?_) (fun q_23 => ?_)
    · have hf := sr_it q_23 hf
      refine lv_iconst (v := 0) hx hb d_K_fits_127 (by decide) ?_
      cases hf
      exact sr_retz X Z (by decide) d_K_fits_128
    · have hf := sr_if q_23 hf
      refine lv_iload_n hx hb d_K_fits_110 rfl (lv_at hl 1 rfl) ?_
      refine lv_bipush (v := 7) hx hb d_K_fits_111 (by decide) ?_
      refine lv_icmp_gt (tgt := 127) hx hb d_K_fits_113 rfl (fun q_24 => ?_) (fun q_24 => ?_)
      · have hf := sr_it q_24 hf
        refine lv_iconst (v := 0) hx hb d_K_fits_127 (by decide) ?_
        cases hf
        exact sr_retz X Z (by decide) d_K_fits_128
      · have hf := sr_if q_24 hf
        refine lv_iload_n hx hb d_K_fits_116 rfl (lv_at hl 2 rfl) ?_
        obtain ⟨v_25, e_26, hf⟩ := sr_b hf
        refine sr_cSi (As := [.int x2]) (rest := []) X Z sr_cut_0 (va_K.sub hK [] rfl) (c_K_isVariable e_26) (cw_K_9 X.2.2.2.2.2.1 (by decide)) rfl hl rfl (Nat.le_of_ble_eq_true rfl) d_K_fits_117 (fun H locs Z => ?_)
        refine lv_if_eq (tgt := 127) hx hb d_K_fits_120 rfl (fun q_27 => ?_) (fun q_27 => ?_)
        · have hf := sr_it q_27 hf
          refine lv_iconst (v := 0) hx hb d_K_fits_127 (by decide) ?_
          cases hf
          exact sr_retz X Z (by decide) d_K_fits_128
        · have hf := sr_if q_27 hf
          refine lv_iconst (v := 1) hx hb d_K_fits_123 (by decide) ?_
          refine lv_goto (tgt := 128) hx hb d_K_fits_124 rfl ?_
          cases hf
          exact sr_retz X Z (by decide) d_K_fits_128
  have hf := sr_if q_22 hf
  by_cases q_28 : w_1 = 6
  · have hf := sr_it q_28 hf
    rw [q_28]
    refine lv_tableIn (tgt := 129) hx hb d_K_fits_1 (by decide) (by decide) rfl rfl ?_
    refine lv_iload_n hx hb d_K_fits_129 rfl (lv_at hl 2 rfl) ?_
    obtain ⟨v_29, e_30, hf⟩ := sr_b hf
    refine sr_cSi (As := [.int x2]) (rest := []) X Z sr_cut_0 (va_K.sub hK [] rfl) (c_K_isVariable e_30) (cw_K_9 X.2.2.2.2.2.1 (by decide)) rfl hl rfl (Nat.le_of_ble_eq_true rfl) d_K_fits_130 (fun H locs Z => ?_)
    obtain ⟨_, e_31, hf⟩ := sr_b hf
    cases hf
    exact sr_retz X Z (sr_z_i e_31) d_K_fits_133
  have hf := sr_if q_28 hf
  by_cases q_32 : w_1 = 7
  · have hf := sr_it q_32 hf
    rw [q_32]
    refine lv_tableIn (tgt := 134) hx hb d_K_fits_1 (by decide) (by decide) rfl rfl ?_
    refine lv_iload_n hx hb d_K_fits_134 rfl (lv_at hl 1 rfl) ?_
    refine lv_if_lt (tgt := 148) hx hb d_K_fits_135 rfl (fun q_33 => ?_) (fun q_33 => ?_)
    · have hf := sr_it q_33 hf
      refine lv_iconst (v := 0) hx hb d_K_fits_148 (by decide) ?_
      cases hf
      exact sr_retz X Z (by decide) d_K_fits_149
    · have hf := sr_if q_33 hf
      refine lv_iload_n hx hb d_K_fits_138 rfl (lv_at hl 1 rfl) ?_
      refine lv_bipush (v := 24) hx hb d_K_fits_139 (by decide) ?_
      refine lv_icmp_ge (tgt := 148) hx hb d_K_fits_141 rfl (fun q_34 => ?_) (fun q_34 => ?_)
      · have hf := sr_it q_34 hf
        refine lv_iconst (v := 0) hx hb d_K_fits_148 (by decide) ?_
        cases hf
        exact sr_retz X Z (by decide) d_K_fits_149
      · have hf := sr_if q_34 hf
        refine lv_iconst (v := 1) hx hb d_K_fits_144 (by decide) ?_
        refine lv_goto (tgt := 149) hx hb d_K_fits_145 rfl ?_
        cases hf
        exact sr_retz X Z (by decide) d_K_fits_149
  have hf := sr_if q_32 hf
  by_cases q_35 : w_1 = 8
  · have hf := sr_it q_35 hf
    rw [q_35]
    refine lv_tableIn (tgt := 166) hx hb d_K_fits_1 (by decide) (by decide) rfl rfl ?_
    exact k_K_fits_166 X Z (lv_sub hl [0] rfl) hf
  have hf := sr_if q_35 hf
  by_cases q_36 : w_1 = 9
  · have hf := sr_it q_36 hf
    rw [q_36]
    refine lv_tableIn (tgt := 166) hx hb d_K_fits_1 (by decide) (by decide) rfl rfl ?_
    exact k_K_fits_166 X Z (lv_sub hl [0] rfl) hf
  have hf := sr_if q_36 hf
  by_cases q_37 : w_1 = 10
  · have hf := sr_it q_37 hf
    rw [q_37]
    refine lv_tableIn (tgt := 64) hx hb d_K_fits_1 (by decide) (by decide) rfl rfl ?_
    exact k_K_fits_64 X Z (lv_sub hl [1] rfl) hf
  have hf := sr_if q_37 hf
  by_cases q_38 : w_1 = 11
  · have hf := sr_it q_38 hf
    rw [q_38]
    refine lv_tableIn (tgt := 64) hx hb d_K_fits_1 (by decide) (by decide) rfl rfl ?_
    exact k_K_fits_64 X Z (lv_sub hl [1] rfl) hf
  have hf := sr_if q_38 hf
  by_cases q_39 : w_1 = 12
  · have hf := sr_it q_39 hf
    rw [q_39]
    refine lv_tableIn (tgt := 150) hx hb d_K_fits_1 (by decide) (by decide) rfl rfl ?_
    refine lv_iload_n hx hb d_K_fits_150 rfl (lv_at hl 1 rfl) ?_
    refine lv_if_lt (tgt := 164) hx hb d_K_fits_151 rfl (fun q_40 => ?_) (fun q_40 => ?_)
    · have hf := sr_it q_40 hf
      refine lv_iconst (v := 0) hx hb d_K_fits_164 (by decide) ?_
      cases hf
      exact sr_retz X Z (by decide) d_K_fits_165
    · have hf := sr_if q_40 hf
      refine lv_iload_n hx hb d_K_fits_154 rfl (lv_at hl 1 rfl) ?_
      refine lv_bipush (v := 102) hx hb d_K_fits_155 (by decide) ?_
      refine lv_icmp_gt (tgt := 164) hx hb d_K_fits_157 rfl (fun q_41 => ?_) (fun q_41 => ?_)
      · have hf := sr_it q_41 hf
        refine lv_iconst (v := 0) hx hb d_K_fits_164 (by decide) ?_
        cases hf
        exact sr_retz X Z (by decide) d_K_fits_165
      · have hf := sr_if q_41 hf
        refine lv_iconst (v := 1) hx hb d_K_fits_160 (by decide) ?_
        refine lv_goto (tgt := 165) hx hb d_K_fits_161 rfl ?_
        cases hf
        exact sr_retz X Z (by decide) d_K_fits_165
  have hf := sr_if q_39 hf
  have hout : w_1.toInt < 1 ∨ 12 < w_1.toInt := by
    have := sr_ne q_3 (k := 1) rfl
    have := sr_ne q_7 (k := 2) rfl
    have := sr_ne q_14 (k := 3) rfl
    have := sr_ne q_17 (k := 4) rfl
    have := sr_ne q_22 (k := 5) rfl
    have := sr_ne q_28 (k := 6) rfl
    have := sr_ne q_32 (k := 7) rfl
    have := sr_ne q_35 (k := 8) rfl
    have := sr_ne q_36 (k := 9) rfl
    have := sr_ne q_37 (k := 10) rfl
    have := sr_ne q_38 (k := 11) rfl
    have := sr_ne q_39 (k := 12) rfl
    omega
  refine lv_tableOut (tgt := 166) hx hb d_K_fits_1 hout rfl ?_
  exact k_K_fits_166 X Z (lv_sub hl [0] rfl) hf
end
set_option maxHeartbeats 4000000 in
set_option maxRecDepth 100000 in
theorem c_K_fits {l : Launch} {D : va_G}  {sz : Nat} {x0 : Int32} {x1 : Int32} {x2 : Int32} {r : Int32} (hf : f_K_fits x0 x1 x2 = some r) : sr_Ci l y_K_fits w_K_fits (sr_rm 1 20) D [] [] [] sz [.int x0, .int x1, .int x2] r := by
  refine Met.ofW (cc := b_K_fits) (maxL := 3) (ret := (some .boolean)) (by decide) rfl ?_
  intro p e s m args below meth c s₁ B hml hv
  obtain ⟨rfl, hsz, hP, hK, hD0⟩ := hv
  subst hsz
  have X : sr_X D [] b_K_fits 3 R_K w_K_fits p s m _ meth c (va_A [] s.heap.size) (some .boolean) := ⟨B.exec, B.bytes, hml, findClass_of_methodNamed B.named, B.notSynchronized, atoms_spec (ws := w_K_fits) B.pre, hK, fun q h => Or.inr h, B.returns⟩
  have Z : sr_Z D (va_A [] s.heap.size) s.heap [] s.heap [] := ⟨hP, hD0.self, va_S.rf⟩
  have hl := lv_entry ([.int x0, .int x1, .int x2] : List Value) (n := 3) (Nat.le_of_ble_eq_true rfl)
  rw [lg_entry_eq]
  exact k_K_fits_0 X Z hl hf
/-! P_isIn -/
theorem d_P_isIn_0 : decode b_P_isIn 0 = .ok (.iload_n 1, 1) := by decide +kernel
theorem d_P_isIn_1 : decode b_P_isIn 1 = .ok (.iload_n 0, 1) := by decide +kernel
theorem d_P_isIn_2 : decode b_P_isIn 2 = .ok (.ishr, 1) := by decide +kernel
theorem d_P_isIn_3 : decode b_P_isIn 3 = .ok (.iconst 1, 1) := by decide +kernel
theorem d_P_isIn_4 : decode b_P_isIn 4 = .ok (.iand, 1) := by decide +kernel
theorem d_P_isIn_5 : decode b_P_isIn 5 = .ok (.ifCond .eq 7, 3) := by decide +kernel
theorem d_P_isIn_8 : decode b_P_isIn 8 = .ok (.iconst 1, 1) := by decide +kernel
theorem d_P_isIn_9 : decode b_P_isIn 9 = .ok (.goto 4, 3) := by decide +kernel
theorem d_P_isIn_12 : decode b_P_isIn 12 = .ok (.iconst 0, 1) := by decide +kernel
theorem d_P_isIn_13 : decode b_P_isIn 13 = .ok (.ireturn, 1) := by decide +kernel
section
variable {p : Program} {l : Launch} {e : Env} {s : State} {m : MethodId} {args : Array Value} {below : List Frame} {meth : Method} {c : Code} {H : Heap} {locs : List Loc} {ls : Array Slot} {D : va_G} {A : Nat → Prop} {h o : Nat → Nat} {t v : Nat → ClassId}
def f_P_isIn (x0 : Int32) (x1 : Int32) : Option (Int32) :=
  if ((x1 >>> (x0 &&& 31)) &&& 1) = 0 then
    some 0
  else
    some 1
set_option maxHeartbeats 4000000 in
set_option maxRecDepth 100000 in
theorem k_P_isIn_0 {x0 : Int32} {x1 : Int32} {r : Int32} (X : sr_X D [] b_P_isIn 2 R_P w_P_isIn p s m args meth c A (some .boolean)) (Z : sr_Z D A s.heap [] H locs) (hl : lv_has ls 2 [(0, .int x0), (1, .int x1)]) (hf : f_P_isIn x0 x1 = some r) : W p l e (sr_rm 0 0) s m args below meth c H locs 0 0 (sr_Qi D [] below args s A [] r) (F0 m 0 ls []) := by
  have hx := X.1
  have hb := X.2.1
  have hK := X.2.2.2.2.2.2.1
  unfold f_P_isIn at hf
  refine lv_iload_n hx hb d_P_isIn_0 rfl (lv_at hl 1 rfl) ?_
  refine lv_iload_n hx hb d_P_isIn_1 rfl (lv_at hl 0 rfl) ?_
  refine lv_ishr hx hb d_P_isIn_2 ?_
  refine lv_iconst (v := 1) hx hb d_P_isIn_3 (by decide) ?_
  refine lv_iand hx hb d_P_isIn_4 ?_
  refine lv_if_eq (tgt := 12) hx hb d_P_isIn_5 rfl (fun q_1 => ?_) (fun q_1 => ?_)
  · have hf := sr_it q_1 hf
    refine lv_iconst (v := 0) hx hb d_P_isIn_12 (by decide) ?_
    cases hf
    exact sr_retz X Z (by decide) d_P_isIn_13
  · have hf := sr_if q_1 hf
    refine lv_iconst (v := 1) hx hb d_P_isIn_8 (by decide) ?_
    refine lv_goto (tgt := 13) hx hb d_P_isIn_9 rfl ?_
    cases hf
    exact sr_retz X Z (by decide) d_P_isIn_13
end
set_option maxHeartbeats 4000000 in
set_option maxRecDepth 100000 in
theorem c_P_isIn {l : Launch} {D : va_G}  {sz : Nat} {x0 : Int32} {x1 : Int32} {r : Int32} (hf : f_P_isIn x0 x1 = some r) : sr_Ci l y_P_isIn w_P_isIn (sr_rm 0 0) D [] [] [] sz [.int x0, .int x1] r := by
  refine Met.ofW (cc := b_P_isIn) (maxL := 2) (ret := (some .boolean)) (by decide) rfl ?_
  intro p e s m args below meth c s₁ B hml hv
  obtain ⟨rfl, hsz, hP, hK, hD0⟩ := hv
  subst hsz
  have X : sr_X D [] b_P_isIn 2 R_P w_P_isIn p s m _ meth c (va_A [] s.heap.size) (some .boolean) := ⟨B.exec, B.bytes, hml, findClass_of_methodNamed B.named, B.notSynchronized, atoms_spec (ws := w_P_isIn) B.pre, hK, fun q h => Or.inr h, B.returns⟩
  have Z : sr_Z D (va_A [] s.heap.size) s.heap [] s.heap [] := ⟨hP, hD0.self, va_S.rf⟩
  have hl := lv_entry ([.int x0, .int x1] : List Value) (n := 2) (Nat.le_of_ble_eq_true rfl)
  rw [lg_entry_eq]
  exact k_P_isIn_0 X Z hl hf
/-! R_mayHave -/
theorem d_R_mayHave_0 : decode b_R_mayHave 0 = .ok (.iload_n 0, 1) := by decide +kernel
theorem d_R_mayHave_1 : decode b_R_mayHave 1 = .ok (.tableswitch 73 8 12 #[35, 35, 46, 62, 62], 35) := by decide +kernel
theorem d_R_mayHave_36 : decode b_R_mayHave 36 = .ok (.iload_n 1, 1) := by decide +kernel
theorem d_R_mayHave_37 : decode b_R_mayHave 37 = .ok (.iconst 1, 1) := by decide +kernel
theorem d_R_mayHave_38 : decode b_R_mayHave 38 = .ok (.if_icmp .lt 7, 3) := by decide +kernel
theorem d_R_mayHave_41 : decode b_R_mayHave 41 = .ok (.iconst 1, 1) := by decide +kernel
theorem d_R_mayHave_42 : decode b_R_mayHave 42 = .ok (.goto 4, 3) := by decide +kernel
theorem d_R_mayHave_45 : decode b_R_mayHave 45 = .ok (.iconst 0, 1) := by decide +kernel
theorem d_R_mayHave_46 : decode b_R_mayHave 46 = .ok (.ireturn, 1) := by decide +kernel
theorem d_R_mayHave_47 : decode b_R_mayHave 47 = .ok (.iload_n 1, 1) := by decide +kernel
theorem d_R_mayHave_48 : decode b_R_mayHave 48 = .ok (.iconst 1, 1) := by decide +kernel
theorem d_R_mayHave_49 : decode b_R_mayHave 49 = .ok (.if_icmp .eq 8, 3) := by decide +kernel
theorem d_R_mayHave_52 : decode b_R_mayHave 52 = .ok (.iload_n 1, 1) := by decide +kernel
theorem d_R_mayHave_53 : decode b_R_mayHave 53 = .ok (.iconst 2, 1) := by decide +kernel
theorem d_R_mayHave_54 : decode b_R_mayHave 54 = .ok (.if_icmp .ne 7, 3) := by decide +kernel
theorem d_R_mayHave_57 : decode b_R_mayHave 57 = .ok (.iconst 1, 1) := by decide +kernel
theorem d_R_mayHave_58 : decode b_R_mayHave 58 = .ok (.goto 4, 3) := by decide +kernel
theorem d_R_mayHave_61 : decode b_R_mayHave 61 = .ok (.iconst 0, 1) := by decide +kernel
theorem d_R_mayHave_62 : decode b_R_mayHave 62 = .ok (.ireturn, 1) := by decide +kernel
theorem d_R_mayHave_63 : decode b_R_mayHave 63 = .ok (.iload_n 1, 1) := by decide +kernel
theorem d_R_mayHave_64 : decode b_R_mayHave 64 = .ok (.iconst 1, 1) := by decide +kernel
theorem d_R_mayHave_65 : decode b_R_mayHave 65 = .ok (.if_icmp .ne 7, 3) := by decide +kernel
theorem d_R_mayHave_68 : decode b_R_mayHave 68 = .ok (.iconst 1, 1) := by decide +kernel
theorem d_R_mayHave_69 : decode b_R_mayHave 69 = .ok (.goto 4, 3) := by decide +kernel
theorem d_R_mayHave_72 : decode b_R_mayHave 72 = .ok (.iconst 0, 1) := by decide +kernel
theorem d_R_mayHave_73 : decode b_R_mayHave 73 = .ok (.ireturn, 1) := by decide +kernel
theorem d_R_mayHave_74 : decode b_R_mayHave 74 = .ok (.iconst 1, 1) := by decide +kernel
theorem d_R_mayHave_75 : decode b_R_mayHave 75 = .ok (.ireturn, 1) := by decide +kernel
section
variable {p : Program} {l : Launch} {e : Env} {s : State} {m : MethodId} {args : Array Value} {below : List Frame} {meth : Method} {c : Code} {H : Heap} {locs : List Loc} {ls : Array Slot} {D : va_G} {A : Nat → Prop} {h o : Nat → Nat} {t v : Nat → ClassId}
def f_R_mayHave_36 (x1 : Int32) : Option (Int32) :=
  if x1 < 1 then
    some 0
  else
    some 1
set_option maxHeartbeats 4000000 in
set_option maxRecDepth 100000 in
theorem k_R_mayHave_36 {x1 : Int32} {r : Int32} (X : sr_X D [] b_R_mayHave 2 R_R w_R_mayHave p s m args meth c A (some .boolean)) (Z : sr_Z D A s.heap [] H locs) (hl : lv_has ls 2 [(1, .int x1)]) (hf : f_R_mayHave_36 x1 = some r) : W p l e (sr_rm 0 0) s m args below meth c H locs 0 0 (sr_Qi D [] below args s A [] r) (F0 m 36 ls []) := by
  have hx := X.1
  have hb := X.2.1
  have hK := X.2.2.2.2.2.2.1
  unfold f_R_mayHave_36 at hf
  refine lv_iload_n hx hb d_R_mayHave_36 rfl (lv_at hl 0 rfl) ?_
  refine lv_iconst (v := 1) hx hb d_R_mayHave_37 (by decide) ?_
  refine lv_icmp_lt (tgt := 45) hx hb d_R_mayHave_38 rfl (fun q_4 => ?_) (fun q_4 => ?_)
  · have hf := sr_it q_4 hf
    refine lv_iconst (v := 0) hx hb d_R_mayHave_45 (by decide) ?_
    cases hf
    exact sr_retz X Z (by decide) d_R_mayHave_46
  · have hf := sr_if q_4 hf
    refine lv_iconst (v := 1) hx hb d_R_mayHave_41 (by decide) ?_
    refine lv_goto (tgt := 46) hx hb d_R_mayHave_42 rfl ?_
    cases hf
    exact sr_retz X Z (by decide) d_R_mayHave_46
def f_R_mayHave_57 : Option (Int32) :=
  some 1
set_option maxHeartbeats 4000000 in
set_option maxRecDepth 100000 in
theorem k_R_mayHave_57 {r : Int32} (X : sr_X D [] b_R_mayHave 2 R_R w_R_mayHave p s m args meth c A (some .boolean)) (Z : sr_Z D A s.heap [] H locs) (hl : lv_has ls 2 []) (hf : f_R_mayHave_57 = some r) : W p l e (sr_rm 0 0) s m args below meth c H locs 0 0 (sr_Qi D [] below args s A [] r) (F0 m 57 ls []) := by
  have hx := X.1
  have hb := X.2.1
  have hK := X.2.2.2.2.2.2.1
  unfold f_R_mayHave_57 at hf
  refine lv_iconst (v := 1) hx hb d_R_mayHave_57 (by decide) ?_
  refine lv_goto (tgt := 62) hx hb d_R_mayHave_58 rfl ?_
  cases hf
  exact sr_retz X Z (by decide) d_R_mayHave_62
def f_R_mayHave_63 (x1 : Int32) : Option (Int32) :=
  if x1 = 1 then
    some 1
  else
    some 0
set_option maxHeartbeats 4000000 in
set_option maxRecDepth 100000 in
theorem k_R_mayHave_63 {x1 : Int32} {r : Int32} (X : sr_X D [] b_R_mayHave 2 R_R w_R_mayHave p s m args meth c A (some .boolean)) (Z : sr_Z D A s.heap [] H locs) (hl : lv_has ls 2 [(1, .int x1)]) (hf : f_R_mayHave_63 x1 = some r) : W p l e (sr_rm 0 0) s m args below meth c H locs 0 0 (sr_Qi D [] below args s A [] r) (F0 m 63 ls []) := by
  have hx := X.1
  have hb := X.2.1
  have hK := X.2.2.2.2.2.2.1
  unfold f_R_mayHave_63 at hf
  refine lv_iload_n hx hb d_R_mayHave_63 rfl (lv_at hl 0 rfl) ?_
  refine lv_iconst (v := 1) hx hb d_R_mayHave_64 (by decide) ?_
  refine lv_icmp_ne (tgt := 72) hx hb d_R_mayHave_65 rfl (fun q_10 => ?_) (fun q_10 => ?_)
  · have hf := sr_if q_10 hf
    refine lv_iconst (v := 0) hx hb d_R_mayHave_72 (by decide) ?_
    cases hf
    exact sr_retz X Z (by decide) d_R_mayHave_73
  · have hf := sr_it q_10 hf
    refine lv_iconst (v := 1) hx hb d_R_mayHave_68 (by decide) ?_
    refine lv_goto (tgt := 73) hx hb d_R_mayHave_69 rfl ?_
    cases hf
    exact sr_retz X Z (by decide) d_R_mayHave_73
def f_R_mayHave (x0 : Int32) (x1 : Int32) : Option (Int32) :=
  (some x0).bind fun w_1 =>
  if w_1 = 8 then
    f_R_mayHave_36 x1
  else
  if w_1 = 9 then
    f_R_mayHave_36 x1
  else
  if w_1 = 10 then
    if x1 = 1 then
      f_R_mayHave_57 
    else
      if x1 = 2 then
        f_R_mayHave_57 
      else
        some 0
  else
  if w_1 = 11 then
    f_R_mayHave_63 x1
  else
  if w_1 = 12 then
    f_R_mayHave_63 x1
  else
  some 1
set_option maxHeartbeats 4000000 in
set_option maxRecDepth 100000 in
theorem k_R_mayHave_0 {x0 : Int32} {x1 : Int32} {r : Int32} (X : sr_X D [] b_R_mayHave 2 R_R w_R_mayHave p s m args meth c A (some .boolean)) (Z : sr_Z D A s.heap [] H locs) (hl : lv_has ls 2 [(0, .int x0), (1, .int x1)]) (hf : f_R_mayHave x0 x1 = some r) : W p l e (sr_rm 0 0) s m args below meth c H locs 0 0 (sr_Qi D [] below args s A [] r) (F0 m 0 ls []) := by
  have hx := X.1
  have hb := X.2.1
  have hK := X.2.2.2.2.2.2.1
  unfold f_R_mayHave at hf
  refine lv_iload_n hx hb d_R_mayHave_0 rfl (lv_at hl 0 rfl) ?_
  obtain ⟨w_1, e_2, hf⟩ := sr_b hf
  refine sr_nm e_2 ?_
  by_cases q_3 : w_1 = 8
  · have hf := sr_it q_3 hf
    rw [q_3]
    refine lv_tableIn (tgt := 36) hx hb d_R_mayHave_1 (by decide) (by decide) rfl rfl ?_
    exact k_R_mayHave_36 X Z (lv_sub hl [1] rfl) hf
  have hf := sr_if q_3 hf
  by_cases q_5 : w_1 = 9
  · have hf := sr_it q_5 hf
    rw [q_5]
    refine lv_tableIn (tgt := 36) hx hb d_R_mayHave_1 (by decide) (by decide) rfl rfl ?_
    exact k_R_mayHave_36 X Z (lv_sub hl [1] rfl) hf
  have hf := sr_if q_5 hf
  by_cases q_6 : w_1 = 10
  · have hf := sr_it q_6 hf
    rw [q_6]
    refine lv_tableIn (tgt := 47) hx hb d_R_mayHave_1 (by decide) (by decide) rfl rfl ?_
    refine lv_iload_n hx hb d_R_mayHave_47 rfl (lv_at hl 1 rfl) ?_
    refine lv_iconst (v := 1) hx hb d_R_mayHave_48 (by decide) ?_
    refine lv_icmp_eq (tgt := 57) hx hb d_R_mayHave_49 rfl (fun q_7 => ?_) (fun q_7 => ?_)
    · have hf := sr_it q_7 hf
      exact k_R_mayHave_57 X Z (lv_sub hl [] rfl) hf
    · have hf := sr_if q_7 hf
      refine lv_iload_n hx hb d_R_mayHave_52 rfl (lv_at hl 1 rfl) ?_
      refine lv_iconst (v := 2) hx hb d_R_mayHave_53 (by decide) ?_
      refine lv_icmp_ne (tgt := 61) hx hb d_R_mayHave_54 rfl (fun q_8 => ?_) (fun q_8 => ?_)
      · have hf := sr_if q_8 hf
        refine lv_iconst (v := 0) hx hb d_R_mayHave_61 (by decide) ?_
        cases hf
        exact sr_retz X Z (by decide) d_R_mayHave_62
      · have hf := sr_it q_8 hf
        exact k_R_mayHave_57 X Z (lv_sub hl [] rfl) hf
  have hf := sr_if q_6 hf
  by_cases q_9 : w_1 = 11
  · have hf := sr_it q_9 hf
    rw [q_9]
    refine lv_tableIn (tgt := 63) hx hb d_R_mayHave_1 (by decide) (by decide) rfl rfl ?_
    exact k_R_mayHave_63 X Z (lv_sub hl [1] rfl) hf
  have hf := sr_if q_9 hf
  by_cases q_11 : w_1 = 12
  · have hf := sr_it q_11 hf
    rw [q_11]
    refine lv_tableIn (tgt := 63) hx hb d_R_mayHave_1 (by decide) (by decide) rfl rfl ?_
    exact k_R_mayHave_63 X Z (lv_sub hl [1] rfl) hf
  have hf := sr_if q_11 hf
  have hout : w_1.toInt < 8 ∨ 12 < w_1.toInt := by
    have := sr_ne q_3 (k := 8) rfl
    have := sr_ne q_5 (k := 9) rfl
    have := sr_ne q_6 (k := 10) rfl
    have := sr_ne q_9 (k := 11) rfl
    have := sr_ne q_11 (k := 12) rfl
    omega
  refine lv_tableOut (tgt := 74) hx hb d_R_mayHave_1 hout rfl ?_
  refine lv_iconst (v := 1) hx hb d_R_mayHave_74 (by decide) ?_
  cases hf
  exact sr_retz X Z (by decide) d_R_mayHave_75
end
set_option maxHeartbeats 4000000 in
set_option maxRecDepth 100000 in
theorem c_R_mayHave {l : Launch} {D : va_G}  {sz : Nat} {x0 : Int32} {x1 : Int32} {r : Int32} (hf : f_R_mayHave x0 x1 = some r) : sr_Ci l y_R_mayHave w_R_mayHave (sr_rm 0 0) D [] [] [] sz [.int x0, .int x1] r := by
  refine Met.ofW (cc := b_R_mayHave) (maxL := 2) (ret := (some .boolean)) (by decide) rfl ?_
  intro p e s m args below meth c s₁ B hml hv
  obtain ⟨rfl, hsz, hP, hK, hD0⟩ := hv
  subst hsz
  have X : sr_X D [] b_R_mayHave 2 R_R w_R_mayHave p s m _ meth c (va_A [] s.heap.size) (some .boolean) := ⟨B.exec, B.bytes, hml, findClass_of_methodNamed B.named, B.notSynchronized, atoms_spec (ws := w_R_mayHave) B.pre, hK, fun q h => Or.inr h, B.returns⟩
  have Z : sr_Z D (va_A [] s.heap.size) s.heap [] s.heap [] := ⟨hP, hD0.self, va_S.rf⟩
  have hl := lv_entry ([.int x0, .int x1] : List Value) (n := 2) (Nat.le_of_ble_eq_true rfl)
  rw [lg_entry_eq]
  exact k_R_mayHave_0 X Z hl hf
/-! R_beginning -/
theorem d_R_beginning_0 : decode b_R_beginning 0 = .ok (.iconst 2, 1) := by decide +kernel
theorem d_R_beginning_1 : decode b_R_beginning 1 = .ok (.iload_n 0, 1) := by decide +kernel
theorem d_R_beginning_2 : decode b_R_beginning 2 = .ok (.imul, 1) := by decide +kernel
theorem d_R_beginning_3 : decode b_R_beginning 3 = .ok (.ireturn, 1) := by decide +kernel
section
variable {p : Program} {l : Launch} {e : Env} {s : State} {m : MethodId} {args : Array Value} {below : List Frame} {meth : Method} {c : Code} {H : Heap} {locs : List Loc} {ls : Array Slot} {D : va_G} {A : Nat → Prop} {h o : Nat → Nat} {t v : Nat → ClassId}
def f_R_beginning (x0 : Int32) : Option (Int32) :=
  some (2 * x0)
set_option maxHeartbeats 4000000 in
set_option maxRecDepth 100000 in
theorem k_R_beginning_0 {x0 : Int32} {r : Int32} (X : sr_X D [] b_R_beginning 1 R_R w_R_beginning p s m args meth c A (some .int)) (Z : sr_Z D A s.heap [] H locs) (hl : lv_has ls 1 [(0, .int x0)]) (hf : f_R_beginning x0 = some r) : W p l e (sr_rm 0 0) s m args below meth c H locs 0 0 (sr_Qi D [] below args s A [] r) (F0 m 0 ls []) := by
  have hx := X.1
  have hb := X.2.1
  have hK := X.2.2.2.2.2.2.1
  unfold f_R_beginning at hf
  refine lv_iconst (v := 2) hx hb d_R_beginning_0 (by decide) ?_
  refine lv_iload_n hx hb d_R_beginning_1 rfl (lv_at hl 0 rfl) ?_
  refine lv_imul hx hb d_R_beginning_2 ?_
  cases hf
  exact sr_reti X Z d_R_beginning_3
end
set_option maxHeartbeats 4000000 in
set_option maxRecDepth 100000 in
theorem c_R_beginning {l : Launch} {D : va_G}  {sz : Nat} {x0 : Int32} {r : Int32} (hf : f_R_beginning x0 = some r) : sr_Ci l y_R_beginning w_R_beginning (sr_rm 0 0) D [] [] [] sz [.int x0] r := by
  refine Met.ofW (cc := b_R_beginning) (maxL := 1) (ret := (some .int)) (by decide) rfl ?_
  intro p e s m args below meth c s₁ B hml hv
  obtain ⟨rfl, hsz, hP, hK, hD0⟩ := hv
  subst hsz
  have X : sr_X D [] b_R_beginning 1 R_R w_R_beginning p s m _ meth c (va_A [] s.heap.size) (some .int) := ⟨B.exec, B.bytes, hml, findClass_of_methodNamed B.named, B.notSynchronized, atoms_spec (ws := w_R_beginning) B.pre, hK, fun q h => Or.inr h, B.returns⟩
  have Z : sr_Z D (va_A [] s.heap.size) s.heap [] s.heap [] := ⟨hP, hD0.self, va_S.rf⟩
  have hl := lv_entry ([.int x0] : List Value) (n := 1) (Nat.le_of_ble_eq_true rfl)
  rw [lg_entry_eq]
  exact k_R_beginning_0 X Z hl hf
/-! R_end -/
theorem d_R_end_0 : decode b_R_end 0 = .ok (.iconst 2, 1) := by decide +kernel
theorem d_R_end_1 : decode b_R_end 1 = .ok (.iload_n 0, 1) := by decide +kernel
theorem d_R_end_2 : decode b_R_end 2 = .ok (.imul, 1) := by decide +kernel
theorem d_R_end_3 : decode b_R_end 3 = .ok (.iconst 1, 1) := by decide +kernel
theorem d_R_end_4 : decode b_R_end 4 = .ok (.iadd, 1) := by decide +kernel
theorem d_R_end_5 : decode b_R_end 5 = .ok (.ireturn, 1) := by decide +kernel
section
variable {p : Program} {l : Launch} {e : Env} {s : State} {m : MethodId} {args : Array Value} {below : List Frame} {meth : Method} {c : Code} {H : Heap} {locs : List Loc} {ls : Array Slot} {D : va_G} {A : Nat → Prop} {h o : Nat → Nat} {t v : Nat → ClassId}
def f_R_end (x0 : Int32) : Option (Int32) :=
  some ((2 * x0) + 1)
set_option maxHeartbeats 4000000 in
set_option maxRecDepth 100000 in
theorem k_R_end_0 {x0 : Int32} {r : Int32} (X : sr_X D [] b_R_end 1 R_R w_R_end p s m args meth c A (some .int)) (Z : sr_Z D A s.heap [] H locs) (hl : lv_has ls 1 [(0, .int x0)]) (hf : f_R_end x0 = some r) : W p l e (sr_rm 0 0) s m args below meth c H locs 0 0 (sr_Qi D [] below args s A [] r) (F0 m 0 ls []) := by
  have hx := X.1
  have hb := X.2.1
  have hK := X.2.2.2.2.2.2.1
  unfold f_R_end at hf
  refine lv_iconst (v := 2) hx hb d_R_end_0 (by decide) ?_
  refine lv_iload_n hx hb d_R_end_1 rfl (lv_at hl 0 rfl) ?_
  refine lv_imul hx hb d_R_end_2 ?_
  refine lv_iconst (v := 1) hx hb d_R_end_3 (by decide) ?_
  refine lv_iadd hx hb d_R_end_4 ?_
  cases hf
  exact sr_reti X Z d_R_end_5
end
set_option maxHeartbeats 4000000 in
set_option maxRecDepth 100000 in
theorem c_R_end {l : Launch} {D : va_G}  {sz : Nat} {x0 : Int32} {r : Int32} (hf : f_R_end x0 = some r) : sr_Ci l y_R_end w_R_end (sr_rm 0 0) D [] [] [] sz [.int x0] r := by
  refine Met.ofW (cc := b_R_end) (maxL := 1) (ret := (some .int)) (by decide) rfl ?_
  intro p e s m args below meth c s₁ B hml hv
  obtain ⟨rfl, hsz, hP, hK, hD0⟩ := hv
  subst hsz
  have X : sr_X D [] b_R_end 1 R_R w_R_end p s m _ meth c (va_A [] s.heap.size) (some .int) := ⟨B.exec, B.bytes, hml, findClass_of_methodNamed B.named, B.notSynchronized, atoms_spec (ws := w_R_end) B.pre, hK, fun q h => Or.inr h, B.returns⟩
  have Z : sr_Z D (va_A [] s.heap.size) s.heap [] s.heap [] := ⟨hP, hD0.self, va_S.rf⟩
  have hl := lv_entry ([.int x0] : List Value) (n := 1) (Nat.le_of_ble_eq_true rfl)
  rw [lg_entry_eq]
  exact k_R_end_0 X Z hl hf
/-! R_bit -/
theorem d_R_bit_0 : decode b_R_bit 0 = .ok (.lconst 1, 1) := by decide +kernel
theorem d_R_bit_1 : decode b_R_bit 1 = .ok (.iload_n 0, 1) := by decide +kernel
theorem d_R_bit_2 : decode b_R_bit 2 = .ok (.lshl, 1) := by decide +kernel
theorem d_R_bit_3 : decode b_R_bit 3 = .ok (.lreturn, 1) := by decide +kernel
section
variable {p : Program} {l : Launch} {e : Env} {s : State} {m : MethodId} {args : Array Value} {below : List Frame} {meth : Method} {c : Code} {H : Heap} {locs : List Loc} {ls : Array Slot} {D : va_G} {A : Nat → Prop} {h o : Nat → Nat} {t v : Nat → ClassId}
def f_R_bit (x0 : Int32) : Option (Int64) :=
  some ((1 : Int64) <<< ((x0 : Int32).toInt64 &&& 63))
set_option maxHeartbeats 4000000 in
set_option maxRecDepth 100000 in
theorem k_R_bit_0 {x0 : Int32} {r : Int64} (X : sr_X D [] b_R_bit 1 R_R w_R_bit p s m args meth c A (some .long)) (Z : sr_Z D A s.heap [] H locs) (hl : lv_has ls 1 [(0, .int x0)]) (hf : f_R_bit x0 = some r) : W p l e (sr_rm 0 0) s m args below meth c H locs 0 0 (sr_Ql D [] below args s A [] r) (F0 m 0 ls []) := by
  have hx := X.1
  have hb := X.2.1
  have hK := X.2.2.2.2.2.2.1
  unfold f_R_bit at hf
  refine lv_lconst (v := 1) hx hb d_R_bit_0 (by decide) ?_
  refine lv_iload_n hx hb d_R_bit_1 rfl (lv_at hl 0 rfl) ?_
  refine lv_lshl (v := (1 : Int64) <<< ((x0 : Int32).toInt64 &&& 63)) hx hb d_R_bit_2 rfl ?_
  cases hf
  exact sr_retl X Z d_R_bit_3
end
set_option maxHeartbeats 4000000 in
set_option maxRecDepth 100000 in
theorem c_R_bit {l : Launch} {D : va_G}  {sz : Nat} {x0 : Int32} {r : Int64} (hf : f_R_bit x0 = some r) : sr_Cl l y_R_bit w_R_bit (sr_rm 0 0) D [] [] [] sz [.int x0] r := by
  refine Met.ofW (cc := b_R_bit) (maxL := 1) (ret := (some .long)) (by decide) rfl ?_
  intro p e s m args below meth c s₁ B hml hv
  obtain ⟨rfl, hsz, hP, hK, hD0⟩ := hv
  subst hsz
  have X : sr_X D [] b_R_bit 1 R_R w_R_bit p s m _ meth c (va_A [] s.heap.size) (some .long) := ⟨B.exec, B.bytes, hml, findClass_of_methodNamed B.named, B.notSynchronized, atoms_spec (ws := w_R_bit) B.pre, hK, fun q h => Or.inr h, B.returns⟩
  have Z : sr_Z D (va_A [] s.heap.size) s.heap [] s.heap [] := ⟨hP, hD0.self, va_S.rf⟩
  have hl := lv_entry ([.int x0] : List Value) (n := 1) (Nat.le_of_ble_eq_true rfl)
  rw [lg_entry_eq]
  exact k_R_bit_0 X Z hl hf
/-! T_isActive -/
theorem d_T_isActive_0 : decode b_T_isActive 0 = .ok (.iload_n 0, 1) := by decide +kernel
theorem d_T_isActive_1 : decode b_T_isActive 1 = .ok (.iconst 1, 1) := by decide +kernel
theorem d_T_isActive_2 : decode b_T_isActive 2 = .ok (.if_icmp .lt 13, 3) := by decide +kernel
theorem d_T_isActive_5 : decode b_T_isActive 5 = .ok (.iload_n 0, 1) := by decide +kernel
theorem d_T_isActive_6 : decode b_T_isActive 6 = .ok (.bipush 7, 2) := by decide +kernel
theorem d_T_isActive_8 : decode b_T_isActive 8 = .ok (.if_icmp .gt 7, 3) := by decide +kernel
theorem d_T_isActive_11 : decode b_T_isActive 11 = .ok (.iconst 1, 1) := by decide +kernel
theorem d_T_isActive_12 : decode b_T_isActive 12 = .ok (.goto 4, 3) := by decide +kernel
theorem d_T_isActive_15 : decode b_T_isActive 15 = .ok (.iconst 0, 1) := by decide +kernel
theorem d_T_isActive_16 : decode b_T_isActive 16 = .ok (.ireturn, 1) := by decide +kernel
section
variable {p : Program} {l : Launch} {e : Env} {s : State} {m : MethodId} {args : Array Value} {below : List Frame} {meth : Method} {c : Code} {H : Heap} {locs : List Loc} {ls : Array Slot} {D : va_G} {A : Nat → Prop} {h o : Nat → Nat} {t v : Nat → ClassId}
def f_T_isActive (x0 : Int32) : Option (Int32) :=
  if x0 < 1 then
    some 0
  else
    if 7 < x0 then
      some 0
    else
      some 1
set_option maxHeartbeats 4000000 in
set_option maxRecDepth 100000 in
theorem k_T_isActive_0 {x0 : Int32} {r : Int32} (X : sr_X D [] b_T_isActive 1 R_T w_T_isActive p s m args meth c A (some .boolean)) (Z : sr_Z D A s.heap [] H locs) (hl : lv_has ls 1 [(0, .int x0)]) (hf : f_T_isActive x0 = some r) : W p l e (sr_rm 0 0) s m args below meth c H locs 0 0 (sr_Qi D [] below args s A [] r) (F0 m 0 ls []) := by
  have hx := X.1
  have hb := X.2.1
  have hK := X.2.2.2.2.2.2.1
  unfold f_T_isActive at hf
  refine lv_iload_n hx hb d_T_isActive_0 rfl (lv_at hl 0 rfl) ?_
  refine lv_iconst (v := 1) hx hb d_T_isActive_1 (by decide) ?_
  refine lv_icmp_lt (tgt := 15) hx hb d_T_isActive_2 rfl (fun q_1 => ?_) (fun q_1 => ?_)
  · have hf := sr_it q_1 hf
    refine lv_iconst (v := 0) hx hb d_T_isActive_15 (by decide) ?_
    cases hf
    exact sr_retz X Z (by decide) d_T_isActive_16
  · have hf := sr_if q_1 hf
    refine lv_iload_n hx hb d_T_isActive_5 rfl (lv_at hl 0 rfl) ?_
    refine lv_bipush (v := 7) hx hb d_T_isActive_6 (by decide) ?_
    refine lv_icmp_gt (tgt := 15) hx hb d_T_isActive_8 rfl (fun q_2 => ?_) (fun q_2 => ?_)
    · have hf := sr_it q_2 hf
      refine lv_iconst (v := 0) hx hb d_T_isActive_15 (by decide) ?_
      cases hf
      exact sr_retz X Z (by decide) d_T_isActive_16
    · have hf := sr_if q_2 hf
      refine lv_iconst (v := 1) hx hb d_T_isActive_11 (by decide) ?_
      refine lv_goto (tgt := 16) hx hb d_T_isActive_12 rfl ?_
      cases hf
      exact sr_retz X Z (by decide) d_T_isActive_16
end
set_option maxHeartbeats 4000000 in
set_option maxRecDepth 100000 in
theorem c_T_isActive {l : Launch} {D : va_G}  {sz : Nat} {x0 : Int32} {r : Int32} (hf : f_T_isActive x0 = some r) : sr_Ci l y_T_isActive w_T_isActive (sr_rm 0 0) D [] [] [] sz [.int x0] r := by
  refine Met.ofW (cc := b_T_isActive) (maxL := 1) (ret := (some .boolean)) (by decide) rfl ?_
  intro p e s m args below meth c s₁ B hml hv
  obtain ⟨rfl, hsz, hP, hK, hD0⟩ := hv
  subst hsz
  have X : sr_X D [] b_T_isActive 1 R_T w_T_isActive p s m _ meth c (va_A [] s.heap.size) (some .boolean) := ⟨B.exec, B.bytes, hml, findClass_of_methodNamed B.named, B.notSynchronized, atoms_spec (ws := w_T_isActive) B.pre, hK, fun q h => Or.inr h, B.returns⟩
  have Z : sr_Z D (va_A [] s.heap.size) s.heap [] s.heap [] := ⟨hP, hD0.self, va_S.rf⟩
  have hl := lv_entry ([.int x0] : List Value) (n := 1) (Nat.le_of_ble_eq_true rfl)
  rw [lg_entry_eq]
  exact k_T_isActive_0 X Z hl hf
