/-! M_skip -/
theorem d_M_skip_0 : decode b_M_skip 0 = .ok (.aload_n 0, 1) := by decide +kernel
theorem d_M_skip_1 : decode b_M_skip 1 = .ok (.iload_n 1, 1) := by decide +kernel
theorem d_M_skip_2 : decode b_M_skip 2 = .ok (.bipush 9, 2) := by decide +kernel
theorem d_M_skip_4 : decode b_M_skip 4 = .ok (.invokevirtual 183, 3) := by decide +kernel
theorem d_M_skip_7 : decode b_M_skip 7 = .ok (.aload_n 0, 1) := by decide +kernel
theorem d_M_skip_8 : decode b_M_skip 8 = .ok (.iconst 3, 1) := by decide +kernel
theorem d_M_skip_9 : decode b_M_skip 9 = .ok (.iload_n 1, 1) := by decide +kernel
theorem d_M_skip_10 : decode b_M_skip 10 = .ok (.invokevirtual 186, 3) := by decide +kernel
theorem d_M_skip_13 : decode b_M_skip 13 = .ok (.aload_n 0, 1) := by decide +kernel
theorem d_M_skip_14 : decode b_M_skip 14 = .ok (.iload_n 1, 1) := by decide +kernel
theorem d_M_skip_15 : decode b_M_skip 15 = .ok (.iconst 1, 1) := by decide +kernel
theorem d_M_skip_16 : decode b_M_skip 16 = .ok (.invokevirtual 189, 3) := by decide +kernel
theorem d_M_skip_19 : decode b_M_skip 19 = .ok (.return_, 1) := by decide +kernel
section
variable {p : Program} {l : Launch} {e : Env} {s : State} {m : MethodId} {args : Array Value} {below : List Frame} {meth : Method} {c : Code} {H : Heap} {locs : List Loc} {ls : Array Slot} {D : va_G} {A : Nat → Prop} {h o : Nat → Nat} {t v : Nat → ClassId}
def f_M_skip (x1 : Int32) (u0 : St) : Option (St) :=
  (f_M_put x1 9 u0).bind fun u_1 =>
  (f_M_write 3 x1 u_1).bind fun u_3 =>
  (f_M_setLinks x1 1 u_3).bind fun u_5 =>
  some u_5
set_option maxHeartbeats 4000000 in
set_option maxRecDepth 100000 in
theorem k_M_skip_0 {x1 : Int32} {u0 : St} {u' : St} (X : sr_X D (tM t) b_M_skip 2 R_M w_M_skip p s m args meth c A none) (Z : sr_Z D A s.heap (wM h t u0) H locs) (hl : lv_has ls 2 [(0, .ref (h 0)), (1, .int x1)]) (hf : f_M_skip x1 u0 = some u') : W p l e (sr_rm 2 48) s m args below meth c H locs 0 0 (sr_Qv D (tM t) below args s A (wM h t u')) (F0 m 0 ls []) := by
  have hx := X.1
  have hb := X.2.1
  have hK := X.2.2.2.2.2.2.1
  unfold f_M_skip at hf
  refine lv_aload_n hx hb d_M_skip_0 rfl (lv_at hl 0 rfl) ?_
  refine lv_iload_n hx hb d_M_skip_1 rfl (lv_at hl 1 rfl) ?_
  refine lv_bipush (v := 9) hx hb d_M_skip_2 (by decide) ?_
  obtain ⟨u_1, e_2, hf⟩ := sr_b hf
  refine sr_cVv (As := [.int x1, .int 9]) (rest := []) X Z sr_cut_self hK (c_M_put e_2) (cw_M_183 X.2.2.2.2.2.1 (by decide)) 0 rfl rfl rfl hl rfl (Nat.le_of_ble_eq_true rfl) d_M_skip_4 (fun H locs Z => ?_)
  refine lv_aload_n hx hb d_M_skip_7 rfl (lv_at hl 0 rfl) ?_
  refine lv_iconst (v := 3) hx hb d_M_skip_8 (by decide) ?_
  refine lv_iload_n hx hb d_M_skip_9 rfl (lv_at hl 1 rfl) ?_
  obtain ⟨u_3, e_4, hf⟩ := sr_b hf
  refine sr_cVv (As := [.int 3, .int x1]) (rest := []) X Z sr_cut_self hK (c_M_write e_4) (cw_M_186 X.2.2.2.2.2.1 (by decide)) 0 rfl rfl rfl hl rfl (Nat.le_of_ble_eq_true rfl) d_M_skip_10 (fun H locs Z => ?_)
  refine lv_aload_n hx hb d_M_skip_13 rfl (lv_at hl 0 rfl) ?_
  refine lv_iload_n hx hb d_M_skip_14 rfl (lv_at hl 1 rfl) ?_
  refine lv_iconst (v := 1) hx hb d_M_skip_15 (by decide) ?_
  obtain ⟨u_5, e_6, hf⟩ := sr_b hf
  refine sr_cVv (As := [.int x1, .int 1]) (rest := []) X Z sr_cut_self hK (c_M_setLinks e_6) (cw_M_189 X.2.2.2.2.2.1 (by decide)) 0 rfl rfl rfl hl rfl (Nat.le_of_ble_eq_true rfl) d_M_skip_16 (fun H locs Z => ?_)
  cases hf
  exact sr_retv X Z d_M_skip_19
end
set_option maxHeartbeats 4000000 in
set_option maxRecDepth 100000 in
theorem c_M_skip {l : Launch} {D : va_G} {h : Nat → Nat} {t : Nat → ClassId} {sz : Nat} {x1 : Int32} {u0 : St} {u' : St} (hf : f_M_skip x1 u0 = some u') : sr_Cv l y_M_skip w_M_skip (sr_rm 2 48) D (tM t) (wM h t u0) (wM h t u') sz [.ref (h 0), .int x1] := by
  refine Met.ofW (cc := b_M_skip) (maxL := 2) (ret := none) (by decide) rfl ?_
  intro p e s m args below meth c s₁ B hml hv
  obtain ⟨rfl, hsz, hP, hK, hD0⟩ := hv
  subst hsz
  have X : sr_X D (tM t) b_M_skip 2 R_M w_M_skip p s m _ meth c (va_A (wM h t u0) s.heap.size) none := ⟨B.exec, B.bytes, hml, findClass_of_methodNamed B.named, B.notSynchronized, atoms_spec (ws := w_M_skip) B.pre, hK, fun q h => Or.inr h, B.returns⟩
  have Z : sr_Z D (va_A (wM h t u0) s.heap.size) s.heap (wM h t u0) s.heap [] := ⟨hP, hD0.self, va_S.rf⟩
  have hl := lv_entry ([.ref (h 0), .int x1] : List Value) (n := 2) (Nat.le_of_ble_eq_true rfl)
  rw [lg_entry_eq]
  exact k_M_skip_0 X Z hl hf
/-! M_carry -/
theorem d_M_carry_0 : decode b_M_carry 0 = .ok (.iconst 0, 1) := by decide +kernel
theorem d_M_carry_1 : decode b_M_carry 1 = .ok (.istore_n 3, 1) := by decide +kernel
theorem d_M_carry_2 : decode b_M_carry 2 = .ok (.iload_n 3, 1) := by decide +kernel
theorem d_M_carry_3 : decode b_M_carry 3 = .ok (.aload_n 0, 1) := by decide +kernel
theorem d_M_carry_4 : decode b_M_carry 4 = .ok (.getfield 74, 3) := by decide +kernel
theorem d_M_carry_7 : decode b_M_carry 7 = .ok (.aload_n 0, 1) := by decide +kernel
theorem d_M_carry_8 : decode b_M_carry 8 = .ok (.getfield 168, 3) := by decide +kernel
theorem d_M_carry_11 : decode b_M_carry 11 = .ok (.iaload, 1) := by decide +kernel
theorem d_M_carry_12 : decode b_M_carry 12 = .ok (.if_icmp .ge 42, 3) := by decide +kernel
theorem d_M_carry_15 : decode b_M_carry 15 = .ok (.aload_n 0, 1) := by decide +kernel
theorem d_M_carry_16 : decode b_M_carry 16 = .ok (.getfield 83, 3) := by decide +kernel
theorem d_M_carry_19 : decode b_M_carry 19 = .ok (.bipush 16, 2) := by decide +kernel
theorem d_M_carry_21 : decode b_M_carry 21 = .ok (.aload_n 0, 1) := by decide +kernel
theorem d_M_carry_22 : decode b_M_carry 22 = .ok (.getfield 168, 3) := by decide +kernel
theorem d_M_carry_25 : decode b_M_carry 25 = .ok (.imul, 1) := by decide +kernel
theorem d_M_carry_26 : decode b_M_carry 26 = .ok (.iload_n 3, 1) := by decide +kernel
theorem d_M_carry_27 : decode b_M_carry 27 = .ok (.iadd, 1) := by decide +kernel
theorem d_M_carry_28 : decode b_M_carry 28 = .ok (.iaload, 1) := by decide +kernel
theorem d_M_carry_29 : decode b_M_carry 29 = .ok (.iload_n 1, 1) := by decide +kernel
theorem d_M_carry_30 : decode b_M_carry 30 = .ok (.if_icmp .ne 18, 3) := by decide +kernel
theorem d_M_carry_33 : decode b_M_carry 33 = .ok (.aload_n 0, 1) := by decide +kernel
theorem d_M_carry_34 : decode b_M_carry 34 = .ok (.getfield 83, 3) := by decide +kernel
theorem d_M_carry_37 : decode b_M_carry 37 = .ok (.bipush 16, 2) := by decide +kernel
theorem d_M_carry_39 : decode b_M_carry 39 = .ok (.aload_n 0, 1) := by decide +kernel
theorem d_M_carry_40 : decode b_M_carry 40 = .ok (.getfield 168, 3) := by decide +kernel
theorem d_M_carry_43 : decode b_M_carry 43 = .ok (.imul, 1) := by decide +kernel
theorem d_M_carry_44 : decode b_M_carry 44 = .ok (.iload_n 3, 1) := by decide +kernel
theorem d_M_carry_45 : decode b_M_carry 45 = .ok (.iadd, 1) := by decide +kernel
theorem d_M_carry_46 : decode b_M_carry 46 = .ok (.iload_n 2, 1) := by decide +kernel
theorem d_M_carry_47 : decode b_M_carry 47 = .ok (.iastore, 1) := by decide +kernel
theorem d_M_carry_48 : decode b_M_carry 48 = .ok (.iinc 3 1, 3) := by decide +kernel
theorem d_M_carry_51 : decode b_M_carry 51 = .ok (.goto (-49), 3) := by decide +kernel
theorem d_M_carry_54 : decode b_M_carry 54 = .ok (.return_, 1) := by decide +kernel
section
variable {p : Program} {l : Launch} {e : Env} {s : State} {m : MethodId} {args : Array Value} {below : List Frame} {meth : Method} {c : Code} {H : Heap} {locs : List Loc} {ls : Array Slot} {D : va_G} {A : Nat → Prop} {h o : Nat → Nat} {t v : Nat → ClassId}
def f_M_carry_48 (k2 : Int32 → Int32 → Int32 → St → Option (St)) (x1 : Int32) (x2 : Int32) (x3 : Int32) (u0 : St) : Option (St) :=
  k2 x1 x2 (x3 + 1) u0
set_option maxHeartbeats 4000000 in
set_option maxRecDepth 100000 in
theorem k_M_carry_48 {k2 : Int32 → Int32 → Int32 → St → Option (St)} {x1 : Int32} {x2 : Int32} {x3 : Int32} {u0 : St} {u' : St} (X : sr_X D (tM t) b_M_carry 4 R_M w_M_carry p s m args meth c A none) (hk2 : ∀ (x1 : Int32) (x2 : Int32) (x3 : Int32) (u0 : St) (H : Heap) (locs : List Loc) (ls : Array Slot), sr_Z D A s.heap (wM h t u0) H locs → lv_has ls 4 [(0, .ref (h 0)), (1, .int x1), (2, .int x2), (3, .int x3)] → k2 x1 x2 x3 u0 = some u' → W p l e (sr_rm 0 0) s m args below meth c H locs 0 0 (sr_Qv D (tM t) below args s A (wM h t u')) (F0 m 2 ls [])) (Z : sr_Z D A s.heap (wM h t u0) H locs) (hl : lv_has ls 4 [(0, .ref (h 0)), (1, .int x1), (2, .int x2), (3, .int x3)]) (hf : f_M_carry_48 k2 x1 x2 x3 u0 = some u') : W p l e (sr_rm 0 0) s m args below meth c H locs 0 0 (sr_Qv D (tM t) below args s A (wM h t u')) (F0 m 48 ls []) := by
  have hx := X.1
  have hb := X.2.1
  have hK := X.2.2.2.2.2.2.1
  unfold f_M_carry_48 at hf
  refine lv_iinc (k := 3) (v := x3 + 1) (lv' := [(3, .int (x3 + 1)), (0, .ref (h 0)), (1, .int x1), (2, .int x2)]) hx hb d_M_carry_48 hl rfl rfl (by decide) rfl (fun ls hl => ?_)
  refine lv_goto (tgt := 2) hx hb d_M_carry_51 rfl ?_
  exact hk2 x1 x2 (x3 + 1) u0 _ _ _ Z (lv_sub hl [1, 2, 3, 0] rfl) hf
def f_M_carry_2 (k2 : Int32 → Int32 → Int32 → St → Option (St)) (x1 : Int32) (x2 : Int32) (x3 : Int32) (u0 : St) : Option (St) :=
  (sr_ald 8 (u0 27) (u0 33 0)).bind fun v_1 =>
  if v_1 ≤ x3 then
    some u0
  else
    (sr_ald 128 (u0 30) ((16 * (u0 33 0)) + x3)).bind fun v_4 =>
    if v_4 = x1 then
      (sr_ast 128 u0 30 ((16 * (u0 33 0)) + x3) x2).bind fun u_7 =>
      f_M_carry_48 k2 x1 x2 x3 u_7
    else
      f_M_carry_48 k2 x1 x2 x3 u0
set_option maxHeartbeats 4000000 in
set_option maxRecDepth 100000 in
theorem k_M_carry_2 {k2 : Int32 → Int32 → Int32 → St → Option (St)} {x1 : Int32} {x2 : Int32} {x3 : Int32} {u0 : St} {u' : St} (X : sr_X D (tM t) b_M_carry 4 R_M w_M_carry p s m args meth c A none) (hk2 : ∀ (x1 : Int32) (x2 : Int32) (x3 : Int32) (u0 : St) (H : Heap) (locs : List Loc) (ls : Array Slot), sr_Z D A s.heap (wM h t u0) H locs → lv_has ls 4 [(0, .ref (h 0)), (1, .int x1), (2, .int x2), (3, .int x3)] → k2 x1 x2 x3 u0 = some u' → W p l e (sr_rm 0 0) s m args below meth c H locs 0 0 (sr_Qv D (tM t) below args s A (wM h t u')) (F0 m 2 ls [])) (Z : sr_Z D A s.heap (wM h t u0) H locs) (hl : lv_has ls 4 [(0, .ref (h 0)), (1, .int x1), (2, .int x2), (3, .int x3)]) (hf : f_M_carry_2 k2 x1 x2 x3 u0 = some u') : W p l e (sr_rm 0 0) s m args below meth c H locs 0 0 (sr_Qv D (tM t) below args s A (wM h t u')) (F0 m 2 ls []) := by
  have hx := X.1
  have hb := X.2.1
  have hK := X.2.2.2.2.2.2.1
  unfold f_M_carry_2 at hf
  refine lv_iload_n hx hb d_M_carry_2 rfl (lv_at hl 3 rfl) ?_
  refine lv_aload_n hx hb d_M_carry_3 rfl (lv_at hl 0 rfl) ?_
  refine g_M_74_M X Z d_M_carry_4 ?_
  refine lv_aload_n hx hb d_M_carry_7 rfl (lv_at hl 0 rfl) ?_
  refine g_M_168_M X Z d_M_carry_8 ?_
  obtain ⟨v_1, e_2, hf⟩ := sr_b hf
  refine sr_iald hx hb hK Z 22 21 rfl rfl e_2 d_M_carry_11 ?_
  refine lv_icmp_ge (tgt := 54) hx hb d_M_carry_12 rfl (fun q_3 => ?_) (fun q_3 => ?_)
  · have hf := sr_it q_3 hf
    cases hf
    exact sr_retv X Z d_M_carry_54
  · have hf := sr_if q_3 hf
    refine lv_aload_n hx hb d_M_carry_15 rfl (lv_at hl 0 rfl) ?_
    refine g_M_83_M X Z d_M_carry_16 ?_
    refine lv_bipush (v := 16) hx hb d_M_carry_19 (by decide) ?_
    refine lv_aload_n hx hb d_M_carry_21 rfl (lv_at hl 0 rfl) ?_
    refine g_M_168_M X Z d_M_carry_22 ?_
    refine lv_imul hx hb d_M_carry_25 ?_
    refine lv_iload_n hx hb d_M_carry_26 rfl (lv_at hl 3 rfl) ?_
    refine lv_iadd hx hb d_M_carry_27 ?_
    obtain ⟨v_4, e_5, hf⟩ := sr_b hf
    refine sr_iald hx hb hK Z 25 24 rfl rfl e_5 d_M_carry_28 ?_
    refine lv_iload_n hx hb d_M_carry_29 rfl (lv_at hl 1 rfl) ?_
    refine lv_icmp_ne (tgt := 48) hx hb d_M_carry_30 rfl (fun q_6 => ?_) (fun q_6 => ?_)
    · have hf := sr_if q_6 hf
      exact k_M_carry_48 X hk2 Z (lv_sub hl [0, 1, 2, 3] rfl) hf
    · have hf := sr_it q_6 hf
      refine lv_aload_n hx hb d_M_carry_33 rfl (lv_at hl 0 rfl) ?_
      refine g_M_83_M X Z d_M_carry_34 ?_
      refine lv_bipush (v := 16) hx hb d_M_carry_37 (by decide) ?_
      refine lv_aload_n hx hb d_M_carry_39 rfl (lv_at hl 0 rfl) ?_
      refine g_M_168_M X Z d_M_carry_40 ?_
      refine lv_imul hx hb d_M_carry_43 ?_
      refine lv_iload_n hx hb d_M_carry_44 rfl (lv_at hl 3 rfl) ?_
      refine lv_iadd hx hb d_M_carry_45 ?_
      refine lv_iload_n hx hb d_M_carry_46 rfl (lv_at hl 2 rfl) ?_
      obtain ⟨u_7, e_8, hf⟩ := sr_b hf
      refine sr_iast (wf := (fun q => (wM h t q))) hx hb hK Z 25 24 rfl rfl e_8 (fun _ => rfl) d_M_carry_47 (fun H locs Z => ?_)
      exact k_M_carry_48 X hk2 Z (lv_sub hl [0, 1, 2, 3] rfl) hf
def f_M_carry_2_it : Nat → Int32 → Int32 → Int32 → St → Option (St)
  | 0 => fun _ _ _ _ => none
  | n + 1 => fun x1 x2 x3 u0 => f_M_carry_2 (f_M_carry_2_it n) x1 x2 x3 u0
set_option maxHeartbeats 4000000 in
set_option maxRecDepth 100000 in
theorem k_M_carry_2_it {u' : St} (X : sr_X D (tM t) b_M_carry 4 R_M w_M_carry p s m args meth c A none) (n : Nat) : ∀ {x1 : Int32} {x2 : Int32} {x3 : Int32} {u0 : St} {H : Heap} {locs : List Loc} {ls : Array Slot}, sr_Z D A s.heap (wM h t u0) H locs → lv_has ls 4 [(0, .ref (h 0)), (1, .int x1), (2, .int x2), (3, .int x3)] → f_M_carry_2_it n x1 x2 x3 u0 = some u' → W p l e (sr_rm 0 0) s m args below meth c H locs 0 0 (sr_Qv D (tM t) below args s A (wM h t u')) (F0 m 2 ls []) := by
  induction n with
  | zero => intro x1 x2 x3 u0 H locs ls Z hl hf; exact absurd hf (by simp [f_M_carry_2_it])
  | succ n ih =>
    intro x1 x2 x3 u0 H locs ls Z hl hf
    exact k_M_carry_2 X (fun x1 x2 x3 u0 H locs ls Z hl hf => ih Z hl hf) Z hl hf
def f_M_carry (x1 : Int32) (x2 : Int32) (u0 : St) : Option (St) :=
  f_M_carry_2_it 60 x1 x2 0 u0
set_option maxHeartbeats 4000000 in
set_option maxRecDepth 100000 in
theorem k_M_carry_0 {x1 : Int32} {x2 : Int32} {u0 : St} {u' : St} (X : sr_X D (tM t) b_M_carry 4 R_M w_M_carry p s m args meth c A none) (Z : sr_Z D A s.heap (wM h t u0) H locs) (hl : lv_has ls 4 [(0, .ref (h 0)), (1, .int x1), (2, .int x2)]) (hf : f_M_carry x1 x2 u0 = some u') : W p l e (sr_rm 0 0) s m args below meth c H locs 0 0 (sr_Qv D (tM t) below args s A (wM h t u')) (F0 m 0 ls []) := by
  have hx := X.1
  have hb := X.2.1
  have hK := X.2.2.2.2.2.2.1
  unfold f_M_carry at hf
  refine lv_iconst (v := 0) hx hb d_M_carry_0 (by decide) ?_
  refine lv_istore_n (lv' := [(3, .int 0), (0, .ref (h 0)), (1, .int x1), (2, .int x2)]) hx hb d_M_carry_1 rfl hl (by decide) rfl (fun ls hl => ?_)
  exact k_M_carry_2_it X _ Z (lv_sub hl [1, 2, 3, 0] rfl) hf
end
set_option maxHeartbeats 4000000 in
set_option maxRecDepth 100000 in
theorem c_M_carry {l : Launch} {D : va_G} {h : Nat → Nat} {t : Nat → ClassId} {sz : Nat} {x1 : Int32} {x2 : Int32} {u0 : St} {u' : St} (hf : f_M_carry x1 x2 u0 = some u') : sr_Cv l y_M_carry w_M_carry (sr_rm 0 0) D (tM t) (wM h t u0) (wM h t u') sz [.ref (h 0), .int x1, .int x2] := by
  refine Met.ofW (cc := b_M_carry) (maxL := 4) (ret := none) (by decide) rfl ?_
  intro p e s m args below meth c s₁ B hml hv
  obtain ⟨rfl, hsz, hP, hK, hD0⟩ := hv
  subst hsz
  have X : sr_X D (tM t) b_M_carry 4 R_M w_M_carry p s m _ meth c (va_A (wM h t u0) s.heap.size) none := ⟨B.exec, B.bytes, hml, findClass_of_methodNamed B.named, B.notSynchronized, atoms_spec (ws := w_M_carry) B.pre, hK, fun q h => Or.inr h, B.returns⟩
  have Z : sr_Z D (va_A (wM h t u0) s.heap.size) s.heap (wM h t u0) s.heap [] := ⟨hP, hD0.self, va_S.rf⟩
  have hl := lv_entry ([.ref (h 0), .int x1, .int x2] : List Value) (n := 4) (Nat.le_of_ble_eq_true rfl)
  rw [lg_entry_eq]
  exact k_M_carry_0 X Z hl hf
/-! M_complete -/
theorem d_M_complete_0 : decode b_M_complete 0 = .ok (.aload_n 0, 1) := by decide +kernel
theorem d_M_complete_1 : decode b_M_complete 1 = .ok (.iload_n 1, 1) := by decide +kernel
theorem d_M_complete_2 : decode b_M_complete 2 = .ok (.bipush 8, 2) := by decide +kernel
theorem d_M_complete_4 : decode b_M_complete 4 = .ok (.invokevirtual 183, 3) := by decide +kernel
theorem d_M_complete_7 : decode b_M_complete 7 = .ok (.aload_n 0, 1) := by decide +kernel
theorem d_M_complete_8 : decode b_M_complete 8 = .ok (.iconst 2, 1) := by decide +kernel
theorem d_M_complete_9 : decode b_M_complete 9 = .ok (.iload_n 1, 1) := by decide +kernel
theorem d_M_complete_10 : decode b_M_complete 10 = .ok (.invokevirtual 186, 3) := by decide +kernel
theorem d_M_complete_13 : decode b_M_complete 13 = .ok (.iconst 0, 1) := by decide +kernel
theorem d_M_complete_14 : decode b_M_complete 14 = .ok (.istore_n 2, 1) := by decide +kernel
theorem d_M_complete_15 : decode b_M_complete 15 = .ok (.iload_n 2, 1) := by decide +kernel
theorem d_M_complete_16 : decode b_M_complete 16 = .ok (.aload_n 0, 1) := by decide +kernel
theorem d_M_complete_17 : decode b_M_complete 17 = .ok (.getfield 115, 3) := by decide +kernel
theorem d_M_complete_20 : decode b_M_complete 20 = .ok (.if_icmp .ge 77, 3) := by decide +kernel
theorem d_M_complete_23 : decode b_M_complete 23 = .ok (.aload_n 0, 1) := by decide +kernel
theorem d_M_complete_24 : decode b_M_complete 24 = .ok (.getfield 28, 3) := by decide +kernel
theorem d_M_complete_27 : decode b_M_complete 27 = .ok (.iload_n 2, 1) := by decide +kernel
theorem d_M_complete_28 : decode b_M_complete 28 = .ok (.iaload, 1) := by decide +kernel
theorem d_M_complete_29 : decode b_M_complete 29 = .ok (.iload_n 1, 1) := by decide +kernel
theorem d_M_complete_30 : decode b_M_complete 30 = .ok (.if_icmp .ne 61, 3) := by decide +kernel
theorem d_M_complete_33 : decode b_M_complete 33 = .ok (.aload_n 0, 1) := by decide +kernel
theorem d_M_complete_34 : decode b_M_complete 34 = .ok (.getfield 34, 3) := by decide +kernel
theorem d_M_complete_37 : decode b_M_complete 37 = .ok (.iload_n 2, 1) := by decide +kernel
theorem d_M_complete_38 : decode b_M_complete 38 = .ok (.iaload, 1) := by decide +kernel
theorem d_M_complete_39 : decode b_M_complete 39 = .ok (.ifCond .lt 23, 3) := by decide +kernel
theorem d_M_complete_42 : decode b_M_complete 42 = .ok (.aload_n 0, 1) := by decide +kernel
theorem d_M_complete_43 : decode b_M_complete 43 = .ok (.iload_n 1, 1) := by decide +kernel
theorem d_M_complete_44 : decode b_M_complete 44 = .ok (.aload_n 0, 1) := by decide +kernel
theorem d_M_complete_45 : decode b_M_complete 45 = .ok (.getfield 34, 3) := by decide +kernel
theorem d_M_complete_48 : decode b_M_complete 48 = .ok (.iload_n 2, 1) := by decide +kernel
theorem d_M_complete_49 : decode b_M_complete 49 = .ok (.iaload, 1) := by decide +kernel
theorem d_M_complete_50 : decode b_M_complete 50 = .ok (.invokevirtual 206, 3) := by decide +kernel
theorem d_M_complete_53 : decode b_M_complete 53 = .ok (.aload_n 0, 1) := by decide +kernel
theorem d_M_complete_54 : decode b_M_complete 54 = .ok (.getfield 37, 3) := by decide +kernel
theorem d_M_complete_57 : decode b_M_complete 57 = .ok (.iload_n 2, 1) := by decide +kernel
theorem d_M_complete_58 : decode b_M_complete 58 = .ok (.iaload, 1) := by decide +kernel
theorem d_M_complete_59 : decode b_M_complete 59 = .ok (.if_icmp .ge 7, 3) := by decide +kernel
theorem d_M_complete_62 : decode b_M_complete 62 = .ok (.iconst 1, 1) := by decide +kernel
theorem d_M_complete_63 : decode b_M_complete 63 = .ok (.goto 4, 3) := by decide +kernel
theorem d_M_complete_66 : decode b_M_complete 66 = .ok (.iconst 0, 1) := by decide +kernel
theorem d_M_complete_67 : decode b_M_complete 67 = .ok (.istore_n 3, 1) := by decide +kernel
theorem d_M_complete_68 : decode b_M_complete 68 = .ok (.aload_n 0, 1) := by decide +kernel
theorem d_M_complete_69 : decode b_M_complete 69 = .ok (.getfield 71, 3) := by decide +kernel
theorem d_M_complete_72 : decode b_M_complete 72 = .ok (.bipush 16, 2) := by decide +kernel
theorem d_M_complete_74 : decode b_M_complete 74 = .ok (.aload_n 0, 1) := by decide +kernel
theorem d_M_complete_75 : decode b_M_complete 75 = .ok (.getfield 168, 3) := by decide +kernel
theorem d_M_complete_78 : decode b_M_complete 78 = .ok (.imul, 1) := by decide +kernel
theorem d_M_complete_79 : decode b_M_complete 79 = .ok (.iload_n 2, 1) := by decide +kernel
theorem d_M_complete_80 : decode b_M_complete 80 = .ok (.iadd, 1) := by decide +kernel
theorem d_M_complete_81 : decode b_M_complete 81 = .ok (.iload_n 3, 1) := by decide +kernel
theorem d_M_complete_82 : decode b_M_complete 82 = .ok (.ifCond .eq 7, 3) := by decide +kernel
theorem d_M_complete_85 : decode b_M_complete 85 = .ok (.iconst 1, 1) := by decide +kernel
theorem d_M_complete_86 : decode b_M_complete 86 = .ok (.goto 4, 3) := by decide +kernel
theorem d_M_complete_89 : decode b_M_complete 89 = .ok (.iconst 2, 1) := by decide +kernel
theorem d_M_complete_90 : decode b_M_complete 90 = .ok (.iastore, 1) := by decide +kernel
theorem d_M_complete_91 : decode b_M_complete 91 = .ok (.iinc 2 1, 3) := by decide +kernel
theorem d_M_complete_94 : decode b_M_complete 94 = .ok (.goto (-79), 3) := by decide +kernel
theorem d_M_complete_97 : decode b_M_complete 97 = .ok (.aload_n 0, 1) := by decide +kernel
theorem d_M_complete_98 : decode b_M_complete 98 = .ok (.iconst 2, 1) := by decide +kernel
theorem d_M_complete_99 : decode b_M_complete 99 = .ok (.iload_n 1, 1) := by decide +kernel
theorem d_M_complete_100 : decode b_M_complete 100 = .ok (.iconst 0, 1) := by decide +kernel
theorem d_M_complete_101 : decode b_M_complete 101 = .ok (.invokevirtual 209, 3) := by decide +kernel
theorem d_M_complete_104 : decode b_M_complete 104 = .ok (.return_, 1) := by decide +kernel
section
variable {p : Program} {l : Launch} {e : Env} {s : State} {m : MethodId} {args : Array Value} {below : List Frame} {meth : Method} {c : Code} {H : Heap} {locs : List Loc} {ls : Array Slot} {D : va_G} {A : Nat → Prop} {h o : Nat → Nat} {t v : Nat → ClassId}
def f_M_complete_91 (k15 : Int32 → Int32 → St → Option (St)) (x1 : Int32) (x2 : Int32) (u0 : St) : Option (St) :=
  k15 x1 (x2 + 1) u0
set_option maxHeartbeats 4000000 in
set_option maxRecDepth 100000 in
theorem k_M_complete_91 {k15 : Int32 → Int32 → St → Option (St)} {x1 : Int32} {x2 : Int32} {u0 : St} {u' : St} (X : sr_X D (tM t) b_M_complete 4 R_M w_M_complete p s m args meth c A none) (hk15 : ∀ (x1 : Int32) (x2 : Int32) (u0 : St) (H : Heap) (locs : List Loc) (ls : Array Slot), sr_Z D A s.heap (wM h t u0) H locs → lv_has ls 4 [(0, .ref (h 0)), (1, .int x1), (2, .int x2)] → k15 x1 x2 u0 = some u' → W p l e (sr_rm 2 45) s m args below meth c H locs 0 0 (sr_Qv D (tM t) below args s A (wM h t u')) (F0 m 15 ls [])) (Z : sr_Z D A s.heap (wM h t u0) H locs) (hl : lv_has ls 4 [(0, .ref (h 0)), (1, .int x1), (2, .int x2)]) (hf : f_M_complete_91 k15 x1 x2 u0 = some u') : W p l e (sr_rm 2 45) s m args below meth c H locs 0 0 (sr_Qv D (tM t) below args s A (wM h t u')) (F0 m 91 ls []) := by
  have hx := X.1
  have hb := X.2.1
  have hK := X.2.2.2.2.2.2.1
  unfold f_M_complete_91 at hf
  refine lv_iinc (k := 2) (v := x2 + 1) (lv' := [(2, .int (x2 + 1)), (0, .ref (h 0)), (1, .int x1)]) hx hb d_M_complete_91 hl rfl rfl (by decide) rfl (fun ls hl => ?_)
  refine lv_goto (tgt := 15) hx hb d_M_complete_94 rfl ?_
  exact hk15 x1 (x2 + 1) u0 _ _ _ Z (lv_sub hl [1, 2, 0] rfl) hf
def f_M_complete_90 (k15 : Int32 → Int32 → St → Option (St)) (x1 : Int32) (x2 : Int32) (y0 : Int32) (y1 : Int32) (u0 : St) : Option (St) :=
  (sr_ast 128 u0 26 y1 y0).bind fun u_15 =>
  f_M_complete_91 k15 x1 x2 u_15
set_option maxHeartbeats 4000000 in
set_option maxRecDepth 100000 in
theorem k_M_complete_90 {k15 : Int32 → Int32 → St → Option (St)} {x1 : Int32} {x2 : Int32} {y0 : Int32} {y1 : Int32} {u0 : St} {u' : St} (X : sr_X D (tM t) b_M_complete 4 R_M w_M_complete p s m args meth c A none) (hk15 : ∀ (x1 : Int32) (x2 : Int32) (u0 : St) (H : Heap) (locs : List Loc) (ls : Array Slot), sr_Z D A s.heap (wM h t u0) H locs → lv_has ls 4 [(0, .ref (h 0)), (1, .int x1), (2, .int x2)] → k15 x1 x2 u0 = some u' → W p l e (sr_rm 2 45) s m args below meth c H locs 0 0 (sr_Qv D (tM t) below args s A (wM h t u')) (F0 m 15 ls [])) (Z : sr_Z D A s.heap (wM h t u0) H locs) (hl : lv_has ls 4 [(0, .ref (h 0)), (1, .int x1), (2, .int x2)]) (hf : f_M_complete_90 k15 x1 x2 y0 y1 u0 = some u') : W p l e (sr_rm 2 45) s m args below meth c H locs 0 0 (sr_Qv D (tM t) below args s A (wM h t u')) (F0 m 90 ls [.int y0, .int y1, .ref (h 27)]) := by
  have hx := X.1
  have hb := X.2.1
  have hK := X.2.2.2.2.2.2.1
  unfold f_M_complete_90 at hf
  obtain ⟨u_15, e_16, hf⟩ := sr_b hf
  refine sr_iast (wf := (fun q => (wM h t q))) hx hb hK Z 21 20 rfl rfl e_16 (fun _ => rfl) d_M_complete_90 (fun H locs Z => ?_)
  exact k_M_complete_91 X hk15 Z (lv_sub hl [0, 1, 2] rfl) hf
def f_M_complete_67 (k15 : Int32 → Int32 → St → Option (St)) (x1 : Int32) (x2 : Int32) (y0 : Int32) (u0 : St) : Option (St) :=
  if y0 = 0 then
    f_M_complete_90 k15 x1 x2 2 ((16 * (u0 33 0)) + x2) u0
  else
    f_M_complete_90 k15 x1 x2 1 ((16 * (u0 33 0)) + x2) u0
set_option maxHeartbeats 4000000 in
set_option maxRecDepth 100000 in
theorem k_M_complete_67 {k15 : Int32 → Int32 → St → Option (St)} {x1 : Int32} {x2 : Int32} {y0 : Int32} {u0 : St} {u' : St} (X : sr_X D (tM t) b_M_complete 4 R_M w_M_complete p s m args meth c A none) (hk15 : ∀ (x1 : Int32) (x2 : Int32) (u0 : St) (H : Heap) (locs : List Loc) (ls : Array Slot), sr_Z D A s.heap (wM h t u0) H locs → lv_has ls 4 [(0, .ref (h 0)), (1, .int x1), (2, .int x2)] → k15 x1 x2 u0 = some u' → W p l e (sr_rm 2 45) s m args below meth c H locs 0 0 (sr_Qv D (tM t) below args s A (wM h t u')) (F0 m 15 ls [])) (Z : sr_Z D A s.heap (wM h t u0) H locs) (hl : lv_has ls 4 [(0, .ref (h 0)), (1, .int x1), (2, .int x2)]) (hf : f_M_complete_67 k15 x1 x2 y0 u0 = some u') : W p l e (sr_rm 2 45) s m args below meth c H locs 0 0 (sr_Qv D (tM t) below args s A (wM h t u')) (F0 m 67 ls [.int y0]) := by
  have hx := X.1
  have hb := X.2.1
  have hK := X.2.2.2.2.2.2.1
  unfold f_M_complete_67 at hf
  refine lv_istore_n (lv' := [(3, .int y0), (0, .ref (h 0)), (1, .int x1), (2, .int x2)]) hx hb d_M_complete_67 rfl hl (by decide) rfl (fun ls hl => ?_)
  refine lv_aload_n hx hb d_M_complete_68 rfl (lv_at hl 1 rfl) ?_
  refine g_M_71_M X Z d_M_complete_69 ?_
  refine lv_bipush (v := 16) hx hb d_M_complete_72 (by decide) ?_
  refine lv_aload_n hx hb d_M_complete_74 rfl (lv_at hl 1 rfl) ?_
  refine g_M_168_M X Z d_M_complete_75 ?_
  refine lv_imul hx hb d_M_complete_78 ?_
  refine lv_iload_n hx hb d_M_complete_79 rfl (lv_at hl 3 rfl) ?_
  refine lv_iadd hx hb d_M_complete_80 ?_
  refine lv_iload_n hx hb d_M_complete_81 rfl (lv_at hl 0 rfl) ?_
  refine lv_if_eq (tgt := 89) hx hb d_M_complete_82 rfl (fun q_14 => ?_) (fun q_14 => ?_)
  · have hf := sr_it q_14 hf
    refine lv_iconst (v := 2) hx hb d_M_complete_89 (by decide) ?_
    exact k_M_complete_90 X hk15 Z (lv_sub hl [1, 2, 3] rfl) hf
  · have hf := sr_if q_14 hf
    refine lv_iconst (v := 1) hx hb d_M_complete_85 (by decide) ?_
    refine lv_goto (tgt := 90) hx hb d_M_complete_86 rfl ?_
    exact k_M_complete_90 X hk15 Z (lv_sub hl [1, 2, 3] rfl) hf
def f_M_complete_62 (k15 : Int32 → Int32 → St → Option (St)) (x1 : Int32) (x2 : Int32) (u0 : St) : Option (St) :=
  f_M_complete_67 k15 x1 x2 1 u0
set_option maxHeartbeats 4000000 in
set_option maxRecDepth 100000 in
theorem k_M_complete_62 {k15 : Int32 → Int32 → St → Option (St)} {x1 : Int32} {x2 : Int32} {u0 : St} {u' : St} (X : sr_X D (tM t) b_M_complete 4 R_M w_M_complete p s m args meth c A none) (hk15 : ∀ (x1 : Int32) (x2 : Int32) (u0 : St) (H : Heap) (locs : List Loc) (ls : Array Slot), sr_Z D A s.heap (wM h t u0) H locs → lv_has ls 4 [(0, .ref (h 0)), (1, .int x1), (2, .int x2)] → k15 x1 x2 u0 = some u' → W p l e (sr_rm 2 45) s m args below meth c H locs 0 0 (sr_Qv D (tM t) below args s A (wM h t u')) (F0 m 15 ls [])) (Z : sr_Z D A s.heap (wM h t u0) H locs) (hl : lv_has ls 4 [(0, .ref (h 0)), (1, .int x1), (2, .int x2)]) (hf : f_M_complete_62 k15 x1 x2 u0 = some u') : W p l e (sr_rm 2 45) s m args below meth c H locs 0 0 (sr_Qv D (tM t) below args s A (wM h t u')) (F0 m 62 ls []) := by
  have hx := X.1
  have hb := X.2.1
  have hK := X.2.2.2.2.2.2.1
  unfold f_M_complete_62 at hf
  refine lv_iconst (v := 1) hx hb d_M_complete_62 (by decide) ?_
  refine lv_goto (tgt := 67) hx hb d_M_complete_63 rfl ?_
  exact k_M_complete_67 X hk15 Z (lv_sub hl [0, 1, 2] rfl) hf
def f_M_complete_15 (k15 : Int32 → Int32 → St → Option (St)) (x1 : Int32) (x2 : Int32) (u0 : St) : Option (St) :=
  if (u0 7 0) ≤ x2 then
    (f_M_then 2 x1 0 u0).bind fun u_6 =>
    some u_6
  else
    (sr_ald 16 (u0 8) x2).bind fun v_8 =>
    if v_8 = x1 then
      (sr_ald 16 (u0 10) x2).bind fun v_11 =>
      if v_11 < 0 then
        f_M_complete_62 k15 x1 x2 u0
      else
        (sr_ald 16 (u0 10) x2).bind fun v_17 =>
        (f_M_see u0 x1 v_17).bind fun v_19 =>
        (sr_ald 16 (u0 11) x2).bind fun v_21 =>
        if v_21 ≤ v_19 then
          f_M_complete_67 k15 x1 x2 0 u0
        else
          f_M_complete_62 k15 x1 x2 u0
    else
      f_M_complete_91 k15 x1 x2 u0
set_option maxHeartbeats 4000000 in
set_option maxRecDepth 100000 in
theorem k_M_complete_15 {k15 : Int32 → Int32 → St → Option (St)} {x1 : Int32} {x2 : Int32} {u0 : St} {u' : St} (X : sr_X D (tM t) b_M_complete 4 R_M w_M_complete p s m args meth c A none) (hk15 : ∀ (x1 : Int32) (x2 : Int32) (u0 : St) (H : Heap) (locs : List Loc) (ls : Array Slot), sr_Z D A s.heap (wM h t u0) H locs → lv_has ls 4 [(0, .ref (h 0)), (1, .int x1), (2, .int x2)] → k15 x1 x2 u0 = some u' → W p l e (sr_rm 2 45) s m args below meth c H locs 0 0 (sr_Qv D (tM t) below args s A (wM h t u')) (F0 m 15 ls [])) (Z : sr_Z D A s.heap (wM h t u0) H locs) (hl : lv_has ls 4 [(0, .ref (h 0)), (1, .int x1), (2, .int x2)]) (hf : f_M_complete_15 k15 x1 x2 u0 = some u') : W p l e (sr_rm 2 45) s m args below meth c H locs 0 0 (sr_Qv D (tM t) below args s A (wM h t u')) (F0 m 15 ls []) := by
  have hx := X.1
  have hb := X.2.1
  have hK := X.2.2.2.2.2.2.1
  unfold f_M_complete_15 at hf
  refine lv_iload_n hx hb d_M_complete_15 rfl (lv_at hl 2 rfl) ?_
  refine lv_aload_n hx hb d_M_complete_16 rfl (lv_at hl 0 rfl) ?_
  refine g_M_115_M X Z d_M_complete_17 ?_
  refine lv_icmp_ge (tgt := 97) hx hb d_M_complete_20 rfl (fun q_5 => ?_) (fun q_5 => ?_)
  · have hf := sr_it q_5 hf
    refine lv_aload_n hx hb d_M_complete_97 rfl (lv_at hl 0 rfl) ?_
    refine lv_iconst (v := 2) hx hb d_M_complete_98 (by decide) ?_
    refine lv_iload_n hx hb d_M_complete_99 rfl (lv_at hl 1 rfl) ?_
    refine lv_iconst (v := 0) hx hb d_M_complete_100 (by decide) ?_
    obtain ⟨u_6, e_7, hf⟩ := sr_b hf
    refine sr_cVv (As := [.int 2, .int x1, .int 0]) (rest := []) X Z sr_cut_self hK (c_M_then e_7) (cw_M_209 X.2.2.2.2.2.1 (by decide)) 0 rfl rfl rfl hl rfl (Nat.le_of_ble_eq_true rfl) d_M_complete_101 (fun H locs Z => ?_)
    cases hf
    exact sr_retv X Z d_M_complete_104
  · have hf := sr_if q_5 hf
    refine lv_aload_n hx hb d_M_complete_23 rfl (lv_at hl 0 rfl) ?_
    refine g_M_28_M X Z d_M_complete_24 ?_
    refine lv_iload_n hx hb d_M_complete_27 rfl (lv_at hl 2 rfl) ?_
    obtain ⟨v_8, e_9, hf⟩ := sr_b hf
    refine sr_iald hx hb hK Z 7 6 rfl rfl e_9 d_M_complete_28 ?_
    refine lv_iload_n hx hb d_M_complete_29 rfl (lv_at hl 1 rfl) ?_
    refine lv_icmp_ne (tgt := 91) hx hb d_M_complete_30 rfl (fun q_10 => ?_) (fun q_10 => ?_)
    · have hf := sr_if q_10 hf
      exact k_M_complete_91 X hk15 Z (lv_sub hl [0, 1, 2] rfl) hf
    · have hf := sr_it q_10 hf
      refine lv_aload_n hx hb d_M_complete_33 rfl (lv_at hl 0 rfl) ?_
      refine g_M_34_M X Z d_M_complete_34 ?_
      refine lv_iload_n hx hb d_M_complete_37 rfl (lv_at hl 2 rfl) ?_
      obtain ⟨v_11, e_12, hf⟩ := sr_b hf
      refine sr_iald hx hb hK Z 9 8 rfl rfl e_12 d_M_complete_38 ?_
      refine lv_if_lt (tgt := 62) hx hb d_M_complete_39 rfl (fun q_13 => ?_) (fun q_13 => ?_)
      · have hf := sr_it q_13 hf
        exact k_M_complete_62 X hk15 Z (lv_sub hl [0, 1, 2] rfl) hf
      · have hf := sr_if q_13 hf
        refine lv_aload_n hx hb d_M_complete_42 rfl (lv_at hl 0 rfl) ?_
        refine lv_iload_n hx hb d_M_complete_43 rfl (lv_at hl 1 rfl) ?_
        refine lv_aload_n hx hb d_M_complete_44 rfl (lv_at hl 0 rfl) ?_
        refine g_M_34_M X Z d_M_complete_45 ?_
        refine lv_iload_n hx hb d_M_complete_48 rfl (lv_at hl 2 rfl) ?_
        obtain ⟨v_17, e_18, hf⟩ := sr_b hf
        refine sr_iald hx hb hK Z 9 8 rfl rfl e_18 d_M_complete_49 ?_
        obtain ⟨v_19, e_20, hf⟩ := sr_b hf
        refine sr_cVi (As := [.int x1, .int v_17]) (rest := []) X Z sr_cut_self hK (c_M_see e_20) (cw_M_206 X.2.2.2.2.2.1 (by decide)) 0 rfl rfl rfl hl rfl (Nat.le_of_ble_eq_true rfl) d_M_complete_50 (fun H locs Z => ?_)
        refine lv_aload_n hx hb d_M_complete_53 rfl (lv_at hl 0 rfl) ?_
        refine g_M_37_M X Z d_M_complete_54 ?_
        refine lv_iload_n hx hb d_M_complete_57 rfl (lv_at hl 2 rfl) ?_
        obtain ⟨v_21, e_22, hf⟩ := sr_b hf
        refine sr_iald hx hb hK Z 10 9 rfl rfl e_22 d_M_complete_58 ?_
        refine lv_icmp_ge (tgt := 66) hx hb d_M_complete_59 rfl (fun q_23 => ?_) (fun q_23 => ?_)
        · have hf := sr_it q_23 hf
          refine lv_iconst (v := 0) hx hb d_M_complete_66 (by decide) ?_
          exact k_M_complete_67 X hk15 Z (lv_sub hl [0, 1, 2] rfl) hf
        · have hf := sr_if q_23 hf
          exact k_M_complete_62 X hk15 Z (lv_sub hl [0, 1, 2] rfl) hf
def f_M_complete_15_it : Nat → Int32 → Int32 → St → Option (St)
  | 0 => fun _ _ _ => none
  | n + 1 => fun x1 x2 u0 => f_M_complete_15 (f_M_complete_15_it n) x1 x2 u0
set_option maxHeartbeats 4000000 in
set_option maxRecDepth 100000 in
theorem k_M_complete_15_it {u' : St} (X : sr_X D (tM t) b_M_complete 4 R_M w_M_complete p s m args meth c A none) (n : Nat) : ∀ {x1 : Int32} {x2 : Int32} {u0 : St} {H : Heap} {locs : List Loc} {ls : Array Slot}, sr_Z D A s.heap (wM h t u0) H locs → lv_has ls 4 [(0, .ref (h 0)), (1, .int x1), (2, .int x2)] → f_M_complete_15_it n x1 x2 u0 = some u' → W p l e (sr_rm 2 45) s m args below meth c H locs 0 0 (sr_Qv D (tM t) below args s A (wM h t u')) (F0 m 15 ls []) := by
  induction n with
  | zero => intro x1 x2 u0 H locs ls Z hl hf; exact absurd hf (by simp [f_M_complete_15_it])
  | succ n ih =>
    intro x1 x2 u0 H locs ls Z hl hf
    exact k_M_complete_15 X (fun x1 x2 u0 H locs ls Z hl hf => ih Z hl hf) Z hl hf
def f_M_complete (x1 : Int32) (u0 : St) : Option (St) :=
  (f_M_put x1 8 u0).bind fun u_1 =>
  (f_M_write 2 x1 u_1).bind fun u_3 =>
  f_M_complete_15_it 60 x1 0 u_3
set_option maxHeartbeats 4000000 in
set_option maxRecDepth 100000 in
theorem k_M_complete_0 {x1 : Int32} {u0 : St} {u' : St} (X : sr_X D (tM t) b_M_complete 4 R_M w_M_complete p s m args meth c A none) (Z : sr_Z D A s.heap (wM h t u0) H locs) (hl : lv_has ls 4 [(0, .ref (h 0)), (1, .int x1)]) (hf : f_M_complete x1 u0 = some u') : W p l e (sr_rm 2 45) s m args below meth c H locs 0 0 (sr_Qv D (tM t) below args s A (wM h t u')) (F0 m 0 ls []) := by
  have hx := X.1
  have hb := X.2.1
  have hK := X.2.2.2.2.2.2.1
  unfold f_M_complete at hf
  refine lv_aload_n hx hb d_M_complete_0 rfl (lv_at hl 0 rfl) ?_
  refine lv_iload_n hx hb d_M_complete_1 rfl (lv_at hl 1 rfl) ?_
  refine lv_bipush (v := 8) hx hb d_M_complete_2 (by decide) ?_
  obtain ⟨u_1, e_2, hf⟩ := sr_b hf
  refine sr_cVv (As := [.int x1, .int 8]) (rest := []) X Z sr_cut_self hK (c_M_put e_2) (cw_M_183 X.2.2.2.2.2.1 (by decide)) 0 rfl rfl rfl hl rfl (Nat.le_of_ble_eq_true rfl) d_M_complete_4 (fun H locs Z => ?_)
  refine lv_aload_n hx hb d_M_complete_7 rfl (lv_at hl 0 rfl) ?_
  refine lv_iconst (v := 2) hx hb d_M_complete_8 (by decide) ?_
  refine lv_iload_n hx hb d_M_complete_9 rfl (lv_at hl 1 rfl) ?_
  obtain ⟨u_3, e_4, hf⟩ := sr_b hf
  refine sr_cVv (As := [.int 2, .int x1]) (rest := []) X Z sr_cut_self hK (c_M_write e_4) (cw_M_186 X.2.2.2.2.2.1 (by decide)) 0 rfl rfl rfl hl rfl (Nat.le_of_ble_eq_true rfl) d_M_complete_10 (fun H locs Z => ?_)
  refine lv_iconst (v := 0) hx hb d_M_complete_13 (by decide) ?_
  refine lv_istore_n (lv' := [(2, .int 0), (0, .ref (h 0)), (1, .int x1)]) hx hb d_M_complete_14 rfl hl (by decide) rfl (fun ls hl => ?_)
  exact k_M_complete_15_it X _ Z (lv_sub hl [1, 2, 0] rfl) hf
end
set_option maxHeartbeats 4000000 in
set_option maxRecDepth 100000 in
theorem c_M_complete {l : Launch} {D : va_G} {h : Nat → Nat} {t : Nat → ClassId} {sz : Nat} {x1 : Int32} {u0 : St} {u' : St} (hf : f_M_complete x1 u0 = some u') : sr_Cv l y_M_complete w_M_complete (sr_rm 2 45) D (tM t) (wM h t u0) (wM h t u') sz [.ref (h 0), .int x1] := by
  refine Met.ofW (cc := b_M_complete) (maxL := 4) (ret := none) (by decide) rfl ?_
  intro p e s m args below meth c s₁ B hml hv
  obtain ⟨rfl, hsz, hP, hK, hD0⟩ := hv
  subst hsz
  have X : sr_X D (tM t) b_M_complete 4 R_M w_M_complete p s m _ meth c (va_A (wM h t u0) s.heap.size) none := ⟨B.exec, B.bytes, hml, findClass_of_methodNamed B.named, B.notSynchronized, atoms_spec (ws := w_M_complete) B.pre, hK, fun q h => Or.inr h, B.returns⟩
  have Z : sr_Z D (va_A (wM h t u0) s.heap.size) s.heap (wM h t u0) s.heap [] := ⟨hP, hD0.self, va_S.rf⟩
  have hl := lv_entry ([.ref (h 0), .int x1] : List Value) (n := 4) (Nat.le_of_ble_eq_true rfl)
  rw [lg_entry_eq]
  exact k_M_complete_0 X Z hl hf
/-! M_bodyDone -/
theorem d_M_bodyDone_0 : decode b_M_bodyDone 0 = .ok (.aload_n 0, 1) := by decide +kernel
theorem d_M_bodyDone_1 : decode b_M_bodyDone 1 = .ok (.getfield 7, 3) := by decide +kernel
theorem d_M_bodyDone_4 : decode b_M_bodyDone 4 = .ok (.iload_n 1, 1) := by decide +kernel
theorem d_M_bodyDone_5 : decode b_M_bodyDone 5 = .ok (.iaload, 1) := by decide +kernel
theorem d_M_bodyDone_6 : decode b_M_bodyDone 6 = .ok (.istore_n 2, 1) := by decide +kernel
theorem d_M_bodyDone_7 : decode b_M_bodyDone 7 = .ok (.iload_n 2, 1) := by decide +kernel
theorem d_M_bodyDone_8 : decode b_M_bodyDone 8 = .ok (.ifCond .ne 11, 3) := by decide +kernel
theorem d_M_bodyDone_11 : decode b_M_bodyDone 11 = .ok (.aload_n 0, 1) := by decide +kernel
theorem d_M_bodyDone_12 : decode b_M_bodyDone 12 = .ok (.iconst 1, 1) := by decide +kernel
theorem d_M_bodyDone_13 : decode b_M_bodyDone 13 = .ok (.iconst 0, 1) := by decide +kernel
theorem d_M_bodyDone_14 : decode b_M_bodyDone 14 = .ok (.iconst 0, 1) := by decide +kernel
theorem d_M_bodyDone_15 : decode b_M_bodyDone 15 = .ok (.invokevirtual 209, 3) := by decide +kernel
theorem d_M_bodyDone_18 : decode b_M_bodyDone 18 = .ok (.return_, 1) := by decide +kernel
theorem d_M_bodyDone_19 : decode b_M_bodyDone 19 = .ok (.aload_n 0, 1) := by decide +kernel
theorem d_M_bodyDone_20 : decode b_M_bodyDone 20 = .ok (.getfield 74, 3) := by decide +kernel
theorem d_M_bodyDone_23 : decode b_M_bodyDone 23 = .ok (.aload_n 0, 1) := by decide +kernel
theorem d_M_bodyDone_24 : decode b_M_bodyDone 24 = .ok (.getfield 168, 3) := by decide +kernel
theorem d_M_bodyDone_27 : decode b_M_bodyDone 27 = .ok (.iaload, 1) := by decide +kernel
theorem d_M_bodyDone_28 : decode b_M_bodyDone 28 = .ok (.istore_n 3, 1) := by decide +kernel
theorem d_M_bodyDone_29 : decode b_M_bodyDone 29 = .ok (.iload_n 3, 1) := by decide +kernel
theorem d_M_bodyDone_30 : decode b_M_bodyDone 30 = .ok (.bipush 16, 2) := by decide +kernel
theorem d_M_bodyDone_32 : decode b_M_bodyDone 32 = .ok (.if_icmp .lt 12, 3) := by decide +kernel
theorem d_M_bodyDone_35 : decode b_M_bodyDone 35 = .ok (.aload_n 0, 1) := by decide +kernel
theorem d_M_bodyDone_36 : decode b_M_bodyDone 36 = .ok (.iconst 3, 1) := by decide +kernel
theorem d_M_bodyDone_37 : decode b_M_bodyDone 37 = .ok (.iload_n 1, 1) := by decide +kernel
theorem d_M_bodyDone_38 : decode b_M_bodyDone 38 = .ok (.bipush 102, 2) := by decide +kernel
theorem d_M_bodyDone_40 : decode b_M_bodyDone 40 = .ok (.invokevirtual 209, 3) := by decide +kernel
theorem d_M_bodyDone_43 : decode b_M_bodyDone 43 = .ok (.return_, 1) := by decide +kernel
theorem d_M_bodyDone_44 : decode b_M_bodyDone 44 = .ok (.aload_n 0, 1) := by decide +kernel
theorem d_M_bodyDone_45 : decode b_M_bodyDone 45 = .ok (.iload_n 2, 1) := by decide +kernel
theorem d_M_bodyDone_46 : decode b_M_bodyDone 46 = .ok (.bipush 100, 2) := by decide +kernel
theorem d_M_bodyDone_48 : decode b_M_bodyDone 48 = .ok (.iload_n 3, 1) := by decide +kernel
theorem d_M_bodyDone_49 : decode b_M_bodyDone 49 = .ok (.iadd, 1) := by decide +kernel
theorem d_M_bodyDone_50 : decode b_M_bodyDone 50 = .ok (.invokevirtual 213, 3) := by decide +kernel
theorem d_M_bodyDone_53 : decode b_M_bodyDone 53 = .ok (.aload_n 0, 1) := by decide +kernel
theorem d_M_bodyDone_54 : decode b_M_bodyDone 54 = .ok (.getfield 74, 3) := by decide +kernel
theorem d_M_bodyDone_57 : decode b_M_bodyDone 57 = .ok (.aload_n 0, 1) := by decide +kernel
theorem d_M_bodyDone_58 : decode b_M_bodyDone 58 = .ok (.getfield 168, 3) := by decide +kernel
theorem d_M_bodyDone_61 : decode b_M_bodyDone 61 = .ok (.dup2, 1) := by decide +kernel
theorem d_M_bodyDone_62 : decode b_M_bodyDone 62 = .ok (.iaload, 1) := by decide +kernel
theorem d_M_bodyDone_63 : decode b_M_bodyDone 63 = .ok (.iconst 1, 1) := by decide +kernel
theorem d_M_bodyDone_64 : decode b_M_bodyDone 64 = .ok (.iadd, 1) := by decide +kernel
theorem d_M_bodyDone_65 : decode b_M_bodyDone 65 = .ok (.iastore, 1) := by decide +kernel
theorem d_M_bodyDone_66 : decode b_M_bodyDone 66 = .ok (.aload_n 0, 1) := by decide +kernel
theorem d_M_bodyDone_67 : decode b_M_bodyDone 67 = .ok (.getfield 77, 3) := by decide +kernel
theorem d_M_bodyDone_70 : decode b_M_bodyDone 70 = .ok (.bipush 16, 2) := by decide +kernel
theorem d_M_bodyDone_72 : decode b_M_bodyDone 72 = .ok (.aload_n 0, 1) := by decide +kernel
theorem d_M_bodyDone_73 : decode b_M_bodyDone 73 = .ok (.getfield 168, 3) := by decide +kernel
theorem d_M_bodyDone_76 : decode b_M_bodyDone 76 = .ok (.imul, 1) := by decide +kernel
theorem d_M_bodyDone_77 : decode b_M_bodyDone 77 = .ok (.iload_n 3, 1) := by decide +kernel
theorem d_M_bodyDone_78 : decode b_M_bodyDone 78 = .ok (.iadd, 1) := by decide +kernel
theorem d_M_bodyDone_79 : decode b_M_bodyDone 79 = .ok (.iload_n 2, 1) := by decide +kernel
theorem d_M_bodyDone_80 : decode b_M_bodyDone 80 = .ok (.iastore, 1) := by decide +kernel
theorem d_M_bodyDone_81 : decode b_M_bodyDone 81 = .ok (.aload_n 0, 1) := by decide +kernel
theorem d_M_bodyDone_82 : decode b_M_bodyDone 82 = .ok (.getfield 80, 3) := by decide +kernel
theorem d_M_bodyDone_85 : decode b_M_bodyDone 85 = .ok (.bipush 16, 2) := by decide +kernel
theorem d_M_bodyDone_87 : decode b_M_bodyDone 87 = .ok (.aload_n 0, 1) := by decide +kernel
theorem d_M_bodyDone_88 : decode b_M_bodyDone 88 = .ok (.getfield 168, 3) := by decide +kernel
theorem d_M_bodyDone_91 : decode b_M_bodyDone 91 = .ok (.imul, 1) := by decide +kernel
theorem d_M_bodyDone_92 : decode b_M_bodyDone 92 = .ok (.iload_n 3, 1) := by decide +kernel
theorem d_M_bodyDone_93 : decode b_M_bodyDone 93 = .ok (.iadd, 1) := by decide +kernel
theorem d_M_bodyDone_94 : decode b_M_bodyDone 94 = .ok (.aload_n 0, 1) := by decide +kernel
theorem d_M_bodyDone_95 : decode b_M_bodyDone 95 = .ok (.getfield 58, 3) := by decide +kernel
theorem d_M_bodyDone_98 : decode b_M_bodyDone 98 = .ok (.bipush 24, 2) := by decide +kernel
theorem d_M_bodyDone_100 : decode b_M_bodyDone 100 = .ok (.aload_n 0, 1) := by decide +kernel
theorem d_M_bodyDone_101 : decode b_M_bodyDone 101 = .ok (.getfield 168, 3) := by decide +kernel
theorem d_M_bodyDone_104 : decode b_M_bodyDone 104 = .ok (.imul, 1) := by decide +kernel
theorem d_M_bodyDone_105 : decode b_M_bodyDone 105 = .ok (.iload_n 2, 1) := by decide +kernel
theorem d_M_bodyDone_106 : decode b_M_bodyDone 106 = .ok (.iadd, 1) := by decide +kernel
theorem d_M_bodyDone_107 : decode b_M_bodyDone 107 = .ok (.iaload, 1) := by decide +kernel
theorem d_M_bodyDone_108 : decode b_M_bodyDone 108 = .ok (.iastore, 1) := by decide +kernel
theorem d_M_bodyDone_109 : decode b_M_bodyDone 109 = .ok (.aload_n 0, 1) := by decide +kernel
theorem d_M_bodyDone_110 : decode b_M_bodyDone 110 = .ok (.getfield 83, 3) := by decide +kernel
theorem d_M_bodyDone_113 : decode b_M_bodyDone 113 = .ok (.bipush 16, 2) := by decide +kernel
theorem d_M_bodyDone_115 : decode b_M_bodyDone 115 = .ok (.aload_n 0, 1) := by decide +kernel
theorem d_M_bodyDone_116 : decode b_M_bodyDone 116 = .ok (.getfield 168, 3) := by decide +kernel
theorem d_M_bodyDone_119 : decode b_M_bodyDone 119 = .ok (.imul, 1) := by decide +kernel
theorem d_M_bodyDone_120 : decode b_M_bodyDone 120 = .ok (.iload_n 3, 1) := by decide +kernel
theorem d_M_bodyDone_121 : decode b_M_bodyDone 121 = .ok (.iadd, 1) := by decide +kernel
theorem d_M_bodyDone_122 : decode b_M_bodyDone 122 = .ok (.aload_n 0, 1) := by decide +kernel
theorem d_M_bodyDone_123 : decode b_M_bodyDone 123 = .ok (.iload_n 2, 1) := by decide +kernel
theorem d_M_bodyDone_124 : decode b_M_bodyDone 124 = .ok (.invokevirtual 129, 3) := by decide +kernel
theorem d_M_bodyDone_127 : decode b_M_bodyDone 127 = .ok (.iastore, 1) := by decide +kernel
theorem d_M_bodyDone_128 : decode b_M_bodyDone 128 = .ok (.aload_n 0, 1) := by decide +kernel
theorem d_M_bodyDone_129 : decode b_M_bodyDone 129 = .ok (.iconst 1, 1) := by decide +kernel
theorem d_M_bodyDone_130 : decode b_M_bodyDone 130 = .ok (.iload_n 2, 1) := by decide +kernel
theorem d_M_bodyDone_131 : decode b_M_bodyDone 131 = .ok (.iconst 0, 1) := by decide +kernel
theorem d_M_bodyDone_132 : decode b_M_bodyDone 132 = .ok (.invokevirtual 209, 3) := by decide +kernel
theorem d_M_bodyDone_135 : decode b_M_bodyDone 135 = .ok (.return_, 1) := by decide +kernel
section
variable {p : Program} {l : Launch} {e : Env} {s : State} {m : MethodId} {args : Array Value} {below : List Frame} {meth : Method} {c : Code} {H : Heap} {locs : List Loc} {ls : Array Slot} {D : va_G} {A : Nat → Prop} {h o : Nat → Nat} {t v : Nat → ClassId}
def f_M_bodyDone (x1 : Int32) (u0 : St) : Option (St) :=
  (sr_ald 24 (u0 1) x1).bind fun v_1 =>
  if v_1 = 0 then
    (f_M_then 1 0 0 u0).bind fun u_27 =>
    some u_27
  else
    (sr_ald 8 (u0 27) (u0 33 0)).bind fun v_4 =>
    if v_4 < 16 then
      (f_M_carry v_1 (100 + v_4) u0).bind fun u_7 =>
      (sr_ald 8 (u_7 27) (u_7 33 0)).bind fun v_9 =>
      (sr_ast 8 u_7 27 (u_7 33 0) (v_9 + 1)).bind fun u_11 =>
      (sr_ast 128 u_11 28 ((16 * (u_11 33 0)) + v_4) v_1).bind fun u_13 =>
      (sr_ald 192 (u_13 22) ((24 * (u_13 33 0)) + v_1)).bind fun v_15 =>
      (sr_ast 128 u_13 29 ((16 * (u_13 33 0)) + v_4) v_15).bind fun u_17 =>
      (f_M_around u_17 v_1).bind fun v_19 =>
      (sr_ast 128 u_17 30 ((16 * (u_17 33 0)) + v_4) v_19).bind fun u_21 =>
      (f_M_then 1 v_1 0 u_21).bind fun u_23 =>
      some u_23
    else
      (f_M_then 3 x1 102 u0).bind fun u_25 =>
      some u_25
set_option maxHeartbeats 4000000 in
set_option maxRecDepth 100000 in
theorem k_M_bodyDone_0 {x1 : Int32} {u0 : St} {u' : St} (X : sr_X D (tM t) b_M_bodyDone 4 R_M w_M_bodyDone p s m args meth c A none) (Z : sr_Z D A s.heap (wM h t u0) H locs) (hl : lv_has ls 4 [(0, .ref (h 0)), (1, .int x1)]) (hf : f_M_bodyDone x1 u0 = some u') : W p l e (sr_rm 1 23) s m args below meth c H locs 0 0 (sr_Qv D (tM t) below args s A (wM h t u')) (F0 m 0 ls []) := by
  have hx := X.1
  have hb := X.2.1
  have hK := X.2.2.2.2.2.2.1
  unfold f_M_bodyDone at hf
  refine lv_aload_n hx hb d_M_bodyDone_0 rfl (lv_at hl 0 rfl) ?_
  refine g_M_7_M X Z d_M_bodyDone_1 ?_
  refine lv_iload_n hx hb d_M_bodyDone_4 rfl (lv_at hl 1 rfl) ?_
  obtain ⟨v_1, e_2, hf⟩ := sr_b hf
  refine sr_iald hx hb hK Z 1 0 rfl rfl e_2 d_M_bodyDone_5 ?_
  refine lv_istore_n (lv' := [(2, .int v_1), (0, .ref (h 0)), (1, .int x1)]) hx hb d_M_bodyDone_6 rfl hl (by decide) rfl (fun ls hl => ?_)
  refine lv_iload_n hx hb d_M_bodyDone_7 rfl (lv_at hl 0 rfl) ?_
  refine lv_if_ne (tgt := 19) hx hb d_M_bodyDone_8 rfl (fun q_3 => ?_) (fun q_3 => ?_)
  · have hf := sr_if q_3 hf
    refine lv_aload_n hx hb d_M_bodyDone_19 rfl (lv_at hl 1 rfl) ?_
    refine g_M_74_M X Z d_M_bodyDone_20 ?_
    refine lv_aload_n hx hb d_M_bodyDone_23 rfl (lv_at hl 1 rfl) ?_
    refine g_M_168_M X Z d_M_bodyDone_24 ?_
    obtain ⟨v_4, e_5, hf⟩ := sr_b hf
    refine sr_iald hx hb hK Z 22 21 rfl rfl e_5 d_M_bodyDone_27 ?_
    refine lv_istore_n (lv' := [(3, .int v_4), (2, .int v_1), (0, .ref (h 0)), (1, .int x1)]) hx hb d_M_bodyDone_28 rfl hl (by decide) rfl (fun ls hl => ?_)
    refine lv_iload_n hx hb d_M_bodyDone_29 rfl (lv_at hl 0 rfl) ?_
    refine lv_bipush (v := 16) hx hb d_M_bodyDone_30 (by decide) ?_
    refine lv_icmp_lt (tgt := 44) hx hb d_M_bodyDone_32 rfl (fun q_6 => ?_) (fun q_6 => ?_)
    · have hf := sr_it q_6 hf
      refine lv_aload_n hx hb d_M_bodyDone_44 rfl (lv_at hl 2 rfl) ?_
      refine lv_iload_n hx hb d_M_bodyDone_45 rfl (lv_at hl 1 rfl) ?_
      refine lv_bipush (v := 100) hx hb d_M_bodyDone_46 (by decide) ?_
      refine lv_iload_n hx hb d_M_bodyDone_48 rfl (lv_at hl 0 rfl) ?_
      refine lv_iadd hx hb d_M_bodyDone_49 ?_
      obtain ⟨u_7, e_8, hf⟩ := sr_b hf
      refine sr_cVv (As := [.int v_1, .int (100 + v_4)]) (rest := []) X Z sr_cut_self hK (c_M_carry e_8) (cw_M_213 X.2.2.2.2.2.1 (by decide)) 0 rfl rfl rfl hl rfl (Nat.le_of_ble_eq_true rfl) d_M_bodyDone_50 (fun H locs Z => ?_)
      refine lv_aload_n hx hb d_M_bodyDone_53 rfl (lv_at hl 2 rfl) ?_
      refine g_M_74_M X Z d_M_bodyDone_54 ?_
      refine lv_aload_n hx hb d_M_bodyDone_57 rfl (lv_at hl 2 rfl) ?_
      refine g_M_168_M X Z d_M_bodyDone_58 ?_
      refine lv_dup2_11 hx hb d_M_bodyDone_61 rfl rfl ?_
      obtain ⟨v_9, e_10, hf⟩ := sr_b hf
      refine sr_iald hx hb hK Z 22 21 rfl rfl e_10 d_M_bodyDone_62 ?_
      refine lv_iconst (v := 1) hx hb d_M_bodyDone_63 (by decide) ?_
      refine lv_iadd hx hb d_M_bodyDone_64 ?_
      obtain ⟨u_11, e_12, hf⟩ := sr_b hf
      refine sr_iast (wf := (fun q => (wM h t q))) hx hb hK Z 22 21 rfl rfl e_12 (fun _ => rfl) d_M_bodyDone_65 (fun H locs Z => ?_)
      refine lv_aload_n hx hb d_M_bodyDone_66 rfl (lv_at hl 2 rfl) ?_
      refine g_M_77_M X Z d_M_bodyDone_67 ?_
      refine lv_bipush (v := 16) hx hb d_M_bodyDone_70 (by decide) ?_
      refine lv_aload_n hx hb d_M_bodyDone_72 rfl (lv_at hl 2 rfl) ?_
      refine g_M_168_M X Z d_M_bodyDone_73 ?_
      refine lv_imul hx hb d_M_bodyDone_76 ?_
      refine lv_iload_n hx hb d_M_bodyDone_77 rfl (lv_at hl 0 rfl) ?_
      refine lv_iadd hx hb d_M_bodyDone_78 ?_
      refine lv_iload_n hx hb d_M_bodyDone_79 rfl (lv_at hl 1 rfl) ?_
      obtain ⟨u_13, e_14, hf⟩ := sr_b hf
      refine sr_iast (wf := (fun q => (wM h t q))) hx hb hK Z 23 22 rfl rfl e_14 (fun _ => rfl) d_M_bodyDone_80 (fun H locs Z => ?_)
      refine lv_aload_n hx hb d_M_bodyDone_81 rfl (lv_at hl 2 rfl) ?_
      refine g_M_80_M X Z d_M_bodyDone_82 ?_
      refine lv_bipush (v := 16) hx hb d_M_bodyDone_85 (by decide) ?_
      refine lv_aload_n hx hb d_M_bodyDone_87 rfl (lv_at hl 2 rfl) ?_
      refine g_M_168_M X Z d_M_bodyDone_88 ?_
      refine lv_imul hx hb d_M_bodyDone_91 ?_
      refine lv_iload_n hx hb d_M_bodyDone_92 rfl (lv_at hl 0 rfl) ?_
      refine lv_iadd hx hb d_M_bodyDone_93 ?_
      refine lv_aload_n hx hb d_M_bodyDone_94 rfl (lv_at hl 2 rfl) ?_
      refine g_M_58_M X Z d_M_bodyDone_95 ?_
      refine lv_bipush (v := 24) hx hb d_M_bodyDone_98 (by decide) ?_
      refine lv_aload_n hx hb d_M_bodyDone_100 rfl (lv_at hl 2 rfl) ?_
      refine g_M_168_M X Z d_M_bodyDone_101 ?_
      refine lv_imul hx hb d_M_bodyDone_104 ?_
      refine lv_iload_n hx hb d_M_bodyDone_105 rfl (lv_at hl 1 rfl) ?_
      refine lv_iadd hx hb d_M_bodyDone_106 ?_
      obtain ⟨v_15, e_16, hf⟩ := sr_b hf
      refine sr_iald hx hb hK Z 17 16 rfl rfl e_16 d_M_bodyDone_107 ?_
      obtain ⟨u_17, e_18, hf⟩ := sr_b hf
      refine sr_iast (wf := (fun q => (wM h t q))) hx hb hK Z 24 23 rfl rfl e_18 (fun _ => rfl) d_M_bodyDone_108 (fun H locs Z => ?_)
      refine lv_aload_n hx hb d_M_bodyDone_109 rfl (lv_at hl 2 rfl) ?_
      refine g_M_83_M X Z d_M_bodyDone_110 ?_
      refine lv_bipush (v := 16) hx hb d_M_bodyDone_113 (by decide) ?_
      refine lv_aload_n hx hb d_M_bodyDone_115 rfl (lv_at hl 2 rfl) ?_
      refine g_M_168_M X Z d_M_bodyDone_116 ?_
      refine lv_imul hx hb d_M_bodyDone_119 ?_
      refine lv_iload_n hx hb d_M_bodyDone_120 rfl (lv_at hl 0 rfl) ?_
      refine lv_iadd hx hb d_M_bodyDone_121 ?_
      refine lv_aload_n hx hb d_M_bodyDone_122 rfl (lv_at hl 2 rfl) ?_
      refine lv_iload_n hx hb d_M_bodyDone_123 rfl (lv_at hl 1 rfl) ?_
      obtain ⟨v_19, e_20, hf⟩ := sr_b hf
      refine sr_cVi (As := [.int v_1]) (rest := [.int ((16 * (u_17 33 0)) + v_4), .ref (h 31)]) X Z sr_cut_self hK (c_M_around e_20) (cw_M_129 X.2.2.2.2.2.1 (by decide)) 0 rfl rfl rfl hl rfl (Nat.le_of_ble_eq_true rfl) d_M_bodyDone_124 (fun H locs Z => ?_)
      obtain ⟨u_21, e_22, hf⟩ := sr_b hf
      refine sr_iast (wf := (fun q => (wM h t q))) hx hb hK Z 25 24 rfl rfl e_22 (fun _ => rfl) d_M_bodyDone_127 (fun H locs Z => ?_)
      refine lv_aload_n hx hb d_M_bodyDone_128 rfl (lv_at hl 2 rfl) ?_
      refine lv_iconst (v := 1) hx hb d_M_bodyDone_129 (by decide) ?_
      refine lv_iload_n hx hb d_M_bodyDone_130 rfl (lv_at hl 1 rfl) ?_
      refine lv_iconst (v := 0) hx hb d_M_bodyDone_131 (by decide) ?_
      obtain ⟨u_23, e_24, hf⟩ := sr_b hf
      refine sr_cVv (As := [.int 1, .int v_1, .int 0]) (rest := []) X Z sr_cut_self hK (c_M_then e_24) (cw_M_209 X.2.2.2.2.2.1 (by decide)) 0 rfl rfl rfl hl rfl (Nat.le_of_ble_eq_true rfl) d_M_bodyDone_132 (fun H locs Z => ?_)
      cases hf
      exact sr_retv X Z d_M_bodyDone_135
    · have hf := sr_if q_6 hf
      refine lv_aload_n hx hb d_M_bodyDone_35 rfl (lv_at hl 2 rfl) ?_
      refine lv_iconst (v := 3) hx hb d_M_bodyDone_36 (by decide) ?_
      refine lv_iload_n hx hb d_M_bodyDone_37 rfl (lv_at hl 3 rfl) ?_
      refine lv_bipush (v := 102) hx hb d_M_bodyDone_38 (by decide) ?_
      obtain ⟨u_25, e_26, hf⟩ := sr_b hf
      refine sr_cVv (As := [.int 3, .int x1, .int 102]) (rest := []) X Z sr_cut_self hK (c_M_then e_26) (cw_M_209 X.2.2.2.2.2.1 (by decide)) 0 rfl rfl rfl hl rfl (Nat.le_of_ble_eq_true rfl) d_M_bodyDone_40 (fun H locs Z => ?_)
      cases hf
      exact sr_retv X Z d_M_bodyDone_43
  · have hf := sr_it q_3 hf
    refine lv_aload_n hx hb d_M_bodyDone_11 rfl (lv_at hl 1 rfl) ?_
    refine lv_iconst (v := 1) hx hb d_M_bodyDone_12 (by decide) ?_
    refine lv_iconst (v := 0) hx hb d_M_bodyDone_13 (by decide) ?_
    refine lv_iconst (v := 0) hx hb d_M_bodyDone_14 (by decide) ?_
    obtain ⟨u_27, e_28, hf⟩ := sr_b hf
    refine sr_cVv (As := [.int 1, .int 0, .int 0]) (rest := []) X Z sr_cut_self hK (c_M_then e_28) (cw_M_209 X.2.2.2.2.2.1 (by decide)) 0 rfl rfl rfl hl rfl (Nat.le_of_ble_eq_true rfl) d_M_bodyDone_15 (fun H locs Z => ?_)
    cases hf
    exact sr_retv X Z d_M_bodyDone_18
end
set_option maxHeartbeats 4000000 in
set_option maxRecDepth 100000 in
theorem c_M_bodyDone {l : Launch} {D : va_G} {h : Nat → Nat} {t : Nat → ClassId} {sz : Nat} {x1 : Int32} {u0 : St} {u' : St} (hf : f_M_bodyDone x1 u0 = some u') : sr_Cv l y_M_bodyDone w_M_bodyDone (sr_rm 1 23) D (tM t) (wM h t u0) (wM h t u') sz [.ref (h 0), .int x1] := by
  refine Met.ofW (cc := b_M_bodyDone) (maxL := 4) (ret := none) (by decide) rfl ?_
  intro p e s m args below meth c s₁ B hml hv
  obtain ⟨rfl, hsz, hP, hK, hD0⟩ := hv
  subst hsz
  have X : sr_X D (tM t) b_M_bodyDone 4 R_M w_M_bodyDone p s m _ meth c (va_A (wM h t u0) s.heap.size) none := ⟨B.exec, B.bytes, hml, findClass_of_methodNamed B.named, B.notSynchronized, atoms_spec (ws := w_M_bodyDone) B.pre, hK, fun q h => Or.inr h, B.returns⟩
  have Z : sr_Z D (va_A (wM h t u0) s.heap.size) s.heap (wM h t u0) s.heap [] := ⟨hP, hD0.self, va_S.rf⟩
  have hl := lv_entry ([.ref (h 0), .int x1] : List Value) (n := 4) (Nat.le_of_ble_eq_true rfl)
  rw [lg_entry_eq]
  exact k_M_bodyDone_0 X Z hl hf
/-! M_report -/
theorem d_M_report_0 : decode b_M_report 0 = .ok (.iload_n 1, 1) := by decide +kernel
theorem d_M_report_1 : decode b_M_report 1 = .ok (.ifCond .ne 14, 3) := by decide +kernel
theorem d_M_report_4 : decode b_M_report 4 = .ok (.aload_n 0, 1) := by decide +kernel
theorem d_M_report_5 : decode b_M_report 5 = .ok (.getfield 43, 3) := by decide +kernel
theorem d_M_report_8 : decode b_M_report 8 = .ok (.aload_n 0, 1) := by decide +kernel
theorem d_M_report_9 : decode b_M_report 9 = .ok (.getfield 168, 3) := by decide +kernel
theorem d_M_report_12 : decode b_M_report 12 = .ok (.iconst 1, 1) := by decide +kernel
theorem d_M_report_13 : decode b_M_report 13 = .ok (.iastore, 1) := by decide +kernel
theorem d_M_report_14 : decode b_M_report 14 = .ok (.return_, 1) := by decide +kernel
theorem d_M_report_15 : decode b_M_report 15 = .ok (.aload_n 0, 1) := by decide +kernel
theorem d_M_report_16 : decode b_M_report 16 = .ok (.getfield 7, 3) := by decide +kernel
theorem d_M_report_19 : decode b_M_report 19 = .ok (.iload_n 1, 1) := by decide +kernel
theorem d_M_report_20 : decode b_M_report 20 = .ok (.iaload, 1) := by decide +kernel
theorem d_M_report_21 : decode b_M_report 21 = .ok (.istore_n 2, 1) := by decide +kernel
theorem d_M_report_22 : decode b_M_report 22 = .ok (.aload_n 0, 1) := by decide +kernel
theorem d_M_report_23 : decode b_M_report 23 = .ok (.getfield 13, 3) := by decide +kernel
theorem d_M_report_26 : decode b_M_report 26 = .ok (.iload_n 1, 1) := by decide +kernel
theorem d_M_report_27 : decode b_M_report 27 = .ok (.iaload, 1) := by decide +kernel
theorem d_M_report_28 : decode b_M_report 28 = .ok (.iconst 1, 1) := by decide +kernel
theorem d_M_report_29 : decode b_M_report 29 = .ok (.if_icmp .ne 19, 3) := by decide +kernel
theorem d_M_report_32 : decode b_M_report 32 = .ok (.aload_n 0, 1) := by decide +kernel
theorem d_M_report_33 : decode b_M_report 33 = .ok (.iload_n 2, 1) := by decide +kernel
theorem d_M_report_34 : decode b_M_report 34 = .ok (.iconst (-1), 1) := by decide +kernel
theorem d_M_report_35 : decode b_M_report 35 = .ok (.invokevirtual 213, 3) := by decide +kernel
theorem d_M_report_38 : decode b_M_report 38 = .ok (.aload_n 0, 1) := by decide +kernel
theorem d_M_report_39 : decode b_M_report 39 = .ok (.iconst 1, 1) := by decide +kernel
theorem d_M_report_40 : decode b_M_report 40 = .ok (.iload_n 2, 1) := by decide +kernel
theorem d_M_report_41 : decode b_M_report 41 = .ok (.iconst 0, 1) := by decide +kernel
theorem d_M_report_42 : decode b_M_report 42 = .ok (.invokevirtual 209, 3) := by decide +kernel
theorem d_M_report_45 : decode b_M_report 45 = .ok (.goto 254, 3) := by decide +kernel
theorem d_M_report_48 : decode b_M_report 48 = .ok (.aload_n 0, 1) := by decide +kernel
theorem d_M_report_49 : decode b_M_report 49 = .ok (.getfield 13, 3) := by decide +kernel
theorem d_M_report_52 : decode b_M_report 52 = .ok (.iload_n 1, 1) := by decide +kernel
theorem d_M_report_53 : decode b_M_report 53 = .ok (.iaload, 1) := by decide +kernel
theorem d_M_report_54 : decode b_M_report 54 = .ok (.iconst 2, 1) := by decide +kernel
theorem d_M_report_55 : decode b_M_report 55 = .ok (.if_icmp .ne 54, 3) := by decide +kernel
theorem d_M_report_58 : decode b_M_report 58 = .ok (.aload_n 0, 1) := by decide +kernel
theorem d_M_report_59 : decode b_M_report 59 = .ok (.iload_n 2, 1) := by decide +kernel
theorem d_M_report_60 : decode b_M_report 60 = .ok (.iconst (-1), 1) := by decide +kernel
theorem d_M_report_61 : decode b_M_report 61 = .ok (.invokevirtual 213, 3) := by decide +kernel
theorem d_M_report_64 : decode b_M_report 64 = .ok (.aload_n 0, 1) := by decide +kernel
theorem d_M_report_65 : decode b_M_report 65 = .ok (.iload_n 2, 1) := by decide +kernel
theorem d_M_report_66 : decode b_M_report 66 = .ok (.bipush 12, 2) := by decide +kernel
theorem d_M_report_68 : decode b_M_report 68 = .ok (.invokevirtual 183, 3) := by decide +kernel
theorem d_M_report_71 : decode b_M_report 71 = .ok (.aload_n 0, 1) := by decide +kernel
theorem d_M_report_72 : decode b_M_report 72 = .ok (.bipush 8, 2) := by decide +kernel
theorem d_M_report_74 : decode b_M_report 74 = .ok (.iload_n 2, 1) := by decide +kernel
theorem d_M_report_75 : decode b_M_report 75 = .ok (.invokevirtual 186, 3) := by decide +kernel
theorem d_M_report_78 : decode b_M_report 78 = .ok (.aload_n 0, 1) := by decide +kernel
theorem d_M_report_79 : decode b_M_report 79 = .ok (.getfield 67, 3) := by decide +kernel
theorem d_M_report_82 : decode b_M_report 82 = .ok (.bipush 24, 2) := by decide +kernel
theorem d_M_report_84 : decode b_M_report 84 = .ok (.aload_n 0, 1) := by decide +kernel
theorem d_M_report_85 : decode b_M_report 85 = .ok (.getfield 168, 3) := by decide +kernel
theorem d_M_report_88 : decode b_M_report 88 = .ok (.imul, 1) := by decide +kernel
theorem d_M_report_89 : decode b_M_report 89 = .ok (.aload_n 0, 1) := by decide +kernel
theorem d_M_report_90 : decode b_M_report 90 = .ok (.getfield 64, 3) := by decide +kernel
theorem d_M_report_93 : decode b_M_report 93 = .ok (.bipush 24, 2) := by decide +kernel
theorem d_M_report_95 : decode b_M_report 95 = .ok (.aload_n 0, 1) := by decide +kernel
theorem d_M_report_96 : decode b_M_report 96 = .ok (.getfield 168, 3) := by decide +kernel
theorem d_M_report_99 : decode b_M_report 99 = .ok (.imul, 1) := by decide +kernel
theorem d_M_report_100 : decode b_M_report 100 = .ok (.iload_n 2, 1) := by decide +kernel
theorem d_M_report_101 : decode b_M_report 101 = .ok (.iadd, 1) := by decide +kernel
theorem d_M_report_102 : decode b_M_report 102 = .ok (.iaload, 1) := by decide +kernel
theorem d_M_report_103 : decode b_M_report 103 = .ok (.iadd, 1) := by decide +kernel
theorem d_M_report_104 : decode b_M_report 104 = .ok (.iconst 0, 1) := by decide +kernel
theorem d_M_report_105 : decode b_M_report 105 = .ok (.bastore, 1) := by decide +kernel
theorem d_M_report_106 : decode b_M_report 106 = .ok (.goto 193, 3) := by decide +kernel
theorem d_M_report_109 : decode b_M_report 109 = .ok (.aload_n 0, 1) := by decide +kernel
theorem d_M_report_110 : decode b_M_report 110 = .ok (.getfield 16, 3) := by decide +kernel
theorem d_M_report_113 : decode b_M_report 113 = .ok (.iload_n 2, 1) := by decide +kernel
theorem d_M_report_114 : decode b_M_report 114 = .ok (.iaload, 1) := by decide +kernel
theorem d_M_report_115 : decode b_M_report 115 = .ok (.bipush 8, 2) := by decide +kernel
theorem d_M_report_117 : decode b_M_report 117 = .ok (.if_icmp .ne 34, 3) := by decide +kernel
theorem d_M_report_120 : decode b_M_report 120 = .ok (.aload_n 0, 1) := by decide +kernel
theorem d_M_report_121 : decode b_M_report 121 = .ok (.iload_n 2, 1) := by decide +kernel
theorem d_M_report_122 : decode b_M_report 122 = .ok (.iconst 0, 1) := by decide +kernel
theorem d_M_report_123 : decode b_M_report 123 = .ok (.iload_n 1, 1) := by decide +kernel
theorem d_M_report_124 : decode b_M_report 124 = .ok (.invokevirtual 111, 3) := by decide +kernel
theorem d_M_report_127 : decode b_M_report 127 = .ok (.istore_n 3, 1) := by decide +kernel
theorem d_M_report_128 : decode b_M_report 128 = .ok (.iload_n 3, 1) := by decide +kernel
theorem d_M_report_129 : decode b_M_report 129 = .ok (.ifCond .lt 12, 3) := by decide +kernel
theorem d_M_report_132 : decode b_M_report 132 = .ok (.aload_n 0, 1) := by decide +kernel
theorem d_M_report_133 : decode b_M_report 133 = .ok (.iload_n 3, 1) := by decide +kernel
theorem d_M_report_134 : decode b_M_report 134 = .ok (.iconst 1, 1) := by decide +kernel
theorem d_M_report_135 : decode b_M_report 135 = .ok (.invokevirtual 183, 3) := by decide +kernel
theorem d_M_report_138 : decode b_M_report 138 = .ok (.goto 10, 3) := by decide +kernel
theorem d_M_report_141 : decode b_M_report 141 = .ok (.aload_n 0, 1) := by decide +kernel
theorem d_M_report_142 : decode b_M_report 142 = .ok (.iconst 1, 1) := by decide +kernel
theorem d_M_report_143 : decode b_M_report 143 = .ok (.iload_n 2, 1) := by decide +kernel
theorem d_M_report_144 : decode b_M_report 144 = .ok (.iconst 0, 1) := by decide +kernel
theorem d_M_report_145 : decode b_M_report 145 = .ok (.invokevirtual 209, 3) := by decide +kernel
theorem d_M_report_148 : decode b_M_report 148 = .ok (.goto 151, 3) := by decide +kernel
theorem d_M_report_151 : decode b_M_report 151 = .ok (.aload_n 0, 1) := by decide +kernel
theorem d_M_report_152 : decode b_M_report 152 = .ok (.getfield 16, 3) := by decide +kernel
theorem d_M_report_155 : decode b_M_report 155 = .ok (.iload_n 2, 1) := by decide +kernel
theorem d_M_report_156 : decode b_M_report 156 = .ok (.iaload, 1) := by decide +kernel
theorem d_M_report_157 : decode b_M_report 157 = .ok (.bipush 9, 2) := by decide +kernel
theorem d_M_report_159 : decode b_M_report 159 = .ok (.if_icmp .ne 94, 3) := by decide +kernel
theorem d_M_report_162 : decode b_M_report 162 = .ok (.iconst 1, 1) := by decide +kernel
theorem d_M_report_163 : decode b_M_report 163 = .ok (.istore_n 3, 1) := by decide +kernel
theorem d_M_report_164 : decode b_M_report 164 = .ok (.iconst 1, 1) := by decide +kernel
theorem d_M_report_165 : decode b_M_report 165 = .ok (.istore 4, 2) := by decide +kernel
theorem d_M_report_167 : decode b_M_report 167 = .ok (.iload 4, 2) := by decide +kernel
theorem d_M_report_169 : decode b_M_report 169 = .ok (.aload_n 0, 1) := by decide +kernel
theorem d_M_report_170 : decode b_M_report 170 = .ok (.getfield 100, 3) := by decide +kernel
theorem d_M_report_173 : decode b_M_report 173 = .ok (.if_icmp .ge 62, 3) := by decide +kernel
theorem d_M_report_176 : decode b_M_report 176 = .ok (.iload_n 3, 1) := by decide +kernel
theorem d_M_report_177 : decode b_M_report 177 = .ok (.ifCond .eq 50, 3) := by decide +kernel
theorem d_M_report_180 : decode b_M_report 180 = .ok (.aload_n 0, 1) := by decide +kernel
theorem d_M_report_181 : decode b_M_report 181 = .ok (.getfield 7, 3) := by decide +kernel
theorem d_M_report_184 : decode b_M_report 184 = .ok (.iload 4, 2) := by decide +kernel
theorem d_M_report_186 : decode b_M_report 186 = .ok (.iaload, 1) := by decide +kernel
theorem d_M_report_187 : decode b_M_report 187 = .ok (.iload_n 2, 1) := by decide +kernel
theorem d_M_report_188 : decode b_M_report 188 = .ok (.if_icmp .ne 35, 3) := by decide +kernel
theorem d_M_report_191 : decode b_M_report 191 = .ok (.aload_n 0, 1) := by decide +kernel
theorem d_M_report_192 : decode b_M_report 192 = .ok (.getfield 13, 3) := by decide +kernel
theorem d_M_report_195 : decode b_M_report 195 = .ok (.iload 4, 2) := by decide +kernel
theorem d_M_report_197 : decode b_M_report 197 = .ok (.iaload, 1) := by decide +kernel
theorem d_M_report_198 : decode b_M_report 198 = .ok (.ifCond .ne 25, 3) := by decide +kernel
theorem d_M_report_201 : decode b_M_report 201 = .ok (.aload_n 0, 1) := by decide +kernel
theorem d_M_report_202 : decode b_M_report 202 = .ok (.iload 4, 2) := by decide +kernel
theorem d_M_report_204 : decode b_M_report 204 = .ok (.invokevirtual 171, 3) := by decide +kernel
theorem d_M_report_207 : decode b_M_report 207 = .ok (.bipush 8, 2) := by decide +kernel
theorem d_M_report_209 : decode b_M_report 209 = .ok (.if_icmp .eq 14, 3) := by decide +kernel
theorem d_M_report_212 : decode b_M_report 212 = .ok (.aload_n 0, 1) := by decide +kernel
theorem d_M_report_213 : decode b_M_report 213 = .ok (.iload 4, 2) := by decide +kernel
theorem d_M_report_215 : decode b_M_report 215 = .ok (.invokevirtual 171, 3) := by decide +kernel
theorem d_M_report_218 : decode b_M_report 218 = .ok (.bipush 9, 2) := by decide +kernel
theorem d_M_report_220 : decode b_M_report 220 = .ok (.if_icmp .ne 7, 3) := by decide +kernel
theorem d_M_report_223 : decode b_M_report 223 = .ok (.iconst 1, 1) := by decide +kernel
theorem d_M_report_224 : decode b_M_report 224 = .ok (.goto 4, 3) := by decide +kernel
theorem d_M_report_227 : decode b_M_report 227 = .ok (.iconst 0, 1) := by decide +kernel
theorem d_M_report_228 : decode b_M_report 228 = .ok (.istore_n 3, 1) := by decide +kernel
theorem d_M_report_229 : decode b_M_report 229 = .ok (.iinc 4 1, 3) := by decide +kernel
theorem d_M_report_232 : decode b_M_report 232 = .ok (.goto (-65), 3) := by decide +kernel
theorem d_M_report_235 : decode b_M_report 235 = .ok (.aload_n 0, 1) := by decide +kernel
theorem d_M_report_236 : decode b_M_report 236 = .ok (.iload_n 3, 1) := by decide +kernel
theorem d_M_report_237 : decode b_M_report 237 = .ok (.ifCond .eq 7, 3) := by decide +kernel
theorem d_M_report_240 : decode b_M_report 240 = .ok (.iconst 1, 1) := by decide +kernel
theorem d_M_report_241 : decode b_M_report 241 = .ok (.goto 4, 3) := by decide +kernel
theorem d_M_report_244 : decode b_M_report 244 = .ok (.iconst 0, 1) := by decide +kernel
theorem d_M_report_245 : decode b_M_report 245 = .ok (.iload_n 2, 1) := by decide +kernel
theorem d_M_report_246 : decode b_M_report 246 = .ok (.iconst 0, 1) := by decide +kernel
theorem d_M_report_247 : decode b_M_report 247 = .ok (.invokevirtual 209, 3) := by decide +kernel
theorem d_M_report_250 : decode b_M_report 250 = .ok (.goto 49, 3) := by decide +kernel
theorem d_M_report_253 : decode b_M_report 253 = .ok (.aload_n 0, 1) := by decide +kernel
theorem d_M_report_254 : decode b_M_report 254 = .ok (.getfield 16, 3) := by decide +kernel
theorem d_M_report_257 : decode b_M_report 257 = .ok (.iload_n 2, 1) := by decide +kernel
theorem d_M_report_258 : decode b_M_report 258 = .ok (.iaload, 1) := by decide +kernel
theorem d_M_report_259 : decode b_M_report 259 = .ok (.bipush 10, 2) := by decide +kernel
theorem d_M_report_261 : decode b_M_report 261 = .ok (.if_icmp .ne 13, 3) := by decide +kernel
theorem d_M_report_264 : decode b_M_report 264 = .ok (.aload_n 0, 1) := by decide +kernel
theorem d_M_report_265 : decode b_M_report 265 = .ok (.iconst 1, 1) := by decide +kernel
theorem d_M_report_266 : decode b_M_report 266 = .ok (.iload_n 2, 1) := by decide +kernel
theorem d_M_report_267 : decode b_M_report 267 = .ok (.iconst 0, 1) := by decide +kernel
theorem d_M_report_268 : decode b_M_report 268 = .ok (.invokevirtual 209, 3) := by decide +kernel
theorem d_M_report_271 : decode b_M_report 271 = .ok (.goto 28, 3) := by decide +kernel
theorem d_M_report_274 : decode b_M_report 274 = .ok (.aload_n 0, 1) := by decide +kernel
theorem d_M_report_275 : decode b_M_report 275 = .ok (.getfield 16, 3) := by decide +kernel
theorem d_M_report_278 : decode b_M_report 278 = .ok (.iload_n 2, 1) := by decide +kernel
theorem d_M_report_279 : decode b_M_report 279 = .ok (.iaload, 1) := by decide +kernel
theorem d_M_report_280 : decode b_M_report 280 = .ok (.bipush 11, 2) := by decide +kernel
theorem d_M_report_282 : decode b_M_report 282 = .ok (.if_icmp .ne 12, 3) := by decide +kernel
theorem d_M_report_285 : decode b_M_report 285 = .ok (.aload_n 0, 1) := by decide +kernel
theorem d_M_report_286 : decode b_M_report 286 = .ok (.iload_n 2, 1) := by decide +kernel
theorem d_M_report_287 : decode b_M_report 287 = .ok (.iconst 4, 1) := by decide +kernel
theorem d_M_report_288 : decode b_M_report 288 = .ok (.invokevirtual 183, 3) := by decide +kernel
theorem d_M_report_291 : decode b_M_report 291 = .ok (.goto 8, 3) := by decide +kernel
theorem d_M_report_294 : decode b_M_report 294 = .ok (.aload_n 0, 1) := by decide +kernel
theorem d_M_report_295 : decode b_M_report 295 = .ok (.iload_n 1, 1) := by decide +kernel
theorem d_M_report_296 : decode b_M_report 296 = .ok (.invokevirtual 216, 3) := by decide +kernel
theorem d_M_report_299 : decode b_M_report 299 = .ok (.return_, 1) := by decide +kernel
section
variable {p : Program} {l : Launch} {e : Env} {s : State} {m : MethodId} {args : Array Value} {below : List Frame} {meth : Method} {c : Code} {H : Heap} {locs : List Loc} {ls : Array Slot} {D : va_G} {A : Nat → Prop} {h o : Nat → Nat} {t v : Nat → ClassId}
def f_M_report_245 (x2 : Int32) (y0 : Int32) (u0 : St) : Option (St) :=
  (f_M_then y0 x2 0 u0).bind fun u_30 =>
  some u_30
set_option maxHeartbeats 4000000 in
set_option maxRecDepth 100000 in
theorem k_M_report_245 {x2 : Int32} {y0 : Int32} {u0 : St} {u' : St} (X : sr_X D (tM t) b_M_report 5 R_M w_M_report p s m args meth c A none) (Z : sr_Z D A s.heap (wM h t u0) H locs) (hl : lv_has ls 5 [(2, .int x2)]) (hf : f_M_report_245 x2 y0 u0 = some u') : W p l e (sr_rm 2 46) s m args below meth c H locs 0 0 (sr_Qv D (tM t) below args s A (wM h t u')) (F0 m 245 ls [.int y0, .ref (h 0)]) := by
  have hx := X.1
  have hb := X.2.1
  have hK := X.2.2.2.2.2.2.1
  unfold f_M_report_245 at hf
  refine lv_iload_n hx hb d_M_report_245 rfl (lv_at hl 0 rfl) ?_
  refine lv_iconst (v := 0) hx hb d_M_report_246 (by decide) ?_
  obtain ⟨u_30, e_31, hf⟩ := sr_b hf
  refine sr_cVv (As := [.int y0, .int x2, .int 0]) (rest := []) X Z sr_cut_self hK (c_M_then e_31) (cw_M_209 X.2.2.2.2.2.1 (by decide)) 0 rfl rfl rfl hl rfl (Nat.le_of_ble_eq_true rfl) d_M_report_247 (fun H locs Z => ?_)
  refine lv_goto (tgt := 299) hx hb d_M_report_250 rfl ?_
  cases hf
  exact sr_retv X Z d_M_report_299
def f_M_report_228 (k167 : Int32 → Int32 → Int32 → St → Option (St)) (x2 : Int32) (x4 : Int32) (y0 : Int32) (u0 : St) : Option (St) :=
  k167 x2 y0 (x4 + 1) u0
set_option maxHeartbeats 4000000 in
set_option maxRecDepth 100000 in
theorem k_M_report_228 {k167 : Int32 → Int32 → Int32 → St → Option (St)} {x2 : Int32} {x4 : Int32} {y0 : Int32} {u0 : St} {u' : St} (X : sr_X D (tM t) b_M_report 5 R_M w_M_report p s m args meth c A none) (hk167 : ∀ (x2 : Int32) (x3 : Int32) (x4 : Int32) (u0 : St) (H : Heap) (locs : List Loc) (ls : Array Slot), sr_Z D A s.heap (wM h t u0) H locs → lv_has ls 5 [(0, .ref (h 0)), (2, .int x2), (3, .int x3), (4, .int x4)] → k167 x2 x3 x4 u0 = some u' → W p l e (sr_rm 2 46) s m args below meth c H locs 0 0 (sr_Qv D (tM t) below args s A (wM h t u')) (F0 m 167 ls [])) (Z : sr_Z D A s.heap (wM h t u0) H locs) (hl : lv_has ls 5 [(0, .ref (h 0)), (2, .int x2), (4, .int x4)]) (hf : f_M_report_228 k167 x2 x4 y0 u0 = some u') : W p l e (sr_rm 2 46) s m args below meth c H locs 0 0 (sr_Qv D (tM t) below args s A (wM h t u')) (F0 m 228 ls [.int y0]) := by
  have hx := X.1
  have hb := X.2.1
  have hK := X.2.2.2.2.2.2.1
  unfold f_M_report_228 at hf
  refine lv_istore_n (lv' := [(3, .int y0), (0, .ref (h 0)), (2, .int x2), (4, .int x4)]) hx hb d_M_report_228 rfl hl (by decide) rfl (fun ls hl => ?_)
  refine lv_iinc (k := 3) (v := x4 + 1) (lv' := [(4, .int (x4 + 1)), (3, .int y0), (0, .ref (h 0)), (2, .int x2)]) hx hb d_M_report_229 hl rfl rfl (by decide) rfl (fun ls hl => ?_)
  refine lv_goto (tgt := 167) hx hb d_M_report_232 rfl ?_
  exact hk167 x2 y0 (x4 + 1) u0 _ _ _ Z (lv_sub hl [2, 3, 1, 0] rfl) hf
def f_M_report_227 (k167 : Int32 → Int32 → Int32 → St → Option (St)) (x2 : Int32) (x4 : Int32) (u0 : St) : Option (St) :=
  f_M_report_228 k167 x2 x4 0 u0
set_option maxHeartbeats 4000000 in
set_option maxRecDepth 100000 in
theorem k_M_report_227 {k167 : Int32 → Int32 → Int32 → St → Option (St)} {x2 : Int32} {x4 : Int32} {u0 : St} {u' : St} (X : sr_X D (tM t) b_M_report 5 R_M w_M_report p s m args meth c A none) (hk167 : ∀ (x2 : Int32) (x3 : Int32) (x4 : Int32) (u0 : St) (H : Heap) (locs : List Loc) (ls : Array Slot), sr_Z D A s.heap (wM h t u0) H locs → lv_has ls 5 [(0, .ref (h 0)), (2, .int x2), (3, .int x3), (4, .int x4)] → k167 x2 x3 x4 u0 = some u' → W p l e (sr_rm 2 46) s m args below meth c H locs 0 0 (sr_Qv D (tM t) below args s A (wM h t u')) (F0 m 167 ls [])) (Z : sr_Z D A s.heap (wM h t u0) H locs) (hl : lv_has ls 5 [(0, .ref (h 0)), (2, .int x2), (4, .int x4)]) (hf : f_M_report_227 k167 x2 x4 u0 = some u') : W p l e (sr_rm 2 46) s m args below meth c H locs 0 0 (sr_Qv D (tM t) below args s A (wM h t u')) (F0 m 227 ls []) := by
  have hx := X.1
  have hb := X.2.1
  have hK := X.2.2.2.2.2.2.1
  unfold f_M_report_227 at hf
  refine lv_iconst (v := 0) hx hb d_M_report_227 (by decide) ?_
  exact k_M_report_228 X hk167 Z (lv_sub hl [0, 1, 2] rfl) hf
def f_M_report_223 (k167 : Int32 → Int32 → Int32 → St → Option (St)) (x2 : Int32) (x4 : Int32) (u0 : St) : Option (St) :=
  f_M_report_228 k167 x2 x4 1 u0
set_option maxHeartbeats 4000000 in
set_option maxRecDepth 100000 in
theorem k_M_report_223 {k167 : Int32 → Int32 → Int32 → St → Option (St)} {x2 : Int32} {x4 : Int32} {u0 : St} {u' : St} (X : sr_X D (tM t) b_M_report 5 R_M w_M_report p s m args meth c A none) (hk167 : ∀ (x2 : Int32) (x3 : Int32) (x4 : Int32) (u0 : St) (H : Heap) (locs : List Loc) (ls : Array Slot), sr_Z D A s.heap (wM h t u0) H locs → lv_has ls 5 [(0, .ref (h 0)), (2, .int x2), (3, .int x3), (4, .int x4)] → k167 x2 x3 x4 u0 = some u' → W p l e (sr_rm 2 46) s m args below meth c H locs 0 0 (sr_Qv D (tM t) below args s A (wM h t u')) (F0 m 167 ls [])) (Z : sr_Z D A s.heap (wM h t u0) H locs) (hl : lv_has ls 5 [(0, .ref (h 0)), (2, .int x2), (4, .int x4)]) (hf : f_M_report_223 k167 x2 x4 u0 = some u') : W p l e (sr_rm 2 46) s m args below meth c H locs 0 0 (sr_Qv D (tM t) below args s A (wM h t u')) (F0 m 223 ls []) := by
  have hx := X.1
  have hb := X.2.1
  have hK := X.2.2.2.2.2.2.1
  unfold f_M_report_223 at hf
  refine lv_iconst (v := 1) hx hb d_M_report_223 (by decide) ?_
  refine lv_goto (tgt := 228) hx hb d_M_report_224 rfl ?_
  exact k_M_report_228 X hk167 Z (lv_sub hl [0, 1, 2] rfl) hf
def f_M_report_167 (k167 : Int32 → Int32 → Int32 → St → Option (St)) (x2 : Int32) (x3 : Int32) (x4 : Int32) (u0 : St) : Option (St) :=
  if (u0 0 0) ≤ x4 then
    if x3 = 0 then
      f_M_report_245 x2 0 u0
    else
      f_M_report_245 x2 1 u0
  else
    if x3 = 0 then
      f_M_report_227 k167 x2 x4 u0
    else
      (sr_ald 24 (u0 1) x4).bind fun v_33 =>
      if v_33 = x2 then
        (sr_ald 24 (u0 2) x4).bind fun v_36 =>
        if v_36 = 0 then
          (f_M_st u0 x4).bind fun v_39 =>
          if v_39 = 8 then
            f_M_report_223 k167 x2 x4 u0
          else
            (f_M_st u0 x4).bind fun v_42 =>
            if v_42 = 9 then
              f_M_report_223 k167 x2 x4 u0
            else
              f_M_report_227 k167 x2 x4 u0
        else
          f_M_report_223 k167 x2 x4 u0
      else
        f_M_report_223 k167 x2 x4 u0
set_option maxHeartbeats 4000000 in
set_option maxRecDepth 100000 in
theorem k_M_report_167 {k167 : Int32 → Int32 → Int32 → St → Option (St)} {x2 : Int32} {x3 : Int32} {x4 : Int32} {u0 : St} {u' : St} (X : sr_X D (tM t) b_M_report 5 R_M w_M_report p s m args meth c A none) (hk167 : ∀ (x2 : Int32) (x3 : Int32) (x4 : Int32) (u0 : St) (H : Heap) (locs : List Loc) (ls : Array Slot), sr_Z D A s.heap (wM h t u0) H locs → lv_has ls 5 [(0, .ref (h 0)), (2, .int x2), (3, .int x3), (4, .int x4)] → k167 x2 x3 x4 u0 = some u' → W p l e (sr_rm 2 46) s m args below meth c H locs 0 0 (sr_Qv D (tM t) below args s A (wM h t u')) (F0 m 167 ls [])) (Z : sr_Z D A s.heap (wM h t u0) H locs) (hl : lv_has ls 5 [(0, .ref (h 0)), (2, .int x2), (3, .int x3), (4, .int x4)]) (hf : f_M_report_167 k167 x2 x3 x4 u0 = some u') : W p l e (sr_rm 2 46) s m args below meth c H locs 0 0 (sr_Qv D (tM t) below args s A (wM h t u')) (F0 m 167 ls []) := by
  have hx := X.1
  have hb := X.2.1
  have hK := X.2.2.2.2.2.2.1
  unfold f_M_report_167 at hf
  refine lv_iload hx hb d_M_report_167 (lv_at hl 3 rfl) ?_
  refine lv_aload_n hx hb d_M_report_169 rfl (lv_at hl 0 rfl) ?_
  refine g_M_100_M X Z d_M_report_170 ?_
  refine lv_icmp_ge (tgt := 235) hx hb d_M_report_173 rfl (fun q_28 => ?_) (fun q_28 => ?_)
  · have hf := sr_it q_28 hf
    refine lv_aload_n hx hb d_M_report_235 rfl (lv_at hl 0 rfl) ?_
    refine lv_iload_n hx hb d_M_report_236 rfl (lv_at hl 2 rfl) ?_
    refine lv_if_eq (tgt := 244) hx hb d_M_report_237 rfl (fun q_29 => ?_) (fun q_29 => ?_)
    · have hf := sr_it q_29 hf
      refine lv_iconst (v := 0) hx hb d_M_report_244 (by decide) ?_
      exact k_M_report_245 X Z (lv_sub hl [1] rfl) hf
    · have hf := sr_if q_29 hf
      refine lv_iconst (v := 1) hx hb d_M_report_240 (by decide) ?_
      refine lv_goto (tgt := 245) hx hb d_M_report_241 rfl ?_
      exact k_M_report_245 X Z (lv_sub hl [1] rfl) hf
  · have hf := sr_if q_28 hf
    refine lv_iload_n hx hb d_M_report_176 rfl (lv_at hl 2 rfl) ?_
    refine lv_if_eq (tgt := 227) hx hb d_M_report_177 rfl (fun q_32 => ?_) (fun q_32 => ?_)
    · have hf := sr_it q_32 hf
      exact k_M_report_227 X hk167 Z (lv_sub hl [0, 1, 3] rfl) hf
    · have hf := sr_if q_32 hf
      refine lv_aload_n hx hb d_M_report_180 rfl (lv_at hl 0 rfl) ?_
      refine g_M_7_M X Z d_M_report_181 ?_
      refine lv_iload hx hb d_M_report_184 (lv_at hl 3 rfl) ?_
      obtain ⟨v_33, e_34, hf⟩ := sr_b hf
      refine sr_iald hx hb hK Z 1 0 rfl rfl e_34 d_M_report_186 ?_
      refine lv_iload_n hx hb d_M_report_187 rfl (lv_at hl 1 rfl) ?_
      refine lv_icmp_ne (tgt := 223) hx hb d_M_report_188 rfl (fun q_35 => ?_) (fun q_35 => ?_)
      · have hf := sr_if q_35 hf
        exact k_M_report_223 X hk167 Z (lv_sub hl [0, 1, 3] rfl) hf
      · have hf := sr_it q_35 hf
        refine lv_aload_n hx hb d_M_report_191 rfl (lv_at hl 0 rfl) ?_
        refine g_M_13_M X Z d_M_report_192 ?_
        refine lv_iload hx hb d_M_report_195 (lv_at hl 3 rfl) ?_
        obtain ⟨v_36, e_37, hf⟩ := sr_b hf
        refine sr_iald hx hb hK Z 2 1 rfl rfl e_37 d_M_report_197 ?_
        refine lv_if_ne (tgt := 223) hx hb d_M_report_198 rfl (fun q_38 => ?_) (fun q_38 => ?_)
        · have hf := sr_if q_38 hf
          exact k_M_report_223 X hk167 Z (lv_sub hl [0, 1, 3] rfl) hf
        · have hf := sr_it q_38 hf
          refine lv_aload_n hx hb d_M_report_201 rfl (lv_at hl 0 rfl) ?_
          refine lv_iload hx hb d_M_report_202 (lv_at hl 3 rfl) ?_
          obtain ⟨v_39, e_40, hf⟩ := sr_b hf
          refine sr_cVi (As := [.int x4]) (rest := []) X Z sr_cut_self hK (c_M_st e_40) (cw_M_171 X.2.2.2.2.2.1 (by decide)) 0 rfl rfl rfl hl rfl (Nat.le_of_ble_eq_true rfl) d_M_report_204 (fun H locs Z => ?_)
          refine lv_bipush (v := 8) hx hb d_M_report_207 (by decide) ?_
          refine lv_icmp_eq (tgt := 223) hx hb d_M_report_209 rfl (fun q_41 => ?_) (fun q_41 => ?_)
          · have hf := sr_it q_41 hf
            exact k_M_report_223 X hk167 Z (lv_sub hl [0, 1, 3] rfl) hf
          · have hf := sr_if q_41 hf
            refine lv_aload_n hx hb d_M_report_212 rfl (lv_at hl 0 rfl) ?_
            refine lv_iload hx hb d_M_report_213 (lv_at hl 3 rfl) ?_
            obtain ⟨v_42, e_43, hf⟩ := sr_b hf
            refine sr_cVi (As := [.int x4]) (rest := []) X Z sr_cut_self hK (c_M_st e_43) (cw_M_171 X.2.2.2.2.2.1 (by decide)) 0 rfl rfl rfl hl rfl (Nat.le_of_ble_eq_true rfl) d_M_report_215 (fun H locs Z => ?_)
            refine lv_bipush (v := 9) hx hb d_M_report_218 (by decide) ?_
            refine lv_icmp_ne (tgt := 227) hx hb d_M_report_220 rfl (fun q_44 => ?_) (fun q_44 => ?_)
            · have hf := sr_if q_44 hf
              exact k_M_report_227 X hk167 Z (lv_sub hl [0, 1, 3] rfl) hf
            · have hf := sr_it q_44 hf
              exact k_M_report_223 X hk167 Z (lv_sub hl [0, 1, 3] rfl) hf
def f_M_report_167_it : Nat → Int32 → Int32 → Int32 → St → Option (St)
  | 0 => fun _ _ _ _ => none
  | n + 1 => fun x2 x3 x4 u0 => f_M_report_167 (f_M_report_167_it n) x2 x3 x4 u0
set_option maxHeartbeats 4000000 in
set_option maxRecDepth 100000 in
theorem k_M_report_167_it {u' : St} (X : sr_X D (tM t) b_M_report 5 R_M w_M_report p s m args meth c A none) (n : Nat) : ∀ {x2 : Int32} {x3 : Int32} {x4 : Int32} {u0 : St} {H : Heap} {locs : List Loc} {ls : Array Slot}, sr_Z D A s.heap (wM h t u0) H locs → lv_has ls 5 [(0, .ref (h 0)), (2, .int x2), (3, .int x3), (4, .int x4)] → f_M_report_167_it n x2 x3 x4 u0 = some u' → W p l e (sr_rm 2 46) s m args below meth c H locs 0 0 (sr_Qv D (tM t) below args s A (wM h t u')) (F0 m 167 ls []) := by
  induction n with
  | zero => intro x2 x3 x4 u0 H locs ls Z hl hf; exact absurd hf (by simp [f_M_report_167_it])
  | succ n ih =>
    intro x2 x3 x4 u0 H locs ls Z hl hf
    exact k_M_report_167 X (fun x2 x3 x4 u0 H locs ls Z hl hf => ih Z hl hf) Z hl hf
def f_M_report_148 (u0 : St) : Option (St) :=
  some u0
set_option maxHeartbeats 4000000 in
set_option maxRecDepth 100000 in
theorem k_M_report_148 {u0 : St} {u' : St} (X : sr_X D (tM t) b_M_report 5 R_M w_M_report p s m args meth c A none) (Z : sr_Z D A s.heap (wM h t u0) H locs) (hl : lv_has ls 5 []) (hf : f_M_report_148 u0 = some u') : W p l e (sr_rm 2 46) s m args below meth c H locs 0 0 (sr_Qv D (tM t) below args s A (wM h t u')) (F0 m 148 ls []) := by
  have hx := X.1
  have hb := X.2.1
  have hK := X.2.2.2.2.2.2.1
  unfold f_M_report_148 at hf
  refine lv_goto (tgt := 299) hx hb d_M_report_148 rfl ?_
  cases hf
  exact sr_retv X Z d_M_report_299
def f_M_report (x1 : Int32) (u0 : St) : Option (St) :=
  if x1 = 0 then
    (sr_ast 8 u0 17 (u0 33 0) 1).bind fun u_66 =>
    some u_66
  else
    (sr_ald 24 (u0 1) x1).bind fun v_2 =>
    (sr_ald 24 (u0 2) x1).bind fun v_4 =>
    if v_4 = 1 then
      (f_M_carry v_2 (-1) u0).bind fun u_62 =>
      (f_M_then 1 v_2 0 u_62).bind fun u_64 =>
      some u_64
    else
      (sr_ald 24 (u0 2) x1).bind fun v_7 =>
      if v_7 = 2 then
        (f_M_carry v_2 (-1) u0).bind fun u_52 =>
        (f_M_put v_2 12 u_52).bind fun u_54 =>
        (f_M_write 8 v_2 u_54).bind fun u_56 =>
        (sr_ald 192 (u_56 24) ((24 * (u_56 33 0)) + v_2)).bind fun v_58 =>
        (sr_ast 192 u_56 25 ((24 * (u_56 33 0)) + v_58) 0).bind fun u_60 =>
        some u_60
      else
        (sr_ald 24 (u0 3) v_2).bind fun v_10 =>
        if v_10 = 8 then
          (f_M_nextInRole u0 v_2 0 x1).bind fun v_45 =>
          if v_45 < 0 then
            (f_M_then 1 v_2 0 u0).bind fun u_48 =>
            f_M_report_148 u_48
          else
            (f_M_put v_45 1 u0).bind fun u_50 =>
            f_M_report_148 u_50
        else
          (sr_ald 24 (u0 3) v_2).bind fun v_13 =>
          if v_13 = 9 then
            f_M_report_167_it 60 v_2 1 1 u0
          else
            (sr_ald 24 (u0 3) v_2).bind fun v_16 =>
            if v_16 = 10 then
              (f_M_then 1 v_2 0 u0).bind fun u_26 =>
              some u_26
            else
              (sr_ald 24 (u0 3) v_2).bind fun v_19 =>
              if v_19 = 11 then
                (f_M_put v_2 4 u0).bind fun u_24 =>
                some u_24
              else
                (f_M_bodyDone x1 u0).bind fun u_22 =>
                some u_22
set_option maxHeartbeats 4000000 in
set_option maxRecDepth 100000 in
theorem k_M_report_0 {x1 : Int32} {u0 : St} {u' : St} (X : sr_X D (tM t) b_M_report 5 R_M w_M_report p s m args meth c A none) (Z : sr_Z D A s.heap (wM h t u0) H locs) (hl : lv_has ls 5 [(0, .ref (h 0)), (1, .int x1)]) (hf : f_M_report x1 u0 = some u') : W p l e (sr_rm 2 46) s m args below meth c H locs 0 0 (sr_Qv D (tM t) below args s A (wM h t u')) (F0 m 0 ls []) := by
  have hx := X.1
  have hb := X.2.1
  have hK := X.2.2.2.2.2.2.1
  unfold f_M_report at hf
  refine lv_iload_n hx hb d_M_report_0 rfl (lv_at hl 1 rfl) ?_
  refine lv_if_ne (tgt := 15) hx hb d_M_report_1 rfl (fun q_1 => ?_) (fun q_1 => ?_)
  · have hf := sr_if q_1 hf
    refine lv_aload_n hx hb d_M_report_15 rfl (lv_at hl 0 rfl) ?_
    refine g_M_7_M X Z d_M_report_16 ?_
    refine lv_iload_n hx hb d_M_report_19 rfl (lv_at hl 1 rfl) ?_
    obtain ⟨v_2, e_3, hf⟩ := sr_b hf
    refine sr_iald hx hb hK Z 1 0 rfl rfl e_3 d_M_report_20 ?_
    refine lv_istore_n (lv' := [(2, .int v_2), (0, .ref (h 0)), (1, .int x1)]) hx hb d_M_report_21 rfl hl (by decide) rfl (fun ls hl => ?_)
    refine lv_aload_n hx hb d_M_report_22 rfl (lv_at hl 1 rfl) ?_
    refine g_M_13_M X Z d_M_report_23 ?_
    refine lv_iload_n hx hb d_M_report_26 rfl (lv_at hl 2 rfl) ?_
    obtain ⟨v_4, e_5, hf⟩ := sr_b hf
    refine sr_iald hx hb hK Z 2 1 rfl rfl e_5 d_M_report_27 ?_
    refine lv_iconst (v := 1) hx hb d_M_report_28 (by decide) ?_
    refine lv_icmp_ne (tgt := 48) hx hb d_M_report_29 rfl (fun q_6 => ?_) (fun q_6 => ?_)
    · have hf := sr_if q_6 hf
      refine lv_aload_n hx hb d_M_report_48 rfl (lv_at hl 1 rfl) ?_
      refine g_M_13_M X Z d_M_report_49 ?_
      refine lv_iload_n hx hb d_M_report_52 rfl (lv_at hl 2 rfl) ?_
      obtain ⟨v_7, e_8, hf⟩ := sr_b hf
      refine sr_iald hx hb hK Z 2 1 rfl rfl e_8 d_M_report_53 ?_
      refine lv_iconst (v := 2) hx hb d_M_report_54 (by decide) ?_
      refine lv_icmp_ne (tgt := 109) hx hb d_M_report_55 rfl (fun q_9 => ?_) (fun q_9 => ?_)
      · have hf := sr_if q_9 hf
        refine lv_aload_n hx hb d_M_report_109 rfl (lv_at hl 1 rfl) ?_
        refine g_M_16_M X Z d_M_report_110 ?_
        refine lv_iload_n hx hb d_M_report_113 rfl (lv_at hl 0 rfl) ?_
        obtain ⟨v_10, e_11, hf⟩ := sr_b hf
        refine sr_iald hx hb hK Z 3 2 rfl rfl e_11 d_M_report_114 ?_
        refine lv_bipush (v := 8) hx hb d_M_report_115 (by decide) ?_
        refine lv_icmp_ne (tgt := 151) hx hb d_M_report_117 rfl (fun q_12 => ?_) (fun q_12 => ?_)
        · have hf := sr_if q_12 hf
          refine lv_aload_n hx hb d_M_report_151 rfl (lv_at hl 1 rfl) ?_
          refine g_M_16_M X Z d_M_report_152 ?_
          refine lv_iload_n hx hb d_M_report_155 rfl (lv_at hl 0 rfl) ?_
          obtain ⟨v_13, e_14, hf⟩ := sr_b hf
          refine sr_iald hx hb hK Z 3 2 rfl rfl e_14 d_M_report_156 ?_
          refine lv_bipush (v := 9) hx hb d_M_report_157 (by decide) ?_
          refine lv_icmp_ne (tgt := 253) hx hb d_M_report_159 rfl (fun q_15 => ?_) (fun q_15 => ?_)
          · have hf := sr_if q_15 hf
            refine lv_aload_n hx hb d_M_report_253 rfl (lv_at hl 1 rfl) ?_
            refine g_M_16_M X Z d_M_report_254 ?_
            refine lv_iload_n hx hb d_M_report_257 rfl (lv_at hl 0 rfl) ?_
            obtain ⟨v_16, e_17, hf⟩ := sr_b hf
            refine sr_iald hx hb hK Z 3 2 rfl rfl e_17 d_M_report_258 ?_
            refine lv_bipush (v := 10) hx hb d_M_report_259 (by decide) ?_
            refine lv_icmp_ne (tgt := 274) hx hb d_M_report_261 rfl (fun q_18 => ?_) (fun q_18 => ?_)
            · have hf := sr_if q_18 hf
              refine lv_aload_n hx hb d_M_report_274 rfl (lv_at hl 1 rfl) ?_
              refine g_M_16_M X Z d_M_report_275 ?_
              refine lv_iload_n hx hb d_M_report_278 rfl (lv_at hl 0 rfl) ?_
              obtain ⟨v_19, e_20, hf⟩ := sr_b hf
              refine sr_iald hx hb hK Z 3 2 rfl rfl e_20 d_M_report_279 ?_
              refine lv_bipush (v := 11) hx hb d_M_report_280 (by decide) ?_
              refine lv_icmp_ne (tgt := 294) hx hb d_M_report_282 rfl (fun q_21 => ?_) (fun q_21 => ?_)
              · have hf := sr_if q_21 hf
                refine lv_aload_n hx hb d_M_report_294 rfl (lv_at hl 1 rfl) ?_
                refine lv_iload_n hx hb d_M_report_295 rfl (lv_at hl 2 rfl) ?_
                obtain ⟨u_22, e_23, hf⟩ := sr_b hf
                refine sr_cVv (As := [.int x1]) (rest := []) X Z sr_cut_self hK (c_M_bodyDone e_23) (cw_M_216 X.2.2.2.2.2.1 (by decide)) 0 rfl rfl rfl hl rfl (Nat.le_of_ble_eq_true rfl) d_M_report_296 (fun H locs Z => ?_)
                cases hf
                exact sr_retv X Z d_M_report_299
              · have hf := sr_it q_21 hf
                refine lv_aload_n hx hb d_M_report_285 rfl (lv_at hl 1 rfl) ?_
                refine lv_iload_n hx hb d_M_report_286 rfl (lv_at hl 0 rfl) ?_
                refine lv_iconst (v := 4) hx hb d_M_report_287 (by decide) ?_
                obtain ⟨u_24, e_25, hf⟩ := sr_b hf
                refine sr_cVv (As := [.int v_2, .int 4]) (rest := []) X Z sr_cut_self hK (c_M_put e_25) (cw_M_183 X.2.2.2.2.2.1 (by decide)) 0 rfl rfl rfl hl rfl (Nat.le_of_ble_eq_true rfl) d_M_report_288 (fun H locs Z => ?_)
                refine lv_goto (tgt := 299) hx hb d_M_report_291 rfl ?_
                cases hf
                exact sr_retv X Z d_M_report_299
            · have hf := sr_it q_18 hf
              refine lv_aload_n hx hb d_M_report_264 rfl (lv_at hl 1 rfl) ?_
              refine lv_iconst (v := 1) hx hb d_M_report_265 (by decide) ?_
              refine lv_iload_n hx hb d_M_report_266 rfl (lv_at hl 0 rfl) ?_
              refine lv_iconst (v := 0) hx hb d_M_report_267 (by decide) ?_
              obtain ⟨u_26, e_27, hf⟩ := sr_b hf
              refine sr_cVv (As := [.int 1, .int v_2, .int 0]) (rest := []) X Z sr_cut_self hK (c_M_then e_27) (cw_M_209 X.2.2.2.2.2.1 (by decide)) 0 rfl rfl rfl hl rfl (Nat.le_of_ble_eq_true rfl) d_M_report_268 (fun H locs Z => ?_)
              refine lv_goto (tgt := 299) hx hb d_M_report_271 rfl ?_
              cases hf
              exact sr_retv X Z d_M_report_299
          · have hf := sr_it q_15 hf
            refine lv_iconst (v := 1) hx hb d_M_report_162 (by decide) ?_
            refine lv_istore_n (lv' := [(3, .int 1), (2, .int v_2), (0, .ref (h 0)), (1, .int x1)]) hx hb d_M_report_163 rfl hl (by decide) rfl (fun ls hl => ?_)
            refine lv_iconst (v := 1) hx hb d_M_report_164 (by decide) ?_
            refine lv_istore (lv' := [(4, .int 1), (3, .int 1), (2, .int v_2), (0, .ref (h 0)), (1, .int x1)]) hx hb d_M_report_165 hl (by decide) rfl (fun ls hl => ?_)
            exact k_M_report_167_it X _ Z (lv_sub hl [3, 2, 1, 0] rfl) hf
        · have hf := sr_it q_12 hf
          refine lv_aload_n hx hb d_M_report_120 rfl (lv_at hl 1 rfl) ?_
          refine lv_iload_n hx hb d_M_report_121 rfl (lv_at hl 0 rfl) ?_
          refine lv_iconst (v := 0) hx hb d_M_report_122 (by decide) ?_
          refine lv_iload_n hx hb d_M_report_123 rfl (lv_at hl 2 rfl) ?_
          obtain ⟨v_45, e_46, hf⟩ := sr_b hf
          refine sr_cVi (As := [.int v_2, .int 0, .int x1]) (rest := []) X Z sr_cut_self hK (c_M_nextInRole e_46) (cw_M_111 X.2.2.2.2.2.1 (by decide)) 0 rfl rfl rfl hl rfl (Nat.le_of_ble_eq_true rfl) d_M_report_124 (fun H locs Z => ?_)
          refine lv_istore_n (lv' := [(3, .int v_45), (2, .int v_2), (0, .ref (h 0)), (1, .int x1)]) hx hb d_M_report_127 rfl hl (by decide) rfl (fun ls hl => ?_)
          refine lv_iload_n hx hb d_M_report_128 rfl (lv_at hl 0 rfl) ?_
          refine lv_if_lt (tgt := 141) hx hb d_M_report_129 rfl (fun q_47 => ?_) (fun q_47 => ?_)
          · have hf := sr_it q_47 hf
            refine lv_aload_n hx hb d_M_report_141 rfl (lv_at hl 2 rfl) ?_
            refine lv_iconst (v := 1) hx hb d_M_report_142 (by decide) ?_
            refine lv_iload_n hx hb d_M_report_143 rfl (lv_at hl 1 rfl) ?_
            refine lv_iconst (v := 0) hx hb d_M_report_144 (by decide) ?_
            obtain ⟨u_48, e_49, hf⟩ := sr_b hf
            refine sr_cVv (As := [.int 1, .int v_2, .int 0]) (rest := []) X Z sr_cut_self hK (c_M_then e_49) (cw_M_209 X.2.2.2.2.2.1 (by decide)) 0 rfl rfl rfl hl rfl (Nat.le_of_ble_eq_true rfl) d_M_report_145 (fun H locs Z => ?_)
            exact k_M_report_148 X Z (lv_sub hl [] rfl) hf
          · have hf := sr_if q_47 hf
            refine lv_aload_n hx hb d_M_report_132 rfl (lv_at hl 2 rfl) ?_
            refine lv_iload_n hx hb d_M_report_133 rfl (lv_at hl 0 rfl) ?_
            refine lv_iconst (v := 1) hx hb d_M_report_134 (by decide) ?_
            obtain ⟨u_50, e_51, hf⟩ := sr_b hf
            refine sr_cVv (As := [.int v_45, .int 1]) (rest := []) X Z sr_cut_self hK (c_M_put e_51) (cw_M_183 X.2.2.2.2.2.1 (by decide)) 0 rfl rfl rfl hl rfl (Nat.le_of_ble_eq_true rfl) d_M_report_135 (fun H locs Z => ?_)
            refine lv_goto (tgt := 148) hx hb d_M_report_138 rfl ?_
            exact k_M_report_148 X Z (lv_sub hl [] rfl) hf
      · have hf := sr_it q_9 hf
        refine lv_aload_n hx hb d_M_report_58 rfl (lv_at hl 1 rfl) ?_
        refine lv_iload_n hx hb d_M_report_59 rfl (lv_at hl 0 rfl) ?_
        refine lv_iconst (v := -1) hx hb d_M_report_60 (by decide) ?_
        obtain ⟨u_52, e_53, hf⟩ := sr_b hf
        refine sr_cVv (As := [.int v_2, .int (-1)]) (rest := []) X Z sr_cut_self hK (c_M_carry e_53) (cw_M_213 X.2.2.2.2.2.1 (by decide)) 0 rfl rfl rfl hl rfl (Nat.le_of_ble_eq_true rfl) d_M_report_61 (fun H locs Z => ?_)
        refine lv_aload_n hx hb d_M_report_64 rfl (lv_at hl 1 rfl) ?_
        refine lv_iload_n hx hb d_M_report_65 rfl (lv_at hl 0 rfl) ?_
        refine lv_bipush (v := 12) hx hb d_M_report_66 (by decide) ?_
        obtain ⟨u_54, e_55, hf⟩ := sr_b hf
        refine sr_cVv (As := [.int v_2, .int 12]) (rest := []) X Z sr_cut_self hK (c_M_put e_55) (cw_M_183 X.2.2.2.2.2.1 (by decide)) 0 rfl rfl rfl hl rfl (Nat.le_of_ble_eq_true rfl) d_M_report_68 (fun H locs Z => ?_)
        refine lv_aload_n hx hb d_M_report_71 rfl (lv_at hl 1 rfl) ?_
        refine lv_bipush (v := 8) hx hb d_M_report_72 (by decide) ?_
        refine lv_iload_n hx hb d_M_report_74 rfl (lv_at hl 0 rfl) ?_
        obtain ⟨u_56, e_57, hf⟩ := sr_b hf
        refine sr_cVv (As := [.int 8, .int v_2]) (rest := []) X Z sr_cut_self hK (c_M_write e_57) (cw_M_186 X.2.2.2.2.2.1 (by decide)) 0 rfl rfl rfl hl rfl (Nat.le_of_ble_eq_true rfl) d_M_report_75 (fun H locs Z => ?_)
        refine lv_aload_n hx hb d_M_report_78 rfl (lv_at hl 1 rfl) ?_
        refine g_M_67_M X Z d_M_report_79 ?_
        refine lv_bipush (v := 24) hx hb d_M_report_82 (by decide) ?_
        refine lv_aload_n hx hb d_M_report_84 rfl (lv_at hl 1 rfl) ?_
        refine g_M_168_M X Z d_M_report_85 ?_
        refine lv_imul hx hb d_M_report_88 ?_
        refine lv_aload_n hx hb d_M_report_89 rfl (lv_at hl 1 rfl) ?_
        refine g_M_64_M X Z d_M_report_90 ?_
        refine lv_bipush (v := 24) hx hb d_M_report_93 (by decide) ?_
        refine lv_aload_n hx hb d_M_report_95 rfl (lv_at hl 1 rfl) ?_
        refine g_M_168_M X Z d_M_report_96 ?_
        refine lv_imul hx hb d_M_report_99 ?_
        refine lv_iload_n hx hb d_M_report_100 rfl (lv_at hl 0 rfl) ?_
        refine lv_iadd hx hb d_M_report_101 ?_
        obtain ⟨v_58, e_59, hf⟩ := sr_b hf
        refine sr_iald hx hb hK Z 19 18 rfl rfl e_59 d_M_report_102 ?_
        refine lv_iadd hx hb d_M_report_103 ?_
        refine lv_iconst (v := 0) hx hb d_M_report_104 (by decide) ?_
        obtain ⟨u_60, e_61, hf⟩ := sr_b hf
        refine sr_zast (wf := (fun q => (wM h t q))) hx hb hK Z 20 19 rfl rfl rfl e_61 (fun _ => rfl) d_M_report_105 (fun H locs Z => ?_)
        refine lv_goto (tgt := 299) hx hb d_M_report_106 rfl ?_
        cases hf
        exact sr_retv X Z d_M_report_299
    · have hf := sr_it q_6 hf
      refine lv_aload_n hx hb d_M_report_32 rfl (lv_at hl 1 rfl) ?_
      refine lv_iload_n hx hb d_M_report_33 rfl (lv_at hl 0 rfl) ?_
      refine lv_iconst (v := -1) hx hb d_M_report_34 (by decide) ?_
      obtain ⟨u_62, e_63, hf⟩ := sr_b hf
      refine sr_cVv (As := [.int v_2, .int (-1)]) (rest := []) X Z sr_cut_self hK (c_M_carry e_63) (cw_M_213 X.2.2.2.2.2.1 (by decide)) 0 rfl rfl rfl hl rfl (Nat.le_of_ble_eq_true rfl) d_M_report_35 (fun H locs Z => ?_)
      refine lv_aload_n hx hb d_M_report_38 rfl (lv_at hl 1 rfl) ?_
      refine lv_iconst (v := 1) hx hb d_M_report_39 (by decide) ?_
      refine lv_iload_n hx hb d_M_report_40 rfl (lv_at hl 0 rfl) ?_
      refine lv_iconst (v := 0) hx hb d_M_report_41 (by decide) ?_
      obtain ⟨u_64, e_65, hf⟩ := sr_b hf
      refine sr_cVv (As := [.int 1, .int v_2, .int 0]) (rest := []) X Z sr_cut_self hK (c_M_then e_65) (cw_M_209 X.2.2.2.2.2.1 (by decide)) 0 rfl rfl rfl hl rfl (Nat.le_of_ble_eq_true rfl) d_M_report_42 (fun H locs Z => ?_)
      refine lv_goto (tgt := 299) hx hb d_M_report_45 rfl ?_
      cases hf
      exact sr_retv X Z d_M_report_299
  · have hf := sr_it q_1 hf
    refine lv_aload_n hx hb d_M_report_4 rfl (lv_at hl 0 rfl) ?_
    refine g_M_43_M X Z d_M_report_5 ?_
    refine lv_aload_n hx hb d_M_report_8 rfl (lv_at hl 0 rfl) ?_
    refine g_M_168_M X Z d_M_report_9 ?_
    refine lv_iconst (v := 1) hx hb d_M_report_12 (by decide) ?_
    obtain ⟨u_66, e_67, hf⟩ := sr_b hf
    refine sr_iast (wf := (fun q => (wM h t q))) hx hb hK Z 12 11 rfl rfl e_67 (fun _ => rfl) d_M_report_13 (fun H locs Z => ?_)
    cases hf
    exact sr_retv X Z d_M_report_14
end
set_option maxHeartbeats 4000000 in
set_option maxRecDepth 100000 in
theorem c_M_report {l : Launch} {D : va_G} {h : Nat → Nat} {t : Nat → ClassId} {sz : Nat} {x1 : Int32} {u0 : St} {u' : St} (hf : f_M_report x1 u0 = some u') : sr_Cv l y_M_report w_M_report (sr_rm 2 46) D (tM t) (wM h t u0) (wM h t u') sz [.ref (h 0), .int x1] := by
  refine Met.ofW (cc := b_M_report) (maxL := 5) (ret := none) (by decide) rfl ?_
  intro p e s m args below meth c s₁ B hml hv
  obtain ⟨rfl, hsz, hP, hK, hD0⟩ := hv
  subst hsz
  have X : sr_X D (tM t) b_M_report 5 R_M w_M_report p s m _ meth c (va_A (wM h t u0) s.heap.size) none := ⟨B.exec, B.bytes, hml, findClass_of_methodNamed B.named, B.notSynchronized, atoms_spec (ws := w_M_report) B.pre, hK, fun q h => Or.inr h, B.returns⟩
  have Z : sr_Z D (va_A (wM h t u0) s.heap.size) s.heap (wM h t u0) s.heap [] := ⟨hP, hD0.self, va_S.rf⟩
  have hl := lv_entry ([.ref (h 0), .int x1] : List Value) (n := 5) (Nat.le_of_ble_eq_true rfl)
  rw [lg_entry_eq]
  exact k_M_report_0 X Z hl hf
