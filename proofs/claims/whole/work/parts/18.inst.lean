/-! E_areUsedUp -/
theorem d_E_areUsedUp_0 : decode b_E_areUsedUp 0 = .ok (.aload_n 0, 1) := by decide +kernel
theorem d_E_areUsedUp_1 : decode b_E_areUsedUp 1 = .ok (.getfield 21, 3) := by decide +kernel
theorem d_E_areUsedUp_4 : decode b_E_areUsedUp 4 = .ok (.bipush 16, 2) := by decide +kernel
theorem d_E_areUsedUp_6 : decode b_E_areUsedUp 6 = .ok (.if_icmp .lt 7, 3) := by decide +kernel
theorem d_E_areUsedUp_9 : decode b_E_areUsedUp 9 = .ok (.iconst 1, 1) := by decide +kernel
theorem d_E_areUsedUp_10 : decode b_E_areUsedUp 10 = .ok (.goto 4, 3) := by decide +kernel
theorem d_E_areUsedUp_13 : decode b_E_areUsedUp 13 = .ok (.iconst 0, 1) := by decide +kernel
theorem d_E_areUsedUp_14 : decode b_E_areUsedUp 14 = .ok (.ireturn, 1) := by decide +kernel
section
variable {p : Program} {l : Launch} {e : Env} {s : State} {m : MethodId} {args : Array Value} {below : List Frame} {meth : Method} {c : Code} {H : Heap} {locs : List Loc} {ls : Array Slot} {D : va_G} {A : Nat → Prop} {h o : Nat → Nat} {t v : Nat → ClassId}
def f_E_areUsedUp (p0 : St) (i0 : St) : Option (Int32) :=
  if (i0 17 0) < 16 then
    some 0
  else
    some 1
set_option maxHeartbeats 4000000 in
set_option maxRecDepth 100000 in
theorem k_E_areUsedUp_0 {p0 : St} {i0 : St} {r : Int32} (X : sr_X D (tI t v) b_E_areUsedUp 1 R_E w_E_areUsedUp p s m args meth c A (some .boolean)) (Z : sr_Z D A s.heap (wI h t o v p0 i0) H locs) (hl : lv_has ls 1 [(0, .ref (o 3))]) (hf : f_E_areUsedUp p0 i0 = some r) : W p l e (sr_rm 0 0) s m args below meth c H locs 0 0 (sr_Qi D (tI t v) below args s A (wI h t o v p0 i0) r) (F0 m 0 ls []) := by
  have hx := X.1
  have hb := X.2.1
  have hK := X.2.2.2.2.2.2.1
  unfold f_E_areUsedUp at hf
  refine lv_aload_n hx hb d_E_areUsedUp_0 rfl (lv_at hl 0 rfl) ?_
  refine g_E_21_I X Z d_E_areUsedUp_1 ?_
  refine lv_bipush (v := 16) hx hb d_E_areUsedUp_4 (by decide) ?_
  refine lv_icmp_lt (tgt := 13) hx hb d_E_areUsedUp_6 rfl (fun q_1 => ?_) (fun q_1 => ?_)
  · have hf := sr_it q_1 hf
    refine lv_iconst (v := 0) hx hb d_E_areUsedUp_13 (by decide) ?_
    cases hf
    exact sr_retz X Z (by decide) d_E_areUsedUp_14
  · have hf := sr_if q_1 hf
    refine lv_iconst (v := 1) hx hb d_E_areUsedUp_9 (by decide) ?_
    refine lv_goto (tgt := 14) hx hb d_E_areUsedUp_10 rfl ?_
    cases hf
    exact sr_retz X Z (by decide) d_E_areUsedUp_14
end
set_option maxHeartbeats 4000000 in
set_option maxRecDepth 100000 in
theorem c_E_areUsedUp {l : Launch} {D : va_G} {h : Nat → Nat} {t : Nat → ClassId} {o : Nat → Nat} {v : Nat → ClassId} {sz : Nat} {p0 : St} {i0 : St} {r : Int32} (hf : f_E_areUsedUp p0 i0 = some r) : sr_Ci l y_E_areUsedUp w_E_areUsedUp (sr_rm 0 0) D (tI t v) (wI h t o v p0 i0) (wI h t o v p0 i0) sz [.ref (o 3)] r := by
  refine Met.ofW (cc := b_E_areUsedUp) (maxL := 1) (ret := (some .boolean)) (by decide) rfl ?_
  intro p e s m args below meth c s₁ B hml hv
  obtain ⟨rfl, hsz, hP, hK, hD0⟩ := hv
  subst hsz
  have X : sr_X D (tI t v) b_E_areUsedUp 1 R_E w_E_areUsedUp p s m _ meth c (va_A (wI h t o v p0 i0) s.heap.size) (some .boolean) := ⟨B.exec, B.bytes, hml, findClass_of_methodNamed B.named, B.notSynchronized, atoms_spec (ws := w_E_areUsedUp) B.pre, hK, fun q h => Or.inr h, B.returns⟩
  have Z : sr_Z D (va_A (wI h t o v p0 i0) s.heap.size) s.heap (wI h t o v p0 i0) s.heap [] := ⟨hP, hD0.self, va_S.rf⟩
  have hl := lv_entry ([.ref (o 3)] : List Value) (n := 1) (Nat.le_of_ble_eq_true rfl)
  rw [lg_entry_eq]
  exact k_E_areUsedUp_0 X Z hl hf
/-! E_moveAll -/
theorem d_E_moveAll_0 : decode b_E_moveAll 0 = .ok (.iconst 0, 1) := by decide +kernel
theorem d_E_moveAll_1 : decode b_E_moveAll 1 = .ok (.istore_n 3, 1) := by decide +kernel
theorem d_E_moveAll_2 : decode b_E_moveAll 2 = .ok (.iload_n 3, 1) := by decide +kernel
theorem d_E_moveAll_3 : decode b_E_moveAll 3 = .ok (.aload_n 0, 1) := by decide +kernel
theorem d_E_moveAll_4 : decode b_E_moveAll 4 = .ok (.getfield 21, 3) := by decide +kernel
theorem d_E_moveAll_7 : decode b_E_moveAll 7 = .ok (.if_icmp .ge 26, 3) := by decide +kernel
theorem d_E_moveAll_10 : decode b_E_moveAll 10 = .ok (.aload_n 0, 1) := by decide +kernel
theorem d_E_moveAll_11 : decode b_E_moveAll 11 = .ok (.getfield 18, 3) := by decide +kernel
theorem d_E_moveAll_14 : decode b_E_moveAll 14 = .ok (.iload_n 3, 1) := by decide +kernel
theorem d_E_moveAll_15 : decode b_E_moveAll 15 = .ok (.iaload, 1) := by decide +kernel
theorem d_E_moveAll_16 : decode b_E_moveAll 16 = .ok (.iload_n 1, 1) := by decide +kernel
theorem d_E_moveAll_17 : decode b_E_moveAll 17 = .ok (.if_icmp .ne 10, 3) := by decide +kernel
theorem d_E_moveAll_20 : decode b_E_moveAll 20 = .ok (.aload_n 0, 1) := by decide +kernel
theorem d_E_moveAll_21 : decode b_E_moveAll 21 = .ok (.getfield 18, 3) := by decide +kernel
theorem d_E_moveAll_24 : decode b_E_moveAll 24 = .ok (.iload_n 3, 1) := by decide +kernel
theorem d_E_moveAll_25 : decode b_E_moveAll 25 = .ok (.iload_n 2, 1) := by decide +kernel
theorem d_E_moveAll_26 : decode b_E_moveAll 26 = .ok (.iastore, 1) := by decide +kernel
theorem d_E_moveAll_27 : decode b_E_moveAll 27 = .ok (.iinc 3 1, 3) := by decide +kernel
theorem d_E_moveAll_30 : decode b_E_moveAll 30 = .ok (.goto (-28), 3) := by decide +kernel
theorem d_E_moveAll_33 : decode b_E_moveAll 33 = .ok (.return_, 1) := by decide +kernel
section
variable {p : Program} {l : Launch} {e : Env} {s : State} {m : MethodId} {args : Array Value} {below : List Frame} {meth : Method} {c : Code} {H : Heap} {locs : List Loc} {ls : Array Slot} {D : va_G} {A : Nat → Prop} {h o : Nat → Nat} {t v : Nat → ClassId}
def f_E_moveAll_27 (k2 : Int32 → Int32 → Int32 → St → Option (St)) (p0 : St) (x1 : Int32) (x2 : Int32) (x3 : Int32) (i0 : St) : Option (St) :=
  k2 x1 x2 (x3 + 1) i0
set_option maxHeartbeats 4000000 in
set_option maxRecDepth 100000 in
theorem k_E_moveAll_27 {k2 : Int32 → Int32 → Int32 → St → Option (St)} {p0 : St} {x1 : Int32} {x2 : Int32} {x3 : Int32} {i0 : St} {i' : St} (X : sr_X D (tI t v) b_E_moveAll 4 R_E w_E_moveAll p s m args meth c A none) (hk2 : ∀ (x1 : Int32) (x2 : Int32) (x3 : Int32) (i0 : St) (H : Heap) (locs : List Loc) (ls : Array Slot), sr_Z D A s.heap (wI h t o v p0 i0) H locs → lv_has ls 4 [(0, .ref (o 3)), (1, .int x1), (2, .int x2), (3, .int x3)] → k2 x1 x2 x3 i0 = some i' → W p l e (sr_rm 0 0) s m args below meth c H locs 0 0 (sr_Qv D (tI t v) below args s A (wI h t o v p0 i')) (F0 m 2 ls [])) (Z : sr_Z D A s.heap (wI h t o v p0 i0) H locs) (hl : lv_has ls 4 [(0, .ref (o 3)), (1, .int x1), (2, .int x2), (3, .int x3)]) (hf : f_E_moveAll_27 k2 p0 x1 x2 x3 i0 = some i') : W p l e (sr_rm 0 0) s m args below meth c H locs 0 0 (sr_Qv D (tI t v) below args s A (wI h t o v p0 i')) (F0 m 27 ls []) := by
  have hx := X.1
  have hb := X.2.1
  have hK := X.2.2.2.2.2.2.1
  unfold f_E_moveAll_27 at hf
  refine lv_iinc (k := 3) (v := x3 + 1) (lv' := [(3, .int (x3 + 1)), (0, .ref (o 3)), (1, .int x1), (2, .int x2)]) hx hb d_E_moveAll_27 hl rfl rfl (by decide) rfl (fun ls hl => ?_)
  refine lv_goto (tgt := 2) hx hb d_E_moveAll_30 rfl ?_
  exact hk2 x1 x2 (x3 + 1) i0 _ _ _ Z (lv_sub hl [1, 2, 3, 0] rfl) hf
def f_E_moveAll_2 (k2 : Int32 → Int32 → Int32 → St → Option (St)) (p0 : St) (x1 : Int32) (x2 : Int32) (x3 : Int32) (i0 : St) : Option (St) :=
  if (i0 17 0) ≤ x3 then
    some i0
  else
    (sr_ald 16 (i0 16) x3).bind fun v_2 =>
    if v_2 = x1 then
      (sr_ast 16 i0 16 x3 x2).bind fun i_5 =>
      f_E_moveAll_27 k2 p0 x1 x2 x3 i_5
    else
      f_E_moveAll_27 k2 p0 x1 x2 x3 i0
set_option maxHeartbeats 4000000 in
set_option maxRecDepth 100000 in
theorem k_E_moveAll_2 {k2 : Int32 → Int32 → Int32 → St → Option (St)} {p0 : St} {x1 : Int32} {x2 : Int32} {x3 : Int32} {i0 : St} {i' : St} (X : sr_X D (tI t v) b_E_moveAll 4 R_E w_E_moveAll p s m args meth c A none) (hk2 : ∀ (x1 : Int32) (x2 : Int32) (x3 : Int32) (i0 : St) (H : Heap) (locs : List Loc) (ls : Array Slot), sr_Z D A s.heap (wI h t o v p0 i0) H locs → lv_has ls 4 [(0, .ref (o 3)), (1, .int x1), (2, .int x2), (3, .int x3)] → k2 x1 x2 x3 i0 = some i' → W p l e (sr_rm 0 0) s m args below meth c H locs 0 0 (sr_Qv D (tI t v) below args s A (wI h t o v p0 i')) (F0 m 2 ls [])) (Z : sr_Z D A s.heap (wI h t o v p0 i0) H locs) (hl : lv_has ls 4 [(0, .ref (o 3)), (1, .int x1), (2, .int x2), (3, .int x3)]) (hf : f_E_moveAll_2 k2 p0 x1 x2 x3 i0 = some i') : W p l e (sr_rm 0 0) s m args below meth c H locs 0 0 (sr_Qv D (tI t v) below args s A (wI h t o v p0 i')) (F0 m 2 ls []) := by
  have hx := X.1
  have hb := X.2.1
  have hK := X.2.2.2.2.2.2.1
  unfold f_E_moveAll_2 at hf
  refine lv_iload_n hx hb d_E_moveAll_2 rfl (lv_at hl 3 rfl) ?_
  refine lv_aload_n hx hb d_E_moveAll_3 rfl (lv_at hl 0 rfl) ?_
  refine g_E_21_I X Z d_E_moveAll_4 ?_
  refine lv_icmp_ge (tgt := 33) hx hb d_E_moveAll_7 rfl (fun q_1 => ?_) (fun q_1 => ?_)
  · have hf := sr_it q_1 hf
    cases hf
    exact sr_retv X Z d_E_moveAll_33
  · have hf := sr_if q_1 hf
    refine lv_aload_n hx hb d_E_moveAll_10 rfl (lv_at hl 0 rfl) ?_
    refine g_E_18_I X Z d_E_moveAll_11 ?_
    refine lv_iload_n hx hb d_E_moveAll_14 rfl (lv_at hl 3 rfl) ?_
    obtain ⟨v_2, e_3, hf⟩ := sr_b hf
    refine sr_iald hx hb hK Z 29 23 rfl rfl e_3 d_E_moveAll_15 ?_
    refine lv_iload_n hx hb d_E_moveAll_16 rfl (lv_at hl 1 rfl) ?_
    refine lv_icmp_ne (tgt := 27) hx hb d_E_moveAll_17 rfl (fun q_4 => ?_) (fun q_4 => ?_)
    · have hf := sr_if q_4 hf
      exact k_E_moveAll_27 X hk2 Z (lv_sub hl [0, 1, 2, 3] rfl) hf
    · have hf := sr_it q_4 hf
      refine lv_aload_n hx hb d_E_moveAll_20 rfl (lv_at hl 0 rfl) ?_
      refine g_E_18_I X Z d_E_moveAll_21 ?_
      refine lv_iload_n hx hb d_E_moveAll_24 rfl (lv_at hl 3 rfl) ?_
      refine lv_iload_n hx hb d_E_moveAll_25 rfl (lv_at hl 2 rfl) ?_
      obtain ⟨i_5, e_6, hf⟩ := sr_b hf
      refine sr_iast (wf := (fun q => (wI h t o v p0 q))) hx hb hK Z 29 23 rfl rfl e_6 (fun _ => rfl) d_E_moveAll_26 (fun H locs Z => ?_)
      exact k_E_moveAll_27 X hk2 Z (lv_sub hl [0, 1, 2, 3] rfl) hf
def f_E_moveAll_2_it (p0 : St) : Nat → Int32 → Int32 → Int32 → St → Option (St)
  | 0 => fun _ _ _ _ => none
  | n + 1 => fun x1 x2 x3 i0 => f_E_moveAll_2 (f_E_moveAll_2_it p0 n) p0 x1 x2 x3 i0
set_option maxHeartbeats 4000000 in
set_option maxRecDepth 100000 in
theorem k_E_moveAll_2_it {p0 : St} {i' : St} (X : sr_X D (tI t v) b_E_moveAll 4 R_E w_E_moveAll p s m args meth c A none) (n : Nat) : ∀ {x1 : Int32} {x2 : Int32} {x3 : Int32} {i0 : St} {H : Heap} {locs : List Loc} {ls : Array Slot}, sr_Z D A s.heap (wI h t o v p0 i0) H locs → lv_has ls 4 [(0, .ref (o 3)), (1, .int x1), (2, .int x2), (3, .int x3)] → f_E_moveAll_2_it p0 n x1 x2 x3 i0 = some i' → W p l e (sr_rm 0 0) s m args below meth c H locs 0 0 (sr_Qv D (tI t v) below args s A (wI h t o v p0 i')) (F0 m 2 ls []) := by
  induction n with
  | zero => intro x1 x2 x3 i0 H locs ls Z hl hf; exact absurd hf (by simp [f_E_moveAll_2_it])
  | succ n ih =>
    intro x1 x2 x3 i0 H locs ls Z hl hf
    exact k_E_moveAll_2 X (fun x1 x2 x3 i0 H locs ls Z hl hf => ih Z hl hf) Z hl hf
def f_E_moveAll (p0 : St) (x1 : Int32) (x2 : Int32) (i0 : St) : Option (St) :=
  f_E_moveAll_2_it p0 60 x1 x2 0 i0
set_option maxHeartbeats 4000000 in
set_option maxRecDepth 100000 in
theorem k_E_moveAll_0 {p0 : St} {x1 : Int32} {x2 : Int32} {i0 : St} {i' : St} (X : sr_X D (tI t v) b_E_moveAll 4 R_E w_E_moveAll p s m args meth c A none) (Z : sr_Z D A s.heap (wI h t o v p0 i0) H locs) (hl : lv_has ls 4 [(0, .ref (o 3)), (1, .int x1), (2, .int x2)]) (hf : f_E_moveAll p0 x1 x2 i0 = some i') : W p l e (sr_rm 0 0) s m args below meth c H locs 0 0 (sr_Qv D (tI t v) below args s A (wI h t o v p0 i')) (F0 m 0 ls []) := by
  have hx := X.1
  have hb := X.2.1
  have hK := X.2.2.2.2.2.2.1
  unfold f_E_moveAll at hf
  refine lv_iconst (v := 0) hx hb d_E_moveAll_0 (by decide) ?_
  refine lv_istore_n (lv' := [(3, .int 0), (0, .ref (o 3)), (1, .int x1), (2, .int x2)]) hx hb d_E_moveAll_1 rfl hl (by decide) rfl (fun ls hl => ?_)
  exact k_E_moveAll_2_it X _ Z (lv_sub hl [1, 2, 3, 0] rfl) hf
end
set_option maxHeartbeats 4000000 in
set_option maxRecDepth 100000 in
theorem c_E_moveAll {l : Launch} {D : va_G} {h : Nat → Nat} {t : Nat → ClassId} {o : Nat → Nat} {v : Nat → ClassId} {sz : Nat} {p0 : St} {x1 : Int32} {x2 : Int32} {i0 : St} {i' : St} (hf : f_E_moveAll p0 x1 x2 i0 = some i') : sr_Cv l y_E_moveAll w_E_moveAll (sr_rm 0 0) D (tI t v) (wI h t o v p0 i0) (wI h t o v p0 i') sz [.ref (o 3), .int x1, .int x2] := by
  refine Met.ofW (cc := b_E_moveAll) (maxL := 4) (ret := none) (by decide) rfl ?_
  intro p e s m args below meth c s₁ B hml hv
  obtain ⟨rfl, hsz, hP, hK, hD0⟩ := hv
  subst hsz
  have X : sr_X D (tI t v) b_E_moveAll 4 R_E w_E_moveAll p s m _ meth c (va_A (wI h t o v p0 i0) s.heap.size) none := ⟨B.exec, B.bytes, hml, findClass_of_methodNamed B.named, B.notSynchronized, atoms_spec (ws := w_E_moveAll) B.pre, hK, fun q h => Or.inr h, B.returns⟩
  have Z : sr_Z D (va_A (wI h t o v p0 i0) s.heap.size) s.heap (wI h t o v p0 i0) s.heap [] := ⟨hP, hD0.self, va_S.rf⟩
  have hl := lv_entry ([.ref (o 3), .int x1, .int x2] : List Value) (n := 4) (Nat.le_of_ble_eq_true rfl)
  rw [lg_entry_eq]
  exact k_E_moveAll_0 X Z hl hf
/-! E_make -/
theorem d_E_make_0 : decode b_E_make 0 = .ok (.aload_n 0, 1) := by decide +kernel
theorem d_E_make_1 : decode b_E_make 1 = .ok (.getfield 21, 3) := by decide +kernel
theorem d_E_make_4 : decode b_E_make 4 = .ok (.bipush 16, 2) := by decide +kernel
theorem d_E_make_6 : decode b_E_make 6 = .ok (.if_icmp .lt 4, 3) := by decide +kernel
theorem d_E_make_9 : decode b_E_make 9 = .ok (.return_, 1) := by decide +kernel
theorem d_E_make_10 : decode b_E_make 10 = .ok (.aload_n 0, 1) := by decide +kernel
theorem d_E_make_11 : decode b_E_make 11 = .ok (.iload_n 1, 1) := by decide +kernel
theorem d_E_make_12 : decode b_E_make 12 = .ok (.bipush 24, 2) := by decide +kernel
theorem d_E_make_14 : decode b_E_make 14 = .ok (.aload_n 0, 1) := by decide +kernel
theorem d_E_make_15 : decode b_E_make 15 = .ok (.getfield 21, 3) := by decide +kernel
theorem d_E_make_18 : decode b_E_make 18 = .ok (.iadd, 1) := by decide +kernel
theorem d_E_make_19 : decode b_E_make 19 = .ok (.invokevirtual 25, 3) := by decide +kernel
theorem d_E_make_22 : decode b_E_make 22 = .ok (.aload_n 0, 1) := by decide +kernel
theorem d_E_make_23 : decode b_E_make 23 = .ok (.getfield 9, 3) := by decide +kernel
theorem d_E_make_26 : decode b_E_make 26 = .ok (.aload_n 0, 1) := by decide +kernel
theorem d_E_make_27 : decode b_E_make 27 = .ok (.getfield 21, 3) := by decide +kernel
theorem d_E_make_30 : decode b_E_make 30 = .ok (.iload_n 1, 1) := by decide +kernel
theorem d_E_make_31 : decode b_E_make 31 = .ok (.iastore, 1) := by decide +kernel
theorem d_E_make_32 : decode b_E_make 32 = .ok (.aload_n 0, 1) := by decide +kernel
theorem d_E_make_33 : decode b_E_make 33 = .ok (.getfield 15, 3) := by decide +kernel
theorem d_E_make_36 : decode b_E_make 36 = .ok (.aload_n 0, 1) := by decide +kernel
theorem d_E_make_37 : decode b_E_make 37 = .ok (.getfield 21, 3) := by decide +kernel
theorem d_E_make_40 : decode b_E_make 40 = .ok (.iload_n 2, 1) := by decide +kernel
theorem d_E_make_41 : decode b_E_make 41 = .ok (.iastore, 1) := by decide +kernel
theorem d_E_make_42 : decode b_E_make 42 = .ok (.aload_n 0, 1) := by decide +kernel
theorem d_E_make_43 : decode b_E_make 43 = .ok (.getfield 18, 3) := by decide +kernel
theorem d_E_make_46 : decode b_E_make 46 = .ok (.aload_n 0, 1) := by decide +kernel
theorem d_E_make_47 : decode b_E_make 47 = .ok (.getfield 21, 3) := by decide +kernel
theorem d_E_make_50 : decode b_E_make 50 = .ok (.iload_n 3, 1) := by decide +kernel
theorem d_E_make_51 : decode b_E_make 51 = .ok (.iastore, 1) := by decide +kernel
theorem d_E_make_52 : decode b_E_make 52 = .ok (.aload_n 0, 1) := by decide +kernel
theorem d_E_make_53 : decode b_E_make 53 = .ok (.dup, 1) := by decide +kernel
theorem d_E_make_54 : decode b_E_make 54 = .ok (.getfield 21, 3) := by decide +kernel
theorem d_E_make_57 : decode b_E_make 57 = .ok (.iconst 1, 1) := by decide +kernel
theorem d_E_make_58 : decode b_E_make 58 = .ok (.iadd, 1) := by decide +kernel
theorem d_E_make_59 : decode b_E_make 59 = .ok (.putfield 21, 3) := by decide +kernel
theorem d_E_make_62 : decode b_E_make 62 = .ok (.return_, 1) := by decide +kernel
section
variable {p : Program} {l : Launch} {e : Env} {s : State} {m : MethodId} {args : Array Value} {below : List Frame} {meth : Method} {c : Code} {H : Heap} {locs : List Loc} {ls : Array Slot} {D : va_G} {A : Nat → Prop} {h o : Nat → Nat} {t v : Nat → ClassId}
def f_E_make (p0 : St) (x1 : Int32) (x2 : Int32) (x3 : Int32) (i0 : St) : Option (St) :=
  if (i0 17 0) < 16 then
    (f_E_moveAll p0 x1 (24 + (i0 17 0)) i0).bind fun i_2 =>
    (sr_ast 16 i_2 14 (i_2 17 0) x1).bind fun i_4 =>
    (sr_ast 16 i_4 15 (i_4 17 0) x2).bind fun i_6 =>
    (sr_ast 16 i_6 16 (i_6 17 0) x3).bind fun i_8 =>
    (sr_pf i_8 17 ((i_8 17 0) + 1)).bind fun i_10 =>
    some i_10
  else
    some i0
set_option maxHeartbeats 4000000 in
set_option maxRecDepth 100000 in
theorem k_E_make_0 {p0 : St} {x1 : Int32} {x2 : Int32} {x3 : Int32} {i0 : St} {i' : St} (X : sr_X D (tI t v) b_E_make 4 R_E w_E_make p s m args meth c A none) (Z : sr_Z D A s.heap (wI h t o v p0 i0) H locs) (hl : lv_has ls 4 [(0, .ref (o 3)), (1, .int x1), (2, .int x2), (3, .int x3)]) (hf : f_E_make p0 x1 x2 x3 i0 = some i') : W p l e (sr_rm 1 23) s m args below meth c H locs 0 0 (sr_Qv D (tI t v) below args s A (wI h t o v p0 i')) (F0 m 0 ls []) := by
  have hx := X.1
  have hb := X.2.1
  have hK := X.2.2.2.2.2.2.1
  unfold f_E_make at hf
  refine lv_aload_n hx hb d_E_make_0 rfl (lv_at hl 0 rfl) ?_
  refine g_E_21_I X Z d_E_make_1 ?_
  refine lv_bipush (v := 16) hx hb d_E_make_4 (by decide) ?_
  refine lv_icmp_lt (tgt := 10) hx hb d_E_make_6 rfl (fun q_1 => ?_) (fun q_1 => ?_)
  · have hf := sr_it q_1 hf
    refine lv_aload_n hx hb d_E_make_10 rfl (lv_at hl 0 rfl) ?_
    refine lv_iload_n hx hb d_E_make_11 rfl (lv_at hl 1 rfl) ?_
    refine lv_bipush (v := 24) hx hb d_E_make_12 (by decide) ?_
    refine lv_aload_n hx hb d_E_make_14 rfl (lv_at hl 0 rfl) ?_
    refine g_E_21_I X Z d_E_make_15 ?_
    refine lv_iadd hx hb d_E_make_18 ?_
    obtain ⟨i_2, e_3, hf⟩ := sr_b hf
    refine sr_cVv (As := [.int x1, .int (24 + (i0 17 0))]) (rest := []) X Z sr_cut_self hK (c_E_moveAll e_3) (cw_E_25 X.2.2.2.2.2.1 (by decide)) 18 rfl rfl rfl hl rfl (Nat.le_of_ble_eq_true rfl) d_E_make_19 (fun H locs Z => ?_)
    refine lv_aload_n hx hb d_E_make_22 rfl (lv_at hl 0 rfl) ?_
    refine g_E_9_I X Z d_E_make_23 ?_
    refine lv_aload_n hx hb d_E_make_26 rfl (lv_at hl 0 rfl) ?_
    refine g_E_21_I X Z d_E_make_27 ?_
    refine lv_iload_n hx hb d_E_make_30 rfl (lv_at hl 1 rfl) ?_
    obtain ⟨i_4, e_5, hf⟩ := sr_b hf
    refine sr_iast (wf := (fun q => (wI h t o v p0 q))) hx hb hK Z 27 21 rfl rfl e_5 (fun _ => rfl) d_E_make_31 (fun H locs Z => ?_)
    refine lv_aload_n hx hb d_E_make_32 rfl (lv_at hl 0 rfl) ?_
    refine g_E_15_I X Z d_E_make_33 ?_
    refine lv_aload_n hx hb d_E_make_36 rfl (lv_at hl 0 rfl) ?_
    refine g_E_21_I X Z d_E_make_37 ?_
    refine lv_iload_n hx hb d_E_make_40 rfl (lv_at hl 2 rfl) ?_
    obtain ⟨i_6, e_7, hf⟩ := sr_b hf
    refine sr_iast (wf := (fun q => (wI h t o v p0 q))) hx hb hK Z 28 22 rfl rfl e_7 (fun _ => rfl) d_E_make_41 (fun H locs Z => ?_)
    refine lv_aload_n hx hb d_E_make_42 rfl (lv_at hl 0 rfl) ?_
    refine g_E_18_I X Z d_E_make_43 ?_
    refine lv_aload_n hx hb d_E_make_46 rfl (lv_at hl 0 rfl) ?_
    refine g_E_21_I X Z d_E_make_47 ?_
    refine lv_iload_n hx hb d_E_make_50 rfl (lv_at hl 3 rfl) ?_
    obtain ⟨i_8, e_9, hf⟩ := sr_b hf
    refine sr_iast (wf := (fun q => (wI h t o v p0 q))) hx hb hK Z 29 23 rfl rfl e_9 (fun _ => rfl) d_E_make_51 (fun H locs Z => ?_)
    refine lv_aload_n hx hb d_E_make_52 rfl (lv_at hl 0 rfl) ?_
    refine lv_dup hx hb d_E_make_53 rfl ?_
    refine g_E_21_I X Z d_E_make_54 ?_
    refine lv_iconst (v := 1) hx hb d_E_make_57 (by decide) ?_
    refine lv_iadd hx hb d_E_make_58 ?_
    obtain ⟨i_10, e_11, hf⟩ := sr_b hf
    refine s_E_21_I X Z e_11 d_E_make_59 (fun H locs Z => ?_)
    cases hf
    exact sr_retv X Z d_E_make_62
  · have hf := sr_if q_1 hf
    cases hf
    exact sr_retv X Z d_E_make_9
end
set_option maxHeartbeats 4000000 in
set_option maxRecDepth 100000 in
theorem c_E_make {l : Launch} {D : va_G} {h : Nat → Nat} {t : Nat → ClassId} {o : Nat → Nat} {v : Nat → ClassId} {sz : Nat} {p0 : St} {x1 : Int32} {x2 : Int32} {x3 : Int32} {i0 : St} {i' : St} (hf : f_E_make p0 x1 x2 x3 i0 = some i') : sr_Cv l y_E_make w_E_make (sr_rm 1 23) D (tI t v) (wI h t o v p0 i0) (wI h t o v p0 i') sz [.ref (o 3), .int x1, .int x2, .int x3] := by
  refine Met.ofW (cc := b_E_make) (maxL := 4) (ret := none) (by decide) rfl ?_
  intro p e s m args below meth c s₁ B hml hv
  obtain ⟨rfl, hsz, hP, hK, hD0⟩ := hv
  subst hsz
  have X : sr_X D (tI t v) b_E_make 4 R_E w_E_make p s m _ meth c (va_A (wI h t o v p0 i0) s.heap.size) none := ⟨B.exec, B.bytes, hml, findClass_of_methodNamed B.named, B.notSynchronized, atoms_spec (ws := w_E_make) B.pre, hK, fun q h => Or.inr h, B.returns⟩
  have Z : sr_Z D (va_A (wI h t o v p0 i0) s.heap.size) s.heap (wI h t o v p0 i0) s.heap [] := ⟨hP, hD0.self, va_S.rf⟩
  have hl := lv_entry ([.ref (o 3), .int x1, .int x2, .int x3] : List Value) (n := 4) (Nat.le_of_ble_eq_true rfl)
  rw [lg_entry_eq]
  exact k_E_make_0 X Z hl hf
/-! E_latestIn -/
theorem d_E_latestIn_0 : decode b_E_latestIn 0 = .ok (.aload_n 0, 1) := by decide +kernel
theorem d_E_latestIn_1 : decode b_E_latestIn 1 = .ok (.getfield 21, 3) := by decide +kernel
theorem d_E_latestIn_4 : decode b_E_latestIn 4 = .ok (.iconst 1, 1) := by decide +kernel
theorem d_E_latestIn_5 : decode b_E_latestIn 5 = .ok (.isub, 1) := by decide +kernel
theorem d_E_latestIn_6 : decode b_E_latestIn 6 = .ok (.istore_n 3, 1) := by decide +kernel
theorem d_E_latestIn_7 : decode b_E_latestIn 7 = .ok (.iload_n 3, 1) := by decide +kernel
theorem d_E_latestIn_8 : decode b_E_latestIn 8 = .ok (.ifCond .lt 35, 3) := by decide +kernel
theorem d_E_latestIn_11 : decode b_E_latestIn 11 = .ok (.aload_n 0, 1) := by decide +kernel
theorem d_E_latestIn_12 : decode b_E_latestIn 12 = .ok (.getfield 18, 3) := by decide +kernel
theorem d_E_latestIn_15 : decode b_E_latestIn 15 = .ok (.iload_n 3, 1) := by decide +kernel
theorem d_E_latestIn_16 : decode b_E_latestIn 16 = .ok (.iaload, 1) := by decide +kernel
theorem d_E_latestIn_17 : decode b_E_latestIn 17 = .ok (.iload_n 1, 1) := by decide +kernel
theorem d_E_latestIn_18 : decode b_E_latestIn 18 = .ok (.if_icmp .ne 19, 3) := by decide +kernel
theorem d_E_latestIn_21 : decode b_E_latestIn 21 = .ok (.iload_n 2, 1) := by decide +kernel
theorem d_E_latestIn_22 : decode b_E_latestIn 22 = .ok (.ifCond .eq 13, 3) := by decide +kernel
theorem d_E_latestIn_25 : decode b_E_latestIn 25 = .ok (.aload_n 0, 1) := by decide +kernel
theorem d_E_latestIn_26 : decode b_E_latestIn 26 = .ok (.getfield 9, 3) := by decide +kernel
theorem d_E_latestIn_29 : decode b_E_latestIn 29 = .ok (.iload_n 3, 1) := by decide +kernel
theorem d_E_latestIn_30 : decode b_E_latestIn 30 = .ok (.iaload, 1) := by decide +kernel
theorem d_E_latestIn_31 : decode b_E_latestIn 31 = .ok (.iload_n 2, 1) := by decide +kernel
theorem d_E_latestIn_32 : decode b_E_latestIn 32 = .ok (.if_icmp .ne 5, 3) := by decide +kernel
theorem d_E_latestIn_35 : decode b_E_latestIn 35 = .ok (.iload_n 3, 1) := by decide +kernel
theorem d_E_latestIn_36 : decode b_E_latestIn 36 = .ok (.ireturn, 1) := by decide +kernel
theorem d_E_latestIn_37 : decode b_E_latestIn 37 = .ok (.iinc 3 (-1), 3) := by decide +kernel
theorem d_E_latestIn_40 : decode b_E_latestIn 40 = .ok (.goto (-33), 3) := by decide +kernel
theorem d_E_latestIn_43 : decode b_E_latestIn 43 = .ok (.iconst (-1), 1) := by decide +kernel
theorem d_E_latestIn_44 : decode b_E_latestIn 44 = .ok (.ireturn, 1) := by decide +kernel
section
variable {p : Program} {l : Launch} {e : Env} {s : State} {m : MethodId} {args : Array Value} {below : List Frame} {meth : Method} {c : Code} {H : Heap} {locs : List Loc} {ls : Array Slot} {D : va_G} {A : Nat → Prop} {h o : Nat → Nat} {t v : Nat → ClassId}
def f_E_latestIn_37 (k7 : Int32 → Int32 → Int32 → Option (Int32)) (p0 : St) (i0 : St) (x1 : Int32) (x2 : Int32) (x3 : Int32) : Option (Int32) :=
  k7 x1 x2 (x3 + (-1))
set_option maxHeartbeats 4000000 in
set_option maxRecDepth 100000 in
theorem k_E_latestIn_37 {k7 : Int32 → Int32 → Int32 → Option (Int32)} {p0 : St} {i0 : St} {x1 : Int32} {x2 : Int32} {x3 : Int32} {r : Int32} (X : sr_X D (tI t v) b_E_latestIn 4 R_E w_E_latestIn p s m args meth c A (some .int)) (hk7 : ∀ (x1 : Int32) (x2 : Int32) (x3 : Int32) (H : Heap) (locs : List Loc) (ls : Array Slot), sr_Z D A s.heap (wI h t o v p0 i0) H locs → lv_has ls 4 [(0, .ref (o 3)), (1, .int x1), (2, .int x2), (3, .int x3)] → k7 x1 x2 x3 = some r → W p l e (sr_rm 0 0) s m args below meth c H locs 0 0 (sr_Qi D (tI t v) below args s A (wI h t o v p0 i0) r) (F0 m 7 ls [])) (Z : sr_Z D A s.heap (wI h t o v p0 i0) H locs) (hl : lv_has ls 4 [(0, .ref (o 3)), (1, .int x1), (2, .int x2), (3, .int x3)]) (hf : f_E_latestIn_37 k7 p0 i0 x1 x2 x3 = some r) : W p l e (sr_rm 0 0) s m args below meth c H locs 0 0 (sr_Qi D (tI t v) below args s A (wI h t o v p0 i0) r) (F0 m 37 ls []) := by
  have hx := X.1
  have hb := X.2.1
  have hK := X.2.2.2.2.2.2.1
  unfold f_E_latestIn_37 at hf
  refine lv_iinc (k := 3) (v := x3 + (-1)) (lv' := [(3, .int (x3 + (-1))), (0, .ref (o 3)), (1, .int x1), (2, .int x2)]) hx hb d_E_latestIn_37 hl rfl rfl (by decide) rfl (fun ls hl => ?_)
  refine lv_goto (tgt := 7) hx hb d_E_latestIn_40 rfl ?_
  exact hk7 x1 x2 (x3 + (-1)) _ _ _ Z (lv_sub hl [1, 2, 3, 0] rfl) hf
def f_E_latestIn_7 (k7 : Int32 → Int32 → Int32 → Option (Int32)) (p0 : St) (i0 : St) (x1 : Int32) (x2 : Int32) (x3 : Int32) : Option (Int32) :=
  if x3 < 0 then
    some (-1)
  else
    (sr_ald 16 (i0 16) x3).bind fun v_2 =>
    if v_2 = x1 then
      if x2 = 0 then
        some x3
      else
        (sr_ald 16 (i0 14) x3).bind fun v_6 =>
        if v_6 = x2 then
          some x3
        else
          f_E_latestIn_37 k7 p0 i0 x1 x2 x3
    else
      f_E_latestIn_37 k7 p0 i0 x1 x2 x3
set_option maxHeartbeats 4000000 in
set_option maxRecDepth 100000 in
theorem k_E_latestIn_7 {k7 : Int32 → Int32 → Int32 → Option (Int32)} {p0 : St} {i0 : St} {x1 : Int32} {x2 : Int32} {x3 : Int32} {r : Int32} (X : sr_X D (tI t v) b_E_latestIn 4 R_E w_E_latestIn p s m args meth c A (some .int)) (hk7 : ∀ (x1 : Int32) (x2 : Int32) (x3 : Int32) (H : Heap) (locs : List Loc) (ls : Array Slot), sr_Z D A s.heap (wI h t o v p0 i0) H locs → lv_has ls 4 [(0, .ref (o 3)), (1, .int x1), (2, .int x2), (3, .int x3)] → k7 x1 x2 x3 = some r → W p l e (sr_rm 0 0) s m args below meth c H locs 0 0 (sr_Qi D (tI t v) below args s A (wI h t o v p0 i0) r) (F0 m 7 ls [])) (Z : sr_Z D A s.heap (wI h t o v p0 i0) H locs) (hl : lv_has ls 4 [(0, .ref (o 3)), (1, .int x1), (2, .int x2), (3, .int x3)]) (hf : f_E_latestIn_7 k7 p0 i0 x1 x2 x3 = some r) : W p l e (sr_rm 0 0) s m args below meth c H locs 0 0 (sr_Qi D (tI t v) below args s A (wI h t o v p0 i0) r) (F0 m 7 ls []) := by
  have hx := X.1
  have hb := X.2.1
  have hK := X.2.2.2.2.2.2.1
  unfold f_E_latestIn_7 at hf
  refine lv_iload_n hx hb d_E_latestIn_7 rfl (lv_at hl 3 rfl) ?_
  refine lv_if_lt (tgt := 43) hx hb d_E_latestIn_8 rfl (fun q_1 => ?_) (fun q_1 => ?_)
  · have hf := sr_it q_1 hf
    refine lv_iconst (v := -1) hx hb d_E_latestIn_43 (by decide) ?_
    cases hf
    exact sr_reti X Z d_E_latestIn_44
  · have hf := sr_if q_1 hf
    refine lv_aload_n hx hb d_E_latestIn_11 rfl (lv_at hl 0 rfl) ?_
    refine g_E_18_I X Z d_E_latestIn_12 ?_
    refine lv_iload_n hx hb d_E_latestIn_15 rfl (lv_at hl 3 rfl) ?_
    obtain ⟨v_2, e_3, hf⟩ := sr_b hf
    refine sr_iald hx hb hK Z 29 23 rfl rfl e_3 d_E_latestIn_16 ?_
    refine lv_iload_n hx hb d_E_latestIn_17 rfl (lv_at hl 1 rfl) ?_
    refine lv_icmp_ne (tgt := 37) hx hb d_E_latestIn_18 rfl (fun q_4 => ?_) (fun q_4 => ?_)
    · have hf := sr_if q_4 hf
      exact k_E_latestIn_37 X hk7 Z (lv_sub hl [0, 1, 2, 3] rfl) hf
    · have hf := sr_it q_4 hf
      refine lv_iload_n hx hb d_E_latestIn_21 rfl (lv_at hl 2 rfl) ?_
      refine lv_if_eq (tgt := 35) hx hb d_E_latestIn_22 rfl (fun q_5 => ?_) (fun q_5 => ?_)
      · have hf := sr_it q_5 hf
        refine lv_iload_n hx hb d_E_latestIn_35 rfl (lv_at hl 3 rfl) ?_
        cases hf
        exact sr_reti X Z d_E_latestIn_36
      · have hf := sr_if q_5 hf
        refine lv_aload_n hx hb d_E_latestIn_25 rfl (lv_at hl 0 rfl) ?_
        refine g_E_9_I X Z d_E_latestIn_26 ?_
        refine lv_iload_n hx hb d_E_latestIn_29 rfl (lv_at hl 3 rfl) ?_
        obtain ⟨v_6, e_7, hf⟩ := sr_b hf
        refine sr_iald hx hb hK Z 27 21 rfl rfl e_7 d_E_latestIn_30 ?_
        refine lv_iload_n hx hb d_E_latestIn_31 rfl (lv_at hl 2 rfl) ?_
        refine lv_icmp_ne (tgt := 37) hx hb d_E_latestIn_32 rfl (fun q_8 => ?_) (fun q_8 => ?_)
        · have hf := sr_if q_8 hf
          exact k_E_latestIn_37 X hk7 Z (lv_sub hl [0, 1, 2, 3] rfl) hf
        · have hf := sr_it q_8 hf
          refine lv_iload_n hx hb d_E_latestIn_35 rfl (lv_at hl 3 rfl) ?_
          cases hf
          exact sr_reti X Z d_E_latestIn_36
def f_E_latestIn_7_it (p0 : St) (i0 : St) : Nat → Int32 → Int32 → Int32 → Option (Int32)
  | 0 => fun _ _ _ => none
  | n + 1 => fun x1 x2 x3 => f_E_latestIn_7 (f_E_latestIn_7_it p0 i0 n) p0 i0 x1 x2 x3
set_option maxHeartbeats 4000000 in
set_option maxRecDepth 100000 in
theorem k_E_latestIn_7_it {p0 : St} {i0 : St} {r : Int32} (X : sr_X D (tI t v) b_E_latestIn 4 R_E w_E_latestIn p s m args meth c A (some .int)) (n : Nat) : ∀ {x1 : Int32} {x2 : Int32} {x3 : Int32} {H : Heap} {locs : List Loc} {ls : Array Slot}, sr_Z D A s.heap (wI h t o v p0 i0) H locs → lv_has ls 4 [(0, .ref (o 3)), (1, .int x1), (2, .int x2), (3, .int x3)] → f_E_latestIn_7_it p0 i0 n x1 x2 x3 = some r → W p l e (sr_rm 0 0) s m args below meth c H locs 0 0 (sr_Qi D (tI t v) below args s A (wI h t o v p0 i0) r) (F0 m 7 ls []) := by
  induction n with
  | zero => intro x1 x2 x3 H locs ls Z hl hf; exact absurd hf (by simp [f_E_latestIn_7_it])
  | succ n ih =>
    intro x1 x2 x3 H locs ls Z hl hf
    exact k_E_latestIn_7 X (fun x1 x2 x3 H locs ls Z hl hf => ih Z hl hf) Z hl hf
def f_E_latestIn (p0 : St) (i0 : St) (x1 : Int32) (x2 : Int32) : Option (Int32) :=
  f_E_latestIn_7_it p0 i0 60 x1 x2 ((i0 17 0) - 1)
set_option maxHeartbeats 4000000 in
set_option maxRecDepth 100000 in
theorem k_E_latestIn_0 {p0 : St} {i0 : St} {x1 : Int32} {x2 : Int32} {r : Int32} (X : sr_X D (tI t v) b_E_latestIn 4 R_E w_E_latestIn p s m args meth c A (some .int)) (Z : sr_Z D A s.heap (wI h t o v p0 i0) H locs) (hl : lv_has ls 4 [(0, .ref (o 3)), (1, .int x1), (2, .int x2)]) (hf : f_E_latestIn p0 i0 x1 x2 = some r) : W p l e (sr_rm 0 0) s m args below meth c H locs 0 0 (sr_Qi D (tI t v) below args s A (wI h t o v p0 i0) r) (F0 m 0 ls []) := by
  have hx := X.1
  have hb := X.2.1
  have hK := X.2.2.2.2.2.2.1
  unfold f_E_latestIn at hf
  refine lv_aload_n hx hb d_E_latestIn_0 rfl (lv_at hl 0 rfl) ?_
  refine g_E_21_I X Z d_E_latestIn_1 ?_
  refine lv_iconst (v := 1) hx hb d_E_latestIn_4 (by decide) ?_
  refine lv_isub hx hb d_E_latestIn_5 ?_
  refine lv_istore_n (lv' := [(3, .int ((i0 17 0) - 1)), (0, .ref (o 3)), (1, .int x1), (2, .int x2)]) hx hb d_E_latestIn_6 rfl hl (by decide) rfl (fun ls hl => ?_)
  exact k_E_latestIn_7_it X _ Z (lv_sub hl [1, 2, 3, 0] rfl) hf
end
set_option maxHeartbeats 4000000 in
set_option maxRecDepth 100000 in
theorem c_E_latestIn {l : Launch} {D : va_G} {h : Nat → Nat} {t : Nat → ClassId} {o : Nat → Nat} {v : Nat → ClassId} {sz : Nat} {p0 : St} {i0 : St} {x1 : Int32} {x2 : Int32} {r : Int32} (hf : f_E_latestIn p0 i0 x1 x2 = some r) : sr_Ci l y_E_latestIn w_E_latestIn (sr_rm 0 0) D (tI t v) (wI h t o v p0 i0) (wI h t o v p0 i0) sz [.ref (o 3), .int x1, .int x2] r := by
  refine Met.ofW (cc := b_E_latestIn) (maxL := 4) (ret := (some .int)) (by decide) rfl ?_
  intro p e s m args below meth c s₁ B hml hv
  obtain ⟨rfl, hsz, hP, hK, hD0⟩ := hv
  subst hsz
  have X : sr_X D (tI t v) b_E_latestIn 4 R_E w_E_latestIn p s m _ meth c (va_A (wI h t o v p0 i0) s.heap.size) (some .int) := ⟨B.exec, B.bytes, hml, findClass_of_methodNamed B.named, B.notSynchronized, atoms_spec (ws := w_E_latestIn) B.pre, hK, fun q h => Or.inr h, B.returns⟩
  have Z : sr_Z D (va_A (wI h t o v p0 i0) s.heap.size) s.heap (wI h t o v p0 i0) s.heap [] := ⟨hP, hD0.self, va_S.rf⟩
  have hl := lv_entry ([.ref (o 3), .int x1, .int x2] : List Value) (n := 4) (Nat.le_of_ble_eq_true rfl)
  rw [lg_entry_eq]
  exact k_E_latestIn_0 X Z hl hf
/-! E_clear -/
theorem d_E_clear_0 : decode b_E_clear 0 = .ok (.aload_n 0, 1) := by decide +kernel
theorem d_E_clear_1 : decode b_E_clear 1 = .ok (.iload_n 1, 1) := by decide +kernel
theorem d_E_clear_2 : decode b_E_clear 2 = .ok (.iconst (-1), 1) := by decide +kernel
theorem d_E_clear_3 : decode b_E_clear 3 = .ok (.invokevirtual 25, 3) := by decide +kernel
theorem d_E_clear_6 : decode b_E_clear 6 = .ok (.return_, 1) := by decide +kernel
section
variable {p : Program} {l : Launch} {e : Env} {s : State} {m : MethodId} {args : Array Value} {below : List Frame} {meth : Method} {c : Code} {H : Heap} {locs : List Loc} {ls : Array Slot} {D : va_G} {A : Nat → Prop} {h o : Nat → Nat} {t v : Nat → ClassId}
def f_E_clear (p0 : St) (x1 : Int32) (i0 : St) : Option (St) :=
  (f_E_moveAll p0 x1 (-1) i0).bind fun i_1 =>
  some i_1
set_option maxHeartbeats 4000000 in
set_option maxRecDepth 100000 in
theorem k_E_clear_0 {p0 : St} {x1 : Int32} {i0 : St} {i' : St} (X : sr_X D (tI t v) b_E_clear 2 R_E w_E_clear p s m args meth c A none) (Z : sr_Z D A s.heap (wI h t o v p0 i0) H locs) (hl : lv_has ls 2 [(0, .ref (o 3)), (1, .int x1)]) (hf : f_E_clear p0 x1 i0 = some i') : W p l e (sr_rm 1 23) s m args below meth c H locs 0 0 (sr_Qv D (tI t v) below args s A (wI h t o v p0 i')) (F0 m 0 ls []) := by
  have hx := X.1
  have hb := X.2.1
  have hK := X.2.2.2.2.2.2.1
  unfold f_E_clear at hf
  refine lv_aload_n hx hb d_E_clear_0 rfl (lv_at hl 0 rfl) ?_
  refine lv_iload_n hx hb d_E_clear_1 rfl (lv_at hl 1 rfl) ?_
  refine lv_iconst (v := -1) hx hb d_E_clear_2 (by decide) ?_
  obtain ⟨i_1, e_2, hf⟩ := sr_b hf
  refine sr_cVv (As := [.int x1, .int (-1)]) (rest := []) X Z sr_cut_self hK (c_E_moveAll e_2) (cw_E_25 X.2.2.2.2.2.1 (by decide)) 18 rfl rfl rfl hl rfl (Nat.le_of_ble_eq_true rfl) d_E_clear_3 (fun H locs Z => ?_)
  cases hf
  exact sr_retv X Z d_E_clear_6
end
set_option maxHeartbeats 4000000 in
set_option maxRecDepth 100000 in
theorem c_E_clear {l : Launch} {D : va_G} {h : Nat → Nat} {t : Nat → ClassId} {o : Nat → Nat} {v : Nat → ClassId} {sz : Nat} {p0 : St} {x1 : Int32} {i0 : St} {i' : St} (hf : f_E_clear p0 x1 i0 = some i') : sr_Cv l y_E_clear w_E_clear (sr_rm 1 23) D (tI t v) (wI h t o v p0 i0) (wI h t o v p0 i') sz [.ref (o 3), .int x1] := by
  refine Met.ofW (cc := b_E_clear) (maxL := 2) (ret := none) (by decide) rfl ?_
  intro p e s m args below meth c s₁ B hml hv
  obtain ⟨rfl, hsz, hP, hK, hD0⟩ := hv
  subst hsz
  have X : sr_X D (tI t v) b_E_clear 2 R_E w_E_clear p s m _ meth c (va_A (wI h t o v p0 i0) s.heap.size) none := ⟨B.exec, B.bytes, hml, findClass_of_methodNamed B.named, B.notSynchronized, atoms_spec (ws := w_E_clear) B.pre, hK, fun q h => Or.inr h, B.returns⟩
  have Z : sr_Z D (va_A (wI h t o v p0 i0) s.heap.size) s.heap (wI h t o v p0 i0) s.heap [] := ⟨hP, hD0.self, va_S.rf⟩
  have hl := lv_entry ([.ref (o 3), .int x1] : List Value) (n := 2) (Nat.le_of_ble_eq_true rfl)
  rw [lg_entry_eq]
  exact k_E_clear_0 X Z hl hf
/-! E_handBack -/
theorem d_E_handBack_0 : decode b_E_handBack 0 = .ok (.aload_n 0, 1) := by decide +kernel
theorem d_E_handBack_1 : decode b_E_handBack 1 = .ok (.getfield 18, 3) := by decide +kernel
theorem d_E_handBack_4 : decode b_E_handBack 4 = .ok (.iload_n 1, 1) := by decide +kernel
theorem d_E_handBack_5 : decode b_E_handBack 5 = .ok (.iconst (-1), 1) := by decide +kernel
theorem d_E_handBack_6 : decode b_E_handBack 6 = .ok (.iastore, 1) := by decide +kernel
theorem d_E_handBack_7 : decode b_E_handBack 7 = .ok (.aload_n 0, 1) := by decide +kernel
theorem d_E_handBack_8 : decode b_E_handBack 8 = .ok (.aload_n 0, 1) := by decide +kernel
theorem d_E_handBack_9 : decode b_E_handBack 9 = .ok (.getfield 9, 3) := by decide +kernel
theorem d_E_handBack_12 : decode b_E_handBack 12 = .ok (.iload_n 1, 1) := by decide +kernel
theorem d_E_handBack_13 : decode b_E_handBack 13 = .ok (.iaload, 1) := by decide +kernel
theorem d_E_handBack_14 : decode b_E_handBack 14 = .ok (.invokevirtual 29, 3) := by decide +kernel
theorem d_E_handBack_17 : decode b_E_handBack 17 = .ok (.aload_n 0, 1) := by decide +kernel
theorem d_E_handBack_18 : decode b_E_handBack 18 = .ok (.bipush 24, 2) := by decide +kernel
theorem d_E_handBack_20 : decode b_E_handBack 20 = .ok (.iload_n 1, 1) := by decide +kernel
theorem d_E_handBack_21 : decode b_E_handBack 21 = .ok (.iadd, 1) := by decide +kernel
theorem d_E_handBack_22 : decode b_E_handBack 22 = .ok (.aload_n 0, 1) := by decide +kernel
theorem d_E_handBack_23 : decode b_E_handBack 23 = .ok (.getfield 9, 3) := by decide +kernel
theorem d_E_handBack_26 : decode b_E_handBack 26 = .ok (.iload_n 1, 1) := by decide +kernel
theorem d_E_handBack_27 : decode b_E_handBack 27 = .ok (.iaload, 1) := by decide +kernel
theorem d_E_handBack_28 : decode b_E_handBack 28 = .ok (.invokevirtual 25, 3) := by decide +kernel
theorem d_E_handBack_31 : decode b_E_handBack 31 = .ok (.return_, 1) := by decide +kernel
section
variable {p : Program} {l : Launch} {e : Env} {s : State} {m : MethodId} {args : Array Value} {below : List Frame} {meth : Method} {c : Code} {H : Heap} {locs : List Loc} {ls : Array Slot} {D : va_G} {A : Nat → Prop} {h o : Nat → Nat} {t v : Nat → ClassId}
def f_E_handBack (p0 : St) (x1 : Int32) (i0 : St) : Option (St) :=
  (sr_ast 16 i0 16 x1 (-1)).bind fun i_1 =>
  (sr_ald 16 (i_1 14) x1).bind fun v_3 =>
  (f_E_clear p0 v_3 i_1).bind fun i_5 =>
  (sr_ald 16 (i_5 14) x1).bind fun v_7 =>
  (f_E_moveAll p0 (24 + x1) v_7 i_5).bind fun i_9 =>
  some i_9
set_option maxHeartbeats 4000000 in
set_option maxRecDepth 100000 in
theorem k_E_handBack_0 {p0 : St} {x1 : Int32} {i0 : St} {i' : St} (X : sr_X D (tI t v) b_E_handBack 2 R_E w_E_handBack p s m args meth c A none) (Z : sr_Z D A s.heap (wI h t o v p0 i0) H locs) (hl : lv_has ls 2 [(0, .ref (o 3)), (1, .int x1)]) (hf : f_E_handBack p0 x1 i0 = some i') : W p l e (sr_rm 2 44) s m args below meth c H locs 0 0 (sr_Qv D (tI t v) below args s A (wI h t o v p0 i')) (F0 m 0 ls []) := by
  have hx := X.1
  have hb := X.2.1
  have hK := X.2.2.2.2.2.2.1
  unfold f_E_handBack at hf
  refine lv_aload_n hx hb d_E_handBack_0 rfl (lv_at hl 0 rfl) ?_
  refine g_E_18_I X Z d_E_handBack_1 ?_
  refine lv_iload_n hx hb d_E_handBack_4 rfl (lv_at hl 1 rfl) ?_
  refine lv_iconst (v := -1) hx hb d_E_handBack_5 (by decide) ?_
  obtain ⟨i_1, e_2, hf⟩ := sr_b hf
  refine sr_iast (wf := (fun q => (wI h t o v p0 q))) hx hb hK Z 29 23 rfl rfl e_2 (fun _ => rfl) d_E_handBack_6 (fun H locs Z => ?_)
  refine lv_aload_n hx hb d_E_handBack_7 rfl (lv_at hl 0 rfl) ?_
  refine lv_aload_n hx hb d_E_handBack_8 rfl (lv_at hl 0 rfl) ?_
  refine g_E_9_I X Z d_E_handBack_9 ?_
  refine lv_iload_n hx hb d_E_handBack_12 rfl (lv_at hl 1 rfl) ?_
  obtain ⟨v_3, e_4, hf⟩ := sr_b hf
  refine sr_iald hx hb hK Z 27 21 rfl rfl e_4 d_E_handBack_13 ?_
  obtain ⟨i_5, e_6, hf⟩ := sr_b hf
  refine sr_cVv (As := [.int v_3]) (rest := []) X Z sr_cut_self hK (c_E_clear e_6) (cw_E_29 X.2.2.2.2.2.1 (by decide)) 18 rfl rfl rfl hl rfl (Nat.le_of_ble_eq_true rfl) d_E_handBack_14 (fun H locs Z => ?_)
  refine lv_aload_n hx hb d_E_handBack_17 rfl (lv_at hl 0 rfl) ?_
  refine lv_bipush (v := 24) hx hb d_E_handBack_18 (by decide) ?_
  refine lv_iload_n hx hb d_E_handBack_20 rfl (lv_at hl 1 rfl) ?_
  refine lv_iadd hx hb d_E_handBack_21 ?_
  refine lv_aload_n hx hb d_E_handBack_22 rfl (lv_at hl 0 rfl) ?_
  refine g_E_9_I X Z d_E_handBack_23 ?_
  refine lv_iload_n hx hb d_E_handBack_26 rfl (lv_at hl 1 rfl) ?_
  obtain ⟨v_7, e_8, hf⟩ := sr_b hf
  refine sr_iald hx hb hK Z 27 21 rfl rfl e_8 d_E_handBack_27 ?_
  obtain ⟨i_9, e_10, hf⟩ := sr_b hf
  refine sr_cVv (As := [.int (24 + x1), .int v_7]) (rest := []) X Z sr_cut_self hK (c_E_moveAll e_10) (cw_E_25 X.2.2.2.2.2.1 (by decide)) 18 rfl rfl rfl hl rfl (Nat.le_of_ble_eq_true rfl) d_E_handBack_28 (fun H locs Z => ?_)
  cases hf
  exact sr_retv X Z d_E_handBack_31
end
set_option maxHeartbeats 4000000 in
set_option maxRecDepth 100000 in
theorem c_E_handBack {l : Launch} {D : va_G} {h : Nat → Nat} {t : Nat → ClassId} {o : Nat → Nat} {v : Nat → ClassId} {sz : Nat} {p0 : St} {x1 : Int32} {i0 : St} {i' : St} (hf : f_E_handBack p0 x1 i0 = some i') : sr_Cv l y_E_handBack w_E_handBack (sr_rm 2 44) D (tI t v) (wI h t o v p0 i0) (wI h t o v p0 i') sz [.ref (o 3), .int x1] := by
  refine Met.ofW (cc := b_E_handBack) (maxL := 2) (ret := none) (by decide) rfl ?_
  intro p e s m args below meth c s₁ B hml hv
  obtain ⟨rfl, hsz, hP, hK, hD0⟩ := hv
  subst hsz
  have X : sr_X D (tI t v) b_E_handBack 2 R_E w_E_handBack p s m _ meth c (va_A (wI h t o v p0 i0) s.heap.size) none := ⟨B.exec, B.bytes, hml, findClass_of_methodNamed B.named, B.notSynchronized, atoms_spec (ws := w_E_handBack) B.pre, hK, fun q h => Or.inr h, B.returns⟩
  have Z : sr_Z D (va_A (wI h t o v p0 i0) s.heap.size) s.heap (wI h t o v p0 i0) s.heap [] := ⟨hP, hD0.self, va_S.rf⟩
  have hl := lv_entry ([.ref (o 3), .int x1] : List Value) (n := 2) (Nat.le_of_ble_eq_true rfl)
  rw [lg_entry_eq]
  exact k_E_handBack_0 X Z hl hf
/-! E_gather -/
theorem d_E_gather_0 : decode b_E_gather 0 = .ok (.iconst 0, 1) := by decide +kernel
theorem d_E_gather_1 : decode b_E_gather 1 = .ok (.istore_n 3, 1) := by decide +kernel
theorem d_E_gather_2 : decode b_E_gather 2 = .ok (.iload_n 3, 1) := by decide +kernel
theorem d_E_gather_3 : decode b_E_gather 3 = .ok (.aload_n 0, 1) := by decide +kernel
theorem d_E_gather_4 : decode b_E_gather 4 = .ok (.getfield 21, 3) := by decide +kernel
theorem d_E_gather_7 : decode b_E_gather 7 = .ok (.if_icmp .ge 61, 3) := by decide +kernel
theorem d_E_gather_10 : decode b_E_gather 10 = .ok (.aload_n 0, 1) := by decide +kernel
theorem d_E_gather_11 : decode b_E_gather 11 = .ok (.getfield 18, 3) := by decide +kernel
theorem d_E_gather_14 : decode b_E_gather 14 = .ok (.iload_n 3, 1) := by decide +kernel
theorem d_E_gather_15 : decode b_E_gather 15 = .ok (.iaload, 1) := by decide +kernel
theorem d_E_gather_16 : decode b_E_gather 16 = .ok (.ifCond .lt 18, 3) := by decide +kernel
theorem d_E_gather_19 : decode b_E_gather 19 = .ok (.aload_n 0, 1) := by decide +kernel
theorem d_E_gather_20 : decode b_E_gather 20 = .ok (.getfield 18, 3) := by decide +kernel
theorem d_E_gather_23 : decode b_E_gather 23 = .ok (.iload_n 3, 1) := by decide +kernel
theorem d_E_gather_24 : decode b_E_gather 24 = .ok (.iaload, 1) := by decide +kernel
theorem d_E_gather_25 : decode b_E_gather 25 = .ok (.bipush 24, 2) := by decide +kernel
theorem d_E_gather_27 : decode b_E_gather 27 = .ok (.if_icmp .ge 7, 3) := by decide +kernel
theorem d_E_gather_30 : decode b_E_gather 30 = .ok (.iconst 1, 1) := by decide +kernel
theorem d_E_gather_31 : decode b_E_gather 31 = .ok (.goto 4, 3) := by decide +kernel
theorem d_E_gather_34 : decode b_E_gather 34 = .ok (.iconst 0, 1) := by decide +kernel
theorem d_E_gather_35 : decode b_E_gather 35 = .ok (.istore 4, 2) := by decide +kernel
theorem d_E_gather_37 : decode b_E_gather 37 = .ok (.iload 4, 2) := by decide +kernel
theorem d_E_gather_39 : decode b_E_gather 39 = .ok (.ifCond .eq 23, 3) := by decide +kernel
theorem d_E_gather_42 : decode b_E_gather 42 = .ok (.aload_n 0, 1) := by decide +kernel
theorem d_E_gather_43 : decode b_E_gather 43 = .ok (.getfield 18, 3) := by decide +kernel
theorem d_E_gather_46 : decode b_E_gather 46 = .ok (.iload_n 3, 1) := by decide +kernel
theorem d_E_gather_47 : decode b_E_gather 47 = .ok (.iaload, 1) := by decide +kernel
theorem d_E_gather_48 : decode b_E_gather 48 = .ok (.iload_n 1, 1) := by decide +kernel
theorem d_E_gather_49 : decode b_E_gather 49 = .ok (.invokestatic 33, 3) := by decide +kernel
theorem d_E_gather_52 : decode b_E_gather 52 = .ok (.ifCond .eq 10, 3) := by decide +kernel
theorem d_E_gather_55 : decode b_E_gather 55 = .ok (.aload_n 0, 1) := by decide +kernel
theorem d_E_gather_56 : decode b_E_gather 56 = .ok (.getfield 18, 3) := by decide +kernel
theorem d_E_gather_59 : decode b_E_gather 59 = .ok (.iload_n 3, 1) := by decide +kernel
theorem d_E_gather_60 : decode b_E_gather 60 = .ok (.iload_n 2, 1) := by decide +kernel
theorem d_E_gather_61 : decode b_E_gather 61 = .ok (.iastore, 1) := by decide +kernel
theorem d_E_gather_62 : decode b_E_gather 62 = .ok (.iinc 3 1, 3) := by decide +kernel
theorem d_E_gather_65 : decode b_E_gather 65 = .ok (.goto (-63), 3) := by decide +kernel
theorem d_E_gather_68 : decode b_E_gather 68 = .ok (.return_, 1) := by decide +kernel
section
variable {p : Program} {l : Launch} {e : Env} {s : State} {m : MethodId} {args : Array Value} {below : List Frame} {meth : Method} {c : Code} {H : Heap} {locs : List Loc} {ls : Array Slot} {D : va_G} {A : Nat → Prop} {h o : Nat → Nat} {t v : Nat → ClassId}
def f_E_gather_62 (k2 : Int32 → Int32 → Int32 → St → Option (St)) (p0 : St) (x1 : Int32) (x2 : Int32) (x3 : Int32) (i0 : St) : Option (St) :=
  k2 x1 x2 (x3 + 1) i0
set_option maxHeartbeats 4000000 in
set_option maxRecDepth 100000 in
theorem k_E_gather_62 {k2 : Int32 → Int32 → Int32 → St → Option (St)} {p0 : St} {x1 : Int32} {x2 : Int32} {x3 : Int32} {i0 : St} {i' : St} (X : sr_X D (tI t v) b_E_gather 5 R_E w_E_gather p s m args meth c A none) (hk2 : ∀ (x1 : Int32) (x2 : Int32) (x3 : Int32) (i0 : St) (H : Heap) (locs : List Loc) (ls : Array Slot), sr_Z D A s.heap (wI h t o v p0 i0) H locs → lv_has ls 5 [(0, .ref (o 3)), (1, .int x1), (2, .int x2), (3, .int x3)] → k2 x1 x2 x3 i0 = some i' → W p l e (sr_rm 1 21) s m args below meth c H locs 0 0 (sr_Qv D (tI t v) below args s A (wI h t o v p0 i')) (F0 m 2 ls [])) (Z : sr_Z D A s.heap (wI h t o v p0 i0) H locs) (hl : lv_has ls 5 [(0, .ref (o 3)), (1, .int x1), (2, .int x2), (3, .int x3)]) (hf : f_E_gather_62 k2 p0 x1 x2 x3 i0 = some i') : W p l e (sr_rm 1 21) s m args below meth c H locs 0 0 (sr_Qv D (tI t v) below args s A (wI h t o v p0 i')) (F0 m 62 ls []) := by
  have hx := X.1
  have hb := X.2.1
  have hK := X.2.2.2.2.2.2.1
  unfold f_E_gather_62 at hf
  refine lv_iinc (k := 3) (v := x3 + 1) (lv' := [(3, .int (x3 + 1)), (0, .ref (o 3)), (1, .int x1), (2, .int x2)]) hx hb d_E_gather_62 hl rfl rfl (by decide) rfl (fun ls hl => ?_)
  refine lv_goto (tgt := 2) hx hb d_E_gather_65 rfl ?_
  exact hk2 x1 x2 (x3 + 1) i0 _ _ _ Z (lv_sub hl [1, 2, 3, 0] rfl) hf
def f_E_gather_35 (k2 : Int32 → Int32 → Int32 → St → Option (St)) (p0 : St) (x1 : Int32) (x2 : Int32) (x3 : Int32) (y0 : Int32) (i0 : St) : Option (St) :=
  if y0 = 0 then
    f_E_gather_62 k2 p0 x1 x2 x3 i0
  else
    (sr_ald 16 (i0 16) x3).bind fun v_6 =>
    (f_P_isIn v_6 x1).bind fun v_8 =>
    if v_8 = 0 then
      f_E_gather_62 k2 p0 x1 x2 x3 i0
    else
      (sr_ast 16 i0 16 x3 x2).bind fun i_11 =>
      f_E_gather_62 k2 p0 x1 x2 x3 i_11
set_option maxHeartbeats 4000000 in
set_option maxRecDepth 100000 in
theorem k_E_gather_35 {k2 : Int32 → Int32 → Int32 → St → Option (St)} {p0 : St} {x1 : Int32} {x2 : Int32} {x3 : Int32} {y0 : Int32} {i0 : St} {i' : St} (X : sr_X D (tI t v) b_E_gather 5 R_E w_E_gather p s m args meth c A none) (hk2 : ∀ (x1 : Int32) (x2 : Int32) (x3 : Int32) (i0 : St) (H : Heap) (locs : List Loc) (ls : Array Slot), sr_Z D A s.heap (wI h t o v p0 i0) H locs → lv_has ls 5 [(0, .ref (o 3)), (1, .int x1), (2, .int x2), (3, .int x3)] → k2 x1 x2 x3 i0 = some i' → W p l e (sr_rm 1 21) s m args below meth c H locs 0 0 (sr_Qv D (tI t v) below args s A (wI h t o v p0 i')) (F0 m 2 ls [])) (Z : sr_Z D A s.heap (wI h t o v p0 i0) H locs) (hl : lv_has ls 5 [(0, .ref (o 3)), (1, .int x1), (2, .int x2), (3, .int x3)]) (hf : f_E_gather_35 k2 p0 x1 x2 x3 y0 i0 = some i') : W p l e (sr_rm 1 21) s m args below meth c H locs 0 0 (sr_Qv D (tI t v) below args s A (wI h t o v p0 i')) (F0 m 35 ls [.int y0]) := by
  have hx := X.1
  have hb := X.2.1
  have hK := X.2.2.2.2.2.2.1
  unfold f_E_gather_35 at hf
  refine lv_istore (lv' := [(4, .int y0), (0, .ref (o 3)), (1, .int x1), (2, .int x2), (3, .int x3)]) hx hb d_E_gather_35 hl (by decide) rfl (fun ls hl => ?_)
  refine lv_iload hx hb d_E_gather_37 (lv_at hl 0 rfl) ?_
  refine lv_if_eq (tgt := 62) hx hb d_E_gather_39 rfl (fun q_5 => ?_) (fun q_5 => ?_)
  · have hf := sr_it q_5 hf
    exact k_E_gather_62 X hk2 Z (lv_sub hl [1, 2, 3, 4] rfl) hf
  · have hf := sr_if q_5 hf
    refine lv_aload_n hx hb d_E_gather_42 rfl (lv_at hl 1 rfl) ?_
    refine g_E_18_I X Z d_E_gather_43 ?_
    refine lv_iload_n hx hb d_E_gather_46 rfl (lv_at hl 4 rfl) ?_
    obtain ⟨v_6, e_7, hf⟩ := sr_b hf
    refine sr_iald hx hb hK Z 29 23 rfl rfl e_7 d_E_gather_47 ?_
    refine lv_iload_n hx hb d_E_gather_48 rfl (lv_at hl 2 rfl) ?_
    obtain ⟨v_8, e_9, hf⟩ := sr_b hf
    refine sr_cSi (As := [.int v_6, .int x1]) (rest := []) X Z sr_cut_0 (va_K.sub hK [] rfl) (c_P_isIn e_9) (cw_E_33 X.2.2.2.2.2.1 (by decide)) rfl hl rfl (Nat.le_of_ble_eq_true rfl) d_E_gather_49 (fun H locs Z => ?_)
    refine lv_if_eq (tgt := 62) hx hb d_E_gather_52 rfl (fun q_10 => ?_) (fun q_10 => ?_)
    · have hf := sr_it q_10 hf
      exact k_E_gather_62 X hk2 Z (lv_sub hl [1, 2, 3, 4] rfl) hf
    · have hf := sr_if q_10 hf
      refine lv_aload_n hx hb d_E_gather_55 rfl (lv_at hl 1 rfl) ?_
      refine g_E_18_I X Z d_E_gather_56 ?_
      refine lv_iload_n hx hb d_E_gather_59 rfl (lv_at hl 4 rfl) ?_
      refine lv_iload_n hx hb d_E_gather_60 rfl (lv_at hl 3 rfl) ?_
      obtain ⟨i_11, e_12, hf⟩ := sr_b hf
      refine sr_iast (wf := (fun q => (wI h t o v p0 q))) hx hb hK Z 29 23 rfl rfl e_12 (fun _ => rfl) d_E_gather_61 (fun H locs Z => ?_)
      exact k_E_gather_62 X hk2 Z (lv_sub hl [1, 2, 3, 4] rfl) hf
def f_E_gather_34 (k2 : Int32 → Int32 → Int32 → St → Option (St)) (p0 : St) (x1 : Int32) (x2 : Int32) (x3 : Int32) (i0 : St) : Option (St) :=
  f_E_gather_35 k2 p0 x1 x2 x3 0 i0
set_option maxHeartbeats 4000000 in
set_option maxRecDepth 100000 in
theorem k_E_gather_34 {k2 : Int32 → Int32 → Int32 → St → Option (St)} {p0 : St} {x1 : Int32} {x2 : Int32} {x3 : Int32} {i0 : St} {i' : St} (X : sr_X D (tI t v) b_E_gather 5 R_E w_E_gather p s m args meth c A none) (hk2 : ∀ (x1 : Int32) (x2 : Int32) (x3 : Int32) (i0 : St) (H : Heap) (locs : List Loc) (ls : Array Slot), sr_Z D A s.heap (wI h t o v p0 i0) H locs → lv_has ls 5 [(0, .ref (o 3)), (1, .int x1), (2, .int x2), (3, .int x3)] → k2 x1 x2 x3 i0 = some i' → W p l e (sr_rm 1 21) s m args below meth c H locs 0 0 (sr_Qv D (tI t v) below args s A (wI h t o v p0 i')) (F0 m 2 ls [])) (Z : sr_Z D A s.heap (wI h t o v p0 i0) H locs) (hl : lv_has ls 5 [(0, .ref (o 3)), (1, .int x1), (2, .int x2), (3, .int x3)]) (hf : f_E_gather_34 k2 p0 x1 x2 x3 i0 = some i') : W p l e (sr_rm 1 21) s m args below meth c H locs 0 0 (sr_Qv D (tI t v) below args s A (wI h t o v p0 i')) (F0 m 34 ls []) := by
  have hx := X.1
  have hb := X.2.1
  have hK := X.2.2.2.2.2.2.1
  unfold f_E_gather_34 at hf
  refine lv_iconst (v := 0) hx hb d_E_gather_34 (by decide) ?_
  exact k_E_gather_35 X hk2 Z (lv_sub hl [0, 1, 2, 3] rfl) hf
def f_E_gather_2 (k2 : Int32 → Int32 → Int32 → St → Option (St)) (p0 : St) (x1 : Int32) (x2 : Int32) (x3 : Int32) (i0 : St) : Option (St) :=
  if (i0 17 0) ≤ x3 then
    some i0
  else
    (sr_ald 16 (i0 16) x3).bind fun v_2 =>
    if v_2 < 0 then
      f_E_gather_34 k2 p0 x1 x2 x3 i0
    else
      (sr_ald 16 (i0 16) x3).bind fun v_13 =>
      if 24 ≤ v_13 then
        f_E_gather_34 k2 p0 x1 x2 x3 i0
      else
        f_E_gather_35 k2 p0 x1 x2 x3 1 i0
set_option maxHeartbeats 4000000 in
set_option maxRecDepth 100000 in
theorem k_E_gather_2 {k2 : Int32 → Int32 → Int32 → St → Option (St)} {p0 : St} {x1 : Int32} {x2 : Int32} {x3 : Int32} {i0 : St} {i' : St} (X : sr_X D (tI t v) b_E_gather 5 R_E w_E_gather p s m args meth c A none) (hk2 : ∀ (x1 : Int32) (x2 : Int32) (x3 : Int32) (i0 : St) (H : Heap) (locs : List Loc) (ls : Array Slot), sr_Z D A s.heap (wI h t o v p0 i0) H locs → lv_has ls 5 [(0, .ref (o 3)), (1, .int x1), (2, .int x2), (3, .int x3)] → k2 x1 x2 x3 i0 = some i' → W p l e (sr_rm 1 21) s m args below meth c H locs 0 0 (sr_Qv D (tI t v) below args s A (wI h t o v p0 i')) (F0 m 2 ls [])) (Z : sr_Z D A s.heap (wI h t o v p0 i0) H locs) (hl : lv_has ls 5 [(0, .ref (o 3)), (1, .int x1), (2, .int x2), (3, .int x3)]) (hf : f_E_gather_2 k2 p0 x1 x2 x3 i0 = some i') : W p l e (sr_rm 1 21) s m args below meth c H locs 0 0 (sr_Qv D (tI t v) below args s A (wI h t o v p0 i')) (F0 m 2 ls []) := by
  have hx := X.1
  have hb := X.2.1
  have hK := X.2.2.2.2.2.2.1
  unfold f_E_gather_2 at hf
  refine lv_iload_n hx hb d_E_gather_2 rfl (lv_at hl 3 rfl) ?_
  refine lv_aload_n hx hb d_E_gather_3 rfl (lv_at hl 0 rfl) ?_
  refine g_E_21_I X Z d_E_gather_4 ?_
  refine lv_icmp_ge (tgt := 68) hx hb d_E_gather_7 rfl (fun q_1 => ?_) (fun q_1 => ?_)
  · have hf := sr_it q_1 hf
    cases hf
    exact sr_retv X Z d_E_gather_68
  · have hf := sr_if q_1 hf
    refine lv_aload_n hx hb d_E_gather_10 rfl (lv_at hl 0 rfl) ?_
    refine g_E_18_I X Z d_E_gather_11 ?_
    refine lv_iload_n hx hb d_E_gather_14 rfl (lv_at hl 3 rfl) ?_
    obtain ⟨v_2, e_3, hf⟩ := sr_b hf
    refine sr_iald hx hb hK Z 29 23 rfl rfl e_3 d_E_gather_15 ?_
    refine lv_if_lt (tgt := 34) hx hb d_E_gather_16 rfl (fun q_4 => ?_) (fun q_4 => ?_)
    · have hf := sr_it q_4 hf
      exact k_E_gather_34 X hk2 Z (lv_sub hl [0, 1, 2, 3] rfl) hf
    · have hf := sr_if q_4 hf
      refine lv_aload_n hx hb d_E_gather_19 rfl (lv_at hl 0 rfl) ?_
      refine g_E_18_I X Z d_E_gather_20 ?_
      refine lv_iload_n hx hb d_E_gather_23 rfl (lv_at hl 3 rfl) ?_
      obtain ⟨v_13, e_14, hf⟩ := sr_b hf
      refine sr_iald hx hb hK Z 29 23 rfl rfl e_14 d_E_gather_24 ?_
      refine lv_bipush (v := 24) hx hb d_E_gather_25 (by decide) ?_
      refine lv_icmp_ge (tgt := 34) hx hb d_E_gather_27 rfl (fun q_15 => ?_) (fun q_15 => ?_)
      · have hf := sr_it q_15 hf
        exact k_E_gather_34 X hk2 Z (lv_sub hl [0, 1, 2, 3] rfl) hf
      · have hf := sr_if q_15 hf
        refine lv_iconst (v := 1) hx hb d_E_gather_30 (by decide) ?_
        refine lv_goto (tgt := 35) hx hb d_E_gather_31 rfl ?_
        exact k_E_gather_35 X hk2 Z (lv_sub hl [0, 1, 2, 3] rfl) hf
def f_E_gather_2_it (p0 : St) : Nat → Int32 → Int32 → Int32 → St → Option (St)
  | 0 => fun _ _ _ _ => none
  | n + 1 => fun x1 x2 x3 i0 => f_E_gather_2 (f_E_gather_2_it p0 n) p0 x1 x2 x3 i0
set_option maxHeartbeats 4000000 in
set_option maxRecDepth 100000 in
theorem k_E_gather_2_it {p0 : St} {i' : St} (X : sr_X D (tI t v) b_E_gather 5 R_E w_E_gather p s m args meth c A none) (n : Nat) : ∀ {x1 : Int32} {x2 : Int32} {x3 : Int32} {i0 : St} {H : Heap} {locs : List Loc} {ls : Array Slot}, sr_Z D A s.heap (wI h t o v p0 i0) H locs → lv_has ls 5 [(0, .ref (o 3)), (1, .int x1), (2, .int x2), (3, .int x3)] → f_E_gather_2_it p0 n x1 x2 x3 i0 = some i' → W p l e (sr_rm 1 21) s m args below meth c H locs 0 0 (sr_Qv D (tI t v) below args s A (wI h t o v p0 i')) (F0 m 2 ls []) := by
  induction n with
  | zero => intro x1 x2 x3 i0 H locs ls Z hl hf; exact absurd hf (by simp [f_E_gather_2_it])
  | succ n ih =>
    intro x1 x2 x3 i0 H locs ls Z hl hf
    exact k_E_gather_2 X (fun x1 x2 x3 i0 H locs ls Z hl hf => ih Z hl hf) Z hl hf
def f_E_gather (p0 : St) (x1 : Int32) (x2 : Int32) (i0 : St) : Option (St) :=
  f_E_gather_2_it p0 60 x1 x2 0 i0
set_option maxHeartbeats 4000000 in
set_option maxRecDepth 100000 in
theorem k_E_gather_0 {p0 : St} {x1 : Int32} {x2 : Int32} {i0 : St} {i' : St} (X : sr_X D (tI t v) b_E_gather 5 R_E w_E_gather p s m args meth c A none) (Z : sr_Z D A s.heap (wI h t o v p0 i0) H locs) (hl : lv_has ls 5 [(0, .ref (o 3)), (1, .int x1), (2, .int x2)]) (hf : f_E_gather p0 x1 x2 i0 = some i') : W p l e (sr_rm 1 21) s m args below meth c H locs 0 0 (sr_Qv D (tI t v) below args s A (wI h t o v p0 i')) (F0 m 0 ls []) := by
  have hx := X.1
  have hb := X.2.1
  have hK := X.2.2.2.2.2.2.1
  unfold f_E_gather at hf
  refine lv_iconst (v := 0) hx hb d_E_gather_0 (by decide) ?_
  refine lv_istore_n (lv' := [(3, .int 0), (0, .ref (o 3)), (1, .int x1), (2, .int x2)]) hx hb d_E_gather_1 rfl hl (by decide) rfl (fun ls hl => ?_)
  exact k_E_gather_2_it X _ Z (lv_sub hl [1, 2, 3, 0] rfl) hf
end
set_option maxHeartbeats 4000000 in
set_option maxRecDepth 100000 in
theorem c_E_gather {l : Launch} {D : va_G} {h : Nat → Nat} {t : Nat → ClassId} {o : Nat → Nat} {v : Nat → ClassId} {sz : Nat} {p0 : St} {x1 : Int32} {x2 : Int32} {i0 : St} {i' : St} (hf : f_E_gather p0 x1 x2 i0 = some i') : sr_Cv l y_E_gather w_E_gather (sr_rm 1 21) D (tI t v) (wI h t o v p0 i0) (wI h t o v p0 i') sz [.ref (o 3), .int x1, .int x2] := by
  refine Met.ofW (cc := b_E_gather) (maxL := 5) (ret := none) (by decide) rfl ?_
  intro p e s m args below meth c s₁ B hml hv
  obtain ⟨rfl, hsz, hP, hK, hD0⟩ := hv
  subst hsz
  have X : sr_X D (tI t v) b_E_gather 5 R_E w_E_gather p s m _ meth c (va_A (wI h t o v p0 i0) s.heap.size) none := ⟨B.exec, B.bytes, hml, findClass_of_methodNamed B.named, B.notSynchronized, atoms_spec (ws := w_E_gather) B.pre, hK, fun q h => Or.inr h, B.returns⟩
  have Z : sr_Z D (va_A (wI h t o v p0 i0) s.heap.size) s.heap (wI h t o v p0 i0) s.heap [] := ⟨hP, hD0.self, va_S.rf⟩
  have hl := lv_entry ([.ref (o 3), .int x1, .int x2] : List Value) (n := 5) (Nat.le_of_ble_eq_true rfl)
  rw [lg_entry_eq]
  exact k_E_gather_0 X Z hl hf
/-! E_countIn -/
theorem d_E_countIn_0 : decode b_E_countIn 0 = .ok (.iconst 0, 1) := by decide +kernel
theorem d_E_countIn_1 : decode b_E_countIn 1 = .ok (.istore_n 2, 1) := by decide +kernel
theorem d_E_countIn_2 : decode b_E_countIn 2 = .ok (.iconst 0, 1) := by decide +kernel
theorem d_E_countIn_3 : decode b_E_countIn 3 = .ok (.istore_n 3, 1) := by decide +kernel
theorem d_E_countIn_4 : decode b_E_countIn 4 = .ok (.iload_n 3, 1) := by decide +kernel
theorem d_E_countIn_5 : decode b_E_countIn 5 = .ok (.aload_n 0, 1) := by decide +kernel
theorem d_E_countIn_6 : decode b_E_countIn 6 = .ok (.getfield 21, 3) := by decide +kernel
theorem d_E_countIn_9 : decode b_E_countIn 9 = .ok (.if_icmp .ge 22, 3) := by decide +kernel
theorem d_E_countIn_12 : decode b_E_countIn 12 = .ok (.aload_n 0, 1) := by decide +kernel
theorem d_E_countIn_13 : decode b_E_countIn 13 = .ok (.getfield 18, 3) := by decide +kernel
theorem d_E_countIn_16 : decode b_E_countIn 16 = .ok (.iload_n 3, 1) := by decide +kernel
theorem d_E_countIn_17 : decode b_E_countIn 17 = .ok (.iaload, 1) := by decide +kernel
theorem d_E_countIn_18 : decode b_E_countIn 18 = .ok (.iload_n 1, 1) := by decide +kernel
theorem d_E_countIn_19 : decode b_E_countIn 19 = .ok (.if_icmp .ne 6, 3) := by decide +kernel
theorem d_E_countIn_22 : decode b_E_countIn 22 = .ok (.iinc 2 1, 3) := by decide +kernel
theorem d_E_countIn_25 : decode b_E_countIn 25 = .ok (.iinc 3 1, 3) := by decide +kernel
theorem d_E_countIn_28 : decode b_E_countIn 28 = .ok (.goto (-24), 3) := by decide +kernel
theorem d_E_countIn_31 : decode b_E_countIn 31 = .ok (.iload_n 2, 1) := by decide +kernel
theorem d_E_countIn_32 : decode b_E_countIn 32 = .ok (.ireturn, 1) := by decide +kernel
section
variable {p : Program} {l : Launch} {e : Env} {s : State} {m : MethodId} {args : Array Value} {below : List Frame} {meth : Method} {c : Code} {H : Heap} {locs : List Loc} {ls : Array Slot} {D : va_G} {A : Nat → Prop} {h o : Nat → Nat} {t v : Nat → ClassId}
def f_E_countIn_25 (k4 : Int32 → Int32 → Int32 → Option (Int32)) (p0 : St) (i0 : St) (x1 : Int32) (x2 : Int32) (x3 : Int32) : Option (Int32) :=
  k4 x1 x2 (x3 + 1)
set_option maxHeartbeats 4000000 in
set_option maxRecDepth 100000 in
theorem k_E_countIn_25 {k4 : Int32 → Int32 → Int32 → Option (Int32)} {p0 : St} {i0 : St} {x1 : Int32} {x2 : Int32} {x3 : Int32} {r : Int32} (X : sr_X D (tI t v) b_E_countIn 4 R_E w_E_countIn p s m args meth c A (some .int)) (hk4 : ∀ (x1 : Int32) (x2 : Int32) (x3 : Int32) (H : Heap) (locs : List Loc) (ls : Array Slot), sr_Z D A s.heap (wI h t o v p0 i0) H locs → lv_has ls 4 [(0, .ref (o 3)), (1, .int x1), (2, .int x2), (3, .int x3)] → k4 x1 x2 x3 = some r → W p l e (sr_rm 0 0) s m args below meth c H locs 0 0 (sr_Qi D (tI t v) below args s A (wI h t o v p0 i0) r) (F0 m 4 ls [])) (Z : sr_Z D A s.heap (wI h t o v p0 i0) H locs) (hl : lv_has ls 4 [(0, .ref (o 3)), (1, .int x1), (2, .int x2), (3, .int x3)]) (hf : f_E_countIn_25 k4 p0 i0 x1 x2 x3 = some r) : W p l e (sr_rm 0 0) s m args below meth c H locs 0 0 (sr_Qi D (tI t v) below args s A (wI h t o v p0 i0) r) (F0 m 25 ls []) := by
  have hx := X.1
  have hb := X.2.1
  have hK := X.2.2.2.2.2.2.1
  unfold f_E_countIn_25 at hf
  refine lv_iinc (k := 3) (v := x3 + 1) (lv' := [(3, .int (x3 + 1)), (0, .ref (o 3)), (1, .int x1), (2, .int x2)]) hx hb d_E_countIn_25 hl rfl rfl (by decide) rfl (fun ls hl => ?_)
  refine lv_goto (tgt := 4) hx hb d_E_countIn_28 rfl ?_
  exact hk4 x1 x2 (x3 + 1) _ _ _ Z (lv_sub hl [1, 2, 3, 0] rfl) hf
def f_E_countIn_4 (k4 : Int32 → Int32 → Int32 → Option (Int32)) (p0 : St) (i0 : St) (x1 : Int32) (x2 : Int32) (x3 : Int32) : Option (Int32) :=
  if (i0 17 0) ≤ x3 then
    some x2
  else
    (sr_ald 16 (i0 16) x3).bind fun v_2 =>
    if v_2 = x1 then
      f_E_countIn_25 k4 p0 i0 x1 (x2 + 1) x3
    else
      f_E_countIn_25 k4 p0 i0 x1 x2 x3
set_option maxHeartbeats 4000000 in
set_option maxRecDepth 100000 in
theorem k_E_countIn_4 {k4 : Int32 → Int32 → Int32 → Option (Int32)} {p0 : St} {i0 : St} {x1 : Int32} {x2 : Int32} {x3 : Int32} {r : Int32} (X : sr_X D (tI t v) b_E_countIn 4 R_E w_E_countIn p s m args meth c A (some .int)) (hk4 : ∀ (x1 : Int32) (x2 : Int32) (x3 : Int32) (H : Heap) (locs : List Loc) (ls : Array Slot), sr_Z D A s.heap (wI h t o v p0 i0) H locs → lv_has ls 4 [(0, .ref (o 3)), (1, .int x1), (2, .int x2), (3, .int x3)] → k4 x1 x2 x3 = some r → W p l e (sr_rm 0 0) s m args below meth c H locs 0 0 (sr_Qi D (tI t v) below args s A (wI h t o v p0 i0) r) (F0 m 4 ls [])) (Z : sr_Z D A s.heap (wI h t o v p0 i0) H locs) (hl : lv_has ls 4 [(0, .ref (o 3)), (1, .int x1), (2, .int x2), (3, .int x3)]) (hf : f_E_countIn_4 k4 p0 i0 x1 x2 x3 = some r) : W p l e (sr_rm 0 0) s m args below meth c H locs 0 0 (sr_Qi D (tI t v) below args s A (wI h t o v p0 i0) r) (F0 m 4 ls []) := by
  have hx := X.1
  have hb := X.2.1
  have hK := X.2.2.2.2.2.2.1
  unfold f_E_countIn_4 at hf
  refine lv_iload_n hx hb d_E_countIn_4 rfl (lv_at hl 3 rfl) ?_
  refine lv_aload_n hx hb d_E_countIn_5 rfl (lv_at hl 0 rfl) ?_
  refine g_E_21_I X Z d_E_countIn_6 ?_
  refine lv_icmp_ge (tgt := 31) hx hb d_E_countIn_9 rfl (fun q_1 => ?_) (fun q_1 => ?_)
  · have hf := sr_it q_1 hf
    refine lv_iload_n hx hb d_E_countIn_31 rfl (lv_at hl 2 rfl) ?_
    cases hf
    exact sr_reti X Z d_E_countIn_32
  · have hf := sr_if q_1 hf
    refine lv_aload_n hx hb d_E_countIn_12 rfl (lv_at hl 0 rfl) ?_
    refine g_E_18_I X Z d_E_countIn_13 ?_
    refine lv_iload_n hx hb d_E_countIn_16 rfl (lv_at hl 3 rfl) ?_
    obtain ⟨v_2, e_3, hf⟩ := sr_b hf
    refine sr_iald hx hb hK Z 29 23 rfl rfl e_3 d_E_countIn_17 ?_
    refine lv_iload_n hx hb d_E_countIn_18 rfl (lv_at hl 1 rfl) ?_
    refine lv_icmp_ne (tgt := 25) hx hb d_E_countIn_19 rfl (fun q_4 => ?_) (fun q_4 => ?_)
    · have hf := sr_if q_4 hf
      exact k_E_countIn_25 X hk4 Z (lv_sub hl [0, 1, 2, 3] rfl) hf
    · have hf := sr_it q_4 hf
      refine lv_iinc (k := 2) (v := x2 + 1) (lv' := [(2, .int (x2 + 1)), (0, .ref (o 3)), (1, .int x1), (3, .int x3)]) hx hb d_E_countIn_22 hl rfl rfl (by decide) rfl (fun ls hl => ?_)
      exact k_E_countIn_25 X hk4 Z (lv_sub hl [1, 2, 0, 3] rfl) hf
def f_E_countIn_4_it (p0 : St) (i0 : St) : Nat → Int32 → Int32 → Int32 → Option (Int32)
  | 0 => fun _ _ _ => none
  | n + 1 => fun x1 x2 x3 => f_E_countIn_4 (f_E_countIn_4_it p0 i0 n) p0 i0 x1 x2 x3
set_option maxHeartbeats 4000000 in
set_option maxRecDepth 100000 in
theorem k_E_countIn_4_it {p0 : St} {i0 : St} {r : Int32} (X : sr_X D (tI t v) b_E_countIn 4 R_E w_E_countIn p s m args meth c A (some .int)) (n : Nat) : ∀ {x1 : Int32} {x2 : Int32} {x3 : Int32} {H : Heap} {locs : List Loc} {ls : Array Slot}, sr_Z D A s.heap (wI h t o v p0 i0) H locs → lv_has ls 4 [(0, .ref (o 3)), (1, .int x1), (2, .int x2), (3, .int x3)] → f_E_countIn_4_it p0 i0 n x1 x2 x3 = some r → W p l e (sr_rm 0 0) s m args below meth c H locs 0 0 (sr_Qi D (tI t v) below args s A (wI h t o v p0 i0) r) (F0 m 4 ls []) := by
  induction n with
  | zero => intro x1 x2 x3 H locs ls Z hl hf; exact absurd hf (by simp [f_E_countIn_4_it])
  | succ n ih =>
    intro x1 x2 x3 H locs ls Z hl hf
    exact k_E_countIn_4 X (fun x1 x2 x3 H locs ls Z hl hf => ih Z hl hf) Z hl hf
def f_E_countIn (p0 : St) (i0 : St) (x1 : Int32) : Option (Int32) :=
  f_E_countIn_4_it p0 i0 60 x1 0 0
set_option maxHeartbeats 4000000 in
set_option maxRecDepth 100000 in
theorem k_E_countIn_0 {p0 : St} {i0 : St} {x1 : Int32} {r : Int32} (X : sr_X D (tI t v) b_E_countIn 4 R_E w_E_countIn p s m args meth c A (some .int)) (Z : sr_Z D A s.heap (wI h t o v p0 i0) H locs) (hl : lv_has ls 4 [(0, .ref (o 3)), (1, .int x1)]) (hf : f_E_countIn p0 i0 x1 = some r) : W p l e (sr_rm 0 0) s m args below meth c H locs 0 0 (sr_Qi D (tI t v) below args s A (wI h t o v p0 i0) r) (F0 m 0 ls []) := by
  have hx := X.1
  have hb := X.2.1
  have hK := X.2.2.2.2.2.2.1
  unfold f_E_countIn at hf
  refine lv_iconst (v := 0) hx hb d_E_countIn_0 (by decide) ?_
  refine lv_istore_n (lv' := [(2, .int 0), (0, .ref (o 3)), (1, .int x1)]) hx hb d_E_countIn_1 rfl hl (by decide) rfl (fun ls hl => ?_)
  refine lv_iconst (v := 0) hx hb d_E_countIn_2 (by decide) ?_
  refine lv_istore_n (lv' := [(3, .int 0), (2, .int 0), (0, .ref (o 3)), (1, .int x1)]) hx hb d_E_countIn_3 rfl hl (by decide) rfl (fun ls hl => ?_)
  exact k_E_countIn_4_it X _ Z (lv_sub hl [2, 3, 1, 0] rfl) hf
end
set_option maxHeartbeats 4000000 in
set_option maxRecDepth 100000 in
theorem c_E_countIn {l : Launch} {D : va_G} {h : Nat → Nat} {t : Nat → ClassId} {o : Nat → Nat} {v : Nat → ClassId} {sz : Nat} {p0 : St} {i0 : St} {x1 : Int32} {r : Int32} (hf : f_E_countIn p0 i0 x1 = some r) : sr_Ci l y_E_countIn w_E_countIn (sr_rm 0 0) D (tI t v) (wI h t o v p0 i0) (wI h t o v p0 i0) sz [.ref (o 3), .int x1] r := by
  refine Met.ofW (cc := b_E_countIn) (maxL := 4) (ret := (some .int)) (by decide) rfl ?_
  intro p e s m args below meth c s₁ B hml hv
  obtain ⟨rfl, hsz, hP, hK, hD0⟩ := hv
  subst hsz
  have X : sr_X D (tI t v) b_E_countIn 4 R_E w_E_countIn p s m _ meth c (va_A (wI h t o v p0 i0) s.heap.size) (some .int) := ⟨B.exec, B.bytes, hml, findClass_of_methodNamed B.named, B.notSynchronized, atoms_spec (ws := w_E_countIn) B.pre, hK, fun q h => Or.inr h, B.returns⟩
  have Z : sr_Z D (va_A (wI h t o v p0 i0) s.heap.size) s.heap (wI h t o v p0 i0) s.heap [] := ⟨hP, hD0.self, va_S.rf⟩
  have hl := lv_entry ([.ref (o 3), .int x1] : List Value) (n := 4) (Nat.le_of_ble_eq_true rfl)
  rw [lg_entry_eq]
  exact k_E_countIn_0 X Z hl hf
/-! G_write -/
theorem d_G_write_0 : decode b_G_write 0 = .ok (.aload_n 0, 1) := by decide +kernel
theorem d_G_write_1 : decode b_G_write 1 = .ok (.getfield 9, 3) := by decide +kernel
theorem d_G_write_4 : decode b_G_write 4 = .ok (.aload_n 0, 1) := by decide +kernel
theorem d_G_write_5 : decode b_G_write 5 = .ok (.getfield 15, 3) := by decide +kernel
theorem d_G_write_8 : decode b_G_write 8 = .ok (.bipush 32, 2) := by decide +kernel
theorem d_G_write_10 : decode b_G_write 10 = .ok (.irem, 1) := by decide +kernel
theorem d_G_write_11 : decode b_G_write 11 = .ok (.bipush 32, 2) := by decide +kernel
theorem d_G_write_13 : decode b_G_write 13 = .ok (.iload_n 1, 1) := by decide +kernel
theorem d_G_write_14 : decode b_G_write 14 = .ok (.imul, 1) := by decide +kernel
theorem d_G_write_15 : decode b_G_write 15 = .ok (.iload_n 2, 1) := by decide +kernel
theorem d_G_write_16 : decode b_G_write 16 = .ok (.iadd, 1) := by decide +kernel
theorem d_G_write_17 : decode b_G_write 17 = .ok (.iastore, 1) := by decide +kernel
theorem d_G_write_18 : decode b_G_write 18 = .ok (.aload_n 0, 1) := by decide +kernel
theorem d_G_write_19 : decode b_G_write 19 = .ok (.dup, 1) := by decide +kernel
theorem d_G_write_20 : decode b_G_write 20 = .ok (.getfield 15, 3) := by decide +kernel
theorem d_G_write_23 : decode b_G_write 23 = .ok (.iconst 1, 1) := by decide +kernel
theorem d_G_write_24 : decode b_G_write 24 = .ok (.iadd, 1) := by decide +kernel
theorem d_G_write_25 : decode b_G_write 25 = .ok (.putfield 15, 3) := by decide +kernel
theorem d_G_write_28 : decode b_G_write 28 = .ok (.return_, 1) := by decide +kernel
section
variable {p : Program} {l : Launch} {e : Env} {s : State} {m : MethodId} {args : Array Value} {below : List Frame} {meth : Method} {c : Code} {H : Heap} {locs : List Loc} {ls : Array Slot} {D : va_G} {A : Nat → Prop} {h o : Nat → Nat} {t v : Nat → ClassId}
def f_G_write (p0 : St) (x1 : Int32) (x2 : Int32) (i0 : St) : Option (St) :=
  (sr_ast 32 i0 18 ((i0 19 0) - (i0 19 0) / 32 * 32) ((32 * x1) + x2)).bind fun i_1 =>
  (sr_pf i_1 19 ((i_1 19 0) + 1)).bind fun i_3 =>
  some i_3
set_option maxHeartbeats 4000000 in
set_option maxRecDepth 100000 in
theorem k_G_write_0 {p0 : St} {x1 : Int32} {x2 : Int32} {i0 : St} {i' : St} (X : sr_X D (tI t v) b_G_write 3 R_G w_G_write p s m args meth c A none) (Z : sr_Z D A s.heap (wI h t o v p0 i0) H locs) (hl : lv_has ls 3 [(0, .ref (o 4)), (1, .int x1), (2, .int x2)]) (hf : f_G_write p0 x1 x2 i0 = some i') : W p l e (sr_rm 0 0) s m args below meth c H locs 0 0 (sr_Qv D (tI t v) below args s A (wI h t o v p0 i')) (F0 m 0 ls []) := by
  have hx := X.1
  have hb := X.2.1
  have hK := X.2.2.2.2.2.2.1
  unfold f_G_write at hf
  refine lv_aload_n hx hb d_G_write_0 rfl (lv_at hl 0 rfl) ?_
  refine g_G_9_I X Z d_G_write_1 ?_
  refine lv_aload_n hx hb d_G_write_4 rfl (lv_at hl 0 rfl) ?_
  refine g_G_15_I X Z d_G_write_5 ?_
  refine lv_bipush (v := 32) hx hb d_G_write_8 (by decide) ?_
  refine lv_irem hx hb d_G_write_10 (by decide) ?_
  refine lv_bipush (v := 32) hx hb d_G_write_11 (by decide) ?_
  refine lv_iload_n hx hb d_G_write_13 rfl (lv_at hl 1 rfl) ?_
  refine lv_imul hx hb d_G_write_14 ?_
  refine lv_iload_n hx hb d_G_write_15 rfl (lv_at hl 2 rfl) ?_
  refine lv_iadd hx hb d_G_write_16 ?_
  obtain ⟨i_1, e_2, hf⟩ := sr_b hf
  refine sr_iast (wf := (fun q => (wI h t o v p0 q))) hx hb hK Z 30 24 rfl rfl e_2 (fun _ => rfl) d_G_write_17 (fun H locs Z => ?_)
  refine lv_aload_n hx hb d_G_write_18 rfl (lv_at hl 0 rfl) ?_
  refine lv_dup hx hb d_G_write_19 rfl ?_
  refine g_G_15_I X Z d_G_write_20 ?_
  refine lv_iconst (v := 1) hx hb d_G_write_23 (by decide) ?_
  refine lv_iadd hx hb d_G_write_24 ?_
  obtain ⟨i_3, e_4, hf⟩ := sr_b hf
  refine s_G_15_I X Z e_4 d_G_write_25 (fun H locs Z => ?_)
  cases hf
  exact sr_retv X Z d_G_write_28
end
set_option maxHeartbeats 4000000 in
set_option maxRecDepth 100000 in
theorem c_G_write {l : Launch} {D : va_G} {h : Nat → Nat} {t : Nat → ClassId} {o : Nat → Nat} {v : Nat → ClassId} {sz : Nat} {p0 : St} {x1 : Int32} {x2 : Int32} {i0 : St} {i' : St} (hf : f_G_write p0 x1 x2 i0 = some i') : sr_Cv l y_G_write w_G_write (sr_rm 0 0) D (tI t v) (wI h t o v p0 i0) (wI h t o v p0 i') sz [.ref (o 4), .int x1, .int x2] := by
  refine Met.ofW (cc := b_G_write) (maxL := 3) (ret := none) (by decide) rfl ?_
  intro p e s m args below meth c s₁ B hml hv
  obtain ⟨rfl, hsz, hP, hK, hD0⟩ := hv
  subst hsz
  have X : sr_X D (tI t v) b_G_write 3 R_G w_G_write p s m _ meth c (va_A (wI h t o v p0 i0) s.heap.size) none := ⟨B.exec, B.bytes, hml, findClass_of_methodNamed B.named, B.notSynchronized, atoms_spec (ws := w_G_write) B.pre, hK, fun q h => Or.inr h, B.returns⟩
  have Z : sr_Z D (va_A (wI h t o v p0 i0) s.heap.size) s.heap (wI h t o v p0 i0) s.heap [] := ⟨hP, hD0.self, va_S.rf⟩
  have hl := lv_entry ([.ref (o 4), .int x1, .int x2] : List Value) (n := 3) (Nat.le_of_ble_eq_true rfl)
  rw [lg_entry_eq]
  exact k_G_write_0 X Z hl hf
/-! G_before -/
theorem d_G_before_0 : decode b_G_before 0 = .ok (.iload_n 1, 1) := by decide +kernel
theorem d_G_before_1 : decode b_G_before 1 = .ok (.ifCond .lt 17, 3) := by decide +kernel
theorem d_G_before_4 : decode b_G_before 4 = .ok (.iload_n 1, 1) := by decide +kernel
theorem d_G_before_5 : decode b_G_before 5 = .ok (.bipush 32, 2) := by decide +kernel
theorem d_G_before_7 : decode b_G_before 7 = .ok (.if_icmp .ge 11, 3) := by decide +kernel
theorem d_G_before_10 : decode b_G_before 10 = .ok (.iload_n 1, 1) := by decide +kernel
theorem d_G_before_11 : decode b_G_before 11 = .ok (.aload_n 0, 1) := by decide +kernel
theorem d_G_before_12 : decode b_G_before 12 = .ok (.getfield 15, 3) := by decide +kernel
theorem d_G_before_15 : decode b_G_before 15 = .ok (.if_icmp .lt 5, 3) := by decide +kernel
theorem d_G_before_18 : decode b_G_before 18 = .ok (.iconst (-1), 1) := by decide +kernel
theorem d_G_before_19 : decode b_G_before 19 = .ok (.ireturn, 1) := by decide +kernel
theorem d_G_before_20 : decode b_G_before 20 = .ok (.aload_n 0, 1) := by decide +kernel
theorem d_G_before_21 : decode b_G_before 21 = .ok (.getfield 9, 3) := by decide +kernel
theorem d_G_before_24 : decode b_G_before 24 = .ok (.aload_n 0, 1) := by decide +kernel
theorem d_G_before_25 : decode b_G_before 25 = .ok (.getfield 15, 3) := by decide +kernel
theorem d_G_before_28 : decode b_G_before 28 = .ok (.iconst 1, 1) := by decide +kernel
theorem d_G_before_29 : decode b_G_before 29 = .ok (.isub, 1) := by decide +kernel
theorem d_G_before_30 : decode b_G_before 30 = .ok (.iload_n 1, 1) := by decide +kernel
theorem d_G_before_31 : decode b_G_before 31 = .ok (.isub, 1) := by decide +kernel
theorem d_G_before_32 : decode b_G_before 32 = .ok (.bipush 32, 2) := by decide +kernel
theorem d_G_before_34 : decode b_G_before 34 = .ok (.irem, 1) := by decide +kernel
theorem d_G_before_35 : decode b_G_before 35 = .ok (.iaload, 1) := by decide +kernel
theorem d_G_before_36 : decode b_G_before 36 = .ok (.ireturn, 1) := by decide +kernel
section
variable {p : Program} {l : Launch} {e : Env} {s : State} {m : MethodId} {args : Array Value} {below : List Frame} {meth : Method} {c : Code} {H : Heap} {locs : List Loc} {ls : Array Slot} {D : va_G} {A : Nat → Prop} {h o : Nat → Nat} {t v : Nat → ClassId}
def f_G_before (p0 : St) (i0 : St) (x1 : Int32) : Option (Int32) :=
  if x1 < 0 then
    some (-1)
  else
    if 32 ≤ x1 then
      some (-1)
    else
      if x1 < (i0 19 0) then
        (sr_ald 32 (i0 18) ((((i0 19 0) - 1) - x1) - (((i0 19 0) - 1) - x1) / 32 * 32)).bind fun v_4 =>
        some v_4
      else
        some (-1)
set_option maxHeartbeats 4000000 in
set_option maxRecDepth 100000 in
theorem k_G_before_0 {p0 : St} {i0 : St} {x1 : Int32} {r : Int32} (X : sr_X D (tI t v) b_G_before 2 R_G w_G_before p s m args meth c A (some .int)) (Z : sr_Z D A s.heap (wI h t o v p0 i0) H locs) (hl : lv_has ls 2 [(0, .ref (o 4)), (1, .int x1)]) (hf : f_G_before p0 i0 x1 = some r) : W p l e (sr_rm 0 0) s m args below meth c H locs 0 0 (sr_Qi D (tI t v) below args s A (wI h t o v p0 i0) r) (F0 m 0 ls []) := by
  have hx := X.1
  have hb := X.2.1
  have hK := X.2.2.2.2.2.2.1
  unfold f_G_before at hf
  refine lv_iload_n hx hb d_G_before_0 rfl (lv_at hl 1 rfl) ?_
  refine lv_if_lt (tgt := 18) hx hb d_G_before_1 rfl (fun q_1 => ?_) (fun q_1 => ?_)
  · have hf := sr_it q_1 hf
    refine lv_iconst (v := -1) hx hb d_G_before_18 (by decide) ?_
    cases hf
    exact sr_reti X Z d_G_before_19
  · have hf := sr_if q_1 hf
    refine lv_iload_n hx hb d_G_before_4 rfl (lv_at hl 1 rfl) ?_
    refine lv_bipush (v := 32) hx hb d_G_before_5 (by decide) ?_
    refine lv_icmp_ge (tgt := 18) hx hb d_G_before_7 rfl (fun q_2 => ?_) (fun q_2 => ?_)
    · have hf := sr_it q_2 hf
      refine lv_iconst (v := -1) hx hb d_G_before_18 (by decide) ?_
      cases hf
      exact sr_reti X Z d_G_before_19
    · have hf := sr_if q_2 hf
      refine lv_iload_n hx hb d_G_before_10 rfl (lv_at hl 1 rfl) ?_
      refine lv_aload_n hx hb d_G_before_11 rfl (lv_at hl 0 rfl) ?_
      refine g_G_15_I X Z d_G_before_12 ?_
      refine lv_icmp_lt (tgt := 20) hx hb d_G_before_15 rfl (fun q_3 => ?_) (fun q_3 => ?_)
      · have hf := sr_it q_3 hf
        refine lv_aload_n hx hb d_G_before_20 rfl (lv_at hl 0 rfl) ?_
        refine g_G_9_I X Z d_G_before_21 ?_
        refine lv_aload_n hx hb d_G_before_24 rfl (lv_at hl 0 rfl) ?_
        refine g_G_15_I X Z d_G_before_25 ?_
        refine lv_iconst (v := 1) hx hb d_G_before_28 (by decide) ?_
        refine lv_isub hx hb d_G_before_29 ?_
        refine lv_iload_n hx hb d_G_before_30 rfl (lv_at hl 1 rfl) ?_
        refine lv_isub hx hb d_G_before_31 ?_
        refine lv_bipush (v := 32) hx hb d_G_before_32 (by decide) ?_
        refine lv_irem hx hb d_G_before_34 (by decide) ?_
        obtain ⟨v_4, e_5, hf⟩ := sr_b hf
        refine sr_iald hx hb hK Z 30 24 rfl rfl e_5 d_G_before_35 ?_
        cases hf
        exact sr_reti X Z d_G_before_36
      · have hf := sr_if q_3 hf
        refine lv_iconst (v := -1) hx hb d_G_before_18 (by decide) ?_
        cases hf
        exact sr_reti X Z d_G_before_19
end
set_option maxHeartbeats 4000000 in
set_option maxRecDepth 100000 in
theorem c_G_before {l : Launch} {D : va_G} {h : Nat → Nat} {t : Nat → ClassId} {o : Nat → Nat} {v : Nat → ClassId} {sz : Nat} {p0 : St} {i0 : St} {x1 : Int32} {r : Int32} (hf : f_G_before p0 i0 x1 = some r) : sr_Ci l y_G_before w_G_before (sr_rm 0 0) D (tI t v) (wI h t o v p0 i0) (wI h t o v p0 i0) sz [.ref (o 4), .int x1] r := by
  refine Met.ofW (cc := b_G_before) (maxL := 2) (ret := (some .int)) (by decide) rfl ?_
  intro p e s m args below meth c s₁ B hml hv
  obtain ⟨rfl, hsz, hP, hK, hD0⟩ := hv
  subst hsz
  have X : sr_X D (tI t v) b_G_before 2 R_G w_G_before p s m _ meth c (va_A (wI h t o v p0 i0) s.heap.size) (some .int) := ⟨B.exec, B.bytes, hml, findClass_of_methodNamed B.named, B.notSynchronized, atoms_spec (ws := w_G_before) B.pre, hK, fun q h => Or.inr h, B.returns⟩
  have Z : sr_Z D (va_A (wI h t o v p0 i0) s.heap.size) s.heap (wI h t o v p0 i0) s.heap [] := ⟨hP, hD0.self, va_S.rf⟩
  have hl := lv_entry ([.ref (o 4), .int x1] : List Value) (n := 2) (Nat.le_of_ble_eq_true rfl)
  rw [lg_entry_eq]
  exact k_G_before_0 X Z hl hf
/-! L_countTo -/
theorem d_L_countTo_0 : decode b_L_countTo 0 = .ok (.iconst 0, 1) := by decide +kernel
theorem d_L_countTo_1 : decode b_L_countTo 1 = .ok (.istore_n 3, 1) := by decide +kernel
theorem d_L_countTo_2 : decode b_L_countTo 2 = .ok (.iconst 0, 1) := by decide +kernel
theorem d_L_countTo_3 : decode b_L_countTo 3 = .ok (.istore 4, 2) := by decide +kernel
theorem d_L_countTo_5 : decode b_L_countTo 5 = .ok (.iload 4, 2) := by decide +kernel
theorem d_L_countTo_7 : decode b_L_countTo 7 = .ok (.aload_n 0, 1) := by decide +kernel
theorem d_L_countTo_8 : decode b_L_countTo 8 = .ok (.getfield 15, 3) := by decide +kernel
theorem d_L_countTo_11 : decode b_L_countTo 11 = .ok (.getfield 19, 3) := by decide +kernel
theorem d_L_countTo_14 : decode b_L_countTo 14 = .ok (.if_icmp .ge 37, 3) := by decide +kernel
theorem d_L_countTo_17 : decode b_L_countTo 17 = .ok (.aload_n 0, 1) := by decide +kernel
theorem d_L_countTo_18 : decode b_L_countTo 18 = .ok (.getfield 15, 3) := by decide +kernel
theorem d_L_countTo_21 : decode b_L_countTo 21 = .ok (.getfield 25, 3) := by decide +kernel
theorem d_L_countTo_24 : decode b_L_countTo 24 = .ok (.iload 4, 2) := by decide +kernel
theorem d_L_countTo_26 : decode b_L_countTo 26 = .ok (.iaload, 1) := by decide +kernel
theorem d_L_countTo_27 : decode b_L_countTo 27 = .ok (.iload_n 1, 1) := by decide +kernel
theorem d_L_countTo_28 : decode b_L_countTo 28 = .ok (.if_icmp .ne 17, 3) := by decide +kernel
theorem d_L_countTo_31 : decode b_L_countTo 31 = .ok (.aload_n 0, 1) := by decide +kernel
theorem d_L_countTo_32 : decode b_L_countTo 32 = .ok (.getfield 9, 3) := by decide +kernel
theorem d_L_countTo_35 : decode b_L_countTo 35 = .ok (.iload 4, 2) := by decide +kernel
theorem d_L_countTo_37 : decode b_L_countTo 37 = .ok (.iaload, 1) := by decide +kernel
theorem d_L_countTo_38 : decode b_L_countTo 38 = .ok (.iload_n 2, 1) := by decide +kernel
theorem d_L_countTo_39 : decode b_L_countTo 39 = .ok (.if_icmp .ne 6, 3) := by decide +kernel
theorem d_L_countTo_42 : decode b_L_countTo 42 = .ok (.iinc 3 1, 3) := by decide +kernel
theorem d_L_countTo_45 : decode b_L_countTo 45 = .ok (.iinc 4 1, 3) := by decide +kernel
theorem d_L_countTo_48 : decode b_L_countTo 48 = .ok (.goto (-43), 3) := by decide +kernel
theorem d_L_countTo_51 : decode b_L_countTo 51 = .ok (.iload_n 3, 1) := by decide +kernel
theorem d_L_countTo_52 : decode b_L_countTo 52 = .ok (.ireturn, 1) := by decide +kernel
section
variable {p : Program} {l : Launch} {e : Env} {s : State} {m : MethodId} {args : Array Value} {below : List Frame} {meth : Method} {c : Code} {H : Heap} {locs : List Loc} {ls : Array Slot} {D : va_G} {A : Nat → Prop} {h o : Nat → Nat} {t v : Nat → ClassId}
def f_L_countTo_45 (k5 : Int32 → Int32 → Int32 → Int32 → Option (Int32)) (p0 : St) (i0 : St) (x1 : Int32) (x2 : Int32) (x3 : Int32) (x4 : Int32) : Option (Int32) :=
  k5 x1 x2 x3 (x4 + 1)
set_option maxHeartbeats 4000000 in
set_option maxRecDepth 100000 in
theorem k_L_countTo_45 {k5 : Int32 → Int32 → Int32 → Int32 → Option (Int32)} {p0 : St} {i0 : St} {x1 : Int32} {x2 : Int32} {x3 : Int32} {x4 : Int32} {r : Int32} (X : sr_X D (tI t v) b_L_countTo 5 R_L w_L_countTo p s m args meth c A (some .int)) (hk5 : ∀ (x1 : Int32) (x2 : Int32) (x3 : Int32) (x4 : Int32) (H : Heap) (locs : List Loc) (ls : Array Slot), sr_Z D A s.heap (wI h t o v p0 i0) H locs → lv_has ls 5 [(0, .ref (o 2)), (1, .int x1), (2, .int x2), (3, .int x3), (4, .int x4)] → k5 x1 x2 x3 x4 = some r → W p l e (sr_rm 0 0) s m args below meth c H locs 0 0 (sr_Qi D (tI t v) below args s A (wI h t o v p0 i0) r) (F0 m 5 ls [])) (Z : sr_Z D A s.heap (wI h t o v p0 i0) H locs) (hl : lv_has ls 5 [(0, .ref (o 2)), (1, .int x1), (2, .int x2), (3, .int x3), (4, .int x4)]) (hf : f_L_countTo_45 k5 p0 i0 x1 x2 x3 x4 = some r) : W p l e (sr_rm 0 0) s m args below meth c H locs 0 0 (sr_Qi D (tI t v) below args s A (wI h t o v p0 i0) r) (F0 m 45 ls []) := by
  have hx := X.1
  have hb := X.2.1
  have hK := X.2.2.2.2.2.2.1
  unfold f_L_countTo_45 at hf
  refine lv_iinc (k := 4) (v := x4 + 1) (lv' := [(4, .int (x4 + 1)), (0, .ref (o 2)), (1, .int x1), (2, .int x2), (3, .int x3)]) hx hb d_L_countTo_45 hl rfl rfl (by decide) rfl (fun ls hl => ?_)
  refine lv_goto (tgt := 5) hx hb d_L_countTo_48 rfl ?_
  exact hk5 x1 x2 x3 (x4 + 1) _ _ _ Z (lv_sub hl [1, 2, 3, 4, 0] rfl) hf
def f_L_countTo_5 (k5 : Int32 → Int32 → Int32 → Int32 → Option (Int32)) (p0 : St) (i0 : St) (x1 : Int32) (x2 : Int32) (x3 : Int32) (x4 : Int32) : Option (Int32) :=
  if (p0 15 0) ≤ x4 then
    some x3
  else
    (sr_ald 16 (p0 12) x4).bind fun v_2 =>
    if v_2 = x1 then
      (sr_ald 16 (i0 13) x4).bind fun v_5 =>
      if v_5 = x2 then
        f_L_countTo_45 k5 p0 i0 x1 x2 (x3 + 1) x4
      else
        f_L_countTo_45 k5 p0 i0 x1 x2 x3 x4
    else
      f_L_countTo_45 k5 p0 i0 x1 x2 x3 x4
set_option maxHeartbeats 4000000 in
set_option maxRecDepth 100000 in
theorem k_L_countTo_5 {k5 : Int32 → Int32 → Int32 → Int32 → Option (Int32)} {p0 : St} {i0 : St} {x1 : Int32} {x2 : Int32} {x3 : Int32} {x4 : Int32} {r : Int32} (X : sr_X D (tI t v) b_L_countTo 5 R_L w_L_countTo p s m args meth c A (some .int)) (hk5 : ∀ (x1 : Int32) (x2 : Int32) (x3 : Int32) (x4 : Int32) (H : Heap) (locs : List Loc) (ls : Array Slot), sr_Z D A s.heap (wI h t o v p0 i0) H locs → lv_has ls 5 [(0, .ref (o 2)), (1, .int x1), (2, .int x2), (3, .int x3), (4, .int x4)] → k5 x1 x2 x3 x4 = some r → W p l e (sr_rm 0 0) s m args below meth c H locs 0 0 (sr_Qi D (tI t v) below args s A (wI h t o v p0 i0) r) (F0 m 5 ls [])) (Z : sr_Z D A s.heap (wI h t o v p0 i0) H locs) (hl : lv_has ls 5 [(0, .ref (o 2)), (1, .int x1), (2, .int x2), (3, .int x3), (4, .int x4)]) (hf : f_L_countTo_5 k5 p0 i0 x1 x2 x3 x4 = some r) : W p l e (sr_rm 0 0) s m args below meth c H locs 0 0 (sr_Qi D (tI t v) below args s A (wI h t o v p0 i0) r) (F0 m 5 ls []) := by
  have hx := X.1
  have hb := X.2.1
  have hK := X.2.2.2.2.2.2.1
  unfold f_L_countTo_5 at hf
  refine lv_iload hx hb d_L_countTo_5 (lv_at hl 4 rfl) ?_
  refine lv_aload_n hx hb d_L_countTo_7 rfl (lv_at hl 0 rfl) ?_
  refine g_L_15_I X Z d_L_countTo_8 ?_
  refine g_L_19_I X Z d_L_countTo_11 ?_
  refine lv_icmp_ge (tgt := 51) hx hb d_L_countTo_14 rfl (fun q_1 => ?_) (fun q_1 => ?_)
  · have hf := sr_it q_1 hf
    refine lv_iload_n hx hb d_L_countTo_51 rfl (lv_at hl 3 rfl) ?_
    cases hf
    exact sr_reti X Z d_L_countTo_52
  · have hf := sr_if q_1 hf
    refine lv_aload_n hx hb d_L_countTo_17 rfl (lv_at hl 0 rfl) ?_
    refine g_L_15_I X Z d_L_countTo_18 ?_
    refine g_L_25_I X Z d_L_countTo_21 ?_
    refine lv_iload hx hb d_L_countTo_24 (lv_at hl 4 rfl) ?_
    obtain ⟨v_2, e_3, hf⟩ := sr_b hf
    refine sr_iald hx hb hK Z 12 11 rfl rfl e_3 d_L_countTo_26 ?_
    refine lv_iload_n hx hb d_L_countTo_27 rfl (lv_at hl 1 rfl) ?_
    refine lv_icmp_ne (tgt := 45) hx hb d_L_countTo_28 rfl (fun q_4 => ?_) (fun q_4 => ?_)
    · have hf := sr_if q_4 hf
      exact k_L_countTo_45 X hk5 Z (lv_sub hl [0, 1, 2, 3, 4] rfl) hf
    · have hf := sr_it q_4 hf
      refine lv_aload_n hx hb d_L_countTo_31 rfl (lv_at hl 0 rfl) ?_
      refine g_L_9_I X Z d_L_countTo_32 ?_
      refine lv_iload hx hb d_L_countTo_35 (lv_at hl 4 rfl) ?_
      obtain ⟨v_5, e_6, hf⟩ := sr_b hf
      refine sr_iald hx hb hK Z 26 20 rfl rfl e_6 d_L_countTo_37 ?_
      refine lv_iload_n hx hb d_L_countTo_38 rfl (lv_at hl 2 rfl) ?_
      refine lv_icmp_ne (tgt := 45) hx hb d_L_countTo_39 rfl (fun q_7 => ?_) (fun q_7 => ?_)
      · have hf := sr_if q_7 hf
        exact k_L_countTo_45 X hk5 Z (lv_sub hl [0, 1, 2, 3, 4] rfl) hf
      · have hf := sr_it q_7 hf
        refine lv_iinc (k := 3) (v := x3 + 1) (lv' := [(3, .int (x3 + 1)), (0, .ref (o 2)), (1, .int x1), (2, .int x2), (4, .int x4)]) hx hb d_L_countTo_42 hl rfl rfl (by decide) rfl (fun ls hl => ?_)
        exact k_L_countTo_45 X hk5 Z (lv_sub hl [1, 2, 3, 0, 4] rfl) hf
def f_L_countTo_5_it (p0 : St) (i0 : St) : Nat → Int32 → Int32 → Int32 → Int32 → Option (Int32)
  | 0 => fun _ _ _ _ => none
  | n + 1 => fun x1 x2 x3 x4 => f_L_countTo_5 (f_L_countTo_5_it p0 i0 n) p0 i0 x1 x2 x3 x4
set_option maxHeartbeats 4000000 in
set_option maxRecDepth 100000 in
theorem k_L_countTo_5_it {p0 : St} {i0 : St} {r : Int32} (X : sr_X D (tI t v) b_L_countTo 5 R_L w_L_countTo p s m args meth c A (some .int)) (n : Nat) : ∀ {x1 : Int32} {x2 : Int32} {x3 : Int32} {x4 : Int32} {H : Heap} {locs : List Loc} {ls : Array Slot}, sr_Z D A s.heap (wI h t o v p0 i0) H locs → lv_has ls 5 [(0, .ref (o 2)), (1, .int x1), (2, .int x2), (3, .int x3), (4, .int x4)] → f_L_countTo_5_it p0 i0 n x1 x2 x3 x4 = some r → W p l e (sr_rm 0 0) s m args below meth c H locs 0 0 (sr_Qi D (tI t v) below args s A (wI h t o v p0 i0) r) (F0 m 5 ls []) := by
  induction n with
  | zero => intro x1 x2 x3 x4 H locs ls Z hl hf; exact absurd hf (by simp [f_L_countTo_5_it])
  | succ n ih =>
    intro x1 x2 x3 x4 H locs ls Z hl hf
    exact k_L_countTo_5 X (fun x1 x2 x3 x4 H locs ls Z hl hf => ih Z hl hf) Z hl hf
def f_L_countTo (p0 : St) (i0 : St) (x1 : Int32) (x2 : Int32) : Option (Int32) :=
  f_L_countTo_5_it p0 i0 60 x1 x2 0 0
set_option maxHeartbeats 4000000 in
set_option maxRecDepth 100000 in
theorem k_L_countTo_0 {p0 : St} {i0 : St} {x1 : Int32} {x2 : Int32} {r : Int32} (X : sr_X D (tI t v) b_L_countTo 5 R_L w_L_countTo p s m args meth c A (some .int)) (Z : sr_Z D A s.heap (wI h t o v p0 i0) H locs) (hl : lv_has ls 5 [(0, .ref (o 2)), (1, .int x1), (2, .int x2)]) (hf : f_L_countTo p0 i0 x1 x2 = some r) : W p l e (sr_rm 0 0) s m args below meth c H locs 0 0 (sr_Qi D (tI t v) below args s A (wI h t o v p0 i0) r) (F0 m 0 ls []) := by
  have hx := X.1
  have hb := X.2.1
  have hK := X.2.2.2.2.2.2.1
  unfold f_L_countTo at hf
  refine lv_iconst (v := 0) hx hb d_L_countTo_0 (by decide) ?_
  refine lv_istore_n (lv' := [(3, .int 0), (0, .ref (o 2)), (1, .int x1), (2, .int x2)]) hx hb d_L_countTo_1 rfl hl (by decide) rfl (fun ls hl => ?_)
  refine lv_iconst (v := 0) hx hb d_L_countTo_2 (by decide) ?_
  refine lv_istore (lv' := [(4, .int 0), (3, .int 0), (0, .ref (o 2)), (1, .int x1), (2, .int x2)]) hx hb d_L_countTo_3 hl (by decide) rfl (fun ls hl => ?_)
  exact k_L_countTo_5_it X _ Z (lv_sub hl [2, 3, 4, 1, 0] rfl) hf
end
set_option maxHeartbeats 4000000 in
set_option maxRecDepth 100000 in
theorem c_L_countTo {l : Launch} {D : va_G} {h : Nat → Nat} {t : Nat → ClassId} {o : Nat → Nat} {v : Nat → ClassId} {sz : Nat} {p0 : St} {i0 : St} {x1 : Int32} {x2 : Int32} {r : Int32} (hf : f_L_countTo p0 i0 x1 x2 = some r) : sr_Ci l y_L_countTo w_L_countTo (sr_rm 0 0) D (tI t v) (wI h t o v p0 i0) (wI h t o v p0 i0) sz [.ref (o 2), .int x1, .int x2] r := by
  refine Met.ofW (cc := b_L_countTo) (maxL := 5) (ret := (some .int)) (by decide) rfl ?_
  intro p e s m args below meth c s₁ B hml hv
  obtain ⟨rfl, hsz, hP, hK, hD0⟩ := hv
  subst hsz
  have X : sr_X D (tI t v) b_L_countTo 5 R_L w_L_countTo p s m _ meth c (va_A (wI h t o v p0 i0) s.heap.size) (some .int) := ⟨B.exec, B.bytes, hml, findClass_of_methodNamed B.named, B.notSynchronized, atoms_spec (ws := w_L_countTo) B.pre, hK, fun q h => Or.inr h, B.returns⟩
  have Z : sr_Z D (va_A (wI h t o v p0 i0) s.heap.size) s.heap (wI h t o v p0 i0) s.heap [] := ⟨hP, hD0.self, va_S.rf⟩
  have hl := lv_entry ([.ref (o 2), .int x1, .int x2] : List Value) (n := 5) (Nat.le_of_ble_eq_true rfl)
  rw [lg_entry_eq]
  exact k_L_countTo_0 X Z hl hf
/-! L_areSetTo -/
theorem d_L_areSetTo_0 : decode b_L_areSetTo 0 = .ok (.aload_n 0, 1) := by decide +kernel
theorem d_L_areSetTo_1 : decode b_L_areSetTo 1 = .ok (.iload_n 1, 1) := by decide +kernel
theorem d_L_areSetTo_2 : decode b_L_areSetTo 2 = .ok (.iconst 0, 1) := by decide +kernel
theorem d_L_areSetTo_3 : decode b_L_areSetTo 3 = .ok (.invokevirtual 28, 3) := by decide +kernel
theorem d_L_areSetTo_6 : decode b_L_areSetTo 6 = .ok (.ifCond .ne 7, 3) := by decide +kernel
theorem d_L_areSetTo_9 : decode b_L_areSetTo 9 = .ok (.iconst 1, 1) := by decide +kernel
theorem d_L_areSetTo_10 : decode b_L_areSetTo 10 = .ok (.goto 4, 3) := by decide +kernel
theorem d_L_areSetTo_13 : decode b_L_areSetTo 13 = .ok (.iconst 0, 1) := by decide +kernel
theorem d_L_areSetTo_14 : decode b_L_areSetTo 14 = .ok (.ireturn, 1) := by decide +kernel
section
variable {p : Program} {l : Launch} {e : Env} {s : State} {m : MethodId} {args : Array Value} {below : List Frame} {meth : Method} {c : Code} {H : Heap} {locs : List Loc} {ls : Array Slot} {D : va_G} {A : Nat → Prop} {h o : Nat → Nat} {t v : Nat → ClassId}
def f_L_areSetTo (p0 : St) (i0 : St) (x1 : Int32) : Option (Int32) :=
  (f_L_countTo p0 i0 x1 0).bind fun v_1 =>
  if v_1 = 0 then
    some 1
  else
    some 0
set_option maxHeartbeats 4000000 in
set_option maxRecDepth 100000 in
theorem k_L_areSetTo_0 {p0 : St} {i0 : St} {x1 : Int32} {r : Int32} (X : sr_X D (tI t v) b_L_areSetTo 2 R_L w_L_areSetTo p s m args meth c A (some .boolean)) (Z : sr_Z D A s.heap (wI h t o v p0 i0) H locs) (hl : lv_has ls 2 [(0, .ref (o 2)), (1, .int x1)]) (hf : f_L_areSetTo p0 i0 x1 = some r) : W p l e (sr_rm 1 24) s m args below meth c H locs 0 0 (sr_Qi D (tI t v) below args s A (wI h t o v p0 i0) r) (F0 m 0 ls []) := by
  have hx := X.1
  have hb := X.2.1
  have hK := X.2.2.2.2.2.2.1
  unfold f_L_areSetTo at hf
  refine lv_aload_n hx hb d_L_areSetTo_0 rfl (lv_at hl 0 rfl) ?_
  refine lv_iload_n hx hb d_L_areSetTo_1 rfl (lv_at hl 1 rfl) ?_
  refine lv_iconst (v := 0) hx hb d_L_areSetTo_2 (by decide) ?_
  obtain ⟨v_1, e_2, hf⟩ := sr_b hf
  refine sr_cVi (As := [.int x1, .int 0]) (rest := []) X Z sr_cut_self hK (c_L_countTo e_2) (cw_L_28 X.2.2.2.2.2.1 (by decide)) 17 rfl rfl rfl hl rfl (Nat.le_of_ble_eq_true rfl) d_L_areSetTo_3 (fun H locs Z => ?_)
  refine lv_if_ne (tgt := 13) hx hb d_L_areSetTo_6 rfl (fun q_3 => ?_) (fun q_3 => ?_)
  · have hf := sr_if q_3 hf
    refine lv_iconst (v := 0) hx hb d_L_areSetTo_13 (by decide) ?_
    cases hf
    exact sr_retz X Z (by decide) d_L_areSetTo_14
  · have hf := sr_it q_3 hf
    refine lv_iconst (v := 1) hx hb d_L_areSetTo_9 (by decide) ?_
    refine lv_goto (tgt := 14) hx hb d_L_areSetTo_10 rfl ?_
    cases hf
    exact sr_retz X Z (by decide) d_L_areSetTo_14
end
set_option maxHeartbeats 4000000 in
set_option maxRecDepth 100000 in
theorem c_L_areSetTo {l : Launch} {D : va_G} {h : Nat → Nat} {t : Nat → ClassId} {o : Nat → Nat} {v : Nat → ClassId} {sz : Nat} {p0 : St} {i0 : St} {x1 : Int32} {r : Int32} (hf : f_L_areSetTo p0 i0 x1 = some r) : sr_Ci l y_L_areSetTo w_L_areSetTo (sr_rm 1 24) D (tI t v) (wI h t o v p0 i0) (wI h t o v p0 i0) sz [.ref (o 2), .int x1] r := by
  refine Met.ofW (cc := b_L_areSetTo) (maxL := 2) (ret := (some .boolean)) (by decide) rfl ?_
  intro p e s m args below meth c s₁ B hml hv
  obtain ⟨rfl, hsz, hP, hK, hD0⟩ := hv
  subst hsz
  have X : sr_X D (tI t v) b_L_areSetTo 2 R_L w_L_areSetTo p s m _ meth c (va_A (wI h t o v p0 i0) s.heap.size) (some .boolean) := ⟨B.exec, B.bytes, hml, findClass_of_methodNamed B.named, B.notSynchronized, atoms_spec (ws := w_L_areSetTo) B.pre, hK, fun q h => Or.inr h, B.returns⟩
  have Z : sr_Z D (va_A (wI h t o v p0 i0) s.heap.size) s.heap (wI h t o v p0 i0) s.heap [] := ⟨hP, hD0.self, va_S.rf⟩
  have hl := lv_entry ([.ref (o 2), .int x1] : List Value) (n := 2) (Nat.le_of_ble_eq_true rfl)
  rw [lg_entry_eq]
  exact k_L_areSetTo_0 X Z hl hf
/-! I_canStep -/
theorem d_I_canStep_0 : decode b_I_canStep 0 = .ok (.aload_n 0, 1) := by decide +kernel
theorem d_I_canStep_1 : decode b_I_canStep 1 = .ok (.getfield 9, 3) := by decide +kernel
theorem d_I_canStep_4 : decode b_I_canStep 4 = .ok (.iload_n 1, 1) := by decide +kernel
theorem d_I_canStep_5 : decode b_I_canStep 5 = .ok (.iaload, 1) := by decide +kernel
theorem d_I_canStep_6 : decode b_I_canStep 6 = .ok (.tableswitch 68 1 7 #[42, 68, 68, 51, 68, 53, 53], 42) := by decide +kernel
theorem d_I_canStep_48 : decode b_I_canStep 48 = .ok (.aload_n 0, 1) := by decide +kernel
theorem d_I_canStep_49 : decode b_I_canStep 49 = .ok (.getfield 57, 3) := by decide +kernel
theorem d_I_canStep_52 : decode b_I_canStep 52 = .ok (.iload_n 1, 1) := by decide +kernel
theorem d_I_canStep_53 : decode b_I_canStep 53 = .ok (.invokevirtual 87, 3) := by decide +kernel
theorem d_I_canStep_56 : decode b_I_canStep 56 = .ok (.ireturn, 1) := by decide +kernel
theorem d_I_canStep_57 : decode b_I_canStep 57 = .ok (.iconst 1, 1) := by decide +kernel
theorem d_I_canStep_58 : decode b_I_canStep 58 = .ok (.ireturn, 1) := by decide +kernel
theorem d_I_canStep_59 : decode b_I_canStep 59 = .ok (.aload_n 0, 1) := by decide +kernel
theorem d_I_canStep_60 : decode b_I_canStep 60 = .ok (.getfield 21, 3) := by decide +kernel
theorem d_I_canStep_63 : decode b_I_canStep 63 = .ok (.iload_n 1, 1) := by decide +kernel
theorem d_I_canStep_64 : decode b_I_canStep 64 = .ok (.baload, 1) := by decide +kernel
theorem d_I_canStep_65 : decode b_I_canStep 65 = .ok (.ifCond .ne 7, 3) := by decide +kernel
theorem d_I_canStep_68 : decode b_I_canStep 68 = .ok (.iconst 1, 1) := by decide +kernel
theorem d_I_canStep_69 : decode b_I_canStep 69 = .ok (.goto 4, 3) := by decide +kernel
theorem d_I_canStep_72 : decode b_I_canStep 72 = .ok (.iconst 0, 1) := by decide +kernel
theorem d_I_canStep_73 : decode b_I_canStep 73 = .ok (.ireturn, 1) := by decide +kernel
theorem d_I_canStep_74 : decode b_I_canStep 74 = .ok (.iconst 0, 1) := by decide +kernel
theorem d_I_canStep_75 : decode b_I_canStep 75 = .ok (.ireturn, 1) := by decide +kernel
section
variable {p : Program} {l : Launch} {e : Env} {s : State} {m : MethodId} {args : Array Value} {below : List Frame} {meth : Method} {c : Code} {H : Heap} {locs : List Loc} {ls : Array Slot} {D : va_G} {A : Nat → Prop} {h o : Nat → Nat} {t v : Nat → ClassId}
def f_I_canStep_59 (p0 : St) (i0 : St) (x1 : Int32) : Option (Int32) :=
  (sr_ald 24 (i0 7) x1).bind fun v_14 =>
  if v_14 = 0 then
    some 1
  else
    some 0
set_option maxHeartbeats 4000000 in
set_option maxRecDepth 100000 in
theorem k_I_canStep_59 {p0 : St} {i0 : St} {x1 : Int32} {r : Int32} (X : sr_X D (tI t v) b_I_canStep 2 R_I w_I_canStep p s m args meth c A (some .boolean)) (Z : sr_Z D A s.heap (wI h t o v p0 i0) H locs) (hl : lv_has ls 2 [(0, .ref (o 0)), (1, .int x1)]) (hf : f_I_canStep_59 p0 i0 x1 = some r) : W p l e (sr_rm 2 45) s m args below meth c H locs 0 0 (sr_Qi D (tI t v) below args s A (wI h t o v p0 i0) r) (F0 m 59 ls []) := by
  have hx := X.1
  have hb := X.2.1
  have hK := X.2.2.2.2.2.2.1
  unfold f_I_canStep_59 at hf
  refine lv_aload_n hx hb d_I_canStep_59 rfl (lv_at hl 0 rfl) ?_
  refine g_I_21_I X Z d_I_canStep_60 ?_
  refine lv_iload_n hx hb d_I_canStep_63 rfl (lv_at hl 1 rfl) ?_
  obtain ⟨v_14, e_15, hf⟩ := sr_b hf
  refine sr_zald hx hb hK Z 23 17 rfl rfl e_15 d_I_canStep_64 ?_
  refine lv_if_ne (tgt := 72) hx hb d_I_canStep_65 rfl (fun q_16 => ?_) (fun q_16 => ?_)
  · have hf := sr_if q_16 hf
    refine lv_iconst (v := 0) hx hb d_I_canStep_72 (by decide) ?_
    cases hf
    exact sr_retz X Z (by decide) d_I_canStep_73
  · have hf := sr_it q_16 hf
    refine lv_iconst (v := 1) hx hb d_I_canStep_68 (by decide) ?_
    refine lv_goto (tgt := 73) hx hb d_I_canStep_69 rfl ?_
    cases hf
    exact sr_retz X Z (by decide) d_I_canStep_73
def f_I_canStep (p0 : St) (i0 : St) (x1 : Int32) : Option (Int32) :=
  (sr_ald 24 (i0 4) x1).bind fun v_1 =>
  (some v_1).bind fun w_3 =>
  if w_3 = 1 then
    (f_L_areSetTo p0 i0 x1).bind fun v_6 =>
    (sr_z v_6).bind fun _ =>
    some v_6
  else
  if w_3 = 2 then
    some 0
  else
  if w_3 = 3 then
    some 0
  else
  if w_3 = 4 then
    some 1
  else
  if w_3 = 5 then
    some 0
  else
  if w_3 = 6 then
    f_I_canStep_59 p0 i0 x1
  else
  if w_3 = 7 then
    f_I_canStep_59 p0 i0 x1
  else
  some 0
set_option maxHeartbeats 4000000 in
set_option maxRecDepth 100000 in
theorem k_I_canStep_0 {p0 : St} {i0 : St} {x1 : Int32} {r : Int32} (X : sr_X D (tI t v) b_I_canStep 2 R_I w_I_canStep p s m args meth c A (some .boolean)) (Z : sr_Z D A s.heap (wI h t o v p0 i0) H locs) (hl : lv_has ls 2 [(0, .ref (o 0)), (1, .int x1)]) (hf : f_I_canStep p0 i0 x1 = some r) : W p l e (sr_rm 2 45) s m args below meth c H locs 0 0 (sr_Qi D (tI t v) below args s A (wI h t o v p0 i0) r) (F0 m 0 ls []) := by
  have hx := X.1
  have hb := X.2.1
  have hK := X.2.2.2.2.2.2.1
  unfold f_I_canStep at hf
  refine lv_aload_n hx hb d_I_canStep_0 rfl (lv_at hl 0 rfl) ?_
  refine g_I_9_I X Z d_I_canStep_1 ?_
  refine lv_iload_n hx hb d_I_canStep_4 rfl (lv_at hl 1 rfl) ?_
  obtain ⟨v_1, e_2, hf⟩ := sr_b hf
  refine sr_iald hx hb hK Z 20 14 rfl rfl e_2 d_I_canStep_5 ?_
  obtain ⟨w_3, e_4, hf⟩ := sr_b hf
  refine sr_nm e_4 ?_
  by_cases q_5 : w_3 = 1
  · have hf := sr_it q_5 hf
    rw [q_5]
    refine lv_tableIn (tgt := 48) hx hb d_I_canStep_6 (by decide) (by decide) rfl rfl ?_
    refine lv_aload_n hx hb d_I_canStep_48 rfl (lv_at hl 0 rfl) ?_
    refine g_I_57_I X Z d_I_canStep_49 ?_
    refine lv_iload_n hx hb d_I_canStep_52 rfl (lv_at hl 1 rfl) ?_
    obtain ⟨v_6, e_7, hf⟩ := sr_b hf
    refine sr_cVi (As := [.int x1]) (rest := []) X Z sr_cut_self hK (c_L_areSetTo e_7) (cw_I_87 X.2.2.2.2.2.1 (by decide)) 17 rfl rfl rfl hl rfl (Nat.le_of_ble_eq_true rfl) d_I_canStep_53 (fun H locs Z => ?_)
    obtain ⟨_, e_8, hf⟩ := sr_b hf
    cases hf
    exact sr_retz X Z (sr_z_i e_8) d_I_canStep_56
  have hf := sr_if q_5 hf
  by_cases q_9 : w_3 = 2
  · have hf := sr_it q_9 hf
    rw [q_9]
    refine lv_tableIn (tgt := 74) hx hb d_I_canStep_6 (by decide) (by decide) rfl rfl ?_
    refine lv_iconst (v := 0) hx hb d_I_canStep_74 (by decide) ?_
    cases hf
    exact sr_retz X Z (by decide) d_I_canStep_75
  have hf := sr_if q_9 hf
  by_cases q_10 : w_3 = 3
  · have hf := sr_it q_10 hf
    rw [q_10]
    refine lv_tableIn (tgt := 74) hx hb d_I_canStep_6 (by decide) (by decide) rfl rfl ?_
    refine lv_iconst (v := 0) hx hb d_I_canStep_74 (by decide) ?_
    cases hf
    exact sr_retz X Z (by decide) d_I_canStep_75
  have hf := sr_if q_10 hf
  by_cases q_11 : w_3 = 4
  · have hf := sr_it q_11 hf
    rw [q_11]
    refine lv_tableIn (tgt := 57) hx hb d_I_canStep_6 (by decide) (by decide) rfl rfl ?_
    refine lv_iconst (v := 1) hx hb d_I_canStep_57 (by decide) ?_
    cases hf
    exact sr_retz X Z (by decide) d_I_canStep_58
  have hf := sr_if q_11 hf
  by_cases q_12 : w_3 = 5
  · have hf := sr_it q_12 hf
    rw [q_12]
    refine lv_tableIn (tgt := 74) hx hb d_I_canStep_6 (by decide) (by decide) rfl rfl ?_
    refine lv_iconst (v := 0) hx hb d_I_canStep_74 (by decide) ?_
    cases hf
    exact sr_retz X Z (by decide) d_I_canStep_75
  have hf := sr_if q_12 hf
  by_cases q_13 : w_3 = 6
  · have hf := sr_it q_13 hf
    rw [q_13]
    refine lv_tableIn (tgt := 59) hx hb d_I_canStep_6 (by decide) (by decide) rfl rfl ?_
    exact k_I_canStep_59 X Z (lv_sub hl [0, 1] rfl) hf
  have hf := sr_if q_13 hf
  by_cases q_17 : w_3 = 7
  · have hf := sr_it q_17 hf
    rw [q_17]
    refine lv_tableIn (tgt := 59) hx hb d_I_canStep_6 (by decide) (by decide) rfl rfl ?_
    exact k_I_canStep_59 X Z (lv_sub hl [0, 1] rfl) hf
  have hf := sr_if q_17 hf
  have hout : w_3.toInt < 1 ∨ 7 < w_3.toInt := by
    have := sr_ne q_5 (k := 1) rfl
    have := sr_ne q_9 (k := 2) rfl
    have := sr_ne q_10 (k := 3) rfl
    have := sr_ne q_11 (k := 4) rfl
    have := sr_ne q_12 (k := 5) rfl
    have := sr_ne q_13 (k := 6) rfl
    have := sr_ne q_17 (k := 7) rfl
    omega
  refine lv_tableOut (tgt := 74) hx hb d_I_canStep_6 hout rfl ?_
  refine lv_iconst (v := 0) hx hb d_I_canStep_74 (by decide) ?_
  cases hf
  exact sr_retz X Z (by decide) d_I_canStep_75
end
set_option maxHeartbeats 4000000 in
set_option maxRecDepth 100000 in
theorem c_I_canStep {l : Launch} {D : va_G} {h : Nat → Nat} {t : Nat → ClassId} {o : Nat → Nat} {v : Nat → ClassId} {sz : Nat} {p0 : St} {i0 : St} {x1 : Int32} {r : Int32} (hf : f_I_canStep p0 i0 x1 = some r) : sr_Ci l y_I_canStep w_I_canStep (sr_rm 2 45) D (tI t v) (wI h t o v p0 i0) (wI h t o v p0 i0) sz [.ref (o 0), .int x1] r := by
  refine Met.ofW (cc := b_I_canStep) (maxL := 2) (ret := (some .boolean)) (by decide) rfl ?_
  intro p e s m args below meth c s₁ B hml hv
  obtain ⟨rfl, hsz, hP, hK, hD0⟩ := hv
  subst hsz
  have X : sr_X D (tI t v) b_I_canStep 2 R_I w_I_canStep p s m _ meth c (va_A (wI h t o v p0 i0) s.heap.size) (some .boolean) := ⟨B.exec, B.bytes, hml, findClass_of_methodNamed B.named, B.notSynchronized, atoms_spec (ws := w_I_canStep) B.pre, hK, fun q h => Or.inr h, B.returns⟩
  have Z : sr_Z D (va_A (wI h t o v p0 i0) s.heap.size) s.heap (wI h t o v p0 i0) s.heap [] := ⟨hP, hD0.self, va_S.rf⟩
  have hl := lv_entry ([.ref (o 0), .int x1] : List Value) (n := 2) (Nat.le_of_ble_eq_true rfl)
  rw [lg_entry_eq]
  exact k_I_canStep_0 X Z hl hf
/-! I_nextToStep -/
theorem d_I_nextToStep_0 : decode b_I_nextToStep 0 = .ok (.iconst 0, 1) := by decide +kernel
theorem d_I_nextToStep_1 : decode b_I_nextToStep 1 = .ok (.istore_n 1, 1) := by decide +kernel
theorem d_I_nextToStep_2 : decode b_I_nextToStep 2 = .ok (.iload_n 1, 1) := by decide +kernel
theorem d_I_nextToStep_3 : decode b_I_nextToStep 3 = .ok (.aload_n 0, 1) := by decide +kernel
theorem d_I_nextToStep_4 : decode b_I_nextToStep 4 = .ok (.getfield 25, 3) := by decide +kernel
theorem d_I_nextToStep_7 : decode b_I_nextToStep 7 = .ok (.getfield 80, 3) := by decide +kernel
theorem d_I_nextToStep_10 : decode b_I_nextToStep 10 = .ok (.if_icmp .ge 26, 3) := by decide +kernel
theorem d_I_nextToStep_13 : decode b_I_nextToStep 13 = .ok (.aload_n 0, 1) := by decide +kernel
theorem d_I_nextToStep_14 : decode b_I_nextToStep 14 = .ok (.getfield 75, 3) := by decide +kernel
theorem d_I_nextToStep_17 : decode b_I_nextToStep 17 = .ok (.ifCond .ne 19, 3) := by decide +kernel
theorem d_I_nextToStep_20 : decode b_I_nextToStep 20 = .ok (.aload_n 0, 1) := by decide +kernel
theorem d_I_nextToStep_21 : decode b_I_nextToStep 21 = .ok (.iload_n 1, 1) := by decide +kernel
theorem d_I_nextToStep_22 : decode b_I_nextToStep 22 = .ok (.invokevirtual 83, 3) := by decide +kernel
theorem d_I_nextToStep_25 : decode b_I_nextToStep 25 = .ok (.ifCond .eq 5, 3) := by decide +kernel
theorem d_I_nextToStep_28 : decode b_I_nextToStep 28 = .ok (.iload_n 1, 1) := by decide +kernel
theorem d_I_nextToStep_29 : decode b_I_nextToStep 29 = .ok (.ireturn, 1) := by decide +kernel
theorem d_I_nextToStep_30 : decode b_I_nextToStep 30 = .ok (.iinc 1 1, 3) := by decide +kernel
theorem d_I_nextToStep_33 : decode b_I_nextToStep 33 = .ok (.goto (-31), 3) := by decide +kernel
theorem d_I_nextToStep_36 : decode b_I_nextToStep 36 = .ok (.iconst (-1), 1) := by decide +kernel
theorem d_I_nextToStep_37 : decode b_I_nextToStep 37 = .ok (.ireturn, 1) := by decide +kernel
section
variable {p : Program} {l : Launch} {e : Env} {s : State} {m : MethodId} {args : Array Value} {below : List Frame} {meth : Method} {c : Code} {H : Heap} {locs : List Loc} {ls : Array Slot} {D : va_G} {A : Nat → Prop} {h o : Nat → Nat} {t v : Nat → ClassId}
def f_I_nextToStep_2 (k2 : Int32 → Option (Int32)) (p0 : St) (i0 : St) (x1 : Int32) : Option (Int32) :=
  if (p0 10 0) ≤ x1 then
    some (-1)
  else
    if (i0 3 0) = 0 then
      (f_I_canStep p0 i0 x1).bind fun v_3 =>
      if v_3 = 0 then
        k2 (x1 + 1)
      else
        some x1
    else
      some (-1)
set_option maxHeartbeats 4000000 in
set_option maxRecDepth 100000 in
theorem k_I_nextToStep_2 {k2 : Int32 → Option (Int32)} {p0 : St} {i0 : St} {x1 : Int32} {r : Int32} (X : sr_X D (tI t v) b_I_nextToStep 2 R_I w_I_nextToStep p s m args meth c A (some .int)) (hk2 : ∀ (x1 : Int32) (H : Heap) (locs : List Loc) (ls : Array Slot), sr_Z D A s.heap (wI h t o v p0 i0) H locs → lv_has ls 2 [(0, .ref (o 0)), (1, .int x1)] → k2 x1 = some r → W p l e (sr_rm 3 66) s m args below meth c H locs 0 0 (sr_Qi D (tI t v) below args s A (wI h t o v p0 i0) r) (F0 m 2 ls [])) (Z : sr_Z D A s.heap (wI h t o v p0 i0) H locs) (hl : lv_has ls 2 [(0, .ref (o 0)), (1, .int x1)]) (hf : f_I_nextToStep_2 k2 p0 i0 x1 = some r) : W p l e (sr_rm 3 66) s m args below meth c H locs 0 0 (sr_Qi D (tI t v) below args s A (wI h t o v p0 i0) r) (F0 m 2 ls []) := by
  have hx := X.1
  have hb := X.2.1
  have hK := X.2.2.2.2.2.2.1
  unfold f_I_nextToStep_2 at hf
  refine lv_iload_n hx hb d_I_nextToStep_2 rfl (lv_at hl 1 rfl) ?_
  refine lv_aload_n hx hb d_I_nextToStep_3 rfl (lv_at hl 0 rfl) ?_
  refine g_I_25_I X Z d_I_nextToStep_4 ?_
  refine g_I_80_I X Z d_I_nextToStep_7 ?_
  refine lv_icmp_ge (tgt := 36) hx hb d_I_nextToStep_10 rfl (fun q_1 => ?_) (fun q_1 => ?_)
  · have hf := sr_it q_1 hf
    refine lv_iconst (v := -1) hx hb d_I_nextToStep_36 (by decide) ?_
    cases hf
    exact sr_reti X Z d_I_nextToStep_37
  · have hf := sr_if q_1 hf
    refine lv_aload_n hx hb d_I_nextToStep_13 rfl (lv_at hl 0 rfl) ?_
    refine g_I_75_I X Z d_I_nextToStep_14 ?_
    refine lv_if_ne (tgt := 36) hx hb d_I_nextToStep_17 rfl (fun q_2 => ?_) (fun q_2 => ?_)
    · have hf := sr_if q_2 hf
      refine lv_iconst (v := -1) hx hb d_I_nextToStep_36 (by decide) ?_
      cases hf
      exact sr_reti X Z d_I_nextToStep_37
    · have hf := sr_it q_2 hf
      refine lv_aload_n hx hb d_I_nextToStep_20 rfl (lv_at hl 0 rfl) ?_
      refine lv_iload_n hx hb d_I_nextToStep_21 rfl (lv_at hl 1 rfl) ?_
      obtain ⟨v_3, e_4, hf⟩ := sr_b hf
      refine sr_cVi (As := [.int x1]) (rest := []) X Z sr_cut_self hK (c_I_canStep e_4) (cw_I_83 X.2.2.2.2.2.1 (by decide)) 15 rfl rfl rfl hl rfl (Nat.le_of_ble_eq_true rfl) d_I_nextToStep_22 (fun H locs Z => ?_)
      refine lv_if_eq (tgt := 30) hx hb d_I_nextToStep_25 rfl (fun q_5 => ?_) (fun q_5 => ?_)
      · have hf := sr_it q_5 hf
        refine lv_iinc (k := 1) (v := x1 + 1) (lv' := [(1, .int (x1 + 1)), (0, .ref (o 0))]) hx hb d_I_nextToStep_30 hl rfl rfl (by decide) rfl (fun ls hl => ?_)
        refine lv_goto (tgt := 2) hx hb d_I_nextToStep_33 rfl ?_
        exact hk2 (x1 + 1) _ _ _ Z (lv_sub hl [1, 0] rfl) hf
      · have hf := sr_if q_5 hf
        refine lv_iload_n hx hb d_I_nextToStep_28 rfl (lv_at hl 1 rfl) ?_
        cases hf
        exact sr_reti X Z d_I_nextToStep_29
def f_I_nextToStep_2_it (p0 : St) (i0 : St) : Nat → Int32 → Option (Int32)
  | 0 => fun _ => none
  | n + 1 => fun x1 => f_I_nextToStep_2 (f_I_nextToStep_2_it p0 i0 n) p0 i0 x1
set_option maxHeartbeats 4000000 in
set_option maxRecDepth 100000 in
theorem k_I_nextToStep_2_it {p0 : St} {i0 : St} {r : Int32} (X : sr_X D (tI t v) b_I_nextToStep 2 R_I w_I_nextToStep p s m args meth c A (some .int)) (n : Nat) : ∀ {x1 : Int32} {H : Heap} {locs : List Loc} {ls : Array Slot}, sr_Z D A s.heap (wI h t o v p0 i0) H locs → lv_has ls 2 [(0, .ref (o 0)), (1, .int x1)] → f_I_nextToStep_2_it p0 i0 n x1 = some r → W p l e (sr_rm 3 66) s m args below meth c H locs 0 0 (sr_Qi D (tI t v) below args s A (wI h t o v p0 i0) r) (F0 m 2 ls []) := by
  induction n with
  | zero => intro x1 H locs ls Z hl hf; exact absurd hf (by simp [f_I_nextToStep_2_it])
  | succ n ih =>
    intro x1 H locs ls Z hl hf
    exact k_I_nextToStep_2 X (fun x1 H locs ls Z hl hf => ih Z hl hf) Z hl hf
def f_I_nextToStep (p0 : St) (i0 : St) : Option (Int32) :=
  f_I_nextToStep_2_it p0 i0 60 0
set_option maxHeartbeats 4000000 in
set_option maxRecDepth 100000 in
theorem k_I_nextToStep_0 {p0 : St} {i0 : St} {r : Int32} (X : sr_X D (tI t v) b_I_nextToStep 2 R_I w_I_nextToStep p s m args meth c A (some .int)) (Z : sr_Z D A s.heap (wI h t o v p0 i0) H locs) (hl : lv_has ls 2 [(0, .ref (o 0))]) (hf : f_I_nextToStep p0 i0 = some r) : W p l e (sr_rm 3 66) s m args below meth c H locs 0 0 (sr_Qi D (tI t v) below args s A (wI h t o v p0 i0) r) (F0 m 0 ls []) := by
  have hx := X.1
  have hb := X.2.1
  have hK := X.2.2.2.2.2.2.1
  unfold f_I_nextToStep at hf
  refine lv_iconst (v := 0) hx hb d_I_nextToStep_0 (by decide) ?_
  refine lv_istore_n (lv' := [(1, .int 0), (0, .ref (o 0))]) hx hb d_I_nextToStep_1 rfl hl (by decide) rfl (fun ls hl => ?_)
  exact k_I_nextToStep_2_it X _ Z (lv_sub hl [1, 0] rfl) hf
end
set_option maxHeartbeats 4000000 in
set_option maxRecDepth 100000 in
theorem c_I_nextToStep {l : Launch} {D : va_G} {h : Nat → Nat} {t : Nat → ClassId} {o : Nat → Nat} {v : Nat → ClassId} {sz : Nat} {p0 : St} {i0 : St} {r : Int32} (hf : f_I_nextToStep p0 i0 = some r) : sr_Ci l y_I_nextToStep w_I_nextToStep (sr_rm 3 66) D (tI t v) (wI h t o v p0 i0) (wI h t o v p0 i0) sz [.ref (o 0)] r := by
  refine Met.ofW (cc := b_I_nextToStep) (maxL := 2) (ret := (some .int)) (by decide) rfl ?_
  intro p e s m args below meth c s₁ B hml hv
  obtain ⟨rfl, hsz, hP, hK, hD0⟩ := hv
  subst hsz
  have X : sr_X D (tI t v) b_I_nextToStep 2 R_I w_I_nextToStep p s m _ meth c (va_A (wI h t o v p0 i0) s.heap.size) (some .int) := ⟨B.exec, B.bytes, hml, findClass_of_methodNamed B.named, B.notSynchronized, atoms_spec (ws := w_I_nextToStep) B.pre, hK, fun q h => Or.inr h, B.returns⟩
  have Z : sr_Z D (va_A (wI h t o v p0 i0) s.heap.size) s.heap (wI h t o v p0 i0) s.heap [] := ⟨hP, hD0.self, va_S.rf⟩
  have hl := lv_entry ([.ref (o 0)] : List Value) (n := 2) (Nat.le_of_ble_eq_true rfl)
  rw [lg_entry_eq]
  exact k_I_nextToStep_0 X Z hl hf
/-! V_read -/
theorem d_V_read_0 : decode b_V_read 0 = .ok (.iload_n 2, 1) := by decide +kernel
theorem d_V_read_1 : decode b_V_read 1 = .ok (.ifCond .lt 15, 3) := by decide +kernel
theorem d_V_read_4 : decode b_V_read 4 = .ok (.iload_n 2, 1) := by decide +kernel
theorem d_V_read_5 : decode b_V_read 5 = .ok (.iconst 4, 1) := by decide +kernel
theorem d_V_read_6 : decode b_V_read 6 = .ok (.if_icmp .ge 10, 3) := by decide +kernel
theorem d_V_read_9 : decode b_V_read 9 = .ok (.aload_n 0, 1) := by decide +kernel
theorem d_V_read_10 : decode b_V_read 10 = .ok (.getfield 9, 3) := by decide +kernel
theorem d_V_read_13 : decode b_V_read 13 = .ok (.iload_n 2, 1) := by decide +kernel
theorem d_V_read_14 : decode b_V_read 14 = .ok (.iaload, 1) := by decide +kernel
theorem d_V_read_15 : decode b_V_read 15 = .ok (.ireturn, 1) := by decide +kernel
theorem d_V_read_16 : decode b_V_read 16 = .ok (.aload_n 0, 1) := by decide +kernel
theorem d_V_read_17 : decode b_V_read 17 = .ok (.getfield 18, 3) := by decide +kernel
theorem d_V_read_20 : decode b_V_read 20 = .ok (.getfield 22, 3) := by decide +kernel
theorem d_V_read_23 : decode b_V_read 23 = .ok (.iload_n 1, 1) := by decide +kernel
theorem d_V_read_24 : decode b_V_read 24 = .ok (.iaload, 1) := by decide +kernel
theorem d_V_read_25 : decode b_V_read 25 = .ok (.istore_n 3, 1) := by decide +kernel
theorem d_V_read_26 : decode b_V_read 26 = .ok (.iload_n 3, 1) := by decide +kernel
theorem d_V_read_27 : decode b_V_read 27 = .ok (.iconst (-1), 1) := by decide +kernel
theorem d_V_read_28 : decode b_V_read 28 = .ok (.if_icmp .ne 7, 3) := by decide +kernel
theorem d_V_read_31 : decode b_V_read 31 = .ok (.iconst 0, 1) := by decide +kernel
theorem d_V_read_32 : decode b_V_read 32 = .ok (.goto 9, 3) := by decide +kernel
theorem d_V_read_35 : decode b_V_read 35 = .ok (.aload_n 0, 1) := by decide +kernel
theorem d_V_read_36 : decode b_V_read 36 = .ok (.getfield 15, 3) := by decide +kernel
theorem d_V_read_39 : decode b_V_read 39 = .ok (.iload_n 3, 1) := by decide +kernel
theorem d_V_read_40 : decode b_V_read 40 = .ok (.iaload, 1) := by decide +kernel
theorem d_V_read_41 : decode b_V_read 41 = .ok (.ireturn, 1) := by decide +kernel
section
variable {p : Program} {l : Launch} {e : Env} {s : State} {m : MethodId} {args : Array Value} {below : List Frame} {meth : Method} {c : Code} {H : Heap} {locs : List Loc} {ls : Array Slot} {D : va_G} {A : Nat → Prop} {h o : Nat → Nat} {t v : Nat → ClassId}
def f_V_read_16 (p0 : St) (i0 : St) (x1 : Int32) : Option (Int32) :=
  (sr_ald 24 (p0 6) x1).bind fun v_2 =>
  if v_2 = (-1) then
    some 0
  else
    (sr_ald 24 (i0 12) v_2).bind fun v_5 =>
    some v_5
set_option maxHeartbeats 4000000 in
set_option maxRecDepth 100000 in
theorem k_V_read_16 {p0 : St} {i0 : St} {x1 : Int32} {r : Int32} (X : sr_X D (tI t v) b_V_read 4 R_V w_V_read p s m args meth c A (some .int)) (Z : sr_Z D A s.heap (wI h t o v p0 i0) H locs) (hl : lv_has ls 4 [(0, .ref (o 1)), (1, .int x1)]) (hf : f_V_read_16 p0 i0 x1 = some r) : W p l e (sr_rm 0 0) s m args below meth c H locs 0 0 (sr_Qi D (tI t v) below args s A (wI h t o v p0 i0) r) (F0 m 16 ls []) := by
  have hx := X.1
  have hb := X.2.1
  have hK := X.2.2.2.2.2.2.1
  unfold f_V_read_16 at hf
  refine lv_aload_n hx hb d_V_read_16 rfl (lv_at hl 0 rfl) ?_
  refine g_V_18_I X Z d_V_read_17 ?_
  refine g_V_22_I X Z d_V_read_20 ?_
  refine lv_iload_n hx hb d_V_read_23 rfl (lv_at hl 1 rfl) ?_
  obtain ⟨v_2, e_3, hf⟩ := sr_b hf
  refine sr_iald hx hb hK Z 7 6 rfl rfl e_3 d_V_read_24 ?_
  refine lv_istore_n (lv' := [(3, .int v_2), (0, .ref (o 1)), (1, .int x1)]) hx hb d_V_read_25 rfl hl (by decide) rfl (fun ls hl => ?_)
  refine lv_iload_n hx hb d_V_read_26 rfl (lv_at hl 0 rfl) ?_
  refine lv_iconst (v := -1) hx hb d_V_read_27 (by decide) ?_
  refine lv_icmp_ne (tgt := 35) hx hb d_V_read_28 rfl (fun q_4 => ?_) (fun q_4 => ?_)
  · have hf := sr_if q_4 hf
    refine lv_aload_n hx hb d_V_read_35 rfl (lv_at hl 1 rfl) ?_
    refine g_V_15_I X Z d_V_read_36 ?_
    refine lv_iload_n hx hb d_V_read_39 rfl (lv_at hl 0 rfl) ?_
    obtain ⟨v_5, e_6, hf⟩ := sr_b hf
    refine sr_iald hx hb hK Z 25 19 rfl rfl e_6 d_V_read_40 ?_
    cases hf
    exact sr_reti X Z d_V_read_41
  · have hf := sr_it q_4 hf
    refine lv_iconst (v := 0) hx hb d_V_read_31 (by decide) ?_
    refine lv_goto (tgt := 41) hx hb d_V_read_32 rfl ?_
    cases hf
    exact sr_reti X Z d_V_read_41
def f_V_read (p0 : St) (i0 : St) (x1 : Int32) (x2 : Int32) : Option (Int32) :=
  if x2 < 0 then
    f_V_read_16 p0 i0 x1
  else
    if 4 ≤ x2 then
      f_V_read_16 p0 i0 x1
    else
      (sr_ald 4 (i0 11) x2).bind fun v_8 =>
      some v_8
set_option maxHeartbeats 4000000 in
set_option maxRecDepth 100000 in
theorem k_V_read_0 {p0 : St} {i0 : St} {x1 : Int32} {x2 : Int32} {r : Int32} (X : sr_X D (tI t v) b_V_read 4 R_V w_V_read p s m args meth c A (some .int)) (Z : sr_Z D A s.heap (wI h t o v p0 i0) H locs) (hl : lv_has ls 4 [(0, .ref (o 1)), (1, .int x1), (2, .int x2)]) (hf : f_V_read p0 i0 x1 x2 = some r) : W p l e (sr_rm 0 0) s m args below meth c H locs 0 0 (sr_Qi D (tI t v) below args s A (wI h t o v p0 i0) r) (F0 m 0 ls []) := by
  have hx := X.1
  have hb := X.2.1
  have hK := X.2.2.2.2.2.2.1
  unfold f_V_read at hf
  refine lv_iload_n hx hb d_V_read_0 rfl (lv_at hl 2 rfl) ?_
  refine lv_if_lt (tgt := 16) hx hb d_V_read_1 rfl (fun q_1 => ?_) (fun q_1 => ?_)
  · have hf := sr_it q_1 hf
    exact k_V_read_16 X Z (lv_sub hl [0, 1] rfl) hf
  · have hf := sr_if q_1 hf
    refine lv_iload_n hx hb d_V_read_4 rfl (lv_at hl 2 rfl) ?_
    refine lv_iconst (v := 4) hx hb d_V_read_5 (by decide) ?_
    refine lv_icmp_ge (tgt := 16) hx hb d_V_read_6 rfl (fun q_7 => ?_) (fun q_7 => ?_)
    · have hf := sr_it q_7 hf
      exact k_V_read_16 X Z (lv_sub hl [0, 1] rfl) hf
    · have hf := sr_if q_7 hf
      refine lv_aload_n hx hb d_V_read_9 rfl (lv_at hl 0 rfl) ?_
      refine g_V_9_I X Z d_V_read_10 ?_
      refine lv_iload_n hx hb d_V_read_13 rfl (lv_at hl 2 rfl) ?_
      obtain ⟨v_8, e_9, hf⟩ := sr_b hf
      refine sr_iald hx hb hK Z 24 18 rfl rfl e_9 d_V_read_14 ?_
      cases hf
      exact sr_reti X Z d_V_read_15
end
set_option maxHeartbeats 4000000 in
set_option maxRecDepth 100000 in
theorem c_V_read {l : Launch} {D : va_G} {h : Nat → Nat} {t : Nat → ClassId} {o : Nat → Nat} {v : Nat → ClassId} {sz : Nat} {p0 : St} {i0 : St} {x1 : Int32} {x2 : Int32} {r : Int32} (hf : f_V_read p0 i0 x1 x2 = some r) : sr_Ci l y_V_read w_V_read (sr_rm 0 0) D (tI t v) (wI h t o v p0 i0) (wI h t o v p0 i0) sz [.ref (o 1), .int x1, .int x2] r := by
  refine Met.ofW (cc := b_V_read) (maxL := 4) (ret := (some .int)) (by decide) rfl ?_
  intro p e s m args below meth c s₁ B hml hv
  obtain ⟨rfl, hsz, hP, hK, hD0⟩ := hv
  subst hsz
  have X : sr_X D (tI t v) b_V_read 4 R_V w_V_read p s m _ meth c (va_A (wI h t o v p0 i0) s.heap.size) (some .int) := ⟨B.exec, B.bytes, hml, findClass_of_methodNamed B.named, B.notSynchronized, atoms_spec (ws := w_V_read) B.pre, hK, fun q h => Or.inr h, B.returns⟩
  have Z : sr_Z D (va_A (wI h t o v p0 i0) s.heap.size) s.heap (wI h t o v p0 i0) s.heap [] := ⟨hP, hD0.self, va_S.rf⟩
  have hl := lv_entry ([.ref (o 1), .int x1, .int x2] : List Value) (n := 4) (Nat.le_of_ble_eq_true rfl)
  rw [lg_entry_eq]
  exact k_V_read_0 X Z hl hf
/-! I_conditionHolds -/
theorem d_I_conditionHolds_0 : decode b_I_conditionHolds 0 = .ok (.aload_n 0, 1) := by decide +kernel
theorem d_I_conditionHolds_1 : decode b_I_conditionHolds 1 = .ok (.getfield 50, 3) := by decide +kernel
theorem d_I_conditionHolds_4 : decode b_I_conditionHolds 4 = .ok (.iload_n 1, 1) := by decide +kernel
theorem d_I_conditionHolds_5 : decode b_I_conditionHolds 5 = .ok (.aload_n 0, 1) := by decide +kernel
theorem d_I_conditionHolds_6 : decode b_I_conditionHolds 6 = .ok (.getfield 25, 3) := by decide +kernel
theorem d_I_conditionHolds_9 : decode b_I_conditionHolds 9 = .ok (.getfield 141, 3) := by decide +kernel
theorem d_I_conditionHolds_12 : decode b_I_conditionHolds 12 = .ok (.iload_n 1, 1) := by decide +kernel
theorem d_I_conditionHolds_13 : decode b_I_conditionHolds 13 = .ok (.iaload, 1) := by decide +kernel
theorem d_I_conditionHolds_14 : decode b_I_conditionHolds 14 = .ok (.invokevirtual 182, 3) := by decide +kernel
theorem d_I_conditionHolds_17 : decode b_I_conditionHolds 17 = .ok (.aload_n 0, 1) := by decide +kernel
theorem d_I_conditionHolds_18 : decode b_I_conditionHolds 18 = .ok (.getfield 25, 3) := by decide +kernel
theorem d_I_conditionHolds_21 : decode b_I_conditionHolds 21 = .ok (.getfield 116, 3) := by decide +kernel
theorem d_I_conditionHolds_24 : decode b_I_conditionHolds 24 = .ok (.iload_n 1, 1) := by decide +kernel
theorem d_I_conditionHolds_25 : decode b_I_conditionHolds 25 = .ok (.iaload, 1) := by decide +kernel
theorem d_I_conditionHolds_26 : decode b_I_conditionHolds 26 = .ok (.if_icmp .ge 7, 3) := by decide +kernel
theorem d_I_conditionHolds_29 : decode b_I_conditionHolds 29 = .ok (.iconst 1, 1) := by decide +kernel
theorem d_I_conditionHolds_30 : decode b_I_conditionHolds 30 = .ok (.goto 4, 3) := by decide +kernel
theorem d_I_conditionHolds_33 : decode b_I_conditionHolds 33 = .ok (.iconst 0, 1) := by decide +kernel
theorem d_I_conditionHolds_34 : decode b_I_conditionHolds 34 = .ok (.ireturn, 1) := by decide +kernel
section
variable {p : Program} {l : Launch} {e : Env} {s : State} {m : MethodId} {args : Array Value} {below : List Frame} {meth : Method} {c : Code} {H : Heap} {locs : List Loc} {ls : Array Slot} {D : va_G} {A : Nat → Prop} {h o : Nat → Nat} {t v : Nat → ClassId}
def f_I_conditionHolds (p0 : St) (i0 : St) (x1 : Int32) : Option (Int32) :=
  (sr_ald 24 (p0 3) x1).bind fun v_1 =>
  (f_V_read p0 i0 x1 v_1).bind fun v_3 =>
  (sr_ald 24 (p0 4) x1).bind fun v_5 =>
  if v_5 ≤ v_3 then
    some 0
  else
    some 1
set_option maxHeartbeats 4000000 in
set_option maxRecDepth 100000 in
theorem k_I_conditionHolds_0 {p0 : St} {i0 : St} {x1 : Int32} {r : Int32} (X : sr_X D (tI t v) b_I_conditionHolds 2 R_I w_I_conditionHolds p s m args meth c A (some .boolean)) (Z : sr_Z D A s.heap (wI h t o v p0 i0) H locs) (hl : lv_has ls 2 [(0, .ref (o 0)), (1, .int x1)]) (hf : f_I_conditionHolds p0 i0 x1 = some r) : W p l e (sr_rm 1 23) s m args below meth c H locs 0 0 (sr_Qi D (tI t v) below args s A (wI h t o v p0 i0) r) (F0 m 0 ls []) := by
  have hx := X.1
  have hb := X.2.1
  have hK := X.2.2.2.2.2.2.1
  unfold f_I_conditionHolds at hf
  refine lv_aload_n hx hb d_I_conditionHolds_0 rfl (lv_at hl 0 rfl) ?_
  refine g_I_50_I X Z d_I_conditionHolds_1 ?_
  refine lv_iload_n hx hb d_I_conditionHolds_4 rfl (lv_at hl 1 rfl) ?_
  refine lv_aload_n hx hb d_I_conditionHolds_5 rfl (lv_at hl 0 rfl) ?_
  refine g_I_25_I X Z d_I_conditionHolds_6 ?_
  refine g_I_141_I X Z d_I_conditionHolds_9 ?_
  refine lv_iload_n hx hb d_I_conditionHolds_12 rfl (lv_at hl 1 rfl) ?_
  obtain ⟨v_1, e_2, hf⟩ := sr_b hf
  refine sr_iald hx hb hK Z 4 3 rfl rfl e_2 d_I_conditionHolds_13 ?_
  obtain ⟨v_3, e_4, hf⟩ := sr_b hf
  refine sr_cVi (As := [.int x1, .int v_1]) (rest := []) X Z sr_cut_self hK (c_V_read e_4) (cw_I_182 X.2.2.2.2.2.1 (by decide)) 16 rfl rfl rfl hl rfl (Nat.le_of_ble_eq_true rfl) d_I_conditionHolds_14 (fun H locs Z => ?_)
  refine lv_aload_n hx hb d_I_conditionHolds_17 rfl (lv_at hl 0 rfl) ?_
  refine g_I_25_I X Z d_I_conditionHolds_18 ?_
  refine g_I_116_I X Z d_I_conditionHolds_21 ?_
  refine lv_iload_n hx hb d_I_conditionHolds_24 rfl (lv_at hl 1 rfl) ?_
  obtain ⟨v_5, e_6, hf⟩ := sr_b hf
  refine sr_iald hx hb hK Z 5 4 rfl rfl e_6 d_I_conditionHolds_25 ?_
  refine lv_icmp_ge (tgt := 33) hx hb d_I_conditionHolds_26 rfl (fun q_7 => ?_) (fun q_7 => ?_)
  · have hf := sr_it q_7 hf
    refine lv_iconst (v := 0) hx hb d_I_conditionHolds_33 (by decide) ?_
    cases hf
    exact sr_retz X Z (by decide) d_I_conditionHolds_34
  · have hf := sr_if q_7 hf
    refine lv_iconst (v := 1) hx hb d_I_conditionHolds_29 (by decide) ?_
    refine lv_goto (tgt := 34) hx hb d_I_conditionHolds_30 rfl ?_
    cases hf
    exact sr_retz X Z (by decide) d_I_conditionHolds_34
end
set_option maxHeartbeats 4000000 in
set_option maxRecDepth 100000 in
theorem c_I_conditionHolds {l : Launch} {D : va_G} {h : Nat → Nat} {t : Nat → ClassId} {o : Nat → Nat} {v : Nat → ClassId} {sz : Nat} {p0 : St} {i0 : St} {x1 : Int32} {r : Int32} (hf : f_I_conditionHolds p0 i0 x1 = some r) : sr_Ci l y_I_conditionHolds w_I_conditionHolds (sr_rm 1 23) D (tI t v) (wI h t o v p0 i0) (wI h t o v p0 i0) sz [.ref (o 0), .int x1] r := by
  refine Met.ofW (cc := b_I_conditionHolds) (maxL := 2) (ret := (some .boolean)) (by decide) rfl ?_
  intro p e s m args below meth c s₁ B hml hv
  obtain ⟨rfl, hsz, hP, hK, hD0⟩ := hv
  subst hsz
  have X : sr_X D (tI t v) b_I_conditionHolds 2 R_I w_I_conditionHolds p s m _ meth c (va_A (wI h t o v p0 i0) s.heap.size) (some .boolean) := ⟨B.exec, B.bytes, hml, findClass_of_methodNamed B.named, B.notSynchronized, atoms_spec (ws := w_I_conditionHolds) B.pre, hK, fun q h => Or.inr h, B.returns⟩
  have Z : sr_Z D (va_A (wI h t o v p0 i0) s.heap.size) s.heap (wI h t o v p0 i0) s.heap [] := ⟨hP, hD0.self, va_S.rf⟩
  have hl := lv_entry ([.ref (o 0), .int x1] : List Value) (n := 2) (Nat.le_of_ble_eq_true rfl)
  rw [lg_entry_eq]
  exact k_I_conditionHolds_0 X Z hl hf
/-! L_unsetFrom -/
theorem d_L_unsetFrom_0 : decode b_L_unsetFrom 0 = .ok (.iconst 0, 1) := by decide +kernel
theorem d_L_unsetFrom_1 : decode b_L_unsetFrom 1 = .ok (.istore_n 2, 1) := by decide +kernel
theorem d_L_unsetFrom_2 : decode b_L_unsetFrom 2 = .ok (.iload_n 2, 1) := by decide +kernel
theorem d_L_unsetFrom_3 : decode b_L_unsetFrom 3 = .ok (.aload_n 0, 1) := by decide +kernel
theorem d_L_unsetFrom_4 : decode b_L_unsetFrom 4 = .ok (.getfield 15, 3) := by decide +kernel
theorem d_L_unsetFrom_7 : decode b_L_unsetFrom 7 = .ok (.getfield 19, 3) := by decide +kernel
theorem d_L_unsetFrom_10 : decode b_L_unsetFrom 10 = .ok (.if_icmp .ge 32, 3) := by decide +kernel
theorem d_L_unsetFrom_13 : decode b_L_unsetFrom 13 = .ok (.aload_n 0, 1) := by decide +kernel
theorem d_L_unsetFrom_14 : decode b_L_unsetFrom 14 = .ok (.getfield 15, 3) := by decide +kernel
theorem d_L_unsetFrom_17 : decode b_L_unsetFrom 17 = .ok (.getfield 39, 3) := by decide +kernel
theorem d_L_unsetFrom_20 : decode b_L_unsetFrom 20 = .ok (.iload_n 2, 1) := by decide +kernel
theorem d_L_unsetFrom_21 : decode b_L_unsetFrom 21 = .ok (.iaload, 1) := by decide +kernel
theorem d_L_unsetFrom_22 : decode b_L_unsetFrom 22 = .ok (.iload_n 1, 1) := by decide +kernel
theorem d_L_unsetFrom_23 : decode b_L_unsetFrom 23 = .ok (.invokestatic 53, 3) := by decide +kernel
theorem d_L_unsetFrom_26 : decode b_L_unsetFrom 26 = .ok (.ifCond .eq 10, 3) := by decide +kernel
theorem d_L_unsetFrom_29 : decode b_L_unsetFrom 29 = .ok (.aload_n 0, 1) := by decide +kernel
theorem d_L_unsetFrom_30 : decode b_L_unsetFrom 30 = .ok (.getfield 9, 3) := by decide +kernel
theorem d_L_unsetFrom_33 : decode b_L_unsetFrom 33 = .ok (.iload_n 2, 1) := by decide +kernel
theorem d_L_unsetFrom_34 : decode b_L_unsetFrom 34 = .ok (.iconst 0, 1) := by decide +kernel
theorem d_L_unsetFrom_35 : decode b_L_unsetFrom 35 = .ok (.iastore, 1) := by decide +kernel
theorem d_L_unsetFrom_36 : decode b_L_unsetFrom 36 = .ok (.iinc 2 1, 3) := by decide +kernel
theorem d_L_unsetFrom_39 : decode b_L_unsetFrom 39 = .ok (.goto (-37), 3) := by decide +kernel
theorem d_L_unsetFrom_42 : decode b_L_unsetFrom 42 = .ok (.return_, 1) := by decide +kernel
section
variable {p : Program} {l : Launch} {e : Env} {s : State} {m : MethodId} {args : Array Value} {below : List Frame} {meth : Method} {c : Code} {H : Heap} {locs : List Loc} {ls : Array Slot} {D : va_G} {A : Nat → Prop} {h o : Nat → Nat} {t v : Nat → ClassId}
def f_L_unsetFrom_36 (k2 : Int32 → Int32 → St → Option (St)) (p0 : St) (x1 : Int32) (x2 : Int32) (i0 : St) : Option (St) :=
  k2 x1 (x2 + 1) i0
set_option maxHeartbeats 4000000 in
set_option maxRecDepth 100000 in
theorem k_L_unsetFrom_36 {k2 : Int32 → Int32 → St → Option (St)} {p0 : St} {x1 : Int32} {x2 : Int32} {i0 : St} {i' : St} (X : sr_X D (tI t v) b_L_unsetFrom 3 R_L w_L_unsetFrom p s m args meth c A none) (hk2 : ∀ (x1 : Int32) (x2 : Int32) (i0 : St) (H : Heap) (locs : List Loc) (ls : Array Slot), sr_Z D A s.heap (wI h t o v p0 i0) H locs → lv_has ls 3 [(0, .ref (o 2)), (1, .int x1), (2, .int x2)] → k2 x1 x2 i0 = some i' → W p l e (sr_rm 1 21) s m args below meth c H locs 0 0 (sr_Qv D (tI t v) below args s A (wI h t o v p0 i')) (F0 m 2 ls [])) (Z : sr_Z D A s.heap (wI h t o v p0 i0) H locs) (hl : lv_has ls 3 [(0, .ref (o 2)), (1, .int x1), (2, .int x2)]) (hf : f_L_unsetFrom_36 k2 p0 x1 x2 i0 = some i') : W p l e (sr_rm 1 21) s m args below meth c H locs 0 0 (sr_Qv D (tI t v) below args s A (wI h t o v p0 i')) (F0 m 36 ls []) := by
  have hx := X.1
  have hb := X.2.1
  have hK := X.2.2.2.2.2.2.1
  unfold f_L_unsetFrom_36 at hf
  refine lv_iinc (k := 2) (v := x2 + 1) (lv' := [(2, .int (x2 + 1)), (0, .ref (o 2)), (1, .int x1)]) hx hb d_L_unsetFrom_36 hl rfl rfl (by decide) rfl (fun ls hl => ?_)
  refine lv_goto (tgt := 2) hx hb d_L_unsetFrom_39 rfl ?_
  exact hk2 x1 (x2 + 1) i0 _ _ _ Z (lv_sub hl [1, 2, 0] rfl) hf
def f_L_unsetFrom_2 (k2 : Int32 → Int32 → St → Option (St)) (p0 : St) (x1 : Int32) (x2 : Int32) (i0 : St) : Option (St) :=
  if (p0 15 0) ≤ x2 then
    some i0
  else
    (sr_ald 16 (p0 11) x2).bind fun v_2 =>
    (f_P_isIn v_2 x1).bind fun v_4 =>
    if v_4 = 0 then
      f_L_unsetFrom_36 k2 p0 x1 x2 i0
    else
      (sr_ast 16 i0 13 x2 0).bind fun i_7 =>
      f_L_unsetFrom_36 k2 p0 x1 x2 i_7
set_option maxHeartbeats 4000000 in
set_option maxRecDepth 100000 in
theorem k_L_unsetFrom_2 {k2 : Int32 → Int32 → St → Option (St)} {p0 : St} {x1 : Int32} {x2 : Int32} {i0 : St} {i' : St} (X : sr_X D (tI t v) b_L_unsetFrom 3 R_L w_L_unsetFrom p s m args meth c A none) (hk2 : ∀ (x1 : Int32) (x2 : Int32) (i0 : St) (H : Heap) (locs : List Loc) (ls : Array Slot), sr_Z D A s.heap (wI h t o v p0 i0) H locs → lv_has ls 3 [(0, .ref (o 2)), (1, .int x1), (2, .int x2)] → k2 x1 x2 i0 = some i' → W p l e (sr_rm 1 21) s m args below meth c H locs 0 0 (sr_Qv D (tI t v) below args s A (wI h t o v p0 i')) (F0 m 2 ls [])) (Z : sr_Z D A s.heap (wI h t o v p0 i0) H locs) (hl : lv_has ls 3 [(0, .ref (o 2)), (1, .int x1), (2, .int x2)]) (hf : f_L_unsetFrom_2 k2 p0 x1 x2 i0 = some i') : W p l e (sr_rm 1 21) s m args below meth c H locs 0 0 (sr_Qv D (tI t v) below args s A (wI h t o v p0 i')) (F0 m 2 ls []) := by
  have hx := X.1
  have hb := X.2.1
  have hK := X.2.2.2.2.2.2.1
  unfold f_L_unsetFrom_2 at hf
  refine lv_iload_n hx hb d_L_unsetFrom_2 rfl (lv_at hl 2 rfl) ?_
  refine lv_aload_n hx hb d_L_unsetFrom_3 rfl (lv_at hl 0 rfl) ?_
  refine g_L_15_I X Z d_L_unsetFrom_4 ?_
  refine g_L_19_I X Z d_L_unsetFrom_7 ?_
  refine lv_icmp_ge (tgt := 42) hx hb d_L_unsetFrom_10 rfl (fun q_1 => ?_) (fun q_1 => ?_)
  · have hf := sr_it q_1 hf
    cases hf
    exact sr_retv X Z d_L_unsetFrom_42
  · have hf := sr_if q_1 hf
    refine lv_aload_n hx hb d_L_unsetFrom_13 rfl (lv_at hl 0 rfl) ?_
    refine g_L_15_I X Z d_L_unsetFrom_14 ?_
    refine g_L_39_I X Z d_L_unsetFrom_17 ?_
    refine lv_iload_n hx hb d_L_unsetFrom_20 rfl (lv_at hl 2 rfl) ?_
    obtain ⟨v_2, e_3, hf⟩ := sr_b hf
    refine sr_iald hx hb hK Z 11 10 rfl rfl e_3 d_L_unsetFrom_21 ?_
    refine lv_iload_n hx hb d_L_unsetFrom_22 rfl (lv_at hl 1 rfl) ?_
    obtain ⟨v_4, e_5, hf⟩ := sr_b hf
    refine sr_cSi (As := [.int v_2, .int x1]) (rest := []) X Z sr_cut_0 (va_K.sub hK [] rfl) (c_P_isIn e_5) (cw_L_53 X.2.2.2.2.2.1 (by decide)) rfl hl rfl (Nat.le_of_ble_eq_true rfl) d_L_unsetFrom_23 (fun H locs Z => ?_)
    refine lv_if_eq (tgt := 36) hx hb d_L_unsetFrom_26 rfl (fun q_6 => ?_) (fun q_6 => ?_)
    · have hf := sr_it q_6 hf
      exact k_L_unsetFrom_36 X hk2 Z (lv_sub hl [0, 1, 2] rfl) hf
    · have hf := sr_if q_6 hf
      refine lv_aload_n hx hb d_L_unsetFrom_29 rfl (lv_at hl 0 rfl) ?_
      refine g_L_9_I X Z d_L_unsetFrom_30 ?_
      refine lv_iload_n hx hb d_L_unsetFrom_33 rfl (lv_at hl 2 rfl) ?_
      refine lv_iconst (v := 0) hx hb d_L_unsetFrom_34 (by decide) ?_
      obtain ⟨i_7, e_8, hf⟩ := sr_b hf
      refine sr_iast (wf := (fun q => (wI h t o v p0 q))) hx hb hK Z 26 20 rfl rfl e_8 (fun _ => rfl) d_L_unsetFrom_35 (fun H locs Z => ?_)
      exact k_L_unsetFrom_36 X hk2 Z (lv_sub hl [0, 1, 2] rfl) hf
def f_L_unsetFrom_2_it (p0 : St) : Nat → Int32 → Int32 → St → Option (St)
  | 0 => fun _ _ _ => none
  | n + 1 => fun x1 x2 i0 => f_L_unsetFrom_2 (f_L_unsetFrom_2_it p0 n) p0 x1 x2 i0
set_option maxHeartbeats 4000000 in
set_option maxRecDepth 100000 in
theorem k_L_unsetFrom_2_it {p0 : St} {i' : St} (X : sr_X D (tI t v) b_L_unsetFrom 3 R_L w_L_unsetFrom p s m args meth c A none) (n : Nat) : ∀ {x1 : Int32} {x2 : Int32} {i0 : St} {H : Heap} {locs : List Loc} {ls : Array Slot}, sr_Z D A s.heap (wI h t o v p0 i0) H locs → lv_has ls 3 [(0, .ref (o 2)), (1, .int x1), (2, .int x2)] → f_L_unsetFrom_2_it p0 n x1 x2 i0 = some i' → W p l e (sr_rm 1 21) s m args below meth c H locs 0 0 (sr_Qv D (tI t v) below args s A (wI h t o v p0 i')) (F0 m 2 ls []) := by
  induction n with
  | zero => intro x1 x2 i0 H locs ls Z hl hf; exact absurd hf (by simp [f_L_unsetFrom_2_it])
  | succ n ih =>
    intro x1 x2 i0 H locs ls Z hl hf
    exact k_L_unsetFrom_2 X (fun x1 x2 i0 H locs ls Z hl hf => ih Z hl hf) Z hl hf
def f_L_unsetFrom (p0 : St) (x1 : Int32) (i0 : St) : Option (St) :=
  f_L_unsetFrom_2_it p0 60 x1 0 i0
set_option maxHeartbeats 4000000 in
set_option maxRecDepth 100000 in
theorem k_L_unsetFrom_0 {p0 : St} {x1 : Int32} {i0 : St} {i' : St} (X : sr_X D (tI t v) b_L_unsetFrom 3 R_L w_L_unsetFrom p s m args meth c A none) (Z : sr_Z D A s.heap (wI h t o v p0 i0) H locs) (hl : lv_has ls 3 [(0, .ref (o 2)), (1, .int x1)]) (hf : f_L_unsetFrom p0 x1 i0 = some i') : W p l e (sr_rm 1 21) s m args below meth c H locs 0 0 (sr_Qv D (tI t v) below args s A (wI h t o v p0 i')) (F0 m 0 ls []) := by
  have hx := X.1
  have hb := X.2.1
  have hK := X.2.2.2.2.2.2.1
  unfold f_L_unsetFrom at hf
  refine lv_iconst (v := 0) hx hb d_L_unsetFrom_0 (by decide) ?_
  refine lv_istore_n (lv' := [(2, .int 0), (0, .ref (o 2)), (1, .int x1)]) hx hb d_L_unsetFrom_1 rfl hl (by decide) rfl (fun ls hl => ?_)
  exact k_L_unsetFrom_2_it X _ Z (lv_sub hl [1, 2, 0] rfl) hf
end
set_option maxHeartbeats 4000000 in
set_option maxRecDepth 100000 in
theorem c_L_unsetFrom {l : Launch} {D : va_G} {h : Nat → Nat} {t : Nat → ClassId} {o : Nat → Nat} {v : Nat → ClassId} {sz : Nat} {p0 : St} {x1 : Int32} {i0 : St} {i' : St} (hf : f_L_unsetFrom p0 x1 i0 = some i') : sr_Cv l y_L_unsetFrom w_L_unsetFrom (sr_rm 1 21) D (tI t v) (wI h t o v p0 i0) (wI h t o v p0 i') sz [.ref (o 2), .int x1] := by
  refine Met.ofW (cc := b_L_unsetFrom) (maxL := 3) (ret := none) (by decide) rfl ?_
  intro p e s m args below meth c s₁ B hml hv
  obtain ⟨rfl, hsz, hP, hK, hD0⟩ := hv
  subst hsz
  have X : sr_X D (tI t v) b_L_unsetFrom 3 R_L w_L_unsetFrom p s m _ meth c (va_A (wI h t o v p0 i0) s.heap.size) none := ⟨B.exec, B.bytes, hml, findClass_of_methodNamed B.named, B.notSynchronized, atoms_spec (ws := w_L_unsetFrom) B.pre, hK, fun q h => Or.inr h, B.returns⟩
  have Z : sr_Z D (va_A (wI h t o v p0 i0) s.heap.size) s.heap (wI h t o v p0 i0) s.heap [] := ⟨hP, hD0.self, va_S.rf⟩
  have hl := lv_entry ([.ref (o 2), .int x1] : List Value) (n := 3) (Nat.le_of_ble_eq_true rfl)
  rw [lg_entry_eq]
  exact k_L_unsetFrom_0 X Z hl hf
/-! I_renew -/
theorem d_I_renew_0 : decode b_I_renew 0 = .ok (.iconst 0, 1) := by decide +kernel
theorem d_I_renew_1 : decode b_I_renew 1 = .ok (.istore_n 2, 1) := by decide +kernel
theorem d_I_renew_2 : decode b_I_renew 2 = .ok (.iload_n 2, 1) := by decide +kernel
theorem d_I_renew_3 : decode b_I_renew 3 = .ok (.aload_n 0, 1) := by decide +kernel
theorem d_I_renew_4 : decode b_I_renew 4 = .ok (.getfield 25, 3) := by decide +kernel
theorem d_I_renew_7 : decode b_I_renew 7 = .ok (.getfield 80, 3) := by decide +kernel
theorem d_I_renew_10 : decode b_I_renew 10 = .ok (.if_icmp .ge 24, 3) := by decide +kernel
theorem d_I_renew_13 : decode b_I_renew 13 = .ok (.iload_n 2, 1) := by decide +kernel
theorem d_I_renew_14 : decode b_I_renew 14 = .ok (.iload_n 1, 1) := by decide +kernel
theorem d_I_renew_15 : decode b_I_renew 15 = .ok (.invokestatic 222, 3) := by decide +kernel
theorem d_I_renew_18 : decode b_I_renew 18 = .ok (.ifCond .eq 10, 3) := by decide +kernel
theorem d_I_renew_21 : decode b_I_renew 21 = .ok (.aload_n 0, 1) := by decide +kernel
theorem d_I_renew_22 : decode b_I_renew 22 = .ok (.getfield 9, 3) := by decide +kernel
theorem d_I_renew_25 : decode b_I_renew 25 = .ok (.iload_n 2, 1) := by decide +kernel
theorem d_I_renew_26 : decode b_I_renew 26 = .ok (.iconst 0, 1) := by decide +kernel
theorem d_I_renew_27 : decode b_I_renew 27 = .ok (.iastore, 1) := by decide +kernel
theorem d_I_renew_28 : decode b_I_renew 28 = .ok (.iinc 2 1, 3) := by decide +kernel
theorem d_I_renew_31 : decode b_I_renew 31 = .ok (.goto (-29), 3) := by decide +kernel
theorem d_I_renew_34 : decode b_I_renew 34 = .ok (.aload_n 0, 1) := by decide +kernel
theorem d_I_renew_35 : decode b_I_renew 35 = .ok (.getfield 57, 3) := by decide +kernel
theorem d_I_renew_38 : decode b_I_renew 38 = .ok (.iload_n 1, 1) := by decide +kernel
theorem d_I_renew_39 : decode b_I_renew 39 = .ok (.invokevirtual 226, 3) := by decide +kernel
theorem d_I_renew_42 : decode b_I_renew 42 = .ok (.return_, 1) := by decide +kernel
section
variable {p : Program} {l : Launch} {e : Env} {s : State} {m : MethodId} {args : Array Value} {below : List Frame} {meth : Method} {c : Code} {H : Heap} {locs : List Loc} {ls : Array Slot} {D : va_G} {A : Nat → Prop} {h o : Nat → Nat} {t v : Nat → ClassId}
def f_I_renew_28 (k2 : Int32 → Int32 → St → Option (St)) (p0 : St) (x1 : Int32) (x2 : Int32) (i0 : St) : Option (St) :=
  k2 x1 (x2 + 1) i0
set_option maxHeartbeats 4000000 in
set_option maxRecDepth 100000 in
theorem k_I_renew_28 {k2 : Int32 → Int32 → St → Option (St)} {p0 : St} {x1 : Int32} {x2 : Int32} {i0 : St} {i' : St} (X : sr_X D (tI t v) b_I_renew 3 R_I w_I_renew p s m args meth c A none) (hk2 : ∀ (x1 : Int32) (x2 : Int32) (i0 : St) (H : Heap) (locs : List Loc) (ls : Array Slot), sr_Z D A s.heap (wI h t o v p0 i0) H locs → lv_has ls 3 [(0, .ref (o 0)), (1, .int x1), (2, .int x2)] → k2 x1 x2 i0 = some i' → W p l e (sr_rm 2 43) s m args below meth c H locs 0 0 (sr_Qv D (tI t v) below args s A (wI h t o v p0 i')) (F0 m 2 ls [])) (Z : sr_Z D A s.heap (wI h t o v p0 i0) H locs) (hl : lv_has ls 3 [(0, .ref (o 0)), (1, .int x1), (2, .int x2)]) (hf : f_I_renew_28 k2 p0 x1 x2 i0 = some i') : W p l e (sr_rm 2 43) s m args below meth c H locs 0 0 (sr_Qv D (tI t v) below args s A (wI h t o v p0 i')) (F0 m 28 ls []) := by
  have hx := X.1
  have hb := X.2.1
  have hK := X.2.2.2.2.2.2.1
  unfold f_I_renew_28 at hf
  refine lv_iinc (k := 2) (v := x2 + 1) (lv' := [(2, .int (x2 + 1)), (0, .ref (o 0)), (1, .int x1)]) hx hb d_I_renew_28 hl rfl rfl (by decide) rfl (fun ls hl => ?_)
  refine lv_goto (tgt := 2) hx hb d_I_renew_31 rfl ?_
  exact hk2 x1 (x2 + 1) i0 _ _ _ Z (lv_sub hl [1, 2, 0] rfl) hf
def f_I_renew_2 (k2 : Int32 → Int32 → St → Option (St)) (p0 : St) (x1 : Int32) (x2 : Int32) (i0 : St) : Option (St) :=
  if (p0 10 0) ≤ x2 then
    (f_L_unsetFrom p0 x1 i0).bind fun i_2 =>
    some i_2
  else
    (f_P_isIn x2 x1).bind fun v_4 =>
    if v_4 = 0 then
      f_I_renew_28 k2 p0 x1 x2 i0
    else
      (sr_ast 24 i0 4 x2 0).bind fun i_7 =>
      f_I_renew_28 k2 p0 x1 x2 i_7
set_option maxHeartbeats 4000000 in
set_option maxRecDepth 100000 in
theorem k_I_renew_2 {k2 : Int32 → Int32 → St → Option (St)} {p0 : St} {x1 : Int32} {x2 : Int32} {i0 : St} {i' : St} (X : sr_X D (tI t v) b_I_renew 3 R_I w_I_renew p s m args meth c A none) (hk2 : ∀ (x1 : Int32) (x2 : Int32) (i0 : St) (H : Heap) (locs : List Loc) (ls : Array Slot), sr_Z D A s.heap (wI h t o v p0 i0) H locs → lv_has ls 3 [(0, .ref (o 0)), (1, .int x1), (2, .int x2)] → k2 x1 x2 i0 = some i' → W p l e (sr_rm 2 43) s m args below meth c H locs 0 0 (sr_Qv D (tI t v) below args s A (wI h t o v p0 i')) (F0 m 2 ls [])) (Z : sr_Z D A s.heap (wI h t o v p0 i0) H locs) (hl : lv_has ls 3 [(0, .ref (o 0)), (1, .int x1), (2, .int x2)]) (hf : f_I_renew_2 k2 p0 x1 x2 i0 = some i') : W p l e (sr_rm 2 43) s m args below meth c H locs 0 0 (sr_Qv D (tI t v) below args s A (wI h t o v p0 i')) (F0 m 2 ls []) := by
  have hx := X.1
  have hb := X.2.1
  have hK := X.2.2.2.2.2.2.1
  unfold f_I_renew_2 at hf
  refine lv_iload_n hx hb d_I_renew_2 rfl (lv_at hl 2 rfl) ?_
  refine lv_aload_n hx hb d_I_renew_3 rfl (lv_at hl 0 rfl) ?_
  refine g_I_25_I X Z d_I_renew_4 ?_
  refine g_I_80_I X Z d_I_renew_7 ?_
  refine lv_icmp_ge (tgt := 34) hx hb d_I_renew_10 rfl (fun q_1 => ?_) (fun q_1 => ?_)
  · have hf := sr_it q_1 hf
    refine lv_aload_n hx hb d_I_renew_34 rfl (lv_at hl 0 rfl) ?_
    refine g_I_57_I X Z d_I_renew_35 ?_
    refine lv_iload_n hx hb d_I_renew_38 rfl (lv_at hl 1 rfl) ?_
    obtain ⟨i_2, e_3, hf⟩ := sr_b hf
    refine sr_cVv (As := [.int x1]) (rest := []) X Z sr_cut_self hK (c_L_unsetFrom e_3) (cw_I_226 X.2.2.2.2.2.1 (by decide)) 17 rfl rfl rfl hl rfl (Nat.le_of_ble_eq_true rfl) d_I_renew_39 (fun H locs Z => ?_)
    cases hf
    exact sr_retv X Z d_I_renew_42
  · have hf := sr_if q_1 hf
    refine lv_iload_n hx hb d_I_renew_13 rfl (lv_at hl 2 rfl) ?_
    refine lv_iload_n hx hb d_I_renew_14 rfl (lv_at hl 1 rfl) ?_
    obtain ⟨v_4, e_5, hf⟩ := sr_b hf
    refine sr_cSi (As := [.int x2, .int x1]) (rest := []) X Z sr_cut_0 (va_K.sub hK [] rfl) (c_P_isIn e_5) (cw_I_222 X.2.2.2.2.2.1 (by decide)) rfl hl rfl (Nat.le_of_ble_eq_true rfl) d_I_renew_15 (fun H locs Z => ?_)
    refine lv_if_eq (tgt := 28) hx hb d_I_renew_18 rfl (fun q_6 => ?_) (fun q_6 => ?_)
    · have hf := sr_it q_6 hf
      exact k_I_renew_28 X hk2 Z (lv_sub hl [0, 1, 2] rfl) hf
    · have hf := sr_if q_6 hf
      refine lv_aload_n hx hb d_I_renew_21 rfl (lv_at hl 0 rfl) ?_
      refine g_I_9_I X Z d_I_renew_22 ?_
      refine lv_iload_n hx hb d_I_renew_25 rfl (lv_at hl 2 rfl) ?_
      refine lv_iconst (v := 0) hx hb d_I_renew_26 (by decide) ?_
      obtain ⟨i_7, e_8, hf⟩ := sr_b hf
      refine sr_iast (wf := (fun q => (wI h t o v p0 q))) hx hb hK Z 20 14 rfl rfl e_8 (fun _ => rfl) d_I_renew_27 (fun H locs Z => ?_)
      exact k_I_renew_28 X hk2 Z (lv_sub hl [0, 1, 2] rfl) hf
def f_I_renew_2_it (p0 : St) : Nat → Int32 → Int32 → St → Option (St)
  | 0 => fun _ _ _ => none
  | n + 1 => fun x1 x2 i0 => f_I_renew_2 (f_I_renew_2_it p0 n) p0 x1 x2 i0
set_option maxHeartbeats 4000000 in
set_option maxRecDepth 100000 in
theorem k_I_renew_2_it {p0 : St} {i' : St} (X : sr_X D (tI t v) b_I_renew 3 R_I w_I_renew p s m args meth c A none) (n : Nat) : ∀ {x1 : Int32} {x2 : Int32} {i0 : St} {H : Heap} {locs : List Loc} {ls : Array Slot}, sr_Z D A s.heap (wI h t o v p0 i0) H locs → lv_has ls 3 [(0, .ref (o 0)), (1, .int x1), (2, .int x2)] → f_I_renew_2_it p0 n x1 x2 i0 = some i' → W p l e (sr_rm 2 43) s m args below meth c H locs 0 0 (sr_Qv D (tI t v) below args s A (wI h t o v p0 i')) (F0 m 2 ls []) := by
  induction n with
  | zero => intro x1 x2 i0 H locs ls Z hl hf; exact absurd hf (by simp [f_I_renew_2_it])
  | succ n ih =>
    intro x1 x2 i0 H locs ls Z hl hf
    exact k_I_renew_2 X (fun x1 x2 i0 H locs ls Z hl hf => ih Z hl hf) Z hl hf
def f_I_renew (p0 : St) (x1 : Int32) (i0 : St) : Option (St) :=
  f_I_renew_2_it p0 60 x1 0 i0
set_option maxHeartbeats 4000000 in
set_option maxRecDepth 100000 in
theorem k_I_renew_0 {p0 : St} {x1 : Int32} {i0 : St} {i' : St} (X : sr_X D (tI t v) b_I_renew 3 R_I w_I_renew p s m args meth c A none) (Z : sr_Z D A s.heap (wI h t o v p0 i0) H locs) (hl : lv_has ls 3 [(0, .ref (o 0)), (1, .int x1)]) (hf : f_I_renew p0 x1 i0 = some i') : W p l e (sr_rm 2 43) s m args below meth c H locs 0 0 (sr_Qv D (tI t v) below args s A (wI h t o v p0 i')) (F0 m 0 ls []) := by
  have hx := X.1
  have hb := X.2.1
  have hK := X.2.2.2.2.2.2.1
  unfold f_I_renew at hf
  refine lv_iconst (v := 0) hx hb d_I_renew_0 (by decide) ?_
  refine lv_istore_n (lv' := [(2, .int 0), (0, .ref (o 0)), (1, .int x1)]) hx hb d_I_renew_1 rfl hl (by decide) rfl (fun ls hl => ?_)
  exact k_I_renew_2_it X _ Z (lv_sub hl [1, 2, 0] rfl) hf
end
set_option maxHeartbeats 4000000 in
set_option maxRecDepth 100000 in
theorem c_I_renew {l : Launch} {D : va_G} {h : Nat → Nat} {t : Nat → ClassId} {o : Nat → Nat} {v : Nat → ClassId} {sz : Nat} {p0 : St} {x1 : Int32} {i0 : St} {i' : St} (hf : f_I_renew p0 x1 i0 = some i') : sr_Cv l y_I_renew w_I_renew (sr_rm 2 43) D (tI t v) (wI h t o v p0 i0) (wI h t o v p0 i') sz [.ref (o 0), .int x1] := by
  refine Met.ofW (cc := b_I_renew) (maxL := 3) (ret := none) (by decide) rfl ?_
  intro p e s m args below meth c s₁ B hml hv
  obtain ⟨rfl, hsz, hP, hK, hD0⟩ := hv
  subst hsz
  have X : sr_X D (tI t v) b_I_renew 3 R_I w_I_renew p s m _ meth c (va_A (wI h t o v p0 i0) s.heap.size) none := ⟨B.exec, B.bytes, hml, findClass_of_methodNamed B.named, B.notSynchronized, atoms_spec (ws := w_I_renew) B.pre, hK, fun q h => Or.inr h, B.returns⟩
  have Z : sr_Z D (va_A (wI h t o v p0 i0) s.heap.size) s.heap (wI h t o v p0 i0) s.heap [] := ⟨hP, hD0.self, va_S.rf⟩
  have hl := lv_entry ([.ref (o 0), .int x1] : List Value) (n := 3) (Nat.le_of_ble_eq_true rfl)
  rw [lg_entry_eq]
  exact k_I_renew_0 X Z hl hf
/-! I_completes -/
theorem d_I_completes_0 : decode b_I_completes 0 = .ok (.aload_n 0, 1) := by decide +kernel
theorem d_I_completes_1 : decode b_I_completes 1 = .ok (.iconst 1, 1) := by decide +kernel
theorem d_I_completes_2 : decode b_I_completes 2 = .ok (.putfield 146, 3) := by decide +kernel
theorem d_I_completes_5 : decode b_I_completes 5 = .ok (.aload_n 0, 1) := by decide +kernel
theorem d_I_completes_6 : decode b_I_completes 6 = .ok (.iload_n 1, 1) := by decide +kernel
theorem d_I_completes_7 : decode b_I_completes 7 = .ok (.putfield 149, 3) := by decide +kernel
theorem d_I_completes_10 : decode b_I_completes 10 = .ok (.return_, 1) := by decide +kernel
section
variable {p : Program} {l : Launch} {e : Env} {s : State} {m : MethodId} {args : Array Value} {below : List Frame} {meth : Method} {c : Code} {H : Heap} {locs : List Loc} {ls : Array Slot} {D : va_G} {A : Nat → Prop} {h o : Nat → Nat} {t v : Nat → ClassId}
def f_I_completes (p0 : St) (x1 : Int32) (i0 : St) : Option (St) :=
  (sr_pf i0 8 1).bind fun i_1 =>
  (sr_pf i_1 9 x1).bind fun i_3 =>
  some i_3
set_option maxHeartbeats 4000000 in
set_option maxRecDepth 100000 in
theorem k_I_completes_0 {p0 : St} {x1 : Int32} {i0 : St} {i' : St} (X : sr_X D (tI t v) b_I_completes 2 R_I w_I_completes p s m args meth c A none) (Z : sr_Z D A s.heap (wI h t o v p0 i0) H locs) (hl : lv_has ls 2 [(0, .ref (o 0)), (1, .int x1)]) (hf : f_I_completes p0 x1 i0 = some i') : W p l e (sr_rm 0 0) s m args below meth c H locs 0 0 (sr_Qv D (tI t v) below args s A (wI h t o v p0 i')) (F0 m 0 ls []) := by
  have hx := X.1
  have hb := X.2.1
  have hK := X.2.2.2.2.2.2.1
  unfold f_I_completes at hf
  refine lv_aload_n hx hb d_I_completes_0 rfl (lv_at hl 0 rfl) ?_
  refine lv_iconst (v := 1) hx hb d_I_completes_1 (by decide) ?_
  obtain ⟨i_1, e_2, hf⟩ := sr_b hf
  refine s_I_146_I X Z e_2 d_I_completes_2 (fun H locs Z => ?_)
  refine lv_aload_n hx hb d_I_completes_5 rfl (lv_at hl 0 rfl) ?_
  refine lv_iload_n hx hb d_I_completes_6 rfl (lv_at hl 1 rfl) ?_
  obtain ⟨i_3, e_4, hf⟩ := sr_b hf
  refine s_I_149_I X Z e_4 d_I_completes_7 (fun H locs Z => ?_)
  cases hf
  exact sr_retv X Z d_I_completes_10
end
set_option maxHeartbeats 4000000 in
set_option maxRecDepth 100000 in
theorem c_I_completes {l : Launch} {D : va_G} {h : Nat → Nat} {t : Nat → ClassId} {o : Nat → Nat} {v : Nat → ClassId} {sz : Nat} {p0 : St} {x1 : Int32} {i0 : St} {i' : St} (hf : f_I_completes p0 x1 i0 = some i') : sr_Cv l y_I_completes w_I_completes (sr_rm 0 0) D (tI t v) (wI h t o v p0 i0) (wI h t o v p0 i') sz [.ref (o 0), .int x1] := by
  refine Met.ofW (cc := b_I_completes) (maxL := 2) (ret := none) (by decide) rfl ?_
  intro p e s m args below meth c s₁ B hml hv
  obtain ⟨rfl, hsz, hP, hK, hD0⟩ := hv
  subst hsz
  have X : sr_X D (tI t v) b_I_completes 2 R_I w_I_completes p s m _ meth c (va_A (wI h t o v p0 i0) s.heap.size) none := ⟨B.exec, B.bytes, hml, findClass_of_methodNamed B.named, B.notSynchronized, atoms_spec (ws := w_I_completes) B.pre, hK, fun q h => Or.inr h, B.returns⟩
  have Z : sr_Z D (va_A (wI h t o v p0 i0) s.heap.size) s.heap (wI h t o v p0 i0) s.heap [] := ⟨hP, hD0.self, va_S.rf⟩
  have hl := lv_entry ([.ref (o 0), .int x1] : List Value) (n := 2) (Nat.le_of_ble_eq_true rfl)
  rw [lg_entry_eq]
  exact k_I_completes_0 X Z hl hf
/-! I_openOrComplete -/
theorem d_I_openOrComplete_0 : decode b_I_openOrComplete 0 = .ok (.iload_n 1, 1) := by decide +kernel
theorem d_I_openOrComplete_1 : decode b_I_openOrComplete 1 = .ok (.iconst (-1), 1) := by decide +kernel
theorem d_I_openOrComplete_2 : decode b_I_openOrComplete 2 = .ok (.if_icmp .ne 11, 3) := by decide +kernel
theorem d_I_openOrComplete_5 : decode b_I_openOrComplete 5 = .ok (.aload_n 0, 1) := by decide +kernel
theorem d_I_openOrComplete_6 : decode b_I_openOrComplete 6 = .ok (.iload_n 2, 1) := by decide +kernel
theorem d_I_openOrComplete_7 : decode b_I_openOrComplete 7 = .ok (.invokevirtual 123, 3) := by decide +kernel
theorem d_I_openOrComplete_10 : decode b_I_openOrComplete 10 = .ok (.goto 10, 3) := by decide +kernel
theorem d_I_openOrComplete_13 : decode b_I_openOrComplete 13 = .ok (.aload_n 0, 1) := by decide +kernel
theorem d_I_openOrComplete_14 : decode b_I_openOrComplete 14 = .ok (.getfield 9, 3) := by decide +kernel
theorem d_I_openOrComplete_17 : decode b_I_openOrComplete 17 = .ok (.iload_n 1, 1) := by decide +kernel
theorem d_I_openOrComplete_18 : decode b_I_openOrComplete 18 = .ok (.iconst 1, 1) := by decide +kernel
theorem d_I_openOrComplete_19 : decode b_I_openOrComplete 19 = .ok (.iastore, 1) := by decide +kernel
theorem d_I_openOrComplete_20 : decode b_I_openOrComplete 20 = .ok (.return_, 1) := by decide +kernel
section
variable {p : Program} {l : Launch} {e : Env} {s : State} {m : MethodId} {args : Array Value} {below : List Frame} {meth : Method} {c : Code} {H : Heap} {locs : List Loc} {ls : Array Slot} {D : va_G} {A : Nat → Prop} {h o : Nat → Nat} {t v : Nat → ClassId}
def f_I_openOrComplete (p0 : St) (x1 : Int32) (x2 : Int32) (i0 : St) : Option (St) :=
  if x1 = (-1) then
    (f_I_completes p0 x2 i0).bind fun i_4 =>
    some i_4
  else
    (sr_ast 24 i0 4 x1 1).bind fun i_2 =>
    some i_2
set_option maxHeartbeats 4000000 in
set_option maxRecDepth 100000 in
theorem k_I_openOrComplete_0 {p0 : St} {x1 : Int32} {x2 : Int32} {i0 : St} {i' : St} (X : sr_X D (tI t v) b_I_openOrComplete 3 R_I w_I_openOrComplete p s m args meth c A none) (Z : sr_Z D A s.heap (wI h t o v p0 i0) H locs) (hl : lv_has ls 3 [(0, .ref (o 0)), (1, .int x1), (2, .int x2)]) (hf : f_I_openOrComplete p0 x1 x2 i0 = some i') : W p l e (sr_rm 1 21) s m args below meth c H locs 0 0 (sr_Qv D (tI t v) below args s A (wI h t o v p0 i')) (F0 m 0 ls []) := by
  have hx := X.1
  have hb := X.2.1
  have hK := X.2.2.2.2.2.2.1
  unfold f_I_openOrComplete at hf
  refine lv_iload_n hx hb d_I_openOrComplete_0 rfl (lv_at hl 1 rfl) ?_
  refine lv_iconst (v := -1) hx hb d_I_openOrComplete_1 (by decide) ?_
  refine lv_icmp_ne (tgt := 13) hx hb d_I_openOrComplete_2 rfl (fun q_1 => ?_) (fun q_1 => ?_)
  · have hf := sr_if q_1 hf
    refine lv_aload_n hx hb d_I_openOrComplete_13 rfl (lv_at hl 0 rfl) ?_
    refine g_I_9_I X Z d_I_openOrComplete_14 ?_
    refine lv_iload_n hx hb d_I_openOrComplete_17 rfl (lv_at hl 1 rfl) ?_
    refine lv_iconst (v := 1) hx hb d_I_openOrComplete_18 (by decide) ?_
    obtain ⟨i_2, e_3, hf⟩ := sr_b hf
    refine sr_iast (wf := (fun q => (wI h t o v p0 q))) hx hb hK Z 20 14 rfl rfl e_3 (fun _ => rfl) d_I_openOrComplete_19 (fun H locs Z => ?_)
    cases hf
    exact sr_retv X Z d_I_openOrComplete_20
  · have hf := sr_it q_1 hf
    refine lv_aload_n hx hb d_I_openOrComplete_5 rfl (lv_at hl 0 rfl) ?_
    refine lv_iload_n hx hb d_I_openOrComplete_6 rfl (lv_at hl 2 rfl) ?_
    obtain ⟨i_4, e_5, hf⟩ := sr_b hf
    refine sr_cVv (As := [.int x2]) (rest := []) X Z sr_cut_self hK (c_I_completes e_5) (cw_I_123 X.2.2.2.2.2.1 (by decide)) 15 rfl rfl rfl hl rfl (Nat.le_of_ble_eq_true rfl) d_I_openOrComplete_7 (fun H locs Z => ?_)
    refine lv_goto (tgt := 20) hx hb d_I_openOrComplete_10 rfl ?_
    cases hf
    exact sr_retv X Z d_I_openOrComplete_20
end
set_option maxHeartbeats 4000000 in
set_option maxRecDepth 100000 in
theorem c_I_openOrComplete {l : Launch} {D : va_G} {h : Nat → Nat} {t : Nat → ClassId} {o : Nat → Nat} {v : Nat → ClassId} {sz : Nat} {p0 : St} {x1 : Int32} {x2 : Int32} {i0 : St} {i' : St} (hf : f_I_openOrComplete p0 x1 x2 i0 = some i') : sr_Cv l y_I_openOrComplete w_I_openOrComplete (sr_rm 1 21) D (tI t v) (wI h t o v p0 i0) (wI h t o v p0 i') sz [.ref (o 0), .int x1, .int x2] := by
  refine Met.ofW (cc := b_I_openOrComplete) (maxL := 3) (ret := none) (by decide) rfl ?_
  intro p e s m args below meth c s₁ B hml hv
  obtain ⟨rfl, hsz, hP, hK, hD0⟩ := hv
  subst hsz
  have X : sr_X D (tI t v) b_I_openOrComplete 3 R_I w_I_openOrComplete p s m _ meth c (va_A (wI h t o v p0 i0) s.heap.size) none := ⟨B.exec, B.bytes, hml, findClass_of_methodNamed B.named, B.notSynchronized, atoms_spec (ws := w_I_openOrComplete) B.pre, hK, fun q h => Or.inr h, B.returns⟩
  have Z : sr_Z D (va_A (wI h t o v p0 i0) s.heap.size) s.heap (wI h t o v p0 i0) s.heap [] := ⟨hP, hD0.self, va_S.rf⟩
  have hl := lv_entry ([.ref (o 0), .int x1, .int x2] : List Value) (n := 3) (Nat.le_of_ble_eq_true rfl)
  rw [lg_entry_eq]
  exact k_I_openOrComplete_0 X Z hl hf
