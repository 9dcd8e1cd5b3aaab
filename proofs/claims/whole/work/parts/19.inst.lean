/-! I_loop -/
theorem d_I_loop_0 : decode b_I_loop 0 = .ok (.aload_n 0, 1) := by decide +kernel
theorem d_I_loop_1 : decode b_I_loop 1 = .ok (.iload_n 1, 1) := by decide +kernel
theorem d_I_loop_2 : decode b_I_loop 2 = .ok (.invokevirtual 216, 3) := by decide +kernel
theorem d_I_loop_5 : decode b_I_loop 5 = .ok (.ifCond .eq 45, 3) := by decide +kernel
theorem d_I_loop_8 : decode b_I_loop 8 = .ok (.aload_n 0, 1) := by decide +kernel
theorem d_I_loop_9 : decode b_I_loop 9 = .ok (.getfield 9, 3) := by decide +kernel
theorem d_I_loop_12 : decode b_I_loop 12 = .ok (.iload_n 1, 1) := by decide +kernel
theorem d_I_loop_13 : decode b_I_loop 13 = .ok (.iconst 2, 1) := by decide +kernel
theorem d_I_loop_14 : decode b_I_loop 14 = .ok (.iastore, 1) := by decide +kernel
theorem d_I_loop_15 : decode b_I_loop 15 = .ok (.aload_n 0, 1) := by decide +kernel
theorem d_I_loop_16 : decode b_I_loop 16 = .ok (.aload_n 0, 1) := by decide +kernel
theorem d_I_loop_17 : decode b_I_loop 17 = .ok (.getfield 25, 3) := by decide +kernel
theorem d_I_loop_20 : decode b_I_loop 20 = .ok (.getfield 135, 3) := by decide +kernel
theorem d_I_loop_23 : decode b_I_loop 23 = .ok (.iload_n 1, 1) := by decide +kernel
theorem d_I_loop_24 : decode b_I_loop 24 = .ok (.iaload, 1) := by decide +kernel
theorem d_I_loop_25 : decode b_I_loop 25 = .ok (.iconst 1, 1) := by decide +kernel
theorem d_I_loop_26 : decode b_I_loop 26 = .ok (.iload_n 1, 1) := by decide +kernel
theorem d_I_loop_27 : decode b_I_loop 27 = .ok (.ishl, 1) := by decide +kernel
theorem d_I_loop_28 : decode b_I_loop 28 = .ok (.iconst (-1), 1) := by decide +kernel
theorem d_I_loop_29 : decode b_I_loop 29 = .ok (.ixor, 1) := by decide +kernel
theorem d_I_loop_30 : decode b_I_loop 30 = .ok (.iand, 1) := by decide +kernel
theorem d_I_loop_31 : decode b_I_loop 31 = .ok (.invokevirtual 219, 3) := by decide +kernel
theorem d_I_loop_34 : decode b_I_loop 34 = .ok (.aload_n 0, 1) := by decide +kernel
theorem d_I_loop_35 : decode b_I_loop 35 = .ok (.aload_n 0, 1) := by decide +kernel
theorem d_I_loop_36 : decode b_I_loop 36 = .ok (.getfield 25, 3) := by decide +kernel
theorem d_I_loop_39 : decode b_I_loop 39 = .ok (.iload_n 1, 1) := by decide +kernel
theorem d_I_loop_40 : decode b_I_loop 40 = .ok (.invokevirtual 195, 3) := by decide +kernel
theorem d_I_loop_43 : decode b_I_loop 43 = .ok (.iload_n 1, 1) := by decide +kernel
theorem d_I_loop_44 : decode b_I_loop 44 = .ok (.invokevirtual 198, 3) := by decide +kernel
theorem d_I_loop_47 : decode b_I_loop 47 = .ok (.goto 8, 3) := by decide +kernel
theorem d_I_loop_50 : decode b_I_loop 50 = .ok (.aload_n 0, 1) := by decide +kernel
theorem d_I_loop_51 : decode b_I_loop 51 = .ok (.iload_n 1, 1) := by decide +kernel
theorem d_I_loop_52 : decode b_I_loop 52 = .ok (.invokevirtual 123, 3) := by decide +kernel
theorem d_I_loop_55 : decode b_I_loop 55 = .ok (.return_, 1) := by decide +kernel
section
variable {p : Program} {l : Launch} {e : Env} {s : State} {m : MethodId} {args : Array Value} {below : List Frame} {meth : Method} {c : Code} {H : Heap} {locs : List Loc} {ls : Array Slot} {D : va_G} {A : Nat → Prop} {h o : Nat → Nat} {t v : Nat → ClassId}
def f_I_loop (p0 : St) (x1 : Int32) (i0 : St) : Option (St) :=
  (f_I_conditionHolds p0 i0 x1).bind fun v_1 =>
  if v_1 = 0 then
    (f_I_completes p0 x1 i0).bind fun i_4 =>
    some i_4
  else
    (sr_ast 24 i0 4 x1 2).bind fun i_6 =>
    (sr_ald 24 (p0 9) x1).bind fun v_8 =>
    (f_I_renew p0 (v_8 &&& (((1 : Int32) <<< (x1 &&& 31)) ^^^ (-1))) i_6).bind fun i_10 =>
    (f_P_firstChild p0 x1).bind fun v_12 =>
    (f_I_openOrComplete p0 v_12 x1 i_10).bind fun i_14 =>
    some i_14
set_option maxHeartbeats 4000000 in
set_option maxRecDepth 100000 in
theorem k_I_loop_0 {p0 : St} {x1 : Int32} {i0 : St} {i' : St} (X : sr_X D (tI t v) b_I_loop 2 R_I w_I_loop p s m args meth c A none) (Z : sr_Z D A s.heap (wI h t o v p0 i0) H locs) (hl : lv_has ls 2 [(0, .ref (o 0)), (1, .int x1)]) (hf : f_I_loop p0 x1 i0 = some i') : W p l e (sr_rm 3 65) s m args below meth c H locs 0 0 (sr_Qv D (tI t v) below args s A (wI h t o v p0 i')) (F0 m 0 ls []) := by
  have hx := X.1
  have hb := X.2.1
  have hK := X.2.2.2.2.2.2.1
  unfold f_I_loop at hf
  refine lv_aload_n hx hb d_I_loop_0 rfl (lv_at hl 0 rfl) ?_
  refine lv_iload_n hx hb d_I_loop_1 rfl (lv_at hl 1 rfl) ?_
  obtain ⟨v_1, e_2, hf⟩ := sr_b hf
  refine sr_cVi (As := [.int x1]) (rest := []) X Z sr_cut_self hK (c_I_conditionHolds e_2) (cw_I_216 X.2.2.2.2.2.1 (by decide)) 15 rfl rfl rfl hl rfl (Nat.le_of_ble_eq_true rfl) d_I_loop_2 (fun H locs Z => ?_)
  refine lv_if_eq (tgt := 50) hx hb d_I_loop_5 rfl (fun q_3 => ?_) (fun q_3 => ?_)
  · have hf := sr_it q_3 hf
    refine lv_aload_n hx hb d_I_loop_50 rfl (lv_at hl 0 rfl) ?_
    refine lv_iload_n hx hb d_I_loop_51 rfl (lv_at hl 1 rfl) ?_
    obtain ⟨i_4, e_5, hf⟩ := sr_b hf
    refine sr_cVv (As := [.int x1]) (rest := []) X Z sr_cut_self hK (c_I_completes e_5) (cw_I_123 X.2.2.2.2.2.1 (by decide)) 15 rfl rfl rfl hl rfl (Nat.le_of_ble_eq_true rfl) d_I_loop_52 (fun H locs Z => ?_)
    cases hf
    exact sr_retv X Z d_I_loop_55
  · have hf := sr_if q_3 hf
    refine lv_aload_n hx hb d_I_loop_8 rfl (lv_at hl 0 rfl) ?_
    refine g_I_9_I X Z d_I_loop_9 ?_
    refine lv_iload_n hx hb d_I_loop_12 rfl (lv_at hl 1 rfl) ?_
    refine lv_iconst (v := 2) hx hb d_I_loop_13 (by decide) ?_
    obtain ⟨i_6, e_7, hf⟩ := sr_b hf
    refine sr_iast (wf := (fun q => (wI h t o v p0 q))) hx hb hK Z 20 14 rfl rfl e_7 (fun _ => rfl) d_I_loop_14 (fun H locs Z => ?_)
    refine lv_aload_n hx hb d_I_loop_15 rfl (lv_at hl 0 rfl) ?_
    refine lv_aload_n hx hb d_I_loop_16 rfl (lv_at hl 0 rfl) ?_
    refine g_I_25_I X Z d_I_loop_17 ?_
    refine g_I_135_I X Z d_I_loop_20 ?_
    refine lv_iload_n hx hb d_I_loop_23 rfl (lv_at hl 1 rfl) ?_
    obtain ⟨v_8, e_9, hf⟩ := sr_b hf
    refine sr_iald hx hb hK Z 10 9 rfl rfl e_9 d_I_loop_24 ?_
    refine lv_iconst (v := 1) hx hb d_I_loop_25 (by decide) ?_
    refine lv_iload_n hx hb d_I_loop_26 rfl (lv_at hl 1 rfl) ?_
    refine lv_ishl hx hb d_I_loop_27 ?_
    refine lv_iconst (v := -1) hx hb d_I_loop_28 (by decide) ?_
    refine lv_ixor hx hb d_I_loop_29 ?_
    refine lv_iand hx hb d_I_loop_30 ?_
    obtain ⟨i_10, e_11, hf⟩ := sr_b hf
    refine sr_cVv (As := [.int (v_8 &&& (((1 : Int32) <<< (x1 &&& 31)) ^^^ (-1)))]) (rest := []) X Z sr_cut_self hK (c_I_renew e_11) (cw_I_219 X.2.2.2.2.2.1 (by decide)) 15 rfl rfl rfl hl rfl (Nat.le_of_ble_eq_true rfl) d_I_loop_31 (fun H locs Z => ?_)
    refine lv_aload_n hx hb d_I_loop_34 rfl (lv_at hl 0 rfl) ?_
    refine lv_aload_n hx hb d_I_loop_35 rfl (lv_at hl 0 rfl) ?_
    refine g_I_25_I X Z d_I_loop_36 ?_
    refine lv_iload_n hx hb d_I_loop_39 rfl (lv_at hl 1 rfl) ?_
    obtain ⟨v_12, e_13, hf⟩ := sr_b hf
    refine sr_cVi (As := [.int x1]) (rest := [.ref (o 0)]) X Z cut_IP (k_IP hK) (c_P_firstChild e_13) (cw_I_195 X.2.2.2.2.2.1 (by decide)) 0 rfl rfl rfl hl rfl (Nat.le_of_ble_eq_true rfl) d_I_loop_40 (fun H locs Z => ?_)
    refine lv_iload_n hx hb d_I_loop_43 rfl (lv_at hl 1 rfl) ?_
    obtain ⟨i_14, e_15, hf⟩ := sr_b hf
    refine sr_cVv (As := [.int v_12, .int x1]) (rest := []) X Z sr_cut_self hK (c_I_openOrComplete e_15) (cw_I_198 X.2.2.2.2.2.1 (by decide)) 15 rfl rfl rfl hl rfl (Nat.le_of_ble_eq_true rfl) d_I_loop_44 (fun H locs Z => ?_)
    refine lv_goto (tgt := 55) hx hb d_I_loop_47 rfl ?_
    cases hf
    exact sr_retv X Z d_I_loop_55
end
set_option maxHeartbeats 4000000 in
set_option maxRecDepth 100000 in
theorem c_I_loop {l : Launch} {D : va_G} {h : Nat → Nat} {t : Nat → ClassId} {o : Nat → Nat} {v : Nat → ClassId} {sz : Nat} {p0 : St} {x1 : Int32} {i0 : St} {i' : St} (hf : f_I_loop p0 x1 i0 = some i') : sr_Cv l y_I_loop w_I_loop (sr_rm 3 65) D (tI t v) (wI h t o v p0 i0) (wI h t o v p0 i') sz [.ref (o 0), .int x1] := by
  refine Met.ofW (cc := b_I_loop) (maxL := 2) (ret := none) (by decide) rfl ?_
  intro p e s m args below meth c s₁ B hml hv
  obtain ⟨rfl, hsz, hP, hK, hD0⟩ := hv
  subst hsz
  have X : sr_X D (tI t v) b_I_loop 2 R_I w_I_loop p s m _ meth c (va_A (wI h t o v p0 i0) s.heap.size) none := ⟨B.exec, B.bytes, hml, findClass_of_methodNamed B.named, B.notSynchronized, atoms_spec (ws := w_I_loop) B.pre, hK, fun q h => Or.inr h, B.returns⟩
  have Z : sr_Z D (va_A (wI h t o v p0 i0) s.heap.size) s.heap (wI h t o v p0 i0) s.heap [] := ⟨hP, hD0.self, va_S.rf⟩
  have hl := lv_entry ([.ref (o 0), .int x1] : List Value) (n := 2) (Nat.le_of_ble_eq_true rfl)
  rw [lg_entry_eq]
  exact k_I_loop_0 X Z hl hf
/-! I_becomeUndoer -/
theorem d_I_becomeUndoer_0 : decode b_I_becomeUndoer 0 = .ok (.aload_n 0, 1) := by decide +kernel
theorem d_I_becomeUndoer_1 : decode b_I_becomeUndoer 1 = .ok (.getfield 9, 3) := by decide +kernel
theorem d_I_becomeUndoer_4 : decode b_I_becomeUndoer 4 = .ok (.iload_n 1, 1) := by decide +kernel
theorem d_I_becomeUndoer_5 : decode b_I_becomeUndoer 5 = .ok (.iload_n 2, 1) := by decide +kernel
theorem d_I_becomeUndoer_6 : decode b_I_becomeUndoer 6 = .ok (.iastore, 1) := by decide +kernel
theorem d_I_becomeUndoer_7 : decode b_I_becomeUndoer 7 = .ok (.aload_n 0, 1) := by decide +kernel
theorem d_I_becomeUndoer_8 : decode b_I_becomeUndoer 8 = .ok (.getfield 21, 3) := by decide +kernel
theorem d_I_becomeUndoer_11 : decode b_I_becomeUndoer 11 = .ok (.iload_n 1, 1) := by decide +kernel
theorem d_I_becomeUndoer_12 : decode b_I_becomeUndoer 12 = .ok (.iconst 0, 1) := by decide +kernel
theorem d_I_becomeUndoer_13 : decode b_I_becomeUndoer 13 = .ok (.bastore, 1) := by decide +kernel
theorem d_I_becomeUndoer_14 : decode b_I_becomeUndoer 14 = .ok (.return_, 1) := by decide +kernel
section
variable {p : Program} {l : Launch} {e : Env} {s : State} {m : MethodId} {args : Array Value} {below : List Frame} {meth : Method} {c : Code} {H : Heap} {locs : List Loc} {ls : Array Slot} {D : va_G} {A : Nat → Prop} {h o : Nat → Nat} {t v : Nat → ClassId}
def f_I_becomeUndoer (p0 : St) (x1 : Int32) (x2 : Int32) (i0 : St) : Option (St) :=
  (sr_ast 24 i0 4 x1 x2).bind fun i_1 =>
  (sr_ast 24 i_1 7 x1 0).bind fun i_3 =>
  some i_3
set_option maxHeartbeats 4000000 in
set_option maxRecDepth 100000 in
theorem k_I_becomeUndoer_0 {p0 : St} {x1 : Int32} {x2 : Int32} {i0 : St} {i' : St} (X : sr_X D (tI t v) b_I_becomeUndoer 3 R_I w_I_becomeUndoer p s m args meth c A none) (Z : sr_Z D A s.heap (wI h t o v p0 i0) H locs) (hl : lv_has ls 3 [(0, .ref (o 0)), (1, .int x1), (2, .int x2)]) (hf : f_I_becomeUndoer p0 x1 x2 i0 = some i') : W p l e (sr_rm 0 0) s m args below meth c H locs 0 0 (sr_Qv D (tI t v) below args s A (wI h t o v p0 i')) (F0 m 0 ls []) := by
  have hx := X.1
  have hb := X.2.1
  have hK := X.2.2.2.2.2.2.1
  unfold f_I_becomeUndoer at hf
  refine lv_aload_n hx hb d_I_becomeUndoer_0 rfl (lv_at hl 0 rfl) ?_
  refine g_I_9_I X Z d_I_becomeUndoer_1 ?_
  refine lv_iload_n hx hb d_I_becomeUndoer_4 rfl (lv_at hl 1 rfl) ?_
  refine lv_iload_n hx hb d_I_becomeUndoer_5 rfl (lv_at hl 2 rfl) ?_
  obtain ⟨i_1, e_2, hf⟩ := sr_b hf
  refine sr_iast (wf := (fun q => (wI h t o v p0 q))) hx hb hK Z 20 14 rfl rfl e_2 (fun _ => rfl) d_I_becomeUndoer_6 (fun H locs Z => ?_)
  refine lv_aload_n hx hb d_I_becomeUndoer_7 rfl (lv_at hl 0 rfl) ?_
  refine g_I_21_I X Z d_I_becomeUndoer_8 ?_
  refine lv_iload_n hx hb d_I_becomeUndoer_11 rfl (lv_at hl 1 rfl) ?_
  refine lv_iconst (v := 0) hx hb d_I_becomeUndoer_12 (by decide) ?_
  obtain ⟨i_3, e_4, hf⟩ := sr_b hf
  refine sr_zast (wf := (fun q => (wI h t o v p0 q))) hx hb hK Z 23 17 rfl rfl rfl e_4 (fun _ => rfl) d_I_becomeUndoer_13 (fun H locs Z => ?_)
  cases hf
  exact sr_retv X Z d_I_becomeUndoer_14
end
set_option maxHeartbeats 4000000 in
set_option maxRecDepth 100000 in
theorem c_I_becomeUndoer {l : Launch} {D : va_G} {h : Nat → Nat} {t : Nat → ClassId} {o : Nat → Nat} {v : Nat → ClassId} {sz : Nat} {p0 : St} {x1 : Int32} {x2 : Int32} {i0 : St} {i' : St} (hf : f_I_becomeUndoer p0 x1 x2 i0 = some i') : sr_Cv l y_I_becomeUndoer w_I_becomeUndoer (sr_rm 0 0) D (tI t v) (wI h t o v p0 i0) (wI h t o v p0 i') sz [.ref (o 0), .int x1, .int x2] := by
  refine Met.ofW (cc := b_I_becomeUndoer) (maxL := 3) (ret := none) (by decide) rfl ?_
  intro p e s m args below meth c s₁ B hml hv
  obtain ⟨rfl, hsz, hP, hK, hD0⟩ := hv
  subst hsz
  have X : sr_X D (tI t v) b_I_becomeUndoer 3 R_I w_I_becomeUndoer p s m _ meth c (va_A (wI h t o v p0 i0) s.heap.size) none := ⟨B.exec, B.bytes, hml, findClass_of_methodNamed B.named, B.notSynchronized, atoms_spec (ws := w_I_becomeUndoer) B.pre, hK, fun q h => Or.inr h, B.returns⟩
  have Z : sr_Z D (va_A (wI h t o v p0 i0) s.heap.size) s.heap (wI h t o v p0 i0) s.heap [] := ⟨hP, hD0.self, va_S.rf⟩
  have hl := lv_entry ([.ref (o 0), .int x1, .int x2] : List Value) (n := 3) (Nat.le_of_ble_eq_true rfl)
  rw [lg_entry_eq]
  exact k_I_becomeUndoer_0 X Z hl hf
/-! I_undo -/
theorem d_I_undo_0 : decode b_I_undo 0 = .ok (.aload_n 0, 1) := by decide +kernel
theorem d_I_undo_1 : decode b_I_undo 1 = .ok (.getfield 64, 3) := by decide +kernel
theorem d_I_undo_4 : decode b_I_undo 4 = .ok (.getfield 244, 3) := by decide +kernel
theorem d_I_undo_7 : decode b_I_undo 7 = .ok (.iload_n 1, 1) := by decide +kernel
theorem d_I_undo_8 : decode b_I_undo 8 = .ok (.iaload, 1) := by decide +kernel
theorem d_I_undo_9 : decode b_I_undo 9 = .ok (.istore_n 3, 1) := by decide +kernel
theorem d_I_undo_10 : decode b_I_undo 10 = .ok (.aload_n 0, 1) := by decide +kernel
theorem d_I_undo_11 : decode b_I_undo 11 = .ok (.getfield 21, 3) := by decide +kernel
theorem d_I_undo_14 : decode b_I_undo 14 = .ok (.iload_n 2, 1) := by decide +kernel
theorem d_I_undo_15 : decode b_I_undo 15 = .ok (.iconst 1, 1) := by decide +kernel
theorem d_I_undo_16 : decode b_I_undo 16 = .ok (.bastore, 1) := by decide +kernel
theorem d_I_undo_17 : decode b_I_undo 17 = .ok (.aload_n 0, 1) := by decide +kernel
theorem d_I_undo_18 : decode b_I_undo 18 = .ok (.getfield 18, 3) := by decide +kernel
theorem d_I_undo_21 : decode b_I_undo 21 = .ok (.iload_n 3, 1) := by decide +kernel
theorem d_I_undo_22 : decode b_I_undo 22 = .ok (.iload_n 2, 1) := by decide +kernel
theorem d_I_undo_23 : decode b_I_undo 23 = .ok (.iastore, 1) := by decide +kernel
theorem d_I_undo_24 : decode b_I_undo 24 = .ok (.aload_n 0, 1) := by decide +kernel
theorem d_I_undo_25 : decode b_I_undo 25 = .ok (.getfield 71, 3) := by decide +kernel
theorem d_I_undo_28 : decode b_I_undo 28 = .ok (.bipush 7, 2) := by decide +kernel
theorem d_I_undo_30 : decode b_I_undo 30 = .ok (.iload_n 3, 1) := by decide +kernel
theorem d_I_undo_31 : decode b_I_undo 31 = .ok (.invokevirtual 144, 3) := by decide +kernel
theorem d_I_undo_34 : decode b_I_undo 34 = .ok (.aload_n 0, 1) := by decide +kernel
theorem d_I_undo_35 : decode b_I_undo 35 = .ok (.getfield 50, 3) := by decide +kernel
theorem d_I_undo_38 : decode b_I_undo 38 = .ok (.getfield 229, 3) := by decide +kernel
theorem d_I_undo_41 : decode b_I_undo 41 = .ok (.iload_n 3, 1) := by decide +kernel
theorem d_I_undo_42 : decode b_I_undo 42 = .ok (.aload_n 0, 1) := by decide +kernel
theorem d_I_undo_43 : decode b_I_undo 43 = .ok (.getfield 64, 3) := by decide +kernel
theorem d_I_undo_46 : decode b_I_undo 46 = .ok (.getfield 247, 3) := by decide +kernel
theorem d_I_undo_49 : decode b_I_undo 49 = .ok (.iload_n 1, 1) := by decide +kernel
theorem d_I_undo_50 : decode b_I_undo 50 = .ok (.iaload, 1) := by decide +kernel
theorem d_I_undo_51 : decode b_I_undo 51 = .ok (.iastore, 1) := by decide +kernel
theorem d_I_undo_52 : decode b_I_undo 52 = .ok (.aload_n 0, 1) := by decide +kernel
theorem d_I_undo_53 : decode b_I_undo 53 = .ok (.getfield 64, 3) := by decide +kernel
theorem d_I_undo_56 : decode b_I_undo 56 = .ok (.iload_n 1, 1) := by decide +kernel
theorem d_I_undo_57 : decode b_I_undo 57 = .ok (.invokevirtual 248, 3) := by decide +kernel
theorem d_I_undo_60 : decode b_I_undo 60 = .ok (.aload_n 0, 1) := by decide +kernel
theorem d_I_undo_61 : decode b_I_undo 61 = .ok (.getfield 25, 3) := by decide +kernel
theorem d_I_undo_64 : decode b_I_undo 64 = .ok (.iload_n 3, 1) := by decide +kernel
theorem d_I_undo_65 : decode b_I_undo 65 = .ok (.iconst 2, 1) := by decide +kernel
theorem d_I_undo_66 : decode b_I_undo 66 = .ok (.invokevirtual 251, 3) := by decide +kernel
theorem d_I_undo_69 : decode b_I_undo 69 = .ok (.istore 4, 2) := by decide +kernel
theorem d_I_undo_71 : decode b_I_undo 71 = .ok (.iload 4, 2) := by decide +kernel
theorem d_I_undo_73 : decode b_I_undo 73 = .ok (.iconst (-1), 1) := by decide +kernel
theorem d_I_undo_74 : decode b_I_undo 74 = .ok (.if_icmp .ne 13, 3) := by decide +kernel
theorem d_I_undo_77 : decode b_I_undo 77 = .ok (.aload_n 0, 1) := by decide +kernel
theorem d_I_undo_78 : decode b_I_undo 78 = .ok (.iload_n 3, 1) := by decide +kernel
theorem d_I_undo_79 : decode b_I_undo 79 = .ok (.bipush 7, 2) := by decide +kernel
theorem d_I_undo_81 : decode b_I_undo 81 = .ok (.invokevirtual 192, 3) := by decide +kernel
theorem d_I_undo_84 : decode b_I_undo 84 = .ok (.goto 32, 3) := by decide +kernel
theorem d_I_undo_87 : decode b_I_undo 87 = .ok (.aload_n 0, 1) := by decide +kernel
theorem d_I_undo_88 : decode b_I_undo 88 = .ok (.getfield 9, 3) := by decide +kernel
theorem d_I_undo_91 : decode b_I_undo 91 = .ok (.iload_n 3, 1) := by decide +kernel
theorem d_I_undo_92 : decode b_I_undo 92 = .ok (.iconst 5, 1) := by decide +kernel
theorem d_I_undo_93 : decode b_I_undo 93 = .ok (.iastore, 1) := by decide +kernel
theorem d_I_undo_94 : decode b_I_undo 94 = .ok (.aload_n 0, 1) := by decide +kernel
theorem d_I_undo_95 : decode b_I_undo 95 = .ok (.aload_n 0, 1) := by decide +kernel
theorem d_I_undo_96 : decode b_I_undo 96 = .ok (.getfield 25, 3) := by decide +kernel
theorem d_I_undo_99 : decode b_I_undo 99 = .ok (.getfield 135, 3) := by decide +kernel
theorem d_I_undo_102 : decode b_I_undo 102 = .ok (.iload 4, 2) := by decide +kernel
theorem d_I_undo_104 : decode b_I_undo 104 = .ok (.iaload, 1) := by decide +kernel
theorem d_I_undo_105 : decode b_I_undo 105 = .ok (.invokevirtual 219, 3) := by decide +kernel
theorem d_I_undo_108 : decode b_I_undo 108 = .ok (.aload_n 0, 1) := by decide +kernel
theorem d_I_undo_109 : decode b_I_undo 109 = .ok (.getfield 9, 3) := by decide +kernel
theorem d_I_undo_112 : decode b_I_undo 112 = .ok (.iload 4, 2) := by decide +kernel
theorem d_I_undo_114 : decode b_I_undo 114 = .ok (.iconst 1, 1) := by decide +kernel
theorem d_I_undo_115 : decode b_I_undo 115 = .ok (.iastore, 1) := by decide +kernel
theorem d_I_undo_116 : decode b_I_undo 116 = .ok (.return_, 1) := by decide +kernel
section
variable {p : Program} {l : Launch} {e : Env} {s : State} {m : MethodId} {args : Array Value} {below : List Frame} {meth : Method} {c : Code} {H : Heap} {locs : List Loc} {ls : Array Slot} {D : va_G} {A : Nat → Prop} {h o : Nat → Nat} {t v : Nat → ClassId}
def f_I_undo (p0 : St) (x1 : Int32) (x2 : Int32) (i0 : St) : Option (St) :=
  (sr_ald 16 (i0 14) x1).bind fun v_1 =>
  (sr_ast 24 i0 7 x2 1).bind fun i_3 =>
  (sr_ast 24 i_3 6 v_1 x2).bind fun i_5 =>
  (f_G_write p0 7 v_1 i_5).bind fun i_7 =>
  (sr_ald 16 (i_7 15) x1).bind fun v_9 =>
  (sr_ast 24 i_7 12 v_1 v_9).bind fun i_11 =>
  (f_E_handBack p0 x1 i_11).bind fun i_13 =>
  (f_P_handlerOf p0 v_1 2).bind fun v_15 =>
  if v_15 = (-1) then
    (f_I_becomeUndoer p0 v_1 7 i_13).bind fun i_26 =>
    some i_26
  else
    (sr_ast 24 i_13 4 v_1 5).bind fun i_18 =>
    (sr_ald 24 (p0 9) v_15).bind fun v_20 =>
    (f_I_renew p0 v_20 i_18).bind fun i_22 =>
    (sr_ast 24 i_22 4 v_15 1).bind fun i_24 =>
    some i_24
set_option maxHeartbeats 4000000 in
set_option maxRecDepth 100000 in
theorem k_I_undo_0 {p0 : St} {x1 : Int32} {x2 : Int32} {i0 : St} {i' : St} (X : sr_X D (tI t v) b_I_undo 5 R_I w_I_undo p s m args meth c A none) (Z : sr_Z D A s.heap (wI h t o v p0 i0) H locs) (hl : lv_has ls 5 [(0, .ref (o 0)), (1, .int x1), (2, .int x2)]) (hf : f_I_undo p0 x1 x2 i0 = some i') : W p l e (sr_rm 3 65) s m args below meth c H locs 0 0 (sr_Qv D (tI t v) below args s A (wI h t o v p0 i')) (F0 m 0 ls []) := by
  have hx := X.1
  have hb := X.2.1
  have hK := X.2.2.2.2.2.2.1
  unfold f_I_undo at hf
  refine lv_aload_n hx hb d_I_undo_0 rfl (lv_at hl 0 rfl) ?_
  refine g_I_64_I X Z d_I_undo_1 ?_
  refine g_I_244_I X Z d_I_undo_4 ?_
  refine lv_iload_n hx hb d_I_undo_7 rfl (lv_at hl 1 rfl) ?_
  obtain ⟨v_1, e_2, hf⟩ := sr_b hf
  refine sr_iald hx hb hK Z 27 21 rfl rfl e_2 d_I_undo_8 ?_
  refine lv_istore_n (lv' := [(3, .int v_1), (0, .ref (o 0)), (1, .int x1), (2, .int x2)]) hx hb d_I_undo_9 rfl hl (by decide) rfl (fun ls hl => ?_)
  refine lv_aload_n hx hb d_I_undo_10 rfl (lv_at hl 1 rfl) ?_
  refine g_I_21_I X Z d_I_undo_11 ?_
  refine lv_iload_n hx hb d_I_undo_14 rfl (lv_at hl 3 rfl) ?_
  refine lv_iconst (v := 1) hx hb d_I_undo_15 (by decide) ?_
  obtain ⟨i_3, e_4, hf⟩ := sr_b hf
  refine sr_zast (wf := (fun q => (wI h t o v p0 q))) hx hb hK Z 23 17 rfl rfl rfl e_4 (fun _ => rfl) d_I_undo_16 (fun H locs Z => ?_)
  refine lv_aload_n hx hb d_I_undo_17 rfl (lv_at hl 1 rfl) ?_
  refine g_I_18_I X Z d_I_undo_18 ?_
  refine lv_iload_n hx hb d_I_undo_21 rfl (lv_at hl 0 rfl) ?_
  refine lv_iload_n hx hb d_I_undo_22 rfl (lv_at hl 3 rfl) ?_
  obtain ⟨i_5, e_6, hf⟩ := sr_b hf
  refine sr_iast (wf := (fun q => (wI h t o v p0 q))) hx hb hK Z 22 16 rfl rfl e_6 (fun _ => rfl) d_I_undo_23 (fun H locs Z => ?_)
  refine lv_aload_n hx hb d_I_undo_24 rfl (lv_at hl 1 rfl) ?_
  refine g_I_71_I X Z d_I_undo_25 ?_
  refine lv_bipush (v := 7) hx hb d_I_undo_28 (by decide) ?_
  refine lv_iload_n hx hb d_I_undo_30 rfl (lv_at hl 0 rfl) ?_
  obtain ⟨i_7, e_8, hf⟩ := sr_b hf
  refine sr_cVv (As := [.int 7, .int v_1]) (rest := []) X Z sr_cut_self hK (c_G_write e_8) (cw_I_144 X.2.2.2.2.2.1 (by decide)) 19 rfl rfl rfl hl rfl (Nat.le_of_ble_eq_true rfl) d_I_undo_31 (fun H locs Z => ?_)
  refine lv_aload_n hx hb d_I_undo_34 rfl (lv_at hl 1 rfl) ?_
  refine g_I_50_I X Z d_I_undo_35 ?_
  refine g_I_229_I X Z d_I_undo_38 ?_
  refine lv_iload_n hx hb d_I_undo_41 rfl (lv_at hl 0 rfl) ?_
  refine lv_aload_n hx hb d_I_undo_42 rfl (lv_at hl 1 rfl) ?_
  refine g_I_64_I X Z d_I_undo_43 ?_
  refine g_I_247_I X Z d_I_undo_46 ?_
  refine lv_iload_n hx hb d_I_undo_49 rfl (lv_at hl 2 rfl) ?_
  obtain ⟨v_9, e_10, hf⟩ := sr_b hf
  refine sr_iald hx hb hK Z 28 22 rfl rfl e_10 d_I_undo_50 ?_
  obtain ⟨i_11, e_12, hf⟩ := sr_b hf
  refine sr_iast (wf := (fun q => (wI h t o v p0 q))) hx hb hK Z 25 19 rfl rfl e_12 (fun _ => rfl) d_I_undo_51 (fun H locs Z => ?_)
  refine lv_aload_n hx hb d_I_undo_52 rfl (lv_at hl 1 rfl) ?_
  refine g_I_64_I X Z d_I_undo_53 ?_
  refine lv_iload_n hx hb d_I_undo_56 rfl (lv_at hl 2 rfl) ?_
  obtain ⟨i_13, e_14, hf⟩ := sr_b hf
  refine sr_cVv (As := [.int x1]) (rest := []) X Z sr_cut_self hK (c_E_handBack e_14) (cw_I_248 X.2.2.2.2.2.1 (by decide)) 18 rfl rfl rfl hl rfl (Nat.le_of_ble_eq_true rfl) d_I_undo_57 (fun H locs Z => ?_)
  refine lv_aload_n hx hb d_I_undo_60 rfl (lv_at hl 1 rfl) ?_
  refine g_I_25_I X Z d_I_undo_61 ?_
  refine lv_iload_n hx hb d_I_undo_64 rfl (lv_at hl 0 rfl) ?_
  refine lv_iconst (v := 2) hx hb d_I_undo_65 (by decide) ?_
  obtain ⟨v_15, e_16, hf⟩ := sr_b hf
  refine sr_cVi (As := [.int v_1, .int 2]) (rest := []) X Z cut_IP (k_IP hK) (c_P_handlerOf e_16) (cw_I_251 X.2.2.2.2.2.1 (by decide)) 0 rfl rfl rfl hl rfl (Nat.le_of_ble_eq_true rfl) d_I_undo_66 (fun H locs Z => ?_)
  refine lv_istore (lv' := [(4, .int v_15), (3, .int v_1), (0, .ref (o 0)), (1, .int x1), (2, .int x2)]) hx hb d_I_undo_69 hl (by decide) rfl (fun ls hl => ?_)
  refine lv_iload hx hb d_I_undo_71 (lv_at hl 0 rfl) ?_
  refine lv_iconst (v := -1) hx hb d_I_undo_73 (by decide) ?_
  refine lv_icmp_ne (tgt := 87) hx hb d_I_undo_74 rfl (fun q_17 => ?_) (fun q_17 => ?_)
  · have hf := sr_if q_17 hf
    refine lv_aload_n hx hb d_I_undo_87 rfl (lv_at hl 2 rfl) ?_
    refine g_I_9_I X Z d_I_undo_88 ?_
    refine lv_iload_n hx hb d_I_undo_91 rfl (lv_at hl 1 rfl) ?_
    refine lv_iconst (v := 5) hx hb d_I_undo_92 (by decide) ?_
    obtain ⟨i_18, e_19, hf⟩ := sr_b hf
    refine sr_iast (wf := (fun q => (wI h t o v p0 q))) hx hb hK Z 20 14 rfl rfl e_19 (fun _ => rfl) d_I_undo_93 (fun H locs Z => ?_)
    refine lv_aload_n hx hb d_I_undo_94 rfl (lv_at hl 2 rfl) ?_
    refine lv_aload_n hx hb d_I_undo_95 rfl (lv_at hl 2 rfl) ?_
    refine g_I_25_I X Z d_I_undo_96 ?_
    refine g_I_135_I X Z d_I_undo_99 ?_
    refine lv_iload hx hb d_I_undo_102 (lv_at hl 0 rfl) ?_
    obtain ⟨v_20, e_21, hf⟩ := sr_b hf
    refine sr_iald hx hb hK Z 10 9 rfl rfl e_21 d_I_undo_104 ?_
    obtain ⟨i_22, e_23, hf⟩ := sr_b hf
    refine sr_cVv (As := [.int v_20]) (rest := []) X Z sr_cut_self hK (c_I_renew e_23) (cw_I_219 X.2.2.2.2.2.1 (by decide)) 15 rfl rfl rfl hl rfl (Nat.le_of_ble_eq_true rfl) d_I_undo_105 (fun H locs Z => ?_)
    refine lv_aload_n hx hb d_I_undo_108 rfl (lv_at hl 2 rfl) ?_
    refine g_I_9_I X Z d_I_undo_109 ?_
    refine lv_iload hx hb d_I_undo_112 (lv_at hl 0 rfl) ?_
    refine lv_iconst (v := 1) hx hb d_I_undo_114 (by decide) ?_
    obtain ⟨i_24, e_25, hf⟩ := sr_b hf
    refine sr_iast (wf := (fun q => (wI h t o v p0 q))) hx hb hK Z 20 14 rfl rfl e_25 (fun _ => rfl) d_I_undo_115 (fun H locs Z => ?_)
    cases hf
    exact sr_retv X Z d_I_undo_116
  · have hf := sr_it q_17 hf
    refine lv_aload_n hx hb d_I_undo_77 rfl (lv_at hl 2 rfl) ?_
    refine lv_iload_n hx hb d_I_undo_78 rfl (lv_at hl 1 rfl) ?_
    refine lv_bipush (v := 7) hx hb d_I_undo_79 (by decide) ?_
    obtain ⟨i_26, e_27, hf⟩ := sr_b hf
    refine sr_cVv (As := [.int v_1, .int 7]) (rest := []) X Z sr_cut_self hK (c_I_becomeUndoer e_27) (cw_I_192 X.2.2.2.2.2.1 (by decide)) 15 rfl rfl rfl hl rfl (Nat.le_of_ble_eq_true rfl) d_I_undo_81 (fun H locs Z => ?_)
    refine lv_goto (tgt := 116) hx hb d_I_undo_84 rfl ?_
    cases hf
    exact sr_retv X Z d_I_undo_116
end
set_option maxHeartbeats 4000000 in
set_option maxRecDepth 100000 in
theorem c_I_undo {l : Launch} {D : va_G} {h : Nat → Nat} {t : Nat → ClassId} {o : Nat → Nat} {v : Nat → ClassId} {sz : Nat} {p0 : St} {x1 : Int32} {x2 : Int32} {i0 : St} {i' : St} (hf : f_I_undo p0 x1 x2 i0 = some i') : sr_Cv l y_I_undo w_I_undo (sr_rm 3 65) D (tI t v) (wI h t o v p0 i0) (wI h t o v p0 i') sz [.ref (o 0), .int x1, .int x2] := by
  refine Met.ofW (cc := b_I_undo) (maxL := 5) (ret := none) (by decide) rfl ?_
  intro p e s m args below meth c s₁ B hml hv
  obtain ⟨rfl, hsz, hP, hK, hD0⟩ := hv
  subst hsz
  have X : sr_X D (tI t v) b_I_undo 5 R_I w_I_undo p s m _ meth c (va_A (wI h t o v p0 i0) s.heap.size) none := ⟨B.exec, B.bytes, hml, findClass_of_methodNamed B.named, B.notSynchronized, atoms_spec (ws := w_I_undo) B.pre, hK, fun q h => Or.inr h, B.returns⟩
  have Z : sr_Z D (va_A (wI h t o v p0 i0) s.heap.size) s.heap (wI h t o v p0 i0) s.heap [] := ⟨hP, hD0.self, va_S.rf⟩
  have hl := lv_entry ([.ref (o 0), .int x1, .int x2] : List Value) (n := 5) (Nat.le_of_ble_eq_true rfl)
  rw [lg_entry_eq]
  exact k_I_undo_0 X Z hl hf
/-! I_become -/
theorem d_I_become_0 : decode b_I_become 0 = .ok (.aload_n 0, 1) := by decide +kernel
theorem d_I_become_1 : decode b_I_become 1 = .ok (.getfield 9, 3) := by decide +kernel
theorem d_I_become_4 : decode b_I_become 4 = .ok (.iload_n 1, 1) := by decide +kernel
theorem d_I_become_5 : decode b_I_become 5 = .ok (.iload_n 2, 1) := by decide +kernel
theorem d_I_become_6 : decode b_I_become 6 = .ok (.iastore, 1) := by decide +kernel
theorem d_I_become_7 : decode b_I_become 7 = .ok (.aload_n 0, 1) := by decide +kernel
theorem d_I_become_8 : decode b_I_become 8 = .ok (.getfield 71, 3) := by decide +kernel
theorem d_I_become_11 : decode b_I_become 11 = .ok (.iload_n 3, 1) := by decide +kernel
theorem d_I_become_12 : decode b_I_become 12 = .ok (.iload_n 1, 1) := by decide +kernel
theorem d_I_become_13 : decode b_I_become 13 = .ok (.invokevirtual 144, 3) := by decide +kernel
theorem d_I_become_16 : decode b_I_become 16 = .ok (.return_, 1) := by decide +kernel
section
variable {p : Program} {l : Launch} {e : Env} {s : State} {m : MethodId} {args : Array Value} {below : List Frame} {meth : Method} {c : Code} {H : Heap} {locs : List Loc} {ls : Array Slot} {D : va_G} {A : Nat → Prop} {h o : Nat → Nat} {t v : Nat → ClassId}
def f_I_become (p0 : St) (x1 : Int32) (x2 : Int32) (x3 : Int32) (i0 : St) : Option (St) :=
  (sr_ast 24 i0 4 x1 x2).bind fun i_1 =>
  (f_G_write p0 x3 x1 i_1).bind fun i_3 =>
  some i_3
set_option maxHeartbeats 4000000 in
set_option maxRecDepth 100000 in
theorem k_I_become_0 {p0 : St} {x1 : Int32} {x2 : Int32} {x3 : Int32} {i0 : St} {i' : St} (X : sr_X D (tI t v) b_I_become 4 R_I w_I_become p s m args meth c A none) (Z : sr_Z D A s.heap (wI h t o v p0 i0) H locs) (hl : lv_has ls 4 [(0, .ref (o 0)), (1, .int x1), (2, .int x2), (3, .int x3)]) (hf : f_I_become p0 x1 x2 x3 i0 = some i') : W p l e (sr_rm 1 22) s m args below meth c H locs 0 0 (sr_Qv D (tI t v) below args s A (wI h t o v p0 i')) (F0 m 0 ls []) := by
  have hx := X.1
  have hb := X.2.1
  have hK := X.2.2.2.2.2.2.1
  unfold f_I_become at hf
  refine lv_aload_n hx hb d_I_become_0 rfl (lv_at hl 0 rfl) ?_
  refine g_I_9_I X Z d_I_become_1 ?_
  refine lv_iload_n hx hb d_I_become_4 rfl (lv_at hl 1 rfl) ?_
  refine lv_iload_n hx hb d_I_become_5 rfl (lv_at hl 2 rfl) ?_
  obtain ⟨i_1, e_2, hf⟩ := sr_b hf
  refine sr_iast (wf := (fun q => (wI h t o v p0 q))) hx hb hK Z 20 14 rfl rfl e_2 (fun _ => rfl) d_I_become_6 (fun H locs Z => ?_)
  refine lv_aload_n hx hb d_I_become_7 rfl (lv_at hl 0 rfl) ?_
  refine g_I_71_I X Z d_I_become_8 ?_
  refine lv_iload_n hx hb d_I_become_11 rfl (lv_at hl 3 rfl) ?_
  refine lv_iload_n hx hb d_I_become_12 rfl (lv_at hl 1 rfl) ?_
  obtain ⟨i_3, e_4, hf⟩ := sr_b hf
  refine sr_cVv (As := [.int x3, .int x1]) (rest := []) X Z sr_cut_self hK (c_G_write e_4) (cw_I_144 X.2.2.2.2.2.1 (by decide)) 19 rfl rfl rfl hl rfl (Nat.le_of_ble_eq_true rfl) d_I_become_13 (fun H locs Z => ?_)
  cases hf
  exact sr_retv X Z d_I_become_16
end
set_option maxHeartbeats 4000000 in
set_option maxRecDepth 100000 in
theorem c_I_become {l : Launch} {D : va_G} {h : Nat → Nat} {t : Nat → ClassId} {o : Nat → Nat} {v : Nat → ClassId} {sz : Nat} {p0 : St} {x1 : Int32} {x2 : Int32} {x3 : Int32} {i0 : St} {i' : St} (hf : f_I_become p0 x1 x2 x3 i0 = some i') : sr_Cv l y_I_become w_I_become (sr_rm 1 22) D (tI t v) (wI h t o v p0 i0) (wI h t o v p0 i') sz [.ref (o 0), .int x1, .int x2, .int x3] := by
  refine Met.ofW (cc := b_I_become) (maxL := 4) (ret := none) (by decide) rfl ?_
  intro p e s m args below meth c s₁ B hml hv
  obtain ⟨rfl, hsz, hP, hK, hD0⟩ := hv
  subst hsz
  have X : sr_X D (tI t v) b_I_become 4 R_I w_I_become p s m _ meth c (va_A (wI h t o v p0 i0) s.heap.size) none := ⟨B.exec, B.bytes, hml, findClass_of_methodNamed B.named, B.notSynchronized, atoms_spec (ws := w_I_become) B.pre, hK, fun q h => Or.inr h, B.returns⟩
  have Z : sr_Z D (va_A (wI h t o v p0 i0) s.heap.size) s.heap (wI h t o v p0 i0) s.heap [] := ⟨hP, hD0.self, va_S.rf⟩
  have hl := lv_entry ([.ref (o 0), .int x1, .int x2, .int x3] : List Value) (n := 4) (Nat.le_of_ble_eq_true rfl)
  rw [lg_entry_eq]
  exact k_I_become_0 X Z hl hf
/-! I_endUndo -/
theorem d_I_endUndo_0 : decode b_I_endUndo 0 = .ok (.aload_n 0, 1) := by decide +kernel
theorem d_I_endUndo_1 : decode b_I_endUndo 1 = .ok (.getfield 64, 3) := by decide +kernel
theorem d_I_endUndo_4 : decode b_I_endUndo 4 = .ok (.iload_n 1, 1) := by decide +kernel
theorem d_I_endUndo_5 : decode b_I_endUndo 5 = .ok (.invokevirtual 232, 3) := by decide +kernel
theorem d_I_endUndo_8 : decode b_I_endUndo 8 = .ok (.aload_n 0, 1) := by decide +kernel
theorem d_I_endUndo_9 : decode b_I_endUndo 9 = .ok (.iload_n 1, 1) := by decide +kernel
theorem d_I_endUndo_10 : decode b_I_endUndo 10 = .ok (.iload_n 2, 1) := by decide +kernel
theorem d_I_endUndo_11 : decode b_I_endUndo 11 = .ok (.iload_n 3, 1) := by decide +kernel
theorem d_I_endUndo_12 : decode b_I_endUndo 12 = .ok (.invokevirtual 176, 3) := by decide +kernel
theorem d_I_endUndo_15 : decode b_I_endUndo 15 = .ok (.aload_n 0, 1) := by decide +kernel
theorem d_I_endUndo_16 : decode b_I_endUndo 16 = .ok (.getfield 21, 3) := by decide +kernel
theorem d_I_endUndo_19 : decode b_I_endUndo 19 = .ok (.aload_n 0, 1) := by decide +kernel
theorem d_I_endUndo_20 : decode b_I_endUndo 20 = .ok (.getfield 18, 3) := by decide +kernel
theorem d_I_endUndo_23 : decode b_I_endUndo 23 = .ok (.iload_n 1, 1) := by decide +kernel
theorem d_I_endUndo_24 : decode b_I_endUndo 24 = .ok (.iaload, 1) := by decide +kernel
theorem d_I_endUndo_25 : decode b_I_endUndo 25 = .ok (.iconst 0, 1) := by decide +kernel
theorem d_I_endUndo_26 : decode b_I_endUndo 26 = .ok (.bastore, 1) := by decide +kernel
theorem d_I_endUndo_27 : decode b_I_endUndo 27 = .ok (.return_, 1) := by decide +kernel
section
variable {p : Program} {l : Launch} {e : Env} {s : State} {m : MethodId} {args : Array Value} {below : List Frame} {meth : Method} {c : Code} {H : Heap} {locs : List Loc} {ls : Array Slot} {D : va_G} {A : Nat → Prop} {h o : Nat → Nat} {t v : Nat → ClassId}
def f_I_endUndo (p0 : St) (x1 : Int32) (x2 : Int32) (x3 : Int32) (i0 : St) : Option (St) :=
  (f_E_clear p0 x1 i0).bind fun i_1 =>
  (f_I_become p0 x1 x2 x3 i_1).bind fun i_3 =>
  (sr_ald 24 (i_3 6) x1).bind fun v_5 =>
  (sr_ast 24 i_3 7 v_5 0).bind fun i_7 =>
  some i_7
set_option maxHeartbeats 4000000 in
set_option maxRecDepth 100000 in
theorem k_I_endUndo_0 {p0 : St} {x1 : Int32} {x2 : Int32} {x3 : Int32} {i0 : St} {i' : St} (X : sr_X D (tI t v) b_I_endUndo 4 R_I w_I_endUndo p s m args meth c A none) (Z : sr_Z D A s.heap (wI h t o v p0 i0) H locs) (hl : lv_has ls 4 [(0, .ref (o 0)), (1, .int x1), (2, .int x2), (3, .int x3)]) (hf : f_I_endUndo p0 x1 x2 x3 i0 = some i') : W p l e (sr_rm 2 45) s m args below meth c H locs 0 0 (sr_Qv D (tI t v) below args s A (wI h t o v p0 i')) (F0 m 0 ls []) := by
  have hx := X.1
  have hb := X.2.1
  have hK := X.2.2.2.2.2.2.1
  unfold f_I_endUndo at hf
  refine lv_aload_n hx hb d_I_endUndo_0 rfl (lv_at hl 0 rfl) ?_
  refine g_I_64_I X Z d_I_endUndo_1 ?_
  refine lv_iload_n hx hb d_I_endUndo_4 rfl (lv_at hl 1 rfl) ?_
  obtain ⟨i_1, e_2, hf⟩ := sr_b hf
  refine sr_cVv (As := [.int x1]) (rest := []) X Z sr_cut_self hK (c_E_clear e_2) (cw_I_232 X.2.2.2.2.2.1 (by decide)) 18 rfl rfl rfl hl rfl (Nat.le_of_ble_eq_true rfl) d_I_endUndo_5 (fun H locs Z => ?_)
  refine lv_aload_n hx hb d_I_endUndo_8 rfl (lv_at hl 0 rfl) ?_
  refine lv_iload_n hx hb d_I_endUndo_9 rfl (lv_at hl 1 rfl) ?_
  refine lv_iload_n hx hb d_I_endUndo_10 rfl (lv_at hl 2 rfl) ?_
  refine lv_iload_n hx hb d_I_endUndo_11 rfl (lv_at hl 3 rfl) ?_
  obtain ⟨i_3, e_4, hf⟩ := sr_b hf
  refine sr_cVv (As := [.int x1, .int x2, .int x3]) (rest := []) X Z sr_cut_self hK (c_I_become e_4) (cw_I_176 X.2.2.2.2.2.1 (by decide)) 15 rfl rfl rfl hl rfl (Nat.le_of_ble_eq_true rfl) d_I_endUndo_12 (fun H locs Z => ?_)
  refine lv_aload_n hx hb d_I_endUndo_15 rfl (lv_at hl 0 rfl) ?_
  refine g_I_21_I X Z d_I_endUndo_16 ?_
  refine lv_aload_n hx hb d_I_endUndo_19 rfl (lv_at hl 0 rfl) ?_
  refine g_I_18_I X Z d_I_endUndo_20 ?_
  refine lv_iload_n hx hb d_I_endUndo_23 rfl (lv_at hl 1 rfl) ?_
  obtain ⟨v_5, e_6, hf⟩ := sr_b hf
  refine sr_iald hx hb hK Z 22 16 rfl rfl e_6 d_I_endUndo_24 ?_
  refine lv_iconst (v := 0) hx hb d_I_endUndo_25 (by decide) ?_
  obtain ⟨i_7, e_8, hf⟩ := sr_b hf
  refine sr_zast (wf := (fun q => (wI h t o v p0 q))) hx hb hK Z 23 17 rfl rfl rfl e_8 (fun _ => rfl) d_I_endUndo_26 (fun H locs Z => ?_)
  cases hf
  exact sr_retv X Z d_I_endUndo_27
end
set_option maxHeartbeats 4000000 in
set_option maxRecDepth 100000 in
theorem c_I_endUndo {l : Launch} {D : va_G} {h : Nat → Nat} {t : Nat → ClassId} {o : Nat → Nat} {v : Nat → ClassId} {sz : Nat} {p0 : St} {x1 : Int32} {x2 : Int32} {x3 : Int32} {i0 : St} {i' : St} (hf : f_I_endUndo p0 x1 x2 x3 i0 = some i') : sr_Cv l y_I_endUndo w_I_endUndo (sr_rm 2 45) D (tI t v) (wI h t o v p0 i0) (wI h t o v p0 i') sz [.ref (o 0), .int x1, .int x2, .int x3] := by
  refine Met.ofW (cc := b_I_endUndo) (maxL := 4) (ret := none) (by decide) rfl ?_
  intro p e s m args below meth c s₁ B hml hv
  obtain ⟨rfl, hsz, hP, hK, hD0⟩ := hv
  subst hsz
  have X : sr_X D (tI t v) b_I_endUndo 4 R_I w_I_endUndo p s m _ meth c (va_A (wI h t o v p0 i0) s.heap.size) none := ⟨B.exec, B.bytes, hml, findClass_of_methodNamed B.named, B.notSynchronized, atoms_spec (ws := w_I_endUndo) B.pre, hK, fun q h => Or.inr h, B.returns⟩
  have Z : sr_Z D (va_A (wI h t o v p0 i0) s.heap.size) s.heap (wI h t o v p0 i0) s.heap [] := ⟨hP, hD0.self, va_S.rf⟩
  have hl := lv_entry ([.ref (o 0), .int x1, .int x2, .int x3] : List Value) (n := 4) (Nat.le_of_ble_eq_true rfl)
  rw [lg_entry_eq]
  exact k_I_endUndo_0 X Z hl hf
/-! I_faults -/
theorem d_I_faults_0 : decode b_I_faults 0 = .ok (.aload_n 0, 1) := by decide +kernel
theorem d_I_faults_1 : decode b_I_faults 1 = .ok (.iconst 3, 1) := by decide +kernel
theorem d_I_faults_2 : decode b_I_faults 2 = .ok (.putfield 146, 3) := by decide +kernel
theorem d_I_faults_5 : decode b_I_faults 5 = .ok (.aload_n 0, 1) := by decide +kernel
theorem d_I_faults_6 : decode b_I_faults 6 = .ok (.iload_n 1, 1) := by decide +kernel
theorem d_I_faults_7 : decode b_I_faults 7 = .ok (.putfield 149, 3) := by decide +kernel
theorem d_I_faults_10 : decode b_I_faults 10 = .ok (.aload_n 0, 1) := by decide +kernel
theorem d_I_faults_11 : decode b_I_faults 11 = .ok (.iload_n 2, 1) := by decide +kernel
theorem d_I_faults_12 : decode b_I_faults 12 = .ok (.putfield 152, 3) := by decide +kernel
theorem d_I_faults_15 : decode b_I_faults 15 = .ok (.return_, 1) := by decide +kernel
section
variable {p : Program} {l : Launch} {e : Env} {s : State} {m : MethodId} {args : Array Value} {below : List Frame} {meth : Method} {c : Code} {H : Heap} {locs : List Loc} {ls : Array Slot} {D : va_G} {A : Nat → Prop} {h o : Nat → Nat} {t v : Nat → ClassId}
def f_I_faults (p0 : St) (x1 : Int32) (x2 : Int32) (i0 : St) : Option (St) :=
  (sr_pf i0 8 3).bind fun i_1 =>
  (sr_pf i_1 9 x1).bind fun i_3 =>
  (sr_pf i_3 10 x2).bind fun i_5 =>
  some i_5
set_option maxHeartbeats 4000000 in
set_option maxRecDepth 100000 in
theorem k_I_faults_0 {p0 : St} {x1 : Int32} {x2 : Int32} {i0 : St} {i' : St} (X : sr_X D (tI t v) b_I_faults 3 R_I w_I_faults p s m args meth c A none) (Z : sr_Z D A s.heap (wI h t o v p0 i0) H locs) (hl : lv_has ls 3 [(0, .ref (o 0)), (1, .int x1), (2, .int x2)]) (hf : f_I_faults p0 x1 x2 i0 = some i') : W p l e (sr_rm 0 0) s m args below meth c H locs 0 0 (sr_Qv D (tI t v) below args s A (wI h t o v p0 i')) (F0 m 0 ls []) := by
  have hx := X.1
  have hb := X.2.1
  have hK := X.2.2.2.2.2.2.1
  unfold f_I_faults at hf
  refine lv_aload_n hx hb d_I_faults_0 rfl (lv_at hl 0 rfl) ?_
  refine lv_iconst (v := 3) hx hb d_I_faults_1 (by decide) ?_
  obtain ⟨i_1, e_2, hf⟩ := sr_b hf
  refine s_I_146_I X Z e_2 d_I_faults_2 (fun H locs Z => ?_)
  refine lv_aload_n hx hb d_I_faults_5 rfl (lv_at hl 0 rfl) ?_
  refine lv_iload_n hx hb d_I_faults_6 rfl (lv_at hl 1 rfl) ?_
  obtain ⟨i_3, e_4, hf⟩ := sr_b hf
  refine s_I_149_I X Z e_4 d_I_faults_7 (fun H locs Z => ?_)
  refine lv_aload_n hx hb d_I_faults_10 rfl (lv_at hl 0 rfl) ?_
  refine lv_iload_n hx hb d_I_faults_11 rfl (lv_at hl 2 rfl) ?_
  obtain ⟨i_5, e_6, hf⟩ := sr_b hf
  refine s_I_152_I X Z e_6 d_I_faults_12 (fun H locs Z => ?_)
  cases hf
  exact sr_retv X Z d_I_faults_15
end
set_option maxHeartbeats 4000000 in
set_option maxRecDepth 100000 in
theorem c_I_faults {l : Launch} {D : va_G} {h : Nat → Nat} {t : Nat → ClassId} {o : Nat → Nat} {v : Nat → ClassId} {sz : Nat} {p0 : St} {x1 : Int32} {x2 : Int32} {i0 : St} {i' : St} (hf : f_I_faults p0 x1 x2 i0 = some i') : sr_Cv l y_I_faults w_I_faults (sr_rm 0 0) D (tI t v) (wI h t o v p0 i0) (wI h t o v p0 i') sz [.ref (o 0), .int x1, .int x2] := by
  refine Met.ofW (cc := b_I_faults) (maxL := 3) (ret := none) (by decide) rfl ?_
  intro p e s m args below meth c s₁ B hml hv
  obtain ⟨rfl, hsz, hP, hK, hD0⟩ := hv
  subst hsz
  have X : sr_X D (tI t v) b_I_faults 3 R_I w_I_faults p s m _ meth c (va_A (wI h t o v p0 i0) s.heap.size) none := ⟨B.exec, B.bytes, hml, findClass_of_methodNamed B.named, B.notSynchronized, atoms_spec (ws := w_I_faults) B.pre, hK, fun q h => Or.inr h, B.returns⟩
  have Z : sr_Z D (va_A (wI h t o v p0 i0) s.heap.size) s.heap (wI h t o v p0 i0) s.heap [] := ⟨hP, hD0.self, va_S.rf⟩
  have hl := lv_entry ([.ref (o 0), .int x1, .int x2] : List Value) (n := 3) (Nat.le_of_ble_eq_true rfl)
  rw [lg_entry_eq]
  exact k_I_faults_0 X Z hl hf
/-! I_undoLatest -/
theorem d_I_undoLatest_0 : decode b_I_undoLatest 0 = .ok (.aload_n 0, 1) := by decide +kernel
theorem d_I_undoLatest_1 : decode b_I_undoLatest 1 = .ok (.getfield 25, 3) := by decide +kernel
theorem d_I_undoLatest_4 : decode b_I_undoLatest 4 = .ok (.getfield 126, 3) := by decide +kernel
theorem d_I_undoLatest_7 : decode b_I_undoLatest 7 = .ok (.iload_n 1, 1) := by decide +kernel
theorem d_I_undoLatest_8 : decode b_I_undoLatest 8 = .ok (.iaload, 1) := by decide +kernel
theorem d_I_undoLatest_9 : decode b_I_undoLatest 9 = .ok (.bipush 7, 2) := by decide +kernel
theorem d_I_undoLatest_11 : decode b_I_undoLatest 11 = .ok (.if_icmp .ne 7, 3) := by decide +kernel
theorem d_I_undoLatest_14 : decode b_I_undoLatest 14 = .ok (.iconst 1, 1) := by decide +kernel
theorem d_I_undoLatest_15 : decode b_I_undoLatest 15 = .ok (.goto 4, 3) := by decide +kernel
theorem d_I_undoLatest_18 : decode b_I_undoLatest 18 = .ok (.iconst 0, 1) := by decide +kernel
theorem d_I_undoLatest_19 : decode b_I_undoLatest 19 = .ok (.istore_n 2, 1) := by decide +kernel
theorem d_I_undoLatest_20 : decode b_I_undoLatest 20 = .ok (.iload_n 2, 1) := by decide +kernel
theorem d_I_undoLatest_21 : decode b_I_undoLatest 21 = .ok (.ifCond .eq 15, 3) := by decide +kernel
theorem d_I_undoLatest_24 : decode b_I_undoLatest 24 = .ok (.aload_n 0, 1) := by decide +kernel
theorem d_I_undoLatest_25 : decode b_I_undoLatest 25 = .ok (.getfield 25, 3) := by decide +kernel
theorem d_I_undoLatest_28 : decode b_I_undoLatest 28 = .ok (.getfield 186, 3) := by decide +kernel
theorem d_I_undoLatest_31 : decode b_I_undoLatest 31 = .ok (.iload_n 1, 1) := by decide +kernel
theorem d_I_undoLatest_32 : decode b_I_undoLatest 32 = .ok (.iaload, 1) := by decide +kernel
theorem d_I_undoLatest_33 : decode b_I_undoLatest 33 = .ok (.goto 4, 3) := by decide +kernel
theorem d_I_undoLatest_36 : decode b_I_undoLatest 36 = .ok (.iload_n 1, 1) := by decide +kernel
theorem d_I_undoLatest_37 : decode b_I_undoLatest 37 = .ok (.istore_n 3, 1) := by decide +kernel
theorem d_I_undoLatest_38 : decode b_I_undoLatest 38 = .ok (.aload_n 0, 1) := by decide +kernel
theorem d_I_undoLatest_39 : decode b_I_undoLatest 39 = .ok (.getfield 64, 3) := by decide +kernel
theorem d_I_undoLatest_42 : decode b_I_undoLatest 42 = .ok (.iload_n 3, 1) := by decide +kernel
theorem d_I_undoLatest_43 : decode b_I_undoLatest 43 = .ok (.iload_n 2, 1) := by decide +kernel
theorem d_I_undoLatest_44 : decode b_I_undoLatest 44 = .ok (.ifCond .eq 15, 3) := by decide +kernel
theorem d_I_undoLatest_47 : decode b_I_undoLatest 47 = .ok (.aload_n 0, 1) := by decide +kernel
theorem d_I_undoLatest_48 : decode b_I_undoLatest 48 = .ok (.getfield 25, 3) := by decide +kernel
theorem d_I_undoLatest_51 : decode b_I_undoLatest 51 = .ok (.getfield 141, 3) := by decide +kernel
theorem d_I_undoLatest_54 : decode b_I_undoLatest 54 = .ok (.iload_n 1, 1) := by decide +kernel
theorem d_I_undoLatest_55 : decode b_I_undoLatest 55 = .ok (.iaload, 1) := by decide +kernel
theorem d_I_undoLatest_56 : decode b_I_undoLatest 56 = .ok (.goto 4, 3) := by decide +kernel
theorem d_I_undoLatest_59 : decode b_I_undoLatest 59 = .ok (.iconst 0, 1) := by decide +kernel
theorem d_I_undoLatest_60 : decode b_I_undoLatest 60 = .ok (.invokevirtual 235, 3) := by decide +kernel
theorem d_I_undoLatest_63 : decode b_I_undoLatest 63 = .ok (.istore 4, 2) := by decide +kernel
theorem d_I_undoLatest_65 : decode b_I_undoLatest 65 = .ok (.iload 4, 2) := by decide +kernel
theorem d_I_undoLatest_67 : decode b_I_undoLatest 67 = .ok (.iconst (-1), 1) := by decide +kernel
theorem d_I_undoLatest_68 : decode b_I_undoLatest 68 = .ok (.if_icmp .eq 13, 3) := by decide +kernel
theorem d_I_undoLatest_71 : decode b_I_undoLatest 71 = .ok (.aload_n 0, 1) := by decide +kernel
theorem d_I_undoLatest_72 : decode b_I_undoLatest 72 = .ok (.iload 4, 2) := by decide +kernel
theorem d_I_undoLatest_74 : decode b_I_undoLatest 74 = .ok (.iload_n 1, 1) := by decide +kernel
theorem d_I_undoLatest_75 : decode b_I_undoLatest 75 = .ok (.invokevirtual 238, 3) := by decide +kernel
theorem d_I_undoLatest_78 : decode b_I_undoLatest 78 = .ok (.goto 49, 3) := by decide +kernel
theorem d_I_undoLatest_81 : decode b_I_undoLatest 81 = .ok (.iload_n 2, 1) := by decide +kernel
theorem d_I_undoLatest_82 : decode b_I_undoLatest 82 = .ok (.ifCond .eq 11, 3) := by decide +kernel
theorem d_I_undoLatest_85 : decode b_I_undoLatest 85 = .ok (.aload_n 0, 1) := by decide +kernel
theorem d_I_undoLatest_86 : decode b_I_undoLatest 86 = .ok (.iload_n 1, 1) := by decide +kernel
theorem d_I_undoLatest_87 : decode b_I_undoLatest 87 = .ok (.invokevirtual 123, 3) := by decide +kernel
theorem d_I_undoLatest_90 : decode b_I_undoLatest 90 = .ok (.goto 37, 3) := by decide +kernel
theorem d_I_undoLatest_93 : decode b_I_undoLatest 93 = .ok (.aload_n 0, 1) := by decide +kernel
theorem d_I_undoLatest_94 : decode b_I_undoLatest 94 = .ok (.getfield 9, 3) := by decide +kernel
theorem d_I_undoLatest_97 : decode b_I_undoLatest 97 = .ok (.iload_n 1, 1) := by decide +kernel
theorem d_I_undoLatest_98 : decode b_I_undoLatest 98 = .ok (.iaload, 1) := by decide +kernel
theorem d_I_undoLatest_99 : decode b_I_undoLatest 99 = .ok (.bipush 7, 2) := by decide +kernel
theorem d_I_undoLatest_101 : decode b_I_undoLatest 101 = .ok (.if_icmp .ne 15, 3) := by decide +kernel
theorem d_I_undoLatest_104 : decode b_I_undoLatest 104 = .ok (.aload_n 0, 1) := by decide +kernel
theorem d_I_undoLatest_105 : decode b_I_undoLatest 105 = .ok (.iload_n 1, 1) := by decide +kernel
theorem d_I_undoLatest_106 : decode b_I_undoLatest 106 = .ok (.bipush 12, 2) := by decide +kernel
theorem d_I_undoLatest_108 : decode b_I_undoLatest 108 = .ok (.bipush 8, 2) := by decide +kernel
theorem d_I_undoLatest_110 : decode b_I_undoLatest 110 = .ok (.invokevirtual 241, 3) := by decide +kernel
theorem d_I_undoLatest_113 : decode b_I_undoLatest 113 = .ok (.goto 14, 3) := by decide +kernel
theorem d_I_undoLatest_116 : decode b_I_undoLatest 116 = .ok (.aload_n 0, 1) := by decide +kernel
theorem d_I_undoLatest_117 : decode b_I_undoLatest 117 = .ok (.iload_n 1, 1) := by decide +kernel
theorem d_I_undoLatest_118 : decode b_I_undoLatest 118 = .ok (.aload_n 0, 1) := by decide +kernel
theorem d_I_undoLatest_119 : decode b_I_undoLatest 119 = .ok (.getfield 15, 3) := by decide +kernel
theorem d_I_undoLatest_122 : decode b_I_undoLatest 122 = .ok (.iload_n 1, 1) := by decide +kernel
theorem d_I_undoLatest_123 : decode b_I_undoLatest 123 = .ok (.iaload, 1) := by decide +kernel
theorem d_I_undoLatest_124 : decode b_I_undoLatest 124 = .ok (.invokevirtual 131, 3) := by decide +kernel
theorem d_I_undoLatest_127 : decode b_I_undoLatest 127 = .ok (.return_, 1) := by decide +kernel
section
variable {p : Program} {l : Launch} {e : Env} {s : State} {m : MethodId} {args : Array Value} {below : List Frame} {meth : Method} {c : Code} {H : Heap} {locs : List Loc} {ls : Array Slot} {D : va_G} {A : Nat → Prop} {h o : Nat → Nat} {t v : Nat → ClassId}
def f_I_undoLatest_60 (p0 : St) (x1 : Int32) (x2 : Int32) (y0 : Int32) (y1 : Int32) (i0 : St) : Option (St) :=
  (f_E_latestIn p0 i0 y1 y0).bind fun v_6 =>
  if v_6 = (-1) then
    if x2 = 0 then
      (sr_ald 24 (i0 4) x1).bind fun v_10 =>
      if v_10 = 7 then
        (f_I_endUndo p0 x1 12 8 i0).bind fun i_17 =>
        some i_17
      else
        (sr_ald 24 (i0 5) x1).bind fun v_13 =>
        (f_I_faults p0 x1 v_13 i0).bind fun i_15 =>
        some i_15
    else
      (f_I_completes p0 x1 i0).bind fun i_19 =>
      some i_19
  else
    (f_I_undo p0 v_6 x1 i0).bind fun i_21 =>
    some i_21
set_option maxHeartbeats 4000000 in
set_option maxRecDepth 100000 in
theorem k_I_undoLatest_60 {p0 : St} {x1 : Int32} {x2 : Int32} {y0 : Int32} {y1 : Int32} {i0 : St} {i' : St} (X : sr_X D (tI t v) b_I_undoLatest 5 R_I w_I_undoLatest p s m args meth c A none) (Z : sr_Z D A s.heap (wI h t o v p0 i0) H locs) (hl : lv_has ls 5 [(0, .ref (o 0)), (1, .int x1), (2, .int x2)]) (hf : f_I_undoLatest_60 p0 x1 x2 y0 y1 i0 = some i') : W p l e (sr_rm 4 89) s m args below meth c H locs 0 0 (sr_Qv D (tI t v) below args s A (wI h t o v p0 i')) (F0 m 60 ls [.int y0, .int y1, .ref (o 3)]) := by
  have hx := X.1
  have hb := X.2.1
  have hK := X.2.2.2.2.2.2.1
  unfold f_I_undoLatest_60 at hf
  obtain ⟨v_6, e_7, hf⟩ := sr_b hf
  refine sr_cVi (As := [.int y1, .int y0]) (rest := []) X Z sr_cut_self hK (c_E_latestIn e_7) (cw_I_235 X.2.2.2.2.2.1 (by decide)) 18 rfl rfl rfl hl rfl (Nat.le_of_ble_eq_true rfl) d_I_undoLatest_60 (fun H locs Z => ?_)
  refine lv_istore (lv' := [(4, .int v_6), (0, .ref (o 0)), (1, .int x1), (2, .int x2)]) hx hb d_I_undoLatest_63 hl (by decide) rfl (fun ls hl => ?_)
  refine lv_iload hx hb d_I_undoLatest_65 (lv_at hl 0 rfl) ?_
  refine lv_iconst (v := -1) hx hb d_I_undoLatest_67 (by decide) ?_
  refine lv_icmp_eq (tgt := 81) hx hb d_I_undoLatest_68 rfl (fun q_8 => ?_) (fun q_8 => ?_)
  · have hf := sr_it q_8 hf
    refine lv_iload_n hx hb d_I_undoLatest_81 rfl (lv_at hl 3 rfl) ?_
    refine lv_if_eq (tgt := 93) hx hb d_I_undoLatest_82 rfl (fun q_9 => ?_) (fun q_9 => ?_)
    · have hf := sr_it q_9 hf
      refine lv_aload_n hx hb d_I_undoLatest_93 rfl (lv_at hl 1 rfl) ?_
      refine g_I_9_I X Z d_I_undoLatest_94 ?_
      refine lv_iload_n hx hb d_I_undoLatest_97 rfl (lv_at hl 2 rfl) ?_
      obtain ⟨v_10, e_11, hf⟩ := sr_b hf
      refine sr_iald hx hb hK Z 20 14 rfl rfl e_11 d_I_undoLatest_98 ?_
      refine lv_bipush (v := 7) hx hb d_I_undoLatest_99 (by decide) ?_
      refine lv_icmp_ne (tgt := 116) hx hb d_I_undoLatest_101 rfl (fun q_12 => ?_) (fun q_12 => ?_)
      · have hf := sr_if q_12 hf
        refine lv_aload_n hx hb d_I_undoLatest_116 rfl (lv_at hl 1 rfl) ?_
        refine lv_iload_n hx hb d_I_undoLatest_117 rfl (lv_at hl 2 rfl) ?_
        refine lv_aload_n hx hb d_I_undoLatest_118 rfl (lv_at hl 1 rfl) ?_
        refine g_I_15_I X Z d_I_undoLatest_119 ?_
        refine lv_iload_n hx hb d_I_undoLatest_122 rfl (lv_at hl 2 rfl) ?_
        obtain ⟨v_13, e_14, hf⟩ := sr_b hf
        refine sr_iald hx hb hK Z 21 15 rfl rfl e_14 d_I_undoLatest_123 ?_
        obtain ⟨i_15, e_16, hf⟩ := sr_b hf
        refine sr_cVv (As := [.int x1, .int v_13]) (rest := []) X Z sr_cut_self hK (c_I_faults e_16) (cw_I_131 X.2.2.2.2.2.1 (by decide)) 15 rfl rfl rfl hl rfl (Nat.le_of_ble_eq_true rfl) d_I_undoLatest_124 (fun H locs Z => ?_)
        cases hf
        exact sr_retv X Z d_I_undoLatest_127
      · have hf := sr_it q_12 hf
        refine lv_aload_n hx hb d_I_undoLatest_104 rfl (lv_at hl 1 rfl) ?_
        refine lv_iload_n hx hb d_I_undoLatest_105 rfl (lv_at hl 2 rfl) ?_
        refine lv_bipush (v := 12) hx hb d_I_undoLatest_106 (by decide) ?_
        refine lv_bipush (v := 8) hx hb d_I_undoLatest_108 (by decide) ?_
        obtain ⟨i_17, e_18, hf⟩ := sr_b hf
        refine sr_cVv (As := [.int x1, .int 12, .int 8]) (rest := []) X Z sr_cut_self hK (c_I_endUndo e_18) (cw_I_241 X.2.2.2.2.2.1 (by decide)) 15 rfl rfl rfl hl rfl (Nat.le_of_ble_eq_true rfl) d_I_undoLatest_110 (fun H locs Z => ?_)
        refine lv_goto (tgt := 127) hx hb d_I_undoLatest_113 rfl ?_
        cases hf
        exact sr_retv X Z d_I_undoLatest_127
    · have hf := sr_if q_9 hf
      refine lv_aload_n hx hb d_I_undoLatest_85 rfl (lv_at hl 1 rfl) ?_
      refine lv_iload_n hx hb d_I_undoLatest_86 rfl (lv_at hl 2 rfl) ?_
      obtain ⟨i_19, e_20, hf⟩ := sr_b hf
      refine sr_cVv (As := [.int x1]) (rest := []) X Z sr_cut_self hK (c_I_completes e_20) (cw_I_123 X.2.2.2.2.2.1 (by decide)) 15 rfl rfl rfl hl rfl (Nat.le_of_ble_eq_true rfl) d_I_undoLatest_87 (fun H locs Z => ?_)
      refine lv_goto (tgt := 127) hx hb d_I_undoLatest_90 rfl ?_
      cases hf
      exact sr_retv X Z d_I_undoLatest_127
  · have hf := sr_if q_8 hf
    refine lv_aload_n hx hb d_I_undoLatest_71 rfl (lv_at hl 1 rfl) ?_
    refine lv_iload hx hb d_I_undoLatest_72 (lv_at hl 0 rfl) ?_
    refine lv_iload_n hx hb d_I_undoLatest_74 rfl (lv_at hl 2 rfl) ?_
    obtain ⟨i_21, e_22, hf⟩ := sr_b hf
    refine sr_cVv (As := [.int v_6, .int x1]) (rest := []) X Z sr_cut_self hK (c_I_undo e_22) (cw_I_238 X.2.2.2.2.2.1 (by decide)) 15 rfl rfl rfl hl rfl (Nat.le_of_ble_eq_true rfl) d_I_undoLatest_75 (fun H locs Z => ?_)
    refine lv_goto (tgt := 127) hx hb d_I_undoLatest_78 rfl ?_
    cases hf
    exact sr_retv X Z d_I_undoLatest_127
def f_I_undoLatest_37 (p0 : St) (x1 : Int32) (x2 : Int32) (y0 : Int32) (i0 : St) : Option (St) :=
  if x2 = 0 then
    f_I_undoLatest_60 p0 x1 x2 0 y0 i0
  else
    (sr_ald 24 (p0 3) x1).bind fun v_23 =>
    f_I_undoLatest_60 p0 x1 x2 v_23 y0 i0
set_option maxHeartbeats 4000000 in
set_option maxRecDepth 100000 in
theorem k_I_undoLatest_37 {p0 : St} {x1 : Int32} {x2 : Int32} {y0 : Int32} {i0 : St} {i' : St} (X : sr_X D (tI t v) b_I_undoLatest 5 R_I w_I_undoLatest p s m args meth c A none) (Z : sr_Z D A s.heap (wI h t o v p0 i0) H locs) (hl : lv_has ls 5 [(0, .ref (o 0)), (1, .int x1), (2, .int x2)]) (hf : f_I_undoLatest_37 p0 x1 x2 y0 i0 = some i') : W p l e (sr_rm 4 89) s m args below meth c H locs 0 0 (sr_Qv D (tI t v) below args s A (wI h t o v p0 i')) (F0 m 37 ls [.int y0]) := by
  have hx := X.1
  have hb := X.2.1
  have hK := X.2.2.2.2.2.2.1
  unfold f_I_undoLatest_37 at hf
  refine lv_istore_n (lv' := [(3, .int y0), (0, .ref (o 0)), (1, .int x1), (2, .int x2)]) hx hb d_I_undoLatest_37 rfl hl (by decide) rfl (fun ls hl => ?_)
  refine lv_aload_n hx hb d_I_undoLatest_38 rfl (lv_at hl 1 rfl) ?_
  refine g_I_64_I X Z d_I_undoLatest_39 ?_
  refine lv_iload_n hx hb d_I_undoLatest_42 rfl (lv_at hl 0 rfl) ?_
  refine lv_iload_n hx hb d_I_undoLatest_43 rfl (lv_at hl 3 rfl) ?_
  refine lv_if_eq (tgt := 59) hx hb d_I_undoLatest_44 rfl (fun q_5 => ?_) (fun q_5 => ?_)
  · have hf := sr_it q_5 hf
    refine lv_iconst (v := 0) hx hb d_I_undoLatest_59 (by decide) ?_
    exact k_I_undoLatest_60 X Z (lv_sub hl [1, 2, 3] rfl) hf
  · have hf := sr_if q_5 hf
    refine lv_aload_n hx hb d_I_undoLatest_47 rfl (lv_at hl 1 rfl) ?_
    refine g_I_25_I X Z d_I_undoLatest_48 ?_
    refine g_I_141_I X Z d_I_undoLatest_51 ?_
    refine lv_iload_n hx hb d_I_undoLatest_54 rfl (lv_at hl 2 rfl) ?_
    obtain ⟨v_23, e_24, hf⟩ := sr_b hf
    refine sr_iald hx hb hK Z 4 3 rfl rfl e_24 d_I_undoLatest_55 ?_
    refine lv_goto (tgt := 60) hx hb d_I_undoLatest_56 rfl ?_
    exact k_I_undoLatest_60 X Z (lv_sub hl [1, 2, 3] rfl) hf
def f_I_undoLatest_19 (p0 : St) (x1 : Int32) (y0 : Int32) (i0 : St) : Option (St) :=
  if y0 = 0 then
    f_I_undoLatest_37 p0 x1 y0 x1 i0
  else
    (sr_ald 24 (p0 6) x1).bind fun v_25 =>
    f_I_undoLatest_37 p0 x1 y0 v_25 i0
set_option maxHeartbeats 4000000 in
set_option maxRecDepth 100000 in
theorem k_I_undoLatest_19 {p0 : St} {x1 : Int32} {y0 : Int32} {i0 : St} {i' : St} (X : sr_X D (tI t v) b_I_undoLatest 5 R_I w_I_undoLatest p s m args meth c A none) (Z : sr_Z D A s.heap (wI h t o v p0 i0) H locs) (hl : lv_has ls 5 [(0, .ref (o 0)), (1, .int x1)]) (hf : f_I_undoLatest_19 p0 x1 y0 i0 = some i') : W p l e (sr_rm 4 89) s m args below meth c H locs 0 0 (sr_Qv D (tI t v) below args s A (wI h t o v p0 i')) (F0 m 19 ls [.int y0]) := by
  have hx := X.1
  have hb := X.2.1
  have hK := X.2.2.2.2.2.2.1
  unfold f_I_undoLatest_19 at hf
  refine lv_istore_n (lv' := [(2, .int y0), (0, .ref (o 0)), (1, .int x1)]) hx hb d_I_undoLatest_19 rfl hl (by decide) rfl (fun ls hl => ?_)
  refine lv_iload_n hx hb d_I_undoLatest_20 rfl (lv_at hl 0 rfl) ?_
  refine lv_if_eq (tgt := 36) hx hb d_I_undoLatest_21 rfl (fun q_4 => ?_) (fun q_4 => ?_)
  · have hf := sr_it q_4 hf
    refine lv_iload_n hx hb d_I_undoLatest_36 rfl (lv_at hl 2 rfl) ?_
    exact k_I_undoLatest_37 X Z (lv_sub hl [1, 2, 0] rfl) hf
  · have hf := sr_if q_4 hf
    refine lv_aload_n hx hb d_I_undoLatest_24 rfl (lv_at hl 1 rfl) ?_
    refine g_I_25_I X Z d_I_undoLatest_25 ?_
    refine g_I_186_I X Z d_I_undoLatest_28 ?_
    refine lv_iload_n hx hb d_I_undoLatest_31 rfl (lv_at hl 2 rfl) ?_
    obtain ⟨v_25, e_26, hf⟩ := sr_b hf
    refine sr_iald hx hb hK Z 7 6 rfl rfl e_26 d_I_undoLatest_32 ?_
    refine lv_goto (tgt := 37) hx hb d_I_undoLatest_33 rfl ?_
    exact k_I_undoLatest_37 X Z (lv_sub hl [1, 2, 0] rfl) hf
def f_I_undoLatest (p0 : St) (x1 : Int32) (i0 : St) : Option (St) :=
  (sr_ald 24 (p0 2) x1).bind fun v_1 =>
  if v_1 = 7 then
    f_I_undoLatest_19 p0 x1 1 i0
  else
    f_I_undoLatest_19 p0 x1 0 i0
set_option maxHeartbeats 4000000 in
set_option maxRecDepth 100000 in
theorem k_I_undoLatest_0 {p0 : St} {x1 : Int32} {i0 : St} {i' : St} (X : sr_X D (tI t v) b_I_undoLatest 5 R_I w_I_undoLatest p s m args meth c A none) (Z : sr_Z D A s.heap (wI h t o v p0 i0) H locs) (hl : lv_has ls 5 [(0, .ref (o 0)), (1, .int x1)]) (hf : f_I_undoLatest p0 x1 i0 = some i') : W p l e (sr_rm 4 89) s m args below meth c H locs 0 0 (sr_Qv D (tI t v) below args s A (wI h t o v p0 i')) (F0 m 0 ls []) := by
  have hx := X.1
  have hb := X.2.1
  have hK := X.2.2.2.2.2.2.1
  unfold f_I_undoLatest at hf
  refine lv_aload_n hx hb d_I_undoLatest_0 rfl (lv_at hl 0 rfl) ?_
  refine g_I_25_I X Z d_I_undoLatest_1 ?_
  refine g_I_126_I X Z d_I_undoLatest_4 ?_
  refine lv_iload_n hx hb d_I_undoLatest_7 rfl (lv_at hl 1 rfl) ?_
  obtain ⟨v_1, e_2, hf⟩ := sr_b hf
  refine sr_iald hx hb hK Z 3 2 rfl rfl e_2 d_I_undoLatest_8 ?_
  refine lv_bipush (v := 7) hx hb d_I_undoLatest_9 (by decide) ?_
  refine lv_icmp_ne (tgt := 18) hx hb d_I_undoLatest_11 rfl (fun q_3 => ?_) (fun q_3 => ?_)
  · have hf := sr_if q_3 hf
    refine lv_iconst (v := 0) hx hb d_I_undoLatest_18 (by decide) ?_
    exact k_I_undoLatest_19 X Z (lv_sub hl [0, 1] rfl) hf
  · have hf := sr_it q_3 hf
    refine lv_iconst (v := 1) hx hb d_I_undoLatest_14 (by decide) ?_
    refine lv_goto (tgt := 19) hx hb d_I_undoLatest_15 rfl ?_
    exact k_I_undoLatest_19 X Z (lv_sub hl [0, 1] rfl) hf
end
set_option maxHeartbeats 4000000 in
set_option maxRecDepth 100000 in
theorem c_I_undoLatest {l : Launch} {D : va_G} {h : Nat → Nat} {t : Nat → ClassId} {o : Nat → Nat} {v : Nat → ClassId} {sz : Nat} {p0 : St} {x1 : Int32} {i0 : St} {i' : St} (hf : f_I_undoLatest p0 x1 i0 = some i') : sr_Cv l y_I_undoLatest w_I_undoLatest (sr_rm 4 89) D (tI t v) (wI h t o v p0 i0) (wI h t o v p0 i') sz [.ref (o 0), .int x1] := by
  refine Met.ofW (cc := b_I_undoLatest) (maxL := 5) (ret := none) (by decide) rfl ?_
  intro p e s m args below meth c s₁ B hml hv
  obtain ⟨rfl, hsz, hP, hK, hD0⟩ := hv
  subst hsz
  have X : sr_X D (tI t v) b_I_undoLatest 5 R_I w_I_undoLatest p s m _ meth c (va_A (wI h t o v p0 i0) s.heap.size) none := ⟨B.exec, B.bytes, hml, findClass_of_methodNamed B.named, B.notSynchronized, atoms_spec (ws := w_I_undoLatest) B.pre, hK, fun q h => Or.inr h, B.returns⟩
  have Z : sr_Z D (va_A (wI h t o v p0 i0) s.heap.size) s.heap (wI h t o v p0 i0) s.heap [] := ⟨hP, hD0.self, va_S.rf⟩
  have hl := lv_entry ([.ref (o 0), .int x1] : List Value) (n := 5) (Nat.le_of_ble_eq_true rfl)
  rw [lg_entry_eq]
  exact k_I_undoLatest_0 X Z hl hf
/-! L_joinHoldsAt -/
theorem d_L_joinHoldsAt_0 : decode b_L_joinHoldsAt 0 = .ok (.aload_n 0, 1) := by decide +kernel
theorem d_L_joinHoldsAt_1 : decode b_L_joinHoldsAt 1 = .ok (.getfield 15, 3) := by decide +kernel
theorem d_L_joinHoldsAt_4 : decode b_L_joinHoldsAt 4 = .ok (.getfield 32, 3) := by decide +kernel
theorem d_L_joinHoldsAt_7 : decode b_L_joinHoldsAt 7 = .ok (.iload_n 1, 1) := by decide +kernel
theorem d_L_joinHoldsAt_8 : decode b_L_joinHoldsAt 8 = .ok (.iaload, 1) := by decide +kernel
theorem d_L_joinHoldsAt_9 : decode b_L_joinHoldsAt 9 = .ok (.iconst 1, 1) := by decide +kernel
theorem d_L_joinHoldsAt_10 : decode b_L_joinHoldsAt 10 = .ok (.if_icmp .eq 16, 3) := by decide +kernel
theorem d_L_joinHoldsAt_13 : decode b_L_joinHoldsAt 13 = .ok (.aload_n 0, 1) := by decide +kernel
theorem d_L_joinHoldsAt_14 : decode b_L_joinHoldsAt 14 = .ok (.getfield 15, 3) := by decide +kernel
theorem d_L_joinHoldsAt_17 : decode b_L_joinHoldsAt 17 = .ok (.getfield 32, 3) := by decide +kernel
theorem d_L_joinHoldsAt_20 : decode b_L_joinHoldsAt 20 = .ok (.iload_n 1, 1) := by decide +kernel
theorem d_L_joinHoldsAt_21 : decode b_L_joinHoldsAt 21 = .ok (.iaload, 1) := by decide +kernel
theorem d_L_joinHoldsAt_22 : decode b_L_joinHoldsAt 22 = .ok (.iconst 3, 1) := by decide +kernel
theorem d_L_joinHoldsAt_23 : decode b_L_joinHoldsAt 23 = .ok (.if_icmp .ne 7, 3) := by decide +kernel
theorem d_L_joinHoldsAt_26 : decode b_L_joinHoldsAt 26 = .ok (.iconst 1, 1) := by decide +kernel
theorem d_L_joinHoldsAt_27 : decode b_L_joinHoldsAt 27 = .ok (.goto 4, 3) := by decide +kernel
theorem d_L_joinHoldsAt_30 : decode b_L_joinHoldsAt 30 = .ok (.iconst 0, 1) := by decide +kernel
theorem d_L_joinHoldsAt_31 : decode b_L_joinHoldsAt 31 = .ok (.istore_n 2, 1) := by decide +kernel
theorem d_L_joinHoldsAt_32 : decode b_L_joinHoldsAt 32 = .ok (.aload_n 0, 1) := by decide +kernel
theorem d_L_joinHoldsAt_33 : decode b_L_joinHoldsAt 33 = .ok (.getfield 15, 3) := by decide +kernel
theorem d_L_joinHoldsAt_36 : decode b_L_joinHoldsAt 36 = .ok (.iload_n 1, 1) := by decide +kernel
theorem d_L_joinHoldsAt_37 : decode b_L_joinHoldsAt 37 = .ok (.invokevirtual 35, 3) := by decide +kernel
theorem d_L_joinHoldsAt_40 : decode b_L_joinHoldsAt 40 = .ok (.ifCond .eq 28, 3) := by decide +kernel
theorem d_L_joinHoldsAt_43 : decode b_L_joinHoldsAt 43 = .ok (.iload_n 2, 1) := by decide +kernel
theorem d_L_joinHoldsAt_44 : decode b_L_joinHoldsAt 44 = .ok (.ifCond .eq 15, 3) := by decide +kernel
theorem d_L_joinHoldsAt_47 : decode b_L_joinHoldsAt 47 = .ok (.aload_n 0, 1) := by decide +kernel
theorem d_L_joinHoldsAt_48 : decode b_L_joinHoldsAt 48 = .ok (.iload_n 1, 1) := by decide +kernel
theorem d_L_joinHoldsAt_49 : decode b_L_joinHoldsAt 49 = .ok (.iconst 2, 1) := by decide +kernel
theorem d_L_joinHoldsAt_50 : decode b_L_joinHoldsAt 50 = .ok (.invokevirtual 28, 3) := by decide +kernel
theorem d_L_joinHoldsAt_53 : decode b_L_joinHoldsAt 53 = .ok (.ifCond .ne 19, 3) := by decide +kernel
theorem d_L_joinHoldsAt_56 : decode b_L_joinHoldsAt 56 = .ok (.goto 12, 3) := by decide +kernel
theorem d_L_joinHoldsAt_59 : decode b_L_joinHoldsAt 59 = .ok (.aload_n 0, 1) := by decide +kernel
theorem d_L_joinHoldsAt_60 : decode b_L_joinHoldsAt 60 = .ok (.iload_n 1, 1) := by decide +kernel
theorem d_L_joinHoldsAt_61 : decode b_L_joinHoldsAt 61 = .ok (.iconst 1, 1) := by decide +kernel
theorem d_L_joinHoldsAt_62 : decode b_L_joinHoldsAt 62 = .ok (.invokevirtual 28, 3) := by decide +kernel
theorem d_L_joinHoldsAt_65 : decode b_L_joinHoldsAt 65 = .ok (.ifCond .le 7, 3) := by decide +kernel
theorem d_L_joinHoldsAt_68 : decode b_L_joinHoldsAt 68 = .ok (.iconst 1, 1) := by decide +kernel
theorem d_L_joinHoldsAt_69 : decode b_L_joinHoldsAt 69 = .ok (.goto 4, 3) := by decide +kernel
theorem d_L_joinHoldsAt_72 : decode b_L_joinHoldsAt 72 = .ok (.iconst 0, 1) := by decide +kernel
theorem d_L_joinHoldsAt_73 : decode b_L_joinHoldsAt 73 = .ok (.ireturn, 1) := by decide +kernel
section
variable {p : Program} {l : Launch} {e : Env} {s : State} {m : MethodId} {args : Array Value} {below : List Frame} {meth : Method} {c : Code} {H : Heap} {locs : List Loc} {ls : Array Slot} {D : va_G} {A : Nat → Prop} {h o : Nat → Nat} {t v : Nat → ClassId}
def f_L_joinHoldsAt_68 (p0 : St) (i0 : St) : Option (Int32) :=
  some 1
set_option maxHeartbeats 4000000 in
set_option maxRecDepth 100000 in
theorem k_L_joinHoldsAt_68 {p0 : St} {i0 : St} {r : Int32} (X : sr_X D (tI t v) b_L_joinHoldsAt 3 R_L w_L_joinHoldsAt p s m args meth c A (some .boolean)) (Z : sr_Z D A s.heap (wI h t o v p0 i0) H locs) (hl : lv_has ls 3 []) (hf : f_L_joinHoldsAt_68 p0 i0 = some r) : W p l e (sr_rm 1 24) s m args below meth c H locs 0 0 (sr_Qi D (tI t v) below args s A (wI h t o v p0 i0) r) (F0 m 68 ls []) := by
  have hx := X.1
  have hb := X.2.1
  have hK := X.2.2.2.2.2.2.1
  unfold f_L_joinHoldsAt_68 at hf
  refine lv_iconst (v := 1) hx hb d_L_joinHoldsAt_68 (by decide) ?_
  refine lv_goto (tgt := 73) hx hb d_L_joinHoldsAt_69 rfl ?_
  cases hf
  exact sr_retz X Z (by decide) d_L_joinHoldsAt_73
def f_L_joinHoldsAt_31 (p0 : St) (i0 : St) (x1 : Int32) (y0 : Int32) : Option (Int32) :=
  (f_P_isTarget p0 x1).bind fun v_4 =>
  if v_4 = 0 then
    f_L_joinHoldsAt_68 p0 i0
  else
    if y0 = 0 then
      (f_L_countTo p0 i0 x1 1).bind fun v_8 =>
      if v_8 ≤ 0 then
        some 0
      else
        f_L_joinHoldsAt_68 p0 i0
    else
      (f_L_countTo p0 i0 x1 2).bind fun v_11 =>
      if v_11 = 0 then
        f_L_joinHoldsAt_68 p0 i0
      else
        some 0
set_option maxHeartbeats 4000000 in
set_option maxRecDepth 100000 in
theorem k_L_joinHoldsAt_31 {p0 : St} {i0 : St} {x1 : Int32} {y0 : Int32} {r : Int32} (X : sr_X D (tI t v) b_L_joinHoldsAt 3 R_L w_L_joinHoldsAt p s m args meth c A (some .boolean)) (Z : sr_Z D A s.heap (wI h t o v p0 i0) H locs) (hl : lv_has ls 3 [(0, .ref (o 2)), (1, .int x1)]) (hf : f_L_joinHoldsAt_31 p0 i0 x1 y0 = some r) : W p l e (sr_rm 1 24) s m args below meth c H locs 0 0 (sr_Qi D (tI t v) below args s A (wI h t o v p0 i0) r) (F0 m 31 ls [.int y0]) := by
  have hx := X.1
  have hb := X.2.1
  have hK := X.2.2.2.2.2.2.1
  unfold f_L_joinHoldsAt_31 at hf
  refine lv_istore_n (lv' := [(2, .int y0), (0, .ref (o 2)), (1, .int x1)]) hx hb d_L_joinHoldsAt_31 rfl hl (by decide) rfl (fun ls hl => ?_)
  refine lv_aload_n hx hb d_L_joinHoldsAt_32 rfl (lv_at hl 1 rfl) ?_
  refine g_L_15_I X Z d_L_joinHoldsAt_33 ?_
  refine lv_iload_n hx hb d_L_joinHoldsAt_36 rfl (lv_at hl 2 rfl) ?_
  obtain ⟨v_4, e_5, hf⟩ := sr_b hf
  refine sr_cVi (As := [.int x1]) (rest := []) X Z cut_IP (k_IP hK) (c_P_isTarget e_5) (cw_L_35 X.2.2.2.2.2.1 (by decide)) 0 rfl rfl rfl hl rfl (Nat.le_of_ble_eq_true rfl) d_L_joinHoldsAt_37 (fun H locs Z => ?_)
  refine lv_if_eq (tgt := 68) hx hb d_L_joinHoldsAt_40 rfl (fun q_6 => ?_) (fun q_6 => ?_)
  · have hf := sr_it q_6 hf
    exact k_L_joinHoldsAt_68 X Z (lv_sub hl [] rfl) hf
  · have hf := sr_if q_6 hf
    refine lv_iload_n hx hb d_L_joinHoldsAt_43 rfl (lv_at hl 0 rfl) ?_
    refine lv_if_eq (tgt := 59) hx hb d_L_joinHoldsAt_44 rfl (fun q_7 => ?_) (fun q_7 => ?_)
    · have hf := sr_it q_7 hf
      refine lv_aload_n hx hb d_L_joinHoldsAt_59 rfl (lv_at hl 1 rfl) ?_
      refine lv_iload_n hx hb d_L_joinHoldsAt_60 rfl (lv_at hl 2 rfl) ?_
      refine lv_iconst (v := 1) hx hb d_L_joinHoldsAt_61 (by decide) ?_
      obtain ⟨v_8, e_9, hf⟩ := sr_b hf
      refine sr_cVi (As := [.int x1, .int 1]) (rest := []) X Z sr_cut_self hK (c_L_countTo e_9) (cw_L_28 X.2.2.2.2.2.1 (by decide)) 17 rfl rfl rfl hl rfl (Nat.le_of_ble_eq_true rfl) d_L_joinHoldsAt_62 (fun H locs Z => ?_)
      refine lv_if_le (tgt := 72) hx hb d_L_joinHoldsAt_65 rfl (fun q_10 => ?_) (fun q_10 => ?_)
      · have hf := sr_it q_10 hf
        refine lv_iconst (v := 0) hx hb d_L_joinHoldsAt_72 (by decide) ?_
        cases hf
        exact sr_retz X Z (by decide) d_L_joinHoldsAt_73
      · have hf := sr_if q_10 hf
        exact k_L_joinHoldsAt_68 X Z (lv_sub hl [] rfl) hf
    · have hf := sr_if q_7 hf
      refine lv_aload_n hx hb d_L_joinHoldsAt_47 rfl (lv_at hl 1 rfl) ?_
      refine lv_iload_n hx hb d_L_joinHoldsAt_48 rfl (lv_at hl 2 rfl) ?_
      refine lv_iconst (v := 2) hx hb d_L_joinHoldsAt_49 (by decide) ?_
      obtain ⟨v_11, e_12, hf⟩ := sr_b hf
      refine sr_cVi (As := [.int x1, .int 2]) (rest := []) X Z sr_cut_self hK (c_L_countTo e_12) (cw_L_28 X.2.2.2.2.2.1 (by decide)) 17 rfl rfl rfl hl rfl (Nat.le_of_ble_eq_true rfl) d_L_joinHoldsAt_50 (fun H locs Z => ?_)
      refine lv_if_ne (tgt := 72) hx hb d_L_joinHoldsAt_53 rfl (fun q_13 => ?_) (fun q_13 => ?_)
      · have hf := sr_if q_13 hf
        refine lv_iconst (v := 0) hx hb d_L_joinHoldsAt_72 (by decide) ?_
        cases hf
        exact sr_retz X Z (by decide) d_L_joinHoldsAt_73
      · have hf := sr_it q_13 hf
        refine lv_goto (tgt := 68) hx hb d_L_joinHoldsAt_56 rfl ?_
        exact k_L_joinHoldsAt_68 X Z (lv_sub hl [] rfl) hf
def f_L_joinHoldsAt_26 (p0 : St) (i0 : St) (x1 : Int32) : Option (Int32) :=
  f_L_joinHoldsAt_31 p0 i0 x1 1
set_option maxHeartbeats 4000000 in
set_option maxRecDepth 100000 in
theorem k_L_joinHoldsAt_26 {p0 : St} {i0 : St} {x1 : Int32} {r : Int32} (X : sr_X D (tI t v) b_L_joinHoldsAt 3 R_L w_L_joinHoldsAt p s m args meth c A (some .boolean)) (Z : sr_Z D A s.heap (wI h t o v p0 i0) H locs) (hl : lv_has ls 3 [(0, .ref (o 2)), (1, .int x1)]) (hf : f_L_joinHoldsAt_26 p0 i0 x1 = some r) : W p l e (sr_rm 1 24) s m args below meth c H locs 0 0 (sr_Qi D (tI t v) below args s A (wI h t o v p0 i0) r) (F0 m 26 ls []) := by
  have hx := X.1
  have hb := X.2.1
  have hK := X.2.2.2.2.2.2.1
  unfold f_L_joinHoldsAt_26 at hf
  refine lv_iconst (v := 1) hx hb d_L_joinHoldsAt_26 (by decide) ?_
  refine lv_goto (tgt := 31) hx hb d_L_joinHoldsAt_27 rfl ?_
  exact k_L_joinHoldsAt_31 X Z (lv_sub hl [0, 1] rfl) hf
def f_L_joinHoldsAt (p0 : St) (i0 : St) (x1 : Int32) : Option (Int32) :=
  (sr_ald 24 (p0 5) x1).bind fun v_1 =>
  if v_1 = 1 then
    f_L_joinHoldsAt_26 p0 i0 x1
  else
    (sr_ald 24 (p0 5) x1).bind fun v_14 =>
    if v_14 = 3 then
      f_L_joinHoldsAt_26 p0 i0 x1
    else
      f_L_joinHoldsAt_31 p0 i0 x1 0
set_option maxHeartbeats 4000000 in
set_option maxRecDepth 100000 in
theorem k_L_joinHoldsAt_0 {p0 : St} {i0 : St} {x1 : Int32} {r : Int32} (X : sr_X D (tI t v) b_L_joinHoldsAt 3 R_L w_L_joinHoldsAt p s m args meth c A (some .boolean)) (Z : sr_Z D A s.heap (wI h t o v p0 i0) H locs) (hl : lv_has ls 3 [(0, .ref (o 2)), (1, .int x1)]) (hf : f_L_joinHoldsAt p0 i0 x1 = some r) : W p l e (sr_rm 1 24) s m args below meth c H locs 0 0 (sr_Qi D (tI t v) below args s A (wI h t o v p0 i0) r) (F0 m 0 ls []) := by
  have hx := X.1
  have hb := X.2.1
  have hK := X.2.2.2.2.2.2.1
  unfold f_L_joinHoldsAt at hf
  refine lv_aload_n hx hb d_L_joinHoldsAt_0 rfl (lv_at hl 0 rfl) ?_
  refine g_L_15_I X Z d_L_joinHoldsAt_1 ?_
  refine g_L_32_I X Z d_L_joinHoldsAt_4 ?_
  refine lv_iload_n hx hb d_L_joinHoldsAt_7 rfl (lv_at hl 1 rfl) ?_
  obtain ⟨v_1, e_2, hf⟩ := sr_b hf
  refine sr_iald hx hb hK Z 6 5 rfl rfl e_2 d_L_joinHoldsAt_8 ?_
  refine lv_iconst (v := 1) hx hb d_L_joinHoldsAt_9 (by decide) ?_
  refine lv_icmp_eq (tgt := 26) hx hb d_L_joinHoldsAt_10 rfl (fun q_3 => ?_) (fun q_3 => ?_)
  · have hf := sr_it q_3 hf
    exact k_L_joinHoldsAt_26 X Z (lv_sub hl [0, 1] rfl) hf
  · have hf := sr_if q_3 hf
    refine lv_aload_n hx hb d_L_joinHoldsAt_13 rfl (lv_at hl 0 rfl) ?_
    refine g_L_15_I X Z d_L_joinHoldsAt_14 ?_
    refine g_L_32_I X Z d_L_joinHoldsAt_17 ?_
    refine lv_iload_n hx hb d_L_joinHoldsAt_20 rfl (lv_at hl 1 rfl) ?_
    obtain ⟨v_14, e_15, hf⟩ := sr_b hf
    refine sr_iald hx hb hK Z 6 5 rfl rfl e_15 d_L_joinHoldsAt_21 ?_
    refine lv_iconst (v := 3) hx hb d_L_joinHoldsAt_22 (by decide) ?_
    refine lv_icmp_ne (tgt := 30) hx hb d_L_joinHoldsAt_23 rfl (fun q_16 => ?_) (fun q_16 => ?_)
    · have hf := sr_if q_16 hf
      refine lv_iconst (v := 0) hx hb d_L_joinHoldsAt_30 (by decide) ?_
      exact k_L_joinHoldsAt_31 X Z (lv_sub hl [0, 1] rfl) hf
    · have hf := sr_it q_16 hf
      exact k_L_joinHoldsAt_26 X Z (lv_sub hl [0, 1] rfl) hf
end
set_option maxHeartbeats 4000000 in
set_option maxRecDepth 100000 in
theorem c_L_joinHoldsAt {l : Launch} {D : va_G} {h : Nat → Nat} {t : Nat → ClassId} {o : Nat → Nat} {v : Nat → ClassId} {sz : Nat} {p0 : St} {i0 : St} {x1 : Int32} {r : Int32} (hf : f_L_joinHoldsAt p0 i0 x1 = some r) : sr_Ci l y_L_joinHoldsAt w_L_joinHoldsAt (sr_rm 1 24) D (tI t v) (wI h t o v p0 i0) (wI h t o v p0 i0) sz [.ref (o 2), .int x1] r := by
  refine Met.ofW (cc := b_L_joinHoldsAt) (maxL := 3) (ret := (some .boolean)) (by decide) rfl ?_
  intro p e s m args below meth c s₁ B hml hv
  obtain ⟨rfl, hsz, hP, hK, hD0⟩ := hv
  subst hsz
  have X : sr_X D (tI t v) b_L_joinHoldsAt 3 R_L w_L_joinHoldsAt p s m _ meth c (va_A (wI h t o v p0 i0) s.heap.size) (some .boolean) := ⟨B.exec, B.bytes, hml, findClass_of_methodNamed B.named, B.notSynchronized, atoms_spec (ws := w_L_joinHoldsAt) B.pre, hK, fun q h => Or.inr h, B.returns⟩
  have Z : sr_Z D (va_A (wI h t o v p0 i0) s.heap.size) s.heap (wI h t o v p0 i0) s.heap [] := ⟨hP, hD0.self, va_S.rf⟩
  have hl := lv_entry ([.ref (o 2), .int x1] : List Value) (n := 3) (Nat.le_of_ble_eq_true rfl)
  rw [lg_entry_eq]
  exact k_L_joinHoldsAt_0 X Z hl hf
/-! V_write -/
theorem d_V_write_0 : decode b_V_write 0 = .ok (.aload_n 0, 1) := by decide +kernel
theorem d_V_write_1 : decode b_V_write 1 = .ok (.getfield 18, 3) := by decide +kernel
theorem d_V_write_4 : decode b_V_write 4 = .ok (.getfield 22, 3) := by decide +kernel
theorem d_V_write_7 : decode b_V_write 7 = .ok (.iload_n 1, 1) := by decide +kernel
theorem d_V_write_8 : decode b_V_write 8 = .ok (.iaload, 1) := by decide +kernel
theorem d_V_write_9 : decode b_V_write 9 = .ok (.istore 4, 2) := by decide +kernel
theorem d_V_write_11 : decode b_V_write 11 = .ok (.iload_n 2, 1) := by decide +kernel
theorem d_V_write_12 : decode b_V_write 12 = .ok (.ifCond .lt 18, 3) := by decide +kernel
theorem d_V_write_15 : decode b_V_write 15 = .ok (.iload_n 2, 1) := by decide +kernel
theorem d_V_write_16 : decode b_V_write 16 = .ok (.iconst 4, 1) := by decide +kernel
theorem d_V_write_17 : decode b_V_write 17 = .ok (.if_icmp .ge 13, 3) := by decide +kernel
theorem d_V_write_20 : decode b_V_write 20 = .ok (.aload_n 0, 1) := by decide +kernel
theorem d_V_write_21 : decode b_V_write 21 = .ok (.getfield 9, 3) := by decide +kernel
theorem d_V_write_24 : decode b_V_write 24 = .ok (.iload_n 2, 1) := by decide +kernel
theorem d_V_write_25 : decode b_V_write 25 = .ok (.iload_n 3, 1) := by decide +kernel
theorem d_V_write_26 : decode b_V_write 26 = .ok (.iastore, 1) := by decide +kernel
theorem d_V_write_27 : decode b_V_write 27 = .ok (.goto 17, 3) := by decide +kernel
theorem d_V_write_30 : decode b_V_write 30 = .ok (.iload 4, 2) := by decide +kernel
theorem d_V_write_32 : decode b_V_write 32 = .ok (.iconst (-1), 1) := by decide +kernel
theorem d_V_write_33 : decode b_V_write 33 = .ok (.if_icmp .eq 11, 3) := by decide +kernel
theorem d_V_write_36 : decode b_V_write 36 = .ok (.aload_n 0, 1) := by decide +kernel
theorem d_V_write_37 : decode b_V_write 37 = .ok (.getfield 15, 3) := by decide +kernel
theorem d_V_write_40 : decode b_V_write 40 = .ok (.iload 4, 2) := by decide +kernel
theorem d_V_write_42 : decode b_V_write 42 = .ok (.iload_n 3, 1) := by decide +kernel
theorem d_V_write_43 : decode b_V_write 43 = .ok (.iastore, 1) := by decide +kernel
theorem d_V_write_44 : decode b_V_write 44 = .ok (.return_, 1) := by decide +kernel
section
variable {p : Program} {l : Launch} {e : Env} {s : State} {m : MethodId} {args : Array Value} {below : List Frame} {meth : Method} {c : Code} {H : Heap} {locs : List Loc} {ls : Array Slot} {D : va_G} {A : Nat → Prop} {h o : Nat → Nat} {t v : Nat → ClassId}
def f_V_write_30 (p0 : St) (x3 : Int32) (x4 : Int32) (i0 : St) : Option (St) :=
  if x4 = (-1) then
    some i0
  else
    (sr_ast 24 i0 12 x4 x3).bind fun i_5 =>
    some i_5
set_option maxHeartbeats 4000000 in
set_option maxRecDepth 100000 in
theorem k_V_write_30 {p0 : St} {x3 : Int32} {x4 : Int32} {i0 : St} {i' : St} (X : sr_X D (tI t v) b_V_write 5 R_V w_V_write p s m args meth c A none) (Z : sr_Z D A s.heap (wI h t o v p0 i0) H locs) (hl : lv_has ls 5 [(0, .ref (o 1)), (3, .int x3), (4, .int x4)]) (hf : f_V_write_30 p0 x3 x4 i0 = some i') : W p l e (sr_rm 0 0) s m args below meth c H locs 0 0 (sr_Qv D (tI t v) below args s A (wI h t o v p0 i')) (F0 m 30 ls []) := by
  have hx := X.1
  have hb := X.2.1
  have hK := X.2.2.2.2.2.2.1
  unfold f_V_write_30 at hf
  refine lv_iload hx hb d_V_write_30 (lv_at hl 2 rfl) ?_
  refine lv_iconst (v := -1) hx hb d_V_write_32 (by decide) ?_
  refine lv_icmp_eq (tgt := 44) hx hb d_V_write_33 rfl (fun q_4 => ?_) (fun q_4 => ?_)
  · have hf := sr_it q_4 hf
    cases hf
    exact sr_retv X Z d_V_write_44
  · have hf := sr_if q_4 hf
    refine lv_aload_n hx hb d_V_write_36 rfl (lv_at hl 0 rfl) ?_
    refine g_V_15_I X Z d_V_write_37 ?_
    refine lv_iload hx hb d_V_write_40 (lv_at hl 2 rfl) ?_
    refine lv_iload_n hx hb d_V_write_42 rfl (lv_at hl 1 rfl) ?_
    obtain ⟨i_5, e_6, hf⟩ := sr_b hf
    refine sr_iast (wf := (fun q => (wI h t o v p0 q))) hx hb hK Z 25 19 rfl rfl e_6 (fun _ => rfl) d_V_write_43 (fun H locs Z => ?_)
    cases hf
    exact sr_retv X Z d_V_write_44
def f_V_write (p0 : St) (x1 : Int32) (x2 : Int32) (x3 : Int32) (i0 : St) : Option (St) :=
  (sr_ald 24 (p0 6) x1).bind fun v_1 =>
  if x2 < 0 then
    f_V_write_30 p0 x3 v_1 i0
  else
    if 4 ≤ x2 then
      f_V_write_30 p0 x3 v_1 i0
    else
      (sr_ast 4 i0 11 x2 x3).bind fun i_8 =>
      some i_8
set_option maxHeartbeats 4000000 in
set_option maxRecDepth 100000 in
theorem k_V_write_0 {p0 : St} {x1 : Int32} {x2 : Int32} {x3 : Int32} {i0 : St} {i' : St} (X : sr_X D (tI t v) b_V_write 5 R_V w_V_write p s m args meth c A none) (Z : sr_Z D A s.heap (wI h t o v p0 i0) H locs) (hl : lv_has ls 5 [(0, .ref (o 1)), (1, .int x1), (2, .int x2), (3, .int x3)]) (hf : f_V_write p0 x1 x2 x3 i0 = some i') : W p l e (sr_rm 0 0) s m args below meth c H locs 0 0 (sr_Qv D (tI t v) below args s A (wI h t o v p0 i')) (F0 m 0 ls []) := by
  have hx := X.1
  have hb := X.2.1
  have hK := X.2.2.2.2.2.2.1
  unfold f_V_write at hf
  refine lv_aload_n hx hb d_V_write_0 rfl (lv_at hl 0 rfl) ?_
  refine g_V_18_I X Z d_V_write_1 ?_
  refine g_V_22_I X Z d_V_write_4 ?_
  refine lv_iload_n hx hb d_V_write_7 rfl (lv_at hl 1 rfl) ?_
  obtain ⟨v_1, e_2, hf⟩ := sr_b hf
  refine sr_iald hx hb hK Z 7 6 rfl rfl e_2 d_V_write_8 ?_
  refine lv_istore (lv' := [(4, .int v_1), (0, .ref (o 1)), (1, .int x1), (2, .int x2), (3, .int x3)]) hx hb d_V_write_9 hl (by decide) rfl (fun ls hl => ?_)
  refine lv_iload_n hx hb d_V_write_11 rfl (lv_at hl 3 rfl) ?_
  refine lv_if_lt (tgt := 30) hx hb d_V_write_12 rfl (fun q_3 => ?_) (fun q_3 => ?_)
  · have hf := sr_it q_3 hf
    exact k_V_write_30 X Z (lv_sub hl [1, 4, 0] rfl) hf
  · have hf := sr_if q_3 hf
    refine lv_iload_n hx hb d_V_write_15 rfl (lv_at hl 3 rfl) ?_
    refine lv_iconst (v := 4) hx hb d_V_write_16 (by decide) ?_
    refine lv_icmp_ge (tgt := 30) hx hb d_V_write_17 rfl (fun q_7 => ?_) (fun q_7 => ?_)
    · have hf := sr_it q_7 hf
      exact k_V_write_30 X Z (lv_sub hl [1, 4, 0] rfl) hf
    · have hf := sr_if q_7 hf
      refine lv_aload_n hx hb d_V_write_20 rfl (lv_at hl 1 rfl) ?_
      refine g_V_9_I X Z d_V_write_21 ?_
      refine lv_iload_n hx hb d_V_write_24 rfl (lv_at hl 3 rfl) ?_
      refine lv_iload_n hx hb d_V_write_25 rfl (lv_at hl 4 rfl) ?_
      obtain ⟨i_8, e_9, hf⟩ := sr_b hf
      refine sr_iast (wf := (fun q => (wI h t o v p0 q))) hx hb hK Z 24 18 rfl rfl e_9 (fun _ => rfl) d_V_write_26 (fun H locs Z => ?_)
      refine lv_goto (tgt := 44) hx hb d_V_write_27 rfl ?_
      cases hf
      exact sr_retv X Z d_V_write_44
end
set_option maxHeartbeats 4000000 in
set_option maxRecDepth 100000 in
theorem c_V_write {l : Launch} {D : va_G} {h : Nat → Nat} {t : Nat → ClassId} {o : Nat → Nat} {v : Nat → ClassId} {sz : Nat} {p0 : St} {x1 : Int32} {x2 : Int32} {x3 : Int32} {i0 : St} {i' : St} (hf : f_V_write p0 x1 x2 x3 i0 = some i') : sr_Cv l y_V_write w_V_write (sr_rm 0 0) D (tI t v) (wI h t o v p0 i0) (wI h t o v p0 i') sz [.ref (o 1), .int x1, .int x2, .int x3] := by
  refine Met.ofW (cc := b_V_write) (maxL := 5) (ret := none) (by decide) rfl ?_
  intro p e s m args below meth c s₁ B hml hv
  obtain ⟨rfl, hsz, hP, hK, hD0⟩ := hv
  subst hsz
  have X : sr_X D (tI t v) b_V_write 5 R_V w_V_write p s m _ meth c (va_A (wI h t o v p0 i0) s.heap.size) none := ⟨B.exec, B.bytes, hml, findClass_of_methodNamed B.named, B.notSynchronized, atoms_spec (ws := w_V_write) B.pre, hK, fun q h => Or.inr h, B.returns⟩
  have Z : sr_Z D (va_A (wI h t o v p0 i0) s.heap.size) s.heap (wI h t o v p0 i0) s.heap [] := ⟨hP, hD0.self, va_S.rf⟩
  have hl := lv_entry ([.ref (o 1), .int x1, .int x2, .int x3] : List Value) (n := 5) (Nat.le_of_ble_eq_true rfl)
  rw [lg_entry_eq]
  exact k_V_write_0 X Z hl hf
/-! I_waitingReceive -/
theorem d_I_waitingReceive_0 : decode b_I_waitingReceive 0 = .ok (.iconst 0, 1) := by decide +kernel
theorem d_I_waitingReceive_1 : decode b_I_waitingReceive 1 = .ok (.istore_n 2, 1) := by decide +kernel
theorem d_I_waitingReceive_2 : decode b_I_waitingReceive 2 = .ok (.iload_n 2, 1) := by decide +kernel
theorem d_I_waitingReceive_3 : decode b_I_waitingReceive 3 = .ok (.aload_n 0, 1) := by decide +kernel
theorem d_I_waitingReceive_4 : decode b_I_waitingReceive 4 = .ok (.getfield 25, 3) := by decide +kernel
theorem d_I_waitingReceive_7 : decode b_I_waitingReceive 7 = .ok (.getfield 80, 3) := by decide +kernel
theorem d_I_waitingReceive_10 : decode b_I_waitingReceive 10 = .ok (.if_icmp .ge 47, 3) := by decide +kernel
theorem d_I_waitingReceive_13 : decode b_I_waitingReceive 13 = .ok (.aload_n 0, 1) := by decide +kernel
theorem d_I_waitingReceive_14 : decode b_I_waitingReceive 14 = .ok (.getfield 25, 3) := by decide +kernel
theorem d_I_waitingReceive_17 : decode b_I_waitingReceive 17 = .ok (.getfield 126, 3) := by decide +kernel
theorem d_I_waitingReceive_20 : decode b_I_waitingReceive 20 = .ok (.iload_n 2, 1) := by decide +kernel
theorem d_I_waitingReceive_21 : decode b_I_waitingReceive 21 = .ok (.iaload, 1) := by decide +kernel
theorem d_I_waitingReceive_22 : decode b_I_waitingReceive 22 = .ok (.iconst 5, 1) := by decide +kernel
theorem d_I_waitingReceive_23 : decode b_I_waitingReceive 23 = .ok (.if_icmp .ne 28, 3) := by decide +kernel
theorem d_I_waitingReceive_26 : decode b_I_waitingReceive 26 = .ok (.aload_n 0, 1) := by decide +kernel
theorem d_I_waitingReceive_27 : decode b_I_waitingReceive 27 = .ok (.getfield 25, 3) := by decide +kernel
theorem d_I_waitingReceive_30 : decode b_I_waitingReceive 30 = .ok (.getfield 141, 3) := by decide +kernel
theorem d_I_waitingReceive_33 : decode b_I_waitingReceive 33 = .ok (.iload_n 2, 1) := by decide +kernel
theorem d_I_waitingReceive_34 : decode b_I_waitingReceive 34 = .ok (.iaload, 1) := by decide +kernel
theorem d_I_waitingReceive_35 : decode b_I_waitingReceive 35 = .ok (.iload_n 1, 1) := by decide +kernel
theorem d_I_waitingReceive_36 : decode b_I_waitingReceive 36 = .ok (.if_icmp .ne 15, 3) := by decide +kernel
theorem d_I_waitingReceive_39 : decode b_I_waitingReceive 39 = .ok (.aload_n 0, 1) := by decide +kernel
theorem d_I_waitingReceive_40 : decode b_I_waitingReceive 40 = .ok (.getfield 9, 3) := by decide +kernel
theorem d_I_waitingReceive_43 : decode b_I_waitingReceive 43 = .ok (.iload_n 2, 1) := by decide +kernel
theorem d_I_waitingReceive_44 : decode b_I_waitingReceive 44 = .ok (.iaload, 1) := by decide +kernel
theorem d_I_waitingReceive_45 : decode b_I_waitingReceive 45 = .ok (.iconst 3, 1) := by decide +kernel
theorem d_I_waitingReceive_46 : decode b_I_waitingReceive 46 = .ok (.if_icmp .ne 5, 3) := by decide +kernel
theorem d_I_waitingReceive_49 : decode b_I_waitingReceive 49 = .ok (.iload_n 2, 1) := by decide +kernel
theorem d_I_waitingReceive_50 : decode b_I_waitingReceive 50 = .ok (.ireturn, 1) := by decide +kernel
theorem d_I_waitingReceive_51 : decode b_I_waitingReceive 51 = .ok (.iinc 2 1, 3) := by decide +kernel
theorem d_I_waitingReceive_54 : decode b_I_waitingReceive 54 = .ok (.goto (-52), 3) := by decide +kernel
theorem d_I_waitingReceive_57 : decode b_I_waitingReceive 57 = .ok (.iconst (-1), 1) := by decide +kernel
theorem d_I_waitingReceive_58 : decode b_I_waitingReceive 58 = .ok (.ireturn, 1) := by decide +kernel
section
variable {p : Program} {l : Launch} {e : Env} {s : State} {m : MethodId} {args : Array Value} {below : List Frame} {meth : Method} {c : Code} {H : Heap} {locs : List Loc} {ls : Array Slot} {D : va_G} {A : Nat → Prop} {h o : Nat → Nat} {t v : Nat → ClassId}
def f_I_waitingReceive_51 (k2 : Int32 → Int32 → Option (Int32)) (p0 : St) (i0 : St) (x1 : Int32) (x2 : Int32) : Option (Int32) :=
  k2 x1 (x2 + 1)
set_option maxHeartbeats 4000000 in
set_option maxRecDepth 100000 in
theorem k_I_waitingReceive_51 {k2 : Int32 → Int32 → Option (Int32)} {p0 : St} {i0 : St} {x1 : Int32} {x2 : Int32} {r : Int32} (X : sr_X D (tI t v) b_I_waitingReceive 3 R_I w_I_waitingReceive p s m args meth c A (some .int)) (hk2 : ∀ (x1 : Int32) (x2 : Int32) (H : Heap) (locs : List Loc) (ls : Array Slot), sr_Z D A s.heap (wI h t o v p0 i0) H locs → lv_has ls 3 [(0, .ref (o 0)), (1, .int x1), (2, .int x2)] → k2 x1 x2 = some r → W p l e (sr_rm 0 0) s m args below meth c H locs 0 0 (sr_Qi D (tI t v) below args s A (wI h t o v p0 i0) r) (F0 m 2 ls [])) (Z : sr_Z D A s.heap (wI h t o v p0 i0) H locs) (hl : lv_has ls 3 [(0, .ref (o 0)), (1, .int x1), (2, .int x2)]) (hf : f_I_waitingReceive_51 k2 p0 i0 x1 x2 = some r) : W p l e (sr_rm 0 0) s m args below meth c H locs 0 0 (sr_Qi D (tI t v) below args s A (wI h t o v p0 i0) r) (F0 m 51 ls []) := by
  have hx := X.1
  have hb := X.2.1
  have hK := X.2.2.2.2.2.2.1
  unfold f_I_waitingReceive_51 at hf
  refine lv_iinc (k := 2) (v := x2 + 1) (lv' := [(2, .int (x2 + 1)), (0, .ref (o 0)), (1, .int x1)]) hx hb d_I_waitingReceive_51 hl rfl rfl (by decide) rfl (fun ls hl => ?_)
  refine lv_goto (tgt := 2) hx hb d_I_waitingReceive_54 rfl ?_
  exact hk2 x1 (x2 + 1) _ _ _ Z (lv_sub hl [1, 2, 0] rfl) hf
def f_I_waitingReceive_2 (k2 : Int32 → Int32 → Option (Int32)) (p0 : St) (i0 : St) (x1 : Int32) (x2 : Int32) : Option (Int32) :=
  if (p0 10 0) ≤ x2 then
    some (-1)
  else
    (sr_ald 24 (p0 2) x2).bind fun v_2 =>
    if v_2 = 5 then
      (sr_ald 24 (p0 3) x2).bind fun v_5 =>
      if v_5 = x1 then
        (sr_ald 24 (i0 4) x2).bind fun v_8 =>
        if v_8 = 3 then
          some x2
        else
          f_I_waitingReceive_51 k2 p0 i0 x1 x2
      else
        f_I_waitingReceive_51 k2 p0 i0 x1 x2
    else
      f_I_waitingReceive_51 k2 p0 i0 x1 x2
set_option maxHeartbeats 4000000 in
set_option maxRecDepth 100000 in
theorem k_I_waitingReceive_2 {k2 : Int32 → Int32 → Option (Int32)} {p0 : St} {i0 : St} {x1 : Int32} {x2 : Int32} {r : Int32} (X : sr_X D (tI t v) b_I_waitingReceive 3 R_I w_I_waitingReceive p s m args meth c A (some .int)) (hk2 : ∀ (x1 : Int32) (x2 : Int32) (H : Heap) (locs : List Loc) (ls : Array Slot), sr_Z D A s.heap (wI h t o v p0 i0) H locs → lv_has ls 3 [(0, .ref (o 0)), (1, .int x1), (2, .int x2)] → k2 x1 x2 = some r → W p l e (sr_rm 0 0) s m args below meth c H locs 0 0 (sr_Qi D (tI t v) below args s A (wI h t o v p0 i0) r) (F0 m 2 ls [])) (Z : sr_Z D A s.heap (wI h t o v p0 i0) H locs) (hl : lv_has ls 3 [(0, .ref (o 0)), (1, .int x1), (2, .int x2)]) (hf : f_I_waitingReceive_2 k2 p0 i0 x1 x2 = some r) : W p l e (sr_rm 0 0) s m args below meth c H locs 0 0 (sr_Qi D (tI t v) below args s A (wI h t o v p0 i0) r) (F0 m 2 ls []) := by
  have hx := X.1
  have hb := X.2.1
  have hK := X.2.2.2.2.2.2.1
  unfold f_I_waitingReceive_2 at hf
  refine lv_iload_n hx hb d_I_waitingReceive_2 rfl (lv_at hl 2 rfl) ?_
  refine lv_aload_n hx hb d_I_waitingReceive_3 rfl (lv_at hl 0 rfl) ?_
  refine g_I_25_I X Z d_I_waitingReceive_4 ?_
  refine g_I_80_I X Z d_I_waitingReceive_7 ?_
  refine lv_icmp_ge (tgt := 57) hx hb d_I_waitingReceive_10 rfl (fun q_1 => ?_) (fun q_1 => ?_)
  · have hf := sr_it q_1 hf
    refine lv_iconst (v := -1) hx hb d_I_waitingReceive_57 (by decide) ?_
    cases hf
    exact sr_reti X Z d_I_waitingReceive_58
  · have hf := sr_if q_1 hf
    refine lv_aload_n hx hb d_I_waitingReceive_13 rfl (lv_at hl 0 rfl) ?_
    refine g_I_25_I X Z d_I_waitingReceive_14 ?_
    refine g_I_126_I X Z d_I_waitingReceive_17 ?_
    refine lv_iload_n hx hb d_I_waitingReceive_20 rfl (lv_at hl 2 rfl) ?_
    obtain ⟨v_2, e_3, hf⟩ := sr_b hf
    refine sr_iald hx hb hK Z 3 2 rfl rfl e_3 d_I_waitingReceive_21 ?_
    refine lv_iconst (v := 5) hx hb d_I_waitingReceive_22 (by decide) ?_
    refine lv_icmp_ne (tgt := 51) hx hb d_I_waitingReceive_23 rfl (fun q_4 => ?_) (fun q_4 => ?_)
    · have hf := sr_if q_4 hf
      exact k_I_waitingReceive_51 X hk2 Z (lv_sub hl [0, 1, 2] rfl) hf
    · have hf := sr_it q_4 hf
      refine lv_aload_n hx hb d_I_waitingReceive_26 rfl (lv_at hl 0 rfl) ?_
      refine g_I_25_I X Z d_I_waitingReceive_27 ?_
      refine g_I_141_I X Z d_I_waitingReceive_30 ?_
      refine lv_iload_n hx hb d_I_waitingReceive_33 rfl (lv_at hl 2 rfl) ?_
      obtain ⟨v_5, e_6, hf⟩ := sr_b hf
      refine sr_iald hx hb hK Z 4 3 rfl rfl e_6 d_I_waitingReceive_34 ?_
      refine lv_iload_n hx hb d_I_waitingReceive_35 rfl (lv_at hl 1 rfl) ?_
      refine lv_icmp_ne (tgt := 51) hx hb d_I_waitingReceive_36 rfl (fun q_7 => ?_) (fun q_7 => ?_)
      · have hf := sr_if q_7 hf
        exact k_I_waitingReceive_51 X hk2 Z (lv_sub hl [0, 1, 2] rfl) hf
      · have hf := sr_it q_7 hf
        refine lv_aload_n hx hb d_I_waitingReceive_39 rfl (lv_at hl 0 rfl) ?_
        refine g_I_9_I X Z d_I_waitingReceive_40 ?_
        refine lv_iload_n hx hb d_I_waitingReceive_43 rfl (lv_at hl 2 rfl) ?_
        obtain ⟨v_8, e_9, hf⟩ := sr_b hf
        refine sr_iald hx hb hK Z 20 14 rfl rfl e_9 d_I_waitingReceive_44 ?_
        refine lv_iconst (v := 3) hx hb d_I_waitingReceive_45 (by decide) ?_
        refine lv_icmp_ne (tgt := 51) hx hb d_I_waitingReceive_46 rfl (fun q_10 => ?_) (fun q_10 => ?_)
        · have hf := sr_if q_10 hf
          exact k_I_waitingReceive_51 X hk2 Z (lv_sub hl [0, 1, 2] rfl) hf
        · have hf := sr_it q_10 hf
          refine lv_iload_n hx hb d_I_waitingReceive_49 rfl (lv_at hl 2 rfl) ?_
          cases hf
          exact sr_reti X Z d_I_waitingReceive_50
def f_I_waitingReceive_2_it (p0 : St) (i0 : St) : Nat → Int32 → Int32 → Option (Int32)
  | 0 => fun _ _ => none
  | n + 1 => fun x1 x2 => f_I_waitingReceive_2 (f_I_waitingReceive_2_it p0 i0 n) p0 i0 x1 x2
set_option maxHeartbeats 4000000 in
set_option maxRecDepth 100000 in
theorem k_I_waitingReceive_2_it {p0 : St} {i0 : St} {r : Int32} (X : sr_X D (tI t v) b_I_waitingReceive 3 R_I w_I_waitingReceive p s m args meth c A (some .int)) (n : Nat) : ∀ {x1 : Int32} {x2 : Int32} {H : Heap} {locs : List Loc} {ls : Array Slot}, sr_Z D A s.heap (wI h t o v p0 i0) H locs → lv_has ls 3 [(0, .ref (o 0)), (1, .int x1), (2, .int x2)] → f_I_waitingReceive_2_it p0 i0 n x1 x2 = some r → W p l e (sr_rm 0 0) s m args below meth c H locs 0 0 (sr_Qi D (tI t v) below args s A (wI h t o v p0 i0) r) (F0 m 2 ls []) := by
  induction n with
  | zero => intro x1 x2 H locs ls Z hl hf; exact absurd hf (by simp [f_I_waitingReceive_2_it])
  | succ n ih =>
    intro x1 x2 H locs ls Z hl hf
    exact k_I_waitingReceive_2 X (fun x1 x2 H locs ls Z hl hf => ih Z hl hf) Z hl hf
def f_I_waitingReceive (p0 : St) (i0 : St) (x1 : Int32) : Option (Int32) :=
  f_I_waitingReceive_2_it p0 i0 60 x1 0
set_option maxHeartbeats 4000000 in
set_option maxRecDepth 100000 in
theorem k_I_waitingReceive_0 {p0 : St} {i0 : St} {x1 : Int32} {r : Int32} (X : sr_X D (tI t v) b_I_waitingReceive 3 R_I w_I_waitingReceive p s m args meth c A (some .int)) (Z : sr_Z D A s.heap (wI h t o v p0 i0) H locs) (hl : lv_has ls 3 [(0, .ref (o 0)), (1, .int x1)]) (hf : f_I_waitingReceive p0 i0 x1 = some r) : W p l e (sr_rm 0 0) s m args below meth c H locs 0 0 (sr_Qi D (tI t v) below args s A (wI h t o v p0 i0) r) (F0 m 0 ls []) := by
  have hx := X.1
  have hb := X.2.1
  have hK := X.2.2.2.2.2.2.1
  unfold f_I_waitingReceive at hf
  refine lv_iconst (v := 0) hx hb d_I_waitingReceive_0 (by decide) ?_
  refine lv_istore_n (lv' := [(2, .int 0), (0, .ref (o 0)), (1, .int x1)]) hx hb d_I_waitingReceive_1 rfl hl (by decide) rfl (fun ls hl => ?_)
  exact k_I_waitingReceive_2_it X _ Z (lv_sub hl [1, 2, 0] rfl) hf
end
set_option maxHeartbeats 4000000 in
set_option maxRecDepth 100000 in
theorem c_I_waitingReceive {l : Launch} {D : va_G} {h : Nat → Nat} {t : Nat → ClassId} {o : Nat → Nat} {v : Nat → ClassId} {sz : Nat} {p0 : St} {i0 : St} {x1 : Int32} {r : Int32} (hf : f_I_waitingReceive p0 i0 x1 = some r) : sr_Ci l y_I_waitingReceive w_I_waitingReceive (sr_rm 0 0) D (tI t v) (wI h t o v p0 i0) (wI h t o v p0 i0) sz [.ref (o 0), .int x1] r := by
  refine Met.ofW (cc := b_I_waitingReceive) (maxL := 3) (ret := (some .int)) (by decide) rfl ?_
  intro p e s m args below meth c s₁ B hml hv
  obtain ⟨rfl, hsz, hP, hK, hD0⟩ := hv
  subst hsz
  have X : sr_X D (tI t v) b_I_waitingReceive 3 R_I w_I_waitingReceive p s m _ meth c (va_A (wI h t o v p0 i0) s.heap.size) (some .int) := ⟨B.exec, B.bytes, hml, findClass_of_methodNamed B.named, B.notSynchronized, atoms_spec (ws := w_I_waitingReceive) B.pre, hK, fun q h => Or.inr h, B.returns⟩
  have Z : sr_Z D (va_A (wI h t o v p0 i0) s.heap.size) s.heap (wI h t o v p0 i0) s.heap [] := ⟨hP, hD0.self, va_S.rf⟩
  have hl := lv_entry ([.ref (o 0), .int x1] : List Value) (n := 3) (Nat.le_of_ble_eq_true rfl)
  rw [lg_entry_eq]
  exact k_I_waitingReceive_0 X Z hl hf
/-! I_beginReceive -/
theorem d_I_beginReceive_0 : decode b_I_beginReceive 0 = .ok (.iload_n 1, 1) := by decide +kernel
theorem d_I_beginReceive_1 : decode b_I_beginReceive 1 = .ok (.aload_n 0, 1) := by decide +kernel
theorem d_I_beginReceive_2 : decode b_I_beginReceive 2 = .ok (.getfield 35, 3) := by decide +kernel
theorem d_I_beginReceive_5 : decode b_I_beginReceive 5 = .ok (.if_icmp .ne 32, 3) := by decide +kernel
theorem d_I_beginReceive_8 : decode b_I_beginReceive 8 = .ok (.aload_n 0, 1) := by decide +kernel
theorem d_I_beginReceive_9 : decode b_I_beginReceive 9 = .ok (.getfield 50, 3) := by decide +kernel
theorem d_I_beginReceive_12 : decode b_I_beginReceive 12 = .ok (.iload_n 1, 1) := by decide +kernel
theorem d_I_beginReceive_13 : decode b_I_beginReceive 13 = .ok (.aload_n 0, 1) := by decide +kernel
theorem d_I_beginReceive_14 : decode b_I_beginReceive 14 = .ok (.getfield 25, 3) := by decide +kernel
theorem d_I_beginReceive_17 : decode b_I_beginReceive 17 = .ok (.getfield 116, 3) := by decide +kernel
theorem d_I_beginReceive_20 : decode b_I_beginReceive 20 = .ok (.iload_n 1, 1) := by decide +kernel
theorem d_I_beginReceive_21 : decode b_I_beginReceive 21 = .ok (.iaload, 1) := by decide +kernel
theorem d_I_beginReceive_22 : decode b_I_beginReceive 22 = .ok (.aload_n 0, 1) := by decide +kernel
theorem d_I_beginReceive_23 : decode b_I_beginReceive 23 = .ok (.getfield 42, 3) := by decide +kernel
theorem d_I_beginReceive_26 : decode b_I_beginReceive 26 = .ok (.invokevirtual 119, 3) := by decide +kernel
theorem d_I_beginReceive_29 : decode b_I_beginReceive 29 = .ok (.aload_n 0, 1) := by decide +kernel
theorem d_I_beginReceive_30 : decode b_I_beginReceive 30 = .ok (.iload_n 1, 1) := by decide +kernel
theorem d_I_beginReceive_31 : decode b_I_beginReceive 31 = .ok (.invokevirtual 123, 3) := by decide +kernel
theorem d_I_beginReceive_34 : decode b_I_beginReceive 34 = .ok (.goto 37, 3) := by decide +kernel
theorem d_I_beginReceive_37 : decode b_I_beginReceive 37 = .ok (.aload_n 0, 1) := by decide +kernel
theorem d_I_beginReceive_38 : decode b_I_beginReceive 38 = .ok (.aload_n 0, 1) := by decide +kernel
theorem d_I_beginReceive_39 : decode b_I_beginReceive 39 = .ok (.getfield 25, 3) := by decide +kernel
theorem d_I_beginReceive_42 : decode b_I_beginReceive 42 = .ok (.getfield 141, 3) := by decide +kernel
theorem d_I_beginReceive_45 : decode b_I_beginReceive 45 = .ok (.iload_n 1, 1) := by decide +kernel
theorem d_I_beginReceive_46 : decode b_I_beginReceive 46 = .ok (.iaload, 1) := by decide +kernel
theorem d_I_beginReceive_47 : decode b_I_beginReceive 47 = .ok (.invokevirtual 112, 3) := by decide +kernel
theorem d_I_beginReceive_50 : decode b_I_beginReceive 50 = .ok (.iconst (-1), 1) := by decide +kernel
theorem d_I_beginReceive_51 : decode b_I_beginReceive 51 = .ok (.if_icmp .eq 13, 3) := by decide +kernel
theorem d_I_beginReceive_54 : decode b_I_beginReceive 54 = .ok (.aload_n 0, 1) := by decide +kernel
theorem d_I_beginReceive_55 : decode b_I_beginReceive 55 = .ok (.iload_n 1, 1) := by decide +kernel
theorem d_I_beginReceive_56 : decode b_I_beginReceive 56 = .ok (.bipush 101, 2) := by decide +kernel
theorem d_I_beginReceive_58 : decode b_I_beginReceive 58 = .ok (.invokevirtual 131, 3) := by decide +kernel
theorem d_I_beginReceive_61 : decode b_I_beginReceive 61 = .ok (.goto 10, 3) := by decide +kernel
theorem d_I_beginReceive_64 : decode b_I_beginReceive 64 = .ok (.aload_n 0, 1) := by decide +kernel
theorem d_I_beginReceive_65 : decode b_I_beginReceive 65 = .ok (.getfield 9, 3) := by decide +kernel
theorem d_I_beginReceive_68 : decode b_I_beginReceive 68 = .ok (.iload_n 1, 1) := by decide +kernel
theorem d_I_beginReceive_69 : decode b_I_beginReceive 69 = .ok (.iconst 3, 1) := by decide +kernel
theorem d_I_beginReceive_70 : decode b_I_beginReceive 70 = .ok (.iastore, 1) := by decide +kernel
theorem d_I_beginReceive_71 : decode b_I_beginReceive 71 = .ok (.return_, 1) := by decide +kernel
section
variable {p : Program} {l : Launch} {e : Env} {s : State} {m : MethodId} {args : Array Value} {below : List Frame} {meth : Method} {c : Code} {H : Heap} {locs : List Loc} {ls : Array Slot} {D : va_G} {A : Nat → Prop} {h o : Nat → Nat} {t v : Nat → ClassId}
def f_I_beginReceive (p0 : St) (x1 : Int32) (i0 : St) : Option (St) :=
  if x1 = (i0 0 0) then
    (sr_ald 24 (p0 4) x1).bind fun v_11 =>
    (f_V_write p0 x1 v_11 (i0 2 0) i0).bind fun i_13 =>
    (f_I_completes p0 x1 i_13).bind fun i_15 =>
    some i_15
  else
    (sr_ald 24 (p0 3) x1).bind fun v_2 =>
    (f_I_waitingReceive p0 i0 v_2).bind fun v_4 =>
    if v_4 = (-1) then
      (sr_ast 24 i0 4 x1 3).bind fun i_7 =>
      some i_7
    else
      (f_I_faults p0 x1 101 i0).bind fun i_9 =>
      some i_9
set_option maxHeartbeats 4000000 in
set_option maxRecDepth 100000 in
theorem k_I_beginReceive_0 {p0 : St} {x1 : Int32} {i0 : St} {i' : St} (X : sr_X D (tI t v) b_I_beginReceive 2 R_I w_I_beginReceive p s m args meth c A none) (Z : sr_Z D A s.heap (wI h t o v p0 i0) H locs) (hl : lv_has ls 2 [(0, .ref (o 0)), (1, .int x1)]) (hf : f_I_beginReceive p0 x1 i0 = some i') : W p l e (sr_rm 1 24) s m args below meth c H locs 0 0 (sr_Qv D (tI t v) below args s A (wI h t o v p0 i')) (F0 m 0 ls []) := by
  have hx := X.1
  have hb := X.2.1
  have hK := X.2.2.2.2.2.2.1
  unfold f_I_beginReceive at hf
  refine lv_iload_n hx hb d_I_beginReceive_0 rfl (lv_at hl 1 rfl) ?_
  refine lv_aload_n hx hb d_I_beginReceive_1 rfl (lv_at hl 0 rfl) ?_
  refine g_I_35_I X Z d_I_beginReceive_2 ?_
  refine lv_icmp_ne (tgt := 37) hx hb d_I_beginReceive_5 rfl (fun q_1 => ?_) (fun q_1 => ?_)
  · have hf := sr_if q_1 hf
    refine lv_aload_n hx hb d_I_beginReceive_37 rfl (lv_at hl 0 rfl) ?_
    refine lv_aload_n hx hb d_I_beginReceive_38 rfl (lv_at hl 0 rfl) ?_
    refine g_I_25_I X Z d_I_beginReceive_39 ?_
    refine g_I_141_I X Z d_I_beginReceive_42 ?_
    refine lv_iload_n hx hb d_I_beginReceive_45 rfl (lv_at hl 1 rfl) ?_
    obtain ⟨v_2, e_3, hf⟩ := sr_b hf
    refine sr_iald hx hb hK Z 4 3 rfl rfl e_3 d_I_beginReceive_46 ?_
    obtain ⟨v_4, e_5, hf⟩ := sr_b hf
    refine sr_cVi (As := [.int v_2]) (rest := []) X Z sr_cut_self hK (c_I_waitingReceive e_5) (cw_I_112 X.2.2.2.2.2.1 (by decide)) 15 rfl rfl rfl hl rfl (Nat.le_of_ble_eq_true rfl) d_I_beginReceive_47 (fun H locs Z => ?_)
    refine lv_iconst (v := -1) hx hb d_I_beginReceive_50 (by decide) ?_
    refine lv_icmp_eq (tgt := 64) hx hb d_I_beginReceive_51 rfl (fun q_6 => ?_) (fun q_6 => ?_)
    · have hf := sr_it q_6 hf
      refine lv_aload_n hx hb d_I_beginReceive_64 rfl (lv_at hl 0 rfl) ?_
      refine g_I_9_I X Z d_I_beginReceive_65 ?_
      refine lv_iload_n hx hb d_I_beginReceive_68 rfl (lv_at hl 1 rfl) ?_
      refine lv_iconst (v := 3) hx hb d_I_beginReceive_69 (by decide) ?_
      obtain ⟨i_7, e_8, hf⟩ := sr_b hf
      refine sr_iast (wf := (fun q => (wI h t o v p0 q))) hx hb hK Z 20 14 rfl rfl e_8 (fun _ => rfl) d_I_beginReceive_70 (fun H locs Z => ?_)
      cases hf
      exact sr_retv X Z d_I_beginReceive_71
    · have hf := sr_if q_6 hf
      refine lv_aload_n hx hb d_I_beginReceive_54 rfl (lv_at hl 0 rfl) ?_
      refine lv_iload_n hx hb d_I_beginReceive_55 rfl (lv_at hl 1 rfl) ?_
      refine lv_bipush (v := 101) hx hb d_I_beginReceive_56 (by decide) ?_
      obtain ⟨i_9, e_10, hf⟩ := sr_b hf
      refine sr_cVv (As := [.int x1, .int 101]) (rest := []) X Z sr_cut_self hK (c_I_faults e_10) (cw_I_131 X.2.2.2.2.2.1 (by decide)) 15 rfl rfl rfl hl rfl (Nat.le_of_ble_eq_true rfl) d_I_beginReceive_58 (fun H locs Z => ?_)
      refine lv_goto (tgt := 71) hx hb d_I_beginReceive_61 rfl ?_
      cases hf
      exact sr_retv X Z d_I_beginReceive_71
  · have hf := sr_it q_1 hf
    refine lv_aload_n hx hb d_I_beginReceive_8 rfl (lv_at hl 0 rfl) ?_
    refine g_I_50_I X Z d_I_beginReceive_9 ?_
    refine lv_iload_n hx hb d_I_beginReceive_12 rfl (lv_at hl 1 rfl) ?_
    refine lv_aload_n hx hb d_I_beginReceive_13 rfl (lv_at hl 0 rfl) ?_
    refine g_I_25_I X Z d_I_beginReceive_14 ?_
    refine g_I_116_I X Z d_I_beginReceive_17 ?_
    refine lv_iload_n hx hb d_I_beginReceive_20 rfl (lv_at hl 1 rfl) ?_
    obtain ⟨v_11, e_12, hf⟩ := sr_b hf
    refine sr_iald hx hb hK Z 5 4 rfl rfl e_12 d_I_beginReceive_21 ?_
    refine lv_aload_n hx hb d_I_beginReceive_22 rfl (lv_at hl 0 rfl) ?_
    refine g_I_42_I X Z d_I_beginReceive_23 ?_
    obtain ⟨i_13, e_14, hf⟩ := sr_b hf
    refine sr_cVv (As := [.int x1, .int v_11, .int (i0 2 0)]) (rest := []) X Z sr_cut_self hK (c_V_write e_14) (cw_I_119 X.2.2.2.2.2.1 (by decide)) 16 rfl rfl rfl hl rfl (Nat.le_of_ble_eq_true rfl) d_I_beginReceive_26 (fun H locs Z => ?_)
    refine lv_aload_n hx hb d_I_beginReceive_29 rfl (lv_at hl 0 rfl) ?_
    refine lv_iload_n hx hb d_I_beginReceive_30 rfl (lv_at hl 1 rfl) ?_
    obtain ⟨i_15, e_16, hf⟩ := sr_b hf
    refine sr_cVv (As := [.int x1]) (rest := []) X Z sr_cut_self hK (c_I_completes e_16) (cw_I_123 X.2.2.2.2.2.1 (by decide)) 15 rfl rfl rfl hl rfl (Nat.le_of_ble_eq_true rfl) d_I_beginReceive_31 (fun H locs Z => ?_)
    refine lv_goto (tgt := 71) hx hb d_I_beginReceive_34 rfl ?_
    cases hf
    exact sr_retv X Z d_I_beginReceive_71
end
set_option maxHeartbeats 4000000 in
set_option maxRecDepth 100000 in
theorem c_I_beginReceive {l : Launch} {D : va_G} {h : Nat → Nat} {t : Nat → ClassId} {o : Nat → Nat} {v : Nat → ClassId} {sz : Nat} {p0 : St} {x1 : Int32} {i0 : St} {i' : St} (hf : f_I_beginReceive p0 x1 i0 = some i') : sr_Cv l y_I_beginReceive w_I_beginReceive (sr_rm 1 24) D (tI t v) (wI h t o v p0 i0) (wI h t o v p0 i') sz [.ref (o 0), .int x1] := by
  refine Met.ofW (cc := b_I_beginReceive) (maxL := 2) (ret := none) (by decide) rfl ?_
  intro p e s m args below meth c s₁ B hml hv
  obtain ⟨rfl, hsz, hP, hK, hD0⟩ := hv
  subst hsz
  have X : sr_X D (tI t v) b_I_beginReceive 2 R_I w_I_beginReceive p s m _ meth c (va_A (wI h t o v p0 i0) s.heap.size) none := ⟨B.exec, B.bytes, hml, findClass_of_methodNamed B.named, B.notSynchronized, atoms_spec (ws := w_I_beginReceive) B.pre, hK, fun q h => Or.inr h, B.returns⟩
  have Z : sr_Z D (va_A (wI h t o v p0 i0) s.heap.size) s.heap (wI h t o v p0 i0) s.heap [] := ⟨hP, hD0.self, va_S.rf⟩
  have hl := lv_entry ([.ref (o 0), .int x1] : List Value) (n := 2) (Nat.le_of_ble_eq_true rfl)
  rw [lg_entry_eq]
  exact k_I_beginReceive_0 X Z hl hf
/-! I_beginFlow -/
theorem d_I_beginFlow_0 : decode b_I_beginFlow 0 = .ok (.aload_n 0, 1) := by decide +kernel
theorem d_I_beginFlow_1 : decode b_I_beginFlow 1 = .ok (.getfield 9, 3) := by decide +kernel
theorem d_I_beginFlow_4 : decode b_I_beginFlow 4 = .ok (.iload_n 1, 1) := by decide +kernel
theorem d_I_beginFlow_5 : decode b_I_beginFlow 5 = .ok (.iconst 2, 1) := by decide +kernel
theorem d_I_beginFlow_6 : decode b_I_beginFlow 6 = .ok (.iastore, 1) := by decide +kernel
theorem d_I_beginFlow_7 : decode b_I_beginFlow 7 = .ok (.iload_n 1, 1) := by decide +kernel
theorem d_I_beginFlow_8 : decode b_I_beginFlow 8 = .ok (.iconst 1, 1) := by decide +kernel
theorem d_I_beginFlow_9 : decode b_I_beginFlow 9 = .ok (.iadd, 1) := by decide +kernel
theorem d_I_beginFlow_10 : decode b_I_beginFlow 10 = .ok (.istore_n 2, 1) := by decide +kernel
theorem d_I_beginFlow_11 : decode b_I_beginFlow 11 = .ok (.iload_n 2, 1) := by decide +kernel
theorem d_I_beginFlow_12 : decode b_I_beginFlow 12 = .ok (.aload_n 0, 1) := by decide +kernel
theorem d_I_beginFlow_13 : decode b_I_beginFlow 13 = .ok (.getfield 25, 3) := by decide +kernel
theorem d_I_beginFlow_16 : decode b_I_beginFlow 16 = .ok (.getfield 80, 3) := by decide +kernel
theorem d_I_beginFlow_19 : decode b_I_beginFlow 19 = .ok (.if_icmp .ge 29, 3) := by decide +kernel
theorem d_I_beginFlow_22 : decode b_I_beginFlow 22 = .ok (.aload_n 0, 1) := by decide +kernel
theorem d_I_beginFlow_23 : decode b_I_beginFlow 23 = .ok (.getfield 25, 3) := by decide +kernel
theorem d_I_beginFlow_26 : decode b_I_beginFlow 26 = .ok (.getfield 210, 3) := by decide +kernel
theorem d_I_beginFlow_29 : decode b_I_beginFlow 29 = .ok (.iload_n 2, 1) := by decide +kernel
theorem d_I_beginFlow_30 : decode b_I_beginFlow 30 = .ok (.iaload, 1) := by decide +kernel
theorem d_I_beginFlow_31 : decode b_I_beginFlow 31 = .ok (.iload_n 1, 1) := by decide +kernel
theorem d_I_beginFlow_32 : decode b_I_beginFlow 32 = .ok (.if_icmp .ne 10, 3) := by decide +kernel
theorem d_I_beginFlow_35 : decode b_I_beginFlow 35 = .ok (.aload_n 0, 1) := by decide +kernel
theorem d_I_beginFlow_36 : decode b_I_beginFlow 36 = .ok (.getfield 9, 3) := by decide +kernel
theorem d_I_beginFlow_39 : decode b_I_beginFlow 39 = .ok (.iload_n 2, 1) := by decide +kernel
theorem d_I_beginFlow_40 : decode b_I_beginFlow 40 = .ok (.iconst 1, 1) := by decide +kernel
theorem d_I_beginFlow_41 : decode b_I_beginFlow 41 = .ok (.iastore, 1) := by decide +kernel
theorem d_I_beginFlow_42 : decode b_I_beginFlow 42 = .ok (.iinc 2 1, 3) := by decide +kernel
theorem d_I_beginFlow_45 : decode b_I_beginFlow 45 = .ok (.goto (-34), 3) := by decide +kernel
theorem d_I_beginFlow_48 : decode b_I_beginFlow 48 = .ok (.return_, 1) := by decide +kernel
section
variable {p : Program} {l : Launch} {e : Env} {s : State} {m : MethodId} {args : Array Value} {below : List Frame} {meth : Method} {c : Code} {H : Heap} {locs : List Loc} {ls : Array Slot} {D : va_G} {A : Nat → Prop} {h o : Nat → Nat} {t v : Nat → ClassId}
def f_I_beginFlow_42 (k11 : Int32 → Int32 → St → Option (St)) (p0 : St) (x1 : Int32) (x2 : Int32) (i0 : St) : Option (St) :=
  k11 x1 (x2 + 1) i0
set_option maxHeartbeats 4000000 in
set_option maxRecDepth 100000 in
theorem k_I_beginFlow_42 {k11 : Int32 → Int32 → St → Option (St)} {p0 : St} {x1 : Int32} {x2 : Int32} {i0 : St} {i' : St} (X : sr_X D (tI t v) b_I_beginFlow 3 R_I w_I_beginFlow p s m args meth c A none) (hk11 : ∀ (x1 : Int32) (x2 : Int32) (i0 : St) (H : Heap) (locs : List Loc) (ls : Array Slot), sr_Z D A s.heap (wI h t o v p0 i0) H locs → lv_has ls 3 [(0, .ref (o 0)), (1, .int x1), (2, .int x2)] → k11 x1 x2 i0 = some i' → W p l e (sr_rm 0 0) s m args below meth c H locs 0 0 (sr_Qv D (tI t v) below args s A (wI h t o v p0 i')) (F0 m 11 ls [])) (Z : sr_Z D A s.heap (wI h t o v p0 i0) H locs) (hl : lv_has ls 3 [(0, .ref (o 0)), (1, .int x1), (2, .int x2)]) (hf : f_I_beginFlow_42 k11 p0 x1 x2 i0 = some i') : W p l e (sr_rm 0 0) s m args below meth c H locs 0 0 (sr_Qv D (tI t v) below args s A (wI h t o v p0 i')) (F0 m 42 ls []) := by
  have hx := X.1
  have hb := X.2.1
  have hK := X.2.2.2.2.2.2.1
  unfold f_I_beginFlow_42 at hf
  refine lv_iinc (k := 2) (v := x2 + 1) (lv' := [(2, .int (x2 + 1)), (0, .ref (o 0)), (1, .int x1)]) hx hb d_I_beginFlow_42 hl rfl rfl (by decide) rfl (fun ls hl => ?_)
  refine lv_goto (tgt := 11) hx hb d_I_beginFlow_45 rfl ?_
  exact hk11 x1 (x2 + 1) i0 _ _ _ Z (lv_sub hl [1, 2, 0] rfl) hf
def f_I_beginFlow_11 (k11 : Int32 → Int32 → St → Option (St)) (p0 : St) (x1 : Int32) (x2 : Int32) (i0 : St) : Option (St) :=
  if (p0 10 0) ≤ x2 then
    some i0
  else
    (sr_ald 24 (p0 0) x2).bind fun v_4 =>
    if v_4 = x1 then
      (sr_ast 24 i0 4 x2 1).bind fun i_7 =>
      f_I_beginFlow_42 k11 p0 x1 x2 i_7
    else
      f_I_beginFlow_42 k11 p0 x1 x2 i0
set_option maxHeartbeats 4000000 in
set_option maxRecDepth 100000 in
theorem k_I_beginFlow_11 {k11 : Int32 → Int32 → St → Option (St)} {p0 : St} {x1 : Int32} {x2 : Int32} {i0 : St} {i' : St} (X : sr_X D (tI t v) b_I_beginFlow 3 R_I w_I_beginFlow p s m args meth c A none) (hk11 : ∀ (x1 : Int32) (x2 : Int32) (i0 : St) (H : Heap) (locs : List Loc) (ls : Array Slot), sr_Z D A s.heap (wI h t o v p0 i0) H locs → lv_has ls 3 [(0, .ref (o 0)), (1, .int x1), (2, .int x2)] → k11 x1 x2 i0 = some i' → W p l e (sr_rm 0 0) s m args below meth c H locs 0 0 (sr_Qv D (tI t v) below args s A (wI h t o v p0 i')) (F0 m 11 ls [])) (Z : sr_Z D A s.heap (wI h t o v p0 i0) H locs) (hl : lv_has ls 3 [(0, .ref (o 0)), (1, .int x1), (2, .int x2)]) (hf : f_I_beginFlow_11 k11 p0 x1 x2 i0 = some i') : W p l e (sr_rm 0 0) s m args below meth c H locs 0 0 (sr_Qv D (tI t v) below args s A (wI h t o v p0 i')) (F0 m 11 ls []) := by
  have hx := X.1
  have hb := X.2.1
  have hK := X.2.2.2.2.2.2.1
  unfold f_I_beginFlow_11 at hf
  refine lv_iload_n hx hb d_I_beginFlow_11 rfl (lv_at hl 2 rfl) ?_
  refine lv_aload_n hx hb d_I_beginFlow_12 rfl (lv_at hl 0 rfl) ?_
  refine g_I_25_I X Z d_I_beginFlow_13 ?_
  refine g_I_80_I X Z d_I_beginFlow_16 ?_
  refine lv_icmp_ge (tgt := 48) hx hb d_I_beginFlow_19 rfl (fun q_3 => ?_) (fun q_3 => ?_)
  · have hf := sr_it q_3 hf
    cases hf
    exact sr_retv X Z d_I_beginFlow_48
  · have hf := sr_if q_3 hf
    refine lv_aload_n hx hb d_I_beginFlow_22 rfl (lv_at hl 0 rfl) ?_
    refine g_I_25_I X Z d_I_beginFlow_23 ?_
    refine g_I_210_I X Z d_I_beginFlow_26 ?_
    refine lv_iload_n hx hb d_I_beginFlow_29 rfl (lv_at hl 2 rfl) ?_
    obtain ⟨v_4, e_5, hf⟩ := sr_b hf
    refine sr_iald hx hb hK Z 1 0 rfl rfl e_5 d_I_beginFlow_30 ?_
    refine lv_iload_n hx hb d_I_beginFlow_31 rfl (lv_at hl 1 rfl) ?_
    refine lv_icmp_ne (tgt := 42) hx hb d_I_beginFlow_32 rfl (fun q_6 => ?_) (fun q_6 => ?_)
    · have hf := sr_if q_6 hf
      exact k_I_beginFlow_42 X hk11 Z (lv_sub hl [0, 1, 2] rfl) hf
    · have hf := sr_it q_6 hf
      refine lv_aload_n hx hb d_I_beginFlow_35 rfl (lv_at hl 0 rfl) ?_
      refine g_I_9_I X Z d_I_beginFlow_36 ?_
      refine lv_iload_n hx hb d_I_beginFlow_39 rfl (lv_at hl 2 rfl) ?_
      refine lv_iconst (v := 1) hx hb d_I_beginFlow_40 (by decide) ?_
      obtain ⟨i_7, e_8, hf⟩ := sr_b hf
      refine sr_iast (wf := (fun q => (wI h t o v p0 q))) hx hb hK Z 20 14 rfl rfl e_8 (fun _ => rfl) d_I_beginFlow_41 (fun H locs Z => ?_)
      exact k_I_beginFlow_42 X hk11 Z (lv_sub hl [0, 1, 2] rfl) hf
def f_I_beginFlow_11_it (p0 : St) : Nat → Int32 → Int32 → St → Option (St)
  | 0 => fun _ _ _ => none
  | n + 1 => fun x1 x2 i0 => f_I_beginFlow_11 (f_I_beginFlow_11_it p0 n) p0 x1 x2 i0
set_option maxHeartbeats 4000000 in
set_option maxRecDepth 100000 in
theorem k_I_beginFlow_11_it {p0 : St} {i' : St} (X : sr_X D (tI t v) b_I_beginFlow 3 R_I w_I_beginFlow p s m args meth c A none) (n : Nat) : ∀ {x1 : Int32} {x2 : Int32} {i0 : St} {H : Heap} {locs : List Loc} {ls : Array Slot}, sr_Z D A s.heap (wI h t o v p0 i0) H locs → lv_has ls 3 [(0, .ref (o 0)), (1, .int x1), (2, .int x2)] → f_I_beginFlow_11_it p0 n x1 x2 i0 = some i' → W p l e (sr_rm 0 0) s m args below meth c H locs 0 0 (sr_Qv D (tI t v) below args s A (wI h t o v p0 i')) (F0 m 11 ls []) := by
  induction n with
  | zero => intro x1 x2 i0 H locs ls Z hl hf; exact absurd hf (by simp [f_I_beginFlow_11_it])
  | succ n ih =>
    intro x1 x2 i0 H locs ls Z hl hf
    exact k_I_beginFlow_11 X (fun x1 x2 i0 H locs ls Z hl hf => ih Z hl hf) Z hl hf
def f_I_beginFlow (p0 : St) (x1 : Int32) (i0 : St) : Option (St) :=
  (sr_ast 24 i0 4 x1 2).bind fun i_1 =>
  f_I_beginFlow_11_it p0 60 x1 (x1 + 1) i_1
set_option maxHeartbeats 4000000 in
set_option maxRecDepth 100000 in
theorem k_I_beginFlow_0 {p0 : St} {x1 : Int32} {i0 : St} {i' : St} (X : sr_X D (tI t v) b_I_beginFlow 3 R_I w_I_beginFlow p s m args meth c A none) (Z : sr_Z D A s.heap (wI h t o v p0 i0) H locs) (hl : lv_has ls 3 [(0, .ref (o 0)), (1, .int x1)]) (hf : f_I_beginFlow p0 x1 i0 = some i') : W p l e (sr_rm 0 0) s m args below meth c H locs 0 0 (sr_Qv D (tI t v) below args s A (wI h t o v p0 i')) (F0 m 0 ls []) := by
  have hx := X.1
  have hb := X.2.1
  have hK := X.2.2.2.2.2.2.1
  unfold f_I_beginFlow at hf
  refine lv_aload_n hx hb d_I_beginFlow_0 rfl (lv_at hl 0 rfl) ?_
  refine g_I_9_I X Z d_I_beginFlow_1 ?_
  refine lv_iload_n hx hb d_I_beginFlow_4 rfl (lv_at hl 1 rfl) ?_
  refine lv_iconst (v := 2) hx hb d_I_beginFlow_5 (by decide) ?_
  obtain ⟨i_1, e_2, hf⟩ := sr_b hf
  refine sr_iast (wf := (fun q => (wI h t o v p0 q))) hx hb hK Z 20 14 rfl rfl e_2 (fun _ => rfl) d_I_beginFlow_6 (fun H locs Z => ?_)
  refine lv_iload_n hx hb d_I_beginFlow_7 rfl (lv_at hl 1 rfl) ?_
  refine lv_iconst (v := 1) hx hb d_I_beginFlow_8 (by decide) ?_
  refine lv_iadd hx hb d_I_beginFlow_9 ?_
  refine lv_istore_n (lv' := [(2, .int (x1 + 1)), (0, .ref (o 0)), (1, .int x1)]) hx hb d_I_beginFlow_10 rfl hl (by decide) rfl (fun ls hl => ?_)
  exact k_I_beginFlow_11_it X _ Z (lv_sub hl [1, 2, 0] rfl) hf
end
set_option maxHeartbeats 4000000 in
set_option maxRecDepth 100000 in
theorem c_I_beginFlow {l : Launch} {D : va_G} {h : Nat → Nat} {t : Nat → ClassId} {o : Nat → Nat} {v : Nat → ClassId} {sz : Nat} {p0 : St} {x1 : Int32} {i0 : St} {i' : St} (hf : f_I_beginFlow p0 x1 i0 = some i') : sr_Cv l y_I_beginFlow w_I_beginFlow (sr_rm 0 0) D (tI t v) (wI h t o v p0 i0) (wI h t o v p0 i') sz [.ref (o 0), .int x1] := by
  refine Met.ofW (cc := b_I_beginFlow) (maxL := 3) (ret := none) (by decide) rfl ?_
  intro p e s m args below meth c s₁ B hml hv
  obtain ⟨rfl, hsz, hP, hK, hD0⟩ := hv
  subst hsz
  have X : sr_X D (tI t v) b_I_beginFlow 3 R_I w_I_beginFlow p s m _ meth c (va_A (wI h t o v p0 i0) s.heap.size) none := ⟨B.exec, B.bytes, hml, findClass_of_methodNamed B.named, B.notSynchronized, atoms_spec (ws := w_I_beginFlow) B.pre, hK, fun q h => Or.inr h, B.returns⟩
  have Z : sr_Z D (va_A (wI h t o v p0 i0) s.heap.size) s.heap (wI h t o v p0 i0) s.heap [] := ⟨hP, hD0.self, va_S.rf⟩
  have hl := lv_entry ([.ref (o 0), .int x1] : List Value) (n := 3) (Nat.le_of_ble_eq_true rfl)
  rw [lg_entry_eq]
  exact k_I_beginFlow_0 X Z hl hf
/-! L_closeFrom -/
theorem d_L_closeFrom_0 : decode b_L_closeFrom 0 = .ok (.iconst 0, 1) := by decide +kernel
theorem d_L_closeFrom_1 : decode b_L_closeFrom 1 = .ok (.istore_n 2, 1) := by decide +kernel
theorem d_L_closeFrom_2 : decode b_L_closeFrom 2 = .ok (.iload_n 2, 1) := by decide +kernel
theorem d_L_closeFrom_3 : decode b_L_closeFrom 3 = .ok (.aload_n 0, 1) := by decide +kernel
theorem d_L_closeFrom_4 : decode b_L_closeFrom 4 = .ok (.getfield 15, 3) := by decide +kernel
theorem d_L_closeFrom_7 : decode b_L_closeFrom 7 = .ok (.getfield 19, 3) := by decide +kernel
theorem d_L_closeFrom_10 : decode b_L_closeFrom 10 = .ok (.if_icmp .ge 41, 3) := by decide +kernel
theorem d_L_closeFrom_13 : decode b_L_closeFrom 13 = .ok (.aload_n 0, 1) := by decide +kernel
theorem d_L_closeFrom_14 : decode b_L_closeFrom 14 = .ok (.getfield 9, 3) := by decide +kernel
theorem d_L_closeFrom_17 : decode b_L_closeFrom 17 = .ok (.iload_n 2, 1) := by decide +kernel
theorem d_L_closeFrom_18 : decode b_L_closeFrom 18 = .ok (.iaload, 1) := by decide +kernel
theorem d_L_closeFrom_19 : decode b_L_closeFrom 19 = .ok (.ifCond .ne 26, 3) := by decide +kernel
theorem d_L_closeFrom_22 : decode b_L_closeFrom 22 = .ok (.aload_n 0, 1) := by decide +kernel
theorem d_L_closeFrom_23 : decode b_L_closeFrom 23 = .ok (.getfield 15, 3) := by decide +kernel
theorem d_L_closeFrom_26 : decode b_L_closeFrom 26 = .ok (.getfield 39, 3) := by decide +kernel
theorem d_L_closeFrom_29 : decode b_L_closeFrom 29 = .ok (.iload_n 2, 1) := by decide +kernel
theorem d_L_closeFrom_30 : decode b_L_closeFrom 30 = .ok (.iaload, 1) := by decide +kernel
theorem d_L_closeFrom_31 : decode b_L_closeFrom 31 = .ok (.iload_n 1, 1) := by decide +kernel
theorem d_L_closeFrom_32 : decode b_L_closeFrom 32 = .ok (.invokestatic 53, 3) := by decide +kernel
theorem d_L_closeFrom_35 : decode b_L_closeFrom 35 = .ok (.ifCond .eq 10, 3) := by decide +kernel
theorem d_L_closeFrom_38 : decode b_L_closeFrom 38 = .ok (.aload_n 0, 1) := by decide +kernel
theorem d_L_closeFrom_39 : decode b_L_closeFrom 39 = .ok (.getfield 9, 3) := by decide +kernel
theorem d_L_closeFrom_42 : decode b_L_closeFrom 42 = .ok (.iload_n 2, 1) := by decide +kernel
theorem d_L_closeFrom_43 : decode b_L_closeFrom 43 = .ok (.iconst 2, 1) := by decide +kernel
theorem d_L_closeFrom_44 : decode b_L_closeFrom 44 = .ok (.iastore, 1) := by decide +kernel
theorem d_L_closeFrom_45 : decode b_L_closeFrom 45 = .ok (.iinc 2 1, 3) := by decide +kernel
theorem d_L_closeFrom_48 : decode b_L_closeFrom 48 = .ok (.goto (-46), 3) := by decide +kernel
theorem d_L_closeFrom_51 : decode b_L_closeFrom 51 = .ok (.return_, 1) := by decide +kernel
section
variable {p : Program} {l : Launch} {e : Env} {s : State} {m : MethodId} {args : Array Value} {below : List Frame} {meth : Method} {c : Code} {H : Heap} {locs : List Loc} {ls : Array Slot} {D : va_G} {A : Nat → Prop} {h o : Nat → Nat} {t v : Nat → ClassId}
def f_L_closeFrom_45 (k2 : Int32 → Int32 → St → Option (St)) (p0 : St) (x1 : Int32) (x2 : Int32) (i0 : St) : Option (St) :=
  k2 x1 (x2 + 1) i0
set_option maxHeartbeats 4000000 in
set_option maxRecDepth 100000 in
theorem k_L_closeFrom_45 {k2 : Int32 → Int32 → St → Option (St)} {p0 : St} {x1 : Int32} {x2 : Int32} {i0 : St} {i' : St} (X : sr_X D (tI t v) b_L_closeFrom 3 R_L w_L_closeFrom p s m args meth c A none) (hk2 : ∀ (x1 : Int32) (x2 : Int32) (i0 : St) (H : Heap) (locs : List Loc) (ls : Array Slot), sr_Z D A s.heap (wI h t o v p0 i0) H locs → lv_has ls 3 [(0, .ref (o 2)), (1, .int x1), (2, .int x2)] → k2 x1 x2 i0 = some i' → W p l e (sr_rm 1 21) s m args below meth c H locs 0 0 (sr_Qv D (tI t v) below args s A (wI h t o v p0 i')) (F0 m 2 ls [])) (Z : sr_Z D A s.heap (wI h t o v p0 i0) H locs) (hl : lv_has ls 3 [(0, .ref (o 2)), (1, .int x1), (2, .int x2)]) (hf : f_L_closeFrom_45 k2 p0 x1 x2 i0 = some i') : W p l e (sr_rm 1 21) s m args below meth c H locs 0 0 (sr_Qv D (tI t v) below args s A (wI h t o v p0 i')) (F0 m 45 ls []) := by
  have hx := X.1
  have hb := X.2.1
  have hK := X.2.2.2.2.2.2.1
  unfold f_L_closeFrom_45 at hf
  refine lv_iinc (k := 2) (v := x2 + 1) (lv' := [(2, .int (x2 + 1)), (0, .ref (o 2)), (1, .int x1)]) hx hb d_L_closeFrom_45 hl rfl rfl (by decide) rfl (fun ls hl => ?_)
  refine lv_goto (tgt := 2) hx hb d_L_closeFrom_48 rfl ?_
  exact hk2 x1 (x2 + 1) i0 _ _ _ Z (lv_sub hl [1, 2, 0] rfl) hf
def f_L_closeFrom_2 (k2 : Int32 → Int32 → St → Option (St)) (p0 : St) (x1 : Int32) (x2 : Int32) (i0 : St) : Option (St) :=
  if (p0 15 0) ≤ x2 then
    some i0
  else
    (sr_ald 16 (i0 13) x2).bind fun v_2 =>
    if v_2 = 0 then
      (sr_ald 16 (p0 11) x2).bind fun v_5 =>
      (f_P_isIn v_5 x1).bind fun v_7 =>
      if v_7 = 0 then
        f_L_closeFrom_45 k2 p0 x1 x2 i0
      else
        (sr_ast 16 i0 13 x2 2).bind fun i_10 =>
        f_L_closeFrom_45 k2 p0 x1 x2 i_10
    else
      f_L_closeFrom_45 k2 p0 x1 x2 i0
set_option maxHeartbeats 4000000 in
set_option maxRecDepth 100000 in
theorem k_L_closeFrom_2 {k2 : Int32 → Int32 → St → Option (St)} {p0 : St} {x1 : Int32} {x2 : Int32} {i0 : St} {i' : St} (X : sr_X D (tI t v) b_L_closeFrom 3 R_L w_L_closeFrom p s m args meth c A none) (hk2 : ∀ (x1 : Int32) (x2 : Int32) (i0 : St) (H : Heap) (locs : List Loc) (ls : Array Slot), sr_Z D A s.heap (wI h t o v p0 i0) H locs → lv_has ls 3 [(0, .ref (o 2)), (1, .int x1), (2, .int x2)] → k2 x1 x2 i0 = some i' → W p l e (sr_rm 1 21) s m args below meth c H locs 0 0 (sr_Qv D (tI t v) below args s A (wI h t o v p0 i')) (F0 m 2 ls [])) (Z : sr_Z D A s.heap (wI h t o v p0 i0) H locs) (hl : lv_has ls 3 [(0, .ref (o 2)), (1, .int x1), (2, .int x2)]) (hf : f_L_closeFrom_2 k2 p0 x1 x2 i0 = some i') : W p l e (sr_rm 1 21) s m args below meth c H locs 0 0 (sr_Qv D (tI t v) below args s A (wI h t o v p0 i')) (F0 m 2 ls []) := by
  have hx := X.1
  have hb := X.2.1
  have hK := X.2.2.2.2.2.2.1
  unfold f_L_closeFrom_2 at hf
  refine lv_iload_n hx hb d_L_closeFrom_2 rfl (lv_at hl 2 rfl) ?_
  refine lv_aload_n hx hb d_L_closeFrom_3 rfl (lv_at hl 0 rfl) ?_
  refine g_L_15_I X Z d_L_closeFrom_4 ?_
  refine g_L_19_I X Z d_L_closeFrom_7 ?_
  refine lv_icmp_ge (tgt := 51) hx hb d_L_closeFrom_10 rfl (fun q_1 => ?_) (fun q_1 => ?_)
  · have hf := sr_it q_1 hf
    cases hf
    exact sr_retv X Z d_L_closeFrom_51
  · have hf := sr_if q_1 hf
    refine lv_aload_n hx hb d_L_closeFrom_13 rfl (lv_at hl 0 rfl) ?_
    refine g_L_9_I X Z d_L_closeFrom_14 ?_
    refine lv_iload_n hx hb d_L_closeFrom_17 rfl (lv_at hl 2 rfl) ?_
    obtain ⟨v_2, e_3, hf⟩ := sr_b hf
    refine sr_iald hx hb hK Z 26 20 rfl rfl e_3 d_L_closeFrom_18 ?_
    refine lv_if_ne (tgt := 45) hx hb d_L_closeFrom_19 rfl (fun q_4 => ?_) (fun q_4 => ?_)
    · have hf := sr_if q_4 hf
      exact k_L_closeFrom_45 X hk2 Z (lv_sub hl [0, 1, 2] rfl) hf
    · have hf := sr_it q_4 hf
      refine lv_aload_n hx hb d_L_closeFrom_22 rfl (lv_at hl 0 rfl) ?_
      refine g_L_15_I X Z d_L_closeFrom_23 ?_
      refine g_L_39_I X Z d_L_closeFrom_26 ?_
      refine lv_iload_n hx hb d_L_closeFrom_29 rfl (lv_at hl 2 rfl) ?_
      obtain ⟨v_5, e_6, hf⟩ := sr_b hf
      refine sr_iald hx hb hK Z 11 10 rfl rfl e_6 d_L_closeFrom_30 ?_
      refine lv_iload_n hx hb d_L_closeFrom_31 rfl (lv_at hl 1 rfl) ?_
      obtain ⟨v_7, e_8, hf⟩ := sr_b hf
      refine sr_cSi (As := [.int v_5, .int x1]) (rest := []) X Z sr_cut_0 (va_K.sub hK [] rfl) (c_P_isIn e_8) (cw_L_53 X.2.2.2.2.2.1 (by decide)) rfl hl rfl (Nat.le_of_ble_eq_true rfl) d_L_closeFrom_32 (fun H locs Z => ?_)
      refine lv_if_eq (tgt := 45) hx hb d_L_closeFrom_35 rfl (fun q_9 => ?_) (fun q_9 => ?_)
      · have hf := sr_it q_9 hf
        exact k_L_closeFrom_45 X hk2 Z (lv_sub hl [0, 1, 2] rfl) hf
      · have hf := sr_if q_9 hf
        refine lv_aload_n hx hb d_L_closeFrom_38 rfl (lv_at hl 0 rfl) ?_
        refine g_L_9_I X Z d_L_closeFrom_39 ?_
        refine lv_iload_n hx hb d_L_closeFrom_42 rfl (lv_at hl 2 rfl) ?_
        refine lv_iconst (v := 2) hx hb d_L_closeFrom_43 (by decide) ?_
        obtain ⟨i_10, e_11, hf⟩ := sr_b hf
        refine sr_iast (wf := (fun q => (wI h t o v p0 q))) hx hb hK Z 26 20 rfl rfl e_11 (fun _ => rfl) d_L_closeFrom_44 (fun H locs Z => ?_)
        exact k_L_closeFrom_45 X hk2 Z (lv_sub hl [0, 1, 2] rfl) hf
def f_L_closeFrom_2_it (p0 : St) : Nat → Int32 → Int32 → St → Option (St)
  | 0 => fun _ _ _ => none
  | n + 1 => fun x1 x2 i0 => f_L_closeFrom_2 (f_L_closeFrom_2_it p0 n) p0 x1 x2 i0
set_option maxHeartbeats 4000000 in
set_option maxRecDepth 100000 in
theorem k_L_closeFrom_2_it {p0 : St} {i' : St} (X : sr_X D (tI t v) b_L_closeFrom 3 R_L w_L_closeFrom p s m args meth c A none) (n : Nat) : ∀ {x1 : Int32} {x2 : Int32} {i0 : St} {H : Heap} {locs : List Loc} {ls : Array Slot}, sr_Z D A s.heap (wI h t o v p0 i0) H locs → lv_has ls 3 [(0, .ref (o 2)), (1, .int x1), (2, .int x2)] → f_L_closeFrom_2_it p0 n x1 x2 i0 = some i' → W p l e (sr_rm 1 21) s m args below meth c H locs 0 0 (sr_Qv D (tI t v) below args s A (wI h t o v p0 i')) (F0 m 2 ls []) := by
  induction n with
  | zero => intro x1 x2 i0 H locs ls Z hl hf; exact absurd hf (by simp [f_L_closeFrom_2_it])
  | succ n ih =>
    intro x1 x2 i0 H locs ls Z hl hf
    exact k_L_closeFrom_2 X (fun x1 x2 i0 H locs ls Z hl hf => ih Z hl hf) Z hl hf
def f_L_closeFrom (p0 : St) (x1 : Int32) (i0 : St) : Option (St) :=
  f_L_closeFrom_2_it p0 60 x1 0 i0
set_option maxHeartbeats 4000000 in
set_option maxRecDepth 100000 in
theorem k_L_closeFrom_0 {p0 : St} {x1 : Int32} {i0 : St} {i' : St} (X : sr_X D (tI t v) b_L_closeFrom 3 R_L w_L_closeFrom p s m args meth c A none) (Z : sr_Z D A s.heap (wI h t o v p0 i0) H locs) (hl : lv_has ls 3 [(0, .ref (o 2)), (1, .int x1)]) (hf : f_L_closeFrom p0 x1 i0 = some i') : W p l e (sr_rm 1 21) s m args below meth c H locs 0 0 (sr_Qv D (tI t v) below args s A (wI h t o v p0 i')) (F0 m 0 ls []) := by
  have hx := X.1
  have hb := X.2.1
  have hK := X.2.2.2.2.2.2.1
  unfold f_L_closeFrom at hf
  refine lv_iconst (v := 0) hx hb d_L_closeFrom_0 (by decide) ?_
  refine lv_istore_n (lv' := [(2, .int 0), (0, .ref (o 2)), (1, .int x1)]) hx hb d_L_closeFrom_1 rfl hl (by decide) rfl (fun ls hl => ?_)
  exact k_L_closeFrom_2_it X _ Z (lv_sub hl [1, 2, 0] rfl) hf
end
set_option maxHeartbeats 4000000 in
set_option maxRecDepth 100000 in
theorem c_L_closeFrom {l : Launch} {D : va_G} {h : Nat → Nat} {t : Nat → ClassId} {o : Nat → Nat} {v : Nat → ClassId} {sz : Nat} {p0 : St} {x1 : Int32} {i0 : St} {i' : St} (hf : f_L_closeFrom p0 x1 i0 = some i') : sr_Cv l y_L_closeFrom w_L_closeFrom (sr_rm 1 21) D (tI t v) (wI h t o v p0 i0) (wI h t o v p0 i') sz [.ref (o 2), .int x1] := by
  refine Met.ofW (cc := b_L_closeFrom) (maxL := 3) (ret := none) (by decide) rfl ?_
  intro p e s m args below meth c s₁ B hml hv
  obtain ⟨rfl, hsz, hP, hK, hD0⟩ := hv
  subst hsz
  have X : sr_X D (tI t v) b_L_closeFrom 3 R_L w_L_closeFrom p s m _ meth c (va_A (wI h t o v p0 i0) s.heap.size) none := ⟨B.exec, B.bytes, hml, findClass_of_methodNamed B.named, B.notSynchronized, atoms_spec (ws := w_L_closeFrom) B.pre, hK, fun q h => Or.inr h, B.returns⟩
  have Z : sr_Z D (va_A (wI h t o v p0 i0) s.heap.size) s.heap (wI h t o v p0 i0) s.heap [] := ⟨hP, hD0.self, va_S.rf⟩
  have hl := lv_entry ([.ref (o 2), .int x1] : List Value) (n := 3) (Nat.le_of_ble_eq_true rfl)
  rw [lg_entry_eq]
  exact k_L_closeFrom_0 X Z hl hf
