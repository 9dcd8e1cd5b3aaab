/-! I_skip -/
theorem d_I_skip_0 : decode b_I_skip 0 = .ok (.aload_n 0, 1) := by decide +kernel
theorem d_I_skip_1 : decode b_I_skip 1 = .ok (.iload_n 1, 1) := by decide +kernel
theorem d_I_skip_2 : decode b_I_skip 2 = .ok (.bipush 9, 2) := by decide +kernel
theorem d_I_skip_4 : decode b_I_skip 4 = .ok (.iconst 3, 1) := by decide +kernel
theorem d_I_skip_5 : decode b_I_skip 5 = .ok (.invokevirtual 176, 3) := by decide +kernel
theorem d_I_skip_8 : decode b_I_skip 8 = .ok (.aload_n 0, 1) := by decide +kernel
theorem d_I_skip_9 : decode b_I_skip 9 = .ok (.getfield 57, 3) := by decide +kernel
theorem d_I_skip_12 : decode b_I_skip 12 = .ok (.aload_n 0, 1) := by decide +kernel
theorem d_I_skip_13 : decode b_I_skip 13 = .ok (.getfield 25, 3) := by decide +kernel
theorem d_I_skip_16 : decode b_I_skip 16 = .ok (.getfield 135, 3) := by decide +kernel
theorem d_I_skip_19 : decode b_I_skip 19 = .ok (.iload_n 1, 1) := by decide +kernel
theorem d_I_skip_20 : decode b_I_skip 20 = .ok (.iaload, 1) := by decide +kernel
theorem d_I_skip_21 : decode b_I_skip 21 = .ok (.invokevirtual 179, 3) := by decide +kernel
theorem d_I_skip_24 : decode b_I_skip 24 = .ok (.return_, 1) := by decide +kernel
section
variable {p : Program} {l : Launch} {e : Env} {s : State} {m : MethodId} {args : Array Value} {below : List Frame} {meth : Method} {c : Code} {H : Heap} {locs : List Loc} {ls : Array Slot} {D : va_G} {A : Nat → Prop} {h o : Nat → Nat} {t v : Nat → ClassId}
def f_I_skip (p0 : St) (x1 : Int32) (i0 : St) : Option (St) :=
  (f_I_become p0 x1 9 3 i0).bind fun i_1 =>
  (sr_ald 24 (p0 9) x1).bind fun v_3 =>
  (f_L_closeFrom p0 v_3 i_1).bind fun i_5 =>
  some i_5
set_option maxHeartbeats 4000000 in
set_option maxRecDepth 100000 in
theorem k_I_skip_0 {p0 : St} {x1 : Int32} {i0 : St} {i' : St} (X : sr_X D (tI t v) b_I_skip 2 R_I w_I_skip p s m args meth c A none) (Z : sr_Z D A s.heap (wI h t o v p0 i0) H locs) (hl : lv_has ls 2 [(0, .ref (o 0)), (1, .int x1)]) (hf : f_I_skip p0 x1 i0 = some i') : W p l e (sr_rm 2 45) s m args below meth c H locs 0 0 (sr_Qv D (tI t v) below args s A (wI h t o v p0 i')) (F0 m 0 ls []) := by
  have hx := X.1
  have hb := X.2.1
  have hK := X.2.2.2.2.2.2.1
  unfold f_I_skip at hf
  refine lv_aload_n hx hb d_I_skip_0 rfl (lv_at hl 0 rfl) ?_
  refine lv_iload_n hx hb d_I_skip_1 rfl (lv_at hl 1 rfl) ?_
  refine lv_bipush (v := 9) hx hb d_I_skip_2 (by decide) ?_
  refine lv_iconst (v := 3) hx hb d_I_skip_4 (by decide) ?_
  obtain ⟨i_1, e_2, hf⟩ := sr_b hf
  refine sr_cVv (As := [.int x1, .int 9, .int 3]) (rest := []) X Z sr_cut_self hK (c_I_become e_2) (cw_I_176 X.2.2.2.2.2.1 (by decide)) 15 rfl rfl rfl hl rfl (Nat.le_of_ble_eq_true rfl) d_I_skip_5 (fun H locs Z => ?_)
  refine lv_aload_n hx hb d_I_skip_8 rfl (lv_at hl 0 rfl) ?_
  refine g_I_57_I X Z d_I_skip_9 ?_
  refine lv_aload_n hx hb d_I_skip_12 rfl (lv_at hl 0 rfl) ?_
  refine g_I_25_I X Z d_I_skip_13 ?_
  refine g_I_135_I X Z d_I_skip_16 ?_
  refine lv_iload_n hx hb d_I_skip_19 rfl (lv_at hl 1 rfl) ?_
  obtain ⟨v_3, e_4, hf⟩ := sr_b hf
  refine sr_iald hx hb hK Z 10 9 rfl rfl e_4 d_I_skip_20 ?_
  obtain ⟨i_5, e_6, hf⟩ := sr_b hf
  refine sr_cVv (As := [.int v_3]) (rest := []) X Z sr_cut_self hK (c_L_closeFrom e_6) (cw_I_179 X.2.2.2.2.2.1 (by decide)) 17 rfl rfl rfl hl rfl (Nat.le_of_ble_eq_true rfl) d_I_skip_21 (fun H locs Z => ?_)
  cases hf
  exact sr_retv X Z d_I_skip_24
end
set_option maxHeartbeats 4000000 in
set_option maxRecDepth 100000 in
theorem c_I_skip {l : Launch} {D : va_G} {h : Nat → Nat} {t : Nat → ClassId} {o : Nat → Nat} {v : Nat → ClassId} {sz : Nat} {p0 : St} {x1 : Int32} {i0 : St} {i' : St} (hf : f_I_skip p0 x1 i0 = some i') : sr_Cv l y_I_skip w_I_skip (sr_rm 2 45) D (tI t v) (wI h t o v p0 i0) (wI h t o v p0 i') sz [.ref (o 0), .int x1] := by
  refine Met.ofW (cc := b_I_skip) (maxL := 2) (ret := none) (by decide) rfl ?_
  intro p e s m args below meth c s₁ B hml hv
  obtain ⟨rfl, hsz, hP, hK, hD0⟩ := hv
  subst hsz
  have X : sr_X D (tI t v) b_I_skip 2 R_I w_I_skip p s m _ meth c (va_A (wI h t o v p0 i0) s.heap.size) none := ⟨B.exec, B.bytes, hml, findClass_of_methodNamed B.named, B.notSynchronized, atoms_spec (ws := w_I_skip) B.pre, hK, fun q h => Or.inr h, B.returns⟩
  have Z : sr_Z D (va_A (wI h t o v p0 i0) s.heap.size) s.heap (wI h t o v p0 i0) s.heap [] := ⟨hP, hD0.self, va_S.rf⟩
  have hl := lv_entry ([.ref (o 0), .int x1] : List Value) (n := 2) (Nat.le_of_ble_eq_true rfl)
  rw [lg_entry_eq]
  exact k_I_skip_0 X Z hl hf
/-! I_beginIf -/
theorem d_I_beginIf_0 : decode b_I_beginIf 0 = .ok (.aload_n 0, 1) := by decide +kernel
theorem d_I_beginIf_1 : decode b_I_beginIf 1 = .ok (.getfield 25, 3) := by decide +kernel
theorem d_I_beginIf_4 : decode b_I_beginIf 4 = .ok (.iload_n 1, 1) := by decide +kernel
theorem d_I_beginIf_5 : decode b_I_beginIf 5 = .ok (.invokevirtual 195, 3) := by decide +kernel
theorem d_I_beginIf_8 : decode b_I_beginIf 8 = .ok (.istore_n 2, 1) := by decide +kernel
theorem d_I_beginIf_9 : decode b_I_beginIf 9 = .ok (.aload_n 0, 1) := by decide +kernel
theorem d_I_beginIf_10 : decode b_I_beginIf 10 = .ok (.getfield 25, 3) := by decide +kernel
theorem d_I_beginIf_13 : decode b_I_beginIf 13 = .ok (.iload_n 1, 1) := by decide +kernel
theorem d_I_beginIf_14 : decode b_I_beginIf 14 = .ok (.iload_n 2, 1) := by decide +kernel
theorem d_I_beginIf_15 : decode b_I_beginIf 15 = .ok (.invokevirtual 213, 3) := by decide +kernel
theorem d_I_beginIf_18 : decode b_I_beginIf 18 = .ok (.istore_n 3, 1) := by decide +kernel
theorem d_I_beginIf_19 : decode b_I_beginIf 19 = .ok (.aload_n 0, 1) := by decide +kernel
theorem d_I_beginIf_20 : decode b_I_beginIf 20 = .ok (.iload_n 1, 1) := by decide +kernel
theorem d_I_beginIf_21 : decode b_I_beginIf 21 = .ok (.invokevirtual 216, 3) := by decide +kernel
theorem d_I_beginIf_24 : decode b_I_beginIf 24 = .ok (.istore 4, 2) := by decide +kernel
theorem d_I_beginIf_26 : decode b_I_beginIf 26 = .ok (.iload 4, 2) := by decide +kernel
theorem d_I_beginIf_28 : decode b_I_beginIf 28 = .ok (.ifCond .eq 7, 3) := by decide +kernel
theorem d_I_beginIf_31 : decode b_I_beginIf 31 = .ok (.iload_n 2, 1) := by decide +kernel
theorem d_I_beginIf_32 : decode b_I_beginIf 32 = .ok (.goto 4, 3) := by decide +kernel
theorem d_I_beginIf_35 : decode b_I_beginIf 35 = .ok (.iload_n 3, 1) := by decide +kernel
theorem d_I_beginIf_36 : decode b_I_beginIf 36 = .ok (.istore 5, 2) := by decide +kernel
theorem d_I_beginIf_38 : decode b_I_beginIf 38 = .ok (.iload 4, 2) := by decide +kernel
theorem d_I_beginIf_40 : decode b_I_beginIf 40 = .ok (.ifCond .eq 7, 3) := by decide +kernel
theorem d_I_beginIf_43 : decode b_I_beginIf 43 = .ok (.iload_n 3, 1) := by decide +kernel
theorem d_I_beginIf_44 : decode b_I_beginIf 44 = .ok (.goto 4, 3) := by decide +kernel
theorem d_I_beginIf_47 : decode b_I_beginIf 47 = .ok (.iload_n 2, 1) := by decide +kernel
theorem d_I_beginIf_48 : decode b_I_beginIf 48 = .ok (.istore 6, 2) := by decide +kernel
theorem d_I_beginIf_50 : decode b_I_beginIf 50 = .ok (.aload_n 0, 1) := by decide +kernel
theorem d_I_beginIf_51 : decode b_I_beginIf 51 = .ok (.getfield 9, 3) := by decide +kernel
theorem d_I_beginIf_54 : decode b_I_beginIf 54 = .ok (.iload_n 1, 1) := by decide +kernel
theorem d_I_beginIf_55 : decode b_I_beginIf 55 = .ok (.iconst 2, 1) := by decide +kernel
theorem d_I_beginIf_56 : decode b_I_beginIf 56 = .ok (.iastore, 1) := by decide +kernel
theorem d_I_beginIf_57 : decode b_I_beginIf 57 = .ok (.iload 6, 2) := by decide +kernel
theorem d_I_beginIf_59 : decode b_I_beginIf 59 = .ok (.iconst (-1), 1) := by decide +kernel
theorem d_I_beginIf_60 : decode b_I_beginIf 60 = .ok (.if_icmp .eq 9, 3) := by decide +kernel
theorem d_I_beginIf_63 : decode b_I_beginIf 63 = .ok (.aload_n 0, 1) := by decide +kernel
theorem d_I_beginIf_64 : decode b_I_beginIf 64 = .ok (.iload 6, 2) := by decide +kernel
theorem d_I_beginIf_66 : decode b_I_beginIf 66 = .ok (.invokevirtual 170, 3) := by decide +kernel
theorem d_I_beginIf_69 : decode b_I_beginIf 69 = .ok (.aload_n 0, 1) := by decide +kernel
theorem d_I_beginIf_70 : decode b_I_beginIf 70 = .ok (.iload 5, 2) := by decide +kernel
theorem d_I_beginIf_72 : decode b_I_beginIf 72 = .ok (.iload_n 1, 1) := by decide +kernel
theorem d_I_beginIf_73 : decode b_I_beginIf 73 = .ok (.invokevirtual 198, 3) := by decide +kernel
theorem d_I_beginIf_76 : decode b_I_beginIf 76 = .ok (.return_, 1) := by decide +kernel
section
variable {p : Program} {l : Launch} {e : Env} {s : State} {m : MethodId} {args : Array Value} {below : List Frame} {meth : Method} {c : Code} {H : Heap} {locs : List Loc} {ls : Array Slot} {D : va_G} {A : Nat → Prop} {h o : Nat → Nat} {t v : Nat → ClassId}
def f_I_beginIf_69 (p0 : St) (x1 : Int32) (x5 : Int32) (i0 : St) : Option (St) :=
  (f_I_openOrComplete p0 x5 x1 i0).bind fun i_12 =>
  some i_12
set_option maxHeartbeats 4000000 in
set_option maxRecDepth 100000 in
theorem k_I_beginIf_69 {p0 : St} {x1 : Int32} {x5 : Int32} {i0 : St} {i' : St} (X : sr_X D (tI t v) b_I_beginIf 7 R_I w_I_beginIf p s m args meth c A none) (Z : sr_Z D A s.heap (wI h t o v p0 i0) H locs) (hl : lv_has ls 7 [(0, .ref (o 0)), (1, .int x1), (5, .int x5)]) (hf : f_I_beginIf_69 p0 x1 x5 i0 = some i') : W p l e (sr_rm 3 66) s m args below meth c H locs 0 0 (sr_Qv D (tI t v) below args s A (wI h t o v p0 i')) (F0 m 69 ls []) := by
  have hx := X.1
  have hb := X.2.1
  have hK := X.2.2.2.2.2.2.1
  unfold f_I_beginIf_69 at hf
  refine lv_aload_n hx hb d_I_beginIf_69 rfl (lv_at hl 0 rfl) ?_
  refine lv_iload hx hb d_I_beginIf_70 (lv_at hl 2 rfl) ?_
  refine lv_iload_n hx hb d_I_beginIf_72 rfl (lv_at hl 1 rfl) ?_
  obtain ⟨i_12, e_13, hf⟩ := sr_b hf
  refine sr_cVv (As := [.int x5, .int x1]) (rest := []) X Z sr_cut_self hK (c_I_openOrComplete e_13) (cw_I_198 X.2.2.2.2.2.1 (by decide)) 15 rfl rfl rfl hl rfl (Nat.le_of_ble_eq_true rfl) d_I_beginIf_73 (fun H locs Z => ?_)
  cases hf
  exact sr_retv X Z d_I_beginIf_76
def f_I_beginIf_48 (p0 : St) (x1 : Int32) (x5 : Int32) (y0 : Int32) (i0 : St) : Option (St) :=
  (sr_ast 24 i0 4 x1 2).bind fun i_9 =>
  if y0 = (-1) then
    f_I_beginIf_69 p0 x1 x5 i_9
  else
    (f_I_skip p0 y0 i_9).bind fun i_14 =>
    f_I_beginIf_69 p0 x1 x5 i_14
set_option maxHeartbeats 4000000 in
set_option maxRecDepth 100000 in
theorem k_I_beginIf_48 {p0 : St} {x1 : Int32} {x5 : Int32} {y0 : Int32} {i0 : St} {i' : St} (X : sr_X D (tI t v) b_I_beginIf 7 R_I w_I_beginIf p s m args meth c A none) (Z : sr_Z D A s.heap (wI h t o v p0 i0) H locs) (hl : lv_has ls 7 [(0, .ref (o 0)), (1, .int x1), (5, .int x5)]) (hf : f_I_beginIf_48 p0 x1 x5 y0 i0 = some i') : W p l e (sr_rm 3 66) s m args below meth c H locs 0 0 (sr_Qv D (tI t v) below args s A (wI h t o v p0 i')) (F0 m 48 ls [.int y0]) := by
  have hx := X.1
  have hb := X.2.1
  have hK := X.2.2.2.2.2.2.1
  unfold f_I_beginIf_48 at hf
  refine lv_istore (lv' := [(6, .int y0), (0, .ref (o 0)), (1, .int x1), (5, .int x5)]) hx hb d_I_beginIf_48 hl (by decide) rfl (fun ls hl => ?_)
  refine lv_aload_n hx hb d_I_beginIf_50 rfl (lv_at hl 1 rfl) ?_
  refine g_I_9_I X Z d_I_beginIf_51 ?_
  refine lv_iload_n hx hb d_I_beginIf_54 rfl (lv_at hl 2 rfl) ?_
  refine lv_iconst (v := 2) hx hb d_I_beginIf_55 (by decide) ?_
  obtain ⟨i_9, e_10, hf⟩ := sr_b hf
  refine sr_iast (wf := (fun q => (wI h t o v p0 q))) hx hb hK Z 20 14 rfl rfl e_10 (fun _ => rfl) d_I_beginIf_56 (fun H locs Z => ?_)
  refine lv_iload hx hb d_I_beginIf_57 (lv_at hl 0 rfl) ?_
  refine lv_iconst (v := -1) hx hb d_I_beginIf_59 (by decide) ?_
  refine lv_icmp_eq (tgt := 69) hx hb d_I_beginIf_60 rfl (fun q_11 => ?_) (fun q_11 => ?_)
  · have hf := sr_it q_11 hf
    exact k_I_beginIf_69 X Z (lv_sub hl [1, 2, 3] rfl) hf
  · have hf := sr_if q_11 hf
    refine lv_aload_n hx hb d_I_beginIf_63 rfl (lv_at hl 1 rfl) ?_
    refine lv_iload hx hb d_I_beginIf_64 (lv_at hl 0 rfl) ?_
    obtain ⟨i_14, e_15, hf⟩ := sr_b hf
    refine sr_cVv (As := [.int y0]) (rest := []) X Z sr_cut_self hK (c_I_skip e_15) (cw_I_170 X.2.2.2.2.2.1 (by decide)) 15 rfl rfl rfl hl rfl (Nat.le_of_ble_eq_true rfl) d_I_beginIf_66 (fun H locs Z => ?_)
    exact k_I_beginIf_69 X Z (lv_sub hl [1, 2, 3] rfl) hf
def f_I_beginIf_36 (p0 : St) (x1 : Int32) (x2 : Int32) (x3 : Int32) (x4 : Int32) (y0 : Int32) (i0 : St) : Option (St) :=
  if x4 = 0 then
    f_I_beginIf_48 p0 x1 y0 x2 i0
  else
    f_I_beginIf_48 p0 x1 y0 x3 i0
set_option maxHeartbeats 4000000 in
set_option maxRecDepth 100000 in
theorem k_I_beginIf_36 {p0 : St} {x1 : Int32} {x2 : Int32} {x3 : Int32} {x4 : Int32} {y0 : Int32} {i0 : St} {i' : St} (X : sr_X D (tI t v) b_I_beginIf 7 R_I w_I_beginIf p s m args meth c A none) (Z : sr_Z D A s.heap (wI h t o v p0 i0) H locs) (hl : lv_has ls 7 [(0, .ref (o 0)), (1, .int x1), (2, .int x2), (3, .int x3), (4, .int x4)]) (hf : f_I_beginIf_36 p0 x1 x2 x3 x4 y0 i0 = some i') : W p l e (sr_rm 3 66) s m args below meth c H locs 0 0 (sr_Qv D (tI t v) below args s A (wI h t o v p0 i')) (F0 m 36 ls [.int y0]) := by
  have hx := X.1
  have hb := X.2.1
  have hK := X.2.2.2.2.2.2.1
  unfold f_I_beginIf_36 at hf
  refine lv_istore (lv' := [(5, .int y0), (0, .ref (o 0)), (1, .int x1), (2, .int x2), (3, .int x3), (4, .int x4)]) hx hb d_I_beginIf_36 hl (by decide) rfl (fun ls hl => ?_)
  refine lv_iload hx hb d_I_beginIf_38 (lv_at hl 5 rfl) ?_
  refine lv_if_eq (tgt := 47) hx hb d_I_beginIf_40 rfl (fun q_8 => ?_) (fun q_8 => ?_)
  · have hf := sr_it q_8 hf
    refine lv_iload_n hx hb d_I_beginIf_47 rfl (lv_at hl 3 rfl) ?_
    exact k_I_beginIf_48 X Z (lv_sub hl [1, 2, 0] rfl) hf
  · have hf := sr_if q_8 hf
    refine lv_iload_n hx hb d_I_beginIf_43 rfl (lv_at hl 4 rfl) ?_
    refine lv_goto (tgt := 48) hx hb d_I_beginIf_44 rfl ?_
    exact k_I_beginIf_48 X Z (lv_sub hl [1, 2, 0] rfl) hf
def f_I_beginIf (p0 : St) (x1 : Int32) (i0 : St) : Option (St) :=
  (f_P_firstChild p0 x1).bind fun v_1 =>
  (f_P_childAfter p0 x1 v_1).bind fun v_3 =>
  (f_I_conditionHolds p0 i0 x1).bind fun v_5 =>
  if v_5 = 0 then
    f_I_beginIf_36 p0 x1 v_1 v_3 v_5 v_3 i0
  else
    f_I_beginIf_36 p0 x1 v_1 v_3 v_5 v_1 i0
set_option maxHeartbeats 4000000 in
set_option maxRecDepth 100000 in
theorem k_I_beginIf_0 {p0 : St} {x1 : Int32} {i0 : St} {i' : St} (X : sr_X D (tI t v) b_I_beginIf 7 R_I w_I_beginIf p s m args meth c A none) (Z : sr_Z D A s.heap (wI h t o v p0 i0) H locs) (hl : lv_has ls 7 [(0, .ref (o 0)), (1, .int x1)]) (hf : f_I_beginIf p0 x1 i0 = some i') : W p l e (sr_rm 3 66) s m args below meth c H locs 0 0 (sr_Qv D (tI t v) below args s A (wI h t o v p0 i')) (F0 m 0 ls []) := by
  have hx := X.1
  have hb := X.2.1
  have hK := X.2.2.2.2.2.2.1
  unfold f_I_beginIf at hf
  refine lv_aload_n hx hb d_I_beginIf_0 rfl (lv_at hl 0 rfl) ?_
  refine g_I_25_I X Z d_I_beginIf_1 ?_
  refine lv_iload_n hx hb d_I_beginIf_4 rfl (lv_at hl 1 rfl) ?_
  obtain ⟨v_1, e_2, hf⟩ := sr_b hf
  refine sr_cVi (As := [.int x1]) (rest := []) X Z cut_IP (k_IP hK) (c_P_firstChild e_2) (cw_I_195 X.2.2.2.2.2.1 (by decide)) 0 rfl rfl rfl hl rfl (Nat.le_of_ble_eq_true rfl) d_I_beginIf_5 (fun H locs Z => ?_)
  refine lv_istore_n (lv' := [(2, .int v_1), (0, .ref (o 0)), (1, .int x1)]) hx hb d_I_beginIf_8 rfl hl (by decide) rfl (fun ls hl => ?_)
  refine lv_aload_n hx hb d_I_beginIf_9 rfl (lv_at hl 1 rfl) ?_
  refine g_I_25_I X Z d_I_beginIf_10 ?_
  refine lv_iload_n hx hb d_I_beginIf_13 rfl (lv_at hl 2 rfl) ?_
  refine lv_iload_n hx hb d_I_beginIf_14 rfl (lv_at hl 0 rfl) ?_
  obtain ⟨v_3, e_4, hf⟩ := sr_b hf
  refine sr_cVi (As := [.int x1, .int v_1]) (rest := []) X Z cut_IP (k_IP hK) (c_P_childAfter e_4) (cw_I_213 X.2.2.2.2.2.1 (by decide)) 0 rfl rfl rfl hl rfl (Nat.le_of_ble_eq_true rfl) d_I_beginIf_15 (fun H locs Z => ?_)
  refine lv_istore_n (lv' := [(3, .int v_3), (2, .int v_1), (0, .ref (o 0)), (1, .int x1)]) hx hb d_I_beginIf_18 rfl hl (by decide) rfl (fun ls hl => ?_)
  refine lv_aload_n hx hb d_I_beginIf_19 rfl (lv_at hl 2 rfl) ?_
  refine lv_iload_n hx hb d_I_beginIf_20 rfl (lv_at hl 3 rfl) ?_
  obtain ⟨v_5, e_6, hf⟩ := sr_b hf
  refine sr_cVi (As := [.int x1]) (rest := []) X Z sr_cut_self hK (c_I_conditionHolds e_6) (cw_I_216 X.2.2.2.2.2.1 (by decide)) 15 rfl rfl rfl hl rfl (Nat.le_of_ble_eq_true rfl) d_I_beginIf_21 (fun H locs Z => ?_)
  refine lv_istore (lv' := [(4, .int v_5), (3, .int v_3), (2, .int v_1), (0, .ref (o 0)), (1, .int x1)]) hx hb d_I_beginIf_24 hl (by decide) rfl (fun ls hl => ?_)
  refine lv_iload hx hb d_I_beginIf_26 (lv_at hl 0 rfl) ?_
  refine lv_if_eq (tgt := 35) hx hb d_I_beginIf_28 rfl (fun q_7 => ?_) (fun q_7 => ?_)
  · have hf := sr_it q_7 hf
    refine lv_iload_n hx hb d_I_beginIf_35 rfl (lv_at hl 1 rfl) ?_
    exact k_I_beginIf_36 X Z (lv_sub hl [3, 4, 2, 1, 0] rfl) hf
  · have hf := sr_if q_7 hf
    refine lv_iload_n hx hb d_I_beginIf_31 rfl (lv_at hl 2 rfl) ?_
    refine lv_goto (tgt := 36) hx hb d_I_beginIf_32 rfl ?_
    exact k_I_beginIf_36 X Z (lv_sub hl [3, 4, 2, 1, 0] rfl) hf
end
set_option maxHeartbeats 4000000 in
set_option maxRecDepth 100000 in
theorem c_I_beginIf {l : Launch} {D : va_G} {h : Nat → Nat} {t : Nat → ClassId} {o : Nat → Nat} {v : Nat → ClassId} {sz : Nat} {p0 : St} {x1 : Int32} {i0 : St} {i' : St} (hf : f_I_beginIf p0 x1 i0 = some i') : sr_Cv l y_I_beginIf w_I_beginIf (sr_rm 3 66) D (tI t v) (wI h t o v p0 i0) (wI h t o v p0 i') sz [.ref (o 0), .int x1] := by
  refine Met.ofW (cc := b_I_beginIf) (maxL := 7) (ret := none) (by decide) rfl ?_
  intro p e s m args below meth c s₁ B hml hv
  obtain ⟨rfl, hsz, hP, hK, hD0⟩ := hv
  subst hsz
  have X : sr_X D (tI t v) b_I_beginIf 7 R_I w_I_beginIf p s m _ meth c (va_A (wI h t o v p0 i0) s.heap.size) none := ⟨B.exec, B.bytes, hml, findClass_of_methodNamed B.named, B.notSynchronized, atoms_spec (ws := w_I_beginIf) B.pre, hK, fun q h => Or.inr h, B.returns⟩
  have Z : sr_Z D (va_A (wI h t o v p0 i0) s.heap.size) s.heap (wI h t o v p0 i0) s.heap [] := ⟨hP, hD0.self, va_S.rf⟩
  have hl := lv_entry ([.ref (o 0), .int x1] : List Value) (n := 7) (Nat.le_of_ble_eq_true rfl)
  rw [lg_entry_eq]
  exact k_I_beginIf_0 X Z hl hf
/-! I_beginScope -/
theorem d_I_beginScope_0 : decode b_I_beginScope 0 = .ok (.aload_n 0, 1) := by decide +kernel
theorem d_I_beginScope_1 : decode b_I_beginScope 1 = .ok (.getfield 9, 3) := by decide +kernel
theorem d_I_beginScope_4 : decode b_I_beginScope 4 = .ok (.iload_n 1, 1) := by decide +kernel
theorem d_I_beginScope_5 : decode b_I_beginScope 5 = .ok (.iconst 2, 1) := by decide +kernel
theorem d_I_beginScope_6 : decode b_I_beginScope 6 = .ok (.iastore, 1) := by decide +kernel
theorem d_I_beginScope_7 : decode b_I_beginScope 7 = .ok (.aload_n 0, 1) := by decide +kernel
theorem d_I_beginScope_8 : decode b_I_beginScope 8 = .ok (.getfield 50, 3) := by decide +kernel
theorem d_I_beginScope_11 : decode b_I_beginScope 11 = .ok (.getfield 229, 3) := by decide +kernel
theorem d_I_beginScope_14 : decode b_I_beginScope 14 = .ok (.iload_n 1, 1) := by decide +kernel
theorem d_I_beginScope_15 : decode b_I_beginScope 15 = .ok (.iconst 0, 1) := by decide +kernel
theorem d_I_beginScope_16 : decode b_I_beginScope 16 = .ok (.iastore, 1) := by decide +kernel
theorem d_I_beginScope_17 : decode b_I_beginScope 17 = .ok (.aload_n 0, 1) := by decide +kernel
theorem d_I_beginScope_18 : decode b_I_beginScope 18 = .ok (.getfield 64, 3) := by decide +kernel
theorem d_I_beginScope_21 : decode b_I_beginScope 21 = .ok (.iload_n 1, 1) := by decide +kernel
theorem d_I_beginScope_22 : decode b_I_beginScope 22 = .ok (.invokevirtual 232, 3) := by decide +kernel
theorem d_I_beginScope_25 : decode b_I_beginScope 25 = .ok (.aload_n 0, 1) := by decide +kernel
theorem d_I_beginScope_26 : decode b_I_beginScope 26 = .ok (.aload_n 0, 1) := by decide +kernel
theorem d_I_beginScope_27 : decode b_I_beginScope 27 = .ok (.getfield 25, 3) := by decide +kernel
theorem d_I_beginScope_30 : decode b_I_beginScope 30 = .ok (.iload_n 1, 1) := by decide +kernel
theorem d_I_beginScope_31 : decode b_I_beginScope 31 = .ok (.invokevirtual 195, 3) := by decide +kernel
theorem d_I_beginScope_34 : decode b_I_beginScope 34 = .ok (.iload_n 1, 1) := by decide +kernel
theorem d_I_beginScope_35 : decode b_I_beginScope 35 = .ok (.invokevirtual 198, 3) := by decide +kernel
theorem d_I_beginScope_38 : decode b_I_beginScope 38 = .ok (.return_, 1) := by decide +kernel
section
variable {p : Program} {l : Launch} {e : Env} {s : State} {m : MethodId} {args : Array Value} {below : List Frame} {meth : Method} {c : Code} {H : Heap} {locs : List Loc} {ls : Array Slot} {D : va_G} {A : Nat → Prop} {h o : Nat → Nat} {t v : Nat → ClassId}
def f_I_beginScope (p0 : St) (x1 : Int32) (i0 : St) : Option (St) :=
  (sr_ast 24 i0 4 x1 2).bind fun i_1 =>
  (sr_ast 24 i_1 12 x1 0).bind fun i_3 =>
  (f_E_clear p0 x1 i_3).bind fun i_5 =>
  (f_P_firstChild p0 x1).bind fun v_7 =>
  (f_I_openOrComplete p0 v_7 x1 i_5).bind fun i_9 =>
  some i_9
set_option maxHeartbeats 4000000 in
set_option maxRecDepth 100000 in
theorem k_I_beginScope_0 {p0 : St} {x1 : Int32} {i0 : St} {i' : St} (X : sr_X D (tI t v) b_I_beginScope 2 R_I w_I_beginScope p s m args meth c A none) (Z : sr_Z D A s.heap (wI h t o v p0 i0) H locs) (hl : lv_has ls 2 [(0, .ref (o 0)), (1, .int x1)]) (hf : f_I_beginScope p0 x1 i0 = some i') : W p l e (sr_rm 2 44) s m args below meth c H locs 0 0 (sr_Qv D (tI t v) below args s A (wI h t o v p0 i')) (F0 m 0 ls []) := by
  have hx := X.1
  have hb := X.2.1
  have hK := X.2.2.2.2.2.2.1
  unfold f_I_beginScope at hf
  refine lv_aload_n hx hb d_I_beginScope_0 rfl (lv_at hl 0 rfl) ?_
  refine g_I_9_I X Z d_I_beginScope_1 ?_
  refine lv_iload_n hx hb d_I_beginScope_4 rfl (lv_at hl 1 rfl) ?_
  refine lv_iconst (v := 2) hx hb d_I_beginScope_5 (by decide) ?_
  obtain ⟨i_1, e_2, hf⟩ := sr_b hf
  refine sr_iast (wf := (fun q => (wI h t o v p0 q))) hx hb hK Z 20 14 rfl rfl e_2 (fun _ => rfl) d_I_beginScope_6 (fun H locs Z => ?_)
  refine lv_aload_n hx hb d_I_beginScope_7 rfl (lv_at hl 0 rfl) ?_
  refine g_I_50_I X Z d_I_beginScope_8 ?_
  refine g_I_229_I X Z d_I_beginScope_11 ?_
  refine lv_iload_n hx hb d_I_beginScope_14 rfl (lv_at hl 1 rfl) ?_
  refine lv_iconst (v := 0) hx hb d_I_beginScope_15 (by decide) ?_
  obtain ⟨i_3, e_4, hf⟩ := sr_b hf
  refine sr_iast (wf := (fun q => (wI h t o v p0 q))) hx hb hK Z 25 19 rfl rfl e_4 (fun _ => rfl) d_I_beginScope_16 (fun H locs Z => ?_)
  refine lv_aload_n hx hb d_I_beginScope_17 rfl (lv_at hl 0 rfl) ?_
  refine g_I_64_I X Z d_I_beginScope_18 ?_
  refine lv_iload_n hx hb d_I_beginScope_21 rfl (lv_at hl 1 rfl) ?_
  obtain ⟨i_5, e_6, hf⟩ := sr_b hf
  refine sr_cVv (As := [.int x1]) (rest := []) X Z sr_cut_self hK (c_E_clear e_6) (cw_I_232 X.2.2.2.2.2.1 (by decide)) 18 rfl rfl rfl hl rfl (Nat.le_of_ble_eq_true rfl) d_I_beginScope_22 (fun H locs Z => ?_)
  refine lv_aload_n hx hb d_I_beginScope_25 rfl (lv_at hl 0 rfl) ?_
  refine lv_aload_n hx hb d_I_beginScope_26 rfl (lv_at hl 0 rfl) ?_
  refine g_I_25_I X Z d_I_beginScope_27 ?_
  refine lv_iload_n hx hb d_I_beginScope_30 rfl (lv_at hl 1 rfl) ?_
  obtain ⟨v_7, e_8, hf⟩ := sr_b hf
  refine sr_cVi (As := [.int x1]) (rest := [.ref (o 0)]) X Z cut_IP (k_IP hK) (c_P_firstChild e_8) (cw_I_195 X.2.2.2.2.2.1 (by decide)) 0 rfl rfl rfl hl rfl (Nat.le_of_ble_eq_true rfl) d_I_beginScope_31 (fun H locs Z => ?_)
  refine lv_iload_n hx hb d_I_beginScope_34 rfl (lv_at hl 1 rfl) ?_
  obtain ⟨i_9, e_10, hf⟩ := sr_b hf
  refine sr_cVv (As := [.int v_7, .int x1]) (rest := []) X Z sr_cut_self hK (c_I_openOrComplete e_10) (cw_I_198 X.2.2.2.2.2.1 (by decide)) 15 rfl rfl rfl hl rfl (Nat.le_of_ble_eq_true rfl) d_I_beginScope_35 (fun H locs Z => ?_)
  cases hf
  exact sr_retv X Z d_I_beginScope_38
end
set_option maxHeartbeats 4000000 in
set_option maxRecDepth 100000 in
theorem c_I_beginScope {l : Launch} {D : va_G} {h : Nat → Nat} {t : Nat → ClassId} {o : Nat → Nat} {v : Nat → ClassId} {sz : Nat} {p0 : St} {x1 : Int32} {i0 : St} {i' : St} (hf : f_I_beginScope p0 x1 i0 = some i') : sr_Cv l y_I_beginScope w_I_beginScope (sr_rm 2 44) D (tI t v) (wI h t o v p0 i0) (wI h t o v p0 i') sz [.ref (o 0), .int x1] := by
  refine Met.ofW (cc := b_I_beginScope) (maxL := 2) (ret := none) (by decide) rfl ?_
  intro p e s m args below meth c s₁ B hml hv
  obtain ⟨rfl, hsz, hP, hK, hD0⟩ := hv
  subst hsz
  have X : sr_X D (tI t v) b_I_beginScope 2 R_I w_I_beginScope p s m _ meth c (va_A (wI h t o v p0 i0) s.heap.size) none := ⟨B.exec, B.bytes, hml, findClass_of_methodNamed B.named, B.notSynchronized, atoms_spec (ws := w_I_beginScope) B.pre, hK, fun q h => Or.inr h, B.returns⟩
  have Z : sr_Z D (va_A (wI h t o v p0 i0) s.heap.size) s.heap (wI h t o v p0 i0) s.heap [] := ⟨hP, hD0.self, va_S.rf⟩
  have hl := lv_entry ([.ref (o 0), .int x1] : List Value) (n := 2) (Nat.le_of_ble_eq_true rfl)
  rw [lg_entry_eq]
  exact k_I_beginScope_0 X Z hl hf
/-! I_begin -/
theorem d_I_begin_0 : decode b_I_begin 0 = .ok (.aload_n 0, 1) := by decide +kernel
theorem d_I_begin_1 : decode b_I_begin 1 = .ok (.getfield 25, 3) := by decide +kernel
theorem d_I_begin_4 : decode b_I_begin 4 = .ok (.getfield 141, 3) := by decide +kernel
theorem d_I_begin_7 : decode b_I_begin 7 = .ok (.iload_n 1, 1) := by decide +kernel
theorem d_I_begin_8 : decode b_I_begin 8 = .ok (.iaload, 1) := by decide +kernel
theorem d_I_begin_9 : decode b_I_begin 9 = .ok (.istore_n 2, 1) := by decide +kernel
theorem d_I_begin_10 : decode b_I_begin 10 = .ok (.aload_n 0, 1) := by decide +kernel
theorem d_I_begin_11 : decode b_I_begin 11 = .ok (.getfield 25, 3) := by decide +kernel
theorem d_I_begin_14 : decode b_I_begin 14 = .ok (.getfield 116, 3) := by decide +kernel
theorem d_I_begin_17 : decode b_I_begin 17 = .ok (.iload_n 1, 1) := by decide +kernel
theorem d_I_begin_18 : decode b_I_begin 18 = .ok (.iaload, 1) := by decide +kernel
theorem d_I_begin_19 : decode b_I_begin 19 = .ok (.istore_n 3, 1) := by decide +kernel
theorem d_I_begin_20 : decode b_I_begin 20 = .ok (.aload_n 0, 1) := by decide +kernel
theorem d_I_begin_21 : decode b_I_begin 21 = .ok (.getfield 71, 3) := by decide +kernel
theorem d_I_begin_24 : decode b_I_begin 24 = .ok (.iconst 1, 1) := by decide +kernel
theorem d_I_begin_25 : decode b_I_begin 25 = .ok (.iload_n 1, 1) := by decide +kernel
theorem d_I_begin_26 : decode b_I_begin 26 = .ok (.invokevirtual 144, 3) := by decide +kernel
theorem d_I_begin_29 : decode b_I_begin 29 = .ok (.aload_n 0, 1) := by decide +kernel
theorem d_I_begin_30 : decode b_I_begin 30 = .ok (.getfield 25, 3) := by decide +kernel
theorem d_I_begin_33 : decode b_I_begin 33 = .ok (.getfield 126, 3) := by decide +kernel
theorem d_I_begin_36 : decode b_I_begin 36 = .ok (.iload_n 1, 1) := by decide +kernel
theorem d_I_begin_37 : decode b_I_begin 37 = .ok (.iaload, 1) := by decide +kernel
theorem d_I_begin_38 : decode b_I_begin 38 = .ok (.tableswitch 230 1 12 #[62, 90, 116, 125, 147, 155, 165, 175, 198, 206, 214, 222], 62) := by decide +kernel
theorem d_I_begin_100 : decode b_I_begin 100 = .ok (.aload_n 0, 1) := by decide +kernel
theorem d_I_begin_101 : decode b_I_begin 101 = .ok (.getfield 50, 3) := by decide +kernel
theorem d_I_begin_104 : decode b_I_begin 104 = .ok (.iload_n 1, 1) := by decide +kernel
theorem d_I_begin_105 : decode b_I_begin 105 = .ok (.iload_n 2, 1) := by decide +kernel
theorem d_I_begin_106 : decode b_I_begin 106 = .ok (.aload_n 0, 1) := by decide +kernel
theorem d_I_begin_107 : decode b_I_begin 107 = .ok (.getfield 50, 3) := by decide +kernel
theorem d_I_begin_110 : decode b_I_begin 110 = .ok (.iload_n 1, 1) := by decide +kernel
theorem d_I_begin_111 : decode b_I_begin 111 = .ok (.iload_n 2, 1) := by decide +kernel
theorem d_I_begin_112 : decode b_I_begin 112 = .ok (.invokevirtual 182, 3) := by decide +kernel
theorem d_I_begin_115 : decode b_I_begin 115 = .ok (.iload_n 3, 1) := by decide +kernel
theorem d_I_begin_116 : decode b_I_begin 116 = .ok (.iadd, 1) := by decide +kernel
theorem d_I_begin_117 : decode b_I_begin 117 = .ok (.invokevirtual 119, 3) := by decide +kernel
theorem d_I_begin_120 : decode b_I_begin 120 = .ok (.aload_n 0, 1) := by decide +kernel
theorem d_I_begin_121 : decode b_I_begin 121 = .ok (.iload_n 1, 1) := by decide +kernel
theorem d_I_begin_122 : decode b_I_begin 122 = .ok (.invokevirtual 123, 3) := by decide +kernel
theorem d_I_begin_125 : decode b_I_begin 125 = .ok (.goto 148, 3) := by decide +kernel
theorem d_I_begin_128 : decode b_I_begin 128 = .ok (.aload_n 0, 1) := by decide +kernel
theorem d_I_begin_129 : decode b_I_begin 129 = .ok (.getfield 50, 3) := by decide +kernel
theorem d_I_begin_132 : decode b_I_begin 132 = .ok (.iload_n 1, 1) := by decide +kernel
theorem d_I_begin_133 : decode b_I_begin 133 = .ok (.iload_n 2, 1) := by decide +kernel
theorem d_I_begin_134 : decode b_I_begin 134 = .ok (.aload_n 0, 1) := by decide +kernel
theorem d_I_begin_135 : decode b_I_begin 135 = .ok (.getfield 50, 3) := by decide +kernel
theorem d_I_begin_138 : decode b_I_begin 138 = .ok (.iload_n 1, 1) := by decide +kernel
theorem d_I_begin_139 : decode b_I_begin 139 = .ok (.iload_n 3, 1) := by decide +kernel
theorem d_I_begin_140 : decode b_I_begin 140 = .ok (.invokevirtual 182, 3) := by decide +kernel
theorem d_I_begin_143 : decode b_I_begin 143 = .ok (.invokevirtual 119, 3) := by decide +kernel
theorem d_I_begin_146 : decode b_I_begin 146 = .ok (.aload_n 0, 1) := by decide +kernel
theorem d_I_begin_147 : decode b_I_begin 147 = .ok (.iload_n 1, 1) := by decide +kernel
theorem d_I_begin_148 : decode b_I_begin 148 = .ok (.invokevirtual 123, 3) := by decide +kernel
theorem d_I_begin_151 : decode b_I_begin 151 = .ok (.goto 122, 3) := by decide +kernel
theorem d_I_begin_154 : decode b_I_begin 154 = .ok (.aload_n 0, 1) := by decide +kernel
theorem d_I_begin_155 : decode b_I_begin 155 = .ok (.iload_n 1, 1) := by decide +kernel
theorem d_I_begin_156 : decode b_I_begin 156 = .ok (.iload_n 2, 1) := by decide +kernel
theorem d_I_begin_157 : decode b_I_begin 157 = .ok (.invokevirtual 131, 3) := by decide +kernel
theorem d_I_begin_160 : decode b_I_begin 160 = .ok (.goto 113, 3) := by decide +kernel
theorem d_I_begin_163 : decode b_I_begin 163 = .ok (.aload_n 0, 1) := by decide +kernel
theorem d_I_begin_164 : decode b_I_begin 164 = .ok (.iload_n 1, 1) := by decide +kernel
theorem d_I_begin_165 : decode b_I_begin 165 = .ok (.aload_n 0, 1) := by decide +kernel
theorem d_I_begin_166 : decode b_I_begin 166 = .ok (.getfield 15, 3) := by decide +kernel
theorem d_I_begin_169 : decode b_I_begin 169 = .ok (.aload_n 0, 1) := by decide +kernel
theorem d_I_begin_170 : decode b_I_begin 170 = .ok (.getfield 25, 3) := by decide +kernel
theorem d_I_begin_173 : decode b_I_begin 173 = .ok (.getfield 186, 3) := by decide +kernel
theorem d_I_begin_176 : decode b_I_begin 176 = .ok (.iload_n 1, 1) := by decide +kernel
theorem d_I_begin_177 : decode b_I_begin 177 = .ok (.iaload, 1) := by decide +kernel
theorem d_I_begin_178 : decode b_I_begin 178 = .ok (.iaload, 1) := by decide +kernel
theorem d_I_begin_179 : decode b_I_begin 179 = .ok (.invokevirtual 131, 3) := by decide +kernel
theorem d_I_begin_182 : decode b_I_begin 182 = .ok (.goto 91, 3) := by decide +kernel
theorem d_I_begin_185 : decode b_I_begin 185 = .ok (.aload_n 0, 1) := by decide +kernel
theorem d_I_begin_186 : decode b_I_begin 186 = .ok (.iload_n 1, 1) := by decide +kernel
theorem d_I_begin_187 : decode b_I_begin 187 = .ok (.invokevirtual 189, 3) := by decide +kernel
theorem d_I_begin_190 : decode b_I_begin 190 = .ok (.goto 83, 3) := by decide +kernel
theorem d_I_begin_193 : decode b_I_begin 193 = .ok (.aload_n 0, 1) := by decide +kernel
theorem d_I_begin_194 : decode b_I_begin 194 = .ok (.getfield 9, 3) := by decide +kernel
theorem d_I_begin_197 : decode b_I_begin 197 = .ok (.iload_n 1, 1) := by decide +kernel
theorem d_I_begin_198 : decode b_I_begin 198 = .ok (.iconst 3, 1) := by decide +kernel
theorem d_I_begin_199 : decode b_I_begin 199 = .ok (.iastore, 1) := by decide +kernel
theorem d_I_begin_200 : decode b_I_begin 200 = .ok (.goto 73, 3) := by decide +kernel
theorem d_I_begin_203 : decode b_I_begin 203 = .ok (.aload_n 0, 1) := by decide +kernel
theorem d_I_begin_204 : decode b_I_begin 204 = .ok (.iload_n 1, 1) := by decide +kernel
theorem d_I_begin_205 : decode b_I_begin 205 = .ok (.bipush 7, 2) := by decide +kernel
theorem d_I_begin_207 : decode b_I_begin 207 = .ok (.invokevirtual 192, 3) := by decide +kernel
theorem d_I_begin_210 : decode b_I_begin 210 = .ok (.goto 63, 3) := by decide +kernel
theorem d_I_begin_213 : decode b_I_begin 213 = .ok (.aload_n 0, 1) := by decide +kernel
theorem d_I_begin_214 : decode b_I_begin 214 = .ok (.getfield 9, 3) := by decide +kernel
theorem d_I_begin_217 : decode b_I_begin 217 = .ok (.iload_n 1, 1) := by decide +kernel
theorem d_I_begin_218 : decode b_I_begin 218 = .ok (.iconst 2, 1) := by decide +kernel
theorem d_I_begin_219 : decode b_I_begin 219 = .ok (.iastore, 1) := by decide +kernel
theorem d_I_begin_220 : decode b_I_begin 220 = .ok (.aload_n 0, 1) := by decide +kernel
theorem d_I_begin_221 : decode b_I_begin 221 = .ok (.aload_n 0, 1) := by decide +kernel
theorem d_I_begin_222 : decode b_I_begin 222 = .ok (.getfield 25, 3) := by decide +kernel
theorem d_I_begin_225 : decode b_I_begin 225 = .ok (.iload_n 1, 1) := by decide +kernel
theorem d_I_begin_226 : decode b_I_begin 226 = .ok (.invokevirtual 195, 3) := by decide +kernel
theorem d_I_begin_229 : decode b_I_begin 229 = .ok (.iload_n 1, 1) := by decide +kernel
theorem d_I_begin_230 : decode b_I_begin 230 = .ok (.invokevirtual 198, 3) := by decide +kernel
theorem d_I_begin_233 : decode b_I_begin 233 = .ok (.goto 40, 3) := by decide +kernel
theorem d_I_begin_236 : decode b_I_begin 236 = .ok (.aload_n 0, 1) := by decide +kernel
theorem d_I_begin_237 : decode b_I_begin 237 = .ok (.iload_n 1, 1) := by decide +kernel
theorem d_I_begin_238 : decode b_I_begin 238 = .ok (.invokevirtual 201, 3) := by decide +kernel
theorem d_I_begin_241 : decode b_I_begin 241 = .ok (.goto 32, 3) := by decide +kernel
theorem d_I_begin_244 : decode b_I_begin 244 = .ok (.aload_n 0, 1) := by decide +kernel
theorem d_I_begin_245 : decode b_I_begin 245 = .ok (.iload_n 1, 1) := by decide +kernel
theorem d_I_begin_246 : decode b_I_begin 246 = .ok (.invokevirtual 204, 3) := by decide +kernel
theorem d_I_begin_249 : decode b_I_begin 249 = .ok (.goto 24, 3) := by decide +kernel
theorem d_I_begin_252 : decode b_I_begin 252 = .ok (.aload_n 0, 1) := by decide +kernel
theorem d_I_begin_253 : decode b_I_begin 253 = .ok (.iload_n 1, 1) := by decide +kernel
theorem d_I_begin_254 : decode b_I_begin 254 = .ok (.invokevirtual 93, 3) := by decide +kernel
theorem d_I_begin_257 : decode b_I_begin 257 = .ok (.goto 16, 3) := by decide +kernel
theorem d_I_begin_260 : decode b_I_begin 260 = .ok (.aload_n 0, 1) := by decide +kernel
theorem d_I_begin_261 : decode b_I_begin 261 = .ok (.iload_n 1, 1) := by decide +kernel
theorem d_I_begin_262 : decode b_I_begin 262 = .ok (.invokevirtual 207, 3) := by decide +kernel
theorem d_I_begin_265 : decode b_I_begin 265 = .ok (.goto 8, 3) := by decide +kernel
theorem d_I_begin_268 : decode b_I_begin 268 = .ok (.aload_n 0, 1) := by decide +kernel
theorem d_I_begin_269 : decode b_I_begin 269 = .ok (.iload_n 1, 1) := by decide +kernel
theorem d_I_begin_270 : decode b_I_begin 270 = .ok (.invokevirtual 123, 3) := by decide +kernel
theorem d_I_begin_273 : decode b_I_begin 273 = .ok (.return_, 1) := by decide +kernel
section
variable {p : Program} {l : Launch} {e : Env} {s : State} {m : MethodId} {args : Array Value} {below : List Frame} {meth : Method} {c : Code} {H : Heap} {locs : List Loc} {ls : Array Slot} {D : va_G} {A : Nat → Prop} {h o : Nat → Nat} {t v : Nat → ClassId}
def f_I_begin (p0 : St) (x1 : Int32) (i0 : St) : Option (St) :=
  (sr_ald 24 (p0 3) x1).bind fun v_1 =>
  (sr_ald 24 (p0 4) x1).bind fun v_3 =>
  (f_G_write p0 1 x1 i0).bind fun i_5 =>
  (sr_ald 24 (p0 2) x1).bind fun v_7 =>
  (some v_7).bind fun w_9 =>
  if w_9 = 1 then
    (f_V_read p0 i_5 x1 v_1).bind fun v_12 =>
    (f_V_write p0 x1 v_1 (v_12 + v_3) i_5).bind fun i_14 =>
    (f_I_completes p0 x1 i_14).bind fun i_16 =>
    some i_16
  else
  if w_9 = 2 then
    (f_V_read p0 i_5 x1 v_3).bind fun v_19 =>
    (f_V_write p0 x1 v_1 v_19 i_5).bind fun i_21 =>
    (f_I_completes p0 x1 i_21).bind fun i_23 =>
    some i_23
  else
  if w_9 = 3 then
    (f_I_faults p0 x1 v_1 i_5).bind fun i_26 =>
    some i_26
  else
  if w_9 = 4 then
    (sr_ald 24 (p0 6) x1).bind fun v_29 =>
    (sr_ald 24 (i_5 5) v_29).bind fun v_31 =>
    (f_I_faults p0 x1 v_31 i_5).bind fun i_33 =>
    some i_33
  else
  if w_9 = 5 then
    (f_I_beginReceive p0 x1 i_5).bind fun i_36 =>
    some i_36
  else
  if w_9 = 6 then
    (sr_ast 24 i_5 4 x1 3).bind fun i_39 =>
    some i_39
  else
  if w_9 = 7 then
    (f_I_becomeUndoer p0 x1 7 i_5).bind fun i_42 =>
    some i_42
  else
  if w_9 = 8 then
    (sr_ast 24 i_5 4 x1 2).bind fun i_45 =>
    (f_P_firstChild p0 x1).bind fun v_47 =>
    (f_I_openOrComplete p0 v_47 x1 i_45).bind fun i_49 =>
    some i_49
  else
  if w_9 = 9 then
    (f_I_beginFlow p0 x1 i_5).bind fun i_52 =>
    some i_52
  else
  if w_9 = 10 then
    (f_I_beginIf p0 x1 i_5).bind fun i_55 =>
    some i_55
  else
  if w_9 = 11 then
    (f_I_loop p0 x1 i_5).bind fun i_58 =>
    some i_58
  else
  if w_9 = 12 then
    (f_I_beginScope p0 x1 i_5).bind fun i_61 =>
    some i_61
  else
  (f_I_completes p0 x1 i_5).bind fun i_63 =>
  some i_63
set_option maxHeartbeats 4000000 in
set_option maxRecDepth 100000 in
theorem k_I_begin_0 {p0 : St} {x1 : Int32} {i0 : St} {i' : St} (X : sr_X D (tI t v) b_I_begin 4 R_I w_I_begin p s m args meth c A none) (Z : sr_Z D A s.heap (wI h t o v p0 i0) H locs) (hl : lv_has ls 4 [(0, .ref (o 0)), (1, .int x1)]) (hf : f_I_begin p0 x1 i0 = some i') : W p l e (sr_rm 4 92) s m args below meth c H locs 0 0 (sr_Qv D (tI t v) below args s A (wI h t o v p0 i')) (F0 m 0 ls []) := by
  have hx := X.1
  have hb := X.2.1
  have hK := X.2.2.2.2.2.2.1
  unfold f_I_begin at hf
  refine lv_aload_n hx hb d_I_begin_0 rfl (lv_at hl 0 rfl) ?_
  refine g_I_25_I X Z d_I_begin_1 ?_
  refine g_I_141_I X Z d_I_begin_4 ?_
  refine lv_iload_n hx hb d_I_begin_7 rfl (lv_at hl 1 rfl) ?_
  obtain ⟨v_1, e_2, hf⟩ := sr_b hf
  refine sr_iald hx hb hK Z 4 3 rfl rfl e_2 d_I_begin_8 ?_
  refine lv_istore_n (lv' := [(2, .int v_1), (0, .ref (o 0)), (1, .int x1)]) hx hb d_I_begin_9 rfl hl (by decide) rfl (fun ls hl => ?_)
  refine lv_aload_n hx hb d_I_begin_10 rfl (lv_at hl 1 rfl) ?_
  refine g_I_25_I X Z d_I_begin_11 ?_
  refine g_I_116_I X Z d_I_begin_14 ?_
  refine lv_iload_n hx hb d_I_begin_17 rfl (lv_at hl 2 rfl) ?_
  obtain ⟨v_3, e_4, hf⟩ := sr_b hf
  refine sr_iald hx hb hK Z 5 4 rfl rfl e_4 d_I_begin_18 ?_
  refine lv_istore_n (lv' := [(3, .int v_3), (2, .int v_1), (0, .ref (o 0)), (1, .int x1)]) hx hb d_I_begin_19 rfl hl (by decide) rfl (fun ls hl => ?_)
  refine lv_aload_n hx hb d_I_begin_20 rfl (lv_at hl 2 rfl) ?_
  refine g_I_71_I X Z d_I_begin_21 ?_
  refine lv_iconst (v := 1) hx hb d_I_begin_24 (by decide) ?_
  refine lv_iload_n hx hb d_I_begin_25 rfl (lv_at hl 3 rfl) ?_
  obtain ⟨i_5, e_6, hf⟩ := sr_b hf
  refine sr_cVv (As := [.int 1, .int x1]) (rest := []) X Z sr_cut_self hK (c_G_write e_6) (cw_I_144 X.2.2.2.2.2.1 (by decide)) 19 rfl rfl rfl hl rfl (Nat.le_of_ble_eq_true rfl) d_I_begin_26 (fun H locs Z => ?_)
  refine lv_aload_n hx hb d_I_begin_29 rfl (lv_at hl 2 rfl) ?_
  refine g_I_25_I X Z d_I_begin_30 ?_
  refine g_I_126_I X Z d_I_begin_33 ?_
  refine lv_iload_n hx hb d_I_begin_36 rfl (lv_at hl 3 rfl) ?_
  obtain ⟨v_7, e_8, hf⟩ := sr_b hf
  refine sr_iald hx hb hK Z 3 2 rfl rfl e_8 d_I_begin_37 ?_
  obtain ⟨w_9, e_10, hf⟩ := sr_b hf
  refine sr_nm e_10 ?_
  by_cases q_11 : w_9 = 1
  · have hf := sr_it q_11 hf
    rw [q_11]
    refine lv_tableIn (tgt := 100) hx hb d_I_begin_38 (by decide) (by decide) rfl rfl ?_
    refine lv_aload_n hx hb d_I_begin_100 rfl (lv_at hl 2 rfl) ?_
    refine g_I_50_I X Z d_I_begin_101 ?_
    refine lv_iload_n hx hb d_I_begin_104 rfl (lv_at hl 3 rfl) ?_
    refine lv_iload_n hx hb d_I_begin_105 rfl (lv_at hl 1 rfl) ?_
    refine lv_aload_n hx hb d_I_begin_106 rfl (lv_at hl 2 rfl) ?_
    refine g_I_50_I X Z d_I_begin_107 ?_
    refine lv_iload_n hx hb d_I_begin_110 rfl (lv_at hl 3 rfl) ?_
    refine lv_iload_n hx hb d_I_begin_111 rfl (lv_at hl 1 rfl) ?_
    obtain ⟨v_12, e_13, hf⟩ := sr_b hf
    refine sr_cVi (As := [.int x1, .int v_1]) (rest := [.int v_1, .int x1, .ref (o 1)]) X Z sr_cut_self hK (c_V_read e_13) (cw_I_182 X.2.2.2.2.2.1 (by decide)) 16 rfl rfl rfl hl rfl (Nat.le_of_ble_eq_true rfl) d_I_begin_112 (fun H locs Z => ?_)
    refine lv_iload_n hx hb d_I_begin_115 rfl (lv_at hl 0 rfl) ?_
    refine lv_iadd hx hb d_I_begin_116 ?_
    obtain ⟨i_14, e_15, hf⟩ := sr_b hf
    refine sr_cVv (As := [.int x1, .int v_1, .int (v_12 + v_3)]) (rest := []) X Z sr_cut_self hK (c_V_write e_15) (cw_I_119 X.2.2.2.2.2.1 (by decide)) 16 rfl rfl rfl hl rfl (Nat.le_of_ble_eq_true rfl) d_I_begin_117 (fun H locs Z => ?_)
    refine lv_aload_n hx hb d_I_begin_120 rfl (lv_at hl 2 rfl) ?_
    refine lv_iload_n hx hb d_I_begin_121 rfl (lv_at hl 3 rfl) ?_
    obtain ⟨i_16, e_17, hf⟩ := sr_b hf
    refine sr_cVv (As := [.int x1]) (rest := []) X Z sr_cut_self hK (c_I_completes e_17) (cw_I_123 X.2.2.2.2.2.1 (by decide)) 15 rfl rfl rfl hl rfl (Nat.le_of_ble_eq_true rfl) d_I_begin_122 (fun H locs Z => ?_)
    refine lv_goto (tgt := 273) hx hb d_I_begin_125 rfl ?_
    cases hf
    exact sr_retv X Z d_I_begin_273
  have hf := sr_if q_11 hf
  by_cases q_18 : w_9 = 2
  · have hf := sr_it q_18 hf
    rw [q_18]
    refine lv_tableIn (tgt := 128) hx hb d_I_begin_38 (by decide) (by decide) rfl rfl ?_
    refine lv_aload_n hx hb d_I_begin_128 rfl (lv_at hl 2 rfl) ?_
    refine g_I_50_I X Z d_I_begin_129 ?_
    refine lv_iload_n hx hb d_I_begin_132 rfl (lv_at hl 3 rfl) ?_
    refine lv_iload_n hx hb d_I_begin_133 rfl (lv_at hl 1 rfl) ?_
    refine lv_aload_n hx hb d_I_begin_134 rfl (lv_at hl 2 rfl) ?_
    refine g_I_50_I X Z d_I_begin_135 ?_
    refine lv_iload_n hx hb d_I_begin_138 rfl (lv_at hl 3 rfl) ?_
    refine lv_iload_n hx hb d_I_begin_139 rfl (lv_at hl 0 rfl) ?_
    obtain ⟨v_19, e_20, hf⟩ := sr_b hf
    refine sr_cVi (As := [.int x1, .int v_3]) (rest := [.int v_1, .int x1, .ref (o 1)]) X Z sr_cut_self hK (c_V_read e_20) (cw_I_182 X.2.2.2.2.2.1 (by decide)) 16 rfl rfl rfl hl rfl (Nat.le_of_ble_eq_true rfl) d_I_begin_140 (fun H locs Z => ?_)
    obtain ⟨i_21, e_22, hf⟩ := sr_b hf
    refine sr_cVv (As := [.int x1, .int v_1, .int v_19]) (rest := []) X Z sr_cut_self hK (c_V_write e_22) (cw_I_119 X.2.2.2.2.2.1 (by decide)) 16 rfl rfl rfl hl rfl (Nat.le_of_ble_eq_true rfl) d_I_begin_143 (fun H locs Z => ?_)
    refine lv_aload_n hx hb d_I_begin_146 rfl (lv_at hl 2 rfl) ?_
    refine lv_iload_n hx hb d_I_begin_147 rfl (lv_at hl 3 rfl) ?_
    obtain ⟨i_23, e_24, hf⟩ := sr_b hf
    refine sr_cVv (As := [.int x1]) (rest := []) X Z sr_cut_self hK (c_I_completes e_24) (cw_I_123 X.2.2.2.2.2.1 (by decide)) 15 rfl rfl rfl hl rfl (Nat.le_of_ble_eq_true rfl) d_I_begin_148 (fun H locs Z => ?_)
    refine lv_goto (tgt := 273) hx hb d_I_begin_151 rfl ?_
    cases hf
    exact sr_retv X Z d_I_begin_273
  have hf := sr_if q_18 hf
  by_cases q_25 : w_9 = 3
  · have hf := sr_it q_25 hf
    rw [q_25]
    refine lv_tableIn (tgt := 154) hx hb d_I_begin_38 (by decide) (by decide) rfl rfl ?_
    refine lv_aload_n hx hb d_I_begin_154 rfl (lv_at hl 2 rfl) ?_
    refine lv_iload_n hx hb d_I_begin_155 rfl (lv_at hl 3 rfl) ?_
    refine lv_iload_n hx hb d_I_begin_156 rfl (lv_at hl 1 rfl) ?_
    obtain ⟨i_26, e_27, hf⟩ := sr_b hf
    refine sr_cVv (As := [.int x1, .int v_1]) (rest := []) X Z sr_cut_self hK (c_I_faults e_27) (cw_I_131 X.2.2.2.2.2.1 (by decide)) 15 rfl rfl rfl hl rfl (Nat.le_of_ble_eq_true rfl) d_I_begin_157 (fun H locs Z => ?_)
    refine lv_goto (tgt := 273) hx hb d_I_begin_160 rfl ?_
    cases hf
    exact sr_retv X Z d_I_begin_273
  have hf := sr_if q_25 hf
  by_cases q_28 : w_9 = 4
  · have hf := sr_it q_28 hf
    rw [q_28]
    refine lv_tableIn (tgt := 163) hx hb d_I_begin_38 (by decide) (by decide) rfl rfl ?_
    refine lv_aload_n hx hb d_I_begin_163 rfl (lv_at hl 2 rfl) ?_
    refine lv_iload_n hx hb d_I_begin_164 rfl (lv_at hl 3 rfl) ?_
    refine lv_aload_n hx hb d_I_begin_165 rfl (lv_at hl 2 rfl) ?_
    refine g_I_15_I X Z d_I_begin_166 ?_
    refine lv_aload_n hx hb d_I_begin_169 rfl (lv_at hl 2 rfl) ?_
    refine g_I_25_I X Z d_I_begin_170 ?_
    refine g_I_186_I X Z d_I_begin_173 ?_
    refine lv_iload_n hx hb d_I_begin_176 rfl (lv_at hl 3 rfl) ?_
    obtain ⟨v_29, e_30, hf⟩ := sr_b hf
    refine sr_iald hx hb hK Z 7 6 rfl rfl e_30 d_I_begin_177 ?_
    obtain ⟨v_31, e_32, hf⟩ := sr_b hf
    refine sr_iald hx hb hK Z 21 15 rfl rfl e_32 d_I_begin_178 ?_
    obtain ⟨i_33, e_34, hf⟩ := sr_b hf
    refine sr_cVv (As := [.int x1, .int v_31]) (rest := []) X Z sr_cut_self hK (c_I_faults e_34) (cw_I_131 X.2.2.2.2.2.1 (by decide)) 15 rfl rfl rfl hl rfl (Nat.le_of_ble_eq_true rfl) d_I_begin_179 (fun H locs Z => ?_)
    refine lv_goto (tgt := 273) hx hb d_I_begin_182 rfl ?_
    cases hf
    exact sr_retv X Z d_I_begin_273
  have hf := sr_if q_28 hf
  by_cases q_35 : w_9 = 5
  · have hf := sr_it q_35 hf
    rw [q_35]
    refine lv_tableIn (tgt := 185) hx hb d_I_begin_38 (by decide) (by decide) rfl rfl ?_
    refine lv_aload_n hx hb d_I_begin_185 rfl (lv_at hl 2 rfl) ?_
    refine lv_iload_n hx hb d_I_begin_186 rfl (lv_at hl 3 rfl) ?_
    obtain ⟨i_36, e_37, hf⟩ := sr_b hf
    refine sr_cVv (As := [.int x1]) (rest := []) X Z sr_cut_self hK (c_I_beginReceive e_37) (cw_I_189 X.2.2.2.2.2.1 (by decide)) 15 rfl rfl rfl hl rfl (Nat.le_of_ble_eq_true rfl) d_I_begin_187 (fun H locs Z => ?_)
    refine lv_goto (tgt := 273) hx hb d_I_begin_190 rfl ?_
    cases hf
    exact sr_retv X Z d_I_begin_273
  have hf := sr_if q_35 hf
  by_cases q_38 : w_9 = 6
  · have hf := sr_it q_38 hf
    rw [q_38]
    refine lv_tableIn (tgt := 193) hx hb d_I_begin_38 (by decide) (by decide) rfl rfl ?_
    refine lv_aload_n hx hb d_I_begin_193 rfl (lv_at hl 2 rfl) ?_
    refine g_I_9_I X Z d_I_begin_194 ?_
    refine lv_iload_n hx hb d_I_begin_197 rfl (lv_at hl 3 rfl) ?_
    refine lv_iconst (v := 3) hx hb d_I_begin_198 (by decide) ?_
    obtain ⟨i_39, e_40, hf⟩ := sr_b hf
    refine sr_iast (wf := (fun q => (wI h t o v p0 q))) hx hb hK Z 20 14 rfl rfl e_40 (fun _ => rfl) d_I_begin_199 (fun H locs Z => ?_)
    refine lv_goto (tgt := 273) hx hb d_I_begin_200 rfl ?_
    cases hf
    exact sr_retv X Z d_I_begin_273
  have hf := sr_if q_38 hf
  by_cases q_41 : w_9 = 7
  · have hf := sr_it q_41 hf
    rw [q_41]
    refine lv_tableIn (tgt := 203) hx hb d_I_begin_38 (by decide) (by decide) rfl rfl ?_
    refine lv_aload_n hx hb d_I_begin_203 rfl (lv_at hl 2 rfl) ?_
    refine lv_iload_n hx hb d_I_begin_204 rfl (lv_at hl 3 rfl) ?_
    refine lv_bipush (v := 7) hx hb d_I_begin_205 (by decide) ?_
    obtain ⟨i_42, e_43, hf⟩ := sr_b hf
    refine sr_cVv (As := [.int x1, .int 7]) (rest := []) X Z sr_cut_self hK (c_I_becomeUndoer e_43) (cw_I_192 X.2.2.2.2.2.1 (by decide)) 15 rfl rfl rfl hl rfl (Nat.le_of_ble_eq_true rfl) d_I_begin_207 (fun H locs Z => ?_)
    refine lv_goto (tgt := 273) hx hb d_I_begin_210 rfl ?_
    cases hf
    exact sr_retv X Z d_I_begin_273
  have hf := sr_if q_41 hf
  by_cases q_44 : w_9 = 8
  · have hf := sr_it q_44 hf
    rw [q_44]
    refine lv_tableIn (tgt := 213) hx hb d_I_begin_38 (by decide) (by decide) rfl rfl ?_
    refine lv_aload_n hx hb d_I_begin_213 rfl (lv_at hl 2 rfl) ?_
    refine g_I_9_I X Z d_I_begin_214 ?_
    refine lv_iload_n hx hb d_I_begin_217 rfl (lv_at hl 3 rfl) ?_
    refine lv_iconst (v := 2) hx hb d_I_begin_218 (by decide) ?_
    obtain ⟨i_45, e_46, hf⟩ := sr_b hf
    refine sr_iast (wf := (fun q => (wI h t o v p0 q))) hx hb hK Z 20 14 rfl rfl e_46 (fun _ => rfl) d_I_begin_219 (fun H locs Z => ?_)
    refine lv_aload_n hx hb d_I_begin_220 rfl (lv_at hl 2 rfl) ?_
    refine lv_aload_n hx hb d_I_begin_221 rfl (lv_at hl 2 rfl) ?_
    refine g_I_25_I X Z d_I_begin_222 ?_
    refine lv_iload_n hx hb d_I_begin_225 rfl (lv_at hl 3 rfl) ?_
    obtain ⟨v_47, e_48, hf⟩ := sr_b hf
    refine sr_cVi (As := [.int x1]) (rest := [.ref (o 0)]) X Z cut_IP (k_IP hK) (c_P_firstChild e_48) (cw_I_195 X.2.2.2.2.2.1 (by decide)) 0 rfl rfl rfl hl rfl (Nat.le_of_ble_eq_true rfl) d_I_begin_226 (fun H locs Z => ?_)
    refine lv_iload_n hx hb d_I_begin_229 rfl (lv_at hl 3 rfl) ?_
    obtain ⟨i_49, e_50, hf⟩ := sr_b hf
    refine sr_cVv (As := [.int v_47, .int x1]) (rest := []) X Z sr_cut_self hK (c_I_openOrComplete e_50) (cw_I_198 X.2.2.2.2.2.1 (by decide)) 15 rfl rfl rfl hl rfl (Nat.le_of_ble_eq_true rfl) d_I_begin_230 (fun H locs Z => ?_)
    refine lv_goto (tgt := 273) hx hb d_I_begin_233 rfl ?_
    cases hf
    exact sr_retv X Z d_I_begin_273
  have hf := sr_if q_44 hf
  by_cases q_51 : w_9 = 9
  · have hf := sr_it q_51 hf
    rw [q_51]
    refine lv_tableIn (tgt := 236) hx hb d_I_begin_38 (by decide) (by decide) rfl rfl ?_
    refine lv_aload_n hx hb d_I_begin_236 rfl (lv_at hl 2 rfl) ?_
    refine lv_iload_n hx hb d_I_begin_237 rfl (lv_at hl 3 rfl) ?_
    obtain ⟨i_52, e_53, hf⟩ := sr_b hf
    refine sr_cVv (As := [.int x1]) (rest := []) X Z sr_cut_self hK (c_I_beginFlow e_53) (cw_I_201 X.2.2.2.2.2.1 (by decide)) 15 rfl rfl rfl hl rfl (Nat.le_of_ble_eq_true rfl) d_I_begin_238 (fun H locs Z => ?_)
    refine lv_goto (tgt := 273) hx hb d_I_begin_241 rfl ?_
    cases hf
    exact sr_retv X Z d_I_begin_273
  have hf := sr_if q_51 hf
  by_cases q_54 : w_9 = 10
  · have hf := sr_it q_54 hf
    rw [q_54]
    refine lv_tableIn (tgt := 244) hx hb d_I_begin_38 (by decide) (by decide) rfl rfl ?_
    refine lv_aload_n hx hb d_I_begin_244 rfl (lv_at hl 2 rfl) ?_
    refine lv_iload_n hx hb d_I_begin_245 rfl (lv_at hl 3 rfl) ?_
    obtain ⟨i_55, e_56, hf⟩ := sr_b hf
    refine sr_cVv (As := [.int x1]) (rest := []) X Z sr_cut_self hK (c_I_beginIf e_56) (cw_I_204 X.2.2.2.2.2.1 (by decide)) 15 rfl rfl rfl hl rfl (Nat.le_of_ble_eq_true rfl) d_I_begin_246 (fun H locs Z => ?_)
    refine lv_goto (tgt := 273) hx hb d_I_begin_249 rfl ?_
    cases hf
    exact sr_retv X Z d_I_begin_273
  have hf := sr_if q_54 hf
  by_cases q_57 : w_9 = 11
  · have hf := sr_it q_57 hf
    rw [q_57]
    refine lv_tableIn (tgt := 252) hx hb d_I_begin_38 (by decide) (by decide) rfl rfl ?_
    refine lv_aload_n hx hb d_I_begin_252 rfl (lv_at hl 2 rfl) ?_
    refine lv_iload_n hx hb d_I_begin_253 rfl (lv_at hl 3 rfl) ?_
    obtain ⟨i_58, e_59, hf⟩ := sr_b hf
    refine sr_cVv (As := [.int x1]) (rest := []) X Z sr_cut_self hK (c_I_loop e_59) (cw_I_93 X.2.2.2.2.2.1 (by decide)) 15 rfl rfl rfl hl rfl (Nat.le_of_ble_eq_true rfl) d_I_begin_254 (fun H locs Z => ?_)
    refine lv_goto (tgt := 273) hx hb d_I_begin_257 rfl ?_
    cases hf
    exact sr_retv X Z d_I_begin_273
  have hf := sr_if q_57 hf
  by_cases q_60 : w_9 = 12
  · have hf := sr_it q_60 hf
    rw [q_60]
    refine lv_tableIn (tgt := 260) hx hb d_I_begin_38 (by decide) (by decide) rfl rfl ?_
    refine lv_aload_n hx hb d_I_begin_260 rfl (lv_at hl 2 rfl) ?_
    refine lv_iload_n hx hb d_I_begin_261 rfl (lv_at hl 3 rfl) ?_
    obtain ⟨i_61, e_62, hf⟩ := sr_b hf
    refine sr_cVv (As := [.int x1]) (rest := []) X Z sr_cut_self hK (c_I_beginScope e_62) (cw_I_207 X.2.2.2.2.2.1 (by decide)) 15 rfl rfl rfl hl rfl (Nat.le_of_ble_eq_true rfl) d_I_begin_262 (fun H locs Z => ?_)
    refine lv_goto (tgt := 273) hx hb d_I_begin_265 rfl ?_
    cases hf
    exact sr_retv X Z d_I_begin_273
  have hf := sr_if q_60 hf
  have hout : w_9.toInt < 1 ∨ 12 < w_9.toInt := by
    have := sr_ne q_11 (k := 1) rfl
    have := sr_ne q_18 (k := 2) rfl
    have := sr_ne q_25 (k := 3) rfl
    have := sr_ne q_28 (k := 4) rfl
    have := sr_ne q_35 (k := 5) rfl
    have := sr_ne q_38 (k := 6) rfl
    have := sr_ne q_41 (k := 7) rfl
    have := sr_ne q_44 (k := 8) rfl
    have := sr_ne q_51 (k := 9) rfl
    have := sr_ne q_54 (k := 10) rfl
    have := sr_ne q_57 (k := 11) rfl
    have := sr_ne q_60 (k := 12) rfl
    omega
  refine lv_tableOut (tgt := 268) hx hb d_I_begin_38 hout rfl ?_
  refine lv_aload_n hx hb d_I_begin_268 rfl (lv_at hl 2 rfl) ?_
  refine lv_iload_n hx hb d_I_begin_269 rfl (lv_at hl 3 rfl) ?_
  obtain ⟨i_63, e_64, hf⟩ := sr_b hf
  refine sr_cVv (As := [.int x1]) (rest := []) X Z sr_cut_self hK (c_I_completes e_64) (cw_I_123 X.2.2.2.2.2.1 (by decide)) 15 rfl rfl rfl hl rfl (Nat.le_of_ble_eq_true rfl) d_I_begin_270 (fun H locs Z => ?_)
  cases hf
  exact sr_retv X Z d_I_begin_273
end
set_option maxHeartbeats 4000000 in
set_option maxRecDepth 100000 in
theorem c_I_begin {l : Launch} {D : va_G} {h : Nat → Nat} {t : Nat → ClassId} {o : Nat → Nat} {v : Nat → ClassId} {sz : Nat} {p0 : St} {x1 : Int32} {i0 : St} {i' : St} (hf : f_I_begin p0 x1 i0 = some i') : sr_Cv l y_I_begin w_I_begin (sr_rm 4 92) D (tI t v) (wI h t o v p0 i0) (wI h t o v p0 i') sz [.ref (o 0), .int x1] := by
  refine Met.ofW (cc := b_I_begin) (maxL := 4) (ret := none) (by decide) rfl ?_
  intro p e s m args below meth c s₁ B hml hv
  obtain ⟨rfl, hsz, hP, hK, hD0⟩ := hv
  subst hsz
  have X : sr_X D (tI t v) b_I_begin 4 R_I w_I_begin p s m _ meth c (va_A (wI h t o v p0 i0) s.heap.size) none := ⟨B.exec, B.bytes, hml, findClass_of_methodNamed B.named, B.notSynchronized, atoms_spec (ws := w_I_begin) B.pre, hK, fun q h => Or.inr h, B.returns⟩
  have Z : sr_Z D (va_A (wI h t o v p0 i0) s.heap.size) s.heap (wI h t o v p0 i0) s.heap [] := ⟨hP, hD0.self, va_S.rf⟩
  have hl := lv_entry ([.ref (o 0), .int x1] : List Value) (n := 4) (Nat.le_of_ble_eq_true rfl)
  rw [lg_entry_eq]
  exact k_I_begin_0 X Z hl hf
/-! I_reports -/
theorem d_I_reports_0 : decode b_I_reports 0 = .ok (.aload_n 0, 1) := by decide +kernel
theorem d_I_reports_1 : decode b_I_reports 1 = .ok (.iconst 2, 1) := by decide +kernel
theorem d_I_reports_2 : decode b_I_reports 2 = .ok (.putfield 146, 3) := by decide +kernel
theorem d_I_reports_5 : decode b_I_reports 5 = .ok (.aload_n 0, 1) := by decide +kernel
theorem d_I_reports_6 : decode b_I_reports 6 = .ok (.iload_n 1, 1) := by decide +kernel
theorem d_I_reports_7 : decode b_I_reports 7 = .ok (.putfield 149, 3) := by decide +kernel
theorem d_I_reports_10 : decode b_I_reports 10 = .ok (.return_, 1) := by decide +kernel
section
variable {p : Program} {l : Launch} {e : Env} {s : State} {m : MethodId} {args : Array Value} {below : List Frame} {meth : Method} {c : Code} {H : Heap} {locs : List Loc} {ls : Array Slot} {D : va_G} {A : Nat → Prop} {h o : Nat → Nat} {t v : Nat → ClassId}
def f_I_reports (p0 : St) (x1 : Int32) (i0 : St) : Option (St) :=
  (sr_pf i0 8 2).bind fun i_1 =>
  (sr_pf i_1 9 x1).bind fun i_3 =>
  some i_3
set_option maxHeartbeats 4000000 in
set_option maxRecDepth 100000 in
theorem k_I_reports_0 {p0 : St} {x1 : Int32} {i0 : St} {i' : St} (X : sr_X D (tI t v) b_I_reports 2 R_I w_I_reports p s m args meth c A none) (Z : sr_Z D A s.heap (wI h t o v p0 i0) H locs) (hl : lv_has ls 2 [(0, .ref (o 0)), (1, .int x1)]) (hf : f_I_reports p0 x1 i0 = some i') : W p l e (sr_rm 0 0) s m args below meth c H locs 0 0 (sr_Qv D (tI t v) below args s A (wI h t o v p0 i')) (F0 m 0 ls []) := by
  have hx := X.1
  have hb := X.2.1
  have hK := X.2.2.2.2.2.2.1
  unfold f_I_reports at hf
  refine lv_aload_n hx hb d_I_reports_0 rfl (lv_at hl 0 rfl) ?_
  refine lv_iconst (v := 2) hx hb d_I_reports_1 (by decide) ?_
  obtain ⟨i_1, e_2, hf⟩ := sr_b hf
  refine s_I_146_I X Z e_2 d_I_reports_2 (fun H locs Z => ?_)
  refine lv_aload_n hx hb d_I_reports_5 rfl (lv_at hl 0 rfl) ?_
  refine lv_iload_n hx hb d_I_reports_6 rfl (lv_at hl 1 rfl) ?_
  obtain ⟨i_3, e_4, hf⟩ := sr_b hf
  refine s_I_149_I X Z e_4 d_I_reports_7 (fun H locs Z => ?_)
  cases hf
  exact sr_retv X Z d_I_reports_10
end
set_option maxHeartbeats 4000000 in
set_option maxRecDepth 100000 in
theorem c_I_reports {l : Launch} {D : va_G} {h : Nat → Nat} {t : Nat → ClassId} {o : Nat → Nat} {v : Nat → ClassId} {sz : Nat} {p0 : St} {x1 : Int32} {i0 : St} {i' : St} (hf : f_I_reports p0 x1 i0 = some i') : sr_Cv l y_I_reports w_I_reports (sr_rm 0 0) D (tI t v) (wI h t o v p0 i0) (wI h t o v p0 i') sz [.ref (o 0), .int x1] := by
  refine Met.ofW (cc := b_I_reports) (maxL := 2) (ret := none) (by decide) rfl ?_
  intro p e s m args below meth c s₁ B hml hv
  obtain ⟨rfl, hsz, hP, hK, hD0⟩ := hv
  subst hsz
  have X : sr_X D (tI t v) b_I_reports 2 R_I w_I_reports p s m _ meth c (va_A (wI h t o v p0 i0) s.heap.size) none := ⟨B.exec, B.bytes, hml, findClass_of_methodNamed B.named, B.notSynchronized, atoms_spec (ws := w_I_reports) B.pre, hK, fun q h => Or.inr h, B.returns⟩
  have Z : sr_Z D (va_A (wI h t o v p0 i0) s.heap.size) s.heap (wI h t o v p0 i0) s.heap [] := ⟨hP, hD0.self, va_S.rf⟩
  have hl := lv_entry ([.ref (o 0), .int x1] : List Value) (n := 2) (Nat.le_of_ble_eq_true rfl)
  rw [lg_entry_eq]
  exact k_I_reports_0 X Z hl hf
/-! I_missJoin -/
theorem d_I_missJoin_0 : decode b_I_missJoin 0 = .ok (.aload_n 0, 1) := by decide +kernel
theorem d_I_missJoin_1 : decode b_I_missJoin 1 = .ok (.getfield 25, 3) := by decide +kernel
theorem d_I_missJoin_4 : decode b_I_missJoin 4 = .ok (.getfield 167, 3) := by decide +kernel
theorem d_I_missJoin_7 : decode b_I_missJoin 7 = .ok (.iload_n 1, 1) := by decide +kernel
theorem d_I_missJoin_8 : decode b_I_missJoin 8 = .ok (.iaload, 1) := by decide +kernel
theorem d_I_missJoin_9 : decode b_I_missJoin 9 = .ok (.iconst 2, 1) := by decide +kernel
theorem d_I_missJoin_10 : decode b_I_missJoin 10 = .ok (.if_icmp .lt 13, 3) := by decide +kernel
theorem d_I_missJoin_13 : decode b_I_missJoin 13 = .ok (.aload_n 0, 1) := by decide +kernel
theorem d_I_missJoin_14 : decode b_I_missJoin 14 = .ok (.iload_n 1, 1) := by decide +kernel
theorem d_I_missJoin_15 : decode b_I_missJoin 15 = .ok (.bipush 100, 2) := by decide +kernel
theorem d_I_missJoin_17 : decode b_I_missJoin 17 = .ok (.invokevirtual 131, 3) := by decide +kernel
theorem d_I_missJoin_20 : decode b_I_missJoin 20 = .ok (.goto 13, 3) := by decide +kernel
theorem d_I_missJoin_23 : decode b_I_missJoin 23 = .ok (.aload_n 0, 1) := by decide +kernel
theorem d_I_missJoin_24 : decode b_I_missJoin 24 = .ok (.iload_n 1, 1) := by decide +kernel
theorem d_I_missJoin_25 : decode b_I_missJoin 25 = .ok (.invokevirtual 170, 3) := by decide +kernel
theorem d_I_missJoin_28 : decode b_I_missJoin 28 = .ok (.aload_n 0, 1) := by decide +kernel
theorem d_I_missJoin_29 : decode b_I_missJoin 29 = .ok (.iload_n 1, 1) := by decide +kernel
theorem d_I_missJoin_30 : decode b_I_missJoin 30 = .ok (.invokevirtual 173, 3) := by decide +kernel
theorem d_I_missJoin_33 : decode b_I_missJoin 33 = .ok (.return_, 1) := by decide +kernel
section
variable {p : Program} {l : Launch} {e : Env} {s : State} {m : MethodId} {args : Array Value} {below : List Frame} {meth : Method} {c : Code} {H : Heap} {locs : List Loc} {ls : Array Slot} {D : va_G} {A : Nat → Prop} {h o : Nat → Nat} {t v : Nat → ClassId}
def f_I_missJoin (p0 : St) (x1 : Int32) (i0 : St) : Option (St) :=
  (sr_ald 24 (p0 5) x1).bind fun v_1 =>
  if v_1 < 2 then
    (f_I_skip p0 x1 i0).bind fun i_4 =>
    (f_I_reports p0 x1 i_4).bind fun i_6 =>
    some i_6
  else
    (f_I_faults p0 x1 100 i0).bind fun i_8 =>
    some i_8
set_option maxHeartbeats 4000000 in
set_option maxRecDepth 100000 in
theorem k_I_missJoin_0 {p0 : St} {x1 : Int32} {i0 : St} {i' : St} (X : sr_X D (tI t v) b_I_missJoin 2 R_I w_I_missJoin p s m args meth c A none) (Z : sr_Z D A s.heap (wI h t o v p0 i0) H locs) (hl : lv_has ls 2 [(0, .ref (o 0)), (1, .int x1)]) (hf : f_I_missJoin p0 x1 i0 = some i') : W p l e (sr_rm 3 66) s m args below meth c H locs 0 0 (sr_Qv D (tI t v) below args s A (wI h t o v p0 i')) (F0 m 0 ls []) := by
  have hx := X.1
  have hb := X.2.1
  have hK := X.2.2.2.2.2.2.1
  unfold f_I_missJoin at hf
  refine lv_aload_n hx hb d_I_missJoin_0 rfl (lv_at hl 0 rfl) ?_
  refine g_I_25_I X Z d_I_missJoin_1 ?_
  refine g_I_167_I X Z d_I_missJoin_4 ?_
  refine lv_iload_n hx hb d_I_missJoin_7 rfl (lv_at hl 1 rfl) ?_
  obtain ⟨v_1, e_2, hf⟩ := sr_b hf
  refine sr_iald hx hb hK Z 6 5 rfl rfl e_2 d_I_missJoin_8 ?_
  refine lv_iconst (v := 2) hx hb d_I_missJoin_9 (by decide) ?_
  refine lv_icmp_lt (tgt := 23) hx hb d_I_missJoin_10 rfl (fun q_3 => ?_) (fun q_3 => ?_)
  · have hf := sr_it q_3 hf
    refine lv_aload_n hx hb d_I_missJoin_23 rfl (lv_at hl 0 rfl) ?_
    refine lv_iload_n hx hb d_I_missJoin_24 rfl (lv_at hl 1 rfl) ?_
    obtain ⟨i_4, e_5, hf⟩ := sr_b hf
    refine sr_cVv (As := [.int x1]) (rest := []) X Z sr_cut_self hK (c_I_skip e_5) (cw_I_170 X.2.2.2.2.2.1 (by decide)) 15 rfl rfl rfl hl rfl (Nat.le_of_ble_eq_true rfl) d_I_missJoin_25 (fun H locs Z => ?_)
    refine lv_aload_n hx hb d_I_missJoin_28 rfl (lv_at hl 0 rfl) ?_
    refine lv_iload_n hx hb d_I_missJoin_29 rfl (lv_at hl 1 rfl) ?_
    obtain ⟨i_6, e_7, hf⟩ := sr_b hf
    refine sr_cVv (As := [.int x1]) (rest := []) X Z sr_cut_self hK (c_I_reports e_7) (cw_I_173 X.2.2.2.2.2.1 (by decide)) 15 rfl rfl rfl hl rfl (Nat.le_of_ble_eq_true rfl) d_I_missJoin_30 (fun H locs Z => ?_)
    cases hf
    exact sr_retv X Z d_I_missJoin_33
  · have hf := sr_if q_3 hf
    refine lv_aload_n hx hb d_I_missJoin_13 rfl (lv_at hl 0 rfl) ?_
    refine lv_iload_n hx hb d_I_missJoin_14 rfl (lv_at hl 1 rfl) ?_
    refine lv_bipush (v := 100) hx hb d_I_missJoin_15 (by decide) ?_
    obtain ⟨i_8, e_9, hf⟩ := sr_b hf
    refine sr_cVv (As := [.int x1, .int 100]) (rest := []) X Z sr_cut_self hK (c_I_faults e_9) (cw_I_131 X.2.2.2.2.2.1 (by decide)) 15 rfl rfl rfl hl rfl (Nat.le_of_ble_eq_true rfl) d_I_missJoin_17 (fun H locs Z => ?_)
    refine lv_goto (tgt := 33) hx hb d_I_missJoin_20 rfl ?_
    cases hf
    exact sr_retv X Z d_I_missJoin_33
end
set_option maxHeartbeats 4000000 in
set_option maxRecDepth 100000 in
theorem c_I_missJoin {l : Launch} {D : va_G} {h : Nat → Nat} {t : Nat → ClassId} {o : Nat → Nat} {v : Nat → ClassId} {sz : Nat} {p0 : St} {x1 : Int32} {i0 : St} {i' : St} (hf : f_I_missJoin p0 x1 i0 = some i') : sr_Cv l y_I_missJoin w_I_missJoin (sr_rm 3 66) D (tI t v) (wI h t o v p0 i0) (wI h t o v p0 i') sz [.ref (o 0), .int x1] := by
  refine Met.ofW (cc := b_I_missJoin) (maxL := 2) (ret := none) (by decide) rfl ?_
  intro p e s m args below meth c s₁ B hml hv
  obtain ⟨rfl, hsz, hP, hK, hD0⟩ := hv
  subst hsz
  have X : sr_X D (tI t v) b_I_missJoin 2 R_I w_I_missJoin p s m _ meth c (va_A (wI h t o v p0 i0) s.heap.size) none := ⟨B.exec, B.bytes, hml, findClass_of_methodNamed B.named, B.notSynchronized, atoms_spec (ws := w_I_missJoin) B.pre, hK, fun q h => Or.inr h, B.returns⟩
  have Z : sr_Z D (va_A (wI h t o v p0 i0) s.heap.size) s.heap (wI h t o v p0 i0) s.heap [] := ⟨hP, hD0.self, va_S.rf⟩
  have hl := lv_entry ([.ref (o 0), .int x1] : List Value) (n := 2) (Nat.le_of_ble_eq_true rfl)
  rw [lg_entry_eq]
  exact k_I_missJoin_0 X Z hl hf
/-! L_decideFrom -/
theorem d_L_decideFrom_0 : decode b_L_decideFrom 0 = .ok (.iconst 0, 1) := by decide +kernel
theorem d_L_decideFrom_1 : decode b_L_decideFrom 1 = .ok (.istore_n 3, 1) := by decide +kernel
theorem d_L_decideFrom_2 : decode b_L_decideFrom 2 = .ok (.iload_n 3, 1) := by decide +kernel
theorem d_L_decideFrom_3 : decode b_L_decideFrom 3 = .ok (.aload_n 0, 1) := by decide +kernel
theorem d_L_decideFrom_4 : decode b_L_decideFrom 4 = .ok (.getfield 15, 3) := by decide +kernel
theorem d_L_decideFrom_7 : decode b_L_decideFrom 7 = .ok (.getfield 19, 3) := by decide +kernel
theorem d_L_decideFrom_10 : decode b_L_decideFrom 10 = .ok (.if_icmp .ge 81, 3) := by decide +kernel
theorem d_L_decideFrom_13 : decode b_L_decideFrom 13 = .ok (.aload_n 0, 1) := by decide +kernel
theorem d_L_decideFrom_14 : decode b_L_decideFrom 14 = .ok (.getfield 15, 3) := by decide +kernel
theorem d_L_decideFrom_17 : decode b_L_decideFrom 17 = .ok (.getfield 39, 3) := by decide +kernel
theorem d_L_decideFrom_20 : decode b_L_decideFrom 20 = .ok (.iload_n 3, 1) := by decide +kernel
theorem d_L_decideFrom_21 : decode b_L_decideFrom 21 = .ok (.iaload, 1) := by decide +kernel
theorem d_L_decideFrom_22 : decode b_L_decideFrom 22 = .ok (.iload_n 1, 1) := by decide +kernel
theorem d_L_decideFrom_23 : decode b_L_decideFrom 23 = .ok (.if_icmp .ne 62, 3) := by decide +kernel
theorem d_L_decideFrom_26 : decode b_L_decideFrom 26 = .ok (.aload_n 0, 1) := by decide +kernel
theorem d_L_decideFrom_27 : decode b_L_decideFrom 27 = .ok (.getfield 15, 3) := by decide +kernel
theorem d_L_decideFrom_30 : decode b_L_decideFrom 30 = .ok (.getfield 42, 3) := by decide +kernel
theorem d_L_decideFrom_33 : decode b_L_decideFrom 33 = .ok (.iload_n 3, 1) := by decide +kernel
theorem d_L_decideFrom_34 : decode b_L_decideFrom 34 = .ok (.iaload, 1) := by decide +kernel
theorem d_L_decideFrom_35 : decode b_L_decideFrom 35 = .ok (.istore 4, 2) := by decide +kernel
theorem d_L_decideFrom_37 : decode b_L_decideFrom 37 = .ok (.iload 4, 2) := by decide +kernel
theorem d_L_decideFrom_39 : decode b_L_decideFrom 39 = .ok (.iconst (-1), 1) := by decide +kernel
theorem d_L_decideFrom_40 : decode b_L_decideFrom 40 = .ok (.if_icmp .eq 22, 3) := by decide +kernel
theorem d_L_decideFrom_43 : decode b_L_decideFrom 43 = .ok (.aload_n 2, 1) := by decide +kernel
theorem d_L_decideFrom_44 : decode b_L_decideFrom 44 = .ok (.iload_n 1, 1) := by decide +kernel
theorem d_L_decideFrom_45 : decode b_L_decideFrom 45 = .ok (.iload 4, 2) := by decide +kernel
theorem d_L_decideFrom_47 : decode b_L_decideFrom 47 = .ok (.invokevirtual 45, 3) := by decide +kernel
theorem d_L_decideFrom_50 : decode b_L_decideFrom 50 = .ok (.aload_n 0, 1) := by decide +kernel
theorem d_L_decideFrom_51 : decode b_L_decideFrom 51 = .ok (.getfield 15, 3) := by decide +kernel
theorem d_L_decideFrom_54 : decode b_L_decideFrom 54 = .ok (.getfield 50, 3) := by decide +kernel
theorem d_L_decideFrom_57 : decode b_L_decideFrom 57 = .ok (.iload_n 3, 1) := by decide +kernel
theorem d_L_decideFrom_58 : decode b_L_decideFrom 58 = .ok (.iaload, 1) := by decide +kernel
theorem d_L_decideFrom_59 : decode b_L_decideFrom 59 = .ok (.if_icmp .ge 7, 3) := by decide +kernel
theorem d_L_decideFrom_62 : decode b_L_decideFrom 62 = .ok (.iconst 1, 1) := by decide +kernel
theorem d_L_decideFrom_63 : decode b_L_decideFrom 63 = .ok (.goto 4, 3) := by decide +kernel
theorem d_L_decideFrom_66 : decode b_L_decideFrom 66 = .ok (.iconst 0, 1) := by decide +kernel
theorem d_L_decideFrom_67 : decode b_L_decideFrom 67 = .ok (.istore 5, 2) := by decide +kernel
theorem d_L_decideFrom_69 : decode b_L_decideFrom 69 = .ok (.aload_n 0, 1) := by decide +kernel
theorem d_L_decideFrom_70 : decode b_L_decideFrom 70 = .ok (.getfield 9, 3) := by decide +kernel
theorem d_L_decideFrom_73 : decode b_L_decideFrom 73 = .ok (.iload_n 3, 1) := by decide +kernel
theorem d_L_decideFrom_74 : decode b_L_decideFrom 74 = .ok (.iload 5, 2) := by decide +kernel
theorem d_L_decideFrom_76 : decode b_L_decideFrom 76 = .ok (.ifCond .eq 7, 3) := by decide +kernel
theorem d_L_decideFrom_79 : decode b_L_decideFrom 79 = .ok (.iconst 1, 1) := by decide +kernel
theorem d_L_decideFrom_80 : decode b_L_decideFrom 80 = .ok (.goto 4, 3) := by decide +kernel
theorem d_L_decideFrom_83 : decode b_L_decideFrom 83 = .ok (.iconst 2, 1) := by decide +kernel
theorem d_L_decideFrom_84 : decode b_L_decideFrom 84 = .ok (.iastore, 1) := by decide +kernel
theorem d_L_decideFrom_85 : decode b_L_decideFrom 85 = .ok (.iinc 3 1, 3) := by decide +kernel
theorem d_L_decideFrom_88 : decode b_L_decideFrom 88 = .ok (.goto (-86), 3) := by decide +kernel
theorem d_L_decideFrom_91 : decode b_L_decideFrom 91 = .ok (.return_, 1) := by decide +kernel
section
variable {p : Program} {l : Launch} {e : Env} {s : State} {m : MethodId} {args : Array Value} {below : List Frame} {meth : Method} {c : Code} {H : Heap} {locs : List Loc} {ls : Array Slot} {D : va_G} {A : Nat → Prop} {h o : Nat → Nat} {t v : Nat → ClassId}
def f_L_decideFrom_85 (k2 : Int32 → Int32 → St → Option (St)) (p0 : St) (x1 : Int32) (x3 : Int32) (i0 : St) : Option (St) :=
  k2 x1 (x3 + 1) i0
set_option maxHeartbeats 4000000 in
set_option maxRecDepth 100000 in
theorem k_L_decideFrom_85 {k2 : Int32 → Int32 → St → Option (St)} {p0 : St} {x1 : Int32} {x3 : Int32} {i0 : St} {i' : St} (X : sr_X D (tI t v) b_L_decideFrom 6 R_L w_L_decideFrom p s m args meth c A none) (hk2 : ∀ (x1 : Int32) (x3 : Int32) (i0 : St) (H : Heap) (locs : List Loc) (ls : Array Slot), sr_Z D A s.heap (wI h t o v p0 i0) H locs → lv_has ls 6 [(0, .ref (o 2)), (1, .int x1), (2, .ref (o 1)), (3, .int x3)] → k2 x1 x3 i0 = some i' → W p l e (sr_rm 1 23) s m args below meth c H locs 0 0 (sr_Qv D (tI t v) below args s A (wI h t o v p0 i')) (F0 m 2 ls [])) (Z : sr_Z D A s.heap (wI h t o v p0 i0) H locs) (hl : lv_has ls 6 [(0, .ref (o 2)), (1, .int x1), (2, .ref (o 1)), (3, .int x3)]) (hf : f_L_decideFrom_85 k2 p0 x1 x3 i0 = some i') : W p l e (sr_rm 1 23) s m args below meth c H locs 0 0 (sr_Qv D (tI t v) below args s A (wI h t o v p0 i')) (F0 m 85 ls []) := by
  have hx := X.1
  have hb := X.2.1
  have hK := X.2.2.2.2.2.2.1
  unfold f_L_decideFrom_85 at hf
  refine lv_iinc (k := 3) (v := x3 + 1) (lv' := [(3, .int (x3 + 1)), (0, .ref (o 2)), (1, .int x1), (2, .ref (o 1))]) hx hb d_L_decideFrom_85 hl rfl rfl (by decide) rfl (fun ls hl => ?_)
  refine lv_goto (tgt := 2) hx hb d_L_decideFrom_88 rfl ?_
  exact hk2 x1 (x3 + 1) i0 _ _ _ Z (lv_sub hl [1, 2, 3, 0] rfl) hf
def f_L_decideFrom_84 (k2 : Int32 → Int32 → St → Option (St)) (p0 : St) (x1 : Int32) (x3 : Int32) (y0 : Int32) (y1 : Int32) (i0 : St) : Option (St) :=
  (sr_ast 16 i0 13 y1 y0).bind fun i_9 =>
  f_L_decideFrom_85 k2 p0 x1 x3 i_9
set_option maxHeartbeats 4000000 in
set_option maxRecDepth 100000 in
theorem k_L_decideFrom_84 {k2 : Int32 → Int32 → St → Option (St)} {p0 : St} {x1 : Int32} {x3 : Int32} {y0 : Int32} {y1 : Int32} {i0 : St} {i' : St} (X : sr_X D (tI t v) b_L_decideFrom 6 R_L w_L_decideFrom p s m args meth c A none) (hk2 : ∀ (x1 : Int32) (x3 : Int32) (i0 : St) (H : Heap) (locs : List Loc) (ls : Array Slot), sr_Z D A s.heap (wI h t o v p0 i0) H locs → lv_has ls 6 [(0, .ref (o 2)), (1, .int x1), (2, .ref (o 1)), (3, .int x3)] → k2 x1 x3 i0 = some i' → W p l e (sr_rm 1 23) s m args below meth c H locs 0 0 (sr_Qv D (tI t v) below args s A (wI h t o v p0 i')) (F0 m 2 ls [])) (Z : sr_Z D A s.heap (wI h t o v p0 i0) H locs) (hl : lv_has ls 6 [(0, .ref (o 2)), (1, .int x1), (2, .ref (o 1)), (3, .int x3)]) (hf : f_L_decideFrom_84 k2 p0 x1 x3 y0 y1 i0 = some i') : W p l e (sr_rm 1 23) s m args below meth c H locs 0 0 (sr_Qv D (tI t v) below args s A (wI h t o v p0 i')) (F0 m 84 ls [.int y0, .int y1, .ref (o 11)]) := by
  have hx := X.1
  have hb := X.2.1
  have hK := X.2.2.2.2.2.2.1
  unfold f_L_decideFrom_84 at hf
  obtain ⟨i_9, e_10, hf⟩ := sr_b hf
  refine sr_iast (wf := (fun q => (wI h t o v p0 q))) hx hb hK Z 26 20 rfl rfl e_10 (fun _ => rfl) d_L_decideFrom_84 (fun H locs Z => ?_)
  exact k_L_decideFrom_85 X hk2 Z (lv_sub hl [0, 1, 2, 3] rfl) hf
def f_L_decideFrom_67 (k2 : Int32 → Int32 → St → Option (St)) (p0 : St) (x1 : Int32) (x3 : Int32) (y0 : Int32) (i0 : St) : Option (St) :=
  if y0 = 0 then
    f_L_decideFrom_84 k2 p0 x1 x3 2 x3 i0
  else
    f_L_decideFrom_84 k2 p0 x1 x3 1 x3 i0
set_option maxHeartbeats 4000000 in
set_option maxRecDepth 100000 in
theorem k_L_decideFrom_67 {k2 : Int32 → Int32 → St → Option (St)} {p0 : St} {x1 : Int32} {x3 : Int32} {y0 : Int32} {i0 : St} {i' : St} (X : sr_X D (tI t v) b_L_decideFrom 6 R_L w_L_decideFrom p s m args meth c A none) (hk2 : ∀ (x1 : Int32) (x3 : Int32) (i0 : St) (H : Heap) (locs : List Loc) (ls : Array Slot), sr_Z D A s.heap (wI h t o v p0 i0) H locs → lv_has ls 6 [(0, .ref (o 2)), (1, .int x1), (2, .ref (o 1)), (3, .int x3)] → k2 x1 x3 i0 = some i' → W p l e (sr_rm 1 23) s m args below meth c H locs 0 0 (sr_Qv D (tI t v) below args s A (wI h t o v p0 i')) (F0 m 2 ls [])) (Z : sr_Z D A s.heap (wI h t o v p0 i0) H locs) (hl : lv_has ls 6 [(0, .ref (o 2)), (1, .int x1), (2, .ref (o 1)), (3, .int x3)]) (hf : f_L_decideFrom_67 k2 p0 x1 x3 y0 i0 = some i') : W p l e (sr_rm 1 23) s m args below meth c H locs 0 0 (sr_Qv D (tI t v) below args s A (wI h t o v p0 i')) (F0 m 67 ls [.int y0]) := by
  have hx := X.1
  have hb := X.2.1
  have hK := X.2.2.2.2.2.2.1
  unfold f_L_decideFrom_67 at hf
  refine lv_istore (lv' := [(5, .int y0), (0, .ref (o 2)), (1, .int x1), (2, .ref (o 1)), (3, .int x3)]) hx hb d_L_decideFrom_67 hl (by decide) rfl (fun ls hl => ?_)
  refine lv_aload_n hx hb d_L_decideFrom_69 rfl (lv_at hl 1 rfl) ?_
  refine g_L_9_I X Z d_L_decideFrom_70 ?_
  refine lv_iload_n hx hb d_L_decideFrom_73 rfl (lv_at hl 4 rfl) ?_
  refine lv_iload hx hb d_L_decideFrom_74 (lv_at hl 0 rfl) ?_
  refine lv_if_eq (tgt := 83) hx hb d_L_decideFrom_76 rfl (fun q_8 => ?_) (fun q_8 => ?_)
  · have hf := sr_it q_8 hf
    refine lv_iconst (v := 2) hx hb d_L_decideFrom_83 (by decide) ?_
    exact k_L_decideFrom_84 X hk2 Z (lv_sub hl [1, 2, 3, 4] rfl) hf
  · have hf := sr_if q_8 hf
    refine lv_iconst (v := 1) hx hb d_L_decideFrom_79 (by decide) ?_
    refine lv_goto (tgt := 84) hx hb d_L_decideFrom_80 rfl ?_
    exact k_L_decideFrom_84 X hk2 Z (lv_sub hl [1, 2, 3, 4] rfl) hf
def f_L_decideFrom_62 (k2 : Int32 → Int32 → St → Option (St)) (p0 : St) (x1 : Int32) (x3 : Int32) (i0 : St) : Option (St) :=
  f_L_decideFrom_67 k2 p0 x1 x3 1 i0
set_option maxHeartbeats 4000000 in
set_option maxRecDepth 100000 in
theorem k_L_decideFrom_62 {k2 : Int32 → Int32 → St → Option (St)} {p0 : St} {x1 : Int32} {x3 : Int32} {i0 : St} {i' : St} (X : sr_X D (tI t v) b_L_decideFrom 6 R_L w_L_decideFrom p s m args meth c A none) (hk2 : ∀ (x1 : Int32) (x3 : Int32) (i0 : St) (H : Heap) (locs : List Loc) (ls : Array Slot), sr_Z D A s.heap (wI h t o v p0 i0) H locs → lv_has ls 6 [(0, .ref (o 2)), (1, .int x1), (2, .ref (o 1)), (3, .int x3)] → k2 x1 x3 i0 = some i' → W p l e (sr_rm 1 23) s m args below meth c H locs 0 0 (sr_Qv D (tI t v) below args s A (wI h t o v p0 i')) (F0 m 2 ls [])) (Z : sr_Z D A s.heap (wI h t o v p0 i0) H locs) (hl : lv_has ls 6 [(0, .ref (o 2)), (1, .int x1), (2, .ref (o 1)), (3, .int x3)]) (hf : f_L_decideFrom_62 k2 p0 x1 x3 i0 = some i') : W p l e (sr_rm 1 23) s m args below meth c H locs 0 0 (sr_Qv D (tI t v) below args s A (wI h t o v p0 i')) (F0 m 62 ls []) := by
  have hx := X.1
  have hb := X.2.1
  have hK := X.2.2.2.2.2.2.1
  unfold f_L_decideFrom_62 at hf
  refine lv_iconst (v := 1) hx hb d_L_decideFrom_62 (by decide) ?_
  refine lv_goto (tgt := 67) hx hb d_L_decideFrom_63 rfl ?_
  exact k_L_decideFrom_67 X hk2 Z (lv_sub hl [0, 1, 2, 3] rfl) hf
def f_L_decideFrom_2 (k2 : Int32 → Int32 → St → Option (St)) (p0 : St) (x1 : Int32) (x3 : Int32) (i0 : St) : Option (St) :=
  if (p0 15 0) ≤ x3 then
    some i0
  else
    (sr_ald 16 (p0 11) x3).bind fun v_2 =>
    if v_2 = x1 then
      (sr_ald 16 (p0 13) x3).bind fun v_5 =>
      if v_5 = (-1) then
        f_L_decideFrom_62 k2 p0 x1 x3 i0
      else
        (f_V_read p0 i0 x1 v_5).bind fun v_11 =>
        (sr_ald 16 (p0 14) x3).bind fun v_13 =>
        if v_13 ≤ v_11 then
          f_L_decideFrom_67 k2 p0 x1 x3 0 i0
        else
          f_L_decideFrom_62 k2 p0 x1 x3 i0
    else
      f_L_decideFrom_85 k2 p0 x1 x3 i0
set_option maxHeartbeats 4000000 in
set_option maxRecDepth 100000 in
theorem k_L_decideFrom_2 {k2 : Int32 → Int32 → St → Option (St)} {p0 : St} {x1 : Int32} {x3 : Int32} {i0 : St} {i' : St} (X : sr_X D (tI t v) b_L_decideFrom 6 R_L w_L_decideFrom p s m args meth c A none) (hk2 : ∀ (x1 : Int32) (x3 : Int32) (i0 : St) (H : Heap) (locs : List Loc) (ls : Array Slot), sr_Z D A s.heap (wI h t o v p0 i0) H locs → lv_has ls 6 [(0, .ref (o 2)), (1, .int x1), (2, .ref (o 1)), (3, .int x3)] → k2 x1 x3 i0 = some i' → W p l e (sr_rm 1 23) s m args below meth c H locs 0 0 (sr_Qv D (tI t v) below args s A (wI h t o v p0 i')) (F0 m 2 ls [])) (Z : sr_Z D A s.heap (wI h t o v p0 i0) H locs) (hl : lv_has ls 6 [(0, .ref (o 2)), (1, .int x1), (2, .ref (o 1)), (3, .int x3)]) (hf : f_L_decideFrom_2 k2 p0 x1 x3 i0 = some i') : W p l e (sr_rm 1 23) s m args below meth c H locs 0 0 (sr_Qv D (tI t v) below args s A (wI h t o v p0 i')) (F0 m 2 ls []) := by
  have hx := X.1
  have hb := X.2.1
  have hK := X.2.2.2.2.2.2.1
  unfold f_L_decideFrom_2 at hf
  refine lv_iload_n hx hb d_L_decideFrom_2 rfl (lv_at hl 3 rfl) ?_
  refine lv_aload_n hx hb d_L_decideFrom_3 rfl (lv_at hl 0 rfl) ?_
  refine g_L_15_I X Z d_L_decideFrom_4 ?_
  refine g_L_19_I X Z d_L_decideFrom_7 ?_
  refine lv_icmp_ge (tgt := 91) hx hb d_L_decideFrom_10 rfl (fun q_1 => ?_) (fun q_1 => ?_)
  · have hf := sr_it q_1 hf
    cases hf
    exact sr_retv X Z d_L_decideFrom_91
  · have hf := sr_if q_1 hf
    refine lv_aload_n hx hb d_L_decideFrom_13 rfl (lv_at hl 0 rfl) ?_
    refine g_L_15_I X Z d_L_decideFrom_14 ?_
    refine g_L_39_I X Z d_L_decideFrom_17 ?_
    refine lv_iload_n hx hb d_L_decideFrom_20 rfl (lv_at hl 3 rfl) ?_
    obtain ⟨v_2, e_3, hf⟩ := sr_b hf
    refine sr_iald hx hb hK Z 11 10 rfl rfl e_3 d_L_decideFrom_21 ?_
    refine lv_iload_n hx hb d_L_decideFrom_22 rfl (lv_at hl 1 rfl) ?_
    refine lv_icmp_ne (tgt := 85) hx hb d_L_decideFrom_23 rfl (fun q_4 => ?_) (fun q_4 => ?_)
    · have hf := sr_if q_4 hf
      exact k_L_decideFrom_85 X hk2 Z (lv_sub hl [0, 1, 2, 3] rfl) hf
    · have hf := sr_it q_4 hf
      refine lv_aload_n hx hb d_L_decideFrom_26 rfl (lv_at hl 0 rfl) ?_
      refine g_L_15_I X Z d_L_decideFrom_27 ?_
      refine g_L_42_I X Z d_L_decideFrom_30 ?_
      refine lv_iload_n hx hb d_L_decideFrom_33 rfl (lv_at hl 3 rfl) ?_
      obtain ⟨v_5, e_6, hf⟩ := sr_b hf
      refine sr_iald hx hb hK Z 13 12 rfl rfl e_6 d_L_decideFrom_34 ?_
      refine lv_istore (lv' := [(4, .int v_5), (0, .ref (o 2)), (1, .int x1), (2, .ref (o 1)), (3, .int x3)]) hx hb d_L_decideFrom_35 hl (by decide) rfl (fun ls hl => ?_)
      refine lv_iload hx hb d_L_decideFrom_37 (lv_at hl 0 rfl) ?_
      refine lv_iconst (v := -1) hx hb d_L_decideFrom_39 (by decide) ?_
      refine lv_icmp_eq (tgt := 62) hx hb d_L_decideFrom_40 rfl (fun q_7 => ?_) (fun q_7 => ?_)
      · have hf := sr_it q_7 hf
        exact k_L_decideFrom_62 X hk2 Z (lv_sub hl [1, 2, 3, 4] rfl) hf
      · have hf := sr_if q_7 hf
        refine lv_aload_n hx hb d_L_decideFrom_43 rfl (lv_at hl 3 rfl) ?_
        refine lv_iload_n hx hb d_L_decideFrom_44 rfl (lv_at hl 2 rfl) ?_
        refine lv_iload hx hb d_L_decideFrom_45 (lv_at hl 0 rfl) ?_
        obtain ⟨v_11, e_12, hf⟩ := sr_b hf
        refine sr_cVi (As := [.int x1, .int v_5]) (rest := []) X Z sr_cut_self hK (c_V_read e_12) (cw_L_45 X.2.2.2.2.2.1 (by decide)) 16 rfl rfl rfl hl rfl (Nat.le_of_ble_eq_true rfl) d_L_decideFrom_47 (fun H locs Z => ?_)
        refine lv_aload_n hx hb d_L_decideFrom_50 rfl (lv_at hl 1 rfl) ?_
        refine g_L_15_I X Z d_L_decideFrom_51 ?_
        refine g_L_50_I X Z d_L_decideFrom_54 ?_
        refine lv_iload_n hx hb d_L_decideFrom_57 rfl (lv_at hl 4 rfl) ?_
        obtain ⟨v_13, e_14, hf⟩ := sr_b hf
        refine sr_iald hx hb hK Z 14 13 rfl rfl e_14 d_L_decideFrom_58 ?_
        refine lv_icmp_ge (tgt := 66) hx hb d_L_decideFrom_59 rfl (fun q_15 => ?_) (fun q_15 => ?_)
        · have hf := sr_it q_15 hf
          refine lv_iconst (v := 0) hx hb d_L_decideFrom_66 (by decide) ?_
          exact k_L_decideFrom_67 X hk2 Z (lv_sub hl [1, 2, 3, 4] rfl) hf
        · have hf := sr_if q_15 hf
          exact k_L_decideFrom_62 X hk2 Z (lv_sub hl [1, 2, 3, 4] rfl) hf
def f_L_decideFrom_2_it (p0 : St) : Nat → Int32 → Int32 → St → Option (St)
  | 0 => fun _ _ _ => none
  | n + 1 => fun x1 x3 i0 => f_L_decideFrom_2 (f_L_decideFrom_2_it p0 n) p0 x1 x3 i0
set_option maxHeartbeats 4000000 in
set_option maxRecDepth 100000 in
theorem k_L_decideFrom_2_it {p0 : St} {i' : St} (X : sr_X D (tI t v) b_L_decideFrom 6 R_L w_L_decideFrom p s m args meth c A none) (n : Nat) : ∀ {x1 : Int32} {x3 : Int32} {i0 : St} {H : Heap} {locs : List Loc} {ls : Array Slot}, sr_Z D A s.heap (wI h t o v p0 i0) H locs → lv_has ls 6 [(0, .ref (o 2)), (1, .int x1), (2, .ref (o 1)), (3, .int x3)] → f_L_decideFrom_2_it p0 n x1 x3 i0 = some i' → W p l e (sr_rm 1 23) s m args below meth c H locs 0 0 (sr_Qv D (tI t v) below args s A (wI h t o v p0 i')) (F0 m 2 ls []) := by
  induction n with
  | zero => intro x1 x3 i0 H locs ls Z hl hf; exact absurd hf (by simp [f_L_decideFrom_2_it])
  | succ n ih =>
    intro x1 x3 i0 H locs ls Z hl hf
    exact k_L_decideFrom_2 X (fun x1 x3 i0 H locs ls Z hl hf => ih Z hl hf) Z hl hf
def f_L_decideFrom (p0 : St) (x1 : Int32) (i0 : St) : Option (St) :=
  f_L_decideFrom_2_it p0 60 x1 0 i0
set_option maxHeartbeats 4000000 in
set_option maxRecDepth 100000 in
theorem k_L_decideFrom_0 {p0 : St} {x1 : Int32} {i0 : St} {i' : St} (X : sr_X D (tI t v) b_L_decideFrom 6 R_L w_L_decideFrom p s m args meth c A none) (Z : sr_Z D A s.heap (wI h t o v p0 i0) H locs) (hl : lv_has ls 6 [(0, .ref (o 2)), (1, .int x1), (2, .ref (o 1))]) (hf : f_L_decideFrom p0 x1 i0 = some i') : W p l e (sr_rm 1 23) s m args below meth c H locs 0 0 (sr_Qv D (tI t v) below args s A (wI h t o v p0 i')) (F0 m 0 ls []) := by
  have hx := X.1
  have hb := X.2.1
  have hK := X.2.2.2.2.2.2.1
  unfold f_L_decideFrom at hf
  refine lv_iconst (v := 0) hx hb d_L_decideFrom_0 (by decide) ?_
  refine lv_istore_n (lv' := [(3, .int 0), (0, .ref (o 2)), (1, .int x1), (2, .ref (o 1))]) hx hb d_L_decideFrom_1 rfl hl (by decide) rfl (fun ls hl => ?_)
  exact k_L_decideFrom_2_it X _ Z (lv_sub hl [1, 2, 3, 0] rfl) hf
end
set_option maxHeartbeats 4000000 in
set_option maxRecDepth 100000 in
theorem c_L_decideFrom {l : Launch} {D : va_G} {h : Nat → Nat} {t : Nat → ClassId} {o : Nat → Nat} {v : Nat → ClassId} {sz : Nat} {p0 : St} {x1 : Int32} {i0 : St} {i' : St} (hf : f_L_decideFrom p0 x1 i0 = some i') : sr_Cv l y_L_decideFrom w_L_decideFrom (sr_rm 1 23) D (tI t v) (wI h t o v p0 i0) (wI h t o v p0 i') sz [.ref (o 2), .int x1, .ref (o 1)] := by
  refine Met.ofW (cc := b_L_decideFrom) (maxL := 6) (ret := none) (by decide) rfl ?_
  intro p e s m args below meth c s₁ B hml hv
  obtain ⟨rfl, hsz, hP, hK, hD0⟩ := hv
  subst hsz
  have X : sr_X D (tI t v) b_L_decideFrom 6 R_L w_L_decideFrom p s m _ meth c (va_A (wI h t o v p0 i0) s.heap.size) none := ⟨B.exec, B.bytes, hml, findClass_of_methodNamed B.named, B.notSynchronized, atoms_spec (ws := w_L_decideFrom) B.pre, hK, fun q h => Or.inr h, B.returns⟩
  have Z : sr_Z D (va_A (wI h t o v p0 i0) s.heap.size) s.heap (wI h t o v p0 i0) s.heap [] := ⟨hP, hD0.self, va_S.rf⟩
  have hl := lv_entry ([.ref (o 2), .int x1, .ref (o 1)] : List Value) (n := 6) (Nat.le_of_ble_eq_true rfl)
  rw [lg_entry_eq]
  exact k_L_decideFrom_0 X Z hl hf
/-! I_complete -/
theorem d_I_complete_0 : decode b_I_complete 0 = .ok (.aload_n 0, 1) := by decide +kernel
theorem d_I_complete_1 : decode b_I_complete 1 = .ok (.iload_n 1, 1) := by decide +kernel
theorem d_I_complete_2 : decode b_I_complete 2 = .ok (.bipush 8, 2) := by decide +kernel
theorem d_I_complete_4 : decode b_I_complete 4 = .ok (.iconst 2, 1) := by decide +kernel
theorem d_I_complete_5 : decode b_I_complete 5 = .ok (.invokevirtual 176, 3) := by decide +kernel
theorem d_I_complete_8 : decode b_I_complete 8 = .ok (.aload_n 0, 1) := by decide +kernel
theorem d_I_complete_9 : decode b_I_complete 9 = .ok (.getfield 57, 3) := by decide +kernel
theorem d_I_complete_12 : decode b_I_complete 12 = .ok (.iload_n 1, 1) := by decide +kernel
theorem d_I_complete_13 : decode b_I_complete 13 = .ok (.aload_n 0, 1) := by decide +kernel
theorem d_I_complete_14 : decode b_I_complete 14 = .ok (.getfield 50, 3) := by decide +kernel
theorem d_I_complete_17 : decode b_I_complete 17 = .ok (.invokevirtual 254, 3) := by decide +kernel
theorem d_I_complete_20 : decode b_I_complete 20 = .ok (.aload_n 0, 1) := by decide +kernel
theorem d_I_complete_21 : decode b_I_complete 21 = .ok (.iload_n 1, 1) := by decide +kernel
theorem d_I_complete_22 : decode b_I_complete 22 = .ok (.invokevirtual 173, 3) := by decide +kernel
theorem d_I_complete_25 : decode b_I_complete 25 = .ok (.return_, 1) := by decide +kernel
section
variable {p : Program} {l : Launch} {e : Env} {s : State} {m : MethodId} {args : Array Value} {below : List Frame} {meth : Method} {c : Code} {H : Heap} {locs : List Loc} {ls : Array Slot} {D : va_G} {A : Nat → Prop} {h o : Nat → Nat} {t v : Nat → ClassId}
def f_I_complete (p0 : St) (x1 : Int32) (i0 : St) : Option (St) :=
  (f_I_become p0 x1 8 2 i0).bind fun i_1 =>
  (f_L_decideFrom p0 x1 i_1).bind fun i_3 =>
  (f_I_reports p0 x1 i_3).bind fun i_5 =>
  some i_5
set_option maxHeartbeats 4000000 in
set_option maxRecDepth 100000 in
theorem k_I_complete_0 {p0 : St} {x1 : Int32} {i0 : St} {i' : St} (X : sr_X D (tI t v) b_I_complete 2 R_I w_I_complete p s m args meth c A none) (Z : sr_Z D A s.heap (wI h t o v p0 i0) H locs) (hl : lv_has ls 2 [(0, .ref (o 0)), (1, .int x1)]) (hf : f_I_complete p0 x1 i0 = some i') : W p l e (sr_rm 2 48) s m args below meth c H locs 0 0 (sr_Qv D (tI t v) below args s A (wI h t o v p0 i')) (F0 m 0 ls []) := by
  have hx := X.1
  have hb := X.2.1
  have hK := X.2.2.2.2.2.2.1
  unfold f_I_complete at hf
  refine lv_aload_n hx hb d_I_complete_0 rfl (lv_at hl 0 rfl) ?_
  refine lv_iload_n hx hb d_I_complete_1 rfl (lv_at hl 1 rfl) ?_
  refine lv_bipush (v := 8) hx hb d_I_complete_2 (by decide) ?_
  refine lv_iconst (v := 2) hx hb d_I_complete_4 (by decide) ?_
  obtain ⟨i_1, e_2, hf⟩ := sr_b hf
  refine sr_cVv (As := [.int x1, .int 8, .int 2]) (rest := []) X Z sr_cut_self hK (c_I_become e_2) (cw_I_176 X.2.2.2.2.2.1 (by decide)) 15 rfl rfl rfl hl rfl (Nat.le_of_ble_eq_true rfl) d_I_complete_5 (fun H locs Z => ?_)
  refine lv_aload_n hx hb d_I_complete_8 rfl (lv_at hl 0 rfl) ?_
  refine g_I_57_I X Z d_I_complete_9 ?_
  refine lv_iload_n hx hb d_I_complete_12 rfl (lv_at hl 1 rfl) ?_
  refine lv_aload_n hx hb d_I_complete_13 rfl (lv_at hl 0 rfl) ?_
  refine g_I_50_I X Z d_I_complete_14 ?_
  obtain ⟨i_3, e_4, hf⟩ := sr_b hf
  refine sr_cVv (As := [.int x1, .ref (o 1)]) (rest := []) X Z sr_cut_self hK (c_L_decideFrom e_4) (cw_I_254 X.2.2.2.2.2.1 (by decide)) 17 rfl rfl rfl hl rfl (Nat.le_of_ble_eq_true rfl) d_I_complete_17 (fun H locs Z => ?_)
  refine lv_aload_n hx hb d_I_complete_20 rfl (lv_at hl 0 rfl) ?_
  refine lv_iload_n hx hb d_I_complete_21 rfl (lv_at hl 1 rfl) ?_
  obtain ⟨i_5, e_6, hf⟩ := sr_b hf
  refine sr_cVv (As := [.int x1]) (rest := []) X Z sr_cut_self hK (c_I_reports e_6) (cw_I_173 X.2.2.2.2.2.1 (by decide)) 15 rfl rfl rfl hl rfl (Nat.le_of_ble_eq_true rfl) d_I_complete_22 (fun H locs Z => ?_)
  cases hf
  exact sr_retv X Z d_I_complete_25
end
set_option maxHeartbeats 4000000 in
set_option maxRecDepth 100000 in
theorem c_I_complete {l : Launch} {D : va_G} {h : Nat → Nat} {t : Nat → ClassId} {o : Nat → Nat} {v : Nat → ClassId} {sz : Nat} {p0 : St} {x1 : Int32} {i0 : St} {i' : St} (hf : f_I_complete p0 x1 i0 = some i') : sr_Cv l y_I_complete w_I_complete (sr_rm 2 48) D (tI t v) (wI h t o v p0 i0) (wI h t o v p0 i') sz [.ref (o 0), .int x1] := by
  refine Met.ofW (cc := b_I_complete) (maxL := 2) (ret := none) (by decide) rfl ?_
  intro p e s m args below meth c s₁ B hml hv
  obtain ⟨rfl, hsz, hP, hK, hD0⟩ := hv
  subst hsz
  have X : sr_X D (tI t v) b_I_complete 2 R_I w_I_complete p s m _ meth c (va_A (wI h t o v p0 i0) s.heap.size) none := ⟨B.exec, B.bytes, hml, findClass_of_methodNamed B.named, B.notSynchronized, atoms_spec (ws := w_I_complete) B.pre, hK, fun q h => Or.inr h, B.returns⟩
  have Z : sr_Z D (va_A (wI h t o v p0 i0) s.heap.size) s.heap (wI h t o v p0 i0) s.heap [] := ⟨hP, hD0.self, va_S.rf⟩
  have hl := lv_entry ([.ref (o 0), .int x1] : List Value) (n := 2) (Nat.le_of_ble_eq_true rfl)
  rw [lg_entry_eq]
  exact k_I_complete_0 X Z hl hf
/-! I_endBody -/
theorem d_I_endBody_0 : decode b_I_endBody 0 = .ok (.iload_n 1, 1) := by decide +kernel
theorem d_I_endBody_1 : decode b_I_endBody 1 = .ok (.ifCond .ne 11, 3) := by decide +kernel
theorem d_I_endBody_4 : decode b_I_endBody 4 = .ok (.aload_n 0, 1) := by decide +kernel
theorem d_I_endBody_5 : decode b_I_endBody 5 = .ok (.iload_n 1, 1) := by decide +kernel
theorem d_I_endBody_6 : decode b_I_endBody 6 = .ok (.invokevirtual 123, 3) := by decide +kernel
theorem d_I_endBody_9 : decode b_I_endBody 9 = .ok (.goto 54, 3) := by decide +kernel
theorem d_I_endBody_12 : decode b_I_endBody 12 = .ok (.aload_n 0, 1) := by decide +kernel
theorem d_I_endBody_13 : decode b_I_endBody 13 = .ok (.getfield 64, 3) := by decide +kernel
theorem d_I_endBody_16 : decode b_I_endBody 16 = .ok (.invokevirtual 267, 3) := by decide +kernel
theorem d_I_endBody_19 : decode b_I_endBody 19 = .ok (.ifCond .eq 13, 3) := by decide +kernel
theorem d_I_endBody_22 : decode b_I_endBody 22 = .ok (.aload_n 0, 1) := by decide +kernel
theorem d_I_endBody_23 : decode b_I_endBody 23 = .ok (.iload_n 2, 1) := by decide +kernel
theorem d_I_endBody_24 : decode b_I_endBody 24 = .ok (.bipush 102, 2) := by decide +kernel
theorem d_I_endBody_26 : decode b_I_endBody 26 = .ok (.invokevirtual 131, 3) := by decide +kernel
theorem d_I_endBody_29 : decode b_I_endBody 29 = .ok (.goto 34, 3) := by decide +kernel
theorem d_I_endBody_32 : decode b_I_endBody 32 = .ok (.aload_n 0, 1) := by decide +kernel
theorem d_I_endBody_33 : decode b_I_endBody 33 = .ok (.getfield 64, 3) := by decide +kernel
theorem d_I_endBody_36 : decode b_I_endBody 36 = .ok (.iload_n 1, 1) := by decide +kernel
theorem d_I_endBody_37 : decode b_I_endBody 37 = .ok (.aload_n 0, 1) := by decide +kernel
theorem d_I_endBody_38 : decode b_I_endBody 38 = .ok (.getfield 50, 3) := by decide +kernel
theorem d_I_endBody_41 : decode b_I_endBody 41 = .ok (.getfield 229, 3) := by decide +kernel
theorem d_I_endBody_44 : decode b_I_endBody 44 = .ok (.iload_n 1, 1) := by decide +kernel
theorem d_I_endBody_45 : decode b_I_endBody 45 = .ok (.iaload, 1) := by decide +kernel
theorem d_I_endBody_46 : decode b_I_endBody 46 = .ok (.aload_n 0, 1) := by decide +kernel
theorem d_I_endBody_47 : decode b_I_endBody 47 = .ok (.getfield 25, 3) := by decide +kernel
theorem d_I_endBody_50 : decode b_I_endBody 50 = .ok (.getfield 186, 3) := by decide +kernel
theorem d_I_endBody_53 : decode b_I_endBody 53 = .ok (.iload_n 1, 1) := by decide +kernel
theorem d_I_endBody_54 : decode b_I_endBody 54 = .ok (.iaload, 1) := by decide +kernel
theorem d_I_endBody_55 : decode b_I_endBody 55 = .ok (.invokevirtual 271, 3) := by decide +kernel
theorem d_I_endBody_58 : decode b_I_endBody 58 = .ok (.aload_n 0, 1) := by decide +kernel
theorem d_I_endBody_59 : decode b_I_endBody 59 = .ok (.iload_n 1, 1) := by decide +kernel
theorem d_I_endBody_60 : decode b_I_endBody 60 = .ok (.invokevirtual 123, 3) := by decide +kernel
theorem d_I_endBody_63 : decode b_I_endBody 63 = .ok (.return_, 1) := by decide +kernel
section
variable {p : Program} {l : Launch} {e : Env} {s : State} {m : MethodId} {args : Array Value} {below : List Frame} {meth : Method} {c : Code} {H : Heap} {locs : List Loc} {ls : Array Slot} {D : va_G} {A : Nat → Prop} {h o : Nat → Nat} {t v : Nat → ClassId}
def f_I_endBody (p0 : St) (x1 : Int32) (x2 : Int32) (i0 : St) : Option (St) :=
  if x1 = 0 then
    (f_I_completes p0 x1 i0).bind fun i_15 =>
    some i_15
  else
    (f_E_areUsedUp p0 i0).bind fun v_2 =>
    if v_2 = 0 then
      (sr_ald 24 (i0 12) x1).bind fun v_5 =>
      (sr_ald 24 (p0 6) x1).bind fun v_7 =>
      (f_E_make p0 x1 v_5 v_7 i0).bind fun i_9 =>
      (f_I_completes p0 x1 i_9).bind fun i_11 =>
      some i_11
    else
      (f_I_faults p0 x2 102 i0).bind fun i_13 =>
      some i_13
set_option maxHeartbeats 4000000 in
set_option maxRecDepth 100000 in
theorem k_I_endBody_0 {p0 : St} {x1 : Int32} {x2 : Int32} {i0 : St} {i' : St} (X : sr_X D (tI t v) b_I_endBody 3 R_I w_I_endBody p s m args meth c A none) (Z : sr_Z D A s.heap (wI h t o v p0 i0) H locs) (hl : lv_has ls 3 [(0, .ref (o 0)), (1, .int x1), (2, .int x2)]) (hf : f_I_endBody p0 x1 x2 i0 = some i') : W p l e (sr_rm 2 46) s m args below meth c H locs 0 0 (sr_Qv D (tI t v) below args s A (wI h t o v p0 i')) (F0 m 0 ls []) := by
  have hx := X.1
  have hb := X.2.1
  have hK := X.2.2.2.2.2.2.1
  unfold f_I_endBody at hf
  refine lv_iload_n hx hb d_I_endBody_0 rfl (lv_at hl 1 rfl) ?_
  refine lv_if_ne (tgt := 12) hx hb d_I_endBody_1 rfl (fun q_1 => ?_) (fun q_1 => ?_)
  · have hf := sr_if q_1 hf
    refine lv_aload_n hx hb d_I_endBody_12 rfl (lv_at hl 0 rfl) ?_
    refine g_I_64_I X Z d_I_endBody_13 ?_
    obtain ⟨v_2, e_3, hf⟩ := sr_b hf
    refine sr_cVi (As := []) (rest := []) X Z sr_cut_self hK (c_E_areUsedUp e_3) (cw_I_267 X.2.2.2.2.2.1 (by decide)) 18 rfl rfl rfl hl rfl (Nat.le_of_ble_eq_true rfl) d_I_endBody_16 (fun H locs Z => ?_)
    refine lv_if_eq (tgt := 32) hx hb d_I_endBody_19 rfl (fun q_4 => ?_) (fun q_4 => ?_)
    · have hf := sr_it q_4 hf
      refine lv_aload_n hx hb d_I_endBody_32 rfl (lv_at hl 0 rfl) ?_
      refine g_I_64_I X Z d_I_endBody_33 ?_
      refine lv_iload_n hx hb d_I_endBody_36 rfl (lv_at hl 1 rfl) ?_
      refine lv_aload_n hx hb d_I_endBody_37 rfl (lv_at hl 0 rfl) ?_
      refine g_I_50_I X Z d_I_endBody_38 ?_
      refine g_I_229_I X Z d_I_endBody_41 ?_
      refine lv_iload_n hx hb d_I_endBody_44 rfl (lv_at hl 1 rfl) ?_
      obtain ⟨v_5, e_6, hf⟩ := sr_b hf
      refine sr_iald hx hb hK Z 25 19 rfl rfl e_6 d_I_endBody_45 ?_
      refine lv_aload_n hx hb d_I_endBody_46 rfl (lv_at hl 0 rfl) ?_
      refine g_I_25_I X Z d_I_endBody_47 ?_
      refine g_I_186_I X Z d_I_endBody_50 ?_
      refine lv_iload_n hx hb d_I_endBody_53 rfl (lv_at hl 1 rfl) ?_
      obtain ⟨v_7, e_8, hf⟩ := sr_b hf
      refine sr_iald hx hb hK Z 7 6 rfl rfl e_8 d_I_endBody_54 ?_
      obtain ⟨i_9, e_10, hf⟩ := sr_b hf
      refine sr_cVv (As := [.int x1, .int v_5, .int v_7]) (rest := []) X Z sr_cut_self hK (c_E_make e_10) (cw_I_271 X.2.2.2.2.2.1 (by decide)) 18 rfl rfl rfl hl rfl (Nat.le_of_ble_eq_true rfl) d_I_endBody_55 (fun H locs Z => ?_)
      refine lv_aload_n hx hb d_I_endBody_58 rfl (lv_at hl 0 rfl) ?_
      refine lv_iload_n hx hb d_I_endBody_59 rfl (lv_at hl 1 rfl) ?_
      obtain ⟨i_11, e_12, hf⟩ := sr_b hf
      refine sr_cVv (As := [.int x1]) (rest := []) X Z sr_cut_self hK (c_I_completes e_12) (cw_I_123 X.2.2.2.2.2.1 (by decide)) 15 rfl rfl rfl hl rfl (Nat.le_of_ble_eq_true rfl) d_I_endBody_60 (fun H locs Z => ?_)
      cases hf
      exact sr_retv X Z d_I_endBody_63
    · have hf := sr_if q_4 hf
      refine lv_aload_n hx hb d_I_endBody_22 rfl (lv_at hl 0 rfl) ?_
      refine lv_iload_n hx hb d_I_endBody_23 rfl (lv_at hl 2 rfl) ?_
      refine lv_bipush (v := 102) hx hb d_I_endBody_24 (by decide) ?_
      obtain ⟨i_13, e_14, hf⟩ := sr_b hf
      refine sr_cVv (As := [.int x2, .int 102]) (rest := []) X Z sr_cut_self hK (c_I_faults e_14) (cw_I_131 X.2.2.2.2.2.1 (by decide)) 15 rfl rfl rfl hl rfl (Nat.le_of_ble_eq_true rfl) d_I_endBody_26 (fun H locs Z => ?_)
      refine lv_goto (tgt := 63) hx hb d_I_endBody_29 rfl ?_
      cases hf
      exact sr_retv X Z d_I_endBody_63
  · have hf := sr_it q_1 hf
    refine lv_aload_n hx hb d_I_endBody_4 rfl (lv_at hl 0 rfl) ?_
    refine lv_iload_n hx hb d_I_endBody_5 rfl (lv_at hl 1 rfl) ?_
    obtain ⟨i_15, e_16, hf⟩ := sr_b hf
    refine sr_cVv (As := [.int x1]) (rest := []) X Z sr_cut_self hK (c_I_completes e_16) (cw_I_123 X.2.2.2.2.2.1 (by decide)) 15 rfl rfl rfl hl rfl (Nat.le_of_ble_eq_true rfl) d_I_endBody_6 (fun H locs Z => ?_)
    refine lv_goto (tgt := 63) hx hb d_I_endBody_9 rfl ?_
    cases hf
    exact sr_retv X Z d_I_endBody_63
end
set_option maxHeartbeats 4000000 in
set_option maxRecDepth 100000 in
theorem c_I_endBody {l : Launch} {D : va_G} {h : Nat → Nat} {t : Nat → ClassId} {o : Nat → Nat} {v : Nat → ClassId} {sz : Nat} {p0 : St} {x1 : Int32} {x2 : Int32} {i0 : St} {i' : St} (hf : f_I_endBody p0 x1 x2 i0 = some i') : sr_Cv l y_I_endBody w_I_endBody (sr_rm 2 46) D (tI t v) (wI h t o v p0 i0) (wI h t o v p0 i') sz [.ref (o 0), .int x1, .int x2] := by
  refine Met.ofW (cc := b_I_endBody) (maxL := 3) (ret := none) (by decide) rfl ?_
  intro p e s m args below meth c s₁ B hml hv
  obtain ⟨rfl, hsz, hP, hK, hD0⟩ := hv
  subst hsz
  have X : sr_X D (tI t v) b_I_endBody 3 R_I w_I_endBody p s m _ meth c (va_A (wI h t o v p0 i0) s.heap.size) none := ⟨B.exec, B.bytes, hml, findClass_of_methodNamed B.named, B.notSynchronized, atoms_spec (ws := w_I_endBody) B.pre, hK, fun q h => Or.inr h, B.returns⟩
  have Z : sr_Z D (va_A (wI h t o v p0 i0) s.heap.size) s.heap (wI h t o v p0 i0) s.heap [] := ⟨hP, hD0.self, va_S.rf⟩
  have hl := lv_entry ([.ref (o 0), .int x1, .int x2] : List Value) (n := 3) (Nat.le_of_ble_eq_true rfl)
  rw [lg_entry_eq]
  exact k_I_endBody_0 X Z hl hf
/-! I_allChildrenEnded -/
theorem d_I_allChildrenEnded_0 : decode b_I_allChildrenEnded 0 = .ok (.iload_n 1, 1) := by decide +kernel
theorem d_I_allChildrenEnded_1 : decode b_I_allChildrenEnded 1 = .ok (.iconst 1, 1) := by decide +kernel
theorem d_I_allChildrenEnded_2 : decode b_I_allChildrenEnded 2 = .ok (.iadd, 1) := by decide +kernel
theorem d_I_allChildrenEnded_3 : decode b_I_allChildrenEnded 3 = .ok (.istore_n 2, 1) := by decide +kernel
theorem d_I_allChildrenEnded_4 : decode b_I_allChildrenEnded 4 = .ok (.iload_n 2, 1) := by decide +kernel
theorem d_I_allChildrenEnded_5 : decode b_I_allChildrenEnded 5 = .ok (.aload_n 0, 1) := by decide +kernel
theorem d_I_allChildrenEnded_6 : decode b_I_allChildrenEnded 6 = .ok (.getfield 25, 3) := by decide +kernel
theorem d_I_allChildrenEnded_9 : decode b_I_allChildrenEnded 9 = .ok (.getfield 80, 3) := by decide +kernel
theorem d_I_allChildrenEnded_12 : decode b_I_allChildrenEnded 12 = .ok (.if_icmp .ge 56, 3) := by decide +kernel
theorem d_I_allChildrenEnded_15 : decode b_I_allChildrenEnded 15 = .ok (.aload_n 0, 1) := by decide +kernel
theorem d_I_allChildrenEnded_16 : decode b_I_allChildrenEnded 16 = .ok (.getfield 9, 3) := by decide +kernel
theorem d_I_allChildrenEnded_19 : decode b_I_allChildrenEnded 19 = .ok (.iload_n 2, 1) := by decide +kernel
theorem d_I_allChildrenEnded_20 : decode b_I_allChildrenEnded 20 = .ok (.iaload, 1) := by decide +kernel
theorem d_I_allChildrenEnded_21 : decode b_I_allChildrenEnded 21 = .ok (.bipush 8, 2) := by decide +kernel
theorem d_I_allChildrenEnded_23 : decode b_I_allChildrenEnded 23 = .ok (.if_icmp .eq 14, 3) := by decide +kernel
theorem d_I_allChildrenEnded_26 : decode b_I_allChildrenEnded 26 = .ok (.aload_n 0, 1) := by decide +kernel
theorem d_I_allChildrenEnded_27 : decode b_I_allChildrenEnded 27 = .ok (.getfield 9, 3) := by decide +kernel
theorem d_I_allChildrenEnded_30 : decode b_I_allChildrenEnded 30 = .ok (.iload_n 2, 1) := by decide +kernel
theorem d_I_allChildrenEnded_31 : decode b_I_allChildrenEnded 31 = .ok (.iaload, 1) := by decide +kernel
theorem d_I_allChildrenEnded_32 : decode b_I_allChildrenEnded 32 = .ok (.bipush 9, 2) := by decide +kernel
theorem d_I_allChildrenEnded_34 : decode b_I_allChildrenEnded 34 = .ok (.if_icmp .ne 7, 3) := by decide +kernel
theorem d_I_allChildrenEnded_37 : decode b_I_allChildrenEnded 37 = .ok (.iconst 1, 1) := by decide +kernel
theorem d_I_allChildrenEnded_38 : decode b_I_allChildrenEnded 38 = .ok (.goto 4, 3) := by decide +kernel
theorem d_I_allChildrenEnded_41 : decode b_I_allChildrenEnded 41 = .ok (.iconst 0, 1) := by decide +kernel
theorem d_I_allChildrenEnded_42 : decode b_I_allChildrenEnded 42 = .ok (.istore_n 3, 1) := by decide +kernel
theorem d_I_allChildrenEnded_43 : decode b_I_allChildrenEnded 43 = .ok (.aload_n 0, 1) := by decide +kernel
theorem d_I_allChildrenEnded_44 : decode b_I_allChildrenEnded 44 = .ok (.getfield 25, 3) := by decide +kernel
theorem d_I_allChildrenEnded_47 : decode b_I_allChildrenEnded 47 = .ok (.getfield 210, 3) := by decide +kernel
theorem d_I_allChildrenEnded_50 : decode b_I_allChildrenEnded 50 = .ok (.iload_n 2, 1) := by decide +kernel
theorem d_I_allChildrenEnded_51 : decode b_I_allChildrenEnded 51 = .ok (.iaload, 1) := by decide +kernel
theorem d_I_allChildrenEnded_52 : decode b_I_allChildrenEnded 52 = .ok (.iload_n 1, 1) := by decide +kernel
theorem d_I_allChildrenEnded_53 : decode b_I_allChildrenEnded 53 = .ok (.if_icmp .ne 9, 3) := by decide +kernel
theorem d_I_allChildrenEnded_56 : decode b_I_allChildrenEnded 56 = .ok (.iload_n 3, 1) := by decide +kernel
theorem d_I_allChildrenEnded_57 : decode b_I_allChildrenEnded 57 = .ok (.ifCond .ne 5, 3) := by decide +kernel
theorem d_I_allChildrenEnded_60 : decode b_I_allChildrenEnded 60 = .ok (.iconst 0, 1) := by decide +kernel
theorem d_I_allChildrenEnded_61 : decode b_I_allChildrenEnded 61 = .ok (.ireturn, 1) := by decide +kernel
theorem d_I_allChildrenEnded_62 : decode b_I_allChildrenEnded 62 = .ok (.iinc 2 1, 3) := by decide +kernel
theorem d_I_allChildrenEnded_65 : decode b_I_allChildrenEnded 65 = .ok (.goto (-61), 3) := by decide +kernel
theorem d_I_allChildrenEnded_68 : decode b_I_allChildrenEnded 68 = .ok (.iconst 1, 1) := by decide +kernel
theorem d_I_allChildrenEnded_69 : decode b_I_allChildrenEnded 69 = .ok (.ireturn, 1) := by decide +kernel
section
variable {p : Program} {l : Launch} {e : Env} {s : State} {m : MethodId} {args : Array Value} {below : List Frame} {meth : Method} {c : Code} {H : Heap} {locs : List Loc} {ls : Array Slot} {D : va_G} {A : Nat → Prop} {h o : Nat → Nat} {t v : Nat → ClassId}
def f_I_allChildrenEnded_62 (k4 : Int32 → Int32 → Option (Int32)) (p0 : St) (i0 : St) (x1 : Int32) (x2 : Int32) : Option (Int32) :=
  k4 x1 (x2 + 1)
set_option maxHeartbeats 4000000 in
set_option maxRecDepth 100000 in
theorem k_I_allChildrenEnded_62 {k4 : Int32 → Int32 → Option (Int32)} {p0 : St} {i0 : St} {x1 : Int32} {x2 : Int32} {r : Int32} (X : sr_X D (tI t v) b_I_allChildrenEnded 4 R_I w_I_allChildrenEnded p s m args meth c A (some .boolean)) (hk4 : ∀ (x1 : Int32) (x2 : Int32) (H : Heap) (locs : List Loc) (ls : Array Slot), sr_Z D A s.heap (wI h t o v p0 i0) H locs → lv_has ls 4 [(0, .ref (o 0)), (1, .int x1), (2, .int x2)] → k4 x1 x2 = some r → W p l e (sr_rm 0 0) s m args below meth c H locs 0 0 (sr_Qi D (tI t v) below args s A (wI h t o v p0 i0) r) (F0 m 4 ls [])) (Z : sr_Z D A s.heap (wI h t o v p0 i0) H locs) (hl : lv_has ls 4 [(0, .ref (o 0)), (1, .int x1), (2, .int x2)]) (hf : f_I_allChildrenEnded_62 k4 p0 i0 x1 x2 = some r) : W p l e (sr_rm 0 0) s m args below meth c H locs 0 0 (sr_Qi D (tI t v) below args s A (wI h t o v p0 i0) r) (F0 m 62 ls []) := by
  have hx := X.1
  have hb := X.2.1
  have hK := X.2.2.2.2.2.2.1
  unfold f_I_allChildrenEnded_62 at hf
  refine lv_iinc (k := 2) (v := x2 + 1) (lv' := [(2, .int (x2 + 1)), (0, .ref (o 0)), (1, .int x1)]) hx hb d_I_allChildrenEnded_62 hl rfl rfl (by decide) rfl (fun ls hl => ?_)
  refine lv_goto (tgt := 4) hx hb d_I_allChildrenEnded_65 rfl ?_
  exact hk4 x1 (x2 + 1) _ _ _ Z (lv_sub hl [1, 2, 0] rfl) hf
def f_I_allChildrenEnded_42 (k4 : Int32 → Int32 → Option (Int32)) (p0 : St) (i0 : St) (x1 : Int32) (x2 : Int32) (y0 : Int32) : Option (Int32) :=
  (sr_ald 24 (p0 0) x2).bind fun v_5 =>
  if v_5 = x1 then
    if y0 = 0 then
      some 0
    else
      f_I_allChildrenEnded_62 k4 p0 i0 x1 x2
  else
    f_I_allChildrenEnded_62 k4 p0 i0 x1 x2
set_option maxHeartbeats 4000000 in
set_option maxRecDepth 100000 in
theorem k_I_allChildrenEnded_42 {k4 : Int32 → Int32 → Option (Int32)} {p0 : St} {i0 : St} {x1 : Int32} {x2 : Int32} {y0 : Int32} {r : Int32} (X : sr_X D (tI t v) b_I_allChildrenEnded 4 R_I w_I_allChildrenEnded p s m args meth c A (some .boolean)) (hk4 : ∀ (x1 : Int32) (x2 : Int32) (H : Heap) (locs : List Loc) (ls : Array Slot), sr_Z D A s.heap (wI h t o v p0 i0) H locs → lv_has ls 4 [(0, .ref (o 0)), (1, .int x1), (2, .int x2)] → k4 x1 x2 = some r → W p l e (sr_rm 0 0) s m args below meth c H locs 0 0 (sr_Qi D (tI t v) below args s A (wI h t o v p0 i0) r) (F0 m 4 ls [])) (Z : sr_Z D A s.heap (wI h t o v p0 i0) H locs) (hl : lv_has ls 4 [(0, .ref (o 0)), (1, .int x1), (2, .int x2)]) (hf : f_I_allChildrenEnded_42 k4 p0 i0 x1 x2 y0 = some r) : W p l e (sr_rm 0 0) s m args below meth c H locs 0 0 (sr_Qi D (tI t v) below args s A (wI h t o v p0 i0) r) (F0 m 42 ls [.int y0]) := by
  have hx := X.1
  have hb := X.2.1
  have hK := X.2.2.2.2.2.2.1
  unfold f_I_allChildrenEnded_42 at hf
  refine lv_istore_n (lv' := [(3, .int y0), (0, .ref (o 0)), (1, .int x1), (2, .int x2)]) hx hb d_I_allChildrenEnded_42 rfl hl (by decide) rfl (fun ls hl => ?_)
  refine lv_aload_n hx hb d_I_allChildrenEnded_43 rfl (lv_at hl 1 rfl) ?_
  refine g_I_25_I X Z d_I_allChildrenEnded_44 ?_
  refine g_I_210_I X Z d_I_allChildrenEnded_47 ?_
  refine lv_iload_n hx hb d_I_allChildrenEnded_50 rfl (lv_at hl 3 rfl) ?_
  obtain ⟨v_5, e_6, hf⟩ := sr_b hf
  refine sr_iald hx hb hK Z 1 0 rfl rfl e_6 d_I_allChildrenEnded_51 ?_
  refine lv_iload_n hx hb d_I_allChildrenEnded_52 rfl (lv_at hl 2 rfl) ?_
  refine lv_icmp_ne (tgt := 62) hx hb d_I_allChildrenEnded_53 rfl (fun q_7 => ?_) (fun q_7 => ?_)
  · have hf := sr_if q_7 hf
    exact k_I_allChildrenEnded_62 X hk4 Z (lv_sub hl [1, 2, 3] rfl) hf
  · have hf := sr_it q_7 hf
    refine lv_iload_n hx hb d_I_allChildrenEnded_56 rfl (lv_at hl 0 rfl) ?_
    refine lv_if_ne (tgt := 62) hx hb d_I_allChildrenEnded_57 rfl (fun q_8 => ?_) (fun q_8 => ?_)
    · have hf := sr_if q_8 hf
      exact k_I_allChildrenEnded_62 X hk4 Z (lv_sub hl [1, 2, 3] rfl) hf
    · have hf := sr_it q_8 hf
      refine lv_iconst (v := 0) hx hb d_I_allChildrenEnded_60 (by decide) ?_
      cases hf
      exact sr_retz X Z (by decide) d_I_allChildrenEnded_61
def f_I_allChildrenEnded_37 (k4 : Int32 → Int32 → Option (Int32)) (p0 : St) (i0 : St) (x1 : Int32) (x2 : Int32) : Option (Int32) :=
  f_I_allChildrenEnded_42 k4 p0 i0 x1 x2 1
set_option maxHeartbeats 4000000 in
set_option maxRecDepth 100000 in
theorem k_I_allChildrenEnded_37 {k4 : Int32 → Int32 → Option (Int32)} {p0 : St} {i0 : St} {x1 : Int32} {x2 : Int32} {r : Int32} (X : sr_X D (tI t v) b_I_allChildrenEnded 4 R_I w_I_allChildrenEnded p s m args meth c A (some .boolean)) (hk4 : ∀ (x1 : Int32) (x2 : Int32) (H : Heap) (locs : List Loc) (ls : Array Slot), sr_Z D A s.heap (wI h t o v p0 i0) H locs → lv_has ls 4 [(0, .ref (o 0)), (1, .int x1), (2, .int x2)] → k4 x1 x2 = some r → W p l e (sr_rm 0 0) s m args below meth c H locs 0 0 (sr_Qi D (tI t v) below args s A (wI h t o v p0 i0) r) (F0 m 4 ls [])) (Z : sr_Z D A s.heap (wI h t o v p0 i0) H locs) (hl : lv_has ls 4 [(0, .ref (o 0)), (1, .int x1), (2, .int x2)]) (hf : f_I_allChildrenEnded_37 k4 p0 i0 x1 x2 = some r) : W p l e (sr_rm 0 0) s m args below meth c H locs 0 0 (sr_Qi D (tI t v) below args s A (wI h t o v p0 i0) r) (F0 m 37 ls []) := by
  have hx := X.1
  have hb := X.2.1
  have hK := X.2.2.2.2.2.2.1
  unfold f_I_allChildrenEnded_37 at hf
  refine lv_iconst (v := 1) hx hb d_I_allChildrenEnded_37 (by decide) ?_
  refine lv_goto (tgt := 42) hx hb d_I_allChildrenEnded_38 rfl ?_
  exact k_I_allChildrenEnded_42 X hk4 Z (lv_sub hl [0, 1, 2] rfl) hf
def f_I_allChildrenEnded_4 (k4 : Int32 → Int32 → Option (Int32)) (p0 : St) (i0 : St) (x1 : Int32) (x2 : Int32) : Option (Int32) :=
  if (p0 10 0) ≤ x2 then
    some 1
  else
    (sr_ald 24 (i0 4) x2).bind fun v_2 =>
    if v_2 = 8 then
      f_I_allChildrenEnded_37 k4 p0 i0 x1 x2
    else
      (sr_ald 24 (i0 4) x2).bind fun v_9 =>
      if v_9 = 9 then
        f_I_allChildrenEnded_37 k4 p0 i0 x1 x2
      else
        f_I_allChildrenEnded_42 k4 p0 i0 x1 x2 0
set_option maxHeartbeats 4000000 in
set_option maxRecDepth 100000 in
theorem k_I_allChildrenEnded_4 {k4 : Int32 → Int32 → Option (Int32)} {p0 : St} {i0 : St} {x1 : Int32} {x2 : Int32} {r : Int32} (X : sr_X D (tI t v) b_I_allChildrenEnded 4 R_I w_I_allChildrenEnded p s m args meth c A (some .boolean)) (hk4 : ∀ (x1 : Int32) (x2 : Int32) (H : Heap) (locs : List Loc) (ls : Array Slot), sr_Z D A s.heap (wI h t o v p0 i0) H locs → lv_has ls 4 [(0, .ref (o 0)), (1, .int x1), (2, .int x2)] → k4 x1 x2 = some r → W p l e (sr_rm 0 0) s m args below meth c H locs 0 0 (sr_Qi D (tI t v) below args s A (wI h t o v p0 i0) r) (F0 m 4 ls [])) (Z : sr_Z D A s.heap (wI h t o v p0 i0) H locs) (hl : lv_has ls 4 [(0, .ref (o 0)), (1, .int x1), (2, .int x2)]) (hf : f_I_allChildrenEnded_4 k4 p0 i0 x1 x2 = some r) : W p l e (sr_rm 0 0) s m args below meth c H locs 0 0 (sr_Qi D (tI t v) below args s A (wI h t o v p0 i0) r) (F0 m 4 ls []) := by
  have hx := X.1
  have hb := X.2.1
  have hK := X.2.2.2.2.2.2.1
  unfold f_I_allChildrenEnded_4 at hf
  refine lv_iload_n hx hb d_I_allChildrenEnded_4 rfl (lv_at hl 2 rfl) ?_
  refine lv_aload_n hx hb d_I_allChildrenEnded_5 rfl (lv_at hl 0 rfl) ?_
  refine g_I_25_I X Z d_I_allChildrenEnded_6 ?_
  refine g_I_80_I X Z d_I_allChildrenEnded_9 ?_
  refine lv_icmp_ge (tgt := 68) hx hb d_I_allChildrenEnded_12 rfl (fun q_1 => ?_) (fun q_1 => ?_)
  · have hf := sr_it q_1 hf
    refine lv_iconst (v := 1) hx hb d_I_allChildrenEnded_68 (by decide) ?_
    cases hf
    exact sr_retz X Z (by decide) d_I_allChildrenEnded_69
  · have hf := sr_if q_1 hf
    refine lv_aload_n hx hb d_I_allChildrenEnded_15 rfl (lv_at hl 0 rfl) ?_
    refine g_I_9_I X Z d_I_allChildrenEnded_16 ?_
    refine lv_iload_n hx hb d_I_allChildrenEnded_19 rfl (lv_at hl 2 rfl) ?_
    obtain ⟨v_2, e_3, hf⟩ := sr_b hf
    refine sr_iald hx hb hK Z 20 14 rfl rfl e_3 d_I_allChildrenEnded_20 ?_
    refine lv_bipush (v := 8) hx hb d_I_allChildrenEnded_21 (by decide) ?_
    refine lv_icmp_eq (tgt := 37) hx hb d_I_allChildrenEnded_23 rfl (fun q_4 => ?_) (fun q_4 => ?_)
    · have hf := sr_it q_4 hf
      exact k_I_allChildrenEnded_37 X hk4 Z (lv_sub hl [0, 1, 2] rfl) hf
    · have hf := sr_if q_4 hf
      refine lv_aload_n hx hb d_I_allChildrenEnded_26 rfl (lv_at hl 0 rfl) ?_
      refine g_I_9_I X Z d_I_allChildrenEnded_27 ?_
      refine lv_iload_n hx hb d_I_allChildrenEnded_30 rfl (lv_at hl 2 rfl) ?_
      obtain ⟨v_9, e_10, hf⟩ := sr_b hf
      refine sr_iald hx hb hK Z 20 14 rfl rfl e_10 d_I_allChildrenEnded_31 ?_
      refine lv_bipush (v := 9) hx hb d_I_allChildrenEnded_32 (by decide) ?_
      refine lv_icmp_ne (tgt := 41) hx hb d_I_allChildrenEnded_34 rfl (fun q_11 => ?_) (fun q_11 => ?_)
      · have hf := sr_if q_11 hf
        refine lv_iconst (v := 0) hx hb d_I_allChildrenEnded_41 (by decide) ?_
        exact k_I_allChildrenEnded_42 X hk4 Z (lv_sub hl [0, 1, 2] rfl) hf
      · have hf := sr_it q_11 hf
        exact k_I_allChildrenEnded_37 X hk4 Z (lv_sub hl [0, 1, 2] rfl) hf
def f_I_allChildrenEnded_4_it (p0 : St) (i0 : St) : Nat → Int32 → Int32 → Option (Int32)
  | 0 => fun _ _ => none
  | n + 1 => fun x1 x2 => f_I_allChildrenEnded_4 (f_I_allChildrenEnded_4_it p0 i0 n) p0 i0 x1 x2
set_option maxHeartbeats 4000000 in
set_option maxRecDepth 100000 in
theorem k_I_allChildrenEnded_4_it {p0 : St} {i0 : St} {r : Int32} (X : sr_X D (tI t v) b_I_allChildrenEnded 4 R_I w_I_allChildrenEnded p s m args meth c A (some .boolean)) (n : Nat) : ∀ {x1 : Int32} {x2 : Int32} {H : Heap} {locs : List Loc} {ls : Array Slot}, sr_Z D A s.heap (wI h t o v p0 i0) H locs → lv_has ls 4 [(0, .ref (o 0)), (1, .int x1), (2, .int x2)] → f_I_allChildrenEnded_4_it p0 i0 n x1 x2 = some r → W p l e (sr_rm 0 0) s m args below meth c H locs 0 0 (sr_Qi D (tI t v) below args s A (wI h t o v p0 i0) r) (F0 m 4 ls []) := by
  induction n with
  | zero => intro x1 x2 H locs ls Z hl hf; exact absurd hf (by simp [f_I_allChildrenEnded_4_it])
  | succ n ih =>
    intro x1 x2 H locs ls Z hl hf
    exact k_I_allChildrenEnded_4 X (fun x1 x2 H locs ls Z hl hf => ih Z hl hf) Z hl hf
def f_I_allChildrenEnded (p0 : St) (i0 : St) (x1 : Int32) : Option (Int32) :=
  f_I_allChildrenEnded_4_it p0 i0 60 x1 (x1 + 1)
set_option maxHeartbeats 4000000 in
set_option maxRecDepth 100000 in
theorem k_I_allChildrenEnded_0 {p0 : St} {i0 : St} {x1 : Int32} {r : Int32} (X : sr_X D (tI t v) b_I_allChildrenEnded 4 R_I w_I_allChildrenEnded p s m args meth c A (some .boolean)) (Z : sr_Z D A s.heap (wI h t o v p0 i0) H locs) (hl : lv_has ls 4 [(0, .ref (o 0)), (1, .int x1)]) (hf : f_I_allChildrenEnded p0 i0 x1 = some r) : W p l e (sr_rm 0 0) s m args below meth c H locs 0 0 (sr_Qi D (tI t v) below args s A (wI h t o v p0 i0) r) (F0 m 0 ls []) := by
  have hx := X.1
  have hb := X.2.1
  have hK := X.2.2.2.2.2.2.1
  unfold f_I_allChildrenEnded at hf
  refine lv_iload_n hx hb d_I_allChildrenEnded_0 rfl (lv_at hl 1 rfl) ?_
  refine lv_iconst (v := 1) hx hb d_I_allChildrenEnded_1 (by decide) ?_
  refine lv_iadd hx hb d_I_allChildrenEnded_2 ?_
  refine lv_istore_n (lv' := [(2, .int (x1 + 1)), (0, .ref (o 0)), (1, .int x1)]) hx hb d_I_allChildrenEnded_3 rfl hl (by decide) rfl (fun ls hl => ?_)
  exact k_I_allChildrenEnded_4_it X _ Z (lv_sub hl [1, 2, 0] rfl) hf
end
set_option maxHeartbeats 4000000 in
set_option maxRecDepth 100000 in
theorem c_I_allChildrenEnded {l : Launch} {D : va_G} {h : Nat → Nat} {t : Nat → ClassId} {o : Nat → Nat} {v : Nat → ClassId} {sz : Nat} {p0 : St} {i0 : St} {x1 : Int32} {r : Int32} (hf : f_I_allChildrenEnded p0 i0 x1 = some r) : sr_Ci l y_I_allChildrenEnded w_I_allChildrenEnded (sr_rm 0 0) D (tI t v) (wI h t o v p0 i0) (wI h t o v p0 i0) sz [.ref (o 0), .int x1] r := by
  refine Met.ofW (cc := b_I_allChildrenEnded) (maxL := 4) (ret := (some .boolean)) (by decide) rfl ?_
  intro p e s m args below meth c s₁ B hml hv
  obtain ⟨rfl, hsz, hP, hK, hD0⟩ := hv
  subst hsz
  have X : sr_X D (tI t v) b_I_allChildrenEnded 4 R_I w_I_allChildrenEnded p s m _ meth c (va_A (wI h t o v p0 i0) s.heap.size) (some .boolean) := ⟨B.exec, B.bytes, hml, findClass_of_methodNamed B.named, B.notSynchronized, atoms_spec (ws := w_I_allChildrenEnded) B.pre, hK, fun q h => Or.inr h, B.returns⟩
  have Z : sr_Z D (va_A (wI h t o v p0 i0) s.heap.size) s.heap (wI h t o v p0 i0) s.heap [] := ⟨hP, hD0.self, va_S.rf⟩
  have hl := lv_entry ([.ref (o 0), .int x1] : List Value) (n := 4) (Nat.le_of_ble_eq_true rfl)
  rw [lg_entry_eq]
  exact k_I_allChildrenEnded_0 X Z hl hf
