/-! I_takeMessage -/
theorem d_I_takeMessage_0 : decode b_I_takeMessage 0 = .ok (.aload_n 0, 1) := by decide +kernel
theorem d_I_takeMessage_1 : decode b_I_takeMessage 1 = .ok (.iload_n 1, 1) := by decide +kernel
theorem d_I_takeMessage_2 : decode b_I_takeMessage 2 = .ok (.invokevirtual 112, 3) := by decide +kernel
theorem d_I_takeMessage_5 : decode b_I_takeMessage 5 = .ok (.istore_n 3, 1) := by decide +kernel
theorem d_I_takeMessage_6 : decode b_I_takeMessage 6 = .ok (.iload_n 3, 1) := by decide +kernel
theorem d_I_takeMessage_7 : decode b_I_takeMessage 7 = .ok (.iconst (-1), 1) := by decide +kernel
theorem d_I_takeMessage_8 : decode b_I_takeMessage 8 = .ok (.if_icmp .ne 5, 3) := by decide +kernel
theorem d_I_takeMessage_11 : decode b_I_takeMessage 11 = .ok (.iconst 0, 1) := by decide +kernel
theorem d_I_takeMessage_12 : decode b_I_takeMessage 12 = .ok (.ireturn, 1) := by decide +kernel
theorem d_I_takeMessage_13 : decode b_I_takeMessage 13 = .ok (.aload_n 0, 1) := by decide +kernel
theorem d_I_takeMessage_14 : decode b_I_takeMessage 14 = .ok (.getfield 50, 3) := by decide +kernel
theorem d_I_takeMessage_17 : decode b_I_takeMessage 17 = .ok (.iload_n 3, 1) := by decide +kernel
theorem d_I_takeMessage_18 : decode b_I_takeMessage 18 = .ok (.aload_n 0, 1) := by decide +kernel
theorem d_I_takeMessage_19 : decode b_I_takeMessage 19 = .ok (.getfield 25, 3) := by decide +kernel
theorem d_I_takeMessage_22 : decode b_I_takeMessage 22 = .ok (.getfield 116, 3) := by decide +kernel
theorem d_I_takeMessage_25 : decode b_I_takeMessage 25 = .ok (.iload_n 3, 1) := by decide +kernel
theorem d_I_takeMessage_26 : decode b_I_takeMessage 26 = .ok (.iaload, 1) := by decide +kernel
theorem d_I_takeMessage_27 : decode b_I_takeMessage 27 = .ok (.iload_n 2, 1) := by decide +kernel
theorem d_I_takeMessage_28 : decode b_I_takeMessage 28 = .ok (.invokevirtual 119, 3) := by decide +kernel
theorem d_I_takeMessage_31 : decode b_I_takeMessage 31 = .ok (.aload_n 0, 1) := by decide +kernel
theorem d_I_takeMessage_32 : decode b_I_takeMessage 32 = .ok (.iload_n 3, 1) := by decide +kernel
theorem d_I_takeMessage_33 : decode b_I_takeMessage 33 = .ok (.invokevirtual 123, 3) := by decide +kernel
theorem d_I_takeMessage_36 : decode b_I_takeMessage 36 = .ok (.aload_n 0, 1) := by decide +kernel
theorem d_I_takeMessage_37 : decode b_I_takeMessage 37 = .ok (.invokevirtual 109, 3) := by decide +kernel
theorem d_I_takeMessage_40 : decode b_I_takeMessage 40 = .ok (.iconst 1, 1) := by decide +kernel
theorem d_I_takeMessage_41 : decode b_I_takeMessage 41 = .ok (.ireturn, 1) := by decide +kernel
section
variable {p : Program} {l : Launch} {e : Env} {s : State} {m : MethodId} {args : Array Value} {below : List Frame} {meth : Method} {c : Code} {H : Heap} {locs : List Loc} {ls : Array Slot} {D : va_G} {A : Nat → Prop} {h o : Nat → Nat} {t v : Nat → ClassId}
def f_I_takeMessage (p0 : St) (x1 : Int32) (x2 : Int32) (i0 : St) : Option (Int32 × St) :=
  (f_I_waitingReceive p0 i0 x1).bind fun v_1 =>
  if v_1 = (-1) then
    some (0, i0)
  else
    (sr_ald 24 (p0 4) v_1).bind fun v_4 =>
    (f_V_write p0 v_1 v_4 x2 i0).bind fun i_6 =>
    (f_I_completes p0 v_1 i_6).bind fun i_8 =>
    (f_I_settle p0 i_8).bind fun i_10 =>
    some (1, i_10)
set_option maxHeartbeats 4000000 in
set_option maxRecDepth 100000 in
theorem k_I_takeMessage_0 {p0 : St} {x1 : Int32} {x2 : Int32} {i0 : St} {r : Int32} {i' : St} (X : sr_X D (tI t v) b_I_takeMessage 4 R_I w_I_takeMessage p s m args meth c A (some .boolean)) (Z : sr_Z D A s.heap (wI h t o v p0 i0) H locs) (hl : lv_has ls 4 [(0, .ref (o 0)), (1, .int x1), (2, .int x2)]) (hf : f_I_takeMessage p0 x1 x2 i0 = some (r, i')) : W p l e (sr_rm 5 116) s m args below meth c H locs 0 0 (sr_Qi D (tI t v) below args s A (wI h t o v p0 i') r) (F0 m 0 ls []) := by
  have hx := X.1
  have hb := X.2.1
  have hK := X.2.2.2.2.2.2.1
  unfold f_I_takeMessage at hf
  refine lv_aload_n hx hb d_I_takeMessage_0 rfl (lv_at hl 0 rfl) ?_
  refine lv_iload_n hx hb d_I_takeMessage_1 rfl (lv_at hl 1 rfl) ?_
  obtain ⟨v_1, e_2, hf⟩ := sr_b hf
  refine sr_cVi (As := [.int x1]) (rest := []) X Z sr_cut_self hK (c_I_waitingReceive e_2) (cw_I_112 X.2.2.2.2.2.1 (by decide)) 15 rfl rfl rfl hl rfl (Nat.le_of_ble_eq_true rfl) d_I_takeMessage_2 (fun H locs Z => ?_)
  refine lv_istore_n (lv' := [(3, .int v_1), (0, .ref (o 0)), (1, .int x1), (2, .int x2)]) hx hb d_I_takeMessage_5 rfl hl (by decide) rfl (fun ls hl => ?_)
  refine lv_iload_n hx hb d_I_takeMessage_6 rfl (lv_at hl 0 rfl) ?_
  refine lv_iconst (v := -1) hx hb d_I_takeMessage_7 (by decide) ?_
  refine lv_icmp_ne (tgt := 13) hx hb d_I_takeMessage_8 rfl (fun q_3 => ?_) (fun q_3 => ?_)
  · have hf := sr_if q_3 hf
    refine lv_aload_n hx hb d_I_takeMessage_13 rfl (lv_at hl 1 rfl) ?_
    refine g_I_50_I X Z d_I_takeMessage_14 ?_
    refine lv_iload_n hx hb d_I_takeMessage_17 rfl (lv_at hl 0 rfl) ?_
    refine lv_aload_n hx hb d_I_takeMessage_18 rfl (lv_at hl 1 rfl) ?_
    refine g_I_25_I X Z d_I_takeMessage_19 ?_
    refine g_I_116_I X Z d_I_takeMessage_22 ?_
    refine lv_iload_n hx hb d_I_takeMessage_25 rfl (lv_at hl 0 rfl) ?_
    obtain ⟨v_4, e_5, hf⟩ := sr_b hf
    refine sr_iald hx hb hK Z 5 4 rfl rfl e_5 d_I_takeMessage_26 ?_
    refine lv_iload_n hx hb d_I_takeMessage_27 rfl (lv_at hl 3 rfl) ?_
    obtain ⟨i_6, e_7, hf⟩ := sr_b hf
    refine sr_cVv (As := [.int v_1, .int v_4, .int x2]) (rest := []) X Z sr_cut_self hK (c_V_write e_7) (cw_I_119 X.2.2.2.2.2.1 (by decide)) 16 rfl rfl rfl hl rfl (Nat.le_of_ble_eq_true rfl) d_I_takeMessage_28 (fun H locs Z => ?_)
    refine lv_aload_n hx hb d_I_takeMessage_31 rfl (lv_at hl 1 rfl) ?_
    refine lv_iload_n hx hb d_I_takeMessage_32 rfl (lv_at hl 0 rfl) ?_
    obtain ⟨i_8, e_9, hf⟩ := sr_b hf
    refine sr_cVv (As := [.int v_1]) (rest := []) X Z sr_cut_self hK (c_I_completes e_9) (cw_I_123 X.2.2.2.2.2.1 (by decide)) 15 rfl rfl rfl hl rfl (Nat.le_of_ble_eq_true rfl) d_I_takeMessage_33 (fun H locs Z => ?_)
    refine lv_aload_n hx hb d_I_takeMessage_36 rfl (lv_at hl 1 rfl) ?_
    obtain ⟨i_10, e_11, hf⟩ := sr_b hf
    refine sr_cVv (As := []) (rest := []) X Z sr_cut_self hK (c_I_settle e_11) (cw_I_109 X.2.2.2.2.2.1 (by decide)) 15 rfl rfl rfl hl rfl (Nat.le_of_ble_eq_true rfl) d_I_takeMessage_37 (fun H locs Z => ?_)
    refine lv_iconst (v := 1) hx hb d_I_takeMessage_40 (by decide) ?_
    cases hf
    exact sr_retz X Z (by decide) d_I_takeMessage_41
  · have hf := sr_it q_3 hf
    refine lv_iconst (v := 0) hx hb d_I_takeMessage_11 (by decide) ?_
    cases hf
    exact sr_retz X Z (by decide) d_I_takeMessage_12
end
set_option maxHeartbeats 4000000 in
set_option maxRecDepth 100000 in
theorem c_I_takeMessage {l : Launch} {D : va_G} {h : Nat → Nat} {t : Nat → ClassId} {o : Nat → Nat} {v : Nat → ClassId} {sz : Nat} {p0 : St} {x1 : Int32} {x2 : Int32} {i0 : St} {r : Int32} {i' : St} (hf : f_I_takeMessage p0 x1 x2 i0 = some (r, i')) : sr_Ci l y_I_takeMessage w_I_takeMessage (sr_rm 5 116) D (tI t v) (wI h t o v p0 i0) (wI h t o v p0 i') sz [.ref (o 0), .int x1, .int x2] r := by
  refine Met.ofW (cc := b_I_takeMessage) (maxL := 4) (ret := (some .boolean)) (by decide) rfl ?_
  intro p e s m args below meth c s₁ B hml hv
  obtain ⟨rfl, hsz, hP, hK, hD0⟩ := hv
  subst hsz
  have X : sr_X D (tI t v) b_I_takeMessage 4 R_I w_I_takeMessage p s m _ meth c (va_A (wI h t o v p0 i0) s.heap.size) (some .boolean) := ⟨B.exec, B.bytes, hml, findClass_of_methodNamed B.named, B.notSynchronized, atoms_spec (ws := w_I_takeMessage) B.pre, hK, fun q h => Or.inr h, B.returns⟩
  have Z : sr_Z D (va_A (wI h t o v p0 i0) s.heap.size) s.heap (wI h t o v p0 i0) s.heap [] := ⟨hP, hD0.self, va_S.rf⟩
  have hl := lv_entry ([.ref (o 0), .int x1, .int x2] : List Value) (n := 4) (Nat.le_of_ble_eq_true rfl)
  rw [lg_entry_eq]
  exact k_I_takeMessage_0 X Z hl hf
/-! I_takeAnswer -/
theorem d_I_takeAnswer_0 : decode b_I_takeAnswer 0 = .ok (.aload_n 0, 1) := by decide +kernel
theorem d_I_takeAnswer_1 : decode b_I_takeAnswer 1 = .ok (.getfield 25, 3) := by decide +kernel
theorem d_I_takeAnswer_4 : decode b_I_takeAnswer 4 = .ok (.getfield 126, 3) := by decide +kernel
theorem d_I_takeAnswer_7 : decode b_I_takeAnswer 7 = .ok (.iload_n 1, 1) := by decide +kernel
theorem d_I_takeAnswer_8 : decode b_I_takeAnswer 8 = .ok (.iaload, 1) := by decide +kernel
theorem d_I_takeAnswer_9 : decode b_I_takeAnswer 9 = .ok (.bipush 6, 2) := by decide +kernel
theorem d_I_takeAnswer_11 : decode b_I_takeAnswer 11 = .ok (.if_icmp .ne 13, 3) := by decide +kernel
theorem d_I_takeAnswer_14 : decode b_I_takeAnswer 14 = .ok (.aload_n 0, 1) := by decide +kernel
theorem d_I_takeAnswer_15 : decode b_I_takeAnswer 15 = .ok (.getfield 9, 3) := by decide +kernel
theorem d_I_takeAnswer_18 : decode b_I_takeAnswer 18 = .ok (.iload_n 1, 1) := by decide +kernel
theorem d_I_takeAnswer_19 : decode b_I_takeAnswer 19 = .ok (.iaload, 1) := by decide +kernel
theorem d_I_takeAnswer_20 : decode b_I_takeAnswer 20 = .ok (.iconst 3, 1) := by decide +kernel
theorem d_I_takeAnswer_21 : decode b_I_takeAnswer 21 = .ok (.if_icmp .eq 5, 3) := by decide +kernel
theorem d_I_takeAnswer_24 : decode b_I_takeAnswer 24 = .ok (.iconst 0, 1) := by decide +kernel
theorem d_I_takeAnswer_25 : decode b_I_takeAnswer 25 = .ok (.ireturn, 1) := by decide +kernel
theorem d_I_takeAnswer_26 : decode b_I_takeAnswer 26 = .ok (.iload_n 2, 1) := by decide +kernel
theorem d_I_takeAnswer_27 : decode b_I_takeAnswer 27 = .ok (.ifCond .ne 29, 3) := by decide +kernel
theorem d_I_takeAnswer_30 : decode b_I_takeAnswer 30 = .ok (.aload_n 0, 1) := by decide +kernel
theorem d_I_takeAnswer_31 : decode b_I_takeAnswer 31 = .ok (.getfield 50, 3) := by decide +kernel
theorem d_I_takeAnswer_34 : decode b_I_takeAnswer 34 = .ok (.iload_n 1, 1) := by decide +kernel
theorem d_I_takeAnswer_35 : decode b_I_takeAnswer 35 = .ok (.aload_n 0, 1) := by decide +kernel
theorem d_I_takeAnswer_36 : decode b_I_takeAnswer 36 = .ok (.getfield 25, 3) := by decide +kernel
theorem d_I_takeAnswer_39 : decode b_I_takeAnswer 39 = .ok (.getfield 116, 3) := by decide +kernel
theorem d_I_takeAnswer_42 : decode b_I_takeAnswer 42 = .ok (.iload_n 1, 1) := by decide +kernel
theorem d_I_takeAnswer_43 : decode b_I_takeAnswer 43 = .ok (.iaload, 1) := by decide +kernel
theorem d_I_takeAnswer_44 : decode b_I_takeAnswer 44 = .ok (.iload_n 3, 1) := by decide +kernel
theorem d_I_takeAnswer_45 : decode b_I_takeAnswer 45 = .ok (.invokevirtual 119, 3) := by decide +kernel
theorem d_I_takeAnswer_48 : decode b_I_takeAnswer 48 = .ok (.aload_n 0, 1) := by decide +kernel
theorem d_I_takeAnswer_49 : decode b_I_takeAnswer 49 = .ok (.iload_n 1, 1) := by decide +kernel
theorem d_I_takeAnswer_50 : decode b_I_takeAnswer 50 = .ok (.invokevirtual 123, 3) := by decide +kernel
theorem d_I_takeAnswer_53 : decode b_I_takeAnswer 53 = .ok (.goto 9, 3) := by decide +kernel
theorem d_I_takeAnswer_56 : decode b_I_takeAnswer 56 = .ok (.aload_n 0, 1) := by decide +kernel
theorem d_I_takeAnswer_57 : decode b_I_takeAnswer 57 = .ok (.iload_n 1, 1) := by decide +kernel
theorem d_I_takeAnswer_58 : decode b_I_takeAnswer 58 = .ok (.iload_n 2, 1) := by decide +kernel
theorem d_I_takeAnswer_59 : decode b_I_takeAnswer 59 = .ok (.invokevirtual 131, 3) := by decide +kernel
theorem d_I_takeAnswer_62 : decode b_I_takeAnswer 62 = .ok (.aload_n 0, 1) := by decide +kernel
theorem d_I_takeAnswer_63 : decode b_I_takeAnswer 63 = .ok (.invokevirtual 109, 3) := by decide +kernel
theorem d_I_takeAnswer_66 : decode b_I_takeAnswer 66 = .ok (.iconst 1, 1) := by decide +kernel
theorem d_I_takeAnswer_67 : decode b_I_takeAnswer 67 = .ok (.ireturn, 1) := by decide +kernel
section
variable {p : Program} {l : Launch} {e : Env} {s : State} {m : MethodId} {args : Array Value} {below : List Frame} {meth : Method} {c : Code} {H : Heap} {locs : List Loc} {ls : Array Slot} {D : va_G} {A : Nat → Prop} {h o : Nat → Nat} {t v : Nat → ClassId}
def f_I_takeAnswer_62 (p0 : St) (i0 : St) : Option (Int32 × St) :=
  (f_I_settle p0 i0).bind fun i_10 =>
  some (1, i_10)
set_option maxHeartbeats 4000000 in
set_option maxRecDepth 100000 in
theorem k_I_takeAnswer_62 {p0 : St} {i0 : St} {r : Int32} {i' : St} (X : sr_X D (tI t v) b_I_takeAnswer 4 R_I w_I_takeAnswer p s m args meth c A (some .boolean)) (Z : sr_Z D A s.heap (wI h t o v p0 i0) H locs) (hl : lv_has ls 4 [(0, .ref (o 0))]) (hf : f_I_takeAnswer_62 p0 i0 = some (r, i')) : W p l e (sr_rm 5 116) s m args below meth c H locs 0 0 (sr_Qi D (tI t v) below args s A (wI h t o v p0 i') r) (F0 m 62 ls []) := by
  have hx := X.1
  have hb := X.2.1
  have hK := X.2.2.2.2.2.2.1
  unfold f_I_takeAnswer_62 at hf
  refine lv_aload_n hx hb d_I_takeAnswer_62 rfl (lv_at hl 0 rfl) ?_
  obtain ⟨i_10, e_11, hf⟩ := sr_b hf
  refine sr_cVv (As := []) (rest := []) X Z sr_cut_self hK (c_I_settle e_11) (cw_I_109 X.2.2.2.2.2.1 (by decide)) 15 rfl rfl rfl hl rfl (Nat.le_of_ble_eq_true rfl) d_I_takeAnswer_63 (fun H locs Z => ?_)
  refine lv_iconst (v := 1) hx hb d_I_takeAnswer_66 (by decide) ?_
  cases hf
  exact sr_retz X Z (by decide) d_I_takeAnswer_67
def f_I_takeAnswer (p0 : St) (x1 : Int32) (x2 : Int32) (x3 : Int32) (i0 : St) : Option (Int32 × St) :=
  (sr_ald 24 (p0 2) x1).bind fun v_1 =>
  if v_1 = 6 then
    (sr_ald 24 (i0 4) x1).bind fun v_4 =>
    if v_4 = 3 then
      if x2 = 0 then
        (sr_ald 24 (p0 4) x1).bind fun v_12 =>
        (f_V_write p0 x1 v_12 x3 i0).bind fun i_14 =>
        (f_I_completes p0 x1 i_14).bind fun i_16 =>
        f_I_takeAnswer_62 p0 i_16
      else
        (f_I_faults p0 x1 x2 i0).bind fun i_8 =>
        f_I_takeAnswer_62 p0 i_8
    else
      some (0, i0)
  else
    some (0, i0)
set_option maxHeartbeats 4000000 in
set_option maxRecDepth 100000 in
theorem k_I_takeAnswer_0 {p0 : St} {x1 : Int32} {x2 : Int32} {x3 : Int32} {i0 : St} {r : Int32} {i' : St} (X : sr_X D (tI t v) b_I_takeAnswer 4 R_I w_I_takeAnswer p s m args meth c A (some .boolean)) (Z : sr_Z D A s.heap (wI h t o v p0 i0) H locs) (hl : lv_has ls 4 [(0, .ref (o 0)), (1, .int x1), (2, .int x2), (3, .int x3)]) (hf : f_I_takeAnswer p0 x1 x2 x3 i0 = some (r, i')) : W p l e (sr_rm 5 116) s m args below meth c H locs 0 0 (sr_Qi D (tI t v) below args s A (wI h t o v p0 i') r) (F0 m 0 ls []) := by
  have hx := X.1
  have hb := X.2.1
  have hK := X.2.2.2.2.2.2.1
  unfold f_I_takeAnswer at hf
  refine lv_aload_n hx hb d_I_takeAnswer_0 rfl (lv_at hl 0 rfl) ?_
  refine g_I_25_I X Z d_I_takeAnswer_1 ?_
  refine g_I_126_I X Z d_I_takeAnswer_4 ?_
  refine lv_iload_n hx hb d_I_takeAnswer_7 rfl (lv_at hl 1 rfl) ?_
  obtain ⟨v_1, e_2, hf⟩ := sr_b hf
  refine sr_iald hx hb hK Z 3 2 rfl rfl e_2 d_I_takeAnswer_8 ?_
  refine lv_bipush (v := 6) hx hb d_I_takeAnswer_9 (by decide) ?_
  refine lv_icmp_ne (tgt := 24) hx hb d_I_takeAnswer_11 rfl (fun q_3 => ?_) (fun q_3 => ?_)
  · have hf := sr_if q_3 hf
    refine lv_iconst (v := 0) hx hb d_I_takeAnswer_24 (by decide) ?_
    cases hf
    exact sr_retz X Z (by decide) d_I_takeAnswer_25
  · have hf := sr_it q_3 hf
    refine lv_aload_n hx hb d_I_takeAnswer_14 rfl (lv_at hl 0 rfl) ?_
    refine g_I_9_I X Z d_I_takeAnswer_15 ?_
    refine lv_iload_n hx hb d_I_takeAnswer_18 rfl (lv_at hl 1 rfl) ?_
    obtain ⟨v_4, e_5, hf⟩ := sr_b hf
    refine sr_iald hx hb hK Z 20 14 rfl rfl e_5 d_I_takeAnswer_19 ?_
    refine lv_iconst (v := 3) hx hb d_I_takeAnswer_20 (by decide) ?_
    refine lv_icmp_eq (tgt := 26) hx hb d_I_takeAnswer_21 rfl (fun q_6 => ?_) (fun q_6 => ?_)
    · have hf := sr_it q_6 hf
      refine lv_iload_n hx hb d_I_takeAnswer_26 rfl (lv_at hl 2 rfl) ?_
      refine lv_if_ne (tgt := 56) hx hb d_I_takeAnswer_27 rfl (fun q_7 => ?_) (fun q_7 => ?_)
      · have hf := sr_if q_7 hf
        refine lv_aload_n hx hb d_I_takeAnswer_56 rfl (lv_at hl 0 rfl) ?_
        refine lv_iload_n hx hb d_I_takeAnswer_57 rfl (lv_at hl 1 rfl) ?_
        refine lv_iload_n hx hb d_I_takeAnswer_58 rfl (lv_at hl 2 rfl) ?_
        obtain ⟨i_8, e_9, hf⟩ := sr_b hf
        refine sr_cVv (As := [.int x1, .int x2]) (rest := []) X Z sr_cut_self hK (c_I_faults e_9) (cw_I_131 X.2.2.2.2.2.1 (by decide)) 15 rfl rfl rfl hl rfl (Nat.le_of_ble_eq_true rfl) d_I_takeAnswer_59 (fun H locs Z => ?_)
        exact k_I_takeAnswer_62 X Z (lv_sub hl [0] rfl) hf
      · have hf := sr_it q_7 hf
        refine lv_aload_n hx hb d_I_takeAnswer_30 rfl (lv_at hl 0 rfl) ?_
        refine g_I_50_I X Z d_I_takeAnswer_31 ?_
        refine lv_iload_n hx hb d_I_takeAnswer_34 rfl (lv_at hl 1 rfl) ?_
        refine lv_aload_n hx hb d_I_takeAnswer_35 rfl (lv_at hl 0 rfl) ?_
        refine g_I_25_I X Z d_I_takeAnswer_36 ?_
        refine g_I_116_I X Z d_I_takeAnswer_39 ?_
        refine lv_iload_n hx hb d_I_takeAnswer_42 rfl (lv_at hl 1 rfl) ?_
        obtain ⟨v_12, e_13, hf⟩ := sr_b hf
        refine sr_iald hx hb hK Z 5 4 rfl rfl e_13 d_I_takeAnswer_43 ?_
        refine lv_iload_n hx hb d_I_takeAnswer_44 rfl (lv_at hl 3 rfl) ?_
        obtain ⟨i_14, e_15, hf⟩ := sr_b hf
        refine sr_cVv (As := [.int x1, .int v_12, .int x3]) (rest := []) X Z sr_cut_self hK (c_V_write e_15) (cw_I_119 X.2.2.2.2.2.1 (by decide)) 16 rfl rfl rfl hl rfl (Nat.le_of_ble_eq_true rfl) d_I_takeAnswer_45 (fun H locs Z => ?_)
        refine lv_aload_n hx hb d_I_takeAnswer_48 rfl (lv_at hl 0 rfl) ?_
        refine lv_iload_n hx hb d_I_takeAnswer_49 rfl (lv_at hl 1 rfl) ?_
        obtain ⟨i_16, e_17, hf⟩ := sr_b hf
        refine sr_cVv (As := [.int x1]) (rest := []) X Z sr_cut_self hK (c_I_completes e_17) (cw_I_123 X.2.2.2.2.2.1 (by decide)) 15 rfl rfl rfl hl rfl (Nat.le_of_ble_eq_true rfl) d_I_takeAnswer_50 (fun H locs Z => ?_)
        refine lv_goto (tgt := 62) hx hb d_I_takeAnswer_53 rfl ?_
        exact k_I_takeAnswer_62 X Z (lv_sub hl [0] rfl) hf
    · have hf := sr_if q_6 hf
      refine lv_iconst (v := 0) hx hb d_I_takeAnswer_24 (by decide) ?_
      cases hf
      exact sr_retz X Z (by decide) d_I_takeAnswer_25
end
set_option maxHeartbeats 4000000 in
set_option maxRecDepth 100000 in
theorem c_I_takeAnswer {l : Launch} {D : va_G} {h : Nat → Nat} {t : Nat → ClassId} {o : Nat → Nat} {v : Nat → ClassId} {sz : Nat} {p0 : St} {x1 : Int32} {x2 : Int32} {x3 : Int32} {i0 : St} {r : Int32} {i' : St} (hf : f_I_takeAnswer p0 x1 x2 x3 i0 = some (r, i')) : sr_Ci l y_I_takeAnswer w_I_takeAnswer (sr_rm 5 116) D (tI t v) (wI h t o v p0 i0) (wI h t o v p0 i') sz [.ref (o 0), .int x1, .int x2, .int x3] r := by
  refine Met.ofW (cc := b_I_takeAnswer) (maxL := 4) (ret := (some .boolean)) (by decide) rfl ?_
  intro p e s m args below meth c s₁ B hml hv
  obtain ⟨rfl, hsz, hP, hK, hD0⟩ := hv
  subst hsz
  have X : sr_X D (tI t v) b_I_takeAnswer 4 R_I w_I_takeAnswer p s m _ meth c (va_A (wI h t o v p0 i0) s.heap.size) (some .boolean) := ⟨B.exec, B.bytes, hml, findClass_of_methodNamed B.named, B.notSynchronized, atoms_spec (ws := w_I_takeAnswer) B.pre, hK, fun q h => Or.inr h, B.returns⟩
  have Z : sr_Z D (va_A (wI h t o v p0 i0) s.heap.size) s.heap (wI h t o v p0 i0) s.heap [] := ⟨hP, hD0.self, va_S.rf⟩
  have hl := lv_entry ([.ref (o 0), .int x1, .int x2, .int x3] : List Value) (n := 4) (Nat.le_of_ble_eq_true rfl)
  rw [lg_entry_eq]
  exact k_I_takeAnswer_0 X Z hl hf
/-! I_endNow -/
theorem d_I_endNow_0 : decode b_I_endNow 0 = .ok (.aload_n 0, 1) := by decide +kernel
theorem d_I_endNow_1 : decode b_I_endNow 1 = .ok (.getfield 75, 3) := by decide +kernel
theorem d_I_endNow_4 : decode b_I_endNow 4 = .ok (.ifCond .eq 5, 3) := by decide +kernel
theorem d_I_endNow_7 : decode b_I_endNow 7 = .ok (.iconst 0, 1) := by decide +kernel
theorem d_I_endNow_8 : decode b_I_endNow 8 = .ok (.ireturn, 1) := by decide +kernel
theorem d_I_endNow_9 : decode b_I_endNow 9 = .ok (.aload_n 0, 1) := by decide +kernel
theorem d_I_endNow_10 : decode b_I_endNow 10 = .ok (.aload_n 0, 1) := by decide +kernel
theorem d_I_endNow_11 : decode b_I_endNow 11 = .ok (.getfield 25, 3) := by decide +kernel
theorem d_I_endNow_14 : decode b_I_endNow 14 = .ok (.getfield 135, 3) := by decide +kernel
theorem d_I_endNow_17 : decode b_I_endNow 17 = .ok (.iconst 0, 1) := by decide +kernel
theorem d_I_endNow_18 : decode b_I_endNow 18 = .ok (.iaload, 1) := by decide +kernel
theorem d_I_endNow_19 : decode b_I_endNow 19 = .ok (.invokevirtual 138, 3) := by decide +kernel
theorem d_I_endNow_22 : decode b_I_endNow 22 = .ok (.pop, 1) := by decide +kernel
theorem d_I_endNow_23 : decode b_I_endNow 23 = .ok (.aload_n 0, 1) := by decide +kernel
theorem d_I_endNow_24 : decode b_I_endNow 24 = .ok (.iconst 2, 1) := by decide +kernel
theorem d_I_endNow_25 : decode b_I_endNow 25 = .ok (.putfield 75, 3) := by decide +kernel
theorem d_I_endNow_28 : decode b_I_endNow 28 = .ok (.iconst 1, 1) := by decide +kernel
theorem d_I_endNow_29 : decode b_I_endNow 29 = .ok (.ireturn, 1) := by decide +kernel
section
variable {p : Program} {l : Launch} {e : Env} {s : State} {m : MethodId} {args : Array Value} {below : List Frame} {meth : Method} {c : Code} {H : Heap} {locs : List Loc} {ls : Array Slot} {D : va_G} {A : Nat → Prop} {h o : Nat → Nat} {t v : Nat → ClassId}
def f_I_endNow (p0 : St) (i0 : St) : Option (Int32 × St) :=
  if (i0 3 0) = 0 then
    (sr_ald 24 (p0 9) 0).bind fun v_2 =>
    sr_b2 (f_I_endWithin p0 v_2 i0) fun v_4 i_5 =>
    (sr_pf i_5 3 2).bind fun i_7 =>
    some (1, i_7)
  else
    some (0, i0)
set_option maxHeartbeats 4000000 in
set_option maxRecDepth 100000 in
theorem k_I_endNow_0 {p0 : St} {i0 : St} {r : Int32} {i' : St} (X : sr_X D (tI t v) b_I_endNow 1 R_I w_I_endNow p s m args meth c A (some .boolean)) (Z : sr_Z D A s.heap (wI h t o v p0 i0) H locs) (hl : lv_has ls 1 [(0, .ref (o 0))]) (hf : f_I_endNow p0 i0 = some (r, i')) : W p l e (sr_rm 3 68) s m args below meth c H locs 0 0 (sr_Qi D (tI t v) below args s A (wI h t o v p0 i') r) (F0 m 0 ls []) := by
  have hx := X.1
  have hb := X.2.1
  have hK := X.2.2.2.2.2.2.1
  unfold f_I_endNow at hf
  refine lv_aload_n hx hb d_I_endNow_0 rfl (lv_at hl 0 rfl) ?_
  refine g_I_75_I X Z d_I_endNow_1 ?_
  refine lv_if_eq (tgt := 9) hx hb d_I_endNow_4 rfl (fun q_1 => ?_) (fun q_1 => ?_)
  · have hf := sr_it q_1 hf
    refine lv_aload_n hx hb d_I_endNow_9 rfl (lv_at hl 0 rfl) ?_
    refine lv_aload_n hx hb d_I_endNow_10 rfl (lv_at hl 0 rfl) ?_
    refine g_I_25_I X Z d_I_endNow_11 ?_
    refine g_I_135_I X Z d_I_endNow_14 ?_
    refine lv_iconst (v := 0) hx hb d_I_endNow_17 (by decide) ?_
    obtain ⟨v_2, e_3, hf⟩ := sr_b hf
    refine sr_iald hx hb hK Z 10 9 rfl rfl e_3 d_I_endNow_18 ?_
    obtain ⟨v_4, i_5, e_6, hf⟩ := sr_b2_i hf
    refine sr_cVi (As := [.int v_2]) (rest := []) X Z sr_cut_self hK (c_I_endWithin e_6) (cw_I_138 X.2.2.2.2.2.1 (by decide)) 15 rfl rfl rfl hl rfl (Nat.le_of_ble_eq_true rfl) d_I_endNow_19 (fun H locs Z => ?_)
    refine lv_pop hx hb d_I_endNow_22 rfl ?_
    refine lv_aload_n hx hb d_I_endNow_23 rfl (lv_at hl 0 rfl) ?_
    refine lv_iconst (v := 2) hx hb d_I_endNow_24 (by decide) ?_
    obtain ⟨i_7, e_8, hf⟩ := sr_b hf
    refine s_I_75_I X Z e_8 d_I_endNow_25 (fun H locs Z => ?_)
    refine lv_iconst (v := 1) hx hb d_I_endNow_28 (by decide) ?_
    cases hf
    exact sr_retz X Z (by decide) d_I_endNow_29
  · have hf := sr_if q_1 hf
    refine lv_iconst (v := 0) hx hb d_I_endNow_7 (by decide) ?_
    cases hf
    exact sr_retz X Z (by decide) d_I_endNow_8
end
set_option maxHeartbeats 4000000 in
set_option maxRecDepth 100000 in
theorem c_I_endNow {l : Launch} {D : va_G} {h : Nat → Nat} {t : Nat → ClassId} {o : Nat → Nat} {v : Nat → ClassId} {sz : Nat} {p0 : St} {i0 : St} {r : Int32} {i' : St} (hf : f_I_endNow p0 i0 = some (r, i')) : sr_Ci l y_I_endNow w_I_endNow (sr_rm 3 68) D (tI t v) (wI h t o v p0 i0) (wI h t o v p0 i') sz [.ref (o 0)] r := by
  refine Met.ofW (cc := b_I_endNow) (maxL := 1) (ret := (some .boolean)) (by decide) rfl ?_
  intro p e s m args below meth c s₁ B hml hv
  obtain ⟨rfl, hsz, hP, hK, hD0⟩ := hv
  subst hsz
  have X : sr_X D (tI t v) b_I_endNow 1 R_I w_I_endNow p s m _ meth c (va_A (wI h t o v p0 i0) s.heap.size) (some .boolean) := ⟨B.exec, B.bytes, hml, findClass_of_methodNamed B.named, B.notSynchronized, atoms_spec (ws := w_I_endNow) B.pre, hK, fun q h => Or.inr h, B.returns⟩
  have Z : sr_Z D (va_A (wI h t o v p0 i0) s.heap.size) s.heap (wI h t o v p0 i0) s.heap [] := ⟨hP, hD0.self, va_S.rf⟩
  have hl := lv_entry ([.ref (o 0)] : List Value) (n := 1) (Nat.le_of_ble_eq_true rfl)
  rw [lg_entry_eq]
  exact k_I_endNow_0 X Z hl hf
