/-! R_noteTree -/
theorem d_R_noteTree_0 : decode b_R_noteTree 0 = .ok (.iconst 0, 1) := by decide +kernel
theorem d_R_noteTree_1 : decode b_R_noteTree 1 = .ok (.istore_n 1, 1) := by decide +kernel
theorem d_R_noteTree_2 : decode b_R_noteTree 2 = .ok (.iload_n 1, 1) := by decide +kernel
theorem d_R_noteTree_3 : decode b_R_noteTree 3 = .ok (.aload_n 0, 1) := by decide +kernel
theorem d_R_noteTree_4 : decode b_R_noteTree 4 = .ok (.getfield 15, 3) := by decide +kernel
theorem d_R_noteTree_7 : decode b_R_noteTree 7 = .ok (.getfield 41, 3) := by decide +kernel
theorem d_R_noteTree_10 : decode b_R_noteTree 10 = .ok (.if_icmp .ge 93, 3) := by decide +kernel
theorem d_R_noteTree_13 : decode b_R_noteTree 13 = .ok (.aload_n 0, 1) := by decide +kernel
theorem d_R_noteTree_14 : decode b_R_noteTree 14 = .ok (.getfield 9, 3) := by decide +kernel
theorem d_R_noteTree_17 : decode b_R_noteTree 17 = .ok (.iload_n 1, 1) := by decide +kernel
theorem d_R_noteTree_18 : decode b_R_noteTree 18 = .ok (.invokestatic 126, 3) := by decide +kernel
theorem d_R_noteTree_21 : decode b_R_noteTree 21 = .ok (.lconst 0, 1) := by decide +kernel
theorem d_R_noteTree_22 : decode b_R_noteTree 22 = .ok (.lastore, 1) := by decide +kernel
theorem d_R_noteTree_23 : decode b_R_noteTree 23 = .ok (.aload_n 0, 1) := by decide +kernel
theorem d_R_noteTree_24 : decode b_R_noteTree 24 = .ok (.getfield 9, 3) := by decide +kernel
theorem d_R_noteTree_27 : decode b_R_noteTree 27 = .ok (.iload_n 1, 1) := by decide +kernel
theorem d_R_noteTree_28 : decode b_R_noteTree 28 = .ok (.invokestatic 129, 3) := by decide +kernel
theorem d_R_noteTree_31 : decode b_R_noteTree 31 = .ok (.iload_n 1, 1) := by decide +kernel
theorem d_R_noteTree_32 : decode b_R_noteTree 32 = .ok (.invokestatic 126, 3) := by decide +kernel
theorem d_R_noteTree_35 : decode b_R_noteTree 35 = .ok (.invokestatic 132, 3) := by decide +kernel
theorem d_R_noteTree_38 : decode b_R_noteTree 38 = .ok (.lastore, 1) := by decide +kernel
theorem d_R_noteTree_39 : decode b_R_noteTree 39 = .ok (.aload_n 0, 1) := by decide +kernel
theorem d_R_noteTree_40 : decode b_R_noteTree 40 = .ok (.getfield 15, 3) := by decide +kernel
theorem d_R_noteTree_43 : decode b_R_noteTree 43 = .ok (.getfield 136, 3) := by decide +kernel
theorem d_R_noteTree_46 : decode b_R_noteTree 46 = .ok (.iload_n 1, 1) := by decide +kernel
theorem d_R_noteTree_47 : decode b_R_noteTree 47 = .ok (.iaload, 1) := by decide +kernel
theorem d_R_noteTree_48 : decode b_R_noteTree 48 = .ok (.istore_n 2, 1) := by decide +kernel
theorem d_R_noteTree_49 : decode b_R_noteTree 49 = .ok (.iload_n 2, 1) := by decide +kernel
theorem d_R_noteTree_50 : decode b_R_noteTree 50 = .ok (.ifCond .lt 47, 3) := by decide +kernel
theorem d_R_noteTree_53 : decode b_R_noteTree 53 = .ok (.aload_n 0, 1) := by decide +kernel
theorem d_R_noteTree_54 : decode b_R_noteTree 54 = .ok (.getfield 9, 3) := by decide +kernel
theorem d_R_noteTree_57 : decode b_R_noteTree 57 = .ok (.iload_n 1, 1) := by decide +kernel
theorem d_R_noteTree_58 : decode b_R_noteTree 58 = .ok (.invokestatic 126, 3) := by decide +kernel
theorem d_R_noteTree_61 : decode b_R_noteTree 61 = .ok (.dup2, 1) := by decide +kernel
theorem d_R_noteTree_62 : decode b_R_noteTree 62 = .ok (.laload, 1) := by decide +kernel
theorem d_R_noteTree_63 : decode b_R_noteTree 63 = .ok (.iload_n 2, 1) := by decide +kernel
theorem d_R_noteTree_64 : decode b_R_noteTree 64 = .ok (.invokestatic 126, 3) := by decide +kernel
theorem d_R_noteTree_67 : decode b_R_noteTree 67 = .ok (.invokestatic 132, 3) := by decide +kernel
theorem d_R_noteTree_70 : decode b_R_noteTree 70 = .ok (.lor, 1) := by decide +kernel
theorem d_R_noteTree_71 : decode b_R_noteTree 71 = .ok (.lastore, 1) := by decide +kernel
theorem d_R_noteTree_72 : decode b_R_noteTree 72 = .ok (.aload_n 0, 1) := by decide +kernel
theorem d_R_noteTree_73 : decode b_R_noteTree 73 = .ok (.getfield 9, 3) := by decide +kernel
theorem d_R_noteTree_76 : decode b_R_noteTree 76 = .ok (.iload_n 2, 1) := by decide +kernel
theorem d_R_noteTree_77 : decode b_R_noteTree 77 = .ok (.invokestatic 129, 3) := by decide +kernel
theorem d_R_noteTree_80 : decode b_R_noteTree 80 = .ok (.dup2, 1) := by decide +kernel
theorem d_R_noteTree_81 : decode b_R_noteTree 81 = .ok (.laload, 1) := by decide +kernel
theorem d_R_noteTree_82 : decode b_R_noteTree 82 = .ok (.iload_n 1, 1) := by decide +kernel
theorem d_R_noteTree_83 : decode b_R_noteTree 83 = .ok (.invokestatic 129, 3) := by decide +kernel
theorem d_R_noteTree_86 : decode b_R_noteTree 86 = .ok (.invokestatic 132, 3) := by decide +kernel
theorem d_R_noteTree_89 : decode b_R_noteTree 89 = .ok (.lor, 1) := by decide +kernel
theorem d_R_noteTree_90 : decode b_R_noteTree 90 = .ok (.lastore, 1) := by decide +kernel
theorem d_R_noteTree_91 : decode b_R_noteTree 91 = .ok (.aload_n 0, 1) := by decide +kernel
theorem d_R_noteTree_92 : decode b_R_noteTree 92 = .ok (.iload_n 1, 1) := by decide +kernel
theorem d_R_noteTree_93 : decode b_R_noteTree 93 = .ok (.iload_n 2, 1) := by decide +kernel
theorem d_R_noteTree_94 : decode b_R_noteTree 94 = .ok (.invokevirtual 139, 3) := by decide +kernel
theorem d_R_noteTree_97 : decode b_R_noteTree 97 = .ok (.iinc 1 1, 3) := by decide +kernel
theorem d_R_noteTree_100 : decode b_R_noteTree 100 = .ok (.goto (-98), 3) := by decide +kernel
theorem d_R_noteTree_103 : decode b_R_noteTree 103 = .ok (.return_, 1) := by decide +kernel
section
variable {p : Program} {l : Launch} {e : Env} {s : State} {m : MethodId} {args : Array Value} {below : List Frame} {meth : Method} {c : Code} {H : Heap} {locs : List Loc} {ls : Array Slot} {D : va_G} {A : Nat → Prop} {h o : Nat → Nat} {t v : Nat → ClassId}
def f_R_noteTree_97 (k2 : Int32 → (Nat → Int64) → Option ((Nat → Int64))) (p0 : St) (x1 : Int32) (b0 : (Nat → Int64)) : Option ((Nat → Int64)) :=
  k2 (x1 + 1) b0
set_option maxHeartbeats 4000000 in
set_option maxRecDepth 100000 in
theorem k_R_noteTree_97 {k2 : Int32 → (Nat → Int64) → Option ((Nat → Int64))} {p0 : St} {x1 : Int32} {b0 : (Nat → Int64)} {b' : (Nat → Int64)} (X : sr_X D (tR t v) b_R_noteTree 3 R_R w_R_noteTree p s m args meth c A none) (hk2 : ∀ (x1 : Int32) (b0 : (Nat → Int64)) (H : Heap) (locs : List Loc) (ls : Array Slot), sr_Z D A s.heap (wR h t o v p0 b0) H locs → lv_has ls 3 [(0, .ref (o 0)), (1, .int x1)] → k2 x1 b0 = some b' → W p l e (sr_rm 2 44) s m args below meth c H locs 0 0 (sr_Qv D (tR t v) below args s A (wR h t o v p0 b')) (F0 m 2 ls [])) (Z : sr_Z D A s.heap (wR h t o v p0 b0) H locs) (hl : lv_has ls 3 [(0, .ref (o 0)), (1, .int x1)]) (hf : f_R_noteTree_97 k2 p0 x1 b0 = some b') : W p l e (sr_rm 2 44) s m args below meth c H locs 0 0 (sr_Qv D (tR t v) below args s A (wR h t o v p0 b')) (F0 m 97 ls []) := by
  have hx := X.1
  have hb := X.2.1
  have hK := X.2.2.2.2.2.2.1
  unfold f_R_noteTree_97 at hf
  refine lv_iinc (k := 1) (v := x1 + 1) (lv' := [(1, .int (x1 + 1)), (0, .ref (o 0))]) hx hb d_R_noteTree_97 hl rfl rfl (by decide) rfl (fun ls hl => ?_)
  refine lv_goto (tgt := 2) hx hb d_R_noteTree_100 rfl ?_
  exact hk2 (x1 + 1) b0 _ _ _ Z (lv_sub hl [1, 0] rfl) hf
def f_R_noteTree_2 (k2 : Int32 → (Nat → Int64) → Option ((Nat → Int64))) (p0 : St) (x1 : Int32) (b0 : (Nat → Int64)) : Option ((Nat → Int64)) :=
  if (p0 10 0) ≤ x1 then
    some b0
  else
    (f_R_beginning x1).bind fun v_2 =>
    (sr_last 48 b0 v_2 0).bind fun b_4 =>
    (f_R_end x1).bind fun v_6 =>
    (f_R_beginning x1).bind fun v_8 =>
    (f_R_bit v_8).bind fun v_10 =>
    (sr_last 48 b_4 v_6 v_10).bind fun b_12 =>
    (sr_ald 24 (p0 0) x1).bind fun v_14 =>
    if v_14 < 0 then
      f_R_noteTree_97 k2 p0 x1 b_12
    else
      (f_R_beginning x1).bind fun v_17 =>
      (sr_lald 48 b_12 v_17).bind fun v_19 =>
      (f_R_beginning v_14).bind fun v_21 =>
      (f_R_bit v_21).bind fun v_23 =>
      (sr_last 48 b_12 v_17 (v_19 ||| v_23)).bind fun b_25 =>
      (f_R_end v_14).bind fun v_27 =>
      (sr_lald 48 b_25 v_27).bind fun v_29 =>
      (f_R_end x1).bind fun v_31 =>
      (f_R_bit v_31).bind fun v_33 =>
      (sr_last 48 b_25 v_27 (v_29 ||| v_33)).bind fun b_35 =>
      (f_R_noteNextInSequence p0 x1 v_14 b_35).bind fun b_37 =>
      f_R_noteTree_97 k2 p0 x1 b_37
set_option maxHeartbeats 4000000 in
set_option maxRecDepth 100000 in
theorem k_R_noteTree_2 {k2 : Int32 → (Nat → Int64) → Option ((Nat → Int64))} {p0 : St} {x1 : Int32} {b0 : (Nat → Int64)} {b' : (Nat → Int64)} (X : sr_X D (tR t v) b_R_noteTree 3 R_R w_R_noteTree p s m args meth c A none) (hk2 : ∀ (x1 : Int32) (b0 : (Nat → Int64)) (H : Heap) (locs : List Loc) (ls : Array Slot), sr_Z D A s.heap (wR h t o v p0 b0) H locs → lv_has ls 3 [(0, .ref (o 0)), (1, .int x1)] → k2 x1 b0 = some b' → W p l e (sr_rm 2 44) s m args below meth c H locs 0 0 (sr_Qv D (tR t v) below args s A (wR h t o v p0 b')) (F0 m 2 ls [])) (Z : sr_Z D A s.heap (wR h t o v p0 b0) H locs) (hl : lv_has ls 3 [(0, .ref (o 0)), (1, .int x1)]) (hf : f_R_noteTree_2 k2 p0 x1 b0 = some b') : W p l e (sr_rm 2 44) s m args below meth c H locs 0 0 (sr_Qv D (tR t v) below args s A (wR h t o v p0 b')) (F0 m 2 ls []) := by
  have hx := X.1
  have hb := X.2.1
  have hK := X.2.2.2.2.2.2.1
  unfold f_R_noteTree_2 at hf
  refine lv_iload_n hx hb d_R_noteTree_2 rfl (lv_at hl 1 rfl) ?_
  refine lv_aload_n hx hb d_R_noteTree_3 rfl (lv_at hl 0 rfl) ?_
  refine g_R_15_R X Z d_R_noteTree_4 ?_
  refine g_R_41_R X Z d_R_noteTree_7 ?_
  refine lv_icmp_ge (tgt := 103) hx hb d_R_noteTree_10 rfl (fun q_1 => ?_) (fun q_1 => ?_)
  · have hf := sr_it q_1 hf
    cases hf
    exact sr_retv X Z d_R_noteTree_103
  · have hf := sr_if q_1 hf
    refine lv_aload_n hx hb d_R_noteTree_13 rfl (lv_at hl 0 rfl) ?_
    refine g_R_9_R X Z d_R_noteTree_14 ?_
    refine lv_iload_n hx hb d_R_noteTree_17 rfl (lv_at hl 1 rfl) ?_
    obtain ⟨v_2, e_3, hf⟩ := sr_b hf
    refine sr_cSi (As := [.int x1]) (rest := [.ref (o 1)]) X Z sr_cut_0 (va_K.sub hK [] rfl) (c_R_beginning e_3) (cw_R_126 X.2.2.2.2.2.1 (by decide)) rfl hl rfl (Nat.le_of_ble_eq_true rfl) d_R_noteTree_18 (fun H locs Z => ?_)
    refine lv_lconst (v := 0) hx hb d_R_noteTree_21 (by decide) ?_
    obtain ⟨b_4, e_5, hf⟩ := sr_b hf
    refine sr_llast (wf := (fun q => (wR h t o v p0 q))) hx hb hK Z 16 14 rfl rfl e_5 (fun _ => rfl) d_R_noteTree_22 (fun H locs Z => ?_)
    refine lv_aload_n hx hb d_R_noteTree_23 rfl (lv_at hl 0 rfl) ?_
    refine g_R_9_R X Z d_R_noteTree_24 ?_
    refine lv_iload_n hx hb d_R_noteTree_27 rfl (lv_at hl 1 rfl) ?_
    obtain ⟨v_6, e_7, hf⟩ := sr_b hf
    refine sr_cSi (As := [.int x1]) (rest := [.ref (o 1)]) X Z sr_cut_0 (va_K.sub hK [] rfl) (c_R_end e_7) (cw_R_129 X.2.2.2.2.2.1 (by decide)) rfl hl rfl (Nat.le_of_ble_eq_true rfl) d_R_noteTree_28 (fun H locs Z => ?_)
    refine lv_iload_n hx hb d_R_noteTree_31 rfl (lv_at hl 1 rfl) ?_
    obtain ⟨v_8, e_9, hf⟩ := sr_b hf
    refine sr_cSi (As := [.int x1]) (rest := [.int v_6, .ref (o 1)]) X Z sr_cut_0 (va_K.sub hK [] rfl) (c_R_beginning e_9) (cw_R_126 X.2.2.2.2.2.1 (by decide)) rfl hl rfl (Nat.le_of_ble_eq_true rfl) d_R_noteTree_32 (fun H locs Z => ?_)
    obtain ⟨v_10, e_11, hf⟩ := sr_b hf
    refine sr_cSl (As := [.int v_8]) (rest := [.int v_6, .ref (o 1)]) X Z sr_cut_0 (va_K.sub hK [] rfl) (c_R_bit e_11) (cw_R_132 X.2.2.2.2.2.1 (by decide)) rfl hl rfl (Nat.le_of_ble_eq_true rfl) d_R_noteTree_35 (fun H locs Z => ?_)
    obtain ⟨b_12, e_13, hf⟩ := sr_b hf
    refine sr_llast (wf := (fun q => (wR h t o v p0 q))) hx hb hK Z 16 14 rfl rfl e_13 (fun _ => rfl) d_R_noteTree_38 (fun H locs Z => ?_)
    refine lv_aload_n hx hb d_R_noteTree_39 rfl (lv_at hl 0 rfl) ?_
    refine g_R_15_R X Z d_R_noteTree_40 ?_
    refine g_R_136_R X Z d_R_noteTree_43 ?_
    refine lv_iload_n hx hb d_R_noteTree_46 rfl (lv_at hl 1 rfl) ?_
    obtain ⟨v_14, e_15, hf⟩ := sr_b hf
    refine sr_iald hx hb hK Z 1 0 rfl rfl e_15 d_R_noteTree_47 ?_
    refine lv_istore_n (lv' := [(2, .int v_14), (0, .ref (o 0)), (1, .int x1)]) hx hb d_R_noteTree_48 rfl hl (by decide) rfl (fun ls hl => ?_)
    refine lv_iload_n hx hb d_R_noteTree_49 rfl (lv_at hl 0 rfl) ?_
    refine lv_if_lt (tgt := 97) hx hb d_R_noteTree_50 rfl (fun q_16 => ?_) (fun q_16 => ?_)
    · have hf := sr_it q_16 hf
      exact k_R_noteTree_97 X hk2 Z (lv_sub hl [1, 2] rfl) hf
    · have hf := sr_if q_16 hf
      refine lv_aload_n hx hb d_R_noteTree_53 rfl (lv_at hl 1 rfl) ?_
      refine g_R_9_R X Z d_R_noteTree_54 ?_
      refine lv_iload_n hx hb d_R_noteTree_57 rfl (lv_at hl 2 rfl) ?_
      obtain ⟨v_17, e_18, hf⟩ := sr_b hf
      refine sr_cSi (As := [.int x1]) (rest := [.ref (o 1)]) X Z sr_cut_0 (va_K.sub hK [] rfl) (c_R_beginning e_18) (cw_R_126 X.2.2.2.2.2.1 (by decide)) rfl hl rfl (Nat.le_of_ble_eq_true rfl) d_R_noteTree_58 (fun H locs Z => ?_)
      refine lv_dup2_11 hx hb d_R_noteTree_61 rfl rfl ?_
      obtain ⟨v_19, e_20, hf⟩ := sr_b hf
      refine sr_llald hx hb hK Z 16 14 rfl rfl e_20 d_R_noteTree_62 ?_
      refine lv_iload_n hx hb d_R_noteTree_63 rfl (lv_at hl 0 rfl) ?_
      obtain ⟨v_21, e_22, hf⟩ := sr_b hf
      refine sr_cSi (As := [.int v_14]) (rest := [.long v_19, .int v_17, .ref (o 1)]) X Z sr_cut_0 (va_K.sub hK [] rfl) (c_R_beginning e_22) (cw_R_126 X.2.2.2.2.2.1 (by decide)) rfl hl rfl (Nat.le_of_ble_eq_true rfl) d_R_noteTree_64 (fun H locs Z => ?_)
      obtain ⟨v_23, e_24, hf⟩ := sr_b hf
      refine sr_cSl (As := [.int v_21]) (rest := [.long v_19, .int v_17, .ref (o 1)]) X Z sr_cut_0 (va_K.sub hK [] rfl) (c_R_bit e_24) (cw_R_132 X.2.2.2.2.2.1 (by decide)) rfl hl rfl (Nat.le_of_ble_eq_true rfl) d_R_noteTree_67 (fun H locs Z => ?_)
      refine lv_lor hx hb d_R_noteTree_70 ?_
      obtain ⟨b_25, e_26, hf⟩ := sr_b hf
      refine sr_llast (wf := (fun q => (wR h t o v p0 q))) hx hb hK Z 16 14 rfl rfl e_26 (fun _ => rfl) d_R_noteTree_71 (fun H locs Z => ?_)
      refine lv_aload_n hx hb d_R_noteTree_72 rfl (lv_at hl 1 rfl) ?_
      refine g_R_9_R X Z d_R_noteTree_73 ?_
      refine lv_iload_n hx hb d_R_noteTree_76 rfl (lv_at hl 0 rfl) ?_
      obtain ⟨v_27, e_28, hf⟩ := sr_b hf
      refine sr_cSi (As := [.int v_14]) (rest := [.ref (o 1)]) X Z sr_cut_0 (va_K.sub hK [] rfl) (c_R_end e_28) (cw_R_129 X.2.2.2.2.2.1 (by decide)) rfl hl rfl (Nat.le_of_ble_eq_true rfl) d_R_noteTree_77 (fun H locs Z => ?_)
      refine lv_dup2_11 hx hb d_R_noteTree_80 rfl rfl ?_
      obtain ⟨v_29, e_30, hf⟩ := sr_b hf
      refine sr_llald hx hb hK Z 16 14 rfl rfl e_30 d_R_noteTree_81 ?_
      refine lv_iload_n hx hb d_R_noteTree_82 rfl (lv_at hl 2 rfl) ?_
      obtain ⟨v_31, e_32, hf⟩ := sr_b hf
      refine sr_cSi (As := [.int x1]) (rest := [.long v_29, .int v_27, .ref (o 1)]) X Z sr_cut_0 (va_K.sub hK [] rfl) (c_R_end e_32) (cw_R_129 X.2.2.2.2.2.1 (by decide)) rfl hl rfl (Nat.le_of_ble_eq_true rfl) d_R_noteTree_83 (fun H locs Z => ?_)
      obtain ⟨v_33, e_34, hf⟩ := sr_b hf
      refine sr_cSl (As := [.int v_31]) (rest := [.long v_29, .int v_27, .ref (o 1)]) X Z sr_cut_0 (va_K.sub hK [] rfl) (c_R_bit e_34) (cw_R_132 X.2.2.2.2.2.1 (by decide)) rfl hl rfl (Nat.le_of_ble_eq_true rfl) d_R_noteTree_86 (fun H locs Z => ?_)
      refine lv_lor hx hb d_R_noteTree_89 ?_
      obtain ⟨b_35, e_36, hf⟩ := sr_b hf
      refine sr_llast (wf := (fun q => (wR h t o v p0 q))) hx hb hK Z 16 14 rfl rfl e_36 (fun _ => rfl) d_R_noteTree_90 (fun H locs Z => ?_)
      refine lv_aload_n hx hb d_R_noteTree_91 rfl (lv_at hl 1 rfl) ?_
      refine lv_iload_n hx hb d_R_noteTree_92 rfl (lv_at hl 2 rfl) ?_
      refine lv_iload_n hx hb d_R_noteTree_93 rfl (lv_at hl 0 rfl) ?_
      obtain ⟨b_37, e_38, hf⟩ := sr_b hf
      refine sr_cVv (As := [.int x1, .int v_14]) (rest := []) X Z sr_cut_self hK (c_R_noteNextInSequence e_38) (cw_R_139 X.2.2.2.2.2.1 (by decide)) 15 rfl rfl rfl hl rfl (Nat.le_of_ble_eq_true rfl) d_R_noteTree_94 (fun H locs Z => ?_)
      exact k_R_noteTree_97 X hk2 Z (lv_sub hl [1, 2] rfl) hf
def f_R_noteTree_2_it (p0 : St) : Nat → Int32 → (Nat → Int64) → Option ((Nat → Int64))
  | 0 => fun _ _ => none
  | n + 1 => fun x1 b0 => f_R_noteTree_2 (f_R_noteTree_2_it p0 n) p0 x1 b0
set_option maxHeartbeats 4000000 in
set_option maxRecDepth 100000 in
theorem k_R_noteTree_2_it {p0 : St} {b' : (Nat → Int64)} (X : sr_X D (tR t v) b_R_noteTree 3 R_R w_R_noteTree p s m args meth c A none) (n : Nat) : ∀ {x1 : Int32} {b0 : (Nat → Int64)} {H : Heap} {locs : List Loc} {ls : Array Slot}, sr_Z D A s.heap (wR h t o v p0 b0) H locs → lv_has ls 3 [(0, .ref (o 0)), (1, .int x1)] → f_R_noteTree_2_it p0 n x1 b0 = some b' → W p l e (sr_rm 2 44) s m args below meth c H locs 0 0 (sr_Qv D (tR t v) below args s A (wR h t o v p0 b')) (F0 m 2 ls []) := by
  induction n with
  | zero => intro x1 b0 H locs ls Z hl hf; exact absurd hf (by simp [f_R_noteTree_2_it])
  | succ n ih =>
    intro x1 b0 H locs ls Z hl hf
    exact k_R_noteTree_2 X (fun x1 b0 H locs ls Z hl hf => ih Z hl hf) Z hl hf
def f_R_noteTree (p0 : St) (b0 : (Nat → Int64)) : Option ((Nat → Int64)) :=
  f_R_noteTree_2_it p0 60 0 b0
set_option maxHeartbeats 4000000 in
set_option maxRecDepth 100000 in
theorem k_R_noteTree_0 {p0 : St} {b0 : (Nat → Int64)} {b' : (Nat → Int64)} (X : sr_X D (tR t v) b_R_noteTree 3 R_R w_R_noteTree p s m args meth c A none) (Z : sr_Z D A s.heap (wR h t o v p0 b0) H locs) (hl : lv_has ls 3 [(0, .ref (o 0))]) (hf : f_R_noteTree p0 b0 = some b') : W p l e (sr_rm 2 44) s m args below meth c H locs 0 0 (sr_Qv D (tR t v) below args s A (wR h t o v p0 b')) (F0 m 0 ls []) := by
  have hx := X.1
  have hb := X.2.1
  have hK := X.2.2.2.2.2.2.1
  unfold f_R_noteTree at hf
  refine lv_iconst (v := 0) hx hb d_R_noteTree_0 (by decide) ?_
  refine lv_istore_n (lv' := [(1, .int 0), (0, .ref (o 0))]) hx hb d_R_noteTree_1 rfl hl (by decide) rfl (fun ls hl => ?_)
  exact k_R_noteTree_2_it X _ Z (lv_sub hl [1, 0] rfl) hf
end
set_option maxHeartbeats 4000000 in
set_option maxRecDepth 100000 in
theorem c_R_noteTree {l : Launch} {D : va_G} {h : Nat → Nat} {t : Nat → ClassId} {o : Nat → Nat} {v : Nat → ClassId} {sz : Nat} {p0 : St} {b0 : (Nat → Int64)} {b' : (Nat → Int64)} (hf : f_R_noteTree p0 b0 = some b') : sr_Cv l y_R_noteTree w_R_noteTree (sr_rm 2 44) D (tR t v) (wR h t o v p0 b0) (wR h t o v p0 b') sz [.ref (o 0)] := by
  refine Met.ofW (cc := b_R_noteTree) (maxL := 3) (ret := none) (by decide) rfl ?_
  intro p e s m args below meth c s₁ B hml hv
  obtain ⟨rfl, hsz, hP, hK, hD0⟩ := hv
  subst hsz
  have X : sr_X D (tR t v) b_R_noteTree 3 R_R w_R_noteTree p s m _ meth c (va_A (wR h t o v p0 b0) s.heap.size) none := ⟨B.exec, B.bytes, hml, findClass_of_methodNamed B.named, B.notSynchronized, atoms_spec (ws := w_R_noteTree) B.pre, hK, fun q h => Or.inr h, B.returns⟩
  have Z : sr_Z D (va_A (wR h t o v p0 b0) s.heap.size) s.heap (wR h t o v p0 b0) s.heap [] := ⟨hP, hD0.self, va_S.rf⟩
  have hl := lv_entry ([.ref (o 0)] : List Value) (n := 3) (Nat.le_of_ble_eq_true rfl)
  rw [lg_entry_eq]
  exact k_R_noteTree_0 X Z hl hf
/-! R_noteLinks -/
theorem d_R_noteLinks_0 : decode b_R_noteLinks 0 = .ok (.iconst 0, 1) := by decide +kernel
theorem d_R_noteLinks_1 : decode b_R_noteLinks 1 = .ok (.istore_n 1, 1) := by decide +kernel
theorem d_R_noteLinks_2 : decode b_R_noteLinks 2 = .ok (.iload_n 1, 1) := by decide +kernel
theorem d_R_noteLinks_3 : decode b_R_noteLinks 3 = .ok (.aload_n 0, 1) := by decide +kernel
theorem d_R_noteLinks_4 : decode b_R_noteLinks 4 = .ok (.getfield 15, 3) := by decide +kernel
theorem d_R_noteLinks_7 : decode b_R_noteLinks 7 = .ok (.getfield 86, 3) := by decide +kernel
theorem d_R_noteLinks_10 : decode b_R_noteLinks 10 = .ok (.if_icmp .ge 44, 3) := by decide +kernel
theorem d_R_noteLinks_13 : decode b_R_noteLinks 13 = .ok (.aload_n 0, 1) := by decide +kernel
theorem d_R_noteLinks_14 : decode b_R_noteLinks 14 = .ok (.getfield 9, 3) := by decide +kernel
theorem d_R_noteLinks_17 : decode b_R_noteLinks 17 = .ok (.aload_n 0, 1) := by decide +kernel
theorem d_R_noteLinks_18 : decode b_R_noteLinks 18 = .ok (.getfield 15, 3) := by decide +kernel
theorem d_R_noteLinks_21 : decode b_R_noteLinks 21 = .ok (.getfield 92, 3) := by decide +kernel
theorem d_R_noteLinks_24 : decode b_R_noteLinks 24 = .ok (.iload_n 1, 1) := by decide +kernel
theorem d_R_noteLinks_25 : decode b_R_noteLinks 25 = .ok (.iaload, 1) := by decide +kernel
theorem d_R_noteLinks_26 : decode b_R_noteLinks 26 = .ok (.invokestatic 126, 3) := by decide +kernel
theorem d_R_noteLinks_29 : decode b_R_noteLinks 29 = .ok (.dup2, 1) := by decide +kernel
theorem d_R_noteLinks_30 : decode b_R_noteLinks 30 = .ok (.laload, 1) := by decide +kernel
theorem d_R_noteLinks_31 : decode b_R_noteLinks 31 = .ok (.aload_n 0, 1) := by decide +kernel
theorem d_R_noteLinks_32 : decode b_R_noteLinks 32 = .ok (.getfield 15, 3) := by decide +kernel
theorem d_R_noteLinks_35 : decode b_R_noteLinks 35 = .ok (.getfield 89, 3) := by decide +kernel
theorem d_R_noteLinks_38 : decode b_R_noteLinks 38 = .ok (.iload_n 1, 1) := by decide +kernel
theorem d_R_noteLinks_39 : decode b_R_noteLinks 39 = .ok (.iaload, 1) := by decide +kernel
theorem d_R_noteLinks_40 : decode b_R_noteLinks 40 = .ok (.invokestatic 129, 3) := by decide +kernel
theorem d_R_noteLinks_43 : decode b_R_noteLinks 43 = .ok (.invokestatic 132, 3) := by decide +kernel
theorem d_R_noteLinks_46 : decode b_R_noteLinks 46 = .ok (.lor, 1) := by decide +kernel
theorem d_R_noteLinks_47 : decode b_R_noteLinks 47 = .ok (.lastore, 1) := by decide +kernel
theorem d_R_noteLinks_48 : decode b_R_noteLinks 48 = .ok (.iinc 1 1, 3) := by decide +kernel
theorem d_R_noteLinks_51 : decode b_R_noteLinks 51 = .ok (.goto (-49), 3) := by decide +kernel
theorem d_R_noteLinks_54 : decode b_R_noteLinks 54 = .ok (.return_, 1) := by decide +kernel
section
variable {p : Program} {l : Launch} {e : Env} {s : State} {m : MethodId} {args : Array Value} {below : List Frame} {meth : Method} {c : Code} {H : Heap} {locs : List Loc} {ls : Array Slot} {D : va_G} {A : Nat → Prop} {h o : Nat → Nat} {t v : Nat → ClassId}
def f_R_noteLinks_2 (k2 : Int32 → (Nat → Int64) → Option ((Nat → Int64))) (p0 : St) (x1 : Int32) (b0 : (Nat → Int64)) : Option ((Nat → Int64)) :=
  if (p0 15 0) ≤ x1 then
    some b0
  else
    (sr_ald 16 (p0 12) x1).bind fun v_2 =>
    (f_R_beginning v_2).bind fun v_4 =>
    (sr_lald 48 b0 v_4).bind fun v_6 =>
    (sr_ald 16 (p0 11) x1).bind fun v_8 =>
    (f_R_end v_8).bind fun v_10 =>
    (f_R_bit v_10).bind fun v_12 =>
    (sr_last 48 b0 v_4 (v_6 ||| v_12)).bind fun b_14 =>
    k2 (x1 + 1) b_14
set_option maxHeartbeats 4000000 in
set_option maxRecDepth 100000 in
theorem k_R_noteLinks_2 {k2 : Int32 → (Nat → Int64) → Option ((Nat → Int64))} {p0 : St} {x1 : Int32} {b0 : (Nat → Int64)} {b' : (Nat → Int64)} (X : sr_X D (tR t v) b_R_noteLinks 2 R_R w_R_noteLinks p s m args meth c A none) (hk2 : ∀ (x1 : Int32) (b0 : (Nat → Int64)) (H : Heap) (locs : List Loc) (ls : Array Slot), sr_Z D A s.heap (wR h t o v p0 b0) H locs → lv_has ls 2 [(0, .ref (o 0)), (1, .int x1)] → k2 x1 b0 = some b' → W p l e (sr_rm 1 20) s m args below meth c H locs 0 0 (sr_Qv D (tR t v) below args s A (wR h t o v p0 b')) (F0 m 2 ls [])) (Z : sr_Z D A s.heap (wR h t o v p0 b0) H locs) (hl : lv_has ls 2 [(0, .ref (o 0)), (1, .int x1)]) (hf : f_R_noteLinks_2 k2 p0 x1 b0 = some b') : W p l e (sr_rm 1 20) s m args below meth c H locs 0 0 (sr_Qv D (tR t v) below args s A (wR h t o v p0 b')) (F0 m 2 ls []) := by
  have hx := X.1
  have hb := X.2.1
  have hK := X.2.2.2.2.2.2.1
  unfold f_R_noteLinks_2 at hf
  refine lv_iload_n hx hb d_R_noteLinks_2 rfl (lv_at hl 1 rfl) ?_
  refine lv_aload_n hx hb d_R_noteLinks_3 rfl (lv_at hl 0 rfl) ?_
  refine g_R_15_R X Z d_R_noteLinks_4 ?_
  refine g_R_86_R X Z d_R_noteLinks_7 ?_
  refine lv_icmp_ge (tgt := 54) hx hb d_R_noteLinks_10 rfl (fun q_1 => ?_) (fun q_1 => ?_)
  · have hf := sr_it q_1 hf
    cases hf
    exact sr_retv X Z d_R_noteLinks_54
  · have hf := sr_if q_1 hf
    refine lv_aload_n hx hb d_R_noteLinks_13 rfl (lv_at hl 0 rfl) ?_
    refine g_R_9_R X Z d_R_noteLinks_14 ?_
    refine lv_aload_n hx hb d_R_noteLinks_17 rfl (lv_at hl 0 rfl) ?_
    refine g_R_15_R X Z d_R_noteLinks_18 ?_
    refine g_R_92_R X Z d_R_noteLinks_21 ?_
    refine lv_iload_n hx hb d_R_noteLinks_24 rfl (lv_at hl 1 rfl) ?_
    obtain ⟨v_2, e_3, hf⟩ := sr_b hf
    refine sr_iald hx hb hK Z 12 11 rfl rfl e_3 d_R_noteLinks_25 ?_
    obtain ⟨v_4, e_5, hf⟩ := sr_b hf
    refine sr_cSi (As := [.int v_2]) (rest := [.ref (o 1)]) X Z sr_cut_0 (va_K.sub hK [] rfl) (c_R_beginning e_5) (cw_R_126 X.2.2.2.2.2.1 (by decide)) rfl hl rfl (Nat.le_of_ble_eq_true rfl) d_R_noteLinks_26 (fun H locs Z => ?_)
    refine lv_dup2_11 hx hb d_R_noteLinks_29 rfl rfl ?_
    obtain ⟨v_6, e_7, hf⟩ := sr_b hf
    refine sr_llald hx hb hK Z 16 14 rfl rfl e_7 d_R_noteLinks_30 ?_
    refine lv_aload_n hx hb d_R_noteLinks_31 rfl (lv_at hl 0 rfl) ?_
    refine g_R_15_R X Z d_R_noteLinks_32 ?_
    refine g_R_89_R X Z d_R_noteLinks_35 ?_
    refine lv_iload_n hx hb d_R_noteLinks_38 rfl (lv_at hl 1 rfl) ?_
    obtain ⟨v_8, e_9, hf⟩ := sr_b hf
    refine sr_iald hx hb hK Z 11 10 rfl rfl e_9 d_R_noteLinks_39 ?_
    obtain ⟨v_10, e_11, hf⟩ := sr_b hf
    refine sr_cSi (As := [.int v_8]) (rest := [.long v_6, .int v_4, .ref (o 1)]) X Z sr_cut_0 (va_K.sub hK [] rfl) (c_R_end e_11) (cw_R_129 X.2.2.2.2.2.1 (by decide)) rfl hl rfl (Nat.le_of_ble_eq_true rfl) d_R_noteLinks_40 (fun H locs Z => ?_)
    obtain ⟨v_12, e_13, hf⟩ := sr_b hf
    refine sr_cSl (As := [.int v_10]) (rest := [.long v_6, .int v_4, .ref (o 1)]) X Z sr_cut_0 (va_K.sub hK [] rfl) (c_R_bit e_13) (cw_R_132 X.2.2.2.2.2.1 (by decide)) rfl hl rfl (Nat.le_of_ble_eq_true rfl) d_R_noteLinks_43 (fun H locs Z => ?_)
    refine lv_lor hx hb d_R_noteLinks_46 ?_
    obtain ⟨b_14, e_15, hf⟩ := sr_b hf
    refine sr_llast (wf := (fun q => (wR h t o v p0 q))) hx hb hK Z 16 14 rfl rfl e_15 (fun _ => rfl) d_R_noteLinks_47 (fun H locs Z => ?_)
    refine lv_iinc (k := 1) (v := x1 + 1) (lv' := [(1, .int (x1 + 1)), (0, .ref (o 0))]) hx hb d_R_noteLinks_48 hl rfl rfl (by decide) rfl (fun ls hl => ?_)
    refine lv_goto (tgt := 2) hx hb d_R_noteLinks_51 rfl ?_
    exact hk2 (x1 + 1) b_14 _ _ _ Z (lv_sub hl [1, 0] rfl) hf
def f_R_noteLinks_2_it (p0 : St) : Nat → Int32 → (Nat → Int64) → Option ((Nat → Int64))
  | 0 => fun _ _ => none
  | n + 1 => fun x1 b0 => f_R_noteLinks_2 (f_R_noteLinks_2_it p0 n) p0 x1 b0
set_option maxHeartbeats 4000000 in
set_option maxRecDepth 100000 in
theorem k_R_noteLinks_2_it {p0 : St} {b' : (Nat → Int64)} (X : sr_X D (tR t v) b_R_noteLinks 2 R_R w_R_noteLinks p s m args meth c A none) (n : Nat) : ∀ {x1 : Int32} {b0 : (Nat → Int64)} {H : Heap} {locs : List Loc} {ls : Array Slot}, sr_Z D A s.heap (wR h t o v p0 b0) H locs → lv_has ls 2 [(0, .ref (o 0)), (1, .int x1)] → f_R_noteLinks_2_it p0 n x1 b0 = some b' → W p l e (sr_rm 1 20) s m args below meth c H locs 0 0 (sr_Qv D (tR t v) below args s A (wR h t o v p0 b')) (F0 m 2 ls []) := by
  induction n with
  | zero => intro x1 b0 H locs ls Z hl hf; exact absurd hf (by simp [f_R_noteLinks_2_it])
  | succ n ih =>
    intro x1 b0 H locs ls Z hl hf
    exact k_R_noteLinks_2 X (fun x1 b0 H locs ls Z hl hf => ih Z hl hf) Z hl hf
def f_R_noteLinks (p0 : St) (b0 : (Nat → Int64)) : Option ((Nat → Int64)) :=
  f_R_noteLinks_2_it p0 60 0 b0
set_option maxHeartbeats 4000000 in
set_option maxRecDepth 100000 in
theorem k_R_noteLinks_0 {p0 : St} {b0 : (Nat → Int64)} {b' : (Nat → Int64)} (X : sr_X D (tR t v) b_R_noteLinks 2 R_R w_R_noteLinks p s m args meth c A none) (Z : sr_Z D A s.heap (wR h t o v p0 b0) H locs) (hl : lv_has ls 2 [(0, .ref (o 0))]) (hf : f_R_noteLinks p0 b0 = some b') : W p l e (sr_rm 1 20) s m args below meth c H locs 0 0 (sr_Qv D (tR t v) below args s A (wR h t o v p0 b')) (F0 m 0 ls []) := by
  have hx := X.1
  have hb := X.2.1
  have hK := X.2.2.2.2.2.2.1
  unfold f_R_noteLinks at hf
  refine lv_iconst (v := 0) hx hb d_R_noteLinks_0 (by decide) ?_
  refine lv_istore_n (lv' := [(1, .int 0), (0, .ref (o 0))]) hx hb d_R_noteLinks_1 rfl hl (by decide) rfl (fun ls hl => ?_)
  exact k_R_noteLinks_2_it X _ Z (lv_sub hl [1, 0] rfl) hf
end
set_option maxHeartbeats 4000000 in
set_option maxRecDepth 100000 in
theorem c_R_noteLinks {l : Launch} {D : va_G} {h : Nat → Nat} {t : Nat → ClassId} {o : Nat → Nat} {v : Nat → ClassId} {sz : Nat} {p0 : St} {b0 : (Nat → Int64)} {b' : (Nat → Int64)} (hf : f_R_noteLinks p0 b0 = some b') : sr_Cv l y_R_noteLinks w_R_noteLinks (sr_rm 1 20) D (tR t v) (wR h t o v p0 b0) (wR h t o v p0 b') sz [.ref (o 0)] := by
  refine Met.ofW (cc := b_R_noteLinks) (maxL := 2) (ret := none) (by decide) rfl ?_
  intro p e s m args below meth c s₁ B hml hv
  obtain ⟨rfl, hsz, hP, hK, hD0⟩ := hv
  subst hsz
  have X : sr_X D (tR t v) b_R_noteLinks 2 R_R w_R_noteLinks p s m _ meth c (va_A (wR h t o v p0 b0) s.heap.size) none := ⟨B.exec, B.bytes, hml, findClass_of_methodNamed B.named, B.notSynchronized, atoms_spec (ws := w_R_noteLinks) B.pre, hK, fun q h => Or.inr h, B.returns⟩
  have Z : sr_Z D (va_A (wR h t o v p0 b0) s.heap.size) s.heap (wR h t o v p0 b0) s.heap [] := ⟨hP, hD0.self, va_S.rf⟩
  have hl := lv_entry ([.ref (o 0)] : List Value) (n := 2) (Nat.le_of_ble_eq_true rfl)
  rw [lg_entry_eq]
  exact k_R_noteLinks_0 X Z hl hf
/-! R_withoutFirst -/
theorem d_R_withoutFirst_0 : decode b_R_withoutFirst 0 = .ok (.lload_n 1, 1) := by decide +kernel
theorem d_R_withoutFirst_1 : decode b_R_withoutFirst 1 = .ok (.lstore_n 3, 1) := by decide +kernel
theorem d_R_withoutFirst_2 : decode b_R_withoutFirst 2 = .ok (.iconst 0, 1) := by decide +kernel
theorem d_R_withoutFirst_3 : decode b_R_withoutFirst 3 = .ok (.istore 5, 2) := by decide +kernel
theorem d_R_withoutFirst_5 : decode b_R_withoutFirst 5 = .ok (.iload 5, 2) := by decide +kernel
theorem d_R_withoutFirst_7 : decode b_R_withoutFirst 7 = .ok (.iconst 2, 1) := by decide +kernel
theorem d_R_withoutFirst_8 : decode b_R_withoutFirst 8 = .ok (.aload_n 0, 1) := by decide +kernel
theorem d_R_withoutFirst_9 : decode b_R_withoutFirst 9 = .ok (.getfield 15, 3) := by decide +kernel
theorem d_R_withoutFirst_12 : decode b_R_withoutFirst 12 = .ok (.getfield 41, 3) := by decide +kernel
theorem d_R_withoutFirst_15 : decode b_R_withoutFirst 15 = .ok (.imul, 1) := by decide +kernel
theorem d_R_withoutFirst_16 : decode b_R_withoutFirst 16 = .ok (.if_icmp .ge 35, 3) := by decide +kernel
theorem d_R_withoutFirst_19 : decode b_R_withoutFirst 19 = .ok (.aload_n 0, 1) := by decide +kernel
theorem d_R_withoutFirst_20 : decode b_R_withoutFirst 20 = .ok (.getfield 9, 3) := by decide +kernel
theorem d_R_withoutFirst_23 : decode b_R_withoutFirst 23 = .ok (.iload 5, 2) := by decide +kernel
theorem d_R_withoutFirst_25 : decode b_R_withoutFirst 25 = .ok (.laload, 1) := by decide +kernel
theorem d_R_withoutFirst_26 : decode b_R_withoutFirst 26 = .ok (.lload_n 1, 1) := by decide +kernel
theorem d_R_withoutFirst_27 : decode b_R_withoutFirst 27 = .ok (.land, 1) := by decide +kernel
theorem d_R_withoutFirst_28 : decode b_R_withoutFirst 28 = .ok (.lconst 0, 1) := by decide +kernel
theorem d_R_withoutFirst_29 : decode b_R_withoutFirst 29 = .ok (.lcmp, 1) := by decide +kernel
theorem d_R_withoutFirst_30 : decode b_R_withoutFirst 30 = .ok (.ifCond .ne 15, 3) := by decide +kernel
theorem d_R_withoutFirst_33 : decode b_R_withoutFirst 33 = .ok (.lload_n 3, 1) := by decide +kernel
theorem d_R_withoutFirst_34 : decode b_R_withoutFirst 34 = .ok (.iload 5, 2) := by decide +kernel
theorem d_R_withoutFirst_36 : decode b_R_withoutFirst 36 = .ok (.invokestatic 132, 3) := by decide +kernel
theorem d_R_withoutFirst_39 : decode b_R_withoutFirst 39 = .ok (.ldc2_w 143, 3) := by decide +kernel
theorem d_R_withoutFirst_42 : decode b_R_withoutFirst 42 = .ok (.lxor, 1) := by decide +kernel
theorem d_R_withoutFirst_43 : decode b_R_withoutFirst 43 = .ok (.land, 1) := by decide +kernel
theorem d_R_withoutFirst_44 : decode b_R_withoutFirst 44 = .ok (.lstore_n 3, 1) := by decide +kernel
theorem d_R_withoutFirst_45 : decode b_R_withoutFirst 45 = .ok (.iinc 5 1, 3) := by decide +kernel
theorem d_R_withoutFirst_48 : decode b_R_withoutFirst 48 = .ok (.goto (-43), 3) := by decide +kernel
theorem d_R_withoutFirst_51 : decode b_R_withoutFirst 51 = .ok (.lload_n 3, 1) := by decide +kernel
theorem d_R_withoutFirst_52 : decode b_R_withoutFirst 52 = .ok (.lreturn, 1) := by decide +kernel
section
variable {p : Program} {l : Launch} {e : Env} {s : State} {m : MethodId} {args : Array Value} {below : List Frame} {meth : Method} {c : Code} {H : Heap} {locs : List Loc} {ls : Array Slot} {D : va_G} {A : Nat → Prop} {h o : Nat → Nat} {t v : Nat → ClassId}
def f_R_withoutFirst_45 (k5 : Int64 → Int64 → Int32 → Option (Int64)) (p0 : St) (b0 : (Nat → Int64)) (x1 : Int64) (x3 : Int64) (x5 : Int32) : Option (Int64) :=
  k5 x1 x3 (x5 + 1)
set_option maxHeartbeats 4000000 in
set_option maxRecDepth 100000 in
theorem k_R_withoutFirst_45 {k5 : Int64 → Int64 → Int32 → Option (Int64)} {p0 : St} {b0 : (Nat → Int64)} {x1 : Int64} {x3 : Int64} {x5 : Int32} {r : Int64} (X : sr_X D (tR t v) b_R_withoutFirst 6 R_R w_R_withoutFirst p s m args meth c A (some .long)) (hk5 : ∀ (x1 : Int64) (x3 : Int64) (x5 : Int32) (H : Heap) (locs : List Loc) (ls : Array Slot), sr_Z D A s.heap (wR h t o v p0 b0) H locs → lv_has ls 6 [(0, .ref (o 0)), (1, .long x1), (3, .long x3), (5, .int x5)] → k5 x1 x3 x5 = some r → W p l e (sr_rm 1 20) s m args below meth c H locs 0 0 (sr_Ql D (tR t v) below args s A (wR h t o v p0 b0) r) (F0 m 5 ls [])) (Z : sr_Z D A s.heap (wR h t o v p0 b0) H locs) (hl : lv_has ls 6 [(0, .ref (o 0)), (1, .long x1), (3, .long x3), (5, .int x5)]) (hf : f_R_withoutFirst_45 k5 p0 b0 x1 x3 x5 = some r) : W p l e (sr_rm 1 20) s m args below meth c H locs 0 0 (sr_Ql D (tR t v) below args s A (wR h t o v p0 b0) r) (F0 m 45 ls []) := by
  have hx := X.1
  have hb := X.2.1
  have hK := X.2.2.2.2.2.2.1
  unfold f_R_withoutFirst_45 at hf
  refine lv_iinc (k := 3) (v := x5 + 1) (lv' := [(5, .int (x5 + 1)), (0, .ref (o 0)), (1, .long x1), (3, .long x3)]) hx hb d_R_withoutFirst_45 hl rfl rfl (by decide) rfl (fun ls hl => ?_)
  refine lv_goto (tgt := 5) hx hb d_R_withoutFirst_48 rfl ?_
  exact hk5 x1 x3 (x5 + 1) _ _ _ Z (lv_sub hl [1, 2, 3, 0] rfl) hf
def f_R_withoutFirst_5 (k5 : Int64 → Int64 → Int32 → Option (Int64)) (p0 : St) (b0 : (Nat → Int64)) (x1 : Int64) (x3 : Int64) (x5 : Int32) : Option (Int64) :=
  if (2 * (p0 10 0)) ≤ x5 then
    some x3
  else
    (sr_lald 48 b0 x5).bind fun v_2 =>
    if (lg_cmp (v_2 &&& x1) 0) = 0 then
      (f_R_bit x5).bind fun v_5 =>
      f_R_withoutFirst_45 k5 p0 b0 x1 (x3 &&& (v_5 ^^^ (-1))) x5
    else
      f_R_withoutFirst_45 k5 p0 b0 x1 x3 x5
set_option maxHeartbeats 4000000 in
set_option maxRecDepth 100000 in
theorem k_R_withoutFirst_5 {k5 : Int64 → Int64 → Int32 → Option (Int64)} {p0 : St} {b0 : (Nat → Int64)} {x1 : Int64} {x3 : Int64} {x5 : Int32} {r : Int64} (X : sr_X D (tR t v) b_R_withoutFirst 6 R_R w_R_withoutFirst p s m args meth c A (some .long)) (hk5 : ∀ (x1 : Int64) (x3 : Int64) (x5 : Int32) (H : Heap) (locs : List Loc) (ls : Array Slot), sr_Z D A s.heap (wR h t o v p0 b0) H locs → lv_has ls 6 [(0, .ref (o 0)), (1, .long x1), (3, .long x3), (5, .int x5)] → k5 x1 x3 x5 = some r → W p l e (sr_rm 1 20) s m args below meth c H locs 0 0 (sr_Ql D (tR t v) below args s A (wR h t o v p0 b0) r) (F0 m 5 ls [])) (Z : sr_Z D A s.heap (wR h t o v p0 b0) H locs) (hl : lv_has ls 6 [(0, .ref (o 0)), (1, .long x1), (3, .long x3), (5, .int x5)]) (hf : f_R_withoutFirst_5 k5 p0 b0 x1 x3 x5 = some r) : W p l e (sr_rm 1 20) s m args below meth c H locs 0 0 (sr_Ql D (tR t v) below args s A (wR h t o v p0 b0) r) (F0 m 5 ls []) := by
  have hx := X.1
  have hb := X.2.1
  have hK := X.2.2.2.2.2.2.1
  unfold f_R_withoutFirst_5 at hf
  refine lv_iload hx hb d_R_withoutFirst_5 (lv_at hl 3 rfl) ?_
  refine lv_iconst (v := 2) hx hb d_R_withoutFirst_7 (by decide) ?_
  refine lv_aload_n hx hb d_R_withoutFirst_8 rfl (lv_at hl 0 rfl) ?_
  refine g_R_15_R X Z d_R_withoutFirst_9 ?_
  refine g_R_41_R X Z d_R_withoutFirst_12 ?_
  refine lv_imul hx hb d_R_withoutFirst_15 ?_
  refine lv_icmp_ge (tgt := 51) hx hb d_R_withoutFirst_16 rfl (fun q_1 => ?_) (fun q_1 => ?_)
  · have hf := sr_it q_1 hf
    refine lv_lload_n hx hb d_R_withoutFirst_51 rfl (lv_at hl 2 rfl) ?_
    cases hf
    exact sr_retl X Z d_R_withoutFirst_52
  · have hf := sr_if q_1 hf
    refine lv_aload_n hx hb d_R_withoutFirst_19 rfl (lv_at hl 0 rfl) ?_
    refine g_R_9_R X Z d_R_withoutFirst_20 ?_
    refine lv_iload hx hb d_R_withoutFirst_23 (lv_at hl 3 rfl) ?_
    obtain ⟨v_2, e_3, hf⟩ := sr_b hf
    refine sr_llald hx hb hK Z 16 14 rfl rfl e_3 d_R_withoutFirst_25 ?_
    refine lv_lload_n hx hb d_R_withoutFirst_26 rfl (lv_at hl 1 rfl) ?_
    refine lv_land hx hb d_R_withoutFirst_27 ?_
    refine lv_lconst (v := 0) hx hb d_R_withoutFirst_28 (by decide) ?_
    refine W.lcmp hx hb d_R_withoutFirst_29 ?_
    refine lv_if_ne (tgt := 45) hx hb d_R_withoutFirst_30 rfl (fun q_4 => ?_) (fun q_4 => ?_)
    · have hf := sr_if q_4 hf
      exact k_R_withoutFirst_45 X hk5 Z (lv_sub hl [0, 1, 2, 3] rfl) hf
    · have hf := sr_it q_4 hf
      refine lv_lload_n hx hb d_R_withoutFirst_33 rfl (lv_at hl 2 rfl) ?_
      refine lv_iload hx hb d_R_withoutFirst_34 (lv_at hl 3 rfl) ?_
      obtain ⟨v_5, e_6, hf⟩ := sr_b hf
      refine sr_cSl (As := [.int x5]) (rest := [.long x3]) X Z sr_cut_0 (va_K.sub hK [] rfl) (c_R_bit e_6) (cw_R_132 X.2.2.2.2.2.1 (by decide)) rfl hl rfl (Nat.le_of_ble_eq_true rfl) d_R_withoutFirst_36 (fun H locs Z => ?_)
      refine lv_ldc2 (v := -1) hx hb X.2.2.2.1 (X.2.2.2.2.2.1 _ (List.mem_cons_of_mem _ q_283)) d_R_withoutFirst_39 ?_
      refine lv_lxor hx hb d_R_withoutFirst_42 ?_
      refine lv_land hx hb d_R_withoutFirst_43 ?_
      refine lv_lstore_n (lv' := [(3, .long (x3 &&& (v_5 ^^^ (-1)))), (0, .ref (o 0)), (1, .long x1), (5, .int x5)]) hx hb d_R_withoutFirst_44 rfl hl (by decide) rfl (fun ls hl => ?_)
      exact k_R_withoutFirst_45 X hk5 Z (lv_sub hl [1, 2, 0, 3] rfl) hf
def f_R_withoutFirst_5_it (p0 : St) (b0 : (Nat → Int64)) : Nat → Int64 → Int64 → Int32 → Option (Int64)
  | 0 => fun _ _ _ => none
  | n + 1 => fun x1 x3 x5 => f_R_withoutFirst_5 (f_R_withoutFirst_5_it p0 b0 n) p0 b0 x1 x3 x5
set_option maxHeartbeats 4000000 in
set_option maxRecDepth 100000 in
theorem k_R_withoutFirst_5_it {p0 : St} {b0 : (Nat → Int64)} {r : Int64} (X : sr_X D (tR t v) b_R_withoutFirst 6 R_R w_R_withoutFirst p s m args meth c A (some .long)) (n : Nat) : ∀ {x1 : Int64} {x3 : Int64} {x5 : Int32} {H : Heap} {locs : List Loc} {ls : Array Slot}, sr_Z D A s.heap (wR h t o v p0 b0) H locs → lv_has ls 6 [(0, .ref (o 0)), (1, .long x1), (3, .long x3), (5, .int x5)] → f_R_withoutFirst_5_it p0 b0 n x1 x3 x5 = some r → W p l e (sr_rm 1 20) s m args below meth c H locs 0 0 (sr_Ql D (tR t v) below args s A (wR h t o v p0 b0) r) (F0 m 5 ls []) := by
  induction n with
  | zero => intro x1 x3 x5 H locs ls Z hl hf; exact absurd hf (by simp [f_R_withoutFirst_5_it])
  | succ n ih =>
    intro x1 x3 x5 H locs ls Z hl hf
    exact k_R_withoutFirst_5 X (fun x1 x3 x5 H locs ls Z hl hf => ih Z hl hf) Z hl hf
def f_R_withoutFirst (p0 : St) (b0 : (Nat → Int64)) (x1 : Int64) : Option (Int64) :=
  f_R_withoutFirst_5_it p0 b0 60 x1 x1 0
set_option maxHeartbeats 4000000 in
set_option maxRecDepth 100000 in
theorem k_R_withoutFirst_0 {p0 : St} {b0 : (Nat → Int64)} {x1 : Int64} {r : Int64} (X : sr_X D (tR t v) b_R_withoutFirst 6 R_R w_R_withoutFirst p s m args meth c A (some .long)) (Z : sr_Z D A s.heap (wR h t o v p0 b0) H locs) (hl : lv_has ls 6 [(0, .ref (o 0)), (1, .long x1)]) (hf : f_R_withoutFirst p0 b0 x1 = some r) : W p l e (sr_rm 1 20) s m args below meth c H locs 0 0 (sr_Ql D (tR t v) below args s A (wR h t o v p0 b0) r) (F0 m 0 ls []) := by
  have hx := X.1
  have hb := X.2.1
  have hK := X.2.2.2.2.2.2.1
  unfold f_R_withoutFirst at hf
  refine lv_lload_n hx hb d_R_withoutFirst_0 rfl (lv_at hl 1 rfl) ?_
  refine lv_lstore_n (lv' := [(3, .long x1), (0, .ref (o 0)), (1, .long x1)]) hx hb d_R_withoutFirst_1 rfl hl (by decide) rfl (fun ls hl => ?_)
  refine lv_iconst (v := 0) hx hb d_R_withoutFirst_2 (by decide) ?_
  refine lv_istore (lv' := [(5, .int 0), (3, .long x1), (0, .ref (o 0)), (1, .long x1)]) hx hb d_R_withoutFirst_3 hl (by decide) rfl (fun ls hl => ?_)
  exact k_R_withoutFirst_5_it X _ Z (lv_sub hl [2, 3, 1, 0] rfl) hf
end
set_option maxHeartbeats 4000000 in
set_option maxRecDepth 100000 in
theorem c_R_withoutFirst {l : Launch} {D : va_G} {h : Nat → Nat} {t : Nat → ClassId} {o : Nat → Nat} {v : Nat → ClassId} {sz : Nat} {p0 : St} {b0 : (Nat → Int64)} {x1 : Int64} {r : Int64} (hf : f_R_withoutFirst p0 b0 x1 = some r) : sr_Cl l y_R_withoutFirst w_R_withoutFirst (sr_rm 1 20) D (tR t v) (wR h t o v p0 b0) (wR h t o v p0 b0) sz [.ref (o 0), .long x1] r := by
  refine Met.ofW (cc := b_R_withoutFirst) (maxL := 6) (ret := (some .long)) (by decide) rfl ?_
  intro p e s m args below meth c s₁ B hml hv
  obtain ⟨rfl, hsz, hP, hK, hD0⟩ := hv
  subst hsz
  have X : sr_X D (tR t v) b_R_withoutFirst 6 R_R w_R_withoutFirst p s m _ meth c (va_A (wR h t o v p0 b0) s.heap.size) (some .long) := ⟨B.exec, B.bytes, hml, findClass_of_methodNamed B.named, B.notSynchronized, atoms_spec (ws := w_R_withoutFirst) B.pre, hK, fun q h => Or.inr h, B.returns⟩
  have Z : sr_Z D (va_A (wR h t o v p0 b0) s.heap.size) s.heap (wR h t o v p0 b0) s.heap [] := ⟨hP, hD0.self, va_S.rf⟩
  have hl := lv_entry ([.ref (o 0), .long x1] : List Value) (n := 6) (Nat.le_of_ble_eq_true rfl)
  rw [lg_entry_eq]
  exact k_R_withoutFirst_0 X Z hl hf
/-! R_orderIsRight -/
theorem d_R_orderIsRight_0 : decode b_R_orderIsRight 0 = .ok (.aload_n 0, 1) := by decide +kernel
theorem d_R_orderIsRight_1 : decode b_R_orderIsRight 1 = .ok (.invokevirtual 116, 3) := by decide +kernel
theorem d_R_orderIsRight_4 : decode b_R_orderIsRight 4 = .ok (.aload_n 0, 1) := by decide +kernel
theorem d_R_orderIsRight_5 : decode b_R_orderIsRight 5 = .ok (.invokevirtual 119, 3) := by decide +kernel
theorem d_R_orderIsRight_8 : decode b_R_orderIsRight 8 = .ok (.iconst 2, 1) := by decide +kernel
theorem d_R_orderIsRight_9 : decode b_R_orderIsRight 9 = .ok (.aload_n 0, 1) := by decide +kernel
theorem d_R_orderIsRight_10 : decode b_R_orderIsRight 10 = .ok (.getfield 15, 3) := by decide +kernel
theorem d_R_orderIsRight_13 : decode b_R_orderIsRight 13 = .ok (.getfield 41, 3) := by decide +kernel
theorem d_R_orderIsRight_16 : decode b_R_orderIsRight 16 = .ok (.imul, 1) := by decide +kernel
theorem d_R_orderIsRight_17 : decode b_R_orderIsRight 17 = .ok (.istore_n 1, 1) := by decide +kernel
theorem d_R_orderIsRight_18 : decode b_R_orderIsRight 18 = .ok (.lconst 1, 1) := by decide +kernel
theorem d_R_orderIsRight_19 : decode b_R_orderIsRight 19 = .ok (.iload_n 1, 1) := by decide +kernel
theorem d_R_orderIsRight_20 : decode b_R_orderIsRight 20 = .ok (.lshl, 1) := by decide +kernel
theorem d_R_orderIsRight_21 : decode b_R_orderIsRight 21 = .ok (.lconst 1, 1) := by decide +kernel
theorem d_R_orderIsRight_22 : decode b_R_orderIsRight 22 = .ok (.lsub, 1) := by decide +kernel
theorem d_R_orderIsRight_23 : decode b_R_orderIsRight 23 = .ok (.lstore_n 2, 1) := by decide +kernel
theorem d_R_orderIsRight_24 : decode b_R_orderIsRight 24 = .ok (.iconst 0, 1) := by decide +kernel
theorem d_R_orderIsRight_25 : decode b_R_orderIsRight 25 = .ok (.istore 4, 2) := by decide +kernel
theorem d_R_orderIsRight_27 : decode b_R_orderIsRight 27 = .ok (.iload 4, 2) := by decide +kernel
theorem d_R_orderIsRight_29 : decode b_R_orderIsRight 29 = .ok (.iload_n 1, 1) := by decide +kernel
theorem d_R_orderIsRight_30 : decode b_R_orderIsRight 30 = .ok (.if_icmp .ge 21, 3) := by decide +kernel
theorem d_R_orderIsRight_33 : decode b_R_orderIsRight 33 = .ok (.lload_n 2, 1) := by decide +kernel
theorem d_R_orderIsRight_34 : decode b_R_orderIsRight 34 = .ok (.lconst 0, 1) := by decide +kernel
theorem d_R_orderIsRight_35 : decode b_R_orderIsRight 35 = .ok (.lcmp, 1) := by decide +kernel
theorem d_R_orderIsRight_36 : decode b_R_orderIsRight 36 = .ok (.ifCond .eq 15, 3) := by decide +kernel
theorem d_R_orderIsRight_39 : decode b_R_orderIsRight 39 = .ok (.aload_n 0, 1) := by decide +kernel
theorem d_R_orderIsRight_40 : decode b_R_orderIsRight 40 = .ok (.lload_n 2, 1) := by decide +kernel
theorem d_R_orderIsRight_41 : decode b_R_orderIsRight 41 = .ok (.invokevirtual 122, 3) := by decide +kernel
theorem d_R_orderIsRight_44 : decode b_R_orderIsRight 44 = .ok (.lstore_n 2, 1) := by decide +kernel
theorem d_R_orderIsRight_45 : decode b_R_orderIsRight 45 = .ok (.iinc 4 1, 3) := by decide +kernel
theorem d_R_orderIsRight_48 : decode b_R_orderIsRight 48 = .ok (.goto (-21), 3) := by decide +kernel
theorem d_R_orderIsRight_51 : decode b_R_orderIsRight 51 = .ok (.lload_n 2, 1) := by decide +kernel
theorem d_R_orderIsRight_52 : decode b_R_orderIsRight 52 = .ok (.lconst 0, 1) := by decide +kernel
theorem d_R_orderIsRight_53 : decode b_R_orderIsRight 53 = .ok (.lcmp, 1) := by decide +kernel
theorem d_R_orderIsRight_54 : decode b_R_orderIsRight 54 = .ok (.ifCond .ne 7, 3) := by decide +kernel
theorem d_R_orderIsRight_57 : decode b_R_orderIsRight 57 = .ok (.iconst 1, 1) := by decide +kernel
theorem d_R_orderIsRight_58 : decode b_R_orderIsRight 58 = .ok (.goto 4, 3) := by decide +kernel
theorem d_R_orderIsRight_61 : decode b_R_orderIsRight 61 = .ok (.iconst 0, 1) := by decide +kernel
theorem d_R_orderIsRight_62 : decode b_R_orderIsRight 62 = .ok (.ireturn, 1) := by decide +kernel
section
variable {p : Program} {l : Launch} {e : Env} {s : State} {m : MethodId} {args : Array Value} {below : List Frame} {meth : Method} {c : Code} {H : Heap} {locs : List Loc} {ls : Array Slot} {D : va_G} {A : Nat → Prop} {h o : Nat → Nat} {t v : Nat → ClassId}
def f_R_orderIsRight_51 (p0 : St) (x2 : Int64) (b0 : (Nat → Int64)) : Option (Int32 × (Nat → Int64)) :=
  if (lg_cmp x2 0) = 0 then
    some (1, b0)
  else
    some (0, b0)
set_option maxHeartbeats 4000000 in
set_option maxRecDepth 100000 in
theorem k_R_orderIsRight_51 {p0 : St} {x2 : Int64} {b0 : (Nat → Int64)} {r : Int32} {b' : (Nat → Int64)} (X : sr_X D (tR t v) b_R_orderIsRight 5 R_R w_R_orderIsRight p s m args meth c A (some .boolean)) (Z : sr_Z D A s.heap (wR h t o v p0 b0) H locs) (hl : lv_has ls 5 [(2, .long x2)]) (hf : f_R_orderIsRight_51 p0 x2 b0 = some (r, b')) : W p l e (sr_rm 3 66) s m args below meth c H locs 0 0 (sr_Qi D (tR t v) below args s A (wR h t o v p0 b') r) (F0 m 51 ls []) := by
  have hx := X.1
  have hb := X.2.1
  have hK := X.2.2.2.2.2.2.1
  unfold f_R_orderIsRight_51 at hf
  refine lv_lload_n hx hb d_R_orderIsRight_51 rfl (lv_at hl 0 rfl) ?_
  refine lv_lconst (v := 0) hx hb d_R_orderIsRight_52 (by decide) ?_
  refine W.lcmp hx hb d_R_orderIsRight_53 ?_
  refine lv_if_ne (tgt := 61) hx hb d_R_orderIsRight_54 rfl (fun q_6 => ?_) (fun q_6 => ?_)
  · have hf := sr_if q_6 hf
    refine lv_iconst (v := 0) hx hb d_R_orderIsRight_61 (by decide) ?_
    cases hf
    exact sr_retz X Z (by decide) d_R_orderIsRight_62
  · have hf := sr_it q_6 hf
    refine lv_iconst (v := 1) hx hb d_R_orderIsRight_57 (by decide) ?_
    refine lv_goto (tgt := 62) hx hb d_R_orderIsRight_58 rfl ?_
    cases hf
    exact sr_retz X Z (by decide) d_R_orderIsRight_62
def f_R_orderIsRight_27 (k27 : Int32 → Int64 → Int32 → (Nat → Int64) → Option (Int32 × (Nat → Int64))) (p0 : St) (x1 : Int32) (x2 : Int64) (x4 : Int32) (b0 : (Nat → Int64)) : Option (Int32 × (Nat → Int64)) :=
  if x1 ≤ x4 then
    f_R_orderIsRight_51 p0 x2 b0
  else
    if (lg_cmp x2 0) = 0 then
      f_R_orderIsRight_51 p0 x2 b0
    else
      (f_R_withoutFirst p0 b0 x2).bind fun v_8 =>
      k27 x1 v_8 (x4 + 1) b0
set_option maxHeartbeats 4000000 in
set_option maxRecDepth 100000 in
theorem k_R_orderIsRight_27 {k27 : Int32 → Int64 → Int32 → (Nat → Int64) → Option (Int32 × (Nat → Int64))} {p0 : St} {x1 : Int32} {x2 : Int64} {x4 : Int32} {b0 : (Nat → Int64)} {r : Int32} {b' : (Nat → Int64)} (X : sr_X D (tR t v) b_R_orderIsRight 5 R_R w_R_orderIsRight p s m args meth c A (some .boolean)) (hk27 : ∀ (x1 : Int32) (x2 : Int64) (x4 : Int32) (b0 : (Nat → Int64)) (H : Heap) (locs : List Loc) (ls : Array Slot), sr_Z D A s.heap (wR h t o v p0 b0) H locs → lv_has ls 5 [(0, .ref (o 0)), (1, .int x1), (2, .long x2), (4, .int x4)] → k27 x1 x2 x4 b0 = some (r, b') → W p l e (sr_rm 3 66) s m args below meth c H locs 0 0 (sr_Qi D (tR t v) below args s A (wR h t o v p0 b') r) (F0 m 27 ls [])) (Z : sr_Z D A s.heap (wR h t o v p0 b0) H locs) (hl : lv_has ls 5 [(0, .ref (o 0)), (1, .int x1), (2, .long x2), (4, .int x4)]) (hf : f_R_orderIsRight_27 k27 p0 x1 x2 x4 b0 = some (r, b')) : W p l e (sr_rm 3 66) s m args below meth c H locs 0 0 (sr_Qi D (tR t v) below args s A (wR h t o v p0 b') r) (F0 m 27 ls []) := by
  have hx := X.1
  have hb := X.2.1
  have hK := X.2.2.2.2.2.2.1
  unfold f_R_orderIsRight_27 at hf
  refine lv_iload hx hb d_R_orderIsRight_27 (lv_at hl 3 rfl) ?_
  refine lv_iload_n hx hb d_R_orderIsRight_29 rfl (lv_at hl 1 rfl) ?_
  refine lv_icmp_ge (tgt := 51) hx hb d_R_orderIsRight_30 rfl (fun q_5 => ?_) (fun q_5 => ?_)
  · have hf := sr_it q_5 hf
    exact k_R_orderIsRight_51 X Z (lv_sub hl [2] rfl) hf
  · have hf := sr_if q_5 hf
    refine lv_lload_n hx hb d_R_orderIsRight_33 rfl (lv_at hl 2 rfl) ?_
    refine lv_lconst (v := 0) hx hb d_R_orderIsRight_34 (by decide) ?_
    refine W.lcmp hx hb d_R_orderIsRight_35 ?_
    refine lv_if_eq (tgt := 51) hx hb d_R_orderIsRight_36 rfl (fun q_7 => ?_) (fun q_7 => ?_)
    · have hf := sr_it q_7 hf
      exact k_R_orderIsRight_51 X Z (lv_sub hl [2] rfl) hf
    · have hf := sr_if q_7 hf
      refine lv_aload_n hx hb d_R_orderIsRight_39 rfl (lv_at hl 0 rfl) ?_
      refine lv_lload_n hx hb d_R_orderIsRight_40 rfl (lv_at hl 2 rfl) ?_
      obtain ⟨v_8, e_9, hf⟩ := sr_b hf
      refine sr_cVl (As := [.long x2]) (rest := []) X Z sr_cut_self hK (c_R_withoutFirst e_9) (cw_R_122 X.2.2.2.2.2.1 (by decide)) 15 rfl rfl rfl hl rfl (Nat.le_of_ble_eq_true rfl) d_R_orderIsRight_41 (fun H locs Z => ?_)
      refine lv_lstore_n (lv' := [(2, .long v_8), (0, .ref (o 0)), (1, .int x1), (4, .int x4)]) hx hb d_R_orderIsRight_44 rfl hl (by decide) rfl (fun ls hl => ?_)
      refine lv_iinc (k := 3) (v := x4 + 1) (lv' := [(4, .int (x4 + 1)), (2, .long v_8), (0, .ref (o 0)), (1, .int x1)]) hx hb d_R_orderIsRight_45 hl rfl rfl (by decide) rfl (fun ls hl => ?_)
      refine lv_goto (tgt := 27) hx hb d_R_orderIsRight_48 rfl ?_
      exact hk27 x1 v_8 (x4 + 1) b0 _ _ _ Z (lv_sub hl [2, 3, 1, 0] rfl) hf
def f_R_orderIsRight_27_it (p0 : St) : Nat → Int32 → Int64 → Int32 → (Nat → Int64) → Option (Int32 × (Nat → Int64))
  | 0 => fun _ _ _ _ => none
  | n + 1 => fun x1 x2 x4 b0 => f_R_orderIsRight_27 (f_R_orderIsRight_27_it p0 n) p0 x1 x2 x4 b0
set_option maxHeartbeats 4000000 in
set_option maxRecDepth 100000 in
theorem k_R_orderIsRight_27_it {p0 : St} {r : Int32} {b' : (Nat → Int64)} (X : sr_X D (tR t v) b_R_orderIsRight 5 R_R w_R_orderIsRight p s m args meth c A (some .boolean)) (n : Nat) : ∀ {x1 : Int32} {x2 : Int64} {x4 : Int32} {b0 : (Nat → Int64)} {H : Heap} {locs : List Loc} {ls : Array Slot}, sr_Z D A s.heap (wR h t o v p0 b0) H locs → lv_has ls 5 [(0, .ref (o 0)), (1, .int x1), (2, .long x2), (4, .int x4)] → f_R_orderIsRight_27_it p0 n x1 x2 x4 b0 = some (r, b') → W p l e (sr_rm 3 66) s m args below meth c H locs 0 0 (sr_Qi D (tR t v) below args s A (wR h t o v p0 b') r) (F0 m 27 ls []) := by
  induction n with
  | zero => intro x1 x2 x4 b0 H locs ls Z hl hf; exact absurd hf (by simp [f_R_orderIsRight_27_it])
  | succ n ih =>
    intro x1 x2 x4 b0 H locs ls Z hl hf
    exact k_R_orderIsRight_27 X (fun x1 x2 x4 b0 H locs ls Z hl hf => ih Z hl hf) Z hl hf
def f_R_orderIsRight (p0 : St) (b0 : (Nat → Int64)) : Option (Int32 × (Nat → Int64)) :=
  (f_R_noteTree p0 b0).bind fun b_1 =>
  (f_R_noteLinks p0 b_1).bind fun b_3 =>
  f_R_orderIsRight_27_it p0 60 (2 * (p0 10 0)) (((1 : Int64) <<< ((2 * (p0 10 0) : Int32).toInt64 &&& 63)) - 1) 0 b_3
set_option maxHeartbeats 4000000 in
set_option maxRecDepth 100000 in
theorem k_R_orderIsRight_0 {p0 : St} {b0 : (Nat → Int64)} {r : Int32} {b' : (Nat → Int64)} (X : sr_X D (tR t v) b_R_orderIsRight 5 R_R w_R_orderIsRight p s m args meth c A (some .boolean)) (Z : sr_Z D A s.heap (wR h t o v p0 b0) H locs) (hl : lv_has ls 5 [(0, .ref (o 0))]) (hf : f_R_orderIsRight p0 b0 = some (r, b')) : W p l e (sr_rm 3 66) s m args below meth c H locs 0 0 (sr_Qi D (tR t v) below args s A (wR h t o v p0 b') r) (F0 m 0 ls []) := by
  have hx := X.1
  have hb := X.2.1
  have hK := X.2.2.2.2.2.2.1
  unfold f_R_orderIsRight at hf
  refine lv_aload_n hx hb d_R_orderIsRight_0 rfl (lv_at hl 0 rfl) ?_
  obtain ⟨b_1, e_2, hf⟩ := sr_b hf
  refine sr_cVv (As := []) (rest := []) X Z sr_cut_self hK (c_R_noteTree e_2) (cw_R_116 X.2.2.2.2.2.1 (by decide)) 15 rfl rfl rfl hl rfl (Nat.le_of_ble_eq_true rfl) d_R_orderIsRight_1 (fun H locs Z => ?_)
  refine lv_aload_n hx hb d_R_orderIsRight_4 rfl (lv_at hl 0 rfl) ?_
  obtain ⟨b_3, e_4, hf⟩ := sr_b hf
  refine sr_cVv (As := []) (rest := []) X Z sr_cut_self hK (c_R_noteLinks e_4) (cw_R_119 X.2.2.2.2.2.1 (by decide)) 15 rfl rfl rfl hl rfl (Nat.le_of_ble_eq_true rfl) d_R_orderIsRight_5 (fun H locs Z => ?_)
  refine lv_iconst (v := 2) hx hb d_R_orderIsRight_8 (by decide) ?_
  refine lv_aload_n hx hb d_R_orderIsRight_9 rfl (lv_at hl 0 rfl) ?_
  refine g_R_15_R X Z d_R_orderIsRight_10 ?_
  refine g_R_41_R X Z d_R_orderIsRight_13 ?_
  refine lv_imul hx hb d_R_orderIsRight_16 ?_
  refine lv_istore_n (lv' := [(1, .int (2 * (p0 10 0))), (0, .ref (o 0))]) hx hb d_R_orderIsRight_17 rfl hl (by decide) rfl (fun ls hl => ?_)
  refine lv_lconst (v := 1) hx hb d_R_orderIsRight_18 (by decide) ?_
  refine lv_iload_n hx hb d_R_orderIsRight_19 rfl (lv_at hl 0 rfl) ?_
  refine lv_lshl (v := (1 : Int64) <<< ((2 * (p0 10 0) : Int32).toInt64 &&& 63)) hx hb d_R_orderIsRight_20 rfl ?_
  refine lv_lconst (v := 1) hx hb d_R_orderIsRight_21 (by decide) ?_
  refine lv_lsub hx hb d_R_orderIsRight_22 ?_
  refine lv_lstore_n (lv' := [(2, .long (((1 : Int64) <<< ((2 * (p0 10 0) : Int32).toInt64 &&& 63)) - 1)), (1, .int (2 * (p0 10 0))), (0, .ref (o 0))]) hx hb d_R_orderIsRight_23 rfl hl (by decide) rfl (fun ls hl => ?_)
  refine lv_iconst (v := 0) hx hb d_R_orderIsRight_24 (by decide) ?_
  refine lv_istore (lv' := [(4, .int 0), (2, .long (((1 : Int64) <<< ((2 * (p0 10 0) : Int32).toInt64 &&& 63)) - 1)), (1, .int (2 * (p0 10 0))), (0, .ref (o 0))]) hx hb d_R_orderIsRight_25 hl (by decide) rfl (fun ls hl => ?_)
  exact k_R_orderIsRight_27_it X _ Z (lv_sub hl [3, 2, 1, 0] rfl) hf
end
set_option maxHeartbeats 4000000 in
set_option maxRecDepth 100000 in
theorem c_R_orderIsRight {l : Launch} {D : va_G} {h : Nat → Nat} {t : Nat → ClassId} {o : Nat → Nat} {v : Nat → ClassId} {sz : Nat} {p0 : St} {b0 : (Nat → Int64)} {r : Int32} {b' : (Nat → Int64)} (hf : f_R_orderIsRight p0 b0 = some (r, b')) : sr_Ci l y_R_orderIsRight w_R_orderIsRight (sr_rm 3 66) D (tR t v) (wR h t o v p0 b0) (wR h t o v p0 b') sz [.ref (o 0)] r := by
  refine Met.ofW (cc := b_R_orderIsRight) (maxL := 5) (ret := (some .boolean)) (by decide) rfl ?_
  intro p e s m args below meth c s₁ B hml hv
  obtain ⟨rfl, hsz, hP, hK, hD0⟩ := hv
  subst hsz
  have X : sr_X D (tR t v) b_R_orderIsRight 5 R_R w_R_orderIsRight p s m _ meth c (va_A (wR h t o v p0 b0) s.heap.size) (some .boolean) := ⟨B.exec, B.bytes, hml, findClass_of_methodNamed B.named, B.notSynchronized, atoms_spec (ws := w_R_orderIsRight) B.pre, hK, fun q h => Or.inr h, B.returns⟩
  have Z : sr_Z D (va_A (wR h t o v p0 b0) s.heap.size) s.heap (wR h t o v p0 b0) s.heap [] := ⟨hP, hD0.self, va_S.rf⟩
  have hl := lv_entry ([.ref (o 0)] : List Value) (n := 5) (Nat.le_of_ble_eq_true rfl)
  rw [lg_entry_eq]
  exact k_R_orderIsRight_0 X Z hl hf
/-! R_startIsRight -/
theorem d_R_startIsRight_0 : decode b_R_startIsRight 0 = .ok (.aload_n 0, 1) := by decide +kernel
theorem d_R_startIsRight_1 : decode b_R_startIsRight 1 = .ok (.getfield 15, 3) := by decide +kernel
theorem d_R_startIsRight_4 : decode b_R_startIsRight 4 = .ok (.invokevirtual 145, 3) := by decide +kernel
theorem d_R_startIsRight_7 : decode b_R_startIsRight 7 = .ok (.istore_n 1, 1) := by decide +kernel
theorem d_R_startIsRight_8 : decode b_R_startIsRight 8 = .ok (.iload_n 1, 1) := by decide +kernel
theorem d_R_startIsRight_9 : decode b_R_startIsRight 9 = .ok (.iconst (-1), 1) := by decide +kernel
theorem d_R_startIsRight_10 : decode b_R_startIsRight 10 = .ok (.if_icmp .eq 16, 3) := by decide +kernel
theorem d_R_startIsRight_13 : decode b_R_startIsRight 13 = .ok (.aload_n 0, 1) := by decide +kernel
theorem d_R_startIsRight_14 : decode b_R_startIsRight 14 = .ok (.getfield 15, 3) := by decide +kernel
theorem d_R_startIsRight_17 : decode b_R_startIsRight 17 = .ok (.getfield 47, 3) := by decide +kernel
theorem d_R_startIsRight_20 : decode b_R_startIsRight 20 = .ok (.iload_n 1, 1) := by decide +kernel
theorem d_R_startIsRight_21 : decode b_R_startIsRight 21 = .ok (.iaload, 1) := by decide +kernel
theorem d_R_startIsRight_22 : decode b_R_startIsRight 22 = .ok (.iconst 5, 1) := by decide +kernel
theorem d_R_startIsRight_23 : decode b_R_startIsRight 23 = .ok (.if_icmp .eq 5, 3) := by decide +kernel
theorem d_R_startIsRight_26 : decode b_R_startIsRight 26 = .ok (.iconst 0, 1) := by decide +kernel
theorem d_R_startIsRight_27 : decode b_R_startIsRight 27 = .ok (.ireturn, 1) := by decide +kernel
theorem d_R_startIsRight_28 : decode b_R_startIsRight 28 = .ok (.iconst 1, 1) := by decide +kernel
theorem d_R_startIsRight_29 : decode b_R_startIsRight 29 = .ok (.istore_n 2, 1) := by decide +kernel
theorem d_R_startIsRight_30 : decode b_R_startIsRight 30 = .ok (.iload_n 2, 1) := by decide +kernel
theorem d_R_startIsRight_31 : decode b_R_startIsRight 31 = .ok (.iload_n 1, 1) := by decide +kernel
theorem d_R_startIsRight_32 : decode b_R_startIsRight 32 = .ok (.if_icmp .gt 38, 3) := by decide +kernel
theorem d_R_startIsRight_35 : decode b_R_startIsRight 35 = .ok (.iload_n 1, 1) := by decide +kernel
theorem d_R_startIsRight_36 : decode b_R_startIsRight 36 = .ok (.aload_n 0, 1) := by decide +kernel
theorem d_R_startIsRight_37 : decode b_R_startIsRight 37 = .ok (.getfield 15, 3) := by decide +kernel
theorem d_R_startIsRight_40 : decode b_R_startIsRight 40 = .ok (.getfield 110, 3) := by decide +kernel
theorem d_R_startIsRight_43 : decode b_R_startIsRight 43 = .ok (.iload_n 2, 1) := by decide +kernel
theorem d_R_startIsRight_44 : decode b_R_startIsRight 44 = .ok (.iaload, 1) := by decide +kernel
theorem d_R_startIsRight_45 : decode b_R_startIsRight 45 = .ok (.invokestatic 113, 3) := by decide +kernel
theorem d_R_startIsRight_48 : decode b_R_startIsRight 48 = .ok (.ifCond .eq 16, 3) := by decide +kernel
theorem d_R_startIsRight_51 : decode b_R_startIsRight 51 = .ok (.aload_n 0, 1) := by decide +kernel
theorem d_R_startIsRight_52 : decode b_R_startIsRight 52 = .ok (.getfield 15, 3) := by decide +kernel
theorem d_R_startIsRight_55 : decode b_R_startIsRight 55 = .ok (.iload_n 2, 1) := by decide +kernel
theorem d_R_startIsRight_56 : decode b_R_startIsRight 56 = .ok (.invokevirtual 149, 3) := by decide +kernel
theorem d_R_startIsRight_59 : decode b_R_startIsRight 59 = .ok (.ifCond .eq 5, 3) := by decide +kernel
theorem d_R_startIsRight_62 : decode b_R_startIsRight 62 = .ok (.iconst 0, 1) := by decide +kernel
theorem d_R_startIsRight_63 : decode b_R_startIsRight 63 = .ok (.ireturn, 1) := by decide +kernel
theorem d_R_startIsRight_64 : decode b_R_startIsRight 64 = .ok (.iinc 2 1, 3) := by decide +kernel
theorem d_R_startIsRight_67 : decode b_R_startIsRight 67 = .ok (.goto (-37), 3) := by decide +kernel
theorem d_R_startIsRight_70 : decode b_R_startIsRight 70 = .ok (.iconst 1, 1) := by decide +kernel
theorem d_R_startIsRight_71 : decode b_R_startIsRight 71 = .ok (.ireturn, 1) := by decide +kernel
section
variable {p : Program} {l : Launch} {e : Env} {s : State} {m : MethodId} {args : Array Value} {below : List Frame} {meth : Method} {c : Code} {H : Heap} {locs : List Loc} {ls : Array Slot} {D : va_G} {A : Nat → Prop} {h o : Nat → Nat} {t v : Nat → ClassId}
def f_R_startIsRight_64 (k30 : Int32 → Int32 → Option (Int32)) (p0 : St) (b0 : (Nat → Int64)) (x1 : Int32) (x2 : Int32) : Option (Int32) :=
  k30 x1 (x2 + 1)
set_option maxHeartbeats 4000000 in
set_option maxRecDepth 100000 in
theorem k_R_startIsRight_64 {k30 : Int32 → Int32 → Option (Int32)} {p0 : St} {b0 : (Nat → Int64)} {x1 : Int32} {x2 : Int32} {r : Int32} (X : sr_X D (tR t v) b_R_startIsRight 3 R_R w_R_startIsRight p s m args meth c A (some .boolean)) (hk30 : ∀ (x1 : Int32) (x2 : Int32) (H : Heap) (locs : List Loc) (ls : Array Slot), sr_Z D A s.heap (wR h t o v p0 b0) H locs → lv_has ls 3 [(0, .ref (o 0)), (1, .int x1), (2, .int x2)] → k30 x1 x2 = some r → W p l e (sr_rm 3 66) s m args below meth c H locs 0 0 (sr_Qi D (tR t v) below args s A (wR h t o v p0 b0) r) (F0 m 30 ls [])) (Z : sr_Z D A s.heap (wR h t o v p0 b0) H locs) (hl : lv_has ls 3 [(0, .ref (o 0)), (1, .int x1), (2, .int x2)]) (hf : f_R_startIsRight_64 k30 p0 b0 x1 x2 = some r) : W p l e (sr_rm 3 66) s m args below meth c H locs 0 0 (sr_Qi D (tR t v) below args s A (wR h t o v p0 b0) r) (F0 m 64 ls []) := by
  have hx := X.1
  have hb := X.2.1
  have hK := X.2.2.2.2.2.2.1
  unfold f_R_startIsRight_64 at hf
  refine lv_iinc (k := 2) (v := x2 + 1) (lv' := [(2, .int (x2 + 1)), (0, .ref (o 0)), (1, .int x1)]) hx hb d_R_startIsRight_64 hl rfl rfl (by decide) rfl (fun ls hl => ?_)
  refine lv_goto (tgt := 30) hx hb d_R_startIsRight_67 rfl ?_
  exact hk30 x1 (x2 + 1) _ _ _ Z (lv_sub hl [1, 2, 0] rfl) hf
def f_R_startIsRight_30 (k30 : Int32 → Int32 → Option (Int32)) (p0 : St) (b0 : (Nat → Int64)) (x1 : Int32) (x2 : Int32) : Option (Int32) :=
  if x1 < x2 then
    some 1
  else
    (sr_ald 24 (p0 9) x2).bind fun v_8 =>
    (f_P_isIn x1 v_8).bind fun v_10 =>
    if v_10 = 0 then
      f_R_startIsRight_64 k30 p0 b0 x1 x2
    else
      (f_P_isTarget p0 x2).bind fun v_13 =>
      if v_13 = 0 then
        f_R_startIsRight_64 k30 p0 b0 x1 x2
      else
        some 0
set_option maxHeartbeats 4000000 in
set_option maxRecDepth 100000 in
theorem k_R_startIsRight_30 {k30 : Int32 → Int32 → Option (Int32)} {p0 : St} {b0 : (Nat → Int64)} {x1 : Int32} {x2 : Int32} {r : Int32} (X : sr_X D (tR t v) b_R_startIsRight 3 R_R w_R_startIsRight p s m args meth c A (some .boolean)) (hk30 : ∀ (x1 : Int32) (x2 : Int32) (H : Heap) (locs : List Loc) (ls : Array Slot), sr_Z D A s.heap (wR h t o v p0 b0) H locs → lv_has ls 3 [(0, .ref (o 0)), (1, .int x1), (2, .int x2)] → k30 x1 x2 = some r → W p l e (sr_rm 3 66) s m args below meth c H locs 0 0 (sr_Qi D (tR t v) below args s A (wR h t o v p0 b0) r) (F0 m 30 ls [])) (Z : sr_Z D A s.heap (wR h t o v p0 b0) H locs) (hl : lv_has ls 3 [(0, .ref (o 0)), (1, .int x1), (2, .int x2)]) (hf : f_R_startIsRight_30 k30 p0 b0 x1 x2 = some r) : W p l e (sr_rm 3 66) s m args below meth c H locs 0 0 (sr_Qi D (tR t v) below args s A (wR h t o v p0 b0) r) (F0 m 30 ls []) := by
  have hx := X.1
  have hb := X.2.1
  have hK := X.2.2.2.2.2.2.1
  unfold f_R_startIsRight_30 at hf
  refine lv_iload_n hx hb d_R_startIsRight_30 rfl (lv_at hl 2 rfl) ?_
  refine lv_iload_n hx hb d_R_startIsRight_31 rfl (lv_at hl 1 rfl) ?_
  refine lv_icmp_gt (tgt := 70) hx hb d_R_startIsRight_32 rfl (fun q_7 => ?_) (fun q_7 => ?_)
  · have hf := sr_it q_7 hf
    refine lv_iconst (v := 1) hx hb d_R_startIsRight_70 (by decide) ?_
    cases hf
    exact sr_retz X Z (by decide) d_R_startIsRight_71
  · have hf := sr_if q_7 hf
    refine lv_iload_n hx hb d_R_startIsRight_35 rfl (lv_at hl 1 rfl) ?_
    refine lv_aload_n hx hb d_R_startIsRight_36 rfl (lv_at hl 0 rfl) ?_
    refine g_R_15_R X Z d_R_startIsRight_37 ?_
    refine g_R_110_R X Z d_R_startIsRight_40 ?_
    refine lv_iload_n hx hb d_R_startIsRight_43 rfl (lv_at hl 2 rfl) ?_
    obtain ⟨v_8, e_9, hf⟩ := sr_b hf
    refine sr_iald hx hb hK Z 10 9 rfl rfl e_9 d_R_startIsRight_44 ?_
    obtain ⟨v_10, e_11, hf⟩ := sr_b hf
    refine sr_cSi (As := [.int x1, .int v_8]) (rest := []) X Z sr_cut_0 (va_K.sub hK [] rfl) (c_P_isIn e_11) (cw_R_113 X.2.2.2.2.2.1 (by decide)) rfl hl rfl (Nat.le_of_ble_eq_true rfl) d_R_startIsRight_45 (fun H locs Z => ?_)
    refine lv_if_eq (tgt := 64) hx hb d_R_startIsRight_48 rfl (fun q_12 => ?_) (fun q_12 => ?_)
    · have hf := sr_it q_12 hf
      exact k_R_startIsRight_64 X hk30 Z (lv_sub hl [0, 1, 2] rfl) hf
    · have hf := sr_if q_12 hf
      refine lv_aload_n hx hb d_R_startIsRight_51 rfl (lv_at hl 0 rfl) ?_
      refine g_R_15_R X Z d_R_startIsRight_52 ?_
      refine lv_iload_n hx hb d_R_startIsRight_55 rfl (lv_at hl 2 rfl) ?_
      obtain ⟨v_13, e_14, hf⟩ := sr_b hf
      refine sr_cVi (As := [.int x2]) (rest := []) X Z cut_RP (k_RP hK) (c_P_isTarget e_14) (cw_R_149 X.2.2.2.2.2.1 (by decide)) 0 rfl rfl rfl hl rfl (Nat.le_of_ble_eq_true rfl) d_R_startIsRight_56 (fun H locs Z => ?_)
      refine lv_if_eq (tgt := 64) hx hb d_R_startIsRight_59 rfl (fun q_15 => ?_) (fun q_15 => ?_)
      · have hf := sr_it q_15 hf
        exact k_R_startIsRight_64 X hk30 Z (lv_sub hl [0, 1, 2] rfl) hf
      · have hf := sr_if q_15 hf
        refine lv_iconst (v := 0) hx hb d_R_startIsRight_62 (by decide) ?_
        cases hf
        exact sr_retz X Z (by decide) d_R_startIsRight_63
def f_R_startIsRight_30_it (p0 : St) (b0 : (Nat → Int64)) : Nat → Int32 → Int32 → Option (Int32)
  | 0 => fun _ _ => none
  | n + 1 => fun x1 x2 => f_R_startIsRight_30 (f_R_startIsRight_30_it p0 b0 n) p0 b0 x1 x2
set_option maxHeartbeats 4000000 in
set_option maxRecDepth 100000 in
theorem k_R_startIsRight_30_it {p0 : St} {b0 : (Nat → Int64)} {r : Int32} (X : sr_X D (tR t v) b_R_startIsRight 3 R_R w_R_startIsRight p s m args meth c A (some .boolean)) (n : Nat) : ∀ {x1 : Int32} {x2 : Int32} {H : Heap} {locs : List Loc} {ls : Array Slot}, sr_Z D A s.heap (wR h t o v p0 b0) H locs → lv_has ls 3 [(0, .ref (o 0)), (1, .int x1), (2, .int x2)] → f_R_startIsRight_30_it p0 b0 n x1 x2 = some r → W p l e (sr_rm 3 66) s m args below meth c H locs 0 0 (sr_Qi D (tR t v) below args s A (wR h t o v p0 b0) r) (F0 m 30 ls []) := by
  induction n with
  | zero => intro x1 x2 H locs ls Z hl hf; exact absurd hf (by simp [f_R_startIsRight_30_it])
  | succ n ih =>
    intro x1 x2 H locs ls Z hl hf
    exact k_R_startIsRight_30 X (fun x1 x2 H locs ls Z hl hf => ih Z hl hf) Z hl hf
def f_R_startIsRight (p0 : St) (b0 : (Nat → Int64)) : Option (Int32) :=
  (f_P_findStart p0).bind fun v_1 =>
  if v_1 = (-1) then
    some 0
  else
    (sr_ald 24 (p0 2) v_1).bind fun v_4 =>
    if v_4 = 5 then
      f_R_startIsRight_30_it p0 b0 60 v_1 1
    else
      some 0
set_option maxHeartbeats 4000000 in
set_option maxRecDepth 100000 in
theorem k_R_startIsRight_0 {p0 : St} {b0 : (Nat → Int64)} {r : Int32} (X : sr_X D (tR t v) b_R_startIsRight 3 R_R w_R_startIsRight p s m args meth c A (some .boolean)) (Z : sr_Z D A s.heap (wR h t o v p0 b0) H locs) (hl : lv_has ls 3 [(0, .ref (o 0))]) (hf : f_R_startIsRight p0 b0 = some r) : W p l e (sr_rm 3 66) s m args below meth c H locs 0 0 (sr_Qi D (tR t v) below args s A (wR h t o v p0 b0) r) (F0 m 0 ls []) := by
  have hx := X.1
  have hb := X.2.1
  have hK := X.2.2.2.2.2.2.1
  unfold f_R_startIsRight at hf
  refine lv_aload_n hx hb d_R_startIsRight_0 rfl (lv_at hl 0 rfl) ?_
  refine g_R_15_R X Z d_R_startIsRight_1 ?_
  obtain ⟨v_1, e_2, hf⟩ := sr_b hf
  refine sr_cVi (As := []) (rest := []) X Z cut_RP (k_RP hK) (c_P_findStart e_2) (cw_R_145 X.2.2.2.2.2.1 (by decide)) 0 rfl rfl rfl hl rfl (Nat.le_of_ble_eq_true rfl) d_R_startIsRight_4 (fun H locs Z => ?_)
  refine lv_istore_n (lv' := [(1, .int v_1), (0, .ref (o 0))]) hx hb d_R_startIsRight_7 rfl hl (by decide) rfl (fun ls hl => ?_)
  refine lv_iload_n hx hb d_R_startIsRight_8 rfl (lv_at hl 0 rfl) ?_
  refine lv_iconst (v := -1) hx hb d_R_startIsRight_9 (by decide) ?_
  refine lv_icmp_eq (tgt := 26) hx hb d_R_startIsRight_10 rfl (fun q_3 => ?_) (fun q_3 => ?_)
  · have hf := sr_it q_3 hf
    refine lv_iconst (v := 0) hx hb d_R_startIsRight_26 (by decide) ?_
    cases hf
    exact sr_retz X Z (by decide) d_R_startIsRight_27
  · have hf := sr_if q_3 hf
    refine lv_aload_n hx hb d_R_startIsRight_13 rfl (lv_at hl 1 rfl) ?_
    refine g_R_15_R X Z d_R_startIsRight_14 ?_
    refine g_R_47_R X Z d_R_startIsRight_17 ?_
    refine lv_iload_n hx hb d_R_startIsRight_20 rfl (lv_at hl 0 rfl) ?_
    obtain ⟨v_4, e_5, hf⟩ := sr_b hf
    refine sr_iald hx hb hK Z 3 2 rfl rfl e_5 d_R_startIsRight_21 ?_
    refine lv_iconst (v := 5) hx hb d_R_startIsRight_22 (by decide) ?_
    refine lv_icmp_eq (tgt := 28) hx hb d_R_startIsRight_23 rfl (fun q_6 => ?_) (fun q_6 => ?_)
    · have hf := sr_it q_6 hf
      refine lv_iconst (v := 1) hx hb d_R_startIsRight_28 (by decide) ?_
      refine lv_istore_n (lv' := [(2, .int 1), (1, .int v_1), (0, .ref (o 0))]) hx hb d_R_startIsRight_29 rfl hl (by decide) rfl (fun ls hl => ?_)
      exact k_R_startIsRight_30_it X _ Z (lv_sub hl [2, 1, 0] rfl) hf
    · have hf := sr_if q_6 hf
      refine lv_iconst (v := 0) hx hb d_R_startIsRight_26 (by decide) ?_
      cases hf
      exact sr_retz X Z (by decide) d_R_startIsRight_27
end
set_option maxHeartbeats 4000000 in
set_option maxRecDepth 100000 in
theorem c_R_startIsRight {l : Launch} {D : va_G} {h : Nat → Nat} {t : Nat → ClassId} {o : Nat → Nat} {v : Nat → ClassId} {sz : Nat} {p0 : St} {b0 : (Nat → Int64)} {r : Int32} (hf : f_R_startIsRight p0 b0 = some r) : sr_Ci l y_R_startIsRight w_R_startIsRight (sr_rm 3 66) D (tR t v) (wR h t o v p0 b0) (wR h t o v p0 b0) sz [.ref (o 0)] r := by
  refine Met.ofW (cc := b_R_startIsRight) (maxL := 3) (ret := (some .boolean)) (by decide) rfl ?_
  intro p e s m args below meth c s₁ B hml hv
  obtain ⟨rfl, hsz, hP, hK, hD0⟩ := hv
  subst hsz
  have X : sr_X D (tR t v) b_R_startIsRight 3 R_R w_R_startIsRight p s m _ meth c (va_A (wR h t o v p0 b0) s.heap.size) (some .boolean) := ⟨B.exec, B.bytes, hml, findClass_of_methodNamed B.named, B.notSynchronized, atoms_spec (ws := w_R_startIsRight) B.pre, hK, fun q h => Or.inr h, B.returns⟩
  have Z : sr_Z D (va_A (wR h t o v p0 b0) s.heap.size) s.heap (wR h t o v p0 b0) s.heap [] := ⟨hP, hD0.self, va_S.rf⟩
  have hl := lv_entry ([.ref (o 0)] : List Value) (n := 3) (Nat.le_of_ble_eq_true rfl)
  rw [lg_entry_eq]
  exact k_R_startIsRight_0 X Z hl hf
/-! R_leastBroken -/
theorem d_R_leastBroken_0 : decode b_R_leastBroken 0 = .ok (.aload_n 0, 1) := by decide +kernel
theorem d_R_leastBroken_1 : decode b_R_leastBroken 1 = .ok (.invokevirtual 19, 3) := by decide +kernel
theorem d_R_leastBroken_4 : decode b_R_leastBroken 4 = .ok (.ifCond .ne 5, 3) := by decide +kernel
theorem d_R_leastBroken_7 : decode b_R_leastBroken 7 = .ok (.iconst 1, 1) := by decide +kernel
theorem d_R_leastBroken_8 : decode b_R_leastBroken 8 = .ok (.ireturn, 1) := by decide +kernel
theorem d_R_leastBroken_9 : decode b_R_leastBroken 9 = .ok (.aload_n 0, 1) := by decide +kernel
theorem d_R_leastBroken_10 : decode b_R_leastBroken 10 = .ok (.invokevirtual 23, 3) := by decide +kernel
theorem d_R_leastBroken_13 : decode b_R_leastBroken 13 = .ok (.ifCond .ne 5, 3) := by decide +kernel
theorem d_R_leastBroken_16 : decode b_R_leastBroken 16 = .ok (.iconst 2, 1) := by decide +kernel
theorem d_R_leastBroken_17 : decode b_R_leastBroken 17 = .ok (.ireturn, 1) := by decide +kernel
theorem d_R_leastBroken_18 : decode b_R_leastBroken 18 = .ok (.aload_n 0, 1) := by decide +kernel
theorem d_R_leastBroken_19 : decode b_R_leastBroken 19 = .ok (.invokevirtual 26, 3) := by decide +kernel
theorem d_R_leastBroken_22 : decode b_R_leastBroken 22 = .ok (.ifCond .ne 5, 3) := by decide +kernel
theorem d_R_leastBroken_25 : decode b_R_leastBroken 25 = .ok (.iconst 3, 1) := by decide +kernel
theorem d_R_leastBroken_26 : decode b_R_leastBroken 26 = .ok (.ireturn, 1) := by decide +kernel
theorem d_R_leastBroken_27 : decode b_R_leastBroken 27 = .ok (.aload_n 0, 1) := by decide +kernel
theorem d_R_leastBroken_28 : decode b_R_leastBroken 28 = .ok (.invokevirtual 29, 3) := by decide +kernel
theorem d_R_leastBroken_31 : decode b_R_leastBroken 31 = .ok (.ifCond .ne 5, 3) := by decide +kernel
theorem d_R_leastBroken_34 : decode b_R_leastBroken 34 = .ok (.iconst 4, 1) := by decide +kernel
theorem d_R_leastBroken_35 : decode b_R_leastBroken 35 = .ok (.ireturn, 1) := by decide +kernel
theorem d_R_leastBroken_36 : decode b_R_leastBroken 36 = .ok (.aload_n 0, 1) := by decide +kernel
theorem d_R_leastBroken_37 : decode b_R_leastBroken 37 = .ok (.invokevirtual 32, 3) := by decide +kernel
theorem d_R_leastBroken_40 : decode b_R_leastBroken 40 = .ok (.ifCond .ne 5, 3) := by decide +kernel
theorem d_R_leastBroken_43 : decode b_R_leastBroken 43 = .ok (.iconst 5, 1) := by decide +kernel
theorem d_R_leastBroken_44 : decode b_R_leastBroken 44 = .ok (.ireturn, 1) := by decide +kernel
theorem d_R_leastBroken_45 : decode b_R_leastBroken 45 = .ok (.aload_n 0, 1) := by decide +kernel
theorem d_R_leastBroken_46 : decode b_R_leastBroken 46 = .ok (.invokevirtual 35, 3) := by decide +kernel
theorem d_R_leastBroken_49 : decode b_R_leastBroken 49 = .ok (.ifCond .ne 6, 3) := by decide +kernel
theorem d_R_leastBroken_52 : decode b_R_leastBroken 52 = .ok (.bipush 6, 2) := by decide +kernel
theorem d_R_leastBroken_54 : decode b_R_leastBroken 54 = .ok (.ireturn, 1) := by decide +kernel
theorem d_R_leastBroken_55 : decode b_R_leastBroken 55 = .ok (.aload_n 0, 1) := by decide +kernel
theorem d_R_leastBroken_56 : decode b_R_leastBroken 56 = .ok (.invokevirtual 38, 3) := by decide +kernel
theorem d_R_leastBroken_59 : decode b_R_leastBroken 59 = .ok (.ifCond .eq 7, 3) := by decide +kernel
theorem d_R_leastBroken_62 : decode b_R_leastBroken 62 = .ok (.iconst 0, 1) := by decide +kernel
theorem d_R_leastBroken_63 : decode b_R_leastBroken 63 = .ok (.goto 5, 3) := by decide +kernel
theorem d_R_leastBroken_66 : decode b_R_leastBroken 66 = .ok (.bipush 7, 2) := by decide +kernel
theorem d_R_leastBroken_68 : decode b_R_leastBroken 68 = .ok (.ireturn, 1) := by decide +kernel
section
variable {p : Program} {l : Launch} {e : Env} {s : State} {m : MethodId} {args : Array Value} {below : List Frame} {meth : Method} {c : Code} {H : Heap} {locs : List Loc} {ls : Array Slot} {D : va_G} {A : Nat → Prop} {h o : Nat → Nat} {t v : Nat → ClassId}
def f_R_leastBroken (p0 : St) (b0 : (Nat → Int64)) : Option (Int32 × (Nat → Int64)) :=
  (f_R_childrenAreRight p0 b0).bind fun v_1 =>
  if v_1 = 0 then
    some (1, b0)
  else
    (f_R_handlersAreFlat p0 b0).bind fun v_4 =>
    if v_4 = 0 then
      some (2, b0)
    else
      (f_R_handlerKindsAreInside p0 b0).bind fun v_7 =>
      if v_7 = 0 then
        some (3, b0)
      else
        (f_R_compensatesAreRight p0 b0).bind fun v_10 =>
        if v_10 = 0 then
          some (4, b0)
        else
          (f_R_linksAreRight p0 b0).bind fun v_13 =>
          if v_13 = 0 then
            some (5, b0)
          else
            sr_b2 (f_R_orderIsRight p0 b0) fun v_16 b_17 =>
            if v_16 = 0 then
              some (6, b_17)
            else
              (f_R_startIsRight p0 b_17).bind fun v_20 =>
              if v_20 = 0 then
                some (7, b_17)
              else
                some (0, b_17)
set_option maxHeartbeats 4000000 in
set_option maxRecDepth 100000 in
theorem k_R_leastBroken_0 {p0 : St} {b0 : (Nat → Int64)} {r : Int32} {b' : (Nat → Int64)} (X : sr_X D (tR t v) b_R_leastBroken 1 R_R w_R_leastBroken p s m args meth c A (some .int)) (Z : sr_Z D A s.heap (wR h t o v p0 b0) H locs) (hl : lv_has ls 1 [(0, .ref (o 0))]) (hf : f_R_leastBroken p0 b0 = some (r, b')) : W p l e (sr_rm 5 111) s m args below meth c H locs 0 0 (sr_Qi D (tR t v) below args s A (wR h t o v p0 b') r) (F0 m 0 ls []) := by
  have hx := X.1
  have hb := X.2.1
  have hK := X.2.2.2.2.2.2.1
  unfold f_R_leastBroken at hf
  refine lv_aload_n hx hb d_R_leastBroken_0 rfl (lv_at hl 0 rfl) ?_
  obtain ⟨v_1, e_2, hf⟩ := sr_b hf
  refine sr_cVi (As := []) (rest := []) X Z sr_cut_self hK (c_R_childrenAreRight e_2) (cw_R_19 X.2.2.2.2.2.1 (by decide)) 15 rfl rfl rfl hl rfl (Nat.le_of_ble_eq_true rfl) d_R_leastBroken_1 (fun H locs Z => ?_)
  refine lv_if_ne (tgt := 9) hx hb d_R_leastBroken_4 rfl (fun q_3 => ?_) (fun q_3 => ?_)
  · have hf := sr_if q_3 hf
    refine lv_aload_n hx hb d_R_leastBroken_9 rfl (lv_at hl 0 rfl) ?_
    obtain ⟨v_4, e_5, hf⟩ := sr_b hf
    refine sr_cVi (As := []) (rest := []) X Z sr_cut_self hK (c_R_handlersAreFlat e_5) (cw_R_23 X.2.2.2.2.2.1 (by decide)) 15 rfl rfl rfl hl rfl (Nat.le_of_ble_eq_true rfl) d_R_leastBroken_10 (fun H locs Z => ?_)
    refine lv_if_ne (tgt := 18) hx hb d_R_leastBroken_13 rfl (fun q_6 => ?_) (fun q_6 => ?_)
    · have hf := sr_if q_6 hf
      refine lv_aload_n hx hb d_R_leastBroken_18 rfl (lv_at hl 0 rfl) ?_
      obtain ⟨v_7, e_8, hf⟩ := sr_b hf
      refine sr_cVi (As := []) (rest := []) X Z sr_cut_self hK (c_R_handlerKindsAreInside e_8) (cw_R_26 X.2.2.2.2.2.1 (by decide)) 15 rfl rfl rfl hl rfl (Nat.le_of_ble_eq_true rfl) d_R_leastBroken_19 (fun H locs Z => ?_)
      refine lv_if_ne (tgt := 27) hx hb d_R_leastBroken_22 rfl (fun q_9 => ?_) (fun q_9 => ?_)
      · have hf := sr_if q_9 hf
        refine lv_aload_n hx hb d_R_leastBroken_27 rfl (lv_at hl 0 rfl) ?_
        obtain ⟨v_10, e_11, hf⟩ := sr_b hf
        refine sr_cVi (As := []) (rest := []) X Z sr_cut_self hK (c_R_compensatesAreRight e_11) (cw_R_29 X.2.2.2.2.2.1 (by decide)) 15 rfl rfl rfl hl rfl (Nat.le_of_ble_eq_true rfl) d_R_leastBroken_28 (fun H locs Z => ?_)
        refine lv_if_ne (tgt := 36) hx hb d_R_leastBroken_31 rfl (fun q_12 => ?_) (fun q_12 => ?_)
        · have hf := sr_if q_12 hf
          refine lv_aload_n hx hb d_R_leastBroken_36 rfl (lv_at hl 0 rfl) ?_
          obtain ⟨v_13, e_14, hf⟩ := sr_b hf
          refine sr_cVi (As := []) (rest := []) X Z sr_cut_self hK (c_R_linksAreRight e_14) (cw_R_32 X.2.2.2.2.2.1 (by decide)) 15 rfl rfl rfl hl rfl (Nat.le_of_ble_eq_true rfl) d_R_leastBroken_37 (fun H locs Z => ?_)
          refine lv_if_ne (tgt := 45) hx hb d_R_leastBroken_40 rfl (fun q_15 => ?_) (fun q_15 => ?_)
          · have hf := sr_if q_15 hf
            refine lv_aload_n hx hb d_R_leastBroken_45 rfl (lv_at hl 0 rfl) ?_
            obtain ⟨v_16, b_17, e_18, hf⟩ := sr_b2_i hf
            refine sr_cVi (As := []) (rest := []) X Z sr_cut_self hK (c_R_orderIsRight e_18) (cw_R_35 X.2.2.2.2.2.1 (by decide)) 15 rfl rfl rfl hl rfl (Nat.le_of_ble_eq_true rfl) d_R_leastBroken_46 (fun H locs Z => ?_)
            refine lv_if_ne (tgt := 55) hx hb d_R_leastBroken_49 rfl (fun q_19 => ?_) (fun q_19 => ?_)
            · have hf := sr_if q_19 hf
              refine lv_aload_n hx hb d_R_leastBroken_55 rfl (lv_at hl 0 rfl) ?_
              obtain ⟨v_20, e_21, hf⟩ := sr_b hf
              refine sr_cVi (As := []) (rest := []) X Z sr_cut_self hK (c_R_startIsRight e_21) (cw_R_38 X.2.2.2.2.2.1 (by decide)) 15 rfl rfl rfl hl rfl (Nat.le_of_ble_eq_true rfl) d_R_leastBroken_56 (fun H locs Z => ?_)
              refine lv_if_eq (tgt := 66) hx hb d_R_leastBroken_59 rfl (fun q_22 => ?_) (fun q_22 => ?_)
              · have hf := sr_it q_22 hf
                refine lv_bipush (v := 7) hx hb d_R_leastBroken_66 (by decide) ?_
                cases hf
                exact sr_reti X Z d_R_leastBroken_68
              · have hf := sr_if q_22 hf
                refine lv_iconst (v := 0) hx hb d_R_leastBroken_62 (by decide) ?_
                refine lv_goto (tgt := 68) hx hb d_R_leastBroken_63 rfl ?_
                cases hf
                exact sr_reti X Z d_R_leastBroken_68
            · have hf := sr_it q_19 hf
              refine lv_bipush (v := 6) hx hb d_R_leastBroken_52 (by decide) ?_
              cases hf
              exact sr_reti X Z d_R_leastBroken_54
          · have hf := sr_it q_15 hf
            refine lv_iconst (v := 5) hx hb d_R_leastBroken_43 (by decide) ?_
            cases hf
            exact sr_reti X Z d_R_leastBroken_44
        · have hf := sr_it q_12 hf
          refine lv_iconst (v := 4) hx hb d_R_leastBroken_34 (by decide) ?_
          cases hf
          exact sr_reti X Z d_R_leastBroken_35
      · have hf := sr_it q_9 hf
        refine lv_iconst (v := 3) hx hb d_R_leastBroken_25 (by decide) ?_
        cases hf
        exact sr_reti X Z d_R_leastBroken_26
    · have hf := sr_it q_6 hf
      refine lv_iconst (v := 2) hx hb d_R_leastBroken_16 (by decide) ?_
      cases hf
      exact sr_reti X Z d_R_leastBroken_17
  · have hf := sr_it q_3 hf
    refine lv_iconst (v := 1) hx hb d_R_leastBroken_7 (by decide) ?_
    cases hf
    exact sr_reti X Z d_R_leastBroken_8
end
set_option maxHeartbeats 4000000 in
set_option maxRecDepth 100000 in
theorem c_R_leastBroken {l : Launch} {D : va_G} {h : Nat → Nat} {t : Nat → ClassId} {o : Nat → Nat} {v : Nat → ClassId} {sz : Nat} {p0 : St} {b0 : (Nat → Int64)} {r : Int32} {b' : (Nat → Int64)} (hf : f_R_leastBroken p0 b0 = some (r, b')) : sr_Ci l y_R_leastBroken w_R_leastBroken (sr_rm 5 111) D (tR t v) (wR h t o v p0 b0) (wR h t o v p0 b') sz [.ref (o 0)] r := by
  refine Met.ofW (cc := b_R_leastBroken) (maxL := 1) (ret := (some .int)) (by decide) rfl ?_
  intro p e s m args below meth c s₁ B hml hv
  obtain ⟨rfl, hsz, hP, hK, hD0⟩ := hv
  subst hsz
  have X : sr_X D (tR t v) b_R_leastBroken 1 R_R w_R_leastBroken p s m _ meth c (va_A (wR h t o v p0 b0) s.heap.size) (some .int) := ⟨B.exec, B.bytes, hml, findClass_of_methodNamed B.named, B.notSynchronized, atoms_spec (ws := w_R_leastBroken) B.pre, hK, fun q h => Or.inr h, B.returns⟩
  have Z : sr_Z D (va_A (wR h t o v p0 b0) s.heap.size) s.heap (wR h t o v p0 b0) s.heap [] := ⟨hP, hD0.self, va_S.rf⟩
  have hl := lv_entry ([.ref (o 0)] : List Value) (n := 1) (Nat.le_of_ble_eq_true rfl)
  rw [lg_entry_eq]
  exact k_R_leastBroken_0 X Z hl hf
