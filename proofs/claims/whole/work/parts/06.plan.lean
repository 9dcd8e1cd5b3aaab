/-! P_hasActivity -/
theorem d_P_hasActivity_0 : decode b_P_hasActivity 0 = .ok (.iload_n 1, 1) := by decide +kernel
theorem d_P_hasActivity_1 : decode b_P_hasActivity 1 = .ok (.ifCond .lt 15, 3) := by decide +kernel
theorem d_P_hasActivity_4 : decode b_P_hasActivity 4 = .ok (.iload_n 1, 1) := by decide +kernel
theorem d_P_hasActivity_5 : decode b_P_hasActivity 5 = .ok (.aload_n 0, 1) := by decide +kernel
theorem d_P_hasActivity_6 : decode b_P_hasActivity 6 = .ok (.getfield 54, 3) := by decide +kernel
theorem d_P_hasActivity_9 : decode b_P_hasActivity 9 = .ok (.if_icmp .ge 7, 3) := by decide +kernel
theorem d_P_hasActivity_12 : decode b_P_hasActivity 12 = .ok (.iconst 1, 1) := by decide +kernel
theorem d_P_hasActivity_13 : decode b_P_hasActivity 13 = .ok (.goto 4, 3) := by decide +kernel
theorem d_P_hasActivity_16 : decode b_P_hasActivity 16 = .ok (.iconst 0, 1) := by decide +kernel
theorem d_P_hasActivity_17 : decode b_P_hasActivity 17 = .ok (.ireturn, 1) := by decide +kernel
section
variable {p : Program} {l : Launch} {e : Env} {s : State} {m : MethodId} {args : Array Value} {below : List Frame} {meth : Method} {c : Code} {H : Heap} {locs : List Loc} {ls : Array Slot} {D : va_G} {A : Nat → Prop} {h o : Nat → Nat} {t v : Nat → ClassId}
def f_P_hasActivity (p0 : St) (x1 : Int32) : Option (Int32) :=
  if x1 < 0 then
    some 0
  else
    if (p0 10 0) ≤ x1 then
      some 0
    else
      some 1
set_option maxHeartbeats 4000000 in
set_option maxRecDepth 100000 in
theorem k_P_hasActivity_0 {p0 : St} {x1 : Int32} {r : Int32} (X : sr_X D (tP t) b_P_hasActivity 2 R_P w_P_hasActivity p s m args meth c A (some .boolean)) (Z : sr_Z D A s.heap (wP h t p0) H locs) (hl : lv_has ls 2 [(0, .ref (h 0)), (1, .int x1)]) (hf : f_P_hasActivity p0 x1 = some r) : W p l e (sr_rm 0 0) s m args below meth c H locs 0 0 (sr_Qi D (tP t) below args s A (wP h t p0) r) (F0 m 0 ls []) := by
  have hx := X.1
  have hb := X.2.1
  have hK := X.2.2.2.2.2.2.1
  unfold f_P_hasActivity at hf
  refine lv_iload_n hx hb d_P_hasActivity_0 rfl (lv_at hl 1 rfl) ?_
  refine lv_if_lt (tgt := 16) hx hb d_P_hasActivity_1 rfl (fun q_1 => ?_) (fun q_1 => ?_)
  · have hf := sr_it q_1 hf
    refine lv_iconst (v := 0) hx hb d_P_hasActivity_16 (by decide) ?_
    cases hf
    exact sr_retz X Z (by decide) d_P_hasActivity_17
  · have hf := sr_if q_1 hf
    refine lv_iload_n hx hb d_P_hasActivity_4 rfl (lv_at hl 1 rfl) ?_
    refine lv_aload_n hx hb d_P_hasActivity_5 rfl (lv_at hl 0 rfl) ?_
    refine g_P_54_P X Z d_P_hasActivity_6 ?_
    refine lv_icmp_ge (tgt := 16) hx hb d_P_hasActivity_9 rfl (fun q_2 => ?_) (fun q_2 => ?_)
    · have hf := sr_it q_2 hf
      refine lv_iconst (v := 0) hx hb d_P_hasActivity_16 (by decide) ?_
      cases hf
      exact sr_retz X Z (by decide) d_P_hasActivity_17
    · have hf := sr_if q_2 hf
      refine lv_iconst (v := 1) hx hb d_P_hasActivity_12 (by decide) ?_
      refine lv_goto (tgt := 17) hx hb d_P_hasActivity_13 rfl ?_
      cases hf
      exact sr_retz X Z (by decide) d_P_hasActivity_17
end
set_option maxHeartbeats 4000000 in
set_option maxRecDepth 100000 in
theorem c_P_hasActivity {l : Launch} {D : va_G} {h : Nat → Nat} {t : Nat → ClassId} {sz : Nat} {p0 : St} {x1 : Int32} {r : Int32} (hf : f_P_hasActivity p0 x1 = some r) : sr_Ci l y_P_hasActivity w_P_hasActivity (sr_rm 0 0) D (tP t) (wP h t p0) (wP h t p0) sz [.ref (h 0), .int x1] r := by
  refine Met.ofW (cc := b_P_hasActivity) (maxL := 2) (ret := (some .boolean)) (by decide) rfl ?_
  intro p e s m args below meth c s₁ B hml hv
  obtain ⟨rfl, hsz, hP, hK, hD0⟩ := hv
  subst hsz
  have X : sr_X D (tP t) b_P_hasActivity 2 R_P w_P_hasActivity p s m _ meth c (va_A (wP h t p0) s.heap.size) (some .boolean) := ⟨B.exec, B.bytes, hml, findClass_of_methodNamed B.named, B.notSynchronized, atoms_spec (ws := w_P_hasActivity) B.pre, hK, fun q h => Or.inr h, B.returns⟩
  have Z : sr_Z D (va_A (wP h t p0) s.heap.size) s.heap (wP h t p0) s.heap [] := ⟨hP, hD0.self, va_S.rf⟩
  have hl := lv_entry ([.ref (h 0), .int x1] : List Value) (n := 2) (Nat.le_of_ble_eq_true rfl)
  rw [lg_entry_eq]
  exact k_P_hasActivity_0 X Z hl hf
/-! P_hasScope -/
theorem d_P_hasScope_0 : decode b_P_hasScope 0 = .ok (.aload_n 0, 1) := by decide +kernel
theorem d_P_hasScope_1 : decode b_P_hasScope 1 = .ok (.iload_n 1, 1) := by decide +kernel
theorem d_P_hasScope_2 : decode b_P_hasScope 2 = .ok (.invokevirtual 58, 3) := by decide +kernel
theorem d_P_hasScope_5 : decode b_P_hasScope 5 = .ok (.ifCond .eq 18, 3) := by decide +kernel
theorem d_P_hasScope_8 : decode b_P_hasScope 8 = .ok (.aload_n 0, 1) := by decide +kernel
theorem d_P_hasScope_9 : decode b_P_hasScope 9 = .ok (.getfield 18, 3) := by decide +kernel
theorem d_P_hasScope_12 : decode b_P_hasScope 12 = .ok (.iload_n 1, 1) := by decide +kernel
theorem d_P_hasScope_13 : decode b_P_hasScope 13 = .ok (.iaload, 1) := by decide +kernel
theorem d_P_hasScope_14 : decode b_P_hasScope 14 = .ok (.bipush 12, 2) := by decide +kernel
theorem d_P_hasScope_16 : decode b_P_hasScope 16 = .ok (.if_icmp .ne 7, 3) := by decide +kernel
theorem d_P_hasScope_19 : decode b_P_hasScope 19 = .ok (.iconst 1, 1) := by decide +kernel
theorem d_P_hasScope_20 : decode b_P_hasScope 20 = .ok (.goto 4, 3) := by decide +kernel
theorem d_P_hasScope_23 : decode b_P_hasScope 23 = .ok (.iconst 0, 1) := by decide +kernel
theorem d_P_hasScope_24 : decode b_P_hasScope 24 = .ok (.ireturn, 1) := by decide +kernel
section
variable {p : Program} {l : Launch} {e : Env} {s : State} {m : MethodId} {args : Array Value} {below : List Frame} {meth : Method} {c : Code} {H : Heap} {locs : List Loc} {ls : Array Slot} {D : va_G} {A : Nat → Prop} {h o : Nat → Nat} {t v : Nat → ClassId}
def f_P_hasScope (p0 : St) (x1 : Int32) : Option (Int32) :=
  (f_P_hasActivity p0 x1).bind fun v_1 =>
  if v_1 = 0 then
    some 0
  else
    (sr_ald 24 (p0 2) x1).bind fun v_4 =>
    if v_4 = 12 then
      some 1
    else
      some 0
set_option maxHeartbeats 4000000 in
set_option maxRecDepth 100000 in
theorem k_P_hasScope_0 {p0 : St} {x1 : Int32} {r : Int32} (X : sr_X D (tP t) b_P_hasScope 2 R_P w_P_hasScope p s m args meth c A (some .boolean)) (Z : sr_Z D A s.heap (wP h t p0) H locs) (hl : lv_has ls 2 [(0, .ref (h 0)), (1, .int x1)]) (hf : f_P_hasScope p0 x1 = some r) : W p l e (sr_rm 1 21) s m args below meth c H locs 0 0 (sr_Qi D (tP t) below args s A (wP h t p0) r) (F0 m 0 ls []) := by
  have hx := X.1
  have hb := X.2.1
  have hK := X.2.2.2.2.2.2.1
  unfold f_P_hasScope at hf
  refine lv_aload_n hx hb d_P_hasScope_0 rfl (lv_at hl 0 rfl) ?_
  refine lv_iload_n hx hb d_P_hasScope_1 rfl (lv_at hl 1 rfl) ?_
  obtain ⟨v_1, e_2, hf⟩ := sr_b hf
  refine sr_cVi (As := [.int x1]) (rest := []) X Z sr_cut_self hK (c_P_hasActivity e_2) (cw_P_58 X.2.2.2.2.2.1 (by decide)) 0 rfl rfl rfl hl rfl (Nat.le_of_ble_eq_true rfl) d_P_hasScope_2 (fun H locs Z => ?_)
  refine lv_if_eq (tgt := 23) hx hb d_P_hasScope_5 rfl (fun q_3 => ?_) (fun q_3 => ?_)
  · have hf := sr_it q_3 hf
    refine lv_iconst (v := 0) hx hb d_P_hasScope_23 (by decide) ?_
    cases hf
    exact sr_retz X Z (by decide) d_P_hasScope_24
  · have hf := sr_if q_3 hf
    refine lv_aload_n hx hb d_P_hasScope_8 rfl (lv_at hl 0 rfl) ?_
    refine g_P_18_P X Z d_P_hasScope_9 ?_
    refine lv_iload_n hx hb d_P_hasScope_12 rfl (lv_at hl 1 rfl) ?_
    obtain ⟨v_4, e_5, hf⟩ := sr_b hf
    refine sr_iald hx hb hK Z 3 2 rfl rfl e_5 d_P_hasScope_13 ?_
    refine lv_bipush (v := 12) hx hb d_P_hasScope_14 (by decide) ?_
    refine lv_icmp_ne (tgt := 23) hx hb d_P_hasScope_16 rfl (fun q_6 => ?_) (fun q_6 => ?_)
    · have hf := sr_if q_6 hf
      refine lv_iconst (v := 0) hx hb d_P_hasScope_23 (by decide) ?_
      cases hf
      exact sr_retz X Z (by decide) d_P_hasScope_24
    · have hf := sr_it q_6 hf
      refine lv_iconst (v := 1) hx hb d_P_hasScope_19 (by decide) ?_
      refine lv_goto (tgt := 24) hx hb d_P_hasScope_20 rfl ?_
      cases hf
      exact sr_retz X Z (by decide) d_P_hasScope_24
end
set_option maxHeartbeats 4000000 in
set_option maxRecDepth 100000 in
theorem c_P_hasScope {l : Launch} {D : va_G} {h : Nat → Nat} {t : Nat → ClassId} {sz : Nat} {p0 : St} {x1 : Int32} {r : Int32} (hf : f_P_hasScope p0 x1 = some r) : sr_Ci l y_P_hasScope w_P_hasScope (sr_rm 1 21) D (tP t) (wP h t p0) (wP h t p0) sz [.ref (h 0), .int x1] r := by
  refine Met.ofW (cc := b_P_hasScope) (maxL := 2) (ret := (some .boolean)) (by decide) rfl ?_
  intro p e s m args below meth c s₁ B hml hv
  obtain ⟨rfl, hsz, hP, hK, hD0⟩ := hv
  subst hsz
  have X : sr_X D (tP t) b_P_hasScope 2 R_P w_P_hasScope p s m _ meth c (va_A (wP h t p0) s.heap.size) (some .boolean) := ⟨B.exec, B.bytes, hml, findClass_of_methodNamed B.named, B.notSynchronized, atoms_spec (ws := w_P_hasScope) B.pre, hK, fun q h => Or.inr h, B.returns⟩
  have Z : sr_Z D (va_A (wP h t p0) s.heap.size) s.heap (wP h t p0) s.heap [] := ⟨hP, hD0.self, va_S.rf⟩
  have hl := lv_entry ([.ref (h 0), .int x1] : List Value) (n := 2) (Nat.le_of_ble_eq_true rfl)
  rw [lg_entry_eq]
  exact k_P_hasScope_0 X Z hl hf
/-! P_handlerOf -/
theorem d_P_handlerOf_0 : decode b_P_handlerOf 0 = .ok (.iconst 0, 1) := by decide +kernel
theorem d_P_handlerOf_1 : decode b_P_handlerOf 1 = .ok (.istore_n 3, 1) := by decide +kernel
theorem d_P_handlerOf_2 : decode b_P_handlerOf 2 = .ok (.iload_n 3, 1) := by decide +kernel
theorem d_P_handlerOf_3 : decode b_P_handlerOf 3 = .ok (.aload_n 0, 1) := by decide +kernel
theorem d_P_handlerOf_4 : decode b_P_handlerOf 4 = .ok (.getfield 54, 3) := by decide +kernel
theorem d_P_handlerOf_7 : decode b_P_handlerOf 7 = .ok (.if_icmp .ge 31, 3) := by decide +kernel
theorem d_P_handlerOf_10 : decode b_P_handlerOf 10 = .ok (.aload_n 0, 1) := by decide +kernel
theorem d_P_handlerOf_11 : decode b_P_handlerOf 11 = .ok (.getfield 9, 3) := by decide +kernel
theorem d_P_handlerOf_14 : decode b_P_handlerOf 14 = .ok (.iload_n 3, 1) := by decide +kernel
theorem d_P_handlerOf_15 : decode b_P_handlerOf 15 = .ok (.iaload, 1) := by decide +kernel
theorem d_P_handlerOf_16 : decode b_P_handlerOf 16 = .ok (.iload_n 1, 1) := by decide +kernel
theorem d_P_handlerOf_17 : decode b_P_handlerOf 17 = .ok (.if_icmp .ne 15, 3) := by decide +kernel
theorem d_P_handlerOf_20 : decode b_P_handlerOf 20 = .ok (.aload_n 0, 1) := by decide +kernel
theorem d_P_handlerOf_21 : decode b_P_handlerOf 21 = .ok (.getfield 15, 3) := by decide +kernel
theorem d_P_handlerOf_24 : decode b_P_handlerOf 24 = .ok (.iload_n 3, 1) := by decide +kernel
theorem d_P_handlerOf_25 : decode b_P_handlerOf 25 = .ok (.iaload, 1) := by decide +kernel
theorem d_P_handlerOf_26 : decode b_P_handlerOf 26 = .ok (.iload_n 2, 1) := by decide +kernel
theorem d_P_handlerOf_27 : decode b_P_handlerOf 27 = .ok (.if_icmp .ne 5, 3) := by decide +kernel
theorem d_P_handlerOf_30 : decode b_P_handlerOf 30 = .ok (.iload_n 3, 1) := by decide +kernel
theorem d_P_handlerOf_31 : decode b_P_handlerOf 31 = .ok (.ireturn, 1) := by decide +kernel
theorem d_P_handlerOf_32 : decode b_P_handlerOf 32 = .ok (.iinc 3 1, 3) := by decide +kernel
theorem d_P_handlerOf_35 : decode b_P_handlerOf 35 = .ok (.goto (-33), 3) := by decide +kernel
theorem d_P_handlerOf_38 : decode b_P_handlerOf 38 = .ok (.iconst (-1), 1) := by decide +kernel
theorem d_P_handlerOf_39 : decode b_P_handlerOf 39 = .ok (.ireturn, 1) := by decide +kernel
section
variable {p : Program} {l : Launch} {e : Env} {s : State} {m : MethodId} {args : Array Value} {below : List Frame} {meth : Method} {c : Code} {H : Heap} {locs : List Loc} {ls : Array Slot} {D : va_G} {A : Nat → Prop} {h o : Nat → Nat} {t v : Nat → ClassId}
def f_P_handlerOf_32 (k2 : Int32 → Int32 → Int32 → Option (Int32)) (p0 : St) (x1 : Int32) (x2 : Int32) (x3 : Int32) : Option (Int32) :=
  k2 x1 x2 (x3 + 1)
set_option maxHeartbeats 4000000 in
set_option maxRecDepth 100000 in
theorem k_P_handlerOf_32 {k2 : Int32 → Int32 → Int32 → Option (Int32)} {p0 : St} {x1 : Int32} {x2 : Int32} {x3 : Int32} {r : Int32} (X : sr_X D (tP t) b_P_handlerOf 4 R_P w_P_handlerOf p s m args meth c A (some .int)) (hk2 : ∀ (x1 : Int32) (x2 : Int32) (x3 : Int32) (H : Heap) (locs : List Loc) (ls : Array Slot), sr_Z D A s.heap (wP h t p0) H locs → lv_has ls 4 [(0, .ref (h 0)), (1, .int x1), (2, .int x2), (3, .int x3)] → k2 x1 x2 x3 = some r → W p l e (sr_rm 0 0) s m args below meth c H locs 0 0 (sr_Qi D (tP t) below args s A (wP h t p0) r) (F0 m 2 ls [])) (Z : sr_Z D A s.heap (wP h t p0) H locs) (hl : lv_has ls 4 [(0, .ref (h 0)), (1, .int x1), (2, .int x2), (3, .int x3)]) (hf : f_P_handlerOf_32 k2 p0 x1 x2 x3 = some r) : W p l e (sr_rm 0 0) s m args below meth c H locs 0 0 (sr_Qi D (tP t) below args s A (wP h t p0) r) (F0 m 32 ls []) := by
  have hx := X.1
  have hb := X.2.1
  have hK := X.2.2.2.2.2.2.1
  unfold f_P_handlerOf_32 at hf
  refine lv_iinc (k := 3) (v := x3 + 1) (lv' := [(3, .int (x3 + 1)), (0, .ref (h 0)), (1, .int x1), (2, .int x2)]) hx hb d_P_handlerOf_32 hl rfl rfl (by decide) rfl (fun ls hl => ?_)
  refine lv_goto (tgt := 2) hx hb d_P_handlerOf_35 rfl ?_
  exact hk2 x1 x2 (x3 + 1) _ _ _ Z (lv_sub hl [1, 2, 3, 0] rfl) hf
def f_P_handlerOf_2 (k2 : Int32 → Int32 → Int32 → Option (Int32)) (p0 : St) (x1 : Int32) (x2 : Int32) (x3 : Int32) : Option (Int32) :=
  if (p0 10 0) ≤ x3 then
    some (-1)
  else
    (sr_ald 24 (p0 0) x3).bind fun v_2 =>
    if v_2 = x1 then
      (sr_ald 24 (p0 1) x3).bind fun v_5 =>
      if v_5 = x2 then
        some x3
      else
        f_P_handlerOf_32 k2 p0 x1 x2 x3
    else
      f_P_handlerOf_32 k2 p0 x1 x2 x3
set_option maxHeartbeats 4000000 in
set_option maxRecDepth 100000 in
theorem k_P_handlerOf_2 {k2 : Int32 → Int32 → Int32 → Option (Int32)} {p0 : St} {x1 : Int32} {x2 : Int32} {x3 : Int32} {r : Int32} (X : sr_X D (tP t) b_P_handlerOf 4 R_P w_P_handlerOf p s m args meth c A (some .int)) (hk2 : ∀ (x1 : Int32) (x2 : Int32) (x3 : Int32) (H : Heap) (locs : List Loc) (ls : Array Slot), sr_Z D A s.heap (wP h t p0) H locs → lv_has ls 4 [(0, .ref (h 0)), (1, .int x1), (2, .int x2), (3, .int x3)] → k2 x1 x2 x3 = some r → W p l e (sr_rm 0 0) s m args below meth c H locs 0 0 (sr_Qi D (tP t) below args s A (wP h t p0) r) (F0 m 2 ls [])) (Z : sr_Z D A s.heap (wP h t p0) H locs) (hl : lv_has ls 4 [(0, .ref (h 0)), (1, .int x1), (2, .int x2), (3, .int x3)]) (hf : f_P_handlerOf_2 k2 p0 x1 x2 x3 = some r) : W p l e (sr_rm 0 0) s m args below meth c H locs 0 0 (sr_Qi D (tP t) below args s A (wP h t p0) r) (F0 m 2 ls []) := by
  have hx := X.1
  have hb := X.2.1
  have hK := X.2.2.2.2.2.2.1
  unfold f_P_handlerOf_2 at hf
  refine lv_iload_n hx hb d_P_handlerOf_2 rfl (lv_at hl 3 rfl) ?_
  refine lv_aload_n hx hb d_P_handlerOf_3 rfl (lv_at hl 0 rfl) ?_
  refine g_P_54_P X Z d_P_handlerOf_4 ?_
  refine lv_icmp_ge (tgt := 38) hx hb d_P_handlerOf_7 rfl (fun q_1 => ?_) (fun q_1 => ?_)
  · have hf := sr_it q_1 hf
    refine lv_iconst (v := -1) hx hb d_P_handlerOf_38 (by decide) ?_
    cases hf
    exact sr_reti X Z d_P_handlerOf_39
  · have hf := sr_if q_1 hf
    refine lv_aload_n hx hb d_P_handlerOf_10 rfl (lv_at hl 0 rfl) ?_
    refine g_P_9_P X Z d_P_handlerOf_11 ?_
    refine lv_iload_n hx hb d_P_handlerOf_14 rfl (lv_at hl 3 rfl) ?_
    obtain ⟨v_2, e_3, hf⟩ := sr_b hf
    refine sr_iald hx hb hK Z 1 0 rfl rfl e_3 d_P_handlerOf_15 ?_
    refine lv_iload_n hx hb d_P_handlerOf_16 rfl (lv_at hl 1 rfl) ?_
    refine lv_icmp_ne (tgt := 32) hx hb d_P_handlerOf_17 rfl (fun q_4 => ?_) (fun q_4 => ?_)
    · have hf := sr_if q_4 hf
      exact k_P_handlerOf_32 X hk2 Z (lv_sub hl [0, 1, 2, 3] rfl) hf
    · have hf := sr_it q_4 hf
      refine lv_aload_n hx hb d_P_handlerOf_20 rfl (lv_at hl 0 rfl) ?_
      refine g_P_15_P X Z d_P_handlerOf_21 ?_
      refine lv_iload_n hx hb d_P_handlerOf_24 rfl (lv_at hl 3 rfl) ?_
      obtain ⟨v_5, e_6, hf⟩ := sr_b hf
      refine sr_iald hx hb hK Z 2 1 rfl rfl e_6 d_P_handlerOf_25 ?_
      refine lv_iload_n hx hb d_P_handlerOf_26 rfl (lv_at hl 2 rfl) ?_
      refine lv_icmp_ne (tgt := 32) hx hb d_P_handlerOf_27 rfl (fun q_7 => ?_) (fun q_7 => ?_)
      · have hf := sr_if q_7 hf
        exact k_P_handlerOf_32 X hk2 Z (lv_sub hl [0, 1, 2, 3] rfl) hf
      · have hf := sr_it q_7 hf
        refine lv_iload_n hx hb d_P_handlerOf_30 rfl (lv_at hl 3 rfl) ?_
        cases hf
        exact sr_reti X Z d_P_handlerOf_31
def f_P_handlerOf_2_it (p0 : St) : Nat → Int32 → Int32 → Int32 → Option (Int32)
  | 0 => fun _ _ _ => none
  | n + 1 => fun x1 x2 x3 => f_P_handlerOf_2 (f_P_handlerOf_2_it p0 n) p0 x1 x2 x3
set_option maxHeartbeats 4000000 in
set_option maxRecDepth 100000 in
theorem k_P_handlerOf_2_it {p0 : St} {r : Int32} (X : sr_X D (tP t) b_P_handlerOf 4 R_P w_P_handlerOf p s m args meth c A (some .int)) (n : Nat) : ∀ {x1 : Int32} {x2 : Int32} {x3 : Int32} {H : Heap} {locs : List Loc} {ls : Array Slot}, sr_Z D A s.heap (wP h t p0) H locs → lv_has ls 4 [(0, .ref (h 0)), (1, .int x1), (2, .int x2), (3, .int x3)] → f_P_handlerOf_2_it p0 n x1 x2 x3 = some r → W p l e (sr_rm 0 0) s m args below meth c H locs 0 0 (sr_Qi D (tP t) below args s A (wP h t p0) r) (F0 m 2 ls []) := by
  induction n with
  | zero => intro x1 x2 x3 H locs ls Z hl hf; exact absurd hf (by simp [f_P_handlerOf_2_it])
  | succ n ih =>
    intro x1 x2 x3 H locs ls Z hl hf
    exact k_P_handlerOf_2 X (fun x1 x2 x3 H locs ls Z hl hf => ih Z hl hf) Z hl hf
def f_P_handlerOf (p0 : St) (x1 : Int32) (x2 : Int32) : Option (Int32) :=
  f_P_handlerOf_2_it p0 60 x1 x2 0
set_option maxHeartbeats 4000000 in
set_option maxRecDepth 100000 in
theorem k_P_handlerOf_0 {p0 : St} {x1 : Int32} {x2 : Int32} {r : Int32} (X : sr_X D (tP t) b_P_handlerOf 4 R_P w_P_handlerOf p s m args meth c A (some .int)) (Z : sr_Z D A s.heap (wP h t p0) H locs) (hl : lv_has ls 4 [(0, .ref (h 0)), (1, .int x1), (2, .int x2)]) (hf : f_P_handlerOf p0 x1 x2 = some r) : W p l e (sr_rm 0 0) s m args below meth c H locs 0 0 (sr_Qi D (tP t) below args s A (wP h t p0) r) (F0 m 0 ls []) := by
  have hx := X.1
  have hb := X.2.1
  have hK := X.2.2.2.2.2.2.1
  unfold f_P_handlerOf at hf
  refine lv_iconst (v := 0) hx hb d_P_handlerOf_0 (by decide) ?_
  refine lv_istore_n (lv' := [(3, .int 0), (0, .ref (h 0)), (1, .int x1), (2, .int x2)]) hx hb d_P_handlerOf_1 rfl hl (by decide) rfl (fun ls hl => ?_)
  exact k_P_handlerOf_2_it X _ Z (lv_sub hl [1, 2, 3, 0] rfl) hf
end
set_option maxHeartbeats 4000000 in
set_option maxRecDepth 100000 in
theorem c_P_handlerOf {l : Launch} {D : va_G} {h : Nat → Nat} {t : Nat → ClassId} {sz : Nat} {p0 : St} {x1 : Int32} {x2 : Int32} {r : Int32} (hf : f_P_handlerOf p0 x1 x2 = some r) : sr_Ci l y_P_handlerOf w_P_handlerOf (sr_rm 0 0) D (tP t) (wP h t p0) (wP h t p0) sz [.ref (h 0), .int x1, .int x2] r := by
  refine Met.ofW (cc := b_P_handlerOf) (maxL := 4) (ret := (some .int)) (by decide) rfl ?_
  intro p e s m args below meth c s₁ B hml hv
  obtain ⟨rfl, hsz, hP, hK, hD0⟩ := hv
  subst hsz
  have X : sr_X D (tP t) b_P_handlerOf 4 R_P w_P_handlerOf p s m _ meth c (va_A (wP h t p0) s.heap.size) (some .int) := ⟨B.exec, B.bytes, hml, findClass_of_methodNamed B.named, B.notSynchronized, atoms_spec (ws := w_P_handlerOf) B.pre, hK, fun q h => Or.inr h, B.returns⟩
  have Z : sr_Z D (va_A (wP h t p0) s.heap.size) s.heap (wP h t p0) s.heap [] := ⟨hP, hD0.self, va_S.rf⟩
  have hl := lv_entry ([.ref (h 0), .int x1, .int x2] : List Value) (n := 4) (Nat.le_of_ble_eq_true rfl)
  rw [lg_entry_eq]
  exact k_P_handlerOf_0 X Z hl hf
/-! P_hasPlaceFor -/
theorem d_P_hasPlaceFor_0 : decode b_P_hasPlaceFor 0 = .ok (.aload_n 0, 1) := by decide +kernel
theorem d_P_hasPlaceFor_1 : decode b_P_hasPlaceFor 1 = .ok (.getfield 54, 3) := by decide +kernel
theorem d_P_hasPlaceFor_4 : decode b_P_hasPlaceFor 4 = .ok (.ifCond .ne 24, 3) := by decide +kernel
theorem d_P_hasPlaceFor_7 : decode b_P_hasPlaceFor 7 = .ok (.iload_n 1, 1) := by decide +kernel
theorem d_P_hasPlaceFor_8 : decode b_P_hasPlaceFor 8 = .ok (.iconst (-1), 1) := by decide +kernel
theorem d_P_hasPlaceFor_9 : decode b_P_hasPlaceFor 9 = .ok (.if_icmp .ne 17, 3) := by decide +kernel
theorem d_P_hasPlaceFor_12 : decode b_P_hasPlaceFor 12 = .ok (.iload_n 2, 1) := by decide +kernel
theorem d_P_hasPlaceFor_13 : decode b_P_hasPlaceFor 13 = .ok (.ifCond .ne 13, 3) := by decide +kernel
theorem d_P_hasPlaceFor_16 : decode b_P_hasPlaceFor 16 = .ok (.iload_n 3, 1) := by decide +kernel
theorem d_P_hasPlaceFor_17 : decode b_P_hasPlaceFor 17 = .ok (.bipush 12, 2) := by decide +kernel
theorem d_P_hasPlaceFor_19 : decode b_P_hasPlaceFor 19 = .ok (.if_icmp .ne 7, 3) := by decide +kernel
theorem d_P_hasPlaceFor_22 : decode b_P_hasPlaceFor 22 = .ok (.iconst 1, 1) := by decide +kernel
theorem d_P_hasPlaceFor_23 : decode b_P_hasPlaceFor 23 = .ok (.goto 4, 3) := by decide +kernel
theorem d_P_hasPlaceFor_26 : decode b_P_hasPlaceFor 26 = .ok (.iconst 0, 1) := by decide +kernel
theorem d_P_hasPlaceFor_27 : decode b_P_hasPlaceFor 27 = .ok (.ireturn, 1) := by decide +kernel
theorem d_P_hasPlaceFor_28 : decode b_P_hasPlaceFor 28 = .ok (.aload_n 0, 1) := by decide +kernel
theorem d_P_hasPlaceFor_29 : decode b_P_hasPlaceFor 29 = .ok (.getfield 54, 3) := by decide +kernel
theorem d_P_hasPlaceFor_32 : decode b_P_hasPlaceFor 32 = .ok (.bipush 24, 2) := by decide +kernel
theorem d_P_hasPlaceFor_34 : decode b_P_hasPlaceFor 34 = .ok (.if_icmp .ge 22, 3) := by decide +kernel
theorem d_P_hasPlaceFor_37 : decode b_P_hasPlaceFor 37 = .ok (.aload_n 0, 1) := by decide +kernel
theorem d_P_hasPlaceFor_38 : decode b_P_hasPlaceFor 38 = .ok (.iload_n 1, 1) := by decide +kernel
theorem d_P_hasPlaceFor_39 : decode b_P_hasPlaceFor 39 = .ok (.invokevirtual 58, 3) := by decide +kernel
theorem d_P_hasPlaceFor_42 : decode b_P_hasPlaceFor 42 = .ok (.ifCond .eq 14, 3) := by decide +kernel
theorem d_P_hasPlaceFor_45 : decode b_P_hasPlaceFor 45 = .ok (.aload_n 0, 1) := by decide +kernel
theorem d_P_hasPlaceFor_46 : decode b_P_hasPlaceFor 46 = .ok (.getfield 18, 3) := by decide +kernel
theorem d_P_hasPlaceFor_49 : decode b_P_hasPlaceFor 49 = .ok (.iload_n 1, 1) := by decide +kernel
theorem d_P_hasPlaceFor_50 : decode b_P_hasPlaceFor 50 = .ok (.iaload, 1) := by decide +kernel
theorem d_P_hasPlaceFor_51 : decode b_P_hasPlaceFor 51 = .ok (.bipush 8, 2) := by decide +kernel
theorem d_P_hasPlaceFor_53 : decode b_P_hasPlaceFor 53 = .ok (.if_icmp .ge 5, 3) := by decide +kernel
theorem d_P_hasPlaceFor_56 : decode b_P_hasPlaceFor 56 = .ok (.iconst 0, 1) := by decide +kernel
theorem d_P_hasPlaceFor_57 : decode b_P_hasPlaceFor 57 = .ok (.ireturn, 1) := by decide +kernel
theorem d_P_hasPlaceFor_58 : decode b_P_hasPlaceFor 58 = .ok (.iload_n 2, 1) := by decide +kernel
theorem d_P_hasPlaceFor_59 : decode b_P_hasPlaceFor 59 = .ok (.iconst 1, 1) := by decide +kernel
theorem d_P_hasPlaceFor_60 : decode b_P_hasPlaceFor 60 = .ok (.if_icmp .eq 8, 3) := by decide +kernel
theorem d_P_hasPlaceFor_63 : decode b_P_hasPlaceFor 63 = .ok (.iload_n 2, 1) := by decide +kernel
theorem d_P_hasPlaceFor_64 : decode b_P_hasPlaceFor 64 = .ok (.iconst 2, 1) := by decide +kernel
theorem d_P_hasPlaceFor_65 : decode b_P_hasPlaceFor 65 = .ok (.if_icmp .ne 30, 3) := by decide +kernel
theorem d_P_hasPlaceFor_68 : decode b_P_hasPlaceFor 68 = .ok (.aload_n 0, 1) := by decide +kernel
theorem d_P_hasPlaceFor_69 : decode b_P_hasPlaceFor 69 = .ok (.getfield 18, 3) := by decide +kernel
theorem d_P_hasPlaceFor_72 : decode b_P_hasPlaceFor 72 = .ok (.iload_n 1, 1) := by decide +kernel
theorem d_P_hasPlaceFor_73 : decode b_P_hasPlaceFor 73 = .ok (.iaload, 1) := by decide +kernel
theorem d_P_hasPlaceFor_74 : decode b_P_hasPlaceFor 74 = .ok (.bipush 12, 2) := by decide +kernel
theorem d_P_hasPlaceFor_76 : decode b_P_hasPlaceFor 76 = .ok (.if_icmp .ne 17, 3) := by decide +kernel
theorem d_P_hasPlaceFor_79 : decode b_P_hasPlaceFor 79 = .ok (.aload_n 0, 1) := by decide +kernel
theorem d_P_hasPlaceFor_80 : decode b_P_hasPlaceFor 80 = .ok (.iload_n 1, 1) := by decide +kernel
theorem d_P_hasPlaceFor_81 : decode b_P_hasPlaceFor 81 = .ok (.iload_n 2, 1) := by decide +kernel
theorem d_P_hasPlaceFor_82 : decode b_P_hasPlaceFor 82 = .ok (.invokevirtual 64, 3) := by decide +kernel
theorem d_P_hasPlaceFor_85 : decode b_P_hasPlaceFor 85 = .ok (.iconst (-1), 1) := by decide +kernel
theorem d_P_hasPlaceFor_86 : decode b_P_hasPlaceFor 86 = .ok (.if_icmp .ne 7, 3) := by decide +kernel
theorem d_P_hasPlaceFor_89 : decode b_P_hasPlaceFor 89 = .ok (.iconst 1, 1) := by decide +kernel
theorem d_P_hasPlaceFor_90 : decode b_P_hasPlaceFor 90 = .ok (.goto 4, 3) := by decide +kernel
theorem d_P_hasPlaceFor_93 : decode b_P_hasPlaceFor 93 = .ok (.iconst 0, 1) := by decide +kernel
theorem d_P_hasPlaceFor_94 : decode b_P_hasPlaceFor 94 = .ok (.ireturn, 1) := by decide +kernel
theorem d_P_hasPlaceFor_95 : decode b_P_hasPlaceFor 95 = .ok (.iload_n 2, 1) := by decide +kernel
theorem d_P_hasPlaceFor_96 : decode b_P_hasPlaceFor 96 = .ok (.ifCond .ne 7, 3) := by decide +kernel
theorem d_P_hasPlaceFor_99 : decode b_P_hasPlaceFor 99 = .ok (.iconst 1, 1) := by decide +kernel
theorem d_P_hasPlaceFor_100 : decode b_P_hasPlaceFor 100 = .ok (.goto 4, 3) := by decide +kernel
theorem d_P_hasPlaceFor_103 : decode b_P_hasPlaceFor 103 = .ok (.iconst 0, 1) := by decide +kernel
theorem d_P_hasPlaceFor_104 : decode b_P_hasPlaceFor 104 = .ok (.ireturn, 1) := by decide +kernel
section
variable {p : Program} {l : Launch} {e : Env} {s : State} {m : MethodId} {args : Array Value} {below : List Frame} {meth : Method} {c : Code} {H : Heap} {locs : List Loc} {ls : Array Slot} {D : va_G} {A : Nat → Prop} {h o : Nat → Nat} {t v : Nat → ClassId}
def f_P_hasPlaceFor_68 (p0 : St) (x1 : Int32) (x2 : Int32) : Option (Int32) :=
  (sr_ald 24 (p0 2) x1).bind fun v_10 =>
  if v_10 = 12 then
    (f_P_handlerOf p0 x1 x2).bind fun v_13 =>
    if v_13 = (-1) then
      some 1
    else
      some 0
  else
    some 0
set_option maxHeartbeats 4000000 in
set_option maxRecDepth 100000 in
theorem k_P_hasPlaceFor_68 {p0 : St} {x1 : Int32} {x2 : Int32} {r : Int32} (X : sr_X D (tP t) b_P_hasPlaceFor 4 R_P w_P_hasPlaceFor p s m args meth c A (some .boolean)) (Z : sr_Z D A s.heap (wP h t p0) H locs) (hl : lv_has ls 4 [(0, .ref (h 0)), (1, .int x1), (2, .int x2)]) (hf : f_P_hasPlaceFor_68 p0 x1 x2 = some r) : W p l e (sr_rm 1 23) s m args below meth c H locs 0 0 (sr_Qi D (tP t) below args s A (wP h t p0) r) (F0 m 68 ls []) := by
  have hx := X.1
  have hb := X.2.1
  have hK := X.2.2.2.2.2.2.1
  unfold f_P_hasPlaceFor_68 at hf
  refine lv_aload_n hx hb d_P_hasPlaceFor_68 rfl (lv_at hl 0 rfl) ?_
  refine g_P_18_P X Z d_P_hasPlaceFor_69 ?_
  refine lv_iload_n hx hb d_P_hasPlaceFor_72 rfl (lv_at hl 1 rfl) ?_
  obtain ⟨v_10, e_11, hf⟩ := sr_b hf
  refine sr_iald hx hb hK Z 3 2 rfl rfl e_11 d_P_hasPlaceFor_73 ?_
  refine lv_bipush (v := 12) hx hb d_P_hasPlaceFor_74 (by decide) ?_
  refine lv_icmp_ne (tgt := 93) hx hb d_P_hasPlaceFor_76 rfl (fun q_12 => ?_) (fun q_12 => ?_)
  · have hf := sr_if q_12 hf
    refine lv_iconst (v := 0) hx hb d_P_hasPlaceFor_93 (by decide) ?_
    cases hf
    exact sr_retz X Z (by decide) d_P_hasPlaceFor_94
  · have hf := sr_it q_12 hf
    refine lv_aload_n hx hb d_P_hasPlaceFor_79 rfl (lv_at hl 0 rfl) ?_
    refine lv_iload_n hx hb d_P_hasPlaceFor_80 rfl (lv_at hl 1 rfl) ?_
    refine lv_iload_n hx hb d_P_hasPlaceFor_81 rfl (lv_at hl 2 rfl) ?_
    obtain ⟨v_13, e_14, hf⟩ := sr_b hf
    refine sr_cVi (As := [.int x1, .int x2]) (rest := []) X Z sr_cut_self hK (c_P_handlerOf e_14) (cw_P_64 X.2.2.2.2.2.1 (by decide)) 0 rfl rfl rfl hl rfl (Nat.le_of_ble_eq_true rfl) d_P_hasPlaceFor_82 (fun H locs Z => ?_)
    refine lv_iconst (v := -1) hx hb d_P_hasPlaceFor_85 (by decide) ?_
    refine lv_icmp_ne (tgt := 93) hx hb d_P_hasPlaceFor_86 rfl (fun q_15 => ?_) (fun q_15 => ?_)
    · have hf := sr_if q_15 hf
      refine lv_iconst (v := 0) hx hb d_P_hasPlaceFor_93 (by decide) ?_
      cases hf
      exact sr_retz X Z (by decide) d_P_hasPlaceFor_94
    · have hf := sr_it q_15 hf
      refine lv_iconst (v := 1) hx hb d_P_hasPlaceFor_89 (by decide) ?_
      refine lv_goto (tgt := 94) hx hb d_P_hasPlaceFor_90 rfl ?_
      cases hf
      exact sr_retz X Z (by decide) d_P_hasPlaceFor_94
def f_P_hasPlaceFor (p0 : St) (x1 : Int32) (x2 : Int32) (x3 : Int32) : Option (Int32) :=
  if (p0 10 0) = 0 then
    if x1 = (-1) then
      if x2 = 0 then
        if x3 = 12 then
          some 1
        else
          some 0
      else
        some 0
    else
      some 0
  else
    if 24 ≤ (p0 10 0) then
      some 0
    else
      (f_P_hasActivity p0 x1).bind fun v_3 =>
      if v_3 = 0 then
        some 0
      else
        (sr_ald 24 (p0 2) x1).bind fun v_6 =>
        if 8 ≤ v_6 then
          if x2 = 1 then
            f_P_hasPlaceFor_68 p0 x1 x2
          else
            if x2 = 2 then
              f_P_hasPlaceFor_68 p0 x1 x2
            else
              if x2 = 0 then
                some 1
              else
                some 0
        else
          some 0
set_option maxHeartbeats 4000000 in
set_option maxRecDepth 100000 in
theorem k_P_hasPlaceFor_0 {p0 : St} {x1 : Int32} {x2 : Int32} {x3 : Int32} {r : Int32} (X : sr_X D (tP t) b_P_hasPlaceFor 4 R_P w_P_hasPlaceFor p s m args meth c A (some .boolean)) (Z : sr_Z D A s.heap (wP h t p0) H locs) (hl : lv_has ls 4 [(0, .ref (h 0)), (1, .int x1), (2, .int x2), (3, .int x3)]) (hf : f_P_hasPlaceFor p0 x1 x2 x3 = some r) : W p l e (sr_rm 1 23) s m args below meth c H locs 0 0 (sr_Qi D (tP t) below args s A (wP h t p0) r) (F0 m 0 ls []) := by
  have hx := X.1
  have hb := X.2.1
  have hK := X.2.2.2.2.2.2.1
  unfold f_P_hasPlaceFor at hf
  refine lv_aload_n hx hb d_P_hasPlaceFor_0 rfl (lv_at hl 0 rfl) ?_
  refine g_P_54_P X Z d_P_hasPlaceFor_1 ?_
  refine lv_if_ne (tgt := 28) hx hb d_P_hasPlaceFor_4 rfl (fun q_1 => ?_) (fun q_1 => ?_)
  · have hf := sr_if q_1 hf
    refine lv_aload_n hx hb d_P_hasPlaceFor_28 rfl (lv_at hl 0 rfl) ?_
    refine g_P_54_P X Z d_P_hasPlaceFor_29 ?_
    refine lv_bipush (v := 24) hx hb d_P_hasPlaceFor_32 (by decide) ?_
    refine lv_icmp_ge (tgt := 56) hx hb d_P_hasPlaceFor_34 rfl (fun q_2 => ?_) (fun q_2 => ?_)
    · have hf := sr_it q_2 hf
      refine lv_iconst (v := 0) hx hb d_P_hasPlaceFor_56 (by decide) ?_
      cases hf
      exact sr_retz X Z (by decide) d_P_hasPlaceFor_57
    · have hf := sr_if q_2 hf
      refine lv_aload_n hx hb d_P_hasPlaceFor_37 rfl (lv_at hl 0 rfl) ?_
      refine lv_iload_n hx hb d_P_hasPlaceFor_38 rfl (lv_at hl 1 rfl) ?_
      obtain ⟨v_3, e_4, hf⟩ := sr_b hf
      refine sr_cVi (As := [.int x1]) (rest := []) X Z sr_cut_self hK (c_P_hasActivity e_4) (cw_P_58 X.2.2.2.2.2.1 (by decide)) 0 rfl rfl rfl hl rfl (Nat.le_of_ble_eq_true rfl) d_P_hasPlaceFor_39 (fun H locs Z => ?_)
      refine lv_if_eq (tgt := 56) hx hb d_P_hasPlaceFor_42 rfl (fun q_5 => ?_) (fun q_5 => ?_)
      · have hf := sr_it q_5 hf
        refine lv_iconst (v := 0) hx hb d_P_hasPlaceFor_56 (by decide) ?_
        cases hf
        exact sr_retz X Z (by decide) d_P_hasPlaceFor_57
      · have hf := sr_if q_5 hf
        refine lv_aload_n hx hb d_P_hasPlaceFor_45 rfl (lv_at hl 0 rfl) ?_
        refine g_P_18_P X Z d_P_hasPlaceFor_46 ?_
        refine lv_iload_n hx hb d_P_hasPlaceFor_49 rfl (lv_at hl 1 rfl) ?_
        obtain ⟨v_6, e_7, hf⟩ := sr_b hf
        refine sr_iald hx hb hK Z 3 2 rfl rfl e_7 d_P_hasPlaceFor_50 ?_
        refine lv_bipush (v := 8) hx hb d_P_hasPlaceFor_51 (by decide) ?_
        refine lv_icmp_ge (tgt := 58) hx hb d_P_hasPlaceFor_53 rfl (fun q_8 => ?_) (fun q_8 => ?_)
        · have hf := sr_it q_8 hf
          refine lv_iload_n hx hb d_P_hasPlaceFor_58 rfl (lv_at hl 2 rfl) ?_
          refine lv_iconst (v := 1) hx hb d_P_hasPlaceFor_59 (by decide) ?_
          refine lv_icmp_eq (tgt := 68) hx hb d_P_hasPlaceFor_60 rfl (fun q_9 => ?_) (fun q_9 => ?_)
          · have hf := sr_it q_9 hf
            exact k_P_hasPlaceFor_68 X Z (lv_sub hl [0, 1, 2] rfl) hf
          · have hf := sr_if q_9 hf
            refine lv_iload_n hx hb d_P_hasPlaceFor_63 rfl (lv_at hl 2 rfl) ?_
            refine lv_iconst (v := 2) hx hb d_P_hasPlaceFor_64 (by decide) ?_
            refine lv_icmp_ne (tgt := 95) hx hb d_P_hasPlaceFor_65 rfl (fun q_16 => ?_) (fun q_16 => ?_)
            · have hf := sr_if q_16 hf
              refine lv_iload_n hx hb d_P_hasPlaceFor_95 rfl (lv_at hl 2 rfl) ?_
              refine lv_if_ne (tgt := 103) hx hb d_P_hasPlaceFor_96 rfl (fun q_17 => ?_) (fun q_17 => ?_)
              · have hf := sr_if q_17 hf
                refine lv_iconst (v := 0) hx hb d_P_hasPlaceFor_103 (by decide) ?_
                cases hf
                exact sr_retz X Z (by decide) d_P_hasPlaceFor_104
              · have hf := sr_it q_17 hf
                refine lv_iconst (v := 1) hx hb d_P_hasPlaceFor_99 (by decide) ?_
                refine lv_goto (tgt := 104) hx hb d_P_hasPlaceFor_100 rfl ?_
                cases hf
                exact sr_retz X Z (by decide) d_P_hasPlaceFor_104
            · have hf := sr_it q_16 hf
              exact k_P_hasPlaceFor_68 X Z (lv_sub hl [0, 1, 2] rfl) hf
        · have hf := sr_if q_8 hf
          refine lv_iconst (v := 0) hx hb d_P_hasPlaceFor_56 (by decide) ?_
          cases hf
          exact sr_retz X Z (by decide) d_P_hasPlaceFor_57
  · have hf := sr_it q_1 hf
    refine lv_iload_n hx hb d_P_hasPlaceFor_7 rfl (lv_at hl 1 rfl) ?_
    refine lv_iconst (v := -1) hx hb d_P_hasPlaceFor_8 (by decide) ?_
    refine lv_icmp_ne (tgt := 26) hx hb d_P_hasPlaceFor_9 rfl (fun q_18 => ?_) (fun q_18 => ?_)
    · have hf := sr_if q_18 hf
      refine lv_iconst (v := 0) hx hb d_P_hasPlaceFor_26 (by decide) ?_
      cases hf
      exact sr_retz X Z (by decide) d_P_hasPlaceFor_27
    · have hf := sr_it q_18 hf
      refine lv_iload_n hx hb d_P_hasPlaceFor_12 rfl (lv_at hl 2 rfl) ?_
      refine lv_if_ne (tgt := 26) hx hb d_P_hasPlaceFor_13 rfl (fun q_19 => ?_) (fun q_19 => ?_)
      · have hf := sr_if q_19 hf
        refine lv_iconst (v := 0) hx hb d_P_hasPlaceFor_26 (by decide) ?_
        cases hf
        exact sr_retz X Z (by decide) d_P_hasPlaceFor_27
      · have hf := sr_it q_19 hf
        refine lv_iload_n hx hb d_P_hasPlaceFor_16 rfl (lv_at hl 3 rfl) ?_
        refine lv_bipush (v := 12) hx hb d_P_hasPlaceFor_17 (by decide) ?_
        refine lv_icmp_ne (tgt := 26) hx hb d_P_hasPlaceFor_19 rfl (fun q_20 => ?_) (fun q_20 => ?_)
        · have hf := sr_if q_20 hf
          refine lv_iconst (v := 0) hx hb d_P_hasPlaceFor_26 (by decide) ?_
          cases hf
          exact sr_retz X Z (by decide) d_P_hasPlaceFor_27
        · have hf := sr_it q_20 hf
          refine lv_iconst (v := 1) hx hb d_P_hasPlaceFor_22 (by decide) ?_
          refine lv_goto (tgt := 27) hx hb d_P_hasPlaceFor_23 rfl ?_
          cases hf
          exact sr_retz X Z (by decide) d_P_hasPlaceFor_27
end
set_option maxHeartbeats 4000000 in
set_option maxRecDepth 100000 in
theorem c_P_hasPlaceFor {l : Launch} {D : va_G} {h : Nat → Nat} {t : Nat → ClassId} {sz : Nat} {p0 : St} {x1 : Int32} {x2 : Int32} {x3 : Int32} {r : Int32} (hf : f_P_hasPlaceFor p0 x1 x2 x3 = some r) : sr_Ci l y_P_hasPlaceFor w_P_hasPlaceFor (sr_rm 1 23) D (tP t) (wP h t p0) (wP h t p0) sz [.ref (h 0), .int x1, .int x2, .int x3] r := by
  refine Met.ofW (cc := b_P_hasPlaceFor) (maxL := 4) (ret := (some .boolean)) (by decide) rfl ?_
  intro p e s m args below meth c s₁ B hml hv
  obtain ⟨rfl, hsz, hP, hK, hD0⟩ := hv
  subst hsz
  have X : sr_X D (tP t) b_P_hasPlaceFor 4 R_P w_P_hasPlaceFor p s m _ meth c (va_A (wP h t p0) s.heap.size) (some .boolean) := ⟨B.exec, B.bytes, hml, findClass_of_methodNamed B.named, B.notSynchronized, atoms_spec (ws := w_P_hasPlaceFor) B.pre, hK, fun q h => Or.inr h, B.returns⟩
  have Z : sr_Z D (va_A (wP h t p0) s.heap.size) s.heap (wP h t p0) s.heap [] := ⟨hP, hD0.self, va_S.rf⟩
  have hl := lv_entry ([.ref (h 0), .int x1, .int x2, .int x3] : List Value) (n := 4) (Nat.le_of_ble_eq_true rfl)
  rw [lg_entry_eq]
  exact k_P_hasPlaceFor_0 X Z hl hf
/-! P_append -/
theorem d_P_append_0 : decode b_P_append 0 = .ok (.aload_n 0, 1) := by decide +kernel
theorem d_P_append_1 : decode b_P_append 1 = .ok (.getfield 54, 3) := by decide +kernel
theorem d_P_append_4 : decode b_P_append 4 = .ok (.istore 6, 2) := by decide +kernel
theorem d_P_append_6 : decode b_P_append 6 = .ok (.aload_n 0, 1) := by decide +kernel
theorem d_P_append_7 : decode b_P_append 7 = .ok (.getfield 9, 3) := by decide +kernel
theorem d_P_append_10 : decode b_P_append 10 = .ok (.iload 6, 2) := by decide +kernel
theorem d_P_append_12 : decode b_P_append 12 = .ok (.iload_n 1, 1) := by decide +kernel
theorem d_P_append_13 : decode b_P_append 13 = .ok (.iastore, 1) := by decide +kernel
theorem d_P_append_14 : decode b_P_append 14 = .ok (.aload_n 0, 1) := by decide +kernel
theorem d_P_append_15 : decode b_P_append 15 = .ok (.getfield 15, 3) := by decide +kernel
theorem d_P_append_18 : decode b_P_append 18 = .ok (.iload 6, 2) := by decide +kernel
theorem d_P_append_20 : decode b_P_append 20 = .ok (.iload_n 2, 1) := by decide +kernel
theorem d_P_append_21 : decode b_P_append 21 = .ok (.iastore, 1) := by decide +kernel
theorem d_P_append_22 : decode b_P_append 22 = .ok (.aload_n 0, 1) := by decide +kernel
theorem d_P_append_23 : decode b_P_append 23 = .ok (.getfield 18, 3) := by decide +kernel
theorem d_P_append_26 : decode b_P_append 26 = .ok (.iload 6, 2) := by decide +kernel
theorem d_P_append_28 : decode b_P_append 28 = .ok (.iload_n 3, 1) := by decide +kernel
theorem d_P_append_29 : decode b_P_append 29 = .ok (.iastore, 1) := by decide +kernel
theorem d_P_append_30 : decode b_P_append 30 = .ok (.aload_n 0, 1) := by decide +kernel
theorem d_P_append_31 : decode b_P_append 31 = .ok (.getfield 21, 3) := by decide +kernel
theorem d_P_append_34 : decode b_P_append 34 = .ok (.iload 6, 2) := by decide +kernel
theorem d_P_append_36 : decode b_P_append 36 = .ok (.iload 4, 2) := by decide +kernel
theorem d_P_append_38 : decode b_P_append 38 = .ok (.iastore, 1) := by decide +kernel
theorem d_P_append_39 : decode b_P_append 39 = .ok (.aload_n 0, 1) := by decide +kernel
theorem d_P_append_40 : decode b_P_append 40 = .ok (.getfield 24, 3) := by decide +kernel
theorem d_P_append_43 : decode b_P_append 43 = .ok (.iload 6, 2) := by decide +kernel
theorem d_P_append_45 : decode b_P_append 45 = .ok (.iload 5, 2) := by decide +kernel
theorem d_P_append_47 : decode b_P_append 47 = .ok (.iastore, 1) := by decide +kernel
theorem d_P_append_48 : decode b_P_append 48 = .ok (.aload_n 0, 1) := by decide +kernel
theorem d_P_append_49 : decode b_P_append 49 = .ok (.iload_n 1, 1) := by decide +kernel
theorem d_P_append_50 : decode b_P_append 50 = .ok (.invokevirtual 68, 3) := by decide +kernel
theorem d_P_append_53 : decode b_P_append 53 = .ok (.istore 7, 2) := by decide +kernel
theorem d_P_append_55 : decode b_P_append 55 = .ok (.aload_n 0, 1) := by decide +kernel
theorem d_P_append_56 : decode b_P_append 56 = .ok (.iload_n 1, 1) := by decide +kernel
theorem d_P_append_57 : decode b_P_append 57 = .ok (.invokevirtual 58, 3) := by decide +kernel
theorem d_P_append_60 : decode b_P_append 60 = .ok (.ifCond .eq 12, 3) := by decide +kernel
theorem d_P_append_63 : decode b_P_append 63 = .ok (.iload 7, 2) := by decide +kernel
theorem d_P_append_65 : decode b_P_append 65 = .ok (.ifCond .ne 7, 3) := by decide +kernel
theorem d_P_append_68 : decode b_P_append 68 = .ok (.iconst 1, 1) := by decide +kernel
theorem d_P_append_69 : decode b_P_append 69 = .ok (.goto 4, 3) := by decide +kernel
theorem d_P_append_72 : decode b_P_append 72 = .ok (.iconst 0, 1) := by decide +kernel
theorem d_P_append_73 : decode b_P_append 73 = .ok (.istore 8, 2) := by decide +kernel
theorem d_P_append_75 : decode b_P_append 75 = .ok (.aload_n 0, 1) := by decide +kernel
theorem d_P_append_76 : decode b_P_append 76 = .ok (.getfield 30, 3) := by decide +kernel
theorem d_P_append_79 : decode b_P_append 79 = .ok (.iload 6, 2) := by decide +kernel
theorem d_P_append_81 : decode b_P_append 81 = .ok (.iload 8, 2) := by decide +kernel
theorem d_P_append_83 : decode b_P_append 83 = .ok (.ifCond .eq 12, 3) := by decide +kernel
theorem d_P_append_86 : decode b_P_append 86 = .ok (.aload_n 0, 1) := by decide +kernel
theorem d_P_append_87 : decode b_P_append 87 = .ok (.getfield 30, 3) := by decide +kernel
theorem d_P_append_90 : decode b_P_append 90 = .ok (.iload_n 1, 1) := by decide +kernel
theorem d_P_append_91 : decode b_P_append 91 = .ok (.iaload, 1) := by decide +kernel
theorem d_P_append_92 : decode b_P_append 92 = .ok (.goto 4, 3) := by decide +kernel
theorem d_P_append_95 : decode b_P_append 95 = .ok (.iload_n 1, 1) := by decide +kernel
theorem d_P_append_96 : decode b_P_append 96 = .ok (.iastore, 1) := by decide +kernel
theorem d_P_append_97 : decode b_P_append 97 = .ok (.aload_n 0, 1) := by decide +kernel
theorem d_P_append_98 : decode b_P_append 98 = .ok (.getfield 36, 3) := by decide +kernel
theorem d_P_append_101 : decode b_P_append 101 = .ok (.iload 6, 2) := by decide +kernel
theorem d_P_append_103 : decode b_P_append 103 = .ok (.iload 8, 2) := by decide +kernel
theorem d_P_append_105 : decode b_P_append 105 = .ok (.ifCond .eq 12, 3) := by decide +kernel
theorem d_P_append_108 : decode b_P_append 108 = .ok (.aload_n 0, 1) := by decide +kernel
theorem d_P_append_109 : decode b_P_append 109 = .ok (.getfield 36, 3) := by decide +kernel
theorem d_P_append_112 : decode b_P_append 112 = .ok (.iload_n 1, 1) := by decide +kernel
theorem d_P_append_113 : decode b_P_append 113 = .ok (.iaload, 1) := by decide +kernel
theorem d_P_append_114 : decode b_P_append 114 = .ok (.goto 5, 3) := by decide +kernel
theorem d_P_append_117 : decode b_P_append 117 = .ok (.iload 6, 2) := by decide +kernel
theorem d_P_append_119 : decode b_P_append 119 = .ok (.iastore, 1) := by decide +kernel
theorem d_P_append_120 : decode b_P_append 120 = .ok (.aload_n 0, 1) := by decide +kernel
theorem d_P_append_121 : decode b_P_append 121 = .ok (.getfield 33, 3) := by decide +kernel
theorem d_P_append_124 : decode b_P_append 124 = .ok (.iload 6, 2) := by decide +kernel
theorem d_P_append_126 : decode b_P_append 126 = .ok (.iload_n 2, 1) := by decide +kernel
theorem d_P_append_127 : decode b_P_append 127 = .ok (.ifCond .eq 8, 3) := by decide +kernel
theorem d_P_append_130 : decode b_P_append 130 = .ok (.iload 6, 2) := by decide +kernel
theorem d_P_append_132 : decode b_P_append 132 = .ok (.goto 21, 3) := by decide +kernel
theorem d_P_append_135 : decode b_P_append 135 = .ok (.aload_n 0, 1) := by decide +kernel
theorem d_P_append_136 : decode b_P_append 136 = .ok (.iload_n 1, 1) := by decide +kernel
theorem d_P_append_137 : decode b_P_append 137 = .ok (.invokevirtual 58, 3) := by decide +kernel
theorem d_P_append_140 : decode b_P_append 140 = .ok (.ifCond .eq 12, 3) := by decide +kernel
theorem d_P_append_143 : decode b_P_append 143 = .ok (.aload_n 0, 1) := by decide +kernel
theorem d_P_append_144 : decode b_P_append 144 = .ok (.getfield 33, 3) := by decide +kernel
theorem d_P_append_147 : decode b_P_append 147 = .ok (.iload_n 1, 1) := by decide +kernel
theorem d_P_append_148 : decode b_P_append 148 = .ok (.iaload, 1) := by decide +kernel
theorem d_P_append_149 : decode b_P_append 149 = .ok (.goto 4, 3) := by decide +kernel
theorem d_P_append_152 : decode b_P_append 152 = .ok (.iconst (-1), 1) := by decide +kernel
theorem d_P_append_153 : decode b_P_append 153 = .ok (.iastore, 1) := by decide +kernel
theorem d_P_append_154 : decode b_P_append 154 = .ok (.iconst 0, 1) := by decide +kernel
theorem d_P_append_155 : decode b_P_append 155 = .ok (.istore 9, 2) := by decide +kernel
theorem d_P_append_157 : decode b_P_append 157 = .ok (.iload 9, 2) := by decide +kernel
theorem d_P_append_159 : decode b_P_append 159 = .ok (.iload 6, 2) := by decide +kernel
theorem d_P_append_161 : decode b_P_append 161 = .ok (.if_icmp .ge 37, 3) := by decide +kernel
theorem d_P_append_164 : decode b_P_append 164 = .ok (.iload_n 1, 1) := by decide +kernel
theorem d_P_append_165 : decode b_P_append 165 = .ok (.aload_n 0, 1) := by decide +kernel
theorem d_P_append_166 : decode b_P_append 166 = .ok (.getfield 39, 3) := by decide +kernel
theorem d_P_append_169 : decode b_P_append 169 = .ok (.iload 9, 2) := by decide +kernel
theorem d_P_append_171 : decode b_P_append 171 = .ok (.iaload, 1) := by decide +kernel
theorem d_P_append_172 : decode b_P_append 172 = .ok (.invokestatic 71, 3) := by decide +kernel
theorem d_P_append_175 : decode b_P_append 175 = .ok (.ifCond .eq 17, 3) := by decide +kernel
theorem d_P_append_178 : decode b_P_append 178 = .ok (.aload_n 0, 1) := by decide +kernel
theorem d_P_append_179 : decode b_P_append 179 = .ok (.getfield 39, 3) := by decide +kernel
theorem d_P_append_182 : decode b_P_append 182 = .ok (.iload 9, 2) := by decide +kernel
theorem d_P_append_184 : decode b_P_append 184 = .ok (.dup2, 1) := by decide +kernel
theorem d_P_append_185 : decode b_P_append 185 = .ok (.iaload, 1) := by decide +kernel
theorem d_P_append_186 : decode b_P_append 186 = .ok (.iconst 1, 1) := by decide +kernel
theorem d_P_append_187 : decode b_P_append 187 = .ok (.iload 6, 2) := by decide +kernel
theorem d_P_append_189 : decode b_P_append 189 = .ok (.ishl, 1) := by decide +kernel
theorem d_P_append_190 : decode b_P_append 190 = .ok (.ior, 1) := by decide +kernel
theorem d_P_append_191 : decode b_P_append 191 = .ok (.iastore, 1) := by decide +kernel
theorem d_P_append_192 : decode b_P_append 192 = .ok (.iinc 9 1, 3) := by decide +kernel
theorem d_P_append_195 : decode b_P_append 195 = .ok (.goto (-38), 3) := by decide +kernel
theorem d_P_append_198 : decode b_P_append 198 = .ok (.aload_n 0, 1) := by decide +kernel
theorem d_P_append_199 : decode b_P_append 199 = .ok (.getfield 39, 3) := by decide +kernel
theorem d_P_append_202 : decode b_P_append 202 = .ok (.iload 6, 2) := by decide +kernel
theorem d_P_append_204 : decode b_P_append 204 = .ok (.iconst 1, 1) := by decide +kernel
theorem d_P_append_205 : decode b_P_append 205 = .ok (.iload 6, 2) := by decide +kernel
theorem d_P_append_207 : decode b_P_append 207 = .ok (.ishl, 1) := by decide +kernel
theorem d_P_append_208 : decode b_P_append 208 = .ok (.iastore, 1) := by decide +kernel
theorem d_P_append_209 : decode b_P_append 209 = .ok (.aload_n 0, 1) := by decide +kernel
theorem d_P_append_210 : decode b_P_append 210 = .ok (.dup, 1) := by decide +kernel
theorem d_P_append_211 : decode b_P_append 211 = .ok (.getfield 54, 3) := by decide +kernel
theorem d_P_append_214 : decode b_P_append 214 = .ok (.iconst 1, 1) := by decide +kernel
theorem d_P_append_215 : decode b_P_append 215 = .ok (.iadd, 1) := by decide +kernel
theorem d_P_append_216 : decode b_P_append 216 = .ok (.putfield 54, 3) := by decide +kernel
theorem d_P_append_219 : decode b_P_append 219 = .ok (.iload 6, 2) := by decide +kernel
theorem d_P_append_221 : decode b_P_append 221 = .ok (.ireturn, 1) := by decide +kernel
section
variable {p : Program} {l : Launch} {e : Env} {s : State} {m : MethodId} {args : Array Value} {below : List Frame} {meth : Method} {c : Code} {H : Heap} {locs : List Loc} {ls : Array Slot} {D : va_G} {A : Nat → Prop} {h o : Nat → Nat} {t v : Nat → ClassId}
def f_P_append_192 (k157 : Int32 → Int32 → Int32 → St → Option (Int32 × St)) (x1 : Int32) (x6 : Int32) (x9 : Int32) (p0 : St) : Option (Int32 × St) :=
  k157 x1 x6 (x9 + 1) p0
set_option maxHeartbeats 4000000 in
set_option maxRecDepth 100000 in
theorem k_P_append_192 {k157 : Int32 → Int32 → Int32 → St → Option (Int32 × St)} {x1 : Int32} {x6 : Int32} {x9 : Int32} {p0 : St} {r : Int32} {p' : St} (X : sr_X D (tP t) b_P_append 10 R_P w_P_append p s m args meth c A (some .int)) (hk157 : ∀ (x1 : Int32) (x6 : Int32) (x9 : Int32) (p0 : St) (H : Heap) (locs : List Loc) (ls : Array Slot), sr_Z D A s.heap (wP h t p0) H locs → lv_has ls 10 [(0, .ref (h 0)), (1, .int x1), (6, .int x6), (9, .int x9)] → k157 x1 x6 x9 p0 = some (r, p') → W p l e (sr_rm 2 42) s m args below meth c H locs 0 0 (sr_Qi D (tP t) below args s A (wP h t p') r) (F0 m 157 ls [])) (Z : sr_Z D A s.heap (wP h t p0) H locs) (hl : lv_has ls 10 [(0, .ref (h 0)), (1, .int x1), (6, .int x6), (9, .int x9)]) (hf : f_P_append_192 k157 x1 x6 x9 p0 = some (r, p')) : W p l e (sr_rm 2 42) s m args below meth c H locs 0 0 (sr_Qi D (tP t) below args s A (wP h t p') r) (F0 m 192 ls []) := by
  have hx := X.1
  have hb := X.2.1
  have hK := X.2.2.2.2.2.2.1
  unfold f_P_append_192 at hf
  refine lv_iinc (k := 3) (v := x9 + 1) (lv' := [(9, .int (x9 + 1)), (0, .ref (h 0)), (1, .int x1), (6, .int x6)]) hx hb d_P_append_192 hl rfl rfl (by decide) rfl (fun ls hl => ?_)
  refine lv_goto (tgt := 157) hx hb d_P_append_195 rfl ?_
  exact hk157 x1 x6 (x9 + 1) p0 _ _ _ Z (lv_sub hl [1, 2, 3, 0] rfl) hf
def f_P_append_157 (k157 : Int32 → Int32 → Int32 → St → Option (Int32 × St)) (x1 : Int32) (x6 : Int32) (x9 : Int32) (p0 : St) : Option (Int32 × St) :=
  if x6 ≤ x9 then
    (sr_ast 24 p0 9 x6 ((1 : Int32) <<< (x6 &&& 31))).bind fun p_29 =>
    (sr_pf p_29 10 ((p_29 10 0) + 1)).bind fun p_31 =>
    some (x6, p_31)
  else
    (sr_ald 24 (p0 9) x9).bind fun v_33 =>
    (f_P_isIn x1 v_33).bind fun v_35 =>
    if v_35 = 0 then
      f_P_append_192 k157 x1 x6 x9 p0
    else
      (sr_ald 24 (p0 9) x9).bind fun v_38 =>
      (sr_ast 24 p0 9 x9 (v_38 ||| ((1 : Int32) <<< (x6 &&& 31)))).bind fun p_40 =>
      f_P_append_192 k157 x1 x6 x9 p_40
set_option maxHeartbeats 4000000 in
set_option maxRecDepth 100000 in
theorem k_P_append_157 {k157 : Int32 → Int32 → Int32 → St → Option (Int32 × St)} {x1 : Int32} {x6 : Int32} {x9 : Int32} {p0 : St} {r : Int32} {p' : St} (X : sr_X D (tP t) b_P_append 10 R_P w_P_append p s m args meth c A (some .int)) (hk157 : ∀ (x1 : Int32) (x6 : Int32) (x9 : Int32) (p0 : St) (H : Heap) (locs : List Loc) (ls : Array Slot), sr_Z D A s.heap (wP h t p0) H locs → lv_has ls 10 [(0, .ref (h 0)), (1, .int x1), (6, .int x6), (9, .int x9)] → k157 x1 x6 x9 p0 = some (r, p') → W p l e (sr_rm 2 42) s m args below meth c H locs 0 0 (sr_Qi D (tP t) below args s A (wP h t p') r) (F0 m 157 ls [])) (Z : sr_Z D A s.heap (wP h t p0) H locs) (hl : lv_has ls 10 [(0, .ref (h 0)), (1, .int x1), (6, .int x6), (9, .int x9)]) (hf : f_P_append_157 k157 x1 x6 x9 p0 = some (r, p')) : W p l e (sr_rm 2 42) s m args below meth c H locs 0 0 (sr_Qi D (tP t) below args s A (wP h t p') r) (F0 m 157 ls []) := by
  have hx := X.1
  have hb := X.2.1
  have hK := X.2.2.2.2.2.2.1
  unfold f_P_append_157 at hf
  refine lv_iload hx hb d_P_append_157 (lv_at hl 3 rfl) ?_
  refine lv_iload hx hb d_P_append_159 (lv_at hl 2 rfl) ?_
  refine lv_icmp_ge (tgt := 198) hx hb d_P_append_161 rfl (fun q_28 => ?_) (fun q_28 => ?_)
  · have hf := sr_it q_28 hf
    refine lv_aload_n hx hb d_P_append_198 rfl (lv_at hl 0 rfl) ?_
    refine g_P_39_P X Z d_P_append_199 ?_
    refine lv_iload hx hb d_P_append_202 (lv_at hl 2 rfl) ?_
    refine lv_iconst (v := 1) hx hb d_P_append_204 (by decide) ?_
    refine lv_iload hx hb d_P_append_205 (lv_at hl 2 rfl) ?_
    refine lv_ishl hx hb d_P_append_207 ?_
    obtain ⟨p_29, e_30, hf⟩ := sr_b hf
    refine sr_iast (wf := (fun q => (wP h t q))) hx hb hK Z 10 9 rfl rfl e_30 (fun _ => rfl) d_P_append_208 (fun H locs Z => ?_)
    refine lv_aload_n hx hb d_P_append_209 rfl (lv_at hl 0 rfl) ?_
    refine lv_dup hx hb d_P_append_210 rfl ?_
    refine g_P_54_P X Z d_P_append_211 ?_
    refine lv_iconst (v := 1) hx hb d_P_append_214 (by decide) ?_
    refine lv_iadd hx hb d_P_append_215 ?_
    obtain ⟨p_31, e_32, hf⟩ := sr_b hf
    refine s_P_54_P X Z e_32 d_P_append_216 (fun H locs Z => ?_)
    refine lv_iload hx hb d_P_append_219 (lv_at hl 2 rfl) ?_
    cases hf
    exact sr_reti X Z d_P_append_221
  · have hf := sr_if q_28 hf
    refine lv_iload_n hx hb d_P_append_164 rfl (lv_at hl 1 rfl) ?_
    refine lv_aload_n hx hb d_P_append_165 rfl (lv_at hl 0 rfl) ?_
    refine g_P_39_P X Z d_P_append_166 ?_
    refine lv_iload hx hb d_P_append_169 (lv_at hl 3 rfl) ?_
    obtain ⟨v_33, e_34, hf⟩ := sr_b hf
    refine sr_iald hx hb hK Z 10 9 rfl rfl e_34 d_P_append_171 ?_
    obtain ⟨v_35, e_36, hf⟩ := sr_b hf
    refine sr_cSi (As := [.int x1, .int v_33]) (rest := []) X Z sr_cut_0 (va_K.sub hK [] rfl) (c_P_isIn e_36) (cw_P_71 X.2.2.2.2.2.1 (by decide)) rfl hl rfl (Nat.le_of_ble_eq_true rfl) d_P_append_172 (fun H locs Z => ?_)
    refine lv_if_eq (tgt := 192) hx hb d_P_append_175 rfl (fun q_37 => ?_) (fun q_37 => ?_)
    · have hf := sr_it q_37 hf
      exact k_P_append_192 X hk157 Z (lv_sub hl [0, 1, 2, 3] rfl) hf
    · have hf := sr_if q_37 hf
      refine lv_aload_n hx hb d_P_append_178 rfl (lv_at hl 0 rfl) ?_
      refine g_P_39_P X Z d_P_append_179 ?_
      refine lv_iload hx hb d_P_append_182 (lv_at hl 3 rfl) ?_
      refine lv_dup2_11 hx hb d_P_append_184 rfl rfl ?_
      obtain ⟨v_38, e_39, hf⟩ := sr_b hf
      refine sr_iald hx hb hK Z 10 9 rfl rfl e_39 d_P_append_185 ?_
      refine lv_iconst (v := 1) hx hb d_P_append_186 (by decide) ?_
      refine lv_iload hx hb d_P_append_187 (lv_at hl 2 rfl) ?_
      refine lv_ishl hx hb d_P_append_189 ?_
      refine lv_ior hx hb d_P_append_190 ?_
      obtain ⟨p_40, e_41, hf⟩ := sr_b hf
      refine sr_iast (wf := (fun q => (wP h t q))) hx hb hK Z 10 9 rfl rfl e_41 (fun _ => rfl) d_P_append_191 (fun H locs Z => ?_)
      exact k_P_append_192 X hk157 Z (lv_sub hl [0, 1, 2, 3] rfl) hf
def f_P_append_157_it : Nat → Int32 → Int32 → Int32 → St → Option (Int32 × St)
  | 0 => fun _ _ _ _ => none
  | n + 1 => fun x1 x6 x9 p0 => f_P_append_157 (f_P_append_157_it n) x1 x6 x9 p0
set_option maxHeartbeats 4000000 in
set_option maxRecDepth 100000 in
theorem k_P_append_157_it {r : Int32} {p' : St} (X : sr_X D (tP t) b_P_append 10 R_P w_P_append p s m args meth c A (some .int)) (n : Nat) : ∀ {x1 : Int32} {x6 : Int32} {x9 : Int32} {p0 : St} {H : Heap} {locs : List Loc} {ls : Array Slot}, sr_Z D A s.heap (wP h t p0) H locs → lv_has ls 10 [(0, .ref (h 0)), (1, .int x1), (6, .int x6), (9, .int x9)] → f_P_append_157_it n x1 x6 x9 p0 = some (r, p') → W p l e (sr_rm 2 42) s m args below meth c H locs 0 0 (sr_Qi D (tP t) below args s A (wP h t p') r) (F0 m 157 ls []) := by
  induction n with
  | zero => intro x1 x6 x9 p0 H locs ls Z hl hf; exact absurd hf (by simp [f_P_append_157_it])
  | succ n ih =>
    intro x1 x6 x9 p0 H locs ls Z hl hf
    exact k_P_append_157 X (fun x1 x6 x9 p0 H locs ls Z hl hf => ih Z hl hf) Z hl hf
def f_P_append_153 (x1 : Int32) (x6 : Int32) (y0 : Int32) (y1 : Int32) (p0 : St) : Option (Int32 × St) :=
  (sr_ast 24 p0 7 y1 y0).bind fun p_26 =>
  f_P_append_157_it 60 x1 x6 0 p_26
set_option maxHeartbeats 4000000 in
set_option maxRecDepth 100000 in
theorem k_P_append_153 {x1 : Int32} {x6 : Int32} {y0 : Int32} {y1 : Int32} {p0 : St} {r : Int32} {p' : St} (X : sr_X D (tP t) b_P_append 10 R_P w_P_append p s m args meth c A (some .int)) (Z : sr_Z D A s.heap (wP h t p0) H locs) (hl : lv_has ls 10 [(0, .ref (h 0)), (1, .int x1), (6, .int x6)]) (hf : f_P_append_153 x1 x6 y0 y1 p0 = some (r, p')) : W p l e (sr_rm 2 42) s m args below meth c H locs 0 0 (sr_Qi D (tP t) below args s A (wP h t p') r) (F0 m 153 ls [.int y0, .int y1, .ref (h 8)]) := by
  have hx := X.1
  have hb := X.2.1
  have hK := X.2.2.2.2.2.2.1
  unfold f_P_append_153 at hf
  obtain ⟨p_26, e_27, hf⟩ := sr_b hf
  refine sr_iast (wf := (fun q => (wP h t q))) hx hb hK Z 8 7 rfl rfl e_27 (fun _ => rfl) d_P_append_153 (fun H locs Z => ?_)
  refine lv_iconst (v := 0) hx hb d_P_append_154 (by decide) ?_
  refine lv_istore (lv' := [(9, .int 0), (0, .ref (h 0)), (1, .int x1), (6, .int x6)]) hx hb d_P_append_155 hl (by decide) rfl (fun ls hl => ?_)
  exact k_P_append_157_it X _ Z (lv_sub hl [1, 2, 3, 0] rfl) hf
def f_P_append_119 (x1 : Int32) (x2 : Int32) (x6 : Int32) (y0 : Int32) (y1 : Int32) (p0 : St) : Option (Int32 × St) :=
  (sr_ast 24 p0 8 y1 y0).bind fun p_20 =>
  if x2 = 0 then
    (f_P_hasActivity p_20 x1).bind fun v_23 =>
    if v_23 = 0 then
      f_P_append_153 x1 x6 (-1) x6 p_20
    else
      (sr_ald 24 (p_20 7) x1).bind fun v_42 =>
      f_P_append_153 x1 x6 v_42 x6 p_20
  else
    f_P_append_153 x1 x6 x6 x6 p_20
set_option maxHeartbeats 4000000 in
set_option maxRecDepth 100000 in
theorem k_P_append_119 {x1 : Int32} {x2 : Int32} {x6 : Int32} {y0 : Int32} {y1 : Int32} {p0 : St} {r : Int32} {p' : St} (X : sr_X D (tP t) b_P_append 10 R_P w_P_append p s m args meth c A (some .int)) (Z : sr_Z D A s.heap (wP h t p0) H locs) (hl : lv_has ls 10 [(0, .ref (h 0)), (1, .int x1), (2, .int x2), (6, .int x6)]) (hf : f_P_append_119 x1 x2 x6 y0 y1 p0 = some (r, p')) : W p l e (sr_rm 2 42) s m args below meth c H locs 0 0 (sr_Qi D (tP t) below args s A (wP h t p') r) (F0 m 119 ls [.int y0, .int y1, .ref (h 9)]) := by
  have hx := X.1
  have hb := X.2.1
  have hK := X.2.2.2.2.2.2.1
  unfold f_P_append_119 at hf
  obtain ⟨p_20, e_21, hf⟩ := sr_b hf
  refine sr_iast (wf := (fun q => (wP h t q))) hx hb hK Z 9 8 rfl rfl e_21 (fun _ => rfl) d_P_append_119 (fun H locs Z => ?_)
  refine lv_aload_n hx hb d_P_append_120 rfl (lv_at hl 0 rfl) ?_
  refine g_P_33_P X Z d_P_append_121 ?_
  refine lv_iload hx hb d_P_append_124 (lv_at hl 3 rfl) ?_
  refine lv_iload_n hx hb d_P_append_126 rfl (lv_at hl 2 rfl) ?_
  refine lv_if_eq (tgt := 135) hx hb d_P_append_127 rfl (fun q_22 => ?_) (fun q_22 => ?_)
  · have hf := sr_it q_22 hf
    refine lv_aload_n hx hb d_P_append_135 rfl (lv_at hl 0 rfl) ?_
    refine lv_iload_n hx hb d_P_append_136 rfl (lv_at hl 1 rfl) ?_
    obtain ⟨v_23, e_24, hf⟩ := sr_b hf
    refine sr_cVi (As := [.int x1]) (rest := [.int x6, .ref (h 8)]) X Z sr_cut_self hK (c_P_hasActivity e_24) (cw_P_58 X.2.2.2.2.2.1 (by decide)) 0 rfl rfl rfl hl rfl (Nat.le_of_ble_eq_true rfl) d_P_append_137 (fun H locs Z => ?_)
    refine lv_if_eq (tgt := 152) hx hb d_P_append_140 rfl (fun q_25 => ?_) (fun q_25 => ?_)
    · have hf := sr_it q_25 hf
      refine lv_iconst (v := -1) hx hb d_P_append_152 (by decide) ?_
      exact k_P_append_153 X Z (lv_sub hl [0, 1, 3] rfl) hf
    · have hf := sr_if q_25 hf
      refine lv_aload_n hx hb d_P_append_143 rfl (lv_at hl 0 rfl) ?_
      refine g_P_33_P X Z d_P_append_144 ?_
      refine lv_iload_n hx hb d_P_append_147 rfl (lv_at hl 1 rfl) ?_
      obtain ⟨v_42, e_43, hf⟩ := sr_b hf
      refine sr_iald hx hb hK Z 8 7 rfl rfl e_43 d_P_append_148 ?_
      refine lv_goto (tgt := 153) hx hb d_P_append_149 rfl ?_
      exact k_P_append_153 X Z (lv_sub hl [0, 1, 3] rfl) hf
  · have hf := sr_if q_22 hf
    refine lv_iload hx hb d_P_append_130 (lv_at hl 3 rfl) ?_
    refine lv_goto (tgt := 153) hx hb d_P_append_132 rfl ?_
    exact k_P_append_153 X Z (lv_sub hl [0, 1, 3] rfl) hf
def f_P_append_96 (x1 : Int32) (x2 : Int32) (x6 : Int32) (x8 : Int32) (y0 : Int32) (y1 : Int32) (p0 : St) : Option (Int32 × St) :=
  (sr_ast 24 p0 6 y1 y0).bind fun p_17 =>
  if x8 = 0 then
    f_P_append_119 x1 x2 x6 x6 x6 p_17
  else
    (sr_ald 24 (p_17 8) x1).bind fun v_44 =>
    f_P_append_119 x1 x2 x6 v_44 x6 p_17
set_option maxHeartbeats 4000000 in
set_option maxRecDepth 100000 in
theorem k_P_append_96 {x1 : Int32} {x2 : Int32} {x6 : Int32} {x8 : Int32} {y0 : Int32} {y1 : Int32} {p0 : St} {r : Int32} {p' : St} (X : sr_X D (tP t) b_P_append 10 R_P w_P_append p s m args meth c A (some .int)) (Z : sr_Z D A s.heap (wP h t p0) H locs) (hl : lv_has ls 10 [(0, .ref (h 0)), (1, .int x1), (2, .int x2), (6, .int x6), (8, .int x8)]) (hf : f_P_append_96 x1 x2 x6 x8 y0 y1 p0 = some (r, p')) : W p l e (sr_rm 2 42) s m args below meth c H locs 0 0 (sr_Qi D (tP t) below args s A (wP h t p') r) (F0 m 96 ls [.int y0, .int y1, .ref (h 7)]) := by
  have hx := X.1
  have hb := X.2.1
  have hK := X.2.2.2.2.2.2.1
  unfold f_P_append_96 at hf
  obtain ⟨p_17, e_18, hf⟩ := sr_b hf
  refine sr_iast (wf := (fun q => (wP h t q))) hx hb hK Z 7 6 rfl rfl e_18 (fun _ => rfl) d_P_append_96 (fun H locs Z => ?_)
  refine lv_aload_n hx hb d_P_append_97 rfl (lv_at hl 0 rfl) ?_
  refine g_P_36_P X Z d_P_append_98 ?_
  refine lv_iload hx hb d_P_append_101 (lv_at hl 3 rfl) ?_
  refine lv_iload hx hb d_P_append_103 (lv_at hl 4 rfl) ?_
  refine lv_if_eq (tgt := 117) hx hb d_P_append_105 rfl (fun q_19 => ?_) (fun q_19 => ?_)
  · have hf := sr_it q_19 hf
    refine lv_iload hx hb d_P_append_117 (lv_at hl 3 rfl) ?_
    exact k_P_append_119 X Z (lv_sub hl [0, 1, 2, 3] rfl) hf
  · have hf := sr_if q_19 hf
    refine lv_aload_n hx hb d_P_append_108 rfl (lv_at hl 0 rfl) ?_
    refine g_P_36_P X Z d_P_append_109 ?_
    refine lv_iload_n hx hb d_P_append_112 rfl (lv_at hl 1 rfl) ?_
    obtain ⟨v_44, e_45, hf⟩ := sr_b hf
    refine sr_iald hx hb hK Z 9 8 rfl rfl e_45 d_P_append_113 ?_
    refine lv_goto (tgt := 119) hx hb d_P_append_114 rfl ?_
    exact k_P_append_119 X Z (lv_sub hl [0, 1, 2, 3] rfl) hf
def f_P_append_73 (x1 : Int32) (x2 : Int32) (x6 : Int32) (y0 : Int32) (p0 : St) : Option (Int32 × St) :=
  if y0 = 0 then
    f_P_append_96 x1 x2 x6 y0 x1 x6 p0
  else
    (sr_ald 24 (p0 6) x1).bind fun v_46 =>
    f_P_append_96 x1 x2 x6 y0 v_46 x6 p0
set_option maxHeartbeats 4000000 in
set_option maxRecDepth 100000 in
theorem k_P_append_73 {x1 : Int32} {x2 : Int32} {x6 : Int32} {y0 : Int32} {p0 : St} {r : Int32} {p' : St} (X : sr_X D (tP t) b_P_append 10 R_P w_P_append p s m args meth c A (some .int)) (Z : sr_Z D A s.heap (wP h t p0) H locs) (hl : lv_has ls 10 [(0, .ref (h 0)), (1, .int x1), (2, .int x2), (6, .int x6)]) (hf : f_P_append_73 x1 x2 x6 y0 p0 = some (r, p')) : W p l e (sr_rm 2 42) s m args below meth c H locs 0 0 (sr_Qi D (tP t) below args s A (wP h t p') r) (F0 m 73 ls [.int y0]) := by
  have hx := X.1
  have hb := X.2.1
  have hK := X.2.2.2.2.2.2.1
  unfold f_P_append_73 at hf
  refine lv_istore (lv' := [(8, .int y0), (0, .ref (h 0)), (1, .int x1), (2, .int x2), (6, .int x6)]) hx hb d_P_append_73 hl (by decide) rfl (fun ls hl => ?_)
  refine lv_aload_n hx hb d_P_append_75 rfl (lv_at hl 1 rfl) ?_
  refine g_P_30_P X Z d_P_append_76 ?_
  refine lv_iload hx hb d_P_append_79 (lv_at hl 4 rfl) ?_
  refine lv_iload hx hb d_P_append_81 (lv_at hl 0 rfl) ?_
  refine lv_if_eq (tgt := 95) hx hb d_P_append_83 rfl (fun q_16 => ?_) (fun q_16 => ?_)
  · have hf := sr_it q_16 hf
    refine lv_iload_n hx hb d_P_append_95 rfl (lv_at hl 2 rfl) ?_
    exact k_P_append_96 X Z (lv_sub hl [1, 2, 3, 4, 0] rfl) hf
  · have hf := sr_if q_16 hf
    refine lv_aload_n hx hb d_P_append_86 rfl (lv_at hl 1 rfl) ?_
    refine g_P_30_P X Z d_P_append_87 ?_
    refine lv_iload_n hx hb d_P_append_90 rfl (lv_at hl 2 rfl) ?_
    obtain ⟨v_46, e_47, hf⟩ := sr_b hf
    refine sr_iald hx hb hK Z 7 6 rfl rfl e_47 d_P_append_91 ?_
    refine lv_goto (tgt := 96) hx hb d_P_append_92 rfl ?_
    exact k_P_append_96 X Z (lv_sub hl [1, 2, 3, 4, 0] rfl) hf
def f_P_append_72 (x1 : Int32) (x2 : Int32) (x6 : Int32) (p0 : St) : Option (Int32 × St) :=
  f_P_append_73 x1 x2 x6 0 p0
set_option maxHeartbeats 4000000 in
set_option maxRecDepth 100000 in
theorem k_P_append_72 {x1 : Int32} {x2 : Int32} {x6 : Int32} {p0 : St} {r : Int32} {p' : St} (X : sr_X D (tP t) b_P_append 10 R_P w_P_append p s m args meth c A (some .int)) (Z : sr_Z D A s.heap (wP h t p0) H locs) (hl : lv_has ls 10 [(0, .ref (h 0)), (1, .int x1), (2, .int x2), (6, .int x6)]) (hf : f_P_append_72 x1 x2 x6 p0 = some (r, p')) : W p l e (sr_rm 2 42) s m args below meth c H locs 0 0 (sr_Qi D (tP t) below args s A (wP h t p') r) (F0 m 72 ls []) := by
  have hx := X.1
  have hb := X.2.1
  have hK := X.2.2.2.2.2.2.1
  unfold f_P_append_72 at hf
  refine lv_iconst (v := 0) hx hb d_P_append_72 (by decide) ?_
  exact k_P_append_73 X Z (lv_sub hl [0, 1, 2, 3] rfl) hf
def f_P_append (x1 : Int32) (x2 : Int32) (x3 : Int32) (x4 : Int32) (x5 : Int32) (p0 : St) : Option (Int32 × St) :=
  (sr_ast 24 p0 0 (p0 10 0) x1).bind fun p_1 =>
  (sr_ast 24 p_1 1 (p0 10 0) x2).bind fun p_3 =>
  (sr_ast 24 p_3 2 (p0 10 0) x3).bind fun p_5 =>
  (sr_ast 24 p_5 3 (p0 10 0) x4).bind fun p_7 =>
  (sr_ast 24 p_7 4 (p0 10 0) x5).bind fun p_9 =>
  (f_P_hasScope p_9 x1).bind fun v_11 =>
  (f_P_hasActivity p_9 x1).bind fun v_13 =>
  if v_13 = 0 then
    f_P_append_72 x1 x2 (p0 10 0) p_9
  else
    if v_11 = 0 then
      f_P_append_73 x1 x2 (p0 10 0) 1 p_9
    else
      f_P_append_72 x1 x2 (p0 10 0) p_9
set_option maxHeartbeats 4000000 in
set_option maxRecDepth 100000 in
theorem k_P_append_0 {x1 : Int32} {x2 : Int32} {x3 : Int32} {x4 : Int32} {x5 : Int32} {p0 : St} {r : Int32} {p' : St} (X : sr_X D (tP t) b_P_append 10 R_P w_P_append p s m args meth c A (some .int)) (Z : sr_Z D A s.heap (wP h t p0) H locs) (hl : lv_has ls 10 [(0, .ref (h 0)), (1, .int x1), (2, .int x2), (3, .int x3), (4, .int x4), (5, .int x5)]) (hf : f_P_append x1 x2 x3 x4 x5 p0 = some (r, p')) : W p l e (sr_rm 2 42) s m args below meth c H locs 0 0 (sr_Qi D (tP t) below args s A (wP h t p') r) (F0 m 0 ls []) := by
  have hx := X.1
  have hb := X.2.1
  have hK := X.2.2.2.2.2.2.1
  unfold f_P_append at hf
  refine lv_aload_n hx hb d_P_append_0 rfl (lv_at hl 0 rfl) ?_
  refine g_P_54_P X Z d_P_append_1 ?_
  refine lv_istore (lv' := [(6, .int (p0 10 0)), (0, .ref (h 0)), (1, .int x1), (2, .int x2), (3, .int x3), (4, .int x4), (5, .int x5)]) hx hb d_P_append_4 hl (by decide) rfl (fun ls hl => ?_)
  refine lv_aload_n hx hb d_P_append_6 rfl (lv_at hl 1 rfl) ?_
  refine g_P_9_P X Z d_P_append_7 ?_
  refine lv_iload hx hb d_P_append_10 (lv_at hl 0 rfl) ?_
  refine lv_iload_n hx hb d_P_append_12 rfl (lv_at hl 2 rfl) ?_
  obtain ⟨p_1, e_2, hf⟩ := sr_b hf
  refine sr_iast (wf := (fun q => (wP h t q))) hx hb hK Z 1 0 rfl rfl e_2 (fun _ => rfl) d_P_append_13 (fun H locs Z => ?_)
  refine lv_aload_n hx hb d_P_append_14 rfl (lv_at hl 1 rfl) ?_
  refine g_P_15_P X Z d_P_append_15 ?_
  refine lv_iload hx hb d_P_append_18 (lv_at hl 0 rfl) ?_
  refine lv_iload_n hx hb d_P_append_20 rfl (lv_at hl 3 rfl) ?_
  obtain ⟨p_3, e_4, hf⟩ := sr_b hf
  refine sr_iast (wf := (fun q => (wP h t q))) hx hb hK Z 2 1 rfl rfl e_4 (fun _ => rfl) d_P_append_21 (fun H locs Z => ?_)
  refine lv_aload_n hx hb d_P_append_22 rfl (lv_at hl 1 rfl) ?_
  refine g_P_18_P X Z d_P_append_23 ?_
  refine lv_iload hx hb d_P_append_26 (lv_at hl 0 rfl) ?_
  refine lv_iload_n hx hb d_P_append_28 rfl (lv_at hl 4 rfl) ?_
  obtain ⟨p_5, e_6, hf⟩ := sr_b hf
  refine sr_iast (wf := (fun q => (wP h t q))) hx hb hK Z 3 2 rfl rfl e_6 (fun _ => rfl) d_P_append_29 (fun H locs Z => ?_)
  refine lv_aload_n hx hb d_P_append_30 rfl (lv_at hl 1 rfl) ?_
  refine g_P_21_P X Z d_P_append_31 ?_
  refine lv_iload hx hb d_P_append_34 (lv_at hl 0 rfl) ?_
  refine lv_iload hx hb d_P_append_36 (lv_at hl 5 rfl) ?_
  obtain ⟨p_7, e_8, hf⟩ := sr_b hf
  refine sr_iast (wf := (fun q => (wP h t q))) hx hb hK Z 4 3 rfl rfl e_8 (fun _ => rfl) d_P_append_38 (fun H locs Z => ?_)
  refine lv_aload_n hx hb d_P_append_39 rfl (lv_at hl 1 rfl) ?_
  refine g_P_24_P X Z d_P_append_40 ?_
  refine lv_iload hx hb d_P_append_43 (lv_at hl 0 rfl) ?_
  refine lv_iload hx hb d_P_append_45 (lv_at hl 6 rfl) ?_
  obtain ⟨p_9, e_10, hf⟩ := sr_b hf
  refine sr_iast (wf := (fun q => (wP h t q))) hx hb hK Z 5 4 rfl rfl e_10 (fun _ => rfl) d_P_append_47 (fun H locs Z => ?_)
  refine lv_aload_n hx hb d_P_append_48 rfl (lv_at hl 1 rfl) ?_
  refine lv_iload_n hx hb d_P_append_49 rfl (lv_at hl 2 rfl) ?_
  obtain ⟨v_11, e_12, hf⟩ := sr_b hf
  refine sr_cVi (As := [.int x1]) (rest := []) X Z sr_cut_self hK (c_P_hasScope e_12) (cw_P_68 X.2.2.2.2.2.1 (by decide)) 0 rfl rfl rfl hl rfl (Nat.le_of_ble_eq_true rfl) d_P_append_50 (fun H locs Z => ?_)
  refine lv_istore (lv' := [(7, .int v_11), (6, .int (p0 10 0)), (0, .ref (h 0)), (1, .int x1), (2, .int x2), (3, .int x3), (4, .int x4), (5, .int x5)]) hx hb d_P_append_53 hl (by decide) rfl (fun ls hl => ?_)
  refine lv_aload_n hx hb d_P_append_55 rfl (lv_at hl 2 rfl) ?_
  refine lv_iload_n hx hb d_P_append_56 rfl (lv_at hl 3 rfl) ?_
  obtain ⟨v_13, e_14, hf⟩ := sr_b hf
  refine sr_cVi (As := [.int x1]) (rest := []) X Z sr_cut_self hK (c_P_hasActivity e_14) (cw_P_58 X.2.2.2.2.2.1 (by decide)) 0 rfl rfl rfl hl rfl (Nat.le_of_ble_eq_true rfl) d_P_append_57 (fun H locs Z => ?_)
  refine lv_if_eq (tgt := 72) hx hb d_P_append_60 rfl (fun q_15 => ?_) (fun q_15 => ?_)
  · have hf := sr_it q_15 hf
    exact k_P_append_72 X Z (lv_sub hl [2, 3, 4, 1] rfl) hf
  · have hf := sr_if q_15 hf
    refine lv_iload hx hb d_P_append_63 (lv_at hl 0 rfl) ?_
    refine lv_if_ne (tgt := 72) hx hb d_P_append_65 rfl (fun q_48 => ?_) (fun q_48 => ?_)
    · have hf := sr_if q_48 hf
      exact k_P_append_72 X Z (lv_sub hl [2, 3, 4, 1] rfl) hf
    · have hf := sr_it q_48 hf
      refine lv_iconst (v := 1) hx hb d_P_append_68 (by decide) ?_
      refine lv_goto (tgt := 73) hx hb d_P_append_69 rfl ?_
      exact k_P_append_73 X Z (lv_sub hl [2, 3, 4, 1] rfl) hf
end
set_option maxHeartbeats 4000000 in
set_option maxRecDepth 100000 in
theorem c_P_append {l : Launch} {D : va_G} {h : Nat → Nat} {t : Nat → ClassId} {sz : Nat} {x1 : Int32} {x2 : Int32} {x3 : Int32} {x4 : Int32} {x5 : Int32} {p0 : St} {r : Int32} {p' : St} (hf : f_P_append x1 x2 x3 x4 x5 p0 = some (r, p')) : sr_Ci l y_P_append w_P_append (sr_rm 2 42) D (tP t) (wP h t p0) (wP h t p') sz [.ref (h 0), .int x1, .int x2, .int x3, .int x4, .int x5] r := by
  refine Met.ofW (cc := b_P_append) (maxL := 10) (ret := (some .int)) (by decide) rfl ?_
  intro p e s m args below meth c s₁ B hml hv
  obtain ⟨rfl, hsz, hP, hK, hD0⟩ := hv
  subst hsz
  have X : sr_X D (tP t) b_P_append 10 R_P w_P_append p s m _ meth c (va_A (wP h t p0) s.heap.size) (some .int) := ⟨B.exec, B.bytes, hml, findClass_of_methodNamed B.named, B.notSynchronized, atoms_spec (ws := w_P_append) B.pre, hK, fun q h => Or.inr h, B.returns⟩
  have Z : sr_Z D (va_A (wP h t p0) s.heap.size) s.heap (wP h t p0) s.heap [] := ⟨hP, hD0.self, va_S.rf⟩
  have hl := lv_entry ([.ref (h 0), .int x1, .int x2, .int x3, .int x4, .int x5] : List Value) (n := 10) (Nat.le_of_ble_eq_true rfl)
  rw [lg_entry_eq]
  exact k_P_append_0 X Z hl hf
/-! P_isLinked -/
theorem d_P_isLinked_0 : decode b_P_isLinked 0 = .ok (.iconst 0, 1) := by decide +kernel
theorem d_P_isLinked_1 : decode b_P_isLinked 1 = .ok (.istore_n 3, 1) := by decide +kernel
theorem d_P_isLinked_2 : decode b_P_isLinked 2 = .ok (.iload_n 3, 1) := by decide +kernel
theorem d_P_isLinked_3 : decode b_P_isLinked 3 = .ok (.aload_n 0, 1) := by decide +kernel
theorem d_P_isLinked_4 : decode b_P_isLinked 4 = .ok (.getfield 75, 3) := by decide +kernel
theorem d_P_isLinked_7 : decode b_P_isLinked 7 = .ok (.if_icmp .ge 31, 3) := by decide +kernel
theorem d_P_isLinked_10 : decode b_P_isLinked 10 = .ok (.aload_n 0, 1) := by decide +kernel
theorem d_P_isLinked_11 : decode b_P_isLinked 11 = .ok (.getfield 42, 3) := by decide +kernel
theorem d_P_isLinked_14 : decode b_P_isLinked 14 = .ok (.iload_n 3, 1) := by decide +kernel
theorem d_P_isLinked_15 : decode b_P_isLinked 15 = .ok (.iaload, 1) := by decide +kernel
theorem d_P_isLinked_16 : decode b_P_isLinked 16 = .ok (.iload_n 1, 1) := by decide +kernel
theorem d_P_isLinked_17 : decode b_P_isLinked 17 = .ok (.if_icmp .ne 15, 3) := by decide +kernel
theorem d_P_isLinked_20 : decode b_P_isLinked 20 = .ok (.aload_n 0, 1) := by decide +kernel
theorem d_P_isLinked_21 : decode b_P_isLinked 21 = .ok (.getfield 45, 3) := by decide +kernel
theorem d_P_isLinked_24 : decode b_P_isLinked 24 = .ok (.iload_n 3, 1) := by decide +kernel
theorem d_P_isLinked_25 : decode b_P_isLinked 25 = .ok (.iaload, 1) := by decide +kernel
theorem d_P_isLinked_26 : decode b_P_isLinked 26 = .ok (.iload_n 2, 1) := by decide +kernel
theorem d_P_isLinked_27 : decode b_P_isLinked 27 = .ok (.if_icmp .ne 5, 3) := by decide +kernel
theorem d_P_isLinked_30 : decode b_P_isLinked 30 = .ok (.iconst 1, 1) := by decide +kernel
theorem d_P_isLinked_31 : decode b_P_isLinked 31 = .ok (.ireturn, 1) := by decide +kernel
theorem d_P_isLinked_32 : decode b_P_isLinked 32 = .ok (.iinc 3 1, 3) := by decide +kernel
theorem d_P_isLinked_35 : decode b_P_isLinked 35 = .ok (.goto (-33), 3) := by decide +kernel
theorem d_P_isLinked_38 : decode b_P_isLinked 38 = .ok (.iconst 0, 1) := by decide +kernel
theorem d_P_isLinked_39 : decode b_P_isLinked 39 = .ok (.ireturn, 1) := by decide +kernel
section
variable {p : Program} {l : Launch} {e : Env} {s : State} {m : MethodId} {args : Array Value} {below : List Frame} {meth : Method} {c : Code} {H : Heap} {locs : List Loc} {ls : Array Slot} {D : va_G} {A : Nat → Prop} {h o : Nat → Nat} {t v : Nat → ClassId}
def f_P_isLinked_32 (k2 : Int32 → Int32 → Int32 → Option (Int32)) (p0 : St) (x1 : Int32) (x2 : Int32) (x3 : Int32) : Option (Int32) :=
  k2 x1 x2 (x3 + 1)
set_option maxHeartbeats 4000000 in
set_option maxRecDepth 100000 in
theorem k_P_isLinked_32 {k2 : Int32 → Int32 → Int32 → Option (Int32)} {p0 : St} {x1 : Int32} {x2 : Int32} {x3 : Int32} {r : Int32} (X : sr_X D (tP t) b_P_isLinked 4 R_P w_P_isLinked p s m args meth c A (some .boolean)) (hk2 : ∀ (x1 : Int32) (x2 : Int32) (x3 : Int32) (H : Heap) (locs : List Loc) (ls : Array Slot), sr_Z D A s.heap (wP h t p0) H locs → lv_has ls 4 [(0, .ref (h 0)), (1, .int x1), (2, .int x2), (3, .int x3)] → k2 x1 x2 x3 = some r → W p l e (sr_rm 0 0) s m args below meth c H locs 0 0 (sr_Qi D (tP t) below args s A (wP h t p0) r) (F0 m 2 ls [])) (Z : sr_Z D A s.heap (wP h t p0) H locs) (hl : lv_has ls 4 [(0, .ref (h 0)), (1, .int x1), (2, .int x2), (3, .int x3)]) (hf : f_P_isLinked_32 k2 p0 x1 x2 x3 = some r) : W p l e (sr_rm 0 0) s m args below meth c H locs 0 0 (sr_Qi D (tP t) below args s A (wP h t p0) r) (F0 m 32 ls []) := by
  have hx := X.1
  have hb := X.2.1
  have hK := X.2.2.2.2.2.2.1
  unfold f_P_isLinked_32 at hf
  refine lv_iinc (k := 3) (v := x3 + 1) (lv' := [(3, .int (x3 + 1)), (0, .ref (h 0)), (1, .int x1), (2, .int x2)]) hx hb d_P_isLinked_32 hl rfl rfl (by decide) rfl (fun ls hl => ?_)
  refine lv_goto (tgt := 2) hx hb d_P_isLinked_35 rfl ?_
  exact hk2 x1 x2 (x3 + 1) _ _ _ Z (lv_sub hl [1, 2, 3, 0] rfl) hf
def f_P_isLinked_2 (k2 : Int32 → Int32 → Int32 → Option (Int32)) (p0 : St) (x1 : Int32) (x2 : Int32) (x3 : Int32) : Option (Int32) :=
  if (p0 15 0) ≤ x3 then
    some 0
  else
    (sr_ald 16 (p0 11) x3).bind fun v_2 =>
    if v_2 = x1 then
      (sr_ald 16 (p0 12) x3).bind fun v_5 =>
      if v_5 = x2 then
        some 1
      else
        f_P_isLinked_32 k2 p0 x1 x2 x3
    else
      f_P_isLinked_32 k2 p0 x1 x2 x3
set_option maxHeartbeats 4000000 in
set_option maxRecDepth 100000 in
theorem k_P_isLinked_2 {k2 : Int32 → Int32 → Int32 → Option (Int32)} {p0 : St} {x1 : Int32} {x2 : Int32} {x3 : Int32} {r : Int32} (X : sr_X D (tP t) b_P_isLinked 4 R_P w_P_isLinked p s m args meth c A (some .boolean)) (hk2 : ∀ (x1 : Int32) (x2 : Int32) (x3 : Int32) (H : Heap) (locs : List Loc) (ls : Array Slot), sr_Z D A s.heap (wP h t p0) H locs → lv_has ls 4 [(0, .ref (h 0)), (1, .int x1), (2, .int x2), (3, .int x3)] → k2 x1 x2 x3 = some r → W p l e (sr_rm 0 0) s m args below meth c H locs 0 0 (sr_Qi D (tP t) below args s A (wP h t p0) r) (F0 m 2 ls [])) (Z : sr_Z D A s.heap (wP h t p0) H locs) (hl : lv_has ls 4 [(0, .ref (h 0)), (1, .int x1), (2, .int x2), (3, .int x3)]) (hf : f_P_isLinked_2 k2 p0 x1 x2 x3 = some r) : W p l e (sr_rm 0 0) s m args below meth c H locs 0 0 (sr_Qi D (tP t) below args s A (wP h t p0) r) (F0 m 2 ls []) := by
  have hx := X.1
  have hb := X.2.1
  have hK := X.2.2.2.2.2.2.1
  unfold f_P_isLinked_2 at hf
  refine lv_iload_n hx hb d_P_isLinked_2 rfl (lv_at hl 3 rfl) ?_
  refine lv_aload_n hx hb d_P_isLinked_3 rfl (lv_at hl 0 rfl) ?_
  refine g_P_75_P X Z d_P_isLinked_4 ?_
  refine lv_icmp_ge (tgt := 38) hx hb d_P_isLinked_7 rfl (fun q_1 => ?_) (fun q_1 => ?_)
  · have hf := sr_it q_1 hf
    refine lv_iconst (v := 0) hx hb d_P_isLinked_38 (by decide) ?_
    cases hf
    exact sr_retz X Z (by decide) d_P_isLinked_39
  · have hf := sr_if q_1 hf
    refine lv_aload_n hx hb d_P_isLinked_10 rfl (lv_at hl 0 rfl) ?_
    refine g_P_42_P X Z d_P_isLinked_11 ?_
    refine lv_iload_n hx hb d_P_isLinked_14 rfl (lv_at hl 3 rfl) ?_
    obtain ⟨v_2, e_3, hf⟩ := sr_b hf
    refine sr_iald hx hb hK Z 11 10 rfl rfl e_3 d_P_isLinked_15 ?_
    refine lv_iload_n hx hb d_P_isLinked_16 rfl (lv_at hl 1 rfl) ?_
    refine lv_icmp_ne (tgt := 32) hx hb d_P_isLinked_17 rfl (fun q_4 => ?_) (fun q_4 => ?_)
    · have hf := sr_if q_4 hf
      exact k_P_isLinked_32 X hk2 Z (lv_sub hl [0, 1, 2, 3] rfl) hf
    · have hf := sr_it q_4 hf
      refine lv_aload_n hx hb d_P_isLinked_20 rfl (lv_at hl 0 rfl) ?_
      refine g_P_45_P X Z d_P_isLinked_21 ?_
      refine lv_iload_n hx hb d_P_isLinked_24 rfl (lv_at hl 3 rfl) ?_
      obtain ⟨v_5, e_6, hf⟩ := sr_b hf
      refine sr_iald hx hb hK Z 12 11 rfl rfl e_6 d_P_isLinked_25 ?_
      refine lv_iload_n hx hb d_P_isLinked_26 rfl (lv_at hl 2 rfl) ?_
      refine lv_icmp_ne (tgt := 32) hx hb d_P_isLinked_27 rfl (fun q_7 => ?_) (fun q_7 => ?_)
      · have hf := sr_if q_7 hf
        exact k_P_isLinked_32 X hk2 Z (lv_sub hl [0, 1, 2, 3] rfl) hf
      · have hf := sr_it q_7 hf
        refine lv_iconst (v := 1) hx hb d_P_isLinked_30 (by decide) ?_
        cases hf
        exact sr_retz X Z (by decide) d_P_isLinked_31
def f_P_isLinked_2_it (p0 : St) : Nat → Int32 → Int32 → Int32 → Option (Int32)
  | 0 => fun _ _ _ => none
  | n + 1 => fun x1 x2 x3 => f_P_isLinked_2 (f_P_isLinked_2_it p0 n) p0 x1 x2 x3
set_option maxHeartbeats 4000000 in
set_option maxRecDepth 100000 in
theorem k_P_isLinked_2_it {p0 : St} {r : Int32} (X : sr_X D (tP t) b_P_isLinked 4 R_P w_P_isLinked p s m args meth c A (some .boolean)) (n : Nat) : ∀ {x1 : Int32} {x2 : Int32} {x3 : Int32} {H : Heap} {locs : List Loc} {ls : Array Slot}, sr_Z D A s.heap (wP h t p0) H locs → lv_has ls 4 [(0, .ref (h 0)), (1, .int x1), (2, .int x2), (3, .int x3)] → f_P_isLinked_2_it p0 n x1 x2 x3 = some r → W p l e (sr_rm 0 0) s m args below meth c H locs 0 0 (sr_Qi D (tP t) below args s A (wP h t p0) r) (F0 m 2 ls []) := by
  induction n with
  | zero => intro x1 x2 x3 H locs ls Z hl hf; exact absurd hf (by simp [f_P_isLinked_2_it])
  | succ n ih =>
    intro x1 x2 x3 H locs ls Z hl hf
    exact k_P_isLinked_2 X (fun x1 x2 x3 H locs ls Z hl hf => ih Z hl hf) Z hl hf
def f_P_isLinked (p0 : St) (x1 : Int32) (x2 : Int32) : Option (Int32) :=
  f_P_isLinked_2_it p0 60 x1 x2 0
set_option maxHeartbeats 4000000 in
set_option maxRecDepth 100000 in
theorem k_P_isLinked_0 {p0 : St} {x1 : Int32} {x2 : Int32} {r : Int32} (X : sr_X D (tP t) b_P_isLinked 4 R_P w_P_isLinked p s m args meth c A (some .boolean)) (Z : sr_Z D A s.heap (wP h t p0) H locs) (hl : lv_has ls 4 [(0, .ref (h 0)), (1, .int x1), (2, .int x2)]) (hf : f_P_isLinked p0 x1 x2 = some r) : W p l e (sr_rm 0 0) s m args below meth c H locs 0 0 (sr_Qi D (tP t) below args s A (wP h t p0) r) (F0 m 0 ls []) := by
  have hx := X.1
  have hb := X.2.1
  have hK := X.2.2.2.2.2.2.1
  unfold f_P_isLinked at hf
  refine lv_iconst (v := 0) hx hb d_P_isLinked_0 (by decide) ?_
  refine lv_istore_n (lv' := [(3, .int 0), (0, .ref (h 0)), (1, .int x1), (2, .int x2)]) hx hb d_P_isLinked_1 rfl hl (by decide) rfl (fun ls hl => ?_)
  exact k_P_isLinked_2_it X _ Z (lv_sub hl [1, 2, 3, 0] rfl) hf
end
set_option maxHeartbeats 4000000 in
set_option maxRecDepth 100000 in
theorem c_P_isLinked {l : Launch} {D : va_G} {h : Nat → Nat} {t : Nat → ClassId} {sz : Nat} {p0 : St} {x1 : Int32} {x2 : Int32} {r : Int32} (hf : f_P_isLinked p0 x1 x2 = some r) : sr_Ci l y_P_isLinked w_P_isLinked (sr_rm 0 0) D (tP t) (wP h t p0) (wP h t p0) sz [.ref (h 0), .int x1, .int x2] r := by
  refine Met.ofW (cc := b_P_isLinked) (maxL := 4) (ret := (some .boolean)) (by decide) rfl ?_
  intro p e s m args below meth c s₁ B hml hv
  obtain ⟨rfl, hsz, hP, hK, hD0⟩ := hv
  subst hsz
  have X : sr_X D (tP t) b_P_isLinked 4 R_P w_P_isLinked p s m _ meth c (va_A (wP h t p0) s.heap.size) (some .boolean) := ⟨B.exec, B.bytes, hml, findClass_of_methodNamed B.named, B.notSynchronized, atoms_spec (ws := w_P_isLinked) B.pre, hK, fun q h => Or.inr h, B.returns⟩
  have Z : sr_Z D (va_A (wP h t p0) s.heap.size) s.heap (wP h t p0) s.heap [] := ⟨hP, hD0.self, va_S.rf⟩
  have hl := lv_entry ([.ref (h 0), .int x1, .int x2] : List Value) (n := 4) (Nat.le_of_ble_eq_true rfl)
  rw [lg_entry_eq]
  exact k_P_isLinked_0 X Z hl hf
/-! P_appendLink -/
theorem d_P_appendLink_0 : decode b_P_appendLink 0 = .ok (.aload_n 0, 1) := by decide +kernel
theorem d_P_appendLink_1 : decode b_P_appendLink 1 = .ok (.getfield 42, 3) := by decide +kernel
theorem d_P_appendLink_4 : decode b_P_appendLink 4 = .ok (.aload_n 0, 1) := by decide +kernel
theorem d_P_appendLink_5 : decode b_P_appendLink 5 = .ok (.getfield 75, 3) := by decide +kernel
theorem d_P_appendLink_8 : decode b_P_appendLink 8 = .ok (.iload_n 1, 1) := by decide +kernel
theorem d_P_appendLink_9 : decode b_P_appendLink 9 = .ok (.iastore, 1) := by decide +kernel
theorem d_P_appendLink_10 : decode b_P_appendLink 10 = .ok (.aload_n 0, 1) := by decide +kernel
theorem d_P_appendLink_11 : decode b_P_appendLink 11 = .ok (.getfield 45, 3) := by decide +kernel
theorem d_P_appendLink_14 : decode b_P_appendLink 14 = .ok (.aload_n 0, 1) := by decide +kernel
theorem d_P_appendLink_15 : decode b_P_appendLink 15 = .ok (.getfield 75, 3) := by decide +kernel
theorem d_P_appendLink_18 : decode b_P_appendLink 18 = .ok (.iload_n 2, 1) := by decide +kernel
theorem d_P_appendLink_19 : decode b_P_appendLink 19 = .ok (.iastore, 1) := by decide +kernel
theorem d_P_appendLink_20 : decode b_P_appendLink 20 = .ok (.aload_n 0, 1) := by decide +kernel
theorem d_P_appendLink_21 : decode b_P_appendLink 21 = .ok (.getfield 48, 3) := by decide +kernel
theorem d_P_appendLink_24 : decode b_P_appendLink 24 = .ok (.aload_n 0, 1) := by decide +kernel
theorem d_P_appendLink_25 : decode b_P_appendLink 25 = .ok (.getfield 75, 3) := by decide +kernel
theorem d_P_appendLink_28 : decode b_P_appendLink 28 = .ok (.iload_n 3, 1) := by decide +kernel
theorem d_P_appendLink_29 : decode b_P_appendLink 29 = .ok (.iastore, 1) := by decide +kernel
theorem d_P_appendLink_30 : decode b_P_appendLink 30 = .ok (.aload_n 0, 1) := by decide +kernel
theorem d_P_appendLink_31 : decode b_P_appendLink 31 = .ok (.getfield 51, 3) := by decide +kernel
theorem d_P_appendLink_34 : decode b_P_appendLink 34 = .ok (.aload_n 0, 1) := by decide +kernel
theorem d_P_appendLink_35 : decode b_P_appendLink 35 = .ok (.getfield 75, 3) := by decide +kernel
theorem d_P_appendLink_38 : decode b_P_appendLink 38 = .ok (.iload 4, 2) := by decide +kernel
theorem d_P_appendLink_40 : decode b_P_appendLink 40 = .ok (.iastore, 1) := by decide +kernel
theorem d_P_appendLink_41 : decode b_P_appendLink 41 = .ok (.aload_n 0, 1) := by decide +kernel
theorem d_P_appendLink_42 : decode b_P_appendLink 42 = .ok (.dup, 1) := by decide +kernel
theorem d_P_appendLink_43 : decode b_P_appendLink 43 = .ok (.getfield 75, 3) := by decide +kernel
theorem d_P_appendLink_46 : decode b_P_appendLink 46 = .ok (.iconst 1, 1) := by decide +kernel
theorem d_P_appendLink_47 : decode b_P_appendLink 47 = .ok (.iadd, 1) := by decide +kernel
theorem d_P_appendLink_48 : decode b_P_appendLink 48 = .ok (.putfield 75, 3) := by decide +kernel
theorem d_P_appendLink_51 : decode b_P_appendLink 51 = .ok (.aload_n 0, 1) := by decide +kernel
theorem d_P_appendLink_52 : decode b_P_appendLink 52 = .ok (.getfield 75, 3) := by decide +kernel
theorem d_P_appendLink_55 : decode b_P_appendLink 55 = .ok (.iconst 1, 1) := by decide +kernel
theorem d_P_appendLink_56 : decode b_P_appendLink 56 = .ok (.isub, 1) := by decide +kernel
theorem d_P_appendLink_57 : decode b_P_appendLink 57 = .ok (.ireturn, 1) := by decide +kernel
section
variable {p : Program} {l : Launch} {e : Env} {s : State} {m : MethodId} {args : Array Value} {below : List Frame} {meth : Method} {c : Code} {H : Heap} {locs : List Loc} {ls : Array Slot} {D : va_G} {A : Nat → Prop} {h o : Nat → Nat} {t v : Nat → ClassId}
def f_P_appendLink (x1 : Int32) (x2 : Int32) (x3 : Int32) (x4 : Int32) (p0 : St) : Option (Int32 × St) :=
  (sr_ast 16 p0 11 (p0 15 0) x1).bind fun p_1 =>
  (sr_ast 16 p_1 12 (p_1 15 0) x2).bind fun p_3 =>
  (sr_ast 16 p_3 13 (p_3 15 0) x3).bind fun p_5 =>
  (sr_ast 16 p_5 14 (p_5 15 0) x4).bind fun p_7 =>
  (sr_pf p_7 15 ((p_7 15 0) + 1)).bind fun p_9 =>
  some ((p_9 15 0) - 1, p_9)
set_option maxHeartbeats 4000000 in
set_option maxRecDepth 100000 in
theorem k_P_appendLink_0 {x1 : Int32} {x2 : Int32} {x3 : Int32} {x4 : Int32} {p0 : St} {r : Int32} {p' : St} (X : sr_X D (tP t) b_P_appendLink 5 R_P w_P_appendLink p s m args meth c A (some .int)) (Z : sr_Z D A s.heap (wP h t p0) H locs) (hl : lv_has ls 5 [(0, .ref (h 0)), (1, .int x1), (2, .int x2), (3, .int x3), (4, .int x4)]) (hf : f_P_appendLink x1 x2 x3 x4 p0 = some (r, p')) : W p l e (sr_rm 0 0) s m args below meth c H locs 0 0 (sr_Qi D (tP t) below args s A (wP h t p') r) (F0 m 0 ls []) := by
  have hx := X.1
  have hb := X.2.1
  have hK := X.2.2.2.2.2.2.1
  unfold f_P_appendLink at hf
  refine lv_aload_n hx hb d_P_appendLink_0 rfl (lv_at hl 0 rfl) ?_
  refine g_P_42_P X Z d_P_appendLink_1 ?_
  refine lv_aload_n hx hb d_P_appendLink_4 rfl (lv_at hl 0 rfl) ?_
  refine g_P_75_P X Z d_P_appendLink_5 ?_
  refine lv_iload_n hx hb d_P_appendLink_8 rfl (lv_at hl 1 rfl) ?_
  obtain ⟨p_1, e_2, hf⟩ := sr_b hf
  refine sr_iast (wf := (fun q => (wP h t q))) hx hb hK Z 11 10 rfl rfl e_2 (fun _ => rfl) d_P_appendLink_9 (fun H locs Z => ?_)
  refine lv_aload_n hx hb d_P_appendLink_10 rfl (lv_at hl 0 rfl) ?_
  refine g_P_45_P X Z d_P_appendLink_11 ?_
  refine lv_aload_n hx hb d_P_appendLink_14 rfl (lv_at hl 0 rfl) ?_
  refine g_P_75_P X Z d_P_appendLink_15 ?_
  refine lv_iload_n hx hb d_P_appendLink_18 rfl (lv_at hl 2 rfl) ?_
  obtain ⟨p_3, e_4, hf⟩ := sr_b hf
  refine sr_iast (wf := (fun q => (wP h t q))) hx hb hK Z 12 11 rfl rfl e_4 (fun _ => rfl) d_P_appendLink_19 (fun H locs Z => ?_)
  refine lv_aload_n hx hb d_P_appendLink_20 rfl (lv_at hl 0 rfl) ?_
  refine g_P_48_P X Z d_P_appendLink_21 ?_
  refine lv_aload_n hx hb d_P_appendLink_24 rfl (lv_at hl 0 rfl) ?_
  refine g_P_75_P X Z d_P_appendLink_25 ?_
  refine lv_iload_n hx hb d_P_appendLink_28 rfl (lv_at hl 3 rfl) ?_
  obtain ⟨p_5, e_6, hf⟩ := sr_b hf
  refine sr_iast (wf := (fun q => (wP h t q))) hx hb hK Z 13 12 rfl rfl e_6 (fun _ => rfl) d_P_appendLink_29 (fun H locs Z => ?_)
  refine lv_aload_n hx hb d_P_appendLink_30 rfl (lv_at hl 0 rfl) ?_
  refine g_P_51_P X Z d_P_appendLink_31 ?_
  refine lv_aload_n hx hb d_P_appendLink_34 rfl (lv_at hl 0 rfl) ?_
  refine g_P_75_P X Z d_P_appendLink_35 ?_
  refine lv_iload hx hb d_P_appendLink_38 (lv_at hl 4 rfl) ?_
  obtain ⟨p_7, e_8, hf⟩ := sr_b hf
  refine sr_iast (wf := (fun q => (wP h t q))) hx hb hK Z 14 13 rfl rfl e_8 (fun _ => rfl) d_P_appendLink_40 (fun H locs Z => ?_)
  refine lv_aload_n hx hb d_P_appendLink_41 rfl (lv_at hl 0 rfl) ?_
  refine lv_dup hx hb d_P_appendLink_42 rfl ?_
  refine g_P_75_P X Z d_P_appendLink_43 ?_
  refine lv_iconst (v := 1) hx hb d_P_appendLink_46 (by decide) ?_
  refine lv_iadd hx hb d_P_appendLink_47 ?_
  obtain ⟨p_9, e_10, hf⟩ := sr_b hf
  refine s_P_75_P X Z e_10 d_P_appendLink_48 (fun H locs Z => ?_)
  refine lv_aload_n hx hb d_P_appendLink_51 rfl (lv_at hl 0 rfl) ?_
  refine g_P_75_P X Z d_P_appendLink_52 ?_
  refine lv_iconst (v := 1) hx hb d_P_appendLink_55 (by decide) ?_
  refine lv_isub hx hb d_P_appendLink_56 ?_
  cases hf
  exact sr_reti X Z d_P_appendLink_57
end
set_option maxHeartbeats 4000000 in
set_option maxRecDepth 100000 in
theorem c_P_appendLink {l : Launch} {D : va_G} {h : Nat → Nat} {t : Nat → ClassId} {sz : Nat} {x1 : Int32} {x2 : Int32} {x3 : Int32} {x4 : Int32} {p0 : St} {r : Int32} {p' : St} (hf : f_P_appendLink x1 x2 x3 x4 p0 = some (r, p')) : sr_Ci l y_P_appendLink w_P_appendLink (sr_rm 0 0) D (tP t) (wP h t p0) (wP h t p') sz [.ref (h 0), .int x1, .int x2, .int x3, .int x4] r := by
  refine Met.ofW (cc := b_P_appendLink) (maxL := 5) (ret := (some .int)) (by decide) rfl ?_
  intro p e s m args below meth c s₁ B hml hv
  obtain ⟨rfl, hsz, hP, hK, hD0⟩ := hv
  subst hsz
  have X : sr_X D (tP t) b_P_appendLink 5 R_P w_P_appendLink p s m _ meth c (va_A (wP h t p0) s.heap.size) (some .int) := ⟨B.exec, B.bytes, hml, findClass_of_methodNamed B.named, B.notSynchronized, atoms_spec (ws := w_P_appendLink) B.pre, hK, fun q h => Or.inr h, B.returns⟩
  have Z : sr_Z D (va_A (wP h t p0) s.heap.size) s.heap (wP h t p0) s.heap [] := ⟨hP, hD0.self, va_S.rf⟩
  have hl := lv_entry ([.ref (h 0), .int x1, .int x2, .int x3, .int x4] : List Value) (n := 5) (Nat.le_of_ble_eq_true rfl)
  rw [lg_entry_eq]
  exact k_P_appendLink_0 X Z hl hf
/-! P_isBelow -/
theorem d_P_isBelow_0 : decode b_P_isBelow 0 = .ok (.iload_n 1, 1) := by decide +kernel
theorem d_P_isBelow_1 : decode b_P_isBelow 1 = .ok (.iload_n 2, 1) := by decide +kernel
theorem d_P_isBelow_2 : decode b_P_isBelow 2 = .ok (.if_icmp .eq 20, 3) := by decide +kernel
theorem d_P_isBelow_5 : decode b_P_isBelow 5 = .ok (.iload_n 1, 1) := by decide +kernel
theorem d_P_isBelow_6 : decode b_P_isBelow 6 = .ok (.aload_n 0, 1) := by decide +kernel
theorem d_P_isBelow_7 : decode b_P_isBelow 7 = .ok (.getfield 39, 3) := by decide +kernel
theorem d_P_isBelow_10 : decode b_P_isBelow 10 = .ok (.iload_n 2, 1) := by decide +kernel
theorem d_P_isBelow_11 : decode b_P_isBelow 11 = .ok (.iaload, 1) := by decide +kernel
theorem d_P_isBelow_12 : decode b_P_isBelow 12 = .ok (.invokestatic 71, 3) := by decide +kernel
theorem d_P_isBelow_15 : decode b_P_isBelow 15 = .ok (.ifCond .eq 7, 3) := by decide +kernel
theorem d_P_isBelow_18 : decode b_P_isBelow 18 = .ok (.iconst 1, 1) := by decide +kernel
theorem d_P_isBelow_19 : decode b_P_isBelow 19 = .ok (.goto 4, 3) := by decide +kernel
theorem d_P_isBelow_22 : decode b_P_isBelow 22 = .ok (.iconst 0, 1) := by decide +kernel
theorem d_P_isBelow_23 : decode b_P_isBelow 23 = .ok (.ireturn, 1) := by decide +kernel
section
variable {p : Program} {l : Launch} {e : Env} {s : State} {m : MethodId} {args : Array Value} {below : List Frame} {meth : Method} {c : Code} {H : Heap} {locs : List Loc} {ls : Array Slot} {D : va_G} {A : Nat → Prop} {h o : Nat → Nat} {t v : Nat → ClassId}
def f_P_isBelow (p0 : St) (x1 : Int32) (x2 : Int32) : Option (Int32) :=
  if x1 = x2 then
    some 0
  else
    (sr_ald 24 (p0 9) x2).bind fun v_2 =>
    (f_P_isIn x1 v_2).bind fun v_4 =>
    if v_4 = 0 then
      some 0
    else
      some 1
set_option maxHeartbeats 4000000 in
set_option maxRecDepth 100000 in
theorem k_P_isBelow_0 {p0 : St} {x1 : Int32} {x2 : Int32} {r : Int32} (X : sr_X D (tP t) b_P_isBelow 3 R_P w_P_isBelow p s m args meth c A (some .boolean)) (Z : sr_Z D A s.heap (wP h t p0) H locs) (hl : lv_has ls 3 [(0, .ref (h 0)), (1, .int x1), (2, .int x2)]) (hf : f_P_isBelow p0 x1 x2 = some r) : W p l e (sr_rm 1 21) s m args below meth c H locs 0 0 (sr_Qi D (tP t) below args s A (wP h t p0) r) (F0 m 0 ls []) := by
  have hx := X.1
  have hb := X.2.1
  have hK := X.2.2.2.2.2.2.1
  unfold f_P_isBelow at hf
  refine lv_iload_n hx hb d_P_isBelow_0 rfl (lv_at hl 1 rfl) ?_
  refine lv_iload_n hx hb d_P_isBelow_1 rfl (lv_at hl 2 rfl) ?_
  refine lv_icmp_eq (tgt := 22) hx hb d_P_isBelow_2 rfl (fun q_1 => ?_) (fun q_1 => ?_)
  · have hf := sr_it q_1 hf
    refine lv_iconst (v := 0) hx hb d_P_isBelow_22 (by decide) ?_
    cases hf
    exact sr_retz X Z (by decide) d_P_isBelow_23
  · have hf := sr_if q_1 hf
    refine lv_iload_n hx hb d_P_isBelow_5 rfl (lv_at hl 1 rfl) ?_
    refine lv_aload_n hx hb d_P_isBelow_6 rfl (lv_at hl 0 rfl) ?_
    refine g_P_39_P X Z d_P_isBelow_7 ?_
    refine lv_iload_n hx hb d_P_isBelow_10 rfl (lv_at hl 2 rfl) ?_
    obtain ⟨v_2, e_3, hf⟩ := sr_b hf
    refine sr_iald hx hb hK Z 10 9 rfl rfl e_3 d_P_isBelow_11 ?_
    obtain ⟨v_4, e_5, hf⟩ := sr_b hf
    refine sr_cSi (As := [.int x1, .int v_2]) (rest := []) X Z sr_cut_0 (va_K.sub hK [] rfl) (c_P_isIn e_5) (cw_P_71 X.2.2.2.2.2.1 (by decide)) rfl hl rfl (Nat.le_of_ble_eq_true rfl) d_P_isBelow_12 (fun H locs Z => ?_)
    refine lv_if_eq (tgt := 22) hx hb d_P_isBelow_15 rfl (fun q_6 => ?_) (fun q_6 => ?_)
    · have hf := sr_it q_6 hf
      refine lv_iconst (v := 0) hx hb d_P_isBelow_22 (by decide) ?_
      cases hf
      exact sr_retz X Z (by decide) d_P_isBelow_23
    · have hf := sr_if q_6 hf
      refine lv_iconst (v := 1) hx hb d_P_isBelow_18 (by decide) ?_
      refine lv_goto (tgt := 23) hx hb d_P_isBelow_19 rfl ?_
      cases hf
      exact sr_retz X Z (by decide) d_P_isBelow_23
end
set_option maxHeartbeats 4000000 in
set_option maxRecDepth 100000 in
theorem c_P_isBelow {l : Launch} {D : va_G} {h : Nat → Nat} {t : Nat → ClassId} {sz : Nat} {p0 : St} {x1 : Int32} {x2 : Int32} {r : Int32} (hf : f_P_isBelow p0 x1 x2 = some r) : sr_Ci l y_P_isBelow w_P_isBelow (sr_rm 1 21) D (tP t) (wP h t p0) (wP h t p0) sz [.ref (h 0), .int x1, .int x2] r := by
  refine Met.ofW (cc := b_P_isBelow) (maxL := 3) (ret := (some .boolean)) (by decide) rfl ?_
  intro p e s m args below meth c s₁ B hml hv
  obtain ⟨rfl, hsz, hP, hK, hD0⟩ := hv
  subst hsz
  have X : sr_X D (tP t) b_P_isBelow 3 R_P w_P_isBelow p s m _ meth c (va_A (wP h t p0) s.heap.size) (some .boolean) := ⟨B.exec, B.bytes, hml, findClass_of_methodNamed B.named, B.notSynchronized, atoms_spec (ws := w_P_isBelow) B.pre, hK, fun q h => Or.inr h, B.returns⟩
  have Z : sr_Z D (va_A (wP h t p0) s.heap.size) s.heap (wP h t p0) s.heap [] := ⟨hP, hD0.self, va_S.rf⟩
  have hl := lv_entry ([.ref (h 0), .int x1, .int x2] : List Value) (n := 3) (Nat.le_of_ble_eq_true rfl)
  rw [lg_entry_eq]
  exact k_P_isBelow_0 X Z hl hf
/-! P_isTarget -/
theorem d_P_isTarget_0 : decode b_P_isTarget 0 = .ok (.iconst 0, 1) := by decide +kernel
theorem d_P_isTarget_1 : decode b_P_isTarget 1 = .ok (.istore_n 2, 1) := by decide +kernel
theorem d_P_isTarget_2 : decode b_P_isTarget 2 = .ok (.iload_n 2, 1) := by decide +kernel
theorem d_P_isTarget_3 : decode b_P_isTarget 3 = .ok (.aload_n 0, 1) := by decide +kernel
theorem d_P_isTarget_4 : decode b_P_isTarget 4 = .ok (.getfield 75, 3) := by decide +kernel
theorem d_P_isTarget_7 : decode b_P_isTarget 7 = .ok (.if_icmp .ge 21, 3) := by decide +kernel
theorem d_P_isTarget_10 : decode b_P_isTarget 10 = .ok (.aload_n 0, 1) := by decide +kernel
theorem d_P_isTarget_11 : decode b_P_isTarget 11 = .ok (.getfield 45, 3) := by decide +kernel
theorem d_P_isTarget_14 : decode b_P_isTarget 14 = .ok (.iload_n 2, 1) := by decide +kernel
theorem d_P_isTarget_15 : decode b_P_isTarget 15 = .ok (.iaload, 1) := by decide +kernel
theorem d_P_isTarget_16 : decode b_P_isTarget 16 = .ok (.iload_n 1, 1) := by decide +kernel
theorem d_P_isTarget_17 : decode b_P_isTarget 17 = .ok (.if_icmp .ne 5, 3) := by decide +kernel
theorem d_P_isTarget_20 : decode b_P_isTarget 20 = .ok (.iconst 1, 1) := by decide +kernel
theorem d_P_isTarget_21 : decode b_P_isTarget 21 = .ok (.ireturn, 1) := by decide +kernel
theorem d_P_isTarget_22 : decode b_P_isTarget 22 = .ok (.iinc 2 1, 3) := by decide +kernel
theorem d_P_isTarget_25 : decode b_P_isTarget 25 = .ok (.goto (-23), 3) := by decide +kernel
theorem d_P_isTarget_28 : decode b_P_isTarget 28 = .ok (.iconst 0, 1) := by decide +kernel
theorem d_P_isTarget_29 : decode b_P_isTarget 29 = .ok (.ireturn, 1) := by decide +kernel
section
variable {p : Program} {l : Launch} {e : Env} {s : State} {m : MethodId} {args : Array Value} {below : List Frame} {meth : Method} {c : Code} {H : Heap} {locs : List Loc} {ls : Array Slot} {D : va_G} {A : Nat → Prop} {h o : Nat → Nat} {t v : Nat → ClassId}
def f_P_isTarget_2 (k2 : Int32 → Int32 → Option (Int32)) (p0 : St) (x1 : Int32) (x2 : Int32) : Option (Int32) :=
  if (p0 15 0) ≤ x2 then
    some 0
  else
    (sr_ald 16 (p0 12) x2).bind fun v_2 =>
    if v_2 = x1 then
      some 1
    else
      k2 x1 (x2 + 1)
set_option maxHeartbeats 4000000 in
set_option maxRecDepth 100000 in
theorem k_P_isTarget_2 {k2 : Int32 → Int32 → Option (Int32)} {p0 : St} {x1 : Int32} {x2 : Int32} {r : Int32} (X : sr_X D (tP t) b_P_isTarget 3 R_P w_P_isTarget p s m args meth c A (some .boolean)) (hk2 : ∀ (x1 : Int32) (x2 : Int32) (H : Heap) (locs : List Loc) (ls : Array Slot), sr_Z D A s.heap (wP h t p0) H locs → lv_has ls 3 [(0, .ref (h 0)), (1, .int x1), (2, .int x2)] → k2 x1 x2 = some r → W p l e (sr_rm 0 0) s m args below meth c H locs 0 0 (sr_Qi D (tP t) below args s A (wP h t p0) r) (F0 m 2 ls [])) (Z : sr_Z D A s.heap (wP h t p0) H locs) (hl : lv_has ls 3 [(0, .ref (h 0)), (1, .int x1), (2, .int x2)]) (hf : f_P_isTarget_2 k2 p0 x1 x2 = some r) : W p l e (sr_rm 0 0) s m args below meth c H locs 0 0 (sr_Qi D (tP t) below args s A (wP h t p0) r) (F0 m 2 ls []) := by
  have hx := X.1
  have hb := X.2.1
  have hK := X.2.2.2.2.2.2.1
  unfold f_P_isTarget_2 at hf
  refine lv_iload_n hx hb d_P_isTarget_2 rfl (lv_at hl 2 rfl) ?_
  refine lv_aload_n hx hb d_P_isTarget_3 rfl (lv_at hl 0 rfl) ?_
  refine g_P_75_P X Z d_P_isTarget_4 ?_
  refine lv_icmp_ge (tgt := 28) hx hb d_P_isTarget_7 rfl (fun q_1 => ?_) (fun q_1 => ?_)
  · have hf := sr_it q_1 hf
    refine lv_iconst (v := 0) hx hb d_P_isTarget_28 (by decide) ?_
    cases hf
    exact sr_retz X Z (by decide) d_P_isTarget_29
  · have hf := sr_if q_1 hf
    refine lv_aload_n hx hb d_P_isTarget_10 rfl (lv_at hl 0 rfl) ?_
    refine g_P_45_P X Z d_P_isTarget_11 ?_
    refine lv_iload_n hx hb d_P_isTarget_14 rfl (lv_at hl 2 rfl) ?_
    obtain ⟨v_2, e_3, hf⟩ := sr_b hf
    refine sr_iald hx hb hK Z 12 11 rfl rfl e_3 d_P_isTarget_15 ?_
    refine lv_iload_n hx hb d_P_isTarget_16 rfl (lv_at hl 1 rfl) ?_
    refine lv_icmp_ne (tgt := 22) hx hb d_P_isTarget_17 rfl (fun q_4 => ?_) (fun q_4 => ?_)
    · have hf := sr_if q_4 hf
      refine lv_iinc (k := 2) (v := x2 + 1) (lv' := [(2, .int (x2 + 1)), (0, .ref (h 0)), (1, .int x1)]) hx hb d_P_isTarget_22 hl rfl rfl (by decide) rfl (fun ls hl => ?_)
      refine lv_goto (tgt := 2) hx hb d_P_isTarget_25 rfl ?_
      exact hk2 x1 (x2 + 1) _ _ _ Z (lv_sub hl [1, 2, 0] rfl) hf
    · have hf := sr_it q_4 hf
      refine lv_iconst (v := 1) hx hb d_P_isTarget_20 (by decide) ?_
      cases hf
      exact sr_retz X Z (by decide) d_P_isTarget_21
def f_P_isTarget_2_it (p0 : St) : Nat → Int32 → Int32 → Option (Int32)
  | 0 => fun _ _ => none
  | n + 1 => fun x1 x2 => f_P_isTarget_2 (f_P_isTarget_2_it p0 n) p0 x1 x2
set_option maxHeartbeats 4000000 in
set_option maxRecDepth 100000 in
theorem k_P_isTarget_2_it {p0 : St} {r : Int32} (X : sr_X D (tP t) b_P_isTarget 3 R_P w_P_isTarget p s m args meth c A (some .boolean)) (n : Nat) : ∀ {x1 : Int32} {x2 : Int32} {H : Heap} {locs : List Loc} {ls : Array Slot}, sr_Z D A s.heap (wP h t p0) H locs → lv_has ls 3 [(0, .ref (h 0)), (1, .int x1), (2, .int x2)] → f_P_isTarget_2_it p0 n x1 x2 = some r → W p l e (sr_rm 0 0) s m args below meth c H locs 0 0 (sr_Qi D (tP t) below args s A (wP h t p0) r) (F0 m 2 ls []) := by
  induction n with
  | zero => intro x1 x2 H locs ls Z hl hf; exact absurd hf (by simp [f_P_isTarget_2_it])
  | succ n ih =>
    intro x1 x2 H locs ls Z hl hf
    exact k_P_isTarget_2 X (fun x1 x2 H locs ls Z hl hf => ih Z hl hf) Z hl hf
def f_P_isTarget (p0 : St) (x1 : Int32) : Option (Int32) :=
  f_P_isTarget_2_it p0 60 x1 0
set_option maxHeartbeats 4000000 in
set_option maxRecDepth 100000 in
theorem k_P_isTarget_0 {p0 : St} {x1 : Int32} {r : Int32} (X : sr_X D (tP t) b_P_isTarget 3 R_P w_P_isTarget p s m args meth c A (some .boolean)) (Z : sr_Z D A s.heap (wP h t p0) H locs) (hl : lv_has ls 3 [(0, .ref (h 0)), (1, .int x1)]) (hf : f_P_isTarget p0 x1 = some r) : W p l e (sr_rm 0 0) s m args below meth c H locs 0 0 (sr_Qi D (tP t) below args s A (wP h t p0) r) (F0 m 0 ls []) := by
  have hx := X.1
  have hb := X.2.1
  have hK := X.2.2.2.2.2.2.1
  unfold f_P_isTarget at hf
  refine lv_iconst (v := 0) hx hb d_P_isTarget_0 (by decide) ?_
  refine lv_istore_n (lv' := [(2, .int 0), (0, .ref (h 0)), (1, .int x1)]) hx hb d_P_isTarget_1 rfl hl (by decide) rfl (fun ls hl => ?_)
  exact k_P_isTarget_2_it X _ Z (lv_sub hl [1, 2, 0] rfl) hf
end
set_option maxHeartbeats 4000000 in
set_option maxRecDepth 100000 in
theorem c_P_isTarget {l : Launch} {D : va_G} {h : Nat → Nat} {t : Nat → ClassId} {sz : Nat} {p0 : St} {x1 : Int32} {r : Int32} (hf : f_P_isTarget p0 x1 = some r) : sr_Ci l y_P_isTarget w_P_isTarget (sr_rm 0 0) D (tP t) (wP h t p0) (wP h t p0) sz [.ref (h 0), .int x1] r := by
  refine Met.ofW (cc := b_P_isTarget) (maxL := 3) (ret := (some .boolean)) (by decide) rfl ?_
  intro p e s m args below meth c s₁ B hml hv
  obtain ⟨rfl, hsz, hP, hK, hD0⟩ := hv
  subst hsz
  have X : sr_X D (tP t) b_P_isTarget 3 R_P w_P_isTarget p s m _ meth c (va_A (wP h t p0) s.heap.size) (some .boolean) := ⟨B.exec, B.bytes, hml, findClass_of_methodNamed B.named, B.notSynchronized, atoms_spec (ws := w_P_isTarget) B.pre, hK, fun q h => Or.inr h, B.returns⟩
  have Z : sr_Z D (va_A (wP h t p0) s.heap.size) s.heap (wP h t p0) s.heap [] := ⟨hP, hD0.self, va_S.rf⟩
  have hl := lv_entry ([.ref (h 0), .int x1] : List Value) (n := 3) (Nat.le_of_ble_eq_true rfl)
  rw [lg_entry_eq]
  exact k_P_isTarget_0 X Z hl hf
/-! P_childAfter -/
theorem d_P_childAfter_0 : decode b_P_childAfter 0 = .ok (.iload_n 2, 1) := by decide +kernel
theorem d_P_childAfter_1 : decode b_P_childAfter 1 = .ok (.iconst 1, 1) := by decide +kernel
theorem d_P_childAfter_2 : decode b_P_childAfter 2 = .ok (.iadd, 1) := by decide +kernel
theorem d_P_childAfter_3 : decode b_P_childAfter 3 = .ok (.istore_n 3, 1) := by decide +kernel
theorem d_P_childAfter_4 : decode b_P_childAfter 4 = .ok (.iload_n 3, 1) := by decide +kernel
theorem d_P_childAfter_5 : decode b_P_childAfter 5 = .ok (.aload_n 0, 1) := by decide +kernel
theorem d_P_childAfter_6 : decode b_P_childAfter 6 = .ok (.getfield 54, 3) := by decide +kernel
theorem d_P_childAfter_9 : decode b_P_childAfter 9 = .ok (.if_icmp .ge 30, 3) := by decide +kernel
theorem d_P_childAfter_12 : decode b_P_childAfter 12 = .ok (.aload_n 0, 1) := by decide +kernel
theorem d_P_childAfter_13 : decode b_P_childAfter 13 = .ok (.getfield 9, 3) := by decide +kernel
theorem d_P_childAfter_16 : decode b_P_childAfter 16 = .ok (.iload_n 3, 1) := by decide +kernel
theorem d_P_childAfter_17 : decode b_P_childAfter 17 = .ok (.iaload, 1) := by decide +kernel
theorem d_P_childAfter_18 : decode b_P_childAfter 18 = .ok (.iload_n 1, 1) := by decide +kernel
theorem d_P_childAfter_19 : decode b_P_childAfter 19 = .ok (.if_icmp .ne 14, 3) := by decide +kernel
theorem d_P_childAfter_22 : decode b_P_childAfter 22 = .ok (.aload_n 0, 1) := by decide +kernel
theorem d_P_childAfter_23 : decode b_P_childAfter 23 = .ok (.getfield 15, 3) := by decide +kernel
theorem d_P_childAfter_26 : decode b_P_childAfter 26 = .ok (.iload_n 3, 1) := by decide +kernel
theorem d_P_childAfter_27 : decode b_P_childAfter 27 = .ok (.iaload, 1) := by decide +kernel
theorem d_P_childAfter_28 : decode b_P_childAfter 28 = .ok (.ifCond .ne 5, 3) := by decide +kernel
theorem d_P_childAfter_31 : decode b_P_childAfter 31 = .ok (.iload_n 3, 1) := by decide +kernel
theorem d_P_childAfter_32 : decode b_P_childAfter 32 = .ok (.ireturn, 1) := by decide +kernel
theorem d_P_childAfter_33 : decode b_P_childAfter 33 = .ok (.iinc 3 1, 3) := by decide +kernel
theorem d_P_childAfter_36 : decode b_P_childAfter 36 = .ok (.goto (-32), 3) := by decide +kernel
theorem d_P_childAfter_39 : decode b_P_childAfter 39 = .ok (.iconst (-1), 1) := by decide +kernel
theorem d_P_childAfter_40 : decode b_P_childAfter 40 = .ok (.ireturn, 1) := by decide +kernel
section
variable {p : Program} {l : Launch} {e : Env} {s : State} {m : MethodId} {args : Array Value} {below : List Frame} {meth : Method} {c : Code} {H : Heap} {locs : List Loc} {ls : Array Slot} {D : va_G} {A : Nat → Prop} {h o : Nat → Nat} {t v : Nat → ClassId}
def f_P_childAfter_33 (k4 : Int32 → Int32 → Option (Int32)) (p0 : St) (x1 : Int32) (x3 : Int32) : Option (Int32) :=
  k4 x1 (x3 + 1)
set_option maxHeartbeats 4000000 in
set_option maxRecDepth 100000 in
theorem k_P_childAfter_33 {k4 : Int32 → Int32 → Option (Int32)} {p0 : St} {x1 : Int32} {x3 : Int32} {r : Int32} (X : sr_X D (tP t) b_P_childAfter 4 R_P w_P_childAfter p s m args meth c A (some .int)) (hk4 : ∀ (x1 : Int32) (x3 : Int32) (H : Heap) (locs : List Loc) (ls : Array Slot), sr_Z D A s.heap (wP h t p0) H locs → lv_has ls 4 [(0, .ref (h 0)), (1, .int x1), (3, .int x3)] → k4 x1 x3 = some r → W p l e (sr_rm 0 0) s m args below meth c H locs 0 0 (sr_Qi D (tP t) below args s A (wP h t p0) r) (F0 m 4 ls [])) (Z : sr_Z D A s.heap (wP h t p0) H locs) (hl : lv_has ls 4 [(0, .ref (h 0)), (1, .int x1), (3, .int x3)]) (hf : f_P_childAfter_33 k4 p0 x1 x3 = some r) : W p l e (sr_rm 0 0) s m args below meth c H locs 0 0 (sr_Qi D (tP t) below args s A (wP h t p0) r) (F0 m 33 ls []) := by
  have hx := X.1
  have hb := X.2.1
  have hK := X.2.2.2.2.2.2.1
  unfold f_P_childAfter_33 at hf
  refine lv_iinc (k := 2) (v := x3 + 1) (lv' := [(3, .int (x3 + 1)), (0, .ref (h 0)), (1, .int x1)]) hx hb d_P_childAfter_33 hl rfl rfl (by decide) rfl (fun ls hl => ?_)
  refine lv_goto (tgt := 4) hx hb d_P_childAfter_36 rfl ?_
  exact hk4 x1 (x3 + 1) _ _ _ Z (lv_sub hl [1, 2, 0] rfl) hf
def f_P_childAfter_4 (k4 : Int32 → Int32 → Option (Int32)) (p0 : St) (x1 : Int32) (x3 : Int32) : Option (Int32) :=
  if (p0 10 0) ≤ x3 then
    some (-1)
  else
    (sr_ald 24 (p0 0) x3).bind fun v_2 =>
    if v_2 = x1 then
      (sr_ald 24 (p0 1) x3).bind fun v_5 =>
      if v_5 = 0 then
        some x3
      else
        f_P_childAfter_33 k4 p0 x1 x3
    else
      f_P_childAfter_33 k4 p0 x1 x3
set_option maxHeartbeats 4000000 in
set_option maxRecDepth 100000 in
theorem k_P_childAfter_4 {k4 : Int32 → Int32 → Option (Int32)} {p0 : St} {x1 : Int32} {x3 : Int32} {r : Int32} (X : sr_X D (tP t) b_P_childAfter 4 R_P w_P_childAfter p s m args meth c A (some .int)) (hk4 : ∀ (x1 : Int32) (x3 : Int32) (H : Heap) (locs : List Loc) (ls : Array Slot), sr_Z D A s.heap (wP h t p0) H locs → lv_has ls 4 [(0, .ref (h 0)), (1, .int x1), (3, .int x3)] → k4 x1 x3 = some r → W p l e (sr_rm 0 0) s m args below meth c H locs 0 0 (sr_Qi D (tP t) below args s A (wP h t p0) r) (F0 m 4 ls [])) (Z : sr_Z D A s.heap (wP h t p0) H locs) (hl : lv_has ls 4 [(0, .ref (h 0)), (1, .int x1), (3, .int x3)]) (hf : f_P_childAfter_4 k4 p0 x1 x3 = some r) : W p l e (sr_rm 0 0) s m args below meth c H locs 0 0 (sr_Qi D (tP t) below args s A (wP h t p0) r) (F0 m 4 ls []) := by
  have hx := X.1
  have hb := X.2.1
  have hK := X.2.2.2.2.2.2.1
  unfold f_P_childAfter_4 at hf
  refine lv_iload_n hx hb d_P_childAfter_4 rfl (lv_at hl 2 rfl) ?_
  refine lv_aload_n hx hb d_P_childAfter_5 rfl (lv_at hl 0 rfl) ?_
  refine g_P_54_P X Z d_P_childAfter_6 ?_
  refine lv_icmp_ge (tgt := 39) hx hb d_P_childAfter_9 rfl (fun q_1 => ?_) (fun q_1 => ?_)
  · have hf := sr_it q_1 hf
    refine lv_iconst (v := -1) hx hb d_P_childAfter_39 (by decide) ?_
    cases hf
    exact sr_reti X Z d_P_childAfter_40
  · have hf := sr_if q_1 hf
    refine lv_aload_n hx hb d_P_childAfter_12 rfl (lv_at hl 0 rfl) ?_
    refine g_P_9_P X Z d_P_childAfter_13 ?_
    refine lv_iload_n hx hb d_P_childAfter_16 rfl (lv_at hl 2 rfl) ?_
    obtain ⟨v_2, e_3, hf⟩ := sr_b hf
    refine sr_iald hx hb hK Z 1 0 rfl rfl e_3 d_P_childAfter_17 ?_
    refine lv_iload_n hx hb d_P_childAfter_18 rfl (lv_at hl 1 rfl) ?_
    refine lv_icmp_ne (tgt := 33) hx hb d_P_childAfter_19 rfl (fun q_4 => ?_) (fun q_4 => ?_)
    · have hf := sr_if q_4 hf
      exact k_P_childAfter_33 X hk4 Z (lv_sub hl [0, 1, 2] rfl) hf
    · have hf := sr_it q_4 hf
      refine lv_aload_n hx hb d_P_childAfter_22 rfl (lv_at hl 0 rfl) ?_
      refine g_P_15_P X Z d_P_childAfter_23 ?_
      refine lv_iload_n hx hb d_P_childAfter_26 rfl (lv_at hl 2 rfl) ?_
      obtain ⟨v_5, e_6, hf⟩ := sr_b hf
      refine sr_iald hx hb hK Z 2 1 rfl rfl e_6 d_P_childAfter_27 ?_
      refine lv_if_ne (tgt := 33) hx hb d_P_childAfter_28 rfl (fun q_7 => ?_) (fun q_7 => ?_)
      · have hf := sr_if q_7 hf
        exact k_P_childAfter_33 X hk4 Z (lv_sub hl [0, 1, 2] rfl) hf
      · have hf := sr_it q_7 hf
        refine lv_iload_n hx hb d_P_childAfter_31 rfl (lv_at hl 2 rfl) ?_
        cases hf
        exact sr_reti X Z d_P_childAfter_32
def f_P_childAfter_4_it (p0 : St) : Nat → Int32 → Int32 → Option (Int32)
  | 0 => fun _ _ => none
  | n + 1 => fun x1 x3 => f_P_childAfter_4 (f_P_childAfter_4_it p0 n) p0 x1 x3
set_option maxHeartbeats 4000000 in
set_option maxRecDepth 100000 in
theorem k_P_childAfter_4_it {p0 : St} {r : Int32} (X : sr_X D (tP t) b_P_childAfter 4 R_P w_P_childAfter p s m args meth c A (some .int)) (n : Nat) : ∀ {x1 : Int32} {x3 : Int32} {H : Heap} {locs : List Loc} {ls : Array Slot}, sr_Z D A s.heap (wP h t p0) H locs → lv_has ls 4 [(0, .ref (h 0)), (1, .int x1), (3, .int x3)] → f_P_childAfter_4_it p0 n x1 x3 = some r → W p l e (sr_rm 0 0) s m args below meth c H locs 0 0 (sr_Qi D (tP t) below args s A (wP h t p0) r) (F0 m 4 ls []) := by
  induction n with
  | zero => intro x1 x3 H locs ls Z hl hf; exact absurd hf (by simp [f_P_childAfter_4_it])
  | succ n ih =>
    intro x1 x3 H locs ls Z hl hf
    exact k_P_childAfter_4 X (fun x1 x3 H locs ls Z hl hf => ih Z hl hf) Z hl hf
def f_P_childAfter (p0 : St) (x1 : Int32) (x2 : Int32) : Option (Int32) :=
  f_P_childAfter_4_it p0 60 x1 (x2 + 1)
set_option maxHeartbeats 4000000 in
set_option maxRecDepth 100000 in
theorem k_P_childAfter_0 {p0 : St} {x1 : Int32} {x2 : Int32} {r : Int32} (X : sr_X D (tP t) b_P_childAfter 4 R_P w_P_childAfter p s m args meth c A (some .int)) (Z : sr_Z D A s.heap (wP h t p0) H locs) (hl : lv_has ls 4 [(0, .ref (h 0)), (1, .int x1), (2, .int x2)]) (hf : f_P_childAfter p0 x1 x2 = some r) : W p l e (sr_rm 0 0) s m args below meth c H locs 0 0 (sr_Qi D (tP t) below args s A (wP h t p0) r) (F0 m 0 ls []) := by
  have hx := X.1
  have hb := X.2.1
  have hK := X.2.2.2.2.2.2.1
  unfold f_P_childAfter at hf
  refine lv_iload_n hx hb d_P_childAfter_0 rfl (lv_at hl 2 rfl) ?_
  refine lv_iconst (v := 1) hx hb d_P_childAfter_1 (by decide) ?_
  refine lv_iadd hx hb d_P_childAfter_2 ?_
  refine lv_istore_n (lv' := [(3, .int (x2 + 1)), (0, .ref (h 0)), (1, .int x1), (2, .int x2)]) hx hb d_P_childAfter_3 rfl hl (by decide) rfl (fun ls hl => ?_)
  exact k_P_childAfter_4_it X _ Z (lv_sub hl [1, 2, 0] rfl) hf
end
set_option maxHeartbeats 4000000 in
set_option maxRecDepth 100000 in
theorem c_P_childAfter {l : Launch} {D : va_G} {h : Nat → Nat} {t : Nat → ClassId} {sz : Nat} {p0 : St} {x1 : Int32} {x2 : Int32} {r : Int32} (hf : f_P_childAfter p0 x1 x2 = some r) : sr_Ci l y_P_childAfter w_P_childAfter (sr_rm 0 0) D (tP t) (wP h t p0) (wP h t p0) sz [.ref (h 0), .int x1, .int x2] r := by
  refine Met.ofW (cc := b_P_childAfter) (maxL := 4) (ret := (some .int)) (by decide) rfl ?_
  intro p e s m args below meth c s₁ B hml hv
  obtain ⟨rfl, hsz, hP, hK, hD0⟩ := hv
  subst hsz
  have X : sr_X D (tP t) b_P_childAfter 4 R_P w_P_childAfter p s m _ meth c (va_A (wP h t p0) s.heap.size) (some .int) := ⟨B.exec, B.bytes, hml, findClass_of_methodNamed B.named, B.notSynchronized, atoms_spec (ws := w_P_childAfter) B.pre, hK, fun q h => Or.inr h, B.returns⟩
  have Z : sr_Z D (va_A (wP h t p0) s.heap.size) s.heap (wP h t p0) s.heap [] := ⟨hP, hD0.self, va_S.rf⟩
  have hl := lv_entry ([.ref (h 0), .int x1, .int x2] : List Value) (n := 4) (Nat.le_of_ble_eq_true rfl)
  rw [lg_entry_eq]
  exact k_P_childAfter_0 X Z hl hf
/-! P_firstChild -/
theorem d_P_firstChild_0 : decode b_P_firstChild 0 = .ok (.aload_n 0, 1) := by decide +kernel
theorem d_P_firstChild_1 : decode b_P_firstChild 1 = .ok (.iload_n 1, 1) := by decide +kernel
theorem d_P_firstChild_2 : decode b_P_firstChild 2 = .ok (.iload_n 1, 1) := by decide +kernel
theorem d_P_firstChild_3 : decode b_P_firstChild 3 = .ok (.invokevirtual 78, 3) := by decide +kernel
theorem d_P_firstChild_6 : decode b_P_firstChild 6 = .ok (.ireturn, 1) := by decide +kernel
section
variable {p : Program} {l : Launch} {e : Env} {s : State} {m : MethodId} {args : Array Value} {below : List Frame} {meth : Method} {c : Code} {H : Heap} {locs : List Loc} {ls : Array Slot} {D : va_G} {A : Nat → Prop} {h o : Nat → Nat} {t v : Nat → ClassId}
def f_P_firstChild (p0 : St) (x1 : Int32) : Option (Int32) :=
  (f_P_childAfter p0 x1 x1).bind fun v_1 =>
  some v_1
set_option maxHeartbeats 4000000 in
set_option maxRecDepth 100000 in
theorem k_P_firstChild_0 {p0 : St} {x1 : Int32} {r : Int32} (X : sr_X D (tP t) b_P_firstChild 2 R_P w_P_firstChild p s m args meth c A (some .int)) (Z : sr_Z D A s.heap (wP h t p0) H locs) (hl : lv_has ls 2 [(0, .ref (h 0)), (1, .int x1)]) (hf : f_P_firstChild p0 x1 = some r) : W p l e (sr_rm 1 23) s m args below meth c H locs 0 0 (sr_Qi D (tP t) below args s A (wP h t p0) r) (F0 m 0 ls []) := by
  have hx := X.1
  have hb := X.2.1
  have hK := X.2.2.2.2.2.2.1
  unfold f_P_firstChild at hf
  refine lv_aload_n hx hb d_P_firstChild_0 rfl (lv_at hl 0 rfl) ?_
  refine lv_iload_n hx hb d_P_firstChild_1 rfl (lv_at hl 1 rfl) ?_
  refine lv_iload_n hx hb d_P_firstChild_2 rfl (lv_at hl 1 rfl) ?_
  obtain ⟨v_1, e_2, hf⟩ := sr_b hf
  refine sr_cVi (As := [.int x1, .int x1]) (rest := []) X Z sr_cut_self hK (c_P_childAfter e_2) (cw_P_78 X.2.2.2.2.2.1 (by decide)) 0 rfl rfl rfl hl rfl (Nat.le_of_ble_eq_true rfl) d_P_firstChild_3 (fun H locs Z => ?_)
  cases hf
  exact sr_reti X Z d_P_firstChild_6
end
set_option maxHeartbeats 4000000 in
set_option maxRecDepth 100000 in
theorem c_P_firstChild {l : Launch} {D : va_G} {h : Nat → Nat} {t : Nat → ClassId} {sz : Nat} {p0 : St} {x1 : Int32} {r : Int32} (hf : f_P_firstChild p0 x1 = some r) : sr_Ci l y_P_firstChild w_P_firstChild (sr_rm 1 23) D (tP t) (wP h t p0) (wP h t p0) sz [.ref (h 0), .int x1] r := by
  refine Met.ofW (cc := b_P_firstChild) (maxL := 2) (ret := (some .int)) (by decide) rfl ?_
  intro p e s m args below meth c s₁ B hml hv
  obtain ⟨rfl, hsz, hP, hK, hD0⟩ := hv
  subst hsz
  have X : sr_X D (tP t) b_P_firstChild 2 R_P w_P_firstChild p s m _ meth c (va_A (wP h t p0) s.heap.size) (some .int) := ⟨B.exec, B.bytes, hml, findClass_of_methodNamed B.named, B.notSynchronized, atoms_spec (ws := w_P_firstChild) B.pre, hK, fun q h => Or.inr h, B.returns⟩
  have Z : sr_Z D (va_A (wP h t p0) s.heap.size) s.heap (wP h t p0) s.heap [] := ⟨hP, hD0.self, va_S.rf⟩
  have hl := lv_entry ([.ref (h 0), .int x1] : List Value) (n := 2) (Nat.le_of_ble_eq_true rfl)
  rw [lg_entry_eq]
  exact k_P_firstChild_0 X Z hl hf
/-! P_countChildren -/
theorem d_P_countChildren_0 : decode b_P_countChildren 0 = .ok (.iconst 0, 1) := by decide +kernel
theorem d_P_countChildren_1 : decode b_P_countChildren 1 = .ok (.istore_n 2, 1) := by decide +kernel
theorem d_P_countChildren_2 : decode b_P_countChildren 2 = .ok (.iconst 0, 1) := by decide +kernel
theorem d_P_countChildren_3 : decode b_P_countChildren 3 = .ok (.istore_n 3, 1) := by decide +kernel
theorem d_P_countChildren_4 : decode b_P_countChildren 4 = .ok (.iload_n 3, 1) := by decide +kernel
theorem d_P_countChildren_5 : decode b_P_countChildren 5 = .ok (.aload_n 0, 1) := by decide +kernel
theorem d_P_countChildren_6 : decode b_P_countChildren 6 = .ok (.getfield 54, 3) := by decide +kernel
theorem d_P_countChildren_9 : decode b_P_countChildren 9 = .ok (.if_icmp .ge 31, 3) := by decide +kernel
theorem d_P_countChildren_12 : decode b_P_countChildren 12 = .ok (.aload_n 0, 1) := by decide +kernel
theorem d_P_countChildren_13 : decode b_P_countChildren 13 = .ok (.getfield 9, 3) := by decide +kernel
theorem d_P_countChildren_16 : decode b_P_countChildren 16 = .ok (.iload_n 3, 1) := by decide +kernel
theorem d_P_countChildren_17 : decode b_P_countChildren 17 = .ok (.iaload, 1) := by decide +kernel
theorem d_P_countChildren_18 : decode b_P_countChildren 18 = .ok (.iload_n 1, 1) := by decide +kernel
theorem d_P_countChildren_19 : decode b_P_countChildren 19 = .ok (.if_icmp .ne 15, 3) := by decide +kernel
theorem d_P_countChildren_22 : decode b_P_countChildren 22 = .ok (.aload_n 0, 1) := by decide +kernel
theorem d_P_countChildren_23 : decode b_P_countChildren 23 = .ok (.getfield 15, 3) := by decide +kernel
theorem d_P_countChildren_26 : decode b_P_countChildren 26 = .ok (.iload_n 3, 1) := by decide +kernel
theorem d_P_countChildren_27 : decode b_P_countChildren 27 = .ok (.iaload, 1) := by decide +kernel
theorem d_P_countChildren_28 : decode b_P_countChildren 28 = .ok (.ifCond .ne 6, 3) := by decide +kernel
theorem d_P_countChildren_31 : decode b_P_countChildren 31 = .ok (.iinc 2 1, 3) := by decide +kernel
theorem d_P_countChildren_34 : decode b_P_countChildren 34 = .ok (.iinc 3 1, 3) := by decide +kernel
theorem d_P_countChildren_37 : decode b_P_countChildren 37 = .ok (.goto (-33), 3) := by decide +kernel
theorem d_P_countChildren_40 : decode b_P_countChildren 40 = .ok (.iload_n 2, 1) := by decide +kernel
theorem d_P_countChildren_41 : decode b_P_countChildren 41 = .ok (.ireturn, 1) := by decide +kernel
section
variable {p : Program} {l : Launch} {e : Env} {s : State} {m : MethodId} {args : Array Value} {below : List Frame} {meth : Method} {c : Code} {H : Heap} {locs : List Loc} {ls : Array Slot} {D : va_G} {A : Nat → Prop} {h o : Nat → Nat} {t v : Nat → ClassId}
def f_P_countChildren_34 (k4 : Int32 → Int32 → Int32 → Option (Int32)) (p0 : St) (x1 : Int32) (x2 : Int32) (x3 : Int32) : Option (Int32) :=
  k4 x1 x2 (x3 + 1)
set_option maxHeartbeats 4000000 in
set_option maxRecDepth 100000 in
theorem k_P_countChildren_34 {k4 : Int32 → Int32 → Int32 → Option (Int32)} {p0 : St} {x1 : Int32} {x2 : Int32} {x3 : Int32} {r : Int32} (X : sr_X D (tP t) b_P_countChildren 4 R_P w_P_countChildren p s m args meth c A (some .int)) (hk4 : ∀ (x1 : Int32) (x2 : Int32) (x3 : Int32) (H : Heap) (locs : List Loc) (ls : Array Slot), sr_Z D A s.heap (wP h t p0) H locs → lv_has ls 4 [(0, .ref (h 0)), (1, .int x1), (2, .int x2), (3, .int x3)] → k4 x1 x2 x3 = some r → W p l e (sr_rm 0 0) s m args below meth c H locs 0 0 (sr_Qi D (tP t) below args s A (wP h t p0) r) (F0 m 4 ls [])) (Z : sr_Z D A s.heap (wP h t p0) H locs) (hl : lv_has ls 4 [(0, .ref (h 0)), (1, .int x1), (2, .int x2), (3, .int x3)]) (hf : f_P_countChildren_34 k4 p0 x1 x2 x3 = some r) : W p l e (sr_rm 0 0) s m args below meth c H locs 0 0 (sr_Qi D (tP t) below args s A (wP h t p0) r) (F0 m 34 ls []) := by
  have hx := X.1
  have hb := X.2.1
  have hK := X.2.2.2.2.2.2.1
  unfold f_P_countChildren_34 at hf
  refine lv_iinc (k := 3) (v := x3 + 1) (lv' := [(3, .int (x3 + 1)), (0, .ref (h 0)), (1, .int x1), (2, .int x2)]) hx hb d_P_countChildren_34 hl rfl rfl (by decide) rfl (fun ls hl => ?_)
  refine lv_goto (tgt := 4) hx hb d_P_countChildren_37 rfl ?_
  exact hk4 x1 x2 (x3 + 1) _ _ _ Z (lv_sub hl [1, 2, 3, 0] rfl) hf
def f_P_countChildren_4 (k4 : Int32 → Int32 → Int32 → Option (Int32)) (p0 : St) (x1 : Int32) (x2 : Int32) (x3 : Int32) : Option (Int32) :=
  if (p0 10 0) ≤ x3 then
    some x2
  else
    (sr_ald 24 (p0 0) x3).bind fun v_2 =>
    if v_2 = x1 then
      (sr_ald 24 (p0 1) x3).bind fun v_5 =>
      if v_5 = 0 then
        f_P_countChildren_34 k4 p0 x1 (x2 + 1) x3
      else
        f_P_countChildren_34 k4 p0 x1 x2 x3
    else
      f_P_countChildren_34 k4 p0 x1 x2 x3
set_option maxHeartbeats 4000000 in
set_option maxRecDepth 100000 in
theorem k_P_countChildren_4 {k4 : Int32 → Int32 → Int32 → Option (Int32)} {p0 : St} {x1 : Int32} {x2 : Int32} {x3 : Int32} {r : Int32} (X : sr_X D (tP t) b_P_countChildren 4 R_P w_P_countChildren p s m args meth c A (some .int)) (hk4 : ∀ (x1 : Int32) (x2 : Int32) (x3 : Int32) (H : Heap) (locs : List Loc) (ls : Array Slot), sr_Z D A s.heap (wP h t p0) H locs → lv_has ls 4 [(0, .ref (h 0)), (1, .int x1), (2, .int x2), (3, .int x3)] → k4 x1 x2 x3 = some r → W p l e (sr_rm 0 0) s m args below meth c H locs 0 0 (sr_Qi D (tP t) below args s A (wP h t p0) r) (F0 m 4 ls [])) (Z : sr_Z D A s.heap (wP h t p0) H locs) (hl : lv_has ls 4 [(0, .ref (h 0)), (1, .int x1), (2, .int x2), (3, .int x3)]) (hf : f_P_countChildren_4 k4 p0 x1 x2 x3 = some r) : W p l e (sr_rm 0 0) s m args below meth c H locs 0 0 (sr_Qi D (tP t) below args s A (wP h t p0) r) (F0 m 4 ls []) := by
  have hx := X.1
  have hb := X.2.1
  have hK := X.2.2.2.2.2.2.1
  unfold f_P_countChildren_4 at hf
  refine lv_iload_n hx hb d_P_countChildren_4 rfl (lv_at hl 3 rfl) ?_
  refine lv_aload_n hx hb d_P_countChildren_5 rfl (lv_at hl 0 rfl) ?_
  refine g_P_54_P X Z d_P_countChildren_6 ?_
  refine lv_icmp_ge (tgt := 40) hx hb d_P_countChildren_9 rfl (fun q_1 => ?_) (fun q_1 => ?_)
  · have hf := sr_it q_1 hf
    refine lv_iload_n hx hb d_P_countChildren_40 rfl (lv_at hl 2 rfl) ?_
    cases hf
    exact sr_reti X Z d_P_countChildren_41
  · have hf := sr_if q_1 hf
    refine lv_aload_n hx hb d_P_countChildren_12 rfl (lv_at hl 0 rfl) ?_
    refine g_P_9_P X Z d_P_countChildren_13 ?_
    refine lv_iload_n hx hb d_P_countChildren_16 rfl (lv_at hl 3 rfl) ?_
    obtain ⟨v_2, e_3, hf⟩ := sr_b hf
    refine sr_iald hx hb hK Z 1 0 rfl rfl e_3 d_P_countChildren_17 ?_
    refine lv_iload_n hx hb d_P_countChildren_18 rfl (lv_at hl 1 rfl) ?_
    refine lv_icmp_ne (tgt := 34) hx hb d_P_countChildren_19 rfl (fun q_4 => ?_) (fun q_4 => ?_)
    · have hf := sr_if q_4 hf
      exact k_P_countChildren_34 X hk4 Z (lv_sub hl [0, 1, 2, 3] rfl) hf
    · have hf := sr_it q_4 hf
      refine lv_aload_n hx hb d_P_countChildren_22 rfl (lv_at hl 0 rfl) ?_
      refine g_P_15_P X Z d_P_countChildren_23 ?_
      refine lv_iload_n hx hb d_P_countChildren_26 rfl (lv_at hl 3 rfl) ?_
      obtain ⟨v_5, e_6, hf⟩ := sr_b hf
      refine sr_iald hx hb hK Z 2 1 rfl rfl e_6 d_P_countChildren_27 ?_
      refine lv_if_ne (tgt := 34) hx hb d_P_countChildren_28 rfl (fun q_7 => ?_) (fun q_7 => ?_)
      · have hf := sr_if q_7 hf
        exact k_P_countChildren_34 X hk4 Z (lv_sub hl [0, 1, 2, 3] rfl) hf
      · have hf := sr_it q_7 hf
        refine lv_iinc (k := 2) (v := x2 + 1) (lv' := [(2, .int (x2 + 1)), (0, .ref (h 0)), (1, .int x1), (3, .int x3)]) hx hb d_P_countChildren_31 hl rfl rfl (by decide) rfl (fun ls hl => ?_)
        exact k_P_countChildren_34 X hk4 Z (lv_sub hl [1, 2, 0, 3] rfl) hf
def f_P_countChildren_4_it (p0 : St) : Nat → Int32 → Int32 → Int32 → Option (Int32)
  | 0 => fun _ _ _ => none
  | n + 1 => fun x1 x2 x3 => f_P_countChildren_4 (f_P_countChildren_4_it p0 n) p0 x1 x2 x3
set_option maxHeartbeats 4000000 in
set_option maxRecDepth 100000 in
theorem k_P_countChildren_4_it {p0 : St} {r : Int32} (X : sr_X D (tP t) b_P_countChildren 4 R_P w_P_countChildren p s m args meth c A (some .int)) (n : Nat) : ∀ {x1 : Int32} {x2 : Int32} {x3 : Int32} {H : Heap} {locs : List Loc} {ls : Array Slot}, sr_Z D A s.heap (wP h t p0) H locs → lv_has ls 4 [(0, .ref (h 0)), (1, .int x1), (2, .int x2), (3, .int x3)] → f_P_countChildren_4_it p0 n x1 x2 x3 = some r → W p l e (sr_rm 0 0) s m args below meth c H locs 0 0 (sr_Qi D (tP t) below args s A (wP h t p0) r) (F0 m 4 ls []) := by
  induction n with
  | zero => intro x1 x2 x3 H locs ls Z hl hf; exact absurd hf (by simp [f_P_countChildren_4_it])
  | succ n ih =>
    intro x1 x2 x3 H locs ls Z hl hf
    exact k_P_countChildren_4 X (fun x1 x2 x3 H locs ls Z hl hf => ih Z hl hf) Z hl hf
def f_P_countChildren (p0 : St) (x1 : Int32) : Option (Int32) :=
  f_P_countChildren_4_it p0 60 x1 0 0
set_option maxHeartbeats 4000000 in
set_option maxRecDepth 100000 in
theorem k_P_countChildren_0 {p0 : St} {x1 : Int32} {r : Int32} (X : sr_X D (tP t) b_P_countChildren 4 R_P w_P_countChildren p s m args meth c A (some .int)) (Z : sr_Z D A s.heap (wP h t p0) H locs) (hl : lv_has ls 4 [(0, .ref (h 0)), (1, .int x1)]) (hf : f_P_countChildren p0 x1 = some r) : W p l e (sr_rm 0 0) s m args below meth c H locs 0 0 (sr_Qi D (tP t) below args s A (wP h t p0) r) (F0 m 0 ls []) := by
  have hx := X.1
  have hb := X.2.1
  have hK := X.2.2.2.2.2.2.1
  unfold f_P_countChildren at hf
  refine lv_iconst (v := 0) hx hb d_P_countChildren_0 (by decide) ?_
  refine lv_istore_n (lv' := [(2, .int 0), (0, .ref (h 0)), (1, .int x1)]) hx hb d_P_countChildren_1 rfl hl (by decide) rfl (fun ls hl => ?_)
  refine lv_iconst (v := 0) hx hb d_P_countChildren_2 (by decide) ?_
  refine lv_istore_n (lv' := [(3, .int 0), (2, .int 0), (0, .ref (h 0)), (1, .int x1)]) hx hb d_P_countChildren_3 rfl hl (by decide) rfl (fun ls hl => ?_)
  exact k_P_countChildren_4_it X _ Z (lv_sub hl [2, 3, 1, 0] rfl) hf
end
set_option maxHeartbeats 4000000 in
set_option maxRecDepth 100000 in
theorem c_P_countChildren {l : Launch} {D : va_G} {h : Nat → Nat} {t : Nat → ClassId} {sz : Nat} {p0 : St} {x1 : Int32} {r : Int32} (hf : f_P_countChildren p0 x1 = some r) : sr_Ci l y_P_countChildren w_P_countChildren (sr_rm 0 0) D (tP t) (wP h t p0) (wP h t p0) sz [.ref (h 0), .int x1] r := by
  refine Met.ofW (cc := b_P_countChildren) (maxL := 4) (ret := (some .int)) (by decide) rfl ?_
  intro p e s m args below meth c s₁ B hml hv
  obtain ⟨rfl, hsz, hP, hK, hD0⟩ := hv
  subst hsz
  have X : sr_X D (tP t) b_P_countChildren 4 R_P w_P_countChildren p s m _ meth c (va_A (wP h t p0) s.heap.size) (some .int) := ⟨B.exec, B.bytes, hml, findClass_of_methodNamed B.named, B.notSynchronized, atoms_spec (ws := w_P_countChildren) B.pre, hK, fun q h => Or.inr h, B.returns⟩
  have Z : sr_Z D (va_A (wP h t p0) s.heap.size) s.heap (wP h t p0) s.heap [] := ⟨hP, hD0.self, va_S.rf⟩
  have hl := lv_entry ([.ref (h 0), .int x1] : List Value) (n := 4) (Nat.le_of_ble_eq_true rfl)
  rw [lg_entry_eq]
  exact k_P_countChildren_0 X Z hl hf
/-! P_findStart -/
theorem d_P_findStart_0 : decode b_P_findStart 0 = .ok (.aload_n 0, 1) := by decide +kernel
theorem d_P_findStart_1 : decode b_P_findStart 1 = .ok (.iconst 0, 1) := by decide +kernel
theorem d_P_findStart_2 : decode b_P_findStart 2 = .ok (.invokevirtual 81, 3) := by decide +kernel
theorem d_P_findStart_5 : decode b_P_findStart 5 = .ok (.istore_n 1, 1) := by decide +kernel
theorem d_P_findStart_6 : decode b_P_findStart 6 = .ok (.iconst 0, 1) := by decide +kernel
theorem d_P_findStart_7 : decode b_P_findStart 7 = .ok (.istore_n 2, 1) := by decide +kernel
theorem d_P_findStart_8 : decode b_P_findStart 8 = .ok (.iload_n 2, 1) := by decide +kernel
theorem d_P_findStart_9 : decode b_P_findStart 9 = .ok (.aload_n 0, 1) := by decide +kernel
theorem d_P_findStart_10 : decode b_P_findStart 10 = .ok (.getfield 54, 3) := by decide +kernel
theorem d_P_findStart_13 : decode b_P_findStart 13 = .ok (.if_icmp .ge 31, 3) := by decide +kernel
theorem d_P_findStart_16 : decode b_P_findStart 16 = .ok (.iload_n 1, 1) := by decide +kernel
theorem d_P_findStart_17 : decode b_P_findStart 17 = .ok (.iconst (-1), 1) := by decide +kernel
theorem d_P_findStart_18 : decode b_P_findStart 18 = .ok (.if_icmp .eq 26, 3) := by decide +kernel
theorem d_P_findStart_21 : decode b_P_findStart 21 = .ok (.aload_n 0, 1) := by decide +kernel
theorem d_P_findStart_22 : decode b_P_findStart 22 = .ok (.getfield 18, 3) := by decide +kernel
theorem d_P_findStart_25 : decode b_P_findStart 25 = .ok (.iload_n 1, 1) := by decide +kernel
theorem d_P_findStart_26 : decode b_P_findStart 26 = .ok (.iaload, 1) := by decide +kernel
theorem d_P_findStart_27 : decode b_P_findStart 27 = .ok (.bipush 8, 2) := by decide +kernel
theorem d_P_findStart_29 : decode b_P_findStart 29 = .ok (.if_icmp .ne 15, 3) := by decide +kernel
theorem d_P_findStart_32 : decode b_P_findStart 32 = .ok (.aload_n 0, 1) := by decide +kernel
theorem d_P_findStart_33 : decode b_P_findStart 33 = .ok (.iload_n 1, 1) := by decide +kernel
theorem d_P_findStart_34 : decode b_P_findStart 34 = .ok (.invokevirtual 81, 3) := by decide +kernel
theorem d_P_findStart_37 : decode b_P_findStart 37 = .ok (.istore_n 1, 1) := by decide +kernel
theorem d_P_findStart_38 : decode b_P_findStart 38 = .ok (.iinc 2 1, 3) := by decide +kernel
theorem d_P_findStart_41 : decode b_P_findStart 41 = .ok (.goto (-33), 3) := by decide +kernel
theorem d_P_findStart_44 : decode b_P_findStart 44 = .ok (.iload_n 1, 1) := by decide +kernel
theorem d_P_findStart_45 : decode b_P_findStart 45 = .ok (.ireturn, 1) := by decide +kernel
section
variable {p : Program} {l : Launch} {e : Env} {s : State} {m : MethodId} {args : Array Value} {below : List Frame} {meth : Method} {c : Code} {H : Heap} {locs : List Loc} {ls : Array Slot} {D : va_G} {A : Nat → Prop} {h o : Nat → Nat} {t v : Nat → ClassId}
def f_P_findStart_8 (k8 : Int32 → Int32 → Option (Int32)) (p0 : St) (x1 : Int32) (x2 : Int32) : Option (Int32) :=
  if (p0 10 0) ≤ x2 then
    some x1
  else
    if x1 = (-1) then
      some x1
    else
      (sr_ald 24 (p0 2) x1).bind fun v_5 =>
      if v_5 = 8 then
        (f_P_firstChild p0 x1).bind fun v_8 =>
        k8 v_8 (x2 + 1)
      else
        some x1
set_option maxHeartbeats 4000000 in
set_option maxRecDepth 100000 in
theorem k_P_findStart_8 {k8 : Int32 → Int32 → Option (Int32)} {p0 : St} {x1 : Int32} {x2 : Int32} {r : Int32} (X : sr_X D (tP t) b_P_findStart 3 R_P w_P_findStart p s m args meth c A (some .int)) (hk8 : ∀ (x1 : Int32) (x2 : Int32) (H : Heap) (locs : List Loc) (ls : Array Slot), sr_Z D A s.heap (wP h t p0) H locs → lv_has ls 3 [(0, .ref (h 0)), (1, .int x1), (2, .int x2)] → k8 x1 x2 = some r → W p l e (sr_rm 2 44) s m args below meth c H locs 0 0 (sr_Qi D (tP t) below args s A (wP h t p0) r) (F0 m 8 ls [])) (Z : sr_Z D A s.heap (wP h t p0) H locs) (hl : lv_has ls 3 [(0, .ref (h 0)), (1, .int x1), (2, .int x2)]) (hf : f_P_findStart_8 k8 p0 x1 x2 = some r) : W p l e (sr_rm 2 44) s m args below meth c H locs 0 0 (sr_Qi D (tP t) below args s A (wP h t p0) r) (F0 m 8 ls []) := by
  have hx := X.1
  have hb := X.2.1
  have hK := X.2.2.2.2.2.2.1
  unfold f_P_findStart_8 at hf
  refine lv_iload_n hx hb d_P_findStart_8 rfl (lv_at hl 2 rfl) ?_
  refine lv_aload_n hx hb d_P_findStart_9 rfl (lv_at hl 0 rfl) ?_
  refine g_P_54_P X Z d_P_findStart_10 ?_
  refine lv_icmp_ge (tgt := 44) hx hb d_P_findStart_13 rfl (fun q_3 => ?_) (fun q_3 => ?_)
  · have hf := sr_it q_3 hf
    refine lv_iload_n hx hb d_P_findStart_44 rfl (lv_at hl 1 rfl) ?_
    cases hf
    exact sr_reti X Z d_P_findStart_45
  · have hf := sr_if q_3 hf
    refine lv_iload_n hx hb d_P_findStart_16 rfl (lv_at hl 1 rfl) ?_
    refine lv_iconst (v := -1) hx hb d_P_findStart_17 (by decide) ?_
    refine lv_icmp_eq (tgt := 44) hx hb d_P_findStart_18 rfl (fun q_4 => ?_) (fun q_4 => ?_)
    · have hf := sr_it q_4 hf
      refine lv_iload_n hx hb d_P_findStart_44 rfl (lv_at hl 1 rfl) ?_
      cases hf
      exact sr_reti X Z d_P_findStart_45
    · have hf := sr_if q_4 hf
      refine lv_aload_n hx hb d_P_findStart_21 rfl (lv_at hl 0 rfl) ?_
      refine g_P_18_P X Z d_P_findStart_22 ?_
      refine lv_iload_n hx hb d_P_findStart_25 rfl (lv_at hl 1 rfl) ?_
      obtain ⟨v_5, e_6, hf⟩ := sr_b hf
      refine sr_iald hx hb hK Z 3 2 rfl rfl e_6 d_P_findStart_26 ?_
      refine lv_bipush (v := 8) hx hb d_P_findStart_27 (by decide) ?_
      refine lv_icmp_ne (tgt := 44) hx hb d_P_findStart_29 rfl (fun q_7 => ?_) (fun q_7 => ?_)
      · have hf := sr_if q_7 hf
        refine lv_iload_n hx hb d_P_findStart_44 rfl (lv_at hl 1 rfl) ?_
        cases hf
        exact sr_reti X Z d_P_findStart_45
      · have hf := sr_it q_7 hf
        refine lv_aload_n hx hb d_P_findStart_32 rfl (lv_at hl 0 rfl) ?_
        refine lv_iload_n hx hb d_P_findStart_33 rfl (lv_at hl 1 rfl) ?_
        obtain ⟨v_8, e_9, hf⟩ := sr_b hf
        refine sr_cVi (As := [.int x1]) (rest := []) X Z sr_cut_self hK (c_P_firstChild e_9) (cw_P_81 X.2.2.2.2.2.1 (by decide)) 0 rfl rfl rfl hl rfl (Nat.le_of_ble_eq_true rfl) d_P_findStart_34 (fun H locs Z => ?_)
        refine lv_istore_n (lv' := [(1, .int v_8), (0, .ref (h 0)), (2, .int x2)]) hx hb d_P_findStart_37 rfl hl (by decide) rfl (fun ls hl => ?_)
        refine lv_iinc (k := 2) (v := x2 + 1) (lv' := [(2, .int (x2 + 1)), (1, .int v_8), (0, .ref (h 0))]) hx hb d_P_findStart_38 hl rfl rfl (by decide) rfl (fun ls hl => ?_)
        refine lv_goto (tgt := 8) hx hb d_P_findStart_41 rfl ?_
        exact hk8 v_8 (x2 + 1) _ _ _ Z (lv_sub hl [2, 1, 0] rfl) hf
def f_P_findStart_8_it (p0 : St) : Nat → Int32 → Int32 → Option (Int32)
  | 0 => fun _ _ => none
  | n + 1 => fun x1 x2 => f_P_findStart_8 (f_P_findStart_8_it p0 n) p0 x1 x2
set_option maxHeartbeats 4000000 in
set_option maxRecDepth 100000 in
theorem k_P_findStart_8_it {p0 : St} {r : Int32} (X : sr_X D (tP t) b_P_findStart 3 R_P w_P_findStart p s m args meth c A (some .int)) (n : Nat) : ∀ {x1 : Int32} {x2 : Int32} {H : Heap} {locs : List Loc} {ls : Array Slot}, sr_Z D A s.heap (wP h t p0) H locs → lv_has ls 3 [(0, .ref (h 0)), (1, .int x1), (2, .int x2)] → f_P_findStart_8_it p0 n x1 x2 = some r → W p l e (sr_rm 2 44) s m args below meth c H locs 0 0 (sr_Qi D (tP t) below args s A (wP h t p0) r) (F0 m 8 ls []) := by
  induction n with
  | zero => intro x1 x2 H locs ls Z hl hf; exact absurd hf (by simp [f_P_findStart_8_it])
  | succ n ih =>
    intro x1 x2 H locs ls Z hl hf
    exact k_P_findStart_8 X (fun x1 x2 H locs ls Z hl hf => ih Z hl hf) Z hl hf
def f_P_findStart (p0 : St) : Option (Int32) :=
  (f_P_firstChild p0 0).bind fun v_1 =>
  f_P_findStart_8_it p0 60 v_1 0
set_option maxHeartbeats 4000000 in
set_option maxRecDepth 100000 in
theorem k_P_findStart_0 {p0 : St} {r : Int32} (X : sr_X D (tP t) b_P_findStart 3 R_P w_P_findStart p s m args meth c A (some .int)) (Z : sr_Z D A s.heap (wP h t p0) H locs) (hl : lv_has ls 3 [(0, .ref (h 0))]) (hf : f_P_findStart p0 = some r) : W p l e (sr_rm 2 44) s m args below meth c H locs 0 0 (sr_Qi D (tP t) below args s A (wP h t p0) r) (F0 m 0 ls []) := by
  have hx := X.1
  have hb := X.2.1
  have hK := X.2.2.2.2.2.2.1
  unfold f_P_findStart at hf
  refine lv_aload_n hx hb d_P_findStart_0 rfl (lv_at hl 0 rfl) ?_
  refine lv_iconst (v := 0) hx hb d_P_findStart_1 (by decide) ?_
  obtain ⟨v_1, e_2, hf⟩ := sr_b hf
  refine sr_cVi (As := [.int 0]) (rest := []) X Z sr_cut_self hK (c_P_firstChild e_2) (cw_P_81 X.2.2.2.2.2.1 (by decide)) 0 rfl rfl rfl hl rfl (Nat.le_of_ble_eq_true rfl) d_P_findStart_2 (fun H locs Z => ?_)
  refine lv_istore_n (lv' := [(1, .int v_1), (0, .ref (h 0))]) hx hb d_P_findStart_5 rfl hl (by decide) rfl (fun ls hl => ?_)
  refine lv_iconst (v := 0) hx hb d_P_findStart_6 (by decide) ?_
  refine lv_istore_n (lv' := [(2, .int 0), (1, .int v_1), (0, .ref (h 0))]) hx hb d_P_findStart_7 rfl hl (by decide) rfl (fun ls hl => ?_)
  exact k_P_findStart_8_it X _ Z (lv_sub hl [2, 1, 0] rfl) hf
end
set_option maxHeartbeats 4000000 in
set_option maxRecDepth 100000 in
theorem c_P_findStart {l : Launch} {D : va_G} {h : Nat → Nat} {t : Nat → ClassId} {sz : Nat} {p0 : St} {r : Int32} (hf : f_P_findStart p0 = some r) : sr_Ci l y_P_findStart w_P_findStart (sr_rm 2 44) D (tP t) (wP h t p0) (wP h t p0) sz [.ref (h 0)] r := by
  refine Met.ofW (cc := b_P_findStart) (maxL := 3) (ret := (some .int)) (by decide) rfl ?_
  intro p e s m args below meth c s₁ B hml hv
  obtain ⟨rfl, hsz, hP, hK, hD0⟩ := hv
  subst hsz
  have X : sr_X D (tP t) b_P_findStart 3 R_P w_P_findStart p s m _ meth c (va_A (wP h t p0) s.heap.size) (some .int) := ⟨B.exec, B.bytes, hml, findClass_of_methodNamed B.named, B.notSynchronized, atoms_spec (ws := w_P_findStart) B.pre, hK, fun q h => Or.inr h, B.returns⟩
  have Z : sr_Z D (va_A (wP h t p0) s.heap.size) s.heap (wP h t p0) s.heap [] := ⟨hP, hD0.self, va_S.rf⟩
  have hl := lv_entry ([.ref (h 0)] : List Value) (n := 3) (Nat.le_of_ble_eq_true rfl)
  rw [lg_entry_eq]
  exact k_P_findStart_0 X Z hl hf
/-! P_startsWith -/
theorem d_P_startsWith_0 : decode b_P_startsWith 0 = .ok (.aload_n 0, 1) := by decide +kernel
theorem d_P_startsWith_1 : decode b_P_startsWith 1 = .ok (.invokevirtual 85, 3) := by decide +kernel
theorem d_P_startsWith_4 : decode b_P_startsWith 4 = .ok (.istore_n 2, 1) := by decide +kernel
theorem d_P_startsWith_5 : decode b_P_startsWith 5 = .ok (.iload_n 2, 1) := by decide +kernel
theorem d_P_startsWith_6 : decode b_P_startsWith 6 = .ok (.iconst (-1), 1) := by decide +kernel
theorem d_P_startsWith_7 : decode b_P_startsWith 7 = .ok (.if_icmp .eq 17, 3) := by decide +kernel
theorem d_P_startsWith_10 : decode b_P_startsWith 10 = .ok (.aload_n 0, 1) := by decide +kernel
theorem d_P_startsWith_11 : decode b_P_startsWith 11 = .ok (.getfield 21, 3) := by decide +kernel
theorem d_P_startsWith_14 : decode b_P_startsWith 14 = .ok (.iload_n 2, 1) := by decide +kernel
theorem d_P_startsWith_15 : decode b_P_startsWith 15 = .ok (.iaload, 1) := by decide +kernel
theorem d_P_startsWith_16 : decode b_P_startsWith 16 = .ok (.iload_n 1, 1) := by decide +kernel
theorem d_P_startsWith_17 : decode b_P_startsWith 17 = .ok (.if_icmp .ne 7, 3) := by decide +kernel
theorem d_P_startsWith_20 : decode b_P_startsWith 20 = .ok (.iconst 1, 1) := by decide +kernel
theorem d_P_startsWith_21 : decode b_P_startsWith 21 = .ok (.goto 4, 3) := by decide +kernel
theorem d_P_startsWith_24 : decode b_P_startsWith 24 = .ok (.iconst 0, 1) := by decide +kernel
theorem d_P_startsWith_25 : decode b_P_startsWith 25 = .ok (.ireturn, 1) := by decide +kernel
section
variable {p : Program} {l : Launch} {e : Env} {s : State} {m : MethodId} {args : Array Value} {below : List Frame} {meth : Method} {c : Code} {H : Heap} {locs : List Loc} {ls : Array Slot} {D : va_G} {A : Nat → Prop} {h o : Nat → Nat} {t v : Nat → ClassId}
def f_P_startsWith (p0 : St) (x1 : Int32) : Option (Int32) :=
  (f_P_findStart p0).bind fun v_1 =>
  if v_1 = (-1) then
    some 0
  else
    (sr_ald 24 (p0 3) v_1).bind fun v_4 =>
    if v_4 = x1 then
      some 1
    else
      some 0
set_option maxHeartbeats 4000000 in
set_option maxRecDepth 100000 in
theorem k_P_startsWith_0 {p0 : St} {x1 : Int32} {r : Int32} (X : sr_X D (tP t) b_P_startsWith 3 R_P w_P_startsWith p s m args meth c A (some .boolean)) (Z : sr_Z D A s.heap (wP h t p0) H locs) (hl : lv_has ls 3 [(0, .ref (h 0)), (1, .int x1)]) (hf : f_P_startsWith p0 x1 = some r) : W p l e (sr_rm 3 66) s m args below meth c H locs 0 0 (sr_Qi D (tP t) below args s A (wP h t p0) r) (F0 m 0 ls []) := by
  have hx := X.1
  have hb := X.2.1
  have hK := X.2.2.2.2.2.2.1
  unfold f_P_startsWith at hf
  refine lv_aload_n hx hb d_P_startsWith_0 rfl (lv_at hl 0 rfl) ?_
  obtain ⟨v_1, e_2, hf⟩ := sr_b hf
  refine sr_cVi (As := []) (rest := []) X Z sr_cut_self hK (c_P_findStart e_2) (cw_P_85 X.2.2.2.2.2.1 (by decide)) 0 rfl rfl rfl hl rfl (Nat.le_of_ble_eq_true rfl) d_P_startsWith_1 (fun H locs Z => ?_)
  refine lv_istore_n (lv' := [(2, .int v_1), (0, .ref (h 0)), (1, .int x1)]) hx hb d_P_startsWith_4 rfl hl (by decide) rfl (fun ls hl => ?_)
  refine lv_iload_n hx hb d_P_startsWith_5 rfl (lv_at hl 0 rfl) ?_
  refine lv_iconst (v := -1) hx hb d_P_startsWith_6 (by decide) ?_
  refine lv_icmp_eq (tgt := 24) hx hb d_P_startsWith_7 rfl (fun q_3 => ?_) (fun q_3 => ?_)
  · have hf := sr_it q_3 hf
    refine lv_iconst (v := 0) hx hb d_P_startsWith_24 (by decide) ?_
    cases hf
    exact sr_retz X Z (by decide) d_P_startsWith_25
  · have hf := sr_if q_3 hf
    refine lv_aload_n hx hb d_P_startsWith_10 rfl (lv_at hl 1 rfl) ?_
    refine g_P_21_P X Z d_P_startsWith_11 ?_
    refine lv_iload_n hx hb d_P_startsWith_14 rfl (lv_at hl 0 rfl) ?_
    obtain ⟨v_4, e_5, hf⟩ := sr_b hf
    refine sr_iald hx hb hK Z 4 3 rfl rfl e_5 d_P_startsWith_15 ?_
    refine lv_iload_n hx hb d_P_startsWith_16 rfl (lv_at hl 2 rfl) ?_
    refine lv_icmp_ne (tgt := 24) hx hb d_P_startsWith_17 rfl (fun q_6 => ?_) (fun q_6 => ?_)
    · have hf := sr_if q_6 hf
      refine lv_iconst (v := 0) hx hb d_P_startsWith_24 (by decide) ?_
      cases hf
      exact sr_retz X Z (by decide) d_P_startsWith_25
    · have hf := sr_it q_6 hf
      refine lv_iconst (v := 1) hx hb d_P_startsWith_20 (by decide) ?_
      refine lv_goto (tgt := 25) hx hb d_P_startsWith_21 rfl ?_
      cases hf
      exact sr_retz X Z (by decide) d_P_startsWith_25
end
set_option maxHeartbeats 4000000 in
set_option maxRecDepth 100000 in
theorem c_P_startsWith {l : Launch} {D : va_G} {h : Nat → Nat} {t : Nat → ClassId} {sz : Nat} {p0 : St} {x1 : Int32} {r : Int32} (hf : f_P_startsWith p0 x1 = some r) : sr_Ci l y_P_startsWith w_P_startsWith (sr_rm 3 66) D (tP t) (wP h t p0) (wP h t p0) sz [.ref (h 0), .int x1] r := by
  refine Met.ofW (cc := b_P_startsWith) (maxL := 3) (ret := (some .boolean)) (by decide) rfl ?_
  intro p e s m args below meth c s₁ B hml hv
  obtain ⟨rfl, hsz, hP, hK, hD0⟩ := hv
  subst hsz
  have X : sr_X D (tP t) b_P_startsWith 3 R_P w_P_startsWith p s m _ meth c (va_A (wP h t p0) s.heap.size) (some .boolean) := ⟨B.exec, B.bytes, hml, findClass_of_methodNamed B.named, B.notSynchronized, atoms_spec (ws := w_P_startsWith) B.pre, hK, fun q h => Or.inr h, B.returns⟩
  have Z : sr_Z D (va_A (wP h t p0) s.heap.size) s.heap (wP h t p0) s.heap [] := ⟨hP, hD0.self, va_S.rf⟩
  have hl := lv_entry ([.ref (h 0), .int x1] : List Value) (n := 3) (Nat.le_of_ble_eq_true rfl)
  rw [lg_entry_eq]
  exact k_P_startsWith_0 X Z hl hf
