/-! R_childrenAreRight -/
theorem d_R_childrenAreRight_0 : decode b_R_childrenAreRight 0 = .ok (.iconst 0, 1) := by decide +kernel
theorem d_R_childrenAreRight_1 : decode b_R_childrenAreRight 1 = .ok (.istore_n 1, 1) := by decide +kernel
theorem d_R_childrenAreRight_2 : decode b_R_childrenAreRight 2 = .ok (.iload_n 1, 1) := by decide +kernel
theorem d_R_childrenAreRight_3 : decode b_R_childrenAreRight 3 = .ok (.aload_n 0, 1) := by decide +kernel
theorem d_R_childrenAreRight_4 : decode b_R_childrenAreRight 4 = .ok (.getfield 15, 3) := by decide +kernel
theorem d_R_childrenAreRight_7 : decode b_R_childrenAreRight 7 = .ok (.getfield 41, 3) := by decide +kernel
theorem d_R_childrenAreRight_10 : decode b_R_childrenAreRight 10 = .ok (.if_icmp .ge 34, 3) := by decide +kernel
theorem d_R_childrenAreRight_13 : decode b_R_childrenAreRight 13 = .ok (.aload_n 0, 1) := by decide +kernel
theorem d_R_childrenAreRight_14 : decode b_R_childrenAreRight 14 = .ok (.getfield 15, 3) := by decide +kernel
theorem d_R_childrenAreRight_17 : decode b_R_childrenAreRight 17 = .ok (.getfield 47, 3) := by decide +kernel
theorem d_R_childrenAreRight_20 : decode b_R_childrenAreRight 20 = .ok (.iload_n 1, 1) := by decide +kernel
theorem d_R_childrenAreRight_21 : decode b_R_childrenAreRight 21 = .ok (.iaload, 1) := by decide +kernel
theorem d_R_childrenAreRight_22 : decode b_R_childrenAreRight 22 = .ok (.aload_n 0, 1) := by decide +kernel
theorem d_R_childrenAreRight_23 : decode b_R_childrenAreRight 23 = .ok (.getfield 15, 3) := by decide +kernel
theorem d_R_childrenAreRight_26 : decode b_R_childrenAreRight 26 = .ok (.iload_n 1, 1) := by decide +kernel
theorem d_R_childrenAreRight_27 : decode b_R_childrenAreRight 27 = .ok (.invokevirtual 51, 3) := by decide +kernel
theorem d_R_childrenAreRight_30 : decode b_R_childrenAreRight 30 = .ok (.invokestatic 55, 3) := by decide +kernel
theorem d_R_childrenAreRight_33 : decode b_R_childrenAreRight 33 = .ok (.ifCond .ne 5, 3) := by decide +kernel
theorem d_R_childrenAreRight_36 : decode b_R_childrenAreRight 36 = .ok (.iconst 0, 1) := by decide +kernel
theorem d_R_childrenAreRight_37 : decode b_R_childrenAreRight 37 = .ok (.ireturn, 1) := by decide +kernel
theorem d_R_childrenAreRight_38 : decode b_R_childrenAreRight 38 = .ok (.iinc 1 1, 3) := by decide +kernel
theorem d_R_childrenAreRight_41 : decode b_R_childrenAreRight 41 = .ok (.goto (-39), 3) := by decide +kernel
theorem d_R_childrenAreRight_44 : decode b_R_childrenAreRight 44 = .ok (.aload_n 0, 1) := by decide +kernel
theorem d_R_childrenAreRight_45 : decode b_R_childrenAreRight 45 = .ok (.getfield 15, 3) := by decide +kernel
theorem d_R_childrenAreRight_48 : decode b_R_childrenAreRight 48 = .ok (.getfield 41, 3) := by decide +kernel
theorem d_R_childrenAreRight_51 : decode b_R_childrenAreRight 51 = .ok (.ifCond .le 7, 3) := by decide +kernel
theorem d_R_childrenAreRight_54 : decode b_R_childrenAreRight 54 = .ok (.iconst 1, 1) := by decide +kernel
theorem d_R_childrenAreRight_55 : decode b_R_childrenAreRight 55 = .ok (.goto 4, 3) := by decide +kernel
theorem d_R_childrenAreRight_58 : decode b_R_childrenAreRight 58 = .ok (.iconst 0, 1) := by decide +kernel
theorem d_R_childrenAreRight_59 : decode b_R_childrenAreRight 59 = .ok (.ireturn, 1) := by decide +kernel
section
variable {p : Program} {l : Launch} {e : Env} {s : State} {m : MethodId} {args : Array Value} {below : List Frame} {meth : Method} {c : Code} {H : Heap} {locs : List Loc} {ls : Array Slot} {D : va_G} {A : Nat → Prop} {h o : Nat → Nat} {t v : Nat → ClassId}
def f_R_childrenAreRight_2 (k2 : Int32 → Option (Int32)) (p0 : St) (b0 : (Nat → Int64)) (x1 : Int32) : Option (Int32) :=
  if (p0 10 0) ≤ x1 then
    if (p0 10 0) ≤ 0 then
      some 0
    else
      some 1
  else
    (sr_ald 24 (p0 2) x1).bind fun v_3 =>
    (f_P_countChildren p0 x1).bind fun v_5 =>
    (f_R_mayHave v_3 v_5).bind fun v_7 =>
    if v_7 = 0 then
      some 0
    else
      k2 (x1 + 1)
set_option maxHeartbeats 4000000 in
set_option maxRecDepth 100000 in
theorem k_R_childrenAreRight_2 {k2 : Int32 → Option (Int32)} {p0 : St} {b0 : (Nat → Int64)} {x1 : Int32} {r : Int32} (X : sr_X D (tR t v) b_R_childrenAreRight 2 R_R w_R_childrenAreRight p s m args meth c A (some .boolean)) (hk2 : ∀ (x1 : Int32) (H : Heap) (locs : List Loc) (ls : Array Slot), sr_Z D A s.heap (wR h t o v p0 b0) H locs → lv_has ls 2 [(0, .ref (o 0)), (1, .int x1)] → k2 x1 = some r → W p l e (sr_rm 1 23) s m args below meth c H locs 0 0 (sr_Qi D (tR t v) below args s A (wR h t o v p0 b0) r) (F0 m 2 ls [])) (Z : sr_Z D A s.heap (wR h t o v p0 b0) H locs) (hl : lv_has ls 2 [(0, .ref (o 0)), (1, .int x1)]) (hf : f_R_childrenAreRight_2 k2 p0 b0 x1 = some r) : W p l e (sr_rm 1 23) s m args below meth c H locs 0 0 (sr_Qi D (tR t v) below args s A (wR h t o v p0 b0) r) (F0 m 2 ls []) := by
  have hx := X.1
  have hb := X.2.1
  have hK := X.2.2.2.2.2.2.1
  unfold f_R_childrenAreRight_2 at hf
  refine lv_iload_n hx hb d_R_childrenAreRight_2 rfl (lv_at hl 1 rfl) ?_
  refine lv_aload_n hx hb d_R_childrenAreRight_3 rfl (lv_at hl 0 rfl) ?_
  refine g_R_15_R X Z d_R_childrenAreRight_4 ?_
  refine g_R_41_R X Z d_R_childrenAreRight_7 ?_
  refine lv_icmp_ge (tgt := 44) hx hb d_R_childrenAreRight_10 rfl (fun q_1 => ?_) (fun q_1 => ?_)
  · have hf := sr_it q_1 hf
    refine lv_aload_n hx hb d_R_childrenAreRight_44 rfl (lv_at hl 0 rfl) ?_
    refine g_R_15_R X Z d_R_childrenAreRight_45 ?_
    refine g_R_41_R X Z d_R_childrenAreRight_48 ?_
    refine lv_if_le (tgt := 58) hx hb d_R_childrenAreRight_51 rfl (fun q_2 => ?_) (fun q_2 => ?_)
    · have hf := sr_it q_2 hf
      refine lv_iconst (v := 0) hx hb d_R_childrenAreRight_58 (by decide) ?_
      cases hf
      exact sr_retz X Z (by decide) d_R_childrenAreRight_59
    · have hf := sr_if q_2 hf
      refine lv_iconst (v := 1) hx hb d_R_childrenAreRight_54 (by decide) ?_
      refine lv_goto (tgt := 59) hx hb d_R_childrenAreRight_55 rfl ?_
      cases hf
      exact sr_retz X Z (by decide) d_R_childrenAreRight_59
  · have hf := sr_if q_1 hf
    refine lv_aload_n hx hb d_R_childrenAreRight_13 rfl (lv_at hl 0 rfl) ?_
    refine g_R_15_R X Z d_R_childrenAreRight_14 ?_
    refine g_R_47_R X Z d_R_childrenAreRight_17 ?_
    refine lv_iload_n hx hb d_R_childrenAreRight_20 rfl (lv_at hl 1 rfl) ?_
    obtain ⟨v_3, e_4, hf⟩ := sr_b hf
    refine sr_iald hx hb hK Z 3 2 rfl rfl e_4 d_R_childrenAreRight_21 ?_
    refine lv_aload_n hx hb d_R_childrenAreRight_22 rfl (lv_at hl 0 rfl) ?_
    refine g_R_15_R X Z d_R_childrenAreRight_23 ?_
    refine lv_iload_n hx hb d_R_childrenAreRight_26 rfl (lv_at hl 1 rfl) ?_
    obtain ⟨v_5, e_6, hf⟩ := sr_b hf
    refine sr_cVi (As := [.int x1]) (rest := [.int v_3]) X Z cut_RP (k_RP hK) (c_P_countChildren e_6) (cw_R_51 X.2.2.2.2.2.1 (by decide)) 0 rfl rfl rfl hl rfl (Nat.le_of_ble_eq_true rfl) d_R_childrenAreRight_27 (fun H locs Z => ?_)
    obtain ⟨v_7, e_8, hf⟩ := sr_b hf
    refine sr_cSi (As := [.int v_3, .int v_5]) (rest := []) X Z sr_cut_0 (va_K.sub hK [] rfl) (c_R_mayHave e_8) (cw_R_55 X.2.2.2.2.2.1 (by decide)) rfl hl rfl (Nat.le_of_ble_eq_true rfl) d_R_childrenAreRight_30 (fun H locs Z => ?_)
    refine lv_if_ne (tgt := 38) hx hb d_R_childrenAreRight_33 rfl (fun q_9 => ?_) (fun q_9 => ?_)
    · have hf := sr_if q_9 hf
      refine lv_iinc (k := 1) (v := x1 + 1) (lv' := [(1, .int (x1 + 1)), (0, .ref (o 0))]) hx hb d_R_childrenAreRight_38 hl rfl rfl (by decide) rfl (fun ls hl => ?_)
      refine lv_goto (tgt := 2) hx hb d_R_childrenAreRight_41 rfl ?_
      exact hk2 (x1 + 1) _ _ _ Z (lv_sub hl [1, 0] rfl) hf
    · have hf := sr_it q_9 hf
      refine lv_iconst (v := 0) hx hb d_R_childrenAreRight_36 (by decide) ?_
      cases hf
      exact sr_retz X Z (by decide) d_R_childrenAreRight_37
def f_R_childrenAreRight_2_it (p0 : St) (b0 : (Nat → Int64)) : Nat → Int32 → Option (Int32)
  | 0 => fun _ => none
  | n + 1 => fun x1 => f_R_childrenAreRight_2 (f_R_childrenAreRight_2_it p0 b0 n) p0 b0 x1
set_option maxHeartbeats 4000000 in
set_option maxRecDepth 100000 in
theorem k_R_childrenAreRight_2_it {p0 : St} {b0 : (Nat → Int64)} {r : Int32} (X : sr_X D (tR t v) b_R_childrenAreRight 2 R_R w_R_childrenAreRight p s m args meth c A (some .boolean)) (n : Nat) : ∀ {x1 : Int32} {H : Heap} {locs : List Loc} {ls : Array Slot}, sr_Z D A s.heap (wR h t o v p0 b0) H locs → lv_has ls 2 [(0, .ref (o 0)), (1, .int x1)] → f_R_childrenAreRight_2_it p0 b0 n x1 = some r → W p l e (sr_rm 1 23) s m args below meth c H locs 0 0 (sr_Qi D (tR t v) below args s A (wR h t o v p0 b0) r) (F0 m 2 ls []) := by
  induction n with
  | zero => intro x1 H locs ls Z hl hf; exact absurd hf (by simp [f_R_childrenAreRight_2_it])
  | succ n ih =>
    intro x1 H locs ls Z hl hf
    exact k_R_childrenAreRight_2 X (fun x1 H locs ls Z hl hf => ih Z hl hf) Z hl hf
def f_R_childrenAreRight (p0 : St) (b0 : (Nat → Int64)) : Option (Int32) :=
  f_R_childrenAreRight_2_it p0 b0 60 0
set_option maxHeartbeats 4000000 in
set_option maxRecDepth 100000 in
theorem k_R_childrenAreRight_0 {p0 : St} {b0 : (Nat → Int64)} {r : Int32} (X : sr_X D (tR t v) b_R_childrenAreRight 2 R_R w_R_childrenAreRight p s m args meth c A (some .boolean)) (Z : sr_Z D A s.heap (wR h t o v p0 b0) H locs) (hl : lv_has ls 2 [(0, .ref (o 0))]) (hf : f_R_childrenAreRight p0 b0 = some r) : W p l e (sr_rm 1 23) s m args below meth c H locs 0 0 (sr_Qi D (tR t v) below args s A (wR h t o v p0 b0) r) (F0 m 0 ls []) := by
  have hx := X.1
  have hb := X.2.1
  have hK := X.2.2.2.2.2.2.1
  unfold f_R_childrenAreRight at hf
  refine lv_iconst (v := 0) hx hb d_R_childrenAreRight_0 (by decide) ?_
  refine lv_istore_n (lv' := [(1, .int 0), (0, .ref (o 0))]) hx hb d_R_childrenAreRight_1 rfl hl (by decide) rfl (fun ls hl => ?_)
  exact k_R_childrenAreRight_2_it X _ Z (lv_sub hl [1, 0] rfl) hf
end
set_option maxHeartbeats 4000000 in
set_option maxRecDepth 100000 in
theorem c_R_childrenAreRight {l : Launch} {D : va_G} {h : Nat → Nat} {t : Nat → ClassId} {o : Nat → Nat} {v : Nat → ClassId} {sz : Nat} {p0 : St} {b0 : (Nat → Int64)} {r : Int32} (hf : f_R_childrenAreRight p0 b0 = some r) : sr_Ci l y_R_childrenAreRight w_R_childrenAreRight (sr_rm 1 23) D (tR t v) (wR h t o v p0 b0) (wR h t o v p0 b0) sz [.ref (o 0)] r := by
  refine Met.ofW (cc := b_R_childrenAreRight) (maxL := 2) (ret := (some .boolean)) (by decide) rfl ?_
  intro p e s m args below meth c s₁ B hml hv
  obtain ⟨rfl, hsz, hP, hK, hD0⟩ := hv
  subst hsz
  have X : sr_X D (tR t v) b_R_childrenAreRight 2 R_R w_R_childrenAreRight p s m _ meth c (va_A (wR h t o v p0 b0) s.heap.size) (some .boolean) := ⟨B.exec, B.bytes, hml, findClass_of_methodNamed B.named, B.notSynchronized, atoms_spec (ws := w_R_childrenAreRight) B.pre, hK, fun q h => Or.inr h, B.returns⟩
  have Z : sr_Z D (va_A (wR h t o v p0 b0) s.heap.size) s.heap (wR h t o v p0 b0) s.heap [] := ⟨hP, hD0.self, va_S.rf⟩
  have hl := lv_entry ([.ref (o 0)] : List Value) (n := 2) (Nat.le_of_ble_eq_true rfl)
  rw [lg_entry_eq]
  exact k_R_childrenAreRight_0 X Z hl hf
/-! R_handlersAreFlat -/
theorem d_R_handlersAreFlat_0 : decode b_R_handlersAreFlat 0 = .ok (.iconst 0, 1) := by decide +kernel
theorem d_R_handlersAreFlat_1 : decode b_R_handlersAreFlat 1 = .ok (.istore_n 1, 1) := by decide +kernel
theorem d_R_handlersAreFlat_2 : decode b_R_handlersAreFlat 2 = .ok (.iload_n 1, 1) := by decide +kernel
theorem d_R_handlersAreFlat_3 : decode b_R_handlersAreFlat 3 = .ok (.aload_n 0, 1) := by decide +kernel
theorem d_R_handlersAreFlat_4 : decode b_R_handlersAreFlat 4 = .ok (.getfield 15, 3) := by decide +kernel
theorem d_R_handlersAreFlat_7 : decode b_R_handlersAreFlat 7 = .ok (.getfield 41, 3) := by decide +kernel
theorem d_R_handlersAreFlat_10 : decode b_R_handlersAreFlat 10 = .ok (.if_icmp .ge 38, 3) := by decide +kernel
theorem d_R_handlersAreFlat_13 : decode b_R_handlersAreFlat 13 = .ok (.aload_n 0, 1) := by decide +kernel
theorem d_R_handlersAreFlat_14 : decode b_R_handlersAreFlat 14 = .ok (.getfield 15, 3) := by decide +kernel
theorem d_R_handlersAreFlat_17 : decode b_R_handlersAreFlat 17 = .ok (.getfield 47, 3) := by decide +kernel
theorem d_R_handlersAreFlat_20 : decode b_R_handlersAreFlat 20 = .ok (.iload_n 1, 1) := by decide +kernel
theorem d_R_handlersAreFlat_21 : decode b_R_handlersAreFlat 21 = .ok (.iaload, 1) := by decide +kernel
theorem d_R_handlersAreFlat_22 : decode b_R_handlersAreFlat 22 = .ok (.bipush 12, 2) := by decide +kernel
theorem d_R_handlersAreFlat_24 : decode b_R_handlersAreFlat 24 = .ok (.if_icmp .ne 18, 3) := by decide +kernel
theorem d_R_handlersAreFlat_27 : decode b_R_handlersAreFlat 27 = .ok (.aload_n 0, 1) := by decide +kernel
theorem d_R_handlersAreFlat_28 : decode b_R_handlersAreFlat 28 = .ok (.getfield 15, 3) := by decide +kernel
theorem d_R_handlersAreFlat_31 : decode b_R_handlersAreFlat 31 = .ok (.getfield 61, 3) := by decide +kernel
theorem d_R_handlersAreFlat_34 : decode b_R_handlersAreFlat 34 = .ok (.iload_n 1, 1) := by decide +kernel
theorem d_R_handlersAreFlat_35 : decode b_R_handlersAreFlat 35 = .ok (.iaload, 1) := by decide +kernel
theorem d_R_handlersAreFlat_36 : decode b_R_handlersAreFlat 36 = .ok (.iconst (-1), 1) := by decide +kernel
theorem d_R_handlersAreFlat_37 : decode b_R_handlersAreFlat 37 = .ok (.if_icmp .eq 5, 3) := by decide +kernel
theorem d_R_handlersAreFlat_40 : decode b_R_handlersAreFlat 40 = .ok (.iconst 0, 1) := by decide +kernel
theorem d_R_handlersAreFlat_41 : decode b_R_handlersAreFlat 41 = .ok (.ireturn, 1) := by decide +kernel
theorem d_R_handlersAreFlat_42 : decode b_R_handlersAreFlat 42 = .ok (.iinc 1 1, 3) := by decide +kernel
theorem d_R_handlersAreFlat_45 : decode b_R_handlersAreFlat 45 = .ok (.goto (-43), 3) := by decide +kernel
theorem d_R_handlersAreFlat_48 : decode b_R_handlersAreFlat 48 = .ok (.iconst 1, 1) := by decide +kernel
theorem d_R_handlersAreFlat_49 : decode b_R_handlersAreFlat 49 = .ok (.ireturn, 1) := by decide +kernel
section
variable {p : Program} {l : Launch} {e : Env} {s : State} {m : MethodId} {args : Array Value} {below : List Frame} {meth : Method} {c : Code} {H : Heap} {locs : List Loc} {ls : Array Slot} {D : va_G} {A : Nat → Prop} {h o : Nat → Nat} {t v : Nat → ClassId}
def f_R_handlersAreFlat_42 (k2 : Int32 → Option (Int32)) (p0 : St) (b0 : (Nat → Int64)) (x1 : Int32) : Option (Int32) :=
  k2 (x1 + 1)
set_option maxHeartbeats 4000000 in
set_option maxRecDepth 100000 in
theorem k_R_handlersAreFlat_42 {k2 : Int32 → Option (Int32)} {p0 : St} {b0 : (Nat → Int64)} {x1 : Int32} {r : Int32} (X : sr_X D (tR t v) b_R_handlersAreFlat 2 R_R w_R_handlersAreFlat p s m args meth c A (some .boolean)) (hk2 : ∀ (x1 : Int32) (H : Heap) (locs : List Loc) (ls : Array Slot), sr_Z D A s.heap (wR h t o v p0 b0) H locs → lv_has ls 2 [(0, .ref (o 0)), (1, .int x1)] → k2 x1 = some r → W p l e (sr_rm 0 0) s m args below meth c H locs 0 0 (sr_Qi D (tR t v) below args s A (wR h t o v p0 b0) r) (F0 m 2 ls [])) (Z : sr_Z D A s.heap (wR h t o v p0 b0) H locs) (hl : lv_has ls 2 [(0, .ref (o 0)), (1, .int x1)]) (hf : f_R_handlersAreFlat_42 k2 p0 b0 x1 = some r) : W p l e (sr_rm 0 0) s m args below meth c H locs 0 0 (sr_Qi D (tR t v) below args s A (wR h t o v p0 b0) r) (F0 m 42 ls []) := by
  have hx := X.1
  have hb := X.2.1
  have hK := X.2.2.2.2.2.2.1
  unfold f_R_handlersAreFlat_42 at hf
  refine lv_iinc (k := 1) (v := x1 + 1) (lv' := [(1, .int (x1 + 1)), (0, .ref (o 0))]) hx hb d_R_handlersAreFlat_42 hl rfl rfl (by decide) rfl (fun ls hl => ?_)
  refine lv_goto (tgt := 2) hx hb d_R_handlersAreFlat_45 rfl ?_
  exact hk2 (x1 + 1) _ _ _ Z (lv_sub hl [1, 0] rfl) hf
def f_R_handlersAreFlat_2 (k2 : Int32 → Option (Int32)) (p0 : St) (b0 : (Nat → Int64)) (x1 : Int32) : Option (Int32) :=
  if (p0 10 0) ≤ x1 then
    some 1
  else
    (sr_ald 24 (p0 2) x1).bind fun v_2 =>
    if v_2 = 12 then
      (sr_ald 24 (p0 7) x1).bind fun v_5 =>
      if v_5 = (-1) then
        f_R_handlersAreFlat_42 k2 p0 b0 x1
      else
        some 0
    else
      f_R_handlersAreFlat_42 k2 p0 b0 x1
set_option maxHeartbeats 4000000 in
set_option maxRecDepth 100000 in
theorem k_R_handlersAreFlat_2 {k2 : Int32 → Option (Int32)} {p0 : St} {b0 : (Nat → Int64)} {x1 : Int32} {r : Int32} (X : sr_X D (tR t v) b_R_handlersAreFlat 2 R_R w_R_handlersAreFlat p s m args meth c A (some .boolean)) (hk2 : ∀ (x1 : Int32) (H : Heap) (locs : List Loc) (ls : Array Slot), sr_Z D A s.heap (wR h t o v p0 b0) H locs → lv_has ls 2 [(0, .ref (o 0)), (1, .int x1)] → k2 x1 = some r → W p l e (sr_rm 0 0) s m args below meth c H locs 0 0 (sr_Qi D (tR t v) below args s A (wR h t o v p0 b0) r) (F0 m 2 ls [])) (Z : sr_Z D A s.heap (wR h t o v p0 b0) H locs) (hl : lv_has ls 2 [(0, .ref (o 0)), (1, .int x1)]) (hf : f_R_handlersAreFlat_2 k2 p0 b0 x1 = some r) : W p l e (sr_rm 0 0) s m args below meth c H locs 0 0 (sr_Qi D (tR t v) below args s A (wR h t o v p0 b0) r) (F0 m 2 ls []) := by
  have hx := X.1
  have hb := X.2.1
  have hK := X.2.2.2.2.2.2.1
  unfold f_R_handlersAreFlat_2 at hf
  refine lv_iload_n hx hb d_R_handlersAreFlat_2 rfl (lv_at hl 1 rfl) ?_
  refine lv_aload_n hx hb d_R_handlersAreFlat_3 rfl (lv_at hl 0 rfl) ?_
  refine g_R_15_R X Z d_R_handlersAreFlat_4 ?_
  refine g_R_41_R X Z d_R_handlersAreFlat_7 ?_
  refine lv_icmp_ge (tgt := 48) hx hb d_R_handlersAreFlat_10 rfl (fun q_1 => ?_) (fun q_1 => ?_)
  · have hf := sr_it q_1 hf
    refine lv_iconst (v := 1) hx hb d_R_handlersAreFlat_48 (by decide) ?_
    cases hf
    exact sr_retz X Z (by decide) d_R_handlersAreFlat_49
  · have hf := sr_if q_1 hf
    refine lv_aload_n hx hb d_R_handlersAreFlat_13 rfl (lv_at hl 0 rfl) ?_
    refine g_R_15_R X Z d_R_handlersAreFlat_14 ?_
    refine g_R_47_R X Z d_R_handlersAreFlat_17 ?_
    refine lv_iload_n hx hb d_R_handlersAreFlat_20 rfl (lv_at hl 1 rfl) ?_
    obtain ⟨v_2, e_3, hf⟩ := sr_b hf
    refine sr_iald hx hb hK Z 3 2 rfl rfl e_3 d_R_handlersAreFlat_21 ?_
    refine lv_bipush (v := 12) hx hb d_R_handlersAreFlat_22 (by decide) ?_
    refine lv_icmp_ne (tgt := 42) hx hb d_R_handlersAreFlat_24 rfl (fun q_4 => ?_) (fun q_4 => ?_)
    · have hf := sr_if q_4 hf
      exact k_R_handlersAreFlat_42 X hk2 Z (lv_sub hl [0, 1] rfl) hf
    · have hf := sr_it q_4 hf
      refine lv_aload_n hx hb d_R_handlersAreFlat_27 rfl (lv_at hl 0 rfl) ?_
      refine g_R_15_R X Z d_R_handlersAreFlat_28 ?_
      refine g_R_61_R X Z d_R_handlersAreFlat_31 ?_
      refine lv_iload_n hx hb d_R_handlersAreFlat_34 rfl (lv_at hl 1 rfl) ?_
      obtain ⟨v_5, e_6, hf⟩ := sr_b hf
      refine sr_iald hx hb hK Z 8 7 rfl rfl e_6 d_R_handlersAreFlat_35 ?_
      refine lv_iconst (v := -1) hx hb d_R_handlersAreFlat_36 (by decide) ?_
      refine lv_icmp_eq (tgt := 42) hx hb d_R_handlersAreFlat_37 rfl (fun q_7 => ?_) (fun q_7 => ?_)
      · have hf := sr_it q_7 hf
        exact k_R_handlersAreFlat_42 X hk2 Z (lv_sub hl [0, 1] rfl) hf
      · have hf := sr_if q_7 hf
        refine lv_iconst (v := 0) hx hb d_R_handlersAreFlat_40 (by decide) ?_
        cases hf
        exact sr_retz X Z (by decide) d_R_handlersAreFlat_41
def f_R_handlersAreFlat_2_it (p0 : St) (b0 : (Nat → Int64)) : Nat → Int32 → Option (Int32)
  | 0 => fun _ => none
  | n + 1 => fun x1 => f_R_handlersAreFlat_2 (f_R_handlersAreFlat_2_it p0 b0 n) p0 b0 x1
set_option maxHeartbeats 4000000 in
set_option maxRecDepth 100000 in
theorem k_R_handlersAreFlat_2_it {p0 : St} {b0 : (Nat → Int64)} {r : Int32} (X : sr_X D (tR t v) b_R_handlersAreFlat 2 R_R w_R_handlersAreFlat p s m args meth c A (some .boolean)) (n : Nat) : ∀ {x1 : Int32} {H : Heap} {locs : List Loc} {ls : Array Slot}, sr_Z D A s.heap (wR h t o v p0 b0) H locs → lv_has ls 2 [(0, .ref (o 0)), (1, .int x1)] → f_R_handlersAreFlat_2_it p0 b0 n x1 = some r → W p l e (sr_rm 0 0) s m args below meth c H locs 0 0 (sr_Qi D (tR t v) below args s A (wR h t o v p0 b0) r) (F0 m 2 ls []) := by
  induction n with
  | zero => intro x1 H locs ls Z hl hf; exact absurd hf (by simp [f_R_handlersAreFlat_2_it])
  | succ n ih =>
    intro x1 H locs ls Z hl hf
    exact k_R_handlersAreFlat_2 X (fun x1 H locs ls Z hl hf => ih Z hl hf) Z hl hf
def f_R_handlersAreFlat (p0 : St) (b0 : (Nat → Int64)) : Option (Int32) :=
  f_R_handlersAreFlat_2_it p0 b0 60 0
set_option maxHeartbeats 4000000 in
set_option maxRecDepth 100000 in
theorem k_R_handlersAreFlat_0 {p0 : St} {b0 : (Nat → Int64)} {r : Int32} (X : sr_X D (tR t v) b_R_handlersAreFlat 2 R_R w_R_handlersAreFlat p s m args meth c A (some .boolean)) (Z : sr_Z D A s.heap (wR h t o v p0 b0) H locs) (hl : lv_has ls 2 [(0, .ref (o 0))]) (hf : f_R_handlersAreFlat p0 b0 = some r) : W p l e (sr_rm 0 0) s m args below meth c H locs 0 0 (sr_Qi D (tR t v) below args s A (wR h t o v p0 b0) r) (F0 m 0 ls []) := by
  have hx := X.1
  have hb := X.2.1
  have hK := X.2.2.2.2.2.2.1
  unfold f_R_handlersAreFlat at hf
  refine lv_iconst (v := 0) hx hb d_R_handlersAreFlat_0 (by decide) ?_
  refine lv_istore_n (lv' := [(1, .int 0), (0, .ref (o 0))]) hx hb d_R_handlersAreFlat_1 rfl hl (by decide) rfl (fun ls hl => ?_)
  exact k_R_handlersAreFlat_2_it X _ Z (lv_sub hl [1, 0] rfl) hf
end
set_option maxHeartbeats 4000000 in
set_option maxRecDepth 100000 in
theorem c_R_handlersAreFlat {l : Launch} {D : va_G} {h : Nat → Nat} {t : Nat → ClassId} {o : Nat → Nat} {v : Nat → ClassId} {sz : Nat} {p0 : St} {b0 : (Nat → Int64)} {r : Int32} (hf : f_R_handlersAreFlat p0 b0 = some r) : sr_Ci l y_R_handlersAreFlat w_R_handlersAreFlat (sr_rm 0 0) D (tR t v) (wR h t o v p0 b0) (wR h t o v p0 b0) sz [.ref (o 0)] r := by
  refine Met.ofW (cc := b_R_handlersAreFlat) (maxL := 2) (ret := (some .boolean)) (by decide) rfl ?_
  intro p e s m args below meth c s₁ B hml hv
  obtain ⟨rfl, hsz, hP, hK, hD0⟩ := hv
  subst hsz
  have X : sr_X D (tR t v) b_R_handlersAreFlat 2 R_R w_R_handlersAreFlat p s m _ meth c (va_A (wR h t o v p0 b0) s.heap.size) (some .boolean) := ⟨B.exec, B.bytes, hml, findClass_of_methodNamed B.named, B.notSynchronized, atoms_spec (ws := w_R_handlersAreFlat) B.pre, hK, fun q h => Or.inr h, B.returns⟩
  have Z : sr_Z D (va_A (wR h t o v p0 b0) s.heap.size) s.heap (wR h t o v p0 b0) s.heap [] := ⟨hP, hD0.self, va_S.rf⟩
  have hl := lv_entry ([.ref (o 0)] : List Value) (n := 2) (Nat.le_of_ble_eq_true rfl)
  rw [lg_entry_eq]
  exact k_R_handlersAreFlat_0 X Z hl hf
/-! R_handlerKindsAreInside -/
theorem d_R_handlerKindsAreInside_0 : decode b_R_handlerKindsAreInside 0 = .ok (.iconst 0, 1) := by decide +kernel
theorem d_R_handlerKindsAreInside_1 : decode b_R_handlerKindsAreInside 1 = .ok (.istore_n 1, 1) := by decide +kernel
theorem d_R_handlerKindsAreInside_2 : decode b_R_handlerKindsAreInside 2 = .ok (.iload_n 1, 1) := by decide +kernel
theorem d_R_handlerKindsAreInside_3 : decode b_R_handlerKindsAreInside 3 = .ok (.aload_n 0, 1) := by decide +kernel
theorem d_R_handlerKindsAreInside_4 : decode b_R_handlerKindsAreInside 4 = .ok (.getfield 15, 3) := by decide +kernel
theorem d_R_handlerKindsAreInside_7 : decode b_R_handlerKindsAreInside 7 = .ok (.getfield 41, 3) := by decide +kernel
theorem d_R_handlerKindsAreInside_10 : decode b_R_handlerKindsAreInside 10 = .ok (.if_icmp .ge 94, 3) := by decide +kernel
theorem d_R_handlerKindsAreInside_13 : decode b_R_handlerKindsAreInside 13 = .ok (.aload_n 0, 1) := by decide +kernel
theorem d_R_handlerKindsAreInside_14 : decode b_R_handlerKindsAreInside 14 = .ok (.getfield 15, 3) := by decide +kernel
theorem d_R_handlerKindsAreInside_17 : decode b_R_handlerKindsAreInside 17 = .ok (.getfield 61, 3) := by decide +kernel
theorem d_R_handlerKindsAreInside_20 : decode b_R_handlerKindsAreInside 20 = .ok (.iload_n 1, 1) := by decide +kernel
theorem d_R_handlerKindsAreInside_21 : decode b_R_handlerKindsAreInside 21 = .ok (.iaload, 1) := by decide +kernel
theorem d_R_handlerKindsAreInside_22 : decode b_R_handlerKindsAreInside 22 = .ok (.istore_n 2, 1) := by decide +kernel
theorem d_R_handlerKindsAreInside_23 : decode b_R_handlerKindsAreInside 23 = .ok (.iload_n 2, 1) := by decide +kernel
theorem d_R_handlerKindsAreInside_24 : decode b_R_handlerKindsAreInside 24 = .ok (.iconst (-1), 1) := by decide +kernel
theorem d_R_handlerKindsAreInside_25 : decode b_R_handlerKindsAreInside 25 = .ok (.if_icmp .eq 7, 3) := by decide +kernel
theorem d_R_handlerKindsAreInside_28 : decode b_R_handlerKindsAreInside 28 = .ok (.iconst 1, 1) := by decide +kernel
theorem d_R_handlerKindsAreInside_29 : decode b_R_handlerKindsAreInside 29 = .ok (.goto 4, 3) := by decide +kernel
theorem d_R_handlerKindsAreInside_32 : decode b_R_handlerKindsAreInside 32 = .ok (.iconst 0, 1) := by decide +kernel
theorem d_R_handlerKindsAreInside_33 : decode b_R_handlerKindsAreInside 33 = .ok (.istore_n 3, 1) := by decide +kernel
theorem d_R_handlerKindsAreInside_34 : decode b_R_handlerKindsAreInside 34 = .ok (.iload_n 3, 1) := by decide +kernel
theorem d_R_handlerKindsAreInside_35 : decode b_R_handlerKindsAreInside 35 = .ok (.ifCond .eq 20, 3) := by decide +kernel
theorem d_R_handlerKindsAreInside_38 : decode b_R_handlerKindsAreInside 38 = .ok (.aload_n 0, 1) := by decide +kernel
theorem d_R_handlerKindsAreInside_39 : decode b_R_handlerKindsAreInside 39 = .ok (.getfield 15, 3) := by decide +kernel
theorem d_R_handlerKindsAreInside_42 : decode b_R_handlerKindsAreInside 42 = .ok (.getfield 64, 3) := by decide +kernel
theorem d_R_handlerKindsAreInside_45 : decode b_R_handlerKindsAreInside 45 = .ok (.iload_n 2, 1) := by decide +kernel
theorem d_R_handlerKindsAreInside_46 : decode b_R_handlerKindsAreInside 46 = .ok (.iaload, 1) := by decide +kernel
theorem d_R_handlerKindsAreInside_47 : decode b_R_handlerKindsAreInside 47 = .ok (.iconst 1, 1) := by decide +kernel
theorem d_R_handlerKindsAreInside_48 : decode b_R_handlerKindsAreInside 48 = .ok (.if_icmp .ne 7, 3) := by decide +kernel
theorem d_R_handlerKindsAreInside_51 : decode b_R_handlerKindsAreInside 51 = .ok (.iconst 1, 1) := by decide +kernel
theorem d_R_handlerKindsAreInside_52 : decode b_R_handlerKindsAreInside 52 = .ok (.goto 4, 3) := by decide +kernel
theorem d_R_handlerKindsAreInside_55 : decode b_R_handlerKindsAreInside 55 = .ok (.iconst 0, 1) := by decide +kernel
theorem d_R_handlerKindsAreInside_56 : decode b_R_handlerKindsAreInside 56 = .ok (.istore 4, 2) := by decide +kernel
theorem d_R_handlerKindsAreInside_58 : decode b_R_handlerKindsAreInside 58 = .ok (.aload_n 0, 1) := by decide +kernel
theorem d_R_handlerKindsAreInside_59 : decode b_R_handlerKindsAreInside 59 = .ok (.getfield 15, 3) := by decide +kernel
theorem d_R_handlerKindsAreInside_62 : decode b_R_handlerKindsAreInside 62 = .ok (.getfield 47, 3) := by decide +kernel
theorem d_R_handlerKindsAreInside_65 : decode b_R_handlerKindsAreInside 65 = .ok (.iload_n 1, 1) := by decide +kernel
theorem d_R_handlerKindsAreInside_66 : decode b_R_handlerKindsAreInside 66 = .ok (.iaload, 1) := by decide +kernel
theorem d_R_handlerKindsAreInside_67 : decode b_R_handlerKindsAreInside 67 = .ok (.iconst 4, 1) := by decide +kernel
theorem d_R_handlerKindsAreInside_68 : decode b_R_handlerKindsAreInside 68 = .ok (.if_icmp .ne 10, 3) := by decide +kernel
theorem d_R_handlerKindsAreInside_71 : decode b_R_handlerKindsAreInside 71 = .ok (.iload 4, 2) := by decide +kernel
theorem d_R_handlerKindsAreInside_73 : decode b_R_handlerKindsAreInside 73 = .ok (.ifCond .ne 5, 3) := by decide +kernel
theorem d_R_handlerKindsAreInside_76 : decode b_R_handlerKindsAreInside 76 = .ok (.iconst 0, 1) := by decide +kernel
theorem d_R_handlerKindsAreInside_77 : decode b_R_handlerKindsAreInside 77 = .ok (.ireturn, 1) := by decide +kernel
theorem d_R_handlerKindsAreInside_78 : decode b_R_handlerKindsAreInside 78 = .ok (.aload_n 0, 1) := by decide +kernel
theorem d_R_handlerKindsAreInside_79 : decode b_R_handlerKindsAreInside 79 = .ok (.getfield 15, 3) := by decide +kernel
theorem d_R_handlerKindsAreInside_82 : decode b_R_handlerKindsAreInside 82 = .ok (.getfield 47, 3) := by decide +kernel
theorem d_R_handlerKindsAreInside_85 : decode b_R_handlerKindsAreInside 85 = .ok (.iload_n 1, 1) := by decide +kernel
theorem d_R_handlerKindsAreInside_86 : decode b_R_handlerKindsAreInside 86 = .ok (.iaload, 1) := by decide +kernel
theorem d_R_handlerKindsAreInside_87 : decode b_R_handlerKindsAreInside 87 = .ok (.bipush 7, 2) := by decide +kernel
theorem d_R_handlerKindsAreInside_89 : decode b_R_handlerKindsAreInside 89 = .ok (.if_icmp .ne 9, 3) := by decide +kernel
theorem d_R_handlerKindsAreInside_92 : decode b_R_handlerKindsAreInside 92 = .ok (.iload_n 3, 1) := by decide +kernel
theorem d_R_handlerKindsAreInside_93 : decode b_R_handlerKindsAreInside 93 = .ok (.ifCond .ne 5, 3) := by decide +kernel
theorem d_R_handlerKindsAreInside_96 : decode b_R_handlerKindsAreInside 96 = .ok (.iconst 0, 1) := by decide +kernel
theorem d_R_handlerKindsAreInside_97 : decode b_R_handlerKindsAreInside 97 = .ok (.ireturn, 1) := by decide +kernel
theorem d_R_handlerKindsAreInside_98 : decode b_R_handlerKindsAreInside 98 = .ok (.iinc 1 1, 3) := by decide +kernel
theorem d_R_handlerKindsAreInside_101 : decode b_R_handlerKindsAreInside 101 = .ok (.goto (-99), 3) := by decide +kernel
theorem d_R_handlerKindsAreInside_104 : decode b_R_handlerKindsAreInside 104 = .ok (.iconst 1, 1) := by decide +kernel
theorem d_R_handlerKindsAreInside_105 : decode b_R_handlerKindsAreInside 105 = .ok (.ireturn, 1) := by decide +kernel
section
variable {p : Program} {l : Launch} {e : Env} {s : State} {m : MethodId} {args : Array Value} {below : List Frame} {meth : Method} {c : Code} {H : Heap} {locs : List Loc} {ls : Array Slot} {D : va_G} {A : Nat → Prop} {h o : Nat → Nat} {t v : Nat → ClassId}
def f_R_handlerKindsAreInside_98 (k2 : Int32 → Option (Int32)) (p0 : St) (b0 : (Nat → Int64)) (x1 : Int32) : Option (Int32) :=
  k2 (x1 + 1)
set_option maxHeartbeats 4000000 in
set_option maxRecDepth 100000 in
theorem k_R_handlerKindsAreInside_98 {k2 : Int32 → Option (Int32)} {p0 : St} {b0 : (Nat → Int64)} {x1 : Int32} {r : Int32} (X : sr_X D (tR t v) b_R_handlerKindsAreInside 5 R_R w_R_handlerKindsAreInside p s m args meth c A (some .boolean)) (hk2 : ∀ (x1 : Int32) (H : Heap) (locs : List Loc) (ls : Array Slot), sr_Z D A s.heap (wR h t o v p0 b0) H locs → lv_has ls 5 [(0, .ref (o 0)), (1, .int x1)] → k2 x1 = some r → W p l e (sr_rm 0 0) s m args below meth c H locs 0 0 (sr_Qi D (tR t v) below args s A (wR h t o v p0 b0) r) (F0 m 2 ls [])) (Z : sr_Z D A s.heap (wR h t o v p0 b0) H locs) (hl : lv_has ls 5 [(0, .ref (o 0)), (1, .int x1)]) (hf : f_R_handlerKindsAreInside_98 k2 p0 b0 x1 = some r) : W p l e (sr_rm 0 0) s m args below meth c H locs 0 0 (sr_Qi D (tR t v) below args s A (wR h t o v p0 b0) r) (F0 m 98 ls []) := by
  have hx := X.1
  have hb := X.2.1
  have hK := X.2.2.2.2.2.2.1
  unfold f_R_handlerKindsAreInside_98 at hf
  refine lv_iinc (k := 1) (v := x1 + 1) (lv' := [(1, .int (x1 + 1)), (0, .ref (o 0))]) hx hb d_R_handlerKindsAreInside_98 hl rfl rfl (by decide) rfl (fun ls hl => ?_)
  refine lv_goto (tgt := 2) hx hb d_R_handlerKindsAreInside_101 rfl ?_
  exact hk2 (x1 + 1) _ _ _ Z (lv_sub hl [1, 0] rfl) hf
def f_R_handlerKindsAreInside_78 (k2 : Int32 → Option (Int32)) (p0 : St) (b0 : (Nat → Int64)) (x1 : Int32) (x3 : Int32) : Option (Int32) :=
  (sr_ald 24 (p0 2) x1).bind fun v_9 =>
  if v_9 = 7 then
    if x3 = 0 then
      some 0
    else
      f_R_handlerKindsAreInside_98 k2 p0 b0 x1
  else
    f_R_handlerKindsAreInside_98 k2 p0 b0 x1
set_option maxHeartbeats 4000000 in
set_option maxRecDepth 100000 in
theorem k_R_handlerKindsAreInside_78 {k2 : Int32 → Option (Int32)} {p0 : St} {b0 : (Nat → Int64)} {x1 : Int32} {x3 : Int32} {r : Int32} (X : sr_X D (tR t v) b_R_handlerKindsAreInside 5 R_R w_R_handlerKindsAreInside p s m args meth c A (some .boolean)) (hk2 : ∀ (x1 : Int32) (H : Heap) (locs : List Loc) (ls : Array Slot), sr_Z D A s.heap (wR h t o v p0 b0) H locs → lv_has ls 5 [(0, .ref (o 0)), (1, .int x1)] → k2 x1 = some r → W p l e (sr_rm 0 0) s m args below meth c H locs 0 0 (sr_Qi D (tR t v) below args s A (wR h t o v p0 b0) r) (F0 m 2 ls [])) (Z : sr_Z D A s.heap (wR h t o v p0 b0) H locs) (hl : lv_has ls 5 [(0, .ref (o 0)), (1, .int x1), (3, .int x3)]) (hf : f_R_handlerKindsAreInside_78 k2 p0 b0 x1 x3 = some r) : W p l e (sr_rm 0 0) s m args below meth c H locs 0 0 (sr_Qi D (tR t v) below args s A (wR h t o v p0 b0) r) (F0 m 78 ls []) := by
  have hx := X.1
  have hb := X.2.1
  have hK := X.2.2.2.2.2.2.1
  unfold f_R_handlerKindsAreInside_78 at hf
  refine lv_aload_n hx hb d_R_handlerKindsAreInside_78 rfl (lv_at hl 0 rfl) ?_
  refine g_R_15_R X Z d_R_handlerKindsAreInside_79 ?_
  refine g_R_47_R X Z d_R_handlerKindsAreInside_82 ?_
  refine lv_iload_n hx hb d_R_handlerKindsAreInside_85 rfl (lv_at hl 1 rfl) ?_
  obtain ⟨v_9, e_10, hf⟩ := sr_b hf
  refine sr_iald hx hb hK Z 3 2 rfl rfl e_10 d_R_handlerKindsAreInside_86 ?_
  refine lv_bipush (v := 7) hx hb d_R_handlerKindsAreInside_87 (by decide) ?_
  refine lv_icmp_ne (tgt := 98) hx hb d_R_handlerKindsAreInside_89 rfl (fun q_11 => ?_) (fun q_11 => ?_)
  · have hf := sr_if q_11 hf
    exact k_R_handlerKindsAreInside_98 X hk2 Z (lv_sub hl [0, 1] rfl) hf
  · have hf := sr_it q_11 hf
    refine lv_iload_n hx hb d_R_handlerKindsAreInside_92 rfl (lv_at hl 2 rfl) ?_
    refine lv_if_ne (tgt := 98) hx hb d_R_handlerKindsAreInside_93 rfl (fun q_12 => ?_) (fun q_12 => ?_)
    · have hf := sr_if q_12 hf
      exact k_R_handlerKindsAreInside_98 X hk2 Z (lv_sub hl [0, 1] rfl) hf
    · have hf := sr_it q_12 hf
      refine lv_iconst (v := 0) hx hb d_R_handlerKindsAreInside_96 (by decide) ?_
      cases hf
      exact sr_retz X Z (by decide) d_R_handlerKindsAreInside_97
def f_R_handlerKindsAreInside_56 (k2 : Int32 → Option (Int32)) (p0 : St) (b0 : (Nat → Int64)) (x1 : Int32) (x3 : Int32) (y0 : Int32) : Option (Int32) :=
  (sr_ald 24 (p0 2) x1).bind fun v_6 =>
  if v_6 = 4 then
    if y0 = 0 then
      some 0
    else
      f_R_handlerKindsAreInside_78 k2 p0 b0 x1 x3
  else
    f_R_handlerKindsAreInside_78 k2 p0 b0 x1 x3
set_option maxHeartbeats 4000000 in
set_option maxRecDepth 100000 in
theorem k_R_handlerKindsAreInside_56 {k2 : Int32 → Option (Int32)} {p0 : St} {b0 : (Nat → Int64)} {x1 : Int32} {x3 : Int32} {y0 : Int32} {r : Int32} (X : sr_X D (tR t v) b_R_handlerKindsAreInside 5 R_R w_R_handlerKindsAreInside p s m args meth c A (some .boolean)) (hk2 : ∀ (x1 : Int32) (H : Heap) (locs : List Loc) (ls : Array Slot), sr_Z D A s.heap (wR h t o v p0 b0) H locs → lv_has ls 5 [(0, .ref (o 0)), (1, .int x1)] → k2 x1 = some r → W p l e (sr_rm 0 0) s m args below meth c H locs 0 0 (sr_Qi D (tR t v) below args s A (wR h t o v p0 b0) r) (F0 m 2 ls [])) (Z : sr_Z D A s.heap (wR h t o v p0 b0) H locs) (hl : lv_has ls 5 [(0, .ref (o 0)), (1, .int x1), (3, .int x3)]) (hf : f_R_handlerKindsAreInside_56 k2 p0 b0 x1 x3 y0 = some r) : W p l e (sr_rm 0 0) s m args below meth c H locs 0 0 (sr_Qi D (tR t v) below args s A (wR h t o v p0 b0) r) (F0 m 56 ls [.int y0]) := by
  have hx := X.1
  have hb := X.2.1
  have hK := X.2.2.2.2.2.2.1
  unfold f_R_handlerKindsAreInside_56 at hf
  refine lv_istore (lv' := [(4, .int y0), (0, .ref (o 0)), (1, .int x1), (3, .int x3)]) hx hb d_R_handlerKindsAreInside_56 hl (by decide) rfl (fun ls hl => ?_)
  refine lv_aload_n hx hb d_R_handlerKindsAreInside_58 rfl (lv_at hl 1 rfl) ?_
  refine g_R_15_R X Z d_R_handlerKindsAreInside_59 ?_
  refine g_R_47_R X Z d_R_handlerKindsAreInside_62 ?_
  refine lv_iload_n hx hb d_R_handlerKindsAreInside_65 rfl (lv_at hl 2 rfl) ?_
  obtain ⟨v_6, e_7, hf⟩ := sr_b hf
  refine sr_iald hx hb hK Z 3 2 rfl rfl e_7 d_R_handlerKindsAreInside_66 ?_
  refine lv_iconst (v := 4) hx hb d_R_handlerKindsAreInside_67 (by decide) ?_
  refine lv_icmp_ne (tgt := 78) hx hb d_R_handlerKindsAreInside_68 rfl (fun q_8 => ?_) (fun q_8 => ?_)
  · have hf := sr_if q_8 hf
    exact k_R_handlerKindsAreInside_78 X hk2 Z (lv_sub hl [1, 2, 3] rfl) hf
  · have hf := sr_it q_8 hf
    refine lv_iload hx hb d_R_handlerKindsAreInside_71 (lv_at hl 0 rfl) ?_
    refine lv_if_ne (tgt := 78) hx hb d_R_handlerKindsAreInside_73 rfl (fun q_13 => ?_) (fun q_13 => ?_)
    · have hf := sr_if q_13 hf
      exact k_R_handlerKindsAreInside_78 X hk2 Z (lv_sub hl [1, 2, 3] rfl) hf
    · have hf := sr_it q_13 hf
      refine lv_iconst (v := 0) hx hb d_R_handlerKindsAreInside_76 (by decide) ?_
      cases hf
      exact sr_retz X Z (by decide) d_R_handlerKindsAreInside_77
def f_R_handlerKindsAreInside_55 (k2 : Int32 → Option (Int32)) (p0 : St) (b0 : (Nat → Int64)) (x1 : Int32) (x3 : Int32) : Option (Int32) :=
  f_R_handlerKindsAreInside_56 k2 p0 b0 x1 x3 0
set_option maxHeartbeats 4000000 in
set_option maxRecDepth 100000 in
theorem k_R_handlerKindsAreInside_55 {k2 : Int32 → Option (Int32)} {p0 : St} {b0 : (Nat → Int64)} {x1 : Int32} {x3 : Int32} {r : Int32} (X : sr_X D (tR t v) b_R_handlerKindsAreInside 5 R_R w_R_handlerKindsAreInside p s m args meth c A (some .boolean)) (hk2 : ∀ (x1 : Int32) (H : Heap) (locs : List Loc) (ls : Array Slot), sr_Z D A s.heap (wR h t o v p0 b0) H locs → lv_has ls 5 [(0, .ref (o 0)), (1, .int x1)] → k2 x1 = some r → W p l e (sr_rm 0 0) s m args below meth c H locs 0 0 (sr_Qi D (tR t v) below args s A (wR h t o v p0 b0) r) (F0 m 2 ls [])) (Z : sr_Z D A s.heap (wR h t o v p0 b0) H locs) (hl : lv_has ls 5 [(0, .ref (o 0)), (1, .int x1), (3, .int x3)]) (hf : f_R_handlerKindsAreInside_55 k2 p0 b0 x1 x3 = some r) : W p l e (sr_rm 0 0) s m args below meth c H locs 0 0 (sr_Qi D (tR t v) below args s A (wR h t o v p0 b0) r) (F0 m 55 ls []) := by
  have hx := X.1
  have hb := X.2.1
  have hK := X.2.2.2.2.2.2.1
  unfold f_R_handlerKindsAreInside_55 at hf
  refine lv_iconst (v := 0) hx hb d_R_handlerKindsAreInside_55 (by decide) ?_
  exact k_R_handlerKindsAreInside_56 X hk2 Z (lv_sub hl [0, 1, 2] rfl) hf
def f_R_handlerKindsAreInside_33 (k2 : Int32 → Option (Int32)) (p0 : St) (b0 : (Nat → Int64)) (x1 : Int32) (x2 : Int32) (y0 : Int32) : Option (Int32) :=
  if y0 = 0 then
    f_R_handlerKindsAreInside_55 k2 p0 b0 x1 y0
  else
    (sr_ald 24 (p0 1) x2).bind fun v_14 =>
    if v_14 = 1 then
      f_R_handlerKindsAreInside_56 k2 p0 b0 x1 y0 1
    else
      f_R_handlerKindsAreInside_55 k2 p0 b0 x1 y0
set_option maxHeartbeats 4000000 in
set_option maxRecDepth 100000 in
theorem k_R_handlerKindsAreInside_33 {k2 : Int32 → Option (Int32)} {p0 : St} {b0 : (Nat → Int64)} {x1 : Int32} {x2 : Int32} {y0 : Int32} {r : Int32} (X : sr_X D (tR t v) b_R_handlerKindsAreInside 5 R_R w_R_handlerKindsAreInside p s m args meth c A (some .boolean)) (hk2 : ∀ (x1 : Int32) (H : Heap) (locs : List Loc) (ls : Array Slot), sr_Z D A s.heap (wR h t o v p0 b0) H locs → lv_has ls 5 [(0, .ref (o 0)), (1, .int x1)] → k2 x1 = some r → W p l e (sr_rm 0 0) s m args below meth c H locs 0 0 (sr_Qi D (tR t v) below args s A (wR h t o v p0 b0) r) (F0 m 2 ls [])) (Z : sr_Z D A s.heap (wR h t o v p0 b0) H locs) (hl : lv_has ls 5 [(0, .ref (o 0)), (1, .int x1), (2, .int x2)]) (hf : f_R_handlerKindsAreInside_33 k2 p0 b0 x1 x2 y0 = some r) : W p l e (sr_rm 0 0) s m args below meth c H locs 0 0 (sr_Qi D (tR t v) below args s A (wR h t o v p0 b0) r) (F0 m 33 ls [.int y0]) := by
  have hx := X.1
  have hb := X.2.1
  have hK := X.2.2.2.2.2.2.1
  unfold f_R_handlerKindsAreInside_33 at hf
  refine lv_istore_n (lv' := [(3, .int y0), (0, .ref (o 0)), (1, .int x1), (2, .int x2)]) hx hb d_R_handlerKindsAreInside_33 rfl hl (by decide) rfl (fun ls hl => ?_)
  refine lv_iload_n hx hb d_R_handlerKindsAreInside_34 rfl (lv_at hl 0 rfl) ?_
  refine lv_if_eq (tgt := 55) hx hb d_R_handlerKindsAreInside_35 rfl (fun q_5 => ?_) (fun q_5 => ?_)
  · have hf := sr_it q_5 hf
    exact k_R_handlerKindsAreInside_55 X hk2 Z (lv_sub hl [1, 2, 0] rfl) hf
  · have hf := sr_if q_5 hf
    refine lv_aload_n hx hb d_R_handlerKindsAreInside_38 rfl (lv_at hl 1 rfl) ?_
    refine g_R_15_R X Z d_R_handlerKindsAreInside_39 ?_
    refine g_R_64_R X Z d_R_handlerKindsAreInside_42 ?_
    refine lv_iload_n hx hb d_R_handlerKindsAreInside_45 rfl (lv_at hl 3 rfl) ?_
    obtain ⟨v_14, e_15, hf⟩ := sr_b hf
    refine sr_iald hx hb hK Z 2 1 rfl rfl e_15 d_R_handlerKindsAreInside_46 ?_
    refine lv_iconst (v := 1) hx hb d_R_handlerKindsAreInside_47 (by decide) ?_
    refine lv_icmp_ne (tgt := 55) hx hb d_R_handlerKindsAreInside_48 rfl (fun q_16 => ?_) (fun q_16 => ?_)
    · have hf := sr_if q_16 hf
      exact k_R_handlerKindsAreInside_55 X hk2 Z (lv_sub hl [1, 2, 0] rfl) hf
    · have hf := sr_it q_16 hf
      refine lv_iconst (v := 1) hx hb d_R_handlerKindsAreInside_51 (by decide) ?_
      refine lv_goto (tgt := 56) hx hb d_R_handlerKindsAreInside_52 rfl ?_
      exact k_R_handlerKindsAreInside_56 X hk2 Z (lv_sub hl [1, 2, 0] rfl) hf
def f_R_handlerKindsAreInside_2 (k2 : Int32 → Option (Int32)) (p0 : St) (b0 : (Nat → Int64)) (x1 : Int32) : Option (Int32) :=
  if (p0 10 0) ≤ x1 then
    some 1
  else
    (sr_ald 24 (p0 7) x1).bind fun v_2 =>
    if v_2 = (-1) then
      f_R_handlerKindsAreInside_33 k2 p0 b0 x1 v_2 0
    else
      f_R_handlerKindsAreInside_33 k2 p0 b0 x1 v_2 1
set_option maxHeartbeats 4000000 in
set_option maxRecDepth 100000 in
theorem k_R_handlerKindsAreInside_2 {k2 : Int32 → Option (Int32)} {p0 : St} {b0 : (Nat → Int64)} {x1 : Int32} {r : Int32} (X : sr_X D (tR t v) b_R_handlerKindsAreInside 5 R_R w_R_handlerKindsAreInside p s m args meth c A (some .boolean)) (hk2 : ∀ (x1 : Int32) (H : Heap) (locs : List Loc) (ls : Array Slot), sr_Z D A s.heap (wR h t o v p0 b0) H locs → lv_has ls 5 [(0, .ref (o 0)), (1, .int x1)] → k2 x1 = some r → W p l e (sr_rm 0 0) s m args below meth c H locs 0 0 (sr_Qi D (tR t v) below args s A (wR h t o v p0 b0) r) (F0 m 2 ls [])) (Z : sr_Z D A s.heap (wR h t o v p0 b0) H locs) (hl : lv_has ls 5 [(0, .ref (o 0)), (1, .int x1)]) (hf : f_R_handlerKindsAreInside_2 k2 p0 b0 x1 = some r) : W p l e (sr_rm 0 0) s m args below meth c H locs 0 0 (sr_Qi D (tR t v) below args s A (wR h t o v p0 b0) r) (F0 m 2 ls []) := by
  have hx := X.1
  have hb := X.2.1
  have hK := X.2.2.2.2.2.2.1
  unfold f_R_handlerKindsAreInside_2 at hf
  refine lv_iload_n hx hb d_R_handlerKindsAreInside_2 rfl (lv_at hl 1 rfl) ?_
  refine lv_aload_n hx hb d_R_handlerKindsAreInside_3 rfl (lv_at hl 0 rfl) ?_
  refine g_R_15_R X Z d_R_handlerKindsAreInside_4 ?_
  refine g_R_41_R X Z d_R_handlerKindsAreInside_7 ?_
  refine lv_icmp_ge (tgt := 104) hx hb d_R_handlerKindsAreInside_10 rfl (fun q_1 => ?_) (fun q_1 => ?_)
  · have hf := sr_it q_1 hf
    refine lv_iconst (v := 1) hx hb d_R_handlerKindsAreInside_104 (by decide) ?_
    cases hf
    exact sr_retz X Z (by decide) d_R_handlerKindsAreInside_105
  · have hf := sr_if q_1 hf
    refine lv_aload_n hx hb d_R_handlerKindsAreInside_13 rfl (lv_at hl 0 rfl) ?_
    refine g_R_15_R X Z d_R_handlerKindsAreInside_14 ?_
    refine g_R_61_R X Z d_R_handlerKindsAreInside_17 ?_
    refine lv_iload_n hx hb d_R_handlerKindsAreInside_20 rfl (lv_at hl 1 rfl) ?_
    obtain ⟨v_2, e_3, hf⟩ := sr_b hf
    refine sr_iald hx hb hK Z 8 7 rfl rfl e_3 d_R_handlerKindsAreInside_21 ?_
    refine lv_istore_n (lv' := [(2, .int v_2), (0, .ref (o 0)), (1, .int x1)]) hx hb d_R_handlerKindsAreInside_22 rfl hl (by decide) rfl (fun ls hl => ?_)
    refine lv_iload_n hx hb d_R_handlerKindsAreInside_23 rfl (lv_at hl 0 rfl) ?_
    refine lv_iconst (v := -1) hx hb d_R_handlerKindsAreInside_24 (by decide) ?_
    refine lv_icmp_eq (tgt := 32) hx hb d_R_handlerKindsAreInside_25 rfl (fun q_4 => ?_) (fun q_4 => ?_)
    · have hf := sr_it q_4 hf
      refine lv_iconst (v := 0) hx hb d_R_handlerKindsAreInside_32 (by decide) ?_
      exact k_R_handlerKindsAreInside_33 X hk2 Z (lv_sub hl [1, 2, 0] rfl) hf
    · have hf := sr_if q_4 hf
      refine lv_iconst (v := 1) hx hb d_R_handlerKindsAreInside_28 (by decide) ?_
      refine lv_goto (tgt := 33) hx hb d_R_handlerKindsAreInside_29 rfl ?_
      exact k_R_handlerKindsAreInside_33 X hk2 Z (lv_sub hl [1, 2, 0] rfl) hf
def f_R_handlerKindsAreInside_2_it (p0 : St) (b0 : (Nat → Int64)) : Nat → Int32 → Option (Int32)
  | 0 => fun _ => none
  | n + 1 => fun x1 => f_R_handlerKindsAreInside_2 (f_R_handlerKindsAreInside_2_it p0 b0 n) p0 b0 x1
set_option maxHeartbeats 4000000 in
set_option maxRecDepth 100000 in
theorem k_R_handlerKindsAreInside_2_it {p0 : St} {b0 : (Nat → Int64)} {r : Int32} (X : sr_X D (tR t v) b_R_handlerKindsAreInside 5 R_R w_R_handlerKindsAreInside p s m args meth c A (some .boolean)) (n : Nat) : ∀ {x1 : Int32} {H : Heap} {locs : List Loc} {ls : Array Slot}, sr_Z D A s.heap (wR h t o v p0 b0) H locs → lv_has ls 5 [(0, .ref (o 0)), (1, .int x1)] → f_R_handlerKindsAreInside_2_it p0 b0 n x1 = some r → W p l e (sr_rm 0 0) s m args below meth c H locs 0 0 (sr_Qi D (tR t v) below args s A (wR h t o v p0 b0) r) (F0 m 2 ls []) := by
  induction n with
  | zero => intro x1 H locs ls Z hl hf; exact absurd hf (by simp [f_R_handlerKindsAreInside_2_it])
  | succ n ih =>
    intro x1 H locs ls Z hl hf
    exact k_R_handlerKindsAreInside_2 X (fun x1 H locs ls Z hl hf => ih Z hl hf) Z hl hf
def f_R_handlerKindsAreInside (p0 : St) (b0 : (Nat → Int64)) : Option (Int32) :=
  f_R_handlerKindsAreInside_2_it p0 b0 60 0
set_option maxHeartbeats 4000000 in
set_option maxRecDepth 100000 in
theorem k_R_handlerKindsAreInside_0 {p0 : St} {b0 : (Nat → Int64)} {r : Int32} (X : sr_X D (tR t v) b_R_handlerKindsAreInside 5 R_R w_R_handlerKindsAreInside p s m args meth c A (some .boolean)) (Z : sr_Z D A s.heap (wR h t o v p0 b0) H locs) (hl : lv_has ls 5 [(0, .ref (o 0))]) (hf : f_R_handlerKindsAreInside p0 b0 = some r) : W p l e (sr_rm 0 0) s m args below meth c H locs 0 0 (sr_Qi D (tR t v) below args s A (wR h t o v p0 b0) r) (F0 m 0 ls []) := by
  have hx := X.1
  have hb := X.2.1
  have hK := X.2.2.2.2.2.2.1
  unfold f_R_handlerKindsAreInside at hf
  refine lv_iconst (v := 0) hx hb d_R_handlerKindsAreInside_0 (by decide) ?_
  refine lv_istore_n (lv' := [(1, .int 0), (0, .ref (o 0))]) hx hb d_R_handlerKindsAreInside_1 rfl hl (by decide) rfl (fun ls hl => ?_)
  exact k_R_handlerKindsAreInside_2_it X _ Z (lv_sub hl [1, 0] rfl) hf
end
set_option maxHeartbeats 4000000 in
set_option maxRecDepth 100000 in
theorem c_R_handlerKindsAreInside {l : Launch} {D : va_G} {h : Nat → Nat} {t : Nat → ClassId} {o : Nat → Nat} {v : Nat → ClassId} {sz : Nat} {p0 : St} {b0 : (Nat → Int64)} {r : Int32} (hf : f_R_handlerKindsAreInside p0 b0 = some r) : sr_Ci l y_R_handlerKindsAreInside w_R_handlerKindsAreInside (sr_rm 0 0) D (tR t v) (wR h t o v p0 b0) (wR h t o v p0 b0) sz [.ref (o 0)] r := by
  refine Met.ofW (cc := b_R_handlerKindsAreInside) (maxL := 5) (ret := (some .boolean)) (by decide) rfl ?_
  intro p e s m args below meth c s₁ B hml hv
  obtain ⟨rfl, hsz, hP, hK, hD0⟩ := hv
  subst hsz
  have X : sr_X D (tR t v) b_R_handlerKindsAreInside 5 R_R w_R_handlerKindsAreInside p s m _ meth c (va_A (wR h t o v p0 b0) s.heap.size) (some .boolean) := ⟨B.exec, B.bytes, hml, findClass_of_methodNamed B.named, B.notSynchronized, atoms_spec (ws := w_R_handlerKindsAreInside) B.pre, hK, fun q h => Or.inr h, B.returns⟩
  have Z : sr_Z D (va_A (wR h t o v p0 b0) s.heap.size) s.heap (wR h t o v p0 b0) s.heap [] := ⟨hP, hD0.self, va_S.rf⟩
  have hl := lv_entry ([.ref (o 0)] : List Value) (n := 5) (Nat.le_of_ble_eq_true rfl)
  rw [lg_entry_eq]
  exact k_R_handlerKindsAreInside_0 X Z hl hf
/-! R_isInHandlersFlow -/
theorem d_R_isInHandlersFlow_0 : decode b_R_isInHandlersFlow 0 = .ok (.iconst 0, 1) := by decide +kernel
theorem d_R_isInHandlersFlow_1 : decode b_R_isInHandlersFlow 1 = .ok (.istore_n 2, 1) := by decide +kernel
theorem d_R_isInHandlersFlow_2 : decode b_R_isInHandlersFlow 2 = .ok (.iload_n 2, 1) := by decide +kernel
theorem d_R_isInHandlersFlow_3 : decode b_R_isInHandlersFlow 3 = .ok (.iload_n 1, 1) := by decide +kernel
theorem d_R_isInHandlersFlow_4 : decode b_R_isInHandlersFlow 4 = .ok (.if_icmp .ge 50, 3) := by decide +kernel
theorem d_R_isInHandlersFlow_7 : decode b_R_isInHandlersFlow 7 = .ok (.aload_n 0, 1) := by decide +kernel
theorem d_R_isInHandlersFlow_8 : decode b_R_isInHandlersFlow 8 = .ok (.getfield 15, 3) := by decide +kernel
theorem d_R_isInHandlersFlow_11 : decode b_R_isInHandlersFlow 11 = .ok (.getfield 47, 3) := by decide +kernel
theorem d_R_isInHandlersFlow_14 : decode b_R_isInHandlersFlow 14 = .ok (.iload_n 2, 1) := by decide +kernel
theorem d_R_isInHandlersFlow_15 : decode b_R_isInHandlersFlow 15 = .ok (.iaload, 1) := by decide +kernel
theorem d_R_isInHandlersFlow_16 : decode b_R_isInHandlersFlow 16 = .ok (.bipush 9, 2) := by decide +kernel
theorem d_R_isInHandlersFlow_18 : decode b_R_isInHandlersFlow 18 = .ok (.if_icmp .ne 30, 3) := by decide +kernel
theorem d_R_isInHandlersFlow_21 : decode b_R_isInHandlersFlow 21 = .ok (.aload_n 0, 1) := by decide +kernel
theorem d_R_isInHandlersFlow_22 : decode b_R_isInHandlersFlow 22 = .ok (.getfield 15, 3) := by decide +kernel
theorem d_R_isInHandlersFlow_25 : decode b_R_isInHandlersFlow 25 = .ok (.getfield 61, 3) := by decide +kernel
theorem d_R_isInHandlersFlow_28 : decode b_R_isInHandlersFlow 28 = .ok (.iload_n 2, 1) := by decide +kernel
theorem d_R_isInHandlersFlow_29 : decode b_R_isInHandlersFlow 29 = .ok (.iaload, 1) := by decide +kernel
theorem d_R_isInHandlersFlow_30 : decode b_R_isInHandlersFlow 30 = .ok (.iconst (-1), 1) := by decide +kernel
theorem d_R_isInHandlersFlow_31 : decode b_R_isInHandlersFlow 31 = .ok (.if_icmp .eq 17, 3) := by decide +kernel
theorem d_R_isInHandlersFlow_34 : decode b_R_isInHandlersFlow 34 = .ok (.aload_n 0, 1) := by decide +kernel
theorem d_R_isInHandlersFlow_35 : decode b_R_isInHandlersFlow 35 = .ok (.getfield 15, 3) := by decide +kernel
theorem d_R_isInHandlersFlow_38 : decode b_R_isInHandlersFlow 38 = .ok (.iload_n 1, 1) := by decide +kernel
theorem d_R_isInHandlersFlow_39 : decode b_R_isInHandlersFlow 39 = .ok (.iload_n 2, 1) := by decide +kernel
theorem d_R_isInHandlersFlow_40 : decode b_R_isInHandlersFlow 40 = .ok (.invokevirtual 77, 3) := by decide +kernel
theorem d_R_isInHandlersFlow_43 : decode b_R_isInHandlersFlow 43 = .ok (.ifCond .eq 5, 3) := by decide +kernel
theorem d_R_isInHandlersFlow_46 : decode b_R_isInHandlersFlow 46 = .ok (.iconst 1, 1) := by decide +kernel
theorem d_R_isInHandlersFlow_47 : decode b_R_isInHandlersFlow 47 = .ok (.ireturn, 1) := by decide +kernel
theorem d_R_isInHandlersFlow_48 : decode b_R_isInHandlersFlow 48 = .ok (.iinc 2 1, 3) := by decide +kernel
theorem d_R_isInHandlersFlow_51 : decode b_R_isInHandlersFlow 51 = .ok (.goto (-49), 3) := by decide +kernel
theorem d_R_isInHandlersFlow_54 : decode b_R_isInHandlersFlow 54 = .ok (.iconst 0, 1) := by decide +kernel
theorem d_R_isInHandlersFlow_55 : decode b_R_isInHandlersFlow 55 = .ok (.ireturn, 1) := by decide +kernel
section
variable {p : Program} {l : Launch} {e : Env} {s : State} {m : MethodId} {args : Array Value} {below : List Frame} {meth : Method} {c : Code} {H : Heap} {locs : List Loc} {ls : Array Slot} {D : va_G} {A : Nat → Prop} {h o : Nat → Nat} {t v : Nat → ClassId}
def f_R_isInHandlersFlow_48 (k2 : Int32 → Int32 → Option (Int32)) (p0 : St) (b0 : (Nat → Int64)) (x1 : Int32) (x2 : Int32) : Option (Int32) :=
  k2 x1 (x2 + 1)
set_option maxHeartbeats 4000000 in
set_option maxRecDepth 100000 in
theorem k_R_isInHandlersFlow_48 {k2 : Int32 → Int32 → Option (Int32)} {p0 : St} {b0 : (Nat → Int64)} {x1 : Int32} {x2 : Int32} {r : Int32} (X : sr_X D (tR t v) b_R_isInHandlersFlow 3 R_R w_R_isInHandlersFlow p s m args meth c A (some .boolean)) (hk2 : ∀ (x1 : Int32) (x2 : Int32) (H : Heap) (locs : List Loc) (ls : Array Slot), sr_Z D A s.heap (wR h t o v p0 b0) H locs → lv_has ls 3 [(0, .ref (o 0)), (1, .int x1), (2, .int x2)] → k2 x1 x2 = some r → W p l e (sr_rm 2 43) s m args below meth c H locs 0 0 (sr_Qi D (tR t v) below args s A (wR h t o v p0 b0) r) (F0 m 2 ls [])) (Z : sr_Z D A s.heap (wR h t o v p0 b0) H locs) (hl : lv_has ls 3 [(0, .ref (o 0)), (1, .int x1), (2, .int x2)]) (hf : f_R_isInHandlersFlow_48 k2 p0 b0 x1 x2 = some r) : W p l e (sr_rm 2 43) s m args below meth c H locs 0 0 (sr_Qi D (tR t v) below args s A (wR h t o v p0 b0) r) (F0 m 48 ls []) := by
  have hx := X.1
  have hb := X.2.1
  have hK := X.2.2.2.2.2.2.1
  unfold f_R_isInHandlersFlow_48 at hf
  refine lv_iinc (k := 2) (v := x2 + 1) (lv' := [(2, .int (x2 + 1)), (0, .ref (o 0)), (1, .int x1)]) hx hb d_R_isInHandlersFlow_48 hl rfl rfl (by decide) rfl (fun ls hl => ?_)
  refine lv_goto (tgt := 2) hx hb d_R_isInHandlersFlow_51 rfl ?_
  exact hk2 x1 (x2 + 1) _ _ _ Z (lv_sub hl [1, 2, 0] rfl) hf
def f_R_isInHandlersFlow_2 (k2 : Int32 → Int32 → Option (Int32)) (p0 : St) (b0 : (Nat → Int64)) (x1 : Int32) (x2 : Int32) : Option (Int32) :=
  if x1 ≤ x2 then
    some 0
  else
    (sr_ald 24 (p0 2) x2).bind fun v_2 =>
    if v_2 = 9 then
      (sr_ald 24 (p0 7) x2).bind fun v_5 =>
      if v_5 = (-1) then
        f_R_isInHandlersFlow_48 k2 p0 b0 x1 x2
      else
        (f_P_isBelow p0 x1 x2).bind fun v_8 =>
        if v_8 = 0 then
          f_R_isInHandlersFlow_48 k2 p0 b0 x1 x2
        else
          some 1
    else
      f_R_isInHandlersFlow_48 k2 p0 b0 x1 x2
set_option maxHeartbeats 4000000 in
set_option maxRecDepth 100000 in
theorem k_R_isInHandlersFlow_2 {k2 : Int32 → Int32 → Option (Int32)} {p0 : St} {b0 : (Nat → Int64)} {x1 : Int32} {x2 : Int32} {r : Int32} (X : sr_X D (tR t v) b_R_isInHandlersFlow 3 R_R w_R_isInHandlersFlow p s m args meth c A (some .boolean)) (hk2 : ∀ (x1 : Int32) (x2 : Int32) (H : Heap) (locs : List Loc) (ls : Array Slot), sr_Z D A s.heap (wR h t o v p0 b0) H locs → lv_has ls 3 [(0, .ref (o 0)), (1, .int x1), (2, .int x2)] → k2 x1 x2 = some r → W p l e (sr_rm 2 43) s m args below meth c H locs 0 0 (sr_Qi D (tR t v) below args s A (wR h t o v p0 b0) r) (F0 m 2 ls [])) (Z : sr_Z D A s.heap (wR h t o v p0 b0) H locs) (hl : lv_has ls 3 [(0, .ref (o 0)), (1, .int x1), (2, .int x2)]) (hf : f_R_isInHandlersFlow_2 k2 p0 b0 x1 x2 = some r) : W p l e (sr_rm 2 43) s m args below meth c H locs 0 0 (sr_Qi D (tR t v) below args s A (wR h t o v p0 b0) r) (F0 m 2 ls []) := by
  have hx := X.1
  have hb := X.2.1
  have hK := X.2.2.2.2.2.2.1
  unfold f_R_isInHandlersFlow_2 at hf
  refine lv_iload_n hx hb d_R_isInHandlersFlow_2 rfl (lv_at hl 2 rfl) ?_
  refine lv_iload_n hx hb d_R_isInHandlersFlow_3 rfl (lv_at hl 1 rfl) ?_
  refine lv_icmp_ge (tgt := 54) hx hb d_R_isInHandlersFlow_4 rfl (fun q_1 => ?_) (fun q_1 => ?_)
  · have hf := sr_it q_1 hf
    refine lv_iconst (v := 0) hx hb d_R_isInHandlersFlow_54 (by decide) ?_
    cases hf
    exact sr_retz X Z (by decide) d_R_isInHandlersFlow_55
  · have hf := sr_if q_1 hf
    refine lv_aload_n hx hb d_R_isInHandlersFlow_7 rfl (lv_at hl 0 rfl) ?_
    refine g_R_15_R X Z d_R_isInHandlersFlow_8 ?_
    refine g_R_47_R X Z d_R_isInHandlersFlow_11 ?_
    refine lv_iload_n hx hb d_R_isInHandlersFlow_14 rfl (lv_at hl 2 rfl) ?_
    obtain ⟨v_2, e_3, hf⟩ := sr_b hf
    refine sr_iald hx hb hK Z 3 2 rfl rfl e_3 d_R_isInHandlersFlow_15 ?_
    refine lv_bipush (v := 9) hx hb d_R_isInHandlersFlow_16 (by decide) ?_
    refine lv_icmp_ne (tgt := 48) hx hb d_R_isInHandlersFlow_18 rfl (fun q_4 => ?_) (fun q_4 => ?_)
    · have hf := sr_if q_4 hf
      exact k_R_isInHandlersFlow_48 X hk2 Z (lv_sub hl [0, 1, 2] rfl) hf
    · have hf := sr_it q_4 hf
      refine lv_aload_n hx hb d_R_isInHandlersFlow_21 rfl (lv_at hl 0 rfl) ?_
      refine g_R_15_R X Z d_R_isInHandlersFlow_22 ?_
      refine g_R_61_R X Z d_R_isInHandlersFlow_25 ?_
      refine lv_iload_n hx hb d_R_isInHandlersFlow_28 rfl (lv_at hl 2 rfl) ?_
      obtain ⟨v_5, e_6, hf⟩ := sr_b hf
      refine sr_iald hx hb hK Z 8 7 rfl rfl e_6 d_R_isInHandlersFlow_29 ?_
      refine lv_iconst (v := -1) hx hb d_R_isInHandlersFlow_30 (by decide) ?_
      refine lv_icmp_eq (tgt := 48) hx hb d_R_isInHandlersFlow_31 rfl (fun q_7 => ?_) (fun q_7 => ?_)
      · have hf := sr_it q_7 hf
        exact k_R_isInHandlersFlow_48 X hk2 Z (lv_sub hl [0, 1, 2] rfl) hf
      · have hf := sr_if q_7 hf
        refine lv_aload_n hx hb d_R_isInHandlersFlow_34 rfl (lv_at hl 0 rfl) ?_
        refine g_R_15_R X Z d_R_isInHandlersFlow_35 ?_
        refine lv_iload_n hx hb d_R_isInHandlersFlow_38 rfl (lv_at hl 1 rfl) ?_
        refine lv_iload_n hx hb d_R_isInHandlersFlow_39 rfl (lv_at hl 2 rfl) ?_
        obtain ⟨v_8, e_9, hf⟩ := sr_b hf
        refine sr_cVi (As := [.int x1, .int x2]) (rest := []) X Z cut_RP (k_RP hK) (c_P_isBelow e_9) (cw_R_77 X.2.2.2.2.2.1 (by decide)) 0 rfl rfl rfl hl rfl (Nat.le_of_ble_eq_true rfl) d_R_isInHandlersFlow_40 (fun H locs Z => ?_)
        refine lv_if_eq (tgt := 48) hx hb d_R_isInHandlersFlow_43 rfl (fun q_10 => ?_) (fun q_10 => ?_)
        · have hf := sr_it q_10 hf
          exact k_R_isInHandlersFlow_48 X hk2 Z (lv_sub hl [0, 1, 2] rfl) hf
        · have hf := sr_if q_10 hf
          refine lv_iconst (v := 1) hx hb d_R_isInHandlersFlow_46 (by decide) ?_
          cases hf
          exact sr_retz X Z (by decide) d_R_isInHandlersFlow_47
def f_R_isInHandlersFlow_2_it (p0 : St) (b0 : (Nat → Int64)) : Nat → Int32 → Int32 → Option (Int32)
  | 0 => fun _ _ => none
  | n + 1 => fun x1 x2 => f_R_isInHandlersFlow_2 (f_R_isInHandlersFlow_2_it p0 b0 n) p0 b0 x1 x2
set_option maxHeartbeats 4000000 in
set_option maxRecDepth 100000 in
theorem k_R_isInHandlersFlow_2_it {p0 : St} {b0 : (Nat → Int64)} {r : Int32} (X : sr_X D (tR t v) b_R_isInHandlersFlow 3 R_R w_R_isInHandlersFlow p s m args meth c A (some .boolean)) (n : Nat) : ∀ {x1 : Int32} {x2 : Int32} {H : Heap} {locs : List Loc} {ls : Array Slot}, sr_Z D A s.heap (wR h t o v p0 b0) H locs → lv_has ls 3 [(0, .ref (o 0)), (1, .int x1), (2, .int x2)] → f_R_isInHandlersFlow_2_it p0 b0 n x1 x2 = some r → W p l e (sr_rm 2 43) s m args below meth c H locs 0 0 (sr_Qi D (tR t v) below args s A (wR h t o v p0 b0) r) (F0 m 2 ls []) := by
  induction n with
  | zero => intro x1 x2 H locs ls Z hl hf; exact absurd hf (by simp [f_R_isInHandlersFlow_2_it])
  | succ n ih =>
    intro x1 x2 H locs ls Z hl hf
    exact k_R_isInHandlersFlow_2 X (fun x1 x2 H locs ls Z hl hf => ih Z hl hf) Z hl hf
def f_R_isInHandlersFlow (p0 : St) (b0 : (Nat → Int64)) (x1 : Int32) : Option (Int32) :=
  f_R_isInHandlersFlow_2_it p0 b0 60 x1 0
set_option maxHeartbeats 4000000 in
set_option maxRecDepth 100000 in
theorem k_R_isInHandlersFlow_0 {p0 : St} {b0 : (Nat → Int64)} {x1 : Int32} {r : Int32} (X : sr_X D (tR t v) b_R_isInHandlersFlow 3 R_R w_R_isInHandlersFlow p s m args meth c A (some .boolean)) (Z : sr_Z D A s.heap (wR h t o v p0 b0) H locs) (hl : lv_has ls 3 [(0, .ref (o 0)), (1, .int x1)]) (hf : f_R_isInHandlersFlow p0 b0 x1 = some r) : W p l e (sr_rm 2 43) s m args below meth c H locs 0 0 (sr_Qi D (tR t v) below args s A (wR h t o v p0 b0) r) (F0 m 0 ls []) := by
  have hx := X.1
  have hb := X.2.1
  have hK := X.2.2.2.2.2.2.1
  unfold f_R_isInHandlersFlow at hf
  refine lv_iconst (v := 0) hx hb d_R_isInHandlersFlow_0 (by decide) ?_
  refine lv_istore_n (lv' := [(2, .int 0), (0, .ref (o 0)), (1, .int x1)]) hx hb d_R_isInHandlersFlow_1 rfl hl (by decide) rfl (fun ls hl => ?_)
  exact k_R_isInHandlersFlow_2_it X _ Z (lv_sub hl [1, 2, 0] rfl) hf
end
set_option maxHeartbeats 4000000 in
set_option maxRecDepth 100000 in
theorem c_R_isInHandlersFlow {l : Launch} {D : va_G} {h : Nat → Nat} {t : Nat → ClassId} {o : Nat → Nat} {v : Nat → ClassId} {sz : Nat} {p0 : St} {b0 : (Nat → Int64)} {x1 : Int32} {r : Int32} (hf : f_R_isInHandlersFlow p0 b0 x1 = some r) : sr_Ci l y_R_isInHandlersFlow w_R_isInHandlersFlow (sr_rm 2 43) D (tR t v) (wR h t o v p0 b0) (wR h t o v p0 b0) sz [.ref (o 0), .int x1] r := by
  refine Met.ofW (cc := b_R_isInHandlersFlow) (maxL := 3) (ret := (some .boolean)) (by decide) rfl ?_
  intro p e s m args below meth c s₁ B hml hv
  obtain ⟨rfl, hsz, hP, hK, hD0⟩ := hv
  subst hsz
  have X : sr_X D (tR t v) b_R_isInHandlersFlow 3 R_R w_R_isInHandlersFlow p s m _ meth c (va_A (wR h t o v p0 b0) s.heap.size) (some .boolean) := ⟨B.exec, B.bytes, hml, findClass_of_methodNamed B.named, B.notSynchronized, atoms_spec (ws := w_R_isInHandlersFlow) B.pre, hK, fun q h => Or.inr h, B.returns⟩
  have Z : sr_Z D (va_A (wR h t o v p0 b0) s.heap.size) s.heap (wR h t o v p0 b0) s.heap [] := ⟨hP, hD0.self, va_S.rf⟩
  have hl := lv_entry ([.ref (o 0), .int x1] : List Value) (n := 3) (Nat.le_of_ble_eq_true rfl)
  rw [lg_entry_eq]
  exact k_R_isInHandlersFlow_0 X Z hl hf
/-! R_mayUndo -/
theorem d_R_mayUndo_0 : decode b_R_mayUndo 0 = .ok (.iload_n 2, 1) := by decide +kernel
theorem d_R_mayUndo_1 : decode b_R_mayUndo 1 = .ok (.ifCond .eq 35, 3) := by decide +kernel
theorem d_R_mayUndo_4 : decode b_R_mayUndo 4 = .ok (.aload_n 0, 1) := by decide +kernel
theorem d_R_mayUndo_5 : decode b_R_mayUndo 5 = .ok (.getfield 15, 3) := by decide +kernel
theorem d_R_mayUndo_8 : decode b_R_mayUndo 8 = .ok (.iload_n 2, 1) := by decide +kernel
theorem d_R_mayUndo_9 : decode b_R_mayUndo 9 = .ok (.invokevirtual 80, 3) := by decide +kernel
theorem d_R_mayUndo_12 : decode b_R_mayUndo 12 = .ok (.ifCond .eq 28, 3) := by decide +kernel
theorem d_R_mayUndo_15 : decode b_R_mayUndo 15 = .ok (.aload_n 0, 1) := by decide +kernel
theorem d_R_mayUndo_16 : decode b_R_mayUndo 16 = .ok (.getfield 15, 3) := by decide +kernel
theorem d_R_mayUndo_19 : decode b_R_mayUndo 19 = .ok (.getfield 83, 3) := by decide +kernel
theorem d_R_mayUndo_22 : decode b_R_mayUndo 22 = .ok (.iload_n 2, 1) := by decide +kernel
theorem d_R_mayUndo_23 : decode b_R_mayUndo 23 = .ok (.iaload, 1) := by decide +kernel
theorem d_R_mayUndo_24 : decode b_R_mayUndo 24 = .ok (.aload_n 0, 1) := by decide +kernel
theorem d_R_mayUndo_25 : decode b_R_mayUndo 25 = .ok (.getfield 15, 3) := by decide +kernel
theorem d_R_mayUndo_28 : decode b_R_mayUndo 28 = .ok (.getfield 83, 3) := by decide +kernel
theorem d_R_mayUndo_31 : decode b_R_mayUndo 31 = .ok (.iload_n 1, 1) := by decide +kernel
theorem d_R_mayUndo_32 : decode b_R_mayUndo 32 = .ok (.iaload, 1) := by decide +kernel
theorem d_R_mayUndo_33 : decode b_R_mayUndo 33 = .ok (.if_icmp .ne 7, 3) := by decide +kernel
theorem d_R_mayUndo_36 : decode b_R_mayUndo 36 = .ok (.iconst 1, 1) := by decide +kernel
theorem d_R_mayUndo_37 : decode b_R_mayUndo 37 = .ok (.goto 4, 3) := by decide +kernel
theorem d_R_mayUndo_40 : decode b_R_mayUndo 40 = .ok (.iconst 0, 1) := by decide +kernel
theorem d_R_mayUndo_41 : decode b_R_mayUndo 41 = .ok (.ireturn, 1) := by decide +kernel
section
variable {p : Program} {l : Launch} {e : Env} {s : State} {m : MethodId} {args : Array Value} {below : List Frame} {meth : Method} {c : Code} {H : Heap} {locs : List Loc} {ls : Array Slot} {D : va_G} {A : Nat → Prop} {h o : Nat → Nat} {t v : Nat → ClassId}
def f_R_mayUndo_36 (p0 : St) (b0 : (Nat → Int64)) : Option (Int32) :=
  some 1
set_option maxHeartbeats 4000000 in
set_option maxRecDepth 100000 in
theorem k_R_mayUndo_36 {p0 : St} {b0 : (Nat → Int64)} {r : Int32} (X : sr_X D (tR t v) b_R_mayUndo 3 R_R w_R_mayUndo p s m args meth c A (some .boolean)) (Z : sr_Z D A s.heap (wR h t o v p0 b0) H locs) (hl : lv_has ls 3 []) (hf : f_R_mayUndo_36 p0 b0 = some r) : W p l e (sr_rm 2 42) s m args below meth c H locs 0 0 (sr_Qi D (tR t v) below args s A (wR h t o v p0 b0) r) (F0 m 36 ls []) := by
  have hx := X.1
  have hb := X.2.1
  have hK := X.2.2.2.2.2.2.1
  unfold f_R_mayUndo_36 at hf
  refine lv_iconst (v := 1) hx hb d_R_mayUndo_36 (by decide) ?_
  refine lv_goto (tgt := 41) hx hb d_R_mayUndo_37 rfl ?_
  cases hf
  exact sr_retz X Z (by decide) d_R_mayUndo_41
def f_R_mayUndo (p0 : St) (b0 : (Nat → Int64)) (x1 : Int32) (x2 : Int32) : Option (Int32) :=
  if x2 = 0 then
    f_R_mayUndo_36 p0 b0
  else
    (f_P_hasScope p0 x2).bind fun v_2 =>
    if v_2 = 0 then
      some 0
    else
      (sr_ald 24 (p0 6) x2).bind fun v_5 =>
      (sr_ald 24 (p0 6) x1).bind fun v_7 =>
      if v_5 = v_7 then
        f_R_mayUndo_36 p0 b0
      else
        some 0
set_option maxHeartbeats 4000000 in
set_option maxRecDepth 100000 in
theorem k_R_mayUndo_0 {p0 : St} {b0 : (Nat → Int64)} {x1 : Int32} {x2 : Int32} {r : Int32} (X : sr_X D (tR t v) b_R_mayUndo 3 R_R w_R_mayUndo p s m args meth c A (some .boolean)) (Z : sr_Z D A s.heap (wR h t o v p0 b0) H locs) (hl : lv_has ls 3 [(0, .ref (o 0)), (1, .int x1), (2, .int x2)]) (hf : f_R_mayUndo p0 b0 x1 x2 = some r) : W p l e (sr_rm 2 42) s m args below meth c H locs 0 0 (sr_Qi D (tR t v) below args s A (wR h t o v p0 b0) r) (F0 m 0 ls []) := by
  have hx := X.1
  have hb := X.2.1
  have hK := X.2.2.2.2.2.2.1
  unfold f_R_mayUndo at hf
  refine lv_iload_n hx hb d_R_mayUndo_0 rfl (lv_at hl 2 rfl) ?_
  refine lv_if_eq (tgt := 36) hx hb d_R_mayUndo_1 rfl (fun q_1 => ?_) (fun q_1 => ?_)
  · have hf := sr_it q_1 hf
    exact k_R_mayUndo_36 X Z (lv_sub hl [] rfl) hf
  · have hf := sr_if q_1 hf
    refine lv_aload_n hx hb d_R_mayUndo_4 rfl (lv_at hl 0 rfl) ?_
    refine g_R_15_R X Z d_R_mayUndo_5 ?_
    refine lv_iload_n hx hb d_R_mayUndo_8 rfl (lv_at hl 2 rfl) ?_
    obtain ⟨v_2, e_3, hf⟩ := sr_b hf
    refine sr_cVi (As := [.int x2]) (rest := []) X Z cut_RP (k_RP hK) (c_P_hasScope e_3) (cw_R_80 X.2.2.2.2.2.1 (by decide)) 0 rfl rfl rfl hl rfl (Nat.le_of_ble_eq_true rfl) d_R_mayUndo_9 (fun H locs Z => ?_)
    refine lv_if_eq (tgt := 40) hx hb d_R_mayUndo_12 rfl (fun q_4 => ?_) (fun q_4 => ?_)
    · have hf := sr_it q_4 hf
      refine lv_iconst (v := 0) hx hb d_R_mayUndo_40 (by decide) ?_
      cases hf
      exact sr_retz X Z (by decide) d_R_mayUndo_41
    · have hf := sr_if q_4 hf
      refine lv_aload_n hx hb d_R_mayUndo_15 rfl (lv_at hl 0 rfl) ?_
      refine g_R_15_R X Z d_R_mayUndo_16 ?_
      refine g_R_83_R X Z d_R_mayUndo_19 ?_
      refine lv_iload_n hx hb d_R_mayUndo_22 rfl (lv_at hl 2 rfl) ?_
      obtain ⟨v_5, e_6, hf⟩ := sr_b hf
      refine sr_iald hx hb hK Z 7 6 rfl rfl e_6 d_R_mayUndo_23 ?_
      refine lv_aload_n hx hb d_R_mayUndo_24 rfl (lv_at hl 0 rfl) ?_
      refine g_R_15_R X Z d_R_mayUndo_25 ?_
      refine g_R_83_R X Z d_R_mayUndo_28 ?_
      refine lv_iload_n hx hb d_R_mayUndo_31 rfl (lv_at hl 1 rfl) ?_
      obtain ⟨v_7, e_8, hf⟩ := sr_b hf
      refine sr_iald hx hb hK Z 7 6 rfl rfl e_8 d_R_mayUndo_32 ?_
      refine lv_icmp_ne (tgt := 40) hx hb d_R_mayUndo_33 rfl (fun q_9 => ?_) (fun q_9 => ?_)
      · have hf := sr_if q_9 hf
        refine lv_iconst (v := 0) hx hb d_R_mayUndo_40 (by decide) ?_
        cases hf
        exact sr_retz X Z (by decide) d_R_mayUndo_41
      · have hf := sr_it q_9 hf
        exact k_R_mayUndo_36 X Z (lv_sub hl [] rfl) hf
end
set_option maxHeartbeats 4000000 in
set_option maxRecDepth 100000 in
theorem c_R_mayUndo {l : Launch} {D : va_G} {h : Nat → Nat} {t : Nat → ClassId} {o : Nat → Nat} {v : Nat → ClassId} {sz : Nat} {p0 : St} {b0 : (Nat → Int64)} {x1 : Int32} {x2 : Int32} {r : Int32} (hf : f_R_mayUndo p0 b0 x1 x2 = some r) : sr_Ci l y_R_mayUndo w_R_mayUndo (sr_rm 2 42) D (tR t v) (wR h t o v p0 b0) (wR h t o v p0 b0) sz [.ref (o 0), .int x1, .int x2] r := by
  refine Met.ofW (cc := b_R_mayUndo) (maxL := 3) (ret := (some .boolean)) (by decide) rfl ?_
  intro p e s m args below meth c s₁ B hml hv
  obtain ⟨rfl, hsz, hP, hK, hD0⟩ := hv
  subst hsz
  have X : sr_X D (tR t v) b_R_mayUndo 3 R_R w_R_mayUndo p s m _ meth c (va_A (wR h t o v p0 b0) s.heap.size) (some .boolean) := ⟨B.exec, B.bytes, hml, findClass_of_methodNamed B.named, B.notSynchronized, atoms_spec (ws := w_R_mayUndo) B.pre, hK, fun q h => Or.inr h, B.returns⟩
  have Z : sr_Z D (va_A (wR h t o v p0 b0) s.heap.size) s.heap (wR h t o v p0 b0) s.heap [] := ⟨hP, hD0.self, va_S.rf⟩
  have hl := lv_entry ([.ref (o 0), .int x1, .int x2] : List Value) (n := 3) (Nat.le_of_ble_eq_true rfl)
  rw [lg_entry_eq]
  exact k_R_mayUndo_0 X Z hl hf
/-! R_compensatesAreRight -/
theorem d_R_compensatesAreRight_0 : decode b_R_compensatesAreRight 0 = .ok (.iconst 0, 1) := by decide +kernel
theorem d_R_compensatesAreRight_1 : decode b_R_compensatesAreRight 1 = .ok (.istore_n 1, 1) := by decide +kernel
theorem d_R_compensatesAreRight_2 : decode b_R_compensatesAreRight 2 = .ok (.iload_n 1, 1) := by decide +kernel
theorem d_R_compensatesAreRight_3 : decode b_R_compensatesAreRight 3 = .ok (.aload_n 0, 1) := by decide +kernel
theorem d_R_compensatesAreRight_4 : decode b_R_compensatesAreRight 4 = .ok (.getfield 15, 3) := by decide +kernel
theorem d_R_compensatesAreRight_7 : decode b_R_compensatesAreRight 7 = .ok (.getfield 41, 3) := by decide +kernel
theorem d_R_compensatesAreRight_10 : decode b_R_compensatesAreRight 10 = .ok (.if_icmp .ge 50, 3) := by decide +kernel
theorem d_R_compensatesAreRight_13 : decode b_R_compensatesAreRight 13 = .ok (.aload_n 0, 1) := by decide +kernel
theorem d_R_compensatesAreRight_14 : decode b_R_compensatesAreRight 14 = .ok (.getfield 15, 3) := by decide +kernel
theorem d_R_compensatesAreRight_17 : decode b_R_compensatesAreRight 17 = .ok (.getfield 47, 3) := by decide +kernel
theorem d_R_compensatesAreRight_20 : decode b_R_compensatesAreRight 20 = .ok (.iload_n 1, 1) := by decide +kernel
theorem d_R_compensatesAreRight_21 : decode b_R_compensatesAreRight 21 = .ok (.iaload, 1) := by decide +kernel
theorem d_R_compensatesAreRight_22 : decode b_R_compensatesAreRight 22 = .ok (.bipush 7, 2) := by decide +kernel
theorem d_R_compensatesAreRight_24 : decode b_R_compensatesAreRight 24 = .ok (.if_icmp .ne 30, 3) := by decide +kernel
theorem d_R_compensatesAreRight_27 : decode b_R_compensatesAreRight 27 = .ok (.aload_n 0, 1) := by decide +kernel
theorem d_R_compensatesAreRight_28 : decode b_R_compensatesAreRight 28 = .ok (.iload_n 1, 1) := by decide +kernel
theorem d_R_compensatesAreRight_29 : decode b_R_compensatesAreRight 29 = .ok (.invokevirtual 67, 3) := by decide +kernel
theorem d_R_compensatesAreRight_32 : decode b_R_compensatesAreRight 32 = .ok (.ifCond .ne 20, 3) := by decide +kernel
theorem d_R_compensatesAreRight_35 : decode b_R_compensatesAreRight 35 = .ok (.aload_n 0, 1) := by decide +kernel
theorem d_R_compensatesAreRight_36 : decode b_R_compensatesAreRight 36 = .ok (.iload_n 1, 1) := by decide +kernel
theorem d_R_compensatesAreRight_37 : decode b_R_compensatesAreRight 37 = .ok (.aload_n 0, 1) := by decide +kernel
theorem d_R_compensatesAreRight_38 : decode b_R_compensatesAreRight 38 = .ok (.getfield 15, 3) := by decide +kernel
theorem d_R_compensatesAreRight_41 : decode b_R_compensatesAreRight 41 = .ok (.getfield 71, 3) := by decide +kernel
theorem d_R_compensatesAreRight_44 : decode b_R_compensatesAreRight 44 = .ok (.iload_n 1, 1) := by decide +kernel
theorem d_R_compensatesAreRight_45 : decode b_R_compensatesAreRight 45 = .ok (.iaload, 1) := by decide +kernel
theorem d_R_compensatesAreRight_46 : decode b_R_compensatesAreRight 46 = .ok (.invokevirtual 74, 3) := by decide +kernel
theorem d_R_compensatesAreRight_49 : decode b_R_compensatesAreRight 49 = .ok (.ifCond .ne 5, 3) := by decide +kernel
theorem d_R_compensatesAreRight_52 : decode b_R_compensatesAreRight 52 = .ok (.iconst 0, 1) := by decide +kernel
theorem d_R_compensatesAreRight_53 : decode b_R_compensatesAreRight 53 = .ok (.ireturn, 1) := by decide +kernel
theorem d_R_compensatesAreRight_54 : decode b_R_compensatesAreRight 54 = .ok (.iinc 1 1, 3) := by decide +kernel
theorem d_R_compensatesAreRight_57 : decode b_R_compensatesAreRight 57 = .ok (.goto (-55), 3) := by decide +kernel
theorem d_R_compensatesAreRight_60 : decode b_R_compensatesAreRight 60 = .ok (.iconst 1, 1) := by decide +kernel
theorem d_R_compensatesAreRight_61 : decode b_R_compensatesAreRight 61 = .ok (.ireturn, 1) := by decide +kernel
section
variable {p : Program} {l : Launch} {e : Env} {s : State} {m : MethodId} {args : Array Value} {below : List Frame} {meth : Method} {c : Code} {H : Heap} {locs : List Loc} {ls : Array Slot} {D : va_G} {A : Nat → Prop} {h o : Nat → Nat} {t v : Nat → ClassId}
def f_R_compensatesAreRight_54 (k2 : Int32 → Option (Int32)) (p0 : St) (b0 : (Nat → Int64)) (x1 : Int32) : Option (Int32) :=
  k2 (x1 + 1)
set_option maxHeartbeats 4000000 in
set_option maxRecDepth 100000 in
theorem k_R_compensatesAreRight_54 {k2 : Int32 → Option (Int32)} {p0 : St} {b0 : (Nat → Int64)} {x1 : Int32} {r : Int32} (X : sr_X D (tR t v) b_R_compensatesAreRight 2 R_R w_R_compensatesAreRight p s m args meth c A (some .boolean)) (hk2 : ∀ (x1 : Int32) (H : Heap) (locs : List Loc) (ls : Array Slot), sr_Z D A s.heap (wR h t o v p0 b0) H locs → lv_has ls 2 [(0, .ref (o 0)), (1, .int x1)] → k2 x1 = some r → W p l e (sr_rm 3 65) s m args below meth c H locs 0 0 (sr_Qi D (tR t v) below args s A (wR h t o v p0 b0) r) (F0 m 2 ls [])) (Z : sr_Z D A s.heap (wR h t o v p0 b0) H locs) (hl : lv_has ls 2 [(0, .ref (o 0)), (1, .int x1)]) (hf : f_R_compensatesAreRight_54 k2 p0 b0 x1 = some r) : W p l e (sr_rm 3 65) s m args below meth c H locs 0 0 (sr_Qi D (tR t v) below args s A (wR h t o v p0 b0) r) (F0 m 54 ls []) := by
  have hx := X.1
  have hb := X.2.1
  have hK := X.2.2.2.2.2.2.1
  unfold f_R_compensatesAreRight_54 at hf
  refine lv_iinc (k := 1) (v := x1 + 1) (lv' := [(1, .int (x1 + 1)), (0, .ref (o 0))]) hx hb d_R_compensatesAreRight_54 hl rfl rfl (by decide) rfl (fun ls hl => ?_)
  refine lv_goto (tgt := 2) hx hb d_R_compensatesAreRight_57 rfl ?_
  exact hk2 (x1 + 1) _ _ _ Z (lv_sub hl [1, 0] rfl) hf
def f_R_compensatesAreRight_2 (k2 : Int32 → Option (Int32)) (p0 : St) (b0 : (Nat → Int64)) (x1 : Int32) : Option (Int32) :=
  if (p0 10 0) ≤ x1 then
    some 1
  else
    (sr_ald 24 (p0 2) x1).bind fun v_2 =>
    if v_2 = 7 then
      (f_R_isInHandlersFlow p0 b0 x1).bind fun v_5 =>
      if v_5 = 0 then
        (sr_ald 24 (p0 3) x1).bind fun v_8 =>
        (f_R_mayUndo p0 b0 x1 v_8).bind fun v_10 =>
        if v_10 = 0 then
          some 0
        else
          f_R_compensatesAreRight_54 k2 p0 b0 x1
      else
        some 0
    else
      f_R_compensatesAreRight_54 k2 p0 b0 x1
set_option maxHeartbeats 4000000 in
set_option maxRecDepth 100000 in
theorem k_R_compensatesAreRight_2 {k2 : Int32 → Option (Int32)} {p0 : St} {b0 : (Nat → Int64)} {x1 : Int32} {r : Int32} (X : sr_X D (tR t v) b_R_compensatesAreRight 2 R_R w_R_compensatesAreRight p s m args meth c A (some .boolean)) (hk2 : ∀ (x1 : Int32) (H : Heap) (locs : List Loc) (ls : Array Slot), sr_Z D A s.heap (wR h t o v p0 b0) H locs → lv_has ls 2 [(0, .ref (o 0)), (1, .int x1)] → k2 x1 = some r → W p l e (sr_rm 3 65) s m args below meth c H locs 0 0 (sr_Qi D (tR t v) below args s A (wR h t o v p0 b0) r) (F0 m 2 ls [])) (Z : sr_Z D A s.heap (wR h t o v p0 b0) H locs) (hl : lv_has ls 2 [(0, .ref (o 0)), (1, .int x1)]) (hf : f_R_compensatesAreRight_2 k2 p0 b0 x1 = some r) : W p l e (sr_rm 3 65) s m args below meth c H locs 0 0 (sr_Qi D (tR t v) below args s A (wR h t o v p0 b0) r) (F0 m 2 ls []) := by
  have hx := X.1
  have hb := X.2.1
  have hK := X.2.2.2.2.2.2.1
  unfold f_R_compensatesAreRight_2 at hf
  refine lv_iload_n hx hb d_R_compensatesAreRight_2 rfl (lv_at hl 1 rfl) ?_
  refine lv_aload_n hx hb d_R_compensatesAreRight_3 rfl (lv_at hl 0 rfl) ?_
  refine g_R_15_R X Z d_R_compensatesAreRight_4 ?_
  refine g_R_41_R X Z d_R_compensatesAreRight_7 ?_
  refine lv_icmp_ge (tgt := 60) hx hb d_R_compensatesAreRight_10 rfl (fun q_1 => ?_) (fun q_1 => ?_)
  · have hf := sr_it q_1 hf
    refine lv_iconst (v := 1) hx hb d_R_compensatesAreRight_60 (by decide) ?_
    cases hf
    exact sr_retz X Z (by decide) d_R_compensatesAreRight_61
  · have hf := sr_if q_1 hf
    refine lv_aload_n hx hb d_R_compensatesAreRight_13 rfl (lv_at hl 0 rfl) ?_
    refine g_R_15_R X Z d_R_compensatesAreRight_14 ?_
    refine g_R_47_R X Z d_R_compensatesAreRight_17 ?_
    refine lv_iload_n hx hb d_R_compensatesAreRight_20 rfl (lv_at hl 1 rfl) ?_
    obtain ⟨v_2, e_3, hf⟩ := sr_b hf
    refine sr_iald hx hb hK Z 3 2 rfl rfl e_3 d_R_compensatesAreRight_21 ?_
    refine lv_bipush (v := 7) hx hb d_R_compensatesAreRight_22 (by decide) ?_
    refine lv_icmp_ne (tgt := 54) hx hb d_R_compensatesAreRight_24 rfl (fun q_4 => ?_) (fun q_4 => ?_)
    · have hf := sr_if q_4 hf
      exact k_R_compensatesAreRight_54 X hk2 Z (lv_sub hl [0, 1] rfl) hf
    · have hf := sr_it q_4 hf
      refine lv_aload_n hx hb d_R_compensatesAreRight_27 rfl (lv_at hl 0 rfl) ?_
      refine lv_iload_n hx hb d_R_compensatesAreRight_28 rfl (lv_at hl 1 rfl) ?_
      obtain ⟨v_5, e_6, hf⟩ := sr_b hf
      refine sr_cVi (As := [.int x1]) (rest := []) X Z sr_cut_self hK (c_R_isInHandlersFlow e_6) (cw_R_67 X.2.2.2.2.2.1 (by decide)) 15 rfl rfl rfl hl rfl (Nat.le_of_ble_eq_true rfl) d_R_compensatesAreRight_29 (fun H locs Z => ?_)
      refine lv_if_ne (tgt := 52) hx hb d_R_compensatesAreRight_32 rfl (fun q_7 => ?_) (fun q_7 => ?_)
      · have hf := sr_if q_7 hf
        refine lv_iconst (v := 0) hx hb d_R_compensatesAreRight_52 (by decide) ?_
        cases hf
        exact sr_retz X Z (by decide) d_R_compensatesAreRight_53
      · have hf := sr_it q_7 hf
        refine lv_aload_n hx hb d_R_compensatesAreRight_35 rfl (lv_at hl 0 rfl) ?_
        refine lv_iload_n hx hb d_R_compensatesAreRight_36 rfl (lv_at hl 1 rfl) ?_
        refine lv_aload_n hx hb d_R_compensatesAreRight_37 rfl (lv_at hl 0 rfl) ?_
        refine g_R_15_R X Z d_R_compensatesAreRight_38 ?_
        refine g_R_71_R X Z d_R_compensatesAreRight_41 ?_
        refine lv_iload_n hx hb d_R_compensatesAreRight_44 rfl (lv_at hl 1 rfl) ?_
        obtain ⟨v_8, e_9, hf⟩ := sr_b hf
        refine sr_iald hx hb hK Z 4 3 rfl rfl e_9 d_R_compensatesAreRight_45 ?_
        obtain ⟨v_10, e_11, hf⟩ := sr_b hf
        refine sr_cVi (As := [.int x1, .int v_8]) (rest := []) X Z sr_cut_self hK (c_R_mayUndo e_11) (cw_R_74 X.2.2.2.2.2.1 (by decide)) 15 rfl rfl rfl hl rfl (Nat.le_of_ble_eq_true rfl) d_R_compensatesAreRight_46 (fun H locs Z => ?_)
        refine lv_if_ne (tgt := 54) hx hb d_R_compensatesAreRight_49 rfl (fun q_12 => ?_) (fun q_12 => ?_)
        · have hf := sr_if q_12 hf
          exact k_R_compensatesAreRight_54 X hk2 Z (lv_sub hl [0, 1] rfl) hf
        · have hf := sr_it q_12 hf
          refine lv_iconst (v := 0) hx hb d_R_compensatesAreRight_52 (by decide) ?_
          cases hf
          exact sr_retz X Z (by decide) d_R_compensatesAreRight_53
def f_R_compensatesAreRight_2_it (p0 : St) (b0 : (Nat → Int64)) : Nat → Int32 → Option (Int32)
  | 0 => fun _ => none
  | n + 1 => fun x1 => f_R_compensatesAreRight_2 (f_R_compensatesAreRight_2_it p0 b0 n) p0 b0 x1
set_option maxHeartbeats 4000000 in
set_option maxRecDepth 100000 in
theorem k_R_compensatesAreRight_2_it {p0 : St} {b0 : (Nat → Int64)} {r : Int32} (X : sr_X D (tR t v) b_R_compensatesAreRight 2 R_R w_R_compensatesAreRight p s m args meth c A (some .boolean)) (n : Nat) : ∀ {x1 : Int32} {H : Heap} {locs : List Loc} {ls : Array Slot}, sr_Z D A s.heap (wR h t o v p0 b0) H locs → lv_has ls 2 [(0, .ref (o 0)), (1, .int x1)] → f_R_compensatesAreRight_2_it p0 b0 n x1 = some r → W p l e (sr_rm 3 65) s m args below meth c H locs 0 0 (sr_Qi D (tR t v) below args s A (wR h t o v p0 b0) r) (F0 m 2 ls []) := by
  induction n with
  | zero => intro x1 H locs ls Z hl hf; exact absurd hf (by simp [f_R_compensatesAreRight_2_it])
  | succ n ih =>
    intro x1 H locs ls Z hl hf
    exact k_R_compensatesAreRight_2 X (fun x1 H locs ls Z hl hf => ih Z hl hf) Z hl hf
def f_R_compensatesAreRight (p0 : St) (b0 : (Nat → Int64)) : Option (Int32) :=
  f_R_compensatesAreRight_2_it p0 b0 60 0
set_option maxHeartbeats 4000000 in
set_option maxRecDepth 100000 in
theorem k_R_compensatesAreRight_0 {p0 : St} {b0 : (Nat → Int64)} {r : Int32} (X : sr_X D (tR t v) b_R_compensatesAreRight 2 R_R w_R_compensatesAreRight p s m args meth c A (some .boolean)) (Z : sr_Z D A s.heap (wR h t o v p0 b0) H locs) (hl : lv_has ls 2 [(0, .ref (o 0))]) (hf : f_R_compensatesAreRight p0 b0 = some r) : W p l e (sr_rm 3 65) s m args below meth c H locs 0 0 (sr_Qi D (tR t v) below args s A (wR h t o v p0 b0) r) (F0 m 0 ls []) := by
  have hx := X.1
  have hb := X.2.1
  have hK := X.2.2.2.2.2.2.1
  unfold f_R_compensatesAreRight at hf
  refine lv_iconst (v := 0) hx hb d_R_compensatesAreRight_0 (by decide) ?_
  refine lv_istore_n (lv' := [(1, .int 0), (0, .ref (o 0))]) hx hb d_R_compensatesAreRight_1 rfl hl (by decide) rfl (fun ls hl => ?_)
  exact k_R_compensatesAreRight_2_it X _ Z (lv_sub hl [1, 0] rfl) hf
end
set_option maxHeartbeats 4000000 in
set_option maxRecDepth 100000 in
theorem c_R_compensatesAreRight {l : Launch} {D : va_G} {h : Nat → Nat} {t : Nat → ClassId} {o : Nat → Nat} {v : Nat → ClassId} {sz : Nat} {p0 : St} {b0 : (Nat → Int64)} {r : Int32} (hf : f_R_compensatesAreRight p0 b0 = some r) : sr_Ci l y_R_compensatesAreRight w_R_compensatesAreRight (sr_rm 3 65) D (tR t v) (wR h t o v p0 b0) (wR h t o v p0 b0) sz [.ref (o 0)] r := by
  refine Met.ofW (cc := b_R_compensatesAreRight) (maxL := 2) (ret := (some .boolean)) (by decide) rfl ?_
  intro p e s m args below meth c s₁ B hml hv
  obtain ⟨rfl, hsz, hP, hK, hD0⟩ := hv
  subst hsz
  have X : sr_X D (tR t v) b_R_compensatesAreRight 2 R_R w_R_compensatesAreRight p s m _ meth c (va_A (wR h t o v p0 b0) s.heap.size) (some .boolean) := ⟨B.exec, B.bytes, hml, findClass_of_methodNamed B.named, B.notSynchronized, atoms_spec (ws := w_R_compensatesAreRight) B.pre, hK, fun q h => Or.inr h, B.returns⟩
  have Z : sr_Z D (va_A (wR h t o v p0 b0) s.heap.size) s.heap (wR h t o v p0 b0) s.heap [] := ⟨hP, hD0.self, va_S.rf⟩
  have hl := lv_entry ([.ref (o 0)] : List Value) (n := 2) (Nat.le_of_ble_eq_true rfl)
  rw [lg_entry_eq]
  exact k_R_compensatesAreRight_0 X Z hl hf
/-! R_nearestAbove -/
theorem d_R_nearestAbove_0 : decode b_R_nearestAbove 0 = .ok (.iload_n 1, 1) := by decide +kernel
theorem d_R_nearestAbove_1 : decode b_R_nearestAbove 1 = .ok (.iload_n 2, 1) := by decide +kernel
theorem d_R_nearestAbove_2 : decode b_R_nearestAbove 2 = .ok (.invokestatic 105, 3) := by decide +kernel
theorem d_R_nearestAbove_5 : decode b_R_nearestAbove 5 = .ok (.iconst 1, 1) := by decide +kernel
theorem d_R_nearestAbove_6 : decode b_R_nearestAbove 6 = .ok (.isub, 1) := by decide +kernel
theorem d_R_nearestAbove_7 : decode b_R_nearestAbove 7 = .ok (.istore_n 3, 1) := by decide +kernel
theorem d_R_nearestAbove_8 : decode b_R_nearestAbove 8 = .ok (.iload_n 3, 1) := by decide +kernel
theorem d_R_nearestAbove_9 : decode b_R_nearestAbove 9 = .ok (.ifCond .lt 35, 3) := by decide +kernel
theorem d_R_nearestAbove_12 : decode b_R_nearestAbove 12 = .ok (.aload_n 0, 1) := by decide +kernel
theorem d_R_nearestAbove_13 : decode b_R_nearestAbove 13 = .ok (.getfield 15, 3) := by decide +kernel
theorem d_R_nearestAbove_16 : decode b_R_nearestAbove 16 = .ok (.iload_n 1, 1) := by decide +kernel
theorem d_R_nearestAbove_17 : decode b_R_nearestAbove 17 = .ok (.iload_n 3, 1) := by decide +kernel
theorem d_R_nearestAbove_18 : decode b_R_nearestAbove 18 = .ok (.invokevirtual 77, 3) := by decide +kernel
theorem d_R_nearestAbove_21 : decode b_R_nearestAbove 21 = .ok (.ifCond .eq 17, 3) := by decide +kernel
theorem d_R_nearestAbove_24 : decode b_R_nearestAbove 24 = .ok (.aload_n 0, 1) := by decide +kernel
theorem d_R_nearestAbove_25 : decode b_R_nearestAbove 25 = .ok (.getfield 15, 3) := by decide +kernel
theorem d_R_nearestAbove_28 : decode b_R_nearestAbove 28 = .ok (.iload_n 2, 1) := by decide +kernel
theorem d_R_nearestAbove_29 : decode b_R_nearestAbove 29 = .ok (.iload_n 3, 1) := by decide +kernel
theorem d_R_nearestAbove_30 : decode b_R_nearestAbove 30 = .ok (.invokevirtual 77, 3) := by decide +kernel
theorem d_R_nearestAbove_33 : decode b_R_nearestAbove 33 = .ok (.ifCond .eq 5, 3) := by decide +kernel
theorem d_R_nearestAbove_36 : decode b_R_nearestAbove 36 = .ok (.iload_n 3, 1) := by decide +kernel
theorem d_R_nearestAbove_37 : decode b_R_nearestAbove 37 = .ok (.ireturn, 1) := by decide +kernel
theorem d_R_nearestAbove_38 : decode b_R_nearestAbove 38 = .ok (.iinc 3 (-1), 3) := by decide +kernel
theorem d_R_nearestAbove_41 : decode b_R_nearestAbove 41 = .ok (.goto (-33), 3) := by decide +kernel
theorem d_R_nearestAbove_44 : decode b_R_nearestAbove 44 = .ok (.iconst (-1), 1) := by decide +kernel
theorem d_R_nearestAbove_45 : decode b_R_nearestAbove 45 = .ok (.ireturn, 1) := by decide +kernel
section
variable {p : Program} {l : Launch} {e : Env} {s : State} {m : MethodId} {args : Array Value} {below : List Frame} {meth : Method} {c : Code} {H : Heap} {locs : List Loc} {ls : Array Slot} {D : va_G} {A : Nat → Prop} {h o : Nat → Nat} {t v : Nat → ClassId}
def f_R_nearestAbove_38 (k8 : Int32 → Int32 → Int32 → Option (Int32)) (p0 : St) (b0 : (Nat → Int64)) (x1 : Int32) (x2 : Int32) (x3 : Int32) : Option (Int32) :=
  k8 x1 x2 (x3 + (-1))
set_option maxHeartbeats 4000000 in
set_option maxRecDepth 100000 in
theorem k_R_nearestAbove_38 {k8 : Int32 → Int32 → Int32 → Option (Int32)} {p0 : St} {b0 : (Nat → Int64)} {x1 : Int32} {x2 : Int32} {x3 : Int32} {r : Int32} (X : sr_X D (tR t v) b_R_nearestAbove 4 R_R w_R_nearestAbove p s m args meth c A (some .int)) (hk8 : ∀ (x1 : Int32) (x2 : Int32) (x3 : Int32) (H : Heap) (locs : List Loc) (ls : Array Slot), sr_Z D A s.heap (wR h t o v p0 b0) H locs → lv_has ls 4 [(0, .ref (o 0)), (1, .int x1), (2, .int x2), (3, .int x3)] → k8 x1 x2 x3 = some r → W p l e (sr_rm 2 43) s m args below meth c H locs 0 0 (sr_Qi D (tR t v) below args s A (wR h t o v p0 b0) r) (F0 m 8 ls [])) (Z : sr_Z D A s.heap (wR h t o v p0 b0) H locs) (hl : lv_has ls 4 [(0, .ref (o 0)), (1, .int x1), (2, .int x2), (3, .int x3)]) (hf : f_R_nearestAbove_38 k8 p0 b0 x1 x2 x3 = some r) : W p l e (sr_rm 2 43) s m args below meth c H locs 0 0 (sr_Qi D (tR t v) below args s A (wR h t o v p0 b0) r) (F0 m 38 ls []) := by
  have hx := X.1
  have hb := X.2.1
  have hK := X.2.2.2.2.2.2.1
  unfold f_R_nearestAbove_38 at hf
  refine lv_iinc (k := 3) (v := x3 + (-1)) (lv' := [(3, .int (x3 + (-1))), (0, .ref (o 0)), (1, .int x1), (2, .int x2)]) hx hb d_R_nearestAbove_38 hl rfl rfl (by decide) rfl (fun ls hl => ?_)
  refine lv_goto (tgt := 8) hx hb d_R_nearestAbove_41 rfl ?_
  exact hk8 x1 x2 (x3 + (-1)) _ _ _ Z (lv_sub hl [1, 2, 3, 0] rfl) hf
def f_R_nearestAbove_8 (k8 : Int32 → Int32 → Int32 → Option (Int32)) (p0 : St) (b0 : (Nat → Int64)) (x1 : Int32) (x2 : Int32) (x3 : Int32) : Option (Int32) :=
  if x3 < 0 then
    some (-1)
  else
    (f_P_isBelow p0 x1 x3).bind fun v_2 =>
    if v_2 = 0 then
      f_R_nearestAbove_38 k8 p0 b0 x1 x2 x3
    else
      (f_P_isBelow p0 x2 x3).bind fun v_5 =>
      if v_5 = 0 then
        f_R_nearestAbove_38 k8 p0 b0 x1 x2 x3
      else
        some x3
set_option maxHeartbeats 4000000 in
set_option maxRecDepth 100000 in
theorem k_R_nearestAbove_8 {k8 : Int32 → Int32 → Int32 → Option (Int32)} {p0 : St} {b0 : (Nat → Int64)} {x1 : Int32} {x2 : Int32} {x3 : Int32} {r : Int32} (X : sr_X D (tR t v) b_R_nearestAbove 4 R_R w_R_nearestAbove p s m args meth c A (some .int)) (hk8 : ∀ (x1 : Int32) (x2 : Int32) (x3 : Int32) (H : Heap) (locs : List Loc) (ls : Array Slot), sr_Z D A s.heap (wR h t o v p0 b0) H locs → lv_has ls 4 [(0, .ref (o 0)), (1, .int x1), (2, .int x2), (3, .int x3)] → k8 x1 x2 x3 = some r → W p l e (sr_rm 2 43) s m args below meth c H locs 0 0 (sr_Qi D (tR t v) below args s A (wR h t o v p0 b0) r) (F0 m 8 ls [])) (Z : sr_Z D A s.heap (wR h t o v p0 b0) H locs) (hl : lv_has ls 4 [(0, .ref (o 0)), (1, .int x1), (2, .int x2), (3, .int x3)]) (hf : f_R_nearestAbove_8 k8 p0 b0 x1 x2 x3 = some r) : W p l e (sr_rm 2 43) s m args below meth c H locs 0 0 (sr_Qi D (tR t v) below args s A (wR h t o v p0 b0) r) (F0 m 8 ls []) := by
  have hx := X.1
  have hb := X.2.1
  have hK := X.2.2.2.2.2.2.1
  unfold f_R_nearestAbove_8 at hf
  refine lv_iload_n hx hb d_R_nearestAbove_8 rfl (lv_at hl 3 rfl) ?_
  refine lv_if_lt (tgt := 44) hx hb d_R_nearestAbove_9 rfl (fun q_1 => ?_) (fun q_1 => ?_)
  · have hf := sr_it q_1 hf
    refine lv_iconst (v := -1) hx hb d_R_nearestAbove_44 (by decide) ?_
    cases hf
    exact sr_reti X Z d_R_nearestAbove_45
  · have hf := sr_if q_1 hf
    refine lv_aload_n hx hb d_R_nearestAbove_12 rfl (lv_at hl 0 rfl) ?_
    refine g_R_15_R X Z d_R_nearestAbove_13 ?_
    refine lv_iload_n hx hb d_R_nearestAbove_16 rfl (lv_at hl 1 rfl) ?_
    refine lv_iload_n hx hb d_R_nearestAbove_17 rfl (lv_at hl 3 rfl) ?_
    obtain ⟨v_2, e_3, hf⟩ := sr_b hf
    refine sr_cVi (As := [.int x1, .int x3]) (rest := []) X Z cut_RP (k_RP hK) (c_P_isBelow e_3) (cw_R_77 X.2.2.2.2.2.1 (by decide)) 0 rfl rfl rfl hl rfl (Nat.le_of_ble_eq_true rfl) d_R_nearestAbove_18 (fun H locs Z => ?_)
    refine lv_if_eq (tgt := 38) hx hb d_R_nearestAbove_21 rfl (fun q_4 => ?_) (fun q_4 => ?_)
    · have hf := sr_it q_4 hf
      exact k_R_nearestAbove_38 X hk8 Z (lv_sub hl [0, 1, 2, 3] rfl) hf
    · have hf := sr_if q_4 hf
      refine lv_aload_n hx hb d_R_nearestAbove_24 rfl (lv_at hl 0 rfl) ?_
      refine g_R_15_R X Z d_R_nearestAbove_25 ?_
      refine lv_iload_n hx hb d_R_nearestAbove_28 rfl (lv_at hl 2 rfl) ?_
      refine lv_iload_n hx hb d_R_nearestAbove_29 rfl (lv_at hl 3 rfl) ?_
      obtain ⟨v_5, e_6, hf⟩ := sr_b hf
      refine sr_cVi (As := [.int x2, .int x3]) (rest := []) X Z cut_RP (k_RP hK) (c_P_isBelow e_6) (cw_R_77 X.2.2.2.2.2.1 (by decide)) 0 rfl rfl rfl hl rfl (Nat.le_of_ble_eq_true rfl) d_R_nearestAbove_30 (fun H locs Z => ?_)
      refine lv_if_eq (tgt := 38) hx hb d_R_nearestAbove_33 rfl (fun q_7 => ?_) (fun q_7 => ?_)
      · have hf := sr_it q_7 hf
        exact k_R_nearestAbove_38 X hk8 Z (lv_sub hl [0, 1, 2, 3] rfl) hf
      · have hf := sr_if q_7 hf
        refine lv_iload_n hx hb d_R_nearestAbove_36 rfl (lv_at hl 3 rfl) ?_
        cases hf
        exact sr_reti X Z d_R_nearestAbove_37
def f_R_nearestAbove_8_it (p0 : St) (b0 : (Nat → Int64)) : Nat → Int32 → Int32 → Int32 → Option (Int32)
  | 0 => fun _ _ _ => none
  | n + 1 => fun x1 x2 x3 => f_R_nearestAbove_8 (f_R_nearestAbove_8_it p0 b0 n) p0 b0 x1 x2 x3
set_option maxHeartbeats 4000000 in
set_option maxRecDepth 100000 in
theorem k_R_nearestAbove_8_it {p0 : St} {b0 : (Nat → Int64)} {r : Int32} (X : sr_X D (tR t v) b_R_nearestAbove 4 R_R w_R_nearestAbove p s m args meth c A (some .int)) (n : Nat) : ∀ {x1 : Int32} {x2 : Int32} {x3 : Int32} {H : Heap} {locs : List Loc} {ls : Array Slot}, sr_Z D A s.heap (wR h t o v p0 b0) H locs → lv_has ls 4 [(0, .ref (o 0)), (1, .int x1), (2, .int x2), (3, .int x3)] → f_R_nearestAbove_8_it p0 b0 n x1 x2 x3 = some r → W p l e (sr_rm 2 43) s m args below meth c H locs 0 0 (sr_Qi D (tR t v) below args s A (wR h t o v p0 b0) r) (F0 m 8 ls []) := by
  induction n with
  | zero => intro x1 x2 x3 H locs ls Z hl hf; exact absurd hf (by simp [f_R_nearestAbove_8_it])
  | succ n ih =>
    intro x1 x2 x3 H locs ls Z hl hf
    exact k_R_nearestAbove_8 X (fun x1 x2 x3 H locs ls Z hl hf => ih Z hl hf) Z hl hf
def f_R_nearestAbove (p0 : St) (b0 : (Nat → Int64)) (x1 : Int32) (x2 : Int32) : Option (Int32) :=
  f_R_nearestAbove_8_it p0 b0 60 x1 x2 ((if x2 < x1 then x2 else x1) - 1)
set_option maxHeartbeats 4000000 in
set_option maxRecDepth 100000 in
theorem k_R_nearestAbove_0 {p0 : St} {b0 : (Nat → Int64)} {x1 : Int32} {x2 : Int32} {r : Int32} (X : sr_X D (tR t v) b_R_nearestAbove 4 R_R w_R_nearestAbove p s m args meth c A (some .int)) (Z : sr_Z D A s.heap (wR h t o v p0 b0) H locs) (hl : lv_has ls 4 [(0, .ref (o 0)), (1, .int x1), (2, .int x2)]) (hf : f_R_nearestAbove p0 b0 x1 x2 = some r) : W p l e (sr_rm 2 43) s m args below meth c H locs 0 0 (sr_Qi D (tR t v) below args s A (wR h t o v p0 b0) r) (F0 m 0 ls []) := by
  have hx := X.1
  have hb := X.2.1
  have hK := X.2.2.2.2.2.2.1
  unfold f_R_nearestAbove at hf
  refine lv_iload_n hx hb d_R_nearestAbove_0 rfl (lv_at hl 1 rfl) ?_
  refine lv_iload_n hx hb d_R_nearestAbove_1 rfl (lv_at hl 2 rfl) ?_
  refine va_mmin hx hb (X.2.2.1.trans hl.1.symm) X.2.2.2.1 (X.2.2.2.2.2.1 _ (List.mem_cons_of_mem _ q_246)) (X.2.2.2.2.2.1 _ (List.mem_cons_of_mem _ q_247)) (X.2.2.2.2.2.1 _ (List.mem_cons_of_mem _ q_6)) (X.2.2.2.2.2.1 _ (List.mem_cons_of_mem _ q_248)) (by decide) (by decide) (Nat.zero_le _) (Nat.zero_le _) d_R_nearestAbove_2 ?_
  refine lv_iconst (v := 1) hx hb d_R_nearestAbove_5 (by decide) ?_
  refine lv_isub hx hb d_R_nearestAbove_6 ?_
  refine lv_istore_n (lv' := [(3, .int ((if x2 < x1 then x2 else x1) - 1)), (0, .ref (o 0)), (1, .int x1), (2, .int x2)]) hx hb d_R_nearestAbove_7 rfl hl (by decide) rfl (fun ls hl => ?_)
  exact k_R_nearestAbove_8_it X _ Z (lv_sub hl [1, 2, 3, 0] rfl) hf
end
set_option maxHeartbeats 4000000 in
set_option maxRecDepth 100000 in
theorem c_R_nearestAbove {l : Launch} {D : va_G} {h : Nat → Nat} {t : Nat → ClassId} {o : Nat → Nat} {v : Nat → ClassId} {sz : Nat} {p0 : St} {b0 : (Nat → Int64)} {x1 : Int32} {x2 : Int32} {r : Int32} (hf : f_R_nearestAbove p0 b0 x1 x2 = some r) : sr_Ci l y_R_nearestAbove w_R_nearestAbove (sr_rm 2 43) D (tR t v) (wR h t o v p0 b0) (wR h t o v p0 b0) sz [.ref (o 0), .int x1, .int x2] r := by
  refine Met.ofW (cc := b_R_nearestAbove) (maxL := 4) (ret := (some .int)) (by decide) rfl ?_
  intro p e s m args below meth c s₁ B hml hv
  obtain ⟨rfl, hsz, hP, hK, hD0⟩ := hv
  subst hsz
  have X : sr_X D (tR t v) b_R_nearestAbove 4 R_R w_R_nearestAbove p s m _ meth c (va_A (wR h t o v p0 b0) s.heap.size) (some .int) := ⟨B.exec, B.bytes, hml, findClass_of_methodNamed B.named, B.notSynchronized, atoms_spec (ws := w_R_nearestAbove) B.pre, hK, fun q h => Or.inr h, B.returns⟩
  have Z : sr_Z D (va_A (wR h t o v p0 b0) s.heap.size) s.heap (wR h t o v p0 b0) s.heap [] := ⟨hP, hD0.self, va_S.rf⟩
  have hl := lv_entry ([.ref (o 0), .int x1, .int x2] : List Value) (n := 4) (Nat.le_of_ble_eq_true rfl)
  rw [lg_entry_eq]
  exact k_R_nearestAbove_0 X Z hl hf
/-! R_mayReach -/
theorem d_R_mayReach_0 : decode b_R_mayReach 0 = .ok (.iload_n 2, 1) := by decide +kernel
theorem d_R_mayReach_1 : decode b_R_mayReach 1 = .ok (.iconst 1, 1) := by decide +kernel
theorem d_R_mayReach_2 : decode b_R_mayReach 2 = .ok (.iadd, 1) := by decide +kernel
theorem d_R_mayReach_3 : decode b_R_mayReach 3 = .ok (.istore_n 3, 1) := by decide +kernel
theorem d_R_mayReach_4 : decode b_R_mayReach 4 = .ok (.iload_n 3, 1) := by decide +kernel
theorem d_R_mayReach_5 : decode b_R_mayReach 5 = .ok (.iload_n 1, 1) := by decide +kernel
theorem d_R_mayReach_6 : decode b_R_mayReach 6 = .ok (.if_icmp .gt 82, 3) := by decide +kernel
theorem d_R_mayReach_9 : decode b_R_mayReach 9 = .ok (.iload_n 1, 1) := by decide +kernel
theorem d_R_mayReach_10 : decode b_R_mayReach 10 = .ok (.aload_n 0, 1) := by decide +kernel
theorem d_R_mayReach_11 : decode b_R_mayReach 11 = .ok (.getfield 15, 3) := by decide +kernel
theorem d_R_mayReach_14 : decode b_R_mayReach 14 = .ok (.getfield 110, 3) := by decide +kernel
theorem d_R_mayReach_17 : decode b_R_mayReach 17 = .ok (.iload_n 3, 1) := by decide +kernel
theorem d_R_mayReach_18 : decode b_R_mayReach 18 = .ok (.iaload, 1) := by decide +kernel
theorem d_R_mayReach_19 : decode b_R_mayReach 19 = .ok (.invokestatic 113, 3) := by decide +kernel
theorem d_R_mayReach_22 : decode b_R_mayReach 22 = .ok (.ifCond .eq 60, 3) := by decide +kernel
theorem d_R_mayReach_25 : decode b_R_mayReach 25 = .ok (.aload_n 0, 1) := by decide +kernel
theorem d_R_mayReach_26 : decode b_R_mayReach 26 = .ok (.getfield 15, 3) := by decide +kernel
theorem d_R_mayReach_29 : decode b_R_mayReach 29 = .ok (.iload_n 3, 1) := by decide +kernel
theorem d_R_mayReach_30 : decode b_R_mayReach 30 = .ok (.iload_n 2, 1) := by decide +kernel
theorem d_R_mayReach_31 : decode b_R_mayReach 31 = .ok (.invokevirtual 77, 3) := by decide +kernel
theorem d_R_mayReach_34 : decode b_R_mayReach 34 = .ok (.ifCond .eq 48, 3) := by decide +kernel
theorem d_R_mayReach_37 : decode b_R_mayReach 37 = .ok (.iload_n 3, 1) := by decide +kernel
theorem d_R_mayReach_38 : decode b_R_mayReach 38 = .ok (.iload_n 1, 1) := by decide +kernel
theorem d_R_mayReach_39 : decode b_R_mayReach 39 = .ok (.if_icmp .eq 21, 3) := by decide +kernel
theorem d_R_mayReach_42 : decode b_R_mayReach 42 = .ok (.aload_n 0, 1) := by decide +kernel
theorem d_R_mayReach_43 : decode b_R_mayReach 43 = .ok (.getfield 15, 3) := by decide +kernel
theorem d_R_mayReach_46 : decode b_R_mayReach 46 = .ok (.getfield 47, 3) := by decide +kernel
theorem d_R_mayReach_49 : decode b_R_mayReach 49 = .ok (.iload_n 3, 1) := by decide +kernel
theorem d_R_mayReach_50 : decode b_R_mayReach 50 = .ok (.iaload, 1) := by decide +kernel
theorem d_R_mayReach_51 : decode b_R_mayReach 51 = .ok (.bipush 11, 2) := by decide +kernel
theorem d_R_mayReach_53 : decode b_R_mayReach 53 = .ok (.if_icmp .ne 7, 3) := by decide +kernel
theorem d_R_mayReach_56 : decode b_R_mayReach 56 = .ok (.iconst 1, 1) := by decide +kernel
theorem d_R_mayReach_57 : decode b_R_mayReach 57 = .ok (.goto 4, 3) := by decide +kernel
theorem d_R_mayReach_60 : decode b_R_mayReach 60 = .ok (.iconst 0, 1) := by decide +kernel
theorem d_R_mayReach_61 : decode b_R_mayReach 61 = .ok (.istore 4, 2) := by decide +kernel
theorem d_R_mayReach_63 : decode b_R_mayReach 63 = .ok (.iload 4, 2) := by decide +kernel
theorem d_R_mayReach_65 : decode b_R_mayReach 65 = .ok (.ifCond .ne 15, 3) := by decide +kernel
theorem d_R_mayReach_68 : decode b_R_mayReach 68 = .ok (.aload_n 0, 1) := by decide +kernel
theorem d_R_mayReach_69 : decode b_R_mayReach 69 = .ok (.getfield 15, 3) := by decide +kernel
theorem d_R_mayReach_72 : decode b_R_mayReach 72 = .ok (.getfield 64, 3) := by decide +kernel
theorem d_R_mayReach_75 : decode b_R_mayReach 75 = .ok (.iload_n 3, 1) := by decide +kernel
theorem d_R_mayReach_76 : decode b_R_mayReach 76 = .ok (.iaload, 1) := by decide +kernel
theorem d_R_mayReach_77 : decode b_R_mayReach 77 = .ok (.ifCond .eq 5, 3) := by decide +kernel
theorem d_R_mayReach_80 : decode b_R_mayReach 80 = .ok (.iconst 0, 1) := by decide +kernel
theorem d_R_mayReach_81 : decode b_R_mayReach 81 = .ok (.ireturn, 1) := by decide +kernel
theorem d_R_mayReach_82 : decode b_R_mayReach 82 = .ok (.iinc 3 1, 3) := by decide +kernel
theorem d_R_mayReach_85 : decode b_R_mayReach 85 = .ok (.goto (-81), 3) := by decide +kernel
theorem d_R_mayReach_88 : decode b_R_mayReach 88 = .ok (.iconst 1, 1) := by decide +kernel
theorem d_R_mayReach_89 : decode b_R_mayReach 89 = .ok (.ireturn, 1) := by decide +kernel
section
variable {p : Program} {l : Launch} {e : Env} {s : State} {m : MethodId} {args : Array Value} {below : List Frame} {meth : Method} {c : Code} {H : Heap} {locs : List Loc} {ls : Array Slot} {D : va_G} {A : Nat → Prop} {h o : Nat → Nat} {t v : Nat → ClassId}
def f_R_mayReach_82 (k4 : Int32 → Int32 → Int32 → Option (Int32)) (p0 : St) (b0 : (Nat → Int64)) (x1 : Int32) (x2 : Int32) (x3 : Int32) : Option (Int32) :=
  k4 x1 x2 (x3 + 1)
set_option maxHeartbeats 4000000 in
set_option maxRecDepth 100000 in
theorem k_R_mayReach_82 {k4 : Int32 → Int32 → Int32 → Option (Int32)} {p0 : St} {b0 : (Nat → Int64)} {x1 : Int32} {x2 : Int32} {x3 : Int32} {r : Int32} (X : sr_X D (tR t v) b_R_mayReach 5 R_R w_R_mayReach p s m args meth c A (some .boolean)) (hk4 : ∀ (x1 : Int32) (x2 : Int32) (x3 : Int32) (H : Heap) (locs : List Loc) (ls : Array Slot), sr_Z D A s.heap (wR h t o v p0 b0) H locs → lv_has ls 5 [(0, .ref (o 0)), (1, .int x1), (2, .int x2), (3, .int x3)] → k4 x1 x2 x3 = some r → W p l e (sr_rm 2 43) s m args below meth c H locs 0 0 (sr_Qi D (tR t v) below args s A (wR h t o v p0 b0) r) (F0 m 4 ls [])) (Z : sr_Z D A s.heap (wR h t o v p0 b0) H locs) (hl : lv_has ls 5 [(0, .ref (o 0)), (1, .int x1), (2, .int x2), (3, .int x3)]) (hf : f_R_mayReach_82 k4 p0 b0 x1 x2 x3 = some r) : W p l e (sr_rm 2 43) s m args below meth c H locs 0 0 (sr_Qi D (tR t v) below args s A (wR h t o v p0 b0) r) (F0 m 82 ls []) := by
  have hx := X.1
  have hb := X.2.1
  have hK := X.2.2.2.2.2.2.1
  unfold f_R_mayReach_82 at hf
  refine lv_iinc (k := 3) (v := x3 + 1) (lv' := [(3, .int (x3 + 1)), (0, .ref (o 0)), (1, .int x1), (2, .int x2)]) hx hb d_R_mayReach_82 hl rfl rfl (by decide) rfl (fun ls hl => ?_)
  refine lv_goto (tgt := 4) hx hb d_R_mayReach_85 rfl ?_
  exact hk4 x1 x2 (x3 + 1) _ _ _ Z (lv_sub hl [1, 2, 3, 0] rfl) hf
def f_R_mayReach_61 (k4 : Int32 → Int32 → Int32 → Option (Int32)) (p0 : St) (b0 : (Nat → Int64)) (x1 : Int32) (x2 : Int32) (x3 : Int32) (y0 : Int32) : Option (Int32) :=
  if y0 = 0 then
    (sr_ald 24 (p0 1) x3).bind fun v_12 =>
    if v_12 = 0 then
      f_R_mayReach_82 k4 p0 b0 x1 x2 x3
    else
      some 0
  else
    some 0
set_option maxHeartbeats 4000000 in
set_option maxRecDepth 100000 in
theorem k_R_mayReach_61 {k4 : Int32 → Int32 → Int32 → Option (Int32)} {p0 : St} {b0 : (Nat → Int64)} {x1 : Int32} {x2 : Int32} {x3 : Int32} {y0 : Int32} {r : Int32} (X : sr_X D (tR t v) b_R_mayReach 5 R_R w_R_mayReach p s m args meth c A (some .boolean)) (hk4 : ∀ (x1 : Int32) (x2 : Int32) (x3 : Int32) (H : Heap) (locs : List Loc) (ls : Array Slot), sr_Z D A s.heap (wR h t o v p0 b0) H locs → lv_has ls 5 [(0, .ref (o 0)), (1, .int x1), (2, .int x2), (3, .int x3)] → k4 x1 x2 x3 = some r → W p l e (sr_rm 2 43) s m args below meth c H locs 0 0 (sr_Qi D (tR t v) below args s A (wR h t o v p0 b0) r) (F0 m 4 ls [])) (Z : sr_Z D A s.heap (wR h t o v p0 b0) H locs) (hl : lv_has ls 5 [(0, .ref (o 0)), (1, .int x1), (2, .int x2), (3, .int x3)]) (hf : f_R_mayReach_61 k4 p0 b0 x1 x2 x3 y0 = some r) : W p l e (sr_rm 2 43) s m args below meth c H locs 0 0 (sr_Qi D (tR t v) below args s A (wR h t o v p0 b0) r) (F0 m 61 ls [.int y0]) := by
  have hx := X.1
  have hb := X.2.1
  have hK := X.2.2.2.2.2.2.1
  unfold f_R_mayReach_61 at hf
  refine lv_istore (lv' := [(4, .int y0), (0, .ref (o 0)), (1, .int x1), (2, .int x2), (3, .int x3)]) hx hb d_R_mayReach_61 hl (by decide) rfl (fun ls hl => ?_)
  refine lv_iload hx hb d_R_mayReach_63 (lv_at hl 0 rfl) ?_
  refine lv_if_ne (tgt := 80) hx hb d_R_mayReach_65 rfl (fun q_11 => ?_) (fun q_11 => ?_)
  · have hf := sr_if q_11 hf
    refine lv_iconst (v := 0) hx hb d_R_mayReach_80 (by decide) ?_
    cases hf
    exact sr_retz X Z (by decide) d_R_mayReach_81
  · have hf := sr_it q_11 hf
    refine lv_aload_n hx hb d_R_mayReach_68 rfl (lv_at hl 1 rfl) ?_
    refine g_R_15_R X Z d_R_mayReach_69 ?_
    refine g_R_64_R X Z d_R_mayReach_72 ?_
    refine lv_iload_n hx hb d_R_mayReach_75 rfl (lv_at hl 4 rfl) ?_
    obtain ⟨v_12, e_13, hf⟩ := sr_b hf
    refine sr_iald hx hb hK Z 2 1 rfl rfl e_13 d_R_mayReach_76 ?_
    refine lv_if_eq (tgt := 82) hx hb d_R_mayReach_77 rfl (fun q_14 => ?_) (fun q_14 => ?_)
    · have hf := sr_it q_14 hf
      exact k_R_mayReach_82 X hk4 Z (lv_sub hl [1, 2, 3, 4] rfl) hf
    · have hf := sr_if q_14 hf
      refine lv_iconst (v := 0) hx hb d_R_mayReach_80 (by decide) ?_
      cases hf
      exact sr_retz X Z (by decide) d_R_mayReach_81
def f_R_mayReach_60 (k4 : Int32 → Int32 → Int32 → Option (Int32)) (p0 : St) (b0 : (Nat → Int64)) (x1 : Int32) (x2 : Int32) (x3 : Int32) : Option (Int32) :=
  f_R_mayReach_61 k4 p0 b0 x1 x2 x3 0
set_option maxHeartbeats 4000000 in
set_option maxRecDepth 100000 in
theorem k_R_mayReach_60 {k4 : Int32 → Int32 → Int32 → Option (Int32)} {p0 : St} {b0 : (Nat → Int64)} {x1 : Int32} {x2 : Int32} {x3 : Int32} {r : Int32} (X : sr_X D (tR t v) b_R_mayReach 5 R_R w_R_mayReach p s m args meth c A (some .boolean)) (hk4 : ∀ (x1 : Int32) (x2 : Int32) (x3 : Int32) (H : Heap) (locs : List Loc) (ls : Array Slot), sr_Z D A s.heap (wR h t o v p0 b0) H locs → lv_has ls 5 [(0, .ref (o 0)), (1, .int x1), (2, .int x2), (3, .int x3)] → k4 x1 x2 x3 = some r → W p l e (sr_rm 2 43) s m args below meth c H locs 0 0 (sr_Qi D (tR t v) below args s A (wR h t o v p0 b0) r) (F0 m 4 ls [])) (Z : sr_Z D A s.heap (wR h t o v p0 b0) H locs) (hl : lv_has ls 5 [(0, .ref (o 0)), (1, .int x1), (2, .int x2), (3, .int x3)]) (hf : f_R_mayReach_60 k4 p0 b0 x1 x2 x3 = some r) : W p l e (sr_rm 2 43) s m args below meth c H locs 0 0 (sr_Qi D (tR t v) below args s A (wR h t o v p0 b0) r) (F0 m 60 ls []) := by
  have hx := X.1
  have hb := X.2.1
  have hK := X.2.2.2.2.2.2.1
  unfold f_R_mayReach_60 at hf
  refine lv_iconst (v := 0) hx hb d_R_mayReach_60 (by decide) ?_
  exact k_R_mayReach_61 X hk4 Z (lv_sub hl [0, 1, 2, 3] rfl) hf
def f_R_mayReach_4 (k4 : Int32 → Int32 → Int32 → Option (Int32)) (p0 : St) (b0 : (Nat → Int64)) (x1 : Int32) (x2 : Int32) (x3 : Int32) : Option (Int32) :=
  if x1 < x3 then
    some 1
  else
    (sr_ald 24 (p0 9) x3).bind fun v_2 =>
    (f_P_isIn x1 v_2).bind fun v_4 =>
    if v_4 = 0 then
      f_R_mayReach_82 k4 p0 b0 x1 x2 x3
    else
      (f_P_isBelow p0 x3 x2).bind fun v_7 =>
      if v_7 = 0 then
        f_R_mayReach_82 k4 p0 b0 x1 x2 x3
      else
        if x3 = x1 then
          f_R_mayReach_60 k4 p0 b0 x1 x2 x3
        else
          (sr_ald 24 (p0 2) x3).bind fun v_15 =>
          if v_15 = 11 then
            f_R_mayReach_61 k4 p0 b0 x1 x2 x3 1
          else
            f_R_mayReach_60 k4 p0 b0 x1 x2 x3
set_option maxHeartbeats 4000000 in
set_option maxRecDepth 100000 in
theorem k_R_mayReach_4 {k4 : Int32 → Int32 → Int32 → Option (Int32)} {p0 : St} {b0 : (Nat → Int64)} {x1 : Int32} {x2 : Int32} {x3 : Int32} {r : Int32} (X : sr_X D (tR t v) b_R_mayReach 5 R_R w_R_mayReach p s m args meth c A (some .boolean)) (hk4 : ∀ (x1 : Int32) (x2 : Int32) (x3 : Int32) (H : Heap) (locs : List Loc) (ls : Array Slot), sr_Z D A s.heap (wR h t o v p0 b0) H locs → lv_has ls 5 [(0, .ref (o 0)), (1, .int x1), (2, .int x2), (3, .int x3)] → k4 x1 x2 x3 = some r → W p l e (sr_rm 2 43) s m args below meth c H locs 0 0 (sr_Qi D (tR t v) below args s A (wR h t o v p0 b0) r) (F0 m 4 ls [])) (Z : sr_Z D A s.heap (wR h t o v p0 b0) H locs) (hl : lv_has ls 5 [(0, .ref (o 0)), (1, .int x1), (2, .int x2), (3, .int x3)]) (hf : f_R_mayReach_4 k4 p0 b0 x1 x2 x3 = some r) : W p l e (sr_rm 2 43) s m args below meth c H locs 0 0 (sr_Qi D (tR t v) below args s A (wR h t o v p0 b0) r) (F0 m 4 ls []) := by
  have hx := X.1
  have hb := X.2.1
  have hK := X.2.2.2.2.2.2.1
  unfold f_R_mayReach_4 at hf
  refine lv_iload_n hx hb d_R_mayReach_4 rfl (lv_at hl 3 rfl) ?_
  refine lv_iload_n hx hb d_R_mayReach_5 rfl (lv_at hl 1 rfl) ?_
  refine lv_icmp_gt (tgt := 88) hx hb d_R_mayReach_6 rfl (fun q_1 => ?_) (fun q_1 => ?_)
  · have hf := sr_it q_1 hf
    refine lv_iconst (v := 1) hx hb d_R_mayReach_88 (by decide) ?_
    cases hf
    exact sr_retz X Z (by decide) d_R_mayReach_89
  · have hf := sr_if q_1 hf
    refine lv_iload_n hx hb d_R_mayReach_9 rfl (lv_at hl 1 rfl) ?_
    refine lv_aload_n hx hb d_R_mayReach_10 rfl (lv_at hl 0 rfl) ?_
    refine g_R_15_R X Z d_R_mayReach_11 ?_
    refine g_R_110_R X Z d_R_mayReach_14 ?_
    refine lv_iload_n hx hb d_R_mayReach_17 rfl (lv_at hl 3 rfl) ?_
    obtain ⟨v_2, e_3, hf⟩ := sr_b hf
    refine sr_iald hx hb hK Z 10 9 rfl rfl e_3 d_R_mayReach_18 ?_
    obtain ⟨v_4, e_5, hf⟩ := sr_b hf
    refine sr_cSi (As := [.int x1, .int v_2]) (rest := []) X Z sr_cut_0 (va_K.sub hK [] rfl) (c_P_isIn e_5) (cw_R_113 X.2.2.2.2.2.1 (by decide)) rfl hl rfl (Nat.le_of_ble_eq_true rfl) d_R_mayReach_19 (fun H locs Z => ?_)
    refine lv_if_eq (tgt := 82) hx hb d_R_mayReach_22 rfl (fun q_6 => ?_) (fun q_6 => ?_)
    · have hf := sr_it q_6 hf
      exact k_R_mayReach_82 X hk4 Z (lv_sub hl [0, 1, 2, 3] rfl) hf
    · have hf := sr_if q_6 hf
      refine lv_aload_n hx hb d_R_mayReach_25 rfl (lv_at hl 0 rfl) ?_
      refine g_R_15_R X Z d_R_mayReach_26 ?_
      refine lv_iload_n hx hb d_R_mayReach_29 rfl (lv_at hl 3 rfl) ?_
      refine lv_iload_n hx hb d_R_mayReach_30 rfl (lv_at hl 2 rfl) ?_
      obtain ⟨v_7, e_8, hf⟩ := sr_b hf
      refine sr_cVi (As := [.int x3, .int x2]) (rest := []) X Z cut_RP (k_RP hK) (c_P_isBelow e_8) (cw_R_77 X.2.2.2.2.2.1 (by decide)) 0 rfl rfl rfl hl rfl (Nat.le_of_ble_eq_true rfl) d_R_mayReach_31 (fun H locs Z => ?_)
      refine lv_if_eq (tgt := 82) hx hb d_R_mayReach_34 rfl (fun q_9 => ?_) (fun q_9 => ?_)
      · have hf := sr_it q_9 hf
        exact k_R_mayReach_82 X hk4 Z (lv_sub hl [0, 1, 2, 3] rfl) hf
      · have hf := sr_if q_9 hf
        refine lv_iload_n hx hb d_R_mayReach_37 rfl (lv_at hl 3 rfl) ?_
        refine lv_iload_n hx hb d_R_mayReach_38 rfl (lv_at hl 1 rfl) ?_
        refine lv_icmp_eq (tgt := 60) hx hb d_R_mayReach_39 rfl (fun q_10 => ?_) (fun q_10 => ?_)
        · have hf := sr_it q_10 hf
          exact k_R_mayReach_60 X hk4 Z (lv_sub hl [0, 1, 2, 3] rfl) hf
        · have hf := sr_if q_10 hf
          refine lv_aload_n hx hb d_R_mayReach_42 rfl (lv_at hl 0 rfl) ?_
          refine g_R_15_R X Z d_R_mayReach_43 ?_
          refine g_R_47_R X Z d_R_mayReach_46 ?_
          refine lv_iload_n hx hb d_R_mayReach_49 rfl (lv_at hl 3 rfl) ?_
          obtain ⟨v_15, e_16, hf⟩ := sr_b hf
          refine sr_iald hx hb hK Z 3 2 rfl rfl e_16 d_R_mayReach_50 ?_
          refine lv_bipush (v := 11) hx hb d_R_mayReach_51 (by decide) ?_
          refine lv_icmp_ne (tgt := 60) hx hb d_R_mayReach_53 rfl (fun q_17 => ?_) (fun q_17 => ?_)
          · have hf := sr_if q_17 hf
            exact k_R_mayReach_60 X hk4 Z (lv_sub hl [0, 1, 2, 3] rfl) hf
          · have hf := sr_it q_17 hf
            refine lv_iconst (v := 1) hx hb d_R_mayReach_56 (by decide) ?_
            refine lv_goto (tgt := 61) hx hb d_R_mayReach_57 rfl ?_
            exact k_R_mayReach_61 X hk4 Z (lv_sub hl [0, 1, 2, 3] rfl) hf
def f_R_mayReach_4_it (p0 : St) (b0 : (Nat → Int64)) : Nat → Int32 → Int32 → Int32 → Option (Int32)
  | 0 => fun _ _ _ => none
  | n + 1 => fun x1 x2 x3 => f_R_mayReach_4 (f_R_mayReach_4_it p0 b0 n) p0 b0 x1 x2 x3
set_option maxHeartbeats 4000000 in
set_option maxRecDepth 100000 in
theorem k_R_mayReach_4_it {p0 : St} {b0 : (Nat → Int64)} {r : Int32} (X : sr_X D (tR t v) b_R_mayReach 5 R_R w_R_mayReach p s m args meth c A (some .boolean)) (n : Nat) : ∀ {x1 : Int32} {x2 : Int32} {x3 : Int32} {H : Heap} {locs : List Loc} {ls : Array Slot}, sr_Z D A s.heap (wR h t o v p0 b0) H locs → lv_has ls 5 [(0, .ref (o 0)), (1, .int x1), (2, .int x2), (3, .int x3)] → f_R_mayReach_4_it p0 b0 n x1 x2 x3 = some r → W p l e (sr_rm 2 43) s m args below meth c H locs 0 0 (sr_Qi D (tR t v) below args s A (wR h t o v p0 b0) r) (F0 m 4 ls []) := by
  induction n with
  | zero => intro x1 x2 x3 H locs ls Z hl hf; exact absurd hf (by simp [f_R_mayReach_4_it])
  | succ n ih =>
    intro x1 x2 x3 H locs ls Z hl hf
    exact k_R_mayReach_4 X (fun x1 x2 x3 H locs ls Z hl hf => ih Z hl hf) Z hl hf
def f_R_mayReach (p0 : St) (b0 : (Nat → Int64)) (x1 : Int32) (x2 : Int32) : Option (Int32) :=
  f_R_mayReach_4_it p0 b0 60 x1 x2 (x2 + 1)
set_option maxHeartbeats 4000000 in
set_option maxRecDepth 100000 in
theorem k_R_mayReach_0 {p0 : St} {b0 : (Nat → Int64)} {x1 : Int32} {x2 : Int32} {r : Int32} (X : sr_X D (tR t v) b_R_mayReach 5 R_R w_R_mayReach p s m args meth c A (some .boolean)) (Z : sr_Z D A s.heap (wR h t o v p0 b0) H locs) (hl : lv_has ls 5 [(0, .ref (o 0)), (1, .int x1), (2, .int x2)]) (hf : f_R_mayReach p0 b0 x1 x2 = some r) : W p l e (sr_rm 2 43) s m args below meth c H locs 0 0 (sr_Qi D (tR t v) below args s A (wR h t o v p0 b0) r) (F0 m 0 ls []) := by
  have hx := X.1
  have hb := X.2.1
  have hK := X.2.2.2.2.2.2.1
  unfold f_R_mayReach at hf
  refine lv_iload_n hx hb d_R_mayReach_0 rfl (lv_at hl 2 rfl) ?_
  refine lv_iconst (v := 1) hx hb d_R_mayReach_1 (by decide) ?_
  refine lv_iadd hx hb d_R_mayReach_2 ?_
  refine lv_istore_n (lv' := [(3, .int (x2 + 1)), (0, .ref (o 0)), (1, .int x1), (2, .int x2)]) hx hb d_R_mayReach_3 rfl hl (by decide) rfl (fun ls hl => ?_)
  exact k_R_mayReach_4_it X _ Z (lv_sub hl [1, 2, 3, 0] rfl) hf
end
set_option maxHeartbeats 4000000 in
set_option maxRecDepth 100000 in
theorem c_R_mayReach {l : Launch} {D : va_G} {h : Nat → Nat} {t : Nat → ClassId} {o : Nat → Nat} {v : Nat → ClassId} {sz : Nat} {p0 : St} {b0 : (Nat → Int64)} {x1 : Int32} {x2 : Int32} {r : Int32} (hf : f_R_mayReach p0 b0 x1 x2 = some r) : sr_Ci l y_R_mayReach w_R_mayReach (sr_rm 2 43) D (tR t v) (wR h t o v p0 b0) (wR h t o v p0 b0) sz [.ref (o 0), .int x1, .int x2] r := by
  refine Met.ofW (cc := b_R_mayReach) (maxL := 5) (ret := (some .boolean)) (by decide) rfl ?_
  intro p e s m args below meth c s₁ B hml hv
  obtain ⟨rfl, hsz, hP, hK, hD0⟩ := hv
  subst hsz
  have X : sr_X D (tR t v) b_R_mayReach 5 R_R w_R_mayReach p s m _ meth c (va_A (wR h t o v p0 b0) s.heap.size) (some .boolean) := ⟨B.exec, B.bytes, hml, findClass_of_methodNamed B.named, B.notSynchronized, atoms_spec (ws := w_R_mayReach) B.pre, hK, fun q h => Or.inr h, B.returns⟩
  have Z : sr_Z D (va_A (wR h t o v p0 b0) s.heap.size) s.heap (wR h t o v p0 b0) s.heap [] := ⟨hP, hD0.self, va_S.rf⟩
  have hl := lv_entry ([.ref (o 0), .int x1, .int x2] : List Value) (n := 5) (Nat.le_of_ble_eq_true rfl)
  rw [lg_entry_eq]
  exact k_R_mayReach_0 X Z hl hf
/-! R_linkIsRight -/
theorem d_R_linkIsRight_0 : decode b_R_linkIsRight 0 = .ok (.iload_n 1, 1) := by decide +kernel
theorem d_R_linkIsRight_1 : decode b_R_linkIsRight 1 = .ok (.iload_n 2, 1) := by decide +kernel
theorem d_R_linkIsRight_2 : decode b_R_linkIsRight 2 = .ok (.if_icmp .eq 27, 3) := by decide +kernel
theorem d_R_linkIsRight_5 : decode b_R_linkIsRight 5 = .ok (.aload_n 0, 1) := by decide +kernel
theorem d_R_linkIsRight_6 : decode b_R_linkIsRight 6 = .ok (.getfield 15, 3) := by decide +kernel
theorem d_R_linkIsRight_9 : decode b_R_linkIsRight 9 = .ok (.iload_n 1, 1) := by decide +kernel
theorem d_R_linkIsRight_10 : decode b_R_linkIsRight 10 = .ok (.iload_n 2, 1) := by decide +kernel
theorem d_R_linkIsRight_11 : decode b_R_linkIsRight 11 = .ok (.invokevirtual 77, 3) := by decide +kernel
theorem d_R_linkIsRight_14 : decode b_R_linkIsRight 14 = .ok (.ifCond .ne 15, 3) := by decide +kernel
theorem d_R_linkIsRight_17 : decode b_R_linkIsRight 17 = .ok (.aload_n 0, 1) := by decide +kernel
theorem d_R_linkIsRight_18 : decode b_R_linkIsRight 18 = .ok (.getfield 15, 3) := by decide +kernel
theorem d_R_linkIsRight_21 : decode b_R_linkIsRight 21 = .ok (.iload_n 2, 1) := by decide +kernel
theorem d_R_linkIsRight_22 : decode b_R_linkIsRight 22 = .ok (.iload_n 1, 1) := by decide +kernel
theorem d_R_linkIsRight_23 : decode b_R_linkIsRight 23 = .ok (.invokevirtual 77, 3) := by decide +kernel
theorem d_R_linkIsRight_26 : decode b_R_linkIsRight 26 = .ok (.ifCond .eq 5, 3) := by decide +kernel
theorem d_R_linkIsRight_29 : decode b_R_linkIsRight 29 = .ok (.iconst 0, 1) := by decide +kernel
theorem d_R_linkIsRight_30 : decode b_R_linkIsRight 30 = .ok (.ireturn, 1) := by decide +kernel
theorem d_R_linkIsRight_31 : decode b_R_linkIsRight 31 = .ok (.aload_n 0, 1) := by decide +kernel
theorem d_R_linkIsRight_32 : decode b_R_linkIsRight 32 = .ok (.iload_n 1, 1) := by decide +kernel
theorem d_R_linkIsRight_33 : decode b_R_linkIsRight 33 = .ok (.iload_n 2, 1) := by decide +kernel
theorem d_R_linkIsRight_34 : decode b_R_linkIsRight 34 = .ok (.invokevirtual 98, 3) := by decide +kernel
theorem d_R_linkIsRight_37 : decode b_R_linkIsRight 37 = .ok (.istore_n 3, 1) := by decide +kernel
theorem d_R_linkIsRight_38 : decode b_R_linkIsRight 38 = .ok (.iload_n 3, 1) := by decide +kernel
theorem d_R_linkIsRight_39 : decode b_R_linkIsRight 39 = .ok (.iconst (-1), 1) := by decide +kernel
theorem d_R_linkIsRight_40 : decode b_R_linkIsRight 40 = .ok (.if_icmp .eq 39, 3) := by decide +kernel
theorem d_R_linkIsRight_43 : decode b_R_linkIsRight 43 = .ok (.aload_n 0, 1) := by decide +kernel
theorem d_R_linkIsRight_44 : decode b_R_linkIsRight 44 = .ok (.getfield 15, 3) := by decide +kernel
theorem d_R_linkIsRight_47 : decode b_R_linkIsRight 47 = .ok (.getfield 47, 3) := by decide +kernel
theorem d_R_linkIsRight_50 : decode b_R_linkIsRight 50 = .ok (.iload_n 3, 1) := by decide +kernel
theorem d_R_linkIsRight_51 : decode b_R_linkIsRight 51 = .ok (.iaload, 1) := by decide +kernel
theorem d_R_linkIsRight_52 : decode b_R_linkIsRight 52 = .ok (.bipush 9, 2) := by decide +kernel
theorem d_R_linkIsRight_54 : decode b_R_linkIsRight 54 = .ok (.if_icmp .ne 25, 3) := by decide +kernel
theorem d_R_linkIsRight_57 : decode b_R_linkIsRight 57 = .ok (.aload_n 0, 1) := by decide +kernel
theorem d_R_linkIsRight_58 : decode b_R_linkIsRight 58 = .ok (.iload_n 1, 1) := by decide +kernel
theorem d_R_linkIsRight_59 : decode b_R_linkIsRight 59 = .ok (.iload_n 3, 1) := by decide +kernel
theorem d_R_linkIsRight_60 : decode b_R_linkIsRight 60 = .ok (.invokevirtual 102, 3) := by decide +kernel
theorem d_R_linkIsRight_63 : decode b_R_linkIsRight 63 = .ok (.ifCond .eq 16, 3) := by decide +kernel
theorem d_R_linkIsRight_66 : decode b_R_linkIsRight 66 = .ok (.aload_n 0, 1) := by decide +kernel
theorem d_R_linkIsRight_67 : decode b_R_linkIsRight 67 = .ok (.iload_n 2, 1) := by decide +kernel
theorem d_R_linkIsRight_68 : decode b_R_linkIsRight 68 = .ok (.iload_n 3, 1) := by decide +kernel
theorem d_R_linkIsRight_69 : decode b_R_linkIsRight 69 = .ok (.invokevirtual 102, 3) := by decide +kernel
theorem d_R_linkIsRight_72 : decode b_R_linkIsRight 72 = .ok (.ifCond .eq 7, 3) := by decide +kernel
theorem d_R_linkIsRight_75 : decode b_R_linkIsRight 75 = .ok (.iconst 1, 1) := by decide +kernel
theorem d_R_linkIsRight_76 : decode b_R_linkIsRight 76 = .ok (.goto 4, 3) := by decide +kernel
theorem d_R_linkIsRight_79 : decode b_R_linkIsRight 79 = .ok (.iconst 0, 1) := by decide +kernel
theorem d_R_linkIsRight_80 : decode b_R_linkIsRight 80 = .ok (.ireturn, 1) := by decide +kernel
section
variable {p : Program} {l : Launch} {e : Env} {s : State} {m : MethodId} {args : Array Value} {below : List Frame} {meth : Method} {c : Code} {H : Heap} {locs : List Loc} {ls : Array Slot} {D : va_G} {A : Nat → Prop} {h o : Nat → Nat} {t v : Nat → ClassId}
def f_R_linkIsRight (p0 : St) (b0 : (Nat → Int64)) (x1 : Int32) (x2 : Int32) : Option (Int32) :=
  if x1 = x2 then
    some 0
  else
    (f_P_isBelow p0 x1 x2).bind fun v_2 =>
    if v_2 = 0 then
      (f_P_isBelow p0 x2 x1).bind fun v_5 =>
      if v_5 = 0 then
        (f_R_nearestAbove p0 b0 x1 x2).bind fun v_8 =>
        if v_8 = (-1) then
          some 0
        else
          (sr_ald 24 (p0 2) v_8).bind fun v_11 =>
          if v_11 = 9 then
            (f_R_mayReach p0 b0 x1 v_8).bind fun v_14 =>
            if v_14 = 0 then
              some 0
            else
              (f_R_mayReach p0 b0 x2 v_8).bind fun v_17 =>
              if v_17 = 0 then
                some 0
              else
                some 1
          else
            some 0
      else
        some 0
    else
      some 0
set_option maxHeartbeats 4000000 in
set_option maxRecDepth 100000 in
theorem k_R_linkIsRight_0 {p0 : St} {b0 : (Nat → Int64)} {x1 : Int32} {x2 : Int32} {r : Int32} (X : sr_X D (tR t v) b_R_linkIsRight 4 R_R w_R_linkIsRight p s m args meth c A (some .boolean)) (Z : sr_Z D A s.heap (wR h t o v p0 b0) H locs) (hl : lv_has ls 4 [(0, .ref (o 0)), (1, .int x1), (2, .int x2)]) (hf : f_R_linkIsRight p0 b0 x1 x2 = some r) : W p l e (sr_rm 3 67) s m args below meth c H locs 0 0 (sr_Qi D (tR t v) below args s A (wR h t o v p0 b0) r) (F0 m 0 ls []) := by
  have hx := X.1
  have hb := X.2.1
  have hK := X.2.2.2.2.2.2.1
  unfold f_R_linkIsRight at hf
  refine lv_iload_n hx hb d_R_linkIsRight_0 rfl (lv_at hl 1 rfl) ?_
  refine lv_iload_n hx hb d_R_linkIsRight_1 rfl (lv_at hl 2 rfl) ?_
  refine lv_icmp_eq (tgt := 29) hx hb d_R_linkIsRight_2 rfl (fun q_1 => ?_) (fun q_1 => ?_)
  · have hf := sr_it q_1 hf
    refine lv_iconst (v := 0) hx hb d_R_linkIsRight_29 (by decide) ?_
    cases hf
    exact sr_retz X Z (by decide) d_R_linkIsRight_30
  · have hf := sr_if q_1 hf
    refine lv_aload_n hx hb d_R_linkIsRight_5 rfl (lv_at hl 0 rfl) ?_
    refine g_R_15_R X Z d_R_linkIsRight_6 ?_
    refine lv_iload_n hx hb d_R_linkIsRight_9 rfl (lv_at hl 1 rfl) ?_
    refine lv_iload_n hx hb d_R_linkIsRight_10 rfl (lv_at hl 2 rfl) ?_
    obtain ⟨v_2, e_3, hf⟩ := sr_b hf
    refine sr_cVi (As := [.int x1, .int x2]) (rest := []) X Z cut_RP (k_RP hK) (c_P_isBelow e_3) (cw_R_77 X.2.2.2.2.2.1 (by decide)) 0 rfl rfl rfl hl rfl (Nat.le_of_ble_eq_true rfl) d_R_linkIsRight_11 (fun H locs Z => ?_)
    refine lv_if_ne (tgt := 29) hx hb d_R_linkIsRight_14 rfl (fun q_4 => ?_) (fun q_4 => ?_)
    · have hf := sr_if q_4 hf
      refine lv_iconst (v := 0) hx hb d_R_linkIsRight_29 (by decide) ?_
      cases hf
      exact sr_retz X Z (by decide) d_R_linkIsRight_30
    · have hf := sr_it q_4 hf
      refine lv_aload_n hx hb d_R_linkIsRight_17 rfl (lv_at hl 0 rfl) ?_
      refine g_R_15_R X Z d_R_linkIsRight_18 ?_
      refine lv_iload_n hx hb d_R_linkIsRight_21 rfl (lv_at hl 2 rfl) ?_
      refine lv_iload_n hx hb d_R_linkIsRight_22 rfl (lv_at hl 1 rfl) ?_
      obtain ⟨v_5, e_6, hf⟩ := sr_b hf
      refine sr_cVi (As := [.int x2, .int x1]) (rest := []) X Z cut_RP (k_RP hK) (c_P_isBelow e_6) (cw_R_77 X.2.2.2.2.2.1 (by decide)) 0 rfl rfl rfl hl rfl (Nat.le_of_ble_eq_true rfl) d_R_linkIsRight_23 (fun H locs Z => ?_)
      refine lv_if_eq (tgt := 31) hx hb d_R_linkIsRight_26 rfl (fun q_7 => ?_) (fun q_7 => ?_)
      · have hf := sr_it q_7 hf
        refine lv_aload_n hx hb d_R_linkIsRight_31 rfl (lv_at hl 0 rfl) ?_
        refine lv_iload_n hx hb d_R_linkIsRight_32 rfl (lv_at hl 1 rfl) ?_
        refine lv_iload_n hx hb d_R_linkIsRight_33 rfl (lv_at hl 2 rfl) ?_
        obtain ⟨v_8, e_9, hf⟩ := sr_b hf
        refine sr_cVi (As := [.int x1, .int x2]) (rest := []) X Z sr_cut_self hK (c_R_nearestAbove e_9) (cw_R_98 X.2.2.2.2.2.1 (by decide)) 15 rfl rfl rfl hl rfl (Nat.le_of_ble_eq_true rfl) d_R_linkIsRight_34 (fun H locs Z => ?_)
        refine lv_istore_n (lv' := [(3, .int v_8), (0, .ref (o 0)), (1, .int x1), (2, .int x2)]) hx hb d_R_linkIsRight_37 rfl hl (by decide) rfl (fun ls hl => ?_)
        refine lv_iload_n hx hb d_R_linkIsRight_38 rfl (lv_at hl 0 rfl) ?_
        refine lv_iconst (v := -1) hx hb d_R_linkIsRight_39 (by decide) ?_
        refine lv_icmp_eq (tgt := 79) hx hb d_R_linkIsRight_40 rfl (fun q_10 => ?_) (fun q_10 => ?_)
        · have hf := sr_it q_10 hf
          refine lv_iconst (v := 0) hx hb d_R_linkIsRight_79 (by decide) ?_
          cases hf
          exact sr_retz X Z (by decide) d_R_linkIsRight_80
        · have hf := sr_if q_10 hf
          refine lv_aload_n hx hb d_R_linkIsRight_43 rfl (lv_at hl 1 rfl) ?_
          refine g_R_15_R X Z d_R_linkIsRight_44 ?_
          refine g_R_47_R X Z d_R_linkIsRight_47 ?_
          refine lv_iload_n hx hb d_R_linkIsRight_50 rfl (lv_at hl 0 rfl) ?_
          obtain ⟨v_11, e_12, hf⟩ := sr_b hf
          refine sr_iald hx hb hK Z 3 2 rfl rfl e_12 d_R_linkIsRight_51 ?_
          refine lv_bipush (v := 9) hx hb d_R_linkIsRight_52 (by decide) ?_
          refine lv_icmp_ne (tgt := 79) hx hb d_R_linkIsRight_54 rfl (fun q_13 => ?_) (fun q_13 => ?_)
          · have hf := sr_if q_13 hf
            refine lv_iconst (v := 0) hx hb d_R_linkIsRight_79 (by decide) ?_
            cases hf
            exact sr_retz X Z (by decide) d_R_linkIsRight_80
          · have hf := sr_it q_13 hf
            refine lv_aload_n hx hb d_R_linkIsRight_57 rfl (lv_at hl 1 rfl) ?_
            refine lv_iload_n hx hb d_R_linkIsRight_58 rfl (lv_at hl 2 rfl) ?_
            refine lv_iload_n hx hb d_R_linkIsRight_59 rfl (lv_at hl 0 rfl) ?_
            obtain ⟨v_14, e_15, hf⟩ := sr_b hf
            refine sr_cVi (As := [.int x1, .int v_8]) (rest := []) X Z sr_cut_self hK (c_R_mayReach e_15) (cw_R_102 X.2.2.2.2.2.1 (by decide)) 15 rfl rfl rfl hl rfl (Nat.le_of_ble_eq_true rfl) d_R_linkIsRight_60 (fun H locs Z => ?_)
            refine lv_if_eq (tgt := 79) hx hb d_R_linkIsRight_63 rfl (fun q_16 => ?_) (fun q_16 => ?_)
            · have hf := sr_it q_16 hf
              refine lv_iconst (v := 0) hx hb d_R_linkIsRight_79 (by decide) ?_
              cases hf
              exact sr_retz X Z (by decide) d_R_linkIsRight_80
            · have hf := sr_if q_16 hf
              refine lv_aload_n hx hb d_R_linkIsRight_66 rfl (lv_at hl 1 rfl) ?_
              refine lv_iload_n hx hb d_R_linkIsRight_67 rfl (lv_at hl 3 rfl) ?_
              refine lv_iload_n hx hb d_R_linkIsRight_68 rfl (lv_at hl 0 rfl) ?_
              obtain ⟨v_17, e_18, hf⟩ := sr_b hf
              refine sr_cVi (As := [.int x2, .int v_8]) (rest := []) X Z sr_cut_self hK (c_R_mayReach e_18) (cw_R_102 X.2.2.2.2.2.1 (by decide)) 15 rfl rfl rfl hl rfl (Nat.le_of_ble_eq_true rfl) d_R_linkIsRight_69 (fun H locs Z => ?_)
              refine lv_if_eq (tgt := 79) hx hb d_R_linkIsRight_72 rfl (fun q_19 => ?_) (fun q_19 => ?_)
              · have hf := sr_it q_19 hf
                refine lv_iconst (v := 0) hx hb d_R_linkIsRight_79 (by decide) ?_
                cases hf
                exact sr_retz X Z (by decide) d_R_linkIsRight_80
              · have hf := sr_if q_19 hf
                refine lv_iconst (v := 1) hx hb d_R_linkIsRight_75 (by decide) ?_
                refine lv_goto (tgt := 80) hx hb d_R_linkIsRight_76 rfl ?_
                cases hf
                exact sr_retz X Z (by decide) d_R_linkIsRight_80
      · have hf := sr_if q_7 hf
        refine lv_iconst (v := 0) hx hb d_R_linkIsRight_29 (by decide) ?_
        cases hf
        exact sr_retz X Z (by decide) d_R_linkIsRight_30
end
set_option maxHeartbeats 4000000 in
set_option maxRecDepth 100000 in
theorem c_R_linkIsRight {l : Launch} {D : va_G} {h : Nat → Nat} {t : Nat → ClassId} {o : Nat → Nat} {v : Nat → ClassId} {sz : Nat} {p0 : St} {b0 : (Nat → Int64)} {x1 : Int32} {x2 : Int32} {r : Int32} (hf : f_R_linkIsRight p0 b0 x1 x2 = some r) : sr_Ci l y_R_linkIsRight w_R_linkIsRight (sr_rm 3 67) D (tR t v) (wR h t o v p0 b0) (wR h t o v p0 b0) sz [.ref (o 0), .int x1, .int x2] r := by
  refine Met.ofW (cc := b_R_linkIsRight) (maxL := 4) (ret := (some .boolean)) (by decide) rfl ?_
  intro p e s m args below meth c s₁ B hml hv
  obtain ⟨rfl, hsz, hP, hK, hD0⟩ := hv
  subst hsz
  have X : sr_X D (tR t v) b_R_linkIsRight 4 R_R w_R_linkIsRight p s m _ meth c (va_A (wR h t o v p0 b0) s.heap.size) (some .boolean) := ⟨B.exec, B.bytes, hml, findClass_of_methodNamed B.named, B.notSynchronized, atoms_spec (ws := w_R_linkIsRight) B.pre, hK, fun q h => Or.inr h, B.returns⟩
  have Z : sr_Z D (va_A (wR h t o v p0 b0) s.heap.size) s.heap (wR h t o v p0 b0) s.heap [] := ⟨hP, hD0.self, va_S.rf⟩
  have hl := lv_entry ([.ref (o 0), .int x1, .int x2] : List Value) (n := 4) (Nat.le_of_ble_eq_true rfl)
  rw [lg_entry_eq]
  exact k_R_linkIsRight_0 X Z hl hf
/-! R_linksAreRight -/
theorem d_R_linksAreRight_0 : decode b_R_linksAreRight 0 = .ok (.iconst 0, 1) := by decide +kernel
theorem d_R_linksAreRight_1 : decode b_R_linksAreRight 1 = .ok (.istore_n 1, 1) := by decide +kernel
theorem d_R_linksAreRight_2 : decode b_R_linksAreRight 2 = .ok (.iload_n 1, 1) := by decide +kernel
theorem d_R_linksAreRight_3 : decode b_R_linksAreRight 3 = .ok (.aload_n 0, 1) := by decide +kernel
theorem d_R_linksAreRight_4 : decode b_R_linksAreRight 4 = .ok (.getfield 15, 3) := by decide +kernel
theorem d_R_linksAreRight_7 : decode b_R_linksAreRight 7 = .ok (.getfield 86, 3) := by decide +kernel
theorem d_R_linksAreRight_10 : decode b_R_linksAreRight 10 = .ok (.if_icmp .ge 36, 3) := by decide +kernel
theorem d_R_linksAreRight_13 : decode b_R_linksAreRight 13 = .ok (.aload_n 0, 1) := by decide +kernel
theorem d_R_linksAreRight_14 : decode b_R_linksAreRight 14 = .ok (.aload_n 0, 1) := by decide +kernel
theorem d_R_linksAreRight_15 : decode b_R_linksAreRight 15 = .ok (.getfield 15, 3) := by decide +kernel
theorem d_R_linksAreRight_18 : decode b_R_linksAreRight 18 = .ok (.getfield 89, 3) := by decide +kernel
theorem d_R_linksAreRight_21 : decode b_R_linksAreRight 21 = .ok (.iload_n 1, 1) := by decide +kernel
theorem d_R_linksAreRight_22 : decode b_R_linksAreRight 22 = .ok (.iaload, 1) := by decide +kernel
theorem d_R_linksAreRight_23 : decode b_R_linksAreRight 23 = .ok (.aload_n 0, 1) := by decide +kernel
theorem d_R_linksAreRight_24 : decode b_R_linksAreRight 24 = .ok (.getfield 15, 3) := by decide +kernel
theorem d_R_linksAreRight_27 : decode b_R_linksAreRight 27 = .ok (.getfield 92, 3) := by decide +kernel
theorem d_R_linksAreRight_30 : decode b_R_linksAreRight 30 = .ok (.iload_n 1, 1) := by decide +kernel
theorem d_R_linksAreRight_31 : decode b_R_linksAreRight 31 = .ok (.iaload, 1) := by decide +kernel
theorem d_R_linksAreRight_32 : decode b_R_linksAreRight 32 = .ok (.invokevirtual 95, 3) := by decide +kernel
theorem d_R_linksAreRight_35 : decode b_R_linksAreRight 35 = .ok (.ifCond .ne 5, 3) := by decide +kernel
theorem d_R_linksAreRight_38 : decode b_R_linksAreRight 38 = .ok (.iconst 0, 1) := by decide +kernel
theorem d_R_linksAreRight_39 : decode b_R_linksAreRight 39 = .ok (.ireturn, 1) := by decide +kernel
theorem d_R_linksAreRight_40 : decode b_R_linksAreRight 40 = .ok (.iinc 1 1, 3) := by decide +kernel
theorem d_R_linksAreRight_43 : decode b_R_linksAreRight 43 = .ok (.goto (-41), 3) := by decide +kernel
theorem d_R_linksAreRight_46 : decode b_R_linksAreRight 46 = .ok (.iconst 1, 1) := by decide +kernel
theorem d_R_linksAreRight_47 : decode b_R_linksAreRight 47 = .ok (.ireturn, 1) := by decide +kernel
section
variable {p : Program} {l : Launch} {e : Env} {s : State} {m : MethodId} {args : Array Value} {below : List Frame} {meth : Method} {c : Code} {H : Heap} {locs : List Loc} {ls : Array Slot} {D : va_G} {A : Nat → Prop} {h o : Nat → Nat} {t v : Nat → ClassId}
def f_R_linksAreRight_2 (k2 : Int32 → Option (Int32)) (p0 : St) (b0 : (Nat → Int64)) (x1 : Int32) : Option (Int32) :=
  if (p0 15 0) ≤ x1 then
    some 1
  else
    (sr_ald 16 (p0 11) x1).bind fun v_2 =>
    (sr_ald 16 (p0 12) x1).bind fun v_4 =>
    (f_R_linkIsRight p0 b0 v_2 v_4).bind fun v_6 =>
    if v_6 = 0 then
      some 0
    else
      k2 (x1 + 1)
set_option maxHeartbeats 4000000 in
set_option maxRecDepth 100000 in
theorem k_R_linksAreRight_2 {k2 : Int32 → Option (Int32)} {p0 : St} {b0 : (Nat → Int64)} {x1 : Int32} {r : Int32} (X : sr_X D (tR t v) b_R_linksAreRight 2 R_R w_R_linksAreRight p s m args meth c A (some .boolean)) (hk2 : ∀ (x1 : Int32) (H : Heap) (locs : List Loc) (ls : Array Slot), sr_Z D A s.heap (wR h t o v p0 b0) H locs → lv_has ls 2 [(0, .ref (o 0)), (1, .int x1)] → k2 x1 = some r → W p l e (sr_rm 4 90) s m args below meth c H locs 0 0 (sr_Qi D (tR t v) below args s A (wR h t o v p0 b0) r) (F0 m 2 ls [])) (Z : sr_Z D A s.heap (wR h t o v p0 b0) H locs) (hl : lv_has ls 2 [(0, .ref (o 0)), (1, .int x1)]) (hf : f_R_linksAreRight_2 k2 p0 b0 x1 = some r) : W p l e (sr_rm 4 90) s m args below meth c H locs 0 0 (sr_Qi D (tR t v) below args s A (wR h t o v p0 b0) r) (F0 m 2 ls []) := by
  have hx := X.1
  have hb := X.2.1
  have hK := X.2.2.2.2.2.2.1
  unfold f_R_linksAreRight_2 at hf
  refine lv_iload_n hx hb d_R_linksAreRight_2 rfl (lv_at hl 1 rfl) ?_
  refine lv_aload_n hx hb d_R_linksAreRight_3 rfl (lv_at hl 0 rfl) ?_
  refine g_R_15_R X Z d_R_linksAreRight_4 ?_
  refine g_R_86_R X Z d_R_linksAreRight_7 ?_
  refine lv_icmp_ge (tgt := 46) hx hb d_R_linksAreRight_10 rfl (fun q_1 => ?_) (fun q_1 => ?_)
  · have hf := sr_it q_1 hf
    refine lv_iconst (v := 1) hx hb d_R_linksAreRight_46 (by decide) ?_
    cases hf
    exact sr_retz X Z (by decide) d_R_linksAreRight_47
  · have hf := sr_if q_1 hf
    refine lv_aload_n hx hb d_R_linksAreRight_13 rfl (lv_at hl 0 rfl) ?_
    refine lv_aload_n hx hb d_R_linksAreRight_14 rfl (lv_at hl 0 rfl) ?_
    refine g_R_15_R X Z d_R_linksAreRight_15 ?_
    refine g_R_89_R X Z d_R_linksAreRight_18 ?_
    refine lv_iload_n hx hb d_R_linksAreRight_21 rfl (lv_at hl 1 rfl) ?_
    obtain ⟨v_2, e_3, hf⟩ := sr_b hf
    refine sr_iald hx hb hK Z 11 10 rfl rfl e_3 d_R_linksAreRight_22 ?_
    refine lv_aload_n hx hb d_R_linksAreRight_23 rfl (lv_at hl 0 rfl) ?_
    refine g_R_15_R X Z d_R_linksAreRight_24 ?_
    refine g_R_92_R X Z d_R_linksAreRight_27 ?_
    refine lv_iload_n hx hb d_R_linksAreRight_30 rfl (lv_at hl 1 rfl) ?_
    obtain ⟨v_4, e_5, hf⟩ := sr_b hf
    refine sr_iald hx hb hK Z 12 11 rfl rfl e_5 d_R_linksAreRight_31 ?_
    obtain ⟨v_6, e_7, hf⟩ := sr_b hf
    refine sr_cVi (As := [.int v_2, .int v_4]) (rest := []) X Z sr_cut_self hK (c_R_linkIsRight e_7) (cw_R_95 X.2.2.2.2.2.1 (by decide)) 15 rfl rfl rfl hl rfl (Nat.le_of_ble_eq_true rfl) d_R_linksAreRight_32 (fun H locs Z => ?_)
    refine lv_if_ne (tgt := 40) hx hb d_R_linksAreRight_35 rfl (fun q_8 => ?_) (fun q_8 => ?_)
    · have hf := sr_if q_8 hf
      refine lv_iinc (k := 1) (v := x1 + 1) (lv' := [(1, .int (x1 + 1)), (0, .ref (o 0))]) hx hb d_R_linksAreRight_40 hl rfl rfl (by decide) rfl (fun ls hl => ?_)
      refine lv_goto (tgt := 2) hx hb d_R_linksAreRight_43 rfl ?_
      exact hk2 (x1 + 1) _ _ _ Z (lv_sub hl [1, 0] rfl) hf
    · have hf := sr_it q_8 hf
      refine lv_iconst (v := 0) hx hb d_R_linksAreRight_38 (by decide) ?_
      cases hf
      exact sr_retz X Z (by decide) d_R_linksAreRight_39
def f_R_linksAreRight_2_it (p0 : St) (b0 : (Nat → Int64)) : Nat → Int32 → Option (Int32)
  | 0 => fun _ => none
  | n + 1 => fun x1 => f_R_linksAreRight_2 (f_R_linksAreRight_2_it p0 b0 n) p0 b0 x1
set_option maxHeartbeats 4000000 in
set_option maxRecDepth 100000 in
theorem k_R_linksAreRight_2_it {p0 : St} {b0 : (Nat → Int64)} {r : Int32} (X : sr_X D (tR t v) b_R_linksAreRight 2 R_R w_R_linksAreRight p s m args meth c A (some .boolean)) (n : Nat) : ∀ {x1 : Int32} {H : Heap} {locs : List Loc} {ls : Array Slot}, sr_Z D A s.heap (wR h t o v p0 b0) H locs → lv_has ls 2 [(0, .ref (o 0)), (1, .int x1)] → f_R_linksAreRight_2_it p0 b0 n x1 = some r → W p l e (sr_rm 4 90) s m args below meth c H locs 0 0 (sr_Qi D (tR t v) below args s A (wR h t o v p0 b0) r) (F0 m 2 ls []) := by
  induction n with
  | zero => intro x1 H locs ls Z hl hf; exact absurd hf (by simp [f_R_linksAreRight_2_it])
  | succ n ih =>
    intro x1 H locs ls Z hl hf
    exact k_R_linksAreRight_2 X (fun x1 H locs ls Z hl hf => ih Z hl hf) Z hl hf
def f_R_linksAreRight (p0 : St) (b0 : (Nat → Int64)) : Option (Int32) :=
  f_R_linksAreRight_2_it p0 b0 60 0
set_option maxHeartbeats 4000000 in
set_option maxRecDepth 100000 in
theorem k_R_linksAreRight_0 {p0 : St} {b0 : (Nat → Int64)} {r : Int32} (X : sr_X D (tR t v) b_R_linksAreRight 2 R_R w_R_linksAreRight p s m args meth c A (some .boolean)) (Z : sr_Z D A s.heap (wR h t o v p0 b0) H locs) (hl : lv_has ls 2 [(0, .ref (o 0))]) (hf : f_R_linksAreRight p0 b0 = some r) : W p l e (sr_rm 4 90) s m args below meth c H locs 0 0 (sr_Qi D (tR t v) below args s A (wR h t o v p0 b0) r) (F0 m 0 ls []) := by
  have hx := X.1
  have hb := X.2.1
  have hK := X.2.2.2.2.2.2.1
  unfold f_R_linksAreRight at hf
  refine lv_iconst (v := 0) hx hb d_R_linksAreRight_0 (by decide) ?_
  refine lv_istore_n (lv' := [(1, .int 0), (0, .ref (o 0))]) hx hb d_R_linksAreRight_1 rfl hl (by decide) rfl (fun ls hl => ?_)
  exact k_R_linksAreRight_2_it X _ Z (lv_sub hl [1, 0] rfl) hf
end
set_option maxHeartbeats 4000000 in
set_option maxRecDepth 100000 in
theorem c_R_linksAreRight {l : Launch} {D : va_G} {h : Nat → Nat} {t : Nat → ClassId} {o : Nat → Nat} {v : Nat → ClassId} {sz : Nat} {p0 : St} {b0 : (Nat → Int64)} {r : Int32} (hf : f_R_linksAreRight p0 b0 = some r) : sr_Ci l y_R_linksAreRight w_R_linksAreRight (sr_rm 4 90) D (tR t v) (wR h t o v p0 b0) (wR h t o v p0 b0) sz [.ref (o 0)] r := by
  refine Met.ofW (cc := b_R_linksAreRight) (maxL := 2) (ret := (some .boolean)) (by decide) rfl ?_
  intro p e s m args below meth c s₁ B hml hv
  obtain ⟨rfl, hsz, hP, hK, hD0⟩ := hv
  subst hsz
  have X : sr_X D (tR t v) b_R_linksAreRight 2 R_R w_R_linksAreRight p s m _ meth c (va_A (wR h t o v p0 b0) s.heap.size) (some .boolean) := ⟨B.exec, B.bytes, hml, findClass_of_methodNamed B.named, B.notSynchronized, atoms_spec (ws := w_R_linksAreRight) B.pre, hK, fun q h => Or.inr h, B.returns⟩
  have Z : sr_Z D (va_A (wR h t o v p0 b0) s.heap.size) s.heap (wR h t o v p0 b0) s.heap [] := ⟨hP, hD0.self, va_S.rf⟩
  have hl := lv_entry ([.ref (o 0)] : List Value) (n := 2) (Nat.le_of_ble_eq_true rfl)
  rw [lg_entry_eq]
  exact k_R_linksAreRight_0 X Z hl hf
/-! R_noteNextInSequence -/
theorem d_R_noteNextInSequence_0 : decode b_R_noteNextInSequence 0 = .ok (.iconst (-1), 1) := by decide +kernel
theorem d_R_noteNextInSequence_1 : decode b_R_noteNextInSequence 1 = .ok (.istore_n 3, 1) := by decide +kernel
theorem d_R_noteNextInSequence_2 : decode b_R_noteNextInSequence 2 = .ok (.iload_n 2, 1) := by decide +kernel
theorem d_R_noteNextInSequence_3 : decode b_R_noteNextInSequence 3 = .ok (.iconst 1, 1) := by decide +kernel
theorem d_R_noteNextInSequence_4 : decode b_R_noteNextInSequence 4 = .ok (.iadd, 1) := by decide +kernel
theorem d_R_noteNextInSequence_5 : decode b_R_noteNextInSequence 5 = .ok (.istore 4, 2) := by decide +kernel
theorem d_R_noteNextInSequence_7 : decode b_R_noteNextInSequence 7 = .ok (.iload 4, 2) := by decide +kernel
theorem d_R_noteNextInSequence_9 : decode b_R_noteNextInSequence 9 = .ok (.iload_n 1, 1) := by decide +kernel
theorem d_R_noteNextInSequence_10 : decode b_R_noteNextInSequence 10 = .ok (.if_icmp .ge 26, 3) := by decide +kernel
theorem d_R_noteNextInSequence_13 : decode b_R_noteNextInSequence 13 = .ok (.aload_n 0, 1) := by decide +kernel
theorem d_R_noteNextInSequence_14 : decode b_R_noteNextInSequence 14 = .ok (.getfield 15, 3) := by decide +kernel
theorem d_R_noteNextInSequence_17 : decode b_R_noteNextInSequence 17 = .ok (.getfield 136, 3) := by decide +kernel
theorem d_R_noteNextInSequence_20 : decode b_R_noteNextInSequence 20 = .ok (.iload 4, 2) := by decide +kernel
theorem d_R_noteNextInSequence_22 : decode b_R_noteNextInSequence 22 = .ok (.iaload, 1) := by decide +kernel
theorem d_R_noteNextInSequence_23 : decode b_R_noteNextInSequence 23 = .ok (.iload_n 2, 1) := by decide +kernel
theorem d_R_noteNextInSequence_24 : decode b_R_noteNextInSequence 24 = .ok (.if_icmp .ne 6, 3) := by decide +kernel
theorem d_R_noteNextInSequence_27 : decode b_R_noteNextInSequence 27 = .ok (.iload 4, 2) := by decide +kernel
theorem d_R_noteNextInSequence_29 : decode b_R_noteNextInSequence 29 = .ok (.istore_n 3, 1) := by decide +kernel
theorem d_R_noteNextInSequence_30 : decode b_R_noteNextInSequence 30 = .ok (.iinc 4 1, 3) := by decide +kernel
theorem d_R_noteNextInSequence_33 : decode b_R_noteNextInSequence 33 = .ok (.goto (-26), 3) := by decide +kernel
theorem d_R_noteNextInSequence_36 : decode b_R_noteNextInSequence 36 = .ok (.iload_n 3, 1) := by decide +kernel
theorem d_R_noteNextInSequence_37 : decode b_R_noteNextInSequence 37 = .ok (.iconst (-1), 1) := by decide +kernel
theorem d_R_noteNextInSequence_38 : decode b_R_noteNextInSequence 38 = .ok (.if_icmp .eq 36, 3) := by decide +kernel
theorem d_R_noteNextInSequence_41 : decode b_R_noteNextInSequence 41 = .ok (.aload_n 0, 1) := by decide +kernel
theorem d_R_noteNextInSequence_42 : decode b_R_noteNextInSequence 42 = .ok (.getfield 15, 3) := by decide +kernel
theorem d_R_noteNextInSequence_45 : decode b_R_noteNextInSequence 45 = .ok (.getfield 47, 3) := by decide +kernel
theorem d_R_noteNextInSequence_48 : decode b_R_noteNextInSequence 48 = .ok (.iload_n 2, 1) := by decide +kernel
theorem d_R_noteNextInSequence_49 : decode b_R_noteNextInSequence 49 = .ok (.iaload, 1) := by decide +kernel
theorem d_R_noteNextInSequence_50 : decode b_R_noteNextInSequence 50 = .ok (.bipush 8, 2) := by decide +kernel
theorem d_R_noteNextInSequence_52 : decode b_R_noteNextInSequence 52 = .ok (.if_icmp .ne 22, 3) := by decide +kernel
theorem d_R_noteNextInSequence_55 : decode b_R_noteNextInSequence 55 = .ok (.aload_n 0, 1) := by decide +kernel
theorem d_R_noteNextInSequence_56 : decode b_R_noteNextInSequence 56 = .ok (.getfield 9, 3) := by decide +kernel
theorem d_R_noteNextInSequence_59 : decode b_R_noteNextInSequence 59 = .ok (.iload_n 1, 1) := by decide +kernel
theorem d_R_noteNextInSequence_60 : decode b_R_noteNextInSequence 60 = .ok (.invokestatic 126, 3) := by decide +kernel
theorem d_R_noteNextInSequence_63 : decode b_R_noteNextInSequence 63 = .ok (.dup2, 1) := by decide +kernel
theorem d_R_noteNextInSequence_64 : decode b_R_noteNextInSequence 64 = .ok (.laload, 1) := by decide +kernel
theorem d_R_noteNextInSequence_65 : decode b_R_noteNextInSequence 65 = .ok (.iload_n 3, 1) := by decide +kernel
theorem d_R_noteNextInSequence_66 : decode b_R_noteNextInSequence 66 = .ok (.invokestatic 129, 3) := by decide +kernel
theorem d_R_noteNextInSequence_69 : decode b_R_noteNextInSequence 69 = .ok (.invokestatic 132, 3) := by decide +kernel
theorem d_R_noteNextInSequence_72 : decode b_R_noteNextInSequence 72 = .ok (.lor, 1) := by decide +kernel
theorem d_R_noteNextInSequence_73 : decode b_R_noteNextInSequence 73 = .ok (.lastore, 1) := by decide +kernel
theorem d_R_noteNextInSequence_74 : decode b_R_noteNextInSequence 74 = .ok (.return_, 1) := by decide +kernel
section
variable {p : Program} {l : Launch} {e : Env} {s : State} {m : MethodId} {args : Array Value} {below : List Frame} {meth : Method} {c : Code} {H : Heap} {locs : List Loc} {ls : Array Slot} {D : va_G} {A : Nat → Prop} {h o : Nat → Nat} {t v : Nat → ClassId}
def f_R_noteNextInSequence_30 (k7 : Int32 → Int32 → Int32 → Int32 → (Nat → Int64) → Option ((Nat → Int64))) (p0 : St) (x1 : Int32) (x2 : Int32) (x3 : Int32) (x4 : Int32) (b0 : (Nat → Int64)) : Option ((Nat → Int64)) :=
  k7 x1 x2 x3 (x4 + 1) b0
set_option maxHeartbeats 4000000 in
set_option maxRecDepth 100000 in
theorem k_R_noteNextInSequence_30 {k7 : Int32 → Int32 → Int32 → Int32 → (Nat → Int64) → Option ((Nat → Int64))} {p0 : St} {x1 : Int32} {x2 : Int32} {x3 : Int32} {x4 : Int32} {b0 : (Nat → Int64)} {b' : (Nat → Int64)} (X : sr_X D (tR t v) b_R_noteNextInSequence 5 R_R w_R_noteNextInSequence p s m args meth c A none) (hk7 : ∀ (x1 : Int32) (x2 : Int32) (x3 : Int32) (x4 : Int32) (b0 : (Nat → Int64)) (H : Heap) (locs : List Loc) (ls : Array Slot), sr_Z D A s.heap (wR h t o v p0 b0) H locs → lv_has ls 5 [(0, .ref (o 0)), (1, .int x1), (2, .int x2), (3, .int x3), (4, .int x4)] → k7 x1 x2 x3 x4 b0 = some b' → W p l e (sr_rm 1 20) s m args below meth c H locs 0 0 (sr_Qv D (tR t v) below args s A (wR h t o v p0 b')) (F0 m 7 ls [])) (Z : sr_Z D A s.heap (wR h t o v p0 b0) H locs) (hl : lv_has ls 5 [(0, .ref (o 0)), (1, .int x1), (2, .int x2), (3, .int x3), (4, .int x4)]) (hf : f_R_noteNextInSequence_30 k7 p0 x1 x2 x3 x4 b0 = some b') : W p l e (sr_rm 1 20) s m args below meth c H locs 0 0 (sr_Qv D (tR t v) below args s A (wR h t o v p0 b')) (F0 m 30 ls []) := by
  have hx := X.1
  have hb := X.2.1
  have hK := X.2.2.2.2.2.2.1
  unfold f_R_noteNextInSequence_30 at hf
  refine lv_iinc (k := 4) (v := x4 + 1) (lv' := [(4, .int (x4 + 1)), (0, .ref (o 0)), (1, .int x1), (2, .int x2), (3, .int x3)]) hx hb d_R_noteNextInSequence_30 hl rfl rfl (by decide) rfl (fun ls hl => ?_)
  refine lv_goto (tgt := 7) hx hb d_R_noteNextInSequence_33 rfl ?_
  exact hk7 x1 x2 x3 (x4 + 1) b0 _ _ _ Z (lv_sub hl [1, 2, 3, 4, 0] rfl) hf
def f_R_noteNextInSequence_7 (k7 : Int32 → Int32 → Int32 → Int32 → (Nat → Int64) → Option ((Nat → Int64))) (p0 : St) (x1 : Int32) (x2 : Int32) (x3 : Int32) (x4 : Int32) (b0 : (Nat → Int64)) : Option ((Nat → Int64)) :=
  if x1 ≤ x4 then
    if x3 = (-1) then
      some b0
    else
      (sr_ald 24 (p0 2) x2).bind fun v_3 =>
      if v_3 = 8 then
        (f_R_beginning x1).bind fun v_6 =>
        (sr_lald 48 b0 v_6).bind fun v_8 =>
        (f_R_end x3).bind fun v_10 =>
        (f_R_bit v_10).bind fun v_12 =>
        (sr_last 48 b0 v_6 (v_8 ||| v_12)).bind fun b_14 =>
        some b_14
      else
        some b0
  else
    (sr_ald 24 (p0 0) x4).bind fun v_16 =>
    if v_16 = x2 then
      f_R_noteNextInSequence_30 k7 p0 x1 x2 x4 x4 b0
    else
      f_R_noteNextInSequence_30 k7 p0 x1 x2 x3 x4 b0
set_option maxHeartbeats 4000000 in
set_option maxRecDepth 100000 in
theorem k_R_noteNextInSequence_7 {k7 : Int32 → Int32 → Int32 → Int32 → (Nat → Int64) → Option ((Nat → Int64))} {p0 : St} {x1 : Int32} {x2 : Int32} {x3 : Int32} {x4 : Int32} {b0 : (Nat → Int64)} {b' : (Nat → Int64)} (X : sr_X D (tR t v) b_R_noteNextInSequence 5 R_R w_R_noteNextInSequence p s m args meth c A none) (hk7 : ∀ (x1 : Int32) (x2 : Int32) (x3 : Int32) (x4 : Int32) (b0 : (Nat → Int64)) (H : Heap) (locs : List Loc) (ls : Array Slot), sr_Z D A s.heap (wR h t o v p0 b0) H locs → lv_has ls 5 [(0, .ref (o 0)), (1, .int x1), (2, .int x2), (3, .int x3), (4, .int x4)] → k7 x1 x2 x3 x4 b0 = some b' → W p l e (sr_rm 1 20) s m args below meth c H locs 0 0 (sr_Qv D (tR t v) below args s A (wR h t o v p0 b')) (F0 m 7 ls [])) (Z : sr_Z D A s.heap (wR h t o v p0 b0) H locs) (hl : lv_has ls 5 [(0, .ref (o 0)), (1, .int x1), (2, .int x2), (3, .int x3), (4, .int x4)]) (hf : f_R_noteNextInSequence_7 k7 p0 x1 x2 x3 x4 b0 = some b') : W p l e (sr_rm 1 20) s m args below meth c H locs 0 0 (sr_Qv D (tR t v) below args s A (wR h t o v p0 b')) (F0 m 7 ls []) := by
  have hx := X.1
  have hb := X.2.1
  have hK := X.2.2.2.2.2.2.1
  unfold f_R_noteNextInSequence_7 at hf
  refine lv_iload hx hb d_R_noteNextInSequence_7 (lv_at hl 4 rfl) ?_
  refine lv_iload_n hx hb d_R_noteNextInSequence_9 rfl (lv_at hl 1 rfl) ?_
  refine lv_icmp_ge (tgt := 36) hx hb d_R_noteNextInSequence_10 rfl (fun q_1 => ?_) (fun q_1 => ?_)
  · have hf := sr_it q_1 hf
    refine lv_iload_n hx hb d_R_noteNextInSequence_36 rfl (lv_at hl 3 rfl) ?_
    refine lv_iconst (v := -1) hx hb d_R_noteNextInSequence_37 (by decide) ?_
    refine lv_icmp_eq (tgt := 74) hx hb d_R_noteNextInSequence_38 rfl (fun q_2 => ?_) (fun q_2 => ?_)
    · have hf := sr_it q_2 hf
      cases hf
      exact sr_retv X Z d_R_noteNextInSequence_74
    · have hf := sr_if q_2 hf
      refine lv_aload_n hx hb d_R_noteNextInSequence_41 rfl (lv_at hl 0 rfl) ?_
      refine g_R_15_R X Z d_R_noteNextInSequence_42 ?_
      refine g_R_47_R X Z d_R_noteNextInSequence_45 ?_
      refine lv_iload_n hx hb d_R_noteNextInSequence_48 rfl (lv_at hl 2 rfl) ?_
      obtain ⟨v_3, e_4, hf⟩ := sr_b hf
      refine sr_iald hx hb hK Z 3 2 rfl rfl e_4 d_R_noteNextInSequence_49 ?_
      refine lv_bipush (v := 8) hx hb d_R_noteNextInSequence_50 (by decide) ?_
      refine lv_icmp_ne (tgt := 74) hx hb d_R_noteNextInSequence_52 rfl (fun q_5 => ?_) (fun q_5 => ?_)
      · have hf := sr_if q_5 hf
        cases hf
        exact sr_retv X Z d_R_noteNextInSequence_74
      · have hf := sr_it q_5 hf
        refine lv_aload_n hx hb d_R_noteNextInSequence_55 rfl (lv_at hl 0 rfl) ?_
        refine g_R_9_R X Z d_R_noteNextInSequence_56 ?_
        refine lv_iload_n hx hb d_R_noteNextInSequence_59 rfl (lv_at hl 1 rfl) ?_
        obtain ⟨v_6, e_7, hf⟩ := sr_b hf
        refine sr_cSi (As := [.int x1]) (rest := [.ref (o 1)]) X Z sr_cut_0 (va_K.sub hK [] rfl) (c_R_beginning e_7) (cw_R_126 X.2.2.2.2.2.1 (by decide)) rfl hl rfl (Nat.le_of_ble_eq_true rfl) d_R_noteNextInSequence_60 (fun H locs Z => ?_)
        refine lv_dup2_11 hx hb d_R_noteNextInSequence_63 rfl rfl ?_
        obtain ⟨v_8, e_9, hf⟩ := sr_b hf
        refine sr_llald hx hb hK Z 16 14 rfl rfl e_9 d_R_noteNextInSequence_64 ?_
        refine lv_iload_n hx hb d_R_noteNextInSequence_65 rfl (lv_at hl 3 rfl) ?_
        obtain ⟨v_10, e_11, hf⟩ := sr_b hf
        refine sr_cSi (As := [.int x3]) (rest := [.long v_8, .int v_6, .ref (o 1)]) X Z sr_cut_0 (va_K.sub hK [] rfl) (c_R_end e_11) (cw_R_129 X.2.2.2.2.2.1 (by decide)) rfl hl rfl (Nat.le_of_ble_eq_true rfl) d_R_noteNextInSequence_66 (fun H locs Z => ?_)
        obtain ⟨v_12, e_13, hf⟩ := sr_b hf
        refine sr_cSl (As := [.int v_10]) (rest := [.long v_8, .int v_6, .ref (o 1)]) X Z sr_cut_0 (va_K.sub hK [] rfl) (c_R_bit e_13) (cw_R_132 X.2.2.2.2.2.1 (by decide)) rfl hl rfl (Nat.le_of_ble_eq_true rfl) d_R_noteNextInSequence_69 (fun H locs Z => ?_)
        refine lv_lor hx hb d_R_noteNextInSequence_72 ?_
        obtain ⟨b_14, e_15, hf⟩ := sr_b hf
        refine sr_llast (wf := (fun q => (wR h t o v p0 q))) hx hb hK Z 16 14 rfl rfl e_15 (fun _ => rfl) d_R_noteNextInSequence_73 (fun H locs Z => ?_)
        cases hf
        exact sr_retv X Z d_R_noteNextInSequence_74
  · have hf := sr_if q_1 hf
    refine lv_aload_n hx hb d_R_noteNextInSequence_13 rfl (lv_at hl 0 rfl) ?_
    refine g_R_15_R X Z d_R_noteNextInSequence_14 ?_
    refine g_R_136_R X Z d_R_noteNextInSequence_17 ?_
    refine lv_iload hx hb d_R_noteNextInSequence_20 (lv_at hl 4 rfl) ?_
    obtain ⟨v_16, e_17, hf⟩ := sr_b hf
    refine sr_iald hx hb hK Z 1 0 rfl rfl e_17 d_R_noteNextInSequence_22 ?_
    refine lv_iload_n hx hb d_R_noteNextInSequence_23 rfl (lv_at hl 2 rfl) ?_
    refine lv_icmp_ne (tgt := 30) hx hb d_R_noteNextInSequence_24 rfl (fun q_18 => ?_) (fun q_18 => ?_)
    · have hf := sr_if q_18 hf
      exact k_R_noteNextInSequence_30 X hk7 Z (lv_sub hl [0, 1, 2, 3, 4] rfl) hf
    · have hf := sr_it q_18 hf
      refine lv_iload hx hb d_R_noteNextInSequence_27 (lv_at hl 4 rfl) ?_
      refine lv_istore_n (lv' := [(3, .int x4), (0, .ref (o 0)), (1, .int x1), (2, .int x2), (4, .int x4)]) hx hb d_R_noteNextInSequence_29 rfl hl (by decide) rfl (fun ls hl => ?_)
      exact k_R_noteNextInSequence_30 X hk7 Z (lv_sub hl [1, 2, 3, 0, 4] rfl) hf
def f_R_noteNextInSequence_7_it (p0 : St) : Nat → Int32 → Int32 → Int32 → Int32 → (Nat → Int64) → Option ((Nat → Int64))
  | 0 => fun _ _ _ _ _ => none
  | n + 1 => fun x1 x2 x3 x4 b0 => f_R_noteNextInSequence_7 (f_R_noteNextInSequence_7_it p0 n) p0 x1 x2 x3 x4 b0
set_option maxHeartbeats 4000000 in
set_option maxRecDepth 100000 in
theorem k_R_noteNextInSequence_7_it {p0 : St} {b' : (Nat → Int64)} (X : sr_X D (tR t v) b_R_noteNextInSequence 5 R_R w_R_noteNextInSequence p s m args meth c A none) (n : Nat) : ∀ {x1 : Int32} {x2 : Int32} {x3 : Int32} {x4 : Int32} {b0 : (Nat → Int64)} {H : Heap} {locs : List Loc} {ls : Array Slot}, sr_Z D A s.heap (wR h t o v p0 b0) H locs → lv_has ls 5 [(0, .ref (o 0)), (1, .int x1), (2, .int x2), (3, .int x3), (4, .int x4)] → f_R_noteNextInSequence_7_it p0 n x1 x2 x3 x4 b0 = some b' → W p l e (sr_rm 1 20) s m args below meth c H locs 0 0 (sr_Qv D (tR t v) below args s A (wR h t o v p0 b')) (F0 m 7 ls []) := by
  induction n with
  | zero => intro x1 x2 x3 x4 b0 H locs ls Z hl hf; exact absurd hf (by simp [f_R_noteNextInSequence_7_it])
  | succ n ih =>
    intro x1 x2 x3 x4 b0 H locs ls Z hl hf
    exact k_R_noteNextInSequence_7 X (fun x1 x2 x3 x4 b0 H locs ls Z hl hf => ih Z hl hf) Z hl hf
def f_R_noteNextInSequence (p0 : St) (x1 : Int32) (x2 : Int32) (b0 : (Nat → Int64)) : Option ((Nat → Int64)) :=
  f_R_noteNextInSequence_7_it p0 60 x1 x2 (-1) (x2 + 1) b0
set_option maxHeartbeats 4000000 in
set_option maxRecDepth 100000 in
theorem k_R_noteNextInSequence_0 {p0 : St} {x1 : Int32} {x2 : Int32} {b0 : (Nat → Int64)} {b' : (Nat → Int64)} (X : sr_X D (tR t v) b_R_noteNextInSequence 5 R_R w_R_noteNextInSequence p s m args meth c A none) (Z : sr_Z D A s.heap (wR h t o v p0 b0) H locs) (hl : lv_has ls 5 [(0, .ref (o 0)), (1, .int x1), (2, .int x2)]) (hf : f_R_noteNextInSequence p0 x1 x2 b0 = some b') : W p l e (sr_rm 1 20) s m args below meth c H locs 0 0 (sr_Qv D (tR t v) below args s A (wR h t o v p0 b')) (F0 m 0 ls []) := by
  have hx := X.1
  have hb := X.2.1
  have hK := X.2.2.2.2.2.2.1
  unfold f_R_noteNextInSequence at hf
  refine lv_iconst (v := -1) hx hb d_R_noteNextInSequence_0 (by decide) ?_
  refine lv_istore_n (lv' := [(3, .int (-1)), (0, .ref (o 0)), (1, .int x1), (2, .int x2)]) hx hb d_R_noteNextInSequence_1 rfl hl (by decide) rfl (fun ls hl => ?_)
  refine lv_iload_n hx hb d_R_noteNextInSequence_2 rfl (lv_at hl 3 rfl) ?_
  refine lv_iconst (v := 1) hx hb d_R_noteNextInSequence_3 (by decide) ?_
  refine lv_iadd hx hb d_R_noteNextInSequence_4 ?_
  refine lv_istore (lv' := [(4, .int (x2 + 1)), (3, .int (-1)), (0, .ref (o 0)), (1, .int x1), (2, .int x2)]) hx hb d_R_noteNextInSequence_5 hl (by decide) rfl (fun ls hl => ?_)
  exact k_R_noteNextInSequence_7_it X _ Z (lv_sub hl [2, 3, 4, 1, 0] rfl) hf
end
set_option maxHeartbeats 4000000 in
set_option maxRecDepth 100000 in
theorem c_R_noteNextInSequence {l : Launch} {D : va_G} {h : Nat → Nat} {t : Nat → ClassId} {o : Nat → Nat} {v : Nat → ClassId} {sz : Nat} {p0 : St} {x1 : Int32} {x2 : Int32} {b0 : (Nat → Int64)} {b' : (Nat → Int64)} (hf : f_R_noteNextInSequence p0 x1 x2 b0 = some b') : sr_Cv l y_R_noteNextInSequence w_R_noteNextInSequence (sr_rm 1 20) D (tR t v) (wR h t o v p0 b0) (wR h t o v p0 b') sz [.ref (o 0), .int x1, .int x2] := by
  refine Met.ofW (cc := b_R_noteNextInSequence) (maxL := 5) (ret := none) (by decide) rfl ?_
  intro p e s m args below meth c s₁ B hml hv
  obtain ⟨rfl, hsz, hP, hK, hD0⟩ := hv
  subst hsz
  have X : sr_X D (tR t v) b_R_noteNextInSequence 5 R_R w_R_noteNextInSequence p s m _ meth c (va_A (wR h t o v p0 b0) s.heap.size) none := ⟨B.exec, B.bytes, hml, findClass_of_methodNamed B.named, B.notSynchronized, atoms_spec (ws := w_R_noteNextInSequence) B.pre, hK, fun q h => Or.inr h, B.returns⟩
  have Z : sr_Z D (va_A (wR h t o v p0 b0) s.heap.size) s.heap (wR h t o v p0 b0) s.heap [] := ⟨hP, hD0.self, va_S.rf⟩
  have hl := lv_entry ([.ref (o 0), .int x1, .int x2] : List Value) (n := 5) (Nat.le_of_ble_eq_true rfl)
  rw [lg_entry_eq]
  exact k_R_noteNextInSequence_0 X Z hl hf
