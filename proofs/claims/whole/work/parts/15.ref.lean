/-! M_kept -/
theorem d_M_kept_0 : decode b_M_kept 0 = .ok (.aload_n 0, 1) := by decide +kernel
theorem d_M_kept_1 : decode b_M_kept 1 = .ok (.iload_n 1, 1) := by decide +kernel
theorem d_M_kept_2 : decode b_M_kept 2 = .ok (.iload_n 2, 1) := by decide +kernel
theorem d_M_kept_3 : decode b_M_kept 3 = .ok (.invokevirtual 265, 3) := by decide +kernel
theorem d_M_kept_6 : decode b_M_kept 6 = .ok (.ifCond .ne 5, 3) := by decide +kernel
theorem d_M_kept_9 : decode b_M_kept 9 = .ok (.iconst (-1), 1) := by decide +kernel
theorem d_M_kept_10 : decode b_M_kept 10 = .ok (.ireturn, 1) := by decide +kernel
theorem d_M_kept_11 : decode b_M_kept 11 = .ok (.iconst 0, 1) := by decide +kernel
theorem d_M_kept_12 : decode b_M_kept 12 = .ok (.istore_n 3, 1) := by decide +kernel
theorem d_M_kept_13 : decode b_M_kept 13 = .ok (.iconst 0, 1) := by decide +kernel
theorem d_M_kept_14 : decode b_M_kept 14 = .ok (.istore 4, 2) := by decide +kernel
theorem d_M_kept_16 : decode b_M_kept 16 = .ok (.iload 4, 2) := by decide +kernel
theorem d_M_kept_18 : decode b_M_kept 18 = .ok (.aload_n 0, 1) := by decide +kernel
theorem d_M_kept_19 : decode b_M_kept 19 = .ok (.getfield 74, 3) := by decide +kernel
theorem d_M_kept_22 : decode b_M_kept 22 = .ok (.iload_n 1, 1) := by decide +kernel
theorem d_M_kept_23 : decode b_M_kept 23 = .ok (.iaload, 1) := by decide +kernel
theorem d_M_kept_24 : decode b_M_kept 24 = .ok (.if_icmp .ge 33, 3) := by decide +kernel
theorem d_M_kept_27 : decode b_M_kept 27 = .ok (.iload_n 3, 1) := by decide +kernel
theorem d_M_kept_28 : decode b_M_kept 28 = .ok (.aload_n 0, 1) := by decide +kernel
theorem d_M_kept_29 : decode b_M_kept 29 = .ok (.getfield 83, 3) := by decide +kernel
theorem d_M_kept_32 : decode b_M_kept 32 = .ok (.bipush 16, 2) := by decide +kernel
theorem d_M_kept_34 : decode b_M_kept 34 = .ok (.iload_n 1, 1) := by decide +kernel
theorem d_M_kept_35 : decode b_M_kept 35 = .ok (.imul, 1) := by decide +kernel
theorem d_M_kept_36 : decode b_M_kept 36 = .ok (.iload 4, 2) := by decide +kernel
theorem d_M_kept_38 : decode b_M_kept 38 = .ok (.iadd, 1) := by decide +kernel
theorem d_M_kept_39 : decode b_M_kept 39 = .ok (.iaload, 1) := by decide +kernel
theorem d_M_kept_40 : decode b_M_kept 40 = .ok (.iload_n 2, 1) := by decide +kernel
theorem d_M_kept_41 : decode b_M_kept 41 = .ok (.if_icmp .ne 7, 3) := by decide +kernel
theorem d_M_kept_44 : decode b_M_kept 44 = .ok (.iconst 1, 1) := by decide +kernel
theorem d_M_kept_45 : decode b_M_kept 45 = .ok (.goto 4, 3) := by decide +kernel
theorem d_M_kept_48 : decode b_M_kept 48 = .ok (.iconst 0, 1) := by decide +kernel
theorem d_M_kept_49 : decode b_M_kept 49 = .ok (.iadd, 1) := by decide +kernel
theorem d_M_kept_50 : decode b_M_kept 50 = .ok (.istore_n 3, 1) := by decide +kernel
theorem d_M_kept_51 : decode b_M_kept 51 = .ok (.iinc 4 1, 3) := by decide +kernel
theorem d_M_kept_54 : decode b_M_kept 54 = .ok (.goto (-38), 3) := by decide +kernel
theorem d_M_kept_57 : decode b_M_kept 57 = .ok (.iload_n 3, 1) := by decide +kernel
theorem d_M_kept_58 : decode b_M_kept 58 = .ok (.ireturn, 1) := by decide +kernel
section
variable {p : Program} {l : Launch} {e : Env} {s : State} {m : MethodId} {args : Array Value} {below : List Frame} {meth : Method} {c : Code} {H : Heap} {locs : List Loc} {ls : Array Slot} {D : va_G} {A : Nat → Prop} {h o : Nat → Nat} {t v : Nat → ClassId}
def f_M_kept_49 (k16 : Int32 → Int32 → Int32 → Int32 → Option (Int32)) (u0 : St) (x1 : Int32) (x2 : Int32) (x4 : Int32) (y0 : Int32) (y1 : Int32) : Option (Int32) :=
  k16 x1 x2 (y1 + y0) (x4 + 1)
set_option maxHeartbeats 4000000 in
set_option maxRecDepth 100000 in
theorem k_M_kept_49 {k16 : Int32 → Int32 → Int32 → Int32 → Option (Int32)} {u0 : St} {x1 : Int32} {x2 : Int32} {x4 : Int32} {y0 : Int32} {y1 : Int32} {r : Int32} (X : sr_X D (tM t) b_M_kept 5 R_M w_M_kept p s m args meth c A (some .int)) (hk16 : ∀ (x1 : Int32) (x2 : Int32) (x3 : Int32) (x4 : Int32) (H : Heap) (locs : List Loc) (ls : Array Slot), sr_Z D A s.heap (wM h t u0) H locs → lv_has ls 5 [(0, .ref (h 0)), (1, .int x1), (2, .int x2), (3, .int x3), (4, .int x4)] → k16 x1 x2 x3 x4 = some r → W p l e (sr_rm 2 44) s m args below meth c H locs 0 0 (sr_Qi D (tM t) below args s A (wM h t u0) r) (F0 m 16 ls [])) (Z : sr_Z D A s.heap (wM h t u0) H locs) (hl : lv_has ls 5 [(0, .ref (h 0)), (1, .int x1), (2, .int x2), (4, .int x4)]) (hf : f_M_kept_49 k16 u0 x1 x2 x4 y0 y1 = some r) : W p l e (sr_rm 2 44) s m args below meth c H locs 0 0 (sr_Qi D (tM t) below args s A (wM h t u0) r) (F0 m 49 ls [.int y0, .int y1]) := by
  have hx := X.1
  have hb := X.2.1
  have hK := X.2.2.2.2.2.2.1
  unfold f_M_kept_49 at hf
  refine lv_iadd hx hb d_M_kept_49 ?_
  refine lv_istore_n (lv' := [(3, .int (y1 + y0)), (0, .ref (h 0)), (1, .int x1), (2, .int x2), (4, .int x4)]) hx hb d_M_kept_50 rfl hl (by decide) rfl (fun ls hl => ?_)
  refine lv_iinc (k := 4) (v := x4 + 1) (lv' := [(4, .int (x4 + 1)), (3, .int (y1 + y0)), (0, .ref (h 0)), (1, .int x1), (2, .int x2)]) hx hb d_M_kept_51 hl rfl rfl (by decide) rfl (fun ls hl => ?_)
  refine lv_goto (tgt := 16) hx hb d_M_kept_54 rfl ?_
  exact hk16 x1 x2 (y1 + y0) (x4 + 1) _ _ _ Z (lv_sub hl [2, 3, 4, 1, 0] rfl) hf
def f_M_kept_16 (k16 : Int32 → Int32 → Int32 → Int32 → Option (Int32)) (u0 : St) (x1 : Int32) (x2 : Int32) (x3 : Int32) (x4 : Int32) : Option (Int32) :=
  (sr_ald 8 (u0 27) x1).bind fun v_4 =>
  if v_4 ≤ x4 then
    some x3
  else
    (sr_ald 128 (u0 30) ((16 * x1) + x4)).bind fun v_7 =>
    if v_7 = x2 then
      f_M_kept_49 k16 u0 x1 x2 x4 1 x3
    else
      f_M_kept_49 k16 u0 x1 x2 x4 0 x3
set_option maxHeartbeats 4000000 in
set_option maxRecDepth 100000 in
theorem k_M_kept_16 {k16 : Int32 → Int32 → Int32 → Int32 → Option (Int32)} {u0 : St} {x1 : Int32} {x2 : Int32} {x3 : Int32} {x4 : Int32} {r : Int32} (X : sr_X D (tM t) b_M_kept 5 R_M w_M_kept p s m args meth c A (some .int)) (hk16 : ∀ (x1 : Int32) (x2 : Int32) (x3 : Int32) (x4 : Int32) (H : Heap) (locs : List Loc) (ls : Array Slot), sr_Z D A s.heap (wM h t u0) H locs → lv_has ls 5 [(0, .ref (h 0)), (1, .int x1), (2, .int x2), (3, .int x3), (4, .int x4)] → k16 x1 x2 x3 x4 = some r → W p l e (sr_rm 2 44) s m args below meth c H locs 0 0 (sr_Qi D (tM t) below args s A (wM h t u0) r) (F0 m 16 ls [])) (Z : sr_Z D A s.heap (wM h t u0) H locs) (hl : lv_has ls 5 [(0, .ref (h 0)), (1, .int x1), (2, .int x2), (3, .int x3), (4, .int x4)]) (hf : f_M_kept_16 k16 u0 x1 x2 x3 x4 = some r) : W p l e (sr_rm 2 44) s m args below meth c H locs 0 0 (sr_Qi D (tM t) below args s A (wM h t u0) r) (F0 m 16 ls []) := by
  have hx := X.1
  have hb := X.2.1
  have hK := X.2.2.2.2.2.2.1
  unfold f_M_kept_16 at hf
  refine lv_iload hx hb d_M_kept_16 (lv_at hl 4 rfl) ?_
  refine lv_aload_n hx hb d_M_kept_18 rfl (lv_at hl 0 rfl) ?_
  refine g_M_74_M X Z d_M_kept_19 ?_
  refine lv_iload_n hx hb d_M_kept_22 rfl (lv_at hl 1 rfl) ?_
  obtain ⟨v_4, e_5, hf⟩ := sr_b hf
  refine sr_iald hx hb hK Z 22 21 rfl rfl e_5 d_M_kept_23 ?_
  refine lv_icmp_ge (tgt := 57) hx hb d_M_kept_24 rfl (fun q_6 => ?_) (fun q_6 => ?_)
  · have hf := sr_it q_6 hf
    refine lv_iload_n hx hb d_M_kept_57 rfl (lv_at hl 3 rfl) ?_
    cases hf
    exact sr_reti X Z d_M_kept_58
  · have hf := sr_if q_6 hf
    refine lv_iload_n hx hb d_M_kept_27 rfl (lv_at hl 3 rfl) ?_
    refine lv_aload_n hx hb d_M_kept_28 rfl (lv_at hl 0 rfl) ?_
    refine g_M_83_M X Z d_M_kept_29 ?_
    refine lv_bipush (v := 16) hx hb d_M_kept_32 (by decide) ?_
    refine lv_iload_n hx hb d_M_kept_34 rfl (lv_at hl 1 rfl) ?_
    refine lv_imul hx hb d_M_kept_35 ?_
    refine lv_iload hx hb d_M_kept_36 (lv_at hl 4 rfl) ?_
    refine lv_iadd hx hb d_M_kept_38 ?_
    obtain ⟨v_7, e_8, hf⟩ := sr_b hf
    refine sr_iald hx hb hK Z 25 24 rfl rfl e_8 d_M_kept_39 ?_
    refine lv_iload_n hx hb d_M_kept_40 rfl (lv_at hl 2 rfl) ?_
    refine lv_icmp_ne (tgt := 48) hx hb d_M_kept_41 rfl (fun q_9 => ?_) (fun q_9 => ?_)
    · have hf := sr_if q_9 hf
      refine lv_iconst (v := 0) hx hb d_M_kept_48 (by decide) ?_
      exact k_M_kept_49 X hk16 Z (lv_sub hl [0, 1, 2, 4] rfl) hf
    · have hf := sr_it q_9 hf
      refine lv_iconst (v := 1) hx hb d_M_kept_44 (by decide) ?_
      refine lv_goto (tgt := 49) hx hb d_M_kept_45 rfl ?_
      exact k_M_kept_49 X hk16 Z (lv_sub hl [0, 1, 2, 4] rfl) hf
def f_M_kept_16_it (u0 : St) : Nat → Int32 → Int32 → Int32 → Int32 → Option (Int32)
  | 0 => fun _ _ _ _ => none
  | n + 1 => fun x1 x2 x3 x4 => f_M_kept_16 (f_M_kept_16_it u0 n) u0 x1 x2 x3 x4
set_option maxHeartbeats 4000000 in
set_option maxRecDepth 100000 in
theorem k_M_kept_16_it {u0 : St} {r : Int32} (X : sr_X D (tM t) b_M_kept 5 R_M w_M_kept p s m args meth c A (some .int)) (n : Nat) : ∀ {x1 : Int32} {x2 : Int32} {x3 : Int32} {x4 : Int32} {H : Heap} {locs : List Loc} {ls : Array Slot}, sr_Z D A s.heap (wM h t u0) H locs → lv_has ls 5 [(0, .ref (h 0)), (1, .int x1), (2, .int x2), (3, .int x3), (4, .int x4)] → f_M_kept_16_it u0 n x1 x2 x3 x4 = some r → W p l e (sr_rm 2 44) s m args below meth c H locs 0 0 (sr_Qi D (tM t) below args s A (wM h t u0) r) (F0 m 16 ls []) := by
  induction n with
  | zero => intro x1 x2 x3 x4 H locs ls Z hl hf; exact absurd hf (by simp [f_M_kept_16_it])
  | succ n ih =>
    intro x1 x2 x3 x4 H locs ls Z hl hf
    exact k_M_kept_16 X (fun x1 x2 x3 x4 H locs ls Z hl hf => ih Z hl hf) Z hl hf
def f_M_kept (u0 : St) (x1 : Int32) (x2 : Int32) : Option (Int32) :=
  (f_M_isScope u0 x1 x2).bind fun v_1 =>
  if v_1 = 0 then
    some (-1)
  else
    f_M_kept_16_it u0 60 x1 x2 0 0
set_option maxHeartbeats 4000000 in
set_option maxRecDepth 100000 in
theorem k_M_kept_0 {u0 : St} {x1 : Int32} {x2 : Int32} {r : Int32} (X : sr_X D (tM t) b_M_kept 5 R_M w_M_kept p s m args meth c A (some .int)) (Z : sr_Z D A s.heap (wM h t u0) H locs) (hl : lv_has ls 5 [(0, .ref (h 0)), (1, .int x1), (2, .int x2)]) (hf : f_M_kept u0 x1 x2 = some r) : W p l e (sr_rm 2 44) s m args below meth c H locs 0 0 (sr_Qi D (tM t) below args s A (wM h t u0) r) (F0 m 0 ls []) := by
  have hx := X.1
  have hb := X.2.1
  have hK := X.2.2.2.2.2.2.1
  unfold f_M_kept at hf
  refine lv_aload_n hx hb d_M_kept_0 rfl (lv_at hl 0 rfl) ?_
  refine lv_iload_n hx hb d_M_kept_1 rfl (lv_at hl 1 rfl) ?_
  refine lv_iload_n hx hb d_M_kept_2 rfl (lv_at hl 2 rfl) ?_
  obtain ⟨v_1, e_2, hf⟩ := sr_b hf
  refine sr_cVi (As := [.int x1, .int x2]) (rest := []) X Z sr_cut_self hK (c_M_isScope e_2) (cw_M_265 X.2.2.2.2.2.1 (by decide)) 0 rfl rfl rfl hl rfl (Nat.le_of_ble_eq_true rfl) d_M_kept_3 (fun H locs Z => ?_)
  refine lv_if_ne (tgt := 11) hx hb d_M_kept_6 rfl (fun q_3 => ?_) (fun q_3 => ?_)
  · have hf := sr_if q_3 hf
    refine lv_iconst (v := 0) hx hb d_M_kept_11 (by decide) ?_
    refine lv_istore_n (lv' := [(3, .int 0), (0, .ref (h 0)), (1, .int x1), (2, .int x2)]) hx hb d_M_kept_12 rfl hl (by decide) rfl (fun ls hl => ?_)
    refine lv_iconst (v := 0) hx hb d_M_kept_13 (by decide) ?_
    refine lv_istore (lv' := [(4, .int 0), (3, .int 0), (0, .ref (h 0)), (1, .int x1), (2, .int x2)]) hx hb d_M_kept_14 hl (by decide) rfl (fun ls hl => ?_)
    exact k_M_kept_16_it X _ Z (lv_sub hl [2, 3, 4, 1, 0] rfl) hf
  · have hf := sr_it q_3 hf
    refine lv_iconst (v := -1) hx hb d_M_kept_9 (by decide) ?_
    cases hf
    exact sr_reti X Z d_M_kept_10
end
set_option maxHeartbeats 4000000 in
set_option maxRecDepth 100000 in
theorem c_M_kept {l : Launch} {D : va_G} {h : Nat → Nat} {t : Nat → ClassId} {sz : Nat} {u0 : St} {x1 : Int32} {x2 : Int32} {r : Int32} (hf : f_M_kept u0 x1 x2 = some r) : sr_Ci l y_M_kept w_M_kept (sr_rm 2 44) D (tM t) (wM h t u0) (wM h t u0) sz [.ref (h 0), .int x1, .int x2] r := by
  refine Met.ofW (cc := b_M_kept) (maxL := 5) (ret := (some .int)) (by decide) rfl ?_
  intro p e s m args below meth c s₁ B hml hv
  obtain ⟨rfl, hsz, hP, hK, hD0⟩ := hv
  subst hsz
  have X : sr_X D (tM t) b_M_kept 5 R_M w_M_kept p s m _ meth c (va_A (wM h t u0) s.heap.size) (some .int) := ⟨B.exec, B.bytes, hml, findClass_of_methodNamed B.named, B.notSynchronized, atoms_spec (ws := w_M_kept) B.pre, hK, fun q h => Or.inr h, B.returns⟩
  have Z : sr_Z D (va_A (wM h t u0) s.heap.size) s.heap (wM h t u0) s.heap [] := ⟨hP, hD0.self, va_S.rf⟩
  have hl := lv_entry ([.ref (h 0), .int x1, .int x2] : List Value) (n := 5) (Nat.le_of_ble_eq_true rfl)
  rw [lg_entry_eq]
  exact k_M_kept_0 X Z hl hf
/-! M_events -/
theorem d_M_events_0 : decode b_M_events 0 = .ok (.iload_n 1, 1) := by decide +kernel
theorem d_M_events_1 : decode b_M_events 1 = .ok (.iconst 0, 1) := by decide +kernel
theorem d_M_events_2 : decode b_M_events 2 = .ok (.aload_n 0, 1) := by decide +kernel
theorem d_M_events_3 : decode b_M_events 3 = .ok (.getfield 255, 3) := by decide +kernel
theorem d_M_events_6 : decode b_M_events 6 = .ok (.iconst 1, 1) := by decide +kernel
theorem d_M_events_7 : decode b_M_events 7 = .ok (.isub, 1) := by decide +kernel
theorem d_M_events_8 : decode b_M_events 8 = .ok (.invokestatic 92, 3) := by decide +kernel
theorem d_M_events_11 : decode b_M_events 11 = .ok (.ifCond .eq 12, 3) := by decide +kernel
theorem d_M_events_14 : decode b_M_events 14 = .ok (.aload_n 0, 1) := by decide +kernel
theorem d_M_events_15 : decode b_M_events 15 = .ok (.getfield 89, 3) := by decide +kernel
theorem d_M_events_18 : decode b_M_events 18 = .ok (.iload_n 1, 1) := by decide +kernel
theorem d_M_events_19 : decode b_M_events 19 = .ok (.iaload, 1) := by decide +kernel
theorem d_M_events_20 : decode b_M_events 20 = .ok (.goto 4, 3) := by decide +kernel
theorem d_M_events_23 : decode b_M_events 23 = .ok (.iconst (-1), 1) := by decide +kernel
theorem d_M_events_24 : decode b_M_events 24 = .ok (.ireturn, 1) := by decide +kernel
section
variable {p : Program} {l : Launch} {e : Env} {s : State} {m : MethodId} {args : Array Value} {below : List Frame} {meth : Method} {c : Code} {H : Heap} {locs : List Loc} {ls : Array Slot} {D : va_G} {A : Nat → Prop} {h o : Nat → Nat} {t v : Nat → ClassId}
def f_M_events (u0 : St) (x1 : Int32) : Option (Int32) :=
  (f_M_in x1 0 ((u0 16 0) - 1)).bind fun v_1 =>
  if v_1 = 0 then
    some (-1)
  else
    (sr_ald 8 (u0 32) x1).bind fun v_4 =>
    some v_4
set_option maxHeartbeats 4000000 in
set_option maxRecDepth 100000 in
theorem k_M_events_0 {u0 : St} {x1 : Int32} {r : Int32} (X : sr_X D (tM t) b_M_events 2 R_M w_M_events p s m args meth c A (some .int)) (Z : sr_Z D A s.heap (wM h t u0) H locs) (hl : lv_has ls 2 [(0, .ref (h 0)), (1, .int x1)]) (hf : f_M_events u0 x1 = some r) : W p l e (sr_rm 1 22) s m args below meth c H locs 0 0 (sr_Qi D (tM t) below args s A (wM h t u0) r) (F0 m 0 ls []) := by
  have hx := X.1
  have hb := X.2.1
  have hK := X.2.2.2.2.2.2.1
  unfold f_M_events at hf
  refine lv_iload_n hx hb d_M_events_0 rfl (lv_at hl 1 rfl) ?_
  refine lv_iconst (v := 0) hx hb d_M_events_1 (by decide) ?_
  refine lv_aload_n hx hb d_M_events_2 rfl (lv_at hl 0 rfl) ?_
  refine g_M_255_M X Z d_M_events_3 ?_
  refine lv_iconst (v := 1) hx hb d_M_events_6 (by decide) ?_
  refine lv_isub hx hb d_M_events_7 ?_
  obtain ⟨v_1, e_2, hf⟩ := sr_b hf
  refine sr_cSi (As := [.int x1, .int 0, .int ((u0 16 0) - 1)]) (rest := []) X Z sr_cut_0 (va_K.sub hK [] rfl) (c_M_in e_2) (cw_M_92 X.2.2.2.2.2.1 (by decide)) rfl hl rfl (Nat.le_of_ble_eq_true rfl) d_M_events_8 (fun H locs Z => ?_)
  refine lv_if_eq (tgt := 23) hx hb d_M_events_11 rfl (fun q_3 => ?_) (fun q_3 => ?_)
  · have hf := sr_it q_3 hf
    refine lv_iconst (v := -1) hx hb d_M_events_23 (by decide) ?_
    cases hf
    exact sr_reti X Z d_M_events_24
  · have hf := sr_if q_3 hf
    refine lv_aload_n hx hb d_M_events_14 rfl (lv_at hl 0 rfl) ?_
    refine g_M_89_M X Z d_M_events_15 ?_
    refine lv_iload_n hx hb d_M_events_18 rfl (lv_at hl 1 rfl) ?_
    obtain ⟨v_4, e_5, hf⟩ := sr_b hf
    refine sr_iald hx hb hK Z 27 26 rfl rfl e_5 d_M_events_19 ?_
    refine lv_goto (tgt := 24) hx hb d_M_events_20 rfl ?_
    cases hf
    exact sr_reti X Z d_M_events_24
end
set_option maxHeartbeats 4000000 in
set_option maxRecDepth 100000 in
theorem c_M_events {l : Launch} {D : va_G} {h : Nat → Nat} {t : Nat → ClassId} {sz : Nat} {u0 : St} {x1 : Int32} {r : Int32} (hf : f_M_events u0 x1 = some r) : sr_Ci l y_M_events w_M_events (sr_rm 1 22) D (tM t) (wM h t u0) (wM h t u0) sz [.ref (h 0), .int x1] r := by
  refine Met.ofW (cc := b_M_events) (maxL := 2) (ret := (some .int)) (by decide) rfl ?_
  intro p e s m args below meth c s₁ B hml hv
  obtain ⟨rfl, hsz, hP, hK, hD0⟩ := hv
  subst hsz
  have X : sr_X D (tM t) b_M_events 2 R_M w_M_events p s m _ meth c (va_A (wM h t u0) s.heap.size) (some .int) := ⟨B.exec, B.bytes, hml, findClass_of_methodNamed B.named, B.notSynchronized, atoms_spec (ws := w_M_events) B.pre, hK, fun q h => Or.inr h, B.returns⟩
  have Z : sr_Z D (va_A (wM h t u0) s.heap.size) s.heap (wM h t u0) s.heap [] := ⟨hP, hD0.self, va_S.rf⟩
  have hl := lv_entry ([.ref (h 0), .int x1] : List Value) (n := 2) (Nat.le_of_ble_eq_true rfl)
  rw [lg_entry_eq]
  exact k_M_events_0 X Z hl hf
/-! M_event -/
theorem d_M_event_0 : decode b_M_event 0 = .ok (.iload_n 1, 1) := by decide +kernel
theorem d_M_event_1 : decode b_M_event 1 = .ok (.iconst 0, 1) := by decide +kernel
theorem d_M_event_2 : decode b_M_event 2 = .ok (.aload_n 0, 1) := by decide +kernel
theorem d_M_event_3 : decode b_M_event 3 = .ok (.getfield 255, 3) := by decide +kernel
theorem d_M_event_6 : decode b_M_event 6 = .ok (.iconst 1, 1) := by decide +kernel
theorem d_M_event_7 : decode b_M_event 7 = .ok (.isub, 1) := by decide +kernel
theorem d_M_event_8 : decode b_M_event 8 = .ok (.invokestatic 92, 3) := by decide +kernel
theorem d_M_event_11 : decode b_M_event 11 = .ok (.ifCond .eq 23, 3) := by decide +kernel
theorem d_M_event_14 : decode b_M_event 14 = .ok (.iload_n 2, 1) := by decide +kernel
theorem d_M_event_15 : decode b_M_event 15 = .ok (.iconst 0, 1) := by decide +kernel
theorem d_M_event_16 : decode b_M_event 16 = .ok (.bipush 31, 2) := by decide +kernel
theorem d_M_event_18 : decode b_M_event 18 = .ok (.invokestatic 92, 3) := by decide +kernel
theorem d_M_event_21 : decode b_M_event 21 = .ok (.ifCond .eq 13, 3) := by decide +kernel
theorem d_M_event_24 : decode b_M_event 24 = .ok (.iload_n 2, 1) := by decide +kernel
theorem d_M_event_25 : decode b_M_event 25 = .ok (.aload_n 0, 1) := by decide +kernel
theorem d_M_event_26 : decode b_M_event 26 = .ok (.getfield 89, 3) := by decide +kernel
theorem d_M_event_29 : decode b_M_event 29 = .ok (.iload_n 1, 1) := by decide +kernel
theorem d_M_event_30 : decode b_M_event 30 = .ok (.iaload, 1) := by decide +kernel
theorem d_M_event_31 : decode b_M_event 31 = .ok (.if_icmp .lt 5, 3) := by decide +kernel
theorem d_M_event_34 : decode b_M_event 34 = .ok (.iconst (-1), 1) := by decide +kernel
theorem d_M_event_35 : decode b_M_event 35 = .ok (.ireturn, 1) := by decide +kernel
theorem d_M_event_36 : decode b_M_event 36 = .ok (.aload_n 0, 1) := by decide +kernel
theorem d_M_event_37 : decode b_M_event 37 = .ok (.getfield 86, 3) := by decide +kernel
theorem d_M_event_40 : decode b_M_event 40 = .ok (.bipush 32, 2) := by decide +kernel
theorem d_M_event_42 : decode b_M_event 42 = .ok (.iload_n 1, 1) := by decide +kernel
theorem d_M_event_43 : decode b_M_event 43 = .ok (.imul, 1) := by decide +kernel
theorem d_M_event_44 : decode b_M_event 44 = .ok (.aload_n 0, 1) := by decide +kernel
theorem d_M_event_45 : decode b_M_event 45 = .ok (.getfield 89, 3) := by decide +kernel
theorem d_M_event_48 : decode b_M_event 48 = .ok (.iload_n 1, 1) := by decide +kernel
theorem d_M_event_49 : decode b_M_event 49 = .ok (.iaload, 1) := by decide +kernel
theorem d_M_event_50 : decode b_M_event 50 = .ok (.iconst 1, 1) := by decide +kernel
theorem d_M_event_51 : decode b_M_event 51 = .ok (.isub, 1) := by decide +kernel
theorem d_M_event_52 : decode b_M_event 52 = .ok (.iload_n 2, 1) := by decide +kernel
theorem d_M_event_53 : decode b_M_event 53 = .ok (.isub, 1) := by decide +kernel
theorem d_M_event_54 : decode b_M_event 54 = .ok (.bipush 32, 2) := by decide +kernel
theorem d_M_event_56 : decode b_M_event 56 = .ok (.irem, 1) := by decide +kernel
theorem d_M_event_57 : decode b_M_event 57 = .ok (.iadd, 1) := by decide +kernel
theorem d_M_event_58 : decode b_M_event 58 = .ok (.iaload, 1) := by decide +kernel
theorem d_M_event_59 : decode b_M_event 59 = .ok (.ireturn, 1) := by decide +kernel
section
variable {p : Program} {l : Launch} {e : Env} {s : State} {m : MethodId} {args : Array Value} {below : List Frame} {meth : Method} {c : Code} {H : Heap} {locs : List Loc} {ls : Array Slot} {D : va_G} {A : Nat → Prop} {h o : Nat → Nat} {t v : Nat → ClassId}
def f_M_event (u0 : St) (x1 : Int32) (x2 : Int32) : Option (Int32) :=
  (f_M_in x1 0 ((u0 16 0) - 1)).bind fun v_1 =>
  if v_1 = 0 then
    some (-1)
  else
    (f_M_in x2 0 31).bind fun v_4 =>
    if v_4 = 0 then
      some (-1)
    else
      (sr_ald 8 (u0 32) x1).bind fun v_7 =>
      if x2 < v_7 then
        (sr_ald 8 (u0 32) x1).bind fun v_10 =>
        (sr_ald 256 (u0 31) ((32 * x1) + (((v_10 - 1) - x2) - ((v_10 - 1) - x2) / 32 * 32))).bind fun v_12 =>
        some v_12
      else
        some (-1)
set_option maxHeartbeats 4000000 in
set_option maxRecDepth 100000 in
theorem k_M_event_0 {u0 : St} {x1 : Int32} {x2 : Int32} {r : Int32} (X : sr_X D (tM t) b_M_event 3 R_M w_M_event p s m args meth c A (some .int)) (Z : sr_Z D A s.heap (wM h t u0) H locs) (hl : lv_has ls 3 [(0, .ref (h 0)), (1, .int x1), (2, .int x2)]) (hf : f_M_event u0 x1 x2 = some r) : W p l e (sr_rm 1 22) s m args below meth c H locs 0 0 (sr_Qi D (tM t) below args s A (wM h t u0) r) (F0 m 0 ls []) := by
  have hx := X.1
  have hb := X.2.1
  have hK := X.2.2.2.2.2.2.1
  unfold f_M_event at hf
  refine lv_iload_n hx hb d_M_event_0 rfl (lv_at hl 1 rfl) ?_
  refine lv_iconst (v := 0) hx hb d_M_event_1 (by decide) ?_
  refine lv_aload_n hx hb d_M_event_2 rfl (lv_at hl 0 rfl) ?_
  refine g_M_255_M X Z d_M_event_3 ?_
  refine lv_iconst (v := 1) hx hb d_M_event_6 (by decide) ?_
  refine lv_isub hx hb d_M_event_7 ?_
  obtain ⟨v_1, e_2, hf⟩ := sr_b hf
  refine sr_cSi (As := [.int x1, .int 0, .int ((u0 16 0) - 1)]) (rest := []) X Z sr_cut_0 (va_K.sub hK [] rfl) (c_M_in e_2) (cw_M_92 X.2.2.2.2.2.1 (by decide)) rfl hl rfl (Nat.le_of_ble_eq_true rfl) d_M_event_8 (fun H locs Z => ?_)
  refine lv_if_eq (tgt := 34) hx hb d_M_event_11 rfl (fun q_3 => ?_) (fun q_3 => ?_)
  · have hf := sr_it q_3 hf
    refine lv_iconst (v := -1) hx hb d_M_event_34 (by decide) ?_
    cases hf
    exact sr_reti X Z d_M_event_35
  · have hf := sr_if q_3 hf
    refine lv_iload_n hx hb d_M_event_14 rfl (lv_at hl 2 rfl) ?_
    refine lv_iconst (v := 0) hx hb d_M_event_15 (by decide) ?_
    refine lv_bipush (v := 31) hx hb d_M_event_16 (by decide) ?_
    obtain ⟨v_4, e_5, hf⟩ := sr_b hf
    refine sr_cSi (As := [.int x2, .int 0, .int 31]) (rest := []) X Z sr_cut_0 (va_K.sub hK [] rfl) (c_M_in e_5) (cw_M_92 X.2.2.2.2.2.1 (by decide)) rfl hl rfl (Nat.le_of_ble_eq_true rfl) d_M_event_18 (fun H locs Z => ?_)
    refine lv_if_eq (tgt := 34) hx hb d_M_event_21 rfl (fun q_6 => ?_) (fun q_6 => ?_)
    · have hf := sr_it q_6 hf
      refine lv_iconst (v := -1) hx hb d_M_event_34 (by decide) ?_
      cases hf
      exact sr_reti X Z d_M_event_35
    · have hf := sr_if q_6 hf
      refine lv_iload_n hx hb d_M_event_24 rfl (lv_at hl 2 rfl) ?_
      refine lv_aload_n hx hb d_M_event_25 rfl (lv_at hl 0 rfl) ?_
      refine g_M_89_M X Z d_M_event_26 ?_
      refine lv_iload_n hx hb d_M_event_29 rfl (lv_at hl 1 rfl) ?_
      obtain ⟨v_7, e_8, hf⟩ := sr_b hf
      refine sr_iald hx hb hK Z 27 26 rfl rfl e_8 d_M_event_30 ?_
      refine lv_icmp_lt (tgt := 36) hx hb d_M_event_31 rfl (fun q_9 => ?_) (fun q_9 => ?_)
      · have hf := sr_it q_9 hf
        refine lv_aload_n hx hb d_M_event_36 rfl (lv_at hl 0 rfl) ?_
        refine g_M_86_M X Z d_M_event_37 ?_
        refine lv_bipush (v := 32) hx hb d_M_event_40 (by decide) ?_
        refine lv_iload_n hx hb d_M_event_42 rfl (lv_at hl 1 rfl) ?_
        refine lv_imul hx hb d_M_event_43 ?_
        refine lv_aload_n hx hb d_M_event_44 rfl (lv_at hl 0 rfl) ?_
        refine g_M_89_M X Z d_M_event_45 ?_
        refine lv_iload_n hx hb d_M_event_48 rfl (lv_at hl 1 rfl) ?_
        obtain ⟨v_10, e_11, hf⟩ := sr_b hf
        refine sr_iald hx hb hK Z 27 26 rfl rfl e_11 d_M_event_49 ?_
        refine lv_iconst (v := 1) hx hb d_M_event_50 (by decide) ?_
        refine lv_isub hx hb d_M_event_51 ?_
        refine lv_iload_n hx hb d_M_event_52 rfl (lv_at hl 2 rfl) ?_
        refine lv_isub hx hb d_M_event_53 ?_
        refine lv_bipush (v := 32) hx hb d_M_event_54 (by decide) ?_
        refine lv_irem hx hb d_M_event_56 (by decide) ?_
        refine lv_iadd hx hb d_M_event_57 ?_
        obtain ⟨v_12, e_13, hf⟩ := sr_b hf
        refine sr_iald hx hb hK Z 26 25 rfl rfl e_13 d_M_event_58 ?_
        cases hf
        exact sr_reti X Z d_M_event_59
      · have hf := sr_if q_9 hf
        refine lv_iconst (v := -1) hx hb d_M_event_34 (by decide) ?_
        cases hf
        exact sr_reti X Z d_M_event_35
end
set_option maxHeartbeats 4000000 in
set_option maxRecDepth 100000 in
theorem c_M_event {l : Launch} {D : va_G} {h : Nat → Nat} {t : Nat → ClassId} {sz : Nat} {u0 : St} {x1 : Int32} {x2 : Int32} {r : Int32} (hf : f_M_event u0 x1 x2 = some r) : sr_Ci l y_M_event w_M_event (sr_rm 1 22) D (tM t) (wM h t u0) (wM h t u0) sz [.ref (h 0), .int x1, .int x2] r := by
  refine Met.ofW (cc := b_M_event) (maxL := 3) (ret := (some .int)) (by decide) rfl ?_
  intro p e s m args below meth c s₁ B hml hv
  obtain ⟨rfl, hsz, hP, hK, hD0⟩ := hv
  subst hsz
  have X : sr_X D (tM t) b_M_event 3 R_M w_M_event p s m _ meth c (va_A (wM h t u0) s.heap.size) (some .int) := ⟨B.exec, B.bytes, hml, findClass_of_methodNamed B.named, B.notSynchronized, atoms_spec (ws := w_M_event) B.pre, hK, fun q h => Or.inr h, B.returns⟩
  have Z : sr_Z D (va_A (wM h t u0) s.heap.size) s.heap (wM h t u0) s.heap [] := ⟨hP, hD0.self, va_S.rf⟩
  have hl := lv_entry ([.ref (h 0), .int x1, .int x2] : List Value) (n := 3) (Nat.le_of_ble_eq_true rfl)
  rw [lg_entry_eq]
  exact k_M_event_0 X Z hl hf
/-! M_next -/
theorem d_M_next_0 : decode b_M_next 0 = .ok (.iload_n 1, 1) := by decide +kernel
theorem d_M_next_1 : decode b_M_next 1 = .ok (.iconst 0, 1) := by decide +kernel
theorem d_M_next_2 : decode b_M_next 2 = .ok (.aload_n 0, 1) := by decide +kernel
theorem d_M_next_3 : decode b_M_next 3 = .ok (.getfield 255, 3) := by decide +kernel
theorem d_M_next_6 : decode b_M_next 6 = .ok (.iconst 1, 1) := by decide +kernel
theorem d_M_next_7 : decode b_M_next 7 = .ok (.isub, 1) := by decide +kernel
theorem d_M_next_8 : decode b_M_next 8 = .ok (.invokestatic 92, 3) := by decide +kernel
theorem d_M_next_11 : decode b_M_next 11 = .ok (.ifCond .eq 12, 3) := by decide +kernel
theorem d_M_next_14 : decode b_M_next 14 = .ok (.aload_n 0, 1) := by decide +kernel
theorem d_M_next_15 : decode b_M_next 15 = .ok (.getfield 43, 3) := by decide +kernel
theorem d_M_next_18 : decode b_M_next 18 = .ok (.iload_n 1, 1) := by decide +kernel
theorem d_M_next_19 : decode b_M_next 19 = .ok (.iaload, 1) := by decide +kernel
theorem d_M_next_20 : decode b_M_next 20 = .ok (.ifCond .eq 5, 3) := by decide +kernel
theorem d_M_next_23 : decode b_M_next 23 = .ok (.iconst (-1), 1) := by decide +kernel
theorem d_M_next_24 : decode b_M_next 24 = .ok (.ireturn, 1) := by decide +kernel
theorem d_M_next_25 : decode b_M_next 25 = .ok (.aload_n 0, 1) := by decide +kernel
theorem d_M_next_26 : decode b_M_next 26 = .ok (.iload_n 1, 1) := by decide +kernel
theorem d_M_next_27 : decode b_M_next 27 = .ok (.putfield 168, 3) := by decide +kernel
theorem d_M_next_30 : decode b_M_next 30 = .ok (.aload_n 0, 1) := by decide +kernel
theorem d_M_next_31 : decode b_M_next 31 = .ok (.invokevirtual 258, 3) := by decide +kernel
theorem d_M_next_34 : decode b_M_next 34 = .ok (.ireturn, 1) := by decide +kernel
section
variable {p : Program} {l : Launch} {e : Env} {s : State} {m : MethodId} {args : Array Value} {below : List Frame} {meth : Method} {c : Code} {H : Heap} {locs : List Loc} {ls : Array Slot} {D : va_G} {A : Nat → Prop} {h o : Nat → Nat} {t v : Nat → ClassId}
def f_M_next (x1 : Int32) (u0 : St) : Option (Int32 × St) :=
  (f_M_in x1 0 ((u0 16 0) - 1)).bind fun v_1 =>
  if v_1 = 0 then
    some (-1, u0)
  else
    (sr_ald 8 (u0 17) x1).bind fun v_4 =>
    if v_4 = 0 then
      (sr_pf u0 33 x1).bind fun u_7 =>
      (f_M_stepper u_7).bind fun v_9 =>
      some (v_9, u_7)
    else
      some (-1, u0)
set_option maxHeartbeats 4000000 in
set_option maxRecDepth 100000 in
theorem k_M_next_0 {x1 : Int32} {u0 : St} {r : Int32} {u' : St} (X : sr_X D (tM t) b_M_next 2 R_M w_M_next p s m args meth c A (some .int)) (Z : sr_Z D A s.heap (wM h t u0) H locs) (hl : lv_has ls 2 [(0, .ref (h 0)), (1, .int x1)]) (hf : f_M_next x1 u0 = some (r, u')) : W p l e (sr_rm 3 64) s m args below meth c H locs 0 0 (sr_Qi D (tM t) below args s A (wM h t u') r) (F0 m 0 ls []) := by
  have hx := X.1
  have hb := X.2.1
  have hK := X.2.2.2.2.2.2.1
  unfold f_M_next at hf
  refine lv_iload_n hx hb d_M_next_0 rfl (lv_at hl 1 rfl) ?_
  refine lv_iconst (v := 0) hx hb d_M_next_1 (by decide) ?_
  refine lv_aload_n hx hb d_M_next_2 rfl (lv_at hl 0 rfl) ?_
  refine g_M_255_M X Z d_M_next_3 ?_
  refine lv_iconst (v := 1) hx hb d_M_next_6 (by decide) ?_
  refine lv_isub hx hb d_M_next_7 ?_
  obtain ⟨v_1, e_2, hf⟩ := sr_b hf
  refine sr_cSi (As := [.int x1, .int 0, .int ((u0 16 0) - 1)]) (rest := []) X Z sr_cut_0 (va_K.sub hK [] rfl) (c_M_in e_2) (cw_M_92 X.2.2.2.2.2.1 (by decide)) rfl hl rfl (Nat.le_of_ble_eq_true rfl) d_M_next_8 (fun H locs Z => ?_)
  refine lv_if_eq (tgt := 23) hx hb d_M_next_11 rfl (fun q_3 => ?_) (fun q_3 => ?_)
  · have hf := sr_it q_3 hf
    refine lv_iconst (v := -1) hx hb d_M_next_23 (by decide) ?_
    cases hf
    exact sr_reti X Z d_M_next_24
  · have hf := sr_if q_3 hf
    refine lv_aload_n hx hb d_M_next_14 rfl (lv_at hl 0 rfl) ?_
    refine g_M_43_M X Z d_M_next_15 ?_
    refine lv_iload_n hx hb d_M_next_18 rfl (lv_at hl 1 rfl) ?_
    obtain ⟨v_4, e_5, hf⟩ := sr_b hf
    refine sr_iald hx hb hK Z 12 11 rfl rfl e_5 d_M_next_19 ?_
    refine lv_if_eq (tgt := 25) hx hb d_M_next_20 rfl (fun q_6 => ?_) (fun q_6 => ?_)
    · have hf := sr_it q_6 hf
      refine lv_aload_n hx hb d_M_next_25 rfl (lv_at hl 0 rfl) ?_
      refine lv_iload_n hx hb d_M_next_26 rfl (lv_at hl 1 rfl) ?_
      obtain ⟨u_7, e_8, hf⟩ := sr_b hf
      refine s_M_168_M X Z e_8 d_M_next_27 (fun H locs Z => ?_)
      refine lv_aload_n hx hb d_M_next_30 rfl (lv_at hl 0 rfl) ?_
      obtain ⟨v_9, e_10, hf⟩ := sr_b hf
      refine sr_cVi (As := []) (rest := []) X Z sr_cut_self hK (c_M_stepper e_10) (cw_M_258 X.2.2.2.2.2.1 (by decide)) 0 rfl rfl rfl hl rfl (Nat.le_of_ble_eq_true rfl) d_M_next_31 (fun H locs Z => ?_)
      cases hf
      exact sr_reti X Z d_M_next_34
    · have hf := sr_if q_6 hf
      refine lv_iconst (v := -1) hx hb d_M_next_23 (by decide) ?_
      cases hf
      exact sr_reti X Z d_M_next_24
end
set_option maxHeartbeats 4000000 in
set_option maxRecDepth 100000 in
theorem c_M_next {l : Launch} {D : va_G} {h : Nat → Nat} {t : Nat → ClassId} {sz : Nat} {x1 : Int32} {u0 : St} {r : Int32} {u' : St} (hf : f_M_next x1 u0 = some (r, u')) : sr_Ci l y_M_next w_M_next (sr_rm 3 64) D (tM t) (wM h t u0) (wM h t u') sz [.ref (h 0), .int x1] r := by
  refine Met.ofW (cc := b_M_next) (maxL := 2) (ret := (some .int)) (by decide) rfl ?_
  intro p e s m args below meth c s₁ B hml hv
  obtain ⟨rfl, hsz, hP, hK, hD0⟩ := hv
  subst hsz
  have X : sr_X D (tM t) b_M_next 2 R_M w_M_next p s m _ meth c (va_A (wM h t u0) s.heap.size) (some .int) := ⟨B.exec, B.bytes, hml, findClass_of_methodNamed B.named, B.notSynchronized, atoms_spec (ws := w_M_next) B.pre, hK, fun q h => Or.inr h, B.returns⟩
  have Z : sr_Z D (va_A (wM h t u0) s.heap.size) s.heap (wM h t u0) s.heap [] := ⟨hP, hD0.self, va_S.rf⟩
  have hl := lv_entry ([.ref (h 0), .int x1] : List Value) (n := 2) (Nat.le_of_ble_eq_true rfl)
  rw [lg_entry_eq]
  exact k_M_next_0 X Z hl hf
