/-! S_add -/
theorem d_S_add_0 : decode b_S_add 0 = .ok (.aload_n 0, 1) := by decide +kernel
theorem d_S_add_1 : decode b_S_add 1 = .ok (.getfield 31, 3) := by decide +kernel
theorem d_S_add_4 : decode b_S_add 4 = .ok (.ifCond .ne 27, 3) := by decide +kernel
theorem d_S_add_7 : decode b_S_add 7 = .ok (.iload_n 3, 1) := by decide +kernel
theorem d_S_add_8 : decode b_S_add 8 = .ok (.iload 4, 2) := by decide +kernel
theorem d_S_add_10 : decode b_S_add 10 = .ok (.iload 5, 2) := by decide +kernel
theorem d_S_add_12 : decode b_S_add 12 = .ok (.invokestatic 35, 3) := by decide +kernel
theorem d_S_add_15 : decode b_S_add 15 = .ok (.ifCond .eq 16, 3) := by decide +kernel
theorem d_S_add_18 : decode b_S_add 18 = .ok (.aload_n 0, 1) := by decide +kernel
theorem d_S_add_19 : decode b_S_add 19 = .ok (.getfield 10, 3) := by decide +kernel
theorem d_S_add_22 : decode b_S_add 22 = .ok (.iload_n 1, 1) := by decide +kernel
theorem d_S_add_23 : decode b_S_add 23 = .ok (.iload_n 2, 1) := by decide +kernel
theorem d_S_add_24 : decode b_S_add 24 = .ok (.iload_n 3, 1) := by decide +kernel
theorem d_S_add_25 : decode b_S_add 25 = .ok (.invokevirtual 41, 3) := by decide +kernel
theorem d_S_add_28 : decode b_S_add 28 = .ok (.ifCond .ne 5, 3) := by decide +kernel
theorem d_S_add_31 : decode b_S_add 31 = .ok (.iconst (-1), 1) := by decide +kernel
theorem d_S_add_32 : decode b_S_add 32 = .ok (.ireturn, 1) := by decide +kernel
theorem d_S_add_33 : decode b_S_add 33 = .ok (.aload_n 0, 1) := by decide +kernel
theorem d_S_add_34 : decode b_S_add 34 = .ok (.getfield 10, 3) := by decide +kernel
theorem d_S_add_37 : decode b_S_add 37 = .ok (.iload_n 1, 1) := by decide +kernel
theorem d_S_add_38 : decode b_S_add 38 = .ok (.iload_n 2, 1) := by decide +kernel
theorem d_S_add_39 : decode b_S_add 39 = .ok (.iload_n 3, 1) := by decide +kernel
theorem d_S_add_40 : decode b_S_add 40 = .ok (.iload 4, 2) := by decide +kernel
theorem d_S_add_42 : decode b_S_add 42 = .ok (.iload 5, 2) := by decide +kernel
theorem d_S_add_44 : decode b_S_add 44 = .ok (.invokevirtual 44, 3) := by decide +kernel
theorem d_S_add_47 : decode b_S_add 47 = .ok (.ireturn, 1) := by decide +kernel
section
variable {p : Program} {l : Launch} {e : Env} {s : State} {m : MethodId} {args : Array Value} {below : List Frame} {meth : Method} {c : Code} {H : Heap} {locs : List Loc} {ls : Array Slot} {D : va_G} {A : Nat → Prop} {g h ro o : Nat → Nat} {vs : ClassId} {t rv v : Nat → ClassId} {F : Nat → Option Nat} {Y : va_W}
def f_S_add (s0 : St) (b0 : (Nat → Int64)) (x1 : Int32) (x2 : Int32) (x3 : Int32) (x4 : Int32) (x5 : Int32) (p0 : St) : Option (Int32 × St) :=
  if (s0 1 0) = 0 then
    (f_K_fits x3 x4 x5).bind fun v_2 =>
    if v_2 = 0 then
      some (-1, p0)
    else
      (f_P_hasPlaceFor p0 x1 x2 x3).bind fun v_5 =>
      if v_5 = 0 then
        some (-1, p0)
      else
        sr_b2 (f_P_append x1 x2 x3 x4 x5 p0) fun v_8 p_9 =>
        some (v_8, p_9)
  else
    some (-1, p0)
set_option maxHeartbeats 4000000 in
set_option maxRecDepth 100000 in
theorem k_S_add_0 {s0 : St} {b0 : (Nat → Int64)} {x1 : Int32} {x2 : Int32} {x3 : Int32} {x4 : Int32} {x5 : Int32} {p0 : St} {r : Int32} {p' : St} (X : sr_X D (tNN vs t rv) b_S_add 6 R_S w_S_add p s m args meth c A (some .int)) (Z : sr_Z D A s.heap (wN g vs h t ro rv F Y s0 p0 b0) H locs) (hl : lv_has ls 6 [(0, .ref (g 0)), (1, .int x1), (2, .int x2), (3, .int x3), (4, .int x4), (5, .int x5)]) (hf : f_S_add s0 b0 x1 x2 x3 x4 x5 p0 = some (r, p')) : W p l e (sr_rm 3 71) s m args below meth c H locs 0 0 (sr_Qi D (tNN vs t rv) below args s A (wN g vs h t ro rv F Y s0 p' b0) r) (F0 m 0 ls []) := by
  have hx := X.1
  have hb := X.2.1
  have hK := X.2.2.2.2.2.2.1
  unfold f_S_add at hf
  refine lv_aload_n hx hb d_S_add_0 rfl (lv_at hl 0 rfl) ?_
  refine g_S_31_N X Z d_S_add_1 ?_
  refine lv_if_ne (tgt := 31) hx hb d_S_add_4 rfl (fun q_1 => ?_) (fun q_1 => ?_)
  · have hf := sr_if q_1 hf
    refine lv_iconst (v := -1) hx hb d_S_add_31 (by decide) ?_
    cases hf
    exact sr_reti X Z d_S_add_32
  · have hf := sr_it q_1 hf
    refine lv_iload_n hx hb d_S_add_7 rfl (lv_at hl 3 rfl) ?_
    refine lv_iload hx hb d_S_add_8 (lv_at hl 4 rfl) ?_
    refine lv_iload hx hb d_S_add_10 (lv_at hl 5 rfl) ?_
    obtain ⟨v_2, e_3, hf⟩ := sr_b hf
    refine sr_cSi (As := [.int x3, .int x4, .int x5]) (rest := []) X Z sr_cut_0 (va_K.sub hK [] rfl) (c_K_fits e_3) (cw_S_35 X.2.2.2.2.2.1 (by decide)) rfl hl rfl (Nat.le_of_ble_eq_true rfl) d_S_add_12 (fun H locs Z => ?_)
    refine lv_if_eq (tgt := 31) hx hb d_S_add_15 rfl (fun q_4 => ?_) (fun q_4 => ?_)
    · have hf := sr_it q_4 hf
      refine lv_iconst (v := -1) hx hb d_S_add_31 (by decide) ?_
      cases hf
      exact sr_reti X Z d_S_add_32
    · have hf := sr_if q_4 hf
      refine lv_aload_n hx hb d_S_add_18 rfl (lv_at hl 0 rfl) ?_
      refine g_S_10_N X Z d_S_add_19 ?_
      refine lv_iload_n hx hb d_S_add_22 rfl (lv_at hl 1 rfl) ?_
      refine lv_iload_n hx hb d_S_add_23 rfl (lv_at hl 2 rfl) ?_
      refine lv_iload_n hx hb d_S_add_24 rfl (lv_at hl 3 rfl) ?_
      obtain ⟨v_5, e_6, hf⟩ := sr_b hf
      refine sr_cVi (As := [.int x1, .int x2, .int x3]) (rest := []) X Z cut_NP (k_NP hK) (c_P_hasPlaceFor e_6) (cw_S_41 X.2.2.2.2.2.1 (by decide)) 2 rfl rfl rfl hl rfl (Nat.le_of_ble_eq_true rfl) d_S_add_25 (fun H locs Z => ?_)
      refine lv_if_ne (tgt := 33) hx hb d_S_add_28 rfl (fun q_7 => ?_) (fun q_7 => ?_)
      · have hf := sr_if q_7 hf
        refine lv_aload_n hx hb d_S_add_33 rfl (lv_at hl 0 rfl) ?_
        refine g_S_10_N X Z d_S_add_34 ?_
        refine lv_iload_n hx hb d_S_add_37 rfl (lv_at hl 1 rfl) ?_
        refine lv_iload_n hx hb d_S_add_38 rfl (lv_at hl 2 rfl) ?_
        refine lv_iload_n hx hb d_S_add_39 rfl (lv_at hl 3 rfl) ?_
        refine lv_iload hx hb d_S_add_40 (lv_at hl 4 rfl) ?_
        refine lv_iload hx hb d_S_add_42 (lv_at hl 5 rfl) ?_
        obtain ⟨v_8, p_9, e_10, hf⟩ := sr_b2_i hf
        refine sr_cVi (As := [.int x1, .int x2, .int x3, .int x4, .int x5]) (rest := []) X Z cut_NP (k_NP hK) (c_P_append e_10) (cw_S_44 X.2.2.2.2.2.1 (by decide)) 2 rfl rfl rfl hl rfl (Nat.le_of_ble_eq_true rfl) d_S_add_44 (fun H locs Z => ?_)
        cases hf
        exact sr_reti X Z d_S_add_47
      · have hf := sr_it q_7 hf
        refine lv_iconst (v := -1) hx hb d_S_add_31 (by decide) ?_
        cases hf
        exact sr_reti X Z d_S_add_32
end
set_option maxHeartbeats 4000000 in
set_option maxRecDepth 100000 in
theorem c_S_add {l : Launch} {D : va_G} {g : Nat → Nat} {vs : ClassId} {h : Nat → Nat} {t : Nat → ClassId} {ro : Nat → Nat} {rv : Nat → ClassId} {F : Nat → Option Nat} {Y : va_W} {sz : Nat} {s0 : St} {b0 : (Nat → Int64)} {x1 : Int32} {x2 : Int32} {x3 : Int32} {x4 : Int32} {x5 : Int32} {p0 : St} {r : Int32} {p' : St} (hf : f_S_add s0 b0 x1 x2 x3 x4 x5 p0 = some (r, p')) : sr_Ci l y_S_add w_S_add (sr_rm 3 71) D (tNN vs t rv) (wN g vs h t ro rv F Y s0 p0 b0) (wN g vs h t ro rv F Y s0 p' b0) sz [.ref (g 0), .int x1, .int x2, .int x3, .int x4, .int x5] r := by
  refine Met.ofW (cc := b_S_add) (maxL := 6) (ret := (some .int)) (by decide) rfl ?_
  intro p e s m args below meth c s₁ B hml hv
  obtain ⟨rfl, hsz, hP, hK, hD0⟩ := hv
  subst hsz
  have X : sr_X D (tNN vs t rv) b_S_add 6 R_S w_S_add p s m _ meth c (va_A (wN g vs h t ro rv F Y s0 p0 b0) s.heap.size) (some .int) := ⟨B.exec, B.bytes, hml, findClass_of_methodNamed B.named, B.notSynchronized, atoms_spec (ws := w_S_add) B.pre, hK, fun q h => Or.inr h, B.returns⟩
  have Z : sr_Z D (va_A (wN g vs h t ro rv F Y s0 p0 b0) s.heap.size) s.heap (wN g vs h t ro rv F Y s0 p0 b0) s.heap [] := ⟨hP, hD0.self, va_S.rf⟩
  have hl := lv_entry ([.ref (g 0), .int x1, .int x2, .int x3, .int x4, .int x5] : List Value) (n := 6) (Nat.le_of_ble_eq_true rfl)
  rw [lg_entry_eq]
  exact k_S_add_0 X Z hl hf
/-! S_join -/
theorem d_S_join_0 : decode b_S_join 0 = .ok (.aload_n 0, 1) := by decide +kernel
theorem d_S_join_1 : decode b_S_join 1 = .ok (.getfield 31, 3) := by decide +kernel
theorem d_S_join_4 : decode b_S_join 4 = .ok (.ifCond .ne 23, 3) := by decide +kernel
theorem d_S_join_7 : decode b_S_join 7 = .ok (.aload_n 0, 1) := by decide +kernel
theorem d_S_join_8 : decode b_S_join 8 = .ok (.getfield 10, 3) := by decide +kernel
theorem d_S_join_11 : decode b_S_join 11 = .ok (.iload_n 1, 1) := by decide +kernel
theorem d_S_join_12 : decode b_S_join 12 = .ok (.invokevirtual 48, 3) := by decide +kernel
theorem d_S_join_15 : decode b_S_join 15 = .ok (.ifCond .eq 12, 3) := by decide +kernel
theorem d_S_join_18 : decode b_S_join 18 = .ok (.iload_n 2, 1) := by decide +kernel
theorem d_S_join_19 : decode b_S_join 19 = .ok (.ifCond .lt 8, 3) := by decide +kernel
theorem d_S_join_22 : decode b_S_join 22 = .ok (.iload_n 2, 1) := by decide +kernel
theorem d_S_join_23 : decode b_S_join 23 = .ok (.iconst 3, 1) := by decide +kernel
theorem d_S_join_24 : decode b_S_join 24 = .ok (.if_icmp .le 5, 3) := by decide +kernel
theorem d_S_join_27 : decode b_S_join 27 = .ok (.iconst 0, 1) := by decide +kernel
theorem d_S_join_28 : decode b_S_join 28 = .ok (.ireturn, 1) := by decide +kernel
theorem d_S_join_29 : decode b_S_join 29 = .ok (.aload_n 0, 1) := by decide +kernel
theorem d_S_join_30 : decode b_S_join 30 = .ok (.getfield 10, 3) := by decide +kernel
theorem d_S_join_33 : decode b_S_join 33 = .ok (.getfield 52, 3) := by decide +kernel
theorem d_S_join_36 : decode b_S_join 36 = .ok (.iload_n 1, 1) := by decide +kernel
theorem d_S_join_37 : decode b_S_join 37 = .ok (.iload_n 2, 1) := by decide +kernel
theorem d_S_join_38 : decode b_S_join 38 = .ok (.iastore, 1) := by decide +kernel
theorem d_S_join_39 : decode b_S_join 39 = .ok (.iconst 1, 1) := by decide +kernel
theorem d_S_join_40 : decode b_S_join 40 = .ok (.ireturn, 1) := by decide +kernel
section
variable {p : Program} {l : Launch} {e : Env} {s : State} {m : MethodId} {args : Array Value} {below : List Frame} {meth : Method} {c : Code} {H : Heap} {locs : List Loc} {ls : Array Slot} {D : va_G} {A : Nat → Prop} {g h ro o : Nat → Nat} {vs : ClassId} {t rv v : Nat → ClassId} {F : Nat → Option Nat} {Y : va_W}
def f_S_join (s0 : St) (b0 : (Nat → Int64)) (x1 : Int32) (x2 : Int32) (p0 : St) : Option (Int32 × St) :=
  if (s0 1 0) = 0 then
    (f_P_hasActivity p0 x1).bind fun v_2 =>
    if v_2 = 0 then
      some (0, p0)
    else
      if x2 < 0 then
        some (0, p0)
      else
        if x2 ≤ 3 then
          (sr_ast 24 p0 5 x1 x2).bind fun p_7 =>
          some (1, p_7)
        else
          some (0, p0)
  else
    some (0, p0)
set_option maxHeartbeats 4000000 in
set_option maxRecDepth 100000 in
theorem k_S_join_0 {s0 : St} {b0 : (Nat → Int64)} {x1 : Int32} {x2 : Int32} {p0 : St} {r : Int32} {p' : St} (X : sr_X D (tNN vs t rv) b_S_join 3 R_S w_S_join p s m args meth c A (some .boolean)) (Z : sr_Z D A s.heap (wN g vs h t ro rv F Y s0 p0 b0) H locs) (hl : lv_has ls 3 [(0, .ref (g 0)), (1, .int x1), (2, .int x2)]) (hf : f_S_join s0 b0 x1 x2 p0 = some (r, p')) : W p l e (sr_rm 1 21) s m args below meth c H locs 0 0 (sr_Qi D (tNN vs t rv) below args s A (wN g vs h t ro rv F Y s0 p' b0) r) (F0 m 0 ls []) := by
  have hx := X.1
  have hb := X.2.1
  have hK := X.2.2.2.2.2.2.1
  unfold f_S_join at hf
  refine lv_aload_n hx hb d_S_join_0 rfl (lv_at hl 0 rfl) ?_
  refine g_S_31_N X Z d_S_join_1 ?_
  refine lv_if_ne (tgt := 27) hx hb d_S_join_4 rfl (fun q_1 => ?_) (fun q_1 => ?_)
  · have hf := sr_if q_1 hf
    refine lv_iconst (v := 0) hx hb d_S_join_27 (by decide) ?_
    cases hf
    exact sr_retz X Z (by decide) d_S_join_28
  · have hf := sr_it q_1 hf
    refine lv_aload_n hx hb d_S_join_7 rfl (lv_at hl 0 rfl) ?_
    refine g_S_10_N X Z d_S_join_8 ?_
    refine lv_iload_n hx hb d_S_join_11 rfl (lv_at hl 1 rfl) ?_
    obtain ⟨v_2, e_3, hf⟩ := sr_b hf
    refine sr_cVi (As := [.int x1]) (rest := []) X Z cut_NP (k_NP hK) (c_P_hasActivity e_3) (cw_S_48 X.2.2.2.2.2.1 (by decide)) 2 rfl rfl rfl hl rfl (Nat.le_of_ble_eq_true rfl) d_S_join_12 (fun H locs Z => ?_)
    refine lv_if_eq (tgt := 27) hx hb d_S_join_15 rfl (fun q_4 => ?_) (fun q_4 => ?_)
    · have hf := sr_it q_4 hf
      refine lv_iconst (v := 0) hx hb d_S_join_27 (by decide) ?_
      cases hf
      exact sr_retz X Z (by decide) d_S_join_28
    · have hf := sr_if q_4 hf
      refine lv_iload_n hx hb d_S_join_18 rfl (lv_at hl 2 rfl) ?_
      refine lv_if_lt (tgt := 27) hx hb d_S_join_19 rfl (fun q_5 => ?_) (fun q_5 => ?_)
      · have hf := sr_it q_5 hf
        refine lv_iconst (v := 0) hx hb d_S_join_27 (by decide) ?_
        cases hf
        exact sr_retz X Z (by decide) d_S_join_28
      · have hf := sr_if q_5 hf
        refine lv_iload_n hx hb d_S_join_22 rfl (lv_at hl 2 rfl) ?_
        refine lv_iconst (v := 3) hx hb d_S_join_23 (by decide) ?_
        refine lv_icmp_le (tgt := 29) hx hb d_S_join_24 rfl (fun q_6 => ?_) (fun q_6 => ?_)
        · have hf := sr_it q_6 hf
          refine lv_aload_n hx hb d_S_join_29 rfl (lv_at hl 0 rfl) ?_
          refine g_S_10_N X Z d_S_join_30 ?_
          refine g_S_52_N X Z d_S_join_33 ?_
          refine lv_iload_n hx hb d_S_join_36 rfl (lv_at hl 1 rfl) ?_
          refine lv_iload_n hx hb d_S_join_37 rfl (lv_at hl 2 rfl) ?_
          obtain ⟨p_7, e_8, hf⟩ := sr_b hf
          refine sr_iast (wf := (fun q => (wN g vs h t ro rv F Y s0 q b0))) hx hb hK Z 8 6 rfl rfl e_8 (fun _ => rfl) d_S_join_38 (fun H locs Z => ?_)
          refine lv_iconst (v := 1) hx hb d_S_join_39 (by decide) ?_
          cases hf
          exact sr_retz X Z (by decide) d_S_join_40
        · have hf := sr_if q_6 hf
          refine lv_iconst (v := 0) hx hb d_S_join_27 (by decide) ?_
          cases hf
          exact sr_retz X Z (by decide) d_S_join_28
end
set_option maxHeartbeats 4000000 in
set_option maxRecDepth 100000 in
theorem c_S_join {l : Launch} {D : va_G} {g : Nat → Nat} {vs : ClassId} {h : Nat → Nat} {t : Nat → ClassId} {ro : Nat → Nat} {rv : Nat → ClassId} {F : Nat → Option Nat} {Y : va_W} {sz : Nat} {s0 : St} {b0 : (Nat → Int64)} {x1 : Int32} {x2 : Int32} {p0 : St} {r : Int32} {p' : St} (hf : f_S_join s0 b0 x1 x2 p0 = some (r, p')) : sr_Ci l y_S_join w_S_join (sr_rm 1 21) D (tNN vs t rv) (wN g vs h t ro rv F Y s0 p0 b0) (wN g vs h t ro rv F Y s0 p' b0) sz [.ref (g 0), .int x1, .int x2] r := by
  refine Met.ofW (cc := b_S_join) (maxL := 3) (ret := (some .boolean)) (by decide) rfl ?_
  intro p e s m args below meth c s₁ B hml hv
  obtain ⟨rfl, hsz, hP, hK, hD0⟩ := hv
  subst hsz
  have X : sr_X D (tNN vs t rv) b_S_join 3 R_S w_S_join p s m _ meth c (va_A (wN g vs h t ro rv F Y s0 p0 b0) s.heap.size) (some .boolean) := ⟨B.exec, B.bytes, hml, findClass_of_methodNamed B.named, B.notSynchronized, atoms_spec (ws := w_S_join) B.pre, hK, fun q h => Or.inr h, B.returns⟩
  have Z : sr_Z D (va_A (wN g vs h t ro rv F Y s0 p0 b0) s.heap.size) s.heap (wN g vs h t ro rv F Y s0 p0 b0) s.heap [] := ⟨hP, hD0.self, va_S.rf⟩
  have hl := lv_entry ([.ref (g 0), .int x1, .int x2] : List Value) (n := 3) (Nat.le_of_ble_eq_true rfl)
  rw [lg_entry_eq]
  exact k_S_join_0 X Z hl hf
/-! S_link -/
theorem d_S_link_0 : decode b_S_link 0 = .ok (.aload_n 0, 1) := by decide +kernel
theorem d_S_link_1 : decode b_S_link 1 = .ok (.getfield 10, 3) := by decide +kernel
theorem d_S_link_4 : decode b_S_link 4 = .ok (.iload_n 1, 1) := by decide +kernel
theorem d_S_link_5 : decode b_S_link 5 = .ok (.invokevirtual 48, 3) := by decide +kernel
theorem d_S_link_8 : decode b_S_link 8 = .ok (.ifCond .eq 18, 3) := by decide +kernel
theorem d_S_link_11 : decode b_S_link 11 = .ok (.aload_n 0, 1) := by decide +kernel
theorem d_S_link_12 : decode b_S_link 12 = .ok (.getfield 10, 3) := by decide +kernel
theorem d_S_link_15 : decode b_S_link 15 = .ok (.iload_n 2, 1) := by decide +kernel
theorem d_S_link_16 : decode b_S_link 16 = .ok (.invokevirtual 48, 3) := by decide +kernel
theorem d_S_link_19 : decode b_S_link 19 = .ok (.ifCond .eq 7, 3) := by decide +kernel
theorem d_S_link_22 : decode b_S_link 22 = .ok (.iconst 1, 1) := by decide +kernel
theorem d_S_link_23 : decode b_S_link 23 = .ok (.goto 4, 3) := by decide +kernel
theorem d_S_link_26 : decode b_S_link 26 = .ok (.iconst 0, 1) := by decide +kernel
theorem d_S_link_27 : decode b_S_link 27 = .ok (.istore 5, 2) := by decide +kernel
theorem d_S_link_29 : decode b_S_link 29 = .ok (.iload_n 3, 1) := by decide +kernel
theorem d_S_link_30 : decode b_S_link 30 = .ok (.iconst (-1), 1) := by decide +kernel
theorem d_S_link_31 : decode b_S_link 31 = .ok (.if_icmp .eq 10, 3) := by decide +kernel
theorem d_S_link_34 : decode b_S_link 34 = .ok (.iload_n 3, 1) := by decide +kernel
theorem d_S_link_35 : decode b_S_link 35 = .ok (.invokestatic 56, 3) := by decide +kernel
theorem d_S_link_38 : decode b_S_link 38 = .ok (.ifCond .eq 7, 3) := by decide +kernel
theorem d_S_link_41 : decode b_S_link 41 = .ok (.iconst 1, 1) := by decide +kernel
theorem d_S_link_42 : decode b_S_link 42 = .ok (.goto 4, 3) := by decide +kernel
theorem d_S_link_45 : decode b_S_link 45 = .ok (.iconst 0, 1) := by decide +kernel
theorem d_S_link_46 : decode b_S_link 46 = .ok (.istore 6, 2) := by decide +kernel
theorem d_S_link_48 : decode b_S_link 48 = .ok (.aload_n 0, 1) := by decide +kernel
theorem d_S_link_49 : decode b_S_link 49 = .ok (.getfield 31, 3) := by decide +kernel
theorem d_S_link_52 : decode b_S_link 52 = .ok (.ifCond .ne 37, 3) := by decide +kernel
theorem d_S_link_55 : decode b_S_link 55 = .ok (.iload 5, 2) := by decide +kernel
theorem d_S_link_57 : decode b_S_link 57 = .ok (.ifCond .eq 32, 3) := by decide +kernel
theorem d_S_link_60 : decode b_S_link 60 = .ok (.iload 6, 2) := by decide +kernel
theorem d_S_link_62 : decode b_S_link 62 = .ok (.ifCond .eq 27, 3) := by decide +kernel
theorem d_S_link_65 : decode b_S_link 65 = .ok (.aload_n 0, 1) := by decide +kernel
theorem d_S_link_66 : decode b_S_link 66 = .ok (.getfield 10, 3) := by decide +kernel
theorem d_S_link_69 : decode b_S_link 69 = .ok (.getfield 59, 3) := by decide +kernel
theorem d_S_link_72 : decode b_S_link 72 = .ok (.bipush 16, 2) := by decide +kernel
theorem d_S_link_74 : decode b_S_link 74 = .ok (.if_icmp .ge 15, 3) := by decide +kernel
theorem d_S_link_77 : decode b_S_link 77 = .ok (.aload_n 0, 1) := by decide +kernel
theorem d_S_link_78 : decode b_S_link 78 = .ok (.getfield 10, 3) := by decide +kernel
theorem d_S_link_81 : decode b_S_link 81 = .ok (.iload_n 1, 1) := by decide +kernel
theorem d_S_link_82 : decode b_S_link 82 = .ok (.iload_n 2, 1) := by decide +kernel
theorem d_S_link_83 : decode b_S_link 83 = .ok (.invokevirtual 63, 3) := by decide +kernel
theorem d_S_link_86 : decode b_S_link 86 = .ok (.ifCond .eq 5, 3) := by decide +kernel
theorem d_S_link_89 : decode b_S_link 89 = .ok (.iconst (-1), 1) := by decide +kernel
theorem d_S_link_90 : decode b_S_link 90 = .ok (.ireturn, 1) := by decide +kernel
theorem d_S_link_91 : decode b_S_link 91 = .ok (.aload_n 0, 1) := by decide +kernel
theorem d_S_link_92 : decode b_S_link 92 = .ok (.getfield 10, 3) := by decide +kernel
theorem d_S_link_95 : decode b_S_link 95 = .ok (.iload_n 1, 1) := by decide +kernel
theorem d_S_link_96 : decode b_S_link 96 = .ok (.iload_n 2, 1) := by decide +kernel
theorem d_S_link_97 : decode b_S_link 97 = .ok (.iload_n 3, 1) := by decide +kernel
theorem d_S_link_98 : decode b_S_link 98 = .ok (.iload 4, 2) := by decide +kernel
theorem d_S_link_100 : decode b_S_link 100 = .ok (.invokevirtual 67, 3) := by decide +kernel
theorem d_S_link_103 : decode b_S_link 103 = .ok (.ireturn, 1) := by decide +kernel
section
variable {p : Program} {l : Launch} {e : Env} {s : State} {m : MethodId} {args : Array Value} {below : List Frame} {meth : Method} {c : Code} {H : Heap} {locs : List Loc} {ls : Array Slot} {D : va_G} {A : Nat → Prop} {g h ro o : Nat → Nat} {vs : ClassId} {t rv v : Nat → ClassId} {F : Nat → Option Nat} {Y : va_W}
def f_S_link_46 (s0 : St) (b0 : (Nat → Int64)) (x1 : Int32) (x2 : Int32) (x3 : Int32) (x4 : Int32) (x5 : Int32) (y0 : Int32) (p0 : St) : Option (Int32 × St) :=
  if (s0 1 0) = 0 then
    if x5 = 0 then
      some (-1, p0)
    else
      if y0 = 0 then
        some (-1, p0)
      else
        if 16 ≤ (p0 15 0) then
          some (-1, p0)
        else
          (f_P_isLinked p0 x1 x2).bind fun v_9 =>
          if v_9 = 0 then
            sr_b2 (f_P_appendLink x1 x2 x3 x4 p0) fun v_12 p_13 =>
            some (v_12, p_13)
          else
            some (-1, p0)
  else
    some (-1, p0)
set_option maxHeartbeats 4000000 in
set_option maxRecDepth 100000 in
theorem k_S_link_46 {s0 : St} {b0 : (Nat → Int64)} {x1 : Int32} {x2 : Int32} {x3 : Int32} {x4 : Int32} {x5 : Int32} {y0 : Int32} {p0 : St} {r : Int32} {p' : St} (X : sr_X D (tNN vs t rv) b_S_link 7 R_S w_S_link p s m args meth c A (some .int)) (Z : sr_Z D A s.heap (wN g vs h t ro rv F Y s0 p0 b0) H locs) (hl : lv_has ls 7 [(0, .ref (g 0)), (1, .int x1), (2, .int x2), (3, .int x3), (4, .int x4), (5, .int x5)]) (hf : f_S_link_46 s0 b0 x1 x2 x3 x4 x5 y0 p0 = some (r, p')) : W p l e (sr_rm 1 24) s m args below meth c H locs 0 0 (sr_Qi D (tNN vs t rv) below args s A (wN g vs h t ro rv F Y s0 p' b0) r) (F0 m 46 ls [.int y0]) := by
  have hx := X.1
  have hb := X.2.1
  have hK := X.2.2.2.2.2.2.1
  unfold f_S_link_46 at hf
  refine lv_istore (lv' := [(6, .int y0), (0, .ref (g 0)), (1, .int x1), (2, .int x2), (3, .int x3), (4, .int x4), (5, .int x5)]) hx hb d_S_link_46 hl (by decide) rfl (fun ls hl => ?_)
  refine lv_aload_n hx hb d_S_link_48 rfl (lv_at hl 1 rfl) ?_
  refine g_S_31_N X Z d_S_link_49 ?_
  refine lv_if_ne (tgt := 89) hx hb d_S_link_52 rfl (fun q_5 => ?_) (fun q_5 => ?_)
  · have hf := sr_if q_5 hf
    refine lv_iconst (v := -1) hx hb d_S_link_89 (by decide) ?_
    cases hf
    exact sr_reti X Z d_S_link_90
  · have hf := sr_it q_5 hf
    refine lv_iload hx hb d_S_link_55 (lv_at hl 6 rfl) ?_
    refine lv_if_eq (tgt := 89) hx hb d_S_link_57 rfl (fun q_6 => ?_) (fun q_6 => ?_)
    · have hf := sr_it q_6 hf
      refine lv_iconst (v := -1) hx hb d_S_link_89 (by decide) ?_
      cases hf
      exact sr_reti X Z d_S_link_90
    · have hf := sr_if q_6 hf
      refine lv_iload hx hb d_S_link_60 (lv_at hl 0 rfl) ?_
      refine lv_if_eq (tgt := 89) hx hb d_S_link_62 rfl (fun q_7 => ?_) (fun q_7 => ?_)
      · have hf := sr_it q_7 hf
        refine lv_iconst (v := -1) hx hb d_S_link_89 (by decide) ?_
        cases hf
        exact sr_reti X Z d_S_link_90
      · have hf := sr_if q_7 hf
        refine lv_aload_n hx hb d_S_link_65 rfl (lv_at hl 1 rfl) ?_
        refine g_S_10_N X Z d_S_link_66 ?_
        refine g_S_59_N X Z d_S_link_69 ?_
        refine lv_bipush (v := 16) hx hb d_S_link_72 (by decide) ?_
        refine lv_icmp_ge (tgt := 89) hx hb d_S_link_74 rfl (fun q_8 => ?_) (fun q_8 => ?_)
        · have hf := sr_it q_8 hf
          refine lv_iconst (v := -1) hx hb d_S_link_89 (by decide) ?_
          cases hf
          exact sr_reti X Z d_S_link_90
        · have hf := sr_if q_8 hf
          refine lv_aload_n hx hb d_S_link_77 rfl (lv_at hl 1 rfl) ?_
          refine g_S_10_N X Z d_S_link_78 ?_
          refine lv_iload_n hx hb d_S_link_81 rfl (lv_at hl 2 rfl) ?_
          refine lv_iload_n hx hb d_S_link_82 rfl (lv_at hl 3 rfl) ?_
          obtain ⟨v_9, e_10, hf⟩ := sr_b hf
          refine sr_cVi (As := [.int x1, .int x2]) (rest := []) X Z cut_NP (k_NP hK) (c_P_isLinked e_10) (cw_S_63 X.2.2.2.2.2.1 (by decide)) 2 rfl rfl rfl hl rfl (Nat.le_of_ble_eq_true rfl) d_S_link_83 (fun H locs Z => ?_)
          refine lv_if_eq (tgt := 91) hx hb d_S_link_86 rfl (fun q_11 => ?_) (fun q_11 => ?_)
          · have hf := sr_it q_11 hf
            refine lv_aload_n hx hb d_S_link_91 rfl (lv_at hl 1 rfl) ?_
            refine g_S_10_N X Z d_S_link_92 ?_
            refine lv_iload_n hx hb d_S_link_95 rfl (lv_at hl 2 rfl) ?_
            refine lv_iload_n hx hb d_S_link_96 rfl (lv_at hl 3 rfl) ?_
            refine lv_iload_n hx hb d_S_link_97 rfl (lv_at hl 4 rfl) ?_
            refine lv_iload hx hb d_S_link_98 (lv_at hl 5 rfl) ?_
            obtain ⟨v_12, p_13, e_14, hf⟩ := sr_b2_i hf
            refine sr_cVi (As := [.int x1, .int x2, .int x3, .int x4]) (rest := []) X Z cut_NP (k_NP hK) (c_P_appendLink e_14) (cw_S_67 X.2.2.2.2.2.1 (by decide)) 2 rfl rfl rfl hl rfl (Nat.le_of_ble_eq_true rfl) d_S_link_100 (fun H locs Z => ?_)
            cases hf
            exact sr_reti X Z d_S_link_103
          · have hf := sr_if q_11 hf
            refine lv_iconst (v := -1) hx hb d_S_link_89 (by decide) ?_
            cases hf
            exact sr_reti X Z d_S_link_90
def f_S_link_41 (s0 : St) (b0 : (Nat → Int64)) (x1 : Int32) (x2 : Int32) (x3 : Int32) (x4 : Int32) (x5 : Int32) (p0 : St) : Option (Int32 × St) :=
  f_S_link_46 s0 b0 x1 x2 x3 x4 x5 1 p0
set_option maxHeartbeats 4000000 in
set_option maxRecDepth 100000 in
theorem k_S_link_41 {s0 : St} {b0 : (Nat → Int64)} {x1 : Int32} {x2 : Int32} {x3 : Int32} {x4 : Int32} {x5 : Int32} {p0 : St} {r : Int32} {p' : St} (X : sr_X D (tNN vs t rv) b_S_link 7 R_S w_S_link p s m args meth c A (some .int)) (Z : sr_Z D A s.heap (wN g vs h t ro rv F Y s0 p0 b0) H locs) (hl : lv_has ls 7 [(0, .ref (g 0)), (1, .int x1), (2, .int x2), (3, .int x3), (4, .int x4), (5, .int x5)]) (hf : f_S_link_41 s0 b0 x1 x2 x3 x4 x5 p0 = some (r, p')) : W p l e (sr_rm 1 24) s m args below meth c H locs 0 0 (sr_Qi D (tNN vs t rv) below args s A (wN g vs h t ro rv F Y s0 p' b0) r) (F0 m 41 ls []) := by
  have hx := X.1
  have hb := X.2.1
  have hK := X.2.2.2.2.2.2.1
  unfold f_S_link_41 at hf
  refine lv_iconst (v := 1) hx hb d_S_link_41 (by decide) ?_
  refine lv_goto (tgt := 46) hx hb d_S_link_42 rfl ?_
  exact k_S_link_46 X Z (lv_sub hl [0, 1, 2, 3, 4, 5] rfl) hf
def f_S_link_27 (s0 : St) (b0 : (Nat → Int64)) (x1 : Int32) (x2 : Int32) (x3 : Int32) (x4 : Int32) (y0 : Int32) (p0 : St) : Option (Int32 × St) :=
  if x3 = (-1) then
    f_S_link_41 s0 b0 x1 x2 x3 x4 y0 p0
  else
    (f_K_isVariable x3).bind fun v_15 =>
    if v_15 = 0 then
      f_S_link_46 s0 b0 x1 x2 x3 x4 y0 0 p0
    else
      f_S_link_41 s0 b0 x1 x2 x3 x4 y0 p0
set_option maxHeartbeats 4000000 in
set_option maxRecDepth 100000 in
theorem k_S_link_27 {s0 : St} {b0 : (Nat → Int64)} {x1 : Int32} {x2 : Int32} {x3 : Int32} {x4 : Int32} {y0 : Int32} {p0 : St} {r : Int32} {p' : St} (X : sr_X D (tNN vs t rv) b_S_link 7 R_S w_S_link p s m args meth c A (some .int)) (Z : sr_Z D A s.heap (wN g vs h t ro rv F Y s0 p0 b0) H locs) (hl : lv_has ls 7 [(0, .ref (g 0)), (1, .int x1), (2, .int x2), (3, .int x3), (4, .int x4)]) (hf : f_S_link_27 s0 b0 x1 x2 x3 x4 y0 p0 = some (r, p')) : W p l e (sr_rm 1 24) s m args below meth c H locs 0 0 (sr_Qi D (tNN vs t rv) below args s A (wN g vs h t ro rv F Y s0 p' b0) r) (F0 m 27 ls [.int y0]) := by
  have hx := X.1
  have hb := X.2.1
  have hK := X.2.2.2.2.2.2.1
  unfold f_S_link_27 at hf
  refine lv_istore (lv' := [(5, .int y0), (0, .ref (g 0)), (1, .int x1), (2, .int x2), (3, .int x3), (4, .int x4)]) hx hb d_S_link_27 hl (by decide) rfl (fun ls hl => ?_)
  refine lv_iload_n hx hb d_S_link_29 rfl (lv_at hl 4 rfl) ?_
  refine lv_iconst (v := -1) hx hb d_S_link_30 (by decide) ?_
  refine lv_icmp_eq (tgt := 41) hx hb d_S_link_31 rfl (fun q_4 => ?_) (fun q_4 => ?_)
  · have hf := sr_it q_4 hf
    exact k_S_link_41 X Z (lv_sub hl [1, 2, 3, 4, 5, 0] rfl) hf
  · have hf := sr_if q_4 hf
    refine lv_iload_n hx hb d_S_link_34 rfl (lv_at hl 4 rfl) ?_
    obtain ⟨v_15, e_16, hf⟩ := sr_b hf
    refine sr_cSi (As := [.int x3]) (rest := []) X Z sr_cut_0 (va_K.sub hK [] rfl) (c_K_isVariable e_16) (cw_S_56 X.2.2.2.2.2.1 (by decide)) rfl hl rfl (Nat.le_of_ble_eq_true rfl) d_S_link_35 (fun H locs Z => ?_)
    refine lv_if_eq (tgt := 45) hx hb d_S_link_38 rfl (fun q_17 => ?_) (fun q_17 => ?_)
    · have hf := sr_it q_17 hf
      refine lv_iconst (v := 0) hx hb d_S_link_45 (by decide) ?_
      exact k_S_link_46 X Z (lv_sub hl [1, 2, 3, 4, 5, 0] rfl) hf
    · have hf := sr_if q_17 hf
      exact k_S_link_41 X Z (lv_sub hl [1, 2, 3, 4, 5, 0] rfl) hf
def f_S_link_26 (s0 : St) (b0 : (Nat → Int64)) (x1 : Int32) (x2 : Int32) (x3 : Int32) (x4 : Int32) (p0 : St) : Option (Int32 × St) :=
  f_S_link_27 s0 b0 x1 x2 x3 x4 0 p0
set_option maxHeartbeats 4000000 in
set_option maxRecDepth 100000 in
theorem k_S_link_26 {s0 : St} {b0 : (Nat → Int64)} {x1 : Int32} {x2 : Int32} {x3 : Int32} {x4 : Int32} {p0 : St} {r : Int32} {p' : St} (X : sr_X D (tNN vs t rv) b_S_link 7 R_S w_S_link p s m args meth c A (some .int)) (Z : sr_Z D A s.heap (wN g vs h t ro rv F Y s0 p0 b0) H locs) (hl : lv_has ls 7 [(0, .ref (g 0)), (1, .int x1), (2, .int x2), (3, .int x3), (4, .int x4)]) (hf : f_S_link_26 s0 b0 x1 x2 x3 x4 p0 = some (r, p')) : W p l e (sr_rm 1 24) s m args below meth c H locs 0 0 (sr_Qi D (tNN vs t rv) below args s A (wN g vs h t ro rv F Y s0 p' b0) r) (F0 m 26 ls []) := by
  have hx := X.1
  have hb := X.2.1
  have hK := X.2.2.2.2.2.2.1
  unfold f_S_link_26 at hf
  refine lv_iconst (v := 0) hx hb d_S_link_26 (by decide) ?_
  exact k_S_link_27 X Z (lv_sub hl [0, 1, 2, 3, 4] rfl) hf
def f_S_link (s0 : St) (b0 : (Nat → Int64)) (x1 : Int32) (x2 : Int32) (x3 : Int32) (x4 : Int32) (p0 : St) : Option (Int32 × St) :=
  (f_P_hasActivity p0 x1).bind fun v_1 =>
  if v_1 = 0 then
    f_S_link_26 s0 b0 x1 x2 x3 x4 p0
  else
    (f_P_hasActivity p0 x2).bind fun v_18 =>
    if v_18 = 0 then
      f_S_link_26 s0 b0 x1 x2 x3 x4 p0
    else
      f_S_link_27 s0 b0 x1 x2 x3 x4 1 p0
set_option maxHeartbeats 4000000 in
set_option maxRecDepth 100000 in
theorem k_S_link_0 {s0 : St} {b0 : (Nat → Int64)} {x1 : Int32} {x2 : Int32} {x3 : Int32} {x4 : Int32} {p0 : St} {r : Int32} {p' : St} (X : sr_X D (tNN vs t rv) b_S_link 7 R_S w_S_link p s m args meth c A (some .int)) (Z : sr_Z D A s.heap (wN g vs h t ro rv F Y s0 p0 b0) H locs) (hl : lv_has ls 7 [(0, .ref (g 0)), (1, .int x1), (2, .int x2), (3, .int x3), (4, .int x4)]) (hf : f_S_link s0 b0 x1 x2 x3 x4 p0 = some (r, p')) : W p l e (sr_rm 1 24) s m args below meth c H locs 0 0 (sr_Qi D (tNN vs t rv) below args s A (wN g vs h t ro rv F Y s0 p' b0) r) (F0 m 0 ls []) := by
  have hx := X.1
  have hb := X.2.1
  have hK := X.2.2.2.2.2.2.1
  unfold f_S_link at hf
  refine lv_aload_n hx hb d_S_link_0 rfl (lv_at hl 0 rfl) ?_
  refine g_S_10_N X Z d_S_link_1 ?_
  refine lv_iload_n hx hb d_S_link_4 rfl (lv_at hl 1 rfl) ?_
  obtain ⟨v_1, e_2, hf⟩ := sr_b hf
  refine sr_cVi (As := [.int x1]) (rest := []) X Z cut_NP (k_NP hK) (c_P_hasActivity e_2) (cw_S_48 X.2.2.2.2.2.1 (by decide)) 2 rfl rfl rfl hl rfl (Nat.le_of_ble_eq_true rfl) d_S_link_5 (fun H locs Z => ?_)
  refine lv_if_eq (tgt := 26) hx hb d_S_link_8 rfl (fun q_3 => ?_) (fun q_3 => ?_)
  · have hf := sr_it q_3 hf
    exact k_S_link_26 X Z (lv_sub hl [0, 1, 2, 3, 4] rfl) hf
  · have hf := sr_if q_3 hf
    refine lv_aload_n hx hb d_S_link_11 rfl (lv_at hl 0 rfl) ?_
    refine g_S_10_N X Z d_S_link_12 ?_
    refine lv_iload_n hx hb d_S_link_15 rfl (lv_at hl 2 rfl) ?_
    obtain ⟨v_18, e_19, hf⟩ := sr_b hf
    refine sr_cVi (As := [.int x2]) (rest := []) X Z cut_NP (k_NP hK) (c_P_hasActivity e_19) (cw_S_48 X.2.2.2.2.2.1 (by decide)) 2 rfl rfl rfl hl rfl (Nat.le_of_ble_eq_true rfl) d_S_link_16 (fun H locs Z => ?_)
    refine lv_if_eq (tgt := 26) hx hb d_S_link_19 rfl (fun q_20 => ?_) (fun q_20 => ?_)
    · have hf := sr_it q_20 hf
      exact k_S_link_26 X Z (lv_sub hl [0, 1, 2, 3, 4] rfl) hf
    · have hf := sr_if q_20 hf
      refine lv_iconst (v := 1) hx hb d_S_link_22 (by decide) ?_
      refine lv_goto (tgt := 27) hx hb d_S_link_23 rfl ?_
      exact k_S_link_27 X Z (lv_sub hl [0, 1, 2, 3, 4] rfl) hf
end
set_option maxHeartbeats 4000000 in
set_option maxRecDepth 100000 in
theorem c_S_link {l : Launch} {D : va_G} {g : Nat → Nat} {vs : ClassId} {h : Nat → Nat} {t : Nat → ClassId} {ro : Nat → Nat} {rv : Nat → ClassId} {F : Nat → Option Nat} {Y : va_W} {sz : Nat} {s0 : St} {b0 : (Nat → Int64)} {x1 : Int32} {x2 : Int32} {x3 : Int32} {x4 : Int32} {p0 : St} {r : Int32} {p' : St} (hf : f_S_link s0 b0 x1 x2 x3 x4 p0 = some (r, p')) : sr_Ci l y_S_link w_S_link (sr_rm 1 24) D (tNN vs t rv) (wN g vs h t ro rv F Y s0 p0 b0) (wN g vs h t ro rv F Y s0 p' b0) sz [.ref (g 0), .int x1, .int x2, .int x3, .int x4] r := by
  refine Met.ofW (cc := b_S_link) (maxL := 7) (ret := (some .int)) (by decide) rfl ?_
  intro p e s m args below meth c s₁ B hml hv
  obtain ⟨rfl, hsz, hP, hK, hD0⟩ := hv
  subst hsz
  have X : sr_X D (tNN vs t rv) b_S_link 7 R_S w_S_link p s m _ meth c (va_A (wN g vs h t ro rv F Y s0 p0 b0) s.heap.size) (some .int) := ⟨B.exec, B.bytes, hml, findClass_of_methodNamed B.named, B.notSynchronized, atoms_spec (ws := w_S_link) B.pre, hK, fun q h => Or.inr h, B.returns⟩
  have Z : sr_Z D (va_A (wN g vs h t ro rv F Y s0 p0 b0) s.heap.size) s.heap (wN g vs h t ro rv F Y s0 p0 b0) s.heap [] := ⟨hP, hD0.self, va_S.rf⟩
  have hl := lv_entry ([.ref (g 0), .int x1, .int x2, .int x3, .int x4] : List Value) (n := 7) (Nat.le_of_ble_eq_true rfl)
  rw [lg_entry_eq]
  exact k_S_link_0 X Z hl hf
/-! S_deploy -/
theorem d_S_deploy_0 : decode b_S_deploy 0 = .ok (.aload_n 0, 1) := by decide +kernel
theorem d_S_deploy_1 : decode b_S_deploy 1 = .ok (.getfield 31, 3) := by decide +kernel
theorem d_S_deploy_4 : decode b_S_deploy 4 = .ok (.ifCond .eq 5, 3) := by decide +kernel
theorem d_S_deploy_7 : decode b_S_deploy 7 = .ok (.iconst (-1), 1) := by decide +kernel
theorem d_S_deploy_8 : decode b_S_deploy 8 = .ok (.ireturn, 1) := by decide +kernel
theorem d_S_deploy_9 : decode b_S_deploy 9 = .ok (.aload_n 0, 1) := by decide +kernel
theorem d_S_deploy_10 : decode b_S_deploy 10 = .ok (.getfield 21, 3) := by decide +kernel
theorem d_S_deploy_13 : decode b_S_deploy 13 = .ok (.invokevirtual 71, 3) := by decide +kernel
theorem d_S_deploy_16 : decode b_S_deploy 16 = .ok (.istore_n 1, 1) := by decide +kernel
theorem d_S_deploy_17 : decode b_S_deploy 17 = .ok (.aload_n 0, 1) := by decide +kernel
theorem d_S_deploy_18 : decode b_S_deploy 18 = .ok (.iload_n 1, 1) := by decide +kernel
theorem d_S_deploy_19 : decode b_S_deploy 19 = .ok (.ifCond .ne 7, 3) := by decide +kernel
theorem d_S_deploy_22 : decode b_S_deploy 22 = .ok (.iconst 1, 1) := by decide +kernel
theorem d_S_deploy_23 : decode b_S_deploy 23 = .ok (.goto 4, 3) := by decide +kernel
theorem d_S_deploy_26 : decode b_S_deploy 26 = .ok (.iconst 0, 1) := by decide +kernel
theorem d_S_deploy_27 : decode b_S_deploy 27 = .ok (.putfield 31, 3) := by decide +kernel
theorem d_S_deploy_30 : decode b_S_deploy 30 = .ok (.iload_n 1, 1) := by decide +kernel
theorem d_S_deploy_31 : decode b_S_deploy 31 = .ok (.ireturn, 1) := by decide +kernel
section
variable {p : Program} {l : Launch} {e : Env} {s : State} {m : MethodId} {args : Array Value} {below : List Frame} {meth : Method} {c : Code} {H : Heap} {locs : List Loc} {ls : Array Slot} {D : va_G} {A : Nat → Prop} {g h ro o : Nat → Nat} {vs : ClassId} {t rv v : Nat → ClassId} {F : Nat → Option Nat} {Y : va_W}
def f_S_deploy_27 (p0 : St) (x1 : Int32) (y0 : Int32) (s0 : St) (b0 : (Nat → Int64)) : Option (Int32 × St × (Nat → Int64)) :=
  (sr_z y0).bind fun _ =>
  (sr_pf s0 1 y0).bind fun s_7 =>
  some (x1, s_7, b0)
set_option maxHeartbeats 4000000 in
set_option maxRecDepth 100000 in
theorem k_S_deploy_27 {p0 : St} {x1 : Int32} {y0 : Int32} {s0 : St} {b0 : (Nat → Int64)} {r : Int32} {s' : St} {b' : (Nat → Int64)} (X : sr_X D (tNN vs t rv) b_S_deploy 2 R_S w_S_deploy p s m args meth c A (some .int)) (Z : sr_Z D A s.heap (wN g vs h t ro rv F Y s0 p0 b0) H locs) (hl : lv_has ls 2 [(1, .int x1)]) (hf : f_S_deploy_27 p0 x1 y0 s0 b0 = some (r, s', b')) : W p l e (sr_rm 6 131) s m args below meth c H locs 0 0 (sr_Qi D (tNN vs t rv) below args s A (wN g vs h t ro rv F Y s' p0 b') r) (F0 m 27 ls [.int y0, .ref (g 0)]) := by
  have hx := X.1
  have hb := X.2.1
  have hK := X.2.2.2.2.2.2.1
  unfold f_S_deploy_27 at hf
  obtain ⟨_, e_6, hf⟩ := sr_b hf
  obtain ⟨s_7, e_8, hf⟩ := sr_b hf
  refine s_S_31_N X Z e_8 d_S_deploy_27 (fun H locs Z => ?_) (sr_z_i e_6) (sr_z_f e_6)
  refine lv_iload_n hx hb d_S_deploy_30 rfl (lv_at hl 0 rfl) ?_
  cases hf
  exact sr_reti X Z d_S_deploy_31
def f_S_deploy (p0 : St) (s0 : St) (b0 : (Nat → Int64)) : Option (Int32 × St × (Nat → Int64)) :=
  if (s0 1 0) = 0 then
    sr_b2 (f_R_leastBroken p0 b0) fun v_2 b_3 =>
    if v_2 = 0 then
      f_S_deploy_27 p0 v_2 1 s0 b_3
    else
      f_S_deploy_27 p0 v_2 0 s0 b_3
  else
    some (-1, s0, b0)
set_option maxHeartbeats 4000000 in
set_option maxRecDepth 100000 in
theorem k_S_deploy_0 {p0 : St} {s0 : St} {b0 : (Nat → Int64)} {r : Int32} {s' : St} {b' : (Nat → Int64)} (X : sr_X D (tNN vs t rv) b_S_deploy 2 R_S w_S_deploy p s m args meth c A (some .int)) (Z : sr_Z D A s.heap (wN g vs h t ro rv F Y s0 p0 b0) H locs) (hl : lv_has ls 2 [(0, .ref (g 0))]) (hf : f_S_deploy p0 s0 b0 = some (r, s', b')) : W p l e (sr_rm 6 131) s m args below meth c H locs 0 0 (sr_Qi D (tNN vs t rv) below args s A (wN g vs h t ro rv F Y s' p0 b') r) (F0 m 0 ls []) := by
  have hx := X.1
  have hb := X.2.1
  have hK := X.2.2.2.2.2.2.1
  unfold f_S_deploy at hf
  refine lv_aload_n hx hb d_S_deploy_0 rfl (lv_at hl 0 rfl) ?_
  refine g_S_31_N X Z d_S_deploy_1 ?_
  refine lv_if_eq (tgt := 9) hx hb d_S_deploy_4 rfl (fun q_1 => ?_) (fun q_1 => ?_)
  · have hf := sr_it q_1 hf
    refine lv_aload_n hx hb d_S_deploy_9 rfl (lv_at hl 0 rfl) ?_
    refine g_S_21_N X Z d_S_deploy_10 ?_
    obtain ⟨v_2, b_3, e_4, hf⟩ := sr_b2_i hf
    refine sr_cVi (As := []) (rest := []) X Z cut_NR (k_NR hK) (c_R_leastBroken e_4) (cw_S_71 X.2.2.2.2.2.1 (by decide)) 17 rfl rfl rfl hl rfl (Nat.le_of_ble_eq_true rfl) d_S_deploy_13 (fun H locs Z => ?_)
    refine lv_istore_n (lv' := [(1, .int v_2), (0, .ref (g 0))]) hx hb d_S_deploy_16 rfl hl (by decide) rfl (fun ls hl => ?_)
    refine lv_aload_n hx hb d_S_deploy_17 rfl (lv_at hl 1 rfl) ?_
    refine lv_iload_n hx hb d_S_deploy_18 rfl (lv_at hl 0 rfl) ?_
    refine lv_if_ne (tgt := 26) hx hb d_S_deploy_19 rfl (fun q_5 => ?_) (fun q_5 => ?_)
    · have hf := sr_if q_5 hf
      refine lv_iconst (v := 0) hx hb d_S_deploy_26 (by decide) ?_
      exact k_S_deploy_27 X Z (lv_sub hl [0] rfl) hf
    · have hf := sr_it q_5 hf
      refine lv_iconst (v := 1) hx hb d_S_deploy_22 (by decide) ?_
      refine lv_goto (tgt := 27) hx hb d_S_deploy_23 rfl ?_
      exact k_S_deploy_27 X Z (lv_sub hl [0] rfl) hf
  · have hf := sr_if q_1 hf
    refine lv_iconst (v := -1) hx hb d_S_deploy_7 (by decide) ?_
    cases hf
    exact sr_reti X Z d_S_deploy_8
end
set_option maxHeartbeats 4000000 in
set_option maxRecDepth 100000 in
theorem c_S_deploy {l : Launch} {D : va_G} {g : Nat → Nat} {vs : ClassId} {h : Nat → Nat} {t : Nat → ClassId} {ro : Nat → Nat} {rv : Nat → ClassId} {F : Nat → Option Nat} {Y : va_W} {sz : Nat} {p0 : St} {s0 : St} {b0 : (Nat → Int64)} {r : Int32} {s' : St} {b' : (Nat → Int64)} (hf : f_S_deploy p0 s0 b0 = some (r, s', b')) : sr_Ci l y_S_deploy w_S_deploy (sr_rm 6 131) D (tNN vs t rv) (wN g vs h t ro rv F Y s0 p0 b0) (wN g vs h t ro rv F Y s' p0 b') sz [.ref (g 0)] r := by
  refine Met.ofW (cc := b_S_deploy) (maxL := 2) (ret := (some .int)) (by decide) rfl ?_
  intro p e s m args below meth c s₁ B hml hv
  obtain ⟨rfl, hsz, hP, hK, hD0⟩ := hv
  subst hsz
  have X : sr_X D (tNN vs t rv) b_S_deploy 2 R_S w_S_deploy p s m _ meth c (va_A (wN g vs h t ro rv F Y s0 p0 b0) s.heap.size) (some .int) := ⟨B.exec, B.bytes, hml, findClass_of_methodNamed B.named, B.notSynchronized, atoms_spec (ws := w_S_deploy) B.pre, hK, fun q h => Or.inr h, B.returns⟩
  have Z : sr_Z D (va_A (wN g vs h t ro rv F Y s0 p0 b0) s.heap.size) s.heap (wN g vs h t ro rv F Y s0 p0 b0) s.heap [] := ⟨hP, hD0.self, va_S.rf⟩
  have hl := lv_entry ([.ref (g 0)] : List Value) (n := 2) (Nat.le_of_ble_eq_true rfl)
  rw [lg_entry_eq]
  exact k_S_deploy_0 X Z hl hf
/-! S_message -/
theorem d_S_message_0 : decode b_S_message 0 = .ok (.aload_n 0, 1) := by decide +kernel
theorem d_S_message_1 : decode b_S_message 1 = .ok (.iload_n 2, 1) := by decide +kernel
theorem d_S_message_2 : decode b_S_message 2 = .ok (.invokevirtual 75, 3) := by decide +kernel
theorem d_S_message_5 : decode b_S_message 5 = .ok (.istore 4, 2) := by decide +kernel
theorem d_S_message_7 : decode b_S_message 7 = .ok (.aload_n 0, 1) := by decide +kernel
theorem d_S_message_8 : decode b_S_message 8 = .ok (.iload 4, 2) := by decide +kernel
theorem d_S_message_10 : decode b_S_message 10 = .ok (.invokevirtual 79, 3) := by decide +kernel
theorem d_S_message_13 : decode b_S_message 13 = .ok (.astore 5, 2) := by decide +kernel
theorem d_S_message_15 : decode b_S_message 15 = .ok (.aload 5, 2) := by decide +kernel
theorem d_S_message_17 : decode b_S_message 17 = .ok (.ifnull 20, 3) := by decide +kernel
theorem d_S_message_20 : decode b_S_message 20 = .ok (.aload 5, 2) := by decide +kernel
theorem d_S_message_22 : decode b_S_message 22 = .ok (.iload_n 1, 1) := by decide +kernel
theorem d_S_message_23 : decode b_S_message 23 = .ok (.iload_n 3, 1) := by decide +kernel
theorem d_S_message_24 : decode b_S_message 24 = .ok (.invokevirtual 83, 3) := by decide +kernel
theorem d_S_message_27 : decode b_S_message 27 = .ok (.ifCond .eq 8, 3) := by decide +kernel
theorem d_S_message_30 : decode b_S_message 30 = .ok (.iload 4, 2) := by decide +kernel
theorem d_S_message_32 : decode b_S_message 32 = .ok (.goto 4, 3) := by decide +kernel
theorem d_S_message_35 : decode b_S_message 35 = .ok (.iconst (-1), 1) := by decide +kernel
theorem d_S_message_36 : decode b_S_message 36 = .ok (.ireturn, 1) := by decide +kernel
theorem d_S_message_37 : decode b_S_message 37 = .ok (.aload_n 0, 1) := by decide +kernel
theorem d_S_message_38 : decode b_S_message 38 = .ok (.getfield 31, 3) := by decide +kernel
theorem d_S_message_41 : decode b_S_message 41 = .ok (.ifCond .eq 23, 3) := by decide +kernel
theorem d_S_message_44 : decode b_S_message 44 = .ok (.aload_n 0, 1) := by decide +kernel
theorem d_S_message_45 : decode b_S_message 45 = .ok (.getfield 86, 3) := by decide +kernel
theorem d_S_message_48 : decode b_S_message 48 = .ok (.bipush 8, 2) := by decide +kernel
theorem d_S_message_50 : decode b_S_message 50 = .ok (.if_icmp .ge 14, 3) := by decide +kernel
theorem d_S_message_53 : decode b_S_message 53 = .ok (.aload_n 0, 1) := by decide +kernel
theorem d_S_message_54 : decode b_S_message 54 = .ok (.getfield 10, 3) := by decide +kernel
theorem d_S_message_57 : decode b_S_message 57 = .ok (.iload_n 1, 1) := by decide +kernel
theorem d_S_message_58 : decode b_S_message 58 = .ok (.invokevirtual 89, 3) := by decide +kernel
theorem d_S_message_61 : decode b_S_message 61 = .ok (.ifCond .ne 5, 3) := by decide +kernel
theorem d_S_message_64 : decode b_S_message 64 = .ok (.iconst (-1), 1) := by decide +kernel
theorem d_S_message_65 : decode b_S_message 65 = .ok (.ireturn, 1) := by decide +kernel
theorem d_S_message_66 : decode b_S_message 66 = .ok (.aload_n 0, 1) := by decide +kernel
theorem d_S_message_67 : decode b_S_message 67 = .ok (.getfield 27, 3) := by decide +kernel
theorem d_S_message_70 : decode b_S_message 70 = .ok (.aload_n 0, 1) := by decide +kernel
theorem d_S_message_71 : decode b_S_message 71 = .ok (.getfield 86, 3) := by decide +kernel
theorem d_S_message_74 : decode b_S_message 74 = .ok (.new 25, 3) := by decide +kernel
theorem d_S_message_77 : decode b_S_message 77 = .ok (.dup, 1) := by decide +kernel
theorem d_S_message_78 : decode b_S_message 78 = .ok (.aload_n 0, 1) := by decide +kernel
theorem d_S_message_79 : decode b_S_message 79 = .ok (.getfield 10, 3) := by decide +kernel
theorem d_S_message_82 : decode b_S_message 82 = .ok (.iload_n 2, 1) := by decide +kernel
theorem d_S_message_83 : decode b_S_message 83 = .ok (.iload_n 3, 1) := by decide +kernel
theorem d_S_message_84 : decode b_S_message 84 = .ok (.invokespecial 92, 3) := by decide +kernel
theorem d_S_message_87 : decode b_S_message 87 = .ok (.aastore, 1) := by decide +kernel
theorem d_S_message_88 : decode b_S_message 88 = .ok (.aload_n 0, 1) := by decide +kernel
theorem d_S_message_89 : decode b_S_message 89 = .ok (.dup, 1) := by decide +kernel
theorem d_S_message_90 : decode b_S_message 90 = .ok (.getfield 86, 3) := by decide +kernel
theorem d_S_message_93 : decode b_S_message 93 = .ok (.iconst 1, 1) := by decide +kernel
theorem d_S_message_94 : decode b_S_message 94 = .ok (.iadd, 1) := by decide +kernel
theorem d_S_message_95 : decode b_S_message 95 = .ok (.putfield 86, 3) := by decide +kernel
theorem d_S_message_98 : decode b_S_message 98 = .ok (.aload_n 0, 1) := by decide +kernel
theorem d_S_message_99 : decode b_S_message 99 = .ok (.getfield 86, 3) := by decide +kernel
theorem d_S_message_102 : decode b_S_message 102 = .ok (.iconst 1, 1) := by decide +kernel
theorem d_S_message_103 : decode b_S_message 103 = .ok (.isub, 1) := by decide +kernel
theorem d_S_message_104 : decode b_S_message 104 = .ok (.ireturn, 1) := by decide +kernel
section
variable {p : Program} {l : Launch} {e : Env} {s : State} {m : MethodId} {args : Array Value} {below : List Frame} {meth : Method} {c : Code} {H : Heap} {locs : List Loc} {ls : Array Slot} {D : va_G} {A : Nat → Prop} {g h ro o : Nat → Nat} {vs : ClassId} {t rv v : Nat → ClassId} {F : Nat → Option Nat} {Y : va_W}
def f_S_message_n (k0 : Int32) (s0 : St) (p0 : St) (b0 : (Nat → Int64)) (x1 : Int32) (x2 : Int32) (x3 : Int32) : Option (Int32) :=
  (sr_no (s0 0 0) k0).bind fun _ =>
  if (s0 1 0) = 0 then
    some (-1)
  else
    if 8 ≤ (s0 0 0) then
      some (-1)
    else
      (f_P_startsWith p0 x1).bind fun v_4 =>
      if v_4 = 0 then
        some (-1)
      else
        none
set_option maxHeartbeats 4000000 in
set_option maxRecDepth 100000 in
theorem k_S_message_n_0 {k0 : Int32} {s0 : St} {p0 : St} {b0 : (Nat → Int64)} {x1 : Int32} {x2 : Int32} {x3 : Int32} {r : Int32} (X : sr_X D (tNN vs t rv) b_S_message 6 R_S w_S_message p s m args meth c A (some .int)) (hRW : ∀ sz, sr_Ci l y_S_runningWith w_S_runningWith (sr_rm 1 21) D (tNN vs t rv) (wN g vs h t ro rv F Y s0 p0 b0) (wN g vs h t ro rv F Y s0 p0 b0) sz [.ref (g 0), .int x2] k0) (Z : sr_Z D A s.heap (wN g vs h t ro rv F Y s0 p0 b0) H locs) (hl : lv_has ls 6 [(0, .ref (g 0)), (1, .int x1), (2, .int x2), (3, .int x3)]) (hf : f_S_message_n k0 s0 p0 b0 x1 x2 x3 = some r) : W p l e (sr_rm 6 139) s m args below meth c H locs 0 0 (sr_Qi D (tNN vs t rv) below args s A (wN g vs h t ro rv F Y s0 p0 b0) r) (F0 m 0 ls []) := by
  have hx := X.1
  have hb := X.2.1
  have hK := X.2.2.2.2.2.2.1
  unfold f_S_message_n at hf
  refine lv_aload_n hx hb d_S_message_0 rfl (lv_at hl 0 rfl) ?_
  refine lv_iload_n hx hb d_S_message_1 rfl (lv_at hl 2 rfl) ?_
  refine sr_cVi (As := [.int x2]) (rest := []) X Z sr_cut_self hK (hRW _) (cw_S_75 X.2.2.2.2.2.1 (by decide)) 0 rfl rfl rfl hl rfl (Nat.le_of_ble_eq_true rfl) d_S_message_2 (fun H locs Z => ?_)
  refine lv_istore (lv' := [(4, .int k0), (0, .ref (g 0)), (1, .int x1), (2, .int x2), (3, .int x3)]) hx hb d_S_message_5 hl (by decide) rfl (fun ls hl => ?_)
  refine lv_aload_n hx hb d_S_message_7 rfl (lv_at hl 1 rfl) ?_
  refine lv_iload hx hb d_S_message_8 (lv_at hl 0 rfl) ?_
  obtain ⟨_, e_1, hf⟩ := sr_b hf
  refine sr_cVqN (As := [.int k0]) (rest := []) X Z sr_cut_self hK (c_S_find_n e_1) (cw_S_79 X.2.2.2.2.2.1 (by decide)) 0 rfl rfl rfl hl rfl (Nat.le_of_ble_eq_true rfl) d_S_message_10 (fun H locs Z => ?_)
  refine lv_astoreN (lv' := [(5, .null), (4, .int k0), (0, .ref (g 0)), (1, .int x1), (2, .int x2), (3, .int x3)]) hx hb d_S_message_13 hl (by decide) rfl (fun ls hl => ?_)
  refine lv_aloadN hx hb d_S_message_15 (lv_at hl 0 rfl) ?_
  refine lv_ifnullN (tgt := 37) hx hb d_S_message_17 rfl ?_
  refine lv_aload_n hx hb d_S_message_37 rfl (lv_at hl 2 rfl) ?_
  refine g_S_31_N X Z d_S_message_38 ?_
  refine lv_if_eq (tgt := 64) hx hb d_S_message_41 rfl (fun q_2 => ?_) (fun q_2 => ?_)
  · have hf := sr_it q_2 hf
    refine lv_iconst (v := -1) hx hb d_S_message_64 (by decide) ?_
    cases hf
    exact sr_reti X Z d_S_message_65
  · have hf := sr_if q_2 hf
    refine lv_aload_n hx hb d_S_message_44 rfl (lv_at hl 2 rfl) ?_
    refine g_S_86_N X Z d_S_message_45 ?_
    refine lv_bipush (v := 8) hx hb d_S_message_48 (by decide) ?_
    refine lv_icmp_ge (tgt := 64) hx hb d_S_message_50 rfl (fun q_3 => ?_) (fun q_3 => ?_)
    · have hf := sr_it q_3 hf
      refine lv_iconst (v := -1) hx hb d_S_message_64 (by decide) ?_
      cases hf
      exact sr_reti X Z d_S_message_65
    · have hf := sr_if q_3 hf
      refine lv_aload_n hx hb d_S_message_53 rfl (lv_at hl 2 rfl) ?_
      refine g_S_10_N X Z d_S_message_54 ?_
      refine lv_iload_n hx hb d_S_message_57 rfl (lv_at hl 3 rfl) ?_
      obtain ⟨v_4, e_5, hf⟩ := sr_b hf
      refine sr_cVi (As := [.int x1]) (rest := []) X Z cut_NP (k_NP hK) (c_P_startsWith e_5) (cw_S_89 X.2.2.2.2.2.1 (by decide)) 2 rfl rfl rfl hl rfl (Nat.le_of_ble_eq_true rfl) d_S_message_58 (fun H locs Z => ?_)
      refine lv_if_ne (tgt := 66) hx hb d_S_message_61 rfl (fun q_6 => ?_) (fun q_6 => ?_)
      · have hf := sr_if q_6 hf
        refine lv_aload_n hx hb d_S_message_66 rfl (lv_at hl 2 rfl) ?_
        refine g_S_27_N X Z d_S_message_67 ?_
        refine lv_aload_n hx hb d_S_message_70 rfl (lv_at hl 2 rfl) ?_
        refine g_S_86_N X Z d_S_message_71 ?_
        cases hf
      · have hf := sr_it q_6 hf
        refine lv_iconst (v := -1) hx hb d_S_message_64 (by decide) ?_
        cases hf
        exact sr_reti X Z d_S_message_65
end
set_option maxHeartbeats 4000000 in
set_option maxRecDepth 100000 in
theorem c_S_message_n {l : Launch} {D : va_G} {g : Nat → Nat} {vs : ClassId} {h : Nat → Nat} {t : Nat → ClassId} {ro : Nat → Nat} {rv : Nat → ClassId} {F : Nat → Option Nat} {Y : va_W} {sz : Nat} {k0 : Int32} {s0 : St} {p0 : St} {b0 : (Nat → Int64)} {x1 : Int32} {x2 : Int32} {x3 : Int32} {r : Int32} (hRW : ∀ sz, sr_Ci l y_S_runningWith w_S_runningWith (sr_rm 1 21) D (tNN vs t rv) (wN g vs h t ro rv F Y s0 p0 b0) (wN g vs h t ro rv F Y s0 p0 b0) sz [.ref (g 0), .int x2] k0) (hf : f_S_message_n k0 s0 p0 b0 x1 x2 x3 = some r) : sr_Ci l y_S_message w_S_message (sr_rm 6 139) D (tNN vs t rv) (wN g vs h t ro rv F Y s0 p0 b0) (wN g vs h t ro rv F Y s0 p0 b0) sz [.ref (g 0), .int x1, .int x2, .int x3] r := by
  refine Met.ofW (cc := b_S_message) (maxL := 6) (ret := (some .int)) (by decide) rfl ?_
  intro p e s m args below meth c s₁ B hml hv
  obtain ⟨rfl, hsz, hP, hK, hD0⟩ := hv
  subst hsz
  have X : sr_X D (tNN vs t rv) b_S_message 6 R_S w_S_message p s m _ meth c (va_A (wN g vs h t ro rv F Y s0 p0 b0) s.heap.size) (some .int) := ⟨B.exec, B.bytes, hml, findClass_of_methodNamed B.named, B.notSynchronized, atoms_spec (ws := w_S_message) B.pre, hK, fun q h => Or.inr h, B.returns⟩
  have Z : sr_Z D (va_A (wN g vs h t ro rv F Y s0 p0 b0) s.heap.size) s.heap (wN g vs h t ro rv F Y s0 p0 b0) s.heap [] := ⟨hP, hD0.self, va_S.rf⟩
  have hl := lv_entry ([.ref (g 0), .int x1, .int x2, .int x3] : List Value) (n := 6) (Nat.le_of_ble_eq_true rfl)
  rw [lg_entry_eq]
  exact k_S_message_n_0 X hRW Z hl hf
section
variable {p : Program} {l : Launch} {e : Env} {s : State} {m : MethodId} {args : Array Value} {below : List Frame} {meth : Method} {c : Code} {H : Heap} {locs : List Loc} {ls : Array Slot} {D : va_G} {A : Nat → Prop} {g h ro o : Nat → Nat} {vs : ClassId} {t rv v : Nat → ClassId} {F : Nat → Option Nat} {Y : va_W}
def f_S_message_j (k0 : Int32) (j0 : Nat) (s0 : St) (p0 : St) (b0 : (Nat → Int64)) (x1 : Int32) (x2 : Int32) (x3 : Int32) (i0 : St) : Option (Int32 × St) :=
  (sr_yes j0 (s0 0 0) k0).bind fun _ =>
  sr_b2 (f_I_takeMessage p0 x1 x3 i0) fun v_2 i_3 =>
  if v_2 = 0 then
    some (-1, i_3)
  else
    some (k0, i_3)
set_option maxHeartbeats 4000000 in
set_option maxRecDepth 100000 in
theorem k_S_message_j_0 {k0 : Int32} {j0 : Nat} {s0 : St} {p0 : St} {b0 : (Nat → Int64)} {x1 : Int32} {x2 : Int32} {x3 : Int32} {i0 : St} {r : Int32} {i' : St} (X : sr_X D (tJJ vs t rv v) b_S_message 6 R_S w_S_message p s m args meth c A (some .int)) (hRW : ∀ sz, sr_Ci l y_S_runningWith w_S_runningWith (sr_rm 1 21) D (tNN vs t rv) (wJJ g vs h t ro rv F Y o v j0 s0 p0 b0 i0) (wJJ g vs h t ro rv F Y o v j0 s0 p0 b0 i0) sz [.ref (g 0), .int x2] k0) (Z : sr_Z D A s.heap (wJJ g vs h t ro rv F Y o v j0 s0 p0 b0 i0) H locs) (hl : lv_has ls 6 [(0, .ref (g 0)), (1, .int x1), (2, .int x2), (3, .int x3)]) (hf : f_S_message_j k0 j0 s0 p0 b0 x1 x2 x3 i0 = some (r, i')) : W p l e (sr_rm 6 139) s m args below meth c H locs 0 0 (sr_Qi D (tJJ vs t rv v) below args s A (wJJ g vs h t ro rv F Y o v j0 s0 p0 b0 i') r) (F0 m 0 ls []) := by
  have hx := X.1
  have hb := X.2.1
  have hK := X.2.2.2.2.2.2.1
  unfold f_S_message_j at hf
  refine lv_aload_n hx hb d_S_message_0 rfl (lv_at hl 0 rfl) ?_
  refine lv_iload_n hx hb d_S_message_1 rfl (lv_at hl 2 rfl) ?_
  refine sr_cVi (As := [.int x2]) (rest := []) X Z sr_cut_self (k_JN hK) (hRW _) (cw_S_75 X.2.2.2.2.2.1 (by decide)) 0 rfl rfl rfl hl rfl (Nat.le_of_ble_eq_true rfl) d_S_message_2 (fun H locs Z => ?_)
  refine lv_istore (lv' := [(4, .int k0), (0, .ref (g 0)), (1, .int x1), (2, .int x2), (3, .int x3)]) hx hb d_S_message_5 hl (by decide) rfl (fun ls hl => ?_)
  refine lv_aload_n hx hb d_S_message_7 rfl (lv_at hl 1 rfl) ?_
  refine lv_iload hx hb d_S_message_8 (lv_at hl 0 rfl) ?_
  obtain ⟨_, e_1, hf⟩ := sr_b hf
  refine sr_cVqR (As := [.int k0]) (rest := []) X Z sr_cut_self (k_JN hK) (c_S_find_j e_1) (cw_S_79 X.2.2.2.2.2.1 (by decide)) 0 rfl rfl rfl hl rfl (Nat.le_of_ble_eq_true rfl) d_S_message_10 (fun H locs Z => ?_)
  refine lv_astore (lv' := [(5, .ref (o 0)), (4, .int k0), (0, .ref (g 0)), (1, .int x1), (2, .int x2), (3, .int x3)]) hx hb d_S_message_13 hl (by decide) rfl (fun ls hl => ?_)
  refine lv_aload hx hb d_S_message_15 (lv_at hl 0 rfl) ?_
  refine lv_ifnull hx hb d_S_message_17 ?_
  refine lv_aload hx hb d_S_message_20 (lv_at hl 0 rfl) ?_
  refine lv_iload_n hx hb d_S_message_22 rfl (lv_at hl 3 rfl) ?_
  refine lv_iload_n hx hb d_S_message_23 rfl (lv_at hl 5 rfl) ?_
  obtain ⟨v_2, i_3, e_4, hf⟩ := sr_b2_i hf
  refine sr_cVi (As := [.int x1, .int x3]) (rest := []) X Z cut_JI (k_JI hK) (c_I_takeMessage e_4) (cw_S_83 X.2.2.2.2.2.1 (by decide)) 19 rfl rfl rfl hl rfl (Nat.le_of_ble_eq_true rfl) d_S_message_24 (fun H locs Z => ?_)
  refine lv_if_eq (tgt := 35) hx hb d_S_message_27 rfl (fun q_5 => ?_) (fun q_5 => ?_)
  · have hf := sr_it q_5 hf
    refine lv_iconst (v := -1) hx hb d_S_message_35 (by decide) ?_
    cases hf
    exact sr_reti X Z d_S_message_36
  · have hf := sr_if q_5 hf
    refine lv_iload hx hb d_S_message_30 (lv_at hl 1 rfl) ?_
    refine lv_goto (tgt := 36) hx hb d_S_message_32 rfl ?_
    cases hf
    exact sr_reti X Z d_S_message_36
end
set_option maxHeartbeats 4000000 in
set_option maxRecDepth 100000 in
theorem c_S_message_j {l : Launch} {D : va_G} {g : Nat → Nat} {vs : ClassId} {h : Nat → Nat} {t : Nat → ClassId} {ro : Nat → Nat} {rv : Nat → ClassId} {F : Nat → Option Nat} {Y : va_W} {o : Nat → Nat} {v : Nat → ClassId} {sz : Nat} {k0 : Int32} {j0 : Nat} {s0 : St} {p0 : St} {b0 : (Nat → Int64)} {x1 : Int32} {x2 : Int32} {x3 : Int32} {i0 : St} {r : Int32} {i' : St} (hRW : ∀ sz, sr_Ci l y_S_runningWith w_S_runningWith (sr_rm 1 21) D (tNN vs t rv) (wJJ g vs h t ro rv F Y o v j0 s0 p0 b0 i0) (wJJ g vs h t ro rv F Y o v j0 s0 p0 b0 i0) sz [.ref (g 0), .int x2] k0) (hf : f_S_message_j k0 j0 s0 p0 b0 x1 x2 x3 i0 = some (r, i')) : sr_Ci l y_S_message w_S_message (sr_rm 6 139) D (tJJ vs t rv v) (wJJ g vs h t ro rv F Y o v j0 s0 p0 b0 i0) (wJJ g vs h t ro rv F Y o v j0 s0 p0 b0 i') sz [.ref (g 0), .int x1, .int x2, .int x3] r := by
  refine Met.ofW (cc := b_S_message) (maxL := 6) (ret := (some .int)) (by decide) rfl ?_
  intro p e s m args below meth c s₁ B hml hv
  obtain ⟨rfl, hsz, hP, hK, hD0⟩ := hv
  subst hsz
  have X : sr_X D (tJJ vs t rv v) b_S_message 6 R_S w_S_message p s m _ meth c (va_A (wJJ g vs h t ro rv F Y o v j0 s0 p0 b0 i0) s.heap.size) (some .int) := ⟨B.exec, B.bytes, hml, findClass_of_methodNamed B.named, B.notSynchronized, atoms_spec (ws := w_S_message) B.pre, hK, fun q h => Or.inr h, B.returns⟩
  have Z : sr_Z D (va_A (wJJ g vs h t ro rv F Y o v j0 s0 p0 b0 i0) s.heap.size) s.heap (wJJ g vs h t ro rv F Y o v j0 s0 p0 b0 i0) s.heap [] := ⟨hP, hD0.self, va_S.rf⟩
  have hl := lv_entry ([.ref (g 0), .int x1, .int x2, .int x3] : List Value) (n := 6) (Nat.le_of_ble_eq_true rfl)
  rw [lg_entry_eq]
  exact k_S_message_j_0 X hRW Z hl hf
/-! S_run -/
theorem d_S_run_0 : decode b_S_run 0 = .ok (.aload_n 0, 1) := by decide +kernel
theorem d_S_run_1 : decode b_S_run 1 = .ok (.iload_n 1, 1) := by decide +kernel
theorem d_S_run_2 : decode b_S_run 2 = .ok (.invokevirtual 79, 3) := by decide +kernel
theorem d_S_run_5 : decode b_S_run 5 = .ok (.astore_n 3, 1) := by decide +kernel
theorem d_S_run_6 : decode b_S_run 6 = .ok (.aload_n 3, 1) := by decide +kernel
theorem d_S_run_7 : decode b_S_run 7 = .ok (.ifnull 14, 3) := by decide +kernel
theorem d_S_run_10 : decode b_S_run 10 = .ok (.iload_n 2, 1) := by decide +kernel
theorem d_S_run_11 : decode b_S_run 11 = .ok (.iconst 1, 1) := by decide +kernel
theorem d_S_run_12 : decode b_S_run 12 = .ok (.if_icmp .lt 9, 3) := by decide +kernel
theorem d_S_run_15 : decode b_S_run 15 = .ok (.iload_n 2, 1) := by decide +kernel
theorem d_S_run_16 : decode b_S_run 16 = .ok (.bipush 50, 2) := by decide +kernel
theorem d_S_run_18 : decode b_S_run 18 = .ok (.if_icmp .le 5, 3) := by decide +kernel
theorem d_S_run_21 : decode b_S_run 21 = .ok (.iconst 0, 1) := by decide +kernel
theorem d_S_run_22 : decode b_S_run 22 = .ok (.ireturn, 1) := by decide +kernel
theorem d_S_run_23 : decode b_S_run 23 = .ok (.iconst 0, 1) := by decide +kernel
theorem d_S_run_24 : decode b_S_run 24 = .ok (.istore 4, 2) := by decide +kernel
theorem d_S_run_26 : decode b_S_run 26 = .ok (.iload 4, 2) := by decide +kernel
theorem d_S_run_28 : decode b_S_run 28 = .ok (.iload_n 2, 1) := by decide +kernel
theorem d_S_run_29 : decode b_S_run 29 = .ok (.if_icmp .ge 16, 3) := by decide +kernel
theorem d_S_run_32 : decode b_S_run 32 = .ok (.aload_n 3, 1) := by decide +kernel
theorem d_S_run_33 : decode b_S_run 33 = .ok (.invokevirtual 95, 3) := by decide +kernel
theorem d_S_run_36 : decode b_S_run 36 = .ok (.ifCond .eq 9, 3) := by decide +kernel
theorem d_S_run_39 : decode b_S_run 39 = .ok (.iinc 4 1, 3) := by decide +kernel
theorem d_S_run_42 : decode b_S_run 42 = .ok (.goto (-16), 3) := by decide +kernel
theorem d_S_run_45 : decode b_S_run 45 = .ok (.iload 4, 2) := by decide +kernel
theorem d_S_run_47 : decode b_S_run 47 = .ok (.ireturn, 1) := by decide +kernel
section
variable {p : Program} {l : Launch} {e : Env} {s : State} {m : MethodId} {args : Array Value} {below : List Frame} {meth : Method} {c : Code} {H : Heap} {locs : List Loc} {ls : Array Slot} {D : va_G} {A : Nat → Prop} {g h ro o : Nat → Nat} {vs : ClassId} {t rv v : Nat → ClassId} {F : Nat → Option Nat} {Y : va_W}
def f_S_run_n (s0 : St) (p0 : St) (b0 : (Nat → Int64)) (x1 : Int32) (x2 : Int32) : Option (Int32) :=
  (sr_no (s0 0 0) x1).bind fun _ =>
  some 0
set_option maxHeartbeats 4000000 in
set_option maxRecDepth 100000 in
theorem k_S_run_n_0 {s0 : St} {p0 : St} {b0 : (Nat → Int64)} {x1 : Int32} {x2 : Int32} {r : Int32} (X : sr_X D (tNN vs t rv) b_S_run 5 R_S w_S_run p s m args meth c A (some .int)) (Z : sr_Z D A s.heap (wN g vs h t ro rv F Y s0 p0 b0) H locs) (hl : lv_has ls 5 [(0, .ref (g 0)), (1, .int x1), (2, .int x2)]) (hf : f_S_run_n s0 p0 b0 x1 x2 = some r) : W p l e (sr_rm 6 137) s m args below meth c H locs 0 0 (sr_Qi D (tNN vs t rv) below args s A (wN g vs h t ro rv F Y s0 p0 b0) r) (F0 m 0 ls []) := by
  have hx := X.1
  have hb := X.2.1
  have hK := X.2.2.2.2.2.2.1
  unfold f_S_run_n at hf
  refine lv_aload_n hx hb d_S_run_0 rfl (lv_at hl 0 rfl) ?_
  refine lv_iload_n hx hb d_S_run_1 rfl (lv_at hl 1 rfl) ?_
  obtain ⟨_, e_1, hf⟩ := sr_b hf
  refine sr_cVqN (As := [.int x1]) (rest := []) X Z sr_cut_self hK (c_S_find_n e_1) (cw_S_79 X.2.2.2.2.2.1 (by decide)) 0 rfl rfl rfl hl rfl (Nat.le_of_ble_eq_true rfl) d_S_run_2 (fun H locs Z => ?_)
  refine lv_astore_nN (lv' := [(3, .null), (0, .ref (g 0)), (1, .int x1), (2, .int x2)]) hx hb d_S_run_5 rfl hl (by decide) rfl (fun ls hl => ?_)
  refine lv_aload_nN hx hb d_S_run_6 rfl (lv_at hl 0 rfl) ?_
  refine lv_ifnullN (tgt := 21) hx hb d_S_run_7 rfl ?_
  refine lv_iconst (v := 0) hx hb d_S_run_21 (by decide) ?_
  cases hf
  exact sr_reti X Z d_S_run_22
end
set_option maxHeartbeats 4000000 in
set_option maxRecDepth 100000 in
theorem c_S_run_n {l : Launch} {D : va_G} {g : Nat → Nat} {vs : ClassId} {h : Nat → Nat} {t : Nat → ClassId} {ro : Nat → Nat} {rv : Nat → ClassId} {F : Nat → Option Nat} {Y : va_W} {sz : Nat} {s0 : St} {p0 : St} {b0 : (Nat → Int64)} {x1 : Int32} {x2 : Int32} {r : Int32} (hf : f_S_run_n s0 p0 b0 x1 x2 = some r) : sr_Ci l y_S_run w_S_run (sr_rm 6 137) D (tNN vs t rv) (wN g vs h t ro rv F Y s0 p0 b0) (wN g vs h t ro rv F Y s0 p0 b0) sz [.ref (g 0), .int x1, .int x2] r := by
  refine Met.ofW (cc := b_S_run) (maxL := 5) (ret := (some .int)) (by decide) rfl ?_
  intro p e s m args below meth c s₁ B hml hv
  obtain ⟨rfl, hsz, hP, hK, hD0⟩ := hv
  subst hsz
  have X : sr_X D (tNN vs t rv) b_S_run 5 R_S w_S_run p s m _ meth c (va_A (wN g vs h t ro rv F Y s0 p0 b0) s.heap.size) (some .int) := ⟨B.exec, B.bytes, hml, findClass_of_methodNamed B.named, B.notSynchronized, atoms_spec (ws := w_S_run) B.pre, hK, fun q h => Or.inr h, B.returns⟩
  have Z : sr_Z D (va_A (wN g vs h t ro rv F Y s0 p0 b0) s.heap.size) s.heap (wN g vs h t ro rv F Y s0 p0 b0) s.heap [] := ⟨hP, hD0.self, va_S.rf⟩
  have hl := lv_entry ([.ref (g 0), .int x1, .int x2] : List Value) (n := 5) (Nat.le_of_ble_eq_true rfl)
  rw [lg_entry_eq]
  exact k_S_run_n_0 X Z hl hf
section
variable {p : Program} {l : Launch} {e : Env} {s : State} {m : MethodId} {args : Array Value} {below : List Frame} {meth : Method} {c : Code} {H : Heap} {locs : List Loc} {ls : Array Slot} {D : va_G} {A : Nat → Prop} {g h ro o : Nat → Nat} {vs : ClassId} {t rv v : Nat → ClassId} {F : Nat → Option Nat} {Y : va_W}
def f_S_run_j_26 (k26 : Int32 → Int32 → St → Option (Int32 × St)) (j0 : Nat) (s0 : St) (p0 : St) (b0 : (Nat → Int64)) (x2 : Int32) (x4 : Int32) (i0 : St) : Option (Int32 × St) :=
  if x2 ≤ x4 then
    some (x4, i0)
  else
    sr_b2 (f_I_makeStep p0 i0) fun v_5 i_6 =>
    if v_5 = 0 then
      some (x4, i_6)
    else
      k26 x2 (x4 + 1) i_6
set_option maxHeartbeats 4000000 in
set_option maxRecDepth 100000 in
theorem k_S_run_j_26 {k26 : Int32 → Int32 → St → Option (Int32 × St)} {j0 : Nat} {s0 : St} {p0 : St} {b0 : (Nat → Int64)} {x2 : Int32} {x4 : Int32} {i0 : St} {r : Int32} {i' : St} (X : sr_X D (tJJ vs t rv v) b_S_run 5 R_S w_S_run p s m args meth c A (some .int)) (hk26 : ∀ (x2 : Int32) (x4 : Int32) (i0 : St) (H : Heap) (locs : List Loc) (ls : Array Slot), sr_Z D A s.heap (wJJ g vs h t ro rv F Y o v j0 s0 p0 b0 i0) H locs → lv_has ls 5 [(2, .int x2), (3, .ref (o 0)), (4, .int x4)] → k26 x2 x4 i0 = some (r, i') → W p l e (sr_rm 6 137) s m args below meth c H locs 0 0 (sr_Qi D (tJJ vs t rv v) below args s A (wJJ g vs h t ro rv F Y o v j0 s0 p0 b0 i') r) (F0 m 26 ls [])) (Z : sr_Z D A s.heap (wJJ g vs h t ro rv F Y o v j0 s0 p0 b0 i0) H locs) (hl : lv_has ls 5 [(2, .int x2), (3, .ref (o 0)), (4, .int x4)]) (hf : f_S_run_j_26 k26 j0 s0 p0 b0 x2 x4 i0 = some (r, i')) : W p l e (sr_rm 6 137) s m args below meth c H locs 0 0 (sr_Qi D (tJJ vs t rv v) below args s A (wJJ g vs h t ro rv F Y o v j0 s0 p0 b0 i') r) (F0 m 26 ls []) := by
  have hx := X.1
  have hb := X.2.1
  have hK := X.2.2.2.2.2.2.1
  unfold f_S_run_j_26 at hf
  refine lv_iload hx hb d_S_run_26 (lv_at hl 2 rfl) ?_
  refine lv_iload_n hx hb d_S_run_28 rfl (lv_at hl 0 rfl) ?_
  refine lv_icmp_ge (tgt := 45) hx hb d_S_run_29 rfl (fun q_4 => ?_) (fun q_4 => ?_)
  · have hf := sr_it q_4 hf
    refine lv_iload hx hb d_S_run_45 (lv_at hl 2 rfl) ?_
    cases hf
    exact sr_reti X Z d_S_run_47
  · have hf := sr_if q_4 hf
    refine lv_aload_n hx hb d_S_run_32 rfl (lv_at hl 1 rfl) ?_
    obtain ⟨v_5, i_6, e_7, hf⟩ := sr_b2_i hf
    refine sr_cVi (As := []) (rest := []) X Z cut_JI (k_JI hK) (c_I_makeStep e_7) (cw_S_95 X.2.2.2.2.2.1 (by decide)) 19 rfl rfl rfl hl rfl (Nat.le_of_ble_eq_true rfl) d_S_run_33 (fun H locs Z => ?_)
    refine lv_if_eq (tgt := 45) hx hb d_S_run_36 rfl (fun q_8 => ?_) (fun q_8 => ?_)
    · have hf := sr_it q_8 hf
      refine lv_iload hx hb d_S_run_45 (lv_at hl 2 rfl) ?_
      cases hf
      exact sr_reti X Z d_S_run_47
    · have hf := sr_if q_8 hf
      refine lv_iinc (k := 2) (v := x4 + 1) (lv' := [(4, .int (x4 + 1)), (2, .int x2), (3, .ref (o 0))]) hx hb d_S_run_39 hl rfl rfl (by decide) rfl (fun ls hl => ?_)
      refine lv_goto (tgt := 26) hx hb d_S_run_42 rfl ?_
      exact hk26 x2 (x4 + 1) i_6 _ _ _ Z (lv_sub hl [1, 2, 0] rfl) hf
def f_S_run_j_26_it (j0 : Nat) (s0 : St) (p0 : St) (b0 : (Nat → Int64)) : Nat → Int32 → Int32 → St → Option (Int32 × St)
  | 0 => fun _ _ _ => none
  | n + 1 => fun x2 x4 i0 => f_S_run_j_26 (f_S_run_j_26_it j0 s0 p0 b0 n) j0 s0 p0 b0 x2 x4 i0
set_option maxHeartbeats 4000000 in
set_option maxRecDepth 100000 in
theorem k_S_run_j_26_it {j0 : Nat} {s0 : St} {p0 : St} {b0 : (Nat → Int64)} {r : Int32} {i' : St} (X : sr_X D (tJJ vs t rv v) b_S_run 5 R_S w_S_run p s m args meth c A (some .int)) (n : Nat) : ∀ {x2 : Int32} {x4 : Int32} {i0 : St} {H : Heap} {locs : List Loc} {ls : Array Slot}, sr_Z D A s.heap (wJJ g vs h t ro rv F Y o v j0 s0 p0 b0 i0) H locs → lv_has ls 5 [(2, .int x2), (3, .ref (o 0)), (4, .int x4)] → f_S_run_j_26_it j0 s0 p0 b0 n x2 x4 i0 = some (r, i') → W p l e (sr_rm 6 137) s m args below meth c H locs 0 0 (sr_Qi D (tJJ vs t rv v) below args s A (wJJ g vs h t ro rv F Y o v j0 s0 p0 b0 i') r) (F0 m 26 ls []) := by
  induction n with
  | zero => intro x2 x4 i0 H locs ls Z hl hf; exact absurd hf (by simp [f_S_run_j_26_it])
  | succ n ih =>
    intro x2 x4 i0 H locs ls Z hl hf
    exact k_S_run_j_26 X (fun x2 x4 i0 H locs ls Z hl hf => ih Z hl hf) Z hl hf
def f_S_run_j (j0 : Nat) (s0 : St) (p0 : St) (b0 : (Nat → Int64)) (x1 : Int32) (x2 : Int32) (i0 : St) : Option (Int32 × St) :=
  (sr_yes j0 (s0 0 0) x1).bind fun _ =>
  if x2 < 1 then
    some (0, i0)
  else
    if x2 ≤ 50 then
      f_S_run_j_26_it j0 s0 p0 b0 60 x2 0 i0
    else
      some (0, i0)
set_option maxHeartbeats 4000000 in
set_option maxRecDepth 100000 in
theorem k_S_run_j_0 {j0 : Nat} {s0 : St} {p0 : St} {b0 : (Nat → Int64)} {x1 : Int32} {x2 : Int32} {i0 : St} {r : Int32} {i' : St} (X : sr_X D (tJJ vs t rv v) b_S_run 5 R_S w_S_run p s m args meth c A (some .int)) (Z : sr_Z D A s.heap (wJJ g vs h t ro rv F Y o v j0 s0 p0 b0 i0) H locs) (hl : lv_has ls 5 [(0, .ref (g 0)), (1, .int x1), (2, .int x2)]) (hf : f_S_run_j j0 s0 p0 b0 x1 x2 i0 = some (r, i')) : W p l e (sr_rm 6 137) s m args below meth c H locs 0 0 (sr_Qi D (tJJ vs t rv v) below args s A (wJJ g vs h t ro rv F Y o v j0 s0 p0 b0 i') r) (F0 m 0 ls []) := by
  have hx := X.1
  have hb := X.2.1
  have hK := X.2.2.2.2.2.2.1
  unfold f_S_run_j at hf
  refine lv_aload_n hx hb d_S_run_0 rfl (lv_at hl 0 rfl) ?_
  refine lv_iload_n hx hb d_S_run_1 rfl (lv_at hl 1 rfl) ?_
  obtain ⟨_, e_1, hf⟩ := sr_b hf
  refine sr_cVqR (As := [.int x1]) (rest := []) X Z sr_cut_self (k_JN hK) (c_S_find_j e_1) (cw_S_79 X.2.2.2.2.2.1 (by decide)) 0 rfl rfl rfl hl rfl (Nat.le_of_ble_eq_true rfl) d_S_run_2 (fun H locs Z => ?_)
  refine lv_astore_n (lv' := [(3, .ref (o 0)), (0, .ref (g 0)), (1, .int x1), (2, .int x2)]) hx hb d_S_run_5 rfl hl (by decide) rfl (fun ls hl => ?_)
  refine lv_aload_n hx hb d_S_run_6 rfl (lv_at hl 0 rfl) ?_
  refine lv_ifnull hx hb d_S_run_7 ?_
  refine lv_iload_n hx hb d_S_run_10 rfl (lv_at hl 3 rfl) ?_
  refine lv_iconst (v := 1) hx hb d_S_run_11 (by decide) ?_
  refine lv_icmp_lt (tgt := 21) hx hb d_S_run_12 rfl (fun q_2 => ?_) (fun q_2 => ?_)
  · have hf := sr_it q_2 hf
    refine lv_iconst (v := 0) hx hb d_S_run_21 (by decide) ?_
    cases hf
    exact sr_reti X Z d_S_run_22
  · have hf := sr_if q_2 hf
    refine lv_iload_n hx hb d_S_run_15 rfl (lv_at hl 3 rfl) ?_
    refine lv_bipush (v := 50) hx hb d_S_run_16 (by decide) ?_
    refine lv_icmp_le (tgt := 23) hx hb d_S_run_18 rfl (fun q_3 => ?_) (fun q_3 => ?_)
    · have hf := sr_it q_3 hf
      refine lv_iconst (v := 0) hx hb d_S_run_23 (by decide) ?_
      refine lv_istore (lv' := [(4, .int 0), (3, .ref (o 0)), (0, .ref (g 0)), (1, .int x1), (2, .int x2)]) hx hb d_S_run_24 hl (by decide) rfl (fun ls hl => ?_)
      exact k_S_run_j_26_it X _ Z (lv_sub hl [4, 1, 0] rfl) hf
    · have hf := sr_if q_3 hf
      refine lv_iconst (v := 0) hx hb d_S_run_21 (by decide) ?_
      cases hf
      exact sr_reti X Z d_S_run_22
end
set_option maxHeartbeats 4000000 in
set_option maxRecDepth 100000 in
theorem c_S_run_j {l : Launch} {D : va_G} {g : Nat → Nat} {vs : ClassId} {h : Nat → Nat} {t : Nat → ClassId} {ro : Nat → Nat} {rv : Nat → ClassId} {F : Nat → Option Nat} {Y : va_W} {o : Nat → Nat} {v : Nat → ClassId} {sz : Nat} {j0 : Nat} {s0 : St} {p0 : St} {b0 : (Nat → Int64)} {x1 : Int32} {x2 : Int32} {i0 : St} {r : Int32} {i' : St} (hf : f_S_run_j j0 s0 p0 b0 x1 x2 i0 = some (r, i')) : sr_Ci l y_S_run w_S_run (sr_rm 6 137) D (tJJ vs t rv v) (wJJ g vs h t ro rv F Y o v j0 s0 p0 b0 i0) (wJJ g vs h t ro rv F Y o v j0 s0 p0 b0 i') sz [.ref (g 0), .int x1, .int x2] r := by
  refine Met.ofW (cc := b_S_run) (maxL := 5) (ret := (some .int)) (by decide) rfl ?_
  intro p e s m args below meth c s₁ B hml hv
  obtain ⟨rfl, hsz, hP, hK, hD0⟩ := hv
  subst hsz
  have X : sr_X D (tJJ vs t rv v) b_S_run 5 R_S w_S_run p s m _ meth c (va_A (wJJ g vs h t ro rv F Y o v j0 s0 p0 b0 i0) s.heap.size) (some .int) := ⟨B.exec, B.bytes, hml, findClass_of_methodNamed B.named, B.notSynchronized, atoms_spec (ws := w_S_run) B.pre, hK, fun q h => Or.inr h, B.returns⟩
  have Z : sr_Z D (va_A (wJJ g vs h t ro rv F Y o v j0 s0 p0 b0 i0) s.heap.size) s.heap (wJJ g vs h t ro rv F Y o v j0 s0 p0 b0 i0) s.heap [] := ⟨hP, hD0.self, va_S.rf⟩
  have hl := lv_entry ([.ref (g 0), .int x1, .int x2] : List Value) (n := 5) (Nat.le_of_ble_eq_true rfl)
  rw [lg_entry_eq]
  exact k_S_run_j_0 X Z hl hf
/-! S_answer -/
theorem d_S_answer_0 : decode b_S_answer 0 = .ok (.aload_n 0, 1) := by decide +kernel
theorem d_S_answer_1 : decode b_S_answer 1 = .ok (.iload_n 1, 1) := by decide +kernel
theorem d_S_answer_2 : decode b_S_answer 2 = .ok (.invokevirtual 79, 3) := by decide +kernel
theorem d_S_answer_5 : decode b_S_answer 5 = .ok (.astore 5, 2) := by decide +kernel
theorem d_S_answer_7 : decode b_S_answer 7 = .ok (.aload 5, 2) := by decide +kernel
theorem d_S_answer_9 : decode b_S_answer 9 = .ok (.ifnull 24, 3) := by decide +kernel
theorem d_S_answer_12 : decode b_S_answer 12 = .ok (.aload_n 0, 1) := by decide +kernel
theorem d_S_answer_13 : decode b_S_answer 13 = .ok (.getfield 10, 3) := by decide +kernel
theorem d_S_answer_16 : decode b_S_answer 16 = .ok (.iload_n 2, 1) := by decide +kernel
theorem d_S_answer_17 : decode b_S_answer 17 = .ok (.invokevirtual 48, 3) := by decide +kernel
theorem d_S_answer_20 : decode b_S_answer 20 = .ok (.ifCond .eq 13, 3) := by decide +kernel
theorem d_S_answer_23 : decode b_S_answer 23 = .ok (.iload_n 3, 1) := by decide +kernel
theorem d_S_answer_24 : decode b_S_answer 24 = .ok (.ifCond .lt 9, 3) := by decide +kernel
theorem d_S_answer_27 : decode b_S_answer 27 = .ok (.iload_n 3, 1) := by decide +kernel
theorem d_S_answer_28 : decode b_S_answer 28 = .ok (.bipush 99, 2) := by decide +kernel
theorem d_S_answer_30 : decode b_S_answer 30 = .ok (.if_icmp .le 5, 3) := by decide +kernel
theorem d_S_answer_33 : decode b_S_answer 33 = .ok (.iconst 0, 1) := by decide +kernel
theorem d_S_answer_34 : decode b_S_answer 34 = .ok (.ireturn, 1) := by decide +kernel
theorem d_S_answer_35 : decode b_S_answer 35 = .ok (.aload 5, 2) := by decide +kernel
theorem d_S_answer_37 : decode b_S_answer 37 = .ok (.iload_n 2, 1) := by decide +kernel
theorem d_S_answer_38 : decode b_S_answer 38 = .ok (.iload_n 3, 1) := by decide +kernel
theorem d_S_answer_39 : decode b_S_answer 39 = .ok (.iload 4, 2) := by decide +kernel
theorem d_S_answer_41 : decode b_S_answer 41 = .ok (.invokevirtual 99, 3) := by decide +kernel
theorem d_S_answer_44 : decode b_S_answer 44 = .ok (.ireturn, 1) := by decide +kernel
section
variable {p : Program} {l : Launch} {e : Env} {s : State} {m : MethodId} {args : Array Value} {below : List Frame} {meth : Method} {c : Code} {H : Heap} {locs : List Loc} {ls : Array Slot} {D : va_G} {A : Nat → Prop} {g h ro o : Nat → Nat} {vs : ClassId} {t rv v : Nat → ClassId} {F : Nat → Option Nat} {Y : va_W}
def f_S_answer_n (s0 : St) (p0 : St) (b0 : (Nat → Int64)) (x1 : Int32) (x2 : Int32) (x3 : Int32) (x4 : Int32) : Option (Int32) :=
  (sr_no (s0 0 0) x1).bind fun _ =>
  some 0
set_option maxHeartbeats 4000000 in
set_option maxRecDepth 100000 in
theorem k_S_answer_n_0 {s0 : St} {p0 : St} {b0 : (Nat → Int64)} {x1 : Int32} {x2 : Int32} {x3 : Int32} {x4 : Int32} {r : Int32} (X : sr_X D (tNN vs t rv) b_S_answer 6 R_S w_S_answer p s m args meth c A (some .boolean)) (Z : sr_Z D A s.heap (wN g vs h t ro rv F Y s0 p0 b0) H locs) (hl : lv_has ls 6 [(0, .ref (g 0)), (1, .int x1), (2, .int x2), (3, .int x3), (4, .int x4)]) (hf : f_S_answer_n s0 p0 b0 x1 x2 x3 x4 = some r) : W p l e (sr_rm 6 139) s m args below meth c H locs 0 0 (sr_Qi D (tNN vs t rv) below args s A (wN g vs h t ro rv F Y s0 p0 b0) r) (F0 m 0 ls []) := by
  have hx := X.1
  have hb := X.2.1
  have hK := X.2.2.2.2.2.2.1
  unfold f_S_answer_n at hf
  refine lv_aload_n hx hb d_S_answer_0 rfl (lv_at hl 0 rfl) ?_
  refine lv_iload_n hx hb d_S_answer_1 rfl (lv_at hl 1 rfl) ?_
  obtain ⟨_, e_1, hf⟩ := sr_b hf
  refine sr_cVqN (As := [.int x1]) (rest := []) X Z sr_cut_self hK (c_S_find_n e_1) (cw_S_79 X.2.2.2.2.2.1 (by decide)) 0 rfl rfl rfl hl rfl (Nat.le_of_ble_eq_true rfl) d_S_answer_2 (fun H locs Z => ?_)
  refine lv_astoreN (lv' := [(5, .null), (0, .ref (g 0)), (1, .int x1), (2, .int x2), (3, .int x3), (4, .int x4)]) hx hb d_S_answer_5 hl (by decide) rfl (fun ls hl => ?_)
  refine lv_aloadN hx hb d_S_answer_7 (lv_at hl 0 rfl) ?_
  refine lv_ifnullN (tgt := 33) hx hb d_S_answer_9 rfl ?_
  refine lv_iconst (v := 0) hx hb d_S_answer_33 (by decide) ?_
  cases hf
  exact sr_retz X Z (by decide) d_S_answer_34
end
set_option maxHeartbeats 4000000 in
set_option maxRecDepth 100000 in
theorem c_S_answer_n {l : Launch} {D : va_G} {g : Nat → Nat} {vs : ClassId} {h : Nat → Nat} {t : Nat → ClassId} {ro : Nat → Nat} {rv : Nat → ClassId} {F : Nat → Option Nat} {Y : va_W} {sz : Nat} {s0 : St} {p0 : St} {b0 : (Nat → Int64)} {x1 : Int32} {x2 : Int32} {x3 : Int32} {x4 : Int32} {r : Int32} (hf : f_S_answer_n s0 p0 b0 x1 x2 x3 x4 = some r) : sr_Ci l y_S_answer w_S_answer (sr_rm 6 139) D (tNN vs t rv) (wN g vs h t ro rv F Y s0 p0 b0) (wN g vs h t ro rv F Y s0 p0 b0) sz [.ref (g 0), .int x1, .int x2, .int x3, .int x4] r := by
  refine Met.ofW (cc := b_S_answer) (maxL := 6) (ret := (some .boolean)) (by decide) rfl ?_
  intro p e s m args below meth c s₁ B hml hv
  obtain ⟨rfl, hsz, hP, hK, hD0⟩ := hv
  subst hsz
  have X : sr_X D (tNN vs t rv) b_S_answer 6 R_S w_S_answer p s m _ meth c (va_A (wN g vs h t ro rv F Y s0 p0 b0) s.heap.size) (some .boolean) := ⟨B.exec, B.bytes, hml, findClass_of_methodNamed B.named, B.notSynchronized, atoms_spec (ws := w_S_answer) B.pre, hK, fun q h => Or.inr h, B.returns⟩
  have Z : sr_Z D (va_A (wN g vs h t ro rv F Y s0 p0 b0) s.heap.size) s.heap (wN g vs h t ro rv F Y s0 p0 b0) s.heap [] := ⟨hP, hD0.self, va_S.rf⟩
  have hl := lv_entry ([.ref (g 0), .int x1, .int x2, .int x3, .int x4] : List Value) (n := 6) (Nat.le_of_ble_eq_true rfl)
  rw [lg_entry_eq]
  exact k_S_answer_n_0 X Z hl hf
section
variable {p : Program} {l : Launch} {e : Env} {s : State} {m : MethodId} {args : Array Value} {below : List Frame} {meth : Method} {c : Code} {H : Heap} {locs : List Loc} {ls : Array Slot} {D : va_G} {A : Nat → Prop} {g h ro o : Nat → Nat} {vs : ClassId} {t rv v : Nat → ClassId} {F : Nat → Option Nat} {Y : va_W}
def f_S_answer_j (j0 : Nat) (s0 : St) (p0 : St) (b0 : (Nat → Int64)) (x1 : Int32) (x2 : Int32) (x3 : Int32) (x4 : Int32) (i0 : St) : Option (Int32 × St) :=
  (sr_yes j0 (s0 0 0) x1).bind fun _ =>
  (f_P_hasActivity p0 x2).bind fun v_2 =>
  if v_2 = 0 then
    some (0, i0)
  else
    if x3 < 0 then
      some (0, i0)
    else
      if x3 ≤ 99 then
        sr_b2 (f_I_takeAnswer p0 x2 x3 x4 i0) fun v_7 i_8 =>
        (sr_z v_7).bind fun _ =>
        some (v_7, i_8)
      else
        some (0, i0)
set_option maxHeartbeats 4000000 in
set_option maxRecDepth 100000 in
theorem k_S_answer_j_0 {j0 : Nat} {s0 : St} {p0 : St} {b0 : (Nat → Int64)} {x1 : Int32} {x2 : Int32} {x3 : Int32} {x4 : Int32} {i0 : St} {r : Int32} {i' : St} (X : sr_X D (tJJ vs t rv v) b_S_answer 6 R_S w_S_answer p s m args meth c A (some .boolean)) (Z : sr_Z D A s.heap (wJJ g vs h t ro rv F Y o v j0 s0 p0 b0 i0) H locs) (hl : lv_has ls 6 [(0, .ref (g 0)), (1, .int x1), (2, .int x2), (3, .int x3), (4, .int x4)]) (hf : f_S_answer_j j0 s0 p0 b0 x1 x2 x3 x4 i0 = some (r, i')) : W p l e (sr_rm 6 139) s m args below meth c H locs 0 0 (sr_Qi D (tJJ vs t rv v) below args s A (wJJ g vs h t ro rv F Y o v j0 s0 p0 b0 i') r) (F0 m 0 ls []) := by
  have hx := X.1
  have hb := X.2.1
  have hK := X.2.2.2.2.2.2.1
  unfold f_S_answer_j at hf
  refine lv_aload_n hx hb d_S_answer_0 rfl (lv_at hl 0 rfl) ?_
  refine lv_iload_n hx hb d_S_answer_1 rfl (lv_at hl 1 rfl) ?_
  obtain ⟨_, e_1, hf⟩ := sr_b hf
  refine sr_cVqR (As := [.int x1]) (rest := []) X Z sr_cut_self (k_JN hK) (c_S_find_j e_1) (cw_S_79 X.2.2.2.2.2.1 (by decide)) 0 rfl rfl rfl hl rfl (Nat.le_of_ble_eq_true rfl) d_S_answer_2 (fun H locs Z => ?_)
  refine lv_astore (lv' := [(5, .ref (o 0)), (0, .ref (g 0)), (1, .int x1), (2, .int x2), (3, .int x3), (4, .int x4)]) hx hb d_S_answer_5 hl (by decide) rfl (fun ls hl => ?_)
  refine lv_aload hx hb d_S_answer_7 (lv_at hl 0 rfl) ?_
  refine lv_ifnull hx hb d_S_answer_9 ?_
  refine lv_aload_n hx hb d_S_answer_12 rfl (lv_at hl 1 rfl) ?_
  refine g_S_10_J X Z d_S_answer_13 ?_
  refine lv_iload_n hx hb d_S_answer_16 rfl (lv_at hl 3 rfl) ?_
  obtain ⟨v_2, e_3, hf⟩ := sr_b hf
  refine sr_cVi (As := [.int x2]) (rest := []) X Z cut_JP (k_JP hK) (c_P_hasActivity e_3) (cw_S_48 X.2.2.2.2.2.1 (by decide)) 2 rfl rfl rfl hl rfl (Nat.le_of_ble_eq_true rfl) d_S_answer_17 (fun H locs Z => ?_)
  refine lv_if_eq (tgt := 33) hx hb d_S_answer_20 rfl (fun q_4 => ?_) (fun q_4 => ?_)
  · have hf := sr_it q_4 hf
    refine lv_iconst (v := 0) hx hb d_S_answer_33 (by decide) ?_
    cases hf
    exact sr_retz X Z (by decide) d_S_answer_34
  · have hf := sr_if q_4 hf
    refine lv_iload_n hx hb d_S_answer_23 rfl (lv_at hl 4 rfl) ?_
    refine lv_if_lt (tgt := 33) hx hb d_S_answer_24 rfl (fun q_5 => ?_) (fun q_5 => ?_)
    · have hf := sr_it q_5 hf
      refine lv_iconst (v := 0) hx hb d_S_answer_33 (by decide) ?_
      cases hf
      exact sr_retz X Z (by decide) d_S_answer_34
    · have hf := sr_if q_5 hf
      refine lv_iload_n hx hb d_S_answer_27 rfl (lv_at hl 4 rfl) ?_
      refine lv_bipush (v := 99) hx hb d_S_answer_28 (by decide) ?_
      refine lv_icmp_le (tgt := 35) hx hb d_S_answer_30 rfl (fun q_6 => ?_) (fun q_6 => ?_)
      · have hf := sr_it q_6 hf
        refine lv_aload hx hb d_S_answer_35 (lv_at hl 0 rfl) ?_
        refine lv_iload_n hx hb d_S_answer_37 rfl (lv_at hl 3 rfl) ?_
        refine lv_iload_n hx hb d_S_answer_38 rfl (lv_at hl 4 rfl) ?_
        refine lv_iload hx hb d_S_answer_39 (lv_at hl 5 rfl) ?_
        obtain ⟨v_7, i_8, e_9, hf⟩ := sr_b2_i hf
        refine sr_cVi (As := [.int x2, .int x3, .int x4]) (rest := []) X Z cut_JI (k_JI hK) (c_I_takeAnswer e_9) (cw_S_99 X.2.2.2.2.2.1 (by decide)) 19 rfl rfl rfl hl rfl (Nat.le_of_ble_eq_true rfl) d_S_answer_41 (fun H locs Z => ?_)
        obtain ⟨_, e_10, hf⟩ := sr_b hf
        cases hf
        exact sr_retz X Z (sr_z_i e_10) d_S_answer_44
      · have hf := sr_if q_6 hf
        refine lv_iconst (v := 0) hx hb d_S_answer_33 (by decide) ?_
        cases hf
        exact sr_retz X Z (by decide) d_S_answer_34
end
set_option maxHeartbeats 4000000 in
set_option maxRecDepth 100000 in
theorem c_S_answer_j {l : Launch} {D : va_G} {g : Nat → Nat} {vs : ClassId} {h : Nat → Nat} {t : Nat → ClassId} {ro : Nat → Nat} {rv : Nat → ClassId} {F : Nat → Option Nat} {Y : va_W} {o : Nat → Nat} {v : Nat → ClassId} {sz : Nat} {j0 : Nat} {s0 : St} {p0 : St} {b0 : (Nat → Int64)} {x1 : Int32} {x2 : Int32} {x3 : Int32} {x4 : Int32} {i0 : St} {r : Int32} {i' : St} (hf : f_S_answer_j j0 s0 p0 b0 x1 x2 x3 x4 i0 = some (r, i')) : sr_Ci l y_S_answer w_S_answer (sr_rm 6 139) D (tJJ vs t rv v) (wJJ g vs h t ro rv F Y o v j0 s0 p0 b0 i0) (wJJ g vs h t ro rv F Y o v j0 s0 p0 b0 i') sz [.ref (g 0), .int x1, .int x2, .int x3, .int x4] r := by
  refine Met.ofW (cc := b_S_answer) (maxL := 6) (ret := (some .boolean)) (by decide) rfl ?_
  intro p e s m args below meth c s₁ B hml hv
  obtain ⟨rfl, hsz, hP, hK, hD0⟩ := hv
  subst hsz
  have X : sr_X D (tJJ vs t rv v) b_S_answer 6 R_S w_S_answer p s m _ meth c (va_A (wJJ g vs h t ro rv F Y o v j0 s0 p0 b0 i0) s.heap.size) (some .boolean) := ⟨B.exec, B.bytes, hml, findClass_of_methodNamed B.named, B.notSynchronized, atoms_spec (ws := w_S_answer) B.pre, hK, fun q h => Or.inr h, B.returns⟩
  have Z : sr_Z D (va_A (wJJ g vs h t ro rv F Y o v j0 s0 p0 b0 i0) s.heap.size) s.heap (wJJ g vs h t ro rv F Y o v j0 s0 p0 b0 i0) s.heap [] := ⟨hP, hD0.self, va_S.rf⟩
  have hl := lv_entry ([.ref (g 0), .int x1, .int x2, .int x3, .int x4] : List Value) (n := 6) (Nat.le_of_ble_eq_true rfl)
  rw [lg_entry_eq]
  exact k_S_answer_j_0 X Z hl hf
/-! S_terminate -/
theorem d_S_terminate_0 : decode b_S_terminate 0 = .ok (.aload_n 0, 1) := by decide +kernel
theorem d_S_terminate_1 : decode b_S_terminate 1 = .ok (.iload_n 1, 1) := by decide +kernel
theorem d_S_terminate_2 : decode b_S_terminate 2 = .ok (.invokevirtual 79, 3) := by decide +kernel
theorem d_S_terminate_5 : decode b_S_terminate 5 = .ok (.astore_n 2, 1) := by decide +kernel
theorem d_S_terminate_6 : decode b_S_terminate 6 = .ok (.aload_n 2, 1) := by decide +kernel
theorem d_S_terminate_7 : decode b_S_terminate 7 = .ok (.ifnull 14, 3) := by decide +kernel
theorem d_S_terminate_10 : decode b_S_terminate 10 = .ok (.aload_n 2, 1) := by decide +kernel
theorem d_S_terminate_11 : decode b_S_terminate 11 = .ok (.invokevirtual 102, 3) := by decide +kernel
theorem d_S_terminate_14 : decode b_S_terminate 14 = .ok (.ifCond .eq 7, 3) := by decide +kernel
theorem d_S_terminate_17 : decode b_S_terminate 17 = .ok (.iconst 1, 1) := by decide +kernel
theorem d_S_terminate_18 : decode b_S_terminate 18 = .ok (.goto 4, 3) := by decide +kernel
theorem d_S_terminate_21 : decode b_S_terminate 21 = .ok (.iconst 0, 1) := by decide +kernel
theorem d_S_terminate_22 : decode b_S_terminate 22 = .ok (.ireturn, 1) := by decide +kernel
section
variable {p : Program} {l : Launch} {e : Env} {s : State} {m : MethodId} {args : Array Value} {below : List Frame} {meth : Method} {c : Code} {H : Heap} {locs : List Loc} {ls : Array Slot} {D : va_G} {A : Nat → Prop} {g h ro o : Nat → Nat} {vs : ClassId} {t rv v : Nat → ClassId} {F : Nat → Option Nat} {Y : va_W}
def f_S_terminate_n (s0 : St) (p0 : St) (b0 : (Nat → Int64)) (x1 : Int32) : Option (Int32) :=
  (sr_no (s0 0 0) x1).bind fun _ =>
  some 0
set_option maxHeartbeats 4000000 in
set_option maxRecDepth 100000 in
theorem k_S_terminate_n_0 {s0 : St} {p0 : St} {b0 : (Nat → Int64)} {x1 : Int32} {r : Int32} (X : sr_X D (tNN vs t rv) b_S_terminate 3 R_S w_S_terminate p s m args meth c A (some .boolean)) (Z : sr_Z D A s.heap (wN g vs h t ro rv F Y s0 p0 b0) H locs) (hl : lv_has ls 3 [(0, .ref (g 0)), (1, .int x1)]) (hf : f_S_terminate_n s0 p0 b0 x1 = some r) : W p l e (sr_rm 4 88) s m args below meth c H locs 0 0 (sr_Qi D (tNN vs t rv) below args s A (wN g vs h t ro rv F Y s0 p0 b0) r) (F0 m 0 ls []) := by
  have hx := X.1
  have hb := X.2.1
  have hK := X.2.2.2.2.2.2.1
  unfold f_S_terminate_n at hf
  refine lv_aload_n hx hb d_S_terminate_0 rfl (lv_at hl 0 rfl) ?_
  refine lv_iload_n hx hb d_S_terminate_1 rfl (lv_at hl 1 rfl) ?_
  obtain ⟨_, e_1, hf⟩ := sr_b hf
  refine sr_cVqN (As := [.int x1]) (rest := []) X Z sr_cut_self hK (c_S_find_n e_1) (cw_S_79 X.2.2.2.2.2.1 (by decide)) 0 rfl rfl rfl hl rfl (Nat.le_of_ble_eq_true rfl) d_S_terminate_2 (fun H locs Z => ?_)
  refine lv_astore_nN (lv' := [(2, .null), (0, .ref (g 0)), (1, .int x1)]) hx hb d_S_terminate_5 rfl hl (by decide) rfl (fun ls hl => ?_)
  refine lv_aload_nN hx hb d_S_terminate_6 rfl (lv_at hl 0 rfl) ?_
  refine lv_ifnullN (tgt := 21) hx hb d_S_terminate_7 rfl ?_
  refine lv_iconst (v := 0) hx hb d_S_terminate_21 (by decide) ?_
  cases hf
  exact sr_retz X Z (by decide) d_S_terminate_22
end
set_option maxHeartbeats 4000000 in
set_option maxRecDepth 100000 in
theorem c_S_terminate_n {l : Launch} {D : va_G} {g : Nat → Nat} {vs : ClassId} {h : Nat → Nat} {t : Nat → ClassId} {ro : Nat → Nat} {rv : Nat → ClassId} {F : Nat → Option Nat} {Y : va_W} {sz : Nat} {s0 : St} {p0 : St} {b0 : (Nat → Int64)} {x1 : Int32} {r : Int32} (hf : f_S_terminate_n s0 p0 b0 x1 = some r) : sr_Ci l y_S_terminate w_S_terminate (sr_rm 4 88) D (tNN vs t rv) (wN g vs h t ro rv F Y s0 p0 b0) (wN g vs h t ro rv F Y s0 p0 b0) sz [.ref (g 0), .int x1] r := by
  refine Met.ofW (cc := b_S_terminate) (maxL := 3) (ret := (some .boolean)) (by decide) rfl ?_
  intro p e s m args below meth c s₁ B hml hv
  obtain ⟨rfl, hsz, hP, hK, hD0⟩ := hv
  subst hsz
  have X : sr_X D (tNN vs t rv) b_S_terminate 3 R_S w_S_terminate p s m _ meth c (va_A (wN g vs h t ro rv F Y s0 p0 b0) s.heap.size) (some .boolean) := ⟨B.exec, B.bytes, hml, findClass_of_methodNamed B.named, B.notSynchronized, atoms_spec (ws := w_S_terminate) B.pre, hK, fun q h => Or.inr h, B.returns⟩
  have Z : sr_Z D (va_A (wN g vs h t ro rv F Y s0 p0 b0) s.heap.size) s.heap (wN g vs h t ro rv F Y s0 p0 b0) s.heap [] := ⟨hP, hD0.self, va_S.rf⟩
  have hl := lv_entry ([.ref (g 0), .int x1] : List Value) (n := 3) (Nat.le_of_ble_eq_true rfl)
  rw [lg_entry_eq]
  exact k_S_terminate_n_0 X Z hl hf
section
variable {p : Program} {l : Launch} {e : Env} {s : State} {m : MethodId} {args : Array Value} {below : List Frame} {meth : Method} {c : Code} {H : Heap} {locs : List Loc} {ls : Array Slot} {D : va_G} {A : Nat → Prop} {g h ro o : Nat → Nat} {vs : ClassId} {t rv v : Nat → ClassId} {F : Nat → Option Nat} {Y : va_W}
def f_S_terminate_j (j0 : Nat) (s0 : St) (p0 : St) (b0 : (Nat → Int64)) (x1 : Int32) (i0 : St) : Option (Int32 × St) :=
  (sr_yes j0 (s0 0 0) x1).bind fun _ =>
  sr_b2 (f_I_endNow p0 i0) fun v_2 i_3 =>
  if v_2 = 0 then
    some (0, i_3)
  else
    some (1, i_3)
set_option maxHeartbeats 4000000 in
set_option maxRecDepth 100000 in
theorem k_S_terminate_j_0 {j0 : Nat} {s0 : St} {p0 : St} {b0 : (Nat → Int64)} {x1 : Int32} {i0 : St} {r : Int32} {i' : St} (X : sr_X D (tJJ vs t rv v) b_S_terminate 3 R_S w_S_terminate p s m args meth c A (some .boolean)) (Z : sr_Z D A s.heap (wJJ g vs h t ro rv F Y o v j0 s0 p0 b0 i0) H locs) (hl : lv_has ls 3 [(0, .ref (g 0)), (1, .int x1)]) (hf : f_S_terminate_j j0 s0 p0 b0 x1 i0 = some (r, i')) : W p l e (sr_rm 4 88) s m args below meth c H locs 0 0 (sr_Qi D (tJJ vs t rv v) below args s A (wJJ g vs h t ro rv F Y o v j0 s0 p0 b0 i') r) (F0 m 0 ls []) := by
  have hx := X.1
  have hb := X.2.1
  have hK := X.2.2.2.2.2.2.1
  unfold f_S_terminate_j at hf
  refine lv_aload_n hx hb d_S_terminate_0 rfl (lv_at hl 0 rfl) ?_
  refine lv_iload_n hx hb d_S_terminate_1 rfl (lv_at hl 1 rfl) ?_
  obtain ⟨_, e_1, hf⟩ := sr_b hf
  refine sr_cVqR (As := [.int x1]) (rest := []) X Z sr_cut_self (k_JN hK) (c_S_find_j e_1) (cw_S_79 X.2.2.2.2.2.1 (by decide)) 0 rfl rfl rfl hl rfl (Nat.le_of_ble_eq_true rfl) d_S_terminate_2 (fun H locs Z => ?_)
  refine lv_astore_n (lv' := [(2, .ref (o 0)), (0, .ref (g 0)), (1, .int x1)]) hx hb d_S_terminate_5 rfl hl (by decide) rfl (fun ls hl => ?_)
  refine lv_aload_n hx hb d_S_terminate_6 rfl (lv_at hl 0 rfl) ?_
  refine lv_ifnull hx hb d_S_terminate_7 ?_
  refine lv_aload_n hx hb d_S_terminate_10 rfl (lv_at hl 0 rfl) ?_
  obtain ⟨v_2, i_3, e_4, hf⟩ := sr_b2_i hf
  refine sr_cVi (As := []) (rest := []) X Z cut_JI (k_JI hK) (c_I_endNow e_4) (cw_S_102 X.2.2.2.2.2.1 (by decide)) 19 rfl rfl rfl hl rfl (Nat.le_of_ble_eq_true rfl) d_S_terminate_11 (fun H locs Z => ?_)
  refine lv_if_eq (tgt := 21) hx hb d_S_terminate_14 rfl (fun q_5 => ?_) (fun q_5 => ?_)
  · have hf := sr_it q_5 hf
    refine lv_iconst (v := 0) hx hb d_S_terminate_21 (by decide) ?_
    cases hf
    exact sr_retz X Z (by decide) d_S_terminate_22
  · have hf := sr_if q_5 hf
    refine lv_iconst (v := 1) hx hb d_S_terminate_17 (by decide) ?_
    refine lv_goto (tgt := 22) hx hb d_S_terminate_18 rfl ?_
    cases hf
    exact sr_retz X Z (by decide) d_S_terminate_22
end
set_option maxHeartbeats 4000000 in
set_option maxRecDepth 100000 in
theorem c_S_terminate_j {l : Launch} {D : va_G} {g : Nat → Nat} {vs : ClassId} {h : Nat → Nat} {t : Nat → ClassId} {ro : Nat → Nat} {rv : Nat → ClassId} {F : Nat → Option Nat} {Y : va_W} {o : Nat → Nat} {v : Nat → ClassId} {sz : Nat} {j0 : Nat} {s0 : St} {p0 : St} {b0 : (Nat → Int64)} {x1 : Int32} {i0 : St} {r : Int32} {i' : St} (hf : f_S_terminate_j j0 s0 p0 b0 x1 i0 = some (r, i')) : sr_Ci l y_S_terminate w_S_terminate (sr_rm 4 88) D (tJJ vs t rv v) (wJJ g vs h t ro rv F Y o v j0 s0 p0 b0 i0) (wJJ g vs h t ro rv F Y o v j0 s0 p0 b0 i') sz [.ref (g 0), .int x1] r := by
  refine Met.ofW (cc := b_S_terminate) (maxL := 3) (ret := (some .boolean)) (by decide) rfl ?_
  intro p e s m args below meth c s₁ B hml hv
  obtain ⟨rfl, hsz, hP, hK, hD0⟩ := hv
  subst hsz
  have X : sr_X D (tJJ vs t rv v) b_S_terminate 3 R_S w_S_terminate p s m _ meth c (va_A (wJJ g vs h t ro rv F Y o v j0 s0 p0 b0 i0) s.heap.size) (some .boolean) := ⟨B.exec, B.bytes, hml, findClass_of_methodNamed B.named, B.notSynchronized, atoms_spec (ws := w_S_terminate) B.pre, hK, fun q h => Or.inr h, B.returns⟩
  have Z : sr_Z D (va_A (wJJ g vs h t ro rv F Y o v j0 s0 p0 b0 i0) s.heap.size) s.heap (wJJ g vs h t ro rv F Y o v j0 s0 p0 b0 i0) s.heap [] := ⟨hP, hD0.self, va_S.rf⟩
  have hl := lv_entry ([.ref (g 0), .int x1] : List Value) (n := 3) (Nat.le_of_ble_eq_true rfl)
  rw [lg_entry_eq]
  exact k_S_terminate_j_0 X Z hl hf
/-! S_state -/
theorem d_S_state_0 : decode b_S_state 0 = .ok (.aload_n 0, 1) := by decide +kernel
theorem d_S_state_1 : decode b_S_state 1 = .ok (.iload_n 1, 1) := by decide +kernel
theorem d_S_state_2 : decode b_S_state 2 = .ok (.invokevirtual 79, 3) := by decide +kernel
theorem d_S_state_5 : decode b_S_state 5 = .ok (.astore_n 2, 1) := by decide +kernel
theorem d_S_state_6 : decode b_S_state 6 = .ok (.aload_n 2, 1) := by decide +kernel
theorem d_S_state_7 : decode b_S_state 7 = .ok (.ifnonnull 7, 3) := by decide +kernel
theorem d_S_state_10 : decode b_S_state 10 = .ok (.iconst (-1), 1) := by decide +kernel
theorem d_S_state_11 : decode b_S_state 11 = .ok (.goto 7, 3) := by decide +kernel
theorem d_S_state_14 : decode b_S_state 14 = .ok (.aload_n 2, 1) := by decide +kernel
theorem d_S_state_15 : decode b_S_state 15 = .ok (.getfield 105, 3) := by decide +kernel
theorem d_S_state_18 : decode b_S_state 18 = .ok (.ireturn, 1) := by decide +kernel
section
variable {p : Program} {l : Launch} {e : Env} {s : State} {m : MethodId} {args : Array Value} {below : List Frame} {meth : Method} {c : Code} {H : Heap} {locs : List Loc} {ls : Array Slot} {D : va_G} {A : Nat → Prop} {g h ro o : Nat → Nat} {vs : ClassId} {t rv v : Nat → ClassId} {F : Nat → Option Nat} {Y : va_W}
def f_S_state_n (s0 : St) (p0 : St) (b0 : (Nat → Int64)) (x1 : Int32) : Option (Int32) :=
  (sr_no (s0 0 0) x1).bind fun _ =>
  some (-1)
set_option maxHeartbeats 4000000 in
set_option maxRecDepth 100000 in
theorem k_S_state_n_0 {s0 : St} {p0 : St} {b0 : (Nat → Int64)} {x1 : Int32} {r : Int32} (X : sr_X D (tNN vs t rv) b_S_state 3 R_S w_S_state p s m args meth c A (some .int)) (Z : sr_Z D A s.heap (wN g vs h t ro rv F Y s0 p0 b0) H locs) (hl : lv_has ls 3 [(0, .ref (g 0)), (1, .int x1)]) (hf : f_S_state_n s0 p0 b0 x1 = some r) : W p l e (sr_rm 1 21) s m args below meth c H locs 0 0 (sr_Qi D (tNN vs t rv) below args s A (wN g vs h t ro rv F Y s0 p0 b0) r) (F0 m 0 ls []) := by
  have hx := X.1
  have hb := X.2.1
  have hK := X.2.2.2.2.2.2.1
  unfold f_S_state_n at hf
  refine lv_aload_n hx hb d_S_state_0 rfl (lv_at hl 0 rfl) ?_
  refine lv_iload_n hx hb d_S_state_1 rfl (lv_at hl 1 rfl) ?_
  obtain ⟨_, e_1, hf⟩ := sr_b hf
  refine sr_cVqN (As := [.int x1]) (rest := []) X Z sr_cut_self hK (c_S_find_n e_1) (cw_S_79 X.2.2.2.2.2.1 (by decide)) 0 rfl rfl rfl hl rfl (Nat.le_of_ble_eq_true rfl) d_S_state_2 (fun H locs Z => ?_)
  refine lv_astore_nN (lv' := [(2, .null), (0, .ref (g 0)), (1, .int x1)]) hx hb d_S_state_5 rfl hl (by decide) rfl (fun ls hl => ?_)
  refine lv_aload_nN hx hb d_S_state_6 rfl (lv_at hl 0 rfl) ?_
  refine lv_ifnonnullN hx hb d_S_state_7 ?_
  refine lv_iconst (v := -1) hx hb d_S_state_10 (by decide) ?_
  refine lv_goto (tgt := 18) hx hb d_S_state_11 rfl ?_
  cases hf
  exact sr_reti X Z d_S_state_18
end
set_option maxHeartbeats 4000000 in
set_option maxRecDepth 100000 in
theorem c_S_state_n {l : Launch} {D : va_G} {g : Nat → Nat} {vs : ClassId} {h : Nat → Nat} {t : Nat → ClassId} {ro : Nat → Nat} {rv : Nat → ClassId} {F : Nat → Option Nat} {Y : va_W} {sz : Nat} {s0 : St} {p0 : St} {b0 : (Nat → Int64)} {x1 : Int32} {r : Int32} (hf : f_S_state_n s0 p0 b0 x1 = some r) : sr_Ci l y_S_state w_S_state (sr_rm 1 21) D (tNN vs t rv) (wN g vs h t ro rv F Y s0 p0 b0) (wN g vs h t ro rv F Y s0 p0 b0) sz [.ref (g 0), .int x1] r := by
  refine Met.ofW (cc := b_S_state) (maxL := 3) (ret := (some .int)) (by decide) rfl ?_
  intro p e s m args below meth c s₁ B hml hv
  obtain ⟨rfl, hsz, hP, hK, hD0⟩ := hv
  subst hsz
  have X : sr_X D (tNN vs t rv) b_S_state 3 R_S w_S_state p s m _ meth c (va_A (wN g vs h t ro rv F Y s0 p0 b0) s.heap.size) (some .int) := ⟨B.exec, B.bytes, hml, findClass_of_methodNamed B.named, B.notSynchronized, atoms_spec (ws := w_S_state) B.pre, hK, fun q h => Or.inr h, B.returns⟩
  have Z : sr_Z D (va_A (wN g vs h t ro rv F Y s0 p0 b0) s.heap.size) s.heap (wN g vs h t ro rv F Y s0 p0 b0) s.heap [] := ⟨hP, hD0.self, va_S.rf⟩
  have hl := lv_entry ([.ref (g 0), .int x1] : List Value) (n := 3) (Nat.le_of_ble_eq_true rfl)
  rw [lg_entry_eq]
  exact k_S_state_n_0 X Z hl hf
section
variable {p : Program} {l : Launch} {e : Env} {s : State} {m : MethodId} {args : Array Value} {below : List Frame} {meth : Method} {c : Code} {H : Heap} {locs : List Loc} {ls : Array Slot} {D : va_G} {A : Nat → Prop} {g h ro o : Nat → Nat} {vs : ClassId} {t rv v : Nat → ClassId} {F : Nat → Option Nat} {Y : va_W}
def f_S_state_j (j0 : Nat) (s0 : St) (p0 : St) (b0 : (Nat → Int64)) (i0 : St) (x1 : Int32) : Option (Int32) :=
  (sr_yes j0 (s0 0 0) x1).bind fun _ =>
  some (i0 3 0)
set_option maxHeartbeats 4000000 in
set_option maxRecDepth 100000 in
theorem k_S_state_j_0 {j0 : Nat} {s0 : St} {p0 : St} {b0 : (Nat → Int64)} {i0 : St} {x1 : Int32} {r : Int32} (X : sr_X D (tJJ vs t rv v) b_S_state 3 R_S w_S_state p s m args meth c A (some .int)) (Z : sr_Z D A s.heap (wJJ g vs h t ro rv F Y o v j0 s0 p0 b0 i0) H locs) (hl : lv_has ls 3 [(0, .ref (g 0)), (1, .int x1)]) (hf : f_S_state_j j0 s0 p0 b0 i0 x1 = some r) : W p l e (sr_rm 1 21) s m args below meth c H locs 0 0 (sr_Qi D (tJJ vs t rv v) below args s A (wJJ g vs h t ro rv F Y o v j0 s0 p0 b0 i0) r) (F0 m 0 ls []) := by
  have hx := X.1
  have hb := X.2.1
  have hK := X.2.2.2.2.2.2.1
  unfold f_S_state_j at hf
  refine lv_aload_n hx hb d_S_state_0 rfl (lv_at hl 0 rfl) ?_
  refine lv_iload_n hx hb d_S_state_1 rfl (lv_at hl 1 rfl) ?_
  obtain ⟨_, e_1, hf⟩ := sr_b hf
  refine sr_cVqR (As := [.int x1]) (rest := []) X Z sr_cut_self (k_JN hK) (c_S_find_j e_1) (cw_S_79 X.2.2.2.2.2.1 (by decide)) 0 rfl rfl rfl hl rfl (Nat.le_of_ble_eq_true rfl) d_S_state_2 (fun H locs Z => ?_)
  refine lv_astore_n (lv' := [(2, .ref (o 0)), (0, .ref (g 0)), (1, .int x1)]) hx hb d_S_state_5 rfl hl (by decide) rfl (fun ls hl => ?_)
  refine lv_aload_n hx hb d_S_state_6 rfl (lv_at hl 0 rfl) ?_
  refine lv_ifnonnull (tgt := 14) hx hb d_S_state_7 rfl ?_
  refine lv_aload_n hx hb d_S_state_14 rfl (lv_at hl 0 rfl) ?_
  refine g_S_105_J X Z d_S_state_15 ?_
  cases hf
  exact sr_reti X Z d_S_state_18
end
set_option maxHeartbeats 4000000 in
set_option maxRecDepth 100000 in
theorem c_S_state_j {l : Launch} {D : va_G} {g : Nat → Nat} {vs : ClassId} {h : Nat → Nat} {t : Nat → ClassId} {ro : Nat → Nat} {rv : Nat → ClassId} {F : Nat → Option Nat} {Y : va_W} {o : Nat → Nat} {v : Nat → ClassId} {sz : Nat} {j0 : Nat} {s0 : St} {p0 : St} {b0 : (Nat → Int64)} {i0 : St} {x1 : Int32} {r : Int32} (hf : f_S_state_j j0 s0 p0 b0 i0 x1 = some r) : sr_Ci l y_S_state w_S_state (sr_rm 1 21) D (tJJ vs t rv v) (wJJ g vs h t ro rv F Y o v j0 s0 p0 b0 i0) (wJJ g vs h t ro rv F Y o v j0 s0 p0 b0 i0) sz [.ref (g 0), .int x1] r := by
  refine Met.ofW (cc := b_S_state) (maxL := 3) (ret := (some .int)) (by decide) rfl ?_
  intro p e s m args below meth c s₁ B hml hv
  obtain ⟨rfl, hsz, hP, hK, hD0⟩ := hv
  subst hsz
  have X : sr_X D (tJJ vs t rv v) b_S_state 3 R_S w_S_state p s m _ meth c (va_A (wJJ g vs h t ro rv F Y o v j0 s0 p0 b0 i0) s.heap.size) (some .int) := ⟨B.exec, B.bytes, hml, findClass_of_methodNamed B.named, B.notSynchronized, atoms_spec (ws := w_S_state) B.pre, hK, fun q h => Or.inr h, B.returns⟩
  have Z : sr_Z D (va_A (wJJ g vs h t ro rv F Y o v j0 s0 p0 b0 i0) s.heap.size) s.heap (wJJ g vs h t ro rv F Y o v j0 s0 p0 b0 i0) s.heap [] := ⟨hP, hD0.self, va_S.rf⟩
  have hl := lv_entry ([.ref (g 0), .int x1] : List Value) (n := 3) (Nat.le_of_ble_eq_true rfl)
  rw [lg_entry_eq]
  exact k_S_state_j_0 X Z hl hf
/-! S_status -/
theorem d_S_status_0 : decode b_S_status 0 = .ok (.aload_n 0, 1) := by decide +kernel
theorem d_S_status_1 : decode b_S_status 1 = .ok (.iload_n 1, 1) := by decide +kernel
theorem d_S_status_2 : decode b_S_status 2 = .ok (.invokevirtual 79, 3) := by decide +kernel
theorem d_S_status_5 : decode b_S_status 5 = .ok (.astore_n 3, 1) := by decide +kernel
theorem d_S_status_6 : decode b_S_status 6 = .ok (.aload_n 3, 1) := by decide +kernel
theorem d_S_status_7 : decode b_S_status 7 = .ok (.ifnull 14, 3) := by decide +kernel
theorem d_S_status_10 : decode b_S_status 10 = .ok (.aload_n 0, 1) := by decide +kernel
theorem d_S_status_11 : decode b_S_status 11 = .ok (.getfield 10, 3) := by decide +kernel
theorem d_S_status_14 : decode b_S_status 14 = .ok (.iload_n 2, 1) := by decide +kernel
theorem d_S_status_15 : decode b_S_status 15 = .ok (.invokevirtual 48, 3) := by decide +kernel
theorem d_S_status_18 : decode b_S_status 18 = .ok (.ifCond .ne 7, 3) := by decide +kernel
theorem d_S_status_21 : decode b_S_status 21 = .ok (.iconst (-1), 1) := by decide +kernel
theorem d_S_status_22 : decode b_S_status 22 = .ok (.goto 9, 3) := by decide +kernel
theorem d_S_status_25 : decode b_S_status 25 = .ok (.aload_n 3, 1) := by decide +kernel
theorem d_S_status_26 : decode b_S_status 26 = .ok (.getfield 108, 3) := by decide +kernel
theorem d_S_status_29 : decode b_S_status 29 = .ok (.iload_n 2, 1) := by decide +kernel
theorem d_S_status_30 : decode b_S_status 30 = .ok (.iaload, 1) := by decide +kernel
theorem d_S_status_31 : decode b_S_status 31 = .ok (.ireturn, 1) := by decide +kernel
section
variable {p : Program} {l : Launch} {e : Env} {s : State} {m : MethodId} {args : Array Value} {below : List Frame} {meth : Method} {c : Code} {H : Heap} {locs : List Loc} {ls : Array Slot} {D : va_G} {A : Nat → Prop} {g h ro o : Nat → Nat} {vs : ClassId} {t rv v : Nat → ClassId} {F : Nat → Option Nat} {Y : va_W}
def f_S_status_n_21 (s0 : St) (p0 : St) (b0 : (Nat → Int64)) : Option (Int32) :=
  some (-1)
set_option maxHeartbeats 4000000 in
set_option maxRecDepth 100000 in
theorem k_S_status_n_21 {s0 : St} {p0 : St} {b0 : (Nat → Int64)} {r : Int32} (X : sr_X D (tNN vs t rv) b_S_status 4 R_S w_S_status p s m args meth c A (some .int)) (Z : sr_Z D A s.heap (wN g vs h t ro rv F Y s0 p0 b0) H locs) (hl : lv_has ls 4 []) (hf : f_S_status_n_21 s0 p0 b0 = some r) : W p l e (sr_rm 1 21) s m args below meth c H locs 0 0 (sr_Qi D (tNN vs t rv) below args s A (wN g vs h t ro rv F Y s0 p0 b0) r) (F0 m 21 ls []) := by
  have hx := X.1
  have hb := X.2.1
  have hK := X.2.2.2.2.2.2.1
  unfold f_S_status_n_21 at hf
  refine lv_iconst (v := -1) hx hb d_S_status_21 (by decide) ?_
  refine lv_goto (tgt := 31) hx hb d_S_status_22 rfl ?_
  cases hf
  exact sr_reti X Z d_S_status_31
def f_S_status_n (s0 : St) (p0 : St) (b0 : (Nat → Int64)) (x1 : Int32) (x2 : Int32) : Option (Int32) :=
  (sr_no (s0 0 0) x1).bind fun _ =>
  f_S_status_n_21 s0 p0 b0
set_option maxHeartbeats 4000000 in
set_option maxRecDepth 100000 in
theorem k_S_status_n_0 {s0 : St} {p0 : St} {b0 : (Nat → Int64)} {x1 : Int32} {x2 : Int32} {r : Int32} (X : sr_X D (tNN vs t rv) b_S_status 4 R_S w_S_status p s m args meth c A (some .int)) (Z : sr_Z D A s.heap (wN g vs h t ro rv F Y s0 p0 b0) H locs) (hl : lv_has ls 4 [(0, .ref (g 0)), (1, .int x1), (2, .int x2)]) (hf : f_S_status_n s0 p0 b0 x1 x2 = some r) : W p l e (sr_rm 1 21) s m args below meth c H locs 0 0 (sr_Qi D (tNN vs t rv) below args s A (wN g vs h t ro rv F Y s0 p0 b0) r) (F0 m 0 ls []) := by
  have hx := X.1
  have hb := X.2.1
  have hK := X.2.2.2.2.2.2.1
  unfold f_S_status_n at hf
  refine lv_aload_n hx hb d_S_status_0 rfl (lv_at hl 0 rfl) ?_
  refine lv_iload_n hx hb d_S_status_1 rfl (lv_at hl 1 rfl) ?_
  obtain ⟨_, e_1, hf⟩ := sr_b hf
  refine sr_cVqN (As := [.int x1]) (rest := []) X Z sr_cut_self hK (c_S_find_n e_1) (cw_S_79 X.2.2.2.2.2.1 (by decide)) 0 rfl rfl rfl hl rfl (Nat.le_of_ble_eq_true rfl) d_S_status_2 (fun H locs Z => ?_)
  refine lv_astore_nN (lv' := [(3, .null), (0, .ref (g 0)), (1, .int x1), (2, .int x2)]) hx hb d_S_status_5 rfl hl (by decide) rfl (fun ls hl => ?_)
  refine lv_aload_nN hx hb d_S_status_6 rfl (lv_at hl 0 rfl) ?_
  refine lv_ifnullN (tgt := 21) hx hb d_S_status_7 rfl ?_
  exact k_S_status_n_21 X Z (lv_sub hl [] rfl) hf
end
set_option maxHeartbeats 4000000 in
set_option maxRecDepth 100000 in
theorem c_S_status_n {l : Launch} {D : va_G} {g : Nat → Nat} {vs : ClassId} {h : Nat → Nat} {t : Nat → ClassId} {ro : Nat → Nat} {rv : Nat → ClassId} {F : Nat → Option Nat} {Y : va_W} {sz : Nat} {s0 : St} {p0 : St} {b0 : (Nat → Int64)} {x1 : Int32} {x2 : Int32} {r : Int32} (hf : f_S_status_n s0 p0 b0 x1 x2 = some r) : sr_Ci l y_S_status w_S_status (sr_rm 1 21) D (tNN vs t rv) (wN g vs h t ro rv F Y s0 p0 b0) (wN g vs h t ro rv F Y s0 p0 b0) sz [.ref (g 0), .int x1, .int x2] r := by
  refine Met.ofW (cc := b_S_status) (maxL := 4) (ret := (some .int)) (by decide) rfl ?_
  intro p e s m args below meth c s₁ B hml hv
  obtain ⟨rfl, hsz, hP, hK, hD0⟩ := hv
  subst hsz
  have X : sr_X D (tNN vs t rv) b_S_status 4 R_S w_S_status p s m _ meth c (va_A (wN g vs h t ro rv F Y s0 p0 b0) s.heap.size) (some .int) := ⟨B.exec, B.bytes, hml, findClass_of_methodNamed B.named, B.notSynchronized, atoms_spec (ws := w_S_status) B.pre, hK, fun q h => Or.inr h, B.returns⟩
  have Z : sr_Z D (va_A (wN g vs h t ro rv F Y s0 p0 b0) s.heap.size) s.heap (wN g vs h t ro rv F Y s0 p0 b0) s.heap [] := ⟨hP, hD0.self, va_S.rf⟩
  have hl := lv_entry ([.ref (g 0), .int x1, .int x2] : List Value) (n := 4) (Nat.le_of_ble_eq_true rfl)
  rw [lg_entry_eq]
  exact k_S_status_n_0 X Z hl hf
section
variable {p : Program} {l : Launch} {e : Env} {s : State} {m : MethodId} {args : Array Value} {below : List Frame} {meth : Method} {c : Code} {H : Heap} {locs : List Loc} {ls : Array Slot} {D : va_G} {A : Nat → Prop} {g h ro o : Nat → Nat} {vs : ClassId} {t rv v : Nat → ClassId} {F : Nat → Option Nat} {Y : va_W}
def f_S_status_j_21 (j0 : Nat) (s0 : St) (p0 : St) (b0 : (Nat → Int64)) (i0 : St) : Option (Int32) :=
  some (-1)
set_option maxHeartbeats 4000000 in
set_option maxRecDepth 100000 in
theorem k_S_status_j_21 {j0 : Nat} {s0 : St} {p0 : St} {b0 : (Nat → Int64)} {i0 : St} {r : Int32} (X : sr_X D (tJJ vs t rv v) b_S_status 4 R_S w_S_status p s m args meth c A (some .int)) (Z : sr_Z D A s.heap (wJJ g vs h t ro rv F Y o v j0 s0 p0 b0 i0) H locs) (hl : lv_has ls 4 []) (hf : f_S_status_j_21 j0 s0 p0 b0 i0 = some r) : W p l e (sr_rm 1 21) s m args below meth c H locs 0 0 (sr_Qi D (tJJ vs t rv v) below args s A (wJJ g vs h t ro rv F Y o v j0 s0 p0 b0 i0) r) (F0 m 21 ls []) := by
  have hx := X.1
  have hb := X.2.1
  have hK := X.2.2.2.2.2.2.1
  unfold f_S_status_j_21 at hf
  refine lv_iconst (v := -1) hx hb d_S_status_21 (by decide) ?_
  refine lv_goto (tgt := 31) hx hb d_S_status_22 rfl ?_
  cases hf
  exact sr_reti X Z d_S_status_31
def f_S_status_j (j0 : Nat) (s0 : St) (p0 : St) (b0 : (Nat → Int64)) (i0 : St) (x1 : Int32) (x2 : Int32) : Option (Int32) :=
  (sr_yes j0 (s0 0 0) x1).bind fun _ =>
  (f_P_hasActivity p0 x2).bind fun v_2 =>
  if v_2 = 0 then
    f_S_status_j_21 j0 s0 p0 b0 i0
  else
    (sr_ald 24 (i0 4) x2).bind fun v_5 =>
    some v_5
set_option maxHeartbeats 4000000 in
set_option maxRecDepth 100000 in
theorem k_S_status_j_0 {j0 : Nat} {s0 : St} {p0 : St} {b0 : (Nat → Int64)} {i0 : St} {x1 : Int32} {x2 : Int32} {r : Int32} (X : sr_X D (tJJ vs t rv v) b_S_status 4 R_S w_S_status p s m args meth c A (some .int)) (Z : sr_Z D A s.heap (wJJ g vs h t ro rv F Y o v j0 s0 p0 b0 i0) H locs) (hl : lv_has ls 4 [(0, .ref (g 0)), (1, .int x1), (2, .int x2)]) (hf : f_S_status_j j0 s0 p0 b0 i0 x1 x2 = some r) : W p l e (sr_rm 1 21) s m args below meth c H locs 0 0 (sr_Qi D (tJJ vs t rv v) below args s A (wJJ g vs h t ro rv F Y o v j0 s0 p0 b0 i0) r) (F0 m 0 ls []) := by
  have hx := X.1
  have hb := X.2.1
  have hK := X.2.2.2.2.2.2.1
  unfold f_S_status_j at hf
  refine lv_aload_n hx hb d_S_status_0 rfl (lv_at hl 0 rfl) ?_
  refine lv_iload_n hx hb d_S_status_1 rfl (lv_at hl 1 rfl) ?_
  obtain ⟨_, e_1, hf⟩ := sr_b hf
  refine sr_cVqR (As := [.int x1]) (rest := []) X Z sr_cut_self (k_JN hK) (c_S_find_j e_1) (cw_S_79 X.2.2.2.2.2.1 (by decide)) 0 rfl rfl rfl hl rfl (Nat.le_of_ble_eq_true rfl) d_S_status_2 (fun H locs Z => ?_)
  refine lv_astore_n (lv' := [(3, .ref (o 0)), (0, .ref (g 0)), (1, .int x1), (2, .int x2)]) hx hb d_S_status_5 rfl hl (by decide) rfl (fun ls hl => ?_)
  refine lv_aload_n hx hb d_S_status_6 rfl (lv_at hl 0 rfl) ?_
  refine lv_ifnull hx hb d_S_status_7 ?_
  refine lv_aload_n hx hb d_S_status_10 rfl (lv_at hl 1 rfl) ?_
  refine g_S_10_J X Z d_S_status_11 ?_
  refine lv_iload_n hx hb d_S_status_14 rfl (lv_at hl 3 rfl) ?_
  obtain ⟨v_2, e_3, hf⟩ := sr_b hf
  refine sr_cVi (As := [.int x2]) (rest := []) X Z cut_JP (k_JP hK) (c_P_hasActivity e_3) (cw_S_48 X.2.2.2.2.2.1 (by decide)) 2 rfl rfl rfl hl rfl (Nat.le_of_ble_eq_true rfl) d_S_status_15 (fun H locs Z => ?_)
  refine lv_if_ne (tgt := 25) hx hb d_S_status_18 rfl (fun q_4 => ?_) (fun q_4 => ?_)
  · have hf := sr_if q_4 hf
    refine lv_aload_n hx hb d_S_status_25 rfl (lv_at hl 0 rfl) ?_
    refine g_S_108_J X Z d_S_status_26 ?_
    refine lv_iload_n hx hb d_S_status_29 rfl (lv_at hl 3 rfl) ?_
    obtain ⟨v_5, e_6, hf⟩ := sr_b hf
    refine sr_iald hx hb hK Z 24 16 rfl rfl e_6 d_S_status_30 ?_
    cases hf
    exact sr_reti X Z d_S_status_31
  · have hf := sr_it q_4 hf
    exact k_S_status_j_21 X Z (lv_sub hl [] rfl) hf
end
set_option maxHeartbeats 4000000 in
set_option maxRecDepth 100000 in
theorem c_S_status_j {l : Launch} {D : va_G} {g : Nat → Nat} {vs : ClassId} {h : Nat → Nat} {t : Nat → ClassId} {ro : Nat → Nat} {rv : Nat → ClassId} {F : Nat → Option Nat} {Y : va_W} {o : Nat → Nat} {v : Nat → ClassId} {sz : Nat} {j0 : Nat} {s0 : St} {p0 : St} {b0 : (Nat → Int64)} {i0 : St} {x1 : Int32} {x2 : Int32} {r : Int32} (hf : f_S_status_j j0 s0 p0 b0 i0 x1 x2 = some r) : sr_Ci l y_S_status w_S_status (sr_rm 1 21) D (tJJ vs t rv v) (wJJ g vs h t ro rv F Y o v j0 s0 p0 b0 i0) (wJJ g vs h t ro rv F Y o v j0 s0 p0 b0 i0) sz [.ref (g 0), .int x1, .int x2] r := by
  refine Met.ofW (cc := b_S_status) (maxL := 4) (ret := (some .int)) (by decide) rfl ?_
  intro p e s m args below meth c s₁ B hml hv
  obtain ⟨rfl, hsz, hP, hK, hD0⟩ := hv
  subst hsz
  have X : sr_X D (tJJ vs t rv v) b_S_status 4 R_S w_S_status p s m _ meth c (va_A (wJJ g vs h t ro rv F Y o v j0 s0 p0 b0 i0) s.heap.size) (some .int) := ⟨B.exec, B.bytes, hml, findClass_of_methodNamed B.named, B.notSynchronized, atoms_spec (ws := w_S_status) B.pre, hK, fun q h => Or.inr h, B.returns⟩
  have Z : sr_Z D (va_A (wJJ g vs h t ro rv F Y o v j0 s0 p0 b0 i0) s.heap.size) s.heap (wJJ g vs h t ro rv F Y o v j0 s0 p0 b0 i0) s.heap [] := ⟨hP, hD0.self, va_S.rf⟩
  have hl := lv_entry ([.ref (g 0), .int x1, .int x2] : List Value) (n := 4) (Nat.le_of_ble_eq_true rfl)
  rw [lg_entry_eq]
  exact k_S_status_j_0 X Z hl hf
/-! S_variable -/
theorem d_S_variable_0 : decode b_S_variable 0 = .ok (.aload_n 0, 1) := by decide +kernel
theorem d_S_variable_1 : decode b_S_variable 1 = .ok (.iload_n 1, 1) := by decide +kernel
theorem d_S_variable_2 : decode b_S_variable 2 = .ok (.invokevirtual 79, 3) := by decide +kernel
theorem d_S_variable_5 : decode b_S_variable 5 = .ok (.astore_n 3, 1) := by decide +kernel
theorem d_S_variable_6 : decode b_S_variable 6 = .ok (.aload_n 3, 1) := by decide +kernel
theorem d_S_variable_7 : decode b_S_variable 7 = .ok (.ifnull 12, 3) := by decide +kernel
theorem d_S_variable_10 : decode b_S_variable 10 = .ok (.iload_n 2, 1) := by decide +kernel
theorem d_S_variable_11 : decode b_S_variable 11 = .ok (.ifCond .lt 8, 3) := by decide +kernel
theorem d_S_variable_14 : decode b_S_variable 14 = .ok (.iload_n 2, 1) := by decide +kernel
theorem d_S_variable_15 : decode b_S_variable 15 = .ok (.iconst 4, 1) := by decide +kernel
theorem d_S_variable_16 : decode b_S_variable 16 = .ok (.if_icmp .lt 7, 3) := by decide +kernel
theorem d_S_variable_19 : decode b_S_variable 19 = .ok (.iconst 0, 1) := by decide +kernel
theorem d_S_variable_20 : decode b_S_variable 20 = .ok (.goto 12, 3) := by decide +kernel
theorem d_S_variable_23 : decode b_S_variable 23 = .ok (.aload_n 3, 1) := by decide +kernel
theorem d_S_variable_24 : decode b_S_variable 24 = .ok (.getfield 111, 3) := by decide +kernel
theorem d_S_variable_27 : decode b_S_variable 27 = .ok (.getfield 115, 3) := by decide +kernel
theorem d_S_variable_30 : decode b_S_variable 30 = .ok (.iload_n 2, 1) := by decide +kernel
theorem d_S_variable_31 : decode b_S_variable 31 = .ok (.iaload, 1) := by decide +kernel
theorem d_S_variable_32 : decode b_S_variable 32 = .ok (.ireturn, 1) := by decide +kernel
section
variable {p : Program} {l : Launch} {e : Env} {s : State} {m : MethodId} {args : Array Value} {below : List Frame} {meth : Method} {c : Code} {H : Heap} {locs : List Loc} {ls : Array Slot} {D : va_G} {A : Nat → Prop} {g h ro o : Nat → Nat} {vs : ClassId} {t rv v : Nat → ClassId} {F : Nat → Option Nat} {Y : va_W}
def f_S_variable_n_19 (s0 : St) (p0 : St) (b0 : (Nat → Int64)) : Option (Int32) :=
  some 0
set_option maxHeartbeats 4000000 in
set_option maxRecDepth 100000 in
theorem k_S_variable_n_19 {s0 : St} {p0 : St} {b0 : (Nat → Int64)} {r : Int32} (X : sr_X D (tNN vs t rv) b_S_variable 4 R_S w_S_variable p s m args meth c A (some .int)) (Z : sr_Z D A s.heap (wN g vs h t ro rv F Y s0 p0 b0) H locs) (hl : lv_has ls 4 []) (hf : f_S_variable_n_19 s0 p0 b0 = some r) : W p l e (sr_rm 1 21) s m args below meth c H locs 0 0 (sr_Qi D (tNN vs t rv) below args s A (wN g vs h t ro rv F Y s0 p0 b0) r) (F0 m 19 ls []) := by
  have hx := X.1
  have hb := X.2.1
  have hK := X.2.2.2.2.2.2.1
  unfold f_S_variable_n_19 at hf
  refine lv_iconst (v := 0) hx hb d_S_variable_19 (by decide) ?_
  refine lv_goto (tgt := 32) hx hb d_S_variable_20 rfl ?_
  cases hf
  exact sr_reti X Z d_S_variable_32
def f_S_variable_n (s0 : St) (p0 : St) (b0 : (Nat → Int64)) (x1 : Int32) (x2 : Int32) : Option (Int32) :=
  (sr_no (s0 0 0) x1).bind fun _ =>
  f_S_variable_n_19 s0 p0 b0
set_option maxHeartbeats 4000000 in
set_option maxRecDepth 100000 in
theorem k_S_variable_n_0 {s0 : St} {p0 : St} {b0 : (Nat → Int64)} {x1 : Int32} {x2 : Int32} {r : Int32} (X : sr_X D (tNN vs t rv) b_S_variable 4 R_S w_S_variable p s m args meth c A (some .int)) (Z : sr_Z D A s.heap (wN g vs h t ro rv F Y s0 p0 b0) H locs) (hl : lv_has ls 4 [(0, .ref (g 0)), (1, .int x1), (2, .int x2)]) (hf : f_S_variable_n s0 p0 b0 x1 x2 = some r) : W p l e (sr_rm 1 21) s m args below meth c H locs 0 0 (sr_Qi D (tNN vs t rv) below args s A (wN g vs h t ro rv F Y s0 p0 b0) r) (F0 m 0 ls []) := by
  have hx := X.1
  have hb := X.2.1
  have hK := X.2.2.2.2.2.2.1
  unfold f_S_variable_n at hf
  refine lv_aload_n hx hb d_S_variable_0 rfl (lv_at hl 0 rfl) ?_
  refine lv_iload_n hx hb d_S_variable_1 rfl (lv_at hl 1 rfl) ?_
  obtain ⟨_, e_1, hf⟩ := sr_b hf
  refine sr_cVqN (As := [.int x1]) (rest := []) X Z sr_cut_self hK (c_S_find_n e_1) (cw_S_79 X.2.2.2.2.2.1 (by decide)) 0 rfl rfl rfl hl rfl (Nat.le_of_ble_eq_true rfl) d_S_variable_2 (fun H locs Z => ?_)
  refine lv_astore_nN (lv' := [(3, .null), (0, .ref (g 0)), (1, .int x1), (2, .int x2)]) hx hb d_S_variable_5 rfl hl (by decide) rfl (fun ls hl => ?_)
  refine lv_aload_nN hx hb d_S_variable_6 rfl (lv_at hl 0 rfl) ?_
  refine lv_ifnullN (tgt := 19) hx hb d_S_variable_7 rfl ?_
  exact k_S_variable_n_19 X Z (lv_sub hl [] rfl) hf
end
set_option maxHeartbeats 4000000 in
set_option maxRecDepth 100000 in
theorem c_S_variable_n {l : Launch} {D : va_G} {g : Nat → Nat} {vs : ClassId} {h : Nat → Nat} {t : Nat → ClassId} {ro : Nat → Nat} {rv : Nat → ClassId} {F : Nat → Option Nat} {Y : va_W} {sz : Nat} {s0 : St} {p0 : St} {b0 : (Nat → Int64)} {x1 : Int32} {x2 : Int32} {r : Int32} (hf : f_S_variable_n s0 p0 b0 x1 x2 = some r) : sr_Ci l y_S_variable w_S_variable (sr_rm 1 21) D (tNN vs t rv) (wN g vs h t ro rv F Y s0 p0 b0) (wN g vs h t ro rv F Y s0 p0 b0) sz [.ref (g 0), .int x1, .int x2] r := by
  refine Met.ofW (cc := b_S_variable) (maxL := 4) (ret := (some .int)) (by decide) rfl ?_
  intro p e s m args below meth c s₁ B hml hv
  obtain ⟨rfl, hsz, hP, hK, hD0⟩ := hv
  subst hsz
  have X : sr_X D (tNN vs t rv) b_S_variable 4 R_S w_S_variable p s m _ meth c (va_A (wN g vs h t ro rv F Y s0 p0 b0) s.heap.size) (some .int) := ⟨B.exec, B.bytes, hml, findClass_of_methodNamed B.named, B.notSynchronized, atoms_spec (ws := w_S_variable) B.pre, hK, fun q h => Or.inr h, B.returns⟩
  have Z : sr_Z D (va_A (wN g vs h t ro rv F Y s0 p0 b0) s.heap.size) s.heap (wN g vs h t ro rv F Y s0 p0 b0) s.heap [] := ⟨hP, hD0.self, va_S.rf⟩
  have hl := lv_entry ([.ref (g 0), .int x1, .int x2] : List Value) (n := 4) (Nat.le_of_ble_eq_true rfl)
  rw [lg_entry_eq]
  exact k_S_variable_n_0 X Z hl hf
section
variable {p : Program} {l : Launch} {e : Env} {s : State} {m : MethodId} {args : Array Value} {below : List Frame} {meth : Method} {c : Code} {H : Heap} {locs : List Loc} {ls : Array Slot} {D : va_G} {A : Nat → Prop} {g h ro o : Nat → Nat} {vs : ClassId} {t rv v : Nat → ClassId} {F : Nat → Option Nat} {Y : va_W}
def f_S_variable_j_19 (j0 : Nat) (s0 : St) (p0 : St) (b0 : (Nat → Int64)) (i0 : St) : Option (Int32) :=
  some 0
set_option maxHeartbeats 4000000 in
set_option maxRecDepth 100000 in
theorem k_S_variable_j_19 {j0 : Nat} {s0 : St} {p0 : St} {b0 : (Nat → Int64)} {i0 : St} {r : Int32} (X : sr_X D (tJJ vs t rv v) b_S_variable 4 R_S w_S_variable p s m args meth c A (some .int)) (Z : sr_Z D A s.heap (wJJ g vs h t ro rv F Y o v j0 s0 p0 b0 i0) H locs) (hl : lv_has ls 4 []) (hf : f_S_variable_j_19 j0 s0 p0 b0 i0 = some r) : W p l e (sr_rm 1 21) s m args below meth c H locs 0 0 (sr_Qi D (tJJ vs t rv v) below args s A (wJJ g vs h t ro rv F Y o v j0 s0 p0 b0 i0) r) (F0 m 19 ls []) := by
  have hx := X.1
  have hb := X.2.1
  have hK := X.2.2.2.2.2.2.1
  unfold f_S_variable_j_19 at hf
  refine lv_iconst (v := 0) hx hb d_S_variable_19 (by decide) ?_
  refine lv_goto (tgt := 32) hx hb d_S_variable_20 rfl ?_
  cases hf
  exact sr_reti X Z d_S_variable_32
def f_S_variable_j (j0 : Nat) (s0 : St) (p0 : St) (b0 : (Nat → Int64)) (i0 : St) (x1 : Int32) (x2 : Int32) : Option (Int32) :=
  (sr_yes j0 (s0 0 0) x1).bind fun _ =>
  if x2 < 0 then
    f_S_variable_j_19 j0 s0 p0 b0 i0
  else
    if x2 < 4 then
      (sr_ald 4 (i0 11) x2).bind fun v_4 =>
      some v_4
    else
      f_S_variable_j_19 j0 s0 p0 b0 i0
set_option maxHeartbeats 4000000 in
set_option maxRecDepth 100000 in
theorem k_S_variable_j_0 {j0 : Nat} {s0 : St} {p0 : St} {b0 : (Nat → Int64)} {i0 : St} {x1 : Int32} {x2 : Int32} {r : Int32} (X : sr_X D (tJJ vs t rv v) b_S_variable 4 R_S w_S_variable p s m args meth c A (some .int)) (Z : sr_Z D A s.heap (wJJ g vs h t ro rv F Y o v j0 s0 p0 b0 i0) H locs) (hl : lv_has ls 4 [(0, .ref (g 0)), (1, .int x1), (2, .int x2)]) (hf : f_S_variable_j j0 s0 p0 b0 i0 x1 x2 = some r) : W p l e (sr_rm 1 21) s m args below meth c H locs 0 0 (sr_Qi D (tJJ vs t rv v) below args s A (wJJ g vs h t ro rv F Y o v j0 s0 p0 b0 i0) r) (F0 m 0 ls []) := by
  have hx := X.1
  have hb := X.2.1
  have hK := X.2.2.2.2.2.2.1
  unfold f_S_variable_j at hf
  refine lv_aload_n hx hb d_S_variable_0 rfl (lv_at hl 0 rfl) ?_
  refine lv_iload_n hx hb d_S_variable_1 rfl (lv_at hl 1 rfl) ?_
  obtain ⟨_, e_1, hf⟩ := sr_b hf
  refine sr_cVqR (As := [.int x1]) (rest := []) X Z sr_cut_self (k_JN hK) (c_S_find_j e_1) (cw_S_79 X.2.2.2.2.2.1 (by decide)) 0 rfl rfl rfl hl rfl (Nat.le_of_ble_eq_true rfl) d_S_variable_2 (fun H locs Z => ?_)
  refine lv_astore_n (lv' := [(3, .ref (o 0)), (0, .ref (g 0)), (1, .int x1), (2, .int x2)]) hx hb d_S_variable_5 rfl hl (by decide) rfl (fun ls hl => ?_)
  refine lv_aload_n hx hb d_S_variable_6 rfl (lv_at hl 0 rfl) ?_
  refine lv_ifnull hx hb d_S_variable_7 ?_
  refine lv_iload_n hx hb d_S_variable_10 rfl (lv_at hl 3 rfl) ?_
  refine lv_if_lt (tgt := 19) hx hb d_S_variable_11 rfl (fun q_2 => ?_) (fun q_2 => ?_)
  · have hf := sr_it q_2 hf
    exact k_S_variable_j_19 X Z (lv_sub hl [] rfl) hf
  · have hf := sr_if q_2 hf
    refine lv_iload_n hx hb d_S_variable_14 rfl (lv_at hl 3 rfl) ?_
    refine lv_iconst (v := 4) hx hb d_S_variable_15 (by decide) ?_
    refine lv_icmp_lt (tgt := 23) hx hb d_S_variable_16 rfl (fun q_3 => ?_) (fun q_3 => ?_)
    · have hf := sr_it q_3 hf
      refine lv_aload_n hx hb d_S_variable_23 rfl (lv_at hl 0 rfl) ?_
      refine g_S_111_J X Z d_S_variable_24 ?_
      refine g_S_115_J X Z d_S_variable_27 ?_
      refine lv_iload_n hx hb d_S_variable_30 rfl (lv_at hl 3 rfl) ?_
      obtain ⟨v_4, e_5, hf⟩ := sr_b hf
      refine sr_iald hx hb hK Z 28 20 rfl rfl e_5 d_S_variable_31 ?_
      cases hf
      exact sr_reti X Z d_S_variable_32
    · have hf := sr_if q_3 hf
      exact k_S_variable_j_19 X Z (lv_sub hl [] rfl) hf
end
set_option maxHeartbeats 4000000 in
set_option maxRecDepth 100000 in
theorem c_S_variable_j {l : Launch} {D : va_G} {g : Nat → Nat} {vs : ClassId} {h : Nat → Nat} {t : Nat → ClassId} {ro : Nat → Nat} {rv : Nat → ClassId} {F : Nat → Option Nat} {Y : va_W} {o : Nat → Nat} {v : Nat → ClassId} {sz : Nat} {j0 : Nat} {s0 : St} {p0 : St} {b0 : (Nat → Int64)} {i0 : St} {x1 : Int32} {x2 : Int32} {r : Int32} (hf : f_S_variable_j j0 s0 p0 b0 i0 x1 x2 = some r) : sr_Ci l y_S_variable w_S_variable (sr_rm 1 21) D (tJJ vs t rv v) (wJJ g vs h t ro rv F Y o v j0 s0 p0 b0 i0) (wJJ g vs h t ro rv F Y o v j0 s0 p0 b0 i0) sz [.ref (g 0), .int x1, .int x2] r := by
  refine Met.ofW (cc := b_S_variable) (maxL := 4) (ret := (some .int)) (by decide) rfl ?_
  intro p e s m args below meth c s₁ B hml hv
  obtain ⟨rfl, hsz, hP, hK, hD0⟩ := hv
  subst hsz
  have X : sr_X D (tJJ vs t rv v) b_S_variable 4 R_S w_S_variable p s m _ meth c (va_A (wJJ g vs h t ro rv F Y o v j0 s0 p0 b0 i0) s.heap.size) (some .int) := ⟨B.exec, B.bytes, hml, findClass_of_methodNamed B.named, B.notSynchronized, atoms_spec (ws := w_S_variable) B.pre, hK, fun q h => Or.inr h, B.returns⟩
  have Z : sr_Z D (va_A (wJJ g vs h t ro rv F Y o v j0 s0 p0 b0 i0) s.heap.size) s.heap (wJJ g vs h t ro rv F Y o v j0 s0 p0 b0 i0) s.heap [] := ⟨hP, hD0.self, va_S.rf⟩
  have hl := lv_entry ([.ref (g 0), .int x1, .int x2] : List Value) (n := 4) (Nat.le_of_ble_eq_true rfl)
  rw [lg_entry_eq]
  exact k_S_variable_j_0 X Z hl hf
/-! S_own -/
theorem d_S_own_0 : decode b_S_own 0 = .ok (.aload_n 0, 1) := by decide +kernel
theorem d_S_own_1 : decode b_S_own 1 = .ok (.iload_n 1, 1) := by decide +kernel
theorem d_S_own_2 : decode b_S_own 2 = .ok (.invokevirtual 79, 3) := by decide +kernel
theorem d_S_own_5 : decode b_S_own 5 = .ok (.astore_n 3, 1) := by decide +kernel
theorem d_S_own_6 : decode b_S_own 6 = .ok (.aload_n 3, 1) := by decide +kernel
theorem d_S_own_7 : decode b_S_own 7 = .ok (.ifnull 14, 3) := by decide +kernel
theorem d_S_own_10 : decode b_S_own 10 = .ok (.aload_n 0, 1) := by decide +kernel
theorem d_S_own_11 : decode b_S_own 11 = .ok (.getfield 10, 3) := by decide +kernel
theorem d_S_own_14 : decode b_S_own 14 = .ok (.iload_n 2, 1) := by decide +kernel
theorem d_S_own_15 : decode b_S_own 15 = .ok (.invokevirtual 120, 3) := by decide +kernel
theorem d_S_own_18 : decode b_S_own 18 = .ok (.ifCond .ne 7, 3) := by decide +kernel
theorem d_S_own_21 : decode b_S_own 21 = .ok (.iconst 0, 1) := by decide +kernel
theorem d_S_own_22 : decode b_S_own 22 = .ok (.goto 12, 3) := by decide +kernel
theorem d_S_own_25 : decode b_S_own 25 = .ok (.aload_n 3, 1) := by decide +kernel
theorem d_S_own_26 : decode b_S_own 26 = .ok (.getfield 111, 3) := by decide +kernel
theorem d_S_own_29 : decode b_S_own 29 = .ok (.getfield 123, 3) := by decide +kernel
theorem d_S_own_32 : decode b_S_own 32 = .ok (.iload_n 2, 1) := by decide +kernel
theorem d_S_own_33 : decode b_S_own 33 = .ok (.iaload, 1) := by decide +kernel
theorem d_S_own_34 : decode b_S_own 34 = .ok (.ireturn, 1) := by decide +kernel
section
variable {p : Program} {l : Launch} {e : Env} {s : State} {m : MethodId} {args : Array Value} {below : List Frame} {meth : Method} {c : Code} {H : Heap} {locs : List Loc} {ls : Array Slot} {D : va_G} {A : Nat → Prop} {g h ro o : Nat → Nat} {vs : ClassId} {t rv v : Nat → ClassId} {F : Nat → Option Nat} {Y : va_W}
def f_S_own_n_21 (s0 : St) (p0 : St) (b0 : (Nat → Int64)) : Option (Int32) :=
  some 0
set_option maxHeartbeats 4000000 in
set_option maxRecDepth 100000 in
theorem k_S_own_n_21 {s0 : St} {p0 : St} {b0 : (Nat → Int64)} {r : Int32} (X : sr_X D (tNN vs t rv) b_S_own 4 R_S w_S_own p s m args meth c A (some .int)) (Z : sr_Z D A s.heap (wN g vs h t ro rv F Y s0 p0 b0) H locs) (hl : lv_has ls 4 []) (hf : f_S_own_n_21 s0 p0 b0 = some r) : W p l e (sr_rm 2 42) s m args below meth c H locs 0 0 (sr_Qi D (tNN vs t rv) below args s A (wN g vs h t ro rv F Y s0 p0 b0) r) (F0 m 21 ls []) := by
  have hx := X.1
  have hb := X.2.1
  have hK := X.2.2.2.2.2.2.1
  unfold f_S_own_n_21 at hf
  refine lv_iconst (v := 0) hx hb d_S_own_21 (by decide) ?_
  refine lv_goto (tgt := 34) hx hb d_S_own_22 rfl ?_
  cases hf
  exact sr_reti X Z d_S_own_34
def f_S_own_n (s0 : St) (p0 : St) (b0 : (Nat → Int64)) (x1 : Int32) (x2 : Int32) : Option (Int32) :=
  (sr_no (s0 0 0) x1).bind fun _ =>
  f_S_own_n_21 s0 p0 b0
set_option maxHeartbeats 4000000 in
set_option maxRecDepth 100000 in
theorem k_S_own_n_0 {s0 : St} {p0 : St} {b0 : (Nat → Int64)} {x1 : Int32} {x2 : Int32} {r : Int32} (X : sr_X D (tNN vs t rv) b_S_own 4 R_S w_S_own p s m args meth c A (some .int)) (Z : sr_Z D A s.heap (wN g vs h t ro rv F Y s0 p0 b0) H locs) (hl : lv_has ls 4 [(0, .ref (g 0)), (1, .int x1), (2, .int x2)]) (hf : f_S_own_n s0 p0 b0 x1 x2 = some r) : W p l e (sr_rm 2 42) s m args below meth c H locs 0 0 (sr_Qi D (tNN vs t rv) below args s A (wN g vs h t ro rv F Y s0 p0 b0) r) (F0 m 0 ls []) := by
  have hx := X.1
  have hb := X.2.1
  have hK := X.2.2.2.2.2.2.1
  unfold f_S_own_n at hf
  refine lv_aload_n hx hb d_S_own_0 rfl (lv_at hl 0 rfl) ?_
  refine lv_iload_n hx hb d_S_own_1 rfl (lv_at hl 1 rfl) ?_
  obtain ⟨_, e_1, hf⟩ := sr_b hf
  refine sr_cVqN (As := [.int x1]) (rest := []) X Z sr_cut_self hK (c_S_find_n e_1) (cw_S_79 X.2.2.2.2.2.1 (by decide)) 0 rfl rfl rfl hl rfl (Nat.le_of_ble_eq_true rfl) d_S_own_2 (fun H locs Z => ?_)
  refine lv_astore_nN (lv' := [(3, .null), (0, .ref (g 0)), (1, .int x1), (2, .int x2)]) hx hb d_S_own_5 rfl hl (by decide) rfl (fun ls hl => ?_)
  refine lv_aload_nN hx hb d_S_own_6 rfl (lv_at hl 0 rfl) ?_
  refine lv_ifnullN (tgt := 21) hx hb d_S_own_7 rfl ?_
  exact k_S_own_n_21 X Z (lv_sub hl [] rfl) hf
end
set_option maxHeartbeats 4000000 in
set_option maxRecDepth 100000 in
theorem c_S_own_n {l : Launch} {D : va_G} {g : Nat → Nat} {vs : ClassId} {h : Nat → Nat} {t : Nat → ClassId} {ro : Nat → Nat} {rv : Nat → ClassId} {F : Nat → Option Nat} {Y : va_W} {sz : Nat} {s0 : St} {p0 : St} {b0 : (Nat → Int64)} {x1 : Int32} {x2 : Int32} {r : Int32} (hf : f_S_own_n s0 p0 b0 x1 x2 = some r) : sr_Ci l y_S_own w_S_own (sr_rm 2 42) D (tNN vs t rv) (wN g vs h t ro rv F Y s0 p0 b0) (wN g vs h t ro rv F Y s0 p0 b0) sz [.ref (g 0), .int x1, .int x2] r := by
  refine Met.ofW (cc := b_S_own) (maxL := 4) (ret := (some .int)) (by decide) rfl ?_
  intro p e s m args below meth c s₁ B hml hv
  obtain ⟨rfl, hsz, hP, hK, hD0⟩ := hv
  subst hsz
  have X : sr_X D (tNN vs t rv) b_S_own 4 R_S w_S_own p s m _ meth c (va_A (wN g vs h t ro rv F Y s0 p0 b0) s.heap.size) (some .int) := ⟨B.exec, B.bytes, hml, findClass_of_methodNamed B.named, B.notSynchronized, atoms_spec (ws := w_S_own) B.pre, hK, fun q h => Or.inr h, B.returns⟩
  have Z : sr_Z D (va_A (wN g vs h t ro rv F Y s0 p0 b0) s.heap.size) s.heap (wN g vs h t ro rv F Y s0 p0 b0) s.heap [] := ⟨hP, hD0.self, va_S.rf⟩
  have hl := lv_entry ([.ref (g 0), .int x1, .int x2] : List Value) (n := 4) (Nat.le_of_ble_eq_true rfl)
  rw [lg_entry_eq]
  exact k_S_own_n_0 X Z hl hf
section
variable {p : Program} {l : Launch} {e : Env} {s : State} {m : MethodId} {args : Array Value} {below : List Frame} {meth : Method} {c : Code} {H : Heap} {locs : List Loc} {ls : Array Slot} {D : va_G} {A : Nat → Prop} {g h ro o : Nat → Nat} {vs : ClassId} {t rv v : Nat → ClassId} {F : Nat → Option Nat} {Y : va_W}
def f_S_own_j_21 (j0 : Nat) (s0 : St) (p0 : St) (b0 : (Nat → Int64)) (i0 : St) : Option (Int32) :=
  some 0
set_option maxHeartbeats 4000000 in
set_option maxRecDepth 100000 in
theorem k_S_own_j_21 {j0 : Nat} {s0 : St} {p0 : St} {b0 : (Nat → Int64)} {i0 : St} {r : Int32} (X : sr_X D (tJJ vs t rv v) b_S_own 4 R_S w_S_own p s m args meth c A (some .int)) (Z : sr_Z D A s.heap (wJJ g vs h t ro rv F Y o v j0 s0 p0 b0 i0) H locs) (hl : lv_has ls 4 []) (hf : f_S_own_j_21 j0 s0 p0 b0 i0 = some r) : W p l e (sr_rm 2 42) s m args below meth c H locs 0 0 (sr_Qi D (tJJ vs t rv v) below args s A (wJJ g vs h t ro rv F Y o v j0 s0 p0 b0 i0) r) (F0 m 21 ls []) := by
  have hx := X.1
  have hb := X.2.1
  have hK := X.2.2.2.2.2.2.1
  unfold f_S_own_j_21 at hf
  refine lv_iconst (v := 0) hx hb d_S_own_21 (by decide) ?_
  refine lv_goto (tgt := 34) hx hb d_S_own_22 rfl ?_
  cases hf
  exact sr_reti X Z d_S_own_34
def f_S_own_j (j0 : Nat) (s0 : St) (p0 : St) (b0 : (Nat → Int64)) (i0 : St) (x1 : Int32) (x2 : Int32) : Option (Int32) :=
  (sr_yes j0 (s0 0 0) x1).bind fun _ =>
  (f_P_hasScope p0 x2).bind fun v_2 =>
  if v_2 = 0 then
    f_S_own_j_21 j0 s0 p0 b0 i0
  else
    (sr_ald 24 (i0 12) x2).bind fun v_5 =>
    some v_5
set_option maxHeartbeats 4000000 in
set_option maxRecDepth 100000 in
theorem k_S_own_j_0 {j0 : Nat} {s0 : St} {p0 : St} {b0 : (Nat → Int64)} {i0 : St} {x1 : Int32} {x2 : Int32} {r : Int32} (X : sr_X D (tJJ vs t rv v) b_S_own 4 R_S w_S_own p s m args meth c A (some .int)) (Z : sr_Z D A s.heap (wJJ g vs h t ro rv F Y o v j0 s0 p0 b0 i0) H locs) (hl : lv_has ls 4 [(0, .ref (g 0)), (1, .int x1), (2, .int x2)]) (hf : f_S_own_j j0 s0 p0 b0 i0 x1 x2 = some r) : W p l e (sr_rm 2 42) s m args below meth c H locs 0 0 (sr_Qi D (tJJ vs t rv v) below args s A (wJJ g vs h t ro rv F Y o v j0 s0 p0 b0 i0) r) (F0 m 0 ls []) := by
  have hx := X.1
  have hb := X.2.1
  have hK := X.2.2.2.2.2.2.1
  unfold f_S_own_j at hf
  refine lv_aload_n hx hb d_S_own_0 rfl (lv_at hl 0 rfl) ?_
  refine lv_iload_n hx hb d_S_own_1 rfl (lv_at hl 1 rfl) ?_
  obtain ⟨_, e_1, hf⟩ := sr_b hf
  refine sr_cVqR (As := [.int x1]) (rest := []) X Z sr_cut_self (k_JN hK) (c_S_find_j e_1) (cw_S_79 X.2.2.2.2.2.1 (by decide)) 0 rfl rfl rfl hl rfl (Nat.le_of_ble_eq_true rfl) d_S_own_2 (fun H locs Z => ?_)
  refine lv_astore_n (lv' := [(3, .ref (o 0)), (0, .ref (g 0)), (1, .int x1), (2, .int x2)]) hx hb d_S_own_5 rfl hl (by decide) rfl (fun ls hl => ?_)
  refine lv_aload_n hx hb d_S_own_6 rfl (lv_at hl 0 rfl) ?_
  refine lv_ifnull hx hb d_S_own_7 ?_
  refine lv_aload_n hx hb d_S_own_10 rfl (lv_at hl 1 rfl) ?_
  refine g_S_10_J X Z d_S_own_11 ?_
  refine lv_iload_n hx hb d_S_own_14 rfl (lv_at hl 3 rfl) ?_
  obtain ⟨v_2, e_3, hf⟩ := sr_b hf
  refine sr_cVi (As := [.int x2]) (rest := []) X Z cut_JP (k_JP hK) (c_P_hasScope e_3) (cw_S_120 X.2.2.2.2.2.1 (by decide)) 2 rfl rfl rfl hl rfl (Nat.le_of_ble_eq_true rfl) d_S_own_15 (fun H locs Z => ?_)
  refine lv_if_ne (tgt := 25) hx hb d_S_own_18 rfl (fun q_4 => ?_) (fun q_4 => ?_)
  · have hf := sr_if q_4 hf
    refine lv_aload_n hx hb d_S_own_25 rfl (lv_at hl 0 rfl) ?_
    refine g_S_111_J X Z d_S_own_26 ?_
    refine g_S_123_J X Z d_S_own_29 ?_
    refine lv_iload_n hx hb d_S_own_32 rfl (lv_at hl 3 rfl) ?_
    obtain ⟨v_5, e_6, hf⟩ := sr_b hf
    refine sr_iald hx hb hK Z 29 21 rfl rfl e_6 d_S_own_33 ?_
    cases hf
    exact sr_reti X Z d_S_own_34
  · have hf := sr_it q_4 hf
    exact k_S_own_j_21 X Z (lv_sub hl [] rfl) hf
end
set_option maxHeartbeats 4000000 in
set_option maxRecDepth 100000 in
theorem c_S_own_j {l : Launch} {D : va_G} {g : Nat → Nat} {vs : ClassId} {h : Nat → Nat} {t : Nat → ClassId} {ro : Nat → Nat} {rv : Nat → ClassId} {F : Nat → Option Nat} {Y : va_W} {o : Nat → Nat} {v : Nat → ClassId} {sz : Nat} {j0 : Nat} {s0 : St} {p0 : St} {b0 : (Nat → Int64)} {i0 : St} {x1 : Int32} {x2 : Int32} {r : Int32} (hf : f_S_own_j j0 s0 p0 b0 i0 x1 x2 = some r) : sr_Ci l y_S_own w_S_own (sr_rm 2 42) D (tJJ vs t rv v) (wJJ g vs h t ro rv F Y o v j0 s0 p0 b0 i0) (wJJ g vs h t ro rv F Y o v j0 s0 p0 b0 i0) sz [.ref (g 0), .int x1, .int x2] r := by
  refine Met.ofW (cc := b_S_own) (maxL := 4) (ret := (some .int)) (by decide) rfl ?_
  intro p e s m args below meth c s₁ B hml hv
  obtain ⟨rfl, hsz, hP, hK, hD0⟩ := hv
  subst hsz
  have X : sr_X D (tJJ vs t rv v) b_S_own 4 R_S w_S_own p s m _ meth c (va_A (wJJ g vs h t ro rv F Y o v j0 s0 p0 b0 i0) s.heap.size) (some .int) := ⟨B.exec, B.bytes, hml, findClass_of_methodNamed B.named, B.notSynchronized, atoms_spec (ws := w_S_own) B.pre, hK, fun q h => Or.inr h, B.returns⟩
  have Z : sr_Z D (va_A (wJJ g vs h t ro rv F Y o v j0 s0 p0 b0 i0) s.heap.size) s.heap (wJJ g vs h t ro rv F Y o v j0 s0 p0 b0 i0) s.heap [] := ⟨hP, hD0.self, va_S.rf⟩
  have hl := lv_entry ([.ref (g 0), .int x1, .int x2] : List Value) (n := 4) (Nat.le_of_ble_eq_true rfl)
  rw [lg_entry_eq]
  exact k_S_own_j_0 X Z hl hf
/-! S_linkState -/
theorem d_S_linkState_0 : decode b_S_linkState 0 = .ok (.aload_n 0, 1) := by decide +kernel
theorem d_S_linkState_1 : decode b_S_linkState 1 = .ok (.iload_n 1, 1) := by decide +kernel
theorem d_S_linkState_2 : decode b_S_linkState 2 = .ok (.invokevirtual 79, 3) := by decide +kernel
theorem d_S_linkState_5 : decode b_S_linkState 5 = .ok (.astore_n 3, 1) := by decide +kernel
theorem d_S_linkState_6 : decode b_S_linkState 6 = .ok (.aload_n 3, 1) := by decide +kernel
theorem d_S_linkState_7 : decode b_S_linkState 7 = .ok (.ifnull 18, 3) := by decide +kernel
theorem d_S_linkState_10 : decode b_S_linkState 10 = .ok (.iload_n 2, 1) := by decide +kernel
theorem d_S_linkState_11 : decode b_S_linkState 11 = .ok (.ifCond .lt 14, 3) := by decide +kernel
theorem d_S_linkState_14 : decode b_S_linkState 14 = .ok (.iload_n 2, 1) := by decide +kernel
theorem d_S_linkState_15 : decode b_S_linkState 15 = .ok (.aload_n 0, 1) := by decide +kernel
theorem d_S_linkState_16 : decode b_S_linkState 16 = .ok (.getfield 10, 3) := by decide +kernel
theorem d_S_linkState_19 : decode b_S_linkState 19 = .ok (.getfield 59, 3) := by decide +kernel
theorem d_S_linkState_22 : decode b_S_linkState 22 = .ok (.if_icmp .lt 7, 3) := by decide +kernel
theorem d_S_linkState_25 : decode b_S_linkState 25 = .ok (.iconst (-1), 1) := by decide +kernel
theorem d_S_linkState_26 : decode b_S_linkState 26 = .ok (.goto 12, 3) := by decide +kernel
theorem d_S_linkState_29 : decode b_S_linkState 29 = .ok (.aload_n 3, 1) := by decide +kernel
theorem d_S_linkState_30 : decode b_S_linkState 30 = .ok (.getfield 126, 3) := by decide +kernel
theorem d_S_linkState_33 : decode b_S_linkState 33 = .ok (.getfield 130, 3) := by decide +kernel
theorem d_S_linkState_36 : decode b_S_linkState 36 = .ok (.iload_n 2, 1) := by decide +kernel
theorem d_S_linkState_37 : decode b_S_linkState 37 = .ok (.iaload, 1) := by decide +kernel
theorem d_S_linkState_38 : decode b_S_linkState 38 = .ok (.ireturn, 1) := by decide +kernel
section
variable {p : Program} {l : Launch} {e : Env} {s : State} {m : MethodId} {args : Array Value} {below : List Frame} {meth : Method} {c : Code} {H : Heap} {locs : List Loc} {ls : Array Slot} {D : va_G} {A : Nat → Prop} {g h ro o : Nat → Nat} {vs : ClassId} {t rv v : Nat → ClassId} {F : Nat → Option Nat} {Y : va_W}
def f_S_linkState_n_25 (s0 : St) (p0 : St) (b0 : (Nat → Int64)) : Option (Int32) :=
  some (-1)
set_option maxHeartbeats 4000000 in
set_option maxRecDepth 100000 in
theorem k_S_linkState_n_25 {s0 : St} {p0 : St} {b0 : (Nat → Int64)} {r : Int32} (X : sr_X D (tNN vs t rv) b_S_linkState 4 R_S w_S_linkState p s m args meth c A (some .int)) (Z : sr_Z D A s.heap (wN g vs h t ro rv F Y s0 p0 b0) H locs) (hl : lv_has ls 4 []) (hf : f_S_linkState_n_25 s0 p0 b0 = some r) : W p l e (sr_rm 1 21) s m args below meth c H locs 0 0 (sr_Qi D (tNN vs t rv) below args s A (wN g vs h t ro rv F Y s0 p0 b0) r) (F0 m 25 ls []) := by
  have hx := X.1
  have hb := X.2.1
  have hK := X.2.2.2.2.2.2.1
  unfold f_S_linkState_n_25 at hf
  refine lv_iconst (v := -1) hx hb d_S_linkState_25 (by decide) ?_
  refine lv_goto (tgt := 38) hx hb d_S_linkState_26 rfl ?_
  cases hf
  exact sr_reti X Z d_S_linkState_38
def f_S_linkState_n (s0 : St) (p0 : St) (b0 : (Nat → Int64)) (x1 : Int32) (x2 : Int32) : Option (Int32) :=
  (sr_no (s0 0 0) x1).bind fun _ =>
  f_S_linkState_n_25 s0 p0 b0
set_option maxHeartbeats 4000000 in
set_option maxRecDepth 100000 in
theorem k_S_linkState_n_0 {s0 : St} {p0 : St} {b0 : (Nat → Int64)} {x1 : Int32} {x2 : Int32} {r : Int32} (X : sr_X D (tNN vs t rv) b_S_linkState 4 R_S w_S_linkState p s m args meth c A (some .int)) (Z : sr_Z D A s.heap (wN g vs h t ro rv F Y s0 p0 b0) H locs) (hl : lv_has ls 4 [(0, .ref (g 0)), (1, .int x1), (2, .int x2)]) (hf : f_S_linkState_n s0 p0 b0 x1 x2 = some r) : W p l e (sr_rm 1 21) s m args below meth c H locs 0 0 (sr_Qi D (tNN vs t rv) below args s A (wN g vs h t ro rv F Y s0 p0 b0) r) (F0 m 0 ls []) := by
  have hx := X.1
  have hb := X.2.1
  have hK := X.2.2.2.2.2.2.1
  unfold f_S_linkState_n at hf
  refine lv_aload_n hx hb d_S_linkState_0 rfl (lv_at hl 0 rfl) ?_
  refine lv_iload_n hx hb d_S_linkState_1 rfl (lv_at hl 1 rfl) ?_
  obtain ⟨_, e_1, hf⟩ := sr_b hf
  refine sr_cVqN (As := [.int x1]) (rest := []) X Z sr_cut_self hK (c_S_find_n e_1) (cw_S_79 X.2.2.2.2.2.1 (by decide)) 0 rfl rfl rfl hl rfl (Nat.le_of_ble_eq_true rfl) d_S_linkState_2 (fun H locs Z => ?_)
  refine lv_astore_nN (lv' := [(3, .null), (0, .ref (g 0)), (1, .int x1), (2, .int x2)]) hx hb d_S_linkState_5 rfl hl (by decide) rfl (fun ls hl => ?_)
  refine lv_aload_nN hx hb d_S_linkState_6 rfl (lv_at hl 0 rfl) ?_
  refine lv_ifnullN (tgt := 25) hx hb d_S_linkState_7 rfl ?_
  exact k_S_linkState_n_25 X Z (lv_sub hl [] rfl) hf
end
set_option maxHeartbeats 4000000 in
set_option maxRecDepth 100000 in
theorem c_S_linkState_n {l : Launch} {D : va_G} {g : Nat → Nat} {vs : ClassId} {h : Nat → Nat} {t : Nat → ClassId} {ro : Nat → Nat} {rv : Nat → ClassId} {F : Nat → Option Nat} {Y : va_W} {sz : Nat} {s0 : St} {p0 : St} {b0 : (Nat → Int64)} {x1 : Int32} {x2 : Int32} {r : Int32} (hf : f_S_linkState_n s0 p0 b0 x1 x2 = some r) : sr_Ci l y_S_linkState w_S_linkState (sr_rm 1 21) D (tNN vs t rv) (wN g vs h t ro rv F Y s0 p0 b0) (wN g vs h t ro rv F Y s0 p0 b0) sz [.ref (g 0), .int x1, .int x2] r := by
  refine Met.ofW (cc := b_S_linkState) (maxL := 4) (ret := (some .int)) (by decide) rfl ?_
  intro p e s m args below meth c s₁ B hml hv
  obtain ⟨rfl, hsz, hP, hK, hD0⟩ := hv
  subst hsz
  have X : sr_X D (tNN vs t rv) b_S_linkState 4 R_S w_S_linkState p s m _ meth c (va_A (wN g vs h t ro rv F Y s0 p0 b0) s.heap.size) (some .int) := ⟨B.exec, B.bytes, hml, findClass_of_methodNamed B.named, B.notSynchronized, atoms_spec (ws := w_S_linkState) B.pre, hK, fun q h => Or.inr h, B.returns⟩
  have Z : sr_Z D (va_A (wN g vs h t ro rv F Y s0 p0 b0) s.heap.size) s.heap (wN g vs h t ro rv F Y s0 p0 b0) s.heap [] := ⟨hP, hD0.self, va_S.rf⟩
  have hl := lv_entry ([.ref (g 0), .int x1, .int x2] : List Value) (n := 4) (Nat.le_of_ble_eq_true rfl)
  rw [lg_entry_eq]
  exact k_S_linkState_n_0 X Z hl hf
section
variable {p : Program} {l : Launch} {e : Env} {s : State} {m : MethodId} {args : Array Value} {below : List Frame} {meth : Method} {c : Code} {H : Heap} {locs : List Loc} {ls : Array Slot} {D : va_G} {A : Nat → Prop} {g h ro o : Nat → Nat} {vs : ClassId} {t rv v : Nat → ClassId} {F : Nat → Option Nat} {Y : va_W}
def f_S_linkState_j_25 (j0 : Nat) (s0 : St) (p0 : St) (b0 : (Nat → Int64)) (i0 : St) : Option (Int32) :=
  some (-1)
set_option maxHeartbeats 4000000 in
set_option maxRecDepth 100000 in
theorem k_S_linkState_j_25 {j0 : Nat} {s0 : St} {p0 : St} {b0 : (Nat → Int64)} {i0 : St} {r : Int32} (X : sr_X D (tJJ vs t rv v) b_S_linkState 4 R_S w_S_linkState p s m args meth c A (some .int)) (Z : sr_Z D A s.heap (wJJ g vs h t ro rv F Y o v j0 s0 p0 b0 i0) H locs) (hl : lv_has ls 4 []) (hf : f_S_linkState_j_25 j0 s0 p0 b0 i0 = some r) : W p l e (sr_rm 1 21) s m args below meth c H locs 0 0 (sr_Qi D (tJJ vs t rv v) below args s A (wJJ g vs h t ro rv F Y o v j0 s0 p0 b0 i0) r) (F0 m 25 ls []) := by
  have hx := X.1
  have hb := X.2.1
  have hK := X.2.2.2.2.2.2.1
  unfold f_S_linkState_j_25 at hf
  refine lv_iconst (v := -1) hx hb d_S_linkState_25 (by decide) ?_
  refine lv_goto (tgt := 38) hx hb d_S_linkState_26 rfl ?_
  cases hf
  exact sr_reti X Z d_S_linkState_38
def f_S_linkState_j (j0 : Nat) (s0 : St) (p0 : St) (b0 : (Nat → Int64)) (i0 : St) (x1 : Int32) (x2 : Int32) : Option (Int32) :=
  (sr_yes j0 (s0 0 0) x1).bind fun _ =>
  if x2 < 0 then
    f_S_linkState_j_25 j0 s0 p0 b0 i0
  else
    if x2 < (p0 15 0) then
      (sr_ald 16 (i0 13) x2).bind fun v_4 =>
      some v_4
    else
      f_S_linkState_j_25 j0 s0 p0 b0 i0
set_option maxHeartbeats 4000000 in
set_option maxRecDepth 100000 in
theorem k_S_linkState_j_0 {j0 : Nat} {s0 : St} {p0 : St} {b0 : (Nat → Int64)} {i0 : St} {x1 : Int32} {x2 : Int32} {r : Int32} (X : sr_X D (tJJ vs t rv v) b_S_linkState 4 R_S w_S_linkState p s m args meth c A (some .int)) (Z : sr_Z D A s.heap (wJJ g vs h t ro rv F Y o v j0 s0 p0 b0 i0) H locs) (hl : lv_has ls 4 [(0, .ref (g 0)), (1, .int x1), (2, .int x2)]) (hf : f_S_linkState_j j0 s0 p0 b0 i0 x1 x2 = some r) : W p l e (sr_rm 1 21) s m args below meth c H locs 0 0 (sr_Qi D (tJJ vs t rv v) below args s A (wJJ g vs h t ro rv F Y o v j0 s0 p0 b0 i0) r) (F0 m 0 ls []) := by
  have hx := X.1
  have hb := X.2.1
  have hK := X.2.2.2.2.2.2.1
  unfold f_S_linkState_j at hf
  refine lv_aload_n hx hb d_S_linkState_0 rfl (lv_at hl 0 rfl) ?_
  refine lv_iload_n hx hb d_S_linkState_1 rfl (lv_at hl 1 rfl) ?_
  obtain ⟨_, e_1, hf⟩ := sr_b hf
  refine sr_cVqR (As := [.int x1]) (rest := []) X Z sr_cut_self (k_JN hK) (c_S_find_j e_1) (cw_S_79 X.2.2.2.2.2.1 (by decide)) 0 rfl rfl rfl hl rfl (Nat.le_of_ble_eq_true rfl) d_S_linkState_2 (fun H locs Z => ?_)
  refine lv_astore_n (lv' := [(3, .ref (o 0)), (0, .ref (g 0)), (1, .int x1), (2, .int x2)]) hx hb d_S_linkState_5 rfl hl (by decide) rfl (fun ls hl => ?_)
  refine lv_aload_n hx hb d_S_linkState_6 rfl (lv_at hl 0 rfl) ?_
  refine lv_ifnull hx hb d_S_linkState_7 ?_
  refine lv_iload_n hx hb d_S_linkState_10 rfl (lv_at hl 3 rfl) ?_
  refine lv_if_lt (tgt := 25) hx hb d_S_linkState_11 rfl (fun q_2 => ?_) (fun q_2 => ?_)
  · have hf := sr_it q_2 hf
    exact k_S_linkState_j_25 X Z (lv_sub hl [] rfl) hf
  · have hf := sr_if q_2 hf
    refine lv_iload_n hx hb d_S_linkState_14 rfl (lv_at hl 3 rfl) ?_
    refine lv_aload_n hx hb d_S_linkState_15 rfl (lv_at hl 1 rfl) ?_
    refine g_S_10_J X Z d_S_linkState_16 ?_
    refine g_S_59_J X Z d_S_linkState_19 ?_
    refine lv_icmp_lt (tgt := 29) hx hb d_S_linkState_22 rfl (fun q_3 => ?_) (fun q_3 => ?_)
    · have hf := sr_it q_3 hf
      refine lv_aload_n hx hb d_S_linkState_29 rfl (lv_at hl 0 rfl) ?_
      refine g_S_126_J X Z d_S_linkState_30 ?_
      refine g_S_130_J X Z d_S_linkState_33 ?_
      refine lv_iload_n hx hb d_S_linkState_36 rfl (lv_at hl 3 rfl) ?_
      obtain ⟨v_4, e_5, hf⟩ := sr_b hf
      refine sr_iald hx hb hK Z 30 22 rfl rfl e_5 d_S_linkState_37 ?_
      cases hf
      exact sr_reti X Z d_S_linkState_38
    · have hf := sr_if q_3 hf
      exact k_S_linkState_j_25 X Z (lv_sub hl [] rfl) hf
end
set_option maxHeartbeats 4000000 in
set_option maxRecDepth 100000 in
theorem c_S_linkState_j {l : Launch} {D : va_G} {g : Nat → Nat} {vs : ClassId} {h : Nat → Nat} {t : Nat → ClassId} {ro : Nat → Nat} {rv : Nat → ClassId} {F : Nat → Option Nat} {Y : va_W} {o : Nat → Nat} {v : Nat → ClassId} {sz : Nat} {j0 : Nat} {s0 : St} {p0 : St} {b0 : (Nat → Int64)} {i0 : St} {x1 : Int32} {x2 : Int32} {r : Int32} (hf : f_S_linkState_j j0 s0 p0 b0 i0 x1 x2 = some r) : sr_Ci l y_S_linkState w_S_linkState (sr_rm 1 21) D (tJJ vs t rv v) (wJJ g vs h t ro rv F Y o v j0 s0 p0 b0 i0) (wJJ g vs h t ro rv F Y o v j0 s0 p0 b0 i0) sz [.ref (g 0), .int x1, .int x2] r := by
  refine Met.ofW (cc := b_S_linkState) (maxL := 4) (ret := (some .int)) (by decide) rfl ?_
  intro p e s m args below meth c s₁ B hml hv
  obtain ⟨rfl, hsz, hP, hK, hD0⟩ := hv
  subst hsz
  have X : sr_X D (tJJ vs t rv v) b_S_linkState 4 R_S w_S_linkState p s m _ meth c (va_A (wJJ g vs h t ro rv F Y o v j0 s0 p0 b0 i0) s.heap.size) (some .int) := ⟨B.exec, B.bytes, hml, findClass_of_methodNamed B.named, B.notSynchronized, atoms_spec (ws := w_S_linkState) B.pre, hK, fun q h => Or.inr h, B.returns⟩
  have Z : sr_Z D (va_A (wJJ g vs h t ro rv F Y o v j0 s0 p0 b0 i0) s.heap.size) s.heap (wJJ g vs h t ro rv F Y o v j0 s0 p0 b0 i0) s.heap [] := ⟨hP, hD0.self, va_S.rf⟩
  have hl := lv_entry ([.ref (g 0), .int x1, .int x2] : List Value) (n := 4) (Nat.le_of_ble_eq_true rfl)
  rw [lg_entry_eq]
  exact k_S_linkState_j_0 X Z hl hf
/-! S_kept -/
theorem d_S_kept_0 : decode b_S_kept 0 = .ok (.aload_n 0, 1) := by decide +kernel
theorem d_S_kept_1 : decode b_S_kept 1 = .ok (.iload_n 1, 1) := by decide +kernel
theorem d_S_kept_2 : decode b_S_kept 2 = .ok (.invokevirtual 79, 3) := by decide +kernel
theorem d_S_kept_5 : decode b_S_kept 5 = .ok (.astore_n 3, 1) := by decide +kernel
theorem d_S_kept_6 : decode b_S_kept 6 = .ok (.aload_n 3, 1) := by decide +kernel
theorem d_S_kept_7 : decode b_S_kept 7 = .ok (.ifnull 14, 3) := by decide +kernel
theorem d_S_kept_10 : decode b_S_kept 10 = .ok (.aload_n 0, 1) := by decide +kernel
theorem d_S_kept_11 : decode b_S_kept 11 = .ok (.getfield 10, 3) := by decide +kernel
theorem d_S_kept_14 : decode b_S_kept 14 = .ok (.iload_n 2, 1) := by decide +kernel
theorem d_S_kept_15 : decode b_S_kept 15 = .ok (.invokevirtual 120, 3) := by decide +kernel
theorem d_S_kept_18 : decode b_S_kept 18 = .ok (.ifCond .ne 7, 3) := by decide +kernel
theorem d_S_kept_21 : decode b_S_kept 21 = .ok (.iconst (-1), 1) := by decide +kernel
theorem d_S_kept_22 : decode b_S_kept 22 = .ok (.goto 11, 3) := by decide +kernel
theorem d_S_kept_25 : decode b_S_kept 25 = .ok (.aload_n 3, 1) := by decide +kernel
theorem d_S_kept_26 : decode b_S_kept 26 = .ok (.getfield 135, 3) := by decide +kernel
theorem d_S_kept_29 : decode b_S_kept 29 = .ok (.iload_n 2, 1) := by decide +kernel
theorem d_S_kept_30 : decode b_S_kept 30 = .ok (.invokevirtual 139, 3) := by decide +kernel
theorem d_S_kept_33 : decode b_S_kept 33 = .ok (.ireturn, 1) := by decide +kernel
section
variable {p : Program} {l : Launch} {e : Env} {s : State} {m : MethodId} {args : Array Value} {below : List Frame} {meth : Method} {c : Code} {H : Heap} {locs : List Loc} {ls : Array Slot} {D : va_G} {A : Nat → Prop} {g h ro o : Nat → Nat} {vs : ClassId} {t rv v : Nat → ClassId} {F : Nat → Option Nat} {Y : va_W}
def f_S_kept_n_21 (s0 : St) (p0 : St) (b0 : (Nat → Int64)) : Option (Int32) :=
  some (-1)
set_option maxHeartbeats 4000000 in
set_option maxRecDepth 100000 in
theorem k_S_kept_n_21 {s0 : St} {p0 : St} {b0 : (Nat → Int64)} {r : Int32} (X : sr_X D (tNN vs t rv) b_S_kept 4 R_S w_S_kept p s m args meth c A (some .int)) (Z : sr_Z D A s.heap (wN g vs h t ro rv F Y s0 p0 b0) H locs) (hl : lv_has ls 4 []) (hf : f_S_kept_n_21 s0 p0 b0 = some r) : W p l e (sr_rm 2 42) s m args below meth c H locs 0 0 (sr_Qi D (tNN vs t rv) below args s A (wN g vs h t ro rv F Y s0 p0 b0) r) (F0 m 21 ls []) := by
  have hx := X.1
  have hb := X.2.1
  have hK := X.2.2.2.2.2.2.1
  unfold f_S_kept_n_21 at hf
  refine lv_iconst (v := -1) hx hb d_S_kept_21 (by decide) ?_
  refine lv_goto (tgt := 33) hx hb d_S_kept_22 rfl ?_
  cases hf
  exact sr_reti X Z d_S_kept_33
def f_S_kept_n (s0 : St) (p0 : St) (b0 : (Nat → Int64)) (x1 : Int32) (x2 : Int32) : Option (Int32) :=
  (sr_no (s0 0 0) x1).bind fun _ =>
  f_S_kept_n_21 s0 p0 b0
set_option maxHeartbeats 4000000 in
set_option maxRecDepth 100000 in
theorem k_S_kept_n_0 {s0 : St} {p0 : St} {b0 : (Nat → Int64)} {x1 : Int32} {x2 : Int32} {r : Int32} (X : sr_X D (tNN vs t rv) b_S_kept 4 R_S w_S_kept p s m args meth c A (some .int)) (Z : sr_Z D A s.heap (wN g vs h t ro rv F Y s0 p0 b0) H locs) (hl : lv_has ls 4 [(0, .ref (g 0)), (1, .int x1), (2, .int x2)]) (hf : f_S_kept_n s0 p0 b0 x1 x2 = some r) : W p l e (sr_rm 2 42) s m args below meth c H locs 0 0 (sr_Qi D (tNN vs t rv) below args s A (wN g vs h t ro rv F Y s0 p0 b0) r) (F0 m 0 ls []) := by
  have hx := X.1
  have hb := X.2.1
  have hK := X.2.2.2.2.2.2.1
  unfold f_S_kept_n at hf
  refine lv_aload_n hx hb d_S_kept_0 rfl (lv_at hl 0 rfl) ?_
  refine lv_iload_n hx hb d_S_kept_1 rfl (lv_at hl 1 rfl) ?_
  obtain ⟨_, e_1, hf⟩ := sr_b hf
  refine sr_cVqN (As := [.int x1]) (rest := []) X Z sr_cut_self hK (c_S_find_n e_1) (cw_S_79 X.2.2.2.2.2.1 (by decide)) 0 rfl rfl rfl hl rfl (Nat.le_of_ble_eq_true rfl) d_S_kept_2 (fun H locs Z => ?_)
  refine lv_astore_nN (lv' := [(3, .null), (0, .ref (g 0)), (1, .int x1), (2, .int x2)]) hx hb d_S_kept_5 rfl hl (by decide) rfl (fun ls hl => ?_)
  refine lv_aload_nN hx hb d_S_kept_6 rfl (lv_at hl 0 rfl) ?_
  refine lv_ifnullN (tgt := 21) hx hb d_S_kept_7 rfl ?_
  exact k_S_kept_n_21 X Z (lv_sub hl [] rfl) hf
end
set_option maxHeartbeats 4000000 in
set_option maxRecDepth 100000 in
theorem c_S_kept_n {l : Launch} {D : va_G} {g : Nat → Nat} {vs : ClassId} {h : Nat → Nat} {t : Nat → ClassId} {ro : Nat → Nat} {rv : Nat → ClassId} {F : Nat → Option Nat} {Y : va_W} {sz : Nat} {s0 : St} {p0 : St} {b0 : (Nat → Int64)} {x1 : Int32} {x2 : Int32} {r : Int32} (hf : f_S_kept_n s0 p0 b0 x1 x2 = some r) : sr_Ci l y_S_kept w_S_kept (sr_rm 2 42) D (tNN vs t rv) (wN g vs h t ro rv F Y s0 p0 b0) (wN g vs h t ro rv F Y s0 p0 b0) sz [.ref (g 0), .int x1, .int x2] r := by
  refine Met.ofW (cc := b_S_kept) (maxL := 4) (ret := (some .int)) (by decide) rfl ?_
  intro p e s m args below meth c s₁ B hml hv
  obtain ⟨rfl, hsz, hP, hK, hD0⟩ := hv
  subst hsz
  have X : sr_X D (tNN vs t rv) b_S_kept 4 R_S w_S_kept p s m _ meth c (va_A (wN g vs h t ro rv F Y s0 p0 b0) s.heap.size) (some .int) := ⟨B.exec, B.bytes, hml, findClass_of_methodNamed B.named, B.notSynchronized, atoms_spec (ws := w_S_kept) B.pre, hK, fun q h => Or.inr h, B.returns⟩
  have Z : sr_Z D (va_A (wN g vs h t ro rv F Y s0 p0 b0) s.heap.size) s.heap (wN g vs h t ro rv F Y s0 p0 b0) s.heap [] := ⟨hP, hD0.self, va_S.rf⟩
  have hl := lv_entry ([.ref (g 0), .int x1, .int x2] : List Value) (n := 4) (Nat.le_of_ble_eq_true rfl)
  rw [lg_entry_eq]
  exact k_S_kept_n_0 X Z hl hf
section
variable {p : Program} {l : Launch} {e : Env} {s : State} {m : MethodId} {args : Array Value} {below : List Frame} {meth : Method} {c : Code} {H : Heap} {locs : List Loc} {ls : Array Slot} {D : va_G} {A : Nat → Prop} {g h ro o : Nat → Nat} {vs : ClassId} {t rv v : Nat → ClassId} {F : Nat → Option Nat} {Y : va_W}
def f_S_kept_j_21 (j0 : Nat) (s0 : St) (p0 : St) (b0 : (Nat → Int64)) (i0 : St) : Option (Int32) :=
  some (-1)
set_option maxHeartbeats 4000000 in
set_option maxRecDepth 100000 in
theorem k_S_kept_j_21 {j0 : Nat} {s0 : St} {p0 : St} {b0 : (Nat → Int64)} {i0 : St} {r : Int32} (X : sr_X D (tJJ vs t rv v) b_S_kept 4 R_S w_S_kept p s m args meth c A (some .int)) (Z : sr_Z D A s.heap (wJJ g vs h t ro rv F Y o v j0 s0 p0 b0 i0) H locs) (hl : lv_has ls 4 []) (hf : f_S_kept_j_21 j0 s0 p0 b0 i0 = some r) : W p l e (sr_rm 2 42) s m args below meth c H locs 0 0 (sr_Qi D (tJJ vs t rv v) below args s A (wJJ g vs h t ro rv F Y o v j0 s0 p0 b0 i0) r) (F0 m 21 ls []) := by
  have hx := X.1
  have hb := X.2.1
  have hK := X.2.2.2.2.2.2.1
  unfold f_S_kept_j_21 at hf
  refine lv_iconst (v := -1) hx hb d_S_kept_21 (by decide) ?_
  refine lv_goto (tgt := 33) hx hb d_S_kept_22 rfl ?_
  cases hf
  exact sr_reti X Z d_S_kept_33
def f_S_kept_j (j0 : Nat) (s0 : St) (p0 : St) (b0 : (Nat → Int64)) (i0 : St) (x1 : Int32) (x2 : Int32) : Option (Int32) :=
  (sr_yes j0 (s0 0 0) x1).bind fun _ =>
  (f_P_hasScope p0 x2).bind fun v_2 =>
  if v_2 = 0 then
    f_S_kept_j_21 j0 s0 p0 b0 i0
  else
    (f_E_countIn p0 i0 x2).bind fun v_5 =>
    some v_5
set_option maxHeartbeats 4000000 in
set_option maxRecDepth 100000 in
theorem k_S_kept_j_0 {j0 : Nat} {s0 : St} {p0 : St} {b0 : (Nat → Int64)} {i0 : St} {x1 : Int32} {x2 : Int32} {r : Int32} (X : sr_X D (tJJ vs t rv v) b_S_kept 4 R_S w_S_kept p s m args meth c A (some .int)) (Z : sr_Z D A s.heap (wJJ g vs h t ro rv F Y o v j0 s0 p0 b0 i0) H locs) (hl : lv_has ls 4 [(0, .ref (g 0)), (1, .int x1), (2, .int x2)]) (hf : f_S_kept_j j0 s0 p0 b0 i0 x1 x2 = some r) : W p l e (sr_rm 2 42) s m args below meth c H locs 0 0 (sr_Qi D (tJJ vs t rv v) below args s A (wJJ g vs h t ro rv F Y o v j0 s0 p0 b0 i0) r) (F0 m 0 ls []) := by
  have hx := X.1
  have hb := X.2.1
  have hK := X.2.2.2.2.2.2.1
  unfold f_S_kept_j at hf
  refine lv_aload_n hx hb d_S_kept_0 rfl (lv_at hl 0 rfl) ?_
  refine lv_iload_n hx hb d_S_kept_1 rfl (lv_at hl 1 rfl) ?_
  obtain ⟨_, e_1, hf⟩ := sr_b hf
  refine sr_cVqR (As := [.int x1]) (rest := []) X Z sr_cut_self (k_JN hK) (c_S_find_j e_1) (cw_S_79 X.2.2.2.2.2.1 (by decide)) 0 rfl rfl rfl hl rfl (Nat.le_of_ble_eq_true rfl) d_S_kept_2 (fun H locs Z => ?_)
  refine lv_astore_n (lv' := [(3, .ref (o 0)), (0, .ref (g 0)), (1, .int x1), (2, .int x2)]) hx hb d_S_kept_5 rfl hl (by decide) rfl (fun ls hl => ?_)
  refine lv_aload_n hx hb d_S_kept_6 rfl (lv_at hl 0 rfl) ?_
  refine lv_ifnull hx hb d_S_kept_7 ?_
  refine lv_aload_n hx hb d_S_kept_10 rfl (lv_at hl 1 rfl) ?_
  refine g_S_10_J X Z d_S_kept_11 ?_
  refine lv_iload_n hx hb d_S_kept_14 rfl (lv_at hl 3 rfl) ?_
  obtain ⟨v_2, e_3, hf⟩ := sr_b hf
  refine sr_cVi (As := [.int x2]) (rest := []) X Z cut_JP (k_JP hK) (c_P_hasScope e_3) (cw_S_120 X.2.2.2.2.2.1 (by decide)) 2 rfl rfl rfl hl rfl (Nat.le_of_ble_eq_true rfl) d_S_kept_15 (fun H locs Z => ?_)
  refine lv_if_ne (tgt := 25) hx hb d_S_kept_18 rfl (fun q_4 => ?_) (fun q_4 => ?_)
  · have hf := sr_if q_4 hf
    refine lv_aload_n hx hb d_S_kept_25 rfl (lv_at hl 0 rfl) ?_
    refine g_S_135_J X Z d_S_kept_26 ?_
    refine lv_iload_n hx hb d_S_kept_29 rfl (lv_at hl 3 rfl) ?_
    obtain ⟨v_5, e_6, hf⟩ := sr_b hf
    refine sr_cVi (As := [.int x2]) (rest := []) X Z cut_JI (k_JI hK) (c_E_countIn e_6) (cw_S_139 X.2.2.2.2.2.1 (by decide)) 22 rfl rfl rfl hl rfl (Nat.le_of_ble_eq_true rfl) d_S_kept_30 (fun H locs Z => ?_)
    cases hf
    exact sr_reti X Z d_S_kept_33
  · have hf := sr_it q_4 hf
    exact k_S_kept_j_21 X Z (lv_sub hl [] rfl) hf
end
set_option maxHeartbeats 4000000 in
set_option maxRecDepth 100000 in
theorem c_S_kept_j {l : Launch} {D : va_G} {g : Nat → Nat} {vs : ClassId} {h : Nat → Nat} {t : Nat → ClassId} {ro : Nat → Nat} {rv : Nat → ClassId} {F : Nat → Option Nat} {Y : va_W} {o : Nat → Nat} {v : Nat → ClassId} {sz : Nat} {j0 : Nat} {s0 : St} {p0 : St} {b0 : (Nat → Int64)} {i0 : St} {x1 : Int32} {x2 : Int32} {r : Int32} (hf : f_S_kept_j j0 s0 p0 b0 i0 x1 x2 = some r) : sr_Ci l y_S_kept w_S_kept (sr_rm 2 42) D (tJJ vs t rv v) (wJJ g vs h t ro rv F Y o v j0 s0 p0 b0 i0) (wJJ g vs h t ro rv F Y o v j0 s0 p0 b0 i0) sz [.ref (g 0), .int x1, .int x2] r := by
  refine Met.ofW (cc := b_S_kept) (maxL := 4) (ret := (some .int)) (by decide) rfl ?_
  intro p e s m args below meth c s₁ B hml hv
  obtain ⟨rfl, hsz, hP, hK, hD0⟩ := hv
  subst hsz
  have X : sr_X D (tJJ vs t rv v) b_S_kept 4 R_S w_S_kept p s m _ meth c (va_A (wJJ g vs h t ro rv F Y o v j0 s0 p0 b0 i0) s.heap.size) (some .int) := ⟨B.exec, B.bytes, hml, findClass_of_methodNamed B.named, B.notSynchronized, atoms_spec (ws := w_S_kept) B.pre, hK, fun q h => Or.inr h, B.returns⟩
  have Z : sr_Z D (va_A (wJJ g vs h t ro rv F Y o v j0 s0 p0 b0 i0) s.heap.size) s.heap (wJJ g vs h t ro rv F Y o v j0 s0 p0 b0 i0) s.heap [] := ⟨hP, hD0.self, va_S.rf⟩
  have hl := lv_entry ([.ref (g 0), .int x1, .int x2] : List Value) (n := 4) (Nat.le_of_ble_eq_true rfl)
  rw [lg_entry_eq]
  exact k_S_kept_j_0 X Z hl hf
/-! S_events -/
theorem d_S_events_0 : decode b_S_events 0 = .ok (.aload_n 0, 1) := by decide +kernel
theorem d_S_events_1 : decode b_S_events 1 = .ok (.iload_n 1, 1) := by decide +kernel
theorem d_S_events_2 : decode b_S_events 2 = .ok (.invokevirtual 79, 3) := by decide +kernel
theorem d_S_events_5 : decode b_S_events 5 = .ok (.astore_n 2, 1) := by decide +kernel
theorem d_S_events_6 : decode b_S_events 6 = .ok (.aload_n 2, 1) := by decide +kernel
theorem d_S_events_7 : decode b_S_events 7 = .ok (.ifnonnull 7, 3) := by decide +kernel
theorem d_S_events_10 : decode b_S_events 10 = .ok (.iconst (-1), 1) := by decide +kernel
theorem d_S_events_11 : decode b_S_events 11 = .ok (.goto 10, 3) := by decide +kernel
theorem d_S_events_14 : decode b_S_events 14 = .ok (.aload_n 2, 1) := by decide +kernel
theorem d_S_events_15 : decode b_S_events 15 = .ok (.getfield 144, 3) := by decide +kernel
theorem d_S_events_18 : decode b_S_events 18 = .ok (.getfield 148, 3) := by decide +kernel
theorem d_S_events_21 : decode b_S_events 21 = .ok (.ireturn, 1) := by decide +kernel
section
variable {p : Program} {l : Launch} {e : Env} {s : State} {m : MethodId} {args : Array Value} {below : List Frame} {meth : Method} {c : Code} {H : Heap} {locs : List Loc} {ls : Array Slot} {D : va_G} {A : Nat → Prop} {g h ro o : Nat → Nat} {vs : ClassId} {t rv v : Nat → ClassId} {F : Nat → Option Nat} {Y : va_W}
def f_S_events_n (s0 : St) (p0 : St) (b0 : (Nat → Int64)) (x1 : Int32) : Option (Int32) :=
  (sr_no (s0 0 0) x1).bind fun _ =>
  some (-1)
set_option maxHeartbeats 4000000 in
set_option maxRecDepth 100000 in
theorem k_S_events_n_0 {s0 : St} {p0 : St} {b0 : (Nat → Int64)} {x1 : Int32} {r : Int32} (X : sr_X D (tNN vs t rv) b_S_events 3 R_S w_S_events p s m args meth c A (some .int)) (Z : sr_Z D A s.heap (wN g vs h t ro rv F Y s0 p0 b0) H locs) (hl : lv_has ls 3 [(0, .ref (g 0)), (1, .int x1)]) (hf : f_S_events_n s0 p0 b0 x1 = some r) : W p l e (sr_rm 1 21) s m args below meth c H locs 0 0 (sr_Qi D (tNN vs t rv) below args s A (wN g vs h t ro rv F Y s0 p0 b0) r) (F0 m 0 ls []) := by
  have hx := X.1
  have hb := X.2.1
  have hK := X.2.2.2.2.2.2.1
  unfold f_S_events_n at hf
  refine lv_aload_n hx hb d_S_events_0 rfl (lv_at hl 0 rfl) ?_
  refine lv_iload_n hx hb d_S_events_1 rfl (lv_at hl 1 rfl) ?_
  obtain ⟨_, e_1, hf⟩ := sr_b hf
  refine sr_cVqN (As := [.int x1]) (rest := []) X Z sr_cut_self hK (c_S_find_n e_1) (cw_S_79 X.2.2.2.2.2.1 (by decide)) 0 rfl rfl rfl hl rfl (Nat.le_of_ble_eq_true rfl) d_S_events_2 (fun H locs Z => ?_)
  refine lv_astore_nN (lv' := [(2, .null), (0, .ref (g 0)), (1, .int x1)]) hx hb d_S_events_5 rfl hl (by decide) rfl (fun ls hl => ?_)
  refine lv_aload_nN hx hb d_S_events_6 rfl (lv_at hl 0 rfl) ?_
  refine lv_ifnonnullN hx hb d_S_events_7 ?_
  refine lv_iconst (v := -1) hx hb d_S_events_10 (by decide) ?_
  refine lv_goto (tgt := 21) hx hb d_S_events_11 rfl ?_
  cases hf
  exact sr_reti X Z d_S_events_21
end
set_option maxHeartbeats 4000000 in
set_option maxRecDepth 100000 in
theorem c_S_events_n {l : Launch} {D : va_G} {g : Nat → Nat} {vs : ClassId} {h : Nat → Nat} {t : Nat → ClassId} {ro : Nat → Nat} {rv : Nat → ClassId} {F : Nat → Option Nat} {Y : va_W} {sz : Nat} {s0 : St} {p0 : St} {b0 : (Nat → Int64)} {x1 : Int32} {r : Int32} (hf : f_S_events_n s0 p0 b0 x1 = some r) : sr_Ci l y_S_events w_S_events (sr_rm 1 21) D (tNN vs t rv) (wN g vs h t ro rv F Y s0 p0 b0) (wN g vs h t ro rv F Y s0 p0 b0) sz [.ref (g 0), .int x1] r := by
  refine Met.ofW (cc := b_S_events) (maxL := 3) (ret := (some .int)) (by decide) rfl ?_
  intro p e s m args below meth c s₁ B hml hv
  obtain ⟨rfl, hsz, hP, hK, hD0⟩ := hv
  subst hsz
  have X : sr_X D (tNN vs t rv) b_S_events 3 R_S w_S_events p s m _ meth c (va_A (wN g vs h t ro rv F Y s0 p0 b0) s.heap.size) (some .int) := ⟨B.exec, B.bytes, hml, findClass_of_methodNamed B.named, B.notSynchronized, atoms_spec (ws := w_S_events) B.pre, hK, fun q h => Or.inr h, B.returns⟩
  have Z : sr_Z D (va_A (wN g vs h t ro rv F Y s0 p0 b0) s.heap.size) s.heap (wN g vs h t ro rv F Y s0 p0 b0) s.heap [] := ⟨hP, hD0.self, va_S.rf⟩
  have hl := lv_entry ([.ref (g 0), .int x1] : List Value) (n := 3) (Nat.le_of_ble_eq_true rfl)
  rw [lg_entry_eq]
  exact k_S_events_n_0 X Z hl hf
section
variable {p : Program} {l : Launch} {e : Env} {s : State} {m : MethodId} {args : Array Value} {below : List Frame} {meth : Method} {c : Code} {H : Heap} {locs : List Loc} {ls : Array Slot} {D : va_G} {A : Nat → Prop} {g h ro o : Nat → Nat} {vs : ClassId} {t rv v : Nat → ClassId} {F : Nat → Option Nat} {Y : va_W}
def f_S_events_j (j0 : Nat) (s0 : St) (p0 : St) (b0 : (Nat → Int64)) (i0 : St) (x1 : Int32) : Option (Int32) :=
  (sr_yes j0 (s0 0 0) x1).bind fun _ =>
  some (i0 19 0)
set_option maxHeartbeats 4000000 in
set_option maxRecDepth 100000 in
theorem k_S_events_j_0 {j0 : Nat} {s0 : St} {p0 : St} {b0 : (Nat → Int64)} {i0 : St} {x1 : Int32} {r : Int32} (X : sr_X D (tJJ vs t rv v) b_S_events 3 R_S w_S_events p s m args meth c A (some .int)) (Z : sr_Z D A s.heap (wJJ g vs h t ro rv F Y o v j0 s0 p0 b0 i0) H locs) (hl : lv_has ls 3 [(0, .ref (g 0)), (1, .int x1)]) (hf : f_S_events_j j0 s0 p0 b0 i0 x1 = some r) : W p l e (sr_rm 1 21) s m args below meth c H locs 0 0 (sr_Qi D (tJJ vs t rv v) below args s A (wJJ g vs h t ro rv F Y o v j0 s0 p0 b0 i0) r) (F0 m 0 ls []) := by
  have hx := X.1
  have hb := X.2.1
  have hK := X.2.2.2.2.2.2.1
  unfold f_S_events_j at hf
  refine lv_aload_n hx hb d_S_events_0 rfl (lv_at hl 0 rfl) ?_
  refine lv_iload_n hx hb d_S_events_1 rfl (lv_at hl 1 rfl) ?_
  obtain ⟨_, e_1, hf⟩ := sr_b hf
  refine sr_cVqR (As := [.int x1]) (rest := []) X Z sr_cut_self (k_JN hK) (c_S_find_j e_1) (cw_S_79 X.2.2.2.2.2.1 (by decide)) 0 rfl rfl rfl hl rfl (Nat.le_of_ble_eq_true rfl) d_S_events_2 (fun H locs Z => ?_)
  refine lv_astore_n (lv' := [(2, .ref (o 0)), (0, .ref (g 0)), (1, .int x1)]) hx hb d_S_events_5 rfl hl (by decide) rfl (fun ls hl => ?_)
  refine lv_aload_n hx hb d_S_events_6 rfl (lv_at hl 0 rfl) ?_
  refine lv_ifnonnull (tgt := 14) hx hb d_S_events_7 rfl ?_
  refine lv_aload_n hx hb d_S_events_14 rfl (lv_at hl 0 rfl) ?_
  refine g_S_144_J X Z d_S_events_15 ?_
  refine g_S_148_J X Z d_S_events_18 ?_
  cases hf
  exact sr_reti X Z d_S_events_21
end
set_option maxHeartbeats 4000000 in
set_option maxRecDepth 100000 in
theorem c_S_events_j {l : Launch} {D : va_G} {g : Nat → Nat} {vs : ClassId} {h : Nat → Nat} {t : Nat → ClassId} {ro : Nat → Nat} {rv : Nat → ClassId} {F : Nat → Option Nat} {Y : va_W} {o : Nat → Nat} {v : Nat → ClassId} {sz : Nat} {j0 : Nat} {s0 : St} {p0 : St} {b0 : (Nat → Int64)} {i0 : St} {x1 : Int32} {r : Int32} (hf : f_S_events_j j0 s0 p0 b0 i0 x1 = some r) : sr_Ci l y_S_events w_S_events (sr_rm 1 21) D (tJJ vs t rv v) (wJJ g vs h t ro rv F Y o v j0 s0 p0 b0 i0) (wJJ g vs h t ro rv F Y o v j0 s0 p0 b0 i0) sz [.ref (g 0), .int x1] r := by
  refine Met.ofW (cc := b_S_events) (maxL := 3) (ret := (some .int)) (by decide) rfl ?_
  intro p e s m args below meth c s₁ B hml hv
  obtain ⟨rfl, hsz, hP, hK, hD0⟩ := hv
  subst hsz
  have X : sr_X D (tJJ vs t rv v) b_S_events 3 R_S w_S_events p s m _ meth c (va_A (wJJ g vs h t ro rv F Y o v j0 s0 p0 b0 i0) s.heap.size) (some .int) := ⟨B.exec, B.bytes, hml, findClass_of_methodNamed B.named, B.notSynchronized, atoms_spec (ws := w_S_events) B.pre, hK, fun q h => Or.inr h, B.returns⟩
  have Z : sr_Z D (va_A (wJJ g vs h t ro rv F Y o v j0 s0 p0 b0 i0) s.heap.size) s.heap (wJJ g vs h t ro rv F Y o v j0 s0 p0 b0 i0) s.heap [] := ⟨hP, hD0.self, va_S.rf⟩
  have hl := lv_entry ([.ref (g 0), .int x1] : List Value) (n := 3) (Nat.le_of_ble_eq_true rfl)
  rw [lg_entry_eq]
  exact k_S_events_j_0 X Z hl hf
/-! S_event -/
theorem d_S_event_0 : decode b_S_event 0 = .ok (.aload_n 0, 1) := by decide +kernel
theorem d_S_event_1 : decode b_S_event 1 = .ok (.iload_n 1, 1) := by decide +kernel
theorem d_S_event_2 : decode b_S_event 2 = .ok (.invokevirtual 79, 3) := by decide +kernel
theorem d_S_event_5 : decode b_S_event 5 = .ok (.astore_n 3, 1) := by decide +kernel
theorem d_S_event_6 : decode b_S_event 6 = .ok (.aload_n 3, 1) := by decide +kernel
theorem d_S_event_7 : decode b_S_event 7 = .ok (.ifnonnull 7, 3) := by decide +kernel
theorem d_S_event_10 : decode b_S_event 10 = .ok (.iconst (-1), 1) := by decide +kernel
theorem d_S_event_11 : decode b_S_event 11 = .ok (.goto 11, 3) := by decide +kernel
theorem d_S_event_14 : decode b_S_event 14 = .ok (.aload_n 3, 1) := by decide +kernel
theorem d_S_event_15 : decode b_S_event 15 = .ok (.getfield 144, 3) := by decide +kernel
theorem d_S_event_18 : decode b_S_event 18 = .ok (.iload_n 2, 1) := by decide +kernel
theorem d_S_event_19 : decode b_S_event 19 = .ok (.invokevirtual 153, 3) := by decide +kernel
theorem d_S_event_22 : decode b_S_event 22 = .ok (.ireturn, 1) := by decide +kernel
section
variable {p : Program} {l : Launch} {e : Env} {s : State} {m : MethodId} {args : Array Value} {below : List Frame} {meth : Method} {c : Code} {H : Heap} {locs : List Loc} {ls : Array Slot} {D : va_G} {A : Nat → Prop} {g h ro o : Nat → Nat} {vs : ClassId} {t rv v : Nat → ClassId} {F : Nat → Option Nat} {Y : va_W}
def f_S_event_n (s0 : St) (p0 : St) (b0 : (Nat → Int64)) (x1 : Int32) (x2 : Int32) : Option (Int32) :=
  (sr_no (s0 0 0) x1).bind fun _ =>
  some (-1)
set_option maxHeartbeats 4000000 in
set_option maxRecDepth 100000 in
theorem k_S_event_n_0 {s0 : St} {p0 : St} {b0 : (Nat → Int64)} {x1 : Int32} {x2 : Int32} {r : Int32} (X : sr_X D (tNN vs t rv) b_S_event 4 R_S w_S_event p s m args meth c A (some .int)) (Z : sr_Z D A s.heap (wN g vs h t ro rv F Y s0 p0 b0) H locs) (hl : lv_has ls 4 [(0, .ref (g 0)), (1, .int x1), (2, .int x2)]) (hf : f_S_event_n s0 p0 b0 x1 x2 = some r) : W p l e (sr_rm 1 21) s m args below meth c H locs 0 0 (sr_Qi D (tNN vs t rv) below args s A (wN g vs h t ro rv F Y s0 p0 b0) r) (F0 m 0 ls []) := by
  have hx := X.1
  have hb := X.2.1
  have hK := X.2.2.2.2.2.2.1
  unfold f_S_event_n at hf
  refine lv_aload_n hx hb d_S_event_0 rfl (lv_at hl 0 rfl) ?_
  refine lv_iload_n hx hb d_S_event_1 rfl (lv_at hl 1 rfl) ?_
  obtain ⟨_, e_1, hf⟩ := sr_b hf
  refine sr_cVqN (As := [.int x1]) (rest := []) X Z sr_cut_self hK (c_S_find_n e_1) (cw_S_79 X.2.2.2.2.2.1 (by decide)) 0 rfl rfl rfl hl rfl (Nat.le_of_ble_eq_true rfl) d_S_event_2 (fun H locs Z => ?_)
  refine lv_astore_nN (lv' := [(3, .null), (0, .ref (g 0)), (1, .int x1), (2, .int x2)]) hx hb d_S_event_5 rfl hl (by decide) rfl (fun ls hl => ?_)
  refine lv_aload_nN hx hb d_S_event_6 rfl (lv_at hl 0 rfl) ?_
  refine lv_ifnonnullN hx hb d_S_event_7 ?_
  refine lv_iconst (v := -1) hx hb d_S_event_10 (by decide) ?_
  refine lv_goto (tgt := 22) hx hb d_S_event_11 rfl ?_
  cases hf
  exact sr_reti X Z d_S_event_22
end
set_option maxHeartbeats 4000000 in
set_option maxRecDepth 100000 in
theorem c_S_event_n {l : Launch} {D : va_G} {g : Nat → Nat} {vs : ClassId} {h : Nat → Nat} {t : Nat → ClassId} {ro : Nat → Nat} {rv : Nat → ClassId} {F : Nat → Option Nat} {Y : va_W} {sz : Nat} {s0 : St} {p0 : St} {b0 : (Nat → Int64)} {x1 : Int32} {x2 : Int32} {r : Int32} (hf : f_S_event_n s0 p0 b0 x1 x2 = some r) : sr_Ci l y_S_event w_S_event (sr_rm 1 21) D (tNN vs t rv) (wN g vs h t ro rv F Y s0 p0 b0) (wN g vs h t ro rv F Y s0 p0 b0) sz [.ref (g 0), .int x1, .int x2] r := by
  refine Met.ofW (cc := b_S_event) (maxL := 4) (ret := (some .int)) (by decide) rfl ?_
  intro p e s m args below meth c s₁ B hml hv
  obtain ⟨rfl, hsz, hP, hK, hD0⟩ := hv
  subst hsz
  have X : sr_X D (tNN vs t rv) b_S_event 4 R_S w_S_event p s m _ meth c (va_A (wN g vs h t ro rv F Y s0 p0 b0) s.heap.size) (some .int) := ⟨B.exec, B.bytes, hml, findClass_of_methodNamed B.named, B.notSynchronized, atoms_spec (ws := w_S_event) B.pre, hK, fun q h => Or.inr h, B.returns⟩
  have Z : sr_Z D (va_A (wN g vs h t ro rv F Y s0 p0 b0) s.heap.size) s.heap (wN g vs h t ro rv F Y s0 p0 b0) s.heap [] := ⟨hP, hD0.self, va_S.rf⟩
  have hl := lv_entry ([.ref (g 0), .int x1, .int x2] : List Value) (n := 4) (Nat.le_of_ble_eq_true rfl)
  rw [lg_entry_eq]
  exact k_S_event_n_0 X Z hl hf
section
variable {p : Program} {l : Launch} {e : Env} {s : State} {m : MethodId} {args : Array Value} {below : List Frame} {meth : Method} {c : Code} {H : Heap} {locs : List Loc} {ls : Array Slot} {D : va_G} {A : Nat → Prop} {g h ro o : Nat → Nat} {vs : ClassId} {t rv v : Nat → ClassId} {F : Nat → Option Nat} {Y : va_W}
def f_S_event_j (j0 : Nat) (s0 : St) (p0 : St) (b0 : (Nat → Int64)) (i0 : St) (x1 : Int32) (x2 : Int32) : Option (Int32) :=
  (sr_yes j0 (s0 0 0) x1).bind fun _ =>
  (f_G_before p0 i0 x2).bind fun v_2 =>
  some v_2
set_option maxHeartbeats 4000000 in
set_option maxRecDepth 100000 in
theorem k_S_event_j_0 {j0 : Nat} {s0 : St} {p0 : St} {b0 : (Nat → Int64)} {i0 : St} {x1 : Int32} {x2 : Int32} {r : Int32} (X : sr_X D (tJJ vs t rv v) b_S_event 4 R_S w_S_event p s m args meth c A (some .int)) (Z : sr_Z D A s.heap (wJJ g vs h t ro rv F Y o v j0 s0 p0 b0 i0) H locs) (hl : lv_has ls 4 [(0, .ref (g 0)), (1, .int x1), (2, .int x2)]) (hf : f_S_event_j j0 s0 p0 b0 i0 x1 x2 = some r) : W p l e (sr_rm 1 21) s m args below meth c H locs 0 0 (sr_Qi D (tJJ vs t rv v) below args s A (wJJ g vs h t ro rv F Y o v j0 s0 p0 b0 i0) r) (F0 m 0 ls []) := by
  have hx := X.1
  have hb := X.2.1
  have hK := X.2.2.2.2.2.2.1
  unfold f_S_event_j at hf
  refine lv_aload_n hx hb d_S_event_0 rfl (lv_at hl 0 rfl) ?_
  refine lv_iload_n hx hb d_S_event_1 rfl (lv_at hl 1 rfl) ?_
  obtain ⟨_, e_1, hf⟩ := sr_b hf
  refine sr_cVqR (As := [.int x1]) (rest := []) X Z sr_cut_self (k_JN hK) (c_S_find_j e_1) (cw_S_79 X.2.2.2.2.2.1 (by decide)) 0 rfl rfl rfl hl rfl (Nat.le_of_ble_eq_true rfl) d_S_event_2 (fun H locs Z => ?_)
  refine lv_astore_n (lv' := [(3, .ref (o 0)), (0, .ref (g 0)), (1, .int x1), (2, .int x2)]) hx hb d_S_event_5 rfl hl (by decide) rfl (fun ls hl => ?_)
  refine lv_aload_n hx hb d_S_event_6 rfl (lv_at hl 0 rfl) ?_
  refine lv_ifnonnull (tgt := 14) hx hb d_S_event_7 rfl ?_
  refine lv_aload_n hx hb d_S_event_14 rfl (lv_at hl 0 rfl) ?_
  refine g_S_144_J X Z d_S_event_15 ?_
  refine lv_iload_n hx hb d_S_event_18 rfl (lv_at hl 3 rfl) ?_
  obtain ⟨v_2, e_3, hf⟩ := sr_b hf
  refine sr_cVi (As := [.int x2]) (rest := []) X Z cut_JI (k_JI hK) (c_G_before e_3) (cw_S_153 X.2.2.2.2.2.1 (by decide)) 23 rfl rfl rfl hl rfl (Nat.le_of_ble_eq_true rfl) d_S_event_19 (fun H locs Z => ?_)
  cases hf
  exact sr_reti X Z d_S_event_22
end
set_option maxHeartbeats 4000000 in
set_option maxRecDepth 100000 in
theorem c_S_event_j {l : Launch} {D : va_G} {g : Nat → Nat} {vs : ClassId} {h : Nat → Nat} {t : Nat → ClassId} {ro : Nat → Nat} {rv : Nat → ClassId} {F : Nat → Option Nat} {Y : va_W} {o : Nat → Nat} {v : Nat → ClassId} {sz : Nat} {j0 : Nat} {s0 : St} {p0 : St} {b0 : (Nat → Int64)} {i0 : St} {x1 : Int32} {x2 : Int32} {r : Int32} (hf : f_S_event_j j0 s0 p0 b0 i0 x1 x2 = some r) : sr_Ci l y_S_event w_S_event (sr_rm 1 21) D (tJJ vs t rv v) (wJJ g vs h t ro rv F Y o v j0 s0 p0 b0 i0) (wJJ g vs h t ro rv F Y o v j0 s0 p0 b0 i0) sz [.ref (g 0), .int x1, .int x2] r := by
  refine Met.ofW (cc := b_S_event) (maxL := 4) (ret := (some .int)) (by decide) rfl ?_
  intro p e s m args below meth c s₁ B hml hv
  obtain ⟨rfl, hsz, hP, hK, hD0⟩ := hv
  subst hsz
  have X : sr_X D (tJJ vs t rv v) b_S_event 4 R_S w_S_event p s m _ meth c (va_A (wJJ g vs h t ro rv F Y o v j0 s0 p0 b0 i0) s.heap.size) (some .int) := ⟨B.exec, B.bytes, hml, findClass_of_methodNamed B.named, B.notSynchronized, atoms_spec (ws := w_S_event) B.pre, hK, fun q h => Or.inr h, B.returns⟩
  have Z : sr_Z D (va_A (wJJ g vs h t ro rv F Y o v j0 s0 p0 b0 i0) s.heap.size) s.heap (wJJ g vs h t ro rv F Y o v j0 s0 p0 b0 i0) s.heap [] := ⟨hP, hD0.self, va_S.rf⟩
  have hl := lv_entry ([.ref (g 0), .int x1, .int x2] : List Value) (n := 4) (Nat.le_of_ble_eq_true rfl)
  rw [lg_entry_eq]
  exact k_S_event_j_0 X Z hl hf
/-! S_next -/
theorem d_S_next_0 : decode b_S_next 0 = .ok (.aload_n 0, 1) := by decide +kernel
theorem d_S_next_1 : decode b_S_next 1 = .ok (.iload_n 1, 1) := by decide +kernel
theorem d_S_next_2 : decode b_S_next 2 = .ok (.invokevirtual 79, 3) := by decide +kernel
theorem d_S_next_5 : decode b_S_next 5 = .ok (.astore_n 2, 1) := by decide +kernel
theorem d_S_next_6 : decode b_S_next 6 = .ok (.aload_n 2, 1) := by decide +kernel
theorem d_S_next_7 : decode b_S_next 7 = .ok (.ifnonnull 7, 3) := by decide +kernel
theorem d_S_next_10 : decode b_S_next 10 = .ok (.iconst (-1), 1) := by decide +kernel
theorem d_S_next_11 : decode b_S_next 11 = .ok (.goto 7, 3) := by decide +kernel
theorem d_S_next_14 : decode b_S_next 14 = .ok (.aload_n 2, 1) := by decide +kernel
theorem d_S_next_15 : decode b_S_next 15 = .ok (.invokevirtual 156, 3) := by decide +kernel
theorem d_S_next_18 : decode b_S_next 18 = .ok (.ireturn, 1) := by decide +kernel
section
variable {p : Program} {l : Launch} {e : Env} {s : State} {m : MethodId} {args : Array Value} {below : List Frame} {meth : Method} {c : Code} {H : Heap} {locs : List Loc} {ls : Array Slot} {D : va_G} {A : Nat → Prop} {g h ro o : Nat → Nat} {vs : ClassId} {t rv v : Nat → ClassId} {F : Nat → Option Nat} {Y : va_W}
def f_S_next_n (s0 : St) (p0 : St) (b0 : (Nat → Int64)) (x1 : Int32) : Option (Int32) :=
  (sr_no (s0 0 0) x1).bind fun _ =>
  some (-1)
set_option maxHeartbeats 4000000 in
set_option maxRecDepth 100000 in
theorem k_S_next_n_0 {s0 : St} {p0 : St} {b0 : (Nat → Int64)} {x1 : Int32} {r : Int32} (X : sr_X D (tNN vs t rv) b_S_next 3 R_S w_S_next p s m args meth c A (some .int)) (Z : sr_Z D A s.heap (wN g vs h t ro rv F Y s0 p0 b0) H locs) (hl : lv_has ls 3 [(0, .ref (g 0)), (1, .int x1)]) (hf : f_S_next_n s0 p0 b0 x1 = some r) : W p l e (sr_rm 4 87) s m args below meth c H locs 0 0 (sr_Qi D (tNN vs t rv) below args s A (wN g vs h t ro rv F Y s0 p0 b0) r) (F0 m 0 ls []) := by
  have hx := X.1
  have hb := X.2.1
  have hK := X.2.2.2.2.2.2.1
  unfold f_S_next_n at hf
  refine lv_aload_n hx hb d_S_next_0 rfl (lv_at hl 0 rfl) ?_
  refine lv_iload_n hx hb d_S_next_1 rfl (lv_at hl 1 rfl) ?_
  obtain ⟨_, e_1, hf⟩ := sr_b hf
  refine sr_cVqN (As := [.int x1]) (rest := []) X Z sr_cut_self hK (c_S_find_n e_1) (cw_S_79 X.2.2.2.2.2.1 (by decide)) 0 rfl rfl rfl hl rfl (Nat.le_of_ble_eq_true rfl) d_S_next_2 (fun H locs Z => ?_)
  refine lv_astore_nN (lv' := [(2, .null), (0, .ref (g 0)), (1, .int x1)]) hx hb d_S_next_5 rfl hl (by decide) rfl (fun ls hl => ?_)
  refine lv_aload_nN hx hb d_S_next_6 rfl (lv_at hl 0 rfl) ?_
  refine lv_ifnonnullN hx hb d_S_next_7 ?_
  refine lv_iconst (v := -1) hx hb d_S_next_10 (by decide) ?_
  refine lv_goto (tgt := 18) hx hb d_S_next_11 rfl ?_
  cases hf
  exact sr_reti X Z d_S_next_18
end
set_option maxHeartbeats 4000000 in
set_option maxRecDepth 100000 in
theorem c_S_next_n {l : Launch} {D : va_G} {g : Nat → Nat} {vs : ClassId} {h : Nat → Nat} {t : Nat → ClassId} {ro : Nat → Nat} {rv : Nat → ClassId} {F : Nat → Option Nat} {Y : va_W} {sz : Nat} {s0 : St} {p0 : St} {b0 : (Nat → Int64)} {x1 : Int32} {r : Int32} (hf : f_S_next_n s0 p0 b0 x1 = some r) : sr_Ci l y_S_next w_S_next (sr_rm 4 87) D (tNN vs t rv) (wN g vs h t ro rv F Y s0 p0 b0) (wN g vs h t ro rv F Y s0 p0 b0) sz [.ref (g 0), .int x1] r := by
  refine Met.ofW (cc := b_S_next) (maxL := 3) (ret := (some .int)) (by decide) rfl ?_
  intro p e s m args below meth c s₁ B hml hv
  obtain ⟨rfl, hsz, hP, hK, hD0⟩ := hv
  subst hsz
  have X : sr_X D (tNN vs t rv) b_S_next 3 R_S w_S_next p s m _ meth c (va_A (wN g vs h t ro rv F Y s0 p0 b0) s.heap.size) (some .int) := ⟨B.exec, B.bytes, hml, findClass_of_methodNamed B.named, B.notSynchronized, atoms_spec (ws := w_S_next) B.pre, hK, fun q h => Or.inr h, B.returns⟩
  have Z : sr_Z D (va_A (wN g vs h t ro rv F Y s0 p0 b0) s.heap.size) s.heap (wN g vs h t ro rv F Y s0 p0 b0) s.heap [] := ⟨hP, hD0.self, va_S.rf⟩
  have hl := lv_entry ([.ref (g 0), .int x1] : List Value) (n := 3) (Nat.le_of_ble_eq_true rfl)
  rw [lg_entry_eq]
  exact k_S_next_n_0 X Z hl hf
section
variable {p : Program} {l : Launch} {e : Env} {s : State} {m : MethodId} {args : Array Value} {below : List Frame} {meth : Method} {c : Code} {H : Heap} {locs : List Loc} {ls : Array Slot} {D : va_G} {A : Nat → Prop} {g h ro o : Nat → Nat} {vs : ClassId} {t rv v : Nat → ClassId} {F : Nat → Option Nat} {Y : va_W}
def f_S_next_j (j0 : Nat) (s0 : St) (p0 : St) (b0 : (Nat → Int64)) (i0 : St) (x1 : Int32) : Option (Int32) :=
  (sr_yes j0 (s0 0 0) x1).bind fun _ =>
  (f_I_nextToStep p0 i0).bind fun v_2 =>
  some v_2
set_option maxHeartbeats 4000000 in
set_option maxRecDepth 100000 in
theorem k_S_next_j_0 {j0 : Nat} {s0 : St} {p0 : St} {b0 : (Nat → Int64)} {i0 : St} {x1 : Int32} {r : Int32} (X : sr_X D (tJJ vs t rv v) b_S_next 3 R_S w_S_next p s m args meth c A (some .int)) (Z : sr_Z D A s.heap (wJJ g vs h t ro rv F Y o v j0 s0 p0 b0 i0) H locs) (hl : lv_has ls 3 [(0, .ref (g 0)), (1, .int x1)]) (hf : f_S_next_j j0 s0 p0 b0 i0 x1 = some r) : W p l e (sr_rm 4 87) s m args below meth c H locs 0 0 (sr_Qi D (tJJ vs t rv v) below args s A (wJJ g vs h t ro rv F Y o v j0 s0 p0 b0 i0) r) (F0 m 0 ls []) := by
  have hx := X.1
  have hb := X.2.1
  have hK := X.2.2.2.2.2.2.1
  unfold f_S_next_j at hf
  refine lv_aload_n hx hb d_S_next_0 rfl (lv_at hl 0 rfl) ?_
  refine lv_iload_n hx hb d_S_next_1 rfl (lv_at hl 1 rfl) ?_
  obtain ⟨_, e_1, hf⟩ := sr_b hf
  refine sr_cVqR (As := [.int x1]) (rest := []) X Z sr_cut_self (k_JN hK) (c_S_find_j e_1) (cw_S_79 X.2.2.2.2.2.1 (by decide)) 0 rfl rfl rfl hl rfl (Nat.le_of_ble_eq_true rfl) d_S_next_2 (fun H locs Z => ?_)
  refine lv_astore_n (lv' := [(2, .ref (o 0)), (0, .ref (g 0)), (1, .int x1)]) hx hb d_S_next_5 rfl hl (by decide) rfl (fun ls hl => ?_)
  refine lv_aload_n hx hb d_S_next_6 rfl (lv_at hl 0 rfl) ?_
  refine lv_ifnonnull (tgt := 14) hx hb d_S_next_7 rfl ?_
  refine lv_aload_n hx hb d_S_next_14 rfl (lv_at hl 0 rfl) ?_
  obtain ⟨v_2, e_3, hf⟩ := sr_b hf
  refine sr_cVi (As := []) (rest := []) X Z cut_JI (k_JI hK) (c_I_nextToStep e_3) (cw_S_156 X.2.2.2.2.2.1 (by decide)) 19 rfl rfl rfl hl rfl (Nat.le_of_ble_eq_true rfl) d_S_next_15 (fun H locs Z => ?_)
  cases hf
  exact sr_reti X Z d_S_next_18
end
set_option maxHeartbeats 4000000 in
set_option maxRecDepth 100000 in
theorem c_S_next_j {l : Launch} {D : va_G} {g : Nat → Nat} {vs : ClassId} {h : Nat → Nat} {t : Nat → ClassId} {ro : Nat → Nat} {rv : Nat → ClassId} {F : Nat → Option Nat} {Y : va_W} {o : Nat → Nat} {v : Nat → ClassId} {sz : Nat} {j0 : Nat} {s0 : St} {p0 : St} {b0 : (Nat → Int64)} {i0 : St} {x1 : Int32} {r : Int32} (hf : f_S_next_j j0 s0 p0 b0 i0 x1 = some r) : sr_Ci l y_S_next w_S_next (sr_rm 4 87) D (tJJ vs t rv v) (wJJ g vs h t ro rv F Y o v j0 s0 p0 b0 i0) (wJJ g vs h t ro rv F Y o v j0 s0 p0 b0 i0) sz [.ref (g 0), .int x1] r := by
  refine Met.ofW (cc := b_S_next) (maxL := 3) (ret := (some .int)) (by decide) rfl ?_
  intro p e s m args below meth c s₁ B hml hv
  obtain ⟨rfl, hsz, hP, hK, hD0⟩ := hv
  subst hsz
  have X : sr_X D (tJJ vs t rv v) b_S_next 3 R_S w_S_next p s m _ meth c (va_A (wJJ g vs h t ro rv F Y o v j0 s0 p0 b0 i0) s.heap.size) (some .int) := ⟨B.exec, B.bytes, hml, findClass_of_methodNamed B.named, B.notSynchronized, atoms_spec (ws := w_S_next) B.pre, hK, fun q h => Or.inr h, B.returns⟩
  have Z : sr_Z D (va_A (wJJ g vs h t ro rv F Y o v j0 s0 p0 b0 i0) s.heap.size) s.heap (wJJ g vs h t ro rv F Y o v j0 s0 p0 b0 i0) s.heap [] := ⟨hP, hD0.self, va_S.rf⟩
  have hl := lv_entry ([.ref (g 0), .int x1] : List Value) (n := 3) (Nat.le_of_ble_eq_true rfl)
  rw [lg_entry_eq]
  exact k_S_next_j_0 X Z hl hf
