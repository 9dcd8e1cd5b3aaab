theorem q_323 : (.instantiable R_I 16 : Cond) ∈ sr_T := sr_q 323 (by decide +kernel) (by decide +kernel)
theorem q_447 : (.methodLink R_S 92 y_I_init : Cond) ∈ sr_T := sr_q 447 (by decide +kernel) (by decide +kernel)
theorem q_448 : (.instanceMethod y_I_init : Cond) ∈ sr_T := sr_q 448 (by decide +kernel) (by decide +kernel)
theorem q_449 : (.code y_I_init b_I_init 4 none : Cond) ∈ sr_T := sr_q 449 (by decide +kernel) (by decide +kernel)
/-! runningWith, by hand -/
def kF (ky ou : Nat → Int32) (x : Int32) (k : Nat) : Bool := decide (ky k = x) && decide (ou k = 0)
section
variable {p : Program} {l : Launch} {e : Env} {s : State} {m : MethodId} {args : Array Value} {below : List Frame} {meth : Method} {c : Code} {D : va_G} {A : Nat → Prop} {g h ro : Nat → Nat} {vs : ClassId} {t rv : Nat → ClassId} {F : Nat → Option Nat} {Y : va_W}
set_option maxHeartbeats 4000000 in
set_option maxRecDepth 100000 in
theorem k_S_runningWith_2 {s0 p0 : St} {b0 : Nat → Int64} {x1 : Int32} {N : Nat} {ky ou : Nat → Int32} (X : sr_X D (tNN vs t rv) b_S_runningWith 4 R_S w_S_runningWith p s m args meth c A (some .int)) (hN : N ≤ 8) (h0 : s0 0 0 = nI N) (hI : ∀ k, k < N → ∃ (a q : Nat) (fs : List Value), F k = some a ∧ (wN g vs h t ro rv F Y s0 p0 b0)[q]? = some (a, .inr (ci_I, fs)) ∧ fs[2]? = some (.int (ky k)) ∧ fs[4]? = some (.int (ou k))) : ∀ (d k : Nat) {H : Heap} {locs : List Loc} {ls : Array Slot}, k + d = N → sr_Z D A s.heap (wN g vs h t ro rv F Y s0 p0 b0) H locs → lv_has ls 4 [(0, .ref (g 0)), (1, .int x1), (2, .int (nI k))] → W p l e (sr_rm 1 21) s m args below meth c H locs 0 0 (sr_Qi D (tNN vs t rv) below args s A (wN g vs h t ro rv F Y s0 p0 b0) (oI (sp_fd (kF ky ou x1) k d))) (F0 m 2 ls []) := by
  have hx := X.1
  have hb := X.2.1
  have hK := X.2.2.2.2.2.2.1
  intro d
  induction d with
  | zero =>
    intro k H locs ls hk Z hl
    refine lv_iload_n hx hb d_S_runningWith_2 rfl (lv_at hl 2 rfl) ?_
    refine lv_aload_n hx hb d_S_runningWith_3 rfl (lv_at hl 0 rfl) ?_
    refine g_S_86_N X Z d_S_runningWith_4 ?_
    refine lv_icmp_ge (tgt := 43) hx hb d_S_runningWith_7 rfl (fun q => ?_) (fun q => ?_)
    · refine lv_iconst (v := -1) hx hb d_S_runningWith_43 (by decide) ?_
      exact sr_reti X Z d_S_runningWith_44
    · rw [h0] at q
      exact absurd (nI_le (by omega) (by omega)) q
  | succ d ih =>
    intro k H locs ls hk Z hl
    refine lv_iload_n hx hb d_S_runningWith_2 rfl (lv_at hl 2 rfl) ?_
    refine lv_aload_n hx hb d_S_runningWith_3 rfl (lv_at hl 0 rfl) ?_
    refine g_S_86_N X Z d_S_runningWith_4 ?_
    refine lv_icmp_ge (tgt := 43) hx hb d_S_runningWith_7 rfl (fun q => ?_) (fun q => ?_)
    · rw [h0] at q
      exact absurd q (nI_ge (by omega) (by omega))
    obtain ⟨a, q0, fs, hF, hat, hky, hou⟩ := hI k (by omega)
    have hfind : (nI k < 0 ∨ s0 0 0 ≤ nI k) ∧ some a = none ∨ ¬ nI k < 0 ∧ ¬ s0 0 0 ≤ nI k ∧ vp_in (nI k) 8 ∧ some a = F (nI k).toNatClampNeg := Or.inr ⟨nI_pos (by omega), by rw [h0]; exact nI_ge (by omega) (by omega), vp_in_nI (by omega) (by decide), by rw [nI_clamp (by omega), hF]⟩
    have next : ∀ {H : Heap} {locs : List Loc} {ls : Array Slot}, sr_Z D A s.heap (wN g vs h t ro rv F Y s0 p0 b0) H locs → lv_has ls 4 [(3, .ref a), (0, .ref (g 0)), (1, .int x1), (2, .int (nI k))] → kF ky ou x1 k = false → W p l e (sr_rm 1 21) s m args below meth c H locs 0 0 (sr_Qi D (tNN vs t rv) below args s A (wN g vs h t ro rv F Y s0 p0 b0) (oI (sp_fd (kF ky ou x1) k (d + 1)))) (F0 m 37 ls []) := by
      intro H locs ls Z hl hb0
      have es : sp_fd (kF ky ou x1) k (d + 1) = sp_fd (kF ky ou x1) (k + 1) d := by
        show (bif kF ky ou x1 k then some k else sp_fd (kF ky ou x1) (k + 1) d) = _
        rw [hb0]
        rfl
      rw [es]
      refine lv_iinc (k := 3) (v := nI (k + 1)) (lv' := [(2, .int (nI (k + 1))), (3, .ref a), (0, .ref (g 0)), (1, .int x1)]) hx hb d_S_runningWith_37 hl rfl (nI_1 k) (by decide) rfl (fun ls hl => ?_)
      refine lv_goto (tgt := 2) hx hb d_S_runningWith_40 rfl ?_
      exact ih (k + 1) (by omega) Z (lv_sub hl [2, 3, 0] rfl)
    refine lv_aload_n hx hb d_S_runningWith_10 rfl (lv_at hl 0 rfl) ?_
    refine lv_iload_n hx hb d_S_runningWith_11 rfl (lv_at hl 2 rfl) ?_
    refine sr_cVqR (As := [.int (nI k)]) (rest := []) X Z sr_cut_self hK (c_S_find hfind) (cw_S_79 X.2.2.2.2.2.1 (by decide)) 0 rfl rfl rfl hl rfl (Nat.le_of_ble_eq_true rfl) d_S_runningWith_12 (fun H locs Z => ?_)
    refine lv_astore_n (lv' := [(3, .ref a), (0, .ref (g 0)), (1, .int x1), (2, .int (nI k))]) hx hb d_S_runningWith_15 rfl hl (by decide) rfl (fun ls hl => ?_)
    refine lv_aload_n hx hb d_S_runningWith_16 rfl (lv_at hl 0 rfl) ?_
    refine lv_ifnull hx hb d_S_runningWith_17 ?_
    refine lv_aload_n hx hb d_S_runningWith_20 rfl (lv_at hl 0 rfl) ?_
    refine va_get (D := D) (ci := ci_I) (C := R_I) (T := F_I) (N := 16) X.1 X.2.1 X.2.2.2.2.2.1 (fun w hw => List.mem_cons_of_mem _ (hin_I w hw)) X.2.2.2.1 X.2.2.2.2.2.2.1 Z.1 q0 hat rfl 2 (by decide) (X.2.2.2.2.2.1 _ (List.mem_cons_of_mem _ q_523)) (fun _ h9 => h9) hky d_S_runningWith_21 ?_
    refine lv_iload_n hx hb d_S_runningWith_24 rfl (lv_at hl 2 rfl) ?_
    refine lv_icmp_ne (tgt := 37) hx hb d_S_runningWith_25 rfl (fun q1 => ?_) (fun q1 => ?_)
    · exact next Z hl (by unfold kF; rw [decide_eq_false q1]; rfl)
    refine lv_aload_n hx hb d_S_runningWith_28 rfl (lv_at hl 0 rfl) ?_
    refine va_get (D := D) (ci := ci_I) (C := R_I) (T := F_I) (N := 16) X.1 X.2.1 X.2.2.2.2.2.1 (fun w hw => List.mem_cons_of_mem _ (hin_I w hw)) X.2.2.2.1 X.2.2.2.2.2.2.1 Z.1 q0 hat rfl 4 (by decide) (X.2.2.2.2.2.1 _ (List.mem_cons_of_mem _ q_526)) (fun _ h9 => h9) hou d_S_runningWith_29 ?_
    refine lv_if_ne (tgt := 37) hx hb d_S_runningWith_32 rfl (fun q2 => ?_) (fun q2 => ?_)
    · exact next Z hl (by unfold kF; rw [decide_eq_false q2, Bool.and_false])
    have es : sp_fd (kF ky ou x1) k (d + 1) = some k := by
      show (bif kF ky ou x1 k then some k else sp_fd (kF ky ou x1) (k + 1) d) = _
      unfold kF
      rw [decide_eq_true q1, decide_eq_true q2]
      rfl
    rw [es]
    refine lv_iload_n hx hb d_S_runningWith_35 rfl (lv_at hl 3 rfl) ?_
    exact sr_reti X Z d_S_runningWith_36
end
set_option maxHeartbeats 4000000 in
set_option maxRecDepth 100000 in
theorem c_S_runningWith {l : Launch} {D : va_G} {g : Nat → Nat} {vs : ClassId} {h : Nat → Nat} {t : Nat → ClassId} {ro : Nat → Nat} {rv : Nat → ClassId} {F : Nat → Option Nat} {Y : va_W} {sz : Nat} {s0 p0 : St} {b0 : Nat → Int64} {x1 : Int32} {N : Nat} {ky ou : Nat → Int32} (hN : N ≤ 8) (h0 : s0 0 0 = nI N) (hI : ∀ k, k < N → ∃ (a q : Nat) (fs : List Value), F k = some a ∧ (wN g vs h t ro rv F Y s0 p0 b0)[q]? = some (a, .inr (ci_I, fs)) ∧ fs[2]? = some (.int (ky k)) ∧ fs[4]? = some (.int (ou k))) : sr_Ci l y_S_runningWith w_S_runningWith (sr_rm 1 21) D (tNN vs t rv) (wN g vs h t ro rv F Y s0 p0 b0) (wN g vs h t ro rv F Y s0 p0 b0) sz [.ref (g 0), .int x1] (oI (sp_fd (kF ky ou x1) 0 N)) := by
  refine Met.ofW (cc := b_S_runningWith) (maxL := 4) (ret := (some .int)) (by decide) rfl ?_
  intro p e s m args below meth c s₁ B hml hv
  obtain ⟨rfl, hsz, hP, hK, hD0⟩ := hv
  subst hsz
  have X : sr_X D (tNN vs t rv) b_S_runningWith 4 R_S w_S_runningWith p s m _ meth c (va_A (wN g vs h t ro rv F Y s0 p0 b0) s.heap.size) (some .int) := ⟨B.exec, B.bytes, hml, findClass_of_methodNamed B.named, B.notSynchronized, atoms_spec (ws := w_S_runningWith) B.pre, hK, fun q h => Or.inr h, B.returns⟩
  have Z : sr_Z D (va_A (wN g vs h t ro rv F Y s0 p0 b0) s.heap.size) s.heap (wN g vs h t ro rv F Y s0 p0 b0) s.heap [] := ⟨hP, hD0.self, va_S.rf⟩
  have hl := lv_entry ([.ref (g 0), .int x1] : List Value) (n := 4) (Nat.le_of_ble_eq_true rfl)
  rw [lg_entry_eq]
  generalize (lg_sl ([.ref (g 0), .int x1]) ++ List.replicate (4 - (lg_sl ([.ref (g 0), .int x1])).length) Slot.unset).toArray = ls at hl ⊢
  have hl : lv_has ls 4 [(0, .ref (g 0)), (1, .int x1)] := hl
  refine lv_iconst (v := 0) X.1 X.2.1 d_S_runningWith_0 (by decide) ?_
  refine lv_istore_n (lv' := [(2, .int 0), (0, .ref (g 0)), (1, .int x1)]) X.1 X.2.1 d_S_runningWith_1 rfl hl (by decide) rfl (fun ls hl => ?_)
  exact k_S_runningWith_2 X hN h0 hI N 0 (by omega) Z (lv_sub hl [1, 2, 0] rfl)
/-! message, where one is made -/
theorem sr_pm3 {a b c n : va_W} : ((a ++ (b ++ c)) ++ n).Perm ((b ++ n) ++ (a ++ c)) := by
  refine (List.Perm.append_right n (List.perm_append_comm_assoc a b c)).trans ?_
  rw [List.append_assoc b (a ++ c) n, List.append_assoc b n (a ++ c)]
  exact List.Perm.append_left b List.perm_append_comm
theorem sr_p2 {a b c d e : va_W} : (a ++ (b ++ (c ++ (d ++ e)))).Perm ((b ++ d) ++ (a ++ (c ++ e))) := by
  refine (List.perm_append_comm_assoc ..).trans ?_
  rw [List.append_assoc]
  refine List.Perm.append_left b ?_
  have e1 : a ++ (c ++ (d ++ e)) = (a ++ c) ++ (d ++ e) := (List.append_assoc ..).symm
  have e2 : a ++ (c ++ e) = (a ++ c) ++ e := (List.append_assoc ..).symm
  rw [e1, e2]
  exact List.perm_append_comm_assoc ..
def dv_i : List Value := [.null, .int 0, .int 0, .int 0, .int 0, .null, .null, .null, .null, .null, .null, .null, .null, .int 0, .int 0, .int 0]
set_option maxHeartbeats 4000000 in
set_option maxRecDepth 100000 in
theorem c_S_message_m {l : Launch} {D : va_G} {g : Nat → Nat} {vs : ClassId} {h : Nat → Nat} {t : Nat → ClassId} {ro : Nat → Nat} {rv : Nat → ClassId} {F : Nat → Option Nat} {Y : va_W} {sz : Nat} {s0 : St} {p0 : St} {b0 : (Nat → Int64)} {x1 : Int32} {x2 : Int32} {x3 : Int32} {N : Nat} {st : Int32} (hRW : ∀ sz, sr_Ci l y_S_runningWith w_S_runningWith (sr_rm 1 21) D (tNN vs t rv) (wN g vs h t ro rv F Y s0 p0 b0) (wN g vs h t ro rv F Y s0 p0 b0) sz [.ref (g 0), .int x2] (-1)) (hd : ¬ s0 1 0 = 0) (h0 : s0 0 0 = nI N) (hN8 : N < 8) (hsw : f_P_startsWith p0 x1 = some 1) (hst : f_P_findStart p0 = some st) :
    Met l y_S_message w_S_message ({ frames := 6, cells := 16, slots := 247, locals := 139 }) (sr_Pm D (wN g vs h t ro rv F Y s0 p0 b0) (tNN vs t rv) sz [.ref (g 0), .int x1, .int x2, .int x3]) (va_Qi (fun (r : Int32) (_ : sr_U) => r = nI N) (fun (u : sr_U) t' => sr_B D (tJJ vs t rv u.2) (va_A (wN g vs h t ro rv F Y s0 p0 b0) sz) (wJJ g vs h t ro rv F Y u.1 u.2 N (sr_up s0 0 0 (nI (N + 1))) p0 b0 (iN st x2 x3)) t') (va_A (wN g vs h t ro rv F Y s0 p0 b0) sz)) 16 247 (va_A (wN g vs h t ro rv F Y s0 p0 b0) sz) := by
  refine Met.ofW (cc := b_S_message) (maxL := 6) (ret := (some .int)) (by decide) rfl ?_
  intro p e s m args below meth c s₁ B hml hv
  obtain ⟨rfl, ⟨hsz, hP, hK, hD0⟩, hNW⟩ := hv
  subst hsz
  have X : sr_X D (tNN vs t rv) b_S_message 6 R_S w_S_message p s m _ meth c (va_A (wN g vs h t ro rv F Y s0 p0 b0) s.heap.size) (some .int) := ⟨B.exec, B.bytes, hml, findClass_of_methodNamed B.named, B.notSynchronized, atoms_spec (ws := w_S_message) B.pre, hK, fun q h => Or.inr h, B.returns⟩
  have Z : sr_Z D (va_A (wN g vs h t ro rv F Y s0 p0 b0) s.heap.size) s.heap (wN g vs h t ro rv F Y s0 p0 b0) s.heap [] := ⟨hP, hD0.self, va_S.rf⟩
  have hl := lv_entry ([.ref (g 0), .int x1, .int x2, .int x3] : List Value) (n := 6) (Nat.le_of_ble_eq_true rfl)
  rw [lg_entry_eq]
  generalize (lg_sl ([.ref (g 0), .int x1, .int x2, .int x3]) ++ List.replicate (6 - (lg_sl ([.ref (g 0), .int x1, .int x2, .int x3])).length) Slot.unset).toArray = ls at hl ⊢
  have hl : lv_has ls 6 [(0, .ref (g 0)), (1, .int x1), (2, .int x2), (3, .int x3)] := hl
  have hx := X.1
  have hb := X.2.1
  have hown := X.2.2.2.1
  have hts := X.2.2.2.2.2.1
  have hA : ∀ q : Nat, s.heap.size ≤ q → va_A (wN g vs h t ro rv F Y s0 p0 b0) s.heap.size q := fun q h => Or.inr h
  clear hP hD0
  refine lv_aload_n hx hb d_S_message_0 rfl (lv_at hl 0 rfl) ?_
  refine lv_iload_n hx hb d_S_message_1 rfl (lv_at hl 2 rfl) ?_
  refine sr_cVi (As := [.int x2]) (rest := []) X Z sr_cut_self hK (hRW _) (cw_S_75 X.2.2.2.2.2.1 (by decide)) 0 rfl rfl rfl hl rfl (Nat.le_of_ble_eq_true rfl) d_S_message_2 (fun H locs Z => ?_)
  refine lv_istore (lv' := [(4, .int (-1)), (0, .ref (g 0)), (1, .int x1), (2, .int x2), (3, .int x3)]) hx hb d_S_message_5 hl (by decide) rfl (fun ls hl => ?_)
  refine lv_aload_n hx hb d_S_message_7 rfl (lv_at hl 1 rfl) ?_
  refine lv_iload hx hb d_S_message_8 (lv_at hl 0 rfl) ?_
  refine sr_cVqN (As := [.int (-1)]) (rest := []) X Z sr_cut_self hK (c_S_find_n (u := ()) (if_pos (Or.inl (by decide)))) (cw_S_79 X.2.2.2.2.2.1 (by decide)) 0 rfl rfl rfl hl rfl (Nat.le_of_ble_eq_true rfl) d_S_message_10 (fun H locs Z => ?_)
  refine lv_astoreN (lv' := [(5, .null), (4, .int (-1)), (0, .ref (g 0)), (1, .int x1), (2, .int x2), (3, .int x3)]) hx hb d_S_message_13 hl (by decide) rfl (fun ls hl => ?_)
  refine lv_aloadN hx hb d_S_message_15 (lv_at hl 0 rfl) ?_
  refine lv_ifnullN (tgt := 37) hx hb d_S_message_17 rfl ?_
  refine lv_aload_n hx hb d_S_message_37 rfl (lv_at hl 2 rfl) ?_
  refine g_S_31_N X Z d_S_message_38 ?_
  refine lv_if_eq (tgt := 64) hx hb d_S_message_41 rfl (fun q_2 => absurd q_2 hd) (fun q_2 => ?_)
  refine lv_aload_n hx hb d_S_message_44 rfl (lv_at hl 2 rfl) ?_
  refine g_S_86_N X Z d_S_message_45 ?_
  refine lv_bipush (v := 8) hx hb d_S_message_48 (by decide) ?_
  refine lv_icmp_ge (tgt := 64) hx hb d_S_message_50 rfl (fun q_3 => absurd q_3 (by rw [h0]; exact nI_ge (b := 8) hN8 (by decide))) (fun q_3 => ?_)
  refine lv_aload_n hx hb d_S_message_53 rfl (lv_at hl 2 rfl) ?_
  refine g_S_10_N X Z d_S_message_54 ?_
  refine lv_iload_n hx hb d_S_message_57 rfl (lv_at hl 3 rfl) ?_
  refine sr_cVi (As := [.int x1]) (rest := []) X Z cut_NP (k_NP hK) (c_P_startsWith hsw) (cw_S_89 X.2.2.2.2.2.1 (by decide)) 2 rfl rfl rfl hl rfl (Nat.le_of_ble_eq_true rfl) d_S_message_58 (fun H locs Z => ?_)
  refine lv_if_ne (tgt := 66) hx hb d_S_message_61 rfl (fun q_6 => ?_) (fun q_6 => absurd q_6 (by decide))
  refine lv_aload_n hx hb d_S_message_66 rfl (lv_at hl 2 rfl) ?_
  refine g_S_27_N X Z d_S_message_67 ?_
  refine lv_aload_n hx hb d_S_message_70 rfl (lv_at hl 2 rfl) ?_
  refine g_S_86_N X Z d_S_message_71 ?_
  obtain ⟨hP, hD, hS⟩ := Z
  refine va_new (ci := ci_I) (fs := dv_i) (C := R_I) (T := F_I) (N := 16) hx hb hts (fun w hw => List.mem_cons_of_mem _ (hin_I w hw)) t_I t_I_ok hown (hts _ (List.mem_cons_of_mem _ q_121)) (hts _ (List.mem_cons_of_mem _ q_323)) (hts _ (List.mem_cons_of_mem _ q_8)) hK hP hD hS hA rfl dv_I (Nat.le_of_ble_eq_true rfl) (Nat.le_of_ble_eq_true rfl) d_S_message_74 (fun q1 H hP hD hS => ?_)
  refine W.widen (k := 1) (n := 16) (Nat.le_of_ble_eq_true rfl) (Nat.le_of_ble_eq_true rfl) ?_
  refine lv_dup hx hb d_S_message_77 rfl ?_
  refine lv_aload_n hx hb d_S_message_78 rfl (lv_at hl 2 rfl) ?_
  refine va_get (D := D) (ci := ci_S) (v := .ref (h 0)) (C := R_S) (T := F_S) (N := 5) hx hb hts (fun w hw => List.mem_cons_of_mem _ (hin_S w hw)) hown hK hP 0 rfl rfl 0 (by decide) (hts _ (List.mem_cons_of_mem _ q_123)) (fun _ h9 => h9) rfl d_S_message_79 ?_
  refine lv_iload_n hx hb d_S_message_82 rfl (lv_at hl 4 rfl) ?_
  refine lv_iload_n hx hb d_S_message_83 rfl (lv_at hl 5 rfl) ?_
  have Z : sr_Z D (va_A (wN g vs h t ro rv F Y s0 p0 b0) s.heap.size) s.heap (wN g vs h t ro rv F Y s0 p0 b0 ++ [(q1, .inr (ci_I, dv_i))]) H _ := ⟨hP, hD, hS⟩
  refine sr_cIM (As := [.ref (h 0), .int x2, .int x3]) (rest := [.ref q1, .int (s0 0 0), .ref (g 1)]) (wc := wP h t p0 ++ [(q1, .inr (ci_I, dv_i))]) (wr := [(g 0, .inr (ci_S, [.ref (h 0), .ref (ro 0), .ref (g 1), .int (s0 0 0), .int (s0 1 0)])), (g 1, .inl (vs, 8, .inr (.inr (.inr (.inr F)))))] ++ (wRr h ro rv b0 ++ Y)) (cells := 1) (slots := 16) hNW ⟨hx, hb, hml, hown, hts⟩ hA Z sr_pm3 (k_NP hK) (c_I_init l D h t p0 q1 H.size x2 x3 hst) (cwI 3 hts (sr_gI rfl q_449) rfl rfl rfl (hts _ (List.mem_cons_of_mem _ q_8)) (hts _ (List.mem_cons_of_mem _ q_447)) (hts _ (List.mem_cons_of_mem _ q_448)) rfl ⟨by decide, by decide, by decide +kernel⟩ ⟨Nat.le_of_ble_eq_true rfl, Nat.le_of_ble_eq_true rfl⟩) rfl hl rfl (Nat.le_of_ble_eq_true rfl) d_S_message_84 ⟨Nat.le_of_ble_eq_true rfl, Nat.le_of_ble_eq_true rfl⟩ (fun u H locs hu hK1 Z9 => ?_)
  refine W.widen (k := 16) (n := 247) (Nat.le_of_ble_eq_true rfl) (Nat.le_of_ble_eq_true rfl) ?_
  obtain rfl : u.1 0 = q1 := hu
  obtain ⟨hP, hD, hS⟩ := Z9
  have hP := sr_P_perm sr_p2.symm hP
  have hD := sr_D_perm sr_p2.symm hD
  have hP : va_P D classes (wN g vs h t ro rv F (wJ h u.1 u.2 (iN st x2 x3) ++ Y) s0 p0 b0) H := hP
  have hD : va_D (va_A (wN g vs h t ro rv F Y s0 p0 b0) s.heap.size) (wN g vs h t ro rv F (wJ h u.1 u.2 (iN st x2 x3) ++ Y) s0 p0 b0) := hD
  refine va_astq hx hb hK hP hD hS 1 0 19 ci_I rfl rfl rfl rfl (by rw [h0]; exact vp_in_nI hN8 (by decide)) d_S_message_87 (fun H locs hP hD hS => ?_)
  rw [h0, nI_clamp (by omega)] at hP hD
  have hK := va_K.sub (tys' := tJJ vs t rv u.2) (hK.app hK1) (List.range 16 ++ List.range' 30 11) rfl
  refine lv_aload_n hx hb d_S_message_88 rfl (lv_at hl 2 rfl) ?_
  refine lv_dup hx hb d_S_message_89 rfl ?_
  refine va_get (D := D) (ci := ci_S) (v := .int (s0 0 0)) (C := R_S) (T := F_S) (N := 5) hx hb hts (fun w hw => List.mem_cons_of_mem _ (hin_S w hw)) hown hK hP 0 rfl rfl 3 (by decide) (hts _ (List.mem_cons_of_mem _ q_126)) (fun _ h9 => h9) rfl d_S_message_90 ?_
  refine lv_iconst (v := 1) hx hb d_S_message_93 (by decide) ?_
  refine lv_iadd hx hb d_S_message_94 ?_
  rw [show s0 0 0 + 1 = nI (N + 1) by rw [h0, nI_1]]
  refine va_put (D := D) (ci := ci_S) (v := .int (nI (N + 1))) (ty := .int) (C := R_S) (T := F_S) (N := 5) hx hb hts (fun w hw => List.mem_cons_of_mem _ (hin_S w hw)) t_S t_S_ok n_S hown hK hP hD hS 0 rfl rfl 3 (by decide) (hts _ (List.mem_cons_of_mem _ q_126)) (fun _ h9 => h9) rfl (by decide +kernel) rfl rfl (Nat.le_of_ble_eq_true rfl) d_S_message_95 (fun H locs hP hD hS => ?_)
  have hP : va_P D classes (wJJ g vs h t ro rv F Y u.1 u.2 N (sr_up s0 0 0 (nI (N + 1))) p0 b0 (iN st x2 x3)) H := hP
  have hD : va_D (va_A (wN g vs h t ro rv F Y s0 p0 b0) s.heap.size) (wJJ g vs h t ro rv F Y u.1 u.2 N (sr_up s0 0 0 (nI (N + 1))) p0 b0 (iN st x2 x3)) := hD
  refine lv_aload_n hx hb d_S_message_98 rfl (lv_at hl 2 rfl) ?_
  refine va_get (D := D) (ci := ci_S) (v := .int (nI (N + 1))) (C := R_S) (T := F_S) (N := 5) hx hb hts (fun w hw => List.mem_cons_of_mem _ (hin_S w hw)) hown hK hP 0 rfl rfl 3 (by decide) (hts _ (List.mem_cons_of_mem _ q_126)) (fun _ h9 => h9) rfl d_S_message_99 ?_
  refine lv_iconst (v := 1) hx hb d_S_message_102 (by decide) ?_
  refine lv_isub hx hb d_S_message_103 ?_
  rw [nI_pred]
  exact W.iret hx hb X.2.2.2.2.2.2.2.2 (fun t ht hW => ⟨⟨nI N, u, rfl, rfl, by rw [ht]; exact hP, va_K.moved hW.alike hK, hD⟩, hS.F ht⟩) hS.2.2 d_S_message_104 X.2.2.2.2.1
