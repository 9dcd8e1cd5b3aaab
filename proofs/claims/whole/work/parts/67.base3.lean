abbrev b_P_init : ByteArray := prog_7_method_1_code
def y_P_init : MethodName := ⟨R_P, "<init>", "()V"⟩
def w_P_init : List Cond := .code y_P_init b_P_init 1 none :: sr_T
abbrev b_M_init : ByteArray := prog_12_method_1_code
def y_M_init : MethodName := ⟨R_M, "<init>", "()V"⟩
def w_M_init : List Cond := .code y_M_init b_M_init 1 none :: sr_T
abbrev b_R_init : ByteArray := prog_8_method_1_code
def y_R_init : MethodName := ⟨R_R, "<init>", "(LScopeRunner$Plan;)V"⟩
def w_R_init : List Cond := .code y_R_init b_R_init 2 none :: sr_T
abbrev b_V_init : ByteArray := prog_10_method_1_code
def y_V_init : MethodName := ⟨R_V, "<init>", "(LScopeRunner$Plan;)V"⟩
def w_V_init : List Cond := .code y_V_init b_V_init 2 none :: sr_T
abbrev b_L_init : ByteArray := prog_6_method_1_code
def y_L_init : MethodName := ⟨R_L, "<init>", "(LScopeRunner$Plan;)V"⟩
def w_L_init : List Cond := .code y_L_init b_L_init 2 none :: sr_T
abbrev b_E_init : ByteArray := prog_2_method_1_code
def y_E_init : MethodName := ⟨R_E, "<init>", "()V"⟩
def w_E_init : List Cond := .code y_E_init b_E_init 1 none :: sr_T
abbrev b_G_init : ByteArray := prog_3_method_1_code
def y_G_init : MethodName := ⟨R_G, "<init>", "()V"⟩
def w_G_init : List Cond := .code y_G_init b_G_init 1 none :: sr_T
abbrev b_I_init : ByteArray := prog_4_method_1_code
def y_I_init : MethodName := ⟨R_I, "<init>", "(LScopeRunner$Plan;II)V"⟩
def w_I_init : List Cond := .code y_I_init b_I_init 4 none :: sr_T
abbrev b_S_init : ByteArray := prog_1_method_1_code
def y_S_init : MethodName := ⟨R_S, "<init>", "()V"⟩
def w_S_init : List Cond := .code y_S_init b_S_init 1 none :: sr_T
theorem q_26 : (.methodLink R_P 3 Lib.objectInit : Cond) ∈ sr_T := sr_q 26 (by decide +kernel) (by decide +kernel)
theorem q_19 : (.instanceMethod Lib.objectInit : Cond) ∈ sr_T := sr_q 19 (by decide +kernel) (by decide +kernel)
theorem q_20 : (.code Lib.objectInit ⟨#[0xb1]⟩ 1 none : Cond) ∈ sr_T := sr_q 20 (by decide +kernel) (by decide +kernel)
theorem q_106 : (.arrayClass .int : Cond) ∈ sr_T := sr_q 106 (by decide +kernel) (by decide +kernel)
theorem q_41 : (.fieldLink R_P 27 R_P "modes" "[I" : Cond) ∈ sr_T := sr_q 41 (by decide +kernel) (by decide +kernel)
theorem q_735 : (.methodLink R_M 1 Lib.objectInit : Cond) ∈ sr_T := sr_q 735 (by decide +kernel) (by decide +kernel)
theorem q_471 : (.arrayClass .boolean : Cond) ∈ sr_T := sr_q 471 (by decide +kernel) (by decide +kernel)
theorem q_112 : (.methodLink R_R 3 Lib.objectInit : Cond) ∈ sr_T := sr_q 112 (by decide +kernel) (by decide +kernel)
theorem q_120 : (.arrayClass .long : Cond) ∈ sr_T := sr_q 120 (by decide +kernel) (by decide +kernel)
theorem q_457 : (.methodLink R_V 3 Lib.objectInit : Cond) ∈ sr_T := sr_q 457 (by decide +kernel) (by decide +kernel)
theorem q_477 : (.methodLink R_L 3 Lib.objectInit : Cond) ∈ sr_T := sr_q 477 (by decide +kernel) (by decide +kernel)
theorem q_490 : (.methodLink R_E 3 Lib.objectInit : Cond) ∈ sr_T := sr_q 490 (by decide +kernel) (by decide +kernel)
theorem q_511 : (.methodLink R_G 3 Lib.objectInit : Cond) ∈ sr_T := sr_q 511 (by decide +kernel) (by decide +kernel)
/-! BASE 3: constructors -/
def z0 : St := fun _ _ => 0
abbrev sr_U : Type := (Nat → Nat) × (Nat → ClassId)
def sr_Cn (l : Launch) (y : MethodName) (wy : List Cond) (rm : Room) (D : va_G) (w0 : va_W) (t0 : List (ClassId × FieldType)) (post : sr_U → Prop) (wf : sr_U → va_W) (tf : sr_U → List (ClassId × FieldType)) (sz : Nat) (av : List Value) (mc ms : Nat) : Prop := Met l y wy rm (sr_Pc D w0 t0 sz av) (va_Qv post (fun u t => sr_B D (tf u) (va_A w0 sz) (wf u) t) (va_A w0 sz)) mc ms (va_A w0 sz)
theorem sr_pc {x y : va_W} : (x ++ y).Perm (y ++ x) := List.perm_append_comm
/-- the words that a callee isn't told by its tables -/
def NW (U : State) : Prop := va_Nw (.methodLinkNest R_S 9 y_P_init "ScopeRunner") U ∧ va_Nw (.methodLinkNest R_I 63 y_E_init "ScopeRunner") U ∧ va_Nw (.methodLinkNest R_I 70 y_G_init "ScopeRunner") U ∧ va_AO R_I U
theorem NW.warm {s U : State} (hW : s.WarmedH U.vm) (h : NW s) : NW U := ⟨va_Nw.warmM hW h.1, va_Nw.warmM hW h.2.1, va_Nw.warmM hW h.2.2.1, va_AO.moved hW.alike h.2.2.2⟩
theorem NW.same {s U : State} (hW : s.vm = U.vm) (h : NW s) : NW U := ⟨va_Nw.same rfl hW h.1, va_Nw.same rfl hW h.2.1, va_Nw.same rfl hW h.2.2.1, va_AO.moved (by rw [hW]; exact Vm.Alike.refl U.vm) h.2.2.2⟩
def sr_Pm (D : va_G) (ws : va_W) (tys : List (ClassId × FieldType)) (sz : Nat) (av : List Value) : Array Value → State → Prop := va_Pc av (fun U => (U.heap.size = sz ∧ va_P D classes ws U.heap ∧ va_K D classes tys U ∧ va_D (fun _ => True) ws) ∧ NW U)
def sr_Cm (l : Launch) (y : MethodName) (wy : List Cond) (rm : Room) (D : va_G) (w0 : va_W) (t0 : List (ClassId × FieldType)) (post : sr_U → Prop) (wf : sr_U → va_W) (tf : sr_U → List (ClassId × FieldType)) (sz : Nat) (av : List Value) (mc ms : Nat) : Prop := Met l y wy rm (sr_Pm D w0 t0 sz av) (va_Qv post (fun u t => sr_B D (tf u) (va_A w0 sz) (wf u) t) (va_A w0 sz)) mc ms (va_A w0 sz)
theorem sr_gI {x0 cd : Cond} {wy : List Cond} (h : wy = cd :: sr_T) (h5 : cd ∈ sr_T) : GoodIn (x0 :: sr_T) wy := by
  subst h
  intro w hw
  refine sr_gq ?_
  rcases List.mem_cons.mp hw with rfl | h
  · exact h5
  · exact h
section
variable {p : Program} {l : Launch} {e : Env} {R : Room} {s : State} {m : MethodId} {args : Array Value} {below : List Frame} {meth : Method} {c : Code} {H H0 : Heap} {locs : List Loc} {ls : Array Slot} {D : va_G} {A : Nat → Prop} {tys tysC : List (ClassId × FieldType)} {ws wc w1 wr ws2 : va_W} {cc : ByteArray} {nL : Nat} {own : String} {Ts : List Cond} {ret : Option FieldType} {Q : State → Prop} {pc : Nat} {rest st0 : List Value} {a cells slots mc ms : Nat}
theorem sr_goC {st : Array Value} {post : sr_U → Prop} {wf : sr_U → va_W} {tf : sr_U → List (ClassId × FieldType)} (hA : ∀ q, H0.size ≤ q → A q) (Z : sr_Z D A H0 ws H locs) (C : ws.Perm (wc ++ wr)) (hr : va_Run p l e R s m args below meth c H locs cells slots mc ms (F0 m pc ls st0) rest (va_Qv post (fun u t => sr_B D (tf u) (va_A wc H.size) (wf u) t) (va_A wc H.size) st) (va_A wc H.size))
    (kk : ∀ (u : sr_U) (H : Heap) (locs : List Loc), post u → va_K D classes (tf u) s → sr_Z D A H0 (wf u ++ wr) H locs → W p l e R s m args below meth c H locs (cells + mc) (slots + ms) Q (F0 m (pc + 3) ls rest)) : W p l e R s m args below meth c H locs cells slots Q (F0 m pc ls st0) := by
  have hF := (sr_join Z.1 Z.2.1 Z.2.2 hA ⟨wr, C, List.Perm.refl (wc ++ wr)⟩).1
  refine va_callv hr Z.2.2 (fun q _ h => hF q h) hF (fun u t H1 locs1 ht hvm hw hB hz1 hk1 hS1 => ?_)
  obtain ⟨hP1, hK1, hD1⟩ := hB
  rw [ht] at hP1
  obtain ⟨-, -, -, hj⟩ := sr_join Z.1 Z.2.1 Z.2.2 hA ⟨wr, C, List.Perm.refl (wf u ++ wr)⟩
  obtain ⟨hP2, hD2⟩ := hj H1 hk1 hP1 hD1
  exact kk u H1 locs1 hw (va_K.moved hvm.symm hK1) ⟨hP2, hD2, hS1⟩
theorem sr_cI {As : List Value} {b : Nat} {y : MethodName} {bytes : ByteArray} {maxL n index : Nat} {rm : Room} {lv : List (Nat × Value)} {wy : List Cond} {post : sr_U → Prop} {wf : sr_U → va_W} {tf : sr_U → List (ClassId × FieldType)} (S : CallFix p m c cc nL s args Ts own) (hA : ∀ q, H0.size ≤ q → A q) (Z : sr_Z D A H0 ws H locs) (C : ws.Perm (wc ++ wr)) (Kc : va_K D classes tysC s) (hM : sr_Cn l y wy rm D wc tysC post wf tf H.size (.ref b :: As) mc ms) (cw : CallB R s args own index y bytes maxL none wy rm mc ms n ∧ y.name = "<init>" ∧ (Cond.instanceMethod y).before args s = true) (hn : As.length = n) (hl : lv_has ls nL lv) (hst : st0 = As.reverse ++ .ref b :: rest) (hW : (rest.map fun v => v.category).sum ≤ 8) (hdg : decode cc pc = .ok (.invokespecial index, 3)) (hf : cells + mc ≤ R.cells ∧ slots + ms ≤ R.slots)
    (kk : ∀ (u : sr_U) (H : Heap) (locs : List Loc), post u → va_K D classes (tf u) s → sr_Z D A H0 (wf u ++ wr) H locs → W p l e R s m args below meth c H locs (cells + mc) (slots + ms) Q (F0 m (pc + 3) ls rest)) : W p l e R s m args below meth c H locs cells slots Q (F0 m pc ls st0) := by
  obtain ⟨-, hPc, hDc, -⟩ := sr_join Z.1 Z.2.1 Z.2.2 hA ⟨wr, C, List.Perm.refl (wc ++ wr)⟩
  have pr := sr_pre (av := .ref b :: As) Kc hPc hDc
  exact sr_goC hA Z C (va_runI S hM cw pr rfl hn hl.1 hst (lv_room hW) hdg hf) kk
theorem sr_cIN {As : List Value} {b : Nat} {y : MethodName} {bytes : ByteArray} {maxL n index : Nat} {rm : Room} {lv : List (Nat × Value)} {wy : List Cond} {host : String} {post : sr_U → Prop} {wf : sr_U → va_W} {tf : sr_U → List (ClassId × FieldType)} (S : CallFix p m c cc nL s args Ts own) (hA : ∀ q, H0.size ≤ q → A q) (Z : sr_Z D A H0 ws H locs) (C : ws.Perm (wc ++ wr)) (Kc : va_K D classes tysC s) (hM : sr_Cn l y wy rm D wc tysC post wf tf H.size (.ref b :: As) mc ms) (cw : va_CN R s args own index y host bytes maxL none wy rm mc ms n ∧ y.name = "<init>" ∧ (Cond.instanceMethod y).before args s = true) (hn : As.length = n) (hl : lv_has ls nL lv) (hst : st0 = As.reverse ++ .ref b :: rest) (hW : (rest.map fun v => v.category).sum ≤ 8) (hdg : decode cc pc = .ok (.invokespecial index, 3)) (hf : cells + mc ≤ R.cells ∧ slots + ms ≤ R.slots)
    (kk : ∀ (u : sr_U) (H : Heap) (locs : List Loc), post u → va_K D classes (tf u) s → sr_Z D A H0 (wf u ++ wr) H locs → W p l e R s m args below meth c H locs (cells + mc) (slots + ms) Q (F0 m (pc + 3) ls rest)) : W p l e R s m args below meth c H locs cells slots Q (F0 m pc ls st0) := by
  obtain ⟨-, hPc, hDc, -⟩ := sr_join Z.1 Z.2.1 Z.2.2 hA ⟨wr, C, List.Perm.refl (wc ++ wr)⟩
  have pr := sr_pre (av := .ref b :: As) Kc hPc hDc
  exact sr_goC hA Z C (va_runIN S hM cw pr rfl hn hl.1 hst (lv_room hW) hdg hf) kk
theorem sr_preM {av : List Value} (N : NW s) (K : va_K D classes tysC s) (Pw : va_P D classes wc H) (Dw : va_D A wc) : FrameBlind (sr_Pm D wc tysC H.size av) ∧ ∀ U : State, U.heap = H → s.WarmedH U.vm → sr_Pm D wc tysC H.size av av.toArray U :=
  ⟨fun a U g mk q => by obtain ⟨q0, ⟨q1, qP, qK, qD⟩, qN⟩ := q; exact ⟨q0, ⟨q1, qP, va_K.moved (u := U) (U := U.calling g mk a) (Vm.Alike.refl U.vm) qK, qD⟩, NW.same (s := U) (U := U.calling g mk a) rfl qN⟩, fun U hU hW => ⟨rfl, ⟨by rw [hU], by rw [hU]; exact Pw, va_K.moved hW.alike K, Dw.weaken (fun _ _ _ _ => trivial)⟩, NW.warm hW N⟩⟩
theorem sr_cIM {As : List Value} {b : Nat} {y : MethodName} {bytes : ByteArray} {maxL n index : Nat} {rm : Room} {lv : List (Nat × Value)} {wy : List Cond} {post : sr_U → Prop} {wf : sr_U → va_W} {tf : sr_U → List (ClassId × FieldType)} (N : NW s) (S : CallFix p m c cc nL s args Ts own) (hA : ∀ q, H0.size ≤ q → A q) (Z : sr_Z D A H0 ws H locs) (C : ws.Perm (wc ++ wr)) (Kc : va_K D classes tysC s) (hM : sr_Cm l y wy rm D wc tysC post wf tf H.size (.ref b :: As) mc ms) (cw : CallB R s args own index y bytes maxL none wy rm mc ms n ∧ y.name = "<init>" ∧ (Cond.instanceMethod y).before args s = true) (hn : As.length = n) (hl : lv_has ls nL lv) (hst : st0 = As.reverse ++ .ref b :: rest) (hW : (rest.map fun v => v.category).sum ≤ 8) (hdg : decode cc pc = .ok (.invokespecial index, 3)) (hf : cells + mc ≤ R.cells ∧ slots + ms ≤ R.slots)
    (kk : ∀ (u : sr_U) (H : Heap) (locs : List Loc), post u → va_K D classes (tf u) s → sr_Z D A H0 (wf u ++ wr) H locs → W p l e R s m args below meth c H locs (cells + mc) (slots + ms) Q (F0 m (pc + 3) ls rest)) : W p l e R s m args below meth c H locs cells slots Q (F0 m pc ls st0) := by
  obtain ⟨-, hPc, hDc, -⟩ := sr_join Z.1 Z.2.1 Z.2.2 hA ⟨wr, C, List.Perm.refl (wc ++ wr)⟩
  have pr := sr_preM (av := .ref b :: As) N Kc hPc hDc
  exact sr_goC hA Z C (va_runI S hM cw pr rfl hn hl.1 hst (lv_room hW) hdg hf) kk
/-- a call in the midst of making -/
theorem sr_goiC {st : Array Value} {r : Int32} (hA : ∀ q, H0.size ≤ q → A q) (Z : sr_Z D A H0 ws H locs) (C : sr_cut ws wc w1 ws2) (hr : va_Run p l e R s m args below meth c H locs cells slots 0 0 (F0 m pc ls st0) rest (sr_Ri D tysC (va_A wc H.size) w1 r st) (va_A wc H.size))
    (kk : ∀ (H : Heap) (locs : List Loc), sr_Z D A H0 ws2 H locs → W p l e R s m args below meth c H locs cells slots Q (F0 m (pc + 3) ls (.int r :: rest))) : W p l e R s m args below meth c H locs cells slots Q (F0 m pc ls st0) := by
  obtain ⟨hF, -, -, hj⟩ := sr_join Z.1 Z.2.1 Z.2.2 hA C
  refine va_calli hr Z.2.2 (fun q _ h => hF q h) hF (fun r' u t H1 locs1 ht hvm hw hB hz1 hk1 hS1 => ?_)
  obtain ⟨hP1, hK1, hD1⟩ := hB
  rw [ht] at hP1
  cases hw
  obtain ⟨hP2, hD2⟩ := hj H1 hk1 hP1 hD1
  exact kk H1 locs1 ⟨hP2, hD2, hS1⟩
theorem sr_cViC {As : List Value} {r : Int32} {b : Nat} {y : MethodName} {bytes : ByteArray} {maxL n index : Nat} {rt : Option FieldType} {rm : Room} {Cn : String} {F : u_T} {N ci : Nat} {fs : List Value} {lv : List (Nat × Value)} {wy : List Cond} (S : CallFix p m c cc nL s args Ts own) (hA : ∀ q, H0.size ≤ q → A q) (Z : sr_Z D A H0 ws H locs) (C : sr_cut ws wc w1 ws2) (Kc : va_K D classes tysC s) (hM : sr_Ci l y wy rm D tysC wc w1 H.size (.ref b :: As) r) (cw : CallW R s args own Cn index y bytes maxL rt wy rm 0 0 n) (q0 : Nat) (he : ws[q0]? = some (b, .inr (ci, fs))) (hc : classes[ci]? = some (Cn, F, N)) (hn : As.length = n) (hl : lv_has ls nL lv) (hst : st0 = As.reverse ++ .ref b :: rest) (hW : (rest.map fun v => v.category).sum ≤ 8) (hdg : decode cc pc = .ok (.invokevirtual index, 3)) (hf : cells + 0 ≤ R.cells ∧ slots + 0 ≤ R.slots)
    (kk : ∀ (H : Heap) (locs : List Loc), sr_Z D A H0 ws2 H locs → W p l e R s m args below meth c H locs cells slots Q (F0 m (pc + 3) ls (.int r :: rest))) : W p l e R s m args below meth c H locs cells slots Q (F0 m pc ls st0) := by
  obtain ⟨-, hPc, hDc, -⟩ := sr_join Z.1 Z.2.1 Z.2.2 hA C
  have pr := sr_pre (av := .ref b :: As) Kc hPc hDc
  exact sr_goiC hA Z C (va_runV S hM cw ⟨pr.1, va_recv Kc Z.1 hc he, pr.2⟩ rfl hn hl.1 hst (lv_room hW) hdg hf) kk
end
