/-! BASE: the states as numbered arrays of ints, loads and stores with their bounds, rows over a world, calls with the frame. -/
abbrev St : Type := Nat → Nat → Int32
def sr_up (s : St) (k i : Nat) (v : Int32) : St := fun k' => bif Nat.beq k' k then upd (s k') i v else s k'
def sr_ald (n : Nat) (f : Nat → Int32) (i : Int32) : Option Int32 := if i < 0 ∨ n ≤ i.toNatClampNeg then none else some (f i.toNatClampNeg)
def sr_ast (n : Nat) (s : St) (k : Nat) (i v : Int32) : Option St := if i < 0 ∨ n ≤ i.toNatClampNeg then none else some (sr_up s k i.toNatClampNeg v)
def sr_lald (n : Nat) (f : Nat → Int64) (i : Int32) : Option Int64 := if i < 0 ∨ n ≤ i.toNatClampNeg then none else some (f i.toNatClampNeg)
def sr_last (n : Nat) (f : Nat → Int64) (i : Int32) (v : Int64) : Option (Nat → Int64) := if i < 0 ∨ n ≤ i.toNatClampNeg then none else some (vp_updL f i.toNatClampNeg v)
def sr_pf (s : St) (k : Nat) (v : Int32) : Option St := some (sr_up s k 0 v)
def sr_z (v : Int32) : Option Unit := if v = 0 ∨ v = 1 then some () else none
def sr_b2 {α β γ : Type} (o : Option (α × β)) (g : α → β → Option γ) : Option γ := o.bind fun x => g x.1 x.2
theorem sr_b {α β : Type} {o : Option α} {g : α → Option β} {x : β} (h : o.bind g = some x) : ∃ v, o = some v ∧ g v = some x := by
  cases o with
  | none => cases h
  | some v => exact ⟨v, rfl, h⟩
theorem sr_b2_i {α β γ : Type} {o : Option (α × β)} {g : α → β → Option γ} {x : γ} (h : sr_b2 o g = some x) : ∃ a b, o = some (a, b) ∧ g a b = some x := by
  cases o with
  | none => cases h
  | some v => exact ⟨v.1, v.2, rfl, h⟩
theorem sr_it {α : Type} {c : Prop} {i : Decidable c} {a b : Option α} {x : α} (q : c) (h : @ite (Option α) c i a b = some x) : a = some x := (if_pos q).symm.trans h
theorem sr_if {α : Type} {c : Prop} {i : Decidable c} {a b : Option α} {x : α} (q : ¬ c) (h : @ite (Option α) c i a b = some x) : b = some x := (if_neg q).symm.trans h
theorem sr_ald_i {n : Nat} {f : Nat → Int32} {i v : Int32} (h : sr_ald n f i = some v) : vp_in i n ∧ f i.toNatClampNeg = v := by
  unfold sr_ald at h
  split at h
  · cases h
  · next q => exact ⟨q, Option.some.inj h⟩
theorem sr_ast_i {n : Nat} {s s' : St} {k : Nat} {i v : Int32} (h : sr_ast n s k i v = some s') : vp_in i n ∧ sr_up s k i.toNatClampNeg v = s' := by
  unfold sr_ast at h
  split at h
  · cases h
  · next q => exact ⟨q, Option.some.inj h⟩
theorem sr_lald_i {n : Nat} {f : Nat → Int64} {i : Int32} {v : Int64} (h : sr_lald n f i = some v) : vp_in i n ∧ f i.toNatClampNeg = v := by
  unfold sr_lald at h
  split at h
  · cases h
  · next q => exact ⟨q, Option.some.inj h⟩
theorem sr_last_i {n : Nat} {f f' : Nat → Int64} {i : Int32} {v : Int64} (h : sr_last n f i v = some f') : vp_in i n ∧ vp_updL f i.toNatClampNeg v = f' := by
  unfold sr_last at h
  split at h
  · cases h
  · next q => exact ⟨q, Option.some.inj h⟩
theorem sr_nar0 : narrow .boolean (.int 0) = .int 0 := by decide +kernel
theorem sr_nar1 : narrow .boolean (.int 1) = .int 1 := by decide +kernel
theorem sr_z_i {v : Int32} {u : Unit} (h : sr_z v = some u) : narrow .boolean (.int v) = .int v := by
  unfold sr_z at h
  split at h
  · next q => rcases q with rfl | rfl
              · exact sr_nar0
              · exact sr_nar1
  · cases h
theorem sr_ne {w a : Int32} (q : ¬ w = a) {k : Int} (h : a.toInt = k) : w.toInt ≠ k := fun h2 => q (Int32.toInt_inj.mp (h2.trans h.symm))
/-- the world holds, and nothing outside A has changed -/
def sr_Z (D : va_G) (A : Nat → Prop) (H0 : Heap) (ws : va_W) (H : Heap) (locs : List Loc) : Prop := va_P D classes ws H ∧ va_D A ws ∧ va_S A H0 H locs
/-- what is fixed while a method runs -/
def sr_X (D : va_G) (tys : List (ClassId × FieldType)) (cc : ByteArray) (nL : Nat) (own : String) (Ts : List Cond) (p : Program) (s : State) (m : MethodId) (args : Array Value) (meth : Method) (c : Code) (A : Nat → Prop) (ret : Option FieldType) : Prop :=
  p.tables.exec = Jvm.exec ∧ c.code = cc ∧ c.maxLocals = nL ∧ s.vm.findClass own = some m.cls ∧ meth.locks = false ∧ (∀ w ∈ Ts, w.before args s = true) ∧ va_K D classes tys s ∧ (∀ q, s.heap.size ≤ q → A q) ∧ meth.sig.returnType = ret
def sr_B (D : va_G) (tys : List (ClassId × FieldType)) (A : Nat → Prop) (w' : va_W) (t : State) : Prop := va_P D classes w' t.heap ∧ va_K D classes tys t ∧ va_D A w'
def sr_Ri (D : va_G) (tys : List (ClassId × FieldType)) (A : Nat → Prop) (w' : va_W) (r : Int32) : Array Value → State → Outcome → State → Prop := va_Qi (fun (r' : Int32) (_ : Unit) => r' = r) (fun _ t => sr_B D tys A w' t) A
def sr_Rl (D : va_G) (tys : List (ClassId × FieldType)) (A : Nat → Prop) (w' : va_W) (r : Int64) : Array Value → State → Outcome → State → Prop := va_Ql (fun (r' : Int64) (_ : Unit) => r' = r) (fun _ t => sr_B D tys A w' t) A
def sr_Rv (D : va_G) (tys : List (ClassId × FieldType)) (A : Nat → Prop) (w' : va_W) : Array Value → State → Outcome → State → Prop := va_Qv (fun (_ : Unit) => True) (fun _ t => sr_B D tys A w' t) A
def sr_Qi (D : va_G) (tys : List (ClassId × FieldType)) (below : List Frame) (args : Array Value) (s : State) (A : Nat → Prop) (w' : va_W) (r : Int32) : State → Prop := MQ below (sr_Ri D tys A w' r) args s 0 0 A
def sr_Ql (D : va_G) (tys : List (ClassId × FieldType)) (below : List Frame) (args : Array Value) (s : State) (A : Nat → Prop) (w' : va_W) (r : Int64) : State → Prop := MQ below (sr_Rl D tys A w' r) args s 0 0 A
def sr_Qv (D : va_G) (tys : List (ClassId × FieldType)) (below : List Frame) (args : Array Value) (s : State) (A : Nat → Prop) (w' : va_W) : State → Prop := MQ below (sr_Rv D tys A w') args s 0 0 A
def sr_Pc (D : va_G) (ws : va_W) (tys : List (ClassId × FieldType)) (sz : Nat) (av : List Value) : Array Value → State → Prop := va_Pc av (fun U => U.heap.size = sz ∧ va_P D classes ws U.heap ∧ va_K D classes tys U ∧ va_D (fun _ => True) ws)
def sr_Ci (l : Launch) (y : MethodName) (wy : List Cond) (rm : Room) (D : va_G) (tys : List (ClassId × FieldType)) (ws w' : va_W) (sz : Nat) (av : List Value) (r : Int32) : Prop := Met l y wy rm (sr_Pc D ws tys sz av) (sr_Ri D tys (va_A ws sz) w' r) 0 0 (va_A ws sz)
def sr_Cl (l : Launch) (y : MethodName) (wy : List Cond) (rm : Room) (D : va_G) (tys : List (ClassId × FieldType)) (ws w' : va_W) (sz : Nat) (av : List Value) (r : Int64) : Prop := Met l y wy rm (sr_Pc D ws tys sz av) (sr_Rl D tys (va_A ws sz) w' r) 0 0 (va_A ws sz)
def sr_Cv (l : Launch) (y : MethodName) (wy : List Cond) (rm : Room) (D : va_G) (tys : List (ClassId × FieldType)) (ws w' : va_W) (sz : Nat) (av : List Value) : Prop := Met l y wy rm (sr_Pc D ws tys sz av) (sr_Rv D tys (va_A ws sz) w') 0 0 (va_A ws sz)
abbrev sr_rm (f n : Nat) : Room := { frames := f, cells := 0, slots := 0, locals := n }
/-- ws holds the callee's cells wc; with w1 in their place it is ws2 -/
def sr_cut (ws wc w1 ws2 : va_W) : Prop := ∃ wr : va_W, ws.Perm (wc ++ wr) ∧ ws2.Perm (w1 ++ wr)
theorem sr_cut_self {ws w1 : va_W} : sr_cut ws ws w1 w1 := ⟨[], by simp, by simp⟩
theorem sr_cut_0 {ws : va_W} : sr_cut ws [] [] ws := ⟨ws, List.Perm.refl _, List.Perm.refl _⟩
theorem sr_cut_l {a b a' : va_W} : sr_cut (a ++ b) a a' (a' ++ b) := ⟨b, List.Perm.refl _, List.Perm.refl _⟩
theorem sr_P_iff {D : va_G} {cl : List vw_C} {ws : va_W} {H : Heap} : va_P D cl ws H ↔ ∀ q ∈ ws, va_at D cl q H :=
  ⟨fun h q hq => by obtain ⟨k, hk⟩ := List.mem_iff_getElem?.mp hq; exact h k q hk, fun h k q hk => h q (List.mem_of_getElem? hk)⟩
theorem sr_D_iff {A : Nat → Prop} {ws : va_W} : va_D A ws ↔ ws.Pairwise (fun p q => p.1 ≠ q.1) ∧ ∀ q ∈ ws, A q.1 := by
  constructor
  · intro h
    refine ⟨List.pairwise_iff_getElem.mpr (fun i j hi hj hij he => ?_), fun q hq => ?_⟩
    · have := h.1 i j _ _ (List.getElem?_eq_getElem hi) (List.getElem?_eq_getElem hj) he
      omega
    · obtain ⟨k, hk⟩ := List.mem_iff_getElem?.mp hq
      exact h.2 k q hk
  · intro h
    have hp := List.pairwise_iff_getElem.mp h.1
    refine ⟨fun i j p q hi hj he => ?_, fun k q hk => h.2 q (List.mem_of_getElem? hk)⟩
    obtain ⟨hi1, hi2⟩ := List.getElem?_eq_some_iff.mp hi
    obtain ⟨hj1, hj2⟩ := List.getElem?_eq_some_iff.mp hj
    rcases Nat.lt_trichotomy i j with h1 | h1 | h1
    · have h2 := hp i j hi1 hj1 h1
      rw [hi2, hj2] at h2
      exact absurd he h2
    · exact h1
    · have h2 := hp j i hj1 hi1 h1
      rw [hi2, hj2] at h2
      exact absurd he.symm h2
theorem sr_P_perm {D : va_G} {cl : List vw_C} {ws ws2 : va_W} {H : Heap} (h : ws.Perm ws2) (hP : va_P D cl ws H) : va_P D cl ws2 H :=
  sr_P_iff.mpr (fun q hq => sr_P_iff.mp hP q (h.mem_iff.mpr hq))
theorem sr_D_perm {A : Nat → Prop} {ws ws2 : va_W} (h : ws.Perm ws2) (hD : va_D A ws) : va_D A ws2 := by
  obtain ⟨h1, h2⟩ := sr_D_iff.mp hD
  exact sr_D_iff.mpr ⟨(h.pairwise_iff (fun hxy => Ne.symm hxy)).mp h1, fun q hq => h2 q (h.mem_iff.mpr hq)⟩
theorem sr_at_lt {D : va_G} {cl : List vw_C} {q : Nat × va_E} {H : Heap} (h : va_at D cl q H) : q.1 < H.size := by
  unfold va_at at h
  split at h
  · exact (Array.getElem?_eq_some_iff.mp h).1
  · obtain ⟨r, -, cell, hc, -⟩ := h
    exact (Array.getElem?_eq_some_iff.mp hc).1
theorem sr_A_iff {ws : va_W} {sz q : Nat} : va_A ws sz q ↔ (∃ e, (q, e) ∈ ws) ∨ sz ≤ q := by
  constructor
  · rintro (⟨k, e, hk⟩ | h)
    · exact Or.inl ⟨e, List.mem_of_getElem? hk⟩
    · exact Or.inr h
  · rintro (⟨e, he⟩ | h)
    · obtain ⟨k, hk⟩ := List.mem_iff_getElem?.mp he
      exact Or.inl ⟨k, e, hk⟩
    · exact Or.inr h
/-- the frame: what the callee may write lies in A; the rest of the world stands beside what came back -/
theorem sr_join {D : va_G} {cl : List vw_C} {A : Nat → Prop} {H0 H : Heap} {locs : List Loc} {ws wc w1 ws2 : va_W} (hP : va_P D cl ws H) (hD : va_D A ws) (hS : va_S A H0 H locs) (hA : ∀ q, H0.size ≤ q → A q) (C : sr_cut ws wc w1 ws2) :
    (∀ q, va_A wc H.size q → A q) ∧ va_P D cl wc H ∧ va_D A wc ∧ ∀ H1 : Heap, (∀ q : Nat, q < H.size → ¬ va_A wc H.size q → H1[q]? = H[q]?) → va_P D cl w1 H1 → va_D (va_A wc H.size) w1 → va_P D cl ws2 H1 ∧ va_D A ws2 := by
  obtain ⟨wr, p1, p2⟩ := C
  have hP' := sr_P_iff.mp (sr_P_perm p1 hP)
  have hD' := sr_D_iff.mp (sr_D_perm p1 hD)
  have hF : ∀ q, va_A wc H.size q → A q := by
    intro q hq
    rcases sr_A_iff.mp hq with ⟨e, he⟩ | h
    · exact hD'.2 (q, e) (List.mem_append_left _ he)
    · exact hA q (Nat.le_trans hS.1 h)
  obtain ⟨d1, d2, d3⟩ := List.pairwise_append.mp hD'.1
  refine ⟨hF, sr_P_iff.mpr (fun q hq => hP' q (List.mem_append_left _ hq)), sr_D_iff.mpr ⟨d1, fun q hq => hD'.2 q (List.mem_append_left _ hq)⟩, ?_⟩
  intro H1 hk hP1 hD1
  have hno : ∀ q ∈ wr, ¬ va_A wc H.size q.1 := by
    intro q hq h
    rcases sr_A_iff.mp h with ⟨e, he⟩ | h
    · exact d3 _ he _ hq rfl
    · have := sr_at_lt (hP' q (List.mem_append_right _ hq))
      omega
  have hPr : va_P D cl wr H := sr_P_iff.mpr (fun q hq => hP' q (List.mem_append_right _ hq))
  have hPr1 : va_P D cl wr H1 := hPr.kept (fun k q hkq => hk q.1 (sr_at_lt (hPr k q hkq)) (hno q (List.mem_of_getElem? hkq)))
  have hD1' := sr_D_iff.mp hD1
  refine ⟨sr_P_perm p2.symm (sr_P_iff.mpr (fun q hq => ?_)), sr_D_perm p2.symm (sr_D_iff.mpr ⟨List.pairwise_append.mpr ⟨hD1'.1, d2, ?_⟩, ?_⟩)⟩
  · rcases List.mem_append.mp hq with h | h
    · exact sr_P_iff.mp hP1 q h
    · exact sr_P_iff.mp hPr1 q h
  · intro x hx y hy he
    exact hno y hy (he ▸ hD1'.2 x hx)
  · intro q hq
    rcases List.mem_append.mp hq with h | h
    · exact hF _ (hD1'.2 q h)
    · exact hD'.2 q (List.mem_append_right _ h)
section
variable {p : Program} {l : Launch} {e : Env} {R : Room} {s : State} {m : MethodId} {args : Array Value} {below : List Frame} {meth : Method} {c : Code} {H : Heap} {locs : List Loc} {ls : Array Slot} {D : va_G} {A : Nat → Prop} {tys tysC : List (ClassId × FieldType)} {ws wc w1 ws2 : va_W} {cc : ByteArray} {nL : Nat} {own : String} {Ts : List Cond} {ret : Option FieldType} {Q : State → Prop} {pc : Nat} {rest st0 : List Value} {a : Nat}
theorem sr_nm {x w : Int32} {cells slots : Nat} (e1 : some x = some w) (k : W p l e R s m args below meth c H locs cells slots Q (F0 m pc ls (.int w :: rest))) : W p l e R s m args below meth c H locs cells slots Q (F0 m pc ls (.int x :: rest)) := by
  cases e1
  exact k
theorem sr_iald (hx : p.tables.exec = Jvm.exec) (hb : c.code = cc) (hK : va_K D classes tys s) {H0 : Heap} {cells slots : Nat} (Z : sr_Z D A H0 ws H locs) (q0 t0 : Nat) {cA : ClassId} {n : Nat} {f : Nat → Int32} (ha : ws[q0]? = some (a, .inl (cA, n, .inl f))) (ht : tys[t0]? = some (cA, .int)) {i v : Int32} (hv : sr_ald n f i = some v) (hdg : decode cc pc = .ok (.iaload, 1))
    (kk : W p l e R s m args below meth c H locs cells slots Q (F0 m (pc + 1) ls (.int v :: rest))) : W p l e R s m args below meth c H locs cells slots Q (F0 m pc ls (.int i :: .ref a :: rest)) := by
  obtain ⟨hi, rfl⟩ := sr_ald_i hv
  exact va_iald hx hb hK Z.1 q0 t0 ha ht hi hdg kk
theorem sr_zald (hx : p.tables.exec = Jvm.exec) (hb : c.code = cc) (hK : va_K D classes tys s) {H0 : Heap} {cells slots : Nat} (Z : sr_Z D A H0 ws H locs) (q0 t0 : Nat) {cA : ClassId} {n : Nat} {f : Nat → Int32} (ha : ws[q0]? = some (a, .inl (cA, n, .inl f))) (ht : tys[t0]? = some (cA, .boolean)) {i v : Int32} (hv : sr_ald n f i = some v) (hdg : decode cc pc = .ok (.baload, 1))
    (kk : W p l e R s m args below meth c H locs cells slots Q (F0 m (pc + 1) ls (.int v :: rest))) : W p l e R s m args below meth c H locs cells slots Q (F0 m pc ls (.int i :: .ref a :: rest)) := by
  obtain ⟨hi, rfl⟩ := sr_ald_i hv
  exact va_zald hx hb hK Z.1 q0 t0 ha ht hi hdg kk
theorem sr_llald (hx : p.tables.exec = Jvm.exec) (hb : c.code = cc) (hK : va_K D classes tys s) {H0 : Heap} {cells slots : Nat} (Z : sr_Z D A H0 ws H locs) (q0 t0 : Nat) {cA : ClassId} {n : Nat} {f : Nat → Int64} (ha : ws[q0]? = some (a, .inl (cA, n, .inr (.inl f)))) (ht : tys[t0]? = some (cA, .long)) {i : Int32} {v : Int64} (hv : sr_lald n f i = some v) (hdg : decode cc pc = .ok (.laload, 1))
    (kk : W p l e R s m args below meth c H locs cells slots Q (F0 m (pc + 1) ls (.long v :: rest))) : W p l e R s m args below meth c H locs cells slots Q (F0 m pc ls (.int i :: .ref a :: rest)) := by
  obtain ⟨hi, rfl⟩ := sr_lald_i hv
  exact va_lald hx hb hK Z.1 q0 t0 ha ht hi hdg kk
theorem sr_iast {wf : St → va_W} (hx : p.tables.exec = Jvm.exec) (hb : c.code = cc) (hK : va_K D classes tys s) {H0 : Heap} {cells slots : Nat} (Z : sr_Z D A H0 ws H locs) (q0 t0 : Nat) {cA : ClassId} {n k : Nat} {u u' : St} (ha : ws[q0]? = some (a, .inl (cA, n, .inl (u k)))) (ht : tys[t0]? = some (cA, .int)) {i v : Int32} (hv : sr_ast n u k i v = some u') (hw : ∀ j, ws.set q0 (a, .inl (cA, n, .inl (upd (u k) j v))) = wf (sr_up u k j v)) (hdg : decode cc pc = .ok (.iastore, 1))
    (kk : ∀ (H : Heap) (locs : List Loc), sr_Z D A H0 (wf u') H locs → W p l e R s m args below meth c H locs cells slots Q (F0 m (pc + 1) ls rest)) : W p l e R s m args below meth c H locs cells slots Q (F0 m pc ls (.int v :: .int i :: .ref a :: rest)) := by
  obtain ⟨hi, rfl⟩ := sr_ast_i hv
  refine va_iast hx hb hK Z.1 Z.2.1 Z.2.2 q0 t0 ha ht hi hdg (fun H1 locs1 hP hD hS => kk H1 locs1 ?_)
  rw [hw] at hP hD
  exact ⟨hP, hD, hS⟩
theorem sr_zast {wf : St → va_W} (hx : p.tables.exec = Jvm.exec) (hb : c.code = cc) (hK : va_K D classes tys s) {H0 : Heap} {cells slots : Nat} (Z : sr_Z D A H0 ws H locs) (q0 t0 : Nat) {cA : ClassId} {n k : Nat} {u u' : St} (ha : ws[q0]? = some (a, .inl (cA, n, .inl (u k)))) (ht : tys[t0]? = some (cA, .boolean)) {i v : Int32} (hnar : vp_nar .boolean v = v) (hv : sr_ast n u k i v = some u') (hw : ∀ j, ws.set q0 (a, .inl (cA, n, .inl (upd (u k) j v))) = wf (sr_up u k j v)) (hdg : decode cc pc = .ok (.bastore, 1))
    (kk : ∀ (H : Heap) (locs : List Loc), sr_Z D A H0 (wf u') H locs → W p l e R s m args below meth c H locs cells slots Q (F0 m (pc + 1) ls rest)) : W p l e R s m args below meth c H locs cells slots Q (F0 m pc ls (.int v :: .int i :: .ref a :: rest)) := by
  obtain ⟨hi, rfl⟩ := sr_ast_i hv
  refine va_zast hx hb hK Z.1 Z.2.1 Z.2.2 q0 t0 ha ht hi hdg (fun H1 locs1 hP hD hS => kk H1 locs1 ?_)
  rw [hnar, hw] at hP hD
  exact ⟨hP, hD, hS⟩
theorem sr_llast {wf : (Nat → Int64) → va_W} (hx : p.tables.exec = Jvm.exec) (hb : c.code = cc) (hK : va_K D classes tys s) {H0 : Heap} {cells slots : Nat} (Z : sr_Z D A H0 ws H locs) (q0 t0 : Nat) {cA : ClassId} {n : Nat} {u u' : Nat → Int64} (ha : ws[q0]? = some (a, .inl (cA, n, .inr (.inl u)))) (ht : tys[t0]? = some (cA, .long)) {i : Int32} {v : Int64} (hv : sr_last n u i v = some u') (hw : ∀ j, ws.set q0 (a, .inl (cA, n, .inr (.inl (vp_updL u j v)))) = wf (vp_updL u j v)) (hdg : decode cc pc = .ok (.lastore, 1))
    (kk : ∀ (H : Heap) (locs : List Loc), sr_Z D A H0 (wf u') H locs → W p l e R s m args below meth c H locs cells slots Q (F0 m (pc + 1) ls rest)) : W p l e R s m args below meth c H locs cells slots Q (F0 m pc ls (.long v :: .int i :: .ref a :: rest)) := by
  obtain ⟨hi, rfl⟩ := sr_last_i hv
  refine va_last hx hb hK Z.1 Z.2.1 Z.2.2 q0 t0 ha ht hi hdg (fun H1 locs1 hP hD hS => kk H1 locs1 ?_)
  rw [hw] at hP hD
  exact ⟨hP, hD, hS⟩
theorem sr_reti (X : sr_X D tys cc nL own Ts p s m args meth c A (some .int)) (Z : sr_Z D A s.heap ws H locs) {v : Int32} (d : decode cc pc = .ok (.ireturn, 1)) : W p l e R s m args below meth c H locs 0 0 (sr_Qi D tys below args s A ws v) (F0 m pc ls [.int v]) :=
  W.iret X.1 X.2.1 X.2.2.2.2.2.2.2.2 (fun t ht hW => ⟨⟨v, (), rfl, rfl, by rw [ht]; exact Z.1, va_K.moved hW.alike X.2.2.2.2.2.2.1, Z.2.1⟩, Z.2.2.F ht⟩) Z.2.2.2.2 d X.2.2.2.2.1
theorem sr_retz (X : sr_X D tys cc nL own Ts p s m args meth c A (some .boolean)) (Z : sr_Z D A s.heap ws H locs) {v : Int32} (hn : narrow .boolean (.int v) = .int v) (d : decode cc pc = .ok (.ireturn, 1)) : W p l e R s m args below meth c H locs 0 0 (sr_Qi D tys below args s A ws v) (F0 m pc ls [.int v]) :=
  W.zret X.1 X.2.1 X.2.2.2.2.2.2.2.2 hn (fun t ht hW => ⟨⟨v, (), rfl, rfl, by rw [ht]; exact Z.1, va_K.moved hW.alike X.2.2.2.2.2.2.1, Z.2.1⟩, Z.2.2.F ht⟩) Z.2.2.2.2 d X.2.2.2.2.1
theorem sr_retl (X : sr_X D tys cc nL own Ts p s m args meth c A (some .long)) (Z : sr_Z D A s.heap ws H locs) {v : Int64} (d : decode cc pc = .ok (.lreturn, 1)) : W p l e R s m args below meth c H locs 0 0 (sr_Ql D tys below args s A ws v) (F0 m pc ls [.long v]) :=
  W.lret X.1 X.2.1 X.2.2.2.2.2.2.2.2 (fun t ht hW => ⟨⟨v, (), rfl, rfl, by rw [ht]; exact Z.1, va_K.moved hW.alike X.2.2.2.2.2.2.1, Z.2.1⟩, Z.2.2.F ht⟩) Z.2.2.2.2 d X.2.2.2.2.1
theorem sr_retv (X : sr_X D tys cc nL own Ts p s m args meth c A none) (Z : sr_Z D A s.heap ws H locs) (d : decode cc pc = .ok (.return_, 1)) : W p l e R s m args below meth c H locs 0 0 (sr_Qv D tys below args s A ws) (F0 m pc ls []) :=
  W.vret X.1 X.2.1 X.2.2.2.2.2.2.2.2 (fun t ht hW => ⟨⟨(), rfl, trivial, by rw [ht]; exact Z.1, va_K.moved hW.alike X.2.2.2.2.2.2.1, Z.2.1⟩, Z.2.2.F ht⟩) Z.2.2.2.2 d X.2.2.2.2.1
/-- a callee's start out of the caller's world -/
theorem sr_pre {av : List Value} (K : va_K D classes tysC s) (Pw : va_P D classes wc H) (Dw : va_D A wc) : FrameBlind (sr_Pc D wc tysC H.size av) ∧ ∀ U : State, U.heap = H → s.WarmedH U.vm → sr_Pc D wc tysC H.size av av.toArray U :=
  ⟨fun a U g mk q => by obtain ⟨q0, q1, qP, qK, qD⟩ := q; exact ⟨q0, q1, qP, va_K.moved (u := U) (U := U.calling g mk a) (Vm.Alike.refl U.vm) qK, qD⟩, fun U hU hW => ⟨rfl, by rw [hU], by rw [hU]; exact Pw, va_K.moved hW.alike K, Dw.weaken (fun _ _ _ _ => trivial)⟩⟩
theorem sr_goi {st : Array Value} {r : Int32} (X : sr_X D tys cc nL own Ts p s m args meth c A ret) (Z : sr_Z D A s.heap ws H locs) (C : sr_cut ws wc w1 ws2) (hr : va_Run p l e R s m args below meth c H locs 0 0 0 0 (F0 m pc ls st0) rest (sr_Ri D tysC (va_A wc H.size) w1 r st) (va_A wc H.size))
    (kk : ∀ (H : Heap) (locs : List Loc), sr_Z D A s.heap ws2 H locs → W p l e R s m args below meth c H locs 0 0 Q (F0 m (pc + 3) ls (.int r :: rest))) : W p l e R s m args below meth c H locs 0 0 Q (F0 m pc ls st0) := by
  obtain ⟨hF, -, -, hj⟩ := sr_join Z.1 Z.2.1 Z.2.2 X.2.2.2.2.2.2.2.1 C
  refine va_calli hr Z.2.2 (fun q _ h => hF q h) hF (fun r' u t H1 locs1 ht hvm hw hB hz1 hk1 hS1 => ?_)
  obtain ⟨hP1, hK1, hD1⟩ := hB
  rw [ht] at hP1
  cases hw
  obtain ⟨hP2, hD2⟩ := hj H1 hk1 hP1 hD1
  exact kk H1 locs1 ⟨hP2, hD2, hS1⟩
theorem sr_gol {st : Array Value} {r : Int64} (X : sr_X D tys cc nL own Ts p s m args meth c A ret) (Z : sr_Z D A s.heap ws H locs) (C : sr_cut ws wc w1 ws2) (hr : va_Run p l e R s m args below meth c H locs 0 0 0 0 (F0 m pc ls st0) rest (sr_Rl D tysC (va_A wc H.size) w1 r st) (va_A wc H.size))
    (kk : ∀ (H : Heap) (locs : List Loc), sr_Z D A s.heap ws2 H locs → W p l e R s m args below meth c H locs 0 0 Q (F0 m (pc + 3) ls (.long r :: rest))) : W p l e R s m args below meth c H locs 0 0 Q (F0 m pc ls st0) := by
  obtain ⟨hF, -, -, hj⟩ := sr_join Z.1 Z.2.1 Z.2.2 X.2.2.2.2.2.2.2.1 C
  refine va_calll hr Z.2.2 (fun q _ h => hF q h) hF (fun r' u t H1 locs1 ht hvm hw hB hz1 hk1 hS1 => ?_)
  obtain ⟨hP1, hK1, hD1⟩ := hB
  rw [ht] at hP1
  cases hw
  obtain ⟨hP2, hD2⟩ := hj H1 hk1 hP1 hD1
  exact kk H1 locs1 ⟨hP2, hD2, hS1⟩
theorem sr_gov {st : Array Value} (X : sr_X D tys cc nL own Ts p s m args meth c A ret) (Z : sr_Z D A s.heap ws H locs) (C : sr_cut ws wc w1 ws2) (hr : va_Run p l e R s m args below meth c H locs 0 0 0 0 (F0 m pc ls st0) rest (sr_Rv D tysC (va_A wc H.size) w1 st) (va_A wc H.size))
    (kk : ∀ (H : Heap) (locs : List Loc), sr_Z D A s.heap ws2 H locs → W p l e R s m args below meth c H locs 0 0 Q (F0 m (pc + 3) ls rest)) : W p l e R s m args below meth c H locs 0 0 Q (F0 m pc ls st0) := by
  obtain ⟨hF, -, -, hj⟩ := sr_join Z.1 Z.2.1 Z.2.2 X.2.2.2.2.2.2.2.1 C
  refine va_callv hr Z.2.2 (fun q _ h => hF q h) hF (fun u t H1 locs1 ht hvm hw hB hz1 hk1 hS1 => ?_)
  obtain ⟨hP1, hK1, hD1⟩ := hB
  rw [ht] at hP1
  obtain ⟨hP2, hD2⟩ := hj H1 hk1 hP1 hD1
  exact kk H1 locs1 ⟨hP2, hD2, hS1⟩
theorem sr_cVi {As : List Value} {r : Int32} {b : Nat} {y : MethodName} {bytes : ByteArray} {maxL n index : Nat} {rt : Option FieldType} {rm : Room} {Cn : String} {F : u_T} {N ci : Nat} {x0 : Cond} {fs : List Value} {lv : List (Nat × Value)} {wy : List Cond} (X : sr_X D tys cc nL own (x0 :: sr_T) p s m args meth c A ret) (Z : sr_Z D A s.heap ws H locs) (C : sr_cut ws wc w1 ws2) (Kc : va_K D classes tysC s) (hM : sr_Ci l y wy rm D tysC wc w1 H.size (.ref b :: As) r) (cw : CallW R s args own Cn index y bytes maxL rt wy rm 0 0 n) (q0 : Nat) (he : ws[q0]? = some (b, .inr (ci, fs))) (hc : classes[ci]? = some (Cn, F, N)) (hn : As.length = n) (hl : lv_has ls nL lv) (hst : st0 = As.reverse ++ .ref b :: rest) (hW : (rest.map fun v => v.category).sum ≤ 8) (hdg : decode cc pc = .ok (.invokevirtual index, 3))
    (kk : ∀ (H : Heap) (locs : List Loc), sr_Z D A s.heap ws2 H locs → W p l e R s m args below meth c H locs 0 0 Q (F0 m (pc + 3) ls (.int r :: rest))) : W p l e R s m args below meth c H locs 0 0 Q (F0 m pc ls st0) := by
  obtain ⟨-, hPc, hDc, -⟩ := sr_join Z.1 Z.2.1 Z.2.2 X.2.2.2.2.2.2.2.1 C
  have pr := sr_pre (av := .ref b :: As) Kc hPc hDc
  exact sr_goi X Z C (va_runV ⟨X.1, X.2.1, X.2.2.1, X.2.2.2.1, X.2.2.2.2.2.1⟩ hM cw ⟨pr.1, va_recv X.2.2.2.2.2.2.1 Z.1 hc he, pr.2⟩ rfl hn hl.1 hst (lv_room hW) hdg ⟨Nat.zero_le _, Nat.zero_le _⟩) kk
theorem sr_cSi {As : List Value} {r : Int32} {y : MethodName} {bytes : ByteArray} {maxL n index : Nat} {rt : Option FieldType} {rm : Room} {x0 : Cond} {lv : List (Nat × Value)} {wy : List Cond} (X : sr_X D tys cc nL own (x0 :: sr_T) p s m args meth c A ret) (Z : sr_Z D A s.heap ws H locs) (C : sr_cut ws wc w1 ws2) (Kc : va_K D classes tysC s) (hM : sr_Ci l y wy rm D tysC wc w1 H.size As r) (cw : CallB R s args own index y bytes maxL rt wy rm 0 0 n ∧ (Cond.static y).before args s = true) (hn : As.length = n) (hl : lv_has ls nL lv) (hst : st0 = As.reverse ++ rest) (hW : (rest.map fun v => v.category).sum ≤ 8) (hdg : decode cc pc = .ok (.invokestatic index, 3))
    (kk : ∀ (H : Heap) (locs : List Loc), sr_Z D A s.heap ws2 H locs → W p l e R s m args below meth c H locs 0 0 Q (F0 m (pc + 3) ls (.int r :: rest))) : W p l e R s m args below meth c H locs 0 0 Q (F0 m pc ls st0) := by
  obtain ⟨-, hPc, hDc, -⟩ := sr_join Z.1 Z.2.1 Z.2.2 X.2.2.2.2.2.2.2.1 C
  have pr := sr_pre (av := As) Kc hPc hDc
  exact sr_goi X Z C (va_runS ⟨X.1, X.2.1, X.2.2.1, X.2.2.2.1, X.2.2.2.2.2.1⟩ hM cw pr rfl hn hl.1 hst (lv_room hW) hdg ⟨Nat.zero_le _, Nat.zero_le _⟩) kk
theorem sr_cVl {As : List Value} {r : Int64} {b : Nat} {y : MethodName} {bytes : ByteArray} {maxL n index : Nat} {rt : Option FieldType} {rm : Room} {Cn : String} {F : u_T} {N ci : Nat} {x0 : Cond} {fs : List Value} {lv : List (Nat × Value)} {wy : List Cond} (X : sr_X D tys cc nL own (x0 :: sr_T) p s m args meth c A ret) (Z : sr_Z D A s.heap ws H locs) (C : sr_cut ws wc w1 ws2) (Kc : va_K D classes tysC s) (hM : sr_Cl l y wy rm D tysC wc w1 H.size (.ref b :: As) r) (cw : CallW R s args own Cn index y bytes maxL rt wy rm 0 0 n) (q0 : Nat) (he : ws[q0]? = some (b, .inr (ci, fs))) (hc : classes[ci]? = some (Cn, F, N)) (hn : As.length = n) (hl : lv_has ls nL lv) (hst : st0 = As.reverse ++ .ref b :: rest) (hW : (rest.map fun v => v.category).sum ≤ 8) (hdg : decode cc pc = .ok (.invokevirtual index, 3))
    (kk : ∀ (H : Heap) (locs : List Loc), sr_Z D A s.heap ws2 H locs → W p l e R s m args below meth c H locs 0 0 Q (F0 m (pc + 3) ls (.long r :: rest))) : W p l e R s m args below meth c H locs 0 0 Q (F0 m pc ls st0) := by
  obtain ⟨-, hPc, hDc, -⟩ := sr_join Z.1 Z.2.1 Z.2.2 X.2.2.2.2.2.2.2.1 C
  have pr := sr_pre (av := .ref b :: As) Kc hPc hDc
  exact sr_gol X Z C (va_runV ⟨X.1, X.2.1, X.2.2.1, X.2.2.2.1, X.2.2.2.2.2.1⟩ hM cw ⟨pr.1, va_recv X.2.2.2.2.2.2.1 Z.1 hc he, pr.2⟩ rfl hn hl.1 hst (lv_room hW) hdg ⟨Nat.zero_le _, Nat.zero_le _⟩) kk
theorem sr_cSl {As : List Value} {r : Int64} {y : MethodName} {bytes : ByteArray} {maxL n index : Nat} {rt : Option FieldType} {rm : Room} {x0 : Cond} {lv : List (Nat × Value)} {wy : List Cond} (X : sr_X D tys cc nL own (x0 :: sr_T) p s m args meth c A ret) (Z : sr_Z D A s.heap ws H locs) (C : sr_cut ws wc w1 ws2) (Kc : va_K D classes tysC s) (hM : sr_Cl l y wy rm D tysC wc w1 H.size As r) (cw : CallB R s args own index y bytes maxL rt wy rm 0 0 n ∧ (Cond.static y).before args s = true) (hn : As.length = n) (hl : lv_has ls nL lv) (hst : st0 = As.reverse ++ rest) (hW : (rest.map fun v => v.category).sum ≤ 8) (hdg : decode cc pc = .ok (.invokestatic index, 3))
    (kk : ∀ (H : Heap) (locs : List Loc), sr_Z D A s.heap ws2 H locs → W p l e R s m args below meth c H locs 0 0 Q (F0 m (pc + 3) ls (.long r :: rest))) : W p l e R s m args below meth c H locs 0 0 Q (F0 m pc ls st0) := by
  obtain ⟨-, hPc, hDc, -⟩ := sr_join Z.1 Z.2.1 Z.2.2 X.2.2.2.2.2.2.2.1 C
  have pr := sr_pre (av := As) Kc hPc hDc
  exact sr_gol X Z C (va_runS ⟨X.1, X.2.1, X.2.2.1, X.2.2.2.1, X.2.2.2.2.2.1⟩ hM cw pr rfl hn hl.1 hst (lv_room hW) hdg ⟨Nat.zero_le _, Nat.zero_le _⟩) kk
theorem sr_cVv {As : List Value} {b : Nat} {y : MethodName} {bytes : ByteArray} {maxL n index : Nat} {rt : Option FieldType} {rm : Room} {Cn : String} {F : u_T} {N ci : Nat} {x0 : Cond} {fs : List Value} {lv : List (Nat × Value)} {wy : List Cond} (X : sr_X D tys cc nL own (x0 :: sr_T) p s m args meth c A ret) (Z : sr_Z D A s.heap ws H locs) (C : sr_cut ws wc w1 ws2) (Kc : va_K D classes tysC s) (hM : sr_Cv l y wy rm D tysC wc w1 H.size (.ref b :: As)) (cw : CallW R s args own Cn index y bytes maxL rt wy rm 0 0 n) (q0 : Nat) (he : ws[q0]? = some (b, .inr (ci, fs))) (hc : classes[ci]? = some (Cn, F, N)) (hn : As.length = n) (hl : lv_has ls nL lv) (hst : st0 = As.reverse ++ .ref b :: rest) (hW : (rest.map fun v => v.category).sum ≤ 8) (hdg : decode cc pc = .ok (.invokevirtual index, 3))
    (kk : ∀ (H : Heap) (locs : List Loc), sr_Z D A s.heap ws2 H locs → W p l e R s m args below meth c H locs 0 0 Q (F0 m (pc + 3) ls (rest))) : W p l e R s m args below meth c H locs 0 0 Q (F0 m pc ls st0) := by
  obtain ⟨-, hPc, hDc, -⟩ := sr_join Z.1 Z.2.1 Z.2.2 X.2.2.2.2.2.2.2.1 C
  have pr := sr_pre (av := .ref b :: As) Kc hPc hDc
  exact sr_gov X Z C (va_runV ⟨X.1, X.2.1, X.2.2.1, X.2.2.2.1, X.2.2.2.2.2.1⟩ hM cw ⟨pr.1, va_recv X.2.2.2.2.2.2.1 Z.1 hc he, pr.2⟩ rfl hn hl.1 hst (lv_room hW) hdg ⟨Nat.zero_le _, Nat.zero_le _⟩) kk
theorem sr_cSv {As : List Value} {y : MethodName} {bytes : ByteArray} {maxL n index : Nat} {rt : Option FieldType} {rm : Room} {x0 : Cond} {lv : List (Nat × Value)} {wy : List Cond} (X : sr_X D tys cc nL own (x0 :: sr_T) p s m args meth c A ret) (Z : sr_Z D A s.heap ws H locs) (C : sr_cut ws wc w1 ws2) (Kc : va_K D classes tysC s) (hM : sr_Cv l y wy rm D tysC wc w1 H.size As) (cw : CallB R s args own index y bytes maxL rt wy rm 0 0 n ∧ (Cond.static y).before args s = true) (hn : As.length = n) (hl : lv_has ls nL lv) (hst : st0 = As.reverse ++ rest) (hW : (rest.map fun v => v.category).sum ≤ 8) (hdg : decode cc pc = .ok (.invokestatic index, 3))
    (kk : ∀ (H : Heap) (locs : List Loc), sr_Z D A s.heap ws2 H locs → W p l e R s m args below meth c H locs 0 0 Q (F0 m (pc + 3) ls (rest))) : W p l e R s m args below meth c H locs 0 0 Q (F0 m pc ls st0) := by
  obtain ⟨-, hPc, hDc, -⟩ := sr_join Z.1 Z.2.1 Z.2.2 X.2.2.2.2.2.2.2.1 C
  have pr := sr_pre (av := As) Kc hPc hDc
  exact sr_gov X Z C (va_runS ⟨X.1, X.2.1, X.2.2.1, X.2.2.2.1, X.2.2.2.2.2.1⟩ hM cw pr rfl hn hl.1 hst (lv_room hW) hdg ⟨Nat.zero_le _, Nat.zero_le _⟩) kk
end
theorem sr_gq {x0 w : Cond} (h : w ∈ sr_T) : w ∈ (x0 :: sr_T) ∧ ((w.onTables && w.keeps) = true ∨ ∃ ty, w = .arrayClass ty) :=
  ⟨List.mem_cons_of_mem _ h, good_of_word (List.mem_filter.mp h).2⟩
theorem sr_gV {x0 cd : Cond} {own C : String} {idx : Nat} {y : MethodName} (h1 : .methodLink own idx y ∈ sr_T) (h2 : .instanceMethod y ∈ sr_T) (h3 : .selects C y y ∈ sr_T) (h4 : .initialized C ∈ sr_T) (h5 : cd ∈ sr_T) : GoodIn (x0 :: sr_T) (wsV own idx C y (cd :: sr_T)) := by
  intro w hw
  refine sr_gq ?_
  simp only [wsV, List.cons_append, List.nil_append, List.mem_cons] at hw
  rcases hw with rfl | rfl | rfl | rfl | rfl | h
  · exact h1
  · exact h2
  · exact h3
  · exact h4
  · exact h5
  · exact h
theorem sr_gS {x0 cd : Cond} {own : String} {idx : Nat} {y : MethodName} (h1 : .methodLink own idx y ∈ sr_T) (h2 : .static y ∈ sr_T) (h4 : .initialized y.cls ∈ sr_T) (h5 : cd ∈ sr_T) : GoodIn (x0 :: sr_T) (va_wsS own idx y (cd :: sr_T)) := by
  intro w hw
  refine sr_gq ?_
  simp only [va_wsS, List.cons_append, List.nil_append, List.mem_cons] at hw
  rcases hw with rfl | rfl | rfl | rfl | h
  · exact h1
  · exact h2
  · exact h4
  · exact h5
  · exact h
