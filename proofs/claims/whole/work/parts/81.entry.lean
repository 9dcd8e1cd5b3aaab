
/-! LAW 2: what the tables say of the clss at the law's entry -/
theorem lw_D {s : State} {args : Array Value} (hT : ∀ w ∈ sr_T, w.before args s = true) : ∃ D : va_G, va_K D classes [] s := by
  have one : ∀ {C : String} {T : u_T} {N : Nat}, (∀ w ∈ u_ws C T N, w ∈ sr_T) → (.instantiable C N : Cond) ∈ sr_T → ∃ (cC : ClassId) (iS : Nat → Nat), u_Kn s C T N cC iS := fun hin hi => u_known hT hin (hT _ hi)
  have H : ∀ c : Nat, ∃ (cC : ClassId) (iS : Nat → Nat), ∀ q : vw_C, classes[c]? = some q → u_Kn s q.1 q.2.1 q.2.2 cC iS := by
    intro c
    have mk : ∀ q0 : vw_C, classes[c]? = some q0 → (∃ (cC : ClassId) (iS : Nat → Nat), u_Kn s q0.1 q0.2.1 q0.2.2 cC iS) → ∃ (cC : ClassId) (iS : Nat → Nat), ∀ q : vw_C, classes[c]? = some q → u_Kn s q.1 q.2.1 q.2.2 cC iS := by
      intro q0 h0 ⟨cC, iS, h⟩
      refine ⟨cC, iS, fun q hq => ?_⟩
      cases h0.symm.trans hq
      exact h
    match c with
    | 0 => exact mk _ rfl (one hin_S q_14)
    | 1 => exact mk _ rfl (one hin_P q_22)
    | 2 => exact mk _ rfl (one hin_R q_108)
    | 3 => exact mk _ rfl (one hin_I q_323)
    | 4 => exact mk _ rfl (one hin_V q_453)
    | 5 => exact mk _ rfl (one hin_L q_473)
    | 6 => exact mk _ rfl (one hin_E q_372)
    | 7 => exact mk _ rfl (one hin_G q_507)
    | 8 => exact mk _ rfl (one hin_M q_731)
    | n + 9 => exact ⟨0, fun _ => 0, fun q hq => by cases hq⟩
  exact ⟨(fun c => Classical.choose (H c), fun c => Classical.choose (Classical.choose_spec (H c))), fun c q hq => Classical.choose_spec (Classical.choose_spec (H c)) q hq, fun k q hk => by cases hk⟩
theorem lw_NW {s : State} {args : Array Value} (hts0 : ∀ w ∈ lw_tbl, w.before args s = true) : NW s :=
  ⟨va_Nw.of rfl (hts0 _ (List.mem_append_right _ (List.mem_of_getElem? (i := 23) (by decide +kernel)))), va_Nw.of rfl (hts0 _ (List.mem_append_right _ (List.mem_of_getElem? (i := 487) (by decide +kernel)))), va_Nw.of rfl (hts0 _ (List.mem_append_right _ (List.mem_of_getElem? (i := 508) (by decide +kernel)))), va_AO.of (hts0 _ (List.mem_append_right _ (List.mem_of_getElem? (i := 122) (by decide +kernel))))⟩
theorem fO_0 (O : Nat → Nat → Nat) : fO O 0 = fun _ => none := funext fun k => if_neg (Nat.not_lt_zero k)
section
variable {p : Program} {l : Launch} {e : Env} {s : State} {m : MethodId} {args : Array Value} {below : List Frame} {meth : Method} {c : Code} {A : Nat → Prop} {Q : State → Prop} {x0 : Cond} {sb L0 : Nat} {xs : Nat → Int32} {D : va_G} {ls : Array Slot}
set_option maxHeartbeats 4000000 in
set_option maxRecDepth 100000 in
theorem lw_entry (F : LF p s m args c A x0 sb L0 xs) (hNW : NW s) (hL0 : L0 ≤ 3072) (hK : va_K D classes [] s) (hl : lv_has ls 4 [(0, .ref sb)]) (fin : ∀ (N : Nat) (H : Heap) (locs : List Loc) (ls : Array Slot), N ≤ 8 → va_S A s.heap H locs → W p l e room_1 s m args below meth c H locs (47 + 16 * N) (2476 + 247 * N) Q (F0 m 703 ls [])) : W p l e room_1 s m args below meth c s.heap [] 0 0 Q (F0 m 0 ls []) := by
  have F0' := F
  obtain ⟨hx, hb, hml, hown, hts, hA, hX, hbl, hbA⟩ := F
  have hP : va_P D classes [] s.heap := fun k q h => by cases h
  have hD : va_D A [] := ⟨fun i j p q h => (by cases h), fun k q h => by cases h⟩
  have hS : va_S A s.heap s.heap [] := va_S.rf
  refine va_new (ci := ci_S) (fs := [.null, .null, .null, .int 0, .int 0]) (C := R_S) (T := F_S) (N := 5) hx hb hts (fun w hw => List.mem_cons_of_mem _ (hin_S w hw)) t_S t_S_ok hown (hts _ (List.mem_cons_of_mem _ q_13)) (hts _ (List.mem_cons_of_mem _ q_14)) (hts _ (List.mem_cons_of_mem _ q_1)) hK hP hD hS hA rfl dv_S (Nat.le_of_ble_eq_true rfl) (Nat.le_of_ble_eq_true rfl) d_W_law_0 (fun q1 H hP hD hS => ?_)
  refine W.widen (k := 1) (n := 5) (Nat.le_of_ble_eq_true rfl) (Nat.le_of_ble_eq_true rfl) ?_
  refine lv_dup hx hb d_W_law_3 rfl ?_
  have Z : sr_Z D A s.heap [(q1, .inr (ci_S, [.null, .null, .null, .int 0, .int 0]))] H _ := ⟨hP, hD, hS⟩
  refine sr_cIM (As := []) (rest := [.ref q1]) (wc := [(q1, .inr (ci_S, [.null, .null, .null, .int 0, .int 0]))]) (wr := []) (cells := 1) (slots := 5) hNW ⟨hx, hb, hml, hown, hts⟩ hA Z (List.Perm.refl _) hK (c_S_init l D q1 H.size) (cwI 0 hts (sr_gI rfl q_17) rfl rfl rfl (hts _ (List.mem_cons_of_mem _ q_1)) (hts _ (List.mem_cons_of_mem _ q_15)) (hts _ (List.mem_cons_of_mem _ q_16)) rfl ⟨by decide, by decide, by decide +kernel⟩ ⟨Nat.le_of_ble_eq_true rfl, Nat.le_of_ble_eq_true rfl⟩) rfl hl rfl (Nat.le_of_ble_eq_true rfl) d_W_law_4 ⟨Nat.le_of_ble_eq_true rfl, Nat.le_of_ble_eq_true rfl⟩ (fun u H locs hu hK1 Z9 => ?_)
  refine W.widen (k := 19) (n := 383) (Nat.le_of_ble_eq_true rfl) (Nat.le_of_ble_eq_true rfl) ?_
  rw [List.append_nil] at Z9
  obtain ⟨hP, hD, hS⟩ := Z9
  refine lv_astore_n (lv' := [(1, .ref q1), (0, .ref sb)]) hx hb d_W_law_7 rfl hl (by decide) rfl (fun ls hl => ?_)
  refine va_new (ci := ci_M) (fs := [.int 0, .null, .null, .null, .null, .null, .null, .int 0, .null, .null, .null, .null, .int 0, .int 0, .null, .int 0, .int 0, .null, .null, .null, .null, .null, .null, .null, .null, .null, .null, .null, .null, .null, .null, .null, .null, .int 0, .int 0, .int 0, .int 0]) (C := R_M) (T := F_M) (N := 37) hx hb hts (fun w hw => List.mem_cons_of_mem _ (hin_M w hw)) t_M t_M_ok hown (hts _ (List.mem_cons_of_mem _ q_730)) (hts _ (List.mem_cons_of_mem _ q_731)) (hts _ (List.mem_cons_of_mem _ q_4)) hK hP hD hS hA rfl dv_M (Nat.le_of_ble_eq_true rfl) (Nat.le_of_ble_eq_true rfl) d_W_law_8 (fun q2 H hP hD hS => ?_)
  refine W.widen (k := 20) (n := 420) (Nat.le_of_ble_eq_true rfl) (Nat.le_of_ble_eq_true rfl) ?_
  refine lv_dup hx hb d_W_law_11 rfl ?_
  refine sr_cI (As := []) (rest := [.ref q2]) (wc := [(q2, .inr (ci_M, [.int 0, .null, .null, .null, .null, .null, .null, .int 0, .null, .null, .null, .null, .int 0, .int 0, .null, .int 0, .int 0, .null, .null, .null, .null, .null, .null, .null, .null, .null, .null, .null, .null, .null, .null, .null, .null, .int 0, .int 0, .int 0, .int 0]))]) (wr := wN (fun k => match k with | 0 => q1 | _ => u.1 100) (u.2 100) u.1 u.2 (fun k => u.1 (50 + k)) (fun k => u.2 (50 + k)) (fun _ => none) [] z0 z0 (fun _ => 0)) (cells := 20) (slots := 420) ⟨hx, hb, hml, hown, hts⟩ hA ⟨hP, hD, hS⟩ sr_pc hK (c_M_init l D q2 H.size) (cwI 0 hts (sr_gI rfl q_734) rfl rfl rfl (hts _ (List.mem_cons_of_mem _ q_4)) (hts _ (List.mem_cons_of_mem _ q_732)) (hts _ (List.mem_cons_of_mem _ q_733)) rfl ⟨by decide, by decide, by decide +kernel⟩ ⟨Nat.le_of_ble_eq_true rfl, Nat.le_of_ble_eq_true rfl⟩) rfl hl rfl (Nat.le_of_ble_eq_true rfl) d_W_law_12 ⟨Nat.le_of_ble_eq_true rfl, Nat.le_of_ble_eq_true rfl⟩ (fun v H locs hv hK2 Z => ?_)
  refine W.widen (k := 47) (n := 2476) (Nat.le_of_ble_eq_true rfl) (Nat.le_of_ble_eq_true rfl) ?_
  obtain rfl : v.1 0 = q2 := hv
  refine lv_astore_n (lv' := [(2, .ref (v.1 0)), (1, .ref q1), (0, .ref sb)]) hx hb d_W_law_15 rfl hl (by decide) rfl (fun ls hl => ?_)
  refine lv_iconst (v := 0) hx hb d_W_law_16 (by decide) ?_
  refine lv_istore_n (lv' := [(3, .int 0), (2, .ref (v.1 0)), (1, .ref q1), (0, .ref sb)]) hx hb d_W_law_17 rfl hl (by decide) rfl (fun ls hl => ?_)
  have hLI : LI D (fun k => match k with | 0 => q1 | _ => u.1 100) (u.2 100) u.1 u.2 (fun k => u.1 (50 + k)) (fun k => u.2 (50 + k)) v.1 v.2 s (wM v.1 v.2 z0 ++ wN (fun k => match k with | 0 => q1 | _ => u.1 100) (u.2 100) u.1 u.2 (fun k => u.1 (50 + k)) (fun k => u.2 (50 + k)) (fun _ => none) [] z0 z0 (fun _ => 0)) 0 0 := by
    refine ⟨fun _ _ => 0, fun _ _ => 0, z0, z0, z0, fun _ => 0, fun _ => z0, 0, 0, ?_, GI.start, hK1, fun k hk => absurd hk (Nat.not_lt_zero _), hK2⟩
    unfold wB
    rw [fO_0]
    rfl
  exact lw_loop F0' hNW hL0 fin (L0 / 6) 0 0 0 (Nat.zero_add _) (Nat.zero_le _) hLI Z (lv_sub hl [3, 2, 1, 0] rfl)
end
