theorem d_S_find_0 : decode b_S_find 0 = .ok (.iload_n 1, 1) := by decide +kernel
theorem d_S_find_1 : decode b_S_find 1 = .ok (.ifCond .lt 11, 3) := by decide +kernel
theorem d_S_find_4 : decode b_S_find 4 = .ok (.iload_n 1, 1) := by decide +kernel
theorem d_S_find_5 : decode b_S_find 5 = .ok (.aload_n 0, 1) := by decide +kernel
theorem d_S_find_6 : decode b_S_find 6 = .ok (.getfield 86, 3) := by decide +kernel
theorem d_S_find_9 : decode b_S_find 9 = .ok (.if_icmp .lt 7, 3) := by decide +kernel
theorem d_S_find_12 : decode b_S_find 12 = .ok (.aconst_null, 1) := by decide +kernel
theorem d_S_find_13 : decode b_S_find 13 = .ok (.goto 9, 3) := by decide +kernel
theorem d_S_find_16 : decode b_S_find 16 = .ok (.aload_n 0, 1) := by decide +kernel
theorem d_S_find_17 : decode b_S_find 17 = .ok (.getfield 27, 3) := by decide +kernel
theorem d_S_find_20 : decode b_S_find 20 = .ok (.iload_n 1, 1) := by decide +kernel
theorem d_S_find_21 : decode b_S_find 21 = .ok (.aaload, 1) := by decide +kernel
theorem d_S_find_22 : decode b_S_find 22 = .ok (.areturn, 1) := by decide +kernel
/-! find, by hand -/
set_option maxHeartbeats 4000000 in
set_option maxRecDepth 100000 in
theorem c_S_find {l : Launch} {D : va_G} {g : Nat → Nat} {vs : ClassId} {h : Nat → Nat} {t : Nat → ClassId} {ro : Nat → Nat} {rv : Nat → ClassId} {F : Nat → Option Nat} {Y : va_W} {sz : Nat} {s0 p0 : St} {b0 : Nat → Int64} {x : Int32} {q : Option Nat} (hq : (x < 0 ∨ s0 0 0 ≤ x) ∧ q = none ∨ ¬ x < 0 ∧ ¬ s0 0 0 ≤ x ∧ vp_in x 8 ∧ q = F x.toNatClampNeg) : sr_Cq l y_S_find w_S_find (sr_rm 0 0) D (tNN vs t rv) (wN g vs h t ro rv F Y s0 p0 b0) (wN g vs h t ro rv F Y s0 p0 b0) sz [.ref (g 0), .int x] q := by
  refine Met.ofW (cc := b_S_find) (maxL := 2) (ret := (some (.object "ScopeRunner$Instance"))) (by decide) rfl ?_
  intro p e s m args below meth c s₁ B hml hv
  obtain ⟨rfl, hsz, hP, hK, hD0⟩ := hv
  subst hsz
  have X : sr_X D (tNN vs t rv) b_S_find 2 R_S w_S_find p s m _ meth c (va_A (wN g vs h t ro rv F Y s0 p0 b0) s.heap.size) (some (.object "ScopeRunner$Instance")) := ⟨B.exec, B.bytes, hml, findClass_of_methodNamed B.named, B.notSynchronized, atoms_spec (ws := w_S_find) B.pre, hK, fun q h => Or.inr h, B.returns⟩
  have Z : sr_Z D (va_A (wN g vs h t ro rv F Y s0 p0 b0) s.heap.size) s.heap (wN g vs h t ro rv F Y s0 p0 b0) s.heap [] := ⟨hP, hD0.self, va_S.rf⟩
  have hl := lv_entry ([.ref (g 0), .int x] : List Value) (n := 2) (Nat.le_of_ble_eq_true rfl)
  rw [lg_entry_eq]
  generalize (lg_sl ([.ref (g 0), .int x]) ++ List.replicate (2 - (lg_sl ([.ref (g 0), .int x])).length) Slot.unset).toArray = ls at hl ⊢
  have hl : lv_has ls 2 [(0, .ref (g 0)), (1, .int x)] := hl
  have hx := X.1
  have hb := X.2.1
  have hlocks := X.2.2.2.2.1
  have fin : W p l e (sr_rm 0 0) s m [Value.ref (g 0), Value.int x].toArray below meth c s.heap [] 0 0 (MQ below (sr_Rq D (tNN vs t rv) (va_A (wN g vs h t ro rv F Y s0 p0 b0) s.heap.size) (wN g vs h t ro rv F Y s0 p0 b0) q) [Value.ref (g 0), Value.int x].toArray s 0 0 (va_A (wN g vs h t ro rv F Y s0 p0 b0) s.heap.size)) (F0 m 22 ls [va_rf q]) :=
    W.aret hx hb X.2.2.2.2.2.2.2.2 (Or.inl ⟨_, rfl⟩) (va_rf_or q) (fun t ht hW => ⟨⟨q, (), rfl, rfl, by rw [ht]; exact Z.1, va_K.moved hW.alike hK, Z.2.1⟩, Z.2.2.F ht⟩) Z.2.2.2.2 d_S_find_22
  refine lv_iload_n hx hb d_S_find_0 rfl (lv_at hl 1 rfl) ?_
  refine lv_if_lt (tgt := 12) hx hb d_S_find_1 rfl (fun q1 => ?_) (fun q1 => ?_)
  · have e : q = none := by
      rcases hq with ⟨-, h⟩ | ⟨h, -⟩
      · exact h
      · exact absurd q1 h
    subst e
    refine lv_null hx hb d_S_find_12 ?_
    exact lv_goto (tgt := 22) hx hb d_S_find_13 rfl fin
  refine lv_iload_n hx hb d_S_find_4 rfl (lv_at hl 1 rfl) ?_
  refine lv_aload_n hx hb d_S_find_5 rfl (lv_at hl 0 rfl) ?_
  refine g_S_86_N X Z d_S_find_6 ?_
  refine lv_icmp_lt (tgt := 16) hx hb d_S_find_9 rfl (fun q2 => ?_) (fun q2 => ?_)
  · obtain ⟨hin, e⟩ : vp_in x 8 ∧ q = F x.toNatClampNeg := by
      rcases hq with ⟨h, -⟩ | ⟨-, -, h1, h2⟩
      · rcases h with h | h
        · exact absurd h q1
        · exact absurd q2 (Int32.not_lt.mpr h)
      · exact ⟨h1, h2⟩
    subst e
    refine lv_aload_n hx hb d_S_find_16 rfl (lv_at hl 0 rfl) ?_
    refine g_S_27_N X Z d_S_find_17 ?_
    refine lv_iload_n hx hb d_S_find_20 rfl (lv_at hl 1 rfl) ?_
    exact va_aldq hx hb hK Z.1 1 0 rfl rfl hin d_S_find_21 fin
  · have e : q = none := by
      rcases hq with ⟨-, h⟩ | ⟨-, h, -⟩
      · exact h
      · exact absurd (Int32.not_lt.mp q2) h
    subst e
    refine lv_null hx hb d_S_find_12 ?_
    exact lv_goto (tgt := 22) hx hb d_S_find_13 rfl fin
theorem c_S_find_n {l : Launch} {D : va_G} {g : Nat → Nat} {vs : ClassId} {h : Nat → Nat} {t : Nat → ClassId} {ro : Nat → Nat} {rv : Nat → ClassId} {F : Nat → Option Nat} {Y : va_W} {sz : Nat} {s0 p0 : St} {b0 : Nat → Int64} {x : Int32} {u : Unit} (hf : sr_no (s0 0 0) x = some u) : sr_Cq l y_S_find w_S_find (sr_rm 0 0) D (tNN vs t rv) (wN g vs h t ro rv F Y s0 p0 b0) (wN g vs h t ro rv F Y s0 p0 b0) sz [.ref (g 0), .int x] none :=
  c_S_find (Or.inl ⟨sr_no_i hf, rfl⟩)
theorem c_S_find_j {l : Launch} {D : va_G} {g : Nat → Nat} {vs : ClassId} {h : Nat → Nat} {t : Nat → ClassId} {ro : Nat → Nat} {rv : Nat → ClassId} {F : Nat → Option Nat} {Y : va_W} {o : Nat → Nat} {v : Nat → ClassId} {sz j : Nat} {s0 p0 i0 : St} {b0 : Nat → Int64} {x : Int32} {u : Unit} (hf : sr_yes j (s0 0 0) x = some u) : sr_Cq l y_S_find w_S_find (sr_rm 0 0) D (tNN vs t rv) (wJJ g vs h t ro rv F Y o v j s0 p0 b0 i0) (wJJ g vs h t ro rv F Y o v j s0 p0 b0 i0) sz [.ref (g 0), .int x] (some (o 0)) := by
  obtain ⟨rfl, h1, h2⟩ := sr_yes_i hf
  refine c_S_find (Or.inr ⟨nI_pos (by omega), h2, vp_in_nI h1 (by decide), ?_⟩)
  rw [nI_clamp (by omega)]
  exact (if_pos rfl).symm
theorem d_S_runningWith_0 : decode b_S_runningWith 0 = .ok (.iconst 0, 1) := by decide +kernel
theorem d_S_runningWith_1 : decode b_S_runningWith 1 = .ok (.istore_n 2, 1) := by decide +kernel
theorem d_S_runningWith_2 : decode b_S_runningWith 2 = .ok (.iload_n 2, 1) := by decide +kernel
theorem d_S_runningWith_3 : decode b_S_runningWith 3 = .ok (.aload_n 0, 1) := by decide +kernel
theorem d_S_runningWith_4 : decode b_S_runningWith 4 = .ok (.getfield 86, 3) := by decide +kernel
theorem d_S_runningWith_7 : decode b_S_runningWith 7 = .ok (.if_icmp .ge 36, 3) := by decide +kernel
theorem d_S_runningWith_10 : decode b_S_runningWith 10 = .ok (.aload_n 0, 1) := by decide +kernel
theorem d_S_runningWith_11 : decode b_S_runningWith 11 = .ok (.iload_n 2, 1) := by decide +kernel
theorem d_S_runningWith_12 : decode b_S_runningWith 12 = .ok (.invokevirtual 79, 3) := by decide +kernel
theorem d_S_runningWith_15 : decode b_S_runningWith 15 = .ok (.astore_n 3, 1) := by decide +kernel
theorem d_S_runningWith_16 : decode b_S_runningWith 16 = .ok (.aload_n 3, 1) := by decide +kernel
theorem d_S_runningWith_17 : decode b_S_runningWith 17 = .ok (.ifnull 20, 3) := by decide +kernel
theorem d_S_runningWith_20 : decode b_S_runningWith 20 = .ok (.aload_n 3, 1) := by decide +kernel
theorem d_S_runningWith_21 : decode b_S_runningWith 21 = .ok (.getfield 159, 3) := by decide +kernel
theorem d_S_runningWith_24 : decode b_S_runningWith 24 = .ok (.iload_n 1, 1) := by decide +kernel
theorem d_S_runningWith_25 : decode b_S_runningWith 25 = .ok (.if_icmp .ne 12, 3) := by decide +kernel
theorem d_S_runningWith_28 : decode b_S_runningWith 28 = .ok (.aload_n 3, 1) := by decide +kernel
theorem d_S_runningWith_29 : decode b_S_runningWith 29 = .ok (.getfield 105, 3) := by decide +kernel
theorem d_S_runningWith_32 : decode b_S_runningWith 32 = .ok (.ifCond .ne 5, 3) := by decide +kernel
theorem d_S_runningWith_35 : decode b_S_runningWith 35 = .ok (.iload_n 2, 1) := by decide +kernel
theorem d_S_runningWith_36 : decode b_S_runningWith 36 = .ok (.ireturn, 1) := by decide +kernel
theorem d_S_runningWith_37 : decode b_S_runningWith 37 = .ok (.iinc 2 1, 3) := by decide +kernel
theorem d_S_runningWith_40 : decode b_S_runningWith 40 = .ok (.goto (-38), 3) := by decide +kernel
theorem d_S_runningWith_43 : decode b_S_runningWith 43 = .ok (.iconst (-1), 1) := by decide +kernel
theorem d_S_runningWith_44 : decode b_S_runningWith 44 = .ok (.ireturn, 1) := by decide +kernel
