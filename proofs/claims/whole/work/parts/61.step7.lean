/-! PURE 32: a step, a message, an answer -/
section
variable {j : Nat} {u0 u i p : St} {n L C : Nat}
theorem step_ok (P : Pl u0 p n L) (D : Dp u0 p n L) (M : mOk u0 n) (hj : j < 8) (S : Sim j u0 u i) (V : Iv u0 p i n L C) (hC : C + 10100 < 2 ^ 30) (h34 : u 34 0 = 0) (h8 : i 8 0 = 0) {a : Nat} (h30 : i 3 0 = 0) (hfd : sp_fd (csB u0 i L) 0 n = some a) : ∃ u' i' C', C' ≤ C + 9010 ∧ f_M_step (nI a) u = some u' ∧ f_I_makeStep p i = some (1, i') ∧ Sim j u0 u' i' ∧ Iv u0 p i' n L C' ∧ u' 34 0 = 0 ∧ i' 8 0 = 0 := by
  have h24 := P.lt
  have ha : a < n := by have := sp_fd_lt hfd; omega
  have hcs : csB u0 i L a = true := (sp_fd_some.mp hfd).2.2.1
  have st := M_st S hj (show a < 24 by omega)
  have key : ∀ u1 i1 C1, C1 ≤ C + 10 → Sim j u0 u1 i1 → Iv u0 p i1 n L C1 → Du p u1 i1 n 300 → ∃ u' i' C', C' ≤ C + 9010 ∧ f_M_step_119 u1 = some u' ∧ f_I_makeStep_72 p i1 = some (1, i') ∧ Sim j u0 u' i' ∧ Iv u0 p i' n L C' ∧ u' 34 0 = 0 ∧ i' 8 0 = 0 := by
    intro u1 i1 C1 hc S1 V1 D1
    obtain ⟨u', i', C', c, f1, f2, S2, V2, z1, z2⟩ := settle_ok P D hj S1 V1 D1 (by omega)
    refine ⟨u', i', C', by omega, ?_, ?_, S2, V2, z1, z2⟩
    · unfold f_M_step_119; rw [f1, Option.bind_some]
    · unfold f_I_makeStep_72; rw [f2, Option.bind_some]
  unfold f_M_step f_I_makeStep f_M_step_20
  rw [next_ok P (by omega), if_pos h30, hfd, st]
  simp only [Option.bind_some]
  rw [show oI (some a) = nI a from rfl, if_neg (nI_m1 (show a < 2 ^ 31 by omega)), sp_ald24 (f := i 4) (show a < 24 by omega)]
  simp only [Option.bind_some]
  unfold csB at hcs
  by_cases q1 : i 4 a = 1
  · rw [if_pos q1] at hcs
    rw [q1]
    simp only [show ¬ ((1 : Int32) = 6) by decide, show ¬ ((1 : Int32) = 7) by decide, show ¬ ((1 : Int32) = 4) by decide, if_false, if_true]
    rw [M_joined P hj S M V.2.1 ha hcs, C_joined P M ha, Option.bind_some, Option.bind_some]
    cases hjn : jnB u0 i L a with
    | false =>
      rw [show bI false = 0 from rfl, if_pos rfl, if_pos rfl]
      unfold f_I_missJoin
      rw [S.pl (show 6 < 17 by decide), P.2.2.1.2.2.2.2.2, sp_ald24 (show a < 24 by omega), Option.bind_some, Option.bind_some]
      by_cases q : u0 6 a < 2
      · rw [if_pos q, if_pos q]
        obtain ⟨u1, i1, f1, f2, S1, V1, g1, g2⟩ := skip_ok P hj S V (by omega) ha
        obtain ⟨u2, i2, f3, f4, S2, hk, D2⟩ := due2 (p := p) (n := n) (a := a) S1 ha (mM_lt P (Or.inr (Or.inl rfl)) ha) 0
        obtain ⟨u', i', C', c, f5, f6, r⟩ := key u2 i2 (C + 1) (by omega) S2 (V1.due hk) D2
        refine ⟨u', i', C', c, ?_, ?_, r⟩
        · rw [f1, Option.bind_some, f3, Option.bind_some, f5]
        · rw [f2, Option.bind_some, f4, Option.bind_some, Option.bind_some, f6]
      · rw [if_neg q, if_neg q]
        obtain ⟨u2, i2, f3, f4, S2, hk, D2⟩ := due3 (p := p) (n := n) (a := a) S ha (mM_lt P (Or.inr (Or.inr (Or.inl rfl))) ha) 100
        obtain ⟨u', i', C', c, f5, f6, r⟩ := key u2 i2 C (by omega) S2 (V.due hk) D2
        refine ⟨u', i', C', c, ?_, ?_, r⟩
        · rw [f3, Option.bind_some, f5]
        · rw [f4, Option.bind_some, Option.bind_some, f6]
    | true =>
      rw [if_neg (show ¬ bI true = 0 by decide), if_neg (show ¬ bI true = 0 by decide)]
      obtain ⟨u1, u2, i2, C2, c2, f1, g3, f2, f3, S2, V2, D2⟩ := begin_s P D hj S V (by omega) h34 h8 ha
      obtain ⟨u', i', C', c, f5, f6, r⟩ := key u2 i2 C2 (by omega) S2 V2 D2
      refine ⟨u', i', C', c, ?_, ?_, r⟩
      · rw [f1, Option.bind_some, g3, sp_ald24 (show a < 24 by omega), Option.bind_some]
        by_cases q : 8 ≤ u0 3 a
        · rw [if_pos q] at f2 ⊢
          rw [f2, Option.bind_some, f5]
        · rw [if_neg q] at f2 ⊢
          rw [f2, Option.bind_some, f5]
      · rw [f3, Option.bind_some, f6]
  · rw [if_neg q1] at hcs
    by_cases q4 : i 4 a = 4
    · rw [q4]
      simp only [show ¬ ((4 : Int32) = 6) by decide, show ¬ ((4 : Int32) = 7) by decide, if_false, if_true]
      obtain ⟨u1, i1, f1, f2, S1, V1, D1⟩ := loop_ok P D hj S V h34 h8 ha (V.2.2.2.2 a ha q4)
      obtain ⟨u', i', C', c, f5, f6, r⟩ := key u1 i1 C (by omega) S1 V1 D1
      exact ⟨u', i', C', c, by rw [f1, Option.bind_some, f5], by rw [f2, Option.bind_some, f6], r⟩
    · rw [if_neg q4] at hcs
      by_cases q67 : i 4 a = 6 ∨ i 4 a = 7
      · obtain ⟨u1, i1, C1, c1, f1, f2, S1, V1, D1⟩ := undoLatest_ok P D hj S V (by omega) h34 h8 ha
        obtain ⟨u', i', C', c, f5, f6, r⟩ := key u1 i1 C1 (by omega) S1 V1 D1
        refine ⟨u', i', C', c, ?_, ?_, r⟩
        · rcases q67 with q | q
          · rw [if_pos q, f1, Option.bind_some, f5]
          · rw [if_neg (show ¬ i 4 a = 6 by rw [q]; decide), if_pos q, f1, Option.bind_some, f5]
        · rw [if_neg q4, if_neg q1, f2, Option.bind_some, f6]
      · rw [if_neg q67] at hcs
        exact absurd hcs (by decide)
theorem step_no (P : Pl u0 p n L) (hn : 0 < n) (h : ¬ i 3 0 = 0 ∨ sp_fd (csB u0 i L) 0 n = none) : f_I_makeStep p i = some (0, i) := by
  unfold f_I_makeStep
  rw [next_ok P hn, Option.bind_some]
  rcases h with h | h
  · rw [if_neg h, if_pos rfl]
  · rw [h]
    by_cases q : i 3 0 = 0
    · rw [if_pos q, show oI none = -1 from rfl, if_pos rfl]
    · rw [if_neg q, if_pos rfl]
/-- the answer or the message goes into a variable, and the activity completes -/
theorem gets_ok (P : Pl u0 p n L) (D : Dp u0 p n L) (hj : j < 8) (S : Sim j u0 u i) (V : Iv u0 p i n L C) (hC : C + 10100 < 2 ^ 30) {a : Nat} (ha : a < n) (k : u0 3 a = 5 ∨ u0 3 a = 6) (y z : Int32) : ∃ u1 u2 u3 i1 i2 i3 C', C' ≤ C + 9010 ∧ sr_ald 24 (u 5) (nI a) = some (u0 5 a) ∧ sr_ald 24 (p 4) (nI a) = some (u0 5 a) ∧ f_M_store (nI a) (u0 5 a) y u = some u1 ∧ f_M_then 1 (nI a) z u1 = some u2 ∧ f_M_settle u2 = some u3 ∧ f_V_write p (nI a) (u0 5 a) y i = some i1 ∧ f_I_completes p (nI a) i1 = some i2 ∧ f_I_settle p i2 = some i3 ∧ Sim j u0 u3 i3 ∧ Iv u0 p i3 n L C' ∧ u3 34 0 = 0 ∧ i3 8 0 = 0 := by
  have h24 := P.lt
  have ha0 : 0 < a := by
    rcases Nat.eq_zero_or_pos a with q | q
    · subst q
      have := (P.1.2.2.1 ha).2.2.1
      rcases k with k | k <;> rw [this] at k <;> exact absurd k (by decide)
    · exact q
  have hf : inB (u0 5 a) 0 4 = true := by
    rcases k with k | k
    · have hf := sp_fitk P ha k
      have hf : (inB (u0 4 a) 0 7 && inB (u0 5 a) 0 4) = true := hf
      rw [Bool.and_eq_true] at hf
      exact hf.2
    · have hf := sp_fitk P ha k
      exact hf
  obtain ⟨u1, f1, f2, S1, g1⟩ := store_ok S P hj ha0 ha hf y
  obtain ⟨u2, i2, f3, f4, S2, hk, D2⟩ := due1 (p := p) (n := n) (a := a) S1 ha (mM_lt P (Or.inl rfl) ha) z
  obtain ⟨u3, i3, C', c, f5, f6, S3, V3, z1, z2⟩ := settle_ok P D hj S2 ((V.sto a (u0 5 a) y).due hk) D2 (by omega)
  exact ⟨u1, u2, u3, _, i2, i3, C', by omega, by rw [S.pl (show 5 < 17 by decide), sp_ald24 (show a < 24 by omega)], by rw [P.2.2.1.2.2.2.2.1, sp_ald24 (show a < 24 by omega)], f1, f3, f5, f2, f4, f6, S3, V3, z1, z2⟩
theorem message_ok (P : Pl u0 p n L) (D : Dp u0 p n L) (hj : j < 8) (S : Sim j u0 u i) (V : Iv u0 p i n L C) (hC : C + 10100 < 2 ^ 30) (h34 : u 34 0 = 0) (h8 : i 8 0 = 0) (o y : Int32) (x4 : Int32) : ∃ b u' i' C', C' ≤ C + 9010 ∧ ((f_M_waiting u o).bind fun v_23 => if 0 ≤ v_23 then (sr_ald 24 (u 5) v_23).bind fun v_26 => (f_M_store v_23 v_26 y u).bind fun u_28 => (f_M_then 1 v_23 0 u_28).bind fun u_30 => (f_M_settle u_30).bind fun u_32 => some (x4, u_32) else some (-1, u)) = some (bif b then x4 else -1, u') ∧ f_I_takeMessage p o y i = some (bI b, i') ∧ Sim j u0 u' i' ∧ Iv u0 p i' n L C' ∧ u' 34 0 = 0 ∧ i' 8 0 = 0 := by
  have h24 := P.lt
  obtain ⟨w1, w2⟩ := waiting_ok P hj S o
  unfold f_I_takeMessage
  rw [w1, w2, Option.bind_some, Option.bind_some]
  cases ho : sp_fd (wtB u0 i o) 0 n with
  | none =>
    rw [show oI none = -1 from rfl, if_neg (by decide), if_pos rfl]
    exact ⟨false, u, i, C, by omega, rfl, rfl, S, V, h34, h8⟩
  | some a =>
    have ha : a < n := by have := sp_fd_lt ho; omega
    have hw : wtB u0 i o a = true := (sp_fd_some.mp ho).2.2.1
    unfold wtB at hw
    rw [Bool.and_eq_true] at hw
    have k5 := of_decide_eq_true hw.1
    rw [show oI (some a) = nI a from rfl, if_pos (Int32.not_lt.mp (nI_pos (show a < 2 ^ 31 by omega))), if_neg (nI_m1 (show a < 2 ^ 31 by omega))]
    obtain ⟨u1, u2, u3, i1, i2, i3, C', c, e1, e2, e3, e4, e5, e6, e7, e8, r⟩ := gets_ok P D hj S V hC ha (Or.inl k5) y 0
    refine ⟨true, u3, i3, C', c, ?_, ?_, r⟩
    · rw [e1, Option.bind_some, e3, Option.bind_some, e4, Option.bind_some, e5, Option.bind_some]
      rfl
    · rw [e2, Option.bind_some, e6, Option.bind_some, e7, Option.bind_some, e8, Option.bind_some]
      rfl
theorem answer_ok (P : Pl u0 p n L) (D : Dp u0 p n L) (hj : j < 8) (S : Sim j u0 u i) (V : Iv u0 p i n L C) (hC : C + 10100 < 2 ^ 30) (h34 : u 34 0 = 0) (h8 : i 8 0 = 0) {a : Nat} (ha : a < n) (f y : Int32) : ∃ b u' i' C', C' ≤ C + 9010 ∧ ((sr_ald 24 (u 3) (nI a)).bind fun v_12 => if v_12 = 6 then (f_M_st u (nI a)).bind fun v_15 => if v_15 = 3 then (if f = 0 then (sr_ald 24 (u 5) (nI a)).bind fun v_23 => (f_M_store (nI a) v_23 y u).bind fun u_25 => (f_M_then 1 (nI a) 0 u_25).bind fun u_27 => f_M_answer_101 u_27 else (f_M_then 3 (nI a) f u).bind fun u_19 => f_M_answer_101 u_19) else some (0, u) else some (0, u)) = some (bI b, u') ∧ f_I_takeAnswer p (nI a) f y i = some (bI b, i') ∧ Sim j u0 u' i' ∧ Iv u0 p i' n L C' ∧ u' 34 0 = 0 ∧ i' 8 0 = 0 := by
  have h24 := P.lt
  unfold f_I_takeAnswer f_M_answer_101 f_I_takeAnswer_62
  rw [S.pl (show 3 < 17 by decide), P.2.2.1.2.2.1, sp_ald24 (show a < 24 by omega), Option.bind_some, Option.bind_some]
  by_cases k6 : u0 3 a = 6
  · rw [if_pos k6, if_pos k6, M_st S hj (show a < 24 by omega), sp_ald24 (f := i 4) (show a < 24 by omega), Option.bind_some, Option.bind_some]
    by_cases k3 : i 4 a = 3
    · rw [if_pos k3, if_pos k3]
      by_cases q : f = 0
      · rw [if_pos q, if_pos q]
        obtain ⟨u1, u2, u3, i1, i2, i3, C', c, e1, e2, e3, e4, e5, e6, e7, e8, r⟩ := gets_ok P D hj S V hC ha (Or.inr k6) y 0
        refine ⟨true, u3, i3, C', c, ?_, ?_, r⟩
        · rw [e1, Option.bind_some, e3, Option.bind_some, e4, Option.bind_some, e5, Option.bind_some]
          rfl
        · rw [e2, Option.bind_some, e6, Option.bind_some, e7, Option.bind_some, e8, Option.bind_some]
          rfl
      · rw [if_neg q, if_neg q]
        obtain ⟨u2, i2, f3, f4, S2, hk, D2⟩ := due3 (p := p) (n := n) (a := a) S ha (mM_lt P (Or.inr (Or.inr (Or.inl rfl))) ha) f
        obtain ⟨u3, i3, C', c, f5, f6, S3, V3, z1, z2⟩ := settle_ok P D hj S2 (V.due hk) D2 (by omega)
        refine ⟨true, u3, i3, C', by omega, ?_, ?_, S3, V3, z1, z2⟩
        · rw [f3, Option.bind_some, f5, Option.bind_some]
          rfl
        · rw [f4, Option.bind_some, f6, Option.bind_some]
          rfl
    · rw [if_neg k3, if_neg k3]
      exact ⟨false, u, i, C, by omega, rfl, rfl, S, V, h34, h8⟩
  · rw [if_neg k6, if_neg k6]
    exact ⟨false, u, i, C, by omega, rfl, rfl, S, V, h34, h8⟩
end
