/-! PURE 31: simple activities; a step -/
section
variable {j : Nat} {u0 u i p : St} {n L C : Nat}
theorem sp_fitk (P : Pl u0 p n L) {a : Nat} (ha : a < n) {k : Int32} (hk : u0 3 a = k) : fitB k (u0 4 a) (u0 5 a) = true := by
  rw [← hk]
  exact P.2.2.2.2.2.1 a ha
theorem begin_s (P : Pl u0 p n L) (D : Dp u0 p n L) (hj : j < 8) (S : Sim j u0 u i) (V : Iv u0 p i n L C) (hC : C + 60 < 2 ^ 30) (h34 : u 34 0 = 0) (h8 : i 8 0 = 0) {a : Nat} (ha : a < n) : ∃ u1 u' i' C', C' ≤ C + 3 ∧ f_M_write 1 (nI a) u = some u1 ∧ u1 3 = u0 3 ∧ (if 8 ≤ u0 3 a then f_M_open (nI a) u1 else f_M_simple (nI a) u1) = some u' ∧ f_I_begin p (nI a) i = some i' ∧ Sim j u0 u' i' ∧ Iv u0 p i' n L C' ∧ Du p u' i' n 300 := by
  have h24 := P.lt
  obtain ⟨u1, e1, S1, g1⟩ := M_write S hj V.1 (by omega) 1 (nI a)
  have V1 := V.wr 1 (nI a)
  have z34 : u1 34 0 = 0 := by rw [g1 34 (by decide)]; exact h34
  have z8 : (wr i C 1 (nI a)) 8 0 = 0 := by rw [wr_k (by decide) (by decide)]; exact h8
  refine ⟨u1, ?_⟩
  unfold f_I_begin
  rw [P.2.2.1.2.2.2.1, P.2.2.1.2.2.2.2.1, sp_ald24 (show a < 24 by omega), Option.bind_some, sp_ald24 (show a < 24 by omega), Option.bind_some, C_write V.1 (by omega), Option.bind_some, P.2.2.1.2.2.1, sp_ald24 (show a < 24 by omega), Option.bind_some, Option.bind_some]
  generalize wr i C 1 (nI a) = x at S1 V1 z8
  have h3 : u1 3 = u0 3 := S1.pl (by decide)
  have m1 : mM p 1 a < 300 := mM_lt P (Or.inl rfl) ha
  have m3 : mM p 3 a < 300 := mM_lt P (Or.inr (Or.inr (Or.inl rfl))) ha
  have hfit := sp_fit_kind (P.2.2.2.2.2.1 a ha)
  -- an activity that is no scope isn't the root
  have pos : ¬ u0 3 a = 12 → 0 < a := by
    intro hk
    rcases Nat.eq_zero_or_pos a with q | q
    · subst q
      exact absurd (P.1.2.2.1 ha).2.2.1 hk
    · exact q
  have done : ∀ (u2 i2 : St), Sim j u0 u2 i2 → Iv u0 p i2 n L (C + 1) → ∃ u' i', f_M_simple_248 (nI a) u2 = some u' ∧ f_I_completes p (nI a) i2 = some i' ∧ Sim j u0 u' i' ∧ Iv u0 p i' n L (C + 1) ∧ Du p u' i' n 300 := by
    intro u2 i2 S2 V2
    obtain ⟨u', i', f1, f2, S3, hk3, D3⟩ := due1 (p := p) (n := n) (a := a) S2 ha m1 0
    refine ⟨u', i', ?_, f2, S3, V2.due hk3, D3⟩
    unfold f_M_simple_248
    rw [f1, Option.bind_some]
  have msimp : ∀ k, u0 3 a = k → f_M_simple (nI a) u1 = (if k = 3 then (sr_ald 24 (u0 4) (nI a)).bind fun v_61 => (f_M_then 3 (nI a) v_61 u1).bind fun u_63 => some u_63 else if k = 4 then (f_M_handler u1 (nI a)).bind fun v_53 => (sr_ald 24 (u0 1) v_53).bind fun v_55 => (sr_ald 192 (u1 23) ((24 * (u1 33 0)) + v_55)).bind fun v_57 => (f_M_then 3 (nI a) v_57 u1).bind fun u_59 => some u_59 else if k = 6 then (f_M_put (nI a) 3 u1).bind fun u_51 => some u_51 else if k = 7 then (f_M_put (nI a) 7 u1).bind fun u_47 => (sr_ast 192 u_47 25 ((24 * (u_47 33 0)) + nI a) 0).bind fun u_49 => some u_49 else if k = 5 then (if nI a = (u0 13 0) then f_M_simple_156 (nI a) k u1 else (sr_ald 24 (u0 4) (nI a)).bind fun v_38 => (f_M_waiting u1 v_38).bind fun v_40 => if v_40 < 0 then (f_M_put (nI a) 3 u1).bind fun u_43 => some u_43 else (f_M_then 3 (nI a) 101 u1).bind fun u_45 => some u_45) else f_M_simple_156 (nI a) k u1) := by
    intro k hk
    unfold f_M_simple
    rw [h3, S1.pl (show 4 < 17 by decide), S1.pl (show 1 < 17 by decide), S1.pl (show 13 < 17 by decide), sp_ald24 (show a < 24 by omega), Option.bind_some, hk]
  rcases sp_kinds (u0 3 a) with h | k | k | k | k | k | k | k | k | k | k | k | k | k
  · unfold inB at hfit
    rw [Bool.and_eq_true] at hfit
    have h1 := of_decide_eq_true hfit.1
    have h2 := of_decide_eq_true hfit.2
    rcases h with h | h
    · exact absurd h (Int32.not_lt.mpr h1)
    · exact absurd h (Int32.not_lt.mpr h2)
  · -- empty
    rw [msimp 0 k, k]
    simp only [show ¬ ((0 : Int32) = 1) by decide, show ¬ ((0 : Int32) = 2) by decide, show ¬ ((0 : Int32) = 3) by decide, show ¬ ((0 : Int32) = 4) by decide, show ¬ ((0 : Int32) = 5) by decide, show ¬ ((0 : Int32) = 6) by decide, show ¬ ((0 : Int32) = 7) by decide, show ¬ ((0 : Int32) = 8) by decide, show ¬ ((0 : Int32) = 9) by decide, show ¬ ((0 : Int32) = 10) by decide, show ¬ ((0 : Int32) = 11) by decide, show ¬ ((0 : Int32) = 12) by decide, show ¬ ((8 : Int32) ≤ 0) by decide, if_false]
    obtain ⟨u', i', f1, f2, S3, V3, D3⟩ := done u1 x S1 V1
    refine ⟨u', i', C + 1, by omega, e1, h3, ?_, by rw [f2, Option.bind_some], S3, V3, D3⟩
    unfold f_M_simple_156
    simp only [show ¬ ((0 : Int32) = 1) by decide, show ¬ ((0 : Int32) = 2) by decide, show ¬ ((0 : Int32) = 5) by decide, if_false]
    exact f1
  · -- add
    have hf := sp_fitk P ha k
    have hf : inB (u0 4 a) 0 4 = true := hf
    have ha0 := pos (by rw [k]; decide)
    rw [msimp 1 k, k]
    simp only [show ¬ ((1 : Int32) = 3) by decide, show ¬ ((1 : Int32) = 4) by decide, show ¬ ((1 : Int32) = 5) by decide, show ¬ ((1 : Int32) = 6) by decide, show ¬ ((1 : Int32) = 7) by decide, show ¬ ((8 : Int32) ≤ 1) by decide, if_false, if_true]
    obtain ⟨r1, r2⟩ := see_ok S1 P hj ha0 ha hf
    obtain ⟨u2, f1, f2, S2, g2⟩ := store_ok S1 P hj ha0 ha hf (seeV p x a (u0 4 a) + u0 5 a)
    obtain ⟨u', i', f3, f4, S3, V3, D3⟩ := done u2 _ S2 (V1.sto a (u0 4 a) (seeV p x a (u0 4 a) + u0 5 a))
    refine ⟨u', i', C + 1, by omega, e1, h3, ?_, ?_, S3, V3, D3⟩
    · unfold f_M_simple_156
      rw [if_pos rfl, S1.pl (show 4 < 17 by decide), S1.pl (show 5 < 17 by decide), sp_ald24 (show a < 24 by omega), Option.bind_some, Option.bind_some, r1, Option.bind_some, sp_ald24 (show a < 24 by omega), Option.bind_some, f1, Option.bind_some]
      exact f3
    · rw [r2, Option.bind_some, f2, Option.bind_some, f4, Option.bind_some]
  · -- copy
    have hf := sp_fitk P ha k
    have hf : (inB (u0 4 a) 0 4 && inB (u0 5 a) 0 4) = true := hf
    rw [Bool.and_eq_true] at hf
    have ha0 := pos (by rw [k]; decide)
    rw [msimp 2 k, k]
    simp only [show ¬ ((2 : Int32) = 1) by decide, show ¬ ((2 : Int32) = 3) by decide, show ¬ ((2 : Int32) = 4) by decide, show ¬ ((2 : Int32) = 5) by decide, show ¬ ((2 : Int32) = 6) by decide, show ¬ ((2 : Int32) = 7) by decide, show ¬ ((8 : Int32) ≤ 2) by decide, if_false, if_true]
    obtain ⟨r1, r2⟩ := see_ok S1 P hj ha0 ha hf.2
    obtain ⟨u2, f1, f2, S2, g2⟩ := store_ok S1 P hj ha0 ha hf.1 (seeV p x a (u0 5 a))
    obtain ⟨u', i', f3, f4, S3, V3, D3⟩ := done u2 _ S2 (V1.sto a (u0 4 a) (seeV p x a (u0 5 a)))
    refine ⟨u', i', C + 1, by omega, e1, h3, ?_, ?_, S3, V3, D3⟩
    · unfold f_M_simple_156
      rw [if_neg (by decide), if_pos rfl, S1.pl (show 4 < 17 by decide), S1.pl (show 5 < 17 by decide), sp_ald24 (show a < 24 by omega), Option.bind_some, sp_ald24 (show a < 24 by omega), Option.bind_some, r1, Option.bind_some, f1, Option.bind_some]
      exact f3
    · rw [r2, Option.bind_some, f2, Option.bind_some, f4, Option.bind_some]
  · -- throw
    rw [msimp 3 k, k]
    simp only [show ¬ ((3 : Int32) = 1) by decide, show ¬ ((3 : Int32) = 2) by decide, show ¬ ((8 : Int32) ≤ 3) by decide, if_false, if_true]
    obtain ⟨u', i', f1, f2, S3, hk3, D3⟩ := due3 (p := p) (n := n) (a := a) S1 ha m3 (u0 4 a)
    refine ⟨u', i', C + 1, by omega, e1, h3, ?_, by rw [f2, Option.bind_some], S3, V1.due hk3, D3⟩
    rw [sp_ald24 (show a < 24 by omega), Option.bind_some, f1, Option.bind_some]
  · -- rethrow
    have ha0 := pos (by rw [k]; decide)
    have hne := D.2.2.2.1 a ha (Or.inl k)
    obtain ⟨h, hh1, hh2, -⟩ : ∃ h, h ≤ a ∧ p 7 a = nI h ∧ u0 2 h ≠ 0 := by
      rcases P.1.han a ha with q | q
      · exact absurd q hne
      · exact q
    have har := P.1.aroH D.2.2.1 a ha h (by omega) hh2
    obtain ⟨Q, q1, q2, -⟩ := aro_i P.1 a ha0 ha
    rw [msimp 4 k, k]
    simp only [show ¬ ((4 : Int32) = 1) by decide, show ¬ ((4 : Int32) = 2) by decide, show ¬ ((4 : Int32) = 3) by decide, show ¬ ((8 : Int32) ≤ 4) by decide, if_false, if_true]
    have hf : u1 23 (24 * j + Q) = x 5 Q := S1.at 5 Q (show Q < 24 by omega)
    obtain ⟨u', i', f1, f2, S3, hk3, D3⟩ := due3 (p := p) (n := n) (a := a) S1 ha m3 (x 5 Q)
    refine ⟨u', i', C + 1, by omega, e1, h3, ?_, ?_, S3, V1.due hk3, D3⟩
    · rw [sp_handler (S1.Pl P).1 ha, Option.bind_some, hh2, sp_ald24 (by omega), Option.bind_some, ← har, q2, S1.2.1, sp_ix 24 24 j Q rfl, sp_ald (by omega) (by decide), Option.bind_some, hf, f1, Option.bind_some]
    · rw [sp_ald24 (show a < 24 by omega), Option.bind_some, q2, sp_ald24 (by omega), Option.bind_some, f2, Option.bind_some]
  · -- receive
    have ha0 := pos (by rw [k]; decide)
    have hf := sp_fitk P ha k
    have hf : (inB (u0 4 a) 0 7 && inB (u0 5 a) 0 4) = true := hf
    rw [Bool.and_eq_true] at hf
    rw [msimp 5 k, k]
    simp only [show ¬ ((5 : Int32) = 1) by decide, show ¬ ((5 : Int32) = 2) by decide, show ¬ ((5 : Int32) = 3) by decide, show ¬ ((5 : Int32) = 4) by decide, show ¬ ((5 : Int32) = 6) by decide, show ¬ ((5 : Int32) = 7) by decide, show ¬ ((8 : Int32) ≤ 5) by decide, if_false, if_true]
    unfold f_I_beginReceive
    rw [S1.1.2]
    by_cases q : nI a = u0 13 0
    · rw [if_pos q, if_pos q]
      have h19 : u1 19 j = x 2 0 := by
        have := S1.at 2 0 (by decide)
        rw [show ln 2 * j + 0 = j by show 1 * j + 0 = j; omega] at this
        exact this
      obtain ⟨u2, f1, f2, S2, g2⟩ := store_ok S1 P hj ha0 ha hf.2 (x 2 0)
      obtain ⟨u', i', f3, f4, S3, V3, D3⟩ := done u2 _ S2 (V1.sto a (u0 5 a) (x 2 0))
      refine ⟨u', i', C + 1, by omega, e1, h3, ?_, ?_, S3, V3, D3⟩
      · unfold f_M_simple_156
        rw [if_neg (by decide), if_neg (by decide), if_pos rfl, S1.pl (show 5 < 17 by decide), sp_ald24 (show a < 24 by omega), Option.bind_some, S1.2.1, sp_ald hj (by decide), Option.bind_some, h19, f1, Option.bind_some]
        exact f3
      · rw [P.2.2.1.2.2.2.2.1, sp_ald24 (show a < 24 by omega), Option.bind_some, f2, Option.bind_some, f4, Option.bind_some, Option.bind_some]
    · rw [if_neg q, if_neg q, P.2.2.1.2.2.2.1, sp_ald24 (show a < 24 by omega), Option.bind_some, (waiting_ok P hj S1 (u0 4 a)).1, Option.bind_some, Option.bind_some, (waiting_ok P hj S1 (u0 4 a)).2, Option.bind_some]
      cases ho : sp_fd (wtB u0 x (u0 4 a)) 0 n with
      | none =>
        rw [show oI none = -1 from rfl, if_pos (by decide), if_pos rfl]
        obtain ⟨u2, f1, S2, g2⟩ := M_put S1 hj (show a < 24 by omega) 3
        exact ⟨u2, _, C + 1, by omega, e1, h3, by rw [f1, Option.bind_some], by rw [sp_ast (by omega) (by decide), Option.bind_some, Option.bind_some], S2, V1.st a 3, Or.inl ⟨by rw [g2 34 (by decide)]; exact z34, by rw [sp_up_k (by decide)]; exact z8⟩⟩
      | some w =>
        have hw := sp_fd_lt ho
        rw [show oI (some w) = nI w from rfl, if_neg (nI_pos (show w < 2 ^ 31 by omega)), if_neg (nI_m1 (show w < 2 ^ 31 by omega))]
        obtain ⟨u', i', f1, f2, S3, hk3, D3⟩ := due3 (p := p) (n := n) (a := a) S1 ha m3 101
        exact ⟨u', i', C + 1, by omega, e1, h3, by rw [f1, Option.bind_some], by rw [f2, Option.bind_some, Option.bind_some], S3, V1.due hk3, D3⟩
  · -- invoke
    rw [msimp 6 k, k]
    simp only [show ¬ ((6 : Int32) = 1) by decide, show ¬ ((6 : Int32) = 2) by decide, show ¬ ((6 : Int32) = 3) by decide, show ¬ ((6 : Int32) = 4) by decide, show ¬ ((6 : Int32) = 5) by decide, show ¬ ((8 : Int32) ≤ 6) by decide, if_false, if_true]
    obtain ⟨u2, f1, S2, g2⟩ := M_put S1 hj (show a < 24 by omega) 3
    exact ⟨u2, _, C + 1, by omega, e1, h3, by rw [f1, Option.bind_some], by rw [sp_ast (by omega) (by decide), Option.bind_some], S2, V1.st a 3, Or.inl ⟨by rw [g2 34 (by decide)]; exact z34, by rw [sp_up_k (by decide)]; exact z8⟩⟩
  · -- compensate
    rw [msimp 7 k, k]
    simp only [show ¬ ((7 : Int32) = 1) by decide, show ¬ ((7 : Int32) = 2) by decide, show ¬ ((7 : Int32) = 3) by decide, show ¬ ((7 : Int32) = 4) by decide, show ¬ ((7 : Int32) = 5) by decide, show ¬ ((7 : Int32) = 6) by decide, show ¬ ((8 : Int32) ≤ 7) by decide, if_false, if_true]
    obtain ⟨u2, f1, S2, g2⟩ := M_put S1 hj (show a < 24 by omega) 7
    have S3 := S2.up 7 a 0 (show a < 24 by omega)
    refine ⟨_, _, C + 1, by omega, e1, h3, ?_, ?_, S3, (V1.st a 7).set 7 a 0 (by decide) (by decide) (by decide) (by decide) (by decide) (by decide), Or.inl ⟨?_, ?_⟩⟩
    · rw [f1, Option.bind_some, S2.2.1, sp_ix 24 24 j a rfl, sp_ast (by omega) (by decide), Option.bind_some]
      rfl
    · unfold f_I_becomeUndoer
      rw [sp_ast (by omega) (by decide), Option.bind_some, sp_ast (by omega) (by decide), Option.bind_some, Option.bind_some]
    · have b1 : (34 : Nat) ≠ mk 7 := by decide
      rw [sp_up_k b1, g2 34 (by decide)]; exact z34
    · rw [sp_up_k (by decide), sp_up_k (by decide)]; exact z8
  · -- sequence
    obtain ⟨u', i', f1, f2, S3, V3, D3⟩ := begin_8 P D hj S1 V1 z34 z8 ha k
    rw [k]
    simp only [show ¬ ((8 : Int32) = 1) by decide, show ¬ ((8 : Int32) = 2) by decide, show ¬ ((8 : Int32) = 3) by decide, show ¬ ((8 : Int32) = 4) by decide, show ¬ ((8 : Int32) = 5) by decide, show ¬ ((8 : Int32) = 6) by decide, show ¬ ((8 : Int32) = 7) by decide, show ((8 : Int32) ≤ 8) by decide, if_false, if_true]
    exact ⟨u', i', C + 1, by omega, e1, h3, f1, f2, S3, V3, D3⟩
  · -- flow
    obtain ⟨u', i', f1, f2, S3, V3, D3⟩ := begin_9 P D hj S1 V1 z34 z8 ha k
    rw [k]
    simp only [show ¬ ((9 : Int32) = 1) by decide, show ¬ ((9 : Int32) = 2) by decide, show ¬ ((9 : Int32) = 3) by decide, show ¬ ((9 : Int32) = 4) by decide, show ¬ ((9 : Int32) = 5) by decide, show ¬ ((9 : Int32) = 6) by decide, show ¬ ((9 : Int32) = 7) by decide, show ¬ ((9 : Int32) = 8) by decide, show ((8 : Int32) ≤ 9) by decide, if_false, if_true]
    exact ⟨u', i', C + 1, by omega, e1, h3, f1, by rw [f2, Option.bind_some], S3, V3, D3⟩
  · -- if
    obtain ⟨u', i', C', c1, f1, f2, S3, V3, D3⟩ := begin_10 P D hj S1 V1 (by omega) z34 z8 ha k
    rw [k]
    simp only [show ¬ ((10 : Int32) = 1) by decide, show ¬ ((10 : Int32) = 2) by decide, show ¬ ((10 : Int32) = 3) by decide, show ¬ ((10 : Int32) = 4) by decide, show ¬ ((10 : Int32) = 5) by decide, show ¬ ((10 : Int32) = 6) by decide, show ¬ ((10 : Int32) = 7) by decide, show ¬ ((10 : Int32) = 8) by decide, show ¬ ((10 : Int32) = 9) by decide, show ((8 : Int32) ≤ 10) by decide, if_false, if_true]
    exact ⟨u', i', C', by omega, e1, h3, f1, by rw [f2, Option.bind_some], S3, V3, D3⟩
  · -- while
    obtain ⟨u', i', f1, f2, S3, V3, D3⟩ := loop_ok P D hj S1 V1 z34 z8 ha k
    rw [k]
    simp only [show ¬ ((11 : Int32) = 1) by decide, show ¬ ((11 : Int32) = 2) by decide, show ¬ ((11 : Int32) = 3) by decide, show ¬ ((11 : Int32) = 4) by decide, show ¬ ((11 : Int32) = 5) by decide, show ¬ ((11 : Int32) = 6) by decide, show ¬ ((11 : Int32) = 7) by decide, show ¬ ((11 : Int32) = 8) by decide, show ¬ ((11 : Int32) = 9) by decide, show ¬ ((11 : Int32) = 10) by decide, show ((8 : Int32) ≤ 11) by decide, if_false, if_true]
    refine ⟨u', i', C + 1, by omega, e1, h3, ?_, by rw [f2, Option.bind_some], S3, V3, D3⟩
    unfold f_M_open
    rw [h3, sp_ald24 (show a < 24 by omega), Option.bind_some, k, if_pos rfl, f1, Option.bind_some]
  · -- scope
    obtain ⟨u', i', f1, f2, S3, V3, D3⟩ := begin_12 P D hj S1 V1 z34 z8 ha k
    rw [k]
    simp only [show ¬ ((12 : Int32) = 1) by decide, show ¬ ((12 : Int32) = 2) by decide, show ¬ ((12 : Int32) = 3) by decide, show ¬ ((12 : Int32) = 4) by decide, show ¬ ((12 : Int32) = 5) by decide, show ¬ ((12 : Int32) = 6) by decide, show ¬ ((12 : Int32) = 7) by decide, show ¬ ((12 : Int32) = 8) by decide, show ¬ ((12 : Int32) = 9) by decide, show ¬ ((12 : Int32) = 10) by decide, show ¬ ((12 : Int32) = 11) by decide, show ((8 : Int32) ≤ 12) by decide, if_false, if_true]
    exact ⟨u', i', C + 1, by omega, e1, h3, f1, by rw [f2, Option.bind_some], S3, V3, D3⟩
end
