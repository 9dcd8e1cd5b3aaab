/-! PURE 33: an end from outside; what is kept; events told -/
section
variable {j : Nat} {u0 u i p : St} {n L C : Nat}
theorem Tr.all {u p : St} {n : Nat} (T : Tr u p n) : ∀ c, c < n → bt (p 9 0) c = true := by
  intro c
  induction c using Nat.strongRecOn with
  | _ c ih =>
    intro hc
    rcases Nat.eq_zero_or_pos c with q | q
    · subst q
      exact T.self hc
    · obtain ⟨j, hj, -, -, -, -, -, -, h⟩ := T.par q hc
      rw [h 0 (by omega), ih j hj (by omega), Bool.or_true]
theorem term_l (P : Pl u0 p n L) (hj : j < 8) : ∀ d c f g (u x : St) (m : Int32) (Cc : Nat), c + d = n → d < f → d < g → Sim j u0 u x → Iv u0 p x n L Cc → Cc + d < 2 ^ 30 →
    ∃ u' x' m' C', C' ≤ Cc + d ∧ f_M_terminate_32_it f (nI c) u = (sr_ast 8 u' 17 (u' 33 0) 2).bind (fun u_10 => some (1, u_10)) ∧ f_I_endWithin_4_it p g (p 9 0) m (nI c) x = some (m', x') ∧ Sim j u0 u' x' ∧ Iv u0 p x' n L C' ∧ (∀ k, 33 ≤ k → u' k = u k) ∧ x' 8 = x 8 := by
  intro d
  have h24 := P.lt
  induction d with
  | zero =>
    intro c f g u x m Cc hc hf hg S V hC
    have : c = n := by omega
    subst this
    obtain ⟨f, rfl⟩ : ∃ f', f = f' + 1 := ⟨f - 1, by omega⟩
    obtain ⟨g, rfl⟩ : ∃ f', g = f' + 1 := ⟨g - 1, by omega⟩
    refine ⟨u, x, m, Cc, by omega, ?_, ?_, S, V, fun _ _ => rfl, rfl⟩
    · show f_M_terminate_32 _ (nI c) u = _
      unfold f_M_terminate_32
      rw [S.pl (show 0 < 17 by decide), P.n0, if_pos (nI_le (Nat.le_refl _) (by omega))]
    · show f_I_endWithin_4 _ p (p 9 0) m (nI c) x = _
      unfold f_I_endWithin_4
      rw [P.2.1, if_pos (nI_le (Nat.le_refl _) (by omega))]
  | succ d ih =>
    intro c f g u x m Cc hc hf hg S V hC
    obtain ⟨f, rfl⟩ : ∃ f', f = f' + 1 := ⟨f - 1, by omega⟩
    obtain ⟨g, rfl⟩ : ∃ f', g = f' + 1 := ⟨g - 1, by omega⟩
    have e1 : f_M_terminate_32_it (f + 1) (nI c) u = (f_T_isActive (x 4 c)).bind fun v_12 => if v_12 = 0 then f_M_terminate_32_it f (nI (c + 1)) u else (f_M_put (nI c) 11 u).bind fun u_15 => (f_M_write 5 (nI c) u_15).bind fun u_17 => f_M_terminate_32_it f (nI (c + 1)) u_17 := by
      show f_M_terminate_32 _ (nI c) u = _
      unfold f_M_terminate_32 f_M_terminate_61
      rw [S.pl (show 0 < 17 by decide), P.n0, if_neg (nI_ge (show c < n by omega) (by omega)), M_active S hj (show c < 24 by omega), nI_1]
    have e2 : f_I_endWithin_4_it p (g + 1) (p 9 0) m (nI c) x = (f_T_isActive (x 4 c)).bind fun v_7 => if v_7 = 0 then f_I_endWithin_4_it p g (p 9 0) m (nI (c + 1)) x else (f_I_become p (nI c) 11 5 x).bind fun i_10 => f_I_endWithin_4_it p g (p 9 0) (m ||| ((1 : Int32) <<< (nI c &&& 31))) (nI (c + 1)) i_10 := by
      show f_I_endWithin_4 _ p (p 9 0) m (nI c) x = _
      unfold f_I_endWithin_4 f_I_endWithin_49
      rw [P.2.1, if_neg (nI_ge (show c < n by omega) (by omega)), sp_isIn (show c < 32 by omega), Option.bind_some, P.1.all c (by omega), if_neg (show ¬ bI true = 0 by decide), sp_ald24 (f := x 4) (show c < 24 by omega), Option.bind_some, nI_1]
    rw [e1, e2, sp_act, Option.bind_some, Option.bind_some]
    cases hb : inB (x 4 c) 1 7 with
    | false =>
      rw [show bI false = 0 from rfl, if_pos rfl, if_pos rfl]
      obtain ⟨u', x', m', C', c1, r⟩ := ih (c + 1) f g u x m Cc (by omega) (by omega) (by omega) S V (by omega)
      exact ⟨u', x', m', C', by omega, r⟩
    | true =>
      rw [if_neg (show ¬ bI true = 0 by decide), if_neg (show ¬ bI true = 0 by decide)]
      obtain ⟨u1, u2, x2, f1, f2, f3, S2, V2, -, g1, g2⟩ := become_ok S hj V (by omega) (show c < 24 by omega) 11 5
      rw [f1, Option.bind_some, f2, Option.bind_some, f3, Option.bind_some]
      obtain ⟨u', x', m', C', c1, r1, r2, r3, r4, r5, r6⟩ := ih (c + 1) f g u2 x2 (m ||| ((1 : Int32) <<< (nI c &&& 31))) (Cc + 1) (by omega) (by omega) (by omega) S2 V2 (by omega)
      exact ⟨u', x', m', C', by omega, r1, r2, r3, r4, fun k hk => by rw [r5 k hk, g2 k hk], by rw [r6, g1 8 (by decide) (by decide) (by decide)]⟩
theorem end_ok (P : Pl u0 p n L) (hj : j < 8) (S : Sim j u0 u i) (V : Iv u0 p i n L C) (hC : C + 60 < 2 ^ 30) (h34 : u 34 0 = 0) (h8 : i 8 0 = 0) (h3 : i 3 0 = 0) : ∃ u' i' C', C' ≤ C + 30 ∧ f_M_terminate_32_it 60 0 u = some (1, u') ∧ f_I_endNow p i = some (1, i') ∧ Sim j u0 u' i' ∧ Iv u0 p i' n L C' ∧ u' 34 0 = 0 ∧ i' 8 0 = 0 := by
  have h24 := P.lt
  obtain ⟨u1, x1, m1, C1, c1, e1, e2, S1, V1, g1, g2⟩ := term_l P hj n 0 60 60 u i 0 C (by omega) (by omega) (by omega) S V (by omega)
  have e1 : f_M_terminate_32_it 60 0 u = _ := e1
  have e2 : f_I_endWithin_4_it p 60 (p 9 0) 0 0 i = _ := e2
  have S2 := S1.up 3 0 2 (by decide)
  rw [show ln 3 * j + 0 = j by show 1 * j + 0 = j; omega] at S2
  refine ⟨_, _, C1, by omega, ?_, ?_, S2, V1.set 3 0 2 (by decide) (by decide) (by decide) (by decide) (by decide) (by decide), ?_, ?_⟩
  · rw [e1, S1.2.1, sp_ast hj (by decide), Option.bind_some]
    rfl
  · unfold f_I_endNow f_I_endWithin
    rw [if_pos h3, show sr_ald 24 (p 9) 0 = some (p 9 0) from sp_ald24 (i := 0) (by decide), Option.bind_some, e2]
    rfl
  · have b : (34 : Nat) ≠ mk 3 := by decide
    rw [sp_up_k b, g1 34 (by decide)]; exact h34
  · rw [sp_up_k (by decide), g2]; exact h8
theorem kept_l (R : Rl u i j) (hj : j < 8) {E : Nat} (hE : eOk u0 i n E) (hn : n ≤ 24) {s : Nat} (hs : s < 24) : ∀ d e f g (x : Int32), e + d = E → d < f → d < g → f_M_kept_16_it u f (nI j) (nI s) x (nI e) = f_E_countIn_4_it p i g (nI s) x (nI e) := by
  intro d
  have hu : u 27 j = nI E := by
    have := R 17 0 (by decide)
    rw [show ln 17 * j + 0 = j by show 1 * j + 0 = j; omega, show de 17 (i 17 0) = i 17 0 from rfl, hE.2.1] at this
    exact this
  have hE16 := hE.1
  induction d with
  | zero =>
    intro e f g x he hf hg
    have : e = E := by omega
    subst this
    obtain ⟨f, rfl⟩ : ∃ f', f = f' + 1 := ⟨f - 1, by omega⟩
    obtain ⟨g, rfl⟩ : ∃ f', g = f' + 1 := ⟨g - 1, by omega⟩
    show f_M_kept_16 _ u (nI j) (nI s) x (nI e) = f_E_countIn_4 _ p i (nI s) x (nI e)
    unfold f_M_kept_16 f_E_countIn_4
    rw [sp_ald hj (by decide), Option.bind_some, hu, hE.2.1, if_pos (nI_le (Nat.le_refl _) (by omega)), if_pos (nI_le (Nat.le_refl _) (by omega))]
  | succ d ih =>
    intro e f g x he hf hg
    obtain ⟨f, rfl⟩ : ∃ f', f = f' + 1 := ⟨f - 1, by omega⟩
    obtain ⟨g, rfl⟩ : ∃ f', g = f' + 1 := ⟨g - 1, by omega⟩
    have hpl : u 30 (16 * j + e) = dec (i 16 e) := R 16 e (show e < 16 by omega)
    have hcmp : (dec (i 16 e) = nI s ↔ i 16 e = nI s) := by
      have := dec_inj (hE.sml hn e (by omega)) (Or.inr ⟨s, by omega, rfl⟩ : sml (nI s))
      rw [dec_n hs] at this
      exact this
    show f_M_kept_16 _ u (nI j) (nI s) x (nI e) = f_E_countIn_4 _ p i (nI s) x (nI e)
    unfold f_M_kept_16 f_E_countIn_4 f_M_kept_49 f_E_countIn_25
    rw [sp_ald hj (by decide), Option.bind_some, hu, hE.2.1, if_neg (nI_ge (show e < E by omega) (by omega)), if_neg (nI_ge (show e < E by omega) (by omega)), sp_ix 16 16 j e rfl, sp_ald (by omega) (by decide), Option.bind_some, hpl, sp_ald16 (by omega), Option.bind_some, nI_1]
    by_cases q : i 16 e = nI s
    · rw [if_pos (hcmp.mpr q), if_pos q]
      exact ih (e + 1) f g (x + 1) (by omega) (by omega) (by omega)
    · rw [if_neg (fun h => q (hcmp.mp h)), if_neg q, show x + 0 = x from by rw [Int32.add_zero]]
      exact ih (e + 1) f g x (by omega) (by omega) (by omega)
theorem kept_ok (R : Rl u i j) (hj : j < 8) (V : Iv u0 p i n L C) (hn : n ≤ 24) {s : Nat} (hs : s < 24) : f_M_kept_16_it u 60 (nI j) (nI s) 0 0 = f_E_countIn p i (nI s) := by
  obtain ⟨E, hE⟩ := V.2.2.1
  have := hE.1
  exact kept_l (p := p) R hj hE hn hs E 0 60 60 0 (by omega) (by omega) (by omega)
theorem event_ok (R : Rl u i j) (hj : j < 8) (V : Iv u0 p i n L C) (hC : C < 2 ^ 30) (x2 : Int32) : ((f_M_in x2 0 31).bind fun v_4 => if v_4 = 0 then some (-1) else (sr_ald 8 (u 32) (nI j)).bind fun v_7 => if x2 < v_7 then (sr_ald 8 (u 32) (nI j)).bind fun v_10 => (sr_ald 256 (u 31) ((32 * (nI j)) + (((v_10 - 1) - x2) - ((v_10 - 1) - x2) / 32 * 32))).bind fun v_12 => some v_12 else some (-1)) = f_G_before p i x2 := by
  have hu : u 32 j = nI C := by
    have := R 19 0 (by decide)
    rw [show ln 19 * j + 0 = j by show 1 * j + 0 = j; omega, show de 19 (i 19 0) = i 19 0 from rfl, V.1] at this
    exact this
  unfold f_G_before
  rw [sp_inn, Option.bind_some, sp_ald hj (by decide), hu, V.1]
  simp only [Option.bind_some]
  by_cases q0 : x2 < 0
  · rw [if_pos q0, show inB x2 0 31 = false by unfold inB; rw [decide_eq_false (Int32.not_le.mpr q0)]; rfl, show bI false = 0 from rfl, if_pos rfl]
  · rw [if_neg q0]
    by_cases q1 : 32 ≤ x2
    · rw [if_pos q1, show inB x2 0 31 = false by
        unfold inB
        rw [decide_eq_false (p := x2 ≤ 31) (Int32.not_le.mpr (Int32.lt_of_lt_of_le (by decide) q1)), Bool.and_false], show bI false = 0 from rfl, if_pos rfl]
    · rw [if_neg q1]
      obtain ⟨k, hk, rfl⟩ : ∃ k, k < 32 ∧ x2 = nI k := by
        obtain ⟨k, hk, e⟩ := nI_of q0
        subst e
        exact ⟨k, by
          apply Classical.byContradiction
          intro h
          exact q1 (nI_le (a := 32) (by omega) (by omega)), rfl⟩
      rw [show inB (nI k) 0 31 = true by
        unfold inB
        rw [decide_eq_true (Int32.not_lt.mp q0), decide_eq_true (p := nI k ≤ 31) (nI_le (b := 31) (by omega) (by decide))]; rfl, if_neg (show ¬ bI true = 0 by decide)]
      by_cases q2 : nI k < nI C
      · rw [if_pos q2, if_pos q2]
        have hkC : k < C := by
          apply Classical.byContradiction
          intro h
          exact nI_nlt (by omega) (by omega) q2
        have e : nI C - 1 - nI k = nI (C - 1 - k) := by
          rw [show (1 : Int32) = nI 1 from rfl, pk_sub (by omega), pk_sub (by omega)]
        have e2 : (nI C - 1 - nI k) - (nI C - 1 - nI k) / 32 * 32 = nI ((C - 1 - k) % 32) := by
          rw [e, show (32 : Int32) = nI 32 from rfl, pk_rem (by omega) (by decide) (by decide)]
        have hm := Nat.mod_lt (C - 1 - k) (show 32 > 0 by decide)
        rw [e2, sp_ix 32 32 j ((C - 1 - k) % 32) rfl, sp_ald (by omega) (by decide), Option.bind_some, sp_ald hm (by decide), Option.bind_some]
        exact congrArg some (R 18 _ hm)
      · rw [if_neg q2, if_neg q2]
end
