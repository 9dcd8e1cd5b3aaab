/-! PURE 43: what moves one of those made: run, answer, terminate, next -/
theorem sp_in50 (x : Int32) : (f_M_in x 1 50 = some 0 ∧ (x < 1 ∨ ¬ x < 1 ∧ ¬ x ≤ 50)) ∨ (f_M_in x 1 50 = some 1 ∧ ¬ x < 1 ∧ x ≤ 50 ∧ ∃ X, X ≤ 50 ∧ x = nI X) := by
  unfold f_M_in
  by_cases h : x < 1
  · exact Or.inl ⟨if_pos h, Or.inl h⟩
  · by_cases h5 : x ≤ 50
    · refine Or.inr ⟨?_, h, h5, ?_⟩
      · rw [if_neg h, if_neg (Int32.not_lt.mpr h5)]
      · have h0 : ¬ x < 0 := fun q => h (Int32.lt_trans q (by decide))
        obtain ⟨j, hj, e⟩ := nI_of2 (M := 50) (n := 50) rfl h0 h5
        exact ⟨j, hj, e⟩
    · refine Or.inl ⟨?_, Or.inr ⟨h, h5⟩⟩
      rw [if_neg h, if_pos (Int32.not_le.mp h5)]
theorem sp_in99 (x : Int32) : (f_M_in x 0 99 = some 0 ∧ (x < 0 ∨ ¬ x < 0 ∧ ¬ x ≤ 99)) ∨ (f_M_in x 0 99 = some 1 ∧ ¬ x < 0 ∧ x ≤ 99) := by
  unfold f_M_in
  by_cases h : x < 0
  · exact Or.inl ⟨if_pos h, Or.inl h⟩
  · by_cases h5 : x ≤ 99
    · exact Or.inr ⟨by rw [if_neg h, if_neg (Int32.not_lt.mpr h5)], h, h5⟩
    · exact Or.inl ⟨by rw [if_neg h, if_pos (Int32.not_le.mp h5)], Or.inr ⟨h, h5⟩⟩
theorem sr_no_t {m x : Int32} (h : x < 0 ∨ m ≤ x) : sr_no m x = some () := if_pos h
theorem sr_yes_t {j N : Nat} (h : j < N) (hN : N ≤ 8) : sr_yes j (nI N) (nI j) = some () := if_pos ⟨rfl, by omega, nI_ge h (by omega)⟩
section
variable {j : Nat} {u0 u i p s : St} {n L C : Nat} {I : Nat → St} {N B : Nat}
theorem at17 (S : Sim j u0 u i) (hj : j < 8) : sr_ald 8 (u 17) (u 33 0) = some (i 3 0) := by
  rw [S.2.1, sp_ald hj (by decide)]
  have := S.at 3 0 (by decide)
  rw [show ln 3 * j + 0 = j by show 1 * j + 0 = j; omega] at this
  exact congrArg some this
theorem run_l (P : Pl u0 p n L) (D : Dp u0 p n L) (M : mOk u0 n) (hj : j < 8) (b : Nat → Int64) {X : Nat} (hX : X ≤ 50) : ∀ d c f g (u i : St) (C : Nat), c + d = X → d < f → d < g → Sim j u0 u i → Iv u0 p i n L C → C + 9010 * d + 10100 < 2 ^ 30 → u 34 0 = 0 → i 8 0 = 0 →
    ∃ r u' i' C', C' ≤ C + 9010 * d ∧ f_M_run_33_it f (nI X) (nI c) u = some (r, u') ∧ f_S_run_j_26_it j s p b g (nI X) (nI c) i = some (r, i') ∧ Sim j u0 u' i' ∧ Iv u0 p i' n L C' ∧ u' 34 0 = 0 ∧ i' 8 0 = 0 := by
  intro d
  induction d with
  | zero =>
    intro c f g u i C hc hf hg S V hC h34 h8
    obtain ⟨f, rfl⟩ : ∃ f', f = f' + 1 := ⟨f - 1, by omega⟩
    obtain ⟨g, rfl⟩ : ∃ g', g = g' + 1 := ⟨g - 1, by omega⟩
    obtain rfl : c = X := by omega
    refine ⟨nI c, u, i, C, by omega, ?_, ?_, S, V, h34, h8⟩
    · show f_M_run_33 _ (nI c) (nI c) u = _
      unfold f_M_run_33
      rw [if_pos (Int32.le_refl _)]
    · show f_S_run_j_26 _ j s p b (nI c) (nI c) i = _
      unfold f_S_run_j_26
      rw [if_pos (Int32.le_refl _)]
  | succ d ih =>
    intro c f g u i C hc hf hg S V hC h34 h8
    obtain ⟨f, rfl⟩ : ∃ f', f = f' + 1 := ⟨f - 1, by omega⟩
    obtain ⟨g, rfl⟩ : ∃ g', g = g' + 1 := ⟨g - 1, by omega⟩
    have e1 : f_M_run_33_it (f + 1) (nI X) (nI c) u = f_M_run_33 (f_M_run_33_it f) (nI X) (nI c) u := rfl
    have e2 : f_S_run_j_26_it j s p b (g + 1) (nI X) (nI c) i = f_S_run_j_26 (f_S_run_j_26_it j s p b g) j s p b (nI X) (nI c) i := rfl
    rw [e1, e2]
    unfold f_M_run_33 f_S_run_j_26 f_M_run_58
    rw [if_neg (nI_ge (show c < X by omega) (by omega)), if_neg (nI_ge (show c < X by omega) (by omega)), at17 S hj, Option.bind_some]
    by_cases h3 : i 3 0 = 0
    · rw [if_pos h3, stepper_ok P hj S, Option.bind_some]
      cases hfd : sp_fd (csB u0 i L) 0 n with
      | some a =>
        obtain ⟨u', i', C', hC', g1, g2, S', V', k1, k2⟩ := step_ok P D M hj S V (by omega) h34 h8 h3 hfd
        have ha := sp_fd_lt hfd
        have h24 := P.lt
        rw [if_pos (show 0 ≤ oI (some a) from nI_pos' (by omega)), show oI (some a) = nI a from rfl, g1, Option.bind_some, g2, nI_1]
        obtain ⟨r, u2, i2, C2, q1, q2, q3, q4, q5, q6, q7⟩ := ih (c + 1) f g u' i' C' (by omega) (by omega) (by omega) S' V' (by omega) k1 k2
        refine ⟨r, u2, i2, C2, by omega, q2, ?_, q4, q5, q6, q7⟩
        show (if (1 : Int32) = 0 then some (nI c, i') else f_S_run_j_26_it j s p b g (nI X) (nI (c + 1)) i') = _
        rw [if_neg (by decide)]
        exact q3
      | none =>
        rw [if_neg (show ¬ 0 ≤ oI none by decide), step_no P D.1 (Or.inr hfd)]
        refine ⟨nI c, u, i, C, by omega, rfl, ?_, S, V, h34, h8⟩
        show (if (0 : Int32) = 0 then some (nI c, i) else f_S_run_j_26_it j s p b g (nI X) (nI c + 1) i) = _
        rw [if_pos rfl]
    · rw [if_neg h3, if_neg (show ¬ (0 : Int32) ≤ -1 by decide), step_no P D.1 (Or.inl h3)]
      refine ⟨nI c, u, i, C, by omega, rfl, ?_, S, V, h34, h8⟩
      show (if (0 : Int32) = 0 then some (nI c, i) else f_S_run_j_26_it j s p b g (nI X) (nI c + 1) i) = _
      rw [if_pos rfl]
/-- what a call does that names one of those made, or none -/
def Q1 (s p : St) (I : Nat → St) (n L N B' : Nat) (fM : Option (Int32 × St)) (fn : Option Int32) (fj : Nat → St → Option (Int32 × St)) : Prop :=
  (∃ r u', fM = some (r, u') ∧ fn = some r ∧ GI u' s p I n L N B') ∨ (∃ j r u' i', j < N ∧ fM = some (r, u') ∧ fj j (I j) = some (r, i') ∧ GI u' s p (upI I j i') n L N B')
theorem run_ok (G : GI u s p I n L N B) (hB : B + 470000 < 2 ^ 30) (b : Nat → Int64) (x1 x2 : Int32) : Q1 s p I n L N (B + 460000) (f_M_run x1 x2 u) (f_S_run_n s p b x1 x2) (fun j i => f_S_run_j j s p b x1 x2 i) := by
  have P := G.pl
  have h24 := P.lt
  have hN := G.N8
  unfold f_M_run f_S_run_n
  rw [G.n16, G.s0]
  rcases sp_inN x1 (N := N) (by omega) with ⟨h, e⟩ | ⟨j, hj, rfl, e⟩
  · rw [e, Option.bind_some, if_pos rfl, sr_no_t h]
    exact Or.inl ⟨0, u, rfl, rfl, G.mono (by omega)⟩
  · rw [e, Option.bind_some, if_neg (show ¬ (1 : Int32) = 0 by decide)]
    right
    unfold f_S_run_j
    have hd := G.Nd (show 0 < N by omega)
    obtain ⟨hs, ⟨C, hC, V⟩, h8⟩ := G.gj hj
    rcases sp_in50 x2 with ⟨e2, h2⟩ | ⟨e2, h1, h2, X, hX, rfl⟩
    · rw [e2, Option.bind_some, if_pos rfl]
      refine ⟨j, 0, u, I j, hj, rfl, ?_, by rw [upI_self]; exact G.mono (by omega)⟩
      show ((sr_yes j (s 0 0) (nI j)).bind fun _ => if x2 < 1 then some (0, I j) else if x2 ≤ 50 then f_S_run_j_26_it j s p b 60 x2 0 (I j) else some (0, I j)) = _
      rw [G.s0, sr_yes_t hj hN, Option.bind_some]
      rcases h2 with h2 | ⟨h2, h3⟩
      · rw [if_pos h2]
      · rw [if_neg h2, if_neg h3]
    · rw [e2, Option.bind_some, if_neg (show ¬ (1 : Int32) = 0 by decide)]
      unfold sr_pf
      rw [Option.bind_some]
      obtain ⟨r, u', i', C', q1, q2, q3, q4, q5, q6, q7⟩ := run_l (s := s) P (G.dp hd) (G.mo.le h24) (show j < 8 by omega) b hX X 0 60 60 (sr_up u 33 0 (nI j)) (I j) C (by omega) (by omega) (by omega) (G.sim hj) V (by omega) (by rw [sp_up_k (by decide)]; exact G.h34) h8
      refine ⟨j, r, u', i', hj, q2, ?_, G.put hj q4 q5 (by omega) (by omega) q6 q7⟩
      show ((sr_yes j (s 0 0) (nI j)).bind fun _ => if nI X < 1 then some (0, I j) else if nI X ≤ 50 then f_S_run_j_26_it j s p b 60 (nI X) 0 (I j) else some (0, I j)) = _
      rw [G.s0, sr_yes_t hj hN, Option.bind_some, if_neg h1, if_pos h2]
      exact q3
theorem answer_ok2 (G : GI u s p I n L N B) (hB : B + 470000 < 2 ^ 30) (b : Nat → Int64) (x1 x2 x3 x4 : Int32) : Q1 s p I n L N (B + 460000) (f_M_answer x1 x2 x3 x4 u) (f_S_answer_n s p b x1 x2 x3 x4) (fun j i => f_S_answer_j j s p b x1 x2 x3 x4 i) := by
  have P := G.pl
  have h24 := P.lt
  have hN := G.N8
  unfold f_M_answer f_S_answer_n
  rw [G.n16, G.s0]
  rcases sp_inN x1 (N := N) (by omega) with ⟨h, e⟩ | ⟨j, hj, rfl, e⟩
  · rw [e, Option.bind_some, if_pos rfl, sr_no_t h]
    exact Or.inl ⟨0, u, rfl, rfl, G.mono (by omega)⟩
  · rw [e, Option.bind_some, if_neg (show ¬ (1 : Int32) = 0 by decide)]
    right
    have hd := G.Nd (show 0 < N by omega)
    obtain ⟨hs, ⟨C, hC, V⟩, h8⟩ := G.gj hj
    have e0 : f_S_answer_j j s p b (nI j) x2 x3 x4 (I j) = (f_P_hasActivity p x2).bind fun v_2 => if v_2 = 0 then some (0, I j) else if x3 < 0 then some (0, I j) else if x3 ≤ 99 then sr_b2 (f_I_takeAnswer p x2 x3 x4 (I j)) fun v_7 i_8 => (sr_z v_7).bind fun _ => some (v_7, i_8) else some (0, I j) := by
      unfold f_S_answer_j
      rw [G.s0, sr_yes_t hj hN, Option.bind_some]
    rcases sp_inA P x2 with ⟨a1, a2⟩ | ⟨a, ha, rfl, a1, a2⟩
    · rw [a1, Option.bind_some, if_pos rfl]
      refine ⟨j, 0, u, I j, hj, rfl, ?_, by rw [upI_self]; exact G.mono (by omega)⟩
      show f_S_answer_j j s p b (nI j) x2 x3 x4 (I j) = _
      rw [e0, a2, Option.bind_some, if_pos rfl]
    · rw [a1, Option.bind_some, if_neg (show ¬ (1 : Int32) = 0 by decide)]
      rcases sp_in99 x3 with ⟨c1, c2⟩ | ⟨c1, c2, c3⟩
      · rw [c1, Option.bind_some, if_pos rfl]
        refine ⟨j, 0, u, I j, hj, rfl, ?_, by rw [upI_self]; exact G.mono (by omega)⟩
        show f_S_answer_j j s p b (nI j) (nI a) x3 x4 (I j) = _
        rw [e0, a2, Option.bind_some, if_neg (show ¬ (1 : Int32) = 0 by decide)]
        rcases c2 with c2 | ⟨c2, c3⟩
        · rw [if_pos c2]
        · rw [if_neg c2, if_neg c3]
      · rw [c1, Option.bind_some, if_neg (show ¬ (1 : Int32) = 0 by decide)]
        obtain ⟨z, u', i', C', q1, q2, q3, q4, q5, q6, q7⟩ := answer_ok P (G.dp hd) (show j < 8 by omega) (G.sim hj) V (by omega) (by rw [sp_up_k (by decide)]; exact G.h34) h8 ha x3 x4
        unfold sr_pf
        rw [Option.bind_some]
        refine ⟨j, bI z, u', i', hj, q2, ?_, G.put hj q4 q5 (by omega) (by omega) q6 q7⟩
        show f_S_answer_j j s p b (nI j) (nI a) x3 x4 (I j) = _
        rw [e0, a2, Option.bind_some, if_neg (show ¬ (1 : Int32) = 0 by decide), if_neg c2, if_pos c3, q3]
        show ((sr_z (bI z)).bind fun _ => some (bI z, i')) = _
        rw [sp_zb, Option.bind_some]
theorem terminate_ok (G : GI u s p I n L N B) (hB : B + 470000 < 2 ^ 30) (b : Nat → Int64) (x1 : Int32) : Q1 s p I n L N (B + 460000) (f_M_terminate x1 u) (f_S_terminate_n s p b x1) (fun j i => f_S_terminate_j j s p b x1 i) := by
  have P := G.pl
  have h24 := P.lt
  have hN := G.N8
  unfold f_M_terminate f_S_terminate_n
  rw [G.n16, G.s0]
  rcases sp_inN x1 (N := N) (by omega) with ⟨h, e⟩ | ⟨j, hj, rfl, e⟩
  · rw [e, Option.bind_some, if_pos rfl, sr_no_t h]
    exact Or.inl ⟨0, u, rfl, rfl, G.mono (by omega)⟩
  · rw [e, Option.bind_some, if_neg (show ¬ (1 : Int32) = 0 by decide)]
    right
    obtain ⟨hs, ⟨C, hC, V⟩, h8⟩ := G.gj hj
    have e17 : sr_ald 8 (u 17) (nI j) = some (I j 3 0) := by
      have := at17 (G.sim hj) (show j < 8 by omega)
      rw [sp_up_s, sp_up_k (by decide)] at this
      exact this
    have e0 : f_S_terminate_j j s p b (nI j) (I j) = sr_b2 (f_I_endNow p (I j)) fun v_2 i_3 => if v_2 = 0 then some (0, i_3) else some (1, i_3) := by
      unfold f_S_terminate_j
      rw [G.s0, sr_yes_t hj hN, Option.bind_some]
    rw [e17, Option.bind_some]
    by_cases h3 : I j 3 0 = 0
    · rw [if_pos h3]
      unfold sr_pf
      rw [Option.bind_some]
      obtain ⟨u', i', C', q1, q2, q3, q4, q5, q6, q7⟩ := end_ok P (show j < 8 by omega) (G.sim hj) V (by omega) (by rw [sp_up_k (by decide)]; exact G.h34) h8 h3
      refine ⟨j, 1, u', i', hj, q2, ?_, G.put hj q4 q5 (by omega) (by omega) q6 q7⟩
      show f_S_terminate_j j s p b (nI j) (I j) = _
      rw [e0, q3]
      rfl
    · rw [if_neg h3]
      refine ⟨j, 0, u, I j, hj, rfl, ?_, by rw [upI_self]; exact G.mono (by omega)⟩
      show f_S_terminate_j j s p b (nI j) (I j) = _
      rw [e0]
      unfold f_I_endNow
      rw [if_neg h3]
      rfl
end
