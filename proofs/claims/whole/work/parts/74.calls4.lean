/-! PURE 44: what is asked, and the next to step -/
/-- what a question gets that names one of those made, or none -/
def Q0 (I : Nat → St) (N : Nat) (fM : Option Int32) (fn : Option Int32) (fj : Nat → St → Option Int32) : Prop :=
  (∃ r, fM = some r ∧ fn = some r) ∨ (∃ j r, j < N ∧ fM = some r ∧ fj j (I j) = some r)
section
variable {u0 i p : St} {n L C : Nat}
theorem kept_s {E : Nat} (hE : eOk u0 i n E) {s : Nat} : ∀ d e g (x : Int32), e + d = E → d < g → ∃ r, f_E_countIn_4_it p i g (nI s) x (nI e) = some r := by
  have hE16 := hE.1
  intro d
  induction d with
  | zero =>
    intro e g x he hg
    obtain ⟨g, rfl⟩ : ∃ f', g = f' + 1 := ⟨g - 1, by omega⟩
    refine ⟨x, ?_⟩
    show f_E_countIn_4 _ p i (nI s) x (nI e) = _
    unfold f_E_countIn_4
    rw [hE.2.1, if_pos (nI_le (by omega) (by omega))]
  | succ d ih =>
    intro e g x he hg
    obtain ⟨g, rfl⟩ : ∃ f', g = f' + 1 := ⟨g - 1, by omega⟩
    have e1 : f_E_countIn_4_it p i (g + 1) (nI s) x (nI e) = f_E_countIn_4 (f_E_countIn_4_it p i g) p i (nI s) x (nI e) := rfl
    rw [e1]
    unfold f_E_countIn_4 f_E_countIn_25
    rw [hE.2.1, if_neg (nI_ge (show e < E by omega) (by omega)), sp_ald16 (by omega), Option.bind_some, nI_1]
    by_cases q : i 16 e = nI s
    · rw [if_pos q]
      exact ih (e + 1) g _ (by omega) (by omega)
    · rw [if_neg q]
      exact ih (e + 1) g x (by omega) (by omega)
theorem kept_some (V : Iv u0 p i n L C) {s : Nat} : ∃ r, f_E_countIn p i (nI s) = some r := by
  obtain ⟨E, hE⟩ := V.2.2.1
  have := hE.1
  exact kept_s (p := p) hE E 0 60 0 (by omega) (by omega)
theorem before_some (V : Iv u0 p i n L C) (hC : C < 2 ^ 30) (x2 : Int32) : ∃ r, f_G_before p i x2 = some r := by
  unfold f_G_before
  rw [V.1]
  by_cases q0 : x2 < 0
  · exact ⟨-1, if_pos q0⟩
  rw [if_neg q0]
  by_cases q1 : 32 ≤ x2
  · exact ⟨-1, if_pos q1⟩
  rw [if_neg q1]
  by_cases q2 : x2 < nI C
  · obtain ⟨k, hk, rfl⟩ := nI_of q0
    have hkC : k < C := by
      apply Classical.byContradiction
      intro h
      exact nI_nlt (by omega) (by omega) q2
    have e : nI C - 1 - nI k = nI (C - 1 - k) := by
      rw [show (1 : Int32) = nI 1 from rfl, pk_sub (by omega), pk_sub (by omega)]
    have hm := Nat.mod_lt (C - 1 - k) (show 32 > 0 by decide)
    rw [if_pos q2, e, show (32 : Int32) = nI 32 from rfl, pk_rem (by omega) (by decide) (by decide), sp_ald hm (by decide), Option.bind_some]
    exact ⟨_, rfl⟩
  · exact ⟨-1, if_neg q2⟩
end
section
variable {u p s : St} {n L : Nat} {I : Nat → St} {N B : Nat}
theorem GI.q0 (G : GI u s p I n L N B) (x : Int32) : (sr_no (s 0 0) x = some () ∧ f_M_in x 0 ((u 16 0) - 1) = some 0) ∨ (∃ j, j < N ∧ j < 8 ∧ x = nI j ∧ sr_yes j (s 0 0) x = some () ∧ f_M_in x 0 ((u 16 0) - 1) = some 1) := by
  have hN := G.N8
  rw [G.n16, G.s0]
  rcases sp_inN x (N := N) (by omega) with ⟨h, e⟩ | ⟨j, hj, rfl, e⟩
  · exact Or.inl ⟨sr_no_t h, e⟩
  · exact Or.inr ⟨j, hj, by omega, rfl, sr_yes_t hj hN, e⟩
theorem one_ne : ¬ (1 : Int32) = 0 := by decide
theorem state_ok (G : GI u s p I n L N B) (b : Nat → Int64) (x1 : Int32) : Q0 I N (f_M_state u x1) (f_S_state_n s p b x1) (fun j i => f_S_state_j j s p b i x1) := by
  unfold f_M_state f_S_state_n
  rcases G.q0 x1 with ⟨h, e⟩ | ⟨j, hj, hj8, rfl, h, e⟩
  · rw [e, h, Option.bind_some, if_pos rfl]
    exact Or.inl ⟨-1, rfl, rfl⟩
  · rw [e, Option.bind_some, if_neg one_ne, sp_ald hj8 (by decide), Option.bind_some]
    refine Or.inr ⟨j, _, hj, rfl, ?_⟩
    show f_S_state_j j s p b (I j) (nI j) = _
    unfold f_S_state_j
    rw [h, Option.bind_some]
    have := G.rl hj8 3 0 (by decide)
    rw [show ln 3 * j + 0 = j by show 1 * j + 0 = j; omega] at this
    exact congrArg some this.symm
theorem status_ok (G : GI u s p I n L N B) (b : Nat → Int64) (x1 x2 : Int32) : Q0 I N (f_M_status u x1 x2) (f_S_status_n s p b x1 x2) (fun j i => f_S_status_j j s p b i x1 x2) := by
  have P := G.pl
  have h24 := P.lt
  unfold f_M_status f_S_status_n f_S_status_n_21
  rcases G.q0 x1 with ⟨h, e⟩ | ⟨j, hj, hj8, rfl, h, e⟩
  · rw [e, h, Option.bind_some, if_pos rfl]
    exact Or.inl ⟨-1, rfl, rfl⟩
  · rw [e, Option.bind_some, if_neg one_ne]
    have e0 : ∀ r, ((f_P_hasActivity p x2).bind fun v_2 => if v_2 = 0 then f_S_status_j_21 j s p b (I j) else (sr_ald 24 (I j 4) x2).bind fun v_5 => some v_5) = some r → f_S_status_j j s p b (I j) (nI j) x2 = some r := by
      intro r hr
      unfold f_S_status_j
      rw [h, Option.bind_some]
      exact hr
    rcases sp_inA P x2 with ⟨a1, a2⟩ | ⟨a, ha, rfl, a1, a2⟩
    · rw [a1, Option.bind_some, if_pos rfl]
      refine Or.inr ⟨j, -1, hj, rfl, e0 _ ?_⟩
      rw [a2]
      rfl
    · rw [a1, Option.bind_some, if_neg one_ne, sp_ix 24 24 j a rfl, sp_ald (by omega) (by decide), Option.bind_some]
      refine Or.inr ⟨j, _, hj, rfl, e0 _ ?_⟩
      rw [a2, Option.bind_some, if_neg one_ne, sp_ald24 (by omega), Option.bind_some]
      exact congrArg some (G.rl hj8 4 a (show a < 24 by omega)).symm
theorem variable_ok (G : GI u s p I n L N B) (b : Nat → Int64) (x1 x2 : Int32) : Q0 I N (f_M_variable u x1 x2) (f_S_variable_n s p b x1 x2) (fun j i => f_S_variable_j j s p b i x1 x2) := by
  unfold f_M_variable f_S_variable_n f_S_variable_n_19
  rcases G.q0 x1 with ⟨h, e⟩ | ⟨j, hj, hj8, rfl, h, e⟩
  · rw [e, h, Option.bind_some, if_pos rfl]
    exact Or.inl ⟨0, rfl, rfl⟩
  · rw [e, Option.bind_some, if_neg one_ne]
    have e0 : ∀ r, (if x2 < 0 then f_S_variable_j_19 j s p b (I j) else if x2 < 4 then (sr_ald 4 (I j 11) x2).bind fun v_4 => some v_4 else f_S_variable_j_19 j s p b (I j)) = some r → f_S_variable_j j s p b (I j) (nI j) x2 = some r := by
      intro r hr
      unfold f_S_variable_j
      rw [h, Option.bind_some]
      exact hr
    unfold f_M_in
    by_cases q : x2 < 0
    · rw [if_pos q, Option.bind_some, if_pos rfl]
      exact Or.inr ⟨j, 0, hj, rfl, e0 _ (by rw [if_pos q]; rfl)⟩
    · rw [if_neg q]
      obtain ⟨a, ha, rfl⟩ := nI_of q
      by_cases q4 : a < 4
      · rw [if_neg (show ¬ (3 : Int32) < nI a from nI_nlt (a := 3) (by omega) (by omega)), Option.bind_some, if_neg one_ne, sp_ix 4 4 j a rfl, sp_ald (by omega) (by decide), Option.bind_some]
        refine Or.inr ⟨j, _, hj, rfl, e0 _ ?_⟩
        rw [if_neg q, if_pos (show nI a < 4 from nI_lt (b := 4) q4 (by decide)), sp_ald q4 (by decide), Option.bind_some]
        exact congrArg some (G.rl hj8 11 a q4).symm
      · rw [if_pos (show (3 : Int32) < nI a from nI_lt (a := 3) (by omega) (by omega)), Option.bind_some, if_pos rfl]
        refine Or.inr ⟨j, 0, hj, rfl, e0 _ ?_⟩
        rw [if_neg q, if_neg (show ¬ nI a < 4 from nI_nlt (b := 4) (by omega) (by omega))]
        rfl
theorem GI.sco (G : GI u s p I n L N B) (x2 : Int32) : (((f_M_in x2 0 ((u 0 0) - 1)).bind fun v_4 => if v_4 = 0 then some (0 : Int32) else (sr_ald 24 (u 3) x2).bind fun v_7 => if v_7 = 12 then some 1 else some 0) = some 0 ∧ f_P_hasScope p x2 = some 0) ∨ (∃ a, a < n ∧ x2 = nI a ∧ ((f_M_in x2 0 ((u 0 0) - 1)).bind fun v_4 => if v_4 = 0 then some (0 : Int32) else (sr_ald 24 (u 3) x2).bind fun v_7 => if v_7 = 12 then some 1 else some 0) = some 1 ∧ f_P_hasScope p x2 = some 1) := by
  have P := G.pl
  have h24 := P.lt
  unfold f_P_hasScope
  rcases sp_inA P x2 with ⟨a1, a2⟩ | ⟨a, ha, rfl, a1, a2⟩
  · rw [a1, a2, Option.bind_some, Option.bind_some, if_pos rfl, if_pos rfl]
    exact Or.inl ⟨rfl, rfl⟩
  · rw [a1, a2, Option.bind_some, Option.bind_some, if_neg one_ne, if_neg one_ne, P.2.2.1.2.2.1, sp_ald24 (f := u 3) (by omega), Option.bind_some]
    by_cases k : u 3 a = 12
    · simp only [Option.bind_some, if_pos k]
      exact Or.inr ⟨a, ha, rfl, by trivial, by trivial⟩
    · simp only [Option.bind_some, if_neg k]
      exact Or.inl ⟨by trivial, by trivial⟩
theorem own_ok (G : GI u s p I n L N B) (b : Nat → Int64) (x1 x2 : Int32) : Q0 I N (f_M_own u x1 x2) (f_S_own_n s p b x1 x2) (fun j i => f_S_own_j j s p b i x1 x2) := by
  have P := G.pl
  have h24 := P.lt
  unfold f_M_own f_S_own_n f_S_own_n_21 f_M_isScope
  rcases G.q0 x1 with ⟨h, e⟩ | ⟨j, hj, hj8, rfl, h, e⟩
  · rw [e, h, Option.bind_some, if_pos rfl]
    exact Or.inl ⟨0, rfl, rfl⟩
  · rw [e, Option.bind_some, if_neg one_ne]
    have e0 : ∀ r, ((f_P_hasScope p x2).bind fun v_2 => if v_2 = 0 then f_S_own_j_21 j s p b (I j) else (sr_ald 24 (I j 12) x2).bind fun v_5 => some v_5) = some r → f_S_own_j j s p b (I j) (nI j) x2 = some r := by
      intro r hr
      unfold f_S_own_j
      rw [h, Option.bind_some]
      exact hr
    rcases G.sco x2 with ⟨a1, a2⟩ | ⟨a, ha, rfl, a1, a2⟩
    · rw [a1, Option.bind_some, if_pos rfl]
      refine Or.inr ⟨j, 0, hj, rfl, e0 _ ?_⟩
      rw [a2]
      rfl
    · rw [a1, Option.bind_some, if_neg one_ne, sp_ix 24 24 j a rfl, sp_ald (by omega) (by decide), Option.bind_some]
      refine Or.inr ⟨j, _, hj, rfl, e0 _ ?_⟩
      rw [a2, Option.bind_some, if_neg one_ne, sp_ald24 (by omega), Option.bind_some]
      exact congrArg some (G.rl hj8 12 a (show a < 24 by omega)).symm
theorem linkState_ok (G : GI u s p I n L N B) (b : Nat → Int64) (x1 x2 : Int32) : Q0 I N (f_M_linkState u x1 x2) (f_S_linkState_n s p b x1 x2) (fun j i => f_S_linkState_j j s p b i x1 x2) := by
  have P := G.pl
  have h16 : L ≤ 16 := P.2.2.2.1.2.1
  unfold f_M_linkState f_S_linkState_n f_S_linkState_n_25
  rcases G.q0 x1 with ⟨h, e⟩ | ⟨j, hj, hj8, rfl, h, e⟩
  · rw [e, h, Option.bind_some, if_pos rfl]
    exact Or.inl ⟨-1, rfl, rfl⟩
  · rw [e, Option.bind_some, if_neg one_ne, P.2.2.2.1.1]
    have e0 : ∀ r, (if x2 < 0 then f_S_linkState_j_25 j s p b (I j) else if x2 < nI L then (sr_ald 16 (I j 13) x2).bind fun v_4 => some v_4 else f_S_linkState_j_25 j s p b (I j)) = some r → f_S_linkState_j j s p b (I j) (nI j) x2 = some r := by
      intro r hr
      unfold f_S_linkState_j
      rw [h, Option.bind_some, P.2.2.2.1.2.2]
      exact hr
    rcases sp_inN x2 (N := L) (by omega) with ⟨a0, a1⟩ | ⟨a, ha, rfl, a1⟩
    · rw [a1, Option.bind_some, if_pos rfl]
      refine Or.inr ⟨j, -1, hj, rfl, e0 _ ?_⟩
      by_cases q : x2 < 0
      · rw [if_pos q]
        rfl
      · rw [if_neg q, if_neg (Int32.not_lt.mpr (a0.resolve_left q))]
        rfl
    · rw [a1, Option.bind_some, if_neg one_ne, sp_ix 16 16 j a rfl, sp_ald (by omega) (by decide), Option.bind_some]
      refine Or.inr ⟨j, _, hj, rfl, e0 _ ?_⟩
      rw [if_neg (nI_pos (by omega)), if_pos (nI_lt ha (by omega)), sp_ald16 (by omega), Option.bind_some]
      exact congrArg some (G.rl hj8 13 a (show a < 16 by omega)).symm
theorem kept_ok2 (G : GI u s p I n L N B) (b : Nat → Int64) (x1 x2 : Int32) : Q0 I N (f_M_kept u x1 x2) (f_S_kept_n s p b x1 x2) (fun j i => f_S_kept_j j s p b i x1 x2) := by
  have P := G.pl
  have h24 := P.lt
  unfold f_M_kept f_S_kept_n f_S_kept_n_21 f_M_isScope
  rcases G.q0 x1 with ⟨h, e⟩ | ⟨j, hj, hj8, rfl, h, e⟩
  · rw [e, h, Option.bind_some, if_pos rfl]
    exact Or.inl ⟨-1, rfl, rfl⟩
  · rw [e, Option.bind_some, if_neg one_ne]
    have e0 : ∀ r, ((f_P_hasScope p x2).bind fun v_2 => if v_2 = 0 then f_S_kept_j_21 j s p b (I j) else (f_E_countIn p (I j) x2).bind fun v_5 => some v_5) = some r → f_S_kept_j j s p b (I j) (nI j) x2 = some r := by
      intro r hr
      unfold f_S_kept_j
      rw [h, Option.bind_some]
      exact hr
    rcases G.sco x2 with ⟨a1, a2⟩ | ⟨a, ha, rfl, a1, a2⟩
    · rw [a1, Option.bind_some, if_pos rfl]
      refine Or.inr ⟨j, -1, hj, rfl, e0 _ ?_⟩
      rw [a2]
      rfl
    · obtain ⟨hs, ⟨C, hC, V⟩, h8⟩ := G.gj hj
      obtain ⟨r, hr⟩ := kept_some V (s := a)
      rw [a1, Option.bind_some, if_neg one_ne, kept_ok (G.rl hj8) hj8 V h24 (show a < 24 by omega), hr]
      refine Or.inr ⟨j, r, hj, rfl, e0 _ ?_⟩
      rw [a2, Option.bind_some, if_neg one_ne, hr]
      rfl
theorem events_ok (G : GI u s p I n L N B) (b : Nat → Int64) (x1 : Int32) : Q0 I N (f_M_events u x1) (f_S_events_n s p b x1) (fun j i => f_S_events_j j s p b i x1) := by
  unfold f_M_events f_S_events_n
  rcases G.q0 x1 with ⟨h, e⟩ | ⟨j, hj, hj8, rfl, h, e⟩
  · rw [e, h, Option.bind_some, if_pos rfl]
    exact Or.inl ⟨-1, rfl, rfl⟩
  · rw [e, Option.bind_some, if_neg one_ne, sp_ald hj8 (by decide), Option.bind_some]
    refine Or.inr ⟨j, _, hj, rfl, ?_⟩
    show f_S_events_j j s p b (I j) (nI j) = _
    unfold f_S_events_j
    rw [h, Option.bind_some]
    have := G.rl hj8 19 0 (by decide)
    rw [show ln 19 * j + 0 = j by show 1 * j + 0 = j; omega] at this
    exact congrArg some this.symm
theorem event_ok2 (G : GI u s p I n L N B) (hB : B < 2 ^ 30) (b : Nat → Int64) (x1 x2 : Int32) : Q0 I N (f_M_event u x1 x2) (f_S_event_n s p b x1 x2) (fun j i => f_S_event_j j s p b i x1 x2) := by
  unfold f_M_event f_S_event_n
  rcases G.q0 x1 with ⟨h, e⟩ | ⟨j, hj, hj8, rfl, h, e⟩
  · rw [e, h, Option.bind_some, if_pos rfl]
    exact Or.inl ⟨-1, rfl, rfl⟩
  · obtain ⟨hs, ⟨C, hC, V⟩, h8⟩ := G.gj hj
    rw [e, Option.bind_some, if_neg one_ne, event_ok (G.rl hj8) hj8 V (by omega) x2]
    obtain ⟨r, hr⟩ := before_some V (by omega) x2
    rw [hr]
    refine Or.inr ⟨j, r, hj, rfl, ?_⟩
    show f_S_event_j j s p b (I j) (nI j) x2 = _
    unfold f_S_event_j
    rw [h, Option.bind_some, hr]
    rfl
theorem next_ok2 (G : GI u s p I n L N B) (b : Nat → Int64) (x1 : Int32) : ∃ u', GI u' s p I n L N B ∧ ((∃ r, f_M_next x1 u = some (r, u') ∧ f_S_next_n s p b x1 = some r) ∨ (∃ j r, j < N ∧ f_M_next x1 u = some (r, u') ∧ f_S_next_j j s p b (I j) x1 = some r)) := by
  have P := G.pl
  unfold f_M_next f_S_next_n
  rcases G.q0 x1 with ⟨h, e⟩ | ⟨j, hj, hj8, rfl, h, e⟩
  · rw [e, h, Option.bind_some, if_pos rfl]
    exact ⟨u, G, Or.inl ⟨-1, rfl, rfl⟩⟩
  · have e17 : sr_ald 8 (u 17) (nI j) = some (I j 3 0) := by
      have := at17 (G.sim hj) hj8
      rw [sp_up_s, sp_up_k (by decide)] at this
      exact this
    have D := G.dp (G.Nd (show 0 < N by omega))
    rw [e, Option.bind_some, if_neg one_ne, e17, Option.bind_some]
    have e0 : f_S_next_j j s p b (I j) (nI j) = some (if I j 3 0 = 0 then oI (sp_fd (csB u (I j) L) 0 n) else -1) := by
      unfold f_S_next_j
      rw [h, Option.bind_some, next_ok P D.1, Option.bind_some]
    by_cases h3 : I j 3 0 = 0
    · rw [if_pos h3]
      rw [if_pos h3] at e0
      unfold sr_pf
      rw [Option.bind_some, stepper_ok P hj8 (G.sim hj), Option.bind_some]
      exact ⟨_, G.at33 (nI j), Or.inr ⟨j, _, hj, rfl, e0⟩⟩
    · rw [if_neg h3]
      rw [if_neg h3] at e0
      exact ⟨u, G, Or.inr ⟨j, _, hj, rfl, e0⟩⟩
end
