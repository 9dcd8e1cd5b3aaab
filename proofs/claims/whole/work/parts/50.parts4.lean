/-! PURE 21: REPORTS, whole -/
section
variable {j : Nat} {u0 u i p : St} {n L C : Nat}
theorem mM_1 {p : St} {s a : Nat} (h : s < a) : mM p 1 s < mM p 2 a := by
  unfold mM
  simp
  omega
/-- opening a part, or completing where there is none -/
theorem open_ok (hj : j < 8) (S : Sim j u0 u i) (V : Iv u0 p i n L C) (h34 : u 34 0 = 0) (h8 : i 8 0 = 0) {s μ : Nat} (hs : s < n) (hm : mM p 1 s < μ) (hn : n ≤ 24) (o : Option Nat) (ho : ∀ c, o = some c → c < n) : ∃ u' i', (if oI o < 0 then f_M_then 1 (nI s) 0 u else f_M_put (oI o) 1 u) = some u' ∧ f_I_openOrComplete p (oI o) (nI s) i = some i' ∧ Sim j u0 u' i' ∧ Iv u0 p i' n L C ∧ Du p u' i' n μ := by
  unfold f_I_openOrComplete
  cases o with
  | none =>
    rw [if_pos (show oI none < 0 by decide), if_pos (show oI none = -1 from rfl)]
    obtain ⟨u', i', e1, e2, S2, hk, D2⟩ := due1 (p := p) (n := n) (a := s) S hs hm 0
    exact ⟨u', i', e1, by rw [e2, Option.bind_some], S2, V.due hk, D2⟩
  | some c =>
    have hc := ho c rfl
    rw [show oI (some c) = nI c from rfl, if_neg (nI_pos (show c < 2 ^ 31 by omega)), if_neg (nI_m1 (show c < 2 ^ 31 by omega))]
    obtain ⟨u', e1, S2, g1⟩ := M_put S hj (show c < 24 by omega) 1
    refine ⟨u', sr_up i 4 c 1, e1, by rw [sp_ast (by omega) (by decide), Option.bind_some], S2, V.st c 1, Or.inl ⟨by rw [g1 34 (by decide)]; exact h34, by rw [sp_up_k (by decide)]; exact h8⟩⟩
theorem part2 (P : Pl u0 p n L) (D : Dp u0 p n L) (hj : j < 8) (S : Sim j u0 u i) (V : Iv u0 p i n L C) (hC : C < 2 ^ 30) (h34 : u 34 0 = 0) (h8 : i 8 0 = 0) {a : Nat} (ha : a < n) : ∃ u' i' C', C' ≤ C + 1 ∧ f_M_report (nI a) u = some u' ∧ f_I_report p (nI a) i = some i' ∧ Sim j u0 u' i' ∧ Iv u0 p i' n L C' ∧ Du p u' i' n (mM p 2 a) := by
  have h24 := P.lt
  unfold f_M_report f_I_report
  rcases Nat.eq_zero_or_pos a with h0 | h0
  · subst h0
    rw [if_pos nI_0, S.2.1, sp_ast hj (by decide), Option.bind_some, sp_ald24 (by omega), Option.bind_some, P.2.2.1.1, (P.1.2.2.1 ha).1, if_neg (by decide)]
    have S2 := S.up 3 0 1 (by decide)
    rw [show ln 3 * j + 0 = j by show 1 * j + 0 = j; omega, show de 3 1 = 1 from rfl, show mk 3 = 17 from rfl] at S2
    refine ⟨_, sr_up i 3 0 1, C, by omega, rfl, rfl, S2, ?_, Or.inl ⟨by rw [sp_up_k (by decide)]; exact h34, by rw [sp_up_k (by decide)]; exact h8⟩⟩
    obtain ⟨v1, v2, ⟨E, v3⟩, v4⟩ := V
    exact ⟨by rw [sp_up_k (by decide)]; exact v1, v2.congr (sp_up_k (by decide)), ⟨E, v3.congr (sp_up_k (by decide)) (sp_up_k (by decide)) (sp_up_k (by decide))⟩, v4.congr (sp_up_k (by decide)) (sp_up_k (by decide))⟩
  · obtain ⟨s, hs, e1a, hk8, her, -⟩ := P.1.par h0 ha
    rw [if_neg (nI_ne0 h0 (by omega)), S.pl (show 1 < 17 by decide), S.pl (show 2 < 17 by decide), S.pl (show 3 < 17 by decide), P.2.2.1.1, P.2.2.1.2.1, P.2.2.1.2.2.1]
    simp only [sp_ald24 (show a < 24 by omega), Option.bind_some, e1a, sp_ald24 (show s < 24 by omega)]
    rw [if_pos (nI_pos' (show s < 2 ^ 31 by omega))]
    rcases P.1.2.2.2.2.2.2 a ha with r | r | r
    · -- a plain part
      have q1 : ¬ u0 2 a = 1 := by rw [r]; decide
      have q2 : ¬ u0 2 a = 2 := by rw [r]; decide
      rw [if_neg q1, if_neg q1, if_neg q2, if_neg q2]
      rcases sp_k8 hk8 (sp_fit_kind (P.2.2.2.2.2.1 s (by omega))) with k | k | k | k | k
      · -- sequence
        rw [k]
        simp only [show ¬ (8 : Int32) = 12 by decide, show ¬ (8 : Int32) = 11 by decide, if_true, if_false]
        have hnx : f_M_nextInRole u (nI s) 0 (nI a) = some (oI (sp_fd (sp_in u0 (nI s) 0) (a + 1) (n - (a + 1)))) := by
          have hin : sp_in u (nI s) 0 = sp_in u0 (nI s) 0 := by
            unfold sp_in
            rw [S.pl (show 1 < 17 by decide), S.pl (show 2 < 17 by decide)]
          rw [sp_M_next (n := n) (by rw [S.pl (show 0 < 17 by decide)]; exact P.n0) h24 (nI s) 0 ha, hin]
        rw [hnx, Option.bind_some, sp_P_childAfter P (show s < n by omega) ha, Option.bind_some]
        obtain ⟨u', i', e1, e2, S2, V2, D2⟩ := open_ok hj S V h34 h8 (show s < n by omega) (mM_1 (p := p) hs) h24 (sp_fd (sp_in u0 (nI s) 0) (a + 1) (n - (a + 1))) (fun c hc => by
          have := sp_fd_lt hc
          omega)
        refine ⟨u', i', C, by omega, ?_, by rw [e2, Option.bind_some], S2, V2, D2⟩
        unfold f_M_report_148
        by_cases q : oI (sp_fd (sp_in u0 (nI s) 0) (a + 1) (n - (a + 1))) < 0
        · rw [if_pos q] at e1 ⊢
          rw [e1, Option.bind_some]
        · rw [if_neg q] at e1 ⊢
          rw [e1, Option.bind_some]
      · -- flow
        rw [k]
        simp only [show ¬ (9 : Int32) = 12 by decide, show ¬ (9 : Int32) = 11 by decide, show ¬ (9 : Int32) = 8 by decide, show ¬ (9 : Int32) = 10 by decide, if_true, if_false]
        rw [M_allEnded P hj S (show s < n by omega) k, C_allEnded P (show s < n by omega), Option.bind_some]
        unfold f_M_report_245
        cases hall : sp_all (acB u0 i s) n with
        | false =>
          obtain ⟨u', e1, S2, g1, g2, g3⟩ := M_then S 0 (nI s) 0
          refine ⟨u', i, C, by omega, ?_, by rw [if_pos (by decide)], S2, V, Or.inl ⟨g1, h8⟩⟩
          rw [show bI false = 0 from rfl, e1, Option.bind_some]
        | true =>
          obtain ⟨u', i', e1, e2, S2, hk, D2⟩ := due1 (p := p) (n := n) (a := s) S (by omega) (mM_1 (p := p) hs) 0
          refine ⟨u', i', C, by omega, ?_, ?_, S2, V.due hk, D2⟩
          · rw [show bI true = 1 from rfl, e1, Option.bind_some]
          · rw [if_neg (by decide)]
            unfold f_I_report_176
            rw [e2, Option.bind_some]
      · -- if
        rw [k]
        simp only [show ¬ (10 : Int32) = 12 by decide, show ¬ (10 : Int32) = 11 by decide, show ¬ (10 : Int32) = 8 by decide, show ¬ (10 : Int32) = 9 by decide, if_true, if_false]
        obtain ⟨u', i', e1, e2, S2, hk, D2⟩ := due1 (p := p) (n := n) (a := s) S (by omega) (mM_1 (p := p) hs) 0
        refine ⟨u', i', C, by omega, by rw [e1, Option.bind_some], ?_, S2, V.due hk, D2⟩
        unfold f_I_report_176
        rw [e2, Option.bind_some]
      · -- while
        rw [k]
        simp only [show ¬ (11 : Int32) = 12 by decide, show ¬ (11 : Int32) = 8 by decide, show ¬ (11 : Int32) = 9 by decide, show ¬ (11 : Int32) = 10 by decide, if_true, if_false]
        obtain ⟨u', e1, S2, g1⟩ := M_put S hj (show s < 24 by omega) 4
        exact ⟨u', sr_up i 4 s 4, C, by omega, by rw [e1, Option.bind_some], by rw [sp_ast (by omega) (by decide), Option.bind_some], S2, V.st s 4 (fun _ => k), Or.inl ⟨by rw [g1 34 (by decide)]; exact h34, by rw [sp_up_k (by decide)]; exact h8⟩⟩
      · -- scope
        rw [k]
        simp only [show ¬ (12 : Int32) = 8 by decide, show ¬ (12 : Int32) = 9 by decide, show ¬ (12 : Int32) = 10 by decide, show ¬ (12 : Int32) = 11 by decide, if_true, if_false]
        obtain ⟨u', i', e1, e2, S2, V2, D2⟩ := endBody_ok P hj S V ha h0 hs k e1a
        exact ⟨u', i', C, by omega, by rw [e1, Option.bind_some], by rw [e2, Option.bind_some], S2, V2, D2⟩
    · -- a fault handler
      rw [if_pos r, if_pos r]
      obtain ⟨u1, i1, e1, e2, S1, V1, hk1, -⟩ := clear_ok hj h24 S V (show s < n by omega)
      obtain ⟨u', i', e3, e4, S2, hk, D2⟩ := due1 (p := p) (n := n) (a := s) S1 (by omega) (mM_1 (p := p) hs) 0
      refine ⟨u', i', C, by omega, ?_, ?_, S2, V1.due hk, D2⟩
      · rw [e1, Option.bind_some, e3, Option.bind_some]
      · rw [e2, Option.bind_some, e4, Option.bind_some]
    · -- an undo handler
      have q1 : ¬ u0 2 a = 1 := by rw [r]; decide
      rw [if_neg q1, if_neg q1, if_pos r, if_pos r]
      obtain ⟨u1, u2, u3, u4, i', t, e1, e2, e3, t1, t2, t3, t4, e4, e5, S4, V4, -, -, hk, g4⟩ := endUndo_ok hj h24 S V hC (show s < n by omega) 12 8
      refine ⟨u4, i', C + 1, Nat.le_refl _, ?_, by rw [e5, Option.bind_some], S4, V4, Or.inl ⟨by rw [g4 34 (by decide)]; exact h34, by rw [hk 8 (by decide) (by decide) (by decide) (by decide) (by decide)]; exact h8⟩⟩
      rw [e1, Option.bind_some, e2, Option.bind_some, e3, Option.bind_some, t4, sp_ix 24 24 j s rfl, sp_ald (by omega) (by decide), Option.bind_some, t3, sp_ix 24 24 j t rfl, e4, Option.bind_some]
end
