/-! PURE 25: an entry FAILS; the chain to its end -/
section
variable {j : Nat} {u0 u i p : St} {n L C : Nat}
theorem part4 (P : Pl u0 p n L) (hj : j < 8) (S : Sim j u0 u i) (V : Iv u0 p i n L C) (hC : C + 60 < 2 ^ 30) {s : Nat} (hs : s < n) (fv : Int32) : ∃ u' i' C', C' ≤ C + 30 ∧ f_M_fails (nI s) fv u = some u' ∧ f_I_failEntry p (nI s) fv i = some i' ∧ Sim j u0 u' i' ∧ Iv u0 p i' n L C' ∧ Du p u' i' n (mM p 4 s) := by
  have h24 := P.lt
  obtain ⟨u1, u2, u3, u4, i4, t, e1, e2, e3, t1, t2, t3, t4, e4, e5, S4, V4, h6, h4, hk, g4⟩ := endUndo_ok hj h24 S V (by omega) hs 10 4
  obtain ⟨t', t1', t2', tt⟩ := V.2.2.2.1 s hs
  have : t' = t := by
    rw [t2] at t2'
    exact ((nI_eq (by omega) (by omega)).mp t2').symm
  subst this
  unfold f_M_fails f_I_failEntry
  rw [e1, Option.bind_some, e2, Option.bind_some, e3, Option.bind_some, t4, sp_ix 24 24 j s rfl, sp_ald (by omega) (by decide), Option.bind_some, t3, sp_ix 24 24 j t' rfl, e4, Option.bind_some, S4.pl (show 3 < 17 by decide), sp_ald24 (by omega), Option.bind_some, e5, Option.bind_some, sp_ald24 (by omega), Option.bind_some, h6, t2, P.2.2.1.2.2.1, sp_ald24 (by omega), Option.bind_some, M_st S4 hj (by omega), Option.bind_some, sp_ald24 (by omega), Option.bind_some]
  have m4 : mM p 4 s = 3 * s + 1 := by unfold mM; simp
  have mm3 : (u0 3 t' = 12 → t' < s ∨ t' = 0) → (u0 3 t' = 7 → ∃ Q, Q < s ∧ p 6 t' = nI Q) → (u0 3 t' = 12 ∨ u0 3 t' = 7) → mM p 3 t' < mM p 4 s := by
    intro a1 a2 a3
    rw [m4]
    unfold mM
    simp only [show ¬ (3 : Nat) = 1 by decide, show ¬ (3 : Nat) = 2 by decide, if_false, if_true]
    by_cases q : t' = 0
    · rw [if_pos q]; omega
    · rw [if_neg q]
      rcases a3 with k | k
      · obtain ⟨s', q1, q2, -⟩ := aro_i P.1 t' (by omega) t1
        rw [q2, nI_clamp (by omega)]
        have := a1 k
        omega
      · obtain ⟨Q, q1, q2⟩ := a2 k
        rw [q2, nI_clamp (by omega)]
        omega
  have kk : (u0 3 t' = 12 ∨ u0 3 t' = 7) ∧ (u0 3 t' = 12 → t' < s ∨ t' = 0) ∧ (u0 3 t' = 7 → ∃ Q, Q < s ∧ p 6 t' = nI Q) := by
    rcases tt with ⟨a1, a2⟩ | ⟨a1, Q, a2, ⟨a3, a4⟩ | ⟨a3, a4⟩⟩
    · have hz : u0 3 t' = 12 := by rw [a2]; exact (P.1.2.2.1 (by omega)).2.2.1
      refine ⟨Or.inl hz, fun _ => Or.inr a2, fun h => ?_⟩
      rw [hz] at h
      exact absurd h (by decide)
    · refine ⟨Or.inl a3, fun _ => Or.inl (by omega), fun h => ?_⟩
      rw [a3] at h
      exact absurd h (by decide)
    · refine ⟨Or.inr a3, fun h => ?_, fun _ => ⟨Q, a2, a4⟩⟩
      rw [a3] at h
      exact absurd h (by decide)
  have m3t := mm3 kk.2.1 kk.2.2 kk.1
  by_cases k7 : u0 3 t' = 7
  · rw [if_pos k7, if_pos k7]
    obtain ⟨u5, i5, f3, f4, S5, hk5, D5⟩ := due3 (p := p) (n := n) (a := t') S4 t1 m3t fv
    exact ⟨u5, i5, C + 1, by omega, by rw [f3, Option.bind_some], by rw [f4, Option.bind_some], S5, V4.due hk5, D5⟩
  · rw [if_neg k7, if_neg k7]
    have k12 : u0 3 t' = 12 := kk.1.resolve_right k7
    by_cases q : i4 4 t' = 7
    · rw [if_pos q, if_pos q]
      have hts : t' < s := by
        rcases kk.2.1 k12 with h | h
        · exact h
        · rcases tt with ⟨a1, a2⟩ | ⟨a1, -⟩
          · exfalso
            rw [h4, a2, a1] at q
            revert q
            rw [pk_us]
            decide
          · omega
      obtain ⟨u5, i5, f3, f4, S5, hk5, D5⟩ := due4 (p := p) (n := n) (a := t') (μ := mM p 4 s) S4 t1 (by rw [m4]; unfold mM; simp; omega) fv
      exact ⟨u5, i5, C + 1, by omega, by rw [f3, Option.bind_some], by rw [f4, Option.bind_some], S5, V4.due hk5, D5⟩
    · rw [if_neg q, if_neg q]
      obtain ⟨u6, i6, f1, f2, S6, V6, hk6, g6⟩ := clear_ok hj h24 S4 V4 t1
      obtain ⟨u5, i5, f3, f4, S5, hk5, D5⟩ := due3 (p := p) (n := n) (a := t') S6 t1 m3t fv
      exact ⟨u5, i5, C + 1, by omega, by rw [f1, Option.bind_some, f3, Option.bind_some], by rw [f2, Option.bind_some, f4, Option.bind_some], S5, V6.due hk5, D5⟩
theorem mM_lt {p : St} (P : Pl u0 p n L) {w a : Nat} (hw : w = 1 ∨ w = 2 ∨ w = 3 ∨ w = 4) (ha : a < n) : mM p w a < 300 := by
  have h24 := P.lt
  unfold mM
  rcases hw with rfl | rfl | rfl | rfl
  · simp; omega
  · simp; omega
  · simp only [show ¬ (3 : Nat) = 1 by decide, show ¬ (3 : Nat) = 2 by decide, if_false, if_true]
    rcases Nat.eq_zero_or_pos a with q | q
    · rw [if_pos q]; omega
    · obtain ⟨s', q1, q2, -⟩ := aro_i P.1 a q ha
      rw [if_neg (by omega), q2, nI_clamp (by omega)]
      omega
  · simp; omega
/-- the chain ends, on both sides alike -/
theorem settle_l (P : Pl u0 p n L) (D : Dp u0 p n L) (hj : j < 8) : ∀ μ k f g (u i : St) (C : Nat), Sim j u0 u i → Iv u0 p i n L C → Du p u i n μ → μ ≤ 300 → k + μ ≤ 310 → μ < f → μ < g → C + 30 * μ + 100 < 2 ^ 30 →
    ∃ u' i' C', C' ≤ C + 30 * μ ∧ f_M_settle_2_it f (nI k) u = some u' ∧ f_I_settle_2_it p g (nI k) i = some i' ∧ Sim j u0 u' i' ∧ Iv u0 p i' n L C' ∧ u' 34 0 = 0 ∧ i' 8 0 = 0 := by
  intro μ
  induction μ using Nat.strongRecOn with
  | _ μ ih =>
    intro k f g u i C S V DD hμ hk hf hg hC
    obtain ⟨f, rfl⟩ : ∃ f', f = f' + 1 := ⟨f - 1, by omega⟩
    obtain ⟨g, rfl⟩ : ∃ f', g = f' + 1 := ⟨g - 1, by omega⟩
    have n1 : ¬ (10000 : Int32) ≤ nI k := nI_ge (b := 10000) (by omega) (by omega)
    have n2 : ¬ (1000 : Int32) ≤ nI k := nI_ge (b := 1000) (by omega) (by omega)
    show ∃ u' i' C', _ ∧ f_M_settle_2 _ (nI k) u = _ ∧ f_I_settle_2 _ p (nI k) i = _ ∧ _
    unfold f_M_settle_2 f_I_settle_2 sr_pf
    rw [if_neg n1, if_neg n2]
    rcases DD with ⟨d1, d2⟩ | ⟨w, a, fv, hw, ha, d1, d2, d3, d4, d5, d6⟩
    · rw [if_pos d1, if_pos d2]
      exact ⟨u, i, C, by omega, rfl, rfl, S, V, d1, d2⟩
    · have wne : ¬ nI w = 0 := nI_ne0 (by omega) (by omega)
      rw [d1, d2, if_neg wne, if_neg wne]
      simp only [Option.bind_some]
      have S0 := (S.scr 34 0 (by decide)).scc 8 0 rfl
      have V0 : Iv u0 p (sr_up i 8 0 0) n L C := V.due (fun k h8 _ _ => sp_up_k h8)
      have z34 : (sr_up u 34 0 0) 34 0 = 0 := sp_up_s
      have z8 : (sr_up i 8 0 0) 8 0 = 0 := sp_up_s
      have z35 : (sr_up u 34 0 0) 35 0 = nI a := by rw [sp_up_k (by decide)]; exact d3
      have z9 : (sr_up i 8 0 0) 9 0 = nI a := by rw [sp_up_k (by decide)]; exact d4
      have z36 : (sr_up u 34 0 0) 36 0 = u 36 0 := by rw [sp_up_k (by decide)]
      have z10 : (sr_up i 8 0 0) 10 0 = i 10 0 := by rw [sp_up_k (by decide)]
      rw [z35, z9, z36, z10]
      generalize sr_up u 34 0 0 = u1 at S0 z34
      generalize sr_up i 8 0 0 = i1 at S0 V0 z8
      have go : ∀ (u2 i2 : St) (C2 : Nat), C2 ≤ C + 30 → Sim j u0 u2 i2 → Iv u0 p i2 n L C2 → Du p u2 i2 n (mM p w a) → ∃ u' i' C', C' ≤ C + 30 * μ ∧ f_M_settle_90 (f_M_settle_2_it f) (nI k) u2 = some u' ∧ f_I_settle_101 (f_I_settle_2_it p g) p (nI k) i2 = some i' ∧ Sim j u0 u' i' ∧ Iv u0 p i' n L C' ∧ u' 34 0 = 0 ∧ i' 8 0 = 0 := by
        intro u2 i2 C2 hC2 S2 V2 D2
        obtain ⟨u', i', C', q1, q2, q3, q4, q5, q6⟩ := ih (mM p w a) d6 (k + 1) f g u2 i2 C2 S2 V2 D2 (by omega) (by omega) (by omega) (by omega) (by omega)
        refine ⟨u', i', C', by omega, ?_, ?_, q4, q5, q6⟩
        · unfold f_M_settle_90
          rw [nI_1]
          exact q2
        · unfold f_I_settle_101
          rw [nI_1]
          exact q3
      rcases hw with rfl | rfl | rfl | rfl
      · rw [if_pos (show nI 1 = 1 from rfl), if_pos (show nI 1 = 1 from rfl)]
        obtain ⟨u2, i2, q1, q2, q3, q4, q5⟩ := part1 P D hj S0 V0 (by omega) ha
        rw [q1, Option.bind_some, q2, Option.bind_some]
        exact go u2 i2 (C + 1) (by omega) q3 q4 q5
      · rw [if_neg (show ¬ nI 2 = 1 by decide), if_neg (show ¬ nI 2 = 1 by decide), if_pos (show nI 2 = 2 from rfl), if_pos (show nI 2 = 2 from rfl)]
        obtain ⟨u2, i2, C2, q0, q1, q2, q3, q4, q5⟩ := part2 P D hj S0 V0 (by omega) z34 z8 ha
        rw [q1, Option.bind_some, q2, Option.bind_some]
        exact go u2 i2 C2 (by omega) q3 q4 q5
      · rw [if_neg (show ¬ nI 3 = 1 by decide), if_neg (show ¬ nI 3 = 1 by decide), if_neg (show ¬ nI 3 = 2 by decide), if_neg (show ¬ nI 3 = 2 by decide), if_pos (show nI 3 = 3 from rfl), if_pos (show nI 3 = 3 from rfl)]
        obtain ⟨e1, e2⟩ := d5 (Or.inl rfl)
        obtain ⟨u2, i2, C2, q0, q1, q2, q3, q4, q5⟩ := part3 P hj S0 V0 (by omega) z34 z8 ha fv
        rw [e1, e2, q1, Option.bind_some, q2, Option.bind_some]
        exact go u2 i2 C2 (by omega) q3 q4 q5
      · rw [if_neg (show ¬ nI 4 = 1 by decide), if_neg (show ¬ nI 4 = 1 by decide), if_neg (show ¬ nI 4 = 2 by decide), if_neg (show ¬ nI 4 = 2 by decide), if_neg (show ¬ nI 4 = 3 by decide), if_neg (show ¬ nI 4 = 3 by decide)]
        obtain ⟨e1, e2⟩ := d5 (Or.inr rfl)
        obtain ⟨u2, i2, C2, q0, q1, q2, q3, q4, q5⟩ := part4 P hj S0 V0 (by omega) ha fv
        rw [e1, e2, q1, Option.bind_some, q2, Option.bind_some]
        exact go u2 i2 C2 (by omega) q3 q4 q5
theorem settle_ok (P : Pl u0 p n L) (D : Dp u0 p n L) (hj : j < 8) (S : Sim j u0 u i) (V : Iv u0 p i n L C) (DD : Du p u i n 300) (hC : C + 10000 < 2 ^ 30) : ∃ u' i' C', C' ≤ C + 9000 ∧ f_M_settle u = some u' ∧ f_I_settle p i = some i' ∧ Sim j u0 u' i' ∧ Iv u0 p i' n L C' ∧ u' 34 0 = 0 ∧ i' 8 0 = 0 := by
  obtain ⟨u', i', C', q1, q2, q3, q4, q5, q6⟩ := settle_l P D hj 300 0 10001 1001 u i C S V DD (by omega) (by omega) (by omega) (by omega) (by omega)
  exact ⟨u', i', C', by omega, q2, q3, q4, q5, q6⟩
end
