/-! PURE 20: REPORTS -/
theorem up_comm {x : St} {k k' a a' : Nat} {v v' : Int32} (h : k ≠ k') : sr_up (sr_up x k a v) k' a' v' = sr_up (sr_up x k' a' v') k a v := by
  funext m b
  rw [sp_up, sp_up, sp_up, sp_up]
  by_cases h1 : m = k' ∧ b = a'
  · have h2 : ¬ (m = k ∧ b = a) := fun q => h (q.1.symm.trans h1.1)
    rw [if_pos h1, if_neg h2, if_pos h1]
  · rw [if_neg h1, if_neg h1]
section
variable {j : Nat} {u0 u i p : St} {n L C : Nat}
/-- a scope's body is done: an entry is made, or there is no room for one -/
theorem endBody_ok (P : Pl u0 p n L) (hj : j < 8) (S : Sim j u0 u i) (V : Iv u0 p i n L C) {s a : Nat} (ha : a < n) (ha0 : 0 < a) (hs : s < a) (k12 : u0 3 s = 12) (e1a : u0 1 a = nI s) : ∃ u' i', f_M_bodyDone (nI a) u = some u' ∧ f_I_endBody p (nI s) (nI a) i = some i' ∧ Sim j u0 u' i' ∧ Iv u0 p i' n L C ∧ Du p u' i' n (mM p 2 a) := by
  have h24 := P.lt
  have m1 : mM p 1 s < mM p 2 a := by
    unfold mM
    simp
    omega
  have m3 : mM p 3 a < mM p 2 a := by
    obtain ⟨q, q1, q2, -⟩ := aro_i P.1 a ha0 ha
    unfold mM
    simp only [show ¬ a = 0 by omega, if_false, q2, nI_clamp (show q < 2 ^ 31 by omega)]
    simp
    omega
  unfold f_M_bodyDone f_I_endBody
  rw [S.pl (show 1 < 17 by decide), sp_ald24 (by omega), Option.bind_some, e1a]
  rcases Nat.eq_zero_or_pos s with h0 | h0
  · subst h0
    obtain ⟨u', i', e1, e2, S2, hk, D2⟩ := due1 (p := p) (n := n) (a := 0) S (by omega) m1 0
    refine ⟨u', i', ?_, ?_, S2, V.due hk, D2⟩
    · rw [if_pos nI_0]
      have e1' : f_M_then 1 0 0 u = some u' := e1
      rw [e1', Option.bind_some]
    · rw [if_pos nI_0, e2, Option.bind_some]
  · have ns : ¬ nI s = 0 := nI_ne0 h0 (by omega)
    obtain ⟨E, hE⟩ := V.2.2.1
    have hu : u 27 j = nI E := by
      have := S.at 17 0 (by decide)
      rw [show ln 17 * j + 0 = j by show 1 * j + 0 = j; omega, show de 17 (i 17 0) = i 17 0 from rfl, hE.2.1] at this
      exact this
    have hE16 := hE.1
    rw [if_neg ns, if_neg ns, S.2.1, sp_ald hj (by decide), Option.bind_some, hu]
    unfold f_E_areUsedUp
    rw [hE.2.1]
    by_cases hfull : E < 16
    · have lt : nI E < 16 := nI_lt (b := 16) hfull (by decide)
      rw [if_pos lt, if_pos lt, Option.bind_some, if_pos rfl]
      obtain ⟨P1, p1, p2, p3⟩ := aro_i P.1 s h0 (by omega)
      obtain ⟨u1, c1, c2, S1, g1⟩ := carry_ok (p := p) hj hE.1 S hE.2.1 (hE.sml h24) (fr := nI s) (to := nI (24 + E)) (Or.inr ⟨s, by omega, rfl⟩)
      rw [dec_n (show s < 24 by omega), dec_e (show E < 1000 by omega)] at c1
      have add1 : (100 : Int32) + nI E = nI (100 + E) := nI_add 100 E
      have add2 : (24 : Int32) + nI E = nI (24 + E) := nI_add 24 E
      rw [add1, c1, Option.bind_some]
      -- the reference's updates, one by one
      have S2 := S1.up 17 0 (nI (E + 1)) (by decide)
      rw [show ln 17 * j + 0 = j by show 1 * j + 0 = j; omega, show de 17 (nI (E + 1)) = nI (E + 1) from rfl, show mk 17 = 27 from rfl] at S2
      have hu1 : u1 27 j = nI E := by
        have := S1.at 17 0 (by decide)
        rw [show ln 17 * j + 0 = j by show 1 * j + 0 = j; omega, show de 17 (mvF i 0 E (nI s) (nI (24 + E)) 17 0) = mvF i 0 E (nI s) (nI (24 + E)) 17 0 from rfl, mvF_k (by decide), hE.2.1] at this
        exact this
      rw [S1.2.1, sp_ald hj (by decide), Option.bind_some, hu1, nI_1, sp_ast hj (by decide), Option.bind_some, S2.2.1, sp_ix 16 16 j E rfl, sp_ast (by omega) (by decide), Option.bind_some]
      have S3 := S2.up 14 E (nI s) (show E < 16 from hfull)
      rw [show sr_up (sr_up u1 27 j (nI (E + 1))) 28 (16 * j + E) (nI s) = sr_up (sr_up u1 27 j (nI (E + 1))) (mk 14) (ln 14 * j + E) (de 14 (nI s)) from rfl, S3.2.1, sp_ix 24 24 j s rfl, sp_ald (by omega) (by decide), Option.bind_some]
      have hown : (sr_up (sr_up u1 27 j (nI (E + 1))) (mk 14) (ln 14 * j + E) (de 14 (nI s))) 22 (24 * j + s) = i 12 s := by
        have := S3.at 12 s (show s < 24 by omega)
        refine Eq.trans this ?_
        show sr_up (sr_up (mvF i 0 E (nI s) (nI (24 + E))) 17 0 (nI (E + 1))) 14 E (nI s) 12 s = i 12 s
        rw [sp_up_k (by decide), sp_up_k (by decide), mvF_k (by decide)]
      rw [hown, sp_ix 16 16 j E rfl, sp_ast (by omega) (by decide), Option.bind_some]
      have S4 := S3.up 15 E (i 12 s) (show E < 16 from hfull)
      rw [show sr_up (sr_up (sr_up u1 27 j (nI (E + 1))) (mk 14) (ln 14 * j + E) (de 14 (nI s))) 29 (16 * j + E) (i 12 s) = sr_up (sr_up (sr_up u1 27 j (nI (E + 1))) (mk 14) (ln 14 * j + E) (de 14 (nI s))) (mk 15) (ln 15 * j + E) (de 15 (i 12 s)) from rfl, sp_around (S4.Pl P).1 (show s < n by omega), Option.bind_some, S4.2.1, sp_ix 16 16 j E rfl, p2, sp_ast (by omega) (by decide), Option.bind_some]
      have S5 := S4.up 16 E (nI P1) (show E < 16 from hfull)
      rw [show de 16 (nI P1) = dec (nI P1) from rfl, dec_n (by omega)] at S5
      rw [show sr_up (sr_up (sr_up (sr_up u1 27 j (nI (E + 1))) (mk 14) (ln 14 * j + E) (de 14 (nI s))) (mk 15) (ln 15 * j + E) (de 15 (i 12 s))) 30 (16 * j + E) (nI P1) = sr_up (sr_up (sr_up (sr_up u1 27 j (nI (E + 1))) (mk 14) (ln 14 * j + E) (de 14 (nI s))) (mk 15) (ln 15 * j + E) (de 15 (i 12 s))) (mk 16) (ln 16 * j + E) (nI P1) from rfl]
      -- the cls's state, in its own order
      have hord : sr_up (sr_up (sr_up (sr_up (mvF i 0 E (nI s) (nI (24 + E))) 17 0 (nI (E + 1))) 14 E (nI s)) 15 E (i 12 s)) 16 E (nI P1) = sr_up (sr_up (sr_up (sr_up (mvF i 0 E (nI s) (nI (24 + E))) 14 E (nI s)) 15 E (i 12 s)) 16 E (nI P1)) 17 0 (nI (E + 1)) := by
        rw [up_comm (show (17 : Nat) ≠ 14 by decide), up_comm (show (17 : Nat) ≠ 15 by decide), up_comm (show (17 : Nat) ≠ 16 by decide)]
      rw [hord] at S5
      have hmake : f_E_make p (nI s) (i 12 s) (nI P1) i = some (sr_up (sr_up (sr_up (sr_up (mvF i 0 E (nI s) (nI (24 + E))) 14 E (nI s)) 15 E (i 12 s)) 16 E (nI P1)) 17 0 (nI (E + 1))) := by
        unfold f_E_make sr_pf
        rw [hE.2.1, if_pos lt, add2, c2, Option.bind_some, mvF_k (show (17 : Nat) ≠ 16 by decide), hE.2.1, sp_ast hfull (by decide)]
        simp only [Option.bind_some]
        rw [sp_up_k (show (17 : Nat) ≠ 14 by decide), mvF_k (show (17 : Nat) ≠ 16 by decide), hE.2.1, sp_ast hfull (by decide)]
        simp only [Option.bind_some]
        rw [sp_up_k (show (17 : Nat) ≠ 15 by decide), sp_up_k (show (17 : Nat) ≠ 14 by decide), mvF_k (show (17 : Nat) ≠ 16 by decide), hE.2.1, sp_ast hfull (by decide)]
        simp only [Option.bind_some]
        rw [sp_up_k (show (17 : Nat) ≠ 16 by decide), sp_up_k (show (17 : Nat) ≠ 15 by decide), sp_up_k (show (17 : Nat) ≠ 14 by decide), mvF_k (show (17 : Nat) ≠ 16 by decide), hE.2.1, nI_1]
      rw [sp_ald24 (show s < 24 by omega), Option.bind_some, sp_ald24 (show s < 24 by omega), Option.bind_some, p2, hmake, Option.bind_some]
      generalize hX : sr_up (sr_up (sr_up (sr_up (mvF i 0 E (nI s) (nI (24 + E))) 14 E (nI s)) 15 E (i 12 s)) 16 E (nI P1)) 17 0 (nI (E + 1)) = X at S5
      have x14 : ∀ e, X 14 e = if e = E then nI s else i 14 e := by
        intro e
        rw [← hX, sp_up_k (by decide), sp_up_k (by decide), sp_up_k (by decide), sp_up, mvF_k (by decide)]
        simp
      have x16 : ∀ e, X 16 e = if e = E then nI P1 else if e < E ∧ i 16 e = nI s then nI (24 + E) else i 16 e := by
        intro e
        rw [← hX, sp_up_k (by decide), sp_up, sp_up_k (by decide), sp_up_k (by decide), mvF_16]
        simp
      have x17 : X 17 0 = nI (E + 1) := by rw [← hX, sp_up_s]
      have xk : ∀ k, k ≠ 14 → k ≠ 15 → k ≠ 16 → k ≠ 17 → X k = i k := by
        intro k a1 a2 a3 a4
        rw [← hX, sp_up_k a4, sp_up_k a3, sp_up_k a2, sp_up_k a1, mvF_k a3]
      have VX : Iv u0 p X n L C := by
        refine ⟨by rw [xk 19 (by decide) (by decide) (by decide) (by decide)]; exact V.1, V.2.1.congr (xk 13 (by decide) (by decide) (by decide) (by decide)), ⟨E + 1, by omega, x17, fun e he => ?_⟩, V.2.2.2.congr (xk 6 (by decide) (by decide) (by decide) (by decide)) (xk 4 (by decide) (by decide) (by decide) (by decide))⟩
        rw [x14, x16]
        by_cases q : e = E
        · rw [if_pos q, if_pos q]
          exact ⟨s, h0, by omega, k12, rfl, Or.inr (Or.inl ⟨P1, p1, p3, rfl⟩)⟩
        · rw [if_neg q, if_neg q]
          obtain ⟨c, d1, d2, d3, d4, d5⟩ := hE.2.2 e (by omega)
          refine ⟨c, d1, d2, d3, d4, ?_⟩
          by_cases w : i 16 e = nI s
          · rw [if_pos ⟨by omega, w⟩]
            refine Or.inr (Or.inr ⟨E, s, by omega, by rw [x14, if_pos rfl], ?_, rfl⟩)
            rcases d5 with h | ⟨Q, h1, h2, h3⟩ | ⟨e', c', h1, h2, h3, h4⟩
            · rw [w] at h
              exact absurd h (nI_m1 (by omega))
            · rw [w] at h3
              have := (nI_eq (show s < 2 ^ 31 by omega) (show Q < 2 ^ 31 by omega)).mp h3
              omega
            · rw [w] at h4
              have := (nI_eq (show s < 2 ^ 31 by omega) (show 24 + e' < 2 ^ 31 by omega)).mp h4
              omega
          · rw [if_neg (fun h => w h.2)]
            rcases d5 with h | h | ⟨e', c', h1, h2, h3, h4⟩
            · exact Or.inl h
            · exact Or.inr (Or.inl h)
            · exact Or.inr (Or.inr ⟨e', c', by omega, by rw [x14, if_neg (by omega)]; exact h2, h3, h4⟩)
      obtain ⟨u', i', e1, e2, S6, hk, D2⟩ := due1 (p := p) (n := n) (a := s) S5 (by omega) m1 0
      refine ⟨u', i', ?_, ?_, S6, VX.due hk, D2⟩
      · rw [e1, Option.bind_some]
      · rw [e2, Option.bind_some]
    · have nlt : ¬ nI E < 16 := nI_nlt (b := 16) (by omega) (by omega)
      rw [if_neg nlt, if_neg nlt, Option.bind_some, if_neg (by decide)]
      obtain ⟨u', i', e1, e2, S2, hk, D2⟩ := due3 (p := p) (n := n) (a := a) S ha m3 102
      refine ⟨u', i', ?_, ?_, S2, V.due hk, D2⟩
      · rw [e1, Option.bind_some]
      · rw [e2, Option.bind_some]
end
