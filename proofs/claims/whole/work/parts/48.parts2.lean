/-! PURE 19: a part of the chain: REPORTS -/
theorem sp_all_succ {G : Nat → Bool} {n : Nat} : sp_all G (n + 1) = (sp_all G n && G n) := by
  rw [Bool.eq_iff_iff, Bool.and_eq_true, sp_all_i, sp_all_i]
  constructor
  · intro h
    exact ⟨fun i hi => h i (by omega), h n (by omega)⟩
  · rintro ⟨h1, h2⟩ i hi
    by_cases q : i = n
    · rw [q]; exact h2
    · exact h1 i (by omega)
theorem eOk.mv {u0 i : St} {n E : Nat} (h : eOk u0 i n E) {fr to : Int32} (ht : ∀ e c, e < E → i 14 e = nI c → i 16 e = fr → c < n → (to = -1 ∨ (∃ P, P < c ∧ u0 3 P = 12 ∧ to = nI P) ∨ (∃ e' c', e' < E ∧ i 14 e' = nI c' ∧ c' < c ∧ to = nI (24 + e')))) : eOk u0 (mvF i 0 E fr to) n E := by
  obtain ⟨h1, h2, h3⟩ := h
  refine ⟨h1, by rw [mvF_k (by decide)]; exact h2, fun e he => ?_⟩
  obtain ⟨c, c1, c2, c3, c4, c5⟩ := h3 e he
  rw [mvF_k (show (14 : Nat) ≠ 16 by decide), mvF_16]
  refine ⟨c, c1, c2, c3, c4, ?_⟩
  by_cases q : i 16 e = fr
  · rw [if_pos ⟨Nat.zero_le _, he, q⟩]
    exact ht e c he c4 q c2
  · rw [if_neg (fun h => q h.2.2)]
    exact c5
section
variable {j : Nat} {u0 u i p : St} {n L C : Nat}
/-- the entries' lists: all of one list go elsewhere -/
theorem move_ok (hj : j < 8) (hn : n ≤ 24) (S : Sim j u0 u i) (V : Iv u0 p i n L C) {E : Nat} (hE : eOk u0 i n E) {fr to : Int32} (hf : sml fr) (ht : ∀ e c, e < E → i 14 e = nI c → i 16 e = fr → c < n → (to = -1 ∨ (∃ P, P < c ∧ u0 3 P = 12 ∧ to = nI P) ∨ (∃ e' c', e' < E ∧ i 14 e' = nI c' ∧ c' < c ∧ to = nI (24 + e')))) : ∃ u', f_M_carry (dec fr) (dec to) u = some u' ∧ f_E_moveAll p fr to i = some (mvF i 0 E fr to) ∧ Sim j u0 u' (mvF i 0 E fr to) ∧ Iv u0 p (mvF i 0 E fr to) n L C ∧ eOk u0 (mvF i 0 E fr to) n E ∧ (∀ k, 33 ≤ k → u' k = u k) := by
  obtain ⟨u', e1, e2, S2, hk⟩ := carry_ok (p := p) hj hE.1 S hE.2.1 (hE.sml hn) (fr := fr) (to := to) hf
  have hE2 := hE.mv ht
  exact ⟨u', e1, e2, S2, ⟨by rw [mvF_k (by decide)]; exact V.1, V.2.1.congr (mvF_k (by decide)), ⟨E, hE2⟩, V.2.2.2.congr (mvF_k (by decide)) (mvF_k (by decide))⟩, hE2, hk⟩
theorem clear_ok (hj : j < 8) (hn : n ≤ 24) (S : Sim j u0 u i) (V : Iv u0 p i n L C) {s : Nat} (hs : s < n) : ∃ u' i', f_M_carry (nI s) (-1) u = some u' ∧ f_E_clear p (nI s) i = some i' ∧ Sim j u0 u' i' ∧ Iv u0 p i' n L C ∧ (∀ k, k ≠ 16 → i' k = i k) ∧ (∀ k, 33 ≤ k → u' k = u k) := by
  obtain ⟨E, hE⟩ := V.2.2.1
  obtain ⟨u', e1, e2, S2, V2, -, hk⟩ := move_ok hj hn S V hE (fr := nI s) (to := -1) (Or.inr ⟨s, by omega, rfl⟩) (fun _ _ _ _ _ _ => Or.inl rfl)
  rw [dec_n (by omega), dec_m] at e1
  refine ⟨u', _, e1, ?_, S2, V2, fun k hk => mvF_k hk, hk⟩
  unfold f_E_clear
  rw [e2, Option.bind_some]
/-- endUndo: the scope's list is cleared, its status and event, its taker is busy no more -/
theorem endUndo_ok (hj : j < 8) (hn : n ≤ 24) (S : Sim j u0 u i) (V : Iv u0 p i n L C) (hC : C < 2 ^ 30) {s : Nat} (hs : s < n) (st ev : Int32) (hs4 : st = 4 → u0 3 s = 11 := by (intro q; exact absurd q (by decide))) : ∃ u1 u2 u3 u4 i' t, f_M_carry (nI s) (-1) u = some u1 ∧ f_M_put (nI s) st u1 = some u2 ∧ f_M_write ev (nI s) u2 = some u3 ∧ t < n ∧ i 6 s = nI t ∧ u3 24 (24 * j + s) = nI t ∧ u3 33 0 = nI j ∧ sr_ast 192 u3 25 (nI (24 * j + t)) 0 = some u4 ∧ f_I_endUndo p (nI s) st ev i = some i' ∧ Sim j u0 u4 i' ∧ Iv u0 p i' n L (C + 1) ∧ i' 6 = i 6 ∧ i' 4 = upd (i 4) s st ∧ (∀ k, k ≠ 4 → k ≠ 7 → k ≠ 16 → k ≠ 18 → k ≠ 19 → i' k = i k) ∧ (∀ k, 33 ≤ k → u4 k = u k) := by
  obtain ⟨u1, i1, e1, e2, S1, V1, h1, g1⟩ := clear_ok hj hn S V hs
  obtain ⟨u2, u3, i2, e3, e4, e5, S2, V2, h4, h2, g2⟩ := become_ok S1 hj V1 hC (show s < 24 by omega) st ev hs4
  obtain ⟨t, t1, t2, -⟩ := V2.2.2.2.1 s hs
  have h6 : i2 6 = i 6 := by rw [h2 6 (by decide) (by decide) (by decide), h1 6 (by decide)]
  have hu : u3 24 (24 * j + s) = nI t := by
    have := S2.at 6 s (show s < 24 by omega)
    rw [show de 6 (i2 6 s) = i2 6 s from rfl, t2] at this
    exact this
  refine ⟨u1, u2, u3, _, sr_up i2 7 t 0, t, e1, e3, e4, t1, by rw [← h6]; exact t2, hu, S2.2.1, sp_ast (by omega) (by decide), ?_, S2.up 7 t 0 (show t < 24 by omega), ?_, by rw [sp_up_k (by decide)]; exact h6, ?_, ?_, ?_⟩
  · unfold f_I_endUndo
    rw [e2, Option.bind_some, e5, Option.bind_some, sp_ald24 (by omega), Option.bind_some, t2, sp_ast (by omega) (by decide), Option.bind_some]
  · obtain ⟨v1, v2, ⟨E, v3⟩, v4⟩ := V2
    exact ⟨by rw [sp_up_k (by decide)]; exact v1, v2.congr (sp_up_k (by decide)), ⟨E, v3.congr (sp_up_k (by decide)) (sp_up_k (by decide)) (sp_up_k (by decide))⟩, v4.congr (sp_up_k (by decide)) (sp_up_k (by decide))⟩
  · rw [sp_up_k (by decide), h4, h1 4 (by decide)]
  · intro k a1 a2 a3 a4 a5
    rw [sp_up_k a2, h2 k a1 a4 a5, h1 k a3]
  · intro k hk
    rw [sp_up_k (by omega), g2 k hk, g1 k hk]
/-- are all plain parts of a flow done or skipped -/
def acB (u0 i : St) (a c : Nat) : Bool := !decide (u0 1 c = nI a) || (decide (i 4 c = 8) || decide (i 4 c = 9))
theorem C_allEnded (P : Pl u0 p n L) {a : Nat} (ha : a < n) : f_I_allChildrenEnded p i (nI a) = some (bI (sp_all (acB u0 i a) n)) := by
  have h24 := P.lt
  unfold f_I_allChildrenEnded
  rw [nI_1]
  refine Eq.trans (sp_search (fun f x => f_I_allChildrenEnded_4_it p i f (nI a) (nI x)) (fun c => !acB u0 i a c) (fun _ => some 0) (some 1) n (fun f c hc => by
    show f_I_allChildrenEnded_4 _ p i (nI a) (nI c) = _
    unfold f_I_allChildrenEnded_4 f_I_allChildrenEnded_37 f_I_allChildrenEnded_42 f_I_allChildrenEnded_62 acB
    rw [P.2.1, if_neg (nI_ge hc (by omega)), nI_1]
    simp only [sp_ald24 (show c < 24 by omega), Option.bind_some, P.2.2.1.1]
    by_cases h1 : u0 1 c = nI a <;> by_cases h2 : i 4 c = 8 <;> by_cases h3 : i 4 c = 9 <;> simp [h1, h2, h3]) (fun f => by
    show f_I_allChildrenEnded_4 _ p i (nI a) (nI n) = _
    unfold f_I_allChildrenEnded_4
    rw [P.2.1, if_pos (nI_le (Nat.le_refl _) (by omega))]) (n - (a + 1)) (a + 1) 60 (by omega) (by omega)) ?_
  have hlo : ∀ c, c ≤ a → acB u0 i a c = true := by
    intro c hc
    unfold acB
    rcases Nat.eq_zero_or_pos c with h0 | h0
    · subst h0
      rw [(P.1.2.2.1 (by omega)).1, decide_eq_false (fun h => nI_m1 (by omega) h.symm)]
      rfl
    · obtain ⟨q, hq, e1, -⟩ := P.1.par h0 (show c < n by omega)
      have : ¬ nI q = nI a := fun h => by
        have := (nI_eq (by omega) (by omega)).mp h
        omega
      rw [e1, decide_eq_false this]
      rfl
  cases hs : sp_fd (fun c => !acB u0 i a c) (a + 1) (n - (a + 1)) with
  | some x =>
    obtain ⟨q1, q2, q3, -⟩ := sp_fd_some.mp hs
    have : sp_all (acB u0 i a) n = false := by
      cases h : sp_all (acB u0 i a) n with
      | false => rfl
      | true =>
        have := sp_all_i.mp h x (by omega)
        rw [this] at q3
        cases q3
    rw [this]
    rfl
  | none =>
    have hnn := sp_fd_none.mp hs
    have : sp_all (acB u0 i a) n = true := sp_all_i.mpr (fun c hc => by
      rcases Nat.lt_or_ge a c with q | q
      · simpa using hnn c (by omega) (by omega)
      · exact hlo c q)
    rw [this]
    rfl
theorem M_allEnded (P : Pl u0 p n L) (hj : j < 8) (S : Sim j u0 u i) {a : Nat} (ha : a < n) (h9 : u0 3 a = 9) : f_M_report_167_it 60 (nI a) 1 1 u = f_M_report_245 (nI a) (bI (sp_all (acB u0 i a) n)) u := by
  have h24 := P.lt
  have hn : 0 < n := by omega
  have h0 : sp_all (acB u0 i a) 1 = true := by
    rw [sp_all_succ]
    unfold acB
    rw [(P.1.2.2.1 hn).1, decide_eq_false (fun h => nI_m1 (by omega) h.symm)]
    rfl
  have hl := sp_loop (fun f c (x : Int32) => f_M_report_167_it f (nI a) x (nI c) u) (fun x => if x = 0 then f_M_report_245 (nI a) 0 u else f_M_report_245 (nI a) 1 u) (fun c x => if x = 0 then 0 else bI (acB u0 i a c)) (fun c x => x = bI (sp_all (acB u0 i a) c) ∧ 0 < c) n (fun f c x hc I => by
    obtain ⟨I1, I2⟩ := I
    refine ⟨?_, ?_, by omega⟩
    · show f_M_report_167 _ (nI a) x (nI c) u = _
      unfold f_M_report_167 f_M_report_223 f_M_report_227 f_M_report_228 acB
      rw [S.pl (show 0 < 17 by decide), S.pl (show 1 < 17 by decide), S.pl (show 2 < 17 by decide), P.n0, if_neg (nI_ge hc (by omega)), nI_1, M_st S hj (by omega)]
      simp only [sp_ald24 (show c < 24 by omega), Option.bind_some]
      by_cases hx : x = 0
      · simp [hx]
      · by_cases h1 : u0 1 c = nI a
        · have r0 : u0 2 c = 0 := by
            obtain ⟨j', hj', e', -, er, -⟩ := P.1.par I2 hc
            have : j' = a := by
              rw [e'] at h1
              exact (nI_eq (by omega) (by omega)).mp h1
            subst this
            apply Classical.byContradiction
            intro hr
            have := er hr
            rw [h9] at this
            revert this
            decide
          by_cases h2 : i 4 c = 8 <;> by_cases h3 : i 4 c = 9 <;> simp [hx, h1, r0, h2, h3, bI]
        · simp [hx, h1, bI]
    · rw [sp_all_succ, I1]
      cases sp_all (acB u0 i a) c <;> rfl) (fun f x _ => by
    show f_M_report_167 _ (nI a) x (nI n) u = _
    unfold f_M_report_167
    rw [S.pl (show 0 < 17 by decide), P.n0, if_pos (nI_le (Nat.le_refl _) (by omega))]) (n - 1) 1 60 1 (by omega) (by omega) ⟨by rw [h0]; rfl, by omega⟩
  refine Eq.trans hl.1 ?_
  rw [hl.2.1]
  cases sp_all (acB u0 i a) n <;> rfl
end
