/-! PURE 29: undoLatest -/
section
variable {j : Nat} {u0 u i p : St} {n L C : Nat}
def ltB (i : St) (q w : Int32) (e : Nat) : Bool := decide (i 16 e = q) && (decide (w = 0) || decide (i 14 e = w))
theorem C_latest {E : Nat} (hE : eOk u0 i n E) (q w : Int32) : f_E_latestIn p i q w = some (oI (sp_lst (ltB i q w) E)) := by
  have h16 := hE.1
  unfold f_E_latestIn
  rw [hE.2.1, sp_downs (fun f c => f_E_latestIn_7_it p i f q w (nI c - 1)) (ltB i q w) (fun e => some (nI e)) (some (-1)) E (fun f c hc => by
    show f_E_latestIn_7 _ p i q w (nI (c + 1) - 1) = _
    unfold f_E_latestIn_7 f_E_latestIn_37 ltB
    rw [nI_pred, if_neg (nI_pos (by omega)), sp_ald16 (by omega), sp_ald16 (by omega), nI_m]
    simp only [Option.bind_some]
    by_cases h1 : i 16 c = q <;> by_cases h2 : w = 0 <;> by_cases h3 : i 14 c = w <;> simp [h1, h2, h3]) (fun f => by
    show f_E_latestIn_7 _ p i q w (nI 0 - 1) = _
    unfold f_E_latestIn_7
    rw [if_pos (by decide)]) E 60 (Nat.le_refl _) (by omega)]
  cases sp_lst (ltB i q w) E <;> rfl
theorem M_latest (P : Pl u0 p n L) (hj : j < 8) (S : Sim j u0 u i) {E : Nat} (hE : eOk u0 i n E) {a Q : Nat} (ha : a < n) (hQ : Q < 24) {w : Int32} (hw : w = if u0 3 a = 7 then u0 4 a else 0) : f_M_undo_31_it 60 (nI a) (nI Q) (-1) 0 u = f_M_undo_31 (fun _ _ _ _ _ => none) (nI a) (nI Q) (oI (sp_lst (ltB i (nI Q) w) E)) (nI E) u := by
  have h24 := P.lt
  have h16 := hE.1
  have hu : u 27 j = nI E := by
    have := S.at 17 0 (by decide)
    rw [show ln 17 * j + 0 = j by show 1 * j + 0 = j; omega, show de 17 (i 17 0) = i 17 0 from rfl, hE.2.1] at this
    exact this
  have hl := sp_loop (fun f e (x : Int32) => f_M_undo_31_it f (nI a) (nI Q) x (nI e) u) (fun x => f_M_undo_31 (fun _ _ _ _ _ => none) (nI a) (nI Q) x (nI E) u) (fun e x => bif ltB i (nI Q) w e then nI e else x) (fun e x => x = oI (sp_lst (ltB i (nI Q) w) e)) E (fun f e x he I => by
    refine ⟨?_, ?_⟩
    · show f_M_undo_31 _ (nI a) (nI Q) x (nI e) u = _
      have hpl : u 30 (16 * j + e) = dec (i 16 e) := S.at 16 e (show e < 16 by omega)
      have hsc : u 28 (16 * j + e) = i 14 e := S.at 14 e (show e < 16 by omega)
      have hcmp : (dec (i 16 e) = nI Q ↔ i 16 e = nI Q) := by
        have := dec_inj (hE.sml h24 e he) (Or.inr ⟨Q, by omega, rfl⟩ : sml (nI Q))
        rw [dec_n hQ] at this
        exact this
      unfold f_M_undo_31 f_M_undo_89 f_M_undo_94 f_M_undo_125 f_M_undo_126 ltB
      rw [S.2.1, sp_ald hj (by decide), Option.bind_some, hu, if_neg (nI_ge he (by omega)), S.pl (show 3 < 17 by decide), S.pl (show 4 < 17 by decide), sp_ald24 (by omega), sp_ald24 (by omega), sp_ix 16 16 j e rfl, sp_ald (by omega) (by decide), sp_ald (by omega) (by decide), hpl, hsc, nI_1, hw]
      simp only [Option.bind_some, hcmp]
      by_cases k7 : u0 3 a = 7
      · by_cases p0 : u0 4 a = 0
        · by_cases q1 : i 16 e = nI Q <;> simp [k7, p0, q1]
        · by_cases q2 : u0 4 a = i 14 e
          · by_cases q1 : i 16 e = nI Q <;> simp [k7, q2.symm, q1]
          · have q3 : ¬ i 14 e = u0 4 a := fun h => q2 h.symm
            by_cases q1 : i 16 e = nI Q <;> simp [k7, p0, q1, q2, q3]
      · by_cases q1 : i 16 e = nI Q <;> simp [k7, q1]
    · unfold sp_lst
      cases h : ltB i (nI Q) w e with
      | true => rfl
      | false => exact I) (fun f x _ => by
    show f_M_undo_31 _ (nI a) (nI Q) x (nI E) u = _
    unfold f_M_undo_31
    rw [S.2.1, sp_ald hj (by decide), Option.bind_some, Option.bind_some, hu, if_pos (nI_le (Nat.le_refl _) (by omega)), if_pos (nI_le (Nat.le_refl _) (by omega))]) E 0 60 (-1) (by omega) (by omega) rfl
  refine Eq.trans hl.1 ?_
  rw [hl.2]
theorem undoLatest_ok (P : Pl u0 p n L) (D : Dp u0 p n L) (hj : j < 8) (S : Sim j u0 u i) (V : Iv u0 p i n L C) (hC : C < 2 ^ 30) (h34 : u 34 0 = 0) (h8 : i 8 0 = 0) {a : Nat} (ha : a < n) : ∃ u' i' C', C' ≤ C + 1 ∧ f_M_undo (nI a) u = some u' ∧ f_I_undoLatest p (nI a) i = some i' ∧ Sim j u0 u' i' ∧ Iv u0 p i' n L C' ∧ Du p u' i' n 300 := by
  have h24 := P.lt
  obtain ⟨E, hE⟩ := V.2.2.1
  have h16 := hE.1
  have hu : u 27 j = nI E := by
    have := S.at 17 0 (by decide)
    rw [show ln 17 * j + 0 = j by show 1 * j + 0 = j; omega, show de 17 (i 17 0) = i 17 0 from rfl, hE.2.1] at this
    exact this
  obtain ⟨w, hw⟩ : ∃ w, w = if u0 3 a = 7 then u0 4 a else 0 := ⟨_, rfl⟩
  -- the list
  obtain ⟨Q, hQ, hk, hM, hI⟩ : ∃ Q, Q < 24 ∧ ((u0 3 a = 12 ∧ a = Q) ∨ (u0 3 a = 7 ∧ p 6 a = nI Q) ∨ (¬ u0 3 a = 7 ∧ a = Q)) ∧ f_M_undo (nI a) u = f_M_undo_31_it 60 (nI a) (nI Q) (-1) 0 u ∧ f_I_undoLatest p (nI a) i = f_I_undoLatest_60 p (nI a) (bI (decide (u0 3 a = 7))) w (nI Q) i := by
    by_cases k7 : u0 3 a = 7
    · have hne := D.2.2.2.1 a ha (Or.inr k7)
      obtain ⟨h, h1, h2, -⟩ : ∃ h, h ≤ a ∧ p 7 a = nI h ∧ u0 2 h ≠ 0 := by
        rcases P.1.han a ha with q | q
        · exact absurd q hne
        · exact q
      have har := P.1.aroH D.2.2.1 a ha h (by omega) h2
      have ha0 : 0 < a := by
        rcases Nat.eq_zero_or_pos a with q | q
        · subst q
          rw [(P.1.2.2.1 ha).2.2.1] at k7
          exact absurd k7 (by decide)
        · exact q
      obtain ⟨Q, q1, q2, -⟩ := aro_i P.1 a ha0 ha
      refine ⟨Q, by omega, Or.inr (Or.inl ⟨k7, q2⟩), ?_, ?_⟩
      · unfold f_M_undo f_M_undo_25
        rw [S.pl (show 3 < 17 by decide), sp_ald24 (by omega), Option.bind_some, if_pos k7, sp_handler (S.Pl P).1 ha, Option.bind_some, h2, S.pl (show 1 < 17 by decide), sp_ald24 (by omega), Option.bind_some, ← har, q2]
      · unfold f_I_undoLatest f_I_undoLatest_19 f_I_undoLatest_37
        rw [P.2.2.1.2.2.1, sp_ald24 (by omega), Option.bind_some, if_pos k7, if_neg (by decide), sp_ald24 (by omega), Option.bind_some, if_neg (by decide), sp_ald24 (by omega), Option.bind_some, P.2.2.1.2.2.2.1, q2, hw, if_pos k7, decide_eq_true k7]
        rfl
    · refine ⟨a, by omega, Or.inr (Or.inr ⟨k7, rfl⟩), ?_, ?_⟩
      · unfold f_M_undo f_M_undo_25
        rw [S.pl (show 3 < 17 by decide), sp_ald24 (by omega), Option.bind_some, if_neg k7]
      · unfold f_I_undoLatest f_I_undoLatest_19 f_I_undoLatest_37
        rw [P.2.2.1.2.2.1, sp_ald24 (by omega), Option.bind_some, if_neg k7, if_pos rfl, if_pos rfl, hw, if_neg k7, decide_eq_false k7]
        rfl
  rw [hM, hI, M_latest P hj S hE ha hQ hw]
  unfold f_M_undo_31 f_I_undoLatest_60
  rw [C_latest hE, Option.bind_some, S.2.1, sp_ald hj (by decide), Option.bind_some, hu, if_pos (nI_le (Nat.le_refl _) (by omega))]
  cases ho : sp_lst (ltB i (nI Q) w) E with
  | some e =>
    obtain ⟨e1, e2, -⟩ := sp_lst_some.mp ho
    unfold ltB at e2
    rw [Bool.and_eq_true] at e2
    rw [show oI (some e) = nI e from rfl, if_neg (nI_pos (show e < 2 ^ 31 by omega)), if_neg (nI_m1 (show e < 2 ^ 31 by omega))]
    obtain ⟨u', i', f1, f2, S2, V2, D2⟩ := undo_ok P hj S V hC h34 h8 ha hE e1 hQ (of_decide_eq_true e2.1) hk 300
    exact ⟨u', i', C + 1, Nat.le_refl _, by rw [f1, Option.bind_some], by rw [f2, Option.bind_some], S2, V2, D2⟩
  | none =>
    rw [show oI none = -1 from rfl, if_pos (by decide), if_pos rfl, S.pl (show 3 < 17 by decide), sp_ald24 (by omega), Option.bind_some, M_st S hj (by omega), Option.bind_some, sp_ald24 (by omega), Option.bind_some]
    by_cases k7 : u0 3 a = 7
    · rw [if_pos k7, decide_eq_true k7, if_neg (by decide)]
      obtain ⟨u', i', e1, e2, S2, hk2, D2⟩ := due1 (p := p) (n := n) (a := a) (μ := 300) S ha (mM_lt P (Or.inl rfl) ha) 0
      exact ⟨u', i', C, by omega, by rw [e1, Option.bind_some], by rw [e2, Option.bind_some], S2, V.due hk2, D2⟩
    · have hQa : a = Q := by
        rcases hk with ⟨-, h⟩ | ⟨h, -⟩ | ⟨-, h⟩
        · exact h
        · exact absurd h k7
        · exact h
      have hw0 : w = 0 := by rw [hw, if_neg k7]
      have hno : ∀ e, e < E → ¬ i 16 e = nI a := by
        intro e he q
        have := sp_lst_none.mp ho e he
        unfold ltB at this
        rw [hw0, ← hQa, decide_eq_true q] at this
        cases this
      rw [if_neg k7, decide_eq_false k7, if_pos (show bI false = 0 from rfl)]
      by_cases q7 : i 4 a = 7
      · rw [if_pos q7, if_pos q7]
        have hmv : mvF i 0 E (nI a) (-1) = i := by
          funext k b
          by_cases hk16 : k = 16
          · subst hk16
            rw [mvF_16]
            by_cases hb : b < E
            · rw [if_neg (fun h => hno b hb h.2.2)]
            · rw [if_neg (fun h => hb h.2.1)]
          · rw [mvF_k hk16]
        obtain ⟨u1, u2, i2, e1, e2, e3, S2, V2, -, hk2, g2⟩ := become_ok S hj V hC (show a < 24 by omega) 12 8
        obtain ⟨t, t1, t2, -⟩ := V2.2.2.2.1 a ha
        have hu3 : u2 24 (24 * j + a) = nI t := by
          have := S2.at 6 a (show a < 24 by omega)
          rw [show de 6 (i2 6 a) = i2 6 a from rfl, t2] at this
          exact this
        have S3 := S2.up 7 t 0 (show t < 24 by omega)
        obtain ⟨-, -, c2, -⟩ := carry_ok (p := p) hj hE.1 S hE.2.1 (hE.sml h24) (fr := nI a) (to := -1) (Or.inr ⟨a, by omega, rfl⟩)
        refine ⟨_, sr_up i2 7 t 0, C + 1, Nat.le_refl _, ?_, ?_, S3, V2.set 7 t 0 (by decide) (by decide) (by decide) (by decide) (by decide) (by decide), Or.inl ⟨?_, ?_⟩⟩
        · rw [e1, Option.bind_some, e2, Option.bind_some, S2.2.1, sp_ix 24 24 j a rfl, sp_ald (by omega) (by decide), Option.bind_some, hu3, sp_ix 24 24 j t rfl, sp_ast (by omega) (by decide), Option.bind_some]
          rfl
        · unfold f_I_endUndo f_E_clear
          rw [c2, Option.bind_some, hmv, Option.bind_some, e3, Option.bind_some, sp_ald24 (by omega), Option.bind_some, t2, sp_ast (by omega) (by decide), Option.bind_some, Option.bind_some]
        · have b1 : (34 : Nat) ≠ mk 7 := by decide
          rw [sp_up_k b1, g2 34 (by decide)]; exact h34
        · rw [sp_up_k (by decide), hk2 8 (by decide) (by decide) (by decide)]; exact h8
      · rw [if_neg q7, if_neg q7, sp_ix 24 24 j a rfl, sp_ald (by omega) (by decide), Option.bind_some, sp_ald24 (by omega), Option.bind_some]
        have hf : u 23 (24 * j + a) = i 5 a := S.at 5 a (show a < 24 by omega)
        rw [hf]
        obtain ⟨u', i', e1, e2, S2, hk2, D2⟩ := due3 (p := p) (n := n) (a := a) (μ := 300) S ha (mM_lt P (Or.inr (Or.inr (Or.inl rfl))) ha) (i 5 a)
        exact ⟨u', i', C, by omega, by rw [e1, Option.bind_some], by rw [e2, Option.bind_some], S2, V.due hk2, D2⟩
end
