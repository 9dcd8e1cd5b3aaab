/-! PURE 22: what a fault ends -/
section
variable {j : Nat} {u0 u i p : St} {n L C : Nat}
/-- where a fault of x goes: the branch r, a part of the scope s around x -/
theorem bra_i (T : Tr u0 p n) : ∀ x, 0 < x → x < n → ∃ r s, 0 < r ∧ r ≤ x ∧ s < r ∧ p 8 x = nI r ∧ u0 1 r = nI s ∧ u0 3 s = 12 ∧ p 6 x = nI s := by
  have h24 := T.lt
  intro x
  induction x using Nat.strongRecOn with
  | _ x ih =>
    intro h0 hx
    obtain ⟨c, hc, e1, -, -, e6, -, e8, -⟩ := T.par h0 hx
    by_cases k : u0 3 c = 12
    · exact ⟨x, c, h0, Nat.le_refl _, hc, by rw [e8, if_pos k], e1, k, by rw [e6, if_pos k]⟩
    · have hc0 : 0 < c := by
        rcases Nat.eq_zero_or_pos c with q | q
        · subst q
          exact absurd (T.2.2.1 (by omega)).2.2.1 k
        · exact q
      obtain ⟨r, s, h1, h2, h3, h4, h5, h6, h7⟩ := ih c hc hc0 (by omega)
      exact ⟨r, s, h1, by omega, h3, by rw [e8, if_neg k]; exact h4, h5, h6, by rw [e6, if_neg k]; exact h7⟩
theorem M_bra (T : Tr u0 p n) (hu : ∀ k, k < 17 → u k = u0 k) (fv : Int32) : ∀ x, 0 < x → x < n → ∀ k f r, k + x < 24 → x < f → p 8 x = nI r → r < 24 → f_M_faults_36_it f fv (nI x) (nI k) u = f_M_faults_72 fv (nI r) u := by
  have h24 := T.lt
  intro x
  induction x using Nat.strongRecOn with
  | _ x ih =>
    intro h0 hx k f r hk hf hr hr24
    obtain ⟨f, rfl⟩ : ∃ f', f = f' + 1 := ⟨f - 1, by omega⟩
    obtain ⟨c, hc, e1, -, -, -, -, e8, -⟩ := T.par h0 hx
    show f_M_faults_36 _ fv (nI x) (nI k) u = _
    unfold f_M_faults_36
    rw [if_neg (show ¬ (24 : Int32) ≤ nI k from nI_ge (b := 24) (by omega) (by omega)), hu 1 (by decide), hu 3 (by decide), sp_ald24 (by omega), Option.bind_some, Option.bind_some, e1, sp_ald24 (by omega), Option.bind_some]
    by_cases k12 : u0 3 c = 12
    · rw [if_pos k12] at e8
      rw [if_pos k12]
      have : x = r := by
        rw [hr] at e8
        exact ((nI_eq (by omega) (by omega)).mp e8).symm
      rw [this]
    · rw [if_neg k12] at e8
      have hc0 : 0 < c := by
        rcases Nat.eq_zero_or_pos c with q | q
        · subst q
          exact absurd (T.2.2.1 (by omega)).2.2.1 k12
        · exact q
      rw [if_neg k12, nI_1]
      exact ih c hc hc0 (by omega) (k + 1) f r (by omega) (by omega) (by rw [← e8]; exact hr) hr24
/-- the lists of the ended scopes go into the list of s -/
def gtF (x : St) (m : Int32) (s E : Nat) : St := fun k => bif Nat.beq k 16 then (fun e => if e < E ∧ 0 ≤ x 16 e ∧ x 16 e < 24 ∧ bt m (x 16 e).toNatClampNeg = true then nI s else x 16 e) else x k
theorem gtF_k {x : St} {m : Int32} {s E k : Nat} (h : k ≠ 16) : gtF x m s E k = x k := by
  have : Nat.beq k 16 = false := by rw [← Bool.not_eq_true]; exact fun h2 => h (Nat.eq_of_beq_eq_true h2)
  simp [gtF, this]
theorem gtF_16 {x : St} {m : Int32} {s E : Nat} (e : Nat) : gtF x m s E 16 e = if e < E ∧ 0 ≤ x 16 e ∧ x 16 e < 24 ∧ bt m (x 16 e).toNatClampNeg = true then nI s else x 16 e := rfl
theorem gtF_up {x : St} {m : Int32} {s E k a : Nat} {v : Int32} (h : k ≠ 16) : sr_up (gtF x m s E) k a v = gtF (sr_up x k a v) m s E := by
  funext k' b
  by_cases hk : k' = 16
  · subst hk
    rw [sp_up_k (fun q => h q.symm), gtF_16, gtF_16, sp_up_k (fun q => h q.symm)]
  · rw [gtF_k hk, sp_up, sp_up, gtF_k hk]
theorem gtF_wr {x : St} {m : Int32} {s E C : Nat} {e a : Int32} : wr (gtF x m s E) C e a = gtF (wr x C e a) m s E := by
  unfold wr
  rw [gtF_up (by decide), gtF_up (by decide)]
theorem gtF_0 {x : St} {s E : Nat} : gtF x 0 s E = x := by
  funext k b
  by_cases hk : k = 16
  · subst hk
    rw [gtF_16, if_neg]
    rintro ⟨-, -, -, h⟩
    rw [b_0] at h
    cases h
  · rw [gtF_k hk]
/-- one more ended scope -/
theorem gtF_mv {x : St} {m : Int32} {s E a : Nat} (ha : a < 24) (hs : s < a) (hE : ∀ e, e < E → sml (x 16 e)) : mvF (gtF x m s E) 0 E (nI a) (nI s) = gtF x (m ||| ((1 : Int32) <<< (nI a &&& 31))) s E := by
  funext k e
  by_cases hk : k = 16
  · subst hk
    rw [mvF_16, gtF_16, gtF_16]
    by_cases he : e < E
    · have sa : ¬ nI s = nI a := fun h => by
        have := (nI_eq (by omega) (by omega)).mp h
        omega
      rcases hE e he with h | ⟨P, hP, h⟩
      · rw [h]
        have q1 : ¬ (0 : Int32) ≤ -1 := by decide
        have q2 : ¬ (-1 : Int32) = nI a := fun q => nI_m1 (by omega) q.symm
        simp [q1, q2]
      · rw [h, nI_clamp (by omega), b_or, sp_bit1 (by omega)]
        have q0 : (0 : Int32) ≤ nI P := nI_pos' (by omega)
        by_cases q1 : P < 24
        · have q2 : nI P < 24 := nI_lt (b := 24) q1 (by decide)
          by_cases q3 : P = a
          · subst q3
            by_cases q4 : bt m P = true
            · simp [he, q0, q2, q4, sa]
            · simp [he, q0, q2, q4]
          · have q5 : ¬ nI P = nI a := fun q => q3 ((nI_eq (by omega) (by omega)).mp q)
            by_cases q4 : bt m P = true
            · simp [he, q0, q2, q4, sa]
            · simp [he, q0, q2, q4, q3, q5]
        · have q2 : ¬ nI P < 24 := nI_nlt (b := 24) (by omega) (by omega)
          have q5 : ¬ nI P = nI a := fun q => by
            have := (nI_eq (by omega) (by omega)).mp q
            omega
          simp [q2, q5]
    · simp [he]
  · rw [mvF_k hk, gtF_k hk, gtF_k hk]
/-- an ended activity that is no scope has no list -/
theorem gtF_no {x : St} {m : Int32} {s E a : Nat} (ha : a < 24) (hE : ∀ e, e < E → sml (x 16 e)) (h : ∀ e, e < E → ¬ x 16 e = nI a) : gtF x m s E = gtF x (m ||| ((1 : Int32) <<< (nI a &&& 31))) s E := by
  funext k e
  by_cases hk : k = 16
  · subst hk
    rw [gtF_16, gtF_16]
    by_cases he : e < E
    · rcases hE e he with q | ⟨P, hP, q⟩
      · rw [q]
        have q1 : ¬ (0 : Int32) ≤ -1 := by decide
        simp [q1]
      · have hne : ¬ P = a := fun w => h e he (by rw [q, w])
        rw [q, nI_clamp (by omega), b_or, sp_bit1 (by omega), decide_eq_false hne, Bool.or_false]
    · simp [he]
  · rw [gtF_k hk, gtF_k hk]
theorem C_gather (P : Pl u0 p n L) {m : Int32} {s E : Nat} (hE : E ≤ 16) : ∀ d e g (x : St), e + d = E → d < g → x 17 0 = nI E → (∀ a, e ≤ a → a < E → sml (x 16 a)) → ∃ y, f_E_gather_2_it p g m (nI s) (nI e) x = some y ∧ (∀ k, k ≠ 16 → y k = x k) ∧ ∀ a, y 16 a = if e ≤ a ∧ a < E ∧ 0 ≤ x 16 a ∧ x 16 a < 24 ∧ bt m (x 16 a).toNatClampNeg = true then nI s else x 16 a := by
  intro d
  induction d with
  | zero =>
    intro e g x he hg h17 hs
    have : e = E := by omega
    subst this
    obtain ⟨g, rfl⟩ : ∃ f', g = f' + 1 := ⟨g - 1, by omega⟩
    refine ⟨x, ?_, fun _ _ => rfl, fun a => by rw [if_neg (by omega)]⟩
    show f_E_gather_2 _ p m (nI s) (nI e) x = _
    unfold f_E_gather_2
    rw [h17, if_pos (nI_le (Nat.le_refl _) (by omega))]
  | succ d ih =>
    intro e g x he hg h17 hs
    obtain ⟨g, rfl⟩ : ∃ f', g = f' + 1 := ⟨g - 1, by omega⟩
    have skip : ¬ (0 ≤ x 16 e ∧ x 16 e < 24 ∧ bt m (x 16 e).toNatClampNeg = true) → ∃ y, f_E_gather_62 (f_E_gather_2_it p g) p m (nI s) (nI e) x = some y ∧ (∀ k, k ≠ 16 → y k = x k) ∧ ∀ a, y 16 a = if e ≤ a ∧ a < E ∧ 0 ≤ x 16 a ∧ x 16 a < 24 ∧ bt m (x 16 a).toNatClampNeg = true then nI s else x 16 a := by
      intro hno
      obtain ⟨y, e1, h1, h2⟩ := ih (e + 1) g x (by omega) (by omega) h17 (fun a q1 q2 => hs a (by omega) q2)
      refine ⟨y, ?_, h1, fun a => ?_⟩
      · unfold f_E_gather_62
        rw [nI_1]
        exact e1
      · rw [h2 a]
        by_cases q : a = e
        · subst q
          rw [if_neg (by omega), if_neg (fun w => hno w.2.2)]
        · by_cases w : e ≤ a
          · simp [w, show e + 1 ≤ a by omega]
          · simp [w, show ¬ e + 1 ≤ a by omega]
    show ∃ y, f_E_gather_2 _ p m (nI s) (nI e) x = _ ∧ _
    unfold f_E_gather_2 f_E_gather_34 f_E_gather_35
    rw [h17, if_neg (nI_ge (show e < E by omega) (by omega))]
    simp only [sp_ald16 (show e < 16 by omega), Option.bind_some, show ¬ ((1 : Int32) = 0) by decide, if_true, if_false, eq_self]
    rcases hs e (Nat.le_refl _) (by omega) with h | ⟨P, hP, h⟩
    · rw [if_pos (show x 16 e < 0 by rw [h]; decide)]
      exact skip (fun w => by rw [h] at w; exact absurd w.1 (by decide))
    · rw [if_neg (show ¬ x 16 e < 0 by rw [h]; exact nI_pos (by omega))]
      by_cases q : P < 24
      · rw [if_neg (show ¬ 24 ≤ x 16 e by rw [h]; exact nI_ge (b := 24) q (by decide)), h, sp_isIn (by omega), Option.bind_some]
        cases hb : bt m P with
        | false =>
          rw [if_pos (by decide)]
          rw [h] at skip
          exact skip (fun w => by rw [nI_clamp (by omega), hb] at w; exact absurd w.2.2 (by decide))
        | true =>
          rw [if_neg (by decide), sp_ast (by omega) (by decide), Option.bind_some]
          obtain ⟨y, e1, h1, h2⟩ := ih (e + 1) g (sr_up x 16 e (nI s)) (by omega) (by omega) (by rw [sp_up_k (by decide)]; exact h17) (fun a q1 q2 => by rw [sp_up_i (by omega)]; exact hs a (by omega) q2)
          refine ⟨y, ?_, fun k hk => by rw [h1 k hk, sp_up_k hk], fun a => ?_⟩
          · unfold f_E_gather_62
            rw [nI_1]
            exact e1
          · rw [h2 a]
            by_cases w : a = e
            · subst w
              rw [if_neg (by omega), sp_up_s, if_pos ⟨Nat.le_refl _, by omega, by rw [h]; exact nI_pos' (by omega), by rw [h]; exact nI_lt (b := 24) q (by decide), by rw [h, nI_clamp (by omega)]; exact hb⟩]
            · rw [sp_up_i w]
              by_cases w2 : e ≤ a
              · simp [w2, show e + 1 ≤ a by omega]
              · simp [w2, show ¬ e + 1 ≤ a by omega]
      · rw [if_pos (show 24 ≤ x 16 e by rw [h]; exact nI_le (a := 24) (by omega) (by omega))]
        exact skip (fun w => by rw [h] at w; exact absurd w.2.1 (nI_nlt (b := 24) (by omega) (by omega)))
end
