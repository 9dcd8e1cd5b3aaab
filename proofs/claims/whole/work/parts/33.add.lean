/-! PURE 4: add -/
theorem sp_up {s : St} {k i : Nat} {v : Int32} {k' i' : Nat} : sr_up s k i v k' i' = if k' = k ∧ i' = i then v else s k' i' := by
  by_cases hk : k' = k
  · subst hk
    by_cases hi : i' = i
    · subst hi
      simp [sp_up_s]
    · simp [sp_up_i hi, hi]
  · rw [sp_up_k hk]
    simp [hk]
theorem sp_bit1 {n c : Nat} (hn : n < 32) : bt ((1 : Int32) <<< (nI n &&& 31)) c = decide (c = n) := by
  rcases Nat.lt_or_ge c 32 with hc | hc
  · rw [b_shl n hn 1 hc]
    by_cases h : c = n
    · subst h
      simp
      decide
    · rw [decide_eq_false h]
      by_cases h1 : n ≤ c
      · have h4 : bt 1 (c - n) = false := (by decide +kernel : ∀ i, i < 32 → i ≠ 0 → bt 1 i = false) (c - n) (by omega) (by omega)
        rw [h4, Bool.and_false]
      · simp [h1]
  · rw [b_big hc, decide_eq_false (by omega)]
theorem sp_kinds (k : Int32) : (k < 0 ∨ 12 < k) ∨ k = 0 ∨ k = 1 ∨ k = 2 ∨ k = 3 ∨ k = 4 ∨ k = 5 ∨ k = 6 ∨ k = 7 ∨ k = 8 ∨ k = 9 ∨ k = 10 ∨ k = 11 ∨ k = 12 := by
  rcases pk_ix k (n := 13) (by decide) with h | h | ⟨j, hj, rfl⟩
  · exact Or.inl (Or.inl h)
  · refine Or.inl (Or.inr ?_)
    rw [Int32.lt_iff_toInt_lt]
    rw [Int32.le_iff_toInt_le, nI_toInt (by decide)] at h
    have : (12 : Int32).toInt = 12 := by decide
    omega
  · right
    have : j = 0 ∨ j = 1 ∨ j = 2 ∨ j = 3 ∨ j = 4 ∨ j = 5 ∨ j = 6 ∨ j = 7 ∨ j = 8 ∨ j = 9 ∨ j = 10 ∨ j = 11 ∨ j = 12 := by omega
    rcases this with rfl | rfl | rfl | rfl | rfl | rfl | rfl | rfl | rfl | rfl | rfl | rfl | rfl <;> decide
theorem sp_inn (x a b : Int32) : f_M_in x a b = some (bI (inB x a b)) := by
  unfold f_M_in inB
  by_cases h1 : x < a
  · rw [if_pos h1, decide_eq_false (Int32.not_le.mpr h1)]; rfl
  · rw [if_neg h1, decide_eq_true (Int32.not_lt.mp h1)]
    by_cases h2 : b < x
    · rw [if_pos h2, decide_eq_false (Int32.not_le.mpr h2)]; rfl
    · rw [if_neg h2, decide_eq_true (Int32.not_lt.mp h2)]; rfl
theorem sp_isVar (x : Int32) : f_K_isVariable x = some (bI (inB x 0 4)) := sp_inn x 0 4
theorem sp_zb (b : Bool) : sr_z (bI b) = some () := by cases b <;> rfl
theorem sp_23 {x : Int32} : 24 ≤ x ↔ 23 < x := by
  rw [Int32.le_iff_toInt_le, Int32.lt_iff_toInt_lt]
  have : (24 : Int32).toInt = 24 := by decide
  have : (23 : Int32).toInt = 23 := by decide
  omega
theorem sp_out {k : Int32} (h : k < 0 ∨ 12 < k) (j : Int32) (h1 : 0 ≤ j) (h2 : j ≤ 12) : ¬ k = j := by
  rintro rfl
  rcases h with h | h
  · exact Int32.not_lt.mpr h1 h
  · exact Int32.not_lt.mpr h2 h
theorem sp_fits (k a b : Int32) : f_K_fits k a b = some (bI (fitB k a b)) := by
  rcases sp_kinds k with h | rfl | rfl | rfl | rfl | rfl | rfl | rfl | rfl | rfl | rfl | rfl | rfl | rfl
  · have hk := sp_out h
    unfold f_K_fits f_K_fits_166 fitB
    simp [hk 0 (by decide) (by decide), hk 1 (by decide) (by decide), hk 2 (by decide) (by decide), hk 3 (by decide) (by decide), hk 4 (by decide) (by decide), hk 5 (by decide) (by decide), hk 6 (by decide) (by decide), hk 7 (by decide) (by decide), hk 8 (by decide) (by decide), hk 9 (by decide) (by decide), hk 10 (by decide) (by decide), hk 11 (by decide) (by decide), hk 12 (by decide) (by decide), bI]
  · rfl
  · show (f_K_isVariable a).bind _ = _
    rw [sp_isVar, Option.bind_some, sp_zb]
    rfl
  · show (f_K_isVariable a).bind _ = _
    rw [sp_isVar, Option.bind_some]
    show (if bI (inB a 0 4) = 0 then some 0 else (f_K_isVariable b).bind _) = some (bI (inB a 0 4 && inB b 0 4))
    rw [sp_isVar]
    cases inB a 0 4 <;> cases inB b 0 4 <;> rfl
  · exact sp_inn a 1 99
  · rfl
  · show (if a < 0 then some 0 else if 7 < a then some 0 else (f_K_isVariable b).bind _) = some (bI (inB a 0 7 && inB b 0 4))
    rw [sp_isVar]
    have h := sp_inn a 0 7
    unfold f_M_in at h
    by_cases h1 : a < 0
    · rw [if_pos h1] at h ⊢
      cases hx : inB a 0 7 with
      | false => rfl
      | true => rw [hx] at h; cases h
    · rw [if_neg h1] at h ⊢
      by_cases h2 : 7 < a
      · rw [if_pos h2] at h ⊢
        cases hx : inB a 0 7 with
        | false => rfl
        | true => rw [hx] at h; cases h
      · rw [if_neg h2] at h ⊢
        cases hx : inB a 0 7 with
        | false => rw [hx] at h; cases h
        | true => cases inB b 0 4 <;> rfl
  · show (f_K_isVariable b).bind _ = _
    rw [sp_isVar, Option.bind_some, sp_zb]
    rfl
  · show (if a < 0 then some 0 else if 24 ≤ a then some 0 else some 1) = some (bI (inB a 0 23))
    rw [← sp_inn a 0 23]
    unfold f_M_in
    by_cases h1 : a < 0
    · rw [if_pos h1, if_pos h1]
    · rw [if_neg h1, if_neg h1]
      by_cases h2 : 24 ≤ a
      · rw [if_pos h2, if_pos (sp_23.mp h2)]
      · rw [if_neg h2, if_neg (fun h => h2 (sp_23.mpr h))]
  · rfl
  · rfl
  · show (f_K_isVariable a).bind _ = _
    rw [sp_isVar, Option.bind_some, sp_zb]
    rfl
  · show (f_K_isVariable a).bind _ = _
    rw [sp_isVar, Option.bind_some, sp_zb]
    rfl
  · exact sp_inn a 0 102
theorem sp_nfit (u : St) (k a b : Int32) (hk : inB k 0 12 = true) : f_M_numbersFit u k a b = some (bI (fitB k a b)) := by
  have hb : ∀ z : Bool, f_M_numbersFit_193 u (bI z) = some (bI z) := fun z => by cases z <;> rfl
  rcases sp_kinds k with h | rfl | rfl | rfl | rfl | rfl | rfl | rfl | rfl | rfl | rfl | rfl | rfl | rfl
  · unfold inB at hk
    rw [Bool.and_eq_true] at hk
    have h1 := of_decide_eq_true hk.1
    have h2 := of_decide_eq_true hk.2
    rcases h with h | h
    · exact absurd h (Int32.not_lt.mpr h1)
    · exact absurd h (Int32.not_lt.mpr h2)
  · rfl
  · show (f_M_in a 0 4).bind _ = _
    rw [sp_inn, Option.bind_some]
    exact hb _
  · show (f_M_in a 0 4).bind _ = _
    rw [sp_inn, Option.bind_some]
    show (if bI (inB a 0 4) = 0 then f_M_numbersFit_193 u 0 else (f_M_in b 0 4).bind _) = some (bI (inB a 0 4 && inB b 0 4))
    rw [sp_inn]
    cases inB a 0 4 <;> cases inB b 0 4 <;> rfl
  · show (f_M_in a 1 99).bind _ = _
    rw [sp_inn, Option.bind_some]
    exact hb _
  · rfl
  · show (f_M_in a 0 7).bind _ = _
    rw [sp_inn, Option.bind_some]
    show (if bI (inB a 0 7) = 0 then f_M_numbersFit_193 u 0 else (f_M_in b 0 4).bind _) = some (bI (inB a 0 7 && inB b 0 4))
    rw [sp_inn]
    cases inB a 0 7 <;> cases inB b 0 4 <;> rfl
  · show (f_M_in b 0 4).bind _ = _
    rw [sp_inn, Option.bind_some]
    exact hb _
  · show (f_M_in a 0 23).bind _ = _
    rw [sp_inn, Option.bind_some]
    exact hb _
  · rfl
  · rfl
  · show (f_M_in a 0 4).bind _ = _
    rw [sp_inn, Option.bind_some]
    exact hb _
  · show (f_M_in a 0 4).bind _ = _
    rw [sp_inn, Option.bind_some]
    exact hb _
  · show (f_M_in a 0 102).bind _ = _
    rw [sp_inn, Option.bind_some]
    exact hb _
/-- outside its thirteen kinds nothing fits -/
theorem sp_fit_kind {k a b : Int32} (h : fitB k a b = true) : inB k 0 12 = true := by
  rcases sp_kinds k with h1 | rfl | rfl | rfl | rfl | rfl | rfl | rfl | rfl | rfl | rfl | rfl | rfl | rfl
  · have hk := sp_out h1
    unfold fitB at h
    simp [hk 0 (by decide) (by decide), hk 1 (by decide) (by decide), hk 2 (by decide) (by decide), hk 3 (by decide) (by decide), hk 4 (by decide) (by decide), hk 5 (by decide) (by decide), hk 6 (by decide) (by decide), hk 7 (by decide) (by decide), hk 8 (by decide) (by decide), hk 9 (by decide) (by decide), hk 10 (by decide) (by decide), hk 11 (by decide) (by decide), hk 12 (by decide) (by decide)] at h
  all_goals decide
