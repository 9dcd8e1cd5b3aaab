/-! PURE 7: the rules 1 to 4 -/
theorem Tr.han {u p : St} {n : Nat} (T : Tr u p n) : ∀ c, c < n → p 7 c = -1 ∨ ∃ h, h ≤ c ∧ p 7 c = nI h ∧ u 2 h ≠ 0 := by
  intro c
  induction c using Nat.strongRecOn with
  | _ c ih =>
    intro hc
    rcases Nat.eq_zero_or_pos c with h0 | h0
    · subst h0
      exact Or.inl (T.2.2.1 hc).2.2.2.2.1
    · obtain ⟨j, hj, -, -, -, -, e7, -⟩ := T.par h0 hc
      by_cases h2 : u 2 c = 0
      · rw [if_neg (fun h => h h2)] at e7
        rw [e7]
        rcases ih j hj (by omega) with h | ⟨h, h1, h3, h4⟩
        · exact Or.inl h
        · exact Or.inr ⟨h, by omega, h3, h4⟩
      · rw [if_pos h2] at e7
        exact Or.inr ⟨c, Nat.le_refl _, e7, h2⟩
theorem Tr.han0 {u p : St} {n : Nat} (T : Tr u p n) {c : Nat} (hc : c < n) : p 7 c < 0 ↔ p 7 c = -1 := by
  have h24 := T.lt
  rcases T.han c hc with h | ⟨h, h1, h2, -⟩
  · rw [h]; decide
  · rw [h2]
    exact ⟨fun q => absurd q (nI_pos (by omega)), fun q => absurd q (nI_m1 (by omega))⟩
/-- a scope lies in no handler: then the scope around what lies in a handler is the handler's -/
theorem Tr.aroH {u p : St} {n : Nat} (T : Tr u p n) (h2 : ∀ c, c < n → u 3 c = 12 → p 7 c = -1) : ∀ a, a < n → ∀ h, h < 2 ^ 31 → p 7 a = nI h → p 6 a = u 1 h := by
  intro a
  have h24 := T.lt
  induction a using Nat.strongRecOn with
  | _ a ih =>
    intro ha h hh e
    rcases Nat.eq_zero_or_pos a with h0 | h0
    · subst h0
      rw [(T.2.2.1 ha).2.2.2.2.1] at e
      exact absurd e.symm (nI_m1 hh)
    · obtain ⟨j, hj, e1, -, er, e6, e7, -⟩ := T.par h0 ha
      by_cases hr : u 2 a = 0
      · rw [if_neg (fun q => q hr)] at e7
        rw [e7] at e
        have hk : ¬ u 3 j = 12 := fun hk => by
          rw [h2 j (by omega) hk] at e
          exact nI_m1 hh e.symm
        rw [e6, if_neg hk]
        exact ih j hj (by omega) h hh e
      · rw [if_pos hr] at e7
        rw [e7] at e
        have : a = h := (nI_eq (by omega) hh).mp e
        subst this
        rw [e6, if_pos (er hr), e1]
/-- a loop that looks at each of n and ends with 0 at the first that isn't good -/
def sp_all (G : Nat → Bool) (n : Nat) : Bool := (sp_fd (fun i => !G i) 0 n).isNone
theorem sp_all_i {G : Nat → Bool} {n : Nat} : sp_all G n = true ↔ ∀ i, i < n → G i = true := by
  unfold sp_all
  constructor
  · intro h i hi
    have h1 := sp_fd_none.mp (Option.isNone_iff_eq_none.mp h) i (Nat.zero_le _) (by omega)
    simpa using h1
  · intro h
    exact Option.isNone_iff_eq_none.mpr (sp_fd_none.mpr (fun k _ hk => by simp [h k (by omega)]))
theorem sp_allloop (L : Nat → Nat → Option Int32) (G : Nat → Bool) (K : Option Int32) (n : Nat) (hn : n < 60) (hs : ∀ f i, i < n → L (f + 1) i = bif G i then L f (i + 1) else some 0) (he : ∀ f, L (f + 1) n = K) : L 60 0 = bif sp_all G n then K else some 0 := by
  rw [sp_search L (fun i => !G i) (fun _ => some 0) K n (fun f i hi => by rw [hs f i hi]; cases G i <;> rfl) he n 0 60 (by omega) hn]
  unfold sp_all
  cases sp_fd (fun i => !G i) 0 n <;> rfl
/-- may an activity of kind k have c parts -/
def mhB (k c : Int32) : Bool := if k = 8 ∨ k = 9 then decide (1 ≤ c) else if k = 10 then decide (c = 1) || decide (c = 2) else if k = 11 ∨ k = 12 then decide (c = 1) else true
theorem sp_mayHave (k c : Int32) : f_R_mayHave k c = some (bI (mhB k c)) := by
  have h36 : f_R_mayHave_36 c = some (bI (decide (1 ≤ c))) := by
    unfold f_R_mayHave_36
    by_cases h : c < 1
    · rw [if_pos h, decide_eq_false (Int32.not_le.mpr h)]; rfl
    · rw [if_neg h, decide_eq_true (Int32.not_lt.mp h)]; rfl
  have h63 : f_R_mayHave_63 c = some (bI (decide (c = 1))) := by
    unfold f_R_mayHave_63
    by_cases h : c = 1
    · rw [if_pos h, decide_eq_true h]; rfl
    · rw [if_neg h, decide_eq_false h]; rfl
  unfold f_R_mayHave mhB f_R_mayHave_57
  rw [Option.bind_some, h36, h63]
  by_cases h8 : k = 8
  · simp [h8]
  by_cases h9 : k = 9
  · simp [h9]
  by_cases h10 : k = 10
  · subst h10
    by_cases c1 : c = 1
    · simp [c1, bI]
    · by_cases c2 : c = 2
      · simp [c2, bI]
      · simp [c1, c2, bI]
  by_cases h11 : k = 11
  · simp [h11]
  by_cases h12 : k = 12
  · simp [h12]
  simp [h8, h9, h10, h11, h12, bI]
theorem sp_12 (c : Int32) : (1 ≤ c ∧ ¬ 2 < c) ↔ (c = 1 ∨ c = 2) := by
  have e1 : (1 : Int32).toInt = 1 := by decide
  have e2 : (2 : Int32).toInt = 2 := by decide
  rw [Int32.le_iff_toInt_le, Int32.lt_iff_toInt_lt, ← Int32.toInt_inj, ← Int32.toInt_inj]
  omega
theorem sp_rule1_step {u p : St} {n L : Nat} (P : Pl u p n L) {i : Nat} (hi : i < n) (k : Int32 → Option Int32) : f_M_rule1_2 k u (nI i) = bif mhB (u 3 i) (sp_cn u (nI i) n) then k (nI (i + 1)) else some 0 := by
  have h24 := P.lt
  have hf := sp_fit_kind (P.2.2.2.2.2.1 i hi)
  unfold f_M_rule1_2
  rw [P.n0, if_neg (nI_ge hi (by omega)), sp_M_children P.n0 h24 (by omega), Option.bind_some, sp_ald24 (by omega), Option.bind_some]
  generalize sp_cn u (nI i) n = c
  unfold f_M_rule1_32 f_M_rule1_37 f_M_rule1_58 f_M_rule1_74 f_M_rule1_78 f_M_rule1_79
  simp only [sp_ald24 (show i < 24 by omega), Option.bind_some, nI_1]
  have h0 : (1 ≤ c ↔ ¬ c < 1) := Int32.not_lt.symm
  have h12 := sp_12 c
  rcases sp_kinds (u 3 i) with h | h | h | h | h | h | h | h | h | h | h | h | h | h
  · unfold inB at hf
    rw [Bool.and_eq_true] at hf
    have h1 := of_decide_eq_true hf.1
    have h2 := of_decide_eq_true hf.2
    rcases h with h | h
    · exact absurd h (Int32.not_lt.mpr h1)
    · exact absurd h (Int32.not_lt.mpr h2)
  all_goals
    rw [h]
    by_cases c1 : c < 1
    · have n1 : ¬ c = 1 := fun q => by rw [q] at c1; revert c1; decide
      have n2 : ¬ c = 2 := fun q => by rw [q] at c1; revert c1; decide
      simp [mhB, c1, h0, n1, n2]
    · by_cases c2 : 2 < c
      · have n1 : ¬ c = 1 := fun q => by rw [q] at c2; revert c2; decide
        have n2 : ¬ c = 2 := fun q => by rw [q] at c2; revert c2; decide
        simp [mhB, c1, h0, n1, n2, c2]
      · rcases h12.mp ⟨h0.mpr c1, c2⟩ with q | q
        · subst q
          simp [mhB]
        · subst q
          simp [mhB]
theorem sp_rule1 {u p : St} {n L : Nat} (P : Pl u p n L) (b : Nat → Int64) : f_M_rule1 u = some (bI (sp_all (fun i => mhB (u 3 i) (sp_cn u (nI i) n)) n && decide (0 < n))) ∧ f_R_childrenAreRight p b = some (bI (sp_all (fun i => mhB (u 3 i) (sp_cn u (nI i) n)) n && decide (0 < n))) := by
  have h24 := P.lt
  have hz : (nI n ≤ 0 ↔ n = 0) := by
    rw [← nI_0, nI_leI (by omega) (by omega)]
    omega
  constructor
  · unfold f_M_rule1
    rw [← nI_0, sp_allloop (fun f i => f_M_rule1_2_it u f (nI i)) (fun i => mhB (u 3 i) (sp_cn u (nI i) n)) (if n = 0 then some 0 else some 1) n (by omega) (fun f i hi => sp_rule1_step P hi _) (fun f => by
      show f_M_rule1_2 _ u (nI n) = _
      unfold f_M_rule1_2
      rw [P.n0, if_pos (nI_le (Nat.le_refl _) (by omega))]
      simp only [hz])]
    cases sp_all (fun i => mhB (u 3 i) (sp_cn u (nI i) n)) n
    · rfl
    · by_cases h : n = 0
      · simp [h, bI]
      · have h1 : 0 < n := by omega
        simp [h, h1, bI]
  · unfold f_R_childrenAreRight
    rw [← nI_0, sp_allloop (fun f i => f_R_childrenAreRight_2_it p b f (nI i)) (fun i => mhB (u 3 i) (sp_cn u (nI i) n)) (if n = 0 then some 0 else some 1) n (by omega) (fun f i hi => by
      show f_R_childrenAreRight_2 _ p b (nI i) = _
      unfold f_R_childrenAreRight_2
      rw [P.2.1, if_neg (nI_ge hi (by omega)), sp_ald24 (by omega), Option.bind_some, sp_P_countChildren P hi, Option.bind_some, sp_mayHave, Option.bind_some, P.2.2.1.2.2.1, nI_1]
      cases mhB (u 3 i) (sp_cn u (nI i) n) <;> rfl) (fun f => by
      show f_R_childrenAreRight_2 _ p b (nI n) = _
      unfold f_R_childrenAreRight_2
      rw [P.2.1, if_pos (nI_le (Nat.le_refl _) (by omega))]
      simp only [hz])]
    cases sp_all (fun i => mhB (u 3 i) (sp_cn u (nI i) n)) n
    · rfl
    · by_cases h : n = 0
      · simp [h, bI]
      · have h1 : 0 < n := by omega
        simp [h, h1, bI]
def r2B (u p : St) (i : Nat) : Bool := decide (u 3 i = 12 → p 7 i = -1)
theorem sp_rule2 {u p : St} {n L : Nat} (P : Pl u p n L) (b : Nat → Int64) : f_M_rule2 u = some (bI (sp_all (r2B u p) n)) ∧ f_R_handlersAreFlat p b = some (bI (sp_all (r2B u p) n)) := by
  have h24 := P.lt
  constructor
  · unfold f_M_rule2
    rw [← nI_0, sp_allloop (fun f i => f_M_rule2_2_it u f (nI i)) (r2B u p) (some 1) n (by omega) (fun f i hi => by
      show f_M_rule2_2 _ u (nI i) = _
      unfold f_M_rule2_2 f_M_rule2_31 r2B
      rw [P.n0, if_neg (nI_ge hi (by omega)), sp_ald24 (by omega), Option.bind_some, sp_handler P.1 hi, Option.bind_some, nI_1]
      have := P.1.han0 hi
      by_cases h1 : u 3 i = 12 <;> by_cases h2 : p 7 i = -1 <;> simp [h1, h2, this]) (fun f => by
      show f_M_rule2_2 _ u (nI n) = _
      unfold f_M_rule2_2
      rw [P.n0, if_pos (nI_le (Nat.le_refl _) (by omega))])]
    cases sp_all (r2B u p) n <;> rfl
  · unfold f_R_handlersAreFlat
    rw [← nI_0, sp_allloop (fun f i => f_R_handlersAreFlat_2_it p b f (nI i)) (r2B u p) (some 1) n (by omega) (fun f i hi => by
      show f_R_handlersAreFlat_2 _ p b (nI i) = _
      unfold f_R_handlersAreFlat_2 f_R_handlersAreFlat_42 r2B
      rw [P.2.1, if_neg (nI_ge hi (by omega)), sp_ald24 (by omega), Option.bind_some, sp_ald24 (by omega), Option.bind_some, nI_1, P.2.2.1.2.2.1]
      by_cases h1 : u 3 i = 12 <;> by_cases h2 : p 7 i = -1 <;> simp [h1, h2]) (fun f => by
      show f_R_handlersAreFlat_2 _ p b (nI n) = _
      unfold f_R_handlersAreFlat_2
      rw [P.2.1, if_pos (nI_le (Nat.le_refl _) (by omega))])]
    cases sp_all (r2B u p) n <;> rfl
def r3B (u p : St) (i : Nat) : Bool := decide ((u 3 i = 4 → p 7 i ≠ -1 ∧ u 2 (p 7 i).toNatClampNeg = 1) ∧ (u 3 i = 7 → p 7 i ≠ -1))
theorem sp_rule3 {u p : St} {n L : Nat} (P : Pl u p n L) (b : Nat → Int64) : f_M_rule3 u = some (bI (sp_all (r3B u p) n)) ∧ f_R_handlerKindsAreInside p b = some (bI (sp_all (r3B u p) n)) := by
  have h24 := P.lt
  constructor
  · unfold f_M_rule3
    rw [← nI_0, sp_allloop (fun f i => f_M_rule3_2_it u f (nI i)) (r3B u p) (some 1) n (by omega) (fun f i hi => by
      show f_M_rule3_2 _ u (nI i) = _
      unfold f_M_rule3_2 f_M_rule3_40 f_M_rule3_57 r3B
      rw [P.n0, if_neg (nI_ge hi (by omega)), sp_handler P.1 hi, Option.bind_some, sp_ald24 (by omega), Option.bind_some, nI_1]
      rcases P.1.han i hi with h7 | ⟨h, h1, h7, h3⟩
      · rw [h7]
        have q1 : (-1 : Int32) < 0 := by decide
        have q2 : ¬ (0 : Int32) ≤ -1 := by decide
        by_cases k4 : u 3 i = 4
        · simp [k4, q1]
        · by_cases k7 : u 3 i = 7 <;> simp [k4, k7, q2]
      · rw [h7, sp_ald24 (show h < 24 by omega), nI_clamp (by omega)]
        have q1 : ¬ nI h < 0 := nI_pos (by omega)
        have q2 : 0 ≤ nI h := nI_pos' (by omega)
        have q3 : ¬ nI h = -1 := nI_m1 (by omega)
        by_cases k4 : u 3 i = 4
        · by_cases r1 : u 2 h = 1 <;> simp [k4, q1, q3, r1]
        · by_cases k7 : u 3 i = 7 <;> simp [k4, k7, q2, q3]) (fun f => by
      show f_M_rule3_2 _ u (nI n) = _
      unfold f_M_rule3_2
      rw [P.n0, if_pos (nI_le (Nat.le_refl _) (by omega))])]
    cases sp_all (r3B u p) n <;> rfl
  · unfold f_R_handlerKindsAreInside
    rw [← nI_0, sp_allloop (fun f i => f_R_handlerKindsAreInside_2_it p b f (nI i)) (r3B u p) (some 1) n (by omega) (fun f i hi => by
      show f_R_handlerKindsAreInside_2 _ p b (nI i) = _
      unfold f_R_handlerKindsAreInside_2 f_R_handlerKindsAreInside_33 f_R_handlerKindsAreInside_55 f_R_handlerKindsAreInside_56 f_R_handlerKindsAreInside_78 f_R_handlerKindsAreInside_98 r3B
      rw [P.2.1, if_neg (nI_ge hi (by omega)), sp_ald24 (by omega), Option.bind_some, nI_1]
      simp only [sp_ald24 (show i < 24 by omega), Option.bind_some, P.2.2.1.2.2.1, P.2.2.1.2.1]
      rcases P.1.han i hi with h7 | ⟨h, h1, h7, h3⟩
      · rw [h7]
        by_cases k4 : u 3 i = 4
        · simp [k4]
        · by_cases k7 : u 3 i = 7 <;> simp [k4, k7]
      · rw [h7, sp_ald24 (show h < 24 by omega), nI_clamp (by omega)]
        have q3 : ¬ nI h = -1 := nI_m1 (by omega)
        by_cases k4 : u 3 i = 4
        · by_cases r1 : u 2 h = 1 <;> simp [k4, q3, r1]
        · by_cases k7 : u 3 i = 7 <;> by_cases r1 : u 2 h = 1 <;> simp [k4, k7, q3, r1]) (fun f => by
      show f_R_handlerKindsAreInside_2 _ p b (nI n) = _
      unfold f_R_handlerKindsAreInside_2
      rw [P.2.1, if_pos (nI_le (Nat.le_refl _) (by omega))])]
    cases sp_all (r3B u p) n <;> rfl
def r4f (u p : St) (a i : Nat) : Bool := decide (u 3 i = 9) && (wi p a i && decide (p 7 i ≠ -1))
def r4B (u p : St) (n a : Nat) : Bool := decide (u 3 a = 7 → (sp_fd (r4f u p a) 0 n = none ∧ (u 4 a = 0 ∨ (u 4 a < nI n ∧ u 3 (u 4 a).toNatClampNeg = 12 ∧ p 6 (u 4 a).toNatClampNeg = p 6 a))))
theorem sp_wi_lt {u p : St} {n : Nat} (T : Tr u p n) {a b : Nat} (hb : b < n) (h : wi p a b = true) : b < a := by
  unfold wi at h
  rw [Bool.and_eq_true] at h
  have h1 := of_decide_eq_true h.1
  have h2 := T.le hb a h.2
  omega
theorem sp_p7 {u p : St} {n L : Nat} (P : Pl u p n L) {a : Nat} (ha : a < n) (hk : u 3 a = 7) : ∃ j, j < 24 ∧ u 4 a = nI j := by
  have hf := P.2.2.2.2.2.1 a ha
  rw [hk] at hf
  have hf : inB (u 4 a) 0 23 = true := hf
  unfold inB at hf
  rw [Bool.and_eq_true] at hf
  obtain ⟨j, hj, e⟩ := nI_of2 (M := 23) (n := 23) (by decide) (Int32.not_lt.mpr (of_decide_eq_true hf.1)) (of_decide_eq_true hf.2)
  exact ⟨j, by omega, e⟩
theorem sp_rule4 {u p : St} {n L : Nat} (P : Pl u p n L) (b : Nat → Int64) (h2 : ∀ c, c < n → u 3 c = 12 → p 7 c = -1) (h3 : ∀ c, c < n → u 3 c = 7 → p 7 c ≠ -1) : f_M_rule4 u = some (bI (sp_all (r4B u p n) n)) ∧ f_R_compensatesAreRight p b = some (bI (sp_all (r4B u p n) n)) := by
  have h24 := P.lt
  constructor
  · unfold f_M_rule4
    rw [← nI_0, sp_allloop (fun f i => f_M_rule4_2_it u f (nI i)) (r4B u p n) (some 1) n (by omega) (fun f i hi => by
      show f_M_rule4_2 _ u (nI i) = _
      unfold f_M_rule4_2
      rw [P.n0, if_neg (nI_ge hi (by omega)), sp_ald24 (by omega), Option.bind_some]
      by_cases k7 : u 3 i = 7
      · rw [if_pos k7, ← nI_0]
        obtain ⟨j, hj, ej⟩ := sp_p7 P hi k7
        have hh := h3 i hi k7
        obtain ⟨h, hh1, hh2, -⟩ : ∃ h, h ≤ i ∧ p 7 i = nI h ∧ u 2 h ≠ 0 := by
          rcases P.1.han i hi with q | q
          · exact absurd q hh
          · exact q
        have har := P.1.aroH h2 i hi h (by omega) hh2
        rw [sp_search (fun f x => f_M_rule4_23_it (f_M_rule4_2_it u _) u f (nI i) (nI x)) (r4f u p i) (fun _ => some 0) (if u 4 i = 0 ∨ (u 4 i < nI n ∧ u 3 (u 4 i).toNatClampNeg = 12 ∧ p 6 (u 4 i).toNatClampNeg = p 6 i) then f_M_rule4_2_it u f (nI (i + 1)) else some 0) n (fun f x hx => by
          show f_M_rule4_23 _ _ u (nI i) (nI x) = _
          unfold f_M_rule4_23 f_M_rule4_61 r4f
          rw [P.n0, if_neg (nI_ge hx (by omega)), sp_ald24 (by omega), Option.bind_some, sp_below P.1 hi hx, Option.bind_some, sp_handler P.1 hx, Option.bind_some, nI_1]
          have hq := P.1.han0 hx
          by_cases k9 : u 3 x = 9
          · cases hw : wi p i x
            · simp [k9, bI]
            · by_cases q7 : p 7 x = -1 <;> simp [k9, bI, q7, hq]
          · simp [k9]) (fun f => by
          show f_M_rule4_23 _ _ u (nI i) (nI n) = _
          unfold f_M_rule4_23 f_M_rule4_117
          rw [P.n0, if_pos (nI_le (Nat.le_refl _) (by omega)), sp_ald24 (by omega), Option.bind_some, nI_1]
          by_cases e0 : u 4 i = 0
          · simp [e0]
          · rw [if_neg e0, ej]
            by_cases ln : nI n ≤ nI j
            · rw [if_pos ln, if_neg (by rw [← ej]; simp [e0]; intro q; exact absurd (ej ▸ q) (Int32.not_lt.mpr ln))]
            · have hjn : j < n := by
                rw [nI_leI (by omega) (by omega)] at ln
                omega
              rw [if_neg ln, sp_ald24 (by omega), Option.bind_some, nI_clamp (by omega), sp_around P.1 hjn, Option.bind_some, sp_handler P.1 hi, Option.bind_some, hh2, sp_ald24 (by omega), Option.bind_some, har]
              have l1 : nI j < nI n := nI_lt hjn (by omega)
              have e1 : ¬ nI j = 0 := by rw [← ej]; exact e0
              by_cases k12 : u 3 j = 12 <;> by_cases k6 : p 6 j = u 1 h <;> simp [k12, k6, l1, e1]) n 0 60 (by omega) (by omega)]
        unfold r4B
        cases hs : sp_fd (r4f u p i) 0 n with
        | some x => simp [k7, nI_0]
        | none =>
          by_cases hc : u 4 i = 0 ∨ (u 4 i < nI n ∧ u 3 (u 4 i).toNatClampNeg = 12 ∧ p 6 (u 4 i).toNatClampNeg = p 6 i)
          · simp only [if_pos hc]
            simp [k7, hc]
          · simp only [if_neg hc]
            simp [k7, hc, nI_0]
      · rw [if_neg k7]
        unfold f_M_rule4_117 r4B
        rw [nI_1]
        simp [k7]) (fun f => by
      show f_M_rule4_2 _ u (nI n) = _
      unfold f_M_rule4_2
      rw [P.n0, if_pos (nI_le (Nat.le_refl _) (by omega))])]
    cases sp_all (r4B u p n) n <;> rfl
  · unfold f_R_compensatesAreRight
    rw [← nI_0, sp_allloop (fun f i => f_R_compensatesAreRight_2_it p b f (nI i)) (r4B u p n) (some 1) n (by omega) (fun f i hi => by
      show f_R_compensatesAreRight_2 _ p b (nI i) = _
      unfold f_R_compensatesAreRight_2 f_R_compensatesAreRight_54
      rw [P.2.1, if_neg (nI_ge hi (by omega)), sp_ald24 (by omega), Option.bind_some, P.2.2.1.2.2.1, nI_1]
      by_cases k7 : u 3 i = 7
      · rw [if_pos k7]
        obtain ⟨j, hj, ej⟩ := sp_p7 P hi k7
        have hfl : f_R_isInHandlersFlow p b (nI i) = some (bI (sp_fd (r4f u p i) 0 n).isSome) := by
          unfold f_R_isInHandlersFlow
          rw [← nI_0, sp_search (fun f x => f_R_isInHandlersFlow_2_it p b f (nI i) (nI x)) (r4f u p i) (fun _ => some 1) (some 0) i (fun f x hx => by
            show f_R_isInHandlersFlow_2 _ p b (nI i) (nI x) = _
            unfold f_R_isInHandlersFlow_2 f_R_isInHandlersFlow_48 r4f
            rw [if_neg (nI_ge hx (by omega)), sp_ald24 (by omega), Option.bind_some, sp_ald24 (by omega), Option.bind_some, sp_isBelow P.1 hi (by omega), Option.bind_some, P.2.2.1.2.2.1, nI_1]
            by_cases k9 : u 3 x = 9
            · by_cases q7 : p 7 x = -1
              · simp [k9, q7]
              · cases hw : wi p i x <;> simp [k9, q7, bI]
            · simp [k9]) (fun f => by
            show f_R_isInHandlersFlow_2 _ p b (nI i) (nI i) = _
            unfold f_R_isInHandlersFlow_2
            rw [if_pos (nI_le (Nat.le_refl _) (by omega))]) i 0 60 (by omega) (by omega)]
          have hsame : (sp_fd (r4f u p i) 0 n).isSome = (sp_fd (r4f u p i) 0 i).isSome := by
            cases h1 : sp_fd (r4f u p i) 0 i with
            | some x =>
              obtain ⟨a1, a2, a3, a4⟩ := sp_fd_some.mp h1
              rw [sp_fd_some.mpr ⟨a1, by omega, a3, a4⟩]
            | none =>
              rw [sp_fd_none.mpr (fun k _ hk => ?_)]
              rcases Nat.lt_or_ge k i with q | q
              · exact sp_fd_none.mp h1 k (Nat.zero_le _) (by omega)
              · cases hr : r4f u p i k with
                | false => rfl
                | true =>
                  unfold r4f at hr
                  rw [Bool.and_eq_true, Bool.and_eq_true] at hr
                  have := sp_wi_lt P.1 (by omega) hr.2.1
                  omega
          rw [hsame]
          cases sp_fd (r4f u p i) 0 i <;> rfl
        rw [hfl, Option.bind_some, sp_ald24 (by omega), Option.bind_some, P.2.2.1.2.2.2.1]
        have hmu : f_R_mayUndo p b (nI i) (u 4 i) = some (bI (decide (u 4 i = 0 ∨ (u 4 i < nI n ∧ u 3 (u 4 i).toNatClampNeg = 12 ∧ p 6 (u 4 i).toNatClampNeg = p 6 i)))) := by
          unfold f_R_mayUndo f_R_mayUndo_36 f_P_hasScope f_P_hasActivity
          rw [ej, P.2.1, if_neg (nI_pos (show j < 2 ^ 31 by omega)), nI_clamp (by omega)]
          by_cases e0 : nI j = 0
          · simp [e0, bI]
          · rw [if_neg e0]
            by_cases ln : nI n ≤ nI j
            · have l1 : ¬ nI j < nI n := Int32.not_lt.mpr ln
              rw [if_pos ln]
              simp [e0, l1, bI]
            · have hjn : j < n := by
                rw [nI_leI (by omega) (by omega)] at ln
                omega
              have l1 : nI j < nI n := nI_lt hjn (by omega)
              rw [if_neg ln, sp_ald24 (by omega), sp_ald24 (by omega), sp_ald24 (by omega), P.2.2.1.2.2.1]
              by_cases k12 : u 3 j = 12 <;> by_cases k6 : p 6 j = p 6 i <;> simp [k12, k6, l1, e0, bI]
        rw [hmu, Option.bind_some]
        unfold r4B
        cases hs : sp_fd (r4f u p i) 0 n with
        | some x => simp [k7, bI]
        | none =>
          by_cases hc : u 4 i = 0 ∨ (u 4 i < nI n ∧ u 3 (u 4 i).toNatClampNeg = 12 ∧ p 6 (u 4 i).toNatClampNeg = p 6 i)
          · simp [k7, hc, bI]
          · simp [k7, hc, bI]
      · rw [if_neg k7]
        unfold r4B
        simp [k7]) (fun f => by
      show f_R_compensatesAreRight_2 _ p b (nI n) = _
      unfold f_R_compensatesAreRight_2
      rw [P.2.1, if_pos (nI_le (Nat.le_refl _) (by omega))])]
    cases sp_all (r4B u p n) n <;> rfl
