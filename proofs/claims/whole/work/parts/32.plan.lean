/-! PURE 3: cls and reference hold the same process; searches among the parts of an activity -/
theorem sp_fd_congr {P Q : Nat → Bool} : ∀ {d i : Nat}, (∀ k, i ≤ k → k < i + d → P k = Q k) → sp_fd P i d = sp_fd Q i d := by
  intro d
  induction d with
  | zero => intro i _; rfl
  | succ d ih =>
    intro i h
    unfold sp_fd
    rw [h i (Nat.le_refl _) (by omega), ih (fun k h1 h2 => h k (by omega) (by omega))]
theorem sp_fd_skip {P : Nat → Bool} : ∀ {a d i : Nat}, (∀ k, i ≤ k → k < i + a → P k = false) → sp_fd P i (a + d) = sp_fd P (i + a) d := by
  intro a
  induction a with
  | zero => intro d i _; rw [Nat.zero_add, Nat.add_zero]
  | succ a ih =>
    intro d i h
    rw [show a + 1 + d = (a + d) + 1 by omega]
    rw [sp_fd, h i (Nat.le_refl _) (by omega)]
    show sp_fd P (i + 1) (a + d) = _
    rw [ih (fun k h1 h2 => h k (by omega) (by omega)), show i + 1 + a = i + (a + 1) by omega]
theorem sp_fd_lt {P : Nat → Bool} {i d j : Nat} (h : sp_fd P i d = some j) : j < i + d := (sp_fd_some.mp h).2.1
theorem oI_lt {P : Nat → Bool} {i d n : Nat} (hn : n < 2 ^ 31) (h : i + d ≤ n) : ∀ j, sp_fd P i d = some j → j < 2 ^ 31 := fun j hj => by
  have := sp_fd_lt hj
  omega
def inB (x a b : Int32) : Bool := decide (a ≤ x) && decide (x ≤ b)
/-- what an activity's numbers may be -/
def fitB (k a b : Int32) : Bool :=
  if k = 1 then inB a 0 4 else if k = 2 then inB a 0 4 && inB b 0 4 else if k = 3 then inB a 1 99 else if k = 5 then inB a 0 7 && inB b 0 4 else if k = 6 then inB b 0 4 else if k = 7 then inB a 0 23 else if k = 10 then inB a 0 4 else if k = 11 then inB a 0 4 else if k = 12 then inB a 0 102 else (decide (k = 0) || decide (k = 4) || decide (k = 8) || decide (k = 9))
/-- the cls's process p is the reference's -/
def Pl (u p : St) (n L : Nat) : Prop :=
  Tr u p n ∧ p 10 0 = nI n ∧ (p 0 = u 1 ∧ p 1 = u 2 ∧ p 2 = u 3 ∧ p 3 = u 4 ∧ p 4 = u 5 ∧ p 5 = u 6) ∧ (u 7 0 = nI L ∧ L ≤ 16 ∧ p 15 0 = nI L) ∧ (p 11 = u 8 ∧ p 12 = u 9 ∧ p 13 = u 10 ∧ p 14 = u 11) ∧
  (∀ c, c < n → fitB (u 3 c) (u 4 c) (u 5 c) = true) ∧ (∀ l, l < L → (∃ a, a < n ∧ u 8 l = nI a) ∧ (∃ b, b < n ∧ u 9 l = nI b) ∧ -1 ≤ u 10 l ∧ u 10 l ≤ 4)
theorem Pl.n0 {u p : St} {n L : Nat} (P : Pl u p n L) : u 0 0 = nI n := P.1.1
theorem Pl.lt {u p : St} {n L : Nat} (P : Pl u p n L) : n ≤ 24 := P.1.2.1
/-- no part of a has a number up to a -/
theorem sp_in_lo {u p : St} {n : Nat} (T : Tr u p n) {a : Nat} {r : Int32} {k : Nat} (ha : a < n) (hk : k ≤ a) : sp_in u (nI a) r k = false := by
  have h24 := T.lt
  unfold sp_in
  rcases Nat.eq_zero_or_pos k with h0 | h0
  · subst h0; rfl
  · obtain ⟨j, hj, e1, -⟩ := T.par h0 (by omega)
    have hne : ¬ nI j = nI a := fun h => by
      have := (nI_eq (by omega) (by omega)).mp h
      omega
    rw [e1, decide_eq_false hne]
    simp
theorem sp_M_next {u : St} {n : Nat} (hn : u 0 0 = nI n) (h24 : n ≤ 24) (a r : Int32) {k : Nat} (hk : k < n) : f_M_nextInRole u a r (nI k) = some (oI (sp_fd (sp_in u a r) (k + 1) (n - (k + 1)))) := by
  unfold f_M_nextInRole
  rw [nI_1]
  rw [sp_search (fun f i => f_M_nextInRole_5_it u f a r (nI i)) (sp_in u a r) (fun i => some (nI i)) (some (-1)) n (fun f i hi => sp_M_next_step hn h24 a r _ hi) (fun f => by
    show f_M_nextInRole_5 _ u a r (nI n) = _
    unfold f_M_nextInRole_5
    rw [hn, if_pos (nI_le (Nat.le_refl _) (by omega))]) (n - (k + 1)) (k + 1) 60 (by omega) (by omega)]
  cases sp_fd (sp_in u a r) (k + 1) (n - (k + 1)) <;> rfl
theorem sp_M_inRole {u : St} {n : Nat} (hn : u 0 0 = nI n) (h24 : n ≤ 24) (a r : Int32) : f_M_inRole u a r = some (oI (sp_fd (sp_in u a r) 0 n)) := by
  unfold f_M_inRole f_M_nextInRole
  have e : (-1 : Int32) + 1 = nI 0 := by decide
  rw [e]
  rw [sp_search (fun f i => f_M_nextInRole_5_it u f a r (nI i)) (sp_in u a r) (fun i => some (nI i)) (some (-1)) n (fun f i hi => sp_M_next_step hn h24 a r _ hi) (fun f => by
    show f_M_nextInRole_5 _ u a r (nI n) = _
    unfold f_M_nextInRole_5
    rw [hn, if_pos (nI_le (Nat.le_refl _) (by omega))]) n 0 60 (by omega) (by omega)]
  cases sp_fd (sp_in u a r) 0 n <;> rfl
theorem sp_P_handlerOf {u p : St} {n L : Nat} (P : Pl u p n L) {a : Nat} (ha : a < n) (r : Int32) : f_P_handlerOf p (nI a) r = some (oI (sp_fd (sp_in u (nI a) r) 0 n)) := by
  have h24 := P.lt
  obtain ⟨T, hn, ⟨e0, e1, -⟩, -⟩ := P
  unfold f_P_handlerOf
  rw [← nI_0]
  rw [sp_search (fun f i => f_P_handlerOf_2_it p f (nI a) r (nI i)) (sp_in u (nI a) r) (fun i => some (nI i)) (some (-1)) n (fun f i hi => by
      show f_P_handlerOf_2 _ p (nI a) r (nI i) = _
      unfold f_P_handlerOf_2 f_P_handlerOf_32
      rw [hn, if_neg (nI_ge hi (by omega)), sp_ald24 (by omega), sp_ald24 (by omega), nI_1, e0, e1]
      simp only [Option.bind_some]
      rcases Nat.eq_zero_or_pos i with h0 | h0
      · subst h0
        rw [if_neg (by rw [(T.2.2.1 hi).1]; exact fun h => nI_m1 (by omega) h.symm)]
        rfl
      · unfold sp_in
        by_cases h1 : u 1 i = nI a <;> by_cases h2 : u 2 i = r <;> simp [h1, h2, h0]) (fun f => by
    show f_P_handlerOf_2 _ p (nI a) r (nI n) = _
    unfold f_P_handlerOf_2
    rw [hn, if_pos (nI_le (Nat.le_refl _) (by omega))]) n 0 60 (by omega) (by omega)]
  cases sp_fd (sp_in u (nI a) r) 0 n <;> rfl
theorem sp_P_childAfter {u p : St} {n L : Nat} (P : Pl u p n L) {a k : Nat} (ha : a < n) (hk : k < n) : f_P_childAfter p (nI a) (nI k) = some (oI (sp_fd (sp_in u (nI a) 0) (k + 1) (n - (k + 1)))) := by
  have h24 := P.lt
  obtain ⟨T, hn, ⟨e0, e1, -⟩, -⟩ := P
  unfold f_P_childAfter
  rw [nI_1]
  rw [sp_search (fun f i => f_P_childAfter_4_it p f (nI a) (nI i)) (sp_in u (nI a) 0) (fun i => some (nI i)) (some (-1)) n (fun f i hi => by
      show f_P_childAfter_4 _ p (nI a) (nI i) = _
      unfold f_P_childAfter_4 f_P_childAfter_33
      rw [hn, if_neg (nI_ge hi (by omega)), sp_ald24 (by omega), sp_ald24 (by omega), nI_1, e0, e1]
      simp only [Option.bind_some]
      rcases Nat.eq_zero_or_pos i with h0 | h0
      · subst h0
        rw [if_neg (by rw [(T.2.2.1 hi).1]; exact fun h => nI_m1 (by omega) h.symm)]
        rfl
      · unfold sp_in
        by_cases h1 : u 1 i = nI a <;> by_cases h2 : u 2 i = 0 <;> simp [h1, h2, h0]) (fun f => by
    show f_P_childAfter_4 _ p (nI a) (nI n) = _
    unfold f_P_childAfter_4
    rw [hn, if_pos (nI_le (Nat.le_refl _) (by omega))]) (n - (k + 1)) (k + 1) 60 (by omega) (by omega)]
  cases sp_fd (sp_in u (nI a) 0) (k + 1) (n - (k + 1)) <;> rfl
theorem sp_first {u p : St} {n : Nat} (T : Tr u p n) {a : Nat} (ha : a < n) (r : Int32) : sp_fd (sp_in u (nI a) r) 0 n = sp_fd (sp_in u (nI a) r) (a + 1) (n - (a + 1)) := by
  have h := sp_fd_skip (P := sp_in u (nI a) r) (a := a + 1) (d := n - (a + 1)) (i := 0) (fun k _ hk => sp_in_lo T ha (by omega))
  rw [show a + 1 + (n - (a + 1)) = n by omega, Nat.zero_add] at h
  exact h
theorem sp_P_firstChild {u p : St} {n L : Nat} (P : Pl u p n L) {a : Nat} (ha : a < n) : f_P_firstChild p (nI a) = some (oI (sp_fd (sp_in u (nI a) 0) 0 n)) := by
  unfold f_P_firstChild
  rw [sp_P_childAfter P ha ha, sp_first P.1 ha]
  rfl
/-- how many parts of a are plain -/
def sp_cn (u : St) (a : Int32) (n : Nat) : Int32 := sp_fl (fun i x => if u 1 i = a ∧ u 2 i = 0 then x + 1 else x) 1 (n - 1) 0
theorem sp_M_children {u : St} {n : Nat} (hn : u 0 0 = nI n) (h24 : n ≤ 24) (h0 : 0 < n) (a : Int32) : f_M_children u a = some (sp_cn u a n) := by
  unfold f_M_children
  have e : (1 : Int32) = nI 1 := by decide
  rw [show f_M_children_4_it u 60 a 0 1 = f_M_children_4_it u 60 a 0 (nI 1) by rw [e]]
  exact (sp_loop (fun f i x => f_M_children_4_it u f a x (nI i)) some (fun i x => if u 1 i = a ∧ u 2 i = 0 then x + 1 else x) (fun _ _ => True) n (fun f i x hi _ => by
    refine ⟨?_, trivial⟩
    show f_M_children_4 _ u a x (nI i) = _
    unfold f_M_children_4 f_M_children_36 f_M_children_37
    rw [hn, if_neg (nI_ge hi (by omega)), sp_ald24 (by omega), sp_ald24 (by omega), nI_1]
    simp only [Option.bind_some]
    by_cases h1 : u 1 i = a <;> by_cases h2 : u 2 i = 0 <;> simp [h1, h2]) (fun f x _ => by
    show f_M_children_4 _ u a x (nI n) = _
    unfold f_M_children_4
    rw [hn, if_pos (nI_le (Nat.le_refl _) (by omega))]) (n - 1) 1 60 0 (by omega) (by omega) trivial).1
theorem sp_P_countChildren {u p : St} {n L : Nat} (P : Pl u p n L) {a : Nat} (ha : a < n) : f_P_countChildren p (nI a) = some (sp_cn u (nI a) n) := by
  have h24 := P.lt
  obtain ⟨T, hn, ⟨e0, e1, -⟩, -⟩ := P
  unfold f_P_countChildren
  have hl := (sp_loop (fun f i x => f_P_countChildren_4_it p f (nI a) x (nI i)) some (fun i x => if u 1 i = nI a ∧ u 2 i = 0 then x + 1 else x) (fun _ _ => True) n (fun f i x hi _ => by
    refine ⟨?_, trivial⟩
    show f_P_countChildren_4 _ p (nI a) x (nI i) = _
    unfold f_P_countChildren_4 f_P_countChildren_34
    rw [hn, if_neg (nI_ge hi (by omega)), sp_ald24 (by omega), sp_ald24 (by omega), nI_1, e0, e1]
    simp only [Option.bind_some]
    by_cases h1 : u 1 i = nI a <;> by_cases h2 : u 2 i = 0 <;> simp [h1, h2]) (fun f x _ => by
    show f_P_countChildren_4 _ p (nI a) x (nI n) = _
    unfold f_P_countChildren_4
    rw [hn, if_pos (nI_le (Nat.le_refl _) (by omega))]) n 0 60 0 (by omega) (by omega) trivial).1
  rw [← nI_0]
  refine Eq.trans hl ?_
  unfold sp_cn
  obtain ⟨n', rfl⟩ : ∃ n', n = n' + 1 := ⟨n - 1, by omega⟩
  rw [sp_fl, if_neg (by rw [(T.2.2.1 (by omega)).1]; exact fun h => nI_m1 (by omega) h.1.symm)]
  rfl
