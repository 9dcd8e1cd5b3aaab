/-! PURE 2: the tree of activities: what the reference climbs for, the cls keeps -/
def bI (b : Bool) : Int32 := bif b then 1 else 0
theorem bI_0 {b : Bool} : bI b = 0 ↔ b = false := by cases b <;> decide
theorem bI_1 {b : Bool} : bI b = 1 ↔ b = true := by cases b <;> decide
theorem sp_isIn {x : Int32} {a : Nat} (h : a < 32) : f_P_isIn (nI a) x = some (bI (bt x a)) := by
  unfold f_P_isIn
  have h0 : (x >>> (nI a &&& 31)) &&& 1 = 0 ↔ bt x a = false := by
    constructor
    · intro h1
      have h2 := b_and (x >>> (nI a &&& 31)) 1 0
      rw [h1, b_0, b_sshr a h x (by omega)] at h2
      have h3 : bt 1 0 = true := by decide
      rw [h3, if_pos (by omega)] at h2
      simpa using h2.symm
    · intro h1
      apply b_ext
      intro i hi
      rw [b_and, b_0, b_sshr a h x hi]
      by_cases hi0 : i = 0
      · subst hi0
        rw [if_pos (by omega)]
        simp [h1]
      · have h4 : bt 1 i = false := (by decide +kernel : ∀ i, i < 32 → i ≠ 0 → bt 1 i = false) i hi hi0
        rw [h4, Bool.and_false]
  cases hb : bt x a with
  | false => rw [if_pos (h0.mpr hb)]; rfl
  | true => rw [if_neg (fun h1 => by rw [h0.mp h1] at hb; cases hb)]; rfl
/-- the tree of n activities, and what the cls keeps of it -/
def Tr (u p : St) (n : Nat) : Prop :=
  u 0 0 = nI n ∧ n ≤ 24 ∧ (0 < n → u 1 0 = -1 ∧ u 2 0 = 0 ∧ u 3 0 = 12 ∧ p 6 0 = -1 ∧ p 7 0 = -1 ∧ p 8 0 = 0) ∧
  (∀ c, 0 < c → c < n → ∃ j, j < c ∧ u 1 c = nI j ∧ 8 ≤ u 3 j ∧ (u 2 c ≠ 0 → u 3 j = 12) ∧ p 6 c = (if u 3 j = 12 then nI j else p 6 j) ∧ p 7 c = (if u 2 c ≠ 0 then nI c else p 7 j) ∧ p 8 c = (if u 3 j = 12 then nI c else p 8 j) ∧ (∀ b, b < n → bt (p 9 b) c = (decide (c = b) || bt (p 9 b) j))) ∧
  (∀ b, b < n → bt (p 9 b) 0 = decide (b = 0)) ∧ (∀ b c, b < n → n ≤ c → bt (p 9 b) c = false) ∧ (∀ c, c < n → u 2 c = 0 ∨ u 2 c = 1 ∨ u 2 c = 2)
theorem Tr.lt {u p : St} {n : Nat} (T : Tr u p n) : n ≤ 24 := T.2.1
theorem Tr.par {u p : St} {n : Nat} (T : Tr u p n) {c : Nat} (h0 : 0 < c) (hc : c < n) : ∃ j, j < c ∧ u 1 c = nI j ∧ 8 ≤ u 3 j ∧ (u 2 c ≠ 0 → u 3 j = 12) ∧ p 6 c = (if u 3 j = 12 then nI j else p 6 j) ∧ p 7 c = (if u 2 c ≠ 0 then nI c else p 7 j) ∧ p 8 c = (if u 3 j = 12 then nI c else p 8 j) ∧ (∀ b, b < n → bt (p 9 b) c = (decide (c = b) || bt (p 9 b) j)) := T.2.2.2.1 c h0 hc
theorem Tr.le {u p : St} {n : Nat} (T : Tr u p n) {b : Nat} (hb : b < n) : ∀ c, bt (p 9 b) c = true → b ≤ c ∧ c < n := by
  intro c
  induction c using Nat.strongRecOn with
  | _ c ih =>
    intro h
    rcases Nat.lt_or_ge c n with hc | hc
    · rcases Nat.eq_zero_or_pos c with h0 | h0
      · subst h0
        rw [T.2.2.2.2.1 b hb] at h
        have := of_decide_eq_true h
        omega
      · obtain ⟨j, hj, -, -, -, -, -, -, hw⟩ := T.par h0 hc
        rw [hw b hb] at h
        rcases Bool.or_eq_true_iff.mp h with h1 | h1
        · have := of_decide_eq_true h1
          omega
        · have := ih j hj h1
          omega
    · rw [T.2.2.2.2.2.1 b c hb hc] at h
      cases h
theorem Tr.self {u p : St} {n : Nat} (T : Tr u p n) {b : Nat} (hb : b < n) : bt (p 9 b) b = true := by
  rcases Nat.eq_zero_or_pos b with h0 | h0
  · subst h0
    rw [T.2.2.2.2.1 0 hb]
    rfl
  · obtain ⟨j, hj, -, -, -, -, -, -, hw⟩ := T.par h0 hb
    rw [hw b hb]
    simp
theorem sp_around_l {u p : St} {n : Nat} (T : Tr u p n) : ∀ c, c < n → ∀ k f, k + c < 24 → c < f → f_M_around_17_it u f (nI c) (nI k) = some (if u 3 c = 12 then nI c else p 6 c) := by
  intro c
  have h24 := T.lt
  induction c using Nat.strongRecOn with
  | _ c ih =>
    intro hc k f hk hf
    obtain ⟨f, rfl⟩ : ∃ f', f = f' + 1 := ⟨f - 1, by omega⟩
    show f_M_around_17 (f_M_around_17_it u f) u (nI c) (nI k) = _
    unfold f_M_around_17 f_M_around_54
    rw [if_neg (show ¬ (24 : Int32) ≤ nI k from nI_ge (b := 24) (by omega) (by omega)), if_neg (nI_pos (by omega)), sp_ald24 (by omega), Option.bind_some]
    by_cases h12 : u 3 c = 12
    · rw [if_pos h12, if_pos h12]
    · rw [if_neg h12, if_neg h12]
      rcases Nat.eq_zero_or_pos c with h0 | h0
      · subst h0
        exact absurd (T.2.2.1 hc).2.2.1 h12
      · rw [if_neg (nI_ne0 h0 (by omega)), sp_ald24 (by omega), Option.bind_some, nI_1]
        obtain ⟨j, hj, e1, -, -, e6, -, -, -⟩ := T.par h0 hc
        rw [e1, ih j hj (by omega) (k + 1) f (by omega) (by omega), e6]
theorem sp_around {u p : St} {n : Nat} (T : Tr u p n) {c : Nat} (hc : c < n) : f_M_around u (nI c) = some (p 6 c) := by
  have h24 := T.lt
  unfold f_M_around f_M_around_14
  rcases Nat.eq_zero_or_pos c with h0 | h0
  · subst h0
    rw [if_pos nI_0, (T.2.2.1 hc).2.2.2.1]
    rfl
  · rw [if_neg (nI_ne0 h0 (by omega)), sp_ald24 (by omega), Option.bind_some]
    obtain ⟨j, hj, e1, -, -, e6, -, -, -⟩ := T.par h0 hc
    rw [e1, ← nI_0, sp_around_l T j (by omega) 0 60 (by omega) (by omega), e6]
theorem sp_handler_l {u p : St} {n : Nat} (T : Tr u p n) : ∀ c, c < n → ∀ k f, k + c < 24 → c + 1 < f → f_M_handler_4_it u f (nI c) (nI k) = some (p 7 c) := by
  intro c
  have h24 := T.lt
  induction c using Nat.strongRecOn with
  | _ c ih =>
    intro hc k f hk hf
    obtain ⟨f, rfl⟩ : ∃ f', f = f' + 1 := ⟨f - 1, by omega⟩
    show f_M_handler_4 (f_M_handler_4_it u f) u (nI c) (nI k) = _
    unfold f_M_handler_4 f_M_handler_39
    rw [if_neg (show ¬ (24 : Int32) ≤ nI k from nI_ge (b := 24) (by omega) (by omega)), if_neg (nI_pos (by omega)), sp_ald24 (by omega), Option.bind_some]
    have hr := T.2.2.2.2.2.2 c hc
    rcases Nat.eq_zero_or_pos c with h0 | h0
    · subst h0
      obtain ⟨-, e2, -, -, e7, -⟩ := T.2.2.1 hc
      rw [e2, if_pos (by decide), if_pos nI_0, e7]
      obtain ⟨f, rfl⟩ : ∃ f', f = f' + 1 := ⟨f - 1, by omega⟩
      show f_M_handler_4 (f_M_handler_4_it u f) u (-1) (nI k + 1) = _
      unfold f_M_handler_4
      rw [if_pos (show (-1 : Int32) < 0 by decide)]
      split <;> rfl
    · obtain ⟨j, hj, e1, -, -, -, e7, -, -⟩ := T.par h0 hc
      by_cases h2 : u 2 c = 0
      · rw [h2, if_pos (by decide), if_neg (nI_ne0 h0 (by omega)), sp_ald24 (by omega), Option.bind_some, nI_1, e1, ih j hj (by omega) (k + 1) f (by omega) (by omega), e7, if_neg (fun h => h h2)]
      · rw [if_neg (by rcases hr with h | h | h; exact absurd h h2; rw [h]; decide; rw [h]; decide), e7, if_pos h2]
theorem sp_handler {u p : St} {n : Nat} (T : Tr u p n) {c : Nat} (hc : c < n) : f_M_handler u (nI c) = some (p 7 c) := by
  have h24 := T.lt
  unfold f_M_handler
  exact sp_handler_l T c hc 0 60 (by omega) (by omega)
theorem sp_below_l {u p : St} {n : Nat} (T : Tr u p n) {b : Nat} (hb : b < n) : ∀ c, c < n → ∀ k f, k + c < 24 → c + 1 < f → f_M_below_18_it u f (nI b) (nI c) (nI k) = some (bI (bt (p 9 b) c)) := by
  intro c
  have h24 := T.lt
  induction c using Nat.strongRecOn with
  | _ c ih =>
    intro hc k f hk hf
    obtain ⟨f, rfl⟩ : ∃ f', f = f' + 1 := ⟨f - 1, by omega⟩
    show f_M_below_18 (f_M_below_18_it u f) u (nI b) (nI c) (nI k) = _
    unfold f_M_below_18 f_M_below_50
    rw [if_neg (show ¬ (24 : Int32) ≤ nI k from nI_ge (b := 24) (by omega) (by omega)), if_neg (nI_pos (by omega))]
    by_cases hcb : c = b
    · subst hcb
      rw [if_pos rfl, T.self hb]
      rfl
    · rw [if_neg (fun h => hcb ((nI_eq (by omega) (by omega)).mp h))]
      rcases Nat.eq_zero_or_pos c with h0 | h0
      · subst h0
        rw [if_pos nI_0, T.2.2.2.2.1 b hb, decide_eq_false (fun h => hcb h.symm)]
        obtain ⟨f, rfl⟩ : ∃ f', f = f' + 1 := ⟨f - 1, by omega⟩
        show f_M_below_18 (f_M_below_18_it u f) u (nI b) (-1) (nI k + 1) = _
        unfold f_M_below_18
        rw [if_pos (show (-1 : Int32) < 0 by decide)]
        split <;> rfl
      · obtain ⟨j, hj, e1, -, -, -, -, -, hw⟩ := T.par h0 hc
        rw [if_neg (nI_ne0 h0 (by omega)), sp_ald24 (by omega), Option.bind_some, nI_1, e1, ih j hj (by omega) (k + 1) f (by omega) (by omega), hw b hb, decide_eq_false hcb, Bool.false_or]
/-- a lies below b -/
def wi (p : St) (a b : Nat) : Bool := decide (a ≠ b) && bt (p 9 b) a
theorem sp_below {u p : St} {n : Nat} (T : Tr u p n) {a b : Nat} (ha : a < n) (hb : b < n) : f_M_below u (nI a) (nI b) = some (bI (wi p a b)) := by
  have h24 := T.lt
  unfold f_M_below f_M_below_14 wi
  rcases Nat.eq_zero_or_pos a with h0 | h0
  · subst h0
    rw [if_pos nI_0, T.2.2.2.2.1 b hb]
    have : (decide (0 ≠ b) && decide (b = 0)) = false := by
      by_cases h : b = 0 <;> simp [h]
    rw [this]
    rfl
  · obtain ⟨j, hj, e1, -, -, -, -, -, hw⟩ := T.par h0 ha
    rw [if_neg (nI_ne0 h0 (by omega)), sp_ald24 (by omega), Option.bind_some, e1, ← nI_0, sp_below_l T hb j (by omega) 0 60 (by omega) (by omega), hw b hb]
    by_cases hab : a = b
    · subst hab
      have : bt (p 9 a) j = false := by
        cases h : bt (p 9 a) j with
        | false => rfl
        | true => have := T.le hb j h; omega
      rw [this]
      simp
    · simp [hab]
theorem sp_isBelow {u p : St} {n : Nat} (T : Tr u p n) {a b : Nat} (ha : a < n) (hb : b < n) : f_P_isBelow p (nI a) (nI b) = some (bI (wi p a b)) := by
  have h24 := T.lt
  unfold f_P_isBelow wi
  by_cases hab : a = b
  · subst hab
    rw [if_pos rfl]
    simp [bI]
  · rw [if_neg (fun h => hab ((nI_eq (by omega) (by omega)).mp h)), sp_ald24 (by omega), Option.bind_some, sp_isIn (by omega), Option.bind_some]
    cases h : bt (p 9 b) a with
    | false => simp [bI]
    | true => simp [bI, hab]
