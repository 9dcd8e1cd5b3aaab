/-! PURE 8: rule 5 -/
def sp_lst (P : Nat → Bool) : Nat → Option Nat
  | 0 => none
  | n + 1 => bif P n then some n else sp_lst P n
theorem sp_lst_none {P : Nat → Bool} : ∀ {n : Nat}, sp_lst P n = none ↔ ∀ k, k < n → P k = false := by
  intro n
  induction n with
  | zero => exact ⟨fun _ k h => (by omega), fun _ => rfl⟩
  | succ n ih =>
    unfold sp_lst
    cases hp : P n with
    | true =>
      refine ⟨fun h => (by cases h), fun h => ?_⟩
      have := h n (by omega)
      rw [hp] at this
      cases this
    | false =>
      refine ⟨fun h k hk => ?_, fun h => ih.mpr (fun k hk => h k (by omega))⟩
      by_cases hkn : k = n
      · rw [hkn]; exact hp
      · exact ih.mp h k (by omega)
theorem sp_lst_some {P : Nat → Bool} : ∀ {n j : Nat}, sp_lst P n = some j ↔ (j < n ∧ P j = true ∧ ∀ k, j < k → k < n → P k = false) := by
  intro n
  induction n with
  | zero => intro j; exact ⟨fun h => (by cases h), fun h => (by omega)⟩
  | succ n ih =>
    intro j
    unfold sp_lst
    cases hp : P n with
    | true =>
      refine ⟨fun h => ?_, fun h => ?_⟩
      · cases h
        exact ⟨by omega, hp, fun k h1 h2 => by omega⟩
      · by_cases hj : j = n
        · rw [hj]; rfl
        · have := h.2.2 n (by omega) (by omega)
          rw [hp] at this
          cases this
    | false =>
      refine ⟨fun h => ?_, fun h => ?_⟩
      · obtain ⟨h1, h2, h3⟩ := ih.mp h
        refine ⟨by omega, h2, fun k h4 h5 => ?_⟩
        by_cases hk : k = n
        · rw [hk]; exact hp
        · exact h3 k h4 (by omega)
      · have hj : j ≠ n := by
          intro hj
          have h3 := h.2.1
          rw [hj, hp] at h3
          cases h3
        exact ih.mpr ⟨by omega, h.2.1, fun k h4 h5 => h.2.2 k h4 (by omega)⟩
theorem sp_downs {R : Type} (L : Nat → Nat → Option R) (P : Nat → Bool) (A : Nat → Option R) (K : Option R) (N : Nat)
    (hs : ∀ f c, c < N → L (f + 1) (c + 1) = bif P c then A c else L f c) (he : ∀ f, L (f + 1) 0 = K) :
    ∀ c f, c ≤ N → c < f → L f c = match sp_lst P c with | some j => A j | none => K := by
  intro c
  induction c with
  | zero =>
    intro f _ hf
    obtain ⟨f', rfl⟩ : ∃ f', f = f' + 1 := ⟨f - 1, by omega⟩
    exact he f'
  | succ c ih =>
    intro f hc hf
    obtain ⟨f', rfl⟩ : ∃ f', f = f' + 1 := ⟨f - 1, by omega⟩
    rw [hs f' c (by omega)]
    unfold sp_lst
    cases hp : P c with
    | true => rfl
    | false => exact ih f' (by omega) (by omega)
theorem nI_m (k : Nat) : nI k + (-1) = nI k - 1 := by rw [Int32.sub_eq_add_neg]
theorem Tr.root {u p : St} {n : Nat} (T : Tr u p n) : ∀ c, c < n → bt (p 9 0) c = true := by
  intro c
  induction c using Nat.strongRecOn with
  | _ c ih =>
    intro hc
    rcases Nat.eq_zero_or_pos c with h0 | h0
    · subst h0
      exact T.self hc
    · obtain ⟨j, hj, -, -, -, -, -, -, hw⟩ := T.par h0 hc
      rw [hw 0 (by omega), ih j hj (by omega), Bool.or_true]
def r5c (p : St) (s t a : Nat) : Bool := wi p s a && wi p t a
/-- what rule 5 asks of a link with the flow f nearest above both ends -/
def r5P (u p : St) (n s t f : Nat) : Prop := u 3 f = 9 ∧ u 2 s = 0 ∧ u 2 t = 0 ∧ ∀ a, a < n → wi p a f = true → (wi p s a = true ∨ wi p t a = true) → u 2 a = 0 ∧ u 3 a ≠ 11
theorem sp_r0 {u p : St} {n : Nat} (T : Tr u p n) {c : Nat} (hc : c < n) : (0 < u 2 c ↔ u 2 c ≠ 0) ∧ (u 2 c ≤ 0 ↔ u 2 c = 0) := by
  rcases T.2.2.2.2.2.2 c hc with h | h | h <;> rw [h] <;> decide
theorem sp_rule5_M {u p : St} {n L : Nat} (P : Pl u p n L) {l s t : Nat} (hl : l < L) (hs : s < n) (ht : t < n) (es : u 8 l = nI s) (et : u 9 l = nI t) :
    ∃ z : Bool, f_M_rule5 u (nI l) = some (bI z) ∧ (z = true ↔ (s ≠ t ∧ wi p s t = false ∧ wi p t s = false ∧ r5P u p n s t ((sp_lst (r5c p s t) n).getD 0))) := by
  have h24 := P.lt
  have hL := P.2.2.2.1.2.1
  have hf0 : (sp_lst (r5c p s t) n).getD 0 < n := by
    cases h : sp_lst (r5c p s t) n with
    | none => exact (by omega : 0 < n)
    | some j => exact (sp_lst_some.mp h).1
  have base : f_M_rule5 u (nI l) = if s = t then some 0 else if wi p s t = true then some 0 else if wi p t s = true then some 0 else if u 2 s = 0 then if u 2 t = 0 then f_M_rule5_63_it u 60 (nI s) (nI t) 0 0 else some 0 else some 0 := by
    unfold f_M_rule5
    rw [sp_ald16 (by omega), Option.bind_some, sp_ald16 (by omega), Option.bind_some, es, et, sp_below P.1 hs ht, sp_below P.1 ht hs, sp_ald24 (by omega), sp_ald24 (by omega)]
    simp only [Option.bind_some, (sp_r0 P.1 hs).1, (sp_r0 P.1 ht).2, nI_eq (show s < 2 ^ 31 by omega) (show t < 2 ^ 31 by omega), bI_0]
    by_cases h1 : s = t
    · simp [h1]
    · cases h2 : wi p s t <;> cases h3 : wi p t s <;> by_cases h4 : u 2 s = 0 <;> by_cases h5 : u 2 t = 0 <;> simp [h1, h4, h5]
  have loop1 : f_M_rule5_63_it u 60 (nI s) (nI t) 0 0 = if u 3 ((sp_lst (r5c p s t) n).getD 0) = 9 then f_M_rule5_124_it u 60 (nI s) (nI t) (nI ((sp_lst (r5c p s t) n).getD 0)) 0 else some 0 := by
    have hlp := sp_loop (fun f i (x : Int32) => f_M_rule5_63_it u f (nI s) (nI t) x (nI i)) (fun x => (sr_ald 24 (u 3) x).bind fun v => if v = 9 then f_M_rule5_124_it u 60 (nI s) (nI t) x 0 else some 0) (fun i x => bif r5c p s t i then nI i else x) (fun i x => x = nI ((sp_lst (r5c p s t) i).getD 0)) n (fun f i x hi I => by
      refine ⟨?_, ?_⟩
      · show f_M_rule5_63 _ u (nI s) (nI t) x (nI i) = _
        unfold f_M_rule5_63 f_M_rule5_97 f_M_rule5_99 r5c
        rw [P.n0, if_neg (nI_ge hi (by omega)), sp_below P.1 hs hi, Option.bind_some, sp_below P.1 ht hi, Option.bind_some, nI_1]
        cases h2 : wi p s i <;> cases h3 : wi p t i <;> simp [bI]
      · unfold sp_lst
        cases h : r5c p s t i with
        | true => rfl
        | false => exact I) (fun f x I => by
      show f_M_rule5_63 _ u (nI s) (nI t) x (nI n) = _
      unfold f_M_rule5_63
      rw [P.n0, if_pos (nI_le (Nat.le_refl _) (by omega))]) n 0 60 0 (by omega) (by omega) rfl
    refine Eq.trans hlp.1 ?_
    rw [hlp.2]
    rw [sp_ald24 (by omega), Option.bind_some]
  rw [base, loop1]
  have loop2 : ∀ f0, f0 < n → f_M_rule5_124_it u 60 (nI s) (nI t) (nI f0) 0 = some (bI (sp_all (fun a => !(wi p a f0 && (wi p s a || wi p t a))  || (decide (u 2 a = 0) && decide (u 3 a ≠ 11))) n)) := by
    intro f0 hf
    refine Eq.trans (sp_allloop (fun f i => f_M_rule5_124_it u f (nI s) (nI t) (nI f0) (nI i)) (fun a => !(wi p a f0 && (wi p s a || wi p t a))  || (decide (u 2 a = 0) && decide (u 3 a ≠ 11))) (some 1) n (by omega) (fun f i hi => by
      show f_M_rule5_124 _ u (nI s) (nI t) (nI f0) (nI i) = _
      unfold f_M_rule5_124 f_M_rule5_164 f_M_rule5_168 f_M_rule5_169 f_M_rule5_200
      rw [P.n0, if_neg (nI_ge hi (by omega)), sp_below P.1 hi hf, sp_below P.1 hs hi, sp_below P.1 ht hi, nI_1]
      simp only [sp_ald24 (show i < 24 by omega), Option.bind_some, (sp_r0 P.1 hi).1]
      cases h1 : wi p i f0 <;> cases h2 : wi p s i <;> cases h3 : wi p t i <;> by_cases h4 : u 2 i = 0 <;> by_cases h5 : u 3 i = 11 <;> simp [bI, h4, h5]) (fun f => by
      show f_M_rule5_124 _ u (nI s) (nI t) (nI f0) (nI n) = _
      unfold f_M_rule5_124
      rw [P.n0, if_pos (nI_le (Nat.le_refl _) (by omega))])) ?_
    cases sp_all (fun a => !(wi p a f0 && (wi p s a || wi p t a))  || (decide (u 2 a = 0) && decide (u 3 a ≠ 11))) n <;> rfl
  rw [loop2 _ hf0]
  generalize (sp_lst (r5c p s t) n).getD 0 = f0 at hf0 ⊢
  have hall : sp_all (fun a => !(wi p a f0 && (wi p s a || wi p t a))  || (decide (u 2 a = 0) && decide (u 3 a ≠ 11))) n = true ↔ ∀ a, a < n → wi p a f0 = true → (wi p s a = true ∨ wi p t a = true) → u 2 a = 0 ∧ u 3 a ≠ 11 := by
    rw [sp_all_i]
    constructor
    · intro h a ha w1 w2
      have := h a ha
      rcases w2 with w2 | w2 <;> simpa [w1, w2] using this
    · intro h a ha
      cases w1 : wi p a f0 with
      | false => rfl
      | true =>
        cases w2 : wi p s a with
        | true => simp [h a ha w1 (Or.inl w2)]
        | false =>
          cases w3 : wi p t a with
          | true => simp [h a ha w1 (Or.inr w3)]
          | false => simp
  generalize sp_all (fun a => !(wi p a f0 && (wi p s a || wi p t a))  || (decide (u 2 a = 0) && decide (u 3 a ≠ 11))) n = z at hall ⊢
  unfold r5P
  by_cases h1 : s = t
  · exact ⟨false, by simp [h1, bI], by simp [h1]⟩
  · cases h2 : wi p s t with
    | true => exact ⟨false, by simp [h1, bI], by simp⟩
    | false =>
      cases h3 : wi p t s with
      | true => exact ⟨false, by simp [h1, bI], by simp⟩
      | false =>
        by_cases h4 : u 2 s = 0
        · by_cases h5 : u 2 t = 0
          · by_cases h6 : u 3 f0 = 9
            · exact ⟨z, by simp [h1, h4, h5, h6], by rw [hall]; simp [h1, h4, h5, h6]⟩
            · exact ⟨false, by simp [h1, h4, h5, h6, bI], by simp [h6]⟩
          · exact ⟨false, by simp [h1, h4, h5, bI], by simp [h5]⟩
        · exact ⟨false, by simp [h1, h4, bI], by simp [h4]⟩
theorem sp_r5_min {u p : St} {n : Nat} (T : Tr u p n) {s t m : Nat} (hm : m = min s t) (hs : s < n) : sp_lst (r5c p s t) n = sp_lst (r5c p s t) m := by
  have hlt : ∀ a, a < n → r5c p s t a = true → a < m := by
    intro a ha h
    unfold r5c at h
    rw [Bool.and_eq_true] at h
    have h1 := sp_wi_lt T ha h.1
    have h2 := sp_wi_lt T ha h.2
    omega
  cases h : sp_lst (r5c p s t) n with
  | none => exact (sp_lst_none.mpr (fun k hk => sp_lst_none.mp h k (by omega))).symm
  | some j =>
    obtain ⟨a1, a2, a3⟩ := sp_lst_some.mp h
    exact (sp_lst_some.mpr ⟨hlt j a1 a2, a2, fun k h1 h2 => a3 k h1 (by omega)⟩).symm
theorem sp_nearest {u p : St} {n L : Nat} (P : Pl u p n L) (b : Nat → Int64) {s t : Nat} (hs : s < n) (ht : t < n) : f_R_nearestAbove p b (nI s) (nI t) = some (oI (sp_lst (r5c p s t) n)) := by
  have h24 := P.lt
  unfold f_R_nearestAbove
  have e : (if nI t < nI s then nI t else nI s) = nI (min s t) := by
    by_cases h : t < s
    · rw [if_pos (nI_lt h (by omega))]
      congr 1
      omega
    · rw [if_neg (nI_nlt (by omega) (by omega))]
      congr 1
      omega
  rw [e, sp_r5_min P.1 (t := t) rfl hs]
  rw [sp_downs (fun f c => f_R_nearestAbove_8_it p b f (nI s) (nI t) (nI c - 1)) (r5c p s t) (fun j => some (nI j)) (some (-1)) (min s t) (fun f c hc => by
    show f_R_nearestAbove_8 _ p b (nI s) (nI t) (nI (c + 1) - 1) = _
    unfold f_R_nearestAbove_8 f_R_nearestAbove_38 r5c
    rw [nI_pred, if_neg (nI_pos (by omega)), sp_isBelow P.1 hs (by omega), sp_isBelow P.1 ht (by omega), Option.bind_some, Option.bind_some, nI_m]
    cases h1 : wi p s c <;> cases h2 : wi p t c <;> simp [bI]) (fun f => by
    show f_R_nearestAbove_8 _ p b (nI s) (nI t) (nI 0 - 1) = _
    unfold f_R_nearestAbove_8
    rw [if_pos (by decide)]) (min s t) 60 (Nat.le_refl _) (by omega)]
  cases sp_lst (r5c p s t) (min s t) <;> rfl
def mrB (u p : St) (e f a : Nat) : Bool := !(bt (p 9 a) e && wi p a f) || (decide (a = e ∨ u 3 a ≠ 11) && decide (u 2 a = 0))
theorem sp_mayReach {u p : St} {n L : Nat} (P : Pl u p n L) (b : Nat → Int64) {e f : Nat} (he : e < n) (hf : f < n) (hfe : f ≤ e) : f_R_mayReach p b (nI e) (nI f) = some (bI (sp_fd (fun a => !mrB u p e f a) (f + 1) (e - f)).isNone) := by
  have h24 := P.lt
  unfold f_R_mayReach
  rw [nI_1, sp_search (fun g x => f_R_mayReach_4_it p b g (nI e) (nI f) (nI x)) (fun a => !mrB u p e f a) (fun _ => some 0) (some 1) (e + 1) (fun g x hx => by
    show f_R_mayReach_4 _ p b (nI e) (nI f) (nI x) = _
    unfold f_R_mayReach_4 f_R_mayReach_60 f_R_mayReach_61 f_R_mayReach_82 mrB
    rw [if_neg (nI_nlt (by omega) (by omega)), nI_1]
    simp only [sp_ald24 (show x < 24 by omega), Option.bind_some, sp_isIn (show e < 32 by omega), sp_isBelow P.1 (show x < n by omega) hf, P.2.2.1.2.1, P.2.2.1.2.2.1, nI_eq (show x < 2 ^ 31 by omega) (show e < 2 ^ 31 by omega)]
    cases h1 : bt (p 9 x) e <;> cases h2 : wi p x f <;> by_cases h3 : x = e <;> by_cases h4 : u 3 x = 11 <;> by_cases h5 : u 2 x = 0 <;> simp [bI, h3, h4, h5]) (fun g => by
    show f_R_mayReach_4 _ p b (nI e) (nI f) (nI (e + 1)) = _
    unfold f_R_mayReach_4
    rw [if_pos (nI_lt (by omega) (by omega))]) (e - f) (f + 1) 60 (by omega) (by omega)]
  cases sp_fd (fun a => !mrB u p e f a) (f + 1) (e - f) <;> rfl
theorem sp_linkIsRight {u p : St} {n L : Nat} (P : Pl u p n L) (b : Nat → Int64) {s t : Nat} (hs : s < n) (ht : t < n) :
    ∃ z : Bool, f_R_linkIsRight p b (nI s) (nI t) = some (bI z) ∧ (z = true ↔ (s ≠ t ∧ wi p s t = false ∧ wi p t s = false ∧ r5P u p n s t ((sp_lst (r5c p s t) n).getD 0))) := by
  have h24 := P.lt
  unfold f_R_linkIsRight
  rw [sp_isBelow P.1 hs ht, sp_isBelow P.1 ht hs, sp_nearest P b hs ht]
  simp only [Option.bind_some, nI_eq (show s < 2 ^ 31 by omega) (show t < 2 ^ 31 by omega), bI_0]
  by_cases h1 : s = t
  · exact ⟨false, by simp [h1, bI], by simp [h1]⟩
  cases h2 : wi p s t with
  | true => exact ⟨false, by simp [h1, bI], by simp⟩
  | false =>
  cases h3 : wi p t s with
  | true => exact ⟨false, by simp [h1, bI], by simp⟩
  | false =>
  have hs0 : 0 < s := by
    rcases Nat.eq_zero_or_pos s with q | q
    · subst q
      unfold wi at h3
      have h1' : t ≠ 0 := fun h => h1 h.symm
      rw [P.1.root t ht, decide_eq_true h1'] at h3
      cases h3
    · exact q
  have ht0 : 0 < t := by
    rcases Nat.eq_zero_or_pos t with q | q
    · subst q
      unfold wi at h2
      rw [P.1.root s hs, decide_eq_true h1] at h2
      cases h2
    · exact q
  have hc0 : r5c p s t 0 = true := by
    unfold r5c wi
    rw [P.1.root s hs, P.1.root t ht, decide_eq_true (by omega), decide_eq_true (by omega)]
    rfl
  cases hl : sp_lst (r5c p s t) n with
  | none =>
    have := sp_lst_none.mp hl 0 (by omega)
    rw [hc0] at this
    cases this
  | some f0 =>
    obtain ⟨a1, a2, a3⟩ := sp_lst_some.mp hl
    have a2' := a2
    unfold r5c at a2'
    rw [Bool.and_eq_true] at a2'
    have l1 := sp_wi_lt P.1 a1 a2'.1
    have l2 := sp_wi_lt P.1 a1 a2'.2
    show ∃ z : Bool, _ ∧ (z = true ↔ (s ≠ t ∧ false = false ∧ false = false ∧ r5P u p n s t f0))
    have hr : ∀ e, e < n → wi p e f0 = true → ((sp_fd (fun a => !mrB u p e f0 a) (f0 + 1) (e - f0)).isNone = true ↔ (u 2 e = 0 ∧ ∀ a, a < n → wi p a f0 = true → wi p e a = true → u 2 a = 0 ∧ u 3 a ≠ 11)) := by
      intro e he hw
      have le := sp_wi_lt P.1 a1 hw
      rw [Option.isNone_iff_eq_none, sp_fd_none]
      constructor
      · intro h
        refine ⟨?_, fun a ha w1 w2 => ?_⟩
        · have q := h e (by omega) (by omega)
          simp only [mrB, P.1.self he, hw] at q
          simpa using q
        · have l3 := sp_wi_lt P.1 a1 w1
          have l4 := sp_wi_lt P.1 ha w2
          have q := h a (by omega) (by omega)
          have w3 : bt (p 9 a) e = true := by
            unfold wi at w2
            rw [Bool.and_eq_true] at w2
            exact w2.2
          have ne : ¬ a = e := by omega
          simp only [mrB, w3, w1] at q
          have q2 : (u 3 a ≠ 11) ∧ u 2 a = 0 := by simpa [ne] using q
          exact ⟨q2.2, q2.1⟩
      · rintro ⟨r1, r2⟩ a q1 q2
        unfold mrB
        cases w1 : bt (p 9 a) e with
        | false => simp
        | true =>
          cases w2 : wi p a f0 with
          | false => simp
          | true =>
            by_cases hae : a = e
            · subst hae
              simp [r1]
            · have w3 : wi p e a = true := by
                unfold wi
                have hea : e ≠ a := fun h => hae h.symm
                rw [w1, decide_eq_true hea]
                rfl
              have := r2 a (by omega) w2 w3
              simp [this]
    have m1 : ¬ oI (some f0) = -1 := nI_m1 (by omega)
    rw [if_neg h1]
    simp only [if_true, if_neg m1]
    show ∃ z : Bool, ((sr_ald 24 (p 2) (nI f0)).bind _) = _ ∧ _
    rw [sp_ald24 (by omega), Option.bind_some, P.2.2.1.2.2.1]
    by_cases k9 : u 3 f0 = 9
    · rw [if_pos k9]
      show ∃ z : Bool, ((f_R_mayReach p b (nI s) (nI f0)).bind _) = _ ∧ _
      rw [sp_mayReach P b hs a1 (by omega), Option.bind_some]
      show ∃ z : Bool, (if bI _ = 0 then some 0 else (f_R_mayReach p b (nI t) (nI f0)).bind _) = _ ∧ _
      rw [sp_mayReach P b ht a1 (by omega), Option.bind_some]
      have q1 := hr s hs a2'.1
      have q2 := hr t ht a2'.2
      generalize (sp_fd (fun a => !mrB u p s f0 a) (f0 + 1) (s - f0)).isNone = z1 at q1 ⊢
      generalize (sp_fd (fun a => !mrB u p t f0 a) (f0 + 1) (t - f0)).isNone = z2 at q2 ⊢
      refine ⟨z1 && z2, by cases z1 <;> cases z2 <;> rfl, ?_⟩
      rw [Bool.and_eq_true, q1, q2]
      unfold r5P
      constructor
      · rintro ⟨⟨b1, b2⟩, b3, b4⟩
        exact ⟨h1, trivial, trivial, k9, b1, b3, fun a ha w1 w2 => w2.elim (b2 a ha w1) (b4 a ha w1)⟩
      · rintro ⟨-, -, -, -, b1, b2, b3⟩
        exact ⟨⟨b1, fun a ha w1 w2 => b3 a ha w1 (Or.inl w2)⟩, b2, fun a ha w1 w2 => b3 a ha w1 (Or.inr w2)⟩
    · rw [if_neg k9]
      refine ⟨false, rfl, ?_⟩
      unfold r5P
      simp [k9]
/-- rule 5 of every link, on both sides -/
theorem sp_links {u p : St} {n L : Nat} (P : Pl u p n L) (b : Nat → Int64) : ∃ G : Nat → Bool, (∀ l, l < L → f_M_rule5 u (nI l) = some (bI (G l))) ∧ f_R_linksAreRight p b = some (bI (sp_all G L)) ∧ ∀ l, l < L → G l = true → ∀ s t, u 8 l = nI s → u 9 l = nI t → s < n → t < n → (s ≠ t ∧ wi p s t = false ∧ wi p t s = false ∧ r5P u p n s t ((sp_lst (r5c p s t) n).getD 0)) := by
  have h24 := P.lt
  have hL := P.2.2.2.1.2.1
  have hex : ∀ l, ∃ z : Bool, l < L → (f_M_rule5 u (nI l) = some (bI z) ∧ f_R_linkIsRight p b (u 8 l) (u 9 l) = some (bI z) ∧ (z = true → ∀ s t, u 8 l = nI s → u 9 l = nI t → s < n → t < n → (s ≠ t ∧ wi p s t = false ∧ wi p t s = false ∧ r5P u p n s t ((sp_lst (r5c p s t) n).getD 0)))) := by
    intro l
    by_cases hl : l < L
    · obtain ⟨⟨s, hs, es⟩, ⟨t, ht, et⟩, -⟩ := P.2.2.2.2.2.2 l hl
      obtain ⟨z1, q1, q2⟩ := sp_rule5_M P hl hs ht es et
      obtain ⟨z2, q3, q4⟩ := sp_linkIsRight P b hs ht
      have : z1 = z2 := Bool.eq_iff_iff.mpr (q2.trans q4.symm)
      subst this
      refine ⟨z1, fun _ => ⟨q1, by rw [es, et]; exact q3, fun hz s' t' es' et' hs' ht' => ?_⟩⟩
      rw [es] at es'
      rw [et] at et'
      have e1 := (nI_eq (by omega) (by omega)).mp es'
      have e2 := (nI_eq (by omega) (by omega)).mp et'
      subst e1
      subst e2
      exact q2.mp hz
    · exact ⟨false, fun h => absurd h hl⟩
  obtain ⟨G, hG⟩ : ∃ G : Nat → Bool, ∀ l, l < L → (f_M_rule5 u (nI l) = some (bI (G l)) ∧ f_R_linkIsRight p b (u 8 l) (u 9 l) = some (bI (G l)) ∧ (G l = true → ∀ s t, u 8 l = nI s → u 9 l = nI t → s < n → t < n → (s ≠ t ∧ wi p s t = false ∧ wi p t s = false ∧ r5P u p n s t ((sp_lst (r5c p s t) n).getD 0)))) := ⟨fun l => Classical.choose (hex l), fun l => Classical.choose_spec (hex l)⟩
  refine ⟨G, fun l hl => (hG l hl).1, ?_, fun l hl hz => (hG l hl).2.2 hz⟩
  unfold f_R_linksAreRight
  refine Eq.trans (sp_allloop (fun f i => f_R_linksAreRight_2_it p b f (nI i)) G (some 1) L (by omega) (fun f i hi => by
    show f_R_linksAreRight_2 _ p b (nI i) = _
    unfold f_R_linksAreRight_2
    rw [P.2.2.2.1.2.2, if_neg (nI_ge hi (by omega)), sp_ald16 (by omega), Option.bind_some, sp_ald16 (by omega), Option.bind_some, P.2.2.2.2.1.1, P.2.2.2.2.1.2.1, (hG i hi).2.1, Option.bind_some, nI_1]
    cases G i <;> rfl) (fun f => by
    show f_R_linksAreRight_2 _ p b (nI L) = _
    unfold f_R_linksAreRight_2
    rw [P.2.2.2.1.2.2, if_pos (nI_le (Nat.le_refl _) (by omega))])) ?_
  cases sp_all G L <;> rfl
