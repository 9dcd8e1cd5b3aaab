/-! PURE 10: rule 6, the reference's rounds -/
def eE (u : St) (n L x y : Nat) : Prop := (∃ a, a < n ∧ eA u n a x y) ∨ (∃ l, l < L ∧ eL u l x y)
theorem eE_lt {u p : St} {n L : Nat} (P : Pl u p n L) {x y : Nat} (h : eE u n L x y) : x < 48 ∧ y < 48 := by
  have h24 := P.lt
  rcases h with ⟨a, ha, h | ⟨-, j, hj, -, h | h | ⟨-, s, hs, h1, h2⟩⟩⟩ | ⟨l, -, s, t, hs, ht, -, -, h1, h2⟩
  · omega
  · omega
  · omega
  · have := sp_fd_lt hs
    omega
  · omega
theorem sp_r6_acts {u p : St} {n L : Nat} (P : Pl u p n L) {r0 : Nat → Nat} (k28 : Int32 → St → Option (Int32 × St)) (x1 : Int32) : ∀ d i v r mv B f, i + d = n → d < f → rS u v r mv B → B + 10 + 4 * d < 2 ^ 30 → rJ r0 (fun x y => ∃ a, a < i ∧ eA u n a x y) r mv →
    ∃ v' r' mv', f_M_rule6_48_it k28 f x1 (nI i) v = f_M_rule6_137_it k28 60 x1 0 v' ∧ rS u v' r' mv' (B + 4 * d) ∧ rJ r0 (fun x y => ∃ a, a < n ∧ eA u n a x y) r' mv' := by
  have h24 := P.lt
  intro d
  induction d with
  | zero =>
    intro i v r mv B f hi hf S _ J
    have : i = n := by omega
    subst this
    obtain ⟨f, rfl⟩ : ∃ f', f = f' + 1 := ⟨f - 1, by omega⟩
    refine ⟨v, r, mv, ?_, S, J⟩
    show f_M_rule6_48 _ _ x1 (nI i) v = _
    unfold f_M_rule6_48
    rw [rS_congr S 0 (by decide) (by decide), P.n0, if_pos (nI_le (Nat.le_refl _) (by omega))]
  | succ d ih =>
    intro i v r mv B f hi hf S hB J
    obtain ⟨f, rfl⟩ : ∃ f', f = f' + 1 := ⟨f - 1, by omega⟩
    obtain ⟨v1, r1, m1, e1, S1, J1⟩ := sp_r6_act P S (by omega) J (a := i) (by omega) k28 (f_M_rule6_48_it k28 f) x1
    have : (fun x y => (∃ a, a < i ∧ eA u n a x y) ∨ eA u n i x y) = (fun x y => ∃ a, a < i + 1 ∧ eA u n a x y) := by
      funext x y
      apply propext
      constructor
      · rintro (⟨a, h1, h2⟩ | h)
        · exact ⟨a, by omega, h2⟩
        · exact ⟨i, by omega, h⟩
      · rintro ⟨a, h1, h2⟩
        by_cases h : a = i
        · subst h; exact Or.inr h2
        · exact Or.inl ⟨a, by omega, h2⟩
    rw [this] at J1
    obtain ⟨v2, r2, m2, e2, S2, J2⟩ := ih (i + 1) v1 r1 m1 (B + 4) f (by omega) (by omega) S1 (by omega) J1
    refine ⟨v2, r2, m2, ?_, ⟨S2.1, S2.2.1, S2.2.2.1, fun k => by have := S2.2.2.2 k; omega⟩, J2⟩
    show f_M_rule6_48 _ _ x1 (nI i) v = _
    rw [e1, e2]
theorem sp_r6_links {u p : St} {n L : Nat} (P : Pl u p n L) {r0 : Nat → Nat} (k28 : Int32 → St → Option (Int32 × St)) (x1 : Int32) : ∀ d i v r mv B f, i + d = L → d < f → rS u v r mv B → B + 10 + 4 * d < 2 ^ 30 → rJ r0 (fun x y => (∃ a, a < n ∧ eA u n a x y) ∨ (∃ l, l < i ∧ eL u l x y)) r mv →
    ∃ v' r' mv', f_M_rule6_137_it k28 f x1 (nI i) v = k28 (x1 + 1) v' ∧ rS u v' r' mv' (B + 4 * d) ∧ rJ r0 (eE u n L) r' mv' := by
  have h24 := P.lt
  have hL := P.2.2.2.1.2.1
  intro d
  induction d with
  | zero =>
    intro i v r mv B f hi hf S _ J
    have : i = L := by omega
    subst this
    obtain ⟨f, rfl⟩ : ∃ f', f = f' + 1 := ⟨f - 1, by omega⟩
    refine ⟨v, r, mv, ?_, S, J⟩
    show f_M_rule6_137 _ _ x1 (nI i) v = _
    unfold f_M_rule6_137
    rw [rS_congr S 7 (by decide) (by decide), P.2.2.2.1.1, if_pos (nI_le (Nat.le_refl _) (by omega))]
  | succ d ih =>
    intro i v r mv B f hi hf S hB J
    obtain ⟨f, rfl⟩ : ∃ f', f = f' + 1 := ⟨f - 1, by omega⟩
    obtain ⟨⟨s, hs, es⟩, ⟨t, ht, et⟩, -⟩ := P.2.2.2.2.2.2 i (by omega)
    obtain ⟨v1, e1, S1⟩ := sp_before S (by omega) (x := 24 + s) (y := t) (by omega) (by omega)
    have J1 := rJ_step J (x := 24 + s) (y := t) (by omega) (fun x y => (∃ a, a < n ∧ eA u n a x y) ∨ (∃ l, l < i + 1 ∧ eL u l x y)) (fun x y => by
      constructor
      · rintro (h | ⟨l, h1, h2⟩)
        · exact Or.inl (Or.inl h)
        · by_cases hl : l = i
          · subst hl
            obtain ⟨s', t', q1, q2, q3, q4, q5, q6⟩ := h2
            rw [es] at q3
            rw [et] at q4
            have w1 := (nI_eq (by omega) (by omega)).mp q3
            have w2 := (nI_eq (by omega) (by omega)).mp q4
            subst w1
            subst w2
            exact Or.inr ⟨q5, q6⟩
          · exact Or.inl (Or.inr ⟨l, by omega, h2⟩)
      · rintro ((h | ⟨l, h1, h2⟩) | ⟨h1, h2⟩)
        · exact Or.inl h
        · exact Or.inr ⟨l, by omega, h2⟩
        · exact Or.inr ⟨i, by omega, s, t, by omega, by omega, es, et, h1, h2⟩)
    obtain ⟨v2, r2, m2, e2, S2, J2⟩ := ih (i + 1) v1 _ _ (B + 1) f (by omega) (by omega) S1 (by omega) J1
    refine ⟨v2, r2, m2, ?_, ⟨S2.1, S2.2.1, S2.2.2.1, fun k => by have := S2.2.2.2 k; omega⟩, J2⟩
    show f_M_rule6_137 _ _ x1 (nI i) v = _
    unfold f_M_rule6_137
    rw [rS_congr S 7 (by decide) (by decide), P.2.2.2.1.1, if_neg (nI_ge (show i < L by omega) (by omega)), rS_congr S 8 (by decide) (by decide), rS_congr S 9 (by decide) (by decide), sp_ald16 (by omega), Option.bind_some, sp_ald16 (by omega), Option.bind_some, es, et, nI_24, e1, Option.bind_some, nI_1, e2]
/-- a longest-path numbering: it grows along the edges, and each number above 0 has an edge from the number below -/
def rD (u : St) (n L : Nat) (d : Nat → Nat) : Prop := (∀ x y, eE u n L x y → d x < d y) ∧ (∀ y, y < 48 → d y = 0 ∨ ∃ x, eE u n L x y ∧ d x + 1 = d y) ∧ ∀ y, d y ≤ 47
theorem sp_r6_rounds {u p : St} {n L : Nat} (P : Pl u p n L) : ∀ d t v r mv B f, t + d = 50 → d < f → rS u v r mv B → B + 300 * (d + 1) < 2 ^ 30 → (mv = false → ∀ x y, eE u n L x y → r x < r y) →
    ∃ z v', f_M_rule6_28_it f (nI t) v = some (bI z, v') ∧ (∀ k, k ≠ 14 → k ≠ 15 → v' k = u k) ∧ (z = true → ∃ r : Nat → Nat, ∀ x y, eE u n L x y → r x < r y) ∧
      (∀ dd, rD u n L dd → (∀ k, r k ≤ dd k) → (∀ k, k < 48 → min t (dd k) ≤ r k) → (mv = true → t ≤ 48) → z = true) := by
  have h24 := P.lt
  have hL := P.2.2.2.1.2.1
  have out : ∀ (v : St) (r : Nat → Nat) (mv : Bool) (B : Nat), rS u v r mv B → f_M_rule6_176 v = some (bI (!mv), v) := by
    intro v r mv B S
    unfold f_M_rule6_176
    rw [S.2.1]
    cases mv <;> rfl
  intro d
  induction d with
  | zero =>
    intro t v r mv B f ht hf S _ hmv
    obtain ⟨f, rfl⟩ : ∃ f', f = f' + 1 := ⟨f - 1, by omega⟩
    have ht : t = 50 := by omega
    subst ht
    refine ⟨!mv, v, ?_, S.2.2.1, fun hz => ⟨r, hmv (by simpa using hz)⟩, fun dd _ _ _ h => ?_⟩
    · show f_M_rule6_28 _ (nI 50) v = _
      unfold f_M_rule6_28
      rw [if_pos (by decide)]
      exact out v r mv B S
    · cases mv with
      | false => rfl
      | true => have := h rfl; omega
  | succ d ih =>
    intro t v r mv B f ht hf S hB hmv
    obtain ⟨f, rfl⟩ : ∃ f', f = f' + 1 := ⟨f - 1, by omega⟩
    have q3 : B + 200 + 300 * (d + 1) < 2 ^ 30 := by
      refine Nat.lt_of_le_of_lt ?_ hB
      rw [Nat.mul_succ 300 (d + 1)]
      generalize 300 * (d + 1) = X
      omega
    have ne : ¬ (50 : Int32) ≤ nI t := nI_ge (b := 50) (by omega) (by omega)
    cases mv with
    | false =>
      refine ⟨true, v, ?_, S.2.2.1, fun _ => ⟨r, hmv rfl⟩, fun _ _ _ _ _ => rfl⟩
      show f_M_rule6_28 _ (nI t) v = _
      unfold f_M_rule6_28
      rw [if_neg ne, S.2.1, if_pos (by decide)]
      exact out v r false B S
    | true =>
      have S0 : rS u (sr_up v 15 0 0) r false B := by
        refine ⟨fun k hk => ?_, sp_up_s, fun k h1 h2 => ?_, S.2.2.2⟩
        · rw [sp_up_k (by decide)]; exact S.1 k hk
        · rw [sp_up_k h2]; exact S.2.2.1 k h1 h2
      have J0 : rJ r (fun x y => ∃ a, a < 0 ∧ eA u n a x y) r false := ⟨fun x y h => by obtain ⟨a, h, -⟩ := h; omega, fun _ => rfl, fun h => (by cases h), fun _ => Nat.le_refl _, fun d _ h => h⟩
      obtain ⟨v1, r1, m1, e1, S1, J1⟩ := sp_r6_acts P (f_M_rule6_28_it f) (nI t) n 0 _ r false B 60 (by omega) (by omega) S0 (by omega) J0
      have J1' : rJ r (fun x y => (∃ a, a < n ∧ eA u n a x y) ∨ (∃ l, l < 0 ∧ eL u l x y)) r1 m1 := by
        have : (fun x y => (∃ a, a < n ∧ eA u n a x y) ∨ (∃ l, l < 0 ∧ eL u l x y)) = (fun x y => ∃ a, a < n ∧ eA u n a x y) := by
          funext x y
          apply propext
          constructor
          · rintro (h | ⟨l, h, -⟩)
            · exact h
            · omega
          · exact Or.inl
        rw [this]; exact J1
      obtain ⟨v2, r2, m2, e2, S2, J2⟩ := sp_r6_links P (f_M_rule6_28_it f) (nI t) L 0 v1 r1 m1 (B + 4 * n) 60 (by omega) (by omega) S1 (by omega) J1'
      have S2' : rS u v2 r2 m2 (B + 200) := ⟨S2.1, S2.2.1, S2.2.2.1, fun k => by have := S2.2.2.2 k; omega⟩
      obtain ⟨j1, j2, j3, j4, j5⟩ := J2
      have q1 : t + 1 + d = 50 := by omega
      have q2 : d < f := by omega
      obtain ⟨z, v3, e3, h1, h2, h3⟩ := ih (t + 1) v2 r2 m2 (B + 200) f q1 q2 S2' q3 (fun hm x y hxy => by
        have h5 := j1 x y hxy
        have h6 := congrFun (j2 hm) x
        omega)
      refine ⟨z, v3, ?_, h1, h2, fun dd hD hle hmin ht48 => ?_⟩
      · show f_M_rule6_28 _ (nI t) v = _
        unfold f_M_rule6_28 sr_pf
        rw [if_neg ne, S.2.1, if_neg (by decide), Option.bind_some, ← e3, ← nI_1, ← e2, show (0 : Int32) = nI 0 from rfl]
        exact e1
      · have hle2 := j5 dd hD.1 hle
        refine h3 dd hD hle2 (fun k hk => ?_) (fun hm => ?_)
        · rcases hD.2.1 k hk with q | ⟨x, q1, q2⟩
          · omega
          · have := hmin x (eE_lt P q1).1
            have := j1 x k q1
            omega
        · have := ht48 rfl
          obtain ⟨k, hk, hlt⟩ := j3 hm
          have := hmin k hk
          have := hle2 k
          have := hD.2.2 k
          omega
theorem sp_rule6 {u p : St} {n L : Nat} (P : Pl u p n L) : ∃ z v', f_M_rule6 u = some (bI z, v') ∧ (∀ k, k ≠ 14 → k ≠ 15 → v' k = u k) ∧ (z = true → ∃ r : Nat → Nat, ∀ x y, eE u n L x y → r x < r y) ∧ (∀ dd, rD u n L dd → z = true) := by
  unfold f_M_rule6
  have hl := sp_loop (fun f i (x : St) => f_M_rule6_2_it f (nI i) x) (fun x => f_M_rule6_28_it 60 0 (sr_up x 15 0 1)) (fun i x => sr_up x 14 i 0) (fun i x => (∀ k, k ≠ 14 → x k = u k) ∧ ∀ k, k < i → x 14 k = 0) 48 (fun f i x hi I => by
    refine ⟨?_, fun k hk => by rw [sp_up_k hk]; exact I.1 k hk, fun k hk => ?_⟩
    · show f_M_rule6_2 _ (nI i) x = _
      unfold f_M_rule6_2
      rw [if_neg (show ¬ (48 : Int32) ≤ nI i from nI_ge (b := 48) hi (by omega)), sp_ast hi (by decide), Option.bind_some, nI_1]
    · rw [sp_up]
      by_cases h : k = i
      · simp [h]
      · simp [h, I.2 k (by omega)]) (fun f x _ => by
    show f_M_rule6_2 _ (nI 48) x = _
    unfold f_M_rule6_2 sr_pf
    rw [if_pos (by decide), Option.bind_some]) 48 0 60 u (by omega) (by omega) ⟨fun _ _ => rfl, fun k hk => by omega⟩
  obtain ⟨e1, I⟩ := hl
  obtain ⟨z, v', e2, h1, h2, h3⟩ := sp_r6_rounds P 50 0 (sr_up (sp_fl (fun i x => sr_up x 14 i 0) 0 48 u) 15 0 1) (fun _ => 0) true 0 60 (by omega) (by omega) ⟨fun k hk => by rw [sp_up_k (by decide), I.2 k hk]; rfl, sp_up_s, fun k h14 h15 => by rw [sp_up_k h15]; exact I.1 k h14, fun _ => Nat.le_refl _⟩ (by decide) (fun h => (by cases h))
  exact ⟨z, v', Eq.trans e1 e2, h1, h2, fun dd hD => h3 dd hD (fun _ => Nat.zero_le _) (fun _ _ => by omega) (fun _ => by omega)⟩
