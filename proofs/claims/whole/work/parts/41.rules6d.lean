/-! PURE 12: rule 6, the cls's order: what has nothing before it goes first -/
theorem sp_noteTree {u p : St} {n L : Nat} (P : Pl u p n L) (b : Nat → Int64) : ∃ b', f_R_noteTree p b = some b' ∧ ∀ y x, y < 2 * n → (bL (b' y) x = true ↔ eC u n x y) := by
  have h24 := P.lt
  have key : ∀ d i f b, i + d = n → d < f → (∀ y x, y < 2 * i → (bL (b y) x = true ↔ eC u i x y)) → ∃ b', f_R_noteTree_2_it p f (nI i) b = some b' ∧ ∀ y x, y < 2 * n → (bL (b' y) x = true ↔ eC u n x y) := by
    intro d
    induction d with
    | zero =>
      intro i f b hi hf I
      have : i = n := by omega
      subst this
      obtain ⟨f, rfl⟩ : ∃ f', f = f' + 1 := ⟨f - 1, by omega⟩
      refine ⟨b, ?_, I⟩
      show f_R_noteTree_2 _ p (nI i) b = _
      unfold f_R_noteTree_2
      rw [P.2.1, if_pos (nI_le (Nat.le_refl _) (by omega))]
    | succ d ih =>
      intro i f b hi hf I
      obtain ⟨f, rfl⟩ : ∃ f', f = f' + 1 := ⟨f - 1, by omega⟩
      obtain ⟨b1, e1, I1⟩ := sp_noteTree_step P (show i < n by omega) I (f_R_noteTree_2_it p f)
      obtain ⟨b2, e2, I2⟩ := ih (i + 1) f b1 (by omega) (by omega) I1
      exact ⟨b2, Eq.trans e1 e2, I2⟩
  exact key n 0 60 b (by omega) (by omega) (fun y x hy => by omega)
/-- all edges in the cls's numbers -/
def eK (u : St) (n L x y : Nat) : Prop := eC u n x y ∨ ∃ l s t, l < L ∧ s < n ∧ t < n ∧ u 8 l = nI s ∧ u 9 l = nI t ∧ y = 2 * t ∧ x = 2 * s + 1
theorem sp_noteLinks {u p : St} {n L : Nat} (P : Pl u p n L) (b : Nat → Int64) (I0 : ∀ y x, y < 2 * n → (bL (b y) x = true ↔ eC u n x y)) : ∃ b', f_R_noteLinks p b = some b' ∧ ∀ y x, y < 2 * n → (bL (b' y) x = true ↔ eK u n L x y) := by
  have h24 := P.lt
  have hL := P.2.2.2.1.2.1
  have key : ∀ d i f b, i + d = L → d < f → (∀ y x, y < 2 * n → (bL (b y) x = true ↔ eK u n i x y)) → ∃ b', f_R_noteLinks_2_it p f (nI i) b = some b' ∧ ∀ y x, y < 2 * n → (bL (b' y) x = true ↔ eK u n L x y) := by
    intro d
    induction d with
    | zero =>
      intro i f b hi hf I
      have : i = L := by omega
      subst this
      obtain ⟨f, rfl⟩ : ∃ f', f = f' + 1 := ⟨f - 1, by omega⟩
      refine ⟨b, ?_, I⟩
      show f_R_noteLinks_2 _ p (nI i) b = _
      unfold f_R_noteLinks_2
      rw [P.2.2.2.1.2.2, if_pos (nI_le (Nat.le_refl _) (by omega))]
    | succ d ih =>
      intro i f b hi hf I
      obtain ⟨f, rfl⟩ : ∃ f', f = f' + 1 := ⟨f - 1, by omega⟩
      obtain ⟨⟨s, hs, es⟩, ⟨t, ht, et⟩, -⟩ := P.2.2.2.2.2.2 i (by omega)
      obtain ⟨b2, e2, I2⟩ := ih (i + 1) f (vp_updL b (2 * t) (b (2 * t) ||| lN (2 ^ (2 * s + 1)))) (by omega) (by omega) (fun y x hy => by
        rw [sp_updL]
        by_cases hyt : y = 2 * t
        · rw [if_pos hyt, bL_or, bL_bit (by omega), Bool.or_eq_true, decide_eq_true_iff, I (2 * t) x (by omega)]
          unfold eK
          constructor
          · rintro ((h | ⟨l, s', t', q1, q⟩) | h)
            · exact Or.inl (hyt ▸ h)
            · exact Or.inr ⟨l, s', t', by omega, hyt ▸ q⟩
            · exact Or.inr ⟨i, s, t, by omega, hs, ht, es, et, hyt, h⟩
          · rintro (h | ⟨l, s', t', q1, q2, q3, q4, q5, q6, q7⟩)
            · exact Or.inl (Or.inl (hyt ▸ h))
            · by_cases hl : l = i
              · subst hl
                rw [es] at q4
                have := (nI_eq (by omega) (by omega)).mp q4
                subst this
                exact Or.inr q7
              · exact Or.inl (Or.inr ⟨l, s', t', by omega, q2, q3, q4, q5, by omega, q7⟩)
        · rw [if_neg hyt, I y x hy]
          unfold eK
          constructor
          · rintro (h | ⟨l, s', t', q1, q⟩)
            · exact Or.inl h
            · exact Or.inr ⟨l, s', t', by omega, q⟩
          · rintro (h | ⟨l, s', t', q1, q2, q3, q4, q5, q6, q7⟩)
            · exact Or.inl h
            · by_cases hl : l = i
              · subst hl
                rw [et] at q5
                have := (nI_eq (by omega) (by omega)).mp q5
                omega
              · exact Or.inr ⟨l, s', t', by omega, q2, q3, q4, q5, q6, q7⟩)
      refine ⟨b2, ?_, I2⟩
      show f_R_noteLinks_2 _ p (nI i) b = _
      unfold f_R_noteLinks_2
      rw [P.2.2.2.1.2.2, if_neg (nI_ge (show i < L by omega) (by omega)), sp_ald16 (by omega), Option.bind_some, P.2.2.2.2.1.2.1, et, sp_beg, Option.bind_some, sp_lald (by omega), Option.bind_some, sp_ald16 (by omega), Option.bind_some, P.2.2.2.2.1.1, es, sp_end, Option.bind_some, sp_bitL (by omega), Option.bind_some, sp_last (by omega), Option.bind_some, nI_1]
      exact e2
  exact key L 0 60 b (by omega) (by omega) (fun y x hy => by
    rw [I0 y x hy]
    unfold eK
    constructor
    · exact Or.inl
    · rintro (h | ⟨l, s, t, q, -⟩)
      · exact h
      · omega)
theorem nI_2m (n : Nat) : 2 * nI n = nI (2 * n) := by rw [show (2 : Int32) = nI 2 from rfl, pk_mul]
/-- those left that still have one left before them -/
theorem sp_without {u p : St} {n L : Nat} (P : Pl u p n L) (b : Nat → Int64) (x : Int64) : ∃ w, f_R_withoutFirst p b x = some w ∧ ∀ i, (bL w i = true ↔ (bL x i = true ∧ (i < 2 * n → ∃ z, bL (b i) z = true ∧ bL x z = true))) := by
  have h24 := P.lt
  unfold f_R_withoutFirst
  have hl := sp_loop (fun f i (r : Int64) => f_R_withoutFirst_5_it p b f x r (nI i)) some (fun i r => if b i &&& x = 0 then r &&& (lN (2 ^ i) ^^^ (-1)) else r) (fun i r => ∀ k, (bL r k = true ↔ (bL x k = true ∧ (k < i → ∃ z, bL (b k) z = true ∧ bL x z = true)))) (2 * n) (fun f i r hi I => by
    refine ⟨?_, ?_⟩
    · show f_R_withoutFirst_5 _ p b x r (nI i) = _
      unfold f_R_withoutFirst_5 f_R_withoutFirst_45
      rw [P.2.1, nI_2m, if_neg (nI_ge hi (by omega)), sp_lald (by omega), Option.bind_some, sp_bitL (by omega), Option.bind_some, nI_1]
      simp only [lg_cmp0]
      by_cases h : b i &&& x = 0 <;> simp [h]
    · intro k
      by_cases h : b i &&& x = 0
      · rw [if_pos h, bL_and, bL_xor, bL_bit (by omega), Bool.and_eq_true, I k]
        have hz : ∀ z, ¬ (bL (b i) z = true ∧ bL x z = true) := by
          rintro z ⟨h1, h2⟩
          have h3 := bL_zero.mp h z
          rw [bL_and, h1, h2] at h3
          cases h3
        rcases Nat.lt_or_ge k 64 with hk | hk
        · rw [bL_m1 k hk]
          by_cases hki : k = i
          · subst hki
            simp only [decide_true, Bool.xor_true, Bool.not_true]
            constructor
            · rintro ⟨-, q⟩; cases q
            · rintro ⟨q1, q2⟩
              obtain ⟨z, q3⟩ := q2 (by omega)
              exact absurd q3 (hz z)
          · rw [decide_eq_false hki]
            constructor
            · rintro ⟨⟨q1, q2⟩, -⟩
              exact ⟨q1, fun q => q2 (by omega)⟩
            · rintro ⟨q1, q2⟩
              exact ⟨⟨q1, fun q => q2 (by omega)⟩, rfl⟩
        · rw [bL_big hk]
          constructor
          · rintro ⟨⟨q, -⟩, -⟩; cases q
          · rintro ⟨q, -⟩; cases q
      · rw [if_neg h, I k]
        by_cases hki : k = i
        · subst hki
          have hz : ∃ z, bL (b k) z = true ∧ bL x z = true := by
            apply Classical.byContradiction
            intro hn
            apply h
            apply bL_zero.mpr
            intro z
            rw [bL_and]
            cases h1 : bL (b k) z with
            | false => rfl
            | true =>
              cases h2 : bL x z with
              | false => rfl
              | true => exact absurd ⟨z, h1, h2⟩ hn
          exact ⟨fun q => ⟨q.1, fun _ => hz⟩, fun q => ⟨q.1, fun _ => hz⟩⟩
        · constructor
          · rintro ⟨q1, q2⟩
            exact ⟨q1, fun q => q2 (by omega)⟩
          · rintro ⟨q1, q2⟩
            exact ⟨q1, fun q => q2 (by omega)⟩) (fun f r I => by
    show f_R_withoutFirst_5 _ p b x r (nI (2 * n)) = _
    unfold f_R_withoutFirst_5
    rw [P.2.1, nI_2m, if_pos (nI_le (Nat.le_refl _) (by omega))]) (2 * n) 0 60 x (by omega) (by omega) (fun k => ⟨fun q => ⟨q, fun q2 => by omega⟩, fun q => q.1⟩)
  exact ⟨_, hl.1, hl.2⟩
/-- those left behind t rounds -/
def lf (E : Nat → Nat → Prop) (N : Nat) : Nat → Nat → Prop
  | 0, y => y < N
  | t + 1, y => lf E N t y ∧ ∃ z, E z y ∧ lf E N t z
theorem lf_lt {E : Nat → Nat → Prop} {N : Nat} : ∀ {t y : Nat}, lf E N t y → y < N := by
  intro t
  induction t with
  | zero => intro y h; exact h
  | succ t ih => intro y h; exact ih h.1
theorem lf_mono {E : Nat → Nat → Prop} {N : Nat} : ∀ {d t y : Nat}, lf E N (t + d) y → lf E N t y := by
  intro d
  induction d with
  | zero => intro t y h; exact h
  | succ d ih => intro t y h; exact ih (t := t) (show lf E N (t + d + 1) y from h).1
theorem sp_order {u p : St} {n L : Nat} (P : Pl u p n L) (b0 : Nat → Int64) : ∃ z b', f_R_orderIsRight p b0 = some (bI z, b') ∧ (z = true ↔ ∀ y, ¬ lf (eK u n L) (2 * n) (2 * n) y) := by
  have h24 := P.lt
  obtain ⟨b1, e1, I1⟩ := sp_noteTree P b0
  obtain ⟨b, e2, I2⟩ := sp_noteLinks P b1 I1
  unfold f_R_orderIsRight
  rw [e1, Option.bind_some, e2, Option.bind_some, P.2.1, nI_2m]
  have hx0 : (((1 : Int64) <<< ((nI (2 * n) : Int32).toInt64 &&& 63)) - 1) = lN (2 ^ (2 * n) - 1) := by
    have := wb_shl 1 (show 2 * n < 64 by omega)
    rw [show (1 : Int64) <<< ((nI (2 * n) : Int32).toInt64 &&& 63) = lN (1 * 2 ^ (2 * n)) from this, Nat.one_mul, show (1 : Int64) = lN 1 from rfl, lN_sub (Nat.one_le_two_pow)]
  rw [hx0]
  have hb0 : ∀ i, (bL (lN (2 ^ (2 * n) - 1)) i = true ↔ lf (eK u n L) (2 * n) 0 i) := by
    intro i
    rcases Nat.lt_or_ge i 64 with h | h
    · rw [bL_lN h, Nat.testBit_two_pow_sub_one]
      exact decide_eq_true_iff
    · rw [bL_big h]
      constructor
      · intro q; cases q
      · intro q
        have : i < 2 * n := q
        omega
  have fin : ∀ (x : Int64) (t : Nat), t ≤ 2 * n → (∀ i, (bL x i = true ↔ lf (eK u n L) (2 * n) t i)) → (t = 2 * n ∨ x = 0) → ∃ z b', f_R_orderIsRight_51 p x b = some (bI z, b') ∧ (z = true ↔ ∀ y, ¬ lf (eK u n L) (2 * n) (2 * n) y) := by
    intro x t ht I hor
    unfold f_R_orderIsRight_51
    simp only [lg_cmp0]
    by_cases hx : x = 0
    · refine ⟨true, b, by simp [hx, bI], fun _ y hy => ?_, fun _ => rfl⟩
      obtain ⟨d, hd⟩ : ∃ d, 2 * n = t + d := ⟨2 * n - t, by omega⟩
      have h1 : lf (eK u n L) (2 * n) t y := lf_mono (d := d) (hd ▸ hy)
      have h2 := (I y).mpr h1
      rw [hx, bL_0] at h2
      cases h2
    · refine ⟨false, b, by simp [hx, bI], fun h => (by cases h), fun h => ?_⟩
      have ht2 : t = 2 * n := by
        rcases hor with q | q
        · exact q
        · exact absurd q hx
      exfalso
      apply hx
      apply bL_zero.mpr
      intro i
      cases hb : bL x i with
      | false => rfl
      | true => exact absurd (ht2 ▸ (I i).mp hb) (h i)
  have key : ∀ d t f (x : Int64), t + d = 2 * n → d < f → (∀ i, (bL x i = true ↔ lf (eK u n L) (2 * n) t i)) → ∃ z b', f_R_orderIsRight_27_it p f (nI (2 * n)) x (nI t) b = some (bI z, b') ∧ (z = true ↔ ∀ y, ¬ lf (eK u n L) (2 * n) (2 * n) y) := by
    intro d
    induction d with
    | zero =>
      intro t f x ht hf I
      obtain ⟨f, rfl⟩ : ∃ f', f = f' + 1 := ⟨f - 1, by omega⟩
      have : t = 2 * n := by omega
      subst this
      show ∃ z b', f_R_orderIsRight_27 _ p (nI (2 * n)) x (nI (2 * n)) b = _ ∧ _
      unfold f_R_orderIsRight_27
      rw [if_pos (nI_le (Nat.le_refl _) (by omega))]
      exact fin x (2 * n) (Nat.le_refl _) I (Or.inl rfl)
    | succ d ih =>
      intro t f x ht hf I
      obtain ⟨f, rfl⟩ : ∃ f', f = f' + 1 := ⟨f - 1, by omega⟩
      show ∃ z b', f_R_orderIsRight_27 _ p (nI (2 * n)) x (nI t) b = _ ∧ _
      unfold f_R_orderIsRight_27
      rw [if_neg (nI_ge (show t < 2 * n by omega) (by omega))]
      simp only [lg_cmp0]
      by_cases hx : x = 0
      · rw [if_pos hx]
        exact fin x t (by omega) I (Or.inr hx)
      · rw [if_neg hx]
        obtain ⟨w, ew, Iw⟩ := sp_without P b x
        rw [ew, Option.bind_some, nI_1]
        refine ih (t + 1) f w (by omega) (by omega) (fun i => ?_)
        rw [Iw i, I i]
        constructor
        · rintro ⟨h1, h2⟩
          obtain ⟨z, h3, h4⟩ := h2 (lf_lt h1)
          exact ⟨h1, z, (I2 i z (lf_lt h1)).mp h3, (I z).mp h4⟩
        · rintro ⟨h1, z, h3, h4⟩
          exact ⟨h1, fun _ => ⟨z, (I2 i z (lf_lt h1)).mpr h3, (I z).mpr h4⟩⟩
  exact key (2 * n) 0 60 _ (by omega) (by omega) hb0
