/-! PURE 9: rule 6, the reference's side: ranks that grow along the edges -/
def nup (r : Nat → Nat) (y v : Nat) : Nat → Nat := fun k => if k = y then v else r k
/-- what a round has done so far: r0 the ranks at its start, PE the edges that were looked at -/
def rJ (r0 : Nat → Nat) (PE : Nat → Nat → Prop) (r : Nat → Nat) (mv : Bool) : Prop :=
  (∀ x y, PE x y → r0 x + 1 ≤ r y) ∧ (mv = false → r = r0) ∧ (mv = true → ∃ k, k < 48 ∧ r0 k < r k) ∧ (∀ k, r0 k ≤ r k) ∧ (∀ d : Nat → Nat, (∀ x y, PE x y → d x < d y) → (∀ k, r0 k ≤ d k) → ∀ k, r k ≤ d k)
theorem rJ_step {r0 r : Nat → Nat} {PE : Nat → Nat → Prop} {mv : Bool} (J : rJ r0 PE r mv) {x y : Nat} (hy : y < 48) (PE' : Nat → Nat → Prop) (hP : ∀ a b, PE' a b ↔ (PE a b ∨ (a = x ∧ b = y))) : rJ r0 PE' (if r x < r y then r else nup r y (r x + 1)) (if r x < r y then mv else true) := by
  obtain ⟨j1, j2, j3, j4, j5⟩ := J
  by_cases h : r x < r y
  · rw [if_pos h, if_pos h]
    refine ⟨fun a b hab => ?_, j2, j3, j4, fun d hd h0 => j5 d (fun a b hab => hd a b ((hP a b).mpr (Or.inl hab))) h0⟩
    rcases (hP a b).mp hab with q | ⟨rfl, rfl⟩
    · exact j1 a b q
    · have := j4 a
      omega
  · rw [if_neg h, if_neg h]
    refine ⟨fun a b hab => ?_, fun q => (by cases q), fun _ => ⟨y, hy, ?_⟩, fun k => ?_, fun d hd h0 k => ?_⟩
    · unfold nup
      rcases (hP a b).mp hab with q | ⟨rfl, rfl⟩
      · have := j1 a b q
        by_cases hb : b = y
        · subst hb
          rw [if_pos rfl]
          omega
        · rw [if_neg hb]
          exact this
      · rw [if_pos rfl]
        have := j4 a
        omega
    · unfold nup
      rw [if_pos rfl]
      have := j4 y
      omega
    · unfold nup
      by_cases hk : k = y
      · subst hk
        rw [if_pos rfl]
        have := j4 k
        omega
      · rw [if_neg hk]
        exact j4 k
    · have q := j5 d (fun a b hab => hd a b ((hP a b).mpr (Or.inl hab))) h0
      unfold nup
      by_cases hk : k = y
      · subst hk
        rw [if_pos rfl]
        have := q x
        have := hd x k ((hP x k).mpr (Or.inr ⟨rfl, rfl⟩))
        omega
      · rw [if_neg hk]
        exact q k
/-- the reference's ranks are r, nothing else differs from u -/
def rS (u v : St) (r : Nat → Nat) (mv : Bool) (B : Nat) : Prop := (∀ k, k < 48 → v 14 k = nI (r k)) ∧ v 15 0 = bI mv ∧ (∀ k, k ≠ 14 → k ≠ 15 → v k = u k) ∧ ∀ k, r k ≤ B
theorem sp_before {u v : St} {r : Nat → Nat} {mv : Bool} {B : Nat} (S : rS u v r mv B) (hB : B < 2 ^ 30) {x y : Nat} (hx : x < 48) (hy : y < 48) : ∃ v', f_M_before (nI x) (nI y) v = some v' ∧ rS u v' (if r x < r y then r else nup r y (r x + 1)) (if r x < r y then mv else true) (B + 1) := by
  obtain ⟨s1, s2, s3, s4⟩ := S
  have bx := s4 x
  have bby := s4 y
  unfold f_M_before
  rw [sp_ald hy (by decide), Option.bind_some, sp_ald hx (by decide), Option.bind_some, s1 x hx, s1 y hy, Option.bind_some]
  by_cases h : r x < r y
  · rw [if_pos (nI_lt h (by omega)), if_pos h, if_pos h]
    exact ⟨v, rfl, s1, s2, s3, fun k => by have := s4 k; omega⟩
  · rw [if_neg (nI_nlt (by omega) (by omega)), if_neg h, if_neg h, nI_1, sp_ast hy (by decide), Option.bind_some]
    refine ⟨_, rfl, ?_, ?_, ?_, ?_⟩
    · intro k hk
      rw [sp_up, sp_up]
      unfold nup
      by_cases hky : k = y
      · simp [hky]
      · simp [hky, s1 k hk]
    · rw [sp_up_s]; rfl
    · intro k h14 h15
      rw [sp_up_k h15, sp_up_k h14]
      exact s3 k h14 h15
    · intro k
      unfold nup
      by_cases hky : k = y
      · rw [if_pos hky]; omega
      · rw [if_neg hky]; have := s4 k; omega
/-- the edges of activity a, in the reference's numbers -/
def eA (u : St) (n a x y : Nat) : Prop := (x = a ∧ y = 24 + a) ∨ (0 < a ∧ ∃ j, j < 24 ∧ u 1 a = nI j ∧ ((x = j ∧ y = a) ∨ (x = 24 + a ∧ y = 24 + j) ∨ (u 3 j = 8 ∧ ∃ s, sp_fd (sp_in u (nI j) 0) (a + 1) (n - (a + 1)) = some s ∧ x = 24 + a ∧ y = s)))
def eL (u : St) (l x y : Nat) : Prop := ∃ s t, s < 24 ∧ t < 24 ∧ u 8 l = nI s ∧ u 9 l = nI t ∧ x = 24 + s ∧ y = t
theorem rS_congr {u v : St} {r : Nat → Nat} {mv : Bool} {B : Nat} (S : rS u v r mv B) (k : Nat) (h1 : k ≠ 14) (h2 : k ≠ 15) : v k = u k := S.2.2.1 k h1 h2
theorem nI_24 (k : Nat) : 24 + nI k = nI (24 + k) := nI_add 24 k
/-- one activity's edges -/
theorem sp_r6_act {u p : St} {n L : Nat} (P : Pl u p n L) {v : St} {r0 r : Nat → Nat} {mv : Bool} {B : Nat} (S : rS u v r mv B) (hB : B + 10 < 2 ^ 30) {PE : Nat → Nat → Prop} (J : rJ r0 PE r mv) {a : Nat} (ha : a < n) (k28 : Int32 → St → Option (Int32 × St)) (k48 : Int32 → Int32 → St → Option (Int32 × St)) (x1 : Int32) :
    ∃ v' r' mv', f_M_rule6_48 k28 k48 x1 (nI a) v = k48 x1 (nI (a + 1)) v' ∧ rS u v' r' mv' (B + 4) ∧ rJ r0 (fun x y => PE x y ∨ eA u n a x y) r' mv' := by
  have h24 := P.lt
  unfold f_M_rule6_48 f_M_rule6_129
  rw [rS_congr S 0 (by decide) (by decide), P.n0, if_neg (nI_ge ha (by omega)), nI_24, nI_1]
  obtain ⟨v1, f1, S1⟩ := sp_before S (by omega) (x := a) (y := 24 + a) (by omega) (by omega)
  rw [f1, Option.bind_some]
  have J1 := rJ_step J (x := a) (y := 24 + a) (by omega) (fun x y => PE x y ∨ (x = a ∧ y = 24 + a)) (fun _ _ => Iff.rfl)
  rcases Nat.eq_zero_or_pos a with h0 | h0
  · subst h0
    rw [if_pos (show nI 0 ≤ 0 by decide)]
    refine ⟨v1, _, _, rfl, ⟨S1.1, S1.2.1, S1.2.2.1, fun k => by have := S1.2.2.2 k; omega⟩, ?_⟩
    have : (fun x y => PE x y ∨ eA u n 0 x y) = (fun x y => PE x y ∨ (x = 0 ∧ y = 24 + 0)) := by
      funext x y
      apply propext
      unfold eA
      constructor
      · rintro (h | h | ⟨h, -⟩)
        · exact Or.inl h
        · exact Or.inr h
        · omega
      · rintro (h | h)
        · exact Or.inl h
        · exact Or.inr (Or.inl h)
    rw [this]
    exact J1
  · rw [if_neg (nI_nle h0 (by omega))]
    obtain ⟨j, hj, e1, -⟩ := P.1.par h0 ha
    rw [rS_congr S1 1 (by decide) (by decide), sp_ald24 (by omega), Option.bind_some, e1, nI_24]
    generalize (if r a < r (24 + a) then r else nup r (24 + a) (r a + 1)) = r1 at S1 J1
    generalize (if r a < r (24 + a) then mv else true) = m1 at S1 J1
    obtain ⟨v2, f2, S2⟩ := sp_before S1 (by omega) (x := j) (y := a) (by omega) (by omega)
    rw [f2, Option.bind_some]
    have J2 := rJ_step J1 (x := j) (y := a) (by omega) (fun x y => (PE x y ∨ (x = a ∧ y = 24 + a)) ∨ (x = j ∧ y = a)) (fun _ _ => Iff.rfl)
    generalize (if r1 j < r1 a then r1 else nup r1 a (r1 j + 1)) = r2 at S2 J2
    generalize (if r1 j < r1 a then m1 else true) = m2 at S2 J2
    obtain ⟨v3, f3, S3⟩ := sp_before S2 (by omega) (x := 24 + a) (y := 24 + j) (by omega) (by omega)
    rw [f3, Option.bind_some]
    have J3 := rJ_step J2 (x := 24 + a) (y := 24 + j) (by omega) (fun x y => ((PE x y ∨ (x = a ∧ y = 24 + a)) ∨ (x = j ∧ y = a)) ∨ (x = 24 + a ∧ y = 24 + j)) (fun _ _ => Iff.rfl)
    generalize (if r2 (24 + a) < r2 (24 + j) then r2 else nup r2 (24 + j) (r2 (24 + a) + 1)) = r3 at S3 J3
    generalize (if r2 (24 + a) < r2 (24 + j) then m2 else true) = m3 at S3 J3
    have hin : sp_in v3 (nI j) 0 = sp_in u (nI j) 0 := by
      unfold sp_in
      rw [rS_congr S3 1 (by decide) (by decide), rS_congr S3 2 (by decide) (by decide)]
    rw [sp_M_next (n := n) (by rw [rS_congr S3 0 (by decide) (by decide)]; exact P.n0) h24 (nI j) 0 ha, Option.bind_some, hin, rS_congr S3 3 (by decide) (by decide), sp_ald24 (by omega), Option.bind_some]
    have hju : ∀ j', j' < 24 → u 1 a = nI j' → j' = j := fun j' h1 h2 => by
      rw [e1] at h2
      exact ((nI_eq (by omega) (by omega)).mp h2).symm
    by_cases k8 : u 3 j = 8
    · rw [if_pos k8]
      cases hs : sp_fd (sp_in u (nI j) 0) (a + 1) (n - (a + 1)) with
      | none =>
        rw [if_pos (show oI none < 0 by decide)]
        refine ⟨v3, r3, m3, rfl, ⟨S3.1, S3.2.1, S3.2.2.1, fun k => by have := S3.2.2.2 k; omega⟩, ?_⟩
        have : (fun x y => PE x y ∨ eA u n a x y) = (fun x y => ((PE x y ∨ (x = a ∧ y = 24 + a)) ∨ (x = j ∧ y = a)) ∨ (x = 24 + a ∧ y = 24 + j)) := by
          funext x y
          apply propext
          unfold eA
          constructor
          · rintro (h | h | ⟨-, j', q1, q2, q3⟩)
            · exact Or.inl (Or.inl (Or.inl h))
            · exact Or.inl (Or.inl (Or.inr h))
            · have := hju j' q1 q2
              subst this
              rcases q3 with q | q | ⟨-, s, q, -⟩
              · exact Or.inl (Or.inr q)
              · exact Or.inr q
              · rw [hs] at q; cases q
          · rintro (((h | h) | h) | h)
            · exact Or.inl h
            · exact Or.inr (Or.inl h)
            · exact Or.inr (Or.inr ⟨h0, j, by omega, e1, Or.inl h⟩)
            · exact Or.inr (Or.inr ⟨h0, j, by omega, e1, Or.inr (Or.inl h)⟩)
        rw [this]
        exact J3
      | some s =>
        have hsn := sp_fd_lt hs
        rw [if_neg (show ¬ oI (some s) < 0 from nI_pos (by omega))]
        obtain ⟨v4, f4, S4⟩ := sp_before S3 (by omega) (x := 24 + a) (y := s) (by omega) (by omega)
        rw [show oI (some s) = nI s from rfl, f4, Option.bind_some]
        have J4 := rJ_step J3 (x := 24 + a) (y := s) (by omega) (fun x y => PE x y ∨ eA u n a x y) (fun x y => by
          unfold eA
          constructor
          · rintro (h | h | ⟨-, j', q1, q2, q3⟩)
            · exact Or.inl (Or.inl (Or.inl (Or.inl h)))
            · exact Or.inl (Or.inl (Or.inl (Or.inr h)))
            · have := hju j' q1 q2
              subst this
              rcases q3 with q | q | ⟨-, s', q, q4⟩
              · exact Or.inl (Or.inl (Or.inr q))
              · exact Or.inl (Or.inr q)
              · rw [hs] at q
                cases q
                exact Or.inr q4
          · rintro ((((h | h) | h) | h) | h)
            · exact Or.inl h
            · exact Or.inr (Or.inl h)
            · exact Or.inr (Or.inr ⟨h0, j, by omega, e1, Or.inl h⟩)
            · exact Or.inr (Or.inr ⟨h0, j, by omega, e1, Or.inr (Or.inl h)⟩)
            · exact Or.inr (Or.inr ⟨h0, j, by omega, e1, Or.inr (Or.inr ⟨k8, s, hs, h⟩)⟩))
        exact ⟨v4, _, _, rfl, S4, J4⟩
    · rw [if_neg k8]
      refine ⟨v3, r3, m3, rfl, ⟨S3.1, S3.2.1, S3.2.2.1, fun k => by have := S3.2.2.2 k; omega⟩, ?_⟩
      have : (fun x y => PE x y ∨ eA u n a x y) = (fun x y => ((PE x y ∨ (x = a ∧ y = 24 + a)) ∨ (x = j ∧ y = a)) ∨ (x = 24 + a ∧ y = 24 + j)) := by
        funext x y
        apply propext
        unfold eA
        constructor
        · rintro (h | h | ⟨-, j', q1, q2, q3⟩)
          · exact Or.inl (Or.inl (Or.inl h))
          · exact Or.inl (Or.inl (Or.inr h))
          · have := hju j' q1 q2
            subst this
            rcases q3 with q | q | ⟨q, -⟩
            · exact Or.inl (Or.inr q)
            · exact Or.inr q
            · exact absurd q k8
        · rintro (((h | h) | h) | h)
          · exact Or.inl h
          · exact Or.inr (Or.inl h)
          · exact Or.inr (Or.inr ⟨h0, j, by omega, e1, Or.inl h⟩)
          · exact Or.inr (Or.inr ⟨h0, j, by omega, e1, Or.inr (Or.inl h)⟩)
      rw [this]
      exact J3
