/-! PURE 41: what holds between the calls of a run -/
def upI (I : Nat → St) (j : Nat) (i : St) : Nat → St := fun k => if k = j then i else I k
def GJ (u p i : St) (n L B : Nat) : Prop := i 0 0 = u 13 0 ∧ (∃ C, C ≤ B ∧ Iv u p i n L C) ∧ i 8 0 = 0
def GI (u s p : St) (I : Nat → St) (n L N B : Nat) : Prop :=
  (Pl u p n L ∧ mOk u 24) ∧ ((u 12 0 = s 1 0 ∧ (s 1 0 = 0 ∨ s 1 0 = 1)) ∧ (¬ s 1 0 = 0 → Dp u p n L)) ∧ (u 16 0 = nI N ∧ s 0 0 = nI N ∧ N ≤ 8 ∧ (0 < N → ¬ s 1 0 = 0)) ∧ u 34 0 = 0 ∧ (∀ j, j < 8 → Rl u (I j) j) ∧ (∀ j, N ≤ j → I j = z0) ∧ (∀ j, j < N → GJ u p (I j) n L B)
theorem Iv.cg {u v p i : St} {n L C : Nat} (V : Iv u p i n L C) (h : v 3 = u 3) : Iv v p i n L C := by
  unfold Iv eOk tOk aOk at V ⊢
  rw [h]
  exact V
theorem Dp.cg {u v p : St} {n L : Nat} (D : Dp u p n L) (h : ∀ k, k < 12 → v k = u k) (h13 : v 13 = u 13) : Dp v p n L := by
  have e : ∀ a r, sp_in v a r = sp_in u a r := fun a r => by
    funext i
    unfold sp_in
    rw [h 1 (by decide), h 2 (by decide)]
  unfold Dp at D ⊢
  rw [h 3 (by decide), h 8 (by decide), h13]
  simp only [e]
  exact D
theorem mOk.cg {u v : St} {n : Nat} (M : mOk u n) (h : v 6 = u 6) : mOk v n := by
  unfold mOk at M ⊢
  rw [h]
  exact M
theorem mOk.le {u : St} {n m : Nat} (M : mOk u n) (h : m ≤ n) : mOk u m := fun a ha => M a (by omega)
theorem Rl.cg {u v i : St} {j : Nat} (R : Rl u i j) (h : ∀ k, 17 ≤ k → k ≤ 32 → v k = u k) : Rl v i j := by
  intro k e he
  have := mk_lo (show 0 < ln k by omega)
  rw [h _ this.1 this.2]
  exact R k e he
section
variable {u s p : St} {I : Nat → St} {n L N B : Nat}
theorem GI.pl (G : GI u s p I n L N B) : Pl u p n L := G.1.1
theorem GI.mo (G : GI u s p I n L N B) : mOk u 24 := G.1.2
theorem GI.d12 (G : GI u s p I n L N B) : u 12 0 = s 1 0 := G.2.1.1.1
theorem GI.dp (G : GI u s p I n L N B) (h : ¬ s 1 0 = 0) : Dp u p n L := G.2.1.2 h
theorem GI.n16 (G : GI u s p I n L N B) : u 16 0 = nI N := G.2.2.1.1
theorem GI.s0 (G : GI u s p I n L N B) : s 0 0 = nI N := G.2.2.1.2.1
theorem GI.N8 (G : GI u s p I n L N B) : N ≤ 8 := G.2.2.1.2.2.1
theorem GI.Nd (G : GI u s p I n L N B) (h : 0 < N) : ¬ s 1 0 = 0 := G.2.2.1.2.2.2 h
theorem GI.h34 (G : GI u s p I n L N B) : u 34 0 = 0 := G.2.2.2.1
theorem GI.rl (G : GI u s p I n L N B) {j : Nat} (h : j < 8) : Rl u (I j) j := G.2.2.2.2.1 j h
theorem GI.gj (G : GI u s p I n L N B) {j : Nat} (h : j < N) : GJ u p (I j) n L B := G.2.2.2.2.2.2 j h
theorem GI.z (G : GI u s p I n L N B) {j : Nat} (h : N ≤ j) : I j = z0 := G.2.2.2.2.2.1 j h
theorem GI.start : GI z0 z0 z0 (fun _ => z0) 0 0 0 0 := by
  refine ⟨⟨⟨⟨rfl, by decide, fun h => absurd h (by decide), fun c _ h => absurd h (Nat.not_lt_zero _), fun c h => absurd h (Nat.not_lt_zero _), fun b c h => absurd h (Nat.not_lt_zero _), fun c h => absurd h (Nat.not_lt_zero _)⟩, rfl, ⟨rfl, rfl, rfl, rfl, rfl, rfl⟩, ⟨rfl, by decide, rfl⟩, ⟨rfl, rfl, rfl, rfl⟩, fun c h => absurd h (Nat.not_lt_zero _), fun c h => absurd h (Nat.not_lt_zero _)⟩, fun a _ => Or.inl rfl⟩, ⟨⟨rfl, Or.inl rfl⟩, fun h => absurd rfl h⟩, ⟨rfl, rfl, by decide, fun h => absurd h (by decide)⟩, rfl, fun j _ k e _ => ?_, fun _ _ => rfl, fun j h => absurd h (Nat.not_lt_zero _)⟩
  show (0 : Int32) = de k 0
  unfold de
  cases Nat.beq k 16 <;> rfl
/-- the first calls: nothing is made yet -/
theorem GI.plan {u' p' : St} {n' L' : Nat} (G : GI u s p I n L N B) (h0 : s 1 0 = 0) (P : Pl u' p' n' L') (M : mOk u' 24) (h : ∀ k, 12 ≤ k → u' k = u k) : GI u' s p' I n' L' N B := by
  have hN : N = 0 := Nat.eq_zero_of_not_pos (fun q => G.Nd q h0)
  subst hN
  exact ⟨⟨P, M⟩, ⟨⟨by rw [h 12 (by decide)]; exact G.d12, G.2.1.1.2⟩, fun q => absurd h0 q⟩, ⟨by rw [h 16 (by decide)]; exact G.n16, G.s0, G.N8, fun q => absurd q (by decide)⟩, by rw [h 34 (by decide)]; exact G.h34, fun j hj => (G.rl hj).cg (fun k h1 _ => h k (by omega)), fun j hj => G.z hj, fun j hj => absurd hj (Nat.not_lt_zero _)⟩
theorem GI.mono {B' : Nat} (G : GI u s p I n L N B) (h : B ≤ B') : GI u s p I n L N B' :=
  ⟨G.1, G.2.1, G.2.2.1, G.h34, fun _ hj => G.rl hj, fun _ hj => G.z hj, fun j hj => by
    obtain ⟨a, ⟨C, h1, h2⟩, c⟩ := G.gj hj
    exact ⟨a, ⟨C, by omega, h2⟩, c⟩⟩
theorem GI.same {u' : St} (G : GI u s p I n L N B) (h : ∀ k, k ≠ 33 → u' k = u k) : GI u' s p I n L N B :=
  ⟨⟨Pl_congr G.pl (fun k hk => h k (by omega)), G.mo.cg (h 6 (by decide))⟩, ⟨⟨by rw [h 12 (by decide)]; exact G.d12, G.2.1.1.2⟩, fun q => (G.dp q).cg (fun k hk => h k (by omega)) (h 13 (by decide))⟩, ⟨by rw [h 16 (by decide)]; exact G.n16, G.2.2.1.2⟩, by rw [h 34 (by decide)]; exact G.h34, fun j hj => (G.rl hj).cg (fun k _ h2 => h k (by omega)), fun j hj => G.z hj, fun j hj => by
    obtain ⟨a, ⟨C, h1, h2⟩, c⟩ := G.gj hj
    exact ⟨by rw [h 13 (by decide)]; exact a, ⟨C, h1, h2.cg (h 3 (by decide))⟩, c⟩⟩
theorem GI.at33 (G : GI u s p I n L N B) (x : Int32) : GI (sr_up u 33 0 x) s p I n L N B := G.same (fun _ hk => sp_up_k hk)
theorem GI.sim (G : GI u s p I n L N B) {j : Nat} (hj : j < N) : Sim j u (sr_up u 33 0 (nI j)) (I j) :=
  ⟨⟨(G.rl (by have := G.N8; omega)).cg (fun k _ h2 => sp_up_k (by omega)), (G.gj hj).1⟩, sp_up_s, fun k hk => sp_up_k (by omega), fun _ _ _ R => R.cg (fun k _ h2 => sp_up_k (by omega))⟩
theorem GI.put {u' i' : St} {j C B' : Nat} (G : GI u s p I n L N B) (hj : j < N) (S : Sim j u u' i') (V : Iv u p i' n L C) (hC : C ≤ B') (hB : B ≤ B') (h34 : u' 34 0 = 0) (h8 : i' 8 0 = 0) : GI u' s p (upI I j i') n L N B' := by
  obtain ⟨⟨R, hs0⟩, -, F1, F2⟩ := S
  refine ⟨⟨Pl_congr G.pl (fun k hk => F1 k (by omega)), G.mo.cg (F1 6 (by decide))⟩, ⟨⟨by rw [F1 12 (by decide)]; exact G.d12, G.2.1.1.2⟩, fun q => (G.dp q).cg (fun k hk => F1 k (by omega)) (F1 13 (by decide))⟩, ⟨by rw [F1 16 (by decide)]; exact G.n16, G.2.2.1.2⟩, h34, fun j' hj' => ?_, fun j' hj' => ?_, fun j' hj' => ?_⟩
  · by_cases e : j' = j
    · subst e
      unfold upI
      rw [if_pos rfl]
      exact R
    · unfold upI
      rw [if_neg e]
      exact F2 j' _ e (G.rl hj')
  · unfold upI
    rw [if_neg (by omega)]
    exact G.z hj'
  · by_cases e : j' = j
    · subst e
      unfold upI
      rw [if_pos rfl]
      exact ⟨by rw [F1 13 (by decide)]; exact hs0, ⟨C, hC, V.cg (F1 3 (by decide))⟩, h8⟩
    · unfold upI
      rw [if_neg e]
      obtain ⟨a, ⟨C1, h1, h2⟩, c⟩ := G.gj hj'
      exact ⟨by rw [F1 13 (by decide)]; exact a, ⟨C1, by omega, h2.cg (F1 3 (by decide))⟩, c⟩
end
theorem upI_self (I : Nat → St) (j : Nat) : upI I j (I j) = I := by
  funext k
  unfold upI
  by_cases h : k = j
  · rw [if_pos h, h]
  · rw [if_neg h]
/-- a number among the first N -/
theorem sp_inN (x : Int32) {N : Nat} (hN : N ≤ 24) : ((x < 0 ∨ nI N ≤ x) ∧ f_M_in x 0 (nI N - 1) = some 0) ∨ (∃ j, j < N ∧ x = nI j ∧ f_M_in x 0 (nI N - 1) = some 1) := by
  unfold f_M_in
  by_cases h : x < 0
  · exact Or.inl ⟨Or.inl h, if_pos h⟩
  obtain ⟨j, hj, rfl⟩ := nI_of h
  by_cases hjN : j < N
  · refine Or.inr ⟨j, hjN, rfl, ?_⟩
    rw [if_neg h, show (1 : Int32) = nI 1 from rfl, pk_sub (by omega), if_neg (nI_nlt (by omega) (by omega))]
  · refine Or.inl ⟨Or.inr (nI_le (by omega) hj), ?_⟩
    rw [if_neg h]
    rcases Nat.eq_zero_or_pos N with h0 | h0
    · subst h0
      rw [show nI 0 - 1 = -1 from by decide, if_pos]
      have : (0 : Int32) ≤ nI j := nI_pos' hj
      rw [Int32.le_iff_toInt_le] at this
      rw [Int32.lt_iff_toInt_lt]
      have e0 : (0 : Int32).toInt = 0 := by decide
      have e1 : (-1 : Int32).toInt = -1 := by decide
      omega
    · rw [show (1 : Int32) = nI 1 from rfl, pk_sub (by omega), if_pos (nI_lt (by omega) (by omega))]
theorem sp_hasNo {p : St} {n : Nat} (hp : p 10 0 = nI n) {x : Int32} (h : x < 0 ∨ nI n ≤ x) : f_P_hasActivity p x = some 0 := by
  unfold f_P_hasActivity
  rw [hp]
  by_cases q : x < 0
  · rw [if_pos q]
  · rw [if_neg q, if_pos (h.resolve_left q)]
theorem sp_inA {u p : St} {n L : Nat} (P : Pl u p n L) (x : Int32) : (f_M_in x 0 (u 0 0 - 1) = some 0 ∧ f_P_hasActivity p x = some 0) ∨ (∃ a, a < n ∧ x = nI a ∧ f_M_in x 0 (u 0 0 - 1) = some 1 ∧ f_P_hasActivity p x = some 1) := by
  have h24 := P.lt
  rw [P.n0]
  rcases sp_inN x (N := n) h24 with ⟨h, e⟩ | ⟨a, ha, rfl, e⟩
  · exact Or.inl ⟨e, sp_hasNo P.2.1 h⟩
  · exact Or.inr ⟨a, ha, rfl, e, sp_hasAct P.2.1 (by omega) ha⟩
theorem sp_roles (x : Int32) : (inB x 0 2 = true ∧ (x = 0 ∨ x = 1 ∨ x = 2)) ∨ (inB x 0 2 = false ∧ ¬ x = 0 ∧ ¬ x = 1 ∧ ¬ x = 2) := by
  by_cases h : x = 0 ∨ x = 1 ∨ x = 2
  · refine Or.inl ⟨?_, h⟩
    rcases h with rfl | rfl | rfl <;> rfl
  · refine Or.inr ⟨?_, fun q => h (Or.inl q), fun q => h (Or.inr (Or.inl q)), fun q => h (Or.inr (Or.inr q))⟩
    cases hb : inB x 0 2 with
    | false => rfl
    | true =>
      exfalso
      unfold inB at hb
      rw [Bool.and_eq_true, decide_eq_true_eq, decide_eq_true_eq] at hb
      obtain ⟨j, hj, rfl⟩ := nI_of2 (M := 2) (n := 2) rfl (Int32.not_lt.mpr hb.1) hb.2
      apply h
      have : j = 0 ∨ j = 1 ∨ j = 2 := by omega
      rcases this with rfl | rfl | rfl
      · exact Or.inl rfl
      · exact Or.inr (Or.inl rfl)
      · exact Or.inr (Or.inr rfl)
theorem add_ok {u s p : St} {I : Nat → St} {n L N B : Nat} (G : GI u s p I n L N B) (b : Nat → Int64) (x1 x2 x3 x4 x5 : Int32) : ∃ r u' p' n', f_M_add x1 x2 x3 x4 x5 u = some (r, u') ∧ f_S_add s b x1 x2 x3 x4 x5 p = some (r, p') ∧ GI u' s p' I n' L N B := by
  have P := G.pl
  have h24 := P.lt
  have hn := P.n0
  unfold f_M_add f_S_add
  rw [G.d12]
  by_cases hd : s 1 0 = 0
  · rw [if_pos hd, if_pos hd, sp_fits, Option.bind_some]
    have no : ∃ r u' p' n', (some (-1, u) : Option (Int32 × St)) = some (r, u') ∧ (some (-1, p) : Option (Int32 × St)) = some (r, p') ∧ GI u' s p' I n' L N B := ⟨-1, u, p, n, rfl, rfl, G⟩
    cases hf : fitB x3 x4 x5 with
    | false =>
      rw [if_pos (show bI false = 0 from rfl)]
      by_cases h1 : 24 ≤ u 0 0
      · rw [if_pos h1]; exact no
      rw [if_neg h1, sp_inn, Option.bind_some]
      cases hk : inB x3 0 12 with
      | false => rw [if_pos (show bI false = 0 from rfl)]; exact no
      | true =>
        rw [if_neg (show ¬ bI true = 0 by decide), sp_nfit u x3 x4 x5 hk, Option.bind_some, hf, if_pos (show bI false = 0 from rfl)]
        exact no
    | true =>
      have hk := sp_fit_kind hf
      rw [if_neg (show ¬ bI true = 0 by decide), sp_inn, Option.bind_some, hk, if_neg (show ¬ bI true = 0 by decide), sp_nfit u x3 x4 x5 hk, Option.bind_some, hf, if_neg (show ¬ bI true = 0 by decide), sp_inn, Option.bind_some]
      unfold f_P_hasPlaceFor
      rw [P.2.1, hn]
      rcases Nat.eq_zero_or_pos n with h0 | h0
      · subst h0
        rw [if_neg (show ¬ (24 : Int32) ≤ nI 0 by decide), if_pos (show nI 0 = 0 from rfl), if_pos (show nI 0 = 0 from rfl)]
        by_cases e1 : x1 = -1
        · rw [if_pos e1, if_pos e1]
          by_cases e2 : x2 = 0
          · rw [if_pos e2, if_pos e2, show inB x2 0 2 = true by rw [e2]; rfl, if_neg (show ¬ bI true = 0 by decide)]
            by_cases e3 : x3 = 12
            · rw [if_pos e3, if_pos e3, Option.bind_some, if_neg (by decide), sp_M_app hn (by decide)]
              subst e1 e2 e3
              obtain ⟨p', a1, a2, a3, a4⟩ := sp_app_root P (x4 := x4) (x5 := x5)
              rw [a1]
              refine ⟨nI 0, Au u 0 (-1) 0 12 x4 x5, p', 1, rfl, rfl, G.plan hd ?_ (G.mo.cg ?_) (fun k hk => ?_)⟩
              · exact sp_app_Pl P (by decide) (g := fun _ => false) a2 a3 (fun b => by rw [a4 b]; simp) hf (Or.inl rfl) (fun _ => ⟨rfl, rfl, rfl, rfl, rfl, rfl⟩) (fun q => absurd q (by decide))
              · unfold Au
                rw [sp_up_k (by omega), sp_up_k (by omega), sp_up_k (by omega), sp_up_k (by omega), sp_up_k (by omega), sp_up_k (by omega)]
              · unfold Au
                rw [sp_up_k (by omega), sp_up_k (by omega), sp_up_k (by omega), sp_up_k (by omega), sp_up_k (by omega), sp_up_k (by omega)]
            · rw [if_neg e3, if_neg e3, Option.bind_some, if_pos rfl]; exact no
          · rw [if_neg e2, if_neg e2, Option.bind_some, if_pos rfl]
            cases inB x2 0 2 with
            | false => rw [if_pos (show bI false = 0 from rfl)]; exact no
            | true => rw [if_neg (show ¬ bI true = 0 by decide)]; exact no
        · rw [if_neg e1, if_neg e1, Option.bind_some, if_pos rfl]
          cases inB x2 0 2 with
          | false => rw [if_pos (show bI false = 0 from rfl)]; exact no
          | true => rw [if_neg (show ¬ bI true = 0 by decide)]; exact no
      · rw [if_neg (nI_ne0 h0 (by omega)), if_neg (nI_ne0 h0 (by omega))]
        by_cases hfull : n < 24
        · have g24 : ¬ (24 : Int32) ≤ nI n := nI_ge (b := 24) hfull (by decide)
          rw [if_neg g24, if_neg g24]
          have iA := sp_inA P x1
          rw [hn] at iA
          rcases iA with ⟨e1, e2⟩ | ⟨a, ha, rfl, e1, e2⟩
          · rw [e1, e2, Option.bind_some, Option.bind_some, if_pos rfl, if_pos rfl, Option.bind_some, if_pos rfl]
            cases inB x2 0 2 with
            | false => rw [if_pos (show bI false = 0 from rfl)]; exact no
            | true => rw [if_neg (show ¬ bI true = 0 by decide)]; exact no
          · rw [e1, e2, Option.bind_some, Option.bind_some, if_neg (show ¬ (1 : Int32) = 0 by decide), if_neg (show ¬ (1 : Int32) = 0 by decide), P.2.2.1.2.2.1, sp_ald24 (f := u 3) (i := a) (by omega), Option.bind_some, Option.bind_some, Option.bind_some]
            by_cases k8 : 8 ≤ u 3 a
            · rw [if_pos k8, if_pos k8]
              have yes : (x2 = 0 ∨ x2 = 1 ∨ x2 = 2) → (x2 ≠ 0 → u 3 a = 12) → ∃ r u' p' n', f_M_add_126 (nI a) x2 x3 x4 x5 u = some (r, u') ∧ (sr_b2 (f_P_append (nI a) x2 x3 x4 x5 p) fun v_8 p_9 => some (v_8, p_9)) = some (r, p') ∧ GI u' s p' I n' L N B := by
                intro hr h12
                rw [sp_M_app hn hfull]
                obtain ⟨p', a1, a2, a3, a4⟩ := sp_app_child P hfull (x2 := x2) (x3 := x3) (x4 := x4) (x5 := x5) ha
                rw [a1]
                refine ⟨nI n, Au u n (nI a) x2 x3 x4 x5, p', n + 1, rfl, rfl, G.plan hd ?_ (G.mo.cg ?_) (fun k hk => ?_)⟩
                · exact sp_app_Pl P hfull (g := fun b => decide (b < n ∧ bt (p 9 b) a = true)) a2 a3 (fun b => by rw [a4 b]; simp only [decide_eq_true_eq]) hf hr (fun q => absurd h0 (by omega)) (fun _ => ⟨a, ha, rfl, k8, h12, rfl, rfl, rfl, fun b hb => by
                    show decide (b < n ∧ bt (p 9 b) a = true) = _
                    cases bt (p 9 b) a <;> simp [hb]⟩)
                · unfold Au
                  rw [sp_up_k (by omega), sp_up_k (by omega), sp_up_k (by omega), sp_up_k (by omega), sp_up_k (by omega), sp_up_k (by omega)]
                · unfold Au
                  rw [sp_up_k (by omega), sp_up_k (by omega), sp_up_k (by omega), sp_up_k (by omega), sp_up_k (by omega), sp_up_k (by omega)]
              have two : ∀ x : Int32, (x = 1 ∨ x = 2) → x2 = x → ∃ r u' p' n', (if x2 ≤ 0 then f_M_add_126 (nI a) x2 x3 x4 x5 u else if u 3 a = 12 then (f_M_inRole u (nI a) x2).bind fun v_35 => if v_35 < 0 then f_M_add_126 (nI a) x2 x3 x4 x5 u else some (-1, u) else some (-1, u)) = some (r, u') ∧ ((f_P_hasPlaceFor_68 p (nI a) x2).bind fun v_5 => if v_5 = 0 then some (-1, p) else sr_b2 (f_P_append (nI a) x2 x3 x4 x5 p) fun v_8 p_9 => some (v_8, p_9)) = some (r, p') ∧ GI u' s p' I n' L N B := by
                intro x hx e
                have hx2 : ¬ x2 ≤ 0 := by rcases hx with rfl | rfl <;> (rw [e]; decide)
                unfold f_P_hasPlaceFor_68
                rw [if_neg hx2, P.2.2.1.2.2.1, sp_ald24 (f := u 3) (i := a) (by omega), Option.bind_some]
                by_cases k12 : u 3 a = 12
                · rw [if_pos k12, if_pos k12, sp_M_inRole hn h24, Option.bind_some, sp_P_handlerOf P ha, Option.bind_some]
                  cases hfd : sp_fd (sp_in u (nI a) x2) 0 n with
                  | none =>
                    rw [if_pos (show oI none < 0 by decide), if_pos (show oI none = -1 from rfl), Option.bind_some, if_neg (by decide)]
                    exact yes (by rcases hx with rfl | rfl <;> simp [e]) (fun _ => k12)
                  | some c =>
                    have hc := sp_fd_lt hfd
                    rw [if_neg (show ¬ oI (some c) < 0 from nI_pos (by omega)), if_neg (show ¬ oI (some c) = -1 from nI_m1 (by omega)), Option.bind_some, if_pos rfl]
                    exact no
                · rw [if_neg k12, if_neg k12, Option.bind_some, if_pos rfl]; exact no
              rcases sp_roles x2 with ⟨hb, h012⟩ | ⟨hb, n0, n1, n2⟩
              · rw [hb, if_neg (show ¬ bI true = 0 by decide)]
                rcases h012 with e | e | e
                · rw [if_pos (show x2 ≤ 0 by rw [e]; decide), if_neg (show ¬ x2 = 1 by rw [e]; decide), if_neg (show ¬ x2 = 2 by rw [e]; decide), if_pos e, Option.bind_some, if_neg (by decide)]
                  exact yes (Or.inl e) (fun q => absurd e q)
                · rw [if_pos e]
                  exact two 1 (Or.inl rfl) e
                · rw [if_neg (show ¬ x2 = 1 by rw [e]; decide), if_pos e]
                  exact two 2 (Or.inr rfl) e
              · rw [hb, if_pos (show bI false = 0 from rfl), if_neg n1, if_neg n2, if_neg n0, Option.bind_some, if_pos rfl]
                exact no
            · rw [if_neg k8, if_neg k8, Option.bind_some, if_pos rfl]
              cases inB x2 0 2 with
              | false => rw [if_pos (show bI false = 0 from rfl)]; exact no
              | true => rw [if_neg (show ¬ bI true = 0 by decide)]; exact no
        · have g24 : (24 : Int32) ≤ nI n := nI_le (a := 24) (by omega) (by omega)
          rw [if_pos g24, if_pos g24, Option.bind_some, if_pos rfl]
          exact no
  · rw [if_neg hd, if_neg hd]
    exact ⟨-1, u, p, n, rfl, rfl, G⟩
