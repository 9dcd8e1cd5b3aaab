/-! PURE 42: joins, links and the deployment -/
theorem Pl_cg2 {u v p q : St} {n L : Nat} (P : Pl u p n L) (hu : ∀ k, k < 12 → k ≠ 6 → v k = u k) (hp : ∀ k, k ≠ 5 → q k = p k) (h56 : q 5 = v 6) : Pl v q n L := by
  obtain ⟨T, a, ⟨b0, b1, b2, b3, b4, -⟩, c, d, e, f⟩ := P
  have T' : Tr v q n := by
    unfold Tr at T ⊢
    rw [hu 0 (by decide) (by decide), hu 1 (by decide) (by decide), hu 2 (by decide) (by decide), hu 3 (by decide) (by decide), hp 6 (by decide), hp 7 (by decide), hp 8 (by decide), hp 9 (by decide)]
    exact T
  refine ⟨T', ?_⟩
  rw [hu 1 (by decide) (by decide), hu 2 (by decide) (by decide), hu 3 (by decide) (by decide), hu 4 (by decide) (by decide), hu 5 (by decide) (by decide), hu 7 (by decide) (by decide), hu 8 (by decide) (by decide), hu 9 (by decide) (by decide), hu 10 (by decide) (by decide), hu 11 (by decide) (by decide), hp 0 (by decide), hp 1 (by decide), hp 2 (by decide), hp 3 (by decide), hp 4 (by decide), hp 10 (by decide), hp 11 (by decide), hp 12 (by decide), hp 13 (by decide), hp 14 (by decide), hp 15 (by decide)]
  exact ⟨a, ⟨b0, b1, b2, b3, b4, h56⟩, c, d, e, f⟩
theorem up_col {u p : St} {k k' i : Nat} {v : Int32} (h : p k' = u k) : sr_up p k' i v k' = sr_up u k i v k := by
  funext a
  by_cases e : a = i
  · rw [e, sp_up_s, sp_up_s]
  · rw [sp_up_i e, sp_up_i e, h]
theorem sp_03 (x : Int32) : (inB x 0 3 = true ∧ ¬ x < 0 ∧ x ≤ 3 ∧ (x = 0 ∨ x = 1 ∨ x = 2 ∨ x = 3)) ∨ (inB x 0 3 = false ∧ (x < 0 ∨ ¬ x < 0 ∧ ¬ x ≤ 3)) := by
  unfold inB
  by_cases h : x < 0
  · refine Or.inr ⟨?_, Or.inl h⟩
    rw [decide_eq_false (Int32.not_le.mpr h)]
    rfl
  · by_cases h3 : x ≤ 3
    · refine Or.inl ⟨?_, h, h3, ?_⟩
      · rw [decide_eq_true (Int32.not_lt.mp h), decide_eq_true h3]
        rfl
      · obtain ⟨j, hj, rfl⟩ := nI_of2 (M := 3) (n := 3) rfl h h3
        have : j = 0 ∨ j = 1 ∨ j = 2 ∨ j = 3 := by omega
        rcases this with rfl | rfl | rfl | rfl
        · exact Or.inl rfl
        · exact Or.inr (Or.inl rfl)
        · exact Or.inr (Or.inr (Or.inl rfl))
        · exact Or.inr (Or.inr (Or.inr rfl))
    · refine Or.inr ⟨?_, Or.inr ⟨h, h3⟩⟩
      rw [decide_eq_false h3, Bool.and_false]
section
variable {u s p : St} {I : Nat → St} {n L N B : Nat}
theorem join_ok (G : GI u s p I n L N B) (b : Nat → Int64) (x1 x2 : Int32) : ∃ r u' p', f_M_join x1 x2 u = some (r, u') ∧ f_S_join s b x1 x2 p = some (r, p') ∧ GI u' s p' I n L N B := by
  have P := G.pl
  have h24 := P.lt
  have no : ∃ r u' p', (some (0, u) : Option (Int32 × St)) = some (r, u') ∧ (some (0, p) : Option (Int32 × St)) = some (r, p') ∧ GI u' s p' I n L N B := ⟨0, u, p, rfl, rfl, G⟩
  unfold f_M_join f_S_join
  rw [G.d12]
  by_cases hd : s 1 0 = 0
  · rw [if_pos hd, if_pos hd]
    rcases sp_inA P x1 with ⟨e1, e2⟩ | ⟨a, ha, rfl, e1, e2⟩
    · rw [e1, e2, Option.bind_some, Option.bind_some, if_pos rfl, if_pos rfl]
      exact no
    · rw [e1, e2, Option.bind_some, Option.bind_some, if_neg (show ¬ (1 : Int32) = 0 by decide), if_neg (show ¬ (1 : Int32) = 0 by decide), sp_inn, Option.bind_some]
      rcases sp_03 x2 with ⟨hb, g1, g2, g3⟩ | ⟨hb, g⟩
      · rw [hb, if_neg (show ¬ bI true = 0 by decide), if_neg g1, if_pos g2, sp_ast (s := u) (by omega) (by decide), sp_ast (s := p) (by omega) (by decide), Option.bind_some, Option.bind_some]
        refine ⟨1, _, _, rfl, rfl, G.plan hd (Pl_cg2 P (fun k _ h6 => sp_up_k h6) (fun k h5 => sp_up_k h5) (up_col P.2.2.1.2.2.2.2.2)) (fun c hc => ?_) (fun k hk => sp_up_k (by omega))⟩
        by_cases e : c = a
        · rw [e, sp_up_s]
          exact g3
        · rw [sp_up_i e]
          exact G.mo c hc
      · rw [hb, if_pos (show bI false = 0 from rfl)]
        rcases g with g | ⟨g1, g2⟩
        · rw [if_pos g]
          exact no
        · rw [if_neg g1, if_neg g2]
          exact no
  · rw [if_neg hd, if_neg hd]
    exact no
/-- a link is looked for, and put behind the others -/
def Lu (u : St) (k L : Nat) (x1 x2 x3 x4 : Int32) : St := sr_up (sr_up (sr_up (sr_up u k L x1) (k + 1) L x2) (k + 2) L x3) (k + 3) L x4
theorem link_l (P : Pl u p n L) (hL : L < 16) (x1 x2 x3 x4 : Int32) : ∀ d k f g, k + d = L → d < f → d < g → ∃ z : Bool, f_P_isLinked_2_it p g x1 x2 (nI k) = some (bI z) ∧ f_M_link_58_it f x1 x2 x3 x4 (nI k) u = some (bif z then (-1, u) else (nI L, sr_up (Lu u 8 L x1 x2 x3 x4) 7 0 (nI (L + 1)))) := by
  have h7 : u 7 0 = nI L := P.2.2.2.1.1
  have h15 : p 15 0 = nI L := P.2.2.2.1.2.2
  intro d
  induction d with
  | zero =>
    intro k f g hk hf hg
    obtain ⟨f, rfl⟩ : ∃ f', f = f' + 1 := ⟨f - 1, by omega⟩
    obtain ⟨g, rfl⟩ : ∃ g', g = g' + 1 := ⟨g - 1, by omega⟩
    obtain rfl : k = L := by omega
    refine ⟨false, ?_, ?_⟩
    · show f_P_isLinked_2 _ p x1 x2 (nI k) = _
      unfold f_P_isLinked_2
      rw [h15, if_pos (nI_le (Nat.le_refl _) (by omega))]
      rfl
    · show f_M_link_58 _ x1 x2 x3 x4 (nI k) u = _
      unfold f_M_link_58 sr_pf
      rw [h7, if_pos (nI_le (Nat.le_refl _) (by omega)), sp_ast hL (by decide)]
      simp only [Option.bind_some, sp_up_k (show (7 : Nat) ≠ 8 by decide), h7]
      rw [sp_ast hL (by decide)]
      simp only [Option.bind_some, sp_up_k (show (7 : Nat) ≠ 8 by decide), sp_up_k (show (7 : Nat) ≠ 9 by decide), h7]
      rw [sp_ast hL (by decide)]
      simp only [Option.bind_some, sp_up_k (show (7 : Nat) ≠ 8 by decide), sp_up_k (show (7 : Nat) ≠ 9 by decide), sp_up_k (show (7 : Nat) ≠ 10 by decide), h7]
      rw [sp_ast hL (by decide)]
      simp only [Option.bind_some, sp_up_k (show (7 : Nat) ≠ 8 by decide), sp_up_k (show (7 : Nat) ≠ 9 by decide), sp_up_k (show (7 : Nat) ≠ 10 by decide), sp_up_k (show (7 : Nat) ≠ 11 by decide), h7, nI_1]
      rw [sp_up_s, nI_pred]
      rfl
  | succ d ih =>
    intro k f g hk hf hg
    obtain ⟨f, rfl⟩ : ∃ f', f = f' + 1 := ⟨f - 1, by omega⟩
    obtain ⟨g, rfl⟩ : ∃ g', g = g' + 1 := ⟨g - 1, by omega⟩
    obtain ⟨z, i1, i2⟩ := ih (k + 1) f g (by omega) (by omega) (by omega)
    have e1 : f_P_isLinked_2_it p (g + 1) x1 x2 (nI k) = f_P_isLinked_2 (f_P_isLinked_2_it p g) p x1 x2 (nI k) := rfl
    have e2 : f_M_link_58_it (f + 1) x1 x2 x3 x4 (nI k) u = f_M_link_58 (f_M_link_58_it f) x1 x2 x3 x4 (nI k) u := rfl
    rw [e1, e2]
    unfold f_P_isLinked_2 f_P_isLinked_32 f_M_link_58 f_M_link_91
    rw [h15, h7, if_neg (nI_ge (show k < L by omega) (by omega)), if_neg (nI_ge (show k < L by omega) (by omega)), P.2.2.2.2.1.1, P.2.2.2.2.1.2.1, sp_ald16 (f := u 8) (by omega), sp_ald16 (f := u 9) (by omega), Option.bind_some, Option.bind_some, Option.bind_some, Option.bind_some, nI_1]
    by_cases q1 : u 8 k = x1
    · rw [if_pos q1, if_pos q1]
      by_cases q2 : u 9 k = x2
      · rw [if_pos q2, if_pos q2]
        exact ⟨true, rfl, rfl⟩
      · rw [if_neg q2, if_neg q2]
        exact ⟨z, i1, i2⟩
    · rw [if_neg q1, if_neg q1]
      exact ⟨z, i1, i2⟩
theorem sp_appL (hL : L < 16) (h15 : p 15 0 = nI L) (x1 x2 x3 x4 : Int32) : f_P_appendLink x1 x2 x3 x4 p = some (nI L, sr_up (Lu p 11 L x1 x2 x3 x4) 15 0 (nI (L + 1))) := by
  unfold f_P_appendLink sr_pf
  rw [h15, sp_ast hL (by decide)]
  simp only [Option.bind_some, sp_up_k (show (15 : Nat) ≠ 11 by decide), h15]
  rw [sp_ast hL (by decide)]
  simp only [Option.bind_some, sp_up_k (show (15 : Nat) ≠ 11 by decide), sp_up_k (show (15 : Nat) ≠ 12 by decide), h15]
  rw [sp_ast hL (by decide)]
  simp only [Option.bind_some, sp_up_k (show (15 : Nat) ≠ 11 by decide), sp_up_k (show (15 : Nat) ≠ 12 by decide), sp_up_k (show (15 : Nat) ≠ 13 by decide), h15]
  rw [sp_ast hL (by decide)]
  simp only [Option.bind_some, sp_up_k (show (15 : Nat) ≠ 11 by decide), sp_up_k (show (15 : Nat) ≠ 12 by decide), sp_up_k (show (15 : Nat) ≠ 13 by decide), sp_up_k (show (15 : Nat) ≠ 14 by decide), h15, nI_1]
  rw [sp_up_s, nI_pred]
  rfl
theorem Lu_o {k L k' : Nat} {x1 x2 x3 x4 : Int32} (h1 : k' ≠ k) (h2 : k' ≠ k + 1) (h3 : k' ≠ k + 2) (h4 : k' ≠ k + 3) : Lu u k L x1 x2 x3 x4 k' = u k' := by
  unfold Lu
  rw [sp_up_k h4, sp_up_k h3, sp_up_k h2, sp_up_k h1]
theorem Lu_0 {k L : Nat} {x1 x2 x3 x4 : Int32} : Lu u k L x1 x2 x3 x4 k = sr_up u k L x1 k := by
  unfold Lu
  rw [sp_up_k (by omega), sp_up_k (by omega), sp_up_k (by omega)]
theorem Lu_1 {k L : Nat} {x1 x2 x3 x4 : Int32} : Lu u k L x1 x2 x3 x4 (k + 1) = sr_up u (k + 1) L x2 (k + 1) := by
  unfold Lu
  rw [sp_up_k (by omega), sp_up_k (by omega)]
  exact up_col (sp_up_k (by omega))
theorem Lu_2 {k L : Nat} {x1 x2 x3 x4 : Int32} : Lu u k L x1 x2 x3 x4 (k + 2) = sr_up u (k + 2) L x3 (k + 2) := by
  unfold Lu
  rw [sp_up_k (by omega)]
  exact up_col ((sp_up_k (by omega)).trans (sp_up_k (by omega)))
theorem Lu_3 {k L : Nat} {x1 x2 x3 x4 : Int32} : Lu u k L x1 x2 x3 x4 (k + 3) = sr_up u (k + 3) L x4 (k + 3) := by
  unfold Lu
  exact up_col ((sp_up_k (by omega)).trans ((sp_up_k (by omega)).trans (sp_up_k (by omega))))
theorem Pl_link (P : Pl u p n L) (hL : L < 16) {a c : Nat} (ha : a < n) (hc : c < n) {x3 x4 : Int32} (h1 : -1 ≤ x3) (h2 : x3 ≤ 4) : Pl (sr_up (Lu u 8 L (nI a) (nI c) x3 x4) 7 0 (nI (L + 1))) (sr_up (Lu p 11 L (nI a) (nI c) x3 x4) 15 0 (nI (L + 1))) n (L + 1) := by
  obtain ⟨T, a0, ⟨b0, b1, b2, b3, b4, b5⟩, ⟨c0, c1, c2⟩, ⟨d0, d1, d2, d3⟩, e, f⟩ := P
  have hu : ∀ k, k < 7 → sr_up (Lu u 8 L (nI a) (nI c) x3 x4) 7 0 (nI (L + 1)) k = u k := fun k hk => by
    rw [sp_up_k (by omega), Lu_o (by omega) (by omega) (by omega) (by omega)]
  have hp : ∀ k, k < 11 → sr_up (Lu p 11 L (nI a) (nI c) x3 x4) 15 0 (nI (L + 1)) k = p k := fun k hk => by
    rw [sp_up_k (by omega), Lu_o (by omega) (by omega) (by omega) (by omega)]
  have g8 : sr_up (Lu u 8 L (nI a) (nI c) x3 x4) 7 0 (nI (L + 1)) 8 = sr_up u 8 L (nI a) 8 := by rw [sp_up_k (by omega), Lu_0]
  have g9 : sr_up (Lu u 8 L (nI a) (nI c) x3 x4) 7 0 (nI (L + 1)) 9 = sr_up u 9 L (nI c) 9 := by rw [sp_up_k (by omega)]; exact Lu_1
  have g10 : sr_up (Lu u 8 L (nI a) (nI c) x3 x4) 7 0 (nI (L + 1)) 10 = sr_up u 10 L x3 10 := by rw [sp_up_k (by omega)]; exact Lu_2
  have g11 : sr_up (Lu u 8 L (nI a) (nI c) x3 x4) 7 0 (nI (L + 1)) 11 = sr_up u 11 L x4 11 := by rw [sp_up_k (by omega)]; exact Lu_3
  have q8 : sr_up (Lu p 11 L (nI a) (nI c) x3 x4) 15 0 (nI (L + 1)) 11 = sr_up p 11 L (nI a) 11 := by rw [sp_up_k (by omega), Lu_0]
  have q9 : sr_up (Lu p 11 L (nI a) (nI c) x3 x4) 15 0 (nI (L + 1)) 12 = sr_up p 12 L (nI c) 12 := by rw [sp_up_k (by omega)]; exact Lu_1
  have q10 : sr_up (Lu p 11 L (nI a) (nI c) x3 x4) 15 0 (nI (L + 1)) 13 = sr_up p 13 L x3 13 := by rw [sp_up_k (by omega)]; exact Lu_2
  have q11 : sr_up (Lu p 11 L (nI a) (nI c) x3 x4) 15 0 (nI (L + 1)) 14 = sr_up p 14 L x4 14 := by rw [sp_up_k (by omega)]; exact Lu_3
  have T' : Tr (sr_up (Lu u 8 L (nI a) (nI c) x3 x4) 7 0 (nI (L + 1))) (sr_up (Lu p 11 L (nI a) (nI c) x3 x4) 15 0 (nI (L + 1))) n := by
    unfold Tr at T ⊢
    rw [hu 0 (by decide), hu 1 (by decide), hu 2 (by decide), hu 3 (by decide), hp 6 (by decide), hp 7 (by decide), hp 8 (by decide), hp 9 (by decide)]
    exact T
  refine ⟨T', ?_, ⟨?_, ?_, ?_, ?_, ?_, ?_⟩, ⟨sp_up_s, by omega, sp_up_s⟩, ⟨?_, ?_, ?_, ?_⟩, ?_, fun l hl => ?_⟩
  · rw [hp 10 (by decide)]; exact a0
  · rw [hp 0 (by decide), hu 1 (by decide)]; exact b0
  · rw [hp 1 (by decide), hu 2 (by decide)]; exact b1
  · rw [hp 2 (by decide), hu 3 (by decide)]; exact b2
  · rw [hp 3 (by decide), hu 4 (by decide)]; exact b3
  · rw [hp 4 (by decide), hu 5 (by decide)]; exact b4
  · rw [hp 5 (by decide), hu 6 (by decide)]; exact b5
  · rw [g8, q8]; exact up_col d0
  · rw [g9, q9]; exact up_col d1
  · rw [g10, q10]; exact up_col d2
  · rw [g11, q11]; exact up_col d3
  · rw [hu 3 (by decide), hu 4 (by decide), hu 5 (by decide)]; exact e
  · rw [g8, g9, g10]
    by_cases el : l = L
    · subst el
      rw [sp_up_s, sp_up_s, sp_up_s]
      exact ⟨⟨a, ha, rfl⟩, ⟨c, hc, rfl⟩, h1, h2⟩
    · rw [sp_up_i el, sp_up_i el, sp_up_i el]
      exact f l (by omega)
theorem link_ok (G : GI u s p I n L N B) (b : Nat → Int64) (x1 x2 x3 x4 : Int32) : ∃ r u' p' L', f_M_link x1 x2 x3 x4 u = some (r, u') ∧ f_S_link s b x1 x2 x3 x4 p = some (r, p') ∧ GI u' s p' I n L' N B := by
  have P := G.pl
  have h24 := P.lt
  have h7 : u 7 0 = nI L := P.2.2.2.1.1
  have h15 : p 15 0 = nI L := P.2.2.2.1.2.2
  have h16 : L ≤ 16 := P.2.2.2.1.2.1
  have no : ∃ r u' p' L', (some (-1, u) : Option (Int32 × St)) = some (r, u') ∧ (some (-1, p) : Option (Int32 × St)) = some (r, p') ∧ GI u' s p' I n L' N B := ⟨-1, u, p, L, rfl, rfl, G⟩
  -- what is said of the condition
  have hv : ∀ y : Int32, f_S_link_27 s b x1 x2 x3 x4 y p = f_S_link_46 s b x1 x2 x3 x4 y (bI (inB x3 (-1) 4)) p := by
    intro y
    unfold f_S_link_27 f_S_link_41
    by_cases e : x3 = -1
    · rw [if_pos e, show inB x3 (-1) 4 = true by rw [e]; rfl]
      rfl
    · rw [if_neg e, sp_isVar, Option.bind_some]
      have hb : inB x3 (-1) 4 = inB x3 0 4 := by
        unfold inB
        congr 1
        apply decide_eq_decide.mpr
        constructor
        · intro q
          rw [Int32.le_iff_toInt_le] at q ⊢
          have e0 : (0 : Int32).toInt = 0 := by decide
          have e1 : (-1 : Int32).toInt = -1 := by decide
          have e2 : x3.toInt ≠ -1 := fun w => e (Int32.toInt_inj.mp (w.trans e1.symm))
          omega
        · intro q
          exact Int32.le_trans (by decide) q
      rw [hb]
      cases inB x3 0 4 <;> rfl
  unfold f_M_link f_S_link f_S_link_26
  rw [hv, hv, G.d12]
  unfold f_S_link_46
  by_cases hd : s 1 0 = 0
  · simp only [if_pos hd]
    rw [h7, h15]
    by_cases hL : L < 16
    · have g16 : ¬ (16 : Int32) ≤ nI L := nI_ge (b := 16) hL (by decide)
      rw [if_neg g16]
      simp only [if_neg g16]
      rcases sp_inA P x1 with ⟨e1, e2⟩ | ⟨a, ha, rfl, e1, e2⟩
      · rw [e1, e2, Option.bind_some, Option.bind_some, if_pos rfl, if_pos rfl, if_pos trivial]
        exact no
      rw [e1, e2, Option.bind_some, Option.bind_some, if_neg (show ¬ (1 : Int32) = 0 by decide), if_neg (show ¬ (1 : Int32) = 0 by decide)]
      rcases sp_inA P x2 with ⟨e3, e4⟩ | ⟨c, hc, rfl, e3, e4⟩
      · rw [e3, e4, Option.bind_some, Option.bind_some, if_pos rfl, if_pos rfl, if_pos trivial]
        exact no
      rw [e3, e4, Option.bind_some, Option.bind_some, if_neg (show ¬ (1 : Int32) = 0 by decide), if_neg (show ¬ (1 : Int32) = 0 by decide), if_neg (show ¬ (1 : Int32) = 0 by decide), sp_inn, Option.bind_some]
      cases hb : inB x3 (-1) 4 with
      | false =>
        rw [if_pos (show bI false = 0 from rfl), if_pos (show bI false = 0 from rfl)]
        exact no
      | true =>
        rw [if_neg (show ¬ bI true = 0 by decide), if_neg (show ¬ bI true = 0 by decide)]
        unfold inB at hb
        rw [Bool.and_eq_true, decide_eq_true_eq, decide_eq_true_eq] at hb
        obtain ⟨z, i1, i2⟩ := link_l P hL (nI a) (nI c) x3 x4 L 0 60 60 (by omega) (by omega) (by omega)
        unfold f_P_isLinked
        rw [show (0 : Int32) = nI 0 from rfl, i1, i2, Option.bind_some, nI_0]
        cases z with
        | true =>
          rw [if_neg (show ¬ bI true = 0 by decide)]
          exact no
        | false =>
          rw [if_pos (show bI false = 0 from rfl), sp_appL hL h15]
          exact ⟨nI L, _, _, L + 1, rfl, rfl, G.plan hd (Pl_link P hL ha hc hb.1 hb.2) (G.mo.cg (by rw [sp_up_k (by decide), Lu_o (by decide) (by decide) (by decide) (by decide)])) (fun k hk => by rw [sp_up_k (by omega), Lu_o (by omega) (by omega) (by omega) (by omega)])⟩
    · have g16 : (16 : Int32) ≤ nI L := nI_le (a := 16) (by omega) (by omega)
      rw [if_pos g16]
      simp only [if_pos g16, ite_self]
      have ee : ∀ x, ∃ v, f_P_hasActivity p x = some v := fun x => by
        rcases sp_inA P x with ⟨-, e⟩ | ⟨a, -, -, -, e⟩
        · exact ⟨0, e⟩
        · exact ⟨1, e⟩
      obtain ⟨v1, w1⟩ := ee x1
      obtain ⟨v2, w2⟩ := ee x2
      rw [w1, w2, Option.bind_some, Option.bind_some]
      simp only [ite_self]
      exact no
  · rw [if_neg hd]
    simp only [if_neg hd]
    have ee : ∀ x, ∃ v, f_P_hasActivity p x = some v := fun x => by
      rcases sp_inA P x with ⟨-, e⟩ | ⟨a, -, -, -, e⟩
      · exact ⟨0, e⟩
      · exact ⟨1, e⟩
    obtain ⟨v1, w1⟩ := ee x1
    obtain ⟨v2, w2⟩ := ee x2
    rw [w1, w2, Option.bind_some, Option.bind_some]
    simp only [ite_self]
    exact no
theorem deploy_ok (G : GI u s p I n L N B) (b : Nat → Int64) : ∃ r u' s' b', f_M_deploy u = some (r, u') ∧ f_S_deploy p s b = some (r, s', b') ∧ GI u' s' p I n L N B := by
  have P := G.pl
  by_cases hd : s 1 0 = 0
  · obtain ⟨r, u', b', h1, h2, h3, h4⟩ := sp_deploy P (G.d12.trans hd) b
    have hN : N = 0 := Nat.eq_zero_of_not_pos (fun q => G.Nd q hd)
    subst hN
    unfold f_S_deploy
    rw [if_pos hd, h2]
    have fin : ∀ y : Int32, (y = 0 ∨ y = 1) → u' 12 0 = y → (¬ y = 0 → Dp u' p n L) → GI u' (sr_up s 1 0 y) p I n L 0 B := by
      intro y hy e12 hD
      refine ⟨⟨Pl_congr P (fun k hk => h3 k (by omega) (by omega) (by omega) (by omega)), G.mo.cg (h3 6 (by decide) (by decide) (by decide) (by decide))⟩, ⟨⟨by rw [sp_up_s]; exact e12, by rw [sp_up_s]; exact hy⟩, by rw [sp_up_s]; exact hD⟩, ⟨?_, ?_, G.N8, fun q => absurd q (by decide)⟩, ?_, fun j hj => (G.rl hj).cg (fun k k1 _ => h3 k (by omega) (by omega) (by omega) (by omega)), fun j hj => G.z hj, fun j hj => absurd hj (Nat.not_lt_zero _)⟩
      · rw [h3 16 (by decide) (by decide) (by decide) (by decide)]; exact G.n16
      · rw [sp_up_k (by decide)]; exact G.s0
      · rw [h3 34 (by decide) (by decide) (by decide) (by decide)]; exact G.h34
    rcases h4 with ⟨rfl, e12, hD⟩ | ⟨hr, e12⟩
    · refine ⟨0, u', sr_up s 1 0 1, b', h1, ?_, fin 1 (Or.inr rfl) e12 (fun _ => hD)⟩
      show (if (0 : Int32) = 0 then f_S_deploy_27 p 0 1 s b' else f_S_deploy_27 p 0 0 s b') = _
      rw [if_pos rfl]
      rfl
    · refine ⟨r, u', sr_up s 1 0 0, b', h1, ?_, fin 0 (Or.inl rfl) e12 (fun q => absurd rfl q)⟩
      show (if r = 0 then f_S_deploy_27 p r 1 s b' else f_S_deploy_27 p r 0 s b') = _
      rw [if_neg hr]
      rfl
  · refine ⟨-1, u, s, b, ?_, ?_, G⟩
    · unfold f_M_deploy
      rw [G.d12, if_neg hd]
    · unfold f_S_deploy
      rw [if_neg hd]
end
