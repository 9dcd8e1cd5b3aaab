/-! PURE 6: an activity is added on both sides, and the two still hold the same process -/
theorem sp_hasAct {p : St} {n j : Nat} (hp : p 10 0 = nI n) (hn : n < 2 ^ 31) (hj : j < n) : f_P_hasActivity p (nI j) = some 1 := by
  unfold f_P_hasActivity
  rw [hp, if_neg (nI_pos (by omega)), if_neg (nI_ge hj hn)]
theorem sp_app_child {u p : St} {n L : Nat} (P : Pl u p n L) (h : n < 24) {x2 x3 x4 x5 : Int32} {j : Nat} (hj : j < n) :
    ∃ p', f_P_append (nI j) x2 x3 x4 x5 p = some (nI n, p') ∧ (∀ k, k ≠ 9 → k ≠ 10 → p' k = Ap p n (nI j) x2 x3 x4 x5 (if u 3 j = 12 then nI j else p 6 j) (if u 3 j = 12 then nI n else p 8 j) (if x2 ≠ 0 then nI n else p 7 j) k) ∧ p' 10 0 = nI (n + 1) ∧
      ∀ b, p' 9 b = if b = n then (1 : Int32) <<< (nI n &&& 31) else if b < n ∧ bt (p 9 b) j = true then p 9 b ||| ((1 : Int32) <<< (nI n &&& 31)) else p 9 b := by
  obtain ⟨T, hn, ⟨e0, e1, e2, e3, e4, e5⟩, -⟩ := P
  have hjn : j ≠ n := by omega
  obtain ⟨q', h1, h2, h3, -, h5⟩ := sp_app_loop (q := Ap p n (nI j) x2 x3 x4 x5 (if u 3 j = 12 then nI j else p 6 j) (if u 3 j = 12 then nI n else p 8 j) (if x2 ≠ 0 then nI n else p 7 j)) (j := j) h (by omega) (by simp [Ap, sp_up, hn])
  refine ⟨q', ?_, h2, h3, fun b => ?_⟩
  · unfold f_P_append
    rw [hn]
    simp only [sp_ast h (show (24 : Nat) < 2 ^ 31 by decide), Option.bind_some]
    unfold f_P_hasScope
    rw [sp_hasAct (n := n) (by simp [sp_up, hn]) (by omega) hj, Option.bind_some, if_neg (by decide), sp_ald24 (by omega), Option.bind_some]
    have ek : (sr_up (sr_up (sr_up (sr_up (sr_up p 0 n (nI j)) 1 n x2) 2 n x3) 3 n x4) 4 n x5) 2 j = u 3 j := by
      simp [sp_up, hjn, e2]
    rw [ek]
    have fin : ∀ (y6 y8 : Int32), f_P_append_119 (nI j) x2 (nI n) y8 (nI n) (sr_up (sr_up (sr_up (sr_up (sr_up (sr_up p 0 n (nI j)) 1 n x2) 2 n x3) 3 n x4) 4 n x5) 6 n y6) = f_P_append_157_it 60 (nI j) (nI n) 0 (Ap p n (nI j) x2 x3 x4 x5 y6 y8 (if x2 ≠ 0 then nI n else p 7 j)) := by
      intro y6 y8
      unfold f_P_append_119 f_P_append_153
      rw [sp_ast h (by decide), Option.bind_some]
      by_cases hx : x2 = 0
      · rw [if_pos hx, sp_hasAct (n := n) (by simp [sp_up, hn]) (by omega) hj, Option.bind_some, if_neg (by decide), sp_ald24 (by omega), Option.bind_some, sp_ast h (by decide), Option.bind_some]
        simp [Ap, hx, sp_up, hjn]
      · rw [if_neg hx, sp_ast h (by decide), Option.bind_some]
        simp [Ap, hx]
    by_cases hk : u 3 j = 12
    · rw [if_pos hk, Option.bind_some, Option.bind_some, if_neg (by decide), if_neg (by decide)]
      unfold f_P_append_72 f_P_append_73 f_P_append_96
      rw [if_pos rfl, sp_ast h (by decide), Option.bind_some, if_pos rfl, fin]
      simpa [hk] using h1
    · rw [if_neg hk, Option.bind_some, Option.bind_some, if_neg (by decide), if_pos rfl]
      unfold f_P_append_73 f_P_append_96
      rw [if_neg (by decide), sp_ald24 (by omega), Option.bind_some, sp_ast h (by decide), Option.bind_some, if_neg (by decide), sp_ald24 (by omega), Option.bind_some, fin]
      have e6 : (sr_up (sr_up (sr_up (sr_up (sr_up p 0 n (nI j)) 1 n x2) 2 n x3) 3 n x4) 4 n x5) 6 j = p 6 j := by simp [sp_up]
      have e8 : ∀ y, (sr_up (sr_up (sr_up (sr_up (sr_up (sr_up p 0 n (nI j)) 1 n x2) 2 n x3) 3 n x4) 4 n x5) 6 n y) 8 j = p 8 j := by intro y; simp [sp_up]
      rw [e6, e8]
      simpa [hk] using h1
  · rw [h5 b]
    simp [Ap, sp_up]
theorem sp_app_root {u p : St} {L : Nat} (P : Pl u p 0 L) {x4 x5 : Int32} :
    ∃ p', f_P_append (-1) 0 12 x4 x5 p = some (nI 0, p') ∧ (∀ k, k ≠ 9 → k ≠ 10 → p' k = Ap p 0 (-1) 0 12 x4 x5 (-1) (nI 0) (-1) k) ∧ p' 10 0 = nI 1 ∧ ∀ b, p' 9 b = if b = 0 then (1 : Int32) <<< (nI 0 &&& 31) else p 9 b := by
  obtain ⟨T, hn, -⟩ := P
  refine ⟨sr_up (sr_up (Ap p 0 (-1) 0 12 x4 x5 (-1) (nI 0) (-1)) 9 0 ((1 : Int32) <<< (nI 0 &&& 31))) 10 0 (nI 1), ?_, ?_, ?_, ?_⟩
  · unfold f_P_append
    rw [hn]
    simp only [sp_ast (show (0 : Nat) < 24 by decide) (show (24 : Nat) < 2 ^ 31 by decide), Option.bind_some]
    have hA : ∀ q : St, f_P_hasActivity q (-1) = some 0 := fun q => by
      unfold f_P_hasActivity
      rw [if_pos (by decide)]
    unfold f_P_hasScope f_P_append_72 f_P_append_73 f_P_append_96 f_P_append_119 f_P_append_153
    simp only [hA, Option.bind_some, if_pos, sp_ast (show (0 : Nat) < 24 by decide) (show (24 : Nat) < 2 ^ 31 by decide)]
    show f_P_append_157 _ (-1) (nI 0) 0 _ = _
    unfold f_P_append_157 sr_pf
    rw [if_pos (by decide), sp_ast (show (0 : Nat) < 24 by decide) (show (24 : Nat) < 2 ^ 31 by decide)]
    simp only [Option.bind_some]
    have e10 : ∀ q : St, (sr_up q 9 0 ((1 : Int32) <<< (nI 0 &&& 31))) 10 0 = q 10 0 := fun q => by simp [sp_up]
    rw [e10]
    have e11 : (sr_up (sr_up (sr_up (sr_up (sr_up (sr_up (sr_up (sr_up p 0 0 (-1)) 1 0 0) 2 0 12) 3 0 x4) 4 0 x5) 6 0 (-1)) 8 0 (nI 0)) 7 0 (-1)) 10 0 = nI 0 := by simp [sp_up, hn]
    rw [e11]
    rfl
  · intro k h9 h10
    rw [sp_up_k h10, sp_up_k h9]
  · rw [sp_up_s]
  · intro b
    rw [sp_up_k (show (9 : Nat) ≠ 10 by decide)]
    by_cases hb : b = 0
    · subst hb
      rw [sp_up_s, if_pos rfl]
    · rw [sp_up_i hb, if_neg hb]
      simp [Ap, sp_up]
/-- the bits behind an add -/
theorem sp_app_bits {p p' : St} {n : Nat} (h : n < 24) {g : Nat → Bool} (h9 : ∀ b, p' 9 b = if b = n then (1 : Int32) <<< (nI n &&& 31) else if g b = true then p 9 b ||| ((1 : Int32) <<< (nI n &&& 31)) else p 9 b) (b c : Nat) : bt (p' 9 b) c = if b = n then decide (c = n) else (bt (p 9 b) c || (g b && decide (c = n))) := by
  rw [h9 b]
  by_cases hb : b = n
  · rw [if_pos hb, if_pos hb, sp_bit1 (by omega)]
  · rw [if_neg hb, if_neg hb]
    by_cases hg : g b = true
    · rw [if_pos hg, b_or, sp_bit1 (by omega), hg, Bool.true_and]
    · rw [if_neg hg]
      have : g b = false := by simpa using hg
      rw [this, Bool.false_and, Bool.or_false]

theorem sp_app_Pl {u p p' : St} {n L : Nat} (P : Pl u p n L) (h : n < 24) {x1 x2 x3 x4 x5 y6 y8 y7 : Int32} {g : Nat → Bool}
    (hk : ∀ k, k ≠ 9 → k ≠ 10 → p' k = Ap p n x1 x2 x3 x4 x5 y6 y8 y7 k) (h10 : p' 10 0 = nI (n + 1)) (h9 : ∀ b, p' 9 b = if b = n then (1 : Int32) <<< (nI n &&& 31) else if g b = true then p 9 b ||| ((1 : Int32) <<< (nI n &&& 31)) else p 9 b)
    (hfit : fitB x3 x4 x5 = true) (hr : x2 = 0 ∨ x2 = 1 ∨ x2 = 2)
    (h0 : n = 0 → x1 = -1 ∧ x2 = 0 ∧ x3 = 12 ∧ y6 = -1 ∧ y7 = -1 ∧ y8 = 0)
    (h1 : 0 < n → ∃ j, j < n ∧ x1 = nI j ∧ 8 ≤ u 3 j ∧ (x2 ≠ 0 → u 3 j = 12) ∧ y6 = (if u 3 j = 12 then nI j else p 6 j) ∧ y7 = (if x2 ≠ 0 then nI n else p 7 j) ∧ y8 = (if u 3 j = 12 then nI n else p 8 j) ∧ ∀ b, b < n → g b = bt (p 9 b) j) :
    Pl (Au u n x1 x2 x3 x4 x5) p' (n + 1) L := by
  have bits := sp_app_bits h h9
  obtain ⟨T, hn, ⟨e0, e1, e2, e3, e4, e5⟩, ⟨l0, l1, l2⟩, ⟨f0, f1, f2, f3⟩, hf, hl⟩ := P
  have hlast : ∀ c, c < n + 1 → c ≠ n → c < n := fun c h1 h2 => by omega
  have uo : ∀ k i, k ≠ 0 → i ≠ n → (Au u n x1 x2 x3 x4 x5) k i = u k i := by
    intro k i hk0 hi
    simp [Au, sp_up, hk0, hi]
  have po : ∀ k i, k ≠ 9 → k ≠ 10 → i ≠ n → p' k i = p k i := by
    intro k i h9 h10 hi
    rw [hk k h9 h10]
    simp [Ap, sp_up, hi]
  have u6 : ∀ k, 6 ≤ k → (Au u n x1 x2 x3 x4 x5) k = u k := by
    intro k hk6
    unfold Au
    rw [sp_up_k (by omega), sp_up_k (by omega), sp_up_k (by omega), sp_up_k (by omega), sp_up_k (by omega), sp_up_k (by omega)]
  have ar : ∀ k k', k' ≠ 9 → k' ≠ 10 → k ≠ 0 → p k' = u k → (p' k' n = (Au u n x1 x2 x3 x4 x5) k n) → p' k' = (Au u n x1 x2 x3 x4 x5) k := by
    intro k k' a1 a2 a3 a4 a5
    funext i
    by_cases hi : i = n
    · rw [hi]; exact a5
    · rw [po k' i a1 a2 hi, uo k i a3 hi, a4]
  refine ⟨⟨?_, by omega, ?_, ?_, ?_, ?_, ?_⟩, h10, ⟨?_, ?_, ?_, ?_, ?_, ?_⟩, ⟨by rw [u6 7 (by decide)]; exact l0, l1, by rw [hk 15 (by decide) (by decide)]; simp [Ap, sp_up, l2]⟩, ⟨?_, ?_, ?_, ?_⟩, ?_, ?_⟩
  · simp [Au, sp_up]
  · intro _
    rcases Nat.eq_zero_or_pos n with hz | hz
    · obtain ⟨a1, a2, a3, a4, a5, a6⟩ := h0 hz
      subst hz
      refine ⟨by simp [Au, sp_up, a1], by simp [Au, sp_up, a2], by simp [Au, sp_up, a3], ?_, ?_, ?_⟩
      · rw [hk 6 (by decide) (by decide)]; simp [Ap, sp_up, a4]
      · rw [hk 7 (by decide) (by decide)]; simp [Ap, sp_up, a5]
      · rw [hk 8 (by decide) (by decide)]; simp [Ap, sp_up, a6]
    · obtain ⟨a1, a2, a3, a4, a5, a6⟩ := T.2.2.1 hz
      exact ⟨by rw [uo 1 0 (by decide) (by omega)]; exact a1, by rw [uo 2 0 (by decide) (by omega)]; exact a2, by rw [uo 3 0 (by decide) (by omega)]; exact a3, by rw [po 6 0 (by decide) (by decide) (by omega)]; exact a4, by rw [po 7 0 (by decide) (by decide) (by omega)]; exact a5, by rw [po 8 0 (by decide) (by decide) (by omega)]; exact a6⟩
  · intro c hc0 hc
    by_cases hcn : c = n
    · subst hcn
      obtain ⟨j, hj, a1, a2, a3, a4, a5, a6, a7⟩ := h1 hc0
      refine ⟨j, hj, by simp [Au, sp_up, a1], by rw [uo 3 j (by decide) (by omega)]; exact a2, ?_, ?_, ?_, ?_, ?_⟩
      · rw [uo 3 j (by decide) (by omega)]
        intro hx
        exact a3 (by simpa [Au, sp_up] using hx)
      · rw [po 6 j (by decide) (by decide) (by omega), hk 6 (by decide) (by decide), uo 3 j (by decide) (by omega), ← a4]
        simp [Ap, sp_up]
      · rw [po 7 j (by decide) (by decide) (by omega), hk 7 (by decide) (by decide)]
        have : (Au u c x1 x2 x3 x4 x5) 2 c = x2 := by simp [Au, sp_up]
        rw [this, ← a5]
        simp [Ap, sp_up]
      · rw [po 8 j (by decide) (by decide) (by omega), hk 8 (by decide) (by decide), uo 3 j (by decide) (by omega), ← a6]
        simp [Ap, sp_up]
      · intro b hb
        rw [bits, bits]
        by_cases hbn : b = c
        · subst hbn
          simp
        · have hbc : b < c := by omega
          have hjc : j ≠ c := by omega
          rw [if_neg hbn, if_neg hbn, T.2.2.2.2.2.1 b c hbc (Nat.le_refl _), a7 b hbc]
          have hcb : ¬ c = b := fun h => hbn h.symm
          simp [hjc, hcb]
    · have hcn' : c < n := by omega
      obtain ⟨j, hj, a1, a2, a3, a4, a5, a6, a7⟩ := T.par hc0 hcn'
      have hjn : j ≠ n := by omega
      refine ⟨j, hj, by rw [uo 1 c (by decide) hcn]; exact a1, by rw [uo 3 j (by decide) hjn]; exact a2, by rw [uo 2 c (by decide) hcn, uo 3 j (by decide) hjn]; exact a3, by rw [uo 3 j (by decide) hjn, po 6 c (by decide) (by decide) hcn, po 6 j (by decide) (by decide) hjn]; exact a4, by rw [uo 2 c (by decide) hcn, po 7 c (by decide) (by decide) hcn, po 7 j (by decide) (by decide) hjn]; exact a5, by rw [uo 3 j (by decide) hjn, po 8 c (by decide) (by decide) hcn, po 8 j (by decide) (by decide) hjn]; exact a6, ?_⟩
      intro b hb
      rw [bits, bits]
      by_cases hbn : b = n
      · subst hbn
        simp [hcn, hjn]
      · rw [if_neg hbn, if_neg hbn, a7 b (by omega)]
        simp [hcn, hjn]
  · intro b hb
    rw [bits]
    by_cases hbn : b = n
    · subst hbn
      rw [if_pos rfl]
      by_cases hz : b = 0 <;> simp [hz]
      exact fun h => hz h.symm
    · rw [if_neg hbn, T.2.2.2.2.1 b (by omega)]
      have : (0 : Nat) ≠ n := by omega
      simp [this]
  · intro b c hb hc
    rw [bits]
    have hcn : c ≠ n := by omega
    by_cases hbn : b = n
    · simp [hbn, hcn]
    · rw [if_neg hbn, T.2.2.2.2.2.1 b c (by omega) (by omega)]
      simp [hcn]
  · intro c hc
    by_cases hcn : c = n
    · subst hcn
      have : (Au u c x1 x2 x3 x4 x5) 2 c = x2 := by simp [Au, sp_up]
      rw [this]; exact hr
    · rw [uo 2 c (by decide) hcn]; exact T.2.2.2.2.2.2 c (by omega)
  · exact ar 1 0 (by decide) (by decide) (by decide) e0 (by rw [hk 0 (by decide) (by decide)]; simp [Ap, Au, sp_up])
  · exact ar 2 1 (by decide) (by decide) (by decide) e1 (by rw [hk 1 (by decide) (by decide)]; simp [Ap, Au, sp_up])
  · exact ar 3 2 (by decide) (by decide) (by decide) e2 (by rw [hk 2 (by decide) (by decide)]; simp [Ap, Au, sp_up])
  · exact ar 4 3 (by decide) (by decide) (by decide) e3 (by rw [hk 3 (by decide) (by decide)]; simp [Ap, Au, sp_up])
  · exact ar 5 4 (by decide) (by decide) (by decide) e4 (by rw [hk 4 (by decide) (by decide)]; simp [Ap, Au, sp_up])
  · rw [u6 6 (by decide), hk 5 (by decide) (by decide), ← e5]
    funext i
    simp [Ap, sp_up]
  · rw [u6 8 (by decide), hk 11 (by decide) (by decide), ← f0]
    funext i
    simp [Ap, sp_up]
  · rw [u6 9 (by decide), hk 12 (by decide) (by decide), ← f1]
    funext i
    simp [Ap, sp_up]
  · rw [u6 10 (by decide), hk 13 (by decide) (by decide), ← f2]
    funext i
    simp [Ap, sp_up]
  · rw [u6 11 (by decide), hk 14 (by decide) (by decide), ← f3]
    funext i
    simp [Ap, sp_up]
  · intro c hc
    by_cases hcn : c = n
    · subst hcn
      have a3 : (Au u c x1 x2 x3 x4 x5) 3 c = x3 := by simp [Au, sp_up]
      have a4 : (Au u c x1 x2 x3 x4 x5) 4 c = x4 := by simp [Au, sp_up]
      have a5 : (Au u c x1 x2 x3 x4 x5) 5 c = x5 := by simp [Au, sp_up]
      rw [a3, a4, a5]; exact hfit
    · rw [uo 3 c (by decide) hcn, uo 4 c (by decide) hcn, uo 5 c (by decide) hcn]; exact hf c (by omega)
  · intro l hl0
    rw [u6 8 (by decide), u6 9 (by decide), u6 10 (by decide)]
    obtain ⟨⟨a, ha, q1⟩, ⟨b, hb, q2⟩, q3⟩ := hl l hl0
    exact ⟨⟨a, by omega, q1⟩, ⟨b, by omega, q2⟩, q3⟩
