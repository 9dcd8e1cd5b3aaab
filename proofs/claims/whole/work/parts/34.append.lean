/-! PURE 5: an activity is added on both sides -/
/-- the reference behind an add -/
def Au (u : St) (n : Nat) (x1 x2 x3 x4 x5 : Int32) : St := sr_up (sr_up (sr_up (sr_up (sr_up (sr_up u 1 n x1) 2 n x2) 3 n x3) 4 n x4) 5 n x5) 0 0 (nI (n + 1))
theorem sp_M_app {u : St} {n : Nat} (hn : u 0 0 = nI n) (h : n < 24) (x1 x2 x3 x4 x5 : Int32) : f_M_add_126 x1 x2 x3 x4 x5 u = some (nI n, Au u n x1 x2 x3 x4 x5) := by
  unfold f_M_add_126 sr_pf
  rw [hn, sp_ast h (by decide)]
  simp only [Option.bind_some]
  simp only [sp_up_k (show (0 : Nat) ≠ 1 by decide), hn]
  rw [sp_ast h (by decide)]
  simp only [Option.bind_some, sp_up_k (show (0 : Nat) ≠ 1 by decide), sp_up_k (show (0 : Nat) ≠ 2 by decide), hn]
  rw [sp_ast h (by decide)]
  simp only [Option.bind_some, sp_up_k (show (0 : Nat) ≠ 1 by decide), sp_up_k (show (0 : Nat) ≠ 2 by decide), sp_up_k (show (0 : Nat) ≠ 3 by decide), hn]
  rw [sp_ast h (by decide)]
  simp only [Option.bind_some, sp_up_k (show (0 : Nat) ≠ 1 by decide), sp_up_k (show (0 : Nat) ≠ 2 by decide), sp_up_k (show (0 : Nat) ≠ 3 by decide), sp_up_k (show (0 : Nat) ≠ 4 by decide), hn]
  rw [sp_ast h (by decide)]
  simp only [Option.bind_some, sp_up_k (show (0 : Nat) ≠ 1 by decide), sp_up_k (show (0 : Nat) ≠ 2 by decide), sp_up_k (show (0 : Nat) ≠ 3 by decide), sp_up_k (show (0 : Nat) ≠ 4 by decide), sp_up_k (show (0 : Nat) ≠ 5 by decide), hn, nI_1]
  rw [sp_up_s, nI_pred]
  rfl
/-- the cls's arrays behind the straight part of append -/
def Ap (p : St) (n : Nat) (x1 x2 x3 x4 x5 y6 y8 y7 : Int32) : St := sr_up (sr_up (sr_up (sr_up (sr_up (sr_up (sr_up (sr_up p 0 n x1) 1 n x2) 2 n x3) 3 n x4) 4 n x5) 6 n y6) 8 n y8) 7 n y7
theorem sp_app_loop {q : St} {n j : Nat} (h : n < 24) (hj : j < 24) (hq : q 10 0 = nI n) : ∃ q', f_P_append_157_it 60 (nI j) (nI n) 0 q = some (nI n, q') ∧ (∀ k, k ≠ 9 → k ≠ 10 → q' k = q k) ∧ q' 10 0 = nI (n + 1) ∧ (∀ i, i ≠ 0 → q' 10 i = q 10 i) ∧ ∀ b, q' 9 b = if b = n then (1 : Int32) <<< (nI n &&& 31) else if b < n ∧ bt (q 9 b) j = true then q 9 b ||| ((1 : Int32) <<< (nI n &&& 31)) else q 9 b := by
  have hl := (sp_loop (fun f i (x : St) => f_P_append_157_it f (nI j) (nI n) (nI i) x) (fun x => some (nI n, sr_up (sr_up x 9 n ((1 : Int32) <<< (nI n &&& 31))) 10 0 (nI (n + 1)))) (fun i x => if bt (x 9 i) j = true then sr_up x 9 i (x 9 i ||| ((1 : Int32) <<< (nI n &&& 31))) else x)
    (fun i x => (∀ k, k ≠ 9 → x k = q k) ∧ ∀ b, x 9 b = if b < i ∧ bt (q 9 b) j = true then q 9 b ||| ((1 : Int32) <<< (nI n &&& 31)) else q 9 b) n (fun f i x hi I => by
      have e1 : x 9 i = q 9 i := by rw [I.2 i, if_neg (fun h => by omega)]
      refine ⟨?_, ?_⟩
      · show f_P_append_157 _ (nI j) (nI n) (nI i) x = _
        unfold f_P_append_157 f_P_append_192
        rw [if_neg (nI_ge hi (by omega)), sp_ald24 (by omega), Option.bind_some, sp_isIn (by omega), Option.bind_some, nI_1]
        cases hb : bt (x 9 i) j with
        | false => simp [bI]
        | true =>
          rw [if_neg (by decide), Option.bind_some, sp_ast (by omega) (by decide), Option.bind_some]
          simp
      · rw [e1]
        by_cases hb : bt (q 9 i) j = true
        · rw [if_pos hb]
          refine ⟨fun k hk => by rw [sp_up_k hk]; exact I.1 k hk, fun b => ?_⟩
          by_cases hbi : b = i
          · subst hbi
            rw [sp_up_s, if_pos ⟨by omega, hb⟩]
          · rw [sp_up_i hbi, I.2 b]
            by_cases h1 : b < i
            · simp [h1, show b < i + 1 by omega]
            · simp [h1, show ¬ b < i + 1 by omega]
        · rw [if_neg hb]
          refine ⟨I.1, fun b => ?_⟩
          rw [I.2 b]
          by_cases hbi : b = i
          · subst hbi
            simp [hb]
          · by_cases h1 : b < i
            · simp [h1, show b < i + 1 by omega]
            · simp [h1, show ¬ b < i + 1 by omega]) (fun f x I => by
      show f_P_append_157 _ (nI j) (nI n) (nI n) x = _
      unfold f_P_append_157 sr_pf
      rw [if_pos (nI_le (Nat.le_refl _) (by omega)), sp_ast h (by decide)]
      simp only [Option.bind_some]
      rw [sp_up_k (show (10 : Nat) ≠ 9 by decide), I.1 10 (by decide), hq, nI_1]) n 0 60 q (by omega) (by omega) ⟨fun _ _ => rfl, fun b => by rw [if_neg (fun h => by omega)]⟩)
  obtain ⟨h1, I⟩ := hl
  refine ⟨_, by rw [← nI_0]; exact h1, ?_, ?_, ?_, ?_⟩
  · intro k h9 h10
    rw [sp_up_k h10, sp_up_k h9]
    exact I.1 k h9
  · rw [sp_up_s]
  · intro i hi
    rw [sp_up_i hi, sp_up_k (show (10 : Nat) ≠ 9 by decide), I.1 10 (by decide)]
  · intro b
    rw [sp_up_k (show (9 : Nat) ≠ 10 by decide)]
    by_cases hb : b = n
    · subst hb
      rw [sp_up_s, if_pos rfl]
    · rw [sp_up_i hb, if_neg hb]
      exact I.2 b
