/-! PURE 45: messages -/
/-- one of those made runs with this key -/
def kP (I : Nat → St) (x2 : Int32) (k : Nat) : Bool := decide (I k 1 0 = x2) && decide (I k 3 0 = 0)
def msgT (x1 x2 x3 : Int32) (u0 : St) : Option (Int32 × St) :=
  if (u0 12 0) = 0 then
    some (-1, u0)
  else
    (sr_ald 24 (u0 4) (u0 13 0)).bind fun v_3 =>
    if x1 = v_3 then
      if (u0 16 0) < 8 then
        (sr_ast 8 u0 18 (u0 16 0) x2).bind fun u_7 =>
        (sr_ast 8 u_7 19 (u_7 16 0) x3).bind fun u_9 =>
        (sr_ast 192 u_9 21 (24 * (u_9 16 0)) 1).bind fun u_11 =>
        (sr_pf u_11 16 ((u_11 16 0) + 1)).bind fun u_13 =>
        some ((u_13 16 0) - 1, u_13)
      else
        some (-1, u0)
    else
      some (-1, u0)
def msgB (x1 x3 x4 : Int32) (u0 : St) : Option (Int32 × St) :=
  (f_M_waiting (sr_up u0 33 0 x4) x1).bind fun v_23 => if 0 ≤ v_23 then (sr_ald 24 (sr_up u0 33 0 x4 5) v_23).bind fun v_26 => (f_M_store v_23 v_26 x3 (sr_up u0 33 0 x4)).bind fun u_28 => (f_M_then 1 v_23 0 u_28).bind fun u_30 => (f_M_settle u_30).bind fun u_32 => some (x4, u_32) else some (-1, sr_up u0 33 0 x4)
section
variable {u p s : St} {n L : Nat} {I : Nat → St} {N B : Nat}
theorem msg_l (G : GI u s p I n L N B) (x1 x2 x3 : Int32) : ∀ d k f, k + d = N → d < f → f_M_message_3_it f x1 x2 x3 (nI k) u = match sp_fd (kP I x2) k d with
    | none => msgT x1 x2 x3 u
    | some j => msgB x1 x3 (nI j) u := by
  have hN := G.N8
  intro d
  induction d with
  | zero =>
    intro k f hk hf
    obtain ⟨f, rfl⟩ : ∃ f', f = f' + 1 := ⟨f - 1, by omega⟩
    show f_M_message_3 _ x1 x2 x3 (nI k) u = msgT x1 x2 x3 u
    unfold f_M_message_3
    rw [if_pos (show u 16 0 ≤ nI k by rw [G.n16]; exact nI_le (by omega) (by omega))]
    rfl
  | succ d ih =>
    intro k f hk hf
    obtain ⟨f, rfl⟩ : ∃ f', f = f' + 1 := ⟨f - 1, by omega⟩
    have e1 : f_M_message_3_it (f + 1) x1 x2 x3 (nI k) u = f_M_message_3 (f_M_message_3_it f) x1 x2 x3 (nI k) u := rfl
    have a3 : u 17 k = I k 3 0 := by
      have := G.rl (show k < 8 by omega) 3 0 (by decide)
      rw [show ln 3 * k + 0 = k by show 1 * k + 0 = k; omega] at this
      exact this
    have a1 : u 18 k = I k 1 0 := by
      have := G.rl (show k < 8 by omega) 1 0 (by decide)
      rw [show ln 1 * k + 0 = k by show 1 * k + 0 = k; omega] at this
      exact this
    rw [e1]
    unfold f_M_message_3 f_M_message_82
    rw [if_neg (show ¬ u 16 0 ≤ nI k by rw [G.n16]; exact nI_ge (by omega) (by omega)), sp_ald (f := u 17) (by omega) (by decide), sp_ald (f := u 18) (by omega) (by decide), Option.bind_some, Option.bind_some, a3, a1, nI_1, ih (k + 1) f (by omega) (by omega)]
    show _ = match (bif kP I x2 k then some k else sp_fd (kP I x2) (k + 1) d) with
      | none => msgT x1 x2 x3 u
      | some j => msgB x1 x3 (nI j) u
    unfold kP
    by_cases q3 : I k 3 0 = 0
    · rw [if_pos q3]
      by_cases q1 : I k 1 0 = x2
      · rw [if_pos q1, decide_eq_true q1, decide_eq_true q3]
        rfl
      · rw [if_neg q1, decide_eq_false q1]
        rfl
    · rw [if_neg q3, decide_eq_false q3, Bool.and_false]
      rfl
theorem iN_o {st x y : Int32} {k : Nat} (h0 : k ≠ 0) (h1 : k ≠ 1) (h2 : k ≠ 2) (h4 : k ≠ 4) : iN st x y k = fun _ => 0 := by
  unfold iN
  rw [sp_up_k h4, sp_up_k h2, sp_up_k h1, sp_up_k h0]
  rfl
/-- one more is made -/
theorem GI.made (G : GI u s p I n L N B) (hd : ¬ s 1 0 = 0) (hN : N < 8) (x2 x3 : Int32) : GI (sr_up (sr_up (sr_up (sr_up u 18 N x2) 19 N x3) 21 (24 * N) 1) 16 0 (nI (N + 1))) (sr_up s 0 0 (nI (N + 1))) p (upI I N (iN (u 13 0) x2 x3)) n L (N + 1) B := by
  have hu : ∀ k, k ≠ 16 → k ≠ 18 → k ≠ 19 → k ≠ 21 → sr_up (sr_up (sr_up (sr_up u 18 N x2) 19 N x3) 21 (24 * N) 1) 16 0 (nI (N + 1)) k = u k := fun k a b c d => by
    rw [sp_up_k a, sp_up_k d, sp_up_k c, sp_up_k b]
  have D := G.dp hd
  have P := G.pl
  refine ⟨⟨Pl_congr P (fun k hk => hu k (by omega) (by omega) (by omega) (by omega)), G.mo.cg (hu 6 (by decide) (by decide) (by decide) (by decide))⟩, ⟨⟨?_, ?_⟩, fun _ => D.cg (fun k hk => hu k (by omega) (by omega) (by omega) (by omega)) (hu 13 (by decide) (by decide) (by decide) (by decide))⟩, ⟨sp_up_s, sp_up_s, by omega, fun _ => ?_⟩, ?_, fun j hj => ?_, fun j hj => ?_, fun j hj => ?_⟩
  · rw [hu 12 (by decide) (by decide) (by decide) (by decide), sp_up_k (by decide)]; exact G.d12
  · rw [sp_up_k (by decide)]; exact G.2.1.1.2
  · rw [sp_up_k (by decide)]; exact hd
  · rw [hu 34 (by decide) (by decide) (by decide) (by decide)]; exact G.h34
  · have R := G.rl hj
    unfold upI
    by_cases e : j = N
    · subst e
      rw [if_pos rfl]
      rw [G.z (Nat.le_refl _)] at R
      intro k a ha
      have hm := mk_lo (show 0 < ln k by omega)
      have h0 : k ≠ 0 := by
        rintro rfl
        exact absurd ha (Nat.not_lt_zero _)
      have hk20 : k < 20 := by
        apply Classical.byContradiction
        intro q
        rw [ln_hi (by omega)] at ha
        omega
      rw [sp_up_k (by omega)]
      by_cases k4 : k = 4
      · subst k4
        show sr_up _ 21 (24 * j) 1 21 (24 * j + a) = de 4 (sr_up _ 4 0 1 4 a)
        by_cases e0 : a = 0
        · subst e0
          rw [sp_up_s]
          show sr_up (sr_up (sr_up u 18 j x2) 19 j x3) 21 (24 * j) 1 21 (24 * j) = 1
          exact sp_up_s
        · rw [sp_up_i (by omega), sp_up_i e0]
          exact R 4 a ha
      by_cases k1 : k = 1
      · subst k1
        have e0 : a = 0 := by
          have : a < 1 := ha
          omega
        subst e0
        show sr_up (sr_up (sr_up u 18 j x2) 19 j x3) 21 (24 * j) 1 18 (1 * j + 0) = x2
        rw [sp_up_k (by decide), sp_up_k (by decide), show 1 * j + 0 = j by omega, sp_up_s]
      by_cases k2 : k = 2
      · subst k2
        have e0 : a = 0 := by
          have : a < 1 := ha
          omega
        subst e0
        show sr_up (sr_up (sr_up u 18 j x2) 19 j x3) 21 (24 * j) 1 19 (1 * j + 0) = x3
        rw [sp_up_k (by decide), show 1 * j + 0 = j by omega, sp_up_s]
      have n21 : mk k ≠ 21 := mk_inj (k := 4) (by decide) (by omega) k4
      have n18 : mk k ≠ 18 := mk_inj (k := 1) (by decide) (by omega) k1
      have n19 : mk k ≠ 19 := mk_inj (k := 2) (by decide) (by omega) k2
      rw [sp_up_k n21, sp_up_k n19, sp_up_k n18, iN_o h0 k1 k2 k4]
      exact R k a ha
    · rw [if_neg e]
      intro k a ha
      have hm := mk_lo (show 0 < ln k by omega)
      rw [sp_up_k (by omega)]
      by_cases k4 : mk k = 21
      · have ek : k = 4 := Classical.byContradiction (fun q => mk_inj (k := 4) (by decide) (by omega) q k4)
        subst ek
        show sr_up (sr_up (sr_up u 18 N x2) 19 N x3) 21 (24 * N) 1 21 (24 * j + a) = _
        have ha : a < 24 := ha
        rw [sp_up_i (by omega), sp_up_k (by decide), sp_up_k (by decide)]
        exact R 4 a ha
      by_cases k1 : mk k = 18
      · have ek : k = 1 := Classical.byContradiction (fun q => mk_inj (k := 1) (by decide) (by omega) q k1)
        subst ek
        show sr_up (sr_up (sr_up u 18 N x2) 19 N x3) 21 (24 * N) 1 18 (1 * j + a) = _
        have ha : a < 1 := ha
        rw [sp_up_k (by decide), sp_up_k (by decide), sp_up_i (by omega)]
        exact R 1 a ha
      by_cases k2 : mk k = 19
      · have ek : k = 2 := Classical.byContradiction (fun q => mk_inj (k := 2) (by decide) (by omega) q k2)
        subst ek
        show sr_up (sr_up (sr_up u 18 N x2) 19 N x3) 21 (24 * N) 1 19 (1 * j + a) = _
        have ha : a < 1 := ha
        rw [sp_up_k (by decide), sp_up_i (by omega), sp_up_k (by decide)]
        exact R 2 a ha
      rw [sp_up_k k4, sp_up_k k2, sp_up_k k1]
      exact R k a ha
  · unfold upI
    rw [if_neg (by omega)]
    exact G.z (by omega)
  · unfold upI
    have h13 := hu 13 (by decide) (by decide) (by decide) (by decide)
    have h3 := hu 3 (by decide) (by decide) (by decide) (by decide)
    by_cases e : j = N
    · rw [if_pos e]
      refine ⟨?_, ⟨0, Nat.zero_le _, Iv.cg ?_ h3⟩, ?_⟩
      · rw [h13]
        unfold iN
        rw [sp_up_k (by decide), sp_up_k (by decide), sp_up_k (by decide), sp_up_s]
      · refine ⟨?_, fun l _ => Or.inl ?_, ⟨0, by omega, ?_, fun e he => absurd he (Nat.not_lt_zero _)⟩, fun c hc => ⟨0, by omega, ?_, ?_⟩, fun a ha h4 => ?_⟩
        · rw [iN_o (by decide) (by decide) (by decide) (by decide)]; rfl
        · rw [iN_o (by decide) (by decide) (by decide) (by decide)]
        · rw [iN_o (by decide) (by decide) (by decide) (by decide)]; rfl
        · rw [iN_o (by decide) (by decide) (by decide) (by decide)]; rfl
        · rcases Nat.eq_zero_or_pos c with q | q
          · exact Or.inl ⟨q, rfl⟩
          · exact Or.inr ⟨q, 0, q, Or.inl ⟨(P.1.2.2.1 D.1).2.2.1, rfl⟩⟩
        · exfalso
          unfold iN at h4
          by_cases e0 : a = 0
          · subst e0
            rw [sp_up_s] at h4
            exact absurd h4 (by decide)
          · rw [sp_up_i e0, sp_up_k (by decide), sp_up_k (by decide), sp_up_k (by decide)] at h4
            exact absurd (show (0 : Int32) = 4 from h4) (by decide)
      · rw [iN_o (by decide) (by decide) (by decide) (by decide)]
    · rw [if_neg e]
      obtain ⟨a, ⟨C, h1, h2⟩, c⟩ := G.gj (show j < N by omega)
      exact ⟨by rw [h13]; exact a, ⟨C, h1, h2.cg h3⟩, c⟩
theorem message_ok2 (G : GI u s p I n L N B) (hB : B + 470000 < 2 ^ 30) (b : Nat → Int64) (x1 x2 x3 : Int32) :
    (sp_fd (kP I x2) 0 N = none ∧ ∃ r, f_M_message x1 x2 x3 u = some (r, u) ∧ f_S_message_n (-1) s p b x1 x2 x3 = some r) ∨
    (sp_fd (kP I x2) 0 N = none ∧ ¬ s 1 0 = 0 ∧ N < 8 ∧ f_P_startsWith p x1 = some 1 ∧ ∃ st u', f_P_findStart p = some st ∧ f_M_message x1 x2 x3 u = some (nI N, u') ∧ GI u' (sr_up s 0 0 (nI (N + 1))) p (upI I N (iN st x2 x3)) n L (N + 1) B) ∨
    (∃ j, sp_fd (kP I x2) 0 N = some j ∧ j < N ∧ ∃ r u' i', f_M_message x1 x2 x3 u = some (r, u') ∧ f_S_message_j (nI j) j s p b x1 x2 x3 (I j) = some (r, i') ∧ GI u' s p (upI I j i') n L N (B + 460000)) := by
  have P := G.pl
  have h24 := P.lt
  have hN := G.N8
  have eM : f_M_message x1 x2 x3 u = match sp_fd (kP I x2) 0 N with
    | none => msgT x1 x2 x3 u
    | some j => msgB x1 x3 (nI j) u := msg_l G x1 x2 x3 N 0 60 (by omega) (by omega)
  cases hfd : sp_fd (kP I x2) 0 N with
  | none =>
    rw [hfd] at eM
    have eM : f_M_message x1 x2 x3 u = msgT x1 x2 x3 u := eM
    have eS0 : f_S_message_n (-1) s p b x1 x2 x3 = if s 1 0 = 0 then some (-1) else if 8 ≤ nI N then some (-1) else (f_P_startsWith p x1).bind fun v_4 => if v_4 = 0 then some (-1) else none := by
      unfold f_S_message_n
      rw [sr_no_t (Or.inl (by decide)), Option.bind_some, G.s0]
    unfold msgT at eM
    rw [G.d12] at eM
    by_cases hd : s 1 0 = 0
    · exact Or.inl ⟨rfl, -1, by rw [eM, if_pos hd], by rw [eS0, if_pos hd]⟩
    · rw [if_neg hd] at eM eS0
      obtain ⟨hn, -, -, -, -, st, hs0, hs, h13, h35, hfs⟩ := G.dp hd
      have eS : f_P_startsWith p x1 = if u 4 st = x1 then some 1 else some 0 := by
        unfold f_P_startsWith
        rw [hfs, Option.bind_some, if_neg (nI_m1 (by omega)), P.2.2.1.2.2.2.1, sp_ald24 (by omega), Option.bind_some]
      rw [h13, sp_ald24 (f := u 4) (by omega), Option.bind_some, G.n16] at eM
      by_cases h8 : N < 8
      · have l8 : nI N < 8 := nI_lt (b := 8) h8 (by decide)
        have n8 : ¬ (8 : Int32) ≤ nI N := nI_ge (b := 8) h8 (by decide)
        by_cases hx : x1 = u 4 st
        · right
          left
          rw [if_pos hx, if_pos l8] at eM
          refine ⟨rfl, hd, h8, by rw [eS, if_pos hx.symm], nI st, _, hfs, ?_, by have := G.made hd h8 x2 x3; rw [h13] at this; exact this⟩
          rw [eM, sp_ast h8 (by decide), Option.bind_some, sp_up_k (show (16 : Nat) ≠ 18 by decide), G.n16, sp_ast h8 (by decide), Option.bind_some, sp_up_k (show (16 : Nat) ≠ 19 by decide), sp_up_k (show (16 : Nat) ≠ 18 by decide), G.n16, sp_ix1 24 24 N rfl, sp_ast (by omega) (by decide), Option.bind_some]
          unfold sr_pf
          rw [Option.bind_some, sp_up_k (show (16 : Nat) ≠ 21 by decide), sp_up_k (show (16 : Nat) ≠ 19 by decide), sp_up_k (show (16 : Nat) ≠ 18 by decide), G.n16, nI_1, sp_up_s, nI_pred]
        · exact Or.inl ⟨rfl, -1, by rw [eM, if_neg hx], by rw [eS0, if_neg n8, eS, if_neg (fun q => hx q.symm), Option.bind_some, if_pos rfl]⟩
      · have l8 : ¬ nI N < 8 := nI_nlt (b := 8) (by omega) (by omega)
        have n8 : (8 : Int32) ≤ nI N := nI_le (a := 8) (by omega) (by omega)
        refine Or.inl ⟨rfl, -1, ?_, by rw [eS0, if_pos n8]⟩
        rw [eM]
        by_cases hx : x1 = u 4 st
        · rw [if_pos hx, if_neg l8]
        · rw [if_neg hx]
  | some j =>
    rw [hfd] at eM
    have eM : f_M_message x1 x2 x3 u = msgB x1 x3 (nI j) u := eM
    have hj : j < N := by have := sp_fd_lt hfd; omega
    have hd := G.Nd (show 0 < N by omega)
    obtain ⟨hs, ⟨C, hC, V⟩, h8⟩ := G.gj hj
    obtain ⟨z, u', i', C', q1, q2, q3, q4, q5, q6, q7⟩ := message_ok P (G.dp hd) (show j < 8 by omega) (G.sim hj) V (by omega) (by rw [sp_up_k (by decide)]; exact G.h34) h8 x1 x3 (nI j)
    right
    right
    refine ⟨j, rfl, hj, bif z then nI j else -1, u', i', eM.trans q2, ?_, G.put hj q4 q5 (by omega) (by omega) q6 q7⟩
    unfold f_S_message_j
    rw [G.s0, sr_yes_t hj hN, Option.bind_some, q3]
    cases z <;> rfl
end
