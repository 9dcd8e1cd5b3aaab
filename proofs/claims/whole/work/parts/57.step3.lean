/-! PURE 28: undoing -/
section
variable {j : Nat} {u0 u i p : St} {n L C : Nat}
theorem take_l (P : Pl u0 p n L) (hj : j < 8) {h : Nat} (hh : h < n) : ∀ d c f (u x : St) (Z : Nat → Bool), c + d = n → d < f → Sim j u0 u (zzF x Z L) →
    ∃ u' Z', f_M_take_156_it f (nI h) (nI c) u = f_M_take_156 (fun _ _ _ => none) (nI h) (nI n) u' ∧ Sim j u0 u' (zzF (rnF x (p 9 h) c n) Z' L) ∧ (∀ l, l < L → (Z' l = true ↔ Z l = true ∨ ∃ b, c ≤ b ∧ b < n ∧ bt (p 9 h) b = true ∧ bt (p 9 b) (u0 8 l).toNatClampNeg = true)) ∧ (∀ k, 33 ≤ k → u' k = u k) := by
  have h24 := P.lt
  intro d
  induction d with
  | zero =>
    intro c f u x Z hc hf S
    have : c = n := by omega
    subst this
    obtain ⟨f, rfl⟩ : ∃ f', f = f' + 1 := ⟨f - 1, by omega⟩
    refine ⟨u, Z, ?_, by rw [rnF_end]; exact S, fun l _ => ⟨Or.inl, fun h => h.elim id (fun ⟨b, q1, q2, _⟩ => by omega)⟩, fun _ _ => rfl⟩
    show f_M_take_156 _ (nI h) (nI c) u = _
    unfold f_M_take_156
    rw [S.pl (show 0 < 17 by decide), P.n0, if_pos (nI_le (Nat.le_refl _) (by omega)), if_pos (nI_le (Nat.le_refl _) (by omega))]
  | succ d ih =>
    intro c f u x Z hc hf S
    obtain ⟨f, rfl⟩ : ∃ f', f = f' + 1 := ⟨f - 1, by omega⟩
    have hcn : c < n := by omega
    have unf : f_M_take_156 (f_M_take_156_it f) (nI h) (nI c) u = if nI c = nI h then f_M_take_183 (f_M_take_156_it f) (nI h) (nI c) u else (f_M_below u (nI c) (nI h)).bind fun v_32 => if v_32 = 0 then f_M_take_197 (f_M_take_156_it f) (nI h) (nI c) u else f_M_take_183 (f_M_take_156_it f) (nI h) (nI c) u := by
      conv => lhs; unfold f_M_take_156
      rw [S.pl (show 0 < 17 by decide), P.n0, if_neg (nI_ge hcn (by omega))]
    have hin : bt (p 9 h) c = (decide (c = h) || wi p c h) := by
      unfold wi
      by_cases q : c = h
      · subst q
        simp [P.1.self hcn]
      · simp [q]
    have yes : bt (p 9 h) c = true → ∃ u' Z', f_M_take_183 (f_M_take_156_it f) (nI h) (nI c) u = f_M_take_156 (fun _ _ _ => none) (nI h) (nI n) u' ∧ Sim j u0 u' (zzF (rnF x (p 9 h) c n) Z' L) ∧ (∀ l, l < L → (Z' l = true ↔ Z l = true ∨ ∃ b, c ≤ b ∧ b < n ∧ bt (p 9 h) b = true ∧ bt (p 9 b) (u0 8 l).toNatClampNeg = true)) ∧ (∀ k, 33 ≤ k → u' k = u k) := by
      intro hb
      obtain ⟨u1, u2, e1, e2, S2, g2⟩ := idle_ok P hj S hcn
      unfold f_M_take_183 f_M_take_197
      rw [e1, Option.bind_some, e2, Option.bind_some, nI_1]
      obtain ⟨u', Z', q1, q2, q3, q4⟩ := ih (c + 1) f u2 _ _ (by omega) (by omega) S2
      rw [rnF_up hcn hb] at q2
      refine ⟨u', Z', q1, q2, fun l hl => ?_, fun k hk => by rw [q4 k hk, g2 k hk]⟩
      rw [q3 l hl, Bool.or_eq_true]
      constructor
      · rintro ((h | h) | ⟨b, w1, w2⟩)
        · exact Or.inl h
        · exact Or.inr ⟨c, Nat.le_refl _, hcn, hb, h⟩
        · exact Or.inr ⟨b, by omega, w2⟩
      · rintro (h | ⟨b, w1, w2, w3, w4⟩)
        · exact Or.inl (Or.inl h)
        · by_cases w : b = c
          · rw [w] at w4; exact Or.inl (Or.inr w4)
          · exact Or.inr ⟨b, by omega, w2, w3, w4⟩
    show ∃ u' Z', f_M_take_156 _ (nI h) (nI c) u = _ ∧ _
    rw [unf]
    by_cases q : c = h
    · rw [if_pos (by rw [q])]
      exact yes (by rw [q]; exact P.1.self hh)
    · rw [if_neg (fun w => q ((nI_eq (by omega) (by omega)).mp w)), sp_below (S.Pl P).1 hcn hh, Option.bind_some]
      cases hw : wi p c h with
      | true =>
        rw [if_neg (by decide)]
        exact yes (by rw [hin, hw, Bool.or_true])
      | false =>
        rw [if_pos (by decide)]
        have hb : ¬ bt (p 9 h) c = true := by rw [hin, hw, decide_eq_false q]; decide
        obtain ⟨u', Z', q1, q2, q3, q4⟩ := ih (c + 1) f u x Z (by omega) (by omega) S
        rw [rnF_skip hb] at q2
        unfold f_M_take_197
        rw [nI_1]
        refine ⟨u', Z', q1, q2, fun l hl => ?_, q4⟩
        rw [q3 l hl]
        constructor
        · rintro (h | ⟨b, w1, w2⟩)
          · exact Or.inl h
          · exact Or.inr ⟨b, by omega, w2⟩
        · rintro (h | ⟨b, w1, w2, w3, w4⟩)
          · exact Or.inl h
          · by_cases w : b = c
            · rw [w] at w3; exact absurd w3 hb
            · exact Or.inr ⟨b, by omega, w2, w3, w4⟩
theorem wr_up {x : St} {C k a : Nat} {e b v : Int32} (h1 : k ≠ 18) (h2 : k ≠ 19) : sr_up (wr x C e b) k a v = wr (sr_up x k a v) C e b := by
  unfold wr
  rw [up_comm (fun q => h2 q.symm), up_comm (fun q => h1 q.symm)]
/-- an entry is taken -/
theorem undo_ok (P : Pl u0 p n L) (hj : j < 8) (S : Sim j u0 u i) (V : Iv u0 p i n L C) (hC : C < 2 ^ 30) (h34 : u 34 0 = 0) (h8 : i 8 0 = 0) {a e Q E : Nat} (ha : a < n) (hE : eOk u0 i n E) (he : e < E) (hQ : Q < 24) (hpl : i 16 e = nI Q) (hk : (u0 3 a = 12 ∧ a = Q) ∨ (u0 3 a = 7 ∧ p 6 a = nI Q) ∨ (¬ u0 3 a = 7 ∧ a = Q)) (μ : Nat) : ∃ u' i', f_M_take (nI a) (nI e) u = some u' ∧ f_I_undo p (nI e) (nI a) i = some i' ∧ Sim j u0 u' i' ∧ Iv u0 p i' n L (C + 1) ∧ Du p u' i' n μ := by
  have h24 := P.lt
  have hE16 := hE.1
  obtain ⟨c, c0, cn, c12, c14, c16⟩ := hE.2.2 e he
  have hQc : Q < c ∧ u0 3 Q = 12 := by
    rcases c16 with w | ⟨P1, w1, w2, w3⟩ | ⟨e', c', w1, w2, w3, w4⟩
    · rw [hpl] at w
      exact absurd w (nI_m1 (by omega))
    · rw [hpl] at w3
      have := (nI_eq (show Q < 2 ^ 31 by omega) (show P1 < 2 ^ 31 by omega)).mp w3
      subst this
      exact ⟨w1, w2⟩
    · rw [hpl] at w4
      have := (nI_eq (show Q < 2 ^ 31 by omega) (show 24 + e' < 2 ^ 31 by omega)).mp w4
      omega
  have hsc : u 28 (16 * j + e) = nI c := by
    have := S.at 14 e (show e < 16 by omega)
    rw [show de 14 (i 14 e) = i 14 e from rfl, c14] at this
    exact this
  unfold f_M_take f_I_undo
  rw [S.2.1, sp_ix 16 16 j e rfl, sp_ald (by omega) (by decide), Option.bind_some, hsc, sp_ast (by omega) (by decide), Option.bind_some]
  have S1 := S.up 16 e (-1) (show e < 16 by omega)
  rw [show de 16 (-1) = -1 from dec_m] at S1
  rw [show sr_up u 30 (16 * j + e) (-1) = sr_up u (mk 16) (ln 16 * j + e) (-1) from rfl, S1.2.1, sp_ix 24 24 j a rfl, sp_ast (by omega) (by decide), Option.bind_some]
  have S2 := S1.up 7 a 1 (show a < 24 by omega)
  rw [show sr_up (sr_up u (mk 16) (ln 16 * j + e) (-1)) 25 (24 * j + a) 1 = sr_up (sr_up u (mk 16) (ln 16 * j + e) (-1)) (mk 7) (ln 7 * j + a) (de 7 1) from rfl, S2.2.1, sp_ix 24 24 j c rfl, sp_ast (by omega) (by decide), Option.bind_some]
  have S3 := S2.up 6 c (nI a) (show c < 24 by omega)
  rw [show sr_up (sr_up (sr_up u (mk 16) (ln 16 * j + e) (-1)) (mk 7) (ln 7 * j + a) (de 7 1)) 24 (24 * j + c) (nI a) = sr_up (sr_up (sr_up u (mk 16) (ln 16 * j + e) (-1)) (mk 7) (ln 7 * j + a) (de 7 1)) (mk 6) (ln 6 * j + c) (de 6 (nI a)) from rfl]
  have g3 : ∀ k, 33 ≤ k → (sr_up (sr_up (sr_up u (mk 16) (ln 16 * j + e) (-1)) (mk 7) (ln 7 * j + a) (de 7 1)) (mk 6) (ln 6 * j + c) (de 6 (nI a))) k = u k := by
    intro k hk
    have b1 : k ≠ mk 6 := by show k ≠ 24; omega
    have b2 : k ≠ mk 7 := by show k ≠ 25; omega
    have b3 : k ≠ mk 16 := by show k ≠ 30; omega
    rw [sp_up_k b1, sp_up_k b2, sp_up_k b3]
  generalize sr_up (sr_up (sr_up u (mk 16) (ln 16 * j + e) (-1)) (mk 7) (ln 7 * j + a) (de 7 1)) (mk 6) (ln 6 * j + c) (de 6 (nI a)) = u3 at S3 g3
  have hx19 : (sr_up (sr_up (sr_up i 16 e (-1)) 7 a 1) 6 c (nI a)) 19 0 = nI C := by
    rw [sp_up_k (by decide), sp_up_k (by decide), sp_up_k (by decide)]
    exact V.1
  obtain ⟨u4, e4, S4, g4⟩ := M_write S3 hj hx19 hC 7 (nI c)
  rw [e4, Option.bind_some]
  have hown : u4 29 (16 * j + e) = i 15 e := by
    have := S4.at 15 e (show e < 16 by omega)
    refine Eq.trans this ?_
    show wr (sr_up (sr_up (sr_up i 16 e (-1)) 7 a 1) 6 c (nI a)) C 7 (nI c) 15 e = i 15 e
    rw [wr_k (by decide) (by decide), sp_up_k (by decide), sp_up_k (by decide), sp_up_k (by decide)]
  rw [S4.2.1, sp_ix 16 16 j e rfl, sp_ald (by omega) (by decide), Option.bind_some, hown, sp_ix 24 24 j c rfl, sp_ast (by omega) (by decide), Option.bind_some]
  have S5 := S4.up 12 c (i 15 e) (show c < 24 by omega)
  rw [show sr_up u4 22 (24 * j + c) (i 15 e) = sr_up u4 (mk 12) (ln 12 * j + c) (de 12 (i 15 e)) from rfl]
  -- the cls, up to the same state
  have hord : sr_up (wr (sr_up (sr_up (sr_up i 16 e (-1)) 7 a 1) 6 c (nI a)) C 7 (nI c)) 12 c (i 15 e) = sr_up (sr_up (wr (sr_up (sr_up i 7 a 1) 6 c (nI a)) C 7 (nI c)) 12 c (i 15 e)) 16 e (-1) := by
    rw [up_comm (show (16 : Nat) ≠ 7 by decide), up_comm (show (16 : Nat) ≠ 6 by decide), ← wr_up (show (16 : Nat) ≠ 18 by decide) (show (16 : Nat) ≠ 19 by decide), up_comm (show (16 : Nat) ≠ 12 by decide)]
  rw [hord] at S5
  rw [sp_ald16 (by omega), Option.bind_some, c14, sp_ast (by omega) (by decide), Option.bind_some, sp_ast (by omega) (by decide), Option.bind_some, C_write (C := C) (by rw [sp_up_k (by decide), sp_up_k (by decide)]; exact V.1) hC, Option.bind_some, sp_ald16 (by omega), Option.bind_some, wr_k (show (15 : Nat) ≠ 18 by decide) (show (15 : Nat) ≠ 19 by decide), sp_up_k (show (15 : Nat) ≠ 6 by decide), sp_up_k (show (15 : Nat) ≠ 7 by decide), sp_ast (by omega) (by decide), Option.bind_some]
  unfold f_E_handBack
  rw [sp_ast (show e < 16 by omega) (by decide), Option.bind_some]
  generalize hY : sr_up (sr_up (wr (sr_up (sr_up i 7 a 1) 6 c (nI a)) C 7 (nI c)) 12 c (i 15 e)) 16 e (-1) = y at S5
  have yk : ∀ k, k ≠ 6 → k ≠ 7 → k ≠ 12 → k ≠ 16 → k ≠ 18 → k ≠ 19 → y k = i k := by
    intro k b1 b2 b3 b4 b5 b6
    rw [← hY, sp_up_k b4, sp_up_k b3, wr_k b5 b6, sp_up_k b1, sp_up_k b2]
  have y16 : ∀ b, y 16 b = if b = e then -1 else i 16 b := by
    intro b
    rw [← hY, sp_up, sp_up_k (by decide), wr_k (by decide) (by decide), sp_up_k (by decide), sp_up_k (by decide)]
    simp
  have y6 : ∀ b, y 6 b = if b = c then nI a else i 6 b := by
    intro b
    rw [← hY, sp_up_k (by decide), sp_up_k (by decide), wr_k (by decide) (by decide), sp_up, sp_up_k (by decide)]
    simp
  have y19 : y 19 0 = nI (C + 1) := by
    rw [← hY, sp_up_k (by decide), sp_up_k (by decide)]
    exact wr_c
  have y14 : y 14 = i 14 := yk 14 (by decide) (by decide) (by decide) (by decide) (by decide) (by decide)
  have Ey : eOk u0 y n E := by
    refine ⟨hE.1, by rw [yk 17 (by decide) (by decide) (by decide) (by decide) (by decide) (by decide)]; exact hE.2.1, fun b hb => ?_⟩
    rw [y14, y16]
    obtain ⟨d, d1, d2, d3, d4, d5⟩ := hE.2.2 b hb
    refine ⟨d, d1, d2, d3, d4, ?_⟩
    by_cases w : b = e
    · rw [if_pos w]; exact Or.inl rfl
    · rw [if_neg w]; exact d5
  have Vy : Iv u0 p y n L (C + 1) := by
    refine ⟨y19, V.2.1.congr (yk 13 (by decide) (by decide) (by decide) (by decide) (by decide) (by decide)), ⟨E, Ey⟩, fun b hb => ?_, fun b hb hq => V.2.2.2.2 b hb (by rw [yk 4 (by decide) (by decide) (by decide) (by decide) (by decide) (by decide)] at hq; exact hq)⟩
    rw [y6]
    by_cases w : b = c
    · rw [if_pos w]
      refine ⟨a, ha, rfl, Or.inr ⟨by omega, Q, by omega, ?_⟩⟩
      rcases hk with ⟨w1, w2⟩ | ⟨w1, w2⟩ | ⟨w1, w2⟩
      · exact Or.inl ⟨w1, w2⟩
      · exact Or.inr ⟨w1, w2⟩
      · exact Or.inl ⟨by rw [w2]; exact hQc.2, w2⟩
    · rw [if_neg w]
      exact V.2.2.2.1 b hb
  have g5 : ∀ k, 33 ≤ k → (sr_up u4 (mk 12) (ln 12 * j + c) (de 12 (i 15 e))) k = u k := by
    intro k hk
    have b1 : k ≠ mk 12 := by show k ≠ 22; omega
    rw [sp_up_k b1, g4 k hk, g3 k hk]
  generalize sr_up u4 (mk 12) (ln 12 * j + c) (de 12 (i 15 e)) = u5 at S5 g5
  obtain ⟨u6, i6, f1, f2, S6, V6, hk6, g6⟩ := clear_ok hj h24 S5 Vy cn
  rw [f1, Option.bind_some, sp_ald16 (show e < 16 by omega), Option.bind_some, y14, c14, f2, Option.bind_some]
  have e6 : i6 14 = i 14 := by rw [hk6 14 (by decide), y14]
  obtain ⟨E6, hE6⟩ := V6.2.2.1
  have : E6 = E := by
    have w1 := hE6.2.1
    rw [hk6 17 (by decide), Ey.2.1] at w1
    have w2 := hE6.1
    exact ((nI_eq (by omega) (by omega)).mp w1).symm
  subst this
  obtain ⟨u7, m1, m2, S7, V7, -, g7⟩ := move_ok (p := p) hj h24 S6 V6 hE6 (fr := nI (24 + e)) (to := nI c) (Or.inr ⟨24 + e, by omega, rfl⟩) (fun b d hb hd1 hd2 hdn => by
    obtain ⟨d', w1, w2, w3, w4, w5⟩ := hE6.2.2 b hb
    have hdd : d = d' := by
      rw [w4] at hd1
      exact ((nI_eq (by omega) (by omega)).mp hd1).symm
    subst hdd
    rcases w5 with w | ⟨P1, w6, w7, w8⟩ | ⟨e', c', w6, w7, w8, w9⟩
    · rw [hd2] at w
      exact absurd w (nI_m1 (by omega))
    · rw [hd2] at w8
      have := (nI_eq (show 24 + e < 2 ^ 31 by omega) (show P1 < 2 ^ 31 by omega)).mp w8
      omega
    · rw [hd2] at w9
      have := (nI_eq (show 24 + e < 2 ^ 31 by omega) (show 24 + e' < 2 ^ 31 by omega)).mp w9
      have : e' = e := by omega
      subst this
      rw [e6, c14] at w7
      have hcc : c = c' := by
        by_cases q : c' < 2 ^ 31
        · exact (nI_eq (by omega) q).mp w7
        · omega
      subst hcc
      exact Or.inr (Or.inl ⟨c, w8, c12, rfl⟩))
  rw [dec_e (by omega), dec_n (by omega)] at m1
  have add1 : (100 : Int32) + nI e = nI (100 + e) := nI_add 100 e
  have add2 : (24 : Int32) + nI e = nI (24 + e) := nI_add 24 e
  have hin : sp_in u7 (nI c) 2 = sp_in u0 (nI c) 2 := by
    unfold sp_in
    rw [S7.pl (show 1 < 17 by decide), S7.pl (show 2 < 17 by decide)]
  rw [add1, m1, Option.bind_some, sp_ald16 (show e < 16 by omega), Option.bind_some, e6, c14, add2, m2, Option.bind_some, Option.bind_some, sp_M_inRole (n := n) (by rw [S7.pl (show 0 < 17 by decide)]; exact P.n0) h24, Option.bind_some, hin, sp_P_handlerOf P cn, Option.bind_some]
  have z34 : u7 34 0 = 0 := by rw [g7 34 (by decide), g6 34 (by decide), g5 34 (by decide)]; exact h34
  have z8 : (mvF i6 0 E6 (nI (24 + e)) (nI c)) 8 0 = 0 := by
    rw [mvF_k (by decide), hk6 8 (by decide), yk 8 (by decide) (by decide) (by decide) (by decide) (by decide) (by decide)]
    exact h8
  generalize mvF i6 0 E6 (nI (24 + e)) (nI c) = i7 at S7 V7 z8
  cases ho : sp_fd (sp_in u0 (nI c) 2) 0 n with
  | none =>
    rw [show oI none = -1 from rfl, if_neg (by decide), if_pos rfl]
    obtain ⟨u8, e8, S8, g8⟩ := M_put S7 hj (show c < 24 by omega) 7
    have S9 := S8.up 7 c 0 (show c < 24 by omega)
    refine ⟨_, _, ?_, ?_, S9, (V7.st c 7).set 7 c 0 (by decide) (by decide) (by decide) (by decide) (by decide) (by decide), Or.inl ⟨?_, ?_⟩⟩
    · rw [e8, Option.bind_some, S8.2.1, sp_ix 24 24 j c rfl, sp_ast (by omega) (by decide), Option.bind_some]
      rfl
    · unfold f_I_becomeUndoer
      rw [sp_ast (by omega) (by decide), Option.bind_some, sp_ast (by omega) (by decide), Option.bind_some, Option.bind_some]
    · rw [sp_up_k (by decide), g8 34 (by decide)]; exact z34
    · rw [sp_up_k (by decide), sp_up_k (by decide)]; exact z8
  | some h =>
    have hhn := sp_fd_lt ho
    have hh : h < n := by omega
    rw [show oI (some h) = nI h from rfl, if_pos (nI_pos' (show h < 2 ^ 31 by omega)), if_neg (nI_m1 (show h < 2 ^ 31 by omega))]
    obtain ⟨u8, e8, S8, g8⟩ := M_put S7 hj (show c < 24 by omega) 5
    rw [e8, Option.bind_some, sp_ast (by omega) (by decide), Option.bind_some, sp_ald24 (by omega), Option.bind_some]
    have V8 := V7.st c 5
    have S8' : Sim j u0 u8 (zzF (sr_up i7 4 c 5) (fun _ => false) L) := by rw [zzF_0]; exact S8
    obtain ⟨u9, Z9, q1, q2, q3, q4⟩ := take_l P hj hh (n - h) h 60 u8 _ _ (by omega) (by omega) S8'
    have hlo : ∀ b, bt (p 9 h) b = true → h ≤ b ∧ b < n := fun b hb => P.1.le hh b hb
    have hrn : rnF (sr_up i7 4 c 5) (p 9 h) h n = rnF (sr_up i7 4 c 5) (p 9 h) 0 n := by
      funext k b
      by_cases hk : k = 4
      · subst hk
        rw [rnF_4, rnF_4]
        by_cases w : bt (p 9 h) b = true
        · have := hlo b w
          simp [w, this]
        · simp [w]
      · rw [rnF_k hk, rnF_k hk]
    rw [hrn, renew_end P (X := p 9 h) (fun b s hb hs w1 w2 => P.1.trans hh hb w1 s hs w2) (fun b hb => (hlo b hb).2) (fun l hl => by
      rw [q3 l hl]
      constructor
      · rintro (h | ⟨b, -, w⟩)
        · cases h
        · exact ⟨b, w⟩
      · rintro ⟨b, w1, w2, w3⟩
        exact Or.inr ⟨b, (hlo b w2).1, w1, w2, w3⟩)] at q2
    have hren : f_I_renew p (p 9 h) (sr_up i7 4 c 5) = some (lkF u0 (rnF (sr_up i7 4 c 5) (p 9 h) 0 n) 0 L (p 9 h) false) := C_renew P n 0 60 _ (by omega) (by omega)
    rw [q1, hren, Option.bind_some]
    unfold f_M_take_156
    rw [q2.pl (show 0 < 17 by decide), P.n0, if_pos (nI_le (Nat.le_refl _) (by omega))]
    obtain ⟨u10, e10, S10, g10⟩ := M_put q2 hj (show h < 24 by omega) 1
    refine ⟨u10, _, by rw [e10, Option.bind_some], by rw [sp_ast (show h < 24 by omega) (by decide), Option.bind_some], S10, ((V8.rn (p 9 h) 0 n).lk (p 9 h) false).st h 1, Or.inl ⟨?_, ?_⟩⟩
    · rw [g10 34 (by decide), q4 34 (by decide), g8 34 (by decide)]; exact z34
    · rw [sp_up_k (by decide), lkF_k (by decide), rnF_k (by decide), sp_up_k (by decide)]; exact z8
end
