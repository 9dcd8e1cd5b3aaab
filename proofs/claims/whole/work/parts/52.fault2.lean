/-! PURE 23: FAULTS -/
theorem sp_act (v : Int32) : f_T_isActive v = some (bI (inB v 1 7)) := sp_inn v 1 7
section
variable {j : Nat} {u0 u i p : St} {n L C : Nat}
theorem end_l (P : Pl u0 p n L) (hj : j < 8) {r s : Nat} (hr : r < n) (hs : s < r) (fv : Int32) {E : Nat} : ∀ d c f g (u x : St) (m : Int32) (Cc : Nat), c + d = n → d < f → d < g → Sim j u0 u (gtF x (bif decide (u0 2 r = 0) then m else 0) s E) → x 19 0 = nI Cc → Cc + d < 2 ^ 30 → eOk u0 x n E →
    ∃ u' x' m' C', C' ≤ Cc + d ∧ f_M_faults_83_it f fv (nI r) (nI s) (nI c) u = f_M_faults_83 (fun _ _ _ _ _ => none) fv (nI r) (nI s) (nI n) u' ∧ f_I_endWithin_4_it p g (p 9 r) m (nI c) x = some (m', x') ∧ Sim j u0 u' (gtF x' (bif decide (u0 2 r = 0) then m' else 0) s E) ∧ x' 19 0 = nI C' ∧ (∀ k, k ≠ 4 → k ≠ 18 → k ≠ 19 → x' k = x k) ∧ (∀ k, 33 ≤ k → u' k = u k) ∧ (∀ b, bt m' b = true → bt m b = true ∨ bt (p 9 r) b = true) ∧ (∀ b, x' 4 b = 11 ∨ x' 4 b = x 4 b) := by
  have h24 := P.lt
  intro d
  induction d with
  | zero =>
    intro c f g u x m Cc hc hf hg S hx hB hE
    have : c = n := by omega
    subst this
    obtain ⟨f, rfl⟩ : ∃ f', f = f' + 1 := ⟨f - 1, by omega⟩
    obtain ⟨g, rfl⟩ : ∃ f', g = f' + 1 := ⟨g - 1, by omega⟩
    refine ⟨u, x, m, Cc, by omega, ?_, ?_, S, hx, fun _ _ _ _ => rfl, fun _ _ => rfl, fun b hb => Or.inl hb, fun b => Or.inr rfl⟩
    · show f_M_faults_83 _ fv (nI r) (nI s) (nI c) u = _
      unfold f_M_faults_83
      rw [S.pl (show 0 < 17 by decide), P.n0, if_pos (nI_le (Nat.le_refl _) (by omega)), if_pos (nI_le (Nat.le_refl _) (by omega))]
    · show f_I_endWithin_4 _ p (p 9 r) m (nI c) x = _
      unfold f_I_endWithin_4
      rw [P.2.1, if_pos (nI_le (Nat.le_refl _) (by omega))]
  | succ d ih =>
    intro c f g u x m Cc hc hf hg S hx hB hE
    obtain ⟨f, rfl⟩ : ∃ f', f = f' + 1 := ⟨f - 1, by omega⟩
    obtain ⟨g, rfl⟩ : ∃ f', g = f' + 1 := ⟨g - 1, by omega⟩
    have hcn : c < n := by omega
    have hin : bt (p 9 r) c = (decide (c = r) || wi p c r) := by
      unfold wi
      by_cases q : c = r
      · subst q
        simp [P.1.self hcn]
      · simp [q]
    have x4 : (gtF x (bif decide (u0 2 r = 0) then m else 0) s E) 4 = x 4 := gtF_k (by decide)
    have skip : ∃ u' x' m' C', C' ≤ Cc + (d + 1) ∧ f_M_faults_161 (f_M_faults_83_it f) fv (nI r) (nI s) (nI c) u = f_M_faults_83 (fun _ _ _ _ _ => none) fv (nI r) (nI s) (nI n) u' ∧ f_I_endWithin_49 (f_I_endWithin_4_it p g) p (p 9 r) m (nI c) x = some (m', x') ∧ Sim j u0 u' (gtF x' (bif decide (u0 2 r = 0) then m' else 0) s E) ∧ x' 19 0 = nI C' ∧ (∀ k, k ≠ 4 → k ≠ 18 → k ≠ 19 → x' k = x k) ∧ (∀ k, 33 ≤ k → u' k = u k) ∧ (∀ b, bt m' b = true → bt m b = true ∨ bt (p 9 r) b = true) ∧ (∀ b, x' 4 b = 11 ∨ x' 4 b = x 4 b) := by
      obtain ⟨u', x', m', C', q1, q2, q3, q4, q5, q6, q7, q8, q9⟩ := ih (c + 1) f g u x m Cc (by omega) (by omega) (by omega) S hx (by omega) hE
      refine ⟨u', x', m', C', by omega, ?_, ?_, q4, q5, q6, q7, q8, q9⟩
      · unfold f_M_faults_161
        rw [nI_1]
        exact q2
      · unfold f_I_endWithin_49
        rw [nI_1]
        exact q3
    have body : bt (p 9 r) c = true → ∃ u' x' m' C', C' ≤ Cc + (d + 1) ∧ f_M_faults_108 (f_M_faults_83_it f) fv (nI r) (nI s) (nI c) u = f_M_faults_83 (fun _ _ _ _ _ => none) fv (nI r) (nI s) (nI n) u' ∧ ((sr_ald 24 (x 4) (nI c)).bind fun v_5 => (f_T_isActive v_5).bind fun v_7 => if v_7 = 0 then f_I_endWithin_49 (f_I_endWithin_4_it p g) p (p 9 r) m (nI c) x else (f_I_become p (nI c) 11 5 x).bind fun i_10 => f_I_endWithin_49 (f_I_endWithin_4_it p g) p (p 9 r) (m ||| ((1 : Int32) <<< (nI c &&& 31))) (nI c) i_10) = some (m', x') ∧ Sim j u0 u' (gtF x' (bif decide (u0 2 r = 0) then m' else 0) s E) ∧ x' 19 0 = nI C' ∧ (∀ k, k ≠ 4 → k ≠ 18 → k ≠ 19 → x' k = x k) ∧ (∀ k, 33 ≤ k → u' k = u k) ∧ (∀ b, bt m' b = true → bt m b = true ∨ bt (p 9 r) b = true) ∧ (∀ b, x' 4 b = 11 ∨ x' 4 b = x 4 b) := by
      intro hbt
      have hrc := (P.1.le hr c hbt).1
      unfold f_M_faults_108
      rw [M_active S hj (show c < 24 by omega), x4, sp_act, Option.bind_some, sp_ald24 (by omega), Option.bind_some, sp_act, Option.bind_some]
      cases hact : inB (x 4 c) 1 7 with
      | false =>
        rw [if_pos (by decide), if_pos (by decide)]
        exact skip
      | true =>
        rw [if_neg (by decide), if_neg (by decide)]
        obtain ⟨u1, e1, S1, g1⟩ := M_put S hj (show c < 24 by omega) 11
        rw [gtF_up (by decide)] at S1
        have hx1 : (gtF (sr_up x 4 c 11) (bif decide (u0 2 r = 0) then m else 0) s E) 19 0 = nI Cc := by
          rw [gtF_k (by decide), sp_up_k (by decide)]
          exact hx
        obtain ⟨u2, e2, S2, g2⟩ := M_write S1 hj (C := Cc) hx1 (by omega) 5 (nI c)
        rw [gtF_wr] at S2
        have hbec : f_I_become p (nI c) 11 5 x = some (wr (sr_up x 4 c 11) Cc 5 (nI c)) := C_become hx (by omega) (by omega) 11 5
        rw [e1, Option.bind_some, e2, Option.bind_some, hbec, Option.bind_some, S2.pl (show 3 < 17 by decide), S2.pl (show 2 < 17 by decide), sp_ald24 (by omega), Option.bind_some, sp_ald24 (by omega), Option.bind_some]
        generalize hX1 : wr (sr_up x 4 c 11) Cc 5 (nI c) = x1 at S2
        have x1k : ∀ k, k ≠ 4 → k ≠ 18 → k ≠ 19 → x1 k = x k := fun k a1 a2 a3 => by rw [← hX1, wr_k a2 a3, sp_up_k a1]
        have x19 : x1 19 0 = nI (Cc + 1) := by rw [← hX1]; exact wr_c
        have hE1 : eOk u0 x1 n E := hE.congr (x1k 14 (by decide) (by decide) (by decide)) (x1k 16 (by decide) (by decide) (by decide)) (x1k 17 (by decide) (by decide) (by decide))
        have fin : ∀ u3, (∀ k, 33 ≤ k → u3 k = u2 k) → Sim j u0 u3 (gtF x1 (bif decide (u0 2 r = 0) then (m ||| ((1 : Int32) <<< (nI c &&& 31))) else 0) s E) → ∃ u' x' m' C', C' ≤ Cc + (d + 1) ∧ f_M_faults_161 (f_M_faults_83_it f) fv (nI r) (nI s) (nI c) u3 = f_M_faults_83 (fun _ _ _ _ _ => none) fv (nI r) (nI s) (nI n) u' ∧ f_I_endWithin_49 (f_I_endWithin_4_it p g) p (p 9 r) (m ||| ((1 : Int32) <<< (nI c &&& 31))) (nI c) x1 = some (m', x') ∧ Sim j u0 u' (gtF x' (bif decide (u0 2 r = 0) then m' else 0) s E) ∧ x' 19 0 = nI C' ∧ (∀ k, k ≠ 4 → k ≠ 18 → k ≠ 19 → x' k = x k) ∧ (∀ k, 33 ≤ k → u' k = u k) ∧ (∀ b, bt m' b = true → bt m b = true ∨ bt (p 9 r) b = true) ∧ (∀ b, x' 4 b = 11 ∨ x' 4 b = x 4 b) := by
          intro u3 g3 S3
          obtain ⟨u', x', m', C', q1, q2, q3, q4, q5, q6, q7, q8, q9⟩ := ih (c + 1) f g u3 x1 _ (Cc + 1) (by omega) (by omega) (by omega) S3 x19 (by omega) hE1
          refine ⟨u', x', m', C', by omega, ?_, ?_, q4, q5, fun k a1 a2 a3 => by rw [q6 k a1 a2 a3, x1k k a1 a2 a3], fun k hk => by rw [q7 k hk, g3 k hk, g2 k hk, g1 k hk], fun b hb => ?_, fun b => ?_⟩
          · unfold f_M_faults_161
            rw [nI_1]
            exact q2
          · unfold f_I_endWithin_49
            rw [nI_1]
            exact q3
          · rcases q8 b hb with w | w
            · rw [b_or, sp_bit1 (by omega), Bool.or_eq_true] at w
              rcases w with w | w
              · exact Or.inl w
              · rw [of_decide_eq_true w]
                exact Or.inr hbt
            · exact Or.inr w
          · rcases q9 b with w | w
            · exact Or.inl w
            · rw [w, ← hX1, wr_k (by decide) (by decide), sp_up]
              by_cases z : b = c
              · exact Or.inl (by simp [z])
              · exact Or.inr (by simp [z])
        by_cases hrole : u0 2 r = 0
        · rw [decide_eq_true hrole] at S2
          by_cases k12 : u0 3 c = 12
          · rw [if_pos k12, if_pos hrole]
            have h17 : (gtF x1 (bif true then m else 0) s E) 17 0 = nI E := by
              rw [gtF_k (by decide)]
              exact hE1.2.1
            have hsm : ∀ a, a < E → sml ((gtF x1 (bif true then m else 0) s E) 16 a) := by
              intro a ha
              rw [gtF_16]
              split
              · exact Or.inr ⟨s, by omega, rfl⟩
              · exact hE1.sml h24 a ha
            obtain ⟨u3, e3, -, S3, g3⟩ := carry_ok (p := p) hj hE1.1 S2 h17 hsm (fr := nI c) (to := nI s) (Or.inr ⟨c, by omega, rfl⟩)
            rw [dec_n (by omega), dec_n (by omega)] at e3
            rw [e3, Option.bind_some]
            have : mvF (gtF x1 (bif true then m else 0) s E) 0 E (nI c) (nI s) = gtF x1 (m ||| ((1 : Int32) <<< (nI c &&& 31))) s E := gtF_mv (by omega) (by omega) (hE1.sml h24)
            rw [this] at S3
            exact fin u3 g3 (by rw [decide_eq_true hrole]; exact S3)
          · rw [if_neg k12]
            have : gtF x1 (bif true then m else 0) s E = gtF x1 (m ||| ((1 : Int32) <<< (nI c &&& 31))) s E := gtF_no (by omega) (hE1.sml h24) (fun e he q => by
              obtain ⟨c', d1, d2, -, -, w | ⟨Q, w1, w2, w⟩ | ⟨e', c'', w1, -, -, w⟩⟩ := hE1.2.2 e he
              · rw [q] at w
                exact nI_m1 (by omega) w
              · rw [q] at w
                by_cases hQ : Q < 24
                · have := (nI_eq (show c < 2 ^ 31 by omega) (show Q < 2 ^ 31 by omega)).mp w
                  rw [this] at k12
                  exact k12 w2
                · omega
              · rw [q] at w
                have := hE1.1
                have := (nI_eq (show c < 2 ^ 31 by omega) (show 24 + e' < 2 ^ 31 by omega)).mp w
                omega)
            rw [this] at S2
            exact fin u2 (fun _ _ => rfl) (by rw [decide_eq_true hrole]; exact S2)
        · rw [decide_eq_false hrole] at S2
          by_cases k12 : u0 3 c = 12
          · rw [if_pos k12, if_neg hrole]
            exact fin u2 (fun _ _ => rfl) (by rw [decide_eq_false hrole]; exact S2)
          · rw [if_neg k12]
            exact fin u2 (fun _ _ => rfl) (by rw [decide_eq_false hrole]; exact S2)
    show ∃ u' x' m' C', _ ∧ f_M_faults_83 _ fv (nI r) (nI s) (nI c) u = _ ∧ f_I_endWithin_4 _ p (p 9 r) m (nI c) x = _ ∧ _
    unfold f_I_endWithin_4
    rw [show f_M_faults_83 (f_M_faults_83_it f) fv (nI r) (nI s) (nI c) u = (if (u 0 0) ≤ nI c then f_M_faults_83 (f_M_faults_83_it f) fv (nI r) (nI s) (nI c) u else if nI c = nI r then f_M_faults_108 (f_M_faults_83_it f) fv (nI r) (nI s) (nI c) u else (f_M_below u (nI c) (nI r)).bind fun v_61 => if v_61 = 0 then f_M_faults_161 (f_M_faults_83_it f) fv (nI r) (nI s) (nI c) u else f_M_faults_108 (f_M_faults_83_it f) fv (nI r) (nI s) (nI c) u) by
      by_cases q : (u 0 0) ≤ nI c
      · rw [if_pos q]
      · rw [if_neg q]
        conv => lhs; unfold f_M_faults_83
        rw [if_neg q]]
    rw [S.pl (show 0 < 17 by decide), P.n0, P.2.1, if_neg (nI_ge hcn (by omega)), if_neg (nI_ge hcn (by omega)), sp_isIn (by omega), Option.bind_some]
    by_cases q : c = r
    · rw [if_pos (show nI c = nI r by rw [q])]
      have hbt : bt (p 9 r) c = true := by rw [q]; exact P.1.self hr
      rw [hbt, if_neg (by decide)]
      exact body hbt
    · rw [if_neg (fun h => q ((nI_eq (by omega) (by omega)).mp h)), sp_below (S.Pl P).1 hcn hr, Option.bind_some]
      cases hw : wi p c r with
      | false =>
        have hbt : bt (p 9 r) c = false := by rw [hin, hw, decide_eq_false q]; rfl
        rw [hbt, if_pos (by decide), if_pos (by decide)]
        exact skip
      | true =>
        have hbt : bt (p 9 r) c = true := by rw [hin, hw, Bool.or_true]
        rw [hbt, if_neg (by decide), if_neg (by decide)]
        exact body hbt
end
