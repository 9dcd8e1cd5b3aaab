/-! PURE 24: FAULTS, whole; an entry FAILS -/
section
variable {j : Nat} {u0 u i p : St} {n L C : Nat}
theorem wr_up4 {x : St} {C a : Nat} {e b v : Int32} : sr_up (wr x C e b) 4 a v = wr (sr_up x 4 a v) C e b := by
  unfold wr
  rw [up_comm (show (19 : Nat) ≠ 4 by decide), up_comm (show (18 : Nat) ≠ 4 by decide)]
theorem lOk_close {x : St} (h : lOk x L) (X : Int32) : lOk (lkF u0 x 0 L X true) L := by
  intro l hl
  rw [lkF_13]
  by_cases q : 0 ≤ l ∧ l < L ∧ bt X (u0 8 l).toNatClampNeg = true
  · rw [if_pos q, if_pos rfl]
    by_cases w : x 13 l = 0
    · rw [if_pos w]; exact Or.inr (Or.inr rfl)
    · rw [if_neg w]; exact h l hl
  · rw [if_neg q]; exact h l hl
theorem lOk_unset {x : St} (h : lOk x L) (X : Int32) : lOk (lkF u0 x 0 L X false) L := by
  intro l hl
  rw [lkF_13]
  by_cases q : 0 ≤ l ∧ l < L ∧ bt X (u0 8 l).toNatClampNeg = true
  · rw [if_pos q, if_neg (by decide)]
    exact Or.inl rfl
  · rw [if_neg q]; exact h l hl
theorem Iv.lk (V : Iv u0 p i n L C) (X : Int32) (cl : Bool) : Iv u0 p (lkF u0 i 0 L X cl) n L C := by
  obtain ⟨v1, v2, ⟨E, v3⟩, v4⟩ := V
  refine ⟨by rw [lkF_k (by decide)]; exact v1, ?_, ⟨E, v3.congr (lkF_k (by decide)) (lkF_k (by decide)) (lkF_k (by decide))⟩, v4.congr (lkF_k (by decide)) (lkF_k (by decide))⟩
  cases cl with
  | true => exact lOk_close v2 X
  | false => exact lOk_unset v2 X
theorem Iv.set (V : Iv u0 p i n L C) (k a : Nat) (v : Int32) (h6 : k ≠ 6) (h13 : k ≠ 13) (h14 : k ≠ 14) (h16 : k ≠ 16) (h17 : k ≠ 17) (h19 : k ≠ 19) (h4 : k ≠ 4 := by decide) : Iv u0 p (sr_up i k a v) n L C := by
  obtain ⟨v1, v2, ⟨E, v3⟩, v4⟩ := V
  exact ⟨by rw [sp_up_k (fun q => h19 q.symm)]; exact v1, v2.congr (sp_up_k (fun q => h13 q.symm)), ⟨E, v3.congr (sp_up_k (fun q => h14 q.symm)) (sp_up_k (fun q => h16 q.symm)) (sp_up_k (fun q => h17 q.symm))⟩, v4.congr (sp_up_k (fun q => h6 q.symm)) (sp_up_k (fun q => h4 q.symm))⟩
/-- a scope takes a fault of its body -/
theorem takeFault_ok (P : Pl u0 p n L) (hj : j < 8) (S : Sim j u0 u i) (V : Iv u0 p i n L C) (hC : C < 2 ^ 30) (h34 : u 34 0 = 0) (h8 : i 8 0 = 0) {s : Nat} (hs : s < n) (fv : Int32) (μ : Nat) : ∃ u' i' C', C' ≤ C + 1 ∧ ((sr_ast 192 u 23 ((24 * (u 33 0)) + nI s) fv).bind fun u_18 => (f_M_inRole u_18 (nI s) 1).bind fun v_20 => if v_20 < 0 then f_M_faults_298 (nI s) u_18 else (sr_ald 24 (u_18 4) (nI s)).bind fun v_27 => if v_27 = 0 then f_M_faults_273 (nI s) v_20 u_18 else (sr_ald 24 (u_18 4) (nI s)).bind fun v_36 => if v_36 = fv then f_M_faults_273 (nI s) v_20 u_18 else f_M_faults_298 (nI s) u_18) = some u' ∧ f_I_takeFault p (nI s) fv i = some i' ∧ Sim j u0 u' i' ∧ Iv u0 p i' n L C' ∧ Du p u' i' n μ := by
  have h24 := P.lt
  have S1 := S.up 5 s fv (show s < 24 by omega)
  have V1 := V.set 5 s fv (by decide) (by decide) (by decide) (by decide) (by decide) (by decide)
  rw [S.2.1, sp_ix 24 24 j s rfl, sp_ast (by omega) (by decide), Option.bind_some]
  rw [show sr_up u 23 (24 * j + s) fv = sr_up u (mk 5) (ln 5 * j + s) (de 5 fv) from rfl]
  unfold f_I_takeFault
  rw [sp_ast (by omega) (by decide), Option.bind_some]
  generalize hU : sr_up u (mk 5) (ln 5 * j + s) (de 5 fv) = u1 at S1
  have u34 : u1 34 0 = 0 := by rw [← hU, sp_up_k (by decide)]; exact h34
  have i8 : (sr_up i 5 s fv) 8 0 = 0 := by rw [sp_up_k (by decide)]; exact h8
  generalize sr_up i 5 s fv = i1 at S1 V1 i8
  have hin : sp_in u1 (nI s) 1 = sp_in u0 (nI s) 1 := by
    unfold sp_in
    rw [S1.pl (show 1 < 17 by decide), S1.pl (show 2 < 17 by decide)]
  rw [sp_M_inRole (n := n) (by rw [S1.pl (show 0 < 17 by decide)]; exact P.n0) h24, Option.bind_some, hin, sp_P_handlerOf P hs, Option.bind_some, S1.pl (show 4 < 17 by decide), sp_ald24 (by omega), sp_ald24 (by omega), P.2.2.1.2.2.2.1]
  simp only [Option.bind_some]
  have fail : ∃ u' i' C', C' ≤ C + 1 ∧ f_M_faults_298 (nI s) u1 = some u' ∧ f_I_takeFault_77 p (nI s) i1 = some i' ∧ Sim j u0 u' i' ∧ Iv u0 p i' n L C' ∧ Du p u' i' n μ := by
    obtain ⟨u2, e2, S2, g2⟩ := M_put S1 hj (show s < 24 by omega) 6
    have S3 := S2.up 7 s 0 (show s < 24 by omega)
    refine ⟨_, _, C, by omega, ?_, ?_, S3, (V1.st s 6).set 7 s 0 (by decide) (by decide) (by decide) (by decide) (by decide) (by decide), Or.inl ⟨?_, ?_⟩⟩
    · unfold f_M_faults_298
      rw [e2, Option.bind_some, S2.2.1, sp_ix 24 24 j s rfl, sp_ast (by omega) (by decide), Option.bind_some]
      rfl
    · unfold f_I_takeFault_77 f_I_becomeUndoer
      rw [sp_ast (by omega) (by decide), Option.bind_some, sp_ast (by omega) (by decide), Option.bind_some, Option.bind_some]
    · rw [sp_up_k (by decide), g2 34 (by decide)]; exact u34
    · rw [sp_up_k (by decide), sp_up_k (by decide)]; exact i8
  cases ho : sp_fd (sp_in u0 (nI s) 1) 0 n with
  | none =>
    rw [show oI none = -1 from rfl, if_pos (by decide)]
    unfold f_I_takeFault_42 f_I_takeFault_47
    simp only [if_true, eq_self, ite_self]
    exact fail
  | some h =>
    have hh := sp_fd_lt ho
    have hh24 : h < 24 := by omega
    rw [show oI (some h) = nI h from rfl, if_neg (nI_pos (show h < 2 ^ 31 by omega))]
    have catch_ : ∃ u' i' C', C' ≤ C + 1 ∧ f_M_faults_273 (nI s) (nI h) u1 = some u' ∧ f_I_takeFault_42 p (nI s) (nI h) i1 = some i' ∧ Sim j u0 u' i' ∧ Iv u0 p i' n L C' ∧ Du p u' i' n μ := by
      obtain ⟨u2, e2, S2, g2⟩ := M_write S1 hj V1.1 hC 6 (nI s)
      obtain ⟨u3, e3, S3, g3⟩ := M_put S2 hj (show s < 24 by omega) 5
      obtain ⟨u4, e4, S4, g4⟩ := M_put S3 hj hh24 1
      rw [wr_up4] at S4
      refine ⟨u4, _, C + 1, Nat.le_refl _, ?_, ?_, S4, ((V1.st s 5).wr 6 (nI s)).st h 1, Or.inl ⟨?_, ?_⟩⟩
      · unfold f_M_faults_273
        rw [e2, Option.bind_some, e3, Option.bind_some, e4, Option.bind_some]
      · unfold f_I_takeFault_42 f_I_takeFault_47
        rw [if_neg (nI_m1 (show h < 2 ^ 31 by omega)), if_neg (by decide), C_become V1.1 hC (show s < 24 by omega), Option.bind_some, sp_ast hh24 (by decide), Option.bind_some]
      · rw [g4 34 (by decide), g3 34 (by decide), g2 34 (by decide)]; exact u34
      · rw [sp_up_k (by decide), wr_k (by decide) (by decide), sp_up_k (by decide)]; exact i8
    by_cases q0 : u0 4 s = 0
    · rw [if_pos q0, if_pos q0]
      exact catch_
    · rw [if_neg q0, if_neg q0]
      by_cases q1 : u0 4 s = fv
      · rw [if_pos q1, if_pos q1]
        exact catch_
      · rw [if_neg q1, if_neg q1]
        unfold f_I_takeFault_47
        simp only [if_true, eq_self, ite_self]
        exact fail
theorem part3 (P : Pl u0 p n L) (hj : j < 8) (S : Sim j u0 u i) (V : Iv u0 p i n L C) (hC : C + 60 < 2 ^ 30) (h34 : u 34 0 = 0) (h8 : i 8 0 = 0) {a : Nat} (ha : a < n) (fv : Int32) : ∃ u' i' C', C' ≤ C + 30 ∧ f_M_faults (nI a) fv u = some u' ∧ f_I_fault p (nI a) fv i = some i' ∧ Sim j u0 u' i' ∧ Iv u0 p i' n L C' ∧ Du p u' i' n (mM p 3 a) := by
  have h24 := P.lt
  obtain ⟨u1, u2, i2, e1, e2, e3, S2, V2, -, hk2, g2⟩ := become_ok S hj V (by omega) (show a < 24 by omega) 10 4
  have u34 : u2 34 0 = 0 := by rw [g2 34 (by decide)]; exact h34
  have i8 : i2 8 0 = 0 := by rw [hk2 8 (by decide) (by decide) (by decide)]; exact h8
  unfold f_M_faults f_I_fault
  rw [e1, Option.bind_some, e2, Option.bind_some, e3, Option.bind_some]
  rcases Nat.eq_zero_or_pos a with h0 | h0
  · subst h0
    rw [if_pos nI_0, if_pos nI_0, S2.2.1, sp_ast hj (by decide), Option.bind_some]
    have S3 := S2.up 3 0 (10 + fv) (by decide)
    rw [show ln 3 * j + 0 = j by show 1 * j + 0 = j; omega, show de 3 (10 + fv) = 10 + fv from rfl, show mk 3 = 17 from rfl] at S3
    exact ⟨_, sr_up i2 3 0 (10 + fv), C + 1, by omega, rfl, rfl, S3, V2.set 3 0 _ (by decide) (by decide) (by decide) (by decide) (by decide) (by decide), Or.inl ⟨by rw [sp_up_k (by decide)]; exact u34, by rw [sp_up_k (by decide)]; exact i8⟩⟩
  · obtain ⟨r, s, r0, ra, sr, b8, b1, b12, b6⟩ := bra_i P.1 a h0 ha
    have hr : r < n := by omega
    rw [if_neg (nI_ne0 h0 (by omega)), if_neg (nI_ne0 h0 (by omega)), show (0 : Int32) = nI 0 from rfl, M_bra (u := u2) P.1 (fun k hk => S2.pl hk) fv a h0 ha 0 60 r (by omega) (by omega) b8 (by omega), sp_ald24 (by omega), Option.bind_some, b8, sp_ald24 (by omega), Option.bind_some, P.2.2.1.1, b1, sp_ald24 (by omega), Option.bind_some]
    unfold f_M_faults_72
    rw [S2.pl (show 1 < 17 by decide), sp_ald24 (by omega), Option.bind_some, b1]
    obtain ⟨E, hE⟩ := V2.2.2.1
    have S2' : Sim j u0 u2 (gtF i2 (bif decide (u0 2 r = 0) then 0 else 0) s E) := by
      have : (bif decide (u0 2 r = 0) then (0 : Int32) else 0) = 0 := by cases decide (u0 2 r = 0) <;> rfl
      rw [this, gtF_0]
      exact S2
    obtain ⟨u3, x3, m3, C3, c1, c2, c3, S3, c5, c6, c7, c8, c9⟩ := end_l P hj hr sr fv (E := E) n 0 60 60 u2 i2 0 (C + 1) (by omega) (by omega) (by omega) S2' V2.1 (by omega) hE
    have c2' : f_M_faults_83_it 60 fv (nI r) (nI s) 0 u2 = f_M_faults_83 (fun _ _ _ _ _ => none) fv (nI r) (nI s) (nI n) u3 := c2
    have c3' : f_I_endWithin p (p 9 r) i2 = some (m3, x3) := c3
    rw [c2', c3']
    have E3 : eOk u0 x3 n E := hE.congr (c6 14 (by decide) (by decide) (by decide)) (c6 16 (by decide) (by decide) (by decide)) (c6 17 (by decide) (by decide) (by decide))
    have V3 : Iv u0 p x3 n L C3 := ⟨c5, V2.2.1.congr (c6 13 (by decide) (by decide) (by decide)), ⟨E, E3⟩, V2.2.2.2.cg4 (c6 6 (by decide) (by decide) (by decide)) (fun b hb hq => by
      rcases c9 b with w | w
      · rw [w] at hq
        exact absurd hq (by decide)
      · rw [w] at hq
        exact V2.2.2.2.2 b hb hq)⟩
    have w34 : u3 34 0 = 0 := by rw [c7 34 (by decide)]; exact u34
    have w8 : x3 8 0 = 0 := by rw [c6 8 (by decide) (by decide) (by decide)]; exact i8
    unfold f_M_faults_83
    rw [S3.pl (show 0 < 17 by decide), P.n0, if_pos (nI_le (Nat.le_refl _) (by omega)), S3.pl (show 2 < 17 by decide), sp_ald24 (by omega)]
    show ∃ u' i' C', _ ∧ _ ∧ ((sr_ald 24 (p 1) (nI r)).bind _) = _ ∧ _
    rw [P.2.2.1.2.1, sp_ald24 (by omega)]
    simp only [Option.bind_some]
    have ma : mM p 3 a = 3 * s + 2 := by
      unfold mM
      simp only [show ¬ a = 0 by omega, if_false, b6, nI_clamp (show s < 2 ^ 31 by omega)]
      simp
    have m3s : mM p 3 s < mM p 3 a := by
      rw [ma]
      unfold mM
      simp only [show ¬ (3 : Nat) = 1 by decide, show ¬ (3 : Nat) = 2 by decide, if_false, if_true]
      rcases Nat.eq_zero_or_pos s with q | q
      · rw [if_pos q]; omega
      · obtain ⟨s', q1, q2, -⟩ := aro_i P.1 s q (by omega)
        rw [if_neg (by omega), q2, nI_clamp (by omega)]
        omega
    have m4s : mM p 4 s < mM p 3 a := by
      rw [ma]
      unfold mM
      simp
    rcases P.1.2.2.2.2.2.2 r hr with q | q | q
    · -- the body of the scope
      have q1 : ¬ u0 2 r = 1 := by rw [q]; decide
      have q2 : ¬ u0 2 r = 2 := by rw [q]; decide
      rw [if_neg q1, if_neg q2, if_neg q1, if_neg q2]
      rw [decide_eq_true q] at S3
      have S3 : Sim j u0 u3 (gtF x3 m3 s E) := S3
      obtain ⟨y, y1, y2, y3⟩ := C_gather P (m := m3) (s := s) E3.1 E 0 60 x3 (by omega) (by have := E3.1; omega) E3.2.1 (fun b _ hb => E3.sml h24 b hb)
      have hy : y = gtF x3 m3 s E := by
        funext k b
        by_cases hk : k = 16
        · subst hk
          rw [y3 b, gtF_16]
          simp
        · rw [y2 k hk, gtF_k hk]
      have y1' : f_E_gather p m3 (nI s) x3 = some (gtF x3 m3 s E) := by rw [← hy]; exact y1
      rw [y1', Option.bind_some]
      have Eg : eOk u0 (gtF x3 m3 s E) n E := by
        refine ⟨E3.1, by rw [gtF_k (by decide)]; exact E3.2.1, fun e he => ?_⟩
        obtain ⟨c, d1, d2, d3, d4, d5⟩ := E3.2.2 e he
        rw [gtF_k (show (14 : Nat) ≠ 16 by decide), gtF_16]
        refine ⟨c, d1, d2, d3, d4, ?_⟩
        by_cases w : e < E ∧ 0 ≤ x3 16 e ∧ x3 16 e < 24 ∧ bt m3 (x3 16 e).toNatClampNeg = true
        · rw [if_pos w]
          obtain ⟨-, w1, w2, w3⟩ := w
          rcases d5 with h | ⟨Q, h1, h2, h3⟩ | ⟨e', c', h1, h2, h3, h4⟩
          · rw [h] at w1
            exact absurd w1 (by decide)
          · rw [h3, nI_clamp (by omega)] at w3
            have hQ : bt (p 9 r) Q = true := by
              rcases c8 Q w3 with z | z
              · rw [b_0] at z; cases z
              · exact z
            have := P.1.le hr Q hQ
            exact Or.inr (Or.inl ⟨s, by omega, b12, rfl⟩)
          · rw [h4] at w2
            have := E3.1
            exact absurd w2 (nI_nlt (b := 24) (by omega) (by omega))
        · rw [if_neg w]
          exact d5
      have Vg : Iv u0 p (gtF x3 m3 s E) n L C3 := ⟨by rw [gtF_k (by decide)]; exact c5, V3.2.1.congr (gtF_k (by decide)), ⟨E, Eg⟩, V3.2.2.2.congr (gtF_k (by decide)) (gtF_k (by decide))⟩
      have hcl : f_L_closeFrom p (p 9 r) (gtF x3 m3 s E) = some (lkF u0 (gtF x3 m3 s E) 0 L (p 9 r) true) := C_close P L 0 60 _ (by omega) (by have := P.2.2.2.1.2.1; omega)
      obtain ⟨u4, l1, S4, g4⟩ := M_setLinks P hj hr true L 0 60 u3 _ (by omega) (by have := P.2.2.2.1.2.1; omega) S3
      have l1' : f_M_setLinks (nI r) 1 u3 = some u4 := l1
      rw [l1', Option.bind_some, hcl, Option.bind_some]
      obtain ⟨u5, i5, C5, t1, t2, t3, S5, V5, D5⟩ := takeFault_ok P hj S4 (Vg.lk (p 9 r) true) (by omega) (by rw [g4 34 (by decide)]; exact w34) (by rw [lkF_k (by decide), gtF_k (by decide)]; exact w8) (show s < n by omega) fv (mM p 3 a)
      refine ⟨u5, i5, C5, by omega, t2, ?_, S5, V5, D5⟩
      rw [t3, Option.bind_some]
    · -- a fault handler
      rw [if_pos q, if_pos q]
      have : (bif decide (u0 2 r = 0) then m3 else 0) = 0 := by rw [q]; rfl
      rw [this, gtF_0] at S3
      obtain ⟨u4, i4, f1, f2, S4, V4, hk4, g4⟩ := clear_ok hj h24 S3 V3 (show s < n by omega)
      obtain ⟨u5, i5, f3, f4, S5, hk5, D5⟩ := due3 (p := p) (n := n) (a := s) S4 (by omega) m3s fv
      refine ⟨u5, i5, C3, by omega, ?_, ?_, S5, V4.due hk5, D5⟩
      · rw [f1, Option.bind_some, f3, Option.bind_some]
      · rw [f2, Option.bind_some, f4, Option.bind_some]
    · -- an undo handler
      have q1 : ¬ u0 2 r = 1 := by rw [q]; decide
      rw [if_neg q1, if_pos q, if_neg q1, if_pos q]
      have : (bif decide (u0 2 r = 0) then m3 else 0) = 0 := by rw [q]; rfl
      rw [this, gtF_0] at S3
      obtain ⟨u5, i5, f3, f4, S5, hk5, D5⟩ := due4 (p := p) (n := n) (a := s) S3 (by omega) m4s fv
      refine ⟨u5, i5, C3, by omega, ?_, ?_, S5, V3.due hk5, D5⟩
      · rw [f3, Option.bind_some]
      · rw [f4, Option.bind_some]
end
