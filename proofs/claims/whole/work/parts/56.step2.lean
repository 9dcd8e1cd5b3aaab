/-! PURE 27: a subtree is renewed; loops -/
theorem Tr.trans {u p : St} {n : Nat} (T : Tr u p n) {a b : Nat} (ha : a < n) (hb : b < n) (hab : bt (p 9 a) b = true) : ∀ s, s < n → bt (p 9 b) s = true → bt (p 9 a) s = true := by
  intro s
  induction s using Nat.strongRecOn with
  | _ s ih =>
    intro hs h
    have hle := T.le hb s h
    by_cases q : s = b
    · subst q; exact hab
    · obtain ⟨c, hc, -, -, -, -, -, -, hw⟩ := T.par (show 0 < s by omega) hs
      rw [hw b hb, decide_eq_false q, Bool.false_or] at h
      rw [hw a ha, ih c hc (by omega) h, Bool.or_true]
/-- statuses of the set X from c on are idle -/
def rnF (x : St) (X : Int32) (c n : Nat) : St := fun k => bif Nat.beq k 4 then (fun b => if c ≤ b ∧ b < n ∧ bt X b = true then 0 else x 4 b) else x k
/-- the links of Z are unset -/
def zzF (x : St) (Z : Nat → Bool) (L : Nat) : St := fun k => bif Nat.beq k 13 then (fun l => if l < L ∧ Z l = true then 0 else x 13 l) else x k
theorem rnF_k {x : St} {X : Int32} {c n k : Nat} (h : k ≠ 4) : rnF x X c n k = x k := by
  have : Nat.beq k 4 = false := by rw [← Bool.not_eq_true]; exact fun h2 => h (Nat.eq_of_beq_eq_true h2)
  simp [rnF, this]
theorem rnF_4 {x : St} {X : Int32} {c n : Nat} (b : Nat) : rnF x X c n 4 b = if c ≤ b ∧ b < n ∧ bt X b = true then 0 else x 4 b := rfl
theorem zzF_k {x : St} {Z : Nat → Bool} {L k : Nat} (h : k ≠ 13) : zzF x Z L k = x k := by
  have : Nat.beq k 13 = false := by rw [← Bool.not_eq_true]; exact fun h2 => h (Nat.eq_of_beq_eq_true h2)
  simp [zzF, this]
theorem zzF_13 {x : St} {Z : Nat → Bool} {L : Nat} (l : Nat) : zzF x Z L 13 l = if l < L ∧ Z l = true then 0 else x 13 l := rfl
theorem rnF_up {x : St} {X : Int32} {c n : Nat} (hc : c < n) (h : bt X c = true) : rnF (sr_up x 4 c 0) X (c + 1) n = rnF x X c n := by
  funext k b
  by_cases hk : k = 4
  · subst hk
    rw [rnF_4, rnF_4, sp_up]
    by_cases q : b = c
    · subst q
      rw [if_neg (by omega), if_pos ⟨rfl, rfl⟩, if_pos ⟨Nat.le_refl _, hc, h⟩]
    · rw [if_neg (show ¬ (4 = 4 ∧ b = c) from fun w => q w.2)]
      by_cases w : c ≤ b
      · simp [w, show c + 1 ≤ b by omega]
      · simp [w, show ¬ c + 1 ≤ b by omega]
  · rw [rnF_k hk, rnF_k hk, sp_up_k hk]
theorem rnF_skip {x : St} {X : Int32} {c n : Nat} (h : ¬ bt X c = true) : rnF x X (c + 1) n = rnF x X c n := by
  funext k b
  by_cases hk : k = 4
  · subst hk
    rw [rnF_4, rnF_4]
    by_cases q : b = c
    · subst q
      simp [h]
    · by_cases w : c ≤ b
      · simp [w, show c + 1 ≤ b by omega]
      · simp [w, show ¬ c + 1 ≤ b by omega]
  · rw [rnF_k hk, rnF_k hk]
theorem rnF_end {x : St} {X : Int32} {n : Nat} : rnF x X n n = x := by
  funext k b
  by_cases hk : k = 4
  · subst hk
    rw [rnF_4, if_neg (by omega)]
  · rw [rnF_k hk]
theorem zzF_0 {x : St} {L : Nat} : zzF x (fun _ => false) L = x := by
  funext k b
  by_cases hk : k = 13
  · subst hk
    rw [zzF_13, if_neg (fun h => by cases h.2)]
  · rw [zzF_k hk]
theorem zzF_up {x : St} {Z : Nat → Bool} {L k a : Nat} {v : Int32} (h : k ≠ 13) : sr_up (zzF x Z L) k a v = zzF (sr_up x k a v) Z L := by
  funext k' b
  by_cases hk : k' = 13
  · subst hk
    rw [sp_up_k (fun q => h q.symm), zzF_13, zzF_13, sp_up_k (fun q => h q.symm)]
  · rw [zzF_k hk, sp_up, sp_up, zzF_k hk]
section
variable {j : Nat} {u0 u i p : St} {n L C : Nat}
theorem zzF_lk {x : St} {Z : Nat → Bool} {X : Int32} : lkF u0 (zzF x Z L) 0 L X false = zzF x (fun l => Z l || bt X (u0 8 l).toNatClampNeg) L := by
  funext k l
  by_cases hk : k = 13
  · subst hk
    rw [lkF_13, zzF_13, zzF_13]
    by_cases hl : l < L
    · cases h1 : Z l <;> cases h2 : bt X (u0 8 l).toNatClampNeg <;> simp [hl]
    · simp [hl]
  · rw [lkF_k hk, zzF_k hk, zzF_k hk]
theorem C_renew (P : Pl u0 p n L) {X : Int32} : ∀ d c g (x : St), c + d = n → d < g → f_I_renew_2_it p g X (nI c) x = some (lkF u0 (rnF x X c n) 0 L X false) := by
  have h24 := P.lt
  intro d
  induction d with
  | zero =>
    intro c g x hc hg
    have : c = n := by omega
    subst this
    obtain ⟨g, rfl⟩ : ∃ f', g = f' + 1 := ⟨g - 1, by omega⟩
    show f_I_renew_2 _ p X (nI c) x = _
    unfold f_I_renew_2
    have hcl : f_L_unsetFrom p X x = some (lkF u0 x 0 L X false) := C_unset P L 0 60 _ (by omega) (by have := P.2.2.2.1.2.1; omega)
    rw [P.2.1, if_pos (nI_le (Nat.le_refl _) (by omega)), hcl, Option.bind_some, rnF_end]
  | succ d ih =>
    intro c g x hc hg
    obtain ⟨g, rfl⟩ : ∃ f', g = f' + 1 := ⟨g - 1, by omega⟩
    show f_I_renew_2 _ p X (nI c) x = _
    unfold f_I_renew_2 f_I_renew_28
    rw [P.2.1, if_neg (nI_ge (show c < n by omega) (by omega)), sp_isIn (by omega), Option.bind_some, nI_1]
    cases hb : bt X c with
    | false => rw [if_pos (by decide), ih (c + 1) g x (by omega) (by omega), rnF_skip (by rw [hb]; decide)]
    | true => rw [if_neg (by decide), sp_ast (by omega) (by decide), Option.bind_some, ih (c + 1) g _ (by omega) (by omega), rnF_up (by omega) hb]
/-- the set X is closed downwards -/
def dcl (p : St) (X : Int32) (n : Nat) : Prop := (∀ b s, b < n → s < n → bt X b = true → bt (p 9 b) s = true → bt X s = true)
theorem renew_end (P : Pl u0 p n L) {X : Int32} (hd : dcl p X n) (hX : ∀ b, bt X b = true → b < n) {x : St} {Z : Nat → Bool} (hZ : ∀ l, l < L → (Z l = true ↔ ∃ b, b < n ∧ bt X b = true ∧ bt (p 9 b) (u0 8 l).toNatClampNeg = true)) : zzF x Z L = lkF u0 x 0 L X false := by
  have h24 := P.lt
  funext k l
  by_cases hk : k = 13
  · subst hk
    rw [zzF_13, lkF_13]
    by_cases hl : l < L
    · obtain ⟨⟨s, hs, es⟩, -⟩ := P.2.2.2.2.2.2 l hl
      have hsc : (u0 8 l).toNatClampNeg = s := by rw [es, nI_clamp (by omega)]
      have hz := hZ l hl
      rw [hsc] at hz ⊢
      have : Z l = true ↔ bt X s = true := by
        rw [hz]
        constructor
        · rintro ⟨b, q1, q2, q3⟩
          exact hd b s q1 hs q2 q3
        · intro q
          exact ⟨s, hs, q, P.1.self hs⟩
      by_cases w : bt X s = true
      · simp [hl, this.mpr w, w]
      · have : ¬ Z l = true := fun q => w (this.mp q)
        simp [hl, this, w]
    · simp [hl]
  · rw [zzF_k hk, lkF_k hk]
/-- one activity is made idle, its links unset -/
theorem idle_ok (P : Pl u0 p n L) (hj : j < 8) {x : St} {Z : Nat → Bool} (S : Sim j u0 u (zzF x Z L)) {b : Nat} (hb : b < n) : ∃ u1 u2, f_M_put (nI b) 0 u = some u1 ∧ f_M_setLinks (nI b) 0 u1 = some u2 ∧ Sim j u0 u2 (zzF (sr_up x 4 b 0) (fun l => Z l || bt (p 9 b) (u0 8 l).toNatClampNeg) L) ∧ (∀ k, 33 ≤ k → u2 k = u k) := by
  have h24 := P.lt
  obtain ⟨u1, e1, S1, g1⟩ := M_put S hj (show b < 24 by omega) 0
  obtain ⟨u2, e2, S2, g2⟩ := M_setLinks P hj hb false L 0 60 u1 _ (by omega) (by have := P.2.2.2.1.2.1; omega) S1
  rw [zzF_up (by decide), zzF_lk] at S2
  exact ⟨u1, u2, e1, e2, S2, fun k hk => by rw [g2 k hk, g1 k hk]⟩
theorem loop_l (P : Pl u0 p n L) (hj : j < 8) {a : Nat} (ha : a < n) {X : Int32} (hX : ∀ b, b < n → bt X b = wi p b a) : ∀ d c f (u x : St) (Z : Nat → Bool), c + d = n → d < f → Sim j u0 u (zzF x Z L) →
    ∃ u' Z', f_M_loop_36_it f (nI a) (nI c) u = f_M_loop_36 (fun _ _ _ => none) (nI a) (nI n) u' ∧ Sim j u0 u' (zzF (rnF x X c n) Z' L) ∧ (∀ l, l < L → (Z' l = true ↔ Z l = true ∨ ∃ b, c ≤ b ∧ b < n ∧ bt X b = true ∧ bt (p 9 b) (u0 8 l).toNatClampNeg = true)) ∧ (∀ k, 33 ≤ k → u' k = u k) := by
  have h24 := P.lt
  intro d
  induction d with
  | zero =>
    intro c f u x Z hc hf S
    have : c = n := by omega
    subst this
    obtain ⟨f, rfl⟩ : ∃ f', f = f' + 1 := ⟨f - 1, by omega⟩
    refine ⟨u, Z, ?_, by rw [rnF_end]; exact S, fun l _ => ⟨Or.inl, fun h => h.elim id (fun ⟨b, q1, q2, _⟩ => by omega)⟩, fun _ _ => rfl⟩
    show f_M_loop_36 _ (nI a) (nI c) u = _
    unfold f_M_loop_36
    rw [S.pl (show 0 < 17 by decide), P.n0, if_pos (nI_le (Nat.le_refl _) (by omega)), if_pos (nI_le (Nat.le_refl _) (by omega))]
  | succ d ih =>
    intro c f u x Z hc hf S
    obtain ⟨f, rfl⟩ : ∃ f', f = f' + 1 := ⟨f - 1, by omega⟩
    have hcn : c < n := by omega
    have unf : f_M_loop_36 (f_M_loop_36_it f) (nI a) (nI c) u = (f_M_below u (nI c) (nI a)).bind fun v_15 => if v_15 = 0 then f_M_loop_65 (f_M_loop_36_it f) (nI a) (nI c) u else (f_M_put (nI c) 0 u).bind fun u_18 => (f_M_setLinks (nI c) 0 u_18).bind fun u_20 => f_M_loop_65 (f_M_loop_36_it f) (nI a) (nI c) u_20 := by
      conv => lhs; unfold f_M_loop_36
      rw [S.pl (show 0 < 17 by decide), P.n0, if_neg (nI_ge hcn (by omega))]
    show ∃ u' Z', f_M_loop_36 _ (nI a) (nI c) u = _ ∧ _
    rw [unf, sp_below (S.Pl P).1 hcn ha, Option.bind_some]
    unfold f_M_loop_65
    rw [nI_1]
    cases hw : wi p c a with
    | false =>
      rw [if_pos (by decide)]
      have hb : ¬ bt X c = true := by rw [hX c hcn, hw]; decide
      obtain ⟨u', Z', q1, q2, q3, q4⟩ := ih (c + 1) f u x Z (by omega) (by omega) S
      rw [rnF_skip hb] at q2
      refine ⟨u', Z', q1, q2, fun l hl => ?_, q4⟩
      rw [q3 l hl]
      constructor
      · rintro (h | ⟨b, w1, w2⟩)
        · exact Or.inl h
        · exact Or.inr ⟨b, by omega, w2⟩
      · rintro (h | ⟨b, w1, w2, w3, w4⟩)
        · exact Or.inl h
        · by_cases w : b = c
          · rw [w] at w3; exact absurd w3 hb
          · exact Or.inr ⟨b, by omega, w2, w3, w4⟩
    | true =>
      rw [if_neg (by decide)]
      have hb : bt X c = true := by rw [hX c hcn, hw]
      obtain ⟨u1, u2, e1, e2, S2, g2⟩ := idle_ok P hj S hcn
      rw [e1, Option.bind_some, e2, Option.bind_some]
      obtain ⟨u', Z', q1, q2, q3, q4⟩ := ih (c + 1) f u2 _ _ (by omega) (by omega) S2
      rw [rnF_up hcn hb] at q2
      refine ⟨u', Z', q1, q2, fun l hl => ?_, fun k hk => by rw [q4 k hk, g2 k hk]⟩
      rw [q3 l hl, Bool.or_eq_true]
      constructor
      · rintro ((h | h) | ⟨b, w1, w2⟩)
        · exact Or.inl h
        · exact Or.inr ⟨c, Nat.le_refl _, hcn, hb, h⟩
        · exact Or.inr ⟨b, by omega, w2⟩
      · rintro (h | ⟨b, w1, w2, w3, w4⟩)
        · exact Or.inl (Or.inl h)
        · by_cases w : b = c
          · rw [w] at w4; exact Or.inl (Or.inr w4)
          · exact Or.inr ⟨b, by omega, w2, w3, w4⟩
theorem Iv.rn (V : Iv u0 p i n L C) (X : Int32) (c m : Nat) : Iv u0 p (rnF i X c m) n L C := by
  obtain ⟨v1, v2, ⟨E, v3⟩, v4⟩ := V
  exact ⟨by rw [rnF_k (by decide)]; exact v1, v2.congr (rnF_k (by decide)), ⟨E, v3.congr (rnF_k (by decide)) (rnF_k (by decide)) (rnF_k (by decide))⟩, v4.cg4 (rnF_k (by decide)) (fun b hb hq => by
    rw [rnF_4] at hq
    split at hq
    · exact absurd hq (by decide)
    · exact v4.2 b hb hq)⟩
/-- a while looks at its condition -/
theorem loop_ok (P : Pl u0 p n L) (D : Dp u0 p n L) (hj : j < 8) (S : Sim j u0 u i) (V : Iv u0 p i n L C) (h34 : u 34 0 = 0) (h8 : i 8 0 = 0) {a : Nat} (ha : a < n) (k11 : u0 3 a = 11) : ∃ u' i', f_M_loop (nI a) u = some u' ∧ f_I_loop p (nI a) i = some i' ∧ Sim j u0 u' i' ∧ Iv u0 p i' n L C ∧ Du p u' i' n 300 := by
  have h24 := P.lt
  have ha0 : 0 < a := by
    rcases Nat.eq_zero_or_pos a with q | q
    · subst q
      rw [(P.1.2.2.1 ha).2.2.1] at k11
      exact absurd k11 (by decide)
    · exact q
  have hv : inB (u0 4 a) 0 4 = true := by
    have := P.2.2.2.2.2.1 a ha
    rw [k11] at this
    exact this
  obtain ⟨r1, r2⟩ := see_ok S P hj ha0 ha hv
  unfold f_M_loop f_I_loop f_I_conditionHolds
  rw [S.pl (show 4 < 17 by decide), S.pl (show 5 < 17 by decide), P.2.2.1.2.2.2.1, P.2.2.1.2.2.2.2.1, sp_ald24 (by omega), Option.bind_some, Option.bind_some, sp_ald24 (by omega), r1, r2]
  simp only [Option.bind_some]
  by_cases q : seeV p i a (u0 4 a) < u0 5 a
  · have q' : ¬ u0 5 a ≤ seeV p i a (u0 4 a) := Int32.not_le.mpr q
    rw [if_pos q, if_neg q', Option.bind_some, if_neg (by decide)]
    obtain ⟨u1, e1, S1, g1⟩ := M_put S hj (show a < 24 by omega) 2
    have V1 := V.st a 2
    obtain ⟨X, hXe⟩ : ∃ X, (p 9 a &&& (((1 : Int32) <<< (nI a &&& 31)) ^^^ (-1))) = X := ⟨_, rfl⟩
    have hXb : ∀ b, bt X b = (bt (p 9 a) b && decide (b ≠ a)) := by
      intro b
      rw [← hXe, b_and, b_xor, sp_bit1 (by omega)]
      rcases Nat.lt_or_ge b 32 with hb | hb
      · rw [b_m1 b hb]
        by_cases w : b = a <;> simp [w]
      · rw [b_big hb]
        simp
    have hXw : ∀ b, b < n → bt X b = wi p b a := by
      intro b _
      rw [hXb, wi, Bool.and_comm]
    have hXn : ∀ b, bt X b = true → b < n := by
      intro b hb
      rw [hXb, Bool.and_eq_true] at hb
      exact (P.1.le ha b hb.1).2
    have hdc : dcl p X n := by
      intro b s hb hs w1 w2
      rw [hXb, Bool.and_eq_true] at w1
      have t1 := P.1.trans ha hb w1.1 s hs w2
      have t2 := (P.1.le hb s w2).1
      have t3 := (P.1.le ha b w1.1).1
      have t4 := of_decide_eq_true w1.2
      rw [hXb, t1, decide_eq_true (show s ≠ a by omega)]
      rfl
    rw [sp_ast (by omega) (by decide), Option.bind_some, sp_ald24 (by omega), Option.bind_some, hXe, e1, Option.bind_some]
    have S1' : Sim j u0 u1 (zzF (sr_up i 4 a 2) (fun _ => false) L) := by rw [zzF_0]; exact S1
    obtain ⟨u2, Z2, q1, q2, q3, q4⟩ := loop_l P hj ha hXw n 0 60 u1 _ _ (by omega) (by omega) S1'
    rw [renew_end P hdc hXn (fun l hl => by
      rw [q3 l hl]
      constructor
      · rintro (h | ⟨b, -, w⟩)
        · cases h
        · exact ⟨b, w⟩
      · rintro ⟨b, w⟩
        exact Or.inr ⟨b, Nat.zero_le _, w⟩)] at q2
    have q1' : f_M_loop_36_it 60 (nI a) 0 u1 = f_M_loop_36 (fun _ _ _ => none) (nI a) (nI n) u2 := q1
    have hren : f_I_renew p X (sr_up i 4 a 2) = some (lkF u0 (rnF (sr_up i 4 a 2) X 0 n) 0 L X false) := C_renew P n 0 60 _ (by omega) (by omega)
    rw [q1', hren, Option.bind_some]
    unfold f_M_loop_36
    obtain ⟨c, hc⟩ := D.2.1 a ha (by rw [k11]; decide)
    obtain ⟨c1, c2, -⟩ := sp_child P ha hc
    have hin : sp_in u2 (nI a) 0 = sp_in u0 (nI a) 0 := by
      unfold sp_in
      rw [q2.pl (show 1 < 17 by decide), q2.pl (show 2 < 17 by decide)]
    rw [q2.pl (show 0 < 17 by decide), P.n0, if_pos (nI_le (Nat.le_refl _) (by omega)), sp_M_inRole (n := n) (by rw [q2.pl (show 0 < 17 by decide)]; exact P.n0) h24, Option.bind_some, hin, sp_P_firstChild P ha, Option.bind_some, hc, show oI (some c) = nI c from rfl]
    obtain ⟨u3, e3, S3, g3⟩ := M_put q2 hj (show c < 24 by omega) 1
    refine ⟨u3, _, by rw [e3, Option.bind_some], ?_, S3, ((V1.rn X 0 n).lk X false).st c 1, Or.inl ⟨by rw [g3 34 (by decide), q4 34 (by decide), g1 34 (by decide)]; exact h34, by rw [sp_up_k (by decide), lkF_k (by decide), rnF_k (by decide), sp_up_k (by decide)]; exact h8⟩⟩
    unfold f_I_openOrComplete
    rw [if_neg (nI_m1 (show c < 2 ^ 31 by omega)), sp_ast (show c < 24 by omega) (by decide), Option.bind_some, Option.bind_some]
  · have q' : u0 5 a ≤ seeV p i a (u0 4 a) := Int32.not_lt.mp q
    rw [if_neg q, if_pos q', Option.bind_some, if_pos rfl]
    obtain ⟨u', i', e1, e2, S2, hk, D2⟩ := due1 (p := p) (n := n) (a := a) (μ := 300) S ha (mM_lt P (Or.inl rfl) ha) 0
    exact ⟨u', i', by rw [e1, Option.bind_some], by rw [e2, Option.bind_some], S2, V.due hk, D2⟩
end
