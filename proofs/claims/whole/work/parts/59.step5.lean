/-! PURE 30: an activity begins -/
def opF (x : St) (G : Nat → Bool) (c n : Nat) : St := fun k => bif Nat.beq k 4 then (fun b => if c ≤ b ∧ b < n ∧ G b = true then 1 else x 4 b) else x k
theorem opF_k {x : St} {G : Nat → Bool} {c n k : Nat} (h : k ≠ 4) : opF x G c n k = x k := by
  have : Nat.beq k 4 = false := by rw [← Bool.not_eq_true]; exact fun h2 => h (Nat.eq_of_beq_eq_true h2)
  simp [opF, this]
theorem opF_4 {x : St} {G : Nat → Bool} {c n : Nat} (b : Nat) : opF x G c n 4 b = if c ≤ b ∧ b < n ∧ G b = true then 1 else x 4 b := rfl
theorem opF_up {x : St} {G : Nat → Bool} {c n : Nat} (hc : c < n) (h : G c = true) : opF (sr_up x 4 c 1) G (c + 1) n = opF x G c n := by
  funext k b
  by_cases hk : k = 4
  · subst hk
    rw [opF_4, opF_4, sp_up]
    by_cases q : b = c
    · subst q
      rw [if_neg (by omega), if_pos ⟨rfl, rfl⟩, if_pos ⟨Nat.le_refl _, hc, h⟩]
    · rw [if_neg (show ¬ (4 = 4 ∧ b = c) from fun w => q w.2)]
      by_cases w : c ≤ b
      · simp [w, show c + 1 ≤ b by omega]
      · simp [w, show ¬ c + 1 ≤ b by omega]
  · rw [opF_k hk, opF_k hk, sp_up_k hk]
theorem opF_skip {x : St} {G : Nat → Bool} {c n : Nat} (h : ¬ G c = true) : opF x G (c + 1) n = opF x G c n := by
  funext k b
  by_cases hk : k = 4
  · subst hk
    rw [opF_4, opF_4]
    by_cases q : b = c
    · subst q
      simp [h]
    · by_cases w : c ≤ b
      · simp [w, show c + 1 ≤ b by omega]
      · simp [w, show ¬ c + 1 ≤ b by omega]
  · rw [opF_k hk, opF_k hk]
theorem opF_end {x : St} {G : Nat → Bool} {n : Nat} : opF x G n n = x := by
  funext k b
  by_cases hk : k = 4
  · subst hk
    rw [opF_4, if_neg (by omega)]
  · rw [opF_k hk]
section
variable {j : Nat} {u0 u i p : St} {n L C : Nat}
theorem M_open_l (P : Pl u0 p n L) (hj : j < 8) {a c0 : Nat} (ha : a < n) (hc0 : c0 < n) {G : Nat → Bool} (hG : ∀ b, b < n → G b = (decide (b = c0) || (decide (u0 3 a = 9) && (decide (u0 1 b = nI a) && decide (u0 2 b = 0))))) : ∀ d c f (u x : St), c + d = n → d < f → Sim j u0 u x → ∃ u', f_M_open_168_it f (nI a) (nI c0) (nI c) u = some u' ∧ Sim j u0 u' (opF x G c n) ∧ (∀ k, 33 ≤ k → u' k = u k) := by
  have h24 := P.lt
  intro d
  induction d with
  | zero =>
    intro c f u x hc hf S
    have : c = n := by omega
    subst this
    obtain ⟨f, rfl⟩ : ∃ f', f = f' + 1 := ⟨f - 1, by omega⟩
    refine ⟨u, ?_, by rw [opF_end]; exact S, fun _ _ => rfl⟩
    show f_M_open_168 _ (nI a) (nI c0) (nI c) u = _
    unfold f_M_open_168
    rw [S.pl (show 0 < 17 by decide), P.n0, if_pos (nI_le (Nat.le_refl _) (by omega))]
  | succ d ih =>
    intro c f u x hc hf S
    obtain ⟨f, rfl⟩ : ∃ f', f = f' + 1 := ⟨f - 1, by omega⟩
    have hcn : c < n := by omega
    have yes : G c = true → ∃ u', f_M_open_211 (f_M_open_168_it f) (nI a) (nI c0) (nI c) u = some u' ∧ Sim j u0 u' (opF x G c n) ∧ (∀ k, 33 ≤ k → u' k = u k) := by
      intro hg
      obtain ⟨u1, e1, S1, g1⟩ := M_put S hj (show c < 24 by omega) 1
      obtain ⟨u', q1, q2, q3⟩ := ih (c + 1) f u1 _ (by omega) (by omega) S1
      rw [opF_up hcn hg] at q2
      refine ⟨u', ?_, q2, fun k hk => by rw [q3 k hk, g1 k hk]⟩
      unfold f_M_open_211 f_M_open_217
      rw [e1, Option.bind_some, nI_1]
      exact q1
    have no : ¬ G c = true → ∃ u', f_M_open_217 (f_M_open_168_it f) (nI a) (nI c0) (nI c) u = some u' ∧ Sim j u0 u' (opF x G c n) ∧ (∀ k, 33 ≤ k → u' k = u k) := by
      intro hg
      obtain ⟨u', q1, q2, q3⟩ := ih (c + 1) f u x (by omega) (by omega) S
      rw [opF_skip hg] at q2
      refine ⟨u', ?_, q2, q3⟩
      unfold f_M_open_217
      rw [nI_1]
      exact q1
    show ∃ u', f_M_open_168 _ (nI a) (nI c0) (nI c) u = _ ∧ _
    unfold f_M_open_168
    rw [S.pl (show 0 < 17 by decide), S.pl (show 1 < 17 by decide), S.pl (show 2 < 17 by decide), S.pl (show 3 < 17 by decide), P.n0, if_neg (nI_ge hcn (by omega)), sp_ald24 (show a < 24 by omega), sp_ald24 (show c < 24 by omega), sp_ald24 (show c < 24 by omega)]
    simp only [Option.bind_some]
    have hg := hG c hcn
    by_cases q : c = c0
    · rw [if_pos (by rw [q])]
      exact yes (by rw [hg]; simp [q])
    · rw [if_neg (fun w => q ((nI_eq (by omega) (by omega)).mp w))]
      by_cases k9 : u0 3 a = 9
      · rw [if_pos k9]
        by_cases w1 : u0 1 c = nI a
        · rw [if_pos w1]
          by_cases w2 : u0 2 c = 0
          · rw [if_pos w2]
            exact yes (by rw [hg]; simp [k9, w1, w2])
          · rw [if_neg w2]
            exact no (by rw [hg]; simp [q, w2])
        · rw [if_neg w1]
          exact no (by rw [hg]; simp [q, w1])
      · rw [if_neg k9]
        exact no (by rw [hg]; simp [q, k9])
theorem C_flow_l (P : Pl u0 p n L) {a : Nat} (ha : a < n) : ∀ d c f (x : St), c + d = n → d < f → f_I_beginFlow_11_it p f (nI a) (nI c) x = some (opF x (fun b => decide (u0 1 b = nI a)) c n) := by
  have h24 := P.lt
  intro d
  induction d with
  | zero =>
    intro c f x hc hf
    have : c = n := by omega
    subst this
    obtain ⟨f, rfl⟩ : ∃ f', f = f' + 1 := ⟨f - 1, by omega⟩
    show f_I_beginFlow_11 _ p (nI a) (nI c) x = _
    unfold f_I_beginFlow_11
    rw [P.2.1, if_pos (nI_le (Nat.le_refl _) (by omega)), opF_end]
  | succ d ih =>
    intro c f x hc hf
    obtain ⟨f, rfl⟩ : ∃ f', f = f' + 1 := ⟨f - 1, by omega⟩
    show f_I_beginFlow_11 _ p (nI a) (nI c) x = _
    unfold f_I_beginFlow_11 f_I_beginFlow_42
    rw [P.2.1, if_neg (nI_ge (show c < n by omega) (by omega)), sp_ald24 (by omega), Option.bind_some, P.2.2.1.1, nI_1]
    by_cases w : u0 1 c = nI a
    · rw [if_pos w, sp_ast (by omega) (by decide), Option.bind_some, ih (c + 1) f _ (by omega) (by omega), opF_up (by omega) (decide_eq_true w)]
    · rw [if_neg w, ih (c + 1) f _ (by omega) (by omega), opF_skip (by rw [decide_eq_false w]; decide)]
theorem Iv.op (V : Iv u0 p i n L C) (G : Nat → Bool) (c m : Nat) : Iv u0 p (opF i G c m) n L C := by
  obtain ⟨v1, v2, ⟨E, v3⟩, v4⟩ := V
  exact ⟨by rw [opF_k (by decide)]; exact v1, v2.congr (opF_k (by decide)), ⟨E, v3.congr (opF_k (by decide)) (opF_k (by decide)) (opF_k (by decide))⟩, v4.cg4 (opF_k (by decide)) (fun b hb hq => by
    rw [opF_4] at hq
    split at hq
    · exact absurd hq (by decide)
    · exact v4.2 b hb hq)⟩
theorem Iv.sto (V : Iv u0 p i n L C) (a : Nat) (x y : Int32) : Iv u0 p (stoV p i a x y) n L C := by
  unfold stoV
  split
  · exact V.set 11 _ y (by decide) (by decide) (by decide) (by decide) (by decide) (by decide)
  · exact V.set 12 _ y (by decide) (by decide) (by decide) (by decide) (by decide) (by decide)
theorem sto_8 {a : Nat} {x y : Int32} : stoV p i a x y 8 = i 8 := by
  unfold stoV
  split <;> exact sp_up_k (by decide)
theorem inR (P : Pl u0 p n L) (S : Sim j u0 u i) (a : Nat) (r : Int32) : f_M_inRole u (nI a) r = some (oI (sp_fd (sp_in u0 (nI a) r) 0 n)) := by
  have hin : sp_in u (nI a) r = sp_in u0 (nI a) r := by
    unfold sp_in
    rw [S.pl (show 1 < 17 by decide), S.pl (show 2 < 17 by decide)]
  rw [sp_M_inRole (n := n) (by rw [S.pl (show 0 < 17 by decide)]; exact P.n0) P.lt, hin]
/-- the first part alone is opened -/
theorem open_first (P : Pl u0 p n L) (hj : j < 8) {x : St} (S : Sim j u0 u x) {a c : Nat} (ha : a < n) (hc : c < n) (k9 : ¬ u0 3 a = 9) : ∃ u', f_M_open_168_it 60 (nI a) (nI c) (nI c) u = some u' ∧ Sim j u0 u' (sr_up x 4 c 1) ∧ (∀ k, 33 ≤ k → u' k = u k) := by
  have h24 := P.lt
  obtain ⟨u', q1, q2, q3⟩ := M_open_l P hj ha hc (G := fun b => decide (b = c)) (fun b _ => by simp [k9]) (n - c) c 60 u x (by omega) (by omega) S
  have : opF x (fun b => decide (b = c)) c n = sr_up x 4 c 1 := by
    funext k b
    by_cases hk : k = 4
    · subst hk
      rw [opF_4, sp_up]
      by_cases w : b = c
      · subst w
        simp [hc]
      · simp [w]
    · rw [opF_k hk, sp_up_k hk]
  rw [this] at q2
  exact ⟨u', q1, q2, q3⟩
theorem begin_8 (P : Pl u0 p n L) (D : Dp u0 p n L) (hj : j < 8) (S : Sim j u0 u i) (V : Iv u0 p i n L C) (h34 : u 34 0 = 0) (h8 : i 8 0 = 0) {a : Nat} (ha : a < n) (k : u0 3 a = 8) : ∃ u' i', f_M_open (nI a) u = some u' ∧ ((sr_ast 24 i 4 (nI a) 2).bind fun i_45 => (f_P_firstChild p (nI a)).bind fun v_47 => (f_I_openOrComplete p v_47 (nI a) i_45).bind fun i_49 => some i_49) = some i' ∧ Sim j u0 u' i' ∧ Iv u0 p i' n L C ∧ Du p u' i' n 300 := by
  have h24 := P.lt
  obtain ⟨c, hc⟩ := D.2.1 a ha (by rw [k]; decide)
  obtain ⟨c1, c2, -⟩ := sp_child P ha hc
  obtain ⟨u1, e1, S1, g1⟩ := M_put S hj (show a < 24 by omega) 2
  obtain ⟨u2, e2, S2, g2⟩ := open_first P hj S1 ha c2 (by rw [k]; decide)
  refine ⟨u2, _, ?_, ?_, S2, (V.st a 2).st c 1, Or.inl ⟨by rw [g2 34 (by decide), g1 34 (by decide)]; exact h34, by rw [sp_up_k (by decide), sp_up_k (by decide)]; exact h8⟩⟩
  · unfold f_M_open f_M_open_55
    rw [S.pl (show 3 < 17 by decide), sp_ald24 (by omega), Option.bind_some, k, if_neg (by decide), e1, Option.bind_some, S1.pl (show 3 < 17 by decide), sp_ald24 (by omega), Option.bind_some, k, if_neg (by decide), inR P S1, Option.bind_some, hc, Option.bind_some, if_neg (by decide)]
    exact e2
  · unfold f_I_openOrComplete
    rw [sp_ast (by omega) (by decide), Option.bind_some, sp_P_firstChild P ha, Option.bind_some, hc, show oI (some c) = nI c from rfl, if_neg (nI_m1 (show c < 2 ^ 31 by omega)), sp_ast (show c < 24 by omega) (by decide), Option.bind_some, Option.bind_some]
theorem begin_9 (P : Pl u0 p n L) (D : Dp u0 p n L) (hj : j < 8) (S : Sim j u0 u i) (V : Iv u0 p i n L C) (h34 : u 34 0 = 0) (h8 : i 8 0 = 0) {a : Nat} (ha : a < n) (k : u0 3 a = 9) : ∃ u' i', f_M_open (nI a) u = some u' ∧ f_I_beginFlow p (nI a) i = some i' ∧ Sim j u0 u' i' ∧ Iv u0 p i' n L C ∧ Du p u' i' n 300 := by
  have h24 := P.lt
  obtain ⟨c, hc⟩ := D.2.1 a ha (by rw [k]; decide)
  obtain ⟨c1, c2, c3, c4⟩ := sp_child P ha hc
  have hmin := (sp_fd_some.mp hc).2.2.2
  obtain ⟨u1, e1, S1, g1⟩ := M_put S hj (show a < 24 by omega) 2
  have role0 : ∀ b, b < n → u0 1 b = nI a → u0 2 b = 0 := by
    intro b hb w
    have hb0 := sp_pos P.1 hb (show a < 24 by omega) w
    obtain ⟨j', hj', e', -, er, -⟩ := P.1.par hb0 hb
    have : j' = a := by
      rw [e'] at w
      exact (nI_eq (by omega) (by omega)).mp w
    subst this
    apply Classical.byContradiction
    intro hr
    have := er hr
    rw [k] at this
    exact absurd this (by decide)
  obtain ⟨u2, e2, S2, g2⟩ := M_open_l P hj ha c2 (G := fun b => decide (u0 1 b = nI a)) (fun b hb => by
    by_cases w : b = c
    · subst w
      simp [c3]
    · by_cases w2 : u0 1 b = nI a
      · simp [k, w2, role0 b hb w2]
      · simp [w, w2]) (n - c) c 60 u1 _ (by omega) (by omega) S1
  have hsame : opF (sr_up i 4 a 2) (fun b => decide (u0 1 b = nI a)) c n = opF (sr_up i 4 a 2) (fun b => decide (u0 1 b = nI a)) (a + 1) n := by
    funext k' b
    by_cases hk : k' = 4
    · subst hk
      rw [opF_4, opF_4]
      by_cases w : b < n ∧ u0 1 b = nI a
      · have hcb : c ≤ b := by
          apply Classical.byContradiction
          intro q
          have := hmin b (Nat.zero_le _) (by omega)
          unfold sp_in at this
          rw [decide_eq_true (sp_pos P.1 w.1 (show a < 24 by omega) w.2), decide_eq_true w.2, decide_eq_true (role0 b w.1 w.2)] at this
          cases this
        simp [w.1, w.2, hcb, show a + 1 ≤ b by omega]
      · by_cases w1 : b < n
        · have w2 : ¬ u0 1 b = nI a := fun q => w ⟨w1, q⟩
          simp [w2]
        · simp [w1]
    · rw [opF_k hk, opF_k hk]
  rw [hsame] at S2
  refine ⟨u2, _, ?_, ?_, S2, (V.st a 2).op _ _ _, Or.inl ⟨by rw [g2 34 (by decide), g1 34 (by decide)]; exact h34, by rw [opF_k (by decide), sp_up_k (by decide)]; exact h8⟩⟩
  · unfold f_M_open f_M_open_55
    rw [S.pl (show 3 < 17 by decide), sp_ald24 (by omega), Option.bind_some, k, if_neg (by decide), e1, Option.bind_some, S1.pl (show 3 < 17 by decide), sp_ald24 (by omega), Option.bind_some, k, if_neg (by decide), inR P S1, Option.bind_some, hc, Option.bind_some, if_neg (by decide)]
    exact e2
  · unfold f_I_beginFlow
    rw [sp_ast (by omega) (by decide), Option.bind_some, nI_1, C_flow_l P ha (n - (a + 1)) (a + 1) 60 _ (by omega) (by omega)]
theorem see_st {a b : Nat} {v x : Int32} : seeV p (sr_up i 4 b v) a x = seeV p i a x := by
  unfold seeV
  rw [sp_up_k (by decide), sp_up_k (by decide)]
theorem begin_10 (P : Pl u0 p n L) (D : Dp u0 p n L) (hj : j < 8) (S : Sim j u0 u i) (V : Iv u0 p i n L C) (hC : C < 2 ^ 30) (h34 : u 34 0 = 0) (h8 : i 8 0 = 0) {a : Nat} (ha : a < n) (k : u0 3 a = 10) : ∃ u' i' C', C' ≤ C + 1 ∧ f_M_open (nI a) u = some u' ∧ f_I_beginIf p (nI a) i = some i' ∧ Sim j u0 u' i' ∧ Iv u0 p i' n L C' ∧ Du p u' i' n 300 := by
  have h24 := P.lt
  obtain ⟨c, hc⟩ := D.2.1 a ha (by rw [k]; decide)
  obtain ⟨c1, c2, c3, c4⟩ := sp_child P ha hc
  obtain ⟨u1, e1, S1, g1⟩ := M_put S hj (show a < 24 by omega) 2
  have V1 := V.st a 2
  have z34 : u1 34 0 = 0 := by rw [g1 34 (by decide)]; exact h34
  have z8 : (sr_up i 4 a 2) 8 0 = 0 := by rw [sp_up_k (by decide)]; exact h8
  have hv : inB (u0 4 a) 0 4 = true := by
    have := P.2.2.2.2.2.1 a ha
    rw [k] at this
    exact this
  obtain ⟨r1, -⟩ := see_ok S1 P hj (show 0 < a by
    rcases Nat.eq_zero_or_pos a with q | q
    · subst q
      rw [(P.1.2.2.1 ha).2.2.1] at k
      exact absurd k (by decide)
    · exact q) ha hv
  obtain ⟨-, r2⟩ := see_ok S P hj (show 0 < a by
    rcases Nat.eq_zero_or_pos a with q | q
    · subst q
      rw [(P.1.2.2.1 ha).2.2.1] at k
      exact absurd k (by decide)
    · exact q) ha hv
  rw [see_st] at r1
  obtain ⟨o, ho⟩ : ∃ o, sp_fd (sp_in u0 (nI a) 0) (c + 1) (n - (c + 1)) = o := ⟨_, rfl⟩
  have holt : ∀ d, o = some d → d < n := fun d hd => by
    rw [hd] at ho
    have := sp_fd_lt ho
    omega
  have hnx : f_M_nextInRole u1 (nI a) 0 (nI c) = some (oI o) := by
    have hin : sp_in u1 (nI a) 0 = sp_in u0 (nI a) 0 := by
      unfold sp_in
      rw [S1.pl (show 1 < 17 by decide), S1.pl (show 2 < 17 by decide)]
    rw [sp_M_next (n := n) (by rw [S1.pl (show 0 < 17 by decide)]; exact P.n0) h24 (nI a) 0 c2, hin, ho]
  -- skipping 'not', then opening 'chosen'
  have rest : ∀ (no ch : Option Nat), (∀ d, no = some d → d < n) → (∀ d, ch = some d → d < n) → ∃ u' i' C', C' ≤ C + 1 ∧ f_M_open_130 (nI a) (oI no) (oI ch) u1 = some u' ∧ f_I_beginIf_48 p (nI a) (oI ch) (oI no) i = some i' ∧ Sim j u0 u' i' ∧ Iv u0 p i' n L C' ∧ Du p u' i' n 300 := by
    intro no ch hno hch
    have fin : ∀ (u2 i2 : St) (C2 : Nat), C2 ≤ C + 1 → Sim j u0 u2 i2 → Iv u0 p i2 n L C2 → u2 34 0 = 0 → i2 8 0 = 0 → ∃ u' i' C', C' ≤ C + 1 ∧ f_M_open_143 (nI a) (oI ch) u2 = some u' ∧ f_I_beginIf_69 p (nI a) (oI ch) i2 = some i' ∧ Sim j u0 u' i' ∧ Iv u0 p i' n L C' ∧ Du p u' i' n 300 := by
      intro u2 i2 C2 hC2 S2 V2 w1 w2
      obtain ⟨u', i', f1, f2, S3, V3, D3⟩ := open_ok hj S2 V2 w1 w2 ha (mM_lt (p := p) P (Or.inl rfl) ha) h24 ch hch
      refine ⟨u', i', C2, hC2, ?_, ?_, S3, V3, D3⟩
      · unfold f_M_open_143
        by_cases q : oI ch < 0
        · rw [if_pos q] at f1 ⊢
          rw [f1, Option.bind_some]
        · rw [if_neg q] at f1 ⊢
          rw [f1, Option.bind_some]
      · unfold f_I_beginIf_69
        rw [f2, Option.bind_some]
    unfold f_M_open_130 f_I_beginIf_48
    rw [sp_ast (by omega) (by decide), Option.bind_some]
    cases no with
    | none =>
      rw [show oI none = -1 from rfl, if_pos (by decide), if_pos rfl]
      exact fin u1 _ C (by omega) S1 V1 z34 z8
    | some d =>
      have hd := hno d rfl
      rw [show oI (some d) = nI d from rfl, if_neg (nI_pos (show d < 2 ^ 31 by omega)), if_neg (nI_m1 (show d < 2 ^ 31 by omega))]
      obtain ⟨u2, i2, f1, f2, S2, V2, g2, w8⟩ := skip_ok P hj S1 V1 hC hd
      rw [f1, Option.bind_some, f2, Option.bind_some]
      exact fin u2 i2 (C + 1) (Nat.le_refl _) S2 V2 (by rw [g2 34 (by decide)]; exact z34) (by rw [w8]; exact z8)
  unfold f_M_open f_M_open_55 f_I_beginIf f_I_conditionHolds
  rw [S.pl (show 3 < 17 by decide), sp_ald24 (by omega), Option.bind_some, k, if_neg (by decide), e1, Option.bind_some, S1.pl (show 3 < 17 by decide), S1.pl (show 4 < 17 by decide), S1.pl (show 5 < 17 by decide), sp_ald24 (by omega), Option.bind_some, k, if_neg (by decide), inR P S1, Option.bind_some, hc, show oI (some c) = nI c from rfl, Option.bind_some, if_pos rfl, hnx, Option.bind_some, sp_ald24 (by omega), Option.bind_some, r1, Option.bind_some, sp_ald24 (by omega), Option.bind_some, sp_P_firstChild P ha, Option.bind_some, hc, show oI (some c) = nI c from rfl, sp_P_childAfter P ha c2, Option.bind_some, ho, P.2.2.1.2.2.2.1, P.2.2.1.2.2.2.2.1, sp_ald24 (by omega), Option.bind_some, r2, Option.bind_some, sp_ald24 (by omega), Option.bind_some]
  by_cases q : u0 5 a ≤ seeV p i a (u0 4 a)
  · rw [if_pos q, if_pos q, Option.bind_some]
    unfold f_M_open_106 f_M_open_118 f_I_beginIf_36
    simp only [if_true, eq_self]
    exact rest (some c) o (fun d hd => by cases hd; exact c2) holt
  · rw [if_neg q, if_neg q, Option.bind_some]
    unfold f_M_open_106 f_M_open_118 f_I_beginIf_36
    simp only [show ¬ ((1 : Int32) = 0) by decide, if_false]
    exact rest o (some c) holt (fun d hd => by cases hd; exact c2)
theorem begin_12 (P : Pl u0 p n L) (D : Dp u0 p n L) (hj : j < 8) (S : Sim j u0 u i) (V : Iv u0 p i n L C) (h34 : u 34 0 = 0) (h8 : i 8 0 = 0) {a : Nat} (ha : a < n) (k : u0 3 a = 12) : ∃ u' i', f_M_open (nI a) u = some u' ∧ f_I_beginScope p (nI a) i = some i' ∧ Sim j u0 u' i' ∧ Iv u0 p i' n L C ∧ Du p u' i' n 300 := by
  have h24 := P.lt
  obtain ⟨c, hc⟩ := D.2.1 a ha (by rw [k]; decide)
  obtain ⟨c1, c2, -⟩ := sp_child P ha hc
  obtain ⟨u1, e1, S1, g1⟩ := M_put S hj (show a < 24 by omega) 2
  have S2 := S1.up 12 a 0 (show a < 24 by omega)
  have V2 := (V.st a 2).set 12 a 0 (by decide) (by decide) (by decide) (by decide) (by decide) (by decide)
  obtain ⟨u3, i3, f1, f2, S3, V3, hk3, g3⟩ := clear_ok hj h24 S2 V2 ha
  obtain ⟨u4, e4, S4, g4⟩ := open_first P hj S3 ha c2 (by rw [k]; decide)
  refine ⟨u4, _, ?_, ?_, S4, V3.st c 1, Or.inl ⟨?_, ?_⟩⟩
  · unfold f_M_open f_M_open_55
    rw [S.pl (show 3 < 17 by decide), sp_ald24 (by omega), Option.bind_some, k, if_neg (by decide), e1, Option.bind_some, S1.pl (show 3 < 17 by decide), sp_ald24 (by omega), Option.bind_some, k, if_pos rfl, S1.2.1, sp_ix 24 24 j a rfl, sp_ast (by omega) (by decide), Option.bind_some]
    have f1' : f_M_carry (nI a) (-1) (sr_up u1 22 (24 * j + a) 0) = some u3 := f1
    rw [f1', Option.bind_some, inR P S3, Option.bind_some, S3.pl (show 3 < 17 by decide), sp_ald24 (by omega), Option.bind_some, hc, k, if_neg (by decide)]
    exact e4
  · unfold f_I_beginScope f_I_openOrComplete
    rw [sp_ast (by omega) (by decide), Option.bind_some, sp_ast (by omega) (by decide), Option.bind_some, f2, Option.bind_some, sp_P_firstChild P ha, Option.bind_some, hc, show oI (some c) = nI c from rfl, if_neg (nI_m1 (show c < 2 ^ 31 by omega)), sp_ast (show c < 24 by omega) (by decide), Option.bind_some, Option.bind_some]
  · have b1 : (34 : Nat) ≠ mk 12 := by decide
    rw [g4 34 (by decide), g3 34 (by decide), sp_up_k b1, g1 34 (by decide)]; exact h34
  · rw [sp_up_k (by decide), hk3 8 (by decide), sp_up_k (by decide), sp_up_k (by decide)]; exact h8
end
