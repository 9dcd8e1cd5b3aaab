/-! PURE 14: rule 7 and the start -/
theorem Pl_congr {u v p : St} {n L : Nat} (P : Pl u p n L) (h : ∀ k, k < 12 → v k = u k) : Pl v p n L := by
  unfold Pl Tr at P ⊢
  rw [h 0 (by decide), h 1 (by decide), h 2 (by decide), h 3 (by decide), h 4 (by decide), h 5 (by decide), h 6 (by decide), h 7 (by decide), h 8 (by decide), h 9 (by decide), h 10 (by decide), h 11 (by decide)]
  exact P
def tgB (u : St) (L : Nat) (x : Int32) : Bool := (sp_fd (fun l => decide (u 9 l = x)) 0 L).isSome
theorem sp_targeted {u p : St} {n L : Nat} (P : Pl u p n L) (x : Int32) : f_M_targeted u x = some (bI (tgB u L x)) ∧ f_P_isTarget p x = some (bI (tgB u L x)) := by
  have hL := P.2.2.2.1.2.1
  constructor
  · unfold f_M_targeted
    refine Eq.trans (sp_search (fun f i => f_M_targeted_2_it u f x (nI i)) (fun l => decide (u 9 l = x)) (fun _ => some 1) (some 0) L (fun f i hi => by
      show f_M_targeted_2 _ u x (nI i) = _
      unfold f_M_targeted_2
      rw [P.2.2.2.1.1, if_neg (nI_ge hi (by omega)), sp_ald16 (by omega), Option.bind_some, nI_1]
      by_cases h : u 9 i = x <;> simp [h]) (fun f => by
      show f_M_targeted_2 _ u x (nI L) = _
      unfold f_M_targeted_2
      rw [P.2.2.2.1.1, if_pos (nI_le (Nat.le_refl _) (by omega))]) L 0 60 (by omega) (by omega)) ?_
    unfold tgB
    cases sp_fd (fun l => decide (u 9 l = x)) 0 L <;> rfl
  · unfold f_P_isTarget
    refine Eq.trans (sp_search (fun f i => f_P_isTarget_2_it p f x (nI i)) (fun l => decide (u 9 l = x)) (fun _ => some 1) (some 0) L (fun f i hi => by
      show f_P_isTarget_2 _ p x (nI i) = _
      unfold f_P_isTarget_2
      rw [P.2.2.2.1.2.2, if_neg (nI_ge hi (by omega)), sp_ald16 (by omega), Option.bind_some, nI_1, P.2.2.2.2.1.2.1]
      by_cases h : u 9 i = x <;> simp [h]) (fun f => by
      show f_P_isTarget_2 _ p x (nI L) = _
      unfold f_P_isTarget_2
      rw [P.2.2.2.1.2.2, if_pos (nI_le (Nat.le_refl _) (by omega))]) L 0 60 (by omega) (by omega)) ?_
    unfold tgB
    cases sp_fd (fun l => decide (u 9 l = x)) 0 L <;> rfl
theorem Tr.lin {u p : St} {n : Nat} (T : Tr u p n) {c c' : Nat} (hc : c < n) (hc' : c' < n) (hlt : c' < c) : ∀ s, s < n → bt (p 9 c) s = true → bt (p 9 c') s = true → bt (p 9 c') c = true := by
  intro s
  induction s using Nat.strongRecOn with
  | _ s ih =>
    intro hs h1 h2
    have hle := T.le hc s h1
    by_cases hsc : s = c
    · subst hsc; exact h2
    · obtain ⟨j, hj, -, -, -, -, -, -, hw⟩ := T.par (show 0 < s by omega) hs
      rw [hw c hc, decide_eq_false hsc, Bool.false_or] at h1
      rw [hw c' hc', decide_eq_false (show ¬ s = c' by omega), Bool.false_or] at h2
      exact ih j hj (by omega) h1 h2
/-- none of those above s (s too) with a number above a is a target -/
def fr7 (u p : St) (L a s : Nat) : Bool := sp_all (fun c => !(decide (a < c) && (bt (p 9 c) s && tgB u L (nI c)))) (s + 1)
theorem fr7_i {u p : St} {L a s : Nat} : fr7 u p L a s = true ↔ ∀ c, a < c → c ≤ s → bt (p 9 c) s = true → tgB u L (nI c) = false := by
  unfold fr7
  rw [sp_all_i]
  constructor
  · intro h c h1 h2 h3
    have := h c (by omega)
    simpa [h1, h3] using this
  · intro h c hc
    by_cases h1 : a < c
    · cases h3 : bt (p 9 c) s with
      | false => simp
      | true => simp [h c h1 (by omega) h3]
    · simp [h1]
/-- every sequence and every scope has a first part -/
def hasC (u : St) (n : Nat) : Prop := ∀ a, a < n → (u 3 a = 8 ∨ u 3 a = 12) → ∃ c, sp_fd (sp_in u (nI a) 0) 0 n = some c
theorem sp_child {u p : St} {n L : Nat} (P : Pl u p n L) {a c : Nat} (ha : a < n) (h : sp_fd (sp_in u (nI a) 0) 0 n = some c) : a < c ∧ c < n ∧ u 1 c = nI a ∧ u 2 c = 0 := by
  obtain ⟨q1, q2, q3, q4⟩ := sp_fd_some.mp h
  have h1 : a < c := by
    apply Classical.byContradiction
    intro hn
    rw [sp_in_lo P.1 ha (show c ≤ a by omega)] at q3
    cases q3
  unfold sp_in at q3
  rw [Bool.and_eq_true, Bool.and_eq_true] at q3
  exact ⟨h1, by omega, of_decide_eq_true q3.2.1, of_decide_eq_true q3.2.2⟩
theorem fr7_step {u p : St} {n L : Nat} (P : Pl u p n L) {a c s : Nat} (ha : a < n) (hc : c < n) (hac : a < c) (e : u 1 c = nI a) (hs : s < n) (hcs : bt (p 9 c) s = true) : fr7 u p L a s = (!tgB u L (nI c) && fr7 u p L c s) := by
  have h24 := P.lt
  have hcs' := P.1.le hc s hcs
  rw [Bool.eq_iff_iff, Bool.and_eq_true, fr7_i, fr7_i]
  constructor
  · intro h
    exact ⟨by simp [h c hac hcs'.1 hcs], fun c' h1 h2 h3 => h c' (by omega) h2 h3⟩
  · rintro ⟨h1, h2⟩ c' h3 h4 h5
    rcases Nat.lt_trichotomy c' c with q | q | q
    · exfalso
      have h6 := P.1.lin hc (show c' < n by omega) q s hs hcs h5
      obtain ⟨j, hj, e', -, -, -, -, -, hw⟩ := P.1.par (show 0 < c by omega) hc
      have : j = a := by
        rw [e'] at e
        exact (nI_eq (by omega) (by omega)).mp e
      subst this
      rw [hw c' (by omega), decide_eq_false (show ¬ c = c' by omega), Bool.false_or] at h6
      have := P.1.le (show c' < n by omega) j h6
      omega
    · subst q
      simpa using h1
    · exact h2 c' q h4 h5
theorem sp_chain {u p : St} {n L : Nat} (P : Pl u p n L) (hC : hasC u n) : ∀ m a, n - a = m → 0 < a → a < n → ∃ s, a ≤ s ∧ s < n ∧ u 3 s ≠ 8 ∧ bt (p 9 a) s = true ∧
    (∀ k f fr, k < a → n - a < f → f_M_rule7_23_it f (nI a) (bI fr) (nI k) u = f_M_rule7_71 (nI s) (bI (fr && fr7 u p L a s)) u) ∧ (∀ k f, k < a → n - a < f → f_P_findStart_8_it p f (nI a) (nI k) = some (nI s)) := by
  have h24 := P.lt
  intro m
  induction m using Nat.strongRecOn with
  | _ m ih =>
    intro a hm h0 ha
    by_cases k8 : u 3 a = 8
    · obtain ⟨c, hfc⟩ := hC a ha (Or.inl k8)
      obtain ⟨c1, c2, c3, -⟩ := sp_child P ha hfc
      obtain ⟨s, s1, s2, s3, s4, s5, s6⟩ := ih (n - c) (by omega) c rfl (by omega) c2
      have hsa : bt (p 9 a) s = true := by
        have key : ∀ x, x < n → bt (p 9 c) x = true → bt (p 9 a) x = true := by
          intro x
          induction x using Nat.strongRecOn with
          | _ x ihx =>
            intro hx hcx
            have hle := P.1.le c2 x hcx
            obtain ⟨j, hj, e', -, -, -, -, -, hw⟩ := P.1.par (show 0 < x by omega) hx
            by_cases hxc : x = c
            · subst hxc
              have : j = a := by
                rw [e'] at c3
                exact (nI_eq (by omega) (by omega)).mp c3
              subst this
              rw [hw j ha, P.1.self ha, Bool.or_true]
            · rw [hw c c2, decide_eq_false hxc, Bool.false_or] at hcx
              rw [hw a ha, ihx j hj (by omega) hcx, Bool.or_true]
        exact key s s2 s4
      refine ⟨s, by omega, s2, s3, hsa, fun k f fr hk hf => ?_, fun k f hk hf => ?_⟩
      · obtain ⟨f, rfl⟩ : ∃ f', f = f' + 1 := ⟨f - 1, by omega⟩
        show f_M_rule7_23 _ (nI a) (bI fr) (nI k) u = _
        unfold f_M_rule7_23 f_M_rule7_63 f_M_rule7_64
        rw [if_neg (show ¬ (24 : Int32) ≤ nI k from nI_ge (b := 24) (by omega) (by omega)), sp_ald24 (by omega), Option.bind_some, if_pos k8, sp_M_inRole P.n0 h24, Option.bind_some, hfc, show oI (some c) = nI c from rfl, (sp_targeted P (nI c)).1, Option.bind_some, nI_1, fr7_step P ha c2 c1 c3 s2 s4]
        have r := s5 (k + 1) f
        cases fr with
        | false =>
          rw [if_pos (by decide)]
          exact r false (by omega) (by omega)
        | true =>
          rw [if_neg (by decide)]
          cases ht : tgB u L (nI c) with
          | false =>
            rw [if_pos (by decide)]
            exact r true (by omega) (by omega)
          | true =>
            rw [if_neg (by decide)]
            exact r false (by omega) (by omega)
      · obtain ⟨f, rfl⟩ : ∃ f', f = f' + 1 := ⟨f - 1, by omega⟩
        show f_P_findStart_8 _ p (nI a) (nI k) = _
        unfold f_P_findStart_8
        rw [P.2.1, if_neg (nI_ge (show k < n by omega) (by omega)), if_neg (nI_m1 (by omega)), sp_ald24 (by omega), Option.bind_some, P.2.2.1.2.2.1, if_pos k8, sp_P_firstChild P ha, Option.bind_some, hfc, show oI (some c) = nI c from rfl, nI_1]
        exact s6 (k + 1) f (by omega) (by omega)
    · refine ⟨a, Nat.le_refl _, ha, k8, P.1.self ha, fun k f fr hk hf => ?_, fun k f hk hf => ?_⟩
      · obtain ⟨f, rfl⟩ : ∃ f', f = f' + 1 := ⟨f - 1, by omega⟩
        show f_M_rule7_23 _ (nI a) (bI fr) (nI k) u = _
        unfold f_M_rule7_23
        rw [if_neg (show ¬ (24 : Int32) ≤ nI k from nI_ge (b := 24) (by omega) (by omega)), sp_ald24 (by omega), Option.bind_some, if_neg k8, fr7_i.mpr (fun c h1 h2 _ => by omega), Bool.and_true]
      · obtain ⟨f, rfl⟩ : ∃ f', f = f' + 1 := ⟨f - 1, by omega⟩
        show f_P_findStart_8 _ p (nI a) (nI k) = _
        unfold f_P_findStart_8
        rw [P.2.1, if_neg (nI_ge (show k < n by omega) (by omega)), if_neg (nI_m1 (by omega)), sp_ald24 (by omega), Option.bind_some, P.2.2.1.2.2.1, if_neg k8]
theorem sp_start {u p : St} {n L : Nat} (P : Pl u p n L) (hC : hasC u n) (hn : 0 < n) : ∃ s, 0 < s ∧ s < n ∧ f_P_findStart p = some (nI s) ∧ f_M_rule7 u = some (bI (fr7 u p L 0 s && decide (u 3 s = 5)), sr_up u 13 0 (nI s)) ∧ ∀ b, f_R_startIsRight p b = some (bI (fr7 u p L 0 s && decide (u 3 s = 5))) := by
  have h24 := P.lt
  obtain ⟨c, hfc⟩ := hC 0 hn (Or.inr (P.1.2.2.1 hn).2.2.1)
  obtain ⟨c1, c2, c3, -⟩ := sp_child P hn hfc
  obtain ⟨s, s1, s2, s3, s4, s5, s6⟩ := sp_chain P hC (n - c) c rfl c1 c2
  have hfs : f_P_findStart p = some (nI s) := by
    unfold f_P_findStart
    rw [show (0 : Int32) = nI 0 from rfl, sp_P_firstChild P hn, Option.bind_some, hfc, show oI (some c) = nI c from rfl]
    exact s6 0 60 c1 (by omega)
  refine ⟨s, by omega, s2, hfs, ?_, fun b => ?_⟩
  · unfold f_M_rule7 f_M_rule7_20
    rw [show f_M_inRole u 0 0 = f_M_inRole u (nI 0) 0 from rfl, sp_M_inRole P.n0 h24, Option.bind_some, hfc, show oI (some c) = nI c from rfl, (sp_targeted P (nI c)).1, Option.bind_some, fr7_step P hn c2 c1 c3 s2 s4]
    have fin : ∀ z : Bool, f_M_rule7_71 (nI s) (bI z) u = some (bI (z && decide (u 3 s = 5)), sr_up u 13 0 (nI s)) := by
      intro z
      unfold f_M_rule7_71 sr_pf
      rw [Option.bind_some, sp_up_k (by decide), sp_ald24 (by omega), Option.bind_some]
      cases z with
      | false => rfl
      | true => by_cases k5 : u 3 s = 5 <;> simp [k5, bI]
    cases ht : tgB u L (nI c) with
    | false =>
      rw [if_pos (by decide)]
      exact Eq.trans (s5 0 60 true c1 (by omega)) (fin _)
    | true =>
      rw [if_neg (by decide)]
      exact Eq.trans (s5 0 60 false c1 (by omega)) (fin _)
  · unfold f_R_startIsRight
    rw [hfs, Option.bind_some, if_neg (nI_m1 (by omega)), sp_ald24 (by omega), Option.bind_some, P.2.2.1.2.2.1]
    by_cases k5 : u 3 s = 5
    · rw [if_pos k5, decide_eq_true k5, Bool.and_true]
      refine Eq.trans (sp_search (fun f x => f_R_startIsRight_30_it p b f (nI s) (nI x)) (fun x => bt (p 9 x) s && tgB u L (nI x)) (fun _ => some 0) (some 1) (s + 1) (fun f x hx => by
        show f_R_startIsRight_30 _ p b (nI s) (nI x) = _
        unfold f_R_startIsRight_30 f_R_startIsRight_64
        rw [if_neg (nI_nlt (by omega) (by omega)), sp_ald24 (by omega), Option.bind_some, sp_isIn (by omega), Option.bind_some, (sp_targeted P (nI x)).2, Option.bind_some, nI_1]
        cases bt (p 9 x) s <;> cases tgB u L (nI x) <;> rfl) (fun f => by
        show f_R_startIsRight_30 _ p b (nI s) (nI (s + 1)) = _
        unfold f_R_startIsRight_30
        rw [if_pos (nI_lt (by omega) (by omega))]) s 1 60 (by omega) (by omega)) ?_
      cases hs : sp_fd (fun x => bt (p 9 x) s && tgB u L (nI x)) 1 s with
      | some x =>
        obtain ⟨q1, q2, q3, -⟩ := sp_fd_some.mp hs
        rw [Bool.and_eq_true] at q3
        have : fr7 u p L 0 s = false := by
          cases h : fr7 u p L 0 s with
          | false => rfl
          | true =>
            have := fr7_i.mp h x (by omega) (by omega) q3.1
            rw [q3.2] at this
            cases this
        rw [this]
        rfl
      | none =>
        have hnn := sp_fd_none.mp hs
        have : fr7 u p L 0 s = true := fr7_i.mpr (fun x h1 h2 h3 => by
          have := hnn x (by omega) (by omega)
          rw [h3, Bool.true_and] at this
          exact this)
        rw [this]
        rfl
    · rw [if_neg k5, decide_eq_false k5, Bool.and_false]
      rfl
