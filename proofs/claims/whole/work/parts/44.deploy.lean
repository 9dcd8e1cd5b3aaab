/-! PURE 15: deploy: both sides answer alike, and what a deployed process keeps -/
theorem sp_fl_id {α : Type} {g : Nat → α → α} : ∀ {d i : Nat} {x : α}, (∀ k y, i ≤ k → k < i + d → g k y = y) → sp_fl g i d x = x := by
  intro d
  induction d with
  | zero => intro i x _; rfl
  | succ d ih =>
    intro i x h
    rw [sp_fl, h i x (Nat.le_refl _) (by omega)]
    exact ih (fun k y h1 h2 => h k y (by omega) (by omega))
theorem sp_cn_0 {u p : St} {n : Nat} (T : Tr u p n) {a : Nat} (h : sp_fd (sp_in u (nI a) 0) 0 n = none) : sp_cn u (nI a) n = 0 := by
  unfold sp_cn
  refine sp_fl_id (fun k y h1 h2 => ?_)
  have := sp_fd_none.mp h k (Nat.zero_le _) (by omega)
  unfold sp_in at this
  rw [decide_eq_true (show 0 < k by omega), Bool.true_and] at this
  rw [if_neg]
  rintro ⟨q1, q2⟩
  rw [decide_eq_true q1, decide_eq_true q2] at this
  cases this
/-- what a deployed process keeps -/
def Dp (u p : St) (n L : Nat) : Prop :=
  0 < n ∧ (∀ a, a < n → 8 ≤ u 3 a → ∃ c, sp_fd (sp_in u (nI a) 0) 0 n = some c) ∧ (∀ c, c < n → u 3 c = 12 → p 7 c = -1) ∧ (∀ c, c < n → (u 3 c = 4 ∨ u 3 c = 7) → p 7 c ≠ -1) ∧
  (∀ l, l < L → u 8 l ≠ 0) ∧ ∃ s, 0 < s ∧ s < n ∧ u 13 0 = nI s ∧ u 3 s = 5 ∧ f_P_findStart p = some (nI s)
theorem sp_k8 {k : Int32} (h : 8 ≤ k) (h2 : inB k 0 12 = true) : k = 8 ∨ k = 9 ∨ k = 10 ∨ k = 11 ∨ k = 12 := by
  rcases sp_kinds k with q | rfl | rfl | rfl | rfl | rfl | rfl | rfl | rfl | rfl | rfl | rfl | rfl | rfl
  · unfold inB at h2
    rw [Bool.and_eq_true] at h2
    have h3 := of_decide_eq_true h2.1
    have h4 := of_decide_eq_true h2.2
    rcases q with q | q
    · exact absurd q (Int32.not_lt.mpr h3)
    · exact absurd q (Int32.not_lt.mpr h4)
  all_goals first | (revert h; decide) | (left; rfl) | (right; left; rfl) | (right; right; left; rfl) | (right; right; right; left; rfl) | (right; right; right; right; rfl)
theorem sp_deploy {u p : St} {n L : Nat} (P : Pl u p n L) (hd : u 12 0 = 0) (b : Nat → Int64) : ∃ r u' b', f_M_deploy u = some (r, u') ∧ f_R_leastBroken p b = some (r, b') ∧ (∀ k, k ≠ 12 → k ≠ 13 → k ≠ 14 → k ≠ 15 → u' k = u k) ∧
    ((r = 0 ∧ u' 12 0 = 1 ∧ Dp u' p n L) ∨ (r ≠ 0 ∧ u' 12 0 = 0)) := by
  have h24 := P.lt
  have hL := P.2.2.2.1.2.1
  unfold f_M_deploy f_R_leastBroken
  rw [if_pos hd, (sp_rule1 P b).1, (sp_rule1 P b).2, Option.bind_some, Option.bind_some]
  cases h1 : (sp_all (fun i => mhB (u 3 i) (sp_cn u (nI i) n)) n && decide (0 < n)) with
  | false => exact ⟨1, u, b, rfl, rfl, fun _ _ _ _ _ => rfl, Or.inr ⟨by decide, hd⟩⟩
  | true =>
  rw [Bool.and_eq_true] at h1
  have hn : 0 < n := of_decide_eq_true h1.2
  have m1 := sp_all_i.mp h1.1
  rw [if_neg (by decide), if_neg (by decide), (sp_rule2 P b).1, (sp_rule2 P b).2, Option.bind_some, Option.bind_some]
  cases h2 : sp_all (r2B u p) n with
  | false => exact ⟨2, u, b, rfl, rfl, fun _ _ _ _ _ => rfl, Or.inr ⟨by decide, hd⟩⟩
  | true =>
  have m2 : ∀ c, c < n → u 3 c = 12 → p 7 c = -1 := fun c hc => of_decide_eq_true (sp_all_i.mp h2 c hc)
  rw [if_neg (by decide), if_neg (by decide), (sp_rule3 P b).1, (sp_rule3 P b).2, Option.bind_some, Option.bind_some]
  cases h3 : sp_all (r3B u p) n with
  | false => exact ⟨3, u, b, rfl, rfl, fun _ _ _ _ _ => rfl, Or.inr ⟨by decide, hd⟩⟩
  | true =>
  have m3 : ∀ c, c < n → (u 3 c = 4 → p 7 c ≠ -1 ∧ u 2 (p 7 c).toNatClampNeg = 1) ∧ (u 3 c = 7 → p 7 c ≠ -1) := fun c hc => of_decide_eq_true (sp_all_i.mp h3 c hc)
  have r4 := sp_rule4 P b m2 (fun c hc => (m3 c hc).2)
  rw [if_neg (by decide), if_neg (by decide), r4.1, r4.2, Option.bind_some, Option.bind_some]
  cases h4 : sp_all (r4B u p n) n with
  | false => exact ⟨4, u, b, rfl, rfl, fun _ _ _ _ _ => rfl, Or.inr ⟨by decide, hd⟩⟩
  | true =>
  rw [if_neg (by decide), if_neg (by decide)]
  obtain ⟨G, g1, g2, g3⟩ := sp_links P b
  rw [g2, Option.bind_some]
  have hloop : f_M_deploy_47_it 60 0 u = bif sp_all G L then f_M_deploy_47 (f_M_deploy_47_it 0) (nI L) u else some (5, u) := by
    have hs := sp_search (fun f i => f_M_deploy_47_it f (nI i) u) (fun i => !G i) (fun _ => some (5, u)) (f_M_deploy_47 (f_M_deploy_47_it 0) (nI L) u) L (fun f i hi => by
      show f_M_deploy_47 _ (nI i) u = _
      unfold f_M_deploy_47
      rw [P.2.2.2.1.1, if_neg (nI_ge hi (by omega)), g1 i hi, Option.bind_some, nI_1]
      cases G i <;> rfl) (fun f => by
      show f_M_deploy_47 _ (nI L) u = _
      unfold f_M_deploy_47
      rw [P.2.2.2.1.1, if_pos (nI_le (Nat.le_refl _) (by omega)), if_pos (nI_le (Nat.le_refl _) (by omega))]) L 0 60 (by omega) (by omega)
    refine Eq.trans hs ?_
    unfold sp_all
    cases sp_fd (fun i => !G i) 0 L <;> rfl
  rw [hloop]
  cases h5 : sp_all G L with
  | false => exact ⟨5, u, b, rfl, rfl, fun _ _ _ _ _ => rfl, Or.inr ⟨by decide, hd⟩⟩
  | true =>
  rw [cond_true, if_neg (by decide)]
  unfold f_M_deploy_47
  rw [P.2.2.2.1.1, if_pos (nI_le (Nat.le_refl _) (by omega))]
  obtain ⟨z, v', b', e1, e2, e3⟩ := sp_rule6_eq P b
  rw [e1, e3]
  show ∃ r u' b'', (if bI z = 0 then some ((6 : Int32), v') else _) = _ ∧ (if bI z = 0 then some ((6 : Int32), b') else _) = _ ∧ _
  cases z with
  | false => exact ⟨6, v', b', rfl, rfl, fun k _ _ h14 h15 => e2 k h14 h15, Or.inr ⟨by decide, by rw [e2 12 (by decide) (by decide)]; exact hd⟩⟩
  | true =>
  rw [if_neg (by decide), if_neg (by decide)]
  have Pv : Pl v' p n L := Pl_congr P (fun k hk => e2 k (by omega) (by omega))
  have hch : ∀ a, a < n → 8 ≤ u 3 a → ∃ c, sp_fd (sp_in u (nI a) 0) 0 n = some c := by
    intro a ha hk
    cases hs : sp_fd (sp_in u (nI a) 0) 0 n with
    | some c => exact ⟨c, rfl⟩
    | none =>
      exfalso
      have hc0 := sp_cn_0 P.1 hs
      have := m1 a ha
      rw [hc0] at this
      rcases sp_k8 hk (sp_fit_kind (P.2.2.2.2.2.1 a ha)) with q | q | q | q | q <;> rw [q] at this <;> revert this <;> decide
  have hin : ∀ a r, sp_in v' a r = sp_in u a r := by
    intro a r
    unfold sp_in
    rw [e2 1 (by decide) (by decide), e2 2 (by decide) (by decide)]
  have hCv : hasC v' n := by
    intro a ha hk
    rw [hin]
    rw [e2 3 (by decide) (by decide)] at hk
    exact hch a ha (by rcases hk with q | q <;> rw [q] <;> decide)
  obtain ⟨s, s1, s2, s3, s4, s5⟩ := sp_start Pv hCv hn
  rw [s4, s5 b', Option.bind_some]
  show ∃ r u' b'', (if bI _ = 0 then some ((7 : Int32), sr_up v' 13 0 (nI s)) else _) = _ ∧ _ ∧ _
  cases h7 : (fr7 v' p L 0 s && decide (v' 3 s = 5)) with
  | false => exact ⟨7, _, b', rfl, rfl, fun k _ h13 h14 h15 => by rw [sp_up_k h13]; exact e2 k h14 h15, Or.inr ⟨by decide, by rw [sp_up_k (by decide), e2 12 (by decide) (by decide)]; exact hd⟩⟩
  | true =>
  rw [Bool.and_eq_true] at h7
  rw [if_neg (by decide), if_neg (by decide)]
  have k5 := of_decide_eq_true h7.2
  rw [e2 3 (by decide) (by decide)] at k5
  have hu : ∀ k, k ≠ 12 → k ≠ 13 → k ≠ 14 → k ≠ 15 → (sr_up (sr_up v' 13 0 (nI s)) 12 0 1) k = u k := by
    intro k h12 h13 h14 h15
    rw [sp_up_k h12, sp_up_k h13]
    exact e2 k h14 h15
  refine ⟨0, sr_up (sr_up v' 13 0 (nI s)) 12 0 1, b', rfl, rfl, hu, Or.inl ⟨rfl, sp_up_s, hn, ?_, ?_, ?_, ?_, s, s1, s2, ?_, ?_, s3⟩⟩
  · intro a ha hk
    have : sp_in (sr_up (sr_up v' 13 0 (nI s)) 12 0 1) (nI a) 0 = sp_in u (nI a) 0 := by
      unfold sp_in
      rw [hu 1 (by decide) (by decide) (by decide) (by decide), hu 2 (by decide) (by decide) (by decide) (by decide)]
    rw [this]
    rw [hu 3 (by decide) (by decide) (by decide) (by decide)] at hk
    exact hch a ha hk
  · rw [hu 3 (by decide) (by decide) (by decide) (by decide)]; exact m2
  · rw [hu 3 (by decide) (by decide) (by decide) (by decide)]
    intro c hc hk
    rcases hk with q | q
    · exact ((m3 c hc).1 q).1
    · exact (m3 c hc).2 q
  · rw [hu 8 (by decide) (by decide) (by decide) (by decide)]
    intro l hl h0
    obtain ⟨⟨s', hs', es⟩, ⟨t', ht', et⟩, -⟩ := P.2.2.2.2.2.2 l hl
    obtain ⟨q1, -, q3, -⟩ := g3 l hl (sp_all_i.mp h5 l hl) s' t' es et hs' ht'
    rw [es] at h0
    have : s' = 0 := (nI_eq (by omega) (by omega)).mp h0
    subst this
    unfold wi at q3
    have q1' : t' ≠ 0 := fun h => q1 h.symm
    rw [P.1.root t' ht', decide_eq_true q1'] at q3
    cases q3
  · rw [sp_up_k (by decide), sp_up_s]
  · rw [hu 3 (by decide) (by decide) (by decide) (by decide)]; exact k5
