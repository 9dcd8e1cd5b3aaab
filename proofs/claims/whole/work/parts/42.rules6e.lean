/-! PURE 13: rule 6: both sides say the same -/
def cntN (P : Nat → Bool) : Nat → Nat
  | 0 => 0
  | N + 1 => cntN P N + (bif P N then 1 else 0)
theorem cntN_le {P Q : Nat → Bool} : ∀ {N : Nat}, (∀ k, k < N → P k = true → Q k = true) → cntN P N ≤ cntN Q N := by
  intro N
  induction N with
  | zero => intro _; exact Nat.le_refl _
  | succ N ih =>
    intro h
    unfold cntN
    have h1 := ih (fun k hk => h k (by omega))
    cases hp : P N with
    | false =>
      simp only [cond_false]
      omega
    | true =>
      rw [h N (by omega) hp]
      simp only [cond_true]
      omega
theorem cntN_lt {P Q : Nat → Bool} : ∀ {N x : Nat}, (∀ k, k < N → P k = true → Q k = true) → x < N → P x = false → Q x = true → cntN P N < cntN Q N := by
  intro N
  induction N with
  | zero => intro x _ h; omega
  | succ N ih =>
    intro x h hx hp hq
    unfold cntN
    by_cases hxN : x = N
    · subst hxN
      have h1 := cntN_le (P := P) (Q := Q) (N := x) (fun k hk => h k (by omega))
      rw [hp, hq]
      simp only [cond_true, cond_false]
      omega
    · have h1 := ih (fun k hk => h k (by omega)) (show x < N by omega) hp hq
      cases hpN : P N with
      | false =>
        simp only [cond_false]
        omega
      | true =>
        rw [h N (by omega) hpN]
        simp only [cond_true]
        omega
theorem cntN_all (N : Nat) : cntN (fun _ => true) N = N := by
  induction N with
  | zero => rfl
  | succ N ih => unfold cntN; rw [ih]; rfl
theorem lf_empty {E : Nat → Nat → Prop} {N : Nat} (r : Nat → Nat) (h : ∀ x y, E x y → x < N → y < N → r x < r y) : ∀ y, ¬ lf E N N y := by
  have key : ∀ t y, lf E N t y → t ≤ cntN (fun z => decide (r z < r y)) N := by
    intro t
    induction t with
    | zero => intro y _; exact Nat.zero_le _
    | succ t ih =>
      rintro y ⟨h1, z, h2, h3⟩
      have h4 := ih z h3
      have h5 := h z y h2 (lf_lt h3) (lf_lt h1)
      have h6 : cntN (fun k => decide (r k < r z)) N < cntN (fun k => decide (r k < r y)) N := cntN_lt (x := z) (fun k _ hk => by
        have := of_decide_eq_true hk
        exact decide_eq_true (by omega)) (lf_lt h3) (decide_eq_false (by omega)) (decide_eq_true h5)
      omega
  intro y hy
  have h1 := key N y hy
  have h2 : cntN (fun z => decide (r z < r y)) N < cntN (fun _ => true) N := cntN_lt (x := y) (fun _ _ _ => rfl) (lf_lt hy) (decide_eq_false (by omega)) rfl
  rw [cntN_all] at h2
  omega
def tau (m : Nat) : Nat := if m < 24 then 2 * m else 2 * (m - 24) + 1
def sig (c : Nat) : Nat := if c % 2 = 0 then c / 2 else 24 + c / 2
theorem tau_b {a : Nat} (h : a < 24) : tau a = 2 * a := by unfold tau; rw [if_pos h]
theorem tau_e (a : Nat) : tau (24 + a) = 2 * a + 1 := by unfold tau; rw [if_neg (by omega)]; omega
theorem sig_b (a : Nat) : sig (2 * a) = a := by unfold sig; rw [if_pos (by omega)]; omega
theorem sig_e (a : Nat) : sig (2 * a + 1) = 24 + a := by unfold sig; rw [if_neg (by omega)]; omega
theorem tau_sig {c : Nat} (h : c < 48) : tau (sig c) = c := by
  unfold tau sig
  by_cases h1 : c % 2 = 0
  · rw [if_pos h1, if_pos (by omega)]; omega
  · rw [if_neg h1, if_neg (by omega)]; omega
theorem sig_tau {m : Nat} (h : m < 48) : sig (tau m) = m := by
  unfold tau sig
  by_cases h1 : m < 24
  · rw [if_pos h1, if_pos (by omega)]; omega
  · rw [if_neg h1, if_neg (by omega)]; omega
/-- the parts of a sequence are plain -/
theorem sp_role0 {u p : St} {n : Nat} (T : Tr u p n) {k j : Nat} (h0 : 0 < k) (hk : k < n) (hj : j < 24) (e : u 1 k = nI j) (h8 : u 3 j = 8) : u 2 k = 0 := by
  have h24 := T.lt
  obtain ⟨j', hj', e', -, er, -⟩ := T.par h0 hk
  have : j' = j := by
    rw [e'] at e
    exact (nI_eq (by omega) (by omega)).mp e
  subst this
  apply Classical.byContradiction
  intro hr
  have := er hr
  rw [h8] at this
  revert this
  decide
theorem sp_pos {u p : St} {n : Nat} (T : Tr u p n) {k j : Nat} (hk : k < n) (hj : j < 24) (e : u 1 k = nI j) : 0 < k := by
  rcases Nat.eq_zero_or_pos k with h | h
  · subst h
    rw [(T.2.2.1 hk).1] at e
    exact absurd e.symm (nI_m1 (by omega))
  · exact h
theorem eE_eK {u p : St} {n L : Nat} (P : Pl u p n L) {x y : Nat} (h : eE u n L x y) : eK u n L (tau x) (tau y) ∧ tau x < 2 * n ∧ tau y < 2 * n := by
  have h24 := P.lt
  rcases h with ⟨a, ha, ⟨rfl, rfl⟩ | ⟨h0, j, hj, e1, h⟩⟩ | ⟨l, hl, s, t, hs, ht, es, et, rfl, rfl⟩
  · rw [tau_b (by omega), tau_e]
    exact ⟨Or.inl ⟨x, ha, Or.inr ⟨rfl, Or.inl rfl⟩⟩, by omega, by omega⟩
  · obtain ⟨j', hj', e', -⟩ := P.1.par h0 ha
    have : j' = j := by
      rw [e'] at e1
      exact (nI_eq (by omega) (by omega)).mp e1
    subst this
    rcases h with ⟨rfl, rfl⟩ | ⟨rfl, rfl⟩ | ⟨h8, s, hs, rfl, rfl⟩
    · rw [tau_b (by omega), tau_b (by omega)]
      exact ⟨Or.inl ⟨y, ha, Or.inl ⟨rfl, h0, x, hj', e1, Or.inl rfl⟩⟩, by omega, by omega⟩
    · rw [tau_e, tau_e]
      exact ⟨Or.inl ⟨j', by omega, Or.inr ⟨rfl, Or.inr ⟨a, h0, ha, e1, rfl⟩⟩⟩, by omega, by omega⟩
    · obtain ⟨q1, q2, q3, q4⟩ := sp_fd_some.mp hs
      have hyn : y < n := by omega
      rw [tau_e, tau_b (by omega)]
      unfold sp_in at q3
      rw [Bool.and_eq_true, Bool.and_eq_true] at q3
      refine ⟨Or.inl ⟨y, hyn, Or.inl ⟨rfl, by omega, j', by omega, of_decide_eq_true q3.2.1, Or.inr ⟨h8, a, sp_lst_some.mpr ⟨by omega, decide_eq_true e1, fun k h1 h2 => ?_⟩, rfl⟩⟩⟩, by omega, by omega⟩
      have q5 := q4 k (by omega) h2
      unfold sp_pv
      apply decide_eq_false
      intro ek
      have r0 := sp_role0 P.1 (show 0 < k by omega) (by omega) hj ek h8
      unfold sp_in at q5
      rw [decide_eq_true (show 0 < k by omega), decide_eq_true ek, decide_eq_true r0] at q5
      cases q5
  · obtain ⟨⟨s', hs', es'⟩, ⟨t', ht', et'⟩, -⟩ := P.2.2.2.2.2.2 l hl
    have w1 : s' = s := by
      rw [es'] at es
      exact (nI_eq (by omega) (by omega)).mp es
    have w2 : t' = y := by
      rw [et'] at et
      exact (nI_eq (by omega) (by omega)).mp et
    subst w1
    subst w2
    rw [tau_e, tau_b (by omega)]
    exact ⟨Or.inr ⟨l, s', t', hl, hs', ht', es', et', rfl, rfl⟩, by omega, by omega⟩
theorem eK_eE {u p : St} {n L : Nat} (P : Pl u p n L) {x y : Nat} (h : eK u n L x y) : eE u n L (sig x) (sig y) ∧ x < 2 * n ∧ y < 2 * n := by
  have h24 := P.lt
  rcases h with ⟨c, hc, ⟨rfl, h0, j, hj, e1, rfl | ⟨h8, e, he, rfl⟩⟩ | ⟨rfl, rfl | ⟨a, h0, ha, e1, rfl⟩⟩⟩ | ⟨l, s, t, hl, hs, ht, es, et, rfl, rfl⟩
  · rw [sig_b, sig_b]
    exact ⟨Or.inl ⟨c, hc, Or.inr ⟨h0, j, by omega, e1, Or.inl ⟨rfl, rfl⟩⟩⟩, by omega, by omega⟩
  · rw [sig_e, sig_b]
    obtain ⟨q1, q2, q3⟩ := sp_lst_some.mp he
    have e2 : u 1 e = nI j := of_decide_eq_true q2
    have e0 := sp_pos P.1 (show e < n by omega) (by omega) e2
    refine ⟨Or.inl ⟨e, by omega, Or.inr ⟨e0, j, by omega, e2, Or.inr (Or.inr ⟨h8, c, sp_fd_some.mpr ⟨by omega, by omega, ?_, fun k h1 h2 => ?_⟩, rfl, rfl⟩)⟩⟩, by omega, by omega⟩
    · unfold sp_in
      rw [decide_eq_true h0, decide_eq_true e1, decide_eq_true (sp_role0 P.1 h0 hc (by omega) e1 h8)]
      rfl
    · have q5 := q3 k (by omega) h2
      unfold sp_pv at q5
      unfold sp_in
      rw [q5]
      simp
  · rw [sig_b, sig_e]
    exact ⟨Or.inl ⟨c, hc, Or.inl ⟨rfl, rfl⟩⟩, by omega, by omega⟩
  · rw [sig_e, sig_e]
    exact ⟨Or.inl ⟨a, ha, Or.inr ⟨h0, c, by omega, e1, Or.inr (Or.inl ⟨rfl, rfl⟩)⟩⟩, by omega, by omega⟩
  · rw [sig_e, sig_b]
    exact ⟨Or.inr ⟨l, hl, s, t, by omega, by omega, es, et, rfl, rfl⟩, by omega, by omega⟩
theorem lf_last {E : Nat → Nat → Prop} {N : Nat} (hN : ∀ y, ¬ lf E N N y) {y : Nat} (hy : y < N) : ∃ t, lf E N t y ∧ ¬ lf E N (t + 1) y := by
  obtain ⟨k, h1, h2⟩ := pk_least (fun k => ¬ lf E N (k + 1) y) ⟨N, fun h => hN y h.1⟩
  refine ⟨k, ?_, h1⟩
  rcases Nat.eq_zero_or_pos k with h | h
  · subst h; exact hy
  · have := h2 (k - 1) (by omega)
    rw [show k - 1 + 1 = k by omega] at this
    exact Classical.not_not.mp this
theorem lf_uniq {E : Nat → Nat → Prop} {N t s y : Nat} (h1 : lf E N t y) (h2 : ¬ lf E N (t + 1) y) (h3 : lf E N s y) (h4 : ¬ lf E N (s + 1) y) : t = s := by
  rcases Nat.lt_trichotomy t s with h | h | h
  · obtain ⟨d, hd⟩ : ∃ d, s = (t + 1) + d := ⟨s - (t + 1), by omega⟩
    exact absurd (lf_mono (d := d) (hd ▸ h3)) h2
  · exact h
  · obtain ⟨d, hd⟩ : ∃ d, t = (s + 1) + d := ⟨t - (s + 1), by omega⟩
    exact absurd (lf_mono (d := d) (hd ▸ h1)) h4
theorem sp_rule6_eq {u p : St} {n L : Nat} (P : Pl u p n L) (b0 : Nat → Int64) : ∃ z v' b', f_M_rule6 u = some (bI z, v') ∧ (∀ k, k ≠ 14 → k ≠ 15 → v' k = u k) ∧ f_R_orderIsRight p b0 = some (bI z, b') := by
  have h24 := P.lt
  obtain ⟨z1, v', e1, hv, h1, h2⟩ := sp_rule6 P
  obtain ⟨z2, b', e2, h3⟩ := sp_order P b0
  have : z1 = z2 := by
    rw [Bool.eq_iff_iff]
    constructor
    · intro hz
      obtain ⟨r, hr⟩ := h1 hz
      exact h3.mpr (lf_empty (fun c => r (sig c)) (fun x y hxy _ _ => hr _ _ (eK_eE P hxy).1))
    · intro hz
      have hN := h3.mp hz
      have hex : ∀ m, ∃ t, (tau m < 2 * n → lf (eK u n L) (2 * n) t (tau m) ∧ ¬ lf (eK u n L) (2 * n) (t + 1) (tau m)) ∧ (¬ tau m < 2 * n → t = 0) := by
        intro m
        by_cases hm : tau m < 2 * n
        · obtain ⟨t, q1, q2⟩ := lf_last hN hm
          exact ⟨t, fun _ => ⟨q1, q2⟩, fun q => absurd hm q⟩
        · exact ⟨0, fun q => absurd q hm, fun _ => rfl⟩
      obtain ⟨dd, hdd⟩ : ∃ dd : Nat → Nat, ∀ m, (tau m < 2 * n → lf (eK u n L) (2 * n) (dd m) (tau m) ∧ ¬ lf (eK u n L) (2 * n) (dd m + 1) (tau m)) ∧ (¬ tau m < 2 * n → dd m = 0) := ⟨fun m => Classical.choose (hex m), fun m => Classical.choose_spec (hex m)⟩
      refine h2 dd ⟨fun x y hxy => ?_, fun y hy => ?_, fun y => ?_⟩
      · obtain ⟨hk, hx, hy⟩ := eE_eK P hxy
        obtain ⟨q1, q2⟩ := (hdd x).1 hx
        obtain ⟨q3, q4⟩ := (hdd y).1 hy
        apply Classical.byContradiction
        intro hn
        apply q4
        obtain ⟨d, hd⟩ : ∃ d, dd x = dd y + d := ⟨dd x - dd y, by omega⟩
        exact ⟨q3, tau x, hk, lf_mono (d := d) (hd ▸ q1)⟩
      · by_cases hm : tau y < 2 * n
        · obtain ⟨q1, q2⟩ := (hdd y).1 hm
          cases ht : dd y with
          | zero => exact Or.inl rfl
          | succ t =>
            right
            rw [ht] at q1 q2
            obtain ⟨q3, zz, q4, q5⟩ := q1
            have hz2 := lf_lt q5
            have q6 : ¬ lf (eK u n L) (2 * n) (t + 1) zz := fun q => q2 ⟨⟨q3, zz, q4, q5⟩, zz, q4, q⟩
            have hts := tau_sig (show zz < 48 by omega)
            refine ⟨sig zz, ?_, ?_⟩
            · have := (eK_eE P q4).1
              rwa [sig_tau hy] at this
            · obtain ⟨q7, q8⟩ := (hdd (sig zz)).1 (by rw [hts]; exact hz2)
              rw [hts] at q7 q8
              rw [lf_uniq q7 q8 q5 q6]
        · exact Or.inl ((hdd y).2 hm)
      · by_cases hm : tau y < 2 * n
        · obtain ⟨q1, q2⟩ := (hdd y).1 hm
          apply Classical.byContradiction
          intro hn
          obtain ⟨d, hd⟩ : ∃ d, dd y = 2 * n + d := ⟨dd y - 2 * n, by omega⟩
          exact hN _ (lf_mono (d := d) (hd ▸ q1))
        · rw [(hdd y).2 hm]; omega
  subst this
  exact ⟨z1, v', b', e1, hv, e2⟩
