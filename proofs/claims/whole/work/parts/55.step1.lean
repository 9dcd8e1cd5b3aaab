/-! PURE 26: who can step; joins; who waits -/
theorem cntN_succ {P : Nat → Bool} {N : Nat} : cntN P (N + 1) = cntN P N + (bif P N then 1 else 0) := rfl
theorem cntN_0 {P : Nat → Bool} : ∀ {N : Nat}, cntN P N = 0 ↔ ∀ k, k < N → P k = false := by
  intro N
  induction N with
  | zero => exact ⟨fun _ k h => (by omega), fun _ => rfl⟩
  | succ N ih =>
    unfold cntN
    cases hp : P N with
    | true =>
      simp only [cond_true]
      refine ⟨fun h => (by omega), fun h => ?_⟩
      have := h N (by omega)
      rw [hp] at this
      cases this
    | false =>
      simp only [cond_false, Nat.add_zero]
      rw [ih]
      refine ⟨fun h k hk => ?_, fun h k hk => h k (by omega)⟩
      by_cases q : k = N
      · rw [q]; exact hp
      · exact h k (by omega)
theorem cntN_le' {P : Nat → Bool} : ∀ {N : Nat}, cntN P N ≤ N := by
  intro N
  induction N with
  | zero => exact Nat.le_refl _
  | succ N ih =>
    unfold cntN
    cases P N <;> simp only [cond_true, cond_false] <;> omega
section
variable {j : Nat} {u0 u i p : St} {n L C : Nat}
def toB (u0 : St) (a l : Nat) : Bool := decide (u0 9 l = nI a)
theorem C_countTo (P : Pl u0 p n L) (a : Nat) (v : Int32) : f_L_countTo p i (nI a) v = some (nI (cntN (fun l => toB u0 a l && decide (i 13 l = v)) L)) := by
  have hL := P.2.2.2.1.2.1
  unfold f_L_countTo
  have hl := sp_loop (fun f l (x : Int32) => f_L_countTo_5_it p i f (nI a) v x (nI l)) some (fun l x => bif toB u0 a l && decide (i 13 l = v) then x + 1 else x) (fun l x => x = nI (cntN (fun l => toB u0 a l && decide (i 13 l = v)) l)) L (fun f l x hl I => by
    refine ⟨?_, ?_⟩
    · show f_L_countTo_5 _ p i (nI a) v x (nI l) = _
      unfold f_L_countTo_5 f_L_countTo_45 toB
      rw [P.2.2.2.1.2.2, if_neg (nI_ge hl (by omega)), sp_ald16 (by omega), Option.bind_some, sp_ald16 (by omega), Option.bind_some, P.2.2.2.2.1.2.1, nI_1]
      by_cases h1 : u0 9 l = nI a <;> by_cases h2 : i 13 l = v <;> simp [h1, h2]
    · rw [I, cntN_succ]
      cases toB u0 a l && decide (i 13 l = v)
      · rfl
      · exact nI_1 _) (fun f x _ => by
    show f_L_countTo_5 _ p i (nI a) v x (nI L) = _
    unfold f_L_countTo_5
    rw [P.2.2.2.1.2.2, if_pos (nI_le (Nat.le_refl _) (by omega))]) L 0 60 0 (by omega) (by omega) rfl
  refine Eq.trans hl.1 ?_
  rw [hl.2]
/-- all links to a are set -/
def setB (u0 i : St) (L a : Nat) : Bool := sp_all (fun l => !(toB u0 a l && decide (i 13 l = 0))) L
theorem setB_i {a : Nat} : setB u0 i L a = true ↔ ∀ l, l < L → u0 9 l = nI a → ¬ i 13 l = 0 := by
  unfold setB toB
  rw [sp_all_i]
  constructor
  · intro h l hl h1 h2
    have := h l hl
    simp [h1, h2] at this
  · intro h l hl
    by_cases h1 : u0 9 l = nI a
    · simp [h1, h l hl h1]
    · simp [h1]
theorem setB_c {a : Nat} : cntN (fun l => toB u0 a l && decide (i 13 l = 0)) L = 0 ↔ setB u0 i L a = true := by
  rw [cntN_0, setB_i]
  unfold toB
  constructor
  · intro h l hl h1 h2
    have := h l hl
    simp [h1, h2] at this
  · intro h l hl
    by_cases h1 : u0 9 l = nI a
    · simp [h1, h l hl h1]
    · simp [h1]
/-- can a step -/
def csB (u0 i : St) (L a : Nat) : Bool := if i 4 a = 1 then setB u0 i L a else if i 4 a = 4 then true else if i 4 a = 6 ∨ i 4 a = 7 then decide (i 7 a = 0) else false
theorem C_canStep (P : Pl u0 p n L) {a : Nat} (ha : a < n) : f_I_canStep p i (nI a) = some (bI (csB u0 i L a)) := by
  have h24 := P.lt
  have hL := P.2.2.2.1.2.1
  unfold f_I_canStep f_I_canStep_59 f_L_areSetTo csB
  rw [sp_ald24 (by omega), Option.bind_some, Option.bind_some, C_countTo P a 0, Option.bind_some, sp_ald24 (by omega), Option.bind_some]
  have hc := setB_c (u0 := u0) (i := i) (L := L) (a := a)
  have hle := cntN_le' (P := fun l => toB u0 a l && decide (i 13 l = 0)) (N := L)
  generalize hcc : cntN (fun l => toB u0 a l && decide (i 13 l = 0)) L = c at hc hle
  have hz : nI c = 0 ↔ setB u0 i L a = true := by
    rw [← hc, ← nI_0, nI_eq (by omega) (by omega)]
  by_cases h1 : i 4 a = 1
  · rw [if_pos h1, if_pos h1]
    cases hs : setB u0 i L a with
    | true => rw [if_pos (hz.mpr hs)]; rfl
    | false => rw [if_neg (fun q => by rw [hz.mp q] at hs; cases hs)]; rfl
  · rw [if_neg h1, if_neg h1]
    by_cases h4 : i 4 a = 4
    · simp [h4, bI]
    · by_cases h6 : i 4 a = 6
      · by_cases hb : i 7 a = 0 <;> simp [h6, hb, bI]
      · by_cases h7 : i 4 a = 7
        · by_cases hb : i 7 a = 0 <;> simp [h7, hb, bI]
        · simp [h4, h6, h7, bI]
theorem M_canStep (P : Pl u0 p n L) (hj : j < 8) (S : Sim j u0 u i) {a : Nat} (ha : a < n) : f_M_canStep u (nI a) = some (bI (csB u0 i L a)) := by
  have h24 := P.lt
  have hL := P.2.2.2.1.2.1
  unfold f_M_canStep f_M_canStep_85 f_M_canStep_102 csB
  have hb7 : u 25 (24 * j + a) = i 7 a := S.at 7 a (show a < 24 by omega)
  rw [M_st S hj (by omega), S.2.1, sp_ix 24 24 j a rfl, sp_ald (by omega) (by decide), hb7]
  simp only [Option.bind_some]
  by_cases h1 : i 4 a = 1
  · rw [if_pos h1, if_pos h1]
    refine Eq.trans (sp_search (fun f l => f_M_canStep_11_it u f (nI a) (nI l)) (fun l => toB u0 a l && decide (i 13 l = 0)) (fun _ => some 0) (some 1) L (fun f l hl => by
      show f_M_canStep_11 _ u (nI a) (nI l) = _
      unfold f_M_canStep_11 f_M_canStep_48 toB
      have hv : u 26 (16 * j + l) = i 13 l := S.at 13 l (show l < 16 by omega)
      rw [S.pl (show 7 < 17 by decide), S.pl (show 9 < 17 by decide), P.2.2.2.1.1, if_neg (nI_ge hl (by omega)), sp_ald16 (by omega), Option.bind_some, S.2.1, sp_ix 16 16 j l rfl, sp_ald (by omega) (by decide), Option.bind_some, hv, nI_1]
      by_cases q1 : u0 9 l = nI a <;> by_cases q2 : i 13 l = 0 <;> simp [q1, q2]) (fun f => by
      show f_M_canStep_11 _ u (nI a) (nI L) = _
      unfold f_M_canStep_11
      rw [S.pl (show 7 < 17 by decide), P.2.2.2.1.1, if_pos (nI_le (Nat.le_refl _) (by omega))]) L 0 60 (by omega) (by omega)) ?_
    have e : (fun l => !!(toB u0 a l && decide (i 13 l = 0))) = (fun l => toB u0 a l && decide (i 13 l = 0)) := by
      funext l
      rw [Bool.not_not]
    unfold setB sp_all
    rw [e]
    cases sp_fd (fun l => toB u0 a l && decide (i 13 l = 0)) 0 L <;> rfl
  · rw [if_neg h1, if_neg h1]
    by_cases h4 : i 4 a = 4
    · simp [h4, bI]
    · by_cases h6 : i 4 a = 6
      · by_cases hb : i 7 a = 0 <;> simp [h6, hb, bI]
      · by_cases h7 : i 4 a = 7
        · by_cases hb : i 7 a = 0 <;> simp [h7, hb, bI]
        · simp [h4, h6, h7, bI]
theorem stepper_ok (P : Pl u0 p n L) (hj : j < 8) (S : Sim j u0 u i) : f_M_stepper u = some (oI (sp_fd (csB u0 i L) 0 n)) := by
  have h24 := P.lt
  unfold f_M_stepper
  refine Eq.trans (sp_search (fun f a => f_M_stepper_2_it u f (nI a)) (csB u0 i L) (fun a => some (nI a)) (some (-1)) n (fun f a ha => by
    show f_M_stepper_2 _ u (nI a) = _
    unfold f_M_stepper_2
    rw [S.pl (show 0 < 17 by decide), P.n0, if_neg (nI_ge ha (by omega)), M_canStep P hj S ha, Option.bind_some, nI_1]
    cases csB u0 i L a <;> rfl) (fun f => by
    show f_M_stepper_2 _ u (nI n) = _
    unfold f_M_stepper_2
    rw [S.pl (show 0 < 17 by decide), P.n0, if_pos (nI_le (Nat.le_refl _) (by omega))]) n 0 60 (by omega) (by omega)) ?_
  cases sp_fd (csB u0 i L) 0 n <;> rfl
theorem next_ok (P : Pl u0 p n L) (hn : 0 < n) : f_I_nextToStep p i = some (if i 3 0 = 0 then oI (sp_fd (csB u0 i L) 0 n) else -1) := by
  have h24 := P.lt
  unfold f_I_nextToStep
  by_cases h3 : i 3 0 = 0
  · rw [if_pos h3]
    refine Eq.trans (sp_search (fun f a => f_I_nextToStep_2_it p i f (nI a)) (csB u0 i L) (fun a => some (nI a)) (some (-1)) n (fun f a ha => by
      show f_I_nextToStep_2 _ p i (nI a) = _
      unfold f_I_nextToStep_2
      rw [P.2.1, if_neg (nI_ge ha (by omega)), if_pos h3, C_canStep P ha, Option.bind_some, nI_1]
      cases csB u0 i L a <;> rfl) (fun f => by
      show f_I_nextToStep_2 _ p i (nI n) = _
      unfold f_I_nextToStep_2
      rw [P.2.1, if_pos (nI_le (Nat.le_refl _) (by omega))]) n 0 60 (by omega) (by omega)) ?_
    cases sp_fd (csB u0 i L) 0 n <;> rfl
  · rw [if_neg h3]
    show f_I_nextToStep_2 _ p i 0 = _
    unfold f_I_nextToStep_2
    rw [P.2.1, show (0 : Int32) = nI 0 from rfl, if_neg (nI_ge hn (by omega)), show nI 0 = (0 : Int32) from rfl, if_neg h3]
/-- modes are 0 to 3 -/
def mOk (u0 : St) (n : Nat) : Prop := ∀ a, a < n → u0 6 a = 0 ∨ u0 6 a = 1 ∨ u0 6 a = 2 ∨ u0 6 a = 3
def jnB (u0 i : St) (L a : Nat) : Bool := !tgB u0 L (nI a) || (if u0 6 a = 1 ∨ u0 6 a = 3 then decide (cntN (fun l => toB u0 a l && decide (i 13 l = 2)) L = 0) else !decide (cntN (fun l => toB u0 a l && decide (i 13 l = 1)) L = 0))
theorem tgB_c {a : Nat} : cntN (toB u0 a) L = 0 ↔ tgB u0 L (nI a) = false := by
  rw [cntN_0]
  unfold tgB toB
  constructor
  · intro h
    rw [sp_fd_none.mpr (fun k _ hk => h k (by omega))]
    rfl
  · intro h
    have h1 : sp_fd (fun l => decide (u0 9 l = nI a)) 0 L = none := by
      cases hs : sp_fd (fun l => decide (u0 9 l = nI a)) 0 L with
      | none => rfl
      | some x => rw [hs] at h; cases h
    intro k hk
    exact sp_fd_none.mp h1 k (Nat.zero_le _) (by omega)
theorem C_joined (P : Pl u0 p n L) (M : mOk u0 n) {a : Nat} (ha : a < n) : f_L_joinHoldsAt p i (nI a) = some (bI (jnB u0 i L a)) := by
  have h24 := P.lt
  have hL := P.2.2.2.1.2.1
  unfold f_L_joinHoldsAt f_L_joinHoldsAt_26 f_L_joinHoldsAt_31 f_L_joinHoldsAt_68 jnB
  rw [sp_ald24 (by omega), (sp_targeted P (nI a)).2, C_countTo P a 1, C_countTo P a 2, P.2.2.1.2.2.2.2.2]
  simp only [Option.bind_some]
  have l1 := cntN_le' (P := fun l => toB u0 a l && decide (i 13 l = 1)) (N := L)
  have l2 := cntN_le' (P := fun l => toB u0 a l && decide (i 13 l = 2)) (N := L)
  generalize cntN (fun l => toB u0 a l && decide (i 13 l = 1)) L = c1 at l1
  generalize cntN (fun l => toB u0 a l && decide (i 13 l = 2)) L = c2 at l2
  have z1 : nI c1 ≤ 0 ↔ c1 = 0 := by
    rw [← nI_0, nI_leI (by omega) (by omega)]
    omega
  have z2 : nI c2 = 0 ↔ c2 = 0 := by rw [← nI_0, nI_eq (by omega) (by omega)]
  simp only [z1, z2]
  cases tgB u0 L (nI a) <;> rcases M a ha with h | h | h | h <;> by_cases q1 : c1 = 0 <;> by_cases q2 : c2 = 0 <;> simp [h, q1, q2, bI]
theorem M_joined (P : Pl u0 p n L) (hj : j < 8) (S : Sim j u0 u i) (M : mOk u0 n) (V : lOk i L) {a : Nat} (ha : a < n) (hset : setB u0 i L a = true) : f_M_joined u (nI a) = some (bI (jnB u0 i L a)) := by
  have h24 := P.lt
  have hL := P.2.2.2.1.2.1
  unfold f_M_joined
  have hl := sp_loop (fun f l (x : Int32 × Int32) => f_M_joined_7_it u f (nI a) x.1 x.2 (nI l)) (fun x => if x.1 = 0 then f_M_joined_91 u else (sr_ald 24 (u0 6) (nI a)).bind fun v_3 => if (v_3 - v_3 / 2 * 2) = 1 then (if x.2 = x.1 then f_M_joined_91 u else some 0) else if x.2 ≤ 0 then some 0 else f_M_joined_91 u) (fun l x => bif toB u0 a l then (x.1 + 1, bif decide (i 13 l = 1) then x.2 + 1 else x.2) else x) (fun l x => x.1 = nI (cntN (toB u0 a) l) ∧ x.2 = nI (cntN (fun l => toB u0 a l && decide (i 13 l = 1)) l)) L (fun f l x hl I => by
    refine ⟨?_, ?_, ?_⟩
    · show f_M_joined_7 _ u (nI a) x.1 x.2 (nI l) = _
      unfold f_M_joined_7 f_M_joined_55 f_M_joined_57 toB
      have hv : u 26 (16 * j + l) = i 13 l := S.at 13 l (show l < 16 by omega)
      rw [S.pl (show 7 < 17 by decide), S.pl (show 9 < 17 by decide), P.2.2.2.1.1, if_neg (nI_ge hl (by omega)), sp_ald16 (by omega), Option.bind_some, S.2.1, sp_ix 16 16 j l rfl, sp_ald (by omega) (by decide), Option.bind_some, hv, nI_1]
      by_cases q1 : u0 9 l = nI a <;> by_cases q2 : i 13 l = 1 <;> simp [q1, q2]
    · rw [cntN_succ]
      cases toB u0 a l
      · exact I.1
      · show x.1 + 1 = _
        rw [I.1]
        exact nI_1 _
    · rw [cntN_succ]
      cases toB u0 a l
      · exact I.2
      · cases decide (i 13 l = 1)
        · exact I.2
        · show x.2 + 1 = _
          rw [I.2]
          exact nI_1 _) (fun f x _ => by
    show f_M_joined_7 _ u (nI a) x.1 x.2 (nI L) = _
    unfold f_M_joined_7
    rw [S.pl (show 7 < 17 by decide), S.pl (show 6 < 17 by decide), P.2.2.2.1.1, if_pos (nI_le (Nat.le_refl _) (by omega))]) L 0 60 (0, 0) (by omega) (by omega) ⟨rfl, rfl⟩
  refine Eq.trans hl.1 ?_
  rw [hl.2.1, hl.2.2, sp_ald24 (by omega), Option.bind_some]
  unfold f_M_joined_91 jnB
  have t0 := tgB_c (u0 := u0) (L := L) (a := a)
  have l1 := cntN_le' (P := toB u0 a) (N := L)
  have l2 := cntN_le' (P := fun l => toB u0 a l && decide (i 13 l = 1)) (N := L)
  have he : cntN (fun l => toB u0 a l && decide (i 13 l = 1)) L = cntN (toB u0 a) L ↔ cntN (fun l => toB u0 a l && decide (i 13 l = 2)) L = 0 := by
    rw [cntN_0]
    constructor
    · intro h l hl
      cases ht : toB u0 a l with
      | false => rfl
      | true =>
        by_cases q : i 13 l = 2
        · exfalso
          have : cntN (fun l => toB u0 a l && decide (i 13 l = 1)) L < cntN (toB u0 a) L := cntN_lt (x := l) (fun k _ hk => by
            rw [Bool.and_eq_true] at hk
            exact hk.1) hl (by rw [q]; simp) ht
          omega
        · simp [q]
    · intro h
      have e : ∀ k, k < L → (toB u0 a k && decide (i 13 k = 1)) = toB u0 a k := by
        intro k hk
        cases ht : toB u0 a k with
        | false => rfl
        | true =>
          have h2 := h k hk
          rw [ht, Bool.true_and] at h2
          have h2' := of_decide_eq_false h2
          have h0 := setB_i.mp hset k hk (of_decide_eq_true ht)
          rcases V k hk with w | w | w
          · exact absurd w h0
          · rw [w]; rfl
          · exact absurd w h2'
      apply Nat.le_antisymm
      · exact cntN_le (fun k hk q => by rw [e k hk] at q; exact q)
      · exact cntN_le (fun k hk q => by rw [e k hk]; exact q)
  generalize cntN (toB u0 a) L = ca at t0 l1 he
  generalize cntN (fun l => toB u0 a l && decide (i 13 l = 1)) L = c1 at l2 he
  generalize cntN (fun l => toB u0 a l && decide (i 13 l = 2)) L = c2 at he
  have z0 : nI ca = 0 ↔ ca = 0 := by rw [← nI_0, nI_eq (by omega) (by omega)]
  have z1 : nI c1 ≤ 0 ↔ c1 = 0 := by
    rw [← nI_0, nI_leI (by omega) (by omega)]
    omega
  have z2 : nI c1 = nI ca ↔ c2 = 0 := by rw [nI_eq (by omega) (by omega), he]
  simp only [z0, z1, z2]
  have d0 : (0 : Int32) - 0 / 2 * 2 = 0 := by decide
  have d1 : (1 : Int32) - 1 / 2 * 2 = 1 := by decide
  have d2 : (2 : Int32) - 2 / 2 * 2 = 0 := by decide
  have d3 : (3 : Int32) - 3 / 2 * 2 = 1 := by decide
  by_cases q0 : ca = 0
  · rw [if_pos q0, t0.mp q0]
    rfl
  · have : tgB u0 L (nI a) = true := by
      cases h : tgB u0 L (nI a) with
      | true => rfl
      | false => exact absurd (t0.mpr h) q0
    rw [if_neg q0, this]
    rcases M a ha with h | h | h | h <;> by_cases q1 : c1 = 0 <;> by_cases q2 : c2 = 0 <;> simp [h, d0, d1, d2, d3, q1, q2, bI]
/-- the receive that waits for an operation -/
def wtB (u0 i : St) (o : Int32) (a : Nat) : Bool := decide (u0 3 a = 5) && (decide (u0 4 a = o) && decide (i 4 a = 3))
theorem waiting_ok (P : Pl u0 p n L) (hj : j < 8) (S : Sim j u0 u i) (o : Int32) : f_M_waiting u o = some (oI (sp_fd (wtB u0 i o) 0 n)) ∧ f_I_waitingReceive p i o = some (oI (sp_fd (wtB u0 i o) 0 n)) := by
  have h24 := P.lt
  constructor
  · unfold f_M_waiting
    refine Eq.trans (sp_search (fun f a => f_M_waiting_2_it u f o (nI a)) (wtB u0 i o) (fun a => some (nI a)) (some (-1)) n (fun f a ha => by
      show f_M_waiting_2 _ u o (nI a) = _
      unfold f_M_waiting_2 f_M_waiting_41 wtB
      rw [S.pl (show 0 < 17 by decide), S.pl (show 3 < 17 by decide), S.pl (show 4 < 17 by decide), P.n0, if_neg (nI_ge ha (by omega)), M_st S hj (by omega), sp_ald24 (by omega), sp_ald24 (by omega), nI_1]
      simp only [Option.bind_some]
      by_cases q1 : u0 3 a = 5 <;> by_cases q2 : u0 4 a = o <;> by_cases q3 : i 4 a = 3 <;> simp [q1, q2, q3]) (fun f => by
      show f_M_waiting_2 _ u o (nI n) = _
      unfold f_M_waiting_2
      rw [S.pl (show 0 < 17 by decide), P.n0, if_pos (nI_le (Nat.le_refl _) (by omega))]) n 0 60 (by omega) (by omega)) ?_
    cases sp_fd (wtB u0 i o) 0 n <;> rfl
  · unfold f_I_waitingReceive
    refine Eq.trans (sp_search (fun f a => f_I_waitingReceive_2_it p i f o (nI a)) (wtB u0 i o) (fun a => some (nI a)) (some (-1)) n (fun f a ha => by
      show f_I_waitingReceive_2 _ p i o (nI a) = _
      unfold f_I_waitingReceive_2 f_I_waitingReceive_51 wtB
      rw [P.2.1, if_neg (nI_ge ha (by omega)), sp_ald24 (by omega), sp_ald24 (by omega), sp_ald24 (by omega), P.2.2.1.2.2.1, P.2.2.1.2.2.2.1, nI_1]
      simp only [Option.bind_some]
      by_cases q1 : u0 3 a = 5 <;> by_cases q2 : u0 4 a = o <;> by_cases q3 : i 4 a = 3 <;> simp [q1, q2, q3]) (fun f => by
      show f_I_waitingReceive_2 _ p i o (nI n) = _
      unfold f_I_waitingReceive_2
      rw [P.2.1, if_pos (nI_le (Nat.le_refl _) (by omega))]) n 0 60 (by omega) (by omega)) ?_
    cases sp_fd (wtB u0 i o) 0 n <;> rfl
/-- an activity is skipped, what lies in it too -/
theorem skip_ok (P : Pl u0 p n L) (hj : j < 8) (S : Sim j u0 u i) (V : Iv u0 p i n L C) (hC : C < 2 ^ 30) {a : Nat} (ha : a < n) : ∃ u' i', f_M_skip (nI a) u = some u' ∧ f_I_skip p (nI a) i = some i' ∧ Sim j u0 u' i' ∧ Iv u0 p i' n L (C + 1) ∧ (∀ k, 33 ≤ k → u' k = u k) ∧ i' 8 = i 8 := by
  have h24 := P.lt
  have hL := P.2.2.2.1.2.1
  obtain ⟨u1, u2, i2, e1, e2, e3, S2, V2, -, hk2, g2⟩ := become_ok S hj V hC (show a < 24 by omega) 9 3
  obtain ⟨u3, l1, S3, g3⟩ := M_setLinks P hj ha true L 0 60 u2 i2 (by omega) (by omega) S2
  have l1' : f_M_setLinks (nI a) 1 u2 = some u3 := l1
  have hcl : f_L_closeFrom p (p 9 a) i2 = some (lkF u0 i2 0 L (p 9 a) true) := C_close P L 0 60 _ (by omega) (by omega)
  refine ⟨u3, _, ?_, ?_, S3, V2.lk (p 9 a) true, fun k hk => by rw [g3 k hk, g2 k hk], by rw [lkF_k (by decide), hk2 8 (by decide) (by decide) (by decide)]⟩
  · unfold f_M_skip
    rw [e1, Option.bind_some, e2, Option.bind_some, l1', Option.bind_some]
  · unfold f_I_skip
    rw [e3, Option.bind_some, sp_ald24 (by omega), Option.bind_some, hcl, Option.bind_some]
end
