/-! PURE 16: an inst of the cls and its place in the reference's arrays -/
def mk (k : Nat) : Nat := match k with
  | 1 => 18 | 2 => 19 | 3 => 17 | 4 => 21 | 5 => 23 | 6 => 24 | 7 => 25 | 11 => 20 | 12 => 22 | 13 => 26 | 14 => 28 | 15 => 29 | 16 => 30 | 17 => 27 | 18 => 31 | 19 => 32 | _ => 0
def ln (k : Nat) : Nat := match k with
  | 1 => 1 | 2 => 1 | 3 => 1 | 4 => 24 | 5 => 24 | 6 => 24 | 7 => 24 | 11 => 4 | 12 => 24 | 13 => 16 | 14 => 16 | 15 => 16 | 16 => 16 | 17 => 1 | 18 => 32 | 19 => 1 | _ => 0
theorem ln_hi {k : Nat} (h : 20 ≤ k) : ln k = 0 := by
  unfold ln
  split <;> first | omega | rfl
theorem mk_inj {k k' : Nat} (h : 0 < ln k) (h' : 0 < ln k') (hne : k' ≠ k) : mk k' ≠ mk k := by
  have hk : k < 20 := by
    apply Classical.byContradiction
    intro q
    rw [ln_hi (by omega)] at h
    omega
  have hk' : k' < 20 := by
    apply Classical.byContradiction
    intro q
    rw [ln_hi (by omega)] at h'
    omega
  intro q
  have hb : ((List.range 20).all fun k => (List.range 20).all fun k' => decide (ln k = 0) || decide (ln k' = 0) || decide (k' = k) || !decide (mk k' = mk k)) = true := by decide +kernel
  have h1 := List.all_eq_true.mp (List.all_eq_true.mp hb k (List.mem_range.mpr hk)) k' (List.mem_range.mpr hk')
  have a1 : ¬ ln k = 0 := by omega
  have a2 : ¬ ln k' = 0 := by omega
  simp [a1, a2, hne, q] at h1
theorem mk_lo {k : Nat} (h : 0 < ln k) : 17 ≤ mk k ∧ mk k ≤ 32 := by
  have hk : k < 20 := by
    apply Classical.byContradiction
    intro q
    rw [ln_hi (by omega)] at h
    omega
  exact (by decide +kernel : ∀ k, k < 20 → 0 < ln k → 17 ≤ mk k ∧ mk k ≤ 32) k hk h
/-- the reference's number of a place -/
def dec (w : Int32) : Int32 := if 24 ≤ w then w + 76 else w
def de (k : Nat) (w : Int32) : Int32 := bif Nat.beq k 16 then dec w else w
def Rl (u i : St) (j : Nat) : Prop := ∀ k e, e < ln k → u (mk k) (ln k * j + e) = de k (i k e)
/-- nothing but inst j (and the reference's scratch) has changed -/
def Fr (u u' : St) (j : Nat) : Prop := (∀ k, k < 17 → u' k = u k) ∧ ∀ j' i', j' ≠ j → Rl u i' j' → Rl u' i' j'
def Sim (j : Nat) (u0 u i : St) : Prop := (Rl u i j ∧ i 0 0 = u0 13 0) ∧ u 33 0 = nI j ∧ Fr u0 u j
theorem Sim.up {j : Nat} {u0 u i : St} (S : Sim j u0 u i) (k e : Nat) (v : Int32) (he : e < ln k) : Sim j u0 (sr_up u (mk k) (ln k * j + e) (de k v)) (sr_up i k e v) := by
  obtain ⟨⟨R, hs0⟩, hn, F1, F2⟩ := S
  have hk : 0 < ln k := by omega
  have hm := mk_lo hk
  have hk0 : 0 ≠ k := by
    rintro rfl
    exact absurd hk (by decide)
  refine ⟨⟨?_, by rw [sp_up_k hk0]; exact hs0⟩, ?_, ?_, ?_⟩
  · intro k' e' he'
    by_cases hkk : k' = k
    · subst hkk
      by_cases hee : e' = e
      · subst hee
        rw [sp_up_s, sp_up_s]
      · rw [sp_up_i (by omega), sp_up_i hee]
        exact R k' e' he'
    · rw [sp_up_k (mk_inj hk (by omega) hkk), sp_up_k hkk]
      exact R k' e' he'
  · rw [sp_up_k (by omega)]
    exact hn
  · intro k' hk'
    rw [sp_up_k (by omega)]
    exact F1 k' hk'
  · intro j' i' hj' R'
    have R2 := F2 j' i' hj' R'
    intro k' e' he'
    by_cases hkk : k' = k
    · subst hkk
      rw [sp_up_i ?_]
      · exact R2 k' e' he'
      · intro q
        rcases Nat.lt_trichotomy j' j with h | h | h
        · have : ln k' * j' + ln k' ≤ ln k' * j := by
            rw [← Nat.mul_succ]
            exact Nat.mul_le_mul_left _ h
          omega
        · exact hj' h
        · have : ln k' * j + ln k' ≤ ln k' * j' := by
            rw [← Nat.mul_succ]
            exact Nat.mul_le_mul_left _ h
          omega
    · rw [sp_up_k (mk_inj hk (by omega) hkk)]
      exact R2 k' e' he'
theorem Sim.scr {j : Nat} {u0 u i : St} (S : Sim j u0 u i) (k : Nat) (v : Int32) (h : 33 < k) : Sim j u0 (sr_up u k 0 v) i := by
  obtain ⟨⟨R, hs0⟩, hn, F1, F2⟩ := S
  refine ⟨⟨fun k' e' he' => ?_, hs0⟩, by rw [sp_up_k (by omega)]; exact hn, fun k' hk' => by rw [sp_up_k (by omega)]; exact F1 k' hk', fun j' i' hj' R' k' e' he' => ?_⟩
  · have := mk_lo (show 0 < ln k' by omega)
    rw [sp_up_k (by omega)]
    exact R k' e' he'
  · have := mk_lo (show 0 < ln k' by omega)
    rw [sp_up_k (by omega)]
    exact F2 j' i' hj' R' k' e' he'
theorem Sim.scc {j : Nat} {u0 u i : St} (S : Sim j u0 u i) (k : Nat) (v : Int32) (h : ln k = 0) (h0 : 0 ≠ k := by decide) : Sim j u0 u (sr_up i k 0 v) := by
  obtain ⟨⟨R, hs0⟩, hn, F⟩ := S
  refine ⟨⟨fun k' e' he' => ?_, by rw [sp_up_k h0]; exact hs0⟩, hn, F⟩
  have : k' ≠ k := by
    rintro rfl
    omega
  rw [sp_up_k this]
  exact R k' e' he'
theorem Sim.at {j : Nat} {u0 u i : St} (S : Sim j u0 u i) (k e : Nat) (he : e < ln k) : u (mk k) (ln k * j + e) = de k (i k e) := S.1.1 k e he
theorem Sim.pl {j : Nat} {u0 u i : St} (S : Sim j u0 u i) {k : Nat} (h : k < 17) : u k = u0 k := S.2.2.1 k h
theorem Sim.Pl {j : Nat} {u0 u i p : St} {n L : Nat} (S : Sim j u0 u i) (P : Pl u0 p n L) : Pl u p n L := Pl_congr P (fun k hk => S.pl (by omega))
theorem sp_ix (c : Int32) (m j a : Nat) (hc : c = nI m) : c * nI j + nI a = nI (m * j + a) := by rw [hc, pk_mul, nI_add]
theorem sp_ix1 (c : Int32) (m j : Nat) (hc : c = nI m) : c * nI j = nI (m * j) := by rw [hc, pk_mul]
section
variable {j : Nat} {u0 u i p : St} {n L : Nat}
theorem M_st (S : Sim j u0 u i) (hj : j < 8) {a : Nat} (ha : a < 24) : f_M_st u (nI a) = some (i 4 a) := by
  unfold f_M_st
  rw [S.2.1, sp_ix 24 24 j a rfl, sp_ald (by omega) (by decide), Option.bind_some]
  exact congrArg some (S.at 4 a ha)
theorem M_put (S : Sim j u0 u i) (hj : j < 8) {a : Nat} (ha : a < 24) (s : Int32) : ∃ u', f_M_put (nI a) s u = some u' ∧ Sim j u0 u' (sr_up i 4 a s) ∧ (∀ k, 33 ≤ k → u' k = u k) := by
  unfold f_M_put
  rw [S.2.1, sp_ix 24 24 j a rfl, sp_ast (by omega) (by decide), Option.bind_some]
  exact ⟨_, rfl, S.up 4 a s ha, fun k hk => sp_up_k (show k ≠ 21 by omega)⟩
/-- an event is written -/
def wr (i : St) (C : Nat) (e : Int32) (a : Int32) : St := sr_up (sr_up i 18 (C % 32) (32 * e + a)) 19 0 (nI (C + 1))
theorem C_write {C : Nat} (hC : i 19 0 = nI C) (hB : C < 2 ^ 30) (e a : Int32) : f_G_write p e a i = some (wr i C e a) := by
  unfold f_G_write sr_pf wr
  rw [hC, show (32 : Int32) = nI 32 from rfl, pk_rem (by omega) (by decide) (by decide), sp_ast (Nat.mod_lt _ (by decide)) (by decide)]
  simp only [Option.bind_some]
  rw [sp_up_k (show (19 : Nat) ≠ 18 by decide), hC, nI_1]
theorem M_write (S : Sim j u0 u i) (hj : j < 8) {C : Nat} (hC : i 19 0 = nI C) (hB : C < 2 ^ 30) (e a : Int32) : ∃ u', f_M_write e a u = some u' ∧ Sim j u0 u' (wr i C e a) ∧ (∀ k, 33 ≤ k → u' k = u k) := by
  have h19 := S.at 19 0 (by decide)
  rw [show de 19 (i 19 0) = i 19 0 from rfl, hC] at h19
  have h19 : u 32 j = nI C := by
    have : ln 19 * j + 0 = j := by show 1 * j + 0 = j; omega
    rw [this] at h19
    exact h19
  have hm := Nat.mod_lt C (show 32 > 0 by decide)
  unfold f_M_write
  rw [S.2.1, sp_ald hj (by decide), Option.bind_some, h19, show nI C - nI C / 32 * 32 = nI C - nI C / nI 32 * nI 32 from rfl, pk_rem (by omega) (by decide) (by decide), sp_ix 32 32 j (C % 32) rfl, sp_ast (by omega) (by decide)]
  simp only [Option.bind_some]
  rw [sp_up_k (show (33 : Nat) ≠ 31 by decide), sp_up_k (show (32 : Nat) ≠ 31 by decide), S.2.1, sp_ald hj (by decide), Option.bind_some, h19, nI_1, sp_ast hj (by decide), Option.bind_some]
  refine ⟨_, rfl, ?_, fun k hk => by rw [sp_up_k (by omega), sp_up_k (by omega)]⟩
  have := (S.up 18 (C % 32) (32 * e + a) hm).up 19 0 (nI (C + 1)) (by decide)
  have e1 : ln 19 * j + 0 = j := by show 1 * j + 0 = j; omega
  rw [e1] at this
  exact this
theorem M_then (S : Sim j u0 u i) (x y z : Int32) : ∃ u', f_M_then x y z u = some u' ∧ Sim j u0 u' i ∧ u' 34 0 = x ∧ u' 35 0 = y ∧ u' 36 0 = z := by
  unfold f_M_then sr_pf
  simp only [Option.bind_some]
  refine ⟨_, rfl, ((S.scr 34 x (by decide)).scr 35 y (by decide)).scr 36 z (by decide), ?_, ?_, ?_⟩
  · rw [sp_up_k (by decide), sp_up_k (by decide), sp_up_s]
  · rw [sp_up_k (by decide), sp_up_s]
  · rw [sp_up_s]
theorem C_become {C : Nat} (hC : i 19 0 = nI C) (hB : C < 2 ^ 30) {a : Nat} (ha : a < 24) (s e : Int32) : f_I_become p (nI a) s e i = some (wr (sr_up i 4 a s) C e (nI a)) := by
  unfold f_I_become
  rw [sp_ast ha (by decide), Option.bind_some, C_write (by rw [sp_up_k (by decide)]; exact hC) hB, Option.bind_some]
theorem wr_k {C : Nat} {e a : Int32} {k : Nat} (h1 : k ≠ 18) (h2 : k ≠ 19) : wr i C e a k = i k := by
  unfold wr
  rw [sp_up_k h2, sp_up_k h1]
theorem wr_c {C : Nat} {e a : Int32} : wr i C e a 19 0 = nI (C + 1) := sp_up_s
theorem M_active (S : Sim j u0 u i) (hj : j < 8) {a : Nat} (ha : a < 24) : f_M_active u (nI a) = f_T_isActive (i 4 a) := by
  unfold f_M_active f_T_isActive
  rw [M_st S hj ha, Option.bind_some, Option.bind_some]
theorem aro_i (T : Tr u p n) : ∀ a, 0 < a → a < n → ∃ s, s < a ∧ p 6 a = nI s ∧ u 3 s = 12 := by
  intro a
  have h24 := T.lt
  induction a using Nat.strongRecOn with
  | _ a ih =>
    intro h0 ha
    obtain ⟨c, hc, e1, -, -, e6, -⟩ := T.par h0 ha
    by_cases k : u 3 c = 12
    · exact ⟨c, hc, by rw [e6, if_pos k], k⟩
    · rcases Nat.eq_zero_or_pos c with q | q
      · subst q
        exact absurd (T.2.2.1 (by omega)).2.2.1 k
      · obtain ⟨s, h1, h2, h3⟩ := ih c hc q (by omega)
        exact ⟨s, by omega, by rw [e6, if_neg k]; exact h2, h3⟩
theorem sp_v4 {x : Int32} (h : inB x 0 4 = true) : (∃ k, k < 4 ∧ x = nI k) ∨ x = 4 := by
  unfold inB at h
  rw [Bool.and_eq_true] at h
  obtain ⟨k, hk, e⟩ := nI_of2 (M := 4) (n := 4) (by decide) (Int32.not_lt.mpr (of_decide_eq_true h.1)) (of_decide_eq_true h.2)
  by_cases q : k = 4
  · subst q; exact Or.inr e
  · exact Or.inl ⟨k, by omega, e⟩
/-- what an activity sees of variable x -/
def seeV (p i : St) (a : Nat) (x : Int32) : Int32 := if x < 4 then i 11 x.toNatClampNeg else i 12 (p 6 a).toNatClampNeg
theorem see_ok (S : Sim j u0 u i) (P : Pl u0 p n L) (hj : j < 8) {a : Nat} (h0 : 0 < a) (ha : a < n) {x : Int32} (hx : inB x 0 4 = true) : f_M_see u (nI a) x = some (seeV p i a x) ∧ f_V_read p i (nI a) x = some (seeV p i a x) := by
  have h24 := P.lt
  obtain ⟨s, s1, s2, -⟩ := aro_i P.1 a h0 ha
  unfold f_M_see f_V_read f_V_read_16 seeV
  rcases sp_v4 hx with ⟨k, hk, rfl⟩ | rfl
  · have q1 : ¬ (4 : Int32) ≤ nI k := nI_ge (b := 4) hk (by decide)
    have q2 : nI k < 4 := nI_lt (b := 4) hk (by decide)
    rw [if_neg q1, if_neg (nI_pos (by omega)), if_neg q1, if_pos q2, S.2.1, sp_ix 4 4 j k rfl, sp_ald (by omega) (by decide), sp_ald hk (by decide), Option.bind_some, Option.bind_some, nI_clamp (by omega)]
    exact ⟨congrArg some (S.at 11 k hk), rfl⟩
  · simp only [if_pos (show (4 : Int32) ≤ 4 by decide), if_neg (show ¬ (4 : Int32) < 0 by decide), if_neg (show ¬ (4 : Int32) < 4 by decide)]
    rw [sp_around (S.Pl P).1 ha, Option.bind_some, sp_ald24 (by omega), Option.bind_some, s2, S.2.1, sp_ix 24 24 j s rfl, sp_ald (by omega) (by decide), Option.bind_some, if_neg (nI_m1 (by omega)), sp_ald24 (by omega), Option.bind_some, nI_clamp (by omega)]
    exact ⟨congrArg some (S.at 12 s (show s < 24 by omega)), rfl⟩
def stoV (p i : St) (a : Nat) (x y : Int32) : St := if x < 4 then sr_up i 11 x.toNatClampNeg y else sr_up i 12 (p 6 a).toNatClampNeg y
theorem store_ok (S : Sim j u0 u i) (P : Pl u0 p n L) (hj : j < 8) {a : Nat} (h0 : 0 < a) (ha : a < n) {x : Int32} (hx : inB x 0 4 = true) (y : Int32) : ∃ u', f_M_store (nI a) x y u = some u' ∧ f_V_write p (nI a) x y i = some (stoV p i a x y) ∧ Sim j u0 u' (stoV p i a x y) ∧ (∀ k, 33 ≤ k → u' k = u k) := by
  have h24 := P.lt
  obtain ⟨s, s1, s2, -⟩ := aro_i P.1 a h0 ha
  unfold f_M_store f_V_write f_V_write_30 stoV
  rcases sp_v4 hx with ⟨k, hk, rfl⟩ | rfl
  · have q1 : ¬ (4 : Int32) ≤ nI k := nI_ge (b := 4) hk (by decide)
    have q2 : nI k < 4 := nI_lt (b := 4) hk (by decide)
    simp only [if_neg q1, if_neg (nI_pos (show k < 2 ^ 31 by omega)), if_pos q2]
    rw [S.2.1, sp_ix 4 4 j k rfl, sp_ast (by omega) (by decide), sp_ast hk (by decide), sp_ald24 (by omega), Option.bind_some, Option.bind_some, Option.bind_some, nI_clamp (by omega)]
    exact ⟨_, rfl, rfl, S.up 11 k y hk, fun k hk => sp_up_k (show k ≠ 20 by omega)⟩
  · simp only [if_pos (show (4 : Int32) ≤ 4 by decide), if_neg (show ¬ (4 : Int32) < 0 by decide), if_neg (show ¬ (4 : Int32) < 4 by decide)]
    rw [sp_around (S.Pl P).1 ha, Option.bind_some, sp_ald24 (by omega), Option.bind_some, s2, S.2.1, sp_ix 24 24 j s rfl, sp_ast (by omega) (by decide), Option.bind_some, if_neg (nI_m1 (by omega)), sp_ast (by omega) (by decide), Option.bind_some, nI_clamp (by omega)]
    exact ⟨_, rfl, rfl, S.up 12 s y (show s < 24 by omega), fun k hk => sp_up_k (show k ≠ 22 by omega)⟩
end
