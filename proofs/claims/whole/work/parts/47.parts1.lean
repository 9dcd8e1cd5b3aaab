/-! PURE 18: what holds of an inst; a part of the chain: COMPLETES -/
def eOk (u0 i : St) (n E : Nat) : Prop := E ≤ 16 ∧ i 17 0 = nI E ∧ ∀ e, e < E → ∃ c, 0 < c ∧ c < n ∧ u0 3 c = 12 ∧ i 14 e = nI c ∧ (i 16 e = -1 ∨ (∃ P, P < c ∧ u0 3 P = 12 ∧ i 16 e = nI P) ∨ (∃ e' c', e' < E ∧ i 14 e' = nI c' ∧ c' < c ∧ i 16 e = nI (24 + e')))
def aOk (u0 i : St) (n : Nat) : Prop := ∀ a, a < n → i 4 a = 4 → u0 3 a = 11
def tOk (u0 p i : St) (n : Nat) : Prop := (∀ c, c < n → ∃ t, t < n ∧ i 6 c = nI t ∧ ((c = 0 ∧ t = 0) ∨ (0 < c ∧ ∃ P, P < c ∧ ((u0 3 t = 12 ∧ t = P) ∨ (u0 3 t = 7 ∧ p 6 t = nI P))))) ∧ aOk u0 i n
def lOk (i : St) (L : Nat) : Prop := ∀ l, l < L → i 13 l = 0 ∨ i 13 l = 1 ∨ i 13 l = 2
/-- what holds of an inst between the parts of a chain; C events so far -/
def Iv (u0 p i : St) (n L C : Nat) : Prop := i 19 0 = nI C ∧ lOk i L ∧ (∃ E, eOk u0 i n E) ∧ tOk u0 p i n
theorem eOk.congr {u0 i i' : St} {n E : Nat} (h : eOk u0 i n E) (h14 : i' 14 = i 14) (h16 : i' 16 = i 16) (h17 : i' 17 = i 17) : eOk u0 i' n E := by
  unfold eOk
  rw [h14, h16, h17]
  exact h
theorem tOk.congr {u0 p i i' : St} {n : Nat} (h : tOk u0 p i n) (h6 : i' 6 = i 6) (h4 : i' 4 = i 4) : tOk u0 p i' n := by
  unfold tOk aOk
  rw [h6, h4]
  exact h
theorem tOk.cg4 {u0 p i i' : St} {n : Nat} (h : tOk u0 p i n) (h6 : i' 6 = i 6) (h4 : aOk u0 i' n) : tOk u0 p i' n := by
  unfold tOk
  rw [h6]
  exact ⟨h.1, h4⟩
theorem lOk.congr {i i' : St} {L : Nat} (h : lOk i L) (h13 : i' 13 = i 13) : lOk i' L := by
  unfold lOk
  rw [h13]
  exact h
theorem eOk.sml {u0 i : St} {n E : Nat} (h : eOk u0 i n E) (hn : n ≤ 24) : ∀ a, a < E → sml (i 16 a) := by
  intro a ha
  obtain ⟨c, c1, c2, -, -, h1 | ⟨P, h1, -, h2⟩ | ⟨e', c', h1, -, -, h2⟩⟩ := h.2.2 a ha
  · exact Or.inl h1
  · exact Or.inr ⟨P, by omega, h2⟩
  · have := h.1
    exact Or.inr ⟨24 + e', by omega, h2⟩
/-- the measure of a part -/
def mM (p : St) (w a : Nat) : Nat := if w = 1 then 201 + 2 * a else if w = 2 then 200 + 2 * a else if w = 3 then (if a = 0 then 0 else 3 * (p 6 a).toNatClampNeg + 2) else 3 * a + 1
/-- the part that is due, the same on both sides, of a measure below μ -/
def Du (p u i : St) (n μ : Nat) : Prop := (u 34 0 = 0 ∧ i 8 0 = 0) ∨ ∃ w a f, (w = 1 ∨ w = 2 ∨ w = 3 ∨ w = 4) ∧ a < n ∧ u 34 0 = nI w ∧ i 8 0 = nI w ∧ u 35 0 = nI a ∧ i 9 0 = nI a ∧ (w = 3 ∨ w = 4 → u 36 0 = f ∧ i 10 0 = f) ∧ mM p w a < μ
section
variable {j : Nat} {u0 u i p : St} {n L C : Nat}
/-- completes, reports, faults, entryFails of the cls beside 'then' of the reference -/
theorem due1 (S : Sim j u0 u i) {a : Nat} {μ : Nat} (ha : a < n) (hm : mM p 1 a < μ) (z : Int32) : ∃ u' i', f_M_then 1 (nI a) z u = some u' ∧ f_I_completes p (nI a) i = some i' ∧ Sim j u0 u' i' ∧ (∀ k, k ≠ 8 → k ≠ 9 → k ≠ 10 → i' k = i k) ∧ Du p u' i' n μ := by
  obtain ⟨u', e1, S1, h1, h2, h3⟩ := M_then S 1 (nI a) z
  refine ⟨u', sr_up (sr_up i 8 0 1) 9 0 (nI a), e1, rfl, (S1.scc 8 1 rfl).scc 9 (nI a) rfl, fun k h8 h9 _ => by rw [sp_up_k h9, sp_up_k h8], Or.inr ⟨1, a, z, Or.inl rfl, ha, h1, ?_, h2, sp_up_s, fun q => by omega, hm⟩⟩
  rw [sp_up_k (by decide), sp_up_s]
  rfl
theorem due2 (S : Sim j u0 u i) {a : Nat} {μ : Nat} (ha : a < n) (hm : mM p 2 a < μ) (z : Int32) : ∃ u' i', f_M_then 2 (nI a) z u = some u' ∧ f_I_reports p (nI a) i = some i' ∧ Sim j u0 u' i' ∧ (∀ k, k ≠ 8 → k ≠ 9 → k ≠ 10 → i' k = i k) ∧ Du p u' i' n μ := by
  obtain ⟨u', e1, S1, h1, h2, h3⟩ := M_then S 2 (nI a) z
  refine ⟨u', sr_up (sr_up i 8 0 2) 9 0 (nI a), e1, rfl, (S1.scc 8 2 rfl).scc 9 (nI a) rfl, fun k h8 h9 _ => by rw [sp_up_k h9, sp_up_k h8], Or.inr ⟨2, a, z, Or.inr (Or.inl rfl), ha, h1, ?_, h2, sp_up_s, fun q => by omega, hm⟩⟩
  rw [sp_up_k (by decide), sp_up_s]
  rfl
theorem due3 (S : Sim j u0 u i) {a : Nat} {μ : Nat} (ha : a < n) (hm : mM p 3 a < μ) (z : Int32) : ∃ u' i', f_M_then 3 (nI a) z u = some u' ∧ f_I_faults p (nI a) z i = some i' ∧ Sim j u0 u' i' ∧ (∀ k, k ≠ 8 → k ≠ 9 → k ≠ 10 → i' k = i k) ∧ Du p u' i' n μ := by
  obtain ⟨u', e1, S1, h1, h2, h3⟩ := M_then S 3 (nI a) z
  refine ⟨u', sr_up (sr_up (sr_up i 8 0 3) 9 0 (nI a)) 10 0 z, e1, rfl, ((S1.scc 8 3 rfl).scc 9 (nI a) rfl).scc 10 z rfl, fun k h8 h9 h10 => by rw [sp_up_k h10, sp_up_k h9, sp_up_k h8], Or.inr ⟨3, a, z, Or.inr (Or.inr (Or.inl rfl)), ha, h1, ?_, h2, ?_, fun _ => ⟨h3, sp_up_s⟩, hm⟩⟩
  · rw [sp_up_k (by decide), sp_up_k (by decide), sp_up_s]
    rfl
  · rw [sp_up_k (by decide), sp_up_s]
theorem due4 (S : Sim j u0 u i) {a : Nat} {μ : Nat} (ha : a < n) (hm : mM p 4 a < μ) (z : Int32) : ∃ u' i', f_M_then 4 (nI a) z u = some u' ∧ f_I_entryFails p (nI a) z i = some i' ∧ Sim j u0 u' i' ∧ (∀ k, k ≠ 8 → k ≠ 9 → k ≠ 10 → i' k = i k) ∧ Du p u' i' n μ := by
  obtain ⟨u', e1, S1, h1, h2, h3⟩ := M_then S 4 (nI a) z
  refine ⟨u', sr_up (sr_up (sr_up i 8 0 4) 9 0 (nI a)) 10 0 z, e1, rfl, ((S1.scc 8 4 rfl).scc 9 (nI a) rfl).scc 10 z rfl, fun k h8 h9 h10 => by rw [sp_up_k h10, sp_up_k h9, sp_up_k h8], Or.inr ⟨4, a, z, Or.inr (Or.inr (Or.inr rfl)), ha, h1, ?_, h2, ?_, fun _ => ⟨h3, sp_up_s⟩, hm⟩⟩
  · rw [sp_up_k (by decide), sp_up_k (by decide), sp_up_s]
    rfl
  · rw [sp_up_k (by decide), sp_up_s]
theorem Iv.due {i' : St} (V : Iv u0 p i n L C) (h : ∀ k, k ≠ 8 → k ≠ 9 → k ≠ 10 → i' k = i k) : Iv u0 p i' n L C := by
  obtain ⟨v1, v2, ⟨E, v3⟩, v4⟩ := V
  refine ⟨by rw [h 19 (by decide) (by decide) (by decide)]; exact v1, v2.congr (h 13 (by decide) (by decide) (by decide)), ⟨E, v3.congr (h 14 (by decide) (by decide) (by decide)) (h 16 (by decide) (by decide) (by decide)) (h 17 (by decide) (by decide) (by decide))⟩, v4.congr (h 6 (by decide) (by decide) (by decide)) (h 4 (by decide) (by decide) (by decide))⟩
/-- a status, an event -/
theorem Iv.st (V : Iv u0 p i n L C) (a : Nat) (s : Int32) (hs4 : s = 4 → u0 3 a = 11 := by (intro q; exact absurd q (by decide))) : Iv u0 p (sr_up i 4 a s) n L C := by
  obtain ⟨v1, v2, ⟨E, v3⟩, v4⟩ := V
  refine ⟨by rw [sp_up_k (by decide)]; exact v1, v2.congr (sp_up_k (by decide)), ⟨E, v3.congr (sp_up_k (by decide)) (sp_up_k (by decide)) (sp_up_k (by decide))⟩, v4.cg4 (sp_up_k (by decide)) (fun b hb hq => ?_)⟩
  rw [sp_up] at hq
  by_cases w : b = a
  · rw [if_pos ⟨rfl, w⟩] at hq
    rw [w]
    exact hs4 hq
  · rw [if_neg (fun z => w z.2)] at hq
    exact v4.2 b hb hq
theorem Iv.wr (V : Iv u0 p i n L C) (e a : Int32) : Iv u0 p (wr i C e a) n L (C + 1) := by
  obtain ⟨v1, v2, ⟨E, v3⟩, v4⟩ := V
  exact ⟨wr_c, v2.congr (wr_k (by decide) (by decide)), ⟨E, v3.congr (wr_k (by decide) (by decide)) (wr_k (by decide) (by decide)) (wr_k (by decide) (by decide))⟩, v4.congr (wr_k (by decide) (by decide)) (wr_k (by decide) (by decide))⟩
/-- put and write beside become -/
theorem become_ok (S : Sim j u0 u i) (hj : j < 8) (V : Iv u0 p i n L C) (hC : C < 2 ^ 30) {a : Nat} (ha : a < 24) (s e : Int32) (hs4 : s = 4 → u0 3 a = 11 := by (intro q; exact absurd q (by decide))) : ∃ u1 u2 i', f_M_put (nI a) s u = some u1 ∧ f_M_write e (nI a) u1 = some u2 ∧ f_I_become p (nI a) s e i = some i' ∧ Sim j u0 u2 i' ∧ Iv u0 p i' n L (C + 1) ∧ i' 4 = upd (i 4) a s ∧ (∀ k, k ≠ 4 → k ≠ 18 → k ≠ 19 → i' k = i k) ∧ (∀ k, 33 ≤ k → u2 k = u k) := by
  obtain ⟨u1, e1, S1, g1⟩ := M_put S hj ha s
  obtain ⟨u2, e2, S2, g2⟩ := M_write S1 hj (C := C) (by rw [sp_up_k (by decide)]; exact V.1) hC e (nI a)
  refine ⟨u1, u2, _, e1, e2, C_become V.1 hC ha s e, S2, (V.st a s hs4).wr e (nI a), ?_, fun k h1 h2 h3 => by rw [wr_k h2 h3, sp_up_k h1], fun k hk => by rw [g2 k hk, g1 k hk]⟩
  rw [wr_k (by decide) (by decide)]
  rfl
theorem decide_l (P : Pl u0 p n L) (hj : j < 8) (hD : ∀ l, l < L → u0 8 l ≠ 0) {a : Nat} (ha : a < n) : ∀ d l f g (u x : St), l + d = L → d < f → d < g → Sim j u0 u x → lOk x L →
    ∃ u' x', f_M_complete_15_it f (nI a) (nI l) u = (f_M_then 2 (nI a) 0 u').bind some ∧ f_L_decideFrom_2_it p g (nI a) (nI l) x = some x' ∧ Sim j u0 u' x' ∧ lOk x' L ∧ (∀ k, k ≠ 13 → x' k = x k) := by
  have h24 := P.lt
  have hL := P.2.2.2.1.2.1
  intro d
  induction d with
  | zero =>
    intro l f g u x hl hf hg S V
    have : l = L := by omega
    subst this
    obtain ⟨f, rfl⟩ : ∃ f', f = f' + 1 := ⟨f - 1, by omega⟩
    obtain ⟨g, rfl⟩ : ∃ f', g = f' + 1 := ⟨g - 1, by omega⟩
    refine ⟨u, x, ?_, ?_, S, V, fun _ _ => rfl⟩
    · show f_M_complete_15 _ (nI a) (nI l) u = _
      unfold f_M_complete_15
      rw [S.pl (by decide), P.2.2.2.1.1, if_pos (nI_le (Nat.le_refl _) (by omega))]
    · show f_L_decideFrom_2 _ p (nI a) (nI l) x = _
      unfold f_L_decideFrom_2
      rw [P.2.2.2.1.2.2, if_pos (nI_le (Nat.le_refl _) (by omega))]
  | succ d ih =>
    intro l f g u x hl hf hg S V
    obtain ⟨f, rfl⟩ : ∃ f', f = f' + 1 := ⟨f - 1, by omega⟩
    obtain ⟨g, rfl⟩ : ∃ f', g = f' + 1 := ⟨g - 1, by omega⟩
    obtain ⟨⟨s, hs, es⟩, -, t1, t2⟩ := P.2.2.2.2.2.2 l (by omega)
    have hu : ∀ k, k < 17 → u k = u0 k := fun k hk => S.pl hk
    show ∃ u' x', f_M_complete_15 _ (nI a) (nI l) u = _ ∧ f_L_decideFrom_2 _ p (nI a) (nI l) x = _ ∧ _
    unfold f_M_complete_15 f_L_decideFrom_2
    rw [hu 7 (by decide), hu 8 (by decide), hu 10 (by decide), hu 11 (by decide), P.2.2.2.1.1, P.2.2.2.1.2.2, if_neg (nI_ge (show l < L by omega) (by omega)), if_neg (nI_ge (show l < L by omega) (by omega)), P.2.2.2.2.1.1, P.2.2.2.2.1.2.2.1, P.2.2.2.2.1.2.2.2]
    simp only [sp_ald16 (show l < 16 by omega), Option.bind_some]
    by_cases q : u0 8 l = nI a
    · rw [if_pos q, if_pos q]
      have go : ∀ y : Int32, (y = 1 ∨ y = 2) → ∃ u' x', f_M_complete_90 (f_M_complete_15_it f) (nI a) (nI l) y (nI (16 * j + l)) u = (f_M_then 2 (nI a) 0 u').bind some ∧ f_L_decideFrom_84 (f_L_decideFrom_2_it p g) p (nI a) (nI l) y (nI l) x = some x' ∧ Sim j u0 u' x' ∧ lOk x' L ∧ (∀ k, k ≠ 13 → x' k = x k) := by
        intro y hy
        obtain ⟨u', x', e1, e2, S2, V2, hk⟩ := ih (l + 1) f g _ _ (by omega) (by omega) (by omega) (S.up 13 l y (show l < 16 by omega)) (fun m hm => by
          rw [sp_up]
          by_cases hml : m = l
          · simp only [hml, and_self, if_true]
            rcases hy with rfl | rfl
            · exact Or.inr (Or.inl rfl)
            · exact Or.inr (Or.inr rfl)
          · simp only [hml, and_false, if_false]
            exact V m hm)
        refine ⟨u', x', ?_, ?_, S2, V2, fun k hk2 => by rw [hk k hk2, sp_up_k hk2]⟩
        · unfold f_M_complete_90 f_M_complete_91
          rw [sp_ast (by omega) (by decide), Option.bind_some, nI_1]
          exact e1
        · unfold f_L_decideFrom_84 f_L_decideFrom_85
          rw [sp_ast (by omega) (by decide), Option.bind_some, nI_1]
          exact e2
      have go1 : ∃ u' x', f_M_complete_62 (f_M_complete_15_it f) (nI a) (nI l) u = (f_M_then 2 (nI a) 0 u').bind some ∧ f_L_decideFrom_62 (f_L_decideFrom_2_it p g) p (nI a) (nI l) x = some x' ∧ Sim j u0 u' x' ∧ lOk x' L ∧ (∀ k, k ≠ 13 → x' k = x k) := by
        unfold f_M_complete_62 f_L_decideFrom_62 f_M_complete_67 f_L_decideFrom_67
        rw [S.2.1, sp_ix 16 16 j l rfl, if_neg (by decide), if_neg (by decide)]
        exact go 1 (Or.inl rfl)
      have go2 : ∃ u' x', f_M_complete_67 (f_M_complete_15_it f) (nI a) (nI l) 0 u = (f_M_then 2 (nI a) 0 u').bind some ∧ f_L_decideFrom_67 (f_L_decideFrom_2_it p g) p (nI a) (nI l) 0 x = some x' ∧ Sim j u0 u' x' ∧ lOk x' L ∧ (∀ k, k ≠ 13 → x' k = x k) := by
        unfold f_M_complete_67 f_L_decideFrom_67
        rw [S.2.1, sp_ix 16 16 j l rfl, if_pos rfl, if_pos rfl]
        exact go 2 (Or.inr rfl)
      have ha0 : 0 < a := by
        rcases Nat.eq_zero_or_pos a with h | h
        · subst h
          exact absurd q (hD l (by omega))
        · exact h
      by_cases ht : u0 10 l = -1
      · rw [if_pos (show u0 10 l < 0 by rw [ht]; decide), if_pos ht]
        exact go1
      · have hge : 0 ≤ u0 10 l := by
          rw [Int32.le_iff_toInt_le] at t1 ⊢
          have h1 : (-1 : Int32).toInt = -1 := by decide
          have h2 : (0 : Int32).toInt = 0 := by decide
          have h3 : (u0 10 l).toInt ≠ -1 := fun h => ht (Int32.toInt_inj.mp (h.trans h1.symm))
          omega
        have hin : inB (u0 10 l) 0 4 = true := by
          unfold inB
          rw [decide_eq_true hge, decide_eq_true t2]
          rfl
        obtain ⟨r1, r2⟩ := see_ok S P hj ha0 ha hin
        rw [if_neg (Int32.not_lt.mpr hge), if_neg ht, r1, r2, Option.bind_some, Option.bind_some]
        by_cases hb : u0 11 l ≤ seeV p x a (u0 10 l)
        · rw [if_pos hb, if_pos hb]
          exact go2
        · rw [if_neg hb, if_neg hb]
          exact go1
    · rw [if_neg q, if_neg q]
      unfold f_M_complete_91 f_L_decideFrom_85
      rw [nI_1]
      exact ih (l + 1) f g u x (by omega) (by omega) (by omega) S V
theorem part1 (P : Pl u0 p n L) (D : Dp u0 p n L) (hj : j < 8) (S : Sim j u0 u i) (V : Iv u0 p i n L C) (hC : C < 2 ^ 30) {a : Nat} (ha : a < n) : ∃ u' i', f_M_complete (nI a) u = some u' ∧ f_I_complete p (nI a) i = some i' ∧ Sim j u0 u' i' ∧ Iv u0 p i' n L (C + 1) ∧ Du p u' i' n (mM p 1 a) := by
  have h24 := P.lt
  have hL := P.2.2.2.1.2.1
  obtain ⟨u1, u2, i2, e1, e2, e3, S2, V2, -, -, -⟩ := become_ok S hj V hC (show a < 24 by omega) 8 2
  obtain ⟨u3, i3, e4, e5, S3, V3, hk⟩ := decide_l P hj D.2.2.2.2.1 ha L 0 60 60 u2 i2 (by omega) (by omega) (by omega) S2 V2.2.1
  obtain ⟨u4, i4, e6, e7, S4, hk2, D4⟩ := due2 (p := p) (n := n) S3 ha (μ := mM p 1 a) (by unfold mM; simp) 0
  refine ⟨u4, i4, ?_, ?_, S4, Iv.due (i := i3) ⟨by rw [hk 19 (by decide)]; exact V2.1, V3, ?_, V2.2.2.2.congr (hk 6 (by decide)) (hk 4 (by decide))⟩ hk2, D4⟩
  · unfold f_M_complete
    rw [e1, Option.bind_some, e2, Option.bind_some]
    refine Eq.trans e4 ?_
    rw [e6, Option.bind_some]
  · unfold f_I_complete f_L_decideFrom
    rw [e3, Option.bind_some]
    have e5' : f_L_decideFrom_2_it p 60 (nI a) 0 i2 = some i3 := e5
    rw [e5', Option.bind_some, e7, Option.bind_some]
  · obtain ⟨E, hE⟩ := V2.2.2.1
    exact ⟨E, hE.congr (hk 14 (by decide)) (hk 16 (by decide)) (hk 17 (by decide))⟩
end
