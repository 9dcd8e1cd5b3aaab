/-! PURE 17: entries move, links are set -/
def sml (w : Int32) : Prop := w = -1 ∨ ∃ k, k < 40 ∧ w = nI k
theorem dec_n {P : Nat} (h : P < 24) : dec (nI P) = nI P := by
  unfold dec
  rw [if_neg (show ¬ (24 : Int32) ≤ nI P from nI_ge (b := 24) h (by decide))]
theorem dec_e {e : Nat} (h : e < 1000) : dec (nI (24 + e)) = nI (100 + e) := by
  unfold dec
  rw [if_pos (show (24 : Int32) ≤ nI (24 + e) from nI_le (a := 24) (by omega) (by omega)), show (76 : Int32) = nI 76 from rfl, nI_add]
  congr 1
  omega
theorem dec_m : dec (-1) = -1 := by decide
theorem dec_inj {a b : Int32} (ha : sml a) (hb : sml b) : dec a = dec b ↔ a = b := by
  have val : ∀ w, sml w → (w = -1 ∧ dec w = -1) ∨ ∃ k m, k < 40 ∧ w = nI k ∧ dec w = nI m ∧ m < 200 ∧ m = (if k < 24 then k else k + 76) := by
    rintro w (rfl | ⟨k, hk, rfl⟩)
    · exact Or.inl ⟨rfl, dec_m⟩
    · refine Or.inr ⟨k, _, hk, rfl, ?_, ?_, rfl⟩
      · by_cases h : k < 24
        · rw [if_pos h, dec_n h]
        · rw [if_neg h]
          obtain ⟨e, rfl⟩ : ∃ e, k = 24 + e := ⟨k - 24, by omega⟩
          rw [dec_e (by omega)]
          congr 1
          omega
      · by_cases h : k < 24
        · rw [if_pos h]; omega
        · rw [if_neg h]; omega
  constructor
  · intro h
    rcases val a ha with ⟨a1, a2⟩ | ⟨k, m, a1, a2, a3, a4, a5⟩ <;> rcases val b hb with ⟨b1, b2⟩ | ⟨k', m', b1, b2, b3, b4, b5⟩
    · rw [a1, b1]
    · rw [a2, b3] at h
      exact absurd h.symm (nI_m1 (by omega))
    · rw [a3, b2] at h
      exact absurd h (nI_m1 (by omega))
    · rw [a3, b3] at h
      have := (nI_eq (by omega) (by omega)).mp h
      have : k = k' := by
        by_cases q1 : k < 24 <;> by_cases q2 : k' < 24 <;> simp [q1, q2] at a5 b5 <;> omega
      rw [a2, b2, this]
  · rintro rfl; rfl
/-- the entries from e on whose place is 'from' go to 'to' -/
def mvF (x : St) (e E : Nat) (fr to : Int32) : St := fun k => bif Nat.beq k 16 then (fun a => if e ≤ a ∧ a < E ∧ x 16 a = fr then to else x 16 a) else x k
theorem mvF_k {x : St} {e E : Nat} {fr to : Int32} {k : Nat} (h : k ≠ 16) : mvF x e E fr to k = x k := by
  have : Nat.beq k 16 = false := by rw [← Bool.not_eq_true]; exact fun h2 => h (Nat.eq_of_beq_eq_true h2)
  simp [mvF, this]
theorem mvF_16 {x : St} {e E : Nat} {fr to : Int32} (a : Nat) : mvF x e E fr to 16 a = if e ≤ a ∧ a < E ∧ x 16 a = fr then to else x 16 a := rfl
theorem mvF_up {x : St} {e E : Nat} {fr to : Int32} (he : e < E) (h : x 16 e = fr) : mvF (sr_up x 16 e to) (e + 1) E fr to = mvF x e E fr to := by
  funext k a
  by_cases hk : k = 16
  · subst hk
    rw [mvF_16, mvF_16, sp_up]
    by_cases ha : a = e
    · subst ha
      rw [if_neg (by omega), if_pos ⟨rfl, rfl⟩, if_pos ⟨Nat.le_refl _, he, h⟩]
    · rw [if_neg (show ¬ (16 = 16 ∧ a = e) from fun q => ha q.2)]
      by_cases q : e ≤ a
      · simp [q, show e + 1 ≤ a by omega]
      · simp [q, show ¬ e + 1 ≤ a by omega]
  · rw [mvF_k hk, mvF_k hk, sp_up_k hk]
theorem mvF_skip {x : St} {e E : Nat} {fr to : Int32} (h : ¬ x 16 e = fr) : mvF x (e + 1) E fr to = mvF x e E fr to := by
  funext k a
  by_cases hk : k = 16
  · subst hk
    rw [mvF_16, mvF_16]
    by_cases ha : a = e
    · subst ha
      simp [h]
    · by_cases q : e ≤ a
      · simp [q, show e + 1 ≤ a by omega]
      · simp [q, show ¬ e + 1 ≤ a by omega]
  · rw [mvF_k hk, mvF_k hk]
theorem mvF_end {x : St} {E : Nat} {fr to : Int32} : mvF x E E fr to = x := by
  funext k a
  by_cases hk : k = 16
  · subst hk
    rw [mvF_16, if_neg (by omega)]
  · rw [mvF_k hk]
section
variable {j : Nat} {u0 p : St} {n L : Nat}
theorem carry_l (hj : j < 8) {E : Nat} (hE : E ≤ 16) {fr to : Int32} (hf : sml fr) : ∀ d e f g (u x : St), e + d = E → d < f → d < g → Sim j u0 u x → x 17 0 = nI E → (∀ a, e ≤ a → a < E → sml (x 16 a)) →
    ∃ u', f_M_carry_2_it f (dec fr) (dec to) (nI e) u = some u' ∧ f_E_moveAll_2_it p g fr to (nI e) x = some (mvF x e E fr to) ∧ Sim j u0 u' (mvF x e E fr to) ∧ (∀ k, 33 ≤ k → u' k = u k) := by
  intro d
  induction d with
  | zero =>
    intro e f g u x he hf' hg S h17 hs
    have : e = E := by omega
    subst this
    obtain ⟨f, rfl⟩ : ∃ f', f = f' + 1 := ⟨f - 1, by omega⟩
    obtain ⟨g, rfl⟩ : ∃ f', g = f' + 1 := ⟨g - 1, by omega⟩
    have hu : u 27 j = nI e := by
      have := S.at 17 0 (by decide)
      rw [show ln 17 * j + 0 = j by show 1 * j + 0 = j; omega, show de 17 (x 17 0) = x 17 0 from rfl, h17] at this
      exact this
    refine ⟨u, ?_, ?_, by rw [mvF_end]; exact S, fun _ _ => rfl⟩
    · show f_M_carry_2 _ (dec fr) (dec to) (nI e) u = _
      unfold f_M_carry_2
      rw [S.2.1, sp_ald hj (by decide), Option.bind_some, hu, if_pos (nI_le (Nat.le_refl _) (by omega))]
    · show f_E_moveAll_2 _ p fr to (nI e) x = _
      unfold f_E_moveAll_2
      rw [h17, if_pos (nI_le (Nat.le_refl _) (by omega)), mvF_end]
  | succ d ih =>
    intro e f g u x he hf' hg S h17 hs
    obtain ⟨f, rfl⟩ : ∃ f', f = f' + 1 := ⟨f - 1, by omega⟩
    obtain ⟨g, rfl⟩ : ∃ f', g = f' + 1 := ⟨g - 1, by omega⟩
    have hu : u 27 j = nI E := by
      have := S.at 17 0 (by decide)
      rw [show ln 17 * j + 0 = j by show 1 * j + 0 = j; omega, show de 17 (x 17 0) = x 17 0 from rfl, h17] at this
      exact this
    have hpl : u 30 (16 * j + e) = dec (x 16 e) := S.at 16 e (show e < 16 by omega)
    have hcmp : (dec (x 16 e) = dec fr ↔ x 16 e = fr) := dec_inj (hs e (Nat.le_refl _) (by omega)) hf
    by_cases hq : x 16 e = fr
    · have S2 := S.up 16 e to (show e < 16 by omega)
      obtain ⟨u', e1, e2, S3, hk⟩ := ih (e + 1) f g _ _ (by omega) (by omega) (by omega) S2 (by rw [sp_up_k (by decide)]; exact h17) (fun a h1 h2 => by rw [sp_up_i (by omega)]; exact hs a (by omega) h2)
      rw [mvF_up (by omega) hq] at e2 S3
      refine ⟨u', ?_, ?_, S3, fun k hk2 => by rw [hk k hk2]; exact sp_up_k (by show k ≠ 30; omega)⟩
      · show f_M_carry_2 _ (dec fr) (dec to) (nI e) u = _
        unfold f_M_carry_2 f_M_carry_48
        rw [S.2.1, sp_ald hj (by decide), Option.bind_some, hu, if_neg (nI_ge (show e < E by omega) (by omega)), sp_ix 16 16 j e rfl, sp_ald (by omega) (by decide), Option.bind_some, hpl, if_pos (hcmp.mpr hq), sp_ast (by omega) (by decide), Option.bind_some, nI_1]
        exact e1
      · show f_E_moveAll_2 _ p fr to (nI e) x = _
        unfold f_E_moveAll_2 f_E_moveAll_27
        rw [h17, if_neg (nI_ge (show e < E by omega) (by omega)), sp_ald16 (by omega), Option.bind_some, if_pos hq, sp_ast (by omega) (by decide), Option.bind_some, nI_1]
        exact e2
    · obtain ⟨u', e1, e2, S3, hk⟩ := ih (e + 1) f g u x (by omega) (by omega) (by omega) S h17 (fun a h1 h2 => hs a (by omega) h2)
      rw [mvF_skip hq] at e2 S3
      refine ⟨u', ?_, ?_, S3, hk⟩
      · show f_M_carry_2 _ (dec fr) (dec to) (nI e) u = _
        unfold f_M_carry_2 f_M_carry_48
        rw [S.2.1, sp_ald hj (by decide), Option.bind_some, hu, if_neg (nI_ge (show e < E by omega) (by omega)), sp_ix 16 16 j e rfl, sp_ald (by omega) (by decide), Option.bind_some, hpl, if_neg (fun q => hq (hcmp.mp q)), nI_1]
        exact e1
      · show f_E_moveAll_2 _ p fr to (nI e) x = _
        unfold f_E_moveAll_2 f_E_moveAll_27
        rw [h17, if_neg (nI_ge (show e < E by omega) (by omega)), sp_ald16 (by omega), Option.bind_some, if_neg hq, nI_1]
        exact e2
theorem carry_ok (hj : j < 8) {E : Nat} (hE : E ≤ 16) {u i : St} (S : Sim j u0 u i) (h17 : i 17 0 = nI E) (hs : ∀ a, a < E → sml (i 16 a)) {fr to : Int32} (hf : sml fr) : ∃ u', f_M_carry (dec fr) (dec to) u = some u' ∧ f_E_moveAll p fr to i = some (mvF i 0 E fr to) ∧ Sim j u0 u' (mvF i 0 E fr to) ∧ (∀ k, 33 ≤ k → u' k = u k) :=
  carry_l hj hE hf E 0 60 60 u i (by omega) (by omega) (by omega) S h17 (fun a _ h => hs a h)
/-- the links from l on whose source lies in the set X: closed, or unset -/
def lkF (u0 x : St) (l L : Nat) (X : Int32) (cl : Bool) : St := fun k => bif Nat.beq k 13 then (fun a => if l ≤ a ∧ a < L ∧ bt X (u0 8 a).toNatClampNeg = true then (if cl = true then (if x 13 a = 0 then 2 else x 13 a) else 0) else x 13 a) else x k
theorem lkF_k {x : St} {l M : Nat} {X : Int32} {cl : Bool} {k : Nat} (h : k ≠ 13) : lkF u0 x l M X cl k = x k := by
  have : Nat.beq k 13 = false := by rw [← Bool.not_eq_true]; exact fun h2 => h (Nat.eq_of_beq_eq_true h2)
  simp [lkF, this]
theorem lkF_13 {x : St} {l M : Nat} {X : Int32} {cl : Bool} (a : Nat) : lkF u0 x l M X cl 13 a = if l ≤ a ∧ a < M ∧ bt X (u0 8 a).toNatClampNeg = true then (if cl = true then (if x 13 a = 0 then 2 else x 13 a) else 0) else x 13 a := rfl
theorem lkF_up {x : St} {l M : Nat} {X : Int32} {cl : Bool} (hl : l < M) (h : bt X (u0 8 l).toNatClampNeg = true) : lkF u0 (sr_up x 13 l (if cl = true then (if x 13 l = 0 then 2 else x 13 l) else 0)) (l + 1) M X cl = lkF u0 x l M X cl := by
  funext k a
  by_cases hk : k = 13
  · subst hk
    rw [lkF_13, lkF_13]
    by_cases ha : a = l
    · subst ha
      rw [if_neg (by omega), sp_up_s, if_pos (show a ≤ a ∧ a < M ∧ bt X (u0 8 a).toNatClampNeg = true from ⟨Nat.le_refl _, hl, h⟩)]
    · rw [sp_up_i ha]
      by_cases q : l ≤ a
      · simp [q, show l + 1 ≤ a by omega]
      · simp [q, show ¬ l + 1 ≤ a by omega]
  · rw [lkF_k hk, lkF_k hk, sp_up_k hk]
theorem lkF_same {x : St} {l M : Nat} {X : Int32} {cl : Bool} (h : ¬ bt X (u0 8 l).toNatClampNeg = true ∨ (cl = true ∧ ¬ x 13 l = 0)) : lkF u0 x (l + 1) M X cl = lkF u0 x l M X cl := by
  funext k a
  by_cases hk : k = 13
  · subst hk
    rw [lkF_13, lkF_13]
    by_cases ha : a = l
    · subst ha
      rw [if_neg (by omega)]
      rcases h with h | ⟨h1, h2⟩
      · simp [h]
      · simp [h1, h2]
    · by_cases q : l ≤ a
      · simp [q, show l + 1 ≤ a by omega]
      · simp [q, show ¬ l + 1 ≤ a by omega]
  · rw [lkF_k hk, lkF_k hk]
theorem lkF_end {x : St} {M : Nat} {X : Int32} {cl : Bool} : lkF u0 x M M X cl = x := by
  funext k a
  by_cases hk : k = 13
  · subst hk
    rw [lkF_13, if_neg (by omega)]
  · rw [lkF_k hk]
theorem C_close (P : Pl u0 p n L) {X : Int32} : ∀ d l f (x : St), l + d = L → d < f → f_L_closeFrom_2_it p f X (nI l) x = some (lkF u0 x l L X true) := by
  have h24 := P.lt
  have hL := P.2.2.2.1.2.1
  intro d
  induction d with
  | zero =>
    intro l f x hl hf
    have : l = L := by omega
    subst this
    obtain ⟨f, rfl⟩ : ∃ f', f = f' + 1 := ⟨f - 1, by omega⟩
    show f_L_closeFrom_2 _ p X (nI l) x = _
    unfold f_L_closeFrom_2
    rw [P.2.2.2.1.2.2, if_pos (nI_le (Nat.le_refl _) (by omega)), lkF_end]
  | succ d ih =>
    intro l f x hl hf
    obtain ⟨f, rfl⟩ : ∃ f', f = f' + 1 := ⟨f - 1, by omega⟩
    obtain ⟨⟨s, hs, es⟩, -⟩ := P.2.2.2.2.2.2 l (by omega)
    show f_L_closeFrom_2 _ p X (nI l) x = _
    unfold f_L_closeFrom_2 f_L_closeFrom_45
    rw [P.2.2.2.1.2.2, if_neg (nI_ge (show l < L by omega) (by omega)), sp_ald16 (by omega), Option.bind_some, sp_ald16 (by omega), Option.bind_some, P.2.2.2.2.1.1, es, sp_isIn (by omega), Option.bind_some, nI_1, sp_ast (by omega) (by decide), Option.bind_some]
    have hsc : (u0 8 l).toNatClampNeg = s := by rw [es, nI_clamp (by omega)]
    by_cases h0 : x 13 l = 0
    · rw [if_pos h0]
      cases hb : bt X s with
      | false =>
        rw [if_pos (by decide), ih (l + 1) f x (by omega) (by omega), lkF_same (Or.inl (by rw [hsc, hb]; decide))]
      | true =>
        rw [if_neg (by decide), ih (l + 1) f _ (by omega) (by omega)]
        have := lkF_up (u0 := u0) (x := x) (l := l) (M := L) (X := X) (cl := true) (by omega) (by rw [hsc]; exact hb)
        rw [← this]
        simp [h0]
    · rw [if_neg h0, ih (l + 1) f x (by omega) (by omega), lkF_same (Or.inr ⟨rfl, h0⟩)]
theorem C_unset (P : Pl u0 p n L) {X : Int32} : ∀ d l f (x : St), l + d = L → d < f → f_L_unsetFrom_2_it p f X (nI l) x = some (lkF u0 x l L X false) := by
  have h24 := P.lt
  have hL := P.2.2.2.1.2.1
  intro d
  induction d with
  | zero =>
    intro l f x hl hf
    have : l = L := by omega
    subst this
    obtain ⟨f, rfl⟩ : ∃ f', f = f' + 1 := ⟨f - 1, by omega⟩
    show f_L_unsetFrom_2 _ p X (nI l) x = _
    unfold f_L_unsetFrom_2
    rw [P.2.2.2.1.2.2, if_pos (nI_le (Nat.le_refl _) (by omega)), lkF_end]
  | succ d ih =>
    intro l f x hl hf
    obtain ⟨f, rfl⟩ : ∃ f', f = f' + 1 := ⟨f - 1, by omega⟩
    obtain ⟨⟨s, hs, es⟩, -⟩ := P.2.2.2.2.2.2 l (by omega)
    show f_L_unsetFrom_2 _ p X (nI l) x = _
    unfold f_L_unsetFrom_2 f_L_unsetFrom_36
    rw [P.2.2.2.1.2.2, if_neg (nI_ge (show l < L by omega) (by omega)), sp_ald16 (by omega), Option.bind_some, P.2.2.2.2.1.1, es, sp_isIn (by omega), Option.bind_some, nI_1, sp_ast (by omega) (by decide), Option.bind_some]
    have hsc : (u0 8 l).toNatClampNeg = s := by rw [es, nI_clamp (by omega)]
    cases hb : bt X s with
    | false =>
      rw [if_pos (by decide), ih (l + 1) f x (by omega) (by omega), lkF_same (Or.inl (by rw [hsc, hb]; decide))]
    | true =>
      rw [if_neg (by decide), ih (l + 1) f _ (by omega) (by omega)]
      have := lkF_up (u0 := u0) (x := x) (l := l) (M := L) (X := X) (cl := false) (by omega) (by rw [hsc]; exact hb)
      rw [← this]
      simp
theorem M_setLinks (P : Pl u0 p n L) (hj : j < 8) {a : Nat} (ha : a < n) (cl : Bool) : ∀ d l f (u x : St), l + d = L → d < f → Sim j u0 u x →
    ∃ u', f_M_setLinks_2_it f (nI a) (bI cl) (nI l) u = some u' ∧ Sim j u0 u' (lkF u0 x l L (p 9 a) cl) ∧ (∀ k, 33 ≤ k → u' k = u k) := by
  have h24 := P.lt
  have hL := P.2.2.2.1.2.1
  intro d
  induction d with
  | zero =>
    intro l f u x hl hf S
    have : l = L := by omega
    subst this
    obtain ⟨f, rfl⟩ : ∃ f', f = f' + 1 := ⟨f - 1, by omega⟩
    refine ⟨u, ?_, by rw [lkF_end]; exact S, fun _ _ => rfl⟩
    show f_M_setLinks_2 _ (nI a) (bI cl) (nI l) u = _
    unfold f_M_setLinks_2
    rw [S.pl (by decide), P.2.2.2.1.1, if_pos (nI_le (Nat.le_refl _) (by omega))]
  | succ d ih =>
    intro l f u x hl hf S
    obtain ⟨f, rfl⟩ : ∃ f', f = f' + 1 := ⟨f - 1, by omega⟩
    obtain ⟨⟨s, hs, es⟩, -⟩ := P.2.2.2.2.2.2 l (by omega)
    have hsc : (u0 8 l).toNatClampNeg = s := by rw [es, nI_clamp (by omega)]
    have hv : u 26 (16 * j + l) = x 13 l := S.at 13 l (show l < 16 by omega)
    have hin : bt (p 9 a) s = (decide (s = a) || wi p s a) := by
      unfold wi
      by_cases q : s = a
      · subst q
        simp [P.1.self ha]
      · simp [q]
    have go : ∀ y : Int32, (if cl = true then (if x 13 l = 0 then 2 else x 13 l) else 0) = y → bt (p 9 a) s = true → ∃ u', f_M_setLinks_82 (f_M_setLinks_2_it f) (nI a) (bI cl) (nI l) y (nI (16 * j + l)) u = some u' ∧ Sim j u0 u' (lkF u0 x l L (p 9 a) cl) ∧ (∀ k, 33 ≤ k → u' k = u k) := by
      intro y hy hb
      have S2 := S.up 13 l y (show l < 16 by omega)
      obtain ⟨u', e1, S3, hk⟩ := ih (l + 1) f _ _ (by omega) (by omega) S2
      have := lkF_up (u0 := u0) (x := x) (l := l) (M := L) (X := p 9 a) (cl := cl) (by omega) (by rw [hsc]; exact hb)
      rw [hy] at this
      rw [this] at S3
      refine ⟨u', ?_, S3, fun k hk2 => by rw [hk k hk2]; exact sp_up_k (by show k ≠ 26; omega)⟩
      unfold f_M_setLinks_82 f_M_setLinks_83
      rw [sp_ast (by omega) (by decide), Option.bind_some, nI_1]
      exact e1
    have go2 : bt (p 9 a) s = true → ∃ u', f_M_setLinks_34 (f_M_setLinks_2_it f) (nI a) (bI cl) (nI l) u = some u' ∧ Sim j u0 u' (lkF u0 x l L (p 9 a) cl) ∧ (∀ k, 33 ≤ k → u' k = u k) := by
      intro hb
      unfold f_M_setLinks_34
      rw [S.2.1, sp_ix 16 16 j l rfl, sp_ald (by omega) (by decide), Option.bind_some, hv]
      cases cl with
      | false =>
        rw [if_pos (by decide)]
        exact go 0 (by simp) hb
      | true =>
        rw [if_neg (by decide)]
        by_cases h0 : x 13 l = 0
        · rw [if_pos h0]
          exact go 2 (by simp [h0]) hb
        · rw [if_neg h0]
          exact go (x 13 l) (by simp [h0]) hb
    show ∃ u', f_M_setLinks_2 _ (nI a) (bI cl) (nI l) u = some u' ∧ _
    unfold f_M_setLinks_2
    rw [S.pl (by decide), P.2.2.2.1.1, if_neg (nI_ge (show l < L by omega) (by omega)), S.pl (show 8 < 17 by decide), sp_ald16 (by omega), Option.bind_some, Option.bind_some, es, sp_below (S.Pl P).1 hs ha, Option.bind_some]
    by_cases q : s = a
    · subst q
      rw [if_pos rfl]
      exact go2 (P.1.self ha)
    · rw [if_neg (fun h => q ((nI_eq (by omega) (by omega)).mp h))]
      cases hw : wi p s a with
      | true =>
        rw [if_neg (by decide)]
        exact go2 (by rw [hin, hw, Bool.or_true])
      | false =>
        rw [if_pos (by decide)]
        obtain ⟨u', e1, S3, hk⟩ := ih (l + 1) f u x (by omega) (by omega) S
        rw [lkF_same (Or.inl (by rw [hsc, hin, hw, decide_eq_false q]; decide))] at S3
        unfold f_M_setLinks_83
        rw [nI_1]
        exact ⟨u', e1, S3, hk⟩
end
