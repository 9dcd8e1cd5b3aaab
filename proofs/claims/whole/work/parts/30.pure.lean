/-! PURE: searches and folds over an interval, and the loops that do them -/
def sp_fd (P : Nat → Bool) : Nat → Nat → Option Nat
  | _, 0 => none
  | i, d + 1 => bif P i then some i else sp_fd P (i + 1) d
def sp_fl {α : Type} (g : Nat → α → α) : Nat → Nat → α → α
  | _, 0, x => x
  | i, d + 1, x => sp_fl g (i + 1) d (g i x)
theorem sp_fd_none {P : Nat → Bool} : ∀ {d i : Nat}, sp_fd P i d = none ↔ ∀ k, i ≤ k → k < i + d → P k = false := by
  intro d
  induction d with
  | zero => intro i; exact ⟨fun _ k h1 h2 => (by omega), fun _ => rfl⟩
  | succ d ih =>
    intro i
    unfold sp_fd
    cases hp : P i with
    | true =>
      refine ⟨fun h => (by cases h), fun h => ?_⟩
      have := h i (Nat.le_refl _) (by omega)
      rw [hp] at this
      cases this
    | false =>
      refine ⟨fun h k h1 h2 => ?_, fun h => ih.mpr (fun k h1 h2 => h k (by omega) (by omega))⟩
      by_cases hk : k = i
      · rw [hk]; exact hp
      · exact ih.mp h k (by omega) (by omega)
theorem sp_fd_some {P : Nat → Bool} : ∀ {d i j : Nat}, sp_fd P i d = some j ↔ (i ≤ j ∧ j < i + d ∧ P j = true ∧ ∀ k, i ≤ k → k < j → P k = false) := by
  intro d
  induction d with
  | zero => intro i j; exact ⟨fun h => (by cases h), fun h => (by omega)⟩
  | succ d ih =>
    intro i j
    unfold sp_fd
    cases hp : P i with
    | true =>
      refine ⟨fun h => ?_, fun h => ?_⟩
      · cases h
        exact ⟨Nat.le_refl _, by omega, hp, fun k h1 h2 => by omega⟩
      · by_cases hj : j = i
        · rw [hj]; rfl
        · have := h.2.2.2 i (Nat.le_refl _) (by omega)
          rw [hp] at this
          cases this
    | false =>
      refine ⟨fun h => ?_, fun h => ?_⟩
      · obtain ⟨h1, h2, h3, h4⟩ := ih.mp h
        refine ⟨by omega, by omega, h3, fun k h5 h6 => ?_⟩
        by_cases hk : k = i
        · rw [hk]; exact hp
        · exact h4 k (by omega) h6
      · have hj : j ≠ i := by
          intro hj
          have h3 := h.2.2.1
          rw [hj, hp] at h3
          cases h3
        exact ih.mpr ⟨by omega, by omega, h.2.2.1, fun k h5 h6 => h.2.2.2 k (by omega) h6⟩
theorem sp_loop {α R : Type} (L : Nat → Nat → α → Option R) (K : α → Option R) (g : Nat → α → α) (I : Nat → α → Prop) (n : Nat)
    (hs : ∀ f i x, i < n → I i x → L (f + 1) i x = L f (i + 1) (g i x) ∧ I (i + 1) (g i x)) (he : ∀ f x, I n x → L (f + 1) n x = K x) :
    ∀ d i f x, i + d = n → d < f → I i x → L f i x = K (sp_fl g i d x) ∧ I n (sp_fl g i d x) := by
  intro d
  induction d with
  | zero =>
    intro i f x h1 h2 h3
    have hi : i = n := by omega
    subst hi
    obtain ⟨f', rfl⟩ : ∃ f', f = f' + 1 := ⟨f - 1, by omega⟩
    exact ⟨he f' x h3, h3⟩
  | succ d ih =>
    intro i f x h1 h2 h3
    obtain ⟨f', rfl⟩ : ∃ f', f = f' + 1 := ⟨f - 1, by omega⟩
    obtain ⟨h4, h5⟩ := hs f' i x (by omega) h3
    obtain ⟨h6, h7⟩ := ih (i + 1) f' (g i x) (by omega) (by omega) h5
    exact ⟨by rw [h4, h6]; rfl, h7⟩
theorem sp_search {R : Type} (L : Nat → Nat → Option R) (P : Nat → Bool) (A : Nat → Option R) (K : Option R) (n : Nat)
    (hs : ∀ f i, i < n → L (f + 1) i = bif P i then A i else L f (i + 1)) (he : ∀ f, L (f + 1) n = K) :
    ∀ d i f, i + d = n → d < f → L f i = match sp_fd P i d with | some j => A j | none => K := by
  intro d
  induction d with
  | zero =>
    intro i f h1 h2
    have hi : i = n := by omega
    subst hi
    obtain ⟨f', rfl⟩ : ∃ f', f = f' + 1 := ⟨f - 1, by omega⟩
    exact he f'
  | succ d ih =>
    intro i f h1 h2
    obtain ⟨f', rfl⟩ : ∃ f', f = f' + 1 := ⟨f - 1, by omega⟩
    rw [hs f' i (by omega)]
    unfold sp_fd
    cases hp : P i with
    | true => rfl
    | false => exact ih (i + 1) f' (by omega) (by omega)
/-! ===== Int32 by its bits: bt x i ===== -/
def bt (x : Int32) (i : Nat) : Bool := x.toBitVec.getLsbD i
theorem b_ext {x y : Int32} (h : ∀ i, i < 32 → bt x i = bt y i) : x = y := Int32.toBitVec_inj.mp (BitVec.eq_of_getLsbD_eq (fun i hi => h i hi))
theorem b_or (x y : Int32) (i : Nat) : bt (x ||| y) i = (bt x i || bt y i) := by unfold bt; rw [Int32.toBitVec_or, BitVec.getLsbD_or]
theorem b_and (x y : Int32) (i : Nat) : bt (x &&& y) i = (bt x i && bt y i) := by unfold bt; rw [Int32.toBitVec_and, BitVec.getLsbD_and]
theorem b_xor (x y : Int32) (i : Nat) : bt (x ^^^ y) i = (bt x i ^^ bt y i) := by unfold bt; rw [Int32.toBitVec_xor, BitVec.getLsbD_xor]
theorem b_big {x : Int32} {i : Nat} (h : 32 ≤ i) : bt x i = false := BitVec.getLsbD_of_ge _ _ h
theorem b_255 (i : Nat) : bt 255 i = decide (i < 8) := by
  rcases Nat.lt_or_ge i 32 with h | h
  · exact (by decide +kernel : ∀ i, i < 32 → bt 255 i = decide (i < 8)) i h
  · rw [b_big h, decide_eq_false (by omega)]
theorem b_65535 (i : Nat) : bt 65535 i = decide (i < 16) := by
  rcases Nat.lt_or_ge i 32 with h | h
  · exact (by decide +kernel : ∀ i, i < 32 → bt 65535 i = decide (i < 16)) i h
  · rw [b_big h, decide_eq_false (by omega)]
theorem b_m1 : ∀ i, i < 32 → bt (-1) i = true := by decide +kernel
theorem b_0 (i : Nat) : bt 0 i = false := BitVec.getLsbD_zero
theorem s_l : ∀ n, n < 32 → ((nI n &&& 31).toBitVec.smod 32).toNat = n := by decide +kernel
theorem s_u : ∀ n, n < 32 → (((nI n).toUInt32 &&& Int32.toUInt32 31).toBitVec % 32).toNat = n := by decide +kernel
theorem b_shl (n : Nat) (hn : n < 32) (x : Int32) {i : Nat} (hi : i < 32) : bt (x <<< (nI n &&& 31)) i = (decide (n ≤ i) && bt x (i - n)) := by
  unfold bt
  rw [Int32.toBitVec_shiftLeft]
  show (x.toBitVec <<< ((nI n &&& 31).toBitVec.smod 32).toNat).getLsbD i = _
  rw [s_l n hn, BitVec.getLsbD_shiftLeft]
  rcases Nat.lt_or_ge i n with h | h
  · simp [h, Nat.not_le.mpr h]
  · simp [hi, h, Nat.not_lt.mpr h]
theorem b_ushr (n : Nat) (hn : n < 32) (x : Int32) (i : Nat) : bt ((x.toUInt32 >>> ((nI n).toUInt32 &&& Int32.toUInt32 31)).toInt32) i = bt x (n + i) := by
  show (x.toUInt32 >>> ((nI n).toUInt32 &&& Int32.toUInt32 31)).toBitVec.getLsbD i = x.toUInt32.toBitVec.getLsbD (n + i)
  rw [UInt32.toBitVec_shiftRight]
  show (x.toUInt32.toBitVec >>> (((nI n).toUInt32 &&& Int32.toUInt32 31).toBitVec % 32).toNat).getLsbD i = _
  rw [s_u n hn, BitVec.getLsbD_ushiftRight]
theorem b_sshr (n : Nat) (hn : n < 32) (x : Int32) {i : Nat} (hi : i < 32) : bt (x >>> (nI n &&& 31)) i = if n + i < 32 then bt x (n + i) else bt x 31 := by
  unfold bt
  rw [Int32.toBitVec_shiftRight]
  show (x.toBitVec.sshiftRight ((nI n &&& 31).toBitVec.smod 32).toNat).getLsbD i = _
  rw [s_l n hn, BitVec.getLsbD_sshiftRight, BitVec.msb_eq_getLsbD_last]
  simp [hi]
theorem b_shl8 (x : Int32) {i : Nat} (hi : i < 32) : bt (x <<< ((8 : Int32) &&& 31)) i = (decide (8 ≤ i) && bt x (i - 8)) := b_shl 8 (by omega) x hi
theorem b_shl16 (x : Int32) {i : Nat} (hi : i < 32) : bt (x <<< ((16 : Int32) &&& 31)) i = (decide (16 ≤ i) && bt x (i - 16)) := b_shl 16 (by omega) x hi
theorem b_shl24 (x : Int32) {i : Nat} (hi : i < 32) : bt (x <<< ((24 : Int32) &&& 31)) i = (decide (24 ≤ i) && bt x (i - 24)) := b_shl 24 (by omega) x hi
theorem b_sshr8 (x : Int32) {i : Nat} (hi : i < 32) : bt (x >>> ((8 : Int32) &&& 31)) i = if 8 + i < 32 then bt x (8 + i) else bt x 31 := b_sshr 8 (by omega) x hi
/-! PURE 1: numbers -/
theorem sp_ald {N i : Nat} {f : Nat → Int32} (h : i < N) (hN : N < 2 ^ 31) : sr_ald N f (nI i) = some (f i) := by
  unfold sr_ald
  rw [if_neg (nI_in h hN), nI_clamp (by omega)]
theorem sp_ald24 {i : Nat} {f : Nat → Int32} (h : i < 24) : sr_ald 24 f (nI i) = some (f i) := sp_ald h (by decide)
theorem sp_ald16 {i : Nat} {f : Nat → Int32} (h : i < 16) : sr_ald 16 f (nI i) = some (f i) := sp_ald h (by decide)
theorem sp_ast {N i k : Nat} {s : St} {v : Int32} (h : i < N) (hN : N < 2 ^ 31) : sr_ast N s k (nI i) v = some (sr_up s k i v) := by
  unfold sr_ast
  rw [if_neg (nI_in h hN), nI_clamp (by omega)]
theorem sp_up_s {s : St} {k i : Nat} {v : Int32} : sr_up s k i v k i = v := by simp [sr_up, upd]
theorem sp_up_k {s : St} {k k' i : Nat} {v : Int32} (h : k' ≠ k) : sr_up s k i v k' = s k' := by
  have : Nat.beq k' k = false := by rw [← Bool.not_eq_true]; exact fun h2 => h (Nat.eq_of_beq_eq_true h2)
  simp [sr_up, this]
theorem sp_up_i {s : St} {k i i' : Nat} {v : Int32} (h : i' ≠ i) : sr_up s k i v k i' = s k i' := by simp [sr_up, upd, h]
/-- a number that may be missing -/
def oI : Option Nat → Int32
  | none => -1
  | some j => nI j
theorem nI_m1 {j : Nat} (h : j < 2 ^ 31) : ¬ nI j = -1 := by
  intro q
  have a := nI_toInt h
  rw [q] at a
  have : (-1 : Int32).toInt = -1 := by decide
  omega
theorem oI_m1 {o : Option Nat} (h : ∀ j, o = some j → j < 2 ^ 31) : oI o = -1 ↔ o = none := by
  cases o with
  | none => exact ⟨fun _ => rfl, fun _ => rfl⟩
  | some j => exact ⟨fun q => absurd q (nI_m1 (h j rfl)), fun q => by cases q⟩
/-- the reference's search among the parts in a role -/
def sp_in (u : St) (a r : Int32) (i : Nat) : Bool := decide (0 < i) && (decide (u 1 i = a) && decide (u 2 i = r))
theorem sp_M_next_step {u : St} {n : Nat} (hn : u 0 0 = nI n) (h24 : n ≤ 24) (a r : Int32) (k : Int32 → Int32 → Int32 → Option Int32) {i : Nat} (hi : i < n) : f_M_nextInRole_5 k u a r (nI i) = bif sp_in u a r i then some (nI i) else k a r (nI (i + 1)) := by
  unfold f_M_nextInRole_5 f_M_nextInRole_44 sp_in
  rw [hn, if_neg (nI_ge hi (by omega)), sp_ald24 (by omega), sp_ald24 (by omega), nI_1]
  by_cases h0 : 0 < i
  · rw [if_neg (nI_nle h0 (by omega))]
    simp only [Option.bind_some, h0, decide_true, Bool.true_and]
    by_cases h1 : u 1 i = a <;> by_cases h2 : u 2 i = r <;> simp [h1, h2]
  · have : i = 0 := by omega
    subst this
    simp [nI_0]
