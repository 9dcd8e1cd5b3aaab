/-! PURE 11: rule 6, the cls's side: sets of nodes as bits of a long -/
/-! ===== lN n to 2^64: shifts, and, or, masks, one bit ===== -/
theorem wb_tb (n : Nat) : (lN n).toBitVec = BitVec.ofNat 64 n := rfl
theorem wb_inj {a b : Int64} (h : a.toBitVec = b.toBitVec) : a = b := Int64.toBitVec_inj.mp h
theorem wb_tn {n : Nat} (h : n < 2 ^ 64) : (lN n).toBitVec.toNat = n := by rw [wb_tb, BitVec.toNat_ofNat, Nat.mod_eq_of_lt h]
theorem wb_of (x : Int64) : ∃ n, n < 2 ^ 64 ∧ x = lN n := ⟨x.toBitVec.toNat, x.toBitVec.isLt, wb_inj (by rw [wb_tb]; simp)⟩
theorem wb_of32 (x : Int32) : ∃ n, n < 2 ^ 32 ∧ x = nI n := ⟨x.toBitVec.toNat, x.toBitVec.isLt, Int32.toBitVec_inj.mp (by show _ = BitVec.ofNat 32 _; simp)⟩
theorem wb_c : ∀ k, k < 64 → ((nI k).toInt64 &&& 63) = lN k := by decide +kernel
theorem wb_cu : ∀ k, k < 64 → ((nI k).toInt64.toUInt64 &&& Int64.toUInt64 63) = UInt64.ofNat k := by decide +kernel
theorem wb_sm : ∀ k, k < 64 → (BitVec.ofNat 64 k).smod 64 = BitVec.ofNat 64 k := by decide +kernel
theorem wb_pw {a b : Nat} (h : a ≤ b) : 2 ^ b = 2 ^ a * 2 ^ (b - a) := by rw [← Nat.pow_add]; congr 1; omega
theorem wb_lt2 {a b : Nat} (h : a < b) : 2 ^ a < 2 ^ b := Nat.pow_lt_pow_right (by decide) h
theorem wb_mod (n : Nat) : lN n = lN (n % 2 ^ 64) := wb_inj (by rw [wb_tb, wb_tb]; apply BitVec.eq_of_toNat_eq; rw [BitVec.toNat_ofNat, BitVec.toNat_ofNat, Nat.mod_mod])
theorem wb_shr {n k : Nat} (hn : n < 2 ^ 64) (hk : k < 64) : ((lN n).toUInt64 >>> ((nI k).toInt64.toUInt64 &&& Int64.toUInt64 63)).toInt64 = lN (n / 2 ^ k) := by
  rw [wb_cu k hk]
  apply wb_inj
  apply BitVec.eq_of_toNat_eq
  show ((lN n).toUInt64 >>> UInt64.ofNat k).toNat = (BitVec.ofNat 64 _).toNat
  have h1 : (UInt64.ofNat k).toNat = k := by
    show (BitVec.ofNat 64 k).toNat = k
    rw [BitVec.toNat_ofNat, Nat.mod_eq_of_lt (by omega)]
  have h2 : (lN n).toUInt64.toNat = n := wb_tn hn
  rw [UInt64.toNat_shiftRight, h1, h2, Nat.mod_eq_of_lt hk, Nat.shiftRight_eq_div_pow, BitVec.toNat_ofNat, Nat.mod_eq_of_lt (Nat.lt_of_le_of_lt (Nat.div_le_self _ _) hn)]
theorem wb_shl (n : Nat) {k : Nat} (hk : k < 64) : lN n <<< ((nI k).toInt64 &&& 63) = lN (n * 2 ^ k) := by
  rw [wb_c k hk]
  apply wb_inj
  rw [Int64.toBitVec_shiftLeft, wb_tb, wb_tb, wb_tb, wb_sm k hk]
  apply BitVec.eq_of_toNat_eq
  rw [BitVec.shiftLeft_eq', BitVec.toNat_shiftLeft, BitVec.toNat_ofNat, BitVec.toNat_ofNat, BitVec.toNat_ofNat, Nat.mod_eq_of_lt (show k < 2 ^ 64 by omega), Nat.shiftLeft_eq, Nat.mul_mod, Nat.mod_mod, ← Nat.mul_mod]
theorem wb_and {a b : Nat} (ha : a < 2 ^ 64) (hb : b < 2 ^ 64) : lN a &&& lN b = lN (a &&& b) := by
  apply wb_inj
  rw [Int64.toBitVec_and, wb_tb, wb_tb, wb_tb]
  apply BitVec.eq_of_toNat_eq
  rw [BitVec.toNat_and, BitVec.toNat_ofNat, BitVec.toNat_ofNat, BitVec.toNat_ofNat, Nat.mod_eq_of_lt ha, Nat.mod_eq_of_lt hb, Nat.mod_eq_of_lt (Nat.and_lt_two_pow _ hb)]
theorem wb_or {a b : Nat} (ha : a < 2 ^ 64) (hb : b < 2 ^ 64) : lN a ||| lN b = lN (a ||| b) := by
  apply wb_inj
  rw [Int64.toBitVec_or, wb_tb, wb_tb, wb_tb]
  apply BitVec.eq_of_toNat_eq
  rw [BitVec.toNat_or, BitVec.toNat_ofNat, BitVec.toNat_ofNat, BitVec.toNat_ofNat, Nat.mod_eq_of_lt ha, Nat.mod_eq_of_lt hb, Nat.mod_eq_of_lt (Nat.or_lt_two_pow ha hb)]
theorem wb_mask {n k : Nat} (hn : n < 2 ^ 64) (hk : k < 64) : lN n &&& lN (2 ^ k - 1) = lN (n % 2 ^ k) := by
  rw [wb_and hn (by have := wb_lt2 hk; omega), Nat.and_two_pow_sub_one_eq_mod]
theorem wb_a1 {n : Nat} (hn : n < 2 ^ 64) : lN n &&& 1 = lN (n % 2) := wb_mask (k := 1) hn (by decide)
theorem wb_bit {n k : Nat} (hn : n < 2 ^ 64) (hk : k < 64) : ((lN n).toUInt64 >>> ((nI k).toInt64.toUInt64 &&& Int64.toUInt64 63)).toInt64 &&& 1 = lN (n / 2 ^ k % 2) := by
  rw [wb_shr hn hk, wb_a1 (Nat.lt_of_le_of_lt (Nat.div_le_self _ _) hn)]

def bL (x : Int64) (i : Nat) : Bool := x.toBitVec.getLsbD i
theorem bL_or (x y : Int64) (i : Nat) : bL (x ||| y) i = (bL x i || bL y i) := by unfold bL; rw [Int64.toBitVec_or, BitVec.getLsbD_or]
theorem bL_and (x y : Int64) (i : Nat) : bL (x &&& y) i = (bL x i && bL y i) := by unfold bL; rw [Int64.toBitVec_and, BitVec.getLsbD_and]
theorem bL_xor (x y : Int64) (i : Nat) : bL (x ^^^ y) i = (bL x i ^^ bL y i) := by unfold bL; rw [Int64.toBitVec_xor, BitVec.getLsbD_xor]
theorem bL_ext {x y : Int64} (h : ∀ i, i < 64 → bL x i = bL y i) : x = y := Int64.toBitVec_inj.mp (BitVec.eq_of_getLsbD_eq (fun i hi => h i hi))
theorem bL_big {x : Int64} {i : Nat} (h : 64 ≤ i) : bL x i = false := BitVec.getLsbD_of_ge _ _ h
theorem bL_0 (i : Nat) : bL 0 i = false := BitVec.getLsbD_zero
theorem bL_m1 : ∀ i, i < 64 → bL (-1) i = true := by decide +kernel
theorem bL_lN {m i : Nat} (hi : i < 64) : bL (lN m) i = m.testBit i := by
  unfold bL
  rw [wb_tb, BitVec.getLsbD_ofNat]
  simp [hi]
theorem bL_bit {k i : Nat} (hk : k < 64) : bL (lN (2 ^ k)) i = decide (i = k) := by
  rcases Nat.lt_or_ge i 64 with h | h
  · rw [bL_lN h, Nat.testBit_two_pow]
    by_cases q : i = k
    · subst q; simp
    · have q2 : ¬ k = i := fun h => q h.symm
      simp [q, q2]
  · rw [bL_big h, decide_eq_false (by omega)]
theorem bL_zero {x : Int64} : x = 0 ↔ ∀ i, bL x i = false := by
  constructor
  · rintro rfl i
    exact bL_0 i
  · intro h
    exact bL_ext (fun i _ => by rw [h i, bL_0])
theorem lg_cmp0 (x : Int64) : lg_cmp x 0 = 0 ↔ x = 0 := by
  unfold lg_cmp
  split
  · next h =>
    constructor
    · intro q
      exact absurd q (by decide)
    · rintro rfl
      revert h
      decide
  · split
    · next h => exact ⟨fun _ => h, fun _ => rfl⟩
    · next h1 h2 => exact ⟨fun q => absurd q (by decide), fun q => absurd q h2⟩
theorem sp_bitL {k : Nat} (hk : k < 64) : f_R_bit (nI k) = some (lN (2 ^ k)) := by
  unfold f_R_bit
  have := wb_shl 1 hk
  rw [show (1 : Int64) = lN 1 from rfl, this, Nat.one_mul]
theorem sp_beg (a : Nat) : f_R_beginning (nI a) = some (nI (2 * a)) := by
  unfold f_R_beginning
  rw [show (2 : Int32) = nI 2 from rfl, pk_mul]
theorem sp_end (a : Nat) : f_R_end (nI a) = some (nI (2 * a + 1)) := by
  unfold f_R_end
  rw [show (2 : Int32) * nI a = nI 2 * nI a from rfl, pk_mul, nI_1]
theorem sp_lald {i : Nat} {f : Nat → Int64} (h : i < 48) : sr_lald 48 f (nI i) = some (f i) := by
  unfold sr_lald
  rw [if_neg (nI_in h (by decide)), nI_clamp (by omega)]
theorem sp_last {i : Nat} {f : Nat → Int64} {v : Int64} (h : i < 48) : sr_last 48 f (nI i) v = some (vp_updL f i v) := by
  unfold sr_last
  rw [if_neg (nI_in h (by decide)), nI_clamp (by omega)]
/-- the part of j just before a -/
def sp_pv (u : St) (j : Nat) (i : Nat) : Bool := decide (u 1 i = nI j)
theorem sp_noteNext {u p : St} {n L : Nat} (P : Pl u p n L) {a j : Nat} (ha : a < n) (hj : j < a) (b : Nat → Int64) : f_R_noteNextInSequence p (nI a) (nI j) b = some (match sp_lst (sp_pv u j) a with | some e => if u 3 j = 8 then vp_updL b (2 * a) (b (2 * a) ||| lN (2 ^ (2 * e + 1))) else b | none => b) := by
  have h24 := P.lt
  unfold f_R_noteNextInSequence
  rw [nI_1]
  have hlo : ∀ i, i ≤ j → sp_lst (sp_pv u j) i = none := by
    intro i hi
    refine sp_lst_none.mpr (fun k hk => ?_)
    unfold sp_pv
    rcases Nat.eq_zero_or_pos k with h0 | h0
    · subst h0
      rw [(P.1.2.2.1 (by omega)).1]
      exact decide_eq_false (fun h => nI_m1 (by omega) h.symm)
    · obtain ⟨q, hq, e1, -⟩ := P.1.par h0 (show k < n by omega)
      rw [e1]
      exact decide_eq_false (fun h => by
        have := (nI_eq (show q < 2 ^ 31 by omega) (show j < 2 ^ 31 by omega)).mp h
        omega)
  have hj1 : sp_lst (sp_pv u j) (j + 1) = none := by
    refine sp_lst_none.mpr (fun k hk => ?_)
    by_cases q : k = j
    · subst q
      unfold sp_pv
      rcases Nat.eq_zero_or_pos k with h0 | h0
      · subst h0
        rw [(P.1.2.2.1 (by omega)).1]
        exact decide_eq_false (fun h => nI_m1 (by omega) h.symm)
      · obtain ⟨q, hq, e1, -⟩ := P.1.par h0 (show k < n by omega)
        rw [e1]
        exact decide_eq_false (fun h => by
          have := (nI_eq (show q < 2 ^ 31 by omega) (show k < 2 ^ 31 by omega)).mp h
          omega)
    · exact sp_lst_none.mp (hlo j (Nat.le_refl _)) k (by omega)
  have hl := sp_loop (fun f i (x : Int32) => f_R_noteNextInSequence_7_it p f (nI a) (nI j) x (nI i) b) (fun x => if x = -1 then some b else (sr_ald 24 (p 2) (nI j)).bind fun v_3 => if v_3 = 8 then (f_R_beginning (nI a)).bind fun v_6 => (sr_lald 48 b v_6).bind fun v_8 => (f_R_end x).bind fun v_10 => (f_R_bit v_10).bind fun v_12 => (sr_last 48 b v_6 (v_8 ||| v_12)).bind fun b_14 => some b_14 else some b) (fun i x => bif sp_pv u j i then nI i else x) (fun i x => x = oI (sp_lst (sp_pv u j) i)) a (fun f i x hi I => by
    refine ⟨?_, ?_⟩
    · show f_R_noteNextInSequence_7 _ p (nI a) (nI j) x (nI i) b = _
      unfold f_R_noteNextInSequence_7 f_R_noteNextInSequence_30 sp_pv
      rw [if_neg (nI_ge hi (by omega)), sp_ald24 (by omega), Option.bind_some, nI_1, P.2.2.1.1]
      by_cases h : u 1 i = nI j <;> simp [h]
    · unfold sp_lst
      cases h : sp_pv u j i with
      | true => rfl
      | false => exact I) (fun f x I => by
    show f_R_noteNextInSequence_7 _ p (nI a) (nI j) x (nI a) b = _
    unfold f_R_noteNextInSequence_7
    rw [if_pos (nI_le (Nat.le_refl _) (by omega))]) (a - (j + 1)) (j + 1) 60 (-1) (by omega) (by omega) (by rw [hj1]; rfl)
  refine Eq.trans hl.1 ?_
  rw [hl.2]
  cases he : sp_lst (sp_pv u j) a with
  | none => rfl
  | some e =>
    have hea := (sp_lst_some.mp he).1
    rw [show oI (some e) = nI e from rfl, if_neg (nI_m1 (by omega)), sp_ald24 (by omega), Option.bind_some, P.2.2.1.2.2.1, sp_beg, Option.bind_some, sp_lald (by omega), Option.bind_some, sp_end, Option.bind_some, sp_bitL (by omega), Option.bind_some, sp_last (by omega), Option.bind_some]
    by_cases k8 : u 3 j = 8 <;> simp [k8]
/-- the nodes just before node y, in the cls's numbers, of the activities below i -/
def eC (u : St) (i x y : Nat) : Prop := ∃ c, c < i ∧ ((y = 2 * c ∧ 0 < c ∧ ∃ j, j < c ∧ u 1 c = nI j ∧ (x = 2 * j ∨ (u 3 j = 8 ∧ ∃ e, sp_lst (sp_pv u j) c = some e ∧ x = 2 * e + 1))) ∨ (y = 2 * c + 1 ∧ (x = 2 * c ∨ ∃ a, 0 < a ∧ a < i ∧ u 1 a = nI c ∧ x = 2 * a + 1)))
theorem sp_updL {b : Nat → Int64} {k : Nat} {v : Int64} (y : Nat) : vp_updL b k v y = if y = k then v else b y := rfl
theorem sp_noteTree_step {u p : St} {n L : Nat} (P : Pl u p n L) {i : Nat} (hi : i < n) {b : Nat → Int64} (I : ∀ y x, y < 2 * i → (bL (b y) x = true ↔ eC u i x y)) (k2 : Int32 → (Nat → Int64) → Option (Nat → Int64)) :
    ∃ b', f_R_noteTree_2 k2 p (nI i) b = k2 (nI (i + 1)) b' ∧ ∀ y x, y < 2 * (i + 1) → (bL (b' y) x = true ↔ eC u (i + 1) x y) := by
  have h24 := P.lt
  unfold f_R_noteTree_2 f_R_noteTree_97
  rw [P.2.1, if_neg (nI_ge hi (by omega))]
  simp only [sp_beg, sp_end, Option.bind_some, sp_bitL (show 2 * i < 64 by omega), sp_bitL (show 2 * i + 1 < 64 by omega), sp_ald24 (show i < 24 by omega), P.2.2.1.1, nI_1]
  rw [sp_last (by omega), Option.bind_some]
  generalize hb1 : vp_updL b (2 * i) 0 = b1
  have v1 : ∀ y, b1 y = if y = 2 * i then 0 else b y := fun y => by rw [← hb1]; rfl
  rw [sp_last (by omega), Option.bind_some]
  generalize hb2 : vp_updL b1 (2 * i + 1) (lN (2 ^ (2 * i))) = b2
  have v2 : ∀ y, b2 y = if y = 2 * i + 1 then lN (2 ^ (2 * i)) else b1 y := fun y => by rw [← hb2]; rfl
  rcases Nat.eq_zero_or_pos i with h0 | h0
  · subst h0
    rw [(P.1.2.2.1 hi).1, if_pos (by decide)]
    refine ⟨_, rfl, fun y x hy => ?_⟩
    have hy : y = 0 ∨ y = 1 := by omega
    rcases hy with rfl | rfl
    · rw [v2, v1, if_neg (by decide), if_pos (by decide), bL_0]
      constructor
      · intro h; cases h
      · rintro ⟨c, hc, ⟨-, h, -⟩ | ⟨h, -⟩⟩ <;> omega
    · rw [v2, if_pos (by decide), bL_bit (by decide)]
      constructor
      · intro h
        exact ⟨0, by omega, Or.inr ⟨rfl, Or.inl (of_decide_eq_true h)⟩⟩
      · rintro ⟨c, hc, ⟨-, h, -⟩ | ⟨-, h | ⟨a, h1, h2, -⟩⟩⟩
        · omega
        · exact decide_eq_true (by omega)
        · omega
  · obtain ⟨j, hj, e1, -⟩ := P.1.par h0 hi
    rw [e1, if_neg (nI_pos (by omega))]
    simp only [sp_beg, sp_end, Option.bind_some, sp_bitL (show 2 * j < 64 by omega), sp_lald (show 2 * i < 48 by omega)]
    rw [sp_last (by omega), Option.bind_some]
    generalize hb3 : vp_updL b2 (2 * i) (b2 (2 * i) ||| lN (2 ^ (2 * j))) = b3
    have v3 : ∀ y, b3 y = if y = 2 * i then b2 (2 * i) ||| lN (2 ^ (2 * j)) else b2 y := fun y => by rw [← hb3]; rfl
    rw [sp_lald (by omega), Option.bind_some, sp_last (by omega), Option.bind_some]
    generalize hb4 : vp_updL b3 (2 * j + 1) (b3 (2 * j + 1) ||| lN (2 ^ (2 * i + 1))) = b4
    have v4 : ∀ y, b4 y = if y = 2 * j + 1 then b3 (2 * j + 1) ||| lN (2 ^ (2 * i + 1)) else b3 y := fun y => by rw [← hb4]; rfl
    rw [sp_noteNext P hi hj, Option.bind_some]
    have hju : ∀ j', j' < i → u 1 i = nI j' → j' = j := fun j' h1 h2 => by
      rw [e1] at h2
      exact ((nI_eq (by omega) (by omega)).mp h2).symm
    have w0 : bL (b4 (2 * i)) = fun x => decide (x = 2 * j) := by
      funext x
      rw [v4, if_neg (by omega), v3, if_pos rfl, v2, if_neg (by omega), v1, if_pos rfl, bL_or, bL_0, Bool.false_or, bL_bit (by omega)]
    have w1 : bL (b4 (2 * i + 1)) = fun x => decide (x = 2 * i) := by
      funext x
      rw [v4, if_neg (by omega), v3, if_neg (by omega), v2, if_pos rfl, bL_bit (by omega)]
    have w2 : ∀ y, y < 2 * i → ∀ x, bL (b4 y) x = (bL (b y) x || (decide (y = 2 * j + 1) && decide (x = 2 * i + 1))) := by
      intro y hy x
      rw [v4]
      by_cases q : y = 2 * j + 1
      · rw [if_pos q, v3, if_neg (by omega), v2, if_neg (by omega), v1, if_neg (by omega), bL_or, bL_bit (by omega), ← q]
        simp [q]
      · rw [if_neg q, v3, if_neg (by omega), v2, if_neg (by omega), v1, if_neg (by omega)]
        simp [q]
    -- the last place
    obtain ⟨b5, hb5, f0, f1⟩ : ∃ b5 : Nat → Int64, (match sp_lst (sp_pv u j) i with | some e => if u 3 j = 8 then vp_updL b4 (2 * i) (b4 (2 * i) ||| lN (2 ^ (2 * e + 1))) else b4 | none => b4) = b5 ∧ (∀ y, y ≠ 2 * i → b5 y = b4 y) ∧ (∀ x, bL (b5 (2 * i)) x = true ↔ (x = 2 * j ∨ (u 3 j = 8 ∧ ∃ e, sp_lst (sp_pv u j) i = some e ∧ x = 2 * e + 1))) := by
      cases he : sp_lst (sp_pv u j) i with
      | none =>
        refine ⟨b4, rfl, fun _ _ => rfl, fun x => ?_⟩
        rw [w0]
        simp
      | some e =>
        have hea := (sp_lst_some.mp he).1
        by_cases k8 : u 3 j = 8
        · refine ⟨vp_updL b4 (2 * i) (b4 (2 * i) ||| lN (2 ^ (2 * e + 1))), by simp [k8], fun y hy => by rw [sp_updL, if_neg hy], fun x => ?_⟩
          rw [sp_updL, if_pos rfl, bL_or, w0, bL_bit (by omega)]
          simp [k8]
        · refine ⟨b4, by simp [k8], fun _ _ => rfl, fun x => ?_⟩
          rw [w0]
          simp [k8]
    rw [hb5]
    refine ⟨b5, rfl, fun y x hy => ?_⟩
    rcases (by omega : y < 2 * i ∨ y = 2 * i ∨ y = 2 * i + 1) with hy | rfl | rfl
    · rw [f0 y (by omega), w2 y hy x, Bool.or_eq_true, I y x hy, Bool.and_eq_true, decide_eq_true_iff, decide_eq_true_iff]
      constructor
      · rintro (⟨c, hc, h⟩ | ⟨h1, h2⟩)
        · refine ⟨c, by omega, ?_⟩
          rcases h with h | ⟨q1, q2 | ⟨a, q2, q3, q4⟩⟩
          · exact Or.inl h
          · exact Or.inr ⟨q1, Or.inl q2⟩
          · exact Or.inr ⟨q1, Or.inr ⟨a, q2, by omega, q4⟩⟩
        · exact ⟨j, by omega, Or.inr ⟨h1, Or.inr ⟨i, h0, by omega, e1, h2⟩⟩⟩
      · rintro ⟨c, hc, h⟩
        rcases h with ⟨q1, q2⟩ | ⟨q1, q2 | ⟨a, q2, q3, q4, q5⟩⟩
        · exact Or.inl ⟨c, by omega, Or.inl ⟨q1, q2⟩⟩
        · exact Or.inl ⟨c, by omega, Or.inr ⟨q1, Or.inl q2⟩⟩
        · by_cases hai : a = i
          · subst hai
            have := hju c (by omega) q4
            subst this
            exact Or.inr ⟨q1, q5⟩
          · exact Or.inl ⟨c, by omega, Or.inr ⟨q1, Or.inr ⟨a, q2, by omega, q4, q5⟩⟩⟩
    · rw [f1 x]
      constructor
      · intro h
        exact ⟨i, by omega, Or.inl ⟨rfl, h0, j, hj, e1, h⟩⟩
      · rintro ⟨c, hc, ⟨q1, q2, j', q3, q4, q5⟩ | ⟨q1, -⟩⟩
        · have : c = i := by omega
          subst this
          have := hju j' q3 q4
          subst this
          exact q5
        · omega
    · rw [f0 _ (by omega), w1]
      simp only [decide_eq_true_iff]
      constructor
      · intro h
        exact ⟨i, by omega, Or.inr ⟨rfl, Or.inl h⟩⟩
      · rintro ⟨c, hc, ⟨q1, -⟩ | ⟨q1, q2 | ⟨a, q2, q3, q4, q5⟩⟩⟩
        · omega
        · omega
        · have : c = i := by omega
          subst this
          obtain ⟨j', hj', e', -⟩ := P.1.par q2 (show a < n by omega)
          rw [e'] at q4
          have := (nI_eq (by omega) (by omega)).mp q4
          omega
