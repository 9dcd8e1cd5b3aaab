section
variable {p : Program} {l : Launch} {e : Env} {s : State} {m : MethodId} {args : Array Value} {below : List Frame} {meth : Method} {c : Code} {A : Nat → Prop} {Q : State → Prop} {x0 : Cond} {sb L0 : Nat} {xs : Nat → Int32} {D : va_G} {g : Nat → Nat} {vs : ClassId} {h : Nat → Nat} {t : Nat → ClassId} {ro : Nat → Nat} {rv : Nat → ClassId} {hm : Nat → Nat} {tm : Nat → ClassId} {Dummy : Nat} 
set_option maxHeartbeats 4000000 in
set_option maxRecDepth 100000 in
theorem lw_loop (F : LF p s m args c A x0 sb L0 xs) (hNW : NW s) (hL0 : L0 ≤ 3072) (fin : ∀ (N : Nat) (H : Heap) (locs : List Loc) (ls : Array Slot), N ≤ 8 → va_S A s.heap H locs → W p l e room_1 s m args below meth c H locs (47 + 16 * N) (2476 + 247 * N) Q (F0 m 703 ls [])) : ∀ (d k N B : Nat) {W0 : va_W} {H : Heap} {locs : List Loc} {ls : Array Slot}, k + d = L0 / 6 → B ≤ 460000 * k → LI D g vs h t ro rv hm tm s W0 N B → sr_Z D A s.heap W0 H locs → lv_has ls 4 [(0, .ref sb), (1, .ref (g 0)), (2, .ref (hm 0)), (3, .int (nI (6 * k)))] → W p l e room_1 s m args below meth c H locs (47 + 16 * N) (2476 + 247 * N) Q (F0 m 18 ls []) := by
  have F0' := F
  obtain ⟨hx, hb, hml, hown, hts, hA, hX, hbl, hbA⟩ := F
  intro d
  induction d with
  | zero =>
    intro k N B W0 H locs ls hk hB hL Z hl
    have hN8 : N ≤ 8 := by
      obtain ⟨O, V, u, s, p, b, I, n, L, -, G, -⟩ := hL
      exact G.N8
    refine lv_iload_n hx hb d_W_law_18 rfl (lv_at hl 3 rfl) ?_
    refine lv_aload_n hx hb d_W_law_19 rfl (lv_at hl 0 rfl) ?_
    refine va_slen hx hb hX hbl hbA Z.2.2 d_W_law_20 ?_
    refine lv_bipush (v := 6) hx hb d_W_law_21 (by decide) ?_
    refine lv_isub hx hb d_W_law_23 ?_
    refine lv_icmp_gt (tgt := 703) hx hb d_W_law_24 rfl (fun q => fin N _ _ _ hN8 Z.2.2) (fun q => ?_)
    exfalso
    apply q
    have e1 : (nI L0 - nI 6).toInt = (L0 : Int) - (6 : Nat) := pk_sub_toInt (by omega) (by omega)
    have e2 : (nI (6 * k)).toInt = ((6 * k : Nat) : Int) := nI_toInt (by omega)
    show nI L0 - nI 6 < nI (6 * k)
    rw [Int32.lt_iff_toInt_lt, e1, e2]
    omega
  | succ d ih =>
    intro k N B W0 H locs ls hk hB hL Z hl
    have hN8 : N ≤ 8 := by
      obtain ⟨O, V, u, s, p, b, I, n, L, -, G, -⟩ := hL
      exact G.N8
    have hk6 : 6 * k + 5 < L0 := by omega
    have hB2 : B + 470000 < 2 ^ 30 := by omega
    have hf : 47 + 16 * N ≤ room_1.cells ∧ 2476 + 247 * N ≤ room_1.slots := by
      show 47 + 16 * N ≤ 600000 ∧ 2476 + 247 * N ≤ 7302250
      omega
    have cont : ∀ (N' : Nat) (W2 : va_W) (H : Heap) (locs : List Loc), LI D g vs h t ro rv hm tm s W2 N' (B + 460000) → sr_Z D A s.heap W2 H locs → W p l e room_1 s m args below meth c H locs (47 + 16 * N') (2476 + 247 * N') Q (F0 m 697 ls []) := by
      intro N' W2 H locs hL Z
      refine lv_iinc (k := 3) (v := nI (6 * (k + 1))) (lv' := [(3, .int (nI (6 * (k + 1)))), (0, .ref sb), (1, .ref (g 0)), (2, .ref (hm 0))]) hx hb d_W_law_697 hl rfl (nI_add (6 * k) 6) (by decide) rfl (fun ls hl => ?_)
      refine lv_goto (tgt := 18) hx hb d_W_law_700 rfl ?_
      exact ih (k + 1) N' (B + 460000) (by omega) (by omega) hL Z (lv_sub hl [1, 2, 3, 0] rfl)
    refine lv_iload_n hx hb d_W_law_18 rfl (lv_at hl 3 rfl) ?_
    refine lv_aload_n hx hb d_W_law_19 rfl (lv_at hl 0 rfl) ?_
    refine va_slen hx hb hX hbl hbA Z.2.2 d_W_law_20 ?_
    refine lv_bipush (v := 6) hx hb d_W_law_21 (by decide) ?_
    refine lv_isub hx hb d_W_law_23 ?_
    refine lv_icmp_gt (tgt := 703) hx hb d_W_law_24 rfl (fun q => fin N _ _ _ hN8 Z.2.2) (fun q => ?_)
    refine lv_aload_n hx hb d_W_law_27 rfl (lv_at hl 0 rfl) ?_
    refine lv_iload_n hx hb d_W_law_28 rfl (lv_at hl 3 rfl) ?_
    refine lw_ld (j := 6 * k) hx hb hX hbl hbA Z.2.2 rfl (by omega) (by omega) d_W_law_29 ?_
    refine lv_bipush (v := 31) hx hb d_W_law_30 (by decide) ?_
    refine lv_iand hx hb d_W_law_32 ?_
    obtain ⟨j, hj, ej⟩ := pk_andE (xs (6 * k)) (m := 31) 5 (by decide)
    rw [ej]
    have hj : j < 32 := hj
    by_cases h17 : j < 17
    · have hc : j = 0 ∨ j = 1 ∨ j = 2 ∨ j = 3 ∨ j = 4 ∨ j = 5 ∨ j = 6 ∨ j = 7 ∨ j = 8 ∨ j = 9 ∨ j = 10 ∨ j = 11 ∨ j = 12 ∨ j = 13 ∨ j = 14 ∨ j = 15 ∨ j = 16 := by omega
      rcases hc with rfl | rfl | rfl | rfl | rfl | rfl | rfl | rfl | rfl | rfl | rfl | rfl | rfl | rfl | rfl | rfl | rfl
      · refine lv_tableIn (off := 83) (tgt := 116) hx hb d_W_law_33 (by decide) (by decide) (by decide) (by decide) ?_
        exact lw_add F0' hL hB2 hk6 (by omega) Z hl hf (fun W2 H locs hL2 Z => cont N W2 H locs hL2 Z)
      · refine lv_tableIn (off := 146) (tgt := 179) hx hb d_W_law_33 (by decide) (by decide) (by decide) (by decide) ?_
        exact lw_join F0' hL hB2 hk6 (by omega) Z hl hf (fun W2 H locs hL2 Z => cont N W2 H locs hL2 Z)
      · refine lv_tableIn (off := 179) (tgt := 212) hx hb d_W_law_33 (by decide) (by decide) (by decide) (by decide) ?_
        exact lw_link F0' hL hB2 hk6 (by omega) Z hl hf (fun W2 H locs hL2 Z => cont N W2 H locs hL2 Z)
      · refine lv_tableIn (off := 232) (tgt := 265) hx hb d_W_law_33 (by decide) (by decide) (by decide) (by decide) ?_
        exact lw_deploy F0' hL hB2 hk6 (by omega) Z hl hf (fun W2 H locs hL2 Z => cont N W2 H locs hL2 Z)
      · refine lv_tableIn (off := 245) (tgt := 278) hx hb d_W_law_33 (by decide) (by decide) (by decide) (by decide) ?_
        rcases op_message (l := l) hL hB2 (xs (6 * k + 1)) (xs (6 * k + 2)) (xs (6 * k + 3)) with hO | ⟨h8, hmk⟩
        · exact lw_message F0' hO hk6 (by omega) Z hl hf (fun W2 H locs hL2 Z => cont N W2 H locs hL2 Z)
        · refine lw_messagem F0' hk6 (by omega) Z hl ?_ hNW hmk (fun W2 H locs hL2 Z => ?_)
          · show 47 + 16 * N + 16 ≤ 600000 ∧ 2476 + 247 * N + 247 ≤ 7302250
            omega
          · have := cont (N + 1) W2 H locs hL2 Z
            rw [show 47 + 16 * (N + 1) = 47 + 16 * N + 16 by omega, show 2476 + 247 * (N + 1) = 2476 + 247 * N + 247 by omega] at this
            exact this
      · refine lv_tableIn (off := 288) (tgt := 321) hx hb d_W_law_33 (by decide) (by decide) (by decide) (by decide) ?_
        exact lw_run F0' hL hB2 hk6 (by omega) Z hl hf (fun W2 H locs hL2 Z => cont N W2 H locs hL2 Z)
      · refine lv_tableIn (off := 321) (tgt := 354) hx hb d_W_law_33 (by decide) (by decide) (by decide) (by decide) ?_
        exact lw_answer F0' hL hB2 hk6 (by omega) Z hl hf (fun W2 H locs hL2 Z => cont N W2 H locs hL2 Z)
      · refine lv_tableIn (off := 374) (tgt := 407) hx hb d_W_law_33 (by decide) (by decide) (by decide) (by decide) ?_
        exact lw_terminate F0' hL hB2 hk6 (by omega) Z hl hf (fun W2 H locs hL2 Z => cont N W2 H locs hL2 Z)
      · refine lv_tableIn (off := 397) (tgt := 430) hx hb d_W_law_33 (by decide) (by decide) (by decide) (by decide) ?_
        exact lw_state F0' hL hB2 hk6 (by omega) Z hl hf (fun W2 H locs hL2 Z => cont N W2 H locs hL2 Z)
      · refine lv_tableIn (off := 420) (tgt := 453) hx hb d_W_law_33 (by decide) (by decide) (by decide) (by decide) ?_
        exact lw_status F0' hL hB2 hk6 (by omega) Z hl hf (fun W2 H locs hL2 Z => cont N W2 H locs hL2 Z)
      · refine lv_tableIn (off := 453) (tgt := 486) hx hb d_W_law_33 (by decide) (by decide) (by decide) (by decide) ?_
        exact lw_variable F0' hL hB2 hk6 (by omega) Z hl hf (fun W2 H locs hL2 Z => cont N W2 H locs hL2 Z)
      · refine lv_tableIn (off := 486) (tgt := 519) hx hb d_W_law_33 (by decide) (by decide) (by decide) (by decide) ?_
        exact lw_own F0' hL hB2 hk6 (by omega) Z hl hf (fun W2 H locs hL2 Z => cont N W2 H locs hL2 Z)
      · refine lv_tableIn (off := 519) (tgt := 552) hx hb d_W_law_33 (by decide) (by decide) (by decide) (by decide) ?_
        exact lw_linkState F0' hL hB2 hk6 (by omega) Z hl hf (fun W2 H locs hL2 Z => cont N W2 H locs hL2 Z)
      · refine lv_tableIn (off := 552) (tgt := 585) hx hb d_W_law_33 (by decide) (by decide) (by decide) (by decide) ?_
        exact lw_kept F0' hL hB2 hk6 (by omega) Z hl hf (fun W2 H locs hL2 Z => cont N W2 H locs hL2 Z)
      · refine lv_tableIn (off := 585) (tgt := 618) hx hb d_W_law_33 (by decide) (by decide) (by decide) (by decide) ?_
        exact lw_events F0' hL hB2 hk6 (by omega) Z hl hf (fun W2 H locs hL2 Z => cont N W2 H locs hL2 Z)
      · refine lv_tableIn (off := 608) (tgt := 641) hx hb d_W_law_33 (by decide) (by decide) (by decide) (by decide) ?_
        exact lw_event F0' hL hB2 hk6 (by omega) Z hl hf (fun W2 H locs hL2 Z => cont N W2 H locs hL2 Z)
      · refine lv_tableIn (off := 641) (tgt := 674) hx hb d_W_law_33 (by decide) (by decide) (by decide) (by decide) ?_
        exact lw_next F0' hL hB2 hk6 (by omega) Z hl hf (fun W2 H locs hL2 Z => cont N W2 H locs hL2 Z)
    · refine lv_tableOut (tgt := 697) hx hb d_W_law_33 (Or.inr ?_) rfl (cont N W0 H locs (LI.mono hL) Z)
      rw [nI_toInt (by omega)]
      omega
end
