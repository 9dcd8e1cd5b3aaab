/-! LAW 1: the law's own frame; a call that makes -/
def LF (p : Program) (s : State) (m : MethodId) (args : Array Value) (c : Code) (A : Nat → Prop) (x0 : Cond) (sb L0 : Nat) (xs : Nat → Int32) : Prop :=
  p.tables.exec = Jvm.exec ∧ c.code = code ∧ c.maxLocals = 4 ∧ s.vm.findClass R_W = some m.cls ∧ (∀ w ∈ (x0 :: sr_T), w.before args s = true) ∧ (∀ q, s.heap.size ≤ q → A q) ∧ va_X sb L0 xs s s.heap ∧ sb < s.heap.size ∧ ¬ A sb
theorem LI.mono {D : va_G} {g : Nat → Nat} {vs : ClassId} {h : Nat → Nat} {t : Nat → ClassId} {ro : Nat → Nat} {rv : Nat → ClassId} {hm : Nat → Nat} {tm : Nat → ClassId} {st : State} {W0 : va_W} {N B : Nat} (hL : LI D g vs h t ro rv hm tm st W0 N B) : LI D g vs h t ro rv hm tm st W0 N (B + 460000) := by
  obtain ⟨O, V, u, s, p, b, I, n, L, e, G, K⟩ := hL
  exact ⟨O, V, u, s, p, b, I, n, L, e, G.mono (by omega), K⟩
section
variable {p : Program} {l : Launch} {e : Env} {R : Room} {s : State} {m : MethodId} {args : Array Value} {below : List Frame} {meth : Method} {c : Code} {H H0 : Heap} {locs : List Loc} {ls : Array Slot} {D : va_G} {A : Nat → Prop} {tysC : List (ClassId × FieldType)} {ws wc wr : va_W} {cc : ByteArray} {nL : Nat} {own : String} {Ts : List Cond} {Q : State → Prop} {pc : Nat} {rest st0 : List Value} {cells slots mc ms : Nat}
theorem sr_cVM {As : List Value} {b : Nat} {y : MethodName} {bytes : ByteArray} {maxL n index : Nat} {rt : Option FieldType} {rm : Room} {Cn : String} {F : u_T} {N ci : Nat} {fs : List Value} {lv : List (Nat × Value)} {wy : List Cond} {post : Int32 → sr_U → Prop} {wf : sr_U → va_W} {tf : sr_U → List (ClassId × FieldType)} (Nn : NW s) (S : CallFix p m c cc nL s args Ts own) (hA : ∀ q, H0.size ≤ q → A q) (Z : sr_Z D A H0 ws H locs) (C : ws.Perm (wc ++ wr)) (Kc : va_K D classes tysC s) (hM : Met l y wy rm (sr_Pm D wc tysC H.size (.ref b :: As)) (va_Qi post (fun u t => sr_B D (tf u) (va_A wc H.size) (wf u) t) (va_A wc H.size)) mc ms (va_A wc H.size)) (cw : CallW R s args own Cn index y bytes maxL rt wy rm mc ms n) (q0 : Nat) (he : ws[q0]? = some (b, .inr (ci, fs))) (hc : classes[ci]? = some (Cn, F, N)) (hn : As.length = n) (hl : lv_has ls nL lv) (hst : st0 = As.reverse ++ .ref b :: rest) (hW : (rest.map fun v => v.category).sum ≤ 8) (hdg : decode cc pc = .ok (.invokevirtual index, 3)) (hf : cells + mc ≤ R.cells ∧ slots + ms ≤ R.slots)
    (kk : ∀ (r : Int32) (u : sr_U) (H : Heap) (locs : List Loc), post r u → va_K D classes (tf u) s → sr_Z D A H0 (wf u ++ wr) H locs → W p l e R s m args below meth c H locs (cells + mc) (slots + ms) Q (F0 m (pc + 3) ls (.int r :: rest))) : W p l e R s m args below meth c H locs cells slots Q (F0 m pc ls st0) := by
  obtain ⟨hF, hPc, hDc, -⟩ := sr_join Z.1 Z.2.1 Z.2.2 hA ⟨wr, C, List.Perm.refl (wc ++ wr)⟩
  have pr := sr_preM (av := .ref b :: As) Nn Kc hPc hDc
  refine va_calli (va_runV S hM cw ⟨pr.1, va_recv Kc Z.1 hc he, pr.2⟩ rfl hn hl.1 hst (lv_room hW) hdg hf) Z.2.2 (fun q _ h => hF q h) hF (fun r u t H1 locs1 ht hvm hw hB hz1 hk1 hS1 => ?_)
  obtain ⟨hP1, hK1, hD1⟩ := hB
  rw [ht] at hP1
  obtain ⟨-, -, -, hj⟩ := sr_join Z.1 Z.2.1 Z.2.2 hA ⟨wr, C, List.Perm.refl (wf u ++ wr)⟩
  obtain ⟨hP2, hD2⟩ := hj H1 hk1 hP1 hD1
  exact kk r u H1 locs1 hw (va_K.moved hvm.symm hK1) ⟨hP2, hD2, hS1⟩
end
section
variable {p : Program} {l : Launch} {e : Env} {s : State} {m : MethodId} {args : Array Value} {below : List Frame} {meth : Method} {c : Code} {A : Nat → Prop} {Q : State → Prop} {x0 : Cond} {sb L0 : Nat} {xs : Nat → Int32} {D : va_G} {g : Nat → Nat} {vs : ClassId} {h : Nat → Nat} {t : Nat → ClassId} {ro : Nat → Nat} {rv : Nat → ClassId} {hm : Nat → Nat} {tm : Nat → ClassId} {W0 : va_W} {N B k cells slots : Nat} {H : Heap} {locs : List Loc} {ls : Array Slot}
theorem lw_ld {cc : ByteArray} {R : Room} {H0 : Heap} {rest : List Value} {pc : Nat} {j : Nat} {i : Int32} (hx : p.tables.exec = Jvm.exec) (hb : c.code = cc) (hX : va_X sb L0 xs s H0) (hbl : sb < H0.size) (hbA : ¬ A sb) (hS : va_S A H0 H locs) (hi : i = nI j) (hj : j < L0) (hL : L0 < 2 ^ 31) (hdg : decode cc pc = .ok (.iaload, 1)) (kk : W p l e R s m args below meth c H locs cells slots Q (F0 m (pc + 1) ls (.int (xs j) :: rest))) : W p l e R s m args below meth c H locs cells slots Q (F0 m pc ls (.int i :: .ref sb :: rest)) := by
  subst hi
  refine va_sld hx hb hX hbl hbA hS (vp_in_nI hj hL) hdg ?_
  rw [nI_clamp (by omega)]
  exact kk
set_option maxHeartbeats 4000000 in
set_option maxRecDepth 100000 in
theorem lw_add (F : LF p s m args c A x0 sb L0 xs) (hL : LI D g vs h t ro rv hm tm s W0 N B) (hB : B + 470000 < 2 ^ 30) (hk : 6 * k + 5 < L0) (hL0 : L0 < 2 ^ 31) (Z : sr_Z D A s.heap W0 H locs) (hl : lv_has ls 4 [(0, .ref sb), (1, .ref (g 0)), (2, .ref (hm 0)), (3, .int (nI (6 * k)))]) (hf : cells ≤ room_1.cells ∧ slots ≤ room_1.slots) (kk : ∀ (W2 : va_W) (H : Heap) (locs : List Loc), LI D g vs h t ro rv hm tm s W2 N (B + 460000) → sr_Z D A s.heap W2 H locs → W p l e room_1 s m args below meth c H locs cells slots Q (F0 m 697 ls [])) : W p l e room_1 s m args below meth c H locs cells slots Q (F0 m 116 ls []) := by
  obtain ⟨hx, hb, hml, hown, hts, hA, hX, hbl, hbA⟩ := F
  obtain ⟨r, W1, W2, ⟨fs1, a1⟩, ⟨fs2, a2⟩, ⟨ty1, wc1, v1, C1, K1, M1⟩, ⟨ty2, wc2, v2, C2, K2, M2⟩, hL2⟩ := op_add (l := l) hL (xs (6 * k + 1)) (xs (6 * k + 2)) (xs (6 * k + 3)) (xs (6 * k + 4)) (xs (6 * k + 5))
  refine lv_aload_n hx hb d_W_law_116 rfl (lv_at hl 1 rfl) ?_
  refine lv_aload_n hx hb d_W_law_117 rfl (lv_at hl 0 rfl) ?_
  refine lv_iload_n hx hb d_W_law_118 rfl (lv_at hl 3 rfl) ?_
  refine lv_iconst (v := 1) hx hb d_W_law_119 (by decide) ?_
  refine lv_iadd hx hb d_W_law_120 ?_
  refine lw_ld (j := 6 * k + 1) hx hb hX hbl hbA Z.2.2 (nI_add (6 * k) 1) (by omega) (by omega) d_W_law_121 ?_
  refine lv_aload_n hx hb d_W_law_122 rfl (lv_at hl 0 rfl) ?_
  refine lv_iload_n hx hb d_W_law_123 rfl (lv_at hl 3 rfl) ?_
  refine lv_iconst (v := 2) hx hb d_W_law_124 (by decide) ?_
  refine lv_iadd hx hb d_W_law_125 ?_
  refine lw_ld (j := 6 * k + 2) hx hb hX hbl hbA Z.2.2 (nI_add (6 * k) 2) (by omega) (by omega) d_W_law_126 ?_
  refine lv_aload_n hx hb d_W_law_127 rfl (lv_at hl 0 rfl) ?_
  refine lv_iload_n hx hb d_W_law_128 rfl (lv_at hl 3 rfl) ?_
  refine lv_iconst (v := 3) hx hb d_W_law_129 (by decide) ?_
  refine lv_iadd hx hb d_W_law_130 ?_
  refine lw_ld (j := 6 * k + 3) hx hb hX hbl hbA Z.2.2 (nI_add (6 * k) 3) (by omega) (by omega) d_W_law_131 ?_
  refine lv_aload_n hx hb d_W_law_132 rfl (lv_at hl 0 rfl) ?_
  refine lv_iload_n hx hb d_W_law_133 rfl (lv_at hl 3 rfl) ?_
  refine lv_iconst (v := 4) hx hb d_W_law_134 (by decide) ?_
  refine lv_iadd hx hb d_W_law_135 ?_
  refine lw_ld (j := 6 * k + 4) hx hb hX hbl hbA Z.2.2 (nI_add (6 * k) 4) (by omega) (by omega) d_W_law_136 ?_
  refine lv_aload_n hx hb d_W_law_137 rfl (lv_at hl 0 rfl) ?_
  refine lv_iload_n hx hb d_W_law_138 rfl (lv_at hl 3 rfl) ?_
  refine lv_iconst (v := 5) hx hb d_W_law_139 (by decide) ?_
  refine lv_iadd hx hb d_W_law_140 ?_
  refine lw_ld (j := 6 * k + 5) hx hb hX hbl hbA Z.2.2 (nI_add (6 * k) 5) (by omega) (by omega) d_W_law_141 ?_
  refine sr_cViC (As := [.int (xs (6 * k + 1)), .int (xs (6 * k + 2)), .int (xs (6 * k + 3)), .int (xs (6 * k + 4)), .int (xs (6 * k + 5))]) (rest := []) ⟨hx, hb, hml, hown, hts⟩ hA Z C1 K1 (M1 _) (cw_W_13 hts (by decide)) 28 a1 rfl rfl hl rfl (Nat.le_of_ble_eq_true rfl) d_W_law_142 ⟨Nat.le_trans (Nat.le_of_eq (Nat.add_zero _)) hf.1, Nat.le_trans (Nat.le_of_eq (Nat.add_zero _)) hf.2⟩ (fun H locs Z => ?_)
  refine lv_aload_n hx hb d_W_law_145 rfl (lv_at hl 2 rfl) ?_
  refine lv_aload_n hx hb d_W_law_146 rfl (lv_at hl 0 rfl) ?_
  refine lv_iload_n hx hb d_W_law_147 rfl (lv_at hl 3 rfl) ?_
  refine lv_iconst (v := 1) hx hb d_W_law_148 (by decide) ?_
  refine lv_iadd hx hb d_W_law_149 ?_
  refine lw_ld (j := 6 * k + 1) hx hb hX hbl hbA Z.2.2 (nI_add (6 * k) 1) (by omega) (by omega) d_W_law_150 ?_
  refine lv_aload_n hx hb d_W_law_151 rfl (lv_at hl 0 rfl) ?_
  refine lv_iload_n hx hb d_W_law_152 rfl (lv_at hl 3 rfl) ?_
  refine lv_iconst (v := 2) hx hb d_W_law_153 (by decide) ?_
  refine lv_iadd hx hb d_W_law_154 ?_
  refine lw_ld (j := 6 * k + 2) hx hb hX hbl hbA Z.2.2 (nI_add (6 * k) 2) (by omega) (by omega) d_W_law_155 ?_
  refine lv_aload_n hx hb d_W_law_156 rfl (lv_at hl 0 rfl) ?_
  refine lv_iload_n hx hb d_W_law_157 rfl (lv_at hl 3 rfl) ?_
  refine lv_iconst (v := 3) hx hb d_W_law_158 (by decide) ?_
  refine lv_iadd hx hb d_W_law_159 ?_
  refine lw_ld (j := 6 * k + 3) hx hb hX hbl hbA Z.2.2 (nI_add (6 * k) 3) (by omega) (by omega) d_W_law_160 ?_
  refine lv_aload_n hx hb d_W_law_161 rfl (lv_at hl 0 rfl) ?_
  refine lv_iload_n hx hb d_W_law_162 rfl (lv_at hl 3 rfl) ?_
  refine lv_iconst (v := 4) hx hb d_W_law_163 (by decide) ?_
  refine lv_iadd hx hb d_W_law_164 ?_
  refine lw_ld (j := 6 * k + 4) hx hb hX hbl hbA Z.2.2 (nI_add (6 * k) 4) (by omega) (by omega) d_W_law_165 ?_
  refine lv_aload_n hx hb d_W_law_166 rfl (lv_at hl 0 rfl) ?_
  refine lv_iload_n hx hb d_W_law_167 rfl (lv_at hl 3 rfl) ?_
  refine lv_iconst (v := 5) hx hb d_W_law_168 (by decide) ?_
  refine lv_iadd hx hb d_W_law_169 ?_
  refine lw_ld (j := 6 * k + 5) hx hb hX hbl hbA Z.2.2 (nI_add (6 * k) 5) (by omega) (by omega) d_W_law_170 ?_
  refine sr_cViC (As := [.int (xs (6 * k + 1)), .int (xs (6 * k + 2)), .int (xs (6 * k + 3)), .int (xs (6 * k + 4)), .int (xs (6 * k + 5))]) (rest := [.int r]) ⟨hx, hb, hml, hown, hts⟩ hA Z C2 K2 (M2 _) (cw_W_17 hts (by decide)) 0 a2 rfl rfl hl rfl (Nat.le_of_ble_eq_true rfl) d_W_law_171 ⟨Nat.le_trans (Nat.le_of_eq (Nat.add_zero _)) hf.1, Nat.le_trans (Nat.le_of_eq (Nat.add_zero _)) hf.2⟩ (fun H locs Z => ?_)
  refine lv_icmp_eq (tgt := 697) hx hb d_W_law_174 rfl (fun _ => ?_) (fun q => absurd rfl q)
  exact kk W2 _ _ hL2 Z
set_option maxHeartbeats 4000000 in
set_option maxRecDepth 100000 in
theorem lw_join (F : LF p s m args c A x0 sb L0 xs) (hL : LI D g vs h t ro rv hm tm s W0 N B) (hB : B + 470000 < 2 ^ 30) (hk : 6 * k + 5 < L0) (hL0 : L0 < 2 ^ 31) (Z : sr_Z D A s.heap W0 H locs) (hl : lv_has ls 4 [(0, .ref sb), (1, .ref (g 0)), (2, .ref (hm 0)), (3, .int (nI (6 * k)))]) (hf : cells ≤ room_1.cells ∧ slots ≤ room_1.slots) (kk : ∀ (W2 : va_W) (H : Heap) (locs : List Loc), LI D g vs h t ro rv hm tm s W2 N (B + 460000) → sr_Z D A s.heap W2 H locs → W p l e room_1 s m args below meth c H locs cells slots Q (F0 m 697 ls [])) : W p l e room_1 s m args below meth c H locs cells slots Q (F0 m 179 ls []) := by
  obtain ⟨hx, hb, hml, hown, hts, hA, hX, hbl, hbA⟩ := F
  obtain ⟨r, W1, W2, ⟨fs1, a1⟩, ⟨fs2, a2⟩, ⟨ty1, wc1, v1, C1, K1, M1⟩, ⟨ty2, wc2, v2, C2, K2, M2⟩, hL2⟩ := op_join (l := l) hL (xs (6 * k + 1)) (xs (6 * k + 2))
  refine lv_aload_n hx hb d_W_law_179 rfl (lv_at hl 1 rfl) ?_
  refine lv_aload_n hx hb d_W_law_180 rfl (lv_at hl 0 rfl) ?_
  refine lv_iload_n hx hb d_W_law_181 rfl (lv_at hl 3 rfl) ?_
  refine lv_iconst (v := 1) hx hb d_W_law_182 (by decide) ?_
  refine lv_iadd hx hb d_W_law_183 ?_
  refine lw_ld (j := 6 * k + 1) hx hb hX hbl hbA Z.2.2 (nI_add (6 * k) 1) (by omega) (by omega) d_W_law_184 ?_
  refine lv_aload_n hx hb d_W_law_185 rfl (lv_at hl 0 rfl) ?_
  refine lv_iload_n hx hb d_W_law_186 rfl (lv_at hl 3 rfl) ?_
  refine lv_iconst (v := 2) hx hb d_W_law_187 (by decide) ?_
  refine lv_iadd hx hb d_W_law_188 ?_
  refine lw_ld (j := 6 * k + 2) hx hb hX hbl hbA Z.2.2 (nI_add (6 * k) 2) (by omega) (by omega) d_W_law_189 ?_
  refine sr_cViC (As := [.int (xs (6 * k + 1)), .int (xs (6 * k + 2))]) (rest := []) ⟨hx, hb, hml, hown, hts⟩ hA Z C1 K1 (M1 _) (cw_W_18 hts (by decide)) 28 a1 rfl rfl hl rfl (Nat.le_of_ble_eq_true rfl) d_W_law_190 ⟨Nat.le_trans (Nat.le_of_eq (Nat.add_zero _)) hf.1, Nat.le_trans (Nat.le_of_eq (Nat.add_zero _)) hf.2⟩ (fun H locs Z => ?_)
  refine lv_aload_n hx hb d_W_law_193 rfl (lv_at hl 2 rfl) ?_
  refine lv_aload_n hx hb d_W_law_194 rfl (lv_at hl 0 rfl) ?_
  refine lv_iload_n hx hb d_W_law_195 rfl (lv_at hl 3 rfl) ?_
  refine lv_iconst (v := 1) hx hb d_W_law_196 (by decide) ?_
  refine lv_iadd hx hb d_W_law_197 ?_
  refine lw_ld (j := 6 * k + 1) hx hb hX hbl hbA Z.2.2 (nI_add (6 * k) 1) (by omega) (by omega) d_W_law_198 ?_
  refine lv_aload_n hx hb d_W_law_199 rfl (lv_at hl 0 rfl) ?_
  refine lv_iload_n hx hb d_W_law_200 rfl (lv_at hl 3 rfl) ?_
  refine lv_iconst (v := 2) hx hb d_W_law_201 (by decide) ?_
  refine lv_iadd hx hb d_W_law_202 ?_
  refine lw_ld (j := 6 * k + 2) hx hb hX hbl hbA Z.2.2 (nI_add (6 * k) 2) (by omega) (by omega) d_W_law_203 ?_
  refine sr_cViC (As := [.int (xs (6 * k + 1)), .int (xs (6 * k + 2))]) (rest := [.int r]) ⟨hx, hb, hml, hown, hts⟩ hA Z C2 K2 (M2 _) (cw_W_22 hts (by decide)) 0 a2 rfl rfl hl rfl (Nat.le_of_ble_eq_true rfl) d_W_law_204 ⟨Nat.le_trans (Nat.le_of_eq (Nat.add_zero _)) hf.1, Nat.le_trans (Nat.le_of_eq (Nat.add_zero _)) hf.2⟩ (fun H locs Z => ?_)
  refine lv_icmp_eq (tgt := 697) hx hb d_W_law_207 rfl (fun _ => ?_) (fun q => absurd rfl q)
  exact kk W2 _ _ hL2 Z
set_option maxHeartbeats 4000000 in
set_option maxRecDepth 100000 in
theorem lw_link (F : LF p s m args c A x0 sb L0 xs) (hL : LI D g vs h t ro rv hm tm s W0 N B) (hB : B + 470000 < 2 ^ 30) (hk : 6 * k + 5 < L0) (hL0 : L0 < 2 ^ 31) (Z : sr_Z D A s.heap W0 H locs) (hl : lv_has ls 4 [(0, .ref sb), (1, .ref (g 0)), (2, .ref (hm 0)), (3, .int (nI (6 * k)))]) (hf : cells ≤ room_1.cells ∧ slots ≤ room_1.slots) (kk : ∀ (W2 : va_W) (H : Heap) (locs : List Loc), LI D g vs h t ro rv hm tm s W2 N (B + 460000) → sr_Z D A s.heap W2 H locs → W p l e room_1 s m args below meth c H locs cells slots Q (F0 m 697 ls [])) : W p l e room_1 s m args below meth c H locs cells slots Q (F0 m 212 ls []) := by
  obtain ⟨hx, hb, hml, hown, hts, hA, hX, hbl, hbA⟩ := F
  obtain ⟨r, W1, W2, ⟨fs1, a1⟩, ⟨fs2, a2⟩, ⟨ty1, wc1, v1, C1, K1, M1⟩, ⟨ty2, wc2, v2, C2, K2, M2⟩, hL2⟩ := op_link (l := l) hL (xs (6 * k + 1)) (xs (6 * k + 2)) (xs (6 * k + 3)) (xs (6 * k + 4))
  refine lv_aload_n hx hb d_W_law_212 rfl (lv_at hl 1 rfl) ?_
  refine lv_aload_n hx hb d_W_law_213 rfl (lv_at hl 0 rfl) ?_
  refine lv_iload_n hx hb d_W_law_214 rfl (lv_at hl 3 rfl) ?_
  refine lv_iconst (v := 1) hx hb d_W_law_215 (by decide) ?_
  refine lv_iadd hx hb d_W_law_216 ?_
  refine lw_ld (j := 6 * k + 1) hx hb hX hbl hbA Z.2.2 (nI_add (6 * k) 1) (by omega) (by omega) d_W_law_217 ?_
  refine lv_aload_n hx hb d_W_law_218 rfl (lv_at hl 0 rfl) ?_
  refine lv_iload_n hx hb d_W_law_219 rfl (lv_at hl 3 rfl) ?_
  refine lv_iconst (v := 2) hx hb d_W_law_220 (by decide) ?_
  refine lv_iadd hx hb d_W_law_221 ?_
  refine lw_ld (j := 6 * k + 2) hx hb hX hbl hbA Z.2.2 (nI_add (6 * k) 2) (by omega) (by omega) d_W_law_222 ?_
  refine lv_aload_n hx hb d_W_law_223 rfl (lv_at hl 0 rfl) ?_
  refine lv_iload_n hx hb d_W_law_224 rfl (lv_at hl 3 rfl) ?_
  refine lv_iconst (v := 3) hx hb d_W_law_225 (by decide) ?_
  refine lv_iadd hx hb d_W_law_226 ?_
  refine lw_ld (j := 6 * k + 3) hx hb hX hbl hbA Z.2.2 (nI_add (6 * k) 3) (by omega) (by omega) d_W_law_227 ?_
  refine lv_aload_n hx hb d_W_law_228 rfl (lv_at hl 0 rfl) ?_
  refine lv_iload_n hx hb d_W_law_229 rfl (lv_at hl 3 rfl) ?_
  refine lv_iconst (v := 4) hx hb d_W_law_230 (by decide) ?_
  refine lv_iadd hx hb d_W_law_231 ?_
  refine lw_ld (j := 6 * k + 4) hx hb hX hbl hbA Z.2.2 (nI_add (6 * k) 4) (by omega) (by omega) d_W_law_232 ?_
  refine sr_cViC (As := [.int (xs (6 * k + 1)), .int (xs (6 * k + 2)), .int (xs (6 * k + 3)), .int (xs (6 * k + 4))]) (rest := []) ⟨hx, hb, hml, hown, hts⟩ hA Z C1 K1 (M1 _) (cw_W_23 hts (by decide)) 28 a1 rfl rfl hl rfl (Nat.le_of_ble_eq_true rfl) d_W_law_233 ⟨Nat.le_trans (Nat.le_of_eq (Nat.add_zero _)) hf.1, Nat.le_trans (Nat.le_of_eq (Nat.add_zero _)) hf.2⟩ (fun H locs Z => ?_)
  refine lv_aload_n hx hb d_W_law_236 rfl (lv_at hl 2 rfl) ?_
  refine lv_aload_n hx hb d_W_law_237 rfl (lv_at hl 0 rfl) ?_
  refine lv_iload_n hx hb d_W_law_238 rfl (lv_at hl 3 rfl) ?_
  refine lv_iconst (v := 1) hx hb d_W_law_239 (by decide) ?_
  refine lv_iadd hx hb d_W_law_240 ?_
  refine lw_ld (j := 6 * k + 1) hx hb hX hbl hbA Z.2.2 (nI_add (6 * k) 1) (by omega) (by omega) d_W_law_241 ?_
  refine lv_aload_n hx hb d_W_law_242 rfl (lv_at hl 0 rfl) ?_
  refine lv_iload_n hx hb d_W_law_243 rfl (lv_at hl 3 rfl) ?_
  refine lv_iconst (v := 2) hx hb d_W_law_244 (by decide) ?_
  refine lv_iadd hx hb d_W_law_245 ?_
  refine lw_ld (j := 6 * k + 2) hx hb hX hbl hbA Z.2.2 (nI_add (6 * k) 2) (by omega) (by omega) d_W_law_246 ?_
  refine lv_aload_n hx hb d_W_law_247 rfl (lv_at hl 0 rfl) ?_
  refine lv_iload_n hx hb d_W_law_248 rfl (lv_at hl 3 rfl) ?_
  refine lv_iconst (v := 3) hx hb d_W_law_249 (by decide) ?_
  refine lv_iadd hx hb d_W_law_250 ?_
  refine lw_ld (j := 6 * k + 3) hx hb hX hbl hbA Z.2.2 (nI_add (6 * k) 3) (by omega) (by omega) d_W_law_251 ?_
  refine lv_aload_n hx hb d_W_law_252 rfl (lv_at hl 0 rfl) ?_
  refine lv_iload_n hx hb d_W_law_253 rfl (lv_at hl 3 rfl) ?_
  refine lv_iconst (v := 4) hx hb d_W_law_254 (by decide) ?_
  refine lv_iadd hx hb d_W_law_255 ?_
  refine lw_ld (j := 6 * k + 4) hx hb hX hbl hbA Z.2.2 (nI_add (6 * k) 4) (by omega) (by omega) d_W_law_256 ?_
  refine sr_cViC (As := [.int (xs (6 * k + 1)), .int (xs (6 * k + 2)), .int (xs (6 * k + 3)), .int (xs (6 * k + 4))]) (rest := [.int r]) ⟨hx, hb, hml, hown, hts⟩ hA Z C2 K2 (M2 _) (cw_W_27 hts (by decide)) 0 a2 rfl rfl hl rfl (Nat.le_of_ble_eq_true rfl) d_W_law_257 ⟨Nat.le_trans (Nat.le_of_eq (Nat.add_zero _)) hf.1, Nat.le_trans (Nat.le_of_eq (Nat.add_zero _)) hf.2⟩ (fun H locs Z => ?_)
  refine lv_icmp_eq (tgt := 697) hx hb d_W_law_260 rfl (fun _ => ?_) (fun q => absurd rfl q)
  exact kk W2 _ _ hL2 Z
set_option maxHeartbeats 4000000 in
set_option maxRecDepth 100000 in
theorem lw_deploy (F : LF p s m args c A x0 sb L0 xs) (hL : LI D g vs h t ro rv hm tm s W0 N B) (hB : B + 470000 < 2 ^ 30) (hk : 6 * k + 5 < L0) (hL0 : L0 < 2 ^ 31) (Z : sr_Z D A s.heap W0 H locs) (hl : lv_has ls 4 [(0, .ref sb), (1, .ref (g 0)), (2, .ref (hm 0)), (3, .int (nI (6 * k)))]) (hf : cells ≤ room_1.cells ∧ slots ≤ room_1.slots) (kk : ∀ (W2 : va_W) (H : Heap) (locs : List Loc), LI D g vs h t ro rv hm tm s W2 N (B + 460000) → sr_Z D A s.heap W2 H locs → W p l e room_1 s m args below meth c H locs cells slots Q (F0 m 697 ls [])) : W p l e room_1 s m args below meth c H locs cells slots Q (F0 m 265 ls []) := by
  obtain ⟨hx, hb, hml, hown, hts, hA, hX, hbl, hbA⟩ := F
  obtain ⟨r, W1, W2, ⟨fs1, a1⟩, ⟨fs2, a2⟩, ⟨ty1, wc1, v1, C1, K1, M1⟩, ⟨ty2, wc2, v2, C2, K2, M2⟩, hL2⟩ := op_deploy (l := l) hL 
  refine lv_aload_n hx hb d_W_law_265 rfl (lv_at hl 1 rfl) ?_
  refine sr_cViC (As := []) (rest := []) ⟨hx, hb, hml, hown, hts⟩ hA Z C1 K1 (M1 _) (cw_W_28 hts (by decide)) 28 a1 rfl rfl hl rfl (Nat.le_of_ble_eq_true rfl) d_W_law_266 ⟨Nat.le_trans (Nat.le_of_eq (Nat.add_zero _)) hf.1, Nat.le_trans (Nat.le_of_eq (Nat.add_zero _)) hf.2⟩ (fun H locs Z => ?_)
  refine lv_aload_n hx hb d_W_law_269 rfl (lv_at hl 2 rfl) ?_
  refine sr_cViC (As := []) (rest := [.int r]) ⟨hx, hb, hml, hown, hts⟩ hA Z C2 K2 (M2 _) (cw_W_32 hts (by decide)) 0 a2 rfl rfl hl rfl (Nat.le_of_ble_eq_true rfl) d_W_law_270 ⟨Nat.le_trans (Nat.le_of_eq (Nat.add_zero _)) hf.1, Nat.le_trans (Nat.le_of_eq (Nat.add_zero _)) hf.2⟩ (fun H locs Z => ?_)
  refine lv_icmp_eq (tgt := 697) hx hb d_W_law_273 rfl (fun _ => ?_) (fun q => absurd rfl q)
  exact kk W2 _ _ hL2 Z
set_option maxHeartbeats 4000000 in
set_option maxRecDepth 100000 in
theorem lw_message (F : LF p s m args c A x0 sb L0 xs) (hO : OP l s D g hm W0 y_S_message w_S_message (sr_rm 6 139) y_M_message w_M_message (sr_rm 4 95) [.int (xs (6 * k + 1)), .int (xs (6 * k + 2)), .int (xs (6 * k + 3))] (fun W2 => LI D g vs h t ro rv hm tm s W2 N (B + 460000))) (hk : 6 * k + 5 < L0) (hL0 : L0 < 2 ^ 31) (Z : sr_Z D A s.heap W0 H locs) (hl : lv_has ls 4 [(0, .ref sb), (1, .ref (g 0)), (2, .ref (hm 0)), (3, .int (nI (6 * k)))]) (hf : cells ≤ room_1.cells ∧ slots ≤ room_1.slots) (kk : ∀ (W2 : va_W) (H : Heap) (locs : List Loc), LI D g vs h t ro rv hm tm s W2 N (B + 460000) → sr_Z D A s.heap W2 H locs → W p l e room_1 s m args below meth c H locs cells slots Q (F0 m 697 ls [])) : W p l e room_1 s m args below meth c H locs cells slots Q (F0 m 278 ls []) := by
  obtain ⟨hx, hb, hml, hown, hts, hA, hX, hbl, hbA⟩ := F
  obtain ⟨r, W1, W2, ⟨fs1, a1⟩, ⟨fs2, a2⟩, ⟨ty1, wc1, v1, C1, K1, M1⟩, ⟨ty2, wc2, v2, C2, K2, M2⟩, hL2⟩ := hO
  refine lv_aload_n hx hb d_W_law_278 rfl (lv_at hl 1 rfl) ?_
  refine lv_aload_n hx hb d_W_law_279 rfl (lv_at hl 0 rfl) ?_
  refine lv_iload_n hx hb d_W_law_280 rfl (lv_at hl 3 rfl) ?_
  refine lv_iconst (v := 1) hx hb d_W_law_281 (by decide) ?_
  refine lv_iadd hx hb d_W_law_282 ?_
  refine lw_ld (j := 6 * k + 1) hx hb hX hbl hbA Z.2.2 (nI_add (6 * k) 1) (by omega) (by omega) d_W_law_283 ?_
  refine lv_aload_n hx hb d_W_law_284 rfl (lv_at hl 0 rfl) ?_
  refine lv_iload_n hx hb d_W_law_285 rfl (lv_at hl 3 rfl) ?_
  refine lv_iconst (v := 2) hx hb d_W_law_286 (by decide) ?_
  refine lv_iadd hx hb d_W_law_287 ?_
  refine lw_ld (j := 6 * k + 2) hx hb hX hbl hbA Z.2.2 (nI_add (6 * k) 2) (by omega) (by omega) d_W_law_288 ?_
  refine lv_aload_n hx hb d_W_law_289 rfl (lv_at hl 0 rfl) ?_
  refine lv_iload_n hx hb d_W_law_290 rfl (lv_at hl 3 rfl) ?_
  refine lv_iconst (v := 3) hx hb d_W_law_291 (by decide) ?_
  refine lv_iadd hx hb d_W_law_292 ?_
  refine lw_ld (j := 6 * k + 3) hx hb hX hbl hbA Z.2.2 (nI_add (6 * k) 3) (by omega) (by omega) d_W_law_293 ?_
  refine sr_cViC (As := [.int (xs (6 * k + 1)), .int (xs (6 * k + 2)), .int (xs (6 * k + 3))]) (rest := []) ⟨hx, hb, hml, hown, hts⟩ hA Z C1 K1 (M1 _) (cw_W_33 hts (by decide)) 28 a1 rfl rfl hl rfl (Nat.le_of_ble_eq_true rfl) d_W_law_294 ⟨Nat.le_trans (Nat.le_of_eq (Nat.add_zero _)) hf.1, Nat.le_trans (Nat.le_of_eq (Nat.add_zero _)) hf.2⟩ (fun H locs Z => ?_)
  refine lv_aload_n hx hb d_W_law_297 rfl (lv_at hl 2 rfl) ?_
  refine lv_aload_n hx hb d_W_law_298 rfl (lv_at hl 0 rfl) ?_
  refine lv_iload_n hx hb d_W_law_299 rfl (lv_at hl 3 rfl) ?_
  refine lv_iconst (v := 1) hx hb d_W_law_300 (by decide) ?_
  refine lv_iadd hx hb d_W_law_301 ?_
  refine lw_ld (j := 6 * k + 1) hx hb hX hbl hbA Z.2.2 (nI_add (6 * k) 1) (by omega) (by omega) d_W_law_302 ?_
  refine lv_aload_n hx hb d_W_law_303 rfl (lv_at hl 0 rfl) ?_
  refine lv_iload_n hx hb d_W_law_304 rfl (lv_at hl 3 rfl) ?_
  refine lv_iconst (v := 2) hx hb d_W_law_305 (by decide) ?_
  refine lv_iadd hx hb d_W_law_306 ?_
  refine lw_ld (j := 6 * k + 2) hx hb hX hbl hbA Z.2.2 (nI_add (6 * k) 2) (by omega) (by omega) d_W_law_307 ?_
  refine lv_aload_n hx hb d_W_law_308 rfl (lv_at hl 0 rfl) ?_
  refine lv_iload_n hx hb d_W_law_309 rfl (lv_at hl 3 rfl) ?_
  refine lv_iconst (v := 3) hx hb d_W_law_310 (by decide) ?_
  refine lv_iadd hx hb d_W_law_311 ?_
  refine lw_ld (j := 6 * k + 3) hx hb hX hbl hbA Z.2.2 (nI_add (6 * k) 3) (by omega) (by omega) d_W_law_312 ?_
  refine sr_cViC (As := [.int (xs (6 * k + 1)), .int (xs (6 * k + 2)), .int (xs (6 * k + 3))]) (rest := [.int r]) ⟨hx, hb, hml, hown, hts⟩ hA Z C2 K2 (M2 _) (cw_W_37 hts (by decide)) 0 a2 rfl rfl hl rfl (Nat.le_of_ble_eq_true rfl) d_W_law_313 ⟨Nat.le_trans (Nat.le_of_eq (Nat.add_zero _)) hf.1, Nat.le_trans (Nat.le_of_eq (Nat.add_zero _)) hf.2⟩ (fun H locs Z => ?_)
  refine lv_icmp_eq (tgt := 697) hx hb d_W_law_316 rfl (fun _ => ?_) (fun q => absurd rfl q)
  exact kk W2 _ _ hL2 Z
set_option maxHeartbeats 4000000 in
set_option maxRecDepth 100000 in
theorem lw_messagem (F : LF p s m args c A x0 sb L0 xs) (hk : 6 * k + 5 < L0) (hL0 : L0 < 2 ^ 31) (Z : sr_Z D A s.heap W0 H locs) (hl : lv_has ls 4 [(0, .ref sb), (1, .ref (g 0)), (2, .ref (hm 0)), (3, .int (nI (6 * k)))]) (hf : cells + 16 ≤ room_1.cells ∧ slots + 247 ≤ room_1.slots) (hNW : NW s) (hmk : ∃ (wc wr : va_W) (wf : sr_U → va_W) (tf : sr_U → List (ClassId × FieldType)), (∃ fs, W0[28]? = some (g 0, .inr (ci_S, fs))) ∧ W0.Perm (wc ++ wr) ∧ va_K D classes (tNN vs t rv) s ∧ (∀ sz, Met l y_S_message w_S_message ({ frames := 6, cells := 16, slots := 247, locals := 139 }) (sr_Pm D wc (tNN vs t rv) sz [.ref (g 0), .int (xs (6 * k + 1)), .int (xs (6 * k + 2)), .int (xs (6 * k + 3))]) (va_Qi (fun (r : Int32) (_ : sr_U) => r = nI N) (fun (u : sr_U) t' => sr_B D (tf u) (va_A wc sz) (wf u) t') (va_A wc sz)) 16 247 (va_A wc sz)) ∧ ∀ U : sr_U, va_K D classes (tf U) s → ∃ W1 W2, (wf U ++ wr).Perm W1 ∧ (∃ fs, W1[0]? = some (hm 0, .inr (ci_M, fs))) ∧ SC l s D W1 W2 y_M_message w_M_message (sr_rm 4 95) [.ref (hm 0), .int (xs (6 * k + 1)), .int (xs (6 * k + 2)), .int (xs (6 * k + 3))] (nI N) ∧ LI D g vs h t ro rv hm tm s W2 (N + 1) (B + 460000)) (kk : ∀ (W2 : va_W) (H : Heap) (locs : List Loc), LI D g vs h t ro rv hm tm s W2 (N + 1) (B + 460000) → sr_Z D A s.heap W2 H locs → W p l e room_1 s m args below meth c H locs (cells + 16) (slots + 247) Q (F0 m 697 ls [])) : W p l e room_1 s m args below meth c H locs cells slots Q (F0 m 278 ls []) := by
  obtain ⟨hx, hb, hml, hown, hts, hA, hX, hbl, hbA⟩ := F
  obtain ⟨wc, wr, wf, tf, ⟨fs1, a1⟩, C1, K1, M1, hgo⟩ := hmk
  refine lv_aload_n hx hb d_W_law_278 rfl (lv_at hl 1 rfl) ?_
  refine lv_aload_n hx hb d_W_law_279 rfl (lv_at hl 0 rfl) ?_
  refine lv_iload_n hx hb d_W_law_280 rfl (lv_at hl 3 rfl) ?_
  refine lv_iconst (v := 1) hx hb d_W_law_281 (by decide) ?_
  refine lv_iadd hx hb d_W_law_282 ?_
  refine lw_ld (j := 6 * k + 1) hx hb hX hbl hbA Z.2.2 (nI_add (6 * k) 1) (by omega) (by omega) d_W_law_283 ?_
  refine lv_aload_n hx hb d_W_law_284 rfl (lv_at hl 0 rfl) ?_
  refine lv_iload_n hx hb d_W_law_285 rfl (lv_at hl 3 rfl) ?_
  refine lv_iconst (v := 2) hx hb d_W_law_286 (by decide) ?_
  refine lv_iadd hx hb d_W_law_287 ?_
  refine lw_ld (j := 6 * k + 2) hx hb hX hbl hbA Z.2.2 (nI_add (6 * k) 2) (by omega) (by omega) d_W_law_288 ?_
  refine lv_aload_n hx hb d_W_law_289 rfl (lv_at hl 0 rfl) ?_
  refine lv_iload_n hx hb d_W_law_290 rfl (lv_at hl 3 rfl) ?_
  refine lv_iconst (v := 3) hx hb d_W_law_291 (by decide) ?_
  refine lv_iadd hx hb d_W_law_292 ?_
  refine lw_ld (j := 6 * k + 3) hx hb hX hbl hbA Z.2.2 (nI_add (6 * k) 3) (by omega) (by omega) d_W_law_293 ?_
  refine sr_cVM (As := [.int (xs (6 * k + 1)), .int (xs (6 * k + 2)), .int (xs (6 * k + 3))]) (rest := []) hNW ⟨hx, hb, hml, hown, hts⟩ hA Z C1 K1 (M1 _) (cwm_W_message hts (by decide)) 28 a1 rfl rfl hl rfl (Nat.le_of_ble_eq_true rfl) d_W_law_294 hf (fun r U H locs hr hK1 Z => ?_)
  subst hr
  obtain ⟨W1, W2, hp, ⟨fs2, a2⟩, ⟨ty2, wc2, v2, C2, K2, M2⟩, hL2⟩ := hgo U hK1
  have Z : sr_Z D A s.heap W1 H locs := ⟨sr_P_perm hp Z.1, sr_D_perm hp Z.2.1, Z.2.2⟩
  refine lv_aload_n hx hb d_W_law_297 rfl (lv_at hl 2 rfl) ?_
  refine lv_aload_n hx hb d_W_law_298 rfl (lv_at hl 0 rfl) ?_
  refine lv_iload_n hx hb d_W_law_299 rfl (lv_at hl 3 rfl) ?_
  refine lv_iconst (v := 1) hx hb d_W_law_300 (by decide) ?_
  refine lv_iadd hx hb d_W_law_301 ?_
  refine lw_ld (j := 6 * k + 1) hx hb hX hbl hbA Z.2.2 (nI_add (6 * k) 1) (by omega) (by omega) d_W_law_302 ?_
  refine lv_aload_n hx hb d_W_law_303 rfl (lv_at hl 0 rfl) ?_
  refine lv_iload_n hx hb d_W_law_304 rfl (lv_at hl 3 rfl) ?_
  refine lv_iconst (v := 2) hx hb d_W_law_305 (by decide) ?_
  refine lv_iadd hx hb d_W_law_306 ?_
  refine lw_ld (j := 6 * k + 2) hx hb hX hbl hbA Z.2.2 (nI_add (6 * k) 2) (by omega) (by omega) d_W_law_307 ?_
  refine lv_aload_n hx hb d_W_law_308 rfl (lv_at hl 0 rfl) ?_
  refine lv_iload_n hx hb d_W_law_309 rfl (lv_at hl 3 rfl) ?_
  refine lv_iconst (v := 3) hx hb d_W_law_310 (by decide) ?_
  refine lv_iadd hx hb d_W_law_311 ?_
  refine lw_ld (j := 6 * k + 3) hx hb hX hbl hbA Z.2.2 (nI_add (6 * k) 3) (by omega) (by omega) d_W_law_312 ?_
  refine sr_cViC (As := [.int (xs (6 * k + 1)), .int (xs (6 * k + 2)), .int (xs (6 * k + 3))]) (rest := [.int (nI N)]) ⟨hx, hb, hml, hown, hts⟩ hA Z C2 K2 (M2 _) (cw_W_37 hts (by decide)) 0 a2 rfl rfl hl rfl (Nat.le_of_ble_eq_true rfl) d_W_law_313 ⟨Nat.le_trans (Nat.le_of_eq (Nat.add_zero _)) hf.1, Nat.le_trans (Nat.le_of_eq (Nat.add_zero _)) hf.2⟩ (fun H locs Z => ?_)
  refine lv_icmp_eq (tgt := 697) hx hb d_W_law_316 rfl (fun _ => ?_) (fun q => absurd rfl q)
  exact kk W2 _ _ hL2 Z
set_option maxHeartbeats 4000000 in
set_option maxRecDepth 100000 in
theorem lw_run (F : LF p s m args c A x0 sb L0 xs) (hL : LI D g vs h t ro rv hm tm s W0 N B) (hB : B + 470000 < 2 ^ 30) (hk : 6 * k + 5 < L0) (hL0 : L0 < 2 ^ 31) (Z : sr_Z D A s.heap W0 H locs) (hl : lv_has ls 4 [(0, .ref sb), (1, .ref (g 0)), (2, .ref (hm 0)), (3, .int (nI (6 * k)))]) (hf : cells ≤ room_1.cells ∧ slots ≤ room_1.slots) (kk : ∀ (W2 : va_W) (H : Heap) (locs : List Loc), LI D g vs h t ro rv hm tm s W2 N (B + 460000) → sr_Z D A s.heap W2 H locs → W p l e room_1 s m args below meth c H locs cells slots Q (F0 m 697 ls [])) : W p l e room_1 s m args below meth c H locs cells slots Q (F0 m 321 ls []) := by
  obtain ⟨hx, hb, hml, hown, hts, hA, hX, hbl, hbA⟩ := F
  obtain ⟨r, W1, W2, ⟨fs1, a1⟩, ⟨fs2, a2⟩, ⟨ty1, wc1, v1, C1, K1, M1⟩, ⟨ty2, wc2, v2, C2, K2, M2⟩, hL2⟩ := op_run (l := l) hL hB (xs (6 * k + 1)) (xs (6 * k + 2))
  refine lv_aload_n hx hb d_W_law_321 rfl (lv_at hl 1 rfl) ?_
  refine lv_aload_n hx hb d_W_law_322 rfl (lv_at hl 0 rfl) ?_
  refine lv_iload_n hx hb d_W_law_323 rfl (lv_at hl 3 rfl) ?_
  refine lv_iconst (v := 1) hx hb d_W_law_324 (by decide) ?_
  refine lv_iadd hx hb d_W_law_325 ?_
  refine lw_ld (j := 6 * k + 1) hx hb hX hbl hbA Z.2.2 (nI_add (6 * k) 1) (by omega) (by omega) d_W_law_326 ?_
  refine lv_aload_n hx hb d_W_law_327 rfl (lv_at hl 0 rfl) ?_
  refine lv_iload_n hx hb d_W_law_328 rfl (lv_at hl 3 rfl) ?_
  refine lv_iconst (v := 2) hx hb d_W_law_329 (by decide) ?_
  refine lv_iadd hx hb d_W_law_330 ?_
  refine lw_ld (j := 6 * k + 2) hx hb hX hbl hbA Z.2.2 (nI_add (6 * k) 2) (by omega) (by omega) d_W_law_331 ?_
  refine sr_cViC (As := [.int (xs (6 * k + 1)), .int (xs (6 * k + 2))]) (rest := []) ⟨hx, hb, hml, hown, hts⟩ hA Z C1 K1 (M1 _) (cw_W_38 hts (by decide)) 28 a1 rfl rfl hl rfl (Nat.le_of_ble_eq_true rfl) d_W_law_332 ⟨Nat.le_trans (Nat.le_of_eq (Nat.add_zero _)) hf.1, Nat.le_trans (Nat.le_of_eq (Nat.add_zero _)) hf.2⟩ (fun H locs Z => ?_)
  refine lv_aload_n hx hb d_W_law_335 rfl (lv_at hl 2 rfl) ?_
  refine lv_aload_n hx hb d_W_law_336 rfl (lv_at hl 0 rfl) ?_
  refine lv_iload_n hx hb d_W_law_337 rfl (lv_at hl 3 rfl) ?_
  refine lv_iconst (v := 1) hx hb d_W_law_338 (by decide) ?_
  refine lv_iadd hx hb d_W_law_339 ?_
  refine lw_ld (j := 6 * k + 1) hx hb hX hbl hbA Z.2.2 (nI_add (6 * k) 1) (by omega) (by omega) d_W_law_340 ?_
  refine lv_aload_n hx hb d_W_law_341 rfl (lv_at hl 0 rfl) ?_
  refine lv_iload_n hx hb d_W_law_342 rfl (lv_at hl 3 rfl) ?_
  refine lv_iconst (v := 2) hx hb d_W_law_343 (by decide) ?_
  refine lv_iadd hx hb d_W_law_344 ?_
  refine lw_ld (j := 6 * k + 2) hx hb hX hbl hbA Z.2.2 (nI_add (6 * k) 2) (by omega) (by omega) d_W_law_345 ?_
  refine sr_cViC (As := [.int (xs (6 * k + 1)), .int (xs (6 * k + 2))]) (rest := [.int r]) ⟨hx, hb, hml, hown, hts⟩ hA Z C2 K2 (M2 _) (cw_W_42 hts (by decide)) 0 a2 rfl rfl hl rfl (Nat.le_of_ble_eq_true rfl) d_W_law_346 ⟨Nat.le_trans (Nat.le_of_eq (Nat.add_zero _)) hf.1, Nat.le_trans (Nat.le_of_eq (Nat.add_zero _)) hf.2⟩ (fun H locs Z => ?_)
  refine lv_icmp_eq (tgt := 697) hx hb d_W_law_349 rfl (fun _ => ?_) (fun q => absurd rfl q)
  exact kk W2 _ _ hL2 Z
set_option maxHeartbeats 4000000 in
set_option maxRecDepth 100000 in
theorem lw_answer (F : LF p s m args c A x0 sb L0 xs) (hL : LI D g vs h t ro rv hm tm s W0 N B) (hB : B + 470000 < 2 ^ 30) (hk : 6 * k + 5 < L0) (hL0 : L0 < 2 ^ 31) (Z : sr_Z D A s.heap W0 H locs) (hl : lv_has ls 4 [(0, .ref sb), (1, .ref (g 0)), (2, .ref (hm 0)), (3, .int (nI (6 * k)))]) (hf : cells ≤ room_1.cells ∧ slots ≤ room_1.slots) (kk : ∀ (W2 : va_W) (H : Heap) (locs : List Loc), LI D g vs h t ro rv hm tm s W2 N (B + 460000) → sr_Z D A s.heap W2 H locs → W p l e room_1 s m args below meth c H locs cells slots Q (F0 m 697 ls [])) : W p l e room_1 s m args below meth c H locs cells slots Q (F0 m 354 ls []) := by
  obtain ⟨hx, hb, hml, hown, hts, hA, hX, hbl, hbA⟩ := F
  obtain ⟨r, W1, W2, ⟨fs1, a1⟩, ⟨fs2, a2⟩, ⟨ty1, wc1, v1, C1, K1, M1⟩, ⟨ty2, wc2, v2, C2, K2, M2⟩, hL2⟩ := op_answer (l := l) hL hB (xs (6 * k + 1)) (xs (6 * k + 2)) (xs (6 * k + 3)) (xs (6 * k + 4))
  refine lv_aload_n hx hb d_W_law_354 rfl (lv_at hl 1 rfl) ?_
  refine lv_aload_n hx hb d_W_law_355 rfl (lv_at hl 0 rfl) ?_
  refine lv_iload_n hx hb d_W_law_356 rfl (lv_at hl 3 rfl) ?_
  refine lv_iconst (v := 1) hx hb d_W_law_357 (by decide) ?_
  refine lv_iadd hx hb d_W_law_358 ?_
  refine lw_ld (j := 6 * k + 1) hx hb hX hbl hbA Z.2.2 (nI_add (6 * k) 1) (by omega) (by omega) d_W_law_359 ?_
  refine lv_aload_n hx hb d_W_law_360 rfl (lv_at hl 0 rfl) ?_
  refine lv_iload_n hx hb d_W_law_361 rfl (lv_at hl 3 rfl) ?_
  refine lv_iconst (v := 2) hx hb d_W_law_362 (by decide) ?_
  refine lv_iadd hx hb d_W_law_363 ?_
  refine lw_ld (j := 6 * k + 2) hx hb hX hbl hbA Z.2.2 (nI_add (6 * k) 2) (by omega) (by omega) d_W_law_364 ?_
  refine lv_aload_n hx hb d_W_law_365 rfl (lv_at hl 0 rfl) ?_
  refine lv_iload_n hx hb d_W_law_366 rfl (lv_at hl 3 rfl) ?_
  refine lv_iconst (v := 3) hx hb d_W_law_367 (by decide) ?_
  refine lv_iadd hx hb d_W_law_368 ?_
  refine lw_ld (j := 6 * k + 3) hx hb hX hbl hbA Z.2.2 (nI_add (6 * k) 3) (by omega) (by omega) d_W_law_369 ?_
  refine lv_aload_n hx hb d_W_law_370 rfl (lv_at hl 0 rfl) ?_
  refine lv_iload_n hx hb d_W_law_371 rfl (lv_at hl 3 rfl) ?_
  refine lv_iconst (v := 4) hx hb d_W_law_372 (by decide) ?_
  refine lv_iadd hx hb d_W_law_373 ?_
  refine lw_ld (j := 6 * k + 4) hx hb hX hbl hbA Z.2.2 (nI_add (6 * k) 4) (by omega) (by omega) d_W_law_374 ?_
  refine sr_cViC (As := [.int (xs (6 * k + 1)), .int (xs (6 * k + 2)), .int (xs (6 * k + 3)), .int (xs (6 * k + 4))]) (rest := []) ⟨hx, hb, hml, hown, hts⟩ hA Z C1 K1 (M1 _) (cw_W_43 hts (by decide)) 28 a1 rfl rfl hl rfl (Nat.le_of_ble_eq_true rfl) d_W_law_375 ⟨Nat.le_trans (Nat.le_of_eq (Nat.add_zero _)) hf.1, Nat.le_trans (Nat.le_of_eq (Nat.add_zero _)) hf.2⟩ (fun H locs Z => ?_)
  refine lv_aload_n hx hb d_W_law_378 rfl (lv_at hl 2 rfl) ?_
  refine lv_aload_n hx hb d_W_law_379 rfl (lv_at hl 0 rfl) ?_
  refine lv_iload_n hx hb d_W_law_380 rfl (lv_at hl 3 rfl) ?_
  refine lv_iconst (v := 1) hx hb d_W_law_381 (by decide) ?_
  refine lv_iadd hx hb d_W_law_382 ?_
  refine lw_ld (j := 6 * k + 1) hx hb hX hbl hbA Z.2.2 (nI_add (6 * k) 1) (by omega) (by omega) d_W_law_383 ?_
  refine lv_aload_n hx hb d_W_law_384 rfl (lv_at hl 0 rfl) ?_
  refine lv_iload_n hx hb d_W_law_385 rfl (lv_at hl 3 rfl) ?_
  refine lv_iconst (v := 2) hx hb d_W_law_386 (by decide) ?_
  refine lv_iadd hx hb d_W_law_387 ?_
  refine lw_ld (j := 6 * k + 2) hx hb hX hbl hbA Z.2.2 (nI_add (6 * k) 2) (by omega) (by omega) d_W_law_388 ?_
  refine lv_aload_n hx hb d_W_law_389 rfl (lv_at hl 0 rfl) ?_
  refine lv_iload_n hx hb d_W_law_390 rfl (lv_at hl 3 rfl) ?_
  refine lv_iconst (v := 3) hx hb d_W_law_391 (by decide) ?_
  refine lv_iadd hx hb d_W_law_392 ?_
  refine lw_ld (j := 6 * k + 3) hx hb hX hbl hbA Z.2.2 (nI_add (6 * k) 3) (by omega) (by omega) d_W_law_393 ?_
  refine lv_aload_n hx hb d_W_law_394 rfl (lv_at hl 0 rfl) ?_
  refine lv_iload_n hx hb d_W_law_395 rfl (lv_at hl 3 rfl) ?_
  refine lv_iconst (v := 4) hx hb d_W_law_396 (by decide) ?_
  refine lv_iadd hx hb d_W_law_397 ?_
  refine lw_ld (j := 6 * k + 4) hx hb hX hbl hbA Z.2.2 (nI_add (6 * k) 4) (by omega) (by omega) d_W_law_398 ?_
  refine sr_cViC (As := [.int (xs (6 * k + 1)), .int (xs (6 * k + 2)), .int (xs (6 * k + 3)), .int (xs (6 * k + 4))]) (rest := [.int r]) ⟨hx, hb, hml, hown, hts⟩ hA Z C2 K2 (M2 _) (cw_W_47 hts (by decide)) 0 a2 rfl rfl hl rfl (Nat.le_of_ble_eq_true rfl) d_W_law_399 ⟨Nat.le_trans (Nat.le_of_eq (Nat.add_zero _)) hf.1, Nat.le_trans (Nat.le_of_eq (Nat.add_zero _)) hf.2⟩ (fun H locs Z => ?_)
  refine lv_icmp_eq (tgt := 697) hx hb d_W_law_402 rfl (fun _ => ?_) (fun q => absurd rfl q)
  exact kk W2 _ _ hL2 Z
set_option maxHeartbeats 4000000 in
set_option maxRecDepth 100000 in
theorem lw_terminate (F : LF p s m args c A x0 sb L0 xs) (hL : LI D g vs h t ro rv hm tm s W0 N B) (hB : B + 470000 < 2 ^ 30) (hk : 6 * k + 5 < L0) (hL0 : L0 < 2 ^ 31) (Z : sr_Z D A s.heap W0 H locs) (hl : lv_has ls 4 [(0, .ref sb), (1, .ref (g 0)), (2, .ref (hm 0)), (3, .int (nI (6 * k)))]) (hf : cells ≤ room_1.cells ∧ slots ≤ room_1.slots) (kk : ∀ (W2 : va_W) (H : Heap) (locs : List Loc), LI D g vs h t ro rv hm tm s W2 N (B + 460000) → sr_Z D A s.heap W2 H locs → W p l e room_1 s m args below meth c H locs cells slots Q (F0 m 697 ls [])) : W p l e room_1 s m args below meth c H locs cells slots Q (F0 m 407 ls []) := by
  obtain ⟨hx, hb, hml, hown, hts, hA, hX, hbl, hbA⟩ := F
  obtain ⟨r, W1, W2, ⟨fs1, a1⟩, ⟨fs2, a2⟩, ⟨ty1, wc1, v1, C1, K1, M1⟩, ⟨ty2, wc2, v2, C2, K2, M2⟩, hL2⟩ := op_terminate (l := l) hL hB (xs (6 * k + 1))
  refine lv_aload_n hx hb d_W_law_407 rfl (lv_at hl 1 rfl) ?_
  refine lv_aload_n hx hb d_W_law_408 rfl (lv_at hl 0 rfl) ?_
  refine lv_iload_n hx hb d_W_law_409 rfl (lv_at hl 3 rfl) ?_
  refine lv_iconst (v := 1) hx hb d_W_law_410 (by decide) ?_
  refine lv_iadd hx hb d_W_law_411 ?_
  refine lw_ld (j := 6 * k + 1) hx hb hX hbl hbA Z.2.2 (nI_add (6 * k) 1) (by omega) (by omega) d_W_law_412 ?_
  refine sr_cViC (As := [.int (xs (6 * k + 1))]) (rest := []) ⟨hx, hb, hml, hown, hts⟩ hA Z C1 K1 (M1 _) (cw_W_48 hts (by decide)) 28 a1 rfl rfl hl rfl (Nat.le_of_ble_eq_true rfl) d_W_law_413 ⟨Nat.le_trans (Nat.le_of_eq (Nat.add_zero _)) hf.1, Nat.le_trans (Nat.le_of_eq (Nat.add_zero _)) hf.2⟩ (fun H locs Z => ?_)
  refine lv_aload_n hx hb d_W_law_416 rfl (lv_at hl 2 rfl) ?_
  refine lv_aload_n hx hb d_W_law_417 rfl (lv_at hl 0 rfl) ?_
  refine lv_iload_n hx hb d_W_law_418 rfl (lv_at hl 3 rfl) ?_
  refine lv_iconst (v := 1) hx hb d_W_law_419 (by decide) ?_
  refine lv_iadd hx hb d_W_law_420 ?_
  refine lw_ld (j := 6 * k + 1) hx hb hX hbl hbA Z.2.2 (nI_add (6 * k) 1) (by omega) (by omega) d_W_law_421 ?_
  refine sr_cViC (As := [.int (xs (6 * k + 1))]) (rest := [.int r]) ⟨hx, hb, hml, hown, hts⟩ hA Z C2 K2 (M2 _) (cw_W_52 hts (by decide)) 0 a2 rfl rfl hl rfl (Nat.le_of_ble_eq_true rfl) d_W_law_422 ⟨Nat.le_trans (Nat.le_of_eq (Nat.add_zero _)) hf.1, Nat.le_trans (Nat.le_of_eq (Nat.add_zero _)) hf.2⟩ (fun H locs Z => ?_)
  refine lv_icmp_eq (tgt := 697) hx hb d_W_law_425 rfl (fun _ => ?_) (fun q => absurd rfl q)
  exact kk W2 _ _ hL2 Z
set_option maxHeartbeats 4000000 in
set_option maxRecDepth 100000 in
theorem lw_state (F : LF p s m args c A x0 sb L0 xs) (hL : LI D g vs h t ro rv hm tm s W0 N B) (hB : B + 470000 < 2 ^ 30) (hk : 6 * k + 5 < L0) (hL0 : L0 < 2 ^ 31) (Z : sr_Z D A s.heap W0 H locs) (hl : lv_has ls 4 [(0, .ref sb), (1, .ref (g 0)), (2, .ref (hm 0)), (3, .int (nI (6 * k)))]) (hf : cells ≤ room_1.cells ∧ slots ≤ room_1.slots) (kk : ∀ (W2 : va_W) (H : Heap) (locs : List Loc), LI D g vs h t ro rv hm tm s W2 N (B + 460000) → sr_Z D A s.heap W2 H locs → W p l e room_1 s m args below meth c H locs cells slots Q (F0 m 697 ls [])) : W p l e room_1 s m args below meth c H locs cells slots Q (F0 m 430 ls []) := by
  obtain ⟨hx, hb, hml, hown, hts, hA, hX, hbl, hbA⟩ := F
  obtain ⟨r, W1, W2, ⟨fs1, a1⟩, ⟨fs2, a2⟩, ⟨ty1, wc1, v1, C1, K1, M1⟩, ⟨ty2, wc2, v2, C2, K2, M2⟩, hL2⟩ := op_state (l := l) hL (xs (6 * k + 1))
  refine lv_aload_n hx hb d_W_law_430 rfl (lv_at hl 1 rfl) ?_
  refine lv_aload_n hx hb d_W_law_431 rfl (lv_at hl 0 rfl) ?_
  refine lv_iload_n hx hb d_W_law_432 rfl (lv_at hl 3 rfl) ?_
  refine lv_iconst (v := 1) hx hb d_W_law_433 (by decide) ?_
  refine lv_iadd hx hb d_W_law_434 ?_
  refine lw_ld (j := 6 * k + 1) hx hb hX hbl hbA Z.2.2 (nI_add (6 * k) 1) (by omega) (by omega) d_W_law_435 ?_
  refine sr_cViC (As := [.int (xs (6 * k + 1))]) (rest := []) ⟨hx, hb, hml, hown, hts⟩ hA Z C1 K1 (M1 _) (cw_W_53 hts (by decide)) 28 a1 rfl rfl hl rfl (Nat.le_of_ble_eq_true rfl) d_W_law_436 ⟨Nat.le_trans (Nat.le_of_eq (Nat.add_zero _)) hf.1, Nat.le_trans (Nat.le_of_eq (Nat.add_zero _)) hf.2⟩ (fun H locs Z => ?_)
  refine lv_aload_n hx hb d_W_law_439 rfl (lv_at hl 2 rfl) ?_
  refine lv_aload_n hx hb d_W_law_440 rfl (lv_at hl 0 rfl) ?_
  refine lv_iload_n hx hb d_W_law_441 rfl (lv_at hl 3 rfl) ?_
  refine lv_iconst (v := 1) hx hb d_W_law_442 (by decide) ?_
  refine lv_iadd hx hb d_W_law_443 ?_
  refine lw_ld (j := 6 * k + 1) hx hb hX hbl hbA Z.2.2 (nI_add (6 * k) 1) (by omega) (by omega) d_W_law_444 ?_
  refine sr_cViC (As := [.int (xs (6 * k + 1))]) (rest := [.int r]) ⟨hx, hb, hml, hown, hts⟩ hA Z C2 K2 (M2 _) (cw_W_57 hts (by decide)) 0 a2 rfl rfl hl rfl (Nat.le_of_ble_eq_true rfl) d_W_law_445 ⟨Nat.le_trans (Nat.le_of_eq (Nat.add_zero _)) hf.1, Nat.le_trans (Nat.le_of_eq (Nat.add_zero _)) hf.2⟩ (fun H locs Z => ?_)
  refine lv_icmp_eq (tgt := 697) hx hb d_W_law_448 rfl (fun _ => ?_) (fun q => absurd rfl q)
  exact kk W2 _ _ hL2 Z
set_option maxHeartbeats 4000000 in
set_option maxRecDepth 100000 in
theorem lw_status (F : LF p s m args c A x0 sb L0 xs) (hL : LI D g vs h t ro rv hm tm s W0 N B) (hB : B + 470000 < 2 ^ 30) (hk : 6 * k + 5 < L0) (hL0 : L0 < 2 ^ 31) (Z : sr_Z D A s.heap W0 H locs) (hl : lv_has ls 4 [(0, .ref sb), (1, .ref (g 0)), (2, .ref (hm 0)), (3, .int (nI (6 * k)))]) (hf : cells ≤ room_1.cells ∧ slots ≤ room_1.slots) (kk : ∀ (W2 : va_W) (H : Heap) (locs : List Loc), LI D g vs h t ro rv hm tm s W2 N (B + 460000) → sr_Z D A s.heap W2 H locs → W p l e room_1 s m args below meth c H locs cells slots Q (F0 m 697 ls [])) : W p l e room_1 s m args below meth c H locs cells slots Q (F0 m 453 ls []) := by
  obtain ⟨hx, hb, hml, hown, hts, hA, hX, hbl, hbA⟩ := F
  obtain ⟨r, W1, W2, ⟨fs1, a1⟩, ⟨fs2, a2⟩, ⟨ty1, wc1, v1, C1, K1, M1⟩, ⟨ty2, wc2, v2, C2, K2, M2⟩, hL2⟩ := op_status (l := l) hL (xs (6 * k + 1)) (xs (6 * k + 2))
  refine lv_aload_n hx hb d_W_law_453 rfl (lv_at hl 1 rfl) ?_
  refine lv_aload_n hx hb d_W_law_454 rfl (lv_at hl 0 rfl) ?_
  refine lv_iload_n hx hb d_W_law_455 rfl (lv_at hl 3 rfl) ?_
  refine lv_iconst (v := 1) hx hb d_W_law_456 (by decide) ?_
  refine lv_iadd hx hb d_W_law_457 ?_
  refine lw_ld (j := 6 * k + 1) hx hb hX hbl hbA Z.2.2 (nI_add (6 * k) 1) (by omega) (by omega) d_W_law_458 ?_
  refine lv_aload_n hx hb d_W_law_459 rfl (lv_at hl 0 rfl) ?_
  refine lv_iload_n hx hb d_W_law_460 rfl (lv_at hl 3 rfl) ?_
  refine lv_iconst (v := 2) hx hb d_W_law_461 (by decide) ?_
  refine lv_iadd hx hb d_W_law_462 ?_
  refine lw_ld (j := 6 * k + 2) hx hb hX hbl hbA Z.2.2 (nI_add (6 * k) 2) (by omega) (by omega) d_W_law_463 ?_
  refine sr_cViC (As := [.int (xs (6 * k + 1)), .int (xs (6 * k + 2))]) (rest := []) ⟨hx, hb, hml, hown, hts⟩ hA Z C1 K1 (M1 _) (cw_W_58 hts (by decide)) 28 a1 rfl rfl hl rfl (Nat.le_of_ble_eq_true rfl) d_W_law_464 ⟨Nat.le_trans (Nat.le_of_eq (Nat.add_zero _)) hf.1, Nat.le_trans (Nat.le_of_eq (Nat.add_zero _)) hf.2⟩ (fun H locs Z => ?_)
  refine lv_aload_n hx hb d_W_law_467 rfl (lv_at hl 2 rfl) ?_
  refine lv_aload_n hx hb d_W_law_468 rfl (lv_at hl 0 rfl) ?_
  refine lv_iload_n hx hb d_W_law_469 rfl (lv_at hl 3 rfl) ?_
  refine lv_iconst (v := 1) hx hb d_W_law_470 (by decide) ?_
  refine lv_iadd hx hb d_W_law_471 ?_
  refine lw_ld (j := 6 * k + 1) hx hb hX hbl hbA Z.2.2 (nI_add (6 * k) 1) (by omega) (by omega) d_W_law_472 ?_
  refine lv_aload_n hx hb d_W_law_473 rfl (lv_at hl 0 rfl) ?_
  refine lv_iload_n hx hb d_W_law_474 rfl (lv_at hl 3 rfl) ?_
  refine lv_iconst (v := 2) hx hb d_W_law_475 (by decide) ?_
  refine lv_iadd hx hb d_W_law_476 ?_
  refine lw_ld (j := 6 * k + 2) hx hb hX hbl hbA Z.2.2 (nI_add (6 * k) 2) (by omega) (by omega) d_W_law_477 ?_
  refine sr_cViC (As := [.int (xs (6 * k + 1)), .int (xs (6 * k + 2))]) (rest := [.int r]) ⟨hx, hb, hml, hown, hts⟩ hA Z C2 K2 (M2 _) (cw_W_61 hts (by decide)) 0 a2 rfl rfl hl rfl (Nat.le_of_ble_eq_true rfl) d_W_law_478 ⟨Nat.le_trans (Nat.le_of_eq (Nat.add_zero _)) hf.1, Nat.le_trans (Nat.le_of_eq (Nat.add_zero _)) hf.2⟩ (fun H locs Z => ?_)
  refine lv_icmp_eq (tgt := 697) hx hb d_W_law_481 rfl (fun _ => ?_) (fun q => absurd rfl q)
  exact kk W2 _ _ hL2 Z
set_option maxHeartbeats 4000000 in
set_option maxRecDepth 100000 in
theorem lw_variable (F : LF p s m args c A x0 sb L0 xs) (hL : LI D g vs h t ro rv hm tm s W0 N B) (hB : B + 470000 < 2 ^ 30) (hk : 6 * k + 5 < L0) (hL0 : L0 < 2 ^ 31) (Z : sr_Z D A s.heap W0 H locs) (hl : lv_has ls 4 [(0, .ref sb), (1, .ref (g 0)), (2, .ref (hm 0)), (3, .int (nI (6 * k)))]) (hf : cells ≤ room_1.cells ∧ slots ≤ room_1.slots) (kk : ∀ (W2 : va_W) (H : Heap) (locs : List Loc), LI D g vs h t ro rv hm tm s W2 N (B + 460000) → sr_Z D A s.heap W2 H locs → W p l e room_1 s m args below meth c H locs cells slots Q (F0 m 697 ls [])) : W p l e room_1 s m args below meth c H locs cells slots Q (F0 m 486 ls []) := by
  obtain ⟨hx, hb, hml, hown, hts, hA, hX, hbl, hbA⟩ := F
  obtain ⟨r, W1, W2, ⟨fs1, a1⟩, ⟨fs2, a2⟩, ⟨ty1, wc1, v1, C1, K1, M1⟩, ⟨ty2, wc2, v2, C2, K2, M2⟩, hL2⟩ := op_variable (l := l) hL (xs (6 * k + 1)) (xs (6 * k + 2))
  refine lv_aload_n hx hb d_W_law_486 rfl (lv_at hl 1 rfl) ?_
  refine lv_aload_n hx hb d_W_law_487 rfl (lv_at hl 0 rfl) ?_
  refine lv_iload_n hx hb d_W_law_488 rfl (lv_at hl 3 rfl) ?_
  refine lv_iconst (v := 1) hx hb d_W_law_489 (by decide) ?_
  refine lv_iadd hx hb d_W_law_490 ?_
  refine lw_ld (j := 6 * k + 1) hx hb hX hbl hbA Z.2.2 (nI_add (6 * k) 1) (by omega) (by omega) d_W_law_491 ?_
  refine lv_aload_n hx hb d_W_law_492 rfl (lv_at hl 0 rfl) ?_
  refine lv_iload_n hx hb d_W_law_493 rfl (lv_at hl 3 rfl) ?_
  refine lv_iconst (v := 2) hx hb d_W_law_494 (by decide) ?_
  refine lv_iadd hx hb d_W_law_495 ?_
  refine lw_ld (j := 6 * k + 2) hx hb hX hbl hbA Z.2.2 (nI_add (6 * k) 2) (by omega) (by omega) d_W_law_496 ?_
  refine sr_cViC (As := [.int (xs (6 * k + 1)), .int (xs (6 * k + 2))]) (rest := []) ⟨hx, hb, hml, hown, hts⟩ hA Z C1 K1 (M1 _) (cw_W_62 hts (by decide)) 28 a1 rfl rfl hl rfl (Nat.le_of_ble_eq_true rfl) d_W_law_497 ⟨Nat.le_trans (Nat.le_of_eq (Nat.add_zero _)) hf.1, Nat.le_trans (Nat.le_of_eq (Nat.add_zero _)) hf.2⟩ (fun H locs Z => ?_)
  refine lv_aload_n hx hb d_W_law_500 rfl (lv_at hl 2 rfl) ?_
  refine lv_aload_n hx hb d_W_law_501 rfl (lv_at hl 0 rfl) ?_
  refine lv_iload_n hx hb d_W_law_502 rfl (lv_at hl 3 rfl) ?_
  refine lv_iconst (v := 1) hx hb d_W_law_503 (by decide) ?_
  refine lv_iadd hx hb d_W_law_504 ?_
  refine lw_ld (j := 6 * k + 1) hx hb hX hbl hbA Z.2.2 (nI_add (6 * k) 1) (by omega) (by omega) d_W_law_505 ?_
  refine lv_aload_n hx hb d_W_law_506 rfl (lv_at hl 0 rfl) ?_
  refine lv_iload_n hx hb d_W_law_507 rfl (lv_at hl 3 rfl) ?_
  refine lv_iconst (v := 2) hx hb d_W_law_508 (by decide) ?_
  refine lv_iadd hx hb d_W_law_509 ?_
  refine lw_ld (j := 6 * k + 2) hx hb hX hbl hbA Z.2.2 (nI_add (6 * k) 2) (by omega) (by omega) d_W_law_510 ?_
  refine sr_cViC (As := [.int (xs (6 * k + 1)), .int (xs (6 * k + 2))]) (rest := [.int r]) ⟨hx, hb, hml, hown, hts⟩ hA Z C2 K2 (M2 _) (cw_W_65 hts (by decide)) 0 a2 rfl rfl hl rfl (Nat.le_of_ble_eq_true rfl) d_W_law_511 ⟨Nat.le_trans (Nat.le_of_eq (Nat.add_zero _)) hf.1, Nat.le_trans (Nat.le_of_eq (Nat.add_zero _)) hf.2⟩ (fun H locs Z => ?_)
  refine lv_icmp_eq (tgt := 697) hx hb d_W_law_514 rfl (fun _ => ?_) (fun q => absurd rfl q)
  exact kk W2 _ _ hL2 Z
set_option maxHeartbeats 4000000 in
set_option maxRecDepth 100000 in
theorem lw_own (F : LF p s m args c A x0 sb L0 xs) (hL : LI D g vs h t ro rv hm tm s W0 N B) (hB : B + 470000 < 2 ^ 30) (hk : 6 * k + 5 < L0) (hL0 : L0 < 2 ^ 31) (Z : sr_Z D A s.heap W0 H locs) (hl : lv_has ls 4 [(0, .ref sb), (1, .ref (g 0)), (2, .ref (hm 0)), (3, .int (nI (6 * k)))]) (hf : cells ≤ room_1.cells ∧ slots ≤ room_1.slots) (kk : ∀ (W2 : va_W) (H : Heap) (locs : List Loc), LI D g vs h t ro rv hm tm s W2 N (B + 460000) → sr_Z D A s.heap W2 H locs → W p l e room_1 s m args below meth c H locs cells slots Q (F0 m 697 ls [])) : W p l e room_1 s m args below meth c H locs cells slots Q (F0 m 519 ls []) := by
  obtain ⟨hx, hb, hml, hown, hts, hA, hX, hbl, hbA⟩ := F
  obtain ⟨r, W1, W2, ⟨fs1, a1⟩, ⟨fs2, a2⟩, ⟨ty1, wc1, v1, C1, K1, M1⟩, ⟨ty2, wc2, v2, C2, K2, M2⟩, hL2⟩ := op_own (l := l) hL (xs (6 * k + 1)) (xs (6 * k + 2))
  refine lv_aload_n hx hb d_W_law_519 rfl (lv_at hl 1 rfl) ?_
  refine lv_aload_n hx hb d_W_law_520 rfl (lv_at hl 0 rfl) ?_
  refine lv_iload_n hx hb d_W_law_521 rfl (lv_at hl 3 rfl) ?_
  refine lv_iconst (v := 1) hx hb d_W_law_522 (by decide) ?_
  refine lv_iadd hx hb d_W_law_523 ?_
  refine lw_ld (j := 6 * k + 1) hx hb hX hbl hbA Z.2.2 (nI_add (6 * k) 1) (by omega) (by omega) d_W_law_524 ?_
  refine lv_aload_n hx hb d_W_law_525 rfl (lv_at hl 0 rfl) ?_
  refine lv_iload_n hx hb d_W_law_526 rfl (lv_at hl 3 rfl) ?_
  refine lv_iconst (v := 2) hx hb d_W_law_527 (by decide) ?_
  refine lv_iadd hx hb d_W_law_528 ?_
  refine lw_ld (j := 6 * k + 2) hx hb hX hbl hbA Z.2.2 (nI_add (6 * k) 2) (by omega) (by omega) d_W_law_529 ?_
  refine sr_cViC (As := [.int (xs (6 * k + 1)), .int (xs (6 * k + 2))]) (rest := []) ⟨hx, hb, hml, hown, hts⟩ hA Z C1 K1 (M1 _) (cw_W_66 hts (by decide)) 28 a1 rfl rfl hl rfl (Nat.le_of_ble_eq_true rfl) d_W_law_530 ⟨Nat.le_trans (Nat.le_of_eq (Nat.add_zero _)) hf.1, Nat.le_trans (Nat.le_of_eq (Nat.add_zero _)) hf.2⟩ (fun H locs Z => ?_)
  refine lv_aload_n hx hb d_W_law_533 rfl (lv_at hl 2 rfl) ?_
  refine lv_aload_n hx hb d_W_law_534 rfl (lv_at hl 0 rfl) ?_
  refine lv_iload_n hx hb d_W_law_535 rfl (lv_at hl 3 rfl) ?_
  refine lv_iconst (v := 1) hx hb d_W_law_536 (by decide) ?_
  refine lv_iadd hx hb d_W_law_537 ?_
  refine lw_ld (j := 6 * k + 1) hx hb hX hbl hbA Z.2.2 (nI_add (6 * k) 1) (by omega) (by omega) d_W_law_538 ?_
  refine lv_aload_n hx hb d_W_law_539 rfl (lv_at hl 0 rfl) ?_
  refine lv_iload_n hx hb d_W_law_540 rfl (lv_at hl 3 rfl) ?_
  refine lv_iconst (v := 2) hx hb d_W_law_541 (by decide) ?_
  refine lv_iadd hx hb d_W_law_542 ?_
  refine lw_ld (j := 6 * k + 2) hx hb hX hbl hbA Z.2.2 (nI_add (6 * k) 2) (by omega) (by omega) d_W_law_543 ?_
  refine sr_cViC (As := [.int (xs (6 * k + 1)), .int (xs (6 * k + 2))]) (rest := [.int r]) ⟨hx, hb, hml, hown, hts⟩ hA Z C2 K2 (M2 _) (cw_W_69 hts (by decide)) 0 a2 rfl rfl hl rfl (Nat.le_of_ble_eq_true rfl) d_W_law_544 ⟨Nat.le_trans (Nat.le_of_eq (Nat.add_zero _)) hf.1, Nat.le_trans (Nat.le_of_eq (Nat.add_zero _)) hf.2⟩ (fun H locs Z => ?_)
  refine lv_icmp_eq (tgt := 697) hx hb d_W_law_547 rfl (fun _ => ?_) (fun q => absurd rfl q)
  exact kk W2 _ _ hL2 Z
set_option maxHeartbeats 4000000 in
set_option maxRecDepth 100000 in
theorem lw_linkState (F : LF p s m args c A x0 sb L0 xs) (hL : LI D g vs h t ro rv hm tm s W0 N B) (hB : B + 470000 < 2 ^ 30) (hk : 6 * k + 5 < L0) (hL0 : L0 < 2 ^ 31) (Z : sr_Z D A s.heap W0 H locs) (hl : lv_has ls 4 [(0, .ref sb), (1, .ref (g 0)), (2, .ref (hm 0)), (3, .int (nI (6 * k)))]) (hf : cells ≤ room_1.cells ∧ slots ≤ room_1.slots) (kk : ∀ (W2 : va_W) (H : Heap) (locs : List Loc), LI D g vs h t ro rv hm tm s W2 N (B + 460000) → sr_Z D A s.heap W2 H locs → W p l e room_1 s m args below meth c H locs cells slots Q (F0 m 697 ls [])) : W p l e room_1 s m args below meth c H locs cells slots Q (F0 m 552 ls []) := by
  obtain ⟨hx, hb, hml, hown, hts, hA, hX, hbl, hbA⟩ := F
  obtain ⟨r, W1, W2, ⟨fs1, a1⟩, ⟨fs2, a2⟩, ⟨ty1, wc1, v1, C1, K1, M1⟩, ⟨ty2, wc2, v2, C2, K2, M2⟩, hL2⟩ := op_linkState (l := l) hL (xs (6 * k + 1)) (xs (6 * k + 2))
  refine lv_aload_n hx hb d_W_law_552 rfl (lv_at hl 1 rfl) ?_
  refine lv_aload_n hx hb d_W_law_553 rfl (lv_at hl 0 rfl) ?_
  refine lv_iload_n hx hb d_W_law_554 rfl (lv_at hl 3 rfl) ?_
  refine lv_iconst (v := 1) hx hb d_W_law_555 (by decide) ?_
  refine lv_iadd hx hb d_W_law_556 ?_
  refine lw_ld (j := 6 * k + 1) hx hb hX hbl hbA Z.2.2 (nI_add (6 * k) 1) (by omega) (by omega) d_W_law_557 ?_
  refine lv_aload_n hx hb d_W_law_558 rfl (lv_at hl 0 rfl) ?_
  refine lv_iload_n hx hb d_W_law_559 rfl (lv_at hl 3 rfl) ?_
  refine lv_iconst (v := 2) hx hb d_W_law_560 (by decide) ?_
  refine lv_iadd hx hb d_W_law_561 ?_
  refine lw_ld (j := 6 * k + 2) hx hb hX hbl hbA Z.2.2 (nI_add (6 * k) 2) (by omega) (by omega) d_W_law_562 ?_
  refine sr_cViC (As := [.int (xs (6 * k + 1)), .int (xs (6 * k + 2))]) (rest := []) ⟨hx, hb, hml, hown, hts⟩ hA Z C1 K1 (M1 _) (cw_W_70 hts (by decide)) 28 a1 rfl rfl hl rfl (Nat.le_of_ble_eq_true rfl) d_W_law_563 ⟨Nat.le_trans (Nat.le_of_eq (Nat.add_zero _)) hf.1, Nat.le_trans (Nat.le_of_eq (Nat.add_zero _)) hf.2⟩ (fun H locs Z => ?_)
  refine lv_aload_n hx hb d_W_law_566 rfl (lv_at hl 2 rfl) ?_
  refine lv_aload_n hx hb d_W_law_567 rfl (lv_at hl 0 rfl) ?_
  refine lv_iload_n hx hb d_W_law_568 rfl (lv_at hl 3 rfl) ?_
  refine lv_iconst (v := 1) hx hb d_W_law_569 (by decide) ?_
  refine lv_iadd hx hb d_W_law_570 ?_
  refine lw_ld (j := 6 * k + 1) hx hb hX hbl hbA Z.2.2 (nI_add (6 * k) 1) (by omega) (by omega) d_W_law_571 ?_
  refine lv_aload_n hx hb d_W_law_572 rfl (lv_at hl 0 rfl) ?_
  refine lv_iload_n hx hb d_W_law_573 rfl (lv_at hl 3 rfl) ?_
  refine lv_iconst (v := 2) hx hb d_W_law_574 (by decide) ?_
  refine lv_iadd hx hb d_W_law_575 ?_
  refine lw_ld (j := 6 * k + 2) hx hb hX hbl hbA Z.2.2 (nI_add (6 * k) 2) (by omega) (by omega) d_W_law_576 ?_
  refine sr_cViC (As := [.int (xs (6 * k + 1)), .int (xs (6 * k + 2))]) (rest := [.int r]) ⟨hx, hb, hml, hown, hts⟩ hA Z C2 K2 (M2 _) (cw_W_73 hts (by decide)) 0 a2 rfl rfl hl rfl (Nat.le_of_ble_eq_true rfl) d_W_law_577 ⟨Nat.le_trans (Nat.le_of_eq (Nat.add_zero _)) hf.1, Nat.le_trans (Nat.le_of_eq (Nat.add_zero _)) hf.2⟩ (fun H locs Z => ?_)
  refine lv_icmp_eq (tgt := 697) hx hb d_W_law_580 rfl (fun _ => ?_) (fun q => absurd rfl q)
  exact kk W2 _ _ hL2 Z
set_option maxHeartbeats 4000000 in
set_option maxRecDepth 100000 in
theorem lw_kept (F : LF p s m args c A x0 sb L0 xs) (hL : LI D g vs h t ro rv hm tm s W0 N B) (hB : B + 470000 < 2 ^ 30) (hk : 6 * k + 5 < L0) (hL0 : L0 < 2 ^ 31) (Z : sr_Z D A s.heap W0 H locs) (hl : lv_has ls 4 [(0, .ref sb), (1, .ref (g 0)), (2, .ref (hm 0)), (3, .int (nI (6 * k)))]) (hf : cells ≤ room_1.cells ∧ slots ≤ room_1.slots) (kk : ∀ (W2 : va_W) (H : Heap) (locs : List Loc), LI D g vs h t ro rv hm tm s W2 N (B + 460000) → sr_Z D A s.heap W2 H locs → W p l e room_1 s m args below meth c H locs cells slots Q (F0 m 697 ls [])) : W p l e room_1 s m args below meth c H locs cells slots Q (F0 m 585 ls []) := by
  obtain ⟨hx, hb, hml, hown, hts, hA, hX, hbl, hbA⟩ := F
  obtain ⟨r, W1, W2, ⟨fs1, a1⟩, ⟨fs2, a2⟩, ⟨ty1, wc1, v1, C1, K1, M1⟩, ⟨ty2, wc2, v2, C2, K2, M2⟩, hL2⟩ := op_kept (l := l) hL (xs (6 * k + 1)) (xs (6 * k + 2))
  refine lv_aload_n hx hb d_W_law_585 rfl (lv_at hl 1 rfl) ?_
  refine lv_aload_n hx hb d_W_law_586 rfl (lv_at hl 0 rfl) ?_
  refine lv_iload_n hx hb d_W_law_587 rfl (lv_at hl 3 rfl) ?_
  refine lv_iconst (v := 1) hx hb d_W_law_588 (by decide) ?_
  refine lv_iadd hx hb d_W_law_589 ?_
  refine lw_ld (j := 6 * k + 1) hx hb hX hbl hbA Z.2.2 (nI_add (6 * k) 1) (by omega) (by omega) d_W_law_590 ?_
  refine lv_aload_n hx hb d_W_law_591 rfl (lv_at hl 0 rfl) ?_
  refine lv_iload_n hx hb d_W_law_592 rfl (lv_at hl 3 rfl) ?_
  refine lv_iconst (v := 2) hx hb d_W_law_593 (by decide) ?_
  refine lv_iadd hx hb d_W_law_594 ?_
  refine lw_ld (j := 6 * k + 2) hx hb hX hbl hbA Z.2.2 (nI_add (6 * k) 2) (by omega) (by omega) d_W_law_595 ?_
  refine sr_cViC (As := [.int (xs (6 * k + 1)), .int (xs (6 * k + 2))]) (rest := []) ⟨hx, hb, hml, hown, hts⟩ hA Z C1 K1 (M1 _) (cw_W_74 hts (by decide)) 28 a1 rfl rfl hl rfl (Nat.le_of_ble_eq_true rfl) d_W_law_596 ⟨Nat.le_trans (Nat.le_of_eq (Nat.add_zero _)) hf.1, Nat.le_trans (Nat.le_of_eq (Nat.add_zero _)) hf.2⟩ (fun H locs Z => ?_)
  refine lv_aload_n hx hb d_W_law_599 rfl (lv_at hl 2 rfl) ?_
  refine lv_aload_n hx hb d_W_law_600 rfl (lv_at hl 0 rfl) ?_
  refine lv_iload_n hx hb d_W_law_601 rfl (lv_at hl 3 rfl) ?_
  refine lv_iconst (v := 1) hx hb d_W_law_602 (by decide) ?_
  refine lv_iadd hx hb d_W_law_603 ?_
  refine lw_ld (j := 6 * k + 1) hx hb hX hbl hbA Z.2.2 (nI_add (6 * k) 1) (by omega) (by omega) d_W_law_604 ?_
  refine lv_aload_n hx hb d_W_law_605 rfl (lv_at hl 0 rfl) ?_
  refine lv_iload_n hx hb d_W_law_606 rfl (lv_at hl 3 rfl) ?_
  refine lv_iconst (v := 2) hx hb d_W_law_607 (by decide) ?_
  refine lv_iadd hx hb d_W_law_608 ?_
  refine lw_ld (j := 6 * k + 2) hx hb hX hbl hbA Z.2.2 (nI_add (6 * k) 2) (by omega) (by omega) d_W_law_609 ?_
  refine sr_cViC (As := [.int (xs (6 * k + 1)), .int (xs (6 * k + 2))]) (rest := [.int r]) ⟨hx, hb, hml, hown, hts⟩ hA Z C2 K2 (M2 _) (cw_W_77 hts (by decide)) 0 a2 rfl rfl hl rfl (Nat.le_of_ble_eq_true rfl) d_W_law_610 ⟨Nat.le_trans (Nat.le_of_eq (Nat.add_zero _)) hf.1, Nat.le_trans (Nat.le_of_eq (Nat.add_zero _)) hf.2⟩ (fun H locs Z => ?_)
  refine lv_icmp_eq (tgt := 697) hx hb d_W_law_613 rfl (fun _ => ?_) (fun q => absurd rfl q)
  exact kk W2 _ _ hL2 Z
set_option maxHeartbeats 4000000 in
set_option maxRecDepth 100000 in
theorem lw_events (F : LF p s m args c A x0 sb L0 xs) (hL : LI D g vs h t ro rv hm tm s W0 N B) (hB : B + 470000 < 2 ^ 30) (hk : 6 * k + 5 < L0) (hL0 : L0 < 2 ^ 31) (Z : sr_Z D A s.heap W0 H locs) (hl : lv_has ls 4 [(0, .ref sb), (1, .ref (g 0)), (2, .ref (hm 0)), (3, .int (nI (6 * k)))]) (hf : cells ≤ room_1.cells ∧ slots ≤ room_1.slots) (kk : ∀ (W2 : va_W) (H : Heap) (locs : List Loc), LI D g vs h t ro rv hm tm s W2 N (B + 460000) → sr_Z D A s.heap W2 H locs → W p l e room_1 s m args below meth c H locs cells slots Q (F0 m 697 ls [])) : W p l e room_1 s m args below meth c H locs cells slots Q (F0 m 618 ls []) := by
  obtain ⟨hx, hb, hml, hown, hts, hA, hX, hbl, hbA⟩ := F
  obtain ⟨r, W1, W2, ⟨fs1, a1⟩, ⟨fs2, a2⟩, ⟨ty1, wc1, v1, C1, K1, M1⟩, ⟨ty2, wc2, v2, C2, K2, M2⟩, hL2⟩ := op_events (l := l) hL (xs (6 * k + 1))
  refine lv_aload_n hx hb d_W_law_618 rfl (lv_at hl 1 rfl) ?_
  refine lv_aload_n hx hb d_W_law_619 rfl (lv_at hl 0 rfl) ?_
  refine lv_iload_n hx hb d_W_law_620 rfl (lv_at hl 3 rfl) ?_
  refine lv_iconst (v := 1) hx hb d_W_law_621 (by decide) ?_
  refine lv_iadd hx hb d_W_law_622 ?_
  refine lw_ld (j := 6 * k + 1) hx hb hX hbl hbA Z.2.2 (nI_add (6 * k) 1) (by omega) (by omega) d_W_law_623 ?_
  refine sr_cViC (As := [.int (xs (6 * k + 1))]) (rest := []) ⟨hx, hb, hml, hown, hts⟩ hA Z C1 K1 (M1 _) (cw_W_78 hts (by decide)) 28 a1 rfl rfl hl rfl (Nat.le_of_ble_eq_true rfl) d_W_law_624 ⟨Nat.le_trans (Nat.le_of_eq (Nat.add_zero _)) hf.1, Nat.le_trans (Nat.le_of_eq (Nat.add_zero _)) hf.2⟩ (fun H locs Z => ?_)
  refine lv_aload_n hx hb d_W_law_627 rfl (lv_at hl 2 rfl) ?_
  refine lv_aload_n hx hb d_W_law_628 rfl (lv_at hl 0 rfl) ?_
  refine lv_iload_n hx hb d_W_law_629 rfl (lv_at hl 3 rfl) ?_
  refine lv_iconst (v := 1) hx hb d_W_law_630 (by decide) ?_
  refine lv_iadd hx hb d_W_law_631 ?_
  refine lw_ld (j := 6 * k + 1) hx hb hX hbl hbA Z.2.2 (nI_add (6 * k) 1) (by omega) (by omega) d_W_law_632 ?_
  refine sr_cViC (As := [.int (xs (6 * k + 1))]) (rest := [.int r]) ⟨hx, hb, hml, hown, hts⟩ hA Z C2 K2 (M2 _) (cw_W_81 hts (by decide)) 0 a2 rfl rfl hl rfl (Nat.le_of_ble_eq_true rfl) d_W_law_633 ⟨Nat.le_trans (Nat.le_of_eq (Nat.add_zero _)) hf.1, Nat.le_trans (Nat.le_of_eq (Nat.add_zero _)) hf.2⟩ (fun H locs Z => ?_)
  refine lv_icmp_eq (tgt := 697) hx hb d_W_law_636 rfl (fun _ => ?_) (fun q => absurd rfl q)
  exact kk W2 _ _ hL2 Z
set_option maxHeartbeats 4000000 in
set_option maxRecDepth 100000 in
theorem lw_event (F : LF p s m args c A x0 sb L0 xs) (hL : LI D g vs h t ro rv hm tm s W0 N B) (hB : B + 470000 < 2 ^ 30) (hk : 6 * k + 5 < L0) (hL0 : L0 < 2 ^ 31) (Z : sr_Z D A s.heap W0 H locs) (hl : lv_has ls 4 [(0, .ref sb), (1, .ref (g 0)), (2, .ref (hm 0)), (3, .int (nI (6 * k)))]) (hf : cells ≤ room_1.cells ∧ slots ≤ room_1.slots) (kk : ∀ (W2 : va_W) (H : Heap) (locs : List Loc), LI D g vs h t ro rv hm tm s W2 N (B + 460000) → sr_Z D A s.heap W2 H locs → W p l e room_1 s m args below meth c H locs cells slots Q (F0 m 697 ls [])) : W p l e room_1 s m args below meth c H locs cells slots Q (F0 m 641 ls []) := by
  obtain ⟨hx, hb, hml, hown, hts, hA, hX, hbl, hbA⟩ := F
  obtain ⟨r, W1, W2, ⟨fs1, a1⟩, ⟨fs2, a2⟩, ⟨ty1, wc1, v1, C1, K1, M1⟩, ⟨ty2, wc2, v2, C2, K2, M2⟩, hL2⟩ := op_event (l := l) hL (by omega) (xs (6 * k + 1)) (xs (6 * k + 2))
  refine lv_aload_n hx hb d_W_law_641 rfl (lv_at hl 1 rfl) ?_
  refine lv_aload_n hx hb d_W_law_642 rfl (lv_at hl 0 rfl) ?_
  refine lv_iload_n hx hb d_W_law_643 rfl (lv_at hl 3 rfl) ?_
  refine lv_iconst (v := 1) hx hb d_W_law_644 (by decide) ?_
  refine lv_iadd hx hb d_W_law_645 ?_
  refine lw_ld (j := 6 * k + 1) hx hb hX hbl hbA Z.2.2 (nI_add (6 * k) 1) (by omega) (by omega) d_W_law_646 ?_
  refine lv_aload_n hx hb d_W_law_647 rfl (lv_at hl 0 rfl) ?_
  refine lv_iload_n hx hb d_W_law_648 rfl (lv_at hl 3 rfl) ?_
  refine lv_iconst (v := 2) hx hb d_W_law_649 (by decide) ?_
  refine lv_iadd hx hb d_W_law_650 ?_
  refine lw_ld (j := 6 * k + 2) hx hb hX hbl hbA Z.2.2 (nI_add (6 * k) 2) (by omega) (by omega) d_W_law_651 ?_
  refine sr_cViC (As := [.int (xs (6 * k + 1)), .int (xs (6 * k + 2))]) (rest := []) ⟨hx, hb, hml, hown, hts⟩ hA Z C1 K1 (M1 _) (cw_W_82 hts (by decide)) 28 a1 rfl rfl hl rfl (Nat.le_of_ble_eq_true rfl) d_W_law_652 ⟨Nat.le_trans (Nat.le_of_eq (Nat.add_zero _)) hf.1, Nat.le_trans (Nat.le_of_eq (Nat.add_zero _)) hf.2⟩ (fun H locs Z => ?_)
  refine lv_aload_n hx hb d_W_law_655 rfl (lv_at hl 2 rfl) ?_
  refine lv_aload_n hx hb d_W_law_656 rfl (lv_at hl 0 rfl) ?_
  refine lv_iload_n hx hb d_W_law_657 rfl (lv_at hl 3 rfl) ?_
  refine lv_iconst (v := 1) hx hb d_W_law_658 (by decide) ?_
  refine lv_iadd hx hb d_W_law_659 ?_
  refine lw_ld (j := 6 * k + 1) hx hb hX hbl hbA Z.2.2 (nI_add (6 * k) 1) (by omega) (by omega) d_W_law_660 ?_
  refine lv_aload_n hx hb d_W_law_661 rfl (lv_at hl 0 rfl) ?_
  refine lv_iload_n hx hb d_W_law_662 rfl (lv_at hl 3 rfl) ?_
  refine lv_iconst (v := 2) hx hb d_W_law_663 (by decide) ?_
  refine lv_iadd hx hb d_W_law_664 ?_
  refine lw_ld (j := 6 * k + 2) hx hb hX hbl hbA Z.2.2 (nI_add (6 * k) 2) (by omega) (by omega) d_W_law_665 ?_
  refine sr_cViC (As := [.int (xs (6 * k + 1)), .int (xs (6 * k + 2))]) (rest := [.int r]) ⟨hx, hb, hml, hown, hts⟩ hA Z C2 K2 (M2 _) (cw_W_85 hts (by decide)) 0 a2 rfl rfl hl rfl (Nat.le_of_ble_eq_true rfl) d_W_law_666 ⟨Nat.le_trans (Nat.le_of_eq (Nat.add_zero _)) hf.1, Nat.le_trans (Nat.le_of_eq (Nat.add_zero _)) hf.2⟩ (fun H locs Z => ?_)
  refine lv_icmp_eq (tgt := 697) hx hb d_W_law_669 rfl (fun _ => ?_) (fun q => absurd rfl q)
  exact kk W2 _ _ hL2 Z
set_option maxHeartbeats 4000000 in
set_option maxRecDepth 100000 in
theorem lw_next (F : LF p s m args c A x0 sb L0 xs) (hL : LI D g vs h t ro rv hm tm s W0 N B) (hB : B + 470000 < 2 ^ 30) (hk : 6 * k + 5 < L0) (hL0 : L0 < 2 ^ 31) (Z : sr_Z D A s.heap W0 H locs) (hl : lv_has ls 4 [(0, .ref sb), (1, .ref (g 0)), (2, .ref (hm 0)), (3, .int (nI (6 * k)))]) (hf : cells ≤ room_1.cells ∧ slots ≤ room_1.slots) (kk : ∀ (W2 : va_W) (H : Heap) (locs : List Loc), LI D g vs h t ro rv hm tm s W2 N (B + 460000) → sr_Z D A s.heap W2 H locs → W p l e room_1 s m args below meth c H locs cells slots Q (F0 m 697 ls [])) : W p l e room_1 s m args below meth c H locs cells slots Q (F0 m 674 ls []) := by
  obtain ⟨hx, hb, hml, hown, hts, hA, hX, hbl, hbA⟩ := F
  obtain ⟨r, W1, W2, ⟨fs1, a1⟩, ⟨fs2, a2⟩, ⟨ty1, wc1, v1, C1, K1, M1⟩, ⟨ty2, wc2, v2, C2, K2, M2⟩, hL2⟩ := op_next (l := l) hL (xs (6 * k + 1))
  refine lv_aload_n hx hb d_W_law_674 rfl (lv_at hl 1 rfl) ?_
  refine lv_aload_n hx hb d_W_law_675 rfl (lv_at hl 0 rfl) ?_
  refine lv_iload_n hx hb d_W_law_676 rfl (lv_at hl 3 rfl) ?_
  refine lv_iconst (v := 1) hx hb d_W_law_677 (by decide) ?_
  refine lv_iadd hx hb d_W_law_678 ?_
  refine lw_ld (j := 6 * k + 1) hx hb hX hbl hbA Z.2.2 (nI_add (6 * k) 1) (by omega) (by omega) d_W_law_679 ?_
  refine sr_cViC (As := [.int (xs (6 * k + 1))]) (rest := []) ⟨hx, hb, hml, hown, hts⟩ hA Z C1 K1 (M1 _) (cw_W_86 hts (by decide)) 28 a1 rfl rfl hl rfl (Nat.le_of_ble_eq_true rfl) d_W_law_680 ⟨Nat.le_trans (Nat.le_of_eq (Nat.add_zero _)) hf.1, Nat.le_trans (Nat.le_of_eq (Nat.add_zero _)) hf.2⟩ (fun H locs Z => ?_)
  refine lv_aload_n hx hb d_W_law_683 rfl (lv_at hl 2 rfl) ?_
  refine lv_aload_n hx hb d_W_law_684 rfl (lv_at hl 0 rfl) ?_
  refine lv_iload_n hx hb d_W_law_685 rfl (lv_at hl 3 rfl) ?_
  refine lv_iconst (v := 1) hx hb d_W_law_686 (by decide) ?_
  refine lv_iadd hx hb d_W_law_687 ?_
  refine lw_ld (j := 6 * k + 1) hx hb hX hbl hbA Z.2.2 (nI_add (6 * k) 1) (by omega) (by omega) d_W_law_688 ?_
  refine sr_cViC (As := [.int (xs (6 * k + 1))]) (rest := [.int r]) ⟨hx, hb, hml, hown, hts⟩ hA Z C2 K2 (M2 _) (cw_W_89 hts (by decide)) 0 a2 rfl rfl hl rfl (Nat.le_of_ble_eq_true rfl) d_W_law_689 ⟨Nat.le_trans (Nat.le_of_eq (Nat.add_zero _)) hf.1, Nat.le_trans (Nat.le_of_eq (Nat.add_zero _)) hf.2⟩ (fun H locs Z => ?_)
  refine lv_icmp_eq (tgt := 697) hx hb d_W_law_692 rfl (fun _ => ?_) (fun q => absurd rfl q)
  exact kk W2 _ _ hL2 Z
end
