/-! LAW 0: the world of a whole run -/
def fO (O : Nat → Nat → Nat) (N : Nat) : Nat → Option Nat := fun k => if k < N then some (O k 0) else none
def wQ (h : Nat → Nat) (O : Nat → Nat → Nat) (V : Nat → Nat → ClassId) (I : Nat → St) : Nat → va_W
  | 0 => []
  | k + 1 => wJ h (O k) (V k) (I k) ++ wQ h O V I k
def wX (h : Nat → Nat) (O : Nat → Nat → Nat) (V : Nat → Nat → ClassId) (I : Nat → St) (j : Nat) : Nat → va_W
  | 0 => []
  | k + 1 => if k = j then wQ h O V I k else wJ h (O k) (V k) (I k) ++ wX h O V I j k
theorem wQ_cg {h : Nat → Nat} {O O' : Nat → Nat → Nat} {V V' : Nat → Nat → ClassId} {I I' : Nat → St} : ∀ {N : Nat}, (∀ k, k < N → O' k = O k ∧ V' k = V k ∧ I' k = I k) → wQ h O' V' I' N = wQ h O V I N := by
  intro N
  induction N with
  | zero => intro _; rfl
  | succ N ih =>
    intro H
    obtain ⟨h1, h2, h3⟩ := H N (Nat.lt_succ_self N)
    show wJ h (O' N) (V' N) (I' N) ++ wQ h O' V' I' N = wJ h (O N) (V N) (I N) ++ wQ h O V I N
    rw [h1, h2, h3, ih (fun k hk => H k (by omega))]
theorem wQ_p {h : Nat → Nat} {O : Nat → Nat → Nat} {V : Nat → Nat → ClassId} {I : Nat → St} {j : Nat} {i : St} : ∀ {N : Nat}, j < N → (wQ h O V (upI I j i) N).Perm (wJ h (O j) (V j) i ++ wX h O V I j N) := by
  intro N
  induction N with
  | zero => intro hj; exact absurd hj (Nat.not_lt_zero _)
  | succ N ih =>
    intro hj
    show (wJ h (O N) (V N) (upI I j i N) ++ wQ h O V (upI I j i) N).Perm (wJ h (O j) (V j) i ++ (if N = j then wQ h O V I N else wJ h (O N) (V N) (I N) ++ wX h O V I j N))
    by_cases e : N = j
    · subst e
      rw [if_pos rfl, wQ_cg (O' := O) (V' := V) (I' := upI I N i) (O := O) (V := V) (I := I) (fun k hk => ⟨rfl, rfl, if_neg (by omega)⟩), show upI I N i N = i from if_pos rfl]
    · rw [if_neg e, show upI I j i N = I N from if_neg e]
      exact (List.Perm.append_left _ (ih (by omega))).trans (List.perm_append_comm_assoc ..)
theorem wQ_p0 {h : Nat → Nat} {O : Nat → Nat → Nat} {V : Nat → Nat → ClassId} {I : Nat → St} {j N : Nat} (hj : j < N) : (wQ h O V I N).Perm (wJ h (O j) (V j) (I j) ++ wX h O V I j N) := by
  have := wQ_p (h := h) (O := O) (V := V) (I := I) (i := I j) hj
  rw [upI_self] at this
  exact this
theorem fO_up {O : Nat → Nat → Nat} {j N : Nat} (hj : j < N) : va_up (fO O N) j (some (O j 0)) = fO O N := by
  funext k
  show (if k = j then some (O j 0) else fO O N k) = fO O N k
  by_cases e : k = j
  · subst e
    rw [if_pos rfl]
    unfold fO
    rw [if_pos hj]
  · rw [if_neg e]
def wB (g : Nat → Nat) (vs : ClassId) (h : Nat → Nat) (t : Nat → ClassId) (ro : Nat → Nat) (rv : Nat → ClassId) (hm : Nat → Nat) (tm : Nat → ClassId) (O : Nat → Nat → Nat) (V : Nat → Nat → ClassId) (N : Nat) (u s p : St) (b : Nat → Int64) (I : Nat → St) : va_W := wM hm tm u ++ wN g vs h t ro rv (fO O N) (wQ h O V I N) s p b
section
variable {g : Nat → Nat} {vs : ClassId} {h : Nat → Nat} {t : Nat → ClassId} {ro : Nat → Nat} {rv : Nat → ClassId} {hm : Nat → Nat} {tm : Nat → ClassId} {O : Nat → Nat → Nat} {V : Nat → Nat → ClassId} {N : Nat} {u u' s s' p p' : St} {b b' : Nat → Int64} {I : Nat → St} {j : Nat} {i i' : St}
theorem sr_cut_rr {a c c' : va_W} : sr_cut (a ++ c) c c' (a ++ c') := ⟨a, List.perm_append_comm, List.perm_append_comm⟩
theorem cut_BM : sr_cut (wB g vs h t ro rv hm tm O V N u s p b I) (wM hm tm u) (wM hm tm u') (wB g vs h t ro rv hm tm O V N u' s p b I) := sr_cut_l
theorem cut_BN : sr_cut (wB g vs h t ro rv hm tm O V N u s p b I) (wN g vs h t ro rv (fO O N) (wQ h O V I N) s p b) (wN g vs h t ro rv (fO O N) (wQ h O V I N) s' p' b') (wB g vs h t ro rv hm tm O V N u s' p' b' I) := sr_cut_rr
theorem wN_p {F : Nat → Option Nat} {Y Y' : va_W} (h1 : Y.Perm Y') : (wN g vs h t ro rv F Y s p b).Perm (wN g vs h t ro rv F Y' s p b) :=
  List.Perm.append_left _ (List.Perm.append_left _ (List.Perm.append_left _ h1))
theorem wJJ_p (hj : j < N) : (wN g vs h t ro rv (fO O N) (wQ h O V (upI I j i) N) s p b).Perm (wJJ g vs h t ro rv (fO O N) (wX h O V I j N) (O j) (V j) j s p b i) := by
  unfold wJJ
  rw [fO_up hj]
  exact wN_p (wQ_p hj)
theorem wJJ_p0 (hj : j < N) : (wN g vs h t ro rv (fO O N) (wQ h O V I N) s p b).Perm (wJJ g vs h t ro rv (fO O N) (wX h O V I j N) (O j) (V j) j s p b (I j)) := by
  unfold wJJ
  rw [fO_up hj]
  exact wN_p (wQ_p0 hj)
theorem cut_BJ (hj : j < N) : sr_cut (wB g vs h t ro rv hm tm O V N u s p b I) (wJJ g vs h t ro rv (fO O N) (wX h O V I j N) (O j) (V j) j s p b (I j)) (wJJ g vs h t ro rv (fO O N) (wX h O V I j N) (O j) (V j) j s p b i') (wB g vs h t ro rv hm tm O V N u s p b (upI I j i')) :=
  ⟨wM hm tm u, (List.Perm.append_left _ (wJJ_p0 hj)).trans List.perm_append_comm, (List.Perm.append_left _ (wJJ_p hj)).trans List.perm_append_comm⟩
theorem wQ_mem : ∀ {N : Nat}, j < N → ∀ e ∈ wJ h (O j) (V j) (I j), e ∈ wQ h O V I N := by
  intro N hj e he
  exact (wQ_p0 hj).mem_iff.mpr (List.mem_append_left _ he)
/-- all that are made can be looked at -/
theorem hI_of {F : Nat → Option Nat} {ws : va_W} (hp : (wN g vs h t ro rv F (wQ h O V I N) s p b).Perm ws) : ∀ k, k < N → ∃ (q : Nat) (fs : List Value), ws[q]? = some (O k 0, .inr (ci_I, fs)) ∧ fs[2]? = some (.int (I k 1 0)) ∧ fs[4]? = some (.int (I k 3 0)) := by
  intro k hk
  have hmem : (O k 0, .inr (ci_I, [.ref (h 0), .int (I k 0 0), .int (I k 1 0), .int (I k 2 0), .int (I k 3 0), .ref (O k 5), .ref (O k 6), .ref (O k 7), .ref (O k 8), .ref (O k 1), .ref (O k 2), .ref (O k 3), .ref (O k 4), .int (I k 8 0), .int (I k 9 0), .int (I k 10 0)])) ∈ wJ h (O k) (V k) (I k) := List.mem_cons_self
  have h2 := wQ_mem (N := N) hk _ hmem
  have h3 := hp.mem_iff.mp (List.mem_append_right _ (List.mem_append_right _ (List.mem_append_right _ h2)))
  obtain ⟨q, hq⟩ := List.getElem?_of_mem h3
  exact ⟨q, _, hq, rfl, rfl⟩
end
def KB (D : va_G) (vs : ClassId) (t rv tm : Nat → ClassId) (V : Nat → Nat → ClassId) (N : Nat) (st : State) : Prop := va_K D classes (tNN vs t rv) st ∧ (∀ k, k < N → va_K D classes (tJJ vs t rv (V k)) st) ∧ va_K D classes (tM tm) st
/-- a call's contract at some cells of the world -/
def SC (l : Launch) (st : State) (D : va_G) (W0 W1 : va_W) (y : MethodName) (wy : List Cond) (rm : Room) (av : List Value) (r : Int32) : Prop := ∃ (tysC : List (ClassId × FieldType)) (wc w1 : va_W), sr_cut W0 wc w1 W1 ∧ va_K D classes tysC st ∧ ∀ sz, sr_Ci l y wy rm D tysC wc w1 sz av r
def LI (D : va_G) (g : Nat → Nat) (vs : ClassId) (h : Nat → Nat) (t : Nat → ClassId) (ro : Nat → Nat) (rv : Nat → ClassId) (hm : Nat → Nat) (tm : Nat → ClassId) (st : State) (W0 : va_W) (N B : Nat) : Prop :=
  ∃ (O : Nat → Nat → Nat) (V : Nat → Nat → ClassId) (u s p : St) (b : Nat → Int64) (I : Nat → St) (n L : Nat), W0 = wB g vs h t ro rv hm tm O V N u s p b I ∧ GI u s p I n L N B ∧ KB D vs t rv tm V N st
/-- both are called, and answer alike -/
def OP (l : Launch) (st : State) (D : va_G) (g hm : Nat → Nat) (W0 : va_W) (yS : MethodName) (wS : List Cond) (rS : Room) (yM : MethodName) (wM : List Cond) (rM : Room) (av : List Value) (Post : va_W → Prop) : Prop :=
  ∃ (r : Int32) (W1 W2 : va_W), (∃ fs, W0[28]? = some (g 0, .inr (ci_S, fs))) ∧ (∃ fs, W1[0]? = some (hm 0, .inr (ci_M, fs))) ∧ SC l st D W0 W1 yS wS rS (.ref (g 0) :: av) r ∧ SC l st D W1 W2 yM wM rM (.ref (hm 0) :: av) r ∧ Post W2
section
variable {l : Launch} {D : va_G} {g : Nat → Nat} {vs : ClassId} {h : Nat → Nat} {t : Nat → ClassId} {ro : Nat → Nat} {rv : Nat → ClassId} {hm : Nat → Nat} {tm : Nat → ClassId} {st : State} {W0 : va_W} {N B : Nat}
theorem OP_q {O : Nat → Nat → Nat} {V : Nat → Nat → ClassId} {u s p : St} {b : Nat → Int64} {I : Nat → St} {n L : Nat} {yS yM : MethodName} {wS wM' : List Cond} {rS rM : Room} {av : List Value} {fM fn : Option Int32} {fj : Nat → St → Option Int32} (G : GI u s p I n L N B) (K : KB D vs t rv tm V N st) (q : Q0 I N fM fn fj)
    (cn : ∀ r sz, fn = some r → sr_Ci l yS wS rS D (tNN vs t rv) (wN g vs h t ro rv (fO O N) (wQ h O V I N) s p b) (wN g vs h t ro rv (fO O N) (wQ h O V I N) s p b) sz (.ref (g 0) :: av) r)
    (cj : ∀ j r sz Y, fj j (I j) = some r → sr_Ci l yS wS rS D (tJJ vs t rv (V j)) (wJJ g vs h t ro rv (fO O N) Y (O j) (V j) j s p b (I j)) (wJJ g vs h t ro rv (fO O N) Y (O j) (V j) j s p b (I j)) sz (.ref (g 0) :: av) r)
    (cm : ∀ r sz, fM = some r → sr_Ci l yM wM' rM D (tM tm) (wM hm tm u) (wM hm tm u) sz (.ref (hm 0) :: av) r) :
    OP l st D g hm (wB g vs h t ro rv hm tm O V N u s p b I) yS wS rS yM wM' rM av (fun W2 => LI D g vs h t ro rv hm tm st W2 N (B + 460000)) := by
  have hL : LI D g vs h t ro rv hm tm st (wB g vs h t ro rv hm tm O V N u s p b I) N (B + 460000) := ⟨O, V, u, s, p, b, I, n, L, rfl, G.mono (by omega), K⟩
  rcases q with ⟨r, e1, e2⟩ | ⟨j, r, hj, e1, e2⟩
  · exact ⟨r, _, _, ⟨_, rfl⟩, ⟨_, rfl⟩, ⟨_, _, _, cut_BN, K.1, fun sz => cn r sz e2⟩, ⟨_, _, _, cut_BM, K.2.2, fun sz => cm r sz e1⟩, hL⟩
  · refine ⟨r, _, _, ⟨_, rfl⟩, ⟨_, rfl⟩, ⟨_, _, _, cut_BJ hj, K.2.1 j hj, fun sz => cj j r sz _ e2⟩, ⟨_, _, _, cut_BM, K.2.2, fun sz => cm r sz e1⟩, ?_⟩
    rw [upI_self]
    exact hL
theorem OP_1 {O : Nat → Nat → Nat} {V : Nat → Nat → ClassId} {u s p : St} {b : Nat → Int64} {I : Nat → St} {n L : Nat} {yS yM : MethodName} {wS wM' : List Cond} {rS rM : Room} {av : List Value} {fM : Option (Int32 × St)} {fn : Option Int32} {fj : Nat → St → Option (Int32 × St)} (K : KB D vs t rv tm V N st) (q : Q1 s p I n L N (B + 460000) fM fn fj)
    (cn : ∀ r sz, fn = some r → sr_Ci l yS wS rS D (tNN vs t rv) (wN g vs h t ro rv (fO O N) (wQ h O V I N) s p b) (wN g vs h t ro rv (fO O N) (wQ h O V I N) s p b) sz (.ref (g 0) :: av) r)
    (cj : ∀ j r i' sz Y, fj j (I j) = some (r, i') → sr_Ci l yS wS rS D (tJJ vs t rv (V j)) (wJJ g vs h t ro rv (fO O N) Y (O j) (V j) j s p b (I j)) (wJJ g vs h t ro rv (fO O N) Y (O j) (V j) j s p b i') sz (.ref (g 0) :: av) r)
    (cm : ∀ r u' sz, fM = some (r, u') → sr_Ci l yM wM' rM D (tM tm) (wM hm tm u) (wM hm tm u') sz (.ref (hm 0) :: av) r) :
    OP l st D g hm (wB g vs h t ro rv hm tm O V N u s p b I) yS wS rS yM wM' rM av (fun W2 => LI D g vs h t ro rv hm tm st W2 N (B + 460000)) := by
  rcases q with ⟨r, u', e1, e2, G⟩ | ⟨j, r, u', i', hj, e1, e2, G⟩
  · exact ⟨r, _, _, ⟨_, rfl⟩, ⟨_, rfl⟩, ⟨_, _, _, cut_BN, K.1, fun sz => cn r sz e2⟩, ⟨_, _, _, cut_BM, K.2.2, fun sz => cm r u' sz e1⟩, ⟨O, V, u', s, p, b, I, n, L, rfl, G, K⟩⟩
  · exact ⟨r, _, _, ⟨_, rfl⟩, ⟨_, rfl⟩, ⟨_, _, _, cut_BJ hj, K.2.1 j hj, fun sz => cj j r i' sz _ e2⟩, ⟨_, _, _, cut_BM, K.2.2, fun sz => cm r u' sz e1⟩, ⟨O, V, u', s, p, b, upI I j i', n, L, rfl, G, K⟩⟩
theorem op_add (hL : LI D g vs h t ro rv hm tm st W0 N B) (x1 x2 x3 x4 x5 : Int32) : OP l st D g hm W0 y_S_add w_S_add (sr_rm 3 71) y_M_add w_M_add (sr_rm 2 46) [.int x1, .int x2, .int x3, .int x4, .int x5] (fun W2 => LI D g vs h t ro rv hm tm st W2 N (B + 460000)) := by
  obtain ⟨O, V, u, s, p, b, I, n, L, rfl, G, K⟩ := hL
  obtain ⟨r, u', p', n', e1, e2, G'⟩ := add_ok G b x1 x2 x3 x4 x5
  exact ⟨r, _, _, ⟨_, rfl⟩, ⟨_, rfl⟩, ⟨_, _, _, cut_BN, K.1, fun sz => c_S_add e2⟩, ⟨_, _, _, cut_BM, K.2.2, fun sz => c_M_add e1⟩, ⟨O, V, u', s, p', b, I, n', L, rfl, G'.mono (by omega), K⟩⟩
theorem op_join (hL : LI D g vs h t ro rv hm tm st W0 N B) (x1 x2 : Int32) : OP l st D g hm W0 y_S_join w_S_join (sr_rm 1 21) y_M_join w_M_join (sr_rm 1 22) [.int x1, .int x2] (fun W2 => LI D g vs h t ro rv hm tm st W2 N (B + 460000)) := by
  obtain ⟨O, V, u, s, p, b, I, n, L, rfl, G, K⟩ := hL
  obtain ⟨r, u', p', e1, e2, G'⟩ := join_ok G b x1 x2
  exact ⟨r, _, _, ⟨_, rfl⟩, ⟨_, rfl⟩, ⟨_, _, _, cut_BN, K.1, fun sz => c_S_join e2⟩, ⟨_, _, _, cut_BM, K.2.2, fun sz => c_M_join e1⟩, ⟨O, V, u', s, p', b, I, n, L, rfl, G'.mono (by omega), K⟩⟩
theorem op_link (hL : LI D g vs h t ro rv hm tm st W0 N B) (x1 x2 x3 x4 : Int32) : OP l st D g hm W0 y_S_link w_S_link (sr_rm 1 24) y_M_link w_M_link (sr_rm 1 22) [.int x1, .int x2, .int x3, .int x4] (fun W2 => LI D g vs h t ro rv hm tm st W2 N (B + 460000)) := by
  obtain ⟨O, V, u, s, p, b, I, n, L, rfl, G, K⟩ := hL
  obtain ⟨r, u', p', L', e1, e2, G'⟩ := link_ok G b x1 x2 x3 x4
  exact ⟨r, _, _, ⟨_, rfl⟩, ⟨_, rfl⟩, ⟨_, _, _, cut_BN, K.1, fun sz => c_S_link e2⟩, ⟨_, _, _, cut_BM, K.2.2, fun sz => c_M_link e1⟩, ⟨O, V, u', s, p', b, I, n, L', rfl, G'.mono (by omega), K⟩⟩
theorem op_deploy (hL : LI D g vs h t ro rv hm tm st W0 N B) : OP l st D g hm W0 y_S_deploy w_S_deploy (sr_rm 6 131) y_M_deploy w_M_deploy (sr_rm 3 69) [] (fun W2 => LI D g vs h t ro rv hm tm st W2 N (B + 460000)) := by
  obtain ⟨O, V, u, s, p, b, I, n, L, rfl, G, K⟩ := hL
  obtain ⟨r, u', s', b', e1, e2, G'⟩ := deploy_ok G b
  exact ⟨r, _, _, ⟨_, rfl⟩, ⟨_, rfl⟩, ⟨_, _, _, cut_BN, K.1, fun sz => c_S_deploy e2⟩, ⟨_, _, _, cut_BM, K.2.2, fun sz => c_M_deploy e1⟩, ⟨O, V, u', s', p, b', I, n, L, rfl, G'.mono (by omega), K⟩⟩
theorem op_run (hL : LI D g vs h t ro rv hm tm st W0 N B) (hB : B + 470000 < 2 ^ 30) (x1 x2 : Int32) : OP l st D g hm W0 y_S_run w_S_run (sr_rm 6 137) y_M_run w_M_run (sr_rm 5 119) [.int x1, .int x2] (fun W2 => LI D g vs h t ro rv hm tm st W2 N (B + 460000)) := by
  obtain ⟨O, V, u, s, p, b, I, n, L, rfl, G, K⟩ := hL
  exact OP_1 K (run_ok G hB b x1 x2) (fun r sz e => c_S_run_n e) (fun j r i' sz Y e => c_S_run_j e) (fun r u' sz e => c_M_run e)
theorem op_answer (hL : LI D g vs h t ro rv hm tm st W0 N B) (hB : B + 470000 < 2 ^ 30) (x1 x2 x3 x4 : Int32) : OP l st D g hm W0 y_S_answer w_S_answer (sr_rm 6 139) y_M_answer w_M_answer (sr_rm 4 95) [.int x1, .int x2, .int x3, .int x4] (fun W2 => LI D g vs h t ro rv hm tm st W2 N (B + 460000)) := by
  obtain ⟨O, V, u, s, p, b, I, n, L, rfl, G, K⟩ := hL
  exact OP_1 K (answer_ok2 G hB b x1 x2 x3 x4) (fun r sz e => c_S_answer_n e) (fun j r i' sz Y e => c_S_answer_j e) (fun r u' sz e => c_M_answer e)
theorem op_terminate (hL : LI D g vs h t ro rv hm tm st W0 N B) (hB : B + 470000 < 2 ^ 30) (x1 : Int32) : OP l st D g hm W0 y_S_terminate w_S_terminate (sr_rm 4 88) y_M_terminate w_M_terminate (sr_rm 2 42) [.int x1] (fun W2 => LI D g vs h t ro rv hm tm st W2 N (B + 460000)) := by
  obtain ⟨O, V, u, s, p, b, I, n, L, rfl, G, K⟩ := hL
  exact OP_1 K (terminate_ok G hB b x1) (fun r sz e => c_S_terminate_n e) (fun j r i' sz Y e => c_S_terminate_j e) (fun r u' sz e => c_M_terminate e)
theorem op_next (hL : LI D g vs h t ro rv hm tm st W0 N B) (x1 : Int32) : OP l st D g hm W0 y_S_next w_S_next (sr_rm 4 87) y_M_next w_M_next (sr_rm 3 64) [.int x1] (fun W2 => LI D g vs h t ro rv hm tm st W2 N (B + 460000)) := by
  obtain ⟨O, V, u, s, p, b, I, n, L, rfl, G, K⟩ := hL
  obtain ⟨u', G', ⟨r, e1, e2⟩ | ⟨j, r, hj, e1, e2⟩⟩ := next_ok2 G b x1
  · exact ⟨r, _, _, ⟨_, rfl⟩, ⟨_, rfl⟩, ⟨_, _, _, cut_BN, K.1, fun sz => c_S_next_n e2⟩, ⟨_, _, _, cut_BM, K.2.2, fun sz => c_M_next e1⟩, ⟨O, V, u', s, p, b, I, n, L, rfl, G'.mono (by omega), K⟩⟩
  · refine ⟨r, _, _, ⟨_, rfl⟩, ⟨_, rfl⟩, ⟨_, _, _, cut_BJ hj, K.2.1 j hj, fun sz => c_S_next_j e2⟩, ⟨_, _, _, cut_BM, K.2.2, fun sz => c_M_next e1⟩, ⟨O, V, u', s, p, b, I, n, L, ?_, G'.mono (by omega), K⟩⟩
    rw [upI_self]
theorem op_state (hL : LI D g vs h t ro rv hm tm st W0 N B) (x1 : Int32) : OP l st D g hm W0 y_S_state w_S_state (sr_rm 1 21) y_M_state w_M_state (sr_rm 1 22) [.int x1] (fun W2 => LI D g vs h t ro rv hm tm st W2 N (B + 460000)) := by
  obtain ⟨O, V, u, s, p, b, I, n, L, rfl, G, K⟩ := hL
  exact OP_q G K (state_ok G b x1) (fun r sz e => c_S_state_n e) (fun j r sz Y e => c_S_state_j e) (fun r sz e => c_M_state e)
theorem op_status (hL : LI D g vs h t ro rv hm tm st W0 N B) (x1 x2 : Int32) : OP l st D g hm W0 y_S_status w_S_status (sr_rm 1 21) y_M_status w_M_status (sr_rm 1 22) [.int x1, .int x2] (fun W2 => LI D g vs h t ro rv hm tm st W2 N (B + 460000)) := by
  obtain ⟨O, V, u, s, p, b, I, n, L, rfl, G, K⟩ := hL
  exact OP_q G K (status_ok G b x1 x2) (fun r sz e => c_S_status_n e) (fun j r sz Y e => c_S_status_j e) (fun r sz e => c_M_status e)
theorem op_variable (hL : LI D g vs h t ro rv hm tm st W0 N B) (x1 x2 : Int32) : OP l st D g hm W0 y_S_variable w_S_variable (sr_rm 1 21) y_M_variable w_M_variable (sr_rm 1 22) [.int x1, .int x2] (fun W2 => LI D g vs h t ro rv hm tm st W2 N (B + 460000)) := by
  obtain ⟨O, V, u, s, p, b, I, n, L, rfl, G, K⟩ := hL
  exact OP_q G K (variable_ok G b x1 x2) (fun r sz e => c_S_variable_n e) (fun j r sz Y e => c_S_variable_j e) (fun r sz e => c_M_variable e)
theorem op_own (hL : LI D g vs h t ro rv hm tm st W0 N B) (x1 x2 : Int32) : OP l st D g hm W0 y_S_own w_S_own (sr_rm 2 42) y_M_own w_M_own (sr_rm 2 44) [.int x1, .int x2] (fun W2 => LI D g vs h t ro rv hm tm st W2 N (B + 460000)) := by
  obtain ⟨O, V, u, s, p, b, I, n, L, rfl, G, K⟩ := hL
  exact OP_q G K (own_ok G b x1 x2) (fun r sz e => c_S_own_n e) (fun j r sz Y e => c_S_own_j e) (fun r sz e => c_M_own e)
theorem op_linkState (hL : LI D g vs h t ro rv hm tm st W0 N B) (x1 x2 : Int32) : OP l st D g hm W0 y_S_linkState w_S_linkState (sr_rm 1 21) y_M_linkState w_M_linkState (sr_rm 1 22) [.int x1, .int x2] (fun W2 => LI D g vs h t ro rv hm tm st W2 N (B + 460000)) := by
  obtain ⟨O, V, u, s, p, b, I, n, L, rfl, G, K⟩ := hL
  exact OP_q G K (linkState_ok G b x1 x2) (fun r sz e => c_S_linkState_n e) (fun j r sz Y e => c_S_linkState_j e) (fun r sz e => c_M_linkState e)
theorem op_kept (hL : LI D g vs h t ro rv hm tm st W0 N B) (x1 x2 : Int32) : OP l st D g hm W0 y_S_kept w_S_kept (sr_rm 2 42) y_M_kept w_M_kept (sr_rm 2 44) [.int x1, .int x2] (fun W2 => LI D g vs h t ro rv hm tm st W2 N (B + 460000)) := by
  obtain ⟨O, V, u, s, p, b, I, n, L, rfl, G, K⟩ := hL
  exact OP_q G K (kept_ok2 G b x1 x2) (fun r sz e => c_S_kept_n e) (fun j r sz Y e => c_S_kept_j e) (fun r sz e => c_M_kept e)
theorem op_events (hL : LI D g vs h t ro rv hm tm st W0 N B) (x1 : Int32) : OP l st D g hm W0 y_S_events w_S_events (sr_rm 1 21) y_M_events w_M_events (sr_rm 1 22) [.int x1] (fun W2 => LI D g vs h t ro rv hm tm st W2 N (B + 460000)) := by
  obtain ⟨O, V, u, s, p, b, I, n, L, rfl, G, K⟩ := hL
  exact OP_q G K (events_ok G b x1) (fun r sz e => c_S_events_n e) (fun j r sz Y e => c_S_events_j e) (fun r sz e => c_M_events e)
theorem op_event (hL : LI D g vs h t ro rv hm tm st W0 N B) (hB : B < 2 ^ 30) (x1 x2 : Int32) : OP l st D g hm W0 y_S_event w_S_event (sr_rm 1 21) y_M_event w_M_event (sr_rm 1 22) [.int x1, .int x2] (fun W2 => LI D g vs h t ro rv hm tm st W2 N (B + 460000)) := by
  obtain ⟨O, V, u, s, p, b, I, n, L, rfl, G, K⟩ := hL
  exact OP_q G K (event_ok2 G hB b x1 x2) (fun r sz e => c_S_event_n e) (fun j r sz Y e => c_S_event_j e) (fun r sz e => c_M_event e)
theorem hRW_N {O : Nat → Nat → Nat} {V : Nat → Nat → ClassId} {u s p : St} {b : Nat → Int64} {I : Nat → St} {n L : Nat} (G : GI u s p I n L N B) (x2 : Int32) : ∀ sz, sr_Ci l y_S_runningWith w_S_runningWith (sr_rm 1 21) D (tNN vs t rv) (wN g vs h t ro rv (fO O N) (wQ h O V I N) s p b) (wN g vs h t ro rv (fO O N) (wQ h O V I N) s p b) sz [.ref (g 0), .int x2] (oI (sp_fd (kP I x2) 0 N)) := by
  intro sz
  refine c_S_runningWith (ky := fun k => I k 1 0) (ou := fun k => I k 3 0) G.N8 G.s0 (fun k hk => ?_)
  obtain ⟨q, fs, a, c, d⟩ := hI_of (F := fO O N) (List.Perm.refl (wN g vs h t ro rv (fO O N) (wQ h O V I N) s p b)) k hk
  exact ⟨O k 0, q, fs, if_pos hk, a, c, d⟩
theorem hRW_J {O : Nat → Nat → Nat} {V : Nat → Nat → ClassId} {u s p : St} {b : Nat → Int64} {I : Nat → St} {n L j : Nat} (hj : j < N) (G : GI u s p I n L N B) (x2 : Int32) : ∀ sz, sr_Ci l y_S_runningWith w_S_runningWith (sr_rm 1 21) D (tNN vs t rv) (wJJ g vs h t ro rv (fO O N) (wX h O V I j N) (O j) (V j) j s p b (I j)) (wJJ g vs h t ro rv (fO O N) (wX h O V I j N) (O j) (V j) j s p b (I j)) sz [.ref (g 0), .int x2] (oI (sp_fd (kP I x2) 0 N)) := by
  intro sz
  refine c_S_runningWith (ky := fun k => I k 1 0) (ou := fun k => I k 3 0) G.N8 G.s0 (fun k hk => ?_)
  obtain ⟨q, fs, a, c, d⟩ := hI_of (F := fO O N) (wJJ_p0 (g := g) (vs := vs) (t := t) (ro := ro) (rv := rv) (h := h) (O := O) (V := V) (I := I) (s := s) (p := p) (b := b) hj) k hk
  refine ⟨O k 0, q, fs, ?_, a, c, d⟩
  rw [fO_up hj]
  exact if_pos hk
/-- a message: as any call, or one more is made -/
theorem op_message (hL : LI D g vs h t ro rv hm tm st W0 N B) (hB : B + 470000 < 2 ^ 30) (x1 x2 x3 : Int32) : OP l st D g hm W0 y_S_message w_S_message (sr_rm 6 139) y_M_message w_M_message (sr_rm 4 95) [.int x1, .int x2, .int x3] (fun W2 => LI D g vs h t ro rv hm tm st W2 N (B + 460000)) ∨
    (N < 8 ∧ ∃ (wc wr : va_W) (wf : sr_U → va_W) (tf : sr_U → List (ClassId × FieldType)), (∃ fs, W0[28]? = some (g 0, .inr (ci_S, fs))) ∧ W0.Perm (wc ++ wr) ∧ va_K D classes (tNN vs t rv) st ∧ (∀ sz, Met l y_S_message w_S_message ({ frames := 6, cells := 16, slots := 247, locals := 139 }) (sr_Pm D wc (tNN vs t rv) sz [.ref (g 0), .int x1, .int x2, .int x3]) (va_Qi (fun (r : Int32) (_ : sr_U) => r = nI N) (fun (u : sr_U) t' => sr_B D (tf u) (va_A wc sz) (wf u) t') (va_A wc sz)) 16 247 (va_A wc sz)) ∧
      ∀ U : sr_U, va_K D classes (tf U) st → ∃ W1 W2, (wf U ++ wr).Perm W1 ∧ (∃ fs, W1[0]? = some (hm 0, .inr (ci_M, fs))) ∧ SC l st D W1 W2 y_M_message w_M_message (sr_rm 4 95) [.ref (hm 0), .int x1, .int x2, .int x3] (nI N) ∧ LI D g vs h t ro rv hm tm st W2 (N + 1) (B + 460000)) := by
  obtain ⟨O, V, u, s, p, b, I, n, L, rfl, G, K⟩ := hL
  rcases message_ok2 G hB b x1 x2 x3 with ⟨hfd, r, e1, e2⟩ | ⟨hfd, hd, h8, hsw, f0, u', hst, e1, G'⟩ | ⟨j, hfd, hj, r, u', i', e1, e2, G'⟩
  · left
    have hRW := hRW_N (l := l) (D := D) (g := g) (vs := vs) (h := h) (t := t) (ro := ro) (rv := rv) (O := O) (V := V) (b := b) G x2
    rw [hfd] at hRW
    exact ⟨r, _, _, ⟨_, rfl⟩, ⟨_, rfl⟩, ⟨_, _, _, cut_BN, K.1, fun sz => c_S_message_n hRW e2⟩, ⟨_, _, _, cut_BM, K.2.2, fun sz => c_M_message e1⟩, ⟨O, V, u, s, p, b, I, n, L, rfl, G.mono (by omega), K⟩⟩
  · right
    have hRW := hRW_N (l := l) (D := D) (g := g) (vs := vs) (h := h) (t := t) (ro := ro) (rv := rv) (O := O) (V := V) (b := b) G x2
    rw [hfd] at hRW
    refine ⟨h8, wN g vs h t ro rv (fO O N) (wQ h O V I N) s p b, wM hm tm u, fun U => wJJ g vs h t ro rv (fO O N) (wQ h O V I N) U.1 U.2 N (sr_up s 0 0 (nI (N + 1))) p b (iN f0 x2 x3), fun U => tJJ vs t rv U.2, ⟨_, rfl⟩, List.perm_append_comm, K.1, fun sz => c_S_message_m hRW hd G.s0 h8 hsw hst, fun U hU => ?_⟩
    have eW : wJJ g vs h t ro rv (fO O N) (wQ h O V I N) U.1 U.2 N (sr_up s 0 0 (nI (N + 1))) p b (iN f0 x2 x3) = wN g vs h t ro rv (fO (fun k => if k = N then U.1 else O k) (N + 1)) (wQ h (fun k => if k = N then U.1 else O k) (fun k => if k = N then U.2 else V k) (upI I N (iN f0 x2 x3)) (N + 1)) (sr_up s 0 0 (nI (N + 1))) p b := by
      have e1 : va_up (fO O N) N (some (U.1 0)) = fO (fun k => if k = N then U.1 else O k) (N + 1) := by
        funext k
        show (if k = N then some (U.1 0) else if k < N then some (O k 0) else none) = if k < N + 1 then some ((if k = N then U.1 else O k) 0) else none
        by_cases e : k = N
        · rw [if_pos e, if_pos (by omega), if_pos e]
        · rw [if_neg e, if_neg e]
          by_cases e2 : k < N
          · rw [if_pos e2, if_pos (by omega)]
          · rw [if_neg e2, if_neg (by omega)]
      have e2 : wQ h (fun k => if k = N then U.1 else O k) (fun k => if k = N then U.2 else V k) (upI I N (iN f0 x2 x3)) (N + 1) = wJ h U.1 U.2 (iN f0 x2 x3) ++ wQ h O V I N := by
        show wJ h (if N = N then U.1 else O N) (if N = N then U.2 else V N) (upI I N (iN f0 x2 x3) N) ++ wQ h _ _ _ N = _
        rw [if_pos rfl, if_pos rfl, show upI I N (iN f0 x2 x3) N = iN f0 x2 x3 from if_pos rfl, wQ_cg (h := h) (O' := fun k => if k = N then U.1 else O k) (V' := fun k => if k = N then U.2 else V k) (I' := upI I N (iN f0 x2 x3)) (O := O) (V := V) (I := I) (N := N) (fun k hk => ⟨if_neg (by omega), if_neg (by omega), if_neg (by omega)⟩)]
      unfold wJJ
      rw [e1, e2]
    refine ⟨wB g vs h t ro rv hm tm (fun k => if k = N then U.1 else O k) (fun k => if k = N then U.2 else V k) (N + 1) u (sr_up s 0 0 (nI (N + 1))) p b (upI I N (iN f0 x2 x3)), _, ?_, ⟨_, rfl⟩, ⟨_, _, _, cut_BM, K.2.2, fun sz => c_M_message e1⟩, ⟨fun k => if k = N then U.1 else O k, fun k => if k = N then U.2 else V k, u', sr_up s 0 0 (nI (N + 1)), p, b, upI I N (iN f0 x2 x3), n, L, rfl, G'.mono (by omega), K.1, fun k hk => ?_, K.2.2⟩⟩
    · show (wJJ g vs h t ro rv (fO O N) (wQ h O V I N) U.1 U.2 N (sr_up s 0 0 (nI (N + 1))) p b (iN f0 x2 x3) ++ wM hm tm u).Perm _
      rw [eW]
      exact List.perm_append_comm
    · show va_K D classes (tJJ vs t rv (if k = N then U.2 else V k)) st
      by_cases e : k = N
      · rw [if_pos e]
        exact hU
      · rw [if_neg e]
        exact K.2.1 k (by omega)
  · left
    have hRW := hRW_J (l := l) (D := D) (g := g) (vs := vs) (h := h) (t := t) (ro := ro) (rv := rv) (O := O) (V := V) (b := b) hj G x2
    rw [hfd] at hRW
    exact ⟨r, _, _, ⟨_, rfl⟩, ⟨_, rfl⟩, ⟨_, _, _, cut_BJ hj, K.2.1 j hj, fun sz => c_S_message_j hRW e2⟩, ⟨_, _, _, cut_BM, K.2.2, fun sz => c_M_message e1⟩, ⟨O, V, u', s, p, b, upI I j i', n, L, rfl, G', K⟩⟩
end
