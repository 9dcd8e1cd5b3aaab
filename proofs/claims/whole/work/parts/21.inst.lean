/-! I_report -/
theorem d_I_report_0 : decode b_I_report 0 = .ok (.aload_n 0, 1) := by decide +kernel
theorem d_I_report_1 : decode b_I_report 1 = .ok (.getfield 25, 3) := by decide +kernel
theorem d_I_report_4 : decode b_I_report 4 = .ok (.getfield 210, 3) := by decide +kernel
theorem d_I_report_7 : decode b_I_report 7 = .ok (.iload_n 1, 1) := by decide +kernel
theorem d_I_report_8 : decode b_I_report 8 = .ok (.iaload, 1) := by decide +kernel
theorem d_I_report_9 : decode b_I_report 9 = .ok (.istore_n 2, 1) := by decide +kernel
theorem d_I_report_10 : decode b_I_report 10 = .ok (.iload_n 2, 1) := by decide +kernel
theorem d_I_report_11 : decode b_I_report 11 = .ok (.ifCond .ge 11, 3) := by decide +kernel
theorem d_I_report_14 : decode b_I_report 14 = .ok (.aload_n 0, 1) := by decide +kernel
theorem d_I_report_15 : decode b_I_report 15 = .ok (.iconst 1, 1) := by decide +kernel
theorem d_I_report_16 : decode b_I_report 16 = .ok (.putfield 75, 3) := by decide +kernel
theorem d_I_report_19 : decode b_I_report 19 = .ok (.goto 162, 3) := by decide +kernel
theorem d_I_report_22 : decode b_I_report 22 = .ok (.aload_n 0, 1) := by decide +kernel
theorem d_I_report_23 : decode b_I_report 23 = .ok (.getfield 25, 3) := by decide +kernel
theorem d_I_report_26 : decode b_I_report 26 = .ok (.getfield 258, 3) := by decide +kernel
theorem d_I_report_29 : decode b_I_report 29 = .ok (.iload_n 1, 1) := by decide +kernel
theorem d_I_report_30 : decode b_I_report 30 = .ok (.iaload, 1) := by decide +kernel
theorem d_I_report_31 : decode b_I_report 31 = .ok (.iconst 1, 1) := by decide +kernel
theorem d_I_report_32 : decode b_I_report 32 = .ok (.if_icmp .ne 19, 3) := by decide +kernel
theorem d_I_report_35 : decode b_I_report 35 = .ok (.aload_n 0, 1) := by decide +kernel
theorem d_I_report_36 : decode b_I_report 36 = .ok (.getfield 64, 3) := by decide +kernel
theorem d_I_report_39 : decode b_I_report 39 = .ok (.iload_n 2, 1) := by decide +kernel
theorem d_I_report_40 : decode b_I_report 40 = .ok (.invokevirtual 232, 3) := by decide +kernel
theorem d_I_report_43 : decode b_I_report 43 = .ok (.aload_n 0, 1) := by decide +kernel
theorem d_I_report_44 : decode b_I_report 44 = .ok (.iload_n 2, 1) := by decide +kernel
theorem d_I_report_45 : decode b_I_report 45 = .ok (.invokevirtual 123, 3) := by decide +kernel
theorem d_I_report_48 : decode b_I_report 48 = .ok (.goto 133, 3) := by decide +kernel
theorem d_I_report_51 : decode b_I_report 51 = .ok (.aload_n 0, 1) := by decide +kernel
theorem d_I_report_52 : decode b_I_report 52 = .ok (.getfield 25, 3) := by decide +kernel
theorem d_I_report_55 : decode b_I_report 55 = .ok (.getfield 258, 3) := by decide +kernel
theorem d_I_report_58 : decode b_I_report 58 = .ok (.iload_n 1, 1) := by decide +kernel
theorem d_I_report_59 : decode b_I_report 59 = .ok (.iaload, 1) := by decide +kernel
theorem d_I_report_60 : decode b_I_report 60 = .ok (.iconst 2, 1) := by decide +kernel
theorem d_I_report_61 : decode b_I_report 61 = .ok (.if_icmp .ne 15, 3) := by decide +kernel
theorem d_I_report_64 : decode b_I_report 64 = .ok (.aload_n 0, 1) := by decide +kernel
theorem d_I_report_65 : decode b_I_report 65 = .ok (.iload_n 2, 1) := by decide +kernel
theorem d_I_report_66 : decode b_I_report 66 = .ok (.bipush 12, 2) := by decide +kernel
theorem d_I_report_68 : decode b_I_report 68 = .ok (.bipush 8, 2) := by decide +kernel
theorem d_I_report_70 : decode b_I_report 70 = .ok (.invokevirtual 241, 3) := by decide +kernel
theorem d_I_report_73 : decode b_I_report 73 = .ok (.goto 108, 3) := by decide +kernel
theorem d_I_report_76 : decode b_I_report 76 = .ok (.aload_n 0, 1) := by decide +kernel
theorem d_I_report_77 : decode b_I_report 77 = .ok (.getfield 25, 3) := by decide +kernel
theorem d_I_report_80 : decode b_I_report 80 = .ok (.getfield 126, 3) := by decide +kernel
theorem d_I_report_83 : decode b_I_report 83 = .ok (.iload_n 2, 1) := by decide +kernel
theorem d_I_report_84 : decode b_I_report 84 = .ok (.iaload, 1) := by decide +kernel
theorem d_I_report_85 : decode b_I_report 85 = .ok (.bipush 12, 2) := by decide +kernel
theorem d_I_report_87 : decode b_I_report 87 = .ok (.if_icmp .ne 12, 3) := by decide +kernel
theorem d_I_report_90 : decode b_I_report 90 = .ok (.aload_n 0, 1) := by decide +kernel
theorem d_I_report_91 : decode b_I_report 91 = .ok (.iload_n 2, 1) := by decide +kernel
theorem d_I_report_92 : decode b_I_report 92 = .ok (.iload_n 1, 1) := by decide +kernel
theorem d_I_report_93 : decode b_I_report 93 = .ok (.invokevirtual 261, 3) := by decide +kernel
theorem d_I_report_96 : decode b_I_report 96 = .ok (.goto 85, 3) := by decide +kernel
theorem d_I_report_99 : decode b_I_report 99 = .ok (.aload_n 0, 1) := by decide +kernel
theorem d_I_report_100 : decode b_I_report 100 = .ok (.getfield 25, 3) := by decide +kernel
theorem d_I_report_103 : decode b_I_report 103 = .ok (.getfield 126, 3) := by decide +kernel
theorem d_I_report_106 : decode b_I_report 106 = .ok (.iload_n 2, 1) := by decide +kernel
theorem d_I_report_107 : decode b_I_report 107 = .ok (.iaload, 1) := by decide +kernel
theorem d_I_report_108 : decode b_I_report 108 = .ok (.bipush 11, 2) := by decide +kernel
theorem d_I_report_110 : decode b_I_report 110 = .ok (.if_icmp .ne 13, 3) := by decide +kernel
theorem d_I_report_113 : decode b_I_report 113 = .ok (.aload_n 0, 1) := by decide +kernel
theorem d_I_report_114 : decode b_I_report 114 = .ok (.getfield 9, 3) := by decide +kernel
theorem d_I_report_117 : decode b_I_report 117 = .ok (.iload_n 2, 1) := by decide +kernel
theorem d_I_report_118 : decode b_I_report 118 = .ok (.iconst 4, 1) := by decide +kernel
theorem d_I_report_119 : decode b_I_report 119 = .ok (.iastore, 1) := by decide +kernel
theorem d_I_report_120 : decode b_I_report 120 = .ok (.goto 61, 3) := by decide +kernel
theorem d_I_report_123 : decode b_I_report 123 = .ok (.aload_n 0, 1) := by decide +kernel
theorem d_I_report_124 : decode b_I_report 124 = .ok (.getfield 25, 3) := by decide +kernel
theorem d_I_report_127 : decode b_I_report 127 = .ok (.getfield 126, 3) := by decide +kernel
theorem d_I_report_130 : decode b_I_report 130 = .ok (.iload_n 2, 1) := by decide +kernel
theorem d_I_report_131 : decode b_I_report 131 = .ok (.iaload, 1) := by decide +kernel
theorem d_I_report_132 : decode b_I_report 132 = .ok (.bipush 8, 2) := by decide +kernel
theorem d_I_report_134 : decode b_I_report 134 = .ok (.if_icmp .ne 20, 3) := by decide +kernel
theorem d_I_report_137 : decode b_I_report 137 = .ok (.aload_n 0, 1) := by decide +kernel
theorem d_I_report_138 : decode b_I_report 138 = .ok (.aload_n 0, 1) := by decide +kernel
theorem d_I_report_139 : decode b_I_report 139 = .ok (.getfield 25, 3) := by decide +kernel
theorem d_I_report_142 : decode b_I_report 142 = .ok (.iload_n 2, 1) := by decide +kernel
theorem d_I_report_143 : decode b_I_report 143 = .ok (.iload_n 1, 1) := by decide +kernel
theorem d_I_report_144 : decode b_I_report 144 = .ok (.invokevirtual 213, 3) := by decide +kernel
theorem d_I_report_147 : decode b_I_report 147 = .ok (.iload_n 2, 1) := by decide +kernel
theorem d_I_report_148 : decode b_I_report 148 = .ok (.invokevirtual 198, 3) := by decide +kernel
theorem d_I_report_151 : decode b_I_report 151 = .ok (.goto 30, 3) := by decide +kernel
theorem d_I_report_154 : decode b_I_report 154 = .ok (.aload_n 0, 1) := by decide +kernel
theorem d_I_report_155 : decode b_I_report 155 = .ok (.getfield 25, 3) := by decide +kernel
theorem d_I_report_158 : decode b_I_report 158 = .ok (.getfield 126, 3) := by decide +kernel
theorem d_I_report_161 : decode b_I_report 161 = .ok (.iload_n 2, 1) := by decide +kernel
theorem d_I_report_162 : decode b_I_report 162 = .ok (.iaload, 1) := by decide +kernel
theorem d_I_report_163 : decode b_I_report 163 = .ok (.bipush 10, 2) := by decide +kernel
theorem d_I_report_165 : decode b_I_report 165 = .ok (.if_icmp .eq 11, 3) := by decide +kernel
theorem d_I_report_168 : decode b_I_report 168 = .ok (.aload_n 0, 1) := by decide +kernel
theorem d_I_report_169 : decode b_I_report 169 = .ok (.iload_n 2, 1) := by decide +kernel
theorem d_I_report_170 : decode b_I_report 170 = .ok (.invokevirtual 264, 3) := by decide +kernel
theorem d_I_report_173 : decode b_I_report 173 = .ok (.ifCond .eq 8, 3) := by decide +kernel
theorem d_I_report_176 : decode b_I_report 176 = .ok (.aload_n 0, 1) := by decide +kernel
theorem d_I_report_177 : decode b_I_report 177 = .ok (.iload_n 2, 1) := by decide +kernel
theorem d_I_report_178 : decode b_I_report 178 = .ok (.invokevirtual 123, 3) := by decide +kernel
theorem d_I_report_181 : decode b_I_report 181 = .ok (.return_, 1) := by decide +kernel
section
variable {p : Program} {l : Launch} {e : Env} {s : State} {m : MethodId} {args : Array Value} {below : List Frame} {meth : Method} {c : Code} {H : Heap} {locs : List Loc} {ls : Array Slot} {D : va_G} {A : Nat → Prop} {h o : Nat → Nat} {t v : Nat → ClassId}
def f_I_report_176 (p0 : St) (x2 : Int32) (i0 : St) : Option (St) :=
  (f_I_completes p0 x2 i0).bind fun i_22 =>
  some i_22
set_option maxHeartbeats 4000000 in
set_option maxRecDepth 100000 in
theorem k_I_report_176 {p0 : St} {x2 : Int32} {i0 : St} {i' : St} (X : sr_X D (tI t v) b_I_report 3 R_I w_I_report p s m args meth c A none) (Z : sr_Z D A s.heap (wI h t o v p0 i0) H locs) (hl : lv_has ls 3 [(0, .ref (o 0)), (2, .int x2)]) (hf : f_I_report_176 p0 x2 i0 = some i') : W p l e (sr_rm 3 68) s m args below meth c H locs 0 0 (sr_Qv D (tI t v) below args s A (wI h t o v p0 i')) (F0 m 176 ls []) := by
  have hx := X.1
  have hb := X.2.1
  have hK := X.2.2.2.2.2.2.1
  unfold f_I_report_176 at hf
  refine lv_aload_n hx hb d_I_report_176 rfl (lv_at hl 0 rfl) ?_
  refine lv_iload_n hx hb d_I_report_177 rfl (lv_at hl 1 rfl) ?_
  obtain ⟨i_22, e_23, hf⟩ := sr_b hf
  refine sr_cVv (As := [.int x2]) (rest := []) X Z sr_cut_self hK (c_I_completes e_23) (cw_I_123 X.2.2.2.2.2.1 (by decide)) 15 rfl rfl rfl hl rfl (Nat.le_of_ble_eq_true rfl) d_I_report_178 (fun H locs Z => ?_)
  cases hf
  exact sr_retv X Z d_I_report_181
def f_I_report (p0 : St) (x1 : Int32) (i0 : St) : Option (St) :=
  (sr_ald 24 (p0 0) x1).bind fun v_1 =>
  if 0 ≤ v_1 then
    (sr_ald 24 (p0 1) x1).bind fun v_4 =>
    if v_4 = 1 then
      (f_E_clear p0 v_1 i0).bind fun i_37 =>
      (f_I_completes p0 v_1 i_37).bind fun i_39 =>
      some i_39
    else
      (sr_ald 24 (p0 1) x1).bind fun v_7 =>
      if v_7 = 2 then
        (f_I_endUndo p0 v_1 12 8 i0).bind fun i_35 =>
        some i_35
      else
        (sr_ald 24 (p0 2) v_1).bind fun v_10 =>
        if v_10 = 12 then
          (f_I_endBody p0 v_1 x1 i0).bind fun i_33 =>
          some i_33
        else
          (sr_ald 24 (p0 2) v_1).bind fun v_13 =>
          if v_13 = 11 then
            (sr_ast 24 i0 4 v_1 4).bind fun i_31 =>
            some i_31
          else
            (sr_ald 24 (p0 2) v_1).bind fun v_16 =>
            if v_16 = 8 then
              (f_P_childAfter p0 v_1 x1).bind fun v_27 =>
              (f_I_openOrComplete p0 v_27 v_1 i0).bind fun i_29 =>
              some i_29
            else
              (sr_ald 24 (p0 2) v_1).bind fun v_19 =>
              if v_19 = 10 then
                f_I_report_176 p0 v_1 i0
              else
                (f_I_allChildrenEnded p0 i0 v_1).bind fun v_24 =>
                if v_24 = 0 then
                  some i0
                else
                  f_I_report_176 p0 v_1 i0
  else
    (sr_pf i0 3 1).bind fun i_41 =>
    some i_41
set_option maxHeartbeats 4000000 in
set_option maxRecDepth 100000 in
theorem k_I_report_0 {p0 : St} {x1 : Int32} {i0 : St} {i' : St} (X : sr_X D (tI t v) b_I_report 3 R_I w_I_report p s m args meth c A none) (Z : sr_Z D A s.heap (wI h t o v p0 i0) H locs) (hl : lv_has ls 3 [(0, .ref (o 0)), (1, .int x1)]) (hf : f_I_report p0 x1 i0 = some i') : W p l e (sr_rm 3 68) s m args below meth c H locs 0 0 (sr_Qv D (tI t v) below args s A (wI h t o v p0 i')) (F0 m 0 ls []) := by
  have hx := X.1
  have hb := X.2.1
  have hK := X.2.2.2.2.2.2.1
  unfold f_I_report at hf
  refine lv_aload_n hx hb d_I_report_0 rfl (lv_at hl 0 rfl) ?_
  refine g_I_25_I X Z d_I_report_1 ?_
  refine g_I_210_I X Z d_I_report_4 ?_
  refine lv_iload_n hx hb d_I_report_7 rfl (lv_at hl 1 rfl) ?_
  obtain ⟨v_1, e_2, hf⟩ := sr_b hf
  refine sr_iald hx hb hK Z 1 0 rfl rfl e_2 d_I_report_8 ?_
  refine lv_istore_n (lv' := [(2, .int v_1), (0, .ref (o 0)), (1, .int x1)]) hx hb d_I_report_9 rfl hl (by decide) rfl (fun ls hl => ?_)
  refine lv_iload_n hx hb d_I_report_10 rfl (lv_at hl 0 rfl) ?_
  refine lv_if_ge (tgt := 22) hx hb d_I_report_11 rfl (fun q_3 => ?_) (fun q_3 => ?_)
  · have hf := sr_it q_3 hf
    refine lv_aload_n hx hb d_I_report_22 rfl (lv_at hl 1 rfl) ?_
    refine g_I_25_I X Z d_I_report_23 ?_
    refine g_I_258_I X Z d_I_report_26 ?_
    refine lv_iload_n hx hb d_I_report_29 rfl (lv_at hl 2 rfl) ?_
    obtain ⟨v_4, e_5, hf⟩ := sr_b hf
    refine sr_iald hx hb hK Z 2 1 rfl rfl e_5 d_I_report_30 ?_
    refine lv_iconst (v := 1) hx hb d_I_report_31 (by decide) ?_
    refine lv_icmp_ne (tgt := 51) hx hb d_I_report_32 rfl (fun q_6 => ?_) (fun q_6 => ?_)
    · have hf := sr_if q_6 hf
      refine lv_aload_n hx hb d_I_report_51 rfl (lv_at hl 1 rfl) ?_
      refine g_I_25_I X Z d_I_report_52 ?_
      refine g_I_258_I X Z d_I_report_55 ?_
      refine lv_iload_n hx hb d_I_report_58 rfl (lv_at hl 2 rfl) ?_
      obtain ⟨v_7, e_8, hf⟩ := sr_b hf
      refine sr_iald hx hb hK Z 2 1 rfl rfl e_8 d_I_report_59 ?_
      refine lv_iconst (v := 2) hx hb d_I_report_60 (by decide) ?_
      refine lv_icmp_ne (tgt := 76) hx hb d_I_report_61 rfl (fun q_9 => ?_) (fun q_9 => ?_)
      · have hf := sr_if q_9 hf
        refine lv_aload_n hx hb d_I_report_76 rfl (lv_at hl 1 rfl) ?_
        refine g_I_25_I X Z d_I_report_77 ?_
        refine g_I_126_I X Z d_I_report_80 ?_
        refine lv_iload_n hx hb d_I_report_83 rfl (lv_at hl 0 rfl) ?_
        obtain ⟨v_10, e_11, hf⟩ := sr_b hf
        refine sr_iald hx hb hK Z 3 2 rfl rfl e_11 d_I_report_84 ?_
        refine lv_bipush (v := 12) hx hb d_I_report_85 (by decide) ?_
        refine lv_icmp_ne (tgt := 99) hx hb d_I_report_87 rfl (fun q_12 => ?_) (fun q_12 => ?_)
        · have hf := sr_if q_12 hf
          refine lv_aload_n hx hb d_I_report_99 rfl (lv_at hl 1 rfl) ?_
          refine g_I_25_I X Z d_I_report_100 ?_
          refine g_I_126_I X Z d_I_report_103 ?_
          refine lv_iload_n hx hb d_I_report_106 rfl (lv_at hl 0 rfl) ?_
          obtain ⟨v_13, e_14, hf⟩ := sr_b hf
          refine sr_iald hx hb hK Z 3 2 rfl rfl e_14 d_I_report_107 ?_
          refine lv_bipush (v := 11) hx hb d_I_report_108 (by decide) ?_
          refine lv_icmp_ne (tgt := 123) hx hb d_I_report_110 rfl (fun q_15 => ?_) (fun q_15 => ?_)
          · have hf := sr_if q_15 hf
            refine lv_aload_n hx hb d_I_report_123 rfl (lv_at hl 1 rfl) ?_
            refine g_I_25_I X Z d_I_report_124 ?_
            refine g_I_126_I X Z d_I_report_127 ?_
            refine lv_iload_n hx hb d_I_report_130 rfl (lv_at hl 0 rfl) ?_
            obtain ⟨v_16, e_17, hf⟩ := sr_b hf
            refine sr_iald hx hb hK Z 3 2 rfl rfl e_17 d_I_report_131 ?_
            refine lv_bipush (v := 8) hx hb d_I_report_132 (by decide) ?_
            refine lv_icmp_ne (tgt := 154) hx hb d_I_report_134 rfl (fun q_18 => ?_) (fun q_18 => ?_)
            · have hf := sr_if q_18 hf
              refine lv_aload_n hx hb d_I_report_154 rfl (lv_at hl 1 rfl) ?_
              refine g_I_25_I X Z d_I_report_155 ?_
              refine g_I_126_I X Z d_I_report_158 ?_
              refine lv_iload_n hx hb d_I_report_161 rfl (lv_at hl 0 rfl) ?_
              obtain ⟨v_19, e_20, hf⟩ := sr_b hf
              refine sr_iald hx hb hK Z 3 2 rfl rfl e_20 d_I_report_162 ?_
              refine lv_bipush (v := 10) hx hb d_I_report_163 (by decide) ?_
              refine lv_icmp_eq (tgt := 176) hx hb d_I_report_165 rfl (fun q_21 => ?_) (fun q_21 => ?_)
              · have hf := sr_it q_21 hf
                exact k_I_report_176 X Z (lv_sub hl [1, 0] rfl) hf
              · have hf := sr_if q_21 hf
                refine lv_aload_n hx hb d_I_report_168 rfl (lv_at hl 1 rfl) ?_
                refine lv_iload_n hx hb d_I_report_169 rfl (lv_at hl 0 rfl) ?_
                obtain ⟨v_24, e_25, hf⟩ := sr_b hf
                refine sr_cVi (As := [.int v_1]) (rest := []) X Z sr_cut_self hK (c_I_allChildrenEnded e_25) (cw_I_264 X.2.2.2.2.2.1 (by decide)) 15 rfl rfl rfl hl rfl (Nat.le_of_ble_eq_true rfl) d_I_report_170 (fun H locs Z => ?_)
                refine lv_if_eq (tgt := 181) hx hb d_I_report_173 rfl (fun q_26 => ?_) (fun q_26 => ?_)
                · have hf := sr_it q_26 hf
                  cases hf
                  exact sr_retv X Z d_I_report_181
                · have hf := sr_if q_26 hf
                  exact k_I_report_176 X Z (lv_sub hl [1, 0] rfl) hf
            · have hf := sr_it q_18 hf
              refine lv_aload_n hx hb d_I_report_137 rfl (lv_at hl 1 rfl) ?_
              refine lv_aload_n hx hb d_I_report_138 rfl (lv_at hl 1 rfl) ?_
              refine g_I_25_I X Z d_I_report_139 ?_
              refine lv_iload_n hx hb d_I_report_142 rfl (lv_at hl 0 rfl) ?_
              refine lv_iload_n hx hb d_I_report_143 rfl (lv_at hl 2 rfl) ?_
              obtain ⟨v_27, e_28, hf⟩ := sr_b hf
              refine sr_cVi (As := [.int v_1, .int x1]) (rest := [.ref (o 0)]) X Z cut_IP (k_IP hK) (c_P_childAfter e_28) (cw_I_213 X.2.2.2.2.2.1 (by decide)) 0 rfl rfl rfl hl rfl (Nat.le_of_ble_eq_true rfl) d_I_report_144 (fun H locs Z => ?_)
              refine lv_iload_n hx hb d_I_report_147 rfl (lv_at hl 0 rfl) ?_
              obtain ⟨i_29, e_30, hf⟩ := sr_b hf
              refine sr_cVv (As := [.int v_27, .int v_1]) (rest := []) X Z sr_cut_self hK (c_I_openOrComplete e_30) (cw_I_198 X.2.2.2.2.2.1 (by decide)) 15 rfl rfl rfl hl rfl (Nat.le_of_ble_eq_true rfl) d_I_report_148 (fun H locs Z => ?_)
              refine lv_goto (tgt := 181) hx hb d_I_report_151 rfl ?_
              cases hf
              exact sr_retv X Z d_I_report_181
          · have hf := sr_it q_15 hf
            refine lv_aload_n hx hb d_I_report_113 rfl (lv_at hl 1 rfl) ?_
            refine g_I_9_I X Z d_I_report_114 ?_
            refine lv_iload_n hx hb d_I_report_117 rfl (lv_at hl 0 rfl) ?_
            refine lv_iconst (v := 4) hx hb d_I_report_118 (by decide) ?_
            obtain ⟨i_31, e_32, hf⟩ := sr_b hf
            refine sr_iast (wf := (fun q => (wI h t o v p0 q))) hx hb hK Z 20 14 rfl rfl e_32 (fun _ => rfl) d_I_report_119 (fun H locs Z => ?_)
            refine lv_goto (tgt := 181) hx hb d_I_report_120 rfl ?_
            cases hf
            exact sr_retv X Z d_I_report_181
        · have hf := sr_it q_12 hf
          refine lv_aload_n hx hb d_I_report_90 rfl (lv_at hl 1 rfl) ?_
          refine lv_iload_n hx hb d_I_report_91 rfl (lv_at hl 0 rfl) ?_
          refine lv_iload_n hx hb d_I_report_92 rfl (lv_at hl 2 rfl) ?_
          obtain ⟨i_33, e_34, hf⟩ := sr_b hf
          refine sr_cVv (As := [.int v_1, .int x1]) (rest := []) X Z sr_cut_self hK (c_I_endBody e_34) (cw_I_261 X.2.2.2.2.2.1 (by decide)) 15 rfl rfl rfl hl rfl (Nat.le_of_ble_eq_true rfl) d_I_report_93 (fun H locs Z => ?_)
          refine lv_goto (tgt := 181) hx hb d_I_report_96 rfl ?_
          cases hf
          exact sr_retv X Z d_I_report_181
      · have hf := sr_it q_9 hf
        refine lv_aload_n hx hb d_I_report_64 rfl (lv_at hl 1 rfl) ?_
        refine lv_iload_n hx hb d_I_report_65 rfl (lv_at hl 0 rfl) ?_
        refine lv_bipush (v := 12) hx hb d_I_report_66 (by decide) ?_
        refine lv_bipush (v := 8) hx hb d_I_report_68 (by decide) ?_
        obtain ⟨i_35, e_36, hf⟩ := sr_b hf
        refine sr_cVv (As := [.int v_1, .int 12, .int 8]) (rest := []) X Z sr_cut_self hK (c_I_endUndo e_36) (cw_I_241 X.2.2.2.2.2.1 (by decide)) 15 rfl rfl rfl hl rfl (Nat.le_of_ble_eq_true rfl) d_I_report_70 (fun H locs Z => ?_)
        refine lv_goto (tgt := 181) hx hb d_I_report_73 rfl ?_
        cases hf
        exact sr_retv X Z d_I_report_181
    · have hf := sr_it q_6 hf
      refine lv_aload_n hx hb d_I_report_35 rfl (lv_at hl 1 rfl) ?_
      refine g_I_64_I X Z d_I_report_36 ?_
      refine lv_iload_n hx hb d_I_report_39 rfl (lv_at hl 0 rfl) ?_
      obtain ⟨i_37, e_38, hf⟩ := sr_b hf
      refine sr_cVv (As := [.int v_1]) (rest := []) X Z sr_cut_self hK (c_E_clear e_38) (cw_I_232 X.2.2.2.2.2.1 (by decide)) 18 rfl rfl rfl hl rfl (Nat.le_of_ble_eq_true rfl) d_I_report_40 (fun H locs Z => ?_)
      refine lv_aload_n hx hb d_I_report_43 rfl (lv_at hl 1 rfl) ?_
      refine lv_iload_n hx hb d_I_report_44 rfl (lv_at hl 0 rfl) ?_
      obtain ⟨i_39, e_40, hf⟩ := sr_b hf
      refine sr_cVv (As := [.int v_1]) (rest := []) X Z sr_cut_self hK (c_I_completes e_40) (cw_I_123 X.2.2.2.2.2.1 (by decide)) 15 rfl rfl rfl hl rfl (Nat.le_of_ble_eq_true rfl) d_I_report_45 (fun H locs Z => ?_)
      refine lv_goto (tgt := 181) hx hb d_I_report_48 rfl ?_
      cases hf
      exact sr_retv X Z d_I_report_181
  · have hf := sr_if q_3 hf
    refine lv_aload_n hx hb d_I_report_14 rfl (lv_at hl 1 rfl) ?_
    refine lv_iconst (v := 1) hx hb d_I_report_15 (by decide) ?_
    obtain ⟨i_41, e_42, hf⟩ := sr_b hf
    refine s_I_75_I X Z e_42 d_I_report_16 (fun H locs Z => ?_)
    refine lv_goto (tgt := 181) hx hb d_I_report_19 rfl ?_
    cases hf
    exact sr_retv X Z d_I_report_181
end
set_option maxHeartbeats 4000000 in
set_option maxRecDepth 100000 in
theorem c_I_report {l : Launch} {D : va_G} {h : Nat → Nat} {t : Nat → ClassId} {o : Nat → Nat} {v : Nat → ClassId} {sz : Nat} {p0 : St} {x1 : Int32} {i0 : St} {i' : St} (hf : f_I_report p0 x1 i0 = some i') : sr_Cv l y_I_report w_I_report (sr_rm 3 68) D (tI t v) (wI h t o v p0 i0) (wI h t o v p0 i') sz [.ref (o 0), .int x1] := by
  refine Met.ofW (cc := b_I_report) (maxL := 3) (ret := none) (by decide) rfl ?_
  intro p e s m args below meth c s₁ B hml hv
  obtain ⟨rfl, hsz, hP, hK, hD0⟩ := hv
  subst hsz
  have X : sr_X D (tI t v) b_I_report 3 R_I w_I_report p s m _ meth c (va_A (wI h t o v p0 i0) s.heap.size) none := ⟨B.exec, B.bytes, hml, findClass_of_methodNamed B.named, B.notSynchronized, atoms_spec (ws := w_I_report) B.pre, hK, fun q h => Or.inr h, B.returns⟩
  have Z : sr_Z D (va_A (wI h t o v p0 i0) s.heap.size) s.heap (wI h t o v p0 i0) s.heap [] := ⟨hP, hD0.self, va_S.rf⟩
  have hl := lv_entry ([.ref (o 0), .int x1] : List Value) (n := 3) (Nat.le_of_ble_eq_true rfl)
  rw [lg_entry_eq]
  exact k_I_report_0 X Z hl hf
/-! I_endWithin -/
theorem d_I_endWithin_0 : decode b_I_endWithin 0 = .ok (.iconst 0, 1) := by decide +kernel
theorem d_I_endWithin_1 : decode b_I_endWithin 1 = .ok (.istore_n 2, 1) := by decide +kernel
theorem d_I_endWithin_2 : decode b_I_endWithin 2 = .ok (.iconst 0, 1) := by decide +kernel
theorem d_I_endWithin_3 : decode b_I_endWithin 3 = .ok (.istore_n 3, 1) := by decide +kernel
theorem d_I_endWithin_4 : decode b_I_endWithin 4 = .ok (.iload_n 3, 1) := by decide +kernel
theorem d_I_endWithin_5 : decode b_I_endWithin 5 = .ok (.aload_n 0, 1) := by decide +kernel
theorem d_I_endWithin_6 : decode b_I_endWithin 6 = .ok (.getfield 25, 3) := by decide +kernel
theorem d_I_endWithin_9 : decode b_I_endWithin 9 = .ok (.getfield 80, 3) := by decide +kernel
theorem d_I_endWithin_12 : decode b_I_endWithin 12 = .ok (.if_icmp .ge 43, 3) := by decide +kernel
theorem d_I_endWithin_15 : decode b_I_endWithin 15 = .ok (.iload_n 3, 1) := by decide +kernel
theorem d_I_endWithin_16 : decode b_I_endWithin 16 = .ok (.iload_n 1, 1) := by decide +kernel
theorem d_I_endWithin_17 : decode b_I_endWithin 17 = .ok (.invokestatic 222, 3) := by decide +kernel
theorem d_I_endWithin_20 : decode b_I_endWithin 20 = .ok (.ifCond .eq 29, 3) := by decide +kernel
theorem d_I_endWithin_23 : decode b_I_endWithin 23 = .ok (.aload_n 0, 1) := by decide +kernel
theorem d_I_endWithin_24 : decode b_I_endWithin 24 = .ok (.getfield 9, 3) := by decide +kernel
theorem d_I_endWithin_27 : decode b_I_endWithin 27 = .ok (.iload_n 3, 1) := by decide +kernel
theorem d_I_endWithin_28 : decode b_I_endWithin 28 = .ok (.iaload, 1) := by decide +kernel
theorem d_I_endWithin_29 : decode b_I_endWithin 29 = .ok (.invokestatic 286, 3) := by decide +kernel
theorem d_I_endWithin_32 : decode b_I_endWithin 32 = .ok (.ifCond .eq 17, 3) := by decide +kernel
theorem d_I_endWithin_35 : decode b_I_endWithin 35 = .ok (.aload_n 0, 1) := by decide +kernel
theorem d_I_endWithin_36 : decode b_I_endWithin 36 = .ok (.iload_n 3, 1) := by decide +kernel
theorem d_I_endWithin_37 : decode b_I_endWithin 37 = .ok (.bipush 11, 2) := by decide +kernel
theorem d_I_endWithin_39 : decode b_I_endWithin 39 = .ok (.iconst 5, 1) := by decide +kernel
theorem d_I_endWithin_40 : decode b_I_endWithin 40 = .ok (.invokevirtual 176, 3) := by decide +kernel
theorem d_I_endWithin_43 : decode b_I_endWithin 43 = .ok (.iload_n 2, 1) := by decide +kernel
theorem d_I_endWithin_44 : decode b_I_endWithin 44 = .ok (.iconst 1, 1) := by decide +kernel
theorem d_I_endWithin_45 : decode b_I_endWithin 45 = .ok (.iload_n 3, 1) := by decide +kernel
theorem d_I_endWithin_46 : decode b_I_endWithin 46 = .ok (.ishl, 1) := by decide +kernel
theorem d_I_endWithin_47 : decode b_I_endWithin 47 = .ok (.ior, 1) := by decide +kernel
theorem d_I_endWithin_48 : decode b_I_endWithin 48 = .ok (.istore_n 2, 1) := by decide +kernel
theorem d_I_endWithin_49 : decode b_I_endWithin 49 = .ok (.iinc 3 1, 3) := by decide +kernel
theorem d_I_endWithin_52 : decode b_I_endWithin 52 = .ok (.goto (-48), 3) := by decide +kernel
theorem d_I_endWithin_55 : decode b_I_endWithin 55 = .ok (.iload_n 2, 1) := by decide +kernel
theorem d_I_endWithin_56 : decode b_I_endWithin 56 = .ok (.ireturn, 1) := by decide +kernel
section
variable {p : Program} {l : Launch} {e : Env} {s : State} {m : MethodId} {args : Array Value} {below : List Frame} {meth : Method} {c : Code} {H : Heap} {locs : List Loc} {ls : Array Slot} {D : va_G} {A : Nat → Prop} {h o : Nat → Nat} {t v : Nat → ClassId}
def f_I_endWithin_49 (k4 : Int32 → Int32 → Int32 → St → Option (Int32 × St)) (p0 : St) (x1 : Int32) (x2 : Int32) (x3 : Int32) (i0 : St) : Option (Int32 × St) :=
  k4 x1 x2 (x3 + 1) i0
set_option maxHeartbeats 4000000 in
set_option maxRecDepth 100000 in
theorem k_I_endWithin_49 {k4 : Int32 → Int32 → Int32 → St → Option (Int32 × St)} {p0 : St} {x1 : Int32} {x2 : Int32} {x3 : Int32} {i0 : St} {r : Int32} {i' : St} (X : sr_X D (tI t v) b_I_endWithin 4 R_I w_I_endWithin p s m args meth c A (some .int)) (hk4 : ∀ (x1 : Int32) (x2 : Int32) (x3 : Int32) (i0 : St) (H : Heap) (locs : List Loc) (ls : Array Slot), sr_Z D A s.heap (wI h t o v p0 i0) H locs → lv_has ls 4 [(0, .ref (o 0)), (1, .int x1), (2, .int x2), (3, .int x3)] → k4 x1 x2 x3 i0 = some (r, i') → W p l e (sr_rm 2 45) s m args below meth c H locs 0 0 (sr_Qi D (tI t v) below args s A (wI h t o v p0 i') r) (F0 m 4 ls [])) (Z : sr_Z D A s.heap (wI h t o v p0 i0) H locs) (hl : lv_has ls 4 [(0, .ref (o 0)), (1, .int x1), (2, .int x2), (3, .int x3)]) (hf : f_I_endWithin_49 k4 p0 x1 x2 x3 i0 = some (r, i')) : W p l e (sr_rm 2 45) s m args below meth c H locs 0 0 (sr_Qi D (tI t v) below args s A (wI h t o v p0 i') r) (F0 m 49 ls []) := by
  have hx := X.1
  have hb := X.2.1
  have hK := X.2.2.2.2.2.2.1
  unfold f_I_endWithin_49 at hf
  refine lv_iinc (k := 3) (v := x3 + 1) (lv' := [(3, .int (x3 + 1)), (0, .ref (o 0)), (1, .int x1), (2, .int x2)]) hx hb d_I_endWithin_49 hl rfl rfl (by decide) rfl (fun ls hl => ?_)
  refine lv_goto (tgt := 4) hx hb d_I_endWithin_52 rfl ?_
  exact hk4 x1 x2 (x3 + 1) i0 _ _ _ Z (lv_sub hl [1, 2, 3, 0] rfl) hf
def f_I_endWithin_4 (k4 : Int32 → Int32 → Int32 → St → Option (Int32 × St)) (p0 : St) (x1 : Int32) (x2 : Int32) (x3 : Int32) (i0 : St) : Option (Int32 × St) :=
  if (p0 10 0) ≤ x3 then
    some (x2, i0)
  else
    (f_P_isIn x3 x1).bind fun v_2 =>
    if v_2 = 0 then
      f_I_endWithin_49 k4 p0 x1 x2 x3 i0
    else
      (sr_ald 24 (i0 4) x3).bind fun v_5 =>
      (f_T_isActive v_5).bind fun v_7 =>
      if v_7 = 0 then
        f_I_endWithin_49 k4 p0 x1 x2 x3 i0
      else
        (f_I_become p0 x3 11 5 i0).bind fun i_10 =>
        f_I_endWithin_49 k4 p0 x1 (x2 ||| ((1 : Int32) <<< (x3 &&& 31))) x3 i_10
set_option maxHeartbeats 4000000 in
set_option maxRecDepth 100000 in
theorem k_I_endWithin_4 {k4 : Int32 → Int32 → Int32 → St → Option (Int32 × St)} {p0 : St} {x1 : Int32} {x2 : Int32} {x3 : Int32} {i0 : St} {r : Int32} {i' : St} (X : sr_X D (tI t v) b_I_endWithin 4 R_I w_I_endWithin p s m args meth c A (some .int)) (hk4 : ∀ (x1 : Int32) (x2 : Int32) (x3 : Int32) (i0 : St) (H : Heap) (locs : List Loc) (ls : Array Slot), sr_Z D A s.heap (wI h t o v p0 i0) H locs → lv_has ls 4 [(0, .ref (o 0)), (1, .int x1), (2, .int x2), (3, .int x3)] → k4 x1 x2 x3 i0 = some (r, i') → W p l e (sr_rm 2 45) s m args below meth c H locs 0 0 (sr_Qi D (tI t v) below args s A (wI h t o v p0 i') r) (F0 m 4 ls [])) (Z : sr_Z D A s.heap (wI h t o v p0 i0) H locs) (hl : lv_has ls 4 [(0, .ref (o 0)), (1, .int x1), (2, .int x2), (3, .int x3)]) (hf : f_I_endWithin_4 k4 p0 x1 x2 x3 i0 = some (r, i')) : W p l e (sr_rm 2 45) s m args below meth c H locs 0 0 (sr_Qi D (tI t v) below args s A (wI h t o v p0 i') r) (F0 m 4 ls []) := by
  have hx := X.1
  have hb := X.2.1
  have hK := X.2.2.2.2.2.2.1
  unfold f_I_endWithin_4 at hf
  refine lv_iload_n hx hb d_I_endWithin_4 rfl (lv_at hl 3 rfl) ?_
  refine lv_aload_n hx hb d_I_endWithin_5 rfl (lv_at hl 0 rfl) ?_
  refine g_I_25_I X Z d_I_endWithin_6 ?_
  refine g_I_80_I X Z d_I_endWithin_9 ?_
  refine lv_icmp_ge (tgt := 55) hx hb d_I_endWithin_12 rfl (fun q_1 => ?_) (fun q_1 => ?_)
  · have hf := sr_it q_1 hf
    refine lv_iload_n hx hb d_I_endWithin_55 rfl (lv_at hl 2 rfl) ?_
    cases hf
    exact sr_reti X Z d_I_endWithin_56
  · have hf := sr_if q_1 hf
    refine lv_iload_n hx hb d_I_endWithin_15 rfl (lv_at hl 3 rfl) ?_
    refine lv_iload_n hx hb d_I_endWithin_16 rfl (lv_at hl 1 rfl) ?_
    obtain ⟨v_2, e_3, hf⟩ := sr_b hf
    refine sr_cSi (As := [.int x3, .int x1]) (rest := []) X Z sr_cut_0 (va_K.sub hK [] rfl) (c_P_isIn e_3) (cw_I_222 X.2.2.2.2.2.1 (by decide)) rfl hl rfl (Nat.le_of_ble_eq_true rfl) d_I_endWithin_17 (fun H locs Z => ?_)
    refine lv_if_eq (tgt := 49) hx hb d_I_endWithin_20 rfl (fun q_4 => ?_) (fun q_4 => ?_)
    · have hf := sr_it q_4 hf
      exact k_I_endWithin_49 X hk4 Z (lv_sub hl [0, 1, 2, 3] rfl) hf
    · have hf := sr_if q_4 hf
      refine lv_aload_n hx hb d_I_endWithin_23 rfl (lv_at hl 0 rfl) ?_
      refine g_I_9_I X Z d_I_endWithin_24 ?_
      refine lv_iload_n hx hb d_I_endWithin_27 rfl (lv_at hl 3 rfl) ?_
      obtain ⟨v_5, e_6, hf⟩ := sr_b hf
      refine sr_iald hx hb hK Z 20 14 rfl rfl e_6 d_I_endWithin_28 ?_
      obtain ⟨v_7, e_8, hf⟩ := sr_b hf
      refine sr_cSi (As := [.int v_5]) (rest := []) X Z sr_cut_0 (va_K.sub hK [] rfl) (c_T_isActive e_8) (cw_I_286 X.2.2.2.2.2.1 (by decide)) rfl hl rfl (Nat.le_of_ble_eq_true rfl) d_I_endWithin_29 (fun H locs Z => ?_)
      refine lv_if_eq (tgt := 49) hx hb d_I_endWithin_32 rfl (fun q_9 => ?_) (fun q_9 => ?_)
      · have hf := sr_it q_9 hf
        exact k_I_endWithin_49 X hk4 Z (lv_sub hl [0, 1, 2, 3] rfl) hf
      · have hf := sr_if q_9 hf
        refine lv_aload_n hx hb d_I_endWithin_35 rfl (lv_at hl 0 rfl) ?_
        refine lv_iload_n hx hb d_I_endWithin_36 rfl (lv_at hl 3 rfl) ?_
        refine lv_bipush (v := 11) hx hb d_I_endWithin_37 (by decide) ?_
        refine lv_iconst (v := 5) hx hb d_I_endWithin_39 (by decide) ?_
        obtain ⟨i_10, e_11, hf⟩ := sr_b hf
        refine sr_cVv (As := [.int x3, .int 11, .int 5]) (rest := []) X Z sr_cut_self hK (c_I_become e_11) (cw_I_176 X.2.2.2.2.2.1 (by decide)) 15 rfl rfl rfl hl rfl (Nat.le_of_ble_eq_true rfl) d_I_endWithin_40 (fun H locs Z => ?_)
        refine lv_iload_n hx hb d_I_endWithin_43 rfl (lv_at hl 2 rfl) ?_
        refine lv_iconst (v := 1) hx hb d_I_endWithin_44 (by decide) ?_
        refine lv_iload_n hx hb d_I_endWithin_45 rfl (lv_at hl 3 rfl) ?_
        refine lv_ishl hx hb d_I_endWithin_46 ?_
        refine lv_ior hx hb d_I_endWithin_47 ?_
        refine lv_istore_n (lv' := [(2, .int (x2 ||| ((1 : Int32) <<< (x3 &&& 31)))), (0, .ref (o 0)), (1, .int x1), (3, .int x3)]) hx hb d_I_endWithin_48 rfl hl (by decide) rfl (fun ls hl => ?_)
        exact k_I_endWithin_49 X hk4 Z (lv_sub hl [1, 2, 0, 3] rfl) hf
def f_I_endWithin_4_it (p0 : St) : Nat → Int32 → Int32 → Int32 → St → Option (Int32 × St)
  | 0 => fun _ _ _ _ => none
  | n + 1 => fun x1 x2 x3 i0 => f_I_endWithin_4 (f_I_endWithin_4_it p0 n) p0 x1 x2 x3 i0
set_option maxHeartbeats 4000000 in
set_option maxRecDepth 100000 in
theorem k_I_endWithin_4_it {p0 : St} {r : Int32} {i' : St} (X : sr_X D (tI t v) b_I_endWithin 4 R_I w_I_endWithin p s m args meth c A (some .int)) (n : Nat) : ∀ {x1 : Int32} {x2 : Int32} {x3 : Int32} {i0 : St} {H : Heap} {locs : List Loc} {ls : Array Slot}, sr_Z D A s.heap (wI h t o v p0 i0) H locs → lv_has ls 4 [(0, .ref (o 0)), (1, .int x1), (2, .int x2), (3, .int x3)] → f_I_endWithin_4_it p0 n x1 x2 x3 i0 = some (r, i') → W p l e (sr_rm 2 45) s m args below meth c H locs 0 0 (sr_Qi D (tI t v) below args s A (wI h t o v p0 i') r) (F0 m 4 ls []) := by
  induction n with
  | zero => intro x1 x2 x3 i0 H locs ls Z hl hf; exact absurd hf (by simp [f_I_endWithin_4_it])
  | succ n ih =>
    intro x1 x2 x3 i0 H locs ls Z hl hf
    exact k_I_endWithin_4 X (fun x1 x2 x3 i0 H locs ls Z hl hf => ih Z hl hf) Z hl hf
def f_I_endWithin (p0 : St) (x1 : Int32) (i0 : St) : Option (Int32 × St) :=
  f_I_endWithin_4_it p0 60 x1 0 0 i0
set_option maxHeartbeats 4000000 in
set_option maxRecDepth 100000 in
theorem k_I_endWithin_0 {p0 : St} {x1 : Int32} {i0 : St} {r : Int32} {i' : St} (X : sr_X D (tI t v) b_I_endWithin 4 R_I w_I_endWithin p s m args meth c A (some .int)) (Z : sr_Z D A s.heap (wI h t o v p0 i0) H locs) (hl : lv_has ls 4 [(0, .ref (o 0)), (1, .int x1)]) (hf : f_I_endWithin p0 x1 i0 = some (r, i')) : W p l e (sr_rm 2 45) s m args below meth c H locs 0 0 (sr_Qi D (tI t v) below args s A (wI h t o v p0 i') r) (F0 m 0 ls []) := by
  have hx := X.1
  have hb := X.2.1
  have hK := X.2.2.2.2.2.2.1
  unfold f_I_endWithin at hf
  refine lv_iconst (v := 0) hx hb d_I_endWithin_0 (by decide) ?_
  refine lv_istore_n (lv' := [(2, .int 0), (0, .ref (o 0)), (1, .int x1)]) hx hb d_I_endWithin_1 rfl hl (by decide) rfl (fun ls hl => ?_)
  refine lv_iconst (v := 0) hx hb d_I_endWithin_2 (by decide) ?_
  refine lv_istore_n (lv' := [(3, .int 0), (2, .int 0), (0, .ref (o 0)), (1, .int x1)]) hx hb d_I_endWithin_3 rfl hl (by decide) rfl (fun ls hl => ?_)
  exact k_I_endWithin_4_it X _ Z (lv_sub hl [2, 3, 1, 0] rfl) hf
end
set_option maxHeartbeats 4000000 in
set_option maxRecDepth 100000 in
theorem c_I_endWithin {l : Launch} {D : va_G} {h : Nat → Nat} {t : Nat → ClassId} {o : Nat → Nat} {v : Nat → ClassId} {sz : Nat} {p0 : St} {x1 : Int32} {i0 : St} {r : Int32} {i' : St} (hf : f_I_endWithin p0 x1 i0 = some (r, i')) : sr_Ci l y_I_endWithin w_I_endWithin (sr_rm 2 45) D (tI t v) (wI h t o v p0 i0) (wI h t o v p0 i') sz [.ref (o 0), .int x1] r := by
  refine Met.ofW (cc := b_I_endWithin) (maxL := 4) (ret := (some .int)) (by decide) rfl ?_
  intro p e s m args below meth c s₁ B hml hv
  obtain ⟨rfl, hsz, hP, hK, hD0⟩ := hv
  subst hsz
  have X : sr_X D (tI t v) b_I_endWithin 4 R_I w_I_endWithin p s m _ meth c (va_A (wI h t o v p0 i0) s.heap.size) (some .int) := ⟨B.exec, B.bytes, hml, findClass_of_methodNamed B.named, B.notSynchronized, atoms_spec (ws := w_I_endWithin) B.pre, hK, fun q h => Or.inr h, B.returns⟩
  have Z : sr_Z D (va_A (wI h t o v p0 i0) s.heap.size) s.heap (wI h t o v p0 i0) s.heap [] := ⟨hP, hD0.self, va_S.rf⟩
  have hl := lv_entry ([.ref (o 0), .int x1] : List Value) (n := 4) (Nat.le_of_ble_eq_true rfl)
  rw [lg_entry_eq]
  exact k_I_endWithin_0 X Z hl hf
/-! I_entryFails -/
theorem d_I_entryFails_0 : decode b_I_entryFails 0 = .ok (.aload_n 0, 1) := by decide +kernel
theorem d_I_entryFails_1 : decode b_I_entryFails 1 = .ok (.iconst 4, 1) := by decide +kernel
theorem d_I_entryFails_2 : decode b_I_entryFails 2 = .ok (.putfield 146, 3) := by decide +kernel
theorem d_I_entryFails_5 : decode b_I_entryFails 5 = .ok (.aload_n 0, 1) := by decide +kernel
theorem d_I_entryFails_6 : decode b_I_entryFails 6 = .ok (.iload_n 1, 1) := by decide +kernel
theorem d_I_entryFails_7 : decode b_I_entryFails 7 = .ok (.putfield 149, 3) := by decide +kernel
theorem d_I_entryFails_10 : decode b_I_entryFails 10 = .ok (.aload_n 0, 1) := by decide +kernel
theorem d_I_entryFails_11 : decode b_I_entryFails 11 = .ok (.iload_n 2, 1) := by decide +kernel
theorem d_I_entryFails_12 : decode b_I_entryFails 12 = .ok (.putfield 152, 3) := by decide +kernel
theorem d_I_entryFails_15 : decode b_I_entryFails 15 = .ok (.return_, 1) := by decide +kernel
section
variable {p : Program} {l : Launch} {e : Env} {s : State} {m : MethodId} {args : Array Value} {below : List Frame} {meth : Method} {c : Code} {H : Heap} {locs : List Loc} {ls : Array Slot} {D : va_G} {A : Nat → Prop} {h o : Nat → Nat} {t v : Nat → ClassId}
def f_I_entryFails (p0 : St) (x1 : Int32) (x2 : Int32) (i0 : St) : Option (St) :=
  (sr_pf i0 8 4).bind fun i_1 =>
  (sr_pf i_1 9 x1).bind fun i_3 =>
  (sr_pf i_3 10 x2).bind fun i_5 =>
  some i_5
set_option maxHeartbeats 4000000 in
set_option maxRecDepth 100000 in
theorem k_I_entryFails_0 {p0 : St} {x1 : Int32} {x2 : Int32} {i0 : St} {i' : St} (X : sr_X D (tI t v) b_I_entryFails 3 R_I w_I_entryFails p s m args meth c A none) (Z : sr_Z D A s.heap (wI h t o v p0 i0) H locs) (hl : lv_has ls 3 [(0, .ref (o 0)), (1, .int x1), (2, .int x2)]) (hf : f_I_entryFails p0 x1 x2 i0 = some i') : W p l e (sr_rm 0 0) s m args below meth c H locs 0 0 (sr_Qv D (tI t v) below args s A (wI h t o v p0 i')) (F0 m 0 ls []) := by
  have hx := X.1
  have hb := X.2.1
  have hK := X.2.2.2.2.2.2.1
  unfold f_I_entryFails at hf
  refine lv_aload_n hx hb d_I_entryFails_0 rfl (lv_at hl 0 rfl) ?_
  refine lv_iconst (v := 4) hx hb d_I_entryFails_1 (by decide) ?_
  obtain ⟨i_1, e_2, hf⟩ := sr_b hf
  refine s_I_146_I X Z e_2 d_I_entryFails_2 (fun H locs Z => ?_)
  refine lv_aload_n hx hb d_I_entryFails_5 rfl (lv_at hl 0 rfl) ?_
  refine lv_iload_n hx hb d_I_entryFails_6 rfl (lv_at hl 1 rfl) ?_
  obtain ⟨i_3, e_4, hf⟩ := sr_b hf
  refine s_I_149_I X Z e_4 d_I_entryFails_7 (fun H locs Z => ?_)
  refine lv_aload_n hx hb d_I_entryFails_10 rfl (lv_at hl 0 rfl) ?_
  refine lv_iload_n hx hb d_I_entryFails_11 rfl (lv_at hl 2 rfl) ?_
  obtain ⟨i_5, e_6, hf⟩ := sr_b hf
  refine s_I_152_I X Z e_6 d_I_entryFails_12 (fun H locs Z => ?_)
  cases hf
  exact sr_retv X Z d_I_entryFails_15
end
set_option maxHeartbeats 4000000 in
set_option maxRecDepth 100000 in
theorem c_I_entryFails {l : Launch} {D : va_G} {h : Nat → Nat} {t : Nat → ClassId} {o : Nat → Nat} {v : Nat → ClassId} {sz : Nat} {p0 : St} {x1 : Int32} {x2 : Int32} {i0 : St} {i' : St} (hf : f_I_entryFails p0 x1 x2 i0 = some i') : sr_Cv l y_I_entryFails w_I_entryFails (sr_rm 0 0) D (tI t v) (wI h t o v p0 i0) (wI h t o v p0 i') sz [.ref (o 0), .int x1, .int x2] := by
  refine Met.ofW (cc := b_I_entryFails) (maxL := 3) (ret := none) (by decide) rfl ?_
  intro p e s m args below meth c s₁ B hml hv
  obtain ⟨rfl, hsz, hP, hK, hD0⟩ := hv
  subst hsz
  have X : sr_X D (tI t v) b_I_entryFails 3 R_I w_I_entryFails p s m _ meth c (va_A (wI h t o v p0 i0) s.heap.size) none := ⟨B.exec, B.bytes, hml, findClass_of_methodNamed B.named, B.notSynchronized, atoms_spec (ws := w_I_entryFails) B.pre, hK, fun q h => Or.inr h, B.returns⟩
  have Z : sr_Z D (va_A (wI h t o v p0 i0) s.heap.size) s.heap (wI h t o v p0 i0) s.heap [] := ⟨hP, hD0.self, va_S.rf⟩
  have hl := lv_entry ([.ref (o 0), .int x1, .int x2] : List Value) (n := 3) (Nat.le_of_ble_eq_true rfl)
  rw [lg_entry_eq]
  exact k_I_entryFails_0 X Z hl hf
/-! I_takeFault -/
theorem d_I_takeFault_0 : decode b_I_takeFault 0 = .ok (.aload_n 0, 1) := by decide +kernel
theorem d_I_takeFault_1 : decode b_I_takeFault 1 = .ok (.getfield 15, 3) := by decide +kernel
theorem d_I_takeFault_4 : decode b_I_takeFault 4 = .ok (.iload_n 1, 1) := by decide +kernel
theorem d_I_takeFault_5 : decode b_I_takeFault 5 = .ok (.iload_n 2, 1) := by decide +kernel
theorem d_I_takeFault_6 : decode b_I_takeFault 6 = .ok (.iastore, 1) := by decide +kernel
theorem d_I_takeFault_7 : decode b_I_takeFault 7 = .ok (.aload_n 0, 1) := by decide +kernel
theorem d_I_takeFault_8 : decode b_I_takeFault 8 = .ok (.getfield 25, 3) := by decide +kernel
theorem d_I_takeFault_11 : decode b_I_takeFault 11 = .ok (.iload_n 1, 1) := by decide +kernel
theorem d_I_takeFault_12 : decode b_I_takeFault 12 = .ok (.iconst 1, 1) := by decide +kernel
theorem d_I_takeFault_13 : decode b_I_takeFault 13 = .ok (.invokevirtual 251, 3) := by decide +kernel
theorem d_I_takeFault_16 : decode b_I_takeFault 16 = .ok (.istore_n 3, 1) := by decide +kernel
theorem d_I_takeFault_17 : decode b_I_takeFault 17 = .ok (.aload_n 0, 1) := by decide +kernel
theorem d_I_takeFault_18 : decode b_I_takeFault 18 = .ok (.getfield 25, 3) := by decide +kernel
theorem d_I_takeFault_21 : decode b_I_takeFault 21 = .ok (.getfield 141, 3) := by decide +kernel
theorem d_I_takeFault_24 : decode b_I_takeFault 24 = .ok (.iload_n 1, 1) := by decide +kernel
theorem d_I_takeFault_25 : decode b_I_takeFault 25 = .ok (.iaload, 1) := by decide +kernel
theorem d_I_takeFault_26 : decode b_I_takeFault 26 = .ok (.ifCond .eq 16, 3) := by decide +kernel
theorem d_I_takeFault_29 : decode b_I_takeFault 29 = .ok (.aload_n 0, 1) := by decide +kernel
theorem d_I_takeFault_30 : decode b_I_takeFault 30 = .ok (.getfield 25, 3) := by decide +kernel
theorem d_I_takeFault_33 : decode b_I_takeFault 33 = .ok (.getfield 141, 3) := by decide +kernel
theorem d_I_takeFault_36 : decode b_I_takeFault 36 = .ok (.iload_n 1, 1) := by decide +kernel
theorem d_I_takeFault_37 : decode b_I_takeFault 37 = .ok (.iaload, 1) := by decide +kernel
theorem d_I_takeFault_38 : decode b_I_takeFault 38 = .ok (.iload_n 2, 1) := by decide +kernel
theorem d_I_takeFault_39 : decode b_I_takeFault 39 = .ok (.if_icmp .ne 7, 3) := by decide +kernel
theorem d_I_takeFault_42 : decode b_I_takeFault 42 = .ok (.iconst 1, 1) := by decide +kernel
theorem d_I_takeFault_43 : decode b_I_takeFault 43 = .ok (.goto 4, 3) := by decide +kernel
theorem d_I_takeFault_46 : decode b_I_takeFault 46 = .ok (.iconst 0, 1) := by decide +kernel
theorem d_I_takeFault_47 : decode b_I_takeFault 47 = .ok (.istore 4, 2) := by decide +kernel
theorem d_I_takeFault_49 : decode b_I_takeFault 49 = .ok (.iload_n 3, 1) := by decide +kernel
theorem d_I_takeFault_50 : decode b_I_takeFault 50 = .ok (.iconst (-1), 1) := by decide +kernel
theorem d_I_takeFault_51 : decode b_I_takeFault 51 = .ok (.if_icmp .eq 26, 3) := by decide +kernel
theorem d_I_takeFault_54 : decode b_I_takeFault 54 = .ok (.iload 4, 2) := by decide +kernel
theorem d_I_takeFault_56 : decode b_I_takeFault 56 = .ok (.ifCond .eq 21, 3) := by decide +kernel
theorem d_I_takeFault_59 : decode b_I_takeFault 59 = .ok (.aload_n 0, 1) := by decide +kernel
theorem d_I_takeFault_60 : decode b_I_takeFault 60 = .ok (.iload_n 1, 1) := by decide +kernel
theorem d_I_takeFault_61 : decode b_I_takeFault 61 = .ok (.iconst 5, 1) := by decide +kernel
theorem d_I_takeFault_62 : decode b_I_takeFault 62 = .ok (.bipush 6, 2) := by decide +kernel
theorem d_I_takeFault_64 : decode b_I_takeFault 64 = .ok (.invokevirtual 176, 3) := by decide +kernel
theorem d_I_takeFault_67 : decode b_I_takeFault 67 = .ok (.aload_n 0, 1) := by decide +kernel
theorem d_I_takeFault_68 : decode b_I_takeFault 68 = .ok (.getfield 9, 3) := by decide +kernel
theorem d_I_takeFault_71 : decode b_I_takeFault 71 = .ok (.iload_n 3, 1) := by decide +kernel
theorem d_I_takeFault_72 : decode b_I_takeFault 72 = .ok (.iconst 1, 1) := by decide +kernel
theorem d_I_takeFault_73 : decode b_I_takeFault 73 = .ok (.iastore, 1) := by decide +kernel
theorem d_I_takeFault_74 : decode b_I_takeFault 74 = .ok (.goto 10, 3) := by decide +kernel
theorem d_I_takeFault_77 : decode b_I_takeFault 77 = .ok (.aload_n 0, 1) := by decide +kernel
theorem d_I_takeFault_78 : decode b_I_takeFault 78 = .ok (.iload_n 1, 1) := by decide +kernel
theorem d_I_takeFault_79 : decode b_I_takeFault 79 = .ok (.bipush 6, 2) := by decide +kernel
theorem d_I_takeFault_81 : decode b_I_takeFault 81 = .ok (.invokevirtual 192, 3) := by decide +kernel
theorem d_I_takeFault_84 : decode b_I_takeFault 84 = .ok (.return_, 1) := by decide +kernel
section
variable {p : Program} {l : Launch} {e : Env} {s : State} {m : MethodId} {args : Array Value} {below : List Frame} {meth : Method} {c : Code} {H : Heap} {locs : List Loc} {ls : Array Slot} {D : va_G} {A : Nat → Prop} {h o : Nat → Nat} {t v : Nat → ClassId}
def f_I_takeFault_77 (p0 : St) (x1 : Int32) (i0 : St) : Option (St) :=
  (f_I_becomeUndoer p0 x1 6 i0).bind fun i_9 =>
  some i_9
set_option maxHeartbeats 4000000 in
set_option maxRecDepth 100000 in
theorem k_I_takeFault_77 {p0 : St} {x1 : Int32} {i0 : St} {i' : St} (X : sr_X D (tI t v) b_I_takeFault 5 R_I w_I_takeFault p s m args meth c A none) (Z : sr_Z D A s.heap (wI h t o v p0 i0) H locs) (hl : lv_has ls 5 [(0, .ref (o 0)), (1, .int x1)]) (hf : f_I_takeFault_77 p0 x1 i0 = some i') : W p l e (sr_rm 2 45) s m args below meth c H locs 0 0 (sr_Qv D (tI t v) below args s A (wI h t o v p0 i')) (F0 m 77 ls []) := by
  have hx := X.1
  have hb := X.2.1
  have hK := X.2.2.2.2.2.2.1
  unfold f_I_takeFault_77 at hf
  refine lv_aload_n hx hb d_I_takeFault_77 rfl (lv_at hl 0 rfl) ?_
  refine lv_iload_n hx hb d_I_takeFault_78 rfl (lv_at hl 1 rfl) ?_
  refine lv_bipush (v := 6) hx hb d_I_takeFault_79 (by decide) ?_
  obtain ⟨i_9, e_10, hf⟩ := sr_b hf
  refine sr_cVv (As := [.int x1, .int 6]) (rest := []) X Z sr_cut_self hK (c_I_becomeUndoer e_10) (cw_I_192 X.2.2.2.2.2.1 (by decide)) 15 rfl rfl rfl hl rfl (Nat.le_of_ble_eq_true rfl) d_I_takeFault_81 (fun H locs Z => ?_)
  cases hf
  exact sr_retv X Z d_I_takeFault_84
def f_I_takeFault_47 (p0 : St) (x1 : Int32) (x3 : Int32) (y0 : Int32) (i0 : St) : Option (St) :=
  if x3 = (-1) then
    f_I_takeFault_77 p0 x1 i0
  else
    if y0 = 0 then
      f_I_takeFault_77 p0 x1 i0
    else
      (f_I_become p0 x1 5 6 i0).bind fun i_12 =>
      (sr_ast 24 i_12 4 x3 1).bind fun i_14 =>
      some i_14
set_option maxHeartbeats 4000000 in
set_option maxRecDepth 100000 in
theorem k_I_takeFault_47 {p0 : St} {x1 : Int32} {x3 : Int32} {y0 : Int32} {i0 : St} {i' : St} (X : sr_X D (tI t v) b_I_takeFault 5 R_I w_I_takeFault p s m args meth c A none) (Z : sr_Z D A s.heap (wI h t o v p0 i0) H locs) (hl : lv_has ls 5 [(0, .ref (o 0)), (1, .int x1), (3, .int x3)]) (hf : f_I_takeFault_47 p0 x1 x3 y0 i0 = some i') : W p l e (sr_rm 2 45) s m args below meth c H locs 0 0 (sr_Qv D (tI t v) below args s A (wI h t o v p0 i')) (F0 m 47 ls [.int y0]) := by
  have hx := X.1
  have hb := X.2.1
  have hK := X.2.2.2.2.2.2.1
  unfold f_I_takeFault_47 at hf
  refine lv_istore (lv' := [(4, .int y0), (0, .ref (o 0)), (1, .int x1), (3, .int x3)]) hx hb d_I_takeFault_47 hl (by decide) rfl (fun ls hl => ?_)
  refine lv_iload_n hx hb d_I_takeFault_49 rfl (lv_at hl 3 rfl) ?_
  refine lv_iconst (v := -1) hx hb d_I_takeFault_50 (by decide) ?_
  refine lv_icmp_eq (tgt := 77) hx hb d_I_takeFault_51 rfl (fun q_8 => ?_) (fun q_8 => ?_)
  · have hf := sr_it q_8 hf
    exact k_I_takeFault_77 X Z (lv_sub hl [1, 2] rfl) hf
  · have hf := sr_if q_8 hf
    refine lv_iload hx hb d_I_takeFault_54 (lv_at hl 0 rfl) ?_
    refine lv_if_eq (tgt := 77) hx hb d_I_takeFault_56 rfl (fun q_11 => ?_) (fun q_11 => ?_)
    · have hf := sr_it q_11 hf
      exact k_I_takeFault_77 X Z (lv_sub hl [1, 2] rfl) hf
    · have hf := sr_if q_11 hf
      refine lv_aload_n hx hb d_I_takeFault_59 rfl (lv_at hl 1 rfl) ?_
      refine lv_iload_n hx hb d_I_takeFault_60 rfl (lv_at hl 2 rfl) ?_
      refine lv_iconst (v := 5) hx hb d_I_takeFault_61 (by decide) ?_
      refine lv_bipush (v := 6) hx hb d_I_takeFault_62 (by decide) ?_
      obtain ⟨i_12, e_13, hf⟩ := sr_b hf
      refine sr_cVv (As := [.int x1, .int 5, .int 6]) (rest := []) X Z sr_cut_self hK (c_I_become e_13) (cw_I_176 X.2.2.2.2.2.1 (by decide)) 15 rfl rfl rfl hl rfl (Nat.le_of_ble_eq_true rfl) d_I_takeFault_64 (fun H locs Z => ?_)
      refine lv_aload_n hx hb d_I_takeFault_67 rfl (lv_at hl 1 rfl) ?_
      refine g_I_9_I X Z d_I_takeFault_68 ?_
      refine lv_iload_n hx hb d_I_takeFault_71 rfl (lv_at hl 3 rfl) ?_
      refine lv_iconst (v := 1) hx hb d_I_takeFault_72 (by decide) ?_
      obtain ⟨i_14, e_15, hf⟩ := sr_b hf
      refine sr_iast (wf := (fun q => (wI h t o v p0 q))) hx hb hK Z 20 14 rfl rfl e_15 (fun _ => rfl) d_I_takeFault_73 (fun H locs Z => ?_)
      refine lv_goto (tgt := 84) hx hb d_I_takeFault_74 rfl ?_
      cases hf
      exact sr_retv X Z d_I_takeFault_84
def f_I_takeFault_42 (p0 : St) (x1 : Int32) (x3 : Int32) (i0 : St) : Option (St) :=
  f_I_takeFault_47 p0 x1 x3 1 i0
set_option maxHeartbeats 4000000 in
set_option maxRecDepth 100000 in
theorem k_I_takeFault_42 {p0 : St} {x1 : Int32} {x3 : Int32} {i0 : St} {i' : St} (X : sr_X D (tI t v) b_I_takeFault 5 R_I w_I_takeFault p s m args meth c A none) (Z : sr_Z D A s.heap (wI h t o v p0 i0) H locs) (hl : lv_has ls 5 [(0, .ref (o 0)), (1, .int x1), (3, .int x3)]) (hf : f_I_takeFault_42 p0 x1 x3 i0 = some i') : W p l e (sr_rm 2 45) s m args below meth c H locs 0 0 (sr_Qv D (tI t v) below args s A (wI h t o v p0 i')) (F0 m 42 ls []) := by
  have hx := X.1
  have hb := X.2.1
  have hK := X.2.2.2.2.2.2.1
  unfold f_I_takeFault_42 at hf
  refine lv_iconst (v := 1) hx hb d_I_takeFault_42 (by decide) ?_
  refine lv_goto (tgt := 47) hx hb d_I_takeFault_43 rfl ?_
  exact k_I_takeFault_47 X Z (lv_sub hl [0, 1, 2] rfl) hf
def f_I_takeFault (p0 : St) (x1 : Int32) (x2 : Int32) (i0 : St) : Option (St) :=
  (sr_ast 24 i0 5 x1 x2).bind fun i_1 =>
  (f_P_handlerOf p0 x1 1).bind fun v_3 =>
  (sr_ald 24 (p0 3) x1).bind fun v_5 =>
  if v_5 = 0 then
    f_I_takeFault_42 p0 x1 v_3 i_1
  else
    (sr_ald 24 (p0 3) x1).bind fun v_16 =>
    if v_16 = x2 then
      f_I_takeFault_42 p0 x1 v_3 i_1
    else
      f_I_takeFault_47 p0 x1 v_3 0 i_1
set_option maxHeartbeats 4000000 in
set_option maxRecDepth 100000 in
theorem k_I_takeFault_0 {p0 : St} {x1 : Int32} {x2 : Int32} {i0 : St} {i' : St} (X : sr_X D (tI t v) b_I_takeFault 5 R_I w_I_takeFault p s m args meth c A none) (Z : sr_Z D A s.heap (wI h t o v p0 i0) H locs) (hl : lv_has ls 5 [(0, .ref (o 0)), (1, .int x1), (2, .int x2)]) (hf : f_I_takeFault p0 x1 x2 i0 = some i') : W p l e (sr_rm 2 45) s m args below meth c H locs 0 0 (sr_Qv D (tI t v) below args s A (wI h t o v p0 i')) (F0 m 0 ls []) := by
  have hx := X.1
  have hb := X.2.1
  have hK := X.2.2.2.2.2.2.1
  unfold f_I_takeFault at hf
  refine lv_aload_n hx hb d_I_takeFault_0 rfl (lv_at hl 0 rfl) ?_
  refine g_I_15_I X Z d_I_takeFault_1 ?_
  refine lv_iload_n hx hb d_I_takeFault_4 rfl (lv_at hl 1 rfl) ?_
  refine lv_iload_n hx hb d_I_takeFault_5 rfl (lv_at hl 2 rfl) ?_
  obtain ⟨i_1, e_2, hf⟩ := sr_b hf
  refine sr_iast (wf := (fun q => (wI h t o v p0 q))) hx hb hK Z 21 15 rfl rfl e_2 (fun _ => rfl) d_I_takeFault_6 (fun H locs Z => ?_)
  refine lv_aload_n hx hb d_I_takeFault_7 rfl (lv_at hl 0 rfl) ?_
  refine g_I_25_I X Z d_I_takeFault_8 ?_
  refine lv_iload_n hx hb d_I_takeFault_11 rfl (lv_at hl 1 rfl) ?_
  refine lv_iconst (v := 1) hx hb d_I_takeFault_12 (by decide) ?_
  obtain ⟨v_3, e_4, hf⟩ := sr_b hf
  refine sr_cVi (As := [.int x1, .int 1]) (rest := []) X Z cut_IP (k_IP hK) (c_P_handlerOf e_4) (cw_I_251 X.2.2.2.2.2.1 (by decide)) 0 rfl rfl rfl hl rfl (Nat.le_of_ble_eq_true rfl) d_I_takeFault_13 (fun H locs Z => ?_)
  refine lv_istore_n (lv' := [(3, .int v_3), (0, .ref (o 0)), (1, .int x1), (2, .int x2)]) hx hb d_I_takeFault_16 rfl hl (by decide) rfl (fun ls hl => ?_)
  refine lv_aload_n hx hb d_I_takeFault_17 rfl (lv_at hl 1 rfl) ?_
  refine g_I_25_I X Z d_I_takeFault_18 ?_
  refine g_I_141_I X Z d_I_takeFault_21 ?_
  refine lv_iload_n hx hb d_I_takeFault_24 rfl (lv_at hl 2 rfl) ?_
  obtain ⟨v_5, e_6, hf⟩ := sr_b hf
  refine sr_iald hx hb hK Z 4 3 rfl rfl e_6 d_I_takeFault_25 ?_
  refine lv_if_eq (tgt := 42) hx hb d_I_takeFault_26 rfl (fun q_7 => ?_) (fun q_7 => ?_)
  · have hf := sr_it q_7 hf
    exact k_I_takeFault_42 X Z (lv_sub hl [1, 2, 0] rfl) hf
  · have hf := sr_if q_7 hf
    refine lv_aload_n hx hb d_I_takeFault_29 rfl (lv_at hl 1 rfl) ?_
    refine g_I_25_I X Z d_I_takeFault_30 ?_
    refine g_I_141_I X Z d_I_takeFault_33 ?_
    refine lv_iload_n hx hb d_I_takeFault_36 rfl (lv_at hl 2 rfl) ?_
    obtain ⟨v_16, e_17, hf⟩ := sr_b hf
    refine sr_iald hx hb hK Z 4 3 rfl rfl e_17 d_I_takeFault_37 ?_
    refine lv_iload_n hx hb d_I_takeFault_38 rfl (lv_at hl 3 rfl) ?_
    refine lv_icmp_ne (tgt := 46) hx hb d_I_takeFault_39 rfl (fun q_18 => ?_) (fun q_18 => ?_)
    · have hf := sr_if q_18 hf
      refine lv_iconst (v := 0) hx hb d_I_takeFault_46 (by decide) ?_
      exact k_I_takeFault_47 X Z (lv_sub hl [1, 2, 0] rfl) hf
    · have hf := sr_it q_18 hf
      exact k_I_takeFault_42 X Z (lv_sub hl [1, 2, 0] rfl) hf
end
set_option maxHeartbeats 4000000 in
set_option maxRecDepth 100000 in
theorem c_I_takeFault {l : Launch} {D : va_G} {h : Nat → Nat} {t : Nat → ClassId} {o : Nat → Nat} {v : Nat → ClassId} {sz : Nat} {p0 : St} {x1 : Int32} {x2 : Int32} {i0 : St} {i' : St} (hf : f_I_takeFault p0 x1 x2 i0 = some i') : sr_Cv l y_I_takeFault w_I_takeFault (sr_rm 2 45) D (tI t v) (wI h t o v p0 i0) (wI h t o v p0 i') sz [.ref (o 0), .int x1, .int x2] := by
  refine Met.ofW (cc := b_I_takeFault) (maxL := 5) (ret := none) (by decide) rfl ?_
  intro p e s m args below meth c s₁ B hml hv
  obtain ⟨rfl, hsz, hP, hK, hD0⟩ := hv
  subst hsz
  have X : sr_X D (tI t v) b_I_takeFault 5 R_I w_I_takeFault p s m _ meth c (va_A (wI h t o v p0 i0) s.heap.size) none := ⟨B.exec, B.bytes, hml, findClass_of_methodNamed B.named, B.notSynchronized, atoms_spec (ws := w_I_takeFault) B.pre, hK, fun q h => Or.inr h, B.returns⟩
  have Z : sr_Z D (va_A (wI h t o v p0 i0) s.heap.size) s.heap (wI h t o v p0 i0) s.heap [] := ⟨hP, hD0.self, va_S.rf⟩
  have hl := lv_entry ([.ref (o 0), .int x1, .int x2] : List Value) (n := 5) (Nat.le_of_ble_eq_true rfl)
  rw [lg_entry_eq]
  exact k_I_takeFault_0 X Z hl hf
/-! I_fault -/
theorem d_I_fault_0 : decode b_I_fault 0 = .ok (.aload_n 0, 1) := by decide +kernel
theorem d_I_fault_1 : decode b_I_fault 1 = .ok (.iload_n 1, 1) := by decide +kernel
theorem d_I_fault_2 : decode b_I_fault 2 = .ok (.bipush 10, 2) := by decide +kernel
theorem d_I_fault_4 : decode b_I_fault 4 = .ok (.iconst 4, 1) := by decide +kernel
theorem d_I_fault_5 : decode b_I_fault 5 = .ok (.invokevirtual 176, 3) := by decide +kernel
theorem d_I_fault_8 : decode b_I_fault 8 = .ok (.iload_n 1, 1) := by decide +kernel
theorem d_I_fault_9 : decode b_I_fault 9 = .ok (.ifCond .ne 12, 3) := by decide +kernel
theorem d_I_fault_12 : decode b_I_fault 12 = .ok (.aload_n 0, 1) := by decide +kernel
theorem d_I_fault_13 : decode b_I_fault 13 = .ok (.bipush 10, 2) := by decide +kernel
theorem d_I_fault_15 : decode b_I_fault 15 = .ok (.iload_n 2, 1) := by decide +kernel
theorem d_I_fault_16 : decode b_I_fault 16 = .ok (.iadd, 1) := by decide +kernel
theorem d_I_fault_17 : decode b_I_fault 17 = .ok (.putfield 75, 3) := by decide +kernel
theorem d_I_fault_20 : decode b_I_fault 20 = .ok (.return_, 1) := by decide +kernel
theorem d_I_fault_21 : decode b_I_fault 21 = .ok (.aload_n 0, 1) := by decide +kernel
theorem d_I_fault_22 : decode b_I_fault 22 = .ok (.getfield 25, 3) := by decide +kernel
theorem d_I_fault_25 : decode b_I_fault 25 = .ok (.getfield 274, 3) := by decide +kernel
theorem d_I_fault_28 : decode b_I_fault 28 = .ok (.iload_n 1, 1) := by decide +kernel
theorem d_I_fault_29 : decode b_I_fault 29 = .ok (.iaload, 1) := by decide +kernel
theorem d_I_fault_30 : decode b_I_fault 30 = .ok (.istore_n 3, 1) := by decide +kernel
theorem d_I_fault_31 : decode b_I_fault 31 = .ok (.aload_n 0, 1) := by decide +kernel
theorem d_I_fault_32 : decode b_I_fault 32 = .ok (.getfield 25, 3) := by decide +kernel
theorem d_I_fault_35 : decode b_I_fault 35 = .ok (.getfield 210, 3) := by decide +kernel
theorem d_I_fault_38 : decode b_I_fault 38 = .ok (.iload_n 3, 1) := by decide +kernel
theorem d_I_fault_39 : decode b_I_fault 39 = .ok (.iaload, 1) := by decide +kernel
theorem d_I_fault_40 : decode b_I_fault 40 = .ok (.istore 4, 2) := by decide +kernel
theorem d_I_fault_42 : decode b_I_fault 42 = .ok (.aload_n 0, 1) := by decide +kernel
theorem d_I_fault_43 : decode b_I_fault 43 = .ok (.aload_n 0, 1) := by decide +kernel
theorem d_I_fault_44 : decode b_I_fault 44 = .ok (.getfield 25, 3) := by decide +kernel
theorem d_I_fault_47 : decode b_I_fault 47 = .ok (.getfield 135, 3) := by decide +kernel
theorem d_I_fault_50 : decode b_I_fault 50 = .ok (.iload_n 3, 1) := by decide +kernel
theorem d_I_fault_51 : decode b_I_fault 51 = .ok (.iaload, 1) := by decide +kernel
theorem d_I_fault_52 : decode b_I_fault 52 = .ok (.invokevirtual 138, 3) := by decide +kernel
theorem d_I_fault_55 : decode b_I_fault 55 = .ok (.istore 5, 2) := by decide +kernel
theorem d_I_fault_57 : decode b_I_fault 57 = .ok (.aload_n 0, 1) := by decide +kernel
theorem d_I_fault_58 : decode b_I_fault 58 = .ok (.getfield 25, 3) := by decide +kernel
theorem d_I_fault_61 : decode b_I_fault 61 = .ok (.getfield 258, 3) := by decide +kernel
theorem d_I_fault_64 : decode b_I_fault 64 = .ok (.iload_n 3, 1) := by decide +kernel
theorem d_I_fault_65 : decode b_I_fault 65 = .ok (.iaload, 1) := by decide +kernel
theorem d_I_fault_66 : decode b_I_fault 66 = .ok (.iconst 1, 1) := by decide +kernel
theorem d_I_fault_67 : decode b_I_fault 67 = .ok (.if_icmp .ne 22, 3) := by decide +kernel
theorem d_I_fault_70 : decode b_I_fault 70 = .ok (.aload_n 0, 1) := by decide +kernel
theorem d_I_fault_71 : decode b_I_fault 71 = .ok (.getfield 64, 3) := by decide +kernel
theorem d_I_fault_74 : decode b_I_fault 74 = .ok (.iload 4, 2) := by decide +kernel
theorem d_I_fault_76 : decode b_I_fault 76 = .ok (.invokevirtual 232, 3) := by decide +kernel
theorem d_I_fault_79 : decode b_I_fault 79 = .ok (.aload_n 0, 1) := by decide +kernel
theorem d_I_fault_80 : decode b_I_fault 80 = .ok (.iload 4, 2) := by decide +kernel
theorem d_I_fault_82 : decode b_I_fault 82 = .ok (.iload_n 2, 1) := by decide +kernel
theorem d_I_fault_83 : decode b_I_fault 83 = .ok (.invokevirtual 131, 3) := by decide +kernel
theorem d_I_fault_86 : decode b_I_fault 86 = .ok (.goto 60, 3) := by decide +kernel
theorem d_I_fault_89 : decode b_I_fault 89 = .ok (.aload_n 0, 1) := by decide +kernel
theorem d_I_fault_90 : decode b_I_fault 90 = .ok (.getfield 25, 3) := by decide +kernel
theorem d_I_fault_93 : decode b_I_fault 93 = .ok (.getfield 258, 3) := by decide +kernel
theorem d_I_fault_96 : decode b_I_fault 96 = .ok (.iload_n 3, 1) := by decide +kernel
theorem d_I_fault_97 : decode b_I_fault 97 = .ok (.iaload, 1) := by decide +kernel
theorem d_I_fault_98 : decode b_I_fault 98 = .ok (.iconst 2, 1) := by decide +kernel
theorem d_I_fault_99 : decode b_I_fault 99 = .ok (.if_icmp .ne 13, 3) := by decide +kernel
theorem d_I_fault_102 : decode b_I_fault 102 = .ok (.aload_n 0, 1) := by decide +kernel
theorem d_I_fault_103 : decode b_I_fault 103 = .ok (.iload 4, 2) := by decide +kernel
theorem d_I_fault_105 : decode b_I_fault 105 = .ok (.iload_n 2, 1) := by decide +kernel
theorem d_I_fault_106 : decode b_I_fault 106 = .ok (.invokevirtual 277, 3) := by decide +kernel
theorem d_I_fault_109 : decode b_I_fault 109 = .ok (.goto 37, 3) := by decide +kernel
theorem d_I_fault_112 : decode b_I_fault 112 = .ok (.aload_n 0, 1) := by decide +kernel
theorem d_I_fault_113 : decode b_I_fault 113 = .ok (.getfield 64, 3) := by decide +kernel
theorem d_I_fault_116 : decode b_I_fault 116 = .ok (.iload 5, 2) := by decide +kernel
theorem d_I_fault_118 : decode b_I_fault 118 = .ok (.iload 4, 2) := by decide +kernel
theorem d_I_fault_120 : decode b_I_fault 120 = .ok (.invokevirtual 280, 3) := by decide +kernel
theorem d_I_fault_123 : decode b_I_fault 123 = .ok (.aload_n 0, 1) := by decide +kernel
theorem d_I_fault_124 : decode b_I_fault 124 = .ok (.getfield 57, 3) := by decide +kernel
theorem d_I_fault_127 : decode b_I_fault 127 = .ok (.aload_n 0, 1) := by decide +kernel
theorem d_I_fault_128 : decode b_I_fault 128 = .ok (.getfield 25, 3) := by decide +kernel
theorem d_I_fault_131 : decode b_I_fault 131 = .ok (.getfield 135, 3) := by decide +kernel
theorem d_I_fault_134 : decode b_I_fault 134 = .ok (.iload_n 3, 1) := by decide +kernel
theorem d_I_fault_135 : decode b_I_fault 135 = .ok (.iaload, 1) := by decide +kernel
theorem d_I_fault_136 : decode b_I_fault 136 = .ok (.invokevirtual 179, 3) := by decide +kernel
theorem d_I_fault_139 : decode b_I_fault 139 = .ok (.aload_n 0, 1) := by decide +kernel
theorem d_I_fault_140 : decode b_I_fault 140 = .ok (.iload 4, 2) := by decide +kernel
theorem d_I_fault_142 : decode b_I_fault 142 = .ok (.iload_n 2, 1) := by decide +kernel
theorem d_I_fault_143 : decode b_I_fault 143 = .ok (.invokevirtual 283, 3) := by decide +kernel
theorem d_I_fault_146 : decode b_I_fault 146 = .ok (.return_, 1) := by decide +kernel
section
variable {p : Program} {l : Launch} {e : Env} {s : State} {m : MethodId} {args : Array Value} {below : List Frame} {meth : Method} {c : Code} {H : Heap} {locs : List Loc} {ls : Array Slot} {D : va_G} {A : Nat → Prop} {h o : Nat → Nat} {t v : Nat → ClassId}
def f_I_fault (p0 : St) (x1 : Int32) (x2 : Int32) (i0 : St) : Option (St) :=
  (f_I_become p0 x1 10 4 i0).bind fun i_1 =>
  if x1 = 0 then
    (sr_pf i_1 3 (10 + x2)).bind fun i_33 =>
    some i_33
  else
    (sr_ald 24 (p0 8) x1).bind fun v_4 =>
    (sr_ald 24 (p0 0) v_4).bind fun v_6 =>
    (sr_ald 24 (p0 9) v_4).bind fun v_8 =>
    sr_b2 (f_I_endWithin p0 v_8 i_1) fun v_10 i_11 =>
    (sr_ald 24 (p0 1) v_4).bind fun v_13 =>
    if v_13 = 1 then
      (f_E_clear p0 v_6 i_11).bind fun i_29 =>
      (f_I_faults p0 v_6 x2 i_29).bind fun i_31 =>
      some i_31
    else
      (sr_ald 24 (p0 1) v_4).bind fun v_16 =>
      if v_16 = 2 then
        (f_I_entryFails p0 v_6 x2 i_11).bind fun i_27 =>
        some i_27
      else
        (f_E_gather p0 v_10 v_6 i_11).bind fun i_19 =>
        (sr_ald 24 (p0 9) v_4).bind fun v_21 =>
        (f_L_closeFrom p0 v_21 i_19).bind fun i_23 =>
        (f_I_takeFault p0 v_6 x2 i_23).bind fun i_25 =>
        some i_25
set_option maxHeartbeats 4000000 in
set_option maxRecDepth 100000 in
theorem k_I_fault_0 {p0 : St} {x1 : Int32} {x2 : Int32} {i0 : St} {i' : St} (X : sr_X D (tI t v) b_I_fault 6 R_I w_I_fault p s m args meth c A none) (Z : sr_Z D A s.heap (wI h t o v p0 i0) H locs) (hl : lv_has ls 6 [(0, .ref (o 0)), (1, .int x1), (2, .int x2)]) (hf : f_I_fault p0 x1 x2 i0 = some i') : W p l e (sr_rm 3 69) s m args below meth c H locs 0 0 (sr_Qv D (tI t v) below args s A (wI h t o v p0 i')) (F0 m 0 ls []) := by
  have hx := X.1
  have hb := X.2.1
  have hK := X.2.2.2.2.2.2.1
  unfold f_I_fault at hf
  refine lv_aload_n hx hb d_I_fault_0 rfl (lv_at hl 0 rfl) ?_
  refine lv_iload_n hx hb d_I_fault_1 rfl (lv_at hl 1 rfl) ?_
  refine lv_bipush (v := 10) hx hb d_I_fault_2 (by decide) ?_
  refine lv_iconst (v := 4) hx hb d_I_fault_4 (by decide) ?_
  obtain ⟨i_1, e_2, hf⟩ := sr_b hf
  refine sr_cVv (As := [.int x1, .int 10, .int 4]) (rest := []) X Z sr_cut_self hK (c_I_become e_2) (cw_I_176 X.2.2.2.2.2.1 (by decide)) 15 rfl rfl rfl hl rfl (Nat.le_of_ble_eq_true rfl) d_I_fault_5 (fun H locs Z => ?_)
  refine lv_iload_n hx hb d_I_fault_8 rfl (lv_at hl 1 rfl) ?_
  refine lv_if_ne (tgt := 21) hx hb d_I_fault_9 rfl (fun q_3 => ?_) (fun q_3 => ?_)
  · have hf := sr_if q_3 hf
    refine lv_aload_n hx hb d_I_fault_21 rfl (lv_at hl 0 rfl) ?_
    refine g_I_25_I X Z d_I_fault_22 ?_
    refine g_I_274_I X Z d_I_fault_25 ?_
    refine lv_iload_n hx hb d_I_fault_28 rfl (lv_at hl 1 rfl) ?_
    obtain ⟨v_4, e_5, hf⟩ := sr_b hf
    refine sr_iald hx hb hK Z 9 8 rfl rfl e_5 d_I_fault_29 ?_
    refine lv_istore_n (lv' := [(3, .int v_4), (0, .ref (o 0)), (1, .int x1), (2, .int x2)]) hx hb d_I_fault_30 rfl hl (by decide) rfl (fun ls hl => ?_)
    refine lv_aload_n hx hb d_I_fault_31 rfl (lv_at hl 1 rfl) ?_
    refine g_I_25_I X Z d_I_fault_32 ?_
    refine g_I_210_I X Z d_I_fault_35 ?_
    refine lv_iload_n hx hb d_I_fault_38 rfl (lv_at hl 0 rfl) ?_
    obtain ⟨v_6, e_7, hf⟩ := sr_b hf
    refine sr_iald hx hb hK Z 1 0 rfl rfl e_7 d_I_fault_39 ?_
    refine lv_istore (lv' := [(4, .int v_6), (3, .int v_4), (0, .ref (o 0)), (1, .int x1), (2, .int x2)]) hx hb d_I_fault_40 hl (by decide) rfl (fun ls hl => ?_)
    refine lv_aload_n hx hb d_I_fault_42 rfl (lv_at hl 2 rfl) ?_
    refine lv_aload_n hx hb d_I_fault_43 rfl (lv_at hl 2 rfl) ?_
    refine g_I_25_I X Z d_I_fault_44 ?_
    refine g_I_135_I X Z d_I_fault_47 ?_
    refine lv_iload_n hx hb d_I_fault_50 rfl (lv_at hl 1 rfl) ?_
    obtain ⟨v_8, e_9, hf⟩ := sr_b hf
    refine sr_iald hx hb hK Z 10 9 rfl rfl e_9 d_I_fault_51 ?_
    obtain ⟨v_10, i_11, e_12, hf⟩ := sr_b2_i hf
    refine sr_cVi (As := [.int v_8]) (rest := []) X Z sr_cut_self hK (c_I_endWithin e_12) (cw_I_138 X.2.2.2.2.2.1 (by decide)) 15 rfl rfl rfl hl rfl (Nat.le_of_ble_eq_true rfl) d_I_fault_52 (fun H locs Z => ?_)
    refine lv_istore (lv' := [(5, .int v_10), (4, .int v_6), (3, .int v_4), (0, .ref (o 0)), (1, .int x1), (2, .int x2)]) hx hb d_I_fault_55 hl (by decide) rfl (fun ls hl => ?_)
    refine lv_aload_n hx hb d_I_fault_57 rfl (lv_at hl 3 rfl) ?_
    refine g_I_25_I X Z d_I_fault_58 ?_
    refine g_I_258_I X Z d_I_fault_61 ?_
    refine lv_iload_n hx hb d_I_fault_64 rfl (lv_at hl 2 rfl) ?_
    obtain ⟨v_13, e_14, hf⟩ := sr_b hf
    refine sr_iald hx hb hK Z 2 1 rfl rfl e_14 d_I_fault_65 ?_
    refine lv_iconst (v := 1) hx hb d_I_fault_66 (by decide) ?_
    refine lv_icmp_ne (tgt := 89) hx hb d_I_fault_67 rfl (fun q_15 => ?_) (fun q_15 => ?_)
    · have hf := sr_if q_15 hf
      refine lv_aload_n hx hb d_I_fault_89 rfl (lv_at hl 3 rfl) ?_
      refine g_I_25_I X Z d_I_fault_90 ?_
      refine g_I_258_I X Z d_I_fault_93 ?_
      refine lv_iload_n hx hb d_I_fault_96 rfl (lv_at hl 2 rfl) ?_
      obtain ⟨v_16, e_17, hf⟩ := sr_b hf
      refine sr_iald hx hb hK Z 2 1 rfl rfl e_17 d_I_fault_97 ?_
      refine lv_iconst (v := 2) hx hb d_I_fault_98 (by decide) ?_
      refine lv_icmp_ne (tgt := 112) hx hb d_I_fault_99 rfl (fun q_18 => ?_) (fun q_18 => ?_)
      · have hf := sr_if q_18 hf
        refine lv_aload_n hx hb d_I_fault_112 rfl (lv_at hl 3 rfl) ?_
        refine g_I_64_I X Z d_I_fault_113 ?_
        refine lv_iload hx hb d_I_fault_116 (lv_at hl 0 rfl) ?_
        refine lv_iload hx hb d_I_fault_118 (lv_at hl 1 rfl) ?_
        obtain ⟨i_19, e_20, hf⟩ := sr_b hf
        refine sr_cVv (As := [.int v_10, .int v_6]) (rest := []) X Z sr_cut_self hK (c_E_gather e_20) (cw_I_280 X.2.2.2.2.2.1 (by decide)) 18 rfl rfl rfl hl rfl (Nat.le_of_ble_eq_true rfl) d_I_fault_120 (fun H locs Z => ?_)
        refine lv_aload_n hx hb d_I_fault_123 rfl (lv_at hl 3 rfl) ?_
        refine g_I_57_I X Z d_I_fault_124 ?_
        refine lv_aload_n hx hb d_I_fault_127 rfl (lv_at hl 3 rfl) ?_
        refine g_I_25_I X Z d_I_fault_128 ?_
        refine g_I_135_I X Z d_I_fault_131 ?_
        refine lv_iload_n hx hb d_I_fault_134 rfl (lv_at hl 2 rfl) ?_
        obtain ⟨v_21, e_22, hf⟩ := sr_b hf
        refine sr_iald hx hb hK Z 10 9 rfl rfl e_22 d_I_fault_135 ?_
        obtain ⟨i_23, e_24, hf⟩ := sr_b hf
        refine sr_cVv (As := [.int v_21]) (rest := []) X Z sr_cut_self hK (c_L_closeFrom e_24) (cw_I_179 X.2.2.2.2.2.1 (by decide)) 17 rfl rfl rfl hl rfl (Nat.le_of_ble_eq_true rfl) d_I_fault_136 (fun H locs Z => ?_)
        refine lv_aload_n hx hb d_I_fault_139 rfl (lv_at hl 3 rfl) ?_
        refine lv_iload hx hb d_I_fault_140 (lv_at hl 1 rfl) ?_
        refine lv_iload_n hx hb d_I_fault_142 rfl (lv_at hl 5 rfl) ?_
        obtain ⟨i_25, e_26, hf⟩ := sr_b hf
        refine sr_cVv (As := [.int v_6, .int x2]) (rest := []) X Z sr_cut_self hK (c_I_takeFault e_26) (cw_I_283 X.2.2.2.2.2.1 (by decide)) 15 rfl rfl rfl hl rfl (Nat.le_of_ble_eq_true rfl) d_I_fault_143 (fun H locs Z => ?_)
        cases hf
        exact sr_retv X Z d_I_fault_146
      · have hf := sr_it q_18 hf
        refine lv_aload_n hx hb d_I_fault_102 rfl (lv_at hl 3 rfl) ?_
        refine lv_iload hx hb d_I_fault_103 (lv_at hl 1 rfl) ?_
        refine lv_iload_n hx hb d_I_fault_105 rfl (lv_at hl 5 rfl) ?_
        obtain ⟨i_27, e_28, hf⟩ := sr_b hf
        refine sr_cVv (As := [.int v_6, .int x2]) (rest := []) X Z sr_cut_self hK (c_I_entryFails e_28) (cw_I_277 X.2.2.2.2.2.1 (by decide)) 15 rfl rfl rfl hl rfl (Nat.le_of_ble_eq_true rfl) d_I_fault_106 (fun H locs Z => ?_)
        refine lv_goto (tgt := 146) hx hb d_I_fault_109 rfl ?_
        cases hf
        exact sr_retv X Z d_I_fault_146
    · have hf := sr_it q_15 hf
      refine lv_aload_n hx hb d_I_fault_70 rfl (lv_at hl 3 rfl) ?_
      refine g_I_64_I X Z d_I_fault_71 ?_
      refine lv_iload hx hb d_I_fault_74 (lv_at hl 1 rfl) ?_
      obtain ⟨i_29, e_30, hf⟩ := sr_b hf
      refine sr_cVv (As := [.int v_6]) (rest := []) X Z sr_cut_self hK (c_E_clear e_30) (cw_I_232 X.2.2.2.2.2.1 (by decide)) 18 rfl rfl rfl hl rfl (Nat.le_of_ble_eq_true rfl) d_I_fault_76 (fun H locs Z => ?_)
      refine lv_aload_n hx hb d_I_fault_79 rfl (lv_at hl 3 rfl) ?_
      refine lv_iload hx hb d_I_fault_80 (lv_at hl 1 rfl) ?_
      refine lv_iload_n hx hb d_I_fault_82 rfl (lv_at hl 5 rfl) ?_
      obtain ⟨i_31, e_32, hf⟩ := sr_b hf
      refine sr_cVv (As := [.int v_6, .int x2]) (rest := []) X Z sr_cut_self hK (c_I_faults e_32) (cw_I_131 X.2.2.2.2.2.1 (by decide)) 15 rfl rfl rfl hl rfl (Nat.le_of_ble_eq_true rfl) d_I_fault_83 (fun H locs Z => ?_)
      refine lv_goto (tgt := 146) hx hb d_I_fault_86 rfl ?_
      cases hf
      exact sr_retv X Z d_I_fault_146
  · have hf := sr_it q_3 hf
    refine lv_aload_n hx hb d_I_fault_12 rfl (lv_at hl 0 rfl) ?_
    refine lv_bipush (v := 10) hx hb d_I_fault_13 (by decide) ?_
    refine lv_iload_n hx hb d_I_fault_15 rfl (lv_at hl 2 rfl) ?_
    refine lv_iadd hx hb d_I_fault_16 ?_
    obtain ⟨i_33, e_34, hf⟩ := sr_b hf
    refine s_I_75_I X Z e_34 d_I_fault_17 (fun H locs Z => ?_)
    cases hf
    exact sr_retv X Z d_I_fault_20
end
set_option maxHeartbeats 4000000 in
set_option maxRecDepth 100000 in
theorem c_I_fault {l : Launch} {D : va_G} {h : Nat → Nat} {t : Nat → ClassId} {o : Nat → Nat} {v : Nat → ClassId} {sz : Nat} {p0 : St} {x1 : Int32} {x2 : Int32} {i0 : St} {i' : St} (hf : f_I_fault p0 x1 x2 i0 = some i') : sr_Cv l y_I_fault w_I_fault (sr_rm 3 69) D (tI t v) (wI h t o v p0 i0) (wI h t o v p0 i') sz [.ref (o 0), .int x1, .int x2] := by
  refine Met.ofW (cc := b_I_fault) (maxL := 6) (ret := none) (by decide) rfl ?_
  intro p e s m args below meth c s₁ B hml hv
  obtain ⟨rfl, hsz, hP, hK, hD0⟩ := hv
  subst hsz
  have X : sr_X D (tI t v) b_I_fault 6 R_I w_I_fault p s m _ meth c (va_A (wI h t o v p0 i0) s.heap.size) none := ⟨B.exec, B.bytes, hml, findClass_of_methodNamed B.named, B.notSynchronized, atoms_spec (ws := w_I_fault) B.pre, hK, fun q h => Or.inr h, B.returns⟩
  have Z : sr_Z D (va_A (wI h t o v p0 i0) s.heap.size) s.heap (wI h t o v p0 i0) s.heap [] := ⟨hP, hD0.self, va_S.rf⟩
  have hl := lv_entry ([.ref (o 0), .int x1, .int x2] : List Value) (n := 6) (Nat.le_of_ble_eq_true rfl)
  rw [lg_entry_eq]
  exact k_I_fault_0 X Z hl hf
/-! I_failEntry -/
theorem d_I_failEntry_0 : decode b_I_failEntry 0 = .ok (.aload_n 0, 1) := by decide +kernel
theorem d_I_failEntry_1 : decode b_I_failEntry 1 = .ok (.iload_n 1, 1) := by decide +kernel
theorem d_I_failEntry_2 : decode b_I_failEntry 2 = .ok (.bipush 10, 2) := by decide +kernel
theorem d_I_failEntry_4 : decode b_I_failEntry 4 = .ok (.iconst 4, 1) := by decide +kernel
theorem d_I_failEntry_5 : decode b_I_failEntry 5 = .ok (.invokevirtual 241, 3) := by decide +kernel
theorem d_I_failEntry_8 : decode b_I_failEntry 8 = .ok (.aload_n 0, 1) := by decide +kernel
theorem d_I_failEntry_9 : decode b_I_failEntry 9 = .ok (.getfield 18, 3) := by decide +kernel
theorem d_I_failEntry_12 : decode b_I_failEntry 12 = .ok (.iload_n 1, 1) := by decide +kernel
theorem d_I_failEntry_13 : decode b_I_failEntry 13 = .ok (.iaload, 1) := by decide +kernel
theorem d_I_failEntry_14 : decode b_I_failEntry 14 = .ok (.istore_n 3, 1) := by decide +kernel
theorem d_I_failEntry_15 : decode b_I_failEntry 15 = .ok (.aload_n 0, 1) := by decide +kernel
theorem d_I_failEntry_16 : decode b_I_failEntry 16 = .ok (.getfield 25, 3) := by decide +kernel
theorem d_I_failEntry_19 : decode b_I_failEntry 19 = .ok (.getfield 126, 3) := by decide +kernel
theorem d_I_failEntry_22 : decode b_I_failEntry 22 = .ok (.iload_n 3, 1) := by decide +kernel
theorem d_I_failEntry_23 : decode b_I_failEntry 23 = .ok (.iaload, 1) := by decide +kernel
theorem d_I_failEntry_24 : decode b_I_failEntry 24 = .ok (.bipush 7, 2) := by decide +kernel
theorem d_I_failEntry_26 : decode b_I_failEntry 26 = .ok (.if_icmp .ne 12, 3) := by decide +kernel
theorem d_I_failEntry_29 : decode b_I_failEntry 29 = .ok (.aload_n 0, 1) := by decide +kernel
theorem d_I_failEntry_30 : decode b_I_failEntry 30 = .ok (.iload_n 3, 1) := by decide +kernel
theorem d_I_failEntry_31 : decode b_I_failEntry 31 = .ok (.iload_n 2, 1) := by decide +kernel
theorem d_I_failEntry_32 : decode b_I_failEntry 32 = .ok (.invokevirtual 131, 3) := by decide +kernel
theorem d_I_failEntry_35 : decode b_I_failEntry 35 = .ok (.goto 37, 3) := by decide +kernel
theorem d_I_failEntry_38 : decode b_I_failEntry 38 = .ok (.aload_n 0, 1) := by decide +kernel
theorem d_I_failEntry_39 : decode b_I_failEntry 39 = .ok (.getfield 9, 3) := by decide +kernel
theorem d_I_failEntry_42 : decode b_I_failEntry 42 = .ok (.iload_n 3, 1) := by decide +kernel
theorem d_I_failEntry_43 : decode b_I_failEntry 43 = .ok (.iaload, 1) := by decide +kernel
theorem d_I_failEntry_44 : decode b_I_failEntry 44 = .ok (.bipush 7, 2) := by decide +kernel
theorem d_I_failEntry_46 : decode b_I_failEntry 46 = .ok (.if_icmp .ne 12, 3) := by decide +kernel
theorem d_I_failEntry_49 : decode b_I_failEntry 49 = .ok (.aload_n 0, 1) := by decide +kernel
theorem d_I_failEntry_50 : decode b_I_failEntry 50 = .ok (.iload_n 3, 1) := by decide +kernel
theorem d_I_failEntry_51 : decode b_I_failEntry 51 = .ok (.iload_n 2, 1) := by decide +kernel
theorem d_I_failEntry_52 : decode b_I_failEntry 52 = .ok (.invokevirtual 277, 3) := by decide +kernel
theorem d_I_failEntry_55 : decode b_I_failEntry 55 = .ok (.goto 17, 3) := by decide +kernel
theorem d_I_failEntry_58 : decode b_I_failEntry 58 = .ok (.aload_n 0, 1) := by decide +kernel
theorem d_I_failEntry_59 : decode b_I_failEntry 59 = .ok (.getfield 64, 3) := by decide +kernel
theorem d_I_failEntry_62 : decode b_I_failEntry 62 = .ok (.iload_n 3, 1) := by decide +kernel
theorem d_I_failEntry_63 : decode b_I_failEntry 63 = .ok (.invokevirtual 232, 3) := by decide +kernel
theorem d_I_failEntry_66 : decode b_I_failEntry 66 = .ok (.aload_n 0, 1) := by decide +kernel
theorem d_I_failEntry_67 : decode b_I_failEntry 67 = .ok (.iload_n 3, 1) := by decide +kernel
theorem d_I_failEntry_68 : decode b_I_failEntry 68 = .ok (.iload_n 2, 1) := by decide +kernel
theorem d_I_failEntry_69 : decode b_I_failEntry 69 = .ok (.invokevirtual 131, 3) := by decide +kernel
theorem d_I_failEntry_72 : decode b_I_failEntry 72 = .ok (.return_, 1) := by decide +kernel
section
variable {p : Program} {l : Launch} {e : Env} {s : State} {m : MethodId} {args : Array Value} {below : List Frame} {meth : Method} {c : Code} {H : Heap} {locs : List Loc} {ls : Array Slot} {D : va_G} {A : Nat → Prop} {h o : Nat → Nat} {t v : Nat → ClassId}
def f_I_failEntry (p0 : St) (x1 : Int32) (x2 : Int32) (i0 : St) : Option (St) :=
  (f_I_endUndo p0 x1 10 4 i0).bind fun i_1 =>
  (sr_ald 24 (i_1 6) x1).bind fun v_3 =>
  (sr_ald 24 (p0 2) v_3).bind fun v_5 =>
  if v_5 = 7 then
    (f_I_faults p0 v_3 x2 i_1).bind fun i_17 =>
    some i_17
  else
    (sr_ald 24 (i_1 4) v_3).bind fun v_8 =>
    if v_8 = 7 then
      (f_I_entryFails p0 v_3 x2 i_1).bind fun i_15 =>
      some i_15
    else
      (f_E_clear p0 v_3 i_1).bind fun i_11 =>
      (f_I_faults p0 v_3 x2 i_11).bind fun i_13 =>
      some i_13
set_option maxHeartbeats 4000000 in
set_option maxRecDepth 100000 in
theorem k_I_failEntry_0 {p0 : St} {x1 : Int32} {x2 : Int32} {i0 : St} {i' : St} (X : sr_X D (tI t v) b_I_failEntry 4 R_I w_I_failEntry p s m args meth c A none) (Z : sr_Z D A s.heap (wI h t o v p0 i0) H locs) (hl : lv_has ls 4 [(0, .ref (o 0)), (1, .int x1), (2, .int x2)]) (hf : f_I_failEntry p0 x1 x2 i0 = some i') : W p l e (sr_rm 3 68) s m args below meth c H locs 0 0 (sr_Qv D (tI t v) below args s A (wI h t o v p0 i')) (F0 m 0 ls []) := by
  have hx := X.1
  have hb := X.2.1
  have hK := X.2.2.2.2.2.2.1
  unfold f_I_failEntry at hf
  refine lv_aload_n hx hb d_I_failEntry_0 rfl (lv_at hl 0 rfl) ?_
  refine lv_iload_n hx hb d_I_failEntry_1 rfl (lv_at hl 1 rfl) ?_
  refine lv_bipush (v := 10) hx hb d_I_failEntry_2 (by decide) ?_
  refine lv_iconst (v := 4) hx hb d_I_failEntry_4 (by decide) ?_
  obtain ⟨i_1, e_2, hf⟩ := sr_b hf
  refine sr_cVv (As := [.int x1, .int 10, .int 4]) (rest := []) X Z sr_cut_self hK (c_I_endUndo e_2) (cw_I_241 X.2.2.2.2.2.1 (by decide)) 15 rfl rfl rfl hl rfl (Nat.le_of_ble_eq_true rfl) d_I_failEntry_5 (fun H locs Z => ?_)
  refine lv_aload_n hx hb d_I_failEntry_8 rfl (lv_at hl 0 rfl) ?_
  refine g_I_18_I X Z d_I_failEntry_9 ?_
  refine lv_iload_n hx hb d_I_failEntry_12 rfl (lv_at hl 1 rfl) ?_
  obtain ⟨v_3, e_4, hf⟩ := sr_b hf
  refine sr_iald hx hb hK Z 22 16 rfl rfl e_4 d_I_failEntry_13 ?_
  refine lv_istore_n (lv' := [(3, .int v_3), (0, .ref (o 0)), (1, .int x1), (2, .int x2)]) hx hb d_I_failEntry_14 rfl hl (by decide) rfl (fun ls hl => ?_)
  refine lv_aload_n hx hb d_I_failEntry_15 rfl (lv_at hl 1 rfl) ?_
  refine g_I_25_I X Z d_I_failEntry_16 ?_
  refine g_I_126_I X Z d_I_failEntry_19 ?_
  refine lv_iload_n hx hb d_I_failEntry_22 rfl (lv_at hl 0 rfl) ?_
  obtain ⟨v_5, e_6, hf⟩ := sr_b hf
  refine sr_iald hx hb hK Z 3 2 rfl rfl e_6 d_I_failEntry_23 ?_
  refine lv_bipush (v := 7) hx hb d_I_failEntry_24 (by decide) ?_
  refine lv_icmp_ne (tgt := 38) hx hb d_I_failEntry_26 rfl (fun q_7 => ?_) (fun q_7 => ?_)
  · have hf := sr_if q_7 hf
    refine lv_aload_n hx hb d_I_failEntry_38 rfl (lv_at hl 1 rfl) ?_
    refine g_I_9_I X Z d_I_failEntry_39 ?_
    refine lv_iload_n hx hb d_I_failEntry_42 rfl (lv_at hl 0 rfl) ?_
    obtain ⟨v_8, e_9, hf⟩ := sr_b hf
    refine sr_iald hx hb hK Z 20 14 rfl rfl e_9 d_I_failEntry_43 ?_
    refine lv_bipush (v := 7) hx hb d_I_failEntry_44 (by decide) ?_
    refine lv_icmp_ne (tgt := 58) hx hb d_I_failEntry_46 rfl (fun q_10 => ?_) (fun q_10 => ?_)
    · have hf := sr_if q_10 hf
      refine lv_aload_n hx hb d_I_failEntry_58 rfl (lv_at hl 1 rfl) ?_
      refine g_I_64_I X Z d_I_failEntry_59 ?_
      refine lv_iload_n hx hb d_I_failEntry_62 rfl (lv_at hl 0 rfl) ?_
      obtain ⟨i_11, e_12, hf⟩ := sr_b hf
      refine sr_cVv (As := [.int v_3]) (rest := []) X Z sr_cut_self hK (c_E_clear e_12) (cw_I_232 X.2.2.2.2.2.1 (by decide)) 18 rfl rfl rfl hl rfl (Nat.le_of_ble_eq_true rfl) d_I_failEntry_63 (fun H locs Z => ?_)
      refine lv_aload_n hx hb d_I_failEntry_66 rfl (lv_at hl 1 rfl) ?_
      refine lv_iload_n hx hb d_I_failEntry_67 rfl (lv_at hl 0 rfl) ?_
      refine lv_iload_n hx hb d_I_failEntry_68 rfl (lv_at hl 3 rfl) ?_
      obtain ⟨i_13, e_14, hf⟩ := sr_b hf
      refine sr_cVv (As := [.int v_3, .int x2]) (rest := []) X Z sr_cut_self hK (c_I_faults e_14) (cw_I_131 X.2.2.2.2.2.1 (by decide)) 15 rfl rfl rfl hl rfl (Nat.le_of_ble_eq_true rfl) d_I_failEntry_69 (fun H locs Z => ?_)
      cases hf
      exact sr_retv X Z d_I_failEntry_72
    · have hf := sr_it q_10 hf
      refine lv_aload_n hx hb d_I_failEntry_49 rfl (lv_at hl 1 rfl) ?_
      refine lv_iload_n hx hb d_I_failEntry_50 rfl (lv_at hl 0 rfl) ?_
      refine lv_iload_n hx hb d_I_failEntry_51 rfl (lv_at hl 3 rfl) ?_
      obtain ⟨i_15, e_16, hf⟩ := sr_b hf
      refine sr_cVv (As := [.int v_3, .int x2]) (rest := []) X Z sr_cut_self hK (c_I_entryFails e_16) (cw_I_277 X.2.2.2.2.2.1 (by decide)) 15 rfl rfl rfl hl rfl (Nat.le_of_ble_eq_true rfl) d_I_failEntry_52 (fun H locs Z => ?_)
      refine lv_goto (tgt := 72) hx hb d_I_failEntry_55 rfl ?_
      cases hf
      exact sr_retv X Z d_I_failEntry_72
  · have hf := sr_it q_7 hf
    refine lv_aload_n hx hb d_I_failEntry_29 rfl (lv_at hl 1 rfl) ?_
    refine lv_iload_n hx hb d_I_failEntry_30 rfl (lv_at hl 0 rfl) ?_
    refine lv_iload_n hx hb d_I_failEntry_31 rfl (lv_at hl 3 rfl) ?_
    obtain ⟨i_17, e_18, hf⟩ := sr_b hf
    refine sr_cVv (As := [.int v_3, .int x2]) (rest := []) X Z sr_cut_self hK (c_I_faults e_18) (cw_I_131 X.2.2.2.2.2.1 (by decide)) 15 rfl rfl rfl hl rfl (Nat.le_of_ble_eq_true rfl) d_I_failEntry_32 (fun H locs Z => ?_)
    refine lv_goto (tgt := 72) hx hb d_I_failEntry_35 rfl ?_
    cases hf
    exact sr_retv X Z d_I_failEntry_72
end
set_option maxHeartbeats 4000000 in
set_option maxRecDepth 100000 in
theorem c_I_failEntry {l : Launch} {D : va_G} {h : Nat → Nat} {t : Nat → ClassId} {o : Nat → Nat} {v : Nat → ClassId} {sz : Nat} {p0 : St} {x1 : Int32} {x2 : Int32} {i0 : St} {i' : St} (hf : f_I_failEntry p0 x1 x2 i0 = some i') : sr_Cv l y_I_failEntry w_I_failEntry (sr_rm 3 68) D (tI t v) (wI h t o v p0 i0) (wI h t o v p0 i') sz [.ref (o 0), .int x1, .int x2] := by
  refine Met.ofW (cc := b_I_failEntry) (maxL := 4) (ret := none) (by decide) rfl ?_
  intro p e s m args below meth c s₁ B hml hv
  obtain ⟨rfl, hsz, hP, hK, hD0⟩ := hv
  subst hsz
  have X : sr_X D (tI t v) b_I_failEntry 4 R_I w_I_failEntry p s m _ meth c (va_A (wI h t o v p0 i0) s.heap.size) none := ⟨B.exec, B.bytes, hml, findClass_of_methodNamed B.named, B.notSynchronized, atoms_spec (ws := w_I_failEntry) B.pre, hK, fun q h => Or.inr h, B.returns⟩
  have Z : sr_Z D (va_A (wI h t o v p0 i0) s.heap.size) s.heap (wI h t o v p0 i0) s.heap [] := ⟨hP, hD0.self, va_S.rf⟩
  have hl := lv_entry ([.ref (o 0), .int x1, .int x2] : List Value) (n := 4) (Nat.le_of_ble_eq_true rfl)
  rw [lg_entry_eq]
  exact k_I_failEntry_0 X Z hl hf
/-! I_settle -/
theorem d_I_settle_0 : decode b_I_settle 0 = .ok (.iconst 0, 1) := by decide +kernel
theorem d_I_settle_1 : decode b_I_settle 1 = .ok (.istore_n 1, 1) := by decide +kernel
theorem d_I_settle_2 : decode b_I_settle 2 = .ok (.iload_n 1, 1) := by decide +kernel
theorem d_I_settle_3 : decode b_I_settle 3 = .ok (.sipush 1000, 3) := by decide +kernel
theorem d_I_settle_6 : decode b_I_settle 6 = .ok (.if_icmp .ge 101, 3) := by decide +kernel
theorem d_I_settle_9 : decode b_I_settle 9 = .ok (.aload_n 0, 1) := by decide +kernel
theorem d_I_settle_10 : decode b_I_settle 10 = .ok (.getfield 146, 3) := by decide +kernel
theorem d_I_settle_13 : decode b_I_settle 13 = .ok (.ifCond .eq 94, 3) := by decide +kernel
theorem d_I_settle_16 : decode b_I_settle 16 = .ok (.aload_n 0, 1) := by decide +kernel
theorem d_I_settle_17 : decode b_I_settle 17 = .ok (.getfield 146, 3) := by decide +kernel
theorem d_I_settle_20 : decode b_I_settle 20 = .ok (.istore_n 2, 1) := by decide +kernel
theorem d_I_settle_21 : decode b_I_settle 21 = .ok (.aload_n 0, 1) := by decide +kernel
theorem d_I_settle_22 : decode b_I_settle 22 = .ok (.iconst 0, 1) := by decide +kernel
theorem d_I_settle_23 : decode b_I_settle 23 = .ok (.putfield 146, 3) := by decide +kernel
theorem d_I_settle_26 : decode b_I_settle 26 = .ok (.iload_n 2, 1) := by decide +kernel
theorem d_I_settle_27 : decode b_I_settle 27 = .ok (.tableswitch 62 1 3 #[25, 36, 47], 25) := by decide +kernel
theorem d_I_settle_52 : decode b_I_settle 52 = .ok (.aload_n 0, 1) := by decide +kernel
theorem d_I_settle_53 : decode b_I_settle 53 = .ok (.aload_n 0, 1) := by decide +kernel
theorem d_I_settle_54 : decode b_I_settle 54 = .ok (.getfield 149, 3) := by decide +kernel
theorem d_I_settle_57 : decode b_I_settle 57 = .ok (.invokevirtual 155, 3) := by decide +kernel
theorem d_I_settle_60 : decode b_I_settle 60 = .ok (.goto 41, 3) := by decide +kernel
theorem d_I_settle_63 : decode b_I_settle 63 = .ok (.aload_n 0, 1) := by decide +kernel
theorem d_I_settle_64 : decode b_I_settle 64 = .ok (.aload_n 0, 1) := by decide +kernel
theorem d_I_settle_65 : decode b_I_settle 65 = .ok (.getfield 149, 3) := by decide +kernel
theorem d_I_settle_68 : decode b_I_settle 68 = .ok (.invokevirtual 158, 3) := by decide +kernel
theorem d_I_settle_71 : decode b_I_settle 71 = .ok (.goto 30, 3) := by decide +kernel
theorem d_I_settle_74 : decode b_I_settle 74 = .ok (.aload_n 0, 1) := by decide +kernel
theorem d_I_settle_75 : decode b_I_settle 75 = .ok (.aload_n 0, 1) := by decide +kernel
theorem d_I_settle_76 : decode b_I_settle 76 = .ok (.getfield 149, 3) := by decide +kernel
theorem d_I_settle_79 : decode b_I_settle 79 = .ok (.aload_n 0, 1) := by decide +kernel
theorem d_I_settle_80 : decode b_I_settle 80 = .ok (.getfield 152, 3) := by decide +kernel
theorem d_I_settle_83 : decode b_I_settle 83 = .ok (.invokevirtual 161, 3) := by decide +kernel
theorem d_I_settle_86 : decode b_I_settle 86 = .ok (.goto 15, 3) := by decide +kernel
theorem d_I_settle_89 : decode b_I_settle 89 = .ok (.aload_n 0, 1) := by decide +kernel
theorem d_I_settle_90 : decode b_I_settle 90 = .ok (.aload_n 0, 1) := by decide +kernel
theorem d_I_settle_91 : decode b_I_settle 91 = .ok (.getfield 149, 3) := by decide +kernel
theorem d_I_settle_94 : decode b_I_settle 94 = .ok (.aload_n 0, 1) := by decide +kernel
theorem d_I_settle_95 : decode b_I_settle 95 = .ok (.getfield 152, 3) := by decide +kernel
theorem d_I_settle_98 : decode b_I_settle 98 = .ok (.invokevirtual 164, 3) := by decide +kernel
theorem d_I_settle_101 : decode b_I_settle 101 = .ok (.iinc 1 1, 3) := by decide +kernel
theorem d_I_settle_104 : decode b_I_settle 104 = .ok (.goto (-102), 3) := by decide +kernel
theorem d_I_settle_107 : decode b_I_settle 107 = .ok (.return_, 1) := by decide +kernel
section
variable {p : Program} {l : Launch} {e : Env} {s : State} {m : MethodId} {args : Array Value} {below : List Frame} {meth : Method} {c : Code} {H : Heap} {locs : List Loc} {ls : Array Slot} {D : va_G} {A : Nat → Prop} {h o : Nat → Nat} {t v : Nat → ClassId}
def f_I_settle_101 (k2 : Int32 → St → Option (St)) (p0 : St) (x1 : Int32) (i0 : St) : Option (St) :=
  k2 (x1 + 1) i0
set_option maxHeartbeats 4000000 in
set_option maxRecDepth 100000 in
theorem k_I_settle_101 {k2 : Int32 → St → Option (St)} {p0 : St} {x1 : Int32} {i0 : St} {i' : St} (X : sr_X D (tI t v) b_I_settle 3 R_I w_I_settle p s m args meth c A none) (hk2 : ∀ (x1 : Int32) (i0 : St) (H : Heap) (locs : List Loc) (ls : Array Slot), sr_Z D A s.heap (wI h t o v p0 i0) H locs → lv_has ls 3 [(0, .ref (o 0)), (1, .int x1)] → k2 x1 i0 = some i' → W p l e (sr_rm 4 94) s m args below meth c H locs 0 0 (sr_Qv D (tI t v) below args s A (wI h t o v p0 i')) (F0 m 2 ls [])) (Z : sr_Z D A s.heap (wI h t o v p0 i0) H locs) (hl : lv_has ls 3 [(0, .ref (o 0)), (1, .int x1)]) (hf : f_I_settle_101 k2 p0 x1 i0 = some i') : W p l e (sr_rm 4 94) s m args below meth c H locs 0 0 (sr_Qv D (tI t v) below args s A (wI h t o v p0 i')) (F0 m 101 ls []) := by
  have hx := X.1
  have hb := X.2.1
  have hK := X.2.2.2.2.2.2.1
  unfold f_I_settle_101 at hf
  refine lv_iinc (k := 1) (v := x1 + 1) (lv' := [(1, .int (x1 + 1)), (0, .ref (o 0))]) hx hb d_I_settle_101 hl rfl rfl (by decide) rfl (fun ls hl => ?_)
  refine lv_goto (tgt := 2) hx hb d_I_settle_104 rfl ?_
  exact hk2 (x1 + 1) i0 _ _ _ Z (lv_sub hl [1, 0] rfl) hf
def f_I_settle_2 (k2 : Int32 → St → Option (St)) (p0 : St) (x1 : Int32) (i0 : St) : Option (St) :=
  if 1000 ≤ x1 then
    some i0
  else
    if (i0 8 0) = 0 then
      some i0
    else
      (sr_pf i0 8 0).bind fun i_3 =>
      (some (i0 8 0)).bind fun w_5 =>
      if w_5 = 1 then
        (f_I_complete p0 (i_3 9 0) i_3).bind fun i_8 =>
        f_I_settle_101 k2 p0 x1 i_8
      else
      if w_5 = 2 then
        (f_I_report p0 (i_3 9 0) i_3).bind fun i_11 =>
        f_I_settle_101 k2 p0 x1 i_11
      else
      if w_5 = 3 then
        (f_I_fault p0 (i_3 9 0) (i_3 10 0) i_3).bind fun i_14 =>
        f_I_settle_101 k2 p0 x1 i_14
      else
      (f_I_failEntry p0 (i_3 9 0) (i_3 10 0) i_3).bind fun i_16 =>
      f_I_settle_101 k2 p0 x1 i_16
set_option maxHeartbeats 4000000 in
set_option maxRecDepth 100000 in
theorem k_I_settle_2 {k2 : Int32 → St → Option (St)} {p0 : St} {x1 : Int32} {i0 : St} {i' : St} (X : sr_X D (tI t v) b_I_settle 3 R_I w_I_settle p s m args meth c A none) (hk2 : ∀ (x1 : Int32) (i0 : St) (H : Heap) (locs : List Loc) (ls : Array Slot), sr_Z D A s.heap (wI h t o v p0 i0) H locs → lv_has ls 3 [(0, .ref (o 0)), (1, .int x1)] → k2 x1 i0 = some i' → W p l e (sr_rm 4 94) s m args below meth c H locs 0 0 (sr_Qv D (tI t v) below args s A (wI h t o v p0 i')) (F0 m 2 ls [])) (Z : sr_Z D A s.heap (wI h t o v p0 i0) H locs) (hl : lv_has ls 3 [(0, .ref (o 0)), (1, .int x1)]) (hf : f_I_settle_2 k2 p0 x1 i0 = some i') : W p l e (sr_rm 4 94) s m args below meth c H locs 0 0 (sr_Qv D (tI t v) below args s A (wI h t o v p0 i')) (F0 m 2 ls []) := by
  have hx := X.1
  have hb := X.2.1
  have hK := X.2.2.2.2.2.2.1
  unfold f_I_settle_2 at hf
  refine lv_iload_n hx hb d_I_settle_2 rfl (lv_at hl 1 rfl) ?_
  refine lv_sipush (v := 1000) hx hb d_I_settle_3 (by decide) ?_
  refine lv_icmp_ge (tgt := 107) hx hb d_I_settle_6 rfl (fun q_1 => ?_) (fun q_1 => ?_)
  · have hf := sr_it q_1 hf
    cases hf
    exact sr_retv X Z d_I_settle_107
  · have hf := sr_if q_1 hf
    refine lv_aload_n hx hb d_I_settle_9 rfl (lv_at hl 0 rfl) ?_
    refine g_I_146_I X Z d_I_settle_10 ?_
    refine lv_if_eq (tgt := 107) hx hb d_I_settle_13 rfl (fun q_2 => ?_) (fun q_2 => ?_)
    · have hf := sr_it q_2 hf
      cases hf
      exact sr_retv X Z d_I_settle_107
    · have hf := sr_if q_2 hf
      refine lv_aload_n hx hb d_I_settle_16 rfl (lv_at hl 0 rfl) ?_
      refine g_I_146_I X Z d_I_settle_17 ?_
      refine lv_istore_n (lv' := [(2, .int (i0 8 0)), (0, .ref (o 0)), (1, .int x1)]) hx hb d_I_settle_20 rfl hl (by decide) rfl (fun ls hl => ?_)
      refine lv_aload_n hx hb d_I_settle_21 rfl (lv_at hl 1 rfl) ?_
      refine lv_iconst (v := 0) hx hb d_I_settle_22 (by decide) ?_
      obtain ⟨i_3, e_4, hf⟩ := sr_b hf
      refine s_I_146_I X Z e_4 d_I_settle_23 (fun H locs Z => ?_)
      refine lv_iload_n hx hb d_I_settle_26 rfl (lv_at hl 0 rfl) ?_
      obtain ⟨w_5, e_6, hf⟩ := sr_b hf
      refine sr_nm e_6 ?_
      by_cases q_7 : w_5 = 1
      · have hf := sr_it q_7 hf
        rw [q_7]
        refine lv_tableIn (tgt := 52) hx hb d_I_settle_27 (by decide) (by decide) rfl rfl ?_
        refine lv_aload_n hx hb d_I_settle_52 rfl (lv_at hl 1 rfl) ?_
        refine lv_aload_n hx hb d_I_settle_53 rfl (lv_at hl 1 rfl) ?_
        refine g_I_149_I X Z d_I_settle_54 ?_
        obtain ⟨i_8, e_9, hf⟩ := sr_b hf
        refine sr_cVv (As := [.int (i_3 9 0)]) (rest := []) X Z sr_cut_self hK (c_I_complete e_9) (cw_I_155 X.2.2.2.2.2.1 (by decide)) 15 rfl rfl rfl hl rfl (Nat.le_of_ble_eq_true rfl) d_I_settle_57 (fun H locs Z => ?_)
        refine lv_goto (tgt := 101) hx hb d_I_settle_60 rfl ?_
        exact k_I_settle_101 X hk2 Z (lv_sub hl [1, 2] rfl) hf
      have hf := sr_if q_7 hf
      by_cases q_10 : w_5 = 2
      · have hf := sr_it q_10 hf
        rw [q_10]
        refine lv_tableIn (tgt := 63) hx hb d_I_settle_27 (by decide) (by decide) rfl rfl ?_
        refine lv_aload_n hx hb d_I_settle_63 rfl (lv_at hl 1 rfl) ?_
        refine lv_aload_n hx hb d_I_settle_64 rfl (lv_at hl 1 rfl) ?_
        refine g_I_149_I X Z d_I_settle_65 ?_
        obtain ⟨i_11, e_12, hf⟩ := sr_b hf
        refine sr_cVv (As := [.int (i_3 9 0)]) (rest := []) X Z sr_cut_self hK (c_I_report e_12) (cw_I_158 X.2.2.2.2.2.1 (by decide)) 15 rfl rfl rfl hl rfl (Nat.le_of_ble_eq_true rfl) d_I_settle_68 (fun H locs Z => ?_)
        refine lv_goto (tgt := 101) hx hb d_I_settle_71 rfl ?_
        exact k_I_settle_101 X hk2 Z (lv_sub hl [1, 2] rfl) hf
      have hf := sr_if q_10 hf
      by_cases q_13 : w_5 = 3
      · have hf := sr_it q_13 hf
        rw [q_13]
        refine lv_tableIn (tgt := 74) hx hb d_I_settle_27 (by decide) (by decide) rfl rfl ?_
        refine lv_aload_n hx hb d_I_settle_74 rfl (lv_at hl 1 rfl) ?_
        refine lv_aload_n hx hb d_I_settle_75 rfl (lv_at hl 1 rfl) ?_
        refine g_I_149_I X Z d_I_settle_76 ?_
        refine lv_aload_n hx hb d_I_settle_79 rfl (lv_at hl 1 rfl) ?_
        refine g_I_152_I X Z d_I_settle_80 ?_
        obtain ⟨i_14, e_15, hf⟩ := sr_b hf
        refine sr_cVv (As := [.int (i_3 9 0), .int (i_3 10 0)]) (rest := []) X Z sr_cut_self hK (c_I_fault e_15) (cw_I_161 X.2.2.2.2.2.1 (by decide)) 15 rfl rfl rfl hl rfl (Nat.le_of_ble_eq_true rfl) d_I_settle_83 (fun H locs Z => ?_)
        refine lv_goto (tgt := 101) hx hb d_I_settle_86 rfl ?_
        exact k_I_settle_101 X hk2 Z (lv_sub hl [1, 2] rfl) hf
      have hf := sr_if q_13 hf
      have hout : w_5.toInt < 1 ∨ 3 < w_5.toInt := by
        have := sr_ne q_7 (k := 1) rfl
        have := sr_ne q_10 (k := 2) rfl
        have := sr_ne q_13 (k := 3) rfl
        omega
      refine lv_tableOut (tgt := 89) hx hb d_I_settle_27 hout rfl ?_
      refine lv_aload_n hx hb d_I_settle_89 rfl (lv_at hl 1 rfl) ?_
      refine lv_aload_n hx hb d_I_settle_90 rfl (lv_at hl 1 rfl) ?_
      refine g_I_149_I X Z d_I_settle_91 ?_
      refine lv_aload_n hx hb d_I_settle_94 rfl (lv_at hl 1 rfl) ?_
      refine g_I_152_I X Z d_I_settle_95 ?_
      obtain ⟨i_16, e_17, hf⟩ := sr_b hf
      refine sr_cVv (As := [.int (i_3 9 0), .int (i_3 10 0)]) (rest := []) X Z sr_cut_self hK (c_I_failEntry e_17) (cw_I_164 X.2.2.2.2.2.1 (by decide)) 15 rfl rfl rfl hl rfl (Nat.le_of_ble_eq_true rfl) d_I_settle_98 (fun H locs Z => ?_)
      exact k_I_settle_101 X hk2 Z (lv_sub hl [1, 2] rfl) hf
def f_I_settle_2_it (p0 : St) : Nat → Int32 → St → Option (St)
  | 0 => fun _ _ => none
  | n + 1 => fun x1 i0 => f_I_settle_2 (f_I_settle_2_it p0 n) p0 x1 i0
set_option maxHeartbeats 4000000 in
set_option maxRecDepth 100000 in
theorem k_I_settle_2_it {p0 : St} {i' : St} (X : sr_X D (tI t v) b_I_settle 3 R_I w_I_settle p s m args meth c A none) (n : Nat) : ∀ {x1 : Int32} {i0 : St} {H : Heap} {locs : List Loc} {ls : Array Slot}, sr_Z D A s.heap (wI h t o v p0 i0) H locs → lv_has ls 3 [(0, .ref (o 0)), (1, .int x1)] → f_I_settle_2_it p0 n x1 i0 = some i' → W p l e (sr_rm 4 94) s m args below meth c H locs 0 0 (sr_Qv D (tI t v) below args s A (wI h t o v p0 i')) (F0 m 2 ls []) := by
  induction n with
  | zero => intro x1 i0 H locs ls Z hl hf; exact absurd hf (by simp [f_I_settle_2_it])
  | succ n ih =>
    intro x1 i0 H locs ls Z hl hf
    exact k_I_settle_2 X (fun x1 i0 H locs ls Z hl hf => ih Z hl hf) Z hl hf
def f_I_settle (p0 : St) (i0 : St) : Option (St) :=
  f_I_settle_2_it p0 1001 0 i0
set_option maxHeartbeats 4000000 in
set_option maxRecDepth 100000 in
theorem k_I_settle_0 {p0 : St} {i0 : St} {i' : St} (X : sr_X D (tI t v) b_I_settle 3 R_I w_I_settle p s m args meth c A none) (Z : sr_Z D A s.heap (wI h t o v p0 i0) H locs) (hl : lv_has ls 3 [(0, .ref (o 0))]) (hf : f_I_settle p0 i0 = some i') : W p l e (sr_rm 4 94) s m args below meth c H locs 0 0 (sr_Qv D (tI t v) below args s A (wI h t o v p0 i')) (F0 m 0 ls []) := by
  have hx := X.1
  have hb := X.2.1
  have hK := X.2.2.2.2.2.2.1
  unfold f_I_settle at hf
  refine lv_iconst (v := 0) hx hb d_I_settle_0 (by decide) ?_
  refine lv_istore_n (lv' := [(1, .int 0), (0, .ref (o 0))]) hx hb d_I_settle_1 rfl hl (by decide) rfl (fun ls hl => ?_)
  exact k_I_settle_2_it X _ Z (lv_sub hl [1, 0] rfl) hf
end
set_option maxHeartbeats 4000000 in
set_option maxRecDepth 100000 in
theorem c_I_settle {l : Launch} {D : va_G} {h : Nat → Nat} {t : Nat → ClassId} {o : Nat → Nat} {v : Nat → ClassId} {sz : Nat} {p0 : St} {i0 : St} {i' : St} (hf : f_I_settle p0 i0 = some i') : sr_Cv l y_I_settle w_I_settle (sr_rm 4 94) D (tI t v) (wI h t o v p0 i0) (wI h t o v p0 i') sz [.ref (o 0)] := by
  refine Met.ofW (cc := b_I_settle) (maxL := 3) (ret := none) (by decide) rfl ?_
  intro p e s m args below meth c s₁ B hml hv
  obtain ⟨rfl, hsz, hP, hK, hD0⟩ := hv
  subst hsz
  have X : sr_X D (tI t v) b_I_settle 3 R_I w_I_settle p s m _ meth c (va_A (wI h t o v p0 i0) s.heap.size) none := ⟨B.exec, B.bytes, hml, findClass_of_methodNamed B.named, B.notSynchronized, atoms_spec (ws := w_I_settle) B.pre, hK, fun q h => Or.inr h, B.returns⟩
  have Z : sr_Z D (va_A (wI h t o v p0 i0) s.heap.size) s.heap (wI h t o v p0 i0) s.heap [] := ⟨hP, hD0.self, va_S.rf⟩
  have hl := lv_entry ([.ref (o 0)] : List Value) (n := 3) (Nat.le_of_ble_eq_true rfl)
  rw [lg_entry_eq]
  exact k_I_settle_0 X Z hl hf
/-! I_makeStep -/
theorem d_I_makeStep_0 : decode b_I_makeStep 0 = .ok (.aload_n 0, 1) := by decide +kernel
theorem d_I_makeStep_1 : decode b_I_makeStep 1 = .ok (.invokevirtual 90, 3) := by decide +kernel
theorem d_I_makeStep_4 : decode b_I_makeStep 4 = .ok (.istore_n 1, 1) := by decide +kernel
theorem d_I_makeStep_5 : decode b_I_makeStep 5 = .ok (.iload_n 1, 1) := by decide +kernel
theorem d_I_makeStep_6 : decode b_I_makeStep 6 = .ok (.iconst (-1), 1) := by decide +kernel
theorem d_I_makeStep_7 : decode b_I_makeStep 7 = .ok (.if_icmp .ne 5, 3) := by decide +kernel
theorem d_I_makeStep_10 : decode b_I_makeStep 10 = .ok (.iconst 0, 1) := by decide +kernel
theorem d_I_makeStep_11 : decode b_I_makeStep 11 = .ok (.ireturn, 1) := by decide +kernel
theorem d_I_makeStep_12 : decode b_I_makeStep 12 = .ok (.aload_n 0, 1) := by decide +kernel
theorem d_I_makeStep_13 : decode b_I_makeStep 13 = .ok (.getfield 9, 3) := by decide +kernel
theorem d_I_makeStep_16 : decode b_I_makeStep 16 = .ok (.iload_n 1, 1) := by decide +kernel
theorem d_I_makeStep_17 : decode b_I_makeStep 17 = .ok (.iaload, 1) := by decide +kernel
theorem d_I_makeStep_18 : decode b_I_makeStep 18 = .ok (.iconst 4, 1) := by decide +kernel
theorem d_I_makeStep_19 : decode b_I_makeStep 19 = .ok (.if_icmp .ne 11, 3) := by decide +kernel
theorem d_I_makeStep_22 : decode b_I_makeStep 22 = .ok (.aload_n 0, 1) := by decide +kernel
theorem d_I_makeStep_23 : decode b_I_makeStep 23 = .ok (.iload_n 1, 1) := by decide +kernel
theorem d_I_makeStep_24 : decode b_I_makeStep 24 = .ok (.invokevirtual 93, 3) := by decide +kernel
theorem d_I_makeStep_27 : decode b_I_makeStep 27 = .ok (.goto 45, 3) := by decide +kernel
theorem d_I_makeStep_30 : decode b_I_makeStep 30 = .ok (.aload_n 0, 1) := by decide +kernel
theorem d_I_makeStep_31 : decode b_I_makeStep 31 = .ok (.getfield 9, 3) := by decide +kernel
theorem d_I_makeStep_34 : decode b_I_makeStep 34 = .ok (.iload_n 1, 1) := by decide +kernel
theorem d_I_makeStep_35 : decode b_I_makeStep 35 = .ok (.iaload, 1) := by decide +kernel
theorem d_I_makeStep_36 : decode b_I_makeStep 36 = .ok (.iconst 1, 1) := by decide +kernel
theorem d_I_makeStep_37 : decode b_I_makeStep 37 = .ok (.if_icmp .eq 11, 3) := by decide +kernel
theorem d_I_makeStep_40 : decode b_I_makeStep 40 = .ok (.aload_n 0, 1) := by decide +kernel
theorem d_I_makeStep_41 : decode b_I_makeStep 41 = .ok (.iload_n 1, 1) := by decide +kernel
theorem d_I_makeStep_42 : decode b_I_makeStep 42 = .ok (.invokevirtual 97, 3) := by decide +kernel
theorem d_I_makeStep_45 : decode b_I_makeStep 45 = .ok (.goto 27, 3) := by decide +kernel
theorem d_I_makeStep_48 : decode b_I_makeStep 48 = .ok (.aload_n 0, 1) := by decide +kernel
theorem d_I_makeStep_49 : decode b_I_makeStep 49 = .ok (.getfield 57, 3) := by decide +kernel
theorem d_I_makeStep_52 : decode b_I_makeStep 52 = .ok (.iload_n 1, 1) := by decide +kernel
theorem d_I_makeStep_53 : decode b_I_makeStep 53 = .ok (.invokevirtual 100, 3) := by decide +kernel
theorem d_I_makeStep_56 : decode b_I_makeStep 56 = .ok (.ifCond .eq 11, 3) := by decide +kernel
theorem d_I_makeStep_59 : decode b_I_makeStep 59 = .ok (.aload_n 0, 1) := by decide +kernel
theorem d_I_makeStep_60 : decode b_I_makeStep 60 = .ok (.iload_n 1, 1) := by decide +kernel
theorem d_I_makeStep_61 : decode b_I_makeStep 61 = .ok (.invokevirtual 103, 3) := by decide +kernel
theorem d_I_makeStep_64 : decode b_I_makeStep 64 = .ok (.goto 8, 3) := by decide +kernel
theorem d_I_makeStep_67 : decode b_I_makeStep 67 = .ok (.aload_n 0, 1) := by decide +kernel
theorem d_I_makeStep_68 : decode b_I_makeStep 68 = .ok (.iload_n 1, 1) := by decide +kernel
theorem d_I_makeStep_69 : decode b_I_makeStep 69 = .ok (.invokevirtual 106, 3) := by decide +kernel
theorem d_I_makeStep_72 : decode b_I_makeStep 72 = .ok (.aload_n 0, 1) := by decide +kernel
theorem d_I_makeStep_73 : decode b_I_makeStep 73 = .ok (.invokevirtual 109, 3) := by decide +kernel
theorem d_I_makeStep_76 : decode b_I_makeStep 76 = .ok (.iconst 1, 1) := by decide +kernel
theorem d_I_makeStep_77 : decode b_I_makeStep 77 = .ok (.ireturn, 1) := by decide +kernel
section
variable {p : Program} {l : Launch} {e : Env} {s : State} {m : MethodId} {args : Array Value} {below : List Frame} {meth : Method} {c : Code} {H : Heap} {locs : List Loc} {ls : Array Slot} {D : va_G} {A : Nat → Prop} {h o : Nat → Nat} {t v : Nat → ClassId}
def f_I_makeStep_72 (p0 : St) (i0 : St) : Option (Int32 × St) :=
  (f_I_settle p0 i0).bind fun i_15 =>
  some (1, i_15)
set_option maxHeartbeats 4000000 in
set_option maxRecDepth 100000 in
theorem k_I_makeStep_72 {p0 : St} {i0 : St} {r : Int32} {i' : St} (X : sr_X D (tI t v) b_I_makeStep 2 R_I w_I_makeStep p s m args meth c A (some .boolean)) (Z : sr_Z D A s.heap (wI h t o v p0 i0) H locs) (hl : lv_has ls 2 [(0, .ref (o 0))]) (hf : f_I_makeStep_72 p0 i0 = some (r, i')) : W p l e (sr_rm 5 116) s m args below meth c H locs 0 0 (sr_Qi D (tI t v) below args s A (wI h t o v p0 i') r) (F0 m 72 ls []) := by
  have hx := X.1
  have hb := X.2.1
  have hK := X.2.2.2.2.2.2.1
  unfold f_I_makeStep_72 at hf
  refine lv_aload_n hx hb d_I_makeStep_72 rfl (lv_at hl 0 rfl) ?_
  obtain ⟨i_15, e_16, hf⟩ := sr_b hf
  refine sr_cVv (As := []) (rest := []) X Z sr_cut_self hK (c_I_settle e_16) (cw_I_109 X.2.2.2.2.2.1 (by decide)) 15 rfl rfl rfl hl rfl (Nat.le_of_ble_eq_true rfl) d_I_makeStep_73 (fun H locs Z => ?_)
  refine lv_iconst (v := 1) hx hb d_I_makeStep_76 (by decide) ?_
  cases hf
  exact sr_retz X Z (by decide) d_I_makeStep_77
def f_I_makeStep (p0 : St) (i0 : St) : Option (Int32 × St) :=
  (f_I_nextToStep p0 i0).bind fun v_1 =>
  if v_1 = (-1) then
    some (0, i0)
  else
    (sr_ald 24 (i0 4) v_1).bind fun v_4 =>
    if v_4 = 4 then
      (f_I_loop p0 v_1 i0).bind fun i_21 =>
      f_I_makeStep_72 p0 i_21
    else
      (sr_ald 24 (i0 4) v_1).bind fun v_7 =>
      if v_7 = 1 then
        (f_L_joinHoldsAt p0 i0 v_1).bind fun v_10 =>
        if v_10 = 0 then
          (f_I_missJoin p0 v_1 i0).bind fun i_13 =>
          f_I_makeStep_72 p0 i_13
        else
          (f_I_begin p0 v_1 i0).bind fun i_17 =>
          f_I_makeStep_72 p0 i_17
      else
        (f_I_undoLatest p0 v_1 i0).bind fun i_19 =>
        f_I_makeStep_72 p0 i_19
set_option maxHeartbeats 4000000 in
set_option maxRecDepth 100000 in
theorem k_I_makeStep_0 {p0 : St} {i0 : St} {r : Int32} {i' : St} (X : sr_X D (tI t v) b_I_makeStep 2 R_I w_I_makeStep p s m args meth c A (some .boolean)) (Z : sr_Z D A s.heap (wI h t o v p0 i0) H locs) (hl : lv_has ls 2 [(0, .ref (o 0))]) (hf : f_I_makeStep p0 i0 = some (r, i')) : W p l e (sr_rm 5 116) s m args below meth c H locs 0 0 (sr_Qi D (tI t v) below args s A (wI h t o v p0 i') r) (F0 m 0 ls []) := by
  have hx := X.1
  have hb := X.2.1
  have hK := X.2.2.2.2.2.2.1
  unfold f_I_makeStep at hf
  refine lv_aload_n hx hb d_I_makeStep_0 rfl (lv_at hl 0 rfl) ?_
  obtain ⟨v_1, e_2, hf⟩ := sr_b hf
  refine sr_cVi (As := []) (rest := []) X Z sr_cut_self hK (c_I_nextToStep e_2) (cw_I_90 X.2.2.2.2.2.1 (by decide)) 15 rfl rfl rfl hl rfl (Nat.le_of_ble_eq_true rfl) d_I_makeStep_1 (fun H locs Z => ?_)
  refine lv_istore_n (lv' := [(1, .int v_1), (0, .ref (o 0))]) hx hb d_I_makeStep_4 rfl hl (by decide) rfl (fun ls hl => ?_)
  refine lv_iload_n hx hb d_I_makeStep_5 rfl (lv_at hl 0 rfl) ?_
  refine lv_iconst (v := -1) hx hb d_I_makeStep_6 (by decide) ?_
  refine lv_icmp_ne (tgt := 12) hx hb d_I_makeStep_7 rfl (fun q_3 => ?_) (fun q_3 => ?_)
  · have hf := sr_if q_3 hf
    refine lv_aload_n hx hb d_I_makeStep_12 rfl (lv_at hl 1 rfl) ?_
    refine g_I_9_I X Z d_I_makeStep_13 ?_
    refine lv_iload_n hx hb d_I_makeStep_16 rfl (lv_at hl 0 rfl) ?_
    obtain ⟨v_4, e_5, hf⟩ := sr_b hf
    refine sr_iald hx hb hK Z 20 14 rfl rfl e_5 d_I_makeStep_17 ?_
    refine lv_iconst (v := 4) hx hb d_I_makeStep_18 (by decide) ?_
    refine lv_icmp_ne (tgt := 30) hx hb d_I_makeStep_19 rfl (fun q_6 => ?_) (fun q_6 => ?_)
    · have hf := sr_if q_6 hf
      refine lv_aload_n hx hb d_I_makeStep_30 rfl (lv_at hl 1 rfl) ?_
      refine g_I_9_I X Z d_I_makeStep_31 ?_
      refine lv_iload_n hx hb d_I_makeStep_34 rfl (lv_at hl 0 rfl) ?_
      obtain ⟨v_7, e_8, hf⟩ := sr_b hf
      refine sr_iald hx hb hK Z 20 14 rfl rfl e_8 d_I_makeStep_35 ?_
      refine lv_iconst (v := 1) hx hb d_I_makeStep_36 (by decide) ?_
      refine lv_icmp_eq (tgt := 48) hx hb d_I_makeStep_37 rfl (fun q_9 => ?_) (fun q_9 => ?_)
      · have hf := sr_it q_9 hf
        refine lv_aload_n hx hb d_I_makeStep_48 rfl (lv_at hl 1 rfl) ?_
        refine g_I_57_I X Z d_I_makeStep_49 ?_
        refine lv_iload_n hx hb d_I_makeStep_52 rfl (lv_at hl 0 rfl) ?_
        obtain ⟨v_10, e_11, hf⟩ := sr_b hf
        refine sr_cVi (As := [.int v_1]) (rest := []) X Z sr_cut_self hK (c_L_joinHoldsAt e_11) (cw_I_100 X.2.2.2.2.2.1 (by decide)) 17 rfl rfl rfl hl rfl (Nat.le_of_ble_eq_true rfl) d_I_makeStep_53 (fun H locs Z => ?_)
        refine lv_if_eq (tgt := 67) hx hb d_I_makeStep_56 rfl (fun q_12 => ?_) (fun q_12 => ?_)
        · have hf := sr_it q_12 hf
          refine lv_aload_n hx hb d_I_makeStep_67 rfl (lv_at hl 1 rfl) ?_
          refine lv_iload_n hx hb d_I_makeStep_68 rfl (lv_at hl 0 rfl) ?_
          obtain ⟨i_13, e_14, hf⟩ := sr_b hf
          refine sr_cVv (As := [.int v_1]) (rest := []) X Z sr_cut_self hK (c_I_missJoin e_14) (cw_I_106 X.2.2.2.2.2.1 (by decide)) 15 rfl rfl rfl hl rfl (Nat.le_of_ble_eq_true rfl) d_I_makeStep_69 (fun H locs Z => ?_)
          exact k_I_makeStep_72 X Z (lv_sub hl [1] rfl) hf
        · have hf := sr_if q_12 hf
          refine lv_aload_n hx hb d_I_makeStep_59 rfl (lv_at hl 1 rfl) ?_
          refine lv_iload_n hx hb d_I_makeStep_60 rfl (lv_at hl 0 rfl) ?_
          obtain ⟨i_17, e_18, hf⟩ := sr_b hf
          refine sr_cVv (As := [.int v_1]) (rest := []) X Z sr_cut_self hK (c_I_begin e_18) (cw_I_103 X.2.2.2.2.2.1 (by decide)) 15 rfl rfl rfl hl rfl (Nat.le_of_ble_eq_true rfl) d_I_makeStep_61 (fun H locs Z => ?_)
          refine lv_goto (tgt := 72) hx hb d_I_makeStep_64 rfl ?_
          exact k_I_makeStep_72 X Z (lv_sub hl [1] rfl) hf
      · have hf := sr_if q_9 hf
        refine lv_aload_n hx hb d_I_makeStep_40 rfl (lv_at hl 1 rfl) ?_
        refine lv_iload_n hx hb d_I_makeStep_41 rfl (lv_at hl 0 rfl) ?_
        obtain ⟨i_19, e_20, hf⟩ := sr_b hf
        refine sr_cVv (As := [.int v_1]) (rest := []) X Z sr_cut_self hK (c_I_undoLatest e_20) (cw_I_97 X.2.2.2.2.2.1 (by decide)) 15 rfl rfl rfl hl rfl (Nat.le_of_ble_eq_true rfl) d_I_makeStep_42 (fun H locs Z => ?_)
        refine lv_goto (tgt := 72) hx hb d_I_makeStep_45 rfl ?_
        exact k_I_makeStep_72 X Z (lv_sub hl [1] rfl) hf
    · have hf := sr_it q_6 hf
      refine lv_aload_n hx hb d_I_makeStep_22 rfl (lv_at hl 1 rfl) ?_
      refine lv_iload_n hx hb d_I_makeStep_23 rfl (lv_at hl 0 rfl) ?_
      obtain ⟨i_21, e_22, hf⟩ := sr_b hf
      refine sr_cVv (As := [.int v_1]) (rest := []) X Z sr_cut_self hK (c_I_loop e_22) (cw_I_93 X.2.2.2.2.2.1 (by decide)) 15 rfl rfl rfl hl rfl (Nat.le_of_ble_eq_true rfl) d_I_makeStep_24 (fun H locs Z => ?_)
      refine lv_goto (tgt := 72) hx hb d_I_makeStep_27 rfl ?_
      exact k_I_makeStep_72 X Z (lv_sub hl [1] rfl) hf
  · have hf := sr_it q_3 hf
    refine lv_iconst (v := 0) hx hb d_I_makeStep_10 (by decide) ?_
    cases hf
    exact sr_retz X Z (by decide) d_I_makeStep_11
end
set_option maxHeartbeats 4000000 in
set_option maxRecDepth 100000 in
theorem c_I_makeStep {l : Launch} {D : va_G} {h : Nat → Nat} {t : Nat → ClassId} {o : Nat → Nat} {v : Nat → ClassId} {sz : Nat} {p0 : St} {i0 : St} {r : Int32} {i' : St} (hf : f_I_makeStep p0 i0 = some (r, i')) : sr_Ci l y_I_makeStep w_I_makeStep (sr_rm 5 116) D (tI t v) (wI h t o v p0 i0) (wI h t o v p0 i') sz [.ref (o 0)] r := by
  refine Met.ofW (cc := b_I_makeStep) (maxL := 2) (ret := (some .boolean)) (by decide) rfl ?_
  intro p e s m args below meth c s₁ B hml hv
  obtain ⟨rfl, hsz, hP, hK, hD0⟩ := hv
  subst hsz
  have X : sr_X D (tI t v) b_I_makeStep 2 R_I w_I_makeStep p s m _ meth c (va_A (wI h t o v p0 i0) s.heap.size) (some .boolean) := ⟨B.exec, B.bytes, hml, findClass_of_methodNamed B.named, B.notSynchronized, atoms_spec (ws := w_I_makeStep) B.pre, hK, fun q h => Or.inr h, B.returns⟩
  have Z : sr_Z D (va_A (wI h t o v p0 i0) s.heap.size) s.heap (wI h t o v p0 i0) s.heap [] := ⟨hP, hD0.self, va_S.rf⟩
  have hl := lv_entry ([.ref (o 0)] : List Value) (n := 2) (Nat.le_of_ble_eq_true rfl)
  rw [lg_entry_eq]
  exact k_I_makeStep_0 X Z hl hf
