theorem d_M_workOut_0 : decode me_M_workOut.2.1 0 = .ok (.aload_n 0, 1) := by decide +kernel
theorem d_M_workOut_1 : decode me_M_workOut.2.1 1 = .ok (.iload_n 1, 1) := by decide +kernel
theorem d_M_workOut_2 : decode me_M_workOut.2.1 2 = .ok (.putfield 166, 3) := by decide +kernel
theorem d_M_workOut_5 : decode me_M_workOut.2.1 5 = .ok (.aload_n 0, 1) := by decide +kernel
theorem d_M_workOut_6 : decode me_M_workOut.2.1 6 = .ok (.iconst 0, 1) := by decide +kernel
theorem d_M_workOut_7 : decode me_M_workOut.2.1 7 = .ok (.putfield 160, 3) := by decide +kernel
theorem d_M_workOut_10 : decode me_M_workOut.2.1 10 = .ok (.aload_n 0, 1) := by decide +kernel
theorem d_M_workOut_11 : decode me_M_workOut.2.1 11 = .ok (.iload_n 2, 1) := by decide +kernel
theorem d_M_workOut_12 : decode me_M_workOut.2.1 12 = .ok (.putfield 163, 3) := by decide +kernel
theorem d_M_workOut_15 : decode me_M_workOut.2.1 15 = .ok (.aload_n 0, 1) := by decide +kernel
theorem d_M_workOut_16 : decode me_M_workOut.2.1 16 = .ok (.iconst (-1), 1) := by decide +kernel
theorem d_M_workOut_17 : decode me_M_workOut.2.1 17 = .ok (.putfield 169, 3) := by decide +kernel
theorem d_M_workOut_20 : decode me_M_workOut.2.1 20 = .ok (.aload_n 0, 1) := by decide +kernel
theorem d_M_workOut_21 : decode me_M_workOut.2.1 21 = .ok (.iconst 0, 1) := by decide +kernel
theorem d_M_workOut_22 : decode me_M_workOut.2.1 22 = .ok (.putfield 194, 3) := by decide +kernel
theorem d_M_workOut_25 : decode me_M_workOut.2.1 25 = .ok (.iconst 0, 1) := by decide +kernel
theorem d_M_workOut_26 : decode me_M_workOut.2.1 26 = .ok (.istore_n 3, 1) := by decide +kernel
theorem d_M_workOut_27 : decode me_M_workOut.2.1 27 = .ok (.iconst 0, 1) := by decide +kernel
theorem d_M_workOut_28 : decode me_M_workOut.2.1 28 = .ok (.istore 4, 2) := by decide +kernel
theorem d_M_workOut_30 : decode me_M_workOut.2.1 30 = .ok (.iconst 1, 1) := by decide +kernel
theorem d_M_workOut_31 : decode me_M_workOut.2.1 31 = .ok (.istore 5, 2) := by decide +kernel
theorem d_M_workOut_33 : decode me_M_workOut.2.1 33 = .ok (.iload 5, 2) := by decide +kernel
theorem d_M_workOut_35 : decode me_M_workOut.2.1 35 = .ok (.ifCond .eq 72, 3) := by decide +kernel
theorem d_M_workOut_38 : decode me_M_workOut.2.1 38 = .ok (.aload_n 0, 1) := by decide +kernel
theorem d_M_workOut_39 : decode me_M_workOut.2.1 39 = .ok (.invokevirtual 200, 3) := by decide +kernel
theorem d_M_workOut_42 : decode me_M_workOut.2.1 42 = .ok (.istore 6, 2) := by decide +kernel
theorem d_M_workOut_44 : decode me_M_workOut.2.1 44 = .ok (.iconst 1, 1) := by decide +kernel
theorem d_M_workOut_45 : decode me_M_workOut.2.1 45 = .ok (.istore 7, 2) := by decide +kernel
theorem d_M_workOut_47 : decode me_M_workOut.2.1 47 = .ok (.aload_n 0, 1) := by decide +kernel
theorem d_M_workOut_48 : decode me_M_workOut.2.1 48 = .ok (.bipush 63, 2) := by decide +kernel
theorem d_M_workOut_50 : decode me_M_workOut.2.1 50 = .ok (.invokevirtual 179, 3) := by decide +kernel
theorem d_M_workOut_53 : decode me_M_workOut.2.1 53 = .ok (.ifCond .eq 21, 3) := by decide +kernel
theorem d_M_workOut_56 : decode me_M_workOut.2.1 56 = .ok (.iload 6, 2) := by decide +kernel
theorem d_M_workOut_58 : decode me_M_workOut.2.1 58 = .ok (.ifCond .eq 7, 3) := by decide +kernel
theorem d_M_workOut_61 : decode me_M_workOut.2.1 61 = .ok (.iconst 1, 1) := by decide +kernel
theorem d_M_workOut_62 : decode me_M_workOut.2.1 62 = .ok (.goto 4, 3) := by decide +kernel
theorem d_M_workOut_65 : decode me_M_workOut.2.1 65 = .ok (.iconst 0, 1) := by decide +kernel
theorem d_M_workOut_66 : decode me_M_workOut.2.1 66 = .ok (.istore 7, 2) := by decide +kernel
theorem d_M_workOut_68 : decode me_M_workOut.2.1 68 = .ok (.aload_n 0, 1) := by decide +kernel
theorem d_M_workOut_69 : decode me_M_workOut.2.1 69 = .ok (.invokevirtual 200, 3) := by decide +kernel
theorem d_M_workOut_72 : decode me_M_workOut.2.1 72 = .ok (.istore 6, 2) := by decide +kernel
theorem d_M_workOut_74 : decode me_M_workOut.2.1 74 = .ok (.aload_n 0, 1) := by decide +kernel
theorem d_M_workOut_75 : decode me_M_workOut.2.1 75 = .ok (.getfield 169, 3) := by decide +kernel
theorem d_M_workOut_78 : decode me_M_workOut.2.1 78 = .ok (.ifCond .ge 18, 3) := by decide +kernel
theorem d_M_workOut_81 : decode me_M_workOut.2.1 81 = .ok (.iload 7, 2) := by decide +kernel
theorem d_M_workOut_83 : decode me_M_workOut.2.1 83 = .ok (.ifCond .eq 13, 3) := by decide +kernel
theorem d_M_workOut_86 : decode me_M_workOut.2.1 86 = .ok (.iload_n 3, 1) := by decide +kernel
theorem d_M_workOut_87 : decode me_M_workOut.2.1 87 = .ok (.ifCond .ne 9, 3) := by decide +kernel
theorem d_M_workOut_90 : decode me_M_workOut.2.1 90 = .ok (.iconst 1, 1) := by decide +kernel
theorem d_M_workOut_91 : decode me_M_workOut.2.1 91 = .ok (.istore_n 3, 1) := by decide +kernel
theorem d_M_workOut_92 : decode me_M_workOut.2.1 92 = .ok (.iload 6, 2) := by decide +kernel
theorem d_M_workOut_94 : decode me_M_workOut.2.1 94 = .ok (.istore 4, 2) := by decide +kernel
theorem d_M_workOut_96 : decode me_M_workOut.2.1 96 = .ok (.aload_n 0, 1) := by decide +kernel
theorem d_M_workOut_97 : decode me_M_workOut.2.1 97 = .ok (.bipush 59, 2) := by decide +kernel
theorem d_M_workOut_99 : decode me_M_workOut.2.1 99 = .ok (.invokevirtual 179, 3) := by decide +kernel
theorem d_M_workOut_102 : decode me_M_workOut.2.1 102 = .ok (.istore 5, 2) := by decide +kernel
theorem d_M_workOut_104 : decode me_M_workOut.2.1 104 = .ok (.goto (-71), 3) := by decide +kernel
theorem d_M_workOut_107 : decode me_M_workOut.2.1 107 = .ok (.aload_n 0, 1) := by decide +kernel
theorem d_M_workOut_108 : decode me_M_workOut.2.1 108 = .ok (.getfield 169, 3) := by decide +kernel
theorem d_M_workOut_111 : decode me_M_workOut.2.1 111 = .ok (.ifCond .ge 19, 3) := by decide +kernel
theorem d_M_workOut_114 : decode me_M_workOut.2.1 114 = .ok (.aload_n 0, 1) := by decide +kernel
theorem d_M_workOut_115 : decode me_M_workOut.2.1 115 = .ok (.getfield 160, 3) := by decide +kernel
theorem d_M_workOut_118 : decode me_M_workOut.2.1 118 = .ok (.aload_n 0, 1) := by decide +kernel
theorem d_M_workOut_119 : decode me_M_workOut.2.1 119 = .ok (.getfield 163, 3) := by decide +kernel
theorem d_M_workOut_122 : decode me_M_workOut.2.1 122 = .ok (.if_icmp .ge 8, 3) := by decide +kernel
theorem d_M_workOut_125 : decode me_M_workOut.2.1 125 = .ok (.aload_n 0, 1) := by decide +kernel
theorem d_M_workOut_126 : decode me_M_workOut.2.1 126 = .ok (.invokevirtual 197, 3) := by decide +kernel
theorem d_M_workOut_129 : decode me_M_workOut.2.1 129 = .ok (.ireturn, 1) := by decide +kernel
theorem d_M_workOut_130 : decode me_M_workOut.2.1 130 = .ok (.iload 4, 2) := by decide +kernel
theorem d_M_workOut_132 : decode me_M_workOut.2.1 132 = .ok (.ireturn, 1) := by decide +kernel
noncomputable def f_M_workOut_96 (k33 : Int32 → Int32 → Int32 → gk_M → Option (Int32 × gk_M)) (a3 : Int32) (a4 : Int32) (m0 : gk_M) : Option (Int32 × gk_M) :=
  gk_bi (f_M_takes 59 m0) fun v2 m1 =>
  k33 a3 a4 v2 m1

theorem s_M_workOut_96 {z : gk_Z} (K : gk_F tm z me_M_workOut 64) {r : Int32} {mem2 : gk_M} {k33 : Int32 → Int32 → Int32 → gk_M → Option (Int32 × gk_M)} (hk33 : ∀ a3 a4 a5 m0, k33 a3 a4 a5 m0 = some (r, mem2) → gk_G tm z me_M_workOut (gk_R tm z (some (.int r)) mem2) m0 [(0, .ref 0), (3, .int a3), (4, .int a4), (5, .int a5)] [] 33) : ∀ a3 a4 m0, f_M_workOut_96 k33 a3 a4 m0 = some (r, mem2) → gk_G tm z me_M_workOut (gk_R tm z (some (.int r)) mem2) m0 [(0, .ref 0), (3, .int a3), (4, .int a4)] [] 96 := by
  intro a3 a4 m0  h
  unfold f_M_workOut_96 at h
  refine gk_aload_n (pc := 96) K d_M_workOut_96 rfl ?_
  refine gk_bipush (pc := 97) K d_M_workOut_97 kb_59 ?_
  obtain ⟨v2, m1, em1, h⟩ := gk_bi_some h
  refine gk_cVi (As := [.int 59]) (pc := 99) K d_M_workOut_99 mv_M_179 mc_M_takes rfl tm_0 cl_ok10.1 (s_M_takes (gk_FD K)  em1) (by decide) rfl (Nat.le_of_ble_eq_true rfl) ?_
  refine gk_istore (lv2 := [(5, .int v2), (0, .ref 0), (3, .int a3), (4, .int a4)]) (pc := 102) K d_M_workOut_102 (by decide) rfl ?_
  refine gk_goto (tgt := 33) (pc := 104) K d_M_workOut_104 (by decide) ?_
  exact gk_sub [1, 2, 3, 0] rfl (hk33 _ _ _ _  h)
noncomputable def f_M_workOut_74 (k33 : Int32 → Int32 → Int32 → gk_M → Option (Int32 × gk_M)) (a3 : Int32) (a4 : Int32) (a6 : Int32) (a7 : Int32) (m0 : gk_M) : Option (Int32 × gk_M) :=
  if 0 ≤ (m0.1 0 22) then
    f_M_workOut_96 k33 a3 a4 m0
  else
    if a7 = 0 then
      f_M_workOut_96 k33 a3 a4 m0
    else
      if ¬ a3 = 0 then
        f_M_workOut_96 k33 a3 a4 m0
      else
        f_M_workOut_96 k33 1 a6 m0

theorem s_M_workOut_74 {z : gk_Z} (K : gk_F tm z me_M_workOut 64) {r : Int32} {mem2 : gk_M} {k33 : Int32 → Int32 → Int32 → gk_M → Option (Int32 × gk_M)} (hk33 : ∀ a3 a4 a5 m0, k33 a3 a4 a5 m0 = some (r, mem2) → gk_G tm z me_M_workOut (gk_R tm z (some (.int r)) mem2) m0 [(0, .ref 0), (3, .int a3), (4, .int a4), (5, .int a5)] [] 33) : ∀ a3 a4 a6 a7 m0, f_M_workOut_74 k33 a3 a4 a6 a7 m0 = some (r, mem2) → gk_G tm z me_M_workOut (gk_R tm z (some (.int r)) mem2) m0 [(0, .ref 0), (3, .int a3), (4, .int a4), (6, .int a6), (7, .int a7)] [] 74 := by
  intro a3 a4 a6 a7 m0  h
  unfold f_M_workOut_74 at h
  refine gk_aload_n (pc := 74) K d_M_workOut_74 rfl ?_
  refine gk_get (pc := 75) K d_M_workOut_75 fl_M_169 tm_0 rfl rfl ?_
  refine gk_if_ge (tgt := 96) (pc := 78) K d_M_workOut_78 (by decide) h (fun h => ?_) (fun h => ?_)
  · exact gk_sub [0, 1, 2] rfl (s_M_workOut_96 K hk33 _ _ _  h)
  · refine gk_iload (pc := 81) K d_M_workOut_81 rfl ?_
    refine gk_if_eq (tgt := 96) (pc := 83) K d_M_workOut_83 (by decide) h (fun h => ?_) (fun h => ?_)
    · exact gk_sub [0, 1, 2] rfl (s_M_workOut_96 K hk33 _ _ _  h)
    · refine gk_iload_n (pc := 86) K d_M_workOut_86 rfl ?_
      refine gk_if_ne (tgt := 96) (pc := 87) K d_M_workOut_87 (by decide) h (fun h => ?_) (fun h => ?_)
      · exact gk_sub [0, 1, 2] rfl (s_M_workOut_96 K hk33 _ _ _  h)
      · refine gk_iconst (pc := 90) K d_M_workOut_90 kc_1 ?_
        refine gk_istore_n (lv2 := [(3, .int 1), (0, .ref 0), (4, .int a4), (6, .int a6), (7, .int a7)]) (pc := 91) K d_M_workOut_91 (by decide) rfl ?_
        refine gk_iload (pc := 92) K d_M_workOut_92 rfl ?_
        refine gk_istore (lv2 := [(4, .int a6), (3, .int 1), (0, .ref 0), (6, .int a6), (7, .int a7)]) (pc := 94) K d_M_workOut_94 (by decide) rfl ?_
        exact gk_sub [2, 1, 0] rfl (s_M_workOut_96 K hk33 _ _ _  h)
noncomputable def f_M_workOut_66 (k33 : Int32 → Int32 → Int32 → gk_M → Option (Int32 × gk_M)) (a3 : Int32) (a4 : Int32) (s0 : Int32) (m0 : gk_M) : Option (Int32 × gk_M) :=
  gk_bi (f_M_either  m0) fun v2 m1 =>
  f_M_workOut_74 k33 a3 a4 v2 s0 m1

theorem s_M_workOut_66 {z : gk_Z} (K : gk_F tm z me_M_workOut 64) {r : Int32} {mem2 : gk_M} {k33 : Int32 → Int32 → Int32 → gk_M → Option (Int32 × gk_M)} (hk33 : ∀ a3 a4 a5 m0, k33 a3 a4 a5 m0 = some (r, mem2) → gk_G tm z me_M_workOut (gk_R tm z (some (.int r)) mem2) m0 [(0, .ref 0), (3, .int a3), (4, .int a4), (5, .int a5)] [] 33) : ∀ a3 a4 s0 m0, f_M_workOut_66 k33 a3 a4 s0 m0 = some (r, mem2) → gk_G tm z me_M_workOut (gk_R tm z (some (.int r)) mem2) m0 [(0, .ref 0), (3, .int a3), (4, .int a4)] [.int s0] 66 := by
  intro a3 a4 s0 m0  h
  unfold f_M_workOut_66 at h
  refine gk_istore (lv2 := [(7, .int s0), (0, .ref 0), (3, .int a3), (4, .int a4)]) (pc := 66) K d_M_workOut_66 (by decide) rfl ?_
  refine gk_aload_n (pc := 68) K d_M_workOut_68 rfl ?_
  obtain ⟨v2, m1, em1, h⟩ := gk_bi_some h
  refine gk_cVi (As := []) (pc := 69) K d_M_workOut_69 mv_M_200 mc_M_either rfl tm_0 cl_ok10.1 (s_M_either (gk_FD K)  em1) (by decide) rfl (Nat.le_of_ble_eq_true rfl) ?_
  refine gk_istore (lv2 := [(6, .int v2), (7, .int s0), (0, .ref 0), (3, .int a3), (4, .int a4)]) (pc := 72) K d_M_workOut_72 (by decide) rfl ?_
  exact gk_sub [2, 3, 4, 0, 1] rfl (s_M_workOut_74 K hk33 _ _ _ _ _  h)
noncomputable def f_M_workOut_33  : Nat → Int32 → Int32 → Int32 → gk_M → Option (Int32 × gk_M)
  | 0, _, _, _, _ => none
  | n + 1, a3, a4, a5, m0 =>
    if a5 = 0 then
      if 0 ≤ (m0.1 0 22) then
        some (a4, m0)
      else
        if (m0.1 0 21) ≤ (m0.1 0 20) then
          some (a4, m0)
        else
          gk_bi (f_M_wrong  m0) fun v2 m1 =>
          some (v2, m1)
    else
      gk_bi (f_M_either  m0) fun v4 m3 =>
      gk_bi (f_M_takes 63 m3) fun v6 m5 =>
      if v6 = 0 then
        f_M_workOut_74 (f_M_workOut_33 n) a3 a4 v4 1 m5
      else
        if v4 = 0 then
          f_M_workOut_66 (f_M_workOut_33 n) a3 a4 0 m5
        else
          f_M_workOut_66 (f_M_workOut_33 n) a3 a4 1 m5

theorem s_M_workOut_33 {z : gk_Z} (K : gk_F tm z me_M_workOut 64) {r : Int32} {mem2 : gk_M} : ∀ n a3 a4 a5 m0, f_M_workOut_33 n a3 a4 a5 m0 = some (r, mem2) → gk_G tm z me_M_workOut (gk_R tm z (some (.int r)) mem2) m0 [(0, .ref 0), (3, .int a3), (4, .int a4), (5, .int a5)] [] 33 := by
  intro n
  induction n with
  | zero => intro a3 a4 a5 m0  h; exact nomatch (show (none : Option _) = some _ from h)
  | succ n ih =>
    intro a3 a4 a5 m0  h
    unfold f_M_workOut_33 at h
    refine gk_iload (pc := 33) K d_M_workOut_33 rfl ?_
    refine gk_if_eq (tgt := 107) (pc := 35) K d_M_workOut_35 (by decide) h (fun h => ?_) (fun h => ?_)
    · refine gk_aload_n (pc := 107) K d_M_workOut_107 rfl ?_
      refine gk_get (pc := 108) K d_M_workOut_108 fl_M_169 tm_0 rfl rfl ?_
      refine gk_if_ge (tgt := 130) (pc := 111) K d_M_workOut_111 (by decide) h (fun h => ?_) (fun h => ?_)
      · refine gk_iload (pc := 130) K d_M_workOut_130 rfl ?_
        exact gk_iret (pc := 132) K d_M_workOut_132 rfl h
      · refine gk_aload_n (pc := 114) K d_M_workOut_114 rfl ?_
        refine gk_get (pc := 115) K d_M_workOut_115 fl_M_160 tm_0 rfl rfl ?_
        refine gk_aload_n (pc := 118) K d_M_workOut_118 rfl ?_
        refine gk_get (pc := 119) K d_M_workOut_119 fl_M_163 tm_0 rfl rfl ?_
        refine gk_ic_ge (tgt := 130) (pc := 122) K d_M_workOut_122 (by decide) h (fun h => ?_) (fun h => ?_)
        · refine gk_iload (pc := 130) K d_M_workOut_130 rfl ?_
          exact gk_iret (pc := 132) K d_M_workOut_132 rfl h
        · refine gk_aload_n (pc := 125) K d_M_workOut_125 rfl ?_
          obtain ⟨v2, m1, em1, h⟩ := gk_bi_some h
          refine gk_cVi (As := []) (pc := 126) K d_M_workOut_126 mv_M_197 mc_M_wrong rfl tm_0 cl_ok10.1 (s_M_wrong (gk_FD K)  em1) (by decide) rfl (Nat.le_of_ble_eq_true rfl) ?_
          exact gk_iret (pc := 129) K d_M_workOut_129 rfl h
    · refine gk_aload_n (pc := 38) K d_M_workOut_38 rfl ?_
      obtain ⟨v4, m3, em3, h⟩ := gk_bi_some h
      refine gk_cVi (As := []) (pc := 39) K d_M_workOut_39 mv_M_200 mc_M_either rfl tm_0 cl_ok10.1 (s_M_either (gk_FD K)  em3) (by decide) rfl (Nat.le_of_ble_eq_true rfl) ?_
      refine gk_istore (lv2 := [(6, .int v4), (0, .ref 0), (3, .int a3), (4, .int a4), (5, .int a5)]) (pc := 42) K d_M_workOut_42 (by decide) rfl ?_
      refine gk_iconst (pc := 44) K d_M_workOut_44 kc_1 ?_
      refine gk_istore (lv2 := [(7, .int 1), (6, .int v4), (0, .ref 0), (3, .int a3), (4, .int a4), (5, .int a5)]) (pc := 45) K d_M_workOut_45 (by decide) rfl ?_
      refine gk_aload_n (pc := 47) K d_M_workOut_47 rfl ?_
      refine gk_bipush (pc := 48) K d_M_workOut_48 kb_63 ?_
      obtain ⟨v6, m5, em5, h⟩ := gk_bi_some h
      refine gk_cVi (As := [.int 63]) (pc := 50) K d_M_workOut_50 mv_M_179 mc_M_takes rfl tm_0 cl_ok10.1 (s_M_takes (gk_FD K)  em5) (by decide) rfl (Nat.le_of_ble_eq_true rfl) ?_
      refine gk_if_eq (tgt := 74) (pc := 53) K d_M_workOut_53 (by decide) h (fun h => ?_) (fun h => ?_)
      · exact gk_sub [2, 3, 4, 1, 0] rfl (s_M_workOut_74 K (fun x0 x1 x2 m  h => ih x0 x1 x2 m  h) _ _ _ _ _  h)
      · refine gk_iload (pc := 56) K d_M_workOut_56 rfl ?_
        refine gk_if_eq (tgt := 65) (pc := 58) K d_M_workOut_58 (by decide) h (fun h => ?_) (fun h => ?_)
        · refine gk_iconst (pc := 65) K d_M_workOut_65 kc_0 ?_
          exact gk_sub [2, 3, 4] rfl (s_M_workOut_66 K (fun x0 x1 x2 m  h => ih x0 x1 x2 m  h) _ _ _ _  h)
        · refine gk_iconst (pc := 61) K d_M_workOut_61 kc_1 ?_
          refine gk_goto (tgt := 66) (pc := 62) K d_M_workOut_62 (by decide) ?_
          exact gk_sub [2, 3, 4] rfl (s_M_workOut_66 K (fun x0 x1 x2 m  h => ih x0 x1 x2 m  h) _ _ _ _  h)
noncomputable def f_M_workOut  (a1 : Int32) (a2 : Int32) (m0 : gk_M) : Option (Int32 × gk_M) :=
  gk_let (gk_mi m0 0 19 a1) fun m1 =>
  gk_let (gk_mi m1 0 20 0) fun m2 =>
  gk_let (gk_mi m2 0 21 a2) fun m3 =>
  gk_let (gk_mi m3 0 22 (-1)) fun m4 =>
  gk_let (gk_mi m4 0 23 0) fun m5 =>
  f_M_workOut_33 gk_fv 0 0 1 m5

theorem s_M_workOut_0 {z : gk_Z} (K : gk_F tm z me_M_workOut 64) {r : Int32} {mem2 : gk_M} : ∀ a1 a2 m0, f_M_workOut a1 a2 m0 = some (r, mem2) → gk_G tm z me_M_workOut (gk_R tm z (some (.int r)) mem2) m0 [(0, .ref 0), (1, .int a1), (2, .int a2)] [] 0 := by
  intro a1 a2 m0  h
  unfold f_M_workOut at h
  refine gk_aload_n (pc := 0) K d_M_workOut_0 rfl ?_
  refine gk_iload_n (pc := 1) K d_M_workOut_1 rfl ?_
  refine gk_puti (pc := 2) K d_M_workOut_2 fp_M_166 tm_0 rfl h (fun m1 h => ?_)
  refine gk_aload_n (pc := 5) K d_M_workOut_5 rfl ?_
  refine gk_iconst (pc := 6) K d_M_workOut_6 kc_0 ?_
  refine gk_puti (pc := 7) K d_M_workOut_7 fp_M_160 tm_0 rfl h (fun m2 h => ?_)
  refine gk_aload_n (pc := 10) K d_M_workOut_10 rfl ?_
  refine gk_iload_n (pc := 11) K d_M_workOut_11 rfl ?_
  refine gk_puti (pc := 12) K d_M_workOut_12 fp_M_163 tm_0 rfl h (fun m3 h => ?_)
  refine gk_aload_n (pc := 15) K d_M_workOut_15 rfl ?_
  refine gk_iconst (pc := 16) K d_M_workOut_16 kc_m1 ?_
  refine gk_puti (pc := 17) K d_M_workOut_17 fp_M_169 tm_0 rfl h (fun m4 h => ?_)
  refine gk_aload_n (pc := 20) K d_M_workOut_20 rfl ?_
  refine gk_iconst (pc := 21) K d_M_workOut_21 kc_0 ?_
  refine gk_puti (pc := 22) K d_M_workOut_22 fp_M_194 tm_0 rfl h (fun m5 h => ?_)
  refine gk_iconst (pc := 25) K d_M_workOut_25 kc_0 ?_
  refine gk_istore_n (lv2 := [(3, .int 0), (0, .ref 0), (1, .int a1), (2, .int a2)]) (pc := 26) K d_M_workOut_26 (by decide) rfl ?_
  refine gk_iconst (pc := 27) K d_M_workOut_27 kc_0 ?_
  refine gk_istore (lv2 := [(4, .int 0), (3, .int 0), (0, .ref 0), (1, .int a1), (2, .int a2)]) (pc := 28) K d_M_workOut_28 (by decide) rfl ?_
  refine gk_iconst (pc := 30) K d_M_workOut_30 kc_1 ?_
  refine gk_istore (lv2 := [(5, .int 1), (4, .int 0), (3, .int 0), (0, .ref 0), (1, .int a1), (2, .int a2)]) (pc := 31) K d_M_workOut_31 (by decide) rfl ?_
  exact gk_sub [3, 2, 1, 0] rfl (s_M_workOut_33 K _ _ _ _ _  h)
theorem s_M_workOut {l : Launch} {u : gk_U} (hD : gk_D tm u) {a1 : Int32} {a2 : Int32} {m0 mem2 : gk_M} {r : Int32} (h : f_M_workOut a1 a2 m0 = some (r, mem2)) : gk_C tm l u me_M_workOut 64 [.ref 0, .int a1, .int a2] m0 (some (.int r)) mem2 :=
  gk_enter hD mc_M_workOut (Nat.le_of_ble_eq_true rfl) rfl (fun z _ _ K => s_M_workOut_0 K _ _ _  h)
theorem d_M_law_0 : decode me_M_law.2.1 0 = .ok (.aload_n 0, 1) := by decide +kernel
theorem d_M_law_1 : decode me_M_law.2.1 1 = .ok (.iconst (-1), 1) := by decide +kernel
theorem d_M_law_2 : decode me_M_law.2.1 2 = .ok (.aload_n 0, 1) := by decide +kernel
theorem d_M_law_3 : decode me_M_law.2.1 3 = .ok (.getfield 157, 3) := by decide +kernel
theorem d_M_law_6 : decode me_M_law.2.1 6 = .ok (.invokevirtual 207, 3) := by decide +kernel
theorem d_M_law_9 : decode me_M_law.2.1 9 = .ok (.istore_n 1, 1) := by decide +kernel
theorem d_M_law_10 : decode me_M_law.2.1 10 = .ok (.aload_n 0, 1) := by decide +kernel
theorem d_M_law_11 : decode me_M_law.2.1 11 = .ok (.getfield 157, 3) := by decide +kernel
theorem d_M_law_14 : decode me_M_law.2.1 14 = .ok (.istore_n 2, 1) := by decide +kernel
theorem d_M_law_15 : decode me_M_law.2.1 15 = .ok (.aload_n 0, 1) := by decide +kernel
theorem d_M_law_16 : decode me_M_law.2.1 16 = .ok (.iconst 0, 1) := by decide +kernel
theorem d_M_law_17 : decode me_M_law.2.1 17 = .ok (.putfield 157, 3) := by decide +kernel
theorem d_M_law_20 : decode me_M_law.2.1 20 = .ok (.aload_n 0, 1) := by decide +kernel
theorem d_M_law_21 : decode me_M_law.2.1 21 = .ok (.getfield 169, 3) := by decide +kernel
theorem d_M_law_24 : decode me_M_law.2.1 24 = .ok (.ifCond .lt 11, 3) := by decide +kernel
theorem d_M_law_27 : decode me_M_law.2.1 27 = .ok (.bipush (-100), 2) := by decide +kernel
theorem d_M_law_29 : decode me_M_law.2.1 29 = .ok (.aload_n 0, 1) := by decide +kernel
theorem d_M_law_30 : decode me_M_law.2.1 30 = .ok (.getfield 169, 3) := by decide +kernel
theorem d_M_law_33 : decode me_M_law.2.1 33 = .ok (.isub, 1) := by decide +kernel
theorem d_M_law_34 : decode me_M_law.2.1 34 = .ok (.ireturn, 1) := by decide +kernel
theorem d_M_law_35 : decode me_M_law.2.1 35 = .ok (.iconst 0, 1) := by decide +kernel
theorem d_M_law_36 : decode me_M_law.2.1 36 = .ok (.istore_n 3, 1) := by decide +kernel
theorem d_M_law_37 : decode me_M_law.2.1 37 = .ok (.iload_n 3, 1) := by decide +kernel
theorem d_M_law_38 : decode me_M_law.2.1 38 = .ok (.iload_n 2, 1) := by decide +kernel
theorem d_M_law_39 : decode me_M_law.2.1 39 = .ok (.if_icmp .ge 21, 3) := by decide +kernel
theorem d_M_law_42 : decode me_M_law.2.1 42 = .ok (.aload_n 0, 1) := by decide +kernel
theorem d_M_law_43 : decode me_M_law.2.1 43 = .ok (.getfield 43, 3) := by decide +kernel
theorem d_M_law_46 : decode me_M_law.2.1 46 = .ok (.iload_n 3, 1) := by decide +kernel
theorem d_M_law_47 : decode me_M_law.2.1 47 = .ok (.aload_n 0, 1) := by decide +kernel
theorem d_M_law_48 : decode me_M_law.2.1 48 = .ok (.getfield 40, 3) := by decide +kernel
theorem d_M_law_51 : decode me_M_law.2.1 51 = .ok (.iload_n 3, 1) := by decide +kernel
theorem d_M_law_52 : decode me_M_law.2.1 52 = .ok (.iaload, 1) := by decide +kernel
theorem d_M_law_53 : decode me_M_law.2.1 53 = .ok (.iastore, 1) := by decide +kernel
theorem d_M_law_54 : decode me_M_law.2.1 54 = .ok (.iinc 3 1, 3) := by decide +kernel
theorem d_M_law_57 : decode me_M_law.2.1 57 = .ok (.goto (-20), 3) := by decide +kernel
theorem d_M_law_60 : decode me_M_law.2.1 60 = .ok (.aload_n 0, 1) := by decide +kernel
theorem d_M_law_61 : decode me_M_law.2.1 61 = .ok (.iload_n 2, 1) := by decide +kernel
theorem d_M_law_62 : decode me_M_law.2.1 62 = .ok (.putfield 90, 3) := by decide +kernel
theorem d_M_law_65 : decode me_M_law.2.1 65 = .ok (.iconst 1, 1) := by decide +kernel
theorem d_M_law_66 : decode me_M_law.2.1 66 = .ok (.ireturn, 1) := by decide +kernel
noncomputable def f_M_law_37  : Nat → Int32 → Int32 → gk_M → Option (Int32 × gk_M)
  | 0, _, _, _ => none
  | n + 1, a2, a3, m0 =>
    if a2 ≤ a3 then
      gk_let (gk_mi m0 0 18 a2) fun m1 =>
      some (1, m1)
    else
      gk_ai m0 11 120 a3 fun v2 =>
      gk_si m0 12 120 a3 v2 fun m3 =>
      f_M_law_37 n a2 (a3 + 1) m3

theorem s_M_law_37 {z : gk_Z} (K : gk_F tm z me_M_law 65) {r : Int32} {mem2 : gk_M} : ∀ n a2 a3 m0, f_M_law_37 n a2 a3 m0 = some (r, mem2) → gk_G tm z me_M_law (gk_R tm z (some (.int r)) mem2) m0 [(0, .ref 0), (2, .int a2), (3, .int a3)] [] 37 := by
  intro n
  induction n with
  | zero => intro a2 a3 m0  h; exact nomatch (show (none : Option _) = some _ from h)
  | succ n ih =>
    intro a2 a3 m0  h
    unfold f_M_law_37 at h
    refine gk_iload_n (pc := 37) K d_M_law_37 rfl ?_
    refine gk_iload_n (pc := 38) K d_M_law_38 rfl ?_
    refine gk_ic_ge (tgt := 60) (pc := 39) K d_M_law_39 (by decide) h (fun h => ?_) (fun h => ?_)
    · refine gk_aload_n (pc := 60) K d_M_law_60 rfl ?_
      refine gk_iload_n (pc := 61) K d_M_law_61 rfl ?_
      refine gk_puti (pc := 62) K d_M_law_62 fp_M_90 tm_0 rfl h (fun m1 h => ?_)
      refine gk_iconst (pc := 65) K d_M_law_65 kc_1 ?_
      exact gk_iret (pc := 66) K d_M_law_66 rfl h
    · refine gk_aload_n (pc := 42) K d_M_law_42 rfl ?_
      refine gk_get (pc := 43) K d_M_law_43 fl_M_43 tm_0 rfl rfl ?_
      refine gk_iload_n (pc := 46) K d_M_law_46 rfl ?_
      refine gk_aload_n (pc := 47) K d_M_law_47 rfl ?_
      refine gk_get (pc := 48) K d_M_law_48 fl_M_40 tm_0 rfl rfl ?_
      refine gk_iload_n (pc := 51) K d_M_law_51 rfl ?_
      refine gk_iald (pc := 52) K d_M_law_52 tm_11 h (fun v2 h => ?_)
      refine gk_iast (pc := 53) K d_M_law_53 tm_12 h (fun m3 h => ?_)
      refine gk_iinc2 (lv2 := [(3, .int (a3 + 1)), (0, .ref 0), (2, .int a2)]) (pc := 54) K d_M_law_54 rfl kc_1 (by decide) rfl ?_
      refine gk_goto (tgt := 37) (pc := 57) K d_M_law_57 (by decide) ?_
      exact gk_sub [1, 2, 0] rfl (ih _ _ _  h)
noncomputable def f_M_law   (m0 : gk_M) : Option (Int32 × gk_M) :=
  gk_bi (f_M_workOut (-1) (m0.1 0 16) m0) fun v2 m1 =>
  gk_let (m1.1 0 16) fun v3 =>
  gk_let (gk_mi m1 0 16 0) fun m4 =>
  if (m4.1 0 22) < 0 then
    f_M_law_37 gk_fv v3 0 m4
  else
    some (((-100) - (m4.1 0 22)), m4)

theorem s_M_law_0 {z : gk_Z} (K : gk_F tm z me_M_law 65) {r : Int32} {mem2 : gk_M} : ∀  m0, f_M_law  m0 = some (r, mem2) → gk_G tm z me_M_law (gk_R tm z (some (.int r)) mem2) m0 [(0, .ref 0)] [] 0 := by
  intro  m0  h
  unfold f_M_law at h
  refine gk_aload_n (pc := 0) K d_M_law_0 rfl ?_
  refine gk_iconst (pc := 1) K d_M_law_1 kc_m1 ?_
  refine gk_aload_n (pc := 2) K d_M_law_2 rfl ?_
  refine gk_get (pc := 3) K d_M_law_3 fl_M_157 tm_0 rfl rfl ?_
  obtain ⟨v2, m1, em1, h⟩ := gk_bi_some h
  refine gk_cVi (As := [.int (-1), .int (m0.1 0 16)]) (pc := 6) K d_M_law_6 mv_M_207 mc_M_workOut rfl tm_0 cl_ok10.1 (s_M_workOut (gk_FD K)  em1) (by decide) rfl (Nat.le_of_ble_eq_true rfl) ?_
  refine gk_istore_n (lv2 := [(1, .int v2), (0, .ref 0)]) (pc := 9) K d_M_law_9 (by decide) rfl ?_
  refine gk_aload_n (pc := 10) K d_M_law_10 rfl ?_
  refine gk_get (pc := 11) K d_M_law_11 fl_M_157 tm_0 rfl rfl ?_
  refine gk_topi h (fun v3 h => ?_)
  refine gk_istore_n (lv2 := [(2, .int v3), (1, .int v2), (0, .ref 0)]) (pc := 14) K d_M_law_14 (by decide) rfl ?_
  refine gk_aload_n (pc := 15) K d_M_law_15 rfl ?_
  refine gk_iconst (pc := 16) K d_M_law_16 kc_0 ?_
  refine gk_puti (pc := 17) K d_M_law_17 fp_M_157 tm_0 rfl h (fun m4 h => ?_)
  refine gk_aload_n (pc := 20) K d_M_law_20 rfl ?_
  refine gk_get (pc := 21) K d_M_law_21 fl_M_169 tm_0 rfl rfl ?_
  refine gk_if_lt (tgt := 35) (pc := 24) K d_M_law_24 (by decide) h (fun h => ?_) (fun h => ?_)
  · refine gk_iconst (pc := 35) K d_M_law_35 kc_0 ?_
    refine gk_istore_n (lv2 := [(3, .int 0), (2, .int v3), (1, .int v2), (0, .ref 0)]) (pc := 36) K d_M_law_36 (by decide) rfl ?_
    exact gk_sub [3, 1, 0] rfl (s_M_law_37 K _ _ _ _  h)
  · refine gk_bipush (pc := 27) K d_M_law_27 kb_m100 ?_
    refine gk_aload_n (pc := 29) K d_M_law_29 rfl ?_
    refine gk_get (pc := 30) K d_M_law_30 fl_M_169 tm_0 rfl rfl ?_
    refine gk_isub (pc := 33) K d_M_law_33 ?_
    exact gk_iret (pc := 34) K d_M_law_34 rfl h
theorem s_M_law {l : Launch} {u : gk_U} (hD : gk_D tm u) {m0 mem2 : gk_M} {r : Int32} (h : f_M_law  m0 = some (r, mem2)) : gk_C tm l u me_M_law 65 [.ref 0] m0 (some (.int r)) mem2 :=
  gk_enter hD mc_M_law (Nat.le_of_ble_eq_true rfl) rfl (fun z _ _ K => s_M_law_0 K  _  h)
theorem d_M_areTwo_0 : decode me_M_areTwo.2.1 0 = .ok (.iload_n 1, 1) := by decide +kernel
theorem d_M_areTwo_1 : decode me_M_areTwo.2.1 1 = .ok (.ifCond .lt 40, 3) := by decide +kernel
theorem d_M_areTwo_4 : decode me_M_areTwo.2.1 4 = .ok (.aload_n 0, 1) := by decide +kernel
theorem d_M_areTwo_5 : decode me_M_areTwo.2.1 5 = .ok (.iload_n 1, 1) := by decide +kernel
theorem d_M_areTwo_6 : decode me_M_areTwo.2.1 6 = .ok (.bipush 10, 2) := by decide +kernel
theorem d_M_areTwo_8 : decode me_M_areTwo.2.1 8 = .ok (.idiv, 1) := by decide +kernel
theorem d_M_areTwo_9 : decode me_M_areTwo.2.1 9 = .ok (.invokevirtual 142, 3) := by decide +kernel
theorem d_M_areTwo_12 : decode me_M_areTwo.2.1 12 = .ok (.ifCond .eq 29, 3) := by decide +kernel
theorem d_M_areTwo_15 : decode me_M_areTwo.2.1 15 = .ok (.aload_n 0, 1) := by decide +kernel
theorem d_M_areTwo_16 : decode me_M_areTwo.2.1 16 = .ok (.iload_n 1, 1) := by decide +kernel
theorem d_M_areTwo_17 : decode me_M_areTwo.2.1 17 = .ok (.bipush 10, 2) := by decide +kernel
theorem d_M_areTwo_19 : decode me_M_areTwo.2.1 19 = .ok (.irem, 1) := by decide +kernel
theorem d_M_areTwo_20 : decode me_M_areTwo.2.1 20 = .ok (.invokevirtual 142, 3) := by decide +kernel
theorem d_M_areTwo_23 : decode me_M_areTwo.2.1 23 = .ok (.ifCond .eq 18, 3) := by decide +kernel
theorem d_M_areTwo_26 : decode me_M_areTwo.2.1 26 = .ok (.iload_n 1, 1) := by decide +kernel
theorem d_M_areTwo_27 : decode me_M_areTwo.2.1 27 = .ok (.bipush 10, 2) := by decide +kernel
theorem d_M_areTwo_29 : decode me_M_areTwo.2.1 29 = .ok (.idiv, 1) := by decide +kernel
theorem d_M_areTwo_30 : decode me_M_areTwo.2.1 30 = .ok (.iload_n 1, 1) := by decide +kernel
theorem d_M_areTwo_31 : decode me_M_areTwo.2.1 31 = .ok (.bipush 10, 2) := by decide +kernel
theorem d_M_areTwo_33 : decode me_M_areTwo.2.1 33 = .ok (.irem, 1) := by decide +kernel
theorem d_M_areTwo_34 : decode me_M_areTwo.2.1 34 = .ok (.if_icmp .eq 7, 3) := by decide +kernel
theorem d_M_areTwo_37 : decode me_M_areTwo.2.1 37 = .ok (.iconst 1, 1) := by decide +kernel
theorem d_M_areTwo_38 : decode me_M_areTwo.2.1 38 = .ok (.goto 4, 3) := by decide +kernel
theorem d_M_areTwo_41 : decode me_M_areTwo.2.1 41 = .ok (.iconst 0, 1) := by decide +kernel
theorem d_M_areTwo_42 : decode me_M_areTwo.2.1 42 = .ok (.ireturn, 1) := by decide +kernel
noncomputable def f_M_areTwo  (a1 : Int32) (m0 : gk_M) : Option (Int32 × gk_M) :=
  if a1 < 0 then
    some (0, m0)
  else
    gk_bi (f_M_isTower (a1 / 10) m0) fun v2 m1 =>
    if v2 = 0 then
      some (0, m1)
    else
      gk_bi (f_M_isTower (gk_rem a1 10) m1) fun v4 m3 =>
      if v4 = 0 then
        some (0, m3)
      else
        if (a1 / 10) = (gk_rem a1 10) then
          some (0, m3)
        else
          some (1, m3)

theorem s_M_areTwo_0 {z : gk_Z} (K : gk_F tm z me_M_areTwo 3) {r : Int32} {mem2 : gk_M} : ∀ a1 m0, f_M_areTwo a1 m0 = some (r, mem2) → gk_G tm z me_M_areTwo (gk_R tm z (some (.int r)) mem2) m0 [(0, .ref 0), (1, .int a1)] [] 0 := by
  intro a1 m0  h
  unfold f_M_areTwo at h
  refine gk_iload_n (pc := 0) K d_M_areTwo_0 rfl ?_
  refine gk_if_lt (tgt := 41) (pc := 1) K d_M_areTwo_1 (by decide) h (fun h => ?_) (fun h => ?_)
  · refine gk_iconst (pc := 41) K d_M_areTwo_41 kc_0 ?_
    exact gk_zretc (pc := 42) K d_M_areTwo_42 rfl (Or.inl rfl) h
  · refine gk_aload_n (pc := 4) K d_M_areTwo_4 rfl ?_
    refine gk_iload_n (pc := 5) K d_M_areTwo_5 rfl ?_
    refine gk_bipush (pc := 6) K d_M_areTwo_6 kb_10 ?_
    refine gk_idivc2 (pc := 8) K d_M_areTwo_8 (by decide) ?_
    obtain ⟨v2, m1, em1, h⟩ := gk_bi_some h
    refine gk_cVi (As := [.int (a1 / 10)]) (pc := 9) K d_M_areTwo_9 mv_M_142 mc_M_isTower rfl tm_0 cl_ok10.1 (s_M_isTower (gk_FD K)  em1) (by decide) rfl (Nat.le_of_ble_eq_true rfl) ?_
    refine gk_if_eq (tgt := 41) (pc := 12) K d_M_areTwo_12 (by decide) h (fun h => ?_) (fun h => ?_)
    · refine gk_iconst (pc := 41) K d_M_areTwo_41 kc_0 ?_
      exact gk_zretc (pc := 42) K d_M_areTwo_42 rfl (Or.inl rfl) h
    · refine gk_aload_n (pc := 15) K d_M_areTwo_15 rfl ?_
      refine gk_iload_n (pc := 16) K d_M_areTwo_16 rfl ?_
      refine gk_bipush (pc := 17) K d_M_areTwo_17 kb_10 ?_
      refine gk_iremc2 (pc := 19) K d_M_areTwo_19 (by decide) ?_
      obtain ⟨v4, m3, em3, h⟩ := gk_bi_some h
      refine gk_cVi (As := [.int (gk_rem a1 10)]) (pc := 20) K d_M_areTwo_20 mv_M_142 mc_M_isTower rfl tm_0 cl_ok10.1 (s_M_isTower (gk_FD K)  em3) (by decide) rfl (Nat.le_of_ble_eq_true rfl) ?_
      refine gk_if_eq (tgt := 41) (pc := 23) K d_M_areTwo_23 (by decide) h (fun h => ?_) (fun h => ?_)
      · refine gk_iconst (pc := 41) K d_M_areTwo_41 kc_0 ?_
        exact gk_zretc (pc := 42) K d_M_areTwo_42 rfl (Or.inl rfl) h
      · refine gk_iload_n (pc := 26) K d_M_areTwo_26 rfl ?_
        refine gk_bipush (pc := 27) K d_M_areTwo_27 kb_10 ?_
        refine gk_idivc2 (pc := 29) K d_M_areTwo_29 (by decide) ?_
        refine gk_iload_n (pc := 30) K d_M_areTwo_30 rfl ?_
        refine gk_bipush (pc := 31) K d_M_areTwo_31 kb_10 ?_
        refine gk_iremc2 (pc := 33) K d_M_areTwo_33 (by decide) ?_
        refine gk_ic_eq (tgt := 41) (pc := 34) K d_M_areTwo_34 (by decide) h (fun h => ?_) (fun h => ?_)
        · refine gk_iconst (pc := 41) K d_M_areTwo_41 kc_0 ?_
          exact gk_zretc (pc := 42) K d_M_areTwo_42 rfl (Or.inl rfl) h
        · refine gk_iconst (pc := 37) K d_M_areTwo_37 kc_1 ?_
          refine gk_goto (tgt := 42) (pc := 38) K d_M_areTwo_38 (by decide) ?_
          exact gk_zretc (pc := 42) K d_M_areTwo_42 rfl (Or.inr rfl) h
theorem s_M_areTwo {l : Launch} {u : gk_U} (hD : gk_D tm u) {a1 : Int32} {m0 mem2 : gk_M} {r : Int32} (h : f_M_areTwo a1 m0 = some (r, mem2)) : gk_C tm l u me_M_areTwo 3 [.ref 0, .int a1] m0 (some (.int r)) mem2 :=
  gk_enter hD mc_M_areTwo (Nat.le_of_ble_eq_true rfl) rfl (fun z _ _ K => s_M_areTwo_0 K _ _  h)
theorem d_M_isBehind_0 : decode me_M_isBehind.2.1 0 = .ok (.aload_n 0, 1) := by decide +kernel
theorem d_M_isBehind_1 : decode me_M_isBehind.2.1 1 = .ok (.getfield 22, 3) := by decide +kernel
theorem d_M_isBehind_4 : decode me_M_isBehind.2.1 4 = .ok (.iload 7, 2) := by decide +kernel
theorem d_M_isBehind_6 : decode me_M_isBehind.2.1 6 = .ok (.iaload, 1) := by decide +kernel
theorem d_M_isBehind_7 : decode me_M_isBehind.2.1 7 = .ok (.bipush 30, 2) := by decide +kernel
theorem d_M_isBehind_9 : decode me_M_isBehind.2.1 9 = .ok (.irem, 1) := by decide +kernel
theorem d_M_isBehind_10 : decode me_M_isBehind.2.1 10 = .ok (.i2l, 1) := by decide +kernel
theorem d_M_isBehind_11 : decode me_M_isBehind.2.1 11 = .ok (.lload 5, 2) := by decide +kernel
theorem d_M_isBehind_13 : decode me_M_isBehind.2.1 13 = .ok (.lmul, 1) := by decide +kernel
theorem d_M_isBehind_14 : decode me_M_isBehind.2.1 14 = .ok (.lload_n 1, 1) := by decide +kernel
theorem d_M_isBehind_15 : decode me_M_isBehind.2.1 15 = .ok (.lsub, 1) := by decide +kernel
theorem d_M_isBehind_16 : decode me_M_isBehind.2.1 16 = .ok (.lstore 9, 2) := by decide +kernel
theorem d_M_isBehind_18 : decode me_M_isBehind.2.1 18 = .ok (.aload_n 0, 1) := by decide +kernel
theorem d_M_isBehind_19 : decode me_M_isBehind.2.1 19 = .ok (.getfield 22, 3) := by decide +kernel
theorem d_M_isBehind_22 : decode me_M_isBehind.2.1 22 = .ok (.iload 7, 2) := by decide +kernel
theorem d_M_isBehind_24 : decode me_M_isBehind.2.1 24 = .ok (.iaload, 1) := by decide +kernel
theorem d_M_isBehind_25 : decode me_M_isBehind.2.1 25 = .ok (.bipush 30, 2) := by decide +kernel
theorem d_M_isBehind_27 : decode me_M_isBehind.2.1 27 = .ok (.idiv, 1) := by decide +kernel
theorem d_M_isBehind_28 : decode me_M_isBehind.2.1 28 = .ok (.i2l, 1) := by decide +kernel
theorem d_M_isBehind_29 : decode me_M_isBehind.2.1 29 = .ok (.lload 5, 2) := by decide +kernel
theorem d_M_isBehind_31 : decode me_M_isBehind.2.1 31 = .ok (.lmul, 1) := by decide +kernel
theorem d_M_isBehind_32 : decode me_M_isBehind.2.1 32 = .ok (.lload_n 3, 1) := by decide +kernel
theorem d_M_isBehind_33 : decode me_M_isBehind.2.1 33 = .ok (.lsub, 1) := by decide +kernel
theorem d_M_isBehind_34 : decode me_M_isBehind.2.1 34 = .ok (.lstore 11, 2) := by decide +kernel
theorem d_M_isBehind_36 : decode me_M_isBehind.2.1 36 = .ok (.aload_n 0, 1) := by decide +kernel
theorem d_M_isBehind_37 : decode me_M_isBehind.2.1 37 = .ok (.getfield 22, 3) := by decide +kernel
theorem d_M_isBehind_40 : decode me_M_isBehind.2.1 40 = .ok (.iload 8, 2) := by decide +kernel
theorem d_M_isBehind_42 : decode me_M_isBehind.2.1 42 = .ok (.iaload, 1) := by decide +kernel
theorem d_M_isBehind_43 : decode me_M_isBehind.2.1 43 = .ok (.bipush 30, 2) := by decide +kernel
theorem d_M_isBehind_45 : decode me_M_isBehind.2.1 45 = .ok (.irem, 1) := by decide +kernel
theorem d_M_isBehind_46 : decode me_M_isBehind.2.1 46 = .ok (.i2l, 1) := by decide +kernel
theorem d_M_isBehind_47 : decode me_M_isBehind.2.1 47 = .ok (.lload 5, 2) := by decide +kernel
theorem d_M_isBehind_49 : decode me_M_isBehind.2.1 49 = .ok (.lmul, 1) := by decide +kernel
theorem d_M_isBehind_50 : decode me_M_isBehind.2.1 50 = .ok (.lload_n 1, 1) := by decide +kernel
theorem d_M_isBehind_51 : decode me_M_isBehind.2.1 51 = .ok (.lsub, 1) := by decide +kernel
theorem d_M_isBehind_52 : decode me_M_isBehind.2.1 52 = .ok (.lstore 13, 2) := by decide +kernel
theorem d_M_isBehind_54 : decode me_M_isBehind.2.1 54 = .ok (.aload_n 0, 1) := by decide +kernel
theorem d_M_isBehind_55 : decode me_M_isBehind.2.1 55 = .ok (.getfield 22, 3) := by decide +kernel
theorem d_M_isBehind_58 : decode me_M_isBehind.2.1 58 = .ok (.iload 8, 2) := by decide +kernel
theorem d_M_isBehind_60 : decode me_M_isBehind.2.1 60 = .ok (.iaload, 1) := by decide +kernel
theorem d_M_isBehind_61 : decode me_M_isBehind.2.1 61 = .ok (.bipush 30, 2) := by decide +kernel
theorem d_M_isBehind_63 : decode me_M_isBehind.2.1 63 = .ok (.idiv, 1) := by decide +kernel
theorem d_M_isBehind_64 : decode me_M_isBehind.2.1 64 = .ok (.i2l, 1) := by decide +kernel
theorem d_M_isBehind_65 : decode me_M_isBehind.2.1 65 = .ok (.lload 5, 2) := by decide +kernel
theorem d_M_isBehind_67 : decode me_M_isBehind.2.1 67 = .ok (.lmul, 1) := by decide +kernel
theorem d_M_isBehind_68 : decode me_M_isBehind.2.1 68 = .ok (.lload_n 3, 1) := by decide +kernel
theorem d_M_isBehind_69 : decode me_M_isBehind.2.1 69 = .ok (.lsub, 1) := by decide +kernel
theorem d_M_isBehind_70 : decode me_M_isBehind.2.1 70 = .ok (.lstore 15, 2) := by decide +kernel
theorem d_M_isBehind_72 : decode me_M_isBehind.2.1 72 = .ok (.lload 9, 2) := by decide +kernel
theorem d_M_isBehind_74 : decode me_M_isBehind.2.1 74 = .ok (.lload 15, 2) := by decide +kernel
theorem d_M_isBehind_76 : decode me_M_isBehind.2.1 76 = .ok (.lmul, 1) := by decide +kernel
theorem d_M_isBehind_77 : decode me_M_isBehind.2.1 77 = .ok (.lload 11, 2) := by decide +kernel
theorem d_M_isBehind_79 : decode me_M_isBehind.2.1 79 = .ok (.lload 13, 2) := by decide +kernel
theorem d_M_isBehind_81 : decode me_M_isBehind.2.1 81 = .ok (.lmul, 1) := by decide +kernel
theorem d_M_isBehind_82 : decode me_M_isBehind.2.1 82 = .ok (.lsub, 1) := by decide +kernel
theorem d_M_isBehind_83 : decode me_M_isBehind.2.1 83 = .ok (.lconst 0, 1) := by decide +kernel
theorem d_M_isBehind_84 : decode me_M_isBehind.2.1 84 = .ok (.lcmp, 1) := by decide +kernel
theorem d_M_isBehind_85 : decode me_M_isBehind.2.1 85 = .ok (.ifCond .ne 23, 3) := by decide +kernel
theorem d_M_isBehind_88 : decode me_M_isBehind.2.1 88 = .ok (.lload 9, 2) := by decide +kernel
theorem d_M_isBehind_90 : decode me_M_isBehind.2.1 90 = .ok (.lload 13, 2) := by decide +kernel
theorem d_M_isBehind_92 : decode me_M_isBehind.2.1 92 = .ok (.lmul, 1) := by decide +kernel
theorem d_M_isBehind_93 : decode me_M_isBehind.2.1 93 = .ok (.lload 11, 2) := by decide +kernel
theorem d_M_isBehind_95 : decode me_M_isBehind.2.1 95 = .ok (.lload 15, 2) := by decide +kernel
theorem d_M_isBehind_97 : decode me_M_isBehind.2.1 97 = .ok (.lmul, 1) := by decide +kernel
theorem d_M_isBehind_98 : decode me_M_isBehind.2.1 98 = .ok (.ladd, 1) := by decide +kernel
theorem d_M_isBehind_99 : decode me_M_isBehind.2.1 99 = .ok (.lconst 0, 1) := by decide +kernel
theorem d_M_isBehind_100 : decode me_M_isBehind.2.1 100 = .ok (.lcmp, 1) := by decide +kernel
theorem d_M_isBehind_101 : decode me_M_isBehind.2.1 101 = .ok (.ifCond .le 7, 3) := by decide +kernel
theorem d_M_isBehind_104 : decode me_M_isBehind.2.1 104 = .ok (.iconst 1, 1) := by decide +kernel
theorem d_M_isBehind_105 : decode me_M_isBehind.2.1 105 = .ok (.goto 4, 3) := by decide +kernel
theorem d_M_isBehind_108 : decode me_M_isBehind.2.1 108 = .ok (.iconst 0, 1) := by decide +kernel
theorem d_M_isBehind_109 : decode me_M_isBehind.2.1 109 = .ok (.ireturn, 1) := by decide +kernel
noncomputable def f_M_isBehind  (a1 : Int64) (a3 : Int64) (a5 : Int64) (a7 : Int32) (a8 : Int32) (m0 : gk_M) : Option (Int32 × gk_M) :=
  gk_ai m0 5 20 a7 fun v1 =>
  gk_let (((gk_rem v1 30).toInt64 * a5) - a1) fun v2 =>
  gk_ai m0 5 20 a7 fun v3 =>
  gk_let (((v3 / 30).toInt64 * a5) - a3) fun v4 =>
  gk_ai m0 5 20 a8 fun v5 =>
  gk_let (((gk_rem v5 30).toInt64 * a5) - a1) fun v6 =>
  gk_ai m0 5 20 a8 fun v7 =>
  gk_let (((v7 / 30).toInt64 * a5) - a3) fun v8 =>
  if ¬ ((v2 * v8) - (v4 * v6)) = 0 then
    some (0, m0)
  else
    if ((v2 * v6) + (v4 * v8)) ≤ 0 then
      some (0, m0)
    else
      some (1, m0)

theorem s_M_isBehind_0 {z : gk_Z} (K : gk_F tm z me_M_isBehind 1) {r : Int32} {mem2 : gk_M} : ∀ a1 a3 a5 a7 a8 m0, f_M_isBehind a1 a3 a5 a7 a8 m0 = some (r, mem2) → gk_G tm z me_M_isBehind (gk_R tm z (some (.int r)) mem2) m0 [(0, .ref 0), (1, .long a1), (3, .long a3), (5, .long a5), (7, .int a7), (8, .int a8)] [] 0 := by
  intro a1 a3 a5 a7 a8 m0  h
  unfold f_M_isBehind at h
  refine gk_aload_n (pc := 0) K d_M_isBehind_0 rfl ?_
  refine gk_get (pc := 1) K d_M_isBehind_1 fl_M_22 tm_0 rfl rfl ?_
  refine gk_iload (pc := 4) K d_M_isBehind_4 rfl ?_
  refine gk_iald (pc := 6) K d_M_isBehind_6 tm_5 h (fun v1 h => ?_)
  refine gk_bipush (pc := 7) K d_M_isBehind_7 kb_30 ?_
  refine gk_iremc2 (pc := 9) K d_M_isBehind_9 (by decide) ?_
  refine gk_i2l (pc := 10) K d_M_isBehind_10 ?_
  refine gk_lload (pc := 11) K d_M_isBehind_11 rfl ?_
  refine gk_lmul (pc := 13) K d_M_isBehind_13 ?_
  refine gk_lload_n (pc := 14) K d_M_isBehind_14 rfl ?_
  refine gk_lsub (pc := 15) K d_M_isBehind_15 ?_
  refine gk_topl h (fun v2 h => ?_)
  refine gk_lstore (lv2 := [(9, .long v2), (0, .ref 0), (1, .long a1), (3, .long a3), (5, .long a5), (7, .int a7), (8, .int a8)]) (pc := 16) K d_M_isBehind_16 (by decide) rfl ?_
  refine gk_aload_n (pc := 18) K d_M_isBehind_18 rfl ?_
  refine gk_get (pc := 19) K d_M_isBehind_19 fl_M_22 tm_0 rfl rfl ?_
  refine gk_iload (pc := 22) K d_M_isBehind_22 rfl ?_
  refine gk_iald (pc := 24) K d_M_isBehind_24 tm_5 h (fun v3 h => ?_)
  refine gk_bipush (pc := 25) K d_M_isBehind_25 kb_30 ?_
  refine gk_idivc2 (pc := 27) K d_M_isBehind_27 (by decide) ?_
  refine gk_i2l (pc := 28) K d_M_isBehind_28 ?_
  refine gk_lload (pc := 29) K d_M_isBehind_29 rfl ?_
  refine gk_lmul (pc := 31) K d_M_isBehind_31 ?_
  refine gk_lload_n (pc := 32) K d_M_isBehind_32 rfl ?_
  refine gk_lsub (pc := 33) K d_M_isBehind_33 ?_
  refine gk_topl h (fun v4 h => ?_)
  refine gk_lstore (lv2 := [(11, .long v4), (9, .long v2), (0, .ref 0), (1, .long a1), (3, .long a3), (5, .long a5), (7, .int a7), (8, .int a8)]) (pc := 34) K d_M_isBehind_34 (by decide) rfl ?_
  refine gk_aload_n (pc := 36) K d_M_isBehind_36 rfl ?_
  refine gk_get (pc := 37) K d_M_isBehind_37 fl_M_22 tm_0 rfl rfl ?_
  refine gk_iload (pc := 40) K d_M_isBehind_40 rfl ?_
  refine gk_iald (pc := 42) K d_M_isBehind_42 tm_5 h (fun v5 h => ?_)
  refine gk_bipush (pc := 43) K d_M_isBehind_43 kb_30 ?_
  refine gk_iremc2 (pc := 45) K d_M_isBehind_45 (by decide) ?_
  refine gk_i2l (pc := 46) K d_M_isBehind_46 ?_
  refine gk_lload (pc := 47) K d_M_isBehind_47 rfl ?_
  refine gk_lmul (pc := 49) K d_M_isBehind_49 ?_
  refine gk_lload_n (pc := 50) K d_M_isBehind_50 rfl ?_
  refine gk_lsub (pc := 51) K d_M_isBehind_51 ?_
  refine gk_topl h (fun v6 h => ?_)
  refine gk_lstore (lv2 := [(13, .long v6), (11, .long v4), (9, .long v2), (0, .ref 0), (1, .long a1), (3, .long a3), (5, .long a5), (7, .int a7), (8, .int a8)]) (pc := 52) K d_M_isBehind_52 (by decide) rfl ?_
  refine gk_aload_n (pc := 54) K d_M_isBehind_54 rfl ?_
  refine gk_get (pc := 55) K d_M_isBehind_55 fl_M_22 tm_0 rfl rfl ?_
  refine gk_iload (pc := 58) K d_M_isBehind_58 rfl ?_
  refine gk_iald (pc := 60) K d_M_isBehind_60 tm_5 h (fun v7 h => ?_)
  refine gk_bipush (pc := 61) K d_M_isBehind_61 kb_30 ?_
  refine gk_idivc2 (pc := 63) K d_M_isBehind_63 (by decide) ?_
  refine gk_i2l (pc := 64) K d_M_isBehind_64 ?_
  refine gk_lload (pc := 65) K d_M_isBehind_65 rfl ?_
  refine gk_lmul (pc := 67) K d_M_isBehind_67 ?_
  refine gk_lload_n (pc := 68) K d_M_isBehind_68 rfl ?_
  refine gk_lsub (pc := 69) K d_M_isBehind_69 ?_
  refine gk_topl h (fun v8 h => ?_)
  refine gk_lstore (lv2 := [(15, .long v8), (13, .long v6), (11, .long v4), (9, .long v2), (0, .ref 0), (1, .long a1), (3, .long a3), (5, .long a5), (7, .int a7), (8, .int a8)]) (pc := 70) K d_M_isBehind_70 (by decide) rfl ?_
  refine gk_lload (pc := 72) K d_M_isBehind_72 rfl ?_
  refine gk_lload (pc := 74) K d_M_isBehind_74 rfl ?_
  refine gk_lmul (pc := 76) K d_M_isBehind_76 ?_
  refine gk_lload (pc := 77) K d_M_isBehind_77 rfl ?_
  refine gk_lload (pc := 79) K d_M_isBehind_79 rfl ?_
  refine gk_lmul (pc := 81) K d_M_isBehind_81 ?_
  refine gk_lsub (pc := 82) K d_M_isBehind_82 ?_
  refine gk_lconst (pc := 83) K d_M_isBehind_83 kl_0 ?_
  refine gk_lc_ne (tgt := 108) (pc := 84) K d_M_isBehind_84 d_M_isBehind_85 (by decide) h (fun h => ?_) (fun h => ?_)
  · refine gk_iconst (pc := 108) K d_M_isBehind_108 kc_0 ?_
    exact gk_zretc (pc := 109) K d_M_isBehind_109 rfl (Or.inl rfl) h
  · refine gk_lload (pc := 88) K d_M_isBehind_88 rfl ?_
    refine gk_lload (pc := 90) K d_M_isBehind_90 rfl ?_
    refine gk_lmul (pc := 92) K d_M_isBehind_92 ?_
    refine gk_lload (pc := 93) K d_M_isBehind_93 rfl ?_
    refine gk_lload (pc := 95) K d_M_isBehind_95 rfl ?_
    refine gk_lmul (pc := 97) K d_M_isBehind_97 ?_
    refine gk_ladd (pc := 98) K d_M_isBehind_98 ?_
    refine gk_lconst (pc := 99) K d_M_isBehind_99 kl_0 ?_
    refine gk_lc_le (tgt := 108) (pc := 100) K d_M_isBehind_100 d_M_isBehind_101 (by decide) h (fun h => ?_) (fun h => ?_)
    · refine gk_iconst (pc := 108) K d_M_isBehind_108 kc_0 ?_
      exact gk_zretc (pc := 109) K d_M_isBehind_109 rfl (Or.inl rfl) h
    · refine gk_iconst (pc := 104) K d_M_isBehind_104 kc_1 ?_
      refine gk_goto (tgt := 109) (pc := 105) K d_M_isBehind_105 (by decide) ?_
      exact gk_zretc (pc := 109) K d_M_isBehind_109 rfl (Or.inr rfl) h
theorem s_M_isBehind {l : Launch} {u : gk_U} (hD : gk_D tm u) {a1 : Int64} {a3 : Int64} {a5 : Int64} {a7 : Int32} {a8 : Int32} {m0 mem2 : gk_M} {r : Int32} (h : f_M_isBehind a1 a3 a5 a7 a8 m0 = some (r, mem2)) : gk_C tm l u me_M_isBehind 1 [.ref 0, .long a1, .long a3, .long a5, .int a7, .int a8] m0 (some (.int r)) mem2 :=
  gk_enter hD mc_M_isBehind (Nat.le_of_ble_eq_true rfl) rfl (fun z _ _ K => s_M_isBehind_0 K _ _ _ _ _ _  h)
theorem d_M_side_0 : decode me_M_side.2.1 0 = .ok (.lload 4, 2) := by decide +kernel
theorem d_M_side_2 : decode me_M_side.2.1 2 = .ok (.lload_n 0, 1) := by decide +kernel
theorem d_M_side_3 : decode me_M_side.2.1 3 = .ok (.lsub, 1) := by decide +kernel
theorem d_M_side_4 : decode me_M_side.2.1 4 = .ok (.lload 10, 2) := by decide +kernel
theorem d_M_side_6 : decode me_M_side.2.1 6 = .ok (.lload_n 2, 1) := by decide +kernel
theorem d_M_side_7 : decode me_M_side.2.1 7 = .ok (.lsub, 1) := by decide +kernel
theorem d_M_side_8 : decode me_M_side.2.1 8 = .ok (.lmul, 1) := by decide +kernel
theorem d_M_side_9 : decode me_M_side.2.1 9 = .ok (.lload 6, 2) := by decide +kernel
theorem d_M_side_11 : decode me_M_side.2.1 11 = .ok (.lload_n 2, 1) := by decide +kernel
theorem d_M_side_12 : decode me_M_side.2.1 12 = .ok (.lsub, 1) := by decide +kernel
theorem d_M_side_13 : decode me_M_side.2.1 13 = .ok (.lload 8, 2) := by decide +kernel
theorem d_M_side_15 : decode me_M_side.2.1 15 = .ok (.lload_n 0, 1) := by decide +kernel
theorem d_M_side_16 : decode me_M_side.2.1 16 = .ok (.lsub, 1) := by decide +kernel
theorem d_M_side_17 : decode me_M_side.2.1 17 = .ok (.lmul, 1) := by decide +kernel
theorem d_M_side_18 : decode me_M_side.2.1 18 = .ok (.lsub, 1) := by decide +kernel
theorem d_M_side_19 : decode me_M_side.2.1 19 = .ok (.lreturn, 1) := by decide +kernel
noncomputable def f_M_side  (a0 : Int64) (a2 : Int64) (a4 : Int64) (a6 : Int64) (a8 : Int64) (a10 : Int64) (m0 : gk_M) : Option (Int64 × gk_M) :=
  some ((((a4 - a0) * (a10 - a2)) - ((a6 - a2) * (a8 - a0))), m0)

theorem s_M_side_0 {z : gk_Z} (K : gk_F tm z me_M_side 1) {r : Int64} {mem2 : gk_M} : ∀ a0 a2 a4 a6 a8 a10 m0, f_M_side a0 a2 a4 a6 a8 a10 m0 = some (r, mem2) → gk_G tm z me_M_side (gk_R tm z (some (.long r)) mem2) m0 [(0, .long a0), (2, .long a2), (4, .long a4), (6, .long a6), (8, .long a8), (10, .long a10)] [] 0 := by
  intro a0 a2 a4 a6 a8 a10 m0  h
  unfold f_M_side at h
  refine gk_lload (pc := 0) K d_M_side_0 rfl ?_
  refine gk_lload_n (pc := 2) K d_M_side_2 rfl ?_
  refine gk_lsub (pc := 3) K d_M_side_3 ?_
  refine gk_lload (pc := 4) K d_M_side_4 rfl ?_
  refine gk_lload_n (pc := 6) K d_M_side_6 rfl ?_
  refine gk_lsub (pc := 7) K d_M_side_7 ?_
  refine gk_lmul (pc := 8) K d_M_side_8 ?_
  refine gk_lload (pc := 9) K d_M_side_9 rfl ?_
  refine gk_lload_n (pc := 11) K d_M_side_11 rfl ?_
  refine gk_lsub (pc := 12) K d_M_side_12 ?_
  refine gk_lload (pc := 13) K d_M_side_13 rfl ?_
  refine gk_lload_n (pc := 15) K d_M_side_15 rfl ?_
  refine gk_lsub (pc := 16) K d_M_side_16 ?_
  refine gk_lmul (pc := 17) K d_M_side_17 ?_
  refine gk_lsub (pc := 18) K d_M_side_18 ?_
  exact gk_lret (pc := 19) K d_M_side_19 rfl h
theorem s_M_side {l : Launch} {u : gk_U} (hD : gk_D tm u) {a0 : Int64} {a2 : Int64} {a4 : Int64} {a6 : Int64} {a8 : Int64} {a10 : Int64} {m0 mem2 : gk_M} {r : Int64} (h : f_M_side a0 a2 a4 a6 a8 a10 m0 = some (r, mem2)) : gk_C tm l u me_M_side 1 [.long a0, .long a2, .long a4, .long a6, .long a8, .long a10] m0 (some (.long r)) mem2 :=
  gk_enter hD mc_M_side (Nat.le_of_ble_eq_true rfl) rfl (fun z _ _ K => s_M_side_0 K _ _ _ _ _ _ _  h)
theorem d_M_isBetween_0 : decode me_M_isBetween.2.1 0 = .ok (.lload_n 0, 1) := by decide +kernel
theorem d_M_isBetween_1 : decode me_M_isBetween.2.1 1 = .ok (.lload 4, 2) := by decide +kernel
theorem d_M_isBetween_3 : decode me_M_isBetween.2.1 3 = .ok (.lcmp, 1) := by decide +kernel
theorem d_M_isBetween_4 : decode me_M_isBetween.2.1 4 = .ok (.ifCond .ge 24, 3) := by decide +kernel
theorem d_M_isBetween_7 : decode me_M_isBetween.2.1 7 = .ok (.lload_n 0, 1) := by decide +kernel
theorem d_M_isBetween_8 : decode me_M_isBetween.2.1 8 = .ok (.lload_n 2, 1) := by decide +kernel
theorem d_M_isBetween_9 : decode me_M_isBetween.2.1 9 = .ok (.lcmp, 1) := by decide +kernel
theorem d_M_isBetween_10 : decode me_M_isBetween.2.1 10 = .ok (.ifCond .gt 14, 3) := by decide +kernel
theorem d_M_isBetween_13 : decode me_M_isBetween.2.1 13 = .ok (.lload_n 2, 1) := by decide +kernel
theorem d_M_isBetween_14 : decode me_M_isBetween.2.1 14 = .ok (.lload 4, 2) := by decide +kernel
theorem d_M_isBetween_16 : decode me_M_isBetween.2.1 16 = .ok (.lcmp, 1) := by decide +kernel
theorem d_M_isBetween_17 : decode me_M_isBetween.2.1 17 = .ok (.ifCond .gt 7, 3) := by decide +kernel
theorem d_M_isBetween_20 : decode me_M_isBetween.2.1 20 = .ok (.iconst 1, 1) := by decide +kernel
theorem d_M_isBetween_21 : decode me_M_isBetween.2.1 21 = .ok (.goto 25, 3) := by decide +kernel
theorem d_M_isBetween_24 : decode me_M_isBetween.2.1 24 = .ok (.iconst 0, 1) := by decide +kernel
theorem d_M_isBetween_25 : decode me_M_isBetween.2.1 25 = .ok (.goto 21, 3) := by decide +kernel
theorem d_M_isBetween_28 : decode me_M_isBetween.2.1 28 = .ok (.lload 4, 2) := by decide +kernel
theorem d_M_isBetween_30 : decode me_M_isBetween.2.1 30 = .ok (.lload_n 2, 1) := by decide +kernel
theorem d_M_isBetween_31 : decode me_M_isBetween.2.1 31 = .ok (.lcmp, 1) := by decide +kernel
theorem d_M_isBetween_32 : decode me_M_isBetween.2.1 32 = .ok (.ifCond .gt 13, 3) := by decide +kernel
theorem d_M_isBetween_35 : decode me_M_isBetween.2.1 35 = .ok (.lload_n 2, 1) := by decide +kernel
theorem d_M_isBetween_36 : decode me_M_isBetween.2.1 36 = .ok (.lload_n 0, 1) := by decide +kernel
theorem d_M_isBetween_37 : decode me_M_isBetween.2.1 37 = .ok (.lcmp, 1) := by decide +kernel
theorem d_M_isBetween_38 : decode me_M_isBetween.2.1 38 = .ok (.ifCond .gt 7, 3) := by decide +kernel
theorem d_M_isBetween_41 : decode me_M_isBetween.2.1 41 = .ok (.iconst 1, 1) := by decide +kernel
theorem d_M_isBetween_42 : decode me_M_isBetween.2.1 42 = .ok (.goto 4, 3) := by decide +kernel
theorem d_M_isBetween_45 : decode me_M_isBetween.2.1 45 = .ok (.iconst 0, 1) := by decide +kernel
theorem d_M_isBetween_46 : decode me_M_isBetween.2.1 46 = .ok (.ireturn, 1) := by decide +kernel
noncomputable def f_M_isBetween  (a0 : Int64) (a2 : Int64) (a4 : Int64) (m0 : gk_M) : Option (Int32 × gk_M) :=
  if a4 ≤ a0 then
    if a2 < a4 then
      some (0, m0)
    else
      if a0 < a2 then
        some (0, m0)
      else
        some (1, m0)
  else
    if a2 < a0 then
      some (0, m0)
    else
      if a4 < a2 then
        some (0, m0)
      else
        some (1, m0)

theorem s_M_isBetween_0 {z : gk_Z} (K : gk_F tm z me_M_isBetween 1) {r : Int32} {mem2 : gk_M} : ∀ a0 a2 a4 m0, f_M_isBetween a0 a2 a4 m0 = some (r, mem2) → gk_G tm z me_M_isBetween (gk_R tm z (some (.int r)) mem2) m0 [(0, .long a0), (2, .long a2), (4, .long a4)] [] 0 := by
  intro a0 a2 a4 m0  h
  unfold f_M_isBetween at h
  refine gk_lload_n (pc := 0) K d_M_isBetween_0 rfl ?_
  refine gk_lload (pc := 1) K d_M_isBetween_1 rfl ?_
  refine gk_lc_ge (tgt := 28) (pc := 3) K d_M_isBetween_3 d_M_isBetween_4 (by decide) h (fun h => ?_) (fun h => ?_)
  · refine gk_lload (pc := 28) K d_M_isBetween_28 rfl ?_
    refine gk_lload_n (pc := 30) K d_M_isBetween_30 rfl ?_
    refine gk_lc_gt (tgt := 45) (pc := 31) K d_M_isBetween_31 d_M_isBetween_32 (by decide) h (fun h => ?_) (fun h => ?_)
    · refine gk_iconst (pc := 45) K d_M_isBetween_45 kc_0 ?_
      exact gk_zretc (pc := 46) K d_M_isBetween_46 rfl (Or.inl rfl) h
    · refine gk_lload_n (pc := 35) K d_M_isBetween_35 rfl ?_
      refine gk_lload_n (pc := 36) K d_M_isBetween_36 rfl ?_
      refine gk_lc_gt (tgt := 45) (pc := 37) K d_M_isBetween_37 d_M_isBetween_38 (by decide) h (fun h => ?_) (fun h => ?_)
      · refine gk_iconst (pc := 45) K d_M_isBetween_45 kc_0 ?_
        exact gk_zretc (pc := 46) K d_M_isBetween_46 rfl (Or.inl rfl) h
      · refine gk_iconst (pc := 41) K d_M_isBetween_41 kc_1 ?_
        refine gk_goto (tgt := 46) (pc := 42) K d_M_isBetween_42 (by decide) ?_
        exact gk_zretc (pc := 46) K d_M_isBetween_46 rfl (Or.inr rfl) h
  · refine gk_lload_n (pc := 7) K d_M_isBetween_7 rfl ?_
    refine gk_lload_n (pc := 8) K d_M_isBetween_8 rfl ?_
    refine gk_lc_gt (tgt := 24) (pc := 9) K d_M_isBetween_9 d_M_isBetween_10 (by decide) h (fun h => ?_) (fun h => ?_)
    · refine gk_iconst (pc := 24) K d_M_isBetween_24 kc_0 ?_
      refine gk_goto (tgt := 46) (pc := 25) K d_M_isBetween_25 (by decide) ?_
      exact gk_zretc (pc := 46) K d_M_isBetween_46 rfl (Or.inl rfl) h
    · refine gk_lload_n (pc := 13) K d_M_isBetween_13 rfl ?_
      refine gk_lload (pc := 14) K d_M_isBetween_14 rfl ?_
      refine gk_lc_gt (tgt := 24) (pc := 16) K d_M_isBetween_16 d_M_isBetween_17 (by decide) h (fun h => ?_) (fun h => ?_)
      · refine gk_iconst (pc := 24) K d_M_isBetween_24 kc_0 ?_
        refine gk_goto (tgt := 46) (pc := 25) K d_M_isBetween_25 (by decide) ?_
        exact gk_zretc (pc := 46) K d_M_isBetween_46 rfl (Or.inl rfl) h
      · refine gk_iconst (pc := 20) K d_M_isBetween_20 kc_1 ?_
        refine gk_goto (tgt := 46) (pc := 21) K d_M_isBetween_21 (by decide) ?_
        exact gk_zretc (pc := 46) K d_M_isBetween_46 rfl (Or.inr rfl) h
theorem s_M_isBetween {l : Launch} {u : gk_U} (hD : gk_D tm u) {a0 : Int64} {a2 : Int64} {a4 : Int64} {m0 mem2 : gk_M} {r : Int32} (h : f_M_isBetween a0 a2 a4 m0 = some (r, mem2)) : gk_C tm l u me_M_isBetween 1 [.long a0, .long a2, .long a4] m0 (some (.int r)) mem2 :=
  gk_enter hD mc_M_isBetween (Nat.le_of_ble_eq_true rfl) rfl (fun z _ _ K => s_M_isBetween_0 K _ _ _ _  h)
theorem d_M_liesOn_0 : decode me_M_liesOn.2.1 0 = .ok (.lload 8, 2) := by decide +kernel
theorem d_M_liesOn_2 : decode me_M_liesOn.2.1 2 = .ok (.lload_n 0, 1) := by decide +kernel
theorem d_M_liesOn_3 : decode me_M_liesOn.2.1 3 = .ok (.lcmp, 1) := by decide +kernel
theorem d_M_liesOn_4 : decode me_M_liesOn.2.1 4 = .ok (.ifCond .ne 10, 3) := by decide +kernel
theorem d_M_liesOn_7 : decode me_M_liesOn.2.1 7 = .ok (.lload 10, 2) := by decide +kernel
theorem d_M_liesOn_9 : decode me_M_liesOn.2.1 9 = .ok (.lload_n 2, 1) := by decide +kernel
theorem d_M_liesOn_10 : decode me_M_liesOn.2.1 10 = .ok (.lcmp, 1) := by decide +kernel
theorem d_M_liesOn_11 : decode me_M_liesOn.2.1 11 = .ok (.ifCond .eq 19, 3) := by decide +kernel
theorem d_M_liesOn_14 : decode me_M_liesOn.2.1 14 = .ok (.lload 8, 2) := by decide +kernel
theorem d_M_liesOn_16 : decode me_M_liesOn.2.1 16 = .ok (.lload 4, 2) := by decide +kernel
theorem d_M_liesOn_18 : decode me_M_liesOn.2.1 18 = .ok (.lcmp, 1) := by decide +kernel
theorem d_M_liesOn_19 : decode me_M_liesOn.2.1 19 = .ok (.ifCond .ne 15, 3) := by decide +kernel
theorem d_M_liesOn_22 : decode me_M_liesOn.2.1 22 = .ok (.lload 10, 2) := by decide +kernel
theorem d_M_liesOn_24 : decode me_M_liesOn.2.1 24 = .ok (.lload 6, 2) := by decide +kernel
theorem d_M_liesOn_26 : decode me_M_liesOn.2.1 26 = .ok (.lcmp, 1) := by decide +kernel
theorem d_M_liesOn_27 : decode me_M_liesOn.2.1 27 = .ok (.ifCond .ne 7, 3) := by decide +kernel
theorem d_M_liesOn_30 : decode me_M_liesOn.2.1 30 = .ok (.iconst 1, 1) := by decide +kernel
theorem d_M_liesOn_31 : decode me_M_liesOn.2.1 31 = .ok (.goto 4, 3) := by decide +kernel
theorem d_M_liesOn_34 : decode me_M_liesOn.2.1 34 = .ok (.iconst 0, 1) := by decide +kernel
theorem d_M_liesOn_35 : decode me_M_liesOn.2.1 35 = .ok (.istore 12, 2) := by decide +kernel
theorem d_M_liesOn_37 : decode me_M_liesOn.2.1 37 = .ok (.iload 12, 2) := by decide +kernel
theorem d_M_liesOn_39 : decode me_M_liesOn.2.1 39 = .ok (.ifCond .ne 47, 3) := by decide +kernel
theorem d_M_liesOn_42 : decode me_M_liesOn.2.1 42 = .ok (.lload_n 0, 1) := by decide +kernel
theorem d_M_liesOn_43 : decode me_M_liesOn.2.1 43 = .ok (.lload_n 2, 1) := by decide +kernel
theorem d_M_liesOn_44 : decode me_M_liesOn.2.1 44 = .ok (.lload 4, 2) := by decide +kernel
theorem d_M_liesOn_46 : decode me_M_liesOn.2.1 46 = .ok (.lload 6, 2) := by decide +kernel
theorem d_M_liesOn_48 : decode me_M_liesOn.2.1 48 = .ok (.lload 8, 2) := by decide +kernel
theorem d_M_liesOn_50 : decode me_M_liesOn.2.1 50 = .ok (.lload 10, 2) := by decide +kernel
theorem d_M_liesOn_52 : decode me_M_liesOn.2.1 52 = .ok (.invokestatic 216, 3) := by decide +kernel
theorem d_M_liesOn_55 : decode me_M_liesOn.2.1 55 = .ok (.lconst 0, 1) := by decide +kernel
theorem d_M_liesOn_56 : decode me_M_liesOn.2.1 56 = .ok (.lcmp, 1) := by decide +kernel
theorem d_M_liesOn_57 : decode me_M_liesOn.2.1 57 = .ok (.ifCond .ne 29, 3) := by decide +kernel
theorem d_M_liesOn_60 : decode me_M_liesOn.2.1 60 = .ok (.lload_n 0, 1) := by decide +kernel
theorem d_M_liesOn_61 : decode me_M_liesOn.2.1 61 = .ok (.lload 8, 2) := by decide +kernel
theorem d_M_liesOn_63 : decode me_M_liesOn.2.1 63 = .ok (.lload 4, 2) := by decide +kernel
theorem d_M_liesOn_65 : decode me_M_liesOn.2.1 65 = .ok (.invokestatic 220, 3) := by decide +kernel
theorem d_M_liesOn_68 : decode me_M_liesOn.2.1 68 = .ok (.ifCond .eq 18, 3) := by decide +kernel
theorem d_M_liesOn_71 : decode me_M_liesOn.2.1 71 = .ok (.lload_n 2, 1) := by decide +kernel
theorem d_M_liesOn_72 : decode me_M_liesOn.2.1 72 = .ok (.lload 10, 2) := by decide +kernel
theorem d_M_liesOn_74 : decode me_M_liesOn.2.1 74 = .ok (.lload 6, 2) := by decide +kernel
theorem d_M_liesOn_76 : decode me_M_liesOn.2.1 76 = .ok (.invokestatic 220, 3) := by decide +kernel
theorem d_M_liesOn_79 : decode me_M_liesOn.2.1 79 = .ok (.ifCond .eq 7, 3) := by decide +kernel
theorem d_M_liesOn_82 : decode me_M_liesOn.2.1 82 = .ok (.iconst 1, 1) := by decide +kernel
theorem d_M_liesOn_83 : decode me_M_liesOn.2.1 83 = .ok (.goto 4, 3) := by decide +kernel
theorem d_M_liesOn_86 : decode me_M_liesOn.2.1 86 = .ok (.iconst 0, 1) := by decide +kernel
theorem d_M_liesOn_87 : decode me_M_liesOn.2.1 87 = .ok (.ireturn, 1) := by decide +kernel
noncomputable def f_M_liesOn_35  (a0 : Int64) (a2 : Int64) (a4 : Int64) (a6 : Int64) (a8 : Int64) (a10 : Int64) (s0 : Int32) (m0 : gk_M) : Option (Int32 × gk_M) :=
  if ¬ s0 = 0 then
    some (0, m0)
  else
    gk_bl (f_M_side a0 a2 a4 a6 a8 a10 m0) fun v2 m1 =>
    if ¬ v2 = 0 then
      some (0, m1)
    else
      gk_bi (f_M_isBetween a0 a8 a4 m1) fun v4 m3 =>
      if v4 = 0 then
        some (0, m3)
      else
        gk_bi (f_M_isBetween a2 a10 a6 m3) fun v6 m5 =>
        if v6 = 0 then
          some (0, m5)
        else
          some (1, m5)

theorem s_M_liesOn_35 {z : gk_Z} (K : gk_F tm z me_M_liesOn 2) {r : Int32} {mem2 : gk_M} : ∀ a0 a2 a4 a6 a8 a10 s0 m0, f_M_liesOn_35 a0 a2 a4 a6 a8 a10 s0 m0 = some (r, mem2) → gk_G tm z me_M_liesOn (gk_R tm z (some (.int r)) mem2) m0 [(0, .long a0), (2, .long a2), (4, .long a4), (6, .long a6), (8, .long a8), (10, .long a10)] [.int s0] 35 := by
  intro a0 a2 a4 a6 a8 a10 s0 m0  h
  unfold f_M_liesOn_35 at h
  refine gk_istore (lv2 := [(12, .int s0), (0, .long a0), (2, .long a2), (4, .long a4), (6, .long a6), (8, .long a8), (10, .long a10)]) (pc := 35) K d_M_liesOn_35 (by decide) rfl ?_
  refine gk_iload (pc := 37) K d_M_liesOn_37 rfl ?_
  refine gk_if_ne (tgt := 86) (pc := 39) K d_M_liesOn_39 (by decide) h (fun h => ?_) (fun h => ?_)
  · refine gk_iconst (pc := 86) K d_M_liesOn_86 kc_0 ?_
    exact gk_zretc (pc := 87) K d_M_liesOn_87 rfl (Or.inl rfl) h
  · refine gk_lload_n (pc := 42) K d_M_liesOn_42 rfl ?_
    refine gk_lload_n (pc := 43) K d_M_liesOn_43 rfl ?_
    refine gk_lload (pc := 44) K d_M_liesOn_44 rfl ?_
    refine gk_lload (pc := 46) K d_M_liesOn_46 rfl ?_
    refine gk_lload (pc := 48) K d_M_liesOn_48 rfl ?_
    refine gk_lload (pc := 50) K d_M_liesOn_50 rfl ?_
    obtain ⟨v2, m1, em1, h⟩ := gk_bl_some h
    refine gk_cSl (As := [.long a0, .long a2, .long a4, .long a6, .long a8, .long a10]) (pc := 52) K d_M_liesOn_52 ms_M_216 mc_M_side rfl (s_M_side (gk_FD K)  em1) (by decide) rfl (Nat.le_of_ble_eq_true rfl) ?_
    refine gk_lconst (pc := 55) K d_M_liesOn_55 kl_0 ?_
    refine gk_lc_ne (tgt := 86) (pc := 56) K d_M_liesOn_56 d_M_liesOn_57 (by decide) h (fun h => ?_) (fun h => ?_)
    · refine gk_iconst (pc := 86) K d_M_liesOn_86 kc_0 ?_
      exact gk_zretc (pc := 87) K d_M_liesOn_87 rfl (Or.inl rfl) h
    · refine gk_lload_n (pc := 60) K d_M_liesOn_60 rfl ?_
      refine gk_lload (pc := 61) K d_M_liesOn_61 rfl ?_
      refine gk_lload (pc := 63) K d_M_liesOn_63 rfl ?_
      obtain ⟨v4, m3, em3, h⟩ := gk_bi_some h
      refine gk_cSi (As := [.long a0, .long a8, .long a4]) (pc := 65) K d_M_liesOn_65 ms_M_220 mc_M_isBetween rfl (s_M_isBetween (gk_FD K)  em3) (by decide) rfl (Nat.le_of_ble_eq_true rfl) ?_
      refine gk_if_eq (tgt := 86) (pc := 68) K d_M_liesOn_68 (by decide) h (fun h => ?_) (fun h => ?_)
      · refine gk_iconst (pc := 86) K d_M_liesOn_86 kc_0 ?_
        exact gk_zretc (pc := 87) K d_M_liesOn_87 rfl (Or.inl rfl) h
      · refine gk_lload_n (pc := 71) K d_M_liesOn_71 rfl ?_
        refine gk_lload (pc := 72) K d_M_liesOn_72 rfl ?_
        refine gk_lload (pc := 74) K d_M_liesOn_74 rfl ?_
        obtain ⟨v6, m5, em5, h⟩ := gk_bi_some h
        refine gk_cSi (As := [.long a2, .long a10, .long a6]) (pc := 76) K d_M_liesOn_76 ms_M_220 mc_M_isBetween rfl (s_M_isBetween (gk_FD K)  em5) (by decide) rfl (Nat.le_of_ble_eq_true rfl) ?_
        refine gk_if_eq (tgt := 86) (pc := 79) K d_M_liesOn_79 (by decide) h (fun h => ?_) (fun h => ?_)
        · refine gk_iconst (pc := 86) K d_M_liesOn_86 kc_0 ?_
          exact gk_zretc (pc := 87) K d_M_liesOn_87 rfl (Or.inl rfl) h
        · refine gk_iconst (pc := 82) K d_M_liesOn_82 kc_1 ?_
          refine gk_goto (tgt := 87) (pc := 83) K d_M_liesOn_83 (by decide) ?_
          exact gk_zretc (pc := 87) K d_M_liesOn_87 rfl (Or.inr rfl) h
noncomputable def f_M_liesOn_34  (a0 : Int64) (a2 : Int64) (a4 : Int64) (a6 : Int64) (a8 : Int64) (a10 : Int64) (m0 : gk_M) : Option (Int32 × gk_M) :=
  f_M_liesOn_35 a0 a2 a4 a6 a8 a10 0 m0

theorem s_M_liesOn_34 {z : gk_Z} (K : gk_F tm z me_M_liesOn 2) {r : Int32} {mem2 : gk_M} : ∀ a0 a2 a4 a6 a8 a10 m0, f_M_liesOn_34 a0 a2 a4 a6 a8 a10 m0 = some (r, mem2) → gk_G tm z me_M_liesOn (gk_R tm z (some (.int r)) mem2) m0 [(0, .long a0), (2, .long a2), (4, .long a4), (6, .long a6), (8, .long a8), (10, .long a10)] [] 34 := by
  intro a0 a2 a4 a6 a8 a10 m0  h
  unfold f_M_liesOn_34 at h
  refine gk_iconst (pc := 34) K d_M_liesOn_34 kc_0 ?_
  exact gk_sub [0, 1, 2, 3, 4, 5] rfl (s_M_liesOn_35 K _ _ _ _ _ _ _ _  h)
noncomputable def f_M_liesOn_30  (a0 : Int64) (a2 : Int64) (a4 : Int64) (a6 : Int64) (a8 : Int64) (a10 : Int64) (m0 : gk_M) : Option (Int32 × gk_M) :=
  f_M_liesOn_35 a0 a2 a4 a6 a8 a10 1 m0

theorem s_M_liesOn_30 {z : gk_Z} (K : gk_F tm z me_M_liesOn 2) {r : Int32} {mem2 : gk_M} : ∀ a0 a2 a4 a6 a8 a10 m0, f_M_liesOn_30 a0 a2 a4 a6 a8 a10 m0 = some (r, mem2) → gk_G tm z me_M_liesOn (gk_R tm z (some (.int r)) mem2) m0 [(0, .long a0), (2, .long a2), (4, .long a4), (6, .long a6), (8, .long a8), (10, .long a10)] [] 30 := by
  intro a0 a2 a4 a6 a8 a10 m0  h
  unfold f_M_liesOn_30 at h
  refine gk_iconst (pc := 30) K d_M_liesOn_30 kc_1 ?_
  refine gk_goto (tgt := 35) (pc := 31) K d_M_liesOn_31 (by decide) ?_
  exact gk_sub [0, 1, 2, 3, 4, 5] rfl (s_M_liesOn_35 K _ _ _ _ _ _ _ _  h)
noncomputable def f_M_liesOn_14  (a0 : Int64) (a2 : Int64) (a4 : Int64) (a6 : Int64) (a8 : Int64) (a10 : Int64) (m0 : gk_M) : Option (Int32 × gk_M) :=
  if ¬ a8 = a4 then
    f_M_liesOn_34 a0 a2 a4 a6 a8 a10 m0
  else
    if ¬ a10 = a6 then
      f_M_liesOn_34 a0 a2 a4 a6 a8 a10 m0
    else
      f_M_liesOn_30 a0 a2 a4 a6 a8 a10 m0

theorem s_M_liesOn_14 {z : gk_Z} (K : gk_F tm z me_M_liesOn 2) {r : Int32} {mem2 : gk_M} : ∀ a0 a2 a4 a6 a8 a10 m0, f_M_liesOn_14 a0 a2 a4 a6 a8 a10 m0 = some (r, mem2) → gk_G tm z me_M_liesOn (gk_R tm z (some (.int r)) mem2) m0 [(0, .long a0), (2, .long a2), (4, .long a4), (6, .long a6), (8, .long a8), (10, .long a10)] [] 14 := by
  intro a0 a2 a4 a6 a8 a10 m0  h
  unfold f_M_liesOn_14 at h
  refine gk_lload (pc := 14) K d_M_liesOn_14 rfl ?_
  refine gk_lload (pc := 16) K d_M_liesOn_16 rfl ?_
  refine gk_lc_ne (tgt := 34) (pc := 18) K d_M_liesOn_18 d_M_liesOn_19 (by decide) h (fun h => ?_) (fun h => ?_)
  · exact gk_sub [0, 1, 2, 3, 4, 5] rfl (s_M_liesOn_34 K _ _ _ _ _ _ _  h)
  · refine gk_lload (pc := 22) K d_M_liesOn_22 rfl ?_
    refine gk_lload (pc := 24) K d_M_liesOn_24 rfl ?_
    refine gk_lc_ne (tgt := 34) (pc := 26) K d_M_liesOn_26 d_M_liesOn_27 (by decide) h (fun h => ?_) (fun h => ?_)
    · exact gk_sub [0, 1, 2, 3, 4, 5] rfl (s_M_liesOn_34 K _ _ _ _ _ _ _  h)
    · exact gk_sub [0, 1, 2, 3, 4, 5] rfl (s_M_liesOn_30 K _ _ _ _ _ _ _  h)
noncomputable def f_M_liesOn  (a0 : Int64) (a2 : Int64) (a4 : Int64) (a6 : Int64) (a8 : Int64) (a10 : Int64) (m0 : gk_M) : Option (Int32 × gk_M) :=
  if ¬ a8 = a0 then
    f_M_liesOn_14 a0 a2 a4 a6 a8 a10 m0
  else
    if a10 = a2 then
      f_M_liesOn_30 a0 a2 a4 a6 a8 a10 m0
    else
      f_M_liesOn_14 a0 a2 a4 a6 a8 a10 m0

theorem s_M_liesOn_0 {z : gk_Z} (K : gk_F tm z me_M_liesOn 2) {r : Int32} {mem2 : gk_M} : ∀ a0 a2 a4 a6 a8 a10 m0, f_M_liesOn a0 a2 a4 a6 a8 a10 m0 = some (r, mem2) → gk_G tm z me_M_liesOn (gk_R tm z (some (.int r)) mem2) m0 [(0, .long a0), (2, .long a2), (4, .long a4), (6, .long a6), (8, .long a8), (10, .long a10)] [] 0 := by
  intro a0 a2 a4 a6 a8 a10 m0  h
  unfold f_M_liesOn at h
  refine gk_lload (pc := 0) K d_M_liesOn_0 rfl ?_
  refine gk_lload_n (pc := 2) K d_M_liesOn_2 rfl ?_
  refine gk_lc_ne (tgt := 14) (pc := 3) K d_M_liesOn_3 d_M_liesOn_4 (by decide) h (fun h => ?_) (fun h => ?_)
  · exact gk_sub [0, 1, 2, 3, 4, 5] rfl (s_M_liesOn_14 K _ _ _ _ _ _ _  h)
  · refine gk_lload (pc := 7) K d_M_liesOn_7 rfl ?_
    refine gk_lload_n (pc := 9) K d_M_liesOn_9 rfl ?_
    refine gk_lc_eq (tgt := 30) (pc := 10) K d_M_liesOn_10 d_M_liesOn_11 (by decide) h (fun h => ?_) (fun h => ?_)
    · exact gk_sub [0, 1, 2, 3, 4, 5] rfl (s_M_liesOn_30 K _ _ _ _ _ _ _  h)
    · exact gk_sub [0, 1, 2, 3, 4, 5] rfl (s_M_liesOn_14 K _ _ _ _ _ _ _  h)
theorem s_M_liesOn {l : Launch} {u : gk_U} (hD : gk_D tm u) {a0 : Int64} {a2 : Int64} {a4 : Int64} {a6 : Int64} {a8 : Int64} {a10 : Int64} {m0 mem2 : gk_M} {r : Int32} (h : f_M_liesOn a0 a2 a4 a6 a8 a10 m0 = some (r, mem2)) : gk_C tm l u me_M_liesOn 2 [.long a0, .long a2, .long a4, .long a6, .long a8, .long a10] m0 (some (.int r)) mem2 :=
  gk_enter hD mc_M_liesOn (Nat.le_of_ble_eq_true rfl) rfl (fun z _ _ K => s_M_liesOn_0 K _ _ _ _ _ _ _  h)
theorem d_M_areUnlike_0 : decode me_M_areUnlike.2.1 0 = .ok (.lload_n 0, 1) := by decide +kernel
theorem d_M_areUnlike_1 : decode me_M_areUnlike.2.1 1 = .ok (.lconst 0, 1) := by decide +kernel
theorem d_M_areUnlike_2 : decode me_M_areUnlike.2.1 2 = .ok (.lcmp, 1) := by decide +kernel
theorem d_M_areUnlike_3 : decode me_M_areUnlike.2.1 3 = .ok (.ifCond .ge 9, 3) := by decide +kernel
theorem d_M_areUnlike_6 : decode me_M_areUnlike.2.1 6 = .ok (.lload_n 2, 1) := by decide +kernel
theorem d_M_areUnlike_7 : decode me_M_areUnlike.2.1 7 = .ok (.lconst 0, 1) := by decide +kernel
theorem d_M_areUnlike_8 : decode me_M_areUnlike.2.1 8 = .ok (.lcmp, 1) := by decide +kernel
theorem d_M_areUnlike_9 : decode me_M_areUnlike.2.1 9 = .ok (.ifCond .gt 15, 3) := by decide +kernel
theorem d_M_areUnlike_12 : decode me_M_areUnlike.2.1 12 = .ok (.lload_n 0, 1) := by decide +kernel
theorem d_M_areUnlike_13 : decode me_M_areUnlike.2.1 13 = .ok (.lconst 0, 1) := by decide +kernel
theorem d_M_areUnlike_14 : decode me_M_areUnlike.2.1 14 = .ok (.lcmp, 1) := by decide +kernel
theorem d_M_areUnlike_15 : decode me_M_areUnlike.2.1 15 = .ok (.ifCond .le 13, 3) := by decide +kernel
theorem d_M_areUnlike_18 : decode me_M_areUnlike.2.1 18 = .ok (.lload_n 2, 1) := by decide +kernel
theorem d_M_areUnlike_19 : decode me_M_areUnlike.2.1 19 = .ok (.lconst 0, 1) := by decide +kernel
theorem d_M_areUnlike_20 : decode me_M_areUnlike.2.1 20 = .ok (.lcmp, 1) := by decide +kernel
theorem d_M_areUnlike_21 : decode me_M_areUnlike.2.1 21 = .ok (.ifCond .ge 7, 3) := by decide +kernel
theorem d_M_areUnlike_24 : decode me_M_areUnlike.2.1 24 = .ok (.iconst 1, 1) := by decide +kernel
theorem d_M_areUnlike_25 : decode me_M_areUnlike.2.1 25 = .ok (.goto 4, 3) := by decide +kernel
theorem d_M_areUnlike_28 : decode me_M_areUnlike.2.1 28 = .ok (.iconst 0, 1) := by decide +kernel
theorem d_M_areUnlike_29 : decode me_M_areUnlike.2.1 29 = .ok (.ireturn, 1) := by decide +kernel
noncomputable def f_M_areUnlike_12  (a0 : Int64) (a2 : Int64) (m0 : gk_M) : Option (Int32 × gk_M) :=
  if a0 ≤ 0 then
    some (0, m0)
  else
    if 0 ≤ a2 then
      some (0, m0)
    else
      some (1, m0)

theorem s_M_areUnlike_12 {z : gk_Z} (K : gk_F tm z me_M_areUnlike 1) {r : Int32} {mem2 : gk_M} : ∀ a0 a2 m0, f_M_areUnlike_12 a0 a2 m0 = some (r, mem2) → gk_G tm z me_M_areUnlike (gk_R tm z (some (.int r)) mem2) m0 [(0, .long a0), (2, .long a2)] [] 12 := by
  intro a0 a2 m0  h
  unfold f_M_areUnlike_12 at h
  refine gk_lload_n (pc := 12) K d_M_areUnlike_12 rfl ?_
  refine gk_lconst (pc := 13) K d_M_areUnlike_13 kl_0 ?_
  refine gk_lc_le (tgt := 28) (pc := 14) K d_M_areUnlike_14 d_M_areUnlike_15 (by decide) h (fun h => ?_) (fun h => ?_)
  · refine gk_iconst (pc := 28) K d_M_areUnlike_28 kc_0 ?_
    exact gk_zretc (pc := 29) K d_M_areUnlike_29 rfl (Or.inl rfl) h
  · refine gk_lload_n (pc := 18) K d_M_areUnlike_18 rfl ?_
    refine gk_lconst (pc := 19) K d_M_areUnlike_19 kl_0 ?_
    refine gk_lc_ge (tgt := 28) (pc := 20) K d_M_areUnlike_20 d_M_areUnlike_21 (by decide) h (fun h => ?_) (fun h => ?_)
    · refine gk_iconst (pc := 28) K d_M_areUnlike_28 kc_0 ?_
      exact gk_zretc (pc := 29) K d_M_areUnlike_29 rfl (Or.inl rfl) h
    · refine gk_iconst (pc := 24) K d_M_areUnlike_24 kc_1 ?_
      refine gk_goto (tgt := 29) (pc := 25) K d_M_areUnlike_25 (by decide) ?_
      exact gk_zretc (pc := 29) K d_M_areUnlike_29 rfl (Or.inr rfl) h
noncomputable def f_M_areUnlike  (a0 : Int64) (a2 : Int64) (m0 : gk_M) : Option (Int32 × gk_M) :=
  if 0 ≤ a0 then
    f_M_areUnlike_12 a0 a2 m0
  else
    if 0 < a2 then
      some (1, m0)
    else
      f_M_areUnlike_12 a0 a2 m0

theorem s_M_areUnlike_0 {z : gk_Z} (K : gk_F tm z me_M_areUnlike 1) {r : Int32} {mem2 : gk_M} : ∀ a0 a2 m0, f_M_areUnlike a0 a2 m0 = some (r, mem2) → gk_G tm z me_M_areUnlike (gk_R tm z (some (.int r)) mem2) m0 [(0, .long a0), (2, .long a2)] [] 0 := by
  intro a0 a2 m0  h
  unfold f_M_areUnlike at h
  refine gk_lload_n (pc := 0) K d_M_areUnlike_0 rfl ?_
  refine gk_lconst (pc := 1) K d_M_areUnlike_1 kl_0 ?_
  refine gk_lc_ge (tgt := 12) (pc := 2) K d_M_areUnlike_2 d_M_areUnlike_3 (by decide) h (fun h => ?_) (fun h => ?_)
  · exact gk_sub [0, 1] rfl (s_M_areUnlike_12 K _ _ _  h)
  · refine gk_lload_n (pc := 6) K d_M_areUnlike_6 rfl ?_
    refine gk_lconst (pc := 7) K d_M_areUnlike_7 kl_0 ?_
    refine gk_lc_gt (tgt := 24) (pc := 8) K d_M_areUnlike_8 d_M_areUnlike_9 (by decide) h (fun h => ?_) (fun h => ?_)
    · refine gk_iconst (pc := 24) K d_M_areUnlike_24 kc_1 ?_
      refine gk_goto (tgt := 29) (pc := 25) K d_M_areUnlike_25 (by decide) ?_
      exact gk_zretc (pc := 29) K d_M_areUnlike_29 rfl (Or.inr rfl) h
    · exact gk_sub [0, 1] rfl (s_M_areUnlike_12 K _ _ _  h)
theorem s_M_areUnlike {l : Launch} {u : gk_U} (hD : gk_D tm u) {a0 : Int64} {a2 : Int64} {m0 mem2 : gk_M} {r : Int32} (h : f_M_areUnlike a0 a2 m0 = some (r, mem2)) : gk_C tm l u me_M_areUnlike 1 [.long a0, .long a2] m0 (some (.int r)) mem2 :=
  gk_enter hD mc_M_areUnlike (Nat.le_of_ble_eq_true rfl) rfl (fun z _ _ K => s_M_areUnlike_0 K _ _ _  h)
theorem d_M_stops_0 : decode me_M_stops.2.1 0 = .ok (.aload_n 0, 1) := by decide +kernel
theorem d_M_stops_1 : decode me_M_stops.2.1 1 = .ok (.getfield 37, 3) := by decide +kernel
theorem d_M_stops_4 : decode me_M_stops.2.1 4 = .ok (.iconst 2, 1) := by decide +kernel
theorem d_M_stops_5 : decode me_M_stops.2.1 5 = .ok (.iload_n 1, 1) := by decide +kernel
theorem d_M_stops_6 : decode me_M_stops.2.1 6 = .ok (.imul, 1) := by decide +kernel
theorem d_M_stops_7 : decode me_M_stops.2.1 7 = .ok (.iaload, 1) := by decide +kernel
theorem d_M_stops_8 : decode me_M_stops.2.1 8 = .ok (.bipush 30, 2) := by decide +kernel
theorem d_M_stops_10 : decode me_M_stops.2.1 10 = .ok (.irem, 1) := by decide +kernel
theorem d_M_stops_11 : decode me_M_stops.2.1 11 = .ok (.i2l, 1) := by decide +kernel
theorem d_M_stops_12 : decode me_M_stops.2.1 12 = .ok (.lload 10, 2) := by decide +kernel
theorem d_M_stops_14 : decode me_M_stops.2.1 14 = .ok (.lmul, 1) := by decide +kernel
theorem d_M_stops_15 : decode me_M_stops.2.1 15 = .ok (.lstore 12, 2) := by decide +kernel
theorem d_M_stops_17 : decode me_M_stops.2.1 17 = .ok (.aload_n 0, 1) := by decide +kernel
theorem d_M_stops_18 : decode me_M_stops.2.1 18 = .ok (.getfield 37, 3) := by decide +kernel
theorem d_M_stops_21 : decode me_M_stops.2.1 21 = .ok (.iconst 2, 1) := by decide +kernel
theorem d_M_stops_22 : decode me_M_stops.2.1 22 = .ok (.iload_n 1, 1) := by decide +kernel
theorem d_M_stops_23 : decode me_M_stops.2.1 23 = .ok (.imul, 1) := by decide +kernel
theorem d_M_stops_24 : decode me_M_stops.2.1 24 = .ok (.iaload, 1) := by decide +kernel
theorem d_M_stops_25 : decode me_M_stops.2.1 25 = .ok (.bipush 30, 2) := by decide +kernel
theorem d_M_stops_27 : decode me_M_stops.2.1 27 = .ok (.idiv, 1) := by decide +kernel
theorem d_M_stops_28 : decode me_M_stops.2.1 28 = .ok (.i2l, 1) := by decide +kernel
theorem d_M_stops_29 : decode me_M_stops.2.1 29 = .ok (.lload 10, 2) := by decide +kernel
theorem d_M_stops_31 : decode me_M_stops.2.1 31 = .ok (.lmul, 1) := by decide +kernel
theorem d_M_stops_32 : decode me_M_stops.2.1 32 = .ok (.lstore 14, 2) := by decide +kernel
theorem d_M_stops_34 : decode me_M_stops.2.1 34 = .ok (.aload_n 0, 1) := by decide +kernel
theorem d_M_stops_35 : decode me_M_stops.2.1 35 = .ok (.getfield 37, 3) := by decide +kernel
theorem d_M_stops_38 : decode me_M_stops.2.1 38 = .ok (.iconst 2, 1) := by decide +kernel
theorem d_M_stops_39 : decode me_M_stops.2.1 39 = .ok (.iload_n 1, 1) := by decide +kernel
theorem d_M_stops_40 : decode me_M_stops.2.1 40 = .ok (.imul, 1) := by decide +kernel
theorem d_M_stops_41 : decode me_M_stops.2.1 41 = .ok (.iconst 1, 1) := by decide +kernel
theorem d_M_stops_42 : decode me_M_stops.2.1 42 = .ok (.iadd, 1) := by decide +kernel
theorem d_M_stops_43 : decode me_M_stops.2.1 43 = .ok (.iaload, 1) := by decide +kernel
theorem d_M_stops_44 : decode me_M_stops.2.1 44 = .ok (.bipush 30, 2) := by decide +kernel
theorem d_M_stops_46 : decode me_M_stops.2.1 46 = .ok (.irem, 1) := by decide +kernel
theorem d_M_stops_47 : decode me_M_stops.2.1 47 = .ok (.i2l, 1) := by decide +kernel
theorem d_M_stops_48 : decode me_M_stops.2.1 48 = .ok (.lload 10, 2) := by decide +kernel
theorem d_M_stops_50 : decode me_M_stops.2.1 50 = .ok (.lmul, 1) := by decide +kernel
theorem d_M_stops_51 : decode me_M_stops.2.1 51 = .ok (.lstore 16, 2) := by decide +kernel
theorem d_M_stops_53 : decode me_M_stops.2.1 53 = .ok (.aload_n 0, 1) := by decide +kernel
theorem d_M_stops_54 : decode me_M_stops.2.1 54 = .ok (.getfield 37, 3) := by decide +kernel
theorem d_M_stops_57 : decode me_M_stops.2.1 57 = .ok (.iconst 2, 1) := by decide +kernel
theorem d_M_stops_58 : decode me_M_stops.2.1 58 = .ok (.iload_n 1, 1) := by decide +kernel
theorem d_M_stops_59 : decode me_M_stops.2.1 59 = .ok (.imul, 1) := by decide +kernel
theorem d_M_stops_60 : decode me_M_stops.2.1 60 = .ok (.iconst 1, 1) := by decide +kernel
theorem d_M_stops_61 : decode me_M_stops.2.1 61 = .ok (.iadd, 1) := by decide +kernel
theorem d_M_stops_62 : decode me_M_stops.2.1 62 = .ok (.iaload, 1) := by decide +kernel
theorem d_M_stops_63 : decode me_M_stops.2.1 63 = .ok (.bipush 30, 2) := by decide +kernel
theorem d_M_stops_65 : decode me_M_stops.2.1 65 = .ok (.idiv, 1) := by decide +kernel
theorem d_M_stops_66 : decode me_M_stops.2.1 66 = .ok (.i2l, 1) := by decide +kernel
theorem d_M_stops_67 : decode me_M_stops.2.1 67 = .ok (.lload 10, 2) := by decide +kernel
theorem d_M_stops_69 : decode me_M_stops.2.1 69 = .ok (.lmul, 1) := by decide +kernel
theorem d_M_stops_70 : decode me_M_stops.2.1 70 = .ok (.lstore 18, 2) := by decide +kernel
theorem d_M_stops_72 : decode me_M_stops.2.1 72 = .ok (.lload_n 2, 1) := by decide +kernel
theorem d_M_stops_73 : decode me_M_stops.2.1 73 = .ok (.lload 4, 2) := by decide +kernel
theorem d_M_stops_75 : decode me_M_stops.2.1 75 = .ok (.lload 6, 2) := by decide +kernel
theorem d_M_stops_77 : decode me_M_stops.2.1 77 = .ok (.lload 8, 2) := by decide +kernel
theorem d_M_stops_79 : decode me_M_stops.2.1 79 = .ok (.lload 12, 2) := by decide +kernel
theorem d_M_stops_81 : decode me_M_stops.2.1 81 = .ok (.lload 14, 2) := by decide +kernel
theorem d_M_stops_83 : decode me_M_stops.2.1 83 = .ok (.invokestatic 223, 3) := by decide +kernel
theorem d_M_stops_86 : decode me_M_stops.2.1 86 = .ok (.ifCond .ne 20, 3) := by decide +kernel
theorem d_M_stops_89 : decode me_M_stops.2.1 89 = .ok (.lload_n 2, 1) := by decide +kernel
theorem d_M_stops_90 : decode me_M_stops.2.1 90 = .ok (.lload 4, 2) := by decide +kernel
theorem d_M_stops_92 : decode me_M_stops.2.1 92 = .ok (.lload 6, 2) := by decide +kernel
theorem d_M_stops_94 : decode me_M_stops.2.1 94 = .ok (.lload 8, 2) := by decide +kernel
theorem d_M_stops_96 : decode me_M_stops.2.1 96 = .ok (.lload 16, 2) := by decide +kernel
theorem d_M_stops_98 : decode me_M_stops.2.1 98 = .ok (.lload 18, 2) := by decide +kernel
theorem d_M_stops_100 : decode me_M_stops.2.1 100 = .ok (.invokestatic 223, 3) := by decide +kernel
theorem d_M_stops_103 : decode me_M_stops.2.1 103 = .ok (.ifCond .eq 5, 3) := by decide +kernel
theorem d_M_stops_106 : decode me_M_stops.2.1 106 = .ok (.iconst 1, 1) := by decide +kernel
theorem d_M_stops_107 : decode me_M_stops.2.1 107 = .ok (.ireturn, 1) := by decide +kernel
theorem d_M_stops_108 : decode me_M_stops.2.1 108 = .ok (.lload_n 2, 1) := by decide +kernel
theorem d_M_stops_109 : decode me_M_stops.2.1 109 = .ok (.lload 4, 2) := by decide +kernel
theorem d_M_stops_111 : decode me_M_stops.2.1 111 = .ok (.lload 6, 2) := by decide +kernel
theorem d_M_stops_113 : decode me_M_stops.2.1 113 = .ok (.lload 8, 2) := by decide +kernel
theorem d_M_stops_115 : decode me_M_stops.2.1 115 = .ok (.lload 12, 2) := by decide +kernel
theorem d_M_stops_117 : decode me_M_stops.2.1 117 = .ok (.lload 14, 2) := by decide +kernel
theorem d_M_stops_119 : decode me_M_stops.2.1 119 = .ok (.invokestatic 216, 3) := by decide +kernel
theorem d_M_stops_122 : decode me_M_stops.2.1 122 = .ok (.lstore 20, 2) := by decide +kernel
theorem d_M_stops_124 : decode me_M_stops.2.1 124 = .ok (.lload_n 2, 1) := by decide +kernel
theorem d_M_stops_125 : decode me_M_stops.2.1 125 = .ok (.lload 4, 2) := by decide +kernel
theorem d_M_stops_127 : decode me_M_stops.2.1 127 = .ok (.lload 6, 2) := by decide +kernel
theorem d_M_stops_129 : decode me_M_stops.2.1 129 = .ok (.lload 8, 2) := by decide +kernel
theorem d_M_stops_131 : decode me_M_stops.2.1 131 = .ok (.lload 16, 2) := by decide +kernel
theorem d_M_stops_133 : decode me_M_stops.2.1 133 = .ok (.lload 18, 2) := by decide +kernel
theorem d_M_stops_135 : decode me_M_stops.2.1 135 = .ok (.invokestatic 216, 3) := by decide +kernel
theorem d_M_stops_138 : decode me_M_stops.2.1 138 = .ok (.lstore 22, 2) := by decide +kernel
theorem d_M_stops_140 : decode me_M_stops.2.1 140 = .ok (.lload 20, 2) := by decide +kernel
theorem d_M_stops_142 : decode me_M_stops.2.1 142 = .ok (.lconst 0, 1) := by decide +kernel
theorem d_M_stops_143 : decode me_M_stops.2.1 143 = .ok (.lcmp, 1) := by decide +kernel
theorem d_M_stops_144 : decode me_M_stops.2.1 144 = .ok (.ifCond .ne 63, 3) := by decide +kernel
theorem d_M_stops_147 : decode me_M_stops.2.1 147 = .ok (.lload 22, 2) := by decide +kernel
theorem d_M_stops_149 : decode me_M_stops.2.1 149 = .ok (.lconst 0, 1) := by decide +kernel
theorem d_M_stops_150 : decode me_M_stops.2.1 150 = .ok (.lcmp, 1) := by decide +kernel
theorem d_M_stops_151 : decode me_M_stops.2.1 151 = .ok (.ifCond .ne 56, 3) := by decide +kernel
theorem d_M_stops_154 : decode me_M_stops.2.1 154 = .ok (.lload 12, 2) := by decide +kernel
theorem d_M_stops_156 : decode me_M_stops.2.1 156 = .ok (.lload_n 2, 1) := by decide +kernel
theorem d_M_stops_157 : decode me_M_stops.2.1 157 = .ok (.lload 16, 2) := by decide +kernel
theorem d_M_stops_159 : decode me_M_stops.2.1 159 = .ok (.invokestatic 220, 3) := by decide +kernel
theorem d_M_stops_162 : decode me_M_stops.2.1 162 = .ok (.ifCond .eq 43, 3) := by decide +kernel
theorem d_M_stops_165 : decode me_M_stops.2.1 165 = .ok (.lload 14, 2) := by decide +kernel
theorem d_M_stops_167 : decode me_M_stops.2.1 167 = .ok (.lload 4, 2) := by decide +kernel
theorem d_M_stops_169 : decode me_M_stops.2.1 169 = .ok (.lload 18, 2) := by decide +kernel
theorem d_M_stops_171 : decode me_M_stops.2.1 171 = .ok (.invokestatic 220, 3) := by decide +kernel
theorem d_M_stops_174 : decode me_M_stops.2.1 174 = .ok (.ifCond .eq 31, 3) := by decide +kernel
theorem d_M_stops_177 : decode me_M_stops.2.1 177 = .ok (.lload 12, 2) := by decide +kernel
theorem d_M_stops_179 : decode me_M_stops.2.1 179 = .ok (.lload 6, 2) := by decide +kernel
theorem d_M_stops_181 : decode me_M_stops.2.1 181 = .ok (.lload 16, 2) := by decide +kernel
theorem d_M_stops_183 : decode me_M_stops.2.1 183 = .ok (.invokestatic 220, 3) := by decide +kernel
theorem d_M_stops_186 : decode me_M_stops.2.1 186 = .ok (.ifCond .eq 19, 3) := by decide +kernel
theorem d_M_stops_189 : decode me_M_stops.2.1 189 = .ok (.lload 14, 2) := by decide +kernel
theorem d_M_stops_191 : decode me_M_stops.2.1 191 = .ok (.lload 8, 2) := by decide +kernel
theorem d_M_stops_193 : decode me_M_stops.2.1 193 = .ok (.lload 18, 2) := by decide +kernel
theorem d_M_stops_195 : decode me_M_stops.2.1 195 = .ok (.invokestatic 220, 3) := by decide +kernel
theorem d_M_stops_198 : decode me_M_stops.2.1 198 = .ok (.ifCond .eq 7, 3) := by decide +kernel
theorem d_M_stops_201 : decode me_M_stops.2.1 201 = .ok (.iconst 1, 1) := by decide +kernel
theorem d_M_stops_202 : decode me_M_stops.2.1 202 = .ok (.goto 4, 3) := by decide +kernel
theorem d_M_stops_205 : decode me_M_stops.2.1 205 = .ok (.iconst 0, 1) := by decide +kernel
theorem d_M_stops_206 : decode me_M_stops.2.1 206 = .ok (.ireturn, 1) := by decide +kernel
theorem d_M_stops_207 : decode me_M_stops.2.1 207 = .ok (.lload 20, 2) := by decide +kernel
theorem d_M_stops_209 : decode me_M_stops.2.1 209 = .ok (.lload 22, 2) := by decide +kernel
theorem d_M_stops_211 : decode me_M_stops.2.1 211 = .ok (.invokestatic 227, 3) := by decide +kernel
theorem d_M_stops_214 : decode me_M_stops.2.1 214 = .ok (.ifCond .eq 42, 3) := by decide +kernel
theorem d_M_stops_217 : decode me_M_stops.2.1 217 = .ok (.lload 12, 2) := by decide +kernel
theorem d_M_stops_219 : decode me_M_stops.2.1 219 = .ok (.lload 14, 2) := by decide +kernel
theorem d_M_stops_221 : decode me_M_stops.2.1 221 = .ok (.lload 16, 2) := by decide +kernel
theorem d_M_stops_223 : decode me_M_stops.2.1 223 = .ok (.lload 18, 2) := by decide +kernel
theorem d_M_stops_225 : decode me_M_stops.2.1 225 = .ok (.lload_n 2, 1) := by decide +kernel
theorem d_M_stops_226 : decode me_M_stops.2.1 226 = .ok (.lload 4, 2) := by decide +kernel
theorem d_M_stops_228 : decode me_M_stops.2.1 228 = .ok (.invokestatic 216, 3) := by decide +kernel
theorem d_M_stops_231 : decode me_M_stops.2.1 231 = .ok (.lload 12, 2) := by decide +kernel
theorem d_M_stops_233 : decode me_M_stops.2.1 233 = .ok (.lload 14, 2) := by decide +kernel
theorem d_M_stops_235 : decode me_M_stops.2.1 235 = .ok (.lload 16, 2) := by decide +kernel
theorem d_M_stops_237 : decode me_M_stops.2.1 237 = .ok (.lload 18, 2) := by decide +kernel
theorem d_M_stops_239 : decode me_M_stops.2.1 239 = .ok (.lload 6, 2) := by decide +kernel
theorem d_M_stops_241 : decode me_M_stops.2.1 241 = .ok (.lload 8, 2) := by decide +kernel
theorem d_M_stops_243 : decode me_M_stops.2.1 243 = .ok (.invokestatic 216, 3) := by decide +kernel
theorem d_M_stops_246 : decode me_M_stops.2.1 246 = .ok (.invokestatic 227, 3) := by decide +kernel
theorem d_M_stops_249 : decode me_M_stops.2.1 249 = .ok (.ifCond .eq 7, 3) := by decide +kernel
theorem d_M_stops_252 : decode me_M_stops.2.1 252 = .ok (.iconst 1, 1) := by decide +kernel
theorem d_M_stops_253 : decode me_M_stops.2.1 253 = .ok (.goto 4, 3) := by decide +kernel
theorem d_M_stops_256 : decode me_M_stops.2.1 256 = .ok (.iconst 0, 1) := by decide +kernel
theorem d_M_stops_257 : decode me_M_stops.2.1 257 = .ok (.ireturn, 1) := by decide +kernel
noncomputable def f_M_stops_207  (a2 : Int64) (a4 : Int64) (a6 : Int64) (a8 : Int64) (a12 : Int64) (a14 : Int64) (a16 : Int64) (a18 : Int64) (a20 : Int64) (a22 : Int64) (m0 : gk_M) : Option (Int32 × gk_M) :=
  gk_bi (f_M_areUnlike a20 a22 m0) fun v2 m1 =>
  if v2 = 0 then
    some (0, m1)
  else
    gk_bl (f_M_side a12 a14 a16 a18 a2 a4 m1) fun v4 m3 =>
    gk_bl (f_M_side a12 a14 a16 a18 a6 a8 m3) fun v6 m5 =>
    gk_bi (f_M_areUnlike v4 v6 m5) fun v8 m7 =>
    if v8 = 0 then
      some (0, m7)
    else
      some (1, m7)

theorem s_M_stops_207 {z : gk_Z} (K : gk_F tm z me_M_stops 3) {r : Int32} {mem2 : gk_M} : ∀ a2 a4 a6 a8 a12 a14 a16 a18 a20 a22 m0, f_M_stops_207 a2 a4 a6 a8 a12 a14 a16 a18 a20 a22 m0 = some (r, mem2) → gk_G tm z me_M_stops (gk_R tm z (some (.int r)) mem2) m0 [(2, .long a2), (4, .long a4), (6, .long a6), (8, .long a8), (12, .long a12), (14, .long a14), (16, .long a16), (18, .long a18), (20, .long a20), (22, .long a22)] [] 207 := by
  intro a2 a4 a6 a8 a12 a14 a16 a18 a20 a22 m0  h
  unfold f_M_stops_207 at h
  refine gk_lload (pc := 207) K d_M_stops_207 rfl ?_
  refine gk_lload (pc := 209) K d_M_stops_209 rfl ?_
  obtain ⟨v2, m1, em1, h⟩ := gk_bi_some h
  refine gk_cSi (As := [.long a20, .long a22]) (pc := 211) K d_M_stops_211 ms_M_227 mc_M_areUnlike rfl (s_M_areUnlike (gk_FD K)  em1) (by decide) rfl (Nat.le_of_ble_eq_true rfl) ?_
  refine gk_if_eq (tgt := 256) (pc := 214) K d_M_stops_214 (by decide) h (fun h => ?_) (fun h => ?_)
  · refine gk_iconst (pc := 256) K d_M_stops_256 kc_0 ?_
    exact gk_zretc (pc := 257) K d_M_stops_257 rfl (Or.inl rfl) h
  · refine gk_lload (pc := 217) K d_M_stops_217 rfl ?_
    refine gk_lload (pc := 219) K d_M_stops_219 rfl ?_
    refine gk_lload (pc := 221) K d_M_stops_221 rfl ?_
    refine gk_lload (pc := 223) K d_M_stops_223 rfl ?_
    refine gk_lload_n (pc := 225) K d_M_stops_225 rfl ?_
    refine gk_lload (pc := 226) K d_M_stops_226 rfl ?_
    obtain ⟨v4, m3, em3, h⟩ := gk_bl_some h
    refine gk_cSl (As := [.long a12, .long a14, .long a16, .long a18, .long a2, .long a4]) (pc := 228) K d_M_stops_228 ms_M_216 mc_M_side rfl (s_M_side (gk_FD K)  em3) (by decide) rfl (Nat.le_of_ble_eq_true rfl) ?_
    refine gk_lload (pc := 231) K d_M_stops_231 rfl ?_
    refine gk_lload (pc := 233) K d_M_stops_233 rfl ?_
    refine gk_lload (pc := 235) K d_M_stops_235 rfl ?_
    refine gk_lload (pc := 237) K d_M_stops_237 rfl ?_
    refine gk_lload (pc := 239) K d_M_stops_239 rfl ?_
    refine gk_lload (pc := 241) K d_M_stops_241 rfl ?_
    obtain ⟨v6, m5, em5, h⟩ := gk_bl_some h
    refine gk_cSl (As := [.long a12, .long a14, .long a16, .long a18, .long a6, .long a8]) (pc := 243) K d_M_stops_243 ms_M_216 mc_M_side rfl (s_M_side (gk_FD K)  em5) (by decide) rfl (Nat.le_of_ble_eq_true rfl) ?_
    obtain ⟨v8, m7, em7, h⟩ := gk_bi_some h
    refine gk_cSi (As := [.long v4, .long v6]) (pc := 246) K d_M_stops_246 ms_M_227 mc_M_areUnlike rfl (s_M_areUnlike (gk_FD K)  em7) (by decide) rfl (Nat.le_of_ble_eq_true rfl) ?_
    refine gk_if_eq (tgt := 256) (pc := 249) K d_M_stops_249 (by decide) h (fun h => ?_) (fun h => ?_)
    · refine gk_iconst (pc := 256) K d_M_stops_256 kc_0 ?_
      exact gk_zretc (pc := 257) K d_M_stops_257 rfl (Or.inl rfl) h
    · refine gk_iconst (pc := 252) K d_M_stops_252 kc_1 ?_
      refine gk_goto (tgt := 257) (pc := 253) K d_M_stops_253 (by decide) ?_
      exact gk_zretc (pc := 257) K d_M_stops_257 rfl (Or.inr rfl) h
noncomputable def f_M_stops  (a1 : Int32) (a2 : Int64) (a4 : Int64) (a6 : Int64) (a8 : Int64) (a10 : Int64) (m0 : gk_M) : Option (Int32 × gk_M) :=
  gk_ai m0 10 16 (2 * a1) fun v1 =>
  gk_let ((gk_rem v1 30).toInt64 * a10) fun v2 =>
  gk_ai m0 10 16 (2 * a1) fun v3 =>
  gk_let ((v3 / 30).toInt64 * a10) fun v4 =>
  gk_ai m0 10 16 ((2 * a1) + 1) fun v5 =>
  gk_let ((gk_rem v5 30).toInt64 * a10) fun v6 =>
  gk_ai m0 10 16 ((2 * a1) + 1) fun v7 =>
  gk_let ((v7 / 30).toInt64 * a10) fun v8 =>
  gk_bi (f_M_liesOn a2 a4 a6 a8 v2 v4 m0) fun v10 m9 =>
  if ¬ v10 = 0 then
    some (1, m9)
  else
    gk_bi (f_M_liesOn a2 a4 a6 a8 v6 v8 m9) fun v12 m11 =>
    if v12 = 0 then
      gk_bl (f_M_side a2 a4 a6 a8 v2 v4 m11) fun v14 m13 =>
      gk_bl (f_M_side a2 a4 a6 a8 v6 v8 m13) fun v16 m15 =>
      if ¬ v14 = 0 then
        f_M_stops_207 a2 a4 a6 a8 v2 v4 v6 v8 v14 v16 m15
      else
        if ¬ v16 = 0 then
          f_M_stops_207 a2 a4 a6 a8 v2 v4 v6 v8 v14 v16 m15
        else
          gk_bi (f_M_isBetween v2 a2 v6 m15) fun v18 m17 =>
          if v18 = 0 then
            some (0, m17)
          else
            gk_bi (f_M_isBetween v4 a4 v8 m17) fun v20 m19 =>
            if v20 = 0 then
              some (0, m19)
            else
              gk_bi (f_M_isBetween v2 a6 v6 m19) fun v22 m21 =>
              if v22 = 0 then
                some (0, m21)
              else
                gk_bi (f_M_isBetween v4 a8 v8 m21) fun v24 m23 =>
                if v24 = 0 then
                  some (0, m23)
                else
                  some (1, m23)
    else
      some (1, m11)

theorem s_M_stops_0 {z : gk_Z} (K : gk_F tm z me_M_stops 3) {r : Int32} {mem2 : gk_M} : ∀ a1 a2 a4 a6 a8 a10 m0, f_M_stops a1 a2 a4 a6 a8 a10 m0 = some (r, mem2) → gk_G tm z me_M_stops (gk_R tm z (some (.int r)) mem2) m0 [(0, .ref 0), (1, .int a1), (2, .long a2), (4, .long a4), (6, .long a6), (8, .long a8), (10, .long a10)] [] 0 := by
  intro a1 a2 a4 a6 a8 a10 m0  h
  unfold f_M_stops at h
  refine gk_aload_n (pc := 0) K d_M_stops_0 rfl ?_
  refine gk_get (pc := 1) K d_M_stops_1 fl_M_37 tm_0 rfl rfl ?_
  refine gk_iconst (pc := 4) K d_M_stops_4 kc_2 ?_
  refine gk_iload_n (pc := 5) K d_M_stops_5 rfl ?_
  refine gk_imul (pc := 6) K d_M_stops_6 ?_
  refine gk_iald (pc := 7) K d_M_stops_7 tm_10 h (fun v1 h => ?_)
  refine gk_bipush (pc := 8) K d_M_stops_8 kb_30 ?_
  refine gk_iremc2 (pc := 10) K d_M_stops_10 (by decide) ?_
  refine gk_i2l (pc := 11) K d_M_stops_11 ?_
  refine gk_lload (pc := 12) K d_M_stops_12 rfl ?_
  refine gk_lmul (pc := 14) K d_M_stops_14 ?_
  refine gk_topl h (fun v2 h => ?_)
  refine gk_lstore (lv2 := [(12, .long v2), (0, .ref 0), (1, .int a1), (2, .long a2), (4, .long a4), (6, .long a6), (8, .long a8), (10, .long a10)]) (pc := 15) K d_M_stops_15 (by decide) rfl ?_
  refine gk_aload_n (pc := 17) K d_M_stops_17 rfl ?_
  refine gk_get (pc := 18) K d_M_stops_18 fl_M_37 tm_0 rfl rfl ?_
  refine gk_iconst (pc := 21) K d_M_stops_21 kc_2 ?_
  refine gk_iload_n (pc := 22) K d_M_stops_22 rfl ?_
  refine gk_imul (pc := 23) K d_M_stops_23 ?_
  refine gk_iald (pc := 24) K d_M_stops_24 tm_10 h (fun v3 h => ?_)
  refine gk_bipush (pc := 25) K d_M_stops_25 kb_30 ?_
  refine gk_idivc2 (pc := 27) K d_M_stops_27 (by decide) ?_
  refine gk_i2l (pc := 28) K d_M_stops_28 ?_
  refine gk_lload (pc := 29) K d_M_stops_29 rfl ?_
  refine gk_lmul (pc := 31) K d_M_stops_31 ?_
  refine gk_topl h (fun v4 h => ?_)
  refine gk_lstore (lv2 := [(14, .long v4), (12, .long v2), (0, .ref 0), (1, .int a1), (2, .long a2), (4, .long a4), (6, .long a6), (8, .long a8), (10, .long a10)]) (pc := 32) K d_M_stops_32 (by decide) rfl ?_
  refine gk_aload_n (pc := 34) K d_M_stops_34 rfl ?_
  refine gk_get (pc := 35) K d_M_stops_35 fl_M_37 tm_0 rfl rfl ?_
  refine gk_iconst (pc := 38) K d_M_stops_38 kc_2 ?_
  refine gk_iload_n (pc := 39) K d_M_stops_39 rfl ?_
  refine gk_imul (pc := 40) K d_M_stops_40 ?_
  refine gk_iconst (pc := 41) K d_M_stops_41 kc_1 ?_
  refine gk_iadd (pc := 42) K d_M_stops_42 ?_
  refine gk_iald (pc := 43) K d_M_stops_43 tm_10 h (fun v5 h => ?_)
  refine gk_bipush (pc := 44) K d_M_stops_44 kb_30 ?_
  refine gk_iremc2 (pc := 46) K d_M_stops_46 (by decide) ?_
  refine gk_i2l (pc := 47) K d_M_stops_47 ?_
  refine gk_lload (pc := 48) K d_M_stops_48 rfl ?_
  refine gk_lmul (pc := 50) K d_M_stops_50 ?_
  refine gk_topl h (fun v6 h => ?_)
  refine gk_lstore (lv2 := [(16, .long v6), (14, .long v4), (12, .long v2), (0, .ref 0), (1, .int a1), (2, .long a2), (4, .long a4), (6, .long a6), (8, .long a8), (10, .long a10)]) (pc := 51) K d_M_stops_51 (by decide) rfl ?_
  refine gk_aload_n (pc := 53) K d_M_stops_53 rfl ?_
  refine gk_get (pc := 54) K d_M_stops_54 fl_M_37 tm_0 rfl rfl ?_
  refine gk_iconst (pc := 57) K d_M_stops_57 kc_2 ?_
  refine gk_iload_n (pc := 58) K d_M_stops_58 rfl ?_
  refine gk_imul (pc := 59) K d_M_stops_59 ?_
  refine gk_iconst (pc := 60) K d_M_stops_60 kc_1 ?_
  refine gk_iadd (pc := 61) K d_M_stops_61 ?_
  refine gk_iald (pc := 62) K d_M_stops_62 tm_10 h (fun v7 h => ?_)
  refine gk_bipush (pc := 63) K d_M_stops_63 kb_30 ?_
  refine gk_idivc2 (pc := 65) K d_M_stops_65 (by decide) ?_
  refine gk_i2l (pc := 66) K d_M_stops_66 ?_
  refine gk_lload (pc := 67) K d_M_stops_67 rfl ?_
  refine gk_lmul (pc := 69) K d_M_stops_69 ?_
  refine gk_topl h (fun v8 h => ?_)
  refine gk_lstore (lv2 := [(18, .long v8), (16, .long v6), (14, .long v4), (12, .long v2), (0, .ref 0), (1, .int a1), (2, .long a2), (4, .long a4), (6, .long a6), (8, .long a8), (10, .long a10)]) (pc := 70) K d_M_stops_70 (by decide) rfl ?_
  refine gk_lload_n (pc := 72) K d_M_stops_72 rfl ?_
  refine gk_lload (pc := 73) K d_M_stops_73 rfl ?_
  refine gk_lload (pc := 75) K d_M_stops_75 rfl ?_
  refine gk_lload (pc := 77) K d_M_stops_77 rfl ?_
  refine gk_lload (pc := 79) K d_M_stops_79 rfl ?_
  refine gk_lload (pc := 81) K d_M_stops_81 rfl ?_
  obtain ⟨v10, m9, em9, h⟩ := gk_bi_some h
  refine gk_cSi (As := [.long a2, .long a4, .long a6, .long a8, .long v2, .long v4]) (pc := 83) K d_M_stops_83 ms_M_223 mc_M_liesOn rfl (s_M_liesOn (gk_FD K)  em9) (by decide) rfl (Nat.le_of_ble_eq_true rfl) ?_
  refine gk_if_ne (tgt := 106) (pc := 86) K d_M_stops_86 (by decide) h (fun h => ?_) (fun h => ?_)
  · refine gk_iconst (pc := 106) K d_M_stops_106 kc_1 ?_
    exact gk_zretc (pc := 107) K d_M_stops_107 rfl (Or.inr rfl) h
  · refine gk_lload_n (pc := 89) K d_M_stops_89 rfl ?_
    refine gk_lload (pc := 90) K d_M_stops_90 rfl ?_
    refine gk_lload (pc := 92) K d_M_stops_92 rfl ?_
    refine gk_lload (pc := 94) K d_M_stops_94 rfl ?_
    refine gk_lload (pc := 96) K d_M_stops_96 rfl ?_
    refine gk_lload (pc := 98) K d_M_stops_98 rfl ?_
    obtain ⟨v12, m11, em11, h⟩ := gk_bi_some h
    refine gk_cSi (As := [.long a2, .long a4, .long a6, .long a8, .long v6, .long v8]) (pc := 100) K d_M_stops_100 ms_M_223 mc_M_liesOn rfl (s_M_liesOn (gk_FD K)  em11) (by decide) rfl (Nat.le_of_ble_eq_true rfl) ?_
    refine gk_if_eq (tgt := 108) (pc := 103) K d_M_stops_103 (by decide) h (fun h => ?_) (fun h => ?_)
    · refine gk_lload_n (pc := 108) K d_M_stops_108 rfl ?_
      refine gk_lload (pc := 109) K d_M_stops_109 rfl ?_
      refine gk_lload (pc := 111) K d_M_stops_111 rfl ?_
      refine gk_lload (pc := 113) K d_M_stops_113 rfl ?_
      refine gk_lload (pc := 115) K d_M_stops_115 rfl ?_
      refine gk_lload (pc := 117) K d_M_stops_117 rfl ?_
      obtain ⟨v14, m13, em13, h⟩ := gk_bl_some h
      refine gk_cSl (As := [.long a2, .long a4, .long a6, .long a8, .long v2, .long v4]) (pc := 119) K d_M_stops_119 ms_M_216 mc_M_side rfl (s_M_side (gk_FD K)  em13) (by decide) rfl (Nat.le_of_ble_eq_true rfl) ?_
      refine gk_lstore (lv2 := [(20, .long v14), (18, .long v8), (16, .long v6), (14, .long v4), (12, .long v2), (0, .ref 0), (1, .int a1), (2, .long a2), (4, .long a4), (6, .long a6), (8, .long a8), (10, .long a10)]) (pc := 122) K d_M_stops_122 (by decide) rfl ?_
      refine gk_lload_n (pc := 124) K d_M_stops_124 rfl ?_
      refine gk_lload (pc := 125) K d_M_stops_125 rfl ?_
      refine gk_lload (pc := 127) K d_M_stops_127 rfl ?_
      refine gk_lload (pc := 129) K d_M_stops_129 rfl ?_
      refine gk_lload (pc := 131) K d_M_stops_131 rfl ?_
      refine gk_lload (pc := 133) K d_M_stops_133 rfl ?_
      obtain ⟨v16, m15, em15, h⟩ := gk_bl_some h
      refine gk_cSl (As := [.long a2, .long a4, .long a6, .long a8, .long v6, .long v8]) (pc := 135) K d_M_stops_135 ms_M_216 mc_M_side rfl (s_M_side (gk_FD K)  em15) (by decide) rfl (Nat.le_of_ble_eq_true rfl) ?_
      refine gk_lstore (lv2 := [(22, .long v16), (20, .long v14), (18, .long v8), (16, .long v6), (14, .long v4), (12, .long v2), (0, .ref 0), (1, .int a1), (2, .long a2), (4, .long a4), (6, .long a6), (8, .long a8), (10, .long a10)]) (pc := 138) K d_M_stops_138 (by decide) rfl ?_
      refine gk_lload (pc := 140) K d_M_stops_140 rfl ?_
      refine gk_lconst (pc := 142) K d_M_stops_142 kl_0 ?_
      refine gk_lc_ne (tgt := 207) (pc := 143) K d_M_stops_143 d_M_stops_144 (by decide) h (fun h => ?_) (fun h => ?_)
      · exact gk_sub [8, 9, 10, 11, 5, 4, 3, 2, 1, 0] rfl (s_M_stops_207 K _ _ _ _ _ _ _ _ _ _ _  h)
      · refine gk_lload (pc := 147) K d_M_stops_147 rfl ?_
        refine gk_lconst (pc := 149) K d_M_stops_149 kl_0 ?_
        refine gk_lc_ne (tgt := 207) (pc := 150) K d_M_stops_150 d_M_stops_151 (by decide) h (fun h => ?_) (fun h => ?_)
        · exact gk_sub [8, 9, 10, 11, 5, 4, 3, 2, 1, 0] rfl (s_M_stops_207 K _ _ _ _ _ _ _ _ _ _ _  h)
        · refine gk_lload (pc := 154) K d_M_stops_154 rfl ?_
          refine gk_lload_n (pc := 156) K d_M_stops_156 rfl ?_
          refine gk_lload (pc := 157) K d_M_stops_157 rfl ?_
          obtain ⟨v18, m17, em17, h⟩ := gk_bi_some h
          refine gk_cSi (As := [.long v2, .long a2, .long v6]) (pc := 159) K d_M_stops_159 ms_M_220 mc_M_isBetween rfl (s_M_isBetween (gk_FD K)  em17) (by decide) rfl (Nat.le_of_ble_eq_true rfl) ?_
          refine gk_if_eq (tgt := 205) (pc := 162) K d_M_stops_162 (by decide) h (fun h => ?_) (fun h => ?_)
          · refine gk_iconst (pc := 205) K d_M_stops_205 kc_0 ?_
            exact gk_zretc (pc := 206) K d_M_stops_206 rfl (Or.inl rfl) h
          · refine gk_lload (pc := 165) K d_M_stops_165 rfl ?_
            refine gk_lload (pc := 167) K d_M_stops_167 rfl ?_
            refine gk_lload (pc := 169) K d_M_stops_169 rfl ?_
            obtain ⟨v20, m19, em19, h⟩ := gk_bi_some h
            refine gk_cSi (As := [.long v4, .long a4, .long v8]) (pc := 171) K d_M_stops_171 ms_M_220 mc_M_isBetween rfl (s_M_isBetween (gk_FD K)  em19) (by decide) rfl (Nat.le_of_ble_eq_true rfl) ?_
            refine gk_if_eq (tgt := 205) (pc := 174) K d_M_stops_174 (by decide) h (fun h => ?_) (fun h => ?_)
            · refine gk_iconst (pc := 205) K d_M_stops_205 kc_0 ?_
              exact gk_zretc (pc := 206) K d_M_stops_206 rfl (Or.inl rfl) h
            · refine gk_lload (pc := 177) K d_M_stops_177 rfl ?_
              refine gk_lload (pc := 179) K d_M_stops_179 rfl ?_
              refine gk_lload (pc := 181) K d_M_stops_181 rfl ?_
              obtain ⟨v22, m21, em21, h⟩ := gk_bi_some h
              refine gk_cSi (As := [.long v2, .long a6, .long v6]) (pc := 183) K d_M_stops_183 ms_M_220 mc_M_isBetween rfl (s_M_isBetween (gk_FD K)  em21) (by decide) rfl (Nat.le_of_ble_eq_true rfl) ?_
              refine gk_if_eq (tgt := 205) (pc := 186) K d_M_stops_186 (by decide) h (fun h => ?_) (fun h => ?_)
              · refine gk_iconst (pc := 205) K d_M_stops_205 kc_0 ?_
                exact gk_zretc (pc := 206) K d_M_stops_206 rfl (Or.inl rfl) h
              · refine gk_lload (pc := 189) K d_M_stops_189 rfl ?_
                refine gk_lload (pc := 191) K d_M_stops_191 rfl ?_
                refine gk_lload (pc := 193) K d_M_stops_193 rfl ?_
                obtain ⟨v24, m23, em23, h⟩ := gk_bi_some h
                refine gk_cSi (As := [.long v4, .long a8, .long v8]) (pc := 195) K d_M_stops_195 ms_M_220 mc_M_isBetween rfl (s_M_isBetween (gk_FD K)  em23) (by decide) rfl (Nat.le_of_ble_eq_true rfl) ?_
                refine gk_if_eq (tgt := 205) (pc := 198) K d_M_stops_198 (by decide) h (fun h => ?_) (fun h => ?_)
                · refine gk_iconst (pc := 205) K d_M_stops_205 kc_0 ?_
                  exact gk_zretc (pc := 206) K d_M_stops_206 rfl (Or.inl rfl) h
                · refine gk_iconst (pc := 201) K d_M_stops_201 kc_1 ?_
                  refine gk_goto (tgt := 206) (pc := 202) K d_M_stops_202 (by decide) ?_
                  exact gk_zretc (pc := 206) K d_M_stops_206 rfl (Or.inr rfl) h
    · refine gk_iconst (pc := 106) K d_M_stops_106 kc_1 ?_
      exact gk_zretc (pc := 107) K d_M_stops_107 rfl (Or.inr rfl) h
theorem s_M_stops {l : Launch} {u : gk_U} (hD : gk_D tm u) {a1 : Int32} {a2 : Int64} {a4 : Int64} {a6 : Int64} {a8 : Int64} {a10 : Int64} {m0 mem2 : gk_M} {r : Int32} (h : f_M_stops a1 a2 a4 a6 a8 a10 m0 = some (r, mem2)) : gk_C tm l u me_M_stops 3 [.ref 0, .int a1, .long a2, .long a4, .long a6, .long a8, .long a10] m0 (some (.int r)) mem2 :=
  gk_enter hD mc_M_stops (Nat.le_of_ble_eq_true rfl) rfl (fun z _ _ K => s_M_stops_0 K _ _ _ _ _ _ _  h)
theorem d_M_isStopped_0 : decode me_M_isStopped.2.1 0 = .ok (.iconst 0, 1) := by decide +kernel
theorem d_M_isStopped_1 : decode me_M_isStopped.2.1 1 = .ok (.istore 8, 2) := by decide +kernel
theorem d_M_isStopped_3 : decode me_M_isStopped.2.1 3 = .ok (.iload 8, 2) := by decide +kernel
theorem d_M_isStopped_5 : decode me_M_isStopped.2.1 5 = .ok (.aload_n 0, 1) := by decide +kernel
theorem d_M_isStopped_6 : decode me_M_isStopped.2.1 6 = .ok (.getfield 139, 3) := by decide +kernel
theorem d_M_isStopped_9 : decode me_M_isStopped.2.1 9 = .ok (.if_icmp .ge 52, 3) := by decide +kernel
theorem d_M_isStopped_12 : decode me_M_isStopped.2.1 12 = .ok (.aload_n 0, 1) := by decide +kernel
theorem d_M_isStopped_13 : decode me_M_isStopped.2.1 13 = .ok (.iload 8, 2) := by decide +kernel
theorem d_M_isStopped_15 : decode me_M_isStopped.2.1 15 = .ok (.lload_n 1, 1) := by decide +kernel
theorem d_M_isStopped_16 : decode me_M_isStopped.2.1 16 = .ok (.lload_n 3, 1) := by decide +kernel
theorem d_M_isStopped_17 : decode me_M_isStopped.2.1 17 = .ok (.aload_n 0, 1) := by decide +kernel
theorem d_M_isStopped_18 : decode me_M_isStopped.2.1 18 = .ok (.getfield 22, 3) := by decide +kernel
theorem d_M_isStopped_21 : decode me_M_isStopped.2.1 21 = .ok (.iload 7, 2) := by decide +kernel
theorem d_M_isStopped_23 : decode me_M_isStopped.2.1 23 = .ok (.iaload, 1) := by decide +kernel
theorem d_M_isStopped_24 : decode me_M_isStopped.2.1 24 = .ok (.bipush 30, 2) := by decide +kernel
theorem d_M_isStopped_26 : decode me_M_isStopped.2.1 26 = .ok (.irem, 1) := by decide +kernel
theorem d_M_isStopped_27 : decode me_M_isStopped.2.1 27 = .ok (.i2l, 1) := by decide +kernel
theorem d_M_isStopped_28 : decode me_M_isStopped.2.1 28 = .ok (.lload 5, 2) := by decide +kernel
theorem d_M_isStopped_30 : decode me_M_isStopped.2.1 30 = .ok (.lmul, 1) := by decide +kernel
theorem d_M_isStopped_31 : decode me_M_isStopped.2.1 31 = .ok (.aload_n 0, 1) := by decide +kernel
theorem d_M_isStopped_32 : decode me_M_isStopped.2.1 32 = .ok (.getfield 22, 3) := by decide +kernel
theorem d_M_isStopped_35 : decode me_M_isStopped.2.1 35 = .ok (.iload 7, 2) := by decide +kernel
theorem d_M_isStopped_37 : decode me_M_isStopped.2.1 37 = .ok (.iaload, 1) := by decide +kernel
theorem d_M_isStopped_38 : decode me_M_isStopped.2.1 38 = .ok (.bipush 30, 2) := by decide +kernel
theorem d_M_isStopped_40 : decode me_M_isStopped.2.1 40 = .ok (.idiv, 1) := by decide +kernel
theorem d_M_isStopped_41 : decode me_M_isStopped.2.1 41 = .ok (.i2l, 1) := by decide +kernel
theorem d_M_isStopped_42 : decode me_M_isStopped.2.1 42 = .ok (.lload 5, 2) := by decide +kernel
theorem d_M_isStopped_44 : decode me_M_isStopped.2.1 44 = .ok (.lmul, 1) := by decide +kernel
theorem d_M_isStopped_45 : decode me_M_isStopped.2.1 45 = .ok (.lload 5, 2) := by decide +kernel
theorem d_M_isStopped_47 : decode me_M_isStopped.2.1 47 = .ok (.invokevirtual 231, 3) := by decide +kernel
theorem d_M_isStopped_50 : decode me_M_isStopped.2.1 50 = .ok (.ifCond .eq 5, 3) := by decide +kernel
theorem d_M_isStopped_53 : decode me_M_isStopped.2.1 53 = .ok (.iconst 1, 1) := by decide +kernel
theorem d_M_isStopped_54 : decode me_M_isStopped.2.1 54 = .ok (.ireturn, 1) := by decide +kernel
theorem d_M_isStopped_55 : decode me_M_isStopped.2.1 55 = .ok (.iinc 8 1, 3) := by decide +kernel
theorem d_M_isStopped_58 : decode me_M_isStopped.2.1 58 = .ok (.goto (-55), 3) := by decide +kernel
theorem d_M_isStopped_61 : decode me_M_isStopped.2.1 61 = .ok (.iconst 0, 1) := by decide +kernel
theorem d_M_isStopped_62 : decode me_M_isStopped.2.1 62 = .ok (.ireturn, 1) := by decide +kernel
noncomputable def f_M_isStopped_3  : Nat → Int64 → Int64 → Int64 → Int32 → Int32 → gk_M → Option (Int32 × gk_M)
  | 0, _, _, _, _, _, _ => none
  | n + 1, a1, a3, a5, a7, a8, m0 =>
    if (m0.1 0 13) ≤ a8 then
      some (0, m0)
    else
      gk_ai m0 5 20 a7 fun v1 =>
      gk_ai m0 5 20 a7 fun v2 =>
      gk_bi (f_M_stops a8 a1 a3 ((gk_rem v1 30).toInt64 * a5) ((v2 / 30).toInt64 * a5) a5 m0) fun v4 m3 =>
      if v4 = 0 then
        f_M_isStopped_3 n a1 a3 a5 a7 (a8 + 1) m3
      else
        some (1, m3)

theorem s_M_isStopped_3 {z : gk_Z} (K : gk_F tm z me_M_isStopped 4) {r : Int32} {mem2 : gk_M} : ∀ n a1 a3 a5 a7 a8 m0, f_M_isStopped_3 n a1 a3 a5 a7 a8 m0 = some (r, mem2) → gk_G tm z me_M_isStopped (gk_R tm z (some (.int r)) mem2) m0 [(0, .ref 0), (1, .long a1), (3, .long a3), (5, .long a5), (7, .int a7), (8, .int a8)] [] 3 := by
  intro n
  induction n with
  | zero => intro a1 a3 a5 a7 a8 m0  h; exact nomatch (show (none : Option _) = some _ from h)
  | succ n ih =>
    intro a1 a3 a5 a7 a8 m0  h
    unfold f_M_isStopped_3 at h
    refine gk_iload (pc := 3) K d_M_isStopped_3 rfl ?_
    refine gk_aload_n (pc := 5) K d_M_isStopped_5 rfl ?_
    refine gk_get (pc := 6) K d_M_isStopped_6 fl_M_139 tm_0 rfl rfl ?_
    refine gk_ic_ge (tgt := 61) (pc := 9) K d_M_isStopped_9 (by decide) h (fun h => ?_) (fun h => ?_)
    · refine gk_iconst (pc := 61) K d_M_isStopped_61 kc_0 ?_
      exact gk_zretc (pc := 62) K d_M_isStopped_62 rfl (Or.inl rfl) h
    · refine gk_aload_n (pc := 12) K d_M_isStopped_12 rfl ?_
      refine gk_iload (pc := 13) K d_M_isStopped_13 rfl ?_
      refine gk_lload_n (pc := 15) K d_M_isStopped_15 rfl ?_
      refine gk_lload_n (pc := 16) K d_M_isStopped_16 rfl ?_
      refine gk_aload_n (pc := 17) K d_M_isStopped_17 rfl ?_
      refine gk_get (pc := 18) K d_M_isStopped_18 fl_M_22 tm_0 rfl rfl ?_
      refine gk_iload (pc := 21) K d_M_isStopped_21 rfl ?_
      refine gk_iald (pc := 23) K d_M_isStopped_23 tm_5 h (fun v1 h => ?_)
      refine gk_bipush (pc := 24) K d_M_isStopped_24 kb_30 ?_
      refine gk_iremc2 (pc := 26) K d_M_isStopped_26 (by decide) ?_
      refine gk_i2l (pc := 27) K d_M_isStopped_27 ?_
      refine gk_lload (pc := 28) K d_M_isStopped_28 rfl ?_
      refine gk_lmul (pc := 30) K d_M_isStopped_30 ?_
      refine gk_aload_n (pc := 31) K d_M_isStopped_31 rfl ?_
      refine gk_get (pc := 32) K d_M_isStopped_32 fl_M_22 tm_0 rfl rfl ?_
      refine gk_iload (pc := 35) K d_M_isStopped_35 rfl ?_
      refine gk_iald (pc := 37) K d_M_isStopped_37 tm_5 h (fun v2 h => ?_)
      refine gk_bipush (pc := 38) K d_M_isStopped_38 kb_30 ?_
      refine gk_idivc2 (pc := 40) K d_M_isStopped_40 (by decide) ?_
      refine gk_i2l (pc := 41) K d_M_isStopped_41 ?_
      refine gk_lload (pc := 42) K d_M_isStopped_42 rfl ?_
      refine gk_lmul (pc := 44) K d_M_isStopped_44 ?_
      refine gk_lload (pc := 45) K d_M_isStopped_45 rfl ?_
      obtain ⟨v4, m3, em3, h⟩ := gk_bi_some h
      refine gk_cVi (As := [.int a8, .long a1, .long a3, .long ((gk_rem v1 30).toInt64 * a5), .long ((v2 / 30).toInt64 * a5), .long a5]) (pc := 47) K d_M_isStopped_47 mv_M_231 mc_M_stops rfl tm_0 cl_ok10.1 (s_M_stops (gk_FD K)  em3) (by decide) rfl (Nat.le_of_ble_eq_true rfl) ?_
      refine gk_if_eq (tgt := 55) (pc := 50) K d_M_isStopped_50 (by decide) h (fun h => ?_) (fun h => ?_)
      · refine gk_iinc2 (lv2 := [(8, .int (a8 + 1)), (0, .ref 0), (1, .long a1), (3, .long a3), (5, .long a5), (7, .int a7)]) (pc := 55) K d_M_isStopped_55 rfl kc_1 (by decide) rfl ?_
        refine gk_goto (tgt := 3) (pc := 58) K d_M_isStopped_58 (by decide) ?_
        exact gk_sub [1, 2, 3, 4, 5, 0] rfl (ih _ _ _ _ _ _  h)
      · refine gk_iconst (pc := 53) K d_M_isStopped_53 kc_1 ?_
        exact gk_zretc (pc := 54) K d_M_isStopped_54 rfl (Or.inr rfl) h
noncomputable def f_M_isStopped  (a1 : Int64) (a3 : Int64) (a5 : Int64) (a7 : Int32) (m0 : gk_M) : Option (Int32 × gk_M) :=
  f_M_isStopped_3 gk_fv a1 a3 a5 a7 0 m0

theorem s_M_isStopped_0 {z : gk_Z} (K : gk_F tm z me_M_isStopped 4) {r : Int32} {mem2 : gk_M} : ∀ a1 a3 a5 a7 m0, f_M_isStopped a1 a3 a5 a7 m0 = some (r, mem2) → gk_G tm z me_M_isStopped (gk_R tm z (some (.int r)) mem2) m0 [(0, .ref 0), (1, .long a1), (3, .long a3), (5, .long a5), (7, .int a7)] [] 0 := by
  intro a1 a3 a5 a7 m0  h
  unfold f_M_isStopped at h
  refine gk_iconst (pc := 0) K d_M_isStopped_0 kc_0 ?_
  refine gk_istore (lv2 := [(8, .int 0), (0, .ref 0), (1, .long a1), (3, .long a3), (5, .long a5), (7, .int a7)]) (pc := 1) K d_M_isStopped_1 (by decide) rfl ?_
  exact gk_sub [1, 2, 3, 4, 5, 0] rfl (s_M_isStopped_3 K _ _ _ _ _ _ _  h)
theorem s_M_isStopped {l : Launch} {u : gk_U} (hD : gk_D tm u) {a1 : Int64} {a3 : Int64} {a5 : Int64} {a7 : Int32} {m0 mem2 : gk_M} {r : Int32} (h : f_M_isStopped a1 a3 a5 a7 m0 = some (r, mem2)) : gk_C tm l u me_M_isStopped 4 [.ref 0, .long a1, .long a3, .long a5, .int a7] m0 (some (.int r)) mem2 :=
  gk_enter hD mc_M_isStopped (Nat.le_of_ble_eq_true rfl) rfl (fun z _ _ K => s_M_isStopped_0 K _ _ _ _ _  h)
theorem d_M_farOf_0 : decode me_M_farOf.2.1 0 = .ok (.aload_n 0, 1) := by decide +kernel
theorem d_M_farOf_1 : decode me_M_farOf.2.1 1 = .ok (.getfield 22, 3) := by decide +kernel
theorem d_M_farOf_4 : decode me_M_farOf.2.1 4 = .ok (.iload 7, 2) := by decide +kernel
theorem d_M_farOf_6 : decode me_M_farOf.2.1 6 = .ok (.iaload, 1) := by decide +kernel
theorem d_M_farOf_7 : decode me_M_farOf.2.1 7 = .ok (.bipush 30, 2) := by decide +kernel
theorem d_M_farOf_9 : decode me_M_farOf.2.1 9 = .ok (.irem, 1) := by decide +kernel
theorem d_M_farOf_10 : decode me_M_farOf.2.1 10 = .ok (.i2l, 1) := by decide +kernel
theorem d_M_farOf_11 : decode me_M_farOf.2.1 11 = .ok (.lload 5, 2) := by decide +kernel
theorem d_M_farOf_13 : decode me_M_farOf.2.1 13 = .ok (.lmul, 1) := by decide +kernel
theorem d_M_farOf_14 : decode me_M_farOf.2.1 14 = .ok (.lload_n 1, 1) := by decide +kernel
theorem d_M_farOf_15 : decode me_M_farOf.2.1 15 = .ok (.lsub, 1) := by decide +kernel
theorem d_M_farOf_16 : decode me_M_farOf.2.1 16 = .ok (.lstore 8, 2) := by decide +kernel
theorem d_M_farOf_18 : decode me_M_farOf.2.1 18 = .ok (.aload_n 0, 1) := by decide +kernel
theorem d_M_farOf_19 : decode me_M_farOf.2.1 19 = .ok (.getfield 22, 3) := by decide +kernel
theorem d_M_farOf_22 : decode me_M_farOf.2.1 22 = .ok (.iload 7, 2) := by decide +kernel
theorem d_M_farOf_24 : decode me_M_farOf.2.1 24 = .ok (.iaload, 1) := by decide +kernel
theorem d_M_farOf_25 : decode me_M_farOf.2.1 25 = .ok (.bipush 30, 2) := by decide +kernel
theorem d_M_farOf_27 : decode me_M_farOf.2.1 27 = .ok (.idiv, 1) := by decide +kernel
theorem d_M_farOf_28 : decode me_M_farOf.2.1 28 = .ok (.i2l, 1) := by decide +kernel
theorem d_M_farOf_29 : decode me_M_farOf.2.1 29 = .ok (.lload 5, 2) := by decide +kernel
theorem d_M_farOf_31 : decode me_M_farOf.2.1 31 = .ok (.lmul, 1) := by decide +kernel
theorem d_M_farOf_32 : decode me_M_farOf.2.1 32 = .ok (.lload_n 3, 1) := by decide +kernel
theorem d_M_farOf_33 : decode me_M_farOf.2.1 33 = .ok (.lsub, 1) := by decide +kernel
theorem d_M_farOf_34 : decode me_M_farOf.2.1 34 = .ok (.lstore 10, 2) := by decide +kernel
theorem d_M_farOf_36 : decode me_M_farOf.2.1 36 = .ok (.lload 8, 2) := by decide +kernel
theorem d_M_farOf_38 : decode me_M_farOf.2.1 38 = .ok (.lload 8, 2) := by decide +kernel
theorem d_M_farOf_40 : decode me_M_farOf.2.1 40 = .ok (.lmul, 1) := by decide +kernel
theorem d_M_farOf_41 : decode me_M_farOf.2.1 41 = .ok (.lload 10, 2) := by decide +kernel
theorem d_M_farOf_43 : decode me_M_farOf.2.1 43 = .ok (.lload 10, 2) := by decide +kernel
theorem d_M_farOf_45 : decode me_M_farOf.2.1 45 = .ok (.lmul, 1) := by decide +kernel
theorem d_M_farOf_46 : decode me_M_farOf.2.1 46 = .ok (.ladd, 1) := by decide +kernel
theorem d_M_farOf_47 : decode me_M_farOf.2.1 47 = .ok (.lreturn, 1) := by decide +kernel
noncomputable def f_M_farOf  (a1 : Int64) (a3 : Int64) (a5 : Int64) (a7 : Int32) (m0 : gk_M) : Option (Int64 × gk_M) :=
  gk_ai m0 5 20 a7 fun v1 =>
  gk_let (((gk_rem v1 30).toInt64 * a5) - a1) fun v2 =>
  gk_ai m0 5 20 a7 fun v3 =>
  gk_let (((v3 / 30).toInt64 * a5) - a3) fun v4 =>
  some (((v2 * v2) + (v4 * v4)), m0)

theorem s_M_farOf_0 {z : gk_Z} (K : gk_F tm z me_M_farOf 1) {r : Int64} {mem2 : gk_M} : ∀ a1 a3 a5 a7 m0, f_M_farOf a1 a3 a5 a7 m0 = some (r, mem2) → gk_G tm z me_M_farOf (gk_R tm z (some (.long r)) mem2) m0 [(0, .ref 0), (1, .long a1), (3, .long a3), (5, .long a5), (7, .int a7)] [] 0 := by
  intro a1 a3 a5 a7 m0  h
  unfold f_M_farOf at h
  refine gk_aload_n (pc := 0) K d_M_farOf_0 rfl ?_
  refine gk_get (pc := 1) K d_M_farOf_1 fl_M_22 tm_0 rfl rfl ?_
  refine gk_iload (pc := 4) K d_M_farOf_4 rfl ?_
  refine gk_iald (pc := 6) K d_M_farOf_6 tm_5 h (fun v1 h => ?_)
  refine gk_bipush (pc := 7) K d_M_farOf_7 kb_30 ?_
  refine gk_iremc2 (pc := 9) K d_M_farOf_9 (by decide) ?_
  refine gk_i2l (pc := 10) K d_M_farOf_10 ?_
  refine gk_lload (pc := 11) K d_M_farOf_11 rfl ?_
  refine gk_lmul (pc := 13) K d_M_farOf_13 ?_
  refine gk_lload_n (pc := 14) K d_M_farOf_14 rfl ?_
  refine gk_lsub (pc := 15) K d_M_farOf_15 ?_
  refine gk_topl h (fun v2 h => ?_)
  refine gk_lstore (lv2 := [(8, .long v2), (0, .ref 0), (1, .long a1), (3, .long a3), (5, .long a5), (7, .int a7)]) (pc := 16) K d_M_farOf_16 (by decide) rfl ?_
  refine gk_aload_n (pc := 18) K d_M_farOf_18 rfl ?_
  refine gk_get (pc := 19) K d_M_farOf_19 fl_M_22 tm_0 rfl rfl ?_
  refine gk_iload (pc := 22) K d_M_farOf_22 rfl ?_
  refine gk_iald (pc := 24) K d_M_farOf_24 tm_5 h (fun v3 h => ?_)
  refine gk_bipush (pc := 25) K d_M_farOf_25 kb_30 ?_
  refine gk_idivc2 (pc := 27) K d_M_farOf_27 (by decide) ?_
  refine gk_i2l (pc := 28) K d_M_farOf_28 ?_
  refine gk_lload (pc := 29) K d_M_farOf_29 rfl ?_
  refine gk_lmul (pc := 31) K d_M_farOf_31 ?_
  refine gk_lload_n (pc := 32) K d_M_farOf_32 rfl ?_
  refine gk_lsub (pc := 33) K d_M_farOf_33 ?_
  refine gk_topl h (fun v4 h => ?_)
  refine gk_lstore (lv2 := [(10, .long v4), (8, .long v2), (0, .ref 0), (1, .long a1), (3, .long a3), (5, .long a5), (7, .int a7)]) (pc := 34) K d_M_farOf_34 (by decide) rfl ?_
  refine gk_lload (pc := 36) K d_M_farOf_36 rfl ?_
  refine gk_lload (pc := 38) K d_M_farOf_38 rfl ?_
  refine gk_lmul (pc := 40) K d_M_farOf_40 ?_
  refine gk_lload (pc := 41) K d_M_farOf_41 rfl ?_
  refine gk_lload (pc := 43) K d_M_farOf_43 rfl ?_
  refine gk_lmul (pc := 45) K d_M_farOf_45 ?_
  refine gk_ladd (pc := 46) K d_M_farOf_46 ?_
  exact gk_lret (pc := 47) K d_M_farOf_47 rfl h
theorem s_M_farOf {l : Launch} {u : gk_U} (hD : gk_D tm u) {a1 : Int64} {a3 : Int64} {a5 : Int64} {a7 : Int32} {m0 mem2 : gk_M} {r : Int64} (h : f_M_farOf a1 a3 a5 a7 m0 = some (r, mem2)) : gk_C tm l u me_M_farOf 1 [.ref 0, .long a1, .long a3, .long a5, .int a7] m0 (some (.long r)) mem2 :=
  gk_enter hD mc_M_farOf (Nat.le_of_ble_eq_true rfl) rfl (fun z _ _ K => s_M_farOf_0 K _ _ _ _ _  h)
theorem d_M_heightOf_0 : decode me_M_heightOf.2.1 0 = .ok (.iload_n 1, 1) := by decide +kernel
theorem d_M_heightOf_1 : decode me_M_heightOf.2.1 1 = .ok (.aload_n 0, 1) := by decide +kernel
theorem d_M_heightOf_2 : decode me_M_heightOf.2.1 2 = .ok (.getfield 106, 3) := by decide +kernel
theorem d_M_heightOf_5 : decode me_M_heightOf.2.1 5 = .ok (.if_icmp .ge 12, 3) := by decide +kernel
theorem d_M_heightOf_8 : decode me_M_heightOf.2.1 8 = .ok (.aload_n 0, 1) := by decide +kernel
theorem d_M_heightOf_9 : decode me_M_heightOf.2.1 9 = .ok (.getfield 9, 3) := by decide +kernel
theorem d_M_heightOf_12 : decode me_M_heightOf.2.1 12 = .ok (.iload_n 1, 1) := by decide +kernel
theorem d_M_heightOf_13 : decode me_M_heightOf.2.1 13 = .ok (.iaload, 1) := by decide +kernel
theorem d_M_heightOf_14 : decode me_M_heightOf.2.1 14 = .ok (.goto 9, 3) := by decide +kernel
theorem d_M_heightOf_17 : decode me_M_heightOf.2.1 17 = .ok (.aload_n 0, 1) := by decide +kernel
theorem d_M_heightOf_18 : decode me_M_heightOf.2.1 18 = .ok (.getfield 28, 3) := by decide +kernel
theorem d_M_heightOf_21 : decode me_M_heightOf.2.1 21 = .ok (.iload_n 1, 1) := by decide +kernel
theorem d_M_heightOf_22 : decode me_M_heightOf.2.1 22 = .ok (.iaload, 1) := by decide +kernel
theorem d_M_heightOf_23 : decode me_M_heightOf.2.1 23 = .ok (.ireturn, 1) := by decide +kernel
noncomputable def f_M_heightOf  (a1 : Int32) (m0 : gk_M) : Option (Int32 × gk_M) :=
  if (m0.1 0 6) ≤ a1 then
    gk_ai m0 7 20 a1 fun v1 =>
    some (v1, m0)
  else
    gk_ai m0 1 30 a1 fun v2 =>
    some (v2, m0)

theorem s_M_heightOf_0 {z : gk_Z} (K : gk_F tm z me_M_heightOf 1) {r : Int32} {mem2 : gk_M} : ∀ a1 m0, f_M_heightOf a1 m0 = some (r, mem2) → gk_G tm z me_M_heightOf (gk_R tm z (some (.int r)) mem2) m0 [(0, .ref 0), (1, .int a1)] [] 0 := by
  intro a1 m0  h
  unfold f_M_heightOf at h
  refine gk_iload_n (pc := 0) K d_M_heightOf_0 rfl ?_
  refine gk_aload_n (pc := 1) K d_M_heightOf_1 rfl ?_
  refine gk_get (pc := 2) K d_M_heightOf_2 fl_M_106 tm_0 rfl rfl ?_
  refine gk_ic_ge (tgt := 17) (pc := 5) K d_M_heightOf_5 (by decide) h (fun h => ?_) (fun h => ?_)
  · refine gk_aload_n (pc := 17) K d_M_heightOf_17 rfl ?_
    refine gk_get (pc := 18) K d_M_heightOf_18 fl_M_28 tm_0 rfl rfl ?_
    refine gk_iload_n (pc := 21) K d_M_heightOf_21 rfl ?_
    refine gk_iald (pc := 22) K d_M_heightOf_22 tm_7 h (fun v1 h => ?_)
    exact gk_iret (pc := 23) K d_M_heightOf_23 rfl h
  · refine gk_aload_n (pc := 8) K d_M_heightOf_8 rfl ?_
    refine gk_get (pc := 9) K d_M_heightOf_9 fl_M_9 tm_0 rfl rfl ?_
    refine gk_iload_n (pc := 12) K d_M_heightOf_12 rfl ?_
    refine gk_iald (pc := 13) K d_M_heightOf_13 tm_1 h (fun v2 h => ?_)
    refine gk_goto (tgt := 23) (pc := 14) K d_M_heightOf_14 (by decide) ?_
    exact gk_iret (pc := 23) K d_M_heightOf_23 rfl h
theorem s_M_heightOf {l : Launch} {u : gk_U} (hD : gk_D tm u) {a1 : Int32} {m0 mem2 : gk_M} {r : Int32} (h : f_M_heightOf a1 m0 = some (r, mem2)) : gk_C tm l u me_M_heightOf 1 [.ref 0, .int a1] m0 (some (.int r)) mem2 :=
  gk_enter hD mc_M_heightOf (Nat.le_of_ble_eq_true rfl) rfl (fun z _ _ K => s_M_heightOf_0 K _ _  h)
theorem d_M_oldOf_0 : decode me_M_oldOf.2.1 0 = .ok (.iload_n 1, 1) := by decide +kernel
theorem d_M_oldOf_1 : decode me_M_oldOf.2.1 1 = .ok (.aload_n 0, 1) := by decide +kernel
theorem d_M_oldOf_2 : decode me_M_oldOf.2.1 2 = .ok (.getfield 106, 3) := by decide +kernel
theorem d_M_oldOf_5 : decode me_M_oldOf.2.1 5 = .ok (.if_icmp .ge 15, 3) := by decide +kernel
theorem d_M_oldOf_8 : decode me_M_oldOf.2.1 8 = .ok (.aload_n 0, 1) := by decide +kernel
theorem d_M_oldOf_9 : decode me_M_oldOf.2.1 9 = .ok (.getfield 9, 3) := by decide +kernel
theorem d_M_oldOf_12 : decode me_M_oldOf.2.1 12 = .ok (.bipush 20, 2) := by decide +kernel
theorem d_M_oldOf_14 : decode me_M_oldOf.2.1 14 = .ok (.iload_n 1, 1) := by decide +kernel
theorem d_M_oldOf_15 : decode me_M_oldOf.2.1 15 = .ok (.iadd, 1) := by decide +kernel
theorem d_M_oldOf_16 : decode me_M_oldOf.2.1 16 = .ok (.iaload, 1) := by decide +kernel
theorem d_M_oldOf_17 : decode me_M_oldOf.2.1 17 = .ok (.goto 4, 3) := by decide +kernel
theorem d_M_oldOf_20 : decode me_M_oldOf.2.1 20 = .ok (.iconst 0, 1) := by decide +kernel
theorem d_M_oldOf_21 : decode me_M_oldOf.2.1 21 = .ok (.ireturn, 1) := by decide +kernel
noncomputable def f_M_oldOf  (a1 : Int32) (m0 : gk_M) : Option (Int32 × gk_M) :=
  if (m0.1 0 6) ≤ a1 then
    some (0, m0)
  else
    gk_ai m0 1 30 (20 + a1) fun v1 =>
    some (v1, m0)

theorem s_M_oldOf_0 {z : gk_Z} (K : gk_F tm z me_M_oldOf 1) {r : Int32} {mem2 : gk_M} : ∀ a1 m0, f_M_oldOf a1 m0 = some (r, mem2) → gk_G tm z me_M_oldOf (gk_R tm z (some (.int r)) mem2) m0 [(0, .ref 0), (1, .int a1)] [] 0 := by
  intro a1 m0  h
  unfold f_M_oldOf at h
  refine gk_iload_n (pc := 0) K d_M_oldOf_0 rfl ?_
  refine gk_aload_n (pc := 1) K d_M_oldOf_1 rfl ?_
  refine gk_get (pc := 2) K d_M_oldOf_2 fl_M_106 tm_0 rfl rfl ?_
  refine gk_ic_ge (tgt := 20) (pc := 5) K d_M_oldOf_5 (by decide) h (fun h => ?_) (fun h => ?_)
  · refine gk_iconst (pc := 20) K d_M_oldOf_20 kc_0 ?_
    exact gk_iret (pc := 21) K d_M_oldOf_21 rfl h
  · refine gk_aload_n (pc := 8) K d_M_oldOf_8 rfl ?_
    refine gk_get (pc := 9) K d_M_oldOf_9 fl_M_9 tm_0 rfl rfl ?_
    refine gk_bipush (pc := 12) K d_M_oldOf_12 kb_20 ?_
    refine gk_iload_n (pc := 14) K d_M_oldOf_14 rfl ?_
    refine gk_iadd (pc := 15) K d_M_oldOf_15 ?_
    refine gk_iald (pc := 16) K d_M_oldOf_16 tm_1 h (fun v1 h => ?_)
    refine gk_goto (tgt := 21) (pc := 17) K d_M_oldOf_17 (by decide) ?_
    exact gk_iret (pc := 21) K d_M_oldOf_21 rfl h
theorem s_M_oldOf {l : Launch} {u : gk_U} (hD : gk_D tm u) {a1 : Int32} {m0 mem2 : gk_M} {r : Int32} (h : f_M_oldOf a1 m0 = some (r, mem2)) : gk_C tm l u me_M_oldOf 1 [.ref 0, .int a1] m0 (some (.int r)) mem2 :=
  gk_enter hD mc_M_oldOf (Nat.le_of_ble_eq_true rfl) rfl (fun z _ _ K => s_M_oldOf_0 K _ _  h)
theorem d_M_counts_0 : decode me_M_counts.2.1 0 = .ok (.aload_n 0, 1) := by decide +kernel
theorem d_M_counts_1 : decode me_M_counts.2.1 1 = .ok (.getfield 90, 3) := by decide +kernel
theorem d_M_counts_4 : decode me_M_counts.2.1 4 = .ok (.ifCond .ge 24, 3) := by decide +kernel
theorem d_M_counts_7 : decode me_M_counts.2.1 7 = .ok (.aload_n 0, 1) := by decide +kernel
theorem d_M_counts_8 : decode me_M_counts.2.1 8 = .ok (.iload_n 2, 1) := by decide +kernel
theorem d_M_counts_9 : decode me_M_counts.2.1 9 = .ok (.invokevirtual 210, 3) := by decide +kernel
theorem d_M_counts_12 : decode me_M_counts.2.1 12 = .ok (.aload_n 0, 1) := by decide +kernel
theorem d_M_counts_13 : decode me_M_counts.2.1 13 = .ok (.iload_n 1, 1) := by decide +kernel
theorem d_M_counts_14 : decode me_M_counts.2.1 14 = .ok (.invokevirtual 210, 3) := by decide +kernel
theorem d_M_counts_17 : decode me_M_counts.2.1 17 = .ok (.iconst 3, 1) := by decide +kernel
theorem d_M_counts_18 : decode me_M_counts.2.1 18 = .ok (.iadd, 1) := by decide +kernel
theorem d_M_counts_19 : decode me_M_counts.2.1 19 = .ok (.if_icmp .gt 7, 3) := by decide +kernel
theorem d_M_counts_22 : decode me_M_counts.2.1 22 = .ok (.iconst 1, 1) := by decide +kernel
theorem d_M_counts_23 : decode me_M_counts.2.1 23 = .ok (.goto 4, 3) := by decide +kernel
theorem d_M_counts_26 : decode me_M_counts.2.1 26 = .ok (.iconst 0, 1) := by decide +kernel
theorem d_M_counts_27 : decode me_M_counts.2.1 27 = .ok (.ireturn, 1) := by decide +kernel
theorem d_M_counts_28 : decode me_M_counts.2.1 28 = .ok (.aload_n 0, 1) := by decide +kernel
theorem d_M_counts_29 : decode me_M_counts.2.1 29 = .ok (.getfield 46, 3) := by decide +kernel
theorem d_M_counts_32 : decode me_M_counts.2.1 32 = .ok (.iconst 0, 1) := by decide +kernel
theorem d_M_counts_33 : decode me_M_counts.2.1 33 = .ok (.aload_n 0, 1) := by decide +kernel
theorem d_M_counts_34 : decode me_M_counts.2.1 34 = .ok (.iload_n 1, 1) := by decide +kernel
theorem d_M_counts_35 : decode me_M_counts.2.1 35 = .ok (.invokevirtual 210, 3) := by decide +kernel
theorem d_M_counts_38 : decode me_M_counts.2.1 38 = .ok (.iastore, 1) := by decide +kernel
theorem d_M_counts_39 : decode me_M_counts.2.1 39 = .ok (.aload_n 0, 1) := by decide +kernel
theorem d_M_counts_40 : decode me_M_counts.2.1 40 = .ok (.getfield 46, 3) := by decide +kernel
theorem d_M_counts_43 : decode me_M_counts.2.1 43 = .ok (.iconst 1, 1) := by decide +kernel
theorem d_M_counts_44 : decode me_M_counts.2.1 44 = .ok (.aload_n 0, 1) := by decide +kernel
theorem d_M_counts_45 : decode me_M_counts.2.1 45 = .ok (.iload_n 2, 1) := by decide +kernel
theorem d_M_counts_46 : decode me_M_counts.2.1 46 = .ok (.invokevirtual 210, 3) := by decide +kernel
theorem d_M_counts_49 : decode me_M_counts.2.1 49 = .ok (.iastore, 1) := by decide +kernel
theorem d_M_counts_50 : decode me_M_counts.2.1 50 = .ok (.aload_n 0, 1) := by decide +kernel
theorem d_M_counts_51 : decode me_M_counts.2.1 51 = .ok (.getfield 46, 3) := by decide +kernel
theorem d_M_counts_54 : decode me_M_counts.2.1 54 = .ok (.iconst 2, 1) := by decide +kernel
theorem d_M_counts_55 : decode me_M_counts.2.1 55 = .ok (.aload_n 0, 1) := by decide +kernel
theorem d_M_counts_56 : decode me_M_counts.2.1 56 = .ok (.iload_n 1, 1) := by decide +kernel
theorem d_M_counts_57 : decode me_M_counts.2.1 57 = .ok (.invokevirtual 213, 3) := by decide +kernel
theorem d_M_counts_60 : decode me_M_counts.2.1 60 = .ok (.aload_n 0, 1) := by decide +kernel
theorem d_M_counts_61 : decode me_M_counts.2.1 61 = .ok (.iload_n 2, 1) := by decide +kernel
theorem d_M_counts_62 : decode me_M_counts.2.1 62 = .ok (.invokevirtual 213, 3) := by decide +kernel
theorem d_M_counts_65 : decode me_M_counts.2.1 65 = .ok (.iadd, 1) := by decide +kernel
theorem d_M_counts_66 : decode me_M_counts.2.1 66 = .ok (.iastore, 1) := by decide +kernel
theorem d_M_counts_67 : decode me_M_counts.2.1 67 = .ok (.aload_n 0, 1) := by decide +kernel
theorem d_M_counts_68 : decode me_M_counts.2.1 68 = .ok (.getfield 46, 3) := by decide +kernel
theorem d_M_counts_71 : decode me_M_counts.2.1 71 = .ok (.iconst 3, 1) := by decide +kernel
theorem d_M_counts_72 : decode me_M_counts.2.1 72 = .ok (.iload_n 3, 1) := by decide +kernel
theorem d_M_counts_73 : decode me_M_counts.2.1 73 = .ok (.iastore, 1) := by decide +kernel
theorem d_M_counts_74 : decode me_M_counts.2.1 74 = .ok (.aload_n 0, 1) := by decide +kernel
theorem d_M_counts_75 : decode me_M_counts.2.1 75 = .ok (.getfield 46, 3) := by decide +kernel
theorem d_M_counts_78 : decode me_M_counts.2.1 78 = .ok (.iconst 4, 1) := by decide +kernel
theorem d_M_counts_79 : decode me_M_counts.2.1 79 = .ok (.aload_n 0, 1) := by decide +kernel
theorem d_M_counts_80 : decode me_M_counts.2.1 80 = .ok (.getfield 25, 3) := by decide +kernel
theorem d_M_counts_83 : decode me_M_counts.2.1 83 = .ok (.iload_n 1, 1) := by decide +kernel
theorem d_M_counts_84 : decode me_M_counts.2.1 84 = .ok (.iaload, 1) := by decide +kernel
theorem d_M_counts_85 : decode me_M_counts.2.1 85 = .ok (.aload_n 0, 1) := by decide +kernel
theorem d_M_counts_86 : decode me_M_counts.2.1 86 = .ok (.getfield 25, 3) := by decide +kernel
theorem d_M_counts_89 : decode me_M_counts.2.1 89 = .ok (.iload_n 2, 1) := by decide +kernel
theorem d_M_counts_90 : decode me_M_counts.2.1 90 = .ok (.iaload, 1) := by decide +kernel
theorem d_M_counts_91 : decode me_M_counts.2.1 91 = .ok (.if_icmp .ge 12, 3) := by decide +kernel
theorem d_M_counts_94 : decode me_M_counts.2.1 94 = .ok (.aload_n 0, 1) := by decide +kernel
theorem d_M_counts_95 : decode me_M_counts.2.1 95 = .ok (.getfield 25, 3) := by decide +kernel
theorem d_M_counts_98 : decode me_M_counts.2.1 98 = .ok (.iload_n 1, 1) := by decide +kernel
theorem d_M_counts_99 : decode me_M_counts.2.1 99 = .ok (.iaload, 1) := by decide +kernel
theorem d_M_counts_100 : decode me_M_counts.2.1 100 = .ok (.goto 9, 3) := by decide +kernel
theorem d_M_counts_103 : decode me_M_counts.2.1 103 = .ok (.aload_n 0, 1) := by decide +kernel
theorem d_M_counts_104 : decode me_M_counts.2.1 104 = .ok (.getfield 25, 3) := by decide +kernel
theorem d_M_counts_107 : decode me_M_counts.2.1 107 = .ok (.iload_n 2, 1) := by decide +kernel
theorem d_M_counts_108 : decode me_M_counts.2.1 108 = .ok (.iaload, 1) := by decide +kernel
theorem d_M_counts_109 : decode me_M_counts.2.1 109 = .ok (.iastore, 1) := by decide +kernel
theorem d_M_counts_110 : decode me_M_counts.2.1 110 = .ok (.aload_n 0, 1) := by decide +kernel
theorem d_M_counts_111 : decode me_M_counts.2.1 111 = .ok (.getfield 46, 3) := by decide +kernel
theorem d_M_counts_114 : decode me_M_counts.2.1 114 = .ok (.iconst 5, 1) := by decide +kernel
theorem d_M_counts_115 : decode me_M_counts.2.1 115 = .ok (.aload_n 0, 1) := by decide +kernel
theorem d_M_counts_116 : decode me_M_counts.2.1 116 = .ok (.getfield 25, 3) := by decide +kernel
theorem d_M_counts_119 : decode me_M_counts.2.1 119 = .ok (.iload_n 1, 1) := by decide +kernel
theorem d_M_counts_120 : decode me_M_counts.2.1 120 = .ok (.iaload, 1) := by decide +kernel
theorem d_M_counts_121 : decode me_M_counts.2.1 121 = .ok (.aload_n 0, 1) := by decide +kernel
theorem d_M_counts_122 : decode me_M_counts.2.1 122 = .ok (.getfield 25, 3) := by decide +kernel
theorem d_M_counts_125 : decode me_M_counts.2.1 125 = .ok (.iload_n 2, 1) := by decide +kernel
theorem d_M_counts_126 : decode me_M_counts.2.1 126 = .ok (.iaload, 1) := by decide +kernel
theorem d_M_counts_127 : decode me_M_counts.2.1 127 = .ok (.if_icmp .ge 12, 3) := by decide +kernel
theorem d_M_counts_130 : decode me_M_counts.2.1 130 = .ok (.aload_n 0, 1) := by decide +kernel
theorem d_M_counts_131 : decode me_M_counts.2.1 131 = .ok (.getfield 25, 3) := by decide +kernel
theorem d_M_counts_134 : decode me_M_counts.2.1 134 = .ok (.iload_n 2, 1) := by decide +kernel
theorem d_M_counts_135 : decode me_M_counts.2.1 135 = .ok (.iaload, 1) := by decide +kernel
theorem d_M_counts_136 : decode me_M_counts.2.1 136 = .ok (.goto 9, 3) := by decide +kernel
theorem d_M_counts_139 : decode me_M_counts.2.1 139 = .ok (.aload_n 0, 1) := by decide +kernel
theorem d_M_counts_140 : decode me_M_counts.2.1 140 = .ok (.getfield 25, 3) := by decide +kernel
theorem d_M_counts_143 : decode me_M_counts.2.1 143 = .ok (.iload_n 1, 1) := by decide +kernel
theorem d_M_counts_144 : decode me_M_counts.2.1 144 = .ok (.iaload, 1) := by decide +kernel
theorem d_M_counts_145 : decode me_M_counts.2.1 145 = .ok (.iastore, 1) := by decide +kernel
theorem d_M_counts_146 : decode me_M_counts.2.1 146 = .ok (.aload_n 0, 1) := by decide +kernel
theorem d_M_counts_147 : decode me_M_counts.2.1 147 = .ok (.iconst 0, 1) := by decide +kernel
theorem d_M_counts_148 : decode me_M_counts.2.1 148 = .ok (.aload_n 0, 1) := by decide +kernel
theorem d_M_counts_149 : decode me_M_counts.2.1 149 = .ok (.getfield 90, 3) := by decide +kernel
theorem d_M_counts_152 : decode me_M_counts.2.1 152 = .ok (.invokevirtual 207, 3) := by decide +kernel
theorem d_M_counts_155 : decode me_M_counts.2.1 155 = .ok (.ifCond .eq 7, 3) := by decide +kernel
theorem d_M_counts_158 : decode me_M_counts.2.1 158 = .ok (.iconst 1, 1) := by decide +kernel
theorem d_M_counts_159 : decode me_M_counts.2.1 159 = .ok (.goto 4, 3) := by decide +kernel
theorem d_M_counts_162 : decode me_M_counts.2.1 162 = .ok (.iconst 0, 1) := by decide +kernel
theorem d_M_counts_163 : decode me_M_counts.2.1 163 = .ok (.ireturn, 1) := by decide +kernel
noncomputable def f_M_counts_145  (s1 : Int32) (s2 : Int32) (m0 : gk_M) : Option (Int32 × gk_M) :=
  gk_si m0 13 6 s1 s2 fun m1 =>
  gk_bi (f_M_workOut 0 (m1.1 0 18) m1) fun v3 m2 =>
  if v3 = 0 then
    some (0, m2)
  else
    some (1, m2)

theorem s_M_counts_145 {z : gk_Z} (K : gk_F tm z me_M_counts 65) {r : Int32} {mem2 : gk_M} : ∀ s1 s2 m0, f_M_counts_145 s1 s2 m0 = some (r, mem2) → gk_G tm z me_M_counts (gk_R tm z (some (.int r)) mem2) m0 [(0, .ref 0)] [.int s2, .int s1, .ref 13] 145 := by
  intro s1 s2 m0  h
  unfold f_M_counts_145 at h
  refine gk_iast (pc := 145) K d_M_counts_145 tm_13 h (fun m1 h => ?_)
  refine gk_aload_n (pc := 146) K d_M_counts_146 rfl ?_
  refine gk_iconst (pc := 147) K d_M_counts_147 kc_0 ?_
  refine gk_aload_n (pc := 148) K d_M_counts_148 rfl ?_
  refine gk_get (pc := 149) K d_M_counts_149 fl_M_90 tm_0 rfl rfl ?_
  obtain ⟨v3, m2, em2, h⟩ := gk_bi_some h
  refine gk_cVi (As := [.int 0, .int (m1.1 0 18)]) (pc := 152) K d_M_counts_152 mv_M_207 mc_M_workOut rfl tm_0 cl_ok10.1 (s_M_workOut (gk_FD K)  em2) (by decide) rfl (Nat.le_of_ble_eq_true rfl) ?_
  refine gk_if_eq (tgt := 162) (pc := 155) K d_M_counts_155 (by decide) h (fun h => ?_) (fun h => ?_)
  · refine gk_iconst (pc := 162) K d_M_counts_162 kc_0 ?_
    exact gk_zretc (pc := 163) K d_M_counts_163 rfl (Or.inl rfl) h
  · refine gk_iconst (pc := 158) K d_M_counts_158 kc_1 ?_
    refine gk_goto (tgt := 163) (pc := 159) K d_M_counts_159 (by decide) ?_
    exact gk_zretc (pc := 163) K d_M_counts_163 rfl (Or.inr rfl) h
noncomputable def f_M_counts_109  (a1 : Int32) (a2 : Int32) (s1 : Int32) (s2 : Int32) (m0 : gk_M) : Option (Int32 × gk_M) :=
  gk_si m0 13 6 s1 s2 fun m1 =>
  gk_ai m1 6 20 a1 fun v2 =>
  gk_ai m1 6 20 a2 fun v3 =>
  if v3 ≤ v2 then
    gk_ai m1 6 20 a1 fun v4 =>
    f_M_counts_145 5 v4 m1
  else
    gk_ai m1 6 20 a2 fun v5 =>
    f_M_counts_145 5 v5 m1

theorem s_M_counts_109 {z : gk_Z} (K : gk_F tm z me_M_counts 65) {r : Int32} {mem2 : gk_M} : ∀ a1 a2 s1 s2 m0, f_M_counts_109 a1 a2 s1 s2 m0 = some (r, mem2) → gk_G tm z me_M_counts (gk_R tm z (some (.int r)) mem2) m0 [(0, .ref 0), (1, .int a1), (2, .int a2)] [.int s2, .int s1, .ref 13] 109 := by
  intro a1 a2 s1 s2 m0  h
  unfold f_M_counts_109 at h
  refine gk_iast (pc := 109) K d_M_counts_109 tm_13 h (fun m1 h => ?_)
  refine gk_aload_n (pc := 110) K d_M_counts_110 rfl ?_
  refine gk_get (pc := 111) K d_M_counts_111 fl_M_46 tm_0 rfl rfl ?_
  refine gk_iconst (pc := 114) K d_M_counts_114 kc_5 ?_
  refine gk_aload_n (pc := 115) K d_M_counts_115 rfl ?_
  refine gk_get (pc := 116) K d_M_counts_116 fl_M_25 tm_0 rfl rfl ?_
  refine gk_iload_n (pc := 119) K d_M_counts_119 rfl ?_
  refine gk_iald (pc := 120) K d_M_counts_120 tm_6 h (fun v2 h => ?_)
  refine gk_aload_n (pc := 121) K d_M_counts_121 rfl ?_
  refine gk_get (pc := 122) K d_M_counts_122 fl_M_25 tm_0 rfl rfl ?_
  refine gk_iload_n (pc := 125) K d_M_counts_125 rfl ?_
  refine gk_iald (pc := 126) K d_M_counts_126 tm_6 h (fun v3 h => ?_)
  refine gk_ic_ge (tgt := 139) (pc := 127) K d_M_counts_127 (by decide) h (fun h => ?_) (fun h => ?_)
  · refine gk_aload_n (pc := 139) K d_M_counts_139 rfl ?_
    refine gk_get (pc := 140) K d_M_counts_140 fl_M_25 tm_0 rfl rfl ?_
    refine gk_iload_n (pc := 143) K d_M_counts_143 rfl ?_
    refine gk_iald (pc := 144) K d_M_counts_144 tm_6 h (fun v4 h => ?_)
    exact gk_sub [0] rfl (s_M_counts_145 K _ _ _  h)
  · refine gk_aload_n (pc := 130) K d_M_counts_130 rfl ?_
    refine gk_get (pc := 131) K d_M_counts_131 fl_M_25 tm_0 rfl rfl ?_
    refine gk_iload_n (pc := 134) K d_M_counts_134 rfl ?_
    refine gk_iald (pc := 135) K d_M_counts_135 tm_6 h (fun v5 h => ?_)
    refine gk_goto (tgt := 145) (pc := 136) K d_M_counts_136 (by decide) ?_
    exact gk_sub [0] rfl (s_M_counts_145 K _ _ _  h)
noncomputable def f_M_counts  (a1 : Int32) (a2 : Int32) (a3 : Int32) (m0 : gk_M) : Option (Int32 × gk_M) :=
  if 0 ≤ (m0.1 0 18) then
    gk_bi (f_M_heightOf a1 m0) fun v2 m1 =>
    gk_si m1 13 6 0 v2 fun m3 =>
    gk_bi (f_M_heightOf a2 m3) fun v5 m4 =>
    gk_si m4 13 6 1 v5 fun m6 =>
    gk_bi (f_M_oldOf a1 m6) fun v8 m7 =>
    gk_bi (f_M_oldOf a2 m7) fun v10 m9 =>
    gk_si m9 13 6 2 (v8 + v10) fun m11 =>
    gk_si m11 13 6 3 a3 fun m12 =>
    gk_ai m12 6 20 a1 fun v13 =>
    gk_ai m12 6 20 a2 fun v14 =>
    if v14 ≤ v13 then
      gk_ai m12 6 20 a2 fun v15 =>
      f_M_counts_109 a1 a2 4 v15 m12
    else
      gk_ai m12 6 20 a1 fun v16 =>
      f_M_counts_109 a1 a2 4 v16 m12
  else
    gk_bi (f_M_heightOf a2 m0) fun v18 m17 =>
    gk_bi (f_M_heightOf a1 m17) fun v20 m19 =>
    if (v20 + 3) < v18 then
      some (0, m19)
    else
      some (1, m19)

theorem s_M_counts_0 {z : gk_Z} (K : gk_F tm z me_M_counts 65) {r : Int32} {mem2 : gk_M} : ∀ a1 a2 a3 m0, f_M_counts a1 a2 a3 m0 = some (r, mem2) → gk_G tm z me_M_counts (gk_R tm z (some (.int r)) mem2) m0 [(0, .ref 0), (1, .int a1), (2, .int a2), (3, .int a3)] [] 0 := by
  intro a1 a2 a3 m0  h
  unfold f_M_counts at h
  refine gk_aload_n (pc := 0) K d_M_counts_0 rfl ?_
  refine gk_get (pc := 1) K d_M_counts_1 fl_M_90 tm_0 rfl rfl ?_
  refine gk_if_ge (tgt := 28) (pc := 4) K d_M_counts_4 (by decide) h (fun h => ?_) (fun h => ?_)
  · refine gk_aload_n (pc := 28) K d_M_counts_28 rfl ?_
    refine gk_get (pc := 29) K d_M_counts_29 fl_M_46 tm_0 rfl rfl ?_
    refine gk_iconst (pc := 32) K d_M_counts_32 kc_0 ?_
    refine gk_aload_n (pc := 33) K d_M_counts_33 rfl ?_
    refine gk_iload_n (pc := 34) K d_M_counts_34 rfl ?_
    obtain ⟨v2, m1, em1, h⟩ := gk_bi_some h
    refine gk_cVi (As := [.int a1]) (pc := 35) K d_M_counts_35 mv_M_210 mc_M_heightOf rfl tm_0 cl_ok10.1 (s_M_heightOf (gk_FD K)  em1) (by decide) rfl (Nat.le_of_ble_eq_true rfl) ?_
    refine gk_iast (pc := 38) K d_M_counts_38 tm_13 h (fun m3 h => ?_)
    refine gk_aload_n (pc := 39) K d_M_counts_39 rfl ?_
    refine gk_get (pc := 40) K d_M_counts_40 fl_M_46 tm_0 rfl rfl ?_
    refine gk_iconst (pc := 43) K d_M_counts_43 kc_1 ?_
    refine gk_aload_n (pc := 44) K d_M_counts_44 rfl ?_
    refine gk_iload_n (pc := 45) K d_M_counts_45 rfl ?_
    obtain ⟨v5, m4, em4, h⟩ := gk_bi_some h
    refine gk_cVi (As := [.int a2]) (pc := 46) K d_M_counts_46 mv_M_210 mc_M_heightOf rfl tm_0 cl_ok10.1 (s_M_heightOf (gk_FD K)  em4) (by decide) rfl (Nat.le_of_ble_eq_true rfl) ?_
    refine gk_iast (pc := 49) K d_M_counts_49 tm_13 h (fun m6 h => ?_)
    refine gk_aload_n (pc := 50) K d_M_counts_50 rfl ?_
    refine gk_get (pc := 51) K d_M_counts_51 fl_M_46 tm_0 rfl rfl ?_
    refine gk_iconst (pc := 54) K d_M_counts_54 kc_2 ?_
    refine gk_aload_n (pc := 55) K d_M_counts_55 rfl ?_
    refine gk_iload_n (pc := 56) K d_M_counts_56 rfl ?_
    obtain ⟨v8, m7, em7, h⟩ := gk_bi_some h
    refine gk_cVi (As := [.int a1]) (pc := 57) K d_M_counts_57 mv_M_213 mc_M_oldOf rfl tm_0 cl_ok10.1 (s_M_oldOf (gk_FD K)  em7) (by decide) rfl (Nat.le_of_ble_eq_true rfl) ?_
    refine gk_aload_n (pc := 60) K d_M_counts_60 rfl ?_
    refine gk_iload_n (pc := 61) K d_M_counts_61 rfl ?_
    obtain ⟨v10, m9, em9, h⟩ := gk_bi_some h
    refine gk_cVi (As := [.int a2]) (pc := 62) K d_M_counts_62 mv_M_213 mc_M_oldOf rfl tm_0 cl_ok10.1 (s_M_oldOf (gk_FD K)  em9) (by decide) rfl (Nat.le_of_ble_eq_true rfl) ?_
    refine gk_iadd (pc := 65) K d_M_counts_65 ?_
    refine gk_iast (pc := 66) K d_M_counts_66 tm_13 h (fun m11 h => ?_)
    refine gk_aload_n (pc := 67) K d_M_counts_67 rfl ?_
    refine gk_get (pc := 68) K d_M_counts_68 fl_M_46 tm_0 rfl rfl ?_
    refine gk_iconst (pc := 71) K d_M_counts_71 kc_3 ?_
    refine gk_iload_n (pc := 72) K d_M_counts_72 rfl ?_
    refine gk_iast (pc := 73) K d_M_counts_73 tm_13 h (fun m12 h => ?_)
    refine gk_aload_n (pc := 74) K d_M_counts_74 rfl ?_
    refine gk_get (pc := 75) K d_M_counts_75 fl_M_46 tm_0 rfl rfl ?_
    refine gk_iconst (pc := 78) K d_M_counts_78 kc_4 ?_
    refine gk_aload_n (pc := 79) K d_M_counts_79 rfl ?_
    refine gk_get (pc := 80) K d_M_counts_80 fl_M_25 tm_0 rfl rfl ?_
    refine gk_iload_n (pc := 83) K d_M_counts_83 rfl ?_
    refine gk_iald (pc := 84) K d_M_counts_84 tm_6 h (fun v13 h => ?_)
    refine gk_aload_n (pc := 85) K d_M_counts_85 rfl ?_
    refine gk_get (pc := 86) K d_M_counts_86 fl_M_25 tm_0 rfl rfl ?_
    refine gk_iload_n (pc := 89) K d_M_counts_89 rfl ?_
    refine gk_iald (pc := 90) K d_M_counts_90 tm_6 h (fun v14 h => ?_)
    refine gk_ic_ge (tgt := 103) (pc := 91) K d_M_counts_91 (by decide) h (fun h => ?_) (fun h => ?_)
    · refine gk_aload_n (pc := 103) K d_M_counts_103 rfl ?_
      refine gk_get (pc := 104) K d_M_counts_104 fl_M_25 tm_0 rfl rfl ?_
      refine gk_iload_n (pc := 107) K d_M_counts_107 rfl ?_
      refine gk_iald (pc := 108) K d_M_counts_108 tm_6 h (fun v15 h => ?_)
      exact gk_sub [0, 1, 2] rfl (s_M_counts_109 K _ _ _ _ _  h)
    · refine gk_aload_n (pc := 94) K d_M_counts_94 rfl ?_
      refine gk_get (pc := 95) K d_M_counts_95 fl_M_25 tm_0 rfl rfl ?_
      refine gk_iload_n (pc := 98) K d_M_counts_98 rfl ?_
      refine gk_iald (pc := 99) K d_M_counts_99 tm_6 h (fun v16 h => ?_)
      refine gk_goto (tgt := 109) (pc := 100) K d_M_counts_100 (by decide) ?_
      exact gk_sub [0, 1, 2] rfl (s_M_counts_109 K _ _ _ _ _  h)
  · refine gk_aload_n (pc := 7) K d_M_counts_7 rfl ?_
    refine gk_iload_n (pc := 8) K d_M_counts_8 rfl ?_
    obtain ⟨v18, m17, em17, h⟩ := gk_bi_some h
    refine gk_cVi (As := [.int a2]) (pc := 9) K d_M_counts_9 mv_M_210 mc_M_heightOf rfl tm_0 cl_ok10.1 (s_M_heightOf (gk_FD K)  em17) (by decide) rfl (Nat.le_of_ble_eq_true rfl) ?_
    refine gk_aload_n (pc := 12) K d_M_counts_12 rfl ?_
    refine gk_iload_n (pc := 13) K d_M_counts_13 rfl ?_
    obtain ⟨v20, m19, em19, h⟩ := gk_bi_some h
    refine gk_cVi (As := [.int a1]) (pc := 14) K d_M_counts_14 mv_M_210 mc_M_heightOf rfl tm_0 cl_ok10.1 (s_M_heightOf (gk_FD K)  em19) (by decide) rfl (Nat.le_of_ble_eq_true rfl) ?_
    refine gk_iconst (pc := 17) K d_M_counts_17 kc_3 ?_
    refine gk_iadd (pc := 18) K d_M_counts_18 ?_
    refine gk_ic_gt (tgt := 26) (pc := 19) K d_M_counts_19 (by decide) h (fun h => ?_) (fun h => ?_)
    · refine gk_iconst (pc := 26) K d_M_counts_26 kc_0 ?_
      exact gk_zretc (pc := 27) K d_M_counts_27 rfl (Or.inl rfl) h
    · refine gk_iconst (pc := 22) K d_M_counts_22 kc_1 ?_
      refine gk_goto (tgt := 27) (pc := 23) K d_M_counts_23 (by decide) ?_
      exact gk_zretc (pc := 27) K d_M_counts_27 rfl (Or.inr rfl) h
theorem s_M_counts {l : Launch} {u : gk_U} (hD : gk_D tm u) {a1 : Int32} {a2 : Int32} {a3 : Int32} {m0 mem2 : gk_M} {r : Int32} (h : f_M_counts a1 a2 a3 m0 = some (r, mem2)) : gk_C tm l u me_M_counts 65 [.ref 0, .int a1, .int a2, .int a3] m0 (some (.int r)) mem2 :=
  gk_enter hD mc_M_counts (Nat.le_of_ble_eq_true rfl) rfl (fun z _ _ K => s_M_counts_0 K _ _ _ _  h)
