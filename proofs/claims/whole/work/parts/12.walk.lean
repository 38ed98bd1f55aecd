theorem d_Plain_counts_0 : decode me_Plain_counts.2.1 0 = .ok (.iload_n 1, 1) := by decide +kernel
theorem d_Plain_counts_1 : decode me_Plain_counts.2.1 1 = .ok (.bipush 12, 2) := by decide +kernel
theorem d_Plain_counts_3 : decode me_Plain_counts.2.1 3 = .ok (.imul, 1) := by decide +kernel
theorem d_Plain_counts_4 : decode me_Plain_counts.2.1 4 = .ok (.iload_n 2, 1) := by decide +kernel
theorem d_Plain_counts_5 : decode me_Plain_counts.2.1 5 = .ok (.iadd, 1) := by decide +kernel
theorem d_Plain_counts_6 : decode me_Plain_counts.2.1 6 = .ok (.bipush 12, 2) := by decide +kernel
theorem d_Plain_counts_8 : decode me_Plain_counts.2.1 8 = .ok (.imul, 1) := by decide +kernel
theorem d_Plain_counts_9 : decode me_Plain_counts.2.1 9 = .ok (.iload_n 3, 1) := by decide +kernel
theorem d_Plain_counts_10 : decode me_Plain_counts.2.1 10 = .ok (.iadd, 1) := by decide +kernel
theorem d_Plain_counts_11 : decode me_Plain_counts.2.1 11 = .ok (.istore 4, 2) := by decide +kernel
theorem d_Plain_counts_13 : decode me_Plain_counts.2.1 13 = .ok (.aload_n 0, 1) := by decide +kernel
theorem d_Plain_counts_14 : decode me_Plain_counts.2.1 14 = .ok (.getfield 60, 3) := by decide +kernel
theorem d_Plain_counts_17 : decode me_Plain_counts.2.1 17 = .ok (.iload 4, 2) := by decide +kernel
theorem d_Plain_counts_19 : decode me_Plain_counts.2.1 19 = .ok (.iaload, 1) := by decide +kernel
theorem d_Plain_counts_20 : decode me_Plain_counts.2.1 20 = .ok (.ifCond .ne 111, 3) := by decide +kernel
theorem d_Plain_counts_23 : decode me_Plain_counts.2.1 23 = .ok (.aload_n 0, 1) := by decide +kernel
theorem d_Plain_counts_24 : decode me_Plain_counts.2.1 24 = .ok (.getfield 57, 3) := by decide +kernel
theorem d_Plain_counts_27 : decode me_Plain_counts.2.1 27 = .ok (.iconst 0, 1) := by decide +kernel
theorem d_Plain_counts_28 : decode me_Plain_counts.2.1 28 = .ok (.aload_n 0, 1) := by decide +kernel
theorem d_Plain_counts_29 : decode me_Plain_counts.2.1 29 = .ok (.getfield 18, 3) := by decide +kernel
theorem d_Plain_counts_32 : decode me_Plain_counts.2.1 32 = .ok (.iload_n 2, 1) := by decide +kernel
theorem d_Plain_counts_33 : decode me_Plain_counts.2.1 33 = .ok (.iaload, 1) := by decide +kernel
theorem d_Plain_counts_34 : decode me_Plain_counts.2.1 34 = .ok (.iastore, 1) := by decide +kernel
theorem d_Plain_counts_35 : decode me_Plain_counts.2.1 35 = .ok (.aload_n 0, 1) := by decide +kernel
theorem d_Plain_counts_36 : decode me_Plain_counts.2.1 36 = .ok (.getfield 57, 3) := by decide +kernel
theorem d_Plain_counts_39 : decode me_Plain_counts.2.1 39 = .ok (.iconst 1, 1) := by decide +kernel
theorem d_Plain_counts_40 : decode me_Plain_counts.2.1 40 = .ok (.aload_n 0, 1) := by decide +kernel
theorem d_Plain_counts_41 : decode me_Plain_counts.2.1 41 = .ok (.getfield 18, 3) := by decide +kernel
theorem d_Plain_counts_44 : decode me_Plain_counts.2.1 44 = .ok (.iload_n 3, 1) := by decide +kernel
theorem d_Plain_counts_45 : decode me_Plain_counts.2.1 45 = .ok (.iaload, 1) := by decide +kernel
theorem d_Plain_counts_46 : decode me_Plain_counts.2.1 46 = .ok (.iastore, 1) := by decide +kernel
theorem d_Plain_counts_47 : decode me_Plain_counts.2.1 47 = .ok (.aload_n 0, 1) := by decide +kernel
theorem d_Plain_counts_48 : decode me_Plain_counts.2.1 48 = .ok (.getfield 57, 3) := by decide +kernel
theorem d_Plain_counts_51 : decode me_Plain_counts.2.1 51 = .ok (.iconst 2, 1) := by decide +kernel
theorem d_Plain_counts_52 : decode me_Plain_counts.2.1 52 = .ok (.aload_n 0, 1) := by decide +kernel
theorem d_Plain_counts_53 : decode me_Plain_counts.2.1 53 = .ok (.getfield 24, 3) := by decide +kernel
theorem d_Plain_counts_56 : decode me_Plain_counts.2.1 56 = .ok (.iload_n 2, 1) := by decide +kernel
theorem d_Plain_counts_57 : decode me_Plain_counts.2.1 57 = .ok (.iaload, 1) := by decide +kernel
theorem d_Plain_counts_58 : decode me_Plain_counts.2.1 58 = .ok (.aload_n 0, 1) := by decide +kernel
theorem d_Plain_counts_59 : decode me_Plain_counts.2.1 59 = .ok (.getfield 24, 3) := by decide +kernel
theorem d_Plain_counts_62 : decode me_Plain_counts.2.1 62 = .ok (.iload_n 3, 1) := by decide +kernel
theorem d_Plain_counts_63 : decode me_Plain_counts.2.1 63 = .ok (.iaload, 1) := by decide +kernel
theorem d_Plain_counts_64 : decode me_Plain_counts.2.1 64 = .ok (.iadd, 1) := by decide +kernel
theorem d_Plain_counts_65 : decode me_Plain_counts.2.1 65 = .ok (.iastore, 1) := by decide +kernel
theorem d_Plain_counts_66 : decode me_Plain_counts.2.1 66 = .ok (.aload_n 0, 1) := by decide +kernel
theorem d_Plain_counts_67 : decode me_Plain_counts.2.1 67 = .ok (.getfield 57, 3) := by decide +kernel
theorem d_Plain_counts_70 : decode me_Plain_counts.2.1 70 = .ok (.iconst 3, 1) := by decide +kernel
theorem d_Plain_counts_71 : decode me_Plain_counts.2.1 71 = .ok (.iload_n 1, 1) := by decide +kernel
theorem d_Plain_counts_72 : decode me_Plain_counts.2.1 72 = .ok (.iastore, 1) := by decide +kernel
theorem d_Plain_counts_73 : decode me_Plain_counts.2.1 73 = .ok (.aload_n 0, 1) := by decide +kernel
theorem d_Plain_counts_74 : decode me_Plain_counts.2.1 74 = .ok (.getfield 57, 3) := by decide +kernel
theorem d_Plain_counts_77 : decode me_Plain_counts.2.1 77 = .ok (.iconst 4, 1) := by decide +kernel
theorem d_Plain_counts_78 : decode me_Plain_counts.2.1 78 = .ok (.iload_n 2, 1) := by decide +kernel
theorem d_Plain_counts_79 : decode me_Plain_counts.2.1 79 = .ok (.iload_n 3, 1) := by decide +kernel
theorem d_Plain_counts_80 : decode me_Plain_counts.2.1 80 = .ok (.invokestatic 104, 3) := by decide +kernel
theorem d_Plain_counts_83 : decode me_Plain_counts.2.1 83 = .ok (.bipush 10, 2) := by decide +kernel
theorem d_Plain_counts_85 : decode me_Plain_counts.2.1 85 = .ok (.invokestatic 104, 3) := by decide +kernel
theorem d_Plain_counts_88 : decode me_Plain_counts.2.1 88 = .ok (.iastore, 1) := by decide +kernel
theorem d_Plain_counts_89 : decode me_Plain_counts.2.1 89 = .ok (.aload_n 0, 1) := by decide +kernel
theorem d_Plain_counts_90 : decode me_Plain_counts.2.1 90 = .ok (.getfield 57, 3) := by decide +kernel
theorem d_Plain_counts_93 : decode me_Plain_counts.2.1 93 = .ok (.iconst 5, 1) := by decide +kernel
theorem d_Plain_counts_94 : decode me_Plain_counts.2.1 94 = .ok (.iload_n 2, 1) := by decide +kernel
theorem d_Plain_counts_95 : decode me_Plain_counts.2.1 95 = .ok (.iload_n 3, 1) := by decide +kernel
theorem d_Plain_counts_96 : decode me_Plain_counts.2.1 96 = .ok (.invokestatic 109, 3) := by decide +kernel
theorem d_Plain_counts_99 : decode me_Plain_counts.2.1 99 = .ok (.bipush 10, 2) := by decide +kernel
theorem d_Plain_counts_101 : decode me_Plain_counts.2.1 101 = .ok (.invokestatic 104, 3) := by decide +kernel
theorem d_Plain_counts_104 : decode me_Plain_counts.2.1 104 = .ok (.iastore, 1) := by decide +kernel
theorem d_Plain_counts_105 : decode me_Plain_counts.2.1 105 = .ok (.aload_n 0, 1) := by decide +kernel
theorem d_Plain_counts_106 : decode me_Plain_counts.2.1 106 = .ok (.getfield 60, 3) := by decide +kernel
theorem d_Plain_counts_109 : decode me_Plain_counts.2.1 109 = .ok (.iload 4, 2) := by decide +kernel
theorem d_Plain_counts_111 : decode me_Plain_counts.2.1 111 = .ok (.aload_n 0, 1) := by decide +kernel
theorem d_Plain_counts_112 : decode me_Plain_counts.2.1 112 = .ok (.getfield 63, 3) := by decide +kernel
theorem d_Plain_counts_115 : decode me_Plain_counts.2.1 115 = .ok (.aload_n 0, 1) := by decide +kernel
theorem d_Plain_counts_116 : decode me_Plain_counts.2.1 116 = .ok (.getfield 57, 3) := by decide +kernel
theorem d_Plain_counts_119 : decode me_Plain_counts.2.1 119 = .ok (.invokevirtual 112, 3) := by decide +kernel
theorem d_Plain_counts_122 : decode me_Plain_counts.2.1 122 = .ok (.ifCond .eq 7, 3) := by decide +kernel
theorem d_Plain_counts_125 : decode me_Plain_counts.2.1 125 = .ok (.iconst 1, 1) := by decide +kernel
theorem d_Plain_counts_126 : decode me_Plain_counts.2.1 126 = .ok (.goto 4, 3) := by decide +kernel
theorem d_Plain_counts_129 : decode me_Plain_counts.2.1 129 = .ok (.iconst 2, 1) := by decide +kernel
theorem d_Plain_counts_130 : decode me_Plain_counts.2.1 130 = .ok (.iastore, 1) := by decide +kernel
theorem d_Plain_counts_131 : decode me_Plain_counts.2.1 131 = .ok (.aload_n 0, 1) := by decide +kernel
theorem d_Plain_counts_132 : decode me_Plain_counts.2.1 132 = .ok (.getfield 60, 3) := by decide +kernel
theorem d_Plain_counts_135 : decode me_Plain_counts.2.1 135 = .ok (.iload 4, 2) := by decide +kernel
theorem d_Plain_counts_137 : decode me_Plain_counts.2.1 137 = .ok (.iaload, 1) := by decide +kernel
theorem d_Plain_counts_138 : decode me_Plain_counts.2.1 138 = .ok (.iconst 1, 1) := by decide +kernel
theorem d_Plain_counts_139 : decode me_Plain_counts.2.1 139 = .ok (.if_icmp .ne 7, 3) := by decide +kernel
theorem d_Plain_counts_142 : decode me_Plain_counts.2.1 142 = .ok (.iconst 1, 1) := by decide +kernel
theorem d_Plain_counts_143 : decode me_Plain_counts.2.1 143 = .ok (.goto 4, 3) := by decide +kernel
theorem d_Plain_counts_146 : decode me_Plain_counts.2.1 146 = .ok (.iconst 0, 1) := by decide +kernel
theorem d_Plain_counts_147 : decode me_Plain_counts.2.1 147 = .ok (.ireturn, 1) := by decide +kernel
noncomputable def f_Plain_counts_131  (a4 : Int32) (m0 : gk_M) : Option (Int32 × gk_M) :=
  gk_ai m0 20 720 a4 fun v1 =>
  if ¬ v1 = 1 then
    some (0, m0)
  else
    some (1, m0)

theorem s_Plain_counts_131 {z : gk_Z} (K : gk_F tx z me_Plain_counts 3) {r : Int32} {mem2 : gk_M} : ∀ a4 m0, f_Plain_counts_131 a4 m0 = some (r, mem2) → gk_G tx z me_Plain_counts (gk_R tx z (some (.int r)) mem2) m0 [(0, .ref 7), (4, .int a4)] [] 131 := by
  intro a4 m0  h
  unfold f_Plain_counts_131 at h
  refine gk_aload_n (pc := 131) K d_Plain_counts_131 rfl ?_
  refine gk_get (pc := 132) K d_Plain_counts_132 fl_Plain_60 tx_7 rfl rfl ?_
  refine gk_iload (pc := 135) K d_Plain_counts_135 rfl ?_
  refine gk_iald (pc := 137) K d_Plain_counts_137 tx_20 h (fun v1 h => ?_)
  refine gk_iconst (pc := 138) K d_Plain_counts_138 kc_1 ?_
  refine gk_ic_ne (tgt := 146) (pc := 139) K d_Plain_counts_139 (by decide) h (fun h => ?_) (fun h => ?_)
  · refine gk_iconst (pc := 146) K d_Plain_counts_146 kc_0 ?_
    exact gk_zretc (pc := 147) K d_Plain_counts_147 rfl (Or.inl rfl) h
  · refine gk_iconst (pc := 142) K d_Plain_counts_142 kc_1 ?_
    refine gk_goto (tgt := 147) (pc := 143) K d_Plain_counts_143 (by decide) ?_
    exact gk_zretc (pc := 147) K d_Plain_counts_147 rfl (Or.inr rfl) h
noncomputable def f_Plain_counts_130  (a4 : Int32) (s1 : Int32) (s2 : Int32) (m0 : gk_M) : Option (Int32 × gk_M) :=
  gk_si m0 20 720 s1 s2 fun m1 =>
  f_Plain_counts_131 a4 m1

theorem s_Plain_counts_130 {z : gk_Z} (K : gk_F tx z me_Plain_counts 3) {r : Int32} {mem2 : gk_M} : ∀ a4 s1 s2 m0, f_Plain_counts_130 a4 s1 s2 m0 = some (r, mem2) → gk_G tx z me_Plain_counts (gk_R tx z (some (.int r)) mem2) m0 [(0, .ref 7), (4, .int a4)] [.int s2, .int s1, .ref 20] 130 := by
  intro a4 s1 s2 m0  h
  unfold f_Plain_counts_130 at h
  refine gk_iast (pc := 130) K d_Plain_counts_130 tx_20 h (fun m1 h => ?_)
  exact gk_sub [0, 1] rfl (s_Plain_counts_131 K _ _  h)
noncomputable def f_Plain_counts  (a1 : Int32) (a2 : Int32) (a3 : Int32) (m0 : gk_M) : Option (Int32 × gk_M) :=
  gk_let ((((a1 * 12) + a2) * 12) + a3) fun v1 =>
  gk_ai m0 20 720 v1 fun v2 =>
  if ¬ v2 = 0 then
    f_Plain_counts_131 v1 m0
  else
    gk_ai m0 10 12 a2 fun v3 =>
    gk_si m0 19 6 0 v3 fun m4 =>
    gk_ai m4 10 12 a3 fun v5 =>
    gk_si m4 19 6 1 v5 fun m6 =>
    gk_ai m6 12 12 a2 fun v7 =>
    gk_ai m6 12 12 a3 fun v8 =>
    gk_si m6 19 6 2 (v7 + v8) fun m9 =>
    gk_si m9 19 6 3 a1 fun m10 =>
    gk_si m10 19 6 4 (gk_min (gk_min a2 a3) 10) fun m11 =>
    gk_si m11 19 6 5 (gk_min (gk_max a2 a3) 10) fun m12 =>
    gk_bi (f_Law_verdict  m12) fun v14 m13 =>
    if v14 = 0 then
      f_Plain_counts_130 v1 v1 2 m13
    else
      f_Plain_counts_130 v1 v1 1 m13

theorem s_Plain_counts_0 {z : gk_Z} (K : gk_F tx z me_Plain_counts 3) {r : Int32} {mem2 : gk_M} : ∀ a1 a2 a3 m0, f_Plain_counts a1 a2 a3 m0 = some (r, mem2) → gk_G tx z me_Plain_counts (gk_R tx z (some (.int r)) mem2) m0 [(0, .ref 7), (1, .int a1), (2, .int a2), (3, .int a3)] [] 0 := by
  intro a1 a2 a3 m0  h
  unfold f_Plain_counts at h
  refine gk_iload_n (pc := 0) K d_Plain_counts_0 rfl ?_
  refine gk_bipush (pc := 1) K d_Plain_counts_1 kb_12 ?_
  refine gk_imul (pc := 3) K d_Plain_counts_3 ?_
  refine gk_iload_n (pc := 4) K d_Plain_counts_4 rfl ?_
  refine gk_iadd (pc := 5) K d_Plain_counts_5 ?_
  refine gk_bipush (pc := 6) K d_Plain_counts_6 kb_12 ?_
  refine gk_imul (pc := 8) K d_Plain_counts_8 ?_
  refine gk_iload_n (pc := 9) K d_Plain_counts_9 rfl ?_
  refine gk_iadd (pc := 10) K d_Plain_counts_10 ?_
  refine gk_topi h (fun v1 h => ?_)
  refine gk_istore (lv2 := [(4, .int v1), (0, .ref 7), (1, .int a1), (2, .int a2), (3, .int a3)]) (pc := 11) K d_Plain_counts_11 (by decide) rfl ?_
  refine gk_aload_n (pc := 13) K d_Plain_counts_13 rfl ?_
  refine gk_get (pc := 14) K d_Plain_counts_14 fl_Plain_60 tx_7 rfl rfl ?_
  refine gk_iload (pc := 17) K d_Plain_counts_17 rfl ?_
  refine gk_iald (pc := 19) K d_Plain_counts_19 tx_20 h (fun v2 h => ?_)
  refine gk_if_ne (tgt := 131) (pc := 20) K d_Plain_counts_20 (by decide) h (fun h => ?_) (fun h => ?_)
  · exact gk_sub [1, 0] rfl (s_Plain_counts_131 K _ _  h)
  · refine gk_aload_n (pc := 23) K d_Plain_counts_23 rfl ?_
    refine gk_get (pc := 24) K d_Plain_counts_24 fl_Plain_57 tx_7 rfl rfl ?_
    refine gk_iconst (pc := 27) K d_Plain_counts_27 kc_0 ?_
    refine gk_aload_n (pc := 28) K d_Plain_counts_28 rfl ?_
    refine gk_get (pc := 29) K d_Plain_counts_29 fl_Plain_18 tx_7 rfl rfl ?_
    refine gk_iload_n (pc := 32) K d_Plain_counts_32 rfl ?_
    refine gk_iald (pc := 33) K d_Plain_counts_33 tx_10 h (fun v3 h => ?_)
    refine gk_iast (pc := 34) K d_Plain_counts_34 tx_19 h (fun m4 h => ?_)
    refine gk_aload_n (pc := 35) K d_Plain_counts_35 rfl ?_
    refine gk_get (pc := 36) K d_Plain_counts_36 fl_Plain_57 tx_7 rfl rfl ?_
    refine gk_iconst (pc := 39) K d_Plain_counts_39 kc_1 ?_
    refine gk_aload_n (pc := 40) K d_Plain_counts_40 rfl ?_
    refine gk_get (pc := 41) K d_Plain_counts_41 fl_Plain_18 tx_7 rfl rfl ?_
    refine gk_iload_n (pc := 44) K d_Plain_counts_44 rfl ?_
    refine gk_iald (pc := 45) K d_Plain_counts_45 tx_10 h (fun v5 h => ?_)
    refine gk_iast (pc := 46) K d_Plain_counts_46 tx_19 h (fun m6 h => ?_)
    refine gk_aload_n (pc := 47) K d_Plain_counts_47 rfl ?_
    refine gk_get (pc := 48) K d_Plain_counts_48 fl_Plain_57 tx_7 rfl rfl ?_
    refine gk_iconst (pc := 51) K d_Plain_counts_51 kc_2 ?_
    refine gk_aload_n (pc := 52) K d_Plain_counts_52 rfl ?_
    refine gk_get (pc := 53) K d_Plain_counts_53 fl_Plain_24 tx_7 rfl rfl ?_
    refine gk_iload_n (pc := 56) K d_Plain_counts_56 rfl ?_
    refine gk_iald (pc := 57) K d_Plain_counts_57 tx_12 h (fun v7 h => ?_)
    refine gk_aload_n (pc := 58) K d_Plain_counts_58 rfl ?_
    refine gk_get (pc := 59) K d_Plain_counts_59 fl_Plain_24 tx_7 rfl rfl ?_
    refine gk_iload_n (pc := 62) K d_Plain_counts_62 rfl ?_
    refine gk_iald (pc := 63) K d_Plain_counts_63 tx_12 h (fun v8 h => ?_)
    refine gk_iadd (pc := 64) K d_Plain_counts_64 ?_
    refine gk_iast (pc := 65) K d_Plain_counts_65 tx_19 h (fun m9 h => ?_)
    refine gk_aload_n (pc := 66) K d_Plain_counts_66 rfl ?_
    refine gk_get (pc := 67) K d_Plain_counts_67 fl_Plain_57 tx_7 rfl rfl ?_
    refine gk_iconst (pc := 70) K d_Plain_counts_70 kc_3 ?_
    refine gk_iload_n (pc := 71) K d_Plain_counts_71 rfl ?_
    refine gk_iast (pc := 72) K d_Plain_counts_72 tx_19 h (fun m10 h => ?_)
    refine gk_aload_n (pc := 73) K d_Plain_counts_73 rfl ?_
    refine gk_get (pc := 74) K d_Plain_counts_74 fl_Plain_57 tx_7 rfl rfl ?_
    refine gk_iconst (pc := 77) K d_Plain_counts_77 kc_4 ?_
    refine gk_iload_n (pc := 78) K d_Plain_counts_78 rfl ?_
    refine gk_iload_n (pc := 79) K d_Plain_counts_79 rfl ?_
    refine gk_mmin (pc := 80) K d_Plain_counts_80 ms_Plain_104 (by decide) (Nat.le_of_ble_eq_true rfl) ?_
    refine gk_bipush (pc := 83) K d_Plain_counts_83 kb_10 ?_
    refine gk_mmin (pc := 85) K d_Plain_counts_85 ms_Plain_104 (by decide) (Nat.le_of_ble_eq_true rfl) ?_
    refine gk_iast (pc := 88) K d_Plain_counts_88 tx_19 h (fun m11 h => ?_)
    refine gk_aload_n (pc := 89) K d_Plain_counts_89 rfl ?_
    refine gk_get (pc := 90) K d_Plain_counts_90 fl_Plain_57 tx_7 rfl rfl ?_
    refine gk_iconst (pc := 93) K d_Plain_counts_93 kc_5 ?_
    refine gk_iload_n (pc := 94) K d_Plain_counts_94 rfl ?_
    refine gk_iload_n (pc := 95) K d_Plain_counts_95 rfl ?_
    refine gk_mmax (pc := 96) K d_Plain_counts_96 ms_Plain_109 (by decide) (Nat.le_of_ble_eq_true rfl) ?_
    refine gk_bipush (pc := 99) K d_Plain_counts_99 kb_10 ?_
    refine gk_mmin (pc := 101) K d_Plain_counts_101 ms_Plain_104 (by decide) (Nat.le_of_ble_eq_true rfl) ?_
    refine gk_iast (pc := 104) K d_Plain_counts_104 tx_19 h (fun m12 h => ?_)
    refine gk_aload_n (pc := 105) K d_Plain_counts_105 rfl ?_
    refine gk_get (pc := 106) K d_Plain_counts_106 fl_Plain_60 tx_7 rfl rfl ?_
    refine gk_iload (pc := 109) K d_Plain_counts_109 rfl ?_
    refine gk_aload_n (pc := 111) K d_Plain_counts_111 rfl ?_
    refine gk_get (pc := 112) K d_Plain_counts_112 fl_Plain_63 tx_7 rfl rfl ?_
    refine gk_aload_n (pc := 115) K d_Plain_counts_115 rfl ?_
    refine gk_get (pc := 116) K d_Plain_counts_116 fl_Plain_57 tx_7 rfl rfl ?_
    obtain ⟨v14, m13, em13, h⟩ := gk_bi_some h
    refine gk_cVi (As := [.ref 19]) (pc := 119) K d_Plain_counts_119 mv_Plain_112 mc_Law_verdict rfl tx_1 cl_ok0.1 (s_Law_verdict (gk_FD K)  em13) (by decide) rfl (Nat.le_of_ble_eq_true rfl) ?_
    refine gk_if_eq (tgt := 129) (pc := 122) K d_Plain_counts_122 (by decide) h (fun h => ?_) (fun h => ?_)
    · refine gk_iconst (pc := 129) K d_Plain_counts_129 kc_2 ?_
      exact gk_sub [1, 0] rfl (s_Plain_counts_130 K _ _ _ _  h)
    · refine gk_iconst (pc := 125) K d_Plain_counts_125 kc_1 ?_
      refine gk_goto (tgt := 130) (pc := 126) K d_Plain_counts_126 (by decide) ?_
      exact gk_sub [1, 0] rfl (s_Plain_counts_130 K _ _ _ _  h)
theorem s_Plain_counts {l : Launch} {u : gk_U} (hD : gk_D tx u) {a1 : Int32} {a2 : Int32} {a3 : Int32} {m0 mem2 : gk_M} {r : Int32} (h : f_Plain_counts a1 a2 a3 m0 = some (r, mem2)) : gk_C tx l u me_Plain_counts 3 [.ref 7, .int a1, .int a2, .int a3] m0 (some (.int r)) mem2 :=
  gk_enter hD mc_Plain_counts (Nat.le_of_ble_eq_true rfl) rfl (fun z _ _ K => s_Plain_counts_0 K _ _ _ _  h)
theorem d_Plain_areBothOnOneSide_0 : decode me_Plain_areBothOnOneSide.2.1 0 = .ok (.iload_n 0, 1) := by decide +kernel
theorem d_Plain_areBothOnOneSide_1 : decode me_Plain_areBothOnOneSide.2.1 1 = .ok (.ifCond .le 7, 3) := by decide +kernel
theorem d_Plain_areBothOnOneSide_4 : decode me_Plain_areBothOnOneSide.2.1 4 = .ok (.iload_n 1, 1) := by decide +kernel
theorem d_Plain_areBothOnOneSide_5 : decode me_Plain_areBothOnOneSide.2.1 5 = .ok (.ifCond .gt 11, 3) := by decide +kernel
theorem d_Plain_areBothOnOneSide_8 : decode me_Plain_areBothOnOneSide.2.1 8 = .ok (.iload_n 0, 1) := by decide +kernel
theorem d_Plain_areBothOnOneSide_9 : decode me_Plain_areBothOnOneSide.2.1 9 = .ok (.ifCond .ge 11, 3) := by decide +kernel
theorem d_Plain_areBothOnOneSide_12 : decode me_Plain_areBothOnOneSide.2.1 12 = .ok (.iload_n 1, 1) := by decide +kernel
theorem d_Plain_areBothOnOneSide_13 : decode me_Plain_areBothOnOneSide.2.1 13 = .ok (.ifCond .ge 7, 3) := by decide +kernel
theorem d_Plain_areBothOnOneSide_16 : decode me_Plain_areBothOnOneSide.2.1 16 = .ok (.iconst 1, 1) := by decide +kernel
theorem d_Plain_areBothOnOneSide_17 : decode me_Plain_areBothOnOneSide.2.1 17 = .ok (.goto 4, 3) := by decide +kernel
theorem d_Plain_areBothOnOneSide_20 : decode me_Plain_areBothOnOneSide.2.1 20 = .ok (.iconst 0, 1) := by decide +kernel
theorem d_Plain_areBothOnOneSide_21 : decode me_Plain_areBothOnOneSide.2.1 21 = .ok (.ireturn, 1) := by decide +kernel
noncomputable def f_Plain_areBothOnOneSide_8  (a0 : Int32) (a1 : Int32) (m0 : gk_M) : Option (Int32 × gk_M) :=
  if 0 ≤ a0 then
    some (0, m0)
  else
    if 0 ≤ a1 then
      some (0, m0)
    else
      some (1, m0)

theorem s_Plain_areBothOnOneSide_8 {z : gk_Z} (K : gk_F tx z me_Plain_areBothOnOneSide 1) {r : Int32} {mem2 : gk_M} : ∀ a0 a1 m0, f_Plain_areBothOnOneSide_8 a0 a1 m0 = some (r, mem2) → gk_G tx z me_Plain_areBothOnOneSide (gk_R tx z (some (.int r)) mem2) m0 [(0, .int a0), (1, .int a1)] [] 8 := by
  intro a0 a1 m0  h
  unfold f_Plain_areBothOnOneSide_8 at h
  refine gk_iload_n (pc := 8) K d_Plain_areBothOnOneSide_8 rfl ?_
  refine gk_if_ge (tgt := 20) (pc := 9) K d_Plain_areBothOnOneSide_9 (by decide) h (fun h => ?_) (fun h => ?_)
  · refine gk_iconst (pc := 20) K d_Plain_areBothOnOneSide_20 kc_0 ?_
    exact gk_zretc (pc := 21) K d_Plain_areBothOnOneSide_21 rfl (Or.inl rfl) h
  · refine gk_iload_n (pc := 12) K d_Plain_areBothOnOneSide_12 rfl ?_
    refine gk_if_ge (tgt := 20) (pc := 13) K d_Plain_areBothOnOneSide_13 (by decide) h (fun h => ?_) (fun h => ?_)
    · refine gk_iconst (pc := 20) K d_Plain_areBothOnOneSide_20 kc_0 ?_
      exact gk_zretc (pc := 21) K d_Plain_areBothOnOneSide_21 rfl (Or.inl rfl) h
    · refine gk_iconst (pc := 16) K d_Plain_areBothOnOneSide_16 kc_1 ?_
      refine gk_goto (tgt := 21) (pc := 17) K d_Plain_areBothOnOneSide_17 (by decide) ?_
      exact gk_zretc (pc := 21) K d_Plain_areBothOnOneSide_21 rfl (Or.inr rfl) h
noncomputable def f_Plain_areBothOnOneSide  (a0 : Int32) (a1 : Int32) (m0 : gk_M) : Option (Int32 × gk_M) :=
  if a0 ≤ 0 then
    f_Plain_areBothOnOneSide_8 a0 a1 m0
  else
    if 0 < a1 then
      some (1, m0)
    else
      f_Plain_areBothOnOneSide_8 a0 a1 m0

theorem s_Plain_areBothOnOneSide_0 {z : gk_Z} (K : gk_F tx z me_Plain_areBothOnOneSide 1) {r : Int32} {mem2 : gk_M} : ∀ a0 a1 m0, f_Plain_areBothOnOneSide a0 a1 m0 = some (r, mem2) → gk_G tx z me_Plain_areBothOnOneSide (gk_R tx z (some (.int r)) mem2) m0 [(0, .int a0), (1, .int a1)] [] 0 := by
  intro a0 a1 m0  h
  unfold f_Plain_areBothOnOneSide at h
  refine gk_iload_n (pc := 0) K d_Plain_areBothOnOneSide_0 rfl ?_
  refine gk_if_le (tgt := 8) (pc := 1) K d_Plain_areBothOnOneSide_1 (by decide) h (fun h => ?_) (fun h => ?_)
  · exact gk_sub [0, 1] rfl (s_Plain_areBothOnOneSide_8 K _ _ _  h)
  · refine gk_iload_n (pc := 4) K d_Plain_areBothOnOneSide_4 rfl ?_
    refine gk_if_gt (tgt := 16) (pc := 5) K d_Plain_areBothOnOneSide_5 (by decide) h (fun h => ?_) (fun h => ?_)
    · refine gk_iconst (pc := 16) K d_Plain_areBothOnOneSide_16 kc_1 ?_
      refine gk_goto (tgt := 21) (pc := 17) K d_Plain_areBothOnOneSide_17 (by decide) ?_
      exact gk_zretc (pc := 21) K d_Plain_areBothOnOneSide_21 rfl (Or.inr rfl) h
    · exact gk_sub [0, 1] rfl (s_Plain_areBothOnOneSide_8 K _ _ _  h)
theorem s_Plain_areBothOnOneSide {l : Launch} {u : gk_U} (hD : gk_D tx u) {a0 : Int32} {a1 : Int32} {m0 mem2 : gk_M} {r : Int32} (h : f_Plain_areBothOnOneSide a0 a1 m0 = some (r, mem2)) : gk_C tx l u me_Plain_areBothOnOneSide 1 [.int a0, .int a1] m0 (some (.int r)) mem2 :=
  gk_enter hD mc_Plain_areBothOnOneSide (Nat.le_of_ble_eq_true rfl) rfl (fun z _ _ K => s_Plain_areBothOnOneSide_0 K _ _ _  h)
theorem d_Plain_overlap_0 : decode me_Plain_overlap.2.1 0 = .ok (.iload_n 0, 1) := by decide +kernel
theorem d_Plain_overlap_1 : decode me_Plain_overlap.2.1 1 = .ok (.iload_n 1, 1) := by decide +kernel
theorem d_Plain_overlap_2 : decode me_Plain_overlap.2.1 2 = .ok (.if_icmp .ge 7, 3) := by decide +kernel
theorem d_Plain_overlap_5 : decode me_Plain_overlap.2.1 5 = .ok (.iload_n 0, 1) := by decide +kernel
theorem d_Plain_overlap_6 : decode me_Plain_overlap.2.1 6 = .ok (.goto 4, 3) := by decide +kernel
theorem d_Plain_overlap_9 : decode me_Plain_overlap.2.1 9 = .ok (.iload_n 1, 1) := by decide +kernel
theorem d_Plain_overlap_10 : decode me_Plain_overlap.2.1 10 = .ok (.istore 4, 2) := by decide +kernel
theorem d_Plain_overlap_12 : decode me_Plain_overlap.2.1 12 = .ok (.iload_n 0, 1) := by decide +kernel
theorem d_Plain_overlap_13 : decode me_Plain_overlap.2.1 13 = .ok (.iload_n 1, 1) := by decide +kernel
theorem d_Plain_overlap_14 : decode me_Plain_overlap.2.1 14 = .ok (.if_icmp .ge 7, 3) := by decide +kernel
theorem d_Plain_overlap_17 : decode me_Plain_overlap.2.1 17 = .ok (.iload_n 1, 1) := by decide +kernel
theorem d_Plain_overlap_18 : decode me_Plain_overlap.2.1 18 = .ok (.goto 4, 3) := by decide +kernel
theorem d_Plain_overlap_21 : decode me_Plain_overlap.2.1 21 = .ok (.iload_n 0, 1) := by decide +kernel
theorem d_Plain_overlap_22 : decode me_Plain_overlap.2.1 22 = .ok (.istore 5, 2) := by decide +kernel
theorem d_Plain_overlap_24 : decode me_Plain_overlap.2.1 24 = .ok (.iload_n 2, 1) := by decide +kernel
theorem d_Plain_overlap_25 : decode me_Plain_overlap.2.1 25 = .ok (.iload 5, 2) := by decide +kernel
theorem d_Plain_overlap_27 : decode me_Plain_overlap.2.1 27 = .ok (.if_icmp .lt 9, 3) := by decide +kernel
theorem d_Plain_overlap_30 : decode me_Plain_overlap.2.1 30 = .ok (.iload_n 3, 1) := by decide +kernel
theorem d_Plain_overlap_31 : decode me_Plain_overlap.2.1 31 = .ok (.iload 5, 2) := by decide +kernel
theorem d_Plain_overlap_33 : decode me_Plain_overlap.2.1 33 = .ok (.if_icmp .ge 19, 3) := by decide +kernel
theorem d_Plain_overlap_36 : decode me_Plain_overlap.2.1 36 = .ok (.iload_n 2, 1) := by decide +kernel
theorem d_Plain_overlap_37 : decode me_Plain_overlap.2.1 37 = .ok (.iload 4, 2) := by decide +kernel
theorem d_Plain_overlap_39 : decode me_Plain_overlap.2.1 39 = .ok (.if_icmp .gt 9, 3) := by decide +kernel
theorem d_Plain_overlap_42 : decode me_Plain_overlap.2.1 42 = .ok (.iload_n 3, 1) := by decide +kernel
theorem d_Plain_overlap_43 : decode me_Plain_overlap.2.1 43 = .ok (.iload 4, 2) := by decide +kernel
theorem d_Plain_overlap_45 : decode me_Plain_overlap.2.1 45 = .ok (.if_icmp .le 7, 3) := by decide +kernel
theorem d_Plain_overlap_48 : decode me_Plain_overlap.2.1 48 = .ok (.iconst 1, 1) := by decide +kernel
theorem d_Plain_overlap_49 : decode me_Plain_overlap.2.1 49 = .ok (.goto 4, 3) := by decide +kernel
theorem d_Plain_overlap_52 : decode me_Plain_overlap.2.1 52 = .ok (.iconst 0, 1) := by decide +kernel
theorem d_Plain_overlap_53 : decode me_Plain_overlap.2.1 53 = .ok (.ireturn, 1) := by decide +kernel
noncomputable def f_Plain_overlap_36  (a2 : Int32) (a3 : Int32) (a4 : Int32) (m0 : gk_M) : Option (Int32 × gk_M) :=
  if a4 < a2 then
    some (1, m0)
  else
    if a3 ≤ a4 then
      some (0, m0)
    else
      some (1, m0)

theorem s_Plain_overlap_36 {z : gk_Z} (K : gk_F tx z me_Plain_overlap 1) {r : Int32} {mem2 : gk_M} : ∀ a2 a3 a4 m0, f_Plain_overlap_36 a2 a3 a4 m0 = some (r, mem2) → gk_G tx z me_Plain_overlap (gk_R tx z (some (.int r)) mem2) m0 [(2, .int a2), (3, .int a3), (4, .int a4)] [] 36 := by
  intro a2 a3 a4 m0  h
  unfold f_Plain_overlap_36 at h
  refine gk_iload_n (pc := 36) K d_Plain_overlap_36 rfl ?_
  refine gk_iload (pc := 37) K d_Plain_overlap_37 rfl ?_
  refine gk_ic_gt (tgt := 48) (pc := 39) K d_Plain_overlap_39 (by decide) h (fun h => ?_) (fun h => ?_)
  · refine gk_iconst (pc := 48) K d_Plain_overlap_48 kc_1 ?_
    refine gk_goto (tgt := 53) (pc := 49) K d_Plain_overlap_49 (by decide) ?_
    exact gk_zretc (pc := 53) K d_Plain_overlap_53 rfl (Or.inr rfl) h
  · refine gk_iload_n (pc := 42) K d_Plain_overlap_42 rfl ?_
    refine gk_iload (pc := 43) K d_Plain_overlap_43 rfl ?_
    refine gk_ic_le (tgt := 52) (pc := 45) K d_Plain_overlap_45 (by decide) h (fun h => ?_) (fun h => ?_)
    · refine gk_iconst (pc := 52) K d_Plain_overlap_52 kc_0 ?_
      exact gk_zretc (pc := 53) K d_Plain_overlap_53 rfl (Or.inl rfl) h
    · refine gk_iconst (pc := 48) K d_Plain_overlap_48 kc_1 ?_
      refine gk_goto (tgt := 53) (pc := 49) K d_Plain_overlap_49 (by decide) ?_
      exact gk_zretc (pc := 53) K d_Plain_overlap_53 rfl (Or.inr rfl) h
noncomputable def f_Plain_overlap_22  (a2 : Int32) (a3 : Int32) (a4 : Int32) (s0 : Int32) (m0 : gk_M) : Option (Int32 × gk_M) :=
  if a2 < s0 then
    f_Plain_overlap_36 a2 a3 a4 m0
  else
    if s0 ≤ a3 then
      some (0, m0)
    else
      f_Plain_overlap_36 a2 a3 a4 m0

theorem s_Plain_overlap_22 {z : gk_Z} (K : gk_F tx z me_Plain_overlap 1) {r : Int32} {mem2 : gk_M} : ∀ a2 a3 a4 s0 m0, f_Plain_overlap_22 a2 a3 a4 s0 m0 = some (r, mem2) → gk_G tx z me_Plain_overlap (gk_R tx z (some (.int r)) mem2) m0 [(2, .int a2), (3, .int a3), (4, .int a4)] [.int s0] 22 := by
  intro a2 a3 a4 s0 m0  h
  unfold f_Plain_overlap_22 at h
  refine gk_istore (lv2 := [(5, .int s0), (2, .int a2), (3, .int a3), (4, .int a4)]) (pc := 22) K d_Plain_overlap_22 (by decide) rfl ?_
  refine gk_iload_n (pc := 24) K d_Plain_overlap_24 rfl ?_
  refine gk_iload (pc := 25) K d_Plain_overlap_25 rfl ?_
  refine gk_ic_lt (tgt := 36) (pc := 27) K d_Plain_overlap_27 (by decide) h (fun h => ?_) (fun h => ?_)
  · exact gk_sub [1, 2, 3] rfl (s_Plain_overlap_36 K _ _ _ _  h)
  · refine gk_iload_n (pc := 30) K d_Plain_overlap_30 rfl ?_
    refine gk_iload (pc := 31) K d_Plain_overlap_31 rfl ?_
    refine gk_ic_ge (tgt := 52) (pc := 33) K d_Plain_overlap_33 (by decide) h (fun h => ?_) (fun h => ?_)
    · refine gk_iconst (pc := 52) K d_Plain_overlap_52 kc_0 ?_
      exact gk_zretc (pc := 53) K d_Plain_overlap_53 rfl (Or.inl rfl) h
    · exact gk_sub [1, 2, 3] rfl (s_Plain_overlap_36 K _ _ _ _  h)
noncomputable def f_Plain_overlap_10  (a0 : Int32) (a1 : Int32) (a2 : Int32) (a3 : Int32) (s0 : Int32) (m0 : gk_M) : Option (Int32 × gk_M) :=
  if a1 ≤ a0 then
    f_Plain_overlap_22 a2 a3 s0 a0 m0
  else
    f_Plain_overlap_22 a2 a3 s0 a1 m0

theorem s_Plain_overlap_10 {z : gk_Z} (K : gk_F tx z me_Plain_overlap 1) {r : Int32} {mem2 : gk_M} : ∀ a0 a1 a2 a3 s0 m0, f_Plain_overlap_10 a0 a1 a2 a3 s0 m0 = some (r, mem2) → gk_G tx z me_Plain_overlap (gk_R tx z (some (.int r)) mem2) m0 [(0, .int a0), (1, .int a1), (2, .int a2), (3, .int a3)] [.int s0] 10 := by
  intro a0 a1 a2 a3 s0 m0  h
  unfold f_Plain_overlap_10 at h
  refine gk_istore (lv2 := [(4, .int s0), (0, .int a0), (1, .int a1), (2, .int a2), (3, .int a3)]) (pc := 10) K d_Plain_overlap_10 (by decide) rfl ?_
  refine gk_iload_n (pc := 12) K d_Plain_overlap_12 rfl ?_
  refine gk_iload_n (pc := 13) K d_Plain_overlap_13 rfl ?_
  refine gk_ic_ge (tgt := 21) (pc := 14) K d_Plain_overlap_14 (by decide) h (fun h => ?_) (fun h => ?_)
  · refine gk_iload_n (pc := 21) K d_Plain_overlap_21 rfl ?_
    exact gk_sub [3, 4, 0] rfl (s_Plain_overlap_22 K _ _ _ _ _  h)
  · refine gk_iload_n (pc := 17) K d_Plain_overlap_17 rfl ?_
    refine gk_goto (tgt := 22) (pc := 18) K d_Plain_overlap_18 (by decide) ?_
    exact gk_sub [3, 4, 0] rfl (s_Plain_overlap_22 K _ _ _ _ _  h)
noncomputable def f_Plain_overlap  (a0 : Int32) (a1 : Int32) (a2 : Int32) (a3 : Int32) (m0 : gk_M) : Option (Int32 × gk_M) :=
  if a1 ≤ a0 then
    f_Plain_overlap_10 a0 a1 a2 a3 a1 m0
  else
    f_Plain_overlap_10 a0 a1 a2 a3 a0 m0

theorem s_Plain_overlap_0 {z : gk_Z} (K : gk_F tx z me_Plain_overlap 1) {r : Int32} {mem2 : gk_M} : ∀ a0 a1 a2 a3 m0, f_Plain_overlap a0 a1 a2 a3 m0 = some (r, mem2) → gk_G tx z me_Plain_overlap (gk_R tx z (some (.int r)) mem2) m0 [(0, .int a0), (1, .int a1), (2, .int a2), (3, .int a3)] [] 0 := by
  intro a0 a1 a2 a3 m0  h
  unfold f_Plain_overlap at h
  refine gk_iload_n (pc := 0) K d_Plain_overlap_0 rfl ?_
  refine gk_iload_n (pc := 1) K d_Plain_overlap_1 rfl ?_
  refine gk_ic_ge (tgt := 9) (pc := 2) K d_Plain_overlap_2 (by decide) h (fun h => ?_) (fun h => ?_)
  · refine gk_iload_n (pc := 9) K d_Plain_overlap_9 rfl ?_
    exact gk_sub [0, 1, 2, 3] rfl (s_Plain_overlap_10 K _ _ _ _ _ _  h)
  · refine gk_iload_n (pc := 5) K d_Plain_overlap_5 rfl ?_
    refine gk_goto (tgt := 10) (pc := 6) K d_Plain_overlap_6 (by decide) ?_
    exact gk_sub [0, 1, 2, 3] rfl (s_Plain_overlap_10 K _ _ _ _ _ _  h)
theorem s_Plain_overlap {l : Launch} {u : gk_U} (hD : gk_D tx u) {a0 : Int32} {a1 : Int32} {a2 : Int32} {a3 : Int32} {m0 mem2 : gk_M} {r : Int32} (h : f_Plain_overlap a0 a1 a2 a3 m0 = some (r, mem2)) : gk_C tx l u me_Plain_overlap 1 [.int a0, .int a1, .int a2, .int a3] m0 (some (.int r)) mem2 :=
  gk_enter hD mc_Plain_overlap (Nat.le_of_ble_eq_true rfl) rfl (fun z _ _ K => s_Plain_overlap_0 K _ _ _ _ _  h)
theorem d_Plain_cuts_0 : decode me_Plain_cuts.2.1 0 = .ok (.aload_n 0, 1) := by decide +kernel
theorem d_Plain_cuts_1 : decode me_Plain_cuts.2.1 1 = .ok (.getfield 43, 3) := by decide +kernel
theorem d_Plain_cuts_4 : decode me_Plain_cuts.2.1 4 = .ok (.iload_n 1, 1) := by decide +kernel
theorem d_Plain_cuts_5 : decode me_Plain_cuts.2.1 5 = .ok (.iaload, 1) := by decide +kernel
theorem d_Plain_cuts_6 : decode me_Plain_cuts.2.1 6 = .ok (.istore 8, 2) := by decide +kernel
theorem d_Plain_cuts_8 : decode me_Plain_cuts.2.1 8 = .ok (.aload_n 0, 1) := by decide +kernel
theorem d_Plain_cuts_9 : decode me_Plain_cuts.2.1 9 = .ok (.getfield 46, 3) := by decide +kernel
theorem d_Plain_cuts_12 : decode me_Plain_cuts.2.1 12 = .ok (.iload_n 1, 1) := by decide +kernel
theorem d_Plain_cuts_13 : decode me_Plain_cuts.2.1 13 = .ok (.iaload, 1) := by decide +kernel
theorem d_Plain_cuts_14 : decode me_Plain_cuts.2.1 14 = .ok (.istore 9, 2) := by decide +kernel
theorem d_Plain_cuts_16 : decode me_Plain_cuts.2.1 16 = .ok (.aload_n 0, 1) := by decide +kernel
theorem d_Plain_cuts_17 : decode me_Plain_cuts.2.1 17 = .ok (.getfield 49, 3) := by decide +kernel
theorem d_Plain_cuts_20 : decode me_Plain_cuts.2.1 20 = .ok (.iload_n 1, 1) := by decide +kernel
theorem d_Plain_cuts_21 : decode me_Plain_cuts.2.1 21 = .ok (.iaload, 1) := by decide +kernel
theorem d_Plain_cuts_22 : decode me_Plain_cuts.2.1 22 = .ok (.istore 10, 2) := by decide +kernel
theorem d_Plain_cuts_24 : decode me_Plain_cuts.2.1 24 = .ok (.aload_n 0, 1) := by decide +kernel
theorem d_Plain_cuts_25 : decode me_Plain_cuts.2.1 25 = .ok (.getfield 52, 3) := by decide +kernel
theorem d_Plain_cuts_28 : decode me_Plain_cuts.2.1 28 = .ok (.iload_n 1, 1) := by decide +kernel
theorem d_Plain_cuts_29 : decode me_Plain_cuts.2.1 29 = .ok (.iaload, 1) := by decide +kernel
theorem d_Plain_cuts_30 : decode me_Plain_cuts.2.1 30 = .ok (.istore 11, 2) := by decide +kernel
theorem d_Plain_cuts_32 : decode me_Plain_cuts.2.1 32 = .ok (.aload_n 0, 1) := by decide +kernel
theorem d_Plain_cuts_33 : decode me_Plain_cuts.2.1 33 = .ok (.getfield 11, 3) := by decide +kernel
theorem d_Plain_cuts_36 : decode me_Plain_cuts.2.1 36 = .ok (.iload 5, 2) := by decide +kernel
theorem d_Plain_cuts_38 : decode me_Plain_cuts.2.1 38 = .ok (.iaload, 1) := by decide +kernel
theorem d_Plain_cuts_39 : decode me_Plain_cuts.2.1 39 = .ok (.istore 12, 2) := by decide +kernel
theorem d_Plain_cuts_41 : decode me_Plain_cuts.2.1 41 = .ok (.aload_n 0, 1) := by decide +kernel
theorem d_Plain_cuts_42 : decode me_Plain_cuts.2.1 42 = .ok (.getfield 15, 3) := by decide +kernel
theorem d_Plain_cuts_45 : decode me_Plain_cuts.2.1 45 = .ok (.iload 5, 2) := by decide +kernel
theorem d_Plain_cuts_47 : decode me_Plain_cuts.2.1 47 = .ok (.iaload, 1) := by decide +kernel
theorem d_Plain_cuts_48 : decode me_Plain_cuts.2.1 48 = .ok (.istore 13, 2) := by decide +kernel
theorem d_Plain_cuts_50 : decode me_Plain_cuts.2.1 50 = .ok (.iload 6, 2) := by decide +kernel
theorem d_Plain_cuts_52 : decode me_Plain_cuts.2.1 52 = .ok (.iload 9, 2) := by decide +kernel
theorem d_Plain_cuts_54 : decode me_Plain_cuts.2.1 54 = .ok (.iload 13, 2) := by decide +kernel
theorem d_Plain_cuts_56 : decode me_Plain_cuts.2.1 56 = .ok (.isub, 1) := by decide +kernel
theorem d_Plain_cuts_57 : decode me_Plain_cuts.2.1 57 = .ok (.imul, 1) := by decide +kernel
theorem d_Plain_cuts_58 : decode me_Plain_cuts.2.1 58 = .ok (.iload 7, 2) := by decide +kernel
theorem d_Plain_cuts_60 : decode me_Plain_cuts.2.1 60 = .ok (.iload 8, 2) := by decide +kernel
theorem d_Plain_cuts_62 : decode me_Plain_cuts.2.1 62 = .ok (.iload 12, 2) := by decide +kernel
theorem d_Plain_cuts_64 : decode me_Plain_cuts.2.1 64 = .ok (.isub, 1) := by decide +kernel
theorem d_Plain_cuts_65 : decode me_Plain_cuts.2.1 65 = .ok (.imul, 1) := by decide +kernel
theorem d_Plain_cuts_66 : decode me_Plain_cuts.2.1 66 = .ok (.isub, 1) := by decide +kernel
theorem d_Plain_cuts_67 : decode me_Plain_cuts.2.1 67 = .ok (.istore 14, 2) := by decide +kernel
theorem d_Plain_cuts_69 : decode me_Plain_cuts.2.1 69 = .ok (.iload 6, 2) := by decide +kernel
theorem d_Plain_cuts_71 : decode me_Plain_cuts.2.1 71 = .ok (.iload 11, 2) := by decide +kernel
theorem d_Plain_cuts_73 : decode me_Plain_cuts.2.1 73 = .ok (.iload 13, 2) := by decide +kernel
theorem d_Plain_cuts_75 : decode me_Plain_cuts.2.1 75 = .ok (.isub, 1) := by decide +kernel
theorem d_Plain_cuts_76 : decode me_Plain_cuts.2.1 76 = .ok (.imul, 1) := by decide +kernel
theorem d_Plain_cuts_77 : decode me_Plain_cuts.2.1 77 = .ok (.iload 7, 2) := by decide +kernel
theorem d_Plain_cuts_79 : decode me_Plain_cuts.2.1 79 = .ok (.iload 10, 2) := by decide +kernel
theorem d_Plain_cuts_81 : decode me_Plain_cuts.2.1 81 = .ok (.iload 12, 2) := by decide +kernel
theorem d_Plain_cuts_83 : decode me_Plain_cuts.2.1 83 = .ok (.isub, 1) := by decide +kernel
theorem d_Plain_cuts_84 : decode me_Plain_cuts.2.1 84 = .ok (.imul, 1) := by decide +kernel
theorem d_Plain_cuts_85 : decode me_Plain_cuts.2.1 85 = .ok (.isub, 1) := by decide +kernel
theorem d_Plain_cuts_86 : decode me_Plain_cuts.2.1 86 = .ok (.istore 15, 2) := by decide +kernel
theorem d_Plain_cuts_88 : decode me_Plain_cuts.2.1 88 = .ok (.iload 14, 2) := by decide +kernel
theorem d_Plain_cuts_90 : decode me_Plain_cuts.2.1 90 = .ok (.iload 15, 2) := by decide +kernel
theorem d_Plain_cuts_92 : decode me_Plain_cuts.2.1 92 = .ok (.invokestatic 138, 3) := by decide +kernel
theorem d_Plain_cuts_95 : decode me_Plain_cuts.2.1 95 = .ok (.ifCond .eq 5, 3) := by decide +kernel
theorem d_Plain_cuts_98 : decode me_Plain_cuts.2.1 98 = .ok (.iconst 0, 1) := by decide +kernel
theorem d_Plain_cuts_99 : decode me_Plain_cuts.2.1 99 = .ok (.ireturn, 1) := by decide +kernel
theorem d_Plain_cuts_100 : decode me_Plain_cuts.2.1 100 = .ok (.iload 14, 2) := by decide +kernel
theorem d_Plain_cuts_102 : decode me_Plain_cuts.2.1 102 = .ok (.ifCond .ne 55, 3) := by decide +kernel
theorem d_Plain_cuts_105 : decode me_Plain_cuts.2.1 105 = .ok (.iload 15, 2) := by decide +kernel
theorem d_Plain_cuts_107 : decode me_Plain_cuts.2.1 107 = .ok (.ifCond .ne 50, 3) := by decide +kernel
theorem d_Plain_cuts_110 : decode me_Plain_cuts.2.1 110 = .ok (.iload 6, 2) := by decide +kernel
theorem d_Plain_cuts_112 : decode me_Plain_cuts.2.1 112 = .ok (.ifCond .eq 25, 3) := by decide +kernel
theorem d_Plain_cuts_115 : decode me_Plain_cuts.2.1 115 = .ok (.iload_n 2, 1) := by decide +kernel
theorem d_Plain_cuts_116 : decode me_Plain_cuts.2.1 116 = .ok (.iload 12, 2) := by decide +kernel
theorem d_Plain_cuts_118 : decode me_Plain_cuts.2.1 118 = .ok (.iload 4, 2) := by decide +kernel
theorem d_Plain_cuts_120 : decode me_Plain_cuts.2.1 120 = .ok (.imul, 1) := by decide +kernel
theorem d_Plain_cuts_121 : decode me_Plain_cuts.2.1 121 = .ok (.iload 8, 2) := by decide +kernel
theorem d_Plain_cuts_123 : decode me_Plain_cuts.2.1 123 = .ok (.iload 4, 2) := by decide +kernel
theorem d_Plain_cuts_125 : decode me_Plain_cuts.2.1 125 = .ok (.imul, 1) := by decide +kernel
theorem d_Plain_cuts_126 : decode me_Plain_cuts.2.1 126 = .ok (.iload 10, 2) := by decide +kernel
theorem d_Plain_cuts_128 : decode me_Plain_cuts.2.1 128 = .ok (.iload 4, 2) := by decide +kernel
theorem d_Plain_cuts_130 : decode me_Plain_cuts.2.1 130 = .ok (.imul, 1) := by decide +kernel
theorem d_Plain_cuts_131 : decode me_Plain_cuts.2.1 131 = .ok (.invokestatic 142, 3) := by decide +kernel
theorem d_Plain_cuts_134 : decode me_Plain_cuts.2.1 134 = .ok (.goto 22, 3) := by decide +kernel
theorem d_Plain_cuts_137 : decode me_Plain_cuts.2.1 137 = .ok (.iload_n 3, 1) := by decide +kernel
theorem d_Plain_cuts_138 : decode me_Plain_cuts.2.1 138 = .ok (.iload 13, 2) := by decide +kernel
theorem d_Plain_cuts_140 : decode me_Plain_cuts.2.1 140 = .ok (.iload 4, 2) := by decide +kernel
theorem d_Plain_cuts_142 : decode me_Plain_cuts.2.1 142 = .ok (.imul, 1) := by decide +kernel
theorem d_Plain_cuts_143 : decode me_Plain_cuts.2.1 143 = .ok (.iload 9, 2) := by decide +kernel
theorem d_Plain_cuts_145 : decode me_Plain_cuts.2.1 145 = .ok (.iload 4, 2) := by decide +kernel
theorem d_Plain_cuts_147 : decode me_Plain_cuts.2.1 147 = .ok (.imul, 1) := by decide +kernel
theorem d_Plain_cuts_148 : decode me_Plain_cuts.2.1 148 = .ok (.iload 11, 2) := by decide +kernel
theorem d_Plain_cuts_150 : decode me_Plain_cuts.2.1 150 = .ok (.iload 4, 2) := by decide +kernel
theorem d_Plain_cuts_152 : decode me_Plain_cuts.2.1 152 = .ok (.imul, 1) := by decide +kernel
theorem d_Plain_cuts_153 : decode me_Plain_cuts.2.1 153 = .ok (.invokestatic 142, 3) := by decide +kernel
theorem d_Plain_cuts_156 : decode me_Plain_cuts.2.1 156 = .ok (.ireturn, 1) := by decide +kernel
theorem d_Plain_cuts_157 : decode me_Plain_cuts.2.1 157 = .ok (.iload 10, 2) := by decide +kernel
theorem d_Plain_cuts_159 : decode me_Plain_cuts.2.1 159 = .ok (.iload 8, 2) := by decide +kernel
theorem d_Plain_cuts_161 : decode me_Plain_cuts.2.1 161 = .ok (.isub, 1) := by decide +kernel
theorem d_Plain_cuts_162 : decode me_Plain_cuts.2.1 162 = .ok (.iload_n 3, 1) := by decide +kernel
theorem d_Plain_cuts_163 : decode me_Plain_cuts.2.1 163 = .ok (.iload 9, 2) := by decide +kernel
theorem d_Plain_cuts_165 : decode me_Plain_cuts.2.1 165 = .ok (.iload 4, 2) := by decide +kernel
theorem d_Plain_cuts_167 : decode me_Plain_cuts.2.1 167 = .ok (.imul, 1) := by decide +kernel
theorem d_Plain_cuts_168 : decode me_Plain_cuts.2.1 168 = .ok (.isub, 1) := by decide +kernel
theorem d_Plain_cuts_169 : decode me_Plain_cuts.2.1 169 = .ok (.imul, 1) := by decide +kernel
theorem d_Plain_cuts_170 : decode me_Plain_cuts.2.1 170 = .ok (.iload 11, 2) := by decide +kernel
theorem d_Plain_cuts_172 : decode me_Plain_cuts.2.1 172 = .ok (.iload 9, 2) := by decide +kernel
theorem d_Plain_cuts_174 : decode me_Plain_cuts.2.1 174 = .ok (.isub, 1) := by decide +kernel
theorem d_Plain_cuts_175 : decode me_Plain_cuts.2.1 175 = .ok (.iload_n 2, 1) := by decide +kernel
theorem d_Plain_cuts_176 : decode me_Plain_cuts.2.1 176 = .ok (.iload 8, 2) := by decide +kernel
theorem d_Plain_cuts_178 : decode me_Plain_cuts.2.1 178 = .ok (.iload 4, 2) := by decide +kernel
theorem d_Plain_cuts_180 : decode me_Plain_cuts.2.1 180 = .ok (.imul, 1) := by decide +kernel
theorem d_Plain_cuts_181 : decode me_Plain_cuts.2.1 181 = .ok (.isub, 1) := by decide +kernel
theorem d_Plain_cuts_182 : decode me_Plain_cuts.2.1 182 = .ok (.imul, 1) := by decide +kernel
theorem d_Plain_cuts_183 : decode me_Plain_cuts.2.1 183 = .ok (.isub, 1) := by decide +kernel
theorem d_Plain_cuts_184 : decode me_Plain_cuts.2.1 184 = .ok (.istore 16, 2) := by decide +kernel
theorem d_Plain_cuts_186 : decode me_Plain_cuts.2.1 186 = .ok (.iload 10, 2) := by decide +kernel
theorem d_Plain_cuts_188 : decode me_Plain_cuts.2.1 188 = .ok (.iload 8, 2) := by decide +kernel
theorem d_Plain_cuts_190 : decode me_Plain_cuts.2.1 190 = .ok (.isub, 1) := by decide +kernel
theorem d_Plain_cuts_191 : decode me_Plain_cuts.2.1 191 = .ok (.iload 13, 2) := by decide +kernel
theorem d_Plain_cuts_193 : decode me_Plain_cuts.2.1 193 = .ok (.iload 9, 2) := by decide +kernel
theorem d_Plain_cuts_195 : decode me_Plain_cuts.2.1 195 = .ok (.isub, 1) := by decide +kernel
theorem d_Plain_cuts_196 : decode me_Plain_cuts.2.1 196 = .ok (.imul, 1) := by decide +kernel
theorem d_Plain_cuts_197 : decode me_Plain_cuts.2.1 197 = .ok (.iload 11, 2) := by decide +kernel
theorem d_Plain_cuts_199 : decode me_Plain_cuts.2.1 199 = .ok (.iload 9, 2) := by decide +kernel
theorem d_Plain_cuts_201 : decode me_Plain_cuts.2.1 201 = .ok (.isub, 1) := by decide +kernel
theorem d_Plain_cuts_202 : decode me_Plain_cuts.2.1 202 = .ok (.iload 12, 2) := by decide +kernel
theorem d_Plain_cuts_204 : decode me_Plain_cuts.2.1 204 = .ok (.iload 8, 2) := by decide +kernel
theorem d_Plain_cuts_206 : decode me_Plain_cuts.2.1 206 = .ok (.isub, 1) := by decide +kernel
theorem d_Plain_cuts_207 : decode me_Plain_cuts.2.1 207 = .ok (.imul, 1) := by decide +kernel
theorem d_Plain_cuts_208 : decode me_Plain_cuts.2.1 208 = .ok (.isub, 1) := by decide +kernel
theorem d_Plain_cuts_209 : decode me_Plain_cuts.2.1 209 = .ok (.istore 17, 2) := by decide +kernel
theorem d_Plain_cuts_211 : decode me_Plain_cuts.2.1 211 = .ok (.iload 16, 2) := by decide +kernel
theorem d_Plain_cuts_213 : decode me_Plain_cuts.2.1 213 = .ok (.ifCond .le 8, 3) := by decide +kernel
theorem d_Plain_cuts_216 : decode me_Plain_cuts.2.1 216 = .ok (.iload 17, 2) := by decide +kernel
theorem d_Plain_cuts_218 : decode me_Plain_cuts.2.1 218 = .ok (.ifCond .lt 13, 3) := by decide +kernel
theorem d_Plain_cuts_221 : decode me_Plain_cuts.2.1 221 = .ok (.iload 16, 2) := by decide +kernel
theorem d_Plain_cuts_223 : decode me_Plain_cuts.2.1 223 = .ok (.ifCond .ge 12, 3) := by decide +kernel
theorem d_Plain_cuts_226 : decode me_Plain_cuts.2.1 226 = .ok (.iload 17, 2) := by decide +kernel
theorem d_Plain_cuts_228 : decode me_Plain_cuts.2.1 228 = .ok (.ifCond .le 7, 3) := by decide +kernel
theorem d_Plain_cuts_231 : decode me_Plain_cuts.2.1 231 = .ok (.iconst 1, 1) := by decide +kernel
theorem d_Plain_cuts_232 : decode me_Plain_cuts.2.1 232 = .ok (.goto 4, 3) := by decide +kernel
theorem d_Plain_cuts_235 : decode me_Plain_cuts.2.1 235 = .ok (.iconst 0, 1) := by decide +kernel
theorem d_Plain_cuts_236 : decode me_Plain_cuts.2.1 236 = .ok (.ireturn, 1) := by decide +kernel
noncomputable def f_Plain_cuts_221  (a16 : Int32) (a17 : Int32) (m0 : gk_M) : Option (Int32 × gk_M) :=
  if 0 ≤ a16 then
    some (0, m0)
  else
    if a17 ≤ 0 then
      some (0, m0)
    else
      some (1, m0)

theorem s_Plain_cuts_221 {z : gk_Z} (K : gk_F tx z me_Plain_cuts 2) {r : Int32} {mem2 : gk_M} : ∀ a16 a17 m0, f_Plain_cuts_221 a16 a17 m0 = some (r, mem2) → gk_G tx z me_Plain_cuts (gk_R tx z (some (.int r)) mem2) m0 [(16, .int a16), (17, .int a17)] [] 221 := by
  intro a16 a17 m0  h
  unfold f_Plain_cuts_221 at h
  refine gk_iload (pc := 221) K d_Plain_cuts_221 rfl ?_
  refine gk_if_ge (tgt := 235) (pc := 223) K d_Plain_cuts_223 (by decide) h (fun h => ?_) (fun h => ?_)
  · refine gk_iconst (pc := 235) K d_Plain_cuts_235 kc_0 ?_
    exact gk_zretc (pc := 236) K d_Plain_cuts_236 rfl (Or.inl rfl) h
  · refine gk_iload (pc := 226) K d_Plain_cuts_226 rfl ?_
    refine gk_if_le (tgt := 235) (pc := 228) K d_Plain_cuts_228 (by decide) h (fun h => ?_) (fun h => ?_)
    · refine gk_iconst (pc := 235) K d_Plain_cuts_235 kc_0 ?_
      exact gk_zretc (pc := 236) K d_Plain_cuts_236 rfl (Or.inl rfl) h
    · refine gk_iconst (pc := 231) K d_Plain_cuts_231 kc_1 ?_
      refine gk_goto (tgt := 236) (pc := 232) K d_Plain_cuts_232 (by decide) ?_
      exact gk_zretc (pc := 236) K d_Plain_cuts_236 rfl (Or.inr rfl) h
noncomputable def f_Plain_cuts_157  (a2 : Int32) (a3 : Int32) (a4 : Int32) (a8 : Int32) (a9 : Int32) (a10 : Int32) (a11 : Int32) (a12 : Int32) (a13 : Int32) (m0 : gk_M) : Option (Int32 × gk_M) :=
  gk_let (((a10 - a8) * (a3 - (a9 * a4))) - ((a11 - a9) * (a2 - (a8 * a4)))) fun v1 =>
  gk_let (((a10 - a8) * (a13 - a9)) - ((a11 - a9) * (a12 - a8))) fun v2 =>
  if v1 ≤ 0 then
    f_Plain_cuts_221 v1 v2 m0
  else
    if v2 < 0 then
      some (1, m0)
    else
      f_Plain_cuts_221 v1 v2 m0

theorem s_Plain_cuts_157 {z : gk_Z} (K : gk_F tx z me_Plain_cuts 2) {r : Int32} {mem2 : gk_M} : ∀ a2 a3 a4 a8 a9 a10 a11 a12 a13 m0, f_Plain_cuts_157 a2 a3 a4 a8 a9 a10 a11 a12 a13 m0 = some (r, mem2) → gk_G tx z me_Plain_cuts (gk_R tx z (some (.int r)) mem2) m0 [(2, .int a2), (3, .int a3), (4, .int a4), (8, .int a8), (9, .int a9), (10, .int a10), (11, .int a11), (12, .int a12), (13, .int a13)] [] 157 := by
  intro a2 a3 a4 a8 a9 a10 a11 a12 a13 m0  h
  unfold f_Plain_cuts_157 at h
  refine gk_iload (pc := 157) K d_Plain_cuts_157 rfl ?_
  refine gk_iload (pc := 159) K d_Plain_cuts_159 rfl ?_
  refine gk_isub (pc := 161) K d_Plain_cuts_161 ?_
  refine gk_iload_n (pc := 162) K d_Plain_cuts_162 rfl ?_
  refine gk_iload (pc := 163) K d_Plain_cuts_163 rfl ?_
  refine gk_iload (pc := 165) K d_Plain_cuts_165 rfl ?_
  refine gk_imul (pc := 167) K d_Plain_cuts_167 ?_
  refine gk_isub (pc := 168) K d_Plain_cuts_168 ?_
  refine gk_imul (pc := 169) K d_Plain_cuts_169 ?_
  refine gk_iload (pc := 170) K d_Plain_cuts_170 rfl ?_
  refine gk_iload (pc := 172) K d_Plain_cuts_172 rfl ?_
  refine gk_isub (pc := 174) K d_Plain_cuts_174 ?_
  refine gk_iload_n (pc := 175) K d_Plain_cuts_175 rfl ?_
  refine gk_iload (pc := 176) K d_Plain_cuts_176 rfl ?_
  refine gk_iload (pc := 178) K d_Plain_cuts_178 rfl ?_
  refine gk_imul (pc := 180) K d_Plain_cuts_180 ?_
  refine gk_isub (pc := 181) K d_Plain_cuts_181 ?_
  refine gk_imul (pc := 182) K d_Plain_cuts_182 ?_
  refine gk_isub (pc := 183) K d_Plain_cuts_183 ?_
  refine gk_topi h (fun v1 h => ?_)
  refine gk_istore (lv2 := [(16, .int v1), (2, .int a2), (3, .int a3), (4, .int a4), (8, .int a8), (9, .int a9), (10, .int a10), (11, .int a11), (12, .int a12), (13, .int a13)]) (pc := 184) K d_Plain_cuts_184 (by decide) rfl ?_
  refine gk_iload (pc := 186) K d_Plain_cuts_186 rfl ?_
  refine gk_iload (pc := 188) K d_Plain_cuts_188 rfl ?_
  refine gk_isub (pc := 190) K d_Plain_cuts_190 ?_
  refine gk_iload (pc := 191) K d_Plain_cuts_191 rfl ?_
  refine gk_iload (pc := 193) K d_Plain_cuts_193 rfl ?_
  refine gk_isub (pc := 195) K d_Plain_cuts_195 ?_
  refine gk_imul (pc := 196) K d_Plain_cuts_196 ?_
  refine gk_iload (pc := 197) K d_Plain_cuts_197 rfl ?_
  refine gk_iload (pc := 199) K d_Plain_cuts_199 rfl ?_
  refine gk_isub (pc := 201) K d_Plain_cuts_201 ?_
  refine gk_iload (pc := 202) K d_Plain_cuts_202 rfl ?_
  refine gk_iload (pc := 204) K d_Plain_cuts_204 rfl ?_
  refine gk_isub (pc := 206) K d_Plain_cuts_206 ?_
  refine gk_imul (pc := 207) K d_Plain_cuts_207 ?_
  refine gk_isub (pc := 208) K d_Plain_cuts_208 ?_
  refine gk_topi h (fun v2 h => ?_)
  refine gk_istore (lv2 := [(17, .int v2), (16, .int v1), (2, .int a2), (3, .int a3), (4, .int a4), (8, .int a8), (9, .int a9), (10, .int a10), (11, .int a11), (12, .int a12), (13, .int a13)]) (pc := 209) K d_Plain_cuts_209 (by decide) rfl ?_
  refine gk_iload (pc := 211) K d_Plain_cuts_211 rfl ?_
  refine gk_if_le (tgt := 221) (pc := 213) K d_Plain_cuts_213 (by decide) h (fun h => ?_) (fun h => ?_)
  · exact gk_sub [1, 0] rfl (s_Plain_cuts_221 K _ _ _  h)
  · refine gk_iload (pc := 216) K d_Plain_cuts_216 rfl ?_
    refine gk_if_lt (tgt := 231) (pc := 218) K d_Plain_cuts_218 (by decide) h (fun h => ?_) (fun h => ?_)
    · refine gk_iconst (pc := 231) K d_Plain_cuts_231 kc_1 ?_
      refine gk_goto (tgt := 236) (pc := 232) K d_Plain_cuts_232 (by decide) ?_
      exact gk_zretc (pc := 236) K d_Plain_cuts_236 rfl (Or.inr rfl) h
    · exact gk_sub [1, 0] rfl (s_Plain_cuts_221 K _ _ _  h)
noncomputable def f_Plain_cuts  (a1 : Int32) (a2 : Int32) (a3 : Int32) (a4 : Int32) (a5 : Int32) (a6 : Int32) (a7 : Int32) (m0 : gk_M) : Option (Int32 × gk_M) :=
  gk_ai m0 15 8 a1 fun v1 =>
  gk_ai m0 16 8 a1 fun v2 =>
  gk_ai m0 17 8 a1 fun v3 =>
  gk_ai m0 18 8 a1 fun v4 =>
  gk_ai m0 8 12 a5 fun v5 =>
  gk_ai m0 9 12 a5 fun v6 =>
  gk_let ((a6 * (v2 - v6)) - (a7 * (v1 - v5))) fun v7 =>
  gk_let ((a6 * (v4 - v6)) - (a7 * (v3 - v5))) fun v8 =>
  gk_bi (f_Plain_areBothOnOneSide v7 v8 m0) fun v10 m9 =>
  if v10 = 0 then
    if ¬ v7 = 0 then
      f_Plain_cuts_157 a2 a3 a4 v1 v2 v3 v4 v5 v6 m9
    else
      if ¬ v8 = 0 then
        f_Plain_cuts_157 a2 a3 a4 v1 v2 v3 v4 v5 v6 m9
      else
        if a6 = 0 then
          gk_bi (f_Plain_overlap a3 (v6 * a4) (v2 * a4) (v4 * a4) m9) fun v12 m11 =>
          gk_zz v12 (some (v12, m11))
        else
          gk_bi (f_Plain_overlap a2 (v5 * a4) (v1 * a4) (v3 * a4) m9) fun v14 m13 =>
          gk_zz v14 (some (v14, m13))
  else
    some (0, m9)

theorem s_Plain_cuts_0 {z : gk_Z} (K : gk_F tx z me_Plain_cuts 2) {r : Int32} {mem2 : gk_M} : ∀ a1 a2 a3 a4 a5 a6 a7 m0, f_Plain_cuts a1 a2 a3 a4 a5 a6 a7 m0 = some (r, mem2) → gk_G tx z me_Plain_cuts (gk_R tx z (some (.int r)) mem2) m0 [(0, .ref 7), (1, .int a1), (2, .int a2), (3, .int a3), (4, .int a4), (5, .int a5), (6, .int a6), (7, .int a7)] [] 0 := by
  intro a1 a2 a3 a4 a5 a6 a7 m0  h
  unfold f_Plain_cuts at h
  refine gk_aload_n (pc := 0) K d_Plain_cuts_0 rfl ?_
  refine gk_get (pc := 1) K d_Plain_cuts_1 fl_Plain_43 tx_7 rfl rfl ?_
  refine gk_iload_n (pc := 4) K d_Plain_cuts_4 rfl ?_
  refine gk_iald (pc := 5) K d_Plain_cuts_5 tx_15 h (fun v1 h => ?_)
  refine gk_istore (lv2 := [(8, .int v1), (0, .ref 7), (1, .int a1), (2, .int a2), (3, .int a3), (4, .int a4), (5, .int a5), (6, .int a6), (7, .int a7)]) (pc := 6) K d_Plain_cuts_6 (by decide) rfl ?_
  refine gk_aload_n (pc := 8) K d_Plain_cuts_8 rfl ?_
  refine gk_get (pc := 9) K d_Plain_cuts_9 fl_Plain_46 tx_7 rfl rfl ?_
  refine gk_iload_n (pc := 12) K d_Plain_cuts_12 rfl ?_
  refine gk_iald (pc := 13) K d_Plain_cuts_13 tx_16 h (fun v2 h => ?_)
  refine gk_istore (lv2 := [(9, .int v2), (8, .int v1), (0, .ref 7), (1, .int a1), (2, .int a2), (3, .int a3), (4, .int a4), (5, .int a5), (6, .int a6), (7, .int a7)]) (pc := 14) K d_Plain_cuts_14 (by decide) rfl ?_
  refine gk_aload_n (pc := 16) K d_Plain_cuts_16 rfl ?_
  refine gk_get (pc := 17) K d_Plain_cuts_17 fl_Plain_49 tx_7 rfl rfl ?_
  refine gk_iload_n (pc := 20) K d_Plain_cuts_20 rfl ?_
  refine gk_iald (pc := 21) K d_Plain_cuts_21 tx_17 h (fun v3 h => ?_)
  refine gk_istore (lv2 := [(10, .int v3), (9, .int v2), (8, .int v1), (0, .ref 7), (1, .int a1), (2, .int a2), (3, .int a3), (4, .int a4), (5, .int a5), (6, .int a6), (7, .int a7)]) (pc := 22) K d_Plain_cuts_22 (by decide) rfl ?_
  refine gk_aload_n (pc := 24) K d_Plain_cuts_24 rfl ?_
  refine gk_get (pc := 25) K d_Plain_cuts_25 fl_Plain_52 tx_7 rfl rfl ?_
  refine gk_iload_n (pc := 28) K d_Plain_cuts_28 rfl ?_
  refine gk_iald (pc := 29) K d_Plain_cuts_29 tx_18 h (fun v4 h => ?_)
  refine gk_istore (lv2 := [(11, .int v4), (10, .int v3), (9, .int v2), (8, .int v1), (0, .ref 7), (1, .int a1), (2, .int a2), (3, .int a3), (4, .int a4), (5, .int a5), (6, .int a6), (7, .int a7)]) (pc := 30) K d_Plain_cuts_30 (by decide) rfl ?_
  refine gk_aload_n (pc := 32) K d_Plain_cuts_32 rfl ?_
  refine gk_get (pc := 33) K d_Plain_cuts_33 fl_Plain_11 tx_7 rfl rfl ?_
  refine gk_iload (pc := 36) K d_Plain_cuts_36 rfl ?_
  refine gk_iald (pc := 38) K d_Plain_cuts_38 tx_8 h (fun v5 h => ?_)
  refine gk_istore (lv2 := [(12, .int v5), (11, .int v4), (10, .int v3), (9, .int v2), (8, .int v1), (0, .ref 7), (1, .int a1), (2, .int a2), (3, .int a3), (4, .int a4), (5, .int a5), (6, .int a6), (7, .int a7)]) (pc := 39) K d_Plain_cuts_39 (by decide) rfl ?_
  refine gk_aload_n (pc := 41) K d_Plain_cuts_41 rfl ?_
  refine gk_get (pc := 42) K d_Plain_cuts_42 fl_Plain_15 tx_7 rfl rfl ?_
  refine gk_iload (pc := 45) K d_Plain_cuts_45 rfl ?_
  refine gk_iald (pc := 47) K d_Plain_cuts_47 tx_9 h (fun v6 h => ?_)
  refine gk_istore (lv2 := [(13, .int v6), (12, .int v5), (11, .int v4), (10, .int v3), (9, .int v2), (8, .int v1), (0, .ref 7), (1, .int a1), (2, .int a2), (3, .int a3), (4, .int a4), (5, .int a5), (6, .int a6), (7, .int a7)]) (pc := 48) K d_Plain_cuts_48 (by decide) rfl ?_
  refine gk_iload (pc := 50) K d_Plain_cuts_50 rfl ?_
  refine gk_iload (pc := 52) K d_Plain_cuts_52 rfl ?_
  refine gk_iload (pc := 54) K d_Plain_cuts_54 rfl ?_
  refine gk_isub (pc := 56) K d_Plain_cuts_56 ?_
  refine gk_imul (pc := 57) K d_Plain_cuts_57 ?_
  refine gk_iload (pc := 58) K d_Plain_cuts_58 rfl ?_
  refine gk_iload (pc := 60) K d_Plain_cuts_60 rfl ?_
  refine gk_iload (pc := 62) K d_Plain_cuts_62 rfl ?_
  refine gk_isub (pc := 64) K d_Plain_cuts_64 ?_
  refine gk_imul (pc := 65) K d_Plain_cuts_65 ?_
  refine gk_isub (pc := 66) K d_Plain_cuts_66 ?_
  refine gk_topi h (fun v7 h => ?_)
  refine gk_istore (lv2 := [(14, .int v7), (13, .int v6), (12, .int v5), (11, .int v4), (10, .int v3), (9, .int v2), (8, .int v1), (0, .ref 7), (1, .int a1), (2, .int a2), (3, .int a3), (4, .int a4), (5, .int a5), (6, .int a6), (7, .int a7)]) (pc := 67) K d_Plain_cuts_67 (by decide) rfl ?_
  refine gk_iload (pc := 69) K d_Plain_cuts_69 rfl ?_
  refine gk_iload (pc := 71) K d_Plain_cuts_71 rfl ?_
  refine gk_iload (pc := 73) K d_Plain_cuts_73 rfl ?_
  refine gk_isub (pc := 75) K d_Plain_cuts_75 ?_
  refine gk_imul (pc := 76) K d_Plain_cuts_76 ?_
  refine gk_iload (pc := 77) K d_Plain_cuts_77 rfl ?_
  refine gk_iload (pc := 79) K d_Plain_cuts_79 rfl ?_
  refine gk_iload (pc := 81) K d_Plain_cuts_81 rfl ?_
  refine gk_isub (pc := 83) K d_Plain_cuts_83 ?_
  refine gk_imul (pc := 84) K d_Plain_cuts_84 ?_
  refine gk_isub (pc := 85) K d_Plain_cuts_85 ?_
  refine gk_topi h (fun v8 h => ?_)
  refine gk_istore (lv2 := [(15, .int v8), (14, .int v7), (13, .int v6), (12, .int v5), (11, .int v4), (10, .int v3), (9, .int v2), (8, .int v1), (0, .ref 7), (1, .int a1), (2, .int a2), (3, .int a3), (4, .int a4), (5, .int a5), (6, .int a6), (7, .int a7)]) (pc := 86) K d_Plain_cuts_86 (by decide) rfl ?_
  refine gk_iload (pc := 88) K d_Plain_cuts_88 rfl ?_
  refine gk_iload (pc := 90) K d_Plain_cuts_90 rfl ?_
  obtain ⟨v10, m9, em9, h⟩ := gk_bi_some h
  refine gk_cSi (As := [.int v7, .int v8]) (pc := 92) K d_Plain_cuts_92 ms_Plain_138 mc_Plain_areBothOnOneSide rfl (s_Plain_areBothOnOneSide (gk_FD K)  em9) (by decide) rfl (Nat.le_of_ble_eq_true rfl) ?_
  refine gk_if_eq (tgt := 100) (pc := 95) K d_Plain_cuts_95 (by decide) h (fun h => ?_) (fun h => ?_)
  · refine gk_iload (pc := 100) K d_Plain_cuts_100 rfl ?_
    refine gk_if_ne (tgt := 157) (pc := 102) K d_Plain_cuts_102 (by decide) h (fun h => ?_) (fun h => ?_)
    · exact gk_sub [10, 11, 12, 7, 6, 5, 4, 3, 2] rfl (s_Plain_cuts_157 K _ _ _ _ _ _ _ _ _ _  h)
    · refine gk_iload (pc := 105) K d_Plain_cuts_105 rfl ?_
      refine gk_if_ne (tgt := 157) (pc := 107) K d_Plain_cuts_107 (by decide) h (fun h => ?_) (fun h => ?_)
      · exact gk_sub [10, 11, 12, 7, 6, 5, 4, 3, 2] rfl (s_Plain_cuts_157 K _ _ _ _ _ _ _ _ _ _  h)
      · refine gk_iload (pc := 110) K d_Plain_cuts_110 rfl ?_
        refine gk_if_eq (tgt := 137) (pc := 112) K d_Plain_cuts_112 (by decide) h (fun h => ?_) (fun h => ?_)
        · refine gk_iload_n (pc := 137) K d_Plain_cuts_137 rfl ?_
          refine gk_iload (pc := 138) K d_Plain_cuts_138 rfl ?_
          refine gk_iload (pc := 140) K d_Plain_cuts_140 rfl ?_
          refine gk_imul (pc := 142) K d_Plain_cuts_142 ?_
          refine gk_iload (pc := 143) K d_Plain_cuts_143 rfl ?_
          refine gk_iload (pc := 145) K d_Plain_cuts_145 rfl ?_
          refine gk_imul (pc := 147) K d_Plain_cuts_147 ?_
          refine gk_iload (pc := 148) K d_Plain_cuts_148 rfl ?_
          refine gk_iload (pc := 150) K d_Plain_cuts_150 rfl ?_
          refine gk_imul (pc := 152) K d_Plain_cuts_152 ?_
          obtain ⟨v12, m11, em11, h⟩ := gk_bi_some h
          refine gk_cSi (As := [.int a3, .int (v6 * a4), .int (v2 * a4), .int (v4 * a4)]) (pc := 153) K d_Plain_cuts_153 ms_Plain_142 mc_Plain_overlap rfl (s_Plain_overlap (gk_FD K)  em11) (by decide) rfl (Nat.le_of_ble_eq_true rfl) ?_
          exact gk_zret (pc := 156) K d_Plain_cuts_156 rfl h
        · refine gk_iload_n (pc := 115) K d_Plain_cuts_115 rfl ?_
          refine gk_iload (pc := 116) K d_Plain_cuts_116 rfl ?_
          refine gk_iload (pc := 118) K d_Plain_cuts_118 rfl ?_
          refine gk_imul (pc := 120) K d_Plain_cuts_120 ?_
          refine gk_iload (pc := 121) K d_Plain_cuts_121 rfl ?_
          refine gk_iload (pc := 123) K d_Plain_cuts_123 rfl ?_
          refine gk_imul (pc := 125) K d_Plain_cuts_125 ?_
          refine gk_iload (pc := 126) K d_Plain_cuts_126 rfl ?_
          refine gk_iload (pc := 128) K d_Plain_cuts_128 rfl ?_
          refine gk_imul (pc := 130) K d_Plain_cuts_130 ?_
          obtain ⟨v14, m13, em13, h⟩ := gk_bi_some h
          refine gk_cSi (As := [.int a2, .int (v5 * a4), .int (v1 * a4), .int (v3 * a4)]) (pc := 131) K d_Plain_cuts_131 ms_Plain_142 mc_Plain_overlap rfl (s_Plain_overlap (gk_FD K)  em13) (by decide) rfl (Nat.le_of_ble_eq_true rfl) ?_
          refine gk_goto (tgt := 156) (pc := 134) K d_Plain_cuts_134 (by decide) ?_
          exact gk_zret (pc := 156) K d_Plain_cuts_156 rfl h
  · refine gk_iconst (pc := 98) K d_Plain_cuts_98 kc_0 ?_
    exact gk_zretc (pc := 99) K d_Plain_cuts_99 rfl (Or.inl rfl) h
theorem s_Plain_cuts {l : Launch} {u : gk_U} (hD : gk_D tx u) {a1 : Int32} {a2 : Int32} {a3 : Int32} {a4 : Int32} {a5 : Int32} {a6 : Int32} {a7 : Int32} {m0 mem2 : gk_M} {r : Int32} (h : f_Plain_cuts a1 a2 a3 a4 a5 a6 a7 m0 = some (r, mem2)) : gk_C tx l u me_Plain_cuts 2 [.ref 7, .int a1, .int a2, .int a3, .int a4, .int a5, .int a6, .int a7] m0 (some (.int r)) mem2 :=
  gk_enter hD mc_Plain_cuts (Nat.le_of_ble_eq_true rfl) rfl (fun z _ _ K => s_Plain_cuts_0 K _ _ _ _ _ _ _ _  h)
theorem d_Plain_isStopped_0 : decode me_Plain_isStopped.2.1 0 = .ok (.iconst 0, 1) := by decide +kernel
theorem d_Plain_isStopped_1 : decode me_Plain_isStopped.2.1 1 = .ok (.istore 7, 2) := by decide +kernel
theorem d_Plain_isStopped_3 : decode me_Plain_isStopped.2.1 3 = .ok (.iload 7, 2) := by decide +kernel
theorem d_Plain_isStopped_5 : decode me_Plain_isStopped.2.1 5 = .ok (.aload_n 0, 1) := by decide +kernel
theorem d_Plain_isStopped_6 : decode me_Plain_isStopped.2.1 6 = .ok (.getfield 37, 3) := by decide +kernel
theorem d_Plain_isStopped_9 : decode me_Plain_isStopped.2.1 9 = .ok (.if_icmp .ge 29, 3) := by decide +kernel
theorem d_Plain_isStopped_12 : decode me_Plain_isStopped.2.1 12 = .ok (.aload_n 0, 1) := by decide +kernel
theorem d_Plain_isStopped_13 : decode me_Plain_isStopped.2.1 13 = .ok (.iload 7, 2) := by decide +kernel
theorem d_Plain_isStopped_15 : decode me_Plain_isStopped.2.1 15 = .ok (.iload_n 1, 1) := by decide +kernel
theorem d_Plain_isStopped_16 : decode me_Plain_isStopped.2.1 16 = .ok (.iload_n 2, 1) := by decide +kernel
theorem d_Plain_isStopped_17 : decode me_Plain_isStopped.2.1 17 = .ok (.iload_n 3, 1) := by decide +kernel
theorem d_Plain_isStopped_18 : decode me_Plain_isStopped.2.1 18 = .ok (.iload 4, 2) := by decide +kernel
theorem d_Plain_isStopped_20 : decode me_Plain_isStopped.2.1 20 = .ok (.iload 5, 2) := by decide +kernel
theorem d_Plain_isStopped_22 : decode me_Plain_isStopped.2.1 22 = .ok (.iload 6, 2) := by decide +kernel
theorem d_Plain_isStopped_24 : decode me_Plain_isStopped.2.1 24 = .ok (.invokevirtual 134, 3) := by decide +kernel
theorem d_Plain_isStopped_27 : decode me_Plain_isStopped.2.1 27 = .ok (.ifCond .eq 5, 3) := by decide +kernel
theorem d_Plain_isStopped_30 : decode me_Plain_isStopped.2.1 30 = .ok (.iconst 1, 1) := by decide +kernel
theorem d_Plain_isStopped_31 : decode me_Plain_isStopped.2.1 31 = .ok (.ireturn, 1) := by decide +kernel
theorem d_Plain_isStopped_32 : decode me_Plain_isStopped.2.1 32 = .ok (.iinc 7 1, 3) := by decide +kernel
theorem d_Plain_isStopped_35 : decode me_Plain_isStopped.2.1 35 = .ok (.goto (-32), 3) := by decide +kernel
theorem d_Plain_isStopped_38 : decode me_Plain_isStopped.2.1 38 = .ok (.iconst 0, 1) := by decide +kernel
theorem d_Plain_isStopped_39 : decode me_Plain_isStopped.2.1 39 = .ok (.ireturn, 1) := by decide +kernel
noncomputable def f_Plain_isStopped_3  : Nat → Int32 → Int32 → Int32 → Int32 → Int32 → Int32 → Int32 → gk_M → Option (Int32 × gk_M)
  | 0, _, _, _, _, _, _, _, _ => none
  | n + 1, a1, a2, a3, a4, a5, a6, a7, m0 =>
    if (m0.1 7 8) ≤ a7 then
      some (0, m0)
    else
      gk_bi (f_Plain_cuts a7 a1 a2 a3 a4 a5 a6 m0) fun v2 m1 =>
      if v2 = 0 then
        f_Plain_isStopped_3 n a1 a2 a3 a4 a5 a6 (a7 + 1) m1
      else
        some (1, m1)

theorem s_Plain_isStopped_3 {z : gk_Z} (K : gk_F tx z me_Plain_isStopped 3) {r : Int32} {mem2 : gk_M} : ∀ n a1 a2 a3 a4 a5 a6 a7 m0, f_Plain_isStopped_3 n a1 a2 a3 a4 a5 a6 a7 m0 = some (r, mem2) → gk_G tx z me_Plain_isStopped (gk_R tx z (some (.int r)) mem2) m0 [(0, .ref 7), (1, .int a1), (2, .int a2), (3, .int a3), (4, .int a4), (5, .int a5), (6, .int a6), (7, .int a7)] [] 3 := by
  intro n
  induction n with
  | zero => intro a1 a2 a3 a4 a5 a6 a7 m0  h; exact nomatch (show (none : Option _) = some _ from h)
  | succ n ih =>
    intro a1 a2 a3 a4 a5 a6 a7 m0  h
    unfold f_Plain_isStopped_3 at h
    refine gk_iload (pc := 3) K d_Plain_isStopped_3 rfl ?_
    refine gk_aload_n (pc := 5) K d_Plain_isStopped_5 rfl ?_
    refine gk_get (pc := 6) K d_Plain_isStopped_6 fl_Plain_37 tx_7 rfl rfl ?_
    refine gk_ic_ge (tgt := 38) (pc := 9) K d_Plain_isStopped_9 (by decide) h (fun h => ?_) (fun h => ?_)
    · refine gk_iconst (pc := 38) K d_Plain_isStopped_38 kc_0 ?_
      exact gk_zretc (pc := 39) K d_Plain_isStopped_39 rfl (Or.inl rfl) h
    · refine gk_aload_n (pc := 12) K d_Plain_isStopped_12 rfl ?_
      refine gk_iload (pc := 13) K d_Plain_isStopped_13 rfl ?_
      refine gk_iload_n (pc := 15) K d_Plain_isStopped_15 rfl ?_
      refine gk_iload_n (pc := 16) K d_Plain_isStopped_16 rfl ?_
      refine gk_iload_n (pc := 17) K d_Plain_isStopped_17 rfl ?_
      refine gk_iload (pc := 18) K d_Plain_isStopped_18 rfl ?_
      refine gk_iload (pc := 20) K d_Plain_isStopped_20 rfl ?_
      refine gk_iload (pc := 22) K d_Plain_isStopped_22 rfl ?_
      obtain ⟨v2, m1, em1, h⟩ := gk_bi_some h
      refine gk_cVi (As := [.int a7, .int a1, .int a2, .int a3, .int a4, .int a5, .int a6]) (pc := 24) K d_Plain_isStopped_24 mv_Plain_134 mc_Plain_cuts rfl tx_7 cl_ok2.1 (s_Plain_cuts (gk_FD K)  em1) (by decide) rfl (Nat.le_of_ble_eq_true rfl) ?_
      refine gk_if_eq (tgt := 32) (pc := 27) K d_Plain_isStopped_27 (by decide) h (fun h => ?_) (fun h => ?_)
      · refine gk_iinc2 (lv2 := [(7, .int (a7 + 1)), (0, .ref 7), (1, .int a1), (2, .int a2), (3, .int a3), (4, .int a4), (5, .int a5), (6, .int a6)]) (pc := 32) K d_Plain_isStopped_32 rfl kc_1 (by decide) rfl ?_
        refine gk_goto (tgt := 3) (pc := 35) K d_Plain_isStopped_35 (by decide) ?_
        exact gk_sub [1, 2, 3, 4, 5, 6, 7, 0] rfl (ih _ _ _ _ _ _ _ _  h)
      · refine gk_iconst (pc := 30) K d_Plain_isStopped_30 kc_1 ?_
        exact gk_zretc (pc := 31) K d_Plain_isStopped_31 rfl (Or.inr rfl) h
noncomputable def f_Plain_isStopped  (a1 : Int32) (a2 : Int32) (a3 : Int32) (a4 : Int32) (a5 : Int32) (a6 : Int32) (m0 : gk_M) : Option (Int32 × gk_M) :=
  f_Plain_isStopped_3 gk_fv a1 a2 a3 a4 a5 a6 0 m0

theorem s_Plain_isStopped_0 {z : gk_Z} (K : gk_F tx z me_Plain_isStopped 3) {r : Int32} {mem2 : gk_M} : ∀ a1 a2 a3 a4 a5 a6 m0, f_Plain_isStopped a1 a2 a3 a4 a5 a6 m0 = some (r, mem2) → gk_G tx z me_Plain_isStopped (gk_R tx z (some (.int r)) mem2) m0 [(0, .ref 7), (1, .int a1), (2, .int a2), (3, .int a3), (4, .int a4), (5, .int a5), (6, .int a6)] [] 0 := by
  intro a1 a2 a3 a4 a5 a6 m0  h
  unfold f_Plain_isStopped at h
  refine gk_iconst (pc := 0) K d_Plain_isStopped_0 kc_0 ?_
  refine gk_istore (lv2 := [(7, .int 0), (0, .ref 7), (1, .int a1), (2, .int a2), (3, .int a3), (4, .int a4), (5, .int a5), (6, .int a6)]) (pc := 1) K d_Plain_isStopped_1 (by decide) rfl ?_
  exact gk_sub [1, 2, 3, 4, 5, 6, 7, 0] rfl (s_Plain_isStopped_3 K _ _ _ _ _ _ _ _ _  h)
theorem s_Plain_isStopped {l : Launch} {u : gk_U} (hD : gk_D tx u) {a1 : Int32} {a2 : Int32} {a3 : Int32} {a4 : Int32} {a5 : Int32} {a6 : Int32} {m0 mem2 : gk_M} {r : Int32} (h : f_Plain_isStopped a1 a2 a3 a4 a5 a6 m0 = some (r, mem2)) : gk_C tx l u me_Plain_isStopped 3 [.ref 7, .int a1, .int a2, .int a3, .int a4, .int a5, .int a6] m0 (some (.int r)) mem2 :=
  gk_enter hD mc_Plain_isStopped (Nat.le_of_ble_eq_true rfl) rfl (fun z _ _ K => s_Plain_isStopped_0 K _ _ _ _ _ _ _  h)
theorem d_Plain_lineUp_0 : decode me_Plain_lineUp.2.1 0 = .ok (.aload_n 0, 1) := by decide +kernel
theorem d_Plain_lineUp_1 : decode me_Plain_lineUp.2.1 1 = .ok (.getfield 11, 3) := by decide +kernel
theorem d_Plain_lineUp_4 : decode me_Plain_lineUp.2.1 4 = .ok (.iload 6, 2) := by decide +kernel
theorem d_Plain_lineUp_6 : decode me_Plain_lineUp.2.1 6 = .ok (.iaload, 1) := by decide +kernel
theorem d_Plain_lineUp_7 : decode me_Plain_lineUp.2.1 7 = .ok (.aload_n 0, 1) := by decide +kernel
theorem d_Plain_lineUp_8 : decode me_Plain_lineUp.2.1 8 = .ok (.getfield 11, 3) := by decide +kernel
theorem d_Plain_lineUp_11 : decode me_Plain_lineUp.2.1 11 = .ok (.iload 5, 2) := by decide +kernel
theorem d_Plain_lineUp_13 : decode me_Plain_lineUp.2.1 13 = .ok (.iaload, 1) := by decide +kernel
theorem d_Plain_lineUp_14 : decode me_Plain_lineUp.2.1 14 = .ok (.isub, 1) := by decide +kernel
theorem d_Plain_lineUp_15 : decode me_Plain_lineUp.2.1 15 = .ok (.istore 7, 2) := by decide +kernel
theorem d_Plain_lineUp_17 : decode me_Plain_lineUp.2.1 17 = .ok (.aload_n 0, 1) := by decide +kernel
theorem d_Plain_lineUp_18 : decode me_Plain_lineUp.2.1 18 = .ok (.getfield 15, 3) := by decide +kernel
theorem d_Plain_lineUp_21 : decode me_Plain_lineUp.2.1 21 = .ok (.iload 6, 2) := by decide +kernel
theorem d_Plain_lineUp_23 : decode me_Plain_lineUp.2.1 23 = .ok (.iaload, 1) := by decide +kernel
theorem d_Plain_lineUp_24 : decode me_Plain_lineUp.2.1 24 = .ok (.aload_n 0, 1) := by decide +kernel
theorem d_Plain_lineUp_25 : decode me_Plain_lineUp.2.1 25 = .ok (.getfield 15, 3) := by decide +kernel
theorem d_Plain_lineUp_28 : decode me_Plain_lineUp.2.1 28 = .ok (.iload 5, 2) := by decide +kernel
theorem d_Plain_lineUp_30 : decode me_Plain_lineUp.2.1 30 = .ok (.iaload, 1) := by decide +kernel
theorem d_Plain_lineUp_31 : decode me_Plain_lineUp.2.1 31 = .ok (.isub, 1) := by decide +kernel
theorem d_Plain_lineUp_32 : decode me_Plain_lineUp.2.1 32 = .ok (.istore 8, 2) := by decide +kernel
theorem d_Plain_lineUp_34 : decode me_Plain_lineUp.2.1 34 = .ok (.iload 7, 2) := by decide +kernel
theorem d_Plain_lineUp_36 : decode me_Plain_lineUp.2.1 36 = .ok (.ifCond .eq 17, 3) := by decide +kernel
theorem d_Plain_lineUp_39 : decode me_Plain_lineUp.2.1 39 = .ok (.aload_n 0, 1) := by decide +kernel
theorem d_Plain_lineUp_40 : decode me_Plain_lineUp.2.1 40 = .ok (.getfield 11, 3) := by decide +kernel
theorem d_Plain_lineUp_43 : decode me_Plain_lineUp.2.1 43 = .ok (.iload 5, 2) := by decide +kernel
theorem d_Plain_lineUp_45 : decode me_Plain_lineUp.2.1 45 = .ok (.iaload, 1) := by decide +kernel
theorem d_Plain_lineUp_46 : decode me_Plain_lineUp.2.1 46 = .ok (.iload_n 3, 1) := by decide +kernel
theorem d_Plain_lineUp_47 : decode me_Plain_lineUp.2.1 47 = .ok (.imul, 1) := by decide +kernel
theorem d_Plain_lineUp_48 : decode me_Plain_lineUp.2.1 48 = .ok (.iload_n 1, 1) := by decide +kernel
theorem d_Plain_lineUp_49 : decode me_Plain_lineUp.2.1 49 = .ok (.isub, 1) := by decide +kernel
theorem d_Plain_lineUp_50 : decode me_Plain_lineUp.2.1 50 = .ok (.goto 14, 3) := by decide +kernel
theorem d_Plain_lineUp_53 : decode me_Plain_lineUp.2.1 53 = .ok (.aload_n 0, 1) := by decide +kernel
theorem d_Plain_lineUp_54 : decode me_Plain_lineUp.2.1 54 = .ok (.getfield 15, 3) := by decide +kernel
theorem d_Plain_lineUp_57 : decode me_Plain_lineUp.2.1 57 = .ok (.iload 5, 2) := by decide +kernel
theorem d_Plain_lineUp_59 : decode me_Plain_lineUp.2.1 59 = .ok (.iaload, 1) := by decide +kernel
theorem d_Plain_lineUp_60 : decode me_Plain_lineUp.2.1 60 = .ok (.iload_n 3, 1) := by decide +kernel
theorem d_Plain_lineUp_61 : decode me_Plain_lineUp.2.1 61 = .ok (.imul, 1) := by decide +kernel
theorem d_Plain_lineUp_62 : decode me_Plain_lineUp.2.1 62 = .ok (.iload_n 2, 1) := by decide +kernel
theorem d_Plain_lineUp_63 : decode me_Plain_lineUp.2.1 63 = .ok (.isub, 1) := by decide +kernel
theorem d_Plain_lineUp_64 : decode me_Plain_lineUp.2.1 64 = .ok (.istore 9, 2) := by decide +kernel
theorem d_Plain_lineUp_66 : decode me_Plain_lineUp.2.1 66 = .ok (.iload 7, 2) := by decide +kernel
theorem d_Plain_lineUp_68 : decode me_Plain_lineUp.2.1 68 = .ok (.ifCond .eq 17, 3) := by decide +kernel
theorem d_Plain_lineUp_71 : decode me_Plain_lineUp.2.1 71 = .ok (.aload_n 0, 1) := by decide +kernel
theorem d_Plain_lineUp_72 : decode me_Plain_lineUp.2.1 72 = .ok (.getfield 11, 3) := by decide +kernel
theorem d_Plain_lineUp_75 : decode me_Plain_lineUp.2.1 75 = .ok (.iload 6, 2) := by decide +kernel
theorem d_Plain_lineUp_77 : decode me_Plain_lineUp.2.1 77 = .ok (.iaload, 1) := by decide +kernel
theorem d_Plain_lineUp_78 : decode me_Plain_lineUp.2.1 78 = .ok (.iload_n 3, 1) := by decide +kernel
theorem d_Plain_lineUp_79 : decode me_Plain_lineUp.2.1 79 = .ok (.imul, 1) := by decide +kernel
theorem d_Plain_lineUp_80 : decode me_Plain_lineUp.2.1 80 = .ok (.iload_n 1, 1) := by decide +kernel
theorem d_Plain_lineUp_81 : decode me_Plain_lineUp.2.1 81 = .ok (.isub, 1) := by decide +kernel
theorem d_Plain_lineUp_82 : decode me_Plain_lineUp.2.1 82 = .ok (.goto 14, 3) := by decide +kernel
theorem d_Plain_lineUp_85 : decode me_Plain_lineUp.2.1 85 = .ok (.aload_n 0, 1) := by decide +kernel
theorem d_Plain_lineUp_86 : decode me_Plain_lineUp.2.1 86 = .ok (.getfield 15, 3) := by decide +kernel
theorem d_Plain_lineUp_89 : decode me_Plain_lineUp.2.1 89 = .ok (.iload 6, 2) := by decide +kernel
theorem d_Plain_lineUp_91 : decode me_Plain_lineUp.2.1 91 = .ok (.iaload, 1) := by decide +kernel
theorem d_Plain_lineUp_92 : decode me_Plain_lineUp.2.1 92 = .ok (.iload_n 3, 1) := by decide +kernel
theorem d_Plain_lineUp_93 : decode me_Plain_lineUp.2.1 93 = .ok (.imul, 1) := by decide +kernel
theorem d_Plain_lineUp_94 : decode me_Plain_lineUp.2.1 94 = .ok (.iload_n 2, 1) := by decide +kernel
theorem d_Plain_lineUp_95 : decode me_Plain_lineUp.2.1 95 = .ok (.isub, 1) := by decide +kernel
theorem d_Plain_lineUp_96 : decode me_Plain_lineUp.2.1 96 = .ok (.istore 10, 2) := by decide +kernel
theorem d_Plain_lineUp_98 : decode me_Plain_lineUp.2.1 98 = .ok (.iload 9, 2) := by decide +kernel
theorem d_Plain_lineUp_100 : decode me_Plain_lineUp.2.1 100 = .ok (.ifCond .eq 31, 3) := by decide +kernel
theorem d_Plain_lineUp_103 : decode me_Plain_lineUp.2.1 103 = .ok (.iload 10, 2) := by decide +kernel
theorem d_Plain_lineUp_105 : decode me_Plain_lineUp.2.1 105 = .ok (.ifCond .eq 26, 3) := by decide +kernel
theorem d_Plain_lineUp_108 : decode me_Plain_lineUp.2.1 108 = .ok (.iload 9, 2) := by decide +kernel
theorem d_Plain_lineUp_110 : decode me_Plain_lineUp.2.1 110 = .ok (.ifCond .le 7, 3) := by decide +kernel
theorem d_Plain_lineUp_113 : decode me_Plain_lineUp.2.1 113 = .ok (.iconst 1, 1) := by decide +kernel
theorem d_Plain_lineUp_114 : decode me_Plain_lineUp.2.1 114 = .ok (.goto 4, 3) := by decide +kernel
theorem d_Plain_lineUp_117 : decode me_Plain_lineUp.2.1 117 = .ok (.iconst 0, 1) := by decide +kernel
theorem d_Plain_lineUp_118 : decode me_Plain_lineUp.2.1 118 = .ok (.iload 10, 2) := by decide +kernel
theorem d_Plain_lineUp_120 : decode me_Plain_lineUp.2.1 120 = .ok (.ifCond .le 7, 3) := by decide +kernel
theorem d_Plain_lineUp_123 : decode me_Plain_lineUp.2.1 123 = .ok (.iconst 1, 1) := by decide +kernel
theorem d_Plain_lineUp_124 : decode me_Plain_lineUp.2.1 124 = .ok (.goto 4, 3) := by decide +kernel
theorem d_Plain_lineUp_127 : decode me_Plain_lineUp.2.1 127 = .ok (.iconst 0, 1) := by decide +kernel
theorem d_Plain_lineUp_128 : decode me_Plain_lineUp.2.1 128 = .ok (.if_icmp .eq 5, 3) := by decide +kernel
theorem d_Plain_lineUp_131 : decode me_Plain_lineUp.2.1 131 = .ok (.iconst 0, 1) := by decide +kernel
theorem d_Plain_lineUp_132 : decode me_Plain_lineUp.2.1 132 = .ok (.ireturn, 1) := by decide +kernel
theorem d_Plain_lineUp_133 : decode me_Plain_lineUp.2.1 133 = .ok (.iload 9, 2) := by decide +kernel
theorem d_Plain_lineUp_135 : decode me_Plain_lineUp.2.1 135 = .ok (.invokestatic 124, 3) := by decide +kernel
theorem d_Plain_lineUp_138 : decode me_Plain_lineUp.2.1 138 = .ok (.iload 10, 2) := by decide +kernel
theorem d_Plain_lineUp_140 : decode me_Plain_lineUp.2.1 140 = .ok (.invokestatic 124, 3) := by decide +kernel
theorem d_Plain_lineUp_143 : decode me_Plain_lineUp.2.1 143 = .ok (.if_icmp .ge 7, 3) := by decide +kernel
theorem d_Plain_lineUp_146 : decode me_Plain_lineUp.2.1 146 = .ok (.iconst 1, 1) := by decide +kernel
theorem d_Plain_lineUp_147 : decode me_Plain_lineUp.2.1 147 = .ok (.goto 4, 3) := by decide +kernel
theorem d_Plain_lineUp_150 : decode me_Plain_lineUp.2.1 150 = .ok (.iconst 0, 1) := by decide +kernel
theorem d_Plain_lineUp_151 : decode me_Plain_lineUp.2.1 151 = .ok (.istore 11, 2) := by decide +kernel
theorem d_Plain_lineUp_153 : decode me_Plain_lineUp.2.1 153 = .ok (.iload 11, 2) := by decide +kernel
theorem d_Plain_lineUp_155 : decode me_Plain_lineUp.2.1 155 = .ok (.ifCond .eq 8, 3) := by decide +kernel
theorem d_Plain_lineUp_158 : decode me_Plain_lineUp.2.1 158 = .ok (.iload 5, 2) := by decide +kernel
theorem d_Plain_lineUp_160 : decode me_Plain_lineUp.2.1 160 = .ok (.goto 5, 3) := by decide +kernel
theorem d_Plain_lineUp_163 : decode me_Plain_lineUp.2.1 163 = .ok (.iload 6, 2) := by decide +kernel
theorem d_Plain_lineUp_165 : decode me_Plain_lineUp.2.1 165 = .ok (.istore 12, 2) := by decide +kernel
theorem d_Plain_lineUp_167 : decode me_Plain_lineUp.2.1 167 = .ok (.iload 11, 2) := by decide +kernel
theorem d_Plain_lineUp_169 : decode me_Plain_lineUp.2.1 169 = .ok (.ifCond .eq 8, 3) := by decide +kernel
theorem d_Plain_lineUp_172 : decode me_Plain_lineUp.2.1 172 = .ok (.iload 6, 2) := by decide +kernel
theorem d_Plain_lineUp_174 : decode me_Plain_lineUp.2.1 174 = .ok (.goto 5, 3) := by decide +kernel
theorem d_Plain_lineUp_177 : decode me_Plain_lineUp.2.1 177 = .ok (.iload 5, 2) := by decide +kernel
theorem d_Plain_lineUp_179 : decode me_Plain_lineUp.2.1 179 = .ok (.istore 13, 2) := by decide +kernel
theorem d_Plain_lineUp_181 : decode me_Plain_lineUp.2.1 181 = .ok (.aload_n 0, 1) := by decide +kernel
theorem d_Plain_lineUp_182 : decode me_Plain_lineUp.2.1 182 = .ok (.iload 4, 2) := by decide +kernel
theorem d_Plain_lineUp_184 : decode me_Plain_lineUp.2.1 184 = .ok (.iload 12, 2) := by decide +kernel
theorem d_Plain_lineUp_186 : decode me_Plain_lineUp.2.1 186 = .ok (.iload 13, 2) := by decide +kernel
theorem d_Plain_lineUp_188 : decode me_Plain_lineUp.2.1 188 = .ok (.invokevirtual 127, 3) := by decide +kernel
theorem d_Plain_lineUp_191 : decode me_Plain_lineUp.2.1 191 = .ok (.ifCond .eq 23, 3) := by decide +kernel
theorem d_Plain_lineUp_194 : decode me_Plain_lineUp.2.1 194 = .ok (.aload_n 0, 1) := by decide +kernel
theorem d_Plain_lineUp_195 : decode me_Plain_lineUp.2.1 195 = .ok (.iload_n 1, 1) := by decide +kernel
theorem d_Plain_lineUp_196 : decode me_Plain_lineUp.2.1 196 = .ok (.iload_n 2, 1) := by decide +kernel
theorem d_Plain_lineUp_197 : decode me_Plain_lineUp.2.1 197 = .ok (.iload_n 3, 1) := by decide +kernel
theorem d_Plain_lineUp_198 : decode me_Plain_lineUp.2.1 198 = .ok (.iload 13, 2) := by decide +kernel
theorem d_Plain_lineUp_200 : decode me_Plain_lineUp.2.1 200 = .ok (.iload 7, 2) := by decide +kernel
theorem d_Plain_lineUp_202 : decode me_Plain_lineUp.2.1 202 = .ok (.iload 8, 2) := by decide +kernel
theorem d_Plain_lineUp_204 : decode me_Plain_lineUp.2.1 204 = .ok (.invokevirtual 131, 3) := by decide +kernel
theorem d_Plain_lineUp_207 : decode me_Plain_lineUp.2.1 207 = .ok (.ifCond .ne 7, 3) := by decide +kernel
theorem d_Plain_lineUp_210 : decode me_Plain_lineUp.2.1 210 = .ok (.iconst 1, 1) := by decide +kernel
theorem d_Plain_lineUp_211 : decode me_Plain_lineUp.2.1 211 = .ok (.goto 4, 3) := by decide +kernel
theorem d_Plain_lineUp_214 : decode me_Plain_lineUp.2.1 214 = .ok (.iconst 0, 1) := by decide +kernel
theorem d_Plain_lineUp_215 : decode me_Plain_lineUp.2.1 215 = .ok (.ireturn, 1) := by decide +kernel
noncomputable def f_Plain_lineUp_179  (a1 : Int32) (a2 : Int32) (a3 : Int32) (a4 : Int32) (a7 : Int32) (a8 : Int32) (a12 : Int32) (s0 : Int32) (m0 : gk_M) : Option (Int32 × gk_M) :=
  gk_bi (f_Plain_counts a4 a12 s0 m0) fun v2 m1 =>
  if v2 = 0 then
    some (0, m1)
  else
    gk_bi (f_Plain_isStopped a1 a2 a3 s0 a7 a8 m1) fun v4 m3 =>
    if ¬ v4 = 0 then
      some (0, m3)
    else
      some (1, m3)

theorem s_Plain_lineUp_179 {z : gk_Z} (K : gk_F tx z me_Plain_lineUp 4) {r : Int32} {mem2 : gk_M} : ∀ a1 a2 a3 a4 a7 a8 a12 s0 m0, f_Plain_lineUp_179 a1 a2 a3 a4 a7 a8 a12 s0 m0 = some (r, mem2) → gk_G tx z me_Plain_lineUp (gk_R tx z (some (.int r)) mem2) m0 [(0, .ref 7), (1, .int a1), (2, .int a2), (3, .int a3), (4, .int a4), (7, .int a7), (8, .int a8), (12, .int a12)] [.int s0] 179 := by
  intro a1 a2 a3 a4 a7 a8 a12 s0 m0  h
  unfold f_Plain_lineUp_179 at h
  refine gk_istore (lv2 := [(13, .int s0), (0, .ref 7), (1, .int a1), (2, .int a2), (3, .int a3), (4, .int a4), (7, .int a7), (8, .int a8), (12, .int a12)]) (pc := 179) K d_Plain_lineUp_179 (by decide) rfl ?_
  refine gk_aload_n (pc := 181) K d_Plain_lineUp_181 rfl ?_
  refine gk_iload (pc := 182) K d_Plain_lineUp_182 rfl ?_
  refine gk_iload (pc := 184) K d_Plain_lineUp_184 rfl ?_
  refine gk_iload (pc := 186) K d_Plain_lineUp_186 rfl ?_
  obtain ⟨v2, m1, em1, h⟩ := gk_bi_some h
  refine gk_cVi (As := [.int a4, .int a12, .int s0]) (pc := 188) K d_Plain_lineUp_188 mv_Plain_127 mc_Plain_counts rfl tx_7 cl_ok2.1 (s_Plain_counts (gk_FD K)  em1) (by decide) rfl (Nat.le_of_ble_eq_true rfl) ?_
  refine gk_if_eq (tgt := 214) (pc := 191) K d_Plain_lineUp_191 (by decide) h (fun h => ?_) (fun h => ?_)
  · refine gk_iconst (pc := 214) K d_Plain_lineUp_214 kc_0 ?_
    exact gk_zretc (pc := 215) K d_Plain_lineUp_215 rfl (Or.inl rfl) h
  · refine gk_aload_n (pc := 194) K d_Plain_lineUp_194 rfl ?_
    refine gk_iload_n (pc := 195) K d_Plain_lineUp_195 rfl ?_
    refine gk_iload_n (pc := 196) K d_Plain_lineUp_196 rfl ?_
    refine gk_iload_n (pc := 197) K d_Plain_lineUp_197 rfl ?_
    refine gk_iload (pc := 198) K d_Plain_lineUp_198 rfl ?_
    refine gk_iload (pc := 200) K d_Plain_lineUp_200 rfl ?_
    refine gk_iload (pc := 202) K d_Plain_lineUp_202 rfl ?_
    obtain ⟨v4, m3, em3, h⟩ := gk_bi_some h
    refine gk_cVi (As := [.int a1, .int a2, .int a3, .int s0, .int a7, .int a8]) (pc := 204) K d_Plain_lineUp_204 mv_Plain_131 mc_Plain_isStopped rfl tx_7 cl_ok2.1 (s_Plain_isStopped (gk_FD K)  em3) (by decide) rfl (Nat.le_of_ble_eq_true rfl) ?_
    refine gk_if_ne (tgt := 214) (pc := 207) K d_Plain_lineUp_207 (by decide) h (fun h => ?_) (fun h => ?_)
    · refine gk_iconst (pc := 214) K d_Plain_lineUp_214 kc_0 ?_
      exact gk_zretc (pc := 215) K d_Plain_lineUp_215 rfl (Or.inl rfl) h
    · refine gk_iconst (pc := 210) K d_Plain_lineUp_210 kc_1 ?_
      refine gk_goto (tgt := 215) (pc := 211) K d_Plain_lineUp_211 (by decide) ?_
      exact gk_zretc (pc := 215) K d_Plain_lineUp_215 rfl (Or.inr rfl) h
noncomputable def f_Plain_lineUp_165  (a1 : Int32) (a2 : Int32) (a3 : Int32) (a4 : Int32) (a5 : Int32) (a6 : Int32) (a7 : Int32) (a8 : Int32) (a11 : Int32) (s0 : Int32) (m0 : gk_M) : Option (Int32 × gk_M) :=
  if a11 = 0 then
    f_Plain_lineUp_179 a1 a2 a3 a4 a7 a8 s0 a5 m0
  else
    f_Plain_lineUp_179 a1 a2 a3 a4 a7 a8 s0 a6 m0

theorem s_Plain_lineUp_165 {z : gk_Z} (K : gk_F tx z me_Plain_lineUp 4) {r : Int32} {mem2 : gk_M} : ∀ a1 a2 a3 a4 a5 a6 a7 a8 a11 s0 m0, f_Plain_lineUp_165 a1 a2 a3 a4 a5 a6 a7 a8 a11 s0 m0 = some (r, mem2) → gk_G tx z me_Plain_lineUp (gk_R tx z (some (.int r)) mem2) m0 [(0, .ref 7), (1, .int a1), (2, .int a2), (3, .int a3), (4, .int a4), (5, .int a5), (6, .int a6), (7, .int a7), (8, .int a8), (11, .int a11)] [.int s0] 165 := by
  intro a1 a2 a3 a4 a5 a6 a7 a8 a11 s0 m0  h
  unfold f_Plain_lineUp_165 at h
  refine gk_istore (lv2 := [(12, .int s0), (0, .ref 7), (1, .int a1), (2, .int a2), (3, .int a3), (4, .int a4), (5, .int a5), (6, .int a6), (7, .int a7), (8, .int a8), (11, .int a11)]) (pc := 165) K d_Plain_lineUp_165 (by decide) rfl ?_
  refine gk_iload (pc := 167) K d_Plain_lineUp_167 rfl ?_
  refine gk_if_eq (tgt := 177) (pc := 169) K d_Plain_lineUp_169 (by decide) h (fun h => ?_) (fun h => ?_)
  · refine gk_iload (pc := 177) K d_Plain_lineUp_177 rfl ?_
    exact gk_sub [1, 2, 3, 4, 5, 8, 9, 0] rfl (s_Plain_lineUp_179 K _ _ _ _ _ _ _ _ _  h)
  · refine gk_iload (pc := 172) K d_Plain_lineUp_172 rfl ?_
    refine gk_goto (tgt := 179) (pc := 174) K d_Plain_lineUp_174 (by decide) ?_
    exact gk_sub [1, 2, 3, 4, 5, 8, 9, 0] rfl (s_Plain_lineUp_179 K _ _ _ _ _ _ _ _ _  h)
noncomputable def f_Plain_lineUp_151  (a1 : Int32) (a2 : Int32) (a3 : Int32) (a4 : Int32) (a5 : Int32) (a6 : Int32) (a7 : Int32) (a8 : Int32) (s0 : Int32) (m0 : gk_M) : Option (Int32 × gk_M) :=
  if s0 = 0 then
    f_Plain_lineUp_165 a1 a2 a3 a4 a5 a6 a7 a8 s0 a6 m0
  else
    f_Plain_lineUp_165 a1 a2 a3 a4 a5 a6 a7 a8 s0 a5 m0

theorem s_Plain_lineUp_151 {z : gk_Z} (K : gk_F tx z me_Plain_lineUp 4) {r : Int32} {mem2 : gk_M} : ∀ a1 a2 a3 a4 a5 a6 a7 a8 s0 m0, f_Plain_lineUp_151 a1 a2 a3 a4 a5 a6 a7 a8 s0 m0 = some (r, mem2) → gk_G tx z me_Plain_lineUp (gk_R tx z (some (.int r)) mem2) m0 [(0, .ref 7), (1, .int a1), (2, .int a2), (3, .int a3), (4, .int a4), (5, .int a5), (6, .int a6), (7, .int a7), (8, .int a8)] [.int s0] 151 := by
  intro a1 a2 a3 a4 a5 a6 a7 a8 s0 m0  h
  unfold f_Plain_lineUp_151 at h
  refine gk_istore (lv2 := [(11, .int s0), (0, .ref 7), (1, .int a1), (2, .int a2), (3, .int a3), (4, .int a4), (5, .int a5), (6, .int a6), (7, .int a7), (8, .int a8)]) (pc := 151) K d_Plain_lineUp_151 (by decide) rfl ?_
  refine gk_iload (pc := 153) K d_Plain_lineUp_153 rfl ?_
  refine gk_if_eq (tgt := 163) (pc := 155) K d_Plain_lineUp_155 (by decide) h (fun h => ?_) (fun h => ?_)
  · refine gk_iload (pc := 163) K d_Plain_lineUp_163 rfl ?_
    exact gk_sub [1, 2, 3, 4, 5, 6, 7, 8, 9, 0] rfl (s_Plain_lineUp_165 K _ _ _ _ _ _ _ _ _ _ _  h)
  · refine gk_iload (pc := 158) K d_Plain_lineUp_158 rfl ?_
    refine gk_goto (tgt := 165) (pc := 160) K d_Plain_lineUp_160 (by decide) ?_
    exact gk_sub [1, 2, 3, 4, 5, 6, 7, 8, 9, 0] rfl (s_Plain_lineUp_165 K _ _ _ _ _ _ _ _ _ _ _  h)
noncomputable def f_Plain_lineUp_128  (a1 : Int32) (a2 : Int32) (a3 : Int32) (a4 : Int32) (a5 : Int32) (a6 : Int32) (a7 : Int32) (a8 : Int32) (a9 : Int32) (a10 : Int32) (s0 : Int32) (s1 : Int32) (m0 : gk_M) : Option (Int32 × gk_M) :=
  if s0 = s1 then
    if (gk_abs a10) ≤ (gk_abs a9) then
      f_Plain_lineUp_151 a1 a2 a3 a4 a5 a6 a7 a8 0 m0
    else
      f_Plain_lineUp_151 a1 a2 a3 a4 a5 a6 a7 a8 1 m0
  else
    some (0, m0)

theorem s_Plain_lineUp_128 {z : gk_Z} (K : gk_F tx z me_Plain_lineUp 4) {r : Int32} {mem2 : gk_M} : ∀ a1 a2 a3 a4 a5 a6 a7 a8 a9 a10 s0 s1 m0, f_Plain_lineUp_128 a1 a2 a3 a4 a5 a6 a7 a8 a9 a10 s0 s1 m0 = some (r, mem2) → gk_G tx z me_Plain_lineUp (gk_R tx z (some (.int r)) mem2) m0 [(0, .ref 7), (1, .int a1), (2, .int a2), (3, .int a3), (4, .int a4), (5, .int a5), (6, .int a6), (7, .int a7), (8, .int a8), (9, .int a9), (10, .int a10)] [.int s1, .int s0] 128 := by
  intro a1 a2 a3 a4 a5 a6 a7 a8 a9 a10 s0 s1 m0  h
  unfold f_Plain_lineUp_128 at h
  refine gk_ic_eq (tgt := 133) (pc := 128) K d_Plain_lineUp_128 (by decide) h (fun h => ?_) (fun h => ?_)
  · refine gk_iload (pc := 133) K d_Plain_lineUp_133 rfl ?_
    refine gk_mabs (pc := 135) K d_Plain_lineUp_135 ms_Plain_124 (by decide) (Nat.le_of_ble_eq_true rfl) ?_
    refine gk_iload (pc := 138) K d_Plain_lineUp_138 rfl ?_
    refine gk_mabs (pc := 140) K d_Plain_lineUp_140 ms_Plain_124 (by decide) (Nat.le_of_ble_eq_true rfl) ?_
    refine gk_ic_ge (tgt := 150) (pc := 143) K d_Plain_lineUp_143 (by decide) h (fun h => ?_) (fun h => ?_)
    · refine gk_iconst (pc := 150) K d_Plain_lineUp_150 kc_0 ?_
      exact gk_sub [0, 1, 2, 3, 4, 5, 6, 7, 8] rfl (s_Plain_lineUp_151 K _ _ _ _ _ _ _ _ _ _  h)
    · refine gk_iconst (pc := 146) K d_Plain_lineUp_146 kc_1 ?_
      refine gk_goto (tgt := 151) (pc := 147) K d_Plain_lineUp_147 (by decide) ?_
      exact gk_sub [0, 1, 2, 3, 4, 5, 6, 7, 8] rfl (s_Plain_lineUp_151 K _ _ _ _ _ _ _ _ _ _  h)
  · refine gk_iconst (pc := 131) K d_Plain_lineUp_131 kc_0 ?_
    exact gk_zretc (pc := 132) K d_Plain_lineUp_132 rfl (Or.inl rfl) h
noncomputable def f_Plain_lineUp_118  (a1 : Int32) (a2 : Int32) (a3 : Int32) (a4 : Int32) (a5 : Int32) (a6 : Int32) (a7 : Int32) (a8 : Int32) (a9 : Int32) (a10 : Int32) (s0 : Int32) (m0 : gk_M) : Option (Int32 × gk_M) :=
  if a10 ≤ 0 then
    f_Plain_lineUp_128 a1 a2 a3 a4 a5 a6 a7 a8 a9 a10 s0 0 m0
  else
    f_Plain_lineUp_128 a1 a2 a3 a4 a5 a6 a7 a8 a9 a10 s0 1 m0

theorem s_Plain_lineUp_118 {z : gk_Z} (K : gk_F tx z me_Plain_lineUp 4) {r : Int32} {mem2 : gk_M} : ∀ a1 a2 a3 a4 a5 a6 a7 a8 a9 a10 s0 m0, f_Plain_lineUp_118 a1 a2 a3 a4 a5 a6 a7 a8 a9 a10 s0 m0 = some (r, mem2) → gk_G tx z me_Plain_lineUp (gk_R tx z (some (.int r)) mem2) m0 [(0, .ref 7), (1, .int a1), (2, .int a2), (3, .int a3), (4, .int a4), (5, .int a5), (6, .int a6), (7, .int a7), (8, .int a8), (9, .int a9), (10, .int a10)] [.int s0] 118 := by
  intro a1 a2 a3 a4 a5 a6 a7 a8 a9 a10 s0 m0  h
  unfold f_Plain_lineUp_118 at h
  refine gk_iload (pc := 118) K d_Plain_lineUp_118 rfl ?_
  refine gk_if_le (tgt := 127) (pc := 120) K d_Plain_lineUp_120 (by decide) h (fun h => ?_) (fun h => ?_)
  · refine gk_iconst (pc := 127) K d_Plain_lineUp_127 kc_0 ?_
    exact gk_sub [0, 1, 2, 3, 4, 5, 6, 7, 8, 9, 10] rfl (s_Plain_lineUp_128 K _ _ _ _ _ _ _ _ _ _ _ _ _  h)
  · refine gk_iconst (pc := 123) K d_Plain_lineUp_123 kc_1 ?_
    refine gk_goto (tgt := 128) (pc := 124) K d_Plain_lineUp_124 (by decide) ?_
    exact gk_sub [0, 1, 2, 3, 4, 5, 6, 7, 8, 9, 10] rfl (s_Plain_lineUp_128 K _ _ _ _ _ _ _ _ _ _ _ _ _  h)
noncomputable def f_Plain_lineUp_96  (a1 : Int32) (a2 : Int32) (a3 : Int32) (a4 : Int32) (a5 : Int32) (a6 : Int32) (a7 : Int32) (a8 : Int32) (a9 : Int32) (s0 : Int32) (m0 : gk_M) : Option (Int32 × gk_M) :=
  if a9 = 0 then
    some (0, m0)
  else
    if s0 = 0 then
      some (0, m0)
    else
      if a9 ≤ 0 then
        f_Plain_lineUp_118 a1 a2 a3 a4 a5 a6 a7 a8 a9 s0 0 m0
      else
        f_Plain_lineUp_118 a1 a2 a3 a4 a5 a6 a7 a8 a9 s0 1 m0

theorem s_Plain_lineUp_96 {z : gk_Z} (K : gk_F tx z me_Plain_lineUp 4) {r : Int32} {mem2 : gk_M} : ∀ a1 a2 a3 a4 a5 a6 a7 a8 a9 s0 m0, f_Plain_lineUp_96 a1 a2 a3 a4 a5 a6 a7 a8 a9 s0 m0 = some (r, mem2) → gk_G tx z me_Plain_lineUp (gk_R tx z (some (.int r)) mem2) m0 [(0, .ref 7), (1, .int a1), (2, .int a2), (3, .int a3), (4, .int a4), (5, .int a5), (6, .int a6), (7, .int a7), (8, .int a8), (9, .int a9)] [.int s0] 96 := by
  intro a1 a2 a3 a4 a5 a6 a7 a8 a9 s0 m0  h
  unfold f_Plain_lineUp_96 at h
  refine gk_istore (lv2 := [(10, .int s0), (0, .ref 7), (1, .int a1), (2, .int a2), (3, .int a3), (4, .int a4), (5, .int a5), (6, .int a6), (7, .int a7), (8, .int a8), (9, .int a9)]) (pc := 96) K d_Plain_lineUp_96 (by decide) rfl ?_
  refine gk_iload (pc := 98) K d_Plain_lineUp_98 rfl ?_
  refine gk_if_eq (tgt := 131) (pc := 100) K d_Plain_lineUp_100 (by decide) h (fun h => ?_) (fun h => ?_)
  · refine gk_iconst (pc := 131) K d_Plain_lineUp_131 kc_0 ?_
    exact gk_zretc (pc := 132) K d_Plain_lineUp_132 rfl (Or.inl rfl) h
  · refine gk_iload (pc := 103) K d_Plain_lineUp_103 rfl ?_
    refine gk_if_eq (tgt := 131) (pc := 105) K d_Plain_lineUp_105 (by decide) h (fun h => ?_) (fun h => ?_)
    · refine gk_iconst (pc := 131) K d_Plain_lineUp_131 kc_0 ?_
      exact gk_zretc (pc := 132) K d_Plain_lineUp_132 rfl (Or.inl rfl) h
    · refine gk_iload (pc := 108) K d_Plain_lineUp_108 rfl ?_
      refine gk_if_le (tgt := 117) (pc := 110) K d_Plain_lineUp_110 (by decide) h (fun h => ?_) (fun h => ?_)
      · refine gk_iconst (pc := 117) K d_Plain_lineUp_117 kc_0 ?_
        exact gk_sub [1, 2, 3, 4, 5, 6, 7, 8, 9, 10, 0] rfl (s_Plain_lineUp_118 K _ _ _ _ _ _ _ _ _ _ _ _  h)
      · refine gk_iconst (pc := 113) K d_Plain_lineUp_113 kc_1 ?_
        refine gk_goto (tgt := 118) (pc := 114) K d_Plain_lineUp_114 (by decide) ?_
        exact gk_sub [1, 2, 3, 4, 5, 6, 7, 8, 9, 10, 0] rfl (s_Plain_lineUp_118 K _ _ _ _ _ _ _ _ _ _ _ _  h)
noncomputable def f_Plain_lineUp_64  (a1 : Int32) (a2 : Int32) (a3 : Int32) (a4 : Int32) (a5 : Int32) (a6 : Int32) (a7 : Int32) (a8 : Int32) (s0 : Int32) (m0 : gk_M) : Option (Int32 × gk_M) :=
  if a7 = 0 then
    gk_ai m0 9 12 a6 fun v1 =>
    f_Plain_lineUp_96 a1 a2 a3 a4 a5 a6 a7 a8 s0 ((v1 * a3) - a2) m0
  else
    gk_ai m0 8 12 a6 fun v2 =>
    f_Plain_lineUp_96 a1 a2 a3 a4 a5 a6 a7 a8 s0 ((v2 * a3) - a1) m0

theorem s_Plain_lineUp_64 {z : gk_Z} (K : gk_F tx z me_Plain_lineUp 4) {r : Int32} {mem2 : gk_M} : ∀ a1 a2 a3 a4 a5 a6 a7 a8 s0 m0, f_Plain_lineUp_64 a1 a2 a3 a4 a5 a6 a7 a8 s0 m0 = some (r, mem2) → gk_G tx z me_Plain_lineUp (gk_R tx z (some (.int r)) mem2) m0 [(0, .ref 7), (1, .int a1), (2, .int a2), (3, .int a3), (4, .int a4), (5, .int a5), (6, .int a6), (7, .int a7), (8, .int a8)] [.int s0] 64 := by
  intro a1 a2 a3 a4 a5 a6 a7 a8 s0 m0  h
  unfold f_Plain_lineUp_64 at h
  refine gk_istore (lv2 := [(9, .int s0), (0, .ref 7), (1, .int a1), (2, .int a2), (3, .int a3), (4, .int a4), (5, .int a5), (6, .int a6), (7, .int a7), (8, .int a8)]) (pc := 64) K d_Plain_lineUp_64 (by decide) rfl ?_
  refine gk_iload (pc := 66) K d_Plain_lineUp_66 rfl ?_
  refine gk_if_eq (tgt := 85) (pc := 68) K d_Plain_lineUp_68 (by decide) h (fun h => ?_) (fun h => ?_)
  · refine gk_aload_n (pc := 85) K d_Plain_lineUp_85 rfl ?_
    refine gk_get (pc := 86) K d_Plain_lineUp_86 fl_Plain_15 tx_7 rfl rfl ?_
    refine gk_iload (pc := 89) K d_Plain_lineUp_89 rfl ?_
    refine gk_iald (pc := 91) K d_Plain_lineUp_91 tx_9 h (fun v1 h => ?_)
    refine gk_iload_n (pc := 92) K d_Plain_lineUp_92 rfl ?_
    refine gk_imul (pc := 93) K d_Plain_lineUp_93 ?_
    refine gk_iload_n (pc := 94) K d_Plain_lineUp_94 rfl ?_
    refine gk_isub (pc := 95) K d_Plain_lineUp_95 ?_
    exact gk_sub [1, 2, 3, 4, 5, 6, 7, 8, 9, 0] rfl (s_Plain_lineUp_96 K _ _ _ _ _ _ _ _ _ _ _  h)
  · refine gk_aload_n (pc := 71) K d_Plain_lineUp_71 rfl ?_
    refine gk_get (pc := 72) K d_Plain_lineUp_72 fl_Plain_11 tx_7 rfl rfl ?_
    refine gk_iload (pc := 75) K d_Plain_lineUp_75 rfl ?_
    refine gk_iald (pc := 77) K d_Plain_lineUp_77 tx_8 h (fun v2 h => ?_)
    refine gk_iload_n (pc := 78) K d_Plain_lineUp_78 rfl ?_
    refine gk_imul (pc := 79) K d_Plain_lineUp_79 ?_
    refine gk_iload_n (pc := 80) K d_Plain_lineUp_80 rfl ?_
    refine gk_isub (pc := 81) K d_Plain_lineUp_81 ?_
    refine gk_goto (tgt := 96) (pc := 82) K d_Plain_lineUp_82 (by decide) ?_
    exact gk_sub [1, 2, 3, 4, 5, 6, 7, 8, 9, 0] rfl (s_Plain_lineUp_96 K _ _ _ _ _ _ _ _ _ _ _  h)
noncomputable def f_Plain_lineUp  (a1 : Int32) (a2 : Int32) (a3 : Int32) (a4 : Int32) (a5 : Int32) (a6 : Int32) (m0 : gk_M) : Option (Int32 × gk_M) :=
  gk_ai m0 8 12 a6 fun v1 =>
  gk_ai m0 8 12 a5 fun v2 =>
  gk_let (v1 - v2) fun v3 =>
  gk_ai m0 9 12 a6 fun v4 =>
  gk_ai m0 9 12 a5 fun v5 =>
  gk_let (v4 - v5) fun v6 =>
  if v3 = 0 then
    gk_ai m0 9 12 a5 fun v7 =>
    f_Plain_lineUp_64 a1 a2 a3 a4 a5 a6 v3 v6 ((v7 * a3) - a2) m0
  else
    gk_ai m0 8 12 a5 fun v8 =>
    f_Plain_lineUp_64 a1 a2 a3 a4 a5 a6 v3 v6 ((v8 * a3) - a1) m0

theorem s_Plain_lineUp_0 {z : gk_Z} (K : gk_F tx z me_Plain_lineUp 4) {r : Int32} {mem2 : gk_M} : ∀ a1 a2 a3 a4 a5 a6 m0, f_Plain_lineUp a1 a2 a3 a4 a5 a6 m0 = some (r, mem2) → gk_G tx z me_Plain_lineUp (gk_R tx z (some (.int r)) mem2) m0 [(0, .ref 7), (1, .int a1), (2, .int a2), (3, .int a3), (4, .int a4), (5, .int a5), (6, .int a6)] [] 0 := by
  intro a1 a2 a3 a4 a5 a6 m0  h
  unfold f_Plain_lineUp at h
  refine gk_aload_n (pc := 0) K d_Plain_lineUp_0 rfl ?_
  refine gk_get (pc := 1) K d_Plain_lineUp_1 fl_Plain_11 tx_7 rfl rfl ?_
  refine gk_iload (pc := 4) K d_Plain_lineUp_4 rfl ?_
  refine gk_iald (pc := 6) K d_Plain_lineUp_6 tx_8 h (fun v1 h => ?_)
  refine gk_aload_n (pc := 7) K d_Plain_lineUp_7 rfl ?_
  refine gk_get (pc := 8) K d_Plain_lineUp_8 fl_Plain_11 tx_7 rfl rfl ?_
  refine gk_iload (pc := 11) K d_Plain_lineUp_11 rfl ?_
  refine gk_iald (pc := 13) K d_Plain_lineUp_13 tx_8 h (fun v2 h => ?_)
  refine gk_isub (pc := 14) K d_Plain_lineUp_14 ?_
  refine gk_topi h (fun v3 h => ?_)
  refine gk_istore (lv2 := [(7, .int v3), (0, .ref 7), (1, .int a1), (2, .int a2), (3, .int a3), (4, .int a4), (5, .int a5), (6, .int a6)]) (pc := 15) K d_Plain_lineUp_15 (by decide) rfl ?_
  refine gk_aload_n (pc := 17) K d_Plain_lineUp_17 rfl ?_
  refine gk_get (pc := 18) K d_Plain_lineUp_18 fl_Plain_15 tx_7 rfl rfl ?_
  refine gk_iload (pc := 21) K d_Plain_lineUp_21 rfl ?_
  refine gk_iald (pc := 23) K d_Plain_lineUp_23 tx_9 h (fun v4 h => ?_)
  refine gk_aload_n (pc := 24) K d_Plain_lineUp_24 rfl ?_
  refine gk_get (pc := 25) K d_Plain_lineUp_25 fl_Plain_15 tx_7 rfl rfl ?_
  refine gk_iload (pc := 28) K d_Plain_lineUp_28 rfl ?_
  refine gk_iald (pc := 30) K d_Plain_lineUp_30 tx_9 h (fun v5 h => ?_)
  refine gk_isub (pc := 31) K d_Plain_lineUp_31 ?_
  refine gk_topi h (fun v6 h => ?_)
  refine gk_istore (lv2 := [(8, .int v6), (7, .int v3), (0, .ref 7), (1, .int a1), (2, .int a2), (3, .int a3), (4, .int a4), (5, .int a5), (6, .int a6)]) (pc := 32) K d_Plain_lineUp_32 (by decide) rfl ?_
  refine gk_iload (pc := 34) K d_Plain_lineUp_34 rfl ?_
  refine gk_if_eq (tgt := 53) (pc := 36) K d_Plain_lineUp_36 (by decide) h (fun h => ?_) (fun h => ?_)
  · refine gk_aload_n (pc := 53) K d_Plain_lineUp_53 rfl ?_
    refine gk_get (pc := 54) K d_Plain_lineUp_54 fl_Plain_15 tx_7 rfl rfl ?_
    refine gk_iload (pc := 57) K d_Plain_lineUp_57 rfl ?_
    refine gk_iald (pc := 59) K d_Plain_lineUp_59 tx_9 h (fun v7 h => ?_)
    refine gk_iload_n (pc := 60) K d_Plain_lineUp_60 rfl ?_
    refine gk_imul (pc := 61) K d_Plain_lineUp_61 ?_
    refine gk_iload_n (pc := 62) K d_Plain_lineUp_62 rfl ?_
    refine gk_isub (pc := 63) K d_Plain_lineUp_63 ?_
    exact gk_sub [2, 3, 4, 5, 6, 7, 8, 1, 0] rfl (s_Plain_lineUp_64 K _ _ _ _ _ _ _ _ _ _  h)
  · refine gk_aload_n (pc := 39) K d_Plain_lineUp_39 rfl ?_
    refine gk_get (pc := 40) K d_Plain_lineUp_40 fl_Plain_11 tx_7 rfl rfl ?_
    refine gk_iload (pc := 43) K d_Plain_lineUp_43 rfl ?_
    refine gk_iald (pc := 45) K d_Plain_lineUp_45 tx_8 h (fun v8 h => ?_)
    refine gk_iload_n (pc := 46) K d_Plain_lineUp_46 rfl ?_
    refine gk_imul (pc := 47) K d_Plain_lineUp_47 ?_
    refine gk_iload_n (pc := 48) K d_Plain_lineUp_48 rfl ?_
    refine gk_isub (pc := 49) K d_Plain_lineUp_49 ?_
    refine gk_goto (tgt := 64) (pc := 50) K d_Plain_lineUp_50 (by decide) ?_
    exact gk_sub [2, 3, 4, 5, 6, 7, 8, 1, 0] rfl (s_Plain_lineUp_64 K _ _ _ _ _ _ _ _ _ _  h)
theorem s_Plain_lineUp {l : Launch} {u : gk_U} (hD : gk_D tx u) {a1 : Int32} {a2 : Int32} {a3 : Int32} {a4 : Int32} {a5 : Int32} {a6 : Int32} {m0 mem2 : gk_M} {r : Int32} (h : f_Plain_lineUp a1 a2 a3 a4 a5 a6 m0 = some (r, mem2)) : gk_C tx l u me_Plain_lineUp 4 [.ref 7, .int a1, .int a2, .int a3, .int a4, .int a5, .int a6] m0 (some (.int r)) mem2 :=
  gk_enter hD mc_Plain_lineUp (Nat.le_of_ble_eq_true rfl) rfl (fun z _ _ K => s_Plain_lineUp_0 K _ _ _ _ _ _ _  h)
theorem d_Plain_areInLine_0 : decode me_Plain_areInLine.2.1 0 = .ok (.iload_n 1, 1) := by decide +kernel
theorem d_Plain_areInLine_1 : decode me_Plain_areInLine.2.1 1 = .ok (.bipush 30, 2) := by decide +kernel
theorem d_Plain_areInLine_3 : decode me_Plain_areInLine.2.1 3 = .ok (.irem, 1) := by decide +kernel
theorem d_Plain_areInLine_4 : decode me_Plain_areInLine.2.1 4 = .ok (.istore 5, 2) := by decide +kernel
theorem d_Plain_areInLine_6 : decode me_Plain_areInLine.2.1 6 = .ok (.iload_n 1, 1) := by decide +kernel
theorem d_Plain_areInLine_7 : decode me_Plain_areInLine.2.1 7 = .ok (.bipush 30, 2) := by decide +kernel
theorem d_Plain_areInLine_9 : decode me_Plain_areInLine.2.1 9 = .ok (.idiv, 1) := by decide +kernel
theorem d_Plain_areInLine_10 : decode me_Plain_areInLine.2.1 10 = .ok (.istore 6, 2) := by decide +kernel
theorem d_Plain_areInLine_12 : decode me_Plain_areInLine.2.1 12 = .ok (.aload_n 0, 1) := by decide +kernel
theorem d_Plain_areInLine_13 : decode me_Plain_areInLine.2.1 13 = .ok (.iload 5, 2) := by decide +kernel
theorem d_Plain_areInLine_15 : decode me_Plain_areInLine.2.1 15 = .ok (.iload 6, 2) := by decide +kernel
theorem d_Plain_areInLine_17 : decode me_Plain_areInLine.2.1 17 = .ok (.iload_n 3, 1) := by decide +kernel
theorem d_Plain_areInLine_18 : decode me_Plain_areInLine.2.1 18 = .ok (.iload 4, 2) := by decide +kernel
theorem d_Plain_areInLine_20 : decode me_Plain_areInLine.2.1 20 = .ok (.invokevirtual 116, 3) := by decide +kernel
theorem d_Plain_areInLine_23 : decode me_Plain_areInLine.2.1 23 = .ok (.ifCond .ne 23, 3) := by decide +kernel
theorem d_Plain_areInLine_26 : decode me_Plain_areInLine.2.1 26 = .ok (.aload_n 0, 1) := by decide +kernel
theorem d_Plain_areInLine_27 : decode me_Plain_areInLine.2.1 27 = .ok (.iload 5, 2) := by decide +kernel
theorem d_Plain_areInLine_29 : decode me_Plain_areInLine.2.1 29 = .ok (.iload 6, 2) := by decide +kernel
theorem d_Plain_areInLine_31 : decode me_Plain_areInLine.2.1 31 = .ok (.iconst 1, 1) := by decide +kernel
theorem d_Plain_areInLine_32 : decode me_Plain_areInLine.2.1 32 = .ok (.iload_n 2, 1) := by decide +kernel
theorem d_Plain_areInLine_33 : decode me_Plain_areInLine.2.1 33 = .ok (.iload_n 3, 1) := by decide +kernel
theorem d_Plain_areInLine_34 : decode me_Plain_areInLine.2.1 34 = .ok (.iload 4, 2) := by decide +kernel
theorem d_Plain_areInLine_36 : decode me_Plain_areInLine.2.1 36 = .ok (.invokevirtual 120, 3) := by decide +kernel
theorem d_Plain_areInLine_39 : decode me_Plain_areInLine.2.1 39 = .ok (.ifCond .eq 7, 3) := by decide +kernel
theorem d_Plain_areInLine_42 : decode me_Plain_areInLine.2.1 42 = .ok (.iconst 1, 1) := by decide +kernel
theorem d_Plain_areInLine_43 : decode me_Plain_areInLine.2.1 43 = .ok (.goto 4, 3) := by decide +kernel
theorem d_Plain_areInLine_46 : decode me_Plain_areInLine.2.1 46 = .ok (.iconst 0, 1) := by decide +kernel
theorem d_Plain_areInLine_47 : decode me_Plain_areInLine.2.1 47 = .ok (.ireturn, 1) := by decide +kernel
noncomputable def f_Plain_areInLine  (a1 : Int32) (a2 : Int32) (a3 : Int32) (a4 : Int32) (m0 : gk_M) : Option (Int32 × gk_M) :=
  gk_let (gk_rem a1 30) fun v1 =>
  gk_let (a1 / 30) fun v2 =>
  gk_bi (f_Plain_side v1 v2 a3 a4 m0) fun v4 m3 =>
  if ¬ v4 = 0 then
    some (0, m3)
  else
    gk_bi (f_Plain_lineUp v1 v2 1 a2 a3 a4 m3) fun v6 m5 =>
    if v6 = 0 then
      some (0, m5)
    else
      some (1, m5)

theorem s_Plain_areInLine_0 {z : gk_Z} (K : gk_F tx z me_Plain_areInLine 5) {r : Int32} {mem2 : gk_M} : ∀ a1 a2 a3 a4 m0, f_Plain_areInLine a1 a2 a3 a4 m0 = some (r, mem2) → gk_G tx z me_Plain_areInLine (gk_R tx z (some (.int r)) mem2) m0 [(0, .ref 7), (1, .int a1), (2, .int a2), (3, .int a3), (4, .int a4)] [] 0 := by
  intro a1 a2 a3 a4 m0  h
  unfold f_Plain_areInLine at h
  refine gk_iload_n (pc := 0) K d_Plain_areInLine_0 rfl ?_
  refine gk_bipush (pc := 1) K d_Plain_areInLine_1 kb_30 ?_
  refine gk_iremc2 (pc := 3) K d_Plain_areInLine_3 (by decide) ?_
  refine gk_topi h (fun v1 h => ?_)
  refine gk_istore (lv2 := [(5, .int v1), (0, .ref 7), (1, .int a1), (2, .int a2), (3, .int a3), (4, .int a4)]) (pc := 4) K d_Plain_areInLine_4 (by decide) rfl ?_
  refine gk_iload_n (pc := 6) K d_Plain_areInLine_6 rfl ?_
  refine gk_bipush (pc := 7) K d_Plain_areInLine_7 kb_30 ?_
  refine gk_idivc2 (pc := 9) K d_Plain_areInLine_9 (by decide) ?_
  refine gk_topi h (fun v2 h => ?_)
  refine gk_istore (lv2 := [(6, .int v2), (5, .int v1), (0, .ref 7), (1, .int a1), (2, .int a2), (3, .int a3), (4, .int a4)]) (pc := 10) K d_Plain_areInLine_10 (by decide) rfl ?_
  refine gk_aload_n (pc := 12) K d_Plain_areInLine_12 rfl ?_
  refine gk_iload (pc := 13) K d_Plain_areInLine_13 rfl ?_
  refine gk_iload (pc := 15) K d_Plain_areInLine_15 rfl ?_
  refine gk_iload_n (pc := 17) K d_Plain_areInLine_17 rfl ?_
  refine gk_iload (pc := 18) K d_Plain_areInLine_18 rfl ?_
  obtain ⟨v4, m3, em3, h⟩ := gk_bi_some h
  refine gk_cVi (As := [.int v1, .int v2, .int a3, .int a4]) (pc := 20) K d_Plain_areInLine_20 mv_Plain_116 mc_Plain_side rfl tx_7 cl_ok2.1 (s_Plain_side (gk_FD K)  em3) (by decide) rfl (Nat.le_of_ble_eq_true rfl) ?_
  refine gk_if_ne (tgt := 46) (pc := 23) K d_Plain_areInLine_23 (by decide) h (fun h => ?_) (fun h => ?_)
  · refine gk_iconst (pc := 46) K d_Plain_areInLine_46 kc_0 ?_
    exact gk_zretc (pc := 47) K d_Plain_areInLine_47 rfl (Or.inl rfl) h
  · refine gk_aload_n (pc := 26) K d_Plain_areInLine_26 rfl ?_
    refine gk_iload (pc := 27) K d_Plain_areInLine_27 rfl ?_
    refine gk_iload (pc := 29) K d_Plain_areInLine_29 rfl ?_
    refine gk_iconst (pc := 31) K d_Plain_areInLine_31 kc_1 ?_
    refine gk_iload_n (pc := 32) K d_Plain_areInLine_32 rfl ?_
    refine gk_iload_n (pc := 33) K d_Plain_areInLine_33 rfl ?_
    refine gk_iload (pc := 34) K d_Plain_areInLine_34 rfl ?_
    obtain ⟨v6, m5, em5, h⟩ := gk_bi_some h
    refine gk_cVi (As := [.int v1, .int v2, .int 1, .int a2, .int a3, .int a4]) (pc := 36) K d_Plain_areInLine_36 mv_Plain_120 mc_Plain_lineUp rfl tx_7 cl_ok2.1 (s_Plain_lineUp (gk_FD K)  em5) (by decide) rfl (Nat.le_of_ble_eq_true rfl) ?_
    refine gk_if_eq (tgt := 46) (pc := 39) K d_Plain_areInLine_39 (by decide) h (fun h => ?_) (fun h => ?_)
    · refine gk_iconst (pc := 46) K d_Plain_areInLine_46 kc_0 ?_
      exact gk_zretc (pc := 47) K d_Plain_areInLine_47 rfl (Or.inl rfl) h
    · refine gk_iconst (pc := 42) K d_Plain_areInLine_42 kc_1 ?_
      refine gk_goto (tgt := 47) (pc := 43) K d_Plain_areInLine_43 (by decide) ?_
      exact gk_zretc (pc := 47) K d_Plain_areInLine_47 rfl (Or.inr rfl) h
theorem s_Plain_areInLine {l : Launch} {u : gk_U} (hD : gk_D tx u) {a1 : Int32} {a2 : Int32} {a3 : Int32} {a4 : Int32} {m0 mem2 : gk_M} {r : Int32} (h : f_Plain_areInLine a1 a2 a3 a4 m0 = some (r, mem2)) : gk_C tx l u me_Plain_areInLine 5 [.ref 7, .int a1, .int a2, .int a3, .int a4] m0 (some (.int r)) mem2 :=
  gk_enter hD mc_Plain_areInLine (Nat.le_of_ble_eq_true rfl) rfl (fun z _ _ K => s_Plain_areInLine_0 K _ _ _ _ _  h)
theorem d_X_line_0 : decode me_X_line.2.1 0 = .ok (.aload_n 0, 1) := by decide +kernel
theorem d_X_line_1 : decode me_X_line.2.1 1 = .ok (.iload_n 1, 1) := by decide +kernel
theorem d_X_line_2 : decode me_X_line.2.1 2 = .ok (.invokevirtual 170, 3) := by decide +kernel
theorem d_X_line_5 : decode me_X_line.2.1 5 = .ok (.ifCond .eq 19, 3) := by decide +kernel
theorem d_X_line_8 : decode me_X_line.2.1 8 = .ok (.iload_n 2, 1) := by decide +kernel
theorem d_X_line_9 : decode me_X_line.2.1 9 = .ok (.invokestatic 99, 3) := by decide +kernel
theorem d_X_line_12 : decode me_X_line.2.1 12 = .ok (.ifCond .eq 12, 3) := by decide +kernel
theorem d_X_line_15 : decode me_X_line.2.1 15 = .ok (.iload_n 3, 1) := by decide +kernel
theorem d_X_line_16 : decode me_X_line.2.1 16 = .ok (.ifCond .lt 8, 3) := by decide +kernel
theorem d_X_line_19 : decode me_X_line.2.1 19 = .ok (.iload_n 3, 1) := by decide +kernel
theorem d_X_line_20 : decode me_X_line.2.1 20 = .ok (.iconst 4, 1) := by decide +kernel
theorem d_X_line_21 : decode me_X_line.2.1 21 = .ok (.if_icmp .le 5, 3) := by decide +kernel
theorem d_X_line_24 : decode me_X_line.2.1 24 = .ok (.iconst (-1), 1) := by decide +kernel
theorem d_X_line_25 : decode me_X_line.2.1 25 = .ok (.ireturn, 1) := by decide +kernel
theorem d_X_line_26 : decode me_X_line.2.1 26 = .ok (.aload_n 0, 1) := by decide +kernel
theorem d_X_line_27 : decode me_X_line.2.1 27 = .ok (.getfield 28, 3) := by decide +kernel
theorem d_X_line_30 : decode me_X_line.2.1 30 = .ok (.iload_n 2, 1) := by decide +kernel
theorem d_X_line_31 : decode me_X_line.2.1 31 = .ok (.iload_n 3, 1) := by decide +kernel
theorem d_X_line_32 : decode me_X_line.2.1 32 = .ok (.iload_n 1, 1) := by decide +kernel
theorem d_X_line_33 : decode me_X_line.2.1 33 = .ok (.bipush 10, 2) := by decide +kernel
theorem d_X_line_35 : decode me_X_line.2.1 35 = .ok (.idiv, 1) := by decide +kernel
theorem d_X_line_36 : decode me_X_line.2.1 36 = .ok (.iload_n 1, 1) := by decide +kernel
theorem d_X_line_37 : decode me_X_line.2.1 37 = .ok (.bipush 10, 2) := by decide +kernel
theorem d_X_line_39 : decode me_X_line.2.1 39 = .ok (.irem, 1) := by decide +kernel
theorem d_X_line_40 : decode me_X_line.2.1 40 = .ok (.invokevirtual 173, 3) := by decide +kernel
theorem d_X_line_43 : decode me_X_line.2.1 43 = .ok (.ifCond .eq 7, 3) := by decide +kernel
theorem d_X_line_46 : decode me_X_line.2.1 46 = .ok (.iconst 1, 1) := by decide +kernel
theorem d_X_line_47 : decode me_X_line.2.1 47 = .ok (.goto 4, 3) := by decide +kernel
theorem d_X_line_50 : decode me_X_line.2.1 50 = .ok (.iconst 0, 1) := by decide +kernel
theorem d_X_line_51 : decode me_X_line.2.1 51 = .ok (.ireturn, 1) := by decide +kernel
noncomputable def f_X_line  (a1 : Int32) (a2 : Int32) (a3 : Int32) (m0 : gk_M) : Option (Int32 × gk_M) :=
  gk_bi (f_X_isPair a1 m0) fun v2 m1 =>
  if v2 = 0 then
    some ((-1), m1)
  else
    gk_bi (f_X_isPoint a2 m1) fun v4 m3 =>
    if v4 = 0 then
      some ((-1), m3)
    else
      if a3 < 0 then
        some ((-1), m3)
      else
        if a3 ≤ 4 then
          gk_bi (f_Plain_areInLine a2 a3 (a1 / 10) (gk_rem a1 10) m3) fun v6 m5 =>
          if v6 = 0 then
            some (0, m5)
          else
            some (1, m5)
        else
          some ((-1), m3)

theorem s_X_line_0 {z : gk_Z} (K : gk_F tx z me_X_line 6) {r : Int32} {mem2 : gk_M} : ∀ a1 a2 a3 m0, f_X_line a1 a2 a3 m0 = some (r, mem2) → gk_G tx z me_X_line (gk_R tx z (some (.int r)) mem2) m0 [(0, .ref 0), (1, .int a1), (2, .int a2), (3, .int a3)] [] 0 := by
  intro a1 a2 a3 m0  h
  unfold f_X_line at h
  refine gk_aload_n (pc := 0) K d_X_line_0 rfl ?_
  refine gk_iload_n (pc := 1) K d_X_line_1 rfl ?_
  obtain ⟨v2, m1, em1, h⟩ := gk_bi_some h
  refine gk_cVi (As := [.int a1]) (pc := 2) K d_X_line_2 mv_X_170 mc_X_isPair rfl tx_0 cl_ok9.1 (s_X_isPair (gk_FD K)  em1) (by decide) rfl (Nat.le_of_ble_eq_true rfl) ?_
  refine gk_if_eq (tgt := 24) (pc := 5) K d_X_line_5 (by decide) h (fun h => ?_) (fun h => ?_)
  · refine gk_iconst (pc := 24) K d_X_line_24 kc_m1 ?_
    exact gk_iret (pc := 25) K d_X_line_25 rfl h
  · refine gk_iload_n (pc := 8) K d_X_line_8 rfl ?_
    obtain ⟨v4, m3, em3, h⟩ := gk_bi_some h
    refine gk_cSi (As := [.int a2]) (pc := 9) K d_X_line_9 ms_X_99 mc_X_isPoint rfl (s_X_isPoint (gk_FD K)  em3) (by decide) rfl (Nat.le_of_ble_eq_true rfl) ?_
    refine gk_if_eq (tgt := 24) (pc := 12) K d_X_line_12 (by decide) h (fun h => ?_) (fun h => ?_)
    · refine gk_iconst (pc := 24) K d_X_line_24 kc_m1 ?_
      exact gk_iret (pc := 25) K d_X_line_25 rfl h
    · refine gk_iload_n (pc := 15) K d_X_line_15 rfl ?_
      refine gk_if_lt (tgt := 24) (pc := 16) K d_X_line_16 (by decide) h (fun h => ?_) (fun h => ?_)
      · refine gk_iconst (pc := 24) K d_X_line_24 kc_m1 ?_
        exact gk_iret (pc := 25) K d_X_line_25 rfl h
      · refine gk_iload_n (pc := 19) K d_X_line_19 rfl ?_
        refine gk_iconst (pc := 20) K d_X_line_20 kc_4 ?_
        refine gk_ic_le (tgt := 26) (pc := 21) K d_X_line_21 (by decide) h (fun h => ?_) (fun h => ?_)
        · refine gk_aload_n (pc := 26) K d_X_line_26 rfl ?_
          refine gk_get (pc := 27) K d_X_line_27 fl_X_28 tx_0 rfl rfl ?_
          refine gk_iload_n (pc := 30) K d_X_line_30 rfl ?_
          refine gk_iload_n (pc := 31) K d_X_line_31 rfl ?_
          refine gk_iload_n (pc := 32) K d_X_line_32 rfl ?_
          refine gk_bipush (pc := 33) K d_X_line_33 kb_10 ?_
          refine gk_idivc2 (pc := 35) K d_X_line_35 (by decide) ?_
          refine gk_iload_n (pc := 36) K d_X_line_36 rfl ?_
          refine gk_bipush (pc := 37) K d_X_line_37 kb_10 ?_
          refine gk_iremc2 (pc := 39) K d_X_line_39 (by decide) ?_
          obtain ⟨v6, m5, em5, h⟩ := gk_bi_some h
          refine gk_cVi (As := [.int a2, .int a3, .int (a1 / 10), .int (gk_rem a1 10)]) (pc := 40) K d_X_line_40 mv_X_173 mc_Plain_areInLine rfl tx_7 cl_ok2.1 (s_Plain_areInLine (gk_FD K)  em5) (by decide) rfl (Nat.le_of_ble_eq_true rfl) ?_
          refine gk_if_eq (tgt := 50) (pc := 43) K d_X_line_43 (by decide) h (fun h => ?_) (fun h => ?_)
          · refine gk_iconst (pc := 50) K d_X_line_50 kc_0 ?_
            exact gk_iret (pc := 51) K d_X_line_51 rfl h
          · refine gk_iconst (pc := 46) K d_X_line_46 kc_1 ?_
            refine gk_goto (tgt := 51) (pc := 47) K d_X_line_47 (by decide) ?_
            exact gk_iret (pc := 51) K d_X_line_51 rfl h
        · refine gk_iconst (pc := 24) K d_X_line_24 kc_m1 ?_
          exact gk_iret (pc := 25) K d_X_line_25 rfl h
theorem s_X_line {l : Launch} {u : gk_U} (hD : gk_D tx u) {a1 : Int32} {a2 : Int32} {a3 : Int32} {m0 mem2 : gk_M} {r : Int32} (h : f_X_line a1 a2 a3 m0 = some (r, mem2)) : gk_C tx l u me_X_line 6 [.ref 0, .int a1, .int a2, .int a3] m0 (some (.int r)) mem2 :=
  gk_enter hD mc_X_line (Nat.le_of_ble_eq_true rfl) rfl (fun z _ _ K => s_X_line_0 K _ _ _ _  h)
theorem d_X_isStretch_0 : decode me_X_isStretch.2.1 0 = .ok (.iload_n 1, 1) := by decide +kernel
theorem d_X_isStretch_1 : decode me_X_isStretch.2.1 1 = .ok (.ifCond .lt 42, 3) := by decide +kernel
theorem d_X_isStretch_4 : decode me_X_isStretch.2.1 4 = .ok (.aload_n 0, 1) := by decide +kernel
theorem d_X_isStretch_5 : decode me_X_isStretch.2.1 5 = .ok (.getfield 28, 3) := by decide +kernel
theorem d_X_isStretch_8 : decode me_X_isStretch.2.1 8 = .ok (.iload_n 1, 1) := by decide +kernel
theorem d_X_isStretch_9 : decode me_X_isStretch.2.1 9 = .ok (.bipush 10, 2) := by decide +kernel
theorem d_X_isStretch_11 : decode me_X_isStretch.2.1 11 = .ok (.idiv, 1) := by decide +kernel
theorem d_X_isStretch_12 : decode me_X_isStretch.2.1 12 = .ok (.invokevirtual 106, 3) := by decide +kernel
theorem d_X_isStretch_15 : decode me_X_isStretch.2.1 15 = .ok (.ifCond .eq 28, 3) := by decide +kernel
theorem d_X_isStretch_18 : decode me_X_isStretch.2.1 18 = .ok (.iload_n 1, 1) := by decide +kernel
theorem d_X_isStretch_19 : decode me_X_isStretch.2.1 19 = .ok (.bipush 10, 2) := by decide +kernel
theorem d_X_isStretch_21 : decode me_X_isStretch.2.1 21 = .ok (.irem, 1) := by decide +kernel
theorem d_X_isStretch_22 : decode me_X_isStretch.2.1 22 = .ok (.iconst 1, 1) := by decide +kernel
theorem d_X_isStretch_23 : decode me_X_isStretch.2.1 23 = .ok (.iadd, 1) := by decide +kernel
theorem d_X_isStretch_24 : decode me_X_isStretch.2.1 24 = .ok (.aload_n 0, 1) := by decide +kernel
theorem d_X_isStretch_25 : decode me_X_isStretch.2.1 25 = .ok (.getfield 28, 3) := by decide +kernel
theorem d_X_isStretch_28 : decode me_X_isStretch.2.1 28 = .ok (.getfield 109, 3) := by decide +kernel
theorem d_X_isStretch_31 : decode me_X_isStretch.2.1 31 = .ok (.iload_n 1, 1) := by decide +kernel
theorem d_X_isStretch_32 : decode me_X_isStretch.2.1 32 = .ok (.bipush 10, 2) := by decide +kernel
theorem d_X_isStretch_34 : decode me_X_isStretch.2.1 34 = .ok (.idiv, 1) := by decide +kernel
theorem d_X_isStretch_35 : decode me_X_isStretch.2.1 35 = .ok (.iaload, 1) := by decide +kernel
theorem d_X_isStretch_36 : decode me_X_isStretch.2.1 36 = .ok (.if_icmp .ge 7, 3) := by decide +kernel
theorem d_X_isStretch_39 : decode me_X_isStretch.2.1 39 = .ok (.iconst 1, 1) := by decide +kernel
theorem d_X_isStretch_40 : decode me_X_isStretch.2.1 40 = .ok (.goto 4, 3) := by decide +kernel
theorem d_X_isStretch_43 : decode me_X_isStretch.2.1 43 = .ok (.iconst 0, 1) := by decide +kernel
theorem d_X_isStretch_44 : decode me_X_isStretch.2.1 44 = .ok (.ireturn, 1) := by decide +kernel
noncomputable def f_X_isStretch  (a1 : Int32) (m0 : gk_M) : Option (Int32 × gk_M) :=
  if a1 < 0 then
    some (0, m0)
  else
    gk_bi (f_Plain_isRoad (a1 / 10) m0) fun v2 m1 =>
    if v2 = 0 then
      some (0, m1)
    else
      gk_ai m1 13 4 (a1 / 10) fun v3 =>
      if v3 ≤ ((gk_rem a1 10) + 1) then
        some (0, m1)
      else
        some (1, m1)

theorem s_X_isStretch_0 {z : gk_Z} (K : gk_F tx z me_X_isStretch 2) {r : Int32} {mem2 : gk_M} : ∀ a1 m0, f_X_isStretch a1 m0 = some (r, mem2) → gk_G tx z me_X_isStretch (gk_R tx z (some (.int r)) mem2) m0 [(0, .ref 0), (1, .int a1)] [] 0 := by
  intro a1 m0  h
  unfold f_X_isStretch at h
  refine gk_iload_n (pc := 0) K d_X_isStretch_0 rfl ?_
  refine gk_if_lt (tgt := 43) (pc := 1) K d_X_isStretch_1 (by decide) h (fun h => ?_) (fun h => ?_)
  · refine gk_iconst (pc := 43) K d_X_isStretch_43 kc_0 ?_
    exact gk_zretc (pc := 44) K d_X_isStretch_44 rfl (Or.inl rfl) h
  · refine gk_aload_n (pc := 4) K d_X_isStretch_4 rfl ?_
    refine gk_get (pc := 5) K d_X_isStretch_5 fl_X_28 tx_0 rfl rfl ?_
    refine gk_iload_n (pc := 8) K d_X_isStretch_8 rfl ?_
    refine gk_bipush (pc := 9) K d_X_isStretch_9 kb_10 ?_
    refine gk_idivc2 (pc := 11) K d_X_isStretch_11 (by decide) ?_
    obtain ⟨v2, m1, em1, h⟩ := gk_bi_some h
    refine gk_cVi (As := [.int (a1 / 10)]) (pc := 12) K d_X_isStretch_12 mv_X_106 mc_Plain_isRoad rfl tx_7 cl_ok2.1 (s_Plain_isRoad (gk_FD K)  em1) (by decide) rfl (Nat.le_of_ble_eq_true rfl) ?_
    refine gk_if_eq (tgt := 43) (pc := 15) K d_X_isStretch_15 (by decide) h (fun h => ?_) (fun h => ?_)
    · refine gk_iconst (pc := 43) K d_X_isStretch_43 kc_0 ?_
      exact gk_zretc (pc := 44) K d_X_isStretch_44 rfl (Or.inl rfl) h
    · refine gk_iload_n (pc := 18) K d_X_isStretch_18 rfl ?_
      refine gk_bipush (pc := 19) K d_X_isStretch_19 kb_10 ?_
      refine gk_iremc2 (pc := 21) K d_X_isStretch_21 (by decide) ?_
      refine gk_iconst (pc := 22) K d_X_isStretch_22 kc_1 ?_
      refine gk_iadd (pc := 23) K d_X_isStretch_23 ?_
      refine gk_aload_n (pc := 24) K d_X_isStretch_24 rfl ?_
      refine gk_get (pc := 25) K d_X_isStretch_25 fl_X_28 tx_0 rfl rfl ?_
      refine gk_get (pc := 28) K d_X_isStretch_28 fl_X_109 tx_7 rfl rfl ?_
      refine gk_iload_n (pc := 31) K d_X_isStretch_31 rfl ?_
      refine gk_bipush (pc := 32) K d_X_isStretch_32 kb_10 ?_
      refine gk_idivc2 (pc := 34) K d_X_isStretch_34 (by decide) ?_
      refine gk_iald (pc := 35) K d_X_isStretch_35 tx_13 h (fun v3 h => ?_)
      refine gk_ic_ge (tgt := 43) (pc := 36) K d_X_isStretch_36 (by decide) h (fun h => ?_) (fun h => ?_)
      · refine gk_iconst (pc := 43) K d_X_isStretch_43 kc_0 ?_
        exact gk_zretc (pc := 44) K d_X_isStretch_44 rfl (Or.inl rfl) h
      · refine gk_iconst (pc := 39) K d_X_isStretch_39 kc_1 ?_
        refine gk_goto (tgt := 44) (pc := 40) K d_X_isStretch_40 (by decide) ?_
        exact gk_zretc (pc := 44) K d_X_isStretch_44 rfl (Or.inr rfl) h
theorem s_X_isStretch {l : Launch} {u : gk_U} (hD : gk_D tx u) {a1 : Int32} {m0 mem2 : gk_M} {r : Int32} (h : f_X_isStretch a1 m0 = some (r, mem2)) : gk_C tx l u me_X_isStretch 2 [.ref 0, .int a1] m0 (some (.int r)) mem2 :=
  gk_enter hD mc_X_isStretch (Nat.le_of_ble_eq_true rfl) rfl (fun z _ _ K => s_X_isStretch_0 K _ _  h)
theorem d_X_isChoice_0 : decode me_X_isChoice.2.1 0 = .ok (.iload_n 0, 1) := by decide +kernel
theorem d_X_isChoice_1 : decode me_X_isChoice.2.1 1 = .ok (.ifCond .lt 12, 3) := by decide +kernel
theorem d_X_isChoice_4 : decode me_X_isChoice.2.1 4 = .ok (.iload_n 0, 1) := by decide +kernel
theorem d_X_isChoice_5 : decode me_X_isChoice.2.1 5 = .ok (.iload_n 1, 1) := by decide +kernel
theorem d_X_isChoice_6 : decode me_X_isChoice.2.1 6 = .ok (.if_icmp .gt 7, 3) := by decide +kernel
theorem d_X_isChoice_9 : decode me_X_isChoice.2.1 9 = .ok (.iconst 1, 1) := by decide +kernel
theorem d_X_isChoice_10 : decode me_X_isChoice.2.1 10 = .ok (.goto 4, 3) := by decide +kernel
theorem d_X_isChoice_13 : decode me_X_isChoice.2.1 13 = .ok (.iconst 0, 1) := by decide +kernel
theorem d_X_isChoice_14 : decode me_X_isChoice.2.1 14 = .ok (.ireturn, 1) := by decide +kernel
noncomputable def f_X_isChoice  (a0 : Int32) (a1 : Int32) (m0 : gk_M) : Option (Int32 × gk_M) :=
  if a0 < 0 then
    some (0, m0)
  else
    if a1 < a0 then
      some (0, m0)
    else
      some (1, m0)

theorem s_X_isChoice_0 {z : gk_Z} (K : gk_F tx z me_X_isChoice 1) {r : Int32} {mem2 : gk_M} : ∀ a0 a1 m0, f_X_isChoice a0 a1 m0 = some (r, mem2) → gk_G tx z me_X_isChoice (gk_R tx z (some (.int r)) mem2) m0 [(0, .int a0), (1, .int a1)] [] 0 := by
  intro a0 a1 m0  h
  unfold f_X_isChoice at h
  refine gk_iload_n (pc := 0) K d_X_isChoice_0 rfl ?_
  refine gk_if_lt (tgt := 13) (pc := 1) K d_X_isChoice_1 (by decide) h (fun h => ?_) (fun h => ?_)
  · refine gk_iconst (pc := 13) K d_X_isChoice_13 kc_0 ?_
    exact gk_zretc (pc := 14) K d_X_isChoice_14 rfl (Or.inl rfl) h
  · refine gk_iload_n (pc := 4) K d_X_isChoice_4 rfl ?_
    refine gk_iload_n (pc := 5) K d_X_isChoice_5 rfl ?_
    refine gk_ic_gt (tgt := 13) (pc := 6) K d_X_isChoice_6 (by decide) h (fun h => ?_) (fun h => ?_)
    · refine gk_iconst (pc := 13) K d_X_isChoice_13 kc_0 ?_
      exact gk_zretc (pc := 14) K d_X_isChoice_14 rfl (Or.inl rfl) h
    · refine gk_iconst (pc := 9) K d_X_isChoice_9 kc_1 ?_
      refine gk_goto (tgt := 14) (pc := 10) K d_X_isChoice_10 (by decide) ?_
      exact gk_zretc (pc := 14) K d_X_isChoice_14 rfl (Or.inr rfl) h
theorem s_X_isChoice {l : Launch} {u : gk_U} (hD : gk_D tx u) {a0 : Int32} {a1 : Int32} {m0 mem2 : gk_M} {r : Int32} (h : f_X_isChoice a0 a1 m0 = some (r, mem2)) : gk_C tx l u me_X_isChoice 1 [.int a0, .int a1] m0 (some (.int r)) mem2 :=
  gk_enter hD mc_X_isChoice (Nat.le_of_ble_eq_true rfl) rfl (fun z _ _ K => s_X_isChoice_0 K _ _ _  h)
theorem d_Plain_guiltBetween_0 : decode me_Plain_guiltBetween.2.1 0 = .ok (.iload_n 1, 1) := by decide +kernel
theorem d_Plain_guiltBetween_1 : decode me_Plain_guiltBetween.2.1 1 = .ok (.bipush 30, 2) := by decide +kernel
theorem d_Plain_guiltBetween_3 : decode me_Plain_guiltBetween.2.1 3 = .ok (.irem, 1) := by decide +kernel
theorem d_Plain_guiltBetween_4 : decode me_Plain_guiltBetween.2.1 4 = .ok (.istore 6, 2) := by decide +kernel
theorem d_Plain_guiltBetween_6 : decode me_Plain_guiltBetween.2.1 6 = .ok (.iload_n 1, 1) := by decide +kernel
theorem d_Plain_guiltBetween_7 : decode me_Plain_guiltBetween.2.1 7 = .ok (.bipush 30, 2) := by decide +kernel
theorem d_Plain_guiltBetween_9 : decode me_Plain_guiltBetween.2.1 9 = .ok (.idiv, 1) := by decide +kernel
theorem d_Plain_guiltBetween_10 : decode me_Plain_guiltBetween.2.1 10 = .ok (.istore 7, 2) := by decide +kernel
theorem d_Plain_guiltBetween_12 : decode me_Plain_guiltBetween.2.1 12 = .ok (.iload_n 2, 1) := by decide +kernel
theorem d_Plain_guiltBetween_13 : decode me_Plain_guiltBetween.2.1 13 = .ok (.bipush 30, 2) := by decide +kernel
theorem d_Plain_guiltBetween_15 : decode me_Plain_guiltBetween.2.1 15 = .ok (.irem, 1) := by decide +kernel
theorem d_Plain_guiltBetween_16 : decode me_Plain_guiltBetween.2.1 16 = .ok (.istore 8, 2) := by decide +kernel
theorem d_Plain_guiltBetween_18 : decode me_Plain_guiltBetween.2.1 18 = .ok (.iload_n 2, 1) := by decide +kernel
theorem d_Plain_guiltBetween_19 : decode me_Plain_guiltBetween.2.1 19 = .ok (.bipush 30, 2) := by decide +kernel
theorem d_Plain_guiltBetween_21 : decode me_Plain_guiltBetween.2.1 21 = .ok (.idiv, 1) := by decide +kernel
theorem d_Plain_guiltBetween_22 : decode me_Plain_guiltBetween.2.1 22 = .ok (.istore 9, 2) := by decide +kernel
theorem d_Plain_guiltBetween_24 : decode me_Plain_guiltBetween.2.1 24 = .ok (.aload_n 0, 1) := by decide +kernel
theorem d_Plain_guiltBetween_25 : decode me_Plain_guiltBetween.2.1 25 = .ok (.iload 6, 2) := by decide +kernel
theorem d_Plain_guiltBetween_27 : decode me_Plain_guiltBetween.2.1 27 = .ok (.iload 7, 2) := by decide +kernel
theorem d_Plain_guiltBetween_29 : decode me_Plain_guiltBetween.2.1 29 = .ok (.iload 4, 2) := by decide +kernel
theorem d_Plain_guiltBetween_31 : decode me_Plain_guiltBetween.2.1 31 = .ok (.iload 5, 2) := by decide +kernel
theorem d_Plain_guiltBetween_33 : decode me_Plain_guiltBetween.2.1 33 = .ok (.invokevirtual 116, 3) := by decide +kernel
theorem d_Plain_guiltBetween_36 : decode me_Plain_guiltBetween.2.1 36 = .ok (.istore 10, 2) := by decide +kernel
theorem d_Plain_guiltBetween_38 : decode me_Plain_guiltBetween.2.1 38 = .ok (.aload_n 0, 1) := by decide +kernel
theorem d_Plain_guiltBetween_39 : decode me_Plain_guiltBetween.2.1 39 = .ok (.iload 8, 2) := by decide +kernel
theorem d_Plain_guiltBetween_41 : decode me_Plain_guiltBetween.2.1 41 = .ok (.iload 9, 2) := by decide +kernel
theorem d_Plain_guiltBetween_43 : decode me_Plain_guiltBetween.2.1 43 = .ok (.iload 4, 2) := by decide +kernel
theorem d_Plain_guiltBetween_45 : decode me_Plain_guiltBetween.2.1 45 = .ok (.iload 5, 2) := by decide +kernel
theorem d_Plain_guiltBetween_47 : decode me_Plain_guiltBetween.2.1 47 = .ok (.invokevirtual 116, 3) := by decide +kernel
theorem d_Plain_guiltBetween_50 : decode me_Plain_guiltBetween.2.1 50 = .ok (.istore 11, 2) := by decide +kernel
theorem d_Plain_guiltBetween_52 : decode me_Plain_guiltBetween.2.1 52 = .ok (.iload 10, 2) := by decide +kernel
theorem d_Plain_guiltBetween_54 : decode me_Plain_guiltBetween.2.1 54 = .ok (.iload 11, 2) := by decide +kernel
theorem d_Plain_guiltBetween_56 : decode me_Plain_guiltBetween.2.1 56 = .ok (.invokestatic 138, 3) := by decide +kernel
theorem d_Plain_guiltBetween_59 : decode me_Plain_guiltBetween.2.1 59 = .ok (.ifCond .eq 5, 3) := by decide +kernel
theorem d_Plain_guiltBetween_62 : decode me_Plain_guiltBetween.2.1 62 = .ok (.iconst (-1), 1) := by decide +kernel
theorem d_Plain_guiltBetween_63 : decode me_Plain_guiltBetween.2.1 63 = .ok (.ireturn, 1) := by decide +kernel
theorem d_Plain_guiltBetween_64 : decode me_Plain_guiltBetween.2.1 64 = .ok (.iload 10, 2) := by decide +kernel
theorem d_Plain_guiltBetween_66 : decode me_Plain_guiltBetween.2.1 66 = .ok (.ifCond .ne 52, 3) := by decide +kernel
theorem d_Plain_guiltBetween_69 : decode me_Plain_guiltBetween.2.1 69 = .ok (.iload 11, 2) := by decide +kernel
theorem d_Plain_guiltBetween_71 : decode me_Plain_guiltBetween.2.1 71 = .ok (.ifCond .ne 47, 3) := by decide +kernel
theorem d_Plain_guiltBetween_74 : decode me_Plain_guiltBetween.2.1 74 = .ok (.aload_n 0, 1) := by decide +kernel
theorem d_Plain_guiltBetween_75 : decode me_Plain_guiltBetween.2.1 75 = .ok (.iload 6, 2) := by decide +kernel
theorem d_Plain_guiltBetween_77 : decode me_Plain_guiltBetween.2.1 77 = .ok (.iload 7, 2) := by decide +kernel
theorem d_Plain_guiltBetween_79 : decode me_Plain_guiltBetween.2.1 79 = .ok (.iconst 1, 1) := by decide +kernel
theorem d_Plain_guiltBetween_80 : decode me_Plain_guiltBetween.2.1 80 = .ok (.iload_n 3, 1) := by decide +kernel
theorem d_Plain_guiltBetween_81 : decode me_Plain_guiltBetween.2.1 81 = .ok (.iload 4, 2) := by decide +kernel
theorem d_Plain_guiltBetween_83 : decode me_Plain_guiltBetween.2.1 83 = .ok (.iload 5, 2) := by decide +kernel
theorem d_Plain_guiltBetween_85 : decode me_Plain_guiltBetween.2.1 85 = .ok (.invokevirtual 120, 3) := by decide +kernel
theorem d_Plain_guiltBetween_88 : decode me_Plain_guiltBetween.2.1 88 = .ok (.ifCond .eq 5, 3) := by decide +kernel
theorem d_Plain_guiltBetween_91 : decode me_Plain_guiltBetween.2.1 91 = .ok (.iconst 1, 1) := by decide +kernel
theorem d_Plain_guiltBetween_92 : decode me_Plain_guiltBetween.2.1 92 = .ok (.ireturn, 1) := by decide +kernel
theorem d_Plain_guiltBetween_93 : decode me_Plain_guiltBetween.2.1 93 = .ok (.aload_n 0, 1) := by decide +kernel
theorem d_Plain_guiltBetween_94 : decode me_Plain_guiltBetween.2.1 94 = .ok (.iload 8, 2) := by decide +kernel
theorem d_Plain_guiltBetween_96 : decode me_Plain_guiltBetween.2.1 96 = .ok (.iload 9, 2) := by decide +kernel
theorem d_Plain_guiltBetween_98 : decode me_Plain_guiltBetween.2.1 98 = .ok (.iconst 1, 1) := by decide +kernel
theorem d_Plain_guiltBetween_99 : decode me_Plain_guiltBetween.2.1 99 = .ok (.iload_n 3, 1) := by decide +kernel
theorem d_Plain_guiltBetween_100 : decode me_Plain_guiltBetween.2.1 100 = .ok (.iload 4, 2) := by decide +kernel
theorem d_Plain_guiltBetween_102 : decode me_Plain_guiltBetween.2.1 102 = .ok (.iload 5, 2) := by decide +kernel
theorem d_Plain_guiltBetween_104 : decode me_Plain_guiltBetween.2.1 104 = .ok (.invokevirtual 120, 3) := by decide +kernel
theorem d_Plain_guiltBetween_107 : decode me_Plain_guiltBetween.2.1 107 = .ok (.ifCond .eq 9, 3) := by decide +kernel
theorem d_Plain_guiltBetween_110 : decode me_Plain_guiltBetween.2.1 110 = .ok (.sipush 4097, 3) := by decide +kernel
theorem d_Plain_guiltBetween_113 : decode me_Plain_guiltBetween.2.1 113 = .ok (.goto 4, 3) := by decide +kernel
theorem d_Plain_guiltBetween_116 : decode me_Plain_guiltBetween.2.1 116 = .ok (.iconst (-1), 1) := by decide +kernel
theorem d_Plain_guiltBetween_117 : decode me_Plain_guiltBetween.2.1 117 = .ok (.ireturn, 1) := by decide +kernel
theorem d_Plain_guiltBetween_118 : decode me_Plain_guiltBetween.2.1 118 = .ok (.iload 10, 2) := by decide +kernel
theorem d_Plain_guiltBetween_120 : decode me_Plain_guiltBetween.2.1 120 = .ok (.invokestatic 124, 3) := by decide +kernel
theorem d_Plain_guiltBetween_123 : decode me_Plain_guiltBetween.2.1 123 = .ok (.istore 12, 2) := by decide +kernel
theorem d_Plain_guiltBetween_125 : decode me_Plain_guiltBetween.2.1 125 = .ok (.iload 12, 2) := by decide +kernel
theorem d_Plain_guiltBetween_127 : decode me_Plain_guiltBetween.2.1 127 = .ok (.iload 11, 2) := by decide +kernel
theorem d_Plain_guiltBetween_129 : decode me_Plain_guiltBetween.2.1 129 = .ok (.invokestatic 124, 3) := by decide +kernel
theorem d_Plain_guiltBetween_132 : decode me_Plain_guiltBetween.2.1 132 = .ok (.iadd, 1) := by decide +kernel
theorem d_Plain_guiltBetween_133 : decode me_Plain_guiltBetween.2.1 133 = .ok (.istore 13, 2) := by decide +kernel
theorem d_Plain_guiltBetween_135 : decode me_Plain_guiltBetween.2.1 135 = .ok (.iload 6, 2) := by decide +kernel
theorem d_Plain_guiltBetween_137 : decode me_Plain_guiltBetween.2.1 137 = .ok (.iload 13, 2) := by decide +kernel
theorem d_Plain_guiltBetween_139 : decode me_Plain_guiltBetween.2.1 139 = .ok (.imul, 1) := by decide +kernel
theorem d_Plain_guiltBetween_140 : decode me_Plain_guiltBetween.2.1 140 = .ok (.iload 8, 2) := by decide +kernel
theorem d_Plain_guiltBetween_142 : decode me_Plain_guiltBetween.2.1 142 = .ok (.iload 6, 2) := by decide +kernel
theorem d_Plain_guiltBetween_144 : decode me_Plain_guiltBetween.2.1 144 = .ok (.isub, 1) := by decide +kernel
theorem d_Plain_guiltBetween_145 : decode me_Plain_guiltBetween.2.1 145 = .ok (.iload 12, 2) := by decide +kernel
theorem d_Plain_guiltBetween_147 : decode me_Plain_guiltBetween.2.1 147 = .ok (.imul, 1) := by decide +kernel
theorem d_Plain_guiltBetween_148 : decode me_Plain_guiltBetween.2.1 148 = .ok (.iadd, 1) := by decide +kernel
theorem d_Plain_guiltBetween_149 : decode me_Plain_guiltBetween.2.1 149 = .ok (.istore 14, 2) := by decide +kernel
theorem d_Plain_guiltBetween_151 : decode me_Plain_guiltBetween.2.1 151 = .ok (.iload 7, 2) := by decide +kernel
theorem d_Plain_guiltBetween_153 : decode me_Plain_guiltBetween.2.1 153 = .ok (.iload 13, 2) := by decide +kernel
theorem d_Plain_guiltBetween_155 : decode me_Plain_guiltBetween.2.1 155 = .ok (.imul, 1) := by decide +kernel
theorem d_Plain_guiltBetween_156 : decode me_Plain_guiltBetween.2.1 156 = .ok (.iload 9, 2) := by decide +kernel
theorem d_Plain_guiltBetween_158 : decode me_Plain_guiltBetween.2.1 158 = .ok (.iload 7, 2) := by decide +kernel
theorem d_Plain_guiltBetween_160 : decode me_Plain_guiltBetween.2.1 160 = .ok (.isub, 1) := by decide +kernel
theorem d_Plain_guiltBetween_161 : decode me_Plain_guiltBetween.2.1 161 = .ok (.iload 12, 2) := by decide +kernel
theorem d_Plain_guiltBetween_163 : decode me_Plain_guiltBetween.2.1 163 = .ok (.imul, 1) := by decide +kernel
theorem d_Plain_guiltBetween_164 : decode me_Plain_guiltBetween.2.1 164 = .ok (.iadd, 1) := by decide +kernel
theorem d_Plain_guiltBetween_165 : decode me_Plain_guiltBetween.2.1 165 = .ok (.istore 15, 2) := by decide +kernel
theorem d_Plain_guiltBetween_167 : decode me_Plain_guiltBetween.2.1 167 = .ok (.aload_n 0, 1) := by decide +kernel
theorem d_Plain_guiltBetween_168 : decode me_Plain_guiltBetween.2.1 168 = .ok (.iload 14, 2) := by decide +kernel
theorem d_Plain_guiltBetween_170 : decode me_Plain_guiltBetween.2.1 170 = .ok (.iload 15, 2) := by decide +kernel
theorem d_Plain_guiltBetween_172 : decode me_Plain_guiltBetween.2.1 172 = .ok (.iload 13, 2) := by decide +kernel
theorem d_Plain_guiltBetween_174 : decode me_Plain_guiltBetween.2.1 174 = .ok (.iload_n 3, 1) := by decide +kernel
theorem d_Plain_guiltBetween_175 : decode me_Plain_guiltBetween.2.1 175 = .ok (.iload 4, 2) := by decide +kernel
theorem d_Plain_guiltBetween_177 : decode me_Plain_guiltBetween.2.1 177 = .ok (.iload 5, 2) := by decide +kernel
theorem d_Plain_guiltBetween_179 : decode me_Plain_guiltBetween.2.1 179 = .ok (.invokevirtual 120, 3) := by decide +kernel
theorem d_Plain_guiltBetween_182 : decode me_Plain_guiltBetween.2.1 182 = .ok (.ifCond .eq 15, 3) := by decide +kernel
theorem d_Plain_guiltBetween_185 : decode me_Plain_guiltBetween.2.1 185 = .ok (.iload 12, 2) := by decide +kernel
theorem d_Plain_guiltBetween_187 : decode me_Plain_guiltBetween.2.1 187 = .ok (.sipush 4096, 3) := by decide +kernel
theorem d_Plain_guiltBetween_190 : decode me_Plain_guiltBetween.2.1 190 = .ok (.imul, 1) := by decide +kernel
theorem d_Plain_guiltBetween_191 : decode me_Plain_guiltBetween.2.1 191 = .ok (.iload 13, 2) := by decide +kernel
theorem d_Plain_guiltBetween_193 : decode me_Plain_guiltBetween.2.1 193 = .ok (.iadd, 1) := by decide +kernel
theorem d_Plain_guiltBetween_194 : decode me_Plain_guiltBetween.2.1 194 = .ok (.goto 4, 3) := by decide +kernel
theorem d_Plain_guiltBetween_197 : decode me_Plain_guiltBetween.2.1 197 = .ok (.iconst (-1), 1) := by decide +kernel
theorem d_Plain_guiltBetween_198 : decode me_Plain_guiltBetween.2.1 198 = .ok (.ireturn, 1) := by decide +kernel
noncomputable def f_Plain_guiltBetween_118  (a3 : Int32) (a4 : Int32) (a5 : Int32) (a6 : Int32) (a7 : Int32) (a8 : Int32) (a9 : Int32) (a10 : Int32) (a11 : Int32) (m0 : gk_M) : Option (Int32 × gk_M) :=
  gk_let (gk_abs a10) fun v1 =>
  gk_let (v1 + (gk_abs a11)) fun v2 =>
  gk_let ((a6 * v2) + ((a8 - a6) * v1)) fun v3 =>
  gk_let ((a7 * v2) + ((a9 - a7) * v1)) fun v4 =>
  gk_bi (f_Plain_lineUp v3 v4 v2 a3 a4 a5 m0) fun v6 m5 =>
  if v6 = 0 then
    some ((-1), m5)
  else
    some (((v1 * 4096) + v2), m5)

theorem s_Plain_guiltBetween_118 {z : gk_Z} (K : gk_F tx z me_Plain_guiltBetween 5) {r : Int32} {mem2 : gk_M} : ∀ a3 a4 a5 a6 a7 a8 a9 a10 a11 m0, f_Plain_guiltBetween_118 a3 a4 a5 a6 a7 a8 a9 a10 a11 m0 = some (r, mem2) → gk_G tx z me_Plain_guiltBetween (gk_R tx z (some (.int r)) mem2) m0 [(0, .ref 7), (3, .int a3), (4, .int a4), (5, .int a5), (6, .int a6), (7, .int a7), (8, .int a8), (9, .int a9), (10, .int a10), (11, .int a11)] [] 118 := by
  intro a3 a4 a5 a6 a7 a8 a9 a10 a11 m0  h
  unfold f_Plain_guiltBetween_118 at h
  refine gk_iload (pc := 118) K d_Plain_guiltBetween_118 rfl ?_
  refine gk_mabs (pc := 120) K d_Plain_guiltBetween_120 ms_Plain_124 (by decide) (Nat.le_of_ble_eq_true rfl) ?_
  refine gk_topi h (fun v1 h => ?_)
  refine gk_istore (lv2 := [(12, .int v1), (0, .ref 7), (3, .int a3), (4, .int a4), (5, .int a5), (6, .int a6), (7, .int a7), (8, .int a8), (9, .int a9), (10, .int a10), (11, .int a11)]) (pc := 123) K d_Plain_guiltBetween_123 (by decide) rfl ?_
  refine gk_iload (pc := 125) K d_Plain_guiltBetween_125 rfl ?_
  refine gk_iload (pc := 127) K d_Plain_guiltBetween_127 rfl ?_
  refine gk_mabs (pc := 129) K d_Plain_guiltBetween_129 ms_Plain_124 (by decide) (Nat.le_of_ble_eq_true rfl) ?_
  refine gk_iadd (pc := 132) K d_Plain_guiltBetween_132 ?_
  refine gk_topi h (fun v2 h => ?_)
  refine gk_istore (lv2 := [(13, .int v2), (12, .int v1), (0, .ref 7), (3, .int a3), (4, .int a4), (5, .int a5), (6, .int a6), (7, .int a7), (8, .int a8), (9, .int a9), (10, .int a10), (11, .int a11)]) (pc := 133) K d_Plain_guiltBetween_133 (by decide) rfl ?_
  refine gk_iload (pc := 135) K d_Plain_guiltBetween_135 rfl ?_
  refine gk_iload (pc := 137) K d_Plain_guiltBetween_137 rfl ?_
  refine gk_imul (pc := 139) K d_Plain_guiltBetween_139 ?_
  refine gk_iload (pc := 140) K d_Plain_guiltBetween_140 rfl ?_
  refine gk_iload (pc := 142) K d_Plain_guiltBetween_142 rfl ?_
  refine gk_isub (pc := 144) K d_Plain_guiltBetween_144 ?_
  refine gk_iload (pc := 145) K d_Plain_guiltBetween_145 rfl ?_
  refine gk_imul (pc := 147) K d_Plain_guiltBetween_147 ?_
  refine gk_iadd (pc := 148) K d_Plain_guiltBetween_148 ?_
  refine gk_topi h (fun v3 h => ?_)
  refine gk_istore (lv2 := [(14, .int v3), (13, .int v2), (12, .int v1), (0, .ref 7), (3, .int a3), (4, .int a4), (5, .int a5), (6, .int a6), (7, .int a7), (8, .int a8), (9, .int a9), (10, .int a10), (11, .int a11)]) (pc := 149) K d_Plain_guiltBetween_149 (by decide) rfl ?_
  refine gk_iload (pc := 151) K d_Plain_guiltBetween_151 rfl ?_
  refine gk_iload (pc := 153) K d_Plain_guiltBetween_153 rfl ?_
  refine gk_imul (pc := 155) K d_Plain_guiltBetween_155 ?_
  refine gk_iload (pc := 156) K d_Plain_guiltBetween_156 rfl ?_
  refine gk_iload (pc := 158) K d_Plain_guiltBetween_158 rfl ?_
  refine gk_isub (pc := 160) K d_Plain_guiltBetween_160 ?_
  refine gk_iload (pc := 161) K d_Plain_guiltBetween_161 rfl ?_
  refine gk_imul (pc := 163) K d_Plain_guiltBetween_163 ?_
  refine gk_iadd (pc := 164) K d_Plain_guiltBetween_164 ?_
  refine gk_topi h (fun v4 h => ?_)
  refine gk_istore (lv2 := [(15, .int v4), (14, .int v3), (13, .int v2), (12, .int v1), (0, .ref 7), (3, .int a3), (4, .int a4), (5, .int a5), (6, .int a6), (7, .int a7), (8, .int a8), (9, .int a9), (10, .int a10), (11, .int a11)]) (pc := 165) K d_Plain_guiltBetween_165 (by decide) rfl ?_
  refine gk_aload_n (pc := 167) K d_Plain_guiltBetween_167 rfl ?_
  refine gk_iload (pc := 168) K d_Plain_guiltBetween_168 rfl ?_
  refine gk_iload (pc := 170) K d_Plain_guiltBetween_170 rfl ?_
  refine gk_iload (pc := 172) K d_Plain_guiltBetween_172 rfl ?_
  refine gk_iload_n (pc := 174) K d_Plain_guiltBetween_174 rfl ?_
  refine gk_iload (pc := 175) K d_Plain_guiltBetween_175 rfl ?_
  refine gk_iload (pc := 177) K d_Plain_guiltBetween_177 rfl ?_
  obtain ⟨v6, m5, em5, h⟩ := gk_bi_some h
  refine gk_cVi (As := [.int v3, .int v4, .int v2, .int a3, .int a4, .int a5]) (pc := 179) K d_Plain_guiltBetween_179 mv_Plain_120 mc_Plain_lineUp rfl tx_7 cl_ok2.1 (s_Plain_lineUp (gk_FD K)  em5) (by decide) rfl (Nat.le_of_ble_eq_true rfl) ?_
  refine gk_if_eq (tgt := 197) (pc := 182) K d_Plain_guiltBetween_182 (by decide) h (fun h => ?_) (fun h => ?_)
  · refine gk_iconst (pc := 197) K d_Plain_guiltBetween_197 kc_m1 ?_
    exact gk_iret (pc := 198) K d_Plain_guiltBetween_198 rfl h
  · refine gk_iload (pc := 185) K d_Plain_guiltBetween_185 rfl ?_
    refine gk_sipush (pc := 187) K d_Plain_guiltBetween_187 ks_4096 ?_
    refine gk_imul (pc := 190) K d_Plain_guiltBetween_190 ?_
    refine gk_iload (pc := 191) K d_Plain_guiltBetween_191 rfl ?_
    refine gk_iadd (pc := 193) K d_Plain_guiltBetween_193 ?_
    refine gk_goto (tgt := 198) (pc := 194) K d_Plain_guiltBetween_194 (by decide) ?_
    exact gk_iret (pc := 198) K d_Plain_guiltBetween_198 rfl h
noncomputable def f_Plain_guiltBetween  (a1 : Int32) (a2 : Int32) (a3 : Int32) (a4 : Int32) (a5 : Int32) (m0 : gk_M) : Option (Int32 × gk_M) :=
  gk_let (gk_rem a1 30) fun v1 =>
  gk_let (a1 / 30) fun v2 =>
  gk_let (gk_rem a2 30) fun v3 =>
  gk_let (a2 / 30) fun v4 =>
  gk_bi (f_Plain_side v1 v2 a4 a5 m0) fun v6 m5 =>
  gk_bi (f_Plain_side v3 v4 a4 a5 m5) fun v8 m7 =>
  gk_bi (f_Plain_areBothOnOneSide v6 v8 m7) fun v10 m9 =>
  if v10 = 0 then
    if ¬ v6 = 0 then
      f_Plain_guiltBetween_118 a3 a4 a5 v1 v2 v3 v4 v6 v8 m9
    else
      if ¬ v8 = 0 then
        f_Plain_guiltBetween_118 a3 a4 a5 v1 v2 v3 v4 v6 v8 m9
      else
        gk_bi (f_Plain_lineUp v1 v2 1 a3 a4 a5 m9) fun v12 m11 =>
        if v12 = 0 then
          gk_bi (f_Plain_lineUp v3 v4 1 a3 a4 a5 m11) fun v14 m13 =>
          if v14 = 0 then
            some ((-1), m13)
          else
            some (4097, m13)
        else
          some (1, m11)
  else
    some ((-1), m9)

theorem s_Plain_guiltBetween_0 {z : gk_Z} (K : gk_F tx z me_Plain_guiltBetween 5) {r : Int32} {mem2 : gk_M} : ∀ a1 a2 a3 a4 a5 m0, f_Plain_guiltBetween a1 a2 a3 a4 a5 m0 = some (r, mem2) → gk_G tx z me_Plain_guiltBetween (gk_R tx z (some (.int r)) mem2) m0 [(0, .ref 7), (1, .int a1), (2, .int a2), (3, .int a3), (4, .int a4), (5, .int a5)] [] 0 := by
  intro a1 a2 a3 a4 a5 m0  h
  unfold f_Plain_guiltBetween at h
  refine gk_iload_n (pc := 0) K d_Plain_guiltBetween_0 rfl ?_
  refine gk_bipush (pc := 1) K d_Plain_guiltBetween_1 kb_30 ?_
  refine gk_iremc2 (pc := 3) K d_Plain_guiltBetween_3 (by decide) ?_
  refine gk_topi h (fun v1 h => ?_)
  refine gk_istore (lv2 := [(6, .int v1), (0, .ref 7), (1, .int a1), (2, .int a2), (3, .int a3), (4, .int a4), (5, .int a5)]) (pc := 4) K d_Plain_guiltBetween_4 (by decide) rfl ?_
  refine gk_iload_n (pc := 6) K d_Plain_guiltBetween_6 rfl ?_
  refine gk_bipush (pc := 7) K d_Plain_guiltBetween_7 kb_30 ?_
  refine gk_idivc2 (pc := 9) K d_Plain_guiltBetween_9 (by decide) ?_
  refine gk_topi h (fun v2 h => ?_)
  refine gk_istore (lv2 := [(7, .int v2), (6, .int v1), (0, .ref 7), (1, .int a1), (2, .int a2), (3, .int a3), (4, .int a4), (5, .int a5)]) (pc := 10) K d_Plain_guiltBetween_10 (by decide) rfl ?_
  refine gk_iload_n (pc := 12) K d_Plain_guiltBetween_12 rfl ?_
  refine gk_bipush (pc := 13) K d_Plain_guiltBetween_13 kb_30 ?_
  refine gk_iremc2 (pc := 15) K d_Plain_guiltBetween_15 (by decide) ?_
  refine gk_topi h (fun v3 h => ?_)
  refine gk_istore (lv2 := [(8, .int v3), (7, .int v2), (6, .int v1), (0, .ref 7), (1, .int a1), (2, .int a2), (3, .int a3), (4, .int a4), (5, .int a5)]) (pc := 16) K d_Plain_guiltBetween_16 (by decide) rfl ?_
  refine gk_iload_n (pc := 18) K d_Plain_guiltBetween_18 rfl ?_
  refine gk_bipush (pc := 19) K d_Plain_guiltBetween_19 kb_30 ?_
  refine gk_idivc2 (pc := 21) K d_Plain_guiltBetween_21 (by decide) ?_
  refine gk_topi h (fun v4 h => ?_)
  refine gk_istore (lv2 := [(9, .int v4), (8, .int v3), (7, .int v2), (6, .int v1), (0, .ref 7), (1, .int a1), (2, .int a2), (3, .int a3), (4, .int a4), (5, .int a5)]) (pc := 22) K d_Plain_guiltBetween_22 (by decide) rfl ?_
  refine gk_aload_n (pc := 24) K d_Plain_guiltBetween_24 rfl ?_
  refine gk_iload (pc := 25) K d_Plain_guiltBetween_25 rfl ?_
  refine gk_iload (pc := 27) K d_Plain_guiltBetween_27 rfl ?_
  refine gk_iload (pc := 29) K d_Plain_guiltBetween_29 rfl ?_
  refine gk_iload (pc := 31) K d_Plain_guiltBetween_31 rfl ?_
  obtain ⟨v6, m5, em5, h⟩ := gk_bi_some h
  refine gk_cVi (As := [.int v1, .int v2, .int a4, .int a5]) (pc := 33) K d_Plain_guiltBetween_33 mv_Plain_116 mc_Plain_side rfl tx_7 cl_ok2.1 (s_Plain_side (gk_FD K)  em5) (by decide) rfl (Nat.le_of_ble_eq_true rfl) ?_
  refine gk_istore (lv2 := [(10, .int v6), (9, .int v4), (8, .int v3), (7, .int v2), (6, .int v1), (0, .ref 7), (1, .int a1), (2, .int a2), (3, .int a3), (4, .int a4), (5, .int a5)]) (pc := 36) K d_Plain_guiltBetween_36 (by decide) rfl ?_
  refine gk_aload_n (pc := 38) K d_Plain_guiltBetween_38 rfl ?_
  refine gk_iload (pc := 39) K d_Plain_guiltBetween_39 rfl ?_
  refine gk_iload (pc := 41) K d_Plain_guiltBetween_41 rfl ?_
  refine gk_iload (pc := 43) K d_Plain_guiltBetween_43 rfl ?_
  refine gk_iload (pc := 45) K d_Plain_guiltBetween_45 rfl ?_
  obtain ⟨v8, m7, em7, h⟩ := gk_bi_some h
  refine gk_cVi (As := [.int v3, .int v4, .int a4, .int a5]) (pc := 47) K d_Plain_guiltBetween_47 mv_Plain_116 mc_Plain_side rfl tx_7 cl_ok2.1 (s_Plain_side (gk_FD K)  em7) (by decide) rfl (Nat.le_of_ble_eq_true rfl) ?_
  refine gk_istore (lv2 := [(11, .int v8), (10, .int v6), (9, .int v4), (8, .int v3), (7, .int v2), (6, .int v1), (0, .ref 7), (1, .int a1), (2, .int a2), (3, .int a3), (4, .int a4), (5, .int a5)]) (pc := 50) K d_Plain_guiltBetween_50 (by decide) rfl ?_
  refine gk_iload (pc := 52) K d_Plain_guiltBetween_52 rfl ?_
  refine gk_iload (pc := 54) K d_Plain_guiltBetween_54 rfl ?_
  obtain ⟨v10, m9, em9, h⟩ := gk_bi_some h
  refine gk_cSi (As := [.int v6, .int v8]) (pc := 56) K d_Plain_guiltBetween_56 ms_Plain_138 mc_Plain_areBothOnOneSide rfl (s_Plain_areBothOnOneSide (gk_FD K)  em9) (by decide) rfl (Nat.le_of_ble_eq_true rfl) ?_
  refine gk_if_eq (tgt := 64) (pc := 59) K d_Plain_guiltBetween_59 (by decide) h (fun h => ?_) (fun h => ?_)
  · refine gk_iload (pc := 64) K d_Plain_guiltBetween_64 rfl ?_
    refine gk_if_ne (tgt := 118) (pc := 66) K d_Plain_guiltBetween_66 (by decide) h (fun h => ?_) (fun h => ?_)
    · exact gk_sub [6, 9, 10, 11, 5, 4, 3, 2, 1, 0] rfl (s_Plain_guiltBetween_118 K _ _ _ _ _ _ _ _ _ _  h)
    · refine gk_iload (pc := 69) K d_Plain_guiltBetween_69 rfl ?_
      refine gk_if_ne (tgt := 118) (pc := 71) K d_Plain_guiltBetween_71 (by decide) h (fun h => ?_) (fun h => ?_)
      · exact gk_sub [6, 9, 10, 11, 5, 4, 3, 2, 1, 0] rfl (s_Plain_guiltBetween_118 K _ _ _ _ _ _ _ _ _ _  h)
      · refine gk_aload_n (pc := 74) K d_Plain_guiltBetween_74 rfl ?_
        refine gk_iload (pc := 75) K d_Plain_guiltBetween_75 rfl ?_
        refine gk_iload (pc := 77) K d_Plain_guiltBetween_77 rfl ?_
        refine gk_iconst (pc := 79) K d_Plain_guiltBetween_79 kc_1 ?_
        refine gk_iload_n (pc := 80) K d_Plain_guiltBetween_80 rfl ?_
        refine gk_iload (pc := 81) K d_Plain_guiltBetween_81 rfl ?_
        refine gk_iload (pc := 83) K d_Plain_guiltBetween_83 rfl ?_
        obtain ⟨v12, m11, em11, h⟩ := gk_bi_some h
        refine gk_cVi (As := [.int v1, .int v2, .int 1, .int a3, .int a4, .int a5]) (pc := 85) K d_Plain_guiltBetween_85 mv_Plain_120 mc_Plain_lineUp rfl tx_7 cl_ok2.1 (s_Plain_lineUp (gk_FD K)  em11) (by decide) rfl (Nat.le_of_ble_eq_true rfl) ?_
        refine gk_if_eq (tgt := 93) (pc := 88) K d_Plain_guiltBetween_88 (by decide) h (fun h => ?_) (fun h => ?_)
        · refine gk_aload_n (pc := 93) K d_Plain_guiltBetween_93 rfl ?_
          refine gk_iload (pc := 94) K d_Plain_guiltBetween_94 rfl ?_
          refine gk_iload (pc := 96) K d_Plain_guiltBetween_96 rfl ?_
          refine gk_iconst (pc := 98) K d_Plain_guiltBetween_98 kc_1 ?_
          refine gk_iload_n (pc := 99) K d_Plain_guiltBetween_99 rfl ?_
          refine gk_iload (pc := 100) K d_Plain_guiltBetween_100 rfl ?_
          refine gk_iload (pc := 102) K d_Plain_guiltBetween_102 rfl ?_
          obtain ⟨v14, m13, em13, h⟩ := gk_bi_some h
          refine gk_cVi (As := [.int v3, .int v4, .int 1, .int a3, .int a4, .int a5]) (pc := 104) K d_Plain_guiltBetween_104 mv_Plain_120 mc_Plain_lineUp rfl tx_7 cl_ok2.1 (s_Plain_lineUp (gk_FD K)  em13) (by decide) rfl (Nat.le_of_ble_eq_true rfl) ?_
          refine gk_if_eq (tgt := 116) (pc := 107) K d_Plain_guiltBetween_107 (by decide) h (fun h => ?_) (fun h => ?_)
          · refine gk_iconst (pc := 116) K d_Plain_guiltBetween_116 kc_m1 ?_
            exact gk_iret (pc := 117) K d_Plain_guiltBetween_117 rfl h
          · refine gk_sipush (pc := 110) K d_Plain_guiltBetween_110 ks_4097 ?_
            refine gk_goto (tgt := 117) (pc := 113) K d_Plain_guiltBetween_113 (by decide) ?_
            exact gk_iret (pc := 117) K d_Plain_guiltBetween_117 rfl h
        · refine gk_iconst (pc := 91) K d_Plain_guiltBetween_91 kc_1 ?_
          exact gk_iret (pc := 92) K d_Plain_guiltBetween_92 rfl h
  · refine gk_iconst (pc := 62) K d_Plain_guiltBetween_62 kc_m1 ?_
    exact gk_iret (pc := 63) K d_Plain_guiltBetween_63 rfl h
theorem s_Plain_guiltBetween {l : Launch} {u : gk_U} (hD : gk_D tx u) {a1 : Int32} {a2 : Int32} {a3 : Int32} {a4 : Int32} {a5 : Int32} {m0 mem2 : gk_M} {r : Int32} (h : f_Plain_guiltBetween a1 a2 a3 a4 a5 m0 = some (r, mem2)) : gk_C tx l u me_Plain_guiltBetween 5 [.ref 7, .int a1, .int a2, .int a3, .int a4, .int a5] m0 (some (.int r)) mem2 :=
  gk_enter hD mc_Plain_guiltBetween (Nat.le_of_ble_eq_true rfl) rfl (fun z _ _ K => s_Plain_guiltBetween_0 K _ _ _ _ _ _  h)
theorem d_X_greatestDivisor_0 : decode me_X_greatestDivisor.2.1 0 = .ok (.iload_n 0, 1) := by decide +kernel
theorem d_X_greatestDivisor_1 : decode me_X_greatestDivisor.2.1 1 = .ok (.istore_n 2, 1) := by decide +kernel
theorem d_X_greatestDivisor_2 : decode me_X_greatestDivisor.2.1 2 = .ok (.iload_n 1, 1) := by decide +kernel
theorem d_X_greatestDivisor_3 : decode me_X_greatestDivisor.2.1 3 = .ok (.istore_n 3, 1) := by decide +kernel
theorem d_X_greatestDivisor_4 : decode me_X_greatestDivisor.2.1 4 = .ok (.iconst 0, 1) := by decide +kernel
theorem d_X_greatestDivisor_5 : decode me_X_greatestDivisor.2.1 5 = .ok (.istore 4, 2) := by decide +kernel
theorem d_X_greatestDivisor_7 : decode me_X_greatestDivisor.2.1 7 = .ok (.iload_n 2, 1) := by decide +kernel
theorem d_X_greatestDivisor_8 : decode me_X_greatestDivisor.2.1 8 = .ok (.ifCond .eq 26, 3) := by decide +kernel
theorem d_X_greatestDivisor_11 : decode me_X_greatestDivisor.2.1 11 = .ok (.iload 4, 2) := by decide +kernel
theorem d_X_greatestDivisor_13 : decode me_X_greatestDivisor.2.1 13 = .ok (.bipush 64, 2) := by decide +kernel
theorem d_X_greatestDivisor_15 : decode me_X_greatestDivisor.2.1 15 = .ok (.if_icmp .ge 19, 3) := by decide +kernel
theorem d_X_greatestDivisor_18 : decode me_X_greatestDivisor.2.1 18 = .ok (.iload_n 3, 1) := by decide +kernel
theorem d_X_greatestDivisor_19 : decode me_X_greatestDivisor.2.1 19 = .ok (.iload_n 2, 1) := by decide +kernel
theorem d_X_greatestDivisor_20 : decode me_X_greatestDivisor.2.1 20 = .ok (.irem, 1) := by decide +kernel
theorem d_X_greatestDivisor_21 : decode me_X_greatestDivisor.2.1 21 = .ok (.istore 5, 2) := by decide +kernel
theorem d_X_greatestDivisor_23 : decode me_X_greatestDivisor.2.1 23 = .ok (.iload_n 2, 1) := by decide +kernel
theorem d_X_greatestDivisor_24 : decode me_X_greatestDivisor.2.1 24 = .ok (.istore_n 3, 1) := by decide +kernel
theorem d_X_greatestDivisor_25 : decode me_X_greatestDivisor.2.1 25 = .ok (.iload 5, 2) := by decide +kernel
theorem d_X_greatestDivisor_27 : decode me_X_greatestDivisor.2.1 27 = .ok (.istore_n 2, 1) := by decide +kernel
theorem d_X_greatestDivisor_28 : decode me_X_greatestDivisor.2.1 28 = .ok (.iinc 4 1, 3) := by decide +kernel
theorem d_X_greatestDivisor_31 : decode me_X_greatestDivisor.2.1 31 = .ok (.goto (-24), 3) := by decide +kernel
theorem d_X_greatestDivisor_34 : decode me_X_greatestDivisor.2.1 34 = .ok (.iload_n 3, 1) := by decide +kernel
theorem d_X_greatestDivisor_35 : decode me_X_greatestDivisor.2.1 35 = .ok (.iconst 1, 1) := by decide +kernel
theorem d_X_greatestDivisor_36 : decode me_X_greatestDivisor.2.1 36 = .ok (.invokestatic 343, 3) := by decide +kernel
theorem d_X_greatestDivisor_39 : decode me_X_greatestDivisor.2.1 39 = .ok (.ireturn, 1) := by decide +kernel
noncomputable def f_X_greatestDivisor_34  (a3 : Int32) (m0 : gk_M) : Option (Int32 × gk_M) :=
  some ((gk_max a3 1), m0)

theorem s_X_greatestDivisor_34 {z : gk_Z} (K : gk_F tx z me_X_greatestDivisor 2) {r : Int32} {mem2 : gk_M} : ∀ a3 m0, f_X_greatestDivisor_34 a3 m0 = some (r, mem2) → gk_G tx z me_X_greatestDivisor (gk_R tx z (some (.int r)) mem2) m0 [(3, .int a3)] [] 34 := by
  intro a3 m0  h
  unfold f_X_greatestDivisor_34 at h
  refine gk_iload_n (pc := 34) K d_X_greatestDivisor_34 rfl ?_
  refine gk_iconst (pc := 35) K d_X_greatestDivisor_35 kc_1 ?_
  refine gk_mmax (pc := 36) K d_X_greatestDivisor_36 ms_X_343 (by decide) (Nat.le_of_ble_eq_true rfl) ?_
  exact gk_iret (pc := 39) K d_X_greatestDivisor_39 rfl h
noncomputable def f_X_greatestDivisor_7  : Nat → Int32 → Int32 → Int32 → gk_M → Option (Int32 × gk_M)
  | 0, _, _, _, _ => none
  | n + 1, a2, a3, a4, m0 =>
    if a2 = 0 then
      f_X_greatestDivisor_34 a3 m0
    else
      if 64 ≤ a4 then
        f_X_greatestDivisor_34 a3 m0
      else
        gk_re a3 a2 fun v1 =>
        f_X_greatestDivisor_7 n v1 a2 (a4 + 1) m0

theorem s_X_greatestDivisor_7 {z : gk_Z} (K : gk_F tx z me_X_greatestDivisor 2) {r : Int32} {mem2 : gk_M} : ∀ n a2 a3 a4 m0, f_X_greatestDivisor_7 n a2 a3 a4 m0 = some (r, mem2) → gk_G tx z me_X_greatestDivisor (gk_R tx z (some (.int r)) mem2) m0 [(2, .int a2), (3, .int a3), (4, .int a4)] [] 7 := by
  intro n
  induction n with
  | zero => intro a2 a3 a4 m0  h; exact nomatch (show (none : Option _) = some _ from h)
  | succ n ih =>
    intro a2 a3 a4 m0  h
    unfold f_X_greatestDivisor_7 at h
    refine gk_iload_n (pc := 7) K d_X_greatestDivisor_7 rfl ?_
    refine gk_if_eq (tgt := 34) (pc := 8) K d_X_greatestDivisor_8 (by decide) h (fun h => ?_) (fun h => ?_)
    · exact gk_sub [1] rfl (s_X_greatestDivisor_34 K _ _  h)
    · refine gk_iload (pc := 11) K d_X_greatestDivisor_11 rfl ?_
      refine gk_bipush (pc := 13) K d_X_greatestDivisor_13 kb_64 ?_
      refine gk_ic_ge (tgt := 34) (pc := 15) K d_X_greatestDivisor_15 (by decide) h (fun h => ?_) (fun h => ?_)
      · exact gk_sub [1] rfl (s_X_greatestDivisor_34 K _ _  h)
      · refine gk_iload_n (pc := 18) K d_X_greatestDivisor_18 rfl ?_
        refine gk_iload_n (pc := 19) K d_X_greatestDivisor_19 rfl ?_
        refine gk_irem (pc := 20) K d_X_greatestDivisor_20 h (fun v1 h => ?_)
        refine gk_istore (lv2 := [(5, .int v1), (2, .int a2), (3, .int a3), (4, .int a4)]) (pc := 21) K d_X_greatestDivisor_21 (by decide) rfl ?_
        refine gk_iload_n (pc := 23) K d_X_greatestDivisor_23 rfl ?_
        refine gk_istore_n (lv2 := [(3, .int a2), (5, .int v1), (2, .int a2), (4, .int a4)]) (pc := 24) K d_X_greatestDivisor_24 (by decide) rfl ?_
        refine gk_iload (pc := 25) K d_X_greatestDivisor_25 rfl ?_
        refine gk_istore_n (lv2 := [(2, .int v1), (3, .int a2), (5, .int v1), (4, .int a4)]) (pc := 27) K d_X_greatestDivisor_27 (by decide) rfl ?_
        refine gk_iinc2 (lv2 := [(4, .int (a4 + 1)), (2, .int v1), (3, .int a2), (5, .int v1)]) (pc := 28) K d_X_greatestDivisor_28 rfl kc_1 (by decide) rfl ?_
        refine gk_goto (tgt := 7) (pc := 31) K d_X_greatestDivisor_31 (by decide) ?_
        exact gk_sub [1, 2, 0] rfl (ih _ _ _ _  h)
noncomputable def f_X_greatestDivisor  (a0 : Int32) (a1 : Int32) (m0 : gk_M) : Option (Int32 × gk_M) :=
  f_X_greatestDivisor_7 gk_fv a0 a1 0 m0

theorem s_X_greatestDivisor_0 {z : gk_Z} (K : gk_F tx z me_X_greatestDivisor 2) {r : Int32} {mem2 : gk_M} : ∀ a0 a1 m0, f_X_greatestDivisor a0 a1 m0 = some (r, mem2) → gk_G tx z me_X_greatestDivisor (gk_R tx z (some (.int r)) mem2) m0 [(0, .int a0), (1, .int a1)] [] 0 := by
  intro a0 a1 m0  h
  unfold f_X_greatestDivisor at h
  refine gk_iload_n (pc := 0) K d_X_greatestDivisor_0 rfl ?_
  refine gk_istore_n (lv2 := [(2, .int a0), (0, .int a0), (1, .int a1)]) (pc := 1) K d_X_greatestDivisor_1 (by decide) rfl ?_
  refine gk_iload_n (pc := 2) K d_X_greatestDivisor_2 rfl ?_
  refine gk_istore_n (lv2 := [(3, .int a1), (2, .int a0), (0, .int a0), (1, .int a1)]) (pc := 3) K d_X_greatestDivisor_3 (by decide) rfl ?_
  refine gk_iconst (pc := 4) K d_X_greatestDivisor_4 kc_0 ?_
  refine gk_istore (lv2 := [(4, .int 0), (3, .int a1), (2, .int a0), (0, .int a0), (1, .int a1)]) (pc := 5) K d_X_greatestDivisor_5 (by decide) rfl ?_
  exact gk_sub [2, 1, 0] rfl (s_X_greatestDivisor_7 K _ _ _ _ _  h)
theorem s_X_greatestDivisor {l : Launch} {u : gk_U} (hD : gk_D tx u) {a0 : Int32} {a1 : Int32} {m0 mem2 : gk_M} {r : Int32} (h : f_X_greatestDivisor a0 a1 m0 = some (r, mem2)) : gk_C tx l u me_X_greatestDivisor 2 [.int a0, .int a1] m0 (some (.int r)) mem2 :=
  gk_enter hD mc_X_greatestDivisor (Nat.le_of_ble_eq_true rfl) rfl (fun z _ _ K => s_X_greatestDivisor_0 K _ _ _  h)
theorem d_X_guilty_0 : decode me_X_guilty.2.1 0 = .ok (.aload_n 0, 1) := by decide +kernel
theorem d_X_guilty_1 : decode me_X_guilty.2.1 1 = .ok (.iload_n 1, 1) := by decide +kernel
theorem d_X_guilty_2 : decode me_X_guilty.2.1 2 = .ok (.invokevirtual 177, 3) := by decide +kernel
theorem d_X_guilty_5 : decode me_X_guilty.2.1 5 = .ok (.ifCond .eq 19, 3) := by decide +kernel
theorem d_X_guilty_8 : decode me_X_guilty.2.1 8 = .ok (.aload_n 0, 1) := by decide +kernel
theorem d_X_guilty_9 : decode me_X_guilty.2.1 9 = .ok (.iload_n 2, 1) := by decide +kernel
theorem d_X_guilty_10 : decode me_X_guilty.2.1 10 = .ok (.invokevirtual 170, 3) := by decide +kernel
theorem d_X_guilty_13 : decode me_X_guilty.2.1 13 = .ok (.ifCond .eq 11, 3) := by decide +kernel
theorem d_X_guilty_16 : decode me_X_guilty.2.1 16 = .ok (.iload_n 3, 1) := by decide +kernel
theorem d_X_guilty_17 : decode me_X_guilty.2.1 17 = .ok (.iconst 1, 1) := by decide +kernel
theorem d_X_guilty_18 : decode me_X_guilty.2.1 18 = .ok (.invokestatic 180, 3) := by decide +kernel
theorem d_X_guilty_21 : decode me_X_guilty.2.1 21 = .ok (.ifCond .ne 5, 3) := by decide +kernel
theorem d_X_guilty_24 : decode me_X_guilty.2.1 24 = .ok (.iconst (-1), 1) := by decide +kernel
theorem d_X_guilty_25 : decode me_X_guilty.2.1 25 = .ok (.ireturn, 1) := by decide +kernel
theorem d_X_guilty_26 : decode me_X_guilty.2.1 26 = .ok (.iload_n 1, 1) := by decide +kernel
theorem d_X_guilty_27 : decode me_X_guilty.2.1 27 = .ok (.bipush 10, 2) := by decide +kernel
theorem d_X_guilty_29 : decode me_X_guilty.2.1 29 = .ok (.idiv, 1) := by decide +kernel
theorem d_X_guilty_30 : decode me_X_guilty.2.1 30 = .ok (.istore 4, 2) := by decide +kernel
theorem d_X_guilty_32 : decode me_X_guilty.2.1 32 = .ok (.iload_n 1, 1) := by decide +kernel
theorem d_X_guilty_33 : decode me_X_guilty.2.1 33 = .ok (.bipush 10, 2) := by decide +kernel
theorem d_X_guilty_35 : decode me_X_guilty.2.1 35 = .ok (.irem, 1) := by decide +kernel
theorem d_X_guilty_36 : decode me_X_guilty.2.1 36 = .ok (.istore 5, 2) := by decide +kernel
theorem d_X_guilty_38 : decode me_X_guilty.2.1 38 = .ok (.aload_n 0, 1) := by decide +kernel
theorem d_X_guilty_39 : decode me_X_guilty.2.1 39 = .ok (.getfield 28, 3) := by decide +kernel
theorem d_X_guilty_42 : decode me_X_guilty.2.1 42 = .ok (.aload_n 0, 1) := by decide +kernel
theorem d_X_guilty_43 : decode me_X_guilty.2.1 43 = .ok (.getfield 28, 3) := by decide +kernel
theorem d_X_guilty_46 : decode me_X_guilty.2.1 46 = .ok (.iload 4, 2) := by decide +kernel
theorem d_X_guilty_48 : decode me_X_guilty.2.1 48 = .ok (.iload 5, 2) := by decide +kernel
theorem d_X_guilty_50 : decode me_X_guilty.2.1 50 = .ok (.invokevirtual 113, 3) := by decide +kernel
theorem d_X_guilty_53 : decode me_X_guilty.2.1 53 = .ok (.aload_n 0, 1) := by decide +kernel
theorem d_X_guilty_54 : decode me_X_guilty.2.1 54 = .ok (.getfield 28, 3) := by decide +kernel
theorem d_X_guilty_57 : decode me_X_guilty.2.1 57 = .ok (.iload 4, 2) := by decide +kernel
theorem d_X_guilty_59 : decode me_X_guilty.2.1 59 = .ok (.iload 5, 2) := by decide +kernel
theorem d_X_guilty_61 : decode me_X_guilty.2.1 61 = .ok (.iconst 1, 1) := by decide +kernel
theorem d_X_guilty_62 : decode me_X_guilty.2.1 62 = .ok (.iadd, 1) := by decide +kernel
theorem d_X_guilty_63 : decode me_X_guilty.2.1 63 = .ok (.invokevirtual 113, 3) := by decide +kernel
theorem d_X_guilty_66 : decode me_X_guilty.2.1 66 = .ok (.iload 4, 2) := by decide +kernel
theorem d_X_guilty_68 : decode me_X_guilty.2.1 68 = .ok (.iload_n 2, 1) := by decide +kernel
theorem d_X_guilty_69 : decode me_X_guilty.2.1 69 = .ok (.bipush 10, 2) := by decide +kernel
theorem d_X_guilty_71 : decode me_X_guilty.2.1 71 = .ok (.idiv, 1) := by decide +kernel
theorem d_X_guilty_72 : decode me_X_guilty.2.1 72 = .ok (.iload_n 2, 1) := by decide +kernel
theorem d_X_guilty_73 : decode me_X_guilty.2.1 73 = .ok (.bipush 10, 2) := by decide +kernel
theorem d_X_guilty_75 : decode me_X_guilty.2.1 75 = .ok (.irem, 1) := by decide +kernel
theorem d_X_guilty_76 : decode me_X_guilty.2.1 76 = .ok (.invokevirtual 183, 3) := by decide +kernel
theorem d_X_guilty_79 : decode me_X_guilty.2.1 79 = .ok (.istore 6, 2) := by decide +kernel
theorem d_X_guilty_81 : decode me_X_guilty.2.1 81 = .ok (.iload 6, 2) := by decide +kernel
theorem d_X_guilty_83 : decode me_X_guilty.2.1 83 = .ok (.iconst (-1), 1) := by decide +kernel
theorem d_X_guilty_84 : decode me_X_guilty.2.1 84 = .ok (.if_icmp .ne 6, 3) := by decide +kernel
theorem d_X_guilty_87 : decode me_X_guilty.2.1 87 = .ok (.bipush (-2), 2) := by decide +kernel
theorem d_X_guilty_89 : decode me_X_guilty.2.1 89 = .ok (.ireturn, 1) := by decide +kernel
theorem d_X_guilty_90 : decode me_X_guilty.2.1 90 = .ok (.iload 6, 2) := by decide +kernel
theorem d_X_guilty_92 : decode me_X_guilty.2.1 92 = .ok (.sipush 4096, 3) := by decide +kernel
theorem d_X_guilty_95 : decode me_X_guilty.2.1 95 = .ok (.idiv, 1) := by decide +kernel
theorem d_X_guilty_96 : decode me_X_guilty.2.1 96 = .ok (.istore 7, 2) := by decide +kernel
theorem d_X_guilty_98 : decode me_X_guilty.2.1 98 = .ok (.iload 6, 2) := by decide +kernel
theorem d_X_guilty_100 : decode me_X_guilty.2.1 100 = .ok (.sipush 4096, 3) := by decide +kernel
theorem d_X_guilty_103 : decode me_X_guilty.2.1 103 = .ok (.irem, 1) := by decide +kernel
theorem d_X_guilty_104 : decode me_X_guilty.2.1 104 = .ok (.istore 8, 2) := by decide +kernel
theorem d_X_guilty_106 : decode me_X_guilty.2.1 106 = .ok (.iload_n 3, 1) := by decide +kernel
theorem d_X_guilty_107 : decode me_X_guilty.2.1 107 = .ok (.ifCond .ne 8, 3) := by decide +kernel
theorem d_X_guilty_110 : decode me_X_guilty.2.1 110 = .ok (.iload 7, 2) := by decide +kernel
theorem d_X_guilty_112 : decode me_X_guilty.2.1 112 = .ok (.goto 5, 3) := by decide +kernel
theorem d_X_guilty_115 : decode me_X_guilty.2.1 115 = .ok (.iload 8, 2) := by decide +kernel
theorem d_X_guilty_117 : decode me_X_guilty.2.1 117 = .ok (.iload 7, 2) := by decide +kernel
theorem d_X_guilty_119 : decode me_X_guilty.2.1 119 = .ok (.iload 8, 2) := by decide +kernel
theorem d_X_guilty_121 : decode me_X_guilty.2.1 121 = .ok (.invokestatic 187, 3) := by decide +kernel
theorem d_X_guilty_124 : decode me_X_guilty.2.1 124 = .ok (.idiv, 1) := by decide +kernel
theorem d_X_guilty_125 : decode me_X_guilty.2.1 125 = .ok (.ireturn, 1) := by decide +kernel
noncomputable def f_X_guilty_117  (a7 : Int32) (a8 : Int32) (s0 : Int32) (m0 : gk_M) : Option (Int32 × gk_M) :=
  gk_bi (f_X_greatestDivisor a7 a8 m0) fun v2 m1 =>
  gk_di s0 v2 fun v3 =>
  some (v3, m1)

theorem s_X_guilty_117 {z : gk_Z} (K : gk_F tx z me_X_guilty 6) {r : Int32} {mem2 : gk_M} : ∀ a7 a8 s0 m0, f_X_guilty_117 a7 a8 s0 m0 = some (r, mem2) → gk_G tx z me_X_guilty (gk_R tx z (some (.int r)) mem2) m0 [(7, .int a7), (8, .int a8)] [.int s0] 117 := by
  intro a7 a8 s0 m0  h
  unfold f_X_guilty_117 at h
  refine gk_iload (pc := 117) K d_X_guilty_117 rfl ?_
  refine gk_iload (pc := 119) K d_X_guilty_119 rfl ?_
  obtain ⟨v2, m1, em1, h⟩ := gk_bi_some h
  refine gk_cSi (As := [.int a7, .int a8]) (pc := 121) K d_X_guilty_121 ms_X_187 mc_X_greatestDivisor rfl (s_X_greatestDivisor (gk_FD K)  em1) (by decide) rfl (Nat.le_of_ble_eq_true rfl) ?_
  refine gk_idiv (pc := 124) K d_X_guilty_124 h (fun v3 h => ?_)
  exact gk_iret (pc := 125) K d_X_guilty_125 rfl h
noncomputable def f_X_guilty  (a1 : Int32) (a2 : Int32) (a3 : Int32) (m0 : gk_M) : Option (Int32 × gk_M) :=
  gk_bi (f_X_isStretch a1 m0) fun v2 m1 =>
  if v2 = 0 then
    some ((-1), m1)
  else
    gk_bi (f_X_isPair a2 m1) fun v4 m3 =>
    if v4 = 0 then
      some ((-1), m3)
    else
      gk_bi (f_X_isChoice a3 1 m3) fun v6 m5 =>
      if ¬ v6 = 0 then
        gk_let (a1 / 10) fun v7 =>
        gk_let (gk_rem a1 10) fun v8 =>
        gk_bi (f_Plain_cornerAt v7 v8 m5) fun v10 m9 =>
        gk_bi (f_Plain_cornerAt v7 (v8 + 1) m9) fun v12 m11 =>
        gk_bi (f_Plain_guiltBetween v10 v12 v7 (a2 / 10) (gk_rem a2 10) m11) fun v14 m13 =>
        if ¬ v14 = (-1) then
          gk_let (v14 / 4096) fun v15 =>
          gk_let (gk_rem v14 4096) fun v16 =>
          if ¬ a3 = 0 then
            f_X_guilty_117 v15 v16 v16 m13
          else
            f_X_guilty_117 v15 v16 v15 m13
        else
          some ((-2), m13)
      else
        some ((-1), m5)

theorem s_X_guilty_0 {z : gk_Z} (K : gk_F tx z me_X_guilty 6) {r : Int32} {mem2 : gk_M} : ∀ a1 a2 a3 m0, f_X_guilty a1 a2 a3 m0 = some (r, mem2) → gk_G tx z me_X_guilty (gk_R tx z (some (.int r)) mem2) m0 [(0, .ref 0), (1, .int a1), (2, .int a2), (3, .int a3)] [] 0 := by
  intro a1 a2 a3 m0  h
  unfold f_X_guilty at h
  refine gk_aload_n (pc := 0) K d_X_guilty_0 rfl ?_
  refine gk_iload_n (pc := 1) K d_X_guilty_1 rfl ?_
  obtain ⟨v2, m1, em1, h⟩ := gk_bi_some h
  refine gk_cVi (As := [.int a1]) (pc := 2) K d_X_guilty_2 mv_X_177 mc_X_isStretch rfl tx_0 cl_ok9.1 (s_X_isStretch (gk_FD K)  em1) (by decide) rfl (Nat.le_of_ble_eq_true rfl) ?_
  refine gk_if_eq (tgt := 24) (pc := 5) K d_X_guilty_5 (by decide) h (fun h => ?_) (fun h => ?_)
  · refine gk_iconst (pc := 24) K d_X_guilty_24 kc_m1 ?_
    exact gk_iret (pc := 25) K d_X_guilty_25 rfl h
  · refine gk_aload_n (pc := 8) K d_X_guilty_8 rfl ?_
    refine gk_iload_n (pc := 9) K d_X_guilty_9 rfl ?_
    obtain ⟨v4, m3, em3, h⟩ := gk_bi_some h
    refine gk_cVi (As := [.int a2]) (pc := 10) K d_X_guilty_10 mv_X_170 mc_X_isPair rfl tx_0 cl_ok9.1 (s_X_isPair (gk_FD K)  em3) (by decide) rfl (Nat.le_of_ble_eq_true rfl) ?_
    refine gk_if_eq (tgt := 24) (pc := 13) K d_X_guilty_13 (by decide) h (fun h => ?_) (fun h => ?_)
    · refine gk_iconst (pc := 24) K d_X_guilty_24 kc_m1 ?_
      exact gk_iret (pc := 25) K d_X_guilty_25 rfl h
    · refine gk_iload_n (pc := 16) K d_X_guilty_16 rfl ?_
      refine gk_iconst (pc := 17) K d_X_guilty_17 kc_1 ?_
      obtain ⟨v6, m5, em5, h⟩ := gk_bi_some h
      refine gk_cSi (As := [.int a3, .int 1]) (pc := 18) K d_X_guilty_18 ms_X_180 mc_X_isChoice rfl (s_X_isChoice (gk_FD K)  em5) (by decide) rfl (Nat.le_of_ble_eq_true rfl) ?_
      refine gk_if_ne (tgt := 26) (pc := 21) K d_X_guilty_21 (by decide) h (fun h => ?_) (fun h => ?_)
      · refine gk_iload_n (pc := 26) K d_X_guilty_26 rfl ?_
        refine gk_bipush (pc := 27) K d_X_guilty_27 kb_10 ?_
        refine gk_idivc2 (pc := 29) K d_X_guilty_29 (by decide) ?_
        refine gk_topi h (fun v7 h => ?_)
        refine gk_istore (lv2 := [(4, .int v7), (0, .ref 0), (1, .int a1), (2, .int a2), (3, .int a3)]) (pc := 30) K d_X_guilty_30 (by decide) rfl ?_
        refine gk_iload_n (pc := 32) K d_X_guilty_32 rfl ?_
        refine gk_bipush (pc := 33) K d_X_guilty_33 kb_10 ?_
        refine gk_iremc2 (pc := 35) K d_X_guilty_35 (by decide) ?_
        refine gk_topi h (fun v8 h => ?_)
        refine gk_istore (lv2 := [(5, .int v8), (4, .int v7), (0, .ref 0), (1, .int a1), (2, .int a2), (3, .int a3)]) (pc := 36) K d_X_guilty_36 (by decide) rfl ?_
        refine gk_aload_n (pc := 38) K d_X_guilty_38 rfl ?_
        refine gk_get (pc := 39) K d_X_guilty_39 fl_X_28 tx_0 rfl rfl ?_
        refine gk_aload_n (pc := 42) K d_X_guilty_42 rfl ?_
        refine gk_get (pc := 43) K d_X_guilty_43 fl_X_28 tx_0 rfl rfl ?_
        refine gk_iload (pc := 46) K d_X_guilty_46 rfl ?_
        refine gk_iload (pc := 48) K d_X_guilty_48 rfl ?_
        obtain ⟨v10, m9, em9, h⟩ := gk_bi_some h
        refine gk_cVi (As := [.int v7, .int v8]) (pc := 50) K d_X_guilty_50 mv_X_113 mc_Plain_cornerAt rfl tx_7 cl_ok2.1 (s_Plain_cornerAt (gk_FD K)  em9) (by decide) rfl (Nat.le_of_ble_eq_true rfl) ?_
        refine gk_aload_n (pc := 53) K d_X_guilty_53 rfl ?_
        refine gk_get (pc := 54) K d_X_guilty_54 fl_X_28 tx_0 rfl rfl ?_
        refine gk_iload (pc := 57) K d_X_guilty_57 rfl ?_
        refine gk_iload (pc := 59) K d_X_guilty_59 rfl ?_
        refine gk_iconst (pc := 61) K d_X_guilty_61 kc_1 ?_
        refine gk_iadd (pc := 62) K d_X_guilty_62 ?_
        obtain ⟨v12, m11, em11, h⟩ := gk_bi_some h
        refine gk_cVi (As := [.int v7, .int (v8 + 1)]) (pc := 63) K d_X_guilty_63 mv_X_113 mc_Plain_cornerAt rfl tx_7 cl_ok2.1 (s_Plain_cornerAt (gk_FD K)  em11) (by decide) rfl (Nat.le_of_ble_eq_true rfl) ?_
        refine gk_iload (pc := 66) K d_X_guilty_66 rfl ?_
        refine gk_iload_n (pc := 68) K d_X_guilty_68 rfl ?_
        refine gk_bipush (pc := 69) K d_X_guilty_69 kb_10 ?_
        refine gk_idivc2 (pc := 71) K d_X_guilty_71 (by decide) ?_
        refine gk_iload_n (pc := 72) K d_X_guilty_72 rfl ?_
        refine gk_bipush (pc := 73) K d_X_guilty_73 kb_10 ?_
        refine gk_iremc2 (pc := 75) K d_X_guilty_75 (by decide) ?_
        obtain ⟨v14, m13, em13, h⟩ := gk_bi_some h
        refine gk_cVi (As := [.int v10, .int v12, .int v7, .int (a2 / 10), .int (gk_rem a2 10)]) (pc := 76) K d_X_guilty_76 mv_X_183 mc_Plain_guiltBetween rfl tx_7 cl_ok2.1 (s_Plain_guiltBetween (gk_FD K)  em13) (by decide) rfl (Nat.le_of_ble_eq_true rfl) ?_
        refine gk_istore (lv2 := [(6, .int v14), (5, .int v8), (4, .int v7), (0, .ref 0), (1, .int a1), (2, .int a2), (3, .int a3)]) (pc := 79) K d_X_guilty_79 (by decide) rfl ?_
        refine gk_iload (pc := 81) K d_X_guilty_81 rfl ?_
        refine gk_iconst (pc := 83) K d_X_guilty_83 kc_m1 ?_
        refine gk_ic_ne (tgt := 90) (pc := 84) K d_X_guilty_84 (by decide) h (fun h => ?_) (fun h => ?_)
        · refine gk_iload (pc := 90) K d_X_guilty_90 rfl ?_
          refine gk_sipush (pc := 92) K d_X_guilty_92 ks_4096 ?_
          refine gk_idivc2 (pc := 95) K d_X_guilty_95 (by decide) ?_
          refine gk_topi h (fun v15 h => ?_)
          refine gk_istore (lv2 := [(7, .int v15), (6, .int v14), (5, .int v8), (4, .int v7), (0, .ref 0), (1, .int a1), (2, .int a2), (3, .int a3)]) (pc := 96) K d_X_guilty_96 (by decide) rfl ?_
          refine gk_iload (pc := 98) K d_X_guilty_98 rfl ?_
          refine gk_sipush (pc := 100) K d_X_guilty_100 ks_4096 ?_
          refine gk_iremc2 (pc := 103) K d_X_guilty_103 (by decide) ?_
          refine gk_topi h (fun v16 h => ?_)
          refine gk_istore (lv2 := [(8, .int v16), (7, .int v15), (6, .int v14), (5, .int v8), (4, .int v7), (0, .ref 0), (1, .int a1), (2, .int a2), (3, .int a3)]) (pc := 104) K d_X_guilty_104 (by decide) rfl ?_
          refine gk_iload_n (pc := 106) K d_X_guilty_106 rfl ?_
          refine gk_if_ne (tgt := 115) (pc := 107) K d_X_guilty_107 (by decide) h (fun h => ?_) (fun h => ?_)
          · refine gk_iload (pc := 115) K d_X_guilty_115 rfl ?_
            exact gk_sub [1, 0] rfl (s_X_guilty_117 K _ _ _ _  h)
          · refine gk_iload (pc := 110) K d_X_guilty_110 rfl ?_
            refine gk_goto (tgt := 117) (pc := 112) K d_X_guilty_112 (by decide) ?_
            exact gk_sub [1, 0] rfl (s_X_guilty_117 K _ _ _ _  h)
        · refine gk_bipush (pc := 87) K d_X_guilty_87 kb_m2 ?_
          exact gk_iret (pc := 89) K d_X_guilty_89 rfl h
      · refine gk_iconst (pc := 24) K d_X_guilty_24 kc_m1 ?_
        exact gk_iret (pc := 25) K d_X_guilty_25 rfl h
theorem s_X_guilty {l : Launch} {u : gk_U} (hD : gk_D tx u) {a1 : Int32} {a2 : Int32} {a3 : Int32} {m0 mem2 : gk_M} {r : Int32} (h : f_X_guilty a1 a2 a3 m0 = some (r, mem2)) : gk_C tx l u me_X_guilty 6 [.ref 0, .int a1, .int a2, .int a3] m0 (some (.int r)) mem2 :=
  gk_enter hD mc_X_guilty (Nat.le_of_ble_eq_true rfl) rfl (fun z _ _ K => s_X_guilty_0 K _ _ _ _  h)
