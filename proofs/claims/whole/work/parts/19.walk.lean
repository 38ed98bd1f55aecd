theorem d_M_inLine_0 : decode me_M_inLine.2.1 0 = .ok (.aload_n 0, 1) := by decide +kernel
theorem d_M_inLine_1 : decode me_M_inLine.2.1 1 = .ok (.lload_n 1, 1) := by decide +kernel
theorem d_M_inLine_2 : decode me_M_inLine.2.1 2 = .ok (.lload_n 3, 1) := by decide +kernel
theorem d_M_inLine_3 : decode me_M_inLine.2.1 3 = .ok (.lload 5, 2) := by decide +kernel
theorem d_M_inLine_5 : decode me_M_inLine.2.1 5 = .ok (.iload 7, 2) := by decide +kernel
theorem d_M_inLine_7 : decode me_M_inLine.2.1 7 = .ok (.iload 8, 2) := by decide +kernel
theorem d_M_inLine_9 : decode me_M_inLine.2.1 9 = .ok (.invokevirtual 235, 3) := by decide +kernel
theorem d_M_inLine_12 : decode me_M_inLine.2.1 12 = .ok (.ifCond .eq 29, 3) := by decide +kernel
theorem d_M_inLine_15 : decode me_M_inLine.2.1 15 = .ok (.aload_n 0, 1) := by decide +kernel
theorem d_M_inLine_16 : decode me_M_inLine.2.1 16 = .ok (.lload_n 1, 1) := by decide +kernel
theorem d_M_inLine_17 : decode me_M_inLine.2.1 17 = .ok (.lload_n 3, 1) := by decide +kernel
theorem d_M_inLine_18 : decode me_M_inLine.2.1 18 = .ok (.lload 5, 2) := by decide +kernel
theorem d_M_inLine_20 : decode me_M_inLine.2.1 20 = .ok (.iload 7, 2) := by decide +kernel
theorem d_M_inLine_22 : decode me_M_inLine.2.1 22 = .ok (.invokevirtual 239, 3) := by decide +kernel
theorem d_M_inLine_25 : decode me_M_inLine.2.1 25 = .ok (.ifCond .ne 16, 3) := by decide +kernel
theorem d_M_inLine_28 : decode me_M_inLine.2.1 28 = .ok (.aload_n 0, 1) := by decide +kernel
theorem d_M_inLine_29 : decode me_M_inLine.2.1 29 = .ok (.lload_n 1, 1) := by decide +kernel
theorem d_M_inLine_30 : decode me_M_inLine.2.1 30 = .ok (.lload_n 3, 1) := by decide +kernel
theorem d_M_inLine_31 : decode me_M_inLine.2.1 31 = .ok (.lload 5, 2) := by decide +kernel
theorem d_M_inLine_33 : decode me_M_inLine.2.1 33 = .ok (.iload 8, 2) := by decide +kernel
theorem d_M_inLine_35 : decode me_M_inLine.2.1 35 = .ok (.invokevirtual 239, 3) := by decide +kernel
theorem d_M_inLine_38 : decode me_M_inLine.2.1 38 = .ok (.ifCond .eq 5, 3) := by decide +kernel
theorem d_M_inLine_41 : decode me_M_inLine.2.1 41 = .ok (.iconst 0, 1) := by decide +kernel
theorem d_M_inLine_42 : decode me_M_inLine.2.1 42 = .ok (.ireturn, 1) := by decide +kernel
theorem d_M_inLine_43 : decode me_M_inLine.2.1 43 = .ok (.aload_n 0, 1) := by decide +kernel
theorem d_M_inLine_44 : decode me_M_inLine.2.1 44 = .ok (.lload_n 1, 1) := by decide +kernel
theorem d_M_inLine_45 : decode me_M_inLine.2.1 45 = .ok (.lload_n 3, 1) := by decide +kernel
theorem d_M_inLine_46 : decode me_M_inLine.2.1 46 = .ok (.lload 5, 2) := by decide +kernel
theorem d_M_inLine_48 : decode me_M_inLine.2.1 48 = .ok (.iload 7, 2) := by decide +kernel
theorem d_M_inLine_50 : decode me_M_inLine.2.1 50 = .ok (.invokevirtual 243, 3) := by decide +kernel
theorem d_M_inLine_53 : decode me_M_inLine.2.1 53 = .ok (.aload_n 0, 1) := by decide +kernel
theorem d_M_inLine_54 : decode me_M_inLine.2.1 54 = .ok (.lload_n 1, 1) := by decide +kernel
theorem d_M_inLine_55 : decode me_M_inLine.2.1 55 = .ok (.lload_n 3, 1) := by decide +kernel
theorem d_M_inLine_56 : decode me_M_inLine.2.1 56 = .ok (.lload 5, 2) := by decide +kernel
theorem d_M_inLine_58 : decode me_M_inLine.2.1 58 = .ok (.iload 8, 2) := by decide +kernel
theorem d_M_inLine_60 : decode me_M_inLine.2.1 60 = .ok (.invokevirtual 243, 3) := by decide +kernel
theorem d_M_inLine_63 : decode me_M_inLine.2.1 63 = .ok (.lcmp, 1) := by decide +kernel
theorem d_M_inLine_64 : decode me_M_inLine.2.1 64 = .ok (.ifCond .ge 7, 3) := by decide +kernel
theorem d_M_inLine_67 : decode me_M_inLine.2.1 67 = .ok (.iconst 1, 1) := by decide +kernel
theorem d_M_inLine_68 : decode me_M_inLine.2.1 68 = .ok (.goto 4, 3) := by decide +kernel
theorem d_M_inLine_71 : decode me_M_inLine.2.1 71 = .ok (.iconst 0, 1) := by decide +kernel
theorem d_M_inLine_72 : decode me_M_inLine.2.1 72 = .ok (.istore 10, 2) := by decide +kernel
theorem d_M_inLine_74 : decode me_M_inLine.2.1 74 = .ok (.aload_n 0, 1) := by decide +kernel
theorem d_M_inLine_75 : decode me_M_inLine.2.1 75 = .ok (.iload 10, 2) := by decide +kernel
theorem d_M_inLine_77 : decode me_M_inLine.2.1 77 = .ok (.ifCond .eq 8, 3) := by decide +kernel
theorem d_M_inLine_80 : decode me_M_inLine.2.1 80 = .ok (.iload 7, 2) := by decide +kernel
theorem d_M_inLine_82 : decode me_M_inLine.2.1 82 = .ok (.goto 5, 3) := by decide +kernel
theorem d_M_inLine_85 : decode me_M_inLine.2.1 85 = .ok (.iload 8, 2) := by decide +kernel
theorem d_M_inLine_87 : decode me_M_inLine.2.1 87 = .ok (.iload 10, 2) := by decide +kernel
theorem d_M_inLine_89 : decode me_M_inLine.2.1 89 = .ok (.ifCond .eq 8, 3) := by decide +kernel
theorem d_M_inLine_92 : decode me_M_inLine.2.1 92 = .ok (.iload 8, 2) := by decide +kernel
theorem d_M_inLine_94 : decode me_M_inLine.2.1 94 = .ok (.goto 5, 3) := by decide +kernel
theorem d_M_inLine_97 : decode me_M_inLine.2.1 97 = .ok (.iload 7, 2) := by decide +kernel
theorem d_M_inLine_99 : decode me_M_inLine.2.1 99 = .ok (.iload 9, 2) := by decide +kernel
theorem d_M_inLine_101 : decode me_M_inLine.2.1 101 = .ok (.invokevirtual 247, 3) := by decide +kernel
theorem d_M_inLine_104 : decode me_M_inLine.2.1 104 = .ok (.ireturn, 1) := by decide +kernel
noncomputable def f_M_inLine_99  (a9 : Int32) (s1 : Int32) (s2 : Int32) (m0 : gk_M) : Option (Int32 × gk_M) :=
  gk_bi (f_M_counts s1 s2 a9 m0) fun v2 m1 =>
  gk_zz v2 (some (v2, m1))

theorem s_M_inLine_99 {z : gk_Z} (K : gk_F tm z me_M_inLine 66) {r : Int32} {mem2 : gk_M} : ∀ a9 s1 s2 m0, f_M_inLine_99 a9 s1 s2 m0 = some (r, mem2) → gk_G tm z me_M_inLine (gk_R tm z (some (.int r)) mem2) m0 [(9, .int a9)] [.int s2, .int s1, .ref 0] 99 := by
  intro a9 s1 s2 m0  h
  unfold f_M_inLine_99 at h
  refine gk_iload (pc := 99) K d_M_inLine_99 rfl ?_
  obtain ⟨v2, m1, em1, h⟩ := gk_bi_some h
  refine gk_cVi (As := [.int s1, .int s2, .int a9]) (pc := 101) K d_M_inLine_101 mv_M_247 mc_M_counts rfl tm_0 cl_ok10.1 (s_M_counts (gk_FD K)  em1) (by decide) rfl (Nat.le_of_ble_eq_true rfl) ?_
  exact gk_zret (pc := 104) K d_M_inLine_104 rfl h
noncomputable def f_M_inLine_87  (a7 : Int32) (a8 : Int32) (a9 : Int32) (a10 : Int32) (s1 : Int32) (m0 : gk_M) : Option (Int32 × gk_M) :=
  if a10 = 0 then
    f_M_inLine_99 a9 s1 a7 m0
  else
    f_M_inLine_99 a9 s1 a8 m0

theorem s_M_inLine_87 {z : gk_Z} (K : gk_F tm z me_M_inLine 66) {r : Int32} {mem2 : gk_M} : ∀ a7 a8 a9 a10 s1 m0, f_M_inLine_87 a7 a8 a9 a10 s1 m0 = some (r, mem2) → gk_G tm z me_M_inLine (gk_R tm z (some (.int r)) mem2) m0 [(7, .int a7), (8, .int a8), (9, .int a9), (10, .int a10)] [.int s1, .ref 0] 87 := by
  intro a7 a8 a9 a10 s1 m0  h
  unfold f_M_inLine_87 at h
  refine gk_iload (pc := 87) K d_M_inLine_87 rfl ?_
  refine gk_if_eq (tgt := 97) (pc := 89) K d_M_inLine_89 (by decide) h (fun h => ?_) (fun h => ?_)
  · refine gk_iload (pc := 97) K d_M_inLine_97 rfl ?_
    exact gk_sub [2] rfl (s_M_inLine_99 K _ _ _ _  h)
  · refine gk_iload (pc := 92) K d_M_inLine_92 rfl ?_
    refine gk_goto (tgt := 99) (pc := 94) K d_M_inLine_94 (by decide) ?_
    exact gk_sub [2] rfl (s_M_inLine_99 K _ _ _ _  h)
noncomputable def f_M_inLine_72  (a7 : Int32) (a8 : Int32) (a9 : Int32) (s0 : Int32) (m0 : gk_M) : Option (Int32 × gk_M) :=
  if s0 = 0 then
    f_M_inLine_87 a7 a8 a9 s0 a8 m0
  else
    f_M_inLine_87 a7 a8 a9 s0 a7 m0

theorem s_M_inLine_72 {z : gk_Z} (K : gk_F tm z me_M_inLine 66) {r : Int32} {mem2 : gk_M} : ∀ a7 a8 a9 s0 m0, f_M_inLine_72 a7 a8 a9 s0 m0 = some (r, mem2) → gk_G tm z me_M_inLine (gk_R tm z (some (.int r)) mem2) m0 [(0, .ref 0), (7, .int a7), (8, .int a8), (9, .int a9)] [.int s0] 72 := by
  intro a7 a8 a9 s0 m0  h
  unfold f_M_inLine_72 at h
  refine gk_istore (lv2 := [(10, .int s0), (0, .ref 0), (7, .int a7), (8, .int a8), (9, .int a9)]) (pc := 72) K d_M_inLine_72 (by decide) rfl ?_
  refine gk_aload_n (pc := 74) K d_M_inLine_74 rfl ?_
  refine gk_iload (pc := 75) K d_M_inLine_75 rfl ?_
  refine gk_if_eq (tgt := 85) (pc := 77) K d_M_inLine_77 (by decide) h (fun h => ?_) (fun h => ?_)
  · refine gk_iload (pc := 85) K d_M_inLine_85 rfl ?_
    exact gk_sub [2, 3, 4, 0] rfl (s_M_inLine_87 K _ _ _ _ _ _  h)
  · refine gk_iload (pc := 80) K d_M_inLine_80 rfl ?_
    refine gk_goto (tgt := 87) (pc := 82) K d_M_inLine_82 (by decide) ?_
    exact gk_sub [2, 3, 4, 0] rfl (s_M_inLine_87 K _ _ _ _ _ _  h)
noncomputable def f_M_inLine  (a1 : Int64) (a3 : Int64) (a5 : Int64) (a7 : Int32) (a8 : Int32) (a9 : Int32) (m0 : gk_M) : Option (Int32 × gk_M) :=
  gk_bi (f_M_isBehind a1 a3 a5 a7 a8 m0) fun v2 m1 =>
  if v2 = 0 then
    some (0, m1)
  else
    gk_bi (f_M_isStopped a1 a3 a5 a7 m1) fun v4 m3 =>
    if ¬ v4 = 0 then
      some (0, m3)
    else
      gk_bi (f_M_isStopped a1 a3 a5 a8 m3) fun v6 m5 =>
      if v6 = 0 then
        gk_bl (f_M_farOf a1 a3 a5 a7 m5) fun v8 m7 =>
        gk_bl (f_M_farOf a1 a3 a5 a8 m7) fun v10 m9 =>
        if v10 ≤ v8 then
          f_M_inLine_72 a7 a8 a9 0 m9
        else
          f_M_inLine_72 a7 a8 a9 1 m9
      else
        some (0, m5)

theorem s_M_inLine_0 {z : gk_Z} (K : gk_F tm z me_M_inLine 66) {r : Int32} {mem2 : gk_M} : ∀ a1 a3 a5 a7 a8 a9 m0, f_M_inLine a1 a3 a5 a7 a8 a9 m0 = some (r, mem2) → gk_G tm z me_M_inLine (gk_R tm z (some (.int r)) mem2) m0 [(0, .ref 0), (1, .long a1), (3, .long a3), (5, .long a5), (7, .int a7), (8, .int a8), (9, .int a9)] [] 0 := by
  intro a1 a3 a5 a7 a8 a9 m0  h
  unfold f_M_inLine at h
  refine gk_aload_n (pc := 0) K d_M_inLine_0 rfl ?_
  refine gk_lload_n (pc := 1) K d_M_inLine_1 rfl ?_
  refine gk_lload_n (pc := 2) K d_M_inLine_2 rfl ?_
  refine gk_lload (pc := 3) K d_M_inLine_3 rfl ?_
  refine gk_iload (pc := 5) K d_M_inLine_5 rfl ?_
  refine gk_iload (pc := 7) K d_M_inLine_7 rfl ?_
  obtain ⟨v2, m1, em1, h⟩ := gk_bi_some h
  refine gk_cVi (As := [.long a1, .long a3, .long a5, .int a7, .int a8]) (pc := 9) K d_M_inLine_9 mv_M_235 mc_M_isBehind rfl tm_0 cl_ok10.1 (s_M_isBehind (gk_FD K)  em1) (by decide) rfl (Nat.le_of_ble_eq_true rfl) ?_
  refine gk_if_eq (tgt := 41) (pc := 12) K d_M_inLine_12 (by decide) h (fun h => ?_) (fun h => ?_)
  · refine gk_iconst (pc := 41) K d_M_inLine_41 kc_0 ?_
    exact gk_zretc (pc := 42) K d_M_inLine_42 rfl (Or.inl rfl) h
  · refine gk_aload_n (pc := 15) K d_M_inLine_15 rfl ?_
    refine gk_lload_n (pc := 16) K d_M_inLine_16 rfl ?_
    refine gk_lload_n (pc := 17) K d_M_inLine_17 rfl ?_
    refine gk_lload (pc := 18) K d_M_inLine_18 rfl ?_
    refine gk_iload (pc := 20) K d_M_inLine_20 rfl ?_
    obtain ⟨v4, m3, em3, h⟩ := gk_bi_some h
    refine gk_cVi (As := [.long a1, .long a3, .long a5, .int a7]) (pc := 22) K d_M_inLine_22 mv_M_239 mc_M_isStopped rfl tm_0 cl_ok10.1 (s_M_isStopped (gk_FD K)  em3) (by decide) rfl (Nat.le_of_ble_eq_true rfl) ?_
    refine gk_if_ne (tgt := 41) (pc := 25) K d_M_inLine_25 (by decide) h (fun h => ?_) (fun h => ?_)
    · refine gk_iconst (pc := 41) K d_M_inLine_41 kc_0 ?_
      exact gk_zretc (pc := 42) K d_M_inLine_42 rfl (Or.inl rfl) h
    · refine gk_aload_n (pc := 28) K d_M_inLine_28 rfl ?_
      refine gk_lload_n (pc := 29) K d_M_inLine_29 rfl ?_
      refine gk_lload_n (pc := 30) K d_M_inLine_30 rfl ?_
      refine gk_lload (pc := 31) K d_M_inLine_31 rfl ?_
      refine gk_iload (pc := 33) K d_M_inLine_33 rfl ?_
      obtain ⟨v6, m5, em5, h⟩ := gk_bi_some h
      refine gk_cVi (As := [.long a1, .long a3, .long a5, .int a8]) (pc := 35) K d_M_inLine_35 mv_M_239 mc_M_isStopped rfl tm_0 cl_ok10.1 (s_M_isStopped (gk_FD K)  em5) (by decide) rfl (Nat.le_of_ble_eq_true rfl) ?_
      refine gk_if_eq (tgt := 43) (pc := 38) K d_M_inLine_38 (by decide) h (fun h => ?_) (fun h => ?_)
      · refine gk_aload_n (pc := 43) K d_M_inLine_43 rfl ?_
        refine gk_lload_n (pc := 44) K d_M_inLine_44 rfl ?_
        refine gk_lload_n (pc := 45) K d_M_inLine_45 rfl ?_
        refine gk_lload (pc := 46) K d_M_inLine_46 rfl ?_
        refine gk_iload (pc := 48) K d_M_inLine_48 rfl ?_
        obtain ⟨v8, m7, em7, h⟩ := gk_bl_some h
        refine gk_cVl (As := [.long a1, .long a3, .long a5, .int a7]) (pc := 50) K d_M_inLine_50 mv_M_243 mc_M_farOf rfl tm_0 cl_ok10.1 (s_M_farOf (gk_FD K)  em7) (by decide) rfl (Nat.le_of_ble_eq_true rfl) ?_
        refine gk_aload_n (pc := 53) K d_M_inLine_53 rfl ?_
        refine gk_lload_n (pc := 54) K d_M_inLine_54 rfl ?_
        refine gk_lload_n (pc := 55) K d_M_inLine_55 rfl ?_
        refine gk_lload (pc := 56) K d_M_inLine_56 rfl ?_
        refine gk_iload (pc := 58) K d_M_inLine_58 rfl ?_
        obtain ⟨v10, m9, em9, h⟩ := gk_bl_some h
        refine gk_cVl (As := [.long a1, .long a3, .long a5, .int a8]) (pc := 60) K d_M_inLine_60 mv_M_243 mc_M_farOf rfl tm_0 cl_ok10.1 (s_M_farOf (gk_FD K)  em9) (by decide) rfl (Nat.le_of_ble_eq_true rfl) ?_
        refine gk_lc_ge (tgt := 71) (pc := 63) K d_M_inLine_63 d_M_inLine_64 (by decide) h (fun h => ?_) (fun h => ?_)
        · refine gk_iconst (pc := 71) K d_M_inLine_71 kc_0 ?_
          exact gk_sub [0, 4, 5, 6] rfl (s_M_inLine_72 K _ _ _ _ _  h)
        · refine gk_iconst (pc := 67) K d_M_inLine_67 kc_1 ?_
          refine gk_goto (tgt := 72) (pc := 68) K d_M_inLine_68 (by decide) ?_
          exact gk_sub [0, 4, 5, 6] rfl (s_M_inLine_72 K _ _ _ _ _  h)
      · refine gk_iconst (pc := 41) K d_M_inLine_41 kc_0 ?_
        exact gk_zretc (pc := 42) K d_M_inLine_42 rfl (Or.inl rfl) h
theorem s_M_inLine {l : Launch} {u : gk_U} (hD : gk_D tm u) {a1 : Int64} {a3 : Int64} {a5 : Int64} {a7 : Int32} {a8 : Int32} {a9 : Int32} {m0 mem2 : gk_M} {r : Int32} (h : f_M_inLine a1 a3 a5 a7 a8 a9 m0 = some (r, mem2)) : gk_C tm l u me_M_inLine 66 [.ref 0, .long a1, .long a3, .long a5, .int a7, .int a8, .int a9] m0 (some (.int r)) mem2 :=
  gk_enter hD mc_M_inLine (Nat.le_of_ble_eq_true rfl) rfl (fun z _ _ K => s_M_inLine_0 K _ _ _ _ _ _ _  h)
theorem d_M_inLineAt_0 : decode me_M_inLineAt.2.1 0 = .ok (.aload_n 0, 1) := by decide +kernel
theorem d_M_inLineAt_1 : decode me_M_inLineAt.2.1 1 = .ok (.iload_n 1, 1) := by decide +kernel
theorem d_M_inLineAt_2 : decode me_M_inLineAt.2.1 2 = .ok (.bipush 30, 2) := by decide +kernel
theorem d_M_inLineAt_4 : decode me_M_inLineAt.2.1 4 = .ok (.irem, 1) := by decide +kernel
theorem d_M_inLineAt_5 : decode me_M_inLineAt.2.1 5 = .ok (.i2l, 1) := by decide +kernel
theorem d_M_inLineAt_6 : decode me_M_inLineAt.2.1 6 = .ok (.iload_n 1, 1) := by decide +kernel
theorem d_M_inLineAt_7 : decode me_M_inLineAt.2.1 7 = .ok (.bipush 30, 2) := by decide +kernel
theorem d_M_inLineAt_9 : decode me_M_inLineAt.2.1 9 = .ok (.idiv, 1) := by decide +kernel
theorem d_M_inLineAt_10 : decode me_M_inLineAt.2.1 10 = .ok (.i2l, 1) := by decide +kernel
theorem d_M_inLineAt_11 : decode me_M_inLineAt.2.1 11 = .ok (.lconst 1, 1) := by decide +kernel
theorem d_M_inLineAt_12 : decode me_M_inLineAt.2.1 12 = .ok (.iload_n 2, 1) := by decide +kernel
theorem d_M_inLineAt_13 : decode me_M_inLineAt.2.1 13 = .ok (.iload_n 3, 1) := by decide +kernel
theorem d_M_inLineAt_14 : decode me_M_inLineAt.2.1 14 = .ok (.iload 4, 2) := by decide +kernel
theorem d_M_inLineAt_16 : decode me_M_inLineAt.2.1 16 = .ok (.invokevirtual 251, 3) := by decide +kernel
theorem d_M_inLineAt_19 : decode me_M_inLineAt.2.1 19 = .ok (.ireturn, 1) := by decide +kernel
noncomputable def f_M_inLineAt  (a1 : Int32) (a2 : Int32) (a3 : Int32) (a4 : Int32) (m0 : gk_M) : Option (Int32 × gk_M) :=
  gk_bi (f_M_inLine (gk_rem a1 30).toInt64 (a1 / 30).toInt64 1 a2 a3 a4 m0) fun v2 m1 =>
  gk_zz v2 (some (v2, m1))

theorem s_M_inLineAt_0 {z : gk_Z} (K : gk_F tm z me_M_inLineAt 67) {r : Int32} {mem2 : gk_M} : ∀ a1 a2 a3 a4 m0, f_M_inLineAt a1 a2 a3 a4 m0 = some (r, mem2) → gk_G tm z me_M_inLineAt (gk_R tm z (some (.int r)) mem2) m0 [(0, .ref 0), (1, .int a1), (2, .int a2), (3, .int a3), (4, .int a4)] [] 0 := by
  intro a1 a2 a3 a4 m0  h
  unfold f_M_inLineAt at h
  refine gk_aload_n (pc := 0) K d_M_inLineAt_0 rfl ?_
  refine gk_iload_n (pc := 1) K d_M_inLineAt_1 rfl ?_
  refine gk_bipush (pc := 2) K d_M_inLineAt_2 kb_30 ?_
  refine gk_iremc2 (pc := 4) K d_M_inLineAt_4 (by decide) ?_
  refine gk_i2l (pc := 5) K d_M_inLineAt_5 ?_
  refine gk_iload_n (pc := 6) K d_M_inLineAt_6 rfl ?_
  refine gk_bipush (pc := 7) K d_M_inLineAt_7 kb_30 ?_
  refine gk_idivc2 (pc := 9) K d_M_inLineAt_9 (by decide) ?_
  refine gk_i2l (pc := 10) K d_M_inLineAt_10 ?_
  refine gk_lconst (pc := 11) K d_M_inLineAt_11 kl_1 ?_
  refine gk_iload_n (pc := 12) K d_M_inLineAt_12 rfl ?_
  refine gk_iload_n (pc := 13) K d_M_inLineAt_13 rfl ?_
  refine gk_iload (pc := 14) K d_M_inLineAt_14 rfl ?_
  obtain ⟨v2, m1, em1, h⟩ := gk_bi_some h
  refine gk_cVi (As := [.long (gk_rem a1 30).toInt64, .long (a1 / 30).toInt64, .long 1, .int a2, .int a3, .int a4]) (pc := 16) K d_M_inLineAt_16 mv_M_251 mc_M_inLine rfl tm_0 cl_ok10.1 (s_M_inLine (gk_FD K)  em1) (by decide) rfl (Nat.le_of_ble_eq_true rfl) ?_
  exact gk_zret (pc := 19) K d_M_inLineAt_19 rfl h
theorem s_M_inLineAt {l : Launch} {u : gk_U} (hD : gk_D tm u) {a1 : Int32} {a2 : Int32} {a3 : Int32} {a4 : Int32} {m0 mem2 : gk_M} {r : Int32} (h : f_M_inLineAt a1 a2 a3 a4 m0 = some (r, mem2)) : gk_C tm l u me_M_inLineAt 67 [.ref 0, .int a1, .int a2, .int a3, .int a4] m0 (some (.int r)) mem2 :=
  gk_enter hD mc_M_inLineAt (Nat.le_of_ble_eq_true rfl) rfl (fun z _ _ K => s_M_inLineAt_0 K _ _ _ _ _  h)
theorem d_M_line_0 : decode me_M_line.2.1 0 = .ok (.aload_n 0, 1) := by decide +kernel
theorem d_M_line_1 : decode me_M_line.2.1 1 = .ok (.iload_n 1, 1) := by decide +kernel
theorem d_M_line_2 : decode me_M_line.2.1 2 = .ok (.invokevirtual 255, 3) := by decide +kernel
theorem d_M_line_5 : decode me_M_line.2.1 5 = .ok (.ifCond .eq 22, 3) := by decide +kernel
theorem d_M_line_8 : decode me_M_line.2.1 8 = .ok (.iload_n 2, 1) := by decide +kernel
theorem d_M_line_9 : decode me_M_line.2.1 9 = .ok (.invokestatic 133, 3) := by decide +kernel
theorem d_M_line_12 : decode me_M_line.2.1 12 = .ok (.ifCond .eq 15, 3) := by decide +kernel
theorem d_M_line_15 : decode me_M_line.2.1 15 = .ok (.iload_n 3, 1) := by decide +kernel
theorem d_M_line_16 : decode me_M_line.2.1 16 = .ok (.i2l, 1) := by decide +kernel
theorem d_M_line_17 : decode me_M_line.2.1 17 = .ok (.lconst 0, 1) := by decide +kernel
theorem d_M_line_18 : decode me_M_line.2.1 18 = .ok (.ldc2_w 258, 3) := by decide +kernel
theorem d_M_line_21 : decode me_M_line.2.1 21 = .ok (.invokestatic 102, 3) := by decide +kernel
theorem d_M_line_24 : decode me_M_line.2.1 24 = .ok (.ifCond .ne 5, 3) := by decide +kernel
theorem d_M_line_27 : decode me_M_line.2.1 27 = .ok (.iconst (-1), 1) := by decide +kernel
theorem d_M_line_28 : decode me_M_line.2.1 28 = .ok (.ireturn, 1) := by decide +kernel
theorem d_M_line_29 : decode me_M_line.2.1 29 = .ok (.aload_n 0, 1) := by decide +kernel
theorem d_M_line_30 : decode me_M_line.2.1 30 = .ok (.iload_n 2, 1) := by decide +kernel
theorem d_M_line_31 : decode me_M_line.2.1 31 = .ok (.iload_n 1, 1) := by decide +kernel
theorem d_M_line_32 : decode me_M_line.2.1 32 = .ok (.bipush 10, 2) := by decide +kernel
theorem d_M_line_34 : decode me_M_line.2.1 34 = .ok (.idiv, 1) := by decide +kernel
theorem d_M_line_35 : decode me_M_line.2.1 35 = .ok (.iload_n 1, 1) := by decide +kernel
theorem d_M_line_36 : decode me_M_line.2.1 36 = .ok (.bipush 10, 2) := by decide +kernel
theorem d_M_line_38 : decode me_M_line.2.1 38 = .ok (.irem, 1) := by decide +kernel
theorem d_M_line_39 : decode me_M_line.2.1 39 = .ok (.iload_n 3, 1) := by decide +kernel
theorem d_M_line_40 : decode me_M_line.2.1 40 = .ok (.invokevirtual 260, 3) := by decide +kernel
theorem d_M_line_43 : decode me_M_line.2.1 43 = .ok (.ifCond .eq 7, 3) := by decide +kernel
theorem d_M_line_46 : decode me_M_line.2.1 46 = .ok (.iconst 1, 1) := by decide +kernel
theorem d_M_line_47 : decode me_M_line.2.1 47 = .ok (.goto 4, 3) := by decide +kernel
theorem d_M_line_50 : decode me_M_line.2.1 50 = .ok (.iconst 0, 1) := by decide +kernel
theorem d_M_line_51 : decode me_M_line.2.1 51 = .ok (.ireturn, 1) := by decide +kernel
noncomputable def f_M_line  (a1 : Int32) (a2 : Int32) (a3 : Int32) (m0 : gk_M) : Option (Int32 × gk_M) :=
  gk_bi (f_M_areTwo a1 m0) fun v2 m1 =>
  if v2 = 0 then
    some ((-1), m1)
  else
    gk_bi (f_M_isPoint a2 m1) fun v4 m3 =>
    if v4 = 0 then
      some ((-1), m3)
    else
      gk_bi (f_M_within a3.toInt64 0 4 m3) fun v6 m5 =>
      if ¬ v6 = 0 then
        gk_bi (f_M_inLineAt a2 (a1 / 10) (gk_rem a1 10) a3 m5) fun v8 m7 =>
        if v8 = 0 then
          some (0, m7)
        else
          some (1, m7)
      else
        some ((-1), m5)

theorem s_M_line_0 {z : gk_Z} (K : gk_F tm z me_M_line 68) {r : Int32} {mem2 : gk_M} : ∀ a1 a2 a3 m0, f_M_line a1 a2 a3 m0 = some (r, mem2) → gk_G tm z me_M_line (gk_R tm z (some (.int r)) mem2) m0 [(0, .ref 0), (1, .int a1), (2, .int a2), (3, .int a3)] [] 0 := by
  intro a1 a2 a3 m0  h
  unfold f_M_line at h
  refine gk_aload_n (pc := 0) K d_M_line_0 rfl ?_
  refine gk_iload_n (pc := 1) K d_M_line_1 rfl ?_
  obtain ⟨v2, m1, em1, h⟩ := gk_bi_some h
  refine gk_cVi (As := [.int a1]) (pc := 2) K d_M_line_2 mv_M_255 mc_M_areTwo rfl tm_0 cl_ok10.1 (s_M_areTwo (gk_FD K)  em1) (by decide) rfl (Nat.le_of_ble_eq_true rfl) ?_
  refine gk_if_eq (tgt := 27) (pc := 5) K d_M_line_5 (by decide) h (fun h => ?_) (fun h => ?_)
  · refine gk_iconst (pc := 27) K d_M_line_27 kc_m1 ?_
    exact gk_iret (pc := 28) K d_M_line_28 rfl h
  · refine gk_iload_n (pc := 8) K d_M_line_8 rfl ?_
    obtain ⟨v4, m3, em3, h⟩ := gk_bi_some h
    refine gk_cSi (As := [.int a2]) (pc := 9) K d_M_line_9 ms_M_133 mc_M_isPoint rfl (s_M_isPoint (gk_FD K)  em3) (by decide) rfl (Nat.le_of_ble_eq_true rfl) ?_
    refine gk_if_eq (tgt := 27) (pc := 12) K d_M_line_12 (by decide) h (fun h => ?_) (fun h => ?_)
    · refine gk_iconst (pc := 27) K d_M_line_27 kc_m1 ?_
      exact gk_iret (pc := 28) K d_M_line_28 rfl h
    · refine gk_iload_n (pc := 15) K d_M_line_15 rfl ?_
      refine gk_i2l (pc := 16) K d_M_line_16 ?_
      refine gk_lconst (pc := 17) K d_M_line_17 kl_0 ?_
      refine gk_ldc2 (pc := 18) K d_M_line_18 lc_M_258 ?_
      obtain ⟨v6, m5, em5, h⟩ := gk_bi_some h
      refine gk_cSi (As := [.long a3.toInt64, .long 0, .long 4]) (pc := 21) K d_M_line_21 ms_M_102 mc_M_within rfl (s_M_within (gk_FD K)  em5) (by decide) rfl (Nat.le_of_ble_eq_true rfl) ?_
      refine gk_if_ne (tgt := 29) (pc := 24) K d_M_line_24 (by decide) h (fun h => ?_) (fun h => ?_)
      · refine gk_aload_n (pc := 29) K d_M_line_29 rfl ?_
        refine gk_iload_n (pc := 30) K d_M_line_30 rfl ?_
        refine gk_iload_n (pc := 31) K d_M_line_31 rfl ?_
        refine gk_bipush (pc := 32) K d_M_line_32 kb_10 ?_
        refine gk_idivc2 (pc := 34) K d_M_line_34 (by decide) ?_
        refine gk_iload_n (pc := 35) K d_M_line_35 rfl ?_
        refine gk_bipush (pc := 36) K d_M_line_36 kb_10 ?_
        refine gk_iremc2 (pc := 38) K d_M_line_38 (by decide) ?_
        refine gk_iload_n (pc := 39) K d_M_line_39 rfl ?_
        obtain ⟨v8, m7, em7, h⟩ := gk_bi_some h
        refine gk_cVi (As := [.int a2, .int (a1 / 10), .int (gk_rem a1 10), .int a3]) (pc := 40) K d_M_line_40 mv_M_260 mc_M_inLineAt rfl tm_0 cl_ok10.1 (s_M_inLineAt (gk_FD K)  em7) (by decide) rfl (Nat.le_of_ble_eq_true rfl) ?_
        refine gk_if_eq (tgt := 50) (pc := 43) K d_M_line_43 (by decide) h (fun h => ?_) (fun h => ?_)
        · refine gk_iconst (pc := 50) K d_M_line_50 kc_0 ?_
          exact gk_iret (pc := 51) K d_M_line_51 rfl h
        · refine gk_iconst (pc := 46) K d_M_line_46 kc_1 ?_
          refine gk_goto (tgt := 51) (pc := 47) K d_M_line_47 (by decide) ?_
          exact gk_iret (pc := 51) K d_M_line_51 rfl h
      · refine gk_iconst (pc := 27) K d_M_line_27 kc_m1 ?_
        exact gk_iret (pc := 28) K d_M_line_28 rfl h
theorem s_M_line {l : Launch} {u : gk_U} (hD : gk_D tm u) {a1 : Int32} {a2 : Int32} {a3 : Int32} {m0 mem2 : gk_M} {r : Int32} (h : f_M_line a1 a2 a3 m0 = some (r, mem2)) : gk_C tm l u me_M_line 68 [.ref 0, .int a1, .int a2, .int a3] m0 (some (.int r)) mem2 :=
  gk_enter hD mc_M_line (Nat.le_of_ble_eq_true rfl) rfl (fun z _ _ K => s_M_line_0 K _ _ _ _  h)
theorem d_M_isStretch_0 : decode me_M_isStretch.2.1 0 = .ok (.iload_n 1, 1) := by decide +kernel
theorem d_M_isStretch_1 : decode me_M_isStretch.2.1 1 = .ok (.ifCond .lt 36, 3) := by decide +kernel
theorem d_M_isStretch_4 : decode me_M_isStretch.2.1 4 = .ok (.aload_n 0, 1) := by decide +kernel
theorem d_M_isStretch_5 : decode me_M_isStretch.2.1 5 = .ok (.iload_n 1, 1) := by decide +kernel
theorem d_M_isStretch_6 : decode me_M_isStretch.2.1 6 = .ok (.bipush 10, 2) := by decide +kernel
theorem d_M_isStretch_8 : decode me_M_isStretch.2.1 8 = .ok (.idiv, 1) := by decide +kernel
theorem d_M_isStretch_9 : decode me_M_isStretch.2.1 9 = .ok (.invokevirtual 136, 3) := by decide +kernel
theorem d_M_isStretch_12 : decode me_M_isStretch.2.1 12 = .ok (.ifCond .eq 25, 3) := by decide +kernel
theorem d_M_isStretch_15 : decode me_M_isStretch.2.1 15 = .ok (.iload_n 1, 1) := by decide +kernel
theorem d_M_isStretch_16 : decode me_M_isStretch.2.1 16 = .ok (.bipush 10, 2) := by decide +kernel
theorem d_M_isStretch_18 : decode me_M_isStretch.2.1 18 = .ok (.irem, 1) := by decide +kernel
theorem d_M_isStretch_19 : decode me_M_isStretch.2.1 19 = .ok (.aload_n 0, 1) := by decide +kernel
theorem d_M_isStretch_20 : decode me_M_isStretch.2.1 20 = .ok (.getfield 31, 3) := by decide +kernel
theorem d_M_isStretch_23 : decode me_M_isStretch.2.1 23 = .ok (.iload_n 1, 1) := by decide +kernel
theorem d_M_isStretch_24 : decode me_M_isStretch.2.1 24 = .ok (.bipush 10, 2) := by decide +kernel
theorem d_M_isStretch_26 : decode me_M_isStretch.2.1 26 = .ok (.idiv, 1) := by decide +kernel
theorem d_M_isStretch_27 : decode me_M_isStretch.2.1 27 = .ok (.iaload, 1) := by decide +kernel
theorem d_M_isStretch_28 : decode me_M_isStretch.2.1 28 = .ok (.iconst 1, 1) := by decide +kernel
theorem d_M_isStretch_29 : decode me_M_isStretch.2.1 29 = .ok (.isub, 1) := by decide +kernel
theorem d_M_isStretch_30 : decode me_M_isStretch.2.1 30 = .ok (.if_icmp .ge 7, 3) := by decide +kernel
theorem d_M_isStretch_33 : decode me_M_isStretch.2.1 33 = .ok (.iconst 1, 1) := by decide +kernel
theorem d_M_isStretch_34 : decode me_M_isStretch.2.1 34 = .ok (.goto 4, 3) := by decide +kernel
theorem d_M_isStretch_37 : decode me_M_isStretch.2.1 37 = .ok (.iconst 0, 1) := by decide +kernel
theorem d_M_isStretch_38 : decode me_M_isStretch.2.1 38 = .ok (.ireturn, 1) := by decide +kernel
noncomputable def f_M_isStretch  (a1 : Int32) (m0 : gk_M) : Option (Int32 × gk_M) :=
  if a1 < 0 then
    some (0, m0)
  else
    gk_bi (f_M_isRoad (a1 / 10) m0) fun v2 m1 =>
    if v2 = 0 then
      some (0, m1)
    else
      gk_ai m1 8 4 (a1 / 10) fun v3 =>
      if (v3 - 1) ≤ (gk_rem a1 10) then
        some (0, m1)
      else
        some (1, m1)

theorem s_M_isStretch_0 {z : gk_Z} (K : gk_F tm z me_M_isStretch 3) {r : Int32} {mem2 : gk_M} : ∀ a1 m0, f_M_isStretch a1 m0 = some (r, mem2) → gk_G tm z me_M_isStretch (gk_R tm z (some (.int r)) mem2) m0 [(0, .ref 0), (1, .int a1)] [] 0 := by
  intro a1 m0  h
  unfold f_M_isStretch at h
  refine gk_iload_n (pc := 0) K d_M_isStretch_0 rfl ?_
  refine gk_if_lt (tgt := 37) (pc := 1) K d_M_isStretch_1 (by decide) h (fun h => ?_) (fun h => ?_)
  · refine gk_iconst (pc := 37) K d_M_isStretch_37 kc_0 ?_
    exact gk_zretc (pc := 38) K d_M_isStretch_38 rfl (Or.inl rfl) h
  · refine gk_aload_n (pc := 4) K d_M_isStretch_4 rfl ?_
    refine gk_iload_n (pc := 5) K d_M_isStretch_5 rfl ?_
    refine gk_bipush (pc := 6) K d_M_isStretch_6 kb_10 ?_
    refine gk_idivc2 (pc := 8) K d_M_isStretch_8 (by decide) ?_
    obtain ⟨v2, m1, em1, h⟩ := gk_bi_some h
    refine gk_cVi (As := [.int (a1 / 10)]) (pc := 9) K d_M_isStretch_9 mv_M_136 mc_M_isRoad rfl tm_0 cl_ok10.1 (s_M_isRoad (gk_FD K)  em1) (by decide) rfl (Nat.le_of_ble_eq_true rfl) ?_
    refine gk_if_eq (tgt := 37) (pc := 12) K d_M_isStretch_12 (by decide) h (fun h => ?_) (fun h => ?_)
    · refine gk_iconst (pc := 37) K d_M_isStretch_37 kc_0 ?_
      exact gk_zretc (pc := 38) K d_M_isStretch_38 rfl (Or.inl rfl) h
    · refine gk_iload_n (pc := 15) K d_M_isStretch_15 rfl ?_
      refine gk_bipush (pc := 16) K d_M_isStretch_16 kb_10 ?_
      refine gk_iremc2 (pc := 18) K d_M_isStretch_18 (by decide) ?_
      refine gk_aload_n (pc := 19) K d_M_isStretch_19 rfl ?_
      refine gk_get (pc := 20) K d_M_isStretch_20 fl_M_31 tm_0 rfl rfl ?_
      refine gk_iload_n (pc := 23) K d_M_isStretch_23 rfl ?_
      refine gk_bipush (pc := 24) K d_M_isStretch_24 kb_10 ?_
      refine gk_idivc2 (pc := 26) K d_M_isStretch_26 (by decide) ?_
      refine gk_iald (pc := 27) K d_M_isStretch_27 tm_8 h (fun v3 h => ?_)
      refine gk_iconst (pc := 28) K d_M_isStretch_28 kc_1 ?_
      refine gk_isub (pc := 29) K d_M_isStretch_29 ?_
      refine gk_ic_ge (tgt := 37) (pc := 30) K d_M_isStretch_30 (by decide) h (fun h => ?_) (fun h => ?_)
      · refine gk_iconst (pc := 37) K d_M_isStretch_37 kc_0 ?_
        exact gk_zretc (pc := 38) K d_M_isStretch_38 rfl (Or.inl rfl) h
      · refine gk_iconst (pc := 33) K d_M_isStretch_33 kc_1 ?_
        refine gk_goto (tgt := 38) (pc := 34) K d_M_isStretch_34 (by decide) ?_
        exact gk_zretc (pc := 38) K d_M_isStretch_38 rfl (Or.inr rfl) h
theorem s_M_isStretch {l : Launch} {u : gk_U} (hD : gk_D tm u) {a1 : Int32} {m0 mem2 : gk_M} {r : Int32} (h : f_M_isStretch a1 m0 = some (r, mem2)) : gk_C tm l u me_M_isStretch 3 [.ref 0, .int a1] m0 (some (.int r)) mem2 :=
  gk_enter hD mc_M_isStretch (Nat.le_of_ble_eq_true rfl) rfl (fun z _ _ K => s_M_isStretch_0 K _ _  h)
theorem d_M_cornerOf_0 : decode me_M_cornerOf.2.1 0 = .ok (.aload_n 0, 1) := by decide +kernel
theorem d_M_cornerOf_1 : decode me_M_cornerOf.2.1 1 = .ok (.getfield 34, 3) := by decide +kernel
theorem d_M_cornerOf_4 : decode me_M_cornerOf.2.1 4 = .ok (.bipush 7, 2) := by decide +kernel
theorem d_M_cornerOf_6 : decode me_M_cornerOf.2.1 6 = .ok (.iload_n 1, 1) := by decide +kernel
theorem d_M_cornerOf_7 : decode me_M_cornerOf.2.1 7 = .ok (.imul, 1) := by decide +kernel
theorem d_M_cornerOf_8 : decode me_M_cornerOf.2.1 8 = .ok (.iload_n 2, 1) := by decide +kernel
theorem d_M_cornerOf_9 : decode me_M_cornerOf.2.1 9 = .ok (.iadd, 1) := by decide +kernel
theorem d_M_cornerOf_10 : decode me_M_cornerOf.2.1 10 = .ok (.iaload, 1) := by decide +kernel
theorem d_M_cornerOf_11 : decode me_M_cornerOf.2.1 11 = .ok (.ireturn, 1) := by decide +kernel
noncomputable def f_M_cornerOf  (a1 : Int32) (a2 : Int32) (m0 : gk_M) : Option (Int32 × gk_M) :=
  gk_ai m0 9 28 ((7 * a1) + a2) fun v1 =>
  some (v1, m0)

theorem s_M_cornerOf_0 {z : gk_Z} (K : gk_F tm z me_M_cornerOf 1) {r : Int32} {mem2 : gk_M} : ∀ a1 a2 m0, f_M_cornerOf a1 a2 m0 = some (r, mem2) → gk_G tm z me_M_cornerOf (gk_R tm z (some (.int r)) mem2) m0 [(0, .ref 0), (1, .int a1), (2, .int a2)] [] 0 := by
  intro a1 a2 m0  h
  unfold f_M_cornerOf at h
  refine gk_aload_n (pc := 0) K d_M_cornerOf_0 rfl ?_
  refine gk_get (pc := 1) K d_M_cornerOf_1 fl_M_34 tm_0 rfl rfl ?_
  refine gk_bipush (pc := 4) K d_M_cornerOf_4 kb_7 ?_
  refine gk_iload_n (pc := 6) K d_M_cornerOf_6 rfl ?_
  refine gk_imul (pc := 7) K d_M_cornerOf_7 ?_
  refine gk_iload_n (pc := 8) K d_M_cornerOf_8 rfl ?_
  refine gk_iadd (pc := 9) K d_M_cornerOf_9 ?_
  refine gk_iald (pc := 10) K d_M_cornerOf_10 tm_9 h (fun v1 h => ?_)
  exact gk_iret (pc := 11) K d_M_cornerOf_11 rfl h
theorem s_M_cornerOf {l : Launch} {u : gk_U} (hD : gk_D tm u) {a1 : Int32} {a2 : Int32} {m0 mem2 : gk_M} {r : Int32} (h : f_M_cornerOf a1 a2 m0 = some (r, mem2)) : gk_C tm l u me_M_cornerOf 1 [.ref 0, .int a1, .int a2] m0 (some (.int r)) mem2 :=
  gk_enter hD mc_M_cornerOf (Nat.le_of_ble_eq_true rfl) rfl (fun z _ _ K => s_M_cornerOf_0 K _ _ _  h)
theorem d_M_isAlong_0 : decode me_M_isAlong.2.1 0 = .ok (.aload_n 0, 1) := by decide +kernel
theorem d_M_isAlong_1 : decode me_M_isAlong.2.1 1 = .ok (.lconst 0, 1) := by decide +kernel
theorem d_M_isAlong_2 : decode me_M_isAlong.2.1 2 = .ok (.putfield 264, 3) := by decide +kernel
theorem d_M_isAlong_5 : decode me_M_isAlong.2.1 5 = .ok (.aload_n 0, 1) := by decide +kernel
theorem d_M_isAlong_6 : decode me_M_isAlong.2.1 6 = .ok (.lconst 1, 1) := by decide +kernel
theorem d_M_isAlong_7 : decode me_M_isAlong.2.1 7 = .ok (.putfield 268, 3) := by decide +kernel
theorem d_M_isAlong_10 : decode me_M_isAlong.2.1 10 = .ok (.aload_n 0, 1) := by decide +kernel
theorem d_M_isAlong_11 : decode me_M_isAlong.2.1 11 = .ok (.iload_n 1, 1) := by decide +kernel
theorem d_M_isAlong_12 : decode me_M_isAlong.2.1 12 = .ok (.iload_n 3, 1) := by decide +kernel
theorem d_M_isAlong_13 : decode me_M_isAlong.2.1 13 = .ok (.iload 4, 2) := by decide +kernel
theorem d_M_isAlong_15 : decode me_M_isAlong.2.1 15 = .ok (.iload 5, 2) := by decide +kernel
theorem d_M_isAlong_17 : decode me_M_isAlong.2.1 17 = .ok (.invokevirtual 260, 3) := by decide +kernel
theorem d_M_isAlong_20 : decode me_M_isAlong.2.1 20 = .ok (.ifCond .eq 5, 3) := by decide +kernel
theorem d_M_isAlong_23 : decode me_M_isAlong.2.1 23 = .ok (.iconst 1, 1) := by decide +kernel
theorem d_M_isAlong_24 : decode me_M_isAlong.2.1 24 = .ok (.ireturn, 1) := by decide +kernel
theorem d_M_isAlong_25 : decode me_M_isAlong.2.1 25 = .ok (.aload_n 0, 1) := by decide +kernel
theorem d_M_isAlong_26 : decode me_M_isAlong.2.1 26 = .ok (.lconst 1, 1) := by decide +kernel
theorem d_M_isAlong_27 : decode me_M_isAlong.2.1 27 = .ok (.putfield 264, 3) := by decide +kernel
theorem d_M_isAlong_30 : decode me_M_isAlong.2.1 30 = .ok (.aload_n 0, 1) := by decide +kernel
theorem d_M_isAlong_31 : decode me_M_isAlong.2.1 31 = .ok (.iload_n 2, 1) := by decide +kernel
theorem d_M_isAlong_32 : decode me_M_isAlong.2.1 32 = .ok (.iload_n 3, 1) := by decide +kernel
theorem d_M_isAlong_33 : decode me_M_isAlong.2.1 33 = .ok (.iload 4, 2) := by decide +kernel
theorem d_M_isAlong_35 : decode me_M_isAlong.2.1 35 = .ok (.iload 5, 2) := by decide +kernel
theorem d_M_isAlong_37 : decode me_M_isAlong.2.1 37 = .ok (.invokevirtual 260, 3) := by decide +kernel
theorem d_M_isAlong_40 : decode me_M_isAlong.2.1 40 = .ok (.ireturn, 1) := by decide +kernel
noncomputable def f_M_isAlong  (a1 : Int32) (a2 : Int32) (a3 : Int32) (a4 : Int32) (a5 : Int32) (m0 : gk_M) : Option (Int32 × gk_M) :=
  gk_let (gk_ml m0 0 25 0) fun m1 =>
  gk_let (gk_ml m1 0 26 1) fun m2 =>
  gk_bi (f_M_inLineAt a1 a3 a4 a5 m2) fun v4 m3 =>
  if v4 = 0 then
    gk_let (gk_ml m3 0 25 1) fun m5 =>
    gk_bi (f_M_inLineAt a2 a3 a4 a5 m5) fun v7 m6 =>
    gk_zz v7 (some (v7, m6))
  else
    some (1, m3)

theorem s_M_isAlong_0 {z : gk_Z} (K : gk_F tm z me_M_isAlong 68) {r : Int32} {mem2 : gk_M} : ∀ a1 a2 a3 a4 a5 m0, f_M_isAlong a1 a2 a3 a4 a5 m0 = some (r, mem2) → gk_G tm z me_M_isAlong (gk_R tm z (some (.int r)) mem2) m0 [(0, .ref 0), (1, .int a1), (2, .int a2), (3, .int a3), (4, .int a4), (5, .int a5)] [] 0 := by
  intro a1 a2 a3 a4 a5 m0  h
  unfold f_M_isAlong at h
  refine gk_aload_n (pc := 0) K d_M_isAlong_0 rfl ?_
  refine gk_lconst (pc := 1) K d_M_isAlong_1 kl_0 ?_
  refine gk_putl (pc := 2) K d_M_isAlong_2 fp_M_264 tm_0 rfl h (fun m1 h => ?_)
  refine gk_aload_n (pc := 5) K d_M_isAlong_5 rfl ?_
  refine gk_lconst (pc := 6) K d_M_isAlong_6 kl_1 ?_
  refine gk_putl (pc := 7) K d_M_isAlong_7 fp_M_268 tm_0 rfl h (fun m2 h => ?_)
  refine gk_aload_n (pc := 10) K d_M_isAlong_10 rfl ?_
  refine gk_iload_n (pc := 11) K d_M_isAlong_11 rfl ?_
  refine gk_iload_n (pc := 12) K d_M_isAlong_12 rfl ?_
  refine gk_iload (pc := 13) K d_M_isAlong_13 rfl ?_
  refine gk_iload (pc := 15) K d_M_isAlong_15 rfl ?_
  obtain ⟨v4, m3, em3, h⟩ := gk_bi_some h
  refine gk_cVi (As := [.int a1, .int a3, .int a4, .int a5]) (pc := 17) K d_M_isAlong_17 mv_M_260 mc_M_inLineAt rfl tm_0 cl_ok10.1 (s_M_inLineAt (gk_FD K)  em3) (by decide) rfl (Nat.le_of_ble_eq_true rfl) ?_
  refine gk_if_eq (tgt := 25) (pc := 20) K d_M_isAlong_20 (by decide) h (fun h => ?_) (fun h => ?_)
  · refine gk_aload_n (pc := 25) K d_M_isAlong_25 rfl ?_
    refine gk_lconst (pc := 26) K d_M_isAlong_26 kl_1 ?_
    refine gk_putl (pc := 27) K d_M_isAlong_27 fp_M_264 tm_0 rfl h (fun m5 h => ?_)
    refine gk_aload_n (pc := 30) K d_M_isAlong_30 rfl ?_
    refine gk_iload_n (pc := 31) K d_M_isAlong_31 rfl ?_
    refine gk_iload_n (pc := 32) K d_M_isAlong_32 rfl ?_
    refine gk_iload (pc := 33) K d_M_isAlong_33 rfl ?_
    refine gk_iload (pc := 35) K d_M_isAlong_35 rfl ?_
    obtain ⟨v7, m6, em6, h⟩ := gk_bi_some h
    refine gk_cVi (As := [.int a2, .int a3, .int a4, .int a5]) (pc := 37) K d_M_isAlong_37 mv_M_260 mc_M_inLineAt rfl tm_0 cl_ok10.1 (s_M_inLineAt (gk_FD K)  em6) (by decide) rfl (Nat.le_of_ble_eq_true rfl) ?_
    exact gk_zret (pc := 40) K d_M_isAlong_40 rfl h
  · refine gk_iconst (pc := 23) K d_M_isAlong_23 kc_1 ?_
    exact gk_zretc (pc := 24) K d_M_isAlong_24 rfl (Or.inr rfl) h
theorem s_M_isAlong {l : Launch} {u : gk_U} (hD : gk_D tm u) {a1 : Int32} {a2 : Int32} {a3 : Int32} {a4 : Int32} {a5 : Int32} {m0 mem2 : gk_M} {r : Int32} (h : f_M_isAlong a1 a2 a3 a4 a5 m0 = some (r, mem2)) : gk_C tm l u me_M_isAlong 68 [.ref 0, .int a1, .int a2, .int a3, .int a4, .int a5] m0 (some (.int r)) mem2 :=
  gk_enter hD mc_M_isAlong (Nat.le_of_ble_eq_true rfl) rfl (fun z _ _ K => s_M_isAlong_0 K _ _ _ _ _ _  h)
theorem d_M_isGuilty_0 : decode me_M_isGuilty.2.1 0 = .ok (.aload_n 0, 1) := by decide +kernel
theorem d_M_isGuilty_1 : decode me_M_isGuilty.2.1 1 = .ok (.getfield 22, 3) := by decide +kernel
theorem d_M_isGuilty_4 : decode me_M_isGuilty.2.1 4 = .ok (.iload_n 3, 1) := by decide +kernel
theorem d_M_isGuilty_5 : decode me_M_isGuilty.2.1 5 = .ok (.iaload, 1) := by decide +kernel
theorem d_M_isGuilty_6 : decode me_M_isGuilty.2.1 6 = .ok (.bipush 30, 2) := by decide +kernel
theorem d_M_isGuilty_8 : decode me_M_isGuilty.2.1 8 = .ok (.irem, 1) := by decide +kernel
theorem d_M_isGuilty_9 : decode me_M_isGuilty.2.1 9 = .ok (.i2l, 1) := by decide +kernel
theorem d_M_isGuilty_10 : decode me_M_isGuilty.2.1 10 = .ok (.lstore 6, 2) := by decide +kernel
theorem d_M_isGuilty_12 : decode me_M_isGuilty.2.1 12 = .ok (.aload_n 0, 1) := by decide +kernel
theorem d_M_isGuilty_13 : decode me_M_isGuilty.2.1 13 = .ok (.getfield 22, 3) := by decide +kernel
theorem d_M_isGuilty_16 : decode me_M_isGuilty.2.1 16 = .ok (.iload_n 3, 1) := by decide +kernel
theorem d_M_isGuilty_17 : decode me_M_isGuilty.2.1 17 = .ok (.iaload, 1) := by decide +kernel
theorem d_M_isGuilty_18 : decode me_M_isGuilty.2.1 18 = .ok (.bipush 30, 2) := by decide +kernel
theorem d_M_isGuilty_20 : decode me_M_isGuilty.2.1 20 = .ok (.idiv, 1) := by decide +kernel
theorem d_M_isGuilty_21 : decode me_M_isGuilty.2.1 21 = .ok (.i2l, 1) := by decide +kernel
theorem d_M_isGuilty_22 : decode me_M_isGuilty.2.1 22 = .ok (.lstore 8, 2) := by decide +kernel
theorem d_M_isGuilty_24 : decode me_M_isGuilty.2.1 24 = .ok (.aload_n 0, 1) := by decide +kernel
theorem d_M_isGuilty_25 : decode me_M_isGuilty.2.1 25 = .ok (.getfield 22, 3) := by decide +kernel
theorem d_M_isGuilty_28 : decode me_M_isGuilty.2.1 28 = .ok (.iload 4, 2) := by decide +kernel
theorem d_M_isGuilty_30 : decode me_M_isGuilty.2.1 30 = .ok (.iaload, 1) := by decide +kernel
theorem d_M_isGuilty_31 : decode me_M_isGuilty.2.1 31 = .ok (.bipush 30, 2) := by decide +kernel
theorem d_M_isGuilty_33 : decode me_M_isGuilty.2.1 33 = .ok (.irem, 1) := by decide +kernel
theorem d_M_isGuilty_34 : decode me_M_isGuilty.2.1 34 = .ok (.i2l, 1) := by decide +kernel
theorem d_M_isGuilty_35 : decode me_M_isGuilty.2.1 35 = .ok (.lstore 10, 2) := by decide +kernel
theorem d_M_isGuilty_37 : decode me_M_isGuilty.2.1 37 = .ok (.aload_n 0, 1) := by decide +kernel
theorem d_M_isGuilty_38 : decode me_M_isGuilty.2.1 38 = .ok (.getfield 22, 3) := by decide +kernel
theorem d_M_isGuilty_41 : decode me_M_isGuilty.2.1 41 = .ok (.iload 4, 2) := by decide +kernel
theorem d_M_isGuilty_43 : decode me_M_isGuilty.2.1 43 = .ok (.iaload, 1) := by decide +kernel
theorem d_M_isGuilty_44 : decode me_M_isGuilty.2.1 44 = .ok (.bipush 30, 2) := by decide +kernel
theorem d_M_isGuilty_46 : decode me_M_isGuilty.2.1 46 = .ok (.idiv, 1) := by decide +kernel
theorem d_M_isGuilty_47 : decode me_M_isGuilty.2.1 47 = .ok (.i2l, 1) := by decide +kernel
theorem d_M_isGuilty_48 : decode me_M_isGuilty.2.1 48 = .ok (.lstore 12, 2) := by decide +kernel
theorem d_M_isGuilty_50 : decode me_M_isGuilty.2.1 50 = .ok (.lload 6, 2) := by decide +kernel
theorem d_M_isGuilty_52 : decode me_M_isGuilty.2.1 52 = .ok (.lload 8, 2) := by decide +kernel
theorem d_M_isGuilty_54 : decode me_M_isGuilty.2.1 54 = .ok (.lload 10, 2) := by decide +kernel
theorem d_M_isGuilty_56 : decode me_M_isGuilty.2.1 56 = .ok (.lload 12, 2) := by decide +kernel
theorem d_M_isGuilty_58 : decode me_M_isGuilty.2.1 58 = .ok (.iload_n 1, 1) := by decide +kernel
theorem d_M_isGuilty_59 : decode me_M_isGuilty.2.1 59 = .ok (.bipush 30, 2) := by decide +kernel
theorem d_M_isGuilty_61 : decode me_M_isGuilty.2.1 61 = .ok (.irem, 1) := by decide +kernel
theorem d_M_isGuilty_62 : decode me_M_isGuilty.2.1 62 = .ok (.i2l, 1) := by decide +kernel
theorem d_M_isGuilty_63 : decode me_M_isGuilty.2.1 63 = .ok (.iload_n 1, 1) := by decide +kernel
theorem d_M_isGuilty_64 : decode me_M_isGuilty.2.1 64 = .ok (.bipush 30, 2) := by decide +kernel
theorem d_M_isGuilty_66 : decode me_M_isGuilty.2.1 66 = .ok (.idiv, 1) := by decide +kernel
theorem d_M_isGuilty_67 : decode me_M_isGuilty.2.1 67 = .ok (.i2l, 1) := by decide +kernel
theorem d_M_isGuilty_68 : decode me_M_isGuilty.2.1 68 = .ok (.invokestatic 216, 3) := by decide +kernel
theorem d_M_isGuilty_71 : decode me_M_isGuilty.2.1 71 = .ok (.lstore 14, 2) := by decide +kernel
theorem d_M_isGuilty_73 : decode me_M_isGuilty.2.1 73 = .ok (.lload 6, 2) := by decide +kernel
theorem d_M_isGuilty_75 : decode me_M_isGuilty.2.1 75 = .ok (.lload 8, 2) := by decide +kernel
theorem d_M_isGuilty_77 : decode me_M_isGuilty.2.1 77 = .ok (.lload 10, 2) := by decide +kernel
theorem d_M_isGuilty_79 : decode me_M_isGuilty.2.1 79 = .ok (.lload 12, 2) := by decide +kernel
theorem d_M_isGuilty_81 : decode me_M_isGuilty.2.1 81 = .ok (.iload_n 2, 1) := by decide +kernel
theorem d_M_isGuilty_82 : decode me_M_isGuilty.2.1 82 = .ok (.bipush 30, 2) := by decide +kernel
theorem d_M_isGuilty_84 : decode me_M_isGuilty.2.1 84 = .ok (.irem, 1) := by decide +kernel
theorem d_M_isGuilty_85 : decode me_M_isGuilty.2.1 85 = .ok (.i2l, 1) := by decide +kernel
theorem d_M_isGuilty_86 : decode me_M_isGuilty.2.1 86 = .ok (.iload_n 2, 1) := by decide +kernel
theorem d_M_isGuilty_87 : decode me_M_isGuilty.2.1 87 = .ok (.bipush 30, 2) := by decide +kernel
theorem d_M_isGuilty_89 : decode me_M_isGuilty.2.1 89 = .ok (.idiv, 1) := by decide +kernel
theorem d_M_isGuilty_90 : decode me_M_isGuilty.2.1 90 = .ok (.i2l, 1) := by decide +kernel
theorem d_M_isGuilty_91 : decode me_M_isGuilty.2.1 91 = .ok (.invokestatic 216, 3) := by decide +kernel
theorem d_M_isGuilty_94 : decode me_M_isGuilty.2.1 94 = .ok (.lstore 16, 2) := by decide +kernel
theorem d_M_isGuilty_96 : decode me_M_isGuilty.2.1 96 = .ok (.lload 14, 2) := by decide +kernel
theorem d_M_isGuilty_98 : decode me_M_isGuilty.2.1 98 = .ok (.lconst 0, 1) := by decide +kernel
theorem d_M_isGuilty_99 : decode me_M_isGuilty.2.1 99 = .ok (.lcmp, 1) := by decide +kernel
theorem d_M_isGuilty_100 : decode me_M_isGuilty.2.1 100 = .ok (.ifCond .ne 22, 3) := by decide +kernel
theorem d_M_isGuilty_103 : decode me_M_isGuilty.2.1 103 = .ok (.lload 16, 2) := by decide +kernel
theorem d_M_isGuilty_105 : decode me_M_isGuilty.2.1 105 = .ok (.lconst 0, 1) := by decide +kernel
theorem d_M_isGuilty_106 : decode me_M_isGuilty.2.1 106 = .ok (.lcmp, 1) := by decide +kernel
theorem d_M_isGuilty_107 : decode me_M_isGuilty.2.1 107 = .ok (.ifCond .ne 15, 3) := by decide +kernel
theorem d_M_isGuilty_110 : decode me_M_isGuilty.2.1 110 = .ok (.aload_n 0, 1) := by decide +kernel
theorem d_M_isGuilty_111 : decode me_M_isGuilty.2.1 111 = .ok (.iload_n 1, 1) := by decide +kernel
theorem d_M_isGuilty_112 : decode me_M_isGuilty.2.1 112 = .ok (.iload_n 2, 1) := by decide +kernel
theorem d_M_isGuilty_113 : decode me_M_isGuilty.2.1 113 = .ok (.iload_n 3, 1) := by decide +kernel
theorem d_M_isGuilty_114 : decode me_M_isGuilty.2.1 114 = .ok (.iload 4, 2) := by decide +kernel
theorem d_M_isGuilty_116 : decode me_M_isGuilty.2.1 116 = .ok (.iload 5, 2) := by decide +kernel
theorem d_M_isGuilty_118 : decode me_M_isGuilty.2.1 118 = .ok (.invokevirtual 271, 3) := by decide +kernel
theorem d_M_isGuilty_121 : decode me_M_isGuilty.2.1 121 = .ok (.ireturn, 1) := by decide +kernel
theorem d_M_isGuilty_122 : decode me_M_isGuilty.2.1 122 = .ok (.lload 14, 2) := by decide +kernel
theorem d_M_isGuilty_124 : decode me_M_isGuilty.2.1 124 = .ok (.lconst 0, 1) := by decide +kernel
theorem d_M_isGuilty_125 : decode me_M_isGuilty.2.1 125 = .ok (.lcmp, 1) := by decide +kernel
theorem d_M_isGuilty_126 : decode me_M_isGuilty.2.1 126 = .ok (.ifCond .le 10, 3) := by decide +kernel
theorem d_M_isGuilty_129 : decode me_M_isGuilty.2.1 129 = .ok (.lload 16, 2) := by decide +kernel
theorem d_M_isGuilty_131 : decode me_M_isGuilty.2.1 131 = .ok (.lconst 0, 1) := by decide +kernel
theorem d_M_isGuilty_132 : decode me_M_isGuilty.2.1 132 = .ok (.lcmp, 1) := by decide +kernel
theorem d_M_isGuilty_133 : decode me_M_isGuilty.2.1 133 = .ok (.ifCond .gt 17, 3) := by decide +kernel
theorem d_M_isGuilty_136 : decode me_M_isGuilty.2.1 136 = .ok (.lload 14, 2) := by decide +kernel
theorem d_M_isGuilty_138 : decode me_M_isGuilty.2.1 138 = .ok (.lconst 0, 1) := by decide +kernel
theorem d_M_isGuilty_139 : decode me_M_isGuilty.2.1 139 = .ok (.lcmp, 1) := by decide +kernel
theorem d_M_isGuilty_140 : decode me_M_isGuilty.2.1 140 = .ok (.ifCond .ge 12, 3) := by decide +kernel
theorem d_M_isGuilty_143 : decode me_M_isGuilty.2.1 143 = .ok (.lload 16, 2) := by decide +kernel
theorem d_M_isGuilty_145 : decode me_M_isGuilty.2.1 145 = .ok (.lconst 0, 1) := by decide +kernel
theorem d_M_isGuilty_146 : decode me_M_isGuilty.2.1 146 = .ok (.lcmp, 1) := by decide +kernel
theorem d_M_isGuilty_147 : decode me_M_isGuilty.2.1 147 = .ok (.ifCond .ge 5, 3) := by decide +kernel
theorem d_M_isGuilty_150 : decode me_M_isGuilty.2.1 150 = .ok (.iconst 0, 1) := by decide +kernel
theorem d_M_isGuilty_151 : decode me_M_isGuilty.2.1 151 = .ok (.ireturn, 1) := by decide +kernel
theorem d_M_isGuilty_152 : decode me_M_isGuilty.2.1 152 = .ok (.lload 14, 2) := by decide +kernel
theorem d_M_isGuilty_154 : decode me_M_isGuilty.2.1 154 = .ok (.lconst 0, 1) := by decide +kernel
theorem d_M_isGuilty_155 : decode me_M_isGuilty.2.1 155 = .ok (.lcmp, 1) := by decide +kernel
theorem d_M_isGuilty_156 : decode me_M_isGuilty.2.1 156 = .ok (.ifCond .ge 9, 3) := by decide +kernel
theorem d_M_isGuilty_159 : decode me_M_isGuilty.2.1 159 = .ok (.lload 14, 2) := by decide +kernel
theorem d_M_isGuilty_161 : decode me_M_isGuilty.2.1 161 = .ok (.lneg, 1) := by decide +kernel
theorem d_M_isGuilty_162 : decode me_M_isGuilty.2.1 162 = .ok (.goto 5, 3) := by decide +kernel
theorem d_M_isGuilty_165 : decode me_M_isGuilty.2.1 165 = .ok (.lload 14, 2) := by decide +kernel
theorem d_M_isGuilty_167 : decode me_M_isGuilty.2.1 167 = .ok (.lstore 18, 2) := by decide +kernel
theorem d_M_isGuilty_169 : decode me_M_isGuilty.2.1 169 = .ok (.lload 18, 2) := by decide +kernel
theorem d_M_isGuilty_171 : decode me_M_isGuilty.2.1 171 = .ok (.lload 16, 2) := by decide +kernel
theorem d_M_isGuilty_173 : decode me_M_isGuilty.2.1 173 = .ok (.lconst 0, 1) := by decide +kernel
theorem d_M_isGuilty_174 : decode me_M_isGuilty.2.1 174 = .ok (.lcmp, 1) := by decide +kernel
theorem d_M_isGuilty_175 : decode me_M_isGuilty.2.1 175 = .ok (.ifCond .ge 9, 3) := by decide +kernel
theorem d_M_isGuilty_178 : decode me_M_isGuilty.2.1 178 = .ok (.lload 16, 2) := by decide +kernel
theorem d_M_isGuilty_180 : decode me_M_isGuilty.2.1 180 = .ok (.lneg, 1) := by decide +kernel
theorem d_M_isGuilty_181 : decode me_M_isGuilty.2.1 181 = .ok (.goto 5, 3) := by decide +kernel
theorem d_M_isGuilty_184 : decode me_M_isGuilty.2.1 184 = .ok (.lload 16, 2) := by decide +kernel
theorem d_M_isGuilty_186 : decode me_M_isGuilty.2.1 186 = .ok (.ladd, 1) := by decide +kernel
theorem d_M_isGuilty_187 : decode me_M_isGuilty.2.1 187 = .ok (.lstore 20, 2) := by decide +kernel
theorem d_M_isGuilty_189 : decode me_M_isGuilty.2.1 189 = .ok (.aload_n 0, 1) := by decide +kernel
theorem d_M_isGuilty_190 : decode me_M_isGuilty.2.1 190 = .ok (.lload 18, 2) := by decide +kernel
theorem d_M_isGuilty_192 : decode me_M_isGuilty.2.1 192 = .ok (.putfield 264, 3) := by decide +kernel
theorem d_M_isGuilty_195 : decode me_M_isGuilty.2.1 195 = .ok (.aload_n 0, 1) := by decide +kernel
theorem d_M_isGuilty_196 : decode me_M_isGuilty.2.1 196 = .ok (.lload 20, 2) := by decide +kernel
theorem d_M_isGuilty_198 : decode me_M_isGuilty.2.1 198 = .ok (.putfield 268, 3) := by decide +kernel
theorem d_M_isGuilty_201 : decode me_M_isGuilty.2.1 201 = .ok (.aload_n 0, 1) := by decide +kernel
theorem d_M_isGuilty_202 : decode me_M_isGuilty.2.1 202 = .ok (.iload_n 1, 1) := by decide +kernel
theorem d_M_isGuilty_203 : decode me_M_isGuilty.2.1 203 = .ok (.bipush 30, 2) := by decide +kernel
theorem d_M_isGuilty_205 : decode me_M_isGuilty.2.1 205 = .ok (.irem, 1) := by decide +kernel
theorem d_M_isGuilty_206 : decode me_M_isGuilty.2.1 206 = .ok (.i2l, 1) := by decide +kernel
theorem d_M_isGuilty_207 : decode me_M_isGuilty.2.1 207 = .ok (.lload 20, 2) := by decide +kernel
theorem d_M_isGuilty_209 : decode me_M_isGuilty.2.1 209 = .ok (.lmul, 1) := by decide +kernel
theorem d_M_isGuilty_210 : decode me_M_isGuilty.2.1 210 = .ok (.lload 18, 2) := by decide +kernel
theorem d_M_isGuilty_212 : decode me_M_isGuilty.2.1 212 = .ok (.iload_n 2, 1) := by decide +kernel
theorem d_M_isGuilty_213 : decode me_M_isGuilty.2.1 213 = .ok (.bipush 30, 2) := by decide +kernel
theorem d_M_isGuilty_215 : decode me_M_isGuilty.2.1 215 = .ok (.irem, 1) := by decide +kernel
theorem d_M_isGuilty_216 : decode me_M_isGuilty.2.1 216 = .ok (.iload_n 1, 1) := by decide +kernel
theorem d_M_isGuilty_217 : decode me_M_isGuilty.2.1 217 = .ok (.bipush 30, 2) := by decide +kernel
theorem d_M_isGuilty_219 : decode me_M_isGuilty.2.1 219 = .ok (.irem, 1) := by decide +kernel
theorem d_M_isGuilty_220 : decode me_M_isGuilty.2.1 220 = .ok (.isub, 1) := by decide +kernel
theorem d_M_isGuilty_221 : decode me_M_isGuilty.2.1 221 = .ok (.i2l, 1) := by decide +kernel
theorem d_M_isGuilty_222 : decode me_M_isGuilty.2.1 222 = .ok (.lmul, 1) := by decide +kernel
theorem d_M_isGuilty_223 : decode me_M_isGuilty.2.1 223 = .ok (.ladd, 1) := by decide +kernel
theorem d_M_isGuilty_224 : decode me_M_isGuilty.2.1 224 = .ok (.iload_n 1, 1) := by decide +kernel
theorem d_M_isGuilty_225 : decode me_M_isGuilty.2.1 225 = .ok (.bipush 30, 2) := by decide +kernel
theorem d_M_isGuilty_227 : decode me_M_isGuilty.2.1 227 = .ok (.idiv, 1) := by decide +kernel
theorem d_M_isGuilty_228 : decode me_M_isGuilty.2.1 228 = .ok (.i2l, 1) := by decide +kernel
theorem d_M_isGuilty_229 : decode me_M_isGuilty.2.1 229 = .ok (.lload 20, 2) := by decide +kernel
theorem d_M_isGuilty_231 : decode me_M_isGuilty.2.1 231 = .ok (.lmul, 1) := by decide +kernel
theorem d_M_isGuilty_232 : decode me_M_isGuilty.2.1 232 = .ok (.lload 18, 2) := by decide +kernel
theorem d_M_isGuilty_234 : decode me_M_isGuilty.2.1 234 = .ok (.iload_n 2, 1) := by decide +kernel
theorem d_M_isGuilty_235 : decode me_M_isGuilty.2.1 235 = .ok (.bipush 30, 2) := by decide +kernel
theorem d_M_isGuilty_237 : decode me_M_isGuilty.2.1 237 = .ok (.idiv, 1) := by decide +kernel
theorem d_M_isGuilty_238 : decode me_M_isGuilty.2.1 238 = .ok (.iload_n 1, 1) := by decide +kernel
theorem d_M_isGuilty_239 : decode me_M_isGuilty.2.1 239 = .ok (.bipush 30, 2) := by decide +kernel
theorem d_M_isGuilty_241 : decode me_M_isGuilty.2.1 241 = .ok (.idiv, 1) := by decide +kernel
theorem d_M_isGuilty_242 : decode me_M_isGuilty.2.1 242 = .ok (.isub, 1) := by decide +kernel
theorem d_M_isGuilty_243 : decode me_M_isGuilty.2.1 243 = .ok (.i2l, 1) := by decide +kernel
theorem d_M_isGuilty_244 : decode me_M_isGuilty.2.1 244 = .ok (.lmul, 1) := by decide +kernel
theorem d_M_isGuilty_245 : decode me_M_isGuilty.2.1 245 = .ok (.ladd, 1) := by decide +kernel
theorem d_M_isGuilty_246 : decode me_M_isGuilty.2.1 246 = .ok (.lload 20, 2) := by decide +kernel
theorem d_M_isGuilty_248 : decode me_M_isGuilty.2.1 248 = .ok (.iload_n 3, 1) := by decide +kernel
theorem d_M_isGuilty_249 : decode me_M_isGuilty.2.1 249 = .ok (.iload 4, 2) := by decide +kernel
theorem d_M_isGuilty_251 : decode me_M_isGuilty.2.1 251 = .ok (.iload 5, 2) := by decide +kernel
theorem d_M_isGuilty_253 : decode me_M_isGuilty.2.1 253 = .ok (.invokevirtual 251, 3) := by decide +kernel
theorem d_M_isGuilty_256 : decode me_M_isGuilty.2.1 256 = .ok (.ireturn, 1) := by decide +kernel
noncomputable def f_M_isGuilty_186  (a1 : Int32) (a2 : Int32) (a3 : Int32) (a4 : Int32) (a5 : Int32) (a18 : Int64) (s0 : Int64) (s1 : Int64) (m0 : gk_M) : Option (Int32 × gk_M) :=
  gk_let (s0 + s1) fun v1 =>
  gk_let (gk_ml m0 0 25 a18) fun m2 =>
  gk_let (gk_ml m2 0 26 v1) fun m3 =>
  gk_bi (f_M_inLine (((gk_rem a1 30).toInt64 * v1) + (a18 * ((gk_rem a2 30) - (gk_rem a1 30)).toInt64)) (((a1 / 30).toInt64 * v1) + (a18 * ((a2 / 30) - (a1 / 30)).toInt64)) v1 a3 a4 a5 m3) fun v5 m4 =>
  gk_zz v5 (some (v5, m4))

theorem s_M_isGuilty_186 {z : gk_Z} (K : gk_F tm z me_M_isGuilty 69) {r : Int32} {mem2 : gk_M} : ∀ a1 a2 a3 a4 a5 a18 s0 s1 m0, f_M_isGuilty_186 a1 a2 a3 a4 a5 a18 s0 s1 m0 = some (r, mem2) → gk_G tm z me_M_isGuilty (gk_R tm z (some (.int r)) mem2) m0 [(0, .ref 0), (1, .int a1), (2, .int a2), (3, .int a3), (4, .int a4), (5, .int a5), (18, .long a18)] [.long s1, .long s0] 186 := by
  intro a1 a2 a3 a4 a5 a18 s0 s1 m0  h
  unfold f_M_isGuilty_186 at h
  refine gk_ladd (pc := 186) K d_M_isGuilty_186 ?_
  refine gk_topl h (fun v1 h => ?_)
  refine gk_lstore (lv2 := [(20, .long v1), (0, .ref 0), (1, .int a1), (2, .int a2), (3, .int a3), (4, .int a4), (5, .int a5), (18, .long a18)]) (pc := 187) K d_M_isGuilty_187 (by decide) rfl ?_
  refine gk_aload_n (pc := 189) K d_M_isGuilty_189 rfl ?_
  refine gk_lload (pc := 190) K d_M_isGuilty_190 rfl ?_
  refine gk_putl (pc := 192) K d_M_isGuilty_192 fp_M_264 tm_0 rfl h (fun m2 h => ?_)
  refine gk_aload_n (pc := 195) K d_M_isGuilty_195 rfl ?_
  refine gk_lload (pc := 196) K d_M_isGuilty_196 rfl ?_
  refine gk_putl (pc := 198) K d_M_isGuilty_198 fp_M_268 tm_0 rfl h (fun m3 h => ?_)
  refine gk_aload_n (pc := 201) K d_M_isGuilty_201 rfl ?_
  refine gk_iload_n (pc := 202) K d_M_isGuilty_202 rfl ?_
  refine gk_bipush (pc := 203) K d_M_isGuilty_203 kb_30 ?_
  refine gk_iremc2 (pc := 205) K d_M_isGuilty_205 (by decide) ?_
  refine gk_i2l (pc := 206) K d_M_isGuilty_206 ?_
  refine gk_lload (pc := 207) K d_M_isGuilty_207 rfl ?_
  refine gk_lmul (pc := 209) K d_M_isGuilty_209 ?_
  refine gk_lload (pc := 210) K d_M_isGuilty_210 rfl ?_
  refine gk_iload_n (pc := 212) K d_M_isGuilty_212 rfl ?_
  refine gk_bipush (pc := 213) K d_M_isGuilty_213 kb_30 ?_
  refine gk_iremc2 (pc := 215) K d_M_isGuilty_215 (by decide) ?_
  refine gk_iload_n (pc := 216) K d_M_isGuilty_216 rfl ?_
  refine gk_bipush (pc := 217) K d_M_isGuilty_217 kb_30 ?_
  refine gk_iremc2 (pc := 219) K d_M_isGuilty_219 (by decide) ?_
  refine gk_isub (pc := 220) K d_M_isGuilty_220 ?_
  refine gk_i2l (pc := 221) K d_M_isGuilty_221 ?_
  refine gk_lmul (pc := 222) K d_M_isGuilty_222 ?_
  refine gk_ladd (pc := 223) K d_M_isGuilty_223 ?_
  refine gk_iload_n (pc := 224) K d_M_isGuilty_224 rfl ?_
  refine gk_bipush (pc := 225) K d_M_isGuilty_225 kb_30 ?_
  refine gk_idivc2 (pc := 227) K d_M_isGuilty_227 (by decide) ?_
  refine gk_i2l (pc := 228) K d_M_isGuilty_228 ?_
  refine gk_lload (pc := 229) K d_M_isGuilty_229 rfl ?_
  refine gk_lmul (pc := 231) K d_M_isGuilty_231 ?_
  refine gk_lload (pc := 232) K d_M_isGuilty_232 rfl ?_
  refine gk_iload_n (pc := 234) K d_M_isGuilty_234 rfl ?_
  refine gk_bipush (pc := 235) K d_M_isGuilty_235 kb_30 ?_
  refine gk_idivc2 (pc := 237) K d_M_isGuilty_237 (by decide) ?_
  refine gk_iload_n (pc := 238) K d_M_isGuilty_238 rfl ?_
  refine gk_bipush (pc := 239) K d_M_isGuilty_239 kb_30 ?_
  refine gk_idivc2 (pc := 241) K d_M_isGuilty_241 (by decide) ?_
  refine gk_isub (pc := 242) K d_M_isGuilty_242 ?_
  refine gk_i2l (pc := 243) K d_M_isGuilty_243 ?_
  refine gk_lmul (pc := 244) K d_M_isGuilty_244 ?_
  refine gk_ladd (pc := 245) K d_M_isGuilty_245 ?_
  refine gk_lload (pc := 246) K d_M_isGuilty_246 rfl ?_
  refine gk_iload_n (pc := 248) K d_M_isGuilty_248 rfl ?_
  refine gk_iload (pc := 249) K d_M_isGuilty_249 rfl ?_
  refine gk_iload (pc := 251) K d_M_isGuilty_251 rfl ?_
  obtain ⟨v5, m4, em4, h⟩ := gk_bi_some h
  refine gk_cVi (As := [.long (((gk_rem a1 30).toInt64 * v1) + (a18 * ((gk_rem a2 30) - (gk_rem a1 30)).toInt64)), .long (((a1 / 30).toInt64 * v1) + (a18 * ((a2 / 30) - (a1 / 30)).toInt64)), .long v1, .int a3, .int a4, .int a5]) (pc := 253) K d_M_isGuilty_253 mv_M_251 mc_M_inLine rfl tm_0 cl_ok10.1 (s_M_inLine (gk_FD K)  em4) (by decide) rfl (Nat.le_of_ble_eq_true rfl) ?_
  exact gk_zret (pc := 256) K d_M_isGuilty_256 rfl h
noncomputable def f_M_isGuilty_167  (a1 : Int32) (a2 : Int32) (a3 : Int32) (a4 : Int32) (a5 : Int32) (a16 : Int64) (s0 : Int64) (m0 : gk_M) : Option (Int32 × gk_M) :=
  if 0 ≤ a16 then
    f_M_isGuilty_186 a1 a2 a3 a4 a5 s0 s0 a16 m0
  else
    f_M_isGuilty_186 a1 a2 a3 a4 a5 s0 s0 (-a16) m0

theorem s_M_isGuilty_167 {z : gk_Z} (K : gk_F tm z me_M_isGuilty 69) {r : Int32} {mem2 : gk_M} : ∀ a1 a2 a3 a4 a5 a16 s0 m0, f_M_isGuilty_167 a1 a2 a3 a4 a5 a16 s0 m0 = some (r, mem2) → gk_G tm z me_M_isGuilty (gk_R tm z (some (.int r)) mem2) m0 [(0, .ref 0), (1, .int a1), (2, .int a2), (3, .int a3), (4, .int a4), (5, .int a5), (16, .long a16)] [.long s0] 167 := by
  intro a1 a2 a3 a4 a5 a16 s0 m0  h
  unfold f_M_isGuilty_167 at h
  refine gk_lstore (lv2 := [(18, .long s0), (0, .ref 0), (1, .int a1), (2, .int a2), (3, .int a3), (4, .int a4), (5, .int a5), (16, .long a16)]) (pc := 167) K d_M_isGuilty_167 (by decide) rfl ?_
  refine gk_lload (pc := 169) K d_M_isGuilty_169 rfl ?_
  refine gk_lload (pc := 171) K d_M_isGuilty_171 rfl ?_
  refine gk_lconst (pc := 173) K d_M_isGuilty_173 kl_0 ?_
  refine gk_lc_ge (tgt := 184) (pc := 174) K d_M_isGuilty_174 d_M_isGuilty_175 (by decide) h (fun h => ?_) (fun h => ?_)
  · refine gk_lload (pc := 184) K d_M_isGuilty_184 rfl ?_
    exact gk_sub [1, 2, 3, 4, 5, 6, 0] rfl (s_M_isGuilty_186 K _ _ _ _ _ _ _ _ _  h)
  · refine gk_lload (pc := 178) K d_M_isGuilty_178 rfl ?_
    refine gk_lneg (pc := 180) K d_M_isGuilty_180 ?_
    refine gk_goto (tgt := 186) (pc := 181) K d_M_isGuilty_181 (by decide) ?_
    exact gk_sub [1, 2, 3, 4, 5, 6, 0] rfl (s_M_isGuilty_186 K _ _ _ _ _ _ _ _ _  h)
noncomputable def f_M_isGuilty_152  (a1 : Int32) (a2 : Int32) (a3 : Int32) (a4 : Int32) (a5 : Int32) (a14 : Int64) (a16 : Int64) (m0 : gk_M) : Option (Int32 × gk_M) :=
  if 0 ≤ a14 then
    f_M_isGuilty_167 a1 a2 a3 a4 a5 a16 a14 m0
  else
    f_M_isGuilty_167 a1 a2 a3 a4 a5 a16 (-a14) m0

theorem s_M_isGuilty_152 {z : gk_Z} (K : gk_F tm z me_M_isGuilty 69) {r : Int32} {mem2 : gk_M} : ∀ a1 a2 a3 a4 a5 a14 a16 m0, f_M_isGuilty_152 a1 a2 a3 a4 a5 a14 a16 m0 = some (r, mem2) → gk_G tm z me_M_isGuilty (gk_R tm z (some (.int r)) mem2) m0 [(0, .ref 0), (1, .int a1), (2, .int a2), (3, .int a3), (4, .int a4), (5, .int a5), (14, .long a14), (16, .long a16)] [] 152 := by
  intro a1 a2 a3 a4 a5 a14 a16 m0  h
  unfold f_M_isGuilty_152 at h
  refine gk_lload (pc := 152) K d_M_isGuilty_152 rfl ?_
  refine gk_lconst (pc := 154) K d_M_isGuilty_154 kl_0 ?_
  refine gk_lc_ge (tgt := 165) (pc := 155) K d_M_isGuilty_155 d_M_isGuilty_156 (by decide) h (fun h => ?_) (fun h => ?_)
  · refine gk_lload (pc := 165) K d_M_isGuilty_165 rfl ?_
    exact gk_sub [0, 1, 2, 3, 4, 5, 7] rfl (s_M_isGuilty_167 K _ _ _ _ _ _ _ _  h)
  · refine gk_lload (pc := 159) K d_M_isGuilty_159 rfl ?_
    refine gk_lneg (pc := 161) K d_M_isGuilty_161 ?_
    refine gk_goto (tgt := 167) (pc := 162) K d_M_isGuilty_162 (by decide) ?_
    exact gk_sub [0, 1, 2, 3, 4, 5, 7] rfl (s_M_isGuilty_167 K _ _ _ _ _ _ _ _  h)
noncomputable def f_M_isGuilty_136  (a1 : Int32) (a2 : Int32) (a3 : Int32) (a4 : Int32) (a5 : Int32) (a14 : Int64) (a16 : Int64) (m0 : gk_M) : Option (Int32 × gk_M) :=
  if 0 ≤ a14 then
    f_M_isGuilty_152 a1 a2 a3 a4 a5 a14 a16 m0
  else
    if 0 ≤ a16 then
      f_M_isGuilty_152 a1 a2 a3 a4 a5 a14 a16 m0
    else
      some (0, m0)

theorem s_M_isGuilty_136 {z : gk_Z} (K : gk_F tm z me_M_isGuilty 69) {r : Int32} {mem2 : gk_M} : ∀ a1 a2 a3 a4 a5 a14 a16 m0, f_M_isGuilty_136 a1 a2 a3 a4 a5 a14 a16 m0 = some (r, mem2) → gk_G tm z me_M_isGuilty (gk_R tm z (some (.int r)) mem2) m0 [(0, .ref 0), (1, .int a1), (2, .int a2), (3, .int a3), (4, .int a4), (5, .int a5), (14, .long a14), (16, .long a16)] [] 136 := by
  intro a1 a2 a3 a4 a5 a14 a16 m0  h
  unfold f_M_isGuilty_136 at h
  refine gk_lload (pc := 136) K d_M_isGuilty_136 rfl ?_
  refine gk_lconst (pc := 138) K d_M_isGuilty_138 kl_0 ?_
  refine gk_lc_ge (tgt := 152) (pc := 139) K d_M_isGuilty_139 d_M_isGuilty_140 (by decide) h (fun h => ?_) (fun h => ?_)
  · exact gk_sub [0, 1, 2, 3, 4, 5, 6, 7] rfl (s_M_isGuilty_152 K _ _ _ _ _ _ _ _  h)
  · refine gk_lload (pc := 143) K d_M_isGuilty_143 rfl ?_
    refine gk_lconst (pc := 145) K d_M_isGuilty_145 kl_0 ?_
    refine gk_lc_ge (tgt := 152) (pc := 146) K d_M_isGuilty_146 d_M_isGuilty_147 (by decide) h (fun h => ?_) (fun h => ?_)
    · exact gk_sub [0, 1, 2, 3, 4, 5, 6, 7] rfl (s_M_isGuilty_152 K _ _ _ _ _ _ _ _  h)
    · refine gk_iconst (pc := 150) K d_M_isGuilty_150 kc_0 ?_
      exact gk_zretc (pc := 151) K d_M_isGuilty_151 rfl (Or.inl rfl) h
noncomputable def f_M_isGuilty_122  (a1 : Int32) (a2 : Int32) (a3 : Int32) (a4 : Int32) (a5 : Int32) (a14 : Int64) (a16 : Int64) (m0 : gk_M) : Option (Int32 × gk_M) :=
  if a14 ≤ 0 then
    f_M_isGuilty_136 a1 a2 a3 a4 a5 a14 a16 m0
  else
    if 0 < a16 then
      some (0, m0)
    else
      f_M_isGuilty_136 a1 a2 a3 a4 a5 a14 a16 m0

theorem s_M_isGuilty_122 {z : gk_Z} (K : gk_F tm z me_M_isGuilty 69) {r : Int32} {mem2 : gk_M} : ∀ a1 a2 a3 a4 a5 a14 a16 m0, f_M_isGuilty_122 a1 a2 a3 a4 a5 a14 a16 m0 = some (r, mem2) → gk_G tm z me_M_isGuilty (gk_R tm z (some (.int r)) mem2) m0 [(0, .ref 0), (1, .int a1), (2, .int a2), (3, .int a3), (4, .int a4), (5, .int a5), (14, .long a14), (16, .long a16)] [] 122 := by
  intro a1 a2 a3 a4 a5 a14 a16 m0  h
  unfold f_M_isGuilty_122 at h
  refine gk_lload (pc := 122) K d_M_isGuilty_122 rfl ?_
  refine gk_lconst (pc := 124) K d_M_isGuilty_124 kl_0 ?_
  refine gk_lc_le (tgt := 136) (pc := 125) K d_M_isGuilty_125 d_M_isGuilty_126 (by decide) h (fun h => ?_) (fun h => ?_)
  · exact gk_sub [0, 1, 2, 3, 4, 5, 6, 7] rfl (s_M_isGuilty_136 K _ _ _ _ _ _ _ _  h)
  · refine gk_lload (pc := 129) K d_M_isGuilty_129 rfl ?_
    refine gk_lconst (pc := 131) K d_M_isGuilty_131 kl_0 ?_
    refine gk_lc_gt (tgt := 150) (pc := 132) K d_M_isGuilty_132 d_M_isGuilty_133 (by decide) h (fun h => ?_) (fun h => ?_)
    · refine gk_iconst (pc := 150) K d_M_isGuilty_150 kc_0 ?_
      exact gk_zretc (pc := 151) K d_M_isGuilty_151 rfl (Or.inl rfl) h
    · exact gk_sub [0, 1, 2, 3, 4, 5, 6, 7] rfl (s_M_isGuilty_136 K _ _ _ _ _ _ _ _  h)
noncomputable def f_M_isGuilty  (a1 : Int32) (a2 : Int32) (a3 : Int32) (a4 : Int32) (a5 : Int32) (m0 : gk_M) : Option (Int32 × gk_M) :=
  gk_ai m0 5 20 a3 fun v1 =>
  gk_let (gk_rem v1 30).toInt64 fun v2 =>
  gk_ai m0 5 20 a3 fun v3 =>
  gk_let (v3 / 30).toInt64 fun v4 =>
  gk_ai m0 5 20 a4 fun v5 =>
  gk_let (gk_rem v5 30).toInt64 fun v6 =>
  gk_ai m0 5 20 a4 fun v7 =>
  gk_let (v7 / 30).toInt64 fun v8 =>
  gk_bl (f_M_side v2 v4 v6 v8 (gk_rem a1 30).toInt64 (a1 / 30).toInt64 m0) fun v10 m9 =>
  gk_bl (f_M_side v2 v4 v6 v8 (gk_rem a2 30).toInt64 (a2 / 30).toInt64 m9) fun v12 m11 =>
  if ¬ v10 = 0 then
    f_M_isGuilty_122 a1 a2 a3 a4 a5 v10 v12 m11
  else
    if ¬ v12 = 0 then
      f_M_isGuilty_122 a1 a2 a3 a4 a5 v10 v12 m11
    else
      gk_bi (f_M_isAlong a1 a2 a3 a4 a5 m11) fun v14 m13 =>
      gk_zz v14 (some (v14, m13))

theorem s_M_isGuilty_0 {z : gk_Z} (K : gk_F tm z me_M_isGuilty 69) {r : Int32} {mem2 : gk_M} : ∀ a1 a2 a3 a4 a5 m0, f_M_isGuilty a1 a2 a3 a4 a5 m0 = some (r, mem2) → gk_G tm z me_M_isGuilty (gk_R tm z (some (.int r)) mem2) m0 [(0, .ref 0), (1, .int a1), (2, .int a2), (3, .int a3), (4, .int a4), (5, .int a5)] [] 0 := by
  intro a1 a2 a3 a4 a5 m0  h
  unfold f_M_isGuilty at h
  refine gk_aload_n (pc := 0) K d_M_isGuilty_0 rfl ?_
  refine gk_get (pc := 1) K d_M_isGuilty_1 fl_M_22 tm_0 rfl rfl ?_
  refine gk_iload_n (pc := 4) K d_M_isGuilty_4 rfl ?_
  refine gk_iald (pc := 5) K d_M_isGuilty_5 tm_5 h (fun v1 h => ?_)
  refine gk_bipush (pc := 6) K d_M_isGuilty_6 kb_30 ?_
  refine gk_iremc2 (pc := 8) K d_M_isGuilty_8 (by decide) ?_
  refine gk_i2l (pc := 9) K d_M_isGuilty_9 ?_
  refine gk_topl h (fun v2 h => ?_)
  refine gk_lstore (lv2 := [(6, .long v2), (0, .ref 0), (1, .int a1), (2, .int a2), (3, .int a3), (4, .int a4), (5, .int a5)]) (pc := 10) K d_M_isGuilty_10 (by decide) rfl ?_
  refine gk_aload_n (pc := 12) K d_M_isGuilty_12 rfl ?_
  refine gk_get (pc := 13) K d_M_isGuilty_13 fl_M_22 tm_0 rfl rfl ?_
  refine gk_iload_n (pc := 16) K d_M_isGuilty_16 rfl ?_
  refine gk_iald (pc := 17) K d_M_isGuilty_17 tm_5 h (fun v3 h => ?_)
  refine gk_bipush (pc := 18) K d_M_isGuilty_18 kb_30 ?_
  refine gk_idivc2 (pc := 20) K d_M_isGuilty_20 (by decide) ?_
  refine gk_i2l (pc := 21) K d_M_isGuilty_21 ?_
  refine gk_topl h (fun v4 h => ?_)
  refine gk_lstore (lv2 := [(8, .long v4), (6, .long v2), (0, .ref 0), (1, .int a1), (2, .int a2), (3, .int a3), (4, .int a4), (5, .int a5)]) (pc := 22) K d_M_isGuilty_22 (by decide) rfl ?_
  refine gk_aload_n (pc := 24) K d_M_isGuilty_24 rfl ?_
  refine gk_get (pc := 25) K d_M_isGuilty_25 fl_M_22 tm_0 rfl rfl ?_
  refine gk_iload (pc := 28) K d_M_isGuilty_28 rfl ?_
  refine gk_iald (pc := 30) K d_M_isGuilty_30 tm_5 h (fun v5 h => ?_)
  refine gk_bipush (pc := 31) K d_M_isGuilty_31 kb_30 ?_
  refine gk_iremc2 (pc := 33) K d_M_isGuilty_33 (by decide) ?_
  refine gk_i2l (pc := 34) K d_M_isGuilty_34 ?_
  refine gk_topl h (fun v6 h => ?_)
  refine gk_lstore (lv2 := [(10, .long v6), (8, .long v4), (6, .long v2), (0, .ref 0), (1, .int a1), (2, .int a2), (3, .int a3), (4, .int a4), (5, .int a5)]) (pc := 35) K d_M_isGuilty_35 (by decide) rfl ?_
  refine gk_aload_n (pc := 37) K d_M_isGuilty_37 rfl ?_
  refine gk_get (pc := 38) K d_M_isGuilty_38 fl_M_22 tm_0 rfl rfl ?_
  refine gk_iload (pc := 41) K d_M_isGuilty_41 rfl ?_
  refine gk_iald (pc := 43) K d_M_isGuilty_43 tm_5 h (fun v7 h => ?_)
  refine gk_bipush (pc := 44) K d_M_isGuilty_44 kb_30 ?_
  refine gk_idivc2 (pc := 46) K d_M_isGuilty_46 (by decide) ?_
  refine gk_i2l (pc := 47) K d_M_isGuilty_47 ?_
  refine gk_topl h (fun v8 h => ?_)
  refine gk_lstore (lv2 := [(12, .long v8), (10, .long v6), (8, .long v4), (6, .long v2), (0, .ref 0), (1, .int a1), (2, .int a2), (3, .int a3), (4, .int a4), (5, .int a5)]) (pc := 48) K d_M_isGuilty_48 (by decide) rfl ?_
  refine gk_lload (pc := 50) K d_M_isGuilty_50 rfl ?_
  refine gk_lload (pc := 52) K d_M_isGuilty_52 rfl ?_
  refine gk_lload (pc := 54) K d_M_isGuilty_54 rfl ?_
  refine gk_lload (pc := 56) K d_M_isGuilty_56 rfl ?_
  refine gk_iload_n (pc := 58) K d_M_isGuilty_58 rfl ?_
  refine gk_bipush (pc := 59) K d_M_isGuilty_59 kb_30 ?_
  refine gk_iremc2 (pc := 61) K d_M_isGuilty_61 (by decide) ?_
  refine gk_i2l (pc := 62) K d_M_isGuilty_62 ?_
  refine gk_iload_n (pc := 63) K d_M_isGuilty_63 rfl ?_
  refine gk_bipush (pc := 64) K d_M_isGuilty_64 kb_30 ?_
  refine gk_idivc2 (pc := 66) K d_M_isGuilty_66 (by decide) ?_
  refine gk_i2l (pc := 67) K d_M_isGuilty_67 ?_
  obtain ⟨v10, m9, em9, h⟩ := gk_bl_some h
  refine gk_cSl (As := [.long v2, .long v4, .long v6, .long v8, .long (gk_rem a1 30).toInt64, .long (a1 / 30).toInt64]) (pc := 68) K d_M_isGuilty_68 ms_M_216 mc_M_side rfl (s_M_side (gk_FD K)  em9) (by decide) rfl (Nat.le_of_ble_eq_true rfl) ?_
  refine gk_lstore (lv2 := [(14, .long v10), (12, .long v8), (10, .long v6), (8, .long v4), (6, .long v2), (0, .ref 0), (1, .int a1), (2, .int a2), (3, .int a3), (4, .int a4), (5, .int a5)]) (pc := 71) K d_M_isGuilty_71 (by decide) rfl ?_
  refine gk_lload (pc := 73) K d_M_isGuilty_73 rfl ?_
  refine gk_lload (pc := 75) K d_M_isGuilty_75 rfl ?_
  refine gk_lload (pc := 77) K d_M_isGuilty_77 rfl ?_
  refine gk_lload (pc := 79) K d_M_isGuilty_79 rfl ?_
  refine gk_iload_n (pc := 81) K d_M_isGuilty_81 rfl ?_
  refine gk_bipush (pc := 82) K d_M_isGuilty_82 kb_30 ?_
  refine gk_iremc2 (pc := 84) K d_M_isGuilty_84 (by decide) ?_
  refine gk_i2l (pc := 85) K d_M_isGuilty_85 ?_
  refine gk_iload_n (pc := 86) K d_M_isGuilty_86 rfl ?_
  refine gk_bipush (pc := 87) K d_M_isGuilty_87 kb_30 ?_
  refine gk_idivc2 (pc := 89) K d_M_isGuilty_89 (by decide) ?_
  refine gk_i2l (pc := 90) K d_M_isGuilty_90 ?_
  obtain ⟨v12, m11, em11, h⟩ := gk_bl_some h
  refine gk_cSl (As := [.long v2, .long v4, .long v6, .long v8, .long (gk_rem a2 30).toInt64, .long (a2 / 30).toInt64]) (pc := 91) K d_M_isGuilty_91 ms_M_216 mc_M_side rfl (s_M_side (gk_FD K)  em11) (by decide) rfl (Nat.le_of_ble_eq_true rfl) ?_
  refine gk_lstore (lv2 := [(16, .long v12), (14, .long v10), (12, .long v8), (10, .long v6), (8, .long v4), (6, .long v2), (0, .ref 0), (1, .int a1), (2, .int a2), (3, .int a3), (4, .int a4), (5, .int a5)]) (pc := 94) K d_M_isGuilty_94 (by decide) rfl ?_
  refine gk_lload (pc := 96) K d_M_isGuilty_96 rfl ?_
  refine gk_lconst (pc := 98) K d_M_isGuilty_98 kl_0 ?_
  refine gk_lc_ne (tgt := 122) (pc := 99) K d_M_isGuilty_99 d_M_isGuilty_100 (by decide) h (fun h => ?_) (fun h => ?_)
  · exact gk_sub [6, 7, 8, 9, 10, 11, 1, 0] rfl (s_M_isGuilty_122 K _ _ _ _ _ _ _ _  h)
  · refine gk_lload (pc := 103) K d_M_isGuilty_103 rfl ?_
    refine gk_lconst (pc := 105) K d_M_isGuilty_105 kl_0 ?_
    refine gk_lc_ne (tgt := 122) (pc := 106) K d_M_isGuilty_106 d_M_isGuilty_107 (by decide) h (fun h => ?_) (fun h => ?_)
    · exact gk_sub [6, 7, 8, 9, 10, 11, 1, 0] rfl (s_M_isGuilty_122 K _ _ _ _ _ _ _ _  h)
    · refine gk_aload_n (pc := 110) K d_M_isGuilty_110 rfl ?_
      refine gk_iload_n (pc := 111) K d_M_isGuilty_111 rfl ?_
      refine gk_iload_n (pc := 112) K d_M_isGuilty_112 rfl ?_
      refine gk_iload_n (pc := 113) K d_M_isGuilty_113 rfl ?_
      refine gk_iload (pc := 114) K d_M_isGuilty_114 rfl ?_
      refine gk_iload (pc := 116) K d_M_isGuilty_116 rfl ?_
      obtain ⟨v14, m13, em13, h⟩ := gk_bi_some h
      refine gk_cVi (As := [.int a1, .int a2, .int a3, .int a4, .int a5]) (pc := 118) K d_M_isGuilty_118 mv_M_271 mc_M_isAlong rfl tm_0 cl_ok10.1 (s_M_isAlong (gk_FD K)  em13) (by decide) rfl (Nat.le_of_ble_eq_true rfl) ?_
      exact gk_zret (pc := 121) K d_M_isGuilty_121 rfl h
theorem s_M_isGuilty {l : Launch} {u : gk_U} (hD : gk_D tm u) {a1 : Int32} {a2 : Int32} {a3 : Int32} {a4 : Int32} {a5 : Int32} {m0 mem2 : gk_M} {r : Int32} (h : f_M_isGuilty a1 a2 a3 a4 a5 m0 = some (r, mem2)) : gk_C tm l u me_M_isGuilty 69 [.ref 0, .int a1, .int a2, .int a3, .int a4, .int a5] m0 (some (.int r)) mem2 :=
  gk_enter hD mc_M_isGuilty (Nat.le_of_ble_eq_true rfl) rfl (fun z _ _ K => s_M_isGuilty_0 K _ _ _ _ _ _  h)
theorem d_M_isGuiltyOn_0 : decode me_M_isGuiltyOn.2.1 0 = .ok (.aload_n 0, 1) := by decide +kernel
theorem d_M_isGuiltyOn_1 : decode me_M_isGuiltyOn.2.1 1 = .ok (.aload_n 0, 1) := by decide +kernel
theorem d_M_isGuiltyOn_2 : decode me_M_isGuiltyOn.2.1 2 = .ok (.iload_n 1, 1) := by decide +kernel
theorem d_M_isGuiltyOn_3 : decode me_M_isGuiltyOn.2.1 3 = .ok (.iload_n 2, 1) := by decide +kernel
theorem d_M_isGuiltyOn_4 : decode me_M_isGuiltyOn.2.1 4 = .ok (.invokevirtual 275, 3) := by decide +kernel
theorem d_M_isGuiltyOn_7 : decode me_M_isGuiltyOn.2.1 7 = .ok (.aload_n 0, 1) := by decide +kernel
theorem d_M_isGuiltyOn_8 : decode me_M_isGuiltyOn.2.1 8 = .ok (.iload_n 1, 1) := by decide +kernel
theorem d_M_isGuiltyOn_9 : decode me_M_isGuiltyOn.2.1 9 = .ok (.iload_n 2, 1) := by decide +kernel
theorem d_M_isGuiltyOn_10 : decode me_M_isGuiltyOn.2.1 10 = .ok (.iconst 1, 1) := by decide +kernel
theorem d_M_isGuiltyOn_11 : decode me_M_isGuiltyOn.2.1 11 = .ok (.iadd, 1) := by decide +kernel
theorem d_M_isGuiltyOn_12 : decode me_M_isGuiltyOn.2.1 12 = .ok (.invokevirtual 275, 3) := by decide +kernel
theorem d_M_isGuiltyOn_15 : decode me_M_isGuiltyOn.2.1 15 = .ok (.iload_n 3, 1) := by decide +kernel
theorem d_M_isGuiltyOn_16 : decode me_M_isGuiltyOn.2.1 16 = .ok (.iload 4, 2) := by decide +kernel
theorem d_M_isGuiltyOn_18 : decode me_M_isGuiltyOn.2.1 18 = .ok (.iload_n 1, 1) := by decide +kernel
theorem d_M_isGuiltyOn_19 : decode me_M_isGuiltyOn.2.1 19 = .ok (.invokevirtual 278, 3) := by decide +kernel
theorem d_M_isGuiltyOn_22 : decode me_M_isGuiltyOn.2.1 22 = .ok (.ireturn, 1) := by decide +kernel
noncomputable def f_M_isGuiltyOn  (a1 : Int32) (a2 : Int32) (a3 : Int32) (a4 : Int32) (m0 : gk_M) : Option (Int32 × gk_M) :=
  gk_bi (f_M_cornerOf a1 a2 m0) fun v2 m1 =>
  gk_bi (f_M_cornerOf a1 (a2 + 1) m1) fun v4 m3 =>
  gk_bi (f_M_isGuilty v2 v4 a3 a4 a1 m3) fun v6 m5 =>
  gk_zz v6 (some (v6, m5))

theorem s_M_isGuiltyOn_0 {z : gk_Z} (K : gk_F tm z me_M_isGuiltyOn 70) {r : Int32} {mem2 : gk_M} : ∀ a1 a2 a3 a4 m0, f_M_isGuiltyOn a1 a2 a3 a4 m0 = some (r, mem2) → gk_G tm z me_M_isGuiltyOn (gk_R tm z (some (.int r)) mem2) m0 [(0, .ref 0), (1, .int a1), (2, .int a2), (3, .int a3), (4, .int a4)] [] 0 := by
  intro a1 a2 a3 a4 m0  h
  unfold f_M_isGuiltyOn at h
  refine gk_aload_n (pc := 0) K d_M_isGuiltyOn_0 rfl ?_
  refine gk_aload_n (pc := 1) K d_M_isGuiltyOn_1 rfl ?_
  refine gk_iload_n (pc := 2) K d_M_isGuiltyOn_2 rfl ?_
  refine gk_iload_n (pc := 3) K d_M_isGuiltyOn_3 rfl ?_
  obtain ⟨v2, m1, em1, h⟩ := gk_bi_some h
  refine gk_cVi (As := [.int a1, .int a2]) (pc := 4) K d_M_isGuiltyOn_4 mv_M_275 mc_M_cornerOf rfl tm_0 cl_ok10.1 (s_M_cornerOf (gk_FD K)  em1) (by decide) rfl (Nat.le_of_ble_eq_true rfl) ?_
  refine gk_aload_n (pc := 7) K d_M_isGuiltyOn_7 rfl ?_
  refine gk_iload_n (pc := 8) K d_M_isGuiltyOn_8 rfl ?_
  refine gk_iload_n (pc := 9) K d_M_isGuiltyOn_9 rfl ?_
  refine gk_iconst (pc := 10) K d_M_isGuiltyOn_10 kc_1 ?_
  refine gk_iadd (pc := 11) K d_M_isGuiltyOn_11 ?_
  obtain ⟨v4, m3, em3, h⟩ := gk_bi_some h
  refine gk_cVi (As := [.int a1, .int (a2 + 1)]) (pc := 12) K d_M_isGuiltyOn_12 mv_M_275 mc_M_cornerOf rfl tm_0 cl_ok10.1 (s_M_cornerOf (gk_FD K)  em3) (by decide) rfl (Nat.le_of_ble_eq_true rfl) ?_
  refine gk_iload_n (pc := 15) K d_M_isGuiltyOn_15 rfl ?_
  refine gk_iload (pc := 16) K d_M_isGuiltyOn_16 rfl ?_
  refine gk_iload_n (pc := 18) K d_M_isGuiltyOn_18 rfl ?_
  obtain ⟨v6, m5, em5, h⟩ := gk_bi_some h
  refine gk_cVi (As := [.int v2, .int v4, .int a3, .int a4, .int a1]) (pc := 19) K d_M_isGuiltyOn_19 mv_M_278 mc_M_isGuilty rfl tm_0 cl_ok10.1 (s_M_isGuilty (gk_FD K)  em5) (by decide) rfl (Nat.le_of_ble_eq_true rfl) ?_
  exact gk_zret (pc := 22) K d_M_isGuiltyOn_22 rfl h
theorem s_M_isGuiltyOn {l : Launch} {u : gk_U} (hD : gk_D tm u) {a1 : Int32} {a2 : Int32} {a3 : Int32} {a4 : Int32} {m0 mem2 : gk_M} {r : Int32} (h : f_M_isGuiltyOn a1 a2 a3 a4 m0 = some (r, mem2)) : gk_C tm l u me_M_isGuiltyOn 70 [.ref 0, .int a1, .int a2, .int a3, .int a4] m0 (some (.int r)) mem2 :=
  gk_enter hD mc_M_isGuiltyOn (Nat.le_of_ble_eq_true rfl) rfl (fun z _ _ K => s_M_isGuiltyOn_0 K _ _ _ _ _  h)
theorem d_M_common_0 : decode me_M_common.2.1 0 = .ok (.lload_n 0, 1) := by decide +kernel
theorem d_M_common_1 : decode me_M_common.2.1 1 = .ok (.lstore 4, 2) := by decide +kernel
theorem d_M_common_3 : decode me_M_common.2.1 3 = .ok (.lload_n 2, 1) := by decide +kernel
theorem d_M_common_4 : decode me_M_common.2.1 4 = .ok (.lstore 6, 2) := by decide +kernel
theorem d_M_common_6 : decode me_M_common.2.1 6 = .ok (.lload 6, 2) := by decide +kernel
theorem d_M_common_8 : decode me_M_common.2.1 8 = .ok (.lconst 0, 1) := by decide +kernel
theorem d_M_common_9 : decode me_M_common.2.1 9 = .ok (.lcmp, 1) := by decide +kernel
theorem d_M_common_10 : decode me_M_common.2.1 10 = .ok (.ifCond .eq 21, 3) := by decide +kernel
theorem d_M_common_13 : decode me_M_common.2.1 13 = .ok (.lload 4, 2) := by decide +kernel
theorem d_M_common_15 : decode me_M_common.2.1 15 = .ok (.lload 6, 2) := by decide +kernel
theorem d_M_common_17 : decode me_M_common.2.1 17 = .ok (.lrem, 1) := by decide +kernel
theorem d_M_common_18 : decode me_M_common.2.1 18 = .ok (.lstore 8, 2) := by decide +kernel
theorem d_M_common_20 : decode me_M_common.2.1 20 = .ok (.lload 6, 2) := by decide +kernel
theorem d_M_common_22 : decode me_M_common.2.1 22 = .ok (.lstore 4, 2) := by decide +kernel
theorem d_M_common_24 : decode me_M_common.2.1 24 = .ok (.lload 8, 2) := by decide +kernel
theorem d_M_common_26 : decode me_M_common.2.1 26 = .ok (.lstore 6, 2) := by decide +kernel
theorem d_M_common_28 : decode me_M_common.2.1 28 = .ok (.goto (-22), 3) := by decide +kernel
theorem d_M_common_31 : decode me_M_common.2.1 31 = .ok (.lload 4, 2) := by decide +kernel
theorem d_M_common_33 : decode me_M_common.2.1 33 = .ok (.lreturn, 1) := by decide +kernel
noncomputable def f_M_common_6  : Nat → Int64 → Int64 → gk_M → Option (Int64 × gk_M)
  | 0, _, _, _ => none
  | n + 1, a4, a6, m0 =>
    if a6 = 0 then
      some (a4, m0)
    else
      gk_rl a4 a6 fun v1 =>
      f_M_common_6 n a6 v1 m0

theorem s_M_common_6 {z : gk_Z} (K : gk_F tm z me_M_common 1) {r : Int64} {mem2 : gk_M} : ∀ n a4 a6 m0, f_M_common_6 n a4 a6 m0 = some (r, mem2) → gk_G tm z me_M_common (gk_R tm z (some (.long r)) mem2) m0 [(4, .long a4), (6, .long a6)] [] 6 := by
  intro n
  induction n with
  | zero => intro a4 a6 m0  h; exact nomatch (show (none : Option _) = some _ from h)
  | succ n ih =>
    intro a4 a6 m0  h
    unfold f_M_common_6 at h
    refine gk_lload (pc := 6) K d_M_common_6 rfl ?_
    refine gk_lconst (pc := 8) K d_M_common_8 kl_0 ?_
    refine gk_lc_eq (tgt := 31) (pc := 9) K d_M_common_9 d_M_common_10 (by decide) h (fun h => ?_) (fun h => ?_)
    · refine gk_lload (pc := 31) K d_M_common_31 rfl ?_
      exact gk_lret (pc := 33) K d_M_common_33 rfl h
    · refine gk_lload (pc := 13) K d_M_common_13 rfl ?_
      refine gk_lload (pc := 15) K d_M_common_15 rfl ?_
      refine gk_lrem (pc := 17) K d_M_common_17 h (fun v1 h => ?_)
      refine gk_lstore (lv2 := [(8, .long v1), (4, .long a4), (6, .long a6)]) (pc := 18) K d_M_common_18 (by decide) rfl ?_
      refine gk_lload (pc := 20) K d_M_common_20 rfl ?_
      refine gk_lstore (lv2 := [(4, .long a6), (8, .long v1), (6, .long a6)]) (pc := 22) K d_M_common_22 (by decide) rfl ?_
      refine gk_lload (pc := 24) K d_M_common_24 rfl ?_
      refine gk_lstore (lv2 := [(6, .long v1), (4, .long a6), (8, .long v1)]) (pc := 26) K d_M_common_26 (by decide) rfl ?_
      refine gk_goto (tgt := 6) (pc := 28) K d_M_common_28 (by decide) ?_
      exact gk_sub [1, 0] rfl (ih _ _ _  h)
noncomputable def f_M_common  (a0 : Int64) (a2 : Int64) (m0 : gk_M) : Option (Int64 × gk_M) :=
  f_M_common_6 gk_fv a0 a2 m0

theorem s_M_common_0 {z : gk_Z} (K : gk_F tm z me_M_common 1) {r : Int64} {mem2 : gk_M} : ∀ a0 a2 m0, f_M_common a0 a2 m0 = some (r, mem2) → gk_G tm z me_M_common (gk_R tm z (some (.long r)) mem2) m0 [(0, .long a0), (2, .long a2)] [] 0 := by
  intro a0 a2 m0  h
  unfold f_M_common at h
  refine gk_lload_n (pc := 0) K d_M_common_0 rfl ?_
  refine gk_lstore (lv2 := [(4, .long a0), (0, .long a0), (2, .long a2)]) (pc := 1) K d_M_common_1 (by decide) rfl ?_
  refine gk_lload_n (pc := 3) K d_M_common_3 rfl ?_
  refine gk_lstore (lv2 := [(6, .long a2), (4, .long a0), (0, .long a0), (2, .long a2)]) (pc := 4) K d_M_common_4 (by decide) rfl ?_
  exact gk_sub [1, 0] rfl (s_M_common_6 K _ _ _ _  h)
theorem s_M_common {l : Launch} {u : gk_U} (hD : gk_D tm u) {a0 : Int64} {a2 : Int64} {m0 mem2 : gk_M} {r : Int64} (h : f_M_common a0 a2 m0 = some (r, mem2)) : gk_C tm l u me_M_common 1 [.long a0, .long a2] m0 (some (.long r)) mem2 :=
  gk_enter hD mc_M_common (Nat.le_of_ble_eq_true rfl) rfl (fun z _ _ K => s_M_common_0 K _ _ _  h)
theorem d_M_guilty_0 : decode me_M_guilty.2.1 0 = .ok (.aload_n 0, 1) := by decide +kernel
theorem d_M_guilty_1 : decode me_M_guilty.2.1 1 = .ok (.iload_n 1, 1) := by decide +kernel
theorem d_M_guilty_2 : decode me_M_guilty.2.1 2 = .ok (.invokevirtual 281, 3) := by decide +kernel
theorem d_M_guilty_5 : decode me_M_guilty.2.1 5 = .ok (.ifCond .eq 21, 3) := by decide +kernel
theorem d_M_guilty_8 : decode me_M_guilty.2.1 8 = .ok (.aload_n 0, 1) := by decide +kernel
theorem d_M_guilty_9 : decode me_M_guilty.2.1 9 = .ok (.iload_n 2, 1) := by decide +kernel
theorem d_M_guilty_10 : decode me_M_guilty.2.1 10 = .ok (.invokevirtual 255, 3) := by decide +kernel
theorem d_M_guilty_13 : decode me_M_guilty.2.1 13 = .ok (.ifCond .eq 13, 3) := by decide +kernel
theorem d_M_guilty_16 : decode me_M_guilty.2.1 16 = .ok (.iload_n 3, 1) := by decide +kernel
theorem d_M_guilty_17 : decode me_M_guilty.2.1 17 = .ok (.i2l, 1) := by decide +kernel
theorem d_M_guilty_18 : decode me_M_guilty.2.1 18 = .ok (.lconst 0, 1) := by decide +kernel
theorem d_M_guilty_19 : decode me_M_guilty.2.1 19 = .ok (.lconst 1, 1) := by decide +kernel
theorem d_M_guilty_20 : decode me_M_guilty.2.1 20 = .ok (.invokestatic 102, 3) := by decide +kernel
theorem d_M_guilty_23 : decode me_M_guilty.2.1 23 = .ok (.ifCond .ne 5, 3) := by decide +kernel
theorem d_M_guilty_26 : decode me_M_guilty.2.1 26 = .ok (.iconst (-1), 1) := by decide +kernel
theorem d_M_guilty_27 : decode me_M_guilty.2.1 27 = .ok (.ireturn, 1) := by decide +kernel
theorem d_M_guilty_28 : decode me_M_guilty.2.1 28 = .ok (.aload_n 0, 1) := by decide +kernel
theorem d_M_guilty_29 : decode me_M_guilty.2.1 29 = .ok (.iload_n 1, 1) := by decide +kernel
theorem d_M_guilty_30 : decode me_M_guilty.2.1 30 = .ok (.bipush 10, 2) := by decide +kernel
theorem d_M_guilty_32 : decode me_M_guilty.2.1 32 = .ok (.idiv, 1) := by decide +kernel
theorem d_M_guilty_33 : decode me_M_guilty.2.1 33 = .ok (.iload_n 1, 1) := by decide +kernel
theorem d_M_guilty_34 : decode me_M_guilty.2.1 34 = .ok (.bipush 10, 2) := by decide +kernel
theorem d_M_guilty_36 : decode me_M_guilty.2.1 36 = .ok (.irem, 1) := by decide +kernel
theorem d_M_guilty_37 : decode me_M_guilty.2.1 37 = .ok (.iload_n 2, 1) := by decide +kernel
theorem d_M_guilty_38 : decode me_M_guilty.2.1 38 = .ok (.bipush 10, 2) := by decide +kernel
theorem d_M_guilty_40 : decode me_M_guilty.2.1 40 = .ok (.idiv, 1) := by decide +kernel
theorem d_M_guilty_41 : decode me_M_guilty.2.1 41 = .ok (.iload_n 2, 1) := by decide +kernel
theorem d_M_guilty_42 : decode me_M_guilty.2.1 42 = .ok (.bipush 10, 2) := by decide +kernel
theorem d_M_guilty_44 : decode me_M_guilty.2.1 44 = .ok (.irem, 1) := by decide +kernel
theorem d_M_guilty_45 : decode me_M_guilty.2.1 45 = .ok (.invokevirtual 284, 3) := by decide +kernel
theorem d_M_guilty_48 : decode me_M_guilty.2.1 48 = .ok (.ifCond .ne 6, 3) := by decide +kernel
theorem d_M_guilty_51 : decode me_M_guilty.2.1 51 = .ok (.bipush (-2), 2) := by decide +kernel
theorem d_M_guilty_53 : decode me_M_guilty.2.1 53 = .ok (.ireturn, 1) := by decide +kernel
theorem d_M_guilty_54 : decode me_M_guilty.2.1 54 = .ok (.aload_n 0, 1) := by decide +kernel
theorem d_M_guilty_55 : decode me_M_guilty.2.1 55 = .ok (.getfield 264, 3) := by decide +kernel
theorem d_M_guilty_58 : decode me_M_guilty.2.1 58 = .ok (.aload_n 0, 1) := by decide +kernel
theorem d_M_guilty_59 : decode me_M_guilty.2.1 59 = .ok (.getfield 268, 3) := by decide +kernel
theorem d_M_guilty_62 : decode me_M_guilty.2.1 62 = .ok (.invokestatic 287, 3) := by decide +kernel
theorem d_M_guilty_65 : decode me_M_guilty.2.1 65 = .ok (.lstore 4, 2) := by decide +kernel
theorem d_M_guilty_67 : decode me_M_guilty.2.1 67 = .ok (.iload_n 3, 1) := by decide +kernel
theorem d_M_guilty_68 : decode me_M_guilty.2.1 68 = .ok (.ifCond .ne 13, 3) := by decide +kernel
theorem d_M_guilty_71 : decode me_M_guilty.2.1 71 = .ok (.aload_n 0, 1) := by decide +kernel
theorem d_M_guilty_72 : decode me_M_guilty.2.1 72 = .ok (.getfield 264, 3) := by decide +kernel
theorem d_M_guilty_75 : decode me_M_guilty.2.1 75 = .ok (.lload 4, 2) := by decide +kernel
theorem d_M_guilty_77 : decode me_M_guilty.2.1 77 = .ok (.ldiv, 1) := by decide +kernel
theorem d_M_guilty_78 : decode me_M_guilty.2.1 78 = .ok (.goto 10, 3) := by decide +kernel
theorem d_M_guilty_81 : decode me_M_guilty.2.1 81 = .ok (.aload_n 0, 1) := by decide +kernel
theorem d_M_guilty_82 : decode me_M_guilty.2.1 82 = .ok (.getfield 268, 3) := by decide +kernel
theorem d_M_guilty_85 : decode me_M_guilty.2.1 85 = .ok (.lload 4, 2) := by decide +kernel
theorem d_M_guilty_87 : decode me_M_guilty.2.1 87 = .ok (.ldiv, 1) := by decide +kernel
theorem d_M_guilty_88 : decode me_M_guilty.2.1 88 = .ok (.l2i, 1) := by decide +kernel
theorem d_M_guilty_89 : decode me_M_guilty.2.1 89 = .ok (.ireturn, 1) := by decide +kernel
noncomputable def f_M_guilty_88  (s0 : Int64) (m0 : gk_M) : Option (Int32 × gk_M) :=
  some (s0.toInt32, m0)

theorem s_M_guilty_88 {z : gk_Z} (K : gk_F tm z me_M_guilty 71) {r : Int32} {mem2 : gk_M} : ∀ s0 m0, f_M_guilty_88 s0 m0 = some (r, mem2) → gk_G tm z me_M_guilty (gk_R tm z (some (.int r)) mem2) m0 [] [.long s0] 88 := by
  intro s0 m0  h
  unfold f_M_guilty_88 at h
  refine gk_l2i (pc := 88) K d_M_guilty_88 ?_
  exact gk_iret (pc := 89) K d_M_guilty_89 rfl h
noncomputable def f_M_guilty  (a1 : Int32) (a2 : Int32) (a3 : Int32) (m0 : gk_M) : Option (Int32 × gk_M) :=
  gk_bi (f_M_isStretch a1 m0) fun v2 m1 =>
  if v2 = 0 then
    some ((-1), m1)
  else
    gk_bi (f_M_areTwo a2 m1) fun v4 m3 =>
    if v4 = 0 then
      some ((-1), m3)
    else
      gk_bi (f_M_within a3.toInt64 0 1 m3) fun v6 m5 =>
      if ¬ v6 = 0 then
        gk_bi (f_M_isGuiltyOn (a1 / 10) (gk_rem a1 10) (a2 / 10) (gk_rem a2 10) m5) fun v8 m7 =>
        if ¬ v8 = 0 then
          gk_bl (f_M_common (m7.2 0 25) (m7.2 0 26) m7) fun v10 m9 =>
          if ¬ a3 = 0 then
            gk_dl (m9.2 0 26) v10 fun v11 =>
            f_M_guilty_88 v11 m9
          else
            gk_dl (m9.2 0 25) v10 fun v12 =>
            f_M_guilty_88 v12 m9
        else
          some ((-2), m7)
      else
        some ((-1), m5)

theorem s_M_guilty_0 {z : gk_Z} (K : gk_F tm z me_M_guilty 71) {r : Int32} {mem2 : gk_M} : ∀ a1 a2 a3 m0, f_M_guilty a1 a2 a3 m0 = some (r, mem2) → gk_G tm z me_M_guilty (gk_R tm z (some (.int r)) mem2) m0 [(0, .ref 0), (1, .int a1), (2, .int a2), (3, .int a3)] [] 0 := by
  intro a1 a2 a3 m0  h
  unfold f_M_guilty at h
  refine gk_aload_n (pc := 0) K d_M_guilty_0 rfl ?_
  refine gk_iload_n (pc := 1) K d_M_guilty_1 rfl ?_
  obtain ⟨v2, m1, em1, h⟩ := gk_bi_some h
  refine gk_cVi (As := [.int a1]) (pc := 2) K d_M_guilty_2 mv_M_281 mc_M_isStretch rfl tm_0 cl_ok10.1 (s_M_isStretch (gk_FD K)  em1) (by decide) rfl (Nat.le_of_ble_eq_true rfl) ?_
  refine gk_if_eq (tgt := 26) (pc := 5) K d_M_guilty_5 (by decide) h (fun h => ?_) (fun h => ?_)
  · refine gk_iconst (pc := 26) K d_M_guilty_26 kc_m1 ?_
    exact gk_iret (pc := 27) K d_M_guilty_27 rfl h
  · refine gk_aload_n (pc := 8) K d_M_guilty_8 rfl ?_
    refine gk_iload_n (pc := 9) K d_M_guilty_9 rfl ?_
    obtain ⟨v4, m3, em3, h⟩ := gk_bi_some h
    refine gk_cVi (As := [.int a2]) (pc := 10) K d_M_guilty_10 mv_M_255 mc_M_areTwo rfl tm_0 cl_ok10.1 (s_M_areTwo (gk_FD K)  em3) (by decide) rfl (Nat.le_of_ble_eq_true rfl) ?_
    refine gk_if_eq (tgt := 26) (pc := 13) K d_M_guilty_13 (by decide) h (fun h => ?_) (fun h => ?_)
    · refine gk_iconst (pc := 26) K d_M_guilty_26 kc_m1 ?_
      exact gk_iret (pc := 27) K d_M_guilty_27 rfl h
    · refine gk_iload_n (pc := 16) K d_M_guilty_16 rfl ?_
      refine gk_i2l (pc := 17) K d_M_guilty_17 ?_
      refine gk_lconst (pc := 18) K d_M_guilty_18 kl_0 ?_
      refine gk_lconst (pc := 19) K d_M_guilty_19 kl_1 ?_
      obtain ⟨v6, m5, em5, h⟩ := gk_bi_some h
      refine gk_cSi (As := [.long a3.toInt64, .long 0, .long 1]) (pc := 20) K d_M_guilty_20 ms_M_102 mc_M_within rfl (s_M_within (gk_FD K)  em5) (by decide) rfl (Nat.le_of_ble_eq_true rfl) ?_
      refine gk_if_ne (tgt := 28) (pc := 23) K d_M_guilty_23 (by decide) h (fun h => ?_) (fun h => ?_)
      · refine gk_aload_n (pc := 28) K d_M_guilty_28 rfl ?_
        refine gk_iload_n (pc := 29) K d_M_guilty_29 rfl ?_
        refine gk_bipush (pc := 30) K d_M_guilty_30 kb_10 ?_
        refine gk_idivc2 (pc := 32) K d_M_guilty_32 (by decide) ?_
        refine gk_iload_n (pc := 33) K d_M_guilty_33 rfl ?_
        refine gk_bipush (pc := 34) K d_M_guilty_34 kb_10 ?_
        refine gk_iremc2 (pc := 36) K d_M_guilty_36 (by decide) ?_
        refine gk_iload_n (pc := 37) K d_M_guilty_37 rfl ?_
        refine gk_bipush (pc := 38) K d_M_guilty_38 kb_10 ?_
        refine gk_idivc2 (pc := 40) K d_M_guilty_40 (by decide) ?_
        refine gk_iload_n (pc := 41) K d_M_guilty_41 rfl ?_
        refine gk_bipush (pc := 42) K d_M_guilty_42 kb_10 ?_
        refine gk_iremc2 (pc := 44) K d_M_guilty_44 (by decide) ?_
        obtain ⟨v8, m7, em7, h⟩ := gk_bi_some h
        refine gk_cVi (As := [.int (a1 / 10), .int (gk_rem a1 10), .int (a2 / 10), .int (gk_rem a2 10)]) (pc := 45) K d_M_guilty_45 mv_M_284 mc_M_isGuiltyOn rfl tm_0 cl_ok10.1 (s_M_isGuiltyOn (gk_FD K)  em7) (by decide) rfl (Nat.le_of_ble_eq_true rfl) ?_
        refine gk_if_ne (tgt := 54) (pc := 48) K d_M_guilty_48 (by decide) h (fun h => ?_) (fun h => ?_)
        · refine gk_aload_n (pc := 54) K d_M_guilty_54 rfl ?_
          refine gk_get (pc := 55) K d_M_guilty_55 fl_M_264 tm_0 rfl rfl ?_
          refine gk_aload_n (pc := 58) K d_M_guilty_58 rfl ?_
          refine gk_get (pc := 59) K d_M_guilty_59 fl_M_268 tm_0 rfl rfl ?_
          obtain ⟨v10, m9, em9, h⟩ := gk_bl_some h
          refine gk_cSl (As := [.long (m7.2 0 25), .long (m7.2 0 26)]) (pc := 62) K d_M_guilty_62 ms_M_287 mc_M_common rfl (s_M_common (gk_FD K)  em9) (by decide) rfl (Nat.le_of_ble_eq_true rfl) ?_
          refine gk_lstore (lv2 := [(4, .long v10), (0, .ref 0), (1, .int a1), (2, .int a2), (3, .int a3)]) (pc := 65) K d_M_guilty_65 (by decide) rfl ?_
          refine gk_iload_n (pc := 67) K d_M_guilty_67 rfl ?_
          refine gk_if_ne (tgt := 81) (pc := 68) K d_M_guilty_68 (by decide) h (fun h => ?_) (fun h => ?_)
          · refine gk_aload_n (pc := 81) K d_M_guilty_81 rfl ?_
            refine gk_get (pc := 82) K d_M_guilty_82 fl_M_268 tm_0 rfl rfl ?_
            refine gk_lload (pc := 85) K d_M_guilty_85 rfl ?_
            refine gk_ldiv (pc := 87) K d_M_guilty_87 h (fun v11 h => ?_)
            exact gk_sub [] rfl (s_M_guilty_88 K _ _  h)
          · refine gk_aload_n (pc := 71) K d_M_guilty_71 rfl ?_
            refine gk_get (pc := 72) K d_M_guilty_72 fl_M_264 tm_0 rfl rfl ?_
            refine gk_lload (pc := 75) K d_M_guilty_75 rfl ?_
            refine gk_ldiv (pc := 77) K d_M_guilty_77 h (fun v12 h => ?_)
            refine gk_goto (tgt := 88) (pc := 78) K d_M_guilty_78 (by decide) ?_
            exact gk_sub [] rfl (s_M_guilty_88 K _ _  h)
        · refine gk_bipush (pc := 51) K d_M_guilty_51 kb_m2 ?_
          exact gk_iret (pc := 53) K d_M_guilty_53 rfl h
      · refine gk_iconst (pc := 26) K d_M_guilty_26 kc_m1 ?_
        exact gk_iret (pc := 27) K d_M_guilty_27 rfl h
theorem s_M_guilty {l : Launch} {u : gk_U} (hD : gk_D tm u) {a1 : Int32} {a2 : Int32} {a3 : Int32} {m0 mem2 : gk_M} {r : Int32} (h : f_M_guilty a1 a2 a3 m0 = some (r, mem2)) : gk_C tm l u me_M_guilty 71 [.ref 0, .int a1, .int a2, .int a3] m0 (some (.int r)) mem2 :=
  gk_enter hD mc_M_guilty (Nat.le_of_ble_eq_true rfl) rfl (fun z _ _ K => s_M_guilty_0 K _ _ _ _  h)
theorem d_M_guiltsOn_0 : decode me_M_guiltsOn.2.1 0 = .ok (.iconst 0, 1) := by decide +kernel
theorem d_M_guiltsOn_1 : decode me_M_guiltsOn.2.1 1 = .ok (.istore_n 3, 1) := by decide +kernel
theorem d_M_guiltsOn_2 : decode me_M_guiltsOn.2.1 2 = .ok (.iconst 0, 1) := by decide +kernel
theorem d_M_guiltsOn_3 : decode me_M_guiltsOn.2.1 3 = .ok (.istore 4, 2) := by decide +kernel
theorem d_M_guiltsOn_5 : decode me_M_guiltsOn.2.1 5 = .ok (.iload 4, 2) := by decide +kernel
theorem d_M_guiltsOn_7 : decode me_M_guiltsOn.2.1 7 = .ok (.aload_n 0, 1) := by decide +kernel
theorem d_M_guiltsOn_8 : decode me_M_guiltsOn.2.1 8 = .ok (.getfield 106, 3) := by decide +kernel
theorem d_M_guiltsOn_11 : decode me_M_guiltsOn.2.1 11 = .ok (.if_icmp .ge 51, 3) := by decide +kernel
theorem d_M_guiltsOn_14 : decode me_M_guiltsOn.2.1 14 = .ok (.iload 4, 2) := by decide +kernel
theorem d_M_guiltsOn_16 : decode me_M_guiltsOn.2.1 16 = .ok (.iconst 1, 1) := by decide +kernel
theorem d_M_guiltsOn_17 : decode me_M_guiltsOn.2.1 17 = .ok (.iadd, 1) := by decide +kernel
theorem d_M_guiltsOn_18 : decode me_M_guiltsOn.2.1 18 = .ok (.istore 5, 2) := by decide +kernel
theorem d_M_guiltsOn_20 : decode me_M_guiltsOn.2.1 20 = .ok (.iload 5, 2) := by decide +kernel
theorem d_M_guiltsOn_22 : decode me_M_guiltsOn.2.1 22 = .ok (.aload_n 0, 1) := by decide +kernel
theorem d_M_guiltsOn_23 : decode me_M_guiltsOn.2.1 23 = .ok (.getfield 106, 3) := by decide +kernel
theorem d_M_guiltsOn_26 : decode me_M_guiltsOn.2.1 26 = .ok (.if_icmp .ge 30, 3) := by decide +kernel
theorem d_M_guiltsOn_29 : decode me_M_guiltsOn.2.1 29 = .ok (.iload_n 3, 1) := by decide +kernel
theorem d_M_guiltsOn_30 : decode me_M_guiltsOn.2.1 30 = .ok (.aload_n 0, 1) := by decide +kernel
theorem d_M_guiltsOn_31 : decode me_M_guiltsOn.2.1 31 = .ok (.iload_n 1, 1) := by decide +kernel
theorem d_M_guiltsOn_32 : decode me_M_guiltsOn.2.1 32 = .ok (.iload_n 2, 1) := by decide +kernel
theorem d_M_guiltsOn_33 : decode me_M_guiltsOn.2.1 33 = .ok (.iload 4, 2) := by decide +kernel
theorem d_M_guiltsOn_35 : decode me_M_guiltsOn.2.1 35 = .ok (.iload 5, 2) := by decide +kernel
theorem d_M_guiltsOn_37 : decode me_M_guiltsOn.2.1 37 = .ok (.invokevirtual 284, 3) := by decide +kernel
theorem d_M_guiltsOn_40 : decode me_M_guiltsOn.2.1 40 = .ok (.ifCond .eq 7, 3) := by decide +kernel
theorem d_M_guiltsOn_43 : decode me_M_guiltsOn.2.1 43 = .ok (.iconst 1, 1) := by decide +kernel
theorem d_M_guiltsOn_44 : decode me_M_guiltsOn.2.1 44 = .ok (.goto 4, 3) := by decide +kernel
theorem d_M_guiltsOn_47 : decode me_M_guiltsOn.2.1 47 = .ok (.iconst 0, 1) := by decide +kernel
theorem d_M_guiltsOn_48 : decode me_M_guiltsOn.2.1 48 = .ok (.iadd, 1) := by decide +kernel
theorem d_M_guiltsOn_49 : decode me_M_guiltsOn.2.1 49 = .ok (.istore_n 3, 1) := by decide +kernel
theorem d_M_guiltsOn_50 : decode me_M_guiltsOn.2.1 50 = .ok (.iinc 5 1, 3) := by decide +kernel
theorem d_M_guiltsOn_53 : decode me_M_guiltsOn.2.1 53 = .ok (.goto (-33), 3) := by decide +kernel
theorem d_M_guiltsOn_56 : decode me_M_guiltsOn.2.1 56 = .ok (.iinc 4 1, 3) := by decide +kernel
theorem d_M_guiltsOn_59 : decode me_M_guiltsOn.2.1 59 = .ok (.goto (-54), 3) := by decide +kernel
theorem d_M_guiltsOn_62 : decode me_M_guiltsOn.2.1 62 = .ok (.iload_n 3, 1) := by decide +kernel
theorem d_M_guiltsOn_63 : decode me_M_guiltsOn.2.1 63 = .ok (.ireturn, 1) := by decide +kernel
noncomputable def f_M_guiltsOn_48 (k5 : Int32 → Int32 → Int32 → Int32 → gk_M → Option (Int32 × gk_M)) (k20 : Int32 → Int32 → Int32 → Int32 → Int32 → gk_M → Option (Int32 × gk_M)) (a1 : Int32) (a2 : Int32) (a4 : Int32) (a5 : Int32) (s0 : Int32) (s1 : Int32) (m0 : gk_M) : Option (Int32 × gk_M) :=
  gk_let (s0 + s1) fun v1 =>
  k20 a1 a2 v1 a4 (a5 + 1) m0

theorem s_M_guiltsOn_48 {z : gk_Z} (K : gk_F tm z me_M_guiltsOn 71) {r : Int32} {mem2 : gk_M} {k5 : Int32 → Int32 → Int32 → Int32 → gk_M → Option (Int32 × gk_M)} (hk5 : ∀ a1 a2 a3 a4 m0, k5 a1 a2 a3 a4 m0 = some (r, mem2) → gk_G tm z me_M_guiltsOn (gk_R tm z (some (.int r)) mem2) m0 [(0, .ref 0), (1, .int a1), (2, .int a2), (3, .int a3), (4, .int a4)] [] 5) {k20 : Int32 → Int32 → Int32 → Int32 → Int32 → gk_M → Option (Int32 × gk_M)} (hk20 : ∀ a1 a2 a3 a4 a5 m0, k20 a1 a2 a3 a4 a5 m0 = some (r, mem2) → gk_G tm z me_M_guiltsOn (gk_R tm z (some (.int r)) mem2) m0 [(0, .ref 0), (1, .int a1), (2, .int a2), (3, .int a3), (4, .int a4), (5, .int a5)] [] 20) : ∀ a1 a2 a4 a5 s0 s1 m0, f_M_guiltsOn_48 k5 k20 a1 a2 a4 a5 s0 s1 m0 = some (r, mem2) → gk_G tm z me_M_guiltsOn (gk_R tm z (some (.int r)) mem2) m0 [(0, .ref 0), (1, .int a1), (2, .int a2), (4, .int a4), (5, .int a5)] [.int s1, .int s0] 48 := by
  intro a1 a2 a4 a5 s0 s1 m0  h
  unfold f_M_guiltsOn_48 at h
  refine gk_iadd (pc := 48) K d_M_guiltsOn_48 ?_
  refine gk_topi h (fun v1 h => ?_)
  refine gk_istore_n (lv2 := [(3, .int v1), (0, .ref 0), (1, .int a1), (2, .int a2), (4, .int a4), (5, .int a5)]) (pc := 49) K d_M_guiltsOn_49 (by decide) rfl ?_
  refine gk_iinc2 (lv2 := [(5, .int (a5 + 1)), (3, .int v1), (0, .ref 0), (1, .int a1), (2, .int a2), (4, .int a4)]) (pc := 50) K d_M_guiltsOn_50 rfl kc_1 (by decide) rfl ?_
  refine gk_goto (tgt := 20) (pc := 53) K d_M_guiltsOn_53 (by decide) ?_
  exact gk_sub [2, 3, 4, 1, 5, 0] rfl (hk20 _ _ _ _ _ _  h)
noncomputable def f_M_guiltsOn_20 (k5 : Int32 → Int32 → Int32 → Int32 → gk_M → Option (Int32 × gk_M)) : Nat → Int32 → Int32 → Int32 → Int32 → Int32 → gk_M → Option (Int32 × gk_M)
  | 0, _, _, _, _, _, _ => none
  | n + 1, a1, a2, a3, a4, a5, m0 =>
    if (m0.1 0 6) ≤ a5 then
      k5 a1 a2 a3 (a4 + 1) m0
    else
      gk_bi (f_M_isGuiltyOn a1 a2 a4 a5 m0) fun v2 m1 =>
      if v2 = 0 then
        f_M_guiltsOn_48 k5 (f_M_guiltsOn_20 k5 n) a1 a2 a4 a5 a3 0 m1
      else
        f_M_guiltsOn_48 k5 (f_M_guiltsOn_20 k5 n) a1 a2 a4 a5 a3 1 m1

theorem s_M_guiltsOn_20 {z : gk_Z} (K : gk_F tm z me_M_guiltsOn 71) {r : Int32} {mem2 : gk_M} {k5 : Int32 → Int32 → Int32 → Int32 → gk_M → Option (Int32 × gk_M)} (hk5 : ∀ a1 a2 a3 a4 m0, k5 a1 a2 a3 a4 m0 = some (r, mem2) → gk_G tm z me_M_guiltsOn (gk_R tm z (some (.int r)) mem2) m0 [(0, .ref 0), (1, .int a1), (2, .int a2), (3, .int a3), (4, .int a4)] [] 5) : ∀ n a1 a2 a3 a4 a5 m0, f_M_guiltsOn_20 k5 n a1 a2 a3 a4 a5 m0 = some (r, mem2) → gk_G tm z me_M_guiltsOn (gk_R tm z (some (.int r)) mem2) m0 [(0, .ref 0), (1, .int a1), (2, .int a2), (3, .int a3), (4, .int a4), (5, .int a5)] [] 20 := by
  intro n
  induction n with
  | zero => intro a1 a2 a3 a4 a5 m0  h; exact nomatch (show (none : Option _) = some _ from h)
  | succ n ih =>
    intro a1 a2 a3 a4 a5 m0  h
    unfold f_M_guiltsOn_20 at h
    refine gk_iload (pc := 20) K d_M_guiltsOn_20 rfl ?_
    refine gk_aload_n (pc := 22) K d_M_guiltsOn_22 rfl ?_
    refine gk_get (pc := 23) K d_M_guiltsOn_23 fl_M_106 tm_0 rfl rfl ?_
    refine gk_ic_ge (tgt := 56) (pc := 26) K d_M_guiltsOn_26 (by decide) h (fun h => ?_) (fun h => ?_)
    · refine gk_iinc2 (lv2 := [(4, .int (a4 + 1)), (0, .ref 0), (1, .int a1), (2, .int a2), (3, .int a3), (5, .int a5)]) (pc := 56) K d_M_guiltsOn_56 rfl kc_1 (by decide) rfl ?_
      refine gk_goto (tgt := 5) (pc := 59) K d_M_guiltsOn_59 (by decide) ?_
      exact gk_sub [1, 2, 3, 4, 0] rfl (hk5 _ _ _ _ _  h)
    · refine gk_iload_n (pc := 29) K d_M_guiltsOn_29 rfl ?_
      refine gk_aload_n (pc := 30) K d_M_guiltsOn_30 rfl ?_
      refine gk_iload_n (pc := 31) K d_M_guiltsOn_31 rfl ?_
      refine gk_iload_n (pc := 32) K d_M_guiltsOn_32 rfl ?_
      refine gk_iload (pc := 33) K d_M_guiltsOn_33 rfl ?_
      refine gk_iload (pc := 35) K d_M_guiltsOn_35 rfl ?_
      obtain ⟨v2, m1, em1, h⟩ := gk_bi_some h
      refine gk_cVi (As := [.int a1, .int a2, .int a4, .int a5]) (pc := 37) K d_M_guiltsOn_37 mv_M_284 mc_M_isGuiltyOn rfl tm_0 cl_ok10.1 (s_M_isGuiltyOn (gk_FD K)  em1) (by decide) rfl (Nat.le_of_ble_eq_true rfl) ?_
      refine gk_if_eq (tgt := 47) (pc := 40) K d_M_guiltsOn_40 (by decide) h (fun h => ?_) (fun h => ?_)
      · refine gk_iconst (pc := 47) K d_M_guiltsOn_47 kc_0 ?_
        exact gk_sub [0, 1, 2, 4, 5] rfl (s_M_guiltsOn_48 K hk5 (fun x0 x1 x2 x3 x4 m  h => ih x0 x1 x2 x3 x4 m  h) _ _ _ _ _ _ _  h)
      · refine gk_iconst (pc := 43) K d_M_guiltsOn_43 kc_1 ?_
        refine gk_goto (tgt := 48) (pc := 44) K d_M_guiltsOn_44 (by decide) ?_
        exact gk_sub [0, 1, 2, 4, 5] rfl (s_M_guiltsOn_48 K hk5 (fun x0 x1 x2 x3 x4 m  h => ih x0 x1 x2 x3 x4 m  h) _ _ _ _ _ _ _  h)
noncomputable def f_M_guiltsOn_5  : Nat → Int32 → Int32 → Int32 → Int32 → gk_M → Option (Int32 × gk_M)
  | 0, _, _, _, _, _ => none
  | n + 1, a1, a2, a3, a4, m0 =>
    if (m0.1 0 6) ≤ a4 then
      some (a3, m0)
    else
      gk_let (a4 + 1) fun v1 =>
      f_M_guiltsOn_20 (f_M_guiltsOn_5 n) gk_fv a1 a2 a3 a4 v1 m0

theorem s_M_guiltsOn_5 {z : gk_Z} (K : gk_F tm z me_M_guiltsOn 71) {r : Int32} {mem2 : gk_M} : ∀ n a1 a2 a3 a4 m0, f_M_guiltsOn_5 n a1 a2 a3 a4 m0 = some (r, mem2) → gk_G tm z me_M_guiltsOn (gk_R tm z (some (.int r)) mem2) m0 [(0, .ref 0), (1, .int a1), (2, .int a2), (3, .int a3), (4, .int a4)] [] 5 := by
  intro n
  induction n with
  | zero => intro a1 a2 a3 a4 m0  h; exact nomatch (show (none : Option _) = some _ from h)
  | succ n ih =>
    intro a1 a2 a3 a4 m0  h
    unfold f_M_guiltsOn_5 at h
    refine gk_iload (pc := 5) K d_M_guiltsOn_5 rfl ?_
    refine gk_aload_n (pc := 7) K d_M_guiltsOn_7 rfl ?_
    refine gk_get (pc := 8) K d_M_guiltsOn_8 fl_M_106 tm_0 rfl rfl ?_
    refine gk_ic_ge (tgt := 62) (pc := 11) K d_M_guiltsOn_11 (by decide) h (fun h => ?_) (fun h => ?_)
    · refine gk_iload_n (pc := 62) K d_M_guiltsOn_62 rfl ?_
      exact gk_iret (pc := 63) K d_M_guiltsOn_63 rfl h
    · refine gk_iload (pc := 14) K d_M_guiltsOn_14 rfl ?_
      refine gk_iconst (pc := 16) K d_M_guiltsOn_16 kc_1 ?_
      refine gk_iadd (pc := 17) K d_M_guiltsOn_17 ?_
      refine gk_topi h (fun v1 h => ?_)
      refine gk_istore (lv2 := [(5, .int v1), (0, .ref 0), (1, .int a1), (2, .int a2), (3, .int a3), (4, .int a4)]) (pc := 18) K d_M_guiltsOn_18 (by decide) rfl ?_
      exact gk_sub [1, 2, 3, 4, 5, 0] rfl (s_M_guiltsOn_20 K (fun x0 x1 x2 x3 m  h => ih x0 x1 x2 x3 m  h) _ _ _ _ _ _ _  h)
noncomputable def f_M_guiltsOn  (a1 : Int32) (a2 : Int32) (m0 : gk_M) : Option (Int32 × gk_M) :=
  f_M_guiltsOn_5 gk_fv a1 a2 0 0 m0

theorem s_M_guiltsOn_0 {z : gk_Z} (K : gk_F tm z me_M_guiltsOn 71) {r : Int32} {mem2 : gk_M} : ∀ a1 a2 m0, f_M_guiltsOn a1 a2 m0 = some (r, mem2) → gk_G tm z me_M_guiltsOn (gk_R tm z (some (.int r)) mem2) m0 [(0, .ref 0), (1, .int a1), (2, .int a2)] [] 0 := by
  intro a1 a2 m0  h
  unfold f_M_guiltsOn at h
  refine gk_iconst (pc := 0) K d_M_guiltsOn_0 kc_0 ?_
  refine gk_istore_n (lv2 := [(3, .int 0), (0, .ref 0), (1, .int a1), (2, .int a2)]) (pc := 1) K d_M_guiltsOn_1 (by decide) rfl ?_
  refine gk_iconst (pc := 2) K d_M_guiltsOn_2 kc_0 ?_
  refine gk_istore (lv2 := [(4, .int 0), (3, .int 0), (0, .ref 0), (1, .int a1), (2, .int a2)]) (pc := 3) K d_M_guiltsOn_3 (by decide) rfl ?_
  exact gk_sub [2, 3, 4, 1, 0] rfl (s_M_guiltsOn_5 K _ _ _ _ _ _  h)
theorem s_M_guiltsOn {l : Launch} {u : gk_U} (hD : gk_D tm u) {a1 : Int32} {a2 : Int32} {m0 mem2 : gk_M} {r : Int32} (h : f_M_guiltsOn a1 a2 m0 = some (r, mem2)) : gk_C tm l u me_M_guiltsOn 71 [.ref 0, .int a1, .int a2] m0 (some (.int r)) mem2 :=
  gk_enter hD mc_M_guiltsOn (Nat.le_of_ble_eq_true rfl) rfl (fun z _ _ K => s_M_guiltsOn_0 K _ _ _  h)
theorem d_M_guiltsOf_0 : decode me_M_guiltsOf.2.1 0 = .ok (.iconst 0, 1) := by decide +kernel
theorem d_M_guiltsOf_1 : decode me_M_guiltsOf.2.1 1 = .ok (.istore_n 2, 1) := by decide +kernel
theorem d_M_guiltsOf_2 : decode me_M_guiltsOf.2.1 2 = .ok (.iconst 0, 1) := by decide +kernel
theorem d_M_guiltsOf_3 : decode me_M_guiltsOf.2.1 3 = .ok (.istore_n 3, 1) := by decide +kernel
theorem d_M_guiltsOf_4 : decode me_M_guiltsOf.2.1 4 = .ok (.iload_n 3, 1) := by decide +kernel
theorem d_M_guiltsOf_5 : decode me_M_guiltsOf.2.1 5 = .ok (.iconst 1, 1) := by decide +kernel
theorem d_M_guiltsOf_6 : decode me_M_guiltsOf.2.1 6 = .ok (.iadd, 1) := by decide +kernel
theorem d_M_guiltsOf_7 : decode me_M_guiltsOf.2.1 7 = .ok (.aload_n 0, 1) := by decide +kernel
theorem d_M_guiltsOf_8 : decode me_M_guiltsOf.2.1 8 = .ok (.getfield 31, 3) := by decide +kernel
theorem d_M_guiltsOf_11 : decode me_M_guiltsOf.2.1 11 = .ok (.iload_n 1, 1) := by decide +kernel
theorem d_M_guiltsOf_12 : decode me_M_guiltsOf.2.1 12 = .ok (.iaload, 1) := by decide +kernel
theorem d_M_guiltsOf_13 : decode me_M_guiltsOf.2.1 13 = .ok (.if_icmp .ge 18, 3) := by decide +kernel
theorem d_M_guiltsOf_16 : decode me_M_guiltsOf.2.1 16 = .ok (.iload_n 2, 1) := by decide +kernel
theorem d_M_guiltsOf_17 : decode me_M_guiltsOf.2.1 17 = .ok (.aload_n 0, 1) := by decide +kernel
theorem d_M_guiltsOf_18 : decode me_M_guiltsOf.2.1 18 = .ok (.iload_n 1, 1) := by decide +kernel
theorem d_M_guiltsOf_19 : decode me_M_guiltsOf.2.1 19 = .ok (.iload_n 3, 1) := by decide +kernel
theorem d_M_guiltsOf_20 : decode me_M_guiltsOf.2.1 20 = .ok (.invokevirtual 291, 3) := by decide +kernel
theorem d_M_guiltsOf_23 : decode me_M_guiltsOf.2.1 23 = .ok (.iadd, 1) := by decide +kernel
theorem d_M_guiltsOf_24 : decode me_M_guiltsOf.2.1 24 = .ok (.istore_n 2, 1) := by decide +kernel
theorem d_M_guiltsOf_25 : decode me_M_guiltsOf.2.1 25 = .ok (.iinc 3 1, 3) := by decide +kernel
theorem d_M_guiltsOf_28 : decode me_M_guiltsOf.2.1 28 = .ok (.goto (-24), 3) := by decide +kernel
theorem d_M_guiltsOf_31 : decode me_M_guiltsOf.2.1 31 = .ok (.iload_n 2, 1) := by decide +kernel
theorem d_M_guiltsOf_32 : decode me_M_guiltsOf.2.1 32 = .ok (.ireturn, 1) := by decide +kernel
noncomputable def f_M_guiltsOf_4  : Nat → Int32 → Int32 → Int32 → gk_M → Option (Int32 × gk_M)
  | 0, _, _, _, _ => none
  | n + 1, a1, a2, a3, m0 =>
    gk_ai m0 8 4 a1 fun v1 =>
    if v1 ≤ (a3 + 1) then
      some (a2, m0)
    else
      gk_bi (f_M_guiltsOn a1 a3 m0) fun v3 m2 =>
      gk_let (a2 + v3) fun v4 =>
      f_M_guiltsOf_4 n a1 v4 (a3 + 1) m2

theorem s_M_guiltsOf_4 {z : gk_Z} (K : gk_F tm z me_M_guiltsOf 72) {r : Int32} {mem2 : gk_M} : ∀ n a1 a2 a3 m0, f_M_guiltsOf_4 n a1 a2 a3 m0 = some (r, mem2) → gk_G tm z me_M_guiltsOf (gk_R tm z (some (.int r)) mem2) m0 [(0, .ref 0), (1, .int a1), (2, .int a2), (3, .int a3)] [] 4 := by
  intro n
  induction n with
  | zero => intro a1 a2 a3 m0  h; exact nomatch (show (none : Option _) = some _ from h)
  | succ n ih =>
    intro a1 a2 a3 m0  h
    unfold f_M_guiltsOf_4 at h
    refine gk_iload_n (pc := 4) K d_M_guiltsOf_4 rfl ?_
    refine gk_iconst (pc := 5) K d_M_guiltsOf_5 kc_1 ?_
    refine gk_iadd (pc := 6) K d_M_guiltsOf_6 ?_
    refine gk_aload_n (pc := 7) K d_M_guiltsOf_7 rfl ?_
    refine gk_get (pc := 8) K d_M_guiltsOf_8 fl_M_31 tm_0 rfl rfl ?_
    refine gk_iload_n (pc := 11) K d_M_guiltsOf_11 rfl ?_
    refine gk_iald (pc := 12) K d_M_guiltsOf_12 tm_8 h (fun v1 h => ?_)
    refine gk_ic_ge (tgt := 31) (pc := 13) K d_M_guiltsOf_13 (by decide) h (fun h => ?_) (fun h => ?_)
    · refine gk_iload_n (pc := 31) K d_M_guiltsOf_31 rfl ?_
      exact gk_iret (pc := 32) K d_M_guiltsOf_32 rfl h
    · refine gk_iload_n (pc := 16) K d_M_guiltsOf_16 rfl ?_
      refine gk_aload_n (pc := 17) K d_M_guiltsOf_17 rfl ?_
      refine gk_iload_n (pc := 18) K d_M_guiltsOf_18 rfl ?_
      refine gk_iload_n (pc := 19) K d_M_guiltsOf_19 rfl ?_
      obtain ⟨v3, m2, em2, h⟩ := gk_bi_some h
      refine gk_cVi (As := [.int a1, .int a3]) (pc := 20) K d_M_guiltsOf_20 mv_M_291 mc_M_guiltsOn rfl tm_0 cl_ok10.1 (s_M_guiltsOn (gk_FD K)  em2) (by decide) rfl (Nat.le_of_ble_eq_true rfl) ?_
      refine gk_iadd (pc := 23) K d_M_guiltsOf_23 ?_
      refine gk_topi h (fun v4 h => ?_)
      refine gk_istore_n (lv2 := [(2, .int v4), (0, .ref 0), (1, .int a1), (3, .int a3)]) (pc := 24) K d_M_guiltsOf_24 (by decide) rfl ?_
      refine gk_iinc2 (lv2 := [(3, .int (a3 + 1)), (2, .int v4), (0, .ref 0), (1, .int a1)]) (pc := 25) K d_M_guiltsOf_25 rfl kc_1 (by decide) rfl ?_
      refine gk_goto (tgt := 4) (pc := 28) K d_M_guiltsOf_28 (by decide) ?_
      exact gk_sub [2, 3, 1, 0] rfl (ih _ _ _ _  h)
noncomputable def f_M_guiltsOf  (a1 : Int32) (m0 : gk_M) : Option (Int32 × gk_M) :=
  f_M_guiltsOf_4 gk_fv a1 0 0 m0

theorem s_M_guiltsOf_0 {z : gk_Z} (K : gk_F tm z me_M_guiltsOf 72) {r : Int32} {mem2 : gk_M} : ∀ a1 m0, f_M_guiltsOf a1 m0 = some (r, mem2) → gk_G tm z me_M_guiltsOf (gk_R tm z (some (.int r)) mem2) m0 [(0, .ref 0), (1, .int a1)] [] 0 := by
  intro a1 m0  h
  unfold f_M_guiltsOf at h
  refine gk_iconst (pc := 0) K d_M_guiltsOf_0 kc_0 ?_
  refine gk_istore_n (lv2 := [(2, .int 0), (0, .ref 0), (1, .int a1)]) (pc := 1) K d_M_guiltsOf_1 (by decide) rfl ?_
  refine gk_iconst (pc := 2) K d_M_guiltsOf_2 kc_0 ?_
  refine gk_istore_n (lv2 := [(3, .int 0), (2, .int 0), (0, .ref 0), (1, .int a1)]) (pc := 3) K d_M_guiltsOf_3 (by decide) rfl ?_
  exact gk_sub [2, 3, 1, 0] rfl (s_M_guiltsOf_4 K _ _ _ _ _  h)
theorem s_M_guiltsOf {l : Launch} {u : gk_U} (hD : gk_D tm u) {a1 : Int32} {m0 mem2 : gk_M} {r : Int32} (h : f_M_guiltsOf a1 m0 = some (r, mem2)) : gk_C tm l u me_M_guiltsOf 72 [.ref 0, .int a1] m0 (some (.int r)) mem2 :=
  gk_enter hD mc_M_guiltsOf (Nat.le_of_ble_eq_true rfl) rfl (fun z _ _ K => s_M_guiltsOf_0 K _ _  h)
theorem d_M_allGuilts_0 : decode me_M_allGuilts.2.1 0 = .ok (.iconst 0, 1) := by decide +kernel
theorem d_M_allGuilts_1 : decode me_M_allGuilts.2.1 1 = .ok (.istore_n 1, 1) := by decide +kernel
theorem d_M_allGuilts_2 : decode me_M_allGuilts.2.1 2 = .ok (.iconst 0, 1) := by decide +kernel
theorem d_M_allGuilts_3 : decode me_M_allGuilts.2.1 3 = .ok (.istore_n 2, 1) := by decide +kernel
theorem d_M_allGuilts_4 : decode me_M_allGuilts.2.1 4 = .ok (.iload_n 2, 1) := by decide +kernel
theorem d_M_allGuilts_5 : decode me_M_allGuilts.2.1 5 = .ok (.aload_n 0, 1) := by decide +kernel
theorem d_M_allGuilts_6 : decode me_M_allGuilts.2.1 6 = .ok (.getfield 109, 3) := by decide +kernel
theorem d_M_allGuilts_9 : decode me_M_allGuilts.2.1 9 = .ok (.if_icmp .ge 17, 3) := by decide +kernel
theorem d_M_allGuilts_12 : decode me_M_allGuilts.2.1 12 = .ok (.iload_n 1, 1) := by decide +kernel
theorem d_M_allGuilts_13 : decode me_M_allGuilts.2.1 13 = .ok (.aload_n 0, 1) := by decide +kernel
theorem d_M_allGuilts_14 : decode me_M_allGuilts.2.1 14 = .ok (.iload_n 2, 1) := by decide +kernel
theorem d_M_allGuilts_15 : decode me_M_allGuilts.2.1 15 = .ok (.invokevirtual 294, 3) := by decide +kernel
theorem d_M_allGuilts_18 : decode me_M_allGuilts.2.1 18 = .ok (.iadd, 1) := by decide +kernel
theorem d_M_allGuilts_19 : decode me_M_allGuilts.2.1 19 = .ok (.istore_n 1, 1) := by decide +kernel
theorem d_M_allGuilts_20 : decode me_M_allGuilts.2.1 20 = .ok (.iinc 2 1, 3) := by decide +kernel
theorem d_M_allGuilts_23 : decode me_M_allGuilts.2.1 23 = .ok (.goto (-19), 3) := by decide +kernel
theorem d_M_allGuilts_26 : decode me_M_allGuilts.2.1 26 = .ok (.iload_n 1, 1) := by decide +kernel
theorem d_M_allGuilts_27 : decode me_M_allGuilts.2.1 27 = .ok (.ireturn, 1) := by decide +kernel
noncomputable def f_M_allGuilts_4  : Nat → Int32 → Int32 → gk_M → Option (Int32 × gk_M)
  | 0, _, _, _ => none
  | n + 1, a1, a2, m0 =>
    if (m0.1 0 10) ≤ a2 then
      some (a1, m0)
    else
      gk_bi (f_M_guiltsOf a2 m0) fun v2 m1 =>
      gk_let (a1 + v2) fun v3 =>
      f_M_allGuilts_4 n v3 (a2 + 1) m1

theorem s_M_allGuilts_4 {z : gk_Z} (K : gk_F tm z me_M_allGuilts 73) {r : Int32} {mem2 : gk_M} : ∀ n a1 a2 m0, f_M_allGuilts_4 n a1 a2 m0 = some (r, mem2) → gk_G tm z me_M_allGuilts (gk_R tm z (some (.int r)) mem2) m0 [(0, .ref 0), (1, .int a1), (2, .int a2)] [] 4 := by
  intro n
  induction n with
  | zero => intro a1 a2 m0  h; exact nomatch (show (none : Option _) = some _ from h)
  | succ n ih =>
    intro a1 a2 m0  h
    unfold f_M_allGuilts_4 at h
    refine gk_iload_n (pc := 4) K d_M_allGuilts_4 rfl ?_
    refine gk_aload_n (pc := 5) K d_M_allGuilts_5 rfl ?_
    refine gk_get (pc := 6) K d_M_allGuilts_6 fl_M_109 tm_0 rfl rfl ?_
    refine gk_ic_ge (tgt := 26) (pc := 9) K d_M_allGuilts_9 (by decide) h (fun h => ?_) (fun h => ?_)
    · refine gk_iload_n (pc := 26) K d_M_allGuilts_26 rfl ?_
      exact gk_iret (pc := 27) K d_M_allGuilts_27 rfl h
    · refine gk_iload_n (pc := 12) K d_M_allGuilts_12 rfl ?_
      refine gk_aload_n (pc := 13) K d_M_allGuilts_13 rfl ?_
      refine gk_iload_n (pc := 14) K d_M_allGuilts_14 rfl ?_
      obtain ⟨v2, m1, em1, h⟩ := gk_bi_some h
      refine gk_cVi (As := [.int a2]) (pc := 15) K d_M_allGuilts_15 mv_M_294 mc_M_guiltsOf rfl tm_0 cl_ok10.1 (s_M_guiltsOf (gk_FD K)  em1) (by decide) rfl (Nat.le_of_ble_eq_true rfl) ?_
      refine gk_iadd (pc := 18) K d_M_allGuilts_18 ?_
      refine gk_topi h (fun v3 h => ?_)
      refine gk_istore_n (lv2 := [(1, .int v3), (0, .ref 0), (2, .int a2)]) (pc := 19) K d_M_allGuilts_19 (by decide) rfl ?_
      refine gk_iinc2 (lv2 := [(2, .int (a2 + 1)), (1, .int v3), (0, .ref 0)]) (pc := 20) K d_M_allGuilts_20 rfl kc_1 (by decide) rfl ?_
      refine gk_goto (tgt := 4) (pc := 23) K d_M_allGuilts_23 (by decide) ?_
      exact gk_sub [2, 1, 0] rfl (ih _ _ _  h)
noncomputable def f_M_allGuilts   (m0 : gk_M) : Option (Int32 × gk_M) :=
  f_M_allGuilts_4 gk_fv 0 0 m0

theorem s_M_allGuilts_0 {z : gk_Z} (K : gk_F tm z me_M_allGuilts 73) {r : Int32} {mem2 : gk_M} : ∀  m0, f_M_allGuilts  m0 = some (r, mem2) → gk_G tm z me_M_allGuilts (gk_R tm z (some (.int r)) mem2) m0 [(0, .ref 0)] [] 0 := by
  intro  m0  h
  unfold f_M_allGuilts at h
  refine gk_iconst (pc := 0) K d_M_allGuilts_0 kc_0 ?_
  refine gk_istore_n (lv2 := [(1, .int 0), (0, .ref 0)]) (pc := 1) K d_M_allGuilts_1 (by decide) rfl ?_
  refine gk_iconst (pc := 2) K d_M_allGuilts_2 kc_0 ?_
  refine gk_istore_n (lv2 := [(2, .int 0), (1, .int 0), (0, .ref 0)]) (pc := 3) K d_M_allGuilts_3 (by decide) rfl ?_
  exact gk_sub [2, 1, 0] rfl (s_M_allGuilts_4 K _ _ _ _  h)
theorem s_M_allGuilts {l : Launch} {u : gk_U} (hD : gk_D tm u) {m0 mem2 : gk_M} {r : Int32} (h : f_M_allGuilts  m0 = some (r, mem2)) : gk_C tm l u me_M_allGuilts 73 [.ref 0] m0 (some (.int r)) mem2 :=
  gk_enter hD mc_M_allGuilts (Nat.le_of_ble_eq_true rfl) rfl (fun z _ _ K => s_M_allGuilts_0 K  _  h)
theorem d_M_guilts_0 : decode me_M_guilts.2.1 0 = .ok (.iload_n 1, 1) := by decide +kernel
theorem d_M_guilts_1 : decode me_M_guilts.2.1 1 = .ok (.iconst (-1), 1) := by decide +kernel
theorem d_M_guilts_2 : decode me_M_guilts.2.1 2 = .ok (.if_icmp .ne 8, 3) := by decide +kernel
theorem d_M_guilts_5 : decode me_M_guilts.2.1 5 = .ok (.aload_n 0, 1) := by decide +kernel
theorem d_M_guilts_6 : decode me_M_guilts.2.1 6 = .ok (.invokevirtual 297, 3) := by decide +kernel
theorem d_M_guilts_9 : decode me_M_guilts.2.1 9 = .ok (.ireturn, 1) := by decide +kernel
theorem d_M_guilts_10 : decode me_M_guilts.2.1 10 = .ok (.aload_n 0, 1) := by decide +kernel
theorem d_M_guilts_11 : decode me_M_guilts.2.1 11 = .ok (.iload_n 1, 1) := by decide +kernel
theorem d_M_guilts_12 : decode me_M_guilts.2.1 12 = .ok (.invokevirtual 136, 3) := by decide +kernel
theorem d_M_guilts_15 : decode me_M_guilts.2.1 15 = .ok (.ifCond .eq 11, 3) := by decide +kernel
theorem d_M_guilts_18 : decode me_M_guilts.2.1 18 = .ok (.aload_n 0, 1) := by decide +kernel
theorem d_M_guilts_19 : decode me_M_guilts.2.1 19 = .ok (.iload_n 1, 1) := by decide +kernel
theorem d_M_guilts_20 : decode me_M_guilts.2.1 20 = .ok (.invokevirtual 294, 3) := by decide +kernel
theorem d_M_guilts_23 : decode me_M_guilts.2.1 23 = .ok (.goto 4, 3) := by decide +kernel
theorem d_M_guilts_26 : decode me_M_guilts.2.1 26 = .ok (.iconst (-1), 1) := by decide +kernel
theorem d_M_guilts_27 : decode me_M_guilts.2.1 27 = .ok (.ireturn, 1) := by decide +kernel
noncomputable def f_M_guilts  (a1 : Int32) (m0 : gk_M) : Option (Int32 × gk_M) :=
  if ¬ a1 = (-1) then
    gk_bi (f_M_isRoad a1 m0) fun v2 m1 =>
    if v2 = 0 then
      some ((-1), m1)
    else
      gk_bi (f_M_guiltsOf a1 m1) fun v4 m3 =>
      some (v4, m3)
  else
    gk_bi (f_M_allGuilts  m0) fun v6 m5 =>
    some (v6, m5)

theorem s_M_guilts_0 {z : gk_Z} (K : gk_F tm z me_M_guilts 74) {r : Int32} {mem2 : gk_M} : ∀ a1 m0, f_M_guilts a1 m0 = some (r, mem2) → gk_G tm z me_M_guilts (gk_R tm z (some (.int r)) mem2) m0 [(0, .ref 0), (1, .int a1)] [] 0 := by
  intro a1 m0  h
  unfold f_M_guilts at h
  refine gk_iload_n (pc := 0) K d_M_guilts_0 rfl ?_
  refine gk_iconst (pc := 1) K d_M_guilts_1 kc_m1 ?_
  refine gk_ic_ne (tgt := 10) (pc := 2) K d_M_guilts_2 (by decide) h (fun h => ?_) (fun h => ?_)
  · refine gk_aload_n (pc := 10) K d_M_guilts_10 rfl ?_
    refine gk_iload_n (pc := 11) K d_M_guilts_11 rfl ?_
    obtain ⟨v2, m1, em1, h⟩ := gk_bi_some h
    refine gk_cVi (As := [.int a1]) (pc := 12) K d_M_guilts_12 mv_M_136 mc_M_isRoad rfl tm_0 cl_ok10.1 (s_M_isRoad (gk_FD K)  em1) (by decide) rfl (Nat.le_of_ble_eq_true rfl) ?_
    refine gk_if_eq (tgt := 26) (pc := 15) K d_M_guilts_15 (by decide) h (fun h => ?_) (fun h => ?_)
    · refine gk_iconst (pc := 26) K d_M_guilts_26 kc_m1 ?_
      exact gk_iret (pc := 27) K d_M_guilts_27 rfl h
    · refine gk_aload_n (pc := 18) K d_M_guilts_18 rfl ?_
      refine gk_iload_n (pc := 19) K d_M_guilts_19 rfl ?_
      obtain ⟨v4, m3, em3, h⟩ := gk_bi_some h
      refine gk_cVi (As := [.int a1]) (pc := 20) K d_M_guilts_20 mv_M_294 mc_M_guiltsOf rfl tm_0 cl_ok10.1 (s_M_guiltsOf (gk_FD K)  em3) (by decide) rfl (Nat.le_of_ble_eq_true rfl) ?_
      refine gk_goto (tgt := 27) (pc := 23) K d_M_guilts_23 (by decide) ?_
      exact gk_iret (pc := 27) K d_M_guilts_27 rfl h
  · refine gk_aload_n (pc := 5) K d_M_guilts_5 rfl ?_
    obtain ⟨v6, m5, em5, h⟩ := gk_bi_some h
    refine gk_cVi (As := []) (pc := 6) K d_M_guilts_6 mv_M_297 mc_M_allGuilts rfl tm_0 cl_ok10.1 (s_M_allGuilts (gk_FD K)  em5) (by decide) rfl (Nat.le_of_ble_eq_true rfl) ?_
    exact gk_iret (pc := 9) K d_M_guilts_9 rfl h
theorem s_M_guilts {l : Launch} {u : gk_U} (hD : gk_D tm u) {a1 : Int32} {m0 mem2 : gk_M} {r : Int32} (h : f_M_guilts a1 m0 = some (r, mem2)) : gk_C tm l u me_M_guilts 74 [.ref 0, .int a1] m0 (some (.int r)) mem2 :=
  gk_enter hD mc_M_guilts (Nat.le_of_ble_eq_true rfl) rfl (fun z _ _ K => s_M_guilts_0 K _ _  h)
theorem d_M_firstOn_0 : decode me_M_firstOn.2.1 0 = .ok (.iconst 0, 1) := by decide +kernel
theorem d_M_firstOn_1 : decode me_M_firstOn.2.1 1 = .ok (.istore_n 3, 1) := by decide +kernel
theorem d_M_firstOn_2 : decode me_M_firstOn.2.1 2 = .ok (.iload_n 3, 1) := by decide +kernel
theorem d_M_firstOn_3 : decode me_M_firstOn.2.1 3 = .ok (.aload_n 0, 1) := by decide +kernel
theorem d_M_firstOn_4 : decode me_M_firstOn.2.1 4 = .ok (.getfield 106, 3) := by decide +kernel
theorem d_M_firstOn_7 : decode me_M_firstOn.2.1 7 = .ok (.if_icmp .ge 49, 3) := by decide +kernel
theorem d_M_firstOn_10 : decode me_M_firstOn.2.1 10 = .ok (.iload_n 3, 1) := by decide +kernel
theorem d_M_firstOn_11 : decode me_M_firstOn.2.1 11 = .ok (.iconst 1, 1) := by decide +kernel
theorem d_M_firstOn_12 : decode me_M_firstOn.2.1 12 = .ok (.iadd, 1) := by decide +kernel
theorem d_M_firstOn_13 : decode me_M_firstOn.2.1 13 = .ok (.istore 4, 2) := by decide +kernel
theorem d_M_firstOn_15 : decode me_M_firstOn.2.1 15 = .ok (.iload 4, 2) := by decide +kernel
theorem d_M_firstOn_17 : decode me_M_firstOn.2.1 17 = .ok (.aload_n 0, 1) := by decide +kernel
theorem d_M_firstOn_18 : decode me_M_firstOn.2.1 18 = .ok (.getfield 106, 3) := by decide +kernel
theorem d_M_firstOn_21 : decode me_M_firstOn.2.1 21 = .ok (.if_icmp .ge 29, 3) := by decide +kernel
theorem d_M_firstOn_24 : decode me_M_firstOn.2.1 24 = .ok (.aload_n 0, 1) := by decide +kernel
theorem d_M_firstOn_25 : decode me_M_firstOn.2.1 25 = .ok (.iload_n 1, 1) := by decide +kernel
theorem d_M_firstOn_26 : decode me_M_firstOn.2.1 26 = .ok (.iload_n 2, 1) := by decide +kernel
theorem d_M_firstOn_27 : decode me_M_firstOn.2.1 27 = .ok (.iload_n 3, 1) := by decide +kernel
theorem d_M_firstOn_28 : decode me_M_firstOn.2.1 28 = .ok (.iload 4, 2) := by decide +kernel
theorem d_M_firstOn_30 : decode me_M_firstOn.2.1 30 = .ok (.invokevirtual 284, 3) := by decide +kernel
theorem d_M_firstOn_33 : decode me_M_firstOn.2.1 33 = .ok (.ifCond .eq 11, 3) := by decide +kernel
theorem d_M_firstOn_36 : decode me_M_firstOn.2.1 36 = .ok (.bipush 10, 2) := by decide +kernel
theorem d_M_firstOn_38 : decode me_M_firstOn.2.1 38 = .ok (.iload_n 3, 1) := by decide +kernel
theorem d_M_firstOn_39 : decode me_M_firstOn.2.1 39 = .ok (.imul, 1) := by decide +kernel
theorem d_M_firstOn_40 : decode me_M_firstOn.2.1 40 = .ok (.iload 4, 2) := by decide +kernel
theorem d_M_firstOn_42 : decode me_M_firstOn.2.1 42 = .ok (.iadd, 1) := by decide +kernel
theorem d_M_firstOn_43 : decode me_M_firstOn.2.1 43 = .ok (.ireturn, 1) := by decide +kernel
theorem d_M_firstOn_44 : decode me_M_firstOn.2.1 44 = .ok (.iinc 4 1, 3) := by decide +kernel
theorem d_M_firstOn_47 : decode me_M_firstOn.2.1 47 = .ok (.goto (-32), 3) := by decide +kernel
theorem d_M_firstOn_50 : decode me_M_firstOn.2.1 50 = .ok (.iinc 3 1, 3) := by decide +kernel
theorem d_M_firstOn_53 : decode me_M_firstOn.2.1 53 = .ok (.goto (-51), 3) := by decide +kernel
theorem d_M_firstOn_56 : decode me_M_firstOn.2.1 56 = .ok (.bipush (-2), 2) := by decide +kernel
theorem d_M_firstOn_58 : decode me_M_firstOn.2.1 58 = .ok (.ireturn, 1) := by decide +kernel
noncomputable def f_M_firstOn_15 (k2 : Int32 → Int32 → Int32 → gk_M → Option (Int32 × gk_M)) : Nat → Int32 → Int32 → Int32 → Int32 → gk_M → Option (Int32 × gk_M)
  | 0, _, _, _, _, _ => none
  | n + 1, a1, a2, a3, a4, m0 =>
    if (m0.1 0 6) ≤ a4 then
      k2 a1 a2 (a3 + 1) m0
    else
      gk_bi (f_M_isGuiltyOn a1 a2 a3 a4 m0) fun v2 m1 =>
      if v2 = 0 then
        f_M_firstOn_15 k2 n a1 a2 a3 (a4 + 1) m1
      else
        some (((10 * a3) + a4), m1)

theorem s_M_firstOn_15 {z : gk_Z} (K : gk_F tm z me_M_firstOn 71) {r : Int32} {mem2 : gk_M} {k2 : Int32 → Int32 → Int32 → gk_M → Option (Int32 × gk_M)} (hk2 : ∀ a1 a2 a3 m0, k2 a1 a2 a3 m0 = some (r, mem2) → gk_G tm z me_M_firstOn (gk_R tm z (some (.int r)) mem2) m0 [(0, .ref 0), (1, .int a1), (2, .int a2), (3, .int a3)] [] 2) : ∀ n a1 a2 a3 a4 m0, f_M_firstOn_15 k2 n a1 a2 a3 a4 m0 = some (r, mem2) → gk_G tm z me_M_firstOn (gk_R tm z (some (.int r)) mem2) m0 [(0, .ref 0), (1, .int a1), (2, .int a2), (3, .int a3), (4, .int a4)] [] 15 := by
  intro n
  induction n with
  | zero => intro a1 a2 a3 a4 m0  h; exact nomatch (show (none : Option _) = some _ from h)
  | succ n ih =>
    intro a1 a2 a3 a4 m0  h
    unfold f_M_firstOn_15 at h
    refine gk_iload (pc := 15) K d_M_firstOn_15 rfl ?_
    refine gk_aload_n (pc := 17) K d_M_firstOn_17 rfl ?_
    refine gk_get (pc := 18) K d_M_firstOn_18 fl_M_106 tm_0 rfl rfl ?_
    refine gk_ic_ge (tgt := 50) (pc := 21) K d_M_firstOn_21 (by decide) h (fun h => ?_) (fun h => ?_)
    · refine gk_iinc2 (lv2 := [(3, .int (a3 + 1)), (0, .ref 0), (1, .int a1), (2, .int a2), (4, .int a4)]) (pc := 50) K d_M_firstOn_50 rfl kc_1 (by decide) rfl ?_
      refine gk_goto (tgt := 2) (pc := 53) K d_M_firstOn_53 (by decide) ?_
      exact gk_sub [1, 2, 3, 0] rfl (hk2 _ _ _ _  h)
    · refine gk_aload_n (pc := 24) K d_M_firstOn_24 rfl ?_
      refine gk_iload_n (pc := 25) K d_M_firstOn_25 rfl ?_
      refine gk_iload_n (pc := 26) K d_M_firstOn_26 rfl ?_
      refine gk_iload_n (pc := 27) K d_M_firstOn_27 rfl ?_
      refine gk_iload (pc := 28) K d_M_firstOn_28 rfl ?_
      obtain ⟨v2, m1, em1, h⟩ := gk_bi_some h
      refine gk_cVi (As := [.int a1, .int a2, .int a3, .int a4]) (pc := 30) K d_M_firstOn_30 mv_M_284 mc_M_isGuiltyOn rfl tm_0 cl_ok10.1 (s_M_isGuiltyOn (gk_FD K)  em1) (by decide) rfl (Nat.le_of_ble_eq_true rfl) ?_
      refine gk_if_eq (tgt := 44) (pc := 33) K d_M_firstOn_33 (by decide) h (fun h => ?_) (fun h => ?_)
      · refine gk_iinc2 (lv2 := [(4, .int (a4 + 1)), (0, .ref 0), (1, .int a1), (2, .int a2), (3, .int a3)]) (pc := 44) K d_M_firstOn_44 rfl kc_1 (by decide) rfl ?_
        refine gk_goto (tgt := 15) (pc := 47) K d_M_firstOn_47 (by decide) ?_
        exact gk_sub [1, 2, 3, 4, 0] rfl (ih _ _ _ _ _  h)
      · refine gk_bipush (pc := 36) K d_M_firstOn_36 kb_10 ?_
        refine gk_iload_n (pc := 38) K d_M_firstOn_38 rfl ?_
        refine gk_imul (pc := 39) K d_M_firstOn_39 ?_
        refine gk_iload (pc := 40) K d_M_firstOn_40 rfl ?_
        refine gk_iadd (pc := 42) K d_M_firstOn_42 ?_
        exact gk_iret (pc := 43) K d_M_firstOn_43 rfl h
noncomputable def f_M_firstOn_2  : Nat → Int32 → Int32 → Int32 → gk_M → Option (Int32 × gk_M)
  | 0, _, _, _, _ => none
  | n + 1, a1, a2, a3, m0 =>
    if (m0.1 0 6) ≤ a3 then
      some ((-2), m0)
    else
      gk_let (a3 + 1) fun v1 =>
      f_M_firstOn_15 (f_M_firstOn_2 n) gk_fv a1 a2 a3 v1 m0

theorem s_M_firstOn_2 {z : gk_Z} (K : gk_F tm z me_M_firstOn 71) {r : Int32} {mem2 : gk_M} : ∀ n a1 a2 a3 m0, f_M_firstOn_2 n a1 a2 a3 m0 = some (r, mem2) → gk_G tm z me_M_firstOn (gk_R tm z (some (.int r)) mem2) m0 [(0, .ref 0), (1, .int a1), (2, .int a2), (3, .int a3)] [] 2 := by
  intro n
  induction n with
  | zero => intro a1 a2 a3 m0  h; exact nomatch (show (none : Option _) = some _ from h)
  | succ n ih =>
    intro a1 a2 a3 m0  h
    unfold f_M_firstOn_2 at h
    refine gk_iload_n (pc := 2) K d_M_firstOn_2 rfl ?_
    refine gk_aload_n (pc := 3) K d_M_firstOn_3 rfl ?_
    refine gk_get (pc := 4) K d_M_firstOn_4 fl_M_106 tm_0 rfl rfl ?_
    refine gk_ic_ge (tgt := 56) (pc := 7) K d_M_firstOn_7 (by decide) h (fun h => ?_) (fun h => ?_)
    · refine gk_bipush (pc := 56) K d_M_firstOn_56 kb_m2 ?_
      exact gk_iret (pc := 58) K d_M_firstOn_58 rfl h
    · refine gk_iload_n (pc := 10) K d_M_firstOn_10 rfl ?_
      refine gk_iconst (pc := 11) K d_M_firstOn_11 kc_1 ?_
      refine gk_iadd (pc := 12) K d_M_firstOn_12 ?_
      refine gk_topi h (fun v1 h => ?_)
      refine gk_istore (lv2 := [(4, .int v1), (0, .ref 0), (1, .int a1), (2, .int a2), (3, .int a3)]) (pc := 13) K d_M_firstOn_13 (by decide) rfl ?_
      exact gk_sub [1, 2, 3, 4, 0] rfl (s_M_firstOn_15 K (fun x0 x1 x2 m  h => ih x0 x1 x2 m  h) _ _ _ _ _ _  h)
noncomputable def f_M_firstOn  (a1 : Int32) (a2 : Int32) (m0 : gk_M) : Option (Int32 × gk_M) :=
  f_M_firstOn_2 gk_fv a1 a2 0 m0

theorem s_M_firstOn_0 {z : gk_Z} (K : gk_F tm z me_M_firstOn 71) {r : Int32} {mem2 : gk_M} : ∀ a1 a2 m0, f_M_firstOn a1 a2 m0 = some (r, mem2) → gk_G tm z me_M_firstOn (gk_R tm z (some (.int r)) mem2) m0 [(0, .ref 0), (1, .int a1), (2, .int a2)] [] 0 := by
  intro a1 a2 m0  h
  unfold f_M_firstOn at h
  refine gk_iconst (pc := 0) K d_M_firstOn_0 kc_0 ?_
  refine gk_istore_n (lv2 := [(3, .int 0), (0, .ref 0), (1, .int a1), (2, .int a2)]) (pc := 1) K d_M_firstOn_1 (by decide) rfl ?_
  exact gk_sub [1, 2, 3, 0] rfl (s_M_firstOn_2 K _ _ _ _ _  h)
theorem s_M_firstOn {l : Launch} {u : gk_U} (hD : gk_D tm u) {a1 : Int32} {a2 : Int32} {m0 mem2 : gk_M} {r : Int32} (h : f_M_firstOn a1 a2 m0 = some (r, mem2)) : gk_C tm l u me_M_firstOn 71 [.ref 0, .int a1, .int a2] m0 (some (.int r)) mem2 :=
  gk_enter hD mc_M_firstOn (Nat.le_of_ble_eq_true rfl) rfl (fun z _ _ K => s_M_firstOn_0 K _ _ _  h)
theorem d_M_which_0 : decode me_M_which.2.1 0 = .ok (.iload_n 1, 1) := by decide +kernel
theorem d_M_which_1 : decode me_M_which.2.1 1 = .ok (.i2l, 1) := by decide +kernel
theorem d_M_which_2 : decode me_M_which.2.1 2 = .ok (.lconst 0, 1) := by decide +kernel
theorem d_M_which_3 : decode me_M_which.2.1 3 = .ok (.ldc2_w 151, 3) := by decide +kernel
theorem d_M_which_6 : decode me_M_which.2.1 6 = .ok (.invokestatic 102, 3) := by decide +kernel
theorem d_M_which_9 : decode me_M_which.2.1 9 = .ok (.ifCond .ne 5, 3) := by decide +kernel
theorem d_M_which_12 : decode me_M_which.2.1 12 = .ok (.iconst (-1), 1) := by decide +kernel
theorem d_M_which_13 : decode me_M_which.2.1 13 = .ok (.ireturn, 1) := by decide +kernel
theorem d_M_which_14 : decode me_M_which.2.1 14 = .ok (.iconst 0, 1) := by decide +kernel
theorem d_M_which_15 : decode me_M_which.2.1 15 = .ok (.istore_n 2, 1) := by decide +kernel
theorem d_M_which_16 : decode me_M_which.2.1 16 = .ok (.iload_n 2, 1) := by decide +kernel
theorem d_M_which_17 : decode me_M_which.2.1 17 = .ok (.aload_n 0, 1) := by decide +kernel
theorem d_M_which_18 : decode me_M_which.2.1 18 = .ok (.getfield 109, 3) := by decide +kernel
theorem d_M_which_21 : decode me_M_which.2.1 21 = .ok (.if_icmp .ge 78, 3) := by decide +kernel
theorem d_M_which_24 : decode me_M_which.2.1 24 = .ok (.iconst 0, 1) := by decide +kernel
theorem d_M_which_25 : decode me_M_which.2.1 25 = .ok (.istore_n 3, 1) := by decide +kernel
theorem d_M_which_26 : decode me_M_which.2.1 26 = .ok (.iload_n 3, 1) := by decide +kernel
theorem d_M_which_27 : decode me_M_which.2.1 27 = .ok (.iconst 1, 1) := by decide +kernel
theorem d_M_which_28 : decode me_M_which.2.1 28 = .ok (.iadd, 1) := by decide +kernel
theorem d_M_which_29 : decode me_M_which.2.1 29 = .ok (.aload_n 0, 1) := by decide +kernel
theorem d_M_which_30 : decode me_M_which.2.1 30 = .ok (.getfield 31, 3) := by decide +kernel
theorem d_M_which_33 : decode me_M_which.2.1 33 = .ok (.iload_n 2, 1) := by decide +kernel
theorem d_M_which_34 : decode me_M_which.2.1 34 = .ok (.iaload, 1) := by decide +kernel
theorem d_M_which_35 : decode me_M_which.2.1 35 = .ok (.if_icmp .ge 58, 3) := by decide +kernel
theorem d_M_which_38 : decode me_M_which.2.1 38 = .ok (.aload_n 0, 1) := by decide +kernel
theorem d_M_which_39 : decode me_M_which.2.1 39 = .ok (.iload_n 2, 1) := by decide +kernel
theorem d_M_which_40 : decode me_M_which.2.1 40 = .ok (.iload_n 3, 1) := by decide +kernel
theorem d_M_which_41 : decode me_M_which.2.1 41 = .ok (.invokevirtual 300, 3) := by decide +kernel
theorem d_M_which_44 : decode me_M_which.2.1 44 = .ok (.istore 4, 2) := by decide +kernel
theorem d_M_which_46 : decode me_M_which.2.1 46 = .ok (.iload 4, 2) := by decide +kernel
theorem d_M_which_48 : decode me_M_which.2.1 48 = .ok (.ifCond .lt 39, 3) := by decide +kernel
theorem d_M_which_51 : decode me_M_which.2.1 51 = .ok (.iload_n 1, 1) := by decide +kernel
theorem d_M_which_52 : decode me_M_which.2.1 52 = .ok (.ifCond .ne 7, 3) := by decide +kernel
theorem d_M_which_55 : decode me_M_which.2.1 55 = .ok (.iload_n 2, 1) := by decide +kernel
theorem d_M_which_56 : decode me_M_which.2.1 56 = .ok (.goto 30, 3) := by decide +kernel
theorem d_M_which_59 : decode me_M_which.2.1 59 = .ok (.iload_n 1, 1) := by decide +kernel
theorem d_M_which_60 : decode me_M_which.2.1 60 = .ok (.iconst 1, 1) := by decide +kernel
theorem d_M_which_61 : decode me_M_which.2.1 61 = .ok (.if_icmp .ne 7, 3) := by decide +kernel
theorem d_M_which_64 : decode me_M_which.2.1 64 = .ok (.iload_n 3, 1) := by decide +kernel
theorem d_M_which_65 : decode me_M_which.2.1 65 = .ok (.goto 21, 3) := by decide +kernel
theorem d_M_which_68 : decode me_M_which.2.1 68 = .ok (.iload_n 1, 1) := by decide +kernel
theorem d_M_which_69 : decode me_M_which.2.1 69 = .ok (.iconst 2, 1) := by decide +kernel
theorem d_M_which_70 : decode me_M_which.2.1 70 = .ok (.if_icmp .ne 11, 3) := by decide +kernel
theorem d_M_which_73 : decode me_M_which.2.1 73 = .ok (.iload 4, 2) := by decide +kernel
theorem d_M_which_75 : decode me_M_which.2.1 75 = .ok (.bipush 10, 2) := by decide +kernel
theorem d_M_which_77 : decode me_M_which.2.1 77 = .ok (.idiv, 1) := by decide +kernel
theorem d_M_which_78 : decode me_M_which.2.1 78 = .ok (.goto 8, 3) := by decide +kernel
theorem d_M_which_81 : decode me_M_which.2.1 81 = .ok (.iload 4, 2) := by decide +kernel
theorem d_M_which_83 : decode me_M_which.2.1 83 = .ok (.bipush 10, 2) := by decide +kernel
theorem d_M_which_85 : decode me_M_which.2.1 85 = .ok (.irem, 1) := by decide +kernel
theorem d_M_which_86 : decode me_M_which.2.1 86 = .ok (.ireturn, 1) := by decide +kernel
theorem d_M_which_87 : decode me_M_which.2.1 87 = .ok (.iinc 3 1, 3) := by decide +kernel
theorem d_M_which_90 : decode me_M_which.2.1 90 = .ok (.goto (-64), 3) := by decide +kernel
theorem d_M_which_93 : decode me_M_which.2.1 93 = .ok (.iinc 2 1, 3) := by decide +kernel
theorem d_M_which_96 : decode me_M_which.2.1 96 = .ok (.goto (-80), 3) := by decide +kernel
theorem d_M_which_99 : decode me_M_which.2.1 99 = .ok (.bipush (-2), 2) := by decide +kernel
theorem d_M_which_101 : decode me_M_which.2.1 101 = .ok (.ireturn, 1) := by decide +kernel
noncomputable def f_M_which_26 (k16 : Int32 → Int32 → gk_M → Option (Int32 × gk_M)) : Nat → Int32 → Int32 → Int32 → gk_M → Option (Int32 × gk_M)
  | 0, _, _, _, _ => none
  | n + 1, a1, a2, a3, m0 =>
    gk_ai m0 8 4 a2 fun v1 =>
    if v1 ≤ (a3 + 1) then
      k16 a1 (a2 + 1) m0
    else
      gk_bi (f_M_firstOn a2 a3 m0) fun v3 m2 =>
      if v3 < 0 then
        f_M_which_26 k16 n a1 a2 (a3 + 1) m2
      else
        if ¬ a1 = 0 then
          if ¬ a1 = 1 then
            if ¬ a1 = 2 then
              some ((gk_rem v3 10), m2)
            else
              some ((v3 / 10), m2)
          else
            some (a3, m2)
        else
          some (a2, m2)

theorem s_M_which_26 {z : gk_Z} (K : gk_F tm z me_M_which 72) {r : Int32} {mem2 : gk_M} {k16 : Int32 → Int32 → gk_M → Option (Int32 × gk_M)} (hk16 : ∀ a1 a2 m0, k16 a1 a2 m0 = some (r, mem2) → gk_G tm z me_M_which (gk_R tm z (some (.int r)) mem2) m0 [(0, .ref 0), (1, .int a1), (2, .int a2)] [] 16) : ∀ n a1 a2 a3 m0, f_M_which_26 k16 n a1 a2 a3 m0 = some (r, mem2) → gk_G tm z me_M_which (gk_R tm z (some (.int r)) mem2) m0 [(0, .ref 0), (1, .int a1), (2, .int a2), (3, .int a3)] [] 26 := by
  intro n
  induction n with
  | zero => intro a1 a2 a3 m0  h; exact nomatch (show (none : Option _) = some _ from h)
  | succ n ih =>
    intro a1 a2 a3 m0  h
    unfold f_M_which_26 at h
    refine gk_iload_n (pc := 26) K d_M_which_26 rfl ?_
    refine gk_iconst (pc := 27) K d_M_which_27 kc_1 ?_
    refine gk_iadd (pc := 28) K d_M_which_28 ?_
    refine gk_aload_n (pc := 29) K d_M_which_29 rfl ?_
    refine gk_get (pc := 30) K d_M_which_30 fl_M_31 tm_0 rfl rfl ?_
    refine gk_iload_n (pc := 33) K d_M_which_33 rfl ?_
    refine gk_iald (pc := 34) K d_M_which_34 tm_8 h (fun v1 h => ?_)
    refine gk_ic_ge (tgt := 93) (pc := 35) K d_M_which_35 (by decide) h (fun h => ?_) (fun h => ?_)
    · refine gk_iinc2 (lv2 := [(2, .int (a2 + 1)), (0, .ref 0), (1, .int a1), (3, .int a3)]) (pc := 93) K d_M_which_93 rfl kc_1 (by decide) rfl ?_
      refine gk_goto (tgt := 16) (pc := 96) K d_M_which_96 (by decide) ?_
      exact gk_sub [1, 2, 0] rfl (hk16 _ _ _  h)
    · refine gk_aload_n (pc := 38) K d_M_which_38 rfl ?_
      refine gk_iload_n (pc := 39) K d_M_which_39 rfl ?_
      refine gk_iload_n (pc := 40) K d_M_which_40 rfl ?_
      obtain ⟨v3, m2, em2, h⟩ := gk_bi_some h
      refine gk_cVi (As := [.int a2, .int a3]) (pc := 41) K d_M_which_41 mv_M_300 mc_M_firstOn rfl tm_0 cl_ok10.1 (s_M_firstOn (gk_FD K)  em2) (by decide) rfl (Nat.le_of_ble_eq_true rfl) ?_
      refine gk_istore (lv2 := [(4, .int v3), (0, .ref 0), (1, .int a1), (2, .int a2), (3, .int a3)]) (pc := 44) K d_M_which_44 (by decide) rfl ?_
      refine gk_iload (pc := 46) K d_M_which_46 rfl ?_
      refine gk_if_lt (tgt := 87) (pc := 48) K d_M_which_48 (by decide) h (fun h => ?_) (fun h => ?_)
      · refine gk_iinc2 (lv2 := [(3, .int (a3 + 1)), (4, .int v3), (0, .ref 0), (1, .int a1), (2, .int a2)]) (pc := 87) K d_M_which_87 rfl kc_1 (by decide) rfl ?_
        refine gk_goto (tgt := 26) (pc := 90) K d_M_which_90 (by decide) ?_
        exact gk_sub [2, 3, 4, 0] rfl (ih _ _ _ _  h)
      · refine gk_iload_n (pc := 51) K d_M_which_51 rfl ?_
        refine gk_if_ne (tgt := 59) (pc := 52) K d_M_which_52 (by decide) h (fun h => ?_) (fun h => ?_)
        · refine gk_iload_n (pc := 59) K d_M_which_59 rfl ?_
          refine gk_iconst (pc := 60) K d_M_which_60 kc_1 ?_
          refine gk_ic_ne (tgt := 68) (pc := 61) K d_M_which_61 (by decide) h (fun h => ?_) (fun h => ?_)
          · refine gk_iload_n (pc := 68) K d_M_which_68 rfl ?_
            refine gk_iconst (pc := 69) K d_M_which_69 kc_2 ?_
            refine gk_ic_ne (tgt := 81) (pc := 70) K d_M_which_70 (by decide) h (fun h => ?_) (fun h => ?_)
            · refine gk_iload (pc := 81) K d_M_which_81 rfl ?_
              refine gk_bipush (pc := 83) K d_M_which_83 kb_10 ?_
              refine gk_iremc2 (pc := 85) K d_M_which_85 (by decide) ?_
              exact gk_iret (pc := 86) K d_M_which_86 rfl h
            · refine gk_iload (pc := 73) K d_M_which_73 rfl ?_
              refine gk_bipush (pc := 75) K d_M_which_75 kb_10 ?_
              refine gk_idivc2 (pc := 77) K d_M_which_77 (by decide) ?_
              refine gk_goto (tgt := 86) (pc := 78) K d_M_which_78 (by decide) ?_
              exact gk_iret (pc := 86) K d_M_which_86 rfl h
          · refine gk_iload_n (pc := 64) K d_M_which_64 rfl ?_
            refine gk_goto (tgt := 86) (pc := 65) K d_M_which_65 (by decide) ?_
            exact gk_iret (pc := 86) K d_M_which_86 rfl h
        · refine gk_iload_n (pc := 55) K d_M_which_55 rfl ?_
          refine gk_goto (tgt := 86) (pc := 56) K d_M_which_56 (by decide) ?_
          exact gk_iret (pc := 86) K d_M_which_86 rfl h
noncomputable def f_M_which_16  : Nat → Int32 → Int32 → gk_M → Option (Int32 × gk_M)
  | 0, _, _, _ => none
  | n + 1, a1, a2, m0 =>
    if (m0.1 0 10) ≤ a2 then
      some ((-2), m0)
    else
      f_M_which_26 (f_M_which_16 n) gk_fv a1 a2 0 m0

theorem s_M_which_16 {z : gk_Z} (K : gk_F tm z me_M_which 72) {r : Int32} {mem2 : gk_M} : ∀ n a1 a2 m0, f_M_which_16 n a1 a2 m0 = some (r, mem2) → gk_G tm z me_M_which (gk_R tm z (some (.int r)) mem2) m0 [(0, .ref 0), (1, .int a1), (2, .int a2)] [] 16 := by
  intro n
  induction n with
  | zero => intro a1 a2 m0  h; exact nomatch (show (none : Option _) = some _ from h)
  | succ n ih =>
    intro a1 a2 m0  h
    unfold f_M_which_16 at h
    refine gk_iload_n (pc := 16) K d_M_which_16 rfl ?_
    refine gk_aload_n (pc := 17) K d_M_which_17 rfl ?_
    refine gk_get (pc := 18) K d_M_which_18 fl_M_109 tm_0 rfl rfl ?_
    refine gk_ic_ge (tgt := 99) (pc := 21) K d_M_which_21 (by decide) h (fun h => ?_) (fun h => ?_)
    · refine gk_bipush (pc := 99) K d_M_which_99 kb_m2 ?_
      exact gk_iret (pc := 101) K d_M_which_101 rfl h
    · refine gk_iconst (pc := 24) K d_M_which_24 kc_0 ?_
      refine gk_istore_n (lv2 := [(3, .int 0), (0, .ref 0), (1, .int a1), (2, .int a2)]) (pc := 25) K d_M_which_25 (by decide) rfl ?_
      exact gk_sub [1, 2, 3, 0] rfl (s_M_which_26 K (fun x0 x1 m  h => ih x0 x1 m  h) _ _ _ _ _  h)
noncomputable def f_M_which  (a1 : Int32) (m0 : gk_M) : Option (Int32 × gk_M) :=
  gk_bi (f_M_within a1.toInt64 0 3 m0) fun v2 m1 =>
  if ¬ v2 = 0 then
    f_M_which_16 gk_fv a1 0 m1
  else
    some ((-1), m1)

theorem s_M_which_0 {z : gk_Z} (K : gk_F tm z me_M_which 72) {r : Int32} {mem2 : gk_M} : ∀ a1 m0, f_M_which a1 m0 = some (r, mem2) → gk_G tm z me_M_which (gk_R tm z (some (.int r)) mem2) m0 [(0, .ref 0), (1, .int a1)] [] 0 := by
  intro a1 m0  h
  unfold f_M_which at h
  refine gk_iload_n (pc := 0) K d_M_which_0 rfl ?_
  refine gk_i2l (pc := 1) K d_M_which_1 ?_
  refine gk_lconst (pc := 2) K d_M_which_2 kl_0 ?_
  refine gk_ldc2 (pc := 3) K d_M_which_3 lc_M_151 ?_
  obtain ⟨v2, m1, em1, h⟩ := gk_bi_some h
  refine gk_cSi (As := [.long a1.toInt64, .long 0, .long 3]) (pc := 6) K d_M_which_6 ms_M_102 mc_M_within rfl (s_M_within (gk_FD K)  em1) (by decide) rfl (Nat.le_of_ble_eq_true rfl) ?_
  refine gk_if_ne (tgt := 14) (pc := 9) K d_M_which_9 (by decide) h (fun h => ?_) (fun h => ?_)
  · refine gk_iconst (pc := 14) K d_M_which_14 kc_0 ?_
    refine gk_istore_n (lv2 := [(2, .int 0), (0, .ref 0), (1, .int a1)]) (pc := 15) K d_M_which_15 (by decide) rfl ?_
    exact gk_sub [1, 2, 0] rfl (s_M_which_16 K _ _ _ _  h)
  · refine gk_iconst (pc := 12) K d_M_which_12 kc_m1 ?_
    exact gk_iret (pc := 13) K d_M_which_13 rfl h
theorem s_M_which {l : Launch} {u : gk_U} (hD : gk_D tm u) {a1 : Int32} {m0 mem2 : gk_M} {r : Int32} (h : f_M_which a1 m0 = some (r, mem2)) : gk_C tm l u me_M_which 72 [.ref 0, .int a1] m0 (some (.int r)) mem2 :=
  gk_enter hD mc_M_which (Nat.le_of_ble_eq_true rfl) rfl (fun z _ _ K => s_M_which_0 K _ _  h)
theorem d_M_guiltsWith_0 : decode me_M_guiltsWith.2.1 0 = .ok (.iconst 0, 1) := by decide +kernel
theorem d_M_guiltsWith_1 : decode me_M_guiltsWith.2.1 1 = .ok (.istore_n 3, 1) := by decide +kernel
theorem d_M_guiltsWith_2 : decode me_M_guiltsWith.2.1 2 = .ok (.iconst 0, 1) := by decide +kernel
theorem d_M_guiltsWith_3 : decode me_M_guiltsWith.2.1 3 = .ok (.istore 4, 2) := by decide +kernel
theorem d_M_guiltsWith_5 : decode me_M_guiltsWith.2.1 5 = .ok (.iload 4, 2) := by decide +kernel
theorem d_M_guiltsWith_7 : decode me_M_guiltsWith.2.1 7 = .ok (.aload_n 0, 1) := by decide +kernel
theorem d_M_guiltsWith_8 : decode me_M_guiltsWith.2.1 8 = .ok (.getfield 109, 3) := by decide +kernel
theorem d_M_guiltsWith_11 : decode me_M_guiltsWith.2.1 11 = .ok (.if_icmp .ge 75, 3) := by decide +kernel
theorem d_M_guiltsWith_14 : decode me_M_guiltsWith.2.1 14 = .ok (.iconst 0, 1) := by decide +kernel
theorem d_M_guiltsWith_15 : decode me_M_guiltsWith.2.1 15 = .ok (.istore 5, 2) := by decide +kernel
theorem d_M_guiltsWith_17 : decode me_M_guiltsWith.2.1 17 = .ok (.iload 5, 2) := by decide +kernel
theorem d_M_guiltsWith_19 : decode me_M_guiltsWith.2.1 19 = .ok (.iconst 1, 1) := by decide +kernel
theorem d_M_guiltsWith_20 : decode me_M_guiltsWith.2.1 20 = .ok (.iadd, 1) := by decide +kernel
theorem d_M_guiltsWith_21 : decode me_M_guiltsWith.2.1 21 = .ok (.aload_n 0, 1) := by decide +kernel
theorem d_M_guiltsWith_22 : decode me_M_guiltsWith.2.1 22 = .ok (.getfield 31, 3) := by decide +kernel
theorem d_M_guiltsWith_25 : decode me_M_guiltsWith.2.1 25 = .ok (.iload 4, 2) := by decide +kernel
theorem d_M_guiltsWith_27 : decode me_M_guiltsWith.2.1 27 = .ok (.iaload, 1) := by decide +kernel
theorem d_M_guiltsWith_28 : decode me_M_guiltsWith.2.1 28 = .ok (.if_icmp .ge 52, 3) := by decide +kernel
theorem d_M_guiltsWith_31 : decode me_M_guiltsWith.2.1 31 = .ok (.iconst 0, 1) := by decide +kernel
theorem d_M_guiltsWith_32 : decode me_M_guiltsWith.2.1 32 = .ok (.istore 6, 2) := by decide +kernel
theorem d_M_guiltsWith_34 : decode me_M_guiltsWith.2.1 34 = .ok (.iload 6, 2) := by decide +kernel
theorem d_M_guiltsWith_36 : decode me_M_guiltsWith.2.1 36 = .ok (.iload_n 2, 1) := by decide +kernel
theorem d_M_guiltsWith_37 : decode me_M_guiltsWith.2.1 37 = .ok (.if_icmp .ge 37, 3) := by decide +kernel
theorem d_M_guiltsWith_40 : decode me_M_guiltsWith.2.1 40 = .ok (.iload_n 3, 1) := by decide +kernel
theorem d_M_guiltsWith_41 : decode me_M_guiltsWith.2.1 41 = .ok (.iload 6, 2) := by decide +kernel
theorem d_M_guiltsWith_43 : decode me_M_guiltsWith.2.1 43 = .ok (.iload_n 1, 1) := by decide +kernel
theorem d_M_guiltsWith_44 : decode me_M_guiltsWith.2.1 44 = .ok (.if_icmp .eq 21, 3) := by decide +kernel
theorem d_M_guiltsWith_47 : decode me_M_guiltsWith.2.1 47 = .ok (.aload_n 0, 1) := by decide +kernel
theorem d_M_guiltsWith_48 : decode me_M_guiltsWith.2.1 48 = .ok (.iload 4, 2) := by decide +kernel
theorem d_M_guiltsWith_50 : decode me_M_guiltsWith.2.1 50 = .ok (.iload 5, 2) := by decide +kernel
theorem d_M_guiltsWith_52 : decode me_M_guiltsWith.2.1 52 = .ok (.iload_n 1, 1) := by decide +kernel
theorem d_M_guiltsWith_53 : decode me_M_guiltsWith.2.1 53 = .ok (.iload 6, 2) := by decide +kernel
theorem d_M_guiltsWith_55 : decode me_M_guiltsWith.2.1 55 = .ok (.invokevirtual 284, 3) := by decide +kernel
theorem d_M_guiltsWith_58 : decode me_M_guiltsWith.2.1 58 = .ok (.ifCond .eq 7, 3) := by decide +kernel
theorem d_M_guiltsWith_61 : decode me_M_guiltsWith.2.1 61 = .ok (.iconst 1, 1) := by decide +kernel
theorem d_M_guiltsWith_62 : decode me_M_guiltsWith.2.1 62 = .ok (.goto 4, 3) := by decide +kernel
theorem d_M_guiltsWith_65 : decode me_M_guiltsWith.2.1 65 = .ok (.iconst 0, 1) := by decide +kernel
theorem d_M_guiltsWith_66 : decode me_M_guiltsWith.2.1 66 = .ok (.iadd, 1) := by decide +kernel
theorem d_M_guiltsWith_67 : decode me_M_guiltsWith.2.1 67 = .ok (.istore_n 3, 1) := by decide +kernel
theorem d_M_guiltsWith_68 : decode me_M_guiltsWith.2.1 68 = .ok (.iinc 6 1, 3) := by decide +kernel
theorem d_M_guiltsWith_71 : decode me_M_guiltsWith.2.1 71 = .ok (.goto (-37), 3) := by decide +kernel
theorem d_M_guiltsWith_74 : decode me_M_guiltsWith.2.1 74 = .ok (.iinc 5 1, 3) := by decide +kernel
theorem d_M_guiltsWith_77 : decode me_M_guiltsWith.2.1 77 = .ok (.goto (-60), 3) := by decide +kernel
theorem d_M_guiltsWith_80 : decode me_M_guiltsWith.2.1 80 = .ok (.iinc 4 1, 3) := by decide +kernel
theorem d_M_guiltsWith_83 : decode me_M_guiltsWith.2.1 83 = .ok (.goto (-78), 3) := by decide +kernel
theorem d_M_guiltsWith_86 : decode me_M_guiltsWith.2.1 86 = .ok (.iload_n 3, 1) := by decide +kernel
theorem d_M_guiltsWith_87 : decode me_M_guiltsWith.2.1 87 = .ok (.ireturn, 1) := by decide +kernel
noncomputable def f_M_guiltsWith_66 (k5 : Int32 → Int32 → Int32 → Int32 → gk_M → Option (Int32 × gk_M)) (k17 : Int32 → Int32 → Int32 → Int32 → Int32 → gk_M → Option (Int32 × gk_M)) (k34 : Int32 → Int32 → Int32 → Int32 → Int32 → Int32 → gk_M → Option (Int32 × gk_M)) (a1 : Int32) (a2 : Int32) (a4 : Int32) (a5 : Int32) (a6 : Int32) (s0 : Int32) (s1 : Int32) (m0 : gk_M) : Option (Int32 × gk_M) :=
  gk_let (s0 + s1) fun v1 =>
  k34 a1 a2 v1 a4 a5 (a6 + 1) m0

theorem s_M_guiltsWith_66 {z : gk_Z} (K : gk_F tm z me_M_guiltsWith 71) {r : Int32} {mem2 : gk_M} {k5 : Int32 → Int32 → Int32 → Int32 → gk_M → Option (Int32 × gk_M)} (hk5 : ∀ a1 a2 a3 a4 m0, k5 a1 a2 a3 a4 m0 = some (r, mem2) → gk_G tm z me_M_guiltsWith (gk_R tm z (some (.int r)) mem2) m0 [(0, .ref 0), (1, .int a1), (2, .int a2), (3, .int a3), (4, .int a4)] [] 5) {k17 : Int32 → Int32 → Int32 → Int32 → Int32 → gk_M → Option (Int32 × gk_M)} (hk17 : ∀ a1 a2 a3 a4 a5 m0, k17 a1 a2 a3 a4 a5 m0 = some (r, mem2) → gk_G tm z me_M_guiltsWith (gk_R tm z (some (.int r)) mem2) m0 [(0, .ref 0), (1, .int a1), (2, .int a2), (3, .int a3), (4, .int a4), (5, .int a5)] [] 17) {k34 : Int32 → Int32 → Int32 → Int32 → Int32 → Int32 → gk_M → Option (Int32 × gk_M)} (hk34 : ∀ a1 a2 a3 a4 a5 a6 m0, k34 a1 a2 a3 a4 a5 a6 m0 = some (r, mem2) → gk_G tm z me_M_guiltsWith (gk_R tm z (some (.int r)) mem2) m0 [(0, .ref 0), (1, .int a1), (2, .int a2), (3, .int a3), (4, .int a4), (5, .int a5), (6, .int a6)] [] 34) : ∀ a1 a2 a4 a5 a6 s0 s1 m0, f_M_guiltsWith_66 k5 k17 k34 a1 a2 a4 a5 a6 s0 s1 m0 = some (r, mem2) → gk_G tm z me_M_guiltsWith (gk_R tm z (some (.int r)) mem2) m0 [(0, .ref 0), (1, .int a1), (2, .int a2), (4, .int a4), (5, .int a5), (6, .int a6)] [.int s1, .int s0] 66 := by
  intro a1 a2 a4 a5 a6 s0 s1 m0  h
  unfold f_M_guiltsWith_66 at h
  refine gk_iadd (pc := 66) K d_M_guiltsWith_66 ?_
  refine gk_topi h (fun v1 h => ?_)
  refine gk_istore_n (lv2 := [(3, .int v1), (0, .ref 0), (1, .int a1), (2, .int a2), (4, .int a4), (5, .int a5), (6, .int a6)]) (pc := 67) K d_M_guiltsWith_67 (by decide) rfl ?_
  refine gk_iinc2 (lv2 := [(6, .int (a6 + 1)), (3, .int v1), (0, .ref 0), (1, .int a1), (2, .int a2), (4, .int a4), (5, .int a5)]) (pc := 68) K d_M_guiltsWith_68 rfl kc_1 (by decide) rfl ?_
  refine gk_goto (tgt := 34) (pc := 71) K d_M_guiltsWith_71 (by decide) ?_
  exact gk_sub [2, 3, 4, 1, 5, 6, 0] rfl (hk34 _ _ _ _ _ _ _  h)
noncomputable def f_M_guiltsWith_65 (k5 : Int32 → Int32 → Int32 → Int32 → gk_M → Option (Int32 × gk_M)) (k17 : Int32 → Int32 → Int32 → Int32 → Int32 → gk_M → Option (Int32 × gk_M)) (k34 : Int32 → Int32 → Int32 → Int32 → Int32 → Int32 → gk_M → Option (Int32 × gk_M)) (a1 : Int32) (a2 : Int32) (a4 : Int32) (a5 : Int32) (a6 : Int32) (s0 : Int32) (m0 : gk_M) : Option (Int32 × gk_M) :=
  f_M_guiltsWith_66 k5 k17 k34 a1 a2 a4 a5 a6 s0 0 m0

theorem s_M_guiltsWith_65 {z : gk_Z} (K : gk_F tm z me_M_guiltsWith 71) {r : Int32} {mem2 : gk_M} {k5 : Int32 → Int32 → Int32 → Int32 → gk_M → Option (Int32 × gk_M)} (hk5 : ∀ a1 a2 a3 a4 m0, k5 a1 a2 a3 a4 m0 = some (r, mem2) → gk_G tm z me_M_guiltsWith (gk_R tm z (some (.int r)) mem2) m0 [(0, .ref 0), (1, .int a1), (2, .int a2), (3, .int a3), (4, .int a4)] [] 5) {k17 : Int32 → Int32 → Int32 → Int32 → Int32 → gk_M → Option (Int32 × gk_M)} (hk17 : ∀ a1 a2 a3 a4 a5 m0, k17 a1 a2 a3 a4 a5 m0 = some (r, mem2) → gk_G tm z me_M_guiltsWith (gk_R tm z (some (.int r)) mem2) m0 [(0, .ref 0), (1, .int a1), (2, .int a2), (3, .int a3), (4, .int a4), (5, .int a5)] [] 17) {k34 : Int32 → Int32 → Int32 → Int32 → Int32 → Int32 → gk_M → Option (Int32 × gk_M)} (hk34 : ∀ a1 a2 a3 a4 a5 a6 m0, k34 a1 a2 a3 a4 a5 a6 m0 = some (r, mem2) → gk_G tm z me_M_guiltsWith (gk_R tm z (some (.int r)) mem2) m0 [(0, .ref 0), (1, .int a1), (2, .int a2), (3, .int a3), (4, .int a4), (5, .int a5), (6, .int a6)] [] 34) : ∀ a1 a2 a4 a5 a6 s0 m0, f_M_guiltsWith_65 k5 k17 k34 a1 a2 a4 a5 a6 s0 m0 = some (r, mem2) → gk_G tm z me_M_guiltsWith (gk_R tm z (some (.int r)) mem2) m0 [(0, .ref 0), (1, .int a1), (2, .int a2), (4, .int a4), (5, .int a5), (6, .int a6)] [.int s0] 65 := by
  intro a1 a2 a4 a5 a6 s0 m0  h
  unfold f_M_guiltsWith_65 at h
  refine gk_iconst (pc := 65) K d_M_guiltsWith_65 kc_0 ?_
  exact gk_sub [0, 1, 2, 3, 4, 5] rfl (s_M_guiltsWith_66 K hk5 hk17 hk34 _ _ _ _ _ _ _ _  h)
noncomputable def f_M_guiltsWith_34 (k5 : Int32 → Int32 → Int32 → Int32 → gk_M → Option (Int32 × gk_M)) (k17 : Int32 → Int32 → Int32 → Int32 → Int32 → gk_M → Option (Int32 × gk_M)) : Nat → Int32 → Int32 → Int32 → Int32 → Int32 → Int32 → gk_M → Option (Int32 × gk_M)
  | 0, _, _, _, _, _, _, _ => none
  | n + 1, a1, a2, a3, a4, a5, a6, m0 =>
    if a2 ≤ a6 then
      k17 a1 a2 a3 a4 (a5 + 1) m0
    else
      if a6 = a1 then
        f_M_guiltsWith_65 k5 k17 (f_M_guiltsWith_34 k5 k17 n) a1 a2 a4 a5 a6 a3 m0
      else
        gk_bi (f_M_isGuiltyOn a4 a5 a1 a6 m0) fun v2 m1 =>
        if v2 = 0 then
          f_M_guiltsWith_65 k5 k17 (f_M_guiltsWith_34 k5 k17 n) a1 a2 a4 a5 a6 a3 m1
        else
          f_M_guiltsWith_66 k5 k17 (f_M_guiltsWith_34 k5 k17 n) a1 a2 a4 a5 a6 a3 1 m1

theorem s_M_guiltsWith_34 {z : gk_Z} (K : gk_F tm z me_M_guiltsWith 71) {r : Int32} {mem2 : gk_M} {k5 : Int32 → Int32 → Int32 → Int32 → gk_M → Option (Int32 × gk_M)} (hk5 : ∀ a1 a2 a3 a4 m0, k5 a1 a2 a3 a4 m0 = some (r, mem2) → gk_G tm z me_M_guiltsWith (gk_R tm z (some (.int r)) mem2) m0 [(0, .ref 0), (1, .int a1), (2, .int a2), (3, .int a3), (4, .int a4)] [] 5) {k17 : Int32 → Int32 → Int32 → Int32 → Int32 → gk_M → Option (Int32 × gk_M)} (hk17 : ∀ a1 a2 a3 a4 a5 m0, k17 a1 a2 a3 a4 a5 m0 = some (r, mem2) → gk_G tm z me_M_guiltsWith (gk_R tm z (some (.int r)) mem2) m0 [(0, .ref 0), (1, .int a1), (2, .int a2), (3, .int a3), (4, .int a4), (5, .int a5)] [] 17) : ∀ n a1 a2 a3 a4 a5 a6 m0, f_M_guiltsWith_34 k5 k17 n a1 a2 a3 a4 a5 a6 m0 = some (r, mem2) → gk_G tm z me_M_guiltsWith (gk_R tm z (some (.int r)) mem2) m0 [(0, .ref 0), (1, .int a1), (2, .int a2), (3, .int a3), (4, .int a4), (5, .int a5), (6, .int a6)] [] 34 := by
  intro n
  induction n with
  | zero => intro a1 a2 a3 a4 a5 a6 m0  h; exact nomatch (show (none : Option _) = some _ from h)
  | succ n ih =>
    intro a1 a2 a3 a4 a5 a6 m0  h
    unfold f_M_guiltsWith_34 at h
    refine gk_iload (pc := 34) K d_M_guiltsWith_34 rfl ?_
    refine gk_iload_n (pc := 36) K d_M_guiltsWith_36 rfl ?_
    refine gk_ic_ge (tgt := 74) (pc := 37) K d_M_guiltsWith_37 (by decide) h (fun h => ?_) (fun h => ?_)
    · refine gk_iinc2 (lv2 := [(5, .int (a5 + 1)), (0, .ref 0), (1, .int a1), (2, .int a2), (3, .int a3), (4, .int a4), (6, .int a6)]) (pc := 74) K d_M_guiltsWith_74 rfl kc_1 (by decide) rfl ?_
      refine gk_goto (tgt := 17) (pc := 77) K d_M_guiltsWith_77 (by decide) ?_
      exact gk_sub [1, 2, 3, 4, 5, 0] rfl (hk17 _ _ _ _ _ _  h)
    · refine gk_iload_n (pc := 40) K d_M_guiltsWith_40 rfl ?_
      refine gk_iload (pc := 41) K d_M_guiltsWith_41 rfl ?_
      refine gk_iload_n (pc := 43) K d_M_guiltsWith_43 rfl ?_
      refine gk_ic_eq (tgt := 65) (pc := 44) K d_M_guiltsWith_44 (by decide) h (fun h => ?_) (fun h => ?_)
      · exact gk_sub [0, 1, 2, 4, 5, 6] rfl (s_M_guiltsWith_65 K hk5 hk17 (fun x0 x1 x2 x3 x4 x5 m  h => ih x0 x1 x2 x3 x4 x5 m  h) _ _ _ _ _ _ _  h)
      · refine gk_aload_n (pc := 47) K d_M_guiltsWith_47 rfl ?_
        refine gk_iload (pc := 48) K d_M_guiltsWith_48 rfl ?_
        refine gk_iload (pc := 50) K d_M_guiltsWith_50 rfl ?_
        refine gk_iload_n (pc := 52) K d_M_guiltsWith_52 rfl ?_
        refine gk_iload (pc := 53) K d_M_guiltsWith_53 rfl ?_
        obtain ⟨v2, m1, em1, h⟩ := gk_bi_some h
        refine gk_cVi (As := [.int a4, .int a5, .int a1, .int a6]) (pc := 55) K d_M_guiltsWith_55 mv_M_284 mc_M_isGuiltyOn rfl tm_0 cl_ok10.1 (s_M_isGuiltyOn (gk_FD K)  em1) (by decide) rfl (Nat.le_of_ble_eq_true rfl) ?_
        refine gk_if_eq (tgt := 65) (pc := 58) K d_M_guiltsWith_58 (by decide) h (fun h => ?_) (fun h => ?_)
        · exact gk_sub [0, 1, 2, 4, 5, 6] rfl (s_M_guiltsWith_65 K hk5 hk17 (fun x0 x1 x2 x3 x4 x5 m  h => ih x0 x1 x2 x3 x4 x5 m  h) _ _ _ _ _ _ _  h)
        · refine gk_iconst (pc := 61) K d_M_guiltsWith_61 kc_1 ?_
          refine gk_goto (tgt := 66) (pc := 62) K d_M_guiltsWith_62 (by decide) ?_
          exact gk_sub [0, 1, 2, 4, 5, 6] rfl (s_M_guiltsWith_66 K hk5 hk17 (fun x0 x1 x2 x3 x4 x5 m  h => ih x0 x1 x2 x3 x4 x5 m  h) _ _ _ _ _ _ _ _  h)
noncomputable def f_M_guiltsWith_17 (k5 : Int32 → Int32 → Int32 → Int32 → gk_M → Option (Int32 × gk_M)) : Nat → Int32 → Int32 → Int32 → Int32 → Int32 → gk_M → Option (Int32 × gk_M)
  | 0, _, _, _, _, _, _ => none
  | n + 1, a1, a2, a3, a4, a5, m0 =>
    gk_ai m0 8 4 a4 fun v1 =>
    if v1 ≤ (a5 + 1) then
      k5 a1 a2 a3 (a4 + 1) m0
    else
      f_M_guiltsWith_34 k5 (f_M_guiltsWith_17 k5 n) gk_fv a1 a2 a3 a4 a5 0 m0

theorem s_M_guiltsWith_17 {z : gk_Z} (K : gk_F tm z me_M_guiltsWith 71) {r : Int32} {mem2 : gk_M} {k5 : Int32 → Int32 → Int32 → Int32 → gk_M → Option (Int32 × gk_M)} (hk5 : ∀ a1 a2 a3 a4 m0, k5 a1 a2 a3 a4 m0 = some (r, mem2) → gk_G tm z me_M_guiltsWith (gk_R tm z (some (.int r)) mem2) m0 [(0, .ref 0), (1, .int a1), (2, .int a2), (3, .int a3), (4, .int a4)] [] 5) : ∀ n a1 a2 a3 a4 a5 m0, f_M_guiltsWith_17 k5 n a1 a2 a3 a4 a5 m0 = some (r, mem2) → gk_G tm z me_M_guiltsWith (gk_R tm z (some (.int r)) mem2) m0 [(0, .ref 0), (1, .int a1), (2, .int a2), (3, .int a3), (4, .int a4), (5, .int a5)] [] 17 := by
  intro n
  induction n with
  | zero => intro a1 a2 a3 a4 a5 m0  h; exact nomatch (show (none : Option _) = some _ from h)
  | succ n ih =>
    intro a1 a2 a3 a4 a5 m0  h
    unfold f_M_guiltsWith_17 at h
    refine gk_iload (pc := 17) K d_M_guiltsWith_17 rfl ?_
    refine gk_iconst (pc := 19) K d_M_guiltsWith_19 kc_1 ?_
    refine gk_iadd (pc := 20) K d_M_guiltsWith_20 ?_
    refine gk_aload_n (pc := 21) K d_M_guiltsWith_21 rfl ?_
    refine gk_get (pc := 22) K d_M_guiltsWith_22 fl_M_31 tm_0 rfl rfl ?_
    refine gk_iload (pc := 25) K d_M_guiltsWith_25 rfl ?_
    refine gk_iald (pc := 27) K d_M_guiltsWith_27 tm_8 h (fun v1 h => ?_)
    refine gk_ic_ge (tgt := 80) (pc := 28) K d_M_guiltsWith_28 (by decide) h (fun h => ?_) (fun h => ?_)
    · refine gk_iinc2 (lv2 := [(4, .int (a4 + 1)), (0, .ref 0), (1, .int a1), (2, .int a2), (3, .int a3), (5, .int a5)]) (pc := 80) K d_M_guiltsWith_80 rfl kc_1 (by decide) rfl ?_
      refine gk_goto (tgt := 5) (pc := 83) K d_M_guiltsWith_83 (by decide) ?_
      exact gk_sub [1, 2, 3, 4, 0] rfl (hk5 _ _ _ _ _  h)
    · refine gk_iconst (pc := 31) K d_M_guiltsWith_31 kc_0 ?_
      refine gk_istore (lv2 := [(6, .int 0), (0, .ref 0), (1, .int a1), (2, .int a2), (3, .int a3), (4, .int a4), (5, .int a5)]) (pc := 32) K d_M_guiltsWith_32 (by decide) rfl ?_
      exact gk_sub [1, 2, 3, 4, 5, 6, 0] rfl (s_M_guiltsWith_34 K hk5 (fun x0 x1 x2 x3 x4 m  h => ih x0 x1 x2 x3 x4 m  h) _ _ _ _ _ _ _ _  h)
noncomputable def f_M_guiltsWith_5  : Nat → Int32 → Int32 → Int32 → Int32 → gk_M → Option (Int32 × gk_M)
  | 0, _, _, _, _, _ => none
  | n + 1, a1, a2, a3, a4, m0 =>
    if (m0.1 0 10) ≤ a4 then
      some (a3, m0)
    else
      f_M_guiltsWith_17 (f_M_guiltsWith_5 n) gk_fv a1 a2 a3 a4 0 m0

theorem s_M_guiltsWith_5 {z : gk_Z} (K : gk_F tm z me_M_guiltsWith 71) {r : Int32} {mem2 : gk_M} : ∀ n a1 a2 a3 a4 m0, f_M_guiltsWith_5 n a1 a2 a3 a4 m0 = some (r, mem2) → gk_G tm z me_M_guiltsWith (gk_R tm z (some (.int r)) mem2) m0 [(0, .ref 0), (1, .int a1), (2, .int a2), (3, .int a3), (4, .int a4)] [] 5 := by
  intro n
  induction n with
  | zero => intro a1 a2 a3 a4 m0  h; exact nomatch (show (none : Option _) = some _ from h)
  | succ n ih =>
    intro a1 a2 a3 a4 m0  h
    unfold f_M_guiltsWith_5 at h
    refine gk_iload (pc := 5) K d_M_guiltsWith_5 rfl ?_
    refine gk_aload_n (pc := 7) K d_M_guiltsWith_7 rfl ?_
    refine gk_get (pc := 8) K d_M_guiltsWith_8 fl_M_109 tm_0 rfl rfl ?_
    refine gk_ic_ge (tgt := 86) (pc := 11) K d_M_guiltsWith_11 (by decide) h (fun h => ?_) (fun h => ?_)
    · refine gk_iload_n (pc := 86) K d_M_guiltsWith_86 rfl ?_
      exact gk_iret (pc := 87) K d_M_guiltsWith_87 rfl h
    · refine gk_iconst (pc := 14) K d_M_guiltsWith_14 kc_0 ?_
      refine gk_istore (lv2 := [(5, .int 0), (0, .ref 0), (1, .int a1), (2, .int a2), (3, .int a3), (4, .int a4)]) (pc := 15) K d_M_guiltsWith_15 (by decide) rfl ?_
      exact gk_sub [1, 2, 3, 4, 5, 0] rfl (s_M_guiltsWith_17 K (fun x0 x1 x2 x3 m  h => ih x0 x1 x2 x3 m  h) _ _ _ _ _ _ _  h)
noncomputable def f_M_guiltsWith  (a1 : Int32) (a2 : Int32) (m0 : gk_M) : Option (Int32 × gk_M) :=
  f_M_guiltsWith_5 gk_fv a1 a2 0 0 m0

theorem s_M_guiltsWith_0 {z : gk_Z} (K : gk_F tm z me_M_guiltsWith 71) {r : Int32} {mem2 : gk_M} : ∀ a1 a2 m0, f_M_guiltsWith a1 a2 m0 = some (r, mem2) → gk_G tm z me_M_guiltsWith (gk_R tm z (some (.int r)) mem2) m0 [(0, .ref 0), (1, .int a1), (2, .int a2)] [] 0 := by
  intro a1 a2 m0  h
  unfold f_M_guiltsWith at h
  refine gk_iconst (pc := 0) K d_M_guiltsWith_0 kc_0 ?_
  refine gk_istore_n (lv2 := [(3, .int 0), (0, .ref 0), (1, .int a1), (2, .int a2)]) (pc := 1) K d_M_guiltsWith_1 (by decide) rfl ?_
  refine gk_iconst (pc := 2) K d_M_guiltsWith_2 kc_0 ?_
  refine gk_istore (lv2 := [(4, .int 0), (3, .int 0), (0, .ref 0), (1, .int a1), (2, .int a2)]) (pc := 3) K d_M_guiltsWith_3 (by decide) rfl ?_
  exact gk_sub [2, 3, 4, 1, 0] rfl (s_M_guiltsWith_5 K _ _ _ _ _ _  h)
theorem s_M_guiltsWith {l : Launch} {u : gk_U} (hD : gk_D tm u) {a1 : Int32} {a2 : Int32} {m0 mem2 : gk_M} {r : Int32} (h : f_M_guiltsWith a1 a2 m0 = some (r, mem2)) : gk_C tm l u me_M_guiltsWith 71 [.ref 0, .int a1, .int a2] m0 (some (.int r)) mem2 :=
  gk_enter hD mc_M_guiltsWith (Nat.le_of_ble_eq_true rfl) rfl (fun z _ _ K => s_M_guiltsWith_0 K _ _ _  h)
theorem d_M_led_0 : decode me_M_led.2.1 0 = .ok (.aload_n 0, 1) := by decide +kernel
theorem d_M_led_1 : decode me_M_led.2.1 1 = .ok (.iload_n 1, 1) := by decide +kernel
theorem d_M_led_2 : decode me_M_led.2.1 2 = .ok (.invokevirtual 142, 3) := by decide +kernel
theorem d_M_led_5 : decode me_M_led.2.1 5 = .ok (.ifCond .eq 15, 3) := by decide +kernel
theorem d_M_led_8 : decode me_M_led.2.1 8 = .ok (.aload_n 0, 1) := by decide +kernel
theorem d_M_led_9 : decode me_M_led.2.1 9 = .ok (.iload_n 1, 1) := by decide +kernel
theorem d_M_led_10 : decode me_M_led.2.1 10 = .ok (.aload_n 0, 1) := by decide +kernel
theorem d_M_led_11 : decode me_M_led.2.1 11 = .ok (.getfield 106, 3) := by decide +kernel
theorem d_M_led_14 : decode me_M_led.2.1 14 = .ok (.invokevirtual 303, 3) := by decide +kernel
theorem d_M_led_17 : decode me_M_led.2.1 17 = .ok (.goto 4, 3) := by decide +kernel
theorem d_M_led_20 : decode me_M_led.2.1 20 = .ok (.iconst (-1), 1) := by decide +kernel
theorem d_M_led_21 : decode me_M_led.2.1 21 = .ok (.ireturn, 1) := by decide +kernel
noncomputable def f_M_led  (a1 : Int32) (m0 : gk_M) : Option (Int32 × gk_M) :=
  gk_bi (f_M_isTower a1 m0) fun v2 m1 =>
  if v2 = 0 then
    some ((-1), m1)
  else
    gk_bi (f_M_guiltsWith a1 (m1.1 0 6) m1) fun v4 m3 =>
    some (v4, m3)

theorem s_M_led_0 {z : gk_Z} (K : gk_F tm z me_M_led 72) {r : Int32} {mem2 : gk_M} : ∀ a1 m0, f_M_led a1 m0 = some (r, mem2) → gk_G tm z me_M_led (gk_R tm z (some (.int r)) mem2) m0 [(0, .ref 0), (1, .int a1)] [] 0 := by
  intro a1 m0  h
  unfold f_M_led at h
  refine gk_aload_n (pc := 0) K d_M_led_0 rfl ?_
  refine gk_iload_n (pc := 1) K d_M_led_1 rfl ?_
  obtain ⟨v2, m1, em1, h⟩ := gk_bi_some h
  refine gk_cVi (As := [.int a1]) (pc := 2) K d_M_led_2 mv_M_142 mc_M_isTower rfl tm_0 cl_ok10.1 (s_M_isTower (gk_FD K)  em1) (by decide) rfl (Nat.le_of_ble_eq_true rfl) ?_
  refine gk_if_eq (tgt := 20) (pc := 5) K d_M_led_5 (by decide) h (fun h => ?_) (fun h => ?_)
  · refine gk_iconst (pc := 20) K d_M_led_20 kc_m1 ?_
    exact gk_iret (pc := 21) K d_M_led_21 rfl h
  · refine gk_aload_n (pc := 8) K d_M_led_8 rfl ?_
    refine gk_iload_n (pc := 9) K d_M_led_9 rfl ?_
    refine gk_aload_n (pc := 10) K d_M_led_10 rfl ?_
    refine gk_get (pc := 11) K d_M_led_11 fl_M_106 tm_0 rfl rfl ?_
    obtain ⟨v4, m3, em3, h⟩ := gk_bi_some h
    refine gk_cVi (As := [.int a1, .int (m1.1 0 6)]) (pc := 14) K d_M_led_14 mv_M_303 mc_M_guiltsWith rfl tm_0 cl_ok10.1 (s_M_guiltsWith (gk_FD K)  em3) (by decide) rfl (Nat.le_of_ble_eq_true rfl) ?_
    refine gk_goto (tgt := 21) (pc := 17) K d_M_led_17 (by decide) ?_
    exact gk_iret (pc := 21) K d_M_led_21 rfl h
theorem s_M_led {l : Launch} {u : gk_U} (hD : gk_D tm u) {a1 : Int32} {m0 mem2 : gk_M} {r : Int32} (h : f_M_led a1 m0 = some (r, mem2)) : gk_C tm l u me_M_led 72 [.ref 0, .int a1] m0 (some (.int r)) mem2 :=
  gk_enter hD mc_M_led (Nat.le_of_ble_eq_true rfl) rfl (fun z _ _ K => s_M_led_0 K _ _  h)
theorem d_M_isHidden_0 : decode me_M_isHidden.2.1 0 = .ok (.iload_n 1, 1) := by decide +kernel
theorem d_M_isHidden_1 : decode me_M_isHidden.2.1 1 = .ok (.bipush 30, 2) := by decide +kernel
theorem d_M_isHidden_3 : decode me_M_isHidden.2.1 3 = .ok (.irem, 1) := by decide +kernel
theorem d_M_isHidden_4 : decode me_M_isHidden.2.1 4 = .ok (.i2l, 1) := by decide +kernel
theorem d_M_isHidden_5 : decode me_M_isHidden.2.1 5 = .ok (.lstore 4, 2) := by decide +kernel
theorem d_M_isHidden_7 : decode me_M_isHidden.2.1 7 = .ok (.iload_n 1, 1) := by decide +kernel
theorem d_M_isHidden_8 : decode me_M_isHidden.2.1 8 = .ok (.bipush 30, 2) := by decide +kernel
theorem d_M_isHidden_10 : decode me_M_isHidden.2.1 10 = .ok (.idiv, 1) := by decide +kernel
theorem d_M_isHidden_11 : decode me_M_isHidden.2.1 11 = .ok (.i2l, 1) := by decide +kernel
theorem d_M_isHidden_12 : decode me_M_isHidden.2.1 12 = .ok (.lstore 6, 2) := by decide +kernel
theorem d_M_isHidden_14 : decode me_M_isHidden.2.1 14 = .ok (.iconst 0, 1) := by decide +kernel
theorem d_M_isHidden_15 : decode me_M_isHidden.2.1 15 = .ok (.istore 8, 2) := by decide +kernel
theorem d_M_isHidden_17 : decode me_M_isHidden.2.1 17 = .ok (.iload 8, 2) := by decide +kernel
theorem d_M_isHidden_19 : decode me_M_isHidden.2.1 19 = .ok (.iload_n 3, 1) := by decide +kernel
theorem d_M_isHidden_20 : decode me_M_isHidden.2.1 20 = .ok (.if_icmp .ge 71, 3) := by decide +kernel
theorem d_M_isHidden_23 : decode me_M_isHidden.2.1 23 = .ok (.iload 8, 2) := by decide +kernel
theorem d_M_isHidden_25 : decode me_M_isHidden.2.1 25 = .ok (.iload_n 2, 1) := by decide +kernel
theorem d_M_isHidden_26 : decode me_M_isHidden.2.1 26 = .ok (.if_icmp .eq 59, 3) := by decide +kernel
theorem d_M_isHidden_29 : decode me_M_isHidden.2.1 29 = .ok (.aload_n 0, 1) := by decide +kernel
theorem d_M_isHidden_30 : decode me_M_isHidden.2.1 30 = .ok (.lload 4, 2) := by decide +kernel
theorem d_M_isHidden_32 : decode me_M_isHidden.2.1 32 = .ok (.lload 6, 2) := by decide +kernel
theorem d_M_isHidden_34 : decode me_M_isHidden.2.1 34 = .ok (.lconst 1, 1) := by decide +kernel
theorem d_M_isHidden_35 : decode me_M_isHidden.2.1 35 = .ok (.iload_n 2, 1) := by decide +kernel
theorem d_M_isHidden_36 : decode me_M_isHidden.2.1 36 = .ok (.iload 8, 2) := by decide +kernel
theorem d_M_isHidden_38 : decode me_M_isHidden.2.1 38 = .ok (.invokevirtual 235, 3) := by decide +kernel
theorem d_M_isHidden_41 : decode me_M_isHidden.2.1 41 = .ok (.ifCond .eq 44, 3) := by decide +kernel
theorem d_M_isHidden_44 : decode me_M_isHidden.2.1 44 = .ok (.aload_n 0, 1) := by decide +kernel
theorem d_M_isHidden_45 : decode me_M_isHidden.2.1 45 = .ok (.lload 4, 2) := by decide +kernel
theorem d_M_isHidden_47 : decode me_M_isHidden.2.1 47 = .ok (.lload 6, 2) := by decide +kernel
theorem d_M_isHidden_49 : decode me_M_isHidden.2.1 49 = .ok (.lconst 1, 1) := by decide +kernel
theorem d_M_isHidden_50 : decode me_M_isHidden.2.1 50 = .ok (.iload 8, 2) := by decide +kernel
theorem d_M_isHidden_52 : decode me_M_isHidden.2.1 52 = .ok (.invokevirtual 243, 3) := by decide +kernel
theorem d_M_isHidden_55 : decode me_M_isHidden.2.1 55 = .ok (.aload_n 0, 1) := by decide +kernel
theorem d_M_isHidden_56 : decode me_M_isHidden.2.1 56 = .ok (.lload 4, 2) := by decide +kernel
theorem d_M_isHidden_58 : decode me_M_isHidden.2.1 58 = .ok (.lload 6, 2) := by decide +kernel
theorem d_M_isHidden_60 : decode me_M_isHidden.2.1 60 = .ok (.lconst 1, 1) := by decide +kernel
theorem d_M_isHidden_61 : decode me_M_isHidden.2.1 61 = .ok (.iload_n 2, 1) := by decide +kernel
theorem d_M_isHidden_62 : decode me_M_isHidden.2.1 62 = .ok (.invokevirtual 243, 3) := by decide +kernel
theorem d_M_isHidden_65 : decode me_M_isHidden.2.1 65 = .ok (.lcmp, 1) := by decide +kernel
theorem d_M_isHidden_66 : decode me_M_isHidden.2.1 66 = .ok (.ifCond .ge 19, 3) := by decide +kernel
theorem d_M_isHidden_69 : decode me_M_isHidden.2.1 69 = .ok (.aload_n 0, 1) := by decide +kernel
theorem d_M_isHidden_70 : decode me_M_isHidden.2.1 70 = .ok (.iload 8, 2) := by decide +kernel
theorem d_M_isHidden_72 : decode me_M_isHidden.2.1 72 = .ok (.invokevirtual 210, 3) := by decide +kernel
theorem d_M_isHidden_75 : decode me_M_isHidden.2.1 75 = .ok (.aload_n 0, 1) := by decide +kernel
theorem d_M_isHidden_76 : decode me_M_isHidden.2.1 76 = .ok (.iload_n 2, 1) := by decide +kernel
theorem d_M_isHidden_77 : decode me_M_isHidden.2.1 77 = .ok (.invokevirtual 210, 3) := by decide +kernel
theorem d_M_isHidden_80 : decode me_M_isHidden.2.1 80 = .ok (.if_icmp .lt 5, 3) := by decide +kernel
theorem d_M_isHidden_83 : decode me_M_isHidden.2.1 83 = .ok (.iconst 1, 1) := by decide +kernel
theorem d_M_isHidden_84 : decode me_M_isHidden.2.1 84 = .ok (.ireturn, 1) := by decide +kernel
theorem d_M_isHidden_85 : decode me_M_isHidden.2.1 85 = .ok (.iinc 8 1, 3) := by decide +kernel
theorem d_M_isHidden_88 : decode me_M_isHidden.2.1 88 = .ok (.goto (-71), 3) := by decide +kernel
theorem d_M_isHidden_91 : decode me_M_isHidden.2.1 91 = .ok (.iconst 0, 1) := by decide +kernel
theorem d_M_isHidden_92 : decode me_M_isHidden.2.1 92 = .ok (.ireturn, 1) := by decide +kernel
noncomputable def f_M_isHidden_17  : Nat → Int32 → Int32 → Int64 → Int64 → Int32 → gk_M → Option (Int32 × gk_M)
  | 0, _, _, _, _, _, _ => none
  | n + 1, a2, a3, a4, a6, a8, m0 =>
    if a3 ≤ a8 then
      some (0, m0)
    else
      if a8 = a2 then
        f_M_isHidden_17 n a2 a3 a4 a6 (a8 + 1) m0
      else
        gk_bi (f_M_isBehind a4 a6 1 a2 a8 m0) fun v2 m1 =>
        if v2 = 0 then
          f_M_isHidden_17 n a2 a3 a4 a6 (a8 + 1) m1
        else
          gk_bl (f_M_farOf a4 a6 1 a8 m1) fun v4 m3 =>
          gk_bl (f_M_farOf a4 a6 1 a2 m3) fun v6 m5 =>
          if v6 ≤ v4 then
            f_M_isHidden_17 n a2 a3 a4 a6 (a8 + 1) m5
          else
            gk_bi (f_M_heightOf a8 m5) fun v8 m7 =>
            gk_bi (f_M_heightOf a2 m7) fun v10 m9 =>
            if v8 < v10 then
              f_M_isHidden_17 n a2 a3 a4 a6 (a8 + 1) m9
            else
              some (1, m9)

theorem s_M_isHidden_17 {z : gk_Z} (K : gk_F tm z me_M_isHidden 2) {r : Int32} {mem2 : gk_M} : ∀ n a2 a3 a4 a6 a8 m0, f_M_isHidden_17 n a2 a3 a4 a6 a8 m0 = some (r, mem2) → gk_G tm z me_M_isHidden (gk_R tm z (some (.int r)) mem2) m0 [(0, .ref 0), (2, .int a2), (3, .int a3), (4, .long a4), (6, .long a6), (8, .int a8)] [] 17 := by
  intro n
  induction n with
  | zero => intro a2 a3 a4 a6 a8 m0  h; exact nomatch (show (none : Option _) = some _ from h)
  | succ n ih =>
    intro a2 a3 a4 a6 a8 m0  h
    unfold f_M_isHidden_17 at h
    refine gk_iload (pc := 17) K d_M_isHidden_17 rfl ?_
    refine gk_iload_n (pc := 19) K d_M_isHidden_19 rfl ?_
    refine gk_ic_ge (tgt := 91) (pc := 20) K d_M_isHidden_20 (by decide) h (fun h => ?_) (fun h => ?_)
    · refine gk_iconst (pc := 91) K d_M_isHidden_91 kc_0 ?_
      exact gk_zretc (pc := 92) K d_M_isHidden_92 rfl (Or.inl rfl) h
    · refine gk_iload (pc := 23) K d_M_isHidden_23 rfl ?_
      refine gk_iload_n (pc := 25) K d_M_isHidden_25 rfl ?_
      refine gk_ic_eq (tgt := 85) (pc := 26) K d_M_isHidden_26 (by decide) h (fun h => ?_) (fun h => ?_)
      · refine gk_iinc2 (lv2 := [(8, .int (a8 + 1)), (0, .ref 0), (2, .int a2), (3, .int a3), (4, .long a4), (6, .long a6)]) (pc := 85) K d_M_isHidden_85 rfl kc_1 (by decide) rfl ?_
        refine gk_goto (tgt := 17) (pc := 88) K d_M_isHidden_88 (by decide) ?_
        exact gk_sub [1, 2, 3, 4, 5, 0] rfl (ih _ _ _ _ _ _  h)
      · refine gk_aload_n (pc := 29) K d_M_isHidden_29 rfl ?_
        refine gk_lload (pc := 30) K d_M_isHidden_30 rfl ?_
        refine gk_lload (pc := 32) K d_M_isHidden_32 rfl ?_
        refine gk_lconst (pc := 34) K d_M_isHidden_34 kl_1 ?_
        refine gk_iload_n (pc := 35) K d_M_isHidden_35 rfl ?_
        refine gk_iload (pc := 36) K d_M_isHidden_36 rfl ?_
        obtain ⟨v2, m1, em1, h⟩ := gk_bi_some h
        refine gk_cVi (As := [.long a4, .long a6, .long 1, .int a2, .int a8]) (pc := 38) K d_M_isHidden_38 mv_M_235 mc_M_isBehind rfl tm_0 cl_ok10.1 (s_M_isBehind (gk_FD K)  em1) (by decide) rfl (Nat.le_of_ble_eq_true rfl) ?_
        refine gk_if_eq (tgt := 85) (pc := 41) K d_M_isHidden_41 (by decide) h (fun h => ?_) (fun h => ?_)
        · refine gk_iinc2 (lv2 := [(8, .int (a8 + 1)), (0, .ref 0), (2, .int a2), (3, .int a3), (4, .long a4), (6, .long a6)]) (pc := 85) K d_M_isHidden_85 rfl kc_1 (by decide) rfl ?_
          refine gk_goto (tgt := 17) (pc := 88) K d_M_isHidden_88 (by decide) ?_
          exact gk_sub [1, 2, 3, 4, 5, 0] rfl (ih _ _ _ _ _ _  h)
        · refine gk_aload_n (pc := 44) K d_M_isHidden_44 rfl ?_
          refine gk_lload (pc := 45) K d_M_isHidden_45 rfl ?_
          refine gk_lload (pc := 47) K d_M_isHidden_47 rfl ?_
          refine gk_lconst (pc := 49) K d_M_isHidden_49 kl_1 ?_
          refine gk_iload (pc := 50) K d_M_isHidden_50 rfl ?_
          obtain ⟨v4, m3, em3, h⟩ := gk_bl_some h
          refine gk_cVl (As := [.long a4, .long a6, .long 1, .int a8]) (pc := 52) K d_M_isHidden_52 mv_M_243 mc_M_farOf rfl tm_0 cl_ok10.1 (s_M_farOf (gk_FD K)  em3) (by decide) rfl (Nat.le_of_ble_eq_true rfl) ?_
          refine gk_aload_n (pc := 55) K d_M_isHidden_55 rfl ?_
          refine gk_lload (pc := 56) K d_M_isHidden_56 rfl ?_
          refine gk_lload (pc := 58) K d_M_isHidden_58 rfl ?_
          refine gk_lconst (pc := 60) K d_M_isHidden_60 kl_1 ?_
          refine gk_iload_n (pc := 61) K d_M_isHidden_61 rfl ?_
          obtain ⟨v6, m5, em5, h⟩ := gk_bl_some h
          refine gk_cVl (As := [.long a4, .long a6, .long 1, .int a2]) (pc := 62) K d_M_isHidden_62 mv_M_243 mc_M_farOf rfl tm_0 cl_ok10.1 (s_M_farOf (gk_FD K)  em5) (by decide) rfl (Nat.le_of_ble_eq_true rfl) ?_
          refine gk_lc_ge (tgt := 85) (pc := 65) K d_M_isHidden_65 d_M_isHidden_66 (by decide) h (fun h => ?_) (fun h => ?_)
          · refine gk_iinc2 (lv2 := [(8, .int (a8 + 1)), (0, .ref 0), (2, .int a2), (3, .int a3), (4, .long a4), (6, .long a6)]) (pc := 85) K d_M_isHidden_85 rfl kc_1 (by decide) rfl ?_
            refine gk_goto (tgt := 17) (pc := 88) K d_M_isHidden_88 (by decide) ?_
            exact gk_sub [1, 2, 3, 4, 5, 0] rfl (ih _ _ _ _ _ _  h)
          · refine gk_aload_n (pc := 69) K d_M_isHidden_69 rfl ?_
            refine gk_iload (pc := 70) K d_M_isHidden_70 rfl ?_
            obtain ⟨v8, m7, em7, h⟩ := gk_bi_some h
            refine gk_cVi (As := [.int a8]) (pc := 72) K d_M_isHidden_72 mv_M_210 mc_M_heightOf rfl tm_0 cl_ok10.1 (s_M_heightOf (gk_FD K)  em7) (by decide) rfl (Nat.le_of_ble_eq_true rfl) ?_
            refine gk_aload_n (pc := 75) K d_M_isHidden_75 rfl ?_
            refine gk_iload_n (pc := 76) K d_M_isHidden_76 rfl ?_
            obtain ⟨v10, m9, em9, h⟩ := gk_bi_some h
            refine gk_cVi (As := [.int a2]) (pc := 77) K d_M_isHidden_77 mv_M_210 mc_M_heightOf rfl tm_0 cl_ok10.1 (s_M_heightOf (gk_FD K)  em9) (by decide) rfl (Nat.le_of_ble_eq_true rfl) ?_
            refine gk_ic_lt (tgt := 85) (pc := 80) K d_M_isHidden_80 (by decide) h (fun h => ?_) (fun h => ?_)
            · refine gk_iinc2 (lv2 := [(8, .int (a8 + 1)), (0, .ref 0), (2, .int a2), (3, .int a3), (4, .long a4), (6, .long a6)]) (pc := 85) K d_M_isHidden_85 rfl kc_1 (by decide) rfl ?_
              refine gk_goto (tgt := 17) (pc := 88) K d_M_isHidden_88 (by decide) ?_
              exact gk_sub [1, 2, 3, 4, 5, 0] rfl (ih _ _ _ _ _ _  h)
            · refine gk_iconst (pc := 83) K d_M_isHidden_83 kc_1 ?_
              exact gk_zretc (pc := 84) K d_M_isHidden_84 rfl (Or.inr rfl) h
noncomputable def f_M_isHidden  (a1 : Int32) (a2 : Int32) (a3 : Int32) (m0 : gk_M) : Option (Int32 × gk_M) :=
  gk_let (gk_rem a1 30).toInt64 fun v1 =>
  gk_let (a1 / 30).toInt64 fun v2 =>
  f_M_isHidden_17 gk_fv a2 a3 v1 v2 0 m0

theorem s_M_isHidden_0 {z : gk_Z} (K : gk_F tm z me_M_isHidden 2) {r : Int32} {mem2 : gk_M} : ∀ a1 a2 a3 m0, f_M_isHidden a1 a2 a3 m0 = some (r, mem2) → gk_G tm z me_M_isHidden (gk_R tm z (some (.int r)) mem2) m0 [(0, .ref 0), (1, .int a1), (2, .int a2), (3, .int a3)] [] 0 := by
  intro a1 a2 a3 m0  h
  unfold f_M_isHidden at h
  refine gk_iload_n (pc := 0) K d_M_isHidden_0 rfl ?_
  refine gk_bipush (pc := 1) K d_M_isHidden_1 kb_30 ?_
  refine gk_iremc2 (pc := 3) K d_M_isHidden_3 (by decide) ?_
  refine gk_i2l (pc := 4) K d_M_isHidden_4 ?_
  refine gk_topl h (fun v1 h => ?_)
  refine gk_lstore (lv2 := [(4, .long v1), (0, .ref 0), (1, .int a1), (2, .int a2), (3, .int a3)]) (pc := 5) K d_M_isHidden_5 (by decide) rfl ?_
  refine gk_iload_n (pc := 7) K d_M_isHidden_7 rfl ?_
  refine gk_bipush (pc := 8) K d_M_isHidden_8 kb_30 ?_
  refine gk_idivc2 (pc := 10) K d_M_isHidden_10 (by decide) ?_
  refine gk_i2l (pc := 11) K d_M_isHidden_11 ?_
  refine gk_topl h (fun v2 h => ?_)
  refine gk_lstore (lv2 := [(6, .long v2), (4, .long v1), (0, .ref 0), (1, .int a1), (2, .int a2), (3, .int a3)]) (pc := 12) K d_M_isHidden_12 (by decide) rfl ?_
  refine gk_iconst (pc := 14) K d_M_isHidden_14 kc_0 ?_
  refine gk_istore (lv2 := [(8, .int 0), (6, .long v2), (4, .long v1), (0, .ref 0), (1, .int a1), (2, .int a2), (3, .int a3)]) (pc := 15) K d_M_isHidden_15 (by decide) rfl ?_
  exact gk_sub [3, 5, 6, 2, 1, 0] rfl (s_M_isHidden_17 K _ _ _ _ _ _ _  h)
theorem s_M_isHidden {l : Launch} {u : gk_U} (hD : gk_D tm u) {a1 : Int32} {a2 : Int32} {a3 : Int32} {m0 mem2 : gk_M} {r : Int32} (h : f_M_isHidden a1 a2 a3 m0 = some (r, mem2)) : gk_C tm l u me_M_isHidden 2 [.ref 0, .int a1, .int a2, .int a3] m0 (some (.int r)) mem2 :=
  gk_enter hD mc_M_isHidden (Nat.le_of_ble_eq_true rfl) rfl (fun z _ _ K => s_M_isHidden_0 K _ _ _ _  h)
