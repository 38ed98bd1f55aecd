theorem d_M_isGuiltyOn_0 : decode me_M_isGuiltyOn.2.1 0 = .ok (.aload_n 0, 1) := by decide +kernel
theorem d_M_isGuiltyOn_1 : decode me_M_isGuiltyOn.2.1 1 = .ok (.aload_n 0, 1) := by decide +kernel
theorem d_M_isGuiltyOn_2 : decode me_M_isGuiltyOn.2.1 2 = .ok (.iload_n 1, 1) := by decide +kernel
theorem d_M_isGuiltyOn_3 : decode me_M_isGuiltyOn.2.1 3 = .ok (.iload_n 2, 1) := by decide +kernel
theorem d_M_isGuiltyOn_4 : decode me_M_isGuiltyOn.2.1 4 = .ok (.invokevirtual 275, 3) := by decide +kernel
theorem d_M_isGuiltyOn_7 : decode me_M_isGuiltyOn.2.1 7 = .ok (.aload_n 0, 1) := by decide +kernel
theorem d_M_isGuiltyOn_8 : decode me_M_isGuiltyOn.2.1 8 = .ok (.iload_n 1, 1) := by decide +kernel
theorem d_M_isGuiltyOn_9 : decode me_M_isGuiltyOn.2.1 9 = .ok (.iload_n 2, 1) := by decide +kernel
theorem d_M_isGuiltyOn_10 : decode me_M_isGuiltyOn.2.1 10 = .ok (.iconst 1, 1) := by decide +kernel
theorem d_M_isGuiltyOn_11 : decode me_M_isGuiltyOn.2.1 11 = .ok (.iadd, 1) := by decide +kernel
theorem d_M_isGuiltyOn_12 : decode me_M_isGuiltyOn.2.1 12 = .ok (.invokevirtual 275, 3) := by decide +kernel
theorem d_M_isGuiltyOn_15 : decode me_M_isGuiltyOn.2.1 15 = .ok (.iload_n 3, 1) := by decide +kernel
theorem d_M_isGuiltyOn_16 : decode me_M_isGuiltyOn.2.1 16 = .ok (.iload 4, 2) := by decide +kernel
theorem d_M_isGuiltyOn_18 : decode me_M_isGuiltyOn.2.1 18 = .ok (.iload_n 1, 1) := by decide +kernel
theorem d_M_isGuiltyOn_19 : decode me_M_isGuiltyOn.2.1 19 = .ok (.invokevirtual 278, 3) := by decide +kernel
theorem d_M_isGuiltyOn_22 : decode me_M_isGuiltyOn.2.1 22 = .ok (.ireturn, 1) := by decide +kernel
noncomputable def f_M_isGuiltyOn  (a1 : Int32) (a2 : Int32) (a3 : Int32) (a4 : Int32) (m0 : gk_M) : Option (Int32 × gk_M) :=
  gk_bi (f_M_cornerOf a1 a2 m0) fun v2 m1 =>
  gk_bi (f_M_cornerOf a1 (a2 + 1) m1) fun v4 m3 =>
  gk_bi (f_M_isGuilty v2 v4 a3 a4 a1 m3) fun v6 m5 =>
  gk_zz v6 (some (v6, m5))

theorem s_M_isGuiltyOn_0 {z : gk_Z} (K : gk_F tm z me_M_isGuiltyOn 70) {r : Int32} {mem2 : gk_M} : ∀ a1 a2 a3 a4 m0, f_M_isGuiltyOn a1 a2 a3 a4 m0 = some (r, mem2) → gk_G tm z me_M_isGuiltyOn (gk_R tm z (some (.int r)) mem2) m0 [(0, .ref 0), (1, .int a1), (2, .int a2), (3, .int a3), (4, .int a4)] [] 0 := by
  intro a1 a2 a3 a4 m0  h
  unfold f_M_isGuiltyOn at h
  refine gk_aload_n (pc := 0) K d_M_isGuiltyOn_0 rfl ?_
  refine gk_aload_n (pc := 1) K d_M_isGuiltyOn_1 rfl ?_
  refine gk_iload_n (pc := 2) K d_M_isGuiltyOn_2 rfl ?_
  refine gk_iload_n (pc := 3) K d_M_isGuiltyOn_3 rfl ?_
  obtain ⟨v2, m1, em1, h⟩ := gk_bi_some h
  refine gk_cVi (As := [.int a1, .int a2]) (pc := 4) K d_M_isGuiltyOn_4 mv_M_275 mc_M_cornerOf rfl tm_0 cl_ok10.1 (s_M_cornerOf (gk_FD K)  em1) (by decide) rfl (Nat.le_of_ble_eq_true rfl) ?_
  refine gk_aload_n (pc := 7) K d_M_isGuiltyOn_7 rfl ?_
  refine gk_iload_n (pc := 8) K d_M_isGuiltyOn_8 rfl ?_
  refine gk_iload_n (pc := 9) K d_M_isGuiltyOn_9 rfl ?_
  refine gk_iconst (pc := 10) K d_M_isGuiltyOn_10 kc_1 ?_
  refine gk_iadd (pc := 11) K d_M_isGuiltyOn_11 ?_
  obtain ⟨v4, m3, em3, h⟩ := gk_bi_some h
  refine gk_cVi (As := [.int a1, .int (a2 + 1)]) (pc := 12) K d_M_isGuiltyOn_12 mv_M_275 mc_M_cornerOf rfl tm_0 cl_ok10.1 (s_M_cornerOf (gk_FD K)  em3) (by decide) rfl (Nat.le_of_ble_eq_true rfl) ?_
  refine gk_iload_n (pc := 15) K d_M_isGuiltyOn_15 rfl ?_
  refine gk_iload (pc := 16) K d_M_isGuiltyOn_16 rfl ?_
  refine gk_iload_n (pc := 18) K d_M_isGuiltyOn_18 rfl ?_
  obtain ⟨v6, m5, em5, h⟩ := gk_bi_some h
  refine gk_cVi (As := [.int v2, .int v4, .int a3, .int a4, .int a1]) (pc := 19) K d_M_isGuiltyOn_19 mv_M_278 mc_M_isGuilty rfl tm_0 cl_ok10.1 (s_M_isGuilty (gk_FD K)  em5) (by decide) rfl (Nat.le_of_ble_eq_true rfl) ?_
  exact gk_zret (pc := 22) K d_M_isGuiltyOn_22 rfl h
theorem s_M_isGuiltyOn {l : Launch} {u : gk_U} (hD : gk_D tm u) {a1 : Int32} {a2 : Int32} {a3 : Int32} {a4 : Int32} {m0 mem2 : gk_M} {r : Int32} (h : f_M_isGuiltyOn a1 a2 a3 a4 m0 = some (r, mem2)) : gk_C tm l u me_M_isGuiltyOn 70 [.ref 0, .int a1, .int a2, .int a3, .int a4] m0 (some (.int r)) mem2 :=
  gk_enter hD mc_M_isGuiltyOn (Nat.le_of_ble_eq_true rfl) rfl (fun z _ _ K => s_M_isGuiltyOn_0 K _ _ _ _ _  h)
theorem d_M_common_0 : decode me_M_common.2.1 0 = .ok (.lload_n 0, 1) := by decide +kernel
theorem d_M_common_1 : decode me_M_common.2.1 1 = .ok (.lstore 4, 2) := by decide +kernel
theorem d_M_common_3 : decode me_M_common.2.1 3 = .ok (.lload_n 2, 1) := by decide +kernel
theorem d_M_common_4 : decode me_M_common.2.1 4 = .ok (.lstore 6, 2) := by decide +kernel
theorem d_M_common_6 : decode me_M_common.2.1 6 = .ok (.lload 6, 2) := by decide +kernel
theorem d_M_common_8 : decode me_M_common.2.1 8 = .ok (.lconst 0, 1) := by decide +kernel
theorem d_M_common_9 : decode me_M_common.2.1 9 = .ok (.lcmp, 1) := by decide +kernel
theorem d_M_common_10 : decode me_M_common.2.1 10 = .ok (.ifCond .eq 21, 3) := by decide +kernel
theorem d_M_common_13 : decode me_M_common.2.1 13 = .ok (.lload 4, 2) := by decide +kernel
theorem d_M_common_15 : decode me_M_common.2.1 15 = .ok (.lload 6, 2) := by decide +kernel
theorem d_M_common_17 : decode me_M_common.2.1 17 = .ok (.lrem, 1) := by decide +kernel
theorem d_M_common_18 : decode me_M_common.2.1 18 = .ok (.lstore 8, 2) := by decide +kernel
theorem d_M_common_20 : decode me_M_common.2.1 20 = .ok (.lload 6, 2) := by decide +kernel
theorem d_M_common_22 : decode me_M_common.2.1 22 = .ok (.lstore 4, 2) := by decide +kernel
theorem d_M_common_24 : decode me_M_common.2.1 24 = .ok (.lload 8, 2) := by decide +kernel
theorem d_M_common_26 : decode me_M_common.2.1 26 = .ok (.lstore 6, 2) := by decide +kernel
theorem d_M_common_28 : decode me_M_common.2.1 28 = .ok (.goto (-22), 3) := by decide +kernel
theorem d_M_common_31 : decode me_M_common.2.1 31 = .ok (.lload 4, 2) := by decide +kernel
theorem d_M_common_33 : decode me_M_common.2.1 33 = .ok (.lreturn, 1) := by decide +kernel
noncomputable def f_M_common_6  : Nat → Int64 → Int64 → gk_M → Option (Int64 × gk_M)
  | 0, _, _, _ => none
  | n + 1, a4, a6, m0 =>
    if a6 = 0 then
      some (a4, m0)
    else
      gk_rl a4 a6 fun v1 =>
      f_M_common_6 n a6 v1 m0

theorem s_M_common_6 {z : gk_Z} (K : gk_F tm z me_M_common 1) {r : Int64} {mem2 : gk_M} : ∀ n a4 a6 m0, f_M_common_6 n a4 a6 m0 = some (r, mem2) → gk_G tm z me_M_common (gk_R tm z (some (.long r)) mem2) m0 [(4, .long a4), (6, .long a6)] [] 6 := by
  intro n
  induction n with
  | zero => intro a4 a6 m0  h; exact nomatch (show (none : Option _) = some _ from h)
  | succ n ih =>
    intro a4 a6 m0  h
    unfold f_M_common_6 at h
    refine gk_lload (pc := 6) K d_M_common_6 rfl ?_
    refine gk_lconst (pc := 8) K d_M_common_8 kl_0 ?_
    refine gk_lc_eq (tgt := 31) (pc := 9) K d_M_common_9 d_M_common_10 (by decide) h (fun h => ?_) (fun h => ?_)
    · refine gk_lload (pc := 31) K d_M_common_31 rfl ?_
      exact gk_lret (pc := 33) K d_M_common_33 rfl h
    · refine gk_lload (pc := 13) K d_M_common_13 rfl ?_
      refine gk_lload (pc := 15) K d_M_common_15 rfl ?_
      refine gk_lrem (pc := 17) K d_M_common_17 h (fun v1 h => ?_)
      refine gk_lstore (lv2 := [(8, .long v1), (4, .long a4), (6, .long a6)]) (pc := 18) K d_M_common_18 (by decide) rfl ?_
      refine gk_lload (pc := 20) K d_M_common_20 rfl ?_
      refine gk_lstore (lv2 := [(4, .long a6), (8, .long v1), (6, .long a6)]) (pc := 22) K d_M_common_22 (by decide) rfl ?_
      refine gk_lload (pc := 24) K d_M_common_24 rfl ?_
      refine gk_lstore (lv2 := [(6, .long v1), (4, .long a6), (8, .long v1)]) (pc := 26) K d_M_common_26 (by decide) rfl ?_
      refine gk_goto (tgt := 6) (pc := 28) K d_M_common_28 (by decide) ?_
      exact gk_sub [1, 0] rfl (ih _ _ _  h)
noncomputable def f_M_common  (a0 : Int64) (a2 : Int64) (m0 : gk_M) : Option (Int64 × gk_M) :=
  f_M_common_6 gk_fv a0 a2 m0

theorem s_M_common_0 {z : gk_Z} (K : gk_F tm z me_M_common 1) {r : Int64} {mem2 : gk_M} : ∀ a0 a2 m0, f_M_common a0 a2 m0 = some (r, mem2) → gk_G tm z me_M_common (gk_R tm z (some (.long r)) mem2) m0 [(0, .long a0), (2, .long a2)] [] 0 := by
  intro a0 a2 m0  h
  unfold f_M_common at h
  refine gk_lload_n (pc := 0) K d_M_common_0 rfl ?_
  refine gk_lstore (lv2 := [(4, .long a0), (0, .long a0), (2, .long a2)]) (pc := 1) K d_M_common_1 (by decide) rfl ?_
  refine gk_lload_n (pc := 3) K d_M_common_3 rfl ?_
  refine gk_lstore (lv2 := [(6, .long a2), (4, .long a0), (0, .long a0), (2, .long a2)]) (pc := 4) K d_M_common_4 (by decide) rfl ?_
  exact gk_sub [1, 0] rfl (s_M_common_6 K _ _ _ _  h)
theorem s_M_common {l : Launch} {u : gk_U} (hD : gk_D tm u) {a0 : Int64} {a2 : Int64} {m0 mem2 : gk_M} {r : Int64} (h : f_M_common a0 a2 m0 = some (r, mem2)) : gk_C tm l u me_M_common 1 [.long a0, .long a2] m0 (some (.long r)) mem2 :=
  gk_enter hD mc_M_common (Nat.le_of_ble_eq_true rfl) rfl (fun z _ _ K => s_M_common_0 K _ _ _  h)
theorem d_M_guilty_0 : decode me_M_guilty.2.1 0 = .ok (.aload_n 0, 1) := by decide +kernel
theorem d_M_guilty_1 : decode me_M_guilty.2.1 1 = .ok (.iload_n 1, 1) := by decide +kernel
theorem d_M_guilty_2 : decode me_M_guilty.2.1 2 = .ok (.invokevirtual 281, 3) := by decide +kernel
theorem d_M_guilty_5 : decode me_M_guilty.2.1 5 = .ok (.ifCond .eq 21, 3) := by decide +kernel
theorem d_M_guilty_8 : decode me_M_guilty.2.1 8 = .ok (.aload_n 0, 1) := by decide +kernel
theorem d_M_guilty_9 : decode me_M_guilty.2.1 9 = .ok (.iload_n 2, 1) := by decide +kernel
theorem d_M_guilty_10 : decode me_M_guilty.2.1 10 = .ok (.invokevirtual 255, 3) := by decide +kernel
theorem d_M_guilty_13 : decode me_M_guilty.2.1 13 = .ok (.ifCond .eq 13, 3) := by decide +kernel
theorem d_M_guilty_16 : decode me_M_guilty.2.1 16 = .ok (.iload_n 3, 1) := by decide +kernel
theorem d_M_guilty_17 : decode me_M_guilty.2.1 17 = .ok (.i2l, 1) := by decide +kernel
theorem d_M_guilty_18 : decode me_M_guilty.2.1 18 = .ok (.lconst 0, 1) := by decide +kernel
theorem d_M_guilty_19 : decode me_M_guilty.2.1 19 = .ok (.lconst 1, 1) := by decide +kernel
theorem d_M_guilty_20 : decode me_M_guilty.2.1 20 = .ok (.invokestatic 102, 3) := by decide +kernel
theorem d_M_guilty_23 : decode me_M_guilty.2.1 23 = .ok (.ifCond .ne 5, 3) := by decide +kernel
theorem d_M_guilty_26 : decode me_M_guilty.2.1 26 = .ok (.iconst (-1), 1) := by decide +kernel
theorem d_M_guilty_27 : decode me_M_guilty.2.1 27 = .ok (.ireturn, 1) := by decide +kernel
theorem d_M_guilty_28 : decode me_M_guilty.2.1 28 = .ok (.aload_n 0, 1) := by decide +kernel
theorem d_M_guilty_29 : decode me_M_guilty.2.1 29 = .ok (.iload_n 1, 1) := by decide +kernel
theorem d_M_guilty_30 : decode me_M_guilty.2.1 30 = .ok (.bipush 10, 2) := by decide +kernel
theorem d_M_guilty_32 : decode me_M_guilty.2.1 32 = .ok (.idiv, 1) := by decide +kernel
theorem d_M_guilty_33 : decode me_M_guilty.2.1 33 = .ok (.iload_n 1, 1) := by decide +kernel
theorem d_M_guilty_34 : decode me_M_guilty.2.1 34 = .ok (.bipush 10, 2) := by decide +kernel
theorem d_M_guilty_36 : decode me_M_guilty.2.1 36 = .ok (.irem, 1) := by decide +kernel
theorem d_M_guilty_37 : decode me_M_guilty.2.1 37 = .ok (.iload_n 2, 1) := by decide +kernel
theorem d_M_guilty_38 : decode me_M_guilty.2.1 38 = .ok (.bipush 10, 2) := by decide +kernel
theorem d_M_guilty_40 : decode me_M_guilty.2.1 40 = .ok (.idiv, 1) := by decide +kernel
theorem d_M_guilty_41 : decode me_M_guilty.2.1 41 = .ok (.iload_n 2, 1) := by decide +kernel
theorem d_M_guilty_42 : decode me_M_guilty.2.1 42 = .ok (.bipush 10, 2) := by decide +kernel
theorem d_M_guilty_44 : decode me_M_guilty.2.1 44 = .ok (.irem, 1) := by decide +kernel
theorem d_M_guilty_45 : decode me_M_guilty.2.1 45 = .ok (.invokevirtual 284, 3) := by decide +kernel
theorem d_M_guilty_48 : decode me_M_guilty.2.1 48 = .ok (.ifCond .ne 6, 3) := by decide +kernel
theorem d_M_guilty_51 : decode me_M_guilty.2.1 51 = .ok (.bipush (-2), 2) := by decide +kernel
theorem d_M_guilty_53 : decode me_M_guilty.2.1 53 = .ok (.ireturn, 1) := by decide +kernel
theorem d_M_guilty_54 : decode me_M_guilty.2.1 54 = .ok (.aload_n 0, 1) := by decide +kernel
theorem d_M_guilty_55 : decode me_M_guilty.2.1 55 = .ok (.getfield 264, 3) := by decide +kernel
theorem d_M_guilty_58 : decode me_M_guilty.2.1 58 = .ok (.aload_n 0, 1) := by decide +kernel
theorem d_M_guilty_59 : decode me_M_guilty.2.1 59 = .ok (.getfield 268, 3) := by decide +kernel
theorem d_M_guilty_62 : decode me_M_guilty.2.1 62 = .ok (.invokestatic 287, 3) := by decide +kernel
theorem d_M_guilty_65 : decode me_M_guilty.2.1 65 = .ok (.lstore 4, 2) := by decide +kernel
theorem d_M_guilty_67 : decode me_M_guilty.2.1 67 = .ok (.iload_n 3, 1) := by decide +kernel
theorem d_M_guilty_68 : decode me_M_guilty.2.1 68 = .ok (.ifCond .ne 13, 3) := by decide +kernel
theorem d_M_guilty_71 : decode me_M_guilty.2.1 71 = .ok (.aload_n 0, 1) := by decide +kernel
theorem d_M_guilty_72 : decode me_M_guilty.2.1 72 = .ok (.getfield 264, 3) := by decide +kernel
theorem d_M_guilty_75 : decode me_M_guilty.2.1 75 = .ok (.lload 4, 2) := by decide +kernel
theorem d_M_guilty_77 : decode me_M_guilty.2.1 77 = .ok (.ldiv, 1) := by decide +kernel
theorem d_M_guilty_78 : decode me_M_guilty.2.1 78 = .ok (.goto 10, 3) := by decide +kernel
theorem d_M_guilty_81 : decode me_M_guilty.2.1 81 = .ok (.aload_n 0, 1) := by decide +kernel
theorem d_M_guilty_82 : decode me_M_guilty.2.1 82 = .ok (.getfield 268, 3) := by decide +kernel
theorem d_M_guilty_85 : decode me_M_guilty.2.1 85 = .ok (.lload 4, 2) := by decide +kernel
theorem d_M_guilty_87 : decode me_M_guilty.2.1 87 = .ok (.ldiv, 1) := by decide +kernel
theorem d_M_guilty_88 : decode me_M_guilty.2.1 88 = .ok (.l2i, 1) := by decide +kernel
theorem d_M_guilty_89 : decode me_M_guilty.2.1 89 = .ok (.ireturn, 1) := by decide +kernel
noncomputable def f_M_guilty_88  (s0 : Int64) (m0 : gk_M) : Option (Int32 × gk_M) :=
  some (s0.toInt32, m0)

theorem s_M_guilty_88 {z : gk_Z} (K : gk_F tm z me_M_guilty 71) {r : Int32} {mem2 : gk_M} : ∀ s0 m0, f_M_guilty_88 s0 m0 = some (r, mem2) → gk_G tm z me_M_guilty (gk_R tm z (some (.int r)) mem2) m0 [] [.long s0] 88 := by
  intro s0 m0  h
  unfold f_M_guilty_88 at h
  refine gk_l2i (pc := 88) K d_M_guilty_88 ?_
  exact gk_iret (pc := 89) K d_M_guilty_89 rfl h
noncomputable def f_M_guilty  (a1 : Int32) (a2 : Int32) (a3 : Int32) (m0 : gk_M) : Option (Int32 × gk_M) :=
  gk_bi (f_M_isStretch a1 m0) fun v2 m1 =>
  if v2 = 0 then
    some ((-1), m1)
  else
    gk_bi (f_M_areTwo a2 m1) fun v4 m3 =>
    if v4 = 0 then
      some ((-1), m3)
    else
      gk_bi (f_M_within a3.toInt64 0 1 m3) fun v6 m5 =>
      if ¬ v6 = 0 then
        gk_bi (f_M_isGuiltyOn (a1 / 10) (gk_rem a1 10) (a2 / 10) (gk_rem a2 10) m5) fun v8 m7 =>
        if ¬ v8 = 0 then
          gk_bl (f_M_common (m7.2 0 25) (m7.2 0 26) m7) fun v10 m9 =>
          if ¬ a3 = 0 then
            gk_dl (m9.2 0 26) v10 fun v11 =>
            f_M_guilty_88 v11 m9
          else
            gk_dl (m9.2 0 25) v10 fun v12 =>
            f_M_guilty_88 v12 m9
        else
          some ((-2), m7)
      else
        some ((-1), m5)

theorem s_M_guilty_0 {z : gk_Z} (K : gk_F tm z me_M_guilty 71) {r : Int32} {mem2 : gk_M} : ∀ a1 a2 a3 m0, f_M_guilty a1 a2 a3 m0 = some (r, mem2) → gk_G tm z me_M_guilty (gk_R tm z (some (.int r)) mem2) m0 [(0, .ref 0), (1, .int a1), (2, .int a2), (3, .int a3)] [] 0 := by
  intro a1 a2 a3 m0  h
  unfold f_M_guilty at h
  refine gk_aload_n (pc := 0) K d_M_guilty_0 rfl ?_
  refine gk_iload_n (pc := 1) K d_M_guilty_1 rfl ?_
  obtain ⟨v2, m1, em1, h⟩ := gk_bi_some h
  refine gk_cVi (As := [.int a1]) (pc := 2) K d_M_guilty_2 mv_M_281 mc_M_isStretch rfl tm_0 cl_ok10.1 (s_M_isStretch (gk_FD K)  em1) (by decide) rfl (Nat.le_of_ble_eq_true rfl) ?_
  refine gk_if_eq (tgt := 26) (pc := 5) K d_M_guilty_5 (by decide) h (fun h => ?_) (fun h => ?_)
  · refine gk_iconst (pc := 26) K d_M_guilty_26 kc_m1 ?_
    exact gk_iret (pc := 27) K d_M_guilty_27 rfl h
  · refine gk_aload_n (pc := 8) K d_M_guilty_8 rfl ?_
    refine gk_iload_n (pc := 9) K d_M_guilty_9 rfl ?_
    obtain ⟨v4, m3, em3, h⟩ := gk_bi_some h
    refine gk_cVi (As := [.int a2]) (pc := 10) K d_M_guilty_10 mv_M_255 mc_M_areTwo rfl tm_0 cl_ok10.1 (s_M_areTwo (gk_FD K)  em3) (by decide) rfl (Nat.le_of_ble_eq_true rfl) ?_
    refine gk_if_eq (tgt := 26) (pc := 13) K d_M_guilty_13 (by decide) h (fun h => ?_) (fun h => ?_)
    · refine gk_iconst (pc := 26) K d_M_guilty_26 kc_m1 ?_
      exact gk_iret (pc := 27) K d_M_guilty_27 rfl h
    · refine gk_iload_n (pc := 16) K d_M_guilty_16 rfl ?_
      refine gk_i2l (pc := 17) K d_M_guilty_17 ?_
      refine gk_lconst (pc := 18) K d_M_guilty_18 kl_0 ?_
      refine gk_lconst (pc := 19) K d_M_guilty_19 kl_1 ?_
      obtain ⟨v6, m5, em5, h⟩ := gk_bi_some h
      refine gk_cSi (As := [.long a3.toInt64, .long 0, .long 1]) (pc := 20) K d_M_guilty_20 ms_M_102 mc_M_within rfl (s_M_within (gk_FD K)  em5) (by decide) rfl (Nat.le_of_ble_eq_true rfl) ?_
      refine gk_if_ne (tgt := 28) (pc := 23) K d_M_guilty_23 (by decide) h (fun h => ?_) (fun h => ?_)
      · refine gk_aload_n (pc := 28) K d_M_guilty_28 rfl ?_
        refine gk_iload_n (pc := 29) K d_M_guilty_29 rfl ?_
        refine gk_bipush (pc := 30) K d_M_guilty_30 kb_10 ?_
        refine gk_idivc2 (pc := 32) K d_M_guilty_32 (by decide) ?_
        refine gk_iload_n (pc := 33) K d_M_guilty_33 rfl ?_
        refine gk_bipush (pc := 34) K d_M_guilty_34 kb_10 ?_
        refine gk_iremc2 (pc := 36) K d_M_guilty_36 (by decide) ?_
        refine gk_iload_n (pc := 37) K d_M_guilty_37 rfl ?_
        refine gk_bipush (pc := 38) K d_M_guilty_38 kb_10 ?_
        refine gk_idivc2 (pc := 40) K d_M_guilty_40 (by decide) ?_
        refine gk_iload_n (pc := 41) K d_M_guilty_41 rfl ?_
        refine gk_bipush (pc := 42) K d_M_guilty_42 kb_10 ?_
        refine gk_iremc2 (pc := 44) K d_M_guilty_44 (by decide) ?_
        obtain ⟨v8, m7, em7, h⟩ := gk_bi_some h
        refine gk_cVi (As := [.int (a1 / 10), .int (gk_rem a1 10), .int (a2 / 10), .int (gk_rem a2 10)]) (pc := 45) K d_M_guilty_45 mv_M_284 mc_M_isGuiltyOn rfl tm_0 cl_ok10.1 (s_M_isGuiltyOn (gk_FD K)  em7) (by decide) rfl (Nat.le_of_ble_eq_true rfl) ?_
        refine gk_if_ne (tgt := 54) (pc := 48) K d_M_guilty_48 (by decide) h (fun h => ?_) (fun h => ?_)
        · refine gk_aload_n (pc := 54) K d_M_guilty_54 rfl ?_
          refine gk_get (pc := 55) K d_M_guilty_55 fl_M_264 tm_0 rfl rfl ?_
          refine gk_aload_n (pc := 58) K d_M_guilty_58 rfl ?_
          refine gk_get (pc := 59) K d_M_guilty_59 fl_M_268 tm_0 rfl rfl ?_
          obtain ⟨v10, m9, em9, h⟩ := gk_bl_some h
          refine gk_cSl (As := [.long (m7.2 0 25), .long (m7.2 0 26)]) (pc := 62) K d_M_guilty_62 ms_M_287 mc_M_common rfl (s_M_common (gk_FD K)  em9) (by decide) rfl (Nat.le_of_ble_eq_true rfl) ?_
          refine gk_lstore (lv2 := [(4, .long v10), (0, .ref 0), (1, .int a1), (2, .int a2), (3, .int a3)]) (pc := 65) K d_M_guilty_65 (by decide) rfl ?_
          refine gk_iload_n (pc := 67) K d_M_guilty_67 rfl ?_
          refine gk_if_ne (tgt := 81) (pc := 68) K d_M_guilty_68 (by decide) h (fun h => ?_) (fun h => ?_)
          · refine gk_aload_n (pc := 81) K d_M_guilty_81 rfl ?_
            refine gk_get (pc := 82) K d_M_guilty_82 fl_M_268 tm_0 rfl rfl ?_
            refine gk_lload (pc := 85) K d_M_guilty_85 rfl ?_
            refine gk_ldiv (pc := 87) K d_M_guilty_87 h (fun v11 h => ?_)
            exact gk_sub [] rfl (s_M_guilty_88 K _ _  h)
          · refine gk_aload_n (pc := 71) K d_M_guilty_71 rfl ?_
            refine gk_get (pc := 72) K d_M_guilty_72 fl_M_264 tm_0 rfl rfl ?_
            refine gk_lload (pc := 75) K d_M_guilty_75 rfl ?_
            refine gk_ldiv (pc := 77) K d_M_guilty_77 h (fun v12 h => ?_)
            refine gk_goto (tgt := 88) (pc := 78) K d_M_guilty_78 (by decide) ?_
            exact gk_sub [] rfl (s_M_guilty_88 K _ _  h)
        · refine gk_bipush (pc := 51) K d_M_guilty_51 kb_m2 ?_
          exact gk_iret (pc := 53) K d_M_guilty_53 rfl h
      · refine gk_iconst (pc := 26) K d_M_guilty_26 kc_m1 ?_
        exact gk_iret (pc := 27) K d_M_guilty_27 rfl h
theorem s_M_guilty {l : Launch} {u : gk_U} (hD : gk_D tm u) {a1 : Int32} {a2 : Int32} {a3 : Int32} {m0 mem2 : gk_M} {r : Int32} (h : f_M_guilty a1 a2 a3 m0 = some (r, mem2)) : gk_C tm l u me_M_guilty 71 [.ref 0, .int a1, .int a2, .int a3] m0 (some (.int r)) mem2 :=
  gk_enter hD mc_M_guilty (Nat.le_of_ble_eq_true rfl) rfl (fun z _ _ K => s_M_guilty_0 K _ _ _ _  h)
theorem d_M_guiltsOn_0 : decode me_M_guiltsOn.2.1 0 = .ok (.iconst 0, 1) := by decide +kernel
theorem d_M_guiltsOn_1 : decode me_M_guiltsOn.2.1 1 = .ok (.istore_n 3, 1) := by decide +kernel
theorem d_M_guiltsOn_2 : decode me_M_guiltsOn.2.1 2 = .ok (.iconst 0, 1) := by decide +kernel
theorem d_M_guiltsOn_3 : decode me_M_guiltsOn.2.1 3 = .ok (.istore 4, 2) := by decide +kernel
theorem d_M_guiltsOn_5 : decode me_M_guiltsOn.2.1 5 = .ok (.iload 4, 2) := by decide +kernel
theorem d_M_guiltsOn_7 : decode me_M_guiltsOn.2.1 7 = .ok (.aload_n 0, 1) := by decide +kernel
theorem d_M_guiltsOn_8 : decode me_M_guiltsOn.2.1 8 = .ok (.getfield 106, 3) := by decide +kernel
theorem d_M_guiltsOn_11 : decode me_M_guiltsOn.2.1 11 = .ok (.if_icmp .ge 51, 3) := by decide +kernel
theorem d_M_guiltsOn_14 : decode me_M_guiltsOn.2.1 14 = .ok (.iload 4, 2) := by decide +kernel
theorem d_M_guiltsOn_16 : decode me_M_guiltsOn.2.1 16 = .ok (.iconst 1, 1) := by decide +kernel
theorem d_M_guiltsOn_17 : decode me_M_guiltsOn.2.1 17 = .ok (.iadd, 1) := by decide +kernel
theorem d_M_guiltsOn_18 : decode me_M_guiltsOn.2.1 18 = .ok (.istore 5, 2) := by decide +kernel
theorem d_M_guiltsOn_20 : decode me_M_guiltsOn.2.1 20 = .ok (.iload 5, 2) := by decide +kernel
theorem d_M_guiltsOn_22 : decode me_M_guiltsOn.2.1 22 = .ok (.aload_n 0, 1) := by decide +kernel
theorem d_M_guiltsOn_23 : decode me_M_guiltsOn.2.1 23 = .ok (.getfield 106, 3) := by decide +kernel
theorem d_M_guiltsOn_26 : decode me_M_guiltsOn.2.1 26 = .ok (.if_icmp .ge 30, 3) := by decide +kernel
theorem d_M_guiltsOn_29 : decode me_M_guiltsOn.2.1 29 = .ok (.iload_n 3, 1) := by decide +kernel
theorem d_M_guiltsOn_30 : decode me_M_guiltsOn.2.1 30 = .ok (.aload_n 0, 1) := by decide +kernel
theorem d_M_guiltsOn_31 : decode me_M_guiltsOn.2.1 31 = .ok (.iload_n 1, 1) := by decide +kernel
theorem d_M_guiltsOn_32 : decode me_M_guiltsOn.2.1 32 = .ok (.iload_n 2, 1) := by decide +kernel
theorem d_M_guiltsOn_33 : decode me_M_guiltsOn.2.1 33 = .ok (.iload 4, 2) := by decide +kernel
theorem d_M_guiltsOn_35 : decode me_M_guiltsOn.2.1 35 = .ok (.iload 5, 2) := by decide +kernel
theorem d_M_guiltsOn_37 : decode me_M_guiltsOn.2.1 37 = .ok (.invokevirtual 284, 3) := by decide +kernel
theorem d_M_guiltsOn_40 : decode me_M_guiltsOn.2.1 40 = .ok (.ifCond .eq 7, 3) := by decide +kernel
theorem d_M_guiltsOn_43 : decode me_M_guiltsOn.2.1 43 = .ok (.iconst 1, 1) := by decide +kernel
theorem d_M_guiltsOn_44 : decode me_M_guiltsOn.2.1 44 = .ok (.goto 4, 3) := by decide +kernel
theorem d_M_guiltsOn_47 : decode me_M_guiltsOn.2.1 47 = .ok (.iconst 0, 1) := by decide +kernel
theorem d_M_guiltsOn_48 : decode me_M_guiltsOn.2.1 48 = .ok (.iadd, 1) := by decide +kernel
theorem d_M_guiltsOn_49 : decode me_M_guiltsOn.2.1 49 = .ok (.istore_n 3, 1) := by decide +kernel
theorem d_M_guiltsOn_50 : decode me_M_guiltsOn.2.1 50 = .ok (.iinc 5 1, 3) := by decide +kernel
theorem d_M_guiltsOn_53 : decode me_M_guiltsOn.2.1 53 = .ok (.goto (-33), 3) := by decide +kernel
theorem d_M_guiltsOn_56 : decode me_M_guiltsOn.2.1 56 = .ok (.iinc 4 1, 3) := by decide +kernel
theorem d_M_guiltsOn_59 : decode me_M_guiltsOn.2.1 59 = .ok (.goto (-54), 3) := by decide +kernel
theorem d_M_guiltsOn_62 : decode me_M_guiltsOn.2.1 62 = .ok (.iload_n 3, 1) := by decide +kernel
theorem d_M_guiltsOn_63 : decode me_M_guiltsOn.2.1 63 = .ok (.ireturn, 1) := by decide +kernel
noncomputable def f_M_guiltsOn_48 (k5 : Int32 → Int32 → Int32 → Int32 → gk_M → Option (Int32 × gk_M)) (k20 : Int32 → Int32 → Int32 → Int32 → Int32 → gk_M → Option (Int32 × gk_M)) (a1 : Int32) (a2 : Int32) (a4 : Int32) (a5 : Int32) (s0 : Int32) (s1 : Int32) (m0 : gk_M) : Option (Int32 × gk_M) :=
  gk_let (s0 + s1) fun v1 =>
  k20 a1 a2 v1 a4 (a5 + 1) m0

theorem s_M_guiltsOn_48 {z : gk_Z} (K : gk_F tm z me_M_guiltsOn 71) {r : Int32} {mem2 : gk_M} {k5 : Int32 → Int32 → Int32 → Int32 → gk_M → Option (Int32 × gk_M)} (hk5 : ∀ a1 a2 a3 a4 m0, k5 a1 a2 a3 a4 m0 = some (r, mem2) → gk_G tm z me_M_guiltsOn (gk_R tm z (some (.int r)) mem2) m0 [(0, .ref 0), (1, .int a1), (2, .int a2), (3, .int a3), (4, .int a4)] [] 5) {k20 : Int32 → Int32 → Int32 → Int32 → Int32 → gk_M → Option (Int32 × gk_M)} (hk20 : ∀ a1 a2 a3 a4 a5 m0, k20 a1 a2 a3 a4 a5 m0 = some (r, mem2) → gk_G tm z me_M_guiltsOn (gk_R tm z (some (.int r)) mem2) m0 [(0, .ref 0), (1, .int a1), (2, .int a2), (3, .int a3), (4, .int a4), (5, .int a5)] [] 20) : ∀ a1 a2 a4 a5 s0 s1 m0, f_M_guiltsOn_48 k5 k20 a1 a2 a4 a5 s0 s1 m0 = some (r, mem2) → gk_G tm z me_M_guiltsOn (gk_R tm z (some (.int r)) mem2) m0 [(0, .ref 0), (1, .int a1), (2, .int a2), (4, .int a4), (5, .int a5)] [.int s1, .int s0] 48 := by
  intro a1 a2 a4 a5 s0 s1 m0  h
  unfold f_M_guiltsOn_48 at h
  refine gk_iadd (pc := 48) K d_M_guiltsOn_48 ?_
  refine gk_topi h (fun v1 h => ?_)
  refine gk_istore_n (lv2 := [(3, .int v1), (0, .ref 0), (1, .int a1), (2, .int a2), (4, .int a4), (5, .int a5)]) (pc := 49) K d_M_guiltsOn_49 (by decide) rfl ?_
  refine gk_iinc2 (lv2 := [(5, .int (a5 + 1)), (3, .int v1), (0, .ref 0), (1, .int a1), (2, .int a2), (4, .int a4)]) (pc := 50) K d_M_guiltsOn_50 rfl kc_1 (by decide) rfl ?_
  refine gk_goto (tgt := 20) (pc := 53) K d_M_guiltsOn_53 (by decide) ?_
  exact gk_sub [2, 3, 4, 1, 5, 0] rfl (hk20 _ _ _ _ _ _  h)
noncomputable def f_M_guiltsOn_20 (k5 : Int32 → Int32 → Int32 → Int32 → gk_M → Option (Int32 × gk_M)) : Nat → Int32 → Int32 → Int32 → Int32 → Int32 → gk_M → Option (Int32 × gk_M)
  | 0, _, _, _, _, _, _ => none
  | n + 1, a1, a2, a3, a4, a5, m0 =>
    if (m0.1 0 6) ≤ a5 then
      k5 a1 a2 a3 (a4 + 1) m0
    else
      gk_bi (f_M_isGuiltyOn a1 a2 a4 a5 m0) fun v2 m1 =>
      if v2 = 0 then
        f_M_guiltsOn_48 k5 (f_M_guiltsOn_20 k5 n) a1 a2 a4 a5 a3 0 m1
      else
        f_M_guiltsOn_48 k5 (f_M_guiltsOn_20 k5 n) a1 a2 a4 a5 a3 1 m1

theorem s_M_guiltsOn_20 {z : gk_Z} (K : gk_F tm z me_M_guiltsOn 71) {r : Int32} {mem2 : gk_M} {k5 : Int32 → Int32 → Int32 → Int32 → gk_M → Option (Int32 × gk_M)} (hk5 : ∀ a1 a2 a3 a4 m0, k5 a1 a2 a3 a4 m0 = some (r, mem2) → gk_G tm z me_M_guiltsOn (gk_R tm z (some (.int r)) mem2) m0 [(0, .ref 0), (1, .int a1), (2, .int a2), (3, .int a3), (4, .int a4)] [] 5) : ∀ n a1 a2 a3 a4 a5 m0, f_M_guiltsOn_20 k5 n a1 a2 a3 a4 a5 m0 = some (r, mem2) → gk_G tm z me_M_guiltsOn (gk_R tm z (some (.int r)) mem2) m0 [(0, .ref 0), (1, .int a1), (2, .int a2), (3, .int a3), (4, .int a4), (5, .int a5)] [] 20 := by
  intro n
  induction n with
  | zero => intro a1 a2 a3 a4 a5 m0  h; exact nomatch (show (none : Option _) = some _ from h)
  | succ n ih =>
    intro a1 a2 a3 a4 a5 m0  h
    unfold f_M_guiltsOn_20 at h
    refine gk_iload (pc := 20) K d_M_guiltsOn_20 rfl ?_
    refine gk_aload_n (pc := 22) K d_M_guiltsOn_22 rfl ?_
    refine gk_get (pc := 23) K d_M_guiltsOn_23 fl_M_106 tm_0 rfl rfl ?_
    refine gk_ic_ge (tgt := 56) (pc := 26) K d_M_guiltsOn_26 (by decide) h (fun h => ?_) (fun h => ?_)
    · refine gk_iinc2 (lv2 := [(4, .int (a4 + 1)), (0, .ref 0), (1, .int a1), (2, .int a2), (3, .int a3), (5, .int a5)]) (pc := 56) K d_M_guiltsOn_56 rfl kc_1 (by decide) rfl ?_
      refine gk_goto (tgt := 5) (pc := 59) K d_M_guiltsOn_59 (by decide) ?_
      exact gk_sub [1, 2, 3, 4, 0] rfl (hk5 _ _ _ _ _  h)
    · refine gk_iload_n (pc := 29) K d_M_guiltsOn_29 rfl ?_
      refine gk_aload_n (pc := 30) K d_M_guiltsOn_30 rfl ?_
      refine gk_iload_n (pc := 31) K d_M_guiltsOn_31 rfl ?_
      refine gk_iload_n (pc := 32) K d_M_guiltsOn_32 rfl ?_
      refine gk_iload (pc := 33) K d_M_guiltsOn_33 rfl ?_
      refine gk_iload (pc := 35) K d_M_guiltsOn_35 rfl ?_
      obtain ⟨v2, m1, em1, h⟩ := gk_bi_some h
      refine gk_cVi (As := [.int a1, .int a2, .int a4, .int a5]) (pc := 37) K d_M_guiltsOn_37 mv_M_284 mc_M_isGuiltyOn rfl tm_0 cl_ok10.1 (s_M_isGuiltyOn (gk_FD K)  em1) (by decide) rfl (Nat.le_of_ble_eq_true rfl) ?_
      refine gk_if_eq (tgt := 47) (pc := 40) K d_M_guiltsOn_40 (by decide) h (fun h => ?_) (fun h => ?_)
      · refine gk_iconst (pc := 47) K d_M_guiltsOn_47 kc_0 ?_
        exact gk_sub [0, 1, 2, 4, 5] rfl (s_M_guiltsOn_48 K hk5 (fun x0 x1 x2 x3 x4 m  h => ih x0 x1 x2 x3 x4 m  h) _ _ _ _ _ _ _  h)
      · refine gk_iconst (pc := 43) K d_M_guiltsOn_43 kc_1 ?_
        refine gk_goto (tgt := 48) (pc := 44) K d_M_guiltsOn_44 (by decide) ?_
        exact gk_sub [0, 1, 2, 4, 5] rfl (s_M_guiltsOn_48 K hk5 (fun x0 x1 x2 x3 x4 m  h => ih x0 x1 x2 x3 x4 m  h) _ _ _ _ _ _ _  h)
noncomputable def f_M_guiltsOn_5  : Nat → Int32 → Int32 → Int32 → Int32 → gk_M → Option (Int32 × gk_M)
  | 0, _, _, _, _, _ => none
  | n + 1, a1, a2, a3, a4, m0 =>
    if (m0.1 0 6) ≤ a4 then
      some (a3, m0)
    else
      gk_let (a4 + 1) fun v1 =>
      f_M_guiltsOn_20 (f_M_guiltsOn_5 n) gk_fv a1 a2 a3 a4 v1 m0

theorem s_M_guiltsOn_5 {z : gk_Z} (K : gk_F tm z me_M_guiltsOn 71) {r : Int32} {mem2 : gk_M} : ∀ n a1 a2 a3 a4 m0, f_M_guiltsOn_5 n a1 a2 a3 a4 m0 = some (r, mem2) → gk_G tm z me_M_guiltsOn (gk_R tm z (some (.int r)) mem2) m0 [(0, .ref 0), (1, .int a1), (2, .int a2), (3, .int a3), (4, .int a4)] [] 5 := by
  intro n
  induction n with
  | zero => intro a1 a2 a3 a4 m0  h; exact nomatch (show (none : Option _) = some _ from h)
  | succ n ih =>
    intro a1 a2 a3 a4 m0  h
    unfold f_M_guiltsOn_5 at h
    refine gk_iload (pc := 5) K d_M_guiltsOn_5 rfl ?_
    refine gk_aload_n (pc := 7) K d_M_guiltsOn_7 rfl ?_
    refine gk_get (pc := 8) K d_M_guiltsOn_8 fl_M_106 tm_0 rfl rfl ?_
    refine gk_ic_ge (tgt := 62) (pc := 11) K d_M_guiltsOn_11 (by decide) h (fun h => ?_) (fun h => ?_)
    · refine gk_iload_n (pc := 62) K d_M_guiltsOn_62 rfl ?_
      exact gk_iret (pc := 63) K d_M_guiltsOn_63 rfl h
    · refine gk_iload (pc := 14) K d_M_guiltsOn_14 rfl ?_
      refine gk_iconst (pc := 16) K d_M_guiltsOn_16 kc_1 ?_
      refine gk_iadd (pc := 17) K d_M_guiltsOn_17 ?_
      refine gk_topi h (fun v1 h => ?_)
      refine gk_istore (lv2 := [(5, .int v1), (0, .ref 0), (1, .int a1), (2, .int a2), (3, .int a3), (4, .int a4)]) (pc := 18) K d_M_guiltsOn_18 (by decide) rfl ?_
      exact gk_sub [1, 2, 3, 4, 5, 0] rfl (s_M_guiltsOn_20 K (fun x0 x1 x2 x3 m  h => ih x0 x1 x2 x3 m  h) _ _ _ _ _ _ _  h)
noncomputable def f_M_guiltsOn  (a1 : Int32) (a2 : Int32) (m0 : gk_M) : Option (Int32 × gk_M) :=
  f_M_guiltsOn_5 gk_fv a1 a2 0 0 m0

theorem s_M_guiltsOn_0 {z : gk_Z} (K : gk_F tm z me_M_guiltsOn 71) {r : Int32} {mem2 : gk_M} : ∀ a1 a2 m0, f_M_guiltsOn a1 a2 m0 = some (r, mem2) → gk_G tm z me_M_guiltsOn (gk_R tm z (some (.int r)) mem2) m0 [(0, .ref 0), (1, .int a1), (2, .int a2)] [] 0 := by
  intro a1 a2 m0  h
  unfold f_M_guiltsOn at h
  refine gk_iconst (pc := 0) K d_M_guiltsOn_0 kc_0 ?_
  refine gk_istore_n (lv2 := [(3, .int 0), (0, .ref 0), (1, .int a1), (2, .int a2)]) (pc := 1) K d_M_guiltsOn_1 (by decide) rfl ?_
  refine gk_iconst (pc := 2) K d_M_guiltsOn_2 kc_0 ?_
  refine gk_istore (lv2 := [(4, .int 0), (3, .int 0), (0, .ref 0), (1, .int a1), (2, .int a2)]) (pc := 3) K d_M_guiltsOn_3 (by decide) rfl ?_
  exact gk_sub [2, 3, 4, 1, 0] rfl (s_M_guiltsOn_5 K _ _ _ _ _ _  h)
theorem s_M_guiltsOn {l : Launch} {u : gk_U} (hD : gk_D tm u) {a1 : Int32} {a2 : Int32} {m0 mem2 : gk_M} {r : Int32} (h : f_M_guiltsOn a1 a2 m0 = some (r, mem2)) : gk_C tm l u me_M_guiltsOn 71 [.ref 0, .int a1, .int a2] m0 (some (.int r)) mem2 :=
  gk_enter hD mc_M_guiltsOn (Nat.le_of_ble_eq_true rfl) rfl (fun z _ _ K => s_M_guiltsOn_0 K _ _ _  h)
theorem d_M_guiltsOf_0 : decode me_M_guiltsOf.2.1 0 = .ok (.iconst 0, 1) := by decide +kernel
theorem d_M_guiltsOf_1 : decode me_M_guiltsOf.2.1 1 = .ok (.istore_n 2, 1) := by decide +kernel
theorem d_M_guiltsOf_2 : decode me_M_guiltsOf.2.1 2 = .ok (.iconst 0, 1) := by decide +kernel
theorem d_M_guiltsOf_3 : decode me_M_guiltsOf.2.1 3 = .ok (.istore_n 3, 1) := by decide +kernel
theorem d_M_guiltsOf_4 : decode me_M_guiltsOf.2.1 4 = .ok (.iload_n 3, 1) := by decide +kernel
theorem d_M_guiltsOf_5 : decode me_M_guiltsOf.2.1 5 = .ok (.iconst 1, 1) := by decide +kernel
theorem d_M_guiltsOf_6 : decode me_M_guiltsOf.2.1 6 = .ok (.iadd, 1) := by decide +kernel
theorem d_M_guiltsOf_7 : decode me_M_guiltsOf.2.1 7 = .ok (.aload_n 0, 1) := by decide +kernel
theorem d_M_guiltsOf_8 : decode me_M_guiltsOf.2.1 8 = .ok (.getfield 31, 3) := by decide +kernel
theorem d_M_guiltsOf_11 : decode me_M_guiltsOf.2.1 11 = .ok (.iload_n 1, 1) := by decide +kernel
theorem d_M_guiltsOf_12 : decode me_M_guiltsOf.2.1 12 = .ok (.iaload, 1) := by decide +kernel
theorem d_M_guiltsOf_13 : decode me_M_guiltsOf.2.1 13 = .ok (.if_icmp .ge 18, 3) := by decide +kernel
theorem d_M_guiltsOf_16 : decode me_M_guiltsOf.2.1 16 = .ok (.iload_n 2, 1) := by decide +kernel
theorem d_M_guiltsOf_17 : decode me_M_guiltsOf.2.1 17 = .ok (.aload_n 0, 1) := by decide +kernel
theorem d_M_guiltsOf_18 : decode me_M_guiltsOf.2.1 18 = .ok (.iload_n 1, 1) := by decide +kernel
theorem d_M_guiltsOf_19 : decode me_M_guiltsOf.2.1 19 = .ok (.iload_n 3, 1) := by decide +kernel
theorem d_M_guiltsOf_20 : decode me_M_guiltsOf.2.1 20 = .ok (.invokevirtual 291, 3) := by decide +kernel
theorem d_M_guiltsOf_23 : decode me_M_guiltsOf.2.1 23 = .ok (.iadd, 1) := by decide +kernel
theorem d_M_guiltsOf_24 : decode me_M_guiltsOf.2.1 24 = .ok (.istore_n 2, 1) := by decide +kernel
theorem d_M_guiltsOf_25 : decode me_M_guiltsOf.2.1 25 = .ok (.iinc 3 1, 3) := by decide +kernel
theorem d_M_guiltsOf_28 : decode me_M_guiltsOf.2.1 28 = .ok (.goto (-24), 3) := by decide +kernel
theorem d_M_guiltsOf_31 : decode me_M_guiltsOf.2.1 31 = .ok (.iload_n 2, 1) := by decide +kernel
theorem d_M_guiltsOf_32 : decode me_M_guiltsOf.2.1 32 = .ok (.ireturn, 1) := by decide +kernel
noncomputable def f_M_guiltsOf_4  : Nat → Int32 → Int32 → Int32 → gk_M → Option (Int32 × gk_M)
  | 0, _, _, _, _ => none
  | n + 1, a1, a2, a3, m0 =>
    gk_ai m0 8 4 a1 fun v1 =>
    if v1 ≤ (a3 + 1) then
      some (a2, m0)
    else
      gk_bi (f_M_guiltsOn a1 a3 m0) fun v3 m2 =>
      gk_let (a2 + v3) fun v4 =>
      f_M_guiltsOf_4 n a1 v4 (a3 + 1) m2

theorem s_M_guiltsOf_4 {z : gk_Z} (K : gk_F tm z me_M_guiltsOf 72) {r : Int32} {mem2 : gk_M} : ∀ n a1 a2 a3 m0, f_M_guiltsOf_4 n a1 a2 a3 m0 = some (r, mem2) → gk_G tm z me_M_guiltsOf (gk_R tm z (some (.int r)) mem2) m0 [(0, .ref 0), (1, .int a1), (2, .int a2), (3, .int a3)] [] 4 := by
  intro n
  induction n with
  | zero => intro a1 a2 a3 m0  h; exact nomatch (show (none : Option _) = some _ from h)
  | succ n ih =>
    intro a1 a2 a3 m0  h
    unfold f_M_guiltsOf_4 at h
    refine gk_iload_n (pc := 4) K d_M_guiltsOf_4 rfl ?_
    refine gk_iconst (pc := 5) K d_M_guiltsOf_5 kc_1 ?_
    refine gk_iadd (pc := 6) K d_M_guiltsOf_6 ?_
    refine gk_aload_n (pc := 7) K d_M_guiltsOf_7 rfl ?_
    refine gk_get (pc := 8) K d_M_guiltsOf_8 fl_M_31 tm_0 rfl rfl ?_
    refine gk_iload_n (pc := 11) K d_M_guiltsOf_11 rfl ?_
    refine gk_iald (pc := 12) K d_M_guiltsOf_12 tm_8 h (fun v1 h => ?_)
    refine gk_ic_ge (tgt := 31) (pc := 13) K d_M_guiltsOf_13 (by decide) h (fun h => ?_) (fun h => ?_)
    · refine gk_iload_n (pc := 31) K d_M_guiltsOf_31 rfl ?_
      exact gk_iret (pc := 32) K d_M_guiltsOf_32 rfl h
    · refine gk_iload_n (pc := 16) K d_M_guiltsOf_16 rfl ?_
      refine gk_aload_n (pc := 17) K d_M_guiltsOf_17 rfl ?_
      refine gk_iload_n (pc := 18) K d_M_guiltsOf_18 rfl ?_
      refine gk_iload_n (pc := 19) K d_M_guiltsOf_19 rfl ?_
      obtain ⟨v3, m2, em2, h⟩ := gk_bi_some h
      refine gk_cVi (As := [.int a1, .int a3]) (pc := 20) K d_M_guiltsOf_20 mv_M_291 mc_M_guiltsOn rfl tm_0 cl_ok10.1 (s_M_guiltsOn (gk_FD K)  em2) (by decide) rfl (Nat.le_of_ble_eq_true rfl) ?_
      refine gk_iadd (pc := 23) K d_M_guiltsOf_23 ?_
      refine gk_topi h (fun v4 h => ?_)
      refine gk_istore_n (lv2 := [(2, .int v4), (0, .ref 0), (1, .int a1), (3, .int a3)]) (pc := 24) K d_M_guiltsOf_24 (by decide) rfl ?_
      refine gk_iinc2 (lv2 := [(3, .int (a3 + 1)), (2, .int v4), (0, .ref 0), (1, .int a1)]) (pc := 25) K d_M_guiltsOf_25 rfl kc_1 (by decide) rfl ?_
      refine gk_goto (tgt := 4) (pc := 28) K d_M_guiltsOf_28 (by decide) ?_
      exact gk_sub [2, 3, 1, 0] rfl (ih _ _ _ _  h)
noncomputable def f_M_guiltsOf  (a1 : Int32) (m0 : gk_M) : Option (Int32 × gk_M) :=
  f_M_guiltsOf_4 gk_fv a1 0 0 m0

theorem s_M_guiltsOf_0 {z : gk_Z} (K : gk_F tm z me_M_guiltsOf 72) {r : Int32} {mem2 : gk_M} : ∀ a1 m0, f_M_guiltsOf a1 m0 = some (r, mem2) → gk_G tm z me_M_guiltsOf (gk_R tm z (some (.int r)) mem2) m0 [(0, .ref 0), (1, .int a1)] [] 0 := by
  intro a1 m0  h
  unfold f_M_guiltsOf at h
  refine gk_iconst (pc := 0) K d_M_guiltsOf_0 kc_0 ?_
  refine gk_istore_n (lv2 := [(2, .int 0), (0, .ref 0), (1, .int a1)]) (pc := 1) K d_M_guiltsOf_1 (by decide) rfl ?_
  refine gk_iconst (pc := 2) K d_M_guiltsOf_2 kc_0 ?_
  refine gk_istore_n (lv2 := [(3, .int 0), (2, .int 0), (0, .ref 0), (1, .int a1)]) (pc := 3) K d_M_guiltsOf_3 (by decide) rfl ?_
  exact gk_sub [2, 3, 1, 0] rfl (s_M_guiltsOf_4 K _ _ _ _ _  h)
theorem s_M_guiltsOf {l : Launch} {u : gk_U} (hD : gk_D tm u) {a1 : Int32} {m0 mem2 : gk_M} {r : Int32} (h : f_M_guiltsOf a1 m0 = some (r, mem2)) : gk_C tm l u me_M_guiltsOf 72 [.ref 0, .int a1] m0 (some (.int r)) mem2 :=
  gk_enter hD mc_M_guiltsOf (Nat.le_of_ble_eq_true rfl) rfl (fun z _ _ K => s_M_guiltsOf_0 K _ _  h)
theorem d_M_allGuilts_0 : decode me_M_allGuilts.2.1 0 = .ok (.iconst 0, 1) := by decide +kernel
theorem d_M_allGuilts_1 : decode me_M_allGuilts.2.1 1 = .ok (.istore_n 1, 1) := by decide +kernel
theorem d_M_allGuilts_2 : decode me_M_allGuilts.2.1 2 = .ok (.iconst 0, 1) := by decide +kernel
theorem d_M_allGuilts_3 : decode me_M_allGuilts.2.1 3 = .ok (.istore_n 2, 1) := by decide +kernel
theorem d_M_allGuilts_4 : decode me_M_allGuilts.2.1 4 = .ok (.iload_n 2, 1) := by decide +kernel
theorem d_M_allGuilts_5 : decode me_M_allGuilts.2.1 5 = .ok (.aload_n 0, 1) := by decide +kernel
theorem d_M_allGuilts_6 : decode me_M_allGuilts.2.1 6 = .ok (.getfield 109, 3) := by decide +kernel
theorem d_M_allGuilts_9 : decode me_M_allGuilts.2.1 9 = .ok (.if_icmp .ge 17, 3) := by decide +kernel
theorem d_M_allGuilts_12 : decode me_M_allGuilts.2.1 12 = .ok (.iload_n 1, 1) := by decide +kernel
theorem d_M_allGuilts_13 : decode me_M_allGuilts.2.1 13 = .ok (.aload_n 0, 1) := by decide +kernel
theorem d_M_allGuilts_14 : decode me_M_allGuilts.2.1 14 = .ok (.iload_n 2, 1) := by decide +kernel
theorem d_M_allGuilts_15 : decode me_M_allGuilts.2.1 15 = .ok (.invokevirtual 294, 3) := by decide +kernel
theorem d_M_allGuilts_18 : decode me_M_allGuilts.2.1 18 = .ok (.iadd, 1) := by decide +kernel
theorem d_M_allGuilts_19 : decode me_M_allGuilts.2.1 19 = .ok (.istore_n 1, 1) := by decide +kernel
theorem d_M_allGuilts_20 : decode me_M_allGuilts.2.1 20 = .ok (.iinc 2 1, 3) := by decide +kernel
theorem d_M_allGuilts_23 : decode me_M_allGuilts.2.1 23 = .ok (.goto (-19), 3) := by decide +kernel
theorem d_M_allGuilts_26 : decode me_M_allGuilts.2.1 26 = .ok (.iload_n 1, 1) := by decide +kernel
theorem d_M_allGuilts_27 : decode me_M_allGuilts.2.1 27 = .ok (.ireturn, 1) := by decide +kernel
noncomputable def f_M_allGuilts_4  : Nat → Int32 → Int32 → gk_M → Option (Int32 × gk_M)
  | 0, _, _, _ => none
  | n + 1, a1, a2, m0 =>
    if (m0.1 0 10) ≤ a2 then
      some (a1, m0)
    else
      gk_bi (f_M_guiltsOf a2 m0) fun v2 m1 =>
      gk_let (a1 + v2) fun v3 =>
      f_M_allGuilts_4 n v3 (a2 + 1) m1

theorem s_M_allGuilts_4 {z : gk_Z} (K : gk_F tm z me_M_allGuilts 73) {r : Int32} {mem2 : gk_M} : ∀ n a1 a2 m0, f_M_allGuilts_4 n a1 a2 m0 = some (r, mem2) → gk_G tm z me_M_allGuilts (gk_R tm z (some (.int r)) mem2) m0 [(0, .ref 0), (1, .int a1), (2, .int a2)] [] 4 := by
  intro n
  induction n with
  | zero => intro a1 a2 m0  h; exact nomatch (show (none : Option _) = some _ from h)
  | succ n ih =>
    intro a1 a2 m0  h
    unfold f_M_allGuilts_4 at h
    refine gk_iload_n (pc := 4) K d_M_allGuilts_4 rfl ?_
    refine gk_aload_n (pc := 5) K d_M_allGuilts_5 rfl ?_
    refine gk_get (pc := 6) K d_M_allGuilts_6 fl_M_109 tm_0 rfl rfl ?_
    refine gk_ic_ge (tgt := 26) (pc := 9) K d_M_allGuilts_9 (by decide) h (fun h => ?_) (fun h => ?_)
    · refine gk_iload_n (pc := 26) K d_M_allGuilts_26 rfl ?_
      exact gk_iret (pc := 27) K d_M_allGuilts_27 rfl h
    · refine gk_iload_n (pc := 12) K d_M_allGuilts_12 rfl ?_
      refine gk_aload_n (pc := 13) K d_M_allGuilts_13 rfl ?_
      refine gk_iload_n (pc := 14) K d_M_allGuilts_14 rfl ?_
      obtain ⟨v2, m1, em1, h⟩ := gk_bi_some h
      refine gk_cVi (As := [.int a2]) (pc := 15) K d_M_allGuilts_15 mv_M_294 mc_M_guiltsOf rfl tm_0 cl_ok10.1 (s_M_guiltsOf (gk_FD K)  em1) (by decide) rfl (Nat.le_of_ble_eq_true rfl) ?_
      refine gk_iadd (pc := 18) K d_M_allGuilts_18 ?_
      refine gk_topi h (fun v3 h => ?_)
      refine gk_istore_n (lv2 := [(1, .int v3), (0, .ref 0), (2, .int a2)]) (pc := 19) K d_M_allGuilts_19 (by decide) rfl ?_
      refine gk_iinc2 (lv2 := [(2, .int (a2 + 1)), (1, .int v3), (0, .ref 0)]) (pc := 20) K d_M_allGuilts_20 rfl kc_1 (by decide) rfl ?_
      refine gk_goto (tgt := 4) (pc := 23) K d_M_allGuilts_23 (by decide) ?_
      exact gk_sub [2, 1, 0] rfl (ih _ _ _  h)
noncomputable def f_M_allGuilts   (m0 : gk_M) : Option (Int32 × gk_M) :=
  f_M_allGuilts_4 gk_fv 0 0 m0

theorem s_M_allGuilts_0 {z : gk_Z} (K : gk_F tm z me_M_allGuilts 73) {r : Int32} {mem2 : gk_M} : ∀  m0, f_M_allGuilts  m0 = some (r, mem2) → gk_G tm z me_M_allGuilts (gk_R tm z (some (.int r)) mem2) m0 [(0, .ref 0)] [] 0 := by
  intro  m0  h
  unfold f_M_allGuilts at h
  refine gk_iconst (pc := 0) K d_M_allGuilts_0 kc_0 ?_
  refine gk_istore_n (lv2 := [(1, .int 0), (0, .ref 0)]) (pc := 1) K d_M_allGuilts_1 (by decide) rfl ?_
  refine gk_iconst (pc := 2) K d_M_allGuilts_2 kc_0 ?_
  refine gk_istore_n (lv2 := [(2, .int 0), (1, .int 0), (0, .ref 0)]) (pc := 3) K d_M_allGuilts_3 (by decide) rfl ?_
  exact gk_sub [2, 1, 0] rfl (s_M_allGuilts_4 K _ _ _ _  h)
theorem s_M_allGuilts {l : Launch} {u : gk_U} (hD : gk_D tm u) {m0 mem2 : gk_M} {r : Int32} (h : f_M_allGuilts  m0 = some (r, mem2)) : gk_C tm l u me_M_allGuilts 73 [.ref 0] m0 (some (.int r)) mem2 :=
  gk_enter hD mc_M_allGuilts (Nat.le_of_ble_eq_true rfl) rfl (fun z _ _ K => s_M_allGuilts_0 K  _  h)
theorem d_M_guilts_0 : decode me_M_guilts.2.1 0 = .ok (.iload_n 1, 1) := by decide +kernel
theorem d_M_guilts_1 : decode me_M_guilts.2.1 1 = .ok (.iconst (-1), 1) := by decide +kernel
theorem d_M_guilts_2 : decode me_M_guilts.2.1 2 = .ok (.if_icmp .ne 8, 3) := by decide +kernel
theorem d_M_guilts_5 : decode me_M_guilts.2.1 5 = .ok (.aload_n 0, 1) := by decide +kernel
theorem d_M_guilts_6 : decode me_M_guilts.2.1 6 = .ok (.invokevirtual 297, 3) := by decide +kernel
theorem d_M_guilts_9 : decode me_M_guilts.2.1 9 = .ok (.ireturn, 1) := by decide +kernel
theorem d_M_guilts_10 : decode me_M_guilts.2.1 10 = .ok (.aload_n 0, 1) := by decide +kernel
theorem d_M_guilts_11 : decode me_M_guilts.2.1 11 = .ok (.iload_n 1, 1) := by decide +kernel
theorem d_M_guilts_12 : decode me_M_guilts.2.1 12 = .ok (.invokevirtual 136, 3) := by decide +kernel
theorem d_M_guilts_15 : decode me_M_guilts.2.1 15 = .ok (.ifCond .eq 11, 3) := by decide +kernel
theorem d_M_guilts_18 : decode me_M_guilts.2.1 18 = .ok (.aload_n 0, 1) := by decide +kernel
theorem d_M_guilts_19 : decode me_M_guilts.2.1 19 = .ok (.iload_n 1, 1) := by decide +kernel
theorem d_M_guilts_20 : decode me_M_guilts.2.1 20 = .ok (.invokevirtual 294, 3) := by decide +kernel
theorem d_M_guilts_23 : decode me_M_guilts.2.1 23 = .ok (.goto 4, 3) := by decide +kernel
theorem d_M_guilts_26 : decode me_M_guilts.2.1 26 = .ok (.iconst (-1), 1) := by decide +kernel
theorem d_M_guilts_27 : decode me_M_guilts.2.1 27 = .ok (.ireturn, 1) := by decide +kernel
noncomputable def f_M_guilts  (a1 : Int32) (m0 : gk_M) : Option (Int32 × gk_M) :=
  if ¬ a1 = (-1) then
    gk_bi (f_M_isRoad a1 m0) fun v2 m1 =>
    if v2 = 0 then
      some ((-1), m1)
    else
      gk_bi (f_M_guiltsOf a1 m1) fun v4 m3 =>
      some (v4, m3)
  else
    gk_bi (f_M_allGuilts  m0) fun v6 m5 =>
    some (v6, m5)

theorem s_M_guilts_0 {z : gk_Z} (K : gk_F tm z me_M_guilts 74) {r : Int32} {mem2 : gk_M} : ∀ a1 m0, f_M_guilts a1 m0 = some (r, mem2) → gk_G tm z me_M_guilts (gk_R tm z (some (.int r)) mem2) m0 [(0, .ref 0), (1, .int a1)] [] 0 := by
  intro a1 m0  h
  unfold f_M_guilts at h
  refine gk_iload_n (pc := 0) K d_M_guilts_0 rfl ?_
  refine gk_iconst (pc := 1) K d_M_guilts_1 kc_m1 ?_
  refine gk_ic_ne (tgt := 10) (pc := 2) K d_M_guilts_2 (by decide) h (fun h => ?_) (fun h => ?_)
  · refine gk_aload_n (pc := 10) K d_M_guilts_10 rfl ?_
    refine gk_iload_n (pc := 11) K d_M_guilts_11 rfl ?_
    obtain ⟨v2, m1, em1, h⟩ := gk_bi_some h
    refine gk_cVi (As := [.int a1]) (pc := 12) K d_M_guilts_12 mv_M_136 mc_M_isRoad rfl tm_0 cl_ok10.1 (s_M_isRoad (gk_FD K)  em1) (by decide) rfl (Nat.le_of_ble_eq_true rfl) ?_
    refine gk_if_eq (tgt := 26) (pc := 15) K d_M_guilts_15 (by decide) h (fun h => ?_) (fun h => ?_)
    · refine gk_iconst (pc := 26) K d_M_guilts_26 kc_m1 ?_
      exact gk_iret (pc := 27) K d_M_guilts_27 rfl h
    · refine gk_aload_n (pc := 18) K d_M_guilts_18 rfl ?_
      refine gk_iload_n (pc := 19) K d_M_guilts_19 rfl ?_
      obtain ⟨v4, m3, em3, h⟩ := gk_bi_some h
      refine gk_cVi (As := [.int a1]) (pc := 20) K d_M_guilts_20 mv_M_294 mc_M_guiltsOf rfl tm_0 cl_ok10.1 (s_M_guiltsOf (gk_FD K)  em3) (by decide) rfl (Nat.le_of_ble_eq_true rfl) ?_
      refine gk_goto (tgt := 27) (pc := 23) K d_M_guilts_23 (by decide) ?_
      exact gk_iret (pc := 27) K d_M_guilts_27 rfl h
  · refine gk_aload_n (pc := 5) K d_M_guilts_5 rfl ?_
    obtain ⟨v6, m5, em5, h⟩ := gk_bi_some h
    refine gk_cVi (As := []) (pc := 6) K d_M_guilts_6 mv_M_297 mc_M_allGuilts rfl tm_0 cl_ok10.1 (s_M_allGuilts (gk_FD K)  em5) (by decide) rfl (Nat.le_of_ble_eq_true rfl) ?_
    exact gk_iret (pc := 9) K d_M_guilts_9 rfl h
theorem s_M_guilts {l : Launch} {u : gk_U} (hD : gk_D tm u) {a1 : Int32} {m0 mem2 : gk_M} {r : Int32} (h : f_M_guilts a1 m0 = some (r, mem2)) : gk_C tm l u me_M_guilts 74 [.ref 0, .int a1] m0 (some (.int r)) mem2 :=
  gk_enter hD mc_M_guilts (Nat.le_of_ble_eq_true rfl) rfl (fun z _ _ K => s_M_guilts_0 K _ _  h)
theorem d_M_firstOn_0 : decode me_M_firstOn.2.1 0 = .ok (.iconst 0, 1) := by decide +kernel
theorem d_M_firstOn_1 : decode me_M_firstOn.2.1 1 = .ok (.istore_n 3, 1) := by decide +kernel
theorem d_M_firstOn_2 : decode me_M_firstOn.2.1 2 = .ok (.iload_n 3, 1) := by decide +kernel
theorem d_M_firstOn_3 : decode me_M_firstOn.2.1 3 = .ok (.aload_n 0, 1) := by decide +kernel
theorem d_M_firstOn_4 : decode me_M_firstOn.2.1 4 = .ok (.getfield 106, 3) := by decide +kernel
theorem d_M_firstOn_7 : decode me_M_firstOn.2.1 7 = .ok (.if_icmp .ge 49, 3) := by decide +kernel
theorem d_M_firstOn_10 : decode me_M_firstOn.2.1 10 = .ok (.iload_n 3, 1) := by decide +kernel
theorem d_M_firstOn_11 : decode me_M_firstOn.2.1 11 = .ok (.iconst 1, 1) := by decide +kernel
theorem d_M_firstOn_12 : decode me_M_firstOn.2.1 12 = .ok (.iadd, 1) := by decide +kernel
theorem d_M_firstOn_13 : decode me_M_firstOn.2.1 13 = .ok (.istore 4, 2) := by decide +kernel
theorem d_M_firstOn_15 : decode me_M_firstOn.2.1 15 = .ok (.iload 4, 2) := by decide +kernel
theorem d_M_firstOn_17 : decode me_M_firstOn.2.1 17 = .ok (.aload_n 0, 1) := by decide +kernel
theorem d_M_firstOn_18 : decode me_M_firstOn.2.1 18 = .ok (.getfield 106, 3) := by decide +kernel
theorem d_M_firstOn_21 : decode me_M_firstOn.2.1 21 = .ok (.if_icmp .ge 29, 3) := by decide +kernel
theorem d_M_firstOn_24 : decode me_M_firstOn.2.1 24 = .ok (.aload_n 0, 1) := by decide +kernel
theorem d_M_firstOn_25 : decode me_M_firstOn.2.1 25 = .ok (.iload_n 1, 1) := by decide +kernel
theorem d_M_firstOn_26 : decode me_M_firstOn.2.1 26 = .ok (.iload_n 2, 1) := by decide +kernel
theorem d_M_firstOn_27 : decode me_M_firstOn.2.1 27 = .ok (.iload_n 3, 1) := by decide +kernel
theorem d_M_firstOn_28 : decode me_M_firstOn.2.1 28 = .ok (.iload 4, 2) := by decide +kernel
theorem d_M_firstOn_30 : decode me_M_firstOn.2.1 30 = .ok (.invokevirtual 284, 3) := by decide +kernel
theorem d_M_firstOn_33 : decode me_M_firstOn.2.1 33 = .ok (.ifCond .eq 11, 3) := by decide +kernel
theorem d_M_firstOn_36 : decode me_M_firstOn.2.1 36 = .ok (.bipush 10, 2) := by decide +kernel
theorem d_M_firstOn_38 : decode me_M_firstOn.2.1 38 = .ok (.iload_n 3, 1) := by decide +kernel
theorem d_M_firstOn_39 : decode me_M_firstOn.2.1 39 = .ok (.imul, 1) := by decide +kernel
theorem d_M_firstOn_40 : decode me_M_firstOn.2.1 40 = .ok (.iload 4, 2) := by decide +kernel
theorem d_M_firstOn_42 : decode me_M_firstOn.2.1 42 = .ok (.iadd, 1) := by decide +kernel
theorem d_M_firstOn_43 : decode me_M_firstOn.2.1 43 = .ok (.ireturn, 1) := by decide +kernel
theorem d_M_firstOn_44 : decode me_M_firstOn.2.1 44 = .ok (.iinc 4 1, 3) := by decide +kernel
theorem d_M_firstOn_47 : decode me_M_firstOn.2.1 47 = .ok (.goto (-32), 3) := by decide +kernel
theorem d_M_firstOn_50 : decode me_M_firstOn.2.1 50 = .ok (.iinc 3 1, 3) := by decide +kernel
theorem d_M_firstOn_53 : decode me_M_firstOn.2.1 53 = .ok (.goto (-51), 3) := by decide +kernel
theorem d_M_firstOn_56 : decode me_M_firstOn.2.1 56 = .ok (.bipush (-2), 2) := by decide +kernel
theorem d_M_firstOn_58 : decode me_M_firstOn.2.1 58 = .ok (.ireturn, 1) := by decide +kernel
noncomputable def f_M_firstOn_15 (k2 : Int32 → Int32 → Int32 → gk_M → Option (Int32 × gk_M)) : Nat → Int32 → Int32 → Int32 → Int32 → gk_M → Option (Int32 × gk_M)
  | 0, _, _, _, _, _ => none
  | n + 1, a1, a2, a3, a4, m0 =>
    if (m0.1 0 6) ≤ a4 then
      k2 a1 a2 (a3 + 1) m0
    else
      gk_bi (f_M_isGuiltyOn a1 a2 a3 a4 m0) fun v2 m1 =>
      if v2 = 0 then
        f_M_firstOn_15 k2 n a1 a2 a3 (a4 + 1) m1
      else
        some (((10 * a3) + a4), m1)

theorem s_M_firstOn_15 {z : gk_Z} (K : gk_F tm z me_M_firstOn 71) {r : Int32} {mem2 : gk_M} {k2 : Int32 → Int32 → Int32 → gk_M → Option (Int32 × gk_M)} (hk2 : ∀ a1 a2 a3 m0, k2 a1 a2 a3 m0 = some (r, mem2) → gk_G tm z me_M_firstOn (gk_R tm z (some (.int r)) mem2) m0 [(0, .ref 0), (1, .int a1), (2, .int a2), (3, .int a3)] [] 2) : ∀ n a1 a2 a3 a4 m0, f_M_firstOn_15 k2 n a1 a2 a3 a4 m0 = some (r, mem2) → gk_G tm z me_M_firstOn (gk_R tm z (some (.int r)) mem2) m0 [(0, .ref 0), (1, .int a1), (2, .int a2), (3, .int a3), (4, .int a4)] [] 15 := by
  intro n
  induction n with
  | zero => intro a1 a2 a3 a4 m0  h; exact nomatch (show (none : Option _) = some _ from h)
  | succ n ih =>
    intro a1 a2 a3 a4 m0  h
    unfold f_M_firstOn_15 at h
    refine gk_iload (pc := 15) K d_M_firstOn_15 rfl ?_
    refine gk_aload_n (pc := 17) K d_M_firstOn_17 rfl ?_
    refine gk_get (pc := 18) K d_M_firstOn_18 fl_M_106 tm_0 rfl rfl ?_
    refine gk_ic_ge (tgt := 50) (pc := 21) K d_M_firstOn_21 (by decide) h (fun h => ?_) (fun h => ?_)
    · refine gk_iinc2 (lv2 := [(3, .int (a3 + 1)), (0, .ref 0), (1, .int a1), (2, .int a2), (4, .int a4)]) (pc := 50) K d_M_firstOn_50 rfl kc_1 (by decide) rfl ?_
      refine gk_goto (tgt := 2) (pc := 53) K d_M_firstOn_53 (by decide) ?_
      exact gk_sub [1, 2, 3, 0] rfl (hk2 _ _ _ _  h)
    · refine gk_aload_n (pc := 24) K d_M_firstOn_24 rfl ?_
      refine gk_iload_n (pc := 25) K d_M_firstOn_25 rfl ?_
      refine gk_iload_n (pc := 26) K d_M_firstOn_26 rfl ?_
      refine gk_iload_n (pc := 27) K d_M_firstOn_27 rfl ?_
      refine gk_iload (pc := 28) K d_M_firstOn_28 rfl ?_
      obtain ⟨v2, m1, em1, h⟩ := gk_bi_some h
      refine gk_cVi (As := [.int a1, .int a2, .int a3, .int a4]) (pc := 30) K d_M_firstOn_30 mv_M_284 mc_M_isGuiltyOn rfl tm_0 cl_ok10.1 (s_M_isGuiltyOn (gk_FD K)  em1) (by decide) rfl (Nat.le_of_ble_eq_true rfl) ?_
      refine gk_if_eq (tgt := 44) (pc := 33) K d_M_firstOn_33 (by decide) h (fun h => ?_) (fun h => ?_)
      · refine gk_iinc2 (lv2 := [(4, .int (a4 + 1)), (0, .ref 0), (1, .int a1), (2, .int a2), (3, .int a3)]) (pc := 44) K d_M_firstOn_44 rfl kc_1 (by decide) rfl ?_
        refine gk_goto (tgt := 15) (pc := 47) K d_M_firstOn_47 (by decide) ?_
        exact gk_sub [1, 2, 3, 4, 0] rfl (ih _ _ _ _ _  h)
      · refine gk_bipush (pc := 36) K d_M_firstOn_36 kb_10 ?_
        refine gk_iload_n (pc := 38) K d_M_firstOn_38 rfl ?_
        refine gk_imul (pc := 39) K d_M_firstOn_39 ?_
        refine gk_iload (pc := 40) K d_M_firstOn_40 rfl ?_
        refine gk_iadd (pc := 42) K d_M_firstOn_42 ?_
        exact gk_iret (pc := 43) K d_M_firstOn_43 rfl h
noncomputable def f_M_firstOn_2  : Nat → Int32 → Int32 → Int32 → gk_M → Option (Int32 × gk_M)
  | 0, _, _, _, _ => none
  | n + 1, a1, a2, a3, m0 =>
    if (m0.1 0 6) ≤ a3 then
      some ((-2), m0)
    else
      gk_let (a3 + 1) fun v1 =>
      f_M_firstOn_15 (f_M_firstOn_2 n) gk_fv a1 a2 a3 v1 m0

theorem s_M_firstOn_2 {z : gk_Z} (K : gk_F tm z me_M_firstOn 71) {r : Int32} {mem2 : gk_M} : ∀ n a1 a2 a3 m0, f_M_firstOn_2 n a1 a2 a3 m0 = some (r, mem2) → gk_G tm z me_M_firstOn (gk_R tm z (some (.int r)) mem2) m0 [(0, .ref 0), (1, .int a1), (2, .int a2), (3, .int a3)] [] 2 := by
  intro n
  induction n with
  | zero => intro a1 a2 a3 m0  h; exact nomatch (show (none : Option _) = some _ from h)
  | succ n ih =>
    intro a1 a2 a3 m0  h
    unfold f_M_firstOn_2 at h
    refine gk_iload_n (pc := 2) K d_M_firstOn_2 rfl ?_
    refine gk_aload_n (pc := 3) K d_M_firstOn_3 rfl ?_
    refine gk_get (pc := 4) K d_M_firstOn_4 fl_M_106 tm_0 rfl rfl ?_
    refine gk_ic_ge (tgt := 56) (pc := 7) K d_M_firstOn_7 (by decide) h (fun h => ?_) (fun h => ?_)
    · refine gk_bipush (pc := 56) K d_M_firstOn_56 kb_m2 ?_
      exact gk_iret (pc := 58) K d_M_firstOn_58 rfl h
    · refine gk_iload_n (pc := 10) K d_M_firstOn_10 rfl ?_
      refine gk_iconst (pc := 11) K d_M_firstOn_11 kc_1 ?_
      refine gk_iadd (pc := 12) K d_M_firstOn_12 ?_
      refine gk_topi h (fun v1 h => ?_)
      refine gk_istore (lv2 := [(4, .int v1), (0, .ref 0), (1, .int a1), (2, .int a2), (3, .int a3)]) (pc := 13) K d_M_firstOn_13 (by decide) rfl ?_
      exact gk_sub [1, 2, 3, 4, 0] rfl (s_M_firstOn_15 K (fun x0 x1 x2 m  h => ih x0 x1 x2 m  h) _ _ _ _ _ _  h)
noncomputable def f_M_firstOn  (a1 : Int32) (a2 : Int32) (m0 : gk_M) : Option (Int32 × gk_M) :=
  f_M_firstOn_2 gk_fv a1 a2 0 m0

theorem s_M_firstOn_0 {z : gk_Z} (K : gk_F tm z me_M_firstOn 71) {r : Int32} {mem2 : gk_M} : ∀ a1 a2 m0, f_M_firstOn a1 a2 m0 = some (r, mem2) → gk_G tm z me_M_firstOn (gk_R tm z (some (.int r)) mem2) m0 [(0, .ref 0), (1, .int a1), (2, .int a2)] [] 0 := by
  intro a1 a2 m0  h
  unfold f_M_firstOn at h
  refine gk_iconst (pc := 0) K d_M_firstOn_0 kc_0 ?_
  refine gk_istore_n (lv2 := [(3, .int 0), (0, .ref 0), (1, .int a1), (2, .int a2)]) (pc := 1) K d_M_firstOn_1 (by decide) rfl ?_
  exact gk_sub [1, 2, 3, 0] rfl (s_M_firstOn_2 K _ _ _ _ _  h)
theorem s_M_firstOn {l : Launch} {u : gk_U} (hD : gk_D tm u) {a1 : Int32} {a2 : Int32} {m0 mem2 : gk_M} {r : Int32} (h : f_M_firstOn a1 a2 m0 = some (r, mem2)) : gk_C tm l u me_M_firstOn 71 [.ref 0, .int a1, .int a2] m0 (some (.int r)) mem2 :=
  gk_enter hD mc_M_firstOn (Nat.le_of_ble_eq_true rfl) rfl (fun z _ _ K => s_M_firstOn_0 K _ _ _  h)
theorem d_M_which_0 : decode me_M_which.2.1 0 = .ok (.iload_n 1, 1) := by decide +kernel
theorem d_M_which_1 : decode me_M_which.2.1 1 = .ok (.i2l, 1) := by decide +kernel
theorem d_M_which_2 : decode me_M_which.2.1 2 = .ok (.lconst 0, 1) := by decide +kernel
theorem d_M_which_3 : decode me_M_which.2.1 3 = .ok (.ldc2_w 151, 3) := by decide +kernel
theorem d_M_which_6 : decode me_M_which.2.1 6 = .ok (.invokestatic 102, 3) := by decide +kernel
theorem d_M_which_9 : decode me_M_which.2.1 9 = .ok (.ifCond .ne 5, 3) := by decide +kernel
theorem d_M_which_12 : decode me_M_which.2.1 12 = .ok (.iconst (-1), 1) := by decide +kernel
theorem d_M_which_13 : decode me_M_which.2.1 13 = .ok (.ireturn, 1) := by decide +kernel
theorem d_M_which_14 : decode me_M_which.2.1 14 = .ok (.iconst 0, 1) := by decide +kernel
theorem d_M_which_15 : decode me_M_which.2.1 15 = .ok (.istore_n 2, 1) := by decide +kernel
theorem d_M_which_16 : decode me_M_which.2.1 16 = .ok (.iload_n 2, 1) := by decide +kernel
theorem d_M_which_17 : decode me_M_which.2.1 17 = .ok (.aload_n 0, 1) := by decide +kernel
theorem d_M_which_18 : decode me_M_which.2.1 18 = .ok (.getfield 109, 3) := by decide +kernel
theorem d_M_which_21 : decode me_M_which.2.1 21 = .ok (.if_icmp .ge 78, 3) := by decide +kernel
theorem d_M_which_24 : decode me_M_which.2.1 24 = .ok (.iconst 0, 1) := by decide +kernel
theorem d_M_which_25 : decode me_M_which.2.1 25 = .ok (.istore_n 3, 1) := by decide +kernel
theorem d_M_which_26 : decode me_M_which.2.1 26 = .ok (.iload_n 3, 1) := by decide +kernel
theorem d_M_which_27 : decode me_M_which.2.1 27 = .ok (.iconst 1, 1) := by decide +kernel
theorem d_M_which_28 : decode me_M_which.2.1 28 = .ok (.iadd, 1) := by decide +kernel
theorem d_M_which_29 : decode me_M_which.2.1 29 = .ok (.aload_n 0, 1) := by decide +kernel
theorem d_M_which_30 : decode me_M_which.2.1 30 = .ok (.getfield 31, 3) := by decide +kernel
theorem d_M_which_33 : decode me_M_which.2.1 33 = .ok (.iload_n 2, 1) := by decide +kernel
theorem d_M_which_34 : decode me_M_which.2.1 34 = .ok (.iaload, 1) := by decide +kernel
theorem d_M_which_35 : decode me_M_which.2.1 35 = .ok (.if_icmp .ge 58, 3) := by decide +kernel
theorem d_M_which_38 : decode me_M_which.2.1 38 = .ok (.aload_n 0, 1) := by decide +kernel
theorem d_M_which_39 : decode me_M_which.2.1 39 = .ok (.iload_n 2, 1) := by decide +kernel
theorem d_M_which_40 : decode me_M_which.2.1 40 = .ok (.iload_n 3, 1) := by decide +kernel
theorem d_M_which_41 : decode me_M_which.2.1 41 = .ok (.invokevirtual 300, 3) := by decide +kernel
theorem d_M_which_44 : decode me_M_which.2.1 44 = .ok (.istore 4, 2) := by decide +kernel
theorem d_M_which_46 : decode me_M_which.2.1 46 = .ok (.iload 4, 2) := by decide +kernel
theorem d_M_which_48 : decode me_M_which.2.1 48 = .ok (.ifCond .lt 39, 3) := by decide +kernel
theorem d_M_which_51 : decode me_M_which.2.1 51 = .ok (.iload_n 1, 1) := by decide +kernel
theorem d_M_which_52 : decode me_M_which.2.1 52 = .ok (.ifCond .ne 7, 3) := by decide +kernel
theorem d_M_which_55 : decode me_M_which.2.1 55 = .ok (.iload_n 2, 1) := by decide +kernel
theorem d_M_which_56 : decode me_M_which.2.1 56 = .ok (.goto 30, 3) := by decide +kernel
theorem d_M_which_59 : decode me_M_which.2.1 59 = .ok (.iload_n 1, 1) := by decide +kernel
theorem d_M_which_60 : decode me_M_which.2.1 60 = .ok (.iconst 1, 1) := by decide +kernel
theorem d_M_which_61 : decode me_M_which.2.1 61 = .ok (.if_icmp .ne 7, 3) := by decide +kernel
theorem d_M_which_64 : decode me_M_which.2.1 64 = .ok (.iload_n 3, 1) := by decide +kernel
theorem d_M_which_65 : decode me_M_which.2.1 65 = .ok (.goto 21, 3) := by decide +kernel
theorem d_M_which_68 : decode me_M_which.2.1 68 = .ok (.iload_n 1, 1) := by decide +kernel
theorem d_M_which_69 : decode me_M_which.2.1 69 = .ok (.iconst 2, 1) := by decide +kernel
theorem d_M_which_70 : decode me_M_which.2.1 70 = .ok (.if_icmp .ne 11, 3) := by decide +kernel
theorem d_M_which_73 : decode me_M_which.2.1 73 = .ok (.iload 4, 2) := by decide +kernel
theorem d_M_which_75 : decode me_M_which.2.1 75 = .ok (.bipush 10, 2) := by decide +kernel
theorem d_M_which_77 : decode me_M_which.2.1 77 = .ok (.idiv, 1) := by decide +kernel
theorem d_M_which_78 : decode me_M_which.2.1 78 = .ok (.goto 8, 3) := by decide +kernel
theorem d_M_which_81 : decode me_M_which.2.1 81 = .ok (.iload 4, 2) := by decide +kernel
theorem d_M_which_83 : decode me_M_which.2.1 83 = .ok (.bipush 10, 2) := by decide +kernel
theorem d_M_which_85 : decode me_M_which.2.1 85 = .ok (.irem, 1) := by decide +kernel
theorem d_M_which_86 : decode me_M_which.2.1 86 = .ok (.ireturn, 1) := by decide +kernel
theorem d_M_which_87 : decode me_M_which.2.1 87 = .ok (.iinc 3 1, 3) := by decide +kernel
theorem d_M_which_90 : decode me_M_which.2.1 90 = .ok (.goto (-64), 3) := by decide +kernel
theorem d_M_which_93 : decode me_M_which.2.1 93 = .ok (.iinc 2 1, 3) := by decide +kernel
theorem d_M_which_96 : decode me_M_which.2.1 96 = .ok (.goto (-80), 3) := by decide +kernel
theorem d_M_which_99 : decode me_M_which.2.1 99 = .ok (.bipush (-2), 2) := by decide +kernel
theorem d_M_which_101 : decode me_M_which.2.1 101 = .ok (.ireturn, 1) := by decide +kernel
noncomputable def f_M_which_26 (k16 : Int32 → Int32 → gk_M → Option (Int32 × gk_M)) : Nat → Int32 → Int32 → Int32 → gk_M → Option (Int32 × gk_M)
  | 0, _, _, _, _ => none
  | n + 1, a1, a2, a3, m0 =>
    gk_ai m0 8 4 a2 fun v1 =>
    if v1 ≤ (a3 + 1) then
      k16 a1 (a2 + 1) m0
    else
      gk_bi (f_M_firstOn a2 a3 m0) fun v3 m2 =>
      if v3 < 0 then
        f_M_which_26 k16 n a1 a2 (a3 + 1) m2
      else
        if ¬ a1 = 0 then
          if ¬ a1 = 1 then
            if ¬ a1 = 2 then
              some ((gk_rem v3 10), m2)
            else
              some ((v3 / 10), m2)
          else
            some (a3, m2)
        else
          some (a2, m2)

theorem s_M_which_26 {z : gk_Z} (K : gk_F tm z me_M_which 72) {r : Int32} {mem2 : gk_M} {k16 : Int32 → Int32 → gk_M → Option (Int32 × gk_M)} (hk16 : ∀ a1 a2 m0, k16 a1 a2 m0 = some (r, mem2) → gk_G tm z me_M_which (gk_R tm z (some (.int r)) mem2) m0 [(0, .ref 0), (1, .int a1), (2, .int a2)] [] 16) : ∀ n a1 a2 a3 m0, f_M_which_26 k16 n a1 a2 a3 m0 = some (r, mem2) → gk_G tm z me_M_which (gk_R tm z (some (.int r)) mem2) m0 [(0, .ref 0), (1, .int a1), (2, .int a2), (3, .int a3)] [] 26 := by
  intro n
  induction n with
  | zero => intro a1 a2 a3 m0  h; exact nomatch (show (none : Option _) = some _ from h)
  | succ n ih =>
    intro a1 a2 a3 m0  h
    unfold f_M_which_26 at h
    refine gk_iload_n (pc := 26) K d_M_which_26 rfl ?_
    refine gk_iconst (pc := 27) K d_M_which_27 kc_1 ?_
    refine gk_iadd (pc := 28) K d_M_which_28 ?_
    refine gk_aload_n (pc := 29) K d_M_which_29 rfl ?_
    refine gk_get (pc := 30) K d_M_which_30 fl_M_31 tm_0 rfl rfl ?_
    refine gk_iload_n (pc := 33) K d_M_which_33 rfl ?_
    refine gk_iald (pc := 34) K d_M_which_34 tm_8 h (fun v1 h => ?_)
    refine gk_ic_ge (tgt := 93) (pc := 35) K d_M_which_35 (by decide) h (fun h => ?_) (fun h => ?_)
    · refine gk_iinc2 (lv2 := [(2, .int (a2 + 1)), (0, .ref 0), (1, .int a1), (3, .int a3)]) (pc := 93) K d_M_which_93 rfl kc_1 (by decide) rfl ?_
      refine gk_goto (tgt := 16) (pc := 96) K d_M_which_96 (by decide) ?_
      exact gk_sub [1, 2, 0] rfl (hk16 _ _ _  h)
    · refine gk_aload_n (pc := 38) K d_M_which_38 rfl ?_
      refine gk_iload_n (pc := 39) K d_M_which_39 rfl ?_
      refine gk_iload_n (pc := 40) K d_M_which_40 rfl ?_
      obtain ⟨v3, m2, em2, h⟩ := gk_bi_some h
      refine gk_cVi (As := [.int a2, .int a3]) (pc := 41) K d_M_which_41 mv_M_300 mc_M_firstOn rfl tm_0 cl_ok10.1 (s_M_firstOn (gk_FD K)  em2) (by decide) rfl (Nat.le_of_ble_eq_true rfl) ?_
      refine gk_istore (lv2 := [(4, .int v3), (0, .ref 0), (1, .int a1), (2, .int a2), (3, .int a3)]) (pc := 44) K d_M_which_44 (by decide) rfl ?_
      refine gk_iload (pc := 46) K d_M_which_46 rfl ?_
      refine gk_if_lt (tgt := 87) (pc := 48) K d_M_which_48 (by decide) h (fun h => ?_) (fun h => ?_)
      · refine gk_iinc2 (lv2 := [(3, .int (a3 + 1)), (4, .int v3), (0, .ref 0), (1, .int a1), (2, .int a2)]) (pc := 87) K d_M_which_87 rfl kc_1 (by decide) rfl ?_
        refine gk_goto (tgt := 26) (pc := 90) K d_M_which_90 (by decide) ?_
        exact gk_sub [2, 3, 4, 0] rfl (ih _ _ _ _  h)
      · refine gk_iload_n (pc := 51) K d_M_which_51 rfl ?_
        refine gk_if_ne (tgt := 59) (pc := 52) K d_M_which_52 (by decide) h (fun h => ?_) (fun h => ?_)
        · refine gk_iload_n (pc := 59) K d_M_which_59 rfl ?_
          refine gk_iconst (pc := 60) K d_M_which_60 kc_1 ?_
          refine gk_ic_ne (tgt := 68) (pc := 61) K d_M_which_61 (by decide) h (fun h => ?_) (fun h => ?_)
          · refine gk_iload_n (pc := 68) K d_M_which_68 rfl ?_
            refine gk_iconst (pc := 69) K d_M_which_69 kc_2 ?_
            refine gk_ic_ne (tgt := 81) (pc := 70) K d_M_which_70 (by decide) h (fun h => ?_) (fun h => ?_)
            · refine gk_iload (pc := 81) K d_M_which_81 rfl ?_
              refine gk_bipush (pc := 83) K d_M_which_83 kb_10 ?_
              refine gk_iremc2 (pc := 85) K d_M_which_85 (by decide) ?_
              exact gk_iret (pc := 86) K d_M_which_86 rfl h
            · refine gk_iload (pc := 73) K d_M_which_73 rfl ?_
              refine gk_bipush (pc := 75) K d_M_which_75 kb_10 ?_
              refine gk_idivc2 (pc := 77) K d_M_which_77 (by decide) ?_
              refine gk_goto (tgt := 86) (pc := 78) K d_M_which_78 (by decide) ?_
              exact gk_iret (pc := 86) K d_M_which_86 rfl h
          · refine gk_iload_n (pc := 64) K d_M_which_64 rfl ?_
            refine gk_goto (tgt := 86) (pc := 65) K d_M_which_65 (by decide) ?_
            exact gk_iret (pc := 86) K d_M_which_86 rfl h
        · refine gk_iload_n (pc := 55) K d_M_which_55 rfl ?_
          refine gk_goto (tgt := 86) (pc := 56) K d_M_which_56 (by decide) ?_
          exact gk_iret (pc := 86) K d_M_which_86 rfl h
noncomputable def f_M_which_16  : Nat → Int32 → Int32 → gk_M → Option (Int32 × gk_M)
  | 0, _, _, _ => none
  | n + 1, a1, a2, m0 =>
    if (m0.1 0 10) ≤ a2 then
      some ((-2), m0)
    else
      f_M_which_26 (f_M_which_16 n) gk_fv a1 a2 0 m0

theorem s_M_which_16 {z : gk_Z} (K : gk_F tm z me_M_which 72) {r : Int32} {mem2 : gk_M} : ∀ n a1 a2 m0, f_M_which_16 n a1 a2 m0 = some (r, mem2) → gk_G tm z me_M_which (gk_R tm z (some (.int r)) mem2) m0 [(0, .ref 0), (1, .int a1), (2, .int a2)] [] 16 := by
  intro n
  induction n with
  | zero => intro a1 a2 m0  h; exact nomatch (show (none : Option _) = some _ from h)
  | succ n ih =>
    intro a1 a2 m0  h
    unfold f_M_which_16 at h
    refine gk_iload_n (pc := 16) K d_M_which_16 rfl ?_
    refine gk_aload_n (pc := 17) K d_M_which_17 rfl ?_
    refine gk_get (pc := 18) K d_M_which_18 fl_M_109 tm_0 rfl rfl ?_
    refine gk_ic_ge (tgt := 99) (pc := 21) K d_M_which_21 (by decide) h (fun h => ?_) (fun h => ?_)
    · refine gk_bipush (pc := 99) K d_M_which_99 kb_m2 ?_
      exact gk_iret (pc := 101) K d_M_which_101 rfl h
    · refine gk_iconst (pc := 24) K d_M_which_24 kc_0 ?_
      refine gk_istore_n (lv2 := [(3, .int 0), (0, .ref 0), (1, .int a1), (2, .int a2)]) (pc := 25) K d_M_which_25 (by decide) rfl ?_
      exact gk_sub [1, 2, 3, 0] rfl (s_M_which_26 K (fun x0 x1 m  h => ih x0 x1 m  h) _ _ _ _ _  h)
noncomputable def f_M_which  (a1 : Int32) (m0 : gk_M) : Option (Int32 × gk_M) :=
  gk_bi (f_M_within a1.toInt64 0 3 m0) fun v2 m1 =>
  if ¬ v2 = 0 then
    f_M_which_16 gk_fv a1 0 m1
  else
    some ((-1), m1)

theorem s_M_which_0 {z : gk_Z} (K : gk_F tm z me_M_which 72) {r : Int32} {mem2 : gk_M} : ∀ a1 m0, f_M_which a1 m0 = some (r, mem2) → gk_G tm z me_M_which (gk_R tm z (some (.int r)) mem2) m0 [(0, .ref 0), (1, .int a1)] [] 0 := by
  intro a1 m0  h
  unfold f_M_which at h
  refine gk_iload_n (pc := 0) K d_M_which_0 rfl ?_
  refine gk_i2l (pc := 1) K d_M_which_1 ?_
  refine gk_lconst (pc := 2) K d_M_which_2 kl_0 ?_
  refine gk_ldc2 (pc := 3) K d_M_which_3 lc_M_151 ?_
  obtain ⟨v2, m1, em1, h⟩ := gk_bi_some h
  refine gk_cSi (As := [.long a1.toInt64, .long 0, .long 3]) (pc := 6) K d_M_which_6 ms_M_102 mc_M_within rfl (s_M_within (gk_FD K)  em1) (by decide) rfl (Nat.le_of_ble_eq_true rfl) ?_
  refine gk_if_ne (tgt := 14) (pc := 9) K d_M_which_9 (by decide) h (fun h => ?_) (fun h => ?_)
  · refine gk_iconst (pc := 14) K d_M_which_14 kc_0 ?_
    refine gk_istore_n (lv2 := [(2, .int 0), (0, .ref 0), (1, .int a1)]) (pc := 15) K d_M_which_15 (by decide) rfl ?_
    exact gk_sub [1, 2, 0] rfl (s_M_which_16 K _ _ _ _  h)
  · refine gk_iconst (pc := 12) K d_M_which_12 kc_m1 ?_
    exact gk_iret (pc := 13) K d_M_which_13 rfl h
theorem s_M_which {l : Launch} {u : gk_U} (hD : gk_D tm u) {a1 : Int32} {m0 mem2 : gk_M} {r : Int32} (h : f_M_which a1 m0 = some (r, mem2)) : gk_C tm l u me_M_which 72 [.ref 0, .int a1] m0 (some (.int r)) mem2 :=
  gk_enter hD mc_M_which (Nat.le_of_ble_eq_true rfl) rfl (fun z _ _ K => s_M_which_0 K _ _  h)
theorem d_M_guiltsWith_0 : decode me_M_guiltsWith.2.1 0 = .ok (.iconst 0, 1) := by decide +kernel
theorem d_M_guiltsWith_1 : decode me_M_guiltsWith.2.1 1 = .ok (.istore_n 3, 1) := by decide +kernel
theorem d_M_guiltsWith_2 : decode me_M_guiltsWith.2.1 2 = .ok (.iconst 0, 1) := by decide +kernel
theorem d_M_guiltsWith_3 : decode me_M_guiltsWith.2.1 3 = .ok (.istore 4, 2) := by decide +kernel
theorem d_M_guiltsWith_5 : decode me_M_guiltsWith.2.1 5 = .ok (.iload 4, 2) := by decide +kernel
theorem d_M_guiltsWith_7 : decode me_M_guiltsWith.2.1 7 = .ok (.aload_n 0, 1) := by decide +kernel
theorem d_M_guiltsWith_8 : decode me_M_guiltsWith.2.1 8 = .ok (.getfield 109, 3) := by decide +kernel
theorem d_M_guiltsWith_11 : decode me_M_guiltsWith.2.1 11 = .ok (.if_icmp .ge 75, 3) := by decide +kernel
theorem d_M_guiltsWith_14 : decode me_M_guiltsWith.2.1 14 = .ok (.iconst 0, 1) := by decide +kernel
theorem d_M_guiltsWith_15 : decode me_M_guiltsWith.2.1 15 = .ok (.istore 5, 2) := by decide +kernel
theorem d_M_guiltsWith_17 : decode me_M_guiltsWith.2.1 17 = .ok (.iload 5, 2) := by decide +kernel
theorem d_M_guiltsWith_19 : decode me_M_guiltsWith.2.1 19 = .ok (.iconst 1, 1) := by decide +kernel
theorem d_M_guiltsWith_20 : decode me_M_guiltsWith.2.1 20 = .ok (.iadd, 1) := by decide +kernel
theorem d_M_guiltsWith_21 : decode me_M_guiltsWith.2.1 21 = .ok (.aload_n 0, 1) := by decide +kernel
theorem d_M_guiltsWith_22 : decode me_M_guiltsWith.2.1 22 = .ok (.getfield 31, 3) := by decide +kernel
theorem d_M_guiltsWith_25 : decode me_M_guiltsWith.2.1 25 = .ok (.iload 4, 2) := by decide +kernel
theorem d_M_guiltsWith_27 : decode me_M_guiltsWith.2.1 27 = .ok (.iaload, 1) := by decide +kernel
theorem d_M_guiltsWith_28 : decode me_M_guiltsWith.2.1 28 = .ok (.if_icmp .ge 52, 3) := by decide +kernel
theorem d_M_guiltsWith_31 : decode me_M_guiltsWith.2.1 31 = .ok (.iconst 0, 1) := by decide +kernel
theorem d_M_guiltsWith_32 : decode me_M_guiltsWith.2.1 32 = .ok (.istore 6, 2) := by decide +kernel
theorem d_M_guiltsWith_34 : decode me_M_guiltsWith.2.1 34 = .ok (.iload 6, 2) := by decide +kernel
theorem d_M_guiltsWith_36 : decode me_M_guiltsWith.2.1 36 = .ok (.iload_n 2, 1) := by decide +kernel
theorem d_M_guiltsWith_37 : decode me_M_guiltsWith.2.1 37 = .ok (.if_icmp .ge 37, 3) := by decide +kernel
theorem d_M_guiltsWith_40 : decode me_M_guiltsWith.2.1 40 = .ok (.iload_n 3, 1) := by decide +kernel
theorem d_M_guiltsWith_41 : decode me_M_guiltsWith.2.1 41 = .ok (.iload 6, 2) := by decide +kernel
theorem d_M_guiltsWith_43 : decode me_M_guiltsWith.2.1 43 = .ok (.iload_n 1, 1) := by decide +kernel
theorem d_M_guiltsWith_44 : decode me_M_guiltsWith.2.1 44 = .ok (.if_icmp .eq 21, 3) := by decide +kernel
theorem d_M_guiltsWith_47 : decode me_M_guiltsWith.2.1 47 = .ok (.aload_n 0, 1) := by decide +kernel
theorem d_M_guiltsWith_48 : decode me_M_guiltsWith.2.1 48 = .ok (.iload 4, 2) := by decide +kernel
theorem d_M_guiltsWith_50 : decode me_M_guiltsWith.2.1 50 = .ok (.iload 5, 2) := by decide +kernel
theorem d_M_guiltsWith_52 : decode me_M_guiltsWith.2.1 52 = .ok (.iload_n 1, 1) := by decide +kernel
theorem d_M_guiltsWith_53 : decode me_M_guiltsWith.2.1 53 = .ok (.iload 6, 2) := by decide +kernel
theorem d_M_guiltsWith_55 : decode me_M_guiltsWith.2.1 55 = .ok (.invokevirtual 284, 3) := by decide +kernel
theorem d_M_guiltsWith_58 : decode me_M_guiltsWith.2.1 58 = .ok (.ifCond .eq 7, 3) := by decide +kernel
theorem d_M_guiltsWith_61 : decode me_M_guiltsWith.2.1 61 = .ok (.iconst 1, 1) := by decide +kernel
theorem d_M_guiltsWith_62 : decode me_M_guiltsWith.2.1 62 = .ok (.goto 4, 3) := by decide +kernel
theorem d_M_guiltsWith_65 : decode me_M_guiltsWith.2.1 65 = .ok (.iconst 0, 1) := by decide +kernel
theorem d_M_guiltsWith_66 : decode me_M_guiltsWith.2.1 66 = .ok (.iadd, 1) := by decide +kernel
theorem d_M_guiltsWith_67 : decode me_M_guiltsWith.2.1 67 = .ok (.istore_n 3, 1) := by decide +kernel
theorem d_M_guiltsWith_68 : decode me_M_guiltsWith.2.1 68 = .ok (.iinc 6 1, 3) := by decide +kernel
theorem d_M_guiltsWith_71 : decode me_M_guiltsWith.2.1 71 = .ok (.goto (-37), 3) := by decide +kernel
theorem d_M_guiltsWith_74 : decode me_M_guiltsWith.2.1 74 = .ok (.iinc 5 1, 3) := by decide +kernel
theorem d_M_guiltsWith_77 : decode me_M_guiltsWith.2.1 77 = .ok (.goto (-60), 3) := by decide +kernel
theorem d_M_guiltsWith_80 : decode me_M_guiltsWith.2.1 80 = .ok (.iinc 4 1, 3) := by decide +kernel
theorem d_M_guiltsWith_83 : decode me_M_guiltsWith.2.1 83 = .ok (.goto (-78), 3) := by decide +kernel
theorem d_M_guiltsWith_86 : decode me_M_guiltsWith.2.1 86 = .ok (.iload_n 3, 1) := by decide +kernel
theorem d_M_guiltsWith_87 : decode me_M_guiltsWith.2.1 87 = .ok (.ireturn, 1) := by decide +kernel
noncomputable def f_M_guiltsWith_66 (k5 : Int32 → Int32 → Int32 → Int32 → gk_M → Option (Int32 × gk_M)) (k17 : Int32 → Int32 → Int32 → Int32 → Int32 → gk_M → Option (Int32 × gk_M)) (k34 : Int32 → Int32 → Int32 → Int32 → Int32 → Int32 → gk_M → Option (Int32 × gk_M)) (a1 : Int32) (a2 : Int32) (a4 : Int32) (a5 : Int32) (a6 : Int32) (s0 : Int32) (s1 : Int32) (m0 : gk_M) : Option (Int32 × gk_M) :=
  gk_let (s0 + s1) fun v1 =>
  k34 a1 a2 v1 a4 a5 (a6 + 1) m0

theorem s_M_guiltsWith_66 {z : gk_Z} (K : gk_F tm z me_M_guiltsWith 71) {r : Int32} {mem2 : gk_M} {k5 : Int32 → Int32 → Int32 → Int32 → gk_M → Option (Int32 × gk_M)} (hk5 : ∀ a1 a2 a3 a4 m0, k5 a1 a2 a3 a4 m0 = some (r, mem2) → gk_G tm z me_M_guiltsWith (gk_R tm z (some (.int r)) mem2) m0 [(0, .ref 0), (1, .int a1), (2, .int a2), (3, .int a3), (4, .int a4)] [] 5) {k17 : Int32 → Int32 → Int32 → Int32 → Int32 → gk_M → Option (Int32 × gk_M)} (hk17 : ∀ a1 a2 a3 a4 a5 m0, k17 a1 a2 a3 a4 a5 m0 = some (r, mem2) → gk_G tm z me_M_guiltsWith (gk_R tm z (some (.int r)) mem2) m0 [(0, .ref 0), (1, .int a1), (2, .int a2), (3, .int a3), (4, .int a4), (5, .int a5)] [] 17) {k34 : Int32 → Int32 → Int32 → Int32 → Int32 → Int32 → gk_M → Option (Int32 × gk_M)} (hk34 : ∀ a1 a2 a3 a4 a5 a6 m0, k34 a1 a2 a3 a4 a5 a6 m0 = some (r, mem2) → gk_G tm z me_M_guiltsWith (gk_R tm z (some (.int r)) mem2) m0 [(0, .ref 0), (1, .int a1), (2, .int a2), (3, .int a3), (4, .int a4), (5, .int a5), (6, .int a6)] [] 34) : ∀ a1 a2 a4 a5 a6 s0 s1 m0, f_M_guiltsWith_66 k5 k17 k34 a1 a2 a4 a5 a6 s0 s1 m0 = some (r, mem2) → gk_G tm z me_M_guiltsWith (gk_R tm z (some (.int r)) mem2) m0 [(0, .ref 0), (1, .int a1), (2, .int a2), (4, .int a4), (5, .int a5), (6, .int a6)] [.int s1, .int s0] 66 := by
  intro a1 a2 a4 a5 a6 s0 s1 m0  h
  unfold f_M_guiltsWith_66 at h
  refine gk_iadd (pc := 66) K d_M_guiltsWith_66 ?_
  refine gk_topi h (fun v1 h => ?_)
  refine gk_istore_n (lv2 := [(3, .int v1), (0, .ref 0), (1, .int a1), (2, .int a2), (4, .int a4), (5, .int a5), (6, .int a6)]) (pc := 67) K d_M_guiltsWith_67 (by decide) rfl ?_
  refine gk_iinc2 (lv2 := [(6, .int (a6 + 1)), (3, .int v1), (0, .ref 0), (1, .int a1), (2, .int a2), (4, .int a4), (5, .int a5)]) (pc := 68) K d_M_guiltsWith_68 rfl kc_1 (by decide) rfl ?_
  refine gk_goto (tgt := 34) (pc := 71) K d_M_guiltsWith_71 (by decide) ?_
  exact gk_sub [2, 3, 4, 1, 5, 6, 0] rfl (hk34 _ _ _ _ _ _ _  h)
noncomputable def f_M_guiltsWith_65 (k5 : Int32 → Int32 → Int32 → Int32 → gk_M → Option (Int32 × gk_M)) (k17 : Int32 → Int32 → Int32 → Int32 → Int32 → gk_M → Option (Int32 × gk_M)) (k34 : Int32 → Int32 → Int32 → Int32 → Int32 → Int32 → gk_M → Option (Int32 × gk_M)) (a1 : Int32) (a2 : Int32) (a4 : Int32) (a5 : Int32) (a6 : Int32) (s0 : Int32) (m0 : gk_M) : Option (Int32 × gk_M) :=
  f_M_guiltsWith_66 k5 k17 k34 a1 a2 a4 a5 a6 s0 0 m0

theorem s_M_guiltsWith_65 {z : gk_Z} (K : gk_F tm z me_M_guiltsWith 71) {r : Int32} {mem2 : gk_M} {k5 : Int32 → Int32 → Int32 → Int32 → gk_M → Option (Int32 × gk_M)} (hk5 : ∀ a1 a2 a3 a4 m0, k5 a1 a2 a3 a4 m0 = some (r, mem2) → gk_G tm z me_M_guiltsWith (gk_R tm z (some (.int r)) mem2) m0 [(0, .ref 0), (1, .int a1), (2, .int a2), (3, .int a3), (4, .int a4)] [] 5) {k17 : Int32 → Int32 → Int32 → Int32 → Int32 → gk_M → Option (Int32 × gk_M)} (hk17 : ∀ a1 a2 a3 a4 a5 m0, k17 a1 a2 a3 a4 a5 m0 = some (r, mem2) → gk_G tm z me_M_guiltsWith (gk_R tm z (some (.int r)) mem2) m0 [(0, .ref 0), (1, .int a1), (2, .int a2), (3, .int a3), (4, .int a4), (5, .int a5)] [] 17) {k34 : Int32 → Int32 → Int32 → Int32 → Int32 → Int32 → gk_M → Option (Int32 × gk_M)} (hk34 : ∀ a1 a2 a3 a4 a5 a6 m0, k34 a1 a2 a3 a4 a5 a6 m0 = some (r, mem2) → gk_G tm z me_M_guiltsWith (gk_R tm z (some (.int r)) mem2) m0 [(0, .ref 0), (1, .int a1), (2, .int a2), (3, .int a3), (4, .int a4), (5, .int a5), (6, .int a6)] [] 34) : ∀ a1 a2 a4 a5 a6 s0 m0, f_M_guiltsWith_65 k5 k17 k34 a1 a2 a4 a5 a6 s0 m0 = some (r, mem2) → gk_G tm z me_M_guiltsWith (gk_R tm z (some (.int r)) mem2) m0 [(0, .ref 0), (1, .int a1), (2, .int a2), (4, .int a4), (5, .int a5), (6, .int a6)] [.int s0] 65 := by
  intro a1 a2 a4 a5 a6 s0 m0  h
  unfold f_M_guiltsWith_65 at h
  refine gk_iconst (pc := 65) K d_M_guiltsWith_65 kc_0 ?_
  exact gk_sub [0, 1, 2, 3, 4, 5] rfl (s_M_guiltsWith_66 K hk5 hk17 hk34 _ _ _ _ _ _ _ _  h)
noncomputable def f_M_guiltsWith_34 (k5 : Int32 → Int32 → Int32 → Int32 → gk_M → Option (Int32 × gk_M)) (k17 : Int32 → Int32 → Int32 → Int32 → Int32 → gk_M → Option (Int32 × gk_M)) : Nat → Int32 → Int32 → Int32 → Int32 → Int32 → Int32 → gk_M → Option (Int32 × gk_M)
  | 0, _, _, _, _, _, _, _ => none
  | n + 1, a1, a2, a3, a4, a5, a6, m0 =>
    if a2 ≤ a6 then
      k17 a1 a2 a3 a4 (a5 + 1) m0
    else
      if a6 = a1 then
        f_M_guiltsWith_65 k5 k17 (f_M_guiltsWith_34 k5 k17 n) a1 a2 a4 a5 a6 a3 m0
      else
        gk_bi (f_M_isGuiltyOn a4 a5 a1 a6 m0) fun v2 m1 =>
        if v2 = 0 then
          f_M_guiltsWith_65 k5 k17 (f_M_guiltsWith_34 k5 k17 n) a1 a2 a4 a5 a6 a3 m1
        else
          f_M_guiltsWith_66 k5 k17 (f_M_guiltsWith_34 k5 k17 n) a1 a2 a4 a5 a6 a3 1 m1

theorem s_M_guiltsWith_34 {z : gk_Z} (K : gk_F tm z me_M_guiltsWith 71) {r : Int32} {mem2 : gk_M} {k5 : Int32 → Int32 → Int32 → Int32 → gk_M → Option (Int32 × gk_M)} (hk5 : ∀ a1 a2 a3 a4 m0, k5 a1 a2 a3 a4 m0 = some (r, mem2) → gk_G tm z me_M_guiltsWith (gk_R tm z (some (.int r)) mem2) m0 [(0, .ref 0), (1, .int a1), (2, .int a2), (3, .int a3), (4, .int a4)] [] 5) {k17 : Int32 → Int32 → Int32 → Int32 → Int32 → gk_M → Option (Int32 × gk_M)} (hk17 : ∀ a1 a2 a3 a4 a5 m0, k17 a1 a2 a3 a4 a5 m0 = some (r, mem2) → gk_G tm z me_M_guiltsWith (gk_R tm z (some (.int r)) mem2) m0 [(0, .ref 0), (1, .int a1), (2, .int a2), (3, .int a3), (4, .int a4), (5, .int a5)] [] 17) : ∀ n a1 a2 a3 a4 a5 a6 m0, f_M_guiltsWith_34 k5 k17 n a1 a2 a3 a4 a5 a6 m0 = some (r, mem2) → gk_G tm z me_M_guiltsWith (gk_R tm z (some (.int r)) mem2) m0 [(0, .ref 0), (1, .int a1), (2, .int a2), (3, .int a3), (4, .int a4), (5, .int a5), (6, .int a6)] [] 34 := by
  intro n
  induction n with
  | zero => intro a1 a2 a3 a4 a5 a6 m0  h; exact nomatch (show (none : Option _) = some _ from h)
  | succ n ih =>
    intro a1 a2 a3 a4 a5 a6 m0  h
    unfold f_M_guiltsWith_34 at h
    refine gk_iload (pc := 34) K d_M_guiltsWith_34 rfl ?_
    refine gk_iload_n (pc := 36) K d_M_guiltsWith_36 rfl ?_
    refine gk_ic_ge (tgt := 74) (pc := 37) K d_M_guiltsWith_37 (by decide) h (fun h => ?_) (fun h => ?_)
    · refine gk_iinc2 (lv2 := [(5, .int (a5 + 1)), (0, .ref 0), (1, .int a1), (2, .int a2), (3, .int a3), (4, .int a4), (6, .int a6)]) (pc := 74) K d_M_guiltsWith_74 rfl kc_1 (by decide) rfl ?_
      refine gk_goto (tgt := 17) (pc := 77) K d_M_guiltsWith_77 (by decide) ?_
      exact gk_sub [1, 2, 3, 4, 5, 0] rfl (hk17 _ _ _ _ _ _  h)
    · refine gk_iload_n (pc := 40) K d_M_guiltsWith_40 rfl ?_
      refine gk_iload (pc := 41) K d_M_guiltsWith_41 rfl ?_
      refine gk_iload_n (pc := 43) K d_M_guiltsWith_43 rfl ?_
      refine gk_ic_eq (tgt := 65) (pc := 44) K d_M_guiltsWith_44 (by decide) h (fun h => ?_) (fun h => ?_)
      · exact gk_sub [0, 1, 2, 4, 5, 6] rfl (s_M_guiltsWith_65 K hk5 hk17 (fun x0 x1 x2 x3 x4 x5 m  h => ih x0 x1 x2 x3 x4 x5 m  h) _ _ _ _ _ _ _  h)
      · refine gk_aload_n (pc := 47) K d_M_guiltsWith_47 rfl ?_
        refine gk_iload (pc := 48) K d_M_guiltsWith_48 rfl ?_
        refine gk_iload (pc := 50) K d_M_guiltsWith_50 rfl ?_
        refine gk_iload_n (pc := 52) K d_M_guiltsWith_52 rfl ?_
        refine gk_iload (pc := 53) K d_M_guiltsWith_53 rfl ?_
        obtain ⟨v2, m1, em1, h⟩ := gk_bi_some h
        refine gk_cVi (As := [.int a4, .int a5, .int a1, .int a6]) (pc := 55) K d_M_guiltsWith_55 mv_M_284 mc_M_isGuiltyOn rfl tm_0 cl_ok10.1 (s_M_isGuiltyOn (gk_FD K)  em1) (by decide) rfl (Nat.le_of_ble_eq_true rfl) ?_
        refine gk_if_eq (tgt := 65) (pc := 58) K d_M_guiltsWith_58 (by decide) h (fun h => ?_) (fun h => ?_)
        · exact gk_sub [0, 1, 2, 4, 5, 6] rfl (s_M_guiltsWith_65 K hk5 hk17 (fun x0 x1 x2 x3 x4 x5 m  h => ih x0 x1 x2 x3 x4 x5 m  h) _ _ _ _ _ _ _  h)
        · refine gk_iconst (pc := 61) K d_M_guiltsWith_61 kc_1 ?_
          refine gk_goto (tgt := 66) (pc := 62) K d_M_guiltsWith_62 (by decide) ?_
          exact gk_sub [0, 1, 2, 4, 5, 6] rfl (s_M_guiltsWith_66 K hk5 hk17 (fun x0 x1 x2 x3 x4 x5 m  h => ih x0 x1 x2 x3 x4 x5 m  h) _ _ _ _ _ _ _ _  h)
noncomputable def f_M_guiltsWith_17 (k5 : Int32 → Int32 → Int32 → Int32 → gk_M → Option (Int32 × gk_M)) : Nat → Int32 → Int32 → Int32 → Int32 → Int32 → gk_M → Option (Int32 × gk_M)
  | 0, _, _, _, _, _, _ => none
  | n + 1, a1, a2, a3, a4, a5, m0 =>
    gk_ai m0 8 4 a4 fun v1 =>
    if v1 ≤ (a5 + 1) then
      k5 a1 a2 a3 (a4 + 1) m0
    else
      f_M_guiltsWith_34 k5 (f_M_guiltsWith_17 k5 n) gk_fv a1 a2 a3 a4 a5 0 m0

theorem s_M_guiltsWith_17 {z : gk_Z} (K : gk_F tm z me_M_guiltsWith 71) {r : Int32} {mem2 : gk_M} {k5 : Int32 → Int32 → Int32 → Int32 → gk_M → Option (Int32 × gk_M)} (hk5 : ∀ a1 a2 a3 a4 m0, k5 a1 a2 a3 a4 m0 = some (r, mem2) → gk_G tm z me_M_guiltsWith (gk_R tm z (some (.int r)) mem2) m0 [(0, .ref 0), (1, .int a1), (2, .int a2), (3, .int a3), (4, .int a4)] [] 5) : ∀ n a1 a2 a3 a4 a5 m0, f_M_guiltsWith_17 k5 n a1 a2 a3 a4 a5 m0 = some (r, mem2) → gk_G tm z me_M_guiltsWith (gk_R tm z (some (.int r)) mem2) m0 [(0, .ref 0), (1, .int a1), (2, .int a2), (3, .int a3), (4, .int a4), (5, .int a5)] [] 17 := by
  intro n
  induction n with
  | zero => intro a1 a2 a3 a4 a5 m0  h; exact nomatch (show (none : Option _) = some _ from h)
  | succ n ih =>
    intro a1 a2 a3 a4 a5 m0  h
    unfold f_M_guiltsWith_17 at h
    refine gk_iload (pc := 17) K d_M_guiltsWith_17 rfl ?_
    refine gk_iconst (pc := 19) K d_M_guiltsWith_19 kc_1 ?_
    refine gk_iadd (pc := 20) K d_M_guiltsWith_20 ?_
    refine gk_aload_n (pc := 21) K d_M_guiltsWith_21 rfl ?_
    refine gk_get (pc := 22) K d_M_guiltsWith_22 fl_M_31 tm_0 rfl rfl ?_
    refine gk_iload (pc := 25) K d_M_guiltsWith_25 rfl ?_
    refine gk_iald (pc := 27) K d_M_guiltsWith_27 tm_8 h (fun v1 h => ?_)
    refine gk_ic_ge (tgt := 80) (pc := 28) K d_M_guiltsWith_28 (by decide) h (fun h => ?_) (fun h => ?_)
    · refine gk_iinc2 (lv2 := [(4, .int (a4 + 1)), (0, .ref 0), (1, .int a1), (2, .int a2), (3, .int a3), (5, .int a5)]) (pc := 80) K d_M_guiltsWith_80 rfl kc_1 (by decide) rfl ?_
      refine gk_goto (tgt := 5) (pc := 83) K d_M_guiltsWith_83 (by decide) ?_
      exact gk_sub [1, 2, 3, 4, 0] rfl (hk5 _ _ _ _ _  h)
    · refine gk_iconst (pc := 31) K d_M_guiltsWith_31 kc_0 ?_
      refine gk_istore (lv2 := [(6, .int 0), (0, .ref 0), (1, .int a1), (2, .int a2), (3, .int a3), (4, .int a4), (5, .int a5)]) (pc := 32) K d_M_guiltsWith_32 (by decide) rfl ?_
      exact gk_sub [1, 2, 3, 4, 5, 6, 0] rfl (s_M_guiltsWith_34 K hk5 (fun x0 x1 x2 x3 x4 m  h => ih x0 x1 x2 x3 x4 m  h) _ _ _ _ _ _ _ _  h)
noncomputable def f_M_guiltsWith_5  : Nat → Int32 → Int32 → Int32 → Int32 → gk_M → Option (Int32 × gk_M)
  | 0, _, _, _, _, _ => none
  | n + 1, a1, a2, a3, a4, m0 =>
    if (m0.1 0 10) ≤ a4 then
      some (a3, m0)
    else
      f_M_guiltsWith_17 (f_M_guiltsWith_5 n) gk_fv a1 a2 a3 a4 0 m0

theorem s_M_guiltsWith_5 {z : gk_Z} (K : gk_F tm z me_M_guiltsWith 71) {r : Int32} {mem2 : gk_M} : ∀ n a1 a2 a3 a4 m0, f_M_guiltsWith_5 n a1 a2 a3 a4 m0 = some (r, mem2) → gk_G tm z me_M_guiltsWith (gk_R tm z (some (.int r)) mem2) m0 [(0, .ref 0), (1, .int a1), (2, .int a2), (3, .int a3), (4, .int a4)] [] 5 := by
  intro n
  induction n with
  | zero => intro a1 a2 a3 a4 m0  h; exact nomatch (show (none : Option _) = some _ from h)
  | succ n ih =>
    intro a1 a2 a3 a4 m0  h
    unfold f_M_guiltsWith_5 at h
    refine gk_iload (pc := 5) K d_M_guiltsWith_5 rfl ?_
    refine gk_aload_n (pc := 7) K d_M_guiltsWith_7 rfl ?_
    refine gk_get (pc := 8) K d_M_guiltsWith_8 fl_M_109 tm_0 rfl rfl ?_
    refine gk_ic_ge (tgt := 86) (pc := 11) K d_M_guiltsWith_11 (by decide) h (fun h => ?_) (fun h => ?_)
    · refine gk_iload_n (pc := 86) K d_M_guiltsWith_86 rfl ?_
      exact gk_iret (pc := 87) K d_M_guiltsWith_87 rfl h
    · refine gk_iconst (pc := 14) K d_M_guiltsWith_14 kc_0 ?_
      refine gk_istore (lv2 := [(5, .int 0), (0, .ref 0), (1, .int a1), (2, .int a2), (3, .int a3), (4, .int a4)]) (pc := 15) K d_M_guiltsWith_15 (by decide) rfl ?_
      exact gk_sub [1, 2, 3, 4, 5, 0] rfl (s_M_guiltsWith_17 K (fun x0 x1 x2 x3 m  h => ih x0 x1 x2 x3 m  h) _ _ _ _ _ _ _  h)
noncomputable def f_M_guiltsWith  (a1 : Int32) (a2 : Int32) (m0 : gk_M) : Option (Int32 × gk_M) :=
  f_M_guiltsWith_5 gk_fv a1 a2 0 0 m0

theorem s_M_guiltsWith_0 {z : gk_Z} (K : gk_F tm z me_M_guiltsWith 71) {r : Int32} {mem2 : gk_M} : ∀ a1 a2 m0, f_M_guiltsWith a1 a2 m0 = some (r, mem2) → gk_G tm z me_M_guiltsWith (gk_R tm z (some (.int r)) mem2) m0 [(0, .ref 0), (1, .int a1), (2, .int a2)] [] 0 := by
  intro a1 a2 m0  h
  unfold f_M_guiltsWith at h
  refine gk_iconst (pc := 0) K d_M_guiltsWith_0 kc_0 ?_
  refine gk_istore_n (lv2 := [(3, .int 0), (0, .ref 0), (1, .int a1), (2, .int a2)]) (pc := 1) K d_M_guiltsWith_1 (by decide) rfl ?_
  refine gk_iconst (pc := 2) K d_M_guiltsWith_2 kc_0 ?_
  refine gk_istore (lv2 := [(4, .int 0), (3, .int 0), (0, .ref 0), (1, .int a1), (2, .int a2)]) (pc := 3) K d_M_guiltsWith_3 (by decide) rfl ?_
  exact gk_sub [2, 3, 4, 1, 0] rfl (s_M_guiltsWith_5 K _ _ _ _ _ _  h)
theorem s_M_guiltsWith {l : Launch} {u : gk_U} (hD : gk_D tm u) {a1 : Int32} {a2 : Int32} {m0 mem2 : gk_M} {r : Int32} (h : f_M_guiltsWith a1 a2 m0 = some (r, mem2)) : gk_C tm l u me_M_guiltsWith 71 [.ref 0, .int a1, .int a2] m0 (some (.int r)) mem2 :=
  gk_enter hD mc_M_guiltsWith (Nat.le_of_ble_eq_true rfl) rfl (fun z _ _ K => s_M_guiltsWith_0 K _ _ _  h)
theorem d_M_led_0 : decode me_M_led.2.1 0 = .ok (.aload_n 0, 1) := by decide +kernel
theorem d_M_led_1 : decode me_M_led.2.1 1 = .ok (.iload_n 1, 1) := by decide +kernel
theorem d_M_led_2 : decode me_M_led.2.1 2 = .ok (.invokevirtual 142, 3) := by decide +kernel
theorem d_M_led_5 : decode me_M_led.2.1 5 = .ok (.ifCond .eq 15, 3) := by decide +kernel
theorem d_M_led_8 : decode me_M_led.2.1 8 = .ok (.aload_n 0, 1) := by decide +kernel
theorem d_M_led_9 : decode me_M_led.2.1 9 = .ok (.iload_n 1, 1) := by decide +kernel
theorem d_M_led_10 : decode me_M_led.2.1 10 = .ok (.aload_n 0, 1) := by decide +kernel
theorem d_M_led_11 : decode me_M_led.2.1 11 = .ok (.getfield 106, 3) := by decide +kernel
theorem d_M_led_14 : decode me_M_led.2.1 14 = .ok (.invokevirtual 303, 3) := by decide +kernel
theorem d_M_led_17 : decode me_M_led.2.1 17 = .ok (.goto 4, 3) := by decide +kernel
theorem d_M_led_20 : decode me_M_led.2.1 20 = .ok (.iconst (-1), 1) := by decide +kernel
theorem d_M_led_21 : decode me_M_led.2.1 21 = .ok (.ireturn, 1) := by decide +kernel
noncomputable def f_M_led  (a1 : Int32) (m0 : gk_M) : Option (Int32 × gk_M) :=
  gk_bi (f_M_isTower a1 m0) fun v2 m1 =>
  if v2 = 0 then
    some ((-1), m1)
  else
    gk_bi (f_M_guiltsWith a1 (m1.1 0 6) m1) fun v4 m3 =>
    some (v4, m3)

theorem s_M_led_0 {z : gk_Z} (K : gk_F tm z me_M_led 72) {r : Int32} {mem2 : gk_M} : ∀ a1 m0, f_M_led a1 m0 = some (r, mem2) → gk_G tm z me_M_led (gk_R tm z (some (.int r)) mem2) m0 [(0, .ref 0), (1, .int a1)] [] 0 := by
  intro a1 m0  h
  unfold f_M_led at h
  refine gk_aload_n (pc := 0) K d_M_led_0 rfl ?_
  refine gk_iload_n (pc := 1) K d_M_led_1 rfl ?_
  obtain ⟨v2, m1, em1, h⟩ := gk_bi_some h
  refine gk_cVi (As := [.int a1]) (pc := 2) K d_M_led_2 mv_M_142 mc_M_isTower rfl tm_0 cl_ok10.1 (s_M_isTower (gk_FD K)  em1) (by decide) rfl (Nat.le_of_ble_eq_true rfl) ?_
  refine gk_if_eq (tgt := 20) (pc := 5) K d_M_led_5 (by decide) h (fun h => ?_) (fun h => ?_)
  · refine gk_iconst (pc := 20) K d_M_led_20 kc_m1 ?_
    exact gk_iret (pc := 21) K d_M_led_21 rfl h
  · refine gk_aload_n (pc := 8) K d_M_led_8 rfl ?_
    refine gk_iload_n (pc := 9) K d_M_led_9 rfl ?_
    refine gk_aload_n (pc := 10) K d_M_led_10 rfl ?_
    refine gk_get (pc := 11) K d_M_led_11 fl_M_106 tm_0 rfl rfl ?_
    obtain ⟨v4, m3, em3, h⟩ := gk_bi_some h
    refine gk_cVi (As := [.int a1, .int (m1.1 0 6)]) (pc := 14) K d_M_led_14 mv_M_303 mc_M_guiltsWith rfl tm_0 cl_ok10.1 (s_M_guiltsWith (gk_FD K)  em3) (by decide) rfl (Nat.le_of_ble_eq_true rfl) ?_
    refine gk_goto (tgt := 21) (pc := 17) K d_M_led_17 (by decide) ?_
    exact gk_iret (pc := 21) K d_M_led_21 rfl h
theorem s_M_led {l : Launch} {u : gk_U} (hD : gk_D tm u) {a1 : Int32} {m0 mem2 : gk_M} {r : Int32} (h : f_M_led a1 m0 = some (r, mem2)) : gk_C tm l u me_M_led 72 [.ref 0, .int a1] m0 (some (.int r)) mem2 :=
  gk_enter hD mc_M_led (Nat.le_of_ble_eq_true rfl) rfl (fun z _ _ K => s_M_led_0 K _ _  h)
theorem d_M_isHidden_0 : decode me_M_isHidden.2.1 0 = .ok (.iload_n 1, 1) := by decide +kernel
theorem d_M_isHidden_1 : decode me_M_isHidden.2.1 1 = .ok (.bipush 30, 2) := by decide +kernel
theorem d_M_isHidden_3 : decode me_M_isHidden.2.1 3 = .ok (.irem, 1) := by decide +kernel
theorem d_M_isHidden_4 : decode me_M_isHidden.2.1 4 = .ok (.i2l, 1) := by decide +kernel
theorem d_M_isHidden_5 : decode me_M_isHidden.2.1 5 = .ok (.lstore 4, 2) := by decide +kernel
theorem d_M_isHidden_7 : decode me_M_isHidden.2.1 7 = .ok (.iload_n 1, 1) := by decide +kernel
theorem d_M_isHidden_8 : decode me_M_isHidden.2.1 8 = .ok (.bipush 30, 2) := by decide +kernel
theorem d_M_isHidden_10 : decode me_M_isHidden.2.1 10 = .ok (.idiv, 1) := by decide +kernel
theorem d_M_isHidden_11 : decode me_M_isHidden.2.1 11 = .ok (.i2l, 1) := by decide +kernel
theorem d_M_isHidden_12 : decode me_M_isHidden.2.1 12 = .ok (.lstore 6, 2) := by decide +kernel
theorem d_M_isHidden_14 : decode me_M_isHidden.2.1 14 = .ok (.iconst 0, 1) := by decide +kernel
theorem d_M_isHidden_15 : decode me_M_isHidden.2.1 15 = .ok (.istore 8, 2) := by decide +kernel
theorem d_M_isHidden_17 : decode me_M_isHidden.2.1 17 = .ok (.iload 8, 2) := by decide +kernel
theorem d_M_isHidden_19 : decode me_M_isHidden.2.1 19 = .ok (.iload_n 3, 1) := by decide +kernel
theorem d_M_isHidden_20 : decode me_M_isHidden.2.1 20 = .ok (.if_icmp .ge 71, 3) := by decide +kernel
theorem d_M_isHidden_23 : decode me_M_isHidden.2.1 23 = .ok (.iload 8, 2) := by decide +kernel
theorem d_M_isHidden_25 : decode me_M_isHidden.2.1 25 = .ok (.iload_n 2, 1) := by decide +kernel
theorem d_M_isHidden_26 : decode me_M_isHidden.2.1 26 = .ok (.if_icmp .eq 59, 3) := by decide +kernel
theorem d_M_isHidden_29 : decode me_M_isHidden.2.1 29 = .ok (.aload_n 0, 1) := by decide +kernel
theorem d_M_isHidden_30 : decode me_M_isHidden.2.1 30 = .ok (.lload 4, 2) := by decide +kernel
theorem d_M_isHidden_32 : decode me_M_isHidden.2.1 32 = .ok (.lload 6, 2) := by decide +kernel
theorem d_M_isHidden_34 : decode me_M_isHidden.2.1 34 = .ok (.lconst 1, 1) := by decide +kernel
theorem d_M_isHidden_35 : decode me_M_isHidden.2.1 35 = .ok (.iload_n 2, 1) := by decide +kernel
theorem d_M_isHidden_36 : decode me_M_isHidden.2.1 36 = .ok (.iload 8, 2) := by decide +kernel
theorem d_M_isHidden_38 : decode me_M_isHidden.2.1 38 = .ok (.invokevirtual 235, 3) := by decide +kernel
theorem d_M_isHidden_41 : decode me_M_isHidden.2.1 41 = .ok (.ifCond .eq 44, 3) := by decide +kernel
theorem d_M_isHidden_44 : decode me_M_isHidden.2.1 44 = .ok (.aload_n 0, 1) := by decide +kernel
theorem d_M_isHidden_45 : decode me_M_isHidden.2.1 45 = .ok (.lload 4, 2) := by decide +kernel
theorem d_M_isHidden_47 : decode me_M_isHidden.2.1 47 = .ok (.lload 6, 2) := by decide +kernel
theorem d_M_isHidden_49 : decode me_M_isHidden.2.1 49 = .ok (.lconst 1, 1) := by decide +kernel
theorem d_M_isHidden_50 : decode me_M_isHidden.2.1 50 = .ok (.iload 8, 2) := by decide +kernel
theorem d_M_isHidden_52 : decode me_M_isHidden.2.1 52 = .ok (.invokevirtual 243, 3) := by decide +kernel
theorem d_M_isHidden_55 : decode me_M_isHidden.2.1 55 = .ok (.aload_n 0, 1) := by decide +kernel
theorem d_M_isHidden_56 : decode me_M_isHidden.2.1 56 = .ok (.lload 4, 2) := by decide +kernel
theorem d_M_isHidden_58 : decode me_M_isHidden.2.1 58 = .ok (.lload 6, 2) := by decide +kernel
theorem d_M_isHidden_60 : decode me_M_isHidden.2.1 60 = .ok (.lconst 1, 1) := by decide +kernel
theorem d_M_isHidden_61 : decode me_M_isHidden.2.1 61 = .ok (.iload_n 2, 1) := by decide +kernel
theorem d_M_isHidden_62 : decode me_M_isHidden.2.1 62 = .ok (.invokevirtual 243, 3) := by decide +kernel
theorem d_M_isHidden_65 : decode me_M_isHidden.2.1 65 = .ok (.lcmp, 1) := by decide +kernel
theorem d_M_isHidden_66 : decode me_M_isHidden.2.1 66 = .ok (.ifCond .ge 19, 3) := by decide +kernel
theorem d_M_isHidden_69 : decode me_M_isHidden.2.1 69 = .ok (.aload_n 0, 1) := by decide +kernel
theorem d_M_isHidden_70 : decode me_M_isHidden.2.1 70 = .ok (.iload 8, 2) := by decide +kernel
theorem d_M_isHidden_72 : decode me_M_isHidden.2.1 72 = .ok (.invokevirtual 210, 3) := by decide +kernel
theorem d_M_isHidden_75 : decode me_M_isHidden.2.1 75 = .ok (.aload_n 0, 1) := by decide +kernel
theorem d_M_isHidden_76 : decode me_M_isHidden.2.1 76 = .ok (.iload_n 2, 1) := by decide +kernel
theorem d_M_isHidden_77 : decode me_M_isHidden.2.1 77 = .ok (.invokevirtual 210, 3) := by decide +kernel
theorem d_M_isHidden_80 : decode me_M_isHidden.2.1 80 = .ok (.if_icmp .lt 5, 3) := by decide +kernel
theorem d_M_isHidden_83 : decode me_M_isHidden.2.1 83 = .ok (.iconst 1, 1) := by decide +kernel
theorem d_M_isHidden_84 : decode me_M_isHidden.2.1 84 = .ok (.ireturn, 1) := by decide +kernel
theorem d_M_isHidden_85 : decode me_M_isHidden.2.1 85 = .ok (.iinc 8 1, 3) := by decide +kernel
theorem d_M_isHidden_88 : decode me_M_isHidden.2.1 88 = .ok (.goto (-71), 3) := by decide +kernel
theorem d_M_isHidden_91 : decode me_M_isHidden.2.1 91 = .ok (.iconst 0, 1) := by decide +kernel
theorem d_M_isHidden_92 : decode me_M_isHidden.2.1 92 = .ok (.ireturn, 1) := by decide +kernel
noncomputable def f_M_isHidden_17  : Nat → Int32 → Int32 → Int64 → Int64 → Int32 → gk_M → Option (Int32 × gk_M)
  | 0, _, _, _, _, _, _ => none
  | n + 1, a2, a3, a4, a6, a8, m0 =>
    if a3 ≤ a8 then
      some (0, m0)
    else
      if a8 = a2 then
        f_M_isHidden_17 n a2 a3 a4 a6 (a8 + 1) m0
      else
        gk_bi (f_M_isBehind a4 a6 1 a2 a8 m0) fun v2 m1 =>
        if v2 = 0 then
          f_M_isHidden_17 n a2 a3 a4 a6 (a8 + 1) m1
        else
          gk_bl (f_M_farOf a4 a6 1 a8 m1) fun v4 m3 =>
          gk_bl (f_M_farOf a4 a6 1 a2 m3) fun v6 m5 =>
          if v6 ≤ v4 then
            f_M_isHidden_17 n a2 a3 a4 a6 (a8 + 1) m5
          else
            gk_bi (f_M_heightOf a8 m5) fun v8 m7 =>
            gk_bi (f_M_heightOf a2 m7) fun v10 m9 =>
            if v8 < v10 then
              f_M_isHidden_17 n a2 a3 a4 a6 (a8 + 1) m9
            else
              some (1, m9)

theorem s_M_isHidden_17 {z : gk_Z} (K : gk_F tm z me_M_isHidden 2) {r : Int32} {mem2 : gk_M} : ∀ n a2 a3 a4 a6 a8 m0, f_M_isHidden_17 n a2 a3 a4 a6 a8 m0 = some (r, mem2) → gk_G tm z me_M_isHidden (gk_R tm z (some (.int r)) mem2) m0 [(0, .ref 0), (2, .int a2), (3, .int a3), (4, .long a4), (6, .long a6), (8, .int a8)] [] 17 := by
  intro n
  induction n with
  | zero => intro a2 a3 a4 a6 a8 m0  h; exact nomatch (show (none : Option _) = some _ from h)
  | succ n ih =>
    intro a2 a3 a4 a6 a8 m0  h
    unfold f_M_isHidden_17 at h
    refine gk_iload (pc := 17) K d_M_isHidden_17 rfl ?_
    refine gk_iload_n (pc := 19) K d_M_isHidden_19 rfl ?_
    refine gk_ic_ge (tgt := 91) (pc := 20) K d_M_isHidden_20 (by decide) h (fun h => ?_) (fun h => ?_)
    · refine gk_iconst (pc := 91) K d_M_isHidden_91 kc_0 ?_
      exact gk_zretc (pc := 92) K d_M_isHidden_92 rfl (Or.inl rfl) h
    · refine gk_iload (pc := 23) K d_M_isHidden_23 rfl ?_
      refine gk_iload_n (pc := 25) K d_M_isHidden_25 rfl ?_
      refine gk_ic_eq (tgt := 85) (pc := 26) K d_M_isHidden_26 (by decide) h (fun h => ?_) (fun h => ?_)
      · refine gk_iinc2 (lv2 := [(8, .int (a8 + 1)), (0, .ref 0), (2, .int a2), (3, .int a3), (4, .long a4), (6, .long a6)]) (pc := 85) K d_M_isHidden_85 rfl kc_1 (by decide) rfl ?_
        refine gk_goto (tgt := 17) (pc := 88) K d_M_isHidden_88 (by decide) ?_
        exact gk_sub [1, 2, 3, 4, 5, 0] rfl (ih _ _ _ _ _ _  h)
      · refine gk_aload_n (pc := 29) K d_M_isHidden_29 rfl ?_
        refine gk_lload (pc := 30) K d_M_isHidden_30 rfl ?_
        refine gk_lload (pc := 32) K d_M_isHidden_32 rfl ?_
        refine gk_lconst (pc := 34) K d_M_isHidden_34 kl_1 ?_
        refine gk_iload_n (pc := 35) K d_M_isHidden_35 rfl ?_
        refine gk_iload (pc := 36) K d_M_isHidden_36 rfl ?_
        obtain ⟨v2, m1, em1, h⟩ := gk_bi_some h
        refine gk_cVi (As := [.long a4, .long a6, .long 1, .int a2, .int a8]) (pc := 38) K d_M_isHidden_38 mv_M_235 mc_M_isBehind rfl tm_0 cl_ok10.1 (s_M_isBehind (gk_FD K)  em1) (by decide) rfl (Nat.le_of_ble_eq_true rfl) ?_
        refine gk_if_eq (tgt := 85) (pc := 41) K d_M_isHidden_41 (by decide) h (fun h => ?_) (fun h => ?_)
        · refine gk_iinc2 (lv2 := [(8, .int (a8 + 1)), (0, .ref 0), (2, .int a2), (3, .int a3), (4, .long a4), (6, .long a6)]) (pc := 85) K d_M_isHidden_85 rfl kc_1 (by decide) rfl ?_
          refine gk_goto (tgt := 17) (pc := 88) K d_M_isHidden_88 (by decide) ?_
          exact gk_sub [1, 2, 3, 4, 5, 0] rfl (ih _ _ _ _ _ _  h)
        · refine gk_aload_n (pc := 44) K d_M_isHidden_44 rfl ?_
          refine gk_lload (pc := 45) K d_M_isHidden_45 rfl ?_
          refine gk_lload (pc := 47) K d_M_isHidden_47 rfl ?_
          refine gk_lconst (pc := 49) K d_M_isHidden_49 kl_1 ?_
          refine gk_iload (pc := 50) K d_M_isHidden_50 rfl ?_
          obtain ⟨v4, m3, em3, h⟩ := gk_bl_some h
          refine gk_cVl (As := [.long a4, .long a6, .long 1, .int a8]) (pc := 52) K d_M_isHidden_52 mv_M_243 mc_M_farOf rfl tm_0 cl_ok10.1 (s_M_farOf (gk_FD K)  em3) (by decide) rfl (Nat.le_of_ble_eq_true rfl) ?_
          refine gk_aload_n (pc := 55) K d_M_isHidden_55 rfl ?_
          refine gk_lload (pc := 56) K d_M_isHidden_56 rfl ?_
          refine gk_lload (pc := 58) K d_M_isHidden_58 rfl ?_
          refine gk_lconst (pc := 60) K d_M_isHidden_60 kl_1 ?_
          refine gk_iload_n (pc := 61) K d_M_isHidden_61 rfl ?_
          obtain ⟨v6, m5, em5, h⟩ := gk_bl_some h
          refine gk_cVl (As := [.long a4, .long a6, .long 1, .int a2]) (pc := 62) K d_M_isHidden_62 mv_M_243 mc_M_farOf rfl tm_0 cl_ok10.1 (s_M_farOf (gk_FD K)  em5) (by decide) rfl (Nat.le_of_ble_eq_true rfl) ?_
          refine gk_lc_ge (tgt := 85) (pc := 65) K d_M_isHidden_65 d_M_isHidden_66 (by decide) h (fun h => ?_) (fun h => ?_)
          · refine gk_iinc2 (lv2 := [(8, .int (a8 + 1)), (0, .ref 0), (2, .int a2), (3, .int a3), (4, .long a4), (6, .long a6)]) (pc := 85) K d_M_isHidden_85 rfl kc_1 (by decide) rfl ?_
            refine gk_goto (tgt := 17) (pc := 88) K d_M_isHidden_88 (by decide) ?_
            exact gk_sub [1, 2, 3, 4, 5, 0] rfl (ih _ _ _ _ _ _  h)
          · refine gk_aload_n (pc := 69) K d_M_isHidden_69 rfl ?_
            refine gk_iload (pc := 70) K d_M_isHidden_70 rfl ?_
            obtain ⟨v8, m7, em7, h⟩ := gk_bi_some h
            refine gk_cVi (As := [.int a8]) (pc := 72) K d_M_isHidden_72 mv_M_210 mc_M_heightOf rfl tm_0 cl_ok10.1 (s_M_heightOf (gk_FD K)  em7) (by decide) rfl (Nat.le_of_ble_eq_true rfl) ?_
            refine gk_aload_n (pc := 75) K d_M_isHidden_75 rfl ?_
            refine gk_iload_n (pc := 76) K d_M_isHidden_76 rfl ?_
            obtain ⟨v10, m9, em9, h⟩ := gk_bi_some h
            refine gk_cVi (As := [.int a2]) (pc := 77) K d_M_isHidden_77 mv_M_210 mc_M_heightOf rfl tm_0 cl_ok10.1 (s_M_heightOf (gk_FD K)  em9) (by decide) rfl (Nat.le_of_ble_eq_true rfl) ?_
            refine gk_ic_lt (tgt := 85) (pc := 80) K d_M_isHidden_80 (by decide) h (fun h => ?_) (fun h => ?_)
            · refine gk_iinc2 (lv2 := [(8, .int (a8 + 1)), (0, .ref 0), (2, .int a2), (3, .int a3), (4, .long a4), (6, .long a6)]) (pc := 85) K d_M_isHidden_85 rfl kc_1 (by decide) rfl ?_
              refine gk_goto (tgt := 17) (pc := 88) K d_M_isHidden_88 (by decide) ?_
              exact gk_sub [1, 2, 3, 4, 5, 0] rfl (ih _ _ _ _ _ _  h)
            · refine gk_iconst (pc := 83) K d_M_isHidden_83 kc_1 ?_
              exact gk_zretc (pc := 84) K d_M_isHidden_84 rfl (Or.inr rfl) h
noncomputable def f_M_isHidden  (a1 : Int32) (a2 : Int32) (a3 : Int32) (m0 : gk_M) : Option (Int32 × gk_M) :=
  gk_let (gk_rem a1 30).toInt64 fun v1 =>
  gk_let (a1 / 30).toInt64 fun v2 =>
  f_M_isHidden_17 gk_fv a2 a3 v1 v2 0 m0

theorem s_M_isHidden_0 {z : gk_Z} (K : gk_F tm z me_M_isHidden 2) {r : Int32} {mem2 : gk_M} : ∀ a1 a2 a3 m0, f_M_isHidden a1 a2 a3 m0 = some (r, mem2) → gk_G tm z me_M_isHidden (gk_R tm z (some (.int r)) mem2) m0 [(0, .ref 0), (1, .int a1), (2, .int a2), (3, .int a3)] [] 0 := by
  intro a1 a2 a3 m0  h
  unfold f_M_isHidden at h
  refine gk_iload_n (pc := 0) K d_M_isHidden_0 rfl ?_
  refine gk_bipush (pc := 1) K d_M_isHidden_1 kb_30 ?_
  refine gk_iremc2 (pc := 3) K d_M_isHidden_3 (by decide) ?_
  refine gk_i2l (pc := 4) K d_M_isHidden_4 ?_
  refine gk_topl h (fun v1 h => ?_)
  refine gk_lstore (lv2 := [(4, .long v1), (0, .ref 0), (1, .int a1), (2, .int a2), (3, .int a3)]) (pc := 5) K d_M_isHidden_5 (by decide) rfl ?_
  refine gk_iload_n (pc := 7) K d_M_isHidden_7 rfl ?_
  refine gk_bipush (pc := 8) K d_M_isHidden_8 kb_30 ?_
  refine gk_idivc2 (pc := 10) K d_M_isHidden_10 (by decide) ?_
  refine gk_i2l (pc := 11) K d_M_isHidden_11 ?_
  refine gk_topl h (fun v2 h => ?_)
  refine gk_lstore (lv2 := [(6, .long v2), (4, .long v1), (0, .ref 0), (1, .int a1), (2, .int a2), (3, .int a3)]) (pc := 12) K d_M_isHidden_12 (by decide) rfl ?_
  refine gk_iconst (pc := 14) K d_M_isHidden_14 kc_0 ?_
  refine gk_istore (lv2 := [(8, .int 0), (6, .long v2), (4, .long v1), (0, .ref 0), (1, .int a1), (2, .int a2), (3, .int a3)]) (pc := 15) K d_M_isHidden_15 (by decide) rfl ?_
  exact gk_sub [3, 5, 6, 2, 1, 0] rfl (s_M_isHidden_17 K _ _ _ _ _ _ _  h)
theorem s_M_isHidden {l : Launch} {u : gk_U} (hD : gk_D tm u) {a1 : Int32} {a2 : Int32} {a3 : Int32} {m0 mem2 : gk_M} {r : Int32} (h : f_M_isHidden a1 a2 a3 m0 = some (r, mem2)) : gk_C tm l u me_M_isHidden 2 [.ref 0, .int a1, .int a2, .int a3] m0 (some (.int r)) mem2 :=
  gk_enter hD mc_M_isHidden (Nat.le_of_ble_eq_true rfl) rfl (fun z _ _ K => s_M_isHidden_0 K _ _ _ _  h)
theorem d_M_seenFrom_0 : decode me_M_seenFrom.2.1 0 = .ok (.iconst 0, 1) := by decide +kernel
theorem d_M_seenFrom_1 : decode me_M_seenFrom.2.1 1 = .ok (.istore_n 2, 1) := by decide +kernel
theorem d_M_seenFrom_2 : decode me_M_seenFrom.2.1 2 = .ok (.iconst 0, 1) := by decide +kernel
theorem d_M_seenFrom_3 : decode me_M_seenFrom.2.1 3 = .ok (.istore_n 3, 1) := by decide +kernel
theorem d_M_seenFrom_4 : decode me_M_seenFrom.2.1 4 = .ok (.iload_n 3, 1) := by decide +kernel
theorem d_M_seenFrom_5 : decode me_M_seenFrom.2.1 5 = .ok (.aload_n 0, 1) := by decide +kernel
theorem d_M_seenFrom_6 : decode me_M_seenFrom.2.1 6 = .ok (.getfield 106, 3) := by decide +kernel
theorem d_M_seenFrom_9 : decode me_M_seenFrom.2.1 9 = .ok (.if_icmp .ge 73, 3) := by decide +kernel
theorem d_M_seenFrom_12 : decode me_M_seenFrom.2.1 12 = .ok (.aload_n 0, 1) := by decide +kernel
theorem d_M_seenFrom_13 : decode me_M_seenFrom.2.1 13 = .ok (.getfield 22, 3) := by decide +kernel
theorem d_M_seenFrom_16 : decode me_M_seenFrom.2.1 16 = .ok (.iload_n 3, 1) := by decide +kernel
theorem d_M_seenFrom_17 : decode me_M_seenFrom.2.1 17 = .ok (.iaload, 1) := by decide +kernel
theorem d_M_seenFrom_18 : decode me_M_seenFrom.2.1 18 = .ok (.iload_n 1, 1) := by decide +kernel
theorem d_M_seenFrom_19 : decode me_M_seenFrom.2.1 19 = .ok (.if_icmp .eq 39, 3) := by decide +kernel
theorem d_M_seenFrom_22 : decode me_M_seenFrom.2.1 22 = .ok (.aload_n 0, 1) := by decide +kernel
theorem d_M_seenFrom_23 : decode me_M_seenFrom.2.1 23 = .ok (.iload_n 1, 1) := by decide +kernel
theorem d_M_seenFrom_24 : decode me_M_seenFrom.2.1 24 = .ok (.bipush 30, 2) := by decide +kernel
theorem d_M_seenFrom_26 : decode me_M_seenFrom.2.1 26 = .ok (.irem, 1) := by decide +kernel
theorem d_M_seenFrom_27 : decode me_M_seenFrom.2.1 27 = .ok (.i2l, 1) := by decide +kernel
theorem d_M_seenFrom_28 : decode me_M_seenFrom.2.1 28 = .ok (.iload_n 1, 1) := by decide +kernel
theorem d_M_seenFrom_29 : decode me_M_seenFrom.2.1 29 = .ok (.bipush 30, 2) := by decide +kernel
theorem d_M_seenFrom_31 : decode me_M_seenFrom.2.1 31 = .ok (.idiv, 1) := by decide +kernel
theorem d_M_seenFrom_32 : decode me_M_seenFrom.2.1 32 = .ok (.i2l, 1) := by decide +kernel
theorem d_M_seenFrom_33 : decode me_M_seenFrom.2.1 33 = .ok (.lconst 1, 1) := by decide +kernel
theorem d_M_seenFrom_34 : decode me_M_seenFrom.2.1 34 = .ok (.iload_n 3, 1) := by decide +kernel
theorem d_M_seenFrom_35 : decode me_M_seenFrom.2.1 35 = .ok (.invokevirtual 239, 3) := by decide +kernel
theorem d_M_seenFrom_38 : decode me_M_seenFrom.2.1 38 = .ok (.ifCond .ne 20, 3) := by decide +kernel
theorem d_M_seenFrom_41 : decode me_M_seenFrom.2.1 41 = .ok (.aload_n 0, 1) := by decide +kernel
theorem d_M_seenFrom_42 : decode me_M_seenFrom.2.1 42 = .ok (.iload_n 1, 1) := by decide +kernel
theorem d_M_seenFrom_43 : decode me_M_seenFrom.2.1 43 = .ok (.iload_n 3, 1) := by decide +kernel
theorem d_M_seenFrom_44 : decode me_M_seenFrom.2.1 44 = .ok (.aload_n 0, 1) := by decide +kernel
theorem d_M_seenFrom_45 : decode me_M_seenFrom.2.1 45 = .ok (.getfield 106, 3) := by decide +kernel
theorem d_M_seenFrom_48 : decode me_M_seenFrom.2.1 48 = .ok (.invokevirtual 306, 3) := by decide +kernel
theorem d_M_seenFrom_51 : decode me_M_seenFrom.2.1 51 = .ok (.ifCond .ne 7, 3) := by decide +kernel
theorem d_M_seenFrom_54 : decode me_M_seenFrom.2.1 54 = .ok (.iconst 1, 1) := by decide +kernel
theorem d_M_seenFrom_55 : decode me_M_seenFrom.2.1 55 = .ok (.goto 4, 3) := by decide +kernel
theorem d_M_seenFrom_58 : decode me_M_seenFrom.2.1 58 = .ok (.iconst 0, 1) := by decide +kernel
theorem d_M_seenFrom_59 : decode me_M_seenFrom.2.1 59 = .ok (.istore 4, 2) := by decide +kernel
theorem d_M_seenFrom_61 : decode me_M_seenFrom.2.1 61 = .ok (.iload_n 2, 1) := by decide +kernel
theorem d_M_seenFrom_62 : decode me_M_seenFrom.2.1 62 = .ok (.iload 4, 2) := by decide +kernel
theorem d_M_seenFrom_64 : decode me_M_seenFrom.2.1 64 = .ok (.ifCond .eq 9, 3) := by decide +kernel
theorem d_M_seenFrom_67 : decode me_M_seenFrom.2.1 67 = .ok (.iconst 1, 1) := by decide +kernel
theorem d_M_seenFrom_68 : decode me_M_seenFrom.2.1 68 = .ok (.iload_n 3, 1) := by decide +kernel
theorem d_M_seenFrom_69 : decode me_M_seenFrom.2.1 69 = .ok (.ishl, 1) := by decide +kernel
theorem d_M_seenFrom_70 : decode me_M_seenFrom.2.1 70 = .ok (.goto 4, 3) := by decide +kernel
theorem d_M_seenFrom_73 : decode me_M_seenFrom.2.1 73 = .ok (.iconst 0, 1) := by decide +kernel
theorem d_M_seenFrom_74 : decode me_M_seenFrom.2.1 74 = .ok (.ior, 1) := by decide +kernel
theorem d_M_seenFrom_75 : decode me_M_seenFrom.2.1 75 = .ok (.istore_n 2, 1) := by decide +kernel
theorem d_M_seenFrom_76 : decode me_M_seenFrom.2.1 76 = .ok (.iinc 3 1, 3) := by decide +kernel
theorem d_M_seenFrom_79 : decode me_M_seenFrom.2.1 79 = .ok (.goto (-75), 3) := by decide +kernel
theorem d_M_seenFrom_82 : decode me_M_seenFrom.2.1 82 = .ok (.iload_n 2, 1) := by decide +kernel
theorem d_M_seenFrom_83 : decode me_M_seenFrom.2.1 83 = .ok (.ireturn, 1) := by decide +kernel
noncomputable def f_M_seenFrom_74 (k4 : Int32 → Int32 → Int32 → gk_M → Option (Int32 × gk_M)) (a1 : Int32) (a3 : Int32) (s0 : Int32) (s1 : Int32) (m0 : gk_M) : Option (Int32 × gk_M) :=
  gk_let (s0 ||| s1) fun v1 =>
  k4 a1 v1 (a3 + 1) m0

theorem s_M_seenFrom_74 {z : gk_Z} (K : gk_F tm z me_M_seenFrom 5) {r : Int32} {mem2 : gk_M} {k4 : Int32 → Int32 → Int32 → gk_M → Option (Int32 × gk_M)} (hk4 : ∀ a1 a2 a3 m0, k4 a1 a2 a3 m0 = some (r, mem2) → gk_G tm z me_M_seenFrom (gk_R tm z (some (.int r)) mem2) m0 [(0, .ref 0), (1, .int a1), (2, .int a2), (3, .int a3)] [] 4) : ∀ a1 a3 s0 s1 m0, f_M_seenFrom_74 k4 a1 a3 s0 s1 m0 = some (r, mem2) → gk_G tm z me_M_seenFrom (gk_R tm z (some (.int r)) mem2) m0 [(0, .ref 0), (1, .int a1), (3, .int a3)] [.int s1, .int s0] 74 := by
  intro a1 a3 s0 s1 m0  h
  unfold f_M_seenFrom_74 at h
  refine gk_ior (pc := 74) K d_M_seenFrom_74 ?_
  refine gk_topi h (fun v1 h => ?_)
  refine gk_istore_n (lv2 := [(2, .int v1), (0, .ref 0), (1, .int a1), (3, .int a3)]) (pc := 75) K d_M_seenFrom_75 (by decide) rfl ?_
  refine gk_iinc2 (lv2 := [(3, .int (a3 + 1)), (2, .int v1), (0, .ref 0), (1, .int a1)]) (pc := 76) K d_M_seenFrom_76 rfl kc_1 (by decide) rfl ?_
  refine gk_goto (tgt := 4) (pc := 79) K d_M_seenFrom_79 (by decide) ?_
  exact gk_sub [2, 3, 1, 0] rfl (hk4 _ _ _ _  h)
noncomputable def f_M_seenFrom_59 (k4 : Int32 → Int32 → Int32 → gk_M → Option (Int32 × gk_M)) (a1 : Int32) (a2 : Int32) (a3 : Int32) (s0 : Int32) (m0 : gk_M) : Option (Int32 × gk_M) :=
  if s0 = 0 then
    f_M_seenFrom_74 k4 a1 a3 a2 0 m0
  else
    f_M_seenFrom_74 k4 a1 a3 a2 (1 <<< (a3 &&& 31)) m0

theorem s_M_seenFrom_59 {z : gk_Z} (K : gk_F tm z me_M_seenFrom 5) {r : Int32} {mem2 : gk_M} {k4 : Int32 → Int32 → Int32 → gk_M → Option (Int32 × gk_M)} (hk4 : ∀ a1 a2 a3 m0, k4 a1 a2 a3 m0 = some (r, mem2) → gk_G tm z me_M_seenFrom (gk_R tm z (some (.int r)) mem2) m0 [(0, .ref 0), (1, .int a1), (2, .int a2), (3, .int a3)] [] 4) : ∀ a1 a2 a3 s0 m0, f_M_seenFrom_59 k4 a1 a2 a3 s0 m0 = some (r, mem2) → gk_G tm z me_M_seenFrom (gk_R tm z (some (.int r)) mem2) m0 [(0, .ref 0), (1, .int a1), (2, .int a2), (3, .int a3)] [.int s0] 59 := by
  intro a1 a2 a3 s0 m0  h
  unfold f_M_seenFrom_59 at h
  refine gk_istore (lv2 := [(4, .int s0), (0, .ref 0), (1, .int a1), (2, .int a2), (3, .int a3)]) (pc := 59) K d_M_seenFrom_59 (by decide) rfl ?_
  refine gk_iload_n (pc := 61) K d_M_seenFrom_61 rfl ?_
  refine gk_iload (pc := 62) K d_M_seenFrom_62 rfl ?_
  refine gk_if_eq (tgt := 73) (pc := 64) K d_M_seenFrom_64 (by decide) h (fun h => ?_) (fun h => ?_)
  · refine gk_iconst (pc := 73) K d_M_seenFrom_73 kc_0 ?_
    exact gk_sub [1, 2, 4] rfl (s_M_seenFrom_74 K hk4 _ _ _ _ _  h)
  · refine gk_iconst (pc := 67) K d_M_seenFrom_67 kc_1 ?_
    refine gk_iload_n (pc := 68) K d_M_seenFrom_68 rfl ?_
    refine gk_ishl (pc := 69) K d_M_seenFrom_69 ?_
    refine gk_goto (tgt := 74) (pc := 70) K d_M_seenFrom_70 (by decide) ?_
    exact gk_sub [1, 2, 4] rfl (s_M_seenFrom_74 K hk4 _ _ _ _ _  h)
noncomputable def f_M_seenFrom_58 (k4 : Int32 → Int32 → Int32 → gk_M → Option (Int32 × gk_M)) (a1 : Int32) (a2 : Int32) (a3 : Int32) (m0 : gk_M) : Option (Int32 × gk_M) :=
  f_M_seenFrom_59 k4 a1 a2 a3 0 m0

theorem s_M_seenFrom_58 {z : gk_Z} (K : gk_F tm z me_M_seenFrom 5) {r : Int32} {mem2 : gk_M} {k4 : Int32 → Int32 → Int32 → gk_M → Option (Int32 × gk_M)} (hk4 : ∀ a1 a2 a3 m0, k4 a1 a2 a3 m0 = some (r, mem2) → gk_G tm z me_M_seenFrom (gk_R tm z (some (.int r)) mem2) m0 [(0, .ref 0), (1, .int a1), (2, .int a2), (3, .int a3)] [] 4) : ∀ a1 a2 a3 m0, f_M_seenFrom_58 k4 a1 a2 a3 m0 = some (r, mem2) → gk_G tm z me_M_seenFrom (gk_R tm z (some (.int r)) mem2) m0 [(0, .ref 0), (1, .int a1), (2, .int a2), (3, .int a3)] [] 58 := by
  intro a1 a2 a3 m0  h
  unfold f_M_seenFrom_58 at h
  refine gk_iconst (pc := 58) K d_M_seenFrom_58 kc_0 ?_
  exact gk_sub [0, 1, 2, 3] rfl (s_M_seenFrom_59 K hk4 _ _ _ _ _  h)
noncomputable def f_M_seenFrom_4  : Nat → Int32 → Int32 → Int32 → gk_M → Option (Int32 × gk_M)
  | 0, _, _, _, _ => none
  | n + 1, a1, a2, a3, m0 =>
    if (m0.1 0 6) ≤ a3 then
      some (a2, m0)
    else
      gk_ai m0 5 20 a3 fun v1 =>
      if v1 = a1 then
        f_M_seenFrom_58 (f_M_seenFrom_4 n) a1 a2 a3 m0
      else
        gk_bi (f_M_isStopped (gk_rem a1 30).toInt64 (a1 / 30).toInt64 1 a3 m0) fun v3 m2 =>
        if ¬ v3 = 0 then
          f_M_seenFrom_58 (f_M_seenFrom_4 n) a1 a2 a3 m2
        else
          gk_bi (f_M_isHidden a1 a3 (m2.1 0 6) m2) fun v5 m4 =>
          if ¬ v5 = 0 then
            f_M_seenFrom_58 (f_M_seenFrom_4 n) a1 a2 a3 m4
          else
            f_M_seenFrom_59 (f_M_seenFrom_4 n) a1 a2 a3 1 m4

theorem s_M_seenFrom_4 {z : gk_Z} (K : gk_F tm z me_M_seenFrom 5) {r : Int32} {mem2 : gk_M} : ∀ n a1 a2 a3 m0, f_M_seenFrom_4 n a1 a2 a3 m0 = some (r, mem2) → gk_G tm z me_M_seenFrom (gk_R tm z (some (.int r)) mem2) m0 [(0, .ref 0), (1, .int a1), (2, .int a2), (3, .int a3)] [] 4 := by
  intro n
  induction n with
  | zero => intro a1 a2 a3 m0  h; exact nomatch (show (none : Option _) = some _ from h)
  | succ n ih =>
    intro a1 a2 a3 m0  h
    unfold f_M_seenFrom_4 at h
    refine gk_iload_n (pc := 4) K d_M_seenFrom_4 rfl ?_
    refine gk_aload_n (pc := 5) K d_M_seenFrom_5 rfl ?_
    refine gk_get (pc := 6) K d_M_seenFrom_6 fl_M_106 tm_0 rfl rfl ?_
    refine gk_ic_ge (tgt := 82) (pc := 9) K d_M_seenFrom_9 (by decide) h (fun h => ?_) (fun h => ?_)
    · refine gk_iload_n (pc := 82) K d_M_seenFrom_82 rfl ?_
      exact gk_iret (pc := 83) K d_M_seenFrom_83 rfl h
    · refine gk_aload_n (pc := 12) K d_M_seenFrom_12 rfl ?_
      refine gk_get (pc := 13) K d_M_seenFrom_13 fl_M_22 tm_0 rfl rfl ?_
      refine gk_iload_n (pc := 16) K d_M_seenFrom_16 rfl ?_
      refine gk_iald (pc := 17) K d_M_seenFrom_17 tm_5 h (fun v1 h => ?_)
      refine gk_iload_n (pc := 18) K d_M_seenFrom_18 rfl ?_
      refine gk_ic_eq (tgt := 58) (pc := 19) K d_M_seenFrom_19 (by decide) h (fun h => ?_) (fun h => ?_)
      · exact gk_sub [0, 1, 2, 3] rfl (s_M_seenFrom_58 K (fun x0 x1 x2 m  h => ih x0 x1 x2 m  h) _ _ _ _  h)
      · refine gk_aload_n (pc := 22) K d_M_seenFrom_22 rfl ?_
        refine gk_iload_n (pc := 23) K d_M_seenFrom_23 rfl ?_
        refine gk_bipush (pc := 24) K d_M_seenFrom_24 kb_30 ?_
        refine gk_iremc2 (pc := 26) K d_M_seenFrom_26 (by decide) ?_
        refine gk_i2l (pc := 27) K d_M_seenFrom_27 ?_
        refine gk_iload_n (pc := 28) K d_M_seenFrom_28 rfl ?_
        refine gk_bipush (pc := 29) K d_M_seenFrom_29 kb_30 ?_
        refine gk_idivc2 (pc := 31) K d_M_seenFrom_31 (by decide) ?_
        refine gk_i2l (pc := 32) K d_M_seenFrom_32 ?_
        refine gk_lconst (pc := 33) K d_M_seenFrom_33 kl_1 ?_
        refine gk_iload_n (pc := 34) K d_M_seenFrom_34 rfl ?_
        obtain ⟨v3, m2, em2, h⟩ := gk_bi_some h
        refine gk_cVi (As := [.long (gk_rem a1 30).toInt64, .long (a1 / 30).toInt64, .long 1, .int a3]) (pc := 35) K d_M_seenFrom_35 mv_M_239 mc_M_isStopped rfl tm_0 cl_ok10.1 (s_M_isStopped (gk_FD K)  em2) (by decide) rfl (Nat.le_of_ble_eq_true rfl) ?_
        refine gk_if_ne (tgt := 58) (pc := 38) K d_M_seenFrom_38 (by decide) h (fun h => ?_) (fun h => ?_)
        · exact gk_sub [0, 1, 2, 3] rfl (s_M_seenFrom_58 K (fun x0 x1 x2 m  h => ih x0 x1 x2 m  h) _ _ _ _  h)
        · refine gk_aload_n (pc := 41) K d_M_seenFrom_41 rfl ?_
          refine gk_iload_n (pc := 42) K d_M_seenFrom_42 rfl ?_
          refine gk_iload_n (pc := 43) K d_M_seenFrom_43 rfl ?_
          refine gk_aload_n (pc := 44) K d_M_seenFrom_44 rfl ?_
          refine gk_get (pc := 45) K d_M_seenFrom_45 fl_M_106 tm_0 rfl rfl ?_
          obtain ⟨v5, m4, em4, h⟩ := gk_bi_some h
          refine gk_cVi (As := [.int a1, .int a3, .int (m2.1 0 6)]) (pc := 48) K d_M_seenFrom_48 mv_M_306 mc_M_isHidden rfl tm_0 cl_ok10.1 (s_M_isHidden (gk_FD K)  em4) (by decide) rfl (Nat.le_of_ble_eq_true rfl) ?_
          refine gk_if_ne (tgt := 58) (pc := 51) K d_M_seenFrom_51 (by decide) h (fun h => ?_) (fun h => ?_)
          · exact gk_sub [0, 1, 2, 3] rfl (s_M_seenFrom_58 K (fun x0 x1 x2 m  h => ih x0 x1 x2 m  h) _ _ _ _  h)
          · refine gk_iconst (pc := 54) K d_M_seenFrom_54 kc_1 ?_
            refine gk_goto (tgt := 59) (pc := 55) K d_M_seenFrom_55 (by decide) ?_
            exact gk_sub [0, 1, 2, 3] rfl (s_M_seenFrom_59 K (fun x0 x1 x2 m  h => ih x0 x1 x2 m  h) _ _ _ _ _  h)
noncomputable def f_M_seenFrom  (a1 : Int32) (m0 : gk_M) : Option (Int32 × gk_M) :=
  f_M_seenFrom_4 gk_fv a1 0 0 m0

theorem s_M_seenFrom_0 {z : gk_Z} (K : gk_F tm z me_M_seenFrom 5) {r : Int32} {mem2 : gk_M} : ∀ a1 m0, f_M_seenFrom a1 m0 = some (r, mem2) → gk_G tm z me_M_seenFrom (gk_R tm z (some (.int r)) mem2) m0 [(0, .ref 0), (1, .int a1)] [] 0 := by
  intro a1 m0  h
  unfold f_M_seenFrom at h
  refine gk_iconst (pc := 0) K d_M_seenFrom_0 kc_0 ?_
  refine gk_istore_n (lv2 := [(2, .int 0), (0, .ref 0), (1, .int a1)]) (pc := 1) K d_M_seenFrom_1 (by decide) rfl ?_
  refine gk_iconst (pc := 2) K d_M_seenFrom_2 kc_0 ?_
  refine gk_istore_n (lv2 := [(3, .int 0), (2, .int 0), (0, .ref 0), (1, .int a1)]) (pc := 3) K d_M_seenFrom_3 (by decide) rfl ?_
  exact gk_sub [2, 3, 1, 0] rfl (s_M_seenFrom_4 K _ _ _ _ _  h)
theorem s_M_seenFrom {l : Launch} {u : gk_U} (hD : gk_D tm u) {a1 : Int32} {m0 mem2 : gk_M} {r : Int32} (h : f_M_seenFrom a1 m0 = some (r, mem2)) : gk_C tm l u me_M_seenFrom 5 [.ref 0, .int a1] m0 (some (.int r)) mem2 :=
  gk_enter hD mc_M_seenFrom (Nat.le_of_ble_eq_true rfl) rfl (fun z _ _ K => s_M_seenFrom_0 K _ _  h)
theorem d_M_seen_0 : decode me_M_seen.2.1 0 = .ok (.iload_n 1, 1) := by decide +kernel
theorem d_M_seen_1 : decode me_M_seen.2.1 1 = .ok (.invokestatic 133, 3) := by decide +kernel
theorem d_M_seen_4 : decode me_M_seen.2.1 4 = .ok (.ifCond .eq 11, 3) := by decide +kernel
theorem d_M_seen_7 : decode me_M_seen.2.1 7 = .ok (.aload_n 0, 1) := by decide +kernel
theorem d_M_seen_8 : decode me_M_seen.2.1 8 = .ok (.iload_n 1, 1) := by decide +kernel
theorem d_M_seen_9 : decode me_M_seen.2.1 9 = .ok (.invokevirtual 309, 3) := by decide +kernel
theorem d_M_seen_12 : decode me_M_seen.2.1 12 = .ok (.goto 4, 3) := by decide +kernel
theorem d_M_seen_15 : decode me_M_seen.2.1 15 = .ok (.iconst (-1), 1) := by decide +kernel
theorem d_M_seen_16 : decode me_M_seen.2.1 16 = .ok (.ireturn, 1) := by decide +kernel
noncomputable def f_M_seen  (a1 : Int32) (m0 : gk_M) : Option (Int32 × gk_M) :=
  gk_bi (f_M_isPoint a1 m0) fun v2 m1 =>
  if v2 = 0 then
    some ((-1), m1)
  else
    gk_bi (f_M_seenFrom a1 m1) fun v4 m3 =>
    some (v4, m3)

theorem s_M_seen_0 {z : gk_Z} (K : gk_F tm z me_M_seen 6) {r : Int32} {mem2 : gk_M} : ∀ a1 m0, f_M_seen a1 m0 = some (r, mem2) → gk_G tm z me_M_seen (gk_R tm z (some (.int r)) mem2) m0 [(0, .ref 0), (1, .int a1)] [] 0 := by
  intro a1 m0  h
  unfold f_M_seen at h
  refine gk_iload_n (pc := 0) K d_M_seen_0 rfl ?_
  obtain ⟨v2, m1, em1, h⟩ := gk_bi_some h
  refine gk_cSi (As := [.int a1]) (pc := 1) K d_M_seen_1 ms_M_133 mc_M_isPoint rfl (s_M_isPoint (gk_FD K)  em1) (by decide) rfl (Nat.le_of_ble_eq_true rfl) ?_
  refine gk_if_eq (tgt := 15) (pc := 4) K d_M_seen_4 (by decide) h (fun h => ?_) (fun h => ?_)
  · refine gk_iconst (pc := 15) K d_M_seen_15 kc_m1 ?_
    exact gk_iret (pc := 16) K d_M_seen_16 rfl h
  · refine gk_aload_n (pc := 7) K d_M_seen_7 rfl ?_
    refine gk_iload_n (pc := 8) K d_M_seen_8 rfl ?_
    obtain ⟨v4, m3, em3, h⟩ := gk_bi_some h
    refine gk_cVi (As := [.int a1]) (pc := 9) K d_M_seen_9 mv_M_309 mc_M_seenFrom rfl tm_0 cl_ok10.1 (s_M_seenFrom (gk_FD K)  em3) (by decide) rfl (Nat.le_of_ble_eq_true rfl) ?_
    refine gk_goto (tgt := 16) (pc := 12) K d_M_seen_12 (by decide) ?_
    exact gk_iret (pc := 16) K d_M_seen_16 rfl h
theorem s_M_seen {l : Launch} {u : gk_U} (hD : gk_D tm u) {a1 : Int32} {m0 mem2 : gk_M} {r : Int32} (h : f_M_seen a1 m0 = some (r, mem2)) : gk_C tm l u me_M_seen 6 [.ref 0, .int a1] m0 (some (.int r)) mem2 :=
  gk_enter hD mc_M_seen (Nat.le_of_ble_eq_true rfl) rfl (fun z _ _ K => s_M_seen_0 K _ _  h)
theorem d_M_isCorner_0 : decode me_M_isCorner.2.1 0 = .ok (.iconst 0, 1) := by decide +kernel
theorem d_M_isCorner_1 : decode me_M_isCorner.2.1 1 = .ok (.istore_n 2, 1) := by decide +kernel
theorem d_M_isCorner_2 : decode me_M_isCorner.2.1 2 = .ok (.iload_n 2, 1) := by decide +kernel
theorem d_M_isCorner_3 : decode me_M_isCorner.2.1 3 = .ok (.aload_n 0, 1) := by decide +kernel
theorem d_M_isCorner_4 : decode me_M_isCorner.2.1 4 = .ok (.getfield 109, 3) := by decide +kernel
theorem d_M_isCorner_7 : decode me_M_isCorner.2.1 7 = .ok (.if_icmp .ge 39, 3) := by decide +kernel
theorem d_M_isCorner_10 : decode me_M_isCorner.2.1 10 = .ok (.iconst 0, 1) := by decide +kernel
theorem d_M_isCorner_11 : decode me_M_isCorner.2.1 11 = .ok (.istore_n 3, 1) := by decide +kernel
theorem d_M_isCorner_12 : decode me_M_isCorner.2.1 12 = .ok (.iload_n 3, 1) := by decide +kernel
theorem d_M_isCorner_13 : decode me_M_isCorner.2.1 13 = .ok (.aload_n 0, 1) := by decide +kernel
theorem d_M_isCorner_14 : decode me_M_isCorner.2.1 14 = .ok (.getfield 31, 3) := by decide +kernel
theorem d_M_isCorner_17 : decode me_M_isCorner.2.1 17 = .ok (.iload_n 2, 1) := by decide +kernel
theorem d_M_isCorner_18 : decode me_M_isCorner.2.1 18 = .ok (.iaload, 1) := by decide +kernel
theorem d_M_isCorner_19 : decode me_M_isCorner.2.1 19 = .ok (.if_icmp .ge 21, 3) := by decide +kernel
theorem d_M_isCorner_22 : decode me_M_isCorner.2.1 22 = .ok (.aload_n 0, 1) := by decide +kernel
theorem d_M_isCorner_23 : decode me_M_isCorner.2.1 23 = .ok (.iload_n 2, 1) := by decide +kernel
theorem d_M_isCorner_24 : decode me_M_isCorner.2.1 24 = .ok (.iload_n 3, 1) := by decide +kernel
theorem d_M_isCorner_25 : decode me_M_isCorner.2.1 25 = .ok (.invokevirtual 275, 3) := by decide +kernel
theorem d_M_isCorner_28 : decode me_M_isCorner.2.1 28 = .ok (.iload_n 1, 1) := by decide +kernel
theorem d_M_isCorner_29 : decode me_M_isCorner.2.1 29 = .ok (.if_icmp .ne 5, 3) := by decide +kernel
theorem d_M_isCorner_32 : decode me_M_isCorner.2.1 32 = .ok (.iconst 1, 1) := by decide +kernel
theorem d_M_isCorner_33 : decode me_M_isCorner.2.1 33 = .ok (.ireturn, 1) := by decide +kernel
theorem d_M_isCorner_34 : decode me_M_isCorner.2.1 34 = .ok (.iinc 3 1, 3) := by decide +kernel
theorem d_M_isCorner_37 : decode me_M_isCorner.2.1 37 = .ok (.goto (-25), 3) := by decide +kernel
theorem d_M_isCorner_40 : decode me_M_isCorner.2.1 40 = .ok (.iinc 2 1, 3) := by decide +kernel
theorem d_M_isCorner_43 : decode me_M_isCorner.2.1 43 = .ok (.goto (-41), 3) := by decide +kernel
theorem d_M_isCorner_46 : decode me_M_isCorner.2.1 46 = .ok (.iconst 0, 1) := by decide +kernel
theorem d_M_isCorner_47 : decode me_M_isCorner.2.1 47 = .ok (.ireturn, 1) := by decide +kernel
noncomputable def f_M_isCorner_12 (k2 : Int32 → Int32 → gk_M → Option (Int32 × gk_M)) : Nat → Int32 → Int32 → Int32 → gk_M → Option (Int32 × gk_M)
  | 0, _, _, _, _ => none
  | n + 1, a1, a2, a3, m0 =>
    gk_ai m0 8 4 a2 fun v1 =>
    if v1 ≤ a3 then
      k2 a1 (a2 + 1) m0
    else
      gk_bi (f_M_cornerOf a2 a3 m0) fun v3 m2 =>
      if ¬ v3 = a1 then
        f_M_isCorner_12 k2 n a1 a2 (a3 + 1) m2
      else
        some (1, m2)

theorem s_M_isCorner_12 {z : gk_Z} (K : gk_F tm z me_M_isCorner 2) {r : Int32} {mem2 : gk_M} {k2 : Int32 → Int32 → gk_M → Option (Int32 × gk_M)} (hk2 : ∀ a1 a2 m0, k2 a1 a2 m0 = some (r, mem2) → gk_G tm z me_M_isCorner (gk_R tm z (some (.int r)) mem2) m0 [(0, .ref 0), (1, .int a1), (2, .int a2)] [] 2) : ∀ n a1 a2 a3 m0, f_M_isCorner_12 k2 n a1 a2 a3 m0 = some (r, mem2) → gk_G tm z me_M_isCorner (gk_R tm z (some (.int r)) mem2) m0 [(0, .ref 0), (1, .int a1), (2, .int a2), (3, .int a3)] [] 12 := by
  intro n
  induction n with
  | zero => intro a1 a2 a3 m0  h; exact nomatch (show (none : Option _) = some _ from h)
  | succ n ih =>
    intro a1 a2 a3 m0  h
    unfold f_M_isCorner_12 at h
    refine gk_iload_n (pc := 12) K d_M_isCorner_12 rfl ?_
    refine gk_aload_n (pc := 13) K d_M_isCorner_13 rfl ?_
    refine gk_get (pc := 14) K d_M_isCorner_14 fl_M_31 tm_0 rfl rfl ?_
    refine gk_iload_n (pc := 17) K d_M_isCorner_17 rfl ?_
    refine gk_iald (pc := 18) K d_M_isCorner_18 tm_8 h (fun v1 h => ?_)
    refine gk_ic_ge (tgt := 40) (pc := 19) K d_M_isCorner_19 (by decide) h (fun h => ?_) (fun h => ?_)
    · refine gk_iinc2 (lv2 := [(2, .int (a2 + 1)), (0, .ref 0), (1, .int a1), (3, .int a3)]) (pc := 40) K d_M_isCorner_40 rfl kc_1 (by decide) rfl ?_
      refine gk_goto (tgt := 2) (pc := 43) K d_M_isCorner_43 (by decide) ?_
      exact gk_sub [1, 2, 0] rfl (hk2 _ _ _  h)
    · refine gk_aload_n (pc := 22) K d_M_isCorner_22 rfl ?_
      refine gk_iload_n (pc := 23) K d_M_isCorner_23 rfl ?_
      refine gk_iload_n (pc := 24) K d_M_isCorner_24 rfl ?_
      obtain ⟨v3, m2, em2, h⟩ := gk_bi_some h
      refine gk_cVi (As := [.int a2, .int a3]) (pc := 25) K d_M_isCorner_25 mv_M_275 mc_M_cornerOf rfl tm_0 cl_ok10.1 (s_M_cornerOf (gk_FD K)  em2) (by decide) rfl (Nat.le_of_ble_eq_true rfl) ?_
      refine gk_iload_n (pc := 28) K d_M_isCorner_28 rfl ?_
      refine gk_ic_ne (tgt := 34) (pc := 29) K d_M_isCorner_29 (by decide) h (fun h => ?_) (fun h => ?_)
      · refine gk_iinc2 (lv2 := [(3, .int (a3 + 1)), (0, .ref 0), (1, .int a1), (2, .int a2)]) (pc := 34) K d_M_isCorner_34 rfl kc_1 (by decide) rfl ?_
        refine gk_goto (tgt := 12) (pc := 37) K d_M_isCorner_37 (by decide) ?_
        exact gk_sub [1, 2, 3, 0] rfl (ih _ _ _ _  h)
      · refine gk_iconst (pc := 32) K d_M_isCorner_32 kc_1 ?_
        exact gk_zretc (pc := 33) K d_M_isCorner_33 rfl (Or.inr rfl) h
noncomputable def f_M_isCorner_2  : Nat → Int32 → Int32 → gk_M → Option (Int32 × gk_M)
  | 0, _, _, _ => none
  | n + 1, a1, a2, m0 =>
    if (m0.1 0 10) ≤ a2 then
      some (0, m0)
    else
      f_M_isCorner_12 (f_M_isCorner_2 n) gk_fv a1 a2 0 m0

theorem s_M_isCorner_2 {z : gk_Z} (K : gk_F tm z me_M_isCorner 2) {r : Int32} {mem2 : gk_M} : ∀ n a1 a2 m0, f_M_isCorner_2 n a1 a2 m0 = some (r, mem2) → gk_G tm z me_M_isCorner (gk_R tm z (some (.int r)) mem2) m0 [(0, .ref 0), (1, .int a1), (2, .int a2)] [] 2 := by
  intro n
  induction n with
  | zero => intro a1 a2 m0  h; exact nomatch (show (none : Option _) = some _ from h)
  | succ n ih =>
    intro a1 a2 m0  h
    unfold f_M_isCorner_2 at h
    refine gk_iload_n (pc := 2) K d_M_isCorner_2 rfl ?_
    refine gk_aload_n (pc := 3) K d_M_isCorner_3 rfl ?_
    refine gk_get (pc := 4) K d_M_isCorner_4 fl_M_109 tm_0 rfl rfl ?_
    refine gk_ic_ge (tgt := 46) (pc := 7) K d_M_isCorner_7 (by decide) h (fun h => ?_) (fun h => ?_)
    · refine gk_iconst (pc := 46) K d_M_isCorner_46 kc_0 ?_
      exact gk_zretc (pc := 47) K d_M_isCorner_47 rfl (Or.inl rfl) h
    · refine gk_iconst (pc := 10) K d_M_isCorner_10 kc_0 ?_
      refine gk_istore_n (lv2 := [(3, .int 0), (0, .ref 0), (1, .int a1), (2, .int a2)]) (pc := 11) K d_M_isCorner_11 (by decide) rfl ?_
      exact gk_sub [1, 2, 3, 0] rfl (s_M_isCorner_12 K (fun x0 x1 m  h => ih x0 x1 m  h) _ _ _ _ _  h)
noncomputable def f_M_isCorner  (a1 : Int32) (m0 : gk_M) : Option (Int32 × gk_M) :=
  f_M_isCorner_2 gk_fv a1 0 m0

theorem s_M_isCorner_0 {z : gk_Z} (K : gk_F tm z me_M_isCorner 2) {r : Int32} {mem2 : gk_M} : ∀ a1 m0, f_M_isCorner a1 m0 = some (r, mem2) → gk_G tm z me_M_isCorner (gk_R tm z (some (.int r)) mem2) m0 [(0, .ref 0), (1, .int a1)] [] 0 := by
  intro a1 m0  h
  unfold f_M_isCorner at h
  refine gk_iconst (pc := 0) K d_M_isCorner_0 kc_0 ?_
  refine gk_istore_n (lv2 := [(2, .int 0), (0, .ref 0), (1, .int a1)]) (pc := 1) K d_M_isCorner_1 (by decide) rfl ?_
  exact gk_sub [1, 2, 0] rfl (s_M_isCorner_2 K _ _ _ _  h)
theorem s_M_isCorner {l : Launch} {u : gk_U} (hD : gk_D tm u) {a1 : Int32} {m0 mem2 : gk_M} {r : Int32} (h : f_M_isCorner a1 m0 = some (r, mem2)) : gk_C tm l u me_M_isCorner 2 [.ref 0, .int a1] m0 (some (.int r)) mem2 :=
  gk_enter hD mc_M_isCorner (Nat.le_of_ble_eq_true rfl) rfl (fun z _ _ K => s_M_isCorner_0 K _ _  h)
theorem d_M_isFree_0 : decode me_M_isFree.2.1 0 = .ok (.aload_n 0, 1) := by decide +kernel
theorem d_M_isFree_1 : decode me_M_isFree.2.1 1 = .ok (.iload_n 1, 1) := by decide +kernel
theorem d_M_isFree_2 : decode me_M_isFree.2.1 2 = .ok (.iload_n 2, 1) := by decide +kernel
theorem d_M_isFree_3 : decode me_M_isFree.2.1 3 = .ok (.invokevirtual 116, 3) := by decide +kernel
theorem d_M_isFree_6 : decode me_M_isFree.2.1 6 = .ok (.ifCond .eq 11, 3) := by decide +kernel
theorem d_M_isFree_9 : decode me_M_isFree.2.1 9 = .ok (.aload_n 0, 1) := by decide +kernel
theorem d_M_isFree_10 : decode me_M_isFree.2.1 10 = .ok (.iload_n 1, 1) := by decide +kernel
theorem d_M_isFree_11 : decode me_M_isFree.2.1 11 = .ok (.invokevirtual 312, 3) := by decide +kernel
theorem d_M_isFree_14 : decode me_M_isFree.2.1 14 = .ok (.ifCond .eq 5, 3) := by decide +kernel
theorem d_M_isFree_17 : decode me_M_isFree.2.1 17 = .ok (.iconst 0, 1) := by decide +kernel
theorem d_M_isFree_18 : decode me_M_isFree.2.1 18 = .ok (.ireturn, 1) := by decide +kernel
theorem d_M_isFree_19 : decode me_M_isFree.2.1 19 = .ok (.aload_n 0, 1) := by decide +kernel
theorem d_M_isFree_20 : decode me_M_isFree.2.1 20 = .ok (.getfield 22, 3) := by decide +kernel
theorem d_M_isFree_23 : decode me_M_isFree.2.1 23 = .ok (.iload_n 2, 1) := by decide +kernel
theorem d_M_isFree_24 : decode me_M_isFree.2.1 24 = .ok (.iload_n 1, 1) := by decide +kernel
theorem d_M_isFree_25 : decode me_M_isFree.2.1 25 = .ok (.iastore, 1) := by decide +kernel
theorem d_M_isFree_26 : decode me_M_isFree.2.1 26 = .ok (.aload_n 0, 1) := by decide +kernel
theorem d_M_isFree_27 : decode me_M_isFree.2.1 27 = .ok (.getfield 25, 3) := by decide +kernel
theorem d_M_isFree_30 : decode me_M_isFree.2.1 30 = .ok (.iload_n 2, 1) := by decide +kernel
theorem d_M_isFree_31 : decode me_M_isFree.2.1 31 = .ok (.iload 4, 2) := by decide +kernel
theorem d_M_isFree_33 : decode me_M_isFree.2.1 33 = .ok (.iastore, 1) := by decide +kernel
theorem d_M_isFree_34 : decode me_M_isFree.2.1 34 = .ok (.aload_n 0, 1) := by decide +kernel
theorem d_M_isFree_35 : decode me_M_isFree.2.1 35 = .ok (.getfield 28, 3) := by decide +kernel
theorem d_M_isFree_38 : decode me_M_isFree.2.1 38 = .ok (.iload_n 2, 1) := by decide +kernel
theorem d_M_isFree_39 : decode me_M_isFree.2.1 39 = .ok (.iload_n 3, 1) := by decide +kernel
theorem d_M_isFree_40 : decode me_M_isFree.2.1 40 = .ok (.iastore, 1) := by decide +kernel
theorem d_M_isFree_41 : decode me_M_isFree.2.1 41 = .ok (.iconst 0, 1) := by decide +kernel
theorem d_M_isFree_42 : decode me_M_isFree.2.1 42 = .ok (.istore 5, 2) := by decide +kernel
theorem d_M_isFree_44 : decode me_M_isFree.2.1 44 = .ok (.iload 5, 2) := by decide +kernel
theorem d_M_isFree_46 : decode me_M_isFree.2.1 46 = .ok (.aload_n 0, 1) := by decide +kernel
theorem d_M_isFree_47 : decode me_M_isFree.2.1 47 = .ok (.getfield 109, 3) := by decide +kernel
theorem d_M_isFree_50 : decode me_M_isFree.2.1 50 = .ok (.if_icmp .ge 63, 3) := by decide +kernel
theorem d_M_isFree_53 : decode me_M_isFree.2.1 53 = .ok (.iconst 0, 1) := by decide +kernel
theorem d_M_isFree_54 : decode me_M_isFree.2.1 54 = .ok (.istore 6, 2) := by decide +kernel
theorem d_M_isFree_56 : decode me_M_isFree.2.1 56 = .ok (.iload 6, 2) := by decide +kernel
theorem d_M_isFree_58 : decode me_M_isFree.2.1 58 = .ok (.iconst 1, 1) := by decide +kernel
theorem d_M_isFree_59 : decode me_M_isFree.2.1 59 = .ok (.iadd, 1) := by decide +kernel
theorem d_M_isFree_60 : decode me_M_isFree.2.1 60 = .ok (.aload_n 0, 1) := by decide +kernel
theorem d_M_isFree_61 : decode me_M_isFree.2.1 61 = .ok (.getfield 31, 3) := by decide +kernel
theorem d_M_isFree_64 : decode me_M_isFree.2.1 64 = .ok (.iload 5, 2) := by decide +kernel
theorem d_M_isFree_66 : decode me_M_isFree.2.1 66 = .ok (.iaload, 1) := by decide +kernel
theorem d_M_isFree_67 : decode me_M_isFree.2.1 67 = .ok (.if_icmp .ge 40, 3) := by decide +kernel
theorem d_M_isFree_70 : decode me_M_isFree.2.1 70 = .ok (.iconst 0, 1) := by decide +kernel
theorem d_M_isFree_71 : decode me_M_isFree.2.1 71 = .ok (.istore 7, 2) := by decide +kernel
theorem d_M_isFree_73 : decode me_M_isFree.2.1 73 = .ok (.iload 7, 2) := by decide +kernel
theorem d_M_isFree_75 : decode me_M_isFree.2.1 75 = .ok (.iload_n 2, 1) := by decide +kernel
theorem d_M_isFree_76 : decode me_M_isFree.2.1 76 = .ok (.if_icmp .ge 25, 3) := by decide +kernel
theorem d_M_isFree_79 : decode me_M_isFree.2.1 79 = .ok (.aload_n 0, 1) := by decide +kernel
theorem d_M_isFree_80 : decode me_M_isFree.2.1 80 = .ok (.iload 5, 2) := by decide +kernel
theorem d_M_isFree_82 : decode me_M_isFree.2.1 82 = .ok (.iload 6, 2) := by decide +kernel
theorem d_M_isFree_84 : decode me_M_isFree.2.1 84 = .ok (.iload 7, 2) := by decide +kernel
theorem d_M_isFree_86 : decode me_M_isFree.2.1 86 = .ok (.iload_n 2, 1) := by decide +kernel
theorem d_M_isFree_87 : decode me_M_isFree.2.1 87 = .ok (.invokevirtual 284, 3) := by decide +kernel
theorem d_M_isFree_90 : decode me_M_isFree.2.1 90 = .ok (.ifCond .eq 5, 3) := by decide +kernel
theorem d_M_isFree_93 : decode me_M_isFree.2.1 93 = .ok (.iconst 0, 1) := by decide +kernel
theorem d_M_isFree_94 : decode me_M_isFree.2.1 94 = .ok (.ireturn, 1) := by decide +kernel
theorem d_M_isFree_95 : decode me_M_isFree.2.1 95 = .ok (.iinc 7 1, 3) := by decide +kernel
theorem d_M_isFree_98 : decode me_M_isFree.2.1 98 = .ok (.goto (-25), 3) := by decide +kernel
theorem d_M_isFree_101 : decode me_M_isFree.2.1 101 = .ok (.iinc 6 1, 3) := by decide +kernel
theorem d_M_isFree_104 : decode me_M_isFree.2.1 104 = .ok (.goto (-48), 3) := by decide +kernel
theorem d_M_isFree_107 : decode me_M_isFree.2.1 107 = .ok (.iinc 5 1, 3) := by decide +kernel
theorem d_M_isFree_110 : decode me_M_isFree.2.1 110 = .ok (.goto (-66), 3) := by decide +kernel
theorem d_M_isFree_113 : decode me_M_isFree.2.1 113 = .ok (.iconst 1, 1) := by decide +kernel
theorem d_M_isFree_114 : decode me_M_isFree.2.1 114 = .ok (.ireturn, 1) := by decide +kernel
noncomputable def f_M_isFree_73 (k44 : Int32 → Int32 → gk_M → Option (Int32 × gk_M)) (k56 : Int32 → Int32 → Int32 → gk_M → Option (Int32 × gk_M)) : Nat → Int32 → Int32 → Int32 → Int32 → gk_M → Option (Int32 × gk_M)
  | 0, _, _, _, _, _ => none
  | n + 1, a2, a5, a6, a7, m0 =>
    if a2 ≤ a7 then
      k56 a2 a5 (a6 + 1) m0
    else
      gk_bi (f_M_isGuiltyOn a5 a6 a7 a2 m0) fun v2 m1 =>
      if v2 = 0 then
        f_M_isFree_73 k44 k56 n a2 a5 a6 (a7 + 1) m1
      else
        some (0, m1)

theorem s_M_isFree_73 {z : gk_Z} (K : gk_F tm z me_M_isFree 71) {r : Int32} {mem2 : gk_M} {k44 : Int32 → Int32 → gk_M → Option (Int32 × gk_M)} (hk44 : ∀ a2 a5 m0, k44 a2 a5 m0 = some (r, mem2) → gk_G tm z me_M_isFree (gk_R tm z (some (.int r)) mem2) m0 [(0, .ref 0), (2, .int a2), (5, .int a5)] [] 44) {k56 : Int32 → Int32 → Int32 → gk_M → Option (Int32 × gk_M)} (hk56 : ∀ a2 a5 a6 m0, k56 a2 a5 a6 m0 = some (r, mem2) → gk_G tm z me_M_isFree (gk_R tm z (some (.int r)) mem2) m0 [(0, .ref 0), (2, .int a2), (5, .int a5), (6, .int a6)] [] 56) : ∀ n a2 a5 a6 a7 m0, f_M_isFree_73 k44 k56 n a2 a5 a6 a7 m0 = some (r, mem2) → gk_G tm z me_M_isFree (gk_R tm z (some (.int r)) mem2) m0 [(0, .ref 0), (2, .int a2), (5, .int a5), (6, .int a6), (7, .int a7)] [] 73 := by
  intro n
  induction n with
  | zero => intro a2 a5 a6 a7 m0  h; exact nomatch (show (none : Option _) = some _ from h)
  | succ n ih =>
    intro a2 a5 a6 a7 m0  h
    unfold f_M_isFree_73 at h
    refine gk_iload (pc := 73) K d_M_isFree_73 rfl ?_
    refine gk_iload_n (pc := 75) K d_M_isFree_75 rfl ?_
    refine gk_ic_ge (tgt := 101) (pc := 76) K d_M_isFree_76 (by decide) h (fun h => ?_) (fun h => ?_)
    · refine gk_iinc2 (lv2 := [(6, .int (a6 + 1)), (0, .ref 0), (2, .int a2), (5, .int a5), (7, .int a7)]) (pc := 101) K d_M_isFree_101 rfl kc_1 (by decide) rfl ?_
      refine gk_goto (tgt := 56) (pc := 104) K d_M_isFree_104 (by decide) ?_
      exact gk_sub [1, 2, 3, 0] rfl (hk56 _ _ _ _  h)
    · refine gk_aload_n (pc := 79) K d_M_isFree_79 rfl ?_
      refine gk_iload (pc := 80) K d_M_isFree_80 rfl ?_
      refine gk_iload (pc := 82) K d_M_isFree_82 rfl ?_
      refine gk_iload (pc := 84) K d_M_isFree_84 rfl ?_
      refine gk_iload_n (pc := 86) K d_M_isFree_86 rfl ?_
      obtain ⟨v2, m1, em1, h⟩ := gk_bi_some h
      refine gk_cVi (As := [.int a5, .int a6, .int a7, .int a2]) (pc := 87) K d_M_isFree_87 mv_M_284 mc_M_isGuiltyOn rfl tm_0 cl_ok10.1 (s_M_isGuiltyOn (gk_FD K)  em1) (by decide) rfl (Nat.le_of_ble_eq_true rfl) ?_
      refine gk_if_eq (tgt := 95) (pc := 90) K d_M_isFree_90 (by decide) h (fun h => ?_) (fun h => ?_)
      · refine gk_iinc2 (lv2 := [(7, .int (a7 + 1)), (0, .ref 0), (2, .int a2), (5, .int a5), (6, .int a6)]) (pc := 95) K d_M_isFree_95 rfl kc_1 (by decide) rfl ?_
        refine gk_goto (tgt := 73) (pc := 98) K d_M_isFree_98 (by decide) ?_
        exact gk_sub [1, 2, 3, 4, 0] rfl (ih _ _ _ _ _  h)
      · refine gk_iconst (pc := 93) K d_M_isFree_93 kc_0 ?_
        exact gk_zretc (pc := 94) K d_M_isFree_94 rfl (Or.inl rfl) h
noncomputable def f_M_isFree_56 (k44 : Int32 → Int32 → gk_M → Option (Int32 × gk_M)) : Nat → Int32 → Int32 → Int32 → gk_M → Option (Int32 × gk_M)
  | 0, _, _, _, _ => none
  | n + 1, a2, a5, a6, m0 =>
    gk_ai m0 8 4 a5 fun v1 =>
    if v1 ≤ (a6 + 1) then
      k44 a2 (a5 + 1) m0
    else
      f_M_isFree_73 k44 (f_M_isFree_56 k44 n) gk_fv a2 a5 a6 0 m0

theorem s_M_isFree_56 {z : gk_Z} (K : gk_F tm z me_M_isFree 71) {r : Int32} {mem2 : gk_M} {k44 : Int32 → Int32 → gk_M → Option (Int32 × gk_M)} (hk44 : ∀ a2 a5 m0, k44 a2 a5 m0 = some (r, mem2) → gk_G tm z me_M_isFree (gk_R tm z (some (.int r)) mem2) m0 [(0, .ref 0), (2, .int a2), (5, .int a5)] [] 44) : ∀ n a2 a5 a6 m0, f_M_isFree_56 k44 n a2 a5 a6 m0 = some (r, mem2) → gk_G tm z me_M_isFree (gk_R tm z (some (.int r)) mem2) m0 [(0, .ref 0), (2, .int a2), (5, .int a5), (6, .int a6)] [] 56 := by
  intro n
  induction n with
  | zero => intro a2 a5 a6 m0  h; exact nomatch (show (none : Option _) = some _ from h)
  | succ n ih =>
    intro a2 a5 a6 m0  h
    unfold f_M_isFree_56 at h
    refine gk_iload (pc := 56) K d_M_isFree_56 rfl ?_
    refine gk_iconst (pc := 58) K d_M_isFree_58 kc_1 ?_
    refine gk_iadd (pc := 59) K d_M_isFree_59 ?_
    refine gk_aload_n (pc := 60) K d_M_isFree_60 rfl ?_
    refine gk_get (pc := 61) K d_M_isFree_61 fl_M_31 tm_0 rfl rfl ?_
    refine gk_iload (pc := 64) K d_M_isFree_64 rfl ?_
    refine gk_iald (pc := 66) K d_M_isFree_66 tm_8 h (fun v1 h => ?_)
    refine gk_ic_ge (tgt := 107) (pc := 67) K d_M_isFree_67 (by decide) h (fun h => ?_) (fun h => ?_)
    · refine gk_iinc2 (lv2 := [(5, .int (a5 + 1)), (0, .ref 0), (2, .int a2), (6, .int a6)]) (pc := 107) K d_M_isFree_107 rfl kc_1 (by decide) rfl ?_
      refine gk_goto (tgt := 44) (pc := 110) K d_M_isFree_110 (by decide) ?_
      exact gk_sub [1, 2, 0] rfl (hk44 _ _ _  h)
    · refine gk_iconst (pc := 70) K d_M_isFree_70 kc_0 ?_
      refine gk_istore (lv2 := [(7, .int 0), (0, .ref 0), (2, .int a2), (5, .int a5), (6, .int a6)]) (pc := 71) K d_M_isFree_71 (by decide) rfl ?_
      exact gk_sub [1, 2, 3, 4, 0] rfl (s_M_isFree_73 K hk44 (fun x0 x1 x2 m  h => ih x0 x1 x2 m  h) _ _ _ _ _ _  h)
noncomputable def f_M_isFree_44  : Nat → Int32 → Int32 → gk_M → Option (Int32 × gk_M)
  | 0, _, _, _ => none
  | n + 1, a2, a5, m0 =>
    if (m0.1 0 10) ≤ a5 then
      some (1, m0)
    else
      f_M_isFree_56 (f_M_isFree_44 n) gk_fv a2 a5 0 m0

theorem s_M_isFree_44 {z : gk_Z} (K : gk_F tm z me_M_isFree 71) {r : Int32} {mem2 : gk_M} : ∀ n a2 a5 m0, f_M_isFree_44 n a2 a5 m0 = some (r, mem2) → gk_G tm z me_M_isFree (gk_R tm z (some (.int r)) mem2) m0 [(0, .ref 0), (2, .int a2), (5, .int a5)] [] 44 := by
  intro n
  induction n with
  | zero => intro a2 a5 m0  h; exact nomatch (show (none : Option _) = some _ from h)
  | succ n ih =>
    intro a2 a5 m0  h
    unfold f_M_isFree_44 at h
    refine gk_iload (pc := 44) K d_M_isFree_44 rfl ?_
    refine gk_aload_n (pc := 46) K d_M_isFree_46 rfl ?_
    refine gk_get (pc := 47) K d_M_isFree_47 fl_M_109 tm_0 rfl rfl ?_
    refine gk_ic_ge (tgt := 113) (pc := 50) K d_M_isFree_50 (by decide) h (fun h => ?_) (fun h => ?_)
    · refine gk_iconst (pc := 113) K d_M_isFree_113 kc_1 ?_
      exact gk_zretc (pc := 114) K d_M_isFree_114 rfl (Or.inr rfl) h
    · refine gk_iconst (pc := 53) K d_M_isFree_53 kc_0 ?_
      refine gk_istore (lv2 := [(6, .int 0), (0, .ref 0), (2, .int a2), (5, .int a5)]) (pc := 54) K d_M_isFree_54 (by decide) rfl ?_
      exact gk_sub [1, 2, 3, 0] rfl (s_M_isFree_56 K (fun x0 x1 m  h => ih x0 x1 m  h) _ _ _ _ _  h)
noncomputable def f_M_isFree  (a1 : Int32) (a2 : Int32) (a3 : Int32) (a4 : Int32) (m0 : gk_M) : Option (Int32 × gk_M) :=
  gk_bi (f_M_isFreeOf a1 a2 m0) fun v2 m1 =>
  if v2 = 0 then
    some (0, m1)
  else
    gk_bi (f_M_isCorner a1 m1) fun v4 m3 =>
    if v4 = 0 then
      gk_si m3 5 20 a2 a1 fun m5 =>
      gk_si m5 6 20 a2 a4 fun m6 =>
      gk_si m6 7 20 a2 a3 fun m7 =>
      f_M_isFree_44 gk_fv a2 0 m7
    else
      some (0, m3)

theorem s_M_isFree_0 {z : gk_Z} (K : gk_F tm z me_M_isFree 71) {r : Int32} {mem2 : gk_M} : ∀ a1 a2 a3 a4 m0, f_M_isFree a1 a2 a3 a4 m0 = some (r, mem2) → gk_G tm z me_M_isFree (gk_R tm z (some (.int r)) mem2) m0 [(0, .ref 0), (1, .int a1), (2, .int a2), (3, .int a3), (4, .int a4)] [] 0 := by
  intro a1 a2 a3 a4 m0  h
  unfold f_M_isFree at h
  refine gk_aload_n (pc := 0) K d_M_isFree_0 rfl ?_
  refine gk_iload_n (pc := 1) K d_M_isFree_1 rfl ?_
  refine gk_iload_n (pc := 2) K d_M_isFree_2 rfl ?_
  obtain ⟨v2, m1, em1, h⟩ := gk_bi_some h
  refine gk_cVi (As := [.int a1, .int a2]) (pc := 3) K d_M_isFree_3 mv_M_116 mc_M_isFreeOf rfl tm_0 cl_ok10.1 (s_M_isFreeOf (gk_FD K)  em1) (by decide) rfl (Nat.le_of_ble_eq_true rfl) ?_
  refine gk_if_eq (tgt := 17) (pc := 6) K d_M_isFree_6 (by decide) h (fun h => ?_) (fun h => ?_)
  · refine gk_iconst (pc := 17) K d_M_isFree_17 kc_0 ?_
    exact gk_zretc (pc := 18) K d_M_isFree_18 rfl (Or.inl rfl) h
  · refine gk_aload_n (pc := 9) K d_M_isFree_9 rfl ?_
    refine gk_iload_n (pc := 10) K d_M_isFree_10 rfl ?_
    obtain ⟨v4, m3, em3, h⟩ := gk_bi_some h
    refine gk_cVi (As := [.int a1]) (pc := 11) K d_M_isFree_11 mv_M_312 mc_M_isCorner rfl tm_0 cl_ok10.1 (s_M_isCorner (gk_FD K)  em3) (by decide) rfl (Nat.le_of_ble_eq_true rfl) ?_
    refine gk_if_eq (tgt := 19) (pc := 14) K d_M_isFree_14 (by decide) h (fun h => ?_) (fun h => ?_)
    · refine gk_aload_n (pc := 19) K d_M_isFree_19 rfl ?_
      refine gk_get (pc := 20) K d_M_isFree_20 fl_M_22 tm_0 rfl rfl ?_
      refine gk_iload_n (pc := 23) K d_M_isFree_23 rfl ?_
      refine gk_iload_n (pc := 24) K d_M_isFree_24 rfl ?_
      refine gk_iast (pc := 25) K d_M_isFree_25 tm_5 h (fun m5 h => ?_)
      refine gk_aload_n (pc := 26) K d_M_isFree_26 rfl ?_
      refine gk_get (pc := 27) K d_M_isFree_27 fl_M_25 tm_0 rfl rfl ?_
      refine gk_iload_n (pc := 30) K d_M_isFree_30 rfl ?_
      refine gk_iload (pc := 31) K d_M_isFree_31 rfl ?_
      refine gk_iast (pc := 33) K d_M_isFree_33 tm_6 h (fun m6 h => ?_)
      refine gk_aload_n (pc := 34) K d_M_isFree_34 rfl ?_
      refine gk_get (pc := 35) K d_M_isFree_35 fl_M_28 tm_0 rfl rfl ?_
      refine gk_iload_n (pc := 38) K d_M_isFree_38 rfl ?_
      refine gk_iload_n (pc := 39) K d_M_isFree_39 rfl ?_
      refine gk_iast (pc := 40) K d_M_isFree_40 tm_7 h (fun m7 h => ?_)
      refine gk_iconst (pc := 41) K d_M_isFree_41 kc_0 ?_
      refine gk_istore (lv2 := [(5, .int 0), (0, .ref 0), (1, .int a1), (2, .int a2), (3, .int a3), (4, .int a4)]) (pc := 42) K d_M_isFree_42 (by decide) rfl ?_
      exact gk_sub [1, 3, 0] rfl (s_M_isFree_44 K _ _ _ _  h)
    · refine gk_iconst (pc := 17) K d_M_isFree_17 kc_0 ?_
      exact gk_zretc (pc := 18) K d_M_isFree_18 rfl (Or.inl rfl) h
theorem s_M_isFree {l : Launch} {u : gk_U} (hD : gk_D tm u) {a1 : Int32} {a2 : Int32} {a3 : Int32} {a4 : Int32} {m0 mem2 : gk_M} {r : Int32} (h : f_M_isFree a1 a2 a3 a4 m0 = some (r, mem2)) : gk_C tm l u me_M_isFree 71 [.ref 0, .int a1, .int a2, .int a3, .int a4] m0 (some (.int r)) mem2 :=
  gk_enter hD mc_M_isFree (Nat.le_of_ble_eq_true rfl) rfl (fun z _ _ K => s_M_isFree_0 K _ _ _ _ _  h)
theorem d_M_free_0 : decode me_M_free.2.1 0 = .ok (.iload_n 1, 1) := by decide +kernel
theorem d_M_free_1 : decode me_M_free.2.1 1 = .ok (.i2l, 1) := by decide +kernel
theorem d_M_free_2 : decode me_M_free.2.1 2 = .ok (.lconst 0, 1) := by decide +kernel
theorem d_M_free_3 : decode me_M_free.2.1 3 = .ok (.ldc2_w 315, 3) := by decide +kernel
theorem d_M_free_6 : decode me_M_free.2.1 6 = .ok (.invokestatic 102, 3) := by decide +kernel
theorem d_M_free_9 : decode me_M_free.2.1 9 = .ok (.ifCond .eq 25, 3) := by decide +kernel
theorem d_M_free_12 : decode me_M_free.2.1 12 = .ok (.iload_n 2, 1) := by decide +kernel
theorem d_M_free_13 : decode me_M_free.2.1 13 = .ok (.i2l, 1) := by decide +kernel
theorem d_M_free_14 : decode me_M_free.2.1 14 = .ok (.lconst 0, 1) := by decide +kernel
theorem d_M_free_15 : decode me_M_free.2.1 15 = .ok (.ldc2_w 112, 3) := by decide +kernel
theorem d_M_free_18 : decode me_M_free.2.1 18 = .ok (.invokestatic 102, 3) := by decide +kernel
theorem d_M_free_21 : decode me_M_free.2.1 21 = .ok (.ifCond .eq 13, 3) := by decide +kernel
theorem d_M_free_24 : decode me_M_free.2.1 24 = .ok (.iload_n 3, 1) := by decide +kernel
theorem d_M_free_25 : decode me_M_free.2.1 25 = .ok (.i2l, 1) := by decide +kernel
theorem d_M_free_26 : decode me_M_free.2.1 26 = .ok (.lconst 0, 1) := by decide +kernel
theorem d_M_free_27 : decode me_M_free.2.1 27 = .ok (.lconst 1, 1) := by decide +kernel
theorem d_M_free_28 : decode me_M_free.2.1 28 = .ok (.invokestatic 102, 3) := by decide +kernel
theorem d_M_free_31 : decode me_M_free.2.1 31 = .ok (.ifCond .ne 5, 3) := by decide +kernel
theorem d_M_free_34 : decode me_M_free.2.1 34 = .ok (.iconst (-1), 1) := by decide +kernel
theorem d_M_free_35 : decode me_M_free.2.1 35 = .ok (.ireturn, 1) := by decide +kernel
theorem d_M_free_36 : decode me_M_free.2.1 36 = .ok (.aload_n 0, 1) := by decide +kernel
theorem d_M_free_37 : decode me_M_free.2.1 37 = .ok (.getfield 106, 3) := by decide +kernel
theorem d_M_free_40 : decode me_M_free.2.1 40 = .ok (.bipush 10, 2) := by decide +kernel
theorem d_M_free_42 : decode me_M_free.2.1 42 = .ok (.if_icmp .ne 6, 3) := by decide +kernel
theorem d_M_free_45 : decode me_M_free.2.1 45 = .ok (.bipush (-5), 2) := by decide +kernel
theorem d_M_free_47 : decode me_M_free.2.1 47 = .ok (.ireturn, 1) := by decide +kernel
theorem d_M_free_48 : decode me_M_free.2.1 48 = .ok (.iconst 0, 1) := by decide +kernel
theorem d_M_free_49 : decode me_M_free.2.1 49 = .ok (.istore 4, 2) := by decide +kernel
theorem d_M_free_51 : decode me_M_free.2.1 51 = .ok (.bipush (-2), 2) := by decide +kernel
theorem d_M_free_53 : decode me_M_free.2.1 53 = .ok (.istore 5, 2) := by decide +kernel
theorem d_M_free_55 : decode me_M_free.2.1 55 = .ok (.bipush 29, 2) := by decide +kernel
theorem d_M_free_57 : decode me_M_free.2.1 57 = .ok (.istore 6, 2) := by decide +kernel
theorem d_M_free_59 : decode me_M_free.2.1 59 = .ok (.iload 6, 2) := by decide +kernel
theorem d_M_free_61 : decode me_M_free.2.1 61 = .ok (.ifCond .lt 39, 3) := by decide +kernel
theorem d_M_free_64 : decode me_M_free.2.1 64 = .ok (.aload_n 0, 1) := by decide +kernel
theorem d_M_free_65 : decode me_M_free.2.1 65 = .ok (.bipush 30, 2) := by decide +kernel
theorem d_M_free_67 : decode me_M_free.2.1 67 = .ok (.iload_n 1, 1) := by decide +kernel
theorem d_M_free_68 : decode me_M_free.2.1 68 = .ok (.imul, 1) := by decide +kernel
theorem d_M_free_69 : decode me_M_free.2.1 69 = .ok (.iload 6, 2) := by decide +kernel
theorem d_M_free_71 : decode me_M_free.2.1 71 = .ok (.iadd, 1) := by decide +kernel
theorem d_M_free_72 : decode me_M_free.2.1 72 = .ok (.aload_n 0, 1) := by decide +kernel
theorem d_M_free_73 : decode me_M_free.2.1 73 = .ok (.getfield 106, 3) := by decide +kernel
theorem d_M_free_76 : decode me_M_free.2.1 76 = .ok (.iload_n 2, 1) := by decide +kernel
theorem d_M_free_77 : decode me_M_free.2.1 77 = .ok (.aload_n 0, 1) := by decide +kernel
theorem d_M_free_78 : decode me_M_free.2.1 78 = .ok (.getfield 106, 3) := by decide +kernel
theorem d_M_free_81 : decode me_M_free.2.1 81 = .ok (.invokevirtual 317, 3) := by decide +kernel
theorem d_M_free_84 : decode me_M_free.2.1 84 = .ok (.ifCond .eq 10, 3) := by decide +kernel
theorem d_M_free_87 : decode me_M_free.2.1 87 = .ok (.iinc 4 1, 3) := by decide +kernel
theorem d_M_free_90 : decode me_M_free.2.1 90 = .ok (.iload 6, 2) := by decide +kernel
theorem d_M_free_92 : decode me_M_free.2.1 92 = .ok (.istore 5, 2) := by decide +kernel
theorem d_M_free_94 : decode me_M_free.2.1 94 = .ok (.iinc 6 (-1), 3) := by decide +kernel
theorem d_M_free_97 : decode me_M_free.2.1 97 = .ok (.goto (-38), 3) := by decide +kernel
theorem d_M_free_100 : decode me_M_free.2.1 100 = .ok (.iload_n 3, 1) := by decide +kernel
theorem d_M_free_101 : decode me_M_free.2.1 101 = .ok (.ifCond .ne 8, 3) := by decide +kernel
theorem d_M_free_104 : decode me_M_free.2.1 104 = .ok (.iload 4, 2) := by decide +kernel
theorem d_M_free_106 : decode me_M_free.2.1 106 = .ok (.goto 5, 3) := by decide +kernel
theorem d_M_free_109 : decode me_M_free.2.1 109 = .ok (.iload 5, 2) := by decide +kernel
theorem d_M_free_111 : decode me_M_free.2.1 111 = .ok (.ireturn, 1) := by decide +kernel
noncomputable def f_M_free_59  : Nat → Int32 → Int32 → Int32 → Int32 → Int32 → Int32 → gk_M → Option (Int32 × gk_M)
  | 0, _, _, _, _, _, _, _ => none
  | n + 1, a1, a2, a3, a4, a5, a6, m0 =>
    if a6 < 0 then
      if ¬ a3 = 0 then
        some (a5, m0)
      else
        some (a4, m0)
    else
      gk_bi (f_M_isFree ((30 * a1) + a6) (m0.1 0 6) a2 (m0.1 0 6) m0) fun v2 m1 =>
      if v2 = 0 then
        f_M_free_59 n a1 a2 a3 a4 a5 (a6 + (-1)) m1
      else
        f_M_free_59 n a1 a2 a3 (a4 + 1) a6 (a6 + (-1)) m1

theorem s_M_free_59 {z : gk_Z} (K : gk_F tm z me_M_free 72) {r : Int32} {mem2 : gk_M} : ∀ n a1 a2 a3 a4 a5 a6 m0, f_M_free_59 n a1 a2 a3 a4 a5 a6 m0 = some (r, mem2) → gk_G tm z me_M_free (gk_R tm z (some (.int r)) mem2) m0 [(0, .ref 0), (1, .int a1), (2, .int a2), (3, .int a3), (4, .int a4), (5, .int a5), (6, .int a6)] [] 59 := by
  intro n
  induction n with
  | zero => intro a1 a2 a3 a4 a5 a6 m0  h; exact nomatch (show (none : Option _) = some _ from h)
  | succ n ih =>
    intro a1 a2 a3 a4 a5 a6 m0  h
    unfold f_M_free_59 at h
    refine gk_iload (pc := 59) K d_M_free_59 rfl ?_
    refine gk_if_lt (tgt := 100) (pc := 61) K d_M_free_61 (by decide) h (fun h => ?_) (fun h => ?_)
    · refine gk_iload_n (pc := 100) K d_M_free_100 rfl ?_
      refine gk_if_ne (tgt := 109) (pc := 101) K d_M_free_101 (by decide) h (fun h => ?_) (fun h => ?_)
      · refine gk_iload (pc := 109) K d_M_free_109 rfl ?_
        exact gk_iret (pc := 111) K d_M_free_111 rfl h
      · refine gk_iload (pc := 104) K d_M_free_104 rfl ?_
        refine gk_goto (tgt := 111) (pc := 106) K d_M_free_106 (by decide) ?_
        exact gk_iret (pc := 111) K d_M_free_111 rfl h
    · refine gk_aload_n (pc := 64) K d_M_free_64 rfl ?_
      refine gk_bipush (pc := 65) K d_M_free_65 kb_30 ?_
      refine gk_iload_n (pc := 67) K d_M_free_67 rfl ?_
      refine gk_imul (pc := 68) K d_M_free_68 ?_
      refine gk_iload (pc := 69) K d_M_free_69 rfl ?_
      refine gk_iadd (pc := 71) K d_M_free_71 ?_
      refine gk_aload_n (pc := 72) K d_M_free_72 rfl ?_
      refine gk_get (pc := 73) K d_M_free_73 fl_M_106 tm_0 rfl rfl ?_
      refine gk_iload_n (pc := 76) K d_M_free_76 rfl ?_
      refine gk_aload_n (pc := 77) K d_M_free_77 rfl ?_
      refine gk_get (pc := 78) K d_M_free_78 fl_M_106 tm_0 rfl rfl ?_
      obtain ⟨v2, m1, em1, h⟩ := gk_bi_some h
      refine gk_cVi (As := [.int ((30 * a1) + a6), .int (m0.1 0 6), .int a2, .int (m0.1 0 6)]) (pc := 81) K d_M_free_81 mv_M_317 mc_M_isFree rfl tm_0 cl_ok10.1 (s_M_isFree (gk_FD K)  em1) (by decide) rfl (Nat.le_of_ble_eq_true rfl) ?_
      refine gk_if_eq (tgt := 94) (pc := 84) K d_M_free_84 (by decide) h (fun h => ?_) (fun h => ?_)
      · refine gk_iinc2 (lv2 := [(6, .int (a6 + (-1))), (0, .ref 0), (1, .int a1), (2, .int a2), (3, .int a3), (4, .int a4), (5, .int a5)]) (pc := 94) K d_M_free_94 rfl kc_m1 (by decide) rfl ?_
        refine gk_goto (tgt := 59) (pc := 97) K d_M_free_97 (by decide) ?_
        exact gk_sub [1, 2, 3, 4, 5, 6, 0] rfl (ih _ _ _ _ _ _ _  h)
      · refine gk_iinc2 (lv2 := [(4, .int (a4 + 1)), (0, .ref 0), (1, .int a1), (2, .int a2), (3, .int a3), (5, .int a5), (6, .int a6)]) (pc := 87) K d_M_free_87 rfl kc_1 (by decide) rfl ?_
        refine gk_iload (pc := 90) K d_M_free_90 rfl ?_
        refine gk_istore (lv2 := [(5, .int a6), (4, .int (a4 + 1)), (0, .ref 0), (1, .int a1), (2, .int a2), (3, .int a3), (6, .int a6)]) (pc := 92) K d_M_free_92 (by decide) rfl ?_
        refine gk_iinc2 (lv2 := [(6, .int (a6 + (-1))), (5, .int a6), (4, .int (a4 + 1)), (0, .ref 0), (1, .int a1), (2, .int a2), (3, .int a3)]) (pc := 94) K d_M_free_94 rfl kc_m1 (by decide) rfl ?_
        refine gk_goto (tgt := 59) (pc := 97) K d_M_free_97 (by decide) ?_
        exact gk_sub [3, 4, 5, 6, 2, 1, 0] rfl (ih _ _ _ _ _ _ _  h)
noncomputable def f_M_free  (a1 : Int32) (a2 : Int32) (a3 : Int32) (m0 : gk_M) : Option (Int32 × gk_M) :=
  gk_bi (f_M_within a1.toInt64 0 29 m0) fun v2 m1 =>
  if v2 = 0 then
    some ((-1), m1)
  else
    gk_bi (f_M_within a2.toInt64 0 9 m1) fun v4 m3 =>
    if v4 = 0 then
      some ((-1), m3)
    else
      gk_bi (f_M_within a3.toInt64 0 1 m3) fun v6 m5 =>
      if ¬ v6 = 0 then
        if ¬ (m5.1 0 6) = 10 then
          f_M_free_59 gk_fv a1 a2 a3 0 (-2) 29 m5
        else
          some ((-5), m5)
      else
        some ((-1), m5)

theorem s_M_free_0 {z : gk_Z} (K : gk_F tm z me_M_free 72) {r : Int32} {mem2 : gk_M} : ∀ a1 a2 a3 m0, f_M_free a1 a2 a3 m0 = some (r, mem2) → gk_G tm z me_M_free (gk_R tm z (some (.int r)) mem2) m0 [(0, .ref 0), (1, .int a1), (2, .int a2), (3, .int a3)] [] 0 := by
  intro a1 a2 a3 m0  h
  unfold f_M_free at h
  refine gk_iload_n (pc := 0) K d_M_free_0 rfl ?_
  refine gk_i2l (pc := 1) K d_M_free_1 ?_
  refine gk_lconst (pc := 2) K d_M_free_2 kl_0 ?_
  refine gk_ldc2 (pc := 3) K d_M_free_3 lc_M_315 ?_
  obtain ⟨v2, m1, em1, h⟩ := gk_bi_some h
  refine gk_cSi (As := [.long a1.toInt64, .long 0, .long 29]) (pc := 6) K d_M_free_6 ms_M_102 mc_M_within rfl (s_M_within (gk_FD K)  em1) (by decide) rfl (Nat.le_of_ble_eq_true rfl) ?_
  refine gk_if_eq (tgt := 34) (pc := 9) K d_M_free_9 (by decide) h (fun h => ?_) (fun h => ?_)
  · refine gk_iconst (pc := 34) K d_M_free_34 kc_m1 ?_
    exact gk_iret (pc := 35) K d_M_free_35 rfl h
  · refine gk_iload_n (pc := 12) K d_M_free_12 rfl ?_
    refine gk_i2l (pc := 13) K d_M_free_13 ?_
    refine gk_lconst (pc := 14) K d_M_free_14 kl_0 ?_
    refine gk_ldc2 (pc := 15) K d_M_free_15 lc_M_112 ?_
    obtain ⟨v4, m3, em3, h⟩ := gk_bi_some h
    refine gk_cSi (As := [.long a2.toInt64, .long 0, .long 9]) (pc := 18) K d_M_free_18 ms_M_102 mc_M_within rfl (s_M_within (gk_FD K)  em3) (by decide) rfl (Nat.le_of_ble_eq_true rfl) ?_
    refine gk_if_eq (tgt := 34) (pc := 21) K d_M_free_21 (by decide) h (fun h => ?_) (fun h => ?_)
    · refine gk_iconst (pc := 34) K d_M_free_34 kc_m1 ?_
      exact gk_iret (pc := 35) K d_M_free_35 rfl h
    · refine gk_iload_n (pc := 24) K d_M_free_24 rfl ?_
      refine gk_i2l (pc := 25) K d_M_free_25 ?_
      refine gk_lconst (pc := 26) K d_M_free_26 kl_0 ?_
      refine gk_lconst (pc := 27) K d_M_free_27 kl_1 ?_
      obtain ⟨v6, m5, em5, h⟩ := gk_bi_some h
      refine gk_cSi (As := [.long a3.toInt64, .long 0, .long 1]) (pc := 28) K d_M_free_28 ms_M_102 mc_M_within rfl (s_M_within (gk_FD K)  em5) (by decide) rfl (Nat.le_of_ble_eq_true rfl) ?_
      refine gk_if_ne (tgt := 36) (pc := 31) K d_M_free_31 (by decide) h (fun h => ?_) (fun h => ?_)
      · refine gk_aload_n (pc := 36) K d_M_free_36 rfl ?_
        refine gk_get (pc := 37) K d_M_free_37 fl_M_106 tm_0 rfl rfl ?_
        refine gk_bipush (pc := 40) K d_M_free_40 kb_10 ?_
        refine gk_ic_ne (tgt := 48) (pc := 42) K d_M_free_42 (by decide) h (fun h => ?_) (fun h => ?_)
        · refine gk_iconst (pc := 48) K d_M_free_48 kc_0 ?_
          refine gk_istore (lv2 := [(4, .int 0), (0, .ref 0), (1, .int a1), (2, .int a2), (3, .int a3)]) (pc := 49) K d_M_free_49 (by decide) rfl ?_
          refine gk_bipush (pc := 51) K d_M_free_51 kb_m2 ?_
          refine gk_istore (lv2 := [(5, .int (-2)), (4, .int 0), (0, .ref 0), (1, .int a1), (2, .int a2), (3, .int a3)]) (pc := 53) K d_M_free_53 (by decide) rfl ?_
          refine gk_bipush (pc := 55) K d_M_free_55 kb_29 ?_
          refine gk_istore (lv2 := [(6, .int 29), (5, .int (-2)), (4, .int 0), (0, .ref 0), (1, .int a1), (2, .int a2), (3, .int a3)]) (pc := 57) K d_M_free_57 (by decide) rfl ?_
          exact gk_sub [3, 4, 5, 6, 2, 1, 0] rfl (s_M_free_59 K _ _ _ _ _ _ _ _  h)
        · refine gk_bipush (pc := 45) K d_M_free_45 kb_m5 ?_
          exact gk_iret (pc := 47) K d_M_free_47 rfl h
      · refine gk_iconst (pc := 34) K d_M_free_34 kc_m1 ?_
        exact gk_iret (pc := 35) K d_M_free_35 rfl h
theorem s_M_free {l : Launch} {u : gk_U} (hD : gk_D tm u) {a1 : Int32} {a2 : Int32} {a3 : Int32} {m0 mem2 : gk_M} {r : Int32} (h : f_M_free a1 a2 a3 m0 = some (r, mem2)) : gk_C tm l u me_M_free 72 [.ref 0, .int a1, .int a2, .int a3] m0 (some (.int r)) mem2 :=
  gk_enter hD mc_M_free (Nat.le_of_ble_eq_true rfl) rfl (fun z _ _ K => s_M_free_0 K _ _ _ _  h)
theorem d_M_firstFree_0 : decode me_M_firstFree.2.1 0 = .ok (.iconst 0, 1) := by decide +kernel
theorem d_M_firstFree_1 : decode me_M_firstFree.2.1 1 = .ok (.istore_n 3, 1) := by decide +kernel
theorem d_M_firstFree_2 : decode me_M_firstFree.2.1 2 = .ok (.iload_n 3, 1) := by decide +kernel
theorem d_M_firstFree_3 : decode me_M_firstFree.2.1 3 = .ok (.sipush 900, 3) := by decide +kernel
theorem d_M_firstFree_6 : decode me_M_firstFree.2.1 6 = .ok (.if_icmp .ge 22, 3) := by decide +kernel
theorem d_M_firstFree_9 : decode me_M_firstFree.2.1 9 = .ok (.aload_n 0, 1) := by decide +kernel
theorem d_M_firstFree_10 : decode me_M_firstFree.2.1 10 = .ok (.iload_n 3, 1) := by decide +kernel
theorem d_M_firstFree_11 : decode me_M_firstFree.2.1 11 = .ok (.iload_n 1, 1) := by decide +kernel
theorem d_M_firstFree_12 : decode me_M_firstFree.2.1 12 = .ok (.iload_n 2, 1) := by decide +kernel
theorem d_M_firstFree_13 : decode me_M_firstFree.2.1 13 = .ok (.iload_n 1, 1) := by decide +kernel
theorem d_M_firstFree_14 : decode me_M_firstFree.2.1 14 = .ok (.invokevirtual 317, 3) := by decide +kernel
theorem d_M_firstFree_17 : decode me_M_firstFree.2.1 17 = .ok (.ifCond .eq 5, 3) := by decide +kernel
theorem d_M_firstFree_20 : decode me_M_firstFree.2.1 20 = .ok (.iload_n 3, 1) := by decide +kernel
theorem d_M_firstFree_21 : decode me_M_firstFree.2.1 21 = .ok (.ireturn, 1) := by decide +kernel
theorem d_M_firstFree_22 : decode me_M_firstFree.2.1 22 = .ok (.iinc 3 1, 3) := by decide +kernel
theorem d_M_firstFree_25 : decode me_M_firstFree.2.1 25 = .ok (.goto (-23), 3) := by decide +kernel
theorem d_M_firstFree_28 : decode me_M_firstFree.2.1 28 = .ok (.bipush (-2), 2) := by decide +kernel
theorem d_M_firstFree_30 : decode me_M_firstFree.2.1 30 = .ok (.ireturn, 1) := by decide +kernel
noncomputable def f_M_firstFree_2  : Nat → Int32 → Int32 → Int32 → gk_M → Option (Int32 × gk_M)
  | 0, _, _, _, _ => none
  | n + 1, a1, a2, a3, m0 =>
    if 900 ≤ a3 then
      some ((-2), m0)
    else
      gk_bi (f_M_isFree a3 a1 a2 a1 m0) fun v2 m1 =>
      if v2 = 0 then
        f_M_firstFree_2 n a1 a2 (a3 + 1) m1
      else
        some (a3, m1)

theorem s_M_firstFree_2 {z : gk_Z} (K : gk_F tm z me_M_firstFree 72) {r : Int32} {mem2 : gk_M} : ∀ n a1 a2 a3 m0, f_M_firstFree_2 n a1 a2 a3 m0 = some (r, mem2) → gk_G tm z me_M_firstFree (gk_R tm z (some (.int r)) mem2) m0 [(0, .ref 0), (1, .int a1), (2, .int a2), (3, .int a3)] [] 2 := by
  intro n
  induction n with
  | zero => intro a1 a2 a3 m0  h; exact nomatch (show (none : Option _) = some _ from h)
  | succ n ih =>
    intro a1 a2 a3 m0  h
    unfold f_M_firstFree_2 at h
    refine gk_iload_n (pc := 2) K d_M_firstFree_2 rfl ?_
    refine gk_sipush (pc := 3) K d_M_firstFree_3 ks_900 ?_
    refine gk_ic_ge (tgt := 28) (pc := 6) K d_M_firstFree_6 (by decide) h (fun h => ?_) (fun h => ?_)
    · refine gk_bipush (pc := 28) K d_M_firstFree_28 kb_m2 ?_
      exact gk_iret (pc := 30) K d_M_firstFree_30 rfl h
    · refine gk_aload_n (pc := 9) K d_M_firstFree_9 rfl ?_
      refine gk_iload_n (pc := 10) K d_M_firstFree_10 rfl ?_
      refine gk_iload_n (pc := 11) K d_M_firstFree_11 rfl ?_
      refine gk_iload_n (pc := 12) K d_M_firstFree_12 rfl ?_
      refine gk_iload_n (pc := 13) K d_M_firstFree_13 rfl ?_
      obtain ⟨v2, m1, em1, h⟩ := gk_bi_some h
      refine gk_cVi (As := [.int a3, .int a1, .int a2, .int a1]) (pc := 14) K d_M_firstFree_14 mv_M_317 mc_M_isFree rfl tm_0 cl_ok10.1 (s_M_isFree (gk_FD K)  em1) (by decide) rfl (Nat.le_of_ble_eq_true rfl) ?_
      refine gk_if_eq (tgt := 22) (pc := 17) K d_M_firstFree_17 (by decide) h (fun h => ?_) (fun h => ?_)
      · refine gk_iinc2 (lv2 := [(3, .int (a3 + 1)), (0, .ref 0), (1, .int a1), (2, .int a2)]) (pc := 22) K d_M_firstFree_22 rfl kc_1 (by decide) rfl ?_
        refine gk_goto (tgt := 2) (pc := 25) K d_M_firstFree_25 (by decide) ?_
        exact gk_sub [1, 2, 3, 0] rfl (ih _ _ _ _  h)
      · refine gk_iload_n (pc := 20) K d_M_firstFree_20 rfl ?_
        exact gk_iret (pc := 21) K d_M_firstFree_21 rfl h
noncomputable def f_M_firstFree  (a1 : Int32) (a2 : Int32) (m0 : gk_M) : Option (Int32 × gk_M) :=
  f_M_firstFree_2 gk_fv a1 a2 0 m0

theorem s_M_firstFree_0 {z : gk_Z} (K : gk_F tm z me_M_firstFree 72) {r : Int32} {mem2 : gk_M} : ∀ a1 a2 m0, f_M_firstFree a1 a2 m0 = some (r, mem2) → gk_G tm z me_M_firstFree (gk_R tm z (some (.int r)) mem2) m0 [(0, .ref 0), (1, .int a1), (2, .int a2)] [] 0 := by
  intro a1 a2 m0  h
  unfold f_M_firstFree at h
  refine gk_iconst (pc := 0) K d_M_firstFree_0 kc_0 ?_
  refine gk_istore_n (lv2 := [(3, .int 0), (0, .ref 0), (1, .int a1), (2, .int a2)]) (pc := 1) K d_M_firstFree_1 (by decide) rfl ?_
  exact gk_sub [1, 2, 3, 0] rfl (s_M_firstFree_2 K _ _ _ _ _  h)
theorem s_M_firstFree {l : Launch} {u : gk_U} (hD : gk_D tm u) {a1 : Int32} {a2 : Int32} {m0 mem2 : gk_M} {r : Int32} (h : f_M_firstFree a1 a2 m0 = some (r, mem2)) : gk_C tm l u me_M_firstFree 72 [.ref 0, .int a1, .int a2] m0 (some (.int r)) mem2 :=
  gk_enter hD mc_M_firstFree (Nat.le_of_ble_eq_true rfl) rfl (fun z _ _ K => s_M_firstFree_0 K _ _ _  h)
theorem d_M_years_0 : decode me_M_years.2.1 0 = .ok (.iload_n 1, 1) := by decide +kernel
theorem d_M_years_1 : decode me_M_years.2.1 1 = .ok (.i2l, 1) := by decide +kernel
theorem d_M_years_2 : decode me_M_years.2.1 2 = .ok (.lconst 0, 1) := by decide +kernel
theorem d_M_years_3 : decode me_M_years.2.1 3 = .ok (.ldc2_w 112, 3) := by decide +kernel
theorem d_M_years_6 : decode me_M_years.2.1 6 = .ok (.invokestatic 102, 3) := by decide +kernel
theorem d_M_years_9 : decode me_M_years.2.1 9 = .ok (.ifCond .eq 13, 3) := by decide +kernel
theorem d_M_years_12 : decode me_M_years.2.1 12 = .ok (.iload_n 2, 1) := by decide +kernel
theorem d_M_years_13 : decode me_M_years.2.1 13 = .ok (.i2l, 1) := by decide +kernel
theorem d_M_years_14 : decode me_M_years.2.1 14 = .ok (.lconst 0, 1) := by decide +kernel
theorem d_M_years_15 : decode me_M_years.2.1 15 = .ok (.lconst 1, 1) := by decide +kernel
theorem d_M_years_16 : decode me_M_years.2.1 16 = .ok (.invokestatic 102, 3) := by decide +kernel
theorem d_M_years_19 : decode me_M_years.2.1 19 = .ok (.ifCond .ne 5, 3) := by decide +kernel
theorem d_M_years_22 : decode me_M_years.2.1 22 = .ok (.iconst (-1), 1) := by decide +kernel
theorem d_M_years_23 : decode me_M_years.2.1 23 = .ok (.ireturn, 1) := by decide +kernel
theorem d_M_years_24 : decode me_M_years.2.1 24 = .ok (.aload_n 0, 1) := by decide +kernel
theorem d_M_years_25 : decode me_M_years.2.1 25 = .ok (.getfield 106, 3) := by decide +kernel
theorem d_M_years_28 : decode me_M_years.2.1 28 = .ok (.istore_n 3, 1) := by decide +kernel
theorem d_M_years_29 : decode me_M_years.2.1 29 = .ok (.bipush (-2), 2) := by decide +kernel
theorem d_M_years_31 : decode me_M_years.2.1 31 = .ok (.istore 4, 2) := by decide +kernel
theorem d_M_years_33 : decode me_M_years.2.1 33 = .ok (.iconst 1, 1) := by decide +kernel
theorem d_M_years_34 : decode me_M_years.2.1 34 = .ok (.istore 5, 2) := by decide +kernel
theorem d_M_years_36 : decode me_M_years.2.1 36 = .ok (.iload 5, 2) := by decide +kernel
theorem d_M_years_38 : decode me_M_years.2.1 38 = .ok (.ifCond .eq 52, 3) := by decide +kernel
theorem d_M_years_41 : decode me_M_years.2.1 41 = .ok (.iload_n 3, 1) := by decide +kernel
theorem d_M_years_42 : decode me_M_years.2.1 42 = .ok (.bipush 10, 2) := by decide +kernel
theorem d_M_years_44 : decode me_M_years.2.1 44 = .ok (.if_icmp .ge 46, 3) := by decide +kernel
theorem d_M_years_47 : decode me_M_years.2.1 47 = .ok (.aload_n 0, 1) := by decide +kernel
theorem d_M_years_48 : decode me_M_years.2.1 48 = .ok (.iload_n 3, 1) := by decide +kernel
theorem d_M_years_49 : decode me_M_years.2.1 49 = .ok (.iload_n 1, 1) := by decide +kernel
theorem d_M_years_50 : decode me_M_years.2.1 50 = .ok (.invokevirtual 320, 3) := by decide +kernel
theorem d_M_years_53 : decode me_M_years.2.1 53 = .ok (.istore 6, 2) := by decide +kernel
theorem d_M_years_55 : decode me_M_years.2.1 55 = .ok (.iload 6, 2) := by decide +kernel
theorem d_M_years_57 : decode me_M_years.2.1 57 = .ok (.ifCond .lt 7, 3) := by decide +kernel
theorem d_M_years_60 : decode me_M_years.2.1 60 = .ok (.iconst 1, 1) := by decide +kernel
theorem d_M_years_61 : decode me_M_years.2.1 61 = .ok (.goto 4, 3) := by decide +kernel
theorem d_M_years_64 : decode me_M_years.2.1 64 = .ok (.iconst 0, 1) := by decide +kernel
theorem d_M_years_65 : decode me_M_years.2.1 65 = .ok (.istore 5, 2) := by decide +kernel
theorem d_M_years_67 : decode me_M_years.2.1 67 = .ok (.iload 5, 2) := by decide +kernel
theorem d_M_years_69 : decode me_M_years.2.1 69 = .ok (.ifCond .eq 18, 3) := by decide +kernel
theorem d_M_years_72 : decode me_M_years.2.1 72 = .ok (.aload_n 0, 1) := by decide +kernel
theorem d_M_years_73 : decode me_M_years.2.1 73 = .ok (.getfield 22, 3) := by decide +kernel
theorem d_M_years_76 : decode me_M_years.2.1 76 = .ok (.iload_n 3, 1) := by decide +kernel
theorem d_M_years_77 : decode me_M_years.2.1 77 = .ok (.iload 6, 2) := by decide +kernel
theorem d_M_years_79 : decode me_M_years.2.1 79 = .ok (.iastore, 1) := by decide +kernel
theorem d_M_years_80 : decode me_M_years.2.1 80 = .ok (.iload 6, 2) := by decide +kernel
theorem d_M_years_82 : decode me_M_years.2.1 82 = .ok (.istore 4, 2) := by decide +kernel
theorem d_M_years_84 : decode me_M_years.2.1 84 = .ok (.iinc 3 1, 3) := by decide +kernel
theorem d_M_years_87 : decode me_M_years.2.1 87 = .ok (.goto (-51), 3) := by decide +kernel
theorem d_M_years_90 : decode me_M_years.2.1 90 = .ok (.iload_n 2, 1) := by decide +kernel
theorem d_M_years_91 : decode me_M_years.2.1 91 = .ok (.ifCond .ne 12, 3) := by decide +kernel
theorem d_M_years_94 : decode me_M_years.2.1 94 = .ok (.iload_n 3, 1) := by decide +kernel
theorem d_M_years_95 : decode me_M_years.2.1 95 = .ok (.aload_n 0, 1) := by decide +kernel
theorem d_M_years_96 : decode me_M_years.2.1 96 = .ok (.getfield 106, 3) := by decide +kernel
theorem d_M_years_99 : decode me_M_years.2.1 99 = .ok (.isub, 1) := by decide +kernel
theorem d_M_years_100 : decode me_M_years.2.1 100 = .ok (.goto 5, 3) := by decide +kernel
theorem d_M_years_103 : decode me_M_years.2.1 103 = .ok (.iload 4, 2) := by decide +kernel
theorem d_M_years_105 : decode me_M_years.2.1 105 = .ok (.ireturn, 1) := by decide +kernel
noncomputable def f_M_years_90  (a2 : Int32) (a3 : Int32) (a4 : Int32) (m0 : gk_M) : Option (Int32 × gk_M) :=
  if ¬ a2 = 0 then
    some (a4, m0)
  else
    some ((a3 - (m0.1 0 6)), m0)

theorem s_M_years_90 {z : gk_Z} (K : gk_F tm z me_M_years 73) {r : Int32} {mem2 : gk_M} : ∀ a2 a3 a4 m0, f_M_years_90 a2 a3 a4 m0 = some (r, mem2) → gk_G tm z me_M_years (gk_R tm z (some (.int r)) mem2) m0 [(0, .ref 0), (2, .int a2), (3, .int a3), (4, .int a4)] [] 90 := by
  intro a2 a3 a4 m0  h
  unfold f_M_years_90 at h
  refine gk_iload_n (pc := 90) K d_M_years_90 rfl ?_
  refine gk_if_ne (tgt := 103) (pc := 91) K d_M_years_91 (by decide) h (fun h => ?_) (fun h => ?_)
  · refine gk_iload (pc := 103) K d_M_years_103 rfl ?_
    exact gk_iret (pc := 105) K d_M_years_105 rfl h
  · refine gk_iload_n (pc := 94) K d_M_years_94 rfl ?_
    refine gk_aload_n (pc := 95) K d_M_years_95 rfl ?_
    refine gk_get (pc := 96) K d_M_years_96 fl_M_106 tm_0 rfl rfl ?_
    refine gk_isub (pc := 99) K d_M_years_99 ?_
    refine gk_goto (tgt := 105) (pc := 100) K d_M_years_100 (by decide) ?_
    exact gk_iret (pc := 105) K d_M_years_105 rfl h
noncomputable def f_M_years_65 (k36 : Int32 → Int32 → Int32 → Int32 → Int32 → gk_M → Option (Int32 × gk_M)) (a1 : Int32) (a2 : Int32) (a3 : Int32) (a4 : Int32) (a6 : Int32) (s0 : Int32) (m0 : gk_M) : Option (Int32 × gk_M) :=
  if s0 = 0 then
    k36 a1 a2 a3 a4 s0 m0
  else
    gk_si m0 5 20 a3 a6 fun m1 =>
    k36 a1 a2 (a3 + 1) a6 s0 m1

theorem s_M_years_65 {z : gk_Z} (K : gk_F tm z me_M_years 73) {r : Int32} {mem2 : gk_M} {k36 : Int32 → Int32 → Int32 → Int32 → Int32 → gk_M → Option (Int32 × gk_M)} (hk36 : ∀ a1 a2 a3 a4 a5 m0, k36 a1 a2 a3 a4 a5 m0 = some (r, mem2) → gk_G tm z me_M_years (gk_R tm z (some (.int r)) mem2) m0 [(0, .ref 0), (1, .int a1), (2, .int a2), (3, .int a3), (4, .int a4), (5, .int a5)] [] 36) : ∀ a1 a2 a3 a4 a6 s0 m0, f_M_years_65 k36 a1 a2 a3 a4 a6 s0 m0 = some (r, mem2) → gk_G tm z me_M_years (gk_R tm z (some (.int r)) mem2) m0 [(0, .ref 0), (1, .int a1), (2, .int a2), (3, .int a3), (4, .int a4), (6, .int a6)] [.int s0] 65 := by
  intro a1 a2 a3 a4 a6 s0 m0  h
  unfold f_M_years_65 at h
  refine gk_istore (lv2 := [(5, .int s0), (0, .ref 0), (1, .int a1), (2, .int a2), (3, .int a3), (4, .int a4), (6, .int a6)]) (pc := 65) K d_M_years_65 (by decide) rfl ?_
  refine gk_iload (pc := 67) K d_M_years_67 rfl ?_
  refine gk_if_eq (tgt := 87) (pc := 69) K d_M_years_69 (by decide) h (fun h => ?_) (fun h => ?_)
  · refine gk_goto (tgt := 36) (pc := 87) K d_M_years_87 (by decide) ?_
    exact gk_sub [1, 2, 3, 4, 5, 0] rfl (hk36 _ _ _ _ _ _  h)
  · refine gk_aload_n (pc := 72) K d_M_years_72 rfl ?_
    refine gk_get (pc := 73) K d_M_years_73 fl_M_22 tm_0 rfl rfl ?_
    refine gk_iload_n (pc := 76) K d_M_years_76 rfl ?_
    refine gk_iload (pc := 77) K d_M_years_77 rfl ?_
    refine gk_iast (pc := 79) K d_M_years_79 tm_5 h (fun m1 h => ?_)
    refine gk_iload (pc := 80) K d_M_years_80 rfl ?_
    refine gk_istore (lv2 := [(4, .int a6), (5, .int s0), (0, .ref 0), (1, .int a1), (2, .int a2), (3, .int a3), (6, .int a6)]) (pc := 82) K d_M_years_82 (by decide) rfl ?_
    refine gk_iinc2 (lv2 := [(3, .int (a3 + 1)), (4, .int a6), (5, .int s0), (0, .ref 0), (1, .int a1), (2, .int a2), (6, .int a6)]) (pc := 84) K d_M_years_84 rfl kc_1 (by decide) rfl ?_
    refine gk_goto (tgt := 36) (pc := 87) K d_M_years_87 (by decide) ?_
    exact gk_sub [3, 4, 5, 0, 1, 2] rfl (hk36 _ _ _ _ _ _  h)
noncomputable def f_M_years_36  : Nat → Int32 → Int32 → Int32 → Int32 → Int32 → gk_M → Option (Int32 × gk_M)
  | 0, _, _, _, _, _, _ => none
  | n + 1, a1, a2, a3, a4, a5, m0 =>
    if a5 = 0 then
      f_M_years_90 a2 a3 a4 m0
    else
      if 10 ≤ a3 then
        f_M_years_90 a2 a3 a4 m0
      else
        gk_bi (f_M_firstFree a3 a1 m0) fun v2 m1 =>
        if v2 < 0 then
          f_M_years_65 (f_M_years_36 n) a1 a2 a3 a4 v2 0 m1
        else
          f_M_years_65 (f_M_years_36 n) a1 a2 a3 a4 v2 1 m1

theorem s_M_years_36 {z : gk_Z} (K : gk_F tm z me_M_years 73) {r : Int32} {mem2 : gk_M} : ∀ n a1 a2 a3 a4 a5 m0, f_M_years_36 n a1 a2 a3 a4 a5 m0 = some (r, mem2) → gk_G tm z me_M_years (gk_R tm z (some (.int r)) mem2) m0 [(0, .ref 0), (1, .int a1), (2, .int a2), (3, .int a3), (4, .int a4), (5, .int a5)] [] 36 := by
  intro n
  induction n with
  | zero => intro a1 a2 a3 a4 a5 m0  h; exact nomatch (show (none : Option _) = some _ from h)
  | succ n ih =>
    intro a1 a2 a3 a4 a5 m0  h
    unfold f_M_years_36 at h
    refine gk_iload (pc := 36) K d_M_years_36 rfl ?_
    refine gk_if_eq (tgt := 90) (pc := 38) K d_M_years_38 (by decide) h (fun h => ?_) (fun h => ?_)
    · exact gk_sub [0, 2, 3, 4] rfl (s_M_years_90 K _ _ _ _  h)
    · refine gk_iload_n (pc := 41) K d_M_years_41 rfl ?_
      refine gk_bipush (pc := 42) K d_M_years_42 kb_10 ?_
      refine gk_ic_ge (tgt := 90) (pc := 44) K d_M_years_44 (by decide) h (fun h => ?_) (fun h => ?_)
      · exact gk_sub [0, 2, 3, 4] rfl (s_M_years_90 K _ _ _ _  h)
      · refine gk_aload_n (pc := 47) K d_M_years_47 rfl ?_
        refine gk_iload_n (pc := 48) K d_M_years_48 rfl ?_
        refine gk_iload_n (pc := 49) K d_M_years_49 rfl ?_
        obtain ⟨v2, m1, em1, h⟩ := gk_bi_some h
        refine gk_cVi (As := [.int a3, .int a1]) (pc := 50) K d_M_years_50 mv_M_320 mc_M_firstFree rfl tm_0 cl_ok10.1 (s_M_firstFree (gk_FD K)  em1) (by decide) rfl (Nat.le_of_ble_eq_true rfl) ?_
        refine gk_istore (lv2 := [(6, .int v2), (0, .ref 0), (1, .int a1), (2, .int a2), (3, .int a3), (4, .int a4), (5, .int a5)]) (pc := 53) K d_M_years_53 (by decide) rfl ?_
        refine gk_iload (pc := 55) K d_M_years_55 rfl ?_
        refine gk_if_lt (tgt := 64) (pc := 57) K d_M_years_57 (by decide) h (fun h => ?_) (fun h => ?_)
        · refine gk_iconst (pc := 64) K d_M_years_64 kc_0 ?_
          exact gk_sub [1, 2, 3, 4, 5, 0] rfl (s_M_years_65 K (fun x0 x1 x2 x3 x4 m  h => ih x0 x1 x2 x3 x4 m  h) _ _ _ _ _ _ _  h)
        · refine gk_iconst (pc := 60) K d_M_years_60 kc_1 ?_
          refine gk_goto (tgt := 65) (pc := 61) K d_M_years_61 (by decide) ?_
          exact gk_sub [1, 2, 3, 4, 5, 0] rfl (s_M_years_65 K (fun x0 x1 x2 x3 x4 m  h => ih x0 x1 x2 x3 x4 m  h) _ _ _ _ _ _ _  h)
noncomputable def f_M_years  (a1 : Int32) (a2 : Int32) (m0 : gk_M) : Option (Int32 × gk_M) :=
  gk_bi (f_M_within a1.toInt64 0 9 m0) fun v2 m1 =>
  if v2 = 0 then
    some ((-1), m1)
  else
    gk_bi (f_M_within a2.toInt64 0 1 m1) fun v4 m3 =>
    if ¬ v4 = 0 then
      gk_let (m3.1 0 6) fun v5 =>
      f_M_years_36 gk_fv a1 a2 v5 (-2) 1 m3
    else
      some ((-1), m3)

theorem s_M_years_0 {z : gk_Z} (K : gk_F tm z me_M_years 73) {r : Int32} {mem2 : gk_M} : ∀ a1 a2 m0, f_M_years a1 a2 m0 = some (r, mem2) → gk_G tm z me_M_years (gk_R tm z (some (.int r)) mem2) m0 [(0, .ref 0), (1, .int a1), (2, .int a2)] [] 0 := by
  intro a1 a2 m0  h
  unfold f_M_years at h
  refine gk_iload_n (pc := 0) K d_M_years_0 rfl ?_
  refine gk_i2l (pc := 1) K d_M_years_1 ?_
  refine gk_lconst (pc := 2) K d_M_years_2 kl_0 ?_
  refine gk_ldc2 (pc := 3) K d_M_years_3 lc_M_112 ?_
  obtain ⟨v2, m1, em1, h⟩ := gk_bi_some h
  refine gk_cSi (As := [.long a1.toInt64, .long 0, .long 9]) (pc := 6) K d_M_years_6 ms_M_102 mc_M_within rfl (s_M_within (gk_FD K)  em1) (by decide) rfl (Nat.le_of_ble_eq_true rfl) ?_
  refine gk_if_eq (tgt := 22) (pc := 9) K d_M_years_9 (by decide) h (fun h => ?_) (fun h => ?_)
  · refine gk_iconst (pc := 22) K d_M_years_22 kc_m1 ?_
    exact gk_iret (pc := 23) K d_M_years_23 rfl h
  · refine gk_iload_n (pc := 12) K d_M_years_12 rfl ?_
    refine gk_i2l (pc := 13) K d_M_years_13 ?_
    refine gk_lconst (pc := 14) K d_M_years_14 kl_0 ?_
    refine gk_lconst (pc := 15) K d_M_years_15 kl_1 ?_
    obtain ⟨v4, m3, em3, h⟩ := gk_bi_some h
    refine gk_cSi (As := [.long a2.toInt64, .long 0, .long 1]) (pc := 16) K d_M_years_16 ms_M_102 mc_M_within rfl (s_M_within (gk_FD K)  em3) (by decide) rfl (Nat.le_of_ble_eq_true rfl) ?_
    refine gk_if_ne (tgt := 24) (pc := 19) K d_M_years_19 (by decide) h (fun h => ?_) (fun h => ?_)
    · refine gk_aload_n (pc := 24) K d_M_years_24 rfl ?_
      refine gk_get (pc := 25) K d_M_years_25 fl_M_106 tm_0 rfl rfl ?_
      refine gk_topi h (fun v5 h => ?_)
      refine gk_istore_n (lv2 := [(3, .int v5), (0, .ref 0), (1, .int a1), (2, .int a2)]) (pc := 28) K d_M_years_28 (by decide) rfl ?_
      refine gk_bipush (pc := 29) K d_M_years_29 kb_m2 ?_
      refine gk_istore (lv2 := [(4, .int (-2)), (3, .int v5), (0, .ref 0), (1, .int a1), (2, .int a2)]) (pc := 31) K d_M_years_31 (by decide) rfl ?_
      refine gk_iconst (pc := 33) K d_M_years_33 kc_1 ?_
      refine gk_istore (lv2 := [(5, .int 1), (4, .int (-2)), (3, .int v5), (0, .ref 0), (1, .int a1), (2, .int a2)]) (pc := 34) K d_M_years_34 (by decide) rfl ?_
      exact gk_sub [3, 4, 5, 2, 1, 0] rfl (s_M_years_36 K _ _ _ _ _ _ _  h)
    · refine gk_iconst (pc := 22) K d_M_years_22 kc_m1 ?_
      exact gk_iret (pc := 23) K d_M_years_23 rfl h
theorem s_M_years {l : Launch} {u : gk_U} (hD : gk_D tm u) {a1 : Int32} {a2 : Int32} {m0 mem2 : gk_M} {r : Int32} (h : f_M_years a1 a2 m0 = some (r, mem2)) : gk_C tm l u me_M_years 73 [.ref 0, .int a1, .int a2] m0 (some (.int r)) mem2 :=
  gk_enter hD mc_M_years (Nat.le_of_ble_eq_true rfl) rfl (fun z _ _ K => s_M_years_0 K _ _ _  h)
