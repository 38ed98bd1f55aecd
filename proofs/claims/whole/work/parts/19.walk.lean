theorem d_M_liesOn_0 : decode me_M_liesOn.2.1 0 = .ok (.lload 8, 2) := by decide +kernel
theorem d_M_liesOn_2 : decode me_M_liesOn.2.1 2 = .ok (.lload_n 0, 1) := by decide +kernel
theorem d_M_liesOn_3 : decode me_M_liesOn.2.1 3 = .ok (.lcmp, 1) := by decide +kernel
theorem d_M_liesOn_4 : decode me_M_liesOn.2.1 4 = .ok (.ifCond .ne 10, 3) := by decide +kernel
theorem d_M_liesOn_7 : decode me_M_liesOn.2.1 7 = .ok (.lload 10, 2) := by decide +kernel
theorem d_M_liesOn_9 : decode me_M_liesOn.2.1 9 = .ok (.lload_n 2, 1) := by decide +kernel
theorem d_M_liesOn_10 : decode me_M_liesOn.2.1 10 = .ok (.lcmp, 1) := by decide +kernel
theorem d_M_liesOn_11 : decode me_M_liesOn.2.1 11 = .ok (.ifCond .eq 19, 3) := by decide +kernel
theorem d_M_liesOn_14 : decode me_M_liesOn.2.1 14 = .ok (.lload 8, 2) := by decide +kernel
theorem d_M_liesOn_16 : decode me_M_liesOn.2.1 16 = .ok (.lload 4, 2) := by decide +kernel
theorem d_M_liesOn_18 : decode me_M_liesOn.2.1 18 = .ok (.lcmp, 1) := by decide +kernel
theorem d_M_liesOn_19 : decode me_M_liesOn.2.1 19 = .ok (.ifCond .ne 15, 3) := by decide +kernel
theorem d_M_liesOn_22 : decode me_M_liesOn.2.1 22 = .ok (.lload 10, 2) := by decide +kernel
theorem d_M_liesOn_24 : decode me_M_liesOn.2.1 24 = .ok (.lload 6, 2) := by decide +kernel
theorem d_M_liesOn_26 : decode me_M_liesOn.2.1 26 = .ok (.lcmp, 1) := by decide +kernel
theorem d_M_liesOn_27 : decode me_M_liesOn.2.1 27 = .ok (.ifCond .ne 7, 3) := by decide +kernel
theorem d_M_liesOn_30 : decode me_M_liesOn.2.1 30 = .ok (.iconst 1, 1) := by decide +kernel
theorem d_M_liesOn_31 : decode me_M_liesOn.2.1 31 = .ok (.goto 4, 3) := by decide +kernel
theorem d_M_liesOn_34 : decode me_M_liesOn.2.1 34 = .ok (.iconst 0, 1) := by decide +kernel
theorem d_M_liesOn_35 : decode me_M_liesOn.2.1 35 = .ok (.istore 12, 2) := by decide +kernel
theorem d_M_liesOn_37 : decode me_M_liesOn.2.1 37 = .ok (.iload 12, 2) := by decide +kernel
theorem d_M_liesOn_39 : decode me_M_liesOn.2.1 39 = .ok (.ifCond .ne 47, 3) := by decide +kernel
theorem d_M_liesOn_42 : decode me_M_liesOn.2.1 42 = .ok (.lload_n 0, 1) := by decide +kernel
theorem d_M_liesOn_43 : decode me_M_liesOn.2.1 43 = .ok (.lload_n 2, 1) := by decide +kernel
theorem d_M_liesOn_44 : decode me_M_liesOn.2.1 44 = .ok (.lload 4, 2) := by decide +kernel
theorem d_M_liesOn_46 : decode me_M_liesOn.2.1 46 = .ok (.lload 6, 2) := by decide +kernel
theorem d_M_liesOn_48 : decode me_M_liesOn.2.1 48 = .ok (.lload 8, 2) := by decide +kernel
theorem d_M_liesOn_50 : decode me_M_liesOn.2.1 50 = .ok (.lload 10, 2) := by decide +kernel
theorem d_M_liesOn_52 : decode me_M_liesOn.2.1 52 = .ok (.invokestatic 216, 3) := by decide +kernel
theorem d_M_liesOn_55 : decode me_M_liesOn.2.1 55 = .ok (.lconst 0, 1) := by decide +kernel
theorem d_M_liesOn_56 : decode me_M_liesOn.2.1 56 = .ok (.lcmp, 1) := by decide +kernel
theorem d_M_liesOn_57 : decode me_M_liesOn.2.1 57 = .ok (.ifCond .ne 29, 3) := by decide +kernel
theorem d_M_liesOn_60 : decode me_M_liesOn.2.1 60 = .ok (.lload_n 0, 1) := by decide +kernel
theorem d_M_liesOn_61 : decode me_M_liesOn.2.1 61 = .ok (.lload 8, 2) := by decide +kernel
theorem d_M_liesOn_63 : decode me_M_liesOn.2.1 63 = .ok (.lload 4, 2) := by decide +kernel
theorem d_M_liesOn_65 : decode me_M_liesOn.2.1 65 = .ok (.invokestatic 220, 3) := by decide +kernel
theorem d_M_liesOn_68 : decode me_M_liesOn.2.1 68 = .ok (.ifCond .eq 18, 3) := by decide +kernel
theorem d_M_liesOn_71 : decode me_M_liesOn.2.1 71 = .ok (.lload_n 2, 1) := by decide +kernel
theorem d_M_liesOn_72 : decode me_M_liesOn.2.1 72 = .ok (.lload 10, 2) := by decide +kernel
theorem d_M_liesOn_74 : decode me_M_liesOn.2.1 74 = .ok (.lload 6, 2) := by decide +kernel
theorem d_M_liesOn_76 : decode me_M_liesOn.2.1 76 = .ok (.invokestatic 220, 3) := by decide +kernel
theorem d_M_liesOn_79 : decode me_M_liesOn.2.1 79 = .ok (.ifCond .eq 7, 3) := by decide +kernel
theorem d_M_liesOn_82 : decode me_M_liesOn.2.1 82 = .ok (.iconst 1, 1) := by decide +kernel
theorem d_M_liesOn_83 : decode me_M_liesOn.2.1 83 = .ok (.goto 4, 3) := by decide +kernel
theorem d_M_liesOn_86 : decode me_M_liesOn.2.1 86 = .ok (.iconst 0, 1) := by decide +kernel
theorem d_M_liesOn_87 : decode me_M_liesOn.2.1 87 = .ok (.ireturn, 1) := by decide +kernel
noncomputable def f_M_liesOn_35  (a0 : Int64) (a2 : Int64) (a4 : Int64) (a6 : Int64) (a8 : Int64) (a10 : Int64) (s0 : Int32) (m0 : gk_M) : Option (Int32 × gk_M) :=
  if ¬ s0 = 0 then
    some (0, m0)
  else
    gk_bl (f_M_side a0 a2 a4 a6 a8 a10 m0) fun v2 m1 =>
    if ¬ v2 = 0 then
      some (0, m1)
    else
      gk_bi (f_M_isBetween a0 a8 a4 m1) fun v4 m3 =>
      if v4 = 0 then
        some (0, m3)
      else
        gk_bi (f_M_isBetween a2 a10 a6 m3) fun v6 m5 =>
        if v6 = 0 then
          some (0, m5)
        else
          some (1, m5)

theorem s_M_liesOn_35 {z : gk_Z} (K : gk_F tm z me_M_liesOn 2) {r : Int32} {mem2 : gk_M} : ∀ a0 a2 a4 a6 a8 a10 s0 m0, f_M_liesOn_35 a0 a2 a4 a6 a8 a10 s0 m0 = some (r, mem2) → gk_G tm z me_M_liesOn (gk_R tm z (some (.int r)) mem2) m0 [(0, .long a0), (2, .long a2), (4, .long a4), (6, .long a6), (8, .long a8), (10, .long a10)] [.int s0] 35 := by
  intro a0 a2 a4 a6 a8 a10 s0 m0  h
  unfold f_M_liesOn_35 at h
  refine gk_istore (lv2 := [(12, .int s0), (0, .long a0), (2, .long a2), (4, .long a4), (6, .long a6), (8, .long a8), (10, .long a10)]) (pc := 35) K d_M_liesOn_35 (by decide) rfl ?_
  refine gk_iload (pc := 37) K d_M_liesOn_37 rfl ?_
  refine gk_if_ne (tgt := 86) (pc := 39) K d_M_liesOn_39 (by decide) h (fun h => ?_) (fun h => ?_)
  · refine gk_iconst (pc := 86) K d_M_liesOn_86 kc_0 ?_
    exact gk_zretc (pc := 87) K d_M_liesOn_87 rfl (Or.inl rfl) h
  · refine gk_lload_n (pc := 42) K d_M_liesOn_42 rfl ?_
    refine gk_lload_n (pc := 43) K d_M_liesOn_43 rfl ?_
    refine gk_lload (pc := 44) K d_M_liesOn_44 rfl ?_
    refine gk_lload (pc := 46) K d_M_liesOn_46 rfl ?_
    refine gk_lload (pc := 48) K d_M_liesOn_48 rfl ?_
    refine gk_lload (pc := 50) K d_M_liesOn_50 rfl ?_
    obtain ⟨v2, m1, em1, h⟩ := gk_bl_some h
    refine gk_cSl (As := [.long a0, .long a2, .long a4, .long a6, .long a8, .long a10]) (pc := 52) K d_M_liesOn_52 ms_M_216 mc_M_side rfl (s_M_side (gk_FD K)  em1) (by decide) rfl (Nat.le_of_ble_eq_true rfl) ?_
    refine gk_lconst (pc := 55) K d_M_liesOn_55 kl_0 ?_
    refine gk_lc_ne (tgt := 86) (pc := 56) K d_M_liesOn_56 d_M_liesOn_57 (by decide) h (fun h => ?_) (fun h => ?_)
    · refine gk_iconst (pc := 86) K d_M_liesOn_86 kc_0 ?_
      exact gk_zretc (pc := 87) K d_M_liesOn_87 rfl (Or.inl rfl) h
    · refine gk_lload_n (pc := 60) K d_M_liesOn_60 rfl ?_
      refine gk_lload (pc := 61) K d_M_liesOn_61 rfl ?_
      refine gk_lload (pc := 63) K d_M_liesOn_63 rfl ?_
      obtain ⟨v4, m3, em3, h⟩ := gk_bi_some h
      refine gk_cSi (As := [.long a0, .long a8, .long a4]) (pc := 65) K d_M_liesOn_65 ms_M_220 mc_M_isBetween rfl (s_M_isBetween (gk_FD K)  em3) (by decide) rfl (Nat.le_of_ble_eq_true rfl) ?_
      refine gk_if_eq (tgt := 86) (pc := 68) K d_M_liesOn_68 (by decide) h (fun h => ?_) (fun h => ?_)
      · refine gk_iconst (pc := 86) K d_M_liesOn_86 kc_0 ?_
        exact gk_zretc (pc := 87) K d_M_liesOn_87 rfl (Or.inl rfl) h
      · refine gk_lload_n (pc := 71) K d_M_liesOn_71 rfl ?_
        refine gk_lload (pc := 72) K d_M_liesOn_72 rfl ?_
        refine gk_lload (pc := 74) K d_M_liesOn_74 rfl ?_
        obtain ⟨v6, m5, em5, h⟩ := gk_bi_some h
        refine gk_cSi (As := [.long a2, .long a10, .long a6]) (pc := 76) K d_M_liesOn_76 ms_M_220 mc_M_isBetween rfl (s_M_isBetween (gk_FD K)  em5) (by decide) rfl (Nat.le_of_ble_eq_true rfl) ?_
        refine gk_if_eq (tgt := 86) (pc := 79) K d_M_liesOn_79 (by decide) h (fun h => ?_) (fun h => ?_)
        · refine gk_iconst (pc := 86) K d_M_liesOn_86 kc_0 ?_
          exact gk_zretc (pc := 87) K d_M_liesOn_87 rfl (Or.inl rfl) h
        · refine gk_iconst (pc := 82) K d_M_liesOn_82 kc_1 ?_
          refine gk_goto (tgt := 87) (pc := 83) K d_M_liesOn_83 (by decide) ?_
          exact gk_zretc (pc := 87) K d_M_liesOn_87 rfl (Or.inr rfl) h
noncomputable def f_M_liesOn_34  (a0 : Int64) (a2 : Int64) (a4 : Int64) (a6 : Int64) (a8 : Int64) (a10 : Int64) (m0 : gk_M) : Option (Int32 × gk_M) :=
  f_M_liesOn_35 a0 a2 a4 a6 a8 a10 0 m0

theorem s_M_liesOn_34 {z : gk_Z} (K : gk_F tm z me_M_liesOn 2) {r : Int32} {mem2 : gk_M} : ∀ a0 a2 a4 a6 a8 a10 m0, f_M_liesOn_34 a0 a2 a4 a6 a8 a10 m0 = some (r, mem2) → gk_G tm z me_M_liesOn (gk_R tm z (some (.int r)) mem2) m0 [(0, .long a0), (2, .long a2), (4, .long a4), (6, .long a6), (8, .long a8), (10, .long a10)] [] 34 := by
  intro a0 a2 a4 a6 a8 a10 m0  h
  unfold f_M_liesOn_34 at h
  refine gk_iconst (pc := 34) K d_M_liesOn_34 kc_0 ?_
  exact gk_sub [0, 1, 2, 3, 4, 5] rfl (s_M_liesOn_35 K _ _ _ _ _ _ _ _  h)
noncomputable def f_M_liesOn_30  (a0 : Int64) (a2 : Int64) (a4 : Int64) (a6 : Int64) (a8 : Int64) (a10 : Int64) (m0 : gk_M) : Option (Int32 × gk_M) :=
  f_M_liesOn_35 a0 a2 a4 a6 a8 a10 1 m0

theorem s_M_liesOn_30 {z : gk_Z} (K : gk_F tm z me_M_liesOn 2) {r : Int32} {mem2 : gk_M} : ∀ a0 a2 a4 a6 a8 a10 m0, f_M_liesOn_30 a0 a2 a4 a6 a8 a10 m0 = some (r, mem2) → gk_G tm z me_M_liesOn (gk_R tm z (some (.int r)) mem2) m0 [(0, .long a0), (2, .long a2), (4, .long a4), (6, .long a6), (8, .long a8), (10, .long a10)] [] 30 := by
  intro a0 a2 a4 a6 a8 a10 m0  h
  unfold f_M_liesOn_30 at h
  refine gk_iconst (pc := 30) K d_M_liesOn_30 kc_1 ?_
  refine gk_goto (tgt := 35) (pc := 31) K d_M_liesOn_31 (by decide) ?_
  exact gk_sub [0, 1, 2, 3, 4, 5] rfl (s_M_liesOn_35 K _ _ _ _ _ _ _ _  h)
noncomputable def f_M_liesOn_14  (a0 : Int64) (a2 : Int64) (a4 : Int64) (a6 : Int64) (a8 : Int64) (a10 : Int64) (m0 : gk_M) : Option (Int32 × gk_M) :=
  if ¬ a8 = a4 then
    f_M_liesOn_34 a0 a2 a4 a6 a8 a10 m0
  else
    if ¬ a10 = a6 then
      f_M_liesOn_34 a0 a2 a4 a6 a8 a10 m0
    else
      f_M_liesOn_30 a0 a2 a4 a6 a8 a10 m0

theorem s_M_liesOn_14 {z : gk_Z} (K : gk_F tm z me_M_liesOn 2) {r : Int32} {mem2 : gk_M} : ∀ a0 a2 a4 a6 a8 a10 m0, f_M_liesOn_14 a0 a2 a4 a6 a8 a10 m0 = some (r, mem2) → gk_G tm z me_M_liesOn (gk_R tm z (some (.int r)) mem2) m0 [(0, .long a0), (2, .long a2), (4, .long a4), (6, .long a6), (8, .long a8), (10, .long a10)] [] 14 := by
  intro a0 a2 a4 a6 a8 a10 m0  h
  unfold f_M_liesOn_14 at h
  refine gk_lload (pc := 14) K d_M_liesOn_14 rfl ?_
  refine gk_lload (pc := 16) K d_M_liesOn_16 rfl ?_
  refine gk_lc_ne (tgt := 34) (pc := 18) K d_M_liesOn_18 d_M_liesOn_19 (by decide) h (fun h => ?_) (fun h => ?_)
  · exact gk_sub [0, 1, 2, 3, 4, 5] rfl (s_M_liesOn_34 K _ _ _ _ _ _ _  h)
  · refine gk_lload (pc := 22) K d_M_liesOn_22 rfl ?_
    refine gk_lload (pc := 24) K d_M_liesOn_24 rfl ?_
    refine gk_lc_ne (tgt := 34) (pc := 26) K d_M_liesOn_26 d_M_liesOn_27 (by decide) h (fun h => ?_) (fun h => ?_)
    · exact gk_sub [0, 1, 2, 3, 4, 5] rfl (s_M_liesOn_34 K _ _ _ _ _ _ _  h)
    · exact gk_sub [0, 1, 2, 3, 4, 5] rfl (s_M_liesOn_30 K _ _ _ _ _ _ _  h)
noncomputable def f_M_liesOn  (a0 : Int64) (a2 : Int64) (a4 : Int64) (a6 : Int64) (a8 : Int64) (a10 : Int64) (m0 : gk_M) : Option (Int32 × gk_M) :=
  if ¬ a8 = a0 then
    f_M_liesOn_14 a0 a2 a4 a6 a8 a10 m0
  else
    if a10 = a2 then
      f_M_liesOn_30 a0 a2 a4 a6 a8 a10 m0
    else
      f_M_liesOn_14 a0 a2 a4 a6 a8 a10 m0

theorem s_M_liesOn_0 {z : gk_Z} (K : gk_F tm z me_M_liesOn 2) {r : Int32} {mem2 : gk_M} : ∀ a0 a2 a4 a6 a8 a10 m0, f_M_liesOn a0 a2 a4 a6 a8 a10 m0 = some (r, mem2) → gk_G tm z me_M_liesOn (gk_R tm z (some (.int r)) mem2) m0 [(0, .long a0), (2, .long a2), (4, .long a4), (6, .long a6), (8, .long a8), (10, .long a10)] [] 0 := by
  intro a0 a2 a4 a6 a8 a10 m0  h
  unfold f_M_liesOn at h
  refine gk_lload (pc := 0) K d_M_liesOn_0 rfl ?_
  refine gk_lload_n (pc := 2) K d_M_liesOn_2 rfl ?_
  refine gk_lc_ne (tgt := 14) (pc := 3) K d_M_liesOn_3 d_M_liesOn_4 (by decide) h (fun h => ?_) (fun h => ?_)
  · exact gk_sub [0, 1, 2, 3, 4, 5] rfl (s_M_liesOn_14 K _ _ _ _ _ _ _  h)
  · refine gk_lload (pc := 7) K d_M_liesOn_7 rfl ?_
    refine gk_lload_n (pc := 9) K d_M_liesOn_9 rfl ?_
    refine gk_lc_eq (tgt := 30) (pc := 10) K d_M_liesOn_10 d_M_liesOn_11 (by decide) h (fun h => ?_) (fun h => ?_)
    · exact gk_sub [0, 1, 2, 3, 4, 5] rfl (s_M_liesOn_30 K _ _ _ _ _ _ _  h)
    · exact gk_sub [0, 1, 2, 3, 4, 5] rfl (s_M_liesOn_14 K _ _ _ _ _ _ _  h)
theorem s_M_liesOn {l : Launch} {u : gk_U} (hD : gk_D tm u) {a0 : Int64} {a2 : Int64} {a4 : Int64} {a6 : Int64} {a8 : Int64} {a10 : Int64} {m0 mem2 : gk_M} {r : Int32} (h : f_M_liesOn a0 a2 a4 a6 a8 a10 m0 = some (r, mem2)) : gk_C tm l u me_M_liesOn 2 [.long a0, .long a2, .long a4, .long a6, .long a8, .long a10] m0 (some (.int r)) mem2 :=
  gk_enter hD mc_M_liesOn (Nat.le_of_ble_eq_true rfl) rfl (fun z _ _ K => s_M_liesOn_0 K _ _ _ _ _ _ _  h)
theorem d_M_areUnlike_0 : decode me_M_areUnlike.2.1 0 = .ok (.lload_n 0, 1) := by decide +kernel
theorem d_M_areUnlike_1 : decode me_M_areUnlike.2.1 1 = .ok (.lconst 0, 1) := by decide +kernel
theorem d_M_areUnlike_2 : decode me_M_areUnlike.2.1 2 = .ok (.lcmp, 1) := by decide +kernel
theorem d_M_areUnlike_3 : decode me_M_areUnlike.2.1 3 = .ok (.ifCond .ge 9, 3) := by decide +kernel
theorem d_M_areUnlike_6 : decode me_M_areUnlike.2.1 6 = .ok (.lload_n 2, 1) := by decide +kernel
theorem d_M_areUnlike_7 : decode me_M_areUnlike.2.1 7 = .ok (.lconst 0, 1) := by decide +kernel
theorem d_M_areUnlike_8 : decode me_M_areUnlike.2.1 8 = .ok (.lcmp, 1) := by decide +kernel
theorem d_M_areUnlike_9 : decode me_M_areUnlike.2.1 9 = .ok (.ifCond .gt 15, 3) := by decide +kernel
theorem d_M_areUnlike_12 : decode me_M_areUnlike.2.1 12 = .ok (.lload_n 0, 1) := by decide +kernel
theorem d_M_areUnlike_13 : decode me_M_areUnlike.2.1 13 = .ok (.lconst 0, 1) := by decide +kernel
theorem d_M_areUnlike_14 : decode me_M_areUnlike.2.1 14 = .ok (.lcmp, 1) := by decide +kernel
theorem d_M_areUnlike_15 : decode me_M_areUnlike.2.1 15 = .ok (.ifCond .le 13, 3) := by decide +kernel
theorem d_M_areUnlike_18 : decode me_M_areUnlike.2.1 18 = .ok (.lload_n 2, 1) := by decide +kernel
theorem d_M_areUnlike_19 : decode me_M_areUnlike.2.1 19 = .ok (.lconst 0, 1) := by decide +kernel
theorem d_M_areUnlike_20 : decode me_M_areUnlike.2.1 20 = .ok (.lcmp, 1) := by decide +kernel
theorem d_M_areUnlike_21 : decode me_M_areUnlike.2.1 21 = .ok (.ifCond .ge 7, 3) := by decide +kernel
theorem d_M_areUnlike_24 : decode me_M_areUnlike.2.1 24 = .ok (.iconst 1, 1) := by decide +kernel
theorem d_M_areUnlike_25 : decode me_M_areUnlike.2.1 25 = .ok (.goto 4, 3) := by decide +kernel
theorem d_M_areUnlike_28 : decode me_M_areUnlike.2.1 28 = .ok (.iconst 0, 1) := by decide +kernel
theorem d_M_areUnlike_29 : decode me_M_areUnlike.2.1 29 = .ok (.ireturn, 1) := by decide +kernel
noncomputable def f_M_areUnlike_12  (a0 : Int64) (a2 : Int64) (m0 : gk_M) : Option (Int32 × gk_M) :=
  if a0 ≤ 0 then
    some (0, m0)
  else
    if 0 ≤ a2 then
      some (0, m0)
    else
      some (1, m0)

theorem s_M_areUnlike_12 {z : gk_Z} (K : gk_F tm z me_M_areUnlike 1) {r : Int32} {mem2 : gk_M} : ∀ a0 a2 m0, f_M_areUnlike_12 a0 a2 m0 = some (r, mem2) → gk_G tm z me_M_areUnlike (gk_R tm z (some (.int r)) mem2) m0 [(0, .long a0), (2, .long a2)] [] 12 := by
  intro a0 a2 m0  h
  unfold f_M_areUnlike_12 at h
  refine gk_lload_n (pc := 12) K d_M_areUnlike_12 rfl ?_
  refine gk_lconst (pc := 13) K d_M_areUnlike_13 kl_0 ?_
  refine gk_lc_le (tgt := 28) (pc := 14) K d_M_areUnlike_14 d_M_areUnlike_15 (by decide) h (fun h => ?_) (fun h => ?_)
  · refine gk_iconst (pc := 28) K d_M_areUnlike_28 kc_0 ?_
    exact gk_zretc (pc := 29) K d_M_areUnlike_29 rfl (Or.inl rfl) h
  · refine gk_lload_n (pc := 18) K d_M_areUnlike_18 rfl ?_
    refine gk_lconst (pc := 19) K d_M_areUnlike_19 kl_0 ?_
    refine gk_lc_ge (tgt := 28) (pc := 20) K d_M_areUnlike_20 d_M_areUnlike_21 (by decide) h (fun h => ?_) (fun h => ?_)
    · refine gk_iconst (pc := 28) K d_M_areUnlike_28 kc_0 ?_
      exact gk_zretc (pc := 29) K d_M_areUnlike_29 rfl (Or.inl rfl) h
    · refine gk_iconst (pc := 24) K d_M_areUnlike_24 kc_1 ?_
      refine gk_goto (tgt := 29) (pc := 25) K d_M_areUnlike_25 (by decide) ?_
      exact gk_zretc (pc := 29) K d_M_areUnlike_29 rfl (Or.inr rfl) h
noncomputable def f_M_areUnlike  (a0 : Int64) (a2 : Int64) (m0 : gk_M) : Option (Int32 × gk_M) :=
  if 0 ≤ a0 then
    f_M_areUnlike_12 a0 a2 m0
  else
    if 0 < a2 then
      some (1, m0)
    else
      f_M_areUnlike_12 a0 a2 m0

theorem s_M_areUnlike_0 {z : gk_Z} (K : gk_F tm z me_M_areUnlike 1) {r : Int32} {mem2 : gk_M} : ∀ a0 a2 m0, f_M_areUnlike a0 a2 m0 = some (r, mem2) → gk_G tm z me_M_areUnlike (gk_R tm z (some (.int r)) mem2) m0 [(0, .long a0), (2, .long a2)] [] 0 := by
  intro a0 a2 m0  h
  unfold f_M_areUnlike at h
  refine gk_lload_n (pc := 0) K d_M_areUnlike_0 rfl ?_
  refine gk_lconst (pc := 1) K d_M_areUnlike_1 kl_0 ?_
  refine gk_lc_ge (tgt := 12) (pc := 2) K d_M_areUnlike_2 d_M_areUnlike_3 (by decide) h (fun h => ?_) (fun h => ?_)
  · exact gk_sub [0, 1] rfl (s_M_areUnlike_12 K _ _ _  h)
  · refine gk_lload_n (pc := 6) K d_M_areUnlike_6 rfl ?_
    refine gk_lconst (pc := 7) K d_M_areUnlike_7 kl_0 ?_
    refine gk_lc_gt (tgt := 24) (pc := 8) K d_M_areUnlike_8 d_M_areUnlike_9 (by decide) h (fun h => ?_) (fun h => ?_)
    · refine gk_iconst (pc := 24) K d_M_areUnlike_24 kc_1 ?_
      refine gk_goto (tgt := 29) (pc := 25) K d_M_areUnlike_25 (by decide) ?_
      exact gk_zretc (pc := 29) K d_M_areUnlike_29 rfl (Or.inr rfl) h
    · exact gk_sub [0, 1] rfl (s_M_areUnlike_12 K _ _ _  h)
theorem s_M_areUnlike {l : Launch} {u : gk_U} (hD : gk_D tm u) {a0 : Int64} {a2 : Int64} {m0 mem2 : gk_M} {r : Int32} (h : f_M_areUnlike a0 a2 m0 = some (r, mem2)) : gk_C tm l u me_M_areUnlike 1 [.long a0, .long a2] m0 (some (.int r)) mem2 :=
  gk_enter hD mc_M_areUnlike (Nat.le_of_ble_eq_true rfl) rfl (fun z _ _ K => s_M_areUnlike_0 K _ _ _  h)
theorem d_M_stops_0 : decode me_M_stops.2.1 0 = .ok (.aload_n 0, 1) := by decide +kernel
theorem d_M_stops_1 : decode me_M_stops.2.1 1 = .ok (.getfield 37, 3) := by decide +kernel
theorem d_M_stops_4 : decode me_M_stops.2.1 4 = .ok (.iconst 2, 1) := by decide +kernel
theorem d_M_stops_5 : decode me_M_stops.2.1 5 = .ok (.iload_n 1, 1) := by decide +kernel
theorem d_M_stops_6 : decode me_M_stops.2.1 6 = .ok (.imul, 1) := by decide +kernel
theorem d_M_stops_7 : decode me_M_stops.2.1 7 = .ok (.iaload, 1) := by decide +kernel
theorem d_M_stops_8 : decode me_M_stops.2.1 8 = .ok (.bipush 30, 2) := by decide +kernel
theorem d_M_stops_10 : decode me_M_stops.2.1 10 = .ok (.irem, 1) := by decide +kernel
theorem d_M_stops_11 : decode me_M_stops.2.1 11 = .ok (.i2l, 1) := by decide +kernel
theorem d_M_stops_12 : decode me_M_stops.2.1 12 = .ok (.lload 10, 2) := by decide +kernel
theorem d_M_stops_14 : decode me_M_stops.2.1 14 = .ok (.lmul, 1) := by decide +kernel
theorem d_M_stops_15 : decode me_M_stops.2.1 15 = .ok (.lstore 12, 2) := by decide +kernel
theorem d_M_stops_17 : decode me_M_stops.2.1 17 = .ok (.aload_n 0, 1) := by decide +kernel
theorem d_M_stops_18 : decode me_M_stops.2.1 18 = .ok (.getfield 37, 3) := by decide +kernel
theorem d_M_stops_21 : decode me_M_stops.2.1 21 = .ok (.iconst 2, 1) := by decide +kernel
theorem d_M_stops_22 : decode me_M_stops.2.1 22 = .ok (.iload_n 1, 1) := by decide +kernel
theorem d_M_stops_23 : decode me_M_stops.2.1 23 = .ok (.imul, 1) := by decide +kernel
theorem d_M_stops_24 : decode me_M_stops.2.1 24 = .ok (.iaload, 1) := by decide +kernel
theorem d_M_stops_25 : decode me_M_stops.2.1 25 = .ok (.bipush 30, 2) := by decide +kernel
theorem d_M_stops_27 : decode me_M_stops.2.1 27 = .ok (.idiv, 1) := by decide +kernel
theorem d_M_stops_28 : decode me_M_stops.2.1 28 = .ok (.i2l, 1) := by decide +kernel
theorem d_M_stops_29 : decode me_M_stops.2.1 29 = .ok (.lload 10, 2) := by decide +kernel
theorem d_M_stops_31 : decode me_M_stops.2.1 31 = .ok (.lmul, 1) := by decide +kernel
theorem d_M_stops_32 : decode me_M_stops.2.1 32 = .ok (.lstore 14, 2) := by decide +kernel
theorem d_M_stops_34 : decode me_M_stops.2.1 34 = .ok (.aload_n 0, 1) := by decide +kernel
theorem d_M_stops_35 : decode me_M_stops.2.1 35 = .ok (.getfield 37, 3) := by decide +kernel
theorem d_M_stops_38 : decode me_M_stops.2.1 38 = .ok (.iconst 2, 1) := by decide +kernel
theorem d_M_stops_39 : decode me_M_stops.2.1 39 = .ok (.iload_n 1, 1) := by decide +kernel
theorem d_M_stops_40 : decode me_M_stops.2.1 40 = .ok (.imul, 1) := by decide +kernel
theorem d_M_stops_41 : decode me_M_stops.2.1 41 = .ok (.iconst 1, 1) := by decide +kernel
theorem d_M_stops_42 : decode me_M_stops.2.1 42 = .ok (.iadd, 1) := by decide +kernel
theorem d_M_stops_43 : decode me_M_stops.2.1 43 = .ok (.iaload, 1) := by decide +kernel
theorem d_M_stops_44 : decode me_M_stops.2.1 44 = .ok (.bipush 30, 2) := by decide +kernel
theorem d_M_stops_46 : decode me_M_stops.2.1 46 = .ok (.irem, 1) := by decide +kernel
theorem d_M_stops_47 : decode me_M_stops.2.1 47 = .ok (.i2l, 1) := by decide +kernel
theorem d_M_stops_48 : decode me_M_stops.2.1 48 = .ok (.lload 10, 2) := by decide +kernel
theorem d_M_stops_50 : decode me_M_stops.2.1 50 = .ok (.lmul, 1) := by decide +kernel
theorem d_M_stops_51 : decode me_M_stops.2.1 51 = .ok (.lstore 16, 2) := by decide +kernel
theorem d_M_stops_53 : decode me_M_stops.2.1 53 = .ok (.aload_n 0, 1) := by decide +kernel
theorem d_M_stops_54 : decode me_M_stops.2.1 54 = .ok (.getfield 37, 3) := by decide +kernel
theorem d_M_stops_57 : decode me_M_stops.2.1 57 = .ok (.iconst 2, 1) := by decide +kernel
theorem d_M_stops_58 : decode me_M_stops.2.1 58 = .ok (.iload_n 1, 1) := by decide +kernel
theorem d_M_stops_59 : decode me_M_stops.2.1 59 = .ok (.imul, 1) := by decide +kernel
theorem d_M_stops_60 : decode me_M_stops.2.1 60 = .ok (.iconst 1, 1) := by decide +kernel
theorem d_M_stops_61 : decode me_M_stops.2.1 61 = .ok (.iadd, 1) := by decide +kernel
theorem d_M_stops_62 : decode me_M_stops.2.1 62 = .ok (.iaload, 1) := by decide +kernel
theorem d_M_stops_63 : decode me_M_stops.2.1 63 = .ok (.bipush 30, 2) := by decide +kernel
theorem d_M_stops_65 : decode me_M_stops.2.1 65 = .ok (.idiv, 1) := by decide +kernel
theorem d_M_stops_66 : decode me_M_stops.2.1 66 = .ok (.i2l, 1) := by decide +kernel
theorem d_M_stops_67 : decode me_M_stops.2.1 67 = .ok (.lload 10, 2) := by decide +kernel
theorem d_M_stops_69 : decode me_M_stops.2.1 69 = .ok (.lmul, 1) := by decide +kernel
theorem d_M_stops_70 : decode me_M_stops.2.1 70 = .ok (.lstore 18, 2) := by decide +kernel
theorem d_M_stops_72 : decode me_M_stops.2.1 72 = .ok (.lload_n 2, 1) := by decide +kernel
theorem d_M_stops_73 : decode me_M_stops.2.1 73 = .ok (.lload 4, 2) := by decide +kernel
theorem d_M_stops_75 : decode me_M_stops.2.1 75 = .ok (.lload 6, 2) := by decide +kernel
theorem d_M_stops_77 : decode me_M_stops.2.1 77 = .ok (.lload 8, 2) := by decide +kernel
theorem d_M_stops_79 : decode me_M_stops.2.1 79 = .ok (.lload 12, 2) := by decide +kernel
theorem d_M_stops_81 : decode me_M_stops.2.1 81 = .ok (.lload 14, 2) := by decide +kernel
theorem d_M_stops_83 : decode me_M_stops.2.1 83 = .ok (.invokestatic 223, 3) := by decide +kernel
theorem d_M_stops_86 : decode me_M_stops.2.1 86 = .ok (.ifCond .ne 20, 3) := by decide +kernel
theorem d_M_stops_89 : decode me_M_stops.2.1 89 = .ok (.lload_n 2, 1) := by decide +kernel
theorem d_M_stops_90 : decode me_M_stops.2.1 90 = .ok (.lload 4, 2) := by decide +kernel
theorem d_M_stops_92 : decode me_M_stops.2.1 92 = .ok (.lload 6, 2) := by decide +kernel
theorem d_M_stops_94 : decode me_M_stops.2.1 94 = .ok (.lload 8, 2) := by decide +kernel
theorem d_M_stops_96 : decode me_M_stops.2.1 96 = .ok (.lload 16, 2) := by decide +kernel
theorem d_M_stops_98 : decode me_M_stops.2.1 98 = .ok (.lload 18, 2) := by decide +kernel
theorem d_M_stops_100 : decode me_M_stops.2.1 100 = .ok (.invokestatic 223, 3) := by decide +kernel
theorem d_M_stops_103 : decode me_M_stops.2.1 103 = .ok (.ifCond .eq 5, 3) := by decide +kernel
theorem d_M_stops_106 : decode me_M_stops.2.1 106 = .ok (.iconst 1, 1) := by decide +kernel
theorem d_M_stops_107 : decode me_M_stops.2.1 107 = .ok (.ireturn, 1) := by decide +kernel
theorem d_M_stops_108 : decode me_M_stops.2.1 108 = .ok (.lload_n 2, 1) := by decide +kernel
theorem d_M_stops_109 : decode me_M_stops.2.1 109 = .ok (.lload 4, 2) := by decide +kernel
theorem d_M_stops_111 : decode me_M_stops.2.1 111 = .ok (.lload 6, 2) := by decide +kernel
theorem d_M_stops_113 : decode me_M_stops.2.1 113 = .ok (.lload 8, 2) := by decide +kernel
theorem d_M_stops_115 : decode me_M_stops.2.1 115 = .ok (.lload 12, 2) := by decide +kernel
theorem d_M_stops_117 : decode me_M_stops.2.1 117 = .ok (.lload 14, 2) := by decide +kernel
theorem d_M_stops_119 : decode me_M_stops.2.1 119 = .ok (.invokestatic 216, 3) := by decide +kernel
theorem d_M_stops_122 : decode me_M_stops.2.1 122 = .ok (.lstore 20, 2) := by decide +kernel
theorem d_M_stops_124 : decode me_M_stops.2.1 124 = .ok (.lload_n 2, 1) := by decide +kernel
theorem d_M_stops_125 : decode me_M_stops.2.1 125 = .ok (.lload 4, 2) := by decide +kernel
theorem d_M_stops_127 : decode me_M_stops.2.1 127 = .ok (.lload 6, 2) := by decide +kernel
theorem d_M_stops_129 : decode me_M_stops.2.1 129 = .ok (.lload 8, 2) := by decide +kernel
theorem d_M_stops_131 : decode me_M_stops.2.1 131 = .ok (.lload 16, 2) := by decide +kernel
theorem d_M_stops_133 : decode me_M_stops.2.1 133 = .ok (.lload 18, 2) := by decide +kernel
theorem d_M_stops_135 : decode me_M_stops.2.1 135 = .ok (.invokestatic 216, 3) := by decide +kernel
theorem d_M_stops_138 : decode me_M_stops.2.1 138 = .ok (.lstore 22, 2) := by decide +kernel
theorem d_M_stops_140 : decode me_M_stops.2.1 140 = .ok (.lload 20, 2) := by decide +kernel
theorem d_M_stops_142 : decode me_M_stops.2.1 142 = .ok (.lconst 0, 1) := by decide +kernel
theorem d_M_stops_143 : decode me_M_stops.2.1 143 = .ok (.lcmp, 1) := by decide +kernel
theorem d_M_stops_144 : decode me_M_stops.2.1 144 = .ok (.ifCond .ne 63, 3) := by decide +kernel
theorem d_M_stops_147 : decode me_M_stops.2.1 147 = .ok (.lload 22, 2) := by decide +kernel
theorem d_M_stops_149 : decode me_M_stops.2.1 149 = .ok (.lconst 0, 1) := by decide +kernel
theorem d_M_stops_150 : decode me_M_stops.2.1 150 = .ok (.lcmp, 1) := by decide +kernel
theorem d_M_stops_151 : decode me_M_stops.2.1 151 = .ok (.ifCond .ne 56, 3) := by decide +kernel
theorem d_M_stops_154 : decode me_M_stops.2.1 154 = .ok (.lload 12, 2) := by decide +kernel
theorem d_M_stops_156 : decode me_M_stops.2.1 156 = .ok (.lload_n 2, 1) := by decide +kernel
theorem d_M_stops_157 : decode me_M_stops.2.1 157 = .ok (.lload 16, 2) := by decide +kernel
theorem d_M_stops_159 : decode me_M_stops.2.1 159 = .ok (.invokestatic 220, 3) := by decide +kernel
theorem d_M_stops_162 : decode me_M_stops.2.1 162 = .ok (.ifCond .eq 43, 3) := by decide +kernel
theorem d_M_stops_165 : decode me_M_stops.2.1 165 = .ok (.lload 14, 2) := by decide +kernel
theorem d_M_stops_167 : decode me_M_stops.2.1 167 = .ok (.lload 4, 2) := by decide +kernel
theorem d_M_stops_169 : decode me_M_stops.2.1 169 = .ok (.lload 18, 2) := by decide +kernel
theorem d_M_stops_171 : decode me_M_stops.2.1 171 = .ok (.invokestatic 220, 3) := by decide +kernel
theorem d_M_stops_174 : decode me_M_stops.2.1 174 = .ok (.ifCond .eq 31, 3) := by decide +kernel
theorem d_M_stops_177 : decode me_M_stops.2.1 177 = .ok (.lload 12, 2) := by decide +kernel
theorem d_M_stops_179 : decode me_M_stops.2.1 179 = .ok (.lload 6, 2) := by decide +kernel
theorem d_M_stops_181 : decode me_M_stops.2.1 181 = .ok (.lload 16, 2) := by decide +kernel
theorem d_M_stops_183 : decode me_M_stops.2.1 183 = .ok (.invokestatic 220, 3) := by decide +kernel
theorem d_M_stops_186 : decode me_M_stops.2.1 186 = .ok (.ifCond .eq 19, 3) := by decide +kernel
theorem d_M_stops_189 : decode me_M_stops.2.1 189 = .ok (.lload 14, 2) := by decide +kernel
theorem d_M_stops_191 : decode me_M_stops.2.1 191 = .ok (.lload 8, 2) := by decide +kernel
theorem d_M_stops_193 : decode me_M_stops.2.1 193 = .ok (.lload 18, 2) := by decide +kernel
theorem d_M_stops_195 : decode me_M_stops.2.1 195 = .ok (.invokestatic 220, 3) := by decide +kernel
theorem d_M_stops_198 : decode me_M_stops.2.1 198 = .ok (.ifCond .eq 7, 3) := by decide +kernel
theorem d_M_stops_201 : decode me_M_stops.2.1 201 = .ok (.iconst 1, 1) := by decide +kernel
theorem d_M_stops_202 : decode me_M_stops.2.1 202 = .ok (.goto 4, 3) := by decide +kernel
theorem d_M_stops_205 : decode me_M_stops.2.1 205 = .ok (.iconst 0, 1) := by decide +kernel
theorem d_M_stops_206 : decode me_M_stops.2.1 206 = .ok (.ireturn, 1) := by decide +kernel
theorem d_M_stops_207 : decode me_M_stops.2.1 207 = .ok (.lload 20, 2) := by decide +kernel
theorem d_M_stops_209 : decode me_M_stops.2.1 209 = .ok (.lload 22, 2) := by decide +kernel
theorem d_M_stops_211 : decode me_M_stops.2.1 211 = .ok (.invokestatic 227, 3) := by decide +kernel
theorem d_M_stops_214 : decode me_M_stops.2.1 214 = .ok (.ifCond .eq 42, 3) := by decide +kernel
theorem d_M_stops_217 : decode me_M_stops.2.1 217 = .ok (.lload 12, 2) := by decide +kernel
theorem d_M_stops_219 : decode me_M_stops.2.1 219 = .ok (.lload 14, 2) := by decide +kernel
theorem d_M_stops_221 : decode me_M_stops.2.1 221 = .ok (.lload 16, 2) := by decide +kernel
theorem d_M_stops_223 : decode me_M_stops.2.1 223 = .ok (.lload 18, 2) := by decide +kernel
theorem d_M_stops_225 : decode me_M_stops.2.1 225 = .ok (.lload_n 2, 1) := by decide +kernel
theorem d_M_stops_226 : decode me_M_stops.2.1 226 = .ok (.lload 4, 2) := by decide +kernel
theorem d_M_stops_228 : decode me_M_stops.2.1 228 = .ok (.invokestatic 216, 3) := by decide +kernel
theorem d_M_stops_231 : decode me_M_stops.2.1 231 = .ok (.lload 12, 2) := by decide +kernel
theorem d_M_stops_233 : decode me_M_stops.2.1 233 = .ok (.lload 14, 2) := by decide +kernel
theorem d_M_stops_235 : decode me_M_stops.2.1 235 = .ok (.lload 16, 2) := by decide +kernel
theorem d_M_stops_237 : decode me_M_stops.2.1 237 = .ok (.lload 18, 2) := by decide +kernel
theorem d_M_stops_239 : decode me_M_stops.2.1 239 = .ok (.lload 6, 2) := by decide +kernel
theorem d_M_stops_241 : decode me_M_stops.2.1 241 = .ok (.lload 8, 2) := by decide +kernel
theorem d_M_stops_243 : decode me_M_stops.2.1 243 = .ok (.invokestatic 216, 3) := by decide +kernel
theorem d_M_stops_246 : decode me_M_stops.2.1 246 = .ok (.invokestatic 227, 3) := by decide +kernel
theorem d_M_stops_249 : decode me_M_stops.2.1 249 = .ok (.ifCond .eq 7, 3) := by decide +kernel
theorem d_M_stops_252 : decode me_M_stops.2.1 252 = .ok (.iconst 1, 1) := by decide +kernel
theorem d_M_stops_253 : decode me_M_stops.2.1 253 = .ok (.goto 4, 3) := by decide +kernel
theorem d_M_stops_256 : decode me_M_stops.2.1 256 = .ok (.iconst 0, 1) := by decide +kernel
theorem d_M_stops_257 : decode me_M_stops.2.1 257 = .ok (.ireturn, 1) := by decide +kernel
noncomputable def f_M_stops_207  (a2 : Int64) (a4 : Int64) (a6 : Int64) (a8 : Int64) (a12 : Int64) (a14 : Int64) (a16 : Int64) (a18 : Int64) (a20 : Int64) (a22 : Int64) (m0 : gk_M) : Option (Int32 × gk_M) :=
  gk_bi (f_M_areUnlike a20 a22 m0) fun v2 m1 =>
  if v2 = 0 then
    some (0, m1)
  else
    gk_bl (f_M_side a12 a14 a16 a18 a2 a4 m1) fun v4 m3 =>
    gk_bl (f_M_side a12 a14 a16 a18 a6 a8 m3) fun v6 m5 =>
    gk_bi (f_M_areUnlike v4 v6 m5) fun v8 m7 =>
    if v8 = 0 then
      some (0, m7)
    else
      some (1, m7)

theorem s_M_stops_207 {z : gk_Z} (K : gk_F tm z me_M_stops 3) {r : Int32} {mem2 : gk_M} : ∀ a2 a4 a6 a8 a12 a14 a16 a18 a20 a22 m0, f_M_stops_207 a2 a4 a6 a8 a12 a14 a16 a18 a20 a22 m0 = some (r, mem2) → gk_G tm z me_M_stops (gk_R tm z (some (.int r)) mem2) m0 [(2, .long a2), (4, .long a4), (6, .long a6), (8, .long a8), (12, .long a12), (14, .long a14), (16, .long a16), (18, .long a18), (20, .long a20), (22, .long a22)] [] 207 := by
  intro a2 a4 a6 a8 a12 a14 a16 a18 a20 a22 m0  h
  unfold f_M_stops_207 at h
  refine gk_lload (pc := 207) K d_M_stops_207 rfl ?_
  refine gk_lload (pc := 209) K d_M_stops_209 rfl ?_
  obtain ⟨v2, m1, em1, h⟩ := gk_bi_some h
  refine gk_cSi (As := [.long a20, .long a22]) (pc := 211) K d_M_stops_211 ms_M_227 mc_M_areUnlike rfl (s_M_areUnlike (gk_FD K)  em1) (by decide) rfl (Nat.le_of_ble_eq_true rfl) ?_
  refine gk_if_eq (tgt := 256) (pc := 214) K d_M_stops_214 (by decide) h (fun h => ?_) (fun h => ?_)
  · refine gk_iconst (pc := 256) K d_M_stops_256 kc_0 ?_
    exact gk_zretc (pc := 257) K d_M_stops_257 rfl (Or.inl rfl) h
  · refine gk_lload (pc := 217) K d_M_stops_217 rfl ?_
    refine gk_lload (pc := 219) K d_M_stops_219 rfl ?_
    refine gk_lload (pc := 221) K d_M_stops_221 rfl ?_
    refine gk_lload (pc := 223) K d_M_stops_223 rfl ?_
    refine gk_lload_n (pc := 225) K d_M_stops_225 rfl ?_
    refine gk_lload (pc := 226) K d_M_stops_226 rfl ?_
    obtain ⟨v4, m3, em3, h⟩ := gk_bl_some h
    refine gk_cSl (As := [.long a12, .long a14, .long a16, .long a18, .long a2, .long a4]) (pc := 228) K d_M_stops_228 ms_M_216 mc_M_side rfl (s_M_side (gk_FD K)  em3) (by decide) rfl (Nat.le_of_ble_eq_true rfl) ?_
    refine gk_lload (pc := 231) K d_M_stops_231 rfl ?_
    refine gk_lload (pc := 233) K d_M_stops_233 rfl ?_
    refine gk_lload (pc := 235) K d_M_stops_235 rfl ?_
    refine gk_lload (pc := 237) K d_M_stops_237 rfl ?_
    refine gk_lload (pc := 239) K d_M_stops_239 rfl ?_
    refine gk_lload (pc := 241) K d_M_stops_241 rfl ?_
    obtain ⟨v6, m5, em5, h⟩ := gk_bl_some h
    refine gk_cSl (As := [.long a12, .long a14, .long a16, .long a18, .long a6, .long a8]) (pc := 243) K d_M_stops_243 ms_M_216 mc_M_side rfl (s_M_side (gk_FD K)  em5) (by decide) rfl (Nat.le_of_ble_eq_true rfl) ?_
    obtain ⟨v8, m7, em7, h⟩ := gk_bi_some h
    refine gk_cSi (As := [.long v4, .long v6]) (pc := 246) K d_M_stops_246 ms_M_227 mc_M_areUnlike rfl (s_M_areUnlike (gk_FD K)  em7) (by decide) rfl (Nat.le_of_ble_eq_true rfl) ?_
    refine gk_if_eq (tgt := 256) (pc := 249) K d_M_stops_249 (by decide) h (fun h => ?_) (fun h => ?_)
    · refine gk_iconst (pc := 256) K d_M_stops_256 kc_0 ?_
      exact gk_zretc (pc := 257) K d_M_stops_257 rfl (Or.inl rfl) h
    · refine gk_iconst (pc := 252) K d_M_stops_252 kc_1 ?_
      refine gk_goto (tgt := 257) (pc := 253) K d_M_stops_253 (by decide) ?_
      exact gk_zretc (pc := 257) K d_M_stops_257 rfl (Or.inr rfl) h
noncomputable def f_M_stops  (a1 : Int32) (a2 : Int64) (a4 : Int64) (a6 : Int64) (a8 : Int64) (a10 : Int64) (m0 : gk_M) : Option (Int32 × gk_M) :=
  gk_ai m0 10 16 (2 * a1) fun v1 =>
  gk_let ((gk_rem v1 30).toInt64 * a10) fun v2 =>
  gk_ai m0 10 16 (2 * a1) fun v3 =>
  gk_let ((v3 / 30).toInt64 * a10) fun v4 =>
  gk_ai m0 10 16 ((2 * a1) + 1) fun v5 =>
  gk_let ((gk_rem v5 30).toInt64 * a10) fun v6 =>
  gk_ai m0 10 16 ((2 * a1) + 1) fun v7 =>
  gk_let ((v7 / 30).toInt64 * a10) fun v8 =>
  gk_bi (f_M_liesOn a2 a4 a6 a8 v2 v4 m0) fun v10 m9 =>
  if ¬ v10 = 0 then
    some (1, m9)
  else
    gk_bi (f_M_liesOn a2 a4 a6 a8 v6 v8 m9) fun v12 m11 =>
    if v12 = 0 then
      gk_bl (f_M_side a2 a4 a6 a8 v2 v4 m11) fun v14 m13 =>
      gk_bl (f_M_side a2 a4 a6 a8 v6 v8 m13) fun v16 m15 =>
      if ¬ v14 = 0 then
        f_M_stops_207 a2 a4 a6 a8 v2 v4 v6 v8 v14 v16 m15
      else
        if ¬ v16 = 0 then
          f_M_stops_207 a2 a4 a6 a8 v2 v4 v6 v8 v14 v16 m15
        else
          gk_bi (f_M_isBetween v2 a2 v6 m15) fun v18 m17 =>
          if v18 = 0 then
            some (0, m17)
          else
            gk_bi (f_M_isBetween v4 a4 v8 m17) fun v20 m19 =>
            if v20 = 0 then
              some (0, m19)
            else
              gk_bi (f_M_isBetween v2 a6 v6 m19) fun v22 m21 =>
              if v22 = 0 then
                some (0, m21)
              else
                gk_bi (f_M_isBetween v4 a8 v8 m21) fun v24 m23 =>
                if v24 = 0 then
                  some (0, m23)
                else
                  some (1, m23)
    else
      some (1, m11)

theorem s_M_stops_0 {z : gk_Z} (K : gk_F tm z me_M_stops 3) {r : Int32} {mem2 : gk_M} : ∀ a1 a2 a4 a6 a8 a10 m0, f_M_stops a1 a2 a4 a6 a8 a10 m0 = some (r, mem2) → gk_G tm z me_M_stops (gk_R tm z (some (.int r)) mem2) m0 [(0, .ref 0), (1, .int a1), (2, .long a2), (4, .long a4), (6, .long a6), (8, .long a8), (10, .long a10)] [] 0 := by
  intro a1 a2 a4 a6 a8 a10 m0  h
  unfold f_M_stops at h
  refine gk_aload_n (pc := 0) K d_M_stops_0 rfl ?_
  refine gk_get (pc := 1) K d_M_stops_1 fl_M_37 tm_0 rfl rfl ?_
  refine gk_iconst (pc := 4) K d_M_stops_4 kc_2 ?_
  refine gk_iload_n (pc := 5) K d_M_stops_5 rfl ?_
  refine gk_imul (pc := 6) K d_M_stops_6 ?_
  refine gk_iald (pc := 7) K d_M_stops_7 tm_10 h (fun v1 h => ?_)
  refine gk_bipush (pc := 8) K d_M_stops_8 kb_30 ?_
  refine gk_iremc2 (pc := 10) K d_M_stops_10 (by decide) ?_
  refine gk_i2l (pc := 11) K d_M_stops_11 ?_
  refine gk_lload (pc := 12) K d_M_stops_12 rfl ?_
  refine gk_lmul (pc := 14) K d_M_stops_14 ?_
  refine gk_topl h (fun v2 h => ?_)
  refine gk_lstore (lv2 := [(12, .long v2), (0, .ref 0), (1, .int a1), (2, .long a2), (4, .long a4), (6, .long a6), (8, .long a8), (10, .long a10)]) (pc := 15) K d_M_stops_15 (by decide) rfl ?_
  refine gk_aload_n (pc := 17) K d_M_stops_17 rfl ?_
  refine gk_get (pc := 18) K d_M_stops_18 fl_M_37 tm_0 rfl rfl ?_
  refine gk_iconst (pc := 21) K d_M_stops_21 kc_2 ?_
  refine gk_iload_n (pc := 22) K d_M_stops_22 rfl ?_
  refine gk_imul (pc := 23) K d_M_stops_23 ?_
  refine gk_iald (pc := 24) K d_M_stops_24 tm_10 h (fun v3 h => ?_)
  refine gk_bipush (pc := 25) K d_M_stops_25 kb_30 ?_
  refine gk_idivc2 (pc := 27) K d_M_stops_27 (by decide) ?_
  refine gk_i2l (pc := 28) K d_M_stops_28 ?_
  refine gk_lload (pc := 29) K d_M_stops_29 rfl ?_
  refine gk_lmul (pc := 31) K d_M_stops_31 ?_
  refine gk_topl h (fun v4 h => ?_)
  refine gk_lstore (lv2 := [(14, .long v4), (12, .long v2), (0, .ref 0), (1, .int a1), (2, .long a2), (4, .long a4), (6, .long a6), (8, .long a8), (10, .long a10)]) (pc := 32) K d_M_stops_32 (by decide) rfl ?_
  refine gk_aload_n (pc := 34) K d_M_stops_34 rfl ?_
  refine gk_get (pc := 35) K d_M_stops_35 fl_M_37 tm_0 rfl rfl ?_
  refine gk_iconst (pc := 38) K d_M_stops_38 kc_2 ?_
  refine gk_iload_n (pc := 39) K d_M_stops_39 rfl ?_
  refine gk_imul (pc := 40) K d_M_stops_40 ?_
  refine gk_iconst (pc := 41) K d_M_stops_41 kc_1 ?_
  refine gk_iadd (pc := 42) K d_M_stops_42 ?_
  refine gk_iald (pc := 43) K d_M_stops_43 tm_10 h (fun v5 h => ?_)
  refine gk_bipush (pc := 44) K d_M_stops_44 kb_30 ?_
  refine gk_iremc2 (pc := 46) K d_M_stops_46 (by decide) ?_
  refine gk_i2l (pc := 47) K d_M_stops_47 ?_
  refine gk_lload (pc := 48) K d_M_stops_48 rfl ?_
  refine gk_lmul (pc := 50) K d_M_stops_50 ?_
  refine gk_topl h (fun v6 h => ?_)
  refine gk_lstore (lv2 := [(16, .long v6), (14, .long v4), (12, .long v2), (0, .ref 0), (1, .int a1), (2, .long a2), (4, .long a4), (6, .long a6), (8, .long a8), (10, .long a10)]) (pc := 51) K d_M_stops_51 (by decide) rfl ?_
  refine gk_aload_n (pc := 53) K d_M_stops_53 rfl ?_
  refine gk_get (pc := 54) K d_M_stops_54 fl_M_37 tm_0 rfl rfl ?_
  refine gk_iconst (pc := 57) K d_M_stops_57 kc_2 ?_
  refine gk_iload_n (pc := 58) K d_M_stops_58 rfl ?_
  refine gk_imul (pc := 59) K d_M_stops_59 ?_
  refine gk_iconst (pc := 60) K d_M_stops_60 kc_1 ?_
  refine gk_iadd (pc := 61) K d_M_stops_61 ?_
  refine gk_iald (pc := 62) K d_M_stops_62 tm_10 h (fun v7 h => ?_)
  refine gk_bipush (pc := 63) K d_M_stops_63 kb_30 ?_
  refine gk_idivc2 (pc := 65) K d_M_stops_65 (by decide) ?_
  refine gk_i2l (pc := 66) K d_M_stops_66 ?_
  refine gk_lload (pc := 67) K d_M_stops_67 rfl ?_
  refine gk_lmul (pc := 69) K d_M_stops_69 ?_
  refine gk_topl h (fun v8 h => ?_)
  refine gk_lstore (lv2 := [(18, .long v8), (16, .long v6), (14, .long v4), (12, .long v2), (0, .ref 0), (1, .int a1), (2, .long a2), (4, .long a4), (6, .long a6), (8, .long a8), (10, .long a10)]) (pc := 70) K d_M_stops_70 (by decide) rfl ?_
  refine gk_lload_n (pc := 72) K d_M_stops_72 rfl ?_
  refine gk_lload (pc := 73) K d_M_stops_73 rfl ?_
  refine gk_lload (pc := 75) K d_M_stops_75 rfl ?_
  refine gk_lload (pc := 77) K d_M_stops_77 rfl ?_
  refine gk_lload (pc := 79) K d_M_stops_79 rfl ?_
  refine gk_lload (pc := 81) K d_M_stops_81 rfl ?_
  obtain ⟨v10, m9, em9, h⟩ := gk_bi_some h
  refine gk_cSi (As := [.long a2, .long a4, .long a6, .long a8, .long v2, .long v4]) (pc := 83) K d_M_stops_83 ms_M_223 mc_M_liesOn rfl (s_M_liesOn (gk_FD K)  em9) (by decide) rfl (Nat.le_of_ble_eq_true rfl) ?_
  refine gk_if_ne (tgt := 106) (pc := 86) K d_M_stops_86 (by decide) h (fun h => ?_) (fun h => ?_)
  · refine gk_iconst (pc := 106) K d_M_stops_106 kc_1 ?_
    exact gk_zretc (pc := 107) K d_M_stops_107 rfl (Or.inr rfl) h
  · refine gk_lload_n (pc := 89) K d_M_stops_89 rfl ?_
    refine gk_lload (pc := 90) K d_M_stops_90 rfl ?_
    refine gk_lload (pc := 92) K d_M_stops_92 rfl ?_
    refine gk_lload (pc := 94) K d_M_stops_94 rfl ?_
    refine gk_lload (pc := 96) K d_M_stops_96 rfl ?_
    refine gk_lload (pc := 98) K d_M_stops_98 rfl ?_
    obtain ⟨v12, m11, em11, h⟩ := gk_bi_some h
    refine gk_cSi (As := [.long a2, .long a4, .long a6, .long a8, .long v6, .long v8]) (pc := 100) K d_M_stops_100 ms_M_223 mc_M_liesOn rfl (s_M_liesOn (gk_FD K)  em11) (by decide) rfl (Nat.le_of_ble_eq_true rfl) ?_
    refine gk_if_eq (tgt := 108) (pc := 103) K d_M_stops_103 (by decide) h (fun h => ?_) (fun h => ?_)
    · refine gk_lload_n (pc := 108) K d_M_stops_108 rfl ?_
      refine gk_lload (pc := 109) K d_M_stops_109 rfl ?_
      refine gk_lload (pc := 111) K d_M_stops_111 rfl ?_
      refine gk_lload (pc := 113) K d_M_stops_113 rfl ?_
      refine gk_lload (pc := 115) K d_M_stops_115 rfl ?_
      refine gk_lload (pc := 117) K d_M_stops_117 rfl ?_
      obtain ⟨v14, m13, em13, h⟩ := gk_bl_some h
      refine gk_cSl (As := [.long a2, .long a4, .long a6, .long a8, .long v2, .long v4]) (pc := 119) K d_M_stops_119 ms_M_216 mc_M_side rfl (s_M_side (gk_FD K)  em13) (by decide) rfl (Nat.le_of_ble_eq_true rfl) ?_
      refine gk_lstore (lv2 := [(20, .long v14), (18, .long v8), (16, .long v6), (14, .long v4), (12, .long v2), (0, .ref 0), (1, .int a1), (2, .long a2), (4, .long a4), (6, .long a6), (8, .long a8), (10, .long a10)]) (pc := 122) K d_M_stops_122 (by decide) rfl ?_
      refine gk_lload_n (pc := 124) K d_M_stops_124 rfl ?_
      refine gk_lload (pc := 125) K d_M_stops_125 rfl ?_
      refine gk_lload (pc := 127) K d_M_stops_127 rfl ?_
      refine gk_lload (pc := 129) K d_M_stops_129 rfl ?_
      refine gk_lload (pc := 131) K d_M_stops_131 rfl ?_
      refine gk_lload (pc := 133) K d_M_stops_133 rfl ?_
      obtain ⟨v16, m15, em15, h⟩ := gk_bl_some h
      refine gk_cSl (As := [.long a2, .long a4, .long a6, .long a8, .long v6, .long v8]) (pc := 135) K d_M_stops_135 ms_M_216 mc_M_side rfl (s_M_side (gk_FD K)  em15) (by decide) rfl (Nat.le_of_ble_eq_true rfl) ?_
      refine gk_lstore (lv2 := [(22, .long v16), (20, .long v14), (18, .long v8), (16, .long v6), (14, .long v4), (12, .long v2), (0, .ref 0), (1, .int a1), (2, .long a2), (4, .long a4), (6, .long a6), (8, .long a8), (10, .long a10)]) (pc := 138) K d_M_stops_138 (by decide) rfl ?_
      refine gk_lload (pc := 140) K d_M_stops_140 rfl ?_
      refine gk_lconst (pc := 142) K d_M_stops_142 kl_0 ?_
      refine gk_lc_ne (tgt := 207) (pc := 143) K d_M_stops_143 d_M_stops_144 (by decide) h (fun h => ?_) (fun h => ?_)
      · exact gk_sub [8, 9, 10, 11, 5, 4, 3, 2, 1, 0] rfl (s_M_stops_207 K _ _ _ _ _ _ _ _ _ _ _  h)
      · refine gk_lload (pc := 147) K d_M_stops_147 rfl ?_
        refine gk_lconst (pc := 149) K d_M_stops_149 kl_0 ?_
        refine gk_lc_ne (tgt := 207) (pc := 150) K d_M_stops_150 d_M_stops_151 (by decide) h (fun h => ?_) (fun h => ?_)
        · exact gk_sub [8, 9, 10, 11, 5, 4, 3, 2, 1, 0] rfl (s_M_stops_207 K _ _ _ _ _ _ _ _ _ _ _  h)
        · refine gk_lload (pc := 154) K d_M_stops_154 rfl ?_
          refine gk_lload_n (pc := 156) K d_M_stops_156 rfl ?_
          refine gk_lload (pc := 157) K d_M_stops_157 rfl ?_
          obtain ⟨v18, m17, em17, h⟩ := gk_bi_some h
          refine gk_cSi (As := [.long v2, .long a2, .long v6]) (pc := 159) K d_M_stops_159 ms_M_220 mc_M_isBetween rfl (s_M_isBetween (gk_FD K)  em17) (by decide) rfl (Nat.le_of_ble_eq_true rfl) ?_
          refine gk_if_eq (tgt := 205) (pc := 162) K d_M_stops_162 (by decide) h (fun h => ?_) (fun h => ?_)
          · refine gk_iconst (pc := 205) K d_M_stops_205 kc_0 ?_
            exact gk_zretc (pc := 206) K d_M_stops_206 rfl (Or.inl rfl) h
          · refine gk_lload (pc := 165) K d_M_stops_165 rfl ?_
            refine gk_lload (pc := 167) K d_M_stops_167 rfl ?_
            refine gk_lload (pc := 169) K d_M_stops_169 rfl ?_
            obtain ⟨v20, m19, em19, h⟩ := gk_bi_some h
            refine gk_cSi (As := [.long v4, .long a4, .long v8]) (pc := 171) K d_M_stops_171 ms_M_220 mc_M_isBetween rfl (s_M_isBetween (gk_FD K)  em19) (by decide) rfl (Nat.le_of_ble_eq_true rfl) ?_
            refine gk_if_eq (tgt := 205) (pc := 174) K d_M_stops_174 (by decide) h (fun h => ?_) (fun h => ?_)
            · refine gk_iconst (pc := 205) K d_M_stops_205 kc_0 ?_
              exact gk_zretc (pc := 206) K d_M_stops_206 rfl (Or.inl rfl) h
            · refine gk_lload (pc := 177) K d_M_stops_177 rfl ?_
              refine gk_lload (pc := 179) K d_M_stops_179 rfl ?_
              refine gk_lload (pc := 181) K d_M_stops_181 rfl ?_
              obtain ⟨v22, m21, em21, h⟩ := gk_bi_some h
              refine gk_cSi (As := [.long v2, .long a6, .long v6]) (pc := 183) K d_M_stops_183 ms_M_220 mc_M_isBetween rfl (s_M_isBetween (gk_FD K)  em21) (by decide) rfl (Nat.le_of_ble_eq_true rfl) ?_
              refine gk_if_eq (tgt := 205) (pc := 186) K d_M_stops_186 (by decide) h (fun h => ?_) (fun h => ?_)
              · refine gk_iconst (pc := 205) K d_M_stops_205 kc_0 ?_
                exact gk_zretc (pc := 206) K d_M_stops_206 rfl (Or.inl rfl) h
              · refine gk_lload (pc := 189) K d_M_stops_189 rfl ?_
                refine gk_lload (pc := 191) K d_M_stops_191 rfl ?_
                refine gk_lload (pc := 193) K d_M_stops_193 rfl ?_
                obtain ⟨v24, m23, em23, h⟩ := gk_bi_some h
                refine gk_cSi (As := [.long v4, .long a8, .long v8]) (pc := 195) K d_M_stops_195 ms_M_220 mc_M_isBetween rfl (s_M_isBetween (gk_FD K)  em23) (by decide) rfl (Nat.le_of_ble_eq_true rfl) ?_
                refine gk_if_eq (tgt := 205) (pc := 198) K d_M_stops_198 (by decide) h (fun h => ?_) (fun h => ?_)
                · refine gk_iconst (pc := 205) K d_M_stops_205 kc_0 ?_
                  exact gk_zretc (pc := 206) K d_M_stops_206 rfl (Or.inl rfl) h
                · refine gk_iconst (pc := 201) K d_M_stops_201 kc_1 ?_
                  refine gk_goto (tgt := 206) (pc := 202) K d_M_stops_202 (by decide) ?_
                  exact gk_zretc (pc := 206) K d_M_stops_206 rfl (Or.inr rfl) h
    · refine gk_iconst (pc := 106) K d_M_stops_106 kc_1 ?_
      exact gk_zretc (pc := 107) K d_M_stops_107 rfl (Or.inr rfl) h
theorem s_M_stops {l : Launch} {u : gk_U} (hD : gk_D tm u) {a1 : Int32} {a2 : Int64} {a4 : Int64} {a6 : Int64} {a8 : Int64} {a10 : Int64} {m0 mem2 : gk_M} {r : Int32} (h : f_M_stops a1 a2 a4 a6 a8 a10 m0 = some (r, mem2)) : gk_C tm l u me_M_stops 3 [.ref 0, .int a1, .long a2, .long a4, .long a6, .long a8, .long a10] m0 (some (.int r)) mem2 :=
  gk_enter hD mc_M_stops (Nat.le_of_ble_eq_true rfl) rfl (fun z _ _ K => s_M_stops_0 K _ _ _ _ _ _ _  h)
theorem d_M_isStopped_0 : decode me_M_isStopped.2.1 0 = .ok (.iconst 0, 1) := by decide +kernel
theorem d_M_isStopped_1 : decode me_M_isStopped.2.1 1 = .ok (.istore 8, 2) := by decide +kernel
theorem d_M_isStopped_3 : decode me_M_isStopped.2.1 3 = .ok (.iload 8, 2) := by decide +kernel
theorem d_M_isStopped_5 : decode me_M_isStopped.2.1 5 = .ok (.aload_n 0, 1) := by decide +kernel
theorem d_M_isStopped_6 : decode me_M_isStopped.2.1 6 = .ok (.getfield 139, 3) := by decide +kernel
theorem d_M_isStopped_9 : decode me_M_isStopped.2.1 9 = .ok (.if_icmp .ge 52, 3) := by decide +kernel
theorem d_M_isStopped_12 : decode me_M_isStopped.2.1 12 = .ok (.aload_n 0, 1) := by decide +kernel
theorem d_M_isStopped_13 : decode me_M_isStopped.2.1 13 = .ok (.iload 8, 2) := by decide +kernel
theorem d_M_isStopped_15 : decode me_M_isStopped.2.1 15 = .ok (.lload_n 1, 1) := by decide +kernel
theorem d_M_isStopped_16 : decode me_M_isStopped.2.1 16 = .ok (.lload_n 3, 1) := by decide +kernel
theorem d_M_isStopped_17 : decode me_M_isStopped.2.1 17 = .ok (.aload_n 0, 1) := by decide +kernel
theorem d_M_isStopped_18 : decode me_M_isStopped.2.1 18 = .ok (.getfield 22, 3) := by decide +kernel
theorem d_M_isStopped_21 : decode me_M_isStopped.2.1 21 = .ok (.iload 7, 2) := by decide +kernel
theorem d_M_isStopped_23 : decode me_M_isStopped.2.1 23 = .ok (.iaload, 1) := by decide +kernel
theorem d_M_isStopped_24 : decode me_M_isStopped.2.1 24 = .ok (.bipush 30, 2) := by decide +kernel
theorem d_M_isStopped_26 : decode me_M_isStopped.2.1 26 = .ok (.irem, 1) := by decide +kernel
theorem d_M_isStopped_27 : decode me_M_isStopped.2.1 27 = .ok (.i2l, 1) := by decide +kernel
theorem d_M_isStopped_28 : decode me_M_isStopped.2.1 28 = .ok (.lload 5, 2) := by decide +kernel
theorem d_M_isStopped_30 : decode me_M_isStopped.2.1 30 = .ok (.lmul, 1) := by decide +kernel
theorem d_M_isStopped_31 : decode me_M_isStopped.2.1 31 = .ok (.aload_n 0, 1) := by decide +kernel
theorem d_M_isStopped_32 : decode me_M_isStopped.2.1 32 = .ok (.getfield 22, 3) := by decide +kernel
theorem d_M_isStopped_35 : decode me_M_isStopped.2.1 35 = .ok (.iload 7, 2) := by decide +kernel
theorem d_M_isStopped_37 : decode me_M_isStopped.2.1 37 = .ok (.iaload, 1) := by decide +kernel
theorem d_M_isStopped_38 : decode me_M_isStopped.2.1 38 = .ok (.bipush 30, 2) := by decide +kernel
theorem d_M_isStopped_40 : decode me_M_isStopped.2.1 40 = .ok (.idiv, 1) := by decide +kernel
theorem d_M_isStopped_41 : decode me_M_isStopped.2.1 41 = .ok (.i2l, 1) := by decide +kernel
theorem d_M_isStopped_42 : decode me_M_isStopped.2.1 42 = .ok (.lload 5, 2) := by decide +kernel
theorem d_M_isStopped_44 : decode me_M_isStopped.2.1 44 = .ok (.lmul, 1) := by decide +kernel
theorem d_M_isStopped_45 : decode me_M_isStopped.2.1 45 = .ok (.lload 5, 2) := by decide +kernel
theorem d_M_isStopped_47 : decode me_M_isStopped.2.1 47 = .ok (.invokevirtual 231, 3) := by decide +kernel
theorem d_M_isStopped_50 : decode me_M_isStopped.2.1 50 = .ok (.ifCond .eq 5, 3) := by decide +kernel
theorem d_M_isStopped_53 : decode me_M_isStopped.2.1 53 = .ok (.iconst 1, 1) := by decide +kernel
theorem d_M_isStopped_54 : decode me_M_isStopped.2.1 54 = .ok (.ireturn, 1) := by decide +kernel
theorem d_M_isStopped_55 : decode me_M_isStopped.2.1 55 = .ok (.iinc 8 1, 3) := by decide +kernel
theorem d_M_isStopped_58 : decode me_M_isStopped.2.1 58 = .ok (.goto (-55), 3) := by decide +kernel
theorem d_M_isStopped_61 : decode me_M_isStopped.2.1 61 = .ok (.iconst 0, 1) := by decide +kernel
theorem d_M_isStopped_62 : decode me_M_isStopped.2.1 62 = .ok (.ireturn, 1) := by decide +kernel
noncomputable def f_M_isStopped_3  : Nat → Int64 → Int64 → Int64 → Int32 → Int32 → gk_M → Option (Int32 × gk_M)
  | 0, _, _, _, _, _, _ => none
  | n + 1, a1, a3, a5, a7, a8, m0 =>
    if (m0.1 0 13) ≤ a8 then
      some (0, m0)
    else
      gk_ai m0 5 20 a7 fun v1 =>
      gk_ai m0 5 20 a7 fun v2 =>
      gk_bi (f_M_stops a8 a1 a3 ((gk_rem v1 30).toInt64 * a5) ((v2 / 30).toInt64 * a5) a5 m0) fun v4 m3 =>
      if v4 = 0 then
        f_M_isStopped_3 n a1 a3 a5 a7 (a8 + 1) m3
      else
        some (1, m3)

theorem s_M_isStopped_3 {z : gk_Z} (K : gk_F tm z me_M_isStopped 4) {r : Int32} {mem2 : gk_M} : ∀ n a1 a3 a5 a7 a8 m0, f_M_isStopped_3 n a1 a3 a5 a7 a8 m0 = some (r, mem2) → gk_G tm z me_M_isStopped (gk_R tm z (some (.int r)) mem2) m0 [(0, .ref 0), (1, .long a1), (3, .long a3), (5, .long a5), (7, .int a7), (8, .int a8)] [] 3 := by
  intro n
  induction n with
  | zero => intro a1 a3 a5 a7 a8 m0  h; exact nomatch (show (none : Option _) = some _ from h)
  | succ n ih =>
    intro a1 a3 a5 a7 a8 m0  h
    unfold f_M_isStopped_3 at h
    refine gk_iload (pc := 3) K d_M_isStopped_3 rfl ?_
    refine gk_aload_n (pc := 5) K d_M_isStopped_5 rfl ?_
    refine gk_get (pc := 6) K d_M_isStopped_6 fl_M_139 tm_0 rfl rfl ?_
    refine gk_ic_ge (tgt := 61) (pc := 9) K d_M_isStopped_9 (by decide) h (fun h => ?_) (fun h => ?_)
    · refine gk_iconst (pc := 61) K d_M_isStopped_61 kc_0 ?_
      exact gk_zretc (pc := 62) K d_M_isStopped_62 rfl (Or.inl rfl) h
    · refine gk_aload_n (pc := 12) K d_M_isStopped_12 rfl ?_
      refine gk_iload (pc := 13) K d_M_isStopped_13 rfl ?_
      refine gk_lload_n (pc := 15) K d_M_isStopped_15 rfl ?_
      refine gk_lload_n (pc := 16) K d_M_isStopped_16 rfl ?_
      refine gk_aload_n (pc := 17) K d_M_isStopped_17 rfl ?_
      refine gk_get (pc := 18) K d_M_isStopped_18 fl_M_22 tm_0 rfl rfl ?_
      refine gk_iload (pc := 21) K d_M_isStopped_21 rfl ?_
      refine gk_iald (pc := 23) K d_M_isStopped_23 tm_5 h (fun v1 h => ?_)
      refine gk_bipush (pc := 24) K d_M_isStopped_24 kb_30 ?_
      refine gk_iremc2 (pc := 26) K d_M_isStopped_26 (by decide) ?_
      refine gk_i2l (pc := 27) K d_M_isStopped_27 ?_
      refine gk_lload (pc := 28) K d_M_isStopped_28 rfl ?_
      refine gk_lmul (pc := 30) K d_M_isStopped_30 ?_
      refine gk_aload_n (pc := 31) K d_M_isStopped_31 rfl ?_
      refine gk_get (pc := 32) K d_M_isStopped_32 fl_M_22 tm_0 rfl rfl ?_
      refine gk_iload (pc := 35) K d_M_isStopped_35 rfl ?_
      refine gk_iald (pc := 37) K d_M_isStopped_37 tm_5 h (fun v2 h => ?_)
      refine gk_bipush (pc := 38) K d_M_isStopped_38 kb_30 ?_
      refine gk_idivc2 (pc := 40) K d_M_isStopped_40 (by decide) ?_
      refine gk_i2l (pc := 41) K d_M_isStopped_41 ?_
      refine gk_lload (pc := 42) K d_M_isStopped_42 rfl ?_
      refine gk_lmul (pc := 44) K d_M_isStopped_44 ?_
      refine gk_lload (pc := 45) K d_M_isStopped_45 rfl ?_
      obtain ⟨v4, m3, em3, h⟩ := gk_bi_some h
      refine gk_cVi (As := [.int a8, .long a1, .long a3, .long ((gk_rem v1 30).toInt64 * a5), .long ((v2 / 30).toInt64 * a5), .long a5]) (pc := 47) K d_M_isStopped_47 mv_M_231 mc_M_stops rfl tm_0 cl_ok10.1 (s_M_stops (gk_FD K)  em3) (by decide) rfl (Nat.le_of_ble_eq_true rfl) ?_
      refine gk_if_eq (tgt := 55) (pc := 50) K d_M_isStopped_50 (by decide) h (fun h => ?_) (fun h => ?_)
      · refine gk_iinc2 (lv2 := [(8, .int (a8 + 1)), (0, .ref 0), (1, .long a1), (3, .long a3), (5, .long a5), (7, .int a7)]) (pc := 55) K d_M_isStopped_55 rfl kc_1 (by decide) rfl ?_
        refine gk_goto (tgt := 3) (pc := 58) K d_M_isStopped_58 (by decide) ?_
        exact gk_sub [1, 2, 3, 4, 5, 0] rfl (ih _ _ _ _ _ _  h)
      · refine gk_iconst (pc := 53) K d_M_isStopped_53 kc_1 ?_
        exact gk_zretc (pc := 54) K d_M_isStopped_54 rfl (Or.inr rfl) h
noncomputable def f_M_isStopped  (a1 : Int64) (a3 : Int64) (a5 : Int64) (a7 : Int32) (m0 : gk_M) : Option (Int32 × gk_M) :=
  f_M_isStopped_3 gk_fv a1 a3 a5 a7 0 m0

theorem s_M_isStopped_0 {z : gk_Z} (K : gk_F tm z me_M_isStopped 4) {r : Int32} {mem2 : gk_M} : ∀ a1 a3 a5 a7 m0, f_M_isStopped a1 a3 a5 a7 m0 = some (r, mem2) → gk_G tm z me_M_isStopped (gk_R tm z (some (.int r)) mem2) m0 [(0, .ref 0), (1, .long a1), (3, .long a3), (5, .long a5), (7, .int a7)] [] 0 := by
  intro a1 a3 a5 a7 m0  h
  unfold f_M_isStopped at h
  refine gk_iconst (pc := 0) K d_M_isStopped_0 kc_0 ?_
  refine gk_istore (lv2 := [(8, .int 0), (0, .ref 0), (1, .long a1), (3, .long a3), (5, .long a5), (7, .int a7)]) (pc := 1) K d_M_isStopped_1 (by decide) rfl ?_
  exact gk_sub [1, 2, 3, 4, 5, 0] rfl (s_M_isStopped_3 K _ _ _ _ _ _ _  h)
theorem s_M_isStopped {l : Launch} {u : gk_U} (hD : gk_D tm u) {a1 : Int64} {a3 : Int64} {a5 : Int64} {a7 : Int32} {m0 mem2 : gk_M} {r : Int32} (h : f_M_isStopped a1 a3 a5 a7 m0 = some (r, mem2)) : gk_C tm l u me_M_isStopped 4 [.ref 0, .long a1, .long a3, .long a5, .int a7] m0 (some (.int r)) mem2 :=
  gk_enter hD mc_M_isStopped (Nat.le_of_ble_eq_true rfl) rfl (fun z _ _ K => s_M_isStopped_0 K _ _ _ _ _  h)
theorem d_M_farOf_0 : decode me_M_farOf.2.1 0 = .ok (.aload_n 0, 1) := by decide +kernel
theorem d_M_farOf_1 : decode me_M_farOf.2.1 1 = .ok (.getfield 22, 3) := by decide +kernel
theorem d_M_farOf_4 : decode me_M_farOf.2.1 4 = .ok (.iload 7, 2) := by decide +kernel
theorem d_M_farOf_6 : decode me_M_farOf.2.1 6 = .ok (.iaload, 1) := by decide +kernel
theorem d_M_farOf_7 : decode me_M_farOf.2.1 7 = .ok (.bipush 30, 2) := by decide +kernel
theorem d_M_farOf_9 : decode me_M_farOf.2.1 9 = .ok (.irem, 1) := by decide +kernel
theorem d_M_farOf_10 : decode me_M_farOf.2.1 10 = .ok (.i2l, 1) := by decide +kernel
theorem d_M_farOf_11 : decode me_M_farOf.2.1 11 = .ok (.lload 5, 2) := by decide +kernel
theorem d_M_farOf_13 : decode me_M_farOf.2.1 13 = .ok (.lmul, 1) := by decide +kernel
theorem d_M_farOf_14 : decode me_M_farOf.2.1 14 = .ok (.lload_n 1, 1) := by decide +kernel
theorem d_M_farOf_15 : decode me_M_farOf.2.1 15 = .ok (.lsub, 1) := by decide +kernel
theorem d_M_farOf_16 : decode me_M_farOf.2.1 16 = .ok (.lstore 8, 2) := by decide +kernel
theorem d_M_farOf_18 : decode me_M_farOf.2.1 18 = .ok (.aload_n 0, 1) := by decide +kernel
theorem d_M_farOf_19 : decode me_M_farOf.2.1 19 = .ok (.getfield 22, 3) := by decide +kernel
theorem d_M_farOf_22 : decode me_M_farOf.2.1 22 = .ok (.iload 7, 2) := by decide +kernel
theorem d_M_farOf_24 : decode me_M_farOf.2.1 24 = .ok (.iaload, 1) := by decide +kernel
theorem d_M_farOf_25 : decode me_M_farOf.2.1 25 = .ok (.bipush 30, 2) := by decide +kernel
theorem d_M_farOf_27 : decode me_M_farOf.2.1 27 = .ok (.idiv, 1) := by decide +kernel
theorem d_M_farOf_28 : decode me_M_farOf.2.1 28 = .ok (.i2l, 1) := by decide +kernel
theorem d_M_farOf_29 : decode me_M_farOf.2.1 29 = .ok (.lload 5, 2) := by decide +kernel
theorem d_M_farOf_31 : decode me_M_farOf.2.1 31 = .ok (.lmul, 1) := by decide +kernel
theorem d_M_farOf_32 : decode me_M_farOf.2.1 32 = .ok (.lload_n 3, 1) := by decide +kernel
theorem d_M_farOf_33 : decode me_M_farOf.2.1 33 = .ok (.lsub, 1) := by decide +kernel
theorem d_M_farOf_34 : decode me_M_farOf.2.1 34 = .ok (.lstore 10, 2) := by decide +kernel
theorem d_M_farOf_36 : decode me_M_farOf.2.1 36 = .ok (.lload 8, 2) := by decide +kernel
theorem d_M_farOf_38 : decode me_M_farOf.2.1 38 = .ok (.lload 8, 2) := by decide +kernel
theorem d_M_farOf_40 : decode me_M_farOf.2.1 40 = .ok (.lmul, 1) := by decide +kernel
theorem d_M_farOf_41 : decode me_M_farOf.2.1 41 = .ok (.lload 10, 2) := by decide +kernel
theorem d_M_farOf_43 : decode me_M_farOf.2.1 43 = .ok (.lload 10, 2) := by decide +kernel
theorem d_M_farOf_45 : decode me_M_farOf.2.1 45 = .ok (.lmul, 1) := by decide +kernel
theorem d_M_farOf_46 : decode me_M_farOf.2.1 46 = .ok (.ladd, 1) := by decide +kernel
theorem d_M_farOf_47 : decode me_M_farOf.2.1 47 = .ok (.lreturn, 1) := by decide +kernel
noncomputable def f_M_farOf  (a1 : Int64) (a3 : Int64) (a5 : Int64) (a7 : Int32) (m0 : gk_M) : Option (Int64 × gk_M) :=
  gk_ai m0 5 20 a7 fun v1 =>
  gk_let (((gk_rem v1 30).toInt64 * a5) - a1) fun v2 =>
  gk_ai m0 5 20 a7 fun v3 =>
  gk_let (((v3 / 30).toInt64 * a5) - a3) fun v4 =>
  some (((v2 * v2) + (v4 * v4)), m0)

theorem s_M_farOf_0 {z : gk_Z} (K : gk_F tm z me_M_farOf 1) {r : Int64} {mem2 : gk_M} : ∀ a1 a3 a5 a7 m0, f_M_farOf a1 a3 a5 a7 m0 = some (r, mem2) → gk_G tm z me_M_farOf (gk_R tm z (some (.long r)) mem2) m0 [(0, .ref 0), (1, .long a1), (3, .long a3), (5, .long a5), (7, .int a7)] [] 0 := by
  intro a1 a3 a5 a7 m0  h
  unfold f_M_farOf at h
  refine gk_aload_n (pc := 0) K d_M_farOf_0 rfl ?_
  refine gk_get (pc := 1) K d_M_farOf_1 fl_M_22 tm_0 rfl rfl ?_
  refine gk_iload (pc := 4) K d_M_farOf_4 rfl ?_
  refine gk_iald (pc := 6) K d_M_farOf_6 tm_5 h (fun v1 h => ?_)
  refine gk_bipush (pc := 7) K d_M_farOf_7 kb_30 ?_
  refine gk_iremc2 (pc := 9) K d_M_farOf_9 (by decide) ?_
  refine gk_i2l (pc := 10) K d_M_farOf_10 ?_
  refine gk_lload (pc := 11) K d_M_farOf_11 rfl ?_
  refine gk_lmul (pc := 13) K d_M_farOf_13 ?_
  refine gk_lload_n (pc := 14) K d_M_farOf_14 rfl ?_
  refine gk_lsub (pc := 15) K d_M_farOf_15 ?_
  refine gk_topl h (fun v2 h => ?_)
  refine gk_lstore (lv2 := [(8, .long v2), (0, .ref 0), (1, .long a1), (3, .long a3), (5, .long a5), (7, .int a7)]) (pc := 16) K d_M_farOf_16 (by decide) rfl ?_
  refine gk_aload_n (pc := 18) K d_M_farOf_18 rfl ?_
  refine gk_get (pc := 19) K d_M_farOf_19 fl_M_22 tm_0 rfl rfl ?_
  refine gk_iload (pc := 22) K d_M_farOf_22 rfl ?_
  refine gk_iald (pc := 24) K d_M_farOf_24 tm_5 h (fun v3 h => ?_)
  refine gk_bipush (pc := 25) K d_M_farOf_25 kb_30 ?_
  refine gk_idivc2 (pc := 27) K d_M_farOf_27 (by decide) ?_
  refine gk_i2l (pc := 28) K d_M_farOf_28 ?_
  refine gk_lload (pc := 29) K d_M_farOf_29 rfl ?_
  refine gk_lmul (pc := 31) K d_M_farOf_31 ?_
  refine gk_lload_n (pc := 32) K d_M_farOf_32 rfl ?_
  refine gk_lsub (pc := 33) K d_M_farOf_33 ?_
  refine gk_topl h (fun v4 h => ?_)
  refine gk_lstore (lv2 := [(10, .long v4), (8, .long v2), (0, .ref 0), (1, .long a1), (3, .long a3), (5, .long a5), (7, .int a7)]) (pc := 34) K d_M_farOf_34 (by decide) rfl ?_
  refine gk_lload (pc := 36) K d_M_farOf_36 rfl ?_
  refine gk_lload (pc := 38) K d_M_farOf_38 rfl ?_
  refine gk_lmul (pc := 40) K d_M_farOf_40 ?_
  refine gk_lload (pc := 41) K d_M_farOf_41 rfl ?_
  refine gk_lload (pc := 43) K d_M_farOf_43 rfl ?_
  refine gk_lmul (pc := 45) K d_M_farOf_45 ?_
  refine gk_ladd (pc := 46) K d_M_farOf_46 ?_
  exact gk_lret (pc := 47) K d_M_farOf_47 rfl h
theorem s_M_farOf {l : Launch} {u : gk_U} (hD : gk_D tm u) {a1 : Int64} {a3 : Int64} {a5 : Int64} {a7 : Int32} {m0 mem2 : gk_M} {r : Int64} (h : f_M_farOf a1 a3 a5 a7 m0 = some (r, mem2)) : gk_C tm l u me_M_farOf 1 [.ref 0, .long a1, .long a3, .long a5, .int a7] m0 (some (.long r)) mem2 :=
  gk_enter hD mc_M_farOf (Nat.le_of_ble_eq_true rfl) rfl (fun z _ _ K => s_M_farOf_0 K _ _ _ _ _  h)
theorem d_M_heightOf_0 : decode me_M_heightOf.2.1 0 = .ok (.iload_n 1, 1) := by decide +kernel
theorem d_M_heightOf_1 : decode me_M_heightOf.2.1 1 = .ok (.aload_n 0, 1) := by decide +kernel
theorem d_M_heightOf_2 : decode me_M_heightOf.2.1 2 = .ok (.getfield 106, 3) := by decide +kernel
theorem d_M_heightOf_5 : decode me_M_heightOf.2.1 5 = .ok (.if_icmp .ge 12, 3) := by decide +kernel
theorem d_M_heightOf_8 : decode me_M_heightOf.2.1 8 = .ok (.aload_n 0, 1) := by decide +kernel
theorem d_M_heightOf_9 : decode me_M_heightOf.2.1 9 = .ok (.getfield 9, 3) := by decide +kernel
theorem d_M_heightOf_12 : decode me_M_heightOf.2.1 12 = .ok (.iload_n 1, 1) := by decide +kernel
theorem d_M_heightOf_13 : decode me_M_heightOf.2.1 13 = .ok (.iaload, 1) := by decide +kernel
theorem d_M_heightOf_14 : decode me_M_heightOf.2.1 14 = .ok (.goto 9, 3) := by decide +kernel
theorem d_M_heightOf_17 : decode me_M_heightOf.2.1 17 = .ok (.aload_n 0, 1) := by decide +kernel
theorem d_M_heightOf_18 : decode me_M_heightOf.2.1 18 = .ok (.getfield 28, 3) := by decide +kernel
theorem d_M_heightOf_21 : decode me_M_heightOf.2.1 21 = .ok (.iload_n 1, 1) := by decide +kernel
theorem d_M_heightOf_22 : decode me_M_heightOf.2.1 22 = .ok (.iaload, 1) := by decide +kernel
theorem d_M_heightOf_23 : decode me_M_heightOf.2.1 23 = .ok (.ireturn, 1) := by decide +kernel
noncomputable def f_M_heightOf  (a1 : Int32) (m0 : gk_M) : Option (Int32 × gk_M) :=
  if (m0.1 0 6) ≤ a1 then
    gk_ai m0 7 20 a1 fun v1 =>
    some (v1, m0)
  else
    gk_ai m0 1 30 a1 fun v2 =>
    some (v2, m0)

theorem s_M_heightOf_0 {z : gk_Z} (K : gk_F tm z me_M_heightOf 1) {r : Int32} {mem2 : gk_M} : ∀ a1 m0, f_M_heightOf a1 m0 = some (r, mem2) → gk_G tm z me_M_heightOf (gk_R tm z (some (.int r)) mem2) m0 [(0, .ref 0), (1, .int a1)] [] 0 := by
  intro a1 m0  h
  unfold f_M_heightOf at h
  refine gk_iload_n (pc := 0) K d_M_heightOf_0 rfl ?_
  refine gk_aload_n (pc := 1) K d_M_heightOf_1 rfl ?_
  refine gk_get (pc := 2) K d_M_heightOf_2 fl_M_106 tm_0 rfl rfl ?_
  refine gk_ic_ge (tgt := 17) (pc := 5) K d_M_heightOf_5 (by decide) h (fun h => ?_) (fun h => ?_)
  · refine gk_aload_n (pc := 17) K d_M_heightOf_17 rfl ?_
    refine gk_get (pc := 18) K d_M_heightOf_18 fl_M_28 tm_0 rfl rfl ?_
    refine gk_iload_n (pc := 21) K d_M_heightOf_21 rfl ?_
    refine gk_iald (pc := 22) K d_M_heightOf_22 tm_7 h (fun v1 h => ?_)
    exact gk_iret (pc := 23) K d_M_heightOf_23 rfl h
  · refine gk_aload_n (pc := 8) K d_M_heightOf_8 rfl ?_
    refine gk_get (pc := 9) K d_M_heightOf_9 fl_M_9 tm_0 rfl rfl ?_
    refine gk_iload_n (pc := 12) K d_M_heightOf_12 rfl ?_
    refine gk_iald (pc := 13) K d_M_heightOf_13 tm_1 h (fun v2 h => ?_)
    refine gk_goto (tgt := 23) (pc := 14) K d_M_heightOf_14 (by decide) ?_
    exact gk_iret (pc := 23) K d_M_heightOf_23 rfl h
theorem s_M_heightOf {l : Launch} {u : gk_U} (hD : gk_D tm u) {a1 : Int32} {m0 mem2 : gk_M} {r : Int32} (h : f_M_heightOf a1 m0 = some (r, mem2)) : gk_C tm l u me_M_heightOf 1 [.ref 0, .int a1] m0 (some (.int r)) mem2 :=
  gk_enter hD mc_M_heightOf (Nat.le_of_ble_eq_true rfl) rfl (fun z _ _ K => s_M_heightOf_0 K _ _  h)
theorem d_M_oldOf_0 : decode me_M_oldOf.2.1 0 = .ok (.iload_n 1, 1) := by decide +kernel
theorem d_M_oldOf_1 : decode me_M_oldOf.2.1 1 = .ok (.aload_n 0, 1) := by decide +kernel
theorem d_M_oldOf_2 : decode me_M_oldOf.2.1 2 = .ok (.getfield 106, 3) := by decide +kernel
theorem d_M_oldOf_5 : decode me_M_oldOf.2.1 5 = .ok (.if_icmp .ge 15, 3) := by decide +kernel
theorem d_M_oldOf_8 : decode me_M_oldOf.2.1 8 = .ok (.aload_n 0, 1) := by decide +kernel
theorem d_M_oldOf_9 : decode me_M_oldOf.2.1 9 = .ok (.getfield 9, 3) := by decide +kernel
theorem d_M_oldOf_12 : decode me_M_oldOf.2.1 12 = .ok (.bipush 20, 2) := by decide +kernel
theorem d_M_oldOf_14 : decode me_M_oldOf.2.1 14 = .ok (.iload_n 1, 1) := by decide +kernel
theorem d_M_oldOf_15 : decode me_M_oldOf.2.1 15 = .ok (.iadd, 1) := by decide +kernel
theorem d_M_oldOf_16 : decode me_M_oldOf.2.1 16 = .ok (.iaload, 1) := by decide +kernel
theorem d_M_oldOf_17 : decode me_M_oldOf.2.1 17 = .ok (.goto 4, 3) := by decide +kernel
theorem d_M_oldOf_20 : decode me_M_oldOf.2.1 20 = .ok (.iconst 0, 1) := by decide +kernel
theorem d_M_oldOf_21 : decode me_M_oldOf.2.1 21 = .ok (.ireturn, 1) := by decide +kernel
noncomputable def f_M_oldOf  (a1 : Int32) (m0 : gk_M) : Option (Int32 × gk_M) :=
  if (m0.1 0 6) ≤ a1 then
    some (0, m0)
  else
    gk_ai m0 1 30 (20 + a1) fun v1 =>
    some (v1, m0)

theorem s_M_oldOf_0 {z : gk_Z} (K : gk_F tm z me_M_oldOf 1) {r : Int32} {mem2 : gk_M} : ∀ a1 m0, f_M_oldOf a1 m0 = some (r, mem2) → gk_G tm z me_M_oldOf (gk_R tm z (some (.int r)) mem2) m0 [(0, .ref 0), (1, .int a1)] [] 0 := by
  intro a1 m0  h
  unfold f_M_oldOf at h
  refine gk_iload_n (pc := 0) K d_M_oldOf_0 rfl ?_
  refine gk_aload_n (pc := 1) K d_M_oldOf_1 rfl ?_
  refine gk_get (pc := 2) K d_M_oldOf_2 fl_M_106 tm_0 rfl rfl ?_
  refine gk_ic_ge (tgt := 20) (pc := 5) K d_M_oldOf_5 (by decide) h (fun h => ?_) (fun h => ?_)
  · refine gk_iconst (pc := 20) K d_M_oldOf_20 kc_0 ?_
    exact gk_iret (pc := 21) K d_M_oldOf_21 rfl h
  · refine gk_aload_n (pc := 8) K d_M_oldOf_8 rfl ?_
    refine gk_get (pc := 9) K d_M_oldOf_9 fl_M_9 tm_0 rfl rfl ?_
    refine gk_bipush (pc := 12) K d_M_oldOf_12 kb_20 ?_
    refine gk_iload_n (pc := 14) K d_M_oldOf_14 rfl ?_
    refine gk_iadd (pc := 15) K d_M_oldOf_15 ?_
    refine gk_iald (pc := 16) K d_M_oldOf_16 tm_1 h (fun v1 h => ?_)
    refine gk_goto (tgt := 21) (pc := 17) K d_M_oldOf_17 (by decide) ?_
    exact gk_iret (pc := 21) K d_M_oldOf_21 rfl h
theorem s_M_oldOf {l : Launch} {u : gk_U} (hD : gk_D tm u) {a1 : Int32} {m0 mem2 : gk_M} {r : Int32} (h : f_M_oldOf a1 m0 = some (r, mem2)) : gk_C tm l u me_M_oldOf 1 [.ref 0, .int a1] m0 (some (.int r)) mem2 :=
  gk_enter hD mc_M_oldOf (Nat.le_of_ble_eq_true rfl) rfl (fun z _ _ K => s_M_oldOf_0 K _ _  h)
theorem d_M_counts_0 : decode me_M_counts.2.1 0 = .ok (.aload_n 0, 1) := by decide +kernel
theorem d_M_counts_1 : decode me_M_counts.2.1 1 = .ok (.getfield 90, 3) := by decide +kernel
theorem d_M_counts_4 : decode me_M_counts.2.1 4 = .ok (.ifCond .ge 24, 3) := by decide +kernel
theorem d_M_counts_7 : decode me_M_counts.2.1 7 = .ok (.aload_n 0, 1) := by decide +kernel
theorem d_M_counts_8 : decode me_M_counts.2.1 8 = .ok (.iload_n 2, 1) := by decide +kernel
theorem d_M_counts_9 : decode me_M_counts.2.1 9 = .ok (.invokevirtual 210, 3) := by decide +kernel
theorem d_M_counts_12 : decode me_M_counts.2.1 12 = .ok (.aload_n 0, 1) := by decide +kernel
theorem d_M_counts_13 : decode me_M_counts.2.1 13 = .ok (.iload_n 1, 1) := by decide +kernel
theorem d_M_counts_14 : decode me_M_counts.2.1 14 = .ok (.invokevirtual 210, 3) := by decide +kernel
theorem d_M_counts_17 : decode me_M_counts.2.1 17 = .ok (.iconst 3, 1) := by decide +kernel
theorem d_M_counts_18 : decode me_M_counts.2.1 18 = .ok (.iadd, 1) := by decide +kernel
theorem d_M_counts_19 : decode me_M_counts.2.1 19 = .ok (.if_icmp .gt 7, 3) := by decide +kernel
theorem d_M_counts_22 : decode me_M_counts.2.1 22 = .ok (.iconst 1, 1) := by decide +kernel
theorem d_M_counts_23 : decode me_M_counts.2.1 23 = .ok (.goto 4, 3) := by decide +kernel
theorem d_M_counts_26 : decode me_M_counts.2.1 26 = .ok (.iconst 0, 1) := by decide +kernel
theorem d_M_counts_27 : decode me_M_counts.2.1 27 = .ok (.ireturn, 1) := by decide +kernel
theorem d_M_counts_28 : decode me_M_counts.2.1 28 = .ok (.aload_n 0, 1) := by decide +kernel
theorem d_M_counts_29 : decode me_M_counts.2.1 29 = .ok (.getfield 46, 3) := by decide +kernel
theorem d_M_counts_32 : decode me_M_counts.2.1 32 = .ok (.iconst 0, 1) := by decide +kernel
theorem d_M_counts_33 : decode me_M_counts.2.1 33 = .ok (.aload_n 0, 1) := by decide +kernel
theorem d_M_counts_34 : decode me_M_counts.2.1 34 = .ok (.iload_n 1, 1) := by decide +kernel
theorem d_M_counts_35 : decode me_M_counts.2.1 35 = .ok (.invokevirtual 210, 3) := by decide +kernel
theorem d_M_counts_38 : decode me_M_counts.2.1 38 = .ok (.iastore, 1) := by decide +kernel
theorem d_M_counts_39 : decode me_M_counts.2.1 39 = .ok (.aload_n 0, 1) := by decide +kernel
theorem d_M_counts_40 : decode me_M_counts.2.1 40 = .ok (.getfield 46, 3) := by decide +kernel
theorem d_M_counts_43 : decode me_M_counts.2.1 43 = .ok (.iconst 1, 1) := by decide +kernel
theorem d_M_counts_44 : decode me_M_counts.2.1 44 = .ok (.aload_n 0, 1) := by decide +kernel
theorem d_M_counts_45 : decode me_M_counts.2.1 45 = .ok (.iload_n 2, 1) := by decide +kernel
theorem d_M_counts_46 : decode me_M_counts.2.1 46 = .ok (.invokevirtual 210, 3) := by decide +kernel
theorem d_M_counts_49 : decode me_M_counts.2.1 49 = .ok (.iastore, 1) := by decide +kernel
theorem d_M_counts_50 : decode me_M_counts.2.1 50 = .ok (.aload_n 0, 1) := by decide +kernel
theorem d_M_counts_51 : decode me_M_counts.2.1 51 = .ok (.getfield 46, 3) := by decide +kernel
theorem d_M_counts_54 : decode me_M_counts.2.1 54 = .ok (.iconst 2, 1) := by decide +kernel
theorem d_M_counts_55 : decode me_M_counts.2.1 55 = .ok (.aload_n 0, 1) := by decide +kernel
theorem d_M_counts_56 : decode me_M_counts.2.1 56 = .ok (.iload_n 1, 1) := by decide +kernel
theorem d_M_counts_57 : decode me_M_counts.2.1 57 = .ok (.invokevirtual 213, 3) := by decide +kernel
theorem d_M_counts_60 : decode me_M_counts.2.1 60 = .ok (.aload_n 0, 1) := by decide +kernel
theorem d_M_counts_61 : decode me_M_counts.2.1 61 = .ok (.iload_n 2, 1) := by decide +kernel
theorem d_M_counts_62 : decode me_M_counts.2.1 62 = .ok (.invokevirtual 213, 3) := by decide +kernel
theorem d_M_counts_65 : decode me_M_counts.2.1 65 = .ok (.iadd, 1) := by decide +kernel
theorem d_M_counts_66 : decode me_M_counts.2.1 66 = .ok (.iastore, 1) := by decide +kernel
theorem d_M_counts_67 : decode me_M_counts.2.1 67 = .ok (.aload_n 0, 1) := by decide +kernel
theorem d_M_counts_68 : decode me_M_counts.2.1 68 = .ok (.getfield 46, 3) := by decide +kernel
theorem d_M_counts_71 : decode me_M_counts.2.1 71 = .ok (.iconst 3, 1) := by decide +kernel
theorem d_M_counts_72 : decode me_M_counts.2.1 72 = .ok (.iload_n 3, 1) := by decide +kernel
theorem d_M_counts_73 : decode me_M_counts.2.1 73 = .ok (.iastore, 1) := by decide +kernel
theorem d_M_counts_74 : decode me_M_counts.2.1 74 = .ok (.aload_n 0, 1) := by decide +kernel
theorem d_M_counts_75 : decode me_M_counts.2.1 75 = .ok (.getfield 46, 3) := by decide +kernel
theorem d_M_counts_78 : decode me_M_counts.2.1 78 = .ok (.iconst 4, 1) := by decide +kernel
theorem d_M_counts_79 : decode me_M_counts.2.1 79 = .ok (.aload_n 0, 1) := by decide +kernel
theorem d_M_counts_80 : decode me_M_counts.2.1 80 = .ok (.getfield 25, 3) := by decide +kernel
theorem d_M_counts_83 : decode me_M_counts.2.1 83 = .ok (.iload_n 1, 1) := by decide +kernel
theorem d_M_counts_84 : decode me_M_counts.2.1 84 = .ok (.iaload, 1) := by decide +kernel
theorem d_M_counts_85 : decode me_M_counts.2.1 85 = .ok (.aload_n 0, 1) := by decide +kernel
theorem d_M_counts_86 : decode me_M_counts.2.1 86 = .ok (.getfield 25, 3) := by decide +kernel
theorem d_M_counts_89 : decode me_M_counts.2.1 89 = .ok (.iload_n 2, 1) := by decide +kernel
theorem d_M_counts_90 : decode me_M_counts.2.1 90 = .ok (.iaload, 1) := by decide +kernel
theorem d_M_counts_91 : decode me_M_counts.2.1 91 = .ok (.if_icmp .ge 12, 3) := by decide +kernel
theorem d_M_counts_94 : decode me_M_counts.2.1 94 = .ok (.aload_n 0, 1) := by decide +kernel
theorem d_M_counts_95 : decode me_M_counts.2.1 95 = .ok (.getfield 25, 3) := by decide +kernel
theorem d_M_counts_98 : decode me_M_counts.2.1 98 = .ok (.iload_n 1, 1) := by decide +kernel
theorem d_M_counts_99 : decode me_M_counts.2.1 99 = .ok (.iaload, 1) := by decide +kernel
theorem d_M_counts_100 : decode me_M_counts.2.1 100 = .ok (.goto 9, 3) := by decide +kernel
theorem d_M_counts_103 : decode me_M_counts.2.1 103 = .ok (.aload_n 0, 1) := by decide +kernel
theorem d_M_counts_104 : decode me_M_counts.2.1 104 = .ok (.getfield 25, 3) := by decide +kernel
theorem d_M_counts_107 : decode me_M_counts.2.1 107 = .ok (.iload_n 2, 1) := by decide +kernel
theorem d_M_counts_108 : decode me_M_counts.2.1 108 = .ok (.iaload, 1) := by decide +kernel
theorem d_M_counts_109 : decode me_M_counts.2.1 109 = .ok (.iastore, 1) := by decide +kernel
theorem d_M_counts_110 : decode me_M_counts.2.1 110 = .ok (.aload_n 0, 1) := by decide +kernel
theorem d_M_counts_111 : decode me_M_counts.2.1 111 = .ok (.getfield 46, 3) := by decide +kernel
theorem d_M_counts_114 : decode me_M_counts.2.1 114 = .ok (.iconst 5, 1) := by decide +kernel
theorem d_M_counts_115 : decode me_M_counts.2.1 115 = .ok (.aload_n 0, 1) := by decide +kernel
theorem d_M_counts_116 : decode me_M_counts.2.1 116 = .ok (.getfield 25, 3) := by decide +kernel
theorem d_M_counts_119 : decode me_M_counts.2.1 119 = .ok (.iload_n 1, 1) := by decide +kernel
theorem d_M_counts_120 : decode me_M_counts.2.1 120 = .ok (.iaload, 1) := by decide +kernel
theorem d_M_counts_121 : decode me_M_counts.2.1 121 = .ok (.aload_n 0, 1) := by decide +kernel
theorem d_M_counts_122 : decode me_M_counts.2.1 122 = .ok (.getfield 25, 3) := by decide +kernel
theorem d_M_counts_125 : decode me_M_counts.2.1 125 = .ok (.iload_n 2, 1) := by decide +kernel
theorem d_M_counts_126 : decode me_M_counts.2.1 126 = .ok (.iaload, 1) := by decide +kernel
theorem d_M_counts_127 : decode me_M_counts.2.1 127 = .ok (.if_icmp .ge 12, 3) := by decide +kernel
theorem d_M_counts_130 : decode me_M_counts.2.1 130 = .ok (.aload_n 0, 1) := by decide +kernel
theorem d_M_counts_131 : decode me_M_counts.2.1 131 = .ok (.getfield 25, 3) := by decide +kernel
theorem d_M_counts_134 : decode me_M_counts.2.1 134 = .ok (.iload_n 2, 1) := by decide +kernel
theorem d_M_counts_135 : decode me_M_counts.2.1 135 = .ok (.iaload, 1) := by decide +kernel
theorem d_M_counts_136 : decode me_M_counts.2.1 136 = .ok (.goto 9, 3) := by decide +kernel
theorem d_M_counts_139 : decode me_M_counts.2.1 139 = .ok (.aload_n 0, 1) := by decide +kernel
theorem d_M_counts_140 : decode me_M_counts.2.1 140 = .ok (.getfield 25, 3) := by decide +kernel
theorem d_M_counts_143 : decode me_M_counts.2.1 143 = .ok (.iload_n 1, 1) := by decide +kernel
theorem d_M_counts_144 : decode me_M_counts.2.1 144 = .ok (.iaload, 1) := by decide +kernel
theorem d_M_counts_145 : decode me_M_counts.2.1 145 = .ok (.iastore, 1) := by decide +kernel
theorem d_M_counts_146 : decode me_M_counts.2.1 146 = .ok (.aload_n 0, 1) := by decide +kernel
theorem d_M_counts_147 : decode me_M_counts.2.1 147 = .ok (.iconst 0, 1) := by decide +kernel
theorem d_M_counts_148 : decode me_M_counts.2.1 148 = .ok (.aload_n 0, 1) := by decide +kernel
theorem d_M_counts_149 : decode me_M_counts.2.1 149 = .ok (.getfield 90, 3) := by decide +kernel
theorem d_M_counts_152 : decode me_M_counts.2.1 152 = .ok (.invokevirtual 207, 3) := by decide +kernel
theorem d_M_counts_155 : decode me_M_counts.2.1 155 = .ok (.ifCond .eq 7, 3) := by decide +kernel
theorem d_M_counts_158 : decode me_M_counts.2.1 158 = .ok (.iconst 1, 1) := by decide +kernel
theorem d_M_counts_159 : decode me_M_counts.2.1 159 = .ok (.goto 4, 3) := by decide +kernel
theorem d_M_counts_162 : decode me_M_counts.2.1 162 = .ok (.iconst 0, 1) := by decide +kernel
theorem d_M_counts_163 : decode me_M_counts.2.1 163 = .ok (.ireturn, 1) := by decide +kernel
noncomputable def f_M_counts_145  (s1 : Int32) (s2 : Int32) (m0 : gk_M) : Option (Int32 × gk_M) :=
  gk_si m0 13 6 s1 s2 fun m1 =>
  gk_bi (f_M_workOut 0 (m1.1 0 18) m1) fun v3 m2 =>
  if v3 = 0 then
    some (0, m2)
  else
    some (1, m2)

theorem s_M_counts_145 {z : gk_Z} (K : gk_F tm z me_M_counts 65) {r : Int32} {mem2 : gk_M} : ∀ s1 s2 m0, f_M_counts_145 s1 s2 m0 = some (r, mem2) → gk_G tm z me_M_counts (gk_R tm z (some (.int r)) mem2) m0 [(0, .ref 0)] [.int s2, .int s1, .ref 13] 145 := by
  intro s1 s2 m0  h
  unfold f_M_counts_145 at h
  refine gk_iast (pc := 145) K d_M_counts_145 tm_13 h (fun m1 h => ?_)
  refine gk_aload_n (pc := 146) K d_M_counts_146 rfl ?_
  refine gk_iconst (pc := 147) K d_M_counts_147 kc_0 ?_
  refine gk_aload_n (pc := 148) K d_M_counts_148 rfl ?_
  refine gk_get (pc := 149) K d_M_counts_149 fl_M_90 tm_0 rfl rfl ?_
  obtain ⟨v3, m2, em2, h⟩ := gk_bi_some h
  refine gk_cVi (As := [.int 0, .int (m1.1 0 18)]) (pc := 152) K d_M_counts_152 mv_M_207 mc_M_workOut rfl tm_0 cl_ok10.1 (s_M_workOut (gk_FD K)  em2) (by decide) rfl (Nat.le_of_ble_eq_true rfl) ?_
  refine gk_if_eq (tgt := 162) (pc := 155) K d_M_counts_155 (by decide) h (fun h => ?_) (fun h => ?_)
  · refine gk_iconst (pc := 162) K d_M_counts_162 kc_0 ?_
    exact gk_zretc (pc := 163) K d_M_counts_163 rfl (Or.inl rfl) h
  · refine gk_iconst (pc := 158) K d_M_counts_158 kc_1 ?_
    refine gk_goto (tgt := 163) (pc := 159) K d_M_counts_159 (by decide) ?_
    exact gk_zretc (pc := 163) K d_M_counts_163 rfl (Or.inr rfl) h
noncomputable def f_M_counts_109  (a1 : Int32) (a2 : Int32) (s1 : Int32) (s2 : Int32) (m0 : gk_M) : Option (Int32 × gk_M) :=
  gk_si m0 13 6 s1 s2 fun m1 =>
  gk_ai m1 6 20 a1 fun v2 =>
  gk_ai m1 6 20 a2 fun v3 =>
  if v3 ≤ v2 then
    gk_ai m1 6 20 a1 fun v4 =>
    f_M_counts_145 5 v4 m1
  else
    gk_ai m1 6 20 a2 fun v5 =>
    f_M_counts_145 5 v5 m1

theorem s_M_counts_109 {z : gk_Z} (K : gk_F tm z me_M_counts 65) {r : Int32} {mem2 : gk_M} : ∀ a1 a2 s1 s2 m0, f_M_counts_109 a1 a2 s1 s2 m0 = some (r, mem2) → gk_G tm z me_M_counts (gk_R tm z (some (.int r)) mem2) m0 [(0, .ref 0), (1, .int a1), (2, .int a2)] [.int s2, .int s1, .ref 13] 109 := by
  intro a1 a2 s1 s2 m0  h
  unfold f_M_counts_109 at h
  refine gk_iast (pc := 109) K d_M_counts_109 tm_13 h (fun m1 h => ?_)
  refine gk_aload_n (pc := 110) K d_M_counts_110 rfl ?_
  refine gk_get (pc := 111) K d_M_counts_111 fl_M_46 tm_0 rfl rfl ?_
  refine gk_iconst (pc := 114) K d_M_counts_114 kc_5 ?_
  refine gk_aload_n (pc := 115) K d_M_counts_115 rfl ?_
  refine gk_get (pc := 116) K d_M_counts_116 fl_M_25 tm_0 rfl rfl ?_
  refine gk_iload_n (pc := 119) K d_M_counts_119 rfl ?_
  refine gk_iald (pc := 120) K d_M_counts_120 tm_6 h (fun v2 h => ?_)
  refine gk_aload_n (pc := 121) K d_M_counts_121 rfl ?_
  refine gk_get (pc := 122) K d_M_counts_122 fl_M_25 tm_0 rfl rfl ?_
  refine gk_iload_n (pc := 125) K d_M_counts_125 rfl ?_
  refine gk_iald (pc := 126) K d_M_counts_126 tm_6 h (fun v3 h => ?_)
  refine gk_ic_ge (tgt := 139) (pc := 127) K d_M_counts_127 (by decide) h (fun h => ?_) (fun h => ?_)
  · refine gk_aload_n (pc := 139) K d_M_counts_139 rfl ?_
    refine gk_get (pc := 140) K d_M_counts_140 fl_M_25 tm_0 rfl rfl ?_
    refine gk_iload_n (pc := 143) K d_M_counts_143 rfl ?_
    refine gk_iald (pc := 144) K d_M_counts_144 tm_6 h (fun v4 h => ?_)
    exact gk_sub [0] rfl (s_M_counts_145 K _ _ _  h)
  · refine gk_aload_n (pc := 130) K d_M_counts_130 rfl ?_
    refine gk_get (pc := 131) K d_M_counts_131 fl_M_25 tm_0 rfl rfl ?_
    refine gk_iload_n (pc := 134) K d_M_counts_134 rfl ?_
    refine gk_iald (pc := 135) K d_M_counts_135 tm_6 h (fun v5 h => ?_)
    refine gk_goto (tgt := 145) (pc := 136) K d_M_counts_136 (by decide) ?_
    exact gk_sub [0] rfl (s_M_counts_145 K _ _ _  h)
noncomputable def f_M_counts  (a1 : Int32) (a2 : Int32) (a3 : Int32) (m0 : gk_M) : Option (Int32 × gk_M) :=
  if 0 ≤ (m0.1 0 18) then
    gk_bi (f_M_heightOf a1 m0) fun v2 m1 =>
    gk_si m1 13 6 0 v2 fun m3 =>
    gk_bi (f_M_heightOf a2 m3) fun v5 m4 =>
    gk_si m4 13 6 1 v5 fun m6 =>
    gk_bi (f_M_oldOf a1 m6) fun v8 m7 =>
    gk_bi (f_M_oldOf a2 m7) fun v10 m9 =>
    gk_si m9 13 6 2 (v8 + v10) fun m11 =>
    gk_si m11 13 6 3 a3 fun m12 =>
    gk_ai m12 6 20 a1 fun v13 =>
    gk_ai m12 6 20 a2 fun v14 =>
    if v14 ≤ v13 then
      gk_ai m12 6 20 a2 fun v15 =>
      f_M_counts_109 a1 a2 4 v15 m12
    else
      gk_ai m12 6 20 a1 fun v16 =>
      f_M_counts_109 a1 a2 4 v16 m12
  else
    gk_bi (f_M_heightOf a2 m0) fun v18 m17 =>
    gk_bi (f_M_heightOf a1 m17) fun v20 m19 =>
    if (v20 + 3) < v18 then
      some (0, m19)
    else
      some (1, m19)

theorem s_M_counts_0 {z : gk_Z} (K : gk_F tm z me_M_counts 65) {r : Int32} {mem2 : gk_M} : ∀ a1 a2 a3 m0, f_M_counts a1 a2 a3 m0 = some (r, mem2) → gk_G tm z me_M_counts (gk_R tm z (some (.int r)) mem2) m0 [(0, .ref 0), (1, .int a1), (2, .int a2), (3, .int a3)] [] 0 := by
  intro a1 a2 a3 m0  h
  unfold f_M_counts at h
  refine gk_aload_n (pc := 0) K d_M_counts_0 rfl ?_
  refine gk_get (pc := 1) K d_M_counts_1 fl_M_90 tm_0 rfl rfl ?_
  refine gk_if_ge (tgt := 28) (pc := 4) K d_M_counts_4 (by decide) h (fun h => ?_) (fun h => ?_)
  · refine gk_aload_n (pc := 28) K d_M_counts_28 rfl ?_
    refine gk_get (pc := 29) K d_M_counts_29 fl_M_46 tm_0 rfl rfl ?_
    refine gk_iconst (pc := 32) K d_M_counts_32 kc_0 ?_
    refine gk_aload_n (pc := 33) K d_M_counts_33 rfl ?_
    refine gk_iload_n (pc := 34) K d_M_counts_34 rfl ?_
    obtain ⟨v2, m1, em1, h⟩ := gk_bi_some h
    refine gk_cVi (As := [.int a1]) (pc := 35) K d_M_counts_35 mv_M_210 mc_M_heightOf rfl tm_0 cl_ok10.1 (s_M_heightOf (gk_FD K)  em1) (by decide) rfl (Nat.le_of_ble_eq_true rfl) ?_
    refine gk_iast (pc := 38) K d_M_counts_38 tm_13 h (fun m3 h => ?_)
    refine gk_aload_n (pc := 39) K d_M_counts_39 rfl ?_
    refine gk_get (pc := 40) K d_M_counts_40 fl_M_46 tm_0 rfl rfl ?_
    refine gk_iconst (pc := 43) K d_M_counts_43 kc_1 ?_
    refine gk_aload_n (pc := 44) K d_M_counts_44 rfl ?_
    refine gk_iload_n (pc := 45) K d_M_counts_45 rfl ?_
    obtain ⟨v5, m4, em4, h⟩ := gk_bi_some h
    refine gk_cVi (As := [.int a2]) (pc := 46) K d_M_counts_46 mv_M_210 mc_M_heightOf rfl tm_0 cl_ok10.1 (s_M_heightOf (gk_FD K)  em4) (by decide) rfl (Nat.le_of_ble_eq_true rfl) ?_
    refine gk_iast (pc := 49) K d_M_counts_49 tm_13 h (fun m6 h => ?_)
    refine gk_aload_n (pc := 50) K d_M_counts_50 rfl ?_
    refine gk_get (pc := 51) K d_M_counts_51 fl_M_46 tm_0 rfl rfl ?_
    refine gk_iconst (pc := 54) K d_M_counts_54 kc_2 ?_
    refine gk_aload_n (pc := 55) K d_M_counts_55 rfl ?_
    refine gk_iload_n (pc := 56) K d_M_counts_56 rfl ?_
    obtain ⟨v8, m7, em7, h⟩ := gk_bi_some h
    refine gk_cVi (As := [.int a1]) (pc := 57) K d_M_counts_57 mv_M_213 mc_M_oldOf rfl tm_0 cl_ok10.1 (s_M_oldOf (gk_FD K)  em7) (by decide) rfl (Nat.le_of_ble_eq_true rfl) ?_
    refine gk_aload_n (pc := 60) K d_M_counts_60 rfl ?_
    refine gk_iload_n (pc := 61) K d_M_counts_61 rfl ?_
    obtain ⟨v10, m9, em9, h⟩ := gk_bi_some h
    refine gk_cVi (As := [.int a2]) (pc := 62) K d_M_counts_62 mv_M_213 mc_M_oldOf rfl tm_0 cl_ok10.1 (s_M_oldOf (gk_FD K)  em9) (by decide) rfl (Nat.le_of_ble_eq_true rfl) ?_
    refine gk_iadd (pc := 65) K d_M_counts_65 ?_
    refine gk_iast (pc := 66) K d_M_counts_66 tm_13 h (fun m11 h => ?_)
    refine gk_aload_n (pc := 67) K d_M_counts_67 rfl ?_
    refine gk_get (pc := 68) K d_M_counts_68 fl_M_46 tm_0 rfl rfl ?_
    refine gk_iconst (pc := 71) K d_M_counts_71 kc_3 ?_
    refine gk_iload_n (pc := 72) K d_M_counts_72 rfl ?_
    refine gk_iast (pc := 73) K d_M_counts_73 tm_13 h (fun m12 h => ?_)
    refine gk_aload_n (pc := 74) K d_M_counts_74 rfl ?_
    refine gk_get (pc := 75) K d_M_counts_75 fl_M_46 tm_0 rfl rfl ?_
    refine gk_iconst (pc := 78) K d_M_counts_78 kc_4 ?_
    refine gk_aload_n (pc := 79) K d_M_counts_79 rfl ?_
    refine gk_get (pc := 80) K d_M_counts_80 fl_M_25 tm_0 rfl rfl ?_
    refine gk_iload_n (pc := 83) K d_M_counts_83 rfl ?_
    refine gk_iald (pc := 84) K d_M_counts_84 tm_6 h (fun v13 h => ?_)
    refine gk_aload_n (pc := 85) K d_M_counts_85 rfl ?_
    refine gk_get (pc := 86) K d_M_counts_86 fl_M_25 tm_0 rfl rfl ?_
    refine gk_iload_n (pc := 89) K d_M_counts_89 rfl ?_
    refine gk_iald (pc := 90) K d_M_counts_90 tm_6 h (fun v14 h => ?_)
    refine gk_ic_ge (tgt := 103) (pc := 91) K d_M_counts_91 (by decide) h (fun h => ?_) (fun h => ?_)
    · refine gk_aload_n (pc := 103) K d_M_counts_103 rfl ?_
      refine gk_get (pc := 104) K d_M_counts_104 fl_M_25 tm_0 rfl rfl ?_
      refine gk_iload_n (pc := 107) K d_M_counts_107 rfl ?_
      refine gk_iald (pc := 108) K d_M_counts_108 tm_6 h (fun v15 h => ?_)
      exact gk_sub [0, 1, 2] rfl (s_M_counts_109 K _ _ _ _ _  h)
    · refine gk_aload_n (pc := 94) K d_M_counts_94 rfl ?_
      refine gk_get (pc := 95) K d_M_counts_95 fl_M_25 tm_0 rfl rfl ?_
      refine gk_iload_n (pc := 98) K d_M_counts_98 rfl ?_
      refine gk_iald (pc := 99) K d_M_counts_99 tm_6 h (fun v16 h => ?_)
      refine gk_goto (tgt := 109) (pc := 100) K d_M_counts_100 (by decide) ?_
      exact gk_sub [0, 1, 2] rfl (s_M_counts_109 K _ _ _ _ _  h)
  · refine gk_aload_n (pc := 7) K d_M_counts_7 rfl ?_
    refine gk_iload_n (pc := 8) K d_M_counts_8 rfl ?_
    obtain ⟨v18, m17, em17, h⟩ := gk_bi_some h
    refine gk_cVi (As := [.int a2]) (pc := 9) K d_M_counts_9 mv_M_210 mc_M_heightOf rfl tm_0 cl_ok10.1 (s_M_heightOf (gk_FD K)  em17) (by decide) rfl (Nat.le_of_ble_eq_true rfl) ?_
    refine gk_aload_n (pc := 12) K d_M_counts_12 rfl ?_
    refine gk_iload_n (pc := 13) K d_M_counts_13 rfl ?_
    obtain ⟨v20, m19, em19, h⟩ := gk_bi_some h
    refine gk_cVi (As := [.int a1]) (pc := 14) K d_M_counts_14 mv_M_210 mc_M_heightOf rfl tm_0 cl_ok10.1 (s_M_heightOf (gk_FD K)  em19) (by decide) rfl (Nat.le_of_ble_eq_true rfl) ?_
    refine gk_iconst (pc := 17) K d_M_counts_17 kc_3 ?_
    refine gk_iadd (pc := 18) K d_M_counts_18 ?_
    refine gk_ic_gt (tgt := 26) (pc := 19) K d_M_counts_19 (by decide) h (fun h => ?_) (fun h => ?_)
    · refine gk_iconst (pc := 26) K d_M_counts_26 kc_0 ?_
      exact gk_zretc (pc := 27) K d_M_counts_27 rfl (Or.inl rfl) h
    · refine gk_iconst (pc := 22) K d_M_counts_22 kc_1 ?_
      refine gk_goto (tgt := 27) (pc := 23) K d_M_counts_23 (by decide) ?_
      exact gk_zretc (pc := 27) K d_M_counts_27 rfl (Or.inr rfl) h
theorem s_M_counts {l : Launch} {u : gk_U} (hD : gk_D tm u) {a1 : Int32} {a2 : Int32} {a3 : Int32} {m0 mem2 : gk_M} {r : Int32} (h : f_M_counts a1 a2 a3 m0 = some (r, mem2)) : gk_C tm l u me_M_counts 65 [.ref 0, .int a1, .int a2, .int a3] m0 (some (.int r)) mem2 :=
  gk_enter hD mc_M_counts (Nat.le_of_ble_eq_true rfl) rfl (fun z _ _ K => s_M_counts_0 K _ _ _ _  h)
theorem d_M_inLine_0 : decode me_M_inLine.2.1 0 = .ok (.aload_n 0, 1) := by decide +kernel
theorem d_M_inLine_1 : decode me_M_inLine.2.1 1 = .ok (.lload_n 1, 1) := by decide +kernel
theorem d_M_inLine_2 : decode me_M_inLine.2.1 2 = .ok (.lload_n 3, 1) := by decide +kernel
theorem d_M_inLine_3 : decode me_M_inLine.2.1 3 = .ok (.lload 5, 2) := by decide +kernel
theorem d_M_inLine_5 : decode me_M_inLine.2.1 5 = .ok (.iload 7, 2) := by decide +kernel
theorem d_M_inLine_7 : decode me_M_inLine.2.1 7 = .ok (.iload 8, 2) := by decide +kernel
theorem d_M_inLine_9 : decode me_M_inLine.2.1 9 = .ok (.invokevirtual 235, 3) := by decide +kernel
theorem d_M_inLine_12 : decode me_M_inLine.2.1 12 = .ok (.ifCond .eq 29, 3) := by decide +kernel
theorem d_M_inLine_15 : decode me_M_inLine.2.1 15 = .ok (.aload_n 0, 1) := by decide +kernel
theorem d_M_inLine_16 : decode me_M_inLine.2.1 16 = .ok (.lload_n 1, 1) := by decide +kernel
theorem d_M_inLine_17 : decode me_M_inLine.2.1 17 = .ok (.lload_n 3, 1) := by decide +kernel
theorem d_M_inLine_18 : decode me_M_inLine.2.1 18 = .ok (.lload 5, 2) := by decide +kernel
theorem d_M_inLine_20 : decode me_M_inLine.2.1 20 = .ok (.iload 7, 2) := by decide +kernel
theorem d_M_inLine_22 : decode me_M_inLine.2.1 22 = .ok (.invokevirtual 239, 3) := by decide +kernel
theorem d_M_inLine_25 : decode me_M_inLine.2.1 25 = .ok (.ifCond .ne 16, 3) := by decide +kernel
theorem d_M_inLine_28 : decode me_M_inLine.2.1 28 = .ok (.aload_n 0, 1) := by decide +kernel
theorem d_M_inLine_29 : decode me_M_inLine.2.1 29 = .ok (.lload_n 1, 1) := by decide +kernel
theorem d_M_inLine_30 : decode me_M_inLine.2.1 30 = .ok (.lload_n 3, 1) := by decide +kernel
theorem d_M_inLine_31 : decode me_M_inLine.2.1 31 = .ok (.lload 5, 2) := by decide +kernel
theorem d_M_inLine_33 : decode me_M_inLine.2.1 33 = .ok (.iload 8, 2) := by decide +kernel
theorem d_M_inLine_35 : decode me_M_inLine.2.1 35 = .ok (.invokevirtual 239, 3) := by decide +kernel
theorem d_M_inLine_38 : decode me_M_inLine.2.1 38 = .ok (.ifCond .eq 5, 3) := by decide +kernel
theorem d_M_inLine_41 : decode me_M_inLine.2.1 41 = .ok (.iconst 0, 1) := by decide +kernel
theorem d_M_inLine_42 : decode me_M_inLine.2.1 42 = .ok (.ireturn, 1) := by decide +kernel
theorem d_M_inLine_43 : decode me_M_inLine.2.1 43 = .ok (.aload_n 0, 1) := by decide +kernel
theorem d_M_inLine_44 : decode me_M_inLine.2.1 44 = .ok (.lload_n 1, 1) := by decide +kernel
theorem d_M_inLine_45 : decode me_M_inLine.2.1 45 = .ok (.lload_n 3, 1) := by decide +kernel
theorem d_M_inLine_46 : decode me_M_inLine.2.1 46 = .ok (.lload 5, 2) := by decide +kernel
theorem d_M_inLine_48 : decode me_M_inLine.2.1 48 = .ok (.iload 7, 2) := by decide +kernel
theorem d_M_inLine_50 : decode me_M_inLine.2.1 50 = .ok (.invokevirtual 243, 3) := by decide +kernel
theorem d_M_inLine_53 : decode me_M_inLine.2.1 53 = .ok (.aload_n 0, 1) := by decide +kernel
theorem d_M_inLine_54 : decode me_M_inLine.2.1 54 = .ok (.lload_n 1, 1) := by decide +kernel
theorem d_M_inLine_55 : decode me_M_inLine.2.1 55 = .ok (.lload_n 3, 1) := by decide +kernel
theorem d_M_inLine_56 : decode me_M_inLine.2.1 56 = .ok (.lload 5, 2) := by decide +kernel
theorem d_M_inLine_58 : decode me_M_inLine.2.1 58 = .ok (.iload 8, 2) := by decide +kernel
theorem d_M_inLine_60 : decode me_M_inLine.2.1 60 = .ok (.invokevirtual 243, 3) := by decide +kernel
theorem d_M_inLine_63 : decode me_M_inLine.2.1 63 = .ok (.lcmp, 1) := by decide +kernel
theorem d_M_inLine_64 : decode me_M_inLine.2.1 64 = .ok (.ifCond .ge 7, 3) := by decide +kernel
theorem d_M_inLine_67 : decode me_M_inLine.2.1 67 = .ok (.iconst 1, 1) := by decide +kernel
theorem d_M_inLine_68 : decode me_M_inLine.2.1 68 = .ok (.goto 4, 3) := by decide +kernel
theorem d_M_inLine_71 : decode me_M_inLine.2.1 71 = .ok (.iconst 0, 1) := by decide +kernel
theorem d_M_inLine_72 : decode me_M_inLine.2.1 72 = .ok (.istore 10, 2) := by decide +kernel
theorem d_M_inLine_74 : decode me_M_inLine.2.1 74 = .ok (.aload_n 0, 1) := by decide +kernel
theorem d_M_inLine_75 : decode me_M_inLine.2.1 75 = .ok (.iload 10, 2) := by decide +kernel
theorem d_M_inLine_77 : decode me_M_inLine.2.1 77 = .ok (.ifCond .eq 8, 3) := by decide +kernel
theorem d_M_inLine_80 : decode me_M_inLine.2.1 80 = .ok (.iload 7, 2) := by decide +kernel
theorem d_M_inLine_82 : decode me_M_inLine.2.1 82 = .ok (.goto 5, 3) := by decide +kernel
theorem d_M_inLine_85 : decode me_M_inLine.2.1 85 = .ok (.iload 8, 2) := by decide +kernel
theorem d_M_inLine_87 : decode me_M_inLine.2.1 87 = .ok (.iload 10, 2) := by decide +kernel
theorem d_M_inLine_89 : decode me_M_inLine.2.1 89 = .ok (.ifCond .eq 8, 3) := by decide +kernel
theorem d_M_inLine_92 : decode me_M_inLine.2.1 92 = .ok (.iload 8, 2) := by decide +kernel
theorem d_M_inLine_94 : decode me_M_inLine.2.1 94 = .ok (.goto 5, 3) := by decide +kernel
theorem d_M_inLine_97 : decode me_M_inLine.2.1 97 = .ok (.iload 7, 2) := by decide +kernel
theorem d_M_inLine_99 : decode me_M_inLine.2.1 99 = .ok (.iload 9, 2) := by decide +kernel
theorem d_M_inLine_101 : decode me_M_inLine.2.1 101 = .ok (.invokevirtual 247, 3) := by decide +kernel
theorem d_M_inLine_104 : decode me_M_inLine.2.1 104 = .ok (.ireturn, 1) := by decide +kernel
noncomputable def f_M_inLine_99  (a9 : Int32) (s1 : Int32) (s2 : Int32) (m0 : gk_M) : Option (Int32 × gk_M) :=
  gk_bi (f_M_counts s1 s2 a9 m0) fun v2 m1 =>
  gk_zz v2 (some (v2, m1))

theorem s_M_inLine_99 {z : gk_Z} (K : gk_F tm z me_M_inLine 66) {r : Int32} {mem2 : gk_M} : ∀ a9 s1 s2 m0, f_M_inLine_99 a9 s1 s2 m0 = some (r, mem2) → gk_G tm z me_M_inLine (gk_R tm z (some (.int r)) mem2) m0 [(9, .int a9)] [.int s2, .int s1, .ref 0] 99 := by
  intro a9 s1 s2 m0  h
  unfold f_M_inLine_99 at h
  refine gk_iload (pc := 99) K d_M_inLine_99 rfl ?_
  obtain ⟨v2, m1, em1, h⟩ := gk_bi_some h
  refine gk_cVi (As := [.int s1, .int s2, .int a9]) (pc := 101) K d_M_inLine_101 mv_M_247 mc_M_counts rfl tm_0 cl_ok10.1 (s_M_counts (gk_FD K)  em1) (by decide) rfl (Nat.le_of_ble_eq_true rfl) ?_
  exact gk_zret (pc := 104) K d_M_inLine_104 rfl h
noncomputable def f_M_inLine_87  (a7 : Int32) (a8 : Int32) (a9 : Int32) (a10 : Int32) (s1 : Int32) (m0 : gk_M) : Option (Int32 × gk_M) :=
  if a10 = 0 then
    f_M_inLine_99 a9 s1 a7 m0
  else
    f_M_inLine_99 a9 s1 a8 m0

theorem s_M_inLine_87 {z : gk_Z} (K : gk_F tm z me_M_inLine 66) {r : Int32} {mem2 : gk_M} : ∀ a7 a8 a9 a10 s1 m0, f_M_inLine_87 a7 a8 a9 a10 s1 m0 = some (r, mem2) → gk_G tm z me_M_inLine (gk_R tm z (some (.int r)) mem2) m0 [(7, .int a7), (8, .int a8), (9, .int a9), (10, .int a10)] [.int s1, .ref 0] 87 := by
  intro a7 a8 a9 a10 s1 m0  h
  unfold f_M_inLine_87 at h
  refine gk_iload (pc := 87) K d_M_inLine_87 rfl ?_
  refine gk_if_eq (tgt := 97) (pc := 89) K d_M_inLine_89 (by decide) h (fun h => ?_) (fun h => ?_)
  · refine gk_iload (pc := 97) K d_M_inLine_97 rfl ?_
    exact gk_sub [2] rfl (s_M_inLine_99 K _ _ _ _  h)
  · refine gk_iload (pc := 92) K d_M_inLine_92 rfl ?_
    refine gk_goto (tgt := 99) (pc := 94) K d_M_inLine_94 (by decide) ?_
    exact gk_sub [2] rfl (s_M_inLine_99 K _ _ _ _  h)
noncomputable def f_M_inLine_72  (a7 : Int32) (a8 : Int32) (a9 : Int32) (s0 : Int32) (m0 : gk_M) : Option (Int32 × gk_M) :=
  if s0 = 0 then
    f_M_inLine_87 a7 a8 a9 s0 a8 m0
  else
    f_M_inLine_87 a7 a8 a9 s0 a7 m0

theorem s_M_inLine_72 {z : gk_Z} (K : gk_F tm z me_M_inLine 66) {r : Int32} {mem2 : gk_M} : ∀ a7 a8 a9 s0 m0, f_M_inLine_72 a7 a8 a9 s0 m0 = some (r, mem2) → gk_G tm z me_M_inLine (gk_R tm z (some (.int r)) mem2) m0 [(0, .ref 0), (7, .int a7), (8, .int a8), (9, .int a9)] [.int s0] 72 := by
  intro a7 a8 a9 s0 m0  h
  unfold f_M_inLine_72 at h
  refine gk_istore (lv2 := [(10, .int s0), (0, .ref 0), (7, .int a7), (8, .int a8), (9, .int a9)]) (pc := 72) K d_M_inLine_72 (by decide) rfl ?_
  refine gk_aload_n (pc := 74) K d_M_inLine_74 rfl ?_
  refine gk_iload (pc := 75) K d_M_inLine_75 rfl ?_
  refine gk_if_eq (tgt := 85) (pc := 77) K d_M_inLine_77 (by decide) h (fun h => ?_) (fun h => ?_)
  · refine gk_iload (pc := 85) K d_M_inLine_85 rfl ?_
    exact gk_sub [2, 3, 4, 0] rfl (s_M_inLine_87 K _ _ _ _ _ _  h)
  · refine gk_iload (pc := 80) K d_M_inLine_80 rfl ?_
    refine gk_goto (tgt := 87) (pc := 82) K d_M_inLine_82 (by decide) ?_
    exact gk_sub [2, 3, 4, 0] rfl (s_M_inLine_87 K _ _ _ _ _ _  h)
noncomputable def f_M_inLine  (a1 : Int64) (a3 : Int64) (a5 : Int64) (a7 : Int32) (a8 : Int32) (a9 : Int32) (m0 : gk_M) : Option (Int32 × gk_M) :=
  gk_bi (f_M_isBehind a1 a3 a5 a7 a8 m0) fun v2 m1 =>
  if v2 = 0 then
    some (0, m1)
  else
    gk_bi (f_M_isStopped a1 a3 a5 a7 m1) fun v4 m3 =>
    if ¬ v4 = 0 then
      some (0, m3)
    else
      gk_bi (f_M_isStopped a1 a3 a5 a8 m3) fun v6 m5 =>
      if v6 = 0 then
        gk_bl (f_M_farOf a1 a3 a5 a7 m5) fun v8 m7 =>
        gk_bl (f_M_farOf a1 a3 a5 a8 m7) fun v10 m9 =>
        if v10 ≤ v8 then
          f_M_inLine_72 a7 a8 a9 0 m9
        else
          f_M_inLine_72 a7 a8 a9 1 m9
      else
        some (0, m5)

theorem s_M_inLine_0 {z : gk_Z} (K : gk_F tm z me_M_inLine 66) {r : Int32} {mem2 : gk_M} : ∀ a1 a3 a5 a7 a8 a9 m0, f_M_inLine a1 a3 a5 a7 a8 a9 m0 = some (r, mem2) → gk_G tm z me_M_inLine (gk_R tm z (some (.int r)) mem2) m0 [(0, .ref 0), (1, .long a1), (3, .long a3), (5, .long a5), (7, .int a7), (8, .int a8), (9, .int a9)] [] 0 := by
  intro a1 a3 a5 a7 a8 a9 m0  h
  unfold f_M_inLine at h
  refine gk_aload_n (pc := 0) K d_M_inLine_0 rfl ?_
  refine gk_lload_n (pc := 1) K d_M_inLine_1 rfl ?_
  refine gk_lload_n (pc := 2) K d_M_inLine_2 rfl ?_
  refine gk_lload (pc := 3) K d_M_inLine_3 rfl ?_
  refine gk_iload (pc := 5) K d_M_inLine_5 rfl ?_
  refine gk_iload (pc := 7) K d_M_inLine_7 rfl ?_
  obtain ⟨v2, m1, em1, h⟩ := gk_bi_some h
  refine gk_cVi (As := [.long a1, .long a3, .long a5, .int a7, .int a8]) (pc := 9) K d_M_inLine_9 mv_M_235 mc_M_isBehind rfl tm_0 cl_ok10.1 (s_M_isBehind (gk_FD K)  em1) (by decide) rfl (Nat.le_of_ble_eq_true rfl) ?_
  refine gk_if_eq (tgt := 41) (pc := 12) K d_M_inLine_12 (by decide) h (fun h => ?_) (fun h => ?_)
  · refine gk_iconst (pc := 41) K d_M_inLine_41 kc_0 ?_
    exact gk_zretc (pc := 42) K d_M_inLine_42 rfl (Or.inl rfl) h
  · refine gk_aload_n (pc := 15) K d_M_inLine_15 rfl ?_
    refine gk_lload_n (pc := 16) K d_M_inLine_16 rfl ?_
    refine gk_lload_n (pc := 17) K d_M_inLine_17 rfl ?_
    refine gk_lload (pc := 18) K d_M_inLine_18 rfl ?_
    refine gk_iload (pc := 20) K d_M_inLine_20 rfl ?_
    obtain ⟨v4, m3, em3, h⟩ := gk_bi_some h
    refine gk_cVi (As := [.long a1, .long a3, .long a5, .int a7]) (pc := 22) K d_M_inLine_22 mv_M_239 mc_M_isStopped rfl tm_0 cl_ok10.1 (s_M_isStopped (gk_FD K)  em3) (by decide) rfl (Nat.le_of_ble_eq_true rfl) ?_
    refine gk_if_ne (tgt := 41) (pc := 25) K d_M_inLine_25 (by decide) h (fun h => ?_) (fun h => ?_)
    · refine gk_iconst (pc := 41) K d_M_inLine_41 kc_0 ?_
      exact gk_zretc (pc := 42) K d_M_inLine_42 rfl (Or.inl rfl) h
    · refine gk_aload_n (pc := 28) K d_M_inLine_28 rfl ?_
      refine gk_lload_n (pc := 29) K d_M_inLine_29 rfl ?_
      refine gk_lload_n (pc := 30) K d_M_inLine_30 rfl ?_
      refine gk_lload (pc := 31) K d_M_inLine_31 rfl ?_
      refine gk_iload (pc := 33) K d_M_inLine_33 rfl ?_
      obtain ⟨v6, m5, em5, h⟩ := gk_bi_some h
      refine gk_cVi (As := [.long a1, .long a3, .long a5, .int a8]) (pc := 35) K d_M_inLine_35 mv_M_239 mc_M_isStopped rfl tm_0 cl_ok10.1 (s_M_isStopped (gk_FD K)  em5) (by decide) rfl (Nat.le_of_ble_eq_true rfl) ?_
      refine gk_if_eq (tgt := 43) (pc := 38) K d_M_inLine_38 (by decide) h (fun h => ?_) (fun h => ?_)
      · refine gk_aload_n (pc := 43) K d_M_inLine_43 rfl ?_
        refine gk_lload_n (pc := 44) K d_M_inLine_44 rfl ?_
        refine gk_lload_n (pc := 45) K d_M_inLine_45 rfl ?_
        refine gk_lload (pc := 46) K d_M_inLine_46 rfl ?_
        refine gk_iload (pc := 48) K d_M_inLine_48 rfl ?_
        obtain ⟨v8, m7, em7, h⟩ := gk_bl_some h
        refine gk_cVl (As := [.long a1, .long a3, .long a5, .int a7]) (pc := 50) K d_M_inLine_50 mv_M_243 mc_M_farOf rfl tm_0 cl_ok10.1 (s_M_farOf (gk_FD K)  em7) (by decide) rfl (Nat.le_of_ble_eq_true rfl) ?_
        refine gk_aload_n (pc := 53) K d_M_inLine_53 rfl ?_
        refine gk_lload_n (pc := 54) K d_M_inLine_54 rfl ?_
        refine gk_lload_n (pc := 55) K d_M_inLine_55 rfl ?_
        refine gk_lload (pc := 56) K d_M_inLine_56 rfl ?_
        refine gk_iload (pc := 58) K d_M_inLine_58 rfl ?_
        obtain ⟨v10, m9, em9, h⟩ := gk_bl_some h
        refine gk_cVl (As := [.long a1, .long a3, .long a5, .int a8]) (pc := 60) K d_M_inLine_60 mv_M_243 mc_M_farOf rfl tm_0 cl_ok10.1 (s_M_farOf (gk_FD K)  em9) (by decide) rfl (Nat.le_of_ble_eq_true rfl) ?_
        refine gk_lc_ge (tgt := 71) (pc := 63) K d_M_inLine_63 d_M_inLine_64 (by decide) h (fun h => ?_) (fun h => ?_)
        · refine gk_iconst (pc := 71) K d_M_inLine_71 kc_0 ?_
          exact gk_sub [0, 4, 5, 6] rfl (s_M_inLine_72 K _ _ _ _ _  h)
        · refine gk_iconst (pc := 67) K d_M_inLine_67 kc_1 ?_
          refine gk_goto (tgt := 72) (pc := 68) K d_M_inLine_68 (by decide) ?_
          exact gk_sub [0, 4, 5, 6] rfl (s_M_inLine_72 K _ _ _ _ _  h)
      · refine gk_iconst (pc := 41) K d_M_inLine_41 kc_0 ?_
        exact gk_zretc (pc := 42) K d_M_inLine_42 rfl (Or.inl rfl) h
theorem s_M_inLine {l : Launch} {u : gk_U} (hD : gk_D tm u) {a1 : Int64} {a3 : Int64} {a5 : Int64} {a7 : Int32} {a8 : Int32} {a9 : Int32} {m0 mem2 : gk_M} {r : Int32} (h : f_M_inLine a1 a3 a5 a7 a8 a9 m0 = some (r, mem2)) : gk_C tm l u me_M_inLine 66 [.ref 0, .long a1, .long a3, .long a5, .int a7, .int a8, .int a9] m0 (some (.int r)) mem2 :=
  gk_enter hD mc_M_inLine (Nat.le_of_ble_eq_true rfl) rfl (fun z _ _ K => s_M_inLine_0 K _ _ _ _ _ _ _  h)
theorem d_M_inLineAt_0 : decode me_M_inLineAt.2.1 0 = .ok (.aload_n 0, 1) := by decide +kernel
theorem d_M_inLineAt_1 : decode me_M_inLineAt.2.1 1 = .ok (.iload_n 1, 1) := by decide +kernel
theorem d_M_inLineAt_2 : decode me_M_inLineAt.2.1 2 = .ok (.bipush 30, 2) := by decide +kernel
theorem d_M_inLineAt_4 : decode me_M_inLineAt.2.1 4 = .ok (.irem, 1) := by decide +kernel
theorem d_M_inLineAt_5 : decode me_M_inLineAt.2.1 5 = .ok (.i2l, 1) := by decide +kernel
theorem d_M_inLineAt_6 : decode me_M_inLineAt.2.1 6 = .ok (.iload_n 1, 1) := by decide +kernel
theorem d_M_inLineAt_7 : decode me_M_inLineAt.2.1 7 = .ok (.bipush 30, 2) := by decide +kernel
theorem d_M_inLineAt_9 : decode me_M_inLineAt.2.1 9 = .ok (.idiv, 1) := by decide +kernel
theorem d_M_inLineAt_10 : decode me_M_inLineAt.2.1 10 = .ok (.i2l, 1) := by decide +kernel
theorem d_M_inLineAt_11 : decode me_M_inLineAt.2.1 11 = .ok (.lconst 1, 1) := by decide +kernel
theorem d_M_inLineAt_12 : decode me_M_inLineAt.2.1 12 = .ok (.iload_n 2, 1) := by decide +kernel
theorem d_M_inLineAt_13 : decode me_M_inLineAt.2.1 13 = .ok (.iload_n 3, 1) := by decide +kernel
theorem d_M_inLineAt_14 : decode me_M_inLineAt.2.1 14 = .ok (.iload 4, 2) := by decide +kernel
theorem d_M_inLineAt_16 : decode me_M_inLineAt.2.1 16 = .ok (.invokevirtual 251, 3) := by decide +kernel
theorem d_M_inLineAt_19 : decode me_M_inLineAt.2.1 19 = .ok (.ireturn, 1) := by decide +kernel
noncomputable def f_M_inLineAt  (a1 : Int32) (a2 : Int32) (a3 : Int32) (a4 : Int32) (m0 : gk_M) : Option (Int32 × gk_M) :=
  gk_bi (f_M_inLine (gk_rem a1 30).toInt64 (a1 / 30).toInt64 1 a2 a3 a4 m0) fun v2 m1 =>
  gk_zz v2 (some (v2, m1))

theorem s_M_inLineAt_0 {z : gk_Z} (K : gk_F tm z me_M_inLineAt 67) {r : Int32} {mem2 : gk_M} : ∀ a1 a2 a3 a4 m0, f_M_inLineAt a1 a2 a3 a4 m0 = some (r, mem2) → gk_G tm z me_M_inLineAt (gk_R tm z (some (.int r)) mem2) m0 [(0, .ref 0), (1, .int a1), (2, .int a2), (3, .int a3), (4, .int a4)] [] 0 := by
  intro a1 a2 a3 a4 m0  h
  unfold f_M_inLineAt at h
  refine gk_aload_n (pc := 0) K d_M_inLineAt_0 rfl ?_
  refine gk_iload_n (pc := 1) K d_M_inLineAt_1 rfl ?_
  refine gk_bipush (pc := 2) K d_M_inLineAt_2 kb_30 ?_
  refine gk_iremc2 (pc := 4) K d_M_inLineAt_4 (by decide) ?_
  refine gk_i2l (pc := 5) K d_M_inLineAt_5 ?_
  refine gk_iload_n (pc := 6) K d_M_inLineAt_6 rfl ?_
  refine gk_bipush (pc := 7) K d_M_inLineAt_7 kb_30 ?_
  refine gk_idivc2 (pc := 9) K d_M_inLineAt_9 (by decide) ?_
  refine gk_i2l (pc := 10) K d_M_inLineAt_10 ?_
  refine gk_lconst (pc := 11) K d_M_inLineAt_11 kl_1 ?_
  refine gk_iload_n (pc := 12) K d_M_inLineAt_12 rfl ?_
  refine gk_iload_n (pc := 13) K d_M_inLineAt_13 rfl ?_
  refine gk_iload (pc := 14) K d_M_inLineAt_14 rfl ?_
  obtain ⟨v2, m1, em1, h⟩ := gk_bi_some h
  refine gk_cVi (As := [.long (gk_rem a1 30).toInt64, .long (a1 / 30).toInt64, .long 1, .int a2, .int a3, .int a4]) (pc := 16) K d_M_inLineAt_16 mv_M_251 mc_M_inLine rfl tm_0 cl_ok10.1 (s_M_inLine (gk_FD K)  em1) (by decide) rfl (Nat.le_of_ble_eq_true rfl) ?_
  exact gk_zret (pc := 19) K d_M_inLineAt_19 rfl h
theorem s_M_inLineAt {l : Launch} {u : gk_U} (hD : gk_D tm u) {a1 : Int32} {a2 : Int32} {a3 : Int32} {a4 : Int32} {m0 mem2 : gk_M} {r : Int32} (h : f_M_inLineAt a1 a2 a3 a4 m0 = some (r, mem2)) : gk_C tm l u me_M_inLineAt 67 [.ref 0, .int a1, .int a2, .int a3, .int a4] m0 (some (.int r)) mem2 :=
  gk_enter hD mc_M_inLineAt (Nat.le_of_ble_eq_true rfl) rfl (fun z _ _ K => s_M_inLineAt_0 K _ _ _ _ _  h)
theorem d_M_line_0 : decode me_M_line.2.1 0 = .ok (.aload_n 0, 1) := by decide +kernel
theorem d_M_line_1 : decode me_M_line.2.1 1 = .ok (.iload_n 1, 1) := by decide +kernel
theorem d_M_line_2 : decode me_M_line.2.1 2 = .ok (.invokevirtual 255, 3) := by decide +kernel
theorem d_M_line_5 : decode me_M_line.2.1 5 = .ok (.ifCond .eq 22, 3) := by decide +kernel
theorem d_M_line_8 : decode me_M_line.2.1 8 = .ok (.iload_n 2, 1) := by decide +kernel
theorem d_M_line_9 : decode me_M_line.2.1 9 = .ok (.invokestatic 133, 3) := by decide +kernel
theorem d_M_line_12 : decode me_M_line.2.1 12 = .ok (.ifCond .eq 15, 3) := by decide +kernel
theorem d_M_line_15 : decode me_M_line.2.1 15 = .ok (.iload_n 3, 1) := by decide +kernel
theorem d_M_line_16 : decode me_M_line.2.1 16 = .ok (.i2l, 1) := by decide +kernel
theorem d_M_line_17 : decode me_M_line.2.1 17 = .ok (.lconst 0, 1) := by decide +kernel
theorem d_M_line_18 : decode me_M_line.2.1 18 = .ok (.ldc2_w 258, 3) := by decide +kernel
theorem d_M_line_21 : decode me_M_line.2.1 21 = .ok (.invokestatic 102, 3) := by decide +kernel
theorem d_M_line_24 : decode me_M_line.2.1 24 = .ok (.ifCond .ne 5, 3) := by decide +kernel
theorem d_M_line_27 : decode me_M_line.2.1 27 = .ok (.iconst (-1), 1) := by decide +kernel
theorem d_M_line_28 : decode me_M_line.2.1 28 = .ok (.ireturn, 1) := by decide +kernel
theorem d_M_line_29 : decode me_M_line.2.1 29 = .ok (.aload_n 0, 1) := by decide +kernel
theorem d_M_line_30 : decode me_M_line.2.1 30 = .ok (.iload_n 2, 1) := by decide +kernel
theorem d_M_line_31 : decode me_M_line.2.1 31 = .ok (.iload_n 1, 1) := by decide +kernel
theorem d_M_line_32 : decode me_M_line.2.1 32 = .ok (.bipush 10, 2) := by decide +kernel
theorem d_M_line_34 : decode me_M_line.2.1 34 = .ok (.idiv, 1) := by decide +kernel
theorem d_M_line_35 : decode me_M_line.2.1 35 = .ok (.iload_n 1, 1) := by decide +kernel
theorem d_M_line_36 : decode me_M_line.2.1 36 = .ok (.bipush 10, 2) := by decide +kernel
theorem d_M_line_38 : decode me_M_line.2.1 38 = .ok (.irem, 1) := by decide +kernel
theorem d_M_line_39 : decode me_M_line.2.1 39 = .ok (.iload_n 3, 1) := by decide +kernel
theorem d_M_line_40 : decode me_M_line.2.1 40 = .ok (.invokevirtual 260, 3) := by decide +kernel
theorem d_M_line_43 : decode me_M_line.2.1 43 = .ok (.ifCond .eq 7, 3) := by decide +kernel
theorem d_M_line_46 : decode me_M_line.2.1 46 = .ok (.iconst 1, 1) := by decide +kernel
theorem d_M_line_47 : decode me_M_line.2.1 47 = .ok (.goto 4, 3) := by decide +kernel
theorem d_M_line_50 : decode me_M_line.2.1 50 = .ok (.iconst 0, 1) := by decide +kernel
theorem d_M_line_51 : decode me_M_line.2.1 51 = .ok (.ireturn, 1) := by decide +kernel
noncomputable def f_M_line  (a1 : Int32) (a2 : Int32) (a3 : Int32) (m0 : gk_M) : Option (Int32 × gk_M) :=
  gk_bi (f_M_areTwo a1 m0) fun v2 m1 =>
  if v2 = 0 then
    some ((-1), m1)
  else
    gk_bi (f_M_isPoint a2 m1) fun v4 m3 =>
    if v4 = 0 then
      some ((-1), m3)
    else
      gk_bi (f_M_within a3.toInt64 0 4 m3) fun v6 m5 =>
      if ¬ v6 = 0 then
        gk_bi (f_M_inLineAt a2 (a1 / 10) (gk_rem a1 10) a3 m5) fun v8 m7 =>
        if v8 = 0 then
          some (0, m7)
        else
          some (1, m7)
      else
        some ((-1), m5)

theorem s_M_line_0 {z : gk_Z} (K : gk_F tm z me_M_line 68) {r : Int32} {mem2 : gk_M} : ∀ a1 a2 a3 m0, f_M_line a1 a2 a3 m0 = some (r, mem2) → gk_G tm z me_M_line (gk_R tm z (some (.int r)) mem2) m0 [(0, .ref 0), (1, .int a1), (2, .int a2), (3, .int a3)] [] 0 := by
  intro a1 a2 a3 m0  h
  unfold f_M_line at h
  refine gk_aload_n (pc := 0) K d_M_line_0 rfl ?_
  refine gk_iload_n (pc := 1) K d_M_line_1 rfl ?_
  obtain ⟨v2, m1, em1, h⟩ := gk_bi_some h
  refine gk_cVi (As := [.int a1]) (pc := 2) K d_M_line_2 mv_M_255 mc_M_areTwo rfl tm_0 cl_ok10.1 (s_M_areTwo (gk_FD K)  em1) (by decide) rfl (Nat.le_of_ble_eq_true rfl) ?_
  refine gk_if_eq (tgt := 27) (pc := 5) K d_M_line_5 (by decide) h (fun h => ?_) (fun h => ?_)
  · refine gk_iconst (pc := 27) K d_M_line_27 kc_m1 ?_
    exact gk_iret (pc := 28) K d_M_line_28 rfl h
  · refine gk_iload_n (pc := 8) K d_M_line_8 rfl ?_
    obtain ⟨v4, m3, em3, h⟩ := gk_bi_some h
    refine gk_cSi (As := [.int a2]) (pc := 9) K d_M_line_9 ms_M_133 mc_M_isPoint rfl (s_M_isPoint (gk_FD K)  em3) (by decide) rfl (Nat.le_of_ble_eq_true rfl) ?_
    refine gk_if_eq (tgt := 27) (pc := 12) K d_M_line_12 (by decide) h (fun h => ?_) (fun h => ?_)
    · refine gk_iconst (pc := 27) K d_M_line_27 kc_m1 ?_
      exact gk_iret (pc := 28) K d_M_line_28 rfl h
    · refine gk_iload_n (pc := 15) K d_M_line_15 rfl ?_
      refine gk_i2l (pc := 16) K d_M_line_16 ?_
      refine gk_lconst (pc := 17) K d_M_line_17 kl_0 ?_
      refine gk_ldc2 (pc := 18) K d_M_line_18 lc_M_258 ?_
      obtain ⟨v6, m5, em5, h⟩ := gk_bi_some h
      refine gk_cSi (As := [.long a3.toInt64, .long 0, .long 4]) (pc := 21) K d_M_line_21 ms_M_102 mc_M_within rfl (s_M_within (gk_FD K)  em5) (by decide) rfl (Nat.le_of_ble_eq_true rfl) ?_
      refine gk_if_ne (tgt := 29) (pc := 24) K d_M_line_24 (by decide) h (fun h => ?_) (fun h => ?_)
      · refine gk_aload_n (pc := 29) K d_M_line_29 rfl ?_
        refine gk_iload_n (pc := 30) K d_M_line_30 rfl ?_
        refine gk_iload_n (pc := 31) K d_M_line_31 rfl ?_
        refine gk_bipush (pc := 32) K d_M_line_32 kb_10 ?_
        refine gk_idivc2 (pc := 34) K d_M_line_34 (by decide) ?_
        refine gk_iload_n (pc := 35) K d_M_line_35 rfl ?_
        refine gk_bipush (pc := 36) K d_M_line_36 kb_10 ?_
        refine gk_iremc2 (pc := 38) K d_M_line_38 (by decide) ?_
        refine gk_iload_n (pc := 39) K d_M_line_39 rfl ?_
        obtain ⟨v8, m7, em7, h⟩ := gk_bi_some h
        refine gk_cVi (As := [.int a2, .int (a1 / 10), .int (gk_rem a1 10), .int a3]) (pc := 40) K d_M_line_40 mv_M_260 mc_M_inLineAt rfl tm_0 cl_ok10.1 (s_M_inLineAt (gk_FD K)  em7) (by decide) rfl (Nat.le_of_ble_eq_true rfl) ?_
        refine gk_if_eq (tgt := 50) (pc := 43) K d_M_line_43 (by decide) h (fun h => ?_) (fun h => ?_)
        · refine gk_iconst (pc := 50) K d_M_line_50 kc_0 ?_
          exact gk_iret (pc := 51) K d_M_line_51 rfl h
        · refine gk_iconst (pc := 46) K d_M_line_46 kc_1 ?_
          refine gk_goto (tgt := 51) (pc := 47) K d_M_line_47 (by decide) ?_
          exact gk_iret (pc := 51) K d_M_line_51 rfl h
      · refine gk_iconst (pc := 27) K d_M_line_27 kc_m1 ?_
        exact gk_iret (pc := 28) K d_M_line_28 rfl h
theorem s_M_line {l : Launch} {u : gk_U} (hD : gk_D tm u) {a1 : Int32} {a2 : Int32} {a3 : Int32} {m0 mem2 : gk_M} {r : Int32} (h : f_M_line a1 a2 a3 m0 = some (r, mem2)) : gk_C tm l u me_M_line 68 [.ref 0, .int a1, .int a2, .int a3] m0 (some (.int r)) mem2 :=
  gk_enter hD mc_M_line (Nat.le_of_ble_eq_true rfl) rfl (fun z _ _ K => s_M_line_0 K _ _ _ _  h)
theorem d_M_isStretch_0 : decode me_M_isStretch.2.1 0 = .ok (.iload_n 1, 1) := by decide +kernel
theorem d_M_isStretch_1 : decode me_M_isStretch.2.1 1 = .ok (.ifCond .lt 36, 3) := by decide +kernel
theorem d_M_isStretch_4 : decode me_M_isStretch.2.1 4 = .ok (.aload_n 0, 1) := by decide +kernel
theorem d_M_isStretch_5 : decode me_M_isStretch.2.1 5 = .ok (.iload_n 1, 1) := by decide +kernel
theorem d_M_isStretch_6 : decode me_M_isStretch.2.1 6 = .ok (.bipush 10, 2) := by decide +kernel
theorem d_M_isStretch_8 : decode me_M_isStretch.2.1 8 = .ok (.idiv, 1) := by decide +kernel
theorem d_M_isStretch_9 : decode me_M_isStretch.2.1 9 = .ok (.invokevirtual 136, 3) := by decide +kernel
theorem d_M_isStretch_12 : decode me_M_isStretch.2.1 12 = .ok (.ifCond .eq 25, 3) := by decide +kernel
theorem d_M_isStretch_15 : decode me_M_isStretch.2.1 15 = .ok (.iload_n 1, 1) := by decide +kernel
theorem d_M_isStretch_16 : decode me_M_isStretch.2.1 16 = .ok (.bipush 10, 2) := by decide +kernel
theorem d_M_isStretch_18 : decode me_M_isStretch.2.1 18 = .ok (.irem, 1) := by decide +kernel
theorem d_M_isStretch_19 : decode me_M_isStretch.2.1 19 = .ok (.aload_n 0, 1) := by decide +kernel
theorem d_M_isStretch_20 : decode me_M_isStretch.2.1 20 = .ok (.getfield 31, 3) := by decide +kernel
theorem d_M_isStretch_23 : decode me_M_isStretch.2.1 23 = .ok (.iload_n 1, 1) := by decide +kernel
theorem d_M_isStretch_24 : decode me_M_isStretch.2.1 24 = .ok (.bipush 10, 2) := by decide +kernel
theorem d_M_isStretch_26 : decode me_M_isStretch.2.1 26 = .ok (.idiv, 1) := by decide +kernel
theorem d_M_isStretch_27 : decode me_M_isStretch.2.1 27 = .ok (.iaload, 1) := by decide +kernel
theorem d_M_isStretch_28 : decode me_M_isStretch.2.1 28 = .ok (.iconst 1, 1) := by decide +kernel
theorem d_M_isStretch_29 : decode me_M_isStretch.2.1 29 = .ok (.isub, 1) := by decide +kernel
theorem d_M_isStretch_30 : decode me_M_isStretch.2.1 30 = .ok (.if_icmp .ge 7, 3) := by decide +kernel
theorem d_M_isStretch_33 : decode me_M_isStretch.2.1 33 = .ok (.iconst 1, 1) := by decide +kernel
theorem d_M_isStretch_34 : decode me_M_isStretch.2.1 34 = .ok (.goto 4, 3) := by decide +kernel
theorem d_M_isStretch_37 : decode me_M_isStretch.2.1 37 = .ok (.iconst 0, 1) := by decide +kernel
theorem d_M_isStretch_38 : decode me_M_isStretch.2.1 38 = .ok (.ireturn, 1) := by decide +kernel
noncomputable def f_M_isStretch  (a1 : Int32) (m0 : gk_M) : Option (Int32 × gk_M) :=
  if a1 < 0 then
    some (0, m0)
  else
    gk_bi (f_M_isRoad (a1 / 10) m0) fun v2 m1 =>
    if v2 = 0 then
      some (0, m1)
    else
      gk_ai m1 8 4 (a1 / 10) fun v3 =>
      if (v3 - 1) ≤ (gk_rem a1 10) then
        some (0, m1)
      else
        some (1, m1)

theorem s_M_isStretch_0 {z : gk_Z} (K : gk_F tm z me_M_isStretch 3) {r : Int32} {mem2 : gk_M} : ∀ a1 m0, f_M_isStretch a1 m0 = some (r, mem2) → gk_G tm z me_M_isStretch (gk_R tm z (some (.int r)) mem2) m0 [(0, .ref 0), (1, .int a1)] [] 0 := by
  intro a1 m0  h
  unfold f_M_isStretch at h
  refine gk_iload_n (pc := 0) K d_M_isStretch_0 rfl ?_
  refine gk_if_lt (tgt := 37) (pc := 1) K d_M_isStretch_1 (by decide) h (fun h => ?_) (fun h => ?_)
  · refine gk_iconst (pc := 37) K d_M_isStretch_37 kc_0 ?_
    exact gk_zretc (pc := 38) K d_M_isStretch_38 rfl (Or.inl rfl) h
  · refine gk_aload_n (pc := 4) K d_M_isStretch_4 rfl ?_
    refine gk_iload_n (pc := 5) K d_M_isStretch_5 rfl ?_
    refine gk_bipush (pc := 6) K d_M_isStretch_6 kb_10 ?_
    refine gk_idivc2 (pc := 8) K d_M_isStretch_8 (by decide) ?_
    obtain ⟨v2, m1, em1, h⟩ := gk_bi_some h
    refine gk_cVi (As := [.int (a1 / 10)]) (pc := 9) K d_M_isStretch_9 mv_M_136 mc_M_isRoad rfl tm_0 cl_ok10.1 (s_M_isRoad (gk_FD K)  em1) (by decide) rfl (Nat.le_of_ble_eq_true rfl) ?_
    refine gk_if_eq (tgt := 37) (pc := 12) K d_M_isStretch_12 (by decide) h (fun h => ?_) (fun h => ?_)
    · refine gk_iconst (pc := 37) K d_M_isStretch_37 kc_0 ?_
      exact gk_zretc (pc := 38) K d_M_isStretch_38 rfl (Or.inl rfl) h
    · refine gk_iload_n (pc := 15) K d_M_isStretch_15 rfl ?_
      refine gk_bipush (pc := 16) K d_M_isStretch_16 kb_10 ?_
      refine gk_iremc2 (pc := 18) K d_M_isStretch_18 (by decide) ?_
      refine gk_aload_n (pc := 19) K d_M_isStretch_19 rfl ?_
      refine gk_get (pc := 20) K d_M_isStretch_20 fl_M_31 tm_0 rfl rfl ?_
      refine gk_iload_n (pc := 23) K d_M_isStretch_23 rfl ?_
      refine gk_bipush (pc := 24) K d_M_isStretch_24 kb_10 ?_
      refine gk_idivc2 (pc := 26) K d_M_isStretch_26 (by decide) ?_
      refine gk_iald (pc := 27) K d_M_isStretch_27 tm_8 h (fun v3 h => ?_)
      refine gk_iconst (pc := 28) K d_M_isStretch_28 kc_1 ?_
      refine gk_isub (pc := 29) K d_M_isStretch_29 ?_
      refine gk_ic_ge (tgt := 37) (pc := 30) K d_M_isStretch_30 (by decide) h (fun h => ?_) (fun h => ?_)
      · refine gk_iconst (pc := 37) K d_M_isStretch_37 kc_0 ?_
        exact gk_zretc (pc := 38) K d_M_isStretch_38 rfl (Or.inl rfl) h
      · refine gk_iconst (pc := 33) K d_M_isStretch_33 kc_1 ?_
        refine gk_goto (tgt := 38) (pc := 34) K d_M_isStretch_34 (by decide) ?_
        exact gk_zretc (pc := 38) K d_M_isStretch_38 rfl (Or.inr rfl) h
theorem s_M_isStretch {l : Launch} {u : gk_U} (hD : gk_D tm u) {a1 : Int32} {m0 mem2 : gk_M} {r : Int32} (h : f_M_isStretch a1 m0 = some (r, mem2)) : gk_C tm l u me_M_isStretch 3 [.ref 0, .int a1] m0 (some (.int r)) mem2 :=
  gk_enter hD mc_M_isStretch (Nat.le_of_ble_eq_true rfl) rfl (fun z _ _ K => s_M_isStretch_0 K _ _  h)
theorem d_M_cornerOf_0 : decode me_M_cornerOf.2.1 0 = .ok (.aload_n 0, 1) := by decide +kernel
theorem d_M_cornerOf_1 : decode me_M_cornerOf.2.1 1 = .ok (.getfield 34, 3) := by decide +kernel
theorem d_M_cornerOf_4 : decode me_M_cornerOf.2.1 4 = .ok (.bipush 7, 2) := by decide +kernel
theorem d_M_cornerOf_6 : decode me_M_cornerOf.2.1 6 = .ok (.iload_n 1, 1) := by decide +kernel
theorem d_M_cornerOf_7 : decode me_M_cornerOf.2.1 7 = .ok (.imul, 1) := by decide +kernel
theorem d_M_cornerOf_8 : decode me_M_cornerOf.2.1 8 = .ok (.iload_n 2, 1) := by decide +kernel
theorem d_M_cornerOf_9 : decode me_M_cornerOf.2.1 9 = .ok (.iadd, 1) := by decide +kernel
theorem d_M_cornerOf_10 : decode me_M_cornerOf.2.1 10 = .ok (.iaload, 1) := by decide +kernel
theorem d_M_cornerOf_11 : decode me_M_cornerOf.2.1 11 = .ok (.ireturn, 1) := by decide +kernel
noncomputable def f_M_cornerOf  (a1 : Int32) (a2 : Int32) (m0 : gk_M) : Option (Int32 × gk_M) :=
  gk_ai m0 9 28 ((7 * a1) + a2) fun v1 =>
  some (v1, m0)

theorem s_M_cornerOf_0 {z : gk_Z} (K : gk_F tm z me_M_cornerOf 1) {r : Int32} {mem2 : gk_M} : ∀ a1 a2 m0, f_M_cornerOf a1 a2 m0 = some (r, mem2) → gk_G tm z me_M_cornerOf (gk_R tm z (some (.int r)) mem2) m0 [(0, .ref 0), (1, .int a1), (2, .int a2)] [] 0 := by
  intro a1 a2 m0  h
  unfold f_M_cornerOf at h
  refine gk_aload_n (pc := 0) K d_M_cornerOf_0 rfl ?_
  refine gk_get (pc := 1) K d_M_cornerOf_1 fl_M_34 tm_0 rfl rfl ?_
  refine gk_bipush (pc := 4) K d_M_cornerOf_4 kb_7 ?_
  refine gk_iload_n (pc := 6) K d_M_cornerOf_6 rfl ?_
  refine gk_imul (pc := 7) K d_M_cornerOf_7 ?_
  refine gk_iload_n (pc := 8) K d_M_cornerOf_8 rfl ?_
  refine gk_iadd (pc := 9) K d_M_cornerOf_9 ?_
  refine gk_iald (pc := 10) K d_M_cornerOf_10 tm_9 h (fun v1 h => ?_)
  exact gk_iret (pc := 11) K d_M_cornerOf_11 rfl h
theorem s_M_cornerOf {l : Launch} {u : gk_U} (hD : gk_D tm u) {a1 : Int32} {a2 : Int32} {m0 mem2 : gk_M} {r : Int32} (h : f_M_cornerOf a1 a2 m0 = some (r, mem2)) : gk_C tm l u me_M_cornerOf 1 [.ref 0, .int a1, .int a2] m0 (some (.int r)) mem2 :=
  gk_enter hD mc_M_cornerOf (Nat.le_of_ble_eq_true rfl) rfl (fun z _ _ K => s_M_cornerOf_0 K _ _ _  h)
theorem d_M_isAlong_0 : decode me_M_isAlong.2.1 0 = .ok (.aload_n 0, 1) := by decide +kernel
theorem d_M_isAlong_1 : decode me_M_isAlong.2.1 1 = .ok (.lconst 0, 1) := by decide +kernel
theorem d_M_isAlong_2 : decode me_M_isAlong.2.1 2 = .ok (.putfield 264, 3) := by decide +kernel
theorem d_M_isAlong_5 : decode me_M_isAlong.2.1 5 = .ok (.aload_n 0, 1) := by decide +kernel
theorem d_M_isAlong_6 : decode me_M_isAlong.2.1 6 = .ok (.lconst 1, 1) := by decide +kernel
theorem d_M_isAlong_7 : decode me_M_isAlong.2.1 7 = .ok (.putfield 268, 3) := by decide +kernel
theorem d_M_isAlong_10 : decode me_M_isAlong.2.1 10 = .ok (.aload_n 0, 1) := by decide +kernel
theorem d_M_isAlong_11 : decode me_M_isAlong.2.1 11 = .ok (.iload_n 1, 1) := by decide +kernel
theorem d_M_isAlong_12 : decode me_M_isAlong.2.1 12 = .ok (.iload_n 3, 1) := by decide +kernel
theorem d_M_isAlong_13 : decode me_M_isAlong.2.1 13 = .ok (.iload 4, 2) := by decide +kernel
theorem d_M_isAlong_15 : decode me_M_isAlong.2.1 15 = .ok (.iload 5, 2) := by decide +kernel
theorem d_M_isAlong_17 : decode me_M_isAlong.2.1 17 = .ok (.invokevirtual 260, 3) := by decide +kernel
theorem d_M_isAlong_20 : decode me_M_isAlong.2.1 20 = .ok (.ifCond .eq 5, 3) := by decide +kernel
theorem d_M_isAlong_23 : decode me_M_isAlong.2.1 23 = .ok (.iconst 1, 1) := by decide +kernel
theorem d_M_isAlong_24 : decode me_M_isAlong.2.1 24 = .ok (.ireturn, 1) := by decide +kernel
theorem d_M_isAlong_25 : decode me_M_isAlong.2.1 25 = .ok (.aload_n 0, 1) := by decide +kernel
theorem d_M_isAlong_26 : decode me_M_isAlong.2.1 26 = .ok (.lconst 1, 1) := by decide +kernel
theorem d_M_isAlong_27 : decode me_M_isAlong.2.1 27 = .ok (.putfield 264, 3) := by decide +kernel
theorem d_M_isAlong_30 : decode me_M_isAlong.2.1 30 = .ok (.aload_n 0, 1) := by decide +kernel
theorem d_M_isAlong_31 : decode me_M_isAlong.2.1 31 = .ok (.iload_n 2, 1) := by decide +kernel
theorem d_M_isAlong_32 : decode me_M_isAlong.2.1 32 = .ok (.iload_n 3, 1) := by decide +kernel
theorem d_M_isAlong_33 : decode me_M_isAlong.2.1 33 = .ok (.iload 4, 2) := by decide +kernel
theorem d_M_isAlong_35 : decode me_M_isAlong.2.1 35 = .ok (.iload 5, 2) := by decide +kernel
theorem d_M_isAlong_37 : decode me_M_isAlong.2.1 37 = .ok (.invokevirtual 260, 3) := by decide +kernel
theorem d_M_isAlong_40 : decode me_M_isAlong.2.1 40 = .ok (.ireturn, 1) := by decide +kernel
noncomputable def f_M_isAlong  (a1 : Int32) (a2 : Int32) (a3 : Int32) (a4 : Int32) (a5 : Int32) (m0 : gk_M) : Option (Int32 × gk_M) :=
  gk_let (gk_ml m0 0 25 0) fun m1 =>
  gk_let (gk_ml m1 0 26 1) fun m2 =>
  gk_bi (f_M_inLineAt a1 a3 a4 a5 m2) fun v4 m3 =>
  if v4 = 0 then
    gk_let (gk_ml m3 0 25 1) fun m5 =>
    gk_bi (f_M_inLineAt a2 a3 a4 a5 m5) fun v7 m6 =>
    gk_zz v7 (some (v7, m6))
  else
    some (1, m3)

theorem s_M_isAlong_0 {z : gk_Z} (K : gk_F tm z me_M_isAlong 68) {r : Int32} {mem2 : gk_M} : ∀ a1 a2 a3 a4 a5 m0, f_M_isAlong a1 a2 a3 a4 a5 m0 = some (r, mem2) → gk_G tm z me_M_isAlong (gk_R tm z (some (.int r)) mem2) m0 [(0, .ref 0), (1, .int a1), (2, .int a2), (3, .int a3), (4, .int a4), (5, .int a5)] [] 0 := by
  intro a1 a2 a3 a4 a5 m0  h
  unfold f_M_isAlong at h
  refine gk_aload_n (pc := 0) K d_M_isAlong_0 rfl ?_
  refine gk_lconst (pc := 1) K d_M_isAlong_1 kl_0 ?_
  refine gk_putl (pc := 2) K d_M_isAlong_2 fp_M_264 tm_0 rfl h (fun m1 h => ?_)
  refine gk_aload_n (pc := 5) K d_M_isAlong_5 rfl ?_
  refine gk_lconst (pc := 6) K d_M_isAlong_6 kl_1 ?_
  refine gk_putl (pc := 7) K d_M_isAlong_7 fp_M_268 tm_0 rfl h (fun m2 h => ?_)
  refine gk_aload_n (pc := 10) K d_M_isAlong_10 rfl ?_
  refine gk_iload_n (pc := 11) K d_M_isAlong_11 rfl ?_
  refine gk_iload_n (pc := 12) K d_M_isAlong_12 rfl ?_
  refine gk_iload (pc := 13) K d_M_isAlong_13 rfl ?_
  refine gk_iload (pc := 15) K d_M_isAlong_15 rfl ?_
  obtain ⟨v4, m3, em3, h⟩ := gk_bi_some h
  refine gk_cVi (As := [.int a1, .int a3, .int a4, .int a5]) (pc := 17) K d_M_isAlong_17 mv_M_260 mc_M_inLineAt rfl tm_0 cl_ok10.1 (s_M_inLineAt (gk_FD K)  em3) (by decide) rfl (Nat.le_of_ble_eq_true rfl) ?_
  refine gk_if_eq (tgt := 25) (pc := 20) K d_M_isAlong_20 (by decide) h (fun h => ?_) (fun h => ?_)
  · refine gk_aload_n (pc := 25) K d_M_isAlong_25 rfl ?_
    refine gk_lconst (pc := 26) K d_M_isAlong_26 kl_1 ?_
    refine gk_putl (pc := 27) K d_M_isAlong_27 fp_M_264 tm_0 rfl h (fun m5 h => ?_)
    refine gk_aload_n (pc := 30) K d_M_isAlong_30 rfl ?_
    refine gk_iload_n (pc := 31) K d_M_isAlong_31 rfl ?_
    refine gk_iload_n (pc := 32) K d_M_isAlong_32 rfl ?_
    refine gk_iload (pc := 33) K d_M_isAlong_33 rfl ?_
    refine gk_iload (pc := 35) K d_M_isAlong_35 rfl ?_
    obtain ⟨v7, m6, em6, h⟩ := gk_bi_some h
    refine gk_cVi (As := [.int a2, .int a3, .int a4, .int a5]) (pc := 37) K d_M_isAlong_37 mv_M_260 mc_M_inLineAt rfl tm_0 cl_ok10.1 (s_M_inLineAt (gk_FD K)  em6) (by decide) rfl (Nat.le_of_ble_eq_true rfl) ?_
    exact gk_zret (pc := 40) K d_M_isAlong_40 rfl h
  · refine gk_iconst (pc := 23) K d_M_isAlong_23 kc_1 ?_
    exact gk_zretc (pc := 24) K d_M_isAlong_24 rfl (Or.inr rfl) h
theorem s_M_isAlong {l : Launch} {u : gk_U} (hD : gk_D tm u) {a1 : Int32} {a2 : Int32} {a3 : Int32} {a4 : Int32} {a5 : Int32} {m0 mem2 : gk_M} {r : Int32} (h : f_M_isAlong a1 a2 a3 a4 a5 m0 = some (r, mem2)) : gk_C tm l u me_M_isAlong 68 [.ref 0, .int a1, .int a2, .int a3, .int a4, .int a5] m0 (some (.int r)) mem2 :=
  gk_enter hD mc_M_isAlong (Nat.le_of_ble_eq_true rfl) rfl (fun z _ _ K => s_M_isAlong_0 K _ _ _ _ _ _  h)
theorem d_M_isGuilty_0 : decode me_M_isGuilty.2.1 0 = .ok (.aload_n 0, 1) := by decide +kernel
theorem d_M_isGuilty_1 : decode me_M_isGuilty.2.1 1 = .ok (.getfield 22, 3) := by decide +kernel
theorem d_M_isGuilty_4 : decode me_M_isGuilty.2.1 4 = .ok (.iload_n 3, 1) := by decide +kernel
theorem d_M_isGuilty_5 : decode me_M_isGuilty.2.1 5 = .ok (.iaload, 1) := by decide +kernel
theorem d_M_isGuilty_6 : decode me_M_isGuilty.2.1 6 = .ok (.bipush 30, 2) := by decide +kernel
theorem d_M_isGuilty_8 : decode me_M_isGuilty.2.1 8 = .ok (.irem, 1) := by decide +kernel
theorem d_M_isGuilty_9 : decode me_M_isGuilty.2.1 9 = .ok (.i2l, 1) := by decide +kernel
theorem d_M_isGuilty_10 : decode me_M_isGuilty.2.1 10 = .ok (.lstore 6, 2) := by decide +kernel
theorem d_M_isGuilty_12 : decode me_M_isGuilty.2.1 12 = .ok (.aload_n 0, 1) := by decide +kernel
theorem d_M_isGuilty_13 : decode me_M_isGuilty.2.1 13 = .ok (.getfield 22, 3) := by decide +kernel
theorem d_M_isGuilty_16 : decode me_M_isGuilty.2.1 16 = .ok (.iload_n 3, 1) := by decide +kernel
theorem d_M_isGuilty_17 : decode me_M_isGuilty.2.1 17 = .ok (.iaload, 1) := by decide +kernel
theorem d_M_isGuilty_18 : decode me_M_isGuilty.2.1 18 = .ok (.bipush 30, 2) := by decide +kernel
theorem d_M_isGuilty_20 : decode me_M_isGuilty.2.1 20 = .ok (.idiv, 1) := by decide +kernel
theorem d_M_isGuilty_21 : decode me_M_isGuilty.2.1 21 = .ok (.i2l, 1) := by decide +kernel
theorem d_M_isGuilty_22 : decode me_M_isGuilty.2.1 22 = .ok (.lstore 8, 2) := by decide +kernel
theorem d_M_isGuilty_24 : decode me_M_isGuilty.2.1 24 = .ok (.aload_n 0, 1) := by decide +kernel
theorem d_M_isGuilty_25 : decode me_M_isGuilty.2.1 25 = .ok (.getfield 22, 3) := by decide +kernel
theorem d_M_isGuilty_28 : decode me_M_isGuilty.2.1 28 = .ok (.iload 4, 2) := by decide +kernel
theorem d_M_isGuilty_30 : decode me_M_isGuilty.2.1 30 = .ok (.iaload, 1) := by decide +kernel
theorem d_M_isGuilty_31 : decode me_M_isGuilty.2.1 31 = .ok (.bipush 30, 2) := by decide +kernel
theorem d_M_isGuilty_33 : decode me_M_isGuilty.2.1 33 = .ok (.irem, 1) := by decide +kernel
theorem d_M_isGuilty_34 : decode me_M_isGuilty.2.1 34 = .ok (.i2l, 1) := by decide +kernel
theorem d_M_isGuilty_35 : decode me_M_isGuilty.2.1 35 = .ok (.lstore 10, 2) := by decide +kernel
theorem d_M_isGuilty_37 : decode me_M_isGuilty.2.1 37 = .ok (.aload_n 0, 1) := by decide +kernel
theorem d_M_isGuilty_38 : decode me_M_isGuilty.2.1 38 = .ok (.getfield 22, 3) := by decide +kernel
theorem d_M_isGuilty_41 : decode me_M_isGuilty.2.1 41 = .ok (.iload 4, 2) := by decide +kernel
theorem d_M_isGuilty_43 : decode me_M_isGuilty.2.1 43 = .ok (.iaload, 1) := by decide +kernel
theorem d_M_isGuilty_44 : decode me_M_isGuilty.2.1 44 = .ok (.bipush 30, 2) := by decide +kernel
theorem d_M_isGuilty_46 : decode me_M_isGuilty.2.1 46 = .ok (.idiv, 1) := by decide +kernel
theorem d_M_isGuilty_47 : decode me_M_isGuilty.2.1 47 = .ok (.i2l, 1) := by decide +kernel
theorem d_M_isGuilty_48 : decode me_M_isGuilty.2.1 48 = .ok (.lstore 12, 2) := by decide +kernel
theorem d_M_isGuilty_50 : decode me_M_isGuilty.2.1 50 = .ok (.lload 6, 2) := by decide +kernel
theorem d_M_isGuilty_52 : decode me_M_isGuilty.2.1 52 = .ok (.lload 8, 2) := by decide +kernel
theorem d_M_isGuilty_54 : decode me_M_isGuilty.2.1 54 = .ok (.lload 10, 2) := by decide +kernel
theorem d_M_isGuilty_56 : decode me_M_isGuilty.2.1 56 = .ok (.lload 12, 2) := by decide +kernel
theorem d_M_isGuilty_58 : decode me_M_isGuilty.2.1 58 = .ok (.iload_n 1, 1) := by decide +kernel
theorem d_M_isGuilty_59 : decode me_M_isGuilty.2.1 59 = .ok (.bipush 30, 2) := by decide +kernel
theorem d_M_isGuilty_61 : decode me_M_isGuilty.2.1 61 = .ok (.irem, 1) := by decide +kernel
theorem d_M_isGuilty_62 : decode me_M_isGuilty.2.1 62 = .ok (.i2l, 1) := by decide +kernel
theorem d_M_isGuilty_63 : decode me_M_isGuilty.2.1 63 = .ok (.iload_n 1, 1) := by decide +kernel
theorem d_M_isGuilty_64 : decode me_M_isGuilty.2.1 64 = .ok (.bipush 30, 2) := by decide +kernel
theorem d_M_isGuilty_66 : decode me_M_isGuilty.2.1 66 = .ok (.idiv, 1) := by decide +kernel
theorem d_M_isGuilty_67 : decode me_M_isGuilty.2.1 67 = .ok (.i2l, 1) := by decide +kernel
theorem d_M_isGuilty_68 : decode me_M_isGuilty.2.1 68 = .ok (.invokestatic 216, 3) := by decide +kernel
theorem d_M_isGuilty_71 : decode me_M_isGuilty.2.1 71 = .ok (.lstore 14, 2) := by decide +kernel
theorem d_M_isGuilty_73 : decode me_M_isGuilty.2.1 73 = .ok (.lload 6, 2) := by decide +kernel
theorem d_M_isGuilty_75 : decode me_M_isGuilty.2.1 75 = .ok (.lload 8, 2) := by decide +kernel
theorem d_M_isGuilty_77 : decode me_M_isGuilty.2.1 77 = .ok (.lload 10, 2) := by decide +kernel
theorem d_M_isGuilty_79 : decode me_M_isGuilty.2.1 79 = .ok (.lload 12, 2) := by decide +kernel
theorem d_M_isGuilty_81 : decode me_M_isGuilty.2.1 81 = .ok (.iload_n 2, 1) := by decide +kernel
theorem d_M_isGuilty_82 : decode me_M_isGuilty.2.1 82 = .ok (.bipush 30, 2) := by decide +kernel
theorem d_M_isGuilty_84 : decode me_M_isGuilty.2.1 84 = .ok (.irem, 1) := by decide +kernel
theorem d_M_isGuilty_85 : decode me_M_isGuilty.2.1 85 = .ok (.i2l, 1) := by decide +kernel
theorem d_M_isGuilty_86 : decode me_M_isGuilty.2.1 86 = .ok (.iload_n 2, 1) := by decide +kernel
theorem d_M_isGuilty_87 : decode me_M_isGuilty.2.1 87 = .ok (.bipush 30, 2) := by decide +kernel
theorem d_M_isGuilty_89 : decode me_M_isGuilty.2.1 89 = .ok (.idiv, 1) := by decide +kernel
theorem d_M_isGuilty_90 : decode me_M_isGuilty.2.1 90 = .ok (.i2l, 1) := by decide +kernel
theorem d_M_isGuilty_91 : decode me_M_isGuilty.2.1 91 = .ok (.invokestatic 216, 3) := by decide +kernel
theorem d_M_isGuilty_94 : decode me_M_isGuilty.2.1 94 = .ok (.lstore 16, 2) := by decide +kernel
theorem d_M_isGuilty_96 : decode me_M_isGuilty.2.1 96 = .ok (.lload 14, 2) := by decide +kernel
theorem d_M_isGuilty_98 : decode me_M_isGuilty.2.1 98 = .ok (.lconst 0, 1) := by decide +kernel
theorem d_M_isGuilty_99 : decode me_M_isGuilty.2.1 99 = .ok (.lcmp, 1) := by decide +kernel
theorem d_M_isGuilty_100 : decode me_M_isGuilty.2.1 100 = .ok (.ifCond .ne 22, 3) := by decide +kernel
theorem d_M_isGuilty_103 : decode me_M_isGuilty.2.1 103 = .ok (.lload 16, 2) := by decide +kernel
theorem d_M_isGuilty_105 : decode me_M_isGuilty.2.1 105 = .ok (.lconst 0, 1) := by decide +kernel
theorem d_M_isGuilty_106 : decode me_M_isGuilty.2.1 106 = .ok (.lcmp, 1) := by decide +kernel
theorem d_M_isGuilty_107 : decode me_M_isGuilty.2.1 107 = .ok (.ifCond .ne 15, 3) := by decide +kernel
theorem d_M_isGuilty_110 : decode me_M_isGuilty.2.1 110 = .ok (.aload_n 0, 1) := by decide +kernel
theorem d_M_isGuilty_111 : decode me_M_isGuilty.2.1 111 = .ok (.iload_n 1, 1) := by decide +kernel
theorem d_M_isGuilty_112 : decode me_M_isGuilty.2.1 112 = .ok (.iload_n 2, 1) := by decide +kernel
theorem d_M_isGuilty_113 : decode me_M_isGuilty.2.1 113 = .ok (.iload_n 3, 1) := by decide +kernel
theorem d_M_isGuilty_114 : decode me_M_isGuilty.2.1 114 = .ok (.iload 4, 2) := by decide +kernel
theorem d_M_isGuilty_116 : decode me_M_isGuilty.2.1 116 = .ok (.iload 5, 2) := by decide +kernel
theorem d_M_isGuilty_118 : decode me_M_isGuilty.2.1 118 = .ok (.invokevirtual 271, 3) := by decide +kernel
theorem d_M_isGuilty_121 : decode me_M_isGuilty.2.1 121 = .ok (.ireturn, 1) := by decide +kernel
theorem d_M_isGuilty_122 : decode me_M_isGuilty.2.1 122 = .ok (.lload 14, 2) := by decide +kernel
theorem d_M_isGuilty_124 : decode me_M_isGuilty.2.1 124 = .ok (.lconst 0, 1) := by decide +kernel
theorem d_M_isGuilty_125 : decode me_M_isGuilty.2.1 125 = .ok (.lcmp, 1) := by decide +kernel
theorem d_M_isGuilty_126 : decode me_M_isGuilty.2.1 126 = .ok (.ifCond .le 10, 3) := by decide +kernel
theorem d_M_isGuilty_129 : decode me_M_isGuilty.2.1 129 = .ok (.lload 16, 2) := by decide +kernel
theorem d_M_isGuilty_131 : decode me_M_isGuilty.2.1 131 = .ok (.lconst 0, 1) := by decide +kernel
theorem d_M_isGuilty_132 : decode me_M_isGuilty.2.1 132 = .ok (.lcmp, 1) := by decide +kernel
theorem d_M_isGuilty_133 : decode me_M_isGuilty.2.1 133 = .ok (.ifCond .gt 17, 3) := by decide +kernel
theorem d_M_isGuilty_136 : decode me_M_isGuilty.2.1 136 = .ok (.lload 14, 2) := by decide +kernel
theorem d_M_isGuilty_138 : decode me_M_isGuilty.2.1 138 = .ok (.lconst 0, 1) := by decide +kernel
theorem d_M_isGuilty_139 : decode me_M_isGuilty.2.1 139 = .ok (.lcmp, 1) := by decide +kernel
theorem d_M_isGuilty_140 : decode me_M_isGuilty.2.1 140 = .ok (.ifCond .ge 12, 3) := by decide +kernel
theorem d_M_isGuilty_143 : decode me_M_isGuilty.2.1 143 = .ok (.lload 16, 2) := by decide +kernel
theorem d_M_isGuilty_145 : decode me_M_isGuilty.2.1 145 = .ok (.lconst 0, 1) := by decide +kernel
theorem d_M_isGuilty_146 : decode me_M_isGuilty.2.1 146 = .ok (.lcmp, 1) := by decide +kernel
theorem d_M_isGuilty_147 : decode me_M_isGuilty.2.1 147 = .ok (.ifCond .ge 5, 3) := by decide +kernel
theorem d_M_isGuilty_150 : decode me_M_isGuilty.2.1 150 = .ok (.iconst 0, 1) := by decide +kernel
theorem d_M_isGuilty_151 : decode me_M_isGuilty.2.1 151 = .ok (.ireturn, 1) := by decide +kernel
theorem d_M_isGuilty_152 : decode me_M_isGuilty.2.1 152 = .ok (.lload 14, 2) := by decide +kernel
theorem d_M_isGuilty_154 : decode me_M_isGuilty.2.1 154 = .ok (.lconst 0, 1) := by decide +kernel
theorem d_M_isGuilty_155 : decode me_M_isGuilty.2.1 155 = .ok (.lcmp, 1) := by decide +kernel
theorem d_M_isGuilty_156 : decode me_M_isGuilty.2.1 156 = .ok (.ifCond .ge 9, 3) := by decide +kernel
theorem d_M_isGuilty_159 : decode me_M_isGuilty.2.1 159 = .ok (.lload 14, 2) := by decide +kernel
theorem d_M_isGuilty_161 : decode me_M_isGuilty.2.1 161 = .ok (.lneg, 1) := by decide +kernel
theorem d_M_isGuilty_162 : decode me_M_isGuilty.2.1 162 = .ok (.goto 5, 3) := by decide +kernel
theorem d_M_isGuilty_165 : decode me_M_isGuilty.2.1 165 = .ok (.lload 14, 2) := by decide +kernel
theorem d_M_isGuilty_167 : decode me_M_isGuilty.2.1 167 = .ok (.lstore 18, 2) := by decide +kernel
theorem d_M_isGuilty_169 : decode me_M_isGuilty.2.1 169 = .ok (.lload 18, 2) := by decide +kernel
theorem d_M_isGuilty_171 : decode me_M_isGuilty.2.1 171 = .ok (.lload 16, 2) := by decide +kernel
theorem d_M_isGuilty_173 : decode me_M_isGuilty.2.1 173 = .ok (.lconst 0, 1) := by decide +kernel
theorem d_M_isGuilty_174 : decode me_M_isGuilty.2.1 174 = .ok (.lcmp, 1) := by decide +kernel
theorem d_M_isGuilty_175 : decode me_M_isGuilty.2.1 175 = .ok (.ifCond .ge 9, 3) := by decide +kernel
theorem d_M_isGuilty_178 : decode me_M_isGuilty.2.1 178 = .ok (.lload 16, 2) := by decide +kernel
theorem d_M_isGuilty_180 : decode me_M_isGuilty.2.1 180 = .ok (.lneg, 1) := by decide +kernel
theorem d_M_isGuilty_181 : decode me_M_isGuilty.2.1 181 = .ok (.goto 5, 3) := by decide +kernel
theorem d_M_isGuilty_184 : decode me_M_isGuilty.2.1 184 = .ok (.lload 16, 2) := by decide +kernel
theorem d_M_isGuilty_186 : decode me_M_isGuilty.2.1 186 = .ok (.ladd, 1) := by decide +kernel
theorem d_M_isGuilty_187 : decode me_M_isGuilty.2.1 187 = .ok (.lstore 20, 2) := by decide +kernel
theorem d_M_isGuilty_189 : decode me_M_isGuilty.2.1 189 = .ok (.aload_n 0, 1) := by decide +kernel
theorem d_M_isGuilty_190 : decode me_M_isGuilty.2.1 190 = .ok (.lload 18, 2) := by decide +kernel
theorem d_M_isGuilty_192 : decode me_M_isGuilty.2.1 192 = .ok (.putfield 264, 3) := by decide +kernel
theorem d_M_isGuilty_195 : decode me_M_isGuilty.2.1 195 = .ok (.aload_n 0, 1) := by decide +kernel
theorem d_M_isGuilty_196 : decode me_M_isGuilty.2.1 196 = .ok (.lload 20, 2) := by decide +kernel
theorem d_M_isGuilty_198 : decode me_M_isGuilty.2.1 198 = .ok (.putfield 268, 3) := by decide +kernel
theorem d_M_isGuilty_201 : decode me_M_isGuilty.2.1 201 = .ok (.aload_n 0, 1) := by decide +kernel
theorem d_M_isGuilty_202 : decode me_M_isGuilty.2.1 202 = .ok (.iload_n 1, 1) := by decide +kernel
theorem d_M_isGuilty_203 : decode me_M_isGuilty.2.1 203 = .ok (.bipush 30, 2) := by decide +kernel
theorem d_M_isGuilty_205 : decode me_M_isGuilty.2.1 205 = .ok (.irem, 1) := by decide +kernel
theorem d_M_isGuilty_206 : decode me_M_isGuilty.2.1 206 = .ok (.i2l, 1) := by decide +kernel
theorem d_M_isGuilty_207 : decode me_M_isGuilty.2.1 207 = .ok (.lload 20, 2) := by decide +kernel
theorem d_M_isGuilty_209 : decode me_M_isGuilty.2.1 209 = .ok (.lmul, 1) := by decide +kernel
theorem d_M_isGuilty_210 : decode me_M_isGuilty.2.1 210 = .ok (.lload 18, 2) := by decide +kernel
theorem d_M_isGuilty_212 : decode me_M_isGuilty.2.1 212 = .ok (.iload_n 2, 1) := by decide +kernel
theorem d_M_isGuilty_213 : decode me_M_isGuilty.2.1 213 = .ok (.bipush 30, 2) := by decide +kernel
theorem d_M_isGuilty_215 : decode me_M_isGuilty.2.1 215 = .ok (.irem, 1) := by decide +kernel
theorem d_M_isGuilty_216 : decode me_M_isGuilty.2.1 216 = .ok (.iload_n 1, 1) := by decide +kernel
theorem d_M_isGuilty_217 : decode me_M_isGuilty.2.1 217 = .ok (.bipush 30, 2) := by decide +kernel
theorem d_M_isGuilty_219 : decode me_M_isGuilty.2.1 219 = .ok (.irem, 1) := by decide +kernel
theorem d_M_isGuilty_220 : decode me_M_isGuilty.2.1 220 = .ok (.isub, 1) := by decide +kernel
theorem d_M_isGuilty_221 : decode me_M_isGuilty.2.1 221 = .ok (.i2l, 1) := by decide +kernel
theorem d_M_isGuilty_222 : decode me_M_isGuilty.2.1 222 = .ok (.lmul, 1) := by decide +kernel
theorem d_M_isGuilty_223 : decode me_M_isGuilty.2.1 223 = .ok (.ladd, 1) := by decide +kernel
theorem d_M_isGuilty_224 : decode me_M_isGuilty.2.1 224 = .ok (.iload_n 1, 1) := by decide +kernel
theorem d_M_isGuilty_225 : decode me_M_isGuilty.2.1 225 = .ok (.bipush 30, 2) := by decide +kernel
theorem d_M_isGuilty_227 : decode me_M_isGuilty.2.1 227 = .ok (.idiv, 1) := by decide +kernel
theorem d_M_isGuilty_228 : decode me_M_isGuilty.2.1 228 = .ok (.i2l, 1) := by decide +kernel
theorem d_M_isGuilty_229 : decode me_M_isGuilty.2.1 229 = .ok (.lload 20, 2) := by decide +kernel
theorem d_M_isGuilty_231 : decode me_M_isGuilty.2.1 231 = .ok (.lmul, 1) := by decide +kernel
theorem d_M_isGuilty_232 : decode me_M_isGuilty.2.1 232 = .ok (.lload 18, 2) := by decide +kernel
theorem d_M_isGuilty_234 : decode me_M_isGuilty.2.1 234 = .ok (.iload_n 2, 1) := by decide +kernel
theorem d_M_isGuilty_235 : decode me_M_isGuilty.2.1 235 = .ok (.bipush 30, 2) := by decide +kernel
theorem d_M_isGuilty_237 : decode me_M_isGuilty.2.1 237 = .ok (.idiv, 1) := by decide +kernel
theorem d_M_isGuilty_238 : decode me_M_isGuilty.2.1 238 = .ok (.iload_n 1, 1) := by decide +kernel
theorem d_M_isGuilty_239 : decode me_M_isGuilty.2.1 239 = .ok (.bipush 30, 2) := by decide +kernel
theorem d_M_isGuilty_241 : decode me_M_isGuilty.2.1 241 = .ok (.idiv, 1) := by decide +kernel
theorem d_M_isGuilty_242 : decode me_M_isGuilty.2.1 242 = .ok (.isub, 1) := by decide +kernel
theorem d_M_isGuilty_243 : decode me_M_isGuilty.2.1 243 = .ok (.i2l, 1) := by decide +kernel
theorem d_M_isGuilty_244 : decode me_M_isGuilty.2.1 244 = .ok (.lmul, 1) := by decide +kernel
theorem d_M_isGuilty_245 : decode me_M_isGuilty.2.1 245 = .ok (.ladd, 1) := by decide +kernel
theorem d_M_isGuilty_246 : decode me_M_isGuilty.2.1 246 = .ok (.lload 20, 2) := by decide +kernel
theorem d_M_isGuilty_248 : decode me_M_isGuilty.2.1 248 = .ok (.iload_n 3, 1) := by decide +kernel
theorem d_M_isGuilty_249 : decode me_M_isGuilty.2.1 249 = .ok (.iload 4, 2) := by decide +kernel
theorem d_M_isGuilty_251 : decode me_M_isGuilty.2.1 251 = .ok (.iload 5, 2) := by decide +kernel
theorem d_M_isGuilty_253 : decode me_M_isGuilty.2.1 253 = .ok (.invokevirtual 251, 3) := by decide +kernel
theorem d_M_isGuilty_256 : decode me_M_isGuilty.2.1 256 = .ok (.ireturn, 1) := by decide +kernel
noncomputable def f_M_isGuilty_186  (a1 : Int32) (a2 : Int32) (a3 : Int32) (a4 : Int32) (a5 : Int32) (a18 : Int64) (s0 : Int64) (s1 : Int64) (m0 : gk_M) : Option (Int32 × gk_M) :=
  gk_let (s0 + s1) fun v1 =>
  gk_let (gk_ml m0 0 25 a18) fun m2 =>
  gk_let (gk_ml m2 0 26 v1) fun m3 =>
  gk_bi (f_M_inLine (((gk_rem a1 30).toInt64 * v1) + (a18 * ((gk_rem a2 30) - (gk_rem a1 30)).toInt64)) (((a1 / 30).toInt64 * v1) + (a18 * ((a2 / 30) - (a1 / 30)).toInt64)) v1 a3 a4 a5 m3) fun v5 m4 =>
  gk_zz v5 (some (v5, m4))

theorem s_M_isGuilty_186 {z : gk_Z} (K : gk_F tm z me_M_isGuilty 69) {r : Int32} {mem2 : gk_M} : ∀ a1 a2 a3 a4 a5 a18 s0 s1 m0, f_M_isGuilty_186 a1 a2 a3 a4 a5 a18 s0 s1 m0 = some (r, mem2) → gk_G tm z me_M_isGuilty (gk_R tm z (some (.int r)) mem2) m0 [(0, .ref 0), (1, .int a1), (2, .int a2), (3, .int a3), (4, .int a4), (5, .int a5), (18, .long a18)] [.long s1, .long s0] 186 := by
  intro a1 a2 a3 a4 a5 a18 s0 s1 m0  h
  unfold f_M_isGuilty_186 at h
  refine gk_ladd (pc := 186) K d_M_isGuilty_186 ?_
  refine gk_topl h (fun v1 h => ?_)
  refine gk_lstore (lv2 := [(20, .long v1), (0, .ref 0), (1, .int a1), (2, .int a2), (3, .int a3), (4, .int a4), (5, .int a5), (18, .long a18)]) (pc := 187) K d_M_isGuilty_187 (by decide) rfl ?_
  refine gk_aload_n (pc := 189) K d_M_isGuilty_189 rfl ?_
  refine gk_lload (pc := 190) K d_M_isGuilty_190 rfl ?_
  refine gk_putl (pc := 192) K d_M_isGuilty_192 fp_M_264 tm_0 rfl h (fun m2 h => ?_)
  refine gk_aload_n (pc := 195) K d_M_isGuilty_195 rfl ?_
  refine gk_lload (pc := 196) K d_M_isGuilty_196 rfl ?_
  refine gk_putl (pc := 198) K d_M_isGuilty_198 fp_M_268 tm_0 rfl h (fun m3 h => ?_)
  refine gk_aload_n (pc := 201) K d_M_isGuilty_201 rfl ?_
  refine gk_iload_n (pc := 202) K d_M_isGuilty_202 rfl ?_
  refine gk_bipush (pc := 203) K d_M_isGuilty_203 kb_30 ?_
  refine gk_iremc2 (pc := 205) K d_M_isGuilty_205 (by decide) ?_
  refine gk_i2l (pc := 206) K d_M_isGuilty_206 ?_
  refine gk_lload (pc := 207) K d_M_isGuilty_207 rfl ?_
  refine gk_lmul (pc := 209) K d_M_isGuilty_209 ?_
  refine gk_lload (pc := 210) K d_M_isGuilty_210 rfl ?_
  refine gk_iload_n (pc := 212) K d_M_isGuilty_212 rfl ?_
  refine gk_bipush (pc := 213) K d_M_isGuilty_213 kb_30 ?_
  refine gk_iremc2 (pc := 215) K d_M_isGuilty_215 (by decide) ?_
  refine gk_iload_n (pc := 216) K d_M_isGuilty_216 rfl ?_
  refine gk_bipush (pc := 217) K d_M_isGuilty_217 kb_30 ?_
  refine gk_iremc2 (pc := 219) K d_M_isGuilty_219 (by decide) ?_
  refine gk_isub (pc := 220) K d_M_isGuilty_220 ?_
  refine gk_i2l (pc := 221) K d_M_isGuilty_221 ?_
  refine gk_lmul (pc := 222) K d_M_isGuilty_222 ?_
  refine gk_ladd (pc := 223) K d_M_isGuilty_223 ?_
  refine gk_iload_n (pc := 224) K d_M_isGuilty_224 rfl ?_
  refine gk_bipush (pc := 225) K d_M_isGuilty_225 kb_30 ?_
  refine gk_idivc2 (pc := 227) K d_M_isGuilty_227 (by decide) ?_
  refine gk_i2l (pc := 228) K d_M_isGuilty_228 ?_
  refine gk_lload (pc := 229) K d_M_isGuilty_229 rfl ?_
  refine gk_lmul (pc := 231) K d_M_isGuilty_231 ?_
  refine gk_lload (pc := 232) K d_M_isGuilty_232 rfl ?_
  refine gk_iload_n (pc := 234) K d_M_isGuilty_234 rfl ?_
  refine gk_bipush (pc := 235) K d_M_isGuilty_235 kb_30 ?_
  refine gk_idivc2 (pc := 237) K d_M_isGuilty_237 (by decide) ?_
  refine gk_iload_n (pc := 238) K d_M_isGuilty_238 rfl ?_
  refine gk_bipush (pc := 239) K d_M_isGuilty_239 kb_30 ?_
  refine gk_idivc2 (pc := 241) K d_M_isGuilty_241 (by decide) ?_
  refine gk_isub (pc := 242) K d_M_isGuilty_242 ?_
  refine gk_i2l (pc := 243) K d_M_isGuilty_243 ?_
  refine gk_lmul (pc := 244) K d_M_isGuilty_244 ?_
  refine gk_ladd (pc := 245) K d_M_isGuilty_245 ?_
  refine gk_lload (pc := 246) K d_M_isGuilty_246 rfl ?_
  refine gk_iload_n (pc := 248) K d_M_isGuilty_248 rfl ?_
  refine gk_iload (pc := 249) K d_M_isGuilty_249 rfl ?_
  refine gk_iload (pc := 251) K d_M_isGuilty_251 rfl ?_
  obtain ⟨v5, m4, em4, h⟩ := gk_bi_some h
  refine gk_cVi (As := [.long (((gk_rem a1 30).toInt64 * v1) + (a18 * ((gk_rem a2 30) - (gk_rem a1 30)).toInt64)), .long (((a1 / 30).toInt64 * v1) + (a18 * ((a2 / 30) - (a1 / 30)).toInt64)), .long v1, .int a3, .int a4, .int a5]) (pc := 253) K d_M_isGuilty_253 mv_M_251 mc_M_inLine rfl tm_0 cl_ok10.1 (s_M_inLine (gk_FD K)  em4) (by decide) rfl (Nat.le_of_ble_eq_true rfl) ?_
  exact gk_zret (pc := 256) K d_M_isGuilty_256 rfl h
noncomputable def f_M_isGuilty_167  (a1 : Int32) (a2 : Int32) (a3 : Int32) (a4 : Int32) (a5 : Int32) (a16 : Int64) (s0 : Int64) (m0 : gk_M) : Option (Int32 × gk_M) :=
  if 0 ≤ a16 then
    f_M_isGuilty_186 a1 a2 a3 a4 a5 s0 s0 a16 m0
  else
    f_M_isGuilty_186 a1 a2 a3 a4 a5 s0 s0 (-a16) m0

theorem s_M_isGuilty_167 {z : gk_Z} (K : gk_F tm z me_M_isGuilty 69) {r : Int32} {mem2 : gk_M} : ∀ a1 a2 a3 a4 a5 a16 s0 m0, f_M_isGuilty_167 a1 a2 a3 a4 a5 a16 s0 m0 = some (r, mem2) → gk_G tm z me_M_isGuilty (gk_R tm z (some (.int r)) mem2) m0 [(0, .ref 0), (1, .int a1), (2, .int a2), (3, .int a3), (4, .int a4), (5, .int a5), (16, .long a16)] [.long s0] 167 := by
  intro a1 a2 a3 a4 a5 a16 s0 m0  h
  unfold f_M_isGuilty_167 at h
  refine gk_lstore (lv2 := [(18, .long s0), (0, .ref 0), (1, .int a1), (2, .int a2), (3, .int a3), (4, .int a4), (5, .int a5), (16, .long a16)]) (pc := 167) K d_M_isGuilty_167 (by decide) rfl ?_
  refine gk_lload (pc := 169) K d_M_isGuilty_169 rfl ?_
  refine gk_lload (pc := 171) K d_M_isGuilty_171 rfl ?_
  refine gk_lconst (pc := 173) K d_M_isGuilty_173 kl_0 ?_
  refine gk_lc_ge (tgt := 184) (pc := 174) K d_M_isGuilty_174 d_M_isGuilty_175 (by decide) h (fun h => ?_) (fun h => ?_)
  · refine gk_lload (pc := 184) K d_M_isGuilty_184 rfl ?_
    exact gk_sub [1, 2, 3, 4, 5, 6, 0] rfl (s_M_isGuilty_186 K _ _ _ _ _ _ _ _ _  h)
  · refine gk_lload (pc := 178) K d_M_isGuilty_178 rfl ?_
    refine gk_lneg (pc := 180) K d_M_isGuilty_180 ?_
    refine gk_goto (tgt := 186) (pc := 181) K d_M_isGuilty_181 (by decide) ?_
    exact gk_sub [1, 2, 3, 4, 5, 6, 0] rfl (s_M_isGuilty_186 K _ _ _ _ _ _ _ _ _  h)
noncomputable def f_M_isGuilty_152  (a1 : Int32) (a2 : Int32) (a3 : Int32) (a4 : Int32) (a5 : Int32) (a14 : Int64) (a16 : Int64) (m0 : gk_M) : Option (Int32 × gk_M) :=
  if 0 ≤ a14 then
    f_M_isGuilty_167 a1 a2 a3 a4 a5 a16 a14 m0
  else
    f_M_isGuilty_167 a1 a2 a3 a4 a5 a16 (-a14) m0

theorem s_M_isGuilty_152 {z : gk_Z} (K : gk_F tm z me_M_isGuilty 69) {r : Int32} {mem2 : gk_M} : ∀ a1 a2 a3 a4 a5 a14 a16 m0, f_M_isGuilty_152 a1 a2 a3 a4 a5 a14 a16 m0 = some (r, mem2) → gk_G tm z me_M_isGuilty (gk_R tm z (some (.int r)) mem2) m0 [(0, .ref 0), (1, .int a1), (2, .int a2), (3, .int a3), (4, .int a4), (5, .int a5), (14, .long a14), (16, .long a16)] [] 152 := by
  intro a1 a2 a3 a4 a5 a14 a16 m0  h
  unfold f_M_isGuilty_152 at h
  refine gk_lload (pc := 152) K d_M_isGuilty_152 rfl ?_
  refine gk_lconst (pc := 154) K d_M_isGuilty_154 kl_0 ?_
  refine gk_lc_ge (tgt := 165) (pc := 155) K d_M_isGuilty_155 d_M_isGuilty_156 (by decide) h (fun h => ?_) (fun h => ?_)
  · refine gk_lload (pc := 165) K d_M_isGuilty_165 rfl ?_
    exact gk_sub [0, 1, 2, 3, 4, 5, 7] rfl (s_M_isGuilty_167 K _ _ _ _ _ _ _ _  h)
  · refine gk_lload (pc := 159) K d_M_isGuilty_159 rfl ?_
    refine gk_lneg (pc := 161) K d_M_isGuilty_161 ?_
    refine gk_goto (tgt := 167) (pc := 162) K d_M_isGuilty_162 (by decide) ?_
    exact gk_sub [0, 1, 2, 3, 4, 5, 7] rfl (s_M_isGuilty_167 K _ _ _ _ _ _ _ _  h)
noncomputable def f_M_isGuilty_136  (a1 : Int32) (a2 : Int32) (a3 : Int32) (a4 : Int32) (a5 : Int32) (a14 : Int64) (a16 : Int64) (m0 : gk_M) : Option (Int32 × gk_M) :=
  if 0 ≤ a14 then
    f_M_isGuilty_152 a1 a2 a3 a4 a5 a14 a16 m0
  else
    if 0 ≤ a16 then
      f_M_isGuilty_152 a1 a2 a3 a4 a5 a14 a16 m0
    else
      some (0, m0)

theorem s_M_isGuilty_136 {z : gk_Z} (K : gk_F tm z me_M_isGuilty 69) {r : Int32} {mem2 : gk_M} : ∀ a1 a2 a3 a4 a5 a14 a16 m0, f_M_isGuilty_136 a1 a2 a3 a4 a5 a14 a16 m0 = some (r, mem2) → gk_G tm z me_M_isGuilty (gk_R tm z (some (.int r)) mem2) m0 [(0, .ref 0), (1, .int a1), (2, .int a2), (3, .int a3), (4, .int a4), (5, .int a5), (14, .long a14), (16, .long a16)] [] 136 := by
  intro a1 a2 a3 a4 a5 a14 a16 m0  h
  unfold f_M_isGuilty_136 at h
  refine gk_lload (pc := 136) K d_M_isGuilty_136 rfl ?_
  refine gk_lconst (pc := 138) K d_M_isGuilty_138 kl_0 ?_
  refine gk_lc_ge (tgt := 152) (pc := 139) K d_M_isGuilty_139 d_M_isGuilty_140 (by decide) h (fun h => ?_) (fun h => ?_)
  · exact gk_sub [0, 1, 2, 3, 4, 5, 6, 7] rfl (s_M_isGuilty_152 K _ _ _ _ _ _ _ _  h)
  · refine gk_lload (pc := 143) K d_M_isGuilty_143 rfl ?_
    refine gk_lconst (pc := 145) K d_M_isGuilty_145 kl_0 ?_
    refine gk_lc_ge (tgt := 152) (pc := 146) K d_M_isGuilty_146 d_M_isGuilty_147 (by decide) h (fun h => ?_) (fun h => ?_)
    · exact gk_sub [0, 1, 2, 3, 4, 5, 6, 7] rfl (s_M_isGuilty_152 K _ _ _ _ _ _ _ _  h)
    · refine gk_iconst (pc := 150) K d_M_isGuilty_150 kc_0 ?_
      exact gk_zretc (pc := 151) K d_M_isGuilty_151 rfl (Or.inl rfl) h
noncomputable def f_M_isGuilty_122  (a1 : Int32) (a2 : Int32) (a3 : Int32) (a4 : Int32) (a5 : Int32) (a14 : Int64) (a16 : Int64) (m0 : gk_M) : Option (Int32 × gk_M) :=
  if a14 ≤ 0 then
    f_M_isGuilty_136 a1 a2 a3 a4 a5 a14 a16 m0
  else
    if 0 < a16 then
      some (0, m0)
    else
      f_M_isGuilty_136 a1 a2 a3 a4 a5 a14 a16 m0

theorem s_M_isGuilty_122 {z : gk_Z} (K : gk_F tm z me_M_isGuilty 69) {r : Int32} {mem2 : gk_M} : ∀ a1 a2 a3 a4 a5 a14 a16 m0, f_M_isGuilty_122 a1 a2 a3 a4 a5 a14 a16 m0 = some (r, mem2) → gk_G tm z me_M_isGuilty (gk_R tm z (some (.int r)) mem2) m0 [(0, .ref 0), (1, .int a1), (2, .int a2), (3, .int a3), (4, .int a4), (5, .int a5), (14, .long a14), (16, .long a16)] [] 122 := by
  intro a1 a2 a3 a4 a5 a14 a16 m0  h
  unfold f_M_isGuilty_122 at h
  refine gk_lload (pc := 122) K d_M_isGuilty_122 rfl ?_
  refine gk_lconst (pc := 124) K d_M_isGuilty_124 kl_0 ?_
  refine gk_lc_le (tgt := 136) (pc := 125) K d_M_isGuilty_125 d_M_isGuilty_126 (by decide) h (fun h => ?_) (fun h => ?_)
  · exact gk_sub [0, 1, 2, 3, 4, 5, 6, 7] rfl (s_M_isGuilty_136 K _ _ _ _ _ _ _ _  h)
  · refine gk_lload (pc := 129) K d_M_isGuilty_129 rfl ?_
    refine gk_lconst (pc := 131) K d_M_isGuilty_131 kl_0 ?_
    refine gk_lc_gt (tgt := 150) (pc := 132) K d_M_isGuilty_132 d_M_isGuilty_133 (by decide) h (fun h => ?_) (fun h => ?_)
    · refine gk_iconst (pc := 150) K d_M_isGuilty_150 kc_0 ?_
      exact gk_zretc (pc := 151) K d_M_isGuilty_151 rfl (Or.inl rfl) h
    · exact gk_sub [0, 1, 2, 3, 4, 5, 6, 7] rfl (s_M_isGuilty_136 K _ _ _ _ _ _ _ _  h)
noncomputable def f_M_isGuilty  (a1 : Int32) (a2 : Int32) (a3 : Int32) (a4 : Int32) (a5 : Int32) (m0 : gk_M) : Option (Int32 × gk_M) :=
  gk_ai m0 5 20 a3 fun v1 =>
  gk_let (gk_rem v1 30).toInt64 fun v2 =>
  gk_ai m0 5 20 a3 fun v3 =>
  gk_let (v3 / 30).toInt64 fun v4 =>
  gk_ai m0 5 20 a4 fun v5 =>
  gk_let (gk_rem v5 30).toInt64 fun v6 =>
  gk_ai m0 5 20 a4 fun v7 =>
  gk_let (v7 / 30).toInt64 fun v8 =>
  gk_bl (f_M_side v2 v4 v6 v8 (gk_rem a1 30).toInt64 (a1 / 30).toInt64 m0) fun v10 m9 =>
  gk_bl (f_M_side v2 v4 v6 v8 (gk_rem a2 30).toInt64 (a2 / 30).toInt64 m9) fun v12 m11 =>
  if ¬ v10 = 0 then
    f_M_isGuilty_122 a1 a2 a3 a4 a5 v10 v12 m11
  else
    if ¬ v12 = 0 then
      f_M_isGuilty_122 a1 a2 a3 a4 a5 v10 v12 m11
    else
      gk_bi (f_M_isAlong a1 a2 a3 a4 a5 m11) fun v14 m13 =>
      gk_zz v14 (some (v14, m13))

theorem s_M_isGuilty_0 {z : gk_Z} (K : gk_F tm z me_M_isGuilty 69) {r : Int32} {mem2 : gk_M} : ∀ a1 a2 a3 a4 a5 m0, f_M_isGuilty a1 a2 a3 a4 a5 m0 = some (r, mem2) → gk_G tm z me_M_isGuilty (gk_R tm z (some (.int r)) mem2) m0 [(0, .ref 0), (1, .int a1), (2, .int a2), (3, .int a3), (4, .int a4), (5, .int a5)] [] 0 := by
  intro a1 a2 a3 a4 a5 m0  h
  unfold f_M_isGuilty at h
  refine gk_aload_n (pc := 0) K d_M_isGuilty_0 rfl ?_
  refine gk_get (pc := 1) K d_M_isGuilty_1 fl_M_22 tm_0 rfl rfl ?_
  refine gk_iload_n (pc := 4) K d_M_isGuilty_4 rfl ?_
  refine gk_iald (pc := 5) K d_M_isGuilty_5 tm_5 h (fun v1 h => ?_)
  refine gk_bipush (pc := 6) K d_M_isGuilty_6 kb_30 ?_
  refine gk_iremc2 (pc := 8) K d_M_isGuilty_8 (by decide) ?_
  refine gk_i2l (pc := 9) K d_M_isGuilty_9 ?_
  refine gk_topl h (fun v2 h => ?_)
  refine gk_lstore (lv2 := [(6, .long v2), (0, .ref 0), (1, .int a1), (2, .int a2), (3, .int a3), (4, .int a4), (5, .int a5)]) (pc := 10) K d_M_isGuilty_10 (by decide) rfl ?_
  refine gk_aload_n (pc := 12) K d_M_isGuilty_12 rfl ?_
  refine gk_get (pc := 13) K d_M_isGuilty_13 fl_M_22 tm_0 rfl rfl ?_
  refine gk_iload_n (pc := 16) K d_M_isGuilty_16 rfl ?_
  refine gk_iald (pc := 17) K d_M_isGuilty_17 tm_5 h (fun v3 h => ?_)
  refine gk_bipush (pc := 18) K d_M_isGuilty_18 kb_30 ?_
  refine gk_idivc2 (pc := 20) K d_M_isGuilty_20 (by decide) ?_
  refine gk_i2l (pc := 21) K d_M_isGuilty_21 ?_
  refine gk_topl h (fun v4 h => ?_)
  refine gk_lstore (lv2 := [(8, .long v4), (6, .long v2), (0, .ref 0), (1, .int a1), (2, .int a2), (3, .int a3), (4, .int a4), (5, .int a5)]) (pc := 22) K d_M_isGuilty_22 (by decide) rfl ?_
  refine gk_aload_n (pc := 24) K d_M_isGuilty_24 rfl ?_
  refine gk_get (pc := 25) K d_M_isGuilty_25 fl_M_22 tm_0 rfl rfl ?_
  refine gk_iload (pc := 28) K d_M_isGuilty_28 rfl ?_
  refine gk_iald (pc := 30) K d_M_isGuilty_30 tm_5 h (fun v5 h => ?_)
  refine gk_bipush (pc := 31) K d_M_isGuilty_31 kb_30 ?_
  refine gk_iremc2 (pc := 33) K d_M_isGuilty_33 (by decide) ?_
  refine gk_i2l (pc := 34) K d_M_isGuilty_34 ?_
  refine gk_topl h (fun v6 h => ?_)
  refine gk_lstore (lv2 := [(10, .long v6), (8, .long v4), (6, .long v2), (0, .ref 0), (1, .int a1), (2, .int a2), (3, .int a3), (4, .int a4), (5, .int a5)]) (pc := 35) K d_M_isGuilty_35 (by decide) rfl ?_
  refine gk_aload_n (pc := 37) K d_M_isGuilty_37 rfl ?_
  refine gk_get (pc := 38) K d_M_isGuilty_38 fl_M_22 tm_0 rfl rfl ?_
  refine gk_iload (pc := 41) K d_M_isGuilty_41 rfl ?_
  refine gk_iald (pc := 43) K d_M_isGuilty_43 tm_5 h (fun v7 h => ?_)
  refine gk_bipush (pc := 44) K d_M_isGuilty_44 kb_30 ?_
  refine gk_idivc2 (pc := 46) K d_M_isGuilty_46 (by decide) ?_
  refine gk_i2l (pc := 47) K d_M_isGuilty_47 ?_
  refine gk_topl h (fun v8 h => ?_)
  refine gk_lstore (lv2 := [(12, .long v8), (10, .long v6), (8, .long v4), (6, .long v2), (0, .ref 0), (1, .int a1), (2, .int a2), (3, .int a3), (4, .int a4), (5, .int a5)]) (pc := 48) K d_M_isGuilty_48 (by decide) rfl ?_
  refine gk_lload (pc := 50) K d_M_isGuilty_50 rfl ?_
  refine gk_lload (pc := 52) K d_M_isGuilty_52 rfl ?_
  refine gk_lload (pc := 54) K d_M_isGuilty_54 rfl ?_
  refine gk_lload (pc := 56) K d_M_isGuilty_56 rfl ?_
  refine gk_iload_n (pc := 58) K d_M_isGuilty_58 rfl ?_
  refine gk_bipush (pc := 59) K d_M_isGuilty_59 kb_30 ?_
  refine gk_iremc2 (pc := 61) K d_M_isGuilty_61 (by decide) ?_
  refine gk_i2l (pc := 62) K d_M_isGuilty_62 ?_
  refine gk_iload_n (pc := 63) K d_M_isGuilty_63 rfl ?_
  refine gk_bipush (pc := 64) K d_M_isGuilty_64 kb_30 ?_
  refine gk_idivc2 (pc := 66) K d_M_isGuilty_66 (by decide) ?_
  refine gk_i2l (pc := 67) K d_M_isGuilty_67 ?_
  obtain ⟨v10, m9, em9, h⟩ := gk_bl_some h
  refine gk_cSl (As := [.long v2, .long v4, .long v6, .long v8, .long (gk_rem a1 30).toInt64, .long (a1 / 30).toInt64]) (pc := 68) K d_M_isGuilty_68 ms_M_216 mc_M_side rfl (s_M_side (gk_FD K)  em9) (by decide) rfl (Nat.le_of_ble_eq_true rfl) ?_
  refine gk_lstore (lv2 := [(14, .long v10), (12, .long v8), (10, .long v6), (8, .long v4), (6, .long v2), (0, .ref 0), (1, .int a1), (2, .int a2), (3, .int a3), (4, .int a4), (5, .int a5)]) (pc := 71) K d_M_isGuilty_71 (by decide) rfl ?_
  refine gk_lload (pc := 73) K d_M_isGuilty_73 rfl ?_
  refine gk_lload (pc := 75) K d_M_isGuilty_75 rfl ?_
  refine gk_lload (pc := 77) K d_M_isGuilty_77 rfl ?_
  refine gk_lload (pc := 79) K d_M_isGuilty_79 rfl ?_
  refine gk_iload_n (pc := 81) K d_M_isGuilty_81 rfl ?_
  refine gk_bipush (pc := 82) K d_M_isGuilty_82 kb_30 ?_
  refine gk_iremc2 (pc := 84) K d_M_isGuilty_84 (by decide) ?_
  refine gk_i2l (pc := 85) K d_M_isGuilty_85 ?_
  refine gk_iload_n (pc := 86) K d_M_isGuilty_86 rfl ?_
  refine gk_bipush (pc := 87) K d_M_isGuilty_87 kb_30 ?_
  refine gk_idivc2 (pc := 89) K d_M_isGuilty_89 (by decide) ?_
  refine gk_i2l (pc := 90) K d_M_isGuilty_90 ?_
  obtain ⟨v12, m11, em11, h⟩ := gk_bl_some h
  refine gk_cSl (As := [.long v2, .long v4, .long v6, .long v8, .long (gk_rem a2 30).toInt64, .long (a2 / 30).toInt64]) (pc := 91) K d_M_isGuilty_91 ms_M_216 mc_M_side rfl (s_M_side (gk_FD K)  em11) (by decide) rfl (Nat.le_of_ble_eq_true rfl) ?_
  refine gk_lstore (lv2 := [(16, .long v12), (14, .long v10), (12, .long v8), (10, .long v6), (8, .long v4), (6, .long v2), (0, .ref 0), (1, .int a1), (2, .int a2), (3, .int a3), (4, .int a4), (5, .int a5)]) (pc := 94) K d_M_isGuilty_94 (by decide) rfl ?_
  refine gk_lload (pc := 96) K d_M_isGuilty_96 rfl ?_
  refine gk_lconst (pc := 98) K d_M_isGuilty_98 kl_0 ?_
  refine gk_lc_ne (tgt := 122) (pc := 99) K d_M_isGuilty_99 d_M_isGuilty_100 (by decide) h (fun h => ?_) (fun h => ?_)
  · exact gk_sub [6, 7, 8, 9, 10, 11, 1, 0] rfl (s_M_isGuilty_122 K _ _ _ _ _ _ _ _  h)
  · refine gk_lload (pc := 103) K d_M_isGuilty_103 rfl ?_
    refine gk_lconst (pc := 105) K d_M_isGuilty_105 kl_0 ?_
    refine gk_lc_ne (tgt := 122) (pc := 106) K d_M_isGuilty_106 d_M_isGuilty_107 (by decide) h (fun h => ?_) (fun h => ?_)
    · exact gk_sub [6, 7, 8, 9, 10, 11, 1, 0] rfl (s_M_isGuilty_122 K _ _ _ _ _ _ _ _  h)
    · refine gk_aload_n (pc := 110) K d_M_isGuilty_110 rfl ?_
      refine gk_iload_n (pc := 111) K d_M_isGuilty_111 rfl ?_
      refine gk_iload_n (pc := 112) K d_M_isGuilty_112 rfl ?_
      refine gk_iload_n (pc := 113) K d_M_isGuilty_113 rfl ?_
      refine gk_iload (pc := 114) K d_M_isGuilty_114 rfl ?_
      refine gk_iload (pc := 116) K d_M_isGuilty_116 rfl ?_
      obtain ⟨v14, m13, em13, h⟩ := gk_bi_some h
      refine gk_cVi (As := [.int a1, .int a2, .int a3, .int a4, .int a5]) (pc := 118) K d_M_isGuilty_118 mv_M_271 mc_M_isAlong rfl tm_0 cl_ok10.1 (s_M_isAlong (gk_FD K)  em13) (by decide) rfl (Nat.le_of_ble_eq_true rfl) ?_
      exact gk_zret (pc := 121) K d_M_isGuilty_121 rfl h
theorem s_M_isGuilty {l : Launch} {u : gk_U} (hD : gk_D tm u) {a1 : Int32} {a2 : Int32} {a3 : Int32} {a4 : Int32} {a5 : Int32} {m0 mem2 : gk_M} {r : Int32} (h : f_M_isGuilty a1 a2 a3 a4 a5 m0 = some (r, mem2)) : gk_C tm l u me_M_isGuilty 69 [.ref 0, .int a1, .int a2, .int a3, .int a4, .int a5] m0 (some (.int r)) mem2 :=
  gk_enter hD mc_M_isGuilty (Nat.le_of_ble_eq_true rfl) rfl (fun z _ _ K => s_M_isGuilty_0 K _ _ _ _ _ _  h)
