theorem d_M_isPoint_0 : decode me_M_isPoint.2.1 0 = .ok (.iload_n 0, 1) := by decide +kernel
theorem d_M_isPoint_1 : decode me_M_isPoint.2.1 1 = .ok (.i2l, 1) := by decide +kernel
theorem d_M_isPoint_2 : decode me_M_isPoint.2.1 2 = .ok (.lconst 0, 1) := by decide +kernel
theorem d_M_isPoint_3 : decode me_M_isPoint.2.1 3 = .ok (.ldc2_w 100, 3) := by decide +kernel
theorem d_M_isPoint_6 : decode me_M_isPoint.2.1 6 = .ok (.invokestatic 102, 3) := by decide +kernel
theorem d_M_isPoint_9 : decode me_M_isPoint.2.1 9 = .ok (.ireturn, 1) := by decide +kernel
noncomputable def f_M_isPoint  (a0 : Int32) (m0 : gk_M) : Option (Int32 × gk_M) :=
  gk_bi (f_M_within a0.toInt64 0 899 m0) fun v2 m1 =>
  gk_zz v2 (some (v2, m1))

theorem s_M_isPoint_0 {z : gk_Z} (K : gk_F tm z me_M_isPoint 2) {r : Int32} {mem2 : gk_M} : ∀ a0 m0, f_M_isPoint a0 m0 = some (r, mem2) → gk_G tm z me_M_isPoint (gk_R tm z (some (.int r)) mem2) m0 [(0, .int a0)] [] 0 := by
  intro a0 m0  h
  unfold f_M_isPoint at h
  refine gk_iload_n (pc := 0) K d_M_isPoint_0 rfl ?_
  refine gk_i2l (pc := 1) K d_M_isPoint_1 ?_
  refine gk_lconst (pc := 2) K d_M_isPoint_2 kl_0 ?_
  refine gk_ldc2 (pc := 3) K d_M_isPoint_3 lc_M_100 ?_
  obtain ⟨v2, m1, em1, h⟩ := gk_bi_some h
  refine gk_cSi (As := [.long a0.toInt64, .long 0, .long 899]) (pc := 6) K d_M_isPoint_6 ms_M_102 mc_M_within rfl (s_M_within (gk_FD K)  em1) (by decide) rfl (Nat.le_of_ble_eq_true rfl) ?_
  exact gk_zret (pc := 9) K d_M_isPoint_9 rfl h
theorem s_M_isPoint {l : Launch} {u : gk_U} (hD : gk_D tm u) {a0 : Int32} {m0 mem2 : gk_M} {r : Int32} (h : f_M_isPoint a0 m0 = some (r, mem2)) : gk_C tm l u me_M_isPoint 2 [.int a0] m0 (some (.int r)) mem2 :=
  gk_enter hD mc_M_isPoint (Nat.le_of_ble_eq_true rfl) rfl (fun z _ _ K => s_M_isPoint_0 K _ _  h)
theorem d_M_road_0 : decode me_M_road.2.1 0 = .ok (.iload_n 1, 1) := by decide +kernel
theorem d_M_road_1 : decode me_M_road.2.1 1 = .ok (.invokestatic 133, 3) := by decide +kernel
theorem d_M_road_4 : decode me_M_road.2.1 4 = .ok (.ifCond .eq 15, 3) := by decide +kernel
theorem d_M_road_7 : decode me_M_road.2.1 7 = .ok (.iload_n 2, 1) := by decide +kernel
theorem d_M_road_8 : decode me_M_road.2.1 8 = .ok (.invokestatic 133, 3) := by decide +kernel
theorem d_M_road_11 : decode me_M_road.2.1 11 = .ok (.ifCond .eq 8, 3) := by decide +kernel
theorem d_M_road_14 : decode me_M_road.2.1 14 = .ok (.iload_n 1, 1) := by decide +kernel
theorem d_M_road_15 : decode me_M_road.2.1 15 = .ok (.iload_n 2, 1) := by decide +kernel
theorem d_M_road_16 : decode me_M_road.2.1 16 = .ok (.if_icmp .ne 5, 3) := by decide +kernel
theorem d_M_road_19 : decode me_M_road.2.1 19 = .ok (.iconst (-1), 1) := by decide +kernel
theorem d_M_road_20 : decode me_M_road.2.1 20 = .ok (.ireturn, 1) := by decide +kernel
theorem d_M_road_21 : decode me_M_road.2.1 21 = .ok (.aload_n 0, 1) := by decide +kernel
theorem d_M_road_22 : decode me_M_road.2.1 22 = .ok (.getfield 109, 3) := by decide +kernel
theorem d_M_road_25 : decode me_M_road.2.1 25 = .ok (.iconst 4, 1) := by decide +kernel
theorem d_M_road_26 : decode me_M_road.2.1 26 = .ok (.if_icmp .ne 6, 3) := by decide +kernel
theorem d_M_road_29 : decode me_M_road.2.1 29 = .ok (.bipush (-3), 2) := by decide +kernel
theorem d_M_road_31 : decode me_M_road.2.1 31 = .ok (.ireturn, 1) := by decide +kernel
theorem d_M_road_32 : decode me_M_road.2.1 32 = .ok (.aload_n 0, 1) := by decide +kernel
theorem d_M_road_33 : decode me_M_road.2.1 33 = .ok (.getfield 34, 3) := by decide +kernel
theorem d_M_road_36 : decode me_M_road.2.1 36 = .ok (.bipush 7, 2) := by decide +kernel
theorem d_M_road_38 : decode me_M_road.2.1 38 = .ok (.aload_n 0, 1) := by decide +kernel
theorem d_M_road_39 : decode me_M_road.2.1 39 = .ok (.getfield 109, 3) := by decide +kernel
theorem d_M_road_42 : decode me_M_road.2.1 42 = .ok (.imul, 1) := by decide +kernel
theorem d_M_road_43 : decode me_M_road.2.1 43 = .ok (.iload_n 1, 1) := by decide +kernel
theorem d_M_road_44 : decode me_M_road.2.1 44 = .ok (.iastore, 1) := by decide +kernel
theorem d_M_road_45 : decode me_M_road.2.1 45 = .ok (.aload_n 0, 1) := by decide +kernel
theorem d_M_road_46 : decode me_M_road.2.1 46 = .ok (.getfield 34, 3) := by decide +kernel
theorem d_M_road_49 : decode me_M_road.2.1 49 = .ok (.bipush 7, 2) := by decide +kernel
theorem d_M_road_51 : decode me_M_road.2.1 51 = .ok (.aload_n 0, 1) := by decide +kernel
theorem d_M_road_52 : decode me_M_road.2.1 52 = .ok (.getfield 109, 3) := by decide +kernel
theorem d_M_road_55 : decode me_M_road.2.1 55 = .ok (.imul, 1) := by decide +kernel
theorem d_M_road_56 : decode me_M_road.2.1 56 = .ok (.iconst 1, 1) := by decide +kernel
theorem d_M_road_57 : decode me_M_road.2.1 57 = .ok (.iadd, 1) := by decide +kernel
theorem d_M_road_58 : decode me_M_road.2.1 58 = .ok (.iload_n 2, 1) := by decide +kernel
theorem d_M_road_59 : decode me_M_road.2.1 59 = .ok (.iastore, 1) := by decide +kernel
theorem d_M_road_60 : decode me_M_road.2.1 60 = .ok (.aload_n 0, 1) := by decide +kernel
theorem d_M_road_61 : decode me_M_road.2.1 61 = .ok (.getfield 31, 3) := by decide +kernel
theorem d_M_road_64 : decode me_M_road.2.1 64 = .ok (.aload_n 0, 1) := by decide +kernel
theorem d_M_road_65 : decode me_M_road.2.1 65 = .ok (.getfield 109, 3) := by decide +kernel
theorem d_M_road_68 : decode me_M_road.2.1 68 = .ok (.iconst 2, 1) := by decide +kernel
theorem d_M_road_69 : decode me_M_road.2.1 69 = .ok (.iastore, 1) := by decide +kernel
theorem d_M_road_70 : decode me_M_road.2.1 70 = .ok (.aload_n 0, 1) := by decide +kernel
theorem d_M_road_71 : decode me_M_road.2.1 71 = .ok (.dup, 1) := by decide +kernel
theorem d_M_road_72 : decode me_M_road.2.1 72 = .ok (.getfield 109, 3) := by decide +kernel
theorem d_M_road_75 : decode me_M_road.2.1 75 = .ok (.iconst 1, 1) := by decide +kernel
theorem d_M_road_76 : decode me_M_road.2.1 76 = .ok (.iadd, 1) := by decide +kernel
theorem d_M_road_77 : decode me_M_road.2.1 77 = .ok (.putfield 109, 3) := by decide +kernel
theorem d_M_road_80 : decode me_M_road.2.1 80 = .ok (.aload_n 0, 1) := by decide +kernel
theorem d_M_road_81 : decode me_M_road.2.1 81 = .ok (.getfield 109, 3) := by decide +kernel
theorem d_M_road_84 : decode me_M_road.2.1 84 = .ok (.iconst 1, 1) := by decide +kernel
theorem d_M_road_85 : decode me_M_road.2.1 85 = .ok (.isub, 1) := by decide +kernel
theorem d_M_road_86 : decode me_M_road.2.1 86 = .ok (.ireturn, 1) := by decide +kernel
noncomputable def f_M_road  (a1 : Int32) (a2 : Int32) (m0 : gk_M) : Option (Int32 × gk_M) :=
  gk_bi (f_M_isPoint a1 m0) fun v2 m1 =>
  if v2 = 0 then
    some ((-1), m1)
  else
    gk_bi (f_M_isPoint a2 m1) fun v4 m3 =>
    if v4 = 0 then
      some ((-1), m3)
    else
      if ¬ a1 = a2 then
        if ¬ (m3.1 0 10) = 4 then
          gk_si m3 9 28 (7 * (m3.1 0 10)) a1 fun m5 =>
          gk_si m5 9 28 ((7 * (m5.1 0 10)) + 1) a2 fun m6 =>
          gk_si m6 8 4 (m6.1 0 10) 2 fun m7 =>
          gk_let (gk_mi m7 0 10 ((m7.1 0 10) + 1)) fun m8 =>
          some (((m8.1 0 10) - 1), m8)
        else
          some ((-3), m3)
      else
        some ((-1), m3)

theorem s_M_road_0 {z : gk_Z} (K : gk_F tm z me_M_road 3) {r : Int32} {mem2 : gk_M} : ∀ a1 a2 m0, f_M_road a1 a2 m0 = some (r, mem2) → gk_G tm z me_M_road (gk_R tm z (some (.int r)) mem2) m0 [(0, .ref 0), (1, .int a1), (2, .int a2)] [] 0 := by
  intro a1 a2 m0  h
  unfold f_M_road at h
  refine gk_iload_n (pc := 0) K d_M_road_0 rfl ?_
  obtain ⟨v2, m1, em1, h⟩ := gk_bi_some h
  refine gk_cSi (As := [.int a1]) (pc := 1) K d_M_road_1 ms_M_133 mc_M_isPoint rfl (s_M_isPoint (gk_FD K)  em1) (by decide) rfl (Nat.le_of_ble_eq_true rfl) ?_
  refine gk_if_eq (tgt := 19) (pc := 4) K d_M_road_4 (by decide) h (fun h => ?_) (fun h => ?_)
  · refine gk_iconst (pc := 19) K d_M_road_19 kc_m1 ?_
    exact gk_iret (pc := 20) K d_M_road_20 rfl h
  · refine gk_iload_n (pc := 7) K d_M_road_7 rfl ?_
    obtain ⟨v4, m3, em3, h⟩ := gk_bi_some h
    refine gk_cSi (As := [.int a2]) (pc := 8) K d_M_road_8 ms_M_133 mc_M_isPoint rfl (s_M_isPoint (gk_FD K)  em3) (by decide) rfl (Nat.le_of_ble_eq_true rfl) ?_
    refine gk_if_eq (tgt := 19) (pc := 11) K d_M_road_11 (by decide) h (fun h => ?_) (fun h => ?_)
    · refine gk_iconst (pc := 19) K d_M_road_19 kc_m1 ?_
      exact gk_iret (pc := 20) K d_M_road_20 rfl h
    · refine gk_iload_n (pc := 14) K d_M_road_14 rfl ?_
      refine gk_iload_n (pc := 15) K d_M_road_15 rfl ?_
      refine gk_ic_ne (tgt := 21) (pc := 16) K d_M_road_16 (by decide) h (fun h => ?_) (fun h => ?_)
      · refine gk_aload_n (pc := 21) K d_M_road_21 rfl ?_
        refine gk_get (pc := 22) K d_M_road_22 fl_M_109 tm_0 rfl rfl ?_
        refine gk_iconst (pc := 25) K d_M_road_25 kc_4 ?_
        refine gk_ic_ne (tgt := 32) (pc := 26) K d_M_road_26 (by decide) h (fun h => ?_) (fun h => ?_)
        · refine gk_aload_n (pc := 32) K d_M_road_32 rfl ?_
          refine gk_get (pc := 33) K d_M_road_33 fl_M_34 tm_0 rfl rfl ?_
          refine gk_bipush (pc := 36) K d_M_road_36 kb_7 ?_
          refine gk_aload_n (pc := 38) K d_M_road_38 rfl ?_
          refine gk_get (pc := 39) K d_M_road_39 fl_M_109 tm_0 rfl rfl ?_
          refine gk_imul (pc := 42) K d_M_road_42 ?_
          refine gk_iload_n (pc := 43) K d_M_road_43 rfl ?_
          refine gk_iast (pc := 44) K d_M_road_44 tm_9 h (fun m5 h => ?_)
          refine gk_aload_n (pc := 45) K d_M_road_45 rfl ?_
          refine gk_get (pc := 46) K d_M_road_46 fl_M_34 tm_0 rfl rfl ?_
          refine gk_bipush (pc := 49) K d_M_road_49 kb_7 ?_
          refine gk_aload_n (pc := 51) K d_M_road_51 rfl ?_
          refine gk_get (pc := 52) K d_M_road_52 fl_M_109 tm_0 rfl rfl ?_
          refine gk_imul (pc := 55) K d_M_road_55 ?_
          refine gk_iconst (pc := 56) K d_M_road_56 kc_1 ?_
          refine gk_iadd (pc := 57) K d_M_road_57 ?_
          refine gk_iload_n (pc := 58) K d_M_road_58 rfl ?_
          refine gk_iast (pc := 59) K d_M_road_59 tm_9 h (fun m6 h => ?_)
          refine gk_aload_n (pc := 60) K d_M_road_60 rfl ?_
          refine gk_get (pc := 61) K d_M_road_61 fl_M_31 tm_0 rfl rfl ?_
          refine gk_aload_n (pc := 64) K d_M_road_64 rfl ?_
          refine gk_get (pc := 65) K d_M_road_65 fl_M_109 tm_0 rfl rfl ?_
          refine gk_iconst (pc := 68) K d_M_road_68 kc_2 ?_
          refine gk_iast (pc := 69) K d_M_road_69 tm_8 h (fun m7 h => ?_)
          refine gk_aload_n (pc := 70) K d_M_road_70 rfl ?_
          refine gk_dup (pc := 71) K d_M_road_71 rfl ?_
          refine gk_get (pc := 72) K d_M_road_72 fl_M_109 tm_0 rfl rfl ?_
          refine gk_iconst (pc := 75) K d_M_road_75 kc_1 ?_
          refine gk_iadd (pc := 76) K d_M_road_76 ?_
          refine gk_puti (pc := 77) K d_M_road_77 fp_M_109 tm_0 rfl h (fun m8 h => ?_)
          refine gk_aload_n (pc := 80) K d_M_road_80 rfl ?_
          refine gk_get (pc := 81) K d_M_road_81 fl_M_109 tm_0 rfl rfl ?_
          refine gk_iconst (pc := 84) K d_M_road_84 kc_1 ?_
          refine gk_isub (pc := 85) K d_M_road_85 ?_
          exact gk_iret (pc := 86) K d_M_road_86 rfl h
        · refine gk_bipush (pc := 29) K d_M_road_29 kb_m3 ?_
          exact gk_iret (pc := 31) K d_M_road_31 rfl h
      · refine gk_iconst (pc := 19) K d_M_road_19 kc_m1 ?_
        exact gk_iret (pc := 20) K d_M_road_20 rfl h
theorem s_M_road {l : Launch} {u : gk_U} (hD : gk_D tm u) {a1 : Int32} {a2 : Int32} {m0 mem2 : gk_M} {r : Int32} (h : f_M_road a1 a2 m0 = some (r, mem2)) : gk_C tm l u me_M_road 3 [.ref 0, .int a1, .int a2] m0 (some (.int r)) mem2 :=
  gk_enter hD mc_M_road (Nat.le_of_ble_eq_true rfl) rfl (fun z _ _ K => s_M_road_0 K _ _ _  h)
theorem d_M_isRoad_0 : decode me_M_isRoad.2.1 0 = .ok (.iload_n 1, 1) := by decide +kernel
theorem d_M_isRoad_1 : decode me_M_isRoad.2.1 1 = .ok (.i2l, 1) := by decide +kernel
theorem d_M_isRoad_2 : decode me_M_isRoad.2.1 2 = .ok (.lconst 0, 1) := by decide +kernel
theorem d_M_isRoad_3 : decode me_M_isRoad.2.1 3 = .ok (.aload_n 0, 1) := by decide +kernel
theorem d_M_isRoad_4 : decode me_M_isRoad.2.1 4 = .ok (.getfield 109, 3) := by decide +kernel
theorem d_M_isRoad_7 : decode me_M_isRoad.2.1 7 = .ok (.iconst 1, 1) := by decide +kernel
theorem d_M_isRoad_8 : decode me_M_isRoad.2.1 8 = .ok (.isub, 1) := by decide +kernel
theorem d_M_isRoad_9 : decode me_M_isRoad.2.1 9 = .ok (.i2l, 1) := by decide +kernel
theorem d_M_isRoad_10 : decode me_M_isRoad.2.1 10 = .ok (.invokestatic 102, 3) := by decide +kernel
theorem d_M_isRoad_13 : decode me_M_isRoad.2.1 13 = .ok (.ireturn, 1) := by decide +kernel
noncomputable def f_M_isRoad  (a1 : Int32) (m0 : gk_M) : Option (Int32 × gk_M) :=
  gk_bi (f_M_within a1.toInt64 0 ((m0.1 0 10) - 1).toInt64 m0) fun v2 m1 =>
  gk_zz v2 (some (v2, m1))

theorem s_M_isRoad_0 {z : gk_Z} (K : gk_F tm z me_M_isRoad 2) {r : Int32} {mem2 : gk_M} : ∀ a1 m0, f_M_isRoad a1 m0 = some (r, mem2) → gk_G tm z me_M_isRoad (gk_R tm z (some (.int r)) mem2) m0 [(0, .ref 0), (1, .int a1)] [] 0 := by
  intro a1 m0  h
  unfold f_M_isRoad at h
  refine gk_iload_n (pc := 0) K d_M_isRoad_0 rfl ?_
  refine gk_i2l (pc := 1) K d_M_isRoad_1 ?_
  refine gk_lconst (pc := 2) K d_M_isRoad_2 kl_0 ?_
  refine gk_aload_n (pc := 3) K d_M_isRoad_3 rfl ?_
  refine gk_get (pc := 4) K d_M_isRoad_4 fl_M_109 tm_0 rfl rfl ?_
  refine gk_iconst (pc := 7) K d_M_isRoad_7 kc_1 ?_
  refine gk_isub (pc := 8) K d_M_isRoad_8 ?_
  refine gk_i2l (pc := 9) K d_M_isRoad_9 ?_
  obtain ⟨v2, m1, em1, h⟩ := gk_bi_some h
  refine gk_cSi (As := [.long a1.toInt64, .long 0, .long ((m0.1 0 10) - 1).toInt64]) (pc := 10) K d_M_isRoad_10 ms_M_102 mc_M_within rfl (s_M_within (gk_FD K)  em1) (by decide) rfl (Nat.le_of_ble_eq_true rfl) ?_
  exact gk_zret (pc := 13) K d_M_isRoad_13 rfl h
theorem s_M_isRoad {l : Launch} {u : gk_U} (hD : gk_D tm u) {a1 : Int32} {m0 mem2 : gk_M} {r : Int32} (h : f_M_isRoad a1 m0 = some (r, mem2)) : gk_C tm l u me_M_isRoad 2 [.ref 0, .int a1] m0 (some (.int r)) mem2 :=
  gk_enter hD mc_M_isRoad (Nat.le_of_ble_eq_true rfl) rfl (fun z _ _ K => s_M_isRoad_0 K _ _  h)
theorem d_M_corner_0 : decode me_M_corner.2.1 0 = .ok (.aload_n 0, 1) := by decide +kernel
theorem d_M_corner_1 : decode me_M_corner.2.1 1 = .ok (.iload_n 1, 1) := by decide +kernel
theorem d_M_corner_2 : decode me_M_corner.2.1 2 = .ok (.invokevirtual 136, 3) := by decide +kernel
theorem d_M_corner_5 : decode me_M_corner.2.1 5 = .ok (.ifCond .eq 32, 3) := by decide +kernel
theorem d_M_corner_8 : decode me_M_corner.2.1 8 = .ok (.iload_n 2, 1) := by decide +kernel
theorem d_M_corner_9 : decode me_M_corner.2.1 9 = .ok (.invokestatic 133, 3) := by decide +kernel
theorem d_M_corner_12 : decode me_M_corner.2.1 12 = .ok (.ifCond .eq 25, 3) := by decide +kernel
theorem d_M_corner_15 : decode me_M_corner.2.1 15 = .ok (.aload_n 0, 1) := by decide +kernel
theorem d_M_corner_16 : decode me_M_corner.2.1 16 = .ok (.getfield 34, 3) := by decide +kernel
theorem d_M_corner_19 : decode me_M_corner.2.1 19 = .ok (.bipush 7, 2) := by decide +kernel
theorem d_M_corner_21 : decode me_M_corner.2.1 21 = .ok (.iload_n 1, 1) := by decide +kernel
theorem d_M_corner_22 : decode me_M_corner.2.1 22 = .ok (.imul, 1) := by decide +kernel
theorem d_M_corner_23 : decode me_M_corner.2.1 23 = .ok (.aload_n 0, 1) := by decide +kernel
theorem d_M_corner_24 : decode me_M_corner.2.1 24 = .ok (.getfield 31, 3) := by decide +kernel
theorem d_M_corner_27 : decode me_M_corner.2.1 27 = .ok (.iload_n 1, 1) := by decide +kernel
theorem d_M_corner_28 : decode me_M_corner.2.1 28 = .ok (.iaload, 1) := by decide +kernel
theorem d_M_corner_29 : decode me_M_corner.2.1 29 = .ok (.iadd, 1) := by decide +kernel
theorem d_M_corner_30 : decode me_M_corner.2.1 30 = .ok (.iconst 1, 1) := by decide +kernel
theorem d_M_corner_31 : decode me_M_corner.2.1 31 = .ok (.isub, 1) := by decide +kernel
theorem d_M_corner_32 : decode me_M_corner.2.1 32 = .ok (.iaload, 1) := by decide +kernel
theorem d_M_corner_33 : decode me_M_corner.2.1 33 = .ok (.iload_n 2, 1) := by decide +kernel
theorem d_M_corner_34 : decode me_M_corner.2.1 34 = .ok (.if_icmp .ne 5, 3) := by decide +kernel
theorem d_M_corner_37 : decode me_M_corner.2.1 37 = .ok (.iconst (-1), 1) := by decide +kernel
theorem d_M_corner_38 : decode me_M_corner.2.1 38 = .ok (.ireturn, 1) := by decide +kernel
theorem d_M_corner_39 : decode me_M_corner.2.1 39 = .ok (.aload_n 0, 1) := by decide +kernel
theorem d_M_corner_40 : decode me_M_corner.2.1 40 = .ok (.getfield 31, 3) := by decide +kernel
theorem d_M_corner_43 : decode me_M_corner.2.1 43 = .ok (.iload_n 1, 1) := by decide +kernel
theorem d_M_corner_44 : decode me_M_corner.2.1 44 = .ok (.iaload, 1) := by decide +kernel
theorem d_M_corner_45 : decode me_M_corner.2.1 45 = .ok (.bipush 6, 2) := by decide +kernel
theorem d_M_corner_47 : decode me_M_corner.2.1 47 = .ok (.if_icmp .ne 6, 3) := by decide +kernel
theorem d_M_corner_50 : decode me_M_corner.2.1 50 = .ok (.bipush (-3), 2) := by decide +kernel
theorem d_M_corner_52 : decode me_M_corner.2.1 52 = .ok (.ireturn, 1) := by decide +kernel
theorem d_M_corner_53 : decode me_M_corner.2.1 53 = .ok (.aload_n 0, 1) := by decide +kernel
theorem d_M_corner_54 : decode me_M_corner.2.1 54 = .ok (.getfield 34, 3) := by decide +kernel
theorem d_M_corner_57 : decode me_M_corner.2.1 57 = .ok (.bipush 7, 2) := by decide +kernel
theorem d_M_corner_59 : decode me_M_corner.2.1 59 = .ok (.iload_n 1, 1) := by decide +kernel
theorem d_M_corner_60 : decode me_M_corner.2.1 60 = .ok (.imul, 1) := by decide +kernel
theorem d_M_corner_61 : decode me_M_corner.2.1 61 = .ok (.aload_n 0, 1) := by decide +kernel
theorem d_M_corner_62 : decode me_M_corner.2.1 62 = .ok (.getfield 31, 3) := by decide +kernel
theorem d_M_corner_65 : decode me_M_corner.2.1 65 = .ok (.iload_n 1, 1) := by decide +kernel
theorem d_M_corner_66 : decode me_M_corner.2.1 66 = .ok (.iaload, 1) := by decide +kernel
theorem d_M_corner_67 : decode me_M_corner.2.1 67 = .ok (.iadd, 1) := by decide +kernel
theorem d_M_corner_68 : decode me_M_corner.2.1 68 = .ok (.iload_n 2, 1) := by decide +kernel
theorem d_M_corner_69 : decode me_M_corner.2.1 69 = .ok (.iastore, 1) := by decide +kernel
theorem d_M_corner_70 : decode me_M_corner.2.1 70 = .ok (.aload_n 0, 1) := by decide +kernel
theorem d_M_corner_71 : decode me_M_corner.2.1 71 = .ok (.getfield 31, 3) := by decide +kernel
theorem d_M_corner_74 : decode me_M_corner.2.1 74 = .ok (.iload_n 1, 1) := by decide +kernel
theorem d_M_corner_75 : decode me_M_corner.2.1 75 = .ok (.dup2, 1) := by decide +kernel
theorem d_M_corner_76 : decode me_M_corner.2.1 76 = .ok (.iaload, 1) := by decide +kernel
theorem d_M_corner_77 : decode me_M_corner.2.1 77 = .ok (.iconst 1, 1) := by decide +kernel
theorem d_M_corner_78 : decode me_M_corner.2.1 78 = .ok (.iadd, 1) := by decide +kernel
theorem d_M_corner_79 : decode me_M_corner.2.1 79 = .ok (.iastore, 1) := by decide +kernel
theorem d_M_corner_80 : decode me_M_corner.2.1 80 = .ok (.aload_n 0, 1) := by decide +kernel
theorem d_M_corner_81 : decode me_M_corner.2.1 81 = .ok (.getfield 31, 3) := by decide +kernel
theorem d_M_corner_84 : decode me_M_corner.2.1 84 = .ok (.iload_n 1, 1) := by decide +kernel
theorem d_M_corner_85 : decode me_M_corner.2.1 85 = .ok (.iaload, 1) := by decide +kernel
theorem d_M_corner_86 : decode me_M_corner.2.1 86 = .ok (.ireturn, 1) := by decide +kernel
noncomputable def f_M_corner  (a1 : Int32) (a2 : Int32) (m0 : gk_M) : Option (Int32 × gk_M) :=
  gk_bi (f_M_isRoad a1 m0) fun v2 m1 =>
  if v2 = 0 then
    some ((-1), m1)
  else
    gk_bi (f_M_isPoint a2 m1) fun v4 m3 =>
    if v4 = 0 then
      some ((-1), m3)
    else
      gk_ai m3 8 4 a1 fun v5 =>
      gk_ai m3 9 28 (((7 * a1) + v5) - 1) fun v6 =>
      if ¬ v6 = a2 then
        gk_ai m3 8 4 a1 fun v7 =>
        if ¬ v7 = 6 then
          gk_ai m3 8 4 a1 fun v8 =>
          gk_si m3 9 28 ((7 * a1) + v8) a2 fun m9 =>
          gk_ai m9 8 4 a1 fun v10 =>
          gk_si m9 8 4 a1 (v10 + 1) fun m11 =>
          gk_ai m11 8 4 a1 fun v12 =>
          some (v12, m11)
        else
          some ((-3), m3)
      else
        some ((-1), m3)

theorem s_M_corner_0 {z : gk_Z} (K : gk_F tm z me_M_corner 3) {r : Int32} {mem2 : gk_M} : ∀ a1 a2 m0, f_M_corner a1 a2 m0 = some (r, mem2) → gk_G tm z me_M_corner (gk_R tm z (some (.int r)) mem2) m0 [(0, .ref 0), (1, .int a1), (2, .int a2)] [] 0 := by
  intro a1 a2 m0  h
  unfold f_M_corner at h
  refine gk_aload_n (pc := 0) K d_M_corner_0 rfl ?_
  refine gk_iload_n (pc := 1) K d_M_corner_1 rfl ?_
  obtain ⟨v2, m1, em1, h⟩ := gk_bi_some h
  refine gk_cVi (As := [.int a1]) (pc := 2) K d_M_corner_2 mv_M_136 mc_M_isRoad rfl tm_0 cl_ok10.1 (s_M_isRoad (gk_FD K)  em1) (by decide) rfl (Nat.le_of_ble_eq_true rfl) ?_
  refine gk_if_eq (tgt := 37) (pc := 5) K d_M_corner_5 (by decide) h (fun h => ?_) (fun h => ?_)
  · refine gk_iconst (pc := 37) K d_M_corner_37 kc_m1 ?_
    exact gk_iret (pc := 38) K d_M_corner_38 rfl h
  · refine gk_iload_n (pc := 8) K d_M_corner_8 rfl ?_
    obtain ⟨v4, m3, em3, h⟩ := gk_bi_some h
    refine gk_cSi (As := [.int a2]) (pc := 9) K d_M_corner_9 ms_M_133 mc_M_isPoint rfl (s_M_isPoint (gk_FD K)  em3) (by decide) rfl (Nat.le_of_ble_eq_true rfl) ?_
    refine gk_if_eq (tgt := 37) (pc := 12) K d_M_corner_12 (by decide) h (fun h => ?_) (fun h => ?_)
    · refine gk_iconst (pc := 37) K d_M_corner_37 kc_m1 ?_
      exact gk_iret (pc := 38) K d_M_corner_38 rfl h
    · refine gk_aload_n (pc := 15) K d_M_corner_15 rfl ?_
      refine gk_get (pc := 16) K d_M_corner_16 fl_M_34 tm_0 rfl rfl ?_
      refine gk_bipush (pc := 19) K d_M_corner_19 kb_7 ?_
      refine gk_iload_n (pc := 21) K d_M_corner_21 rfl ?_
      refine gk_imul (pc := 22) K d_M_corner_22 ?_
      refine gk_aload_n (pc := 23) K d_M_corner_23 rfl ?_
      refine gk_get (pc := 24) K d_M_corner_24 fl_M_31 tm_0 rfl rfl ?_
      refine gk_iload_n (pc := 27) K d_M_corner_27 rfl ?_
      refine gk_iald (pc := 28) K d_M_corner_28 tm_8 h (fun v5 h => ?_)
      refine gk_iadd (pc := 29) K d_M_corner_29 ?_
      refine gk_iconst (pc := 30) K d_M_corner_30 kc_1 ?_
      refine gk_isub (pc := 31) K d_M_corner_31 ?_
      refine gk_iald (pc := 32) K d_M_corner_32 tm_9 h (fun v6 h => ?_)
      refine gk_iload_n (pc := 33) K d_M_corner_33 rfl ?_
      refine gk_ic_ne (tgt := 39) (pc := 34) K d_M_corner_34 (by decide) h (fun h => ?_) (fun h => ?_)
      · refine gk_aload_n (pc := 39) K d_M_corner_39 rfl ?_
        refine gk_get (pc := 40) K d_M_corner_40 fl_M_31 tm_0 rfl rfl ?_
        refine gk_iload_n (pc := 43) K d_M_corner_43 rfl ?_
        refine gk_iald (pc := 44) K d_M_corner_44 tm_8 h (fun v7 h => ?_)
        refine gk_bipush (pc := 45) K d_M_corner_45 kb_6 ?_
        refine gk_ic_ne (tgt := 53) (pc := 47) K d_M_corner_47 (by decide) h (fun h => ?_) (fun h => ?_)
        · refine gk_aload_n (pc := 53) K d_M_corner_53 rfl ?_
          refine gk_get (pc := 54) K d_M_corner_54 fl_M_34 tm_0 rfl rfl ?_
          refine gk_bipush (pc := 57) K d_M_corner_57 kb_7 ?_
          refine gk_iload_n (pc := 59) K d_M_corner_59 rfl ?_
          refine gk_imul (pc := 60) K d_M_corner_60 ?_
          refine gk_aload_n (pc := 61) K d_M_corner_61 rfl ?_
          refine gk_get (pc := 62) K d_M_corner_62 fl_M_31 tm_0 rfl rfl ?_
          refine gk_iload_n (pc := 65) K d_M_corner_65 rfl ?_
          refine gk_iald (pc := 66) K d_M_corner_66 tm_8 h (fun v8 h => ?_)
          refine gk_iadd (pc := 67) K d_M_corner_67 ?_
          refine gk_iload_n (pc := 68) K d_M_corner_68 rfl ?_
          refine gk_iast (pc := 69) K d_M_corner_69 tm_9 h (fun m9 h => ?_)
          refine gk_aload_n (pc := 70) K d_M_corner_70 rfl ?_
          refine gk_get (pc := 71) K d_M_corner_71 fl_M_31 tm_0 rfl rfl ?_
          refine gk_iload_n (pc := 74) K d_M_corner_74 rfl ?_
          refine gk_dup2 (pc := 75) K d_M_corner_75 rfl rfl ?_
          refine gk_iald (pc := 76) K d_M_corner_76 tm_8 h (fun v10 h => ?_)
          refine gk_iconst (pc := 77) K d_M_corner_77 kc_1 ?_
          refine gk_iadd (pc := 78) K d_M_corner_78 ?_
          refine gk_iast (pc := 79) K d_M_corner_79 tm_8 h (fun m11 h => ?_)
          refine gk_aload_n (pc := 80) K d_M_corner_80 rfl ?_
          refine gk_get (pc := 81) K d_M_corner_81 fl_M_31 tm_0 rfl rfl ?_
          refine gk_iload_n (pc := 84) K d_M_corner_84 rfl ?_
          refine gk_iald (pc := 85) K d_M_corner_85 tm_8 h (fun v12 h => ?_)
          exact gk_iret (pc := 86) K d_M_corner_86 rfl h
        · refine gk_bipush (pc := 50) K d_M_corner_50 kb_m3 ?_
          exact gk_iret (pc := 52) K d_M_corner_52 rfl h
      · refine gk_iconst (pc := 37) K d_M_corner_37 kc_m1 ?_
        exact gk_iret (pc := 38) K d_M_corner_38 rfl h
theorem s_M_corner {l : Launch} {u : gk_U} (hD : gk_D tm u) {a1 : Int32} {a2 : Int32} {m0 mem2 : gk_M} {r : Int32} (h : f_M_corner a1 a2 m0 = some (r, mem2)) : gk_C tm l u me_M_corner 3 [.ref 0, .int a1, .int a2] m0 (some (.int r)) mem2 :=
  gk_enter hD mc_M_corner (Nat.le_of_ble_eq_true rfl) rfl (fun z _ _ K => s_M_corner_0 K _ _ _  h)
theorem d_M_forest_0 : decode me_M_forest.2.1 0 = .ok (.iload_n 1, 1) := by decide +kernel
theorem d_M_forest_1 : decode me_M_forest.2.1 1 = .ok (.invokestatic 133, 3) := by decide +kernel
theorem d_M_forest_4 : decode me_M_forest.2.1 4 = .ok (.ifCond .eq 15, 3) := by decide +kernel
theorem d_M_forest_7 : decode me_M_forest.2.1 7 = .ok (.iload_n 2, 1) := by decide +kernel
theorem d_M_forest_8 : decode me_M_forest.2.1 8 = .ok (.invokestatic 133, 3) := by decide +kernel
theorem d_M_forest_11 : decode me_M_forest.2.1 11 = .ok (.ifCond .eq 8, 3) := by decide +kernel
theorem d_M_forest_14 : decode me_M_forest.2.1 14 = .ok (.iload_n 1, 1) := by decide +kernel
theorem d_M_forest_15 : decode me_M_forest.2.1 15 = .ok (.iload_n 2, 1) := by decide +kernel
theorem d_M_forest_16 : decode me_M_forest.2.1 16 = .ok (.if_icmp .ne 5, 3) := by decide +kernel
theorem d_M_forest_19 : decode me_M_forest.2.1 19 = .ok (.iconst (-1), 1) := by decide +kernel
theorem d_M_forest_20 : decode me_M_forest.2.1 20 = .ok (.ireturn, 1) := by decide +kernel
theorem d_M_forest_21 : decode me_M_forest.2.1 21 = .ok (.aload_n 0, 1) := by decide +kernel
theorem d_M_forest_22 : decode me_M_forest.2.1 22 = .ok (.getfield 139, 3) := by decide +kernel
theorem d_M_forest_25 : decode me_M_forest.2.1 25 = .ok (.bipush 8, 2) := by decide +kernel
theorem d_M_forest_27 : decode me_M_forest.2.1 27 = .ok (.if_icmp .ne 6, 3) := by decide +kernel
theorem d_M_forest_30 : decode me_M_forest.2.1 30 = .ok (.bipush (-3), 2) := by decide +kernel
theorem d_M_forest_32 : decode me_M_forest.2.1 32 = .ok (.ireturn, 1) := by decide +kernel
theorem d_M_forest_33 : decode me_M_forest.2.1 33 = .ok (.aload_n 0, 1) := by decide +kernel
theorem d_M_forest_34 : decode me_M_forest.2.1 34 = .ok (.getfield 37, 3) := by decide +kernel
theorem d_M_forest_37 : decode me_M_forest.2.1 37 = .ok (.iconst 2, 1) := by decide +kernel
theorem d_M_forest_38 : decode me_M_forest.2.1 38 = .ok (.aload_n 0, 1) := by decide +kernel
theorem d_M_forest_39 : decode me_M_forest.2.1 39 = .ok (.getfield 139, 3) := by decide +kernel
theorem d_M_forest_42 : decode me_M_forest.2.1 42 = .ok (.imul, 1) := by decide +kernel
theorem d_M_forest_43 : decode me_M_forest.2.1 43 = .ok (.iload_n 1, 1) := by decide +kernel
theorem d_M_forest_44 : decode me_M_forest.2.1 44 = .ok (.iastore, 1) := by decide +kernel
theorem d_M_forest_45 : decode me_M_forest.2.1 45 = .ok (.aload_n 0, 1) := by decide +kernel
theorem d_M_forest_46 : decode me_M_forest.2.1 46 = .ok (.getfield 37, 3) := by decide +kernel
theorem d_M_forest_49 : decode me_M_forest.2.1 49 = .ok (.iconst 2, 1) := by decide +kernel
theorem d_M_forest_50 : decode me_M_forest.2.1 50 = .ok (.aload_n 0, 1) := by decide +kernel
theorem d_M_forest_51 : decode me_M_forest.2.1 51 = .ok (.getfield 139, 3) := by decide +kernel
theorem d_M_forest_54 : decode me_M_forest.2.1 54 = .ok (.imul, 1) := by decide +kernel
theorem d_M_forest_55 : decode me_M_forest.2.1 55 = .ok (.iconst 1, 1) := by decide +kernel
theorem d_M_forest_56 : decode me_M_forest.2.1 56 = .ok (.iadd, 1) := by decide +kernel
theorem d_M_forest_57 : decode me_M_forest.2.1 57 = .ok (.iload_n 2, 1) := by decide +kernel
theorem d_M_forest_58 : decode me_M_forest.2.1 58 = .ok (.iastore, 1) := by decide +kernel
theorem d_M_forest_59 : decode me_M_forest.2.1 59 = .ok (.aload_n 0, 1) := by decide +kernel
theorem d_M_forest_60 : decode me_M_forest.2.1 60 = .ok (.dup, 1) := by decide +kernel
theorem d_M_forest_61 : decode me_M_forest.2.1 61 = .ok (.getfield 139, 3) := by decide +kernel
theorem d_M_forest_64 : decode me_M_forest.2.1 64 = .ok (.iconst 1, 1) := by decide +kernel
theorem d_M_forest_65 : decode me_M_forest.2.1 65 = .ok (.iadd, 1) := by decide +kernel
theorem d_M_forest_66 : decode me_M_forest.2.1 66 = .ok (.putfield 139, 3) := by decide +kernel
theorem d_M_forest_69 : decode me_M_forest.2.1 69 = .ok (.aload_n 0, 1) := by decide +kernel
theorem d_M_forest_70 : decode me_M_forest.2.1 70 = .ok (.getfield 139, 3) := by decide +kernel
theorem d_M_forest_73 : decode me_M_forest.2.1 73 = .ok (.iconst 1, 1) := by decide +kernel
theorem d_M_forest_74 : decode me_M_forest.2.1 74 = .ok (.isub, 1) := by decide +kernel
theorem d_M_forest_75 : decode me_M_forest.2.1 75 = .ok (.ireturn, 1) := by decide +kernel
noncomputable def f_M_forest  (a1 : Int32) (a2 : Int32) (m0 : gk_M) : Option (Int32 × gk_M) :=
  gk_bi (f_M_isPoint a1 m0) fun v2 m1 =>
  if v2 = 0 then
    some ((-1), m1)
  else
    gk_bi (f_M_isPoint a2 m1) fun v4 m3 =>
    if v4 = 0 then
      some ((-1), m3)
    else
      if ¬ a1 = a2 then
        if ¬ (m3.1 0 13) = 8 then
          gk_si m3 10 16 (2 * (m3.1 0 13)) a1 fun m5 =>
          gk_si m5 10 16 ((2 * (m5.1 0 13)) + 1) a2 fun m6 =>
          gk_let (gk_mi m6 0 13 ((m6.1 0 13) + 1)) fun m7 =>
          some (((m7.1 0 13) - 1), m7)
        else
          some ((-3), m3)
      else
        some ((-1), m3)

theorem s_M_forest_0 {z : gk_Z} (K : gk_F tm z me_M_forest 3) {r : Int32} {mem2 : gk_M} : ∀ a1 a2 m0, f_M_forest a1 a2 m0 = some (r, mem2) → gk_G tm z me_M_forest (gk_R tm z (some (.int r)) mem2) m0 [(0, .ref 0), (1, .int a1), (2, .int a2)] [] 0 := by
  intro a1 a2 m0  h
  unfold f_M_forest at h
  refine gk_iload_n (pc := 0) K d_M_forest_0 rfl ?_
  obtain ⟨v2, m1, em1, h⟩ := gk_bi_some h
  refine gk_cSi (As := [.int a1]) (pc := 1) K d_M_forest_1 ms_M_133 mc_M_isPoint rfl (s_M_isPoint (gk_FD K)  em1) (by decide) rfl (Nat.le_of_ble_eq_true rfl) ?_
  refine gk_if_eq (tgt := 19) (pc := 4) K d_M_forest_4 (by decide) h (fun h => ?_) (fun h => ?_)
  · refine gk_iconst (pc := 19) K d_M_forest_19 kc_m1 ?_
    exact gk_iret (pc := 20) K d_M_forest_20 rfl h
  · refine gk_iload_n (pc := 7) K d_M_forest_7 rfl ?_
    obtain ⟨v4, m3, em3, h⟩ := gk_bi_some h
    refine gk_cSi (As := [.int a2]) (pc := 8) K d_M_forest_8 ms_M_133 mc_M_isPoint rfl (s_M_isPoint (gk_FD K)  em3) (by decide) rfl (Nat.le_of_ble_eq_true rfl) ?_
    refine gk_if_eq (tgt := 19) (pc := 11) K d_M_forest_11 (by decide) h (fun h => ?_) (fun h => ?_)
    · refine gk_iconst (pc := 19) K d_M_forest_19 kc_m1 ?_
      exact gk_iret (pc := 20) K d_M_forest_20 rfl h
    · refine gk_iload_n (pc := 14) K d_M_forest_14 rfl ?_
      refine gk_iload_n (pc := 15) K d_M_forest_15 rfl ?_
      refine gk_ic_ne (tgt := 21) (pc := 16) K d_M_forest_16 (by decide) h (fun h => ?_) (fun h => ?_)
      · refine gk_aload_n (pc := 21) K d_M_forest_21 rfl ?_
        refine gk_get (pc := 22) K d_M_forest_22 fl_M_139 tm_0 rfl rfl ?_
        refine gk_bipush (pc := 25) K d_M_forest_25 kb_8 ?_
        refine gk_ic_ne (tgt := 33) (pc := 27) K d_M_forest_27 (by decide) h (fun h => ?_) (fun h => ?_)
        · refine gk_aload_n (pc := 33) K d_M_forest_33 rfl ?_
          refine gk_get (pc := 34) K d_M_forest_34 fl_M_37 tm_0 rfl rfl ?_
          refine gk_iconst (pc := 37) K d_M_forest_37 kc_2 ?_
          refine gk_aload_n (pc := 38) K d_M_forest_38 rfl ?_
          refine gk_get (pc := 39) K d_M_forest_39 fl_M_139 tm_0 rfl rfl ?_
          refine gk_imul (pc := 42) K d_M_forest_42 ?_
          refine gk_iload_n (pc := 43) K d_M_forest_43 rfl ?_
          refine gk_iast (pc := 44) K d_M_forest_44 tm_10 h (fun m5 h => ?_)
          refine gk_aload_n (pc := 45) K d_M_forest_45 rfl ?_
          refine gk_get (pc := 46) K d_M_forest_46 fl_M_37 tm_0 rfl rfl ?_
          refine gk_iconst (pc := 49) K d_M_forest_49 kc_2 ?_
          refine gk_aload_n (pc := 50) K d_M_forest_50 rfl ?_
          refine gk_get (pc := 51) K d_M_forest_51 fl_M_139 tm_0 rfl rfl ?_
          refine gk_imul (pc := 54) K d_M_forest_54 ?_
          refine gk_iconst (pc := 55) K d_M_forest_55 kc_1 ?_
          refine gk_iadd (pc := 56) K d_M_forest_56 ?_
          refine gk_iload_n (pc := 57) K d_M_forest_57 rfl ?_
          refine gk_iast (pc := 58) K d_M_forest_58 tm_10 h (fun m6 h => ?_)
          refine gk_aload_n (pc := 59) K d_M_forest_59 rfl ?_
          refine gk_dup (pc := 60) K d_M_forest_60 rfl ?_
          refine gk_get (pc := 61) K d_M_forest_61 fl_M_139 tm_0 rfl rfl ?_
          refine gk_iconst (pc := 64) K d_M_forest_64 kc_1 ?_
          refine gk_iadd (pc := 65) K d_M_forest_65 ?_
          refine gk_puti (pc := 66) K d_M_forest_66 fp_M_139 tm_0 rfl h (fun m7 h => ?_)
          refine gk_aload_n (pc := 69) K d_M_forest_69 rfl ?_
          refine gk_get (pc := 70) K d_M_forest_70 fl_M_139 tm_0 rfl rfl ?_
          refine gk_iconst (pc := 73) K d_M_forest_73 kc_1 ?_
          refine gk_isub (pc := 74) K d_M_forest_74 ?_
          exact gk_iret (pc := 75) K d_M_forest_75 rfl h
        · refine gk_bipush (pc := 30) K d_M_forest_30 kb_m3 ?_
          exact gk_iret (pc := 32) K d_M_forest_32 rfl h
      · refine gk_iconst (pc := 19) K d_M_forest_19 kc_m1 ?_
        exact gk_iret (pc := 20) K d_M_forest_20 rfl h
theorem s_M_forest {l : Launch} {u : gk_U} (hD : gk_D tm u) {a1 : Int32} {a2 : Int32} {m0 mem2 : gk_M} {r : Int32} (h : f_M_forest a1 a2 m0 = some (r, mem2)) : gk_C tm l u me_M_forest 3 [.ref 0, .int a1, .int a2] m0 (some (.int r)) mem2 :=
  gk_enter hD mc_M_forest (Nat.le_of_ble_eq_true rfl) rfl (fun z _ _ K => s_M_forest_0 K _ _ _  h)
theorem d_M_isTower_0 : decode me_M_isTower.2.1 0 = .ok (.iload_n 1, 1) := by decide +kernel
theorem d_M_isTower_1 : decode me_M_isTower.2.1 1 = .ok (.i2l, 1) := by decide +kernel
theorem d_M_isTower_2 : decode me_M_isTower.2.1 2 = .ok (.lconst 0, 1) := by decide +kernel
theorem d_M_isTower_3 : decode me_M_isTower.2.1 3 = .ok (.aload_n 0, 1) := by decide +kernel
theorem d_M_isTower_4 : decode me_M_isTower.2.1 4 = .ok (.getfield 106, 3) := by decide +kernel
theorem d_M_isTower_7 : decode me_M_isTower.2.1 7 = .ok (.iconst 1, 1) := by decide +kernel
theorem d_M_isTower_8 : decode me_M_isTower.2.1 8 = .ok (.isub, 1) := by decide +kernel
theorem d_M_isTower_9 : decode me_M_isTower.2.1 9 = .ok (.i2l, 1) := by decide +kernel
theorem d_M_isTower_10 : decode me_M_isTower.2.1 10 = .ok (.invokestatic 102, 3) := by decide +kernel
theorem d_M_isTower_13 : decode me_M_isTower.2.1 13 = .ok (.ireturn, 1) := by decide +kernel
noncomputable def f_M_isTower  (a1 : Int32) (m0 : gk_M) : Option (Int32 × gk_M) :=
  gk_bi (f_M_within a1.toInt64 0 ((m0.1 0 6) - 1).toInt64 m0) fun v2 m1 =>
  gk_zz v2 (some (v2, m1))

theorem s_M_isTower_0 {z : gk_Z} (K : gk_F tm z me_M_isTower 2) {r : Int32} {mem2 : gk_M} : ∀ a1 m0, f_M_isTower a1 m0 = some (r, mem2) → gk_G tm z me_M_isTower (gk_R tm z (some (.int r)) mem2) m0 [(0, .ref 0), (1, .int a1)] [] 0 := by
  intro a1 m0  h
  unfold f_M_isTower at h
  refine gk_iload_n (pc := 0) K d_M_isTower_0 rfl ?_
  refine gk_i2l (pc := 1) K d_M_isTower_1 ?_
  refine gk_lconst (pc := 2) K d_M_isTower_2 kl_0 ?_
  refine gk_aload_n (pc := 3) K d_M_isTower_3 rfl ?_
  refine gk_get (pc := 4) K d_M_isTower_4 fl_M_106 tm_0 rfl rfl ?_
  refine gk_iconst (pc := 7) K d_M_isTower_7 kc_1 ?_
  refine gk_isub (pc := 8) K d_M_isTower_8 ?_
  refine gk_i2l (pc := 9) K d_M_isTower_9 ?_
  obtain ⟨v2, m1, em1, h⟩ := gk_bi_some h
  refine gk_cSi (As := [.long a1.toInt64, .long 0, .long ((m0.1 0 6) - 1).toInt64]) (pc := 10) K d_M_isTower_10 ms_M_102 mc_M_within rfl (s_M_within (gk_FD K)  em1) (by decide) rfl (Nat.le_of_ble_eq_true rfl) ?_
  exact gk_zret (pc := 13) K d_M_isTower_13 rfl h
theorem s_M_isTower {l : Launch} {u : gk_U} (hD : gk_D tm u) {a1 : Int32} {m0 mem2 : gk_M} {r : Int32} (h : f_M_isTower a1 m0 = some (r, mem2)) : gk_C tm l u me_M_isTower 2 [.ref 0, .int a1] m0 (some (.int r)) mem2 :=
  gk_enter hD mc_M_isTower (Nat.le_of_ble_eq_true rfl) rfl (fun z _ _ K => s_M_isTower_0 K _ _  h)
theorem d_M_becomes_0 : decode me_M_becomes.2.1 0 = .ok (.aload_n 0, 1) := by decide +kernel
theorem d_M_becomes_1 : decode me_M_becomes.2.1 1 = .ok (.getfield 9, 3) := by decide +kernel
theorem d_M_becomes_4 : decode me_M_becomes.2.1 4 = .ok (.iload_n 1, 1) := by decide +kernel
theorem d_M_becomes_5 : decode me_M_becomes.2.1 5 = .ok (.iaload, 1) := by decide +kernel
theorem d_M_becomes_6 : decode me_M_becomes.2.1 6 = .ok (.istore_n 3, 1) := by decide +kernel
theorem d_M_becomes_7 : decode me_M_becomes.2.1 7 = .ok (.iload_n 3, 1) := by decide +kernel
theorem d_M_becomes_8 : decode me_M_becomes.2.1 8 = .ok (.iload_n 2, 1) := by decide +kernel
theorem d_M_becomes_9 : decode me_M_becomes.2.1 9 = .ok (.if_icmp .ne 5, 3) := by decide +kernel
theorem d_M_becomes_12 : decode me_M_becomes.2.1 12 = .ok (.iload_n 3, 1) := by decide +kernel
theorem d_M_becomes_13 : decode me_M_becomes.2.1 13 = .ok (.ireturn, 1) := by decide +kernel
theorem d_M_becomes_14 : decode me_M_becomes.2.1 14 = .ok (.aload_n 0, 1) := by decide +kernel
theorem d_M_becomes_15 : decode me_M_becomes.2.1 15 = .ok (.getfield 94, 3) := by decide +kernel
theorem d_M_becomes_18 : decode me_M_becomes.2.1 18 = .ok (.bipush 40, 2) := by decide +kernel
theorem d_M_becomes_20 : decode me_M_becomes.2.1 20 = .ok (.if_icmp .ne 77, 3) := by decide +kernel
theorem d_M_becomes_23 : decode me_M_becomes.2.1 23 = .ok (.iconst 1, 1) := by decide +kernel
theorem d_M_becomes_24 : decode me_M_becomes.2.1 24 = .ok (.istore 4, 2) := by decide +kernel
theorem d_M_becomes_26 : decode me_M_becomes.2.1 26 = .ok (.iload 4, 2) := by decide +kernel
theorem d_M_becomes_28 : decode me_M_becomes.2.1 28 = .ok (.bipush 40, 2) := by decide +kernel
theorem d_M_becomes_30 : decode me_M_becomes.2.1 30 = .ok (.if_icmp .ge 57, 3) := by decide +kernel
theorem d_M_becomes_33 : decode me_M_becomes.2.1 33 = .ok (.aload_n 0, 1) := by decide +kernel
theorem d_M_becomes_34 : decode me_M_becomes.2.1 34 = .ok (.getfield 13, 3) := by decide +kernel
theorem d_M_becomes_37 : decode me_M_becomes.2.1 37 = .ok (.iload 4, 2) := by decide +kernel
theorem d_M_becomes_39 : decode me_M_becomes.2.1 39 = .ok (.iconst 1, 1) := by decide +kernel
theorem d_M_becomes_40 : decode me_M_becomes.2.1 40 = .ok (.isub, 1) := by decide +kernel
theorem d_M_becomes_41 : decode me_M_becomes.2.1 41 = .ok (.aload_n 0, 1) := by decide +kernel
theorem d_M_becomes_42 : decode me_M_becomes.2.1 42 = .ok (.getfield 13, 3) := by decide +kernel
theorem d_M_becomes_45 : decode me_M_becomes.2.1 45 = .ok (.iload 4, 2) := by decide +kernel
theorem d_M_becomes_47 : decode me_M_becomes.2.1 47 = .ok (.iaload, 1) := by decide +kernel
theorem d_M_becomes_48 : decode me_M_becomes.2.1 48 = .ok (.iastore, 1) := by decide +kernel
theorem d_M_becomes_49 : decode me_M_becomes.2.1 49 = .ok (.aload_n 0, 1) := by decide +kernel
theorem d_M_becomes_50 : decode me_M_becomes.2.1 50 = .ok (.getfield 16, 3) := by decide +kernel
theorem d_M_becomes_53 : decode me_M_becomes.2.1 53 = .ok (.iload 4, 2) := by decide +kernel
theorem d_M_becomes_55 : decode me_M_becomes.2.1 55 = .ok (.iconst 1, 1) := by decide +kernel
theorem d_M_becomes_56 : decode me_M_becomes.2.1 56 = .ok (.isub, 1) := by decide +kernel
theorem d_M_becomes_57 : decode me_M_becomes.2.1 57 = .ok (.aload_n 0, 1) := by decide +kernel
theorem d_M_becomes_58 : decode me_M_becomes.2.1 58 = .ok (.getfield 16, 3) := by decide +kernel
theorem d_M_becomes_61 : decode me_M_becomes.2.1 61 = .ok (.iload 4, 2) := by decide +kernel
theorem d_M_becomes_63 : decode me_M_becomes.2.1 63 = .ok (.iaload, 1) := by decide +kernel
theorem d_M_becomes_64 : decode me_M_becomes.2.1 64 = .ok (.iastore, 1) := by decide +kernel
theorem d_M_becomes_65 : decode me_M_becomes.2.1 65 = .ok (.aload_n 0, 1) := by decide +kernel
theorem d_M_becomes_66 : decode me_M_becomes.2.1 66 = .ok (.getfield 19, 3) := by decide +kernel
theorem d_M_becomes_69 : decode me_M_becomes.2.1 69 = .ok (.iload 4, 2) := by decide +kernel
theorem d_M_becomes_71 : decode me_M_becomes.2.1 71 = .ok (.iconst 1, 1) := by decide +kernel
theorem d_M_becomes_72 : decode me_M_becomes.2.1 72 = .ok (.isub, 1) := by decide +kernel
theorem d_M_becomes_73 : decode me_M_becomes.2.1 73 = .ok (.aload_n 0, 1) := by decide +kernel
theorem d_M_becomes_74 : decode me_M_becomes.2.1 74 = .ok (.getfield 19, 3) := by decide +kernel
theorem d_M_becomes_77 : decode me_M_becomes.2.1 77 = .ok (.iload 4, 2) := by decide +kernel
theorem d_M_becomes_79 : decode me_M_becomes.2.1 79 = .ok (.iaload, 1) := by decide +kernel
theorem d_M_becomes_80 : decode me_M_becomes.2.1 80 = .ok (.iastore, 1) := by decide +kernel
theorem d_M_becomes_81 : decode me_M_becomes.2.1 81 = .ok (.iinc 4 1, 3) := by decide +kernel
theorem d_M_becomes_84 : decode me_M_becomes.2.1 84 = .ok (.goto (-58), 3) := by decide +kernel
theorem d_M_becomes_87 : decode me_M_becomes.2.1 87 = .ok (.aload_n 0, 1) := by decide +kernel
theorem d_M_becomes_88 : decode me_M_becomes.2.1 88 = .ok (.dup, 1) := by decide +kernel
theorem d_M_becomes_89 : decode me_M_becomes.2.1 89 = .ok (.getfield 94, 3) := by decide +kernel
theorem d_M_becomes_92 : decode me_M_becomes.2.1 92 = .ok (.iconst 1, 1) := by decide +kernel
theorem d_M_becomes_93 : decode me_M_becomes.2.1 93 = .ok (.isub, 1) := by decide +kernel
theorem d_M_becomes_94 : decode me_M_becomes.2.1 94 = .ok (.putfield 94, 3) := by decide +kernel
theorem d_M_becomes_97 : decode me_M_becomes.2.1 97 = .ok (.aload_n 0, 1) := by decide +kernel
theorem d_M_becomes_98 : decode me_M_becomes.2.1 98 = .ok (.getfield 13, 3) := by decide +kernel
theorem d_M_becomes_101 : decode me_M_becomes.2.1 101 = .ok (.aload_n 0, 1) := by decide +kernel
theorem d_M_becomes_102 : decode me_M_becomes.2.1 102 = .ok (.getfield 94, 3) := by decide +kernel
theorem d_M_becomes_105 : decode me_M_becomes.2.1 105 = .ok (.iload_n 1, 1) := by decide +kernel
theorem d_M_becomes_106 : decode me_M_becomes.2.1 106 = .ok (.iastore, 1) := by decide +kernel
theorem d_M_becomes_107 : decode me_M_becomes.2.1 107 = .ok (.aload_n 0, 1) := by decide +kernel
theorem d_M_becomes_108 : decode me_M_becomes.2.1 108 = .ok (.getfield 16, 3) := by decide +kernel
theorem d_M_becomes_111 : decode me_M_becomes.2.1 111 = .ok (.aload_n 0, 1) := by decide +kernel
theorem d_M_becomes_112 : decode me_M_becomes.2.1 112 = .ok (.getfield 94, 3) := by decide +kernel
theorem d_M_becomes_115 : decode me_M_becomes.2.1 115 = .ok (.iload_n 3, 1) := by decide +kernel
theorem d_M_becomes_116 : decode me_M_becomes.2.1 116 = .ok (.iastore, 1) := by decide +kernel
theorem d_M_becomes_117 : decode me_M_becomes.2.1 117 = .ok (.aload_n 0, 1) := by decide +kernel
theorem d_M_becomes_118 : decode me_M_becomes.2.1 118 = .ok (.getfield 19, 3) := by decide +kernel
theorem d_M_becomes_121 : decode me_M_becomes.2.1 121 = .ok (.aload_n 0, 1) := by decide +kernel
theorem d_M_becomes_122 : decode me_M_becomes.2.1 122 = .ok (.getfield 94, 3) := by decide +kernel
theorem d_M_becomes_125 : decode me_M_becomes.2.1 125 = .ok (.iload_n 2, 1) := by decide +kernel
theorem d_M_becomes_126 : decode me_M_becomes.2.1 126 = .ok (.iastore, 1) := by decide +kernel
theorem d_M_becomes_127 : decode me_M_becomes.2.1 127 = .ok (.aload_n 0, 1) := by decide +kernel
theorem d_M_becomes_128 : decode me_M_becomes.2.1 128 = .ok (.dup, 1) := by decide +kernel
theorem d_M_becomes_129 : decode me_M_becomes.2.1 129 = .ok (.getfield 94, 3) := by decide +kernel
theorem d_M_becomes_132 : decode me_M_becomes.2.1 132 = .ok (.iconst 1, 1) := by decide +kernel
theorem d_M_becomes_133 : decode me_M_becomes.2.1 133 = .ok (.iadd, 1) := by decide +kernel
theorem d_M_becomes_134 : decode me_M_becomes.2.1 134 = .ok (.putfield 94, 3) := by decide +kernel
theorem d_M_becomes_137 : decode me_M_becomes.2.1 137 = .ok (.aload_n 0, 1) := by decide +kernel
theorem d_M_becomes_138 : decode me_M_becomes.2.1 138 = .ok (.aload_n 0, 1) := by decide +kernel
theorem d_M_becomes_139 : decode me_M_becomes.2.1 139 = .ok (.getfield 94, 3) := by decide +kernel
theorem d_M_becomes_142 : decode me_M_becomes.2.1 142 = .ok (.putfield 97, 3) := by decide +kernel
theorem d_M_becomes_145 : decode me_M_becomes.2.1 145 = .ok (.aload_n 0, 1) := by decide +kernel
theorem d_M_becomes_146 : decode me_M_becomes.2.1 146 = .ok (.getfield 9, 3) := by decide +kernel
theorem d_M_becomes_149 : decode me_M_becomes.2.1 149 = .ok (.iload_n 1, 1) := by decide +kernel
theorem d_M_becomes_150 : decode me_M_becomes.2.1 150 = .ok (.iload_n 2, 1) := by decide +kernel
theorem d_M_becomes_151 : decode me_M_becomes.2.1 151 = .ok (.iastore, 1) := by decide +kernel
theorem d_M_becomes_152 : decode me_M_becomes.2.1 152 = .ok (.iload_n 3, 1) := by decide +kernel
theorem d_M_becomes_153 : decode me_M_becomes.2.1 153 = .ok (.ireturn, 1) := by decide +kernel
noncomputable def f_M_becomes_97  (a1 : Int32) (a2 : Int32) (a3 : Int32) (m0 : gk_M) : Option (Int32 × gk_M) :=
  gk_si m0 2 40 (m0.1 0 5) a1 fun m1 =>
  gk_si m1 3 40 (m1.1 0 5) a3 fun m2 =>
  gk_si m2 4 40 (m2.1 0 5) a2 fun m3 =>
  gk_let (gk_mi m3 0 5 ((m3.1 0 5) + 1)) fun m4 =>
  gk_let (gk_mi m4 0 4 (m4.1 0 5)) fun m5 =>
  gk_si m5 1 30 a1 a2 fun m6 =>
  some (a3, m6)

theorem s_M_becomes_97 {z : gk_Z} (K : gk_F tm z me_M_becomes 1) {r : Int32} {mem2 : gk_M} : ∀ a1 a2 a3 m0, f_M_becomes_97 a1 a2 a3 m0 = some (r, mem2) → gk_G tm z me_M_becomes (gk_R tm z (some (.int r)) mem2) m0 [(0, .ref 0), (1, .int a1), (2, .int a2), (3, .int a3)] [] 97 := by
  intro a1 a2 a3 m0  h
  unfold f_M_becomes_97 at h
  refine gk_aload_n (pc := 97) K d_M_becomes_97 rfl ?_
  refine gk_get (pc := 98) K d_M_becomes_98 fl_M_13 tm_0 rfl rfl ?_
  refine gk_aload_n (pc := 101) K d_M_becomes_101 rfl ?_
  refine gk_get (pc := 102) K d_M_becomes_102 fl_M_94 tm_0 rfl rfl ?_
  refine gk_iload_n (pc := 105) K d_M_becomes_105 rfl ?_
  refine gk_iast (pc := 106) K d_M_becomes_106 tm_2 h (fun m1 h => ?_)
  refine gk_aload_n (pc := 107) K d_M_becomes_107 rfl ?_
  refine gk_get (pc := 108) K d_M_becomes_108 fl_M_16 tm_0 rfl rfl ?_
  refine gk_aload_n (pc := 111) K d_M_becomes_111 rfl ?_
  refine gk_get (pc := 112) K d_M_becomes_112 fl_M_94 tm_0 rfl rfl ?_
  refine gk_iload_n (pc := 115) K d_M_becomes_115 rfl ?_
  refine gk_iast (pc := 116) K d_M_becomes_116 tm_3 h (fun m2 h => ?_)
  refine gk_aload_n (pc := 117) K d_M_becomes_117 rfl ?_
  refine gk_get (pc := 118) K d_M_becomes_118 fl_M_19 tm_0 rfl rfl ?_
  refine gk_aload_n (pc := 121) K d_M_becomes_121 rfl ?_
  refine gk_get (pc := 122) K d_M_becomes_122 fl_M_94 tm_0 rfl rfl ?_
  refine gk_iload_n (pc := 125) K d_M_becomes_125 rfl ?_
  refine gk_iast (pc := 126) K d_M_becomes_126 tm_4 h (fun m3 h => ?_)
  refine gk_aload_n (pc := 127) K d_M_becomes_127 rfl ?_
  refine gk_dup (pc := 128) K d_M_becomes_128 rfl ?_
  refine gk_get (pc := 129) K d_M_becomes_129 fl_M_94 tm_0 rfl rfl ?_
  refine gk_iconst (pc := 132) K d_M_becomes_132 kc_1 ?_
  refine gk_iadd (pc := 133) K d_M_becomes_133 ?_
  refine gk_puti (pc := 134) K d_M_becomes_134 fp_M_94 tm_0 rfl h (fun m4 h => ?_)
  refine gk_aload_n (pc := 137) K d_M_becomes_137 rfl ?_
  refine gk_aload_n (pc := 138) K d_M_becomes_138 rfl ?_
  refine gk_get (pc := 139) K d_M_becomes_139 fl_M_94 tm_0 rfl rfl ?_
  refine gk_puti (pc := 142) K d_M_becomes_142 fp_M_97 tm_0 rfl h (fun m5 h => ?_)
  refine gk_aload_n (pc := 145) K d_M_becomes_145 rfl ?_
  refine gk_get (pc := 146) K d_M_becomes_146 fl_M_9 tm_0 rfl rfl ?_
  refine gk_iload_n (pc := 149) K d_M_becomes_149 rfl ?_
  refine gk_iload_n (pc := 150) K d_M_becomes_150 rfl ?_
  refine gk_iast (pc := 151) K d_M_becomes_151 tm_1 h (fun m6 h => ?_)
  refine gk_iload_n (pc := 152) K d_M_becomes_152 rfl ?_
  exact gk_iret (pc := 153) K d_M_becomes_153 rfl h
noncomputable def f_M_becomes_26  : Nat → Int32 → Int32 → Int32 → Int32 → gk_M → Option (Int32 × gk_M)
  | 0, _, _, _, _, _ => none
  | n + 1, a1, a2, a3, a4, m0 =>
    if 40 ≤ a4 then
      gk_let (gk_mi m0 0 5 ((m0.1 0 5) - 1)) fun m1 =>
      f_M_becomes_97 a1 a2 a3 m1
    else
      gk_ai m0 2 40 a4 fun v2 =>
      gk_si m0 2 40 (a4 - 1) v2 fun m3 =>
      gk_ai m3 3 40 a4 fun v4 =>
      gk_si m3 3 40 (a4 - 1) v4 fun m5 =>
      gk_ai m5 4 40 a4 fun v6 =>
      gk_si m5 4 40 (a4 - 1) v6 fun m7 =>
      f_M_becomes_26 n a1 a2 a3 (a4 + 1) m7

theorem s_M_becomes_26 {z : gk_Z} (K : gk_F tm z me_M_becomes 1) {r : Int32} {mem2 : gk_M} : ∀ n a1 a2 a3 a4 m0, f_M_becomes_26 n a1 a2 a3 a4 m0 = some (r, mem2) → gk_G tm z me_M_becomes (gk_R tm z (some (.int r)) mem2) m0 [(0, .ref 0), (1, .int a1), (2, .int a2), (3, .int a3), (4, .int a4)] [] 26 := by
  intro n
  induction n with
  | zero => intro a1 a2 a3 a4 m0  h; exact nomatch (show (none : Option _) = some _ from h)
  | succ n ih =>
    intro a1 a2 a3 a4 m0  h
    unfold f_M_becomes_26 at h
    refine gk_iload (pc := 26) K d_M_becomes_26 rfl ?_
    refine gk_bipush (pc := 28) K d_M_becomes_28 kb_40 ?_
    refine gk_ic_ge (tgt := 87) (pc := 30) K d_M_becomes_30 (by decide) h (fun h => ?_) (fun h => ?_)
    · refine gk_aload_n (pc := 87) K d_M_becomes_87 rfl ?_
      refine gk_dup (pc := 88) K d_M_becomes_88 rfl ?_
      refine gk_get (pc := 89) K d_M_becomes_89 fl_M_94 tm_0 rfl rfl ?_
      refine gk_iconst (pc := 92) K d_M_becomes_92 kc_1 ?_
      refine gk_isub (pc := 93) K d_M_becomes_93 ?_
      refine gk_puti (pc := 94) K d_M_becomes_94 fp_M_94 tm_0 rfl h (fun m1 h => ?_)
      exact gk_sub [0, 1, 2, 3] rfl (s_M_becomes_97 K _ _ _ _  h)
    · refine gk_aload_n (pc := 33) K d_M_becomes_33 rfl ?_
      refine gk_get (pc := 34) K d_M_becomes_34 fl_M_13 tm_0 rfl rfl ?_
      refine gk_iload (pc := 37) K d_M_becomes_37 rfl ?_
      refine gk_iconst (pc := 39) K d_M_becomes_39 kc_1 ?_
      refine gk_isub (pc := 40) K d_M_becomes_40 ?_
      refine gk_aload_n (pc := 41) K d_M_becomes_41 rfl ?_
      refine gk_get (pc := 42) K d_M_becomes_42 fl_M_13 tm_0 rfl rfl ?_
      refine gk_iload (pc := 45) K d_M_becomes_45 rfl ?_
      refine gk_iald (pc := 47) K d_M_becomes_47 tm_2 h (fun v2 h => ?_)
      refine gk_iast (pc := 48) K d_M_becomes_48 tm_2 h (fun m3 h => ?_)
      refine gk_aload_n (pc := 49) K d_M_becomes_49 rfl ?_
      refine gk_get (pc := 50) K d_M_becomes_50 fl_M_16 tm_0 rfl rfl ?_
      refine gk_iload (pc := 53) K d_M_becomes_53 rfl ?_
      refine gk_iconst (pc := 55) K d_M_becomes_55 kc_1 ?_
      refine gk_isub (pc := 56) K d_M_becomes_56 ?_
      refine gk_aload_n (pc := 57) K d_M_becomes_57 rfl ?_
      refine gk_get (pc := 58) K d_M_becomes_58 fl_M_16 tm_0 rfl rfl ?_
      refine gk_iload (pc := 61) K d_M_becomes_61 rfl ?_
      refine gk_iald (pc := 63) K d_M_becomes_63 tm_3 h (fun v4 h => ?_)
      refine gk_iast (pc := 64) K d_M_becomes_64 tm_3 h (fun m5 h => ?_)
      refine gk_aload_n (pc := 65) K d_M_becomes_65 rfl ?_
      refine gk_get (pc := 66) K d_M_becomes_66 fl_M_19 tm_0 rfl rfl ?_
      refine gk_iload (pc := 69) K d_M_becomes_69 rfl ?_
      refine gk_iconst (pc := 71) K d_M_becomes_71 kc_1 ?_
      refine gk_isub (pc := 72) K d_M_becomes_72 ?_
      refine gk_aload_n (pc := 73) K d_M_becomes_73 rfl ?_
      refine gk_get (pc := 74) K d_M_becomes_74 fl_M_19 tm_0 rfl rfl ?_
      refine gk_iload (pc := 77) K d_M_becomes_77 rfl ?_
      refine gk_iald (pc := 79) K d_M_becomes_79 tm_4 h (fun v6 h => ?_)
      refine gk_iast (pc := 80) K d_M_becomes_80 tm_4 h (fun m7 h => ?_)
      refine gk_iinc2 (lv2 := [(4, .int (a4 + 1)), (0, .ref 0), (1, .int a1), (2, .int a2), (3, .int a3)]) (pc := 81) K d_M_becomes_81 rfl kc_1 (by decide) rfl ?_
      refine gk_goto (tgt := 26) (pc := 84) K d_M_becomes_84 (by decide) ?_
      exact gk_sub [1, 2, 3, 4, 0] rfl (ih _ _ _ _ _  h)
noncomputable def f_M_becomes  (a1 : Int32) (a2 : Int32) (m0 : gk_M) : Option (Int32 × gk_M) :=
  gk_ai m0 1 30 a1 fun v1 =>
  if ¬ v1 = a2 then
    if ¬ (m0.1 0 5) = 40 then
      f_M_becomes_97 a1 a2 v1 m0
    else
      f_M_becomes_26 gk_fv a1 a2 v1 1 m0
  else
    some (v1, m0)

theorem s_M_becomes_0 {z : gk_Z} (K : gk_F tm z me_M_becomes 1) {r : Int32} {mem2 : gk_M} : ∀ a1 a2 m0, f_M_becomes a1 a2 m0 = some (r, mem2) → gk_G tm z me_M_becomes (gk_R tm z (some (.int r)) mem2) m0 [(0, .ref 0), (1, .int a1), (2, .int a2)] [] 0 := by
  intro a1 a2 m0  h
  unfold f_M_becomes at h
  refine gk_aload_n (pc := 0) K d_M_becomes_0 rfl ?_
  refine gk_get (pc := 1) K d_M_becomes_1 fl_M_9 tm_0 rfl rfl ?_
  refine gk_iload_n (pc := 4) K d_M_becomes_4 rfl ?_
  refine gk_iald (pc := 5) K d_M_becomes_5 tm_1 h (fun v1 h => ?_)
  refine gk_istore_n (lv2 := [(3, .int v1), (0, .ref 0), (1, .int a1), (2, .int a2)]) (pc := 6) K d_M_becomes_6 (by decide) rfl ?_
  refine gk_iload_n (pc := 7) K d_M_becomes_7 rfl ?_
  refine gk_iload_n (pc := 8) K d_M_becomes_8 rfl ?_
  refine gk_ic_ne (tgt := 14) (pc := 9) K d_M_becomes_9 (by decide) h (fun h => ?_) (fun h => ?_)
  · refine gk_aload_n (pc := 14) K d_M_becomes_14 rfl ?_
    refine gk_get (pc := 15) K d_M_becomes_15 fl_M_94 tm_0 rfl rfl ?_
    refine gk_bipush (pc := 18) K d_M_becomes_18 kb_40 ?_
    refine gk_ic_ne (tgt := 97) (pc := 20) K d_M_becomes_20 (by decide) h (fun h => ?_) (fun h => ?_)
    · exact gk_sub [1, 2, 3, 0] rfl (s_M_becomes_97 K _ _ _ _  h)
    · refine gk_iconst (pc := 23) K d_M_becomes_23 kc_1 ?_
      refine gk_istore (lv2 := [(4, .int 1), (3, .int v1), (0, .ref 0), (1, .int a1), (2, .int a2)]) (pc := 24) K d_M_becomes_24 (by decide) rfl ?_
      exact gk_sub [2, 3, 4, 1, 0] rfl (s_M_becomes_26 K _ _ _ _ _ _  h)
  · refine gk_iload_n (pc := 12) K d_M_becomes_12 rfl ?_
    exact gk_iret (pc := 13) K d_M_becomes_13 rfl h
theorem s_M_becomes {l : Launch} {u : gk_U} (hD : gk_D tm u) {a1 : Int32} {a2 : Int32} {m0 mem2 : gk_M} {r : Int32} (h : f_M_becomes a1 a2 m0 = some (r, mem2)) : gk_C tm l u me_M_becomes 1 [.ref 0, .int a1, .int a2] m0 (some (.int r)) mem2 :=
  gk_enter hD mc_M_becomes (Nat.le_of_ble_eq_true rfl) rfl (fun z _ _ K => s_M_becomes_0 K _ _ _  h)
theorem d_M_mend_0 : decode me_M_mend.2.1 0 = .ok (.aload_n 0, 1) := by decide +kernel
theorem d_M_mend_1 : decode me_M_mend.2.1 1 = .ok (.iload_n 1, 1) := by decide +kernel
theorem d_M_mend_2 : decode me_M_mend.2.1 2 = .ok (.invokevirtual 142, 3) := by decide +kernel
theorem d_M_mend_5 : decode me_M_mend.2.1 5 = .ok (.ifCond .eq 46, 3) := by decide +kernel
theorem d_M_mend_8 : decode me_M_mend.2.1 8 = .ok (.iload_n 2, 1) := by decide +kernel
theorem d_M_mend_9 : decode me_M_mend.2.1 9 = .ok (.i2l, 1) := by decide +kernel
theorem d_M_mend_10 : decode me_M_mend.2.1 10 = .ok (.lconst 0, 1) := by decide +kernel
theorem d_M_mend_11 : decode me_M_mend.2.1 11 = .ok (.ldc2_w 145, 3) := by decide +kernel
theorem d_M_mend_14 : decode me_M_mend.2.1 14 = .ok (.invokestatic 102, 3) := by decide +kernel
theorem d_M_mend_17 : decode me_M_mend.2.1 17 = .ok (.ifCond .eq 34, 3) := by decide +kernel
theorem d_M_mend_20 : decode me_M_mend.2.1 20 = .ok (.iload_n 3, 1) := by decide +kernel
theorem d_M_mend_21 : decode me_M_mend.2.1 21 = .ok (.i2l, 1) := by decide +kernel
theorem d_M_mend_22 : decode me_M_mend.2.1 22 = .ok (.lconst 0, 1) := by decide +kernel
theorem d_M_mend_23 : decode me_M_mend.2.1 23 = .ok (.iload_n 2, 1) := by decide +kernel
theorem d_M_mend_24 : decode me_M_mend.2.1 24 = .ok (.ifCond .ne 9, 3) := by decide +kernel
theorem d_M_mend_27 : decode me_M_mend.2.1 27 = .ok (.ldc2_w 112, 3) := by decide +kernel
theorem d_M_mend_30 : decode me_M_mend.2.1 30 = .ok (.goto 15, 3) := by decide +kernel
theorem d_M_mend_33 : decode me_M_mend.2.1 33 = .ok (.iload_n 2, 1) := by decide +kernel
theorem d_M_mend_34 : decode me_M_mend.2.1 34 = .ok (.iconst 1, 1) := by decide +kernel
theorem d_M_mend_35 : decode me_M_mend.2.1 35 = .ok (.if_icmp .ne 9, 3) := by decide +kernel
theorem d_M_mend_38 : decode me_M_mend.2.1 38 = .ok (.ldc2_w 114, 3) := by decide +kernel
theorem d_M_mend_41 : decode me_M_mend.2.1 41 = .ok (.goto 4, 3) := by decide +kernel
theorem d_M_mend_44 : decode me_M_mend.2.1 44 = .ok (.lconst 1, 1) := by decide +kernel
theorem d_M_mend_45 : decode me_M_mend.2.1 45 = .ok (.invokestatic 102, 3) := by decide +kernel
theorem d_M_mend_48 : decode me_M_mend.2.1 48 = .ok (.ifCond .ne 5, 3) := by decide +kernel
theorem d_M_mend_51 : decode me_M_mend.2.1 51 = .ok (.iconst (-1), 1) := by decide +kernel
theorem d_M_mend_52 : decode me_M_mend.2.1 52 = .ok (.ireturn, 1) := by decide +kernel
theorem d_M_mend_53 : decode me_M_mend.2.1 53 = .ok (.aload_n 0, 1) := by decide +kernel
theorem d_M_mend_54 : decode me_M_mend.2.1 54 = .ok (.bipush 10, 2) := by decide +kernel
theorem d_M_mend_56 : decode me_M_mend.2.1 56 = .ok (.iload_n 2, 1) := by decide +kernel
theorem d_M_mend_57 : decode me_M_mend.2.1 57 = .ok (.imul, 1) := by decide +kernel
theorem d_M_mend_58 : decode me_M_mend.2.1 58 = .ok (.iload_n 1, 1) := by decide +kernel
theorem d_M_mend_59 : decode me_M_mend.2.1 59 = .ok (.iadd, 1) := by decide +kernel
theorem d_M_mend_60 : decode me_M_mend.2.1 60 = .ok (.iload_n 3, 1) := by decide +kernel
theorem d_M_mend_61 : decode me_M_mend.2.1 61 = .ok (.invokevirtual 147, 3) := by decide +kernel
theorem d_M_mend_64 : decode me_M_mend.2.1 64 = .ok (.ireturn, 1) := by decide +kernel
noncomputable def f_M_mend_45  (a1 : Int32) (a2 : Int32) (a3 : Int32) (s0 : Int64) (s1 : Int64) (s2 : Int64) (m0 : gk_M) : Option (Int32 × gk_M) :=
  gk_bi (f_M_within s0 s1 s2 m0) fun v2 m1 =>
  if ¬ v2 = 0 then
    gk_bi (f_M_becomes ((10 * a2) + a1) a3 m1) fun v4 m3 =>
    some (v4, m3)
  else
    some ((-1), m1)

theorem s_M_mend_45 {z : gk_Z} (K : gk_F tm z me_M_mend 3) {r : Int32} {mem2 : gk_M} : ∀ a1 a2 a3 s0 s1 s2 m0, f_M_mend_45 a1 a2 a3 s0 s1 s2 m0 = some (r, mem2) → gk_G tm z me_M_mend (gk_R tm z (some (.int r)) mem2) m0 [(0, .ref 0), (1, .int a1), (2, .int a2), (3, .int a3)] [.long s2, .long s1, .long s0] 45 := by
  intro a1 a2 a3 s0 s1 s2 m0  h
  unfold f_M_mend_45 at h
  obtain ⟨v2, m1, em1, h⟩ := gk_bi_some h
  refine gk_cSi (As := [.long s0, .long s1, .long s2]) (pc := 45) K d_M_mend_45 ms_M_102 mc_M_within rfl (s_M_within (gk_FD K)  em1) (by decide) rfl (Nat.le_of_ble_eq_true rfl) ?_
  refine gk_if_ne (tgt := 53) (pc := 48) K d_M_mend_48 (by decide) h (fun h => ?_) (fun h => ?_)
  · refine gk_aload_n (pc := 53) K d_M_mend_53 rfl ?_
    refine gk_bipush (pc := 54) K d_M_mend_54 kb_10 ?_
    refine gk_iload_n (pc := 56) K d_M_mend_56 rfl ?_
    refine gk_imul (pc := 57) K d_M_mend_57 ?_
    refine gk_iload_n (pc := 58) K d_M_mend_58 rfl ?_
    refine gk_iadd (pc := 59) K d_M_mend_59 ?_
    refine gk_iload_n (pc := 60) K d_M_mend_60 rfl ?_
    obtain ⟨v4, m3, em3, h⟩ := gk_bi_some h
    refine gk_cVi (As := [.int ((10 * a2) + a1), .int a3]) (pc := 61) K d_M_mend_61 mv_M_147 mc_M_becomes rfl tm_0 cl_ok10.1 (s_M_becomes (gk_FD K)  em3) (by decide) rfl (Nat.le_of_ble_eq_true rfl) ?_
    exact gk_iret (pc := 64) K d_M_mend_64 rfl h
  · refine gk_iconst (pc := 51) K d_M_mend_51 kc_m1 ?_
    exact gk_iret (pc := 52) K d_M_mend_52 rfl h
noncomputable def f_M_mend  (a1 : Int32) (a2 : Int32) (a3 : Int32) (m0 : gk_M) : Option (Int32 × gk_M) :=
  gk_bi (f_M_isTower a1 m0) fun v2 m1 =>
  if v2 = 0 then
    some ((-1), m1)
  else
    gk_bi (f_M_within a2.toInt64 0 2 m1) fun v4 m3 =>
    if v4 = 0 then
      some ((-1), m3)
    else
      if ¬ a2 = 0 then
        if ¬ a2 = 1 then
          f_M_mend_45 a1 a2 a3 a3.toInt64 0 1 m3
        else
          f_M_mend_45 a1 a2 a3 a3.toInt64 0 99 m3
      else
        f_M_mend_45 a1 a2 a3 a3.toInt64 0 9 m3

theorem s_M_mend_0 {z : gk_Z} (K : gk_F tm z me_M_mend 3) {r : Int32} {mem2 : gk_M} : ∀ a1 a2 a3 m0, f_M_mend a1 a2 a3 m0 = some (r, mem2) → gk_G tm z me_M_mend (gk_R tm z (some (.int r)) mem2) m0 [(0, .ref 0), (1, .int a1), (2, .int a2), (3, .int a3)] [] 0 := by
  intro a1 a2 a3 m0  h
  unfold f_M_mend at h
  refine gk_aload_n (pc := 0) K d_M_mend_0 rfl ?_
  refine gk_iload_n (pc := 1) K d_M_mend_1 rfl ?_
  obtain ⟨v2, m1, em1, h⟩ := gk_bi_some h
  refine gk_cVi (As := [.int a1]) (pc := 2) K d_M_mend_2 mv_M_142 mc_M_isTower rfl tm_0 cl_ok10.1 (s_M_isTower (gk_FD K)  em1) (by decide) rfl (Nat.le_of_ble_eq_true rfl) ?_
  refine gk_if_eq (tgt := 51) (pc := 5) K d_M_mend_5 (by decide) h (fun h => ?_) (fun h => ?_)
  · refine gk_iconst (pc := 51) K d_M_mend_51 kc_m1 ?_
    exact gk_iret (pc := 52) K d_M_mend_52 rfl h
  · refine gk_iload_n (pc := 8) K d_M_mend_8 rfl ?_
    refine gk_i2l (pc := 9) K d_M_mend_9 ?_
    refine gk_lconst (pc := 10) K d_M_mend_10 kl_0 ?_
    refine gk_ldc2 (pc := 11) K d_M_mend_11 lc_M_145 ?_
    obtain ⟨v4, m3, em3, h⟩ := gk_bi_some h
    refine gk_cSi (As := [.long a2.toInt64, .long 0, .long 2]) (pc := 14) K d_M_mend_14 ms_M_102 mc_M_within rfl (s_M_within (gk_FD K)  em3) (by decide) rfl (Nat.le_of_ble_eq_true rfl) ?_
    refine gk_if_eq (tgt := 51) (pc := 17) K d_M_mend_17 (by decide) h (fun h => ?_) (fun h => ?_)
    · refine gk_iconst (pc := 51) K d_M_mend_51 kc_m1 ?_
      exact gk_iret (pc := 52) K d_M_mend_52 rfl h
    · refine gk_iload_n (pc := 20) K d_M_mend_20 rfl ?_
      refine gk_i2l (pc := 21) K d_M_mend_21 ?_
      refine gk_lconst (pc := 22) K d_M_mend_22 kl_0 ?_
      refine gk_iload_n (pc := 23) K d_M_mend_23 rfl ?_
      refine gk_if_ne (tgt := 33) (pc := 24) K d_M_mend_24 (by decide) h (fun h => ?_) (fun h => ?_)
      · refine gk_iload_n (pc := 33) K d_M_mend_33 rfl ?_
        refine gk_iconst (pc := 34) K d_M_mend_34 kc_1 ?_
        refine gk_ic_ne (tgt := 44) (pc := 35) K d_M_mend_35 (by decide) h (fun h => ?_) (fun h => ?_)
        · refine gk_lconst (pc := 44) K d_M_mend_44 kl_1 ?_
          exact gk_sub [0, 1, 2, 3] rfl (s_M_mend_45 K _ _ _ _ _ _ _  h)
        · refine gk_ldc2 (pc := 38) K d_M_mend_38 lc_M_114 ?_
          refine gk_goto (tgt := 45) (pc := 41) K d_M_mend_41 (by decide) ?_
          exact gk_sub [0, 1, 2, 3] rfl (s_M_mend_45 K _ _ _ _ _ _ _  h)
      · refine gk_ldc2 (pc := 27) K d_M_mend_27 lc_M_112 ?_
        refine gk_goto (tgt := 45) (pc := 30) K d_M_mend_30 (by decide) ?_
        exact gk_sub [0, 1, 2, 3] rfl (s_M_mend_45 K _ _ _ _ _ _ _  h)
theorem s_M_mend {l : Launch} {u : gk_U} (hD : gk_D tm u) {a1 : Int32} {a2 : Int32} {a3 : Int32} {m0 mem2 : gk_M} {r : Int32} (h : f_M_mend a1 a2 a3 m0 = some (r, mem2)) : gk_C tm l u me_M_mend 3 [.ref 0, .int a1, .int a2, .int a3] m0 (some (.int r)) mem2 :=
  gk_enter hD mc_M_mend (Nat.le_of_ble_eq_true rfl) rfl (fun z _ _ K => s_M_mend_0 K _ _ _ _  h)
theorem d_M_of_0 : decode me_M_of.2.1 0 = .ok (.iload_n 2, 1) := by decide +kernel
theorem d_M_of_1 : decode me_M_of.2.1 1 = .ok (.i2l, 1) := by decide +kernel
theorem d_M_of_2 : decode me_M_of.2.1 2 = .ok (.lconst 0, 1) := by decide +kernel
theorem d_M_of_3 : decode me_M_of.2.1 3 = .ok (.ldc2_w 151, 3) := by decide +kernel
theorem d_M_of_6 : decode me_M_of.2.1 6 = .ok (.invokestatic 102, 3) := by decide +kernel
theorem d_M_of_9 : decode me_M_of.2.1 9 = .ok (.ifCond .eq 42, 3) := by decide +kernel
theorem d_M_of_12 : decode me_M_of.2.1 12 = .ok (.aload_n 0, 1) := by decide +kernel
theorem d_M_of_13 : decode me_M_of.2.1 13 = .ok (.iload_n 1, 1) := by decide +kernel
theorem d_M_of_14 : decode me_M_of.2.1 14 = .ok (.invokevirtual 142, 3) := by decide +kernel
theorem d_M_of_17 : decode me_M_of.2.1 17 = .ok (.ifCond .ne 7, 3) := by decide +kernel
theorem d_M_of_20 : decode me_M_of.2.1 20 = .ok (.iconst (-1), 1) := by decide +kernel
theorem d_M_of_21 : decode me_M_of.2.1 21 = .ok (.goto 29, 3) := by decide +kernel
theorem d_M_of_24 : decode me_M_of.2.1 24 = .ok (.iload_n 2, 1) := by decide +kernel
theorem d_M_of_25 : decode me_M_of.2.1 25 = .ok (.ifCond .ne 12, 3) := by decide +kernel
theorem d_M_of_28 : decode me_M_of.2.1 28 = .ok (.aload_n 0, 1) := by decide +kernel
theorem d_M_of_29 : decode me_M_of.2.1 29 = .ok (.getfield 22, 3) := by decide +kernel
theorem d_M_of_32 : decode me_M_of.2.1 32 = .ok (.iload_n 1, 1) := by decide +kernel
theorem d_M_of_33 : decode me_M_of.2.1 33 = .ok (.iaload, 1) := by decide +kernel
theorem d_M_of_34 : decode me_M_of.2.1 34 = .ok (.goto 16, 3) := by decide +kernel
theorem d_M_of_37 : decode me_M_of.2.1 37 = .ok (.aload_n 0, 1) := by decide +kernel
theorem d_M_of_38 : decode me_M_of.2.1 38 = .ok (.getfield 9, 3) := by decide +kernel
theorem d_M_of_41 : decode me_M_of.2.1 41 = .ok (.bipush 10, 2) := by decide +kernel
theorem d_M_of_43 : decode me_M_of.2.1 43 = .ok (.iload_n 2, 1) := by decide +kernel
theorem d_M_of_44 : decode me_M_of.2.1 44 = .ok (.iconst 1, 1) := by decide +kernel
theorem d_M_of_45 : decode me_M_of.2.1 45 = .ok (.isub, 1) := by decide +kernel
theorem d_M_of_46 : decode me_M_of.2.1 46 = .ok (.imul, 1) := by decide +kernel
theorem d_M_of_47 : decode me_M_of.2.1 47 = .ok (.iload_n 1, 1) := by decide +kernel
theorem d_M_of_48 : decode me_M_of.2.1 48 = .ok (.iadd, 1) := by decide +kernel
theorem d_M_of_49 : decode me_M_of.2.1 49 = .ok (.iaload, 1) := by decide +kernel
theorem d_M_of_50 : decode me_M_of.2.1 50 = .ok (.ireturn, 1) := by decide +kernel
theorem d_M_of_51 : decode me_M_of.2.1 51 = .ok (.aload_n 0, 1) := by decide +kernel
theorem d_M_of_52 : decode me_M_of.2.1 52 = .ok (.iload_n 1, 1) := by decide +kernel
theorem d_M_of_53 : decode me_M_of.2.1 53 = .ok (.invokevirtual 136, 3) := by decide +kernel
theorem d_M_of_56 : decode me_M_of.2.1 56 = .ok (.ifCond .ne 5, 3) := by decide +kernel
theorem d_M_of_59 : decode me_M_of.2.1 59 = .ok (.iconst (-1), 1) := by decide +kernel
theorem d_M_of_60 : decode me_M_of.2.1 60 = .ok (.ireturn, 1) := by decide +kernel
theorem d_M_of_61 : decode me_M_of.2.1 61 = .ok (.iload_n 2, 1) := by decide +kernel
theorem d_M_of_62 : decode me_M_of.2.1 62 = .ok (.bipush 10, 2) := by decide +kernel
theorem d_M_of_64 : decode me_M_of.2.1 64 = .ok (.if_icmp .ne 12, 3) := by decide +kernel
theorem d_M_of_67 : decode me_M_of.2.1 67 = .ok (.aload_n 0, 1) := by decide +kernel
theorem d_M_of_68 : decode me_M_of.2.1 68 = .ok (.getfield 31, 3) := by decide +kernel
theorem d_M_of_71 : decode me_M_of.2.1 71 = .ok (.iload_n 1, 1) := by decide +kernel
theorem d_M_of_72 : decode me_M_of.2.1 72 = .ok (.iaload, 1) := by decide +kernel
theorem d_M_of_73 : decode me_M_of.2.1 73 = .ok (.goto 42, 3) := by decide +kernel
theorem d_M_of_76 : decode me_M_of.2.1 76 = .ok (.iload_n 2, 1) := by decide +kernel
theorem d_M_of_77 : decode me_M_of.2.1 77 = .ok (.i2l, 1) := by decide +kernel
theorem d_M_of_78 : decode me_M_of.2.1 78 = .ok (.ldc2_w 153, 3) := by decide +kernel
theorem d_M_of_81 : decode me_M_of.2.1 81 = .ok (.bipush 19, 2) := by decide +kernel
theorem d_M_of_83 : decode me_M_of.2.1 83 = .ok (.aload_n 0, 1) := by decide +kernel
theorem d_M_of_84 : decode me_M_of.2.1 84 = .ok (.getfield 31, 3) := by decide +kernel
theorem d_M_of_87 : decode me_M_of.2.1 87 = .ok (.iload_n 1, 1) := by decide +kernel
theorem d_M_of_88 : decode me_M_of.2.1 88 = .ok (.iaload, 1) := by decide +kernel
theorem d_M_of_89 : decode me_M_of.2.1 89 = .ok (.iadd, 1) := by decide +kernel
theorem d_M_of_90 : decode me_M_of.2.1 90 = .ok (.i2l, 1) := by decide +kernel
theorem d_M_of_91 : decode me_M_of.2.1 91 = .ok (.invokestatic 102, 3) := by decide +kernel
theorem d_M_of_94 : decode me_M_of.2.1 94 = .ok (.ifCond .eq 20, 3) := by decide +kernel
theorem d_M_of_97 : decode me_M_of.2.1 97 = .ok (.aload_n 0, 1) := by decide +kernel
theorem d_M_of_98 : decode me_M_of.2.1 98 = .ok (.getfield 34, 3) := by decide +kernel
theorem d_M_of_101 : decode me_M_of.2.1 101 = .ok (.bipush 7, 2) := by decide +kernel
theorem d_M_of_103 : decode me_M_of.2.1 103 = .ok (.iload_n 1, 1) := by decide +kernel
theorem d_M_of_104 : decode me_M_of.2.1 104 = .ok (.imul, 1) := by decide +kernel
theorem d_M_of_105 : decode me_M_of.2.1 105 = .ok (.iload_n 2, 1) := by decide +kernel
theorem d_M_of_106 : decode me_M_of.2.1 106 = .ok (.iadd, 1) := by decide +kernel
theorem d_M_of_107 : decode me_M_of.2.1 107 = .ok (.bipush 20, 2) := by decide +kernel
theorem d_M_of_109 : decode me_M_of.2.1 109 = .ok (.isub, 1) := by decide +kernel
theorem d_M_of_110 : decode me_M_of.2.1 110 = .ok (.iaload, 1) := by decide +kernel
theorem d_M_of_111 : decode me_M_of.2.1 111 = .ok (.goto 4, 3) := by decide +kernel
theorem d_M_of_114 : decode me_M_of.2.1 114 = .ok (.iconst (-1), 1) := by decide +kernel
theorem d_M_of_115 : decode me_M_of.2.1 115 = .ok (.ireturn, 1) := by decide +kernel
noncomputable def f_M_of  (a1 : Int32) (a2 : Int32) (m0 : gk_M) : Option (Int32 × gk_M) :=
  gk_bi (f_M_within a2.toInt64 0 3 m0) fun v2 m1 =>
  if v2 = 0 then
    gk_bi (f_M_isRoad a1 m1) fun v4 m3 =>
    if ¬ v4 = 0 then
      if ¬ a2 = 10 then
        gk_ai m3 8 4 a1 fun v5 =>
        gk_bi (f_M_within a2.toInt64 20 (19 + v5).toInt64 m3) fun v7 m6 =>
        if v7 = 0 then
          some ((-1), m6)
        else
          gk_ai m6 9 28 (((7 * a1) + a2) - 20) fun v8 =>
          some (v8, m6)
      else
        gk_ai m3 8 4 a1 fun v9 =>
        some (v9, m3)
    else
      some ((-1), m3)
  else
    gk_bi (f_M_isTower a1 m1) fun v11 m10 =>
    if ¬ v11 = 0 then
      if ¬ a2 = 0 then
        gk_ai m10 1 30 ((10 * (a2 - 1)) + a1) fun v12 =>
        some (v12, m10)
      else
        gk_ai m10 5 20 a1 fun v13 =>
        some (v13, m10)
    else
      some ((-1), m10)

theorem s_M_of_0 {z : gk_Z} (K : gk_F tm z me_M_of 3) {r : Int32} {mem2 : gk_M} : ∀ a1 a2 m0, f_M_of a1 a2 m0 = some (r, mem2) → gk_G tm z me_M_of (gk_R tm z (some (.int r)) mem2) m0 [(0, .ref 0), (1, .int a1), (2, .int a2)] [] 0 := by
  intro a1 a2 m0  h
  unfold f_M_of at h
  refine gk_iload_n (pc := 0) K d_M_of_0 rfl ?_
  refine gk_i2l (pc := 1) K d_M_of_1 ?_
  refine gk_lconst (pc := 2) K d_M_of_2 kl_0 ?_
  refine gk_ldc2 (pc := 3) K d_M_of_3 lc_M_151 ?_
  obtain ⟨v2, m1, em1, h⟩ := gk_bi_some h
  refine gk_cSi (As := [.long a2.toInt64, .long 0, .long 3]) (pc := 6) K d_M_of_6 ms_M_102 mc_M_within rfl (s_M_within (gk_FD K)  em1) (by decide) rfl (Nat.le_of_ble_eq_true rfl) ?_
  refine gk_if_eq (tgt := 51) (pc := 9) K d_M_of_9 (by decide) h (fun h => ?_) (fun h => ?_)
  · refine gk_aload_n (pc := 51) K d_M_of_51 rfl ?_
    refine gk_iload_n (pc := 52) K d_M_of_52 rfl ?_
    obtain ⟨v4, m3, em3, h⟩ := gk_bi_some h
    refine gk_cVi (As := [.int a1]) (pc := 53) K d_M_of_53 mv_M_136 mc_M_isRoad rfl tm_0 cl_ok10.1 (s_M_isRoad (gk_FD K)  em3) (by decide) rfl (Nat.le_of_ble_eq_true rfl) ?_
    refine gk_if_ne (tgt := 61) (pc := 56) K d_M_of_56 (by decide) h (fun h => ?_) (fun h => ?_)
    · refine gk_iload_n (pc := 61) K d_M_of_61 rfl ?_
      refine gk_bipush (pc := 62) K d_M_of_62 kb_10 ?_
      refine gk_ic_ne (tgt := 76) (pc := 64) K d_M_of_64 (by decide) h (fun h => ?_) (fun h => ?_)
      · refine gk_iload_n (pc := 76) K d_M_of_76 rfl ?_
        refine gk_i2l (pc := 77) K d_M_of_77 ?_
        refine gk_ldc2 (pc := 78) K d_M_of_78 lc_M_153 ?_
        refine gk_bipush (pc := 81) K d_M_of_81 kb_19 ?_
        refine gk_aload_n (pc := 83) K d_M_of_83 rfl ?_
        refine gk_get (pc := 84) K d_M_of_84 fl_M_31 tm_0 rfl rfl ?_
        refine gk_iload_n (pc := 87) K d_M_of_87 rfl ?_
        refine gk_iald (pc := 88) K d_M_of_88 tm_8 h (fun v5 h => ?_)
        refine gk_iadd (pc := 89) K d_M_of_89 ?_
        refine gk_i2l (pc := 90) K d_M_of_90 ?_
        obtain ⟨v7, m6, em6, h⟩ := gk_bi_some h
        refine gk_cSi (As := [.long a2.toInt64, .long 20, .long (19 + v5).toInt64]) (pc := 91) K d_M_of_91 ms_M_102 mc_M_within rfl (s_M_within (gk_FD K)  em6) (by decide) rfl (Nat.le_of_ble_eq_true rfl) ?_
        refine gk_if_eq (tgt := 114) (pc := 94) K d_M_of_94 (by decide) h (fun h => ?_) (fun h => ?_)
        · refine gk_iconst (pc := 114) K d_M_of_114 kc_m1 ?_
          exact gk_iret (pc := 115) K d_M_of_115 rfl h
        · refine gk_aload_n (pc := 97) K d_M_of_97 rfl ?_
          refine gk_get (pc := 98) K d_M_of_98 fl_M_34 tm_0 rfl rfl ?_
          refine gk_bipush (pc := 101) K d_M_of_101 kb_7 ?_
          refine gk_iload_n (pc := 103) K d_M_of_103 rfl ?_
          refine gk_imul (pc := 104) K d_M_of_104 ?_
          refine gk_iload_n (pc := 105) K d_M_of_105 rfl ?_
          refine gk_iadd (pc := 106) K d_M_of_106 ?_
          refine gk_bipush (pc := 107) K d_M_of_107 kb_20 ?_
          refine gk_isub (pc := 109) K d_M_of_109 ?_
          refine gk_iald (pc := 110) K d_M_of_110 tm_9 h (fun v8 h => ?_)
          refine gk_goto (tgt := 115) (pc := 111) K d_M_of_111 (by decide) ?_
          exact gk_iret (pc := 115) K d_M_of_115 rfl h
      · refine gk_aload_n (pc := 67) K d_M_of_67 rfl ?_
        refine gk_get (pc := 68) K d_M_of_68 fl_M_31 tm_0 rfl rfl ?_
        refine gk_iload_n (pc := 71) K d_M_of_71 rfl ?_
        refine gk_iald (pc := 72) K d_M_of_72 tm_8 h (fun v9 h => ?_)
        refine gk_goto (tgt := 115) (pc := 73) K d_M_of_73 (by decide) ?_
        exact gk_iret (pc := 115) K d_M_of_115 rfl h
    · refine gk_iconst (pc := 59) K d_M_of_59 kc_m1 ?_
      exact gk_iret (pc := 60) K d_M_of_60 rfl h
  · refine gk_aload_n (pc := 12) K d_M_of_12 rfl ?_
    refine gk_iload_n (pc := 13) K d_M_of_13 rfl ?_
    obtain ⟨v11, m10, em10, h⟩ := gk_bi_some h
    refine gk_cVi (As := [.int a1]) (pc := 14) K d_M_of_14 mv_M_142 mc_M_isTower rfl tm_0 cl_ok10.1 (s_M_isTower (gk_FD K)  em10) (by decide) rfl (Nat.le_of_ble_eq_true rfl) ?_
    refine gk_if_ne (tgt := 24) (pc := 17) K d_M_of_17 (by decide) h (fun h => ?_) (fun h => ?_)
    · refine gk_iload_n (pc := 24) K d_M_of_24 rfl ?_
      refine gk_if_ne (tgt := 37) (pc := 25) K d_M_of_25 (by decide) h (fun h => ?_) (fun h => ?_)
      · refine gk_aload_n (pc := 37) K d_M_of_37 rfl ?_
        refine gk_get (pc := 38) K d_M_of_38 fl_M_9 tm_0 rfl rfl ?_
        refine gk_bipush (pc := 41) K d_M_of_41 kb_10 ?_
        refine gk_iload_n (pc := 43) K d_M_of_43 rfl ?_
        refine gk_iconst (pc := 44) K d_M_of_44 kc_1 ?_
        refine gk_isub (pc := 45) K d_M_of_45 ?_
        refine gk_imul (pc := 46) K d_M_of_46 ?_
        refine gk_iload_n (pc := 47) K d_M_of_47 rfl ?_
        refine gk_iadd (pc := 48) K d_M_of_48 ?_
        refine gk_iald (pc := 49) K d_M_of_49 tm_1 h (fun v12 h => ?_)
        exact gk_iret (pc := 50) K d_M_of_50 rfl h
      · refine gk_aload_n (pc := 28) K d_M_of_28 rfl ?_
        refine gk_get (pc := 29) K d_M_of_29 fl_M_22 tm_0 rfl rfl ?_
        refine gk_iload_n (pc := 32) K d_M_of_32 rfl ?_
        refine gk_iald (pc := 33) K d_M_of_33 tm_5 h (fun v13 h => ?_)
        refine gk_goto (tgt := 50) (pc := 34) K d_M_of_34 (by decide) ?_
        exact gk_iret (pc := 50) K d_M_of_50 rfl h
    · refine gk_iconst (pc := 20) K d_M_of_20 kc_m1 ?_
      refine gk_goto (tgt := 50) (pc := 21) K d_M_of_21 (by decide) ?_
      exact gk_iret (pc := 50) K d_M_of_50 rfl h
theorem s_M_of {l : Launch} {u : gk_U} (hD : gk_D tm u) {a1 : Int32} {a2 : Int32} {m0 mem2 : gk_M} {r : Int32} (h : f_M_of a1 a2 m0 = some (r, mem2)) : gk_C tm l u me_M_of 3 [.ref 0, .int a1, .int a2] m0 (some (.int r)) mem2 :=
  gk_enter hD mc_M_of (Nat.le_of_ble_eq_true rfl) rfl (fun z _ _ K => s_M_of_0 K _ _ _  h)
theorem d_M_feed_0 : decode me_M_feed.2.1 0 = .ok (.iload_n 1, 1) := by decide +kernel
theorem d_M_feed_1 : decode me_M_feed.2.1 1 = .ok (.i2l, 1) := by decide +kernel
theorem d_M_feed_2 : decode me_M_feed.2.1 2 = .ok (.lconst 0, 1) := by decide +kernel
theorem d_M_feed_3 : decode me_M_feed.2.1 3 = .ok (.ldc2_w 155, 3) := by decide +kernel
theorem d_M_feed_6 : decode me_M_feed.2.1 6 = .ok (.invokestatic 102, 3) := by decide +kernel
theorem d_M_feed_9 : decode me_M_feed.2.1 9 = .ok (.ifCond .ne 5, 3) := by decide +kernel
theorem d_M_feed_12 : decode me_M_feed.2.1 12 = .ok (.iconst (-1), 1) := by decide +kernel
theorem d_M_feed_13 : decode me_M_feed.2.1 13 = .ok (.ireturn, 1) := by decide +kernel
theorem d_M_feed_14 : decode me_M_feed.2.1 14 = .ok (.aload_n 0, 1) := by decide +kernel
theorem d_M_feed_15 : decode me_M_feed.2.1 15 = .ok (.getfield 157, 3) := by decide +kernel
theorem d_M_feed_18 : decode me_M_feed.2.1 18 = .ok (.bipush 120, 2) := by decide +kernel
theorem d_M_feed_20 : decode me_M_feed.2.1 20 = .ok (.if_icmp .ne 6, 3) := by decide +kernel
theorem d_M_feed_23 : decode me_M_feed.2.1 23 = .ok (.bipush (-3), 2) := by decide +kernel
theorem d_M_feed_25 : decode me_M_feed.2.1 25 = .ok (.ireturn, 1) := by decide +kernel
theorem d_M_feed_26 : decode me_M_feed.2.1 26 = .ok (.aload_n 0, 1) := by decide +kernel
theorem d_M_feed_27 : decode me_M_feed.2.1 27 = .ok (.getfield 40, 3) := by decide +kernel
theorem d_M_feed_30 : decode me_M_feed.2.1 30 = .ok (.aload_n 0, 1) := by decide +kernel
theorem d_M_feed_31 : decode me_M_feed.2.1 31 = .ok (.getfield 157, 3) := by decide +kernel
theorem d_M_feed_34 : decode me_M_feed.2.1 34 = .ok (.iload_n 1, 1) := by decide +kernel
theorem d_M_feed_35 : decode me_M_feed.2.1 35 = .ok (.iastore, 1) := by decide +kernel
theorem d_M_feed_36 : decode me_M_feed.2.1 36 = .ok (.aload_n 0, 1) := by decide +kernel
theorem d_M_feed_37 : decode me_M_feed.2.1 37 = .ok (.dup, 1) := by decide +kernel
theorem d_M_feed_38 : decode me_M_feed.2.1 38 = .ok (.getfield 157, 3) := by decide +kernel
theorem d_M_feed_41 : decode me_M_feed.2.1 41 = .ok (.iconst 1, 1) := by decide +kernel
theorem d_M_feed_42 : decode me_M_feed.2.1 42 = .ok (.iadd, 1) := by decide +kernel
theorem d_M_feed_43 : decode me_M_feed.2.1 43 = .ok (.putfield 157, 3) := by decide +kernel
theorem d_M_feed_46 : decode me_M_feed.2.1 46 = .ok (.aload_n 0, 1) := by decide +kernel
theorem d_M_feed_47 : decode me_M_feed.2.1 47 = .ok (.getfield 157, 3) := by decide +kernel
theorem d_M_feed_50 : decode me_M_feed.2.1 50 = .ok (.ireturn, 1) := by decide +kernel
noncomputable def f_M_feed  (a1 : Int32) (m0 : gk_M) : Option (Int32 × gk_M) :=
  gk_bi (f_M_within a1.toInt64 0 255 m0) fun v2 m1 =>
  if ¬ v2 = 0 then
    if ¬ (m1.1 0 16) = 120 then
      gk_si m1 11 120 (m1.1 0 16) a1 fun m3 =>
      gk_let (gk_mi m3 0 16 ((m3.1 0 16) + 1)) fun m4 =>
      some ((m4.1 0 16), m4)
    else
      some ((-3), m1)
  else
    some ((-1), m1)

theorem s_M_feed_0 {z : gk_Z} (K : gk_F tm z me_M_feed 2) {r : Int32} {mem2 : gk_M} : ∀ a1 m0, f_M_feed a1 m0 = some (r, mem2) → gk_G tm z me_M_feed (gk_R tm z (some (.int r)) mem2) m0 [(0, .ref 0), (1, .int a1)] [] 0 := by
  intro a1 m0  h
  unfold f_M_feed at h
  refine gk_iload_n (pc := 0) K d_M_feed_0 rfl ?_
  refine gk_i2l (pc := 1) K d_M_feed_1 ?_
  refine gk_lconst (pc := 2) K d_M_feed_2 kl_0 ?_
  refine gk_ldc2 (pc := 3) K d_M_feed_3 lc_M_155 ?_
  obtain ⟨v2, m1, em1, h⟩ := gk_bi_some h
  refine gk_cSi (As := [.long a1.toInt64, .long 0, .long 255]) (pc := 6) K d_M_feed_6 ms_M_102 mc_M_within rfl (s_M_within (gk_FD K)  em1) (by decide) rfl (Nat.le_of_ble_eq_true rfl) ?_
  refine gk_if_ne (tgt := 14) (pc := 9) K d_M_feed_9 (by decide) h (fun h => ?_) (fun h => ?_)
  · refine gk_aload_n (pc := 14) K d_M_feed_14 rfl ?_
    refine gk_get (pc := 15) K d_M_feed_15 fl_M_157 tm_0 rfl rfl ?_
    refine gk_bipush (pc := 18) K d_M_feed_18 kb_120 ?_
    refine gk_ic_ne (tgt := 26) (pc := 20) K d_M_feed_20 (by decide) h (fun h => ?_) (fun h => ?_)
    · refine gk_aload_n (pc := 26) K d_M_feed_26 rfl ?_
      refine gk_get (pc := 27) K d_M_feed_27 fl_M_40 tm_0 rfl rfl ?_
      refine gk_aload_n (pc := 30) K d_M_feed_30 rfl ?_
      refine gk_get (pc := 31) K d_M_feed_31 fl_M_157 tm_0 rfl rfl ?_
      refine gk_iload_n (pc := 34) K d_M_feed_34 rfl ?_
      refine gk_iast (pc := 35) K d_M_feed_35 tm_11 h (fun m3 h => ?_)
      refine gk_aload_n (pc := 36) K d_M_feed_36 rfl ?_
      refine gk_dup (pc := 37) K d_M_feed_37 rfl ?_
      refine gk_get (pc := 38) K d_M_feed_38 fl_M_157 tm_0 rfl rfl ?_
      refine gk_iconst (pc := 41) K d_M_feed_41 kc_1 ?_
      refine gk_iadd (pc := 42) K d_M_feed_42 ?_
      refine gk_puti (pc := 43) K d_M_feed_43 fp_M_157 tm_0 rfl h (fun m4 h => ?_)
      refine gk_aload_n (pc := 46) K d_M_feed_46 rfl ?_
      refine gk_get (pc := 47) K d_M_feed_47 fl_M_157 tm_0 rfl rfl ?_
      exact gk_iret (pc := 50) K d_M_feed_50 rfl h
    · refine gk_bipush (pc := 23) K d_M_feed_23 kb_m3 ?_
      exact gk_iret (pc := 25) K d_M_feed_25 rfl h
  · refine gk_iconst (pc := 12) K d_M_feed_12 kc_m1 ?_
    exact gk_iret (pc := 13) K d_M_feed_13 rfl h
theorem s_M_feed {l : Launch} {u : gk_U} (hD : gk_D tm u) {a1 : Int32} {m0 mem2 : gk_M} {r : Int32} (h : f_M_feed a1 m0 = some (r, mem2)) : gk_C tm l u me_M_feed 2 [.ref 0, .int a1] m0 (some (.int r)) mem2 :=
  gk_enter hD mc_M_feed (Nat.le_of_ble_eq_true rfl) rfl (fun z _ _ K => s_M_feed_0 K _ _  h)
theorem d_M_byteAt_0 : decode me_M_byteAt.2.1 0 = .ok (.aload_n 0, 1) := by decide +kernel
theorem d_M_byteAt_1 : decode me_M_byteAt.2.1 1 = .ok (.getfield 160, 3) := by decide +kernel
theorem d_M_byteAt_4 : decode me_M_byteAt.2.1 4 = .ok (.aload_n 0, 1) := by decide +kernel
theorem d_M_byteAt_5 : decode me_M_byteAt.2.1 5 = .ok (.getfield 163, 3) := by decide +kernel
theorem d_M_byteAt_8 : decode me_M_byteAt.2.1 8 = .ok (.if_icmp .ge 39, 3) := by decide +kernel
theorem d_M_byteAt_11 : decode me_M_byteAt.2.1 11 = .ok (.aload_n 0, 1) := by decide +kernel
theorem d_M_byteAt_12 : decode me_M_byteAt.2.1 12 = .ok (.getfield 166, 3) := by decide +kernel
theorem d_M_byteAt_15 : decode me_M_byteAt.2.1 15 = .ok (.ifCond .ge 15, 3) := by decide +kernel
theorem d_M_byteAt_18 : decode me_M_byteAt.2.1 18 = .ok (.aload_n 0, 1) := by decide +kernel
theorem d_M_byteAt_19 : decode me_M_byteAt.2.1 19 = .ok (.getfield 40, 3) := by decide +kernel
theorem d_M_byteAt_22 : decode me_M_byteAt.2.1 22 = .ok (.aload_n 0, 1) := by decide +kernel
theorem d_M_byteAt_23 : decode me_M_byteAt.2.1 23 = .ok (.getfield 160, 3) := by decide +kernel
theorem d_M_byteAt_26 : decode me_M_byteAt.2.1 26 = .ok (.iaload, 1) := by decide +kernel
theorem d_M_byteAt_27 : decode me_M_byteAt.2.1 27 = .ok (.goto 21, 3) := by decide +kernel
theorem d_M_byteAt_30 : decode me_M_byteAt.2.1 30 = .ok (.aload_n 0, 1) := by decide +kernel
theorem d_M_byteAt_31 : decode me_M_byteAt.2.1 31 = .ok (.getfield 43, 3) := by decide +kernel
theorem d_M_byteAt_34 : decode me_M_byteAt.2.1 34 = .ok (.aload_n 0, 1) := by decide +kernel
theorem d_M_byteAt_35 : decode me_M_byteAt.2.1 35 = .ok (.getfield 166, 3) := by decide +kernel
theorem d_M_byteAt_38 : decode me_M_byteAt.2.1 38 = .ok (.aload_n 0, 1) := by decide +kernel
theorem d_M_byteAt_39 : decode me_M_byteAt.2.1 39 = .ok (.getfield 160, 3) := by decide +kernel
theorem d_M_byteAt_42 : decode me_M_byteAt.2.1 42 = .ok (.iadd, 1) := by decide +kernel
theorem d_M_byteAt_43 : decode me_M_byteAt.2.1 43 = .ok (.iaload, 1) := by decide +kernel
theorem d_M_byteAt_44 : decode me_M_byteAt.2.1 44 = .ok (.goto 4, 3) := by decide +kernel
theorem d_M_byteAt_47 : decode me_M_byteAt.2.1 47 = .ok (.iconst 0, 1) := by decide +kernel
theorem d_M_byteAt_48 : decode me_M_byteAt.2.1 48 = .ok (.ireturn, 1) := by decide +kernel
noncomputable def f_M_byteAt   (m0 : gk_M) : Option (Int32 × gk_M) :=
  if (m0.1 0 21) ≤ (m0.1 0 20) then
    some (0, m0)
  else
    if 0 ≤ (m0.1 0 19) then
      gk_ai m0 12 120 ((m0.1 0 19) + (m0.1 0 20)) fun v1 =>
      some (v1, m0)
    else
      gk_ai m0 11 120 (m0.1 0 20) fun v2 =>
      some (v2, m0)

theorem s_M_byteAt_0 {z : gk_Z} (K : gk_F tm z me_M_byteAt 1) {r : Int32} {mem2 : gk_M} : ∀  m0, f_M_byteAt  m0 = some (r, mem2) → gk_G tm z me_M_byteAt (gk_R tm z (some (.int r)) mem2) m0 [(0, .ref 0)] [] 0 := by
  intro  m0  h
  unfold f_M_byteAt at h
  refine gk_aload_n (pc := 0) K d_M_byteAt_0 rfl ?_
  refine gk_get (pc := 1) K d_M_byteAt_1 fl_M_160 tm_0 rfl rfl ?_
  refine gk_aload_n (pc := 4) K d_M_byteAt_4 rfl ?_
  refine gk_get (pc := 5) K d_M_byteAt_5 fl_M_163 tm_0 rfl rfl ?_
  refine gk_ic_ge (tgt := 47) (pc := 8) K d_M_byteAt_8 (by decide) h (fun h => ?_) (fun h => ?_)
  · refine gk_iconst (pc := 47) K d_M_byteAt_47 kc_0 ?_
    exact gk_iret (pc := 48) K d_M_byteAt_48 rfl h
  · refine gk_aload_n (pc := 11) K d_M_byteAt_11 rfl ?_
    refine gk_get (pc := 12) K d_M_byteAt_12 fl_M_166 tm_0 rfl rfl ?_
    refine gk_if_ge (tgt := 30) (pc := 15) K d_M_byteAt_15 (by decide) h (fun h => ?_) (fun h => ?_)
    · refine gk_aload_n (pc := 30) K d_M_byteAt_30 rfl ?_
      refine gk_get (pc := 31) K d_M_byteAt_31 fl_M_43 tm_0 rfl rfl ?_
      refine gk_aload_n (pc := 34) K d_M_byteAt_34 rfl ?_
      refine gk_get (pc := 35) K d_M_byteAt_35 fl_M_166 tm_0 rfl rfl ?_
      refine gk_aload_n (pc := 38) K d_M_byteAt_38 rfl ?_
      refine gk_get (pc := 39) K d_M_byteAt_39 fl_M_160 tm_0 rfl rfl ?_
      refine gk_iadd (pc := 42) K d_M_byteAt_42 ?_
      refine gk_iald (pc := 43) K d_M_byteAt_43 tm_12 h (fun v1 h => ?_)
      refine gk_goto (tgt := 48) (pc := 44) K d_M_byteAt_44 (by decide) ?_
      exact gk_iret (pc := 48) K d_M_byteAt_48 rfl h
    · refine gk_aload_n (pc := 18) K d_M_byteAt_18 rfl ?_
      refine gk_get (pc := 19) K d_M_byteAt_19 fl_M_40 tm_0 rfl rfl ?_
      refine gk_aload_n (pc := 22) K d_M_byteAt_22 rfl ?_
      refine gk_get (pc := 23) K d_M_byteAt_23 fl_M_160 tm_0 rfl rfl ?_
      refine gk_iald (pc := 26) K d_M_byteAt_26 tm_11 h (fun v2 h => ?_)
      refine gk_goto (tgt := 48) (pc := 27) K d_M_byteAt_27 (by decide) ?_
      exact gk_iret (pc := 48) K d_M_byteAt_48 rfl h
theorem s_M_byteAt {l : Launch} {u : gk_U} (hD : gk_D tm u) {m0 mem2 : gk_M} {r : Int32} (h : f_M_byteAt  m0 = some (r, mem2)) : gk_C tm l u me_M_byteAt 1 [.ref 0] m0 (some (.int r)) mem2 :=
  gk_enter hD mc_M_byteAt (Nat.le_of_ble_eq_true rfl) rfl (fun z _ _ K => s_M_byteAt_0 K  _  h)
theorem d_M_wrong_0 : decode me_M_wrong.2.1 0 = .ok (.aload_n 0, 1) := by decide +kernel
theorem d_M_wrong_1 : decode me_M_wrong.2.1 1 = .ok (.aload_n 0, 1) := by decide +kernel
theorem d_M_wrong_2 : decode me_M_wrong.2.1 2 = .ok (.getfield 169, 3) := by decide +kernel
theorem d_M_wrong_5 : decode me_M_wrong.2.1 5 = .ok (.ifCond .ge 10, 3) := by decide +kernel
theorem d_M_wrong_8 : decode me_M_wrong.2.1 8 = .ok (.aload_n 0, 1) := by decide +kernel
theorem d_M_wrong_9 : decode me_M_wrong.2.1 9 = .ok (.getfield 160, 3) := by decide +kernel
theorem d_M_wrong_12 : decode me_M_wrong.2.1 12 = .ok (.goto 7, 3) := by decide +kernel
theorem d_M_wrong_15 : decode me_M_wrong.2.1 15 = .ok (.aload_n 0, 1) := by decide +kernel
theorem d_M_wrong_16 : decode me_M_wrong.2.1 16 = .ok (.getfield 169, 3) := by decide +kernel
theorem d_M_wrong_19 : decode me_M_wrong.2.1 19 = .ok (.putfield 169, 3) := by decide +kernel
theorem d_M_wrong_22 : decode me_M_wrong.2.1 22 = .ok (.iconst 0, 1) := by decide +kernel
theorem d_M_wrong_23 : decode me_M_wrong.2.1 23 = .ok (.ireturn, 1) := by decide +kernel
noncomputable def f_M_wrong_19  (s1 : Int32) (m0 : gk_M) : Option (Int32 × gk_M) :=
  gk_let (gk_mi m0 0 22 s1) fun m1 =>
  some (0, m1)

theorem s_M_wrong_19 {z : gk_Z} (K : gk_F tm z me_M_wrong 1) {r : Int32} {mem2 : gk_M} : ∀ s1 m0, f_M_wrong_19 s1 m0 = some (r, mem2) → gk_G tm z me_M_wrong (gk_R tm z (some (.int r)) mem2) m0 [] [.int s1, .ref 0] 19 := by
  intro s1 m0  h
  unfold f_M_wrong_19 at h
  refine gk_puti (pc := 19) K d_M_wrong_19 fp_M_169 tm_0 rfl h (fun m1 h => ?_)
  refine gk_iconst (pc := 22) K d_M_wrong_22 kc_0 ?_
  exact gk_iret (pc := 23) K d_M_wrong_23 rfl h
noncomputable def f_M_wrong   (m0 : gk_M) : Option (Int32 × gk_M) :=
  if 0 ≤ (m0.1 0 22) then
    f_M_wrong_19 (m0.1 0 22) m0
  else
    f_M_wrong_19 (m0.1 0 20) m0

theorem s_M_wrong_0 {z : gk_Z} (K : gk_F tm z me_M_wrong 1) {r : Int32} {mem2 : gk_M} : ∀  m0, f_M_wrong  m0 = some (r, mem2) → gk_G tm z me_M_wrong (gk_R tm z (some (.int r)) mem2) m0 [(0, .ref 0)] [] 0 := by
  intro  m0  h
  unfold f_M_wrong at h
  refine gk_aload_n (pc := 0) K d_M_wrong_0 rfl ?_
  refine gk_aload_n (pc := 1) K d_M_wrong_1 rfl ?_
  refine gk_get (pc := 2) K d_M_wrong_2 fl_M_169 tm_0 rfl rfl ?_
  refine gk_if_ge (tgt := 15) (pc := 5) K d_M_wrong_5 (by decide) h (fun h => ?_) (fun h => ?_)
  · refine gk_aload_n (pc := 15) K d_M_wrong_15 rfl ?_
    refine gk_get (pc := 16) K d_M_wrong_16 fl_M_169 tm_0 rfl rfl ?_
    exact gk_sub [] rfl (s_M_wrong_19 K _ _  h)
  · refine gk_aload_n (pc := 8) K d_M_wrong_8 rfl ?_
    refine gk_get (pc := 9) K d_M_wrong_9 fl_M_160 tm_0 rfl rfl ?_
    refine gk_goto (tgt := 19) (pc := 12) K d_M_wrong_12 (by decide) ?_
    exact gk_sub [] rfl (s_M_wrong_19 K _ _  h)
theorem s_M_wrong {l : Launch} {u : gk_U} (hD : gk_D tm u) {m0 mem2 : gk_M} {r : Int32} (h : f_M_wrong  m0 = some (r, mem2)) : gk_C tm l u me_M_wrong 1 [.ref 0] m0 (some (.int r)) mem2 :=
  gk_enter hD mc_M_wrong (Nat.le_of_ble_eq_true rfl) rfl (fun z _ _ K => s_M_wrong_0 K  _  h)
theorem d_M_takes_0 : decode me_M_takes.2.1 0 = .ok (.aload_n 0, 1) := by decide +kernel
theorem d_M_takes_1 : decode me_M_takes.2.1 1 = .ok (.getfield 169, 3) := by decide +kernel
theorem d_M_takes_4 : decode me_M_takes.2.1 4 = .ok (.ifCond .ge 11, 3) := by decide +kernel
theorem d_M_takes_7 : decode me_M_takes.2.1 7 = .ok (.aload_n 0, 1) := by decide +kernel
theorem d_M_takes_8 : decode me_M_takes.2.1 8 = .ok (.invokevirtual 172, 3) := by decide +kernel
theorem d_M_takes_11 : decode me_M_takes.2.1 11 = .ok (.iload_n 1, 1) := by decide +kernel
theorem d_M_takes_12 : decode me_M_takes.2.1 12 = .ok (.if_icmp .eq 5, 3) := by decide +kernel
theorem d_M_takes_15 : decode me_M_takes.2.1 15 = .ok (.iconst 0, 1) := by decide +kernel
theorem d_M_takes_16 : decode me_M_takes.2.1 16 = .ok (.ireturn, 1) := by decide +kernel
theorem d_M_takes_17 : decode me_M_takes.2.1 17 = .ok (.aload_n 0, 1) := by decide +kernel
theorem d_M_takes_18 : decode me_M_takes.2.1 18 = .ok (.dup, 1) := by decide +kernel
theorem d_M_takes_19 : decode me_M_takes.2.1 19 = .ok (.getfield 160, 3) := by decide +kernel
theorem d_M_takes_22 : decode me_M_takes.2.1 22 = .ok (.iconst 1, 1) := by decide +kernel
theorem d_M_takes_23 : decode me_M_takes.2.1 23 = .ok (.iadd, 1) := by decide +kernel
theorem d_M_takes_24 : decode me_M_takes.2.1 24 = .ok (.putfield 160, 3) := by decide +kernel
theorem d_M_takes_27 : decode me_M_takes.2.1 27 = .ok (.iconst 1, 1) := by decide +kernel
theorem d_M_takes_28 : decode me_M_takes.2.1 28 = .ok (.ireturn, 1) := by decide +kernel
noncomputable def f_M_takes  (a1 : Int32) (m0 : gk_M) : Option (Int32 × gk_M) :=
  if 0 ≤ (m0.1 0 22) then
    some (0, m0)
  else
    gk_bi (f_M_byteAt  m0) fun v2 m1 =>
    if v2 = a1 then
      gk_let (gk_mi m1 0 20 ((m1.1 0 20) + 1)) fun m3 =>
      some (1, m3)
    else
      some (0, m1)

theorem s_M_takes_0 {z : gk_Z} (K : gk_F tm z me_M_takes 2) {r : Int32} {mem2 : gk_M} : ∀ a1 m0, f_M_takes a1 m0 = some (r, mem2) → gk_G tm z me_M_takes (gk_R tm z (some (.int r)) mem2) m0 [(0, .ref 0), (1, .int a1)] [] 0 := by
  intro a1 m0  h
  unfold f_M_takes at h
  refine gk_aload_n (pc := 0) K d_M_takes_0 rfl ?_
  refine gk_get (pc := 1) K d_M_takes_1 fl_M_169 tm_0 rfl rfl ?_
  refine gk_if_ge (tgt := 15) (pc := 4) K d_M_takes_4 (by decide) h (fun h => ?_) (fun h => ?_)
  · refine gk_iconst (pc := 15) K d_M_takes_15 kc_0 ?_
    exact gk_zretc (pc := 16) K d_M_takes_16 rfl (Or.inl rfl) h
  · refine gk_aload_n (pc := 7) K d_M_takes_7 rfl ?_
    obtain ⟨v2, m1, em1, h⟩ := gk_bi_some h
    refine gk_cVi (As := []) (pc := 8) K d_M_takes_8 mv_M_172 mc_M_byteAt rfl tm_0 cl_ok10.1 (s_M_byteAt (gk_FD K)  em1) (by decide) rfl (Nat.le_of_ble_eq_true rfl) ?_
    refine gk_iload_n (pc := 11) K d_M_takes_11 rfl ?_
    refine gk_ic_eq (tgt := 17) (pc := 12) K d_M_takes_12 (by decide) h (fun h => ?_) (fun h => ?_)
    · refine gk_aload_n (pc := 17) K d_M_takes_17 rfl ?_
      refine gk_dup (pc := 18) K d_M_takes_18 rfl ?_
      refine gk_get (pc := 19) K d_M_takes_19 fl_M_160 tm_0 rfl rfl ?_
      refine gk_iconst (pc := 22) K d_M_takes_22 kc_1 ?_
      refine gk_iadd (pc := 23) K d_M_takes_23 ?_
      refine gk_puti (pc := 24) K d_M_takes_24 fp_M_160 tm_0 rfl h (fun m3 h => ?_)
      refine gk_iconst (pc := 27) K d_M_takes_27 kc_1 ?_
      exact gk_zretc (pc := 28) K d_M_takes_28 rfl (Or.inr rfl) h
    · refine gk_iconst (pc := 15) K d_M_takes_15 kc_0 ?_
      exact gk_zretc (pc := 16) K d_M_takes_16 rfl (Or.inl rfl) h
theorem s_M_takes {l : Launch} {u : gk_U} (hD : gk_D tm u) {a1 : Int32} {m0 mem2 : gk_M} {r : Int32} (h : f_M_takes a1 m0 = some (r, mem2)) : gk_C tm l u me_M_takes 2 [.ref 0, .int a1] m0 (some (.int r)) mem2 :=
  gk_enter hD mc_M_takes (Nat.le_of_ble_eq_true rfl) rfl (fun z _ _ K => s_M_takes_0 K _ _  h)
theorem d_M_nameOf_0 : decode me_M_nameOf.2.1 0 = .ok (.iload_n 0, 1) := by decide +kernel
theorem d_M_nameOf_1 : decode me_M_nameOf.2.1 1 = .ok (.tableswitch 87 97 111 #[75, 77, 87, 87, 87, 87, 87, 87, 87, 87, 81, 87, 85, 83, 79], 75) := by decide +kernel
theorem d_M_nameOf_76 : decode me_M_nameOf.2.1 76 = .ok (.iconst 0, 1) := by decide +kernel
theorem d_M_nameOf_77 : decode me_M_nameOf.2.1 77 = .ok (.ireturn, 1) := by decide +kernel
theorem d_M_nameOf_78 : decode me_M_nameOf.2.1 78 = .ok (.iconst 1, 1) := by decide +kernel
theorem d_M_nameOf_79 : decode me_M_nameOf.2.1 79 = .ok (.ireturn, 1) := by decide +kernel
theorem d_M_nameOf_80 : decode me_M_nameOf.2.1 80 = .ok (.iconst 2, 1) := by decide +kernel
theorem d_M_nameOf_81 : decode me_M_nameOf.2.1 81 = .ok (.ireturn, 1) := by decide +kernel
theorem d_M_nameOf_82 : decode me_M_nameOf.2.1 82 = .ok (.iconst 3, 1) := by decide +kernel
theorem d_M_nameOf_83 : decode me_M_nameOf.2.1 83 = .ok (.ireturn, 1) := by decide +kernel
theorem d_M_nameOf_84 : decode me_M_nameOf.2.1 84 = .ok (.iconst 4, 1) := by decide +kernel
theorem d_M_nameOf_85 : decode me_M_nameOf.2.1 85 = .ok (.ireturn, 1) := by decide +kernel
theorem d_M_nameOf_86 : decode me_M_nameOf.2.1 86 = .ok (.iconst 5, 1) := by decide +kernel
theorem d_M_nameOf_87 : decode me_M_nameOf.2.1 87 = .ok (.ireturn, 1) := by decide +kernel
theorem d_M_nameOf_88 : decode me_M_nameOf.2.1 88 = .ok (.iconst (-1), 1) := by decide +kernel
theorem d_M_nameOf_89 : decode me_M_nameOf.2.1 89 = .ok (.ireturn, 1) := by decide +kernel
noncomputable def f_M_nameOf  (a0 : Int32) (m0 : gk_M) : Option (Int32 × gk_M) :=
  if a0 = 97 then
    some (0, m0)
  else
    if a0 = 98 then
      some (1, m0)
    else
      if a0 = 99 then
        some ((-1), m0)
      else
        if a0 = 100 then
          some ((-1), m0)
        else
          if a0 = 101 then
            some ((-1), m0)
          else
            if a0 = 102 then
              some ((-1), m0)
            else
              if a0 = 103 then
                some ((-1), m0)
              else
                if a0 = 104 then
                  some ((-1), m0)
                else
                  if a0 = 105 then
                    some ((-1), m0)
                  else
                    if a0 = 106 then
                      some ((-1), m0)
                    else
                      if a0 = 107 then
                        some (3, m0)
                      else
                        if a0 = 108 then
                          some ((-1), m0)
                        else
                          if a0 = 109 then
                            some (5, m0)
                          else
                            if a0 = 110 then
                              some (4, m0)
                            else
                              if a0 = 111 then
                                some (2, m0)
                              else
                                some ((-1), m0)

theorem s_M_nameOf_0 {z : gk_Z} (K : gk_F tm z me_M_nameOf 1) {r : Int32} {mem2 : gk_M} : ∀ a0 m0, f_M_nameOf a0 m0 = some (r, mem2) → gk_G tm z me_M_nameOf (gk_R tm z (some (.int r)) mem2) m0 [(0, .int a0)] [] 0 := by
  intro a0 m0  h
  unfold f_M_nameOf at h
  refine gk_iload_n (pc := 0) K d_M_nameOf_0 rfl ?_
  refine gk_ite (c := a0 = 97) h (fun c1 h => ?_) (fun c1 h => ?_)
  · refine gk_tIn (tgt := 76) (pc := 1) K d_M_nameOf_1 c1 (by decide) (by decide) rfl (by decide) ?_
    refine gk_iconst (pc := 76) K d_M_nameOf_76 kc_0 ?_
    exact gk_iret (pc := 77) K d_M_nameOf_77 rfl h
  · skip
    refine gk_ite (c := a0 = 98) h (fun c2 h => ?_) (fun c2 h => ?_)
    · refine gk_tIn (tgt := 78) (pc := 1) K d_M_nameOf_1 c2 (by decide) (by decide) rfl (by decide) ?_
      refine gk_iconst (pc := 78) K d_M_nameOf_78 kc_1 ?_
      exact gk_iret (pc := 79) K d_M_nameOf_79 rfl h
    · skip
      refine gk_ite (c := a0 = 99) h (fun c3 h => ?_) (fun c3 h => ?_)
      · refine gk_tIn (tgt := 88) (pc := 1) K d_M_nameOf_1 c3 (by decide) (by decide) rfl (by decide) ?_
        refine gk_iconst (pc := 88) K d_M_nameOf_88 kc_m1 ?_
        exact gk_iret (pc := 89) K d_M_nameOf_89 rfl h
      · skip
        refine gk_ite (c := a0 = 100) h (fun c4 h => ?_) (fun c4 h => ?_)
        · refine gk_tIn (tgt := 88) (pc := 1) K d_M_nameOf_1 c4 (by decide) (by decide) rfl (by decide) ?_
          refine gk_iconst (pc := 88) K d_M_nameOf_88 kc_m1 ?_
          exact gk_iret (pc := 89) K d_M_nameOf_89 rfl h
        · skip
          refine gk_ite (c := a0 = 101) h (fun c5 h => ?_) (fun c5 h => ?_)
          · refine gk_tIn (tgt := 88) (pc := 1) K d_M_nameOf_1 c5 (by decide) (by decide) rfl (by decide) ?_
            refine gk_iconst (pc := 88) K d_M_nameOf_88 kc_m1 ?_
            exact gk_iret (pc := 89) K d_M_nameOf_89 rfl h
          · skip
            refine gk_ite (c := a0 = 102) h (fun c6 h => ?_) (fun c6 h => ?_)
            · refine gk_tIn (tgt := 88) (pc := 1) K d_M_nameOf_1 c6 (by decide) (by decide) rfl (by decide) ?_
              refine gk_iconst (pc := 88) K d_M_nameOf_88 kc_m1 ?_
              exact gk_iret (pc := 89) K d_M_nameOf_89 rfl h
            · skip
              refine gk_ite (c := a0 = 103) h (fun c7 h => ?_) (fun c7 h => ?_)
              · refine gk_tIn (tgt := 88) (pc := 1) K d_M_nameOf_1 c7 (by decide) (by decide) rfl (by decide) ?_
                refine gk_iconst (pc := 88) K d_M_nameOf_88 kc_m1 ?_
                exact gk_iret (pc := 89) K d_M_nameOf_89 rfl h
              · skip
                refine gk_ite (c := a0 = 104) h (fun c8 h => ?_) (fun c8 h => ?_)
                · refine gk_tIn (tgt := 88) (pc := 1) K d_M_nameOf_1 c8 (by decide) (by decide) rfl (by decide) ?_
                  refine gk_iconst (pc := 88) K d_M_nameOf_88 kc_m1 ?_
                  exact gk_iret (pc := 89) K d_M_nameOf_89 rfl h
                · skip
                  refine gk_ite (c := a0 = 105) h (fun c9 h => ?_) (fun c9 h => ?_)
                  · refine gk_tIn (tgt := 88) (pc := 1) K d_M_nameOf_1 c9 (by decide) (by decide) rfl (by decide) ?_
                    refine gk_iconst (pc := 88) K d_M_nameOf_88 kc_m1 ?_
                    exact gk_iret (pc := 89) K d_M_nameOf_89 rfl h
                  · skip
                    refine gk_ite (c := a0 = 106) h (fun c10 h => ?_) (fun c10 h => ?_)
                    · refine gk_tIn (tgt := 88) (pc := 1) K d_M_nameOf_1 c10 (by decide) (by decide) rfl (by decide) ?_
                      refine gk_iconst (pc := 88) K d_M_nameOf_88 kc_m1 ?_
                      exact gk_iret (pc := 89) K d_M_nameOf_89 rfl h
                    · skip
                      refine gk_ite (c := a0 = 107) h (fun c11 h => ?_) (fun c11 h => ?_)
                      · refine gk_tIn (tgt := 82) (pc := 1) K d_M_nameOf_1 c11 (by decide) (by decide) rfl (by decide) ?_
                        refine gk_iconst (pc := 82) K d_M_nameOf_82 kc_3 ?_
                        exact gk_iret (pc := 83) K d_M_nameOf_83 rfl h
                      · skip
                        refine gk_ite (c := a0 = 108) h (fun c12 h => ?_) (fun c12 h => ?_)
                        · refine gk_tIn (tgt := 88) (pc := 1) K d_M_nameOf_1 c12 (by decide) (by decide) rfl (by decide) ?_
                          refine gk_iconst (pc := 88) K d_M_nameOf_88 kc_m1 ?_
                          exact gk_iret (pc := 89) K d_M_nameOf_89 rfl h
                        · skip
                          refine gk_ite (c := a0 = 109) h (fun c13 h => ?_) (fun c13 h => ?_)
                          · refine gk_tIn (tgt := 86) (pc := 1) K d_M_nameOf_1 c13 (by decide) (by decide) rfl (by decide) ?_
                            refine gk_iconst (pc := 86) K d_M_nameOf_86 kc_5 ?_
                            exact gk_iret (pc := 87) K d_M_nameOf_87 rfl h
                          · skip
                            refine gk_ite (c := a0 = 110) h (fun c14 h => ?_) (fun c14 h => ?_)
                            · refine gk_tIn (tgt := 84) (pc := 1) K d_M_nameOf_1 c14 (by decide) (by decide) rfl (by decide) ?_
                              refine gk_iconst (pc := 84) K d_M_nameOf_84 kc_4 ?_
                              exact gk_iret (pc := 85) K d_M_nameOf_85 rfl h
                            · skip
                              refine gk_ite (c := a0 = 111) h (fun c15 h => ?_) (fun c15 h => ?_)
                              · refine gk_tIn (tgt := 80) (pc := 1) K d_M_nameOf_1 c15 (by decide) (by decide) rfl (by decide) ?_
                                refine gk_iconst (pc := 80) K d_M_nameOf_80 kc_2 ?_
                                exact gk_iret (pc := 81) K d_M_nameOf_81 rfl h
                              · skip
                                have gc1 := gk_neq c1 (a := 97) (by decide)
                                have gc2 := gk_neq c2 (a := 98) (by decide)
                                have gc3 := gk_neq c3 (a := 99) (by decide)
                                have gc4 := gk_neq c4 (a := 100) (by decide)
                                have gc5 := gk_neq c5 (a := 101) (by decide)
                                have gc6 := gk_neq c6 (a := 102) (by decide)
                                have gc7 := gk_neq c7 (a := 103) (by decide)
                                have gc8 := gk_neq c8 (a := 104) (by decide)
                                have gc9 := gk_neq c9 (a := 105) (by decide)
                                have gc10 := gk_neq c10 (a := 106) (by decide)
                                have gc11 := gk_neq c11 (a := 107) (by decide)
                                have gc12 := gk_neq c12 (a := 108) (by decide)
                                have gc13 := gk_neq c13 (a := 109) (by decide)
                                have gc14 := gk_neq c14 (a := 110) (by decide)
                                have gc15 := gk_neq c15 (a := 111) (by decide)
                                refine gk_tOut (tgt := 88) (pc := 1) K d_M_nameOf_1 (by omega) (by decide) ?_
                                refine gk_iconst (pc := 88) K d_M_nameOf_88 kc_m1 ?_
                                exact gk_iret (pc := 89) K d_M_nameOf_89 rfl h
theorem s_M_nameOf {l : Launch} {u : gk_U} (hD : gk_D tm u) {a0 : Int32} {m0 mem2 : gk_M} {r : Int32} (h : f_M_nameOf a0 m0 = some (r, mem2)) : gk_C tm l u me_M_nameOf 1 [.int a0] m0 (some (.int r)) mem2 :=
  gk_enter hD mc_M_nameOf (Nat.le_of_ble_eq_true rfl) rfl (fun z _ _ K => s_M_nameOf_0 K _ _  h)
theorem d_M_one_0 : decode me_M_one.2.1 0 = .ok (.aload_n 0, 1) := by decide +kernel
theorem d_M_one_1 : decode me_M_one.2.1 1 = .ok (.getfield 169, 3) := by decide +kernel
theorem d_M_one_4 : decode me_M_one.2.1 4 = .ok (.ifCond .lt 5, 3) := by decide +kernel
theorem d_M_one_7 : decode me_M_one.2.1 7 = .ok (.iconst 0, 1) := by decide +kernel
theorem d_M_one_8 : decode me_M_one.2.1 8 = .ok (.ireturn, 1) := by decide +kernel
theorem d_M_one_9 : decode me_M_one.2.1 9 = .ok (.aload_n 0, 1) := by decide +kernel
theorem d_M_one_10 : decode me_M_one.2.1 10 = .ok (.invokevirtual 172, 3) := by decide +kernel
theorem d_M_one_13 : decode me_M_one.2.1 13 = .ok (.istore_n 1, 1) := by decide +kernel
theorem d_M_one_14 : decode me_M_one.2.1 14 = .ok (.iload_n 1, 1) := by decide +kernel
theorem d_M_one_15 : decode me_M_one.2.1 15 = .ok (.bipush 33, 2) := by decide +kernel
theorem d_M_one_17 : decode me_M_one.2.1 17 = .ok (.if_icmp .eq 15, 3) := by decide +kernel
theorem d_M_one_20 : decode me_M_one.2.1 20 = .ok (.iload_n 1, 1) := by decide +kernel
theorem d_M_one_21 : decode me_M_one.2.1 21 = .ok (.bipush 45, 2) := by decide +kernel
theorem d_M_one_23 : decode me_M_one.2.1 23 = .ok (.if_icmp .eq 9, 3) := by decide +kernel
theorem d_M_one_26 : decode me_M_one.2.1 26 = .ok (.iload_n 1, 1) := by decide +kernel
theorem d_M_one_27 : decode me_M_one.2.1 27 = .ok (.bipush 40, 2) := by decide +kernel
theorem d_M_one_29 : decode me_M_one.2.1 29 = .ok (.if_icmp .ne 116, 3) := by decide +kernel
theorem d_M_one_32 : decode me_M_one.2.1 32 = .ok (.aload_n 0, 1) := by decide +kernel
theorem d_M_one_33 : decode me_M_one.2.1 33 = .ok (.getfield 194, 3) := by decide +kernel
theorem d_M_one_36 : decode me_M_one.2.1 36 = .ok (.bipush 6, 2) := by decide +kernel
theorem d_M_one_38 : decode me_M_one.2.1 38 = .ok (.if_icmp .ne 8, 3) := by decide +kernel
theorem d_M_one_41 : decode me_M_one.2.1 41 = .ok (.aload_n 0, 1) := by decide +kernel
theorem d_M_one_42 : decode me_M_one.2.1 42 = .ok (.invokevirtual 197, 3) := by decide +kernel
theorem d_M_one_45 : decode me_M_one.2.1 45 = .ok (.ireturn, 1) := by decide +kernel
theorem d_M_one_46 : decode me_M_one.2.1 46 = .ok (.aload_n 0, 1) := by decide +kernel
theorem d_M_one_47 : decode me_M_one.2.1 47 = .ok (.dup, 1) := by decide +kernel
theorem d_M_one_48 : decode me_M_one.2.1 48 = .ok (.getfield 194, 3) := by decide +kernel
theorem d_M_one_51 : decode me_M_one.2.1 51 = .ok (.iconst 1, 1) := by decide +kernel
theorem d_M_one_52 : decode me_M_one.2.1 52 = .ok (.iadd, 1) := by decide +kernel
theorem d_M_one_53 : decode me_M_one.2.1 53 = .ok (.putfield 194, 3) := by decide +kernel
theorem d_M_one_56 : decode me_M_one.2.1 56 = .ok (.aload_n 0, 1) := by decide +kernel
theorem d_M_one_57 : decode me_M_one.2.1 57 = .ok (.dup, 1) := by decide +kernel
theorem d_M_one_58 : decode me_M_one.2.1 58 = .ok (.getfield 160, 3) := by decide +kernel
theorem d_M_one_61 : decode me_M_one.2.1 61 = .ok (.iconst 1, 1) := by decide +kernel
theorem d_M_one_62 : decode me_M_one.2.1 62 = .ok (.iadd, 1) := by decide +kernel
theorem d_M_one_63 : decode me_M_one.2.1 63 = .ok (.putfield 160, 3) := by decide +kernel
theorem d_M_one_66 : decode me_M_one.2.1 66 = .ok (.iload_n 1, 1) := by decide +kernel
theorem d_M_one_67 : decode me_M_one.2.1 67 = .ok (.bipush 40, 2) := by decide +kernel
theorem d_M_one_69 : decode me_M_one.2.1 69 = .ok (.if_icmp .ne 10, 3) := by decide +kernel
theorem d_M_one_72 : decode me_M_one.2.1 72 = .ok (.aload_n 0, 1) := by decide +kernel
theorem d_M_one_73 : decode me_M_one.2.1 73 = .ok (.invokevirtual 200, 3) := by decide +kernel
theorem d_M_one_76 : decode me_M_one.2.1 76 = .ok (.goto 7, 3) := by decide +kernel
theorem d_M_one_79 : decode me_M_one.2.1 79 = .ok (.aload_n 0, 1) := by decide +kernel
theorem d_M_one_80 : decode me_M_one.2.1 80 = .ok (.invokevirtual 191, 3) := by decide +kernel
theorem d_M_one_83 : decode me_M_one.2.1 83 = .ok (.istore_n 2, 1) := by decide +kernel
theorem d_M_one_84 : decode me_M_one.2.1 84 = .ok (.iload_n 1, 1) := by decide +kernel
theorem d_M_one_85 : decode me_M_one.2.1 85 = .ok (.bipush 40, 2) := by decide +kernel
theorem d_M_one_87 : decode me_M_one.2.1 87 = .ok (.if_icmp .ne 17, 3) := by decide +kernel
theorem d_M_one_90 : decode me_M_one.2.1 90 = .ok (.aload_n 0, 1) := by decide +kernel
theorem d_M_one_91 : decode me_M_one.2.1 91 = .ok (.bipush 41, 2) := by decide +kernel
theorem d_M_one_93 : decode me_M_one.2.1 93 = .ok (.invokevirtual 179, 3) := by decide +kernel
theorem d_M_one_96 : decode me_M_one.2.1 96 = .ok (.ifCond .ne 8, 3) := by decide +kernel
theorem d_M_one_99 : decode me_M_one.2.1 99 = .ok (.aload_n 0, 1) := by decide +kernel
theorem d_M_one_100 : decode me_M_one.2.1 100 = .ok (.invokevirtual 197, 3) := by decide +kernel
theorem d_M_one_103 : decode me_M_one.2.1 103 = .ok (.ireturn, 1) := by decide +kernel
theorem d_M_one_104 : decode me_M_one.2.1 104 = .ok (.aload_n 0, 1) := by decide +kernel
theorem d_M_one_105 : decode me_M_one.2.1 105 = .ok (.dup, 1) := by decide +kernel
theorem d_M_one_106 : decode me_M_one.2.1 106 = .ok (.getfield 194, 3) := by decide +kernel
theorem d_M_one_109 : decode me_M_one.2.1 109 = .ok (.iconst 1, 1) := by decide +kernel
theorem d_M_one_110 : decode me_M_one.2.1 110 = .ok (.isub, 1) := by decide +kernel
theorem d_M_one_111 : decode me_M_one.2.1 111 = .ok (.putfield 194, 3) := by decide +kernel
theorem d_M_one_114 : decode me_M_one.2.1 114 = .ok (.iload_n 1, 1) := by decide +kernel
theorem d_M_one_115 : decode me_M_one.2.1 115 = .ok (.bipush 40, 2) := by decide +kernel
theorem d_M_one_117 : decode me_M_one.2.1 117 = .ok (.if_icmp .ne 7, 3) := by decide +kernel
theorem d_M_one_120 : decode me_M_one.2.1 120 = .ok (.iload_n 2, 1) := by decide +kernel
theorem d_M_one_121 : decode me_M_one.2.1 121 = .ok (.goto 23, 3) := by decide +kernel
theorem d_M_one_124 : decode me_M_one.2.1 124 = .ok (.iload_n 1, 1) := by decide +kernel
theorem d_M_one_125 : decode me_M_one.2.1 125 = .ok (.bipush 45, 2) := by decide +kernel
theorem d_M_one_127 : decode me_M_one.2.1 127 = .ok (.if_icmp .ne 8, 3) := by decide +kernel
theorem d_M_one_130 : decode me_M_one.2.1 130 = .ok (.iload_n 2, 1) := by decide +kernel
theorem d_M_one_131 : decode me_M_one.2.1 131 = .ok (.ineg, 1) := by decide +kernel
theorem d_M_one_132 : decode me_M_one.2.1 132 = .ok (.goto 12, 3) := by decide +kernel
theorem d_M_one_135 : decode me_M_one.2.1 135 = .ok (.iload_n 2, 1) := by decide +kernel
theorem d_M_one_136 : decode me_M_one.2.1 136 = .ok (.ifCond .ne 7, 3) := by decide +kernel
theorem d_M_one_139 : decode me_M_one.2.1 139 = .ok (.iconst 1, 1) := by decide +kernel
theorem d_M_one_140 : decode me_M_one.2.1 140 = .ok (.goto 4, 3) := by decide +kernel
theorem d_M_one_143 : decode me_M_one.2.1 143 = .ok (.iconst 0, 1) := by decide +kernel
theorem d_M_one_144 : decode me_M_one.2.1 144 = .ok (.ireturn, 1) := by decide +kernel
theorem d_M_one_145 : decode me_M_one.2.1 145 = .ok (.iload_n 1, 1) := by decide +kernel
theorem d_M_one_146 : decode me_M_one.2.1 146 = .ok (.invokestatic 203, 3) := by decide +kernel
theorem d_M_one_149 : decode me_M_one.2.1 149 = .ok (.istore_n 2, 1) := by decide +kernel
theorem d_M_one_150 : decode me_M_one.2.1 150 = .ok (.iload_n 2, 1) := by decide +kernel
theorem d_M_one_151 : decode me_M_one.2.1 151 = .ok (.ifCond .lt 20, 3) := by decide +kernel
theorem d_M_one_154 : decode me_M_one.2.1 154 = .ok (.aload_n 0, 1) := by decide +kernel
theorem d_M_one_155 : decode me_M_one.2.1 155 = .ok (.dup, 1) := by decide +kernel
theorem d_M_one_156 : decode me_M_one.2.1 156 = .ok (.getfield 160, 3) := by decide +kernel
theorem d_M_one_159 : decode me_M_one.2.1 159 = .ok (.iconst 1, 1) := by decide +kernel
theorem d_M_one_160 : decode me_M_one.2.1 160 = .ok (.iadd, 1) := by decide +kernel
theorem d_M_one_161 : decode me_M_one.2.1 161 = .ok (.putfield 160, 3) := by decide +kernel
theorem d_M_one_164 : decode me_M_one.2.1 164 = .ok (.aload_n 0, 1) := by decide +kernel
theorem d_M_one_165 : decode me_M_one.2.1 165 = .ok (.getfield 46, 3) := by decide +kernel
theorem d_M_one_168 : decode me_M_one.2.1 168 = .ok (.iload_n 2, 1) := by decide +kernel
theorem d_M_one_169 : decode me_M_one.2.1 169 = .ok (.iaload, 1) := by decide +kernel
theorem d_M_one_170 : decode me_M_one.2.1 170 = .ok (.ireturn, 1) := by decide +kernel
theorem d_M_one_171 : decode me_M_one.2.1 171 = .ok (.iconst 0, 1) := by decide +kernel
theorem d_M_one_172 : decode me_M_one.2.1 172 = .ok (.istore_n 3, 1) := by decide +kernel
theorem d_M_one_173 : decode me_M_one.2.1 173 = .ok (.iconst 0, 1) := by decide +kernel
theorem d_M_one_174 : decode me_M_one.2.1 174 = .ok (.istore 4, 2) := by decide +kernel
theorem d_M_one_176 : decode me_M_one.2.1 176 = .ok (.iload 4, 2) := by decide +kernel
theorem d_M_one_178 : decode me_M_one.2.1 178 = .ok (.iconst 4, 1) := by decide +kernel
theorem d_M_one_179 : decode me_M_one.2.1 179 = .ok (.if_icmp .ge 50, 3) := by decide +kernel
theorem d_M_one_182 : decode me_M_one.2.1 182 = .ok (.aload_n 0, 1) := by decide +kernel
theorem d_M_one_183 : decode me_M_one.2.1 183 = .ok (.invokevirtual 172, 3) := by decide +kernel
theorem d_M_one_186 : decode me_M_one.2.1 186 = .ok (.bipush 48, 2) := by decide +kernel
theorem d_M_one_188 : decode me_M_one.2.1 188 = .ok (.if_icmp .lt 41, 3) := by decide +kernel
theorem d_M_one_191 : decode me_M_one.2.1 191 = .ok (.aload_n 0, 1) := by decide +kernel
theorem d_M_one_192 : decode me_M_one.2.1 192 = .ok (.invokevirtual 172, 3) := by decide +kernel
theorem d_M_one_195 : decode me_M_one.2.1 195 = .ok (.bipush 57, 2) := by decide +kernel
theorem d_M_one_197 : decode me_M_one.2.1 197 = .ok (.if_icmp .gt 32, 3) := by decide +kernel
theorem d_M_one_200 : decode me_M_one.2.1 200 = .ok (.bipush 10, 2) := by decide +kernel
theorem d_M_one_202 : decode me_M_one.2.1 202 = .ok (.iload_n 3, 1) := by decide +kernel
theorem d_M_one_203 : decode me_M_one.2.1 203 = .ok (.imul, 1) := by decide +kernel
theorem d_M_one_204 : decode me_M_one.2.1 204 = .ok (.aload_n 0, 1) := by decide +kernel
theorem d_M_one_205 : decode me_M_one.2.1 205 = .ok (.invokevirtual 172, 3) := by decide +kernel
theorem d_M_one_208 : decode me_M_one.2.1 208 = .ok (.iadd, 1) := by decide +kernel
theorem d_M_one_209 : decode me_M_one.2.1 209 = .ok (.bipush 48, 2) := by decide +kernel
theorem d_M_one_211 : decode me_M_one.2.1 211 = .ok (.isub, 1) := by decide +kernel
theorem d_M_one_212 : decode me_M_one.2.1 212 = .ok (.istore_n 3, 1) := by decide +kernel
theorem d_M_one_213 : decode me_M_one.2.1 213 = .ok (.iinc 4 1, 3) := by decide +kernel
theorem d_M_one_216 : decode me_M_one.2.1 216 = .ok (.aload_n 0, 1) := by decide +kernel
theorem d_M_one_217 : decode me_M_one.2.1 217 = .ok (.dup, 1) := by decide +kernel
theorem d_M_one_218 : decode me_M_one.2.1 218 = .ok (.getfield 160, 3) := by decide +kernel
theorem d_M_one_221 : decode me_M_one.2.1 221 = .ok (.iconst 1, 1) := by decide +kernel
theorem d_M_one_222 : decode me_M_one.2.1 222 = .ok (.iadd, 1) := by decide +kernel
theorem d_M_one_223 : decode me_M_one.2.1 223 = .ok (.putfield 160, 3) := by decide +kernel
theorem d_M_one_226 : decode me_M_one.2.1 226 = .ok (.goto (-50), 3) := by decide +kernel
theorem d_M_one_229 : decode me_M_one.2.1 229 = .ok (.iload 4, 2) := by decide +kernel
theorem d_M_one_231 : decode me_M_one.2.1 231 = .ok (.ifCond .ne 10, 3) := by decide +kernel
theorem d_M_one_234 : decode me_M_one.2.1 234 = .ok (.aload_n 0, 1) := by decide +kernel
theorem d_M_one_235 : decode me_M_one.2.1 235 = .ok (.invokevirtual 197, 3) := by decide +kernel
theorem d_M_one_238 : decode me_M_one.2.1 238 = .ok (.goto 4, 3) := by decide +kernel
theorem d_M_one_241 : decode me_M_one.2.1 241 = .ok (.iload_n 3, 1) := by decide +kernel
theorem d_M_one_242 : decode me_M_one.2.1 242 = .ok (.ireturn, 1) := by decide +kernel
noncomputable def f_M_one_229 (q_M_one : gk_M → Option (Int32 × gk_M)) (q_M_product : gk_M → Option (Int32 × gk_M)) (q_M_sums : gk_M → Option (Int32 × gk_M)) (q_M_compared : gk_M → Option (Int32 × gk_M)) (q_M_both : gk_M → Option (Int32 × gk_M)) (q_M_either : gk_M → Option (Int32 × gk_M)) (a3 : Int32) (a4 : Int32) (m0 : gk_M) : Option (Int32 × gk_M) :=
  if ¬ a4 = 0 then
    some (a3, m0)
  else
    gk_bi (f_M_wrong  m0) fun v2 m1 =>
    some (v2, m1)

theorem s_M_one_229 {z : gk_Z} {dd : Nat} (K : gk_F tm z me_M_one (3 + (dd + 1))) {r : Int32} {mem2 : gk_M} (q_M_one : gk_M → Option (Int32 × gk_M)) (q_M_product : gk_M → Option (Int32 × gk_M)) (q_M_sums : gk_M → Option (Int32 × gk_M)) (q_M_compared : gk_M → Option (Int32 × gk_M)) (q_M_both : gk_M → Option (Int32 × gk_M)) (q_M_either : gk_M → Option (Int32 × gk_M)) (hq_M_one : ∀  mem r mem2, q_M_one  mem = some (r, mem2) → gk_C tm (gk_zl z) (gk_zu z) me_M_one (3 + dd) [.ref 0] mem (some (.int r)) mem2) (hq_M_product : ∀  mem r mem2, q_M_product  mem = some (r, mem2) → gk_C tm (gk_zl z) (gk_zu z) me_M_product (3 + dd) [.ref 0] mem (some (.int r)) mem2) (hq_M_sums : ∀  mem r mem2, q_M_sums  mem = some (r, mem2) → gk_C tm (gk_zl z) (gk_zu z) me_M_sums (3 + dd) [.ref 0] mem (some (.int r)) mem2) (hq_M_compared : ∀  mem r mem2, q_M_compared  mem = some (r, mem2) → gk_C tm (gk_zl z) (gk_zu z) me_M_compared (3 + dd) [.ref 0] mem (some (.int r)) mem2) (hq_M_both : ∀  mem r mem2, q_M_both  mem = some (r, mem2) → gk_C tm (gk_zl z) (gk_zu z) me_M_both (3 + dd) [.ref 0] mem (some (.int r)) mem2) (hq_M_either : ∀  mem r mem2, q_M_either  mem = some (r, mem2) → gk_C tm (gk_zl z) (gk_zu z) me_M_either (3 + dd) [.ref 0] mem (some (.int r)) mem2) : ∀ a3 a4 m0, f_M_one_229 q_M_one q_M_product q_M_sums q_M_compared q_M_both q_M_either a3 a4 m0 = some (r, mem2) → gk_G tm z me_M_one (gk_R tm z (some (.int r)) mem2) m0 [(0, .ref 0), (3, .int a3), (4, .int a4)] [] 229 := by
  intro a3 a4 m0  h
  unfold f_M_one_229 at h
  refine gk_iload (pc := 229) K d_M_one_229 rfl ?_
  refine gk_if_ne (tgt := 241) (pc := 231) K d_M_one_231 (by decide) h (fun h => ?_) (fun h => ?_)
  · refine gk_iload_n (pc := 241) K d_M_one_241 rfl ?_
    exact gk_iret (pc := 242) K d_M_one_242 rfl h
  · refine gk_aload_n (pc := 234) K d_M_one_234 rfl ?_
    obtain ⟨v2, m1, em1, h⟩ := gk_bi_some h
    refine gk_cVi (As := []) (pc := 235) K d_M_one_235 mv_M_197 mc_M_wrong rfl tm_0 cl_ok10.1 (s_M_wrong (gk_FD K)  em1) (by omega) rfl (Nat.le_of_ble_eq_true rfl) ?_
    refine gk_goto (tgt := 242) (pc := 238) K d_M_one_238 (by decide) ?_
    exact gk_iret (pc := 242) K d_M_one_242 rfl h
noncomputable def f_M_one_176 (q_M_one : gk_M → Option (Int32 × gk_M)) (q_M_product : gk_M → Option (Int32 × gk_M)) (q_M_sums : gk_M → Option (Int32 × gk_M)) (q_M_compared : gk_M → Option (Int32 × gk_M)) (q_M_both : gk_M → Option (Int32 × gk_M)) (q_M_either : gk_M → Option (Int32 × gk_M)) : Nat → Int32 → Int32 → gk_M → Option (Int32 × gk_M)
  | 0, _, _, _ => none
  | n + 1, a3, a4, m0 =>
    if 4 ≤ a4 then
      f_M_one_229 q_M_one q_M_product q_M_sums q_M_compared q_M_both q_M_either a3 a4 m0
    else
      gk_bi (f_M_byteAt  m0) fun v2 m1 =>
      if v2 < 48 then
        f_M_one_229 q_M_one q_M_product q_M_sums q_M_compared q_M_both q_M_either a3 a4 m1
      else
        gk_bi (f_M_byteAt  m1) fun v4 m3 =>
        if 57 < v4 then
          f_M_one_229 q_M_one q_M_product q_M_sums q_M_compared q_M_both q_M_either a3 a4 m3
        else
          gk_bi (f_M_byteAt  m3) fun v6 m5 =>
          gk_let (((10 * a3) + v6) - 48) fun v7 =>
          gk_let (gk_mi m5 0 20 ((m5.1 0 20) + 1)) fun m8 =>
          f_M_one_176 q_M_one q_M_product q_M_sums q_M_compared q_M_both q_M_either n v7 (a4 + 1) m8

theorem s_M_one_176 {z : gk_Z} {dd : Nat} (K : gk_F tm z me_M_one (3 + (dd + 1))) {r : Int32} {mem2 : gk_M} (q_M_one : gk_M → Option (Int32 × gk_M)) (q_M_product : gk_M → Option (Int32 × gk_M)) (q_M_sums : gk_M → Option (Int32 × gk_M)) (q_M_compared : gk_M → Option (Int32 × gk_M)) (q_M_both : gk_M → Option (Int32 × gk_M)) (q_M_either : gk_M → Option (Int32 × gk_M)) (hq_M_one : ∀  mem r mem2, q_M_one  mem = some (r, mem2) → gk_C tm (gk_zl z) (gk_zu z) me_M_one (3 + dd) [.ref 0] mem (some (.int r)) mem2) (hq_M_product : ∀  mem r mem2, q_M_product  mem = some (r, mem2) → gk_C tm (gk_zl z) (gk_zu z) me_M_product (3 + dd) [.ref 0] mem (some (.int r)) mem2) (hq_M_sums : ∀  mem r mem2, q_M_sums  mem = some (r, mem2) → gk_C tm (gk_zl z) (gk_zu z) me_M_sums (3 + dd) [.ref 0] mem (some (.int r)) mem2) (hq_M_compared : ∀  mem r mem2, q_M_compared  mem = some (r, mem2) → gk_C tm (gk_zl z) (gk_zu z) me_M_compared (3 + dd) [.ref 0] mem (some (.int r)) mem2) (hq_M_both : ∀  mem r mem2, q_M_both  mem = some (r, mem2) → gk_C tm (gk_zl z) (gk_zu z) me_M_both (3 + dd) [.ref 0] mem (some (.int r)) mem2) (hq_M_either : ∀  mem r mem2, q_M_either  mem = some (r, mem2) → gk_C tm (gk_zl z) (gk_zu z) me_M_either (3 + dd) [.ref 0] mem (some (.int r)) mem2) : ∀ n a3 a4 m0, f_M_one_176 q_M_one q_M_product q_M_sums q_M_compared q_M_both q_M_either n a3 a4 m0 = some (r, mem2) → gk_G tm z me_M_one (gk_R tm z (some (.int r)) mem2) m0 [(0, .ref 0), (3, .int a3), (4, .int a4)] [] 176 := by
  intro n
  induction n with
  | zero => intro a3 a4 m0  h; exact nomatch (show (none : Option _) = some _ from h)
  | succ n ih =>
    intro a3 a4 m0  h
    unfold f_M_one_176 at h
    refine gk_iload (pc := 176) K d_M_one_176 rfl ?_
    refine gk_iconst (pc := 178) K d_M_one_178 kc_4 ?_
    refine gk_ic_ge (tgt := 229) (pc := 179) K d_M_one_179 (by decide) h (fun h => ?_) (fun h => ?_)
    · exact gk_sub [0, 1, 2] rfl (s_M_one_229 K q_M_one q_M_product q_M_sums q_M_compared q_M_both q_M_either hq_M_one hq_M_product hq_M_sums hq_M_compared hq_M_both hq_M_either _ _ _  h)
    · refine gk_aload_n (pc := 182) K d_M_one_182 rfl ?_
      obtain ⟨v2, m1, em1, h⟩ := gk_bi_some h
      refine gk_cVi (As := []) (pc := 183) K d_M_one_183 mv_M_172 mc_M_byteAt rfl tm_0 cl_ok10.1 (s_M_byteAt (gk_FD K)  em1) (by omega) rfl (Nat.le_of_ble_eq_true rfl) ?_
      refine gk_bipush (pc := 186) K d_M_one_186 kb_48 ?_
      refine gk_ic_lt (tgt := 229) (pc := 188) K d_M_one_188 (by decide) h (fun h => ?_) (fun h => ?_)
      · exact gk_sub [0, 1, 2] rfl (s_M_one_229 K q_M_one q_M_product q_M_sums q_M_compared q_M_both q_M_either hq_M_one hq_M_product hq_M_sums hq_M_compared hq_M_both hq_M_either _ _ _  h)
      · refine gk_aload_n (pc := 191) K d_M_one_191 rfl ?_
        obtain ⟨v4, m3, em3, h⟩ := gk_bi_some h
        refine gk_cVi (As := []) (pc := 192) K d_M_one_192 mv_M_172 mc_M_byteAt rfl tm_0 cl_ok10.1 (s_M_byteAt (gk_FD K)  em3) (by omega) rfl (Nat.le_of_ble_eq_true rfl) ?_
        refine gk_bipush (pc := 195) K d_M_one_195 kb_57 ?_
        refine gk_ic_gt (tgt := 229) (pc := 197) K d_M_one_197 (by decide) h (fun h => ?_) (fun h => ?_)
        · exact gk_sub [0, 1, 2] rfl (s_M_one_229 K q_M_one q_M_product q_M_sums q_M_compared q_M_both q_M_either hq_M_one hq_M_product hq_M_sums hq_M_compared hq_M_both hq_M_either _ _ _  h)
        · refine gk_bipush (pc := 200) K d_M_one_200 kb_10 ?_
          refine gk_iload_n (pc := 202) K d_M_one_202 rfl ?_
          refine gk_imul (pc := 203) K d_M_one_203 ?_
          refine gk_aload_n (pc := 204) K d_M_one_204 rfl ?_
          obtain ⟨v6, m5, em5, h⟩ := gk_bi_some h
          refine gk_cVi (As := []) (pc := 205) K d_M_one_205 mv_M_172 mc_M_byteAt rfl tm_0 cl_ok10.1 (s_M_byteAt (gk_FD K)  em5) (by omega) rfl (Nat.le_of_ble_eq_true rfl) ?_
          refine gk_iadd (pc := 208) K d_M_one_208 ?_
          refine gk_bipush (pc := 209) K d_M_one_209 kb_48 ?_
          refine gk_isub (pc := 211) K d_M_one_211 ?_
          refine gk_topi h (fun v7 h => ?_)
          refine gk_istore_n (lv2 := [(3, .int v7), (0, .ref 0), (4, .int a4)]) (pc := 212) K d_M_one_212 (by decide) rfl ?_
          refine gk_iinc2 (lv2 := [(4, .int (a4 + 1)), (3, .int v7), (0, .ref 0)]) (pc := 213) K d_M_one_213 rfl kc_1 (by decide) rfl ?_
          refine gk_aload_n (pc := 216) K d_M_one_216 rfl ?_
          refine gk_dup (pc := 217) K d_M_one_217 rfl ?_
          refine gk_get (pc := 218) K d_M_one_218 fl_M_160 tm_0 rfl rfl ?_
          refine gk_iconst (pc := 221) K d_M_one_221 kc_1 ?_
          refine gk_iadd (pc := 222) K d_M_one_222 ?_
          refine gk_puti (pc := 223) K d_M_one_223 fp_M_160 tm_0 rfl h (fun m8 h => ?_)
          refine gk_goto (tgt := 176) (pc := 226) K d_M_one_226 (by decide) ?_
          exact gk_sub [2, 1, 0] rfl (ih _ _ _  h)
noncomputable def f_M_one_104 (q_M_one : gk_M → Option (Int32 × gk_M)) (q_M_product : gk_M → Option (Int32 × gk_M)) (q_M_sums : gk_M → Option (Int32 × gk_M)) (q_M_compared : gk_M → Option (Int32 × gk_M)) (q_M_both : gk_M → Option (Int32 × gk_M)) (q_M_either : gk_M → Option (Int32 × gk_M)) (a1 : Int32) (a2 : Int32) (m0 : gk_M) : Option (Int32 × gk_M) :=
  gk_let (gk_mi m0 0 23 ((m0.1 0 23) - 1)) fun m1 =>
  if ¬ a1 = 40 then
    if ¬ a1 = 45 then
      if ¬ a2 = 0 then
        some (0, m1)
      else
        some (1, m1)
    else
      some ((-a2), m1)
  else
    some (a2, m1)

theorem s_M_one_104 {z : gk_Z} {dd : Nat} (K : gk_F tm z me_M_one (3 + (dd + 1))) {r : Int32} {mem2 : gk_M} (q_M_one : gk_M → Option (Int32 × gk_M)) (q_M_product : gk_M → Option (Int32 × gk_M)) (q_M_sums : gk_M → Option (Int32 × gk_M)) (q_M_compared : gk_M → Option (Int32 × gk_M)) (q_M_both : gk_M → Option (Int32 × gk_M)) (q_M_either : gk_M → Option (Int32 × gk_M)) (hq_M_one : ∀  mem r mem2, q_M_one  mem = some (r, mem2) → gk_C tm (gk_zl z) (gk_zu z) me_M_one (3 + dd) [.ref 0] mem (some (.int r)) mem2) (hq_M_product : ∀  mem r mem2, q_M_product  mem = some (r, mem2) → gk_C tm (gk_zl z) (gk_zu z) me_M_product (3 + dd) [.ref 0] mem (some (.int r)) mem2) (hq_M_sums : ∀  mem r mem2, q_M_sums  mem = some (r, mem2) → gk_C tm (gk_zl z) (gk_zu z) me_M_sums (3 + dd) [.ref 0] mem (some (.int r)) mem2) (hq_M_compared : ∀  mem r mem2, q_M_compared  mem = some (r, mem2) → gk_C tm (gk_zl z) (gk_zu z) me_M_compared (3 + dd) [.ref 0] mem (some (.int r)) mem2) (hq_M_both : ∀  mem r mem2, q_M_both  mem = some (r, mem2) → gk_C tm (gk_zl z) (gk_zu z) me_M_both (3 + dd) [.ref 0] mem (some (.int r)) mem2) (hq_M_either : ∀  mem r mem2, q_M_either  mem = some (r, mem2) → gk_C tm (gk_zl z) (gk_zu z) me_M_either (3 + dd) [.ref 0] mem (some (.int r)) mem2) : ∀ a1 a2 m0, f_M_one_104 q_M_one q_M_product q_M_sums q_M_compared q_M_both q_M_either a1 a2 m0 = some (r, mem2) → gk_G tm z me_M_one (gk_R tm z (some (.int r)) mem2) m0 [(0, .ref 0), (1, .int a1), (2, .int a2)] [] 104 := by
  intro a1 a2 m0  h
  unfold f_M_one_104 at h
  refine gk_aload_n (pc := 104) K d_M_one_104 rfl ?_
  refine gk_dup (pc := 105) K d_M_one_105 rfl ?_
  refine gk_get (pc := 106) K d_M_one_106 fl_M_194 tm_0 rfl rfl ?_
  refine gk_iconst (pc := 109) K d_M_one_109 kc_1 ?_
  refine gk_isub (pc := 110) K d_M_one_110 ?_
  refine gk_puti (pc := 111) K d_M_one_111 fp_M_194 tm_0 rfl h (fun m1 h => ?_)
  refine gk_iload_n (pc := 114) K d_M_one_114 rfl ?_
  refine gk_bipush (pc := 115) K d_M_one_115 kb_40 ?_
  refine gk_ic_ne (tgt := 124) (pc := 117) K d_M_one_117 (by decide) h (fun h => ?_) (fun h => ?_)
  · refine gk_iload_n (pc := 124) K d_M_one_124 rfl ?_
    refine gk_bipush (pc := 125) K d_M_one_125 kb_45 ?_
    refine gk_ic_ne (tgt := 135) (pc := 127) K d_M_one_127 (by decide) h (fun h => ?_) (fun h => ?_)
    · refine gk_iload_n (pc := 135) K d_M_one_135 rfl ?_
      refine gk_if_ne (tgt := 143) (pc := 136) K d_M_one_136 (by decide) h (fun h => ?_) (fun h => ?_)
      · refine gk_iconst (pc := 143) K d_M_one_143 kc_0 ?_
        exact gk_iret (pc := 144) K d_M_one_144 rfl h
      · refine gk_iconst (pc := 139) K d_M_one_139 kc_1 ?_
        refine gk_goto (tgt := 144) (pc := 140) K d_M_one_140 (by decide) ?_
        exact gk_iret (pc := 144) K d_M_one_144 rfl h
    · refine gk_iload_n (pc := 130) K d_M_one_130 rfl ?_
      refine gk_ineg (pc := 131) K d_M_one_131 ?_
      refine gk_goto (tgt := 144) (pc := 132) K d_M_one_132 (by decide) ?_
      exact gk_iret (pc := 144) K d_M_one_144 rfl h
  · refine gk_iload_n (pc := 120) K d_M_one_120 rfl ?_
    refine gk_goto (tgt := 144) (pc := 121) K d_M_one_121 (by decide) ?_
    exact gk_iret (pc := 144) K d_M_one_144 rfl h
noncomputable def f_M_one_83 (q_M_one : gk_M → Option (Int32 × gk_M)) (q_M_product : gk_M → Option (Int32 × gk_M)) (q_M_sums : gk_M → Option (Int32 × gk_M)) (q_M_compared : gk_M → Option (Int32 × gk_M)) (q_M_both : gk_M → Option (Int32 × gk_M)) (q_M_either : gk_M → Option (Int32 × gk_M)) (a1 : Int32) (s0 : Int32) (m0 : gk_M) : Option (Int32 × gk_M) :=
  if ¬ a1 = 40 then
    f_M_one_104 q_M_one q_M_product q_M_sums q_M_compared q_M_both q_M_either a1 s0 m0
  else
    gk_bi (f_M_takes 41 m0) fun v2 m1 =>
    if ¬ v2 = 0 then
      f_M_one_104 q_M_one q_M_product q_M_sums q_M_compared q_M_both q_M_either a1 s0 m1
    else
      gk_bi (f_M_wrong  m1) fun v4 m3 =>
      some (v4, m3)

theorem s_M_one_83 {z : gk_Z} {dd : Nat} (K : gk_F tm z me_M_one (3 + (dd + 1))) {r : Int32} {mem2 : gk_M} (q_M_one : gk_M → Option (Int32 × gk_M)) (q_M_product : gk_M → Option (Int32 × gk_M)) (q_M_sums : gk_M → Option (Int32 × gk_M)) (q_M_compared : gk_M → Option (Int32 × gk_M)) (q_M_both : gk_M → Option (Int32 × gk_M)) (q_M_either : gk_M → Option (Int32 × gk_M)) (hq_M_one : ∀  mem r mem2, q_M_one  mem = some (r, mem2) → gk_C tm (gk_zl z) (gk_zu z) me_M_one (3 + dd) [.ref 0] mem (some (.int r)) mem2) (hq_M_product : ∀  mem r mem2, q_M_product  mem = some (r, mem2) → gk_C tm (gk_zl z) (gk_zu z) me_M_product (3 + dd) [.ref 0] mem (some (.int r)) mem2) (hq_M_sums : ∀  mem r mem2, q_M_sums  mem = some (r, mem2) → gk_C tm (gk_zl z) (gk_zu z) me_M_sums (3 + dd) [.ref 0] mem (some (.int r)) mem2) (hq_M_compared : ∀  mem r mem2, q_M_compared  mem = some (r, mem2) → gk_C tm (gk_zl z) (gk_zu z) me_M_compared (3 + dd) [.ref 0] mem (some (.int r)) mem2) (hq_M_both : ∀  mem r mem2, q_M_both  mem = some (r, mem2) → gk_C tm (gk_zl z) (gk_zu z) me_M_both (3 + dd) [.ref 0] mem (some (.int r)) mem2) (hq_M_either : ∀  mem r mem2, q_M_either  mem = some (r, mem2) → gk_C tm (gk_zl z) (gk_zu z) me_M_either (3 + dd) [.ref 0] mem (some (.int r)) mem2) : ∀ a1 s0 m0, f_M_one_83 q_M_one q_M_product q_M_sums q_M_compared q_M_both q_M_either a1 s0 m0 = some (r, mem2) → gk_G tm z me_M_one (gk_R tm z (some (.int r)) mem2) m0 [(0, .ref 0), (1, .int a1)] [.int s0] 83 := by
  intro a1 s0 m0  h
  unfold f_M_one_83 at h
  refine gk_istore_n (lv2 := [(2, .int s0), (0, .ref 0), (1, .int a1)]) (pc := 83) K d_M_one_83 (by decide) rfl ?_
  refine gk_iload_n (pc := 84) K d_M_one_84 rfl ?_
  refine gk_bipush (pc := 85) K d_M_one_85 kb_40 ?_
  refine gk_ic_ne (tgt := 104) (pc := 87) K d_M_one_87 (by decide) h (fun h => ?_) (fun h => ?_)
  · exact gk_sub [1, 2, 0] rfl (s_M_one_104 K q_M_one q_M_product q_M_sums q_M_compared q_M_both q_M_either hq_M_one hq_M_product hq_M_sums hq_M_compared hq_M_both hq_M_either _ _ _  h)
  · refine gk_aload_n (pc := 90) K d_M_one_90 rfl ?_
    refine gk_bipush (pc := 91) K d_M_one_91 kb_41 ?_
    obtain ⟨v2, m1, em1, h⟩ := gk_bi_some h
    refine gk_cVi (As := [.int 41]) (pc := 93) K d_M_one_93 mv_M_179 mc_M_takes rfl tm_0 cl_ok10.1 (s_M_takes (gk_FD K)  em1) (by omega) rfl (Nat.le_of_ble_eq_true rfl) ?_
    refine gk_if_ne (tgt := 104) (pc := 96) K d_M_one_96 (by decide) h (fun h => ?_) (fun h => ?_)
    · exact gk_sub [1, 2, 0] rfl (s_M_one_104 K q_M_one q_M_product q_M_sums q_M_compared q_M_both q_M_either hq_M_one hq_M_product hq_M_sums hq_M_compared hq_M_both hq_M_either _ _ _  h)
    · refine gk_aload_n (pc := 99) K d_M_one_99 rfl ?_
      obtain ⟨v4, m3, em3, h⟩ := gk_bi_some h
      refine gk_cVi (As := []) (pc := 100) K d_M_one_100 mv_M_197 mc_M_wrong rfl tm_0 cl_ok10.1 (s_M_wrong (gk_FD K)  em3) (by omega) rfl (Nat.le_of_ble_eq_true rfl) ?_
      exact gk_iret (pc := 103) K d_M_one_103 rfl h
noncomputable def f_M_one_32 (q_M_one : gk_M → Option (Int32 × gk_M)) (q_M_product : gk_M → Option (Int32 × gk_M)) (q_M_sums : gk_M → Option (Int32 × gk_M)) (q_M_compared : gk_M → Option (Int32 × gk_M)) (q_M_both : gk_M → Option (Int32 × gk_M)) (q_M_either : gk_M → Option (Int32 × gk_M)) (a1 : Int32) (m0 : gk_M) : Option (Int32 × gk_M) :=
  if ¬ (m0.1 0 23) = 6 then
    gk_let (gk_mi m0 0 23 ((m0.1 0 23) + 1)) fun m1 =>
    gk_let (gk_mi m1 0 20 ((m1.1 0 20) + 1)) fun m2 =>
    if ¬ a1 = 40 then
      gk_bi (q_M_one  m2) fun v4 m3 =>
      f_M_one_83 q_M_one q_M_product q_M_sums q_M_compared q_M_both q_M_either a1 v4 m3
    else
      gk_bi (q_M_either  m2) fun v6 m5 =>
      f_M_one_83 q_M_one q_M_product q_M_sums q_M_compared q_M_both q_M_either a1 v6 m5
  else
    gk_bi (f_M_wrong  m0) fun v8 m7 =>
    some (v8, m7)

theorem s_M_one_32 {z : gk_Z} {dd : Nat} (K : gk_F tm z me_M_one (3 + (dd + 1))) {r : Int32} {mem2 : gk_M} (q_M_one : gk_M → Option (Int32 × gk_M)) (q_M_product : gk_M → Option (Int32 × gk_M)) (q_M_sums : gk_M → Option (Int32 × gk_M)) (q_M_compared : gk_M → Option (Int32 × gk_M)) (q_M_both : gk_M → Option (Int32 × gk_M)) (q_M_either : gk_M → Option (Int32 × gk_M)) (hq_M_one : ∀  mem r mem2, q_M_one  mem = some (r, mem2) → gk_C tm (gk_zl z) (gk_zu z) me_M_one (3 + dd) [.ref 0] mem (some (.int r)) mem2) (hq_M_product : ∀  mem r mem2, q_M_product  mem = some (r, mem2) → gk_C tm (gk_zl z) (gk_zu z) me_M_product (3 + dd) [.ref 0] mem (some (.int r)) mem2) (hq_M_sums : ∀  mem r mem2, q_M_sums  mem = some (r, mem2) → gk_C tm (gk_zl z) (gk_zu z) me_M_sums (3 + dd) [.ref 0] mem (some (.int r)) mem2) (hq_M_compared : ∀  mem r mem2, q_M_compared  mem = some (r, mem2) → gk_C tm (gk_zl z) (gk_zu z) me_M_compared (3 + dd) [.ref 0] mem (some (.int r)) mem2) (hq_M_both : ∀  mem r mem2, q_M_both  mem = some (r, mem2) → gk_C tm (gk_zl z) (gk_zu z) me_M_both (3 + dd) [.ref 0] mem (some (.int r)) mem2) (hq_M_either : ∀  mem r mem2, q_M_either  mem = some (r, mem2) → gk_C tm (gk_zl z) (gk_zu z) me_M_either (3 + dd) [.ref 0] mem (some (.int r)) mem2) : ∀ a1 m0, f_M_one_32 q_M_one q_M_product q_M_sums q_M_compared q_M_both q_M_either a1 m0 = some (r, mem2) → gk_G tm z me_M_one (gk_R tm z (some (.int r)) mem2) m0 [(0, .ref 0), (1, .int a1)] [] 32 := by
  intro a1 m0  h
  unfold f_M_one_32 at h
  refine gk_aload_n (pc := 32) K d_M_one_32 rfl ?_
  refine gk_get (pc := 33) K d_M_one_33 fl_M_194 tm_0 rfl rfl ?_
  refine gk_bipush (pc := 36) K d_M_one_36 kb_6 ?_
  refine gk_ic_ne (tgt := 46) (pc := 38) K d_M_one_38 (by decide) h (fun h => ?_) (fun h => ?_)
  · refine gk_aload_n (pc := 46) K d_M_one_46 rfl ?_
    refine gk_dup (pc := 47) K d_M_one_47 rfl ?_
    refine gk_get (pc := 48) K d_M_one_48 fl_M_194 tm_0 rfl rfl ?_
    refine gk_iconst (pc := 51) K d_M_one_51 kc_1 ?_
    refine gk_iadd (pc := 52) K d_M_one_52 ?_
    refine gk_puti (pc := 53) K d_M_one_53 fp_M_194 tm_0 rfl h (fun m1 h => ?_)
    refine gk_aload_n (pc := 56) K d_M_one_56 rfl ?_
    refine gk_dup (pc := 57) K d_M_one_57 rfl ?_
    refine gk_get (pc := 58) K d_M_one_58 fl_M_160 tm_0 rfl rfl ?_
    refine gk_iconst (pc := 61) K d_M_one_61 kc_1 ?_
    refine gk_iadd (pc := 62) K d_M_one_62 ?_
    refine gk_puti (pc := 63) K d_M_one_63 fp_M_160 tm_0 rfl h (fun m2 h => ?_)
    refine gk_iload_n (pc := 66) K d_M_one_66 rfl ?_
    refine gk_bipush (pc := 67) K d_M_one_67 kb_40 ?_
    refine gk_ic_ne (tgt := 79) (pc := 69) K d_M_one_69 (by decide) h (fun h => ?_) (fun h => ?_)
    · refine gk_aload_n (pc := 79) K d_M_one_79 rfl ?_
      obtain ⟨v4, m3, em3, h⟩ := gk_bi_some h
      refine gk_cVi (As := []) (pc := 80) K d_M_one_80 mv_M_191 mc_M_one rfl tm_0 cl_ok10.1 (hq_M_one  _ _ _ em3) (by omega) rfl (Nat.le_of_ble_eq_true rfl) ?_
      exact gk_sub [0, 1] rfl (s_M_one_83 K q_M_one q_M_product q_M_sums q_M_compared q_M_both q_M_either hq_M_one hq_M_product hq_M_sums hq_M_compared hq_M_both hq_M_either _ _ _  h)
    · refine gk_aload_n (pc := 72) K d_M_one_72 rfl ?_
      obtain ⟨v6, m5, em5, h⟩ := gk_bi_some h
      refine gk_cVi (As := []) (pc := 73) K d_M_one_73 mv_M_200 mc_M_either rfl tm_0 cl_ok10.1 (hq_M_either  _ _ _ em5) (by omega) rfl (Nat.le_of_ble_eq_true rfl) ?_
      refine gk_goto (tgt := 83) (pc := 76) K d_M_one_76 (by decide) ?_
      exact gk_sub [0, 1] rfl (s_M_one_83 K q_M_one q_M_product q_M_sums q_M_compared q_M_both q_M_either hq_M_one hq_M_product hq_M_sums hq_M_compared hq_M_both hq_M_either _ _ _  h)
  · refine gk_aload_n (pc := 41) K d_M_one_41 rfl ?_
    obtain ⟨v8, m7, em7, h⟩ := gk_bi_some h
    refine gk_cVi (As := []) (pc := 42) K d_M_one_42 mv_M_197 mc_M_wrong rfl tm_0 cl_ok10.1 (s_M_wrong (gk_FD K)  em7) (by omega) rfl (Nat.le_of_ble_eq_true rfl) ?_
    exact gk_iret (pc := 45) K d_M_one_45 rfl h
noncomputable def f_M_one_0 (q_M_one : gk_M → Option (Int32 × gk_M)) (q_M_product : gk_M → Option (Int32 × gk_M)) (q_M_sums : gk_M → Option (Int32 × gk_M)) (q_M_compared : gk_M → Option (Int32 × gk_M)) (q_M_both : gk_M → Option (Int32 × gk_M)) (q_M_either : gk_M → Option (Int32 × gk_M))  (m0 : gk_M) : Option (Int32 × gk_M) :=
  if (m0.1 0 22) < 0 then
    gk_bi (f_M_byteAt  m0) fun v2 m1 =>
    if v2 = 33 then
      f_M_one_32 q_M_one q_M_product q_M_sums q_M_compared q_M_both q_M_either v2 m1
    else
      if v2 = 45 then
        f_M_one_32 q_M_one q_M_product q_M_sums q_M_compared q_M_both q_M_either v2 m1
      else
        if ¬ v2 = 40 then
          gk_bi (f_M_nameOf v2 m1) fun v4 m3 =>
          if v4 < 0 then
            f_M_one_176 q_M_one q_M_product q_M_sums q_M_compared q_M_both q_M_either gk_fv 0 0 m3
          else
            gk_let (gk_mi m3 0 20 ((m3.1 0 20) + 1)) fun m5 =>
            gk_ai m5 13 6 v4 fun v6 =>
            some (v6, m5)
        else
          f_M_one_32 q_M_one q_M_product q_M_sums q_M_compared q_M_both q_M_either v2 m1
  else
    some (0, m0)

theorem s_M_one_0 {z : gk_Z} {dd : Nat} (K : gk_F tm z me_M_one (3 + (dd + 1))) {r : Int32} {mem2 : gk_M} (q_M_one : gk_M → Option (Int32 × gk_M)) (q_M_product : gk_M → Option (Int32 × gk_M)) (q_M_sums : gk_M → Option (Int32 × gk_M)) (q_M_compared : gk_M → Option (Int32 × gk_M)) (q_M_both : gk_M → Option (Int32 × gk_M)) (q_M_either : gk_M → Option (Int32 × gk_M)) (hq_M_one : ∀  mem r mem2, q_M_one  mem = some (r, mem2) → gk_C tm (gk_zl z) (gk_zu z) me_M_one (3 + dd) [.ref 0] mem (some (.int r)) mem2) (hq_M_product : ∀  mem r mem2, q_M_product  mem = some (r, mem2) → gk_C tm (gk_zl z) (gk_zu z) me_M_product (3 + dd) [.ref 0] mem (some (.int r)) mem2) (hq_M_sums : ∀  mem r mem2, q_M_sums  mem = some (r, mem2) → gk_C tm (gk_zl z) (gk_zu z) me_M_sums (3 + dd) [.ref 0] mem (some (.int r)) mem2) (hq_M_compared : ∀  mem r mem2, q_M_compared  mem = some (r, mem2) → gk_C tm (gk_zl z) (gk_zu z) me_M_compared (3 + dd) [.ref 0] mem (some (.int r)) mem2) (hq_M_both : ∀  mem r mem2, q_M_both  mem = some (r, mem2) → gk_C tm (gk_zl z) (gk_zu z) me_M_both (3 + dd) [.ref 0] mem (some (.int r)) mem2) (hq_M_either : ∀  mem r mem2, q_M_either  mem = some (r, mem2) → gk_C tm (gk_zl z) (gk_zu z) me_M_either (3 + dd) [.ref 0] mem (some (.int r)) mem2) : ∀  m0, f_M_one_0 q_M_one q_M_product q_M_sums q_M_compared q_M_both q_M_either  m0 = some (r, mem2) → gk_G tm z me_M_one (gk_R tm z (some (.int r)) mem2) m0 [(0, .ref 0)] [] 0 := by
  intro  m0  h
  unfold f_M_one_0 at h
  refine gk_aload_n (pc := 0) K d_M_one_0 rfl ?_
  refine gk_get (pc := 1) K d_M_one_1 fl_M_169 tm_0 rfl rfl ?_
  refine gk_if_lt (tgt := 9) (pc := 4) K d_M_one_4 (by decide) h (fun h => ?_) (fun h => ?_)
  · refine gk_aload_n (pc := 9) K d_M_one_9 rfl ?_
    obtain ⟨v2, m1, em1, h⟩ := gk_bi_some h
    refine gk_cVi (As := []) (pc := 10) K d_M_one_10 mv_M_172 mc_M_byteAt rfl tm_0 cl_ok10.1 (s_M_byteAt (gk_FD K)  em1) (by omega) rfl (Nat.le_of_ble_eq_true rfl) ?_
    refine gk_istore_n (lv2 := [(1, .int v2), (0, .ref 0)]) (pc := 13) K d_M_one_13 (by decide) rfl ?_
    refine gk_iload_n (pc := 14) K d_M_one_14 rfl ?_
    refine gk_bipush (pc := 15) K d_M_one_15 kb_33 ?_
    refine gk_ic_eq (tgt := 32) (pc := 17) K d_M_one_17 (by decide) h (fun h => ?_) (fun h => ?_)
    · exact gk_sub [1, 0] rfl (s_M_one_32 K q_M_one q_M_product q_M_sums q_M_compared q_M_both q_M_either hq_M_one hq_M_product hq_M_sums hq_M_compared hq_M_both hq_M_either _ _  h)
    · refine gk_iload_n (pc := 20) K d_M_one_20 rfl ?_
      refine gk_bipush (pc := 21) K d_M_one_21 kb_45 ?_
      refine gk_ic_eq (tgt := 32) (pc := 23) K d_M_one_23 (by decide) h (fun h => ?_) (fun h => ?_)
      · exact gk_sub [1, 0] rfl (s_M_one_32 K q_M_one q_M_product q_M_sums q_M_compared q_M_both q_M_either hq_M_one hq_M_product hq_M_sums hq_M_compared hq_M_both hq_M_either _ _  h)
      · refine gk_iload_n (pc := 26) K d_M_one_26 rfl ?_
        refine gk_bipush (pc := 27) K d_M_one_27 kb_40 ?_
        refine gk_ic_ne (tgt := 145) (pc := 29) K d_M_one_29 (by decide) h (fun h => ?_) (fun h => ?_)
        · refine gk_iload_n (pc := 145) K d_M_one_145 rfl ?_
          obtain ⟨v4, m3, em3, h⟩ := gk_bi_some h
          refine gk_cSi (As := [.int v2]) (pc := 146) K d_M_one_146 ms_M_203 mc_M_nameOf rfl (s_M_nameOf (gk_FD K)  em3) (by omega) rfl (Nat.le_of_ble_eq_true rfl) ?_
          refine gk_istore_n (lv2 := [(2, .int v4), (1, .int v2), (0, .ref 0)]) (pc := 149) K d_M_one_149 (by decide) rfl ?_
          refine gk_iload_n (pc := 150) K d_M_one_150 rfl ?_
          refine gk_if_lt (tgt := 171) (pc := 151) K d_M_one_151 (by decide) h (fun h => ?_) (fun h => ?_)
          · refine gk_iconst (pc := 171) K d_M_one_171 kc_0 ?_
            refine gk_istore_n (lv2 := [(3, .int 0), (2, .int v4), (1, .int v2), (0, .ref 0)]) (pc := 172) K d_M_one_172 (by decide) rfl ?_
            refine gk_iconst (pc := 173) K d_M_one_173 kc_0 ?_
            refine gk_istore (lv2 := [(4, .int 0), (3, .int 0), (2, .int v4), (1, .int v2), (0, .ref 0)]) (pc := 174) K d_M_one_174 (by decide) rfl ?_
            exact gk_sub [4, 1, 0] rfl (s_M_one_176 K q_M_one q_M_product q_M_sums q_M_compared q_M_both q_M_either hq_M_one hq_M_product hq_M_sums hq_M_compared hq_M_both hq_M_either _ _ _ _  h)
          · refine gk_aload_n (pc := 154) K d_M_one_154 rfl ?_
            refine gk_dup (pc := 155) K d_M_one_155 rfl ?_
            refine gk_get (pc := 156) K d_M_one_156 fl_M_160 tm_0 rfl rfl ?_
            refine gk_iconst (pc := 159) K d_M_one_159 kc_1 ?_
            refine gk_iadd (pc := 160) K d_M_one_160 ?_
            refine gk_puti (pc := 161) K d_M_one_161 fp_M_160 tm_0 rfl h (fun m5 h => ?_)
            refine gk_aload_n (pc := 164) K d_M_one_164 rfl ?_
            refine gk_get (pc := 165) K d_M_one_165 fl_M_46 tm_0 rfl rfl ?_
            refine gk_iload_n (pc := 168) K d_M_one_168 rfl ?_
            refine gk_iald (pc := 169) K d_M_one_169 tm_13 h (fun v6 h => ?_)
            exact gk_iret (pc := 170) K d_M_one_170 rfl h
        · exact gk_sub [1, 0] rfl (s_M_one_32 K q_M_one q_M_product q_M_sums q_M_compared q_M_both q_M_either hq_M_one hq_M_product hq_M_sums hq_M_compared hq_M_both hq_M_either _ _  h)
  · refine gk_iconst (pc := 7) K d_M_one_7 kc_0 ?_
    exact gk_iret (pc := 8) K d_M_one_8 rfl h
theorem d_M_product_0 : decode me_M_product.2.1 0 = .ok (.aload_n 0, 1) := by decide +kernel
theorem d_M_product_1 : decode me_M_product.2.1 1 = .ok (.invokevirtual 191, 3) := by decide +kernel
theorem d_M_product_4 : decode me_M_product.2.1 4 = .ok (.istore_n 1, 1) := by decide +kernel
theorem d_M_product_5 : decode me_M_product.2.1 5 = .ok (.aload_n 0, 1) := by decide +kernel
theorem d_M_product_6 : decode me_M_product.2.1 6 = .ok (.invokevirtual 172, 3) := by decide +kernel
theorem d_M_product_9 : decode me_M_product.2.1 9 = .ok (.istore_n 2, 1) := by decide +kernel
theorem d_M_product_10 : decode me_M_product.2.1 10 = .ok (.aload_n 0, 1) := by decide +kernel
theorem d_M_product_11 : decode me_M_product.2.1 11 = .ok (.getfield 169, 3) := by decide +kernel
theorem d_M_product_14 : decode me_M_product.2.1 14 = .ok (.ifCond .ge 80, 3) := by decide +kernel
theorem d_M_product_17 : decode me_M_product.2.1 17 = .ok (.iload_n 2, 1) := by decide +kernel
theorem d_M_product_18 : decode me_M_product.2.1 18 = .ok (.bipush 42, 2) := by decide +kernel
theorem d_M_product_20 : decode me_M_product.2.1 20 = .ok (.if_icmp .eq 15, 3) := by decide +kernel
theorem d_M_product_23 : decode me_M_product.2.1 23 = .ok (.iload_n 2, 1) := by decide +kernel
theorem d_M_product_24 : decode me_M_product.2.1 24 = .ok (.bipush 47, 2) := by decide +kernel
theorem d_M_product_26 : decode me_M_product.2.1 26 = .ok (.if_icmp .eq 9, 3) := by decide +kernel
theorem d_M_product_29 : decode me_M_product.2.1 29 = .ok (.iload_n 2, 1) := by decide +kernel
theorem d_M_product_30 : decode me_M_product.2.1 30 = .ok (.bipush 37, 2) := by decide +kernel
theorem d_M_product_32 : decode me_M_product.2.1 32 = .ok (.if_icmp .ne 62, 3) := by decide +kernel
theorem d_M_product_35 : decode me_M_product.2.1 35 = .ok (.aload_n 0, 1) := by decide +kernel
theorem d_M_product_36 : decode me_M_product.2.1 36 = .ok (.dup, 1) := by decide +kernel
theorem d_M_product_37 : decode me_M_product.2.1 37 = .ok (.getfield 160, 3) := by decide +kernel
theorem d_M_product_40 : decode me_M_product.2.1 40 = .ok (.iconst 1, 1) := by decide +kernel
theorem d_M_product_41 : decode me_M_product.2.1 41 = .ok (.iadd, 1) := by decide +kernel
theorem d_M_product_42 : decode me_M_product.2.1 42 = .ok (.putfield 160, 3) := by decide +kernel
theorem d_M_product_45 : decode me_M_product.2.1 45 = .ok (.aload_n 0, 1) := by decide +kernel
theorem d_M_product_46 : decode me_M_product.2.1 46 = .ok (.invokevirtual 191, 3) := by decide +kernel
theorem d_M_product_49 : decode me_M_product.2.1 49 = .ok (.istore_n 3, 1) := by decide +kernel
theorem d_M_product_50 : decode me_M_product.2.1 50 = .ok (.iload_n 2, 1) := by decide +kernel
theorem d_M_product_51 : decode me_M_product.2.1 51 = .ok (.bipush 42, 2) := by decide +kernel
theorem d_M_product_53 : decode me_M_product.2.1 53 = .ok (.if_icmp .ne 9, 3) := by decide +kernel
theorem d_M_product_56 : decode me_M_product.2.1 56 = .ok (.iload_n 1, 1) := by decide +kernel
theorem d_M_product_57 : decode me_M_product.2.1 57 = .ok (.iload_n 3, 1) := by decide +kernel
theorem d_M_product_58 : decode me_M_product.2.1 58 = .ok (.imul, 1) := by decide +kernel
theorem d_M_product_59 : decode me_M_product.2.1 59 = .ok (.goto 26, 3) := by decide +kernel
theorem d_M_product_62 : decode me_M_product.2.1 62 = .ok (.iload_n 3, 1) := by decide +kernel
theorem d_M_product_63 : decode me_M_product.2.1 63 = .ok (.ifCond .ne 7, 3) := by decide +kernel
theorem d_M_product_66 : decode me_M_product.2.1 66 = .ok (.iconst 0, 1) := by decide +kernel
theorem d_M_product_67 : decode me_M_product.2.1 67 = .ok (.goto 18, 3) := by decide +kernel
theorem d_M_product_70 : decode me_M_product.2.1 70 = .ok (.iload_n 2, 1) := by decide +kernel
theorem d_M_product_71 : decode me_M_product.2.1 71 = .ok (.bipush 47, 2) := by decide +kernel
theorem d_M_product_73 : decode me_M_product.2.1 73 = .ok (.if_icmp .ne 9, 3) := by decide +kernel
theorem d_M_product_76 : decode me_M_product.2.1 76 = .ok (.iload_n 1, 1) := by decide +kernel
theorem d_M_product_77 : decode me_M_product.2.1 77 = .ok (.iload_n 3, 1) := by decide +kernel
theorem d_M_product_78 : decode me_M_product.2.1 78 = .ok (.idiv, 1) := by decide +kernel
theorem d_M_product_79 : decode me_M_product.2.1 79 = .ok (.goto 6, 3) := by decide +kernel
theorem d_M_product_82 : decode me_M_product.2.1 82 = .ok (.iload_n 1, 1) := by decide +kernel
theorem d_M_product_83 : decode me_M_product.2.1 83 = .ok (.iload_n 3, 1) := by decide +kernel
theorem d_M_product_84 : decode me_M_product.2.1 84 = .ok (.irem, 1) := by decide +kernel
theorem d_M_product_85 : decode me_M_product.2.1 85 = .ok (.istore_n 1, 1) := by decide +kernel
theorem d_M_product_86 : decode me_M_product.2.1 86 = .ok (.aload_n 0, 1) := by decide +kernel
theorem d_M_product_87 : decode me_M_product.2.1 87 = .ok (.invokevirtual 172, 3) := by decide +kernel
theorem d_M_product_90 : decode me_M_product.2.1 90 = .ok (.istore_n 2, 1) := by decide +kernel
theorem d_M_product_91 : decode me_M_product.2.1 91 = .ok (.goto (-81), 3) := by decide +kernel
theorem d_M_product_94 : decode me_M_product.2.1 94 = .ok (.iload_n 1, 1) := by decide +kernel
theorem d_M_product_95 : decode me_M_product.2.1 95 = .ok (.ireturn, 1) := by decide +kernel
noncomputable def f_M_product_85 (q_M_one : gk_M → Option (Int32 × gk_M)) (q_M_product : gk_M → Option (Int32 × gk_M)) (q_M_sums : gk_M → Option (Int32 × gk_M)) (q_M_compared : gk_M → Option (Int32 × gk_M)) (q_M_both : gk_M → Option (Int32 × gk_M)) (q_M_either : gk_M → Option (Int32 × gk_M)) (k10 : Int32 → Int32 → gk_M → Option (Int32 × gk_M)) (s0 : Int32) (m0 : gk_M) : Option (Int32 × gk_M) :=
  gk_bi (f_M_byteAt  m0) fun v2 m1 =>
  k10 s0 v2 m1

theorem s_M_product_85 {z : gk_Z} {dd : Nat} (K : gk_F tm z me_M_product (3 + (dd + 1))) {r : Int32} {mem2 : gk_M} (q_M_one : gk_M → Option (Int32 × gk_M)) (q_M_product : gk_M → Option (Int32 × gk_M)) (q_M_sums : gk_M → Option (Int32 × gk_M)) (q_M_compared : gk_M → Option (Int32 × gk_M)) (q_M_both : gk_M → Option (Int32 × gk_M)) (q_M_either : gk_M → Option (Int32 × gk_M)) (hq_M_one : ∀  mem r mem2, q_M_one  mem = some (r, mem2) → gk_C tm (gk_zl z) (gk_zu z) me_M_one (3 + dd) [.ref 0] mem (some (.int r)) mem2) (hq_M_product : ∀  mem r mem2, q_M_product  mem = some (r, mem2) → gk_C tm (gk_zl z) (gk_zu z) me_M_product (3 + dd) [.ref 0] mem (some (.int r)) mem2) (hq_M_sums : ∀  mem r mem2, q_M_sums  mem = some (r, mem2) → gk_C tm (gk_zl z) (gk_zu z) me_M_sums (3 + dd) [.ref 0] mem (some (.int r)) mem2) (hq_M_compared : ∀  mem r mem2, q_M_compared  mem = some (r, mem2) → gk_C tm (gk_zl z) (gk_zu z) me_M_compared (3 + dd) [.ref 0] mem (some (.int r)) mem2) (hq_M_both : ∀  mem r mem2, q_M_both  mem = some (r, mem2) → gk_C tm (gk_zl z) (gk_zu z) me_M_both (3 + dd) [.ref 0] mem (some (.int r)) mem2) (hq_M_either : ∀  mem r mem2, q_M_either  mem = some (r, mem2) → gk_C tm (gk_zl z) (gk_zu z) me_M_either (3 + dd) [.ref 0] mem (some (.int r)) mem2) {k10 : Int32 → Int32 → gk_M → Option (Int32 × gk_M)} (hk10 : ∀ a1 a2 m0, k10 a1 a2 m0 = some (r, mem2) → gk_G tm z me_M_product (gk_R tm z (some (.int r)) mem2) m0 [(0, .ref 0), (1, .int a1), (2, .int a2)] [] 10) : ∀ s0 m0, f_M_product_85 q_M_one q_M_product q_M_sums q_M_compared q_M_both q_M_either k10 s0 m0 = some (r, mem2) → gk_G tm z me_M_product (gk_R tm z (some (.int r)) mem2) m0 [(0, .ref 0)] [.int s0] 85 := by
  intro s0 m0  h
  unfold f_M_product_85 at h
  refine gk_istore_n (lv2 := [(1, .int s0), (0, .ref 0)]) (pc := 85) K d_M_product_85 (by decide) rfl ?_
  refine gk_aload_n (pc := 86) K d_M_product_86 rfl ?_
  obtain ⟨v2, m1, em1, h⟩ := gk_bi_some h
  refine gk_cVi (As := []) (pc := 87) K d_M_product_87 mv_M_172 mc_M_byteAt rfl tm_0 cl_ok10.1 (s_M_byteAt (gk_FD K)  em1) (by omega) rfl (Nat.le_of_ble_eq_true rfl) ?_
  refine gk_istore_n (lv2 := [(2, .int v2), (1, .int s0), (0, .ref 0)]) (pc := 90) K d_M_product_90 (by decide) rfl ?_
  refine gk_goto (tgt := 10) (pc := 91) K d_M_product_91 (by decide) ?_
  exact gk_sub [2, 1, 0] rfl (hk10 _ _ _  h)
noncomputable def f_M_product_35 (q_M_one : gk_M → Option (Int32 × gk_M)) (q_M_product : gk_M → Option (Int32 × gk_M)) (q_M_sums : gk_M → Option (Int32 × gk_M)) (q_M_compared : gk_M → Option (Int32 × gk_M)) (q_M_both : gk_M → Option (Int32 × gk_M)) (q_M_either : gk_M → Option (Int32 × gk_M)) (k10 : Int32 → Int32 → gk_M → Option (Int32 × gk_M)) (a1 : Int32) (a2 : Int32) (m0 : gk_M) : Option (Int32 × gk_M) :=
  gk_let (gk_mi m0 0 20 ((m0.1 0 20) + 1)) fun m1 =>
  gk_bi (q_M_one  m1) fun v3 m2 =>
  if ¬ a2 = 42 then
    if ¬ v3 = 0 then
      if ¬ a2 = 47 then
        gk_re a1 v3 fun v4 =>
        f_M_product_85 q_M_one q_M_product q_M_sums q_M_compared q_M_both q_M_either k10 v4 m2
      else
        gk_di a1 v3 fun v5 =>
        f_M_product_85 q_M_one q_M_product q_M_sums q_M_compared q_M_both q_M_either k10 v5 m2
    else
      f_M_product_85 q_M_one q_M_product q_M_sums q_M_compared q_M_both q_M_either k10 0 m2
  else
    f_M_product_85 q_M_one q_M_product q_M_sums q_M_compared q_M_both q_M_either k10 (a1 * v3) m2

theorem s_M_product_35 {z : gk_Z} {dd : Nat} (K : gk_F tm z me_M_product (3 + (dd + 1))) {r : Int32} {mem2 : gk_M} (q_M_one : gk_M → Option (Int32 × gk_M)) (q_M_product : gk_M → Option (Int32 × gk_M)) (q_M_sums : gk_M → Option (Int32 × gk_M)) (q_M_compared : gk_M → Option (Int32 × gk_M)) (q_M_both : gk_M → Option (Int32 × gk_M)) (q_M_either : gk_M → Option (Int32 × gk_M)) (hq_M_one : ∀  mem r mem2, q_M_one  mem = some (r, mem2) → gk_C tm (gk_zl z) (gk_zu z) me_M_one (3 + dd) [.ref 0] mem (some (.int r)) mem2) (hq_M_product : ∀  mem r mem2, q_M_product  mem = some (r, mem2) → gk_C tm (gk_zl z) (gk_zu z) me_M_product (3 + dd) [.ref 0] mem (some (.int r)) mem2) (hq_M_sums : ∀  mem r mem2, q_M_sums  mem = some (r, mem2) → gk_C tm (gk_zl z) (gk_zu z) me_M_sums (3 + dd) [.ref 0] mem (some (.int r)) mem2) (hq_M_compared : ∀  mem r mem2, q_M_compared  mem = some (r, mem2) → gk_C tm (gk_zl z) (gk_zu z) me_M_compared (3 + dd) [.ref 0] mem (some (.int r)) mem2) (hq_M_both : ∀  mem r mem2, q_M_both  mem = some (r, mem2) → gk_C tm (gk_zl z) (gk_zu z) me_M_both (3 + dd) [.ref 0] mem (some (.int r)) mem2) (hq_M_either : ∀  mem r mem2, q_M_either  mem = some (r, mem2) → gk_C tm (gk_zl z) (gk_zu z) me_M_either (3 + dd) [.ref 0] mem (some (.int r)) mem2) {k10 : Int32 → Int32 → gk_M → Option (Int32 × gk_M)} (hk10 : ∀ a1 a2 m0, k10 a1 a2 m0 = some (r, mem2) → gk_G tm z me_M_product (gk_R tm z (some (.int r)) mem2) m0 [(0, .ref 0), (1, .int a1), (2, .int a2)] [] 10) : ∀ a1 a2 m0, f_M_product_35 q_M_one q_M_product q_M_sums q_M_compared q_M_both q_M_either k10 a1 a2 m0 = some (r, mem2) → gk_G tm z me_M_product (gk_R tm z (some (.int r)) mem2) m0 [(0, .ref 0), (1, .int a1), (2, .int a2)] [] 35 := by
  intro a1 a2 m0  h
  unfold f_M_product_35 at h
  refine gk_aload_n (pc := 35) K d_M_product_35 rfl ?_
  refine gk_dup (pc := 36) K d_M_product_36 rfl ?_
  refine gk_get (pc := 37) K d_M_product_37 fl_M_160 tm_0 rfl rfl ?_
  refine gk_iconst (pc := 40) K d_M_product_40 kc_1 ?_
  refine gk_iadd (pc := 41) K d_M_product_41 ?_
  refine gk_puti (pc := 42) K d_M_product_42 fp_M_160 tm_0 rfl h (fun m1 h => ?_)
  refine gk_aload_n (pc := 45) K d_M_product_45 rfl ?_
  obtain ⟨v3, m2, em2, h⟩ := gk_bi_some h
  refine gk_cVi (As := []) (pc := 46) K d_M_product_46 mv_M_191 mc_M_one rfl tm_0 cl_ok10.1 (hq_M_one  _ _ _ em2) (by omega) rfl (Nat.le_of_ble_eq_true rfl) ?_
  refine gk_istore_n (lv2 := [(3, .int v3), (0, .ref 0), (1, .int a1), (2, .int a2)]) (pc := 49) K d_M_product_49 (by decide) rfl ?_
  refine gk_iload_n (pc := 50) K d_M_product_50 rfl ?_
  refine gk_bipush (pc := 51) K d_M_product_51 kb_42 ?_
  refine gk_ic_ne (tgt := 62) (pc := 53) K d_M_product_53 (by decide) h (fun h => ?_) (fun h => ?_)
  · refine gk_iload_n (pc := 62) K d_M_product_62 rfl ?_
    refine gk_if_ne (tgt := 70) (pc := 63) K d_M_product_63 (by decide) h (fun h => ?_) (fun h => ?_)
    · refine gk_iload_n (pc := 70) K d_M_product_70 rfl ?_
      refine gk_bipush (pc := 71) K d_M_product_71 kb_47 ?_
      refine gk_ic_ne (tgt := 82) (pc := 73) K d_M_product_73 (by decide) h (fun h => ?_) (fun h => ?_)
      · refine gk_iload_n (pc := 82) K d_M_product_82 rfl ?_
        refine gk_iload_n (pc := 83) K d_M_product_83 rfl ?_
        refine gk_irem (pc := 84) K d_M_product_84 h (fun v4 h => ?_)
        exact gk_sub [1] rfl (s_M_product_85 K q_M_one q_M_product q_M_sums q_M_compared q_M_both q_M_either hq_M_one hq_M_product hq_M_sums hq_M_compared hq_M_both hq_M_either hk10 _ _  h)
      · refine gk_iload_n (pc := 76) K d_M_product_76 rfl ?_
        refine gk_iload_n (pc := 77) K d_M_product_77 rfl ?_
        refine gk_idiv (pc := 78) K d_M_product_78 h (fun v5 h => ?_)
        refine gk_goto (tgt := 85) (pc := 79) K d_M_product_79 (by decide) ?_
        exact gk_sub [1] rfl (s_M_product_85 K q_M_one q_M_product q_M_sums q_M_compared q_M_both q_M_either hq_M_one hq_M_product hq_M_sums hq_M_compared hq_M_both hq_M_either hk10 _ _  h)
    · refine gk_iconst (pc := 66) K d_M_product_66 kc_0 ?_
      refine gk_goto (tgt := 85) (pc := 67) K d_M_product_67 (by decide) ?_
      exact gk_sub [1] rfl (s_M_product_85 K q_M_one q_M_product q_M_sums q_M_compared q_M_both q_M_either hq_M_one hq_M_product hq_M_sums hq_M_compared hq_M_both hq_M_either hk10 _ _  h)
  · refine gk_iload_n (pc := 56) K d_M_product_56 rfl ?_
    refine gk_iload_n (pc := 57) K d_M_product_57 rfl ?_
    refine gk_imul (pc := 58) K d_M_product_58 ?_
    refine gk_goto (tgt := 85) (pc := 59) K d_M_product_59 (by decide) ?_
    exact gk_sub [1] rfl (s_M_product_85 K q_M_one q_M_product q_M_sums q_M_compared q_M_both q_M_either hq_M_one hq_M_product hq_M_sums hq_M_compared hq_M_both hq_M_either hk10 _ _  h)
noncomputable def f_M_product_10 (q_M_one : gk_M → Option (Int32 × gk_M)) (q_M_product : gk_M → Option (Int32 × gk_M)) (q_M_sums : gk_M → Option (Int32 × gk_M)) (q_M_compared : gk_M → Option (Int32 × gk_M)) (q_M_both : gk_M → Option (Int32 × gk_M)) (q_M_either : gk_M → Option (Int32 × gk_M)) : Nat → Int32 → Int32 → gk_M → Option (Int32 × gk_M)
  | 0, _, _, _ => none
  | n + 1, a1, a2, m0 =>
    if 0 ≤ (m0.1 0 22) then
      some (a1, m0)
    else
      if a2 = 42 then
        f_M_product_35 q_M_one q_M_product q_M_sums q_M_compared q_M_both q_M_either (f_M_product_10 q_M_one q_M_product q_M_sums q_M_compared q_M_both q_M_either n) a1 a2 m0
      else
        if a2 = 47 then
          f_M_product_35 q_M_one q_M_product q_M_sums q_M_compared q_M_both q_M_either (f_M_product_10 q_M_one q_M_product q_M_sums q_M_compared q_M_both q_M_either n) a1 a2 m0
        else
          if ¬ a2 = 37 then
            some (a1, m0)
          else
            f_M_product_35 q_M_one q_M_product q_M_sums q_M_compared q_M_both q_M_either (f_M_product_10 q_M_one q_M_product q_M_sums q_M_compared q_M_both q_M_either n) a1 a2 m0

theorem s_M_product_10 {z : gk_Z} {dd : Nat} (K : gk_F tm z me_M_product (3 + (dd + 1))) {r : Int32} {mem2 : gk_M} (q_M_one : gk_M → Option (Int32 × gk_M)) (q_M_product : gk_M → Option (Int32 × gk_M)) (q_M_sums : gk_M → Option (Int32 × gk_M)) (q_M_compared : gk_M → Option (Int32 × gk_M)) (q_M_both : gk_M → Option (Int32 × gk_M)) (q_M_either : gk_M → Option (Int32 × gk_M)) (hq_M_one : ∀  mem r mem2, q_M_one  mem = some (r, mem2) → gk_C tm (gk_zl z) (gk_zu z) me_M_one (3 + dd) [.ref 0] mem (some (.int r)) mem2) (hq_M_product : ∀  mem r mem2, q_M_product  mem = some (r, mem2) → gk_C tm (gk_zl z) (gk_zu z) me_M_product (3 + dd) [.ref 0] mem (some (.int r)) mem2) (hq_M_sums : ∀  mem r mem2, q_M_sums  mem = some (r, mem2) → gk_C tm (gk_zl z) (gk_zu z) me_M_sums (3 + dd) [.ref 0] mem (some (.int r)) mem2) (hq_M_compared : ∀  mem r mem2, q_M_compared  mem = some (r, mem2) → gk_C tm (gk_zl z) (gk_zu z) me_M_compared (3 + dd) [.ref 0] mem (some (.int r)) mem2) (hq_M_both : ∀  mem r mem2, q_M_both  mem = some (r, mem2) → gk_C tm (gk_zl z) (gk_zu z) me_M_both (3 + dd) [.ref 0] mem (some (.int r)) mem2) (hq_M_either : ∀  mem r mem2, q_M_either  mem = some (r, mem2) → gk_C tm (gk_zl z) (gk_zu z) me_M_either (3 + dd) [.ref 0] mem (some (.int r)) mem2) : ∀ n a1 a2 m0, f_M_product_10 q_M_one q_M_product q_M_sums q_M_compared q_M_both q_M_either n a1 a2 m0 = some (r, mem2) → gk_G tm z me_M_product (gk_R tm z (some (.int r)) mem2) m0 [(0, .ref 0), (1, .int a1), (2, .int a2)] [] 10 := by
  intro n
  induction n with
  | zero => intro a1 a2 m0  h; exact nomatch (show (none : Option _) = some _ from h)
  | succ n ih =>
    intro a1 a2 m0  h
    unfold f_M_product_10 at h
    refine gk_aload_n (pc := 10) K d_M_product_10 rfl ?_
    refine gk_get (pc := 11) K d_M_product_11 fl_M_169 tm_0 rfl rfl ?_
    refine gk_if_ge (tgt := 94) (pc := 14) K d_M_product_14 (by decide) h (fun h => ?_) (fun h => ?_)
    · refine gk_iload_n (pc := 94) K d_M_product_94 rfl ?_
      exact gk_iret (pc := 95) K d_M_product_95 rfl h
    · refine gk_iload_n (pc := 17) K d_M_product_17 rfl ?_
      refine gk_bipush (pc := 18) K d_M_product_18 kb_42 ?_
      refine gk_ic_eq (tgt := 35) (pc := 20) K d_M_product_20 (by decide) h (fun h => ?_) (fun h => ?_)
      · exact gk_sub [0, 1, 2] rfl (s_M_product_35 K q_M_one q_M_product q_M_sums q_M_compared q_M_both q_M_either hq_M_one hq_M_product hq_M_sums hq_M_compared hq_M_both hq_M_either (fun x0 x1 m  h => ih x0 x1 m  h) _ _ _  h)
      · refine gk_iload_n (pc := 23) K d_M_product_23 rfl ?_
        refine gk_bipush (pc := 24) K d_M_product_24 kb_47 ?_
        refine gk_ic_eq (tgt := 35) (pc := 26) K d_M_product_26 (by decide) h (fun h => ?_) (fun h => ?_)
        · exact gk_sub [0, 1, 2] rfl (s_M_product_35 K q_M_one q_M_product q_M_sums q_M_compared q_M_both q_M_either hq_M_one hq_M_product hq_M_sums hq_M_compared hq_M_both hq_M_either (fun x0 x1 m  h => ih x0 x1 m  h) _ _ _  h)
        · refine gk_iload_n (pc := 29) K d_M_product_29 rfl ?_
          refine gk_bipush (pc := 30) K d_M_product_30 kb_37 ?_
          refine gk_ic_ne (tgt := 94) (pc := 32) K d_M_product_32 (by decide) h (fun h => ?_) (fun h => ?_)
          · refine gk_iload_n (pc := 94) K d_M_product_94 rfl ?_
            exact gk_iret (pc := 95) K d_M_product_95 rfl h
          · exact gk_sub [0, 1, 2] rfl (s_M_product_35 K q_M_one q_M_product q_M_sums q_M_compared q_M_both q_M_either hq_M_one hq_M_product hq_M_sums hq_M_compared hq_M_both hq_M_either (fun x0 x1 m  h => ih x0 x1 m  h) _ _ _  h)
noncomputable def f_M_product_0 (q_M_one : gk_M → Option (Int32 × gk_M)) (q_M_product : gk_M → Option (Int32 × gk_M)) (q_M_sums : gk_M → Option (Int32 × gk_M)) (q_M_compared : gk_M → Option (Int32 × gk_M)) (q_M_both : gk_M → Option (Int32 × gk_M)) (q_M_either : gk_M → Option (Int32 × gk_M))  (m0 : gk_M) : Option (Int32 × gk_M) :=
  gk_bi (q_M_one  m0) fun v2 m1 =>
  gk_bi (f_M_byteAt  m1) fun v4 m3 =>
  f_M_product_10 q_M_one q_M_product q_M_sums q_M_compared q_M_both q_M_either gk_fv v2 v4 m3

theorem s_M_product_0 {z : gk_Z} {dd : Nat} (K : gk_F tm z me_M_product (3 + (dd + 1))) {r : Int32} {mem2 : gk_M} (q_M_one : gk_M → Option (Int32 × gk_M)) (q_M_product : gk_M → Option (Int32 × gk_M)) (q_M_sums : gk_M → Option (Int32 × gk_M)) (q_M_compared : gk_M → Option (Int32 × gk_M)) (q_M_both : gk_M → Option (Int32 × gk_M)) (q_M_either : gk_M → Option (Int32 × gk_M)) (hq_M_one : ∀  mem r mem2, q_M_one  mem = some (r, mem2) → gk_C tm (gk_zl z) (gk_zu z) me_M_one (3 + dd) [.ref 0] mem (some (.int r)) mem2) (hq_M_product : ∀  mem r mem2, q_M_product  mem = some (r, mem2) → gk_C tm (gk_zl z) (gk_zu z) me_M_product (3 + dd) [.ref 0] mem (some (.int r)) mem2) (hq_M_sums : ∀  mem r mem2, q_M_sums  mem = some (r, mem2) → gk_C tm (gk_zl z) (gk_zu z) me_M_sums (3 + dd) [.ref 0] mem (some (.int r)) mem2) (hq_M_compared : ∀  mem r mem2, q_M_compared  mem = some (r, mem2) → gk_C tm (gk_zl z) (gk_zu z) me_M_compared (3 + dd) [.ref 0] mem (some (.int r)) mem2) (hq_M_both : ∀  mem r mem2, q_M_both  mem = some (r, mem2) → gk_C tm (gk_zl z) (gk_zu z) me_M_both (3 + dd) [.ref 0] mem (some (.int r)) mem2) (hq_M_either : ∀  mem r mem2, q_M_either  mem = some (r, mem2) → gk_C tm (gk_zl z) (gk_zu z) me_M_either (3 + dd) [.ref 0] mem (some (.int r)) mem2) : ∀  m0, f_M_product_0 q_M_one q_M_product q_M_sums q_M_compared q_M_both q_M_either  m0 = some (r, mem2) → gk_G tm z me_M_product (gk_R tm z (some (.int r)) mem2) m0 [(0, .ref 0)] [] 0 := by
  intro  m0  h
  unfold f_M_product_0 at h
  refine gk_aload_n (pc := 0) K d_M_product_0 rfl ?_
  obtain ⟨v2, m1, em1, h⟩ := gk_bi_some h
  refine gk_cVi (As := []) (pc := 1) K d_M_product_1 mv_M_191 mc_M_one rfl tm_0 cl_ok10.1 (hq_M_one  _ _ _ em1) (by omega) rfl (Nat.le_of_ble_eq_true rfl) ?_
  refine gk_istore_n (lv2 := [(1, .int v2), (0, .ref 0)]) (pc := 4) K d_M_product_4 (by decide) rfl ?_
  refine gk_aload_n (pc := 5) K d_M_product_5 rfl ?_
  obtain ⟨v4, m3, em3, h⟩ := gk_bi_some h
  refine gk_cVi (As := []) (pc := 6) K d_M_product_6 mv_M_172 mc_M_byteAt rfl tm_0 cl_ok10.1 (s_M_byteAt (gk_FD K)  em3) (by omega) rfl (Nat.le_of_ble_eq_true rfl) ?_
  refine gk_istore_n (lv2 := [(2, .int v4), (1, .int v2), (0, .ref 0)]) (pc := 9) K d_M_product_9 (by decide) rfl ?_
  exact gk_sub [2, 1, 0] rfl (s_M_product_10 K q_M_one q_M_product q_M_sums q_M_compared q_M_both q_M_either hq_M_one hq_M_product hq_M_sums hq_M_compared hq_M_both hq_M_either _ _ _ _  h)
theorem d_M_sums_0 : decode me_M_sums.2.1 0 = .ok (.aload_n 0, 1) := by decide +kernel
theorem d_M_sums_1 : decode me_M_sums.2.1 1 = .ok (.invokevirtual 188, 3) := by decide +kernel
theorem d_M_sums_4 : decode me_M_sums.2.1 4 = .ok (.istore_n 1, 1) := by decide +kernel
theorem d_M_sums_5 : decode me_M_sums.2.1 5 = .ok (.aload_n 0, 1) := by decide +kernel
theorem d_M_sums_6 : decode me_M_sums.2.1 6 = .ok (.getfield 169, 3) := by decide +kernel
theorem d_M_sums_9 : decode me_M_sums.2.1 9 = .ok (.ifCond .ge 68, 3) := by decide +kernel
theorem d_M_sums_12 : decode me_M_sums.2.1 12 = .ok (.aload_n 0, 1) := by decide +kernel
theorem d_M_sums_13 : decode me_M_sums.2.1 13 = .ok (.invokevirtual 172, 3) := by decide +kernel
theorem d_M_sums_16 : decode me_M_sums.2.1 16 = .ok (.bipush 43, 2) := by decide +kernel
theorem d_M_sums_18 : decode me_M_sums.2.1 18 = .ok (.if_icmp .eq 12, 3) := by decide +kernel
theorem d_M_sums_21 : decode me_M_sums.2.1 21 = .ok (.aload_n 0, 1) := by decide +kernel
theorem d_M_sums_22 : decode me_M_sums.2.1 22 = .ok (.invokevirtual 172, 3) := by decide +kernel
theorem d_M_sums_25 : decode me_M_sums.2.1 25 = .ok (.bipush 45, 2) := by decide +kernel
theorem d_M_sums_27 : decode me_M_sums.2.1 27 = .ok (.if_icmp .ne 50, 3) := by decide +kernel
theorem d_M_sums_30 : decode me_M_sums.2.1 30 = .ok (.aload_n 0, 1) := by decide +kernel
theorem d_M_sums_31 : decode me_M_sums.2.1 31 = .ok (.invokevirtual 172, 3) := by decide +kernel
theorem d_M_sums_34 : decode me_M_sums.2.1 34 = .ok (.bipush 43, 2) := by decide +kernel
theorem d_M_sums_36 : decode me_M_sums.2.1 36 = .ok (.if_icmp .ne 7, 3) := by decide +kernel
theorem d_M_sums_39 : decode me_M_sums.2.1 39 = .ok (.iconst 1, 1) := by decide +kernel
theorem d_M_sums_40 : decode me_M_sums.2.1 40 = .ok (.goto 4, 3) := by decide +kernel
theorem d_M_sums_43 : decode me_M_sums.2.1 43 = .ok (.iconst 0, 1) := by decide +kernel
theorem d_M_sums_44 : decode me_M_sums.2.1 44 = .ok (.istore_n 2, 1) := by decide +kernel
theorem d_M_sums_45 : decode me_M_sums.2.1 45 = .ok (.aload_n 0, 1) := by decide +kernel
theorem d_M_sums_46 : decode me_M_sums.2.1 46 = .ok (.dup, 1) := by decide +kernel
theorem d_M_sums_47 : decode me_M_sums.2.1 47 = .ok (.getfield 160, 3) := by decide +kernel
theorem d_M_sums_50 : decode me_M_sums.2.1 50 = .ok (.iconst 1, 1) := by decide +kernel
theorem d_M_sums_51 : decode me_M_sums.2.1 51 = .ok (.iadd, 1) := by decide +kernel
theorem d_M_sums_52 : decode me_M_sums.2.1 52 = .ok (.putfield 160, 3) := by decide +kernel
theorem d_M_sums_55 : decode me_M_sums.2.1 55 = .ok (.aload_n 0, 1) := by decide +kernel
theorem d_M_sums_56 : decode me_M_sums.2.1 56 = .ok (.invokevirtual 188, 3) := by decide +kernel
theorem d_M_sums_59 : decode me_M_sums.2.1 59 = .ok (.istore_n 3, 1) := by decide +kernel
theorem d_M_sums_60 : decode me_M_sums.2.1 60 = .ok (.iload_n 2, 1) := by decide +kernel
theorem d_M_sums_61 : decode me_M_sums.2.1 61 = .ok (.ifCond .eq 9, 3) := by decide +kernel
theorem d_M_sums_64 : decode me_M_sums.2.1 64 = .ok (.iload_n 1, 1) := by decide +kernel
theorem d_M_sums_65 : decode me_M_sums.2.1 65 = .ok (.iload_n 3, 1) := by decide +kernel
theorem d_M_sums_66 : decode me_M_sums.2.1 66 = .ok (.iadd, 1) := by decide +kernel
theorem d_M_sums_67 : decode me_M_sums.2.1 67 = .ok (.goto 6, 3) := by decide +kernel
theorem d_M_sums_70 : decode me_M_sums.2.1 70 = .ok (.iload_n 1, 1) := by decide +kernel
theorem d_M_sums_71 : decode me_M_sums.2.1 71 = .ok (.iload_n 3, 1) := by decide +kernel
theorem d_M_sums_72 : decode me_M_sums.2.1 72 = .ok (.isub, 1) := by decide +kernel
theorem d_M_sums_73 : decode me_M_sums.2.1 73 = .ok (.istore_n 1, 1) := by decide +kernel
theorem d_M_sums_74 : decode me_M_sums.2.1 74 = .ok (.goto (-69), 3) := by decide +kernel
theorem d_M_sums_77 : decode me_M_sums.2.1 77 = .ok (.iload_n 1, 1) := by decide +kernel
theorem d_M_sums_78 : decode me_M_sums.2.1 78 = .ok (.ireturn, 1) := by decide +kernel
noncomputable def f_M_sums_73 (q_M_one : gk_M → Option (Int32 × gk_M)) (q_M_product : gk_M → Option (Int32 × gk_M)) (q_M_sums : gk_M → Option (Int32 × gk_M)) (q_M_compared : gk_M → Option (Int32 × gk_M)) (q_M_both : gk_M → Option (Int32 × gk_M)) (q_M_either : gk_M → Option (Int32 × gk_M)) (k5 : Int32 → gk_M → Option (Int32 × gk_M)) (s0 : Int32) (m0 : gk_M) : Option (Int32 × gk_M) :=
  k5 s0 m0

theorem s_M_sums_73 {z : gk_Z} {dd : Nat} (K : gk_F tm z me_M_sums (3 + (dd + 1))) {r : Int32} {mem2 : gk_M} (q_M_one : gk_M → Option (Int32 × gk_M)) (q_M_product : gk_M → Option (Int32 × gk_M)) (q_M_sums : gk_M → Option (Int32 × gk_M)) (q_M_compared : gk_M → Option (Int32 × gk_M)) (q_M_both : gk_M → Option (Int32 × gk_M)) (q_M_either : gk_M → Option (Int32 × gk_M)) (hq_M_one : ∀  mem r mem2, q_M_one  mem = some (r, mem2) → gk_C tm (gk_zl z) (gk_zu z) me_M_one (3 + dd) [.ref 0] mem (some (.int r)) mem2) (hq_M_product : ∀  mem r mem2, q_M_product  mem = some (r, mem2) → gk_C tm (gk_zl z) (gk_zu z) me_M_product (3 + dd) [.ref 0] mem (some (.int r)) mem2) (hq_M_sums : ∀  mem r mem2, q_M_sums  mem = some (r, mem2) → gk_C tm (gk_zl z) (gk_zu z) me_M_sums (3 + dd) [.ref 0] mem (some (.int r)) mem2) (hq_M_compared : ∀  mem r mem2, q_M_compared  mem = some (r, mem2) → gk_C tm (gk_zl z) (gk_zu z) me_M_compared (3 + dd) [.ref 0] mem (some (.int r)) mem2) (hq_M_both : ∀  mem r mem2, q_M_both  mem = some (r, mem2) → gk_C tm (gk_zl z) (gk_zu z) me_M_both (3 + dd) [.ref 0] mem (some (.int r)) mem2) (hq_M_either : ∀  mem r mem2, q_M_either  mem = some (r, mem2) → gk_C tm (gk_zl z) (gk_zu z) me_M_either (3 + dd) [.ref 0] mem (some (.int r)) mem2) {k5 : Int32 → gk_M → Option (Int32 × gk_M)} (hk5 : ∀ a1 m0, k5 a1 m0 = some (r, mem2) → gk_G tm z me_M_sums (gk_R tm z (some (.int r)) mem2) m0 [(0, .ref 0), (1, .int a1)] [] 5) : ∀ s0 m0, f_M_sums_73 q_M_one q_M_product q_M_sums q_M_compared q_M_both q_M_either k5 s0 m0 = some (r, mem2) → gk_G tm z me_M_sums (gk_R tm z (some (.int r)) mem2) m0 [(0, .ref 0)] [.int s0] 73 := by
  intro s0 m0  h
  unfold f_M_sums_73 at h
  refine gk_istore_n (lv2 := [(1, .int s0), (0, .ref 0)]) (pc := 73) K d_M_sums_73 (by decide) rfl ?_
  refine gk_goto (tgt := 5) (pc := 74) K d_M_sums_74 (by decide) ?_
  exact gk_sub [1, 0] rfl (hk5 _ _  h)
noncomputable def f_M_sums_44 (q_M_one : gk_M → Option (Int32 × gk_M)) (q_M_product : gk_M → Option (Int32 × gk_M)) (q_M_sums : gk_M → Option (Int32 × gk_M)) (q_M_compared : gk_M → Option (Int32 × gk_M)) (q_M_both : gk_M → Option (Int32 × gk_M)) (q_M_either : gk_M → Option (Int32 × gk_M)) (k5 : Int32 → gk_M → Option (Int32 × gk_M)) (a1 : Int32) (s0 : Int32) (m0 : gk_M) : Option (Int32 × gk_M) :=
  gk_let (gk_mi m0 0 20 ((m0.1 0 20) + 1)) fun m1 =>
  gk_bi (q_M_product  m1) fun v3 m2 =>
  if s0 = 0 then
    f_M_sums_73 q_M_one q_M_product q_M_sums q_M_compared q_M_both q_M_either k5 (a1 - v3) m2
  else
    f_M_sums_73 q_M_one q_M_product q_M_sums q_M_compared q_M_both q_M_either k5 (a1 + v3) m2

theorem s_M_sums_44 {z : gk_Z} {dd : Nat} (K : gk_F tm z me_M_sums (3 + (dd + 1))) {r : Int32} {mem2 : gk_M} (q_M_one : gk_M → Option (Int32 × gk_M)) (q_M_product : gk_M → Option (Int32 × gk_M)) (q_M_sums : gk_M → Option (Int32 × gk_M)) (q_M_compared : gk_M → Option (Int32 × gk_M)) (q_M_both : gk_M → Option (Int32 × gk_M)) (q_M_either : gk_M → Option (Int32 × gk_M)) (hq_M_one : ∀  mem r mem2, q_M_one  mem = some (r, mem2) → gk_C tm (gk_zl z) (gk_zu z) me_M_one (3 + dd) [.ref 0] mem (some (.int r)) mem2) (hq_M_product : ∀  mem r mem2, q_M_product  mem = some (r, mem2) → gk_C tm (gk_zl z) (gk_zu z) me_M_product (3 + dd) [.ref 0] mem (some (.int r)) mem2) (hq_M_sums : ∀  mem r mem2, q_M_sums  mem = some (r, mem2) → gk_C tm (gk_zl z) (gk_zu z) me_M_sums (3 + dd) [.ref 0] mem (some (.int r)) mem2) (hq_M_compared : ∀  mem r mem2, q_M_compared  mem = some (r, mem2) → gk_C tm (gk_zl z) (gk_zu z) me_M_compared (3 + dd) [.ref 0] mem (some (.int r)) mem2) (hq_M_both : ∀  mem r mem2, q_M_both  mem = some (r, mem2) → gk_C tm (gk_zl z) (gk_zu z) me_M_both (3 + dd) [.ref 0] mem (some (.int r)) mem2) (hq_M_either : ∀  mem r mem2, q_M_either  mem = some (r, mem2) → gk_C tm (gk_zl z) (gk_zu z) me_M_either (3 + dd) [.ref 0] mem (some (.int r)) mem2) {k5 : Int32 → gk_M → Option (Int32 × gk_M)} (hk5 : ∀ a1 m0, k5 a1 m0 = some (r, mem2) → gk_G tm z me_M_sums (gk_R tm z (some (.int r)) mem2) m0 [(0, .ref 0), (1, .int a1)] [] 5) : ∀ a1 s0 m0, f_M_sums_44 q_M_one q_M_product q_M_sums q_M_compared q_M_both q_M_either k5 a1 s0 m0 = some (r, mem2) → gk_G tm z me_M_sums (gk_R tm z (some (.int r)) mem2) m0 [(0, .ref 0), (1, .int a1)] [.int s0] 44 := by
  intro a1 s0 m0  h
  unfold f_M_sums_44 at h
  refine gk_istore_n (lv2 := [(2, .int s0), (0, .ref 0), (1, .int a1)]) (pc := 44) K d_M_sums_44 (by decide) rfl ?_
  refine gk_aload_n (pc := 45) K d_M_sums_45 rfl ?_
  refine gk_dup (pc := 46) K d_M_sums_46 rfl ?_
  refine gk_get (pc := 47) K d_M_sums_47 fl_M_160 tm_0 rfl rfl ?_
  refine gk_iconst (pc := 50) K d_M_sums_50 kc_1 ?_
  refine gk_iadd (pc := 51) K d_M_sums_51 ?_
  refine gk_puti (pc := 52) K d_M_sums_52 fp_M_160 tm_0 rfl h (fun m1 h => ?_)
  refine gk_aload_n (pc := 55) K d_M_sums_55 rfl ?_
  obtain ⟨v3, m2, em2, h⟩ := gk_bi_some h
  refine gk_cVi (As := []) (pc := 56) K d_M_sums_56 mv_M_188 mc_M_product rfl tm_0 cl_ok10.1 (hq_M_product  _ _ _ em2) (by omega) rfl (Nat.le_of_ble_eq_true rfl) ?_
  refine gk_istore_n (lv2 := [(3, .int v3), (2, .int s0), (0, .ref 0), (1, .int a1)]) (pc := 59) K d_M_sums_59 (by decide) rfl ?_
  refine gk_iload_n (pc := 60) K d_M_sums_60 rfl ?_
  refine gk_if_eq (tgt := 70) (pc := 61) K d_M_sums_61 (by decide) h (fun h => ?_) (fun h => ?_)
  · refine gk_iload_n (pc := 70) K d_M_sums_70 rfl ?_
    refine gk_iload_n (pc := 71) K d_M_sums_71 rfl ?_
    refine gk_isub (pc := 72) K d_M_sums_72 ?_
    exact gk_sub [2] rfl (s_M_sums_73 K q_M_one q_M_product q_M_sums q_M_compared q_M_both q_M_either hq_M_one hq_M_product hq_M_sums hq_M_compared hq_M_both hq_M_either hk5 _ _  h)
  · refine gk_iload_n (pc := 64) K d_M_sums_64 rfl ?_
    refine gk_iload_n (pc := 65) K d_M_sums_65 rfl ?_
    refine gk_iadd (pc := 66) K d_M_sums_66 ?_
    refine gk_goto (tgt := 73) (pc := 67) K d_M_sums_67 (by decide) ?_
    exact gk_sub [2] rfl (s_M_sums_73 K q_M_one q_M_product q_M_sums q_M_compared q_M_both q_M_either hq_M_one hq_M_product hq_M_sums hq_M_compared hq_M_both hq_M_either hk5 _ _  h)
noncomputable def f_M_sums_30 (q_M_one : gk_M → Option (Int32 × gk_M)) (q_M_product : gk_M → Option (Int32 × gk_M)) (q_M_sums : gk_M → Option (Int32 × gk_M)) (q_M_compared : gk_M → Option (Int32 × gk_M)) (q_M_both : gk_M → Option (Int32 × gk_M)) (q_M_either : gk_M → Option (Int32 × gk_M)) (k5 : Int32 → gk_M → Option (Int32 × gk_M)) (a1 : Int32) (m0 : gk_M) : Option (Int32 × gk_M) :=
  gk_bi (f_M_byteAt  m0) fun v2 m1 =>
  if ¬ v2 = 43 then
    f_M_sums_44 q_M_one q_M_product q_M_sums q_M_compared q_M_both q_M_either k5 a1 0 m1
  else
    f_M_sums_44 q_M_one q_M_product q_M_sums q_M_compared q_M_both q_M_either k5 a1 1 m1

theorem s_M_sums_30 {z : gk_Z} {dd : Nat} (K : gk_F tm z me_M_sums (3 + (dd + 1))) {r : Int32} {mem2 : gk_M} (q_M_one : gk_M → Option (Int32 × gk_M)) (q_M_product : gk_M → Option (Int32 × gk_M)) (q_M_sums : gk_M → Option (Int32 × gk_M)) (q_M_compared : gk_M → Option (Int32 × gk_M)) (q_M_both : gk_M → Option (Int32 × gk_M)) (q_M_either : gk_M → Option (Int32 × gk_M)) (hq_M_one : ∀  mem r mem2, q_M_one  mem = some (r, mem2) → gk_C tm (gk_zl z) (gk_zu z) me_M_one (3 + dd) [.ref 0] mem (some (.int r)) mem2) (hq_M_product : ∀  mem r mem2, q_M_product  mem = some (r, mem2) → gk_C tm (gk_zl z) (gk_zu z) me_M_product (3 + dd) [.ref 0] mem (some (.int r)) mem2) (hq_M_sums : ∀  mem r mem2, q_M_sums  mem = some (r, mem2) → gk_C tm (gk_zl z) (gk_zu z) me_M_sums (3 + dd) [.ref 0] mem (some (.int r)) mem2) (hq_M_compared : ∀  mem r mem2, q_M_compared  mem = some (r, mem2) → gk_C tm (gk_zl z) (gk_zu z) me_M_compared (3 + dd) [.ref 0] mem (some (.int r)) mem2) (hq_M_both : ∀  mem r mem2, q_M_both  mem = some (r, mem2) → gk_C tm (gk_zl z) (gk_zu z) me_M_both (3 + dd) [.ref 0] mem (some (.int r)) mem2) (hq_M_either : ∀  mem r mem2, q_M_either  mem = some (r, mem2) → gk_C tm (gk_zl z) (gk_zu z) me_M_either (3 + dd) [.ref 0] mem (some (.int r)) mem2) {k5 : Int32 → gk_M → Option (Int32 × gk_M)} (hk5 : ∀ a1 m0, k5 a1 m0 = some (r, mem2) → gk_G tm z me_M_sums (gk_R tm z (some (.int r)) mem2) m0 [(0, .ref 0), (1, .int a1)] [] 5) : ∀ a1 m0, f_M_sums_30 q_M_one q_M_product q_M_sums q_M_compared q_M_both q_M_either k5 a1 m0 = some (r, mem2) → gk_G tm z me_M_sums (gk_R tm z (some (.int r)) mem2) m0 [(0, .ref 0), (1, .int a1)] [] 30 := by
  intro a1 m0  h
  unfold f_M_sums_30 at h
  refine gk_aload_n (pc := 30) K d_M_sums_30 rfl ?_
  obtain ⟨v2, m1, em1, h⟩ := gk_bi_some h
  refine gk_cVi (As := []) (pc := 31) K d_M_sums_31 mv_M_172 mc_M_byteAt rfl tm_0 cl_ok10.1 (s_M_byteAt (gk_FD K)  em1) (by omega) rfl (Nat.le_of_ble_eq_true rfl) ?_
  refine gk_bipush (pc := 34) K d_M_sums_34 kb_43 ?_
  refine gk_ic_ne (tgt := 43) (pc := 36) K d_M_sums_36 (by decide) h (fun h => ?_) (fun h => ?_)
  · refine gk_iconst (pc := 43) K d_M_sums_43 kc_0 ?_
    exact gk_sub [0, 1] rfl (s_M_sums_44 K q_M_one q_M_product q_M_sums q_M_compared q_M_both q_M_either hq_M_one hq_M_product hq_M_sums hq_M_compared hq_M_both hq_M_either hk5 _ _ _  h)
  · refine gk_iconst (pc := 39) K d_M_sums_39 kc_1 ?_
    refine gk_goto (tgt := 44) (pc := 40) K d_M_sums_40 (by decide) ?_
    exact gk_sub [0, 1] rfl (s_M_sums_44 K q_M_one q_M_product q_M_sums q_M_compared q_M_both q_M_either hq_M_one hq_M_product hq_M_sums hq_M_compared hq_M_both hq_M_either hk5 _ _ _  h)
noncomputable def f_M_sums_5 (q_M_one : gk_M → Option (Int32 × gk_M)) (q_M_product : gk_M → Option (Int32 × gk_M)) (q_M_sums : gk_M → Option (Int32 × gk_M)) (q_M_compared : gk_M → Option (Int32 × gk_M)) (q_M_both : gk_M → Option (Int32 × gk_M)) (q_M_either : gk_M → Option (Int32 × gk_M)) : Nat → Int32 → gk_M → Option (Int32 × gk_M)
  | 0, _, _ => none
  | n + 1, a1, m0 =>
    if 0 ≤ (m0.1 0 22) then
      some (a1, m0)
    else
      gk_bi (f_M_byteAt  m0) fun v2 m1 =>
      if v2 = 43 then
        f_M_sums_30 q_M_one q_M_product q_M_sums q_M_compared q_M_both q_M_either (f_M_sums_5 q_M_one q_M_product q_M_sums q_M_compared q_M_both q_M_either n) a1 m1
      else
        gk_bi (f_M_byteAt  m1) fun v4 m3 =>
        if ¬ v4 = 45 then
          some (a1, m3)
        else
          f_M_sums_30 q_M_one q_M_product q_M_sums q_M_compared q_M_both q_M_either (f_M_sums_5 q_M_one q_M_product q_M_sums q_M_compared q_M_both q_M_either n) a1 m3

theorem s_M_sums_5 {z : gk_Z} {dd : Nat} (K : gk_F tm z me_M_sums (3 + (dd + 1))) {r : Int32} {mem2 : gk_M} (q_M_one : gk_M → Option (Int32 × gk_M)) (q_M_product : gk_M → Option (Int32 × gk_M)) (q_M_sums : gk_M → Option (Int32 × gk_M)) (q_M_compared : gk_M → Option (Int32 × gk_M)) (q_M_both : gk_M → Option (Int32 × gk_M)) (q_M_either : gk_M → Option (Int32 × gk_M)) (hq_M_one : ∀  mem r mem2, q_M_one  mem = some (r, mem2) → gk_C tm (gk_zl z) (gk_zu z) me_M_one (3 + dd) [.ref 0] mem (some (.int r)) mem2) (hq_M_product : ∀  mem r mem2, q_M_product  mem = some (r, mem2) → gk_C tm (gk_zl z) (gk_zu z) me_M_product (3 + dd) [.ref 0] mem (some (.int r)) mem2) (hq_M_sums : ∀  mem r mem2, q_M_sums  mem = some (r, mem2) → gk_C tm (gk_zl z) (gk_zu z) me_M_sums (3 + dd) [.ref 0] mem (some (.int r)) mem2) (hq_M_compared : ∀  mem r mem2, q_M_compared  mem = some (r, mem2) → gk_C tm (gk_zl z) (gk_zu z) me_M_compared (3 + dd) [.ref 0] mem (some (.int r)) mem2) (hq_M_both : ∀  mem r mem2, q_M_both  mem = some (r, mem2) → gk_C tm (gk_zl z) (gk_zu z) me_M_both (3 + dd) [.ref 0] mem (some (.int r)) mem2) (hq_M_either : ∀  mem r mem2, q_M_either  mem = some (r, mem2) → gk_C tm (gk_zl z) (gk_zu z) me_M_either (3 + dd) [.ref 0] mem (some (.int r)) mem2) : ∀ n a1 m0, f_M_sums_5 q_M_one q_M_product q_M_sums q_M_compared q_M_both q_M_either n a1 m0 = some (r, mem2) → gk_G tm z me_M_sums (gk_R tm z (some (.int r)) mem2) m0 [(0, .ref 0), (1, .int a1)] [] 5 := by
  intro n
  induction n with
  | zero => intro a1 m0  h; exact nomatch (show (none : Option _) = some _ from h)
  | succ n ih =>
    intro a1 m0  h
    unfold f_M_sums_5 at h
    refine gk_aload_n (pc := 5) K d_M_sums_5 rfl ?_
    refine gk_get (pc := 6) K d_M_sums_6 fl_M_169 tm_0 rfl rfl ?_
    refine gk_if_ge (tgt := 77) (pc := 9) K d_M_sums_9 (by decide) h (fun h => ?_) (fun h => ?_)
    · refine gk_iload_n (pc := 77) K d_M_sums_77 rfl ?_
      exact gk_iret (pc := 78) K d_M_sums_78 rfl h
    · refine gk_aload_n (pc := 12) K d_M_sums_12 rfl ?_
      obtain ⟨v2, m1, em1, h⟩ := gk_bi_some h
      refine gk_cVi (As := []) (pc := 13) K d_M_sums_13 mv_M_172 mc_M_byteAt rfl tm_0 cl_ok10.1 (s_M_byteAt (gk_FD K)  em1) (by omega) rfl (Nat.le_of_ble_eq_true rfl) ?_
      refine gk_bipush (pc := 16) K d_M_sums_16 kb_43 ?_
      refine gk_ic_eq (tgt := 30) (pc := 18) K d_M_sums_18 (by decide) h (fun h => ?_) (fun h => ?_)
      · exact gk_sub [0, 1] rfl (s_M_sums_30 K q_M_one q_M_product q_M_sums q_M_compared q_M_both q_M_either hq_M_one hq_M_product hq_M_sums hq_M_compared hq_M_both hq_M_either (fun x0 m  h => ih x0 m  h) _ _  h)
      · refine gk_aload_n (pc := 21) K d_M_sums_21 rfl ?_
        obtain ⟨v4, m3, em3, h⟩ := gk_bi_some h
        refine gk_cVi (As := []) (pc := 22) K d_M_sums_22 mv_M_172 mc_M_byteAt rfl tm_0 cl_ok10.1 (s_M_byteAt (gk_FD K)  em3) (by omega) rfl (Nat.le_of_ble_eq_true rfl) ?_
        refine gk_bipush (pc := 25) K d_M_sums_25 kb_45 ?_
        refine gk_ic_ne (tgt := 77) (pc := 27) K d_M_sums_27 (by decide) h (fun h => ?_) (fun h => ?_)
        · refine gk_iload_n (pc := 77) K d_M_sums_77 rfl ?_
          exact gk_iret (pc := 78) K d_M_sums_78 rfl h
        · exact gk_sub [0, 1] rfl (s_M_sums_30 K q_M_one q_M_product q_M_sums q_M_compared q_M_both q_M_either hq_M_one hq_M_product hq_M_sums hq_M_compared hq_M_both hq_M_either (fun x0 m  h => ih x0 m  h) _ _  h)
noncomputable def f_M_sums_0 (q_M_one : gk_M → Option (Int32 × gk_M)) (q_M_product : gk_M → Option (Int32 × gk_M)) (q_M_sums : gk_M → Option (Int32 × gk_M)) (q_M_compared : gk_M → Option (Int32 × gk_M)) (q_M_both : gk_M → Option (Int32 × gk_M)) (q_M_either : gk_M → Option (Int32 × gk_M))  (m0 : gk_M) : Option (Int32 × gk_M) :=
  gk_bi (q_M_product  m0) fun v2 m1 =>
  f_M_sums_5 q_M_one q_M_product q_M_sums q_M_compared q_M_both q_M_either gk_fv v2 m1

theorem s_M_sums_0 {z : gk_Z} {dd : Nat} (K : gk_F tm z me_M_sums (3 + (dd + 1))) {r : Int32} {mem2 : gk_M} (q_M_one : gk_M → Option (Int32 × gk_M)) (q_M_product : gk_M → Option (Int32 × gk_M)) (q_M_sums : gk_M → Option (Int32 × gk_M)) (q_M_compared : gk_M → Option (Int32 × gk_M)) (q_M_both : gk_M → Option (Int32 × gk_M)) (q_M_either : gk_M → Option (Int32 × gk_M)) (hq_M_one : ∀  mem r mem2, q_M_one  mem = some (r, mem2) → gk_C tm (gk_zl z) (gk_zu z) me_M_one (3 + dd) [.ref 0] mem (some (.int r)) mem2) (hq_M_product : ∀  mem r mem2, q_M_product  mem = some (r, mem2) → gk_C tm (gk_zl z) (gk_zu z) me_M_product (3 + dd) [.ref 0] mem (some (.int r)) mem2) (hq_M_sums : ∀  mem r mem2, q_M_sums  mem = some (r, mem2) → gk_C tm (gk_zl z) (gk_zu z) me_M_sums (3 + dd) [.ref 0] mem (some (.int r)) mem2) (hq_M_compared : ∀  mem r mem2, q_M_compared  mem = some (r, mem2) → gk_C tm (gk_zl z) (gk_zu z) me_M_compared (3 + dd) [.ref 0] mem (some (.int r)) mem2) (hq_M_both : ∀  mem r mem2, q_M_both  mem = some (r, mem2) → gk_C tm (gk_zl z) (gk_zu z) me_M_both (3 + dd) [.ref 0] mem (some (.int r)) mem2) (hq_M_either : ∀  mem r mem2, q_M_either  mem = some (r, mem2) → gk_C tm (gk_zl z) (gk_zu z) me_M_either (3 + dd) [.ref 0] mem (some (.int r)) mem2) : ∀  m0, f_M_sums_0 q_M_one q_M_product q_M_sums q_M_compared q_M_both q_M_either  m0 = some (r, mem2) → gk_G tm z me_M_sums (gk_R tm z (some (.int r)) mem2) m0 [(0, .ref 0)] [] 0 := by
  intro  m0  h
  unfold f_M_sums_0 at h
  refine gk_aload_n (pc := 0) K d_M_sums_0 rfl ?_
  obtain ⟨v2, m1, em1, h⟩ := gk_bi_some h
  refine gk_cVi (As := []) (pc := 1) K d_M_sums_1 mv_M_188 mc_M_product rfl tm_0 cl_ok10.1 (hq_M_product  _ _ _ em1) (by omega) rfl (Nat.le_of_ble_eq_true rfl) ?_
  refine gk_istore_n (lv2 := [(1, .int v2), (0, .ref 0)]) (pc := 4) K d_M_sums_4 (by decide) rfl ?_
  exact gk_sub [1, 0] rfl (s_M_sums_5 K q_M_one q_M_product q_M_sums q_M_compared q_M_both q_M_either hq_M_one hq_M_product hq_M_sums hq_M_compared hq_M_both hq_M_either _ _ _  h)
theorem d_M_compared_0 : decode me_M_compared.2.1 0 = .ok (.aload_n 0, 1) := by decide +kernel
theorem d_M_compared_1 : decode me_M_compared.2.1 1 = .ok (.invokevirtual 185, 3) := by decide +kernel
theorem d_M_compared_4 : decode me_M_compared.2.1 4 = .ok (.istore_n 1, 1) := by decide +kernel
theorem d_M_compared_5 : decode me_M_compared.2.1 5 = .ok (.aload_n 0, 1) := by decide +kernel
theorem d_M_compared_6 : decode me_M_compared.2.1 6 = .ok (.invokevirtual 172, 3) := by decide +kernel
theorem d_M_compared_9 : decode me_M_compared.2.1 9 = .ok (.istore_n 2, 1) := by decide +kernel
theorem d_M_compared_10 : decode me_M_compared.2.1 10 = .ok (.aload_n 0, 1) := by decide +kernel
theorem d_M_compared_11 : decode me_M_compared.2.1 11 = .ok (.getfield 169, 3) := by decide +kernel
theorem d_M_compared_14 : decode me_M_compared.2.1 14 = .ok (.ifCond .ge 21, 3) := by decide +kernel
theorem d_M_compared_17 : decode me_M_compared.2.1 17 = .ok (.iload_n 2, 1) := by decide +kernel
theorem d_M_compared_18 : decode me_M_compared.2.1 18 = .ok (.bipush 60, 2) := by decide +kernel
theorem d_M_compared_20 : decode me_M_compared.2.1 20 = .ok (.if_icmp .eq 17, 3) := by decide +kernel
theorem d_M_compared_23 : decode me_M_compared.2.1 23 = .ok (.iload_n 2, 1) := by decide +kernel
theorem d_M_compared_24 : decode me_M_compared.2.1 24 = .ok (.bipush 61, 2) := by decide +kernel
theorem d_M_compared_26 : decode me_M_compared.2.1 26 = .ok (.if_icmp .eq 11, 3) := by decide +kernel
theorem d_M_compared_29 : decode me_M_compared.2.1 29 = .ok (.iload_n 2, 1) := by decide +kernel
theorem d_M_compared_30 : decode me_M_compared.2.1 30 = .ok (.bipush 62, 2) := by decide +kernel
theorem d_M_compared_32 : decode me_M_compared.2.1 32 = .ok (.if_icmp .eq 5, 3) := by decide +kernel
theorem d_M_compared_35 : decode me_M_compared.2.1 35 = .ok (.iload_n 1, 1) := by decide +kernel
theorem d_M_compared_36 : decode me_M_compared.2.1 36 = .ok (.ireturn, 1) := by decide +kernel
theorem d_M_compared_37 : decode me_M_compared.2.1 37 = .ok (.aload_n 0, 1) := by decide +kernel
theorem d_M_compared_38 : decode me_M_compared.2.1 38 = .ok (.dup, 1) := by decide +kernel
theorem d_M_compared_39 : decode me_M_compared.2.1 39 = .ok (.getfield 160, 3) := by decide +kernel
theorem d_M_compared_42 : decode me_M_compared.2.1 42 = .ok (.iconst 1, 1) := by decide +kernel
theorem d_M_compared_43 : decode me_M_compared.2.1 43 = .ok (.iadd, 1) := by decide +kernel
theorem d_M_compared_44 : decode me_M_compared.2.1 44 = .ok (.putfield 160, 3) := by decide +kernel
theorem d_M_compared_47 : decode me_M_compared.2.1 47 = .ok (.aload_n 0, 1) := by decide +kernel
theorem d_M_compared_48 : decode me_M_compared.2.1 48 = .ok (.invokevirtual 185, 3) := by decide +kernel
theorem d_M_compared_51 : decode me_M_compared.2.1 51 = .ok (.istore_n 3, 1) := by decide +kernel
theorem d_M_compared_52 : decode me_M_compared.2.1 52 = .ok (.iload_n 2, 1) := by decide +kernel
theorem d_M_compared_53 : decode me_M_compared.2.1 53 = .ok (.bipush 60, 2) := by decide +kernel
theorem d_M_compared_55 : decode me_M_compared.2.1 55 = .ok (.if_icmp .ne 11, 3) := by decide +kernel
theorem d_M_compared_58 : decode me_M_compared.2.1 58 = .ok (.iload_n 1, 1) := by decide +kernel
theorem d_M_compared_59 : decode me_M_compared.2.1 59 = .ok (.iload_n 3, 1) := by decide +kernel
theorem d_M_compared_60 : decode me_M_compared.2.1 60 = .ok (.if_icmp .ge 29, 3) := by decide +kernel
theorem d_M_compared_63 : decode me_M_compared.2.1 63 = .ok (.goto 22, 3) := by decide +kernel
theorem d_M_compared_66 : decode me_M_compared.2.1 66 = .ok (.iload_n 2, 1) := by decide +kernel
theorem d_M_compared_67 : decode me_M_compared.2.1 67 = .ok (.bipush 61, 2) := by decide +kernel
theorem d_M_compared_69 : decode me_M_compared.2.1 69 = .ok (.if_icmp .ne 11, 3) := by decide +kernel
theorem d_M_compared_72 : decode me_M_compared.2.1 72 = .ok (.iload_n 1, 1) := by decide +kernel
theorem d_M_compared_73 : decode me_M_compared.2.1 73 = .ok (.iload_n 3, 1) := by decide +kernel
theorem d_M_compared_74 : decode me_M_compared.2.1 74 = .ok (.if_icmp .ne 15, 3) := by decide +kernel
theorem d_M_compared_77 : decode me_M_compared.2.1 77 = .ok (.goto 8, 3) := by decide +kernel
theorem d_M_compared_80 : decode me_M_compared.2.1 80 = .ok (.iload_n 1, 1) := by decide +kernel
theorem d_M_compared_81 : decode me_M_compared.2.1 81 = .ok (.iload_n 3, 1) := by decide +kernel
theorem d_M_compared_82 : decode me_M_compared.2.1 82 = .ok (.if_icmp .le 7, 3) := by decide +kernel
theorem d_M_compared_85 : decode me_M_compared.2.1 85 = .ok (.iconst 1, 1) := by decide +kernel
theorem d_M_compared_86 : decode me_M_compared.2.1 86 = .ok (.goto 4, 3) := by decide +kernel
theorem d_M_compared_89 : decode me_M_compared.2.1 89 = .ok (.iconst 0, 1) := by decide +kernel
theorem d_M_compared_90 : decode me_M_compared.2.1 90 = .ok (.ireturn, 1) := by decide +kernel
noncomputable def f_M_compared_37 (q_M_one : gk_M → Option (Int32 × gk_M)) (q_M_product : gk_M → Option (Int32 × gk_M)) (q_M_sums : gk_M → Option (Int32 × gk_M)) (q_M_compared : gk_M → Option (Int32 × gk_M)) (q_M_both : gk_M → Option (Int32 × gk_M)) (q_M_either : gk_M → Option (Int32 × gk_M)) (a1 : Int32) (a2 : Int32) (m0 : gk_M) : Option (Int32 × gk_M) :=
  gk_let (gk_mi m0 0 20 ((m0.1 0 20) + 1)) fun m1 =>
  gk_bi (q_M_sums  m1) fun v3 m2 =>
  if ¬ a2 = 60 then
    if ¬ a2 = 61 then
      if a1 ≤ v3 then
        some (0, m2)
      else
        some (1, m2)
    else
      if ¬ a1 = v3 then
        some (0, m2)
      else
        some (1, m2)
  else
    if v3 ≤ a1 then
      some (0, m2)
    else
      some (1, m2)

theorem s_M_compared_37 {z : gk_Z} {dd : Nat} (K : gk_F tm z me_M_compared (3 + (dd + 1))) {r : Int32} {mem2 : gk_M} (q_M_one : gk_M → Option (Int32 × gk_M)) (q_M_product : gk_M → Option (Int32 × gk_M)) (q_M_sums : gk_M → Option (Int32 × gk_M)) (q_M_compared : gk_M → Option (Int32 × gk_M)) (q_M_both : gk_M → Option (Int32 × gk_M)) (q_M_either : gk_M → Option (Int32 × gk_M)) (hq_M_one : ∀  mem r mem2, q_M_one  mem = some (r, mem2) → gk_C tm (gk_zl z) (gk_zu z) me_M_one (3 + dd) [.ref 0] mem (some (.int r)) mem2) (hq_M_product : ∀  mem r mem2, q_M_product  mem = some (r, mem2) → gk_C tm (gk_zl z) (gk_zu z) me_M_product (3 + dd) [.ref 0] mem (some (.int r)) mem2) (hq_M_sums : ∀  mem r mem2, q_M_sums  mem = some (r, mem2) → gk_C tm (gk_zl z) (gk_zu z) me_M_sums (3 + dd) [.ref 0] mem (some (.int r)) mem2) (hq_M_compared : ∀  mem r mem2, q_M_compared  mem = some (r, mem2) → gk_C tm (gk_zl z) (gk_zu z) me_M_compared (3 + dd) [.ref 0] mem (some (.int r)) mem2) (hq_M_both : ∀  mem r mem2, q_M_both  mem = some (r, mem2) → gk_C tm (gk_zl z) (gk_zu z) me_M_both (3 + dd) [.ref 0] mem (some (.int r)) mem2) (hq_M_either : ∀  mem r mem2, q_M_either  mem = some (r, mem2) → gk_C tm (gk_zl z) (gk_zu z) me_M_either (3 + dd) [.ref 0] mem (some (.int r)) mem2) : ∀ a1 a2 m0, f_M_compared_37 q_M_one q_M_product q_M_sums q_M_compared q_M_both q_M_either a1 a2 m0 = some (r, mem2) → gk_G tm z me_M_compared (gk_R tm z (some (.int r)) mem2) m0 [(0, .ref 0), (1, .int a1), (2, .int a2)] [] 37 := by
  intro a1 a2 m0  h
  unfold f_M_compared_37 at h
  refine gk_aload_n (pc := 37) K d_M_compared_37 rfl ?_
  refine gk_dup (pc := 38) K d_M_compared_38 rfl ?_
  refine gk_get (pc := 39) K d_M_compared_39 fl_M_160 tm_0 rfl rfl ?_
  refine gk_iconst (pc := 42) K d_M_compared_42 kc_1 ?_
  refine gk_iadd (pc := 43) K d_M_compared_43 ?_
  refine gk_puti (pc := 44) K d_M_compared_44 fp_M_160 tm_0 rfl h (fun m1 h => ?_)
  refine gk_aload_n (pc := 47) K d_M_compared_47 rfl ?_
  obtain ⟨v3, m2, em2, h⟩ := gk_bi_some h
  refine gk_cVi (As := []) (pc := 48) K d_M_compared_48 mv_M_185 mc_M_sums rfl tm_0 cl_ok10.1 (hq_M_sums  _ _ _ em2) (by omega) rfl (Nat.le_of_ble_eq_true rfl) ?_
  refine gk_istore_n (lv2 := [(3, .int v3), (0, .ref 0), (1, .int a1), (2, .int a2)]) (pc := 51) K d_M_compared_51 (by decide) rfl ?_
  refine gk_iload_n (pc := 52) K d_M_compared_52 rfl ?_
  refine gk_bipush (pc := 53) K d_M_compared_53 kb_60 ?_
  refine gk_ic_ne (tgt := 66) (pc := 55) K d_M_compared_55 (by decide) h (fun h => ?_) (fun h => ?_)
  · refine gk_iload_n (pc := 66) K d_M_compared_66 rfl ?_
    refine gk_bipush (pc := 67) K d_M_compared_67 kb_61 ?_
    refine gk_ic_ne (tgt := 80) (pc := 69) K d_M_compared_69 (by decide) h (fun h => ?_) (fun h => ?_)
    · refine gk_iload_n (pc := 80) K d_M_compared_80 rfl ?_
      refine gk_iload_n (pc := 81) K d_M_compared_81 rfl ?_
      refine gk_ic_le (tgt := 89) (pc := 82) K d_M_compared_82 (by decide) h (fun h => ?_) (fun h => ?_)
      · refine gk_iconst (pc := 89) K d_M_compared_89 kc_0 ?_
        exact gk_iret (pc := 90) K d_M_compared_90 rfl h
      · refine gk_iconst (pc := 85) K d_M_compared_85 kc_1 ?_
        refine gk_goto (tgt := 90) (pc := 86) K d_M_compared_86 (by decide) ?_
        exact gk_iret (pc := 90) K d_M_compared_90 rfl h
    · refine gk_iload_n (pc := 72) K d_M_compared_72 rfl ?_
      refine gk_iload_n (pc := 73) K d_M_compared_73 rfl ?_
      refine gk_ic_ne (tgt := 89) (pc := 74) K d_M_compared_74 (by decide) h (fun h => ?_) (fun h => ?_)
      · refine gk_iconst (pc := 89) K d_M_compared_89 kc_0 ?_
        exact gk_iret (pc := 90) K d_M_compared_90 rfl h
      · refine gk_goto (tgt := 85) (pc := 77) K d_M_compared_77 (by decide) ?_
        refine gk_iconst (pc := 85) K d_M_compared_85 kc_1 ?_
        refine gk_goto (tgt := 90) (pc := 86) K d_M_compared_86 (by decide) ?_
        exact gk_iret (pc := 90) K d_M_compared_90 rfl h
  · refine gk_iload_n (pc := 58) K d_M_compared_58 rfl ?_
    refine gk_iload_n (pc := 59) K d_M_compared_59 rfl ?_
    refine gk_ic_ge (tgt := 89) (pc := 60) K d_M_compared_60 (by decide) h (fun h => ?_) (fun h => ?_)
    · refine gk_iconst (pc := 89) K d_M_compared_89 kc_0 ?_
      exact gk_iret (pc := 90) K d_M_compared_90 rfl h
    · refine gk_goto (tgt := 85) (pc := 63) K d_M_compared_63 (by decide) ?_
      refine gk_iconst (pc := 85) K d_M_compared_85 kc_1 ?_
      refine gk_goto (tgt := 90) (pc := 86) K d_M_compared_86 (by decide) ?_
      exact gk_iret (pc := 90) K d_M_compared_90 rfl h
noncomputable def f_M_compared_0 (q_M_one : gk_M → Option (Int32 × gk_M)) (q_M_product : gk_M → Option (Int32 × gk_M)) (q_M_sums : gk_M → Option (Int32 × gk_M)) (q_M_compared : gk_M → Option (Int32 × gk_M)) (q_M_both : gk_M → Option (Int32 × gk_M)) (q_M_either : gk_M → Option (Int32 × gk_M))  (m0 : gk_M) : Option (Int32 × gk_M) :=
  gk_bi (q_M_sums  m0) fun v2 m1 =>
  gk_bi (f_M_byteAt  m1) fun v4 m3 =>
  if 0 ≤ (m3.1 0 22) then
    some (v2, m3)
  else
    if v4 = 60 then
      f_M_compared_37 q_M_one q_M_product q_M_sums q_M_compared q_M_both q_M_either v2 v4 m3
    else
      if v4 = 61 then
        f_M_compared_37 q_M_one q_M_product q_M_sums q_M_compared q_M_both q_M_either v2 v4 m3
      else
        if v4 = 62 then
          f_M_compared_37 q_M_one q_M_product q_M_sums q_M_compared q_M_both q_M_either v2 v4 m3
        else
          some (v2, m3)

theorem s_M_compared_0 {z : gk_Z} {dd : Nat} (K : gk_F tm z me_M_compared (3 + (dd + 1))) {r : Int32} {mem2 : gk_M} (q_M_one : gk_M → Option (Int32 × gk_M)) (q_M_product : gk_M → Option (Int32 × gk_M)) (q_M_sums : gk_M → Option (Int32 × gk_M)) (q_M_compared : gk_M → Option (Int32 × gk_M)) (q_M_both : gk_M → Option (Int32 × gk_M)) (q_M_either : gk_M → Option (Int32 × gk_M)) (hq_M_one : ∀  mem r mem2, q_M_one  mem = some (r, mem2) → gk_C tm (gk_zl z) (gk_zu z) me_M_one (3 + dd) [.ref 0] mem (some (.int r)) mem2) (hq_M_product : ∀  mem r mem2, q_M_product  mem = some (r, mem2) → gk_C tm (gk_zl z) (gk_zu z) me_M_product (3 + dd) [.ref 0] mem (some (.int r)) mem2) (hq_M_sums : ∀  mem r mem2, q_M_sums  mem = some (r, mem2) → gk_C tm (gk_zl z) (gk_zu z) me_M_sums (3 + dd) [.ref 0] mem (some (.int r)) mem2) (hq_M_compared : ∀  mem r mem2, q_M_compared  mem = some (r, mem2) → gk_C tm (gk_zl z) (gk_zu z) me_M_compared (3 + dd) [.ref 0] mem (some (.int r)) mem2) (hq_M_both : ∀  mem r mem2, q_M_both  mem = some (r, mem2) → gk_C tm (gk_zl z) (gk_zu z) me_M_both (3 + dd) [.ref 0] mem (some (.int r)) mem2) (hq_M_either : ∀  mem r mem2, q_M_either  mem = some (r, mem2) → gk_C tm (gk_zl z) (gk_zu z) me_M_either (3 + dd) [.ref 0] mem (some (.int r)) mem2) : ∀  m0, f_M_compared_0 q_M_one q_M_product q_M_sums q_M_compared q_M_both q_M_either  m0 = some (r, mem2) → gk_G tm z me_M_compared (gk_R tm z (some (.int r)) mem2) m0 [(0, .ref 0)] [] 0 := by
  intro  m0  h
  unfold f_M_compared_0 at h
  refine gk_aload_n (pc := 0) K d_M_compared_0 rfl ?_
  obtain ⟨v2, m1, em1, h⟩ := gk_bi_some h
  refine gk_cVi (As := []) (pc := 1) K d_M_compared_1 mv_M_185 mc_M_sums rfl tm_0 cl_ok10.1 (hq_M_sums  _ _ _ em1) (by omega) rfl (Nat.le_of_ble_eq_true rfl) ?_
  refine gk_istore_n (lv2 := [(1, .int v2), (0, .ref 0)]) (pc := 4) K d_M_compared_4 (by decide) rfl ?_
  refine gk_aload_n (pc := 5) K d_M_compared_5 rfl ?_
  obtain ⟨v4, m3, em3, h⟩ := gk_bi_some h
  refine gk_cVi (As := []) (pc := 6) K d_M_compared_6 mv_M_172 mc_M_byteAt rfl tm_0 cl_ok10.1 (s_M_byteAt (gk_FD K)  em3) (by omega) rfl (Nat.le_of_ble_eq_true rfl) ?_
  refine gk_istore_n (lv2 := [(2, .int v4), (1, .int v2), (0, .ref 0)]) (pc := 9) K d_M_compared_9 (by decide) rfl ?_
  refine gk_aload_n (pc := 10) K d_M_compared_10 rfl ?_
  refine gk_get (pc := 11) K d_M_compared_11 fl_M_169 tm_0 rfl rfl ?_
  refine gk_if_ge (tgt := 35) (pc := 14) K d_M_compared_14 (by decide) h (fun h => ?_) (fun h => ?_)
  · refine gk_iload_n (pc := 35) K d_M_compared_35 rfl ?_
    exact gk_iret (pc := 36) K d_M_compared_36 rfl h
  · refine gk_iload_n (pc := 17) K d_M_compared_17 rfl ?_
    refine gk_bipush (pc := 18) K d_M_compared_18 kb_60 ?_
    refine gk_ic_eq (tgt := 37) (pc := 20) K d_M_compared_20 (by decide) h (fun h => ?_) (fun h => ?_)
    · exact gk_sub [2, 1, 0] rfl (s_M_compared_37 K q_M_one q_M_product q_M_sums q_M_compared q_M_both q_M_either hq_M_one hq_M_product hq_M_sums hq_M_compared hq_M_both hq_M_either _ _ _  h)
    · refine gk_iload_n (pc := 23) K d_M_compared_23 rfl ?_
      refine gk_bipush (pc := 24) K d_M_compared_24 kb_61 ?_
      refine gk_ic_eq (tgt := 37) (pc := 26) K d_M_compared_26 (by decide) h (fun h => ?_) (fun h => ?_)
      · exact gk_sub [2, 1, 0] rfl (s_M_compared_37 K q_M_one q_M_product q_M_sums q_M_compared q_M_both q_M_either hq_M_one hq_M_product hq_M_sums hq_M_compared hq_M_both hq_M_either _ _ _  h)
      · refine gk_iload_n (pc := 29) K d_M_compared_29 rfl ?_
        refine gk_bipush (pc := 30) K d_M_compared_30 kb_62 ?_
        refine gk_ic_eq (tgt := 37) (pc := 32) K d_M_compared_32 (by decide) h (fun h => ?_) (fun h => ?_)
        · exact gk_sub [2, 1, 0] rfl (s_M_compared_37 K q_M_one q_M_product q_M_sums q_M_compared q_M_both q_M_either hq_M_one hq_M_product hq_M_sums hq_M_compared hq_M_both hq_M_either _ _ _  h)
        · refine gk_iload_n (pc := 35) K d_M_compared_35 rfl ?_
          exact gk_iret (pc := 36) K d_M_compared_36 rfl h
theorem d_M_both_0 : decode me_M_both.2.1 0 = .ok (.aload_n 0, 1) := by decide +kernel
theorem d_M_both_1 : decode me_M_both.2.1 1 = .ok (.invokevirtual 182, 3) := by decide +kernel
theorem d_M_both_4 : decode me_M_both.2.1 4 = .ok (.istore_n 1, 1) := by decide +kernel
theorem d_M_both_5 : decode me_M_both.2.1 5 = .ok (.aload_n 0, 1) := by decide +kernel
theorem d_M_both_6 : decode me_M_both.2.1 6 = .ok (.bipush 38, 2) := by decide +kernel
theorem d_M_both_8 : decode me_M_both.2.1 8 = .ok (.invokevirtual 179, 3) := by decide +kernel
theorem d_M_both_11 : decode me_M_both.2.1 11 = .ok (.ifCond .eq 25, 3) := by decide +kernel
theorem d_M_both_14 : decode me_M_both.2.1 14 = .ok (.aload_n 0, 1) := by decide +kernel
theorem d_M_both_15 : decode me_M_both.2.1 15 = .ok (.invokevirtual 182, 3) := by decide +kernel
theorem d_M_both_18 : decode me_M_both.2.1 18 = .ok (.istore_n 2, 1) := by decide +kernel
theorem d_M_both_19 : decode me_M_both.2.1 19 = .ok (.iload_n 1, 1) := by decide +kernel
theorem d_M_both_20 : decode me_M_both.2.1 20 = .ok (.ifCond .eq 11, 3) := by decide +kernel
theorem d_M_both_23 : decode me_M_both.2.1 23 = .ok (.iload_n 2, 1) := by decide +kernel
theorem d_M_both_24 : decode me_M_both.2.1 24 = .ok (.ifCond .eq 7, 3) := by decide +kernel
theorem d_M_both_27 : decode me_M_both.2.1 27 = .ok (.iconst 1, 1) := by decide +kernel
theorem d_M_both_28 : decode me_M_both.2.1 28 = .ok (.goto 4, 3) := by decide +kernel
theorem d_M_both_31 : decode me_M_both.2.1 31 = .ok (.iconst 0, 1) := by decide +kernel
theorem d_M_both_32 : decode me_M_both.2.1 32 = .ok (.istore_n 1, 1) := by decide +kernel
theorem d_M_both_33 : decode me_M_both.2.1 33 = .ok (.goto (-28), 3) := by decide +kernel
theorem d_M_both_36 : decode me_M_both.2.1 36 = .ok (.iload_n 1, 1) := by decide +kernel
theorem d_M_both_37 : decode me_M_both.2.1 37 = .ok (.ireturn, 1) := by decide +kernel
noncomputable def f_M_both_32 (q_M_one : gk_M → Option (Int32 × gk_M)) (q_M_product : gk_M → Option (Int32 × gk_M)) (q_M_sums : gk_M → Option (Int32 × gk_M)) (q_M_compared : gk_M → Option (Int32 × gk_M)) (q_M_both : gk_M → Option (Int32 × gk_M)) (q_M_either : gk_M → Option (Int32 × gk_M)) (k5 : Int32 → gk_M → Option (Int32 × gk_M)) (s0 : Int32) (m0 : gk_M) : Option (Int32 × gk_M) :=
  k5 s0 m0

theorem s_M_both_32 {z : gk_Z} {dd : Nat} (K : gk_F tm z me_M_both (3 + (dd + 1))) {r : Int32} {mem2 : gk_M} (q_M_one : gk_M → Option (Int32 × gk_M)) (q_M_product : gk_M → Option (Int32 × gk_M)) (q_M_sums : gk_M → Option (Int32 × gk_M)) (q_M_compared : gk_M → Option (Int32 × gk_M)) (q_M_both : gk_M → Option (Int32 × gk_M)) (q_M_either : gk_M → Option (Int32 × gk_M)) (hq_M_one : ∀  mem r mem2, q_M_one  mem = some (r, mem2) → gk_C tm (gk_zl z) (gk_zu z) me_M_one (3 + dd) [.ref 0] mem (some (.int r)) mem2) (hq_M_product : ∀  mem r mem2, q_M_product  mem = some (r, mem2) → gk_C tm (gk_zl z) (gk_zu z) me_M_product (3 + dd) [.ref 0] mem (some (.int r)) mem2) (hq_M_sums : ∀  mem r mem2, q_M_sums  mem = some (r, mem2) → gk_C tm (gk_zl z) (gk_zu z) me_M_sums (3 + dd) [.ref 0] mem (some (.int r)) mem2) (hq_M_compared : ∀  mem r mem2, q_M_compared  mem = some (r, mem2) → gk_C tm (gk_zl z) (gk_zu z) me_M_compared (3 + dd) [.ref 0] mem (some (.int r)) mem2) (hq_M_both : ∀  mem r mem2, q_M_both  mem = some (r, mem2) → gk_C tm (gk_zl z) (gk_zu z) me_M_both (3 + dd) [.ref 0] mem (some (.int r)) mem2) (hq_M_either : ∀  mem r mem2, q_M_either  mem = some (r, mem2) → gk_C tm (gk_zl z) (gk_zu z) me_M_either (3 + dd) [.ref 0] mem (some (.int r)) mem2) {k5 : Int32 → gk_M → Option (Int32 × gk_M)} (hk5 : ∀ a1 m0, k5 a1 m0 = some (r, mem2) → gk_G tm z me_M_both (gk_R tm z (some (.int r)) mem2) m0 [(0, .ref 0), (1, .int a1)] [] 5) : ∀ s0 m0, f_M_both_32 q_M_one q_M_product q_M_sums q_M_compared q_M_both q_M_either k5 s0 m0 = some (r, mem2) → gk_G tm z me_M_both (gk_R tm z (some (.int r)) mem2) m0 [(0, .ref 0)] [.int s0] 32 := by
  intro s0 m0  h
  unfold f_M_both_32 at h
  refine gk_istore_n (lv2 := [(1, .int s0), (0, .ref 0)]) (pc := 32) K d_M_both_32 (by decide) rfl ?_
  refine gk_goto (tgt := 5) (pc := 33) K d_M_both_33 (by decide) ?_
  exact gk_sub [1, 0] rfl (hk5 _ _  h)
noncomputable def f_M_both_31 (q_M_one : gk_M → Option (Int32 × gk_M)) (q_M_product : gk_M → Option (Int32 × gk_M)) (q_M_sums : gk_M → Option (Int32 × gk_M)) (q_M_compared : gk_M → Option (Int32 × gk_M)) (q_M_both : gk_M → Option (Int32 × gk_M)) (q_M_either : gk_M → Option (Int32 × gk_M)) (k5 : Int32 → gk_M → Option (Int32 × gk_M))  (m0 : gk_M) : Option (Int32 × gk_M) :=
  f_M_both_32 q_M_one q_M_product q_M_sums q_M_compared q_M_both q_M_either k5 0 m0

theorem s_M_both_31 {z : gk_Z} {dd : Nat} (K : gk_F tm z me_M_both (3 + (dd + 1))) {r : Int32} {mem2 : gk_M} (q_M_one : gk_M → Option (Int32 × gk_M)) (q_M_product : gk_M → Option (Int32 × gk_M)) (q_M_sums : gk_M → Option (Int32 × gk_M)) (q_M_compared : gk_M → Option (Int32 × gk_M)) (q_M_both : gk_M → Option (Int32 × gk_M)) (q_M_either : gk_M → Option (Int32 × gk_M)) (hq_M_one : ∀  mem r mem2, q_M_one  mem = some (r, mem2) → gk_C tm (gk_zl z) (gk_zu z) me_M_one (3 + dd) [.ref 0] mem (some (.int r)) mem2) (hq_M_product : ∀  mem r mem2, q_M_product  mem = some (r, mem2) → gk_C tm (gk_zl z) (gk_zu z) me_M_product (3 + dd) [.ref 0] mem (some (.int r)) mem2) (hq_M_sums : ∀  mem r mem2, q_M_sums  mem = some (r, mem2) → gk_C tm (gk_zl z) (gk_zu z) me_M_sums (3 + dd) [.ref 0] mem (some (.int r)) mem2) (hq_M_compared : ∀  mem r mem2, q_M_compared  mem = some (r, mem2) → gk_C tm (gk_zl z) (gk_zu z) me_M_compared (3 + dd) [.ref 0] mem (some (.int r)) mem2) (hq_M_both : ∀  mem r mem2, q_M_both  mem = some (r, mem2) → gk_C tm (gk_zl z) (gk_zu z) me_M_both (3 + dd) [.ref 0] mem (some (.int r)) mem2) (hq_M_either : ∀  mem r mem2, q_M_either  mem = some (r, mem2) → gk_C tm (gk_zl z) (gk_zu z) me_M_either (3 + dd) [.ref 0] mem (some (.int r)) mem2) {k5 : Int32 → gk_M → Option (Int32 × gk_M)} (hk5 : ∀ a1 m0, k5 a1 m0 = some (r, mem2) → gk_G tm z me_M_both (gk_R tm z (some (.int r)) mem2) m0 [(0, .ref 0), (1, .int a1)] [] 5) : ∀  m0, f_M_both_31 q_M_one q_M_product q_M_sums q_M_compared q_M_both q_M_either k5  m0 = some (r, mem2) → gk_G tm z me_M_both (gk_R tm z (some (.int r)) mem2) m0 [(0, .ref 0)] [] 31 := by
  intro  m0  h
  unfold f_M_both_31 at h
  refine gk_iconst (pc := 31) K d_M_both_31 kc_0 ?_
  exact gk_sub [0] rfl (s_M_both_32 K q_M_one q_M_product q_M_sums q_M_compared q_M_both q_M_either hq_M_one hq_M_product hq_M_sums hq_M_compared hq_M_both hq_M_either hk5 _ _  h)
noncomputable def f_M_both_5 (q_M_one : gk_M → Option (Int32 × gk_M)) (q_M_product : gk_M → Option (Int32 × gk_M)) (q_M_sums : gk_M → Option (Int32 × gk_M)) (q_M_compared : gk_M → Option (Int32 × gk_M)) (q_M_both : gk_M → Option (Int32 × gk_M)) (q_M_either : gk_M → Option (Int32 × gk_M)) : Nat → Int32 → gk_M → Option (Int32 × gk_M)
  | 0, _, _ => none
  | n + 1, a1, m0 =>
    gk_bi (f_M_takes 38 m0) fun v2 m1 =>
    if v2 = 0 then
      some (a1, m1)
    else
      gk_bi (q_M_compared  m1) fun v4 m3 =>
      if a1 = 0 then
        f_M_both_31 q_M_one q_M_product q_M_sums q_M_compared q_M_both q_M_either (f_M_both_5 q_M_one q_M_product q_M_sums q_M_compared q_M_both q_M_either n)  m3
      else
        if v4 = 0 then
          f_M_both_31 q_M_one q_M_product q_M_sums q_M_compared q_M_both q_M_either (f_M_both_5 q_M_one q_M_product q_M_sums q_M_compared q_M_both q_M_either n)  m3
        else
          f_M_both_32 q_M_one q_M_product q_M_sums q_M_compared q_M_both q_M_either (f_M_both_5 q_M_one q_M_product q_M_sums q_M_compared q_M_both q_M_either n) 1 m3

theorem s_M_both_5 {z : gk_Z} {dd : Nat} (K : gk_F tm z me_M_both (3 + (dd + 1))) {r : Int32} {mem2 : gk_M} (q_M_one : gk_M → Option (Int32 × gk_M)) (q_M_product : gk_M → Option (Int32 × gk_M)) (q_M_sums : gk_M → Option (Int32 × gk_M)) (q_M_compared : gk_M → Option (Int32 × gk_M)) (q_M_both : gk_M → Option (Int32 × gk_M)) (q_M_either : gk_M → Option (Int32 × gk_M)) (hq_M_one : ∀  mem r mem2, q_M_one  mem = some (r, mem2) → gk_C tm (gk_zl z) (gk_zu z) me_M_one (3 + dd) [.ref 0] mem (some (.int r)) mem2) (hq_M_product : ∀  mem r mem2, q_M_product  mem = some (r, mem2) → gk_C tm (gk_zl z) (gk_zu z) me_M_product (3 + dd) [.ref 0] mem (some (.int r)) mem2) (hq_M_sums : ∀  mem r mem2, q_M_sums  mem = some (r, mem2) → gk_C tm (gk_zl z) (gk_zu z) me_M_sums (3 + dd) [.ref 0] mem (some (.int r)) mem2) (hq_M_compared : ∀  mem r mem2, q_M_compared  mem = some (r, mem2) → gk_C tm (gk_zl z) (gk_zu z) me_M_compared (3 + dd) [.ref 0] mem (some (.int r)) mem2) (hq_M_both : ∀  mem r mem2, q_M_both  mem = some (r, mem2) → gk_C tm (gk_zl z) (gk_zu z) me_M_both (3 + dd) [.ref 0] mem (some (.int r)) mem2) (hq_M_either : ∀  mem r mem2, q_M_either  mem = some (r, mem2) → gk_C tm (gk_zl z) (gk_zu z) me_M_either (3 + dd) [.ref 0] mem (some (.int r)) mem2) : ∀ n a1 m0, f_M_both_5 q_M_one q_M_product q_M_sums q_M_compared q_M_both q_M_either n a1 m0 = some (r, mem2) → gk_G tm z me_M_both (gk_R tm z (some (.int r)) mem2) m0 [(0, .ref 0), (1, .int a1)] [] 5 := by
  intro n
  induction n with
  | zero => intro a1 m0  h; exact nomatch (show (none : Option _) = some _ from h)
  | succ n ih =>
    intro a1 m0  h
    unfold f_M_both_5 at h
    refine gk_aload_n (pc := 5) K d_M_both_5 rfl ?_
    refine gk_bipush (pc := 6) K d_M_both_6 kb_38 ?_
    obtain ⟨v2, m1, em1, h⟩ := gk_bi_some h
    refine gk_cVi (As := [.int 38]) (pc := 8) K d_M_both_8 mv_M_179 mc_M_takes rfl tm_0 cl_ok10.1 (s_M_takes (gk_FD K)  em1) (by omega) rfl (Nat.le_of_ble_eq_true rfl) ?_
    refine gk_if_eq (tgt := 36) (pc := 11) K d_M_both_11 (by decide) h (fun h => ?_) (fun h => ?_)
    · refine gk_iload_n (pc := 36) K d_M_both_36 rfl ?_
      exact gk_iret (pc := 37) K d_M_both_37 rfl h
    · refine gk_aload_n (pc := 14) K d_M_both_14 rfl ?_
      obtain ⟨v4, m3, em3, h⟩ := gk_bi_some h
      refine gk_cVi (As := []) (pc := 15) K d_M_both_15 mv_M_182 mc_M_compared rfl tm_0 cl_ok10.1 (hq_M_compared  _ _ _ em3) (by omega) rfl (Nat.le_of_ble_eq_true rfl) ?_
      refine gk_istore_n (lv2 := [(2, .int v4), (0, .ref 0), (1, .int a1)]) (pc := 18) K d_M_both_18 (by decide) rfl ?_
      refine gk_iload_n (pc := 19) K d_M_both_19 rfl ?_
      refine gk_if_eq (tgt := 31) (pc := 20) K d_M_both_20 (by decide) h (fun h => ?_) (fun h => ?_)
      · exact gk_sub [1] rfl (s_M_both_31 K q_M_one q_M_product q_M_sums q_M_compared q_M_both q_M_either hq_M_one hq_M_product hq_M_sums hq_M_compared hq_M_both hq_M_either (fun x0 m  h => ih x0 m  h)  _  h)
      · refine gk_iload_n (pc := 23) K d_M_both_23 rfl ?_
        refine gk_if_eq (tgt := 31) (pc := 24) K d_M_both_24 (by decide) h (fun h => ?_) (fun h => ?_)
        · exact gk_sub [1] rfl (s_M_both_31 K q_M_one q_M_product q_M_sums q_M_compared q_M_both q_M_either hq_M_one hq_M_product hq_M_sums hq_M_compared hq_M_both hq_M_either (fun x0 m  h => ih x0 m  h)  _  h)
        · refine gk_iconst (pc := 27) K d_M_both_27 kc_1 ?_
          refine gk_goto (tgt := 32) (pc := 28) K d_M_both_28 (by decide) ?_
          exact gk_sub [1] rfl (s_M_both_32 K q_M_one q_M_product q_M_sums q_M_compared q_M_both q_M_either hq_M_one hq_M_product hq_M_sums hq_M_compared hq_M_both hq_M_either (fun x0 m  h => ih x0 m  h) _ _  h)
noncomputable def f_M_both_0 (q_M_one : gk_M → Option (Int32 × gk_M)) (q_M_product : gk_M → Option (Int32 × gk_M)) (q_M_sums : gk_M → Option (Int32 × gk_M)) (q_M_compared : gk_M → Option (Int32 × gk_M)) (q_M_both : gk_M → Option (Int32 × gk_M)) (q_M_either : gk_M → Option (Int32 × gk_M))  (m0 : gk_M) : Option (Int32 × gk_M) :=
  gk_bi (q_M_compared  m0) fun v2 m1 =>
  f_M_both_5 q_M_one q_M_product q_M_sums q_M_compared q_M_both q_M_either gk_fv v2 m1

theorem s_M_both_0 {z : gk_Z} {dd : Nat} (K : gk_F tm z me_M_both (3 + (dd + 1))) {r : Int32} {mem2 : gk_M} (q_M_one : gk_M → Option (Int32 × gk_M)) (q_M_product : gk_M → Option (Int32 × gk_M)) (q_M_sums : gk_M → Option (Int32 × gk_M)) (q_M_compared : gk_M → Option (Int32 × gk_M)) (q_M_both : gk_M → Option (Int32 × gk_M)) (q_M_either : gk_M → Option (Int32 × gk_M)) (hq_M_one : ∀  mem r mem2, q_M_one  mem = some (r, mem2) → gk_C tm (gk_zl z) (gk_zu z) me_M_one (3 + dd) [.ref 0] mem (some (.int r)) mem2) (hq_M_product : ∀  mem r mem2, q_M_product  mem = some (r, mem2) → gk_C tm (gk_zl z) (gk_zu z) me_M_product (3 + dd) [.ref 0] mem (some (.int r)) mem2) (hq_M_sums : ∀  mem r mem2, q_M_sums  mem = some (r, mem2) → gk_C tm (gk_zl z) (gk_zu z) me_M_sums (3 + dd) [.ref 0] mem (some (.int r)) mem2) (hq_M_compared : ∀  mem r mem2, q_M_compared  mem = some (r, mem2) → gk_C tm (gk_zl z) (gk_zu z) me_M_compared (3 + dd) [.ref 0] mem (some (.int r)) mem2) (hq_M_both : ∀  mem r mem2, q_M_both  mem = some (r, mem2) → gk_C tm (gk_zl z) (gk_zu z) me_M_both (3 + dd) [.ref 0] mem (some (.int r)) mem2) (hq_M_either : ∀  mem r mem2, q_M_either  mem = some (r, mem2) → gk_C tm (gk_zl z) (gk_zu z) me_M_either (3 + dd) [.ref 0] mem (some (.int r)) mem2) : ∀  m0, f_M_both_0 q_M_one q_M_product q_M_sums q_M_compared q_M_both q_M_either  m0 = some (r, mem2) → gk_G tm z me_M_both (gk_R tm z (some (.int r)) mem2) m0 [(0, .ref 0)] [] 0 := by
  intro  m0  h
  unfold f_M_both_0 at h
  refine gk_aload_n (pc := 0) K d_M_both_0 rfl ?_
  obtain ⟨v2, m1, em1, h⟩ := gk_bi_some h
  refine gk_cVi (As := []) (pc := 1) K d_M_both_1 mv_M_182 mc_M_compared rfl tm_0 cl_ok10.1 (hq_M_compared  _ _ _ em1) (by omega) rfl (Nat.le_of_ble_eq_true rfl) ?_
  refine gk_istore_n (lv2 := [(1, .int v2), (0, .ref 0)]) (pc := 4) K d_M_both_4 (by decide) rfl ?_
  exact gk_sub [1, 0] rfl (s_M_both_5 K q_M_one q_M_product q_M_sums q_M_compared q_M_both q_M_either hq_M_one hq_M_product hq_M_sums hq_M_compared hq_M_both hq_M_either _ _ _  h)
theorem d_M_either_0 : decode me_M_either.2.1 0 = .ok (.aload_n 0, 1) := by decide +kernel
theorem d_M_either_1 : decode me_M_either.2.1 1 = .ok (.invokevirtual 176, 3) := by decide +kernel
theorem d_M_either_4 : decode me_M_either.2.1 4 = .ok (.istore_n 1, 1) := by decide +kernel
theorem d_M_either_5 : decode me_M_either.2.1 5 = .ok (.aload_n 0, 1) := by decide +kernel
theorem d_M_either_6 : decode me_M_either.2.1 6 = .ok (.bipush 124, 2) := by decide +kernel
theorem d_M_either_8 : decode me_M_either.2.1 8 = .ok (.invokevirtual 179, 3) := by decide +kernel
theorem d_M_either_11 : decode me_M_either.2.1 11 = .ok (.ifCond .eq 25, 3) := by decide +kernel
theorem d_M_either_14 : decode me_M_either.2.1 14 = .ok (.aload_n 0, 1) := by decide +kernel
theorem d_M_either_15 : decode me_M_either.2.1 15 = .ok (.invokevirtual 176, 3) := by decide +kernel
theorem d_M_either_18 : decode me_M_either.2.1 18 = .ok (.istore_n 2, 1) := by decide +kernel
theorem d_M_either_19 : decode me_M_either.2.1 19 = .ok (.iload_n 1, 1) := by decide +kernel
theorem d_M_either_20 : decode me_M_either.2.1 20 = .ok (.ifCond .ne 7, 3) := by decide +kernel
theorem d_M_either_23 : decode me_M_either.2.1 23 = .ok (.iload_n 2, 1) := by decide +kernel
theorem d_M_either_24 : decode me_M_either.2.1 24 = .ok (.ifCond .eq 7, 3) := by decide +kernel
theorem d_M_either_27 : decode me_M_either.2.1 27 = .ok (.iconst 1, 1) := by decide +kernel
theorem d_M_either_28 : decode me_M_either.2.1 28 = .ok (.goto 4, 3) := by decide +kernel
theorem d_M_either_31 : decode me_M_either.2.1 31 = .ok (.iconst 0, 1) := by decide +kernel
theorem d_M_either_32 : decode me_M_either.2.1 32 = .ok (.istore_n 1, 1) := by decide +kernel
theorem d_M_either_33 : decode me_M_either.2.1 33 = .ok (.goto (-28), 3) := by decide +kernel
theorem d_M_either_36 : decode me_M_either.2.1 36 = .ok (.iload_n 1, 1) := by decide +kernel
theorem d_M_either_37 : decode me_M_either.2.1 37 = .ok (.ireturn, 1) := by decide +kernel
noncomputable def f_M_either_32 (q_M_one : gk_M → Option (Int32 × gk_M)) (q_M_product : gk_M → Option (Int32 × gk_M)) (q_M_sums : gk_M → Option (Int32 × gk_M)) (q_M_compared : gk_M → Option (Int32 × gk_M)) (q_M_both : gk_M → Option (Int32 × gk_M)) (q_M_either : gk_M → Option (Int32 × gk_M)) (k5 : Int32 → gk_M → Option (Int32 × gk_M)) (s0 : Int32) (m0 : gk_M) : Option (Int32 × gk_M) :=
  k5 s0 m0

theorem s_M_either_32 {z : gk_Z} {dd : Nat} (K : gk_F tm z me_M_either (3 + (dd + 1))) {r : Int32} {mem2 : gk_M} (q_M_one : gk_M → Option (Int32 × gk_M)) (q_M_product : gk_M → Option (Int32 × gk_M)) (q_M_sums : gk_M → Option (Int32 × gk_M)) (q_M_compared : gk_M → Option (Int32 × gk_M)) (q_M_both : gk_M → Option (Int32 × gk_M)) (q_M_either : gk_M → Option (Int32 × gk_M)) (hq_M_one : ∀  mem r mem2, q_M_one  mem = some (r, mem2) → gk_C tm (gk_zl z) (gk_zu z) me_M_one (3 + dd) [.ref 0] mem (some (.int r)) mem2) (hq_M_product : ∀  mem r mem2, q_M_product  mem = some (r, mem2) → gk_C tm (gk_zl z) (gk_zu z) me_M_product (3 + dd) [.ref 0] mem (some (.int r)) mem2) (hq_M_sums : ∀  mem r mem2, q_M_sums  mem = some (r, mem2) → gk_C tm (gk_zl z) (gk_zu z) me_M_sums (3 + dd) [.ref 0] mem (some (.int r)) mem2) (hq_M_compared : ∀  mem r mem2, q_M_compared  mem = some (r, mem2) → gk_C tm (gk_zl z) (gk_zu z) me_M_compared (3 + dd) [.ref 0] mem (some (.int r)) mem2) (hq_M_both : ∀  mem r mem2, q_M_both  mem = some (r, mem2) → gk_C tm (gk_zl z) (gk_zu z) me_M_both (3 + dd) [.ref 0] mem (some (.int r)) mem2) (hq_M_either : ∀  mem r mem2, q_M_either  mem = some (r, mem2) → gk_C tm (gk_zl z) (gk_zu z) me_M_either (3 + dd) [.ref 0] mem (some (.int r)) mem2) {k5 : Int32 → gk_M → Option (Int32 × gk_M)} (hk5 : ∀ a1 m0, k5 a1 m0 = some (r, mem2) → gk_G tm z me_M_either (gk_R tm z (some (.int r)) mem2) m0 [(0, .ref 0), (1, .int a1)] [] 5) : ∀ s0 m0, f_M_either_32 q_M_one q_M_product q_M_sums q_M_compared q_M_both q_M_either k5 s0 m0 = some (r, mem2) → gk_G tm z me_M_either (gk_R tm z (some (.int r)) mem2) m0 [(0, .ref 0)] [.int s0] 32 := by
  intro s0 m0  h
  unfold f_M_either_32 at h
  refine gk_istore_n (lv2 := [(1, .int s0), (0, .ref 0)]) (pc := 32) K d_M_either_32 (by decide) rfl ?_
  refine gk_goto (tgt := 5) (pc := 33) K d_M_either_33 (by decide) ?_
  exact gk_sub [1, 0] rfl (hk5 _ _  h)
noncomputable def f_M_either_27 (q_M_one : gk_M → Option (Int32 × gk_M)) (q_M_product : gk_M → Option (Int32 × gk_M)) (q_M_sums : gk_M → Option (Int32 × gk_M)) (q_M_compared : gk_M → Option (Int32 × gk_M)) (q_M_both : gk_M → Option (Int32 × gk_M)) (q_M_either : gk_M → Option (Int32 × gk_M)) (k5 : Int32 → gk_M → Option (Int32 × gk_M))  (m0 : gk_M) : Option (Int32 × gk_M) :=
  f_M_either_32 q_M_one q_M_product q_M_sums q_M_compared q_M_both q_M_either k5 1 m0

theorem s_M_either_27 {z : gk_Z} {dd : Nat} (K : gk_F tm z me_M_either (3 + (dd + 1))) {r : Int32} {mem2 : gk_M} (q_M_one : gk_M → Option (Int32 × gk_M)) (q_M_product : gk_M → Option (Int32 × gk_M)) (q_M_sums : gk_M → Option (Int32 × gk_M)) (q_M_compared : gk_M → Option (Int32 × gk_M)) (q_M_both : gk_M → Option (Int32 × gk_M)) (q_M_either : gk_M → Option (Int32 × gk_M)) (hq_M_one : ∀  mem r mem2, q_M_one  mem = some (r, mem2) → gk_C tm (gk_zl z) (gk_zu z) me_M_one (3 + dd) [.ref 0] mem (some (.int r)) mem2) (hq_M_product : ∀  mem r mem2, q_M_product  mem = some (r, mem2) → gk_C tm (gk_zl z) (gk_zu z) me_M_product (3 + dd) [.ref 0] mem (some (.int r)) mem2) (hq_M_sums : ∀  mem r mem2, q_M_sums  mem = some (r, mem2) → gk_C tm (gk_zl z) (gk_zu z) me_M_sums (3 + dd) [.ref 0] mem (some (.int r)) mem2) (hq_M_compared : ∀  mem r mem2, q_M_compared  mem = some (r, mem2) → gk_C tm (gk_zl z) (gk_zu z) me_M_compared (3 + dd) [.ref 0] mem (some (.int r)) mem2) (hq_M_both : ∀  mem r mem2, q_M_both  mem = some (r, mem2) → gk_C tm (gk_zl z) (gk_zu z) me_M_both (3 + dd) [.ref 0] mem (some (.int r)) mem2) (hq_M_either : ∀  mem r mem2, q_M_either  mem = some (r, mem2) → gk_C tm (gk_zl z) (gk_zu z) me_M_either (3 + dd) [.ref 0] mem (some (.int r)) mem2) {k5 : Int32 → gk_M → Option (Int32 × gk_M)} (hk5 : ∀ a1 m0, k5 a1 m0 = some (r, mem2) → gk_G tm z me_M_either (gk_R tm z (some (.int r)) mem2) m0 [(0, .ref 0), (1, .int a1)] [] 5) : ∀  m0, f_M_either_27 q_M_one q_M_product q_M_sums q_M_compared q_M_both q_M_either k5  m0 = some (r, mem2) → gk_G tm z me_M_either (gk_R tm z (some (.int r)) mem2) m0 [(0, .ref 0)] [] 27 := by
  intro  m0  h
  unfold f_M_either_27 at h
  refine gk_iconst (pc := 27) K d_M_either_27 kc_1 ?_
  refine gk_goto (tgt := 32) (pc := 28) K d_M_either_28 (by decide) ?_
  exact gk_sub [0] rfl (s_M_either_32 K q_M_one q_M_product q_M_sums q_M_compared q_M_both q_M_either hq_M_one hq_M_product hq_M_sums hq_M_compared hq_M_both hq_M_either hk5 _ _  h)
noncomputable def f_M_either_5 (q_M_one : gk_M → Option (Int32 × gk_M)) (q_M_product : gk_M → Option (Int32 × gk_M)) (q_M_sums : gk_M → Option (Int32 × gk_M)) (q_M_compared : gk_M → Option (Int32 × gk_M)) (q_M_both : gk_M → Option (Int32 × gk_M)) (q_M_either : gk_M → Option (Int32 × gk_M)) : Nat → Int32 → gk_M → Option (Int32 × gk_M)
  | 0, _, _ => none
  | n + 1, a1, m0 =>
    gk_bi (f_M_takes 124 m0) fun v2 m1 =>
    if v2 = 0 then
      some (a1, m1)
    else
      gk_bi (q_M_both  m1) fun v4 m3 =>
      if ¬ a1 = 0 then
        f_M_either_27 q_M_one q_M_product q_M_sums q_M_compared q_M_both q_M_either (f_M_either_5 q_M_one q_M_product q_M_sums q_M_compared q_M_both q_M_either n)  m3
      else
        if v4 = 0 then
          f_M_either_32 q_M_one q_M_product q_M_sums q_M_compared q_M_both q_M_either (f_M_either_5 q_M_one q_M_product q_M_sums q_M_compared q_M_both q_M_either n) 0 m3
        else
          f_M_either_27 q_M_one q_M_product q_M_sums q_M_compared q_M_both q_M_either (f_M_either_5 q_M_one q_M_product q_M_sums q_M_compared q_M_both q_M_either n)  m3

theorem s_M_either_5 {z : gk_Z} {dd : Nat} (K : gk_F tm z me_M_either (3 + (dd + 1))) {r : Int32} {mem2 : gk_M} (q_M_one : gk_M → Option (Int32 × gk_M)) (q_M_product : gk_M → Option (Int32 × gk_M)) (q_M_sums : gk_M → Option (Int32 × gk_M)) (q_M_compared : gk_M → Option (Int32 × gk_M)) (q_M_both : gk_M → Option (Int32 × gk_M)) (q_M_either : gk_M → Option (Int32 × gk_M)) (hq_M_one : ∀  mem r mem2, q_M_one  mem = some (r, mem2) → gk_C tm (gk_zl z) (gk_zu z) me_M_one (3 + dd) [.ref 0] mem (some (.int r)) mem2) (hq_M_product : ∀  mem r mem2, q_M_product  mem = some (r, mem2) → gk_C tm (gk_zl z) (gk_zu z) me_M_product (3 + dd) [.ref 0] mem (some (.int r)) mem2) (hq_M_sums : ∀  mem r mem2, q_M_sums  mem = some (r, mem2) → gk_C tm (gk_zl z) (gk_zu z) me_M_sums (3 + dd) [.ref 0] mem (some (.int r)) mem2) (hq_M_compared : ∀  mem r mem2, q_M_compared  mem = some (r, mem2) → gk_C tm (gk_zl z) (gk_zu z) me_M_compared (3 + dd) [.ref 0] mem (some (.int r)) mem2) (hq_M_both : ∀  mem r mem2, q_M_both  mem = some (r, mem2) → gk_C tm (gk_zl z) (gk_zu z) me_M_both (3 + dd) [.ref 0] mem (some (.int r)) mem2) (hq_M_either : ∀  mem r mem2, q_M_either  mem = some (r, mem2) → gk_C tm (gk_zl z) (gk_zu z) me_M_either (3 + dd) [.ref 0] mem (some (.int r)) mem2) : ∀ n a1 m0, f_M_either_5 q_M_one q_M_product q_M_sums q_M_compared q_M_both q_M_either n a1 m0 = some (r, mem2) → gk_G tm z me_M_either (gk_R tm z (some (.int r)) mem2) m0 [(0, .ref 0), (1, .int a1)] [] 5 := by
  intro n
  induction n with
  | zero => intro a1 m0  h; exact nomatch (show (none : Option _) = some _ from h)
  | succ n ih =>
    intro a1 m0  h
    unfold f_M_either_5 at h
    refine gk_aload_n (pc := 5) K d_M_either_5 rfl ?_
    refine gk_bipush (pc := 6) K d_M_either_6 kb_124 ?_
    obtain ⟨v2, m1, em1, h⟩ := gk_bi_some h
    refine gk_cVi (As := [.int 124]) (pc := 8) K d_M_either_8 mv_M_179 mc_M_takes rfl tm_0 cl_ok10.1 (s_M_takes (gk_FD K)  em1) (by omega) rfl (Nat.le_of_ble_eq_true rfl) ?_
    refine gk_if_eq (tgt := 36) (pc := 11) K d_M_either_11 (by decide) h (fun h => ?_) (fun h => ?_)
    · refine gk_iload_n (pc := 36) K d_M_either_36 rfl ?_
      exact gk_iret (pc := 37) K d_M_either_37 rfl h
    · refine gk_aload_n (pc := 14) K d_M_either_14 rfl ?_
      obtain ⟨v4, m3, em3, h⟩ := gk_bi_some h
      refine gk_cVi (As := []) (pc := 15) K d_M_either_15 mv_M_176 mc_M_both rfl tm_0 cl_ok10.1 (hq_M_both  _ _ _ em3) (by omega) rfl (Nat.le_of_ble_eq_true rfl) ?_
      refine gk_istore_n (lv2 := [(2, .int v4), (0, .ref 0), (1, .int a1)]) (pc := 18) K d_M_either_18 (by decide) rfl ?_
      refine gk_iload_n (pc := 19) K d_M_either_19 rfl ?_
      refine gk_if_ne (tgt := 27) (pc := 20) K d_M_either_20 (by decide) h (fun h => ?_) (fun h => ?_)
      · exact gk_sub [1] rfl (s_M_either_27 K q_M_one q_M_product q_M_sums q_M_compared q_M_both q_M_either hq_M_one hq_M_product hq_M_sums hq_M_compared hq_M_both hq_M_either (fun x0 m  h => ih x0 m  h)  _  h)
      · refine gk_iload_n (pc := 23) K d_M_either_23 rfl ?_
        refine gk_if_eq (tgt := 31) (pc := 24) K d_M_either_24 (by decide) h (fun h => ?_) (fun h => ?_)
        · refine gk_iconst (pc := 31) K d_M_either_31 kc_0 ?_
          exact gk_sub [1] rfl (s_M_either_32 K q_M_one q_M_product q_M_sums q_M_compared q_M_both q_M_either hq_M_one hq_M_product hq_M_sums hq_M_compared hq_M_both hq_M_either (fun x0 m  h => ih x0 m  h) _ _  h)
        · exact gk_sub [1] rfl (s_M_either_27 K q_M_one q_M_product q_M_sums q_M_compared q_M_both q_M_either hq_M_one hq_M_product hq_M_sums hq_M_compared hq_M_both hq_M_either (fun x0 m  h => ih x0 m  h)  _  h)
noncomputable def f_M_either_0 (q_M_one : gk_M → Option (Int32 × gk_M)) (q_M_product : gk_M → Option (Int32 × gk_M)) (q_M_sums : gk_M → Option (Int32 × gk_M)) (q_M_compared : gk_M → Option (Int32 × gk_M)) (q_M_both : gk_M → Option (Int32 × gk_M)) (q_M_either : gk_M → Option (Int32 × gk_M))  (m0 : gk_M) : Option (Int32 × gk_M) :=
  gk_bi (q_M_both  m0) fun v2 m1 =>
  f_M_either_5 q_M_one q_M_product q_M_sums q_M_compared q_M_both q_M_either gk_fv v2 m1

theorem s_M_either_0 {z : gk_Z} {dd : Nat} (K : gk_F tm z me_M_either (3 + (dd + 1))) {r : Int32} {mem2 : gk_M} (q_M_one : gk_M → Option (Int32 × gk_M)) (q_M_product : gk_M → Option (Int32 × gk_M)) (q_M_sums : gk_M → Option (Int32 × gk_M)) (q_M_compared : gk_M → Option (Int32 × gk_M)) (q_M_both : gk_M → Option (Int32 × gk_M)) (q_M_either : gk_M → Option (Int32 × gk_M)) (hq_M_one : ∀  mem r mem2, q_M_one  mem = some (r, mem2) → gk_C tm (gk_zl z) (gk_zu z) me_M_one (3 + dd) [.ref 0] mem (some (.int r)) mem2) (hq_M_product : ∀  mem r mem2, q_M_product  mem = some (r, mem2) → gk_C tm (gk_zl z) (gk_zu z) me_M_product (3 + dd) [.ref 0] mem (some (.int r)) mem2) (hq_M_sums : ∀  mem r mem2, q_M_sums  mem = some (r, mem2) → gk_C tm (gk_zl z) (gk_zu z) me_M_sums (3 + dd) [.ref 0] mem (some (.int r)) mem2) (hq_M_compared : ∀  mem r mem2, q_M_compared  mem = some (r, mem2) → gk_C tm (gk_zl z) (gk_zu z) me_M_compared (3 + dd) [.ref 0] mem (some (.int r)) mem2) (hq_M_both : ∀  mem r mem2, q_M_both  mem = some (r, mem2) → gk_C tm (gk_zl z) (gk_zu z) me_M_both (3 + dd) [.ref 0] mem (some (.int r)) mem2) (hq_M_either : ∀  mem r mem2, q_M_either  mem = some (r, mem2) → gk_C tm (gk_zl z) (gk_zu z) me_M_either (3 + dd) [.ref 0] mem (some (.int r)) mem2) : ∀  m0, f_M_either_0 q_M_one q_M_product q_M_sums q_M_compared q_M_both q_M_either  m0 = some (r, mem2) → gk_G tm z me_M_either (gk_R tm z (some (.int r)) mem2) m0 [(0, .ref 0)] [] 0 := by
  intro  m0  h
  unfold f_M_either_0 at h
  refine gk_aload_n (pc := 0) K d_M_either_0 rfl ?_
  obtain ⟨v2, m1, em1, h⟩ := gk_bi_some h
  refine gk_cVi (As := []) (pc := 1) K d_M_either_1 mv_M_176 mc_M_both rfl tm_0 cl_ok10.1 (hq_M_both  _ _ _ em1) (by omega) rfl (Nat.le_of_ble_eq_true rfl) ?_
  refine gk_istore_n (lv2 := [(1, .int v2), (0, .ref 0)]) (pc := 4) K d_M_either_4 (by decide) rfl ?_
  exact gk_sub [1, 0] rfl (s_M_either_5 K q_M_one q_M_product q_M_sums q_M_compared q_M_both q_M_either hq_M_one hq_M_product hq_M_sums hq_M_compared hq_M_both hq_M_either _ _ _  h)
noncomputable def r_M_one_s (p : Nat → gk_M → Option (Int32 × gk_M)) : Nat → gk_M → Option (Int32 × gk_M)
  | 0, m0 => f_M_one_0 (fun  m => p 0  m) (fun  m => p 1  m) (fun  m => p 2  m) (fun  m => p 3  m) (fun  m => p 4  m) (fun  m => p 5  m)  m0
  | 1, m0 => f_M_product_0 (fun  m => p 0  m) (fun  m => p 1  m) (fun  m => p 2  m) (fun  m => p 3  m) (fun  m => p 4  m) (fun  m => p 5  m)  m0
  | 2, m0 => f_M_sums_0 (fun  m => p 0  m) (fun  m => p 1  m) (fun  m => p 2  m) (fun  m => p 3  m) (fun  m => p 4  m) (fun  m => p 5  m)  m0
  | 3, m0 => f_M_compared_0 (fun  m => p 0  m) (fun  m => p 1  m) (fun  m => p 2  m) (fun  m => p 3  m) (fun  m => p 4  m) (fun  m => p 5  m)  m0
  | 4, m0 => f_M_both_0 (fun  m => p 0  m) (fun  m => p 1  m) (fun  m => p 2  m) (fun  m => p 3  m) (fun  m => p 4  m) (fun  m => p 5  m)  m0
  | 5, m0 => f_M_either_0 (fun  m => p 0  m) (fun  m => p 1  m) (fun  m => p 2  m) (fun  m => p 3  m) (fun  m => p 4  m) (fun  m => p 5  m)  m0
  | _, _ => none
noncomputable def r_M_one : Nat → Nat → gk_M → Option (Int32 × gk_M)
  | 0 => fun _ _ => none
  | d + 1 => r_M_one_s (r_M_one d)
theorem r_M_one_e0 (d : Nat)  (m0 : gk_M) : r_M_one (d + 1) 0  m0 = f_M_one_0 (fun  m => r_M_one d 0  m) (fun  m => r_M_one d 1  m) (fun  m => r_M_one d 2  m) (fun  m => r_M_one d 3  m) (fun  m => r_M_one d 4  m) (fun  m => r_M_one d 5  m)  m0 := rfl
theorem r_M_one_e1 (d : Nat)  (m0 : gk_M) : r_M_one (d + 1) 1  m0 = f_M_product_0 (fun  m => r_M_one d 0  m) (fun  m => r_M_one d 1  m) (fun  m => r_M_one d 2  m) (fun  m => r_M_one d 3  m) (fun  m => r_M_one d 4  m) (fun  m => r_M_one d 5  m)  m0 := rfl
theorem r_M_one_e2 (d : Nat)  (m0 : gk_M) : r_M_one (d + 1) 2  m0 = f_M_sums_0 (fun  m => r_M_one d 0  m) (fun  m => r_M_one d 1  m) (fun  m => r_M_one d 2  m) (fun  m => r_M_one d 3  m) (fun  m => r_M_one d 4  m) (fun  m => r_M_one d 5  m)  m0 := rfl
theorem r_M_one_e3 (d : Nat)  (m0 : gk_M) : r_M_one (d + 1) 3  m0 = f_M_compared_0 (fun  m => r_M_one d 0  m) (fun  m => r_M_one d 1  m) (fun  m => r_M_one d 2  m) (fun  m => r_M_one d 3  m) (fun  m => r_M_one d 4  m) (fun  m => r_M_one d 5  m)  m0 := rfl
theorem r_M_one_e4 (d : Nat)  (m0 : gk_M) : r_M_one (d + 1) 4  m0 = f_M_both_0 (fun  m => r_M_one d 0  m) (fun  m => r_M_one d 1  m) (fun  m => r_M_one d 2  m) (fun  m => r_M_one d 3  m) (fun  m => r_M_one d 4  m) (fun  m => r_M_one d 5  m)  m0 := rfl
theorem r_M_one_e5 (d : Nat)  (m0 : gk_M) : r_M_one (d + 1) 5  m0 = f_M_either_0 (fun  m => r_M_one d 0  m) (fun  m => r_M_one d 1  m) (fun  m => r_M_one d 2  m) (fun  m => r_M_one d 3  m) (fun  m => r_M_one d 4  m) (fun  m => r_M_one d 5  m)  m0 := rfl
theorem sr_M_one {l : Launch} {u : gk_U} (hD : gk_D tm u) : ∀ d, (∀  mem r mem2, r_M_one d 0  mem = some (r, mem2) → gk_C tm l u me_M_one (3 + d) [.ref 0] mem (some (.int r)) mem2) ∧ (∀  mem r mem2, r_M_one d 1  mem = some (r, mem2) → gk_C tm l u me_M_product (3 + d) [.ref 0] mem (some (.int r)) mem2) ∧ (∀  mem r mem2, r_M_one d 2  mem = some (r, mem2) → gk_C tm l u me_M_sums (3 + d) [.ref 0] mem (some (.int r)) mem2) ∧ (∀  mem r mem2, r_M_one d 3  mem = some (r, mem2) → gk_C tm l u me_M_compared (3 + d) [.ref 0] mem (some (.int r)) mem2) ∧ (∀  mem r mem2, r_M_one d 4  mem = some (r, mem2) → gk_C tm l u me_M_both (3 + d) [.ref 0] mem (some (.int r)) mem2) ∧ (∀  mem r mem2, r_M_one d 5  mem = some (r, mem2) → gk_C tm l u me_M_either (3 + d) [.ref 0] mem (some (.int r)) mem2) := by
  intro d
  induction d with
  | zero => exact ⟨(fun  _ _ _ h => nomatch (show (none : Option _) = some _ from h)), (fun  _ _ _ h => nomatch (show (none : Option _) = some _ from h)), (fun  _ _ _ h => nomatch (show (none : Option _) = some _ from h)), (fun  _ _ _ h => nomatch (show (none : Option _) = some _ from h)), (fun  _ _ _ h => nomatch (show (none : Option _) = some _ from h)), (fun  _ _ _ h => nomatch (show (none : Option _) = some _ from h))⟩
  | succ d ih =>
    refine ⟨?_, ?_, ?_, ?_, ?_, ?_⟩
    · intro  mem r mem2 h
      refine gk_enter hD mc_M_one (Nat.le_of_ble_eq_true rfl) rfl (fun z hl hu K => ?_)
      subst hl
      subst hu
      rw [r_M_one_e0] at h
      exact s_M_one_0 K (fun  m => r_M_one d 0  m) (fun  m => r_M_one d 1  m) (fun  m => r_M_one d 2  m) (fun  m => r_M_one d 3  m) (fun  m => r_M_one d 4  m) (fun  m => r_M_one d 5  m) (fun  a b c h => ih.1  a b c h) (fun  a b c h => ih.2.1  a b c h) (fun  a b c h => ih.2.2.1  a b c h) (fun  a b c h => ih.2.2.2.1  a b c h) (fun  a b c h => ih.2.2.2.2.1  a b c h) (fun  a b c h => ih.2.2.2.2.2  a b c h)  _ h
    · intro  mem r mem2 h
      refine gk_enter hD mc_M_product (Nat.le_of_ble_eq_true rfl) rfl (fun z hl hu K => ?_)
      subst hl
      subst hu
      rw [r_M_one_e1] at h
      exact s_M_product_0 K (fun  m => r_M_one d 0  m) (fun  m => r_M_one d 1  m) (fun  m => r_M_one d 2  m) (fun  m => r_M_one d 3  m) (fun  m => r_M_one d 4  m) (fun  m => r_M_one d 5  m) (fun  a b c h => ih.1  a b c h) (fun  a b c h => ih.2.1  a b c h) (fun  a b c h => ih.2.2.1  a b c h) (fun  a b c h => ih.2.2.2.1  a b c h) (fun  a b c h => ih.2.2.2.2.1  a b c h) (fun  a b c h => ih.2.2.2.2.2  a b c h)  _ h
    · intro  mem r mem2 h
      refine gk_enter hD mc_M_sums (Nat.le_of_ble_eq_true rfl) rfl (fun z hl hu K => ?_)
      subst hl
      subst hu
      rw [r_M_one_e2] at h
      exact s_M_sums_0 K (fun  m => r_M_one d 0  m) (fun  m => r_M_one d 1  m) (fun  m => r_M_one d 2  m) (fun  m => r_M_one d 3  m) (fun  m => r_M_one d 4  m) (fun  m => r_M_one d 5  m) (fun  a b c h => ih.1  a b c h) (fun  a b c h => ih.2.1  a b c h) (fun  a b c h => ih.2.2.1  a b c h) (fun  a b c h => ih.2.2.2.1  a b c h) (fun  a b c h => ih.2.2.2.2.1  a b c h) (fun  a b c h => ih.2.2.2.2.2  a b c h)  _ h
    · intro  mem r mem2 h
      refine gk_enter hD mc_M_compared (Nat.le_of_ble_eq_true rfl) rfl (fun z hl hu K => ?_)
      subst hl
      subst hu
      rw [r_M_one_e3] at h
      exact s_M_compared_0 K (fun  m => r_M_one d 0  m) (fun  m => r_M_one d 1  m) (fun  m => r_M_one d 2  m) (fun  m => r_M_one d 3  m) (fun  m => r_M_one d 4  m) (fun  m => r_M_one d 5  m) (fun  a b c h => ih.1  a b c h) (fun  a b c h => ih.2.1  a b c h) (fun  a b c h => ih.2.2.1  a b c h) (fun  a b c h => ih.2.2.2.1  a b c h) (fun  a b c h => ih.2.2.2.2.1  a b c h) (fun  a b c h => ih.2.2.2.2.2  a b c h)  _ h
    · intro  mem r mem2 h
      refine gk_enter hD mc_M_both (Nat.le_of_ble_eq_true rfl) rfl (fun z hl hu K => ?_)
      subst hl
      subst hu
      rw [r_M_one_e4] at h
      exact s_M_both_0 K (fun  m => r_M_one d 0  m) (fun  m => r_M_one d 1  m) (fun  m => r_M_one d 2  m) (fun  m => r_M_one d 3  m) (fun  m => r_M_one d 4  m) (fun  m => r_M_one d 5  m) (fun  a b c h => ih.1  a b c h) (fun  a b c h => ih.2.1  a b c h) (fun  a b c h => ih.2.2.1  a b c h) (fun  a b c h => ih.2.2.2.1  a b c h) (fun  a b c h => ih.2.2.2.2.1  a b c h) (fun  a b c h => ih.2.2.2.2.2  a b c h)  _ h
    · intro  mem r mem2 h
      refine gk_enter hD mc_M_either (Nat.le_of_ble_eq_true rfl) rfl (fun z hl hu K => ?_)
      subst hl
      subst hu
      rw [r_M_one_e5] at h
      exact s_M_either_0 K (fun  m => r_M_one d 0  m) (fun  m => r_M_one d 1  m) (fun  m => r_M_one d 2  m) (fun  m => r_M_one d 3  m) (fun  m => r_M_one d 4  m) (fun  m => r_M_one d 5  m) (fun  a b c h => ih.1  a b c h) (fun  a b c h => ih.2.1  a b c h) (fun  a b c h => ih.2.2.1  a b c h) (fun  a b c h => ih.2.2.2.1  a b c h) (fun  a b c h => ih.2.2.2.2.1  a b c h) (fun  a b c h => ih.2.2.2.2.2  a b c h)  _ h
noncomputable def f_M_one  (m0 : gk_M) : Option (Int32 × gk_M) := r_M_one 60 0  m0
theorem s_M_one {l : Launch} {u : gk_U} (hD : gk_D tm u)  {m0 mem2 : gk_M} {r : Int32} (h : f_M_one  m0 = some (r, mem2)) : gk_C tm l u me_M_one 63 [.ref 0] m0 (some (.int r)) mem2 := (sr_M_one hD 60).1  _ _ _ h
noncomputable def f_M_product  (m0 : gk_M) : Option (Int32 × gk_M) := r_M_one 60 1  m0
theorem s_M_product {l : Launch} {u : gk_U} (hD : gk_D tm u)  {m0 mem2 : gk_M} {r : Int32} (h : f_M_product  m0 = some (r, mem2)) : gk_C tm l u me_M_product 63 [.ref 0] m0 (some (.int r)) mem2 := (sr_M_one hD 60).2.1  _ _ _ h
noncomputable def f_M_sums  (m0 : gk_M) : Option (Int32 × gk_M) := r_M_one 60 2  m0
theorem s_M_sums {l : Launch} {u : gk_U} (hD : gk_D tm u)  {m0 mem2 : gk_M} {r : Int32} (h : f_M_sums  m0 = some (r, mem2)) : gk_C tm l u me_M_sums 63 [.ref 0] m0 (some (.int r)) mem2 := (sr_M_one hD 60).2.2.1  _ _ _ h
noncomputable def f_M_compared  (m0 : gk_M) : Option (Int32 × gk_M) := r_M_one 60 3  m0
theorem s_M_compared {l : Launch} {u : gk_U} (hD : gk_D tm u)  {m0 mem2 : gk_M} {r : Int32} (h : f_M_compared  m0 = some (r, mem2)) : gk_C tm l u me_M_compared 63 [.ref 0] m0 (some (.int r)) mem2 := (sr_M_one hD 60).2.2.2.1  _ _ _ h
noncomputable def f_M_both  (m0 : gk_M) : Option (Int32 × gk_M) := r_M_one 60 4  m0
theorem s_M_both {l : Launch} {u : gk_U} (hD : gk_D tm u)  {m0 mem2 : gk_M} {r : Int32} (h : f_M_both  m0 = some (r, mem2)) : gk_C tm l u me_M_both 63 [.ref 0] m0 (some (.int r)) mem2 := (sr_M_one hD 60).2.2.2.2.1  _ _ _ h
noncomputable def f_M_either  (m0 : gk_M) : Option (Int32 × gk_M) := r_M_one 60 5  m0
theorem s_M_either {l : Launch} {u : gk_U} (hD : gk_D tm u)  {m0 mem2 : gk_M} {r : Int32} (h : f_M_either  m0 = some (r, mem2)) : gk_C tm l u me_M_either 63 [.ref 0] m0 (some (.int r)) mem2 := (sr_M_one hD 60).2.2.2.2.2  _ _ _ h
