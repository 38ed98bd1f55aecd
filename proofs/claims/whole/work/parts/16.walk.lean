theorem d_X_redo_0 : decode me_X_redo.2.1 0 = .ok (.aload_n 0, 1) := by decide +kernel
theorem d_X_redo_1 : decode me_X_redo.2.1 1 = .ok (.getfield 58, 3) := by decide +kernel
theorem d_X_redo_4 : decode me_X_redo.2.1 4 = .ok (.invokevirtual 270, 3) := by decide +kernel
theorem d_X_redo_7 : decode me_X_redo.2.1 7 = .ok (.ireturn, 1) := by decide +kernel
noncomputable def f_X_redo   (m0 : gk_M) : Option (Int32 × gk_M) :=
  gk_bi (f_History_forth  m0) fun v2 m1 =>
  some (v2, m1)

theorem s_X_redo_0 {z : gk_Z} (K : gk_F tx z me_X_redo 5) {r : Int32} {mem2 : gk_M} : ∀  m0, f_X_redo  m0 = some (r, mem2) → gk_G tx z me_X_redo (gk_R tx z (some (.int r)) mem2) m0 [(0, .ref 0)] [] 0 := by
  intro  m0  h
  unfold f_X_redo at h
  refine gk_aload_n (pc := 0) K d_X_redo_0 rfl ?_
  refine gk_get (pc := 1) K d_X_redo_1 fl_X_58 tx_0 rfl rfl ?_
  obtain ⟨v2, m1, em1, h⟩ := gk_bi_some h
  refine gk_cVi (As := []) (pc := 4) K d_X_redo_4 mv_X_270 mc_History_forth rfl tx_32 cl_ok6.1 (s_History_forth (gk_FD K)  em1) (by decide) rfl (Nat.le_of_ble_eq_true rfl) ?_
  exact gk_iret (pc := 7) K d_X_redo_7 rfl h
theorem s_X_redo {l : Launch} {u : gk_U} (hD : gk_D tx u) {m0 mem2 : gk_M} {r : Int32} (h : f_X_redo  m0 = some (r, mem2)) : gk_C tx l u me_X_redo 5 [.ref 0] m0 (some (.int r)) mem2 :=
  gk_enter hD mc_X_redo (Nat.le_of_ble_eq_true rfl) rfl (fun z _ _ K => s_X_redo_0 K  _  h)
theorem d_Ways_isKind_0 : decode me_Ways_isKind.2.1 0 = .ok (.iload_n 0, 1) := by decide +kernel
theorem d_Ways_isKind_1 : decode me_Ways_isKind.2.1 1 = .ok (.ifCond .lt 13, 3) := by decide +kernel
theorem d_Ways_isKind_4 : decode me_Ways_isKind.2.1 4 = .ok (.iload_n 0, 1) := by decide +kernel
theorem d_Ways_isKind_5 : decode me_Ways_isKind.2.1 5 = .ok (.bipush 8, 2) := by decide +kernel
theorem d_Ways_isKind_7 : decode me_Ways_isKind.2.1 7 = .ok (.if_icmp .ge 7, 3) := by decide +kernel
theorem d_Ways_isKind_10 : decode me_Ways_isKind.2.1 10 = .ok (.iconst 1, 1) := by decide +kernel
theorem d_Ways_isKind_11 : decode me_Ways_isKind.2.1 11 = .ok (.goto 4, 3) := by decide +kernel
theorem d_Ways_isKind_14 : decode me_Ways_isKind.2.1 14 = .ok (.iconst 0, 1) := by decide +kernel
theorem d_Ways_isKind_15 : decode me_Ways_isKind.2.1 15 = .ok (.ireturn, 1) := by decide +kernel
noncomputable def f_Ways_isKind  (a0 : Int32) (m0 : gk_M) : Option (Int32 × gk_M) :=
  if a0 < 0 then
    some (0, m0)
  else
    if 8 ≤ a0 then
      some (0, m0)
    else
      some (1, m0)

theorem s_Ways_isKind_0 {z : gk_Z} (K : gk_F tx z me_Ways_isKind 1) {r : Int32} {mem2 : gk_M} : ∀ a0 m0, f_Ways_isKind a0 m0 = some (r, mem2) → gk_G tx z me_Ways_isKind (gk_R tx z (some (.int r)) mem2) m0 [(0, .int a0)] [] 0 := by
  intro a0 m0  h
  unfold f_Ways_isKind at h
  refine gk_iload_n (pc := 0) K d_Ways_isKind_0 rfl ?_
  refine gk_if_lt (tgt := 14) (pc := 1) K d_Ways_isKind_1 (by decide) h (fun h => ?_) (fun h => ?_)
  · refine gk_iconst (pc := 14) K d_Ways_isKind_14 kc_0 ?_
    exact gk_zretc (pc := 15) K d_Ways_isKind_15 rfl (Or.inl rfl) h
  · refine gk_iload_n (pc := 4) K d_Ways_isKind_4 rfl ?_
    refine gk_bipush (pc := 5) K d_Ways_isKind_5 kb_8 ?_
    refine gk_ic_ge (tgt := 14) (pc := 7) K d_Ways_isKind_7 (by decide) h (fun h => ?_) (fun h => ?_)
    · refine gk_iconst (pc := 14) K d_Ways_isKind_14 kc_0 ?_
      exact gk_zretc (pc := 15) K d_Ways_isKind_15 rfl (Or.inl rfl) h
    · refine gk_iconst (pc := 10) K d_Ways_isKind_10 kc_1 ?_
      refine gk_goto (tgt := 15) (pc := 11) K d_Ways_isKind_11 (by decide) ?_
      exact gk_zretc (pc := 15) K d_Ways_isKind_15 rfl (Or.inr rfl) h
theorem s_Ways_isKind {l : Launch} {u : gk_U} (hD : gk_D tx u) {a0 : Int32} {m0 mem2 : gk_M} {r : Int32} (h : f_Ways_isKind a0 m0 = some (r, mem2)) : gk_C tx l u me_Ways_isKind 1 [.int a0] m0 (some (.int r)) mem2 :=
  gk_enter hD mc_Ways_isKind (Nat.le_of_ble_eq_true rfl) rfl (fun z _ _ K => s_Ways_isKind_0 K _ _  h)
theorem d_Ways_add_0 : decode me_Ways_add.2.1 0 = .ok (.aload_n 0, 1) := by decide +kernel
theorem d_Ways_add_1 : decode me_Ways_add.2.1 1 = .ok (.getfield 9, 3) := by decide +kernel
theorem d_Ways_add_4 : decode me_Ways_add.2.1 4 = .ok (.bipush 50, 2) := by decide +kernel
theorem d_Ways_add_6 : decode me_Ways_add.2.1 6 = .ok (.if_icmp .lt 6, 3) := by decide +kernel
theorem d_Ways_add_9 : decode me_Ways_add.2.1 9 = .ok (.bipush (-3), 2) := by decide +kernel
theorem d_Ways_add_11 : decode me_Ways_add.2.1 11 = .ok (.ireturn, 1) := by decide +kernel
theorem d_Ways_add_12 : decode me_Ways_add.2.1 12 = .ok (.aload_n 0, 1) := by decide +kernel
theorem d_Ways_add_13 : decode me_Ways_add.2.1 13 = .ok (.getfield 18, 3) := by decide +kernel
theorem d_Ways_add_16 : decode me_Ways_add.2.1 16 = .ok (.aload_n 0, 1) := by decide +kernel
theorem d_Ways_add_17 : decode me_Ways_add.2.1 17 = .ok (.getfield 9, 3) := by decide +kernel
theorem d_Ways_add_20 : decode me_Ways_add.2.1 20 = .ok (.iload_n 1, 1) := by decide +kernel
theorem d_Ways_add_21 : decode me_Ways_add.2.1 21 = .ok (.iastore, 1) := by decide +kernel
theorem d_Ways_add_22 : decode me_Ways_add.2.1 22 = .ok (.aload_n 0, 1) := by decide +kernel
theorem d_Ways_add_23 : decode me_Ways_add.2.1 23 = .ok (.dup, 1) := by decide +kernel
theorem d_Ways_add_24 : decode me_Ways_add.2.1 24 = .ok (.getfield 9, 3) := by decide +kernel
theorem d_Ways_add_27 : decode me_Ways_add.2.1 27 = .ok (.iconst 1, 1) := by decide +kernel
theorem d_Ways_add_28 : decode me_Ways_add.2.1 28 = .ok (.iadd, 1) := by decide +kernel
theorem d_Ways_add_29 : decode me_Ways_add.2.1 29 = .ok (.putfield 9, 3) := by decide +kernel
theorem d_Ways_add_32 : decode me_Ways_add.2.1 32 = .ok (.aload_n 0, 1) := by decide +kernel
theorem d_Ways_add_33 : decode me_Ways_add.2.1 33 = .ok (.getfield 9, 3) := by decide +kernel
theorem d_Ways_add_36 : decode me_Ways_add.2.1 36 = .ok (.iconst 1, 1) := by decide +kernel
theorem d_Ways_add_37 : decode me_Ways_add.2.1 37 = .ok (.isub, 1) := by decide +kernel
theorem d_Ways_add_38 : decode me_Ways_add.2.1 38 = .ok (.ireturn, 1) := by decide +kernel
noncomputable def f_Ways_add  (a1 : Int32) (m0 : gk_M) : Option (Int32 × gk_M) :=
  if (m0.1 37 0) < 50 then
    gk_si m0 38 50 (m0.1 37 0) a1 fun m1 =>
    gk_let (gk_mi m1 37 0 ((m1.1 37 0) + 1)) fun m2 =>
    some (((m2.1 37 0) - 1), m2)
  else
    some ((-3), m0)

theorem s_Ways_add_0 {z : gk_Z} (K : gk_F tx z me_Ways_add 1) {r : Int32} {mem2 : gk_M} : ∀ a1 m0, f_Ways_add a1 m0 = some (r, mem2) → gk_G tx z me_Ways_add (gk_R tx z (some (.int r)) mem2) m0 [(0, .ref 37), (1, .int a1)] [] 0 := by
  intro a1 m0  h
  unfold f_Ways_add at h
  refine gk_aload_n (pc := 0) K d_Ways_add_0 rfl ?_
  refine gk_get (pc := 1) K d_Ways_add_1 fl_Ways_9 tx_37 rfl rfl ?_
  refine gk_bipush (pc := 4) K d_Ways_add_4 kb_50 ?_
  refine gk_ic_lt (tgt := 12) (pc := 6) K d_Ways_add_6 (by decide) h (fun h => ?_) (fun h => ?_)
  · refine gk_aload_n (pc := 12) K d_Ways_add_12 rfl ?_
    refine gk_get (pc := 13) K d_Ways_add_13 fl_Ways_18 tx_37 rfl rfl ?_
    refine gk_aload_n (pc := 16) K d_Ways_add_16 rfl ?_
    refine gk_get (pc := 17) K d_Ways_add_17 fl_Ways_9 tx_37 rfl rfl ?_
    refine gk_iload_n (pc := 20) K d_Ways_add_20 rfl ?_
    refine gk_iast (pc := 21) K d_Ways_add_21 tx_38 h (fun m1 h => ?_)
    refine gk_aload_n (pc := 22) K d_Ways_add_22 rfl ?_
    refine gk_dup (pc := 23) K d_Ways_add_23 rfl ?_
    refine gk_get (pc := 24) K d_Ways_add_24 fl_Ways_9 tx_37 rfl rfl ?_
    refine gk_iconst (pc := 27) K d_Ways_add_27 kc_1 ?_
    refine gk_iadd (pc := 28) K d_Ways_add_28 ?_
    refine gk_puti (pc := 29) K d_Ways_add_29 fp_Ways_9 tx_37 rfl h (fun m2 h => ?_)
    refine gk_aload_n (pc := 32) K d_Ways_add_32 rfl ?_
    refine gk_get (pc := 33) K d_Ways_add_33 fl_Ways_9 tx_37 rfl rfl ?_
    refine gk_iconst (pc := 36) K d_Ways_add_36 kc_1 ?_
    refine gk_isub (pc := 37) K d_Ways_add_37 ?_
    exact gk_iret (pc := 38) K d_Ways_add_38 rfl h
  · refine gk_bipush (pc := 9) K d_Ways_add_9 kb_m3 ?_
    exact gk_iret (pc := 11) K d_Ways_add_11 rfl h
theorem s_Ways_add {l : Launch} {u : gk_U} (hD : gk_D tx u) {a1 : Int32} {m0 mem2 : gk_M} {r : Int32} (h : f_Ways_add a1 m0 = some (r, mem2)) : gk_C tx l u me_Ways_add 1 [.ref 37, .int a1] m0 (some (.int r)) mem2 :=
  gk_enter hD mc_Ways_add (Nat.le_of_ble_eq_true rfl) rfl (fun z _ _ K => s_Ways_add_0 K _ _  h)
theorem d_X_body_0 : decode me_X_body.2.1 0 = .ok (.iload_n 1, 1) := by decide +kernel
theorem d_X_body_1 : decode me_X_body.2.1 1 = .ok (.invokestatic 273, 3) := by decide +kernel
theorem d_X_body_4 : decode me_X_body.2.1 4 = .ok (.ifCond .eq 14, 3) := by decide +kernel
theorem d_X_body_7 : decode me_X_body.2.1 7 = .ok (.aload_n 0, 1) := by decide +kernel
theorem d_X_body_8 : decode me_X_body.2.1 8 = .ok (.getfield 65, 3) := by decide +kernel
theorem d_X_body_11 : decode me_X_body.2.1 11 = .ok (.iload_n 1, 1) := by decide +kernel
theorem d_X_body_12 : decode me_X_body.2.1 12 = .ok (.invokevirtual 276, 3) := by decide +kernel
theorem d_X_body_15 : decode me_X_body.2.1 15 = .ok (.goto 4, 3) := by decide +kernel
theorem d_X_body_18 : decode me_X_body.2.1 18 = .ok (.iconst (-1), 1) := by decide +kernel
theorem d_X_body_19 : decode me_X_body.2.1 19 = .ok (.ireturn, 1) := by decide +kernel
noncomputable def f_X_body  (a1 : Int32) (m0 : gk_M) : Option (Int32 × gk_M) :=
  gk_bi (f_Ways_isKind a1 m0) fun v2 m1 =>
  if v2 = 0 then
    some ((-1), m1)
  else
    gk_bi (f_Ways_add a1 m1) fun v4 m3 =>
    some (v4, m3)

theorem s_X_body_0 {z : gk_Z} (K : gk_F tx z me_X_body 2) {r : Int32} {mem2 : gk_M} : ∀ a1 m0, f_X_body a1 m0 = some (r, mem2) → gk_G tx z me_X_body (gk_R tx z (some (.int r)) mem2) m0 [(0, .ref 0), (1, .int a1)] [] 0 := by
  intro a1 m0  h
  unfold f_X_body at h
  refine gk_iload_n (pc := 0) K d_X_body_0 rfl ?_
  obtain ⟨v2, m1, em1, h⟩ := gk_bi_some h
  refine gk_cSi (As := [.int a1]) (pc := 1) K d_X_body_1 ms_X_273 mc_Ways_isKind rfl (s_Ways_isKind (gk_FD K)  em1) (by decide) rfl (Nat.le_of_ble_eq_true rfl) ?_
  refine gk_if_eq (tgt := 18) (pc := 4) K d_X_body_4 (by decide) h (fun h => ?_) (fun h => ?_)
  · refine gk_iconst (pc := 18) K d_X_body_18 kc_m1 ?_
    exact gk_iret (pc := 19) K d_X_body_19 rfl h
  · refine gk_aload_n (pc := 7) K d_X_body_7 rfl ?_
    refine gk_get (pc := 8) K d_X_body_8 fl_X_65 tx_0 rfl rfl ?_
    refine gk_iload_n (pc := 11) K d_X_body_11 rfl ?_
    obtain ⟨v4, m3, em3, h⟩ := gk_bi_some h
    refine gk_cVi (As := [.int a1]) (pc := 12) K d_X_body_12 mv_X_276 mc_Ways_add rfl tx_37 cl_ok7.1 (s_Ways_add (gk_FD K)  em3) (by decide) rfl (Nat.le_of_ble_eq_true rfl) ?_
    refine gk_goto (tgt := 19) (pc := 15) K d_X_body_15 (by decide) ?_
    exact gk_iret (pc := 19) K d_X_body_19 rfl h
theorem s_X_body {l : Launch} {u : gk_U} (hD : gk_D tx u) {a1 : Int32} {m0 mem2 : gk_M} {r : Int32} (h : f_X_body a1 m0 = some (r, mem2)) : gk_C tx l u me_X_body 2 [.ref 0, .int a1] m0 (some (.int r)) mem2 :=
  gk_enter hD mc_X_body (Nat.le_of_ble_eq_true rfl) rfl (fun z _ _ K => s_X_body_0 K _ _  h)
theorem d_Ways_isBody_0 : decode me_Ways_isBody.2.1 0 = .ok (.iload_n 1, 1) := by decide +kernel
theorem d_Ways_isBody_1 : decode me_Ways_isBody.2.1 1 = .ok (.ifCond .lt 15, 3) := by decide +kernel
theorem d_Ways_isBody_4 : decode me_Ways_isBody.2.1 4 = .ok (.iload_n 1, 1) := by decide +kernel
theorem d_Ways_isBody_5 : decode me_Ways_isBody.2.1 5 = .ok (.aload_n 0, 1) := by decide +kernel
theorem d_Ways_isBody_6 : decode me_Ways_isBody.2.1 6 = .ok (.getfield 9, 3) := by decide +kernel
theorem d_Ways_isBody_9 : decode me_Ways_isBody.2.1 9 = .ok (.if_icmp .ge 7, 3) := by decide +kernel
theorem d_Ways_isBody_12 : decode me_Ways_isBody.2.1 12 = .ok (.iconst 1, 1) := by decide +kernel
theorem d_Ways_isBody_13 : decode me_Ways_isBody.2.1 13 = .ok (.goto 4, 3) := by decide +kernel
theorem d_Ways_isBody_16 : decode me_Ways_isBody.2.1 16 = .ok (.iconst 0, 1) := by decide +kernel
theorem d_Ways_isBody_17 : decode me_Ways_isBody.2.1 17 = .ok (.ireturn, 1) := by decide +kernel
noncomputable def f_Ways_isBody  (a1 : Int32) (m0 : gk_M) : Option (Int32 × gk_M) :=
  if a1 < 0 then
    some (0, m0)
  else
    if (m0.1 37 0) ≤ a1 then
      some (0, m0)
    else
      some (1, m0)

theorem s_Ways_isBody_0 {z : gk_Z} (K : gk_F tx z me_Ways_isBody 1) {r : Int32} {mem2 : gk_M} : ∀ a1 m0, f_Ways_isBody a1 m0 = some (r, mem2) → gk_G tx z me_Ways_isBody (gk_R tx z (some (.int r)) mem2) m0 [(0, .ref 37), (1, .int a1)] [] 0 := by
  intro a1 m0  h
  unfold f_Ways_isBody at h
  refine gk_iload_n (pc := 0) K d_Ways_isBody_0 rfl ?_
  refine gk_if_lt (tgt := 16) (pc := 1) K d_Ways_isBody_1 (by decide) h (fun h => ?_) (fun h => ?_)
  · refine gk_iconst (pc := 16) K d_Ways_isBody_16 kc_0 ?_
    exact gk_zretc (pc := 17) K d_Ways_isBody_17 rfl (Or.inl rfl) h
  · refine gk_iload_n (pc := 4) K d_Ways_isBody_4 rfl ?_
    refine gk_aload_n (pc := 5) K d_Ways_isBody_5 rfl ?_
    refine gk_get (pc := 6) K d_Ways_isBody_6 fl_Ways_9 tx_37 rfl rfl ?_
    refine gk_ic_ge (tgt := 16) (pc := 9) K d_Ways_isBody_9 (by decide) h (fun h => ?_) (fun h => ?_)
    · refine gk_iconst (pc := 16) K d_Ways_isBody_16 kc_0 ?_
      exact gk_zretc (pc := 17) K d_Ways_isBody_17 rfl (Or.inl rfl) h
    · refine gk_iconst (pc := 12) K d_Ways_isBody_12 kc_1 ?_
      refine gk_goto (tgt := 17) (pc := 13) K d_Ways_isBody_13 (by decide) ?_
      exact gk_zretc (pc := 17) K d_Ways_isBody_17 rfl (Or.inr rfl) h
theorem s_Ways_isBody {l : Launch} {u : gk_U} (hD : gk_D tx u) {a1 : Int32} {m0 mem2 : gk_M} {r : Int32} (h : f_Ways_isBody a1 m0 = some (r, mem2)) : gk_C tx l u me_Ways_isBody 1 [.ref 37, .int a1] m0 (some (.int r)) mem2 :=
  gk_enter hD mc_Ways_isBody (Nat.le_of_ble_eq_true rfl) rfl (fun z _ _ K => s_Ways_isBody_0 K _ _  h)
theorem d_Ways_run_0 : decode me_Ways_run.2.1 0 = .ok (.iload_n 1, 1) := by decide +kernel
theorem d_Ways_run_1 : decode me_Ways_run.2.1 1 = .ok (.lookupswitch 246 #[(1, 107), (2, 114), (10, 130), (11, 140), (20, 147), (30, 158), (40, 168), (41, 179), (50, 190), (60, 207), (70, 218), (80, 229)], 107) := by decide +kernel
theorem d_Ways_run_108 : decode me_Ways_run.2.1 108 = .ok (.iload_n 2, 1) := by decide +kernel
theorem d_Ways_run_109 : decode me_Ways_run.2.1 109 = .ok (.aload_n 0, 1) := by decide +kernel
theorem d_Ways_run_110 : decode me_Ways_run.2.1 110 = .ok (.getfield 25, 3) := by decide +kernel
theorem d_Ways_run_113 : decode me_Ways_run.2.1 113 = .ok (.iadd, 1) := by decide +kernel
theorem d_Ways_run_114 : decode me_Ways_run.2.1 114 = .ok (.ireturn, 1) := by decide +kernel
theorem d_Ways_run_115 : decode me_Ways_run.2.1 115 = .ok (.aload_n 0, 1) := by decide +kernel
theorem d_Ways_run_116 : decode me_Ways_run.2.1 116 = .ok (.iconst 1, 1) := by decide +kernel
theorem d_Ways_run_117 : decode me_Ways_run.2.1 117 = .ok (.iload_n 2, 1) := by decide +kernel
theorem d_Ways_run_118 : decode me_Ways_run.2.1 118 = .ok (.iload_n 3, 1) := by decide +kernel
theorem d_Ways_run_119 : decode me_Ways_run.2.1 119 = .ok (.invokevirtual 41, 3) := by decide +kernel
theorem d_Ways_run_122 : decode me_Ways_run.2.1 122 = .ok (.aload_n 0, 1) := by decide +kernel
theorem d_Ways_run_123 : decode me_Ways_run.2.1 123 = .ok (.iconst 2, 1) := by decide +kernel
theorem d_Ways_run_124 : decode me_Ways_run.2.1 124 = .ok (.iconst 1, 1) := by decide +kernel
theorem d_Ways_run_125 : decode me_Ways_run.2.1 125 = .ok (.iload_n 3, 1) := by decide +kernel
theorem d_Ways_run_126 : decode me_Ways_run.2.1 126 = .ok (.invokevirtual 41, 3) := by decide +kernel
theorem d_Ways_run_129 : decode me_Ways_run.2.1 129 = .ok (.isub, 1) := by decide +kernel
theorem d_Ways_run_130 : decode me_Ways_run.2.1 130 = .ok (.ireturn, 1) := by decide +kernel
theorem d_Ways_run_131 : decode me_Ways_run.2.1 131 = .ok (.aload_n 0, 1) := by decide +kernel
theorem d_Ways_run_132 : decode me_Ways_run.2.1 132 = .ok (.iconst 0, 1) := by decide +kernel
theorem d_Ways_run_133 : decode me_Ways_run.2.1 133 = .ok (.iload_n 2, 1) := by decide +kernel
theorem d_Ways_run_134 : decode me_Ways_run.2.1 134 = .ok (.iload_n 3, 1) := by decide +kernel
theorem d_Ways_run_135 : decode me_Ways_run.2.1 135 = .ok (.invokevirtual 41, 3) := by decide +kernel
theorem d_Ways_run_138 : decode me_Ways_run.2.1 138 = .ok (.iconst 2, 1) := by decide +kernel
theorem d_Ways_run_139 : decode me_Ways_run.2.1 139 = .ok (.imul, 1) := by decide +kernel
theorem d_Ways_run_140 : decode me_Ways_run.2.1 140 = .ok (.ireturn, 1) := by decide +kernel
theorem d_Ways_run_141 : decode me_Ways_run.2.1 141 = .ok (.iload_n 2, 1) := by decide +kernel
theorem d_Ways_run_142 : decode me_Ways_run.2.1 142 = .ok (.aload_n 0, 1) := by decide +kernel
theorem d_Ways_run_143 : decode me_Ways_run.2.1 143 = .ok (.getfield 25, 3) := by decide +kernel
theorem d_Ways_run_146 : decode me_Ways_run.2.1 146 = .ok (.ixor, 1) := by decide +kernel
theorem d_Ways_run_147 : decode me_Ways_run.2.1 147 = .ok (.ireturn, 1) := by decide +kernel
theorem d_Ways_run_148 : decode me_Ways_run.2.1 148 = .ok (.aload_n 0, 1) := by decide +kernel
theorem d_Ways_run_149 : decode me_Ways_run.2.1 149 = .ok (.iconst 0, 1) := by decide +kernel
theorem d_Ways_run_150 : decode me_Ways_run.2.1 150 = .ok (.iconst 0, 1) := by decide +kernel
theorem d_Ways_run_151 : decode me_Ways_run.2.1 151 = .ok (.iload_n 2, 1) := by decide +kernel
theorem d_Ways_run_152 : decode me_Ways_run.2.1 152 = .ok (.iload_n 3, 1) := by decide +kernel
theorem d_Ways_run_153 : decode me_Ways_run.2.1 153 = .ok (.invokevirtual 45, 3) := by decide +kernel
theorem d_Ways_run_156 : decode me_Ways_run.2.1 156 = .ok (.iconst 3, 1) := by decide +kernel
theorem d_Ways_run_157 : decode me_Ways_run.2.1 157 = .ok (.iadd, 1) := by decide +kernel
theorem d_Ways_run_158 : decode me_Ways_run.2.1 158 = .ok (.ireturn, 1) := by decide +kernel
theorem d_Ways_run_159 : decode me_Ways_run.2.1 159 = .ok (.aload_n 0, 1) := by decide +kernel
theorem d_Ways_run_160 : decode me_Ways_run.2.1 160 = .ok (.iconst 0, 1) := by decide +kernel
theorem d_Ways_run_161 : decode me_Ways_run.2.1 161 = .ok (.iconst 1, 1) := by decide +kernel
theorem d_Ways_run_162 : decode me_Ways_run.2.1 162 = .ok (.iload_n 2, 1) := by decide +kernel
theorem d_Ways_run_163 : decode me_Ways_run.2.1 163 = .ok (.iload_n 3, 1) := by decide +kernel
theorem d_Ways_run_164 : decode me_Ways_run.2.1 164 = .ok (.invokevirtual 45, 3) := by decide +kernel
theorem d_Ways_run_167 : decode me_Ways_run.2.1 167 = .ok (.ineg, 1) := by decide +kernel
theorem d_Ways_run_168 : decode me_Ways_run.2.1 168 = .ok (.ireturn, 1) := by decide +kernel
theorem d_Ways_run_169 : decode me_Ways_run.2.1 169 = .ok (.aload_n 0, 1) := by decide +kernel
theorem d_Ways_run_170 : decode me_Ways_run.2.1 170 = .ok (.iconst 2, 1) := by decide +kernel
theorem d_Ways_run_171 : decode me_Ways_run.2.1 171 = .ok (.iconst 2, 1) := by decide +kernel
theorem d_Ways_run_172 : decode me_Ways_run.2.1 172 = .ok (.iload_n 2, 1) := by decide +kernel
theorem d_Ways_run_173 : decode me_Ways_run.2.1 173 = .ok (.iload_n 3, 1) := by decide +kernel
theorem d_Ways_run_174 : decode me_Ways_run.2.1 174 = .ok (.invokevirtual 45, 3) := by decide +kernel
theorem d_Ways_run_177 : decode me_Ways_run.2.1 177 = .ok (.iconst 3, 1) := by decide +kernel
theorem d_Ways_run_178 : decode me_Ways_run.2.1 178 = .ok (.imul, 1) := by decide +kernel
theorem d_Ways_run_179 : decode me_Ways_run.2.1 179 = .ok (.ireturn, 1) := by decide +kernel
theorem d_Ways_run_180 : decode me_Ways_run.2.1 180 = .ok (.aload_n 0, 1) := by decide +kernel
theorem d_Ways_run_181 : decode me_Ways_run.2.1 181 = .ok (.iconst 2, 1) := by decide +kernel
theorem d_Ways_run_182 : decode me_Ways_run.2.1 182 = .ok (.iconst 1, 1) := by decide +kernel
theorem d_Ways_run_183 : decode me_Ways_run.2.1 183 = .ok (.iload_n 2, 1) := by decide +kernel
theorem d_Ways_run_184 : decode me_Ways_run.2.1 184 = .ok (.iconst 1, 1) := by decide +kernel
theorem d_Ways_run_185 : decode me_Ways_run.2.1 185 = .ok (.iadd, 1) := by decide +kernel
theorem d_Ways_run_186 : decode me_Ways_run.2.1 186 = .ok (.iload_n 3, 1) := by decide +kernel
theorem d_Ways_run_187 : decode me_Ways_run.2.1 187 = .ok (.invokevirtual 45, 3) := by decide +kernel
theorem d_Ways_run_190 : decode me_Ways_run.2.1 190 = .ok (.ireturn, 1) := by decide +kernel
theorem d_Ways_run_191 : decode me_Ways_run.2.1 191 = .ok (.aload_n 0, 1) := by decide +kernel
theorem d_Ways_run_192 : decode me_Ways_run.2.1 192 = .ok (.iconst 1, 1) := by decide +kernel
theorem d_Ways_run_193 : decode me_Ways_run.2.1 193 = .ok (.iconst 2, 1) := by decide +kernel
theorem d_Ways_run_194 : decode me_Ways_run.2.1 194 = .ok (.iload_n 2, 1) := by decide +kernel
theorem d_Ways_run_195 : decode me_Ways_run.2.1 195 = .ok (.iload_n 3, 1) := by decide +kernel
theorem d_Ways_run_196 : decode me_Ways_run.2.1 196 = .ok (.invokevirtual 45, 3) := by decide +kernel
theorem d_Ways_run_199 : decode me_Ways_run.2.1 199 = .ok (.aload_n 0, 1) := by decide +kernel
theorem d_Ways_run_200 : decode me_Ways_run.2.1 200 = .ok (.iconst 0, 1) := by decide +kernel
theorem d_Ways_run_201 : decode me_Ways_run.2.1 201 = .ok (.iconst 2, 1) := by decide +kernel
theorem d_Ways_run_202 : decode me_Ways_run.2.1 202 = .ok (.iload_n 3, 1) := by decide +kernel
theorem d_Ways_run_203 : decode me_Ways_run.2.1 203 = .ok (.invokevirtual 41, 3) := by decide +kernel
theorem d_Ways_run_206 : decode me_Ways_run.2.1 206 = .ok (.isub, 1) := by decide +kernel
theorem d_Ways_run_207 : decode me_Ways_run.2.1 207 = .ok (.ireturn, 1) := by decide +kernel
theorem d_Ways_run_208 : decode me_Ways_run.2.1 208 = .ok (.aload_n 0, 1) := by decide +kernel
theorem d_Ways_run_209 : decode me_Ways_run.2.1 209 = .ok (.iconst 3, 1) := by decide +kernel
theorem d_Ways_run_210 : decode me_Ways_run.2.1 210 = .ok (.iconst 3, 1) := by decide +kernel
theorem d_Ways_run_211 : decode me_Ways_run.2.1 211 = .ok (.iload_n 2, 1) := by decide +kernel
theorem d_Ways_run_212 : decode me_Ways_run.2.1 212 = .ok (.iload_n 3, 1) := by decide +kernel
theorem d_Ways_run_213 : decode me_Ways_run.2.1 213 = .ok (.invokevirtual 45, 3) := by decide +kernel
theorem d_Ways_run_216 : decode me_Ways_run.2.1 216 = .ok (.iconst 5, 1) := by decide +kernel
theorem d_Ways_run_217 : decode me_Ways_run.2.1 217 = .ok (.ixor, 1) := by decide +kernel
theorem d_Ways_run_218 : decode me_Ways_run.2.1 218 = .ok (.ireturn, 1) := by decide +kernel
theorem d_Ways_run_219 : decode me_Ways_run.2.1 219 = .ok (.aload_n 0, 1) := by decide +kernel
theorem d_Ways_run_220 : decode me_Ways_run.2.1 220 = .ok (.iconst 0, 1) := by decide +kernel
theorem d_Ways_run_221 : decode me_Ways_run.2.1 221 = .ok (.iconst 0, 1) := by decide +kernel
theorem d_Ways_run_222 : decode me_Ways_run.2.1 222 = .ok (.iload_n 2, 1) := by decide +kernel
theorem d_Ways_run_223 : decode me_Ways_run.2.1 223 = .ok (.iload_n 3, 1) := by decide +kernel
theorem d_Ways_run_224 : decode me_Ways_run.2.1 224 = .ok (.invokevirtual 45, 3) := by decide +kernel
theorem d_Ways_run_227 : decode me_Ways_run.2.1 227 = .ok (.iconst 2, 1) := by decide +kernel
theorem d_Ways_run_228 : decode me_Ways_run.2.1 228 = .ok (.imul, 1) := by decide +kernel
theorem d_Ways_run_229 : decode me_Ways_run.2.1 229 = .ok (.ireturn, 1) := by decide +kernel
theorem d_Ways_run_230 : decode me_Ways_run.2.1 230 = .ok (.aload_n 0, 1) := by decide +kernel
theorem d_Ways_run_231 : decode me_Ways_run.2.1 231 = .ok (.iconst 4, 1) := by decide +kernel
theorem d_Ways_run_232 : decode me_Ways_run.2.1 232 = .ok (.iconst 1, 1) := by decide +kernel
theorem d_Ways_run_233 : decode me_Ways_run.2.1 233 = .ok (.iload_n 2, 1) := by decide +kernel
theorem d_Ways_run_234 : decode me_Ways_run.2.1 234 = .ok (.iload_n 3, 1) := by decide +kernel
theorem d_Ways_run_235 : decode me_Ways_run.2.1 235 = .ok (.invokevirtual 45, 3) := by decide +kernel
theorem d_Ways_run_238 : decode me_Ways_run.2.1 238 = .ok (.aload_n 0, 1) := by decide +kernel
theorem d_Ways_run_239 : decode me_Ways_run.2.1 239 = .ok (.iconst 2, 1) := by decide +kernel
theorem d_Ways_run_240 : decode me_Ways_run.2.1 240 = .ok (.iconst 2, 1) := by decide +kernel
theorem d_Ways_run_241 : decode me_Ways_run.2.1 241 = .ok (.iload_n 3, 1) := by decide +kernel
theorem d_Ways_run_242 : decode me_Ways_run.2.1 242 = .ok (.invokevirtual 41, 3) := by decide +kernel
theorem d_Ways_run_245 : decode me_Ways_run.2.1 245 = .ok (.iadd, 1) := by decide +kernel
theorem d_Ways_run_246 : decode me_Ways_run.2.1 246 = .ok (.ireturn, 1) := by decide +kernel
theorem d_Ways_run_247 : decode me_Ways_run.2.1 247 = .ok (.aload_n 0, 1) := by decide +kernel
theorem d_Ways_run_248 : decode me_Ways_run.2.1 248 = .ok (.iconst 4, 1) := by decide +kernel
theorem d_Ways_run_249 : decode me_Ways_run.2.1 249 = .ok (.iconst 3, 1) := by decide +kernel
theorem d_Ways_run_250 : decode me_Ways_run.2.1 250 = .ok (.iload_n 2, 1) := by decide +kernel
theorem d_Ways_run_251 : decode me_Ways_run.2.1 251 = .ok (.iload_n 3, 1) := by decide +kernel
theorem d_Ways_run_252 : decode me_Ways_run.2.1 252 = .ok (.invokevirtual 45, 3) := by decide +kernel
theorem d_Ways_run_255 : decode me_Ways_run.2.1 255 = .ok (.iconst 1, 1) := by decide +kernel
theorem d_Ways_run_256 : decode me_Ways_run.2.1 256 = .ok (.isub, 1) := by decide +kernel
theorem d_Ways_run_257 : decode me_Ways_run.2.1 257 = .ok (.ireturn, 1) := by decide +kernel
noncomputable def f_Ways_run_0 (q_Ways_run : Int32 → Int32 → Int32 → gk_M → Option (Int32 × gk_M)) (q_Ways_from : Int32 → Int32 → Int32 → Int32 → gk_M → Option (Int32 × gk_M)) (q_Ways_own : Int32 → Int32 → Int32 → gk_M → Option (Int32 × gk_M)) (a1 : Int32) (a2 : Int32) (a3 : Int32) (m0 : gk_M) : Option (Int32 × gk_M) :=
  if a1 = 1 then
    some ((a2 + (m0.1 37 4)), m0)
  else
    if a1 = 2 then
      gk_bi (q_Ways_own 1 a2 a3 m0) fun v4 m3 =>
      gk_bi (q_Ways_own 2 1 a3 m3) fun v6 m5 =>
      some ((v4 - v6), m5)
    else
      if a1 = 10 then
        gk_bi (q_Ways_own 0 a2 a3 m0) fun v9 m8 =>
        some ((v9 * 2), m8)
      else
        if a1 = 11 then
          some ((a2 ^^^ (m0.1 37 4)), m0)
        else
          if a1 = 20 then
            gk_bi (q_Ways_from 0 0 a2 a3 m0) fun v13 m12 =>
            some ((v13 + 3), m12)
          else
            if a1 = 30 then
              gk_bi (q_Ways_from 0 1 a2 a3 m0) fun v16 m15 =>
              some ((-v16), m15)
            else
              if a1 = 40 then
                gk_bi (q_Ways_from 2 2 a2 a3 m0) fun v19 m18 =>
                some ((v19 * 3), m18)
              else
                if a1 = 41 then
                  gk_bi (q_Ways_from 2 1 (a2 + 1) a3 m0) fun v22 m21 =>
                  some (v22, m21)
                else
                  if a1 = 50 then
                    gk_bi (q_Ways_from 1 2 a2 a3 m0) fun v25 m24 =>
                    gk_bi (q_Ways_own 0 2 a3 m24) fun v27 m26 =>
                    some ((v25 - v27), m26)
                  else
                    if a1 = 60 then
                      gk_bi (q_Ways_from 3 3 a2 a3 m0) fun v30 m29 =>
                      some ((v30 ^^^ 5), m29)
                    else
                      if a1 = 70 then
                        gk_bi (q_Ways_from 0 0 a2 a3 m0) fun v33 m32 =>
                        some ((v33 * 2), m32)
                      else
                        if a1 = 80 then
                          gk_bi (q_Ways_from 4 1 a2 a3 m0) fun v36 m35 =>
                          gk_bi (q_Ways_own 2 2 a3 m35) fun v38 m37 =>
                          some ((v36 + v38), m37)
                        else
                          gk_bi (q_Ways_from 4 3 a2 a3 m0) fun v40 m39 =>
                          some ((v40 - 1), m39)

theorem s_Ways_run_0 {z : gk_Z} {dd : Nat} (K : gk_F tx z me_Ways_run (1 + (dd + 1))) {r : Int32} {mem2 : gk_M} (q_Ways_run : Int32 → Int32 → Int32 → gk_M → Option (Int32 × gk_M)) (q_Ways_from : Int32 → Int32 → Int32 → Int32 → gk_M → Option (Int32 × gk_M)) (q_Ways_own : Int32 → Int32 → Int32 → gk_M → Option (Int32 × gk_M)) (hq_Ways_run : ∀ b0 b1 b2 mem r mem2, q_Ways_run b0 b1 b2 mem = some (r, mem2) → gk_C tx (gk_zl z) (gk_zu z) me_Ways_run (1 + dd) [.ref 37, .int b0, .int b1, .int b2] mem (some (.int r)) mem2) (hq_Ways_from : ∀ b0 b1 b2 b3 mem r mem2, q_Ways_from b0 b1 b2 b3 mem = some (r, mem2) → gk_C tx (gk_zl z) (gk_zu z) me_Ways_from (1 + dd) [.ref 37, .int b0, .int b1, .int b2, .int b3] mem (some (.int r)) mem2) (hq_Ways_own : ∀ b0 b1 b2 mem r mem2, q_Ways_own b0 b1 b2 mem = some (r, mem2) → gk_C tx (gk_zl z) (gk_zu z) me_Ways_own (1 + dd) [.ref 37, .int b0, .int b1, .int b2] mem (some (.int r)) mem2) : ∀ a1 a2 a3 m0, f_Ways_run_0 q_Ways_run q_Ways_from q_Ways_own a1 a2 a3 m0 = some (r, mem2) → gk_G tx z me_Ways_run (gk_R tx z (some (.int r)) mem2) m0 [(0, .ref 37), (1, .int a1), (2, .int a2), (3, .int a3)] [] 0 := by
  intro a1 a2 a3 m0  h
  unfold f_Ways_run_0 at h
  refine gk_iload_n (pc := 0) K d_Ways_run_0 rfl ?_
  refine gk_ite (c := a1 = 1) h (fun c1 h => ?_) (fun c1 h => ?_)
  · refine gk_lk (off := 107) (tgt := 108) (pc := 1) K d_Ways_run_1 rfl (by subst c1; rfl) (by decide) ?_
    refine gk_iload_n (pc := 108) K d_Ways_run_108 rfl ?_
    refine gk_aload_n (pc := 109) K d_Ways_run_109 rfl ?_
    refine gk_get (pc := 110) K d_Ways_run_110 fl_Ways_25 tx_37 rfl rfl ?_
    refine gk_iadd (pc := 113) K d_Ways_run_113 ?_
    exact gk_iret (pc := 114) K d_Ways_run_114 rfl h
  · skip
    refine gk_ite (c := a1 = 2) h (fun c2 h => ?_) (fun c2 h => ?_)
    · refine gk_lk (off := 114) (tgt := 115) (pc := 1) K d_Ways_run_1 rfl (by subst c2; rfl) (by decide) ?_
      refine gk_aload_n (pc := 115) K d_Ways_run_115 rfl ?_
      refine gk_iconst (pc := 116) K d_Ways_run_116 kc_1 ?_
      refine gk_iload_n (pc := 117) K d_Ways_run_117 rfl ?_
      refine gk_iload_n (pc := 118) K d_Ways_run_118 rfl ?_
      obtain ⟨v4, m3, em3, h⟩ := gk_bi_some h
      refine gk_cVi (As := [.int 1, .int a2, .int a3]) (pc := 119) K d_Ways_run_119 mv_Ways_41 mc_Ways_own rfl tx_37 cl_ok7.1 (hq_Ways_own _ _ _ _ _ _ em3) (by omega) rfl (Nat.le_of_ble_eq_true rfl) ?_
      refine gk_aload_n (pc := 122) K d_Ways_run_122 rfl ?_
      refine gk_iconst (pc := 123) K d_Ways_run_123 kc_2 ?_
      refine gk_iconst (pc := 124) K d_Ways_run_124 kc_1 ?_
      refine gk_iload_n (pc := 125) K d_Ways_run_125 rfl ?_
      obtain ⟨v6, m5, em5, h⟩ := gk_bi_some h
      refine gk_cVi (As := [.int 2, .int 1, .int a3]) (pc := 126) K d_Ways_run_126 mv_Ways_41 mc_Ways_own rfl tx_37 cl_ok7.1 (hq_Ways_own _ _ _ _ _ _ em5) (by omega) rfl (Nat.le_of_ble_eq_true rfl) ?_
      refine gk_isub (pc := 129) K d_Ways_run_129 ?_
      exact gk_iret (pc := 130) K d_Ways_run_130 rfl h
    · skip
      refine gk_ite (c := a1 = 10) h (fun c7 h => ?_) (fun c7 h => ?_)
      · refine gk_lk (off := 130) (tgt := 131) (pc := 1) K d_Ways_run_1 rfl (by subst c7; rfl) (by decide) ?_
        refine gk_aload_n (pc := 131) K d_Ways_run_131 rfl ?_
        refine gk_iconst (pc := 132) K d_Ways_run_132 kc_0 ?_
        refine gk_iload_n (pc := 133) K d_Ways_run_133 rfl ?_
        refine gk_iload_n (pc := 134) K d_Ways_run_134 rfl ?_
        obtain ⟨v9, m8, em8, h⟩ := gk_bi_some h
        refine gk_cVi (As := [.int 0, .int a2, .int a3]) (pc := 135) K d_Ways_run_135 mv_Ways_41 mc_Ways_own rfl tx_37 cl_ok7.1 (hq_Ways_own _ _ _ _ _ _ em8) (by omega) rfl (Nat.le_of_ble_eq_true rfl) ?_
        refine gk_iconst (pc := 138) K d_Ways_run_138 kc_2 ?_
        refine gk_imul (pc := 139) K d_Ways_run_139 ?_
        exact gk_iret (pc := 140) K d_Ways_run_140 rfl h
      · skip
        refine gk_ite (c := a1 = 11) h (fun c10 h => ?_) (fun c10 h => ?_)
        · refine gk_lk (off := 140) (tgt := 141) (pc := 1) K d_Ways_run_1 rfl (by subst c10; rfl) (by decide) ?_
          refine gk_iload_n (pc := 141) K d_Ways_run_141 rfl ?_
          refine gk_aload_n (pc := 142) K d_Ways_run_142 rfl ?_
          refine gk_get (pc := 143) K d_Ways_run_143 fl_Ways_25 tx_37 rfl rfl ?_
          refine gk_ixor (pc := 146) K d_Ways_run_146 ?_
          exact gk_iret (pc := 147) K d_Ways_run_147 rfl h
        · skip
          refine gk_ite (c := a1 = 20) h (fun c11 h => ?_) (fun c11 h => ?_)
          · refine gk_lk (off := 147) (tgt := 148) (pc := 1) K d_Ways_run_1 rfl (by subst c11; rfl) (by decide) ?_
            refine gk_aload_n (pc := 148) K d_Ways_run_148 rfl ?_
            refine gk_iconst (pc := 149) K d_Ways_run_149 kc_0 ?_
            refine gk_iconst (pc := 150) K d_Ways_run_150 kc_0 ?_
            refine gk_iload_n (pc := 151) K d_Ways_run_151 rfl ?_
            refine gk_iload_n (pc := 152) K d_Ways_run_152 rfl ?_
            obtain ⟨v13, m12, em12, h⟩ := gk_bi_some h
            refine gk_cVi (As := [.int 0, .int 0, .int a2, .int a3]) (pc := 153) K d_Ways_run_153 mv_Ways_45 mc_Ways_from rfl tx_37 cl_ok7.1 (hq_Ways_from _ _ _ _ _ _ _ em12) (by omega) rfl (Nat.le_of_ble_eq_true rfl) ?_
            refine gk_iconst (pc := 156) K d_Ways_run_156 kc_3 ?_
            refine gk_iadd (pc := 157) K d_Ways_run_157 ?_
            exact gk_iret (pc := 158) K d_Ways_run_158 rfl h
          · skip
            refine gk_ite (c := a1 = 30) h (fun c14 h => ?_) (fun c14 h => ?_)
            · refine gk_lk (off := 158) (tgt := 159) (pc := 1) K d_Ways_run_1 rfl (by subst c14; rfl) (by decide) ?_
              refine gk_aload_n (pc := 159) K d_Ways_run_159 rfl ?_
              refine gk_iconst (pc := 160) K d_Ways_run_160 kc_0 ?_
              refine gk_iconst (pc := 161) K d_Ways_run_161 kc_1 ?_
              refine gk_iload_n (pc := 162) K d_Ways_run_162 rfl ?_
              refine gk_iload_n (pc := 163) K d_Ways_run_163 rfl ?_
              obtain ⟨v16, m15, em15, h⟩ := gk_bi_some h
              refine gk_cVi (As := [.int 0, .int 1, .int a2, .int a3]) (pc := 164) K d_Ways_run_164 mv_Ways_45 mc_Ways_from rfl tx_37 cl_ok7.1 (hq_Ways_from _ _ _ _ _ _ _ em15) (by omega) rfl (Nat.le_of_ble_eq_true rfl) ?_
              refine gk_ineg (pc := 167) K d_Ways_run_167 ?_
              exact gk_iret (pc := 168) K d_Ways_run_168 rfl h
            · skip
              refine gk_ite (c := a1 = 40) h (fun c17 h => ?_) (fun c17 h => ?_)
              · refine gk_lk (off := 168) (tgt := 169) (pc := 1) K d_Ways_run_1 rfl (by subst c17; rfl) (by decide) ?_
                refine gk_aload_n (pc := 169) K d_Ways_run_169 rfl ?_
                refine gk_iconst (pc := 170) K d_Ways_run_170 kc_2 ?_
                refine gk_iconst (pc := 171) K d_Ways_run_171 kc_2 ?_
                refine gk_iload_n (pc := 172) K d_Ways_run_172 rfl ?_
                refine gk_iload_n (pc := 173) K d_Ways_run_173 rfl ?_
                obtain ⟨v19, m18, em18, h⟩ := gk_bi_some h
                refine gk_cVi (As := [.int 2, .int 2, .int a2, .int a3]) (pc := 174) K d_Ways_run_174 mv_Ways_45 mc_Ways_from rfl tx_37 cl_ok7.1 (hq_Ways_from _ _ _ _ _ _ _ em18) (by omega) rfl (Nat.le_of_ble_eq_true rfl) ?_
                refine gk_iconst (pc := 177) K d_Ways_run_177 kc_3 ?_
                refine gk_imul (pc := 178) K d_Ways_run_178 ?_
                exact gk_iret (pc := 179) K d_Ways_run_179 rfl h
              · skip
                refine gk_ite (c := a1 = 41) h (fun c20 h => ?_) (fun c20 h => ?_)
                · refine gk_lk (off := 179) (tgt := 180) (pc := 1) K d_Ways_run_1 rfl (by subst c20; rfl) (by decide) ?_
                  refine gk_aload_n (pc := 180) K d_Ways_run_180 rfl ?_
                  refine gk_iconst (pc := 181) K d_Ways_run_181 kc_2 ?_
                  refine gk_iconst (pc := 182) K d_Ways_run_182 kc_1 ?_
                  refine gk_iload_n (pc := 183) K d_Ways_run_183 rfl ?_
                  refine gk_iconst (pc := 184) K d_Ways_run_184 kc_1 ?_
                  refine gk_iadd (pc := 185) K d_Ways_run_185 ?_
                  refine gk_iload_n (pc := 186) K d_Ways_run_186 rfl ?_
                  obtain ⟨v22, m21, em21, h⟩ := gk_bi_some h
                  refine gk_cVi (As := [.int 2, .int 1, .int (a2 + 1), .int a3]) (pc := 187) K d_Ways_run_187 mv_Ways_45 mc_Ways_from rfl tx_37 cl_ok7.1 (hq_Ways_from _ _ _ _ _ _ _ em21) (by omega) rfl (Nat.le_of_ble_eq_true rfl) ?_
                  exact gk_iret (pc := 190) K d_Ways_run_190 rfl h
                · skip
                  refine gk_ite (c := a1 = 50) h (fun c23 h => ?_) (fun c23 h => ?_)
                  · refine gk_lk (off := 190) (tgt := 191) (pc := 1) K d_Ways_run_1 rfl (by subst c23; rfl) (by decide) ?_
                    refine gk_aload_n (pc := 191) K d_Ways_run_191 rfl ?_
                    refine gk_iconst (pc := 192) K d_Ways_run_192 kc_1 ?_
                    refine gk_iconst (pc := 193) K d_Ways_run_193 kc_2 ?_
                    refine gk_iload_n (pc := 194) K d_Ways_run_194 rfl ?_
                    refine gk_iload_n (pc := 195) K d_Ways_run_195 rfl ?_
                    obtain ⟨v25, m24, em24, h⟩ := gk_bi_some h
                    refine gk_cVi (As := [.int 1, .int 2, .int a2, .int a3]) (pc := 196) K d_Ways_run_196 mv_Ways_45 mc_Ways_from rfl tx_37 cl_ok7.1 (hq_Ways_from _ _ _ _ _ _ _ em24) (by omega) rfl (Nat.le_of_ble_eq_true rfl) ?_
                    refine gk_aload_n (pc := 199) K d_Ways_run_199 rfl ?_
                    refine gk_iconst (pc := 200) K d_Ways_run_200 kc_0 ?_
                    refine gk_iconst (pc := 201) K d_Ways_run_201 kc_2 ?_
                    refine gk_iload_n (pc := 202) K d_Ways_run_202 rfl ?_
                    obtain ⟨v27, m26, em26, h⟩ := gk_bi_some h
                    refine gk_cVi (As := [.int 0, .int 2, .int a3]) (pc := 203) K d_Ways_run_203 mv_Ways_41 mc_Ways_own rfl tx_37 cl_ok7.1 (hq_Ways_own _ _ _ _ _ _ em26) (by omega) rfl (Nat.le_of_ble_eq_true rfl) ?_
                    refine gk_isub (pc := 206) K d_Ways_run_206 ?_
                    exact gk_iret (pc := 207) K d_Ways_run_207 rfl h
                  · skip
                    refine gk_ite (c := a1 = 60) h (fun c28 h => ?_) (fun c28 h => ?_)
                    · refine gk_lk (off := 207) (tgt := 208) (pc := 1) K d_Ways_run_1 rfl (by subst c28; rfl) (by decide) ?_
                      refine gk_aload_n (pc := 208) K d_Ways_run_208 rfl ?_
                      refine gk_iconst (pc := 209) K d_Ways_run_209 kc_3 ?_
                      refine gk_iconst (pc := 210) K d_Ways_run_210 kc_3 ?_
                      refine gk_iload_n (pc := 211) K d_Ways_run_211 rfl ?_
                      refine gk_iload_n (pc := 212) K d_Ways_run_212 rfl ?_
                      obtain ⟨v30, m29, em29, h⟩ := gk_bi_some h
                      refine gk_cVi (As := [.int 3, .int 3, .int a2, .int a3]) (pc := 213) K d_Ways_run_213 mv_Ways_45 mc_Ways_from rfl tx_37 cl_ok7.1 (hq_Ways_from _ _ _ _ _ _ _ em29) (by omega) rfl (Nat.le_of_ble_eq_true rfl) ?_
                      refine gk_iconst (pc := 216) K d_Ways_run_216 kc_5 ?_
                      refine gk_ixor (pc := 217) K d_Ways_run_217 ?_
                      exact gk_iret (pc := 218) K d_Ways_run_218 rfl h
                    · skip
                      refine gk_ite (c := a1 = 70) h (fun c31 h => ?_) (fun c31 h => ?_)
                      · refine gk_lk (off := 218) (tgt := 219) (pc := 1) K d_Ways_run_1 rfl (by subst c31; rfl) (by decide) ?_
                        refine gk_aload_n (pc := 219) K d_Ways_run_219 rfl ?_
                        refine gk_iconst (pc := 220) K d_Ways_run_220 kc_0 ?_
                        refine gk_iconst (pc := 221) K d_Ways_run_221 kc_0 ?_
                        refine gk_iload_n (pc := 222) K d_Ways_run_222 rfl ?_
                        refine gk_iload_n (pc := 223) K d_Ways_run_223 rfl ?_
                        obtain ⟨v33, m32, em32, h⟩ := gk_bi_some h
                        refine gk_cVi (As := [.int 0, .int 0, .int a2, .int a3]) (pc := 224) K d_Ways_run_224 mv_Ways_45 mc_Ways_from rfl tx_37 cl_ok7.1 (hq_Ways_from _ _ _ _ _ _ _ em32) (by omega) rfl (Nat.le_of_ble_eq_true rfl) ?_
                        refine gk_iconst (pc := 227) K d_Ways_run_227 kc_2 ?_
                        refine gk_imul (pc := 228) K d_Ways_run_228 ?_
                        exact gk_iret (pc := 229) K d_Ways_run_229 rfl h
                      · skip
                        refine gk_ite (c := a1 = 80) h (fun c34 h => ?_) (fun c34 h => ?_)
                        · refine gk_lk (off := 229) (tgt := 230) (pc := 1) K d_Ways_run_1 rfl (by subst c34; rfl) (by decide) ?_
                          refine gk_aload_n (pc := 230) K d_Ways_run_230 rfl ?_
                          refine gk_iconst (pc := 231) K d_Ways_run_231 kc_4 ?_
                          refine gk_iconst (pc := 232) K d_Ways_run_232 kc_1 ?_
                          refine gk_iload_n (pc := 233) K d_Ways_run_233 rfl ?_
                          refine gk_iload_n (pc := 234) K d_Ways_run_234 rfl ?_
                          obtain ⟨v36, m35, em35, h⟩ := gk_bi_some h
                          refine gk_cVi (As := [.int 4, .int 1, .int a2, .int a3]) (pc := 235) K d_Ways_run_235 mv_Ways_45 mc_Ways_from rfl tx_37 cl_ok7.1 (hq_Ways_from _ _ _ _ _ _ _ em35) (by omega) rfl (Nat.le_of_ble_eq_true rfl) ?_
                          refine gk_aload_n (pc := 238) K d_Ways_run_238 rfl ?_
                          refine gk_iconst (pc := 239) K d_Ways_run_239 kc_2 ?_
                          refine gk_iconst (pc := 240) K d_Ways_run_240 kc_2 ?_
                          refine gk_iload_n (pc := 241) K d_Ways_run_241 rfl ?_
                          obtain ⟨v38, m37, em37, h⟩ := gk_bi_some h
                          refine gk_cVi (As := [.int 2, .int 2, .int a3]) (pc := 242) K d_Ways_run_242 mv_Ways_41 mc_Ways_own rfl tx_37 cl_ok7.1 (hq_Ways_own _ _ _ _ _ _ em37) (by omega) rfl (Nat.le_of_ble_eq_true rfl) ?_
                          refine gk_iadd (pc := 245) K d_Ways_run_245 ?_
                          exact gk_iret (pc := 246) K d_Ways_run_246 rfl h
                        · skip
                          refine gk_lk (off := 246) (tgt := 247) (pc := 1) K d_Ways_run_1 rfl ((lv_osw c1 (by decide)).trans ((lv_osw c2 (by decide)).trans ((lv_osw c7 (by decide)).trans ((lv_osw c10 (by decide)).trans ((lv_osw c11 (by decide)).trans ((lv_osw c14 (by decide)).trans ((lv_osw c17 (by decide)).trans ((lv_osw c20 (by decide)).trans ((lv_osw c23 (by decide)).trans ((lv_osw c28 (by decide)).trans ((lv_osw c31 (by decide)).trans ((lv_osw c34 (by decide)).trans (rfl))))))))))))) (by decide) ?_
                          refine gk_aload_n (pc := 247) K d_Ways_run_247 rfl ?_
                          refine gk_iconst (pc := 248) K d_Ways_run_248 kc_4 ?_
                          refine gk_iconst (pc := 249) K d_Ways_run_249 kc_3 ?_
                          refine gk_iload_n (pc := 250) K d_Ways_run_250 rfl ?_
                          refine gk_iload_n (pc := 251) K d_Ways_run_251 rfl ?_
                          obtain ⟨v40, m39, em39, h⟩ := gk_bi_some h
                          refine gk_cVi (As := [.int 4, .int 3, .int a2, .int a3]) (pc := 252) K d_Ways_run_252 mv_Ways_45 mc_Ways_from rfl tx_37 cl_ok7.1 (hq_Ways_from _ _ _ _ _ _ _ em39) (by omega) rfl (Nat.le_of_ble_eq_true rfl) ?_
                          refine gk_iconst (pc := 255) K d_Ways_run_255 kc_1 ?_
                          refine gk_isub (pc := 256) K d_Ways_run_256 ?_
                          exact gk_iret (pc := 257) K d_Ways_run_257 rfl h
theorem d_Ways_from_0 : decode me_Ways_from.2.1 0 = .ok (.iload_n 1, 1) := by decide +kernel
theorem d_Ways_from_1 : decode me_Ways_from.2.1 1 = .ok (.istore 5, 2) := by decide +kernel
theorem d_Ways_from_3 : decode me_Ways_from.2.1 3 = .ok (.iconst 0, 1) := by decide +kernel
theorem d_Ways_from_4 : decode me_Ways_from.2.1 4 = .ok (.istore 6, 2) := by decide +kernel
theorem d_Ways_from_6 : decode me_Ways_from.2.1 6 = .ok (.iload 6, 2) := by decide +kernel
theorem d_Ways_from_8 : decode me_Ways_from.2.1 8 = .ok (.bipush 8, 2) := by decide +kernel
theorem d_Ways_from_10 : decode me_Ways_from.2.1 10 = .ok (.if_icmp .ge 35, 3) := by decide +kernel
theorem d_Ways_from_13 : decode me_Ways_from.2.1 13 = .ok (.iload 5, 2) := by decide +kernel
theorem d_Ways_from_15 : decode me_Ways_from.2.1 15 = .ok (.ifCond .le 30, 3) := by decide +kernel
theorem d_Ways_from_18 : decode me_Ways_from.2.1 18 = .ok (.getstatic 49, 3) := by decide +kernel
theorem d_Ways_from_21 : decode me_Ways_from.2.1 21 = .ok (.iload 5, 2) := by decide +kernel
theorem d_Ways_from_23 : decode me_Ways_from.2.1 23 = .ok (.iconst 4, 1) := by decide +kernel
theorem d_Ways_from_24 : decode me_Ways_from.2.1 24 = .ok (.imul, 1) := by decide +kernel
theorem d_Ways_from_25 : decode me_Ways_from.2.1 25 = .ok (.iload_n 2, 1) := by decide +kernel
theorem d_Ways_from_26 : decode me_Ways_from.2.1 26 = .ok (.iadd, 1) := by decide +kernel
theorem d_Ways_from_27 : decode me_Ways_from.2.1 27 = .ok (.iaload, 1) := by decide +kernel
theorem d_Ways_from_28 : decode me_Ways_from.2.1 28 = .ok (.ifCond .ne 17, 3) := by decide +kernel
theorem d_Ways_from_31 : decode me_Ways_from.2.1 31 = .ok (.getstatic 28, 3) := by decide +kernel
theorem d_Ways_from_34 : decode me_Ways_from.2.1 34 = .ok (.iload 5, 2) := by decide +kernel
theorem d_Ways_from_36 : decode me_Ways_from.2.1 36 = .ok (.iaload, 1) := by decide +kernel
theorem d_Ways_from_37 : decode me_Ways_from.2.1 37 = .ok (.istore 5, 2) := by decide +kernel
theorem d_Ways_from_39 : decode me_Ways_from.2.1 39 = .ok (.iinc 6 1, 3) := by decide +kernel
theorem d_Ways_from_42 : decode me_Ways_from.2.1 42 = .ok (.goto (-36), 3) := by decide +kernel
theorem d_Ways_from_45 : decode me_Ways_from.2.1 45 = .ok (.iload 5, 2) := by decide +kernel
theorem d_Ways_from_47 : decode me_Ways_from.2.1 47 = .ok (.ifCond .lt 10, 3) := by decide +kernel
theorem d_Ways_from_50 : decode me_Ways_from.2.1 50 = .ok (.iload 4, 2) := by decide +kernel
theorem d_Ways_from_52 : decode me_Ways_from.2.1 52 = .ok (.bipush 40, 2) := by decide +kernel
theorem d_Ways_from_54 : decode me_Ways_from.2.1 54 = .ok (.if_icmp .lt 5, 3) := by decide +kernel
theorem d_Ways_from_57 : decode me_Ways_from.2.1 57 = .ok (.iconst 0, 1) := by decide +kernel
theorem d_Ways_from_58 : decode me_Ways_from.2.1 58 = .ok (.ireturn, 1) := by decide +kernel
theorem d_Ways_from_59 : decode me_Ways_from.2.1 59 = .ok (.getstatic 49, 3) := by decide +kernel
theorem d_Ways_from_62 : decode me_Ways_from.2.1 62 = .ok (.iload 5, 2) := by decide +kernel
theorem d_Ways_from_64 : decode me_Ways_from.2.1 64 = .ok (.iconst 4, 1) := by decide +kernel
theorem d_Ways_from_65 : decode me_Ways_from.2.1 65 = .ok (.imul, 1) := by decide +kernel
theorem d_Ways_from_66 : decode me_Ways_from.2.1 66 = .ok (.iload_n 2, 1) := by decide +kernel
theorem d_Ways_from_67 : decode me_Ways_from.2.1 67 = .ok (.iadd, 1) := by decide +kernel
theorem d_Ways_from_68 : decode me_Ways_from.2.1 68 = .ok (.iaload, 1) := by decide +kernel
theorem d_Ways_from_69 : decode me_Ways_from.2.1 69 = .ok (.istore 6, 2) := by decide +kernel
theorem d_Ways_from_71 : decode me_Ways_from.2.1 71 = .ok (.aload_n 0, 1) := by decide +kernel
theorem d_Ways_from_72 : decode me_Ways_from.2.1 72 = .ok (.getfield 15, 3) := by decide +kernel
theorem d_Ways_from_75 : decode me_Ways_from.2.1 75 = .ok (.bipush 24, 2) := by decide +kernel
theorem d_Ways_from_77 : decode me_Ways_from.2.1 77 = .ok (.if_icmp .ge 14, 3) := by decide +kernel
theorem d_Ways_from_80 : decode me_Ways_from.2.1 80 = .ok (.aload_n 0, 1) := by decide +kernel
theorem d_Ways_from_81 : decode me_Ways_from.2.1 81 = .ok (.getfield 22, 3) := by decide +kernel
theorem d_Ways_from_84 : decode me_Ways_from.2.1 84 = .ok (.aload_n 0, 1) := by decide +kernel
theorem d_Ways_from_85 : decode me_Ways_from.2.1 85 = .ok (.getfield 15, 3) := by decide +kernel
theorem d_Ways_from_88 : decode me_Ways_from.2.1 88 = .ok (.iload 6, 2) := by decide +kernel
theorem d_Ways_from_90 : decode me_Ways_from.2.1 90 = .ok (.iastore, 1) := by decide +kernel
theorem d_Ways_from_91 : decode me_Ways_from.2.1 91 = .ok (.aload_n 0, 1) := by decide +kernel
theorem d_Ways_from_92 : decode me_Ways_from.2.1 92 = .ok (.dup, 1) := by decide +kernel
theorem d_Ways_from_93 : decode me_Ways_from.2.1 93 = .ok (.getfield 15, 3) := by decide +kernel
theorem d_Ways_from_96 : decode me_Ways_from.2.1 96 = .ok (.iconst 1, 1) := by decide +kernel
theorem d_Ways_from_97 : decode me_Ways_from.2.1 97 = .ok (.iadd, 1) := by decide +kernel
theorem d_Ways_from_98 : decode me_Ways_from.2.1 98 = .ok (.putfield 15, 3) := by decide +kernel
theorem d_Ways_from_101 : decode me_Ways_from.2.1 101 = .ok (.aload_n 0, 1) := by decide +kernel
theorem d_Ways_from_102 : decode me_Ways_from.2.1 102 = .ok (.iload 6, 2) := by decide +kernel
theorem d_Ways_from_104 : decode me_Ways_from.2.1 104 = .ok (.iload_n 3, 1) := by decide +kernel
theorem d_Ways_from_105 : decode me_Ways_from.2.1 105 = .ok (.iload 4, 2) := by decide +kernel
theorem d_Ways_from_107 : decode me_Ways_from.2.1 107 = .ok (.iconst 1, 1) := by decide +kernel
theorem d_Ways_from_108 : decode me_Ways_from.2.1 108 = .ok (.iadd, 1) := by decide +kernel
theorem d_Ways_from_109 : decode me_Ways_from.2.1 109 = .ok (.invokevirtual 52, 3) := by decide +kernel
theorem d_Ways_from_112 : decode me_Ways_from.2.1 112 = .ok (.ireturn, 1) := by decide +kernel
noncomputable def f_Ways_from_91 (q_Ways_run : Int32 → Int32 → Int32 → gk_M → Option (Int32 × gk_M)) (q_Ways_from : Int32 → Int32 → Int32 → Int32 → gk_M → Option (Int32 × gk_M)) (q_Ways_own : Int32 → Int32 → Int32 → gk_M → Option (Int32 × gk_M)) (a3 : Int32) (a4 : Int32) (a6 : Int32) (m0 : gk_M) : Option (Int32 × gk_M) :=
  gk_let (gk_mi m0 37 1 ((m0.1 37 1) + 1)) fun m1 =>
  gk_bi (q_Ways_run a6 a3 (a4 + 1) m1) fun v3 m2 =>
  some (v3, m2)

theorem s_Ways_from_91 {z : gk_Z} {dd : Nat} (K : gk_F tx z me_Ways_from (1 + (dd + 1))) {r : Int32} {mem2 : gk_M} (q_Ways_run : Int32 → Int32 → Int32 → gk_M → Option (Int32 × gk_M)) (q_Ways_from : Int32 → Int32 → Int32 → Int32 → gk_M → Option (Int32 × gk_M)) (q_Ways_own : Int32 → Int32 → Int32 → gk_M → Option (Int32 × gk_M)) (hq_Ways_run : ∀ b0 b1 b2 mem r mem2, q_Ways_run b0 b1 b2 mem = some (r, mem2) → gk_C tx (gk_zl z) (gk_zu z) me_Ways_run (1 + dd) [.ref 37, .int b0, .int b1, .int b2] mem (some (.int r)) mem2) (hq_Ways_from : ∀ b0 b1 b2 b3 mem r mem2, q_Ways_from b0 b1 b2 b3 mem = some (r, mem2) → gk_C tx (gk_zl z) (gk_zu z) me_Ways_from (1 + dd) [.ref 37, .int b0, .int b1, .int b2, .int b3] mem (some (.int r)) mem2) (hq_Ways_own : ∀ b0 b1 b2 mem r mem2, q_Ways_own b0 b1 b2 mem = some (r, mem2) → gk_C tx (gk_zl z) (gk_zu z) me_Ways_own (1 + dd) [.ref 37, .int b0, .int b1, .int b2] mem (some (.int r)) mem2) : ∀ a3 a4 a6 m0, f_Ways_from_91 q_Ways_run q_Ways_from q_Ways_own a3 a4 a6 m0 = some (r, mem2) → gk_G tx z me_Ways_from (gk_R tx z (some (.int r)) mem2) m0 [(0, .ref 37), (3, .int a3), (4, .int a4), (6, .int a6)] [] 91 := by
  intro a3 a4 a6 m0  h
  unfold f_Ways_from_91 at h
  refine gk_aload_n (pc := 91) K d_Ways_from_91 rfl ?_
  refine gk_dup (pc := 92) K d_Ways_from_92 rfl ?_
  refine gk_get (pc := 93) K d_Ways_from_93 fl_Ways_15 tx_37 rfl rfl ?_
  refine gk_iconst (pc := 96) K d_Ways_from_96 kc_1 ?_
  refine gk_iadd (pc := 97) K d_Ways_from_97 ?_
  refine gk_puti (pc := 98) K d_Ways_from_98 fp_Ways_15 tx_37 rfl h (fun m1 h => ?_)
  refine gk_aload_n (pc := 101) K d_Ways_from_101 rfl ?_
  refine gk_iload (pc := 102) K d_Ways_from_102 rfl ?_
  refine gk_iload_n (pc := 104) K d_Ways_from_104 rfl ?_
  refine gk_iload (pc := 105) K d_Ways_from_105 rfl ?_
  refine gk_iconst (pc := 107) K d_Ways_from_107 kc_1 ?_
  refine gk_iadd (pc := 108) K d_Ways_from_108 ?_
  obtain ⟨v3, m2, em2, h⟩ := gk_bi_some h
  refine gk_cVi (As := [.int a6, .int a3, .int (a4 + 1)]) (pc := 109) K d_Ways_from_109 mv_Ways_52 mc_Ways_run rfl tx_37 cl_ok7.1 (hq_Ways_run _ _ _ _ _ _ em2) (by omega) rfl (Nat.le_of_ble_eq_true rfl) ?_
  exact gk_iret (pc := 112) K d_Ways_from_112 rfl h
noncomputable def f_Ways_from_45 (q_Ways_run : Int32 → Int32 → Int32 → gk_M → Option (Int32 × gk_M)) (q_Ways_from : Int32 → Int32 → Int32 → Int32 → gk_M → Option (Int32 × gk_M)) (q_Ways_own : Int32 → Int32 → Int32 → gk_M → Option (Int32 × gk_M)) (a2 : Int32) (a3 : Int32) (a4 : Int32) (a5 : Int32) (m0 : gk_M) : Option (Int32 × gk_M) :=
  if a5 < 0 then
    some (0, m0)
  else
    if a4 < 40 then
      gk_at tb_1 ((a5 * 4) + a2) fun v1 =>
      if 24 ≤ (m0.1 37 1) then
        f_Ways_from_91 q_Ways_run q_Ways_from q_Ways_own a3 a4 v1 m0
      else
        gk_si m0 39 24 (m0.1 37 1) v1 fun m2 =>
        f_Ways_from_91 q_Ways_run q_Ways_from q_Ways_own a3 a4 v1 m2
    else
      some (0, m0)

theorem s_Ways_from_45 {z : gk_Z} {dd : Nat} (K : gk_F tx z me_Ways_from (1 + (dd + 1))) {r : Int32} {mem2 : gk_M} (q_Ways_run : Int32 → Int32 → Int32 → gk_M → Option (Int32 × gk_M)) (q_Ways_from : Int32 → Int32 → Int32 → Int32 → gk_M → Option (Int32 × gk_M)) (q_Ways_own : Int32 → Int32 → Int32 → gk_M → Option (Int32 × gk_M)) (hq_Ways_run : ∀ b0 b1 b2 mem r mem2, q_Ways_run b0 b1 b2 mem = some (r, mem2) → gk_C tx (gk_zl z) (gk_zu z) me_Ways_run (1 + dd) [.ref 37, .int b0, .int b1, .int b2] mem (some (.int r)) mem2) (hq_Ways_from : ∀ b0 b1 b2 b3 mem r mem2, q_Ways_from b0 b1 b2 b3 mem = some (r, mem2) → gk_C tx (gk_zl z) (gk_zu z) me_Ways_from (1 + dd) [.ref 37, .int b0, .int b1, .int b2, .int b3] mem (some (.int r)) mem2) (hq_Ways_own : ∀ b0 b1 b2 mem r mem2, q_Ways_own b0 b1 b2 mem = some (r, mem2) → gk_C tx (gk_zl z) (gk_zu z) me_Ways_own (1 + dd) [.ref 37, .int b0, .int b1, .int b2] mem (some (.int r)) mem2) : ∀ a2 a3 a4 a5 m0, f_Ways_from_45 q_Ways_run q_Ways_from q_Ways_own a2 a3 a4 a5 m0 = some (r, mem2) → gk_G tx z me_Ways_from (gk_R tx z (some (.int r)) mem2) m0 [(0, .ref 37), (2, .int a2), (3, .int a3), (4, .int a4), (5, .int a5)] [] 45 := by
  intro a2 a3 a4 a5 m0  h
  unfold f_Ways_from_45 at h
  refine gk_iload (pc := 45) K d_Ways_from_45 rfl ?_
  refine gk_if_lt (tgt := 57) (pc := 47) K d_Ways_from_47 (by decide) h (fun h => ?_) (fun h => ?_)
  · refine gk_iconst (pc := 57) K d_Ways_from_57 kc_0 ?_
    exact gk_iret (pc := 58) K d_Ways_from_58 rfl h
  · refine gk_iload (pc := 50) K d_Ways_from_50 rfl ?_
    refine gk_bipush (pc := 52) K d_Ways_from_52 kb_40 ?_
    refine gk_ic_lt (tgt := 59) (pc := 54) K d_Ways_from_54 (by decide) h (fun h => ?_) (fun h => ?_)
    · refine gk_gets (i := 1) (pc := 59) K d_Ways_from_59 tt_1 fs_Ways_49 ?_
      refine gk_iload (pc := 62) K d_Ways_from_62 rfl ?_
      refine gk_iconst (pc := 64) K d_Ways_from_64 kc_4 ?_
      refine gk_imul (pc := 65) K d_Ways_from_65 ?_
      refine gk_iload_n (pc := 66) K d_Ways_from_66 rfl ?_
      refine gk_iadd (pc := 67) K d_Ways_from_67 ?_
      refine gk_tald (n := 1) (pc := 68) K d_Ways_from_68 tt_1 h (fun v1 h => ?_)
      refine gk_istore (lv2 := [(6, .int v1), (0, .ref 37), (2, .int a2), (3, .int a3), (4, .int a4), (5, .int a5)]) (pc := 69) K d_Ways_from_69 (by decide) rfl ?_
      refine gk_aload_n (pc := 71) K d_Ways_from_71 rfl ?_
      refine gk_get (pc := 72) K d_Ways_from_72 fl_Ways_15 tx_37 rfl rfl ?_
      refine gk_bipush (pc := 75) K d_Ways_from_75 kb_24 ?_
      refine gk_ic_ge (tgt := 91) (pc := 77) K d_Ways_from_77 (by decide) h (fun h => ?_) (fun h => ?_)
      · exact gk_sub [1, 3, 4, 0] rfl (s_Ways_from_91 K q_Ways_run q_Ways_from q_Ways_own hq_Ways_run hq_Ways_from hq_Ways_own _ _ _ _  h)
      · refine gk_aload_n (pc := 80) K d_Ways_from_80 rfl ?_
        refine gk_get (pc := 81) K d_Ways_from_81 fl_Ways_22 tx_37 rfl rfl ?_
        refine gk_aload_n (pc := 84) K d_Ways_from_84 rfl ?_
        refine gk_get (pc := 85) K d_Ways_from_85 fl_Ways_15 tx_37 rfl rfl ?_
        refine gk_iload (pc := 88) K d_Ways_from_88 rfl ?_
        refine gk_iast (pc := 90) K d_Ways_from_90 tx_39 h (fun m2 h => ?_)
        exact gk_sub [1, 3, 4, 0] rfl (s_Ways_from_91 K q_Ways_run q_Ways_from q_Ways_own hq_Ways_run hq_Ways_from hq_Ways_own _ _ _ _  h)
    · refine gk_iconst (pc := 57) K d_Ways_from_57 kc_0 ?_
      exact gk_iret (pc := 58) K d_Ways_from_58 rfl h
noncomputable def f_Ways_from_6 (q_Ways_run : Int32 → Int32 → Int32 → gk_M → Option (Int32 × gk_M)) (q_Ways_from : Int32 → Int32 → Int32 → Int32 → gk_M → Option (Int32 × gk_M)) (q_Ways_own : Int32 → Int32 → Int32 → gk_M → Option (Int32 × gk_M)) : Nat → Int32 → Int32 → Int32 → Int32 → Int32 → gk_M → Option (Int32 × gk_M)
  | 0, _, _, _, _, _, _ => none
  | n + 1, a2, a3, a4, a5, a6, m0 =>
    if 8 ≤ a6 then
      f_Ways_from_45 q_Ways_run q_Ways_from q_Ways_own a2 a3 a4 a5 m0
    else
      if a5 ≤ 0 then
        f_Ways_from_45 q_Ways_run q_Ways_from q_Ways_own a2 a3 a4 a5 m0
      else
        gk_at tb_1 ((a5 * 4) + a2) fun v1 =>
        if ¬ v1 = 0 then
          f_Ways_from_45 q_Ways_run q_Ways_from q_Ways_own a2 a3 a4 a5 m0
        else
          gk_at tb_0 a5 fun v2 =>
          f_Ways_from_6 q_Ways_run q_Ways_from q_Ways_own n a2 a3 a4 v2 (a6 + 1) m0

theorem s_Ways_from_6 {z : gk_Z} {dd : Nat} (K : gk_F tx z me_Ways_from (1 + (dd + 1))) {r : Int32} {mem2 : gk_M} (q_Ways_run : Int32 → Int32 → Int32 → gk_M → Option (Int32 × gk_M)) (q_Ways_from : Int32 → Int32 → Int32 → Int32 → gk_M → Option (Int32 × gk_M)) (q_Ways_own : Int32 → Int32 → Int32 → gk_M → Option (Int32 × gk_M)) (hq_Ways_run : ∀ b0 b1 b2 mem r mem2, q_Ways_run b0 b1 b2 mem = some (r, mem2) → gk_C tx (gk_zl z) (gk_zu z) me_Ways_run (1 + dd) [.ref 37, .int b0, .int b1, .int b2] mem (some (.int r)) mem2) (hq_Ways_from : ∀ b0 b1 b2 b3 mem r mem2, q_Ways_from b0 b1 b2 b3 mem = some (r, mem2) → gk_C tx (gk_zl z) (gk_zu z) me_Ways_from (1 + dd) [.ref 37, .int b0, .int b1, .int b2, .int b3] mem (some (.int r)) mem2) (hq_Ways_own : ∀ b0 b1 b2 mem r mem2, q_Ways_own b0 b1 b2 mem = some (r, mem2) → gk_C tx (gk_zl z) (gk_zu z) me_Ways_own (1 + dd) [.ref 37, .int b0, .int b1, .int b2] mem (some (.int r)) mem2) : ∀ n a2 a3 a4 a5 a6 m0, f_Ways_from_6 q_Ways_run q_Ways_from q_Ways_own n a2 a3 a4 a5 a6 m0 = some (r, mem2) → gk_G tx z me_Ways_from (gk_R tx z (some (.int r)) mem2) m0 [(0, .ref 37), (2, .int a2), (3, .int a3), (4, .int a4), (5, .int a5), (6, .int a6)] [] 6 := by
  intro n
  induction n with
  | zero => intro a2 a3 a4 a5 a6 m0  h; exact nomatch (show (none : Option _) = some _ from h)
  | succ n ih =>
    intro a2 a3 a4 a5 a6 m0  h
    unfold f_Ways_from_6 at h
    refine gk_iload (pc := 6) K d_Ways_from_6 rfl ?_
    refine gk_bipush (pc := 8) K d_Ways_from_8 kb_8 ?_
    refine gk_ic_ge (tgt := 45) (pc := 10) K d_Ways_from_10 (by decide) h (fun h => ?_) (fun h => ?_)
    · exact gk_sub [0, 1, 2, 3, 4] rfl (s_Ways_from_45 K q_Ways_run q_Ways_from q_Ways_own hq_Ways_run hq_Ways_from hq_Ways_own _ _ _ _ _  h)
    · refine gk_iload (pc := 13) K d_Ways_from_13 rfl ?_
      refine gk_if_le (tgt := 45) (pc := 15) K d_Ways_from_15 (by decide) h (fun h => ?_) (fun h => ?_)
      · exact gk_sub [0, 1, 2, 3, 4] rfl (s_Ways_from_45 K q_Ways_run q_Ways_from q_Ways_own hq_Ways_run hq_Ways_from hq_Ways_own _ _ _ _ _  h)
      · refine gk_gets (i := 1) (pc := 18) K d_Ways_from_18 tt_1 fs_Ways_49 ?_
        refine gk_iload (pc := 21) K d_Ways_from_21 rfl ?_
        refine gk_iconst (pc := 23) K d_Ways_from_23 kc_4 ?_
        refine gk_imul (pc := 24) K d_Ways_from_24 ?_
        refine gk_iload_n (pc := 25) K d_Ways_from_25 rfl ?_
        refine gk_iadd (pc := 26) K d_Ways_from_26 ?_
        refine gk_tald (n := 1) (pc := 27) K d_Ways_from_27 tt_1 h (fun v1 h => ?_)
        refine gk_if_ne (tgt := 45) (pc := 28) K d_Ways_from_28 (by decide) h (fun h => ?_) (fun h => ?_)
        · exact gk_sub [0, 1, 2, 3, 4] rfl (s_Ways_from_45 K q_Ways_run q_Ways_from q_Ways_own hq_Ways_run hq_Ways_from hq_Ways_own _ _ _ _ _  h)
        · refine gk_gets (i := 0) (pc := 31) K d_Ways_from_31 tt_0 fs_Ways_28 ?_
          refine gk_iload (pc := 34) K d_Ways_from_34 rfl ?_
          refine gk_tald (n := 0) (pc := 36) K d_Ways_from_36 tt_0 h (fun v2 h => ?_)
          refine gk_istore (lv2 := [(5, .int v2), (0, .ref 37), (2, .int a2), (3, .int a3), (4, .int a4), (6, .int a6)]) (pc := 37) K d_Ways_from_37 (by decide) rfl ?_
          refine gk_iinc2 (lv2 := [(6, .int (a6 + 1)), (5, .int v2), (0, .ref 37), (2, .int a2), (3, .int a3), (4, .int a4)]) (pc := 39) K d_Ways_from_39 rfl kc_1 (by decide) rfl ?_
          refine gk_goto (tgt := 6) (pc := 42) K d_Ways_from_42 (by decide) ?_
          exact gk_sub [2, 3, 4, 5, 1, 0] rfl (ih _ _ _ _ _ _  h)
noncomputable def f_Ways_from_0 (q_Ways_run : Int32 → Int32 → Int32 → gk_M → Option (Int32 × gk_M)) (q_Ways_from : Int32 → Int32 → Int32 → Int32 → gk_M → Option (Int32 × gk_M)) (q_Ways_own : Int32 → Int32 → Int32 → gk_M → Option (Int32 × gk_M)) (a1 : Int32) (a2 : Int32) (a3 : Int32) (a4 : Int32) (m0 : gk_M) : Option (Int32 × gk_M) :=
  f_Ways_from_6 q_Ways_run q_Ways_from q_Ways_own gk_fv a2 a3 a4 a1 0 m0

theorem s_Ways_from_0 {z : gk_Z} {dd : Nat} (K : gk_F tx z me_Ways_from (1 + (dd + 1))) {r : Int32} {mem2 : gk_M} (q_Ways_run : Int32 → Int32 → Int32 → gk_M → Option (Int32 × gk_M)) (q_Ways_from : Int32 → Int32 → Int32 → Int32 → gk_M → Option (Int32 × gk_M)) (q_Ways_own : Int32 → Int32 → Int32 → gk_M → Option (Int32 × gk_M)) (hq_Ways_run : ∀ b0 b1 b2 mem r mem2, q_Ways_run b0 b1 b2 mem = some (r, mem2) → gk_C tx (gk_zl z) (gk_zu z) me_Ways_run (1 + dd) [.ref 37, .int b0, .int b1, .int b2] mem (some (.int r)) mem2) (hq_Ways_from : ∀ b0 b1 b2 b3 mem r mem2, q_Ways_from b0 b1 b2 b3 mem = some (r, mem2) → gk_C tx (gk_zl z) (gk_zu z) me_Ways_from (1 + dd) [.ref 37, .int b0, .int b1, .int b2, .int b3] mem (some (.int r)) mem2) (hq_Ways_own : ∀ b0 b1 b2 mem r mem2, q_Ways_own b0 b1 b2 mem = some (r, mem2) → gk_C tx (gk_zl z) (gk_zu z) me_Ways_own (1 + dd) [.ref 37, .int b0, .int b1, .int b2] mem (some (.int r)) mem2) : ∀ a1 a2 a3 a4 m0, f_Ways_from_0 q_Ways_run q_Ways_from q_Ways_own a1 a2 a3 a4 m0 = some (r, mem2) → gk_G tx z me_Ways_from (gk_R tx z (some (.int r)) mem2) m0 [(0, .ref 37), (1, .int a1), (2, .int a2), (3, .int a3), (4, .int a4)] [] 0 := by
  intro a1 a2 a3 a4 m0  h
  unfold f_Ways_from_0 at h
  refine gk_iload_n (pc := 0) K d_Ways_from_0 rfl ?_
  refine gk_istore (lv2 := [(5, .int a1), (0, .ref 37), (1, .int a1), (2, .int a2), (3, .int a3), (4, .int a4)]) (pc := 1) K d_Ways_from_1 (by decide) rfl ?_
  refine gk_iconst (pc := 3) K d_Ways_from_3 kc_0 ?_
  refine gk_istore (lv2 := [(6, .int 0), (5, .int a1), (0, .ref 37), (1, .int a1), (2, .int a2), (3, .int a3), (4, .int a4)]) (pc := 4) K d_Ways_from_4 (by decide) rfl ?_
  exact gk_sub [2, 4, 5, 6, 1, 0] rfl (s_Ways_from_6 K q_Ways_run q_Ways_from q_Ways_own hq_Ways_run hq_Ways_from hq_Ways_own _ _ _ _ _ _ _  h)
theorem d_Ways_own_0 : decode me_Ways_own.2.1 0 = .ok (.aload_n 0, 1) := by decide +kernel
theorem d_Ways_own_1 : decode me_Ways_own.2.1 1 = .ok (.aload_n 0, 1) := by decide +kernel
theorem d_Ways_own_2 : decode me_Ways_own.2.1 2 = .ok (.getfield 18, 3) := by decide +kernel
theorem d_Ways_own_5 : decode me_Ways_own.2.1 5 = .ok (.aload_n 0, 1) := by decide +kernel
theorem d_Ways_own_6 : decode me_Ways_own.2.1 6 = .ok (.getfield 25, 3) := by decide +kernel
theorem d_Ways_own_9 : decode me_Ways_own.2.1 9 = .ok (.iaload, 1) := by decide +kernel
theorem d_Ways_own_10 : decode me_Ways_own.2.1 10 = .ok (.iload_n 1, 1) := by decide +kernel
theorem d_Ways_own_11 : decode me_Ways_own.2.1 11 = .ok (.iload_n 2, 1) := by decide +kernel
theorem d_Ways_own_12 : decode me_Ways_own.2.1 12 = .ok (.iload_n 3, 1) := by decide +kernel
theorem d_Ways_own_13 : decode me_Ways_own.2.1 13 = .ok (.invokevirtual 45, 3) := by decide +kernel
theorem d_Ways_own_16 : decode me_Ways_own.2.1 16 = .ok (.ireturn, 1) := by decide +kernel
noncomputable def f_Ways_own_0 (q_Ways_run : Int32 → Int32 → Int32 → gk_M → Option (Int32 × gk_M)) (q_Ways_from : Int32 → Int32 → Int32 → Int32 → gk_M → Option (Int32 × gk_M)) (q_Ways_own : Int32 → Int32 → Int32 → gk_M → Option (Int32 × gk_M)) (a1 : Int32) (a2 : Int32) (a3 : Int32) (m0 : gk_M) : Option (Int32 × gk_M) :=
  gk_ai m0 38 50 (m0.1 37 4) fun v1 =>
  gk_bi (q_Ways_from v1 a1 a2 a3 m0) fun v3 m2 =>
  some (v3, m2)

theorem s_Ways_own_0 {z : gk_Z} {dd : Nat} (K : gk_F tx z me_Ways_own (1 + (dd + 1))) {r : Int32} {mem2 : gk_M} (q_Ways_run : Int32 → Int32 → Int32 → gk_M → Option (Int32 × gk_M)) (q_Ways_from : Int32 → Int32 → Int32 → Int32 → gk_M → Option (Int32 × gk_M)) (q_Ways_own : Int32 → Int32 → Int32 → gk_M → Option (Int32 × gk_M)) (hq_Ways_run : ∀ b0 b1 b2 mem r mem2, q_Ways_run b0 b1 b2 mem = some (r, mem2) → gk_C tx (gk_zl z) (gk_zu z) me_Ways_run (1 + dd) [.ref 37, .int b0, .int b1, .int b2] mem (some (.int r)) mem2) (hq_Ways_from : ∀ b0 b1 b2 b3 mem r mem2, q_Ways_from b0 b1 b2 b3 mem = some (r, mem2) → gk_C tx (gk_zl z) (gk_zu z) me_Ways_from (1 + dd) [.ref 37, .int b0, .int b1, .int b2, .int b3] mem (some (.int r)) mem2) (hq_Ways_own : ∀ b0 b1 b2 mem r mem2, q_Ways_own b0 b1 b2 mem = some (r, mem2) → gk_C tx (gk_zl z) (gk_zu z) me_Ways_own (1 + dd) [.ref 37, .int b0, .int b1, .int b2] mem (some (.int r)) mem2) : ∀ a1 a2 a3 m0, f_Ways_own_0 q_Ways_run q_Ways_from q_Ways_own a1 a2 a3 m0 = some (r, mem2) → gk_G tx z me_Ways_own (gk_R tx z (some (.int r)) mem2) m0 [(0, .ref 37), (1, .int a1), (2, .int a2), (3, .int a3)] [] 0 := by
  intro a1 a2 a3 m0  h
  unfold f_Ways_own_0 at h
  refine gk_aload_n (pc := 0) K d_Ways_own_0 rfl ?_
  refine gk_aload_n (pc := 1) K d_Ways_own_1 rfl ?_
  refine gk_get (pc := 2) K d_Ways_own_2 fl_Ways_18 tx_37 rfl rfl ?_
  refine gk_aload_n (pc := 5) K d_Ways_own_5 rfl ?_
  refine gk_get (pc := 6) K d_Ways_own_6 fl_Ways_25 tx_37 rfl rfl ?_
  refine gk_iald (pc := 9) K d_Ways_own_9 tx_38 h (fun v1 h => ?_)
  refine gk_iload_n (pc := 10) K d_Ways_own_10 rfl ?_
  refine gk_iload_n (pc := 11) K d_Ways_own_11 rfl ?_
  refine gk_iload_n (pc := 12) K d_Ways_own_12 rfl ?_
  obtain ⟨v3, m2, em2, h⟩ := gk_bi_some h
  refine gk_cVi (As := [.int v1, .int a1, .int a2, .int a3]) (pc := 13) K d_Ways_own_13 mv_Ways_45 mc_Ways_from rfl tx_37 cl_ok7.1 (hq_Ways_from _ _ _ _ _ _ _ em2) (by omega) rfl (Nat.le_of_ble_eq_true rfl) ?_
  exact gk_iret (pc := 16) K d_Ways_own_16 rfl h
noncomputable def r_Ways_run_s (p : Nat → Int32 → Int32 → Int32 → Int32 → gk_M → Option (Int32 × gk_M)) : Nat → Int32 → Int32 → Int32 → Int32 → gk_M → Option (Int32 × gk_M)
  | 0, x0, x1, x2, x3, m0 => f_Ways_run_0 (fun b0 b1 b2 m => p 0 b0 b1 b2 0 m) (fun b0 b1 b2 b3 m => p 1 b0 b1 b2 b3 m) (fun b0 b1 b2 m => p 2 b0 b1 b2 0 m) x0 x1 x2 m0
  | 1, x0, x1, x2, x3, m0 => f_Ways_from_0 (fun b0 b1 b2 m => p 0 b0 b1 b2 0 m) (fun b0 b1 b2 b3 m => p 1 b0 b1 b2 b3 m) (fun b0 b1 b2 m => p 2 b0 b1 b2 0 m) x0 x1 x2 x3 m0
  | 2, x0, x1, x2, x3, m0 => f_Ways_own_0 (fun b0 b1 b2 m => p 0 b0 b1 b2 0 m) (fun b0 b1 b2 b3 m => p 1 b0 b1 b2 b3 m) (fun b0 b1 b2 m => p 2 b0 b1 b2 0 m) x0 x1 x2 m0
  | _, _, _, _, _, _ => none
noncomputable def r_Ways_run : Nat → Nat → Int32 → Int32 → Int32 → Int32 → gk_M → Option (Int32 × gk_M)
  | 0 => fun _ _ _ _ _ _ => none
  | d + 1 => r_Ways_run_s (r_Ways_run d)
theorem r_Ways_run_e0 (d : Nat) (x0 : Int32) (x1 : Int32) (x2 : Int32) (m0 : gk_M) : r_Ways_run (d + 1) 0 x0 x1 x2 0 m0 = f_Ways_run_0 (fun b0 b1 b2 m => r_Ways_run d 0 b0 b1 b2 0 m) (fun b0 b1 b2 b3 m => r_Ways_run d 1 b0 b1 b2 b3 m) (fun b0 b1 b2 m => r_Ways_run d 2 b0 b1 b2 0 m) x0 x1 x2 m0 := rfl
theorem r_Ways_run_e1 (d : Nat) (x0 : Int32) (x1 : Int32) (x2 : Int32) (x3 : Int32) (m0 : gk_M) : r_Ways_run (d + 1) 1 x0 x1 x2 x3 m0 = f_Ways_from_0 (fun b0 b1 b2 m => r_Ways_run d 0 b0 b1 b2 0 m) (fun b0 b1 b2 b3 m => r_Ways_run d 1 b0 b1 b2 b3 m) (fun b0 b1 b2 m => r_Ways_run d 2 b0 b1 b2 0 m) x0 x1 x2 x3 m0 := rfl
theorem r_Ways_run_e2 (d : Nat) (x0 : Int32) (x1 : Int32) (x2 : Int32) (m0 : gk_M) : r_Ways_run (d + 1) 2 x0 x1 x2 0 m0 = f_Ways_own_0 (fun b0 b1 b2 m => r_Ways_run d 0 b0 b1 b2 0 m) (fun b0 b1 b2 b3 m => r_Ways_run d 1 b0 b1 b2 b3 m) (fun b0 b1 b2 m => r_Ways_run d 2 b0 b1 b2 0 m) x0 x1 x2 m0 := rfl
theorem sr_Ways_run {l : Launch} {u : gk_U} (hD : gk_D tx u) : ∀ d, (∀ b0 b1 b2 mem r mem2, r_Ways_run d 0 b0 b1 b2 0 mem = some (r, mem2) → gk_C tx l u me_Ways_run (1 + d) [.ref 37, .int b0, .int b1, .int b2] mem (some (.int r)) mem2) ∧ (∀ b0 b1 b2 b3 mem r mem2, r_Ways_run d 1 b0 b1 b2 b3 mem = some (r, mem2) → gk_C tx l u me_Ways_from (1 + d) [.ref 37, .int b0, .int b1, .int b2, .int b3] mem (some (.int r)) mem2) ∧ (∀ b0 b1 b2 mem r mem2, r_Ways_run d 2 b0 b1 b2 0 mem = some (r, mem2) → gk_C tx l u me_Ways_own (1 + d) [.ref 37, .int b0, .int b1, .int b2] mem (some (.int r)) mem2) := by
  intro d
  induction d with
  | zero => exact ⟨(fun _ _ _ _ _ _ h => nomatch (show (none : Option _) = some _ from h)), (fun _ _ _ _ _ _ _ h => nomatch (show (none : Option _) = some _ from h)), (fun _ _ _ _ _ _ h => nomatch (show (none : Option _) = some _ from h))⟩
  | succ d ih =>
    refine ⟨?_, ?_, ?_⟩
    · intro b0 b1 b2 mem r mem2 h
      refine gk_enter hD mc_Ways_run (Nat.le_of_ble_eq_true rfl) rfl (fun z hl hu K => ?_)
      subst hl
      subst hu
      rw [r_Ways_run_e0] at h
      exact s_Ways_run_0 K (fun b0 b1 b2 m => r_Ways_run d 0 b0 b1 b2 0 m) (fun b0 b1 b2 b3 m => r_Ways_run d 1 b0 b1 b2 b3 m) (fun b0 b1 b2 m => r_Ways_run d 2 b0 b1 b2 0 m) (fun y0 y1 y2 a b c h => ih.1 y0 y1 y2 a b c h) (fun y0 y1 y2 y3 a b c h => ih.2.1 y0 y1 y2 y3 a b c h) (fun y0 y1 y2 a b c h => ih.2.2 y0 y1 y2 a b c h) _ _ _ _ h
    · intro b0 b1 b2 b3 mem r mem2 h
      refine gk_enter hD mc_Ways_from (Nat.le_of_ble_eq_true rfl) rfl (fun z hl hu K => ?_)
      subst hl
      subst hu
      rw [r_Ways_run_e1] at h
      exact s_Ways_from_0 K (fun b0 b1 b2 m => r_Ways_run d 0 b0 b1 b2 0 m) (fun b0 b1 b2 b3 m => r_Ways_run d 1 b0 b1 b2 b3 m) (fun b0 b1 b2 m => r_Ways_run d 2 b0 b1 b2 0 m) (fun y0 y1 y2 a b c h => ih.1 y0 y1 y2 a b c h) (fun y0 y1 y2 y3 a b c h => ih.2.1 y0 y1 y2 y3 a b c h) (fun y0 y1 y2 a b c h => ih.2.2 y0 y1 y2 a b c h) _ _ _ _ _ h
    · intro b0 b1 b2 mem r mem2 h
      refine gk_enter hD mc_Ways_own (Nat.le_of_ble_eq_true rfl) rfl (fun z hl hu K => ?_)
      subst hl
      subst hu
      rw [r_Ways_run_e2] at h
      exact s_Ways_own_0 K (fun b0 b1 b2 m => r_Ways_run d 0 b0 b1 b2 0 m) (fun b0 b1 b2 b3 m => r_Ways_run d 1 b0 b1 b2 b3 m) (fun b0 b1 b2 m => r_Ways_run d 2 b0 b1 b2 0 m) (fun y0 y1 y2 a b c h => ih.1 y0 y1 y2 a b c h) (fun y0 y1 y2 y3 a b c h => ih.2.1 y0 y1 y2 y3 a b c h) (fun y0 y1 y2 a b c h => ih.2.2 y0 y1 y2 a b c h) _ _ _ _ h
noncomputable def f_Ways_run (a1 : Int32) (a2 : Int32) (a3 : Int32) (m0 : gk_M) : Option (Int32 × gk_M) := r_Ways_run 60 0 a1 a2 a3 0 m0
theorem s_Ways_run {l : Launch} {u : gk_U} (hD : gk_D tx u) {a1 : Int32} {a2 : Int32} {a3 : Int32} {m0 mem2 : gk_M} {r : Int32} (h : f_Ways_run a1 a2 a3 m0 = some (r, mem2)) : gk_C tx l u me_Ways_run 61 [.ref 37, .int a1, .int a2, .int a3] m0 (some (.int r)) mem2 := (sr_Ways_run hD 60).1 _ _ _ _ _ _ h
noncomputable def f_Ways_from (a1 : Int32) (a2 : Int32) (a3 : Int32) (a4 : Int32) (m0 : gk_M) : Option (Int32 × gk_M) := r_Ways_run 60 1 a1 a2 a3 a4 m0
theorem s_Ways_from {l : Launch} {u : gk_U} (hD : gk_D tx u) {a1 : Int32} {a2 : Int32} {a3 : Int32} {a4 : Int32} {m0 mem2 : gk_M} {r : Int32} (h : f_Ways_from a1 a2 a3 a4 m0 = some (r, mem2)) : gk_C tx l u me_Ways_from 61 [.ref 37, .int a1, .int a2, .int a3, .int a4] m0 (some (.int r)) mem2 := (sr_Ways_run hD 60).2.1 _ _ _ _ _ _ _ h
noncomputable def f_Ways_own (a1 : Int32) (a2 : Int32) (a3 : Int32) (m0 : gk_M) : Option (Int32 × gk_M) := r_Ways_run 60 2 a1 a2 a3 0 m0
theorem s_Ways_own {l : Launch} {u : gk_U} (hD : gk_D tx u) {a1 : Int32} {a2 : Int32} {a3 : Int32} {m0 mem2 : gk_M} {r : Int32} (h : f_Ways_own a1 a2 a3 m0 = some (r, mem2)) : gk_C tx l u me_Ways_own 61 [.ref 37, .int a1, .int a2, .int a3] m0 (some (.int r)) mem2 := (sr_Ways_run hD 60).2.2 _ _ _ _ _ _ h
theorem d_Ways_perform_0 : decode me_Ways_perform.2.1 0 = .ok (.aload_n 0, 1) := by decide +kernel
theorem d_Ways_perform_1 : decode me_Ways_perform.2.1 1 = .ok (.iconst 0, 1) := by decide +kernel
theorem d_Ways_perform_2 : decode me_Ways_perform.2.1 2 = .ok (.putfield 15, 3) := by decide +kernel
theorem d_Ways_perform_5 : decode me_Ways_perform.2.1 5 = .ok (.aload_n 0, 1) := by decide +kernel
theorem d_Ways_perform_6 : decode me_Ways_perform.2.1 6 = .ok (.iload_n 1, 1) := by decide +kernel
theorem d_Ways_perform_7 : decode me_Ways_perform.2.1 7 = .ok (.invokevirtual 31, 3) := by decide +kernel
theorem d_Ways_perform_10 : decode me_Ways_perform.2.1 10 = .ok (.ifCond .eq 12, 3) := by decide +kernel
theorem d_Ways_perform_13 : decode me_Ways_perform.2.1 13 = .ok (.iload_n 2, 1) := by decide +kernel
theorem d_Ways_perform_14 : decode me_Ways_perform.2.1 14 = .ok (.ifCond .lt 8, 3) := by decide +kernel
theorem d_Ways_perform_17 : decode me_Ways_perform.2.1 17 = .ok (.iload_n 2, 1) := by decide +kernel
theorem d_Ways_perform_18 : decode me_Ways_perform.2.1 18 = .ok (.iconst 4, 1) := by decide +kernel
theorem d_Ways_perform_19 : decode me_Ways_perform.2.1 19 = .ok (.if_icmp .lt 5, 3) := by decide +kernel
theorem d_Ways_perform_22 : decode me_Ways_perform.2.1 22 = .ok (.iconst 0, 1) := by decide +kernel
theorem d_Ways_perform_23 : decode me_Ways_perform.2.1 23 = .ok (.ireturn, 1) := by decide +kernel
theorem d_Ways_perform_24 : decode me_Ways_perform.2.1 24 = .ok (.aload_n 0, 1) := by decide +kernel
theorem d_Ways_perform_25 : decode me_Ways_perform.2.1 25 = .ok (.iload_n 1, 1) := by decide +kernel
theorem d_Ways_perform_26 : decode me_Ways_perform.2.1 26 = .ok (.putfield 25, 3) := by decide +kernel
theorem d_Ways_perform_29 : decode me_Ways_perform.2.1 29 = .ok (.aload_n 0, 1) := by decide +kernel
theorem d_Ways_perform_30 : decode me_Ways_perform.2.1 30 = .ok (.iload_n 2, 1) := by decide +kernel
theorem d_Ways_perform_31 : decode me_Ways_perform.2.1 31 = .ok (.iload_n 3, 1) := by decide +kernel
theorem d_Ways_perform_32 : decode me_Ways_perform.2.1 32 = .ok (.iconst 0, 1) := by decide +kernel
theorem d_Ways_perform_33 : decode me_Ways_perform.2.1 33 = .ok (.invokevirtual 41, 3) := by decide +kernel
theorem d_Ways_perform_36 : decode me_Ways_perform.2.1 36 = .ok (.ireturn, 1) := by decide +kernel
noncomputable def f_Ways_perform  (a1 : Int32) (a2 : Int32) (a3 : Int32) (m0 : gk_M) : Option (Int32 × gk_M) :=
  gk_let (gk_mi m0 37 1 0) fun m1 =>
  gk_bi (f_Ways_isBody a1 m1) fun v3 m2 =>
  if v3 = 0 then
    some (0, m2)
  else
    if a2 < 0 then
      some (0, m2)
    else
      if a2 < 4 then
        gk_let (gk_mi m2 37 4 a1) fun m4 =>
        gk_bi (f_Ways_own a2 a3 0 m4) fun v6 m5 =>
        some (v6, m5)
      else
        some (0, m2)

theorem s_Ways_perform_0 {z : gk_Z} (K : gk_F tx z me_Ways_perform 62) {r : Int32} {mem2 : gk_M} : ∀ a1 a2 a3 m0, f_Ways_perform a1 a2 a3 m0 = some (r, mem2) → gk_G tx z me_Ways_perform (gk_R tx z (some (.int r)) mem2) m0 [(0, .ref 37), (1, .int a1), (2, .int a2), (3, .int a3)] [] 0 := by
  intro a1 a2 a3 m0  h
  unfold f_Ways_perform at h
  refine gk_aload_n (pc := 0) K d_Ways_perform_0 rfl ?_
  refine gk_iconst (pc := 1) K d_Ways_perform_1 kc_0 ?_
  refine gk_puti (pc := 2) K d_Ways_perform_2 fp_Ways_15 tx_37 rfl h (fun m1 h => ?_)
  refine gk_aload_n (pc := 5) K d_Ways_perform_5 rfl ?_
  refine gk_iload_n (pc := 6) K d_Ways_perform_6 rfl ?_
  obtain ⟨v3, m2, em2, h⟩ := gk_bi_some h
  refine gk_cVi (As := [.int a1]) (pc := 7) K d_Ways_perform_7 mv_Ways_31 mc_Ways_isBody rfl tx_37 cl_ok7.1 (s_Ways_isBody (gk_FD K)  em2) (by decide) rfl (Nat.le_of_ble_eq_true rfl) ?_
  refine gk_if_eq (tgt := 22) (pc := 10) K d_Ways_perform_10 (by decide) h (fun h => ?_) (fun h => ?_)
  · refine gk_iconst (pc := 22) K d_Ways_perform_22 kc_0 ?_
    exact gk_iret (pc := 23) K d_Ways_perform_23 rfl h
  · refine gk_iload_n (pc := 13) K d_Ways_perform_13 rfl ?_
    refine gk_if_lt (tgt := 22) (pc := 14) K d_Ways_perform_14 (by decide) h (fun h => ?_) (fun h => ?_)
    · refine gk_iconst (pc := 22) K d_Ways_perform_22 kc_0 ?_
      exact gk_iret (pc := 23) K d_Ways_perform_23 rfl h
    · refine gk_iload_n (pc := 17) K d_Ways_perform_17 rfl ?_
      refine gk_iconst (pc := 18) K d_Ways_perform_18 kc_4 ?_
      refine gk_ic_lt (tgt := 24) (pc := 19) K d_Ways_perform_19 (by decide) h (fun h => ?_) (fun h => ?_)
      · refine gk_aload_n (pc := 24) K d_Ways_perform_24 rfl ?_
        refine gk_iload_n (pc := 25) K d_Ways_perform_25 rfl ?_
        refine gk_puti (pc := 26) K d_Ways_perform_26 fp_Ways_25 tx_37 rfl h (fun m4 h => ?_)
        refine gk_aload_n (pc := 29) K d_Ways_perform_29 rfl ?_
        refine gk_iload_n (pc := 30) K d_Ways_perform_30 rfl ?_
        refine gk_iload_n (pc := 31) K d_Ways_perform_31 rfl ?_
        refine gk_iconst (pc := 32) K d_Ways_perform_32 kc_0 ?_
        obtain ⟨v6, m5, em5, h⟩ := gk_bi_some h
        refine gk_cVi (As := [.int a2, .int a3, .int 0]) (pc := 33) K d_Ways_perform_33 mv_Ways_41 mc_Ways_own rfl tx_37 cl_ok7.1 (s_Ways_own (gk_FD K)  em5) (by decide) rfl (Nat.le_of_ble_eq_true rfl) ?_
        exact gk_iret (pc := 36) K d_Ways_perform_36 rfl h
      · refine gk_iconst (pc := 22) K d_Ways_perform_22 kc_0 ?_
        exact gk_iret (pc := 23) K d_Ways_perform_23 rfl h
theorem s_Ways_perform {l : Launch} {u : gk_U} (hD : gk_D tx u) {a1 : Int32} {a2 : Int32} {a3 : Int32} {m0 mem2 : gk_M} {r : Int32} (h : f_Ways_perform a1 a2 a3 m0 = some (r, mem2)) : gk_C tx l u me_Ways_perform 62 [.ref 37, .int a1, .int a2, .int a3] m0 (some (.int r)) mem2 :=
  gk_enter hD mc_Ways_perform (Nat.le_of_ble_eq_true rfl) rfl (fun z _ _ K => s_Ways_perform_0 K _ _ _ _  h)
theorem d_X_act_0 : decode me_X_act.2.1 0 = .ok (.aload_n 0, 1) := by decide +kernel
theorem d_X_act_1 : decode me_X_act.2.1 1 = .ok (.getfield 65, 3) := by decide +kernel
theorem d_X_act_4 : decode me_X_act.2.1 4 = .ok (.iload_n 1, 1) := by decide +kernel
theorem d_X_act_5 : decode me_X_act.2.1 5 = .ok (.iload_n 2, 1) := by decide +kernel
theorem d_X_act_6 : decode me_X_act.2.1 6 = .ok (.iload_n 3, 1) := by decide +kernel
theorem d_X_act_7 : decode me_X_act.2.1 7 = .ok (.invokevirtual 279, 3) := by decide +kernel
theorem d_X_act_10 : decode me_X_act.2.1 10 = .ok (.ireturn, 1) := by decide +kernel
noncomputable def f_X_act  (a1 : Int32) (a2 : Int32) (a3 : Int32) (m0 : gk_M) : Option (Int32 × gk_M) :=
  gk_bi (f_Ways_perform a1 a2 a3 m0) fun v2 m1 =>
  some (v2, m1)

theorem s_X_act_0 {z : gk_Z} (K : gk_F tx z me_X_act 63) {r : Int32} {mem2 : gk_M} : ∀ a1 a2 a3 m0, f_X_act a1 a2 a3 m0 = some (r, mem2) → gk_G tx z me_X_act (gk_R tx z (some (.int r)) mem2) m0 [(0, .ref 0), (1, .int a1), (2, .int a2), (3, .int a3)] [] 0 := by
  intro a1 a2 a3 m0  h
  unfold f_X_act at h
  refine gk_aload_n (pc := 0) K d_X_act_0 rfl ?_
  refine gk_get (pc := 1) K d_X_act_1 fl_X_65 tx_0 rfl rfl ?_
  refine gk_iload_n (pc := 4) K d_X_act_4 rfl ?_
  refine gk_iload_n (pc := 5) K d_X_act_5 rfl ?_
  refine gk_iload_n (pc := 6) K d_X_act_6 rfl ?_
  obtain ⟨v2, m1, em1, h⟩ := gk_bi_some h
  refine gk_cVi (As := [.int a1, .int a2, .int a3]) (pc := 7) K d_X_act_7 mv_X_279 mc_Ways_perform rfl tx_37 cl_ok7.1 (s_Ways_perform (gk_FD K)  em1) (by decide) rfl (Nat.le_of_ble_eq_true rfl) ?_
  exact gk_iret (pc := 10) K d_X_act_10 rfl h
theorem s_X_act {l : Launch} {u : gk_U} (hD : gk_D tx u) {a1 : Int32} {a2 : Int32} {a3 : Int32} {m0 mem2 : gk_M} {r : Int32} (h : f_X_act a1 a2 a3 m0 = some (r, mem2)) : gk_C tx l u me_X_act 63 [.ref 0, .int a1, .int a2, .int a3] m0 (some (.int r)) mem2 :=
  gk_enter hD mc_X_act (Nat.le_of_ble_eq_true rfl) rfl (fun z _ _ K => s_X_act_0 K _ _ _ _  h)
theorem d_Ways_traced_0 : decode me_Ways_traced.2.1 0 = .ok (.iload_n 1, 1) := by decide +kernel
theorem d_Ways_traced_1 : decode me_Ways_traced.2.1 1 = .ok (.ifCond .lt 25, 3) := by decide +kernel
theorem d_Ways_traced_4 : decode me_Ways_traced.2.1 4 = .ok (.iload_n 1, 1) := by decide +kernel
theorem d_Ways_traced_5 : decode me_Ways_traced.2.1 5 = .ok (.aload_n 0, 1) := by decide +kernel
theorem d_Ways_traced_6 : decode me_Ways_traced.2.1 6 = .ok (.getfield 15, 3) := by decide +kernel
theorem d_Ways_traced_9 : decode me_Ways_traced.2.1 9 = .ok (.bipush 24, 2) := by decide +kernel
theorem d_Ways_traced_11 : decode me_Ways_traced.2.1 11 = .ok (.invokestatic 35, 3) := by decide +kernel
theorem d_Ways_traced_14 : decode me_Ways_traced.2.1 14 = .ok (.if_icmp .ge 12, 3) := by decide +kernel
theorem d_Ways_traced_17 : decode me_Ways_traced.2.1 17 = .ok (.aload_n 0, 1) := by decide +kernel
theorem d_Ways_traced_18 : decode me_Ways_traced.2.1 18 = .ok (.getfield 22, 3) := by decide +kernel
theorem d_Ways_traced_21 : decode me_Ways_traced.2.1 21 = .ok (.iload_n 1, 1) := by decide +kernel
theorem d_Ways_traced_22 : decode me_Ways_traced.2.1 22 = .ok (.iaload, 1) := by decide +kernel
theorem d_Ways_traced_23 : decode me_Ways_traced.2.1 23 = .ok (.goto 4, 3) := by decide +kernel
theorem d_Ways_traced_26 : decode me_Ways_traced.2.1 26 = .ok (.iconst (-1), 1) := by decide +kernel
theorem d_Ways_traced_27 : decode me_Ways_traced.2.1 27 = .ok (.ireturn, 1) := by decide +kernel
noncomputable def f_Ways_traced  (a1 : Int32) (m0 : gk_M) : Option (Int32 × gk_M) :=
  if a1 < 0 then
    some ((-1), m0)
  else
    if (gk_min (m0.1 37 1) 24) ≤ a1 then
      some ((-1), m0)
    else
      gk_ai m0 39 24 a1 fun v1 =>
      some (v1, m0)

theorem s_Ways_traced_0 {z : gk_Z} (K : gk_F tx z me_Ways_traced 2) {r : Int32} {mem2 : gk_M} : ∀ a1 m0, f_Ways_traced a1 m0 = some (r, mem2) → gk_G tx z me_Ways_traced (gk_R tx z (some (.int r)) mem2) m0 [(0, .ref 37), (1, .int a1)] [] 0 := by
  intro a1 m0  h
  unfold f_Ways_traced at h
  refine gk_iload_n (pc := 0) K d_Ways_traced_0 rfl ?_
  refine gk_if_lt (tgt := 26) (pc := 1) K d_Ways_traced_1 (by decide) h (fun h => ?_) (fun h => ?_)
  · refine gk_iconst (pc := 26) K d_Ways_traced_26 kc_m1 ?_
    exact gk_iret (pc := 27) K d_Ways_traced_27 rfl h
  · refine gk_iload_n (pc := 4) K d_Ways_traced_4 rfl ?_
    refine gk_aload_n (pc := 5) K d_Ways_traced_5 rfl ?_
    refine gk_get (pc := 6) K d_Ways_traced_6 fl_Ways_15 tx_37 rfl rfl ?_
    refine gk_bipush (pc := 9) K d_Ways_traced_9 kb_24 ?_
    refine gk_mmin (pc := 11) K d_Ways_traced_11 ms_Ways_35 (by decide) (Nat.le_of_ble_eq_true rfl) ?_
    refine gk_ic_ge (tgt := 26) (pc := 14) K d_Ways_traced_14 (by decide) h (fun h => ?_) (fun h => ?_)
    · refine gk_iconst (pc := 26) K d_Ways_traced_26 kc_m1 ?_
      exact gk_iret (pc := 27) K d_Ways_traced_27 rfl h
    · refine gk_aload_n (pc := 17) K d_Ways_traced_17 rfl ?_
      refine gk_get (pc := 18) K d_Ways_traced_18 fl_Ways_22 tx_37 rfl rfl ?_
      refine gk_iload_n (pc := 21) K d_Ways_traced_21 rfl ?_
      refine gk_iald (pc := 22) K d_Ways_traced_22 tx_39 h (fun v1 h => ?_)
      refine gk_goto (tgt := 27) (pc := 23) K d_Ways_traced_23 (by decide) ?_
      exact gk_iret (pc := 27) K d_Ways_traced_27 rfl h
theorem s_Ways_traced {l : Launch} {u : gk_U} (hD : gk_D tx u) {a1 : Int32} {m0 mem2 : gk_M} {r : Int32} (h : f_Ways_traced a1 m0 = some (r, mem2)) : gk_C tx l u me_Ways_traced 2 [.ref 37, .int a1] m0 (some (.int r)) mem2 :=
  gk_enter hD mc_Ways_traced (Nat.le_of_ble_eq_true rfl) rfl (fun z _ _ K => s_Ways_traced_0 K _ _  h)
theorem d_X_trace_0 : decode me_X_trace.2.1 0 = .ok (.aload_n 0, 1) := by decide +kernel
theorem d_X_trace_1 : decode me_X_trace.2.1 1 = .ok (.getfield 65, 3) := by decide +kernel
theorem d_X_trace_4 : decode me_X_trace.2.1 4 = .ok (.iload_n 1, 1) := by decide +kernel
theorem d_X_trace_5 : decode me_X_trace.2.1 5 = .ok (.invokevirtual 282, 3) := by decide +kernel
theorem d_X_trace_8 : decode me_X_trace.2.1 8 = .ok (.ireturn, 1) := by decide +kernel
noncomputable def f_X_trace  (a1 : Int32) (m0 : gk_M) : Option (Int32 × gk_M) :=
  gk_bi (f_Ways_traced a1 m0) fun v2 m1 =>
  some (v2, m1)

theorem s_X_trace_0 {z : gk_Z} (K : gk_F tx z me_X_trace 3) {r : Int32} {mem2 : gk_M} : ∀ a1 m0, f_X_trace a1 m0 = some (r, mem2) → gk_G tx z me_X_trace (gk_R tx z (some (.int r)) mem2) m0 [(0, .ref 0), (1, .int a1)] [] 0 := by
  intro a1 m0  h
  unfold f_X_trace at h
  refine gk_aload_n (pc := 0) K d_X_trace_0 rfl ?_
  refine gk_get (pc := 1) K d_X_trace_1 fl_X_65 tx_0 rfl rfl ?_
  refine gk_iload_n (pc := 4) K d_X_trace_4 rfl ?_
  obtain ⟨v2, m1, em1, h⟩ := gk_bi_some h
  refine gk_cVi (As := [.int a1]) (pc := 5) K d_X_trace_5 mv_X_282 mc_Ways_traced rfl tx_37 cl_ok7.1 (s_Ways_traced (gk_FD K)  em1) (by decide) rfl (Nat.le_of_ble_eq_true rfl) ?_
  exact gk_iret (pc := 8) K d_X_trace_8 rfl h
theorem s_X_trace {l : Launch} {u : gk_U} (hD : gk_D tx u) {a1 : Int32} {m0 mem2 : gk_M} {r : Int32} (h : f_X_trace a1 m0 = some (r, mem2)) : gk_C tx l u me_X_trace 3 [.ref 0, .int a1] m0 (some (.int r)) mem2 :=
  gk_enter hD mc_X_trace (Nat.le_of_ble_eq_true rfl) rfl (fun z _ _ K => s_X_trace_0 K _ _  h)
theorem d_Shelf_holdBody_0 : decode me_Shelf_holdBody.2.1 0 = .ok (.aload_n 0, 1) := by decide +kernel
theorem d_Shelf_holdBody_1 : decode me_Shelf_holdBody.2.1 1 = .ok (.iload_n 1, 1) := by decide +kernel
theorem d_Shelf_holdBody_2 : decode me_Shelf_holdBody.2.1 2 = .ok (.putfield 13, 3) := by decide +kernel
theorem d_Shelf_holdBody_5 : decode me_Shelf_holdBody.2.1 5 = .ok (.aload_n 0, 1) := by decide +kernel
theorem d_Shelf_holdBody_6 : decode me_Shelf_holdBody.2.1 6 = .ok (.iconst (-1), 1) := by decide +kernel
theorem d_Shelf_holdBody_7 : decode me_Shelf_holdBody.2.1 7 = .ok (.putfield 17, 3) := by decide +kernel
theorem d_Shelf_holdBody_10 : decode me_Shelf_holdBody.2.1 10 = .ok (.aload_n 0, 1) := by decide +kernel
theorem d_Shelf_holdBody_11 : decode me_Shelf_holdBody.2.1 11 = .ok (.iconst 0, 1) := by decide +kernel
theorem d_Shelf_holdBody_12 : decode me_Shelf_holdBody.2.1 12 = .ok (.putfield 20, 3) := by decide +kernel
theorem d_Shelf_holdBody_15 : decode me_Shelf_holdBody.2.1 15 = .ok (.return_, 1) := by decide +kernel
noncomputable def f_Shelf_holdBody  (i0 : Nat) (a1 : Int32) (m0 : gk_M) : Option (Unit × gk_M) :=
  gk_let (gk_mi m0 (41 + i0) 1 a1) fun m1 =>
  gk_let (gk_mi m1 (41 + i0) 2 (-1)) fun m2 =>
  gk_let (gk_mi m2 (41 + i0) 3 0) fun m3 =>
  some ((), m3)

theorem s_Shelf_holdBody_0 {z : gk_Z} (K : gk_F tx z me_Shelf_holdBody 1) {r : Unit} {mem2 : gk_M} : ∀ i0 a1 m0, i0 < 6 → f_Shelf_holdBody i0 a1 m0 = some (r, mem2) → gk_G tx z me_Shelf_holdBody (gk_R tx z none mem2) m0 [(0, .ref (41 + i0)), (1, .int a1)] [] 0 := by
  intro i0 a1 m0 hi0 h
  unfold f_Shelf_holdBody at h
  refine gk_aload_n (pc := 0) K d_Shelf_holdBody_0 rfl ?_
  refine gk_iload_n (pc := 1) K d_Shelf_holdBody_1 rfl ?_
  refine gk_puti (pc := 2) K d_Shelf_holdBody_2 fp_Shelf_13 (tx_sh hi0) rfl h (fun m1 h => ?_)
  refine gk_aload_n (pc := 5) K d_Shelf_holdBody_5 rfl ?_
  refine gk_iconst (pc := 6) K d_Shelf_holdBody_6 kc_m1 ?_
  refine gk_puti (pc := 7) K d_Shelf_holdBody_7 fp_Shelf_17 (tx_sh hi0) rfl h (fun m2 h => ?_)
  refine gk_aload_n (pc := 10) K d_Shelf_holdBody_10 rfl ?_
  refine gk_iconst (pc := 11) K d_Shelf_holdBody_11 kc_0 ?_
  refine gk_puti (pc := 12) K d_Shelf_holdBody_12 fp_Shelf_20 (tx_sh hi0) rfl h (fun m3 h => ?_)
  exact gk_vret (pc := 15) K d_Shelf_holdBody_15 rfl h
theorem s_Shelf_holdBody {l : Launch} {u : gk_U} (hD : gk_D tx u) {i0 : Nat} (hi0 : i0 < 6) {a1 : Int32} {m0 mem2 : gk_M} {r : Unit} (h : f_Shelf_holdBody i0 a1 m0 = some (r, mem2)) : gk_C tx l u me_Shelf_holdBody 1 [.ref (41 + i0), .int a1] m0 none mem2 :=
  gk_enter hD mc_Shelf_holdBody (Nat.le_of_ble_eq_true rfl) rfl (fun z _ _ K => s_Shelf_holdBody_0 K _ _ _ hi0 h)
theorem d_X_keep_0 : decode me_X_keep.2.1 0 = .ok (.iload_n 1, 1) := by decide +kernel
theorem d_X_keep_1 : decode me_X_keep.2.1 1 = .ok (.invokestatic 80, 3) := by decide +kernel
theorem d_X_keep_4 : decode me_X_keep.2.1 4 = .ok (.ifCond .eq 19, 3) := by decide +kernel
theorem d_X_keep_7 : decode me_X_keep.2.1 7 = .ok (.iload_n 2, 1) := by decide +kernel
theorem d_X_keep_8 : decode me_X_keep.2.1 8 = .ok (.iconst (-1), 1) := by decide +kernel
theorem d_X_keep_9 : decode me_X_keep.2.1 9 = .ok (.if_icmp .eq 16, 3) := by decide +kernel
theorem d_X_keep_12 : decode me_X_keep.2.1 12 = .ok (.aload_n 0, 1) := by decide +kernel
theorem d_X_keep_13 : decode me_X_keep.2.1 13 = .ok (.getfield 65, 3) := by decide +kernel
theorem d_X_keep_16 : decode me_X_keep.2.1 16 = .ok (.iload_n 2, 1) := by decide +kernel
theorem d_X_keep_17 : decode me_X_keep.2.1 17 = .ok (.invokevirtual 285, 3) := by decide +kernel
theorem d_X_keep_20 : decode me_X_keep.2.1 20 = .ok (.ifCond .ne 5, 3) := by decide +kernel
theorem d_X_keep_23 : decode me_X_keep.2.1 23 = .ok (.iconst (-1), 1) := by decide +kernel
theorem d_X_keep_24 : decode me_X_keep.2.1 24 = .ok (.ireturn, 1) := by decide +kernel
theorem d_X_keep_25 : decode me_X_keep.2.1 25 = .ok (.aload_n 0, 1) := by decide +kernel
theorem d_X_keep_26 : decode me_X_keep.2.1 26 = .ok (.getfield 71, 3) := by decide +kernel
theorem d_X_keep_29 : decode me_X_keep.2.1 29 = .ok (.iload_n 1, 1) := by decide +kernel
theorem d_X_keep_30 : decode me_X_keep.2.1 30 = .ok (.aaload, 1) := by decide +kernel
theorem d_X_keep_31 : decode me_X_keep.2.1 31 = .ok (.iload_n 2, 1) := by decide +kernel
theorem d_X_keep_32 : decode me_X_keep.2.1 32 = .ok (.invokevirtual 288, 3) := by decide +kernel
theorem d_X_keep_35 : decode me_X_keep.2.1 35 = .ok (.iconst 1, 1) := by decide +kernel
theorem d_X_keep_36 : decode me_X_keep.2.1 36 = .ok (.ireturn, 1) := by decide +kernel
noncomputable def f_X_keep_25  (a1 : Int32) (a2 : Int32) (m0 : gk_M) : Option (Int32 × gk_M) :=
  gk_ar 6 a1 fun i1 =>
  gk_bv (f_Shelf_holdBody i1 a2 m0) fun m2 =>
  some (1, m2)

theorem s_X_keep_25 {z : gk_Z} (K : gk_F tx z me_X_keep 2) {r : Int32} {mem2 : gk_M} : ∀ a1 a2 m0, f_X_keep_25 a1 a2 m0 = some (r, mem2) → gk_G tx z me_X_keep (gk_R tx z (some (.int r)) mem2) m0 [(0, .ref 0), (1, .int a1), (2, .int a2)] [] 25 := by
  intro a1 a2 m0  h
  unfold f_X_keep_25 at h
  refine gk_aload_n (pc := 25) K d_X_keep_25 rfl ?_
  refine gk_get (pc := 26) K d_X_keep_26 fl_X_71 tx_0 rfl rfl ?_
  refine gk_iload_n (pc := 29) K d_X_keep_29 rfl ?_
  refine gk_aald (pc := 30) K d_X_keep_30 tx_40 h (fun i1 hi1 h => ?_)
  refine gk_iload_n (pc := 31) K d_X_keep_31 rfl ?_
  obtain ⟨m2, em2, h⟩ := gk_bv_some h
  refine gk_cVv (As := [.int a2]) (pc := 32) K d_X_keep_32 mv_X_288 mc_Shelf_holdBody rfl (tx_sh hi1) cl_ok8.1 (s_Shelf_holdBody (gk_FD K) hi1 em2) (by decide) rfl (Nat.le_of_ble_eq_true rfl) ?_
  refine gk_iconst (pc := 35) K d_X_keep_35 kc_1 ?_
  exact gk_iret (pc := 36) K d_X_keep_36 rfl h
noncomputable def f_X_keep  (a1 : Int32) (a2 : Int32) (m0 : gk_M) : Option (Int32 × gk_M) :=
  gk_bi (f_X_isShelf a1 m0) fun v2 m1 =>
  if v2 = 0 then
    some ((-1), m1)
  else
    if a2 = (-1) then
      f_X_keep_25 a1 a2 m1
    else
      gk_bi (f_Ways_isBody a2 m1) fun v4 m3 =>
      if ¬ v4 = 0 then
        f_X_keep_25 a1 a2 m3
      else
        some ((-1), m3)

theorem s_X_keep_0 {z : gk_Z} (K : gk_F tx z me_X_keep 2) {r : Int32} {mem2 : gk_M} : ∀ a1 a2 m0, f_X_keep a1 a2 m0 = some (r, mem2) → gk_G tx z me_X_keep (gk_R tx z (some (.int r)) mem2) m0 [(0, .ref 0), (1, .int a1), (2, .int a2)] [] 0 := by
  intro a1 a2 m0  h
  unfold f_X_keep at h
  refine gk_iload_n (pc := 0) K d_X_keep_0 rfl ?_
  obtain ⟨v2, m1, em1, h⟩ := gk_bi_some h
  refine gk_cSi (As := [.int a1]) (pc := 1) K d_X_keep_1 ms_X_80 mc_X_isShelf rfl (s_X_isShelf (gk_FD K)  em1) (by decide) rfl (Nat.le_of_ble_eq_true rfl) ?_
  refine gk_if_eq (tgt := 23) (pc := 4) K d_X_keep_4 (by decide) h (fun h => ?_) (fun h => ?_)
  · refine gk_iconst (pc := 23) K d_X_keep_23 kc_m1 ?_
    exact gk_iret (pc := 24) K d_X_keep_24 rfl h
  · refine gk_iload_n (pc := 7) K d_X_keep_7 rfl ?_
    refine gk_iconst (pc := 8) K d_X_keep_8 kc_m1 ?_
    refine gk_ic_eq (tgt := 25) (pc := 9) K d_X_keep_9 (by decide) h (fun h => ?_) (fun h => ?_)
    · exact gk_sub [0, 1, 2] rfl (s_X_keep_25 K _ _ _  h)
    · refine gk_aload_n (pc := 12) K d_X_keep_12 rfl ?_
      refine gk_get (pc := 13) K d_X_keep_13 fl_X_65 tx_0 rfl rfl ?_
      refine gk_iload_n (pc := 16) K d_X_keep_16 rfl ?_
      obtain ⟨v4, m3, em3, h⟩ := gk_bi_some h
      refine gk_cVi (As := [.int a2]) (pc := 17) K d_X_keep_17 mv_X_285 mc_Ways_isBody rfl tx_37 cl_ok7.1 (s_Ways_isBody (gk_FD K)  em3) (by decide) rfl (Nat.le_of_ble_eq_true rfl) ?_
      refine gk_if_ne (tgt := 25) (pc := 20) K d_X_keep_20 (by decide) h (fun h => ?_) (fun h => ?_)
      · exact gk_sub [0, 1, 2] rfl (s_X_keep_25 K _ _ _  h)
      · refine gk_iconst (pc := 23) K d_X_keep_23 kc_m1 ?_
        exact gk_iret (pc := 24) K d_X_keep_24 rfl h
theorem s_X_keep {l : Launch} {u : gk_U} (hD : gk_D tx u) {a1 : Int32} {a2 : Int32} {m0 mem2 : gk_M} {r : Int32} (h : f_X_keep a1 a2 m0 = some (r, mem2)) : gk_C tx l u me_X_keep 2 [.ref 0, .int a1, .int a2] m0 (some (.int r)) mem2 :=
  gk_enter hD mc_X_keep (Nat.le_of_ble_eq_true rfl) rfl (fun z _ _ K => s_X_keep_0 K _ _ _  h)
theorem d_Arrays_fillJ_0 : decode me_Arrays_fillJ.2.1 0 = .ok (.iconst 0, 1) := by decide +kernel
theorem d_Arrays_fillJ_1 : decode me_Arrays_fillJ.2.1 1 = .ok (.istore_n 3, 1) := by decide +kernel
theorem d_Arrays_fillJ_2 : decode me_Arrays_fillJ.2.1 2 = .ok (.aload_n 0, 1) := by decide +kernel
theorem d_Arrays_fillJ_3 : decode me_Arrays_fillJ.2.1 3 = .ok (.arraylength, 1) := by decide +kernel
theorem d_Arrays_fillJ_4 : decode me_Arrays_fillJ.2.1 4 = .ok (.istore 4, 2) := by decide +kernel
theorem d_Arrays_fillJ_6 : decode me_Arrays_fillJ.2.1 6 = .ok (.iload_n 3, 1) := by decide +kernel
theorem d_Arrays_fillJ_7 : decode me_Arrays_fillJ.2.1 7 = .ok (.iload 4, 2) := by decide +kernel
theorem d_Arrays_fillJ_9 : decode me_Arrays_fillJ.2.1 9 = .ok (.if_icmp .ge 13, 3) := by decide +kernel
theorem d_Arrays_fillJ_12 : decode me_Arrays_fillJ.2.1 12 = .ok (.aload_n 0, 1) := by decide +kernel
theorem d_Arrays_fillJ_13 : decode me_Arrays_fillJ.2.1 13 = .ok (.iload_n 3, 1) := by decide +kernel
theorem d_Arrays_fillJ_14 : decode me_Arrays_fillJ.2.1 14 = .ok (.lload_n 1, 1) := by decide +kernel
theorem d_Arrays_fillJ_15 : decode me_Arrays_fillJ.2.1 15 = .ok (.lastore, 1) := by decide +kernel
theorem d_Arrays_fillJ_16 : decode me_Arrays_fillJ.2.1 16 = .ok (.iinc 3 1, 3) := by decide +kernel
theorem d_Arrays_fillJ_19 : decode me_Arrays_fillJ.2.1 19 = .ok (.goto (-13), 3) := by decide +kernel
theorem d_Arrays_fillJ_22 : decode me_Arrays_fillJ.2.1 22 = .ok (.return_, 1) := by decide +kernel
noncomputable def f_Arrays_fillJ_6 (k0 Lk0 : Nat) : Nat → Int64 → Int32 → Int32 → gk_M → Option (Unit × gk_M)
  | 0, _, _, _, _ => none
  | n + 1, a1, a3, a4, m0 =>
    if a4 ≤ a3 then
      some ((), m0)
    else
      gk_sl m0 k0 Lk0 a3 a1 fun m1 =>
      f_Arrays_fillJ_6 k0 Lk0 n a1 (a3 + 1) a4 m1

theorem s_Arrays_fillJ_6 {z : gk_Z} (K : gk_F tx z me_Arrays_fillJ 1) {r : Unit} {mem2 : gk_M} {k0 Lk0 bk0 : Nat} (hk0 : tx.1[k0]? = some (.inl (2, Lk0, bk0))) : ∀ n a1 a3 a4 m0, f_Arrays_fillJ_6 k0 Lk0 n a1 a3 a4 m0 = some (r, mem2) → gk_G tx z me_Arrays_fillJ (gk_R tx z none mem2) m0 [(0, .ref k0), (1, .long a1), (3, .int a3), (4, .int a4)] [] 6 := by
  intro n
  induction n with
  | zero => intro a1 a3 a4 m0  h; exact nomatch (show (none : Option _) = some _ from h)
  | succ n ih =>
    intro a1 a3 a4 m0  h
    unfold f_Arrays_fillJ_6 at h
    refine gk_iload_n (pc := 6) K d_Arrays_fillJ_6 rfl ?_
    refine gk_iload (pc := 7) K d_Arrays_fillJ_7 rfl ?_
    refine gk_ic_ge (tgt := 22) (pc := 9) K d_Arrays_fillJ_9 (by decide) h (fun h => ?_) (fun h => ?_)
    · exact gk_vret (pc := 22) K d_Arrays_fillJ_22 rfl h
    · refine gk_aload_n (pc := 12) K d_Arrays_fillJ_12 rfl ?_
      refine gk_iload_n (pc := 13) K d_Arrays_fillJ_13 rfl ?_
      refine gk_lload_n (pc := 14) K d_Arrays_fillJ_14 rfl ?_
      refine gk_last (pc := 15) K d_Arrays_fillJ_15 hk0 h (fun m1 h => ?_)
      refine gk_iinc2 (lv2 := [(3, .int (a3 + 1)), (0, .ref k0), (1, .long a1), (4, .int a4)]) (pc := 16) K d_Arrays_fillJ_16 rfl kc_1 (by decide) rfl ?_
      refine gk_goto (tgt := 6) (pc := 19) K d_Arrays_fillJ_19 (by decide) ?_
      exact gk_sub [1, 2, 0, 3] rfl (ih _ _ _ _  h)
noncomputable def f_Arrays_fillJ (k0 Lk0 : Nat) (a1 : Int64) (m0 : gk_M) : Option (Unit × gk_M) :=
  gk_let (Int32.ofNat Lk0) fun v1 =>
  f_Arrays_fillJ_6 k0 Lk0 gk_fv a1 0 v1 m0

theorem s_Arrays_fillJ_0 {z : gk_Z} (K : gk_F tx z me_Arrays_fillJ 1) {r : Unit} {mem2 : gk_M} {k0 Lk0 bk0 : Nat} (hk0 : tx.1[k0]? = some (.inl (2, Lk0, bk0))) : ∀ a1 m0, f_Arrays_fillJ k0 Lk0 a1 m0 = some (r, mem2) → gk_G tx z me_Arrays_fillJ (gk_R tx z none mem2) m0 [(0, .ref k0), (1, .long a1)] [] 0 := by
  intro a1 m0  h
  unfold f_Arrays_fillJ at h
  refine gk_iconst (pc := 0) K d_Arrays_fillJ_0 kc_0 ?_
  refine gk_istore_n (lv2 := [(3, .int 0), (0, .ref k0), (1, .long a1)]) (pc := 1) K d_Arrays_fillJ_1 (by decide) rfl ?_
  refine gk_aload_n (pc := 2) K d_Arrays_fillJ_2 rfl ?_
  refine gk_alen (pc := 3) K d_Arrays_fillJ_3 hk0 rfl ?_
  refine gk_topi h (fun v1 h => ?_)
  refine gk_istore (lv2 := [(4, .int v1), (3, .int 0), (0, .ref k0), (1, .long a1)]) (pc := 4) K d_Arrays_fillJ_4 (by decide) rfl ?_
  exact gk_sub [2, 3, 1, 0] rfl (s_Arrays_fillJ_6 K hk0 _ _ _ _ _  h)
theorem s_Arrays_fillJ {l : Launch} {u : gk_U} (hD : gk_D tx u) {k0 Lk0 bk0 : Nat} (hk0 : tx.1[k0]? = some (.inl (2, Lk0, bk0))) {a1 : Int64} {m0 mem2 : gk_M} {r : Unit} (h : f_Arrays_fillJ k0 Lk0 a1 m0 = some (r, mem2)) : gk_C tx l u me_Arrays_fillJ 1 [.ref k0, .long a1] m0 none mem2 :=
  gk_enter hD mc_Arrays_fillJ (Nat.le_of_ble_eq_true rfl) rfl (fun z _ _ K => s_Arrays_fillJ_0 K hk0 _ _  h)
theorem d_Shelf_holdRow_0 : decode me_Shelf_holdRow.2.1 0 = .ok (.aload_n 0, 1) := by decide +kernel
theorem d_Shelf_holdRow_1 : decode me_Shelf_holdRow.2.1 1 = .ok (.iconst (-1), 1) := by decide +kernel
theorem d_Shelf_holdRow_2 : decode me_Shelf_holdRow.2.1 2 = .ok (.putfield 13, 3) := by decide +kernel
theorem d_Shelf_holdRow_5 : decode me_Shelf_holdRow.2.1 5 = .ok (.aload_n 0, 1) := by decide +kernel
theorem d_Shelf_holdRow_6 : decode me_Shelf_holdRow.2.1 6 = .ok (.iload_n 1, 1) := by decide +kernel
theorem d_Shelf_holdRow_7 : decode me_Shelf_holdRow.2.1 7 = .ok (.putfield 17, 3) := by decide +kernel
theorem d_Shelf_holdRow_10 : decode me_Shelf_holdRow.2.1 10 = .ok (.aload_n 0, 1) := by decide +kernel
theorem d_Shelf_holdRow_11 : decode me_Shelf_holdRow.2.1 11 = .ok (.iload_n 2, 1) := by decide +kernel
theorem d_Shelf_holdRow_12 : decode me_Shelf_holdRow.2.1 12 = .ok (.putfield 20, 3) := by decide +kernel
theorem d_Shelf_holdRow_15 : decode me_Shelf_holdRow.2.1 15 = .ok (.aload_n 0, 1) := by decide +kernel
theorem d_Shelf_holdRow_16 : decode me_Shelf_holdRow.2.1 16 = .ok (.getfield 9, 3) := by decide +kernel
theorem d_Shelf_holdRow_19 : decode me_Shelf_holdRow.2.1 19 = .ok (.lconst 0, 1) := by decide +kernel
theorem d_Shelf_holdRow_20 : decode me_Shelf_holdRow.2.1 20 = .ok (.invokestatic 27, 3) := by decide +kernel
theorem d_Shelf_holdRow_23 : decode me_Shelf_holdRow.2.1 23 = .ok (.return_, 1) := by decide +kernel
noncomputable def f_Shelf_holdRow  (i0 : Nat) (a1 : Int32) (a2 : Int32) (m0 : gk_M) : Option (Unit × gk_M) :=
  gk_let (gk_mi m0 (41 + i0) 1 (-1)) fun m1 =>
  gk_let (gk_mi m1 (41 + i0) 2 a1) fun m2 =>
  gk_let (gk_mi m2 (41 + i0) 3 a2) fun m3 =>
  gk_bv (f_Arrays_fillJ (47 + i0) 60 0 m3) fun m4 =>
  some ((), m4)

theorem s_Shelf_holdRow_0 {z : gk_Z} (K : gk_F tx z me_Shelf_holdRow 2) {r : Unit} {mem2 : gk_M} : ∀ i0 a1 a2 m0, i0 < 6 → f_Shelf_holdRow i0 a1 a2 m0 = some (r, mem2) → gk_G tx z me_Shelf_holdRow (gk_R tx z none mem2) m0 [(0, .ref (41 + i0)), (1, .int a1), (2, .int a2)] [] 0 := by
  intro i0 a1 a2 m0 hi0 h
  unfold f_Shelf_holdRow at h
  refine gk_aload_n (pc := 0) K d_Shelf_holdRow_0 rfl ?_
  refine gk_iconst (pc := 1) K d_Shelf_holdRow_1 kc_m1 ?_
  refine gk_puti (pc := 2) K d_Shelf_holdRow_2 fp_Shelf_13 (tx_sh hi0) rfl h (fun m1 h => ?_)
  refine gk_aload_n (pc := 5) K d_Shelf_holdRow_5 rfl ?_
  refine gk_iload_n (pc := 6) K d_Shelf_holdRow_6 rfl ?_
  refine gk_puti (pc := 7) K d_Shelf_holdRow_7 fp_Shelf_17 (tx_sh hi0) rfl h (fun m2 h => ?_)
  refine gk_aload_n (pc := 10) K d_Shelf_holdRow_10 rfl ?_
  refine gk_iload_n (pc := 11) K d_Shelf_holdRow_11 rfl ?_
  refine gk_puti (pc := 12) K d_Shelf_holdRow_12 fp_Shelf_20 (tx_sh hi0) rfl h (fun m3 h => ?_)
  refine gk_aload_n (pc := 15) K d_Shelf_holdRow_15 rfl ?_
  refine gk_get (pc := 16) K d_Shelf_holdRow_16 fl_Shelf_9 (tx_sh hi0) rfl rfl ?_
  refine gk_lconst (pc := 19) K d_Shelf_holdRow_19 kl_0 ?_
  obtain ⟨m4, em4, h⟩ := gk_bv_some h
  refine gk_cSv (As := [.ref (47 + i0), .long 0]) (pc := 20) K d_Shelf_holdRow_20 ms_Shelf_27 mc_Arrays_fillJ rfl (s_Arrays_fillJ (gk_FD K) (tx_sa hi0) em4) (by decide) rfl (Nat.le_of_ble_eq_true rfl) ?_
  exact gk_vret (pc := 23) K d_Shelf_holdRow_23 rfl h
theorem s_Shelf_holdRow {l : Launch} {u : gk_U} (hD : gk_D tx u) {i0 : Nat} (hi0 : i0 < 6) {a1 : Int32} {a2 : Int32} {m0 mem2 : gk_M} {r : Unit} (h : f_Shelf_holdRow i0 a1 a2 m0 = some (r, mem2)) : gk_C tx l u me_Shelf_holdRow 2 [.ref (41 + i0), .int a1, .int a2] m0 none mem2 :=
  gk_enter hD mc_Shelf_holdRow (Nat.le_of_ble_eq_true rfl) rfl (fun z _ _ K => s_Shelf_holdRow_0 K _ _ _ _ hi0 h)
theorem d_X_row_0 : decode me_X_row.2.1 0 = .ok (.iload_n 1, 1) := by decide +kernel
theorem d_X_row_1 : decode me_X_row.2.1 1 = .ok (.invokestatic 80, 3) := by decide +kernel
theorem d_X_row_4 : decode me_X_row.2.1 4 = .ok (.ifCond .eq 18, 3) := by decide +kernel
theorem d_X_row_7 : decode me_X_row.2.1 7 = .ok (.iload_n 2, 1) := by decide +kernel
theorem d_X_row_8 : decode me_X_row.2.1 8 = .ok (.ifCond .lt 14, 3) := by decide +kernel
theorem d_X_row_11 : decode me_X_row.2.1 11 = .ok (.iload_n 2, 1) := by decide +kernel
theorem d_X_row_12 : decode me_X_row.2.1 12 = .ok (.iconst 4, 1) := by decide +kernel
theorem d_X_row_13 : decode me_X_row.2.1 13 = .ok (.if_icmp .gt 9, 3) := by decide +kernel
theorem d_X_row_16 : decode me_X_row.2.1 16 = .ok (.iload_n 3, 1) := by decide +kernel
theorem d_X_row_17 : decode me_X_row.2.1 17 = .ok (.bipush 60, 2) := by decide +kernel
theorem d_X_row_19 : decode me_X_row.2.1 19 = .ok (.if_icmp .le 5, 3) := by decide +kernel
theorem d_X_row_22 : decode me_X_row.2.1 22 = .ok (.iconst (-1), 1) := by decide +kernel
theorem d_X_row_23 : decode me_X_row.2.1 23 = .ok (.ireturn, 1) := by decide +kernel
theorem d_X_row_24 : decode me_X_row.2.1 24 = .ok (.iload_n 3, 1) := by decide +kernel
theorem d_X_row_25 : decode me_X_row.2.1 25 = .ok (.ifCond .ge 6, 3) := by decide +kernel
theorem d_X_row_28 : decode me_X_row.2.1 28 = .ok (.bipush (-14), 2) := by decide +kernel
theorem d_X_row_30 : decode me_X_row.2.1 30 = .ok (.ireturn, 1) := by decide +kernel
theorem d_X_row_31 : decode me_X_row.2.1 31 = .ok (.aload_n 0, 1) := by decide +kernel
theorem d_X_row_32 : decode me_X_row.2.1 32 = .ok (.getfield 71, 3) := by decide +kernel
theorem d_X_row_35 : decode me_X_row.2.1 35 = .ok (.iload_n 1, 1) := by decide +kernel
theorem d_X_row_36 : decode me_X_row.2.1 36 = .ok (.aaload, 1) := by decide +kernel
theorem d_X_row_37 : decode me_X_row.2.1 37 = .ok (.iload_n 2, 1) := by decide +kernel
theorem d_X_row_38 : decode me_X_row.2.1 38 = .ok (.iload_n 3, 1) := by decide +kernel
theorem d_X_row_39 : decode me_X_row.2.1 39 = .ok (.invokevirtual 292, 3) := by decide +kernel
theorem d_X_row_42 : decode me_X_row.2.1 42 = .ok (.iconst 1, 1) := by decide +kernel
theorem d_X_row_43 : decode me_X_row.2.1 43 = .ok (.ireturn, 1) := by decide +kernel
noncomputable def f_X_row  (a1 : Int32) (a2 : Int32) (a3 : Int32) (m0 : gk_M) : Option (Int32 × gk_M) :=
  gk_bi (f_X_isShelf a1 m0) fun v2 m1 =>
  if v2 = 0 then
    some ((-1), m1)
  else
    if a2 < 0 then
      some ((-1), m1)
    else
      if 4 < a2 then
        some ((-1), m1)
      else
        if a3 ≤ 60 then
          if 0 ≤ a3 then
            gk_ar 6 a1 fun i3 =>
            gk_bv (f_Shelf_holdRow i3 a2 a3 m1) fun m4 =>
            some (1, m4)
          else
            some ((-14), m1)
        else
          some ((-1), m1)

theorem s_X_row_0 {z : gk_Z} (K : gk_F tx z me_X_row 3) {r : Int32} {mem2 : gk_M} : ∀ a1 a2 a3 m0, f_X_row a1 a2 a3 m0 = some (r, mem2) → gk_G tx z me_X_row (gk_R tx z (some (.int r)) mem2) m0 [(0, .ref 0), (1, .int a1), (2, .int a2), (3, .int a3)] [] 0 := by
  intro a1 a2 a3 m0  h
  unfold f_X_row at h
  refine gk_iload_n (pc := 0) K d_X_row_0 rfl ?_
  obtain ⟨v2, m1, em1, h⟩ := gk_bi_some h
  refine gk_cSi (As := [.int a1]) (pc := 1) K d_X_row_1 ms_X_80 mc_X_isShelf rfl (s_X_isShelf (gk_FD K)  em1) (by decide) rfl (Nat.le_of_ble_eq_true rfl) ?_
  refine gk_if_eq (tgt := 22) (pc := 4) K d_X_row_4 (by decide) h (fun h => ?_) (fun h => ?_)
  · refine gk_iconst (pc := 22) K d_X_row_22 kc_m1 ?_
    exact gk_iret (pc := 23) K d_X_row_23 rfl h
  · refine gk_iload_n (pc := 7) K d_X_row_7 rfl ?_
    refine gk_if_lt (tgt := 22) (pc := 8) K d_X_row_8 (by decide) h (fun h => ?_) (fun h => ?_)
    · refine gk_iconst (pc := 22) K d_X_row_22 kc_m1 ?_
      exact gk_iret (pc := 23) K d_X_row_23 rfl h
    · refine gk_iload_n (pc := 11) K d_X_row_11 rfl ?_
      refine gk_iconst (pc := 12) K d_X_row_12 kc_4 ?_
      refine gk_ic_gt (tgt := 22) (pc := 13) K d_X_row_13 (by decide) h (fun h => ?_) (fun h => ?_)
      · refine gk_iconst (pc := 22) K d_X_row_22 kc_m1 ?_
        exact gk_iret (pc := 23) K d_X_row_23 rfl h
      · refine gk_iload_n (pc := 16) K d_X_row_16 rfl ?_
        refine gk_bipush (pc := 17) K d_X_row_17 kb_60 ?_
        refine gk_ic_le (tgt := 24) (pc := 19) K d_X_row_19 (by decide) h (fun h => ?_) (fun h => ?_)
        · refine gk_iload_n (pc := 24) K d_X_row_24 rfl ?_
          refine gk_if_ge (tgt := 31) (pc := 25) K d_X_row_25 (by decide) h (fun h => ?_) (fun h => ?_)
          · refine gk_aload_n (pc := 31) K d_X_row_31 rfl ?_
            refine gk_get (pc := 32) K d_X_row_32 fl_X_71 tx_0 rfl rfl ?_
            refine gk_iload_n (pc := 35) K d_X_row_35 rfl ?_
            refine gk_aald (pc := 36) K d_X_row_36 tx_40 h (fun i3 hi3 h => ?_)
            refine gk_iload_n (pc := 37) K d_X_row_37 rfl ?_
            refine gk_iload_n (pc := 38) K d_X_row_38 rfl ?_
            obtain ⟨m4, em4, h⟩ := gk_bv_some h
            refine gk_cVv (As := [.int a2, .int a3]) (pc := 39) K d_X_row_39 mv_X_292 mc_Shelf_holdRow rfl (tx_sh hi3) cl_ok8.1 (s_Shelf_holdRow (gk_FD K) hi3 em4) (by decide) rfl (Nat.le_of_ble_eq_true rfl) ?_
            refine gk_iconst (pc := 42) K d_X_row_42 kc_1 ?_
            exact gk_iret (pc := 43) K d_X_row_43 rfl h
          · refine gk_bipush (pc := 28) K d_X_row_28 kb_m14 ?_
            exact gk_iret (pc := 30) K d_X_row_30 rfl h
        · refine gk_iconst (pc := 22) K d_X_row_22 kc_m1 ?_
          exact gk_iret (pc := 23) K d_X_row_23 rfl h
theorem s_X_row {l : Launch} {u : gk_U} (hD : gk_D tx u) {a1 : Int32} {a2 : Int32} {a3 : Int32} {m0 mem2 : gk_M} {r : Int32} (h : f_X_row a1 a2 a3 m0 = some (r, mem2)) : gk_C tx l u me_X_row 3 [.ref 0, .int a1, .int a2, .int a3] m0 (some (.int r)) mem2 :=
  gk_enter hD mc_X_row (Nat.le_of_ble_eq_true rfl) rfl (fun z _ _ K => s_X_row_0 K _ _ _ _  h)
theorem d_X_cellRefusal_0 : decode me_X_cellRefusal.2.1 0 = .ok (.iload_n 1, 1) := by decide +kernel
theorem d_X_cellRefusal_1 : decode me_X_cellRefusal.2.1 1 = .ok (.invokestatic 80, 3) := by decide +kernel
theorem d_X_cellRefusal_4 : decode me_X_cellRefusal.2.1 4 = .ok (.ifCond .ne 5, 3) := by decide +kernel
theorem d_X_cellRefusal_7 : decode me_X_cellRefusal.2.1 7 = .ok (.iconst (-1), 1) := by decide +kernel
theorem d_X_cellRefusal_8 : decode me_X_cellRefusal.2.1 8 = .ok (.ireturn, 1) := by decide +kernel
theorem d_X_cellRefusal_9 : decode me_X_cellRefusal.2.1 9 = .ok (.aload_n 0, 1) := by decide +kernel
theorem d_X_cellRefusal_10 : decode me_X_cellRefusal.2.1 10 = .ok (.getfield 71, 3) := by decide +kernel
theorem d_X_cellRefusal_13 : decode me_X_cellRefusal.2.1 13 = .ok (.iload_n 1, 1) := by decide +kernel
theorem d_X_cellRefusal_14 : decode me_X_cellRefusal.2.1 14 = .ok (.aaload, 1) := by decide +kernel
theorem d_X_cellRefusal_15 : decode me_X_cellRefusal.2.1 15 = .ok (.astore_n 3, 1) := by decide +kernel
theorem d_X_cellRefusal_16 : decode me_X_cellRefusal.2.1 16 = .ok (.aload_n 3, 1) := by decide +kernel
theorem d_X_cellRefusal_17 : decode me_X_cellRefusal.2.1 17 = .ok (.invokevirtual 84, 3) := by decide +kernel
theorem d_X_cellRefusal_20 : decode me_X_cellRefusal.2.1 20 = .ok (.ifCond .eq 6, 3) := by decide +kernel
theorem d_X_cellRefusal_23 : decode me_X_cellRefusal.2.1 23 = .ok (.bipush (-11), 2) := by decide +kernel
theorem d_X_cellRefusal_25 : decode me_X_cellRefusal.2.1 25 = .ok (.ireturn, 1) := by decide +kernel
theorem d_X_cellRefusal_26 : decode me_X_cellRefusal.2.1 26 = .ok (.aload_n 3, 1) := by decide +kernel
theorem d_X_cellRefusal_27 : decode me_X_cellRefusal.2.1 27 = .ok (.invokevirtual 304, 3) := by decide +kernel
theorem d_X_cellRefusal_30 : decode me_X_cellRefusal.2.1 30 = .ok (.ifCond .ne 6, 3) := by decide +kernel
theorem d_X_cellRefusal_33 : decode me_X_cellRefusal.2.1 33 = .ok (.bipush (-12), 2) := by decide +kernel
theorem d_X_cellRefusal_35 : decode me_X_cellRefusal.2.1 35 = .ok (.ireturn, 1) := by decide +kernel
theorem d_X_cellRefusal_36 : decode me_X_cellRefusal.2.1 36 = .ok (.aload_n 3, 1) := by decide +kernel
theorem d_X_cellRefusal_37 : decode me_X_cellRefusal.2.1 37 = .ok (.iload_n 2, 1) := by decide +kernel
theorem d_X_cellRefusal_38 : decode me_X_cellRefusal.2.1 38 = .ok (.iconst 1, 1) := by decide +kernel
theorem d_X_cellRefusal_39 : decode me_X_cellRefusal.2.1 39 = .ok (.invokevirtual 91, 3) := by decide +kernel
theorem d_X_cellRefusal_42 : decode me_X_cellRefusal.2.1 42 = .ok (.ifCond .eq 7, 3) := by decide +kernel
theorem d_X_cellRefusal_45 : decode me_X_cellRefusal.2.1 45 = .ok (.iconst 0, 1) := by decide +kernel
theorem d_X_cellRefusal_46 : decode me_X_cellRefusal.2.1 46 = .ok (.goto 5, 3) := by decide +kernel
theorem d_X_cellRefusal_49 : decode me_X_cellRefusal.2.1 49 = .ok (.bipush (-13), 2) := by decide +kernel
theorem d_X_cellRefusal_51 : decode me_X_cellRefusal.2.1 51 = .ok (.ireturn, 1) := by decide +kernel
noncomputable def f_X_cellRefusal  (a1 : Int32) (a2 : Int32) (m0 : gk_M) : Option (Int32 × gk_M) :=
  gk_bi (f_X_isShelf a1 m0) fun v2 m1 =>
  if ¬ v2 = 0 then
    gk_ar 6 a1 fun i3 =>
    gk_bi (f_Shelf_isEmpty i3 m1) fun v5 m4 =>
    if v5 = 0 then
      gk_bi (f_Shelf_isRow i3 m4) fun v7 m6 =>
      if ¬ v7 = 0 then
        gk_bi (f_Shelf_spans i3 a2 1 m6) fun v9 m8 =>
        if v9 = 0 then
          some ((-13), m8)
        else
          some (0, m8)
      else
        some ((-12), m6)
    else
      some ((-11), m4)
  else
    some ((-1), m1)

theorem s_X_cellRefusal_0 {z : gk_Z} (K : gk_F tx z me_X_cellRefusal 2) {r : Int32} {mem2 : gk_M} : ∀ a1 a2 m0, f_X_cellRefusal a1 a2 m0 = some (r, mem2) → gk_G tx z me_X_cellRefusal (gk_R tx z (some (.int r)) mem2) m0 [(0, .ref 0), (1, .int a1), (2, .int a2)] [] 0 := by
  intro a1 a2 m0  h
  unfold f_X_cellRefusal at h
  refine gk_iload_n (pc := 0) K d_X_cellRefusal_0 rfl ?_
  obtain ⟨v2, m1, em1, h⟩ := gk_bi_some h
  refine gk_cSi (As := [.int a1]) (pc := 1) K d_X_cellRefusal_1 ms_X_80 mc_X_isShelf rfl (s_X_isShelf (gk_FD K)  em1) (by decide) rfl (Nat.le_of_ble_eq_true rfl) ?_
  refine gk_if_ne (tgt := 9) (pc := 4) K d_X_cellRefusal_4 (by decide) h (fun h => ?_) (fun h => ?_)
  · refine gk_aload_n (pc := 9) K d_X_cellRefusal_9 rfl ?_
    refine gk_get (pc := 10) K d_X_cellRefusal_10 fl_X_71 tx_0 rfl rfl ?_
    refine gk_iload_n (pc := 13) K d_X_cellRefusal_13 rfl ?_
    refine gk_aald (pc := 14) K d_X_cellRefusal_14 tx_40 h (fun i3 hi3 h => ?_)
    refine gk_astore_n (lv2 := [(3, .ref (41 + i3)), (0, .ref 0), (1, .int a1), (2, .int a2)]) (pc := 15) K d_X_cellRefusal_15 (by decide) rfl ?_
    refine gk_aload_n (pc := 16) K d_X_cellRefusal_16 rfl ?_
    obtain ⟨v5, m4, em4, h⟩ := gk_bi_some h
    refine gk_cVi (As := []) (pc := 17) K d_X_cellRefusal_17 mv_X_84 mc_Shelf_isEmpty rfl (tx_sh hi3) cl_ok8.1 (s_Shelf_isEmpty (gk_FD K) hi3 em4) (by decide) rfl (Nat.le_of_ble_eq_true rfl) ?_
    refine gk_if_eq (tgt := 26) (pc := 20) K d_X_cellRefusal_20 (by decide) h (fun h => ?_) (fun h => ?_)
    · refine gk_aload_n (pc := 26) K d_X_cellRefusal_26 rfl ?_
      obtain ⟨v7, m6, em6, h⟩ := gk_bi_some h
      refine gk_cVi (As := []) (pc := 27) K d_X_cellRefusal_27 mv_X_304 mc_Shelf_isRow rfl (tx_sh hi3) cl_ok8.1 (s_Shelf_isRow (gk_FD K) hi3 em6) (by decide) rfl (Nat.le_of_ble_eq_true rfl) ?_
      refine gk_if_ne (tgt := 36) (pc := 30) K d_X_cellRefusal_30 (by decide) h (fun h => ?_) (fun h => ?_)
      · refine gk_aload_n (pc := 36) K d_X_cellRefusal_36 rfl ?_
        refine gk_iload_n (pc := 37) K d_X_cellRefusal_37 rfl ?_
        refine gk_iconst (pc := 38) K d_X_cellRefusal_38 kc_1 ?_
        obtain ⟨v9, m8, em8, h⟩ := gk_bi_some h
        refine gk_cVi (As := [.int a2, .int 1]) (pc := 39) K d_X_cellRefusal_39 mv_X_91 mc_Shelf_spans rfl (tx_sh hi3) cl_ok8.1 (s_Shelf_spans (gk_FD K) hi3 em8) (by decide) rfl (Nat.le_of_ble_eq_true rfl) ?_
        refine gk_if_eq (tgt := 49) (pc := 42) K d_X_cellRefusal_42 (by decide) h (fun h => ?_) (fun h => ?_)
        · refine gk_bipush (pc := 49) K d_X_cellRefusal_49 kb_m13 ?_
          exact gk_iret (pc := 51) K d_X_cellRefusal_51 rfl h
        · refine gk_iconst (pc := 45) K d_X_cellRefusal_45 kc_0 ?_
          refine gk_goto (tgt := 51) (pc := 46) K d_X_cellRefusal_46 (by decide) ?_
          exact gk_iret (pc := 51) K d_X_cellRefusal_51 rfl h
      · refine gk_bipush (pc := 33) K d_X_cellRefusal_33 kb_m12 ?_
        exact gk_iret (pc := 35) K d_X_cellRefusal_35 rfl h
    · refine gk_bipush (pc := 23) K d_X_cellRefusal_23 kb_m11 ?_
      exact gk_iret (pc := 25) K d_X_cellRefusal_25 rfl h
  · refine gk_iconst (pc := 7) K d_X_cellRefusal_7 kc_m1 ?_
    exact gk_iret (pc := 8) K d_X_cellRefusal_8 rfl h
theorem s_X_cellRefusal {l : Launch} {u : gk_U} (hD : gk_D tx u) {a1 : Int32} {a2 : Int32} {m0 mem2 : gk_M} {r : Int32} (h : f_X_cellRefusal a1 a2 m0 = some (r, mem2)) : gk_C tx l u me_X_cellRefusal 2 [.ref 0, .int a1, .int a2] m0 (some (.int r)) mem2 :=
  gk_enter hD mc_X_cellRefusal (Nat.le_of_ble_eq_true rfl) rfl (fun z _ _ K => s_X_cellRefusal_0 K _ _ _  h)
theorem d_Shelf_narrowed_0 : decode me_Shelf_narrowed.2.1 0 = .ok (.aload_n 0, 1) := by decide +kernel
theorem d_Shelf_narrowed_1 : decode me_Shelf_narrowed.2.1 1 = .ok (.getfield 17, 3) := by decide +kernel
theorem d_Shelf_narrowed_4 : decode me_Shelf_narrowed.2.1 4 = .ok (.tableswitch 48 0 3 #[32, 37, 42, 46], 32) := by decide +kernel
theorem d_Shelf_narrowed_36 : decode me_Shelf_narrowed.2.1 36 = .ok (.lload_n 1, 1) := by decide +kernel
theorem d_Shelf_narrowed_37 : decode me_Shelf_narrowed.2.1 37 = .ok (.l2i, 1) := by decide +kernel
theorem d_Shelf_narrowed_38 : decode me_Shelf_narrowed.2.1 38 = .ok (.i2b, 1) := by decide +kernel
theorem d_Shelf_narrowed_39 : decode me_Shelf_narrowed.2.1 39 = .ok (.i2l, 1) := by decide +kernel
theorem d_Shelf_narrowed_40 : decode me_Shelf_narrowed.2.1 40 = .ok (.lreturn, 1) := by decide +kernel
theorem d_Shelf_narrowed_41 : decode me_Shelf_narrowed.2.1 41 = .ok (.lload_n 1, 1) := by decide +kernel
theorem d_Shelf_narrowed_42 : decode me_Shelf_narrowed.2.1 42 = .ok (.l2i, 1) := by decide +kernel
theorem d_Shelf_narrowed_43 : decode me_Shelf_narrowed.2.1 43 = .ok (.i2s, 1) := by decide +kernel
theorem d_Shelf_narrowed_44 : decode me_Shelf_narrowed.2.1 44 = .ok (.i2l, 1) := by decide +kernel
theorem d_Shelf_narrowed_45 : decode me_Shelf_narrowed.2.1 45 = .ok (.lreturn, 1) := by decide +kernel
theorem d_Shelf_narrowed_46 : decode me_Shelf_narrowed.2.1 46 = .ok (.lload_n 1, 1) := by decide +kernel
theorem d_Shelf_narrowed_47 : decode me_Shelf_narrowed.2.1 47 = .ok (.l2i, 1) := by decide +kernel
theorem d_Shelf_narrowed_48 : decode me_Shelf_narrowed.2.1 48 = .ok (.i2l, 1) := by decide +kernel
theorem d_Shelf_narrowed_49 : decode me_Shelf_narrowed.2.1 49 = .ok (.lreturn, 1) := by decide +kernel
theorem d_Shelf_narrowed_50 : decode me_Shelf_narrowed.2.1 50 = .ok (.lload_n 1, 1) := by decide +kernel
theorem d_Shelf_narrowed_51 : decode me_Shelf_narrowed.2.1 51 = .ok (.lreturn, 1) := by decide +kernel
theorem d_Shelf_narrowed_52 : decode me_Shelf_narrowed.2.1 52 = .ok (.lload_n 1, 1) := by decide +kernel
theorem d_Shelf_narrowed_53 : decode me_Shelf_narrowed.2.1 53 = .ok (.lconst 0, 1) := by decide +kernel
theorem d_Shelf_narrowed_54 : decode me_Shelf_narrowed.2.1 54 = .ok (.lcmp, 1) := by decide +kernel
theorem d_Shelf_narrowed_55 : decode me_Shelf_narrowed.2.1 55 = .ok (.ifCond .eq 7, 3) := by decide +kernel
theorem d_Shelf_narrowed_58 : decode me_Shelf_narrowed.2.1 58 = .ok (.lconst 1, 1) := by decide +kernel
theorem d_Shelf_narrowed_59 : decode me_Shelf_narrowed.2.1 59 = .ok (.goto 4, 3) := by decide +kernel
theorem d_Shelf_narrowed_62 : decode me_Shelf_narrowed.2.1 62 = .ok (.lconst 0, 1) := by decide +kernel
theorem d_Shelf_narrowed_63 : decode me_Shelf_narrowed.2.1 63 = .ok (.lreturn, 1) := by decide +kernel
noncomputable def f_Shelf_narrowed  (i0 : Nat) (a1 : Int64) (m0 : gk_M) : Option (Int64 × gk_M) :=
  gk_let (m0.1 (41 + i0) 2) fun v1 =>
  if v1 = 0 then
    some (a1.toInt32.toInt8.toInt32.toInt64, m0)
  else
    if v1 = 1 then
      some (a1.toInt32.toInt16.toInt32.toInt64, m0)
    else
      if v1 = 2 then
        some (a1.toInt32.toInt64, m0)
      else
        if v1 = 3 then
          some (a1, m0)
        else
          if a1 = 0 then
            some (0, m0)
          else
            some (1, m0)

theorem s_Shelf_narrowed_0 {z : gk_Z} (K : gk_F tx z me_Shelf_narrowed 1) {r : Int64} {mem2 : gk_M} : ∀ i0 a1 m0, i0 < 6 → f_Shelf_narrowed i0 a1 m0 = some (r, mem2) → gk_G tx z me_Shelf_narrowed (gk_R tx z (some (.long r)) mem2) m0 [(0, .ref (41 + i0)), (1, .long a1)] [] 0 := by
  intro i0 a1 m0 hi0 h
  unfold f_Shelf_narrowed at h
  refine gk_aload_n (pc := 0) K d_Shelf_narrowed_0 rfl ?_
  refine gk_get (pc := 1) K d_Shelf_narrowed_1 fl_Shelf_17 (tx_sh hi0) rfl rfl ?_
  refine gk_topi h (fun v1 h => ?_)
  refine gk_ite (c := v1 = 0) h (fun c2 h => ?_) (fun c2 h => ?_)
  · refine gk_tIn (tgt := 36) (pc := 4) K d_Shelf_narrowed_4 c2 (by decide) (by decide) rfl (by decide) ?_
    refine gk_lload_n (pc := 36) K d_Shelf_narrowed_36 rfl ?_
    refine gk_l2i (pc := 37) K d_Shelf_narrowed_37 ?_
    refine gk_i2b (pc := 38) K d_Shelf_narrowed_38 ?_
    refine gk_i2l (pc := 39) K d_Shelf_narrowed_39 ?_
    exact gk_lret (pc := 40) K d_Shelf_narrowed_40 rfl h
  · skip
    refine gk_ite (c := v1 = 1) h (fun c3 h => ?_) (fun c3 h => ?_)
    · refine gk_tIn (tgt := 41) (pc := 4) K d_Shelf_narrowed_4 c3 (by decide) (by decide) rfl (by decide) ?_
      refine gk_lload_n (pc := 41) K d_Shelf_narrowed_41 rfl ?_
      refine gk_l2i (pc := 42) K d_Shelf_narrowed_42 ?_
      refine gk_i2s (pc := 43) K d_Shelf_narrowed_43 ?_
      refine gk_i2l (pc := 44) K d_Shelf_narrowed_44 ?_
      exact gk_lret (pc := 45) K d_Shelf_narrowed_45 rfl h
    · skip
      refine gk_ite (c := v1 = 2) h (fun c4 h => ?_) (fun c4 h => ?_)
      · refine gk_tIn (tgt := 46) (pc := 4) K d_Shelf_narrowed_4 c4 (by decide) (by decide) rfl (by decide) ?_
        refine gk_lload_n (pc := 46) K d_Shelf_narrowed_46 rfl ?_
        refine gk_l2i (pc := 47) K d_Shelf_narrowed_47 ?_
        refine gk_i2l (pc := 48) K d_Shelf_narrowed_48 ?_
        exact gk_lret (pc := 49) K d_Shelf_narrowed_49 rfl h
      · skip
        refine gk_ite (c := v1 = 3) h (fun c5 h => ?_) (fun c5 h => ?_)
        · refine gk_tIn (tgt := 50) (pc := 4) K d_Shelf_narrowed_4 c5 (by decide) (by decide) rfl (by decide) ?_
          refine gk_lload_n (pc := 50) K d_Shelf_narrowed_50 rfl ?_
          exact gk_lret (pc := 51) K d_Shelf_narrowed_51 rfl h
        · skip
          have gc2 := gk_neq c2 (a := 0) (by decide)
          have gc3 := gk_neq c3 (a := 1) (by decide)
          have gc4 := gk_neq c4 (a := 2) (by decide)
          have gc5 := gk_neq c5 (a := 3) (by decide)
          refine gk_tOut (tgt := 52) (pc := 4) K d_Shelf_narrowed_4 (by omega) (by decide) ?_
          refine gk_lload_n (pc := 52) K d_Shelf_narrowed_52 rfl ?_
          refine gk_lconst (pc := 53) K d_Shelf_narrowed_53 kl_0 ?_
          refine gk_lc_eq (tgt := 62) (pc := 54) K d_Shelf_narrowed_54 d_Shelf_narrowed_55 (by decide) h (fun h => ?_) (fun h => ?_)
          · refine gk_lconst (pc := 62) K d_Shelf_narrowed_62 kl_0 ?_
            exact gk_lret (pc := 63) K d_Shelf_narrowed_63 rfl h
          · refine gk_lconst (pc := 58) K d_Shelf_narrowed_58 kl_1 ?_
            refine gk_goto (tgt := 63) (pc := 59) K d_Shelf_narrowed_59 (by decide) ?_
            exact gk_lret (pc := 63) K d_Shelf_narrowed_63 rfl h
theorem s_Shelf_narrowed {l : Launch} {u : gk_U} (hD : gk_D tx u) {i0 : Nat} (hi0 : i0 < 6) {a1 : Int64} {m0 mem2 : gk_M} {r : Int64} (h : f_Shelf_narrowed i0 a1 m0 = some (r, mem2)) : gk_C tx l u me_Shelf_narrowed 1 [.ref (41 + i0), .long a1] m0 (some (.long r)) mem2 :=
  gk_enter hD mc_Shelf_narrowed (Nat.le_of_ble_eq_true rfl) rfl (fun z _ _ K => s_Shelf_narrowed_0 K _ _ _ hi0 h)
theorem d_Shelf_setCell_0 : decode me_Shelf_setCell.2.1 0 = .ok (.aload_n 0, 1) := by decide +kernel
theorem d_Shelf_setCell_1 : decode me_Shelf_setCell.2.1 1 = .ok (.getfield 9, 3) := by decide +kernel
theorem d_Shelf_setCell_4 : decode me_Shelf_setCell.2.1 4 = .ok (.iload_n 1, 1) := by decide +kernel
theorem d_Shelf_setCell_5 : decode me_Shelf_setCell.2.1 5 = .ok (.aload_n 0, 1) := by decide +kernel
theorem d_Shelf_setCell_6 : decode me_Shelf_setCell.2.1 6 = .ok (.lload_n 2, 1) := by decide +kernel
theorem d_Shelf_setCell_7 : decode me_Shelf_setCell.2.1 7 = .ok (.invokevirtual 33, 3) := by decide +kernel
theorem d_Shelf_setCell_10 : decode me_Shelf_setCell.2.1 10 = .ok (.lastore, 1) := by decide +kernel
theorem d_Shelf_setCell_11 : decode me_Shelf_setCell.2.1 11 = .ok (.return_, 1) := by decide +kernel
noncomputable def f_Shelf_setCell  (i0 : Nat) (a1 : Int32) (a2 : Int64) (m0 : gk_M) : Option (Unit × gk_M) :=
  gk_bl (f_Shelf_narrowed i0 a2 m0) fun v2 m1 =>
  gk_sl m1 (47 + i0) 60 a1 v2 fun m3 =>
  some ((), m3)

theorem s_Shelf_setCell_0 {z : gk_Z} (K : gk_F tx z me_Shelf_setCell 2) {r : Unit} {mem2 : gk_M} : ∀ i0 a1 a2 m0, i0 < 6 → f_Shelf_setCell i0 a1 a2 m0 = some (r, mem2) → gk_G tx z me_Shelf_setCell (gk_R tx z none mem2) m0 [(0, .ref (41 + i0)), (1, .int a1), (2, .long a2)] [] 0 := by
  intro i0 a1 a2 m0 hi0 h
  unfold f_Shelf_setCell at h
  refine gk_aload_n (pc := 0) K d_Shelf_setCell_0 rfl ?_
  refine gk_get (pc := 1) K d_Shelf_setCell_1 fl_Shelf_9 (tx_sh hi0) rfl rfl ?_
  refine gk_iload_n (pc := 4) K d_Shelf_setCell_4 rfl ?_
  refine gk_aload_n (pc := 5) K d_Shelf_setCell_5 rfl ?_
  refine gk_lload_n (pc := 6) K d_Shelf_setCell_6 rfl ?_
  obtain ⟨v2, m1, em1, h⟩ := gk_bl_some h
  refine gk_cVl (As := [.long a2]) (pc := 7) K d_Shelf_setCell_7 mv_Shelf_33 mc_Shelf_narrowed rfl (tx_sh hi0) cl_ok8.1 (s_Shelf_narrowed (gk_FD K) hi0 em1) (by decide) rfl (Nat.le_of_ble_eq_true rfl) ?_
  refine gk_last (pc := 10) K d_Shelf_setCell_10 (tx_sa hi0) h (fun m3 h => ?_)
  exact gk_vret (pc := 11) K d_Shelf_setCell_11 rfl h
theorem s_Shelf_setCell {l : Launch} {u : gk_U} (hD : gk_D tx u) {i0 : Nat} (hi0 : i0 < 6) {a1 : Int32} {a2 : Int64} {m0 mem2 : gk_M} {r : Unit} (h : f_Shelf_setCell i0 a1 a2 m0 = some (r, mem2)) : gk_C tx l u me_Shelf_setCell 2 [.ref (41 + i0), .int a1, .long a2] m0 none mem2 :=
  gk_enter hD mc_Shelf_setCell (Nat.le_of_ble_eq_true rfl) rfl (fun z _ _ K => s_Shelf_setCell_0 K _ _ _ _ hi0 h)
theorem d_X_put_0 : decode me_X_put.2.1 0 = .ok (.aload_n 0, 1) := by decide +kernel
theorem d_X_put_1 : decode me_X_put.2.1 1 = .ok (.iload_n 1, 1) := by decide +kernel
theorem d_X_put_2 : decode me_X_put.2.1 2 = .ok (.iload_n 2, 1) := by decide +kernel
theorem d_X_put_3 : decode me_X_put.2.1 3 = .ok (.invokevirtual 295, 3) := by decide +kernel
theorem d_X_put_6 : decode me_X_put.2.1 6 = .ok (.istore 5, 2) := by decide +kernel
theorem d_X_put_8 : decode me_X_put.2.1 8 = .ok (.iload 5, 2) := by decide +kernel
theorem d_X_put_10 : decode me_X_put.2.1 10 = .ok (.ifCond .eq 6, 3) := by decide +kernel
theorem d_X_put_13 : decode me_X_put.2.1 13 = .ok (.iload 5, 2) := by decide +kernel
theorem d_X_put_15 : decode me_X_put.2.1 15 = .ok (.ireturn, 1) := by decide +kernel
theorem d_X_put_16 : decode me_X_put.2.1 16 = .ok (.aload_n 0, 1) := by decide +kernel
theorem d_X_put_17 : decode me_X_put.2.1 17 = .ok (.getfield 71, 3) := by decide +kernel
theorem d_X_put_20 : decode me_X_put.2.1 20 = .ok (.iload_n 1, 1) := by decide +kernel
theorem d_X_put_21 : decode me_X_put.2.1 21 = .ok (.aaload, 1) := by decide +kernel
theorem d_X_put_22 : decode me_X_put.2.1 22 = .ok (.iload_n 2, 1) := by decide +kernel
theorem d_X_put_23 : decode me_X_put.2.1 23 = .ok (.lload_n 3, 1) := by decide +kernel
theorem d_X_put_24 : decode me_X_put.2.1 24 = .ok (.invokevirtual 298, 3) := by decide +kernel
theorem d_X_put_27 : decode me_X_put.2.1 27 = .ok (.iconst 1, 1) := by decide +kernel
theorem d_X_put_28 : decode me_X_put.2.1 28 = .ok (.ireturn, 1) := by decide +kernel
noncomputable def f_X_put  (a1 : Int32) (a2 : Int32) (a3 : Int64) (m0 : gk_M) : Option (Int32 × gk_M) :=
  gk_bi (f_X_cellRefusal a1 a2 m0) fun v2 m1 =>
  if v2 = 0 then
    gk_ar 6 a1 fun i3 =>
    gk_bv (f_Shelf_setCell i3 a2 a3 m1) fun m4 =>
    some (1, m4)
  else
    some (v2, m1)

theorem s_X_put_0 {z : gk_Z} (K : gk_F tx z me_X_put 3) {r : Int32} {mem2 : gk_M} : ∀ a1 a2 a3 m0, f_X_put a1 a2 a3 m0 = some (r, mem2) → gk_G tx z me_X_put (gk_R tx z (some (.int r)) mem2) m0 [(0, .ref 0), (1, .int a1), (2, .int a2), (3, .long a3)] [] 0 := by
  intro a1 a2 a3 m0  h
  unfold f_X_put at h
  refine gk_aload_n (pc := 0) K d_X_put_0 rfl ?_
  refine gk_iload_n (pc := 1) K d_X_put_1 rfl ?_
  refine gk_iload_n (pc := 2) K d_X_put_2 rfl ?_
  obtain ⟨v2, m1, em1, h⟩ := gk_bi_some h
  refine gk_cVi (As := [.int a1, .int a2]) (pc := 3) K d_X_put_3 mv_X_295 mc_X_cellRefusal rfl tx_0 cl_ok9.1 (s_X_cellRefusal (gk_FD K)  em1) (by decide) rfl (Nat.le_of_ble_eq_true rfl) ?_
  refine gk_istore (lv2 := [(5, .int v2), (0, .ref 0), (1, .int a1), (2, .int a2), (3, .long a3)]) (pc := 6) K d_X_put_6 (by decide) rfl ?_
  refine gk_iload (pc := 8) K d_X_put_8 rfl ?_
  refine gk_if_eq (tgt := 16) (pc := 10) K d_X_put_10 (by decide) h (fun h => ?_) (fun h => ?_)
  · refine gk_aload_n (pc := 16) K d_X_put_16 rfl ?_
    refine gk_get (pc := 17) K d_X_put_17 fl_X_71 tx_0 rfl rfl ?_
    refine gk_iload_n (pc := 20) K d_X_put_20 rfl ?_
    refine gk_aald (pc := 21) K d_X_put_21 tx_40 h (fun i3 hi3 h => ?_)
    refine gk_iload_n (pc := 22) K d_X_put_22 rfl ?_
    refine gk_lload_n (pc := 23) K d_X_put_23 rfl ?_
    obtain ⟨m4, em4, h⟩ := gk_bv_some h
    refine gk_cVv (As := [.int a2, .long a3]) (pc := 24) K d_X_put_24 mv_X_298 mc_Shelf_setCell rfl (tx_sh hi3) cl_ok8.1 (s_Shelf_setCell (gk_FD K) hi3 em4) (by decide) rfl (Nat.le_of_ble_eq_true rfl) ?_
    refine gk_iconst (pc := 27) K d_X_put_27 kc_1 ?_
    exact gk_iret (pc := 28) K d_X_put_28 rfl h
  · refine gk_iload (pc := 13) K d_X_put_13 rfl ?_
    exact gk_iret (pc := 15) K d_X_put_15 rfl h
theorem s_X_put {l : Launch} {u : gk_U} (hD : gk_D tx u) {a1 : Int32} {a2 : Int32} {a3 : Int64} {m0 mem2 : gk_M} {r : Int32} (h : f_X_put a1 a2 a3 m0 = some (r, mem2)) : gk_C tx l u me_X_put 3 [.ref 0, .int a1, .int a2, .long a3] m0 (some (.int r)) mem2 :=
  gk_enter hD mc_X_put (Nat.le_of_ble_eq_true rfl) rfl (fun z _ _ K => s_X_put_0 K _ _ _ _  h)
theorem d_X_element_0 : decode me_X_element.2.1 0 = .ok (.aload_n 0, 1) := by decide +kernel
theorem d_X_element_1 : decode me_X_element.2.1 1 = .ok (.iload_n 1, 1) := by decide +kernel
theorem d_X_element_2 : decode me_X_element.2.1 2 = .ok (.iload_n 2, 1) := by decide +kernel
theorem d_X_element_3 : decode me_X_element.2.1 3 = .ok (.invokevirtual 295, 3) := by decide +kernel
theorem d_X_element_6 : decode me_X_element.2.1 6 = .ok (.ifCond .eq 9, 3) := by decide +kernel
theorem d_X_element_9 : decode me_X_element.2.1 9 = .ok (.ldc2_w 302, 3) := by decide +kernel
theorem d_X_element_12 : decode me_X_element.2.1 12 = .ok (.goto 14, 3) := by decide +kernel
theorem d_X_element_15 : decode me_X_element.2.1 15 = .ok (.aload_n 0, 1) := by decide +kernel
theorem d_X_element_16 : decode me_X_element.2.1 16 = .ok (.getfield 71, 3) := by decide +kernel
theorem d_X_element_19 : decode me_X_element.2.1 19 = .ok (.iload_n 1, 1) := by decide +kernel
theorem d_X_element_20 : decode me_X_element.2.1 20 = .ok (.aaload, 1) := by decide +kernel
theorem d_X_element_21 : decode me_X_element.2.1 21 = .ok (.getfield 95, 3) := by decide +kernel
theorem d_X_element_24 : decode me_X_element.2.1 24 = .ok (.iload_n 2, 1) := by decide +kernel
theorem d_X_element_25 : decode me_X_element.2.1 25 = .ok (.laload, 1) := by decide +kernel
theorem d_X_element_26 : decode me_X_element.2.1 26 = .ok (.lreturn, 1) := by decide +kernel
noncomputable def f_X_element  (a1 : Int32) (a2 : Int32) (m0 : gk_M) : Option (Int64 × gk_M) :=
  gk_bi (f_X_cellRefusal a1 a2 m0) fun v2 m1 =>
  if v2 = 0 then
    gk_ar 6 a1 fun i3 =>
    gk_al m1 (47 + i3) 60 a2 fun v4 =>
    some (v4, m1)
  else
    some ((-9223372036854775808), m1)

theorem s_X_element_0 {z : gk_Z} (K : gk_F tx z me_X_element 3) {r : Int64} {mem2 : gk_M} : ∀ a1 a2 m0, f_X_element a1 a2 m0 = some (r, mem2) → gk_G tx z me_X_element (gk_R tx z (some (.long r)) mem2) m0 [(0, .ref 0), (1, .int a1), (2, .int a2)] [] 0 := by
  intro a1 a2 m0  h
  unfold f_X_element at h
  refine gk_aload_n (pc := 0) K d_X_element_0 rfl ?_
  refine gk_iload_n (pc := 1) K d_X_element_1 rfl ?_
  refine gk_iload_n (pc := 2) K d_X_element_2 rfl ?_
  obtain ⟨v2, m1, em1, h⟩ := gk_bi_some h
  refine gk_cVi (As := [.int a1, .int a2]) (pc := 3) K d_X_element_3 mv_X_295 mc_X_cellRefusal rfl tx_0 cl_ok9.1 (s_X_cellRefusal (gk_FD K)  em1) (by decide) rfl (Nat.le_of_ble_eq_true rfl) ?_
  refine gk_if_eq (tgt := 15) (pc := 6) K d_X_element_6 (by decide) h (fun h => ?_) (fun h => ?_)
  · refine gk_aload_n (pc := 15) K d_X_element_15 rfl ?_
    refine gk_get (pc := 16) K d_X_element_16 fl_X_71 tx_0 rfl rfl ?_
    refine gk_iload_n (pc := 19) K d_X_element_19 rfl ?_
    refine gk_aald (pc := 20) K d_X_element_20 tx_40 h (fun i3 hi3 h => ?_)
    refine gk_get (pc := 21) K d_X_element_21 fl_X_95 (tx_sh hi3) rfl rfl ?_
    refine gk_iload_n (pc := 24) K d_X_element_24 rfl ?_
    refine gk_lald (pc := 25) K d_X_element_25 (tx_sa hi3) h (fun v4 h => ?_)
    exact gk_lret (pc := 26) K d_X_element_26 rfl h
  · refine gk_ldc2 (pc := 9) K d_X_element_9 lc_X_302 ?_
    refine gk_goto (tgt := 26) (pc := 12) K d_X_element_12 (by decide) ?_
    exact gk_lret (pc := 26) K d_X_element_26 rfl h
theorem s_X_element {l : Launch} {u : gk_U} (hD : gk_D tx u) {a1 : Int32} {a2 : Int32} {m0 mem2 : gk_M} {r : Int64} (h : f_X_element a1 a2 m0 = some (r, mem2)) : gk_C tx l u me_X_element 3 [.ref 0, .int a1, .int a2] m0 (some (.long r)) mem2 :=
  gk_enter hD mc_X_element (Nat.le_of_ble_eq_true rfl) rfl (fun z _ _ K => s_X_element_0 K _ _ _  h)
theorem d_X_shift_0 : decode me_X_shift.2.1 0 = .ok (.iload_n 1, 1) := by decide +kernel
theorem d_X_shift_1 : decode me_X_shift.2.1 1 = .ok (.invokestatic 80, 3) := by decide +kernel
theorem d_X_shift_4 : decode me_X_shift.2.1 4 = .ok (.ifCond .eq 10, 3) := by decide +kernel
theorem d_X_shift_7 : decode me_X_shift.2.1 7 = .ok (.iload_n 3, 1) := by decide +kernel
theorem d_X_shift_8 : decode me_X_shift.2.1 8 = .ok (.invokestatic 80, 3) := by decide +kernel
theorem d_X_shift_11 : decode me_X_shift.2.1 11 = .ok (.ifCond .ne 5, 3) := by decide +kernel
theorem d_X_shift_14 : decode me_X_shift.2.1 14 = .ok (.iconst (-1), 1) := by decide +kernel
theorem d_X_shift_15 : decode me_X_shift.2.1 15 = .ok (.ireturn, 1) := by decide +kernel
theorem d_X_shift_16 : decode me_X_shift.2.1 16 = .ok (.aload_n 0, 1) := by decide +kernel
theorem d_X_shift_17 : decode me_X_shift.2.1 17 = .ok (.getfield 71, 3) := by decide +kernel
theorem d_X_shift_20 : decode me_X_shift.2.1 20 = .ok (.iload_n 1, 1) := by decide +kernel
theorem d_X_shift_21 : decode me_X_shift.2.1 21 = .ok (.aaload, 1) := by decide +kernel
theorem d_X_shift_22 : decode me_X_shift.2.1 22 = .ok (.astore 6, 2) := by decide +kernel
theorem d_X_shift_24 : decode me_X_shift.2.1 24 = .ok (.aload_n 0, 1) := by decide +kernel
theorem d_X_shift_25 : decode me_X_shift.2.1 25 = .ok (.getfield 71, 3) := by decide +kernel
theorem d_X_shift_28 : decode me_X_shift.2.1 28 = .ok (.iload_n 3, 1) := by decide +kernel
theorem d_X_shift_29 : decode me_X_shift.2.1 29 = .ok (.aaload, 1) := by decide +kernel
theorem d_X_shift_30 : decode me_X_shift.2.1 30 = .ok (.astore 7, 2) := by decide +kernel
theorem d_X_shift_32 : decode me_X_shift.2.1 32 = .ok (.aload 6, 2) := by decide +kernel
theorem d_X_shift_34 : decode me_X_shift.2.1 34 = .ok (.invokevirtual 84, 3) := by decide +kernel
theorem d_X_shift_37 : decode me_X_shift.2.1 37 = .ok (.ifCond .ne 11, 3) := by decide +kernel
theorem d_X_shift_40 : decode me_X_shift.2.1 40 = .ok (.aload 7, 2) := by decide +kernel
theorem d_X_shift_42 : decode me_X_shift.2.1 42 = .ok (.invokevirtual 84, 3) := by decide +kernel
theorem d_X_shift_45 : decode me_X_shift.2.1 45 = .ok (.ifCond .eq 6, 3) := by decide +kernel
theorem d_X_shift_48 : decode me_X_shift.2.1 48 = .ok (.bipush (-11), 2) := by decide +kernel
theorem d_X_shift_50 : decode me_X_shift.2.1 50 = .ok (.ireturn, 1) := by decide +kernel
theorem d_X_shift_51 : decode me_X_shift.2.1 51 = .ok (.aload 6, 2) := by decide +kernel
theorem d_X_shift_53 : decode me_X_shift.2.1 53 = .ok (.invokevirtual 304, 3) := by decide +kernel
theorem d_X_shift_56 : decode me_X_shift.2.1 56 = .ok (.ifCond .eq 16, 3) := by decide +kernel
theorem d_X_shift_59 : decode me_X_shift.2.1 59 = .ok (.aload 7, 2) := by decide +kernel
theorem d_X_shift_61 : decode me_X_shift.2.1 61 = .ok (.aload 6, 2) := by decide +kernel
theorem d_X_shift_63 : decode me_X_shift.2.1 63 = .ok (.getfield 307, 3) := by decide +kernel
theorem d_X_shift_66 : decode me_X_shift.2.1 66 = .ok (.invokevirtual 88, 3) := by decide +kernel
theorem d_X_shift_69 : decode me_X_shift.2.1 69 = .ok (.ifCond .ne 6, 3) := by decide +kernel
theorem d_X_shift_72 : decode me_X_shift.2.1 72 = .ok (.bipush (-12), 2) := by decide +kernel
theorem d_X_shift_74 : decode me_X_shift.2.1 74 = .ok (.ireturn, 1) := by decide +kernel
theorem d_X_shift_75 : decode me_X_shift.2.1 75 = .ok (.aload 6, 2) := by decide +kernel
theorem d_X_shift_77 : decode me_X_shift.2.1 77 = .ok (.iload_n 2, 1) := by decide +kernel
theorem d_X_shift_78 : decode me_X_shift.2.1 78 = .ok (.iload 5, 2) := by decide +kernel
theorem d_X_shift_80 : decode me_X_shift.2.1 80 = .ok (.invokevirtual 91, 3) := by decide +kernel
theorem d_X_shift_83 : decode me_X_shift.2.1 83 = .ok (.ifCond .eq 15, 3) := by decide +kernel
theorem d_X_shift_86 : decode me_X_shift.2.1 86 = .ok (.aload 7, 2) := by decide +kernel
theorem d_X_shift_88 : decode me_X_shift.2.1 88 = .ok (.iload 4, 2) := by decide +kernel
theorem d_X_shift_90 : decode me_X_shift.2.1 90 = .ok (.iload 5, 2) := by decide +kernel
theorem d_X_shift_92 : decode me_X_shift.2.1 92 = .ok (.invokevirtual 91, 3) := by decide +kernel
theorem d_X_shift_95 : decode me_X_shift.2.1 95 = .ok (.ifCond .ne 6, 3) := by decide +kernel
theorem d_X_shift_98 : decode me_X_shift.2.1 98 = .ok (.bipush (-13), 2) := by decide +kernel
theorem d_X_shift_100 : decode me_X_shift.2.1 100 = .ok (.ireturn, 1) := by decide +kernel
theorem d_X_shift_101 : decode me_X_shift.2.1 101 = .ok (.aload 6, 2) := by decide +kernel
theorem d_X_shift_103 : decode me_X_shift.2.1 103 = .ok (.getfield 95, 3) := by decide +kernel
theorem d_X_shift_106 : decode me_X_shift.2.1 106 = .ok (.iload_n 2, 1) := by decide +kernel
theorem d_X_shift_107 : decode me_X_shift.2.1 107 = .ok (.aload 7, 2) := by decide +kernel
theorem d_X_shift_109 : decode me_X_shift.2.1 109 = .ok (.getfield 95, 3) := by decide +kernel
theorem d_X_shift_112 : decode me_X_shift.2.1 112 = .ok (.iload 4, 2) := by decide +kernel
theorem d_X_shift_114 : decode me_X_shift.2.1 114 = .ok (.iload 5, 2) := by decide +kernel
theorem d_X_shift_116 : decode me_X_shift.2.1 116 = .ok (.invokestatic 310, 3) := by decide +kernel
theorem d_X_shift_119 : decode me_X_shift.2.1 119 = .ok (.iload 5, 2) := by decide +kernel
theorem d_X_shift_121 : decode me_X_shift.2.1 121 = .ok (.ireturn, 1) := by decide +kernel
noncomputable def f_X_shift  (a1 : Int32) (a2 : Int32) (a3 : Int32) (a4 : Int32) (a5 : Int32) (m0 : gk_M) : Option (Int32 × gk_M) :=
  gk_bi (f_X_isShelf a1 m0) fun v2 m1 =>
  if v2 = 0 then
    some ((-1), m1)
  else
    gk_bi (f_X_isShelf a3 m1) fun v4 m3 =>
    if ¬ v4 = 0 then
      gk_ar 6 a1 fun i5 =>
      gk_ar 6 a3 fun i6 =>
      gk_bi (f_Shelf_isEmpty i5 m3) fun v8 m7 =>
      if ¬ v8 = 0 then
        some ((-11), m7)
      else
        gk_bi (f_Shelf_isEmpty i6 m7) fun v10 m9 =>
        if v10 = 0 then
          gk_bi (f_Shelf_isRow i5 m9) fun v12 m11 =>
          if v12 = 0 then
            some ((-12), m11)
          else
            gk_bi (f_Shelf_isRowOf i6 (m11.1 (41 + i5) 2) m11) fun v14 m13 =>
            if ¬ v14 = 0 then
              gk_bi (f_Shelf_spans i5 a2 a5 m13) fun v16 m15 =>
              if v16 = 0 then
                some ((-13), m15)
              else
                gk_bi (f_Shelf_spans i6 a4 a5 m15) fun v18 m17 =>
                if ¬ v18 = 0 then
                  gk_cl2 m17 (47 + i5) 60 a2 (47 + i6) 60 a4 a5 fun m19 =>
                  some (a5, m19)
                else
                  some ((-13), m17)
            else
              some ((-12), m13)
        else
          some ((-11), m9)
    else
      some ((-1), m3)

theorem s_X_shift_0 {z : gk_Z} (K : gk_F tx z me_X_shift 3) {r : Int32} {mem2 : gk_M} : ∀ a1 a2 a3 a4 a5 m0, f_X_shift a1 a2 a3 a4 a5 m0 = some (r, mem2) → gk_G tx z me_X_shift (gk_R tx z (some (.int r)) mem2) m0 [(0, .ref 0), (1, .int a1), (2, .int a2), (3, .int a3), (4, .int a4), (5, .int a5)] [] 0 := by
  intro a1 a2 a3 a4 a5 m0  h
  unfold f_X_shift at h
  refine gk_iload_n (pc := 0) K d_X_shift_0 rfl ?_
  obtain ⟨v2, m1, em1, h⟩ := gk_bi_some h
  refine gk_cSi (As := [.int a1]) (pc := 1) K d_X_shift_1 ms_X_80 mc_X_isShelf rfl (s_X_isShelf (gk_FD K)  em1) (by decide) rfl (Nat.le_of_ble_eq_true rfl) ?_
  refine gk_if_eq (tgt := 14) (pc := 4) K d_X_shift_4 (by decide) h (fun h => ?_) (fun h => ?_)
  · refine gk_iconst (pc := 14) K d_X_shift_14 kc_m1 ?_
    exact gk_iret (pc := 15) K d_X_shift_15 rfl h
  · refine gk_iload_n (pc := 7) K d_X_shift_7 rfl ?_
    obtain ⟨v4, m3, em3, h⟩ := gk_bi_some h
    refine gk_cSi (As := [.int a3]) (pc := 8) K d_X_shift_8 ms_X_80 mc_X_isShelf rfl (s_X_isShelf (gk_FD K)  em3) (by decide) rfl (Nat.le_of_ble_eq_true rfl) ?_
    refine gk_if_ne (tgt := 16) (pc := 11) K d_X_shift_11 (by decide) h (fun h => ?_) (fun h => ?_)
    · refine gk_aload_n (pc := 16) K d_X_shift_16 rfl ?_
      refine gk_get (pc := 17) K d_X_shift_17 fl_X_71 tx_0 rfl rfl ?_
      refine gk_iload_n (pc := 20) K d_X_shift_20 rfl ?_
      refine gk_aald (pc := 21) K d_X_shift_21 tx_40 h (fun i5 hi5 h => ?_)
      refine gk_astore (lv2 := [(6, .ref (41 + i5)), (0, .ref 0), (1, .int a1), (2, .int a2), (3, .int a3), (4, .int a4), (5, .int a5)]) (pc := 22) K d_X_shift_22 (by decide) rfl ?_
      refine gk_aload_n (pc := 24) K d_X_shift_24 rfl ?_
      refine gk_get (pc := 25) K d_X_shift_25 fl_X_71 tx_0 rfl rfl ?_
      refine gk_iload_n (pc := 28) K d_X_shift_28 rfl ?_
      refine gk_aald (pc := 29) K d_X_shift_29 tx_40 h (fun i6 hi6 h => ?_)
      refine gk_astore (lv2 := [(7, .ref (41 + i6)), (6, .ref (41 + i5)), (0, .ref 0), (1, .int a1), (2, .int a2), (3, .int a3), (4, .int a4), (5, .int a5)]) (pc := 30) K d_X_shift_30 (by decide) rfl ?_
      refine gk_aload (pc := 32) K d_X_shift_32 rfl ?_
      obtain ⟨v8, m7, em7, h⟩ := gk_bi_some h
      refine gk_cVi (As := []) (pc := 34) K d_X_shift_34 mv_X_84 mc_Shelf_isEmpty rfl (tx_sh hi5) cl_ok8.1 (s_Shelf_isEmpty (gk_FD K) hi5 em7) (by decide) rfl (Nat.le_of_ble_eq_true rfl) ?_
      refine gk_if_ne (tgt := 48) (pc := 37) K d_X_shift_37 (by decide) h (fun h => ?_) (fun h => ?_)
      · refine gk_bipush (pc := 48) K d_X_shift_48 kb_m11 ?_
        exact gk_iret (pc := 50) K d_X_shift_50 rfl h
      · refine gk_aload (pc := 40) K d_X_shift_40 rfl ?_
        obtain ⟨v10, m9, em9, h⟩ := gk_bi_some h
        refine gk_cVi (As := []) (pc := 42) K d_X_shift_42 mv_X_84 mc_Shelf_isEmpty rfl (tx_sh hi6) cl_ok8.1 (s_Shelf_isEmpty (gk_FD K) hi6 em9) (by decide) rfl (Nat.le_of_ble_eq_true rfl) ?_
        refine gk_if_eq (tgt := 51) (pc := 45) K d_X_shift_45 (by decide) h (fun h => ?_) (fun h => ?_)
        · refine gk_aload (pc := 51) K d_X_shift_51 rfl ?_
          obtain ⟨v12, m11, em11, h⟩ := gk_bi_some h
          refine gk_cVi (As := []) (pc := 53) K d_X_shift_53 mv_X_304 mc_Shelf_isRow rfl (tx_sh hi5) cl_ok8.1 (s_Shelf_isRow (gk_FD K) hi5 em11) (by decide) rfl (Nat.le_of_ble_eq_true rfl) ?_
          refine gk_if_eq (tgt := 72) (pc := 56) K d_X_shift_56 (by decide) h (fun h => ?_) (fun h => ?_)
          · refine gk_bipush (pc := 72) K d_X_shift_72 kb_m12 ?_
            exact gk_iret (pc := 74) K d_X_shift_74 rfl h
          · refine gk_aload (pc := 59) K d_X_shift_59 rfl ?_
            refine gk_aload (pc := 61) K d_X_shift_61 rfl ?_
            refine gk_get (pc := 63) K d_X_shift_63 fl_X_307 (tx_sh hi5) rfl rfl ?_
            obtain ⟨v14, m13, em13, h⟩ := gk_bi_some h
            refine gk_cVi (As := [.int (m11.1 (41 + i5) 2)]) (pc := 66) K d_X_shift_66 mv_X_88 mc_Shelf_isRowOf rfl (tx_sh hi6) cl_ok8.1 (s_Shelf_isRowOf (gk_FD K) hi6 em13) (by decide) rfl (Nat.le_of_ble_eq_true rfl) ?_
            refine gk_if_ne (tgt := 75) (pc := 69) K d_X_shift_69 (by decide) h (fun h => ?_) (fun h => ?_)
            · refine gk_aload (pc := 75) K d_X_shift_75 rfl ?_
              refine gk_iload_n (pc := 77) K d_X_shift_77 rfl ?_
              refine gk_iload (pc := 78) K d_X_shift_78 rfl ?_
              obtain ⟨v16, m15, em15, h⟩ := gk_bi_some h
              refine gk_cVi (As := [.int a2, .int a5]) (pc := 80) K d_X_shift_80 mv_X_91 mc_Shelf_spans rfl (tx_sh hi5) cl_ok8.1 (s_Shelf_spans (gk_FD K) hi5 em15) (by decide) rfl (Nat.le_of_ble_eq_true rfl) ?_
              refine gk_if_eq (tgt := 98) (pc := 83) K d_X_shift_83 (by decide) h (fun h => ?_) (fun h => ?_)
              · refine gk_bipush (pc := 98) K d_X_shift_98 kb_m13 ?_
                exact gk_iret (pc := 100) K d_X_shift_100 rfl h
              · refine gk_aload (pc := 86) K d_X_shift_86 rfl ?_
                refine gk_iload (pc := 88) K d_X_shift_88 rfl ?_
                refine gk_iload (pc := 90) K d_X_shift_90 rfl ?_
                obtain ⟨v18, m17, em17, h⟩ := gk_bi_some h
                refine gk_cVi (As := [.int a4, .int a5]) (pc := 92) K d_X_shift_92 mv_X_91 mc_Shelf_spans rfl (tx_sh hi6) cl_ok8.1 (s_Shelf_spans (gk_FD K) hi6 em17) (by decide) rfl (Nat.le_of_ble_eq_true rfl) ?_
                refine gk_if_ne (tgt := 101) (pc := 95) K d_X_shift_95 (by decide) h (fun h => ?_) (fun h => ?_)
                · refine gk_aload (pc := 101) K d_X_shift_101 rfl ?_
                  refine gk_get (pc := 103) K d_X_shift_103 fl_X_95 (tx_sh hi5) rfl rfl ?_
                  refine gk_iload_n (pc := 106) K d_X_shift_106 rfl ?_
                  refine gk_aload (pc := 107) K d_X_shift_107 rfl ?_
                  refine gk_get (pc := 109) K d_X_shift_109 fl_X_95 (tx_sh hi6) rfl rfl ?_
                  refine gk_iload (pc := 112) K d_X_shift_112 rfl ?_
                  refine gk_iload (pc := 114) K d_X_shift_114 rfl ?_
                  refine gk_cpyl (pc := 116) K d_X_shift_116 ac_X_310 (tx_sa hi5) (tx_sa hi6) h (by decide) (Nat.le_of_ble_eq_true rfl) (fun m19 h => ?_)
                  refine gk_iload (pc := 119) K d_X_shift_119 rfl ?_
                  exact gk_iret (pc := 121) K d_X_shift_121 rfl h
                · refine gk_bipush (pc := 98) K d_X_shift_98 kb_m13 ?_
                  exact gk_iret (pc := 100) K d_X_shift_100 rfl h
            · refine gk_bipush (pc := 72) K d_X_shift_72 kb_m12 ?_
              exact gk_iret (pc := 74) K d_X_shift_74 rfl h
        · refine gk_bipush (pc := 48) K d_X_shift_48 kb_m11 ?_
          exact gk_iret (pc := 50) K d_X_shift_50 rfl h
    · refine gk_iconst (pc := 14) K d_X_shift_14 kc_m1 ?_
      exact gk_iret (pc := 15) K d_X_shift_15 rfl h
theorem s_X_shift {l : Launch} {u : gk_U} (hD : gk_D tx u) {a1 : Int32} {a2 : Int32} {a3 : Int32} {a4 : Int32} {a5 : Int32} {m0 mem2 : gk_M} {r : Int32} (h : f_X_shift a1 a2 a3 a4 a5 m0 = some (r, mem2)) : gk_C tx l u me_X_shift 3 [.ref 0, .int a1, .int a2, .int a3, .int a4, .int a5] m0 (some (.int r)) mem2 :=
  gk_enter hD mc_X_shift (Nat.le_of_ble_eq_true rfl) rfl (fun z _ _ K => s_X_shift_0 K _ _ _ _ _ _  h)
theorem d_Ways_kindOf_0 : decode me_Ways_kindOf.2.1 0 = .ok (.aload_n 0, 1) := by decide +kernel
theorem d_Ways_kindOf_1 : decode me_Ways_kindOf.2.1 1 = .ok (.iload_n 1, 1) := by decide +kernel
theorem d_Ways_kindOf_2 : decode me_Ways_kindOf.2.1 2 = .ok (.invokevirtual 31, 3) := by decide +kernel
theorem d_Ways_kindOf_5 : decode me_Ways_kindOf.2.1 5 = .ok (.ifCond .eq 12, 3) := by decide +kernel
theorem d_Ways_kindOf_8 : decode me_Ways_kindOf.2.1 8 = .ok (.aload_n 0, 1) := by decide +kernel
theorem d_Ways_kindOf_9 : decode me_Ways_kindOf.2.1 9 = .ok (.getfield 18, 3) := by decide +kernel
theorem d_Ways_kindOf_12 : decode me_Ways_kindOf.2.1 12 = .ok (.iload_n 1, 1) := by decide +kernel
theorem d_Ways_kindOf_13 : decode me_Ways_kindOf.2.1 13 = .ok (.iaload, 1) := by decide +kernel
theorem d_Ways_kindOf_14 : decode me_Ways_kindOf.2.1 14 = .ok (.goto 4, 3) := by decide +kernel
theorem d_Ways_kindOf_17 : decode me_Ways_kindOf.2.1 17 = .ok (.iconst 0, 1) := by decide +kernel
theorem d_Ways_kindOf_18 : decode me_Ways_kindOf.2.1 18 = .ok (.ireturn, 1) := by decide +kernel
noncomputable def f_Ways_kindOf  (a1 : Int32) (m0 : gk_M) : Option (Int32 × gk_M) :=
  gk_bi (f_Ways_isBody a1 m0) fun v2 m1 =>
  if v2 = 0 then
    some (0, m1)
  else
    gk_ai m1 38 50 a1 fun v3 =>
    some (v3, m1)

theorem s_Ways_kindOf_0 {z : gk_Z} (K : gk_F tx z me_Ways_kindOf 2) {r : Int32} {mem2 : gk_M} : ∀ a1 m0, f_Ways_kindOf a1 m0 = some (r, mem2) → gk_G tx z me_Ways_kindOf (gk_R tx z (some (.int r)) mem2) m0 [(0, .ref 37), (1, .int a1)] [] 0 := by
  intro a1 m0  h
  unfold f_Ways_kindOf at h
  refine gk_aload_n (pc := 0) K d_Ways_kindOf_0 rfl ?_
  refine gk_iload_n (pc := 1) K d_Ways_kindOf_1 rfl ?_
  obtain ⟨v2, m1, em1, h⟩ := gk_bi_some h
  refine gk_cVi (As := [.int a1]) (pc := 2) K d_Ways_kindOf_2 mv_Ways_31 mc_Ways_isBody rfl tx_37 cl_ok7.1 (s_Ways_isBody (gk_FD K)  em1) (by decide) rfl (Nat.le_of_ble_eq_true rfl) ?_
  refine gk_if_eq (tgt := 17) (pc := 5) K d_Ways_kindOf_5 (by decide) h (fun h => ?_) (fun h => ?_)
  · refine gk_iconst (pc := 17) K d_Ways_kindOf_17 kc_0 ?_
    exact gk_iret (pc := 18) K d_Ways_kindOf_18 rfl h
  · refine gk_aload_n (pc := 8) K d_Ways_kindOf_8 rfl ?_
    refine gk_get (pc := 9) K d_Ways_kindOf_9 fl_Ways_18 tx_37 rfl rfl ?_
    refine gk_iload_n (pc := 12) K d_Ways_kindOf_12 rfl ?_
    refine gk_iald (pc := 13) K d_Ways_kindOf_13 tx_38 h (fun v3 h => ?_)
    refine gk_goto (tgt := 18) (pc := 14) K d_Ways_kindOf_14 (by decide) ?_
    exact gk_iret (pc := 18) K d_Ways_kindOf_18 rfl h
theorem s_Ways_kindOf {l : Launch} {u : gk_U} (hD : gk_D tx u) {a1 : Int32} {m0 mem2 : gk_M} {r : Int32} (h : f_Ways_kindOf a1 m0 = some (r, mem2)) : gk_C tx l u me_Ways_kindOf 2 [.ref 37, .int a1] m0 (some (.int r)) mem2 :=
  gk_enter hD mc_Ways_kindOf (Nat.le_of_ble_eq_true rfl) rfl (fun z _ _ K => s_Ways_kindOf_0 K _ _  h)
theorem d_Ways_isUnder_0 : decode me_Ways_isUnder.2.1 0 = .ok (.iload_n 0, 1) := by decide +kernel
theorem d_Ways_isUnder_1 : decode me_Ways_isUnder.2.1 1 = .ok (.istore_n 2, 1) := by decide +kernel
theorem d_Ways_isUnder_2 : decode me_Ways_isUnder.2.1 2 = .ok (.iconst 0, 1) := by decide +kernel
theorem d_Ways_isUnder_3 : decode me_Ways_isUnder.2.1 3 = .ok (.istore_n 3, 1) := by decide +kernel
theorem d_Ways_isUnder_4 : decode me_Ways_isUnder.2.1 4 = .ok (.iload_n 3, 1) := by decide +kernel
theorem d_Ways_isUnder_5 : decode me_Ways_isUnder.2.1 5 = .ok (.bipush 8, 2) := by decide +kernel
theorem d_Ways_isUnder_7 : decode me_Ways_isUnder.2.1 7 = .ok (.if_icmp .ge 26, 3) := by decide +kernel
theorem d_Ways_isUnder_10 : decode me_Ways_isUnder.2.1 10 = .ok (.iload_n 2, 1) := by decide +kernel
theorem d_Ways_isUnder_11 : decode me_Ways_isUnder.2.1 11 = .ok (.ifCond .lt 22, 3) := by decide +kernel
theorem d_Ways_isUnder_14 : decode me_Ways_isUnder.2.1 14 = .ok (.iload_n 2, 1) := by decide +kernel
theorem d_Ways_isUnder_15 : decode me_Ways_isUnder.2.1 15 = .ok (.iload_n 1, 1) := by decide +kernel
theorem d_Ways_isUnder_16 : decode me_Ways_isUnder.2.1 16 = .ok (.if_icmp .ne 5, 3) := by decide +kernel
theorem d_Ways_isUnder_19 : decode me_Ways_isUnder.2.1 19 = .ok (.iconst 1, 1) := by decide +kernel
theorem d_Ways_isUnder_20 : decode me_Ways_isUnder.2.1 20 = .ok (.ireturn, 1) := by decide +kernel
theorem d_Ways_isUnder_21 : decode me_Ways_isUnder.2.1 21 = .ok (.getstatic 28, 3) := by decide +kernel
theorem d_Ways_isUnder_24 : decode me_Ways_isUnder.2.1 24 = .ok (.iload_n 2, 1) := by decide +kernel
theorem d_Ways_isUnder_25 : decode me_Ways_isUnder.2.1 25 = .ok (.iaload, 1) := by decide +kernel
theorem d_Ways_isUnder_26 : decode me_Ways_isUnder.2.1 26 = .ok (.istore_n 2, 1) := by decide +kernel
theorem d_Ways_isUnder_27 : decode me_Ways_isUnder.2.1 27 = .ok (.iinc 3 1, 3) := by decide +kernel
theorem d_Ways_isUnder_30 : decode me_Ways_isUnder.2.1 30 = .ok (.goto (-26), 3) := by decide +kernel
theorem d_Ways_isUnder_33 : decode me_Ways_isUnder.2.1 33 = .ok (.iconst 0, 1) := by decide +kernel
theorem d_Ways_isUnder_34 : decode me_Ways_isUnder.2.1 34 = .ok (.ireturn, 1) := by decide +kernel
noncomputable def f_Ways_isUnder_4  : Nat → Int32 → Int32 → Int32 → gk_M → Option (Int32 × gk_M)
  | 0, _, _, _, _ => none
  | n + 1, a1, a2, a3, m0 =>
    if 8 ≤ a3 then
      some (0, m0)
    else
      if a2 < 0 then
        some (0, m0)
      else
        if ¬ a2 = a1 then
          gk_at tb_0 a2 fun v1 =>
          f_Ways_isUnder_4 n a1 v1 (a3 + 1) m0
        else
          some (1, m0)

theorem s_Ways_isUnder_4 {z : gk_Z} (K : gk_F tx z me_Ways_isUnder 1) {r : Int32} {mem2 : gk_M} : ∀ n a1 a2 a3 m0, f_Ways_isUnder_4 n a1 a2 a3 m0 = some (r, mem2) → gk_G tx z me_Ways_isUnder (gk_R tx z (some (.int r)) mem2) m0 [(1, .int a1), (2, .int a2), (3, .int a3)] [] 4 := by
  intro n
  induction n with
  | zero => intro a1 a2 a3 m0  h; exact nomatch (show (none : Option _) = some _ from h)
  | succ n ih =>
    intro a1 a2 a3 m0  h
    unfold f_Ways_isUnder_4 at h
    refine gk_iload_n (pc := 4) K d_Ways_isUnder_4 rfl ?_
    refine gk_bipush (pc := 5) K d_Ways_isUnder_5 kb_8 ?_
    refine gk_ic_ge (tgt := 33) (pc := 7) K d_Ways_isUnder_7 (by decide) h (fun h => ?_) (fun h => ?_)
    · refine gk_iconst (pc := 33) K d_Ways_isUnder_33 kc_0 ?_
      exact gk_zretc (pc := 34) K d_Ways_isUnder_34 rfl (Or.inl rfl) h
    · refine gk_iload_n (pc := 10) K d_Ways_isUnder_10 rfl ?_
      refine gk_if_lt (tgt := 33) (pc := 11) K d_Ways_isUnder_11 (by decide) h (fun h => ?_) (fun h => ?_)
      · refine gk_iconst (pc := 33) K d_Ways_isUnder_33 kc_0 ?_
        exact gk_zretc (pc := 34) K d_Ways_isUnder_34 rfl (Or.inl rfl) h
      · refine gk_iload_n (pc := 14) K d_Ways_isUnder_14 rfl ?_
        refine gk_iload_n (pc := 15) K d_Ways_isUnder_15 rfl ?_
        refine gk_ic_ne (tgt := 21) (pc := 16) K d_Ways_isUnder_16 (by decide) h (fun h => ?_) (fun h => ?_)
        · refine gk_gets (i := 0) (pc := 21) K d_Ways_isUnder_21 tt_0 fs_Ways_28 ?_
          refine gk_iload_n (pc := 24) K d_Ways_isUnder_24 rfl ?_
          refine gk_tald (n := 0) (pc := 25) K d_Ways_isUnder_25 tt_0 h (fun v1 h => ?_)
          refine gk_istore_n (lv2 := [(2, .int v1), (1, .int a1), (3, .int a3)]) (pc := 26) K d_Ways_isUnder_26 (by decide) rfl ?_
          refine gk_iinc2 (lv2 := [(3, .int (a3 + 1)), (2, .int v1), (1, .int a1)]) (pc := 27) K d_Ways_isUnder_27 rfl kc_1 (by decide) rfl ?_
          refine gk_goto (tgt := 4) (pc := 30) K d_Ways_isUnder_30 (by decide) ?_
          exact gk_sub [2, 1, 0] rfl (ih _ _ _ _  h)
        · refine gk_iconst (pc := 19) K d_Ways_isUnder_19 kc_1 ?_
          exact gk_zretc (pc := 20) K d_Ways_isUnder_20 rfl (Or.inr rfl) h
noncomputable def f_Ways_isUnder  (a0 : Int32) (a1 : Int32) (m0 : gk_M) : Option (Int32 × gk_M) :=
  f_Ways_isUnder_4 gk_fv a1 a0 0 m0

theorem s_Ways_isUnder_0 {z : gk_Z} (K : gk_F tx z me_Ways_isUnder 1) {r : Int32} {mem2 : gk_M} : ∀ a0 a1 m0, f_Ways_isUnder a0 a1 m0 = some (r, mem2) → gk_G tx z me_Ways_isUnder (gk_R tx z (some (.int r)) mem2) m0 [(0, .int a0), (1, .int a1)] [] 0 := by
  intro a0 a1 m0  h
  unfold f_Ways_isUnder at h
  refine gk_iload_n (pc := 0) K d_Ways_isUnder_0 rfl ?_
  refine gk_istore_n (lv2 := [(2, .int a0), (0, .int a0), (1, .int a1)]) (pc := 1) K d_Ways_isUnder_1 (by decide) rfl ?_
  refine gk_iconst (pc := 2) K d_Ways_isUnder_2 kc_0 ?_
  refine gk_istore_n (lv2 := [(3, .int 0), (2, .int a0), (0, .int a0), (1, .int a1)]) (pc := 3) K d_Ways_isUnder_3 (by decide) rfl ?_
  exact gk_sub [3, 1, 0] rfl (s_Ways_isUnder_4 K _ _ _ _ _  h)
theorem s_Ways_isUnder {l : Launch} {u : gk_U} (hD : gk_D tx u) {a0 : Int32} {a1 : Int32} {m0 mem2 : gk_M} {r : Int32} (h : f_Ways_isUnder a0 a1 m0 = some (r, mem2)) : gk_C tx l u me_Ways_isUnder 1 [.int a0, .int a1] m0 (some (.int r)) mem2 :=
  gk_enter hD mc_Ways_isUnder (Nat.le_of_ble_eq_true rfl) rfl (fun z _ _ K => s_Ways_isUnder_0 K _ _ _  h)
theorem d_X_taken_0 : decode me_X_taken.2.1 0 = .ok (.iload_n 1, 1) := by decide +kernel
theorem d_X_taken_1 : decode me_X_taken.2.1 1 = .ok (.invokestatic 80, 3) := by decide +kernel
theorem d_X_taken_4 : decode me_X_taken.2.1 4 = .ok (.ifCond .eq 10, 3) := by decide +kernel
theorem d_X_taken_7 : decode me_X_taken.2.1 7 = .ok (.iload_n 2, 1) := by decide +kernel
theorem d_X_taken_8 : decode me_X_taken.2.1 8 = .ok (.invokestatic 273, 3) := by decide +kernel
theorem d_X_taken_11 : decode me_X_taken.2.1 11 = .ok (.ifCond .ne 5, 3) := by decide +kernel
theorem d_X_taken_14 : decode me_X_taken.2.1 14 = .ok (.iconst (-1), 1) := by decide +kernel
theorem d_X_taken_15 : decode me_X_taken.2.1 15 = .ok (.ireturn, 1) := by decide +kernel
theorem d_X_taken_16 : decode me_X_taken.2.1 16 = .ok (.aload_n 0, 1) := by decide +kernel
theorem d_X_taken_17 : decode me_X_taken.2.1 17 = .ok (.getfield 71, 3) := by decide +kernel
theorem d_X_taken_20 : decode me_X_taken.2.1 20 = .ok (.iload_n 1, 1) := by decide +kernel
theorem d_X_taken_21 : decode me_X_taken.2.1 21 = .ok (.aaload, 1) := by decide +kernel
theorem d_X_taken_22 : decode me_X_taken.2.1 22 = .ok (.astore_n 3, 1) := by decide +kernel
theorem d_X_taken_23 : decode me_X_taken.2.1 23 = .ok (.aload_n 3, 1) := by decide +kernel
theorem d_X_taken_24 : decode me_X_taken.2.1 24 = .ok (.invokevirtual 84, 3) := by decide +kernel
theorem d_X_taken_27 : decode me_X_taken.2.1 27 = .ok (.ifCond .eq 6, 3) := by decide +kernel
theorem d_X_taken_30 : decode me_X_taken.2.1 30 = .ok (.bipush (-11), 2) := by decide +kernel
theorem d_X_taken_32 : decode me_X_taken.2.1 32 = .ok (.ireturn, 1) := by decide +kernel
theorem d_X_taken_33 : decode me_X_taken.2.1 33 = .ok (.aload_n 3, 1) := by decide +kernel
theorem d_X_taken_34 : decode me_X_taken.2.1 34 = .ok (.invokevirtual 304, 3) := by decide +kernel
theorem d_X_taken_37 : decode me_X_taken.2.1 37 = .ok (.ifCond .eq 6, 3) := by decide +kernel
theorem d_X_taken_40 : decode me_X_taken.2.1 40 = .ok (.bipush (-12), 2) := by decide +kernel
theorem d_X_taken_42 : decode me_X_taken.2.1 42 = .ok (.ireturn, 1) := by decide +kernel
theorem d_X_taken_43 : decode me_X_taken.2.1 43 = .ok (.aload_n 0, 1) := by decide +kernel
theorem d_X_taken_44 : decode me_X_taken.2.1 44 = .ok (.getfield 65, 3) := by decide +kernel
theorem d_X_taken_47 : decode me_X_taken.2.1 47 = .ok (.aload_n 3, 1) := by decide +kernel
theorem d_X_taken_48 : decode me_X_taken.2.1 48 = .ok (.getfield 316, 3) := by decide +kernel
theorem d_X_taken_51 : decode me_X_taken.2.1 51 = .ok (.invokevirtual 319, 3) := by decide +kernel
theorem d_X_taken_54 : decode me_X_taken.2.1 54 = .ok (.istore 4, 2) := by decide +kernel
theorem d_X_taken_56 : decode me_X_taken.2.1 56 = .ok (.iload 4, 2) := by decide +kernel
theorem d_X_taken_58 : decode me_X_taken.2.1 58 = .ok (.iload_n 2, 1) := by decide +kernel
theorem d_X_taken_59 : decode me_X_taken.2.1 59 = .ok (.invokestatic 322, 3) := by decide +kernel
theorem d_X_taken_62 : decode me_X_taken.2.1 62 = .ok (.ifCond .eq 8, 3) := by decide +kernel
theorem d_X_taken_65 : decode me_X_taken.2.1 65 = .ok (.iload 4, 2) := by decide +kernel
theorem d_X_taken_67 : decode me_X_taken.2.1 67 = .ok (.goto 5, 3) := by decide +kernel
theorem d_X_taken_70 : decode me_X_taken.2.1 70 = .ok (.bipush (-12), 2) := by decide +kernel
theorem d_X_taken_72 : decode me_X_taken.2.1 72 = .ok (.ireturn, 1) := by decide +kernel
noncomputable def f_X_taken  (a1 : Int32) (a2 : Int32) (m0 : gk_M) : Option (Int32 × gk_M) :=
  gk_bi (f_X_isShelf a1 m0) fun v2 m1 =>
  if v2 = 0 then
    some ((-1), m1)
  else
    gk_bi (f_Ways_isKind a2 m1) fun v4 m3 =>
    if ¬ v4 = 0 then
      gk_ar 6 a1 fun i5 =>
      gk_bi (f_Shelf_isEmpty i5 m3) fun v7 m6 =>
      if v7 = 0 then
        gk_bi (f_Shelf_isRow i5 m6) fun v9 m8 =>
        if v9 = 0 then
          gk_bi (f_Ways_kindOf (m8.1 (41 + i5) 1) m8) fun v11 m10 =>
          gk_bi (f_Ways_isUnder v11 a2 m10) fun v13 m12 =>
          if v13 = 0 then
            some ((-12), m12)
          else
            some (v11, m12)
        else
          some ((-12), m8)
      else
        some ((-11), m6)
    else
      some ((-1), m3)

theorem s_X_taken_0 {z : gk_Z} (K : gk_F tx z me_X_taken 3) {r : Int32} {mem2 : gk_M} : ∀ a1 a2 m0, f_X_taken a1 a2 m0 = some (r, mem2) → gk_G tx z me_X_taken (gk_R tx z (some (.int r)) mem2) m0 [(0, .ref 0), (1, .int a1), (2, .int a2)] [] 0 := by
  intro a1 a2 m0  h
  unfold f_X_taken at h
  refine gk_iload_n (pc := 0) K d_X_taken_0 rfl ?_
  obtain ⟨v2, m1, em1, h⟩ := gk_bi_some h
  refine gk_cSi (As := [.int a1]) (pc := 1) K d_X_taken_1 ms_X_80 mc_X_isShelf rfl (s_X_isShelf (gk_FD K)  em1) (by decide) rfl (Nat.le_of_ble_eq_true rfl) ?_
  refine gk_if_eq (tgt := 14) (pc := 4) K d_X_taken_4 (by decide) h (fun h => ?_) (fun h => ?_)
  · refine gk_iconst (pc := 14) K d_X_taken_14 kc_m1 ?_
    exact gk_iret (pc := 15) K d_X_taken_15 rfl h
  · refine gk_iload_n (pc := 7) K d_X_taken_7 rfl ?_
    obtain ⟨v4, m3, em3, h⟩ := gk_bi_some h
    refine gk_cSi (As := [.int a2]) (pc := 8) K d_X_taken_8 ms_X_273 mc_Ways_isKind rfl (s_Ways_isKind (gk_FD K)  em3) (by decide) rfl (Nat.le_of_ble_eq_true rfl) ?_
    refine gk_if_ne (tgt := 16) (pc := 11) K d_X_taken_11 (by decide) h (fun h => ?_) (fun h => ?_)
    · refine gk_aload_n (pc := 16) K d_X_taken_16 rfl ?_
      refine gk_get (pc := 17) K d_X_taken_17 fl_X_71 tx_0 rfl rfl ?_
      refine gk_iload_n (pc := 20) K d_X_taken_20 rfl ?_
      refine gk_aald (pc := 21) K d_X_taken_21 tx_40 h (fun i5 hi5 h => ?_)
      refine gk_astore_n (lv2 := [(3, .ref (41 + i5)), (0, .ref 0), (1, .int a1), (2, .int a2)]) (pc := 22) K d_X_taken_22 (by decide) rfl ?_
      refine gk_aload_n (pc := 23) K d_X_taken_23 rfl ?_
      obtain ⟨v7, m6, em6, h⟩ := gk_bi_some h
      refine gk_cVi (As := []) (pc := 24) K d_X_taken_24 mv_X_84 mc_Shelf_isEmpty rfl (tx_sh hi5) cl_ok8.1 (s_Shelf_isEmpty (gk_FD K) hi5 em6) (by decide) rfl (Nat.le_of_ble_eq_true rfl) ?_
      refine gk_if_eq (tgt := 33) (pc := 27) K d_X_taken_27 (by decide) h (fun h => ?_) (fun h => ?_)
      · refine gk_aload_n (pc := 33) K d_X_taken_33 rfl ?_
        obtain ⟨v9, m8, em8, h⟩ := gk_bi_some h
        refine gk_cVi (As := []) (pc := 34) K d_X_taken_34 mv_X_304 mc_Shelf_isRow rfl (tx_sh hi5) cl_ok8.1 (s_Shelf_isRow (gk_FD K) hi5 em8) (by decide) rfl (Nat.le_of_ble_eq_true rfl) ?_
        refine gk_if_eq (tgt := 43) (pc := 37) K d_X_taken_37 (by decide) h (fun h => ?_) (fun h => ?_)
        · refine gk_aload_n (pc := 43) K d_X_taken_43 rfl ?_
          refine gk_get (pc := 44) K d_X_taken_44 fl_X_65 tx_0 rfl rfl ?_
          refine gk_aload_n (pc := 47) K d_X_taken_47 rfl ?_
          refine gk_get (pc := 48) K d_X_taken_48 fl_X_316 (tx_sh hi5) rfl rfl ?_
          obtain ⟨v11, m10, em10, h⟩ := gk_bi_some h
          refine gk_cVi (As := [.int (m8.1 (41 + i5) 1)]) (pc := 51) K d_X_taken_51 mv_X_319 mc_Ways_kindOf rfl tx_37 cl_ok7.1 (s_Ways_kindOf (gk_FD K)  em10) (by decide) rfl (Nat.le_of_ble_eq_true rfl) ?_
          refine gk_istore (lv2 := [(4, .int v11), (3, .ref (41 + i5)), (0, .ref 0), (1, .int a1), (2, .int a2)]) (pc := 54) K d_X_taken_54 (by decide) rfl ?_
          refine gk_iload (pc := 56) K d_X_taken_56 rfl ?_
          refine gk_iload_n (pc := 58) K d_X_taken_58 rfl ?_
          obtain ⟨v13, m12, em12, h⟩ := gk_bi_some h
          refine gk_cSi (As := [.int v11, .int a2]) (pc := 59) K d_X_taken_59 ms_X_322 mc_Ways_isUnder rfl (s_Ways_isUnder (gk_FD K)  em12) (by decide) rfl (Nat.le_of_ble_eq_true rfl) ?_
          refine gk_if_eq (tgt := 70) (pc := 62) K d_X_taken_62 (by decide) h (fun h => ?_) (fun h => ?_)
          · refine gk_bipush (pc := 70) K d_X_taken_70 kb_m12 ?_
            exact gk_iret (pc := 72) K d_X_taken_72 rfl h
          · refine gk_iload (pc := 65) K d_X_taken_65 rfl ?_
            refine gk_goto (tgt := 72) (pc := 67) K d_X_taken_67 (by decide) ?_
            exact gk_iret (pc := 72) K d_X_taken_72 rfl h
        · refine gk_bipush (pc := 40) K d_X_taken_40 kb_m12 ?_
          exact gk_iret (pc := 42) K d_X_taken_42 rfl h
      · refine gk_bipush (pc := 30) K d_X_taken_30 kb_m11 ?_
        exact gk_iret (pc := 32) K d_X_taken_32 rfl h
    · refine gk_iconst (pc := 14) K d_X_taken_14 kc_m1 ?_
      exact gk_iret (pc := 15) K d_X_taken_15 rfl h
theorem s_X_taken {l : Launch} {u : gk_U} (hD : gk_D tx u) {a1 : Int32} {a2 : Int32} {m0 mem2 : gk_M} {r : Int32} (h : f_X_taken a1 a2 m0 = some (r, mem2)) : gk_C tx l u me_X_taken 3 [.ref 0, .int a1, .int a2] m0 (some (.int r)) mem2 :=
  gk_enter hD mc_X_taken (Nat.le_of_ble_eq_true rfl) rfl (fun z _ _ K => s_X_taken_0 K _ _ _  h)
theorem d_X_count_0 : decode me_X_count.2.1 0 = .ok (.iload_n 1, 1) := by decide +kernel
theorem d_X_count_1 : decode me_X_count.2.1 1 = .ok (.tableswitch 111 0 7 #[47, 55, 63, 71, 79, 87, 95, 103], 47) := by decide +kernel
theorem d_X_count_48 : decode me_X_count.2.1 48 = .ok (.aload_n 0, 1) := by decide +kernel
theorem d_X_count_49 : decode me_X_count.2.1 49 = .ok (.getfield 28, 3) := by decide +kernel
theorem d_X_count_52 : decode me_X_count.2.1 52 = .ok (.getfield 214, 3) := by decide +kernel
theorem d_X_count_55 : decode me_X_count.2.1 55 = .ok (.ireturn, 1) := by decide +kernel
theorem d_X_count_56 : decode me_X_count.2.1 56 = .ok (.aload_n 0, 1) := by decide +kernel
theorem d_X_count_57 : decode me_X_count.2.1 57 = .ok (.getfield 28, 3) := by decide +kernel
theorem d_X_count_60 : decode me_X_count.2.1 60 = .ok (.getfield 196, 3) := by decide +kernel
theorem d_X_count_63 : decode me_X_count.2.1 63 = .ok (.ireturn, 1) := by decide +kernel
theorem d_X_count_64 : decode me_X_count.2.1 64 = .ok (.aload_n 0, 1) := by decide +kernel
theorem d_X_count_65 : decode me_X_count.2.1 65 = .ok (.getfield 28, 3) := by decide +kernel
theorem d_X_count_68 : decode me_X_count.2.1 68 = .ok (.getfield 325, 3) := by decide +kernel
theorem d_X_count_71 : decode me_X_count.2.1 71 = .ok (.ireturn, 1) := by decide +kernel
theorem d_X_count_72 : decode me_X_count.2.1 72 = .ok (.aload_n 0, 1) := by decide +kernel
theorem d_X_count_73 : decode me_X_count.2.1 73 = .ok (.getfield 51, 3) := by decide +kernel
theorem d_X_count_76 : decode me_X_count.2.1 76 = .ok (.getfield 328, 3) := by decide +kernel
theorem d_X_count_79 : decode me_X_count.2.1 79 = .ok (.ireturn, 1) := by decide +kernel
theorem d_X_count_80 : decode me_X_count.2.1 80 = .ok (.aload_n 0, 1) := by decide +kernel
theorem d_X_count_81 : decode me_X_count.2.1 81 = .ok (.getfield 19, 3) := by decide +kernel
theorem d_X_count_84 : decode me_X_count.2.1 84 = .ok (.getfield 331, 3) := by decide +kernel
theorem d_X_count_87 : decode me_X_count.2.1 87 = .ok (.ireturn, 1) := by decide +kernel
theorem d_X_count_88 : decode me_X_count.2.1 88 = .ok (.aload_n 0, 1) := by decide +kernel
theorem d_X_count_89 : decode me_X_count.2.1 89 = .ok (.getfield 58, 3) := by decide +kernel
theorem d_X_count_92 : decode me_X_count.2.1 92 = .ok (.getfield 334, 3) := by decide +kernel
theorem d_X_count_95 : decode me_X_count.2.1 95 = .ok (.ireturn, 1) := by decide +kernel
theorem d_X_count_96 : decode me_X_count.2.1 96 = .ok (.aload_n 0, 1) := by decide +kernel
theorem d_X_count_97 : decode me_X_count.2.1 97 = .ok (.getfield 65, 3) := by decide +kernel
theorem d_X_count_100 : decode me_X_count.2.1 100 = .ok (.getfield 337, 3) := by decide +kernel
theorem d_X_count_103 : decode me_X_count.2.1 103 = .ok (.ireturn, 1) := by decide +kernel
theorem d_X_count_104 : decode me_X_count.2.1 104 = .ok (.aload_n 0, 1) := by decide +kernel
theorem d_X_count_105 : decode me_X_count.2.1 105 = .ok (.getfield 65, 3) := by decide +kernel
theorem d_X_count_108 : decode me_X_count.2.1 108 = .ok (.getfield 340, 3) := by decide +kernel
theorem d_X_count_111 : decode me_X_count.2.1 111 = .ok (.ireturn, 1) := by decide +kernel
theorem d_X_count_112 : decode me_X_count.2.1 112 = .ok (.iconst (-1), 1) := by decide +kernel
theorem d_X_count_113 : decode me_X_count.2.1 113 = .ok (.ireturn, 1) := by decide +kernel
noncomputable def f_X_count  (a1 : Int32) (m0 : gk_M) : Option (Int32 × gk_M) :=
  if a1 = 0 then
    some ((m0.1 7 5), m0)
  else
    if a1 = 1 then
      some ((m0.1 7 7), m0)
    else
      if a1 = 2 then
        some ((m0.1 7 8), m0)
      else
        if a1 = 3 then
          some ((m0.1 28 0), m0)
        else
          if a1 = 4 then
            some ((m0.1 4 2), m0)
          else
            if a1 = 5 then
              some ((m0.1 32 0), m0)
            else
              if a1 = 6 then
                some ((m0.1 37 0), m0)
              else
                if a1 = 7 then
                  some ((m0.1 37 1), m0)
                else
                  some ((-1), m0)

theorem s_X_count_0 {z : gk_Z} (K : gk_F tx z me_X_count 1) {r : Int32} {mem2 : gk_M} : ∀ a1 m0, f_X_count a1 m0 = some (r, mem2) → gk_G tx z me_X_count (gk_R tx z (some (.int r)) mem2) m0 [(0, .ref 0), (1, .int a1)] [] 0 := by
  intro a1 m0  h
  unfold f_X_count at h
  refine gk_iload_n (pc := 0) K d_X_count_0 rfl ?_
  refine gk_ite (c := a1 = 0) h (fun c1 h => ?_) (fun c1 h => ?_)
  · refine gk_tIn (tgt := 48) (pc := 1) K d_X_count_1 c1 (by decide) (by decide) rfl (by decide) ?_
    refine gk_aload_n (pc := 48) K d_X_count_48 rfl ?_
    refine gk_get (pc := 49) K d_X_count_49 fl_X_28 tx_0 rfl rfl ?_
    refine gk_get (pc := 52) K d_X_count_52 fl_X_214 tx_7 rfl rfl ?_
    exact gk_iret (pc := 55) K d_X_count_55 rfl h
  · skip
    refine gk_ite (c := a1 = 1) h (fun c2 h => ?_) (fun c2 h => ?_)
    · refine gk_tIn (tgt := 56) (pc := 1) K d_X_count_1 c2 (by decide) (by decide) rfl (by decide) ?_
      refine gk_aload_n (pc := 56) K d_X_count_56 rfl ?_
      refine gk_get (pc := 57) K d_X_count_57 fl_X_28 tx_0 rfl rfl ?_
      refine gk_get (pc := 60) K d_X_count_60 fl_X_196 tx_7 rfl rfl ?_
      exact gk_iret (pc := 63) K d_X_count_63 rfl h
    · skip
      refine gk_ite (c := a1 = 2) h (fun c3 h => ?_) (fun c3 h => ?_)
      · refine gk_tIn (tgt := 64) (pc := 1) K d_X_count_1 c3 (by decide) (by decide) rfl (by decide) ?_
        refine gk_aload_n (pc := 64) K d_X_count_64 rfl ?_
        refine gk_get (pc := 65) K d_X_count_65 fl_X_28 tx_0 rfl rfl ?_
        refine gk_get (pc := 68) K d_X_count_68 fl_X_325 tx_7 rfl rfl ?_
        exact gk_iret (pc := 71) K d_X_count_71 rfl h
      · skip
        refine gk_ite (c := a1 = 3) h (fun c4 h => ?_) (fun c4 h => ?_)
        · refine gk_tIn (tgt := 72) (pc := 1) K d_X_count_1 c4 (by decide) (by decide) rfl (by decide) ?_
          refine gk_aload_n (pc := 72) K d_X_count_72 rfl ?_
          refine gk_get (pc := 73) K d_X_count_73 fl_X_51 tx_0 rfl rfl ?_
          refine gk_get (pc := 76) K d_X_count_76 fl_X_328 tx_28 rfl rfl ?_
          exact gk_iret (pc := 79) K d_X_count_79 rfl h
        · skip
          refine gk_ite (c := a1 = 4) h (fun c5 h => ?_) (fun c5 h => ?_)
          · refine gk_tIn (tgt := 80) (pc := 1) K d_X_count_1 c5 (by decide) (by decide) rfl (by decide) ?_
            refine gk_aload_n (pc := 80) K d_X_count_80 rfl ?_
            refine gk_get (pc := 81) K d_X_count_81 fl_X_19 tx_0 rfl rfl ?_
            refine gk_get (pc := 84) K d_X_count_84 fl_X_331 tx_4 rfl rfl ?_
            exact gk_iret (pc := 87) K d_X_count_87 rfl h
          · skip
            refine gk_ite (c := a1 = 5) h (fun c6 h => ?_) (fun c6 h => ?_)
            · refine gk_tIn (tgt := 88) (pc := 1) K d_X_count_1 c6 (by decide) (by decide) rfl (by decide) ?_
              refine gk_aload_n (pc := 88) K d_X_count_88 rfl ?_
              refine gk_get (pc := 89) K d_X_count_89 fl_X_58 tx_0 rfl rfl ?_
              refine gk_get (pc := 92) K d_X_count_92 fl_X_334 tx_32 rfl rfl ?_
              exact gk_iret (pc := 95) K d_X_count_95 rfl h
            · skip
              refine gk_ite (c := a1 = 6) h (fun c7 h => ?_) (fun c7 h => ?_)
              · refine gk_tIn (tgt := 96) (pc := 1) K d_X_count_1 c7 (by decide) (by decide) rfl (by decide) ?_
                refine gk_aload_n (pc := 96) K d_X_count_96 rfl ?_
                refine gk_get (pc := 97) K d_X_count_97 fl_X_65 tx_0 rfl rfl ?_
                refine gk_get (pc := 100) K d_X_count_100 fl_X_337 tx_37 rfl rfl ?_
                exact gk_iret (pc := 103) K d_X_count_103 rfl h
              · skip
                refine gk_ite (c := a1 = 7) h (fun c8 h => ?_) (fun c8 h => ?_)
                · refine gk_tIn (tgt := 104) (pc := 1) K d_X_count_1 c8 (by decide) (by decide) rfl (by decide) ?_
                  refine gk_aload_n (pc := 104) K d_X_count_104 rfl ?_
                  refine gk_get (pc := 105) K d_X_count_105 fl_X_65 tx_0 rfl rfl ?_
                  refine gk_get (pc := 108) K d_X_count_108 fl_X_340 tx_37 rfl rfl ?_
                  exact gk_iret (pc := 111) K d_X_count_111 rfl h
                · skip
                  have gc1 := gk_neq c1 (a := 0) (by decide)
                  have gc2 := gk_neq c2 (a := 1) (by decide)
                  have gc3 := gk_neq c3 (a := 2) (by decide)
                  have gc4 := gk_neq c4 (a := 3) (by decide)
                  have gc5 := gk_neq c5 (a := 4) (by decide)
                  have gc6 := gk_neq c6 (a := 5) (by decide)
                  have gc7 := gk_neq c7 (a := 6) (by decide)
                  have gc8 := gk_neq c8 (a := 7) (by decide)
                  refine gk_tOut (tgt := 112) (pc := 1) K d_X_count_1 (by omega) (by decide) ?_
                  refine gk_iconst (pc := 112) K d_X_count_112 kc_m1 ?_
                  exact gk_iret (pc := 113) K d_X_count_113 rfl h
theorem s_X_count {l : Launch} {u : gk_U} (hD : gk_D tx u) {a1 : Int32} {m0 mem2 : gk_M} {r : Int32} (h : f_X_count a1 m0 = some (r, mem2)) : gk_C tx l u me_X_count 1 [.ref 0, .int a1] m0 (some (.int r)) mem2 :=
  gk_enter hD mc_X_count (Nat.le_of_ble_eq_true rfl) rfl (fun z _ _ K => s_X_count_0 K _ _  h)
theorem d_M_undo_0 : decode me_M_undo.2.1 0 = .ok (.aload_n 0, 1) := by decide +kernel
theorem d_M_undo_1 : decode me_M_undo.2.1 1 = .ok (.getfield 94, 3) := by decide +kernel
theorem d_M_undo_4 : decode me_M_undo.2.1 4 = .ok (.ifCond .ne 6, 3) := by decide +kernel
theorem d_M_undo_7 : decode me_M_undo.2.1 7 = .ok (.bipush (-5), 2) := by decide +kernel
theorem d_M_undo_9 : decode me_M_undo.2.1 9 = .ok (.ireturn, 1) := by decide +kernel
theorem d_M_undo_10 : decode me_M_undo.2.1 10 = .ok (.aload_n 0, 1) := by decide +kernel
theorem d_M_undo_11 : decode me_M_undo.2.1 11 = .ok (.dup, 1) := by decide +kernel
theorem d_M_undo_12 : decode me_M_undo.2.1 12 = .ok (.getfield 94, 3) := by decide +kernel
theorem d_M_undo_15 : decode me_M_undo.2.1 15 = .ok (.iconst 1, 1) := by decide +kernel
theorem d_M_undo_16 : decode me_M_undo.2.1 16 = .ok (.isub, 1) := by decide +kernel
theorem d_M_undo_17 : decode me_M_undo.2.1 17 = .ok (.putfield 94, 3) := by decide +kernel
theorem d_M_undo_20 : decode me_M_undo.2.1 20 = .ok (.aload_n 0, 1) := by decide +kernel
theorem d_M_undo_21 : decode me_M_undo.2.1 21 = .ok (.getfield 9, 3) := by decide +kernel
theorem d_M_undo_24 : decode me_M_undo.2.1 24 = .ok (.aload_n 0, 1) := by decide +kernel
theorem d_M_undo_25 : decode me_M_undo.2.1 25 = .ok (.getfield 13, 3) := by decide +kernel
theorem d_M_undo_28 : decode me_M_undo.2.1 28 = .ok (.aload_n 0, 1) := by decide +kernel
theorem d_M_undo_29 : decode me_M_undo.2.1 29 = .ok (.getfield 94, 3) := by decide +kernel
theorem d_M_undo_32 : decode me_M_undo.2.1 32 = .ok (.iaload, 1) := by decide +kernel
theorem d_M_undo_33 : decode me_M_undo.2.1 33 = .ok (.aload_n 0, 1) := by decide +kernel
theorem d_M_undo_34 : decode me_M_undo.2.1 34 = .ok (.getfield 16, 3) := by decide +kernel
theorem d_M_undo_37 : decode me_M_undo.2.1 37 = .ok (.aload_n 0, 1) := by decide +kernel
theorem d_M_undo_38 : decode me_M_undo.2.1 38 = .ok (.getfield 94, 3) := by decide +kernel
theorem d_M_undo_41 : decode me_M_undo.2.1 41 = .ok (.iaload, 1) := by decide +kernel
theorem d_M_undo_42 : decode me_M_undo.2.1 42 = .ok (.iastore, 1) := by decide +kernel
theorem d_M_undo_43 : decode me_M_undo.2.1 43 = .ok (.aload_n 0, 1) := by decide +kernel
theorem d_M_undo_44 : decode me_M_undo.2.1 44 = .ok (.getfield 94, 3) := by decide +kernel
theorem d_M_undo_47 : decode me_M_undo.2.1 47 = .ok (.ireturn, 1) := by decide +kernel
noncomputable def f_M_undo   (m0 : gk_M) : Option (Int32 × gk_M) :=
  if ¬ (m0.1 0 5) = 0 then
    gk_let (gk_mi m0 0 5 ((m0.1 0 5) - 1)) fun m1 =>
    gk_ai m1 2 40 (m1.1 0 5) fun v2 =>
    gk_ai m1 3 40 (m1.1 0 5) fun v3 =>
    gk_si m1 1 30 v2 v3 fun m4 =>
    some ((m4.1 0 5), m4)
  else
    some ((-5), m0)

theorem s_M_undo_0 {z : gk_Z} (K : gk_F tm z me_M_undo 1) {r : Int32} {mem2 : gk_M} : ∀  m0, f_M_undo  m0 = some (r, mem2) → gk_G tm z me_M_undo (gk_R tm z (some (.int r)) mem2) m0 [(0, .ref 0)] [] 0 := by
  intro  m0  h
  unfold f_M_undo at h
  refine gk_aload_n (pc := 0) K d_M_undo_0 rfl ?_
  refine gk_get (pc := 1) K d_M_undo_1 fl_M_94 tm_0 rfl rfl ?_
  refine gk_if_ne (tgt := 10) (pc := 4) K d_M_undo_4 (by decide) h (fun h => ?_) (fun h => ?_)
  · refine gk_aload_n (pc := 10) K d_M_undo_10 rfl ?_
    refine gk_dup (pc := 11) K d_M_undo_11 rfl ?_
    refine gk_get (pc := 12) K d_M_undo_12 fl_M_94 tm_0 rfl rfl ?_
    refine gk_iconst (pc := 15) K d_M_undo_15 kc_1 ?_
    refine gk_isub (pc := 16) K d_M_undo_16 ?_
    refine gk_puti (pc := 17) K d_M_undo_17 fp_M_94 tm_0 rfl h (fun m1 h => ?_)
    refine gk_aload_n (pc := 20) K d_M_undo_20 rfl ?_
    refine gk_get (pc := 21) K d_M_undo_21 fl_M_9 tm_0 rfl rfl ?_
    refine gk_aload_n (pc := 24) K d_M_undo_24 rfl ?_
    refine gk_get (pc := 25) K d_M_undo_25 fl_M_13 tm_0 rfl rfl ?_
    refine gk_aload_n (pc := 28) K d_M_undo_28 rfl ?_
    refine gk_get (pc := 29) K d_M_undo_29 fl_M_94 tm_0 rfl rfl ?_
    refine gk_iald (pc := 32) K d_M_undo_32 tm_2 h (fun v2 h => ?_)
    refine gk_aload_n (pc := 33) K d_M_undo_33 rfl ?_
    refine gk_get (pc := 34) K d_M_undo_34 fl_M_16 tm_0 rfl rfl ?_
    refine gk_aload_n (pc := 37) K d_M_undo_37 rfl ?_
    refine gk_get (pc := 38) K d_M_undo_38 fl_M_94 tm_0 rfl rfl ?_
    refine gk_iald (pc := 41) K d_M_undo_41 tm_3 h (fun v3 h => ?_)
    refine gk_iast (pc := 42) K d_M_undo_42 tm_1 h (fun m4 h => ?_)
    refine gk_aload_n (pc := 43) K d_M_undo_43 rfl ?_
    refine gk_get (pc := 44) K d_M_undo_44 fl_M_94 tm_0 rfl rfl ?_
    exact gk_iret (pc := 47) K d_M_undo_47 rfl h
  · refine gk_bipush (pc := 7) K d_M_undo_7 kb_m5 ?_
    exact gk_iret (pc := 9) K d_M_undo_9 rfl h
theorem s_M_undo {l : Launch} {u : gk_U} (hD : gk_D tm u) {m0 mem2 : gk_M} {r : Int32} (h : f_M_undo  m0 = some (r, mem2)) : gk_C tm l u me_M_undo 1 [.ref 0] m0 (some (.int r)) mem2 :=
  gk_enter hD mc_M_undo (Nat.le_of_ble_eq_true rfl) rfl (fun z _ _ K => s_M_undo_0 K  _  h)
