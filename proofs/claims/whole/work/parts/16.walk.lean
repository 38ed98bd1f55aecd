theorem d_Ways_perform_0 : decode me_Ways_perform.2.1 0 = .ok (.aload_n 0, 1) := by decide +kernel
theorem d_Ways_perform_1 : decode me_Ways_perform.2.1 1 = .ok (.iconst 0, 1) := by decide +kernel
theorem d_Ways_perform_2 : decode me_Ways_perform.2.1 2 = .ok (.putfield 15, 3) := by decide +kernel
theorem d_Ways_perform_5 : decode me_Ways_perform.2.1 5 = .ok (.aload_n 0, 1) := by decide +kernel
theorem d_Ways_perform_6 : decode me_Ways_perform.2.1 6 = .ok (.iload_n 1, 1) := by decide +kernel
theorem d_Ways_perform_7 : decode me_Ways_perform.2.1 7 = .ok (.invokevirtual 31, 3) := by decide +kernel
theorem d_Ways_perform_10 : decode me_Ways_perform.2.1 10 = .ok (.ifCond .eq 12, 3) := by decide +kernel
theorem d_Ways_perform_13 : decode me_Ways_perform.2.1 13 = .ok (.iload_n 2, 1) := by decide +kernel
theorem d_Ways_perform_14 : decode me_Ways_perform.2.1 14 = .ok (.ifCond .lt 8, 3) := by decide +kernel
theorem d_Ways_perform_17 : decode me_Ways_perform.2.1 17 = .ok (.iload_n 2, 1) := by decide +kernel
theorem d_Ways_perform_18 : decode me_Ways_perform.2.1 18 = .ok (.iconst 4, 1) := by decide +kernel
theorem d_Ways_perform_19 : decode me_Ways_perform.2.1 19 = .ok (.if_icmp .lt 5, 3) := by decide +kernel
theorem d_Ways_perform_22 : decode me_Ways_perform.2.1 22 = .ok (.iconst 0, 1) := by decide +kernel
theorem d_Ways_perform_23 : decode me_Ways_perform.2.1 23 = .ok (.ireturn, 1) := by decide +kernel
theorem d_Ways_perform_24 : decode me_Ways_perform.2.1 24 = .ok (.aload_n 0, 1) := by decide +kernel
theorem d_Ways_perform_25 : decode me_Ways_perform.2.1 25 = .ok (.iload_n 1, 1) := by decide +kernel
theorem d_Ways_perform_26 : decode me_Ways_perform.2.1 26 = .ok (.putfield 25, 3) := by decide +kernel
theorem d_Ways_perform_29 : decode me_Ways_perform.2.1 29 = .ok (.aload_n 0, 1) := by decide +kernel
theorem d_Ways_perform_30 : decode me_Ways_perform.2.1 30 = .ok (.iload_n 2, 1) := by decide +kernel
theorem d_Ways_perform_31 : decode me_Ways_perform.2.1 31 = .ok (.iload_n 3, 1) := by decide +kernel
theorem d_Ways_perform_32 : decode me_Ways_perform.2.1 32 = .ok (.iconst 0, 1) := by decide +kernel
theorem d_Ways_perform_33 : decode me_Ways_perform.2.1 33 = .ok (.invokevirtual 41, 3) := by decide +kernel
theorem d_Ways_perform_36 : decode me_Ways_perform.2.1 36 = .ok (.ireturn, 1) := by decide +kernel
noncomputable def f_Ways_perform  (a1 : Int32) (a2 : Int32) (a3 : Int32) (m0 : gk_M) : Option (Int32 × gk_M) :=
  gk_let (gk_mi m0 37 1 0) fun m1 =>
  gk_bi (f_Ways_isBody a1 m1) fun v3 m2 =>
  if v3 = 0 then
    some (0, m2)
  else
    if a2 < 0 then
      some (0, m2)
    else
      if a2 < 4 then
        gk_let (gk_mi m2 37 4 a1) fun m4 =>
        gk_bi (f_Ways_own a2 a3 0 m4) fun v6 m5 =>
        some (v6, m5)
      else
        some (0, m2)

theorem s_Ways_perform_0 {z : gk_Z} (K : gk_F tx z me_Ways_perform 62) {r : Int32} {mem2 : gk_M} : ∀ a1 a2 a3 m0, f_Ways_perform a1 a2 a3 m0 = some (r, mem2) → gk_G tx z me_Ways_perform (gk_R tx z (some (.int r)) mem2) m0 [(0, .ref 37), (1, .int a1), (2, .int a2), (3, .int a3)] [] 0 := by
  intro a1 a2 a3 m0  h
  unfold f_Ways_perform at h
  refine gk_aload_n (pc := 0) K d_Ways_perform_0 rfl ?_
  refine gk_iconst (pc := 1) K d_Ways_perform_1 kc_0 ?_
  refine gk_puti (pc := 2) K d_Ways_perform_2 fp_Ways_15 tx_37 rfl h (fun m1 h => ?_)
  refine gk_aload_n (pc := 5) K d_Ways_perform_5 rfl ?_
  refine gk_iload_n (pc := 6) K d_Ways_perform_6 rfl ?_
  obtain ⟨v3, m2, em2, h⟩ := gk_bi_some h
  refine gk_cVi (As := [.int a1]) (pc := 7) K d_Ways_perform_7 mv_Ways_31 mc_Ways_isBody rfl tx_37 cl_ok7.1 (s_Ways_isBody (gk_FD K)  em2) (by decide) rfl (Nat.le_of_ble_eq_true rfl) ?_
  refine gk_if_eq (tgt := 22) (pc := 10) K d_Ways_perform_10 (by decide) h (fun h => ?_) (fun h => ?_)
  · refine gk_iconst (pc := 22) K d_Ways_perform_22 kc_0 ?_
    exact gk_iret (pc := 23) K d_Ways_perform_23 rfl h
  · refine gk_iload_n (pc := 13) K d_Ways_perform_13 rfl ?_
    refine gk_if_lt (tgt := 22) (pc := 14) K d_Ways_perform_14 (by decide) h (fun h => ?_) (fun h => ?_)
    · refine gk_iconst (pc := 22) K d_Ways_perform_22 kc_0 ?_
      exact gk_iret (pc := 23) K d_Ways_perform_23 rfl h
    · refine gk_iload_n (pc := 17) K d_Ways_perform_17 rfl ?_
      refine gk_iconst (pc := 18) K d_Ways_perform_18 kc_4 ?_
      refine gk_ic_lt (tgt := 24) (pc := 19) K d_Ways_perform_19 (by decide) h (fun h => ?_) (fun h => ?_)
      · refine gk_aload_n (pc := 24) K d_Ways_perform_24 rfl ?_
        refine gk_iload_n (pc := 25) K d_Ways_perform_25 rfl ?_
        refine gk_puti (pc := 26) K d_Ways_perform_26 fp_Ways_25 tx_37 rfl h (fun m4 h => ?_)
        refine gk_aload_n (pc := 29) K d_Ways_perform_29 rfl ?_
        refine gk_iload_n (pc := 30) K d_Ways_perform_30 rfl ?_
        refine gk_iload_n (pc := 31) K d_Ways_perform_31 rfl ?_
        refine gk_iconst (pc := 32) K d_Ways_perform_32 kc_0 ?_
        obtain ⟨v6, m5, em5, h⟩ := gk_bi_some h
        refine gk_cVi (As := [.int a2, .int a3, .int 0]) (pc := 33) K d_Ways_perform_33 mv_Ways_41 mc_Ways_own rfl tx_37 cl_ok7.1 (s_Ways_own (gk_FD K)  em5) (by decide) rfl (Nat.le_of_ble_eq_true rfl) ?_
        exact gk_iret (pc := 36) K d_Ways_perform_36 rfl h
      · refine gk_iconst (pc := 22) K d_Ways_perform_22 kc_0 ?_
        exact gk_iret (pc := 23) K d_Ways_perform_23 rfl h
theorem s_Ways_perform {l : Launch} {u : gk_U} (hD : gk_D tx u) {a1 : Int32} {a2 : Int32} {a3 : Int32} {m0 mem2 : gk_M} {r : Int32} (h : f_Ways_perform a1 a2 a3 m0 = some (r, mem2)) : gk_C tx l u me_Ways_perform 62 [.ref 37, .int a1, .int a2, .int a3] m0 (some (.int r)) mem2 :=
  gk_enter hD mc_Ways_perform (Nat.le_of_ble_eq_true rfl) rfl (fun z _ _ K => s_Ways_perform_0 K _ _ _ _  h)
theorem d_X_act_0 : decode me_X_act.2.1 0 = .ok (.aload_n 0, 1) := by decide +kernel
theorem d_X_act_1 : decode me_X_act.2.1 1 = .ok (.getfield 65, 3) := by decide +kernel
theorem d_X_act_4 : decode me_X_act.2.1 4 = .ok (.iload_n 1, 1) := by decide +kernel
theorem d_X_act_5 : decode me_X_act.2.1 5 = .ok (.iload_n 2, 1) := by decide +kernel
theorem d_X_act_6 : decode me_X_act.2.1 6 = .ok (.iload_n 3, 1) := by decide +kernel
theorem d_X_act_7 : decode me_X_act.2.1 7 = .ok (.invokevirtual 279, 3) := by decide +kernel
theorem d_X_act_10 : decode me_X_act.2.1 10 = .ok (.ireturn, 1) := by decide +kernel
noncomputable def f_X_act  (a1 : Int32) (a2 : Int32) (a3 : Int32) (m0 : gk_M) : Option (Int32 × gk_M) :=
  gk_bi (f_Ways_perform a1 a2 a3 m0) fun v2 m1 =>
  some (v2, m1)

theorem s_X_act_0 {z : gk_Z} (K : gk_F tx z me_X_act 63) {r : Int32} {mem2 : gk_M} : ∀ a1 a2 a3 m0, f_X_act a1 a2 a3 m0 = some (r, mem2) → gk_G tx z me_X_act (gk_R tx z (some (.int r)) mem2) m0 [(0, .ref 0), (1, .int a1), (2, .int a2), (3, .int a3)] [] 0 := by
  intro a1 a2 a3 m0  h
  unfold f_X_act at h
  refine gk_aload_n (pc := 0) K d_X_act_0 rfl ?_
  refine gk_get (pc := 1) K d_X_act_1 fl_X_65 tx_0 rfl rfl ?_
  refine gk_iload_n (pc := 4) K d_X_act_4 rfl ?_
  refine gk_iload_n (pc := 5) K d_X_act_5 rfl ?_
  refine gk_iload_n (pc := 6) K d_X_act_6 rfl ?_
  obtain ⟨v2, m1, em1, h⟩ := gk_bi_some h
  refine gk_cVi (As := [.int a1, .int a2, .int a3]) (pc := 7) K d_X_act_7 mv_X_279 mc_Ways_perform rfl tx_37 cl_ok7.1 (s_Ways_perform (gk_FD K)  em1) (by decide) rfl (Nat.le_of_ble_eq_true rfl) ?_
  exact gk_iret (pc := 10) K d_X_act_10 rfl h
theorem s_X_act {l : Launch} {u : gk_U} (hD : gk_D tx u) {a1 : Int32} {a2 : Int32} {a3 : Int32} {m0 mem2 : gk_M} {r : Int32} (h : f_X_act a1 a2 a3 m0 = some (r, mem2)) : gk_C tx l u me_X_act 63 [.ref 0, .int a1, .int a2, .int a3] m0 (some (.int r)) mem2 :=
  gk_enter hD mc_X_act (Nat.le_of_ble_eq_true rfl) rfl (fun z _ _ K => s_X_act_0 K _ _ _ _  h)
theorem d_Ways_traced_0 : decode me_Ways_traced.2.1 0 = .ok (.iload_n 1, 1) := by decide +kernel
theorem d_Ways_traced_1 : decode me_Ways_traced.2.1 1 = .ok (.ifCond .lt 25, 3) := by decide +kernel
theorem d_Ways_traced_4 : decode me_Ways_traced.2.1 4 = .ok (.iload_n 1, 1) := by decide +kernel
theorem d_Ways_traced_5 : decode me_Ways_traced.2.1 5 = .ok (.aload_n 0, 1) := by decide +kernel
theorem d_Ways_traced_6 : decode me_Ways_traced.2.1 6 = .ok (.getfield 15, 3) := by decide +kernel
theorem d_Ways_traced_9 : decode me_Ways_traced.2.1 9 = .ok (.bipush 24, 2) := by decide +kernel
theorem d_Ways_traced_11 : decode me_Ways_traced.2.1 11 = .ok (.invokestatic 35, 3) := by decide +kernel
theorem d_Ways_traced_14 : decode me_Ways_traced.2.1 14 = .ok (.if_icmp .ge 12, 3) := by decide +kernel
theorem d_Ways_traced_17 : decode me_Ways_traced.2.1 17 = .ok (.aload_n 0, 1) := by decide +kernel
theorem d_Ways_traced_18 : decode me_Ways_traced.2.1 18 = .ok (.getfield 22, 3) := by decide +kernel
theorem d_Ways_traced_21 : decode me_Ways_traced.2.1 21 = .ok (.iload_n 1, 1) := by decide +kernel
theorem d_Ways_traced_22 : decode me_Ways_traced.2.1 22 = .ok (.iaload, 1) := by decide +kernel
theorem d_Ways_traced_23 : decode me_Ways_traced.2.1 23 = .ok (.goto 4, 3) := by decide +kernel
theorem d_Ways_traced_26 : decode me_Ways_traced.2.1 26 = .ok (.iconst (-1), 1) := by decide +kernel
theorem d_Ways_traced_27 : decode me_Ways_traced.2.1 27 = .ok (.ireturn, 1) := by decide +kernel
noncomputable def f_Ways_traced  (a1 : Int32) (m0 : gk_M) : Option (Int32 × gk_M) :=
  if a1 < 0 then
    some ((-1), m0)
  else
    if (gk_min (m0.1 37 1) 24) ≤ a1 then
      some ((-1), m0)
    else
      gk_ai m0 39 24 a1 fun v1 =>
      some (v1, m0)

theorem s_Ways_traced_0 {z : gk_Z} (K : gk_F tx z me_Ways_traced 2) {r : Int32} {mem2 : gk_M} : ∀ a1 m0, f_Ways_traced a1 m0 = some (r, mem2) → gk_G tx z me_Ways_traced (gk_R tx z (some (.int r)) mem2) m0 [(0, .ref 37), (1, .int a1)] [] 0 := by
  intro a1 m0  h
  unfold f_Ways_traced at h
  refine gk_iload_n (pc := 0) K d_Ways_traced_0 rfl ?_
  refine gk_if_lt (tgt := 26) (pc := 1) K d_Ways_traced_1 (by decide) h (fun h => ?_) (fun h => ?_)
  · refine gk_iconst (pc := 26) K d_Ways_traced_26 kc_m1 ?_
    exact gk_iret (pc := 27) K d_Ways_traced_27 rfl h
  · refine gk_iload_n (pc := 4) K d_Ways_traced_4 rfl ?_
    refine gk_aload_n (pc := 5) K d_Ways_traced_5 rfl ?_
    refine gk_get (pc := 6) K d_Ways_traced_6 fl_Ways_15 tx_37 rfl rfl ?_
    refine gk_bipush (pc := 9) K d_Ways_traced_9 kb_24 ?_
    refine gk_mmin (pc := 11) K d_Ways_traced_11 ms_Ways_35 (by decide) (Nat.le_of_ble_eq_true rfl) ?_
    refine gk_ic_ge (tgt := 26) (pc := 14) K d_Ways_traced_14 (by decide) h (fun h => ?_) (fun h => ?_)
    · refine gk_iconst (pc := 26) K d_Ways_traced_26 kc_m1 ?_
      exact gk_iret (pc := 27) K d_Ways_traced_27 rfl h
    · refine gk_aload_n (pc := 17) K d_Ways_traced_17 rfl ?_
      refine gk_get (pc := 18) K d_Ways_traced_18 fl_Ways_22 tx_37 rfl rfl ?_
      refine gk_iload_n (pc := 21) K d_Ways_traced_21 rfl ?_
      refine gk_iald (pc := 22) K d_Ways_traced_22 tx_39 h (fun v1 h => ?_)
      refine gk_goto (tgt := 27) (pc := 23) K d_Ways_traced_23 (by decide) ?_
      exact gk_iret (pc := 27) K d_Ways_traced_27 rfl h
theorem s_Ways_traced {l : Launch} {u : gk_U} (hD : gk_D tx u) {a1 : Int32} {m0 mem2 : gk_M} {r : Int32} (h : f_Ways_traced a1 m0 = some (r, mem2)) : gk_C tx l u me_Ways_traced 2 [.ref 37, .int a1] m0 (some (.int r)) mem2 :=
  gk_enter hD mc_Ways_traced (Nat.le_of_ble_eq_true rfl) rfl (fun z _ _ K => s_Ways_traced_0 K _ _  h)
theorem d_X_trace_0 : decode me_X_trace.2.1 0 = .ok (.aload_n 0, 1) := by decide +kernel
theorem d_X_trace_1 : decode me_X_trace.2.1 1 = .ok (.getfield 65, 3) := by decide +kernel
theorem d_X_trace_4 : decode me_X_trace.2.1 4 = .ok (.iload_n 1, 1) := by decide +kernel
theorem d_X_trace_5 : decode me_X_trace.2.1 5 = .ok (.invokevirtual 282, 3) := by decide +kernel
theorem d_X_trace_8 : decode me_X_trace.2.1 8 = .ok (.ireturn, 1) := by decide +kernel
noncomputable def f_X_trace  (a1 : Int32) (m0 : gk_M) : Option (Int32 × gk_M) :=
  gk_bi (f_Ways_traced a1 m0) fun v2 m1 =>
  some (v2, m1)

theorem s_X_trace_0 {z : gk_Z} (K : gk_F tx z me_X_trace 3) {r : Int32} {mem2 : gk_M} : ∀ a1 m0, f_X_trace a1 m0 = some (r, mem2) → gk_G tx z me_X_trace (gk_R tx z (some (.int r)) mem2) m0 [(0, .ref 0), (1, .int a1)] [] 0 := by
  intro a1 m0  h
  unfold f_X_trace at h
  refine gk_aload_n (pc := 0) K d_X_trace_0 rfl ?_
  refine gk_get (pc := 1) K d_X_trace_1 fl_X_65 tx_0 rfl rfl ?_
  refine gk_iload_n (pc := 4) K d_X_trace_4 rfl ?_
  obtain ⟨v2, m1, em1, h⟩ := gk_bi_some h
  refine gk_cVi (As := [.int a1]) (pc := 5) K d_X_trace_5 mv_X_282 mc_Ways_traced rfl tx_37 cl_ok7.1 (s_Ways_traced (gk_FD K)  em1) (by decide) rfl (Nat.le_of_ble_eq_true rfl) ?_
  exact gk_iret (pc := 8) K d_X_trace_8 rfl h
theorem s_X_trace {l : Launch} {u : gk_U} (hD : gk_D tx u) {a1 : Int32} {m0 mem2 : gk_M} {r : Int32} (h : f_X_trace a1 m0 = some (r, mem2)) : gk_C tx l u me_X_trace 3 [.ref 0, .int a1] m0 (some (.int r)) mem2 :=
  gk_enter hD mc_X_trace (Nat.le_of_ble_eq_true rfl) rfl (fun z _ _ K => s_X_trace_0 K _ _  h)
theorem d_Shelf_holdBody_0 : decode me_Shelf_holdBody.2.1 0 = .ok (.aload_n 0, 1) := by decide +kernel
theorem d_Shelf_holdBody_1 : decode me_Shelf_holdBody.2.1 1 = .ok (.iload_n 1, 1) := by decide +kernel
theorem d_Shelf_holdBody_2 : decode me_Shelf_holdBody.2.1 2 = .ok (.putfield 13, 3) := by decide +kernel
theorem d_Shelf_holdBody_5 : decode me_Shelf_holdBody.2.1 5 = .ok (.aload_n 0, 1) := by decide +kernel
theorem d_Shelf_holdBody_6 : decode me_Shelf_holdBody.2.1 6 = .ok (.iconst (-1), 1) := by decide +kernel
theorem d_Shelf_holdBody_7 : decode me_Shelf_holdBody.2.1 7 = .ok (.putfield 17, 3) := by decide +kernel
theorem d_Shelf_holdBody_10 : decode me_Shelf_holdBody.2.1 10 = .ok (.aload_n 0, 1) := by decide +kernel
theorem d_Shelf_holdBody_11 : decode me_Shelf_holdBody.2.1 11 = .ok (.iconst 0, 1) := by decide +kernel
theorem d_Shelf_holdBody_12 : decode me_Shelf_holdBody.2.1 12 = .ok (.putfield 20, 3) := by decide +kernel
theorem d_Shelf_holdBody_15 : decode me_Shelf_holdBody.2.1 15 = .ok (.return_, 1) := by decide +kernel
noncomputable def f_Shelf_holdBody  (i0 : Nat) (a1 : Int32) (m0 : gk_M) : Option (Unit × gk_M) :=
  gk_let (gk_mi m0 (41 + i0) 1 a1) fun m1 =>
  gk_let (gk_mi m1 (41 + i0) 2 (-1)) fun m2 =>
  gk_let (gk_mi m2 (41 + i0) 3 0) fun m3 =>
  some ((), m3)

theorem s_Shelf_holdBody_0 {z : gk_Z} (K : gk_F tx z me_Shelf_holdBody 1) {r : Unit} {mem2 : gk_M} : ∀ i0 a1 m0, i0 < 6 → f_Shelf_holdBody i0 a1 m0 = some (r, mem2) → gk_G tx z me_Shelf_holdBody (gk_R tx z none mem2) m0 [(0, .ref (41 + i0)), (1, .int a1)] [] 0 := by
  intro i0 a1 m0 hi0 h
  unfold f_Shelf_holdBody at h
  refine gk_aload_n (pc := 0) K d_Shelf_holdBody_0 rfl ?_
  refine gk_iload_n (pc := 1) K d_Shelf_holdBody_1 rfl ?_
  refine gk_puti (pc := 2) K d_Shelf_holdBody_2 fp_Shelf_13 (tx_sh hi0) rfl h (fun m1 h => ?_)
  refine gk_aload_n (pc := 5) K d_Shelf_holdBody_5 rfl ?_
  refine gk_iconst (pc := 6) K d_Shelf_holdBody_6 kc_m1 ?_
  refine gk_puti (pc := 7) K d_Shelf_holdBody_7 fp_Shelf_17 (tx_sh hi0) rfl h (fun m2 h => ?_)
  refine gk_aload_n (pc := 10) K d_Shelf_holdBody_10 rfl ?_
  refine gk_iconst (pc := 11) K d_Shelf_holdBody_11 kc_0 ?_
  refine gk_puti (pc := 12) K d_Shelf_holdBody_12 fp_Shelf_20 (tx_sh hi0) rfl h (fun m3 h => ?_)
  exact gk_vret (pc := 15) K d_Shelf_holdBody_15 rfl h
theorem s_Shelf_holdBody {l : Launch} {u : gk_U} (hD : gk_D tx u) {i0 : Nat} (hi0 : i0 < 6) {a1 : Int32} {m0 mem2 : gk_M} {r : Unit} (h : f_Shelf_holdBody i0 a1 m0 = some (r, mem2)) : gk_C tx l u me_Shelf_holdBody 1 [.ref (41 + i0), .int a1] m0 none mem2 :=
  gk_enter hD mc_Shelf_holdBody (Nat.le_of_ble_eq_true rfl) rfl (fun z _ _ K => s_Shelf_holdBody_0 K _ _ _ hi0 h)
theorem d_X_keep_0 : decode me_X_keep.2.1 0 = .ok (.iload_n 1, 1) := by decide +kernel
theorem d_X_keep_1 : decode me_X_keep.2.1 1 = .ok (.invokestatic 80, 3) := by decide +kernel
theorem d_X_keep_4 : decode me_X_keep.2.1 4 = .ok (.ifCond .eq 19, 3) := by decide +kernel
theorem d_X_keep_7 : decode me_X_keep.2.1 7 = .ok (.iload_n 2, 1) := by decide +kernel
theorem d_X_keep_8 : decode me_X_keep.2.1 8 = .ok (.iconst (-1), 1) := by decide +kernel
theorem d_X_keep_9 : decode me_X_keep.2.1 9 = .ok (.if_icmp .eq 16, 3) := by decide +kernel
theorem d_X_keep_12 : decode me_X_keep.2.1 12 = .ok (.aload_n 0, 1) := by decide +kernel
theorem d_X_keep_13 : decode me_X_keep.2.1 13 = .ok (.getfield 65, 3) := by decide +kernel
theorem d_X_keep_16 : decode me_X_keep.2.1 16 = .ok (.iload_n 2, 1) := by decide +kernel
theorem d_X_keep_17 : decode me_X_keep.2.1 17 = .ok (.invokevirtual 285, 3) := by decide +kernel
theorem d_X_keep_20 : decode me_X_keep.2.1 20 = .ok (.ifCond .ne 5, 3) := by decide +kernel
theorem d_X_keep_23 : decode me_X_keep.2.1 23 = .ok (.iconst (-1), 1) := by decide +kernel
theorem d_X_keep_24 : decode me_X_keep.2.1 24 = .ok (.ireturn, 1) := by decide +kernel
theorem d_X_keep_25 : decode me_X_keep.2.1 25 = .ok (.aload_n 0, 1) := by decide +kernel
theorem d_X_keep_26 : decode me_X_keep.2.1 26 = .ok (.getfield 71, 3) := by decide +kernel
theorem d_X_keep_29 : decode me_X_keep.2.1 29 = .ok (.iload_n 1, 1) := by decide +kernel
theorem d_X_keep_30 : decode me_X_keep.2.1 30 = .ok (.aaload, 1) := by decide +kernel
theorem d_X_keep_31 : decode me_X_keep.2.1 31 = .ok (.iload_n 2, 1) := by decide +kernel
theorem d_X_keep_32 : decode me_X_keep.2.1 32 = .ok (.invokevirtual 288, 3) := by decide +kernel
theorem d_X_keep_35 : decode me_X_keep.2.1 35 = .ok (.iconst 1, 1) := by decide +kernel
theorem d_X_keep_36 : decode me_X_keep.2.1 36 = .ok (.ireturn, 1) := by decide +kernel
noncomputable def f_X_keep_25  (a1 : Int32) (a2 : Int32) (m0 : gk_M) : Option (Int32 × gk_M) :=
  gk_ar 6 a1 fun i1 =>
  gk_bv (f_Shelf_holdBody i1 a2 m0) fun m2 =>
  some (1, m2)

theorem s_X_keep_25 {z : gk_Z} (K : gk_F tx z me_X_keep 2) {r : Int32} {mem2 : gk_M} : ∀ a1 a2 m0, f_X_keep_25 a1 a2 m0 = some (r, mem2) → gk_G tx z me_X_keep (gk_R tx z (some (.int r)) mem2) m0 [(0, .ref 0), (1, .int a1), (2, .int a2)] [] 25 := by
  intro a1 a2 m0  h
  unfold f_X_keep_25 at h
  refine gk_aload_n (pc := 25) K d_X_keep_25 rfl ?_
  refine gk_get (pc := 26) K d_X_keep_26 fl_X_71 tx_0 rfl rfl ?_
  refine gk_iload_n (pc := 29) K d_X_keep_29 rfl ?_
  refine gk_aald (pc := 30) K d_X_keep_30 tx_40 h (fun i1 hi1 h => ?_)
  refine gk_iload_n (pc := 31) K d_X_keep_31 rfl ?_
  obtain ⟨m2, em2, h⟩ := gk_bv_some h
  refine gk_cVv (As := [.int a2]) (pc := 32) K d_X_keep_32 mv_X_288 mc_Shelf_holdBody rfl (tx_sh hi1) cl_ok8.1 (s_Shelf_holdBody (gk_FD K) hi1 em2) (by decide) rfl (Nat.le_of_ble_eq_true rfl) ?_
  refine gk_iconst (pc := 35) K d_X_keep_35 kc_1 ?_
  exact gk_iret (pc := 36) K d_X_keep_36 rfl h
noncomputable def f_X_keep  (a1 : Int32) (a2 : Int32) (m0 : gk_M) : Option (Int32 × gk_M) :=
  gk_bi (f_X_isShelf a1 m0) fun v2 m1 =>
  if v2 = 0 then
    some ((-1), m1)
  else
    if a2 = (-1) then
      f_X_keep_25 a1 a2 m1
    else
      gk_bi (f_Ways_isBody a2 m1) fun v4 m3 =>
      if ¬ v4 = 0 then
        f_X_keep_25 a1 a2 m3
      else
        some ((-1), m3)

theorem s_X_keep_0 {z : gk_Z} (K : gk_F tx z me_X_keep 2) {r : Int32} {mem2 : gk_M} : ∀ a1 a2 m0, f_X_keep a1 a2 m0 = some (r, mem2) → gk_G tx z me_X_keep (gk_R tx z (some (.int r)) mem2) m0 [(0, .ref 0), (1, .int a1), (2, .int a2)] [] 0 := by
  intro a1 a2 m0  h
  unfold f_X_keep at h
  refine gk_iload_n (pc := 0) K d_X_keep_0 rfl ?_
  obtain ⟨v2, m1, em1, h⟩ := gk_bi_some h
  refine gk_cSi (As := [.int a1]) (pc := 1) K d_X_keep_1 ms_X_80 mc_X_isShelf rfl (s_X_isShelf (gk_FD K)  em1) (by decide) rfl (Nat.le_of_ble_eq_true rfl) ?_
  refine gk_if_eq (tgt := 23) (pc := 4) K d_X_keep_4 (by decide) h (fun h => ?_) (fun h => ?_)
  · refine gk_iconst (pc := 23) K d_X_keep_23 kc_m1 ?_
    exact gk_iret (pc := 24) K d_X_keep_24 rfl h
  · refine gk_iload_n (pc := 7) K d_X_keep_7 rfl ?_
    refine gk_iconst (pc := 8) K d_X_keep_8 kc_m1 ?_
    refine gk_ic_eq (tgt := 25) (pc := 9) K d_X_keep_9 (by decide) h (fun h => ?_) (fun h => ?_)
    · exact gk_sub [0, 1, 2] rfl (s_X_keep_25 K _ _ _  h)
    · refine gk_aload_n (pc := 12) K d_X_keep_12 rfl ?_
      refine gk_get (pc := 13) K d_X_keep_13 fl_X_65 tx_0 rfl rfl ?_
      refine gk_iload_n (pc := 16) K d_X_keep_16 rfl ?_
      obtain ⟨v4, m3, em3, h⟩ := gk_bi_some h
      refine gk_cVi (As := [.int a2]) (pc := 17) K d_X_keep_17 mv_X_285 mc_Ways_isBody rfl tx_37 cl_ok7.1 (s_Ways_isBody (gk_FD K)  em3) (by decide) rfl (Nat.le_of_ble_eq_true rfl) ?_
      refine gk_if_ne (tgt := 25) (pc := 20) K d_X_keep_20 (by decide) h (fun h => ?_) (fun h => ?_)
      · exact gk_sub [0, 1, 2] rfl (s_X_keep_25 K _ _ _  h)
      · refine gk_iconst (pc := 23) K d_X_keep_23 kc_m1 ?_
        exact gk_iret (pc := 24) K d_X_keep_24 rfl h
theorem s_X_keep {l : Launch} {u : gk_U} (hD : gk_D tx u) {a1 : Int32} {a2 : Int32} {m0 mem2 : gk_M} {r : Int32} (h : f_X_keep a1 a2 m0 = some (r, mem2)) : gk_C tx l u me_X_keep 2 [.ref 0, .int a1, .int a2] m0 (some (.int r)) mem2 :=
  gk_enter hD mc_X_keep (Nat.le_of_ble_eq_true rfl) rfl (fun z _ _ K => s_X_keep_0 K _ _ _  h)
theorem d_Arrays_fillJ_0 : decode me_Arrays_fillJ.2.1 0 = .ok (.iconst 0, 1) := by decide +kernel
theorem d_Arrays_fillJ_1 : decode me_Arrays_fillJ.2.1 1 = .ok (.istore_n 3, 1) := by decide +kernel
theorem d_Arrays_fillJ_2 : decode me_Arrays_fillJ.2.1 2 = .ok (.aload_n 0, 1) := by decide +kernel
theorem d_Arrays_fillJ_3 : decode me_Arrays_fillJ.2.1 3 = .ok (.arraylength, 1) := by decide +kernel
theorem d_Arrays_fillJ_4 : decode me_Arrays_fillJ.2.1 4 = .ok (.istore 4, 2) := by decide +kernel
theorem d_Arrays_fillJ_6 : decode me_Arrays_fillJ.2.1 6 = .ok (.iload_n 3, 1) := by decide +kernel
theorem d_Arrays_fillJ_7 : decode me_Arrays_fillJ.2.1 7 = .ok (.iload 4, 2) := by decide +kernel
theorem d_Arrays_fillJ_9 : decode me_Arrays_fillJ.2.1 9 = .ok (.if_icmp .ge 13, 3) := by decide +kernel
theorem d_Arrays_fillJ_12 : decode me_Arrays_fillJ.2.1 12 = .ok (.aload_n 0, 1) := by decide +kernel
theorem d_Arrays_fillJ_13 : decode me_Arrays_fillJ.2.1 13 = .ok (.iload_n 3, 1) := by decide +kernel
theorem d_Arrays_fillJ_14 : decode me_Arrays_fillJ.2.1 14 = .ok (.lload_n 1, 1) := by decide +kernel
theorem d_Arrays_fillJ_15 : decode me_Arrays_fillJ.2.1 15 = .ok (.lastore, 1) := by decide +kernel
theorem d_Arrays_fillJ_16 : decode me_Arrays_fillJ.2.1 16 = .ok (.iinc 3 1, 3) := by decide +kernel
theorem d_Arrays_fillJ_19 : decode me_Arrays_fillJ.2.1 19 = .ok (.goto (-13), 3) := by decide +kernel
theorem d_Arrays_fillJ_22 : decode me_Arrays_fillJ.2.1 22 = .ok (.return_, 1) := by decide +kernel
noncomputable def f_Arrays_fillJ_6 (k0 Lk0 : Nat) : Nat → Int64 → Int32 → Int32 → gk_M → Option (Unit × gk_M)
  | 0, _, _, _, _ => none
  | n + 1, a1, a3, a4, m0 =>
    if a4 ≤ a3 then
      some ((), m0)
    else
      gk_sl m0 k0 Lk0 a3 a1 fun m1 =>
      f_Arrays_fillJ_6 k0 Lk0 n a1 (a3 + 1) a4 m1

theorem s_Arrays_fillJ_6 {z : gk_Z} (K : gk_F tx z me_Arrays_fillJ 1) {r : Unit} {mem2 : gk_M} {k0 Lk0 bk0 : Nat} (hk0 : tx.1[k0]? = some (.inl (2, Lk0, bk0))) : ∀ n a1 a3 a4 m0, f_Arrays_fillJ_6 k0 Lk0 n a1 a3 a4 m0 = some (r, mem2) → gk_G tx z me_Arrays_fillJ (gk_R tx z none mem2) m0 [(0, .ref k0), (1, .long a1), (3, .int a3), (4, .int a4)] [] 6 := by
  intro n
  induction n with
  | zero => intro a1 a3 a4 m0  h; exact nomatch (show (none : Option _) = some _ from h)
  | succ n ih =>
    intro a1 a3 a4 m0  h
    unfold f_Arrays_fillJ_6 at h
    refine gk_iload_n (pc := 6) K d_Arrays_fillJ_6 rfl ?_
    refine gk_iload (pc := 7) K d_Arrays_fillJ_7 rfl ?_
    refine gk_ic_ge (tgt := 22) (pc := 9) K d_Arrays_fillJ_9 (by decide) h (fun h => ?_) (fun h => ?_)
    · exact gk_vret (pc := 22) K d_Arrays_fillJ_22 rfl h
    · refine gk_aload_n (pc := 12) K d_Arrays_fillJ_12 rfl ?_
      refine gk_iload_n (pc := 13) K d_Arrays_fillJ_13 rfl ?_
      refine gk_lload_n (pc := 14) K d_Arrays_fillJ_14 rfl ?_
      refine gk_last (pc := 15) K d_Arrays_fillJ_15 hk0 h (fun m1 h => ?_)
      refine gk_iinc2 (lv2 := [(3, .int (a3 + 1)), (0, .ref k0), (1, .long a1), (4, .int a4)]) (pc := 16) K d_Arrays_fillJ_16 rfl kc_1 (by decide) rfl ?_
      refine gk_goto (tgt := 6) (pc := 19) K d_Arrays_fillJ_19 (by decide) ?_
      exact gk_sub [1, 2, 0, 3] rfl (ih _ _ _ _  h)
noncomputable def f_Arrays_fillJ (k0 Lk0 : Nat) (a1 : Int64) (m0 : gk_M) : Option (Unit × gk_M) :=
  gk_let (Int32.ofNat Lk0) fun v1 =>
  f_Arrays_fillJ_6 k0 Lk0 gk_fv a1 0 v1 m0

theorem s_Arrays_fillJ_0 {z : gk_Z} (K : gk_F tx z me_Arrays_fillJ 1) {r : Unit} {mem2 : gk_M} {k0 Lk0 bk0 : Nat} (hk0 : tx.1[k0]? = some (.inl (2, Lk0, bk0))) : ∀ a1 m0, f_Arrays_fillJ k0 Lk0 a1 m0 = some (r, mem2) → gk_G tx z me_Arrays_fillJ (gk_R tx z none mem2) m0 [(0, .ref k0), (1, .long a1)] [] 0 := by
  intro a1 m0  h
  unfold f_Arrays_fillJ at h
  refine gk_iconst (pc := 0) K d_Arrays_fillJ_0 kc_0 ?_
  refine gk_istore_n (lv2 := [(3, .int 0), (0, .ref k0), (1, .long a1)]) (pc := 1) K d_Arrays_fillJ_1 (by decide) rfl ?_
  refine gk_aload_n (pc := 2) K d_Arrays_fillJ_2 rfl ?_
  refine gk_alen (pc := 3) K d_Arrays_fillJ_3 hk0 rfl ?_
  refine gk_topi h (fun v1 h => ?_)
  refine gk_istore (lv2 := [(4, .int v1), (3, .int 0), (0, .ref k0), (1, .long a1)]) (pc := 4) K d_Arrays_fillJ_4 (by decide) rfl ?_
  exact gk_sub [2, 3, 1, 0] rfl (s_Arrays_fillJ_6 K hk0 _ _ _ _ _  h)
theorem s_Arrays_fillJ {l : Launch} {u : gk_U} (hD : gk_D tx u) {k0 Lk0 bk0 : Nat} (hk0 : tx.1[k0]? = some (.inl (2, Lk0, bk0))) {a1 : Int64} {m0 mem2 : gk_M} {r : Unit} (h : f_Arrays_fillJ k0 Lk0 a1 m0 = some (r, mem2)) : gk_C tx l u me_Arrays_fillJ 1 [.ref k0, .long a1] m0 none mem2 :=
  gk_enter hD mc_Arrays_fillJ (Nat.le_of_ble_eq_true rfl) rfl (fun z _ _ K => s_Arrays_fillJ_0 K hk0 _ _  h)
theorem d_Shelf_holdRow_0 : decode me_Shelf_holdRow.2.1 0 = .ok (.aload_n 0, 1) := by decide +kernel
theorem d_Shelf_holdRow_1 : decode me_Shelf_holdRow.2.1 1 = .ok (.iconst (-1), 1) := by decide +kernel
theorem d_Shelf_holdRow_2 : decode me_Shelf_holdRow.2.1 2 = .ok (.putfield 13, 3) := by decide +kernel
theorem d_Shelf_holdRow_5 : decode me_Shelf_holdRow.2.1 5 = .ok (.aload_n 0, 1) := by decide +kernel
theorem d_Shelf_holdRow_6 : decode me_Shelf_holdRow.2.1 6 = .ok (.iload_n 1, 1) := by decide +kernel
theorem d_Shelf_holdRow_7 : decode me_Shelf_holdRow.2.1 7 = .ok (.putfield 17, 3) := by decide +kernel
theorem d_Shelf_holdRow_10 : decode me_Shelf_holdRow.2.1 10 = .ok (.aload_n 0, 1) := by decide +kernel
theorem d_Shelf_holdRow_11 : decode me_Shelf_holdRow.2.1 11 = .ok (.iload_n 2, 1) := by decide +kernel
theorem d_Shelf_holdRow_12 : decode me_Shelf_holdRow.2.1 12 = .ok (.putfield 20, 3) := by decide +kernel
theorem d_Shelf_holdRow_15 : decode me_Shelf_holdRow.2.1 15 = .ok (.aload_n 0, 1) := by decide +kernel
theorem d_Shelf_holdRow_16 : decode me_Shelf_holdRow.2.1 16 = .ok (.getfield 9, 3) := by decide +kernel
theorem d_Shelf_holdRow_19 : decode me_Shelf_holdRow.2.1 19 = .ok (.lconst 0, 1) := by decide +kernel
theorem d_Shelf_holdRow_20 : decode me_Shelf_holdRow.2.1 20 = .ok (.invokestatic 27, 3) := by decide +kernel
theorem d_Shelf_holdRow_23 : decode me_Shelf_holdRow.2.1 23 = .ok (.return_, 1) := by decide +kernel
noncomputable def f_Shelf_holdRow  (i0 : Nat) (a1 : Int32) (a2 : Int32) (m0 : gk_M) : Option (Unit × gk_M) :=
  gk_let (gk_mi m0 (41 + i0) 1 (-1)) fun m1 =>
  gk_let (gk_mi m1 (41 + i0) 2 a1) fun m2 =>
  gk_let (gk_mi m2 (41 + i0) 3 a2) fun m3 =>
  gk_bv (f_Arrays_fillJ (47 + i0) 60 0 m3) fun m4 =>
  some ((), m4)

theorem s_Shelf_holdRow_0 {z : gk_Z} (K : gk_F tx z me_Shelf_holdRow 2) {r : Unit} {mem2 : gk_M} : ∀ i0 a1 a2 m0, i0 < 6 → f_Shelf_holdRow i0 a1 a2 m0 = some (r, mem2) → gk_G tx z me_Shelf_holdRow (gk_R tx z none mem2) m0 [(0, .ref (41 + i0)), (1, .int a1), (2, .int a2)] [] 0 := by
  intro i0 a1 a2 m0 hi0 h
  unfold f_Shelf_holdRow at h
  refine gk_aload_n (pc := 0) K d_Shelf_holdRow_0 rfl ?_
  refine gk_iconst (pc := 1) K d_Shelf_holdRow_1 kc_m1 ?_
  refine gk_puti (pc := 2) K d_Shelf_holdRow_2 fp_Shelf_13 (tx_sh hi0) rfl h (fun m1 h => ?_)
  refine gk_aload_n (pc := 5) K d_Shelf_holdRow_5 rfl ?_
  refine gk_iload_n (pc := 6) K d_Shelf_holdRow_6 rfl ?_
  refine gk_puti (pc := 7) K d_Shelf_holdRow_7 fp_Shelf_17 (tx_sh hi0) rfl h (fun m2 h => ?_)
  refine gk_aload_n (pc := 10) K d_Shelf_holdRow_10 rfl ?_
  refine gk_iload_n (pc := 11) K d_Shelf_holdRow_11 rfl ?_
  refine gk_puti (pc := 12) K d_Shelf_holdRow_12 fp_Shelf_20 (tx_sh hi0) rfl h (fun m3 h => ?_)
  refine gk_aload_n (pc := 15) K d_Shelf_holdRow_15 rfl ?_
  refine gk_get (pc := 16) K d_Shelf_holdRow_16 fl_Shelf_9 (tx_sh hi0) rfl rfl ?_
  refine gk_lconst (pc := 19) K d_Shelf_holdRow_19 kl_0 ?_
  obtain ⟨m4, em4, h⟩ := gk_bv_some h
  refine gk_cSv (As := [.ref (47 + i0), .long 0]) (pc := 20) K d_Shelf_holdRow_20 ms_Shelf_27 mc_Arrays_fillJ rfl (s_Arrays_fillJ (gk_FD K) (tx_sa hi0) em4) (by decide) rfl (Nat.le_of_ble_eq_true rfl) ?_
  exact gk_vret (pc := 23) K d_Shelf_holdRow_23 rfl h
theorem s_Shelf_holdRow {l : Launch} {u : gk_U} (hD : gk_D tx u) {i0 : Nat} (hi0 : i0 < 6) {a1 : Int32} {a2 : Int32} {m0 mem2 : gk_M} {r : Unit} (h : f_Shelf_holdRow i0 a1 a2 m0 = some (r, mem2)) : gk_C tx l u me_Shelf_holdRow 2 [.ref (41 + i0), .int a1, .int a2] m0 none mem2 :=
  gk_enter hD mc_Shelf_holdRow (Nat.le_of_ble_eq_true rfl) rfl (fun z _ _ K => s_Shelf_holdRow_0 K _ _ _ _ hi0 h)
theorem d_X_row_0 : decode me_X_row.2.1 0 = .ok (.iload_n 1, 1) := by decide +kernel
theorem d_X_row_1 : decode me_X_row.2.1 1 = .ok (.invokestatic 80, 3) := by decide +kernel
theorem d_X_row_4 : decode me_X_row.2.1 4 = .ok (.ifCond .eq 18, 3) := by decide +kernel
theorem d_X_row_7 : decode me_X_row.2.1 7 = .ok (.iload_n 2, 1) := by decide +kernel
theorem d_X_row_8 : decode me_X_row.2.1 8 = .ok (.ifCond .lt 14, 3) := by decide +kernel
theorem d_X_row_11 : decode me_X_row.2.1 11 = .ok (.iload_n 2, 1) := by decide +kernel
theorem d_X_row_12 : decode me_X_row.2.1 12 = .ok (.iconst 4, 1) := by decide +kernel
theorem d_X_row_13 : decode me_X_row.2.1 13 = .ok (.if_icmp .gt 9, 3) := by decide +kernel
theorem d_X_row_16 : decode me_X_row.2.1 16 = .ok (.iload_n 3, 1) := by decide +kernel
theorem d_X_row_17 : decode me_X_row.2.1 17 = .ok (.bipush 60, 2) := by decide +kernel
theorem d_X_row_19 : decode me_X_row.2.1 19 = .ok (.if_icmp .le 5, 3) := by decide +kernel
theorem d_X_row_22 : decode me_X_row.2.1 22 = .ok (.iconst (-1), 1) := by decide +kernel
theorem d_X_row_23 : decode me_X_row.2.1 23 = .ok (.ireturn, 1) := by decide +kernel
theorem d_X_row_24 : decode me_X_row.2.1 24 = .ok (.iload_n 3, 1) := by decide +kernel
theorem d_X_row_25 : decode me_X_row.2.1 25 = .ok (.ifCond .ge 6, 3) := by decide +kernel
theorem d_X_row_28 : decode me_X_row.2.1 28 = .ok (.bipush (-14), 2) := by decide +kernel
theorem d_X_row_30 : decode me_X_row.2.1 30 = .ok (.ireturn, 1) := by decide +kernel
theorem d_X_row_31 : decode me_X_row.2.1 31 = .ok (.aload_n 0, 1) := by decide +kernel
theorem d_X_row_32 : decode me_X_row.2.1 32 = .ok (.getfield 71, 3) := by decide +kernel
theorem d_X_row_35 : decode me_X_row.2.1 35 = .ok (.iload_n 1, 1) := by decide +kernel
theorem d_X_row_36 : decode me_X_row.2.1 36 = .ok (.aaload, 1) := by decide +kernel
theorem d_X_row_37 : decode me_X_row.2.1 37 = .ok (.iload_n 2, 1) := by decide +kernel
theorem d_X_row_38 : decode me_X_row.2.1 38 = .ok (.iload_n 3, 1) := by decide +kernel
theorem d_X_row_39 : decode me_X_row.2.1 39 = .ok (.invokevirtual 292, 3) := by decide +kernel
theorem d_X_row_42 : decode me_X_row.2.1 42 = .ok (.iconst 1, 1) := by decide +kernel
theorem d_X_row_43 : decode me_X_row.2.1 43 = .ok (.ireturn, 1) := by decide +kernel
noncomputable def f_X_row  (a1 : Int32) (a2 : Int32) (a3 : Int32) (m0 : gk_M) : Option (Int32 × gk_M) :=
  gk_bi (f_X_isShelf a1 m0) fun v2 m1 =>
  if v2 = 0 then
    some ((-1), m1)
  else
    if a2 < 0 then
      some ((-1), m1)
    else
      if 4 < a2 then
        some ((-1), m1)
      else
        if a3 ≤ 60 then
          if 0 ≤ a3 then
            gk_ar 6 a1 fun i3 =>
            gk_bv (f_Shelf_holdRow i3 a2 a3 m1) fun m4 =>
            some (1, m4)
          else
            some ((-14), m1)
        else
          some ((-1), m1)

theorem s_X_row_0 {z : gk_Z} (K : gk_F tx z me_X_row 3) {r : Int32} {mem2 : gk_M} : ∀ a1 a2 a3 m0, f_X_row a1 a2 a3 m0 = some (r, mem2) → gk_G tx z me_X_row (gk_R tx z (some (.int r)) mem2) m0 [(0, .ref 0), (1, .int a1), (2, .int a2), (3, .int a3)] [] 0 := by
  intro a1 a2 a3 m0  h
  unfold f_X_row at h
  refine gk_iload_n (pc := 0) K d_X_row_0 rfl ?_
  obtain ⟨v2, m1, em1, h⟩ := gk_bi_some h
  refine gk_cSi (As := [.int a1]) (pc := 1) K d_X_row_1 ms_X_80 mc_X_isShelf rfl (s_X_isShelf (gk_FD K)  em1) (by decide) rfl (Nat.le_of_ble_eq_true rfl) ?_
  refine gk_if_eq (tgt := 22) (pc := 4) K d_X_row_4 (by decide) h (fun h => ?_) (fun h => ?_)
  · refine gk_iconst (pc := 22) K d_X_row_22 kc_m1 ?_
    exact gk_iret (pc := 23) K d_X_row_23 rfl h
  · refine gk_iload_n (pc := 7) K d_X_row_7 rfl ?_
    refine gk_if_lt (tgt := 22) (pc := 8) K d_X_row_8 (by decide) h (fun h => ?_) (fun h => ?_)
    · refine gk_iconst (pc := 22) K d_X_row_22 kc_m1 ?_
      exact gk_iret (pc := 23) K d_X_row_23 rfl h
    · refine gk_iload_n (pc := 11) K d_X_row_11 rfl ?_
      refine gk_iconst (pc := 12) K d_X_row_12 kc_4 ?_
      refine gk_ic_gt (tgt := 22) (pc := 13) K d_X_row_13 (by decide) h (fun h => ?_) (fun h => ?_)
      · refine gk_iconst (pc := 22) K d_X_row_22 kc_m1 ?_
        exact gk_iret (pc := 23) K d_X_row_23 rfl h
      · refine gk_iload_n (pc := 16) K d_X_row_16 rfl ?_
        refine gk_bipush (pc := 17) K d_X_row_17 kb_60 ?_
        refine gk_ic_le (tgt := 24) (pc := 19) K d_X_row_19 (by decide) h (fun h => ?_) (fun h => ?_)
        · refine gk_iload_n (pc := 24) K d_X_row_24 rfl ?_
          refine gk_if_ge (tgt := 31) (pc := 25) K d_X_row_25 (by decide) h (fun h => ?_) (fun h => ?_)
          · refine gk_aload_n (pc := 31) K d_X_row_31 rfl ?_
            refine gk_get (pc := 32) K d_X_row_32 fl_X_71 tx_0 rfl rfl ?_
            refine gk_iload_n (pc := 35) K d_X_row_35 rfl ?_
            refine gk_aald (pc := 36) K d_X_row_36 tx_40 h (fun i3 hi3 h => ?_)
            refine gk_iload_n (pc := 37) K d_X_row_37 rfl ?_
            refine gk_iload_n (pc := 38) K d_X_row_38 rfl ?_
            obtain ⟨m4, em4, h⟩ := gk_bv_some h
            refine gk_cVv (As := [.int a2, .int a3]) (pc := 39) K d_X_row_39 mv_X_292 mc_Shelf_holdRow rfl (tx_sh hi3) cl_ok8.1 (s_Shelf_holdRow (gk_FD K) hi3 em4) (by decide) rfl (Nat.le_of_ble_eq_true rfl) ?_
            refine gk_iconst (pc := 42) K d_X_row_42 kc_1 ?_
            exact gk_iret (pc := 43) K d_X_row_43 rfl h
          · refine gk_bipush (pc := 28) K d_X_row_28 kb_m14 ?_
            exact gk_iret (pc := 30) K d_X_row_30 rfl h
        · refine gk_iconst (pc := 22) K d_X_row_22 kc_m1 ?_
          exact gk_iret (pc := 23) K d_X_row_23 rfl h
theorem s_X_row {l : Launch} {u : gk_U} (hD : gk_D tx u) {a1 : Int32} {a2 : Int32} {a3 : Int32} {m0 mem2 : gk_M} {r : Int32} (h : f_X_row a1 a2 a3 m0 = some (r, mem2)) : gk_C tx l u me_X_row 3 [.ref 0, .int a1, .int a2, .int a3] m0 (some (.int r)) mem2 :=
  gk_enter hD mc_X_row (Nat.le_of_ble_eq_true rfl) rfl (fun z _ _ K => s_X_row_0 K _ _ _ _  h)
theorem d_X_cellRefusal_0 : decode me_X_cellRefusal.2.1 0 = .ok (.iload_n 1, 1) := by decide +kernel
theorem d_X_cellRefusal_1 : decode me_X_cellRefusal.2.1 1 = .ok (.invokestatic 80, 3) := by decide +kernel
theorem d_X_cellRefusal_4 : decode me_X_cellRefusal.2.1 4 = .ok (.ifCond .ne 5, 3) := by decide +kernel
theorem d_X_cellRefusal_7 : decode me_X_cellRefusal.2.1 7 = .ok (.iconst (-1), 1) := by decide +kernel
theorem d_X_cellRefusal_8 : decode me_X_cellRefusal.2.1 8 = .ok (.ireturn, 1) := by decide +kernel
theorem d_X_cellRefusal_9 : decode me_X_cellRefusal.2.1 9 = .ok (.aload_n 0, 1) := by decide +kernel
theorem d_X_cellRefusal_10 : decode me_X_cellRefusal.2.1 10 = .ok (.getfield 71, 3) := by decide +kernel
theorem d_X_cellRefusal_13 : decode me_X_cellRefusal.2.1 13 = .ok (.iload_n 1, 1) := by decide +kernel
theorem d_X_cellRefusal_14 : decode me_X_cellRefusal.2.1 14 = .ok (.aaload, 1) := by decide +kernel
theorem d_X_cellRefusal_15 : decode me_X_cellRefusal.2.1 15 = .ok (.astore_n 3, 1) := by decide +kernel
theorem d_X_cellRefusal_16 : decode me_X_cellRefusal.2.1 16 = .ok (.aload_n 3, 1) := by decide +kernel
theorem d_X_cellRefusal_17 : decode me_X_cellRefusal.2.1 17 = .ok (.invokevirtual 84, 3) := by decide +kernel
theorem d_X_cellRefusal_20 : decode me_X_cellRefusal.2.1 20 = .ok (.ifCond .eq 6, 3) := by decide +kernel
theorem d_X_cellRefusal_23 : decode me_X_cellRefusal.2.1 23 = .ok (.bipush (-11), 2) := by decide +kernel
theorem d_X_cellRefusal_25 : decode me_X_cellRefusal.2.1 25 = .ok (.ireturn, 1) := by decide +kernel
theorem d_X_cellRefusal_26 : decode me_X_cellRefusal.2.1 26 = .ok (.aload_n 3, 1) := by decide +kernel
theorem d_X_cellRefusal_27 : decode me_X_cellRefusal.2.1 27 = .ok (.invokevirtual 304, 3) := by decide +kernel
theorem d_X_cellRefusal_30 : decode me_X_cellRefusal.2.1 30 = .ok (.ifCond .ne 6, 3) := by decide +kernel
theorem d_X_cellRefusal_33 : decode me_X_cellRefusal.2.1 33 = .ok (.bipush (-12), 2) := by decide +kernel
theorem d_X_cellRefusal_35 : decode me_X_cellRefusal.2.1 35 = .ok (.ireturn, 1) := by decide +kernel
theorem d_X_cellRefusal_36 : decode me_X_cellRefusal.2.1 36 = .ok (.aload_n 3, 1) := by decide +kernel
theorem d_X_cellRefusal_37 : decode me_X_cellRefusal.2.1 37 = .ok (.iload_n 2, 1) := by decide +kernel
theorem d_X_cellRefusal_38 : decode me_X_cellRefusal.2.1 38 = .ok (.iconst 1, 1) := by decide +kernel
theorem d_X_cellRefusal_39 : decode me_X_cellRefusal.2.1 39 = .ok (.invokevirtual 91, 3) := by decide +kernel
theorem d_X_cellRefusal_42 : decode me_X_cellRefusal.2.1 42 = .ok (.ifCond .eq 7, 3) := by decide +kernel
theorem d_X_cellRefusal_45 : decode me_X_cellRefusal.2.1 45 = .ok (.iconst 0, 1) := by decide +kernel
theorem d_X_cellRefusal_46 : decode me_X_cellRefusal.2.1 46 = .ok (.goto 5, 3) := by decide +kernel
theorem d_X_cellRefusal_49 : decode me_X_cellRefusal.2.1 49 = .ok (.bipush (-13), 2) := by decide +kernel
theorem d_X_cellRefusal_51 : decode me_X_cellRefusal.2.1 51 = .ok (.ireturn, 1) := by decide +kernel
noncomputable def f_X_cellRefusal  (a1 : Int32) (a2 : Int32) (m0 : gk_M) : Option (Int32 × gk_M) :=
  gk_bi (f_X_isShelf a1 m0) fun v2 m1 =>
  if ¬ v2 = 0 then
    gk_ar 6 a1 fun i3 =>
    gk_bi (f_Shelf_isEmpty i3 m1) fun v5 m4 =>
    if v5 = 0 then
      gk_bi (f_Shelf_isRow i3 m4) fun v7 m6 =>
      if ¬ v7 = 0 then
        gk_bi (f_Shelf_spans i3 a2 1 m6) fun v9 m8 =>
        if v9 = 0 then
          some ((-13), m8)
        else
          some (0, m8)
      else
        some ((-12), m6)
    else
      some ((-11), m4)
  else
    some ((-1), m1)

theorem s_X_cellRefusal_0 {z : gk_Z} (K : gk_F tx z me_X_cellRefusal 2) {r : Int32} {mem2 : gk_M} : ∀ a1 a2 m0, f_X_cellRefusal a1 a2 m0 = some (r, mem2) → gk_G tx z me_X_cellRefusal (gk_R tx z (some (.int r)) mem2) m0 [(0, .ref 0), (1, .int a1), (2, .int a2)] [] 0 := by
  intro a1 a2 m0  h
  unfold f_X_cellRefusal at h
  refine gk_iload_n (pc := 0) K d_X_cellRefusal_0 rfl ?_
  obtain ⟨v2, m1, em1, h⟩ := gk_bi_some h
  refine gk_cSi (As := [.int a1]) (pc := 1) K d_X_cellRefusal_1 ms_X_80 mc_X_isShelf rfl (s_X_isShelf (gk_FD K)  em1) (by decide) rfl (Nat.le_of_ble_eq_true rfl) ?_
  refine gk_if_ne (tgt := 9) (pc := 4) K d_X_cellRefusal_4 (by decide) h (fun h => ?_) (fun h => ?_)
  · refine gk_aload_n (pc := 9) K d_X_cellRefusal_9 rfl ?_
    refine gk_get (pc := 10) K d_X_cellRefusal_10 fl_X_71 tx_0 rfl rfl ?_
    refine gk_iload_n (pc := 13) K d_X_cellRefusal_13 rfl ?_
    refine gk_aald (pc := 14) K d_X_cellRefusal_14 tx_40 h (fun i3 hi3 h => ?_)
    refine gk_astore_n (lv2 := [(3, .ref (41 + i3)), (0, .ref 0), (1, .int a1), (2, .int a2)]) (pc := 15) K d_X_cellRefusal_15 (by decide) rfl ?_
    refine gk_aload_n (pc := 16) K d_X_cellRefusal_16 rfl ?_
    obtain ⟨v5, m4, em4, h⟩ := gk_bi_some h
    refine gk_cVi (As := []) (pc := 17) K d_X_cellRefusal_17 mv_X_84 mc_Shelf_isEmpty rfl (tx_sh hi3) cl_ok8.1 (s_Shelf_isEmpty (gk_FD K) hi3 em4) (by decide) rfl (Nat.le_of_ble_eq_true rfl) ?_
    refine gk_if_eq (tgt := 26) (pc := 20) K d_X_cellRefusal_20 (by decide) h (fun h => ?_) (fun h => ?_)
    · refine gk_aload_n (pc := 26) K d_X_cellRefusal_26 rfl ?_
      obtain ⟨v7, m6, em6, h⟩ := gk_bi_some h
      refine gk_cVi (As := []) (pc := 27) K d_X_cellRefusal_27 mv_X_304 mc_Shelf_isRow rfl (tx_sh hi3) cl_ok8.1 (s_Shelf_isRow (gk_FD K) hi3 em6) (by decide) rfl (Nat.le_of_ble_eq_true rfl) ?_
      refine gk_if_ne (tgt := 36) (pc := 30) K d_X_cellRefusal_30 (by decide) h (fun h => ?_) (fun h => ?_)
      · refine gk_aload_n (pc := 36) K d_X_cellRefusal_36 rfl ?_
        refine gk_iload_n (pc := 37) K d_X_cellRefusal_37 rfl ?_
        refine gk_iconst (pc := 38) K d_X_cellRefusal_38 kc_1 ?_
        obtain ⟨v9, m8, em8, h⟩ := gk_bi_some h
        refine gk_cVi (As := [.int a2, .int 1]) (pc := 39) K d_X_cellRefusal_39 mv_X_91 mc_Shelf_spans rfl (tx_sh hi3) cl_ok8.1 (s_Shelf_spans (gk_FD K) hi3 em8) (by decide) rfl (Nat.le_of_ble_eq_true rfl) ?_
        refine gk_if_eq (tgt := 49) (pc := 42) K d_X_cellRefusal_42 (by decide) h (fun h => ?_) (fun h => ?_)
        · refine gk_bipush (pc := 49) K d_X_cellRefusal_49 kb_m13 ?_
          exact gk_iret (pc := 51) K d_X_cellRefusal_51 rfl h
        · refine gk_iconst (pc := 45) K d_X_cellRefusal_45 kc_0 ?_
          refine gk_goto (tgt := 51) (pc := 46) K d_X_cellRefusal_46 (by decide) ?_
          exact gk_iret (pc := 51) K d_X_cellRefusal_51 rfl h
      · refine gk_bipush (pc := 33) K d_X_cellRefusal_33 kb_m12 ?_
        exact gk_iret (pc := 35) K d_X_cellRefusal_35 rfl h
    · refine gk_bipush (pc := 23) K d_X_cellRefusal_23 kb_m11 ?_
      exact gk_iret (pc := 25) K d_X_cellRefusal_25 rfl h
  · refine gk_iconst (pc := 7) K d_X_cellRefusal_7 kc_m1 ?_
    exact gk_iret (pc := 8) K d_X_cellRefusal_8 rfl h
theorem s_X_cellRefusal {l : Launch} {u : gk_U} (hD : gk_D tx u) {a1 : Int32} {a2 : Int32} {m0 mem2 : gk_M} {r : Int32} (h : f_X_cellRefusal a1 a2 m0 = some (r, mem2)) : gk_C tx l u me_X_cellRefusal 2 [.ref 0, .int a1, .int a2] m0 (some (.int r)) mem2 :=
  gk_enter hD mc_X_cellRefusal (Nat.le_of_ble_eq_true rfl) rfl (fun z _ _ K => s_X_cellRefusal_0 K _ _ _  h)
theorem d_Shelf_narrowed_0 : decode me_Shelf_narrowed.2.1 0 = .ok (.aload_n 0, 1) := by decide +kernel
theorem d_Shelf_narrowed_1 : decode me_Shelf_narrowed.2.1 1 = .ok (.getfield 17, 3) := by decide +kernel
theorem d_Shelf_narrowed_4 : decode me_Shelf_narrowed.2.1 4 = .ok (.tableswitch 48 0 3 #[32, 37, 42, 46], 32) := by decide +kernel
theorem d_Shelf_narrowed_36 : decode me_Shelf_narrowed.2.1 36 = .ok (.lload_n 1, 1) := by decide +kernel
theorem d_Shelf_narrowed_37 : decode me_Shelf_narrowed.2.1 37 = .ok (.l2i, 1) := by decide +kernel
theorem d_Shelf_narrowed_38 : decode me_Shelf_narrowed.2.1 38 = .ok (.i2b, 1) := by decide +kernel
theorem d_Shelf_narrowed_39 : decode me_Shelf_narrowed.2.1 39 = .ok (.i2l, 1) := by decide +kernel
theorem d_Shelf_narrowed_40 : decode me_Shelf_narrowed.2.1 40 = .ok (.lreturn, 1) := by decide +kernel
theorem d_Shelf_narrowed_41 : decode me_Shelf_narrowed.2.1 41 = .ok (.lload_n 1, 1) := by decide +kernel
theorem d_Shelf_narrowed_42 : decode me_Shelf_narrowed.2.1 42 = .ok (.l2i, 1) := by decide +kernel
theorem d_Shelf_narrowed_43 : decode me_Shelf_narrowed.2.1 43 = .ok (.i2s, 1) := by decide +kernel
theorem d_Shelf_narrowed_44 : decode me_Shelf_narrowed.2.1 44 = .ok (.i2l, 1) := by decide +kernel
theorem d_Shelf_narrowed_45 : decode me_Shelf_narrowed.2.1 45 = .ok (.lreturn, 1) := by decide +kernel
theorem d_Shelf_narrowed_46 : decode me_Shelf_narrowed.2.1 46 = .ok (.lload_n 1, 1) := by decide +kernel
theorem d_Shelf_narrowed_47 : decode me_Shelf_narrowed.2.1 47 = .ok (.l2i, 1) := by decide +kernel
theorem d_Shelf_narrowed_48 : decode me_Shelf_narrowed.2.1 48 = .ok (.i2l, 1) := by decide +kernel
theorem d_Shelf_narrowed_49 : decode me_Shelf_narrowed.2.1 49 = .ok (.lreturn, 1) := by decide +kernel
theorem d_Shelf_narrowed_50 : decode me_Shelf_narrowed.2.1 50 = .ok (.lload_n 1, 1) := by decide +kernel
theorem d_Shelf_narrowed_51 : decode me_Shelf_narrowed.2.1 51 = .ok (.lreturn, 1) := by decide +kernel
theorem d_Shelf_narrowed_52 : decode me_Shelf_narrowed.2.1 52 = .ok (.lload_n 1, 1) := by decide +kernel
theorem d_Shelf_narrowed_53 : decode me_Shelf_narrowed.2.1 53 = .ok (.lconst 0, 1) := by decide +kernel
theorem d_Shelf_narrowed_54 : decode me_Shelf_narrowed.2.1 54 = .ok (.lcmp, 1) := by decide +kernel
theorem d_Shelf_narrowed_55 : decode me_Shelf_narrowed.2.1 55 = .ok (.ifCond .eq 7, 3) := by decide +kernel
theorem d_Shelf_narrowed_58 : decode me_Shelf_narrowed.2.1 58 = .ok (.lconst 1, 1) := by decide +kernel
theorem d_Shelf_narrowed_59 : decode me_Shelf_narrowed.2.1 59 = .ok (.goto 4, 3) := by decide +kernel
theorem d_Shelf_narrowed_62 : decode me_Shelf_narrowed.2.1 62 = .ok (.lconst 0, 1) := by decide +kernel
theorem d_Shelf_narrowed_63 : decode me_Shelf_narrowed.2.1 63 = .ok (.lreturn, 1) := by decide +kernel
noncomputable def f_Shelf_narrowed  (i0 : Nat) (a1 : Int64) (m0 : gk_M) : Option (Int64 × gk_M) :=
  gk_let (m0.1 (41 + i0) 2) fun v1 =>
  if v1 = 0 then
    some (a1.toInt32.toInt8.toInt32.toInt64, m0)
  else
    if v1 = 1 then
      some (a1.toInt32.toInt16.toInt32.toInt64, m0)
    else
      if v1 = 2 then
        some (a1.toInt32.toInt64, m0)
      else
        if v1 = 3 then
          some (a1, m0)
        else
          if a1 = 0 then
            some (0, m0)
          else
            some (1, m0)

theorem s_Shelf_narrowed_0 {z : gk_Z} (K : gk_F tx z me_Shelf_narrowed 1) {r : Int64} {mem2 : gk_M} : ∀ i0 a1 m0, i0 < 6 → f_Shelf_narrowed i0 a1 m0 = some (r, mem2) → gk_G tx z me_Shelf_narrowed (gk_R tx z (some (.long r)) mem2) m0 [(0, .ref (41 + i0)), (1, .long a1)] [] 0 := by
  intro i0 a1 m0 hi0 h
  unfold f_Shelf_narrowed at h
  refine gk_aload_n (pc := 0) K d_Shelf_narrowed_0 rfl ?_
  refine gk_get (pc := 1) K d_Shelf_narrowed_1 fl_Shelf_17 (tx_sh hi0) rfl rfl ?_
  refine gk_topi h (fun v1 h => ?_)
  refine gk_ite (c := v1 = 0) h (fun c2 h => ?_) (fun c2 h => ?_)
  · refine gk_tIn (tgt := 36) (pc := 4) K d_Shelf_narrowed_4 c2 (by decide) (by decide) rfl (by decide) ?_
    refine gk_lload_n (pc := 36) K d_Shelf_narrowed_36 rfl ?_
    refine gk_l2i (pc := 37) K d_Shelf_narrowed_37 ?_
    refine gk_i2b (pc := 38) K d_Shelf_narrowed_38 ?_
    refine gk_i2l (pc := 39) K d_Shelf_narrowed_39 ?_
    exact gk_lret (pc := 40) K d_Shelf_narrowed_40 rfl h
  · skip
    refine gk_ite (c := v1 = 1) h (fun c3 h => ?_) (fun c3 h => ?_)
    · refine gk_tIn (tgt := 41) (pc := 4) K d_Shelf_narrowed_4 c3 (by decide) (by decide) rfl (by decide) ?_
      refine gk_lload_n (pc := 41) K d_Shelf_narrowed_41 rfl ?_
      refine gk_l2i (pc := 42) K d_Shelf_narrowed_42 ?_
      refine gk_i2s (pc := 43) K d_Shelf_narrowed_43 ?_
      refine gk_i2l (pc := 44) K d_Shelf_narrowed_44 ?_
      exact gk_lret (pc := 45) K d_Shelf_narrowed_45 rfl h
    · skip
      refine gk_ite (c := v1 = 2) h (fun c4 h => ?_) (fun c4 h => ?_)
      · refine gk_tIn (tgt := 46) (pc := 4) K d_Shelf_narrowed_4 c4 (by decide) (by decide) rfl (by decide) ?_
        refine gk_lload_n (pc := 46) K d_Shelf_narrowed_46 rfl ?_
        refine gk_l2i (pc := 47) K d_Shelf_narrowed_47 ?_
        refine gk_i2l (pc := 48) K d_Shelf_narrowed_48 ?_
        exact gk_lret (pc := 49) K d_Shelf_narrowed_49 rfl h
      · skip
        refine gk_ite (c := v1 = 3) h (fun c5 h => ?_) (fun c5 h => ?_)
        · refine gk_tIn (tgt := 50) (pc := 4) K d_Shelf_narrowed_4 c5 (by decide) (by decide) rfl (by decide) ?_
          refine gk_lload_n (pc := 50) K d_Shelf_narrowed_50 rfl ?_
          exact gk_lret (pc := 51) K d_Shelf_narrowed_51 rfl h
        · skip
          have gc2 := gk_neq c2 (a := 0) (by decide)
          have gc3 := gk_neq c3 (a := 1) (by decide)
          have gc4 := gk_neq c4 (a := 2) (by decide)
          have gc5 := gk_neq c5 (a := 3) (by decide)
          refine gk_tOut (tgt := 52) (pc := 4) K d_Shelf_narrowed_4 (by omega) (by decide) ?_
          refine gk_lload_n (pc := 52) K d_Shelf_narrowed_52 rfl ?_
          refine gk_lconst (pc := 53) K d_Shelf_narrowed_53 kl_0 ?_
          refine gk_lc_eq (tgt := 62) (pc := 54) K d_Shelf_narrowed_54 d_Shelf_narrowed_55 (by decide) h (fun h => ?_) (fun h => ?_)
          · refine gk_lconst (pc := 62) K d_Shelf_narrowed_62 kl_0 ?_
            exact gk_lret (pc := 63) K d_Shelf_narrowed_63 rfl h
          · refine gk_lconst (pc := 58) K d_Shelf_narrowed_58 kl_1 ?_
            refine gk_goto (tgt := 63) (pc := 59) K d_Shelf_narrowed_59 (by decide) ?_
            exact gk_lret (pc := 63) K d_Shelf_narrowed_63 rfl h
theorem s_Shelf_narrowed {l : Launch} {u : gk_U} (hD : gk_D tx u) {i0 : Nat} (hi0 : i0 < 6) {a1 : Int64} {m0 mem2 : gk_M} {r : Int64} (h : f_Shelf_narrowed i0 a1 m0 = some (r, mem2)) : gk_C tx l u me_Shelf_narrowed 1 [.ref (41 + i0), .long a1] m0 (some (.long r)) mem2 :=
  gk_enter hD mc_Shelf_narrowed (Nat.le_of_ble_eq_true rfl) rfl (fun z _ _ K => s_Shelf_narrowed_0 K _ _ _ hi0 h)
theorem d_Shelf_setCell_0 : decode me_Shelf_setCell.2.1 0 = .ok (.aload_n 0, 1) := by decide +kernel
theorem d_Shelf_setCell_1 : decode me_Shelf_setCell.2.1 1 = .ok (.getfield 9, 3) := by decide +kernel
theorem d_Shelf_setCell_4 : decode me_Shelf_setCell.2.1 4 = .ok (.iload_n 1, 1) := by decide +kernel
theorem d_Shelf_setCell_5 : decode me_Shelf_setCell.2.1 5 = .ok (.aload_n 0, 1) := by decide +kernel
theorem d_Shelf_setCell_6 : decode me_Shelf_setCell.2.1 6 = .ok (.lload_n 2, 1) := by decide +kernel
theorem d_Shelf_setCell_7 : decode me_Shelf_setCell.2.1 7 = .ok (.invokevirtual 33, 3) := by decide +kernel
theorem d_Shelf_setCell_10 : decode me_Shelf_setCell.2.1 10 = .ok (.lastore, 1) := by decide +kernel
theorem d_Shelf_setCell_11 : decode me_Shelf_setCell.2.1 11 = .ok (.return_, 1) := by decide +kernel
noncomputable def f_Shelf_setCell  (i0 : Nat) (a1 : Int32) (a2 : Int64) (m0 : gk_M) : Option (Unit × gk_M) :=
  gk_bl (f_Shelf_narrowed i0 a2 m0) fun v2 m1 =>
  gk_sl m1 (47 + i0) 60 a1 v2 fun m3 =>
  some ((), m3)

theorem s_Shelf_setCell_0 {z : gk_Z} (K : gk_F tx z me_Shelf_setCell 2) {r : Unit} {mem2 : gk_M} : ∀ i0 a1 a2 m0, i0 < 6 → f_Shelf_setCell i0 a1 a2 m0 = some (r, mem2) → gk_G tx z me_Shelf_setCell (gk_R tx z none mem2) m0 [(0, .ref (41 + i0)), (1, .int a1), (2, .long a2)] [] 0 := by
  intro i0 a1 a2 m0 hi0 h
  unfold f_Shelf_setCell at h
  refine gk_aload_n (pc := 0) K d_Shelf_setCell_0 rfl ?_
  refine gk_get (pc := 1) K d_Shelf_setCell_1 fl_Shelf_9 (tx_sh hi0) rfl rfl ?_
  refine gk_iload_n (pc := 4) K d_Shelf_setCell_4 rfl ?_
  refine gk_aload_n (pc := 5) K d_Shelf_setCell_5 rfl ?_
  refine gk_lload_n (pc := 6) K d_Shelf_setCell_6 rfl ?_
  obtain ⟨v2, m1, em1, h⟩ := gk_bl_some h
  refine gk_cVl (As := [.long a2]) (pc := 7) K d_Shelf_setCell_7 mv_Shelf_33 mc_Shelf_narrowed rfl (tx_sh hi0) cl_ok8.1 (s_Shelf_narrowed (gk_FD K) hi0 em1) (by decide) rfl (Nat.le_of_ble_eq_true rfl) ?_
  refine gk_last (pc := 10) K d_Shelf_setCell_10 (tx_sa hi0) h (fun m3 h => ?_)
  exact gk_vret (pc := 11) K d_Shelf_setCell_11 rfl h
theorem s_Shelf_setCell {l : Launch} {u : gk_U} (hD : gk_D tx u) {i0 : Nat} (hi0 : i0 < 6) {a1 : Int32} {a2 : Int64} {m0 mem2 : gk_M} {r : Unit} (h : f_Shelf_setCell i0 a1 a2 m0 = some (r, mem2)) : gk_C tx l u me_Shelf_setCell 2 [.ref (41 + i0), .int a1, .long a2] m0 none mem2 :=
  gk_enter hD mc_Shelf_setCell (Nat.le_of_ble_eq_true rfl) rfl (fun z _ _ K => s_Shelf_setCell_0 K _ _ _ _ hi0 h)
theorem d_X_put_0 : decode me_X_put.2.1 0 = .ok (.aload_n 0, 1) := by decide +kernel
theorem d_X_put_1 : decode me_X_put.2.1 1 = .ok (.iload_n 1, 1) := by decide +kernel
theorem d_X_put_2 : decode me_X_put.2.1 2 = .ok (.iload_n 2, 1) := by decide +kernel
theorem d_X_put_3 : decode me_X_put.2.1 3 = .ok (.invokevirtual 295, 3) := by decide +kernel
theorem d_X_put_6 : decode me_X_put.2.1 6 = .ok (.istore 5, 2) := by decide +kernel
theorem d_X_put_8 : decode me_X_put.2.1 8 = .ok (.iload 5, 2) := by decide +kernel
theorem d_X_put_10 : decode me_X_put.2.1 10 = .ok (.ifCond .eq 6, 3) := by decide +kernel
theorem d_X_put_13 : decode me_X_put.2.1 13 = .ok (.iload 5, 2) := by decide +kernel
theorem d_X_put_15 : decode me_X_put.2.1 15 = .ok (.ireturn, 1) := by decide +kernel
theorem d_X_put_16 : decode me_X_put.2.1 16 = .ok (.aload_n 0, 1) := by decide +kernel
theorem d_X_put_17 : decode me_X_put.2.1 17 = .ok (.getfield 71, 3) := by decide +kernel
theorem d_X_put_20 : decode me_X_put.2.1 20 = .ok (.iload_n 1, 1) := by decide +kernel
theorem d_X_put_21 : decode me_X_put.2.1 21 = .ok (.aaload, 1) := by decide +kernel
theorem d_X_put_22 : decode me_X_put.2.1 22 = .ok (.iload_n 2, 1) := by decide +kernel
theorem d_X_put_23 : decode me_X_put.2.1 23 = .ok (.lload_n 3, 1) := by decide +kernel
theorem d_X_put_24 : decode me_X_put.2.1 24 = .ok (.invokevirtual 298, 3) := by decide +kernel
theorem d_X_put_27 : decode me_X_put.2.1 27 = .ok (.iconst 1, 1) := by decide +kernel
theorem d_X_put_28 : decode me_X_put.2.1 28 = .ok (.ireturn, 1) := by decide +kernel
noncomputable def f_X_put  (a1 : Int32) (a2 : Int32) (a3 : Int64) (m0 : gk_M) : Option (Int32 × gk_M) :=
  gk_bi (f_X_cellRefusal a1 a2 m0) fun v2 m1 =>
  if v2 = 0 then
    gk_ar 6 a1 fun i3 =>
    gk_bv (f_Shelf_setCell i3 a2 a3 m1) fun m4 =>
    some (1, m4)
  else
    some (v2, m1)

theorem s_X_put_0 {z : gk_Z} (K : gk_F tx z me_X_put 3) {r : Int32} {mem2 : gk_M} : ∀ a1 a2 a3 m0, f_X_put a1 a2 a3 m0 = some (r, mem2) → gk_G tx z me_X_put (gk_R tx z (some (.int r)) mem2) m0 [(0, .ref 0), (1, .int a1), (2, .int a2), (3, .long a3)] [] 0 := by
  intro a1 a2 a3 m0  h
  unfold f_X_put at h
  refine gk_aload_n (pc := 0) K d_X_put_0 rfl ?_
  refine gk_iload_n (pc := 1) K d_X_put_1 rfl ?_
  refine gk_iload_n (pc := 2) K d_X_put_2 rfl ?_
  obtain ⟨v2, m1, em1, h⟩ := gk_bi_some h
  refine gk_cVi (As := [.int a1, .int a2]) (pc := 3) K d_X_put_3 mv_X_295 mc_X_cellRefusal rfl tx_0 cl_ok9.1 (s_X_cellRefusal (gk_FD K)  em1) (by decide) rfl (Nat.le_of_ble_eq_true rfl) ?_
  refine gk_istore (lv2 := [(5, .int v2), (0, .ref 0), (1, .int a1), (2, .int a2), (3, .long a3)]) (pc := 6) K d_X_put_6 (by decide) rfl ?_
  refine gk_iload (pc := 8) K d_X_put_8 rfl ?_
  refine gk_if_eq (tgt := 16) (pc := 10) K d_X_put_10 (by decide) h (fun h => ?_) (fun h => ?_)
  · refine gk_aload_n (pc := 16) K d_X_put_16 rfl ?_
    refine gk_get (pc := 17) K d_X_put_17 fl_X_71 tx_0 rfl rfl ?_
    refine gk_iload_n (pc := 20) K d_X_put_20 rfl ?_
    refine gk_aald (pc := 21) K d_X_put_21 tx_40 h (fun i3 hi3 h => ?_)
    refine gk_iload_n (pc := 22) K d_X_put_22 rfl ?_
    refine gk_lload_n (pc := 23) K d_X_put_23 rfl ?_
    obtain ⟨m4, em4, h⟩ := gk_bv_some h
    refine gk_cVv (As := [.int a2, .long a3]) (pc := 24) K d_X_put_24 mv_X_298 mc_Shelf_setCell rfl (tx_sh hi3) cl_ok8.1 (s_Shelf_setCell (gk_FD K) hi3 em4) (by decide) rfl (Nat.le_of_ble_eq_true rfl) ?_
    refine gk_iconst (pc := 27) K d_X_put_27 kc_1 ?_
    exact gk_iret (pc := 28) K d_X_put_28 rfl h
  · refine gk_iload (pc := 13) K d_X_put_13 rfl ?_
    exact gk_iret (pc := 15) K d_X_put_15 rfl h
theorem s_X_put {l : Launch} {u : gk_U} (hD : gk_D tx u) {a1 : Int32} {a2 : Int32} {a3 : Int64} {m0 mem2 : gk_M} {r : Int32} (h : f_X_put a1 a2 a3 m0 = some (r, mem2)) : gk_C tx l u me_X_put 3 [.ref 0, .int a1, .int a2, .long a3] m0 (some (.int r)) mem2 :=
  gk_enter hD mc_X_put (Nat.le_of_ble_eq_true rfl) rfl (fun z _ _ K => s_X_put_0 K _ _ _ _  h)
theorem d_X_element_0 : decode me_X_element.2.1 0 = .ok (.aload_n 0, 1) := by decide +kernel
theorem d_X_element_1 : decode me_X_element.2.1 1 = .ok (.iload_n 1, 1) := by decide +kernel
theorem d_X_element_2 : decode me_X_element.2.1 2 = .ok (.iload_n 2, 1) := by decide +kernel
theorem d_X_element_3 : decode me_X_element.2.1 3 = .ok (.invokevirtual 295, 3) := by decide +kernel
theorem d_X_element_6 : decode me_X_element.2.1 6 = .ok (.ifCond .eq 9, 3) := by decide +kernel
theorem d_X_element_9 : decode me_X_element.2.1 9 = .ok (.ldc2_w 302, 3) := by decide +kernel
theorem d_X_element_12 : decode me_X_element.2.1 12 = .ok (.goto 14, 3) := by decide +kernel
theorem d_X_element_15 : decode me_X_element.2.1 15 = .ok (.aload_n 0, 1) := by decide +kernel
theorem d_X_element_16 : decode me_X_element.2.1 16 = .ok (.getfield 71, 3) := by decide +kernel
theorem d_X_element_19 : decode me_X_element.2.1 19 = .ok (.iload_n 1, 1) := by decide +kernel
theorem d_X_element_20 : decode me_X_element.2.1 20 = .ok (.aaload, 1) := by decide +kernel
theorem d_X_element_21 : decode me_X_element.2.1 21 = .ok (.getfield 95, 3) := by decide +kernel
theorem d_X_element_24 : decode me_X_element.2.1 24 = .ok (.iload_n 2, 1) := by decide +kernel
theorem d_X_element_25 : decode me_X_element.2.1 25 = .ok (.laload, 1) := by decide +kernel
theorem d_X_element_26 : decode me_X_element.2.1 26 = .ok (.lreturn, 1) := by decide +kernel
noncomputable def f_X_element  (a1 : Int32) (a2 : Int32) (m0 : gk_M) : Option (Int64 × gk_M) :=
  gk_bi (f_X_cellRefusal a1 a2 m0) fun v2 m1 =>
  if v2 = 0 then
    gk_ar 6 a1 fun i3 =>
    gk_al m1 (47 + i3) 60 a2 fun v4 =>
    some (v4, m1)
  else
    some ((-9223372036854775808), m1)

theorem s_X_element_0 {z : gk_Z} (K : gk_F tx z me_X_element 3) {r : Int64} {mem2 : gk_M} : ∀ a1 a2 m0, f_X_element a1 a2 m0 = some (r, mem2) → gk_G tx z me_X_element (gk_R tx z (some (.long r)) mem2) m0 [(0, .ref 0), (1, .int a1), (2, .int a2)] [] 0 := by
  intro a1 a2 m0  h
  unfold f_X_element at h
  refine gk_aload_n (pc := 0) K d_X_element_0 rfl ?_
  refine gk_iload_n (pc := 1) K d_X_element_1 rfl ?_
  refine gk_iload_n (pc := 2) K d_X_element_2 rfl ?_
  obtain ⟨v2, m1, em1, h⟩ := gk_bi_some h
  refine gk_cVi (As := [.int a1, .int a2]) (pc := 3) K d_X_element_3 mv_X_295 mc_X_cellRefusal rfl tx_0 cl_ok9.1 (s_X_cellRefusal (gk_FD K)  em1) (by decide) rfl (Nat.le_of_ble_eq_true rfl) ?_
  refine gk_if_eq (tgt := 15) (pc := 6) K d_X_element_6 (by decide) h (fun h => ?_) (fun h => ?_)
  · refine gk_aload_n (pc := 15) K d_X_element_15 rfl ?_
    refine gk_get (pc := 16) K d_X_element_16 fl_X_71 tx_0 rfl rfl ?_
    refine gk_iload_n (pc := 19) K d_X_element_19 rfl ?_
    refine gk_aald (pc := 20) K d_X_element_20 tx_40 h (fun i3 hi3 h => ?_)
    refine gk_get (pc := 21) K d_X_element_21 fl_X_95 (tx_sh hi3) rfl rfl ?_
    refine gk_iload_n (pc := 24) K d_X_element_24 rfl ?_
    refine gk_lald (pc := 25) K d_X_element_25 (tx_sa hi3) h (fun v4 h => ?_)
    exact gk_lret (pc := 26) K d_X_element_26 rfl h
  · refine gk_ldc2 (pc := 9) K d_X_element_9 lc_X_302 ?_
    refine gk_goto (tgt := 26) (pc := 12) K d_X_element_12 (by decide) ?_
    exact gk_lret (pc := 26) K d_X_element_26 rfl h
theorem s_X_element {l : Launch} {u : gk_U} (hD : gk_D tx u) {a1 : Int32} {a2 : Int32} {m0 mem2 : gk_M} {r : Int64} (h : f_X_element a1 a2 m0 = some (r, mem2)) : gk_C tx l u me_X_element 3 [.ref 0, .int a1, .int a2] m0 (some (.long r)) mem2 :=
  gk_enter hD mc_X_element (Nat.le_of_ble_eq_true rfl) rfl (fun z _ _ K => s_X_element_0 K _ _ _  h)
theorem d_X_shift_0 : decode me_X_shift.2.1 0 = .ok (.iload_n 1, 1) := by decide +kernel
theorem d_X_shift_1 : decode me_X_shift.2.1 1 = .ok (.invokestatic 80, 3) := by decide +kernel
theorem d_X_shift_4 : decode me_X_shift.2.1 4 = .ok (.ifCond .eq 10, 3) := by decide +kernel
theorem d_X_shift_7 : decode me_X_shift.2.1 7 = .ok (.iload_n 3, 1) := by decide +kernel
theorem d_X_shift_8 : decode me_X_shift.2.1 8 = .ok (.invokestatic 80, 3) := by decide +kernel
theorem d_X_shift_11 : decode me_X_shift.2.1 11 = .ok (.ifCond .ne 5, 3) := by decide +kernel
theorem d_X_shift_14 : decode me_X_shift.2.1 14 = .ok (.iconst (-1), 1) := by decide +kernel
theorem d_X_shift_15 : decode me_X_shift.2.1 15 = .ok (.ireturn, 1) := by decide +kernel
theorem d_X_shift_16 : decode me_X_shift.2.1 16 = .ok (.aload_n 0, 1) := by decide +kernel
theorem d_X_shift_17 : decode me_X_shift.2.1 17 = .ok (.getfield 71, 3) := by decide +kernel
theorem d_X_shift_20 : decode me_X_shift.2.1 20 = .ok (.iload_n 1, 1) := by decide +kernel
theorem d_X_shift_21 : decode me_X_shift.2.1 21 = .ok (.aaload, 1) := by decide +kernel
theorem d_X_shift_22 : decode me_X_shift.2.1 22 = .ok (.astore 6, 2) := by decide +kernel
theorem d_X_shift_24 : decode me_X_shift.2.1 24 = .ok (.aload_n 0, 1) := by decide +kernel
theorem d_X_shift_25 : decode me_X_shift.2.1 25 = .ok (.getfield 71, 3) := by decide +kernel
theorem d_X_shift_28 : decode me_X_shift.2.1 28 = .ok (.iload_n 3, 1) := by decide +kernel
theorem d_X_shift_29 : decode me_X_shift.2.1 29 = .ok (.aaload, 1) := by decide +kernel
theorem d_X_shift_30 : decode me_X_shift.2.1 30 = .ok (.astore 7, 2) := by decide +kernel
theorem d_X_shift_32 : decode me_X_shift.2.1 32 = .ok (.aload 6, 2) := by decide +kernel
theorem d_X_shift_34 : decode me_X_shift.2.1 34 = .ok (.invokevirtual 84, 3) := by decide +kernel
theorem d_X_shift_37 : decode me_X_shift.2.1 37 = .ok (.ifCond .ne 11, 3) := by decide +kernel
theorem d_X_shift_40 : decode me_X_shift.2.1 40 = .ok (.aload 7, 2) := by decide +kernel
theorem d_X_shift_42 : decode me_X_shift.2.1 42 = .ok (.invokevirtual 84, 3) := by decide +kernel
theorem d_X_shift_45 : decode me_X_shift.2.1 45 = .ok (.ifCond .eq 6, 3) := by decide +kernel
theorem d_X_shift_48 : decode me_X_shift.2.1 48 = .ok (.bipush (-11), 2) := by decide +kernel
theorem d_X_shift_50 : decode me_X_shift.2.1 50 = .ok (.ireturn, 1) := by decide +kernel
theorem d_X_shift_51 : decode me_X_shift.2.1 51 = .ok (.aload 6, 2) := by decide +kernel
theorem d_X_shift_53 : decode me_X_shift.2.1 53 = .ok (.invokevirtual 304, 3) := by decide +kernel
theorem d_X_shift_56 : decode me_X_shift.2.1 56 = .ok (.ifCond .eq 16, 3) := by decide +kernel
theorem d_X_shift_59 : decode me_X_shift.2.1 59 = .ok (.aload 7, 2) := by decide +kernel
theorem d_X_shift_61 : decode me_X_shift.2.1 61 = .ok (.aload 6, 2) := by decide +kernel
theorem d_X_shift_63 : decode me_X_shift.2.1 63 = .ok (.getfield 307, 3) := by decide +kernel
theorem d_X_shift_66 : decode me_X_shift.2.1 66 = .ok (.invokevirtual 88, 3) := by decide +kernel
theorem d_X_shift_69 : decode me_X_shift.2.1 69 = .ok (.ifCond .ne 6, 3) := by decide +kernel
theorem d_X_shift_72 : decode me_X_shift.2.1 72 = .ok (.bipush (-12), 2) := by decide +kernel
theorem d_X_shift_74 : decode me_X_shift.2.1 74 = .ok (.ireturn, 1) := by decide +kernel
theorem d_X_shift_75 : decode me_X_shift.2.1 75 = .ok (.aload 6, 2) := by decide +kernel
theorem d_X_shift_77 : decode me_X_shift.2.1 77 = .ok (.iload_n 2, 1) := by decide +kernel
theorem d_X_shift_78 : decode me_X_shift.2.1 78 = .ok (.iload 5, 2) := by decide +kernel
theorem d_X_shift_80 : decode me_X_shift.2.1 80 = .ok (.invokevirtual 91, 3) := by decide +kernel
theorem d_X_shift_83 : decode me_X_shift.2.1 83 = .ok (.ifCond .eq 15, 3) := by decide +kernel
theorem d_X_shift_86 : decode me_X_shift.2.1 86 = .ok (.aload 7, 2) := by decide +kernel
theorem d_X_shift_88 : decode me_X_shift.2.1 88 = .ok (.iload 4, 2) := by decide +kernel
theorem d_X_shift_90 : decode me_X_shift.2.1 90 = .ok (.iload 5, 2) := by decide +kernel
theorem d_X_shift_92 : decode me_X_shift.2.1 92 = .ok (.invokevirtual 91, 3) := by decide +kernel
theorem d_X_shift_95 : decode me_X_shift.2.1 95 = .ok (.ifCond .ne 6, 3) := by decide +kernel
theorem d_X_shift_98 : decode me_X_shift.2.1 98 = .ok (.bipush (-13), 2) := by decide +kernel
theorem d_X_shift_100 : decode me_X_shift.2.1 100 = .ok (.ireturn, 1) := by decide +kernel
theorem d_X_shift_101 : decode me_X_shift.2.1 101 = .ok (.aload 6, 2) := by decide +kernel
theorem d_X_shift_103 : decode me_X_shift.2.1 103 = .ok (.getfield 95, 3) := by decide +kernel
theorem d_X_shift_106 : decode me_X_shift.2.1 106 = .ok (.iload_n 2, 1) := by decide +kernel
theorem d_X_shift_107 : decode me_X_shift.2.1 107 = .ok (.aload 7, 2) := by decide +kernel
theorem d_X_shift_109 : decode me_X_shift.2.1 109 = .ok (.getfield 95, 3) := by decide +kernel
theorem d_X_shift_112 : decode me_X_shift.2.1 112 = .ok (.iload 4, 2) := by decide +kernel
theorem d_X_shift_114 : decode me_X_shift.2.1 114 = .ok (.iload 5, 2) := by decide +kernel
theorem d_X_shift_116 : decode me_X_shift.2.1 116 = .ok (.invokestatic 310, 3) := by decide +kernel
theorem d_X_shift_119 : decode me_X_shift.2.1 119 = .ok (.iload 5, 2) := by decide +kernel
theorem d_X_shift_121 : decode me_X_shift.2.1 121 = .ok (.ireturn, 1) := by decide +kernel
noncomputable def f_X_shift  (a1 : Int32) (a2 : Int32) (a3 : Int32) (a4 : Int32) (a5 : Int32) (m0 : gk_M) : Option (Int32 × gk_M) :=
  gk_bi (f_X_isShelf a1 m0) fun v2 m1 =>
  if v2 = 0 then
    some ((-1), m1)
  else
    gk_bi (f_X_isShelf a3 m1) fun v4 m3 =>
    if ¬ v4 = 0 then
      gk_ar 6 a1 fun i5 =>
      gk_ar 6 a3 fun i6 =>
      gk_bi (f_Shelf_isEmpty i5 m3) fun v8 m7 =>
      if ¬ v8 = 0 then
        some ((-11), m7)
      else
        gk_bi (f_Shelf_isEmpty i6 m7) fun v10 m9 =>
        if v10 = 0 then
          gk_bi (f_Shelf_isRow i5 m9) fun v12 m11 =>
          if v12 = 0 then
            some ((-12), m11)
          else
            gk_bi (f_Shelf_isRowOf i6 (m11.1 (41 + i5) 2) m11) fun v14 m13 =>
            if ¬ v14 = 0 then
              gk_bi (f_Shelf_spans i5 a2 a5 m13) fun v16 m15 =>
              if v16 = 0 then
                some ((-13), m15)
              else
                gk_bi (f_Shelf_spans i6 a4 a5 m15) fun v18 m17 =>
                if ¬ v18 = 0 then
                  gk_cl2 m17 (47 + i5) 60 a2 (47 + i6) 60 a4 a5 fun m19 =>
                  some (a5, m19)
                else
                  some ((-13), m17)
            else
              some ((-12), m13)
        else
          some ((-11), m9)
    else
      some ((-1), m3)

theorem s_X_shift_0 {z : gk_Z} (K : gk_F tx z me_X_shift 3) {r : Int32} {mem2 : gk_M} : ∀ a1 a2 a3 a4 a5 m0, f_X_shift a1 a2 a3 a4 a5 m0 = some (r, mem2) → gk_G tx z me_X_shift (gk_R tx z (some (.int r)) mem2) m0 [(0, .ref 0), (1, .int a1), (2, .int a2), (3, .int a3), (4, .int a4), (5, .int a5)] [] 0 := by
  intro a1 a2 a3 a4 a5 m0  h
  unfold f_X_shift at h
  refine gk_iload_n (pc := 0) K d_X_shift_0 rfl ?_
  obtain ⟨v2, m1, em1, h⟩ := gk_bi_some h
  refine gk_cSi (As := [.int a1]) (pc := 1) K d_X_shift_1 ms_X_80 mc_X_isShelf rfl (s_X_isShelf (gk_FD K)  em1) (by decide) rfl (Nat.le_of_ble_eq_true rfl) ?_
  refine gk_if_eq (tgt := 14) (pc := 4) K d_X_shift_4 (by decide) h (fun h => ?_) (fun h => ?_)
  · refine gk_iconst (pc := 14) K d_X_shift_14 kc_m1 ?_
    exact gk_iret (pc := 15) K d_X_shift_15 rfl h
  · refine gk_iload_n (pc := 7) K d_X_shift_7 rfl ?_
    obtain ⟨v4, m3, em3, h⟩ := gk_bi_some h
    refine gk_cSi (As := [.int a3]) (pc := 8) K d_X_shift_8 ms_X_80 mc_X_isShelf rfl (s_X_isShelf (gk_FD K)  em3) (by decide) rfl (Nat.le_of_ble_eq_true rfl) ?_
    refine gk_if_ne (tgt := 16) (pc := 11) K d_X_shift_11 (by decide) h (fun h => ?_) (fun h => ?_)
    · refine gk_aload_n (pc := 16) K d_X_shift_16 rfl ?_
      refine gk_get (pc := 17) K d_X_shift_17 fl_X_71 tx_0 rfl rfl ?_
      refine gk_iload_n (pc := 20) K d_X_shift_20 rfl ?_
      refine gk_aald (pc := 21) K d_X_shift_21 tx_40 h (fun i5 hi5 h => ?_)
      refine gk_astore (lv2 := [(6, .ref (41 + i5)), (0, .ref 0), (1, .int a1), (2, .int a2), (3, .int a3), (4, .int a4), (5, .int a5)]) (pc := 22) K d_X_shift_22 (by decide) rfl ?_
      refine gk_aload_n (pc := 24) K d_X_shift_24 rfl ?_
      refine gk_get (pc := 25) K d_X_shift_25 fl_X_71 tx_0 rfl rfl ?_
      refine gk_iload_n (pc := 28) K d_X_shift_28 rfl ?_
      refine gk_aald (pc := 29) K d_X_shift_29 tx_40 h (fun i6 hi6 h => ?_)
      refine gk_astore (lv2 := [(7, .ref (41 + i6)), (6, .ref (41 + i5)), (0, .ref 0), (1, .int a1), (2, .int a2), (3, .int a3), (4, .int a4), (5, .int a5)]) (pc := 30) K d_X_shift_30 (by decide) rfl ?_
      refine gk_aload (pc := 32) K d_X_shift_32 rfl ?_
      obtain ⟨v8, m7, em7, h⟩ := gk_bi_some h
      refine gk_cVi (As := []) (pc := 34) K d_X_shift_34 mv_X_84 mc_Shelf_isEmpty rfl (tx_sh hi5) cl_ok8.1 (s_Shelf_isEmpty (gk_FD K) hi5 em7) (by decide) rfl (Nat.le_of_ble_eq_true rfl) ?_
      refine gk_if_ne (tgt := 48) (pc := 37) K d_X_shift_37 (by decide) h (fun h => ?_) (fun h => ?_)
      · refine gk_bipush (pc := 48) K d_X_shift_48 kb_m11 ?_
        exact gk_iret (pc := 50) K d_X_shift_50 rfl h
      · refine gk_aload (pc := 40) K d_X_shift_40 rfl ?_
        obtain ⟨v10, m9, em9, h⟩ := gk_bi_some h
        refine gk_cVi (As := []) (pc := 42) K d_X_shift_42 mv_X_84 mc_Shelf_isEmpty rfl (tx_sh hi6) cl_ok8.1 (s_Shelf_isEmpty (gk_FD K) hi6 em9) (by decide) rfl (Nat.le_of_ble_eq_true rfl) ?_
        refine gk_if_eq (tgt := 51) (pc := 45) K d_X_shift_45 (by decide) h (fun h => ?_) (fun h => ?_)
        · refine gk_aload (pc := 51) K d_X_shift_51 rfl ?_
          obtain ⟨v12, m11, em11, h⟩ := gk_bi_some h
          refine gk_cVi (As := []) (pc := 53) K d_X_shift_53 mv_X_304 mc_Shelf_isRow rfl (tx_sh hi5) cl_ok8.1 (s_Shelf_isRow (gk_FD K) hi5 em11) (by decide) rfl (Nat.le_of_ble_eq_true rfl) ?_
          refine gk_if_eq (tgt := 72) (pc := 56) K d_X_shift_56 (by decide) h (fun h => ?_) (fun h => ?_)
          · refine gk_bipush (pc := 72) K d_X_shift_72 kb_m12 ?_
            exact gk_iret (pc := 74) K d_X_shift_74 rfl h
          · refine gk_aload (pc := 59) K d_X_shift_59 rfl ?_
            refine gk_aload (pc := 61) K d_X_shift_61 rfl ?_
            refine gk_get (pc := 63) K d_X_shift_63 fl_X_307 (tx_sh hi5) rfl rfl ?_
            obtain ⟨v14, m13, em13, h⟩ := gk_bi_some h
            refine gk_cVi (As := [.int (m11.1 (41 + i5) 2)]) (pc := 66) K d_X_shift_66 mv_X_88 mc_Shelf_isRowOf rfl (tx_sh hi6) cl_ok8.1 (s_Shelf_isRowOf (gk_FD K) hi6 em13) (by decide) rfl (Nat.le_of_ble_eq_true rfl) ?_
            refine gk_if_ne (tgt := 75) (pc := 69) K d_X_shift_69 (by decide) h (fun h => ?_) (fun h => ?_)
            · refine gk_aload (pc := 75) K d_X_shift_75 rfl ?_
              refine gk_iload_n (pc := 77) K d_X_shift_77 rfl ?_
              refine gk_iload (pc := 78) K d_X_shift_78 rfl ?_
              obtain ⟨v16, m15, em15, h⟩ := gk_bi_some h
              refine gk_cVi (As := [.int a2, .int a5]) (pc := 80) K d_X_shift_80 mv_X_91 mc_Shelf_spans rfl (tx_sh hi5) cl_ok8.1 (s_Shelf_spans (gk_FD K) hi5 em15) (by decide) rfl (Nat.le_of_ble_eq_true rfl) ?_
              refine gk_if_eq (tgt := 98) (pc := 83) K d_X_shift_83 (by decide) h (fun h => ?_) (fun h => ?_)
              · refine gk_bipush (pc := 98) K d_X_shift_98 kb_m13 ?_
                exact gk_iret (pc := 100) K d_X_shift_100 rfl h
              · refine gk_aload (pc := 86) K d_X_shift_86 rfl ?_
                refine gk_iload (pc := 88) K d_X_shift_88 rfl ?_
                refine gk_iload (pc := 90) K d_X_shift_90 rfl ?_
                obtain ⟨v18, m17, em17, h⟩ := gk_bi_some h
                refine gk_cVi (As := [.int a4, .int a5]) (pc := 92) K d_X_shift_92 mv_X_91 mc_Shelf_spans rfl (tx_sh hi6) cl_ok8.1 (s_Shelf_spans (gk_FD K) hi6 em17) (by decide) rfl (Nat.le_of_ble_eq_true rfl) ?_
                refine gk_if_ne (tgt := 101) (pc := 95) K d_X_shift_95 (by decide) h (fun h => ?_) (fun h => ?_)
                · refine gk_aload (pc := 101) K d_X_shift_101 rfl ?_
                  refine gk_get (pc := 103) K d_X_shift_103 fl_X_95 (tx_sh hi5) rfl rfl ?_
                  refine gk_iload_n (pc := 106) K d_X_shift_106 rfl ?_
                  refine gk_aload (pc := 107) K d_X_shift_107 rfl ?_
                  refine gk_get (pc := 109) K d_X_shift_109 fl_X_95 (tx_sh hi6) rfl rfl ?_
                  refine gk_iload (pc := 112) K d_X_shift_112 rfl ?_
                  refine gk_iload (pc := 114) K d_X_shift_114 rfl ?_
                  refine gk_cpyl (pc := 116) K d_X_shift_116 ac_X_310 (tx_sa hi5) (tx_sa hi6) h (by decide) (Nat.le_of_ble_eq_true rfl) (fun m19 h => ?_)
                  refine gk_iload (pc := 119) K d_X_shift_119 rfl ?_
                  exact gk_iret (pc := 121) K d_X_shift_121 rfl h
                · refine gk_bipush (pc := 98) K d_X_shift_98 kb_m13 ?_
                  exact gk_iret (pc := 100) K d_X_shift_100 rfl h
            · refine gk_bipush (pc := 72) K d_X_shift_72 kb_m12 ?_
              exact gk_iret (pc := 74) K d_X_shift_74 rfl h
        · refine gk_bipush (pc := 48) K d_X_shift_48 kb_m11 ?_
          exact gk_iret (pc := 50) K d_X_shift_50 rfl h
    · refine gk_iconst (pc := 14) K d_X_shift_14 kc_m1 ?_
      exact gk_iret (pc := 15) K d_X_shift_15 rfl h
theorem s_X_shift {l : Launch} {u : gk_U} (hD : gk_D tx u) {a1 : Int32} {a2 : Int32} {a3 : Int32} {a4 : Int32} {a5 : Int32} {m0 mem2 : gk_M} {r : Int32} (h : f_X_shift a1 a2 a3 a4 a5 m0 = some (r, mem2)) : gk_C tx l u me_X_shift 3 [.ref 0, .int a1, .int a2, .int a3, .int a4, .int a5] m0 (some (.int r)) mem2 :=
  gk_enter hD mc_X_shift (Nat.le_of_ble_eq_true rfl) rfl (fun z _ _ K => s_X_shift_0 K _ _ _ _ _ _  h)
theorem d_Ways_kindOf_0 : decode me_Ways_kindOf.2.1 0 = .ok (.aload_n 0, 1) := by decide +kernel
theorem d_Ways_kindOf_1 : decode me_Ways_kindOf.2.1 1 = .ok (.iload_n 1, 1) := by decide +kernel
theorem d_Ways_kindOf_2 : decode me_Ways_kindOf.2.1 2 = .ok (.invokevirtual 31, 3) := by decide +kernel
theorem d_Ways_kindOf_5 : decode me_Ways_kindOf.2.1 5 = .ok (.ifCond .eq 12, 3) := by decide +kernel
theorem d_Ways_kindOf_8 : decode me_Ways_kindOf.2.1 8 = .ok (.aload_n 0, 1) := by decide +kernel
theorem d_Ways_kindOf_9 : decode me_Ways_kindOf.2.1 9 = .ok (.getfield 18, 3) := by decide +kernel
theorem d_Ways_kindOf_12 : decode me_Ways_kindOf.2.1 12 = .ok (.iload_n 1, 1) := by decide +kernel
theorem d_Ways_kindOf_13 : decode me_Ways_kindOf.2.1 13 = .ok (.iaload, 1) := by decide +kernel
theorem d_Ways_kindOf_14 : decode me_Ways_kindOf.2.1 14 = .ok (.goto 4, 3) := by decide +kernel
theorem d_Ways_kindOf_17 : decode me_Ways_kindOf.2.1 17 = .ok (.iconst 0, 1) := by decide +kernel
theorem d_Ways_kindOf_18 : decode me_Ways_kindOf.2.1 18 = .ok (.ireturn, 1) := by decide +kernel
noncomputable def f_Ways_kindOf  (a1 : Int32) (m0 : gk_M) : Option (Int32 × gk_M) :=
  gk_bi (f_Ways_isBody a1 m0) fun v2 m1 =>
  if v2 = 0 then
    some (0, m1)
  else
    gk_ai m1 38 50 a1 fun v3 =>
    some (v3, m1)

theorem s_Ways_kindOf_0 {z : gk_Z} (K : gk_F tx z me_Ways_kindOf 2) {r : Int32} {mem2 : gk_M} : ∀ a1 m0, f_Ways_kindOf a1 m0 = some (r, mem2) → gk_G tx z me_Ways_kindOf (gk_R tx z (some (.int r)) mem2) m0 [(0, .ref 37), (1, .int a1)] [] 0 := by
  intro a1 m0  h
  unfold f_Ways_kindOf at h
  refine gk_aload_n (pc := 0) K d_Ways_kindOf_0 rfl ?_
  refine gk_iload_n (pc := 1) K d_Ways_kindOf_1 rfl ?_
  obtain ⟨v2, m1, em1, h⟩ := gk_bi_some h
  refine gk_cVi (As := [.int a1]) (pc := 2) K d_Ways_kindOf_2 mv_Ways_31 mc_Ways_isBody rfl tx_37 cl_ok7.1 (s_Ways_isBody (gk_FD K)  em1) (by decide) rfl (Nat.le_of_ble_eq_true rfl) ?_
  refine gk_if_eq (tgt := 17) (pc := 5) K d_Ways_kindOf_5 (by decide) h (fun h => ?_) (fun h => ?_)
  · refine gk_iconst (pc := 17) K d_Ways_kindOf_17 kc_0 ?_
    exact gk_iret (pc := 18) K d_Ways_kindOf_18 rfl h
  · refine gk_aload_n (pc := 8) K d_Ways_kindOf_8 rfl ?_
    refine gk_get (pc := 9) K d_Ways_kindOf_9 fl_Ways_18 tx_37 rfl rfl ?_
    refine gk_iload_n (pc := 12) K d_Ways_kindOf_12 rfl ?_
    refine gk_iald (pc := 13) K d_Ways_kindOf_13 tx_38 h (fun v3 h => ?_)
    refine gk_goto (tgt := 18) (pc := 14) K d_Ways_kindOf_14 (by decide) ?_
    exact gk_iret (pc := 18) K d_Ways_kindOf_18 rfl h
theorem s_Ways_kindOf {l : Launch} {u : gk_U} (hD : gk_D tx u) {a1 : Int32} {m0 mem2 : gk_M} {r : Int32} (h : f_Ways_kindOf a1 m0 = some (r, mem2)) : gk_C tx l u me_Ways_kindOf 2 [.ref 37, .int a1] m0 (some (.int r)) mem2 :=
  gk_enter hD mc_Ways_kindOf (Nat.le_of_ble_eq_true rfl) rfl (fun z _ _ K => s_Ways_kindOf_0 K _ _  h)
theorem d_Ways_isUnder_0 : decode me_Ways_isUnder.2.1 0 = .ok (.iload_n 0, 1) := by decide +kernel
theorem d_Ways_isUnder_1 : decode me_Ways_isUnder.2.1 1 = .ok (.istore_n 2, 1) := by decide +kernel
theorem d_Ways_isUnder_2 : decode me_Ways_isUnder.2.1 2 = .ok (.iconst 0, 1) := by decide +kernel
theorem d_Ways_isUnder_3 : decode me_Ways_isUnder.2.1 3 = .ok (.istore_n 3, 1) := by decide +kernel
theorem d_Ways_isUnder_4 : decode me_Ways_isUnder.2.1 4 = .ok (.iload_n 3, 1) := by decide +kernel
theorem d_Ways_isUnder_5 : decode me_Ways_isUnder.2.1 5 = .ok (.bipush 8, 2) := by decide +kernel
theorem d_Ways_isUnder_7 : decode me_Ways_isUnder.2.1 7 = .ok (.if_icmp .ge 26, 3) := by decide +kernel
theorem d_Ways_isUnder_10 : decode me_Ways_isUnder.2.1 10 = .ok (.iload_n 2, 1) := by decide +kernel
theorem d_Ways_isUnder_11 : decode me_Ways_isUnder.2.1 11 = .ok (.ifCond .lt 22, 3) := by decide +kernel
theorem d_Ways_isUnder_14 : decode me_Ways_isUnder.2.1 14 = .ok (.iload_n 2, 1) := by decide +kernel
theorem d_Ways_isUnder_15 : decode me_Ways_isUnder.2.1 15 = .ok (.iload_n 1, 1) := by decide +kernel
theorem d_Ways_isUnder_16 : decode me_Ways_isUnder.2.1 16 = .ok (.if_icmp .ne 5, 3) := by decide +kernel
theorem d_Ways_isUnder_19 : decode me_Ways_isUnder.2.1 19 = .ok (.iconst 1, 1) := by decide +kernel
theorem d_Ways_isUnder_20 : decode me_Ways_isUnder.2.1 20 = .ok (.ireturn, 1) := by decide +kernel
theorem d_Ways_isUnder_21 : decode me_Ways_isUnder.2.1 21 = .ok (.getstatic 28, 3) := by decide +kernel
theorem d_Ways_isUnder_24 : decode me_Ways_isUnder.2.1 24 = .ok (.iload_n 2, 1) := by decide +kernel
theorem d_Ways_isUnder_25 : decode me_Ways_isUnder.2.1 25 = .ok (.iaload, 1) := by decide +kernel
theorem d_Ways_isUnder_26 : decode me_Ways_isUnder.2.1 26 = .ok (.istore_n 2, 1) := by decide +kernel
theorem d_Ways_isUnder_27 : decode me_Ways_isUnder.2.1 27 = .ok (.iinc 3 1, 3) := by decide +kernel
theorem d_Ways_isUnder_30 : decode me_Ways_isUnder.2.1 30 = .ok (.goto (-26), 3) := by decide +kernel
theorem d_Ways_isUnder_33 : decode me_Ways_isUnder.2.1 33 = .ok (.iconst 0, 1) := by decide +kernel
theorem d_Ways_isUnder_34 : decode me_Ways_isUnder.2.1 34 = .ok (.ireturn, 1) := by decide +kernel
noncomputable def f_Ways_isUnder_4  : Nat → Int32 → Int32 → Int32 → gk_M → Option (Int32 × gk_M)
  | 0, _, _, _, _ => none
  | n + 1, a1, a2, a3, m0 =>
    if 8 ≤ a3 then
      some (0, m0)
    else
      if a2 < 0 then
        some (0, m0)
      else
        if ¬ a2 = a1 then
          gk_at tb_0 a2 fun v1 =>
          f_Ways_isUnder_4 n a1 v1 (a3 + 1) m0
        else
          some (1, m0)

theorem s_Ways_isUnder_4 {z : gk_Z} (K : gk_F tx z me_Ways_isUnder 1) {r : Int32} {mem2 : gk_M} : ∀ n a1 a2 a3 m0, f_Ways_isUnder_4 n a1 a2 a3 m0 = some (r, mem2) → gk_G tx z me_Ways_isUnder (gk_R tx z (some (.int r)) mem2) m0 [(1, .int a1), (2, .int a2), (3, .int a3)] [] 4 := by
  intro n
  induction n with
  | zero => intro a1 a2 a3 m0  h; exact nomatch (show (none : Option _) = some _ from h)
  | succ n ih =>
    intro a1 a2 a3 m0  h
    unfold f_Ways_isUnder_4 at h
    refine gk_iload_n (pc := 4) K d_Ways_isUnder_4 rfl ?_
    refine gk_bipush (pc := 5) K d_Ways_isUnder_5 kb_8 ?_
    refine gk_ic_ge (tgt := 33) (pc := 7) K d_Ways_isUnder_7 (by decide) h (fun h => ?_) (fun h => ?_)
    · refine gk_iconst (pc := 33) K d_Ways_isUnder_33 kc_0 ?_
      exact gk_zretc (pc := 34) K d_Ways_isUnder_34 rfl (Or.inl rfl) h
    · refine gk_iload_n (pc := 10) K d_Ways_isUnder_10 rfl ?_
      refine gk_if_lt (tgt := 33) (pc := 11) K d_Ways_isUnder_11 (by decide) h (fun h => ?_) (fun h => ?_)
      · refine gk_iconst (pc := 33) K d_Ways_isUnder_33 kc_0 ?_
        exact gk_zretc (pc := 34) K d_Ways_isUnder_34 rfl (Or.inl rfl) h
      · refine gk_iload_n (pc := 14) K d_Ways_isUnder_14 rfl ?_
        refine gk_iload_n (pc := 15) K d_Ways_isUnder_15 rfl ?_
        refine gk_ic_ne (tgt := 21) (pc := 16) K d_Ways_isUnder_16 (by decide) h (fun h => ?_) (fun h => ?_)
        · refine gk_gets (i := 0) (pc := 21) K d_Ways_isUnder_21 tt_0 fs_Ways_28 ?_
          refine gk_iload_n (pc := 24) K d_Ways_isUnder_24 rfl ?_
          refine gk_tald (n := 0) (pc := 25) K d_Ways_isUnder_25 tt_0 h (fun v1 h => ?_)
          refine gk_istore_n (lv2 := [(2, .int v1), (1, .int a1), (3, .int a3)]) (pc := 26) K d_Ways_isUnder_26 (by decide) rfl ?_
          refine gk_iinc2 (lv2 := [(3, .int (a3 + 1)), (2, .int v1), (1, .int a1)]) (pc := 27) K d_Ways_isUnder_27 rfl kc_1 (by decide) rfl ?_
          refine gk_goto (tgt := 4) (pc := 30) K d_Ways_isUnder_30 (by decide) ?_
          exact gk_sub [2, 1, 0] rfl (ih _ _ _ _  h)
        · refine gk_iconst (pc := 19) K d_Ways_isUnder_19 kc_1 ?_
          exact gk_zretc (pc := 20) K d_Ways_isUnder_20 rfl (Or.inr rfl) h
noncomputable def f_Ways_isUnder  (a0 : Int32) (a1 : Int32) (m0 : gk_M) : Option (Int32 × gk_M) :=
  f_Ways_isUnder_4 gk_fv a1 a0 0 m0

theorem s_Ways_isUnder_0 {z : gk_Z} (K : gk_F tx z me_Ways_isUnder 1) {r : Int32} {mem2 : gk_M} : ∀ a0 a1 m0, f_Ways_isUnder a0 a1 m0 = some (r, mem2) → gk_G tx z me_Ways_isUnder (gk_R tx z (some (.int r)) mem2) m0 [(0, .int a0), (1, .int a1)] [] 0 := by
  intro a0 a1 m0  h
  unfold f_Ways_isUnder at h
  refine gk_iload_n (pc := 0) K d_Ways_isUnder_0 rfl ?_
  refine gk_istore_n (lv2 := [(2, .int a0), (0, .int a0), (1, .int a1)]) (pc := 1) K d_Ways_isUnder_1 (by decide) rfl ?_
  refine gk_iconst (pc := 2) K d_Ways_isUnder_2 kc_0 ?_
  refine gk_istore_n (lv2 := [(3, .int 0), (2, .int a0), (0, .int a0), (1, .int a1)]) (pc := 3) K d_Ways_isUnder_3 (by decide) rfl ?_
  exact gk_sub [3, 1, 0] rfl (s_Ways_isUnder_4 K _ _ _ _ _  h)
theorem s_Ways_isUnder {l : Launch} {u : gk_U} (hD : gk_D tx u) {a0 : Int32} {a1 : Int32} {m0 mem2 : gk_M} {r : Int32} (h : f_Ways_isUnder a0 a1 m0 = some (r, mem2)) : gk_C tx l u me_Ways_isUnder 1 [.int a0, .int a1] m0 (some (.int r)) mem2 :=
  gk_enter hD mc_Ways_isUnder (Nat.le_of_ble_eq_true rfl) rfl (fun z _ _ K => s_Ways_isUnder_0 K _ _ _  h)
theorem d_X_taken_0 : decode me_X_taken.2.1 0 = .ok (.iload_n 1, 1) := by decide +kernel
theorem d_X_taken_1 : decode me_X_taken.2.1 1 = .ok (.invokestatic 80, 3) := by decide +kernel
theorem d_X_taken_4 : decode me_X_taken.2.1 4 = .ok (.ifCond .eq 10, 3) := by decide +kernel
theorem d_X_taken_7 : decode me_X_taken.2.1 7 = .ok (.iload_n 2, 1) := by decide +kernel
theorem d_X_taken_8 : decode me_X_taken.2.1 8 = .ok (.invokestatic 273, 3) := by decide +kernel
theorem d_X_taken_11 : decode me_X_taken.2.1 11 = .ok (.ifCond .ne 5, 3) := by decide +kernel
theorem d_X_taken_14 : decode me_X_taken.2.1 14 = .ok (.iconst (-1), 1) := by decide +kernel
theorem d_X_taken_15 : decode me_X_taken.2.1 15 = .ok (.ireturn, 1) := by decide +kernel
theorem d_X_taken_16 : decode me_X_taken.2.1 16 = .ok (.aload_n 0, 1) := by decide +kernel
theorem d_X_taken_17 : decode me_X_taken.2.1 17 = .ok (.getfield 71, 3) := by decide +kernel
theorem d_X_taken_20 : decode me_X_taken.2.1 20 = .ok (.iload_n 1, 1) := by decide +kernel
theorem d_X_taken_21 : decode me_X_taken.2.1 21 = .ok (.aaload, 1) := by decide +kernel
theorem d_X_taken_22 : decode me_X_taken.2.1 22 = .ok (.astore_n 3, 1) := by decide +kernel
theorem d_X_taken_23 : decode me_X_taken.2.1 23 = .ok (.aload_n 3, 1) := by decide +kernel
theorem d_X_taken_24 : decode me_X_taken.2.1 24 = .ok (.invokevirtual 84, 3) := by decide +kernel
theorem d_X_taken_27 : decode me_X_taken.2.1 27 = .ok (.ifCond .eq 6, 3) := by decide +kernel
theorem d_X_taken_30 : decode me_X_taken.2.1 30 = .ok (.bipush (-11), 2) := by decide +kernel
theorem d_X_taken_32 : decode me_X_taken.2.1 32 = .ok (.ireturn, 1) := by decide +kernel
theorem d_X_taken_33 : decode me_X_taken.2.1 33 = .ok (.aload_n 3, 1) := by decide +kernel
theorem d_X_taken_34 : decode me_X_taken.2.1 34 = .ok (.invokevirtual 304, 3) := by decide +kernel
theorem d_X_taken_37 : decode me_X_taken.2.1 37 = .ok (.ifCond .eq 6, 3) := by decide +kernel
theorem d_X_taken_40 : decode me_X_taken.2.1 40 = .ok (.bipush (-12), 2) := by decide +kernel
theorem d_X_taken_42 : decode me_X_taken.2.1 42 = .ok (.ireturn, 1) := by decide +kernel
theorem d_X_taken_43 : decode me_X_taken.2.1 43 = .ok (.aload_n 0, 1) := by decide +kernel
theorem d_X_taken_44 : decode me_X_taken.2.1 44 = .ok (.getfield 65, 3) := by decide +kernel
theorem d_X_taken_47 : decode me_X_taken.2.1 47 = .ok (.aload_n 3, 1) := by decide +kernel
theorem d_X_taken_48 : decode me_X_taken.2.1 48 = .ok (.getfield 316, 3) := by decide +kernel
theorem d_X_taken_51 : decode me_X_taken.2.1 51 = .ok (.invokevirtual 319, 3) := by decide +kernel
theorem d_X_taken_54 : decode me_X_taken.2.1 54 = .ok (.istore 4, 2) := by decide +kernel
theorem d_X_taken_56 : decode me_X_taken.2.1 56 = .ok (.iload 4, 2) := by decide +kernel
theorem d_X_taken_58 : decode me_X_taken.2.1 58 = .ok (.iload_n 2, 1) := by decide +kernel
theorem d_X_taken_59 : decode me_X_taken.2.1 59 = .ok (.invokestatic 322, 3) := by decide +kernel
theorem d_X_taken_62 : decode me_X_taken.2.1 62 = .ok (.ifCond .eq 8, 3) := by decide +kernel
theorem d_X_taken_65 : decode me_X_taken.2.1 65 = .ok (.iload 4, 2) := by decide +kernel
theorem d_X_taken_67 : decode me_X_taken.2.1 67 = .ok (.goto 5, 3) := by decide +kernel
theorem d_X_taken_70 : decode me_X_taken.2.1 70 = .ok (.bipush (-12), 2) := by decide +kernel
theorem d_X_taken_72 : decode me_X_taken.2.1 72 = .ok (.ireturn, 1) := by decide +kernel
noncomputable def f_X_taken  (a1 : Int32) (a2 : Int32) (m0 : gk_M) : Option (Int32 × gk_M) :=
  gk_bi (f_X_isShelf a1 m0) fun v2 m1 =>
  if v2 = 0 then
    some ((-1), m1)
  else
    gk_bi (f_Ways_isKind a2 m1) fun v4 m3 =>
    if ¬ v4 = 0 then
      gk_ar 6 a1 fun i5 =>
      gk_bi (f_Shelf_isEmpty i5 m3) fun v7 m6 =>
      if v7 = 0 then
        gk_bi (f_Shelf_isRow i5 m6) fun v9 m8 =>
        if v9 = 0 then
          gk_bi (f_Ways_kindOf (m8.1 (41 + i5) 1) m8) fun v11 m10 =>
          gk_bi (f_Ways_isUnder v11 a2 m10) fun v13 m12 =>
          if v13 = 0 then
            some ((-12), m12)
          else
            some (v11, m12)
        else
          some ((-12), m8)
      else
        some ((-11), m6)
    else
      some ((-1), m3)

theorem s_X_taken_0 {z : gk_Z} (K : gk_F tx z me_X_taken 3) {r : Int32} {mem2 : gk_M} : ∀ a1 a2 m0, f_X_taken a1 a2 m0 = some (r, mem2) → gk_G tx z me_X_taken (gk_R tx z (some (.int r)) mem2) m0 [(0, .ref 0), (1, .int a1), (2, .int a2)] [] 0 := by
  intro a1 a2 m0  h
  unfold f_X_taken at h
  refine gk_iload_n (pc := 0) K d_X_taken_0 rfl ?_
  obtain ⟨v2, m1, em1, h⟩ := gk_bi_some h
  refine gk_cSi (As := [.int a1]) (pc := 1) K d_X_taken_1 ms_X_80 mc_X_isShelf rfl (s_X_isShelf (gk_FD K)  em1) (by decide) rfl (Nat.le_of_ble_eq_true rfl) ?_
  refine gk_if_eq (tgt := 14) (pc := 4) K d_X_taken_4 (by decide) h (fun h => ?_) (fun h => ?_)
  · refine gk_iconst (pc := 14) K d_X_taken_14 kc_m1 ?_
    exact gk_iret (pc := 15) K d_X_taken_15 rfl h
  · refine gk_iload_n (pc := 7) K d_X_taken_7 rfl ?_
    obtain ⟨v4, m3, em3, h⟩ := gk_bi_some h
    refine gk_cSi (As := [.int a2]) (pc := 8) K d_X_taken_8 ms_X_273 mc_Ways_isKind rfl (s_Ways_isKind (gk_FD K)  em3) (by decide) rfl (Nat.le_of_ble_eq_true rfl) ?_
    refine gk_if_ne (tgt := 16) (pc := 11) K d_X_taken_11 (by decide) h (fun h => ?_) (fun h => ?_)
    · refine gk_aload_n (pc := 16) K d_X_taken_16 rfl ?_
      refine gk_get (pc := 17) K d_X_taken_17 fl_X_71 tx_0 rfl rfl ?_
      refine gk_iload_n (pc := 20) K d_X_taken_20 rfl ?_
      refine gk_aald (pc := 21) K d_X_taken_21 tx_40 h (fun i5 hi5 h => ?_)
      refine gk_astore_n (lv2 := [(3, .ref (41 + i5)), (0, .ref 0), (1, .int a1), (2, .int a2)]) (pc := 22) K d_X_taken_22 (by decide) rfl ?_
      refine gk_aload_n (pc := 23) K d_X_taken_23 rfl ?_
      obtain ⟨v7, m6, em6, h⟩ := gk_bi_some h
      refine gk_cVi (As := []) (pc := 24) K d_X_taken_24 mv_X_84 mc_Shelf_isEmpty rfl (tx_sh hi5) cl_ok8.1 (s_Shelf_isEmpty (gk_FD K) hi5 em6) (by decide) rfl (Nat.le_of_ble_eq_true rfl) ?_
      refine gk_if_eq (tgt := 33) (pc := 27) K d_X_taken_27 (by decide) h (fun h => ?_) (fun h => ?_)
      · refine gk_aload_n (pc := 33) K d_X_taken_33 rfl ?_
        obtain ⟨v9, m8, em8, h⟩ := gk_bi_some h
        refine gk_cVi (As := []) (pc := 34) K d_X_taken_34 mv_X_304 mc_Shelf_isRow rfl (tx_sh hi5) cl_ok8.1 (s_Shelf_isRow (gk_FD K) hi5 em8) (by decide) rfl (Nat.le_of_ble_eq_true rfl) ?_
        refine gk_if_eq (tgt := 43) (pc := 37) K d_X_taken_37 (by decide) h (fun h => ?_) (fun h => ?_)
        · refine gk_aload_n (pc := 43) K d_X_taken_43 rfl ?_
          refine gk_get (pc := 44) K d_X_taken_44 fl_X_65 tx_0 rfl rfl ?_
          refine gk_aload_n (pc := 47) K d_X_taken_47 rfl ?_
          refine gk_get (pc := 48) K d_X_taken_48 fl_X_316 (tx_sh hi5) rfl rfl ?_
          obtain ⟨v11, m10, em10, h⟩ := gk_bi_some h
          refine gk_cVi (As := [.int (m8.1 (41 + i5) 1)]) (pc := 51) K d_X_taken_51 mv_X_319 mc_Ways_kindOf rfl tx_37 cl_ok7.1 (s_Ways_kindOf (gk_FD K)  em10) (by decide) rfl (Nat.le_of_ble_eq_true rfl) ?_
          refine gk_istore (lv2 := [(4, .int v11), (3, .ref (41 + i5)), (0, .ref 0), (1, .int a1), (2, .int a2)]) (pc := 54) K d_X_taken_54 (by decide) rfl ?_
          refine gk_iload (pc := 56) K d_X_taken_56 rfl ?_
          refine gk_iload_n (pc := 58) K d_X_taken_58 rfl ?_
          obtain ⟨v13, m12, em12, h⟩ := gk_bi_some h
          refine gk_cSi (As := [.int v11, .int a2]) (pc := 59) K d_X_taken_59 ms_X_322 mc_Ways_isUnder rfl (s_Ways_isUnder (gk_FD K)  em12) (by decide) rfl (Nat.le_of_ble_eq_true rfl) ?_
          refine gk_if_eq (tgt := 70) (pc := 62) K d_X_taken_62 (by decide) h (fun h => ?_) (fun h => ?_)
          · refine gk_bipush (pc := 70) K d_X_taken_70 kb_m12 ?_
            exact gk_iret (pc := 72) K d_X_taken_72 rfl h
          · refine gk_iload (pc := 65) K d_X_taken_65 rfl ?_
            refine gk_goto (tgt := 72) (pc := 67) K d_X_taken_67 (by decide) ?_
            exact gk_iret (pc := 72) K d_X_taken_72 rfl h
        · refine gk_bipush (pc := 40) K d_X_taken_40 kb_m12 ?_
          exact gk_iret (pc := 42) K d_X_taken_42 rfl h
      · refine gk_bipush (pc := 30) K d_X_taken_30 kb_m11 ?_
        exact gk_iret (pc := 32) K d_X_taken_32 rfl h
    · refine gk_iconst (pc := 14) K d_X_taken_14 kc_m1 ?_
      exact gk_iret (pc := 15) K d_X_taken_15 rfl h
theorem s_X_taken {l : Launch} {u : gk_U} (hD : gk_D tx u) {a1 : Int32} {a2 : Int32} {m0 mem2 : gk_M} {r : Int32} (h : f_X_taken a1 a2 m0 = some (r, mem2)) : gk_C tx l u me_X_taken 3 [.ref 0, .int a1, .int a2] m0 (some (.int r)) mem2 :=
  gk_enter hD mc_X_taken (Nat.le_of_ble_eq_true rfl) rfl (fun z _ _ K => s_X_taken_0 K _ _ _  h)
theorem d_X_count_0 : decode me_X_count.2.1 0 = .ok (.iload_n 1, 1) := by decide +kernel
theorem d_X_count_1 : decode me_X_count.2.1 1 = .ok (.tableswitch 111 0 7 #[47, 55, 63, 71, 79, 87, 95, 103], 47) := by decide +kernel
theorem d_X_count_48 : decode me_X_count.2.1 48 = .ok (.aload_n 0, 1) := by decide +kernel
theorem d_X_count_49 : decode me_X_count.2.1 49 = .ok (.getfield 28, 3) := by decide +kernel
theorem d_X_count_52 : decode me_X_count.2.1 52 = .ok (.getfield 214, 3) := by decide +kernel
theorem d_X_count_55 : decode me_X_count.2.1 55 = .ok (.ireturn, 1) := by decide +kernel
theorem d_X_count_56 : decode me_X_count.2.1 56 = .ok (.aload_n 0, 1) := by decide +kernel
theorem d_X_count_57 : decode me_X_count.2.1 57 = .ok (.getfield 28, 3) := by decide +kernel
theorem d_X_count_60 : decode me_X_count.2.1 60 = .ok (.getfield 196, 3) := by decide +kernel
theorem d_X_count_63 : decode me_X_count.2.1 63 = .ok (.ireturn, 1) := by decide +kernel
theorem d_X_count_64 : decode me_X_count.2.1 64 = .ok (.aload_n 0, 1) := by decide +kernel
theorem d_X_count_65 : decode me_X_count.2.1 65 = .ok (.getfield 28, 3) := by decide +kernel
theorem d_X_count_68 : decode me_X_count.2.1 68 = .ok (.getfield 325, 3) := by decide +kernel
theorem d_X_count_71 : decode me_X_count.2.1 71 = .ok (.ireturn, 1) := by decide +kernel
theorem d_X_count_72 : decode me_X_count.2.1 72 = .ok (.aload_n 0, 1) := by decide +kernel
theorem d_X_count_73 : decode me_X_count.2.1 73 = .ok (.getfield 51, 3) := by decide +kernel
theorem d_X_count_76 : decode me_X_count.2.1 76 = .ok (.getfield 328, 3) := by decide +kernel
theorem d_X_count_79 : decode me_X_count.2.1 79 = .ok (.ireturn, 1) := by decide +kernel
theorem d_X_count_80 : decode me_X_count.2.1 80 = .ok (.aload_n 0, 1) := by decide +kernel
theorem d_X_count_81 : decode me_X_count.2.1 81 = .ok (.getfield 19, 3) := by decide +kernel
theorem d_X_count_84 : decode me_X_count.2.1 84 = .ok (.getfield 331, 3) := by decide +kernel
theorem d_X_count_87 : decode me_X_count.2.1 87 = .ok (.ireturn, 1) := by decide +kernel
theorem d_X_count_88 : decode me_X_count.2.1 88 = .ok (.aload_n 0, 1) := by decide +kernel
theorem d_X_count_89 : decode me_X_count.2.1 89 = .ok (.getfield 58, 3) := by decide +kernel
theorem d_X_count_92 : decode me_X_count.2.1 92 = .ok (.getfield 334, 3) := by decide +kernel
theorem d_X_count_95 : decode me_X_count.2.1 95 = .ok (.ireturn, 1) := by decide +kernel
theorem d_X_count_96 : decode me_X_count.2.1 96 = .ok (.aload_n 0, 1) := by decide +kernel
theorem d_X_count_97 : decode me_X_count.2.1 97 = .ok (.getfield 65, 3) := by decide +kernel
theorem d_X_count_100 : decode me_X_count.2.1 100 = .ok (.getfield 337, 3) := by decide +kernel
theorem d_X_count_103 : decode me_X_count.2.1 103 = .ok (.ireturn, 1) := by decide +kernel
theorem d_X_count_104 : decode me_X_count.2.1 104 = .ok (.aload_n 0, 1) := by decide +kernel
theorem d_X_count_105 : decode me_X_count.2.1 105 = .ok (.getfield 65, 3) := by decide +kernel
theorem d_X_count_108 : decode me_X_count.2.1 108 = .ok (.getfield 340, 3) := by decide +kernel
theorem d_X_count_111 : decode me_X_count.2.1 111 = .ok (.ireturn, 1) := by decide +kernel
theorem d_X_count_112 : decode me_X_count.2.1 112 = .ok (.iconst (-1), 1) := by decide +kernel
theorem d_X_count_113 : decode me_X_count.2.1 113 = .ok (.ireturn, 1) := by decide +kernel
noncomputable def f_X_count  (a1 : Int32) (m0 : gk_M) : Option (Int32 × gk_M) :=
  if a1 = 0 then
    some ((m0.1 7 5), m0)
  else
    if a1 = 1 then
      some ((m0.1 7 7), m0)
    else
      if a1 = 2 then
        some ((m0.1 7 8), m0)
      else
        if a1 = 3 then
          some ((m0.1 28 0), m0)
        else
          if a1 = 4 then
            some ((m0.1 4 2), m0)
          else
            if a1 = 5 then
              some ((m0.1 32 0), m0)
            else
              if a1 = 6 then
                some ((m0.1 37 0), m0)
              else
                if a1 = 7 then
                  some ((m0.1 37 1), m0)
                else
                  some ((-1), m0)

theorem s_X_count_0 {z : gk_Z} (K : gk_F tx z me_X_count 1) {r : Int32} {mem2 : gk_M} : ∀ a1 m0, f_X_count a1 m0 = some (r, mem2) → gk_G tx z me_X_count (gk_R tx z (some (.int r)) mem2) m0 [(0, .ref 0), (1, .int a1)] [] 0 := by
  intro a1 m0  h
  unfold f_X_count at h
  refine gk_iload_n (pc := 0) K d_X_count_0 rfl ?_
  refine gk_ite (c := a1 = 0) h (fun c1 h => ?_) (fun c1 h => ?_)
  · refine gk_tIn (tgt := 48) (pc := 1) K d_X_count_1 c1 (by decide) (by decide) rfl (by decide) ?_
    refine gk_aload_n (pc := 48) K d_X_count_48 rfl ?_
    refine gk_get (pc := 49) K d_X_count_49 fl_X_28 tx_0 rfl rfl ?_
    refine gk_get (pc := 52) K d_X_count_52 fl_X_214 tx_7 rfl rfl ?_
    exact gk_iret (pc := 55) K d_X_count_55 rfl h
  · skip
    refine gk_ite (c := a1 = 1) h (fun c2 h => ?_) (fun c2 h => ?_)
    · refine gk_tIn (tgt := 56) (pc := 1) K d_X_count_1 c2 (by decide) (by decide) rfl (by decide) ?_
      refine gk_aload_n (pc := 56) K d_X_count_56 rfl ?_
      refine gk_get (pc := 57) K d_X_count_57 fl_X_28 tx_0 rfl rfl ?_
      refine gk_get (pc := 60) K d_X_count_60 fl_X_196 tx_7 rfl rfl ?_
      exact gk_iret (pc := 63) K d_X_count_63 rfl h
    · skip
      refine gk_ite (c := a1 = 2) h (fun c3 h => ?_) (fun c3 h => ?_)
      · refine gk_tIn (tgt := 64) (pc := 1) K d_X_count_1 c3 (by decide) (by decide) rfl (by decide) ?_
        refine gk_aload_n (pc := 64) K d_X_count_64 rfl ?_
        refine gk_get (pc := 65) K d_X_count_65 fl_X_28 tx_0 rfl rfl ?_
        refine gk_get (pc := 68) K d_X_count_68 fl_X_325 tx_7 rfl rfl ?_
        exact gk_iret (pc := 71) K d_X_count_71 rfl h
      · skip
        refine gk_ite (c := a1 = 3) h (fun c4 h => ?_) (fun c4 h => ?_)
        · refine gk_tIn (tgt := 72) (pc := 1) K d_X_count_1 c4 (by decide) (by decide) rfl (by decide) ?_
          refine gk_aload_n (pc := 72) K d_X_count_72 rfl ?_
          refine gk_get (pc := 73) K d_X_count_73 fl_X_51 tx_0 rfl rfl ?_
          refine gk_get (pc := 76) K d_X_count_76 fl_X_328 tx_28 rfl rfl ?_
          exact gk_iret (pc := 79) K d_X_count_79 rfl h
        · skip
          refine gk_ite (c := a1 = 4) h (fun c5 h => ?_) (fun c5 h => ?_)
          · refine gk_tIn (tgt := 80) (pc := 1) K d_X_count_1 c5 (by decide) (by decide) rfl (by decide) ?_
            refine gk_aload_n (pc := 80) K d_X_count_80 rfl ?_
            refine gk_get (pc := 81) K d_X_count_81 fl_X_19 tx_0 rfl rfl ?_
            refine gk_get (pc := 84) K d_X_count_84 fl_X_331 tx_4 rfl rfl ?_
            exact gk_iret (pc := 87) K d_X_count_87 rfl h
          · skip
            refine gk_ite (c := a1 = 5) h (fun c6 h => ?_) (fun c6 h => ?_)
            · refine gk_tIn (tgt := 88) (pc := 1) K d_X_count_1 c6 (by decide) (by decide) rfl (by decide) ?_
              refine gk_aload_n (pc := 88) K d_X_count_88 rfl ?_
              refine gk_get (pc := 89) K d_X_count_89 fl_X_58 tx_0 rfl rfl ?_
              refine gk_get (pc := 92) K d_X_count_92 fl_X_334 tx_32 rfl rfl ?_
              exact gk_iret (pc := 95) K d_X_count_95 rfl h
            · skip
              refine gk_ite (c := a1 = 6) h (fun c7 h => ?_) (fun c7 h => ?_)
              · refine gk_tIn (tgt := 96) (pc := 1) K d_X_count_1 c7 (by decide) (by decide) rfl (by decide) ?_
                refine gk_aload_n (pc := 96) K d_X_count_96 rfl ?_
                refine gk_get (pc := 97) K d_X_count_97 fl_X_65 tx_0 rfl rfl ?_
                refine gk_get (pc := 100) K d_X_count_100 fl_X_337 tx_37 rfl rfl ?_
                exact gk_iret (pc := 103) K d_X_count_103 rfl h
              · skip
                refine gk_ite (c := a1 = 7) h (fun c8 h => ?_) (fun c8 h => ?_)
                · refine gk_tIn (tgt := 104) (pc := 1) K d_X_count_1 c8 (by decide) (by decide) rfl (by decide) ?_
                  refine gk_aload_n (pc := 104) K d_X_count_104 rfl ?_
                  refine gk_get (pc := 105) K d_X_count_105 fl_X_65 tx_0 rfl rfl ?_
                  refine gk_get (pc := 108) K d_X_count_108 fl_X_340 tx_37 rfl rfl ?_
                  exact gk_iret (pc := 111) K d_X_count_111 rfl h
                · skip
                  have gc1 := gk_neq c1 (a := 0) (by decide)
                  have gc2 := gk_neq c2 (a := 1) (by decide)
                  have gc3 := gk_neq c3 (a := 2) (by decide)
                  have gc4 := gk_neq c4 (a := 3) (by decide)
                  have gc5 := gk_neq c5 (a := 4) (by decide)
                  have gc6 := gk_neq c6 (a := 5) (by decide)
                  have gc7 := gk_neq c7 (a := 6) (by decide)
                  have gc8 := gk_neq c8 (a := 7) (by decide)
                  refine gk_tOut (tgt := 112) (pc := 1) K d_X_count_1 (by omega) (by decide) ?_
                  refine gk_iconst (pc := 112) K d_X_count_112 kc_m1 ?_
                  exact gk_iret (pc := 113) K d_X_count_113 rfl h
theorem s_X_count {l : Launch} {u : gk_U} (hD : gk_D tx u) {a1 : Int32} {m0 mem2 : gk_M} {r : Int32} (h : f_X_count a1 m0 = some (r, mem2)) : gk_C tx l u me_X_count 1 [.ref 0, .int a1] m0 (some (.int r)) mem2 :=
  gk_enter hD mc_X_count (Nat.le_of_ble_eq_true rfl) rfl (fun z _ _ K => s_X_count_0 K _ _  h)
theorem d_M_undo_0 : decode me_M_undo.2.1 0 = .ok (.aload_n 0, 1) := by decide +kernel
theorem d_M_undo_1 : decode me_M_undo.2.1 1 = .ok (.getfield 94, 3) := by decide +kernel
theorem d_M_undo_4 : decode me_M_undo.2.1 4 = .ok (.ifCond .ne 6, 3) := by decide +kernel
theorem d_M_undo_7 : decode me_M_undo.2.1 7 = .ok (.bipush (-5), 2) := by decide +kernel
theorem d_M_undo_9 : decode me_M_undo.2.1 9 = .ok (.ireturn, 1) := by decide +kernel
theorem d_M_undo_10 : decode me_M_undo.2.1 10 = .ok (.aload_n 0, 1) := by decide +kernel
theorem d_M_undo_11 : decode me_M_undo.2.1 11 = .ok (.dup, 1) := by decide +kernel
theorem d_M_undo_12 : decode me_M_undo.2.1 12 = .ok (.getfield 94, 3) := by decide +kernel
theorem d_M_undo_15 : decode me_M_undo.2.1 15 = .ok (.iconst 1, 1) := by decide +kernel
theorem d_M_undo_16 : decode me_M_undo.2.1 16 = .ok (.isub, 1) := by decide +kernel
theorem d_M_undo_17 : decode me_M_undo.2.1 17 = .ok (.putfield 94, 3) := by decide +kernel
theorem d_M_undo_20 : decode me_M_undo.2.1 20 = .ok (.aload_n 0, 1) := by decide +kernel
theorem d_M_undo_21 : decode me_M_undo.2.1 21 = .ok (.getfield 9, 3) := by decide +kernel
theorem d_M_undo_24 : decode me_M_undo.2.1 24 = .ok (.aload_n 0, 1) := by decide +kernel
theorem d_M_undo_25 : decode me_M_undo.2.1 25 = .ok (.getfield 13, 3) := by decide +kernel
theorem d_M_undo_28 : decode me_M_undo.2.1 28 = .ok (.aload_n 0, 1) := by decide +kernel
theorem d_M_undo_29 : decode me_M_undo.2.1 29 = .ok (.getfield 94, 3) := by decide +kernel
theorem d_M_undo_32 : decode me_M_undo.2.1 32 = .ok (.iaload, 1) := by decide +kernel
theorem d_M_undo_33 : decode me_M_undo.2.1 33 = .ok (.aload_n 0, 1) := by decide +kernel
theorem d_M_undo_34 : decode me_M_undo.2.1 34 = .ok (.getfield 16, 3) := by decide +kernel
theorem d_M_undo_37 : decode me_M_undo.2.1 37 = .ok (.aload_n 0, 1) := by decide +kernel
theorem d_M_undo_38 : decode me_M_undo.2.1 38 = .ok (.getfield 94, 3) := by decide +kernel
theorem d_M_undo_41 : decode me_M_undo.2.1 41 = .ok (.iaload, 1) := by decide +kernel
theorem d_M_undo_42 : decode me_M_undo.2.1 42 = .ok (.iastore, 1) := by decide +kernel
theorem d_M_undo_43 : decode me_M_undo.2.1 43 = .ok (.aload_n 0, 1) := by decide +kernel
theorem d_M_undo_44 : decode me_M_undo.2.1 44 = .ok (.getfield 94, 3) := by decide +kernel
theorem d_M_undo_47 : decode me_M_undo.2.1 47 = .ok (.ireturn, 1) := by decide +kernel
noncomputable def f_M_undo   (m0 : gk_M) : Option (Int32 × gk_M) :=
  if ¬ (m0.1 0 5) = 0 then
    gk_let (gk_mi m0 0 5 ((m0.1 0 5) - 1)) fun m1 =>
    gk_ai m1 2 40 (m1.1 0 5) fun v2 =>
    gk_ai m1 3 40 (m1.1 0 5) fun v3 =>
    gk_si m1 1 30 v2 v3 fun m4 =>
    some ((m4.1 0 5), m4)
  else
    some ((-5), m0)

theorem s_M_undo_0 {z : gk_Z} (K : gk_F tm z me_M_undo 1) {r : Int32} {mem2 : gk_M} : ∀  m0, f_M_undo  m0 = some (r, mem2) → gk_G tm z me_M_undo (gk_R tm z (some (.int r)) mem2) m0 [(0, .ref 0)] [] 0 := by
  intro  m0  h
  unfold f_M_undo at h
  refine gk_aload_n (pc := 0) K d_M_undo_0 rfl ?_
  refine gk_get (pc := 1) K d_M_undo_1 fl_M_94 tm_0 rfl rfl ?_
  refine gk_if_ne (tgt := 10) (pc := 4) K d_M_undo_4 (by decide) h (fun h => ?_) (fun h => ?_)
  · refine gk_aload_n (pc := 10) K d_M_undo_10 rfl ?_
    refine gk_dup (pc := 11) K d_M_undo_11 rfl ?_
    refine gk_get (pc := 12) K d_M_undo_12 fl_M_94 tm_0 rfl rfl ?_
    refine gk_iconst (pc := 15) K d_M_undo_15 kc_1 ?_
    refine gk_isub (pc := 16) K d_M_undo_16 ?_
    refine gk_puti (pc := 17) K d_M_undo_17 fp_M_94 tm_0 rfl h (fun m1 h => ?_)
    refine gk_aload_n (pc := 20) K d_M_undo_20 rfl ?_
    refine gk_get (pc := 21) K d_M_undo_21 fl_M_9 tm_0 rfl rfl ?_
    refine gk_aload_n (pc := 24) K d_M_undo_24 rfl ?_
    refine gk_get (pc := 25) K d_M_undo_25 fl_M_13 tm_0 rfl rfl ?_
    refine gk_aload_n (pc := 28) K d_M_undo_28 rfl ?_
    refine gk_get (pc := 29) K d_M_undo_29 fl_M_94 tm_0 rfl rfl ?_
    refine gk_iald (pc := 32) K d_M_undo_32 tm_2 h (fun v2 h => ?_)
    refine gk_aload_n (pc := 33) K d_M_undo_33 rfl ?_
    refine gk_get (pc := 34) K d_M_undo_34 fl_M_16 tm_0 rfl rfl ?_
    refine gk_aload_n (pc := 37) K d_M_undo_37 rfl ?_
    refine gk_get (pc := 38) K d_M_undo_38 fl_M_94 tm_0 rfl rfl ?_
    refine gk_iald (pc := 41) K d_M_undo_41 tm_3 h (fun v3 h => ?_)
    refine gk_iast (pc := 42) K d_M_undo_42 tm_1 h (fun m4 h => ?_)
    refine gk_aload_n (pc := 43) K d_M_undo_43 rfl ?_
    refine gk_get (pc := 44) K d_M_undo_44 fl_M_94 tm_0 rfl rfl ?_
    exact gk_iret (pc := 47) K d_M_undo_47 rfl h
  · refine gk_bipush (pc := 7) K d_M_undo_7 kb_m5 ?_
    exact gk_iret (pc := 9) K d_M_undo_9 rfl h
theorem s_M_undo {l : Launch} {u : gk_U} (hD : gk_D tm u) {m0 mem2 : gk_M} {r : Int32} (h : f_M_undo  m0 = some (r, mem2)) : gk_C tm l u me_M_undo 1 [.ref 0] m0 (some (.int r)) mem2 :=
  gk_enter hD mc_M_undo (Nat.le_of_ble_eq_true rfl) rfl (fun z _ _ K => s_M_undo_0 K  _  h)
theorem d_M_redo_0 : decode me_M_redo.2.1 0 = .ok (.aload_n 0, 1) := by decide +kernel
theorem d_M_redo_1 : decode me_M_redo.2.1 1 = .ok (.getfield 94, 3) := by decide +kernel
theorem d_M_redo_4 : decode me_M_redo.2.1 4 = .ok (.aload_n 0, 1) := by decide +kernel
theorem d_M_redo_5 : decode me_M_redo.2.1 5 = .ok (.getfield 97, 3) := by decide +kernel
theorem d_M_redo_8 : decode me_M_redo.2.1 8 = .ok (.if_icmp .ne 6, 3) := by decide +kernel
theorem d_M_redo_11 : decode me_M_redo.2.1 11 = .ok (.bipush (-5), 2) := by decide +kernel
theorem d_M_redo_13 : decode me_M_redo.2.1 13 = .ok (.ireturn, 1) := by decide +kernel
theorem d_M_redo_14 : decode me_M_redo.2.1 14 = .ok (.aload_n 0, 1) := by decide +kernel
theorem d_M_redo_15 : decode me_M_redo.2.1 15 = .ok (.getfield 9, 3) := by decide +kernel
theorem d_M_redo_18 : decode me_M_redo.2.1 18 = .ok (.aload_n 0, 1) := by decide +kernel
theorem d_M_redo_19 : decode me_M_redo.2.1 19 = .ok (.getfield 13, 3) := by decide +kernel
theorem d_M_redo_22 : decode me_M_redo.2.1 22 = .ok (.aload_n 0, 1) := by decide +kernel
theorem d_M_redo_23 : decode me_M_redo.2.1 23 = .ok (.getfield 94, 3) := by decide +kernel
theorem d_M_redo_26 : decode me_M_redo.2.1 26 = .ok (.iaload, 1) := by decide +kernel
theorem d_M_redo_27 : decode me_M_redo.2.1 27 = .ok (.aload_n 0, 1) := by decide +kernel
theorem d_M_redo_28 : decode me_M_redo.2.1 28 = .ok (.getfield 19, 3) := by decide +kernel
theorem d_M_redo_31 : decode me_M_redo.2.1 31 = .ok (.aload_n 0, 1) := by decide +kernel
theorem d_M_redo_32 : decode me_M_redo.2.1 32 = .ok (.getfield 94, 3) := by decide +kernel
theorem d_M_redo_35 : decode me_M_redo.2.1 35 = .ok (.iaload, 1) := by decide +kernel
theorem d_M_redo_36 : decode me_M_redo.2.1 36 = .ok (.iastore, 1) := by decide +kernel
theorem d_M_redo_37 : decode me_M_redo.2.1 37 = .ok (.aload_n 0, 1) := by decide +kernel
theorem d_M_redo_38 : decode me_M_redo.2.1 38 = .ok (.dup, 1) := by decide +kernel
theorem d_M_redo_39 : decode me_M_redo.2.1 39 = .ok (.getfield 94, 3) := by decide +kernel
theorem d_M_redo_42 : decode me_M_redo.2.1 42 = .ok (.iconst 1, 1) := by decide +kernel
theorem d_M_redo_43 : decode me_M_redo.2.1 43 = .ok (.iadd, 1) := by decide +kernel
theorem d_M_redo_44 : decode me_M_redo.2.1 44 = .ok (.putfield 94, 3) := by decide +kernel
theorem d_M_redo_47 : decode me_M_redo.2.1 47 = .ok (.aload_n 0, 1) := by decide +kernel
theorem d_M_redo_48 : decode me_M_redo.2.1 48 = .ok (.getfield 97, 3) := by decide +kernel
theorem d_M_redo_51 : decode me_M_redo.2.1 51 = .ok (.aload_n 0, 1) := by decide +kernel
theorem d_M_redo_52 : decode me_M_redo.2.1 52 = .ok (.getfield 94, 3) := by decide +kernel
theorem d_M_redo_55 : decode me_M_redo.2.1 55 = .ok (.isub, 1) := by decide +kernel
theorem d_M_redo_56 : decode me_M_redo.2.1 56 = .ok (.ireturn, 1) := by decide +kernel
noncomputable def f_M_redo   (m0 : gk_M) : Option (Int32 × gk_M) :=
  if ¬ (m0.1 0 5) = (m0.1 0 4) then
    gk_ai m0 2 40 (m0.1 0 5) fun v1 =>
    gk_ai m0 4 40 (m0.1 0 5) fun v2 =>
    gk_si m0 1 30 v1 v2 fun m3 =>
    gk_let (gk_mi m3 0 5 ((m3.1 0 5) + 1)) fun m4 =>
    some (((m4.1 0 4) - (m4.1 0 5)), m4)
  else
    some ((-5), m0)

theorem s_M_redo_0 {z : gk_Z} (K : gk_F tm z me_M_redo 1) {r : Int32} {mem2 : gk_M} : ∀  m0, f_M_redo  m0 = some (r, mem2) → gk_G tm z me_M_redo (gk_R tm z (some (.int r)) mem2) m0 [(0, .ref 0)] [] 0 := by
  intro  m0  h
  unfold f_M_redo at h
  refine gk_aload_n (pc := 0) K d_M_redo_0 rfl ?_
  refine gk_get (pc := 1) K d_M_redo_1 fl_M_94 tm_0 rfl rfl ?_
  refine gk_aload_n (pc := 4) K d_M_redo_4 rfl ?_
  refine gk_get (pc := 5) K d_M_redo_5 fl_M_97 tm_0 rfl rfl ?_
  refine gk_ic_ne (tgt := 14) (pc := 8) K d_M_redo_8 (by decide) h (fun h => ?_) (fun h => ?_)
  · refine gk_aload_n (pc := 14) K d_M_redo_14 rfl ?_
    refine gk_get (pc := 15) K d_M_redo_15 fl_M_9 tm_0 rfl rfl ?_
    refine gk_aload_n (pc := 18) K d_M_redo_18 rfl ?_
    refine gk_get (pc := 19) K d_M_redo_19 fl_M_13 tm_0 rfl rfl ?_
    refine gk_aload_n (pc := 22) K d_M_redo_22 rfl ?_
    refine gk_get (pc := 23) K d_M_redo_23 fl_M_94 tm_0 rfl rfl ?_
    refine gk_iald (pc := 26) K d_M_redo_26 tm_2 h (fun v1 h => ?_)
    refine gk_aload_n (pc := 27) K d_M_redo_27 rfl ?_
    refine gk_get (pc := 28) K d_M_redo_28 fl_M_19 tm_0 rfl rfl ?_
    refine gk_aload_n (pc := 31) K d_M_redo_31 rfl ?_
    refine gk_get (pc := 32) K d_M_redo_32 fl_M_94 tm_0 rfl rfl ?_
    refine gk_iald (pc := 35) K d_M_redo_35 tm_4 h (fun v2 h => ?_)
    refine gk_iast (pc := 36) K d_M_redo_36 tm_1 h (fun m3 h => ?_)
    refine gk_aload_n (pc := 37) K d_M_redo_37 rfl ?_
    refine gk_dup (pc := 38) K d_M_redo_38 rfl ?_
    refine gk_get (pc := 39) K d_M_redo_39 fl_M_94 tm_0 rfl rfl ?_
    refine gk_iconst (pc := 42) K d_M_redo_42 kc_1 ?_
    refine gk_iadd (pc := 43) K d_M_redo_43 ?_
    refine gk_puti (pc := 44) K d_M_redo_44 fp_M_94 tm_0 rfl h (fun m4 h => ?_)
    refine gk_aload_n (pc := 47) K d_M_redo_47 rfl ?_
    refine gk_get (pc := 48) K d_M_redo_48 fl_M_97 tm_0 rfl rfl ?_
    refine gk_aload_n (pc := 51) K d_M_redo_51 rfl ?_
    refine gk_get (pc := 52) K d_M_redo_52 fl_M_94 tm_0 rfl rfl ?_
    refine gk_isub (pc := 55) K d_M_redo_55 ?_
    exact gk_iret (pc := 56) K d_M_redo_56 rfl h
  · refine gk_bipush (pc := 11) K d_M_redo_11 kb_m5 ?_
    exact gk_iret (pc := 13) K d_M_redo_13 rfl h
theorem s_M_redo {l : Launch} {u : gk_U} (hD : gk_D tm u) {m0 mem2 : gk_M} {r : Int32} (h : f_M_redo  m0 = some (r, mem2)) : gk_C tm l u me_M_redo 1 [.ref 0] m0 (some (.int r)) mem2 :=
  gk_enter hD mc_M_redo (Nat.le_of_ble_eq_true rfl) rfl (fun z _ _ K => s_M_redo_0 K  _  h)
theorem d_M_within_0 : decode me_M_within.2.1 0 = .ok (.lload_n 0, 1) := by decide +kernel
theorem d_M_within_1 : decode me_M_within.2.1 1 = .ok (.lload_n 2, 1) := by decide +kernel
theorem d_M_within_2 : decode me_M_within.2.1 2 = .ok (.lcmp, 1) := by decide +kernel
theorem d_M_within_3 : decode me_M_within.2.1 3 = .ok (.ifCond .lt 14, 3) := by decide +kernel
theorem d_M_within_6 : decode me_M_within.2.1 6 = .ok (.lload_n 0, 1) := by decide +kernel
theorem d_M_within_7 : decode me_M_within.2.1 7 = .ok (.lload 4, 2) := by decide +kernel
theorem d_M_within_9 : decode me_M_within.2.1 9 = .ok (.lcmp, 1) := by decide +kernel
theorem d_M_within_10 : decode me_M_within.2.1 10 = .ok (.ifCond .gt 7, 3) := by decide +kernel
theorem d_M_within_13 : decode me_M_within.2.1 13 = .ok (.iconst 1, 1) := by decide +kernel
theorem d_M_within_14 : decode me_M_within.2.1 14 = .ok (.goto 4, 3) := by decide +kernel
theorem d_M_within_17 : decode me_M_within.2.1 17 = .ok (.iconst 0, 1) := by decide +kernel
theorem d_M_within_18 : decode me_M_within.2.1 18 = .ok (.ireturn, 1) := by decide +kernel
noncomputable def f_M_within  (a0 : Int64) (a2 : Int64) (a4 : Int64) (m0 : gk_M) : Option (Int32 × gk_M) :=
  if a0 < a2 then
    some (0, m0)
  else
    if a4 < a0 then
      some (0, m0)
    else
      some (1, m0)

theorem s_M_within_0 {z : gk_Z} (K : gk_F tm z me_M_within 1) {r : Int32} {mem2 : gk_M} : ∀ a0 a2 a4 m0, f_M_within a0 a2 a4 m0 = some (r, mem2) → gk_G tm z me_M_within (gk_R tm z (some (.int r)) mem2) m0 [(0, .long a0), (2, .long a2), (4, .long a4)] [] 0 := by
  intro a0 a2 a4 m0  h
  unfold f_M_within at h
  refine gk_lload_n (pc := 0) K d_M_within_0 rfl ?_
  refine gk_lload_n (pc := 1) K d_M_within_1 rfl ?_
  refine gk_lc_lt (tgt := 17) (pc := 2) K d_M_within_2 d_M_within_3 (by decide) h (fun h => ?_) (fun h => ?_)
  · refine gk_iconst (pc := 17) K d_M_within_17 kc_0 ?_
    exact gk_zretc (pc := 18) K d_M_within_18 rfl (Or.inl rfl) h
  · refine gk_lload_n (pc := 6) K d_M_within_6 rfl ?_
    refine gk_lload (pc := 7) K d_M_within_7 rfl ?_
    refine gk_lc_gt (tgt := 17) (pc := 9) K d_M_within_9 d_M_within_10 (by decide) h (fun h => ?_) (fun h => ?_)
    · refine gk_iconst (pc := 17) K d_M_within_17 kc_0 ?_
      exact gk_zretc (pc := 18) K d_M_within_18 rfl (Or.inl rfl) h
    · refine gk_iconst (pc := 13) K d_M_within_13 kc_1 ?_
      refine gk_goto (tgt := 18) (pc := 14) K d_M_within_14 (by decide) ?_
      exact gk_zretc (pc := 18) K d_M_within_18 rfl (Or.inr rfl) h
theorem s_M_within {l : Launch} {u : gk_U} (hD : gk_D tm u) {a0 : Int64} {a2 : Int64} {a4 : Int64} {m0 mem2 : gk_M} {r : Int32} (h : f_M_within a0 a2 a4 m0 = some (r, mem2)) : gk_C tm l u me_M_within 1 [.long a0, .long a2, .long a4] m0 (some (.int r)) mem2 :=
  gk_enter hD mc_M_within (Nat.le_of_ble_eq_true rfl) rfl (fun z _ _ K => s_M_within_0 K _ _ _ _  h)
theorem d_M_isFreeOf_0 : decode me_M_isFreeOf.2.1 0 = .ok (.iconst 0, 1) := by decide +kernel
theorem d_M_isFreeOf_1 : decode me_M_isFreeOf.2.1 1 = .ok (.istore_n 3, 1) := by decide +kernel
theorem d_M_isFreeOf_2 : decode me_M_isFreeOf.2.1 2 = .ok (.iload_n 3, 1) := by decide +kernel
theorem d_M_isFreeOf_3 : decode me_M_isFreeOf.2.1 3 = .ok (.iload_n 2, 1) := by decide +kernel
theorem d_M_isFreeOf_4 : decode me_M_isFreeOf.2.1 4 = .ok (.if_icmp .ge 21, 3) := by decide +kernel
theorem d_M_isFreeOf_7 : decode me_M_isFreeOf.2.1 7 = .ok (.aload_n 0, 1) := by decide +kernel
theorem d_M_isFreeOf_8 : decode me_M_isFreeOf.2.1 8 = .ok (.getfield 22, 3) := by decide +kernel
theorem d_M_isFreeOf_11 : decode me_M_isFreeOf.2.1 11 = .ok (.iload_n 3, 1) := by decide +kernel
theorem d_M_isFreeOf_12 : decode me_M_isFreeOf.2.1 12 = .ok (.iaload, 1) := by decide +kernel
theorem d_M_isFreeOf_13 : decode me_M_isFreeOf.2.1 13 = .ok (.iload_n 1, 1) := by decide +kernel
theorem d_M_isFreeOf_14 : decode me_M_isFreeOf.2.1 14 = .ok (.if_icmp .ne 5, 3) := by decide +kernel
theorem d_M_isFreeOf_17 : decode me_M_isFreeOf.2.1 17 = .ok (.iconst 0, 1) := by decide +kernel
theorem d_M_isFreeOf_18 : decode me_M_isFreeOf.2.1 18 = .ok (.ireturn, 1) := by decide +kernel
theorem d_M_isFreeOf_19 : decode me_M_isFreeOf.2.1 19 = .ok (.iinc 3 1, 3) := by decide +kernel
theorem d_M_isFreeOf_22 : decode me_M_isFreeOf.2.1 22 = .ok (.goto (-20), 3) := by decide +kernel
theorem d_M_isFreeOf_25 : decode me_M_isFreeOf.2.1 25 = .ok (.iconst 1, 1) := by decide +kernel
theorem d_M_isFreeOf_26 : decode me_M_isFreeOf.2.1 26 = .ok (.ireturn, 1) := by decide +kernel
noncomputable def f_M_isFreeOf_2  : Nat → Int32 → Int32 → Int32 → gk_M → Option (Int32 × gk_M)
  | 0, _, _, _, _ => none
  | n + 1, a1, a2, a3, m0 =>
    if a2 ≤ a3 then
      some (1, m0)
    else
      gk_ai m0 5 20 a3 fun v1 =>
      if ¬ v1 = a1 then
        f_M_isFreeOf_2 n a1 a2 (a3 + 1) m0
      else
        some (0, m0)

theorem s_M_isFreeOf_2 {z : gk_Z} (K : gk_F tm z me_M_isFreeOf 1) {r : Int32} {mem2 : gk_M} : ∀ n a1 a2 a3 m0, f_M_isFreeOf_2 n a1 a2 a3 m0 = some (r, mem2) → gk_G tm z me_M_isFreeOf (gk_R tm z (some (.int r)) mem2) m0 [(0, .ref 0), (1, .int a1), (2, .int a2), (3, .int a3)] [] 2 := by
  intro n
  induction n with
  | zero => intro a1 a2 a3 m0  h; exact nomatch (show (none : Option _) = some _ from h)
  | succ n ih =>
    intro a1 a2 a3 m0  h
    unfold f_M_isFreeOf_2 at h
    refine gk_iload_n (pc := 2) K d_M_isFreeOf_2 rfl ?_
    refine gk_iload_n (pc := 3) K d_M_isFreeOf_3 rfl ?_
    refine gk_ic_ge (tgt := 25) (pc := 4) K d_M_isFreeOf_4 (by decide) h (fun h => ?_) (fun h => ?_)
    · refine gk_iconst (pc := 25) K d_M_isFreeOf_25 kc_1 ?_
      exact gk_zretc (pc := 26) K d_M_isFreeOf_26 rfl (Or.inr rfl) h
    · refine gk_aload_n (pc := 7) K d_M_isFreeOf_7 rfl ?_
      refine gk_get (pc := 8) K d_M_isFreeOf_8 fl_M_22 tm_0 rfl rfl ?_
      refine gk_iload_n (pc := 11) K d_M_isFreeOf_11 rfl ?_
      refine gk_iald (pc := 12) K d_M_isFreeOf_12 tm_5 h (fun v1 h => ?_)
      refine gk_iload_n (pc := 13) K d_M_isFreeOf_13 rfl ?_
      refine gk_ic_ne (tgt := 19) (pc := 14) K d_M_isFreeOf_14 (by decide) h (fun h => ?_) (fun h => ?_)
      · refine gk_iinc2 (lv2 := [(3, .int (a3 + 1)), (0, .ref 0), (1, .int a1), (2, .int a2)]) (pc := 19) K d_M_isFreeOf_19 rfl kc_1 (by decide) rfl ?_
        refine gk_goto (tgt := 2) (pc := 22) K d_M_isFreeOf_22 (by decide) ?_
        exact gk_sub [1, 2, 3, 0] rfl (ih _ _ _ _  h)
      · refine gk_iconst (pc := 17) K d_M_isFreeOf_17 kc_0 ?_
        exact gk_zretc (pc := 18) K d_M_isFreeOf_18 rfl (Or.inl rfl) h
noncomputable def f_M_isFreeOf  (a1 : Int32) (a2 : Int32) (m0 : gk_M) : Option (Int32 × gk_M) :=
  f_M_isFreeOf_2 gk_fv a1 a2 0 m0

theorem s_M_isFreeOf_0 {z : gk_Z} (K : gk_F tm z me_M_isFreeOf 1) {r : Int32} {mem2 : gk_M} : ∀ a1 a2 m0, f_M_isFreeOf a1 a2 m0 = some (r, mem2) → gk_G tm z me_M_isFreeOf (gk_R tm z (some (.int r)) mem2) m0 [(0, .ref 0), (1, .int a1), (2, .int a2)] [] 0 := by
  intro a1 a2 m0  h
  unfold f_M_isFreeOf at h
  refine gk_iconst (pc := 0) K d_M_isFreeOf_0 kc_0 ?_
  refine gk_istore_n (lv2 := [(3, .int 0), (0, .ref 0), (1, .int a1), (2, .int a2)]) (pc := 1) K d_M_isFreeOf_1 (by decide) rfl ?_
  exact gk_sub [1, 2, 3, 0] rfl (s_M_isFreeOf_2 K _ _ _ _ _  h)
theorem s_M_isFreeOf {l : Launch} {u : gk_U} (hD : gk_D tm u) {a1 : Int32} {a2 : Int32} {m0 mem2 : gk_M} {r : Int32} (h : f_M_isFreeOf a1 a2 m0 = some (r, mem2)) : gk_C tm l u me_M_isFreeOf 1 [.ref 0, .int a1, .int a2] m0 (some (.int r)) mem2 :=
  gk_enter hD mc_M_isFreeOf (Nat.le_of_ble_eq_true rfl) rfl (fun z _ _ K => s_M_isFreeOf_0 K _ _ _  h)
theorem d_M_mayStand_0 : decode me_M_mayStand.2.1 0 = .ok (.lload_n 1, 1) := by decide +kernel
theorem d_M_mayStand_1 : decode me_M_mayStand.2.1 1 = .ok (.lconst 0, 1) := by decide +kernel
theorem d_M_mayStand_2 : decode me_M_mayStand.2.1 2 = .ok (.ldc2_w 100, 3) := by decide +kernel
theorem d_M_mayStand_5 : decode me_M_mayStand.2.1 5 = .ok (.invokestatic 102, 3) := by decide +kernel
theorem d_M_mayStand_8 : decode me_M_mayStand.2.1 8 = .ok (.ifCond .eq 43, 3) := by decide +kernel
theorem d_M_mayStand_11 : decode me_M_mayStand.2.1 11 = .ok (.lload_n 3, 1) := by decide +kernel
theorem d_M_mayStand_12 : decode me_M_mayStand.2.1 12 = .ok (.lconst 0, 1) := by decide +kernel
theorem d_M_mayStand_13 : decode me_M_mayStand.2.1 13 = .ok (.ldc2_w 112, 3) := by decide +kernel
theorem d_M_mayStand_16 : decode me_M_mayStand.2.1 16 = .ok (.invokestatic 102, 3) := by decide +kernel
theorem d_M_mayStand_19 : decode me_M_mayStand.2.1 19 = .ok (.ifCond .eq 32, 3) := by decide +kernel
theorem d_M_mayStand_22 : decode me_M_mayStand.2.1 22 = .ok (.lload 5, 2) := by decide +kernel
theorem d_M_mayStand_24 : decode me_M_mayStand.2.1 24 = .ok (.lconst 0, 1) := by decide +kernel
theorem d_M_mayStand_25 : decode me_M_mayStand.2.1 25 = .ok (.ldc2_w 114, 3) := by decide +kernel
theorem d_M_mayStand_28 : decode me_M_mayStand.2.1 28 = .ok (.invokestatic 102, 3) := by decide +kernel
theorem d_M_mayStand_31 : decode me_M_mayStand.2.1 31 = .ok (.ifCond .eq 20, 3) := by decide +kernel
theorem d_M_mayStand_34 : decode me_M_mayStand.2.1 34 = .ok (.aload_n 0, 1) := by decide +kernel
theorem d_M_mayStand_35 : decode me_M_mayStand.2.1 35 = .ok (.lload_n 1, 1) := by decide +kernel
theorem d_M_mayStand_36 : decode me_M_mayStand.2.1 36 = .ok (.l2i, 1) := by decide +kernel
theorem d_M_mayStand_37 : decode me_M_mayStand.2.1 37 = .ok (.aload_n 0, 1) := by decide +kernel
theorem d_M_mayStand_38 : decode me_M_mayStand.2.1 38 = .ok (.getfield 106, 3) := by decide +kernel
theorem d_M_mayStand_41 : decode me_M_mayStand.2.1 41 = .ok (.invokevirtual 116, 3) := by decide +kernel
theorem d_M_mayStand_44 : decode me_M_mayStand.2.1 44 = .ok (.ifCond .eq 7, 3) := by decide +kernel
theorem d_M_mayStand_47 : decode me_M_mayStand.2.1 47 = .ok (.iconst 1, 1) := by decide +kernel
theorem d_M_mayStand_48 : decode me_M_mayStand.2.1 48 = .ok (.goto 4, 3) := by decide +kernel
theorem d_M_mayStand_51 : decode me_M_mayStand.2.1 51 = .ok (.iconst 0, 1) := by decide +kernel
theorem d_M_mayStand_52 : decode me_M_mayStand.2.1 52 = .ok (.ireturn, 1) := by decide +kernel
noncomputable def f_M_mayStand  (a1 : Int64) (a3 : Int64) (a5 : Int64) (m0 : gk_M) : Option (Int32 × gk_M) :=
  gk_bi (f_M_within a1 0 899 m0) fun v2 m1 =>
  if v2 = 0 then
    some (0, m1)
  else
    gk_bi (f_M_within a3 0 9 m1) fun v4 m3 =>
    if v4 = 0 then
      some (0, m3)
    else
      gk_bi (f_M_within a5 0 99 m3) fun v6 m5 =>
      if v6 = 0 then
        some (0, m5)
      else
        gk_bi (f_M_isFreeOf a1.toInt32 (m5.1 0 6) m5) fun v8 m7 =>
        if v8 = 0 then
          some (0, m7)
        else
          some (1, m7)

theorem s_M_mayStand_0 {z : gk_Z} (K : gk_F tm z me_M_mayStand 2) {r : Int32} {mem2 : gk_M} : ∀ a1 a3 a5 m0, f_M_mayStand a1 a3 a5 m0 = some (r, mem2) → gk_G tm z me_M_mayStand (gk_R tm z (some (.int r)) mem2) m0 [(0, .ref 0), (1, .long a1), (3, .long a3), (5, .long a5)] [] 0 := by
  intro a1 a3 a5 m0  h
  unfold f_M_mayStand at h
  refine gk_lload_n (pc := 0) K d_M_mayStand_0 rfl ?_
  refine gk_lconst (pc := 1) K d_M_mayStand_1 kl_0 ?_
  refine gk_ldc2 (pc := 2) K d_M_mayStand_2 lc_M_100 ?_
  obtain ⟨v2, m1, em1, h⟩ := gk_bi_some h
  refine gk_cSi (As := [.long a1, .long 0, .long 899]) (pc := 5) K d_M_mayStand_5 ms_M_102 mc_M_within rfl (s_M_within (gk_FD K)  em1) (by decide) rfl (Nat.le_of_ble_eq_true rfl) ?_
  refine gk_if_eq (tgt := 51) (pc := 8) K d_M_mayStand_8 (by decide) h (fun h => ?_) (fun h => ?_)
  · refine gk_iconst (pc := 51) K d_M_mayStand_51 kc_0 ?_
    exact gk_zretc (pc := 52) K d_M_mayStand_52 rfl (Or.inl rfl) h
  · refine gk_lload_n (pc := 11) K d_M_mayStand_11 rfl ?_
    refine gk_lconst (pc := 12) K d_M_mayStand_12 kl_0 ?_
    refine gk_ldc2 (pc := 13) K d_M_mayStand_13 lc_M_112 ?_
    obtain ⟨v4, m3, em3, h⟩ := gk_bi_some h
    refine gk_cSi (As := [.long a3, .long 0, .long 9]) (pc := 16) K d_M_mayStand_16 ms_M_102 mc_M_within rfl (s_M_within (gk_FD K)  em3) (by decide) rfl (Nat.le_of_ble_eq_true rfl) ?_
    refine gk_if_eq (tgt := 51) (pc := 19) K d_M_mayStand_19 (by decide) h (fun h => ?_) (fun h => ?_)
    · refine gk_iconst (pc := 51) K d_M_mayStand_51 kc_0 ?_
      exact gk_zretc (pc := 52) K d_M_mayStand_52 rfl (Or.inl rfl) h
    · refine gk_lload (pc := 22) K d_M_mayStand_22 rfl ?_
      refine gk_lconst (pc := 24) K d_M_mayStand_24 kl_0 ?_
      refine gk_ldc2 (pc := 25) K d_M_mayStand_25 lc_M_114 ?_
      obtain ⟨v6, m5, em5, h⟩ := gk_bi_some h
      refine gk_cSi (As := [.long a5, .long 0, .long 99]) (pc := 28) K d_M_mayStand_28 ms_M_102 mc_M_within rfl (s_M_within (gk_FD K)  em5) (by decide) rfl (Nat.le_of_ble_eq_true rfl) ?_
      refine gk_if_eq (tgt := 51) (pc := 31) K d_M_mayStand_31 (by decide) h (fun h => ?_) (fun h => ?_)
      · refine gk_iconst (pc := 51) K d_M_mayStand_51 kc_0 ?_
        exact gk_zretc (pc := 52) K d_M_mayStand_52 rfl (Or.inl rfl) h
      · refine gk_aload_n (pc := 34) K d_M_mayStand_34 rfl ?_
        refine gk_lload_n (pc := 35) K d_M_mayStand_35 rfl ?_
        refine gk_l2i (pc := 36) K d_M_mayStand_36 ?_
        refine gk_aload_n (pc := 37) K d_M_mayStand_37 rfl ?_
        refine gk_get (pc := 38) K d_M_mayStand_38 fl_M_106 tm_0 rfl rfl ?_
        obtain ⟨v8, m7, em7, h⟩ := gk_bi_some h
        refine gk_cVi (As := [.int a1.toInt32, .int (m5.1 0 6)]) (pc := 41) K d_M_mayStand_41 mv_M_116 mc_M_isFreeOf rfl tm_0 cl_ok10.1 (s_M_isFreeOf (gk_FD K)  em7) (by decide) rfl (Nat.le_of_ble_eq_true rfl) ?_
        refine gk_if_eq (tgt := 51) (pc := 44) K d_M_mayStand_44 (by decide) h (fun h => ?_) (fun h => ?_)
        · refine gk_iconst (pc := 51) K d_M_mayStand_51 kc_0 ?_
          exact gk_zretc (pc := 52) K d_M_mayStand_52 rfl (Or.inl rfl) h
        · refine gk_iconst (pc := 47) K d_M_mayStand_47 kc_1 ?_
          refine gk_goto (tgt := 52) (pc := 48) K d_M_mayStand_48 (by decide) ?_
          exact gk_zretc (pc := 52) K d_M_mayStand_52 rfl (Or.inr rfl) h
theorem s_M_mayStand {l : Launch} {u : gk_U} (hD : gk_D tm u) {a1 : Int64} {a3 : Int64} {a5 : Int64} {m0 mem2 : gk_M} {r : Int32} (h : f_M_mayStand a1 a3 a5 m0 = some (r, mem2)) : gk_C tm l u me_M_mayStand 2 [.ref 0, .long a1, .long a3, .long a5] m0 (some (.int r)) mem2 :=
  gk_enter hD mc_M_mayStand (Nat.le_of_ble_eq_true rfl) rfl (fun z _ _ K => s_M_mayStand_0 K _ _ _ _  h)
theorem d_M_adds_0 : decode me_M_adds.2.1 0 = .ok (.aload_n 0, 1) := by decide +kernel
theorem d_M_adds_1 : decode me_M_adds.2.1 1 = .ok (.getfield 22, 3) := by decide +kernel
theorem d_M_adds_4 : decode me_M_adds.2.1 4 = .ok (.aload_n 0, 1) := by decide +kernel
theorem d_M_adds_5 : decode me_M_adds.2.1 5 = .ok (.getfield 106, 3) := by decide +kernel
theorem d_M_adds_8 : decode me_M_adds.2.1 8 = .ok (.iload_n 1, 1) := by decide +kernel
theorem d_M_adds_9 : decode me_M_adds.2.1 9 = .ok (.iastore, 1) := by decide +kernel
theorem d_M_adds_10 : decode me_M_adds.2.1 10 = .ok (.aload_n 0, 1) := by decide +kernel
theorem d_M_adds_11 : decode me_M_adds.2.1 11 = .ok (.getfield 25, 3) := by decide +kernel
theorem d_M_adds_14 : decode me_M_adds.2.1 14 = .ok (.aload_n 0, 1) := by decide +kernel
theorem d_M_adds_15 : decode me_M_adds.2.1 15 = .ok (.getfield 106, 3) := by decide +kernel
theorem d_M_adds_18 : decode me_M_adds.2.1 18 = .ok (.aload_n 0, 1) := by decide +kernel
theorem d_M_adds_19 : decode me_M_adds.2.1 19 = .ok (.getfield 106, 3) := by decide +kernel
theorem d_M_adds_22 : decode me_M_adds.2.1 22 = .ok (.iastore, 1) := by decide +kernel
theorem d_M_adds_23 : decode me_M_adds.2.1 23 = .ok (.aload_n 0, 1) := by decide +kernel
theorem d_M_adds_24 : decode me_M_adds.2.1 24 = .ok (.getfield 9, 3) := by decide +kernel
theorem d_M_adds_27 : decode me_M_adds.2.1 27 = .ok (.aload_n 0, 1) := by decide +kernel
theorem d_M_adds_28 : decode me_M_adds.2.1 28 = .ok (.getfield 106, 3) := by decide +kernel
theorem d_M_adds_31 : decode me_M_adds.2.1 31 = .ok (.iload_n 2, 1) := by decide +kernel
theorem d_M_adds_32 : decode me_M_adds.2.1 32 = .ok (.iastore, 1) := by decide +kernel
theorem d_M_adds_33 : decode me_M_adds.2.1 33 = .ok (.aload_n 0, 1) := by decide +kernel
theorem d_M_adds_34 : decode me_M_adds.2.1 34 = .ok (.getfield 9, 3) := by decide +kernel
theorem d_M_adds_37 : decode me_M_adds.2.1 37 = .ok (.bipush 10, 2) := by decide +kernel
theorem d_M_adds_39 : decode me_M_adds.2.1 39 = .ok (.aload_n 0, 1) := by decide +kernel
theorem d_M_adds_40 : decode me_M_adds.2.1 40 = .ok (.getfield 106, 3) := by decide +kernel
theorem d_M_adds_43 : decode me_M_adds.2.1 43 = .ok (.iadd, 1) := by decide +kernel
theorem d_M_adds_44 : decode me_M_adds.2.1 44 = .ok (.iload_n 3, 1) := by decide +kernel
theorem d_M_adds_45 : decode me_M_adds.2.1 45 = .ok (.iastore, 1) := by decide +kernel
theorem d_M_adds_46 : decode me_M_adds.2.1 46 = .ok (.aload_n 0, 1) := by decide +kernel
theorem d_M_adds_47 : decode me_M_adds.2.1 47 = .ok (.getfield 9, 3) := by decide +kernel
theorem d_M_adds_50 : decode me_M_adds.2.1 50 = .ok (.bipush 20, 2) := by decide +kernel
theorem d_M_adds_52 : decode me_M_adds.2.1 52 = .ok (.aload_n 0, 1) := by decide +kernel
theorem d_M_adds_53 : decode me_M_adds.2.1 53 = .ok (.getfield 106, 3) := by decide +kernel
theorem d_M_adds_56 : decode me_M_adds.2.1 56 = .ok (.iadd, 1) := by decide +kernel
theorem d_M_adds_57 : decode me_M_adds.2.1 57 = .ok (.iload 4, 2) := by decide +kernel
theorem d_M_adds_59 : decode me_M_adds.2.1 59 = .ok (.iastore, 1) := by decide +kernel
theorem d_M_adds_60 : decode me_M_adds.2.1 60 = .ok (.aload_n 0, 1) := by decide +kernel
theorem d_M_adds_61 : decode me_M_adds.2.1 61 = .ok (.dup, 1) := by decide +kernel
theorem d_M_adds_62 : decode me_M_adds.2.1 62 = .ok (.getfield 106, 3) := by decide +kernel
theorem d_M_adds_65 : decode me_M_adds.2.1 65 = .ok (.iconst 1, 1) := by decide +kernel
theorem d_M_adds_66 : decode me_M_adds.2.1 66 = .ok (.iadd, 1) := by decide +kernel
theorem d_M_adds_67 : decode me_M_adds.2.1 67 = .ok (.putfield 106, 3) := by decide +kernel
theorem d_M_adds_70 : decode me_M_adds.2.1 70 = .ok (.return_, 1) := by decide +kernel
noncomputable def f_M_adds  (a1 : Int32) (a2 : Int32) (a3 : Int32) (a4 : Int32) (m0 : gk_M) : Option (Unit × gk_M) :=
  gk_si m0 5 20 (m0.1 0 6) a1 fun m1 =>
  gk_si m1 6 20 (m1.1 0 6) (m1.1 0 6) fun m2 =>
  gk_si m2 1 30 (m2.1 0 6) a2 fun m3 =>
  gk_si m3 1 30 (10 + (m3.1 0 6)) a3 fun m4 =>
  gk_si m4 1 30 (20 + (m4.1 0 6)) a4 fun m5 =>
  gk_let (gk_mi m5 0 6 ((m5.1 0 6) + 1)) fun m6 =>
  some ((), m6)

theorem s_M_adds_0 {z : gk_Z} (K : gk_F tm z me_M_adds 1) {r : Unit} {mem2 : gk_M} : ∀ a1 a2 a3 a4 m0, f_M_adds a1 a2 a3 a4 m0 = some (r, mem2) → gk_G tm z me_M_adds (gk_R tm z none mem2) m0 [(0, .ref 0), (1, .int a1), (2, .int a2), (3, .int a3), (4, .int a4)] [] 0 := by
  intro a1 a2 a3 a4 m0  h
  unfold f_M_adds at h
  refine gk_aload_n (pc := 0) K d_M_adds_0 rfl ?_
  refine gk_get (pc := 1) K d_M_adds_1 fl_M_22 tm_0 rfl rfl ?_
  refine gk_aload_n (pc := 4) K d_M_adds_4 rfl ?_
  refine gk_get (pc := 5) K d_M_adds_5 fl_M_106 tm_0 rfl rfl ?_
  refine gk_iload_n (pc := 8) K d_M_adds_8 rfl ?_
  refine gk_iast (pc := 9) K d_M_adds_9 tm_5 h (fun m1 h => ?_)
  refine gk_aload_n (pc := 10) K d_M_adds_10 rfl ?_
  refine gk_get (pc := 11) K d_M_adds_11 fl_M_25 tm_0 rfl rfl ?_
  refine gk_aload_n (pc := 14) K d_M_adds_14 rfl ?_
  refine gk_get (pc := 15) K d_M_adds_15 fl_M_106 tm_0 rfl rfl ?_
  refine gk_aload_n (pc := 18) K d_M_adds_18 rfl ?_
  refine gk_get (pc := 19) K d_M_adds_19 fl_M_106 tm_0 rfl rfl ?_
  refine gk_iast (pc := 22) K d_M_adds_22 tm_6 h (fun m2 h => ?_)
  refine gk_aload_n (pc := 23) K d_M_adds_23 rfl ?_
  refine gk_get (pc := 24) K d_M_adds_24 fl_M_9 tm_0 rfl rfl ?_
  refine gk_aload_n (pc := 27) K d_M_adds_27 rfl ?_
  refine gk_get (pc := 28) K d_M_adds_28 fl_M_106 tm_0 rfl rfl ?_
  refine gk_iload_n (pc := 31) K d_M_adds_31 rfl ?_
  refine gk_iast (pc := 32) K d_M_adds_32 tm_1 h (fun m3 h => ?_)
  refine gk_aload_n (pc := 33) K d_M_adds_33 rfl ?_
  refine gk_get (pc := 34) K d_M_adds_34 fl_M_9 tm_0 rfl rfl ?_
  refine gk_bipush (pc := 37) K d_M_adds_37 kb_10 ?_
  refine gk_aload_n (pc := 39) K d_M_adds_39 rfl ?_
  refine gk_get (pc := 40) K d_M_adds_40 fl_M_106 tm_0 rfl rfl ?_
  refine gk_iadd (pc := 43) K d_M_adds_43 ?_
  refine gk_iload_n (pc := 44) K d_M_adds_44 rfl ?_
  refine gk_iast (pc := 45) K d_M_adds_45 tm_1 h (fun m4 h => ?_)
  refine gk_aload_n (pc := 46) K d_M_adds_46 rfl ?_
  refine gk_get (pc := 47) K d_M_adds_47 fl_M_9 tm_0 rfl rfl ?_
  refine gk_bipush (pc := 50) K d_M_adds_50 kb_20 ?_
  refine gk_aload_n (pc := 52) K d_M_adds_52 rfl ?_
  refine gk_get (pc := 53) K d_M_adds_53 fl_M_106 tm_0 rfl rfl ?_
  refine gk_iadd (pc := 56) K d_M_adds_56 ?_
  refine gk_iload (pc := 57) K d_M_adds_57 rfl ?_
  refine gk_iast (pc := 59) K d_M_adds_59 tm_1 h (fun m5 h => ?_)
  refine gk_aload_n (pc := 60) K d_M_adds_60 rfl ?_
  refine gk_dup (pc := 61) K d_M_adds_61 rfl ?_
  refine gk_get (pc := 62) K d_M_adds_62 fl_M_106 tm_0 rfl rfl ?_
  refine gk_iconst (pc := 65) K d_M_adds_65 kc_1 ?_
  refine gk_iadd (pc := 66) K d_M_adds_66 ?_
  refine gk_puti (pc := 67) K d_M_adds_67 fp_M_106 tm_0 rfl h (fun m6 h => ?_)
  exact gk_vret (pc := 70) K d_M_adds_70 rfl h
theorem s_M_adds {l : Launch} {u : gk_U} (hD : gk_D tm u) {a1 : Int32} {a2 : Int32} {a3 : Int32} {a4 : Int32} {m0 mem2 : gk_M} {r : Unit} (h : f_M_adds a1 a2 a3 a4 m0 = some (r, mem2)) : gk_C tm l u me_M_adds 1 [.ref 0, .int a1, .int a2, .int a3, .int a4] m0 none mem2 :=
  gk_enter hD mc_M_adds (Nat.le_of_ble_eq_true rfl) rfl (fun z _ _ K => s_M_adds_0 K _ _ _ _ _  h)
theorem d_M_tower_0 : decode me_M_tower.2.1 0 = .ok (.iload_n 2, 1) := by decide +kernel
theorem d_M_tower_1 : decode me_M_tower.2.1 1 = .ok (.ifCond .lt 34, 3) := by decide +kernel
theorem d_M_tower_4 : decode me_M_tower.2.1 4 = .ok (.aload_n 0, 1) := by decide +kernel
theorem d_M_tower_5 : decode me_M_tower.2.1 5 = .ok (.iload_n 1, 1) := by decide +kernel
theorem d_M_tower_6 : decode me_M_tower.2.1 6 = .ok (.i2l, 1) := by decide +kernel
theorem d_M_tower_7 : decode me_M_tower.2.1 7 = .ok (.iload_n 2, 1) := by decide +kernel
theorem d_M_tower_8 : decode me_M_tower.2.1 8 = .ok (.sipush 1000, 3) := by decide +kernel
theorem d_M_tower_11 : decode me_M_tower.2.1 11 = .ok (.idiv, 1) := by decide +kernel
theorem d_M_tower_12 : decode me_M_tower.2.1 12 = .ok (.i2l, 1) := by decide +kernel
theorem d_M_tower_13 : decode me_M_tower.2.1 13 = .ok (.iload_n 2, 1) := by decide +kernel
theorem d_M_tower_14 : decode me_M_tower.2.1 14 = .ok (.bipush 10, 2) := by decide +kernel
theorem d_M_tower_16 : decode me_M_tower.2.1 16 = .ok (.idiv, 1) := by decide +kernel
theorem d_M_tower_17 : decode me_M_tower.2.1 17 = .ok (.bipush 100, 2) := by decide +kernel
theorem d_M_tower_19 : decode me_M_tower.2.1 19 = .ok (.irem, 1) := by decide +kernel
theorem d_M_tower_20 : decode me_M_tower.2.1 20 = .ok (.i2l, 1) := by decide +kernel
theorem d_M_tower_21 : decode me_M_tower.2.1 21 = .ok (.invokevirtual 120, 3) := by decide +kernel
theorem d_M_tower_24 : decode me_M_tower.2.1 24 = .ok (.ifCond .eq 11, 3) := by decide +kernel
theorem d_M_tower_27 : decode me_M_tower.2.1 27 = .ok (.iload_n 2, 1) := by decide +kernel
theorem d_M_tower_28 : decode me_M_tower.2.1 28 = .ok (.bipush 10, 2) := by decide +kernel
theorem d_M_tower_30 : decode me_M_tower.2.1 30 = .ok (.irem, 1) := by decide +kernel
theorem d_M_tower_31 : decode me_M_tower.2.1 31 = .ok (.iconst 1, 1) := by decide +kernel
theorem d_M_tower_32 : decode me_M_tower.2.1 32 = .ok (.if_icmp .le 5, 3) := by decide +kernel
theorem d_M_tower_35 : decode me_M_tower.2.1 35 = .ok (.iconst (-1), 1) := by decide +kernel
theorem d_M_tower_36 : decode me_M_tower.2.1 36 = .ok (.ireturn, 1) := by decide +kernel
theorem d_M_tower_37 : decode me_M_tower.2.1 37 = .ok (.aload_n 0, 1) := by decide +kernel
theorem d_M_tower_38 : decode me_M_tower.2.1 38 = .ok (.getfield 106, 3) := by decide +kernel
theorem d_M_tower_41 : decode me_M_tower.2.1 41 = .ok (.bipush 10, 2) := by decide +kernel
theorem d_M_tower_43 : decode me_M_tower.2.1 43 = .ok (.if_icmp .ne 6, 3) := by decide +kernel
theorem d_M_tower_46 : decode me_M_tower.2.1 46 = .ok (.bipush (-3), 2) := by decide +kernel
theorem d_M_tower_48 : decode me_M_tower.2.1 48 = .ok (.ireturn, 1) := by decide +kernel
theorem d_M_tower_49 : decode me_M_tower.2.1 49 = .ok (.aload_n 0, 1) := by decide +kernel
theorem d_M_tower_50 : decode me_M_tower.2.1 50 = .ok (.iload_n 1, 1) := by decide +kernel
theorem d_M_tower_51 : decode me_M_tower.2.1 51 = .ok (.iload_n 2, 1) := by decide +kernel
theorem d_M_tower_52 : decode me_M_tower.2.1 52 = .ok (.sipush 1000, 3) := by decide +kernel
theorem d_M_tower_55 : decode me_M_tower.2.1 55 = .ok (.idiv, 1) := by decide +kernel
theorem d_M_tower_56 : decode me_M_tower.2.1 56 = .ok (.iload_n 2, 1) := by decide +kernel
theorem d_M_tower_57 : decode me_M_tower.2.1 57 = .ok (.bipush 10, 2) := by decide +kernel
theorem d_M_tower_59 : decode me_M_tower.2.1 59 = .ok (.idiv, 1) := by decide +kernel
theorem d_M_tower_60 : decode me_M_tower.2.1 60 = .ok (.bipush 100, 2) := by decide +kernel
theorem d_M_tower_62 : decode me_M_tower.2.1 62 = .ok (.irem, 1) := by decide +kernel
theorem d_M_tower_63 : decode me_M_tower.2.1 63 = .ok (.iload_n 2, 1) := by decide +kernel
theorem d_M_tower_64 : decode me_M_tower.2.1 64 = .ok (.bipush 10, 2) := by decide +kernel
theorem d_M_tower_66 : decode me_M_tower.2.1 66 = .ok (.irem, 1) := by decide +kernel
theorem d_M_tower_67 : decode me_M_tower.2.1 67 = .ok (.invokevirtual 123, 3) := by decide +kernel
theorem d_M_tower_70 : decode me_M_tower.2.1 70 = .ok (.aload_n 0, 1) := by decide +kernel
theorem d_M_tower_71 : decode me_M_tower.2.1 71 = .ok (.getfield 106, 3) := by decide +kernel
theorem d_M_tower_74 : decode me_M_tower.2.1 74 = .ok (.iconst 1, 1) := by decide +kernel
theorem d_M_tower_75 : decode me_M_tower.2.1 75 = .ok (.isub, 1) := by decide +kernel
theorem d_M_tower_76 : decode me_M_tower.2.1 76 = .ok (.ireturn, 1) := by decide +kernel
noncomputable def f_M_tower  (a1 : Int32) (a2 : Int32) (m0 : gk_M) : Option (Int32 × gk_M) :=
  if a2 < 0 then
    some ((-1), m0)
  else
    gk_bi (f_M_mayStand a1.toInt64 (a2 / 1000).toInt64 (gk_rem (a2 / 10) 100).toInt64 m0) fun v2 m1 =>
    if v2 = 0 then
      some ((-1), m1)
    else
      if (gk_rem a2 10) ≤ 1 then
        if ¬ (m1.1 0 6) = 10 then
          gk_bv (f_M_adds a1 (a2 / 1000) (gk_rem (a2 / 10) 100) (gk_rem a2 10) m1) fun m3 =>
          some (((m3.1 0 6) - 1), m3)
        else
          some ((-3), m1)
      else
        some ((-1), m1)

theorem s_M_tower_0 {z : gk_Z} (K : gk_F tm z me_M_tower 3) {r : Int32} {mem2 : gk_M} : ∀ a1 a2 m0, f_M_tower a1 a2 m0 = some (r, mem2) → gk_G tm z me_M_tower (gk_R tm z (some (.int r)) mem2) m0 [(0, .ref 0), (1, .int a1), (2, .int a2)] [] 0 := by
  intro a1 a2 m0  h
  unfold f_M_tower at h
  refine gk_iload_n (pc := 0) K d_M_tower_0 rfl ?_
  refine gk_if_lt (tgt := 35) (pc := 1) K d_M_tower_1 (by decide) h (fun h => ?_) (fun h => ?_)
  · refine gk_iconst (pc := 35) K d_M_tower_35 kc_m1 ?_
    exact gk_iret (pc := 36) K d_M_tower_36 rfl h
  · refine gk_aload_n (pc := 4) K d_M_tower_4 rfl ?_
    refine gk_iload_n (pc := 5) K d_M_tower_5 rfl ?_
    refine gk_i2l (pc := 6) K d_M_tower_6 ?_
    refine gk_iload_n (pc := 7) K d_M_tower_7 rfl ?_
    refine gk_sipush (pc := 8) K d_M_tower_8 ks_1000 ?_
    refine gk_idivc2 (pc := 11) K d_M_tower_11 (by decide) ?_
    refine gk_i2l (pc := 12) K d_M_tower_12 ?_
    refine gk_iload_n (pc := 13) K d_M_tower_13 rfl ?_
    refine gk_bipush (pc := 14) K d_M_tower_14 kb_10 ?_
    refine gk_idivc2 (pc := 16) K d_M_tower_16 (by decide) ?_
    refine gk_bipush (pc := 17) K d_M_tower_17 kb_100 ?_
    refine gk_iremc2 (pc := 19) K d_M_tower_19 (by decide) ?_
    refine gk_i2l (pc := 20) K d_M_tower_20 ?_
    obtain ⟨v2, m1, em1, h⟩ := gk_bi_some h
    refine gk_cVi (As := [.long a1.toInt64, .long (a2 / 1000).toInt64, .long (gk_rem (a2 / 10) 100).toInt64]) (pc := 21) K d_M_tower_21 mv_M_120 mc_M_mayStand rfl tm_0 cl_ok10.1 (s_M_mayStand (gk_FD K)  em1) (by decide) rfl (Nat.le_of_ble_eq_true rfl) ?_
    refine gk_if_eq (tgt := 35) (pc := 24) K d_M_tower_24 (by decide) h (fun h => ?_) (fun h => ?_)
    · refine gk_iconst (pc := 35) K d_M_tower_35 kc_m1 ?_
      exact gk_iret (pc := 36) K d_M_tower_36 rfl h
    · refine gk_iload_n (pc := 27) K d_M_tower_27 rfl ?_
      refine gk_bipush (pc := 28) K d_M_tower_28 kb_10 ?_
      refine gk_iremc2 (pc := 30) K d_M_tower_30 (by decide) ?_
      refine gk_iconst (pc := 31) K d_M_tower_31 kc_1 ?_
      refine gk_ic_le (tgt := 37) (pc := 32) K d_M_tower_32 (by decide) h (fun h => ?_) (fun h => ?_)
      · refine gk_aload_n (pc := 37) K d_M_tower_37 rfl ?_
        refine gk_get (pc := 38) K d_M_tower_38 fl_M_106 tm_0 rfl rfl ?_
        refine gk_bipush (pc := 41) K d_M_tower_41 kb_10 ?_
        refine gk_ic_ne (tgt := 49) (pc := 43) K d_M_tower_43 (by decide) h (fun h => ?_) (fun h => ?_)
        · refine gk_aload_n (pc := 49) K d_M_tower_49 rfl ?_
          refine gk_iload_n (pc := 50) K d_M_tower_50 rfl ?_
          refine gk_iload_n (pc := 51) K d_M_tower_51 rfl ?_
          refine gk_sipush (pc := 52) K d_M_tower_52 ks_1000 ?_
          refine gk_idivc2 (pc := 55) K d_M_tower_55 (by decide) ?_
          refine gk_iload_n (pc := 56) K d_M_tower_56 rfl ?_
          refine gk_bipush (pc := 57) K d_M_tower_57 kb_10 ?_
          refine gk_idivc2 (pc := 59) K d_M_tower_59 (by decide) ?_
          refine gk_bipush (pc := 60) K d_M_tower_60 kb_100 ?_
          refine gk_iremc2 (pc := 62) K d_M_tower_62 (by decide) ?_
          refine gk_iload_n (pc := 63) K d_M_tower_63 rfl ?_
          refine gk_bipush (pc := 64) K d_M_tower_64 kb_10 ?_
          refine gk_iremc2 (pc := 66) K d_M_tower_66 (by decide) ?_
          obtain ⟨m3, em3, h⟩ := gk_bv_some h
          refine gk_cVv (As := [.int a1, .int (a2 / 1000), .int (gk_rem (a2 / 10) 100), .int (gk_rem a2 10)]) (pc := 67) K d_M_tower_67 mv_M_123 mc_M_adds rfl tm_0 cl_ok10.1 (s_M_adds (gk_FD K)  em3) (by decide) rfl (Nat.le_of_ble_eq_true rfl) ?_
          refine gk_aload_n (pc := 70) K d_M_tower_70 rfl ?_
          refine gk_get (pc := 71) K d_M_tower_71 fl_M_106 tm_0 rfl rfl ?_
          refine gk_iconst (pc := 74) K d_M_tower_74 kc_1 ?_
          refine gk_isub (pc := 75) K d_M_tower_75 ?_
          exact gk_iret (pc := 76) K d_M_tower_76 rfl h
        · refine gk_bipush (pc := 46) K d_M_tower_46 kb_m3 ?_
          exact gk_iret (pc := 48) K d_M_tower_48 rfl h
      · refine gk_iconst (pc := 35) K d_M_tower_35 kc_m1 ?_
        exact gk_iret (pc := 36) K d_M_tower_36 rfl h
theorem s_M_tower {l : Launch} {u : gk_U} (hD : gk_D tm u) {a1 : Int32} {a2 : Int32} {m0 mem2 : gk_M} {r : Int32} (h : f_M_tower a1 a2 m0 = some (r, mem2)) : gk_C tm l u me_M_tower 3 [.ref 0, .int a1, .int a2] m0 (some (.int r)) mem2 :=
  gk_enter hD mc_M_tower (Nat.le_of_ble_eq_true rfl) rfl (fun z _ _ K => s_M_tower_0 K _ _ _  h)
theorem d_M_isShelf_0 : decode me_M_isShelf.2.1 0 = .ok (.iload_n 0, 1) := by decide +kernel
theorem d_M_isShelf_1 : decode me_M_isShelf.2.1 1 = .ok (.i2l, 1) := by decide +kernel
theorem d_M_isShelf_2 : decode me_M_isShelf.2.1 2 = .ok (.lconst 0, 1) := by decide +kernel
theorem d_M_isShelf_3 : decode me_M_isShelf.2.1 3 = .ok (.ldc2_w 418, 3) := by decide +kernel
theorem d_M_isShelf_6 : decode me_M_isShelf.2.1 6 = .ok (.invokestatic 102, 3) := by decide +kernel
theorem d_M_isShelf_9 : decode me_M_isShelf.2.1 9 = .ok (.ireturn, 1) := by decide +kernel
noncomputable def f_M_isShelf  (a0 : Int32) (m0 : gk_M) : Option (Int32 × gk_M) :=
  gk_bi (f_M_within a0.toInt64 0 5 m0) fun v2 m1 =>
  gk_zz v2 (some (v2, m1))

theorem s_M_isShelf_0 {z : gk_Z} (K : gk_F tm z me_M_isShelf 2) {r : Int32} {mem2 : gk_M} : ∀ a0 m0, f_M_isShelf a0 m0 = some (r, mem2) → gk_G tm z me_M_isShelf (gk_R tm z (some (.int r)) mem2) m0 [(0, .int a0)] [] 0 := by
  intro a0 m0  h
  unfold f_M_isShelf at h
  refine gk_iload_n (pc := 0) K d_M_isShelf_0 rfl ?_
  refine gk_i2l (pc := 1) K d_M_isShelf_1 ?_
  refine gk_lconst (pc := 2) K d_M_isShelf_2 kl_0 ?_
  refine gk_ldc2 (pc := 3) K d_M_isShelf_3 lc_M_418 ?_
  obtain ⟨v2, m1, em1, h⟩ := gk_bi_some h
  refine gk_cSi (As := [.long a0.toInt64, .long 0, .long 5]) (pc := 6) K d_M_isShelf_6 ms_M_102 mc_M_within rfl (s_M_within (gk_FD K)  em1) (by decide) rfl (Nat.le_of_ble_eq_true rfl) ?_
  exact gk_zret (pc := 9) K d_M_isShelf_9 rfl h
theorem s_M_isShelf {l : Launch} {u : gk_U} (hD : gk_D tm u) {a0 : Int32} {m0 mem2 : gk_M} {r : Int32} (h : f_M_isShelf a0 m0 = some (r, mem2)) : gk_C tm l u me_M_isShelf 2 [.int a0] m0 (some (.int r)) mem2 :=
  gk_enter hD mc_M_isShelf (Nat.le_of_ble_eq_true rfl) rfl (fun z _ _ K => s_M_isShelf_0 K _ _  h)
theorem d_M_towers_0 : decode me_M_towers.2.1 0 = .ok (.iload_n 1, 1) := by decide +kernel
theorem d_M_towers_1 : decode me_M_towers.2.1 1 = .ok (.invokestatic 127, 3) := by decide +kernel
theorem d_M_towers_4 : decode me_M_towers.2.1 4 = .ok (.ifCond .eq 15, 3) := by decide +kernel
theorem d_M_towers_7 : decode me_M_towers.2.1 7 = .ok (.iload_n 3, 1) := by decide +kernel
theorem d_M_towers_8 : decode me_M_towers.2.1 8 = .ok (.i2l, 1) := by decide +kernel
theorem d_M_towers_9 : decode me_M_towers.2.1 9 = .ok (.lconst 1, 1) := by decide +kernel
theorem d_M_towers_10 : decode me_M_towers.2.1 10 = .ok (.ldc2_w 131, 3) := by decide +kernel
theorem d_M_towers_13 : decode me_M_towers.2.1 13 = .ok (.invokestatic 102, 3) := by decide +kernel
theorem d_M_towers_16 : decode me_M_towers.2.1 16 = .ok (.ifCond .ne 5, 3) := by decide +kernel
theorem d_M_towers_19 : decode me_M_towers.2.1 19 = .ok (.iconst (-1), 1) := by decide +kernel
theorem d_M_towers_20 : decode me_M_towers.2.1 20 = .ok (.ireturn, 1) := by decide +kernel
theorem d_M_towers_21 : decode me_M_towers.2.1 21 = .ok (.aload_n 0, 1) := by decide +kernel
theorem d_M_towers_22 : decode me_M_towers.2.1 22 = .ok (.getfield 77, 3) := by decide +kernel
theorem d_M_towers_25 : decode me_M_towers.2.1 25 = .ok (.iload_n 1, 1) := by decide +kernel
theorem d_M_towers_26 : decode me_M_towers.2.1 26 = .ok (.iaload, 1) := by decide +kernel
theorem d_M_towers_27 : decode me_M_towers.2.1 27 = .ok (.ifCond .lt 17, 3) := by decide +kernel
theorem d_M_towers_30 : decode me_M_towers.2.1 30 = .ok (.aload_n 0, 1) := by decide +kernel
theorem d_M_towers_31 : decode me_M_towers.2.1 31 = .ok (.getfield 77, 3) := by decide +kernel
theorem d_M_towers_34 : decode me_M_towers.2.1 34 = .ok (.iload_n 1, 1) := by decide +kernel
theorem d_M_towers_35 : decode me_M_towers.2.1 35 = .ok (.iaload, 1) := by decide +kernel
theorem d_M_towers_36 : decode me_M_towers.2.1 36 = .ok (.bipush 51, 2) := by decide +kernel
theorem d_M_towers_38 : decode me_M_towers.2.1 38 = .ok (.if_icmp .eq 6, 3) := by decide +kernel
theorem d_M_towers_41 : decode me_M_towers.2.1 41 = .ok (.bipush (-12), 2) := by decide +kernel
theorem d_M_towers_43 : decode me_M_towers.2.1 43 = .ok (.ireturn, 1) := by decide +kernel
theorem d_M_towers_44 : decode me_M_towers.2.1 44 = .ok (.iconst 0, 1) := by decide +kernel
theorem d_M_towers_45 : decode me_M_towers.2.1 45 = .ok (.istore 4, 2) := by decide +kernel
theorem d_M_towers_47 : decode me_M_towers.2.1 47 = .ok (.aload_n 0, 1) := by decide +kernel
theorem d_M_towers_48 : decode me_M_towers.2.1 48 = .ok (.getfield 77, 3) := by decide +kernel
theorem d_M_towers_51 : decode me_M_towers.2.1 51 = .ok (.iload_n 1, 1) := by decide +kernel
theorem d_M_towers_52 : decode me_M_towers.2.1 52 = .ok (.iaload, 1) := by decide +kernel
theorem d_M_towers_53 : decode me_M_towers.2.1 53 = .ok (.bipush 51, 2) := by decide +kernel
theorem d_M_towers_55 : decode me_M_towers.2.1 55 = .ok (.if_icmp .ne 11, 3) := by decide +kernel
theorem d_M_towers_58 : decode me_M_towers.2.1 58 = .ok (.iload_n 2, 1) := by decide +kernel
theorem d_M_towers_59 : decode me_M_towers.2.1 59 = .ok (.ifCond .lt 7, 3) := by decide +kernel
theorem d_M_towers_62 : decode me_M_towers.2.1 62 = .ok (.iconst 1, 1) := by decide +kernel
theorem d_M_towers_63 : decode me_M_towers.2.1 63 = .ok (.goto 4, 3) := by decide +kernel
theorem d_M_towers_66 : decode me_M_towers.2.1 66 = .ok (.iconst 0, 1) := by decide +kernel
theorem d_M_towers_67 : decode me_M_towers.2.1 67 = .ok (.istore 5, 2) := by decide +kernel
theorem d_M_towers_69 : decode me_M_towers.2.1 69 = .ok (.iload 5, 2) := by decide +kernel
theorem d_M_towers_71 : decode me_M_towers.2.1 71 = .ok (.ifCond .eq 143, 3) := by decide +kernel
theorem d_M_towers_74 : decode me_M_towers.2.1 74 = .ok (.iload 4, 2) := by decide +kernel
theorem d_M_towers_76 : decode me_M_towers.2.1 76 = .ok (.iload_n 3, 1) := by decide +kernel
theorem d_M_towers_77 : decode me_M_towers.2.1 77 = .ok (.if_icmp .ge 137, 3) := by decide +kernel
theorem d_M_towers_80 : decode me_M_towers.2.1 80 = .ok (.iload_n 2, 1) := by decide +kernel
theorem d_M_towers_81 : decode me_M_towers.2.1 81 = .ok (.aload_n 0, 1) := by decide +kernel
theorem d_M_towers_82 : decode me_M_towers.2.1 82 = .ok (.getfield 80, 3) := by decide +kernel
theorem d_M_towers_85 : decode me_M_towers.2.1 85 = .ok (.iload_n 1, 1) := by decide +kernel
theorem d_M_towers_86 : decode me_M_towers.2.1 86 = .ok (.iaload, 1) := by decide +kernel
theorem d_M_towers_87 : decode me_M_towers.2.1 87 = .ok (.iconst 3, 1) := by decide +kernel
theorem d_M_towers_88 : decode me_M_towers.2.1 88 = .ok (.isub, 1) := by decide +kernel
theorem d_M_towers_89 : decode me_M_towers.2.1 89 = .ok (.iconst 3, 1) := by decide +kernel
theorem d_M_towers_90 : decode me_M_towers.2.1 90 = .ok (.iload 4, 2) := by decide +kernel
theorem d_M_towers_92 : decode me_M_towers.2.1 92 = .ok (.imul, 1) := by decide +kernel
theorem d_M_towers_93 : decode me_M_towers.2.1 93 = .ok (.isub, 1) := by decide +kernel
theorem d_M_towers_94 : decode me_M_towers.2.1 94 = .ok (.if_icmp .gt 16, 3) := by decide +kernel
theorem d_M_towers_97 : decode me_M_towers.2.1 97 = .ok (.aload_n 0, 1) := by decide +kernel
theorem d_M_towers_98 : decode me_M_towers.2.1 98 = .ok (.getfield 106, 3) := by decide +kernel
theorem d_M_towers_101 : decode me_M_towers.2.1 101 = .ok (.bipush 10, 2) := by decide +kernel
theorem d_M_towers_103 : decode me_M_towers.2.1 103 = .ok (.if_icmp .ge 7, 3) := by decide +kernel
theorem d_M_towers_106 : decode me_M_towers.2.1 106 = .ok (.iconst 1, 1) := by decide +kernel
theorem d_M_towers_107 : decode me_M_towers.2.1 107 = .ok (.goto 4, 3) := by decide +kernel
theorem d_M_towers_110 : decode me_M_towers.2.1 110 = .ok (.iconst 0, 1) := by decide +kernel
theorem d_M_towers_111 : decode me_M_towers.2.1 111 = .ok (.istore 5, 2) := by decide +kernel
theorem d_M_towers_113 : decode me_M_towers.2.1 113 = .ok (.bipush 60, 2) := by decide +kernel
theorem d_M_towers_115 : decode me_M_towers.2.1 115 = .ok (.iload_n 1, 1) := by decide +kernel
theorem d_M_towers_116 : decode me_M_towers.2.1 116 = .ok (.imul, 1) := by decide +kernel
theorem d_M_towers_117 : decode me_M_towers.2.1 117 = .ok (.iload_n 2, 1) := by decide +kernel
theorem d_M_towers_118 : decode me_M_towers.2.1 118 = .ok (.iadd, 1) := by decide +kernel
theorem d_M_towers_119 : decode me_M_towers.2.1 119 = .ok (.iconst 3, 1) := by decide +kernel
theorem d_M_towers_120 : decode me_M_towers.2.1 120 = .ok (.iload 4, 2) := by decide +kernel
theorem d_M_towers_122 : decode me_M_towers.2.1 122 = .ok (.imul, 1) := by decide +kernel
theorem d_M_towers_123 : decode me_M_towers.2.1 123 = .ok (.iadd, 1) := by decide +kernel
theorem d_M_towers_124 : decode me_M_towers.2.1 124 = .ok (.istore 6, 2) := by decide +kernel
theorem d_M_towers_126 : decode me_M_towers.2.1 126 = .ok (.iload 5, 2) := by decide +kernel
theorem d_M_towers_128 : decode me_M_towers.2.1 128 = .ok (.ifCond .eq 39, 3) := by decide +kernel
theorem d_M_towers_131 : decode me_M_towers.2.1 131 = .ok (.aload_n 0, 1) := by decide +kernel
theorem d_M_towers_132 : decode me_M_towers.2.1 132 = .ok (.aload_n 0, 1) := by decide +kernel
theorem d_M_towers_133 : decode me_M_towers.2.1 133 = .ok (.getfield 83, 3) := by decide +kernel
theorem d_M_towers_136 : decode me_M_towers.2.1 136 = .ok (.iload 6, 2) := by decide +kernel
theorem d_M_towers_138 : decode me_M_towers.2.1 138 = .ok (.laload, 1) := by decide +kernel
theorem d_M_towers_139 : decode me_M_towers.2.1 139 = .ok (.aload_n 0, 1) := by decide +kernel
theorem d_M_towers_140 : decode me_M_towers.2.1 140 = .ok (.getfield 83, 3) := by decide +kernel
theorem d_M_towers_143 : decode me_M_towers.2.1 143 = .ok (.iload 6, 2) := by decide +kernel
theorem d_M_towers_145 : decode me_M_towers.2.1 145 = .ok (.iconst 1, 1) := by decide +kernel
theorem d_M_towers_146 : decode me_M_towers.2.1 146 = .ok (.iadd, 1) := by decide +kernel
theorem d_M_towers_147 : decode me_M_towers.2.1 147 = .ok (.laload, 1) := by decide +kernel
theorem d_M_towers_148 : decode me_M_towers.2.1 148 = .ok (.aload_n 0, 1) := by decide +kernel
theorem d_M_towers_149 : decode me_M_towers.2.1 149 = .ok (.getfield 83, 3) := by decide +kernel
theorem d_M_towers_152 : decode me_M_towers.2.1 152 = .ok (.iload 6, 2) := by decide +kernel
theorem d_M_towers_154 : decode me_M_towers.2.1 154 = .ok (.iconst 2, 1) := by decide +kernel
theorem d_M_towers_155 : decode me_M_towers.2.1 155 = .ok (.iadd, 1) := by decide +kernel
theorem d_M_towers_156 : decode me_M_towers.2.1 156 = .ok (.laload, 1) := by decide +kernel
theorem d_M_towers_157 : decode me_M_towers.2.1 157 = .ok (.invokevirtual 120, 3) := by decide +kernel
theorem d_M_towers_160 : decode me_M_towers.2.1 160 = .ok (.ifCond .eq 7, 3) := by decide +kernel
theorem d_M_towers_163 : decode me_M_towers.2.1 163 = .ok (.iconst 1, 1) := by decide +kernel
theorem d_M_towers_164 : decode me_M_towers.2.1 164 = .ok (.goto 4, 3) := by decide +kernel
theorem d_M_towers_167 : decode me_M_towers.2.1 167 = .ok (.iconst 0, 1) := by decide +kernel
theorem d_M_towers_168 : decode me_M_towers.2.1 168 = .ok (.istore 5, 2) := by decide +kernel
theorem d_M_towers_170 : decode me_M_towers.2.1 170 = .ok (.iload 5, 2) := by decide +kernel
theorem d_M_towers_172 : decode me_M_towers.2.1 172 = .ok (.ifCond .eq 39, 3) := by decide +kernel
theorem d_M_towers_175 : decode me_M_towers.2.1 175 = .ok (.aload_n 0, 1) := by decide +kernel
theorem d_M_towers_176 : decode me_M_towers.2.1 176 = .ok (.aload_n 0, 1) := by decide +kernel
theorem d_M_towers_177 : decode me_M_towers.2.1 177 = .ok (.getfield 83, 3) := by decide +kernel
theorem d_M_towers_180 : decode me_M_towers.2.1 180 = .ok (.iload 6, 2) := by decide +kernel
theorem d_M_towers_182 : decode me_M_towers.2.1 182 = .ok (.laload, 1) := by decide +kernel
theorem d_M_towers_183 : decode me_M_towers.2.1 183 = .ok (.l2i, 1) := by decide +kernel
theorem d_M_towers_184 : decode me_M_towers.2.1 184 = .ok (.aload_n 0, 1) := by decide +kernel
theorem d_M_towers_185 : decode me_M_towers.2.1 185 = .ok (.getfield 83, 3) := by decide +kernel
theorem d_M_towers_188 : decode me_M_towers.2.1 188 = .ok (.iload 6, 2) := by decide +kernel
theorem d_M_towers_190 : decode me_M_towers.2.1 190 = .ok (.iconst 1, 1) := by decide +kernel
theorem d_M_towers_191 : decode me_M_towers.2.1 191 = .ok (.iadd, 1) := by decide +kernel
theorem d_M_towers_192 : decode me_M_towers.2.1 192 = .ok (.laload, 1) := by decide +kernel
theorem d_M_towers_193 : decode me_M_towers.2.1 193 = .ok (.l2i, 1) := by decide +kernel
theorem d_M_towers_194 : decode me_M_towers.2.1 194 = .ok (.aload_n 0, 1) := by decide +kernel
theorem d_M_towers_195 : decode me_M_towers.2.1 195 = .ok (.getfield 83, 3) := by decide +kernel
theorem d_M_towers_198 : decode me_M_towers.2.1 198 = .ok (.iload 6, 2) := by decide +kernel
theorem d_M_towers_200 : decode me_M_towers.2.1 200 = .ok (.iconst 2, 1) := by decide +kernel
theorem d_M_towers_201 : decode me_M_towers.2.1 201 = .ok (.iadd, 1) := by decide +kernel
theorem d_M_towers_202 : decode me_M_towers.2.1 202 = .ok (.laload, 1) := by decide +kernel
theorem d_M_towers_203 : decode me_M_towers.2.1 203 = .ok (.l2i, 1) := by decide +kernel
theorem d_M_towers_204 : decode me_M_towers.2.1 204 = .ok (.iconst 0, 1) := by decide +kernel
theorem d_M_towers_205 : decode me_M_towers.2.1 205 = .ok (.invokevirtual 123, 3) := by decide +kernel
theorem d_M_towers_208 : decode me_M_towers.2.1 208 = .ok (.iinc 4 1, 3) := by decide +kernel
theorem d_M_towers_211 : decode me_M_towers.2.1 211 = .ok (.goto (-142), 3) := by decide +kernel
theorem d_M_towers_214 : decode me_M_towers.2.1 214 = .ok (.iload 4, 2) := by decide +kernel
theorem d_M_towers_216 : decode me_M_towers.2.1 216 = .ok (.ireturn, 1) := by decide +kernel
noncomputable def f_M_towers_168 (k69 : Int32 → Int32 → Int32 → Int32 → Int32 → gk_M → Option (Int32 × gk_M)) (a1 : Int32) (a2 : Int32) (a3 : Int32) (a4 : Int32) (a6 : Int32) (s0 : Int32) (m0 : gk_M) : Option (Int32 × gk_M) :=
  if s0 = 0 then
    k69 a1 a2 a3 a4 s0 m0
  else
    gk_al m0 25 360 a6 fun v1 =>
    gk_al m0 25 360 (a6 + 1) fun v2 =>
    gk_al m0 25 360 (a6 + 2) fun v3 =>
    gk_bv (f_M_adds v1.toInt32 v2.toInt32 v3.toInt32 0 m0) fun m4 =>
    k69 a1 a2 a3 (a4 + 1) s0 m4

theorem s_M_towers_168 {z : gk_Z} (K : gk_F tm z me_M_towers 3) {r : Int32} {mem2 : gk_M} {k69 : Int32 → Int32 → Int32 → Int32 → Int32 → gk_M → Option (Int32 × gk_M)} (hk69 : ∀ a1 a2 a3 a4 a5 m0, k69 a1 a2 a3 a4 a5 m0 = some (r, mem2) → gk_G tm z me_M_towers (gk_R tm z (some (.int r)) mem2) m0 [(0, .ref 0), (1, .int a1), (2, .int a2), (3, .int a3), (4, .int a4), (5, .int a5)] [] 69) : ∀ a1 a2 a3 a4 a6 s0 m0, f_M_towers_168 k69 a1 a2 a3 a4 a6 s0 m0 = some (r, mem2) → gk_G tm z me_M_towers (gk_R tm z (some (.int r)) mem2) m0 [(0, .ref 0), (1, .int a1), (2, .int a2), (3, .int a3), (4, .int a4), (6, .int a6)] [.int s0] 168 := by
  intro a1 a2 a3 a4 a6 s0 m0  h
  unfold f_M_towers_168 at h
  refine gk_istore (lv2 := [(5, .int s0), (0, .ref 0), (1, .int a1), (2, .int a2), (3, .int a3), (4, .int a4), (6, .int a6)]) (pc := 168) K d_M_towers_168 (by decide) rfl ?_
  refine gk_iload (pc := 170) K d_M_towers_170 rfl ?_
  refine gk_if_eq (tgt := 211) (pc := 172) K d_M_towers_172 (by decide) h (fun h => ?_) (fun h => ?_)
  · refine gk_goto (tgt := 69) (pc := 211) K d_M_towers_211 (by decide) ?_
    exact gk_sub [1, 2, 3, 4, 5, 0] rfl (hk69 _ _ _ _ _ _  h)
  · refine gk_aload_n (pc := 175) K d_M_towers_175 rfl ?_
    refine gk_aload_n (pc := 176) K d_M_towers_176 rfl ?_
    refine gk_get (pc := 177) K d_M_towers_177 fl_M_83 tm_0 rfl rfl ?_
    refine gk_iload (pc := 180) K d_M_towers_180 rfl ?_
    refine gk_lald (pc := 182) K d_M_towers_182 tm_25 h (fun v1 h => ?_)
    refine gk_l2i (pc := 183) K d_M_towers_183 ?_
    refine gk_aload_n (pc := 184) K d_M_towers_184 rfl ?_
    refine gk_get (pc := 185) K d_M_towers_185 fl_M_83 tm_0 rfl rfl ?_
    refine gk_iload (pc := 188) K d_M_towers_188 rfl ?_
    refine gk_iconst (pc := 190) K d_M_towers_190 kc_1 ?_
    refine gk_iadd (pc := 191) K d_M_towers_191 ?_
    refine gk_lald (pc := 192) K d_M_towers_192 tm_25 h (fun v2 h => ?_)
    refine gk_l2i (pc := 193) K d_M_towers_193 ?_
    refine gk_aload_n (pc := 194) K d_M_towers_194 rfl ?_
    refine gk_get (pc := 195) K d_M_towers_195 fl_M_83 tm_0 rfl rfl ?_
    refine gk_iload (pc := 198) K d_M_towers_198 rfl ?_
    refine gk_iconst (pc := 200) K d_M_towers_200 kc_2 ?_
    refine gk_iadd (pc := 201) K d_M_towers_201 ?_
    refine gk_lald (pc := 202) K d_M_towers_202 tm_25 h (fun v3 h => ?_)
    refine gk_l2i (pc := 203) K d_M_towers_203 ?_
    refine gk_iconst (pc := 204) K d_M_towers_204 kc_0 ?_
    obtain ⟨m4, em4, h⟩ := gk_bv_some h
    refine gk_cVv (As := [.int v1.toInt32, .int v2.toInt32, .int v3.toInt32, .int 0]) (pc := 205) K d_M_towers_205 mv_M_123 mc_M_adds rfl tm_0 cl_ok10.1 (s_M_adds (gk_FD K)  em4) (by decide) rfl (Nat.le_of_ble_eq_true rfl) ?_
    refine gk_iinc2 (lv2 := [(4, .int (a4 + 1)), (5, .int s0), (0, .ref 0), (1, .int a1), (2, .int a2), (3, .int a3), (6, .int a6)]) (pc := 208) K d_M_towers_208 rfl kc_1 (by decide) rfl ?_
    refine gk_goto (tgt := 69) (pc := 211) K d_M_towers_211 (by decide) ?_
    exact gk_sub [2, 3, 4, 5, 0, 1] rfl (hk69 _ _ _ _ _ _  h)
noncomputable def f_M_towers_167 (k69 : Int32 → Int32 → Int32 → Int32 → Int32 → gk_M → Option (Int32 × gk_M)) (a1 : Int32) (a2 : Int32) (a3 : Int32) (a4 : Int32) (a6 : Int32) (m0 : gk_M) : Option (Int32 × gk_M) :=
  f_M_towers_168 k69 a1 a2 a3 a4 a6 0 m0

theorem s_M_towers_167 {z : gk_Z} (K : gk_F tm z me_M_towers 3) {r : Int32} {mem2 : gk_M} {k69 : Int32 → Int32 → Int32 → Int32 → Int32 → gk_M → Option (Int32 × gk_M)} (hk69 : ∀ a1 a2 a3 a4 a5 m0, k69 a1 a2 a3 a4 a5 m0 = some (r, mem2) → gk_G tm z me_M_towers (gk_R tm z (some (.int r)) mem2) m0 [(0, .ref 0), (1, .int a1), (2, .int a2), (3, .int a3), (4, .int a4), (5, .int a5)] [] 69) : ∀ a1 a2 a3 a4 a6 m0, f_M_towers_167 k69 a1 a2 a3 a4 a6 m0 = some (r, mem2) → gk_G tm z me_M_towers (gk_R tm z (some (.int r)) mem2) m0 [(0, .ref 0), (1, .int a1), (2, .int a2), (3, .int a3), (4, .int a4), (6, .int a6)] [] 167 := by
  intro a1 a2 a3 a4 a6 m0  h
  unfold f_M_towers_167 at h
  refine gk_iconst (pc := 167) K d_M_towers_167 kc_0 ?_
  exact gk_sub [0, 1, 2, 3, 4, 5] rfl (s_M_towers_168 K hk69 _ _ _ _ _ _ _  h)
noncomputable def f_M_towers_111 (k69 : Int32 → Int32 → Int32 → Int32 → Int32 → gk_M → Option (Int32 × gk_M)) (a1 : Int32) (a2 : Int32) (a3 : Int32) (a4 : Int32) (s0 : Int32) (m0 : gk_M) : Option (Int32 × gk_M) :=
  gk_let (((60 * a1) + a2) + (3 * a4)) fun v1 =>
  if s0 = 0 then
    f_M_towers_167 k69 a1 a2 a3 a4 v1 m0
  else
    gk_al m0 25 360 v1 fun v2 =>
    gk_al m0 25 360 (v1 + 1) fun v3 =>
    gk_al m0 25 360 (v1 + 2) fun v4 =>
    gk_bi (f_M_mayStand v2 v3 v4 m0) fun v6 m5 =>
    if v6 = 0 then
      f_M_towers_167 k69 a1 a2 a3 a4 v1 m5
    else
      f_M_towers_168 k69 a1 a2 a3 a4 v1 1 m5

theorem s_M_towers_111 {z : gk_Z} (K : gk_F tm z me_M_towers 3) {r : Int32} {mem2 : gk_M} {k69 : Int32 → Int32 → Int32 → Int32 → Int32 → gk_M → Option (Int32 × gk_M)} (hk69 : ∀ a1 a2 a3 a4 a5 m0, k69 a1 a2 a3 a4 a5 m0 = some (r, mem2) → gk_G tm z me_M_towers (gk_R tm z (some (.int r)) mem2) m0 [(0, .ref 0), (1, .int a1), (2, .int a2), (3, .int a3), (4, .int a4), (5, .int a5)] [] 69) : ∀ a1 a2 a3 a4 s0 m0, f_M_towers_111 k69 a1 a2 a3 a4 s0 m0 = some (r, mem2) → gk_G tm z me_M_towers (gk_R tm z (some (.int r)) mem2) m0 [(0, .ref 0), (1, .int a1), (2, .int a2), (3, .int a3), (4, .int a4)] [.int s0] 111 := by
  intro a1 a2 a3 a4 s0 m0  h
  unfold f_M_towers_111 at h
  refine gk_istore (lv2 := [(5, .int s0), (0, .ref 0), (1, .int a1), (2, .int a2), (3, .int a3), (4, .int a4)]) (pc := 111) K d_M_towers_111 (by decide) rfl ?_
  refine gk_bipush (pc := 113) K d_M_towers_113 kb_60 ?_
  refine gk_iload_n (pc := 115) K d_M_towers_115 rfl ?_
  refine gk_imul (pc := 116) K d_M_towers_116 ?_
  refine gk_iload_n (pc := 117) K d_M_towers_117 rfl ?_
  refine gk_iadd (pc := 118) K d_M_towers_118 ?_
  refine gk_iconst (pc := 119) K d_M_towers_119 kc_3 ?_
  refine gk_iload (pc := 120) K d_M_towers_120 rfl ?_
  refine gk_imul (pc := 122) K d_M_towers_122 ?_
  refine gk_iadd (pc := 123) K d_M_towers_123 ?_
  refine gk_topi h (fun v1 h => ?_)
  refine gk_istore (lv2 := [(6, .int v1), (5, .int s0), (0, .ref 0), (1, .int a1), (2, .int a2), (3, .int a3), (4, .int a4)]) (pc := 124) K d_M_towers_124 (by decide) rfl ?_
  refine gk_iload (pc := 126) K d_M_towers_126 rfl ?_
  refine gk_if_eq (tgt := 167) (pc := 128) K d_M_towers_128 (by decide) h (fun h => ?_) (fun h => ?_)
  · exact gk_sub [2, 3, 4, 5, 6, 0] rfl (s_M_towers_167 K hk69 _ _ _ _ _ _  h)
  · refine gk_aload_n (pc := 131) K d_M_towers_131 rfl ?_
    refine gk_aload_n (pc := 132) K d_M_towers_132 rfl ?_
    refine gk_get (pc := 133) K d_M_towers_133 fl_M_83 tm_0 rfl rfl ?_
    refine gk_iload (pc := 136) K d_M_towers_136 rfl ?_
    refine gk_lald (pc := 138) K d_M_towers_138 tm_25 h (fun v2 h => ?_)
    refine gk_aload_n (pc := 139) K d_M_towers_139 rfl ?_
    refine gk_get (pc := 140) K d_M_towers_140 fl_M_83 tm_0 rfl rfl ?_
    refine gk_iload (pc := 143) K d_M_towers_143 rfl ?_
    refine gk_iconst (pc := 145) K d_M_towers_145 kc_1 ?_
    refine gk_iadd (pc := 146) K d_M_towers_146 ?_
    refine gk_lald (pc := 147) K d_M_towers_147 tm_25 h (fun v3 h => ?_)
    refine gk_aload_n (pc := 148) K d_M_towers_148 rfl ?_
    refine gk_get (pc := 149) K d_M_towers_149 fl_M_83 tm_0 rfl rfl ?_
    refine gk_iload (pc := 152) K d_M_towers_152 rfl ?_
    refine gk_iconst (pc := 154) K d_M_towers_154 kc_2 ?_
    refine gk_iadd (pc := 155) K d_M_towers_155 ?_
    refine gk_lald (pc := 156) K d_M_towers_156 tm_25 h (fun v4 h => ?_)
    obtain ⟨v6, m5, em5, h⟩ := gk_bi_some h
    refine gk_cVi (As := [.long v2, .long v3, .long v4]) (pc := 157) K d_M_towers_157 mv_M_120 mc_M_mayStand rfl tm_0 cl_ok10.1 (s_M_mayStand (gk_FD K)  em5) (by decide) rfl (Nat.le_of_ble_eq_true rfl) ?_
    refine gk_if_eq (tgt := 167) (pc := 160) K d_M_towers_160 (by decide) h (fun h => ?_) (fun h => ?_)
    · exact gk_sub [2, 3, 4, 5, 6, 0] rfl (s_M_towers_167 K hk69 _ _ _ _ _ _  h)
    · refine gk_iconst (pc := 163) K d_M_towers_163 kc_1 ?_
      refine gk_goto (tgt := 168) (pc := 164) K d_M_towers_164 (by decide) ?_
      exact gk_sub [2, 3, 4, 5, 6, 0] rfl (s_M_towers_168 K hk69 _ _ _ _ _ _ _  h)
noncomputable def f_M_towers_110 (k69 : Int32 → Int32 → Int32 → Int32 → Int32 → gk_M → Option (Int32 × gk_M)) (a1 : Int32) (a2 : Int32) (a3 : Int32) (a4 : Int32) (m0 : gk_M) : Option (Int32 × gk_M) :=
  f_M_towers_111 k69 a1 a2 a3 a4 0 m0

theorem s_M_towers_110 {z : gk_Z} (K : gk_F tm z me_M_towers 3) {r : Int32} {mem2 : gk_M} {k69 : Int32 → Int32 → Int32 → Int32 → Int32 → gk_M → Option (Int32 × gk_M)} (hk69 : ∀ a1 a2 a3 a4 a5 m0, k69 a1 a2 a3 a4 a5 m0 = some (r, mem2) → gk_G tm z me_M_towers (gk_R tm z (some (.int r)) mem2) m0 [(0, .ref 0), (1, .int a1), (2, .int a2), (3, .int a3), (4, .int a4), (5, .int a5)] [] 69) : ∀ a1 a2 a3 a4 m0, f_M_towers_110 k69 a1 a2 a3 a4 m0 = some (r, mem2) → gk_G tm z me_M_towers (gk_R tm z (some (.int r)) mem2) m0 [(0, .ref 0), (1, .int a1), (2, .int a2), (3, .int a3), (4, .int a4)] [] 110 := by
  intro a1 a2 a3 a4 m0  h
  unfold f_M_towers_110 at h
  refine gk_iconst (pc := 110) K d_M_towers_110 kc_0 ?_
  exact gk_sub [0, 1, 2, 3, 4] rfl (s_M_towers_111 K hk69 _ _ _ _ _ _  h)
noncomputable def f_M_towers_69  : Nat → Int32 → Int32 → Int32 → Int32 → Int32 → gk_M → Option (Int32 × gk_M)
  | 0, _, _, _, _, _, _ => none
  | n + 1, a1, a2, a3, a4, a5, m0 =>
    if a5 = 0 then
      some (a4, m0)
    else
      if a3 ≤ a4 then
        some (a4, m0)
      else
        gk_ai m0 24 6 a1 fun v1 =>
        if ((v1 - 3) - (3 * a4)) < a2 then
          f_M_towers_110 (f_M_towers_69 n) a1 a2 a3 a4 m0
        else
          if 10 ≤ (m0.1 0 6) then
            f_M_towers_110 (f_M_towers_69 n) a1 a2 a3 a4 m0
          else
            f_M_towers_111 (f_M_towers_69 n) a1 a2 a3 a4 1 m0

theorem s_M_towers_69 {z : gk_Z} (K : gk_F tm z me_M_towers 3) {r : Int32} {mem2 : gk_M} : ∀ n a1 a2 a3 a4 a5 m0, f_M_towers_69 n a1 a2 a3 a4 a5 m0 = some (r, mem2) → gk_G tm z me_M_towers (gk_R tm z (some (.int r)) mem2) m0 [(0, .ref 0), (1, .int a1), (2, .int a2), (3, .int a3), (4, .int a4), (5, .int a5)] [] 69 := by
  intro n
  induction n with
  | zero => intro a1 a2 a3 a4 a5 m0  h; exact nomatch (show (none : Option _) = some _ from h)
  | succ n ih =>
    intro a1 a2 a3 a4 a5 m0  h
    unfold f_M_towers_69 at h
    refine gk_iload (pc := 69) K d_M_towers_69 rfl ?_
    refine gk_if_eq (tgt := 214) (pc := 71) K d_M_towers_71 (by decide) h (fun h => ?_) (fun h => ?_)
    · refine gk_iload (pc := 214) K d_M_towers_214 rfl ?_
      exact gk_iret (pc := 216) K d_M_towers_216 rfl h
    · refine gk_iload (pc := 74) K d_M_towers_74 rfl ?_
      refine gk_iload_n (pc := 76) K d_M_towers_76 rfl ?_
      refine gk_ic_ge (tgt := 214) (pc := 77) K d_M_towers_77 (by decide) h (fun h => ?_) (fun h => ?_)
      · refine gk_iload (pc := 214) K d_M_towers_214 rfl ?_
        exact gk_iret (pc := 216) K d_M_towers_216 rfl h
      · refine gk_iload_n (pc := 80) K d_M_towers_80 rfl ?_
        refine gk_aload_n (pc := 81) K d_M_towers_81 rfl ?_
        refine gk_get (pc := 82) K d_M_towers_82 fl_M_80 tm_0 rfl rfl ?_
        refine gk_iload_n (pc := 85) K d_M_towers_85 rfl ?_
        refine gk_iald (pc := 86) K d_M_towers_86 tm_24 h (fun v1 h => ?_)
        refine gk_iconst (pc := 87) K d_M_towers_87 kc_3 ?_
        refine gk_isub (pc := 88) K d_M_towers_88 ?_
        refine gk_iconst (pc := 89) K d_M_towers_89 kc_3 ?_
        refine gk_iload (pc := 90) K d_M_towers_90 rfl ?_
        refine gk_imul (pc := 92) K d_M_towers_92 ?_
        refine gk_isub (pc := 93) K d_M_towers_93 ?_
        refine gk_ic_gt (tgt := 110) (pc := 94) K d_M_towers_94 (by decide) h (fun h => ?_) (fun h => ?_)
        · exact gk_sub [0, 1, 2, 3, 4] rfl (s_M_towers_110 K (fun x0 x1 x2 x3 x4 m  h => ih x0 x1 x2 x3 x4 m  h) _ _ _ _ _  h)
        · refine gk_aload_n (pc := 97) K d_M_towers_97 rfl ?_
          refine gk_get (pc := 98) K d_M_towers_98 fl_M_106 tm_0 rfl rfl ?_
          refine gk_bipush (pc := 101) K d_M_towers_101 kb_10 ?_
          refine gk_ic_ge (tgt := 110) (pc := 103) K d_M_towers_103 (by decide) h (fun h => ?_) (fun h => ?_)
          · exact gk_sub [0, 1, 2, 3, 4] rfl (s_M_towers_110 K (fun x0 x1 x2 x3 x4 m  h => ih x0 x1 x2 x3 x4 m  h) _ _ _ _ _  h)
          · refine gk_iconst (pc := 106) K d_M_towers_106 kc_1 ?_
            refine gk_goto (tgt := 111) (pc := 107) K d_M_towers_107 (by decide) ?_
            exact gk_sub [0, 1, 2, 3, 4] rfl (s_M_towers_111 K (fun x0 x1 x2 x3 x4 m  h => ih x0 x1 x2 x3 x4 m  h) _ _ _ _ _ _  h)
noncomputable def f_M_towers_67  (a1 : Int32) (a2 : Int32) (a3 : Int32) (a4 : Int32) (s0 : Int32) (m0 : gk_M) : Option (Int32 × gk_M) :=
  f_M_towers_69 gk_fv a1 a2 a3 a4 s0 m0

theorem s_M_towers_67 {z : gk_Z} (K : gk_F tm z me_M_towers 3) {r : Int32} {mem2 : gk_M} : ∀ a1 a2 a3 a4 s0 m0, f_M_towers_67 a1 a2 a3 a4 s0 m0 = some (r, mem2) → gk_G tm z me_M_towers (gk_R tm z (some (.int r)) mem2) m0 [(0, .ref 0), (1, .int a1), (2, .int a2), (3, .int a3), (4, .int a4)] [.int s0] 67 := by
  intro a1 a2 a3 a4 s0 m0  h
  unfold f_M_towers_67 at h
  refine gk_istore (lv2 := [(5, .int s0), (0, .ref 0), (1, .int a1), (2, .int a2), (3, .int a3), (4, .int a4)]) (pc := 67) K d_M_towers_67 (by decide) rfl ?_
  exact gk_sub [1, 2, 3, 4, 5, 0] rfl (s_M_towers_69 K _ _ _ _ _ _ _  h)
noncomputable def f_M_towers_66  (a1 : Int32) (a2 : Int32) (a3 : Int32) (a4 : Int32) (m0 : gk_M) : Option (Int32 × gk_M) :=
  f_M_towers_67 a1 a2 a3 a4 0 m0

theorem s_M_towers_66 {z : gk_Z} (K : gk_F tm z me_M_towers 3) {r : Int32} {mem2 : gk_M} : ∀ a1 a2 a3 a4 m0, f_M_towers_66 a1 a2 a3 a4 m0 = some (r, mem2) → gk_G tm z me_M_towers (gk_R tm z (some (.int r)) mem2) m0 [(0, .ref 0), (1, .int a1), (2, .int a2), (3, .int a3), (4, .int a4)] [] 66 := by
  intro a1 a2 a3 a4 m0  h
  unfold f_M_towers_66 at h
  refine gk_iconst (pc := 66) K d_M_towers_66 kc_0 ?_
  exact gk_sub [0, 1, 2, 3, 4] rfl (s_M_towers_67 K _ _ _ _ _ _  h)
noncomputable def f_M_towers_44  (a1 : Int32) (a2 : Int32) (a3 : Int32) (m0 : gk_M) : Option (Int32 × gk_M) :=
  gk_ai m0 23 6 a1 fun v1 =>
  if ¬ v1 = 51 then
    f_M_towers_66 a1 a2 a3 0 m0
  else
    if a2 < 0 then
      f_M_towers_66 a1 a2 a3 0 m0
    else
      f_M_towers_67 a1 a2 a3 0 1 m0

theorem s_M_towers_44 {z : gk_Z} (K : gk_F tm z me_M_towers 3) {r : Int32} {mem2 : gk_M} : ∀ a1 a2 a3 m0, f_M_towers_44 a1 a2 a3 m0 = some (r, mem2) → gk_G tm z me_M_towers (gk_R tm z (some (.int r)) mem2) m0 [(0, .ref 0), (1, .int a1), (2, .int a2), (3, .int a3)] [] 44 := by
  intro a1 a2 a3 m0  h
  unfold f_M_towers_44 at h
  refine gk_iconst (pc := 44) K d_M_towers_44 kc_0 ?_
  refine gk_istore (lv2 := [(4, .int 0), (0, .ref 0), (1, .int a1), (2, .int a2), (3, .int a3)]) (pc := 45) K d_M_towers_45 (by decide) rfl ?_
  refine gk_aload_n (pc := 47) K d_M_towers_47 rfl ?_
  refine gk_get (pc := 48) K d_M_towers_48 fl_M_77 tm_0 rfl rfl ?_
  refine gk_iload_n (pc := 51) K d_M_towers_51 rfl ?_
  refine gk_iald (pc := 52) K d_M_towers_52 tm_23 h (fun v1 h => ?_)
  refine gk_bipush (pc := 53) K d_M_towers_53 kb_51 ?_
  refine gk_ic_ne (tgt := 66) (pc := 55) K d_M_towers_55 (by decide) h (fun h => ?_) (fun h => ?_)
  · exact gk_sub [1, 2, 3, 4, 0] rfl (s_M_towers_66 K _ _ _ _ _  h)
  · refine gk_iload_n (pc := 58) K d_M_towers_58 rfl ?_
    refine gk_if_lt (tgt := 66) (pc := 59) K d_M_towers_59 (by decide) h (fun h => ?_) (fun h => ?_)
    · exact gk_sub [1, 2, 3, 4, 0] rfl (s_M_towers_66 K _ _ _ _ _  h)
    · refine gk_iconst (pc := 62) K d_M_towers_62 kc_1 ?_
      refine gk_goto (tgt := 67) (pc := 63) K d_M_towers_63 (by decide) ?_
      exact gk_sub [1, 2, 3, 4, 0] rfl (s_M_towers_67 K _ _ _ _ _ _  h)
noncomputable def f_M_towers  (a1 : Int32) (a2 : Int32) (a3 : Int32) (m0 : gk_M) : Option (Int32 × gk_M) :=
  gk_bi (f_M_isShelf a1 m0) fun v2 m1 =>
  if v2 = 0 then
    some ((-1), m1)
  else
    gk_bi (f_M_within a3.toInt64 1 10 m1) fun v4 m3 =>
    if ¬ v4 = 0 then
      gk_ai m3 23 6 a1 fun v5 =>
      if v5 < 0 then
        f_M_towers_44 a1 a2 a3 m3
      else
        gk_ai m3 23 6 a1 fun v6 =>
        if v6 = 51 then
          f_M_towers_44 a1 a2 a3 m3
        else
          some ((-12), m3)
    else
      some ((-1), m3)

theorem s_M_towers_0 {z : gk_Z} (K : gk_F tm z me_M_towers 3) {r : Int32} {mem2 : gk_M} : ∀ a1 a2 a3 m0, f_M_towers a1 a2 a3 m0 = some (r, mem2) → gk_G tm z me_M_towers (gk_R tm z (some (.int r)) mem2) m0 [(0, .ref 0), (1, .int a1), (2, .int a2), (3, .int a3)] [] 0 := by
  intro a1 a2 a3 m0  h
  unfold f_M_towers at h
  refine gk_iload_n (pc := 0) K d_M_towers_0 rfl ?_
  obtain ⟨v2, m1, em1, h⟩ := gk_bi_some h
  refine gk_cSi (As := [.int a1]) (pc := 1) K d_M_towers_1 ms_M_127 mc_M_isShelf rfl (s_M_isShelf (gk_FD K)  em1) (by decide) rfl (Nat.le_of_ble_eq_true rfl) ?_
  refine gk_if_eq (tgt := 19) (pc := 4) K d_M_towers_4 (by decide) h (fun h => ?_) (fun h => ?_)
  · refine gk_iconst (pc := 19) K d_M_towers_19 kc_m1 ?_
    exact gk_iret (pc := 20) K d_M_towers_20 rfl h
  · refine gk_iload_n (pc := 7) K d_M_towers_7 rfl ?_
    refine gk_i2l (pc := 8) K d_M_towers_8 ?_
    refine gk_lconst (pc := 9) K d_M_towers_9 kl_1 ?_
    refine gk_ldc2 (pc := 10) K d_M_towers_10 lc_M_131 ?_
    obtain ⟨v4, m3, em3, h⟩ := gk_bi_some h
    refine gk_cSi (As := [.long a3.toInt64, .long 1, .long 10]) (pc := 13) K d_M_towers_13 ms_M_102 mc_M_within rfl (s_M_within (gk_FD K)  em3) (by decide) rfl (Nat.le_of_ble_eq_true rfl) ?_
    refine gk_if_ne (tgt := 21) (pc := 16) K d_M_towers_16 (by decide) h (fun h => ?_) (fun h => ?_)
    · refine gk_aload_n (pc := 21) K d_M_towers_21 rfl ?_
      refine gk_get (pc := 22) K d_M_towers_22 fl_M_77 tm_0 rfl rfl ?_
      refine gk_iload_n (pc := 25) K d_M_towers_25 rfl ?_
      refine gk_iald (pc := 26) K d_M_towers_26 tm_23 h (fun v5 h => ?_)
      refine gk_if_lt (tgt := 44) (pc := 27) K d_M_towers_27 (by decide) h (fun h => ?_) (fun h => ?_)
      · exact gk_sub [0, 1, 2, 3] rfl (s_M_towers_44 K _ _ _ _  h)
      · refine gk_aload_n (pc := 30) K d_M_towers_30 rfl ?_
        refine gk_get (pc := 31) K d_M_towers_31 fl_M_77 tm_0 rfl rfl ?_
        refine gk_iload_n (pc := 34) K d_M_towers_34 rfl ?_
        refine gk_iald (pc := 35) K d_M_towers_35 tm_23 h (fun v6 h => ?_)
        refine gk_bipush (pc := 36) K d_M_towers_36 kb_51 ?_
        refine gk_ic_eq (tgt := 44) (pc := 38) K d_M_towers_38 (by decide) h (fun h => ?_) (fun h => ?_)
        · exact gk_sub [0, 1, 2, 3] rfl (s_M_towers_44 K _ _ _ _  h)
        · refine gk_bipush (pc := 41) K d_M_towers_41 kb_m12 ?_
          exact gk_iret (pc := 43) K d_M_towers_43 rfl h
    · refine gk_iconst (pc := 19) K d_M_towers_19 kc_m1 ?_
      exact gk_iret (pc := 20) K d_M_towers_20 rfl h
theorem s_M_towers {l : Launch} {u : gk_U} (hD : gk_D tm u) {a1 : Int32} {a2 : Int32} {a3 : Int32} {m0 mem2 : gk_M} {r : Int32} (h : f_M_towers a1 a2 a3 m0 = some (r, mem2)) : gk_C tm l u me_M_towers 3 [.ref 0, .int a1, .int a2, .int a3] m0 (some (.int r)) mem2 :=
  gk_enter hD mc_M_towers (Nat.le_of_ble_eq_true rfl) rfl (fun z _ _ K => s_M_towers_0 K _ _ _ _  h)
