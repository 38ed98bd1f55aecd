theorem d_M_seesNone_0 : decode me_M_seesNone.2.1 0 = .ok (.aload_n 0, 1) := by decide +kernel
theorem d_M_seesNone_1 : decode me_M_seesNone.2.1 1 = .ok (.iload_n 1, 1) := by decide +kernel
theorem d_M_seesNone_2 : decode me_M_seesNone.2.1 2 = .ok (.aload_n 0, 1) := by decide +kernel
theorem d_M_seesNone_3 : decode me_M_seesNone.2.1 3 = .ok (.getfield 106, 3) := by decide +kernel
theorem d_M_seesNone_6 : decode me_M_seesNone.2.1 6 = .ok (.invokevirtual 116, 3) := by decide +kernel
theorem d_M_seesNone_9 : decode me_M_seesNone.2.1 9 = .ok (.ifCond .ne 5, 3) := by decide +kernel
theorem d_M_seesNone_12 : decode me_M_seesNone.2.1 12 = .ok (.iconst 0, 1) := by decide +kernel
theorem d_M_seesNone_13 : decode me_M_seesNone.2.1 13 = .ok (.ireturn, 1) := by decide +kernel
theorem d_M_seesNone_14 : decode me_M_seesNone.2.1 14 = .ok (.iconst 0, 1) := by decide +kernel
theorem d_M_seesNone_15 : decode me_M_seesNone.2.1 15 = .ok (.istore_n 2, 1) := by decide +kernel
theorem d_M_seesNone_16 : decode me_M_seesNone.2.1 16 = .ok (.iload_n 2, 1) := by decide +kernel
theorem d_M_seesNone_17 : decode me_M_seesNone.2.1 17 = .ok (.aload_n 0, 1) := by decide +kernel
theorem d_M_seesNone_18 : decode me_M_seesNone.2.1 18 = .ok (.getfield 106, 3) := by decide +kernel
theorem d_M_seesNone_21 : decode me_M_seesNone.2.1 21 = .ok (.if_icmp .ge 40, 3) := by decide +kernel
theorem d_M_seesNone_24 : decode me_M_seesNone.2.1 24 = .ok (.iload_n 2, 1) := by decide +kernel
theorem d_M_seesNone_25 : decode me_M_seesNone.2.1 25 = .ok (.iconst 1, 1) := by decide +kernel
theorem d_M_seesNone_26 : decode me_M_seesNone.2.1 26 = .ok (.iadd, 1) := by decide +kernel
theorem d_M_seesNone_27 : decode me_M_seesNone.2.1 27 = .ok (.istore_n 3, 1) := by decide +kernel
theorem d_M_seesNone_28 : decode me_M_seesNone.2.1 28 = .ok (.iload_n 3, 1) := by decide +kernel
theorem d_M_seesNone_29 : decode me_M_seesNone.2.1 29 = .ok (.aload_n 0, 1) := by decide +kernel
theorem d_M_seesNone_30 : decode me_M_seesNone.2.1 30 = .ok (.getfield 106, 3) := by decide +kernel
theorem d_M_seesNone_33 : decode me_M_seesNone.2.1 33 = .ok (.if_icmp .ge 22, 3) := by decide +kernel
theorem d_M_seesNone_36 : decode me_M_seesNone.2.1 36 = .ok (.aload_n 0, 1) := by decide +kernel
theorem d_M_seesNone_37 : decode me_M_seesNone.2.1 37 = .ok (.iload_n 1, 1) := by decide +kernel
theorem d_M_seesNone_38 : decode me_M_seesNone.2.1 38 = .ok (.iload_n 2, 1) := by decide +kernel
theorem d_M_seesNone_39 : decode me_M_seesNone.2.1 39 = .ok (.iload_n 3, 1) := by decide +kernel
theorem d_M_seesNone_40 : decode me_M_seesNone.2.1 40 = .ok (.iconst 4, 1) := by decide +kernel
theorem d_M_seesNone_41 : decode me_M_seesNone.2.1 41 = .ok (.invokevirtual 260, 3) := by decide +kernel
theorem d_M_seesNone_44 : decode me_M_seesNone.2.1 44 = .ok (.ifCond .eq 5, 3) := by decide +kernel
theorem d_M_seesNone_47 : decode me_M_seesNone.2.1 47 = .ok (.iconst 0, 1) := by decide +kernel
theorem d_M_seesNone_48 : decode me_M_seesNone.2.1 48 = .ok (.ireturn, 1) := by decide +kernel
theorem d_M_seesNone_49 : decode me_M_seesNone.2.1 49 = .ok (.iinc 3 1, 3) := by decide +kernel
theorem d_M_seesNone_52 : decode me_M_seesNone.2.1 52 = .ok (.goto (-24), 3) := by decide +kernel
theorem d_M_seesNone_55 : decode me_M_seesNone.2.1 55 = .ok (.iinc 2 1, 3) := by decide +kernel
theorem d_M_seesNone_58 : decode me_M_seesNone.2.1 58 = .ok (.goto (-42), 3) := by decide +kernel
theorem d_M_seesNone_61 : decode me_M_seesNone.2.1 61 = .ok (.iconst 1, 1) := by decide +kernel
theorem d_M_seesNone_62 : decode me_M_seesNone.2.1 62 = .ok (.ireturn, 1) := by decide +kernel
noncomputable def f_M_seesNone_28 (k16 : Int32 → Int32 → gk_M → Option (Int32 × gk_M)) : Nat → Int32 → Int32 → Int32 → gk_M → Option (Int32 × gk_M)
  | 0, _, _, _, _ => none
  | n + 1, a1, a2, a3, m0 =>
    if (m0.1 0 6) ≤ a3 then
      k16 a1 (a2 + 1) m0
    else
      gk_bi (f_M_inLineAt a1 a2 a3 4 m0) fun v2 m1 =>
      if v2 = 0 then
        f_M_seesNone_28 k16 n a1 a2 (a3 + 1) m1
      else
        some (0, m1)

theorem s_M_seesNone_28 {z : gk_Z} (K : gk_F tm z me_M_seesNone 68) {r : Int32} {mem2 : gk_M} {k16 : Int32 → Int32 → gk_M → Option (Int32 × gk_M)} (hk16 : ∀ a1 a2 m0, k16 a1 a2 m0 = some (r, mem2) → gk_G tm z me_M_seesNone (gk_R tm z (some (.int r)) mem2) m0 [(0, .ref 0), (1, .int a1), (2, .int a2)] [] 16) : ∀ n a1 a2 a3 m0, f_M_seesNone_28 k16 n a1 a2 a3 m0 = some (r, mem2) → gk_G tm z me_M_seesNone (gk_R tm z (some (.int r)) mem2) m0 [(0, .ref 0), (1, .int a1), (2, .int a2), (3, .int a3)] [] 28 := by
  intro n
  induction n with
  | zero => intro a1 a2 a3 m0  h; exact nomatch (show (none : Option _) = some _ from h)
  | succ n ih =>
    intro a1 a2 a3 m0  h
    unfold f_M_seesNone_28 at h
    refine gk_iload_n (pc := 28) K d_M_seesNone_28 rfl ?_
    refine gk_aload_n (pc := 29) K d_M_seesNone_29 rfl ?_
    refine gk_get (pc := 30) K d_M_seesNone_30 fl_M_106 tm_0 rfl rfl ?_
    refine gk_ic_ge (tgt := 55) (pc := 33) K d_M_seesNone_33 (by decide) h (fun h => ?_) (fun h => ?_)
    · refine gk_iinc2 (lv2 := [(2, .int (a2 + 1)), (0, .ref 0), (1, .int a1), (3, .int a3)]) (pc := 55) K d_M_seesNone_55 rfl kc_1 (by decide) rfl ?_
      refine gk_goto (tgt := 16) (pc := 58) K d_M_seesNone_58 (by decide) ?_
      exact gk_sub [1, 2, 0] rfl (hk16 _ _ _  h)
    · refine gk_aload_n (pc := 36) K d_M_seesNone_36 rfl ?_
      refine gk_iload_n (pc := 37) K d_M_seesNone_37 rfl ?_
      refine gk_iload_n (pc := 38) K d_M_seesNone_38 rfl ?_
      refine gk_iload_n (pc := 39) K d_M_seesNone_39 rfl ?_
      refine gk_iconst (pc := 40) K d_M_seesNone_40 kc_4 ?_
      obtain ⟨v2, m1, em1, h⟩ := gk_bi_some h
      refine gk_cVi (As := [.int a1, .int a2, .int a3, .int 4]) (pc := 41) K d_M_seesNone_41 mv_M_260 mc_M_inLineAt rfl tm_0 cl_ok10.1 (s_M_inLineAt (gk_FD K)  em1) (by decide) rfl (Nat.le_of_ble_eq_true rfl) ?_
      refine gk_if_eq (tgt := 49) (pc := 44) K d_M_seesNone_44 (by decide) h (fun h => ?_) (fun h => ?_)
      · refine gk_iinc2 (lv2 := [(3, .int (a3 + 1)), (0, .ref 0), (1, .int a1), (2, .int a2)]) (pc := 49) K d_M_seesNone_49 rfl kc_1 (by decide) rfl ?_
        refine gk_goto (tgt := 28) (pc := 52) K d_M_seesNone_52 (by decide) ?_
        exact gk_sub [1, 2, 3, 0] rfl (ih _ _ _ _  h)
      · refine gk_iconst (pc := 47) K d_M_seesNone_47 kc_0 ?_
        exact gk_zretc (pc := 48) K d_M_seesNone_48 rfl (Or.inl rfl) h
noncomputable def f_M_seesNone_16  : Nat → Int32 → Int32 → gk_M → Option (Int32 × gk_M)
  | 0, _, _, _ => none
  | n + 1, a1, a2, m0 =>
    if (m0.1 0 6) ≤ a2 then
      some (1, m0)
    else
      gk_let (a2 + 1) fun v1 =>
      f_M_seesNone_28 (f_M_seesNone_16 n) gk_fv a1 a2 v1 m0

theorem s_M_seesNone_16 {z : gk_Z} (K : gk_F tm z me_M_seesNone 68) {r : Int32} {mem2 : gk_M} : ∀ n a1 a2 m0, f_M_seesNone_16 n a1 a2 m0 = some (r, mem2) → gk_G tm z me_M_seesNone (gk_R tm z (some (.int r)) mem2) m0 [(0, .ref 0), (1, .int a1), (2, .int a2)] [] 16 := by
  intro n
  induction n with
  | zero => intro a1 a2 m0  h; exact nomatch (show (none : Option _) = some _ from h)
  | succ n ih =>
    intro a1 a2 m0  h
    unfold f_M_seesNone_16 at h
    refine gk_iload_n (pc := 16) K d_M_seesNone_16 rfl ?_
    refine gk_aload_n (pc := 17) K d_M_seesNone_17 rfl ?_
    refine gk_get (pc := 18) K d_M_seesNone_18 fl_M_106 tm_0 rfl rfl ?_
    refine gk_ic_ge (tgt := 61) (pc := 21) K d_M_seesNone_21 (by decide) h (fun h => ?_) (fun h => ?_)
    · refine gk_iconst (pc := 61) K d_M_seesNone_61 kc_1 ?_
      exact gk_zretc (pc := 62) K d_M_seesNone_62 rfl (Or.inr rfl) h
    · refine gk_iload_n (pc := 24) K d_M_seesNone_24 rfl ?_
      refine gk_iconst (pc := 25) K d_M_seesNone_25 kc_1 ?_
      refine gk_iadd (pc := 26) K d_M_seesNone_26 ?_
      refine gk_topi h (fun v1 h => ?_)
      refine gk_istore_n (lv2 := [(3, .int v1), (0, .ref 0), (1, .int a1), (2, .int a2)]) (pc := 27) K d_M_seesNone_27 (by decide) rfl ?_
      exact gk_sub [1, 2, 3, 0] rfl (s_M_seesNone_28 K (fun x0 x1 m  h => ih x0 x1 m  h) _ _ _ _ _  h)
noncomputable def f_M_seesNone  (a1 : Int32) (m0 : gk_M) : Option (Int32 × gk_M) :=
  gk_bi (f_M_isFreeOf a1 (m0.1 0 6) m0) fun v2 m1 =>
  if ¬ v2 = 0 then
    f_M_seesNone_16 gk_fv a1 0 m1
  else
    some (0, m1)

theorem s_M_seesNone_0 {z : gk_Z} (K : gk_F tm z me_M_seesNone 68) {r : Int32} {mem2 : gk_M} : ∀ a1 m0, f_M_seesNone a1 m0 = some (r, mem2) → gk_G tm z me_M_seesNone (gk_R tm z (some (.int r)) mem2) m0 [(0, .ref 0), (1, .int a1)] [] 0 := by
  intro a1 m0  h
  unfold f_M_seesNone at h
  refine gk_aload_n (pc := 0) K d_M_seesNone_0 rfl ?_
  refine gk_iload_n (pc := 1) K d_M_seesNone_1 rfl ?_
  refine gk_aload_n (pc := 2) K d_M_seesNone_2 rfl ?_
  refine gk_get (pc := 3) K d_M_seesNone_3 fl_M_106 tm_0 rfl rfl ?_
  obtain ⟨v2, m1, em1, h⟩ := gk_bi_some h
  refine gk_cVi (As := [.int a1, .int (m0.1 0 6)]) (pc := 6) K d_M_seesNone_6 mv_M_116 mc_M_isFreeOf rfl tm_0 cl_ok10.1 (s_M_isFreeOf (gk_FD K)  em1) (by decide) rfl (Nat.le_of_ble_eq_true rfl) ?_
  refine gk_if_ne (tgt := 14) (pc := 9) K d_M_seesNone_9 (by decide) h (fun h => ?_) (fun h => ?_)
  · refine gk_iconst (pc := 14) K d_M_seesNone_14 kc_0 ?_
    refine gk_istore_n (lv2 := [(2, .int 0), (0, .ref 0), (1, .int a1)]) (pc := 15) K d_M_seesNone_15 (by decide) rfl ?_
    exact gk_sub [1, 2, 0] rfl (s_M_seesNone_16 K _ _ _ _  h)
  · refine gk_iconst (pc := 12) K d_M_seesNone_12 kc_0 ?_
    exact gk_zretc (pc := 13) K d_M_seesNone_13 rfl (Or.inl rfl) h
theorem s_M_seesNone {l : Launch} {u : gk_U} (hD : gk_D tm u) {a1 : Int32} {m0 mem2 : gk_M} {r : Int32} (h : f_M_seesNone a1 m0 = some (r, mem2)) : gk_C tm l u me_M_seesNone 68 [.ref 0, .int a1] m0 (some (.int r)) mem2 :=
  gk_enter hD mc_M_seesNone (Nat.le_of_ble_eq_true rfl) rfl (fun z _ _ K => s_M_seesNone_0 K _ _  h)
theorem d_M_joins_0 : decode me_M_joins.2.1 0 = .ok (.aload_n 0, 1) := by decide +kernel
theorem d_M_joins_1 : decode me_M_joins.2.1 1 = .ok (.getfield 52, 3) := by decide +kernel
theorem d_M_joins_4 : decode me_M_joins.2.1 4 = .ok (.iload_n 1, 1) := by decide +kernel
theorem d_M_joins_5 : decode me_M_joins.2.1 5 = .ok (.baload, 1) := by decide +kernel
theorem d_M_joins_6 : decode me_M_joins.2.1 6 = .ok (.ifCond .eq 12, 3) := by decide +kernel
theorem d_M_joins_9 : decode me_M_joins.2.1 9 = .ok (.aload_n 0, 1) := by decide +kernel
theorem d_M_joins_10 : decode me_M_joins.2.1 10 = .ok (.getfield 56, 3) := by decide +kernel
theorem d_M_joins_13 : decode me_M_joins.2.1 13 = .ok (.iload_n 1, 1) := by decide +kernel
theorem d_M_joins_14 : decode me_M_joins.2.1 14 = .ok (.iaload, 1) := by decide +kernel
theorem d_M_joins_15 : decode me_M_joins.2.1 15 = .ok (.ifCond .lt 5, 3) := by decide +kernel
theorem d_M_joins_18 : decode me_M_joins.2.1 18 = .ok (.iload_n 3, 1) := by decide +kernel
theorem d_M_joins_19 : decode me_M_joins.2.1 19 = .ok (.ireturn, 1) := by decide +kernel
theorem d_M_joins_20 : decode me_M_joins.2.1 20 = .ok (.aload_n 0, 1) := by decide +kernel
theorem d_M_joins_21 : decode me_M_joins.2.1 21 = .ok (.getfield 56, 3) := by decide +kernel
theorem d_M_joins_24 : decode me_M_joins.2.1 24 = .ok (.iload_n 1, 1) := by decide +kernel
theorem d_M_joins_25 : decode me_M_joins.2.1 25 = .ok (.aload_n 0, 1) := by decide +kernel
theorem d_M_joins_26 : decode me_M_joins.2.1 26 = .ok (.getfield 56, 3) := by decide +kernel
theorem d_M_joins_29 : decode me_M_joins.2.1 29 = .ok (.iload_n 2, 1) := by decide +kernel
theorem d_M_joins_30 : decode me_M_joins.2.1 30 = .ok (.iaload, 1) := by decide +kernel
theorem d_M_joins_31 : decode me_M_joins.2.1 31 = .ok (.iconst 1, 1) := by decide +kernel
theorem d_M_joins_32 : decode me_M_joins.2.1 32 = .ok (.iadd, 1) := by decide +kernel
theorem d_M_joins_33 : decode me_M_joins.2.1 33 = .ok (.iastore, 1) := by decide +kernel
theorem d_M_joins_34 : decode me_M_joins.2.1 34 = .ok (.aload_n 0, 1) := by decide +kernel
theorem d_M_joins_35 : decode me_M_joins.2.1 35 = .ok (.getfield 59, 3) := by decide +kernel
theorem d_M_joins_38 : decode me_M_joins.2.1 38 = .ok (.iload_n 3, 1) := by decide +kernel
theorem d_M_joins_39 : decode me_M_joins.2.1 39 = .ok (.iload_n 1, 1) := by decide +kernel
theorem d_M_joins_40 : decode me_M_joins.2.1 40 = .ok (.iastore, 1) := by decide +kernel
theorem d_M_joins_41 : decode me_M_joins.2.1 41 = .ok (.iload_n 3, 1) := by decide +kernel
theorem d_M_joins_42 : decode me_M_joins.2.1 42 = .ok (.iconst 1, 1) := by decide +kernel
theorem d_M_joins_43 : decode me_M_joins.2.1 43 = .ok (.iadd, 1) := by decide +kernel
theorem d_M_joins_44 : decode me_M_joins.2.1 44 = .ok (.ireturn, 1) := by decide +kernel
noncomputable def f_M_joins  (a1 : Int32) (a2 : Int32) (a3 : Int32) (m0 : gk_M) : Option (Int32 × gk_M) :=
  gk_ai m0 15 900 a1 fun v1 =>
  if v1 = 0 then
    some (a3, m0)
  else
    gk_ai m0 16 900 a1 fun v2 =>
    if v2 < 0 then
      gk_ai m0 16 900 a2 fun v3 =>
      gk_si m0 16 900 a1 (v3 + 1) fun m4 =>
      gk_si m4 17 900 a3 a1 fun m5 =>
      some ((a3 + 1), m5)
    else
      some (a3, m0)

theorem s_M_joins_0 {z : gk_Z} (K : gk_F tm z me_M_joins 1) {r : Int32} {mem2 : gk_M} : ∀ a1 a2 a3 m0, f_M_joins a1 a2 a3 m0 = some (r, mem2) → gk_G tm z me_M_joins (gk_R tm z (some (.int r)) mem2) m0 [(0, .ref 0), (1, .int a1), (2, .int a2), (3, .int a3)] [] 0 := by
  intro a1 a2 a3 m0  h
  unfold f_M_joins at h
  refine gk_aload_n (pc := 0) K d_M_joins_0 rfl ?_
  refine gk_get (pc := 1) K d_M_joins_1 fl_M_52 tm_0 rfl rfl ?_
  refine gk_iload_n (pc := 4) K d_M_joins_4 rfl ?_
  refine gk_zald (pc := 5) K d_M_joins_5 tm_15 h (fun v1 h => ?_)
  refine gk_if_eq (tgt := 18) (pc := 6) K d_M_joins_6 (by decide) h (fun h => ?_) (fun h => ?_)
  · refine gk_iload_n (pc := 18) K d_M_joins_18 rfl ?_
    exact gk_iret (pc := 19) K d_M_joins_19 rfl h
  · refine gk_aload_n (pc := 9) K d_M_joins_9 rfl ?_
    refine gk_get (pc := 10) K d_M_joins_10 fl_M_56 tm_0 rfl rfl ?_
    refine gk_iload_n (pc := 13) K d_M_joins_13 rfl ?_
    refine gk_iald (pc := 14) K d_M_joins_14 tm_16 h (fun v2 h => ?_)
    refine gk_if_lt (tgt := 20) (pc := 15) K d_M_joins_15 (by decide) h (fun h => ?_) (fun h => ?_)
    · refine gk_aload_n (pc := 20) K d_M_joins_20 rfl ?_
      refine gk_get (pc := 21) K d_M_joins_21 fl_M_56 tm_0 rfl rfl ?_
      refine gk_iload_n (pc := 24) K d_M_joins_24 rfl ?_
      refine gk_aload_n (pc := 25) K d_M_joins_25 rfl ?_
      refine gk_get (pc := 26) K d_M_joins_26 fl_M_56 tm_0 rfl rfl ?_
      refine gk_iload_n (pc := 29) K d_M_joins_29 rfl ?_
      refine gk_iald (pc := 30) K d_M_joins_30 tm_16 h (fun v3 h => ?_)
      refine gk_iconst (pc := 31) K d_M_joins_31 kc_1 ?_
      refine gk_iadd (pc := 32) K d_M_joins_32 ?_
      refine gk_iast (pc := 33) K d_M_joins_33 tm_16 h (fun m4 h => ?_)
      refine gk_aload_n (pc := 34) K d_M_joins_34 rfl ?_
      refine gk_get (pc := 35) K d_M_joins_35 fl_M_59 tm_0 rfl rfl ?_
      refine gk_iload_n (pc := 38) K d_M_joins_38 rfl ?_
      refine gk_iload_n (pc := 39) K d_M_joins_39 rfl ?_
      refine gk_iast (pc := 40) K d_M_joins_40 tm_17 h (fun m5 h => ?_)
      refine gk_iload_n (pc := 41) K d_M_joins_41 rfl ?_
      refine gk_iconst (pc := 42) K d_M_joins_42 kc_1 ?_
      refine gk_iadd (pc := 43) K d_M_joins_43 ?_
      exact gk_iret (pc := 44) K d_M_joins_44 rfl h
    · refine gk_iload_n (pc := 18) K d_M_joins_18 rfl ?_
      exact gk_iret (pc := 19) K d_M_joins_19 rfl h
theorem s_M_joins {l : Launch} {u : gk_U} (hD : gk_D tm u) {a1 : Int32} {a2 : Int32} {a3 : Int32} {m0 mem2 : gk_M} {r : Int32} (h : f_M_joins a1 a2 a3 m0 = some (r, mem2)) : gk_C tm l u me_M_joins 1 [.ref 0, .int a1, .int a2, .int a3] m0 (some (.int r)) mem2 :=
  gk_enter hD mc_M_joins (Nat.le_of_ble_eq_true rfl) rfl (fun z _ _ K => s_M_joins_0 K _ _ _ _  h)
theorem d_M_newly_0 : decode me_M_newly.2.1 0 = .ok (.iload_n 1, 1) := by decide +kernel
theorem d_M_newly_1 : decode me_M_newly.2.1 1 = .ok (.invokestatic 133, 3) := by decide +kernel
theorem d_M_newly_4 : decode me_M_newly.2.1 4 = .ok (.ifCond .eq 10, 3) := by decide +kernel
theorem d_M_newly_7 : decode me_M_newly.2.1 7 = .ok (.iload_n 2, 1) := by decide +kernel
theorem d_M_newly_8 : decode me_M_newly.2.1 8 = .ok (.invokestatic 133, 3) := by decide +kernel
theorem d_M_newly_11 : decode me_M_newly.2.1 11 = .ok (.ifCond .ne 5, 3) := by decide +kernel
theorem d_M_newly_14 : decode me_M_newly.2.1 14 = .ok (.iconst (-1), 1) := by decide +kernel
theorem d_M_newly_15 : decode me_M_newly.2.1 15 = .ok (.ireturn, 1) := by decide +kernel
theorem d_M_newly_16 : decode me_M_newly.2.1 16 = .ok (.iconst 0, 1) := by decide +kernel
theorem d_M_newly_17 : decode me_M_newly.2.1 17 = .ok (.istore_n 3, 1) := by decide +kernel
theorem d_M_newly_18 : decode me_M_newly.2.1 18 = .ok (.iload_n 3, 1) := by decide +kernel
theorem d_M_newly_19 : decode me_M_newly.2.1 19 = .ok (.sipush 900, 3) := by decide +kernel
theorem d_M_newly_22 : decode me_M_newly.2.1 22 = .ok (.if_icmp .ge 27, 3) := by decide +kernel
theorem d_M_newly_25 : decode me_M_newly.2.1 25 = .ok (.aload_n 0, 1) := by decide +kernel
theorem d_M_newly_26 : decode me_M_newly.2.1 26 = .ok (.getfield 52, 3) := by decide +kernel
theorem d_M_newly_29 : decode me_M_newly.2.1 29 = .ok (.iload_n 3, 1) := by decide +kernel
theorem d_M_newly_30 : decode me_M_newly.2.1 30 = .ok (.aload_n 0, 1) := by decide +kernel
theorem d_M_newly_31 : decode me_M_newly.2.1 31 = .ok (.iload_n 3, 1) := by decide +kernel
theorem d_M_newly_32 : decode me_M_newly.2.1 32 = .ok (.invokevirtual 344, 3) := by decide +kernel
theorem d_M_newly_35 : decode me_M_newly.2.1 35 = .ok (.bastore, 1) := by decide +kernel
theorem d_M_newly_36 : decode me_M_newly.2.1 36 = .ok (.aload_n 0, 1) := by decide +kernel
theorem d_M_newly_37 : decode me_M_newly.2.1 37 = .ok (.getfield 56, 3) := by decide +kernel
theorem d_M_newly_40 : decode me_M_newly.2.1 40 = .ok (.iload_n 3, 1) := by decide +kernel
theorem d_M_newly_41 : decode me_M_newly.2.1 41 = .ok (.iconst (-1), 1) := by decide +kernel
theorem d_M_newly_42 : decode me_M_newly.2.1 42 = .ok (.iastore, 1) := by decide +kernel
theorem d_M_newly_43 : decode me_M_newly.2.1 43 = .ok (.iinc 3 1, 3) := by decide +kernel
theorem d_M_newly_46 : decode me_M_newly.2.1 46 = .ok (.goto (-28), 3) := by decide +kernel
theorem d_M_newly_49 : decode me_M_newly.2.1 49 = .ok (.aload_n 0, 1) := by decide +kernel
theorem d_M_newly_50 : decode me_M_newly.2.1 50 = .ok (.getfield 52, 3) := by decide +kernel
theorem d_M_newly_53 : decode me_M_newly.2.1 53 = .ok (.iload_n 1, 1) := by decide +kernel
theorem d_M_newly_54 : decode me_M_newly.2.1 54 = .ok (.baload, 1) := by decide +kernel
theorem d_M_newly_55 : decode me_M_newly.2.1 55 = .ok (.ifCond .eq 12, 3) := by decide +kernel
theorem d_M_newly_58 : decode me_M_newly.2.1 58 = .ok (.aload_n 0, 1) := by decide +kernel
theorem d_M_newly_59 : decode me_M_newly.2.1 59 = .ok (.getfield 52, 3) := by decide +kernel
theorem d_M_newly_62 : decode me_M_newly.2.1 62 = .ok (.iload_n 2, 1) := by decide +kernel
theorem d_M_newly_63 : decode me_M_newly.2.1 63 = .ok (.baload, 1) := by decide +kernel
theorem d_M_newly_64 : decode me_M_newly.2.1 64 = .ok (.ifCond .ne 6, 3) := by decide +kernel
theorem d_M_newly_67 : decode me_M_newly.2.1 67 = .ok (.bipush (-2), 2) := by decide +kernel
theorem d_M_newly_69 : decode me_M_newly.2.1 69 = .ok (.ireturn, 1) := by decide +kernel
theorem d_M_newly_70 : decode me_M_newly.2.1 70 = .ok (.aload_n 0, 1) := by decide +kernel
theorem d_M_newly_71 : decode me_M_newly.2.1 71 = .ok (.getfield 56, 3) := by decide +kernel
theorem d_M_newly_74 : decode me_M_newly.2.1 74 = .ok (.iload_n 1, 1) := by decide +kernel
theorem d_M_newly_75 : decode me_M_newly.2.1 75 = .ok (.iconst 0, 1) := by decide +kernel
theorem d_M_newly_76 : decode me_M_newly.2.1 76 = .ok (.iastore, 1) := by decide +kernel
theorem d_M_newly_77 : decode me_M_newly.2.1 77 = .ok (.aload_n 0, 1) := by decide +kernel
theorem d_M_newly_78 : decode me_M_newly.2.1 78 = .ok (.getfield 59, 3) := by decide +kernel
theorem d_M_newly_81 : decode me_M_newly.2.1 81 = .ok (.iconst 0, 1) := by decide +kernel
theorem d_M_newly_82 : decode me_M_newly.2.1 82 = .ok (.iload_n 1, 1) := by decide +kernel
theorem d_M_newly_83 : decode me_M_newly.2.1 83 = .ok (.iastore, 1) := by decide +kernel
theorem d_M_newly_84 : decode me_M_newly.2.1 84 = .ok (.iconst 1, 1) := by decide +kernel
theorem d_M_newly_85 : decode me_M_newly.2.1 85 = .ok (.istore_n 3, 1) := by decide +kernel
theorem d_M_newly_86 : decode me_M_newly.2.1 86 = .ok (.iconst 0, 1) := by decide +kernel
theorem d_M_newly_87 : decode me_M_newly.2.1 87 = .ok (.istore 4, 2) := by decide +kernel
theorem d_M_newly_89 : decode me_M_newly.2.1 89 = .ok (.iload 4, 2) := by decide +kernel
theorem d_M_newly_91 : decode me_M_newly.2.1 91 = .ok (.iload_n 3, 1) := by decide +kernel
theorem d_M_newly_92 : decode me_M_newly.2.1 92 = .ok (.if_icmp .ge 117, 3) := by decide +kernel
theorem d_M_newly_95 : decode me_M_newly.2.1 95 = .ok (.aload_n 0, 1) := by decide +kernel
theorem d_M_newly_96 : decode me_M_newly.2.1 96 = .ok (.getfield 59, 3) := by decide +kernel
theorem d_M_newly_99 : decode me_M_newly.2.1 99 = .ok (.iload 4, 2) := by decide +kernel
theorem d_M_newly_101 : decode me_M_newly.2.1 101 = .ok (.iaload, 1) := by decide +kernel
theorem d_M_newly_102 : decode me_M_newly.2.1 102 = .ok (.istore 5, 2) := by decide +kernel
theorem d_M_newly_104 : decode me_M_newly.2.1 104 = .ok (.iload 5, 2) := by decide +kernel
theorem d_M_newly_106 : decode me_M_newly.2.1 106 = .ok (.bipush 30, 2) := by decide +kernel
theorem d_M_newly_108 : decode me_M_newly.2.1 108 = .ok (.irem, 1) := by decide +kernel
theorem d_M_newly_109 : decode me_M_newly.2.1 109 = .ok (.ifCond .le 17, 3) := by decide +kernel
theorem d_M_newly_112 : decode me_M_newly.2.1 112 = .ok (.aload_n 0, 1) := by decide +kernel
theorem d_M_newly_113 : decode me_M_newly.2.1 113 = .ok (.iload 5, 2) := by decide +kernel
theorem d_M_newly_115 : decode me_M_newly.2.1 115 = .ok (.iconst 1, 1) := by decide +kernel
theorem d_M_newly_116 : decode me_M_newly.2.1 116 = .ok (.isub, 1) := by decide +kernel
theorem d_M_newly_117 : decode me_M_newly.2.1 117 = .ok (.iload 5, 2) := by decide +kernel
theorem d_M_newly_119 : decode me_M_newly.2.1 119 = .ok (.iload_n 3, 1) := by decide +kernel
theorem d_M_newly_120 : decode me_M_newly.2.1 120 = .ok (.invokevirtual 347, 3) := by decide +kernel
theorem d_M_newly_123 : decode me_M_newly.2.1 123 = .ok (.goto 4, 3) := by decide +kernel
theorem d_M_newly_126 : decode me_M_newly.2.1 126 = .ok (.iload_n 3, 1) := by decide +kernel
theorem d_M_newly_127 : decode me_M_newly.2.1 127 = .ok (.istore_n 3, 1) := by decide +kernel
theorem d_M_newly_128 : decode me_M_newly.2.1 128 = .ok (.iload 5, 2) := by decide +kernel
theorem d_M_newly_130 : decode me_M_newly.2.1 130 = .ok (.bipush 30, 2) := by decide +kernel
theorem d_M_newly_132 : decode me_M_newly.2.1 132 = .ok (.irem, 1) := by decide +kernel
theorem d_M_newly_133 : decode me_M_newly.2.1 133 = .ok (.bipush 29, 2) := by decide +kernel
theorem d_M_newly_135 : decode me_M_newly.2.1 135 = .ok (.if_icmp .ge 17, 3) := by decide +kernel
theorem d_M_newly_138 : decode me_M_newly.2.1 138 = .ok (.aload_n 0, 1) := by decide +kernel
theorem d_M_newly_139 : decode me_M_newly.2.1 139 = .ok (.iload 5, 2) := by decide +kernel
theorem d_M_newly_141 : decode me_M_newly.2.1 141 = .ok (.iconst 1, 1) := by decide +kernel
theorem d_M_newly_142 : decode me_M_newly.2.1 142 = .ok (.iadd, 1) := by decide +kernel
theorem d_M_newly_143 : decode me_M_newly.2.1 143 = .ok (.iload 5, 2) := by decide +kernel
theorem d_M_newly_145 : decode me_M_newly.2.1 145 = .ok (.iload_n 3, 1) := by decide +kernel
theorem d_M_newly_146 : decode me_M_newly.2.1 146 = .ok (.invokevirtual 347, 3) := by decide +kernel
theorem d_M_newly_149 : decode me_M_newly.2.1 149 = .ok (.goto 4, 3) := by decide +kernel
theorem d_M_newly_152 : decode me_M_newly.2.1 152 = .ok (.iload_n 3, 1) := by decide +kernel
theorem d_M_newly_153 : decode me_M_newly.2.1 153 = .ok (.istore_n 3, 1) := by decide +kernel
theorem d_M_newly_154 : decode me_M_newly.2.1 154 = .ok (.iload 5, 2) := by decide +kernel
theorem d_M_newly_156 : decode me_M_newly.2.1 156 = .ok (.bipush 30, 2) := by decide +kernel
theorem d_M_newly_158 : decode me_M_newly.2.1 158 = .ok (.if_icmp .lt 18, 3) := by decide +kernel
theorem d_M_newly_161 : decode me_M_newly.2.1 161 = .ok (.aload_n 0, 1) := by decide +kernel
theorem d_M_newly_162 : decode me_M_newly.2.1 162 = .ok (.iload 5, 2) := by decide +kernel
theorem d_M_newly_164 : decode me_M_newly.2.1 164 = .ok (.bipush 30, 2) := by decide +kernel
theorem d_M_newly_166 : decode me_M_newly.2.1 166 = .ok (.isub, 1) := by decide +kernel
theorem d_M_newly_167 : decode me_M_newly.2.1 167 = .ok (.iload 5, 2) := by decide +kernel
theorem d_M_newly_169 : decode me_M_newly.2.1 169 = .ok (.iload_n 3, 1) := by decide +kernel
theorem d_M_newly_170 : decode me_M_newly.2.1 170 = .ok (.invokevirtual 347, 3) := by decide +kernel
theorem d_M_newly_173 : decode me_M_newly.2.1 173 = .ok (.goto 4, 3) := by decide +kernel
theorem d_M_newly_176 : decode me_M_newly.2.1 176 = .ok (.iload_n 3, 1) := by decide +kernel
theorem d_M_newly_177 : decode me_M_newly.2.1 177 = .ok (.istore_n 3, 1) := by decide +kernel
theorem d_M_newly_178 : decode me_M_newly.2.1 178 = .ok (.iload 5, 2) := by decide +kernel
theorem d_M_newly_180 : decode me_M_newly.2.1 180 = .ok (.sipush 870, 3) := by decide +kernel
theorem d_M_newly_183 : decode me_M_newly.2.1 183 = .ok (.if_icmp .ge 18, 3) := by decide +kernel
theorem d_M_newly_186 : decode me_M_newly.2.1 186 = .ok (.aload_n 0, 1) := by decide +kernel
theorem d_M_newly_187 : decode me_M_newly.2.1 187 = .ok (.iload 5, 2) := by decide +kernel
theorem d_M_newly_189 : decode me_M_newly.2.1 189 = .ok (.bipush 30, 2) := by decide +kernel
theorem d_M_newly_191 : decode me_M_newly.2.1 191 = .ok (.iadd, 1) := by decide +kernel
theorem d_M_newly_192 : decode me_M_newly.2.1 192 = .ok (.iload 5, 2) := by decide +kernel
theorem d_M_newly_194 : decode me_M_newly.2.1 194 = .ok (.iload_n 3, 1) := by decide +kernel
theorem d_M_newly_195 : decode me_M_newly.2.1 195 = .ok (.invokevirtual 347, 3) := by decide +kernel
theorem d_M_newly_198 : decode me_M_newly.2.1 198 = .ok (.goto 4, 3) := by decide +kernel
theorem d_M_newly_201 : decode me_M_newly.2.1 201 = .ok (.iload_n 3, 1) := by decide +kernel
theorem d_M_newly_202 : decode me_M_newly.2.1 202 = .ok (.istore_n 3, 1) := by decide +kernel
theorem d_M_newly_203 : decode me_M_newly.2.1 203 = .ok (.iinc 4 1, 3) := by decide +kernel
theorem d_M_newly_206 : decode me_M_newly.2.1 206 = .ok (.goto (-117), 3) := by decide +kernel
theorem d_M_newly_209 : decode me_M_newly.2.1 209 = .ok (.aload_n 0, 1) := by decide +kernel
theorem d_M_newly_210 : decode me_M_newly.2.1 210 = .ok (.getfield 56, 3) := by decide +kernel
theorem d_M_newly_213 : decode me_M_newly.2.1 213 = .ok (.iload_n 2, 1) := by decide +kernel
theorem d_M_newly_214 : decode me_M_newly.2.1 214 = .ok (.iaload, 1) := by decide +kernel
theorem d_M_newly_215 : decode me_M_newly.2.1 215 = .ok (.ifCond .ge 8, 3) := by decide +kernel
theorem d_M_newly_218 : decode me_M_newly.2.1 218 = .ok (.bipush (-2), 2) := by decide +kernel
theorem d_M_newly_220 : decode me_M_newly.2.1 220 = .ok (.goto 9, 3) := by decide +kernel
theorem d_M_newly_223 : decode me_M_newly.2.1 223 = .ok (.aload_n 0, 1) := by decide +kernel
theorem d_M_newly_224 : decode me_M_newly.2.1 224 = .ok (.getfield 56, 3) := by decide +kernel
theorem d_M_newly_227 : decode me_M_newly.2.1 227 = .ok (.iload_n 2, 1) := by decide +kernel
theorem d_M_newly_228 : decode me_M_newly.2.1 228 = .ok (.iaload, 1) := by decide +kernel
theorem d_M_newly_229 : decode me_M_newly.2.1 229 = .ok (.ireturn, 1) := by decide +kernel
noncomputable def f_M_newly_202 (k89 : Int32 → Int32 → Int32 → gk_M → Option (Int32 × gk_M)) (a2 : Int32) (a4 : Int32) (s0 : Int32) (m0 : gk_M) : Option (Int32 × gk_M) :=
  k89 a2 s0 (a4 + 1) m0

theorem s_M_newly_202 {z : gk_Z} (K : gk_F tm z me_M_newly 69) {r : Int32} {mem2 : gk_M} {k89 : Int32 → Int32 → Int32 → gk_M → Option (Int32 × gk_M)} (hk89 : ∀ a2 a3 a4 m0, k89 a2 a3 a4 m0 = some (r, mem2) → gk_G tm z me_M_newly (gk_R tm z (some (.int r)) mem2) m0 [(0, .ref 0), (2, .int a2), (3, .int a3), (4, .int a4)] [] 89) : ∀ a2 a4 s0 m0, f_M_newly_202 k89 a2 a4 s0 m0 = some (r, mem2) → gk_G tm z me_M_newly (gk_R tm z (some (.int r)) mem2) m0 [(0, .ref 0), (2, .int a2), (4, .int a4)] [.int s0] 202 := by
  intro a2 a4 s0 m0  h
  unfold f_M_newly_202 at h
  refine gk_istore_n (lv2 := [(3, .int s0), (0, .ref 0), (2, .int a2), (4, .int a4)]) (pc := 202) K d_M_newly_202 (by decide) rfl ?_
  refine gk_iinc2 (lv2 := [(4, .int (a4 + 1)), (3, .int s0), (0, .ref 0), (2, .int a2)]) (pc := 203) K d_M_newly_203 rfl kc_1 (by decide) rfl ?_
  refine gk_goto (tgt := 89) (pc := 206) K d_M_newly_206 (by decide) ?_
  exact gk_sub [2, 3, 1, 0] rfl (hk89 _ _ _ _  h)
noncomputable def f_M_newly_177 (k89 : Int32 → Int32 → Int32 → gk_M → Option (Int32 × gk_M)) (a2 : Int32) (a4 : Int32) (a5 : Int32) (s0 : Int32) (m0 : gk_M) : Option (Int32 × gk_M) :=
  if 870 ≤ a5 then
    f_M_newly_202 k89 a2 a4 s0 m0
  else
    gk_bi (f_M_joins (a5 + 30) a5 s0 m0) fun v2 m1 =>
    f_M_newly_202 k89 a2 a4 v2 m1

theorem s_M_newly_177 {z : gk_Z} (K : gk_F tm z me_M_newly 69) {r : Int32} {mem2 : gk_M} {k89 : Int32 → Int32 → Int32 → gk_M → Option (Int32 × gk_M)} (hk89 : ∀ a2 a3 a4 m0, k89 a2 a3 a4 m0 = some (r, mem2) → gk_G tm z me_M_newly (gk_R tm z (some (.int r)) mem2) m0 [(0, .ref 0), (2, .int a2), (3, .int a3), (4, .int a4)] [] 89) : ∀ a2 a4 a5 s0 m0, f_M_newly_177 k89 a2 a4 a5 s0 m0 = some (r, mem2) → gk_G tm z me_M_newly (gk_R tm z (some (.int r)) mem2) m0 [(0, .ref 0), (2, .int a2), (4, .int a4), (5, .int a5)] [.int s0] 177 := by
  intro a2 a4 a5 s0 m0  h
  unfold f_M_newly_177 at h
  refine gk_istore_n (lv2 := [(3, .int s0), (0, .ref 0), (2, .int a2), (4, .int a4), (5, .int a5)]) (pc := 177) K d_M_newly_177 (by decide) rfl ?_
  refine gk_iload (pc := 178) K d_M_newly_178 rfl ?_
  refine gk_sipush (pc := 180) K d_M_newly_180 ks_870 ?_
  refine gk_ic_ge (tgt := 201) (pc := 183) K d_M_newly_183 (by decide) h (fun h => ?_) (fun h => ?_)
  · refine gk_iload_n (pc := 201) K d_M_newly_201 rfl ?_
    exact gk_sub [1, 2, 3] rfl (s_M_newly_202 K hk89 _ _ _ _  h)
  · refine gk_aload_n (pc := 186) K d_M_newly_186 rfl ?_
    refine gk_iload (pc := 187) K d_M_newly_187 rfl ?_
    refine gk_bipush (pc := 189) K d_M_newly_189 kb_30 ?_
    refine gk_iadd (pc := 191) K d_M_newly_191 ?_
    refine gk_iload (pc := 192) K d_M_newly_192 rfl ?_
    refine gk_iload_n (pc := 194) K d_M_newly_194 rfl ?_
    obtain ⟨v2, m1, em1, h⟩ := gk_bi_some h
    refine gk_cVi (As := [.int (a5 + 30), .int a5, .int s0]) (pc := 195) K d_M_newly_195 mv_M_347 mc_M_joins rfl tm_0 cl_ok10.1 (s_M_joins (gk_FD K)  em1) (by decide) rfl (Nat.le_of_ble_eq_true rfl) ?_
    refine gk_goto (tgt := 202) (pc := 198) K d_M_newly_198 (by decide) ?_
    exact gk_sub [1, 2, 3] rfl (s_M_newly_202 K hk89 _ _ _ _  h)
noncomputable def f_M_newly_153 (k89 : Int32 → Int32 → Int32 → gk_M → Option (Int32 × gk_M)) (a2 : Int32) (a4 : Int32) (a5 : Int32) (s0 : Int32) (m0 : gk_M) : Option (Int32 × gk_M) :=
  if a5 < 30 then
    f_M_newly_177 k89 a2 a4 a5 s0 m0
  else
    gk_bi (f_M_joins (a5 - 30) a5 s0 m0) fun v2 m1 =>
    f_M_newly_177 k89 a2 a4 a5 v2 m1

theorem s_M_newly_153 {z : gk_Z} (K : gk_F tm z me_M_newly 69) {r : Int32} {mem2 : gk_M} {k89 : Int32 → Int32 → Int32 → gk_M → Option (Int32 × gk_M)} (hk89 : ∀ a2 a3 a4 m0, k89 a2 a3 a4 m0 = some (r, mem2) → gk_G tm z me_M_newly (gk_R tm z (some (.int r)) mem2) m0 [(0, .ref 0), (2, .int a2), (3, .int a3), (4, .int a4)] [] 89) : ∀ a2 a4 a5 s0 m0, f_M_newly_153 k89 a2 a4 a5 s0 m0 = some (r, mem2) → gk_G tm z me_M_newly (gk_R tm z (some (.int r)) mem2) m0 [(0, .ref 0), (2, .int a2), (4, .int a4), (5, .int a5)] [.int s0] 153 := by
  intro a2 a4 a5 s0 m0  h
  unfold f_M_newly_153 at h
  refine gk_istore_n (lv2 := [(3, .int s0), (0, .ref 0), (2, .int a2), (4, .int a4), (5, .int a5)]) (pc := 153) K d_M_newly_153 (by decide) rfl ?_
  refine gk_iload (pc := 154) K d_M_newly_154 rfl ?_
  refine gk_bipush (pc := 156) K d_M_newly_156 kb_30 ?_
  refine gk_ic_lt (tgt := 176) (pc := 158) K d_M_newly_158 (by decide) h (fun h => ?_) (fun h => ?_)
  · refine gk_iload_n (pc := 176) K d_M_newly_176 rfl ?_
    exact gk_sub [1, 2, 3, 4] rfl (s_M_newly_177 K hk89 _ _ _ _ _  h)
  · refine gk_aload_n (pc := 161) K d_M_newly_161 rfl ?_
    refine gk_iload (pc := 162) K d_M_newly_162 rfl ?_
    refine gk_bipush (pc := 164) K d_M_newly_164 kb_30 ?_
    refine gk_isub (pc := 166) K d_M_newly_166 ?_
    refine gk_iload (pc := 167) K d_M_newly_167 rfl ?_
    refine gk_iload_n (pc := 169) K d_M_newly_169 rfl ?_
    obtain ⟨v2, m1, em1, h⟩ := gk_bi_some h
    refine gk_cVi (As := [.int (a5 - 30), .int a5, .int s0]) (pc := 170) K d_M_newly_170 mv_M_347 mc_M_joins rfl tm_0 cl_ok10.1 (s_M_joins (gk_FD K)  em1) (by decide) rfl (Nat.le_of_ble_eq_true rfl) ?_
    refine gk_goto (tgt := 177) (pc := 173) K d_M_newly_173 (by decide) ?_
    exact gk_sub [1, 2, 3, 4] rfl (s_M_newly_177 K hk89 _ _ _ _ _  h)
noncomputable def f_M_newly_127 (k89 : Int32 → Int32 → Int32 → gk_M → Option (Int32 × gk_M)) (a2 : Int32) (a4 : Int32) (a5 : Int32) (s0 : Int32) (m0 : gk_M) : Option (Int32 × gk_M) :=
  if 29 ≤ (gk_rem a5 30) then
    f_M_newly_153 k89 a2 a4 a5 s0 m0
  else
    gk_bi (f_M_joins (a5 + 1) a5 s0 m0) fun v2 m1 =>
    f_M_newly_153 k89 a2 a4 a5 v2 m1

theorem s_M_newly_127 {z : gk_Z} (K : gk_F tm z me_M_newly 69) {r : Int32} {mem2 : gk_M} {k89 : Int32 → Int32 → Int32 → gk_M → Option (Int32 × gk_M)} (hk89 : ∀ a2 a3 a4 m0, k89 a2 a3 a4 m0 = some (r, mem2) → gk_G tm z me_M_newly (gk_R tm z (some (.int r)) mem2) m0 [(0, .ref 0), (2, .int a2), (3, .int a3), (4, .int a4)] [] 89) : ∀ a2 a4 a5 s0 m0, f_M_newly_127 k89 a2 a4 a5 s0 m0 = some (r, mem2) → gk_G tm z me_M_newly (gk_R tm z (some (.int r)) mem2) m0 [(0, .ref 0), (2, .int a2), (4, .int a4), (5, .int a5)] [.int s0] 127 := by
  intro a2 a4 a5 s0 m0  h
  unfold f_M_newly_127 at h
  refine gk_istore_n (lv2 := [(3, .int s0), (0, .ref 0), (2, .int a2), (4, .int a4), (5, .int a5)]) (pc := 127) K d_M_newly_127 (by decide) rfl ?_
  refine gk_iload (pc := 128) K d_M_newly_128 rfl ?_
  refine gk_bipush (pc := 130) K d_M_newly_130 kb_30 ?_
  refine gk_iremc2 (pc := 132) K d_M_newly_132 (by decide) ?_
  refine gk_bipush (pc := 133) K d_M_newly_133 kb_29 ?_
  refine gk_ic_ge (tgt := 152) (pc := 135) K d_M_newly_135 (by decide) h (fun h => ?_) (fun h => ?_)
  · refine gk_iload_n (pc := 152) K d_M_newly_152 rfl ?_
    exact gk_sub [1, 2, 3, 4] rfl (s_M_newly_153 K hk89 _ _ _ _ _  h)
  · refine gk_aload_n (pc := 138) K d_M_newly_138 rfl ?_
    refine gk_iload (pc := 139) K d_M_newly_139 rfl ?_
    refine gk_iconst (pc := 141) K d_M_newly_141 kc_1 ?_
    refine gk_iadd (pc := 142) K d_M_newly_142 ?_
    refine gk_iload (pc := 143) K d_M_newly_143 rfl ?_
    refine gk_iload_n (pc := 145) K d_M_newly_145 rfl ?_
    obtain ⟨v2, m1, em1, h⟩ := gk_bi_some h
    refine gk_cVi (As := [.int (a5 + 1), .int a5, .int s0]) (pc := 146) K d_M_newly_146 mv_M_347 mc_M_joins rfl tm_0 cl_ok10.1 (s_M_joins (gk_FD K)  em1) (by decide) rfl (Nat.le_of_ble_eq_true rfl) ?_
    refine gk_goto (tgt := 153) (pc := 149) K d_M_newly_149 (by decide) ?_
    exact gk_sub [1, 2, 3, 4] rfl (s_M_newly_153 K hk89 _ _ _ _ _  h)
noncomputable def f_M_newly_89  : Nat → Int32 → Int32 → Int32 → gk_M → Option (Int32 × gk_M)
  | 0, _, _, _, _ => none
  | n + 1, a2, a3, a4, m0 =>
    if a3 ≤ a4 then
      gk_ai m0 16 900 a2 fun v1 =>
      if 0 ≤ v1 then
        gk_ai m0 16 900 a2 fun v2 =>
        some (v2, m0)
      else
        some ((-2), m0)
    else
      gk_ai m0 17 900 a4 fun v3 =>
      if (gk_rem v3 30) ≤ 0 then
        f_M_newly_127 (f_M_newly_89 n) a2 a4 v3 a3 m0
      else
        gk_bi (f_M_joins (v3 - 1) v3 a3 m0) fun v5 m4 =>
        f_M_newly_127 (f_M_newly_89 n) a2 a4 v3 v5 m4

theorem s_M_newly_89 {z : gk_Z} (K : gk_F tm z me_M_newly 69) {r : Int32} {mem2 : gk_M} : ∀ n a2 a3 a4 m0, f_M_newly_89 n a2 a3 a4 m0 = some (r, mem2) → gk_G tm z me_M_newly (gk_R tm z (some (.int r)) mem2) m0 [(0, .ref 0), (2, .int a2), (3, .int a3), (4, .int a4)] [] 89 := by
  intro n
  induction n with
  | zero => intro a2 a3 a4 m0  h; exact nomatch (show (none : Option _) = some _ from h)
  | succ n ih =>
    intro a2 a3 a4 m0  h
    unfold f_M_newly_89 at h
    refine gk_iload (pc := 89) K d_M_newly_89 rfl ?_
    refine gk_iload_n (pc := 91) K d_M_newly_91 rfl ?_
    refine gk_ic_ge (tgt := 209) (pc := 92) K d_M_newly_92 (by decide) h (fun h => ?_) (fun h => ?_)
    · refine gk_aload_n (pc := 209) K d_M_newly_209 rfl ?_
      refine gk_get (pc := 210) K d_M_newly_210 fl_M_56 tm_0 rfl rfl ?_
      refine gk_iload_n (pc := 213) K d_M_newly_213 rfl ?_
      refine gk_iald (pc := 214) K d_M_newly_214 tm_16 h (fun v1 h => ?_)
      refine gk_if_ge (tgt := 223) (pc := 215) K d_M_newly_215 (by decide) h (fun h => ?_) (fun h => ?_)
      · refine gk_aload_n (pc := 223) K d_M_newly_223 rfl ?_
        refine gk_get (pc := 224) K d_M_newly_224 fl_M_56 tm_0 rfl rfl ?_
        refine gk_iload_n (pc := 227) K d_M_newly_227 rfl ?_
        refine gk_iald (pc := 228) K d_M_newly_228 tm_16 h (fun v2 h => ?_)
        exact gk_iret (pc := 229) K d_M_newly_229 rfl h
      · refine gk_bipush (pc := 218) K d_M_newly_218 kb_m2 ?_
        refine gk_goto (tgt := 229) (pc := 220) K d_M_newly_220 (by decide) ?_
        exact gk_iret (pc := 229) K d_M_newly_229 rfl h
    · refine gk_aload_n (pc := 95) K d_M_newly_95 rfl ?_
      refine gk_get (pc := 96) K d_M_newly_96 fl_M_59 tm_0 rfl rfl ?_
      refine gk_iload (pc := 99) K d_M_newly_99 rfl ?_
      refine gk_iald (pc := 101) K d_M_newly_101 tm_17 h (fun v3 h => ?_)
      refine gk_istore (lv2 := [(5, .int v3), (0, .ref 0), (2, .int a2), (3, .int a3), (4, .int a4)]) (pc := 102) K d_M_newly_102 (by decide) rfl ?_
      refine gk_iload (pc := 104) K d_M_newly_104 rfl ?_
      refine gk_bipush (pc := 106) K d_M_newly_106 kb_30 ?_
      refine gk_iremc2 (pc := 108) K d_M_newly_108 (by decide) ?_
      refine gk_if_le (tgt := 126) (pc := 109) K d_M_newly_109 (by decide) h (fun h => ?_) (fun h => ?_)
      · refine gk_iload_n (pc := 126) K d_M_newly_126 rfl ?_
        exact gk_sub [1, 2, 4, 0] rfl (s_M_newly_127 K (fun x0 x1 x2 m  h => ih x0 x1 x2 m  h) _ _ _ _ _  h)
      · refine gk_aload_n (pc := 112) K d_M_newly_112 rfl ?_
        refine gk_iload (pc := 113) K d_M_newly_113 rfl ?_
        refine gk_iconst (pc := 115) K d_M_newly_115 kc_1 ?_
        refine gk_isub (pc := 116) K d_M_newly_116 ?_
        refine gk_iload (pc := 117) K d_M_newly_117 rfl ?_
        refine gk_iload_n (pc := 119) K d_M_newly_119 rfl ?_
        obtain ⟨v5, m4, em4, h⟩ := gk_bi_some h
        refine gk_cVi (As := [.int (v3 - 1), .int v3, .int a3]) (pc := 120) K d_M_newly_120 mv_M_347 mc_M_joins rfl tm_0 cl_ok10.1 (s_M_joins (gk_FD K)  em4) (by decide) rfl (Nat.le_of_ble_eq_true rfl) ?_
        refine gk_goto (tgt := 127) (pc := 123) K d_M_newly_123 (by decide) ?_
        exact gk_sub [1, 2, 4, 0] rfl (s_M_newly_127 K (fun x0 x1 x2 m  h => ih x0 x1 x2 m  h) _ _ _ _ _  h)
noncomputable def f_M_newly_18  : Nat → Int32 → Int32 → Int32 → gk_M → Option (Int32 × gk_M)
  | 0, _, _, _, _ => none
  | n + 1, a1, a2, a3, m0 =>
    if 900 ≤ a3 then
      gk_ai m0 15 900 a1 fun v1 =>
      if v1 = 0 then
        some ((-2), m0)
      else
        gk_ai m0 15 900 a2 fun v2 =>
        if ¬ v2 = 0 then
          gk_si m0 16 900 a1 0 fun m3 =>
          gk_si m3 17 900 0 a1 fun m4 =>
          f_M_newly_89 gk_fv a2 1 0 m4
        else
          some ((-2), m0)
    else
      gk_bi (f_M_seesNone a3 m0) fun v6 m5 =>
      gk_zz v6 <| gk_si m5 15 900 a3 v6 fun m7 =>
      gk_si m7 16 900 a3 (-1) fun m8 =>
      f_M_newly_18 n a1 a2 (a3 + 1) m8

theorem s_M_newly_18 {z : gk_Z} (K : gk_F tm z me_M_newly 69) {r : Int32} {mem2 : gk_M} : ∀ n a1 a2 a3 m0, f_M_newly_18 n a1 a2 a3 m0 = some (r, mem2) → gk_G tm z me_M_newly (gk_R tm z (some (.int r)) mem2) m0 [(0, .ref 0), (1, .int a1), (2, .int a2), (3, .int a3)] [] 18 := by
  intro n
  induction n with
  | zero => intro a1 a2 a3 m0  h; exact nomatch (show (none : Option _) = some _ from h)
  | succ n ih =>
    intro a1 a2 a3 m0  h
    unfold f_M_newly_18 at h
    refine gk_iload_n (pc := 18) K d_M_newly_18 rfl ?_
    refine gk_sipush (pc := 19) K d_M_newly_19 ks_900 ?_
    refine gk_ic_ge (tgt := 49) (pc := 22) K d_M_newly_22 (by decide) h (fun h => ?_) (fun h => ?_)
    · refine gk_aload_n (pc := 49) K d_M_newly_49 rfl ?_
      refine gk_get (pc := 50) K d_M_newly_50 fl_M_52 tm_0 rfl rfl ?_
      refine gk_iload_n (pc := 53) K d_M_newly_53 rfl ?_
      refine gk_zald (pc := 54) K d_M_newly_54 tm_15 h (fun v1 h => ?_)
      refine gk_if_eq (tgt := 67) (pc := 55) K d_M_newly_55 (by decide) h (fun h => ?_) (fun h => ?_)
      · refine gk_bipush (pc := 67) K d_M_newly_67 kb_m2 ?_
        exact gk_iret (pc := 69) K d_M_newly_69 rfl h
      · refine gk_aload_n (pc := 58) K d_M_newly_58 rfl ?_
        refine gk_get (pc := 59) K d_M_newly_59 fl_M_52 tm_0 rfl rfl ?_
        refine gk_iload_n (pc := 62) K d_M_newly_62 rfl ?_
        refine gk_zald (pc := 63) K d_M_newly_63 tm_15 h (fun v2 h => ?_)
        refine gk_if_ne (tgt := 70) (pc := 64) K d_M_newly_64 (by decide) h (fun h => ?_) (fun h => ?_)
        · refine gk_aload_n (pc := 70) K d_M_newly_70 rfl ?_
          refine gk_get (pc := 71) K d_M_newly_71 fl_M_56 tm_0 rfl rfl ?_
          refine gk_iload_n (pc := 74) K d_M_newly_74 rfl ?_
          refine gk_iconst (pc := 75) K d_M_newly_75 kc_0 ?_
          refine gk_iast (pc := 76) K d_M_newly_76 tm_16 h (fun m3 h => ?_)
          refine gk_aload_n (pc := 77) K d_M_newly_77 rfl ?_
          refine gk_get (pc := 78) K d_M_newly_78 fl_M_59 tm_0 rfl rfl ?_
          refine gk_iconst (pc := 81) K d_M_newly_81 kc_0 ?_
          refine gk_iload_n (pc := 82) K d_M_newly_82 rfl ?_
          refine gk_iast (pc := 83) K d_M_newly_83 tm_17 h (fun m4 h => ?_)
          refine gk_iconst (pc := 84) K d_M_newly_84 kc_1 ?_
          refine gk_istore_n (lv2 := [(3, .int 1), (0, .ref 0), (1, .int a1), (2, .int a2)]) (pc := 85) K d_M_newly_85 (by decide) rfl ?_
          refine gk_iconst (pc := 86) K d_M_newly_86 kc_0 ?_
          refine gk_istore (lv2 := [(4, .int 0), (3, .int 1), (0, .ref 0), (1, .int a1), (2, .int a2)]) (pc := 87) K d_M_newly_87 (by decide) rfl ?_
          exact gk_sub [2, 4, 1, 0] rfl (s_M_newly_89 K _ _ _ _ _  h)
        · refine gk_bipush (pc := 67) K d_M_newly_67 kb_m2 ?_
          exact gk_iret (pc := 69) K d_M_newly_69 rfl h
    · refine gk_aload_n (pc := 25) K d_M_newly_25 rfl ?_
      refine gk_get (pc := 26) K d_M_newly_26 fl_M_52 tm_0 rfl rfl ?_
      refine gk_iload_n (pc := 29) K d_M_newly_29 rfl ?_
      refine gk_aload_n (pc := 30) K d_M_newly_30 rfl ?_
      refine gk_iload_n (pc := 31) K d_M_newly_31 rfl ?_
      obtain ⟨v6, m5, em5, h⟩ := gk_bi_some h
      refine gk_cVi (As := [.int a3]) (pc := 32) K d_M_newly_32 mv_M_344 mc_M_seesNone rfl tm_0 cl_ok10.1 (s_M_seesNone (gk_FD K)  em5) (by decide) rfl (Nat.le_of_ble_eq_true rfl) ?_
      refine gk_zast (pc := 35) K d_M_newly_35 tm_15 h (fun m7 h => ?_)
      refine gk_aload_n (pc := 36) K d_M_newly_36 rfl ?_
      refine gk_get (pc := 37) K d_M_newly_37 fl_M_56 tm_0 rfl rfl ?_
      refine gk_iload_n (pc := 40) K d_M_newly_40 rfl ?_
      refine gk_iconst (pc := 41) K d_M_newly_41 kc_m1 ?_
      refine gk_iast (pc := 42) K d_M_newly_42 tm_16 h (fun m8 h => ?_)
      refine gk_iinc2 (lv2 := [(3, .int (a3 + 1)), (0, .ref 0), (1, .int a1), (2, .int a2)]) (pc := 43) K d_M_newly_43 rfl kc_1 (by decide) rfl ?_
      refine gk_goto (tgt := 18) (pc := 46) K d_M_newly_46 (by decide) ?_
      exact gk_sub [1, 2, 3, 0] rfl (ih _ _ _ _  h)
noncomputable def f_M_newly  (a1 : Int32) (a2 : Int32) (m0 : gk_M) : Option (Int32 × gk_M) :=
  gk_bi (f_M_isPoint a1 m0) fun v2 m1 =>
  if v2 = 0 then
    some ((-1), m1)
  else
    gk_bi (f_M_isPoint a2 m1) fun v4 m3 =>
    if ¬ v4 = 0 then
      f_M_newly_18 gk_fv a1 a2 0 m3
    else
      some ((-1), m3)

theorem s_M_newly_0 {z : gk_Z} (K : gk_F tm z me_M_newly 69) {r : Int32} {mem2 : gk_M} : ∀ a1 a2 m0, f_M_newly a1 a2 m0 = some (r, mem2) → gk_G tm z me_M_newly (gk_R tm z (some (.int r)) mem2) m0 [(0, .ref 0), (1, .int a1), (2, .int a2)] [] 0 := by
  intro a1 a2 m0  h
  unfold f_M_newly at h
  refine gk_iload_n (pc := 0) K d_M_newly_0 rfl ?_
  obtain ⟨v2, m1, em1, h⟩ := gk_bi_some h
  refine gk_cSi (As := [.int a1]) (pc := 1) K d_M_newly_1 ms_M_133 mc_M_isPoint rfl (s_M_isPoint (gk_FD K)  em1) (by decide) rfl (Nat.le_of_ble_eq_true rfl) ?_
  refine gk_if_eq (tgt := 14) (pc := 4) K d_M_newly_4 (by decide) h (fun h => ?_) (fun h => ?_)
  · refine gk_iconst (pc := 14) K d_M_newly_14 kc_m1 ?_
    exact gk_iret (pc := 15) K d_M_newly_15 rfl h
  · refine gk_iload_n (pc := 7) K d_M_newly_7 rfl ?_
    obtain ⟨v4, m3, em3, h⟩ := gk_bi_some h
    refine gk_cSi (As := [.int a2]) (pc := 8) K d_M_newly_8 ms_M_133 mc_M_isPoint rfl (s_M_isPoint (gk_FD K)  em3) (by decide) rfl (Nat.le_of_ble_eq_true rfl) ?_
    refine gk_if_ne (tgt := 16) (pc := 11) K d_M_newly_11 (by decide) h (fun h => ?_) (fun h => ?_)
    · refine gk_iconst (pc := 16) K d_M_newly_16 kc_0 ?_
      refine gk_istore_n (lv2 := [(3, .int 0), (0, .ref 0), (1, .int a1), (2, .int a2)]) (pc := 17) K d_M_newly_17 (by decide) rfl ?_
      exact gk_sub [1, 2, 3, 0] rfl (s_M_newly_18 K _ _ _ _ _  h)
    · refine gk_iconst (pc := 14) K d_M_newly_14 kc_m1 ?_
      exact gk_iret (pc := 15) K d_M_newly_15 rfl h
theorem s_M_newly {l : Launch} {u : gk_U} (hD : gk_D tm u) {a1 : Int32} {a2 : Int32} {m0 mem2 : gk_M} {r : Int32} (h : f_M_newly a1 a2 m0 = some (r, mem2)) : gk_C tm l u me_M_newly 69 [.ref 0, .int a1, .int a2] m0 (some (.int r)) mem2 :=
  gk_enter hD mc_M_newly (Nat.le_of_ble_eq_true rfl) rfl (fun z _ _ K => s_M_newly_0 K _ _ _  h)
theorem d_M_bitsOf_0 : decode me_M_bitsOf.2.1 0 = .ok (.iconst 0, 1) := by decide +kernel
theorem d_M_bitsOf_1 : decode me_M_bitsOf.2.1 1 = .ok (.istore_n 1, 1) := by decide +kernel
theorem d_M_bitsOf_2 : decode me_M_bitsOf.2.1 2 = .ok (.iload_n 0, 1) := by decide +kernel
theorem d_M_bitsOf_3 : decode me_M_bitsOf.2.1 3 = .ok (.istore_n 2, 1) := by decide +kernel
theorem d_M_bitsOf_4 : decode me_M_bitsOf.2.1 4 = .ok (.iload_n 2, 1) := by decide +kernel
theorem d_M_bitsOf_5 : decode me_M_bitsOf.2.1 5 = .ok (.ifCond .eq 15, 3) := by decide +kernel
theorem d_M_bitsOf_8 : decode me_M_bitsOf.2.1 8 = .ok (.iinc 1 1, 3) := by decide +kernel
theorem d_M_bitsOf_11 : decode me_M_bitsOf.2.1 11 = .ok (.iload_n 2, 1) := by decide +kernel
theorem d_M_bitsOf_12 : decode me_M_bitsOf.2.1 12 = .ok (.iload_n 2, 1) := by decide +kernel
theorem d_M_bitsOf_13 : decode me_M_bitsOf.2.1 13 = .ok (.iconst 1, 1) := by decide +kernel
theorem d_M_bitsOf_14 : decode me_M_bitsOf.2.1 14 = .ok (.isub, 1) := by decide +kernel
theorem d_M_bitsOf_15 : decode me_M_bitsOf.2.1 15 = .ok (.iand, 1) := by decide +kernel
theorem d_M_bitsOf_16 : decode me_M_bitsOf.2.1 16 = .ok (.istore_n 2, 1) := by decide +kernel
theorem d_M_bitsOf_17 : decode me_M_bitsOf.2.1 17 = .ok (.goto (-13), 3) := by decide +kernel
theorem d_M_bitsOf_20 : decode me_M_bitsOf.2.1 20 = .ok (.iload_n 1, 1) := by decide +kernel
theorem d_M_bitsOf_21 : decode me_M_bitsOf.2.1 21 = .ok (.ireturn, 1) := by decide +kernel
noncomputable def f_M_bitsOf_4  : Nat → Int32 → Int32 → gk_M → Option (Int32 × gk_M)
  | 0, _, _, _ => none
  | n + 1, a1, a2, m0 =>
    if a2 = 0 then
      some (a1, m0)
    else
      gk_let (a2 &&& (a2 - 1)) fun v1 =>
      f_M_bitsOf_4 n (a1 + 1) v1 m0

theorem s_M_bitsOf_4 {z : gk_Z} (K : gk_F tm z me_M_bitsOf 1) {r : Int32} {mem2 : gk_M} : ∀ n a1 a2 m0, f_M_bitsOf_4 n a1 a2 m0 = some (r, mem2) → gk_G tm z me_M_bitsOf (gk_R tm z (some (.int r)) mem2) m0 [(1, .int a1), (2, .int a2)] [] 4 := by
  intro n
  induction n with
  | zero => intro a1 a2 m0  h; exact nomatch (show (none : Option _) = some _ from h)
  | succ n ih =>
    intro a1 a2 m0  h
    unfold f_M_bitsOf_4 at h
    refine gk_iload_n (pc := 4) K d_M_bitsOf_4 rfl ?_
    refine gk_if_eq (tgt := 20) (pc := 5) K d_M_bitsOf_5 (by decide) h (fun h => ?_) (fun h => ?_)
    · refine gk_iload_n (pc := 20) K d_M_bitsOf_20 rfl ?_
      exact gk_iret (pc := 21) K d_M_bitsOf_21 rfl h
    · refine gk_iinc2 (lv2 := [(1, .int (a1 + 1)), (2, .int a2)]) (pc := 8) K d_M_bitsOf_8 rfl kc_1 (by decide) rfl ?_
      refine gk_iload_n (pc := 11) K d_M_bitsOf_11 rfl ?_
      refine gk_iload_n (pc := 12) K d_M_bitsOf_12 rfl ?_
      refine gk_iconst (pc := 13) K d_M_bitsOf_13 kc_1 ?_
      refine gk_isub (pc := 14) K d_M_bitsOf_14 ?_
      refine gk_iand (pc := 15) K d_M_bitsOf_15 ?_
      refine gk_topi h (fun v1 h => ?_)
      refine gk_istore_n (lv2 := [(2, .int v1), (1, .int (a1 + 1))]) (pc := 16) K d_M_bitsOf_16 (by decide) rfl ?_
      refine gk_goto (tgt := 4) (pc := 17) K d_M_bitsOf_17 (by decide) ?_
      exact gk_sub [1, 0] rfl (ih _ _ _  h)
noncomputable def f_M_bitsOf  (a0 : Int32) (m0 : gk_M) : Option (Int32 × gk_M) :=
  f_M_bitsOf_4 gk_fv 0 a0 m0

theorem s_M_bitsOf_0 {z : gk_Z} (K : gk_F tm z me_M_bitsOf 1) {r : Int32} {mem2 : gk_M} : ∀ a0 m0, f_M_bitsOf a0 m0 = some (r, mem2) → gk_G tm z me_M_bitsOf (gk_R tm z (some (.int r)) mem2) m0 [(0, .int a0)] [] 0 := by
  intro a0 m0  h
  unfold f_M_bitsOf at h
  refine gk_iconst (pc := 0) K d_M_bitsOf_0 kc_0 ?_
  refine gk_istore_n (lv2 := [(1, .int 0), (0, .int a0)]) (pc := 1) K d_M_bitsOf_1 (by decide) rfl ?_
  refine gk_iload_n (pc := 2) K d_M_bitsOf_2 rfl ?_
  refine gk_istore_n (lv2 := [(2, .int a0), (1, .int 0), (0, .int a0)]) (pc := 3) K d_M_bitsOf_3 (by decide) rfl ?_
  exact gk_sub [1, 0] rfl (s_M_bitsOf_4 K _ _ _ _  h)
theorem s_M_bitsOf {l : Launch} {u : gk_U} (hD : gk_D tm u) {a0 : Int32} {m0 mem2 : gk_M} {r : Int32} (h : f_M_bitsOf a0 m0 = some (r, mem2)) : gk_C tm l u me_M_bitsOf 1 [.int a0] m0 (some (.int r)) mem2 :=
  gk_enter hD mc_M_bitsOf (Nat.le_of_ble_eq_true rfl) rfl (fun z _ _ K => s_M_bitsOf_0 K _ _  h)
theorem d_M_gamePoint_0 : decode me_M_gamePoint.2.1 0 = .ok (.aload_n 0, 1) := by decide +kernel
theorem d_M_gamePoint_1 : decode me_M_gamePoint.2.1 1 = .ok (.getfield 350, 3) := by decide +kernel
theorem d_M_gamePoint_4 : decode me_M_gamePoint.2.1 4 = .ok (.bipush 30, 2) := by decide +kernel
theorem d_M_gamePoint_6 : decode me_M_gamePoint.2.1 6 = .ok (.iload_n 1, 1) := by decide +kernel
theorem d_M_gamePoint_7 : decode me_M_gamePoint.2.1 7 = .ok (.aload_n 0, 1) := by decide +kernel
theorem d_M_gamePoint_8 : decode me_M_gamePoint.2.1 8 = .ok (.getfield 353, 3) := by decide +kernel
theorem d_M_gamePoint_11 : decode me_M_gamePoint.2.1 11 = .ok (.idiv, 1) := by decide +kernel
theorem d_M_gamePoint_12 : decode me_M_gamePoint.2.1 12 = .ok (.imul, 1) := by decide +kernel
theorem d_M_gamePoint_13 : decode me_M_gamePoint.2.1 13 = .ok (.iadd, 1) := by decide +kernel
theorem d_M_gamePoint_14 : decode me_M_gamePoint.2.1 14 = .ok (.iload_n 1, 1) := by decide +kernel
theorem d_M_gamePoint_15 : decode me_M_gamePoint.2.1 15 = .ok (.aload_n 0, 1) := by decide +kernel
theorem d_M_gamePoint_16 : decode me_M_gamePoint.2.1 16 = .ok (.getfield 353, 3) := by decide +kernel
theorem d_M_gamePoint_19 : decode me_M_gamePoint.2.1 19 = .ok (.irem, 1) := by decide +kernel
theorem d_M_gamePoint_20 : decode me_M_gamePoint.2.1 20 = .ok (.iadd, 1) := by decide +kernel
theorem d_M_gamePoint_21 : decode me_M_gamePoint.2.1 21 = .ok (.ireturn, 1) := by decide +kernel
noncomputable def f_M_gamePoint  (a1 : Int32) (m0 : gk_M) : Option (Int32 × gk_M) :=
  gk_di a1 (m0.1 0 33) fun v1 =>
  gk_re a1 (m0.1 0 33) fun v2 =>
  some ((((m0.1 0 32) + (30 * v1)) + v2), m0)

theorem s_M_gamePoint_0 {z : gk_Z} (K : gk_F tm z me_M_gamePoint 1) {r : Int32} {mem2 : gk_M} : ∀ a1 m0, f_M_gamePoint a1 m0 = some (r, mem2) → gk_G tm z me_M_gamePoint (gk_R tm z (some (.int r)) mem2) m0 [(0, .ref 0), (1, .int a1)] [] 0 := by
  intro a1 m0  h
  unfold f_M_gamePoint at h
  refine gk_aload_n (pc := 0) K d_M_gamePoint_0 rfl ?_
  refine gk_get (pc := 1) K d_M_gamePoint_1 fl_M_350 tm_0 rfl rfl ?_
  refine gk_bipush (pc := 4) K d_M_gamePoint_4 kb_30 ?_
  refine gk_iload_n (pc := 6) K d_M_gamePoint_6 rfl ?_
  refine gk_aload_n (pc := 7) K d_M_gamePoint_7 rfl ?_
  refine gk_get (pc := 8) K d_M_gamePoint_8 fl_M_353 tm_0 rfl rfl ?_
  refine gk_idiv (pc := 11) K d_M_gamePoint_11 h (fun v1 h => ?_)
  refine gk_imul (pc := 12) K d_M_gamePoint_12 ?_
  refine gk_iadd (pc := 13) K d_M_gamePoint_13 ?_
  refine gk_iload_n (pc := 14) K d_M_gamePoint_14 rfl ?_
  refine gk_aload_n (pc := 15) K d_M_gamePoint_15 rfl ?_
  refine gk_get (pc := 16) K d_M_gamePoint_16 fl_M_353 tm_0 rfl rfl ?_
  refine gk_irem (pc := 19) K d_M_gamePoint_19 h (fun v2 h => ?_)
  refine gk_iadd (pc := 20) K d_M_gamePoint_20 ?_
  exact gk_iret (pc := 21) K d_M_gamePoint_21 rfl h
theorem s_M_gamePoint {l : Launch} {u : gk_U} (hD : gk_D tm u) {a1 : Int32} {m0 mem2 : gk_M} {r : Int32} (h : f_M_gamePoint a1 m0 = some (r, mem2)) : gk_C tm l u me_M_gamePoint 1 [.ref 0, .int a1] m0 (some (.int r)) mem2 :=
  gk_enter hD mc_M_gamePoint (Nat.le_of_ble_eq_true rfl) rfl (fun z _ _ K => s_M_gamePoint_0 K _ _  h)
theorem d_M_laysOut_0 : decode me_M_laysOut.2.1 0 = .ok (.aload_n 0, 1) := by decide +kernel
theorem d_M_laysOut_1 : decode me_M_laysOut.2.1 1 = .ok (.getfield 106, 3) := by decide +kernel
theorem d_M_laysOut_4 : decode me_M_laysOut.2.1 4 = .ok (.istore_n 2, 1) := by decide +kernel
theorem d_M_laysOut_5 : decode me_M_laysOut.2.1 5 = .ok (.iconst 0, 1) := by decide +kernel
theorem d_M_laysOut_6 : decode me_M_laysOut.2.1 6 = .ok (.istore_n 3, 1) := by decide +kernel
theorem d_M_laysOut_7 : decode me_M_laysOut.2.1 7 = .ok (.iload_n 3, 1) := by decide +kernel
theorem d_M_laysOut_8 : decode me_M_laysOut.2.1 8 = .ok (.aload_n 0, 1) := by decide +kernel
theorem d_M_laysOut_9 : decode me_M_laysOut.2.1 9 = .ok (.getfield 353, 3) := by decide +kernel
theorem d_M_laysOut_12 : decode me_M_laysOut.2.1 12 = .ok (.aload_n 0, 1) := by decide +kernel
theorem d_M_laysOut_13 : decode me_M_laysOut.2.1 13 = .ok (.getfield 353, 3) := by decide +kernel
theorem d_M_laysOut_16 : decode me_M_laysOut.2.1 16 = .ok (.imul, 1) := by decide +kernel
theorem d_M_laysOut_17 : decode me_M_laysOut.2.1 17 = .ok (.if_icmp .ge 50, 3) := by decide +kernel
theorem d_M_laysOut_20 : decode me_M_laysOut.2.1 20 = .ok (.iload_n 1, 1) := by decide +kernel
theorem d_M_laysOut_21 : decode me_M_laysOut.2.1 21 = .ok (.iload_n 3, 1) := by decide +kernel
theorem d_M_laysOut_22 : decode me_M_laysOut.2.1 22 = .ok (.ishr, 1) := by decide +kernel
theorem d_M_laysOut_23 : decode me_M_laysOut.2.1 23 = .ok (.iconst 1, 1) := by decide +kernel
theorem d_M_laysOut_24 : decode me_M_laysOut.2.1 24 = .ok (.iand, 1) := by decide +kernel
theorem d_M_laysOut_25 : decode me_M_laysOut.2.1 25 = .ok (.iconst 1, 1) := by decide +kernel
theorem d_M_laysOut_26 : decode me_M_laysOut.2.1 26 = .ok (.if_icmp .ne 35, 3) := by decide +kernel
theorem d_M_laysOut_29 : decode me_M_laysOut.2.1 29 = .ok (.aload_n 0, 1) := by decide +kernel
theorem d_M_laysOut_30 : decode me_M_laysOut.2.1 30 = .ok (.getfield 22, 3) := by decide +kernel
theorem d_M_laysOut_33 : decode me_M_laysOut.2.1 33 = .ok (.iload_n 2, 1) := by decide +kernel
theorem d_M_laysOut_34 : decode me_M_laysOut.2.1 34 = .ok (.aload_n 0, 1) := by decide +kernel
theorem d_M_laysOut_35 : decode me_M_laysOut.2.1 35 = .ok (.iload_n 3, 1) := by decide +kernel
theorem d_M_laysOut_36 : decode me_M_laysOut.2.1 36 = .ok (.invokevirtual 356, 3) := by decide +kernel
theorem d_M_laysOut_39 : decode me_M_laysOut.2.1 39 = .ok (.iastore, 1) := by decide +kernel
theorem d_M_laysOut_40 : decode me_M_laysOut.2.1 40 = .ok (.aload_n 0, 1) := by decide +kernel
theorem d_M_laysOut_41 : decode me_M_laysOut.2.1 41 = .ok (.getfield 25, 3) := by decide +kernel
theorem d_M_laysOut_44 : decode me_M_laysOut.2.1 44 = .ok (.iload_n 2, 1) := by decide +kernel
theorem d_M_laysOut_45 : decode me_M_laysOut.2.1 45 = .ok (.bipush 10, 2) := by decide +kernel
theorem d_M_laysOut_47 : decode me_M_laysOut.2.1 47 = .ok (.iastore, 1) := by decide +kernel
theorem d_M_laysOut_48 : decode me_M_laysOut.2.1 48 = .ok (.aload_n 0, 1) := by decide +kernel
theorem d_M_laysOut_49 : decode me_M_laysOut.2.1 49 = .ok (.getfield 28, 3) := by decide +kernel
theorem d_M_laysOut_52 : decode me_M_laysOut.2.1 52 = .ok (.iload_n 2, 1) := by decide +kernel
theorem d_M_laysOut_53 : decode me_M_laysOut.2.1 53 = .ok (.aload_n 0, 1) := by decide +kernel
theorem d_M_laysOut_54 : decode me_M_laysOut.2.1 54 = .ok (.getfield 359, 3) := by decide +kernel
theorem d_M_laysOut_57 : decode me_M_laysOut.2.1 57 = .ok (.iastore, 1) := by decide +kernel
theorem d_M_laysOut_58 : decode me_M_laysOut.2.1 58 = .ok (.iinc 2 1, 3) := by decide +kernel
theorem d_M_laysOut_61 : decode me_M_laysOut.2.1 61 = .ok (.iinc 3 1, 3) := by decide +kernel
theorem d_M_laysOut_64 : decode me_M_laysOut.2.1 64 = .ok (.goto (-57), 3) := by decide +kernel
theorem d_M_laysOut_67 : decode me_M_laysOut.2.1 67 = .ok (.iload_n 2, 1) := by decide +kernel
theorem d_M_laysOut_68 : decode me_M_laysOut.2.1 68 = .ok (.ireturn, 1) := by decide +kernel
noncomputable def f_M_laysOut_7  : Nat → Int32 → Int32 → Int32 → gk_M → Option (Int32 × gk_M)
  | 0, _, _, _, _ => none
  | n + 1, a1, a2, a3, m0 =>
    if ((m0.1 0 33) * (m0.1 0 33)) ≤ a3 then
      some (a2, m0)
    else
      if ¬ ((a1 >>> (a3 &&& 31)) &&& 1) = 1 then
        f_M_laysOut_7 n a1 a2 (a3 + 1) m0
      else
        gk_bi (f_M_gamePoint a3 m0) fun v2 m1 =>
        gk_si m1 5 20 a2 v2 fun m3 =>
        gk_si m3 6 20 a2 10 fun m4 =>
        gk_si m4 7 20 a2 (m4.1 0 34) fun m5 =>
        f_M_laysOut_7 n a1 (a2 + 1) (a3 + 1) m5

theorem s_M_laysOut_7 {z : gk_Z} (K : gk_F tm z me_M_laysOut 2) {r : Int32} {mem2 : gk_M} : ∀ n a1 a2 a3 m0, f_M_laysOut_7 n a1 a2 a3 m0 = some (r, mem2) → gk_G tm z me_M_laysOut (gk_R tm z (some (.int r)) mem2) m0 [(0, .ref 0), (1, .int a1), (2, .int a2), (3, .int a3)] [] 7 := by
  intro n
  induction n with
  | zero => intro a1 a2 a3 m0  h; exact nomatch (show (none : Option _) = some _ from h)
  | succ n ih =>
    intro a1 a2 a3 m0  h
    unfold f_M_laysOut_7 at h
    refine gk_iload_n (pc := 7) K d_M_laysOut_7 rfl ?_
    refine gk_aload_n (pc := 8) K d_M_laysOut_8 rfl ?_
    refine gk_get (pc := 9) K d_M_laysOut_9 fl_M_353 tm_0 rfl rfl ?_
    refine gk_aload_n (pc := 12) K d_M_laysOut_12 rfl ?_
    refine gk_get (pc := 13) K d_M_laysOut_13 fl_M_353 tm_0 rfl rfl ?_
    refine gk_imul (pc := 16) K d_M_laysOut_16 ?_
    refine gk_ic_ge (tgt := 67) (pc := 17) K d_M_laysOut_17 (by decide) h (fun h => ?_) (fun h => ?_)
    · refine gk_iload_n (pc := 67) K d_M_laysOut_67 rfl ?_
      exact gk_iret (pc := 68) K d_M_laysOut_68 rfl h
    · refine gk_iload_n (pc := 20) K d_M_laysOut_20 rfl ?_
      refine gk_iload_n (pc := 21) K d_M_laysOut_21 rfl ?_
      refine gk_ishr (pc := 22) K d_M_laysOut_22 ?_
      refine gk_iconst (pc := 23) K d_M_laysOut_23 kc_1 ?_
      refine gk_iand (pc := 24) K d_M_laysOut_24 ?_
      refine gk_iconst (pc := 25) K d_M_laysOut_25 kc_1 ?_
      refine gk_ic_ne (tgt := 61) (pc := 26) K d_M_laysOut_26 (by decide) h (fun h => ?_) (fun h => ?_)
      · refine gk_iinc2 (lv2 := [(3, .int (a3 + 1)), (0, .ref 0), (1, .int a1), (2, .int a2)]) (pc := 61) K d_M_laysOut_61 rfl kc_1 (by decide) rfl ?_
        refine gk_goto (tgt := 7) (pc := 64) K d_M_laysOut_64 (by decide) ?_
        exact gk_sub [1, 2, 3, 0] rfl (ih _ _ _ _  h)
      · refine gk_aload_n (pc := 29) K d_M_laysOut_29 rfl ?_
        refine gk_get (pc := 30) K d_M_laysOut_30 fl_M_22 tm_0 rfl rfl ?_
        refine gk_iload_n (pc := 33) K d_M_laysOut_33 rfl ?_
        refine gk_aload_n (pc := 34) K d_M_laysOut_34 rfl ?_
        refine gk_iload_n (pc := 35) K d_M_laysOut_35 rfl ?_
        obtain ⟨v2, m1, em1, h⟩ := gk_bi_some h
        refine gk_cVi (As := [.int a3]) (pc := 36) K d_M_laysOut_36 mv_M_356 mc_M_gamePoint rfl tm_0 cl_ok10.1 (s_M_gamePoint (gk_FD K)  em1) (by decide) rfl (Nat.le_of_ble_eq_true rfl) ?_
        refine gk_iast (pc := 39) K d_M_laysOut_39 tm_5 h (fun m3 h => ?_)
        refine gk_aload_n (pc := 40) K d_M_laysOut_40 rfl ?_
        refine gk_get (pc := 41) K d_M_laysOut_41 fl_M_25 tm_0 rfl rfl ?_
        refine gk_iload_n (pc := 44) K d_M_laysOut_44 rfl ?_
        refine gk_bipush (pc := 45) K d_M_laysOut_45 kb_10 ?_
        refine gk_iast (pc := 47) K d_M_laysOut_47 tm_6 h (fun m4 h => ?_)
        refine gk_aload_n (pc := 48) K d_M_laysOut_48 rfl ?_
        refine gk_get (pc := 49) K d_M_laysOut_49 fl_M_28 tm_0 rfl rfl ?_
        refine gk_iload_n (pc := 52) K d_M_laysOut_52 rfl ?_
        refine gk_aload_n (pc := 53) K d_M_laysOut_53 rfl ?_
        refine gk_get (pc := 54) K d_M_laysOut_54 fl_M_359 tm_0 rfl rfl ?_
        refine gk_iast (pc := 57) K d_M_laysOut_57 tm_7 h (fun m5 h => ?_)
        refine gk_iinc2 (lv2 := [(2, .int (a2 + 1)), (0, .ref 0), (1, .int a1), (3, .int a3)]) (pc := 58) K d_M_laysOut_58 rfl kc_1 (by decide) rfl ?_
        refine gk_iinc2 (lv2 := [(3, .int (a3 + 1)), (2, .int (a2 + 1)), (0, .ref 0), (1, .int a1)]) (pc := 61) K d_M_laysOut_61 rfl kc_1 (by decide) rfl ?_
        refine gk_goto (tgt := 7) (pc := 64) K d_M_laysOut_64 (by decide) ?_
        exact gk_sub [2, 3, 1, 0] rfl (ih _ _ _ _  h)
noncomputable def f_M_laysOut  (a1 : Int32) (m0 : gk_M) : Option (Int32 × gk_M) :=
  gk_let (m0.1 0 6) fun v1 =>
  f_M_laysOut_7 gk_fv a1 v1 0 m0

theorem s_M_laysOut_0 {z : gk_Z} (K : gk_F tm z me_M_laysOut 2) {r : Int32} {mem2 : gk_M} : ∀ a1 m0, f_M_laysOut a1 m0 = some (r, mem2) → gk_G tm z me_M_laysOut (gk_R tm z (some (.int r)) mem2) m0 [(0, .ref 0), (1, .int a1)] [] 0 := by
  intro a1 m0  h
  unfold f_M_laysOut at h
  refine gk_aload_n (pc := 0) K d_M_laysOut_0 rfl ?_
  refine gk_get (pc := 1) K d_M_laysOut_1 fl_M_106 tm_0 rfl rfl ?_
  refine gk_topi h (fun v1 h => ?_)
  refine gk_istore_n (lv2 := [(2, .int v1), (0, .ref 0), (1, .int a1)]) (pc := 4) K d_M_laysOut_4 (by decide) rfl ?_
  refine gk_iconst (pc := 5) K d_M_laysOut_5 kc_0 ?_
  refine gk_istore_n (lv2 := [(3, .int 0), (2, .int v1), (0, .ref 0), (1, .int a1)]) (pc := 6) K d_M_laysOut_6 (by decide) rfl ?_
  exact gk_sub [2, 3, 1, 0] rfl (s_M_laysOut_7 K _ _ _ _ _  h)
theorem s_M_laysOut {l : Launch} {u : gk_U} (hD : gk_D tm u) {a1 : Int32} {m0 mem2 : gk_M} {r : Int32} (h : f_M_laysOut a1 m0 = some (r, mem2)) : gk_C tm l u me_M_laysOut 2 [.ref 0, .int a1] m0 (some (.int r)) mem2 :=
  gk_enter hD mc_M_laysOut (Nat.le_of_ble_eq_true rfl) rfl (fun z _ _ K => s_M_laysOut_0 K _ _  h)
theorem d_M_looksAt_0 : decode me_M_looksAt.2.1 0 = .ok (.aload_n 0, 1) := by decide +kernel
theorem d_M_looksAt_1 : decode me_M_looksAt.2.1 1 = .ok (.getfield 62, 3) := by decide +kernel
theorem d_M_looksAt_4 : decode me_M_looksAt.2.1 4 = .ok (.iload_n 1, 1) := by decide +kernel
theorem d_M_looksAt_5 : decode me_M_looksAt.2.1 5 = .ok (.iconst 2, 1) := by decide +kernel
theorem d_M_looksAt_6 : decode me_M_looksAt.2.1 6 = .ok (.iastore, 1) := by decide +kernel
theorem d_M_looksAt_7 : decode me_M_looksAt.2.1 7 = .ok (.aload_n 0, 1) := by decide +kernel
theorem d_M_looksAt_8 : decode me_M_looksAt.2.1 8 = .ok (.bipush (-2), 2) := by decide +kernel
theorem d_M_looksAt_10 : decode me_M_looksAt.2.1 10 = .ok (.putfield 362, 3) := by decide +kernel
theorem d_M_looksAt_13 : decode me_M_looksAt.2.1 13 = .ok (.aload_n 0, 1) := by decide +kernel
theorem d_M_looksAt_14 : decode me_M_looksAt.2.1 14 = .ok (.iload_n 1, 1) := by decide +kernel
theorem d_M_looksAt_15 : decode me_M_looksAt.2.1 15 = .ok (.invokevirtual 365, 3) := by decide +kernel
theorem d_M_looksAt_18 : decode me_M_looksAt.2.1 18 = .ok (.istore_n 2, 1) := by decide +kernel
theorem d_M_looksAt_19 : decode me_M_looksAt.2.1 19 = .ok (.aload_n 0, 1) := by decide +kernel
theorem d_M_looksAt_20 : decode me_M_looksAt.2.1 20 = .ok (.getfield 353, 3) := by decide +kernel
theorem d_M_looksAt_23 : decode me_M_looksAt.2.1 23 = .ok (.aload_n 0, 1) := by decide +kernel
theorem d_M_looksAt_24 : decode me_M_looksAt.2.1 24 = .ok (.getfield 353, 3) := by decide +kernel
theorem d_M_looksAt_27 : decode me_M_looksAt.2.1 27 = .ok (.imul, 1) := by decide +kernel
theorem d_M_looksAt_28 : decode me_M_looksAt.2.1 28 = .ok (.iconst 1, 1) := by decide +kernel
theorem d_M_looksAt_29 : decode me_M_looksAt.2.1 29 = .ok (.isub, 1) := by decide +kernel
theorem d_M_looksAt_30 : decode me_M_looksAt.2.1 30 = .ok (.istore_n 3, 1) := by decide +kernel
theorem d_M_looksAt_31 : decode me_M_looksAt.2.1 31 = .ok (.iload_n 3, 1) := by decide +kernel
theorem d_M_looksAt_32 : decode me_M_looksAt.2.1 32 = .ok (.ifCond .lt 84, 3) := by decide +kernel
theorem d_M_looksAt_35 : decode me_M_looksAt.2.1 35 = .ok (.iload_n 2, 1) := by decide +kernel
theorem d_M_looksAt_36 : decode me_M_looksAt.2.1 36 = .ok (.bipush 10, 2) := by decide +kernel
theorem d_M_looksAt_38 : decode me_M_looksAt.2.1 38 = .ok (.if_icmp .ge 78, 3) := by decide +kernel
theorem d_M_looksAt_41 : decode me_M_looksAt.2.1 41 = .ok (.iload_n 1, 1) := by decide +kernel
theorem d_M_looksAt_42 : decode me_M_looksAt.2.1 42 = .ok (.iload_n 3, 1) := by decide +kernel
theorem d_M_looksAt_43 : decode me_M_looksAt.2.1 43 = .ok (.ishr, 1) := by decide +kernel
theorem d_M_looksAt_44 : decode me_M_looksAt.2.1 44 = .ok (.iconst 1, 1) := by decide +kernel
theorem d_M_looksAt_45 : decode me_M_looksAt.2.1 45 = .ok (.iand, 1) := by decide +kernel
theorem d_M_looksAt_46 : decode me_M_looksAt.2.1 46 = .ok (.ifCond .ne 26, 3) := by decide +kernel
theorem d_M_looksAt_49 : decode me_M_looksAt.2.1 49 = .ok (.aload_n 0, 1) := by decide +kernel
theorem d_M_looksAt_50 : decode me_M_looksAt.2.1 50 = .ok (.aload_n 0, 1) := by decide +kernel
theorem d_M_looksAt_51 : decode me_M_looksAt.2.1 51 = .ok (.iload_n 3, 1) := by decide +kernel
theorem d_M_looksAt_52 : decode me_M_looksAt.2.1 52 = .ok (.invokevirtual 356, 3) := by decide +kernel
theorem d_M_looksAt_55 : decode me_M_looksAt.2.1 55 = .ok (.iload_n 2, 1) := by decide +kernel
theorem d_M_looksAt_56 : decode me_M_looksAt.2.1 56 = .ok (.aload_n 0, 1) := by decide +kernel
theorem d_M_looksAt_57 : decode me_M_looksAt.2.1 57 = .ok (.getfield 359, 3) := by decide +kernel
theorem d_M_looksAt_60 : decode me_M_looksAt.2.1 60 = .ok (.bipush 10, 2) := by decide +kernel
theorem d_M_looksAt_62 : decode me_M_looksAt.2.1 62 = .ok (.invokevirtual 317, 3) := by decide +kernel
theorem d_M_looksAt_65 : decode me_M_looksAt.2.1 65 = .ok (.ifCond .eq 7, 3) := by decide +kernel
theorem d_M_looksAt_68 : decode me_M_looksAt.2.1 68 = .ok (.iconst 1, 1) := by decide +kernel
theorem d_M_looksAt_69 : decode me_M_looksAt.2.1 69 = .ok (.goto 4, 3) := by decide +kernel
theorem d_M_looksAt_72 : decode me_M_looksAt.2.1 72 = .ok (.iconst 0, 1) := by decide +kernel
theorem d_M_looksAt_73 : decode me_M_looksAt.2.1 73 = .ok (.istore 4, 2) := by decide +kernel
theorem d_M_looksAt_75 : decode me_M_looksAt.2.1 75 = .ok (.iload 4, 2) := by decide +kernel
theorem d_M_looksAt_77 : decode me_M_looksAt.2.1 77 = .ok (.ifCond .eq 33, 3) := by decide +kernel
theorem d_M_looksAt_80 : decode me_M_looksAt.2.1 80 = .ok (.aload_n 0, 1) := by decide +kernel
theorem d_M_looksAt_81 : decode me_M_looksAt.2.1 81 = .ok (.getfield 62, 3) := by decide +kernel
theorem d_M_looksAt_84 : decode me_M_looksAt.2.1 84 = .ok (.iload_n 1, 1) := by decide +kernel
theorem d_M_looksAt_85 : decode me_M_looksAt.2.1 85 = .ok (.iconst 1, 1) := by decide +kernel
theorem d_M_looksAt_86 : decode me_M_looksAt.2.1 86 = .ok (.iload_n 3, 1) := by decide +kernel
theorem d_M_looksAt_87 : decode me_M_looksAt.2.1 87 = .ok (.ishl, 1) := by decide +kernel
theorem d_M_looksAt_88 : decode me_M_looksAt.2.1 88 = .ok (.ior, 1) := by decide +kernel
theorem d_M_looksAt_89 : decode me_M_looksAt.2.1 89 = .ok (.iaload, 1) := by decide +kernel
theorem d_M_looksAt_90 : decode me_M_looksAt.2.1 90 = .ok (.iconst 2, 1) := by decide +kernel
theorem d_M_looksAt_91 : decode me_M_looksAt.2.1 91 = .ok (.if_icmp .ne 19, 3) := by decide +kernel
theorem d_M_looksAt_94 : decode me_M_looksAt.2.1 94 = .ok (.aload_n 0, 1) := by decide +kernel
theorem d_M_looksAt_95 : decode me_M_looksAt.2.1 95 = .ok (.getfield 62, 3) := by decide +kernel
theorem d_M_looksAt_98 : decode me_M_looksAt.2.1 98 = .ok (.iload_n 1, 1) := by decide +kernel
theorem d_M_looksAt_99 : decode me_M_looksAt.2.1 99 = .ok (.iconst 1, 1) := by decide +kernel
theorem d_M_looksAt_100 : decode me_M_looksAt.2.1 100 = .ok (.iastore, 1) := by decide +kernel
theorem d_M_looksAt_101 : decode me_M_looksAt.2.1 101 = .ok (.aload_n 0, 1) := by decide +kernel
theorem d_M_looksAt_102 : decode me_M_looksAt.2.1 102 = .ok (.aload_n 0, 1) := by decide +kernel
theorem d_M_looksAt_103 : decode me_M_looksAt.2.1 103 = .ok (.iload_n 3, 1) := by decide +kernel
theorem d_M_looksAt_104 : decode me_M_looksAt.2.1 104 = .ok (.invokevirtual 356, 3) := by decide +kernel
theorem d_M_looksAt_107 : decode me_M_looksAt.2.1 107 = .ok (.putfield 362, 3) := by decide +kernel
theorem d_M_looksAt_110 : decode me_M_looksAt.2.1 110 = .ok (.iinc 3 (-1), 3) := by decide +kernel
theorem d_M_looksAt_113 : decode me_M_looksAt.2.1 113 = .ok (.goto (-82), 3) := by decide +kernel
theorem d_M_looksAt_116 : decode me_M_looksAt.2.1 116 = .ok (.return_, 1) := by decide +kernel
noncomputable def f_M_looksAt_73 (k31 : Int32 → Int32 → Int32 → gk_M → Option (Unit × gk_M)) (a1 : Int32) (a2 : Int32) (a3 : Int32) (s0 : Int32) (m0 : gk_M) : Option (Unit × gk_M) :=
  if s0 = 0 then
    k31 a1 a2 (a3 + (-1)) m0
  else
    gk_ai m0 18 512 (a1 ||| (1 <<< (a3 &&& 31))) fun v1 =>
    if ¬ v1 = 2 then
      k31 a1 a2 (a3 + (-1)) m0
    else
      gk_si m0 18 512 a1 1 fun m2 =>
      gk_bi (f_M_gamePoint a3 m2) fun v4 m3 =>
      gk_let (gk_mi m3 0 35 v4) fun m5 =>
      k31 a1 a2 (a3 + (-1)) m5

theorem s_M_looksAt_73 {z : gk_Z} (K : gk_F tm z me_M_looksAt 72) {r : Unit} {mem2 : gk_M} {k31 : Int32 → Int32 → Int32 → gk_M → Option (Unit × gk_M)} (hk31 : ∀ a1 a2 a3 m0, k31 a1 a2 a3 m0 = some (r, mem2) → gk_G tm z me_M_looksAt (gk_R tm z none mem2) m0 [(0, .ref 0), (1, .int a1), (2, .int a2), (3, .int a3)] [] 31) : ∀ a1 a2 a3 s0 m0, f_M_looksAt_73 k31 a1 a2 a3 s0 m0 = some (r, mem2) → gk_G tm z me_M_looksAt (gk_R tm z none mem2) m0 [(0, .ref 0), (1, .int a1), (2, .int a2), (3, .int a3)] [.int s0] 73 := by
  intro a1 a2 a3 s0 m0  h
  unfold f_M_looksAt_73 at h
  refine gk_istore (lv2 := [(4, .int s0), (0, .ref 0), (1, .int a1), (2, .int a2), (3, .int a3)]) (pc := 73) K d_M_looksAt_73 (by decide) rfl ?_
  refine gk_iload (pc := 75) K d_M_looksAt_75 rfl ?_
  refine gk_if_eq (tgt := 110) (pc := 77) K d_M_looksAt_77 (by decide) h (fun h => ?_) (fun h => ?_)
  · refine gk_iinc2 (lv2 := [(3, .int (a3 + (-1))), (4, .int s0), (0, .ref 0), (1, .int a1), (2, .int a2)]) (pc := 110) K d_M_looksAt_110 rfl kc_m1 (by decide) rfl ?_
    refine gk_goto (tgt := 31) (pc := 113) K d_M_looksAt_113 (by decide) ?_
    exact gk_sub [2, 3, 4, 0] rfl (hk31 _ _ _ _  h)
  · refine gk_aload_n (pc := 80) K d_M_looksAt_80 rfl ?_
    refine gk_get (pc := 81) K d_M_looksAt_81 fl_M_62 tm_0 rfl rfl ?_
    refine gk_iload_n (pc := 84) K d_M_looksAt_84 rfl ?_
    refine gk_iconst (pc := 85) K d_M_looksAt_85 kc_1 ?_
    refine gk_iload_n (pc := 86) K d_M_looksAt_86 rfl ?_
    refine gk_ishl (pc := 87) K d_M_looksAt_87 ?_
    refine gk_ior (pc := 88) K d_M_looksAt_88 ?_
    refine gk_iald (pc := 89) K d_M_looksAt_89 tm_18 h (fun v1 h => ?_)
    refine gk_iconst (pc := 90) K d_M_looksAt_90 kc_2 ?_
    refine gk_ic_ne (tgt := 110) (pc := 91) K d_M_looksAt_91 (by decide) h (fun h => ?_) (fun h => ?_)
    · refine gk_iinc2 (lv2 := [(3, .int (a3 + (-1))), (4, .int s0), (0, .ref 0), (1, .int a1), (2, .int a2)]) (pc := 110) K d_M_looksAt_110 rfl kc_m1 (by decide) rfl ?_
      refine gk_goto (tgt := 31) (pc := 113) K d_M_looksAt_113 (by decide) ?_
      exact gk_sub [2, 3, 4, 0] rfl (hk31 _ _ _ _  h)
    · refine gk_aload_n (pc := 94) K d_M_looksAt_94 rfl ?_
      refine gk_get (pc := 95) K d_M_looksAt_95 fl_M_62 tm_0 rfl rfl ?_
      refine gk_iload_n (pc := 98) K d_M_looksAt_98 rfl ?_
      refine gk_iconst (pc := 99) K d_M_looksAt_99 kc_1 ?_
      refine gk_iast (pc := 100) K d_M_looksAt_100 tm_18 h (fun m2 h => ?_)
      refine gk_aload_n (pc := 101) K d_M_looksAt_101 rfl ?_
      refine gk_aload_n (pc := 102) K d_M_looksAt_102 rfl ?_
      refine gk_iload_n (pc := 103) K d_M_looksAt_103 rfl ?_
      obtain ⟨v4, m3, em3, h⟩ := gk_bi_some h
      refine gk_cVi (As := [.int a3]) (pc := 104) K d_M_looksAt_104 mv_M_356 mc_M_gamePoint rfl tm_0 cl_ok10.1 (s_M_gamePoint (gk_FD K)  em3) (by decide) rfl (Nat.le_of_ble_eq_true rfl) ?_
      refine gk_puti (pc := 107) K d_M_looksAt_107 fp_M_362 tm_0 rfl h (fun m5 h => ?_)
      refine gk_iinc2 (lv2 := [(3, .int (a3 + (-1))), (4, .int s0), (0, .ref 0), (1, .int a1), (2, .int a2)]) (pc := 110) K d_M_looksAt_110 rfl kc_m1 (by decide) rfl ?_
      refine gk_goto (tgt := 31) (pc := 113) K d_M_looksAt_113 (by decide) ?_
      exact gk_sub [2, 3, 4, 0] rfl (hk31 _ _ _ _  h)
noncomputable def f_M_looksAt_72 (k31 : Int32 → Int32 → Int32 → gk_M → Option (Unit × gk_M)) (a1 : Int32) (a2 : Int32) (a3 : Int32) (m0 : gk_M) : Option (Unit × gk_M) :=
  f_M_looksAt_73 k31 a1 a2 a3 0 m0

theorem s_M_looksAt_72 {z : gk_Z} (K : gk_F tm z me_M_looksAt 72) {r : Unit} {mem2 : gk_M} {k31 : Int32 → Int32 → Int32 → gk_M → Option (Unit × gk_M)} (hk31 : ∀ a1 a2 a3 m0, k31 a1 a2 a3 m0 = some (r, mem2) → gk_G tm z me_M_looksAt (gk_R tm z none mem2) m0 [(0, .ref 0), (1, .int a1), (2, .int a2), (3, .int a3)] [] 31) : ∀ a1 a2 a3 m0, f_M_looksAt_72 k31 a1 a2 a3 m0 = some (r, mem2) → gk_G tm z me_M_looksAt (gk_R tm z none mem2) m0 [(0, .ref 0), (1, .int a1), (2, .int a2), (3, .int a3)] [] 72 := by
  intro a1 a2 a3 m0  h
  unfold f_M_looksAt_72 at h
  refine gk_iconst (pc := 72) K d_M_looksAt_72 kc_0 ?_
  exact gk_sub [0, 1, 2, 3] rfl (s_M_looksAt_73 K hk31 _ _ _ _ _  h)
noncomputable def f_M_looksAt_31  : Nat → Int32 → Int32 → Int32 → gk_M → Option (Unit × gk_M)
  | 0, _, _, _, _ => none
  | n + 1, a1, a2, a3, m0 =>
    if a3 < 0 then
      some ((), m0)
    else
      if 10 ≤ a2 then
        some ((), m0)
      else
        if ¬ ((a1 >>> (a3 &&& 31)) &&& 1) = 0 then
          f_M_looksAt_72 (f_M_looksAt_31 n) a1 a2 a3 m0
        else
          gk_bi (f_M_gamePoint a3 m0) fun v2 m1 =>
          gk_bi (f_M_isFree v2 a2 (m1.1 0 34) 10 m1) fun v4 m3 =>
          if v4 = 0 then
            f_M_looksAt_72 (f_M_looksAt_31 n) a1 a2 a3 m3
          else
            f_M_looksAt_73 (f_M_looksAt_31 n) a1 a2 a3 1 m3

theorem s_M_looksAt_31 {z : gk_Z} (K : gk_F tm z me_M_looksAt 72) {r : Unit} {mem2 : gk_M} : ∀ n a1 a2 a3 m0, f_M_looksAt_31 n a1 a2 a3 m0 = some (r, mem2) → gk_G tm z me_M_looksAt (gk_R tm z none mem2) m0 [(0, .ref 0), (1, .int a1), (2, .int a2), (3, .int a3)] [] 31 := by
  intro n
  induction n with
  | zero => intro a1 a2 a3 m0  h; exact nomatch (show (none : Option _) = some _ from h)
  | succ n ih =>
    intro a1 a2 a3 m0  h
    unfold f_M_looksAt_31 at h
    refine gk_iload_n (pc := 31) K d_M_looksAt_31 rfl ?_
    refine gk_if_lt (tgt := 116) (pc := 32) K d_M_looksAt_32 (by decide) h (fun h => ?_) (fun h => ?_)
    · exact gk_vret (pc := 116) K d_M_looksAt_116 rfl h
    · refine gk_iload_n (pc := 35) K d_M_looksAt_35 rfl ?_
      refine gk_bipush (pc := 36) K d_M_looksAt_36 kb_10 ?_
      refine gk_ic_ge (tgt := 116) (pc := 38) K d_M_looksAt_38 (by decide) h (fun h => ?_) (fun h => ?_)
      · exact gk_vret (pc := 116) K d_M_looksAt_116 rfl h
      · refine gk_iload_n (pc := 41) K d_M_looksAt_41 rfl ?_
        refine gk_iload_n (pc := 42) K d_M_looksAt_42 rfl ?_
        refine gk_ishr (pc := 43) K d_M_looksAt_43 ?_
        refine gk_iconst (pc := 44) K d_M_looksAt_44 kc_1 ?_
        refine gk_iand (pc := 45) K d_M_looksAt_45 ?_
        refine gk_if_ne (tgt := 72) (pc := 46) K d_M_looksAt_46 (by decide) h (fun h => ?_) (fun h => ?_)
        · exact gk_sub [0, 1, 2, 3] rfl (s_M_looksAt_72 K (fun x0 x1 x2 m  h => ih x0 x1 x2 m  h) _ _ _ _  h)
        · refine gk_aload_n (pc := 49) K d_M_looksAt_49 rfl ?_
          refine gk_aload_n (pc := 50) K d_M_looksAt_50 rfl ?_
          refine gk_iload_n (pc := 51) K d_M_looksAt_51 rfl ?_
          obtain ⟨v2, m1, em1, h⟩ := gk_bi_some h
          refine gk_cVi (As := [.int a3]) (pc := 52) K d_M_looksAt_52 mv_M_356 mc_M_gamePoint rfl tm_0 cl_ok10.1 (s_M_gamePoint (gk_FD K)  em1) (by decide) rfl (Nat.le_of_ble_eq_true rfl) ?_
          refine gk_iload_n (pc := 55) K d_M_looksAt_55 rfl ?_
          refine gk_aload_n (pc := 56) K d_M_looksAt_56 rfl ?_
          refine gk_get (pc := 57) K d_M_looksAt_57 fl_M_359 tm_0 rfl rfl ?_
          refine gk_bipush (pc := 60) K d_M_looksAt_60 kb_10 ?_
          obtain ⟨v4, m3, em3, h⟩ := gk_bi_some h
          refine gk_cVi (As := [.int v2, .int a2, .int (m1.1 0 34), .int 10]) (pc := 62) K d_M_looksAt_62 mv_M_317 mc_M_isFree rfl tm_0 cl_ok10.1 (s_M_isFree (gk_FD K)  em3) (by decide) rfl (Nat.le_of_ble_eq_true rfl) ?_
          refine gk_if_eq (tgt := 72) (pc := 65) K d_M_looksAt_65 (by decide) h (fun h => ?_) (fun h => ?_)
          · exact gk_sub [0, 1, 2, 3] rfl (s_M_looksAt_72 K (fun x0 x1 x2 m  h => ih x0 x1 x2 m  h) _ _ _ _  h)
          · refine gk_iconst (pc := 68) K d_M_looksAt_68 kc_1 ?_
            refine gk_goto (tgt := 73) (pc := 69) K d_M_looksAt_69 (by decide) ?_
            exact gk_sub [0, 1, 2, 3] rfl (s_M_looksAt_73 K (fun x0 x1 x2 m  h => ih x0 x1 x2 m  h) _ _ _ _ _  h)
noncomputable def f_M_looksAt  (a1 : Int32) (m0 : gk_M) : Option (Unit × gk_M) :=
  gk_si m0 18 512 a1 2 fun m1 =>
  gk_let (gk_mi m1 0 35 (-2)) fun m2 =>
  gk_bi (f_M_laysOut a1 m2) fun v4 m3 =>
  gk_let (((m3.1 0 33) * (m3.1 0 33)) - 1) fun v5 =>
  f_M_looksAt_31 gk_fv a1 v4 v5 m3

theorem s_M_looksAt_0 {z : gk_Z} (K : gk_F tm z me_M_looksAt 72) {r : Unit} {mem2 : gk_M} : ∀ a1 m0, f_M_looksAt a1 m0 = some (r, mem2) → gk_G tm z me_M_looksAt (gk_R tm z none mem2) m0 [(0, .ref 0), (1, .int a1)] [] 0 := by
  intro a1 m0  h
  unfold f_M_looksAt at h
  refine gk_aload_n (pc := 0) K d_M_looksAt_0 rfl ?_
  refine gk_get (pc := 1) K d_M_looksAt_1 fl_M_62 tm_0 rfl rfl ?_
  refine gk_iload_n (pc := 4) K d_M_looksAt_4 rfl ?_
  refine gk_iconst (pc := 5) K d_M_looksAt_5 kc_2 ?_
  refine gk_iast (pc := 6) K d_M_looksAt_6 tm_18 h (fun m1 h => ?_)
  refine gk_aload_n (pc := 7) K d_M_looksAt_7 rfl ?_
  refine gk_bipush (pc := 8) K d_M_looksAt_8 kb_m2 ?_
  refine gk_puti (pc := 10) K d_M_looksAt_10 fp_M_362 tm_0 rfl h (fun m2 h => ?_)
  refine gk_aload_n (pc := 13) K d_M_looksAt_13 rfl ?_
  refine gk_iload_n (pc := 14) K d_M_looksAt_14 rfl ?_
  obtain ⟨v4, m3, em3, h⟩ := gk_bi_some h
  refine gk_cVi (As := [.int a1]) (pc := 15) K d_M_looksAt_15 mv_M_365 mc_M_laysOut rfl tm_0 cl_ok10.1 (s_M_laysOut (gk_FD K)  em3) (by decide) rfl (Nat.le_of_ble_eq_true rfl) ?_
  refine gk_istore_n (lv2 := [(2, .int v4), (0, .ref 0), (1, .int a1)]) (pc := 18) K d_M_looksAt_18 (by decide) rfl ?_
  refine gk_aload_n (pc := 19) K d_M_looksAt_19 rfl ?_
  refine gk_get (pc := 20) K d_M_looksAt_20 fl_M_353 tm_0 rfl rfl ?_
  refine gk_aload_n (pc := 23) K d_M_looksAt_23 rfl ?_
  refine gk_get (pc := 24) K d_M_looksAt_24 fl_M_353 tm_0 rfl rfl ?_
  refine gk_imul (pc := 27) K d_M_looksAt_27 ?_
  refine gk_iconst (pc := 28) K d_M_looksAt_28 kc_1 ?_
  refine gk_isub (pc := 29) K d_M_looksAt_29 ?_
  refine gk_topi h (fun v5 h => ?_)
  refine gk_istore_n (lv2 := [(3, .int v5), (2, .int v4), (0, .ref 0), (1, .int a1)]) (pc := 30) K d_M_looksAt_30 (by decide) rfl ?_
  exact gk_sub [2, 3, 1, 0] rfl (s_M_looksAt_31 K _ _ _ _ _  h)
theorem s_M_looksAt {l : Launch} {u : gk_U} (hD : gk_D tm u) {a1 : Int32} {m0 mem2 : gk_M} {r : Unit} (h : f_M_looksAt a1 m0 = some (r, mem2)) : gk_C tm l u me_M_looksAt 72 [.ref 0, .int a1] m0 none mem2 :=
  gk_enter hD mc_M_looksAt (Nat.le_of_ble_eq_true rfl) rfl (fun z _ _ K => s_M_looksAt_0 K _ _  h)
theorem d_M_game_0 : decode me_M_game.2.1 0 = .ok (.iload_n 1, 1) := by decide +kernel
theorem d_M_game_1 : decode me_M_game.2.1 1 = .ok (.invokestatic 133, 3) := by decide +kernel
theorem d_M_game_4 : decode me_M_game.2.1 4 = .ok (.ifCond .eq 55, 3) := by decide +kernel
theorem d_M_game_7 : decode me_M_game.2.1 7 = .ok (.iload_n 2, 1) := by decide +kernel
theorem d_M_game_8 : decode me_M_game.2.1 8 = .ok (.i2l, 1) := by decide +kernel
theorem d_M_game_9 : decode me_M_game.2.1 9 = .ok (.ldc2_w 153, 3) := by decide +kernel
theorem d_M_game_12 : decode me_M_game.2.1 12 = .ok (.ldc2_w 368, 3) := by decide +kernel
theorem d_M_game_15 : decode me_M_game.2.1 15 = .ok (.invokestatic 102, 3) := by decide +kernel
theorem d_M_game_18 : decode me_M_game.2.1 18 = .ok (.ifCond .eq 41, 3) := by decide +kernel
theorem d_M_game_21 : decode me_M_game.2.1 21 = .ok (.iload_n 3, 1) := by decide +kernel
theorem d_M_game_22 : decode me_M_game.2.1 22 = .ok (.i2l, 1) := by decide +kernel
theorem d_M_game_23 : decode me_M_game.2.1 23 = .ok (.lconst 0, 1) := by decide +kernel
theorem d_M_game_24 : decode me_M_game.2.1 24 = .ok (.lconst 1, 1) := by decide +kernel
theorem d_M_game_25 : decode me_M_game.2.1 25 = .ok (.invokestatic 102, 3) := by decide +kernel
theorem d_M_game_28 : decode me_M_game.2.1 28 = .ok (.ifCond .eq 31, 3) := by decide +kernel
theorem d_M_game_31 : decode me_M_game.2.1 31 = .ok (.iload_n 1, 1) := by decide +kernel
theorem d_M_game_32 : decode me_M_game.2.1 32 = .ok (.bipush 30, 2) := by decide +kernel
theorem d_M_game_34 : decode me_M_game.2.1 34 = .ok (.irem, 1) := by decide +kernel
theorem d_M_game_35 : decode me_M_game.2.1 35 = .ok (.iload_n 2, 1) := by decide +kernel
theorem d_M_game_36 : decode me_M_game.2.1 36 = .ok (.bipush 10, 2) := by decide +kernel
theorem d_M_game_38 : decode me_M_game.2.1 38 = .ok (.idiv, 1) := by decide +kernel
theorem d_M_game_39 : decode me_M_game.2.1 39 = .ok (.iadd, 1) := by decide +kernel
theorem d_M_game_40 : decode me_M_game.2.1 40 = .ok (.bipush 30, 2) := by decide +kernel
theorem d_M_game_42 : decode me_M_game.2.1 42 = .ok (.if_icmp .gt 17, 3) := by decide +kernel
theorem d_M_game_45 : decode me_M_game.2.1 45 = .ok (.iload_n 1, 1) := by decide +kernel
theorem d_M_game_46 : decode me_M_game.2.1 46 = .ok (.bipush 30, 2) := by decide +kernel
theorem d_M_game_48 : decode me_M_game.2.1 48 = .ok (.idiv, 1) := by decide +kernel
theorem d_M_game_49 : decode me_M_game.2.1 49 = .ok (.iload_n 2, 1) := by decide +kernel
theorem d_M_game_50 : decode me_M_game.2.1 50 = .ok (.bipush 10, 2) := by decide +kernel
theorem d_M_game_52 : decode me_M_game.2.1 52 = .ok (.idiv, 1) := by decide +kernel
theorem d_M_game_53 : decode me_M_game.2.1 53 = .ok (.iadd, 1) := by decide +kernel
theorem d_M_game_54 : decode me_M_game.2.1 54 = .ok (.bipush 30, 2) := by decide +kernel
theorem d_M_game_56 : decode me_M_game.2.1 56 = .ok (.if_icmp .le 5, 3) := by decide +kernel
theorem d_M_game_59 : decode me_M_game.2.1 59 = .ok (.iconst (-1), 1) := by decide +kernel
theorem d_M_game_60 : decode me_M_game.2.1 60 = .ok (.ireturn, 1) := by decide +kernel
theorem d_M_game_61 : decode me_M_game.2.1 61 = .ok (.aload_n 0, 1) := by decide +kernel
theorem d_M_game_62 : decode me_M_game.2.1 62 = .ok (.iload_n 1, 1) := by decide +kernel
theorem d_M_game_63 : decode me_M_game.2.1 63 = .ok (.putfield 350, 3) := by decide +kernel
theorem d_M_game_66 : decode me_M_game.2.1 66 = .ok (.aload_n 0, 1) := by decide +kernel
theorem d_M_game_67 : decode me_M_game.2.1 67 = .ok (.iload_n 2, 1) := by decide +kernel
theorem d_M_game_68 : decode me_M_game.2.1 68 = .ok (.bipush 10, 2) := by decide +kernel
theorem d_M_game_70 : decode me_M_game.2.1 70 = .ok (.idiv, 1) := by decide +kernel
theorem d_M_game_71 : decode me_M_game.2.1 71 = .ok (.putfield 353, 3) := by decide +kernel
theorem d_M_game_74 : decode me_M_game.2.1 74 = .ok (.aload_n 0, 1) := by decide +kernel
theorem d_M_game_75 : decode me_M_game.2.1 75 = .ok (.iload_n 2, 1) := by decide +kernel
theorem d_M_game_76 : decode me_M_game.2.1 76 = .ok (.bipush 10, 2) := by decide +kernel
theorem d_M_game_78 : decode me_M_game.2.1 78 = .ok (.irem, 1) := by decide +kernel
theorem d_M_game_79 : decode me_M_game.2.1 79 = .ok (.putfield 359, 3) := by decide +kernel
theorem d_M_game_82 : decode me_M_game.2.1 82 = .ok (.iconst 1, 1) := by decide +kernel
theorem d_M_game_83 : decode me_M_game.2.1 83 = .ok (.aload_n 0, 1) := by decide +kernel
theorem d_M_game_84 : decode me_M_game.2.1 84 = .ok (.getfield 353, 3) := by decide +kernel
theorem d_M_game_87 : decode me_M_game.2.1 87 = .ok (.aload_n 0, 1) := by decide +kernel
theorem d_M_game_88 : decode me_M_game.2.1 88 = .ok (.getfield 353, 3) := by decide +kernel
theorem d_M_game_91 : decode me_M_game.2.1 91 = .ok (.imul, 1) := by decide +kernel
theorem d_M_game_92 : decode me_M_game.2.1 92 = .ok (.ishl, 1) := by decide +kernel
theorem d_M_game_93 : decode me_M_game.2.1 93 = .ok (.iconst 1, 1) := by decide +kernel
theorem d_M_game_94 : decode me_M_game.2.1 94 = .ok (.isub, 1) := by decide +kernel
theorem d_M_game_95 : decode me_M_game.2.1 95 = .ok (.istore 4, 2) := by decide +kernel
theorem d_M_game_97 : decode me_M_game.2.1 97 = .ok (.iload 4, 2) := by decide +kernel
theorem d_M_game_99 : decode me_M_game.2.1 99 = .ok (.ifCond .lt 30, 3) := by decide +kernel
theorem d_M_game_102 : decode me_M_game.2.1 102 = .ok (.aload_n 0, 1) := by decide +kernel
theorem d_M_game_103 : decode me_M_game.2.1 103 = .ok (.getfield 106, 3) := by decide +kernel
theorem d_M_game_106 : decode me_M_game.2.1 106 = .ok (.iload 4, 2) := by decide +kernel
theorem d_M_game_108 : decode me_M_game.2.1 108 = .ok (.invokestatic 370, 3) := by decide +kernel
theorem d_M_game_111 : decode me_M_game.2.1 111 = .ok (.iadd, 1) := by decide +kernel
theorem d_M_game_112 : decode me_M_game.2.1 112 = .ok (.bipush 10, 2) := by decide +kernel
theorem d_M_game_114 : decode me_M_game.2.1 114 = .ok (.if_icmp .gt 9, 3) := by decide +kernel
theorem d_M_game_117 : decode me_M_game.2.1 117 = .ok (.aload_n 0, 1) := by decide +kernel
theorem d_M_game_118 : decode me_M_game.2.1 118 = .ok (.iload 4, 2) := by decide +kernel
theorem d_M_game_120 : decode me_M_game.2.1 120 = .ok (.invokevirtual 373, 3) := by decide +kernel
theorem d_M_game_123 : decode me_M_game.2.1 123 = .ok (.iinc 4 (-1), 3) := by decide +kernel
theorem d_M_game_126 : decode me_M_game.2.1 126 = .ok (.goto (-29), 3) := by decide +kernel
theorem d_M_game_129 : decode me_M_game.2.1 129 = .ok (.iload_n 3, 1) := by decide +kernel
theorem d_M_game_130 : decode me_M_game.2.1 130 = .ok (.ifCond .ne 21, 3) := by decide +kernel
theorem d_M_game_133 : decode me_M_game.2.1 133 = .ok (.aload_n 0, 1) := by decide +kernel
theorem d_M_game_134 : decode me_M_game.2.1 134 = .ok (.getfield 62, 3) := by decide +kernel
theorem d_M_game_137 : decode me_M_game.2.1 137 = .ok (.iconst 0, 1) := by decide +kernel
theorem d_M_game_138 : decode me_M_game.2.1 138 = .ok (.iaload, 1) := by decide +kernel
theorem d_M_game_139 : decode me_M_game.2.1 139 = .ok (.iconst 1, 1) := by decide +kernel
theorem d_M_game_140 : decode me_M_game.2.1 140 = .ok (.if_icmp .ne 7, 3) := by decide +kernel
theorem d_M_game_143 : decode me_M_game.2.1 143 = .ok (.iconst 1, 1) := by decide +kernel
theorem d_M_game_144 : decode me_M_game.2.1 144 = .ok (.goto 11, 3) := by decide +kernel
theorem d_M_game_147 : decode me_M_game.2.1 147 = .ok (.iconst 0, 1) := by decide +kernel
theorem d_M_game_148 : decode me_M_game.2.1 148 = .ok (.goto 7, 3) := by decide +kernel
theorem d_M_game_151 : decode me_M_game.2.1 151 = .ok (.aload_n 0, 1) := by decide +kernel
theorem d_M_game_152 : decode me_M_game.2.1 152 = .ok (.getfield 362, 3) := by decide +kernel
theorem d_M_game_155 : decode me_M_game.2.1 155 = .ok (.ireturn, 1) := by decide +kernel
noncomputable def f_M_game_97  : Nat → Int32 → Int32 → gk_M → Option (Int32 × gk_M)
  | 0, _, _, _ => none
  | n + 1, a3, a4, m0 =>
    if a4 < 0 then
      if ¬ a3 = 0 then
        some ((m0.1 0 35), m0)
      else
        gk_ai m0 18 512 0 fun v1 =>
        if ¬ v1 = 1 then
          some (0, m0)
        else
          some (1, m0)
    else
      gk_bi (f_M_bitsOf a4 m0) fun v3 m2 =>
      if 10 < ((m0.1 0 6) + v3) then
        f_M_game_97 n a3 (a4 + (-1)) m2
      else
        gk_bv (f_M_looksAt a4 m2) fun m4 =>
        f_M_game_97 n a3 (a4 + (-1)) m4

theorem s_M_game_97 {z : gk_Z} (K : gk_F tm z me_M_game 73) {r : Int32} {mem2 : gk_M} : ∀ n a3 a4 m0, f_M_game_97 n a3 a4 m0 = some (r, mem2) → gk_G tm z me_M_game (gk_R tm z (some (.int r)) mem2) m0 [(0, .ref 0), (3, .int a3), (4, .int a4)] [] 97 := by
  intro n
  induction n with
  | zero => intro a3 a4 m0  h; exact nomatch (show (none : Option _) = some _ from h)
  | succ n ih =>
    intro a3 a4 m0  h
    unfold f_M_game_97 at h
    refine gk_iload (pc := 97) K d_M_game_97 rfl ?_
    refine gk_if_lt (tgt := 129) (pc := 99) K d_M_game_99 (by decide) h (fun h => ?_) (fun h => ?_)
    · refine gk_iload_n (pc := 129) K d_M_game_129 rfl ?_
      refine gk_if_ne (tgt := 151) (pc := 130) K d_M_game_130 (by decide) h (fun h => ?_) (fun h => ?_)
      · refine gk_aload_n (pc := 151) K d_M_game_151 rfl ?_
        refine gk_get (pc := 152) K d_M_game_152 fl_M_362 tm_0 rfl rfl ?_
        exact gk_iret (pc := 155) K d_M_game_155 rfl h
      · refine gk_aload_n (pc := 133) K d_M_game_133 rfl ?_
        refine gk_get (pc := 134) K d_M_game_134 fl_M_62 tm_0 rfl rfl ?_
        refine gk_iconst (pc := 137) K d_M_game_137 kc_0 ?_
        refine gk_iald (pc := 138) K d_M_game_138 tm_18 h (fun v1 h => ?_)
        refine gk_iconst (pc := 139) K d_M_game_139 kc_1 ?_
        refine gk_ic_ne (tgt := 147) (pc := 140) K d_M_game_140 (by decide) h (fun h => ?_) (fun h => ?_)
        · refine gk_iconst (pc := 147) K d_M_game_147 kc_0 ?_
          refine gk_goto (tgt := 155) (pc := 148) K d_M_game_148 (by decide) ?_
          exact gk_iret (pc := 155) K d_M_game_155 rfl h
        · refine gk_iconst (pc := 143) K d_M_game_143 kc_1 ?_
          refine gk_goto (tgt := 155) (pc := 144) K d_M_game_144 (by decide) ?_
          exact gk_iret (pc := 155) K d_M_game_155 rfl h
    · refine gk_aload_n (pc := 102) K d_M_game_102 rfl ?_
      refine gk_get (pc := 103) K d_M_game_103 fl_M_106 tm_0 rfl rfl ?_
      refine gk_iload (pc := 106) K d_M_game_106 rfl ?_
      obtain ⟨v3, m2, em2, h⟩ := gk_bi_some h
      refine gk_cSi (As := [.int a4]) (pc := 108) K d_M_game_108 ms_M_370 mc_M_bitsOf rfl (s_M_bitsOf (gk_FD K)  em2) (by decide) rfl (Nat.le_of_ble_eq_true rfl) ?_
      refine gk_iadd (pc := 111) K d_M_game_111 ?_
      refine gk_bipush (pc := 112) K d_M_game_112 kb_10 ?_
      refine gk_ic_gt (tgt := 123) (pc := 114) K d_M_game_114 (by decide) h (fun h => ?_) (fun h => ?_)
      · refine gk_iinc2 (lv2 := [(4, .int (a4 + (-1))), (0, .ref 0), (3, .int a3)]) (pc := 123) K d_M_game_123 rfl kc_m1 (by decide) rfl ?_
        refine gk_goto (tgt := 97) (pc := 126) K d_M_game_126 (by decide) ?_
        exact gk_sub [1, 2, 0] rfl (ih _ _ _  h)
      · refine gk_aload_n (pc := 117) K d_M_game_117 rfl ?_
        refine gk_iload (pc := 118) K d_M_game_118 rfl ?_
        obtain ⟨m4, em4, h⟩ := gk_bv_some h
        refine gk_cVv (As := [.int a4]) (pc := 120) K d_M_game_120 mv_M_373 mc_M_looksAt rfl tm_0 cl_ok10.1 (s_M_looksAt (gk_FD K)  em4) (by decide) rfl (Nat.le_of_ble_eq_true rfl) ?_
        refine gk_iinc2 (lv2 := [(4, .int (a4 + (-1))), (0, .ref 0), (3, .int a3)]) (pc := 123) K d_M_game_123 rfl kc_m1 (by decide) rfl ?_
        refine gk_goto (tgt := 97) (pc := 126) K d_M_game_126 (by decide) ?_
        exact gk_sub [1, 2, 0] rfl (ih _ _ _  h)
noncomputable def f_M_game  (a1 : Int32) (a2 : Int32) (a3 : Int32) (m0 : gk_M) : Option (Int32 × gk_M) :=
  gk_bi (f_M_isPoint a1 m0) fun v2 m1 =>
  if v2 = 0 then
    some ((-1), m1)
  else
    gk_bi (f_M_within a2.toInt64 20 39 m1) fun v4 m3 =>
    if v4 = 0 then
      some ((-1), m3)
    else
      gk_bi (f_M_within a3.toInt64 0 1 m3) fun v6 m5 =>
      if v6 = 0 then
        some ((-1), m5)
      else
        if 30 < ((gk_rem a1 30) + (a2 / 10)) then
          some ((-1), m5)
        else
          if ((a1 / 30) + (a2 / 10)) ≤ 30 then
            gk_let (gk_mi m5 0 32 a1) fun m7 =>
            gk_let (gk_mi m7 0 33 (a2 / 10)) fun m8 =>
            gk_let (gk_mi m8 0 34 (gk_rem a2 10)) fun m9 =>
            gk_let ((1 <<< (((m9.1 0 33) * (m9.1 0 33)) &&& 31)) - 1) fun v10 =>
            f_M_game_97 gk_fv a3 v10 m9
          else
            some ((-1), m5)

theorem s_M_game_0 {z : gk_Z} (K : gk_F tm z me_M_game 73) {r : Int32} {mem2 : gk_M} : ∀ a1 a2 a3 m0, f_M_game a1 a2 a3 m0 = some (r, mem2) → gk_G tm z me_M_game (gk_R tm z (some (.int r)) mem2) m0 [(0, .ref 0), (1, .int a1), (2, .int a2), (3, .int a3)] [] 0 := by
  intro a1 a2 a3 m0  h
  unfold f_M_game at h
  refine gk_iload_n (pc := 0) K d_M_game_0 rfl ?_
  obtain ⟨v2, m1, em1, h⟩ := gk_bi_some h
  refine gk_cSi (As := [.int a1]) (pc := 1) K d_M_game_1 ms_M_133 mc_M_isPoint rfl (s_M_isPoint (gk_FD K)  em1) (by decide) rfl (Nat.le_of_ble_eq_true rfl) ?_
  refine gk_if_eq (tgt := 59) (pc := 4) K d_M_game_4 (by decide) h (fun h => ?_) (fun h => ?_)
  · refine gk_iconst (pc := 59) K d_M_game_59 kc_m1 ?_
    exact gk_iret (pc := 60) K d_M_game_60 rfl h
  · refine gk_iload_n (pc := 7) K d_M_game_7 rfl ?_
    refine gk_i2l (pc := 8) K d_M_game_8 ?_
    refine gk_ldc2 (pc := 9) K d_M_game_9 lc_M_153 ?_
    refine gk_ldc2 (pc := 12) K d_M_game_12 lc_M_368 ?_
    obtain ⟨v4, m3, em3, h⟩ := gk_bi_some h
    refine gk_cSi (As := [.long a2.toInt64, .long 20, .long 39]) (pc := 15) K d_M_game_15 ms_M_102 mc_M_within rfl (s_M_within (gk_FD K)  em3) (by decide) rfl (Nat.le_of_ble_eq_true rfl) ?_
    refine gk_if_eq (tgt := 59) (pc := 18) K d_M_game_18 (by decide) h (fun h => ?_) (fun h => ?_)
    · refine gk_iconst (pc := 59) K d_M_game_59 kc_m1 ?_
      exact gk_iret (pc := 60) K d_M_game_60 rfl h
    · refine gk_iload_n (pc := 21) K d_M_game_21 rfl ?_
      refine gk_i2l (pc := 22) K d_M_game_22 ?_
      refine gk_lconst (pc := 23) K d_M_game_23 kl_0 ?_
      refine gk_lconst (pc := 24) K d_M_game_24 kl_1 ?_
      obtain ⟨v6, m5, em5, h⟩ := gk_bi_some h
      refine gk_cSi (As := [.long a3.toInt64, .long 0, .long 1]) (pc := 25) K d_M_game_25 ms_M_102 mc_M_within rfl (s_M_within (gk_FD K)  em5) (by decide) rfl (Nat.le_of_ble_eq_true rfl) ?_
      refine gk_if_eq (tgt := 59) (pc := 28) K d_M_game_28 (by decide) h (fun h => ?_) (fun h => ?_)
      · refine gk_iconst (pc := 59) K d_M_game_59 kc_m1 ?_
        exact gk_iret (pc := 60) K d_M_game_60 rfl h
      · refine gk_iload_n (pc := 31) K d_M_game_31 rfl ?_
        refine gk_bipush (pc := 32) K d_M_game_32 kb_30 ?_
        refine gk_iremc2 (pc := 34) K d_M_game_34 (by decide) ?_
        refine gk_iload_n (pc := 35) K d_M_game_35 rfl ?_
        refine gk_bipush (pc := 36) K d_M_game_36 kb_10 ?_
        refine gk_idivc2 (pc := 38) K d_M_game_38 (by decide) ?_
        refine gk_iadd (pc := 39) K d_M_game_39 ?_
        refine gk_bipush (pc := 40) K d_M_game_40 kb_30 ?_
        refine gk_ic_gt (tgt := 59) (pc := 42) K d_M_game_42 (by decide) h (fun h => ?_) (fun h => ?_)
        · refine gk_iconst (pc := 59) K d_M_game_59 kc_m1 ?_
          exact gk_iret (pc := 60) K d_M_game_60 rfl h
        · refine gk_iload_n (pc := 45) K d_M_game_45 rfl ?_
          refine gk_bipush (pc := 46) K d_M_game_46 kb_30 ?_
          refine gk_idivc2 (pc := 48) K d_M_game_48 (by decide) ?_
          refine gk_iload_n (pc := 49) K d_M_game_49 rfl ?_
          refine gk_bipush (pc := 50) K d_M_game_50 kb_10 ?_
          refine gk_idivc2 (pc := 52) K d_M_game_52 (by decide) ?_
          refine gk_iadd (pc := 53) K d_M_game_53 ?_
          refine gk_bipush (pc := 54) K d_M_game_54 kb_30 ?_
          refine gk_ic_le (tgt := 61) (pc := 56) K d_M_game_56 (by decide) h (fun h => ?_) (fun h => ?_)
          · refine gk_aload_n (pc := 61) K d_M_game_61 rfl ?_
            refine gk_iload_n (pc := 62) K d_M_game_62 rfl ?_
            refine gk_puti (pc := 63) K d_M_game_63 fp_M_350 tm_0 rfl h (fun m7 h => ?_)
            refine gk_aload_n (pc := 66) K d_M_game_66 rfl ?_
            refine gk_iload_n (pc := 67) K d_M_game_67 rfl ?_
            refine gk_bipush (pc := 68) K d_M_game_68 kb_10 ?_
            refine gk_idivc2 (pc := 70) K d_M_game_70 (by decide) ?_
            refine gk_puti (pc := 71) K d_M_game_71 fp_M_353 tm_0 rfl h (fun m8 h => ?_)
            refine gk_aload_n (pc := 74) K d_M_game_74 rfl ?_
            refine gk_iload_n (pc := 75) K d_M_game_75 rfl ?_
            refine gk_bipush (pc := 76) K d_M_game_76 kb_10 ?_
            refine gk_iremc2 (pc := 78) K d_M_game_78 (by decide) ?_
            refine gk_puti (pc := 79) K d_M_game_79 fp_M_359 tm_0 rfl h (fun m9 h => ?_)
            refine gk_iconst (pc := 82) K d_M_game_82 kc_1 ?_
            refine gk_aload_n (pc := 83) K d_M_game_83 rfl ?_
            refine gk_get (pc := 84) K d_M_game_84 fl_M_353 tm_0 rfl rfl ?_
            refine gk_aload_n (pc := 87) K d_M_game_87 rfl ?_
            refine gk_get (pc := 88) K d_M_game_88 fl_M_353 tm_0 rfl rfl ?_
            refine gk_imul (pc := 91) K d_M_game_91 ?_
            refine gk_ishl (pc := 92) K d_M_game_92 ?_
            refine gk_iconst (pc := 93) K d_M_game_93 kc_1 ?_
            refine gk_isub (pc := 94) K d_M_game_94 ?_
            refine gk_topi h (fun v10 h => ?_)
            refine gk_istore (lv2 := [(4, .int v10), (0, .ref 0), (1, .int a1), (2, .int a2), (3, .int a3)]) (pc := 95) K d_M_game_95 (by decide) rfl ?_
            exact gk_sub [1, 4, 0] rfl (s_M_game_97 K _ _ _ _  h)
          · refine gk_iconst (pc := 59) K d_M_game_59 kc_m1 ?_
            exact gk_iret (pc := 60) K d_M_game_60 rfl h
theorem s_M_game {l : Launch} {u : gk_U} (hD : gk_D tm u) {a1 : Int32} {a2 : Int32} {a3 : Int32} {m0 mem2 : gk_M} {r : Int32} (h : f_M_game a1 a2 a3 m0 = some (r, mem2)) : gk_C tm l u me_M_game 73 [.ref 0, .int a1, .int a2, .int a3] m0 (some (.int r)) mem2 :=
  gk_enter hD mc_M_game (Nat.le_of_ble_eq_true rfl) rfl (fun z _ _ K => s_M_game_0 K _ _ _ _  h)
theorem d_M_sight_0 : decode me_M_sight.2.1 0 = .ok (.iload_n 1, 1) := by decide +kernel
theorem d_M_sight_1 : decode me_M_sight.2.1 1 = .ok (.invokestatic 133, 3) := by decide +kernel
theorem d_M_sight_4 : decode me_M_sight.2.1 4 = .ok (.ifCond .eq 15, 3) := by decide +kernel
theorem d_M_sight_7 : decode me_M_sight.2.1 7 = .ok (.iload_n 2, 1) := by decide +kernel
theorem d_M_sight_8 : decode me_M_sight.2.1 8 = .ok (.i2l, 1) := by decide +kernel
theorem d_M_sight_9 : decode me_M_sight.2.1 9 = .ok (.lconst 0, 1) := by decide +kernel
theorem d_M_sight_10 : decode me_M_sight.2.1 10 = .ok (.ldc2_w 377, 3) := by decide +kernel
theorem d_M_sight_13 : decode me_M_sight.2.1 13 = .ok (.invokestatic 102, 3) := by decide +kernel
theorem d_M_sight_16 : decode me_M_sight.2.1 16 = .ok (.ifCond .ne 5, 3) := by decide +kernel
theorem d_M_sight_19 : decode me_M_sight.2.1 19 = .ok (.iconst (-1), 1) := by decide +kernel
theorem d_M_sight_20 : decode me_M_sight.2.1 20 = .ok (.ireturn, 1) := by decide +kernel
theorem d_M_sight_21 : decode me_M_sight.2.1 21 = .ok (.aload_n 0, 1) := by decide +kernel
theorem d_M_sight_22 : decode me_M_sight.2.1 22 = .ok (.getfield 379, 3) := by decide +kernel
theorem d_M_sight_25 : decode me_M_sight.2.1 25 = .ok (.bipush 10, 2) := by decide +kernel
theorem d_M_sight_27 : decode me_M_sight.2.1 27 = .ok (.if_icmp .ne 6, 3) := by decide +kernel
theorem d_M_sight_30 : decode me_M_sight.2.1 30 = .ok (.bipush (-3), 2) := by decide +kernel
theorem d_M_sight_32 : decode me_M_sight.2.1 32 = .ok (.ireturn, 1) := by decide +kernel
theorem d_M_sight_33 : decode me_M_sight.2.1 33 = .ok (.aload_n 0, 1) := by decide +kernel
theorem d_M_sight_34 : decode me_M_sight.2.1 34 = .ok (.getfield 65, 3) := by decide +kernel
theorem d_M_sight_37 : decode me_M_sight.2.1 37 = .ok (.aload_n 0, 1) := by decide +kernel
theorem d_M_sight_38 : decode me_M_sight.2.1 38 = .ok (.getfield 379, 3) := by decide +kernel
theorem d_M_sight_41 : decode me_M_sight.2.1 41 = .ok (.iload_n 1, 1) := by decide +kernel
theorem d_M_sight_42 : decode me_M_sight.2.1 42 = .ok (.iastore, 1) := by decide +kernel
theorem d_M_sight_43 : decode me_M_sight.2.1 43 = .ok (.aload_n 0, 1) := by decide +kernel
theorem d_M_sight_44 : decode me_M_sight.2.1 44 = .ok (.getfield 68, 3) := by decide +kernel
theorem d_M_sight_47 : decode me_M_sight.2.1 47 = .ok (.aload_n 0, 1) := by decide +kernel
theorem d_M_sight_48 : decode me_M_sight.2.1 48 = .ok (.getfield 379, 3) := by decide +kernel
theorem d_M_sight_51 : decode me_M_sight.2.1 51 = .ok (.iload_n 2, 1) := by decide +kernel
theorem d_M_sight_52 : decode me_M_sight.2.1 52 = .ok (.iastore, 1) := by decide +kernel
theorem d_M_sight_53 : decode me_M_sight.2.1 53 = .ok (.aload_n 0, 1) := by decide +kernel
theorem d_M_sight_54 : decode me_M_sight.2.1 54 = .ok (.dup, 1) := by decide +kernel
theorem d_M_sight_55 : decode me_M_sight.2.1 55 = .ok (.getfield 379, 3) := by decide +kernel
theorem d_M_sight_58 : decode me_M_sight.2.1 58 = .ok (.iconst 1, 1) := by decide +kernel
theorem d_M_sight_59 : decode me_M_sight.2.1 59 = .ok (.iadd, 1) := by decide +kernel
theorem d_M_sight_60 : decode me_M_sight.2.1 60 = .ok (.putfield 379, 3) := by decide +kernel
theorem d_M_sight_63 : decode me_M_sight.2.1 63 = .ok (.aload_n 0, 1) := by decide +kernel
theorem d_M_sight_64 : decode me_M_sight.2.1 64 = .ok (.getfield 379, 3) := by decide +kernel
theorem d_M_sight_67 : decode me_M_sight.2.1 67 = .ok (.iconst 1, 1) := by decide +kernel
theorem d_M_sight_68 : decode me_M_sight.2.1 68 = .ok (.isub, 1) := by decide +kernel
theorem d_M_sight_69 : decode me_M_sight.2.1 69 = .ok (.ireturn, 1) := by decide +kernel
noncomputable def f_M_sight  (a1 : Int32) (a2 : Int32) (m0 : gk_M) : Option (Int32 × gk_M) :=
  gk_bi (f_M_isPoint a1 m0) fun v2 m1 =>
  if v2 = 0 then
    some ((-1), m1)
  else
    gk_bi (f_M_within a2.toInt64 0 1023 m1) fun v4 m3 =>
    if ¬ v4 = 0 then
      if ¬ (m3.1 0 36) = 10 then
        gk_si m3 19 10 (m3.1 0 36) a1 fun m5 =>
        gk_si m5 20 10 (m5.1 0 36) a2 fun m6 =>
        gk_let (gk_mi m6 0 36 ((m6.1 0 36) + 1)) fun m7 =>
        some (((m7.1 0 36) - 1), m7)
      else
        some ((-3), m3)
    else
      some ((-1), m3)

theorem s_M_sight_0 {z : gk_Z} (K : gk_F tm z me_M_sight 3) {r : Int32} {mem2 : gk_M} : ∀ a1 a2 m0, f_M_sight a1 a2 m0 = some (r, mem2) → gk_G tm z me_M_sight (gk_R tm z (some (.int r)) mem2) m0 [(0, .ref 0), (1, .int a1), (2, .int a2)] [] 0 := by
  intro a1 a2 m0  h
  unfold f_M_sight at h
  refine gk_iload_n (pc := 0) K d_M_sight_0 rfl ?_
  obtain ⟨v2, m1, em1, h⟩ := gk_bi_some h
  refine gk_cSi (As := [.int a1]) (pc := 1) K d_M_sight_1 ms_M_133 mc_M_isPoint rfl (s_M_isPoint (gk_FD K)  em1) (by decide) rfl (Nat.le_of_ble_eq_true rfl) ?_
  refine gk_if_eq (tgt := 19) (pc := 4) K d_M_sight_4 (by decide) h (fun h => ?_) (fun h => ?_)
  · refine gk_iconst (pc := 19) K d_M_sight_19 kc_m1 ?_
    exact gk_iret (pc := 20) K d_M_sight_20 rfl h
  · refine gk_iload_n (pc := 7) K d_M_sight_7 rfl ?_
    refine gk_i2l (pc := 8) K d_M_sight_8 ?_
    refine gk_lconst (pc := 9) K d_M_sight_9 kl_0 ?_
    refine gk_ldc2 (pc := 10) K d_M_sight_10 lc_M_377 ?_
    obtain ⟨v4, m3, em3, h⟩ := gk_bi_some h
    refine gk_cSi (As := [.long a2.toInt64, .long 0, .long 1023]) (pc := 13) K d_M_sight_13 ms_M_102 mc_M_within rfl (s_M_within (gk_FD K)  em3) (by decide) rfl (Nat.le_of_ble_eq_true rfl) ?_
    refine gk_if_ne (tgt := 21) (pc := 16) K d_M_sight_16 (by decide) h (fun h => ?_) (fun h => ?_)
    · refine gk_aload_n (pc := 21) K d_M_sight_21 rfl ?_
      refine gk_get (pc := 22) K d_M_sight_22 fl_M_379 tm_0 rfl rfl ?_
      refine gk_bipush (pc := 25) K d_M_sight_25 kb_10 ?_
      refine gk_ic_ne (tgt := 33) (pc := 27) K d_M_sight_27 (by decide) h (fun h => ?_) (fun h => ?_)
      · refine gk_aload_n (pc := 33) K d_M_sight_33 rfl ?_
        refine gk_get (pc := 34) K d_M_sight_34 fl_M_65 tm_0 rfl rfl ?_
        refine gk_aload_n (pc := 37) K d_M_sight_37 rfl ?_
        refine gk_get (pc := 38) K d_M_sight_38 fl_M_379 tm_0 rfl rfl ?_
        refine gk_iload_n (pc := 41) K d_M_sight_41 rfl ?_
        refine gk_iast (pc := 42) K d_M_sight_42 tm_19 h (fun m5 h => ?_)
        refine gk_aload_n (pc := 43) K d_M_sight_43 rfl ?_
        refine gk_get (pc := 44) K d_M_sight_44 fl_M_68 tm_0 rfl rfl ?_
        refine gk_aload_n (pc := 47) K d_M_sight_47 rfl ?_
        refine gk_get (pc := 48) K d_M_sight_48 fl_M_379 tm_0 rfl rfl ?_
        refine gk_iload_n (pc := 51) K d_M_sight_51 rfl ?_
        refine gk_iast (pc := 52) K d_M_sight_52 tm_20 h (fun m6 h => ?_)
        refine gk_aload_n (pc := 53) K d_M_sight_53 rfl ?_
        refine gk_dup (pc := 54) K d_M_sight_54 rfl ?_
        refine gk_get (pc := 55) K d_M_sight_55 fl_M_379 tm_0 rfl rfl ?_
        refine gk_iconst (pc := 58) K d_M_sight_58 kc_1 ?_
        refine gk_iadd (pc := 59) K d_M_sight_59 ?_
        refine gk_puti (pc := 60) K d_M_sight_60 fp_M_379 tm_0 rfl h (fun m7 h => ?_)
        refine gk_aload_n (pc := 63) K d_M_sight_63 rfl ?_
        refine gk_get (pc := 64) K d_M_sight_64 fl_M_379 tm_0 rfl rfl ?_
        refine gk_iconst (pc := 67) K d_M_sight_67 kc_1 ?_
        refine gk_isub (pc := 68) K d_M_sight_68 ?_
        exact gk_iret (pc := 69) K d_M_sight_69 rfl h
      · refine gk_bipush (pc := 30) K d_M_sight_30 kb_m3 ?_
        exact gk_iret (pc := 32) K d_M_sight_32 rfl h
    · refine gk_iconst (pc := 19) K d_M_sight_19 kc_m1 ?_
      exact gk_iret (pc := 20) K d_M_sight_20 rfl h
theorem s_M_sight {l : Launch} {u : gk_U} (hD : gk_D tm u) {a1 : Int32} {a2 : Int32} {m0 mem2 : gk_M} {r : Int32} (h : f_M_sight a1 a2 m0 = some (r, mem2)) : gk_C tm l u me_M_sight 3 [.ref 0, .int a1, .int a2] m0 (some (.int r)) mem2 :=
  gk_enter hD mc_M_sight (Nat.le_of_ble_eq_true rfl) rfl (fun z _ _ K => s_M_sight_0 K _ _ _  h)
theorem d_M_allSights_0 : decode me_M_allSights.2.1 0 = .ok (.iconst 0, 1) := by decide +kernel
theorem d_M_allSights_1 : decode me_M_allSights.2.1 1 = .ok (.istore_n 1, 1) := by decide +kernel
theorem d_M_allSights_2 : decode me_M_allSights.2.1 2 = .ok (.iload_n 1, 1) := by decide +kernel
theorem d_M_allSights_3 : decode me_M_allSights.2.1 3 = .ok (.aload_n 0, 1) := by decide +kernel
theorem d_M_allSights_4 : decode me_M_allSights.2.1 4 = .ok (.getfield 379, 3) := by decide +kernel
theorem d_M_allSights_7 : decode me_M_allSights.2.1 7 = .ok (.if_icmp .ge 30, 3) := by decide +kernel
theorem d_M_allSights_10 : decode me_M_allSights.2.1 10 = .ok (.aload_n 0, 1) := by decide +kernel
theorem d_M_allSights_11 : decode me_M_allSights.2.1 11 = .ok (.aload_n 0, 1) := by decide +kernel
theorem d_M_allSights_12 : decode me_M_allSights.2.1 12 = .ok (.getfield 65, 3) := by decide +kernel
theorem d_M_allSights_15 : decode me_M_allSights.2.1 15 = .ok (.iload_n 1, 1) := by decide +kernel
theorem d_M_allSights_16 : decode me_M_allSights.2.1 16 = .ok (.iaload, 1) := by decide +kernel
theorem d_M_allSights_17 : decode me_M_allSights.2.1 17 = .ok (.invokevirtual 309, 3) := by decide +kernel
theorem d_M_allSights_20 : decode me_M_allSights.2.1 20 = .ok (.aload_n 0, 1) := by decide +kernel
theorem d_M_allSights_21 : decode me_M_allSights.2.1 21 = .ok (.getfield 68, 3) := by decide +kernel
theorem d_M_allSights_24 : decode me_M_allSights.2.1 24 = .ok (.iload_n 1, 1) := by decide +kernel
theorem d_M_allSights_25 : decode me_M_allSights.2.1 25 = .ok (.iaload, 1) := by decide +kernel
theorem d_M_allSights_26 : decode me_M_allSights.2.1 26 = .ok (.if_icmp .eq 5, 3) := by decide +kernel
theorem d_M_allSights_29 : decode me_M_allSights.2.1 29 = .ok (.iconst 0, 1) := by decide +kernel
theorem d_M_allSights_30 : decode me_M_allSights.2.1 30 = .ok (.ireturn, 1) := by decide +kernel
theorem d_M_allSights_31 : decode me_M_allSights.2.1 31 = .ok (.iinc 1 1, 3) := by decide +kernel
theorem d_M_allSights_34 : decode me_M_allSights.2.1 34 = .ok (.goto (-32), 3) := by decide +kernel
theorem d_M_allSights_37 : decode me_M_allSights.2.1 37 = .ok (.iconst 1, 1) := by decide +kernel
theorem d_M_allSights_38 : decode me_M_allSights.2.1 38 = .ok (.ireturn, 1) := by decide +kernel
noncomputable def f_M_allSights_2  : Nat → Int32 → gk_M → Option (Int32 × gk_M)
  | 0, _, _ => none
  | n + 1, a1, m0 =>
    if (m0.1 0 36) ≤ a1 then
      some (1, m0)
    else
      gk_ai m0 19 10 a1 fun v1 =>
      gk_bi (f_M_seenFrom v1 m0) fun v3 m2 =>
      gk_ai m2 20 10 a1 fun v4 =>
      if v3 = v4 then
        f_M_allSights_2 n (a1 + 1) m2
      else
        some (0, m2)

theorem s_M_allSights_2 {z : gk_Z} (K : gk_F tm z me_M_allSights 6) {r : Int32} {mem2 : gk_M} : ∀ n a1 m0, f_M_allSights_2 n a1 m0 = some (r, mem2) → gk_G tm z me_M_allSights (gk_R tm z (some (.int r)) mem2) m0 [(0, .ref 0), (1, .int a1)] [] 2 := by
  intro n
  induction n with
  | zero => intro a1 m0  h; exact nomatch (show (none : Option _) = some _ from h)
  | succ n ih =>
    intro a1 m0  h
    unfold f_M_allSights_2 at h
    refine gk_iload_n (pc := 2) K d_M_allSights_2 rfl ?_
    refine gk_aload_n (pc := 3) K d_M_allSights_3 rfl ?_
    refine gk_get (pc := 4) K d_M_allSights_4 fl_M_379 tm_0 rfl rfl ?_
    refine gk_ic_ge (tgt := 37) (pc := 7) K d_M_allSights_7 (by decide) h (fun h => ?_) (fun h => ?_)
    · refine gk_iconst (pc := 37) K d_M_allSights_37 kc_1 ?_
      exact gk_zretc (pc := 38) K d_M_allSights_38 rfl (Or.inr rfl) h
    · refine gk_aload_n (pc := 10) K d_M_allSights_10 rfl ?_
      refine gk_aload_n (pc := 11) K d_M_allSights_11 rfl ?_
      refine gk_get (pc := 12) K d_M_allSights_12 fl_M_65 tm_0 rfl rfl ?_
      refine gk_iload_n (pc := 15) K d_M_allSights_15 rfl ?_
      refine gk_iald (pc := 16) K d_M_allSights_16 tm_19 h (fun v1 h => ?_)
      obtain ⟨v3, m2, em2, h⟩ := gk_bi_some h
      refine gk_cVi (As := [.int v1]) (pc := 17) K d_M_allSights_17 mv_M_309 mc_M_seenFrom rfl tm_0 cl_ok10.1 (s_M_seenFrom (gk_FD K)  em2) (by decide) rfl (Nat.le_of_ble_eq_true rfl) ?_
      refine gk_aload_n (pc := 20) K d_M_allSights_20 rfl ?_
      refine gk_get (pc := 21) K d_M_allSights_21 fl_M_68 tm_0 rfl rfl ?_
      refine gk_iload_n (pc := 24) K d_M_allSights_24 rfl ?_
      refine gk_iald (pc := 25) K d_M_allSights_25 tm_20 h (fun v4 h => ?_)
      refine gk_ic_eq (tgt := 31) (pc := 26) K d_M_allSights_26 (by decide) h (fun h => ?_) (fun h => ?_)
      · refine gk_iinc2 (lv2 := [(1, .int (a1 + 1)), (0, .ref 0)]) (pc := 31) K d_M_allSights_31 rfl kc_1 (by decide) rfl ?_
        refine gk_goto (tgt := 2) (pc := 34) K d_M_allSights_34 (by decide) ?_
        exact gk_sub [1, 0] rfl (ih _ _  h)
      · refine gk_iconst (pc := 29) K d_M_allSights_29 kc_0 ?_
        exact gk_zretc (pc := 30) K d_M_allSights_30 rfl (Or.inl rfl) h
noncomputable def f_M_allSights   (m0 : gk_M) : Option (Int32 × gk_M) :=
  f_M_allSights_2 gk_fv 0 m0

theorem s_M_allSights_0 {z : gk_Z} (K : gk_F tm z me_M_allSights 6) {r : Int32} {mem2 : gk_M} : ∀  m0, f_M_allSights  m0 = some (r, mem2) → gk_G tm z me_M_allSights (gk_R tm z (some (.int r)) mem2) m0 [(0, .ref 0)] [] 0 := by
  intro  m0  h
  unfold f_M_allSights at h
  refine gk_iconst (pc := 0) K d_M_allSights_0 kc_0 ?_
  refine gk_istore_n (lv2 := [(1, .int 0), (0, .ref 0)]) (pc := 1) K d_M_allSights_1 (by decide) rfl ?_
  exact gk_sub [1, 0] rfl (s_M_allSights_2 K _ _ _  h)
theorem s_M_allSights {l : Launch} {u : gk_U} (hD : gk_D tm u) {m0 mem2 : gk_M} {r : Int32} (h : f_M_allSights  m0 = some (r, mem2)) : gk_C tm l u me_M_allSights 6 [.ref 0] m0 (some (.int r)) mem2 :=
  gk_enter hD mc_M_allSights (Nat.le_of_ble_eq_true rfl) rfl (fun z _ _ K => s_M_allSights_0 K  _  h)
theorem d_M_fits_0 : decode me_M_fits.2.1 0 = .ok (.aload_n 0, 1) := by decide +kernel
theorem d_M_fits_1 : decode me_M_fits.2.1 1 = .ok (.iload_n 1, 1) := by decide +kernel
theorem d_M_fits_2 : decode me_M_fits.2.1 2 = .ok (.invokevirtual 142, 3) := by decide +kernel
theorem d_M_fits_5 : decode me_M_fits.2.1 5 = .ok (.ifCond .eq 13, 3) := by decide +kernel
theorem d_M_fits_8 : decode me_M_fits.2.1 8 = .ok (.iload_n 2, 1) := by decide +kernel
theorem d_M_fits_9 : decode me_M_fits.2.1 9 = .ok (.i2l, 1) := by decide +kernel
theorem d_M_fits_10 : decode me_M_fits.2.1 10 = .ok (.lconst 0, 1) := by decide +kernel
theorem d_M_fits_11 : decode me_M_fits.2.1 11 = .ok (.lconst 1, 1) := by decide +kernel
theorem d_M_fits_12 : decode me_M_fits.2.1 12 = .ok (.invokestatic 102, 3) := by decide +kernel
theorem d_M_fits_15 : decode me_M_fits.2.1 15 = .ok (.ifCond .ne 5, 3) := by decide +kernel
theorem d_M_fits_18 : decode me_M_fits.2.1 18 = .ok (.iconst (-1), 1) := by decide +kernel
theorem d_M_fits_19 : decode me_M_fits.2.1 19 = .ok (.ireturn, 1) := by decide +kernel
theorem d_M_fits_20 : decode me_M_fits.2.1 20 = .ok (.aload_n 0, 1) := by decide +kernel
theorem d_M_fits_21 : decode me_M_fits.2.1 21 = .ok (.getfield 22, 3) := by decide +kernel
theorem d_M_fits_24 : decode me_M_fits.2.1 24 = .ok (.iload_n 1, 1) := by decide +kernel
theorem d_M_fits_25 : decode me_M_fits.2.1 25 = .ok (.iaload, 1) := by decide +kernel
theorem d_M_fits_26 : decode me_M_fits.2.1 26 = .ok (.istore_n 3, 1) := by decide +kernel
theorem d_M_fits_27 : decode me_M_fits.2.1 27 = .ok (.iconst 0, 1) := by decide +kernel
theorem d_M_fits_28 : decode me_M_fits.2.1 28 = .ok (.istore 4, 2) := by decide +kernel
theorem d_M_fits_30 : decode me_M_fits.2.1 30 = .ok (.bipush (-2), 2) := by decide +kernel
theorem d_M_fits_32 : decode me_M_fits.2.1 32 = .ok (.istore 5, 2) := by decide +kernel
theorem d_M_fits_34 : decode me_M_fits.2.1 34 = .ok (.sipush 899, 3) := by decide +kernel
theorem d_M_fits_37 : decode me_M_fits.2.1 37 = .ok (.istore 6, 2) := by decide +kernel
theorem d_M_fits_39 : decode me_M_fits.2.1 39 = .ok (.iload 6, 2) := by decide +kernel
theorem d_M_fits_41 : decode me_M_fits.2.1 41 = .ok (.ifCond .lt 60, 3) := by decide +kernel
theorem d_M_fits_44 : decode me_M_fits.2.1 44 = .ok (.aload_n 0, 1) := by decide +kernel
theorem d_M_fits_45 : decode me_M_fits.2.1 45 = .ok (.getfield 22, 3) := by decide +kernel
theorem d_M_fits_48 : decode me_M_fits.2.1 48 = .ok (.iload_n 1, 1) := by decide +kernel
theorem d_M_fits_49 : decode me_M_fits.2.1 49 = .ok (.iload_n 3, 1) := by decide +kernel
theorem d_M_fits_50 : decode me_M_fits.2.1 50 = .ok (.iastore, 1) := by decide +kernel
theorem d_M_fits_51 : decode me_M_fits.2.1 51 = .ok (.iload 6, 2) := by decide +kernel
theorem d_M_fits_53 : decode me_M_fits.2.1 53 = .ok (.iload_n 3, 1) := by decide +kernel
theorem d_M_fits_54 : decode me_M_fits.2.1 54 = .ok (.if_icmp .eq 19, 3) := by decide +kernel
theorem d_M_fits_57 : decode me_M_fits.2.1 57 = .ok (.aload_n 0, 1) := by decide +kernel
theorem d_M_fits_58 : decode me_M_fits.2.1 58 = .ok (.iload 6, 2) := by decide +kernel
theorem d_M_fits_60 : decode me_M_fits.2.1 60 = .ok (.aload_n 0, 1) := by decide +kernel
theorem d_M_fits_61 : decode me_M_fits.2.1 61 = .ok (.getfield 106, 3) := by decide +kernel
theorem d_M_fits_64 : decode me_M_fits.2.1 64 = .ok (.invokevirtual 116, 3) := by decide +kernel
theorem d_M_fits_67 : decode me_M_fits.2.1 67 = .ok (.ifCond .ne 6, 3) := by decide +kernel
theorem d_M_fits_70 : decode me_M_fits.2.1 70 = .ok (.goto 25, 3) := by decide +kernel
theorem d_M_fits_73 : decode me_M_fits.2.1 73 = .ok (.aload_n 0, 1) := by decide +kernel
theorem d_M_fits_74 : decode me_M_fits.2.1 74 = .ok (.getfield 22, 3) := by decide +kernel
theorem d_M_fits_77 : decode me_M_fits.2.1 77 = .ok (.iload_n 1, 1) := by decide +kernel
theorem d_M_fits_78 : decode me_M_fits.2.1 78 = .ok (.iload 6, 2) := by decide +kernel
theorem d_M_fits_80 : decode me_M_fits.2.1 80 = .ok (.iastore, 1) := by decide +kernel
theorem d_M_fits_81 : decode me_M_fits.2.1 81 = .ok (.aload_n 0, 1) := by decide +kernel
theorem d_M_fits_82 : decode me_M_fits.2.1 82 = .ok (.invokevirtual 382, 3) := by decide +kernel
theorem d_M_fits_85 : decode me_M_fits.2.1 85 = .ok (.ifCond .eq 10, 3) := by decide +kernel
theorem d_M_fits_88 : decode me_M_fits.2.1 88 = .ok (.iinc 4 1, 3) := by decide +kernel
theorem d_M_fits_91 : decode me_M_fits.2.1 91 = .ok (.iload 6, 2) := by decide +kernel
theorem d_M_fits_93 : decode me_M_fits.2.1 93 = .ok (.istore 5, 2) := by decide +kernel
theorem d_M_fits_95 : decode me_M_fits.2.1 95 = .ok (.iinc 6 (-1), 3) := by decide +kernel
theorem d_M_fits_98 : decode me_M_fits.2.1 98 = .ok (.goto (-59), 3) := by decide +kernel
theorem d_M_fits_101 : decode me_M_fits.2.1 101 = .ok (.aload_n 0, 1) := by decide +kernel
theorem d_M_fits_102 : decode me_M_fits.2.1 102 = .ok (.getfield 22, 3) := by decide +kernel
theorem d_M_fits_105 : decode me_M_fits.2.1 105 = .ok (.iload_n 1, 1) := by decide +kernel
theorem d_M_fits_106 : decode me_M_fits.2.1 106 = .ok (.iload_n 3, 1) := by decide +kernel
theorem d_M_fits_107 : decode me_M_fits.2.1 107 = .ok (.iastore, 1) := by decide +kernel
theorem d_M_fits_108 : decode me_M_fits.2.1 108 = .ok (.iload_n 2, 1) := by decide +kernel
theorem d_M_fits_109 : decode me_M_fits.2.1 109 = .ok (.ifCond .ne 8, 3) := by decide +kernel
theorem d_M_fits_112 : decode me_M_fits.2.1 112 = .ok (.iload 4, 2) := by decide +kernel
theorem d_M_fits_114 : decode me_M_fits.2.1 114 = .ok (.goto 5, 3) := by decide +kernel
theorem d_M_fits_117 : decode me_M_fits.2.1 117 = .ok (.iload 5, 2) := by decide +kernel
theorem d_M_fits_119 : decode me_M_fits.2.1 119 = .ok (.ireturn, 1) := by decide +kernel
noncomputable def f_M_fits_73 (k39 : Int32 → Int32 → Int32 → Int32 → Int32 → Int32 → gk_M → Option (Int32 × gk_M)) (a1 : Int32) (a2 : Int32) (a3 : Int32) (a4 : Int32) (a5 : Int32) (a6 : Int32) (m0 : gk_M) : Option (Int32 × gk_M) :=
  gk_si m0 5 20 a1 a6 fun m1 =>
  gk_bi (f_M_allSights  m1) fun v3 m2 =>
  if v3 = 0 then
    k39 a1 a2 a3 a4 a5 (a6 + (-1)) m2
  else
    k39 a1 a2 a3 (a4 + 1) a6 (a6 + (-1)) m2

theorem s_M_fits_73 {z : gk_Z} (K : gk_F tm z me_M_fits 7) {r : Int32} {mem2 : gk_M} {k39 : Int32 → Int32 → Int32 → Int32 → Int32 → Int32 → gk_M → Option (Int32 × gk_M)} (hk39 : ∀ a1 a2 a3 a4 a5 a6 m0, k39 a1 a2 a3 a4 a5 a6 m0 = some (r, mem2) → gk_G tm z me_M_fits (gk_R tm z (some (.int r)) mem2) m0 [(0, .ref 0), (1, .int a1), (2, .int a2), (3, .int a3), (4, .int a4), (5, .int a5), (6, .int a6)] [] 39) : ∀ a1 a2 a3 a4 a5 a6 m0, f_M_fits_73 k39 a1 a2 a3 a4 a5 a6 m0 = some (r, mem2) → gk_G tm z me_M_fits (gk_R tm z (some (.int r)) mem2) m0 [(0, .ref 0), (1, .int a1), (2, .int a2), (3, .int a3), (4, .int a4), (5, .int a5), (6, .int a6)] [] 73 := by
  intro a1 a2 a3 a4 a5 a6 m0  h
  unfold f_M_fits_73 at h
  refine gk_aload_n (pc := 73) K d_M_fits_73 rfl ?_
  refine gk_get (pc := 74) K d_M_fits_74 fl_M_22 tm_0 rfl rfl ?_
  refine gk_iload_n (pc := 77) K d_M_fits_77 rfl ?_
  refine gk_iload (pc := 78) K d_M_fits_78 rfl ?_
  refine gk_iast (pc := 80) K d_M_fits_80 tm_5 h (fun m1 h => ?_)
  refine gk_aload_n (pc := 81) K d_M_fits_81 rfl ?_
  obtain ⟨v3, m2, em2, h⟩ := gk_bi_some h
  refine gk_cVi (As := []) (pc := 82) K d_M_fits_82 mv_M_382 mc_M_allSights rfl tm_0 cl_ok10.1 (s_M_allSights (gk_FD K)  em2) (by decide) rfl (Nat.le_of_ble_eq_true rfl) ?_
  refine gk_if_eq (tgt := 95) (pc := 85) K d_M_fits_85 (by decide) h (fun h => ?_) (fun h => ?_)
  · refine gk_iinc2 (lv2 := [(6, .int (a6 + (-1))), (0, .ref 0), (1, .int a1), (2, .int a2), (3, .int a3), (4, .int a4), (5, .int a5)]) (pc := 95) K d_M_fits_95 rfl kc_m1 (by decide) rfl ?_
    refine gk_goto (tgt := 39) (pc := 98) K d_M_fits_98 (by decide) ?_
    exact gk_sub [1, 2, 3, 4, 5, 6, 0] rfl (hk39 _ _ _ _ _ _ _  h)
  · refine gk_iinc2 (lv2 := [(4, .int (a4 + 1)), (0, .ref 0), (1, .int a1), (2, .int a2), (3, .int a3), (5, .int a5), (6, .int a6)]) (pc := 88) K d_M_fits_88 rfl kc_1 (by decide) rfl ?_
    refine gk_iload (pc := 91) K d_M_fits_91 rfl ?_
    refine gk_istore (lv2 := [(5, .int a6), (4, .int (a4 + 1)), (0, .ref 0), (1, .int a1), (2, .int a2), (3, .int a3), (6, .int a6)]) (pc := 93) K d_M_fits_93 (by decide) rfl ?_
    refine gk_iinc2 (lv2 := [(6, .int (a6 + (-1))), (5, .int a6), (4, .int (a4 + 1)), (0, .ref 0), (1, .int a1), (2, .int a2), (3, .int a3)]) (pc := 95) K d_M_fits_95 rfl kc_m1 (by decide) rfl ?_
    refine gk_goto (tgt := 39) (pc := 98) K d_M_fits_98 (by decide) ?_
    exact gk_sub [3, 4, 5, 6, 2, 1, 0] rfl (hk39 _ _ _ _ _ _ _  h)
noncomputable def f_M_fits_39  : Nat → Int32 → Int32 → Int32 → Int32 → Int32 → Int32 → gk_M → Option (Int32 × gk_M)
  | 0, _, _, _, _, _, _, _ => none
  | n + 1, a1, a2, a3, a4, a5, a6, m0 =>
    if a6 < 0 then
      gk_si m0 5 20 a1 a3 fun m1 =>
      if ¬ a2 = 0 then
        some (a5, m1)
      else
        some (a4, m1)
    else
      gk_si m0 5 20 a1 a3 fun m2 =>
      if a6 = a3 then
        f_M_fits_73 (f_M_fits_39 n) a1 a2 a3 a4 a5 a6 m2
      else
        gk_bi (f_M_isFreeOf a6 (m2.1 0 6) m2) fun v4 m3 =>
        if ¬ v4 = 0 then
          f_M_fits_73 (f_M_fits_39 n) a1 a2 a3 a4 a5 a6 m3
        else
          f_M_fits_39 n a1 a2 a3 a4 a5 (a6 + (-1)) m3

theorem s_M_fits_39 {z : gk_Z} (K : gk_F tm z me_M_fits 7) {r : Int32} {mem2 : gk_M} : ∀ n a1 a2 a3 a4 a5 a6 m0, f_M_fits_39 n a1 a2 a3 a4 a5 a6 m0 = some (r, mem2) → gk_G tm z me_M_fits (gk_R tm z (some (.int r)) mem2) m0 [(0, .ref 0), (1, .int a1), (2, .int a2), (3, .int a3), (4, .int a4), (5, .int a5), (6, .int a6)] [] 39 := by
  intro n
  induction n with
  | zero => intro a1 a2 a3 a4 a5 a6 m0  h; exact nomatch (show (none : Option _) = some _ from h)
  | succ n ih =>
    intro a1 a2 a3 a4 a5 a6 m0  h
    unfold f_M_fits_39 at h
    refine gk_iload (pc := 39) K d_M_fits_39 rfl ?_
    refine gk_if_lt (tgt := 101) (pc := 41) K d_M_fits_41 (by decide) h (fun h => ?_) (fun h => ?_)
    · refine gk_aload_n (pc := 101) K d_M_fits_101 rfl ?_
      refine gk_get (pc := 102) K d_M_fits_102 fl_M_22 tm_0 rfl rfl ?_
      refine gk_iload_n (pc := 105) K d_M_fits_105 rfl ?_
      refine gk_iload_n (pc := 106) K d_M_fits_106 rfl ?_
      refine gk_iast (pc := 107) K d_M_fits_107 tm_5 h (fun m1 h => ?_)
      refine gk_iload_n (pc := 108) K d_M_fits_108 rfl ?_
      refine gk_if_ne (tgt := 117) (pc := 109) K d_M_fits_109 (by decide) h (fun h => ?_) (fun h => ?_)
      · refine gk_iload (pc := 117) K d_M_fits_117 rfl ?_
        exact gk_iret (pc := 119) K d_M_fits_119 rfl h
      · refine gk_iload (pc := 112) K d_M_fits_112 rfl ?_
        refine gk_goto (tgt := 119) (pc := 114) K d_M_fits_114 (by decide) ?_
        exact gk_iret (pc := 119) K d_M_fits_119 rfl h
    · refine gk_aload_n (pc := 44) K d_M_fits_44 rfl ?_
      refine gk_get (pc := 45) K d_M_fits_45 fl_M_22 tm_0 rfl rfl ?_
      refine gk_iload_n (pc := 48) K d_M_fits_48 rfl ?_
      refine gk_iload_n (pc := 49) K d_M_fits_49 rfl ?_
      refine gk_iast (pc := 50) K d_M_fits_50 tm_5 h (fun m2 h => ?_)
      refine gk_iload (pc := 51) K d_M_fits_51 rfl ?_
      refine gk_iload_n (pc := 53) K d_M_fits_53 rfl ?_
      refine gk_ic_eq (tgt := 73) (pc := 54) K d_M_fits_54 (by decide) h (fun h => ?_) (fun h => ?_)
      · exact gk_sub [0, 1, 2, 3, 4, 5, 6] rfl (s_M_fits_73 K (fun x0 x1 x2 x3 x4 x5 m  h => ih x0 x1 x2 x3 x4 x5 m  h) _ _ _ _ _ _ _  h)
      · refine gk_aload_n (pc := 57) K d_M_fits_57 rfl ?_
        refine gk_iload (pc := 58) K d_M_fits_58 rfl ?_
        refine gk_aload_n (pc := 60) K d_M_fits_60 rfl ?_
        refine gk_get (pc := 61) K d_M_fits_61 fl_M_106 tm_0 rfl rfl ?_
        obtain ⟨v4, m3, em3, h⟩ := gk_bi_some h
        refine gk_cVi (As := [.int a6, .int (m2.1 0 6)]) (pc := 64) K d_M_fits_64 mv_M_116 mc_M_isFreeOf rfl tm_0 cl_ok10.1 (s_M_isFreeOf (gk_FD K)  em3) (by decide) rfl (Nat.le_of_ble_eq_true rfl) ?_
        refine gk_if_ne (tgt := 73) (pc := 67) K d_M_fits_67 (by decide) h (fun h => ?_) (fun h => ?_)
        · exact gk_sub [0, 1, 2, 3, 4, 5, 6] rfl (s_M_fits_73 K (fun x0 x1 x2 x3 x4 x5 m  h => ih x0 x1 x2 x3 x4 x5 m  h) _ _ _ _ _ _ _  h)
        · refine gk_goto (tgt := 95) (pc := 70) K d_M_fits_70 (by decide) ?_
          refine gk_iinc2 (lv2 := [(6, .int (a6 + (-1))), (0, .ref 0), (1, .int a1), (2, .int a2), (3, .int a3), (4, .int a4), (5, .int a5)]) (pc := 95) K d_M_fits_95 rfl kc_m1 (by decide) rfl ?_
          refine gk_goto (tgt := 39) (pc := 98) K d_M_fits_98 (by decide) ?_
          exact gk_sub [1, 2, 3, 4, 5, 6, 0] rfl (ih _ _ _ _ _ _ _  h)
noncomputable def f_M_fits  (a1 : Int32) (a2 : Int32) (m0 : gk_M) : Option (Int32 × gk_M) :=
  gk_bi (f_M_isTower a1 m0) fun v2 m1 =>
  if v2 = 0 then
    some ((-1), m1)
  else
    gk_bi (f_M_within a2.toInt64 0 1 m1) fun v4 m3 =>
    if ¬ v4 = 0 then
      gk_ai m3 5 20 a1 fun v5 =>
      f_M_fits_39 gk_fv a1 a2 v5 0 (-2) 899 m3
    else
      some ((-1), m3)

theorem s_M_fits_0 {z : gk_Z} (K : gk_F tm z me_M_fits 7) {r : Int32} {mem2 : gk_M} : ∀ a1 a2 m0, f_M_fits a1 a2 m0 = some (r, mem2) → gk_G tm z me_M_fits (gk_R tm z (some (.int r)) mem2) m0 [(0, .ref 0), (1, .int a1), (2, .int a2)] [] 0 := by
  intro a1 a2 m0  h
  unfold f_M_fits at h
  refine gk_aload_n (pc := 0) K d_M_fits_0 rfl ?_
  refine gk_iload_n (pc := 1) K d_M_fits_1 rfl ?_
  obtain ⟨v2, m1, em1, h⟩ := gk_bi_some h
  refine gk_cVi (As := [.int a1]) (pc := 2) K d_M_fits_2 mv_M_142 mc_M_isTower rfl tm_0 cl_ok10.1 (s_M_isTower (gk_FD K)  em1) (by decide) rfl (Nat.le_of_ble_eq_true rfl) ?_
  refine gk_if_eq (tgt := 18) (pc := 5) K d_M_fits_5 (by decide) h (fun h => ?_) (fun h => ?_)
  · refine gk_iconst (pc := 18) K d_M_fits_18 kc_m1 ?_
    exact gk_iret (pc := 19) K d_M_fits_19 rfl h
  · refine gk_iload_n (pc := 8) K d_M_fits_8 rfl ?_
    refine gk_i2l (pc := 9) K d_M_fits_9 ?_
    refine gk_lconst (pc := 10) K d_M_fits_10 kl_0 ?_
    refine gk_lconst (pc := 11) K d_M_fits_11 kl_1 ?_
    obtain ⟨v4, m3, em3, h⟩ := gk_bi_some h
    refine gk_cSi (As := [.long a2.toInt64, .long 0, .long 1]) (pc := 12) K d_M_fits_12 ms_M_102 mc_M_within rfl (s_M_within (gk_FD K)  em3) (by decide) rfl (Nat.le_of_ble_eq_true rfl) ?_
    refine gk_if_ne (tgt := 20) (pc := 15) K d_M_fits_15 (by decide) h (fun h => ?_) (fun h => ?_)
    · refine gk_aload_n (pc := 20) K d_M_fits_20 rfl ?_
      refine gk_get (pc := 21) K d_M_fits_21 fl_M_22 tm_0 rfl rfl ?_
      refine gk_iload_n (pc := 24) K d_M_fits_24 rfl ?_
      refine gk_iald (pc := 25) K d_M_fits_25 tm_5 h (fun v5 h => ?_)
      refine gk_istore_n (lv2 := [(3, .int v5), (0, .ref 0), (1, .int a1), (2, .int a2)]) (pc := 26) K d_M_fits_26 (by decide) rfl ?_
      refine gk_iconst (pc := 27) K d_M_fits_27 kc_0 ?_
      refine gk_istore (lv2 := [(4, .int 0), (3, .int v5), (0, .ref 0), (1, .int a1), (2, .int a2)]) (pc := 28) K d_M_fits_28 (by decide) rfl ?_
      refine gk_bipush (pc := 30) K d_M_fits_30 kb_m2 ?_
      refine gk_istore (lv2 := [(5, .int (-2)), (4, .int 0), (3, .int v5), (0, .ref 0), (1, .int a1), (2, .int a2)]) (pc := 32) K d_M_fits_32 (by decide) rfl ?_
      refine gk_sipush (pc := 34) K d_M_fits_34 ks_899 ?_
      refine gk_istore (lv2 := [(6, .int 899), (5, .int (-2)), (4, .int 0), (3, .int v5), (0, .ref 0), (1, .int a1), (2, .int a2)]) (pc := 37) K d_M_fits_37 (by decide) rfl ?_
      exact gk_sub [4, 5, 6, 3, 2, 1, 0] rfl (s_M_fits_39 K _ _ _ _ _ _ _ _  h)
    · refine gk_iconst (pc := 18) K d_M_fits_18 kc_m1 ?_
      exact gk_iret (pc := 19) K d_M_fits_19 rfl h
theorem s_M_fits {l : Launch} {u : gk_U} (hD : gk_D tm u) {a1 : Int32} {a2 : Int32} {m0 mem2 : gk_M} {r : Int32} (h : f_M_fits a1 a2 m0 = some (r, mem2)) : gk_C tm l u me_M_fits 7 [.ref 0, .int a1, .int a2] m0 (some (.int r)) mem2 :=
  gk_enter hD mc_M_fits (Nat.le_of_ble_eq_true rfl) rfl (fun z _ _ K => s_M_fits_0 K _ _ _  h)
theorem d_M_body_0 : decode me_M_body.2.1 0 = .ok (.iload_n 1, 1) := by decide +kernel
theorem d_M_body_1 : decode me_M_body.2.1 1 = .ok (.i2l, 1) := by decide +kernel
theorem d_M_body_2 : decode me_M_body.2.1 2 = .ok (.lconst 0, 1) := by decide +kernel
theorem d_M_body_3 : decode me_M_body.2.1 3 = .ok (.ldc2_w 389, 3) := by decide +kernel
theorem d_M_body_6 : decode me_M_body.2.1 6 = .ok (.invokestatic 102, 3) := by decide +kernel
theorem d_M_body_9 : decode me_M_body.2.1 9 = .ok (.ifCond .ne 5, 3) := by decide +kernel
theorem d_M_body_12 : decode me_M_body.2.1 12 = .ok (.iconst (-1), 1) := by decide +kernel
theorem d_M_body_13 : decode me_M_body.2.1 13 = .ok (.ireturn, 1) := by decide +kernel
theorem d_M_body_14 : decode me_M_body.2.1 14 = .ok (.aload_n 0, 1) := by decide +kernel
theorem d_M_body_15 : decode me_M_body.2.1 15 = .ok (.getfield 386, 3) := by decide +kernel
theorem d_M_body_18 : decode me_M_body.2.1 18 = .ok (.bipush 50, 2) := by decide +kernel
theorem d_M_body_20 : decode me_M_body.2.1 20 = .ok (.if_icmp .ne 6, 3) := by decide +kernel
theorem d_M_body_23 : decode me_M_body.2.1 23 = .ok (.bipush (-3), 2) := by decide +kernel
theorem d_M_body_25 : decode me_M_body.2.1 25 = .ok (.ireturn, 1) := by decide +kernel
theorem d_M_body_26 : decode me_M_body.2.1 26 = .ok (.aload_n 0, 1) := by decide +kernel
theorem d_M_body_27 : decode me_M_body.2.1 27 = .ok (.getfield 71, 3) := by decide +kernel
theorem d_M_body_30 : decode me_M_body.2.1 30 = .ok (.aload_n 0, 1) := by decide +kernel
theorem d_M_body_31 : decode me_M_body.2.1 31 = .ok (.getfield 386, 3) := by decide +kernel
theorem d_M_body_34 : decode me_M_body.2.1 34 = .ok (.iload_n 1, 1) := by decide +kernel
theorem d_M_body_35 : decode me_M_body.2.1 35 = .ok (.iastore, 1) := by decide +kernel
theorem d_M_body_36 : decode me_M_body.2.1 36 = .ok (.aload_n 0, 1) := by decide +kernel
theorem d_M_body_37 : decode me_M_body.2.1 37 = .ok (.dup, 1) := by decide +kernel
theorem d_M_body_38 : decode me_M_body.2.1 38 = .ok (.getfield 386, 3) := by decide +kernel
theorem d_M_body_41 : decode me_M_body.2.1 41 = .ok (.iconst 1, 1) := by decide +kernel
theorem d_M_body_42 : decode me_M_body.2.1 42 = .ok (.iadd, 1) := by decide +kernel
theorem d_M_body_43 : decode me_M_body.2.1 43 = .ok (.putfield 386, 3) := by decide +kernel
theorem d_M_body_46 : decode me_M_body.2.1 46 = .ok (.aload_n 0, 1) := by decide +kernel
theorem d_M_body_47 : decode me_M_body.2.1 47 = .ok (.getfield 386, 3) := by decide +kernel
theorem d_M_body_50 : decode me_M_body.2.1 50 = .ok (.iconst 1, 1) := by decide +kernel
theorem d_M_body_51 : decode me_M_body.2.1 51 = .ok (.isub, 1) := by decide +kernel
theorem d_M_body_52 : decode me_M_body.2.1 52 = .ok (.ireturn, 1) := by decide +kernel
noncomputable def f_M_body  (a1 : Int32) (m0 : gk_M) : Option (Int32 × gk_M) :=
  gk_bi (f_M_within a1.toInt64 0 7 m0) fun v2 m1 =>
  if ¬ v2 = 0 then
    if ¬ (m1.1 0 39) = 50 then
      gk_si m1 21 50 (m1.1 0 39) a1 fun m3 =>
      gk_let (gk_mi m3 0 39 ((m3.1 0 39) + 1)) fun m4 =>
      some (((m4.1 0 39) - 1), m4)
    else
      some ((-3), m1)
  else
    some ((-1), m1)

theorem s_M_body_0 {z : gk_Z} (K : gk_F tm z me_M_body 2) {r : Int32} {mem2 : gk_M} : ∀ a1 m0, f_M_body a1 m0 = some (r, mem2) → gk_G tm z me_M_body (gk_R tm z (some (.int r)) mem2) m0 [(0, .ref 0), (1, .int a1)] [] 0 := by
  intro a1 m0  h
  unfold f_M_body at h
  refine gk_iload_n (pc := 0) K d_M_body_0 rfl ?_
  refine gk_i2l (pc := 1) K d_M_body_1 ?_
  refine gk_lconst (pc := 2) K d_M_body_2 kl_0 ?_
  refine gk_ldc2 (pc := 3) K d_M_body_3 lc_M_389 ?_
  obtain ⟨v2, m1, em1, h⟩ := gk_bi_some h
  refine gk_cSi (As := [.long a1.toInt64, .long 0, .long 7]) (pc := 6) K d_M_body_6 ms_M_102 mc_M_within rfl (s_M_within (gk_FD K)  em1) (by decide) rfl (Nat.le_of_ble_eq_true rfl) ?_
  refine gk_if_ne (tgt := 14) (pc := 9) K d_M_body_9 (by decide) h (fun h => ?_) (fun h => ?_)
  · refine gk_aload_n (pc := 14) K d_M_body_14 rfl ?_
    refine gk_get (pc := 15) K d_M_body_15 fl_M_386 tm_0 rfl rfl ?_
    refine gk_bipush (pc := 18) K d_M_body_18 kb_50 ?_
    refine gk_ic_ne (tgt := 26) (pc := 20) K d_M_body_20 (by decide) h (fun h => ?_) (fun h => ?_)
    · refine gk_aload_n (pc := 26) K d_M_body_26 rfl ?_
      refine gk_get (pc := 27) K d_M_body_27 fl_M_71 tm_0 rfl rfl ?_
      refine gk_aload_n (pc := 30) K d_M_body_30 rfl ?_
      refine gk_get (pc := 31) K d_M_body_31 fl_M_386 tm_0 rfl rfl ?_
      refine gk_iload_n (pc := 34) K d_M_body_34 rfl ?_
      refine gk_iast (pc := 35) K d_M_body_35 tm_21 h (fun m3 h => ?_)
      refine gk_aload_n (pc := 36) K d_M_body_36 rfl ?_
      refine gk_dup (pc := 37) K d_M_body_37 rfl ?_
      refine gk_get (pc := 38) K d_M_body_38 fl_M_386 tm_0 rfl rfl ?_
      refine gk_iconst (pc := 41) K d_M_body_41 kc_1 ?_
      refine gk_iadd (pc := 42) K d_M_body_42 ?_
      refine gk_puti (pc := 43) K d_M_body_43 fp_M_386 tm_0 rfl h (fun m4 h => ?_)
      refine gk_aload_n (pc := 46) K d_M_body_46 rfl ?_
      refine gk_get (pc := 47) K d_M_body_47 fl_M_386 tm_0 rfl rfl ?_
      refine gk_iconst (pc := 50) K d_M_body_50 kc_1 ?_
      refine gk_isub (pc := 51) K d_M_body_51 ?_
      exact gk_iret (pc := 52) K d_M_body_52 rfl h
    · refine gk_bipush (pc := 23) K d_M_body_23 kb_m3 ?_
      exact gk_iret (pc := 25) K d_M_body_25 rfl h
  · refine gk_iconst (pc := 12) K d_M_body_12 kc_m1 ?_
    exact gk_iret (pc := 13) K d_M_body_13 rfl h
theorem s_M_body {l : Launch} {u : gk_U} (hD : gk_D tm u) {a1 : Int32} {m0 mem2 : gk_M} {r : Int32} (h : f_M_body a1 m0 = some (r, mem2)) : gk_C tm l u me_M_body 2 [.ref 0, .int a1] m0 (some (.int r)) mem2 :=
  gk_enter hD mc_M_body (Nat.le_of_ble_eq_true rfl) rfl (fun z _ _ K => s_M_body_0 K _ _  h)
theorem d_M_isBody_0 : decode me_M_isBody.2.1 0 = .ok (.iload_n 1, 1) := by decide +kernel
theorem d_M_isBody_1 : decode me_M_isBody.2.1 1 = .ok (.i2l, 1) := by decide +kernel
theorem d_M_isBody_2 : decode me_M_isBody.2.1 2 = .ok (.lconst 0, 1) := by decide +kernel
theorem d_M_isBody_3 : decode me_M_isBody.2.1 3 = .ok (.aload_n 0, 1) := by decide +kernel
theorem d_M_isBody_4 : decode me_M_isBody.2.1 4 = .ok (.getfield 386, 3) := by decide +kernel
theorem d_M_isBody_7 : decode me_M_isBody.2.1 7 = .ok (.iconst 1, 1) := by decide +kernel
theorem d_M_isBody_8 : decode me_M_isBody.2.1 8 = .ok (.isub, 1) := by decide +kernel
theorem d_M_isBody_9 : decode me_M_isBody.2.1 9 = .ok (.i2l, 1) := by decide +kernel
theorem d_M_isBody_10 : decode me_M_isBody.2.1 10 = .ok (.invokestatic 102, 3) := by decide +kernel
theorem d_M_isBody_13 : decode me_M_isBody.2.1 13 = .ok (.ireturn, 1) := by decide +kernel
noncomputable def f_M_isBody  (a1 : Int32) (m0 : gk_M) : Option (Int32 × gk_M) :=
  gk_bi (f_M_within a1.toInt64 0 ((m0.1 0 39) - 1).toInt64 m0) fun v2 m1 =>
  gk_zz v2 (some (v2, m1))

theorem s_M_isBody_0 {z : gk_Z} (K : gk_F tm z me_M_isBody 2) {r : Int32} {mem2 : gk_M} : ∀ a1 m0, f_M_isBody a1 m0 = some (r, mem2) → gk_G tm z me_M_isBody (gk_R tm z (some (.int r)) mem2) m0 [(0, .ref 0), (1, .int a1)] [] 0 := by
  intro a1 m0  h
  unfold f_M_isBody at h
  refine gk_iload_n (pc := 0) K d_M_isBody_0 rfl ?_
  refine gk_i2l (pc := 1) K d_M_isBody_1 ?_
  refine gk_lconst (pc := 2) K d_M_isBody_2 kl_0 ?_
  refine gk_aload_n (pc := 3) K d_M_isBody_3 rfl ?_
  refine gk_get (pc := 4) K d_M_isBody_4 fl_M_386 tm_0 rfl rfl ?_
  refine gk_iconst (pc := 7) K d_M_isBody_7 kc_1 ?_
  refine gk_isub (pc := 8) K d_M_isBody_8 ?_
  refine gk_i2l (pc := 9) K d_M_isBody_9 ?_
  obtain ⟨v2, m1, em1, h⟩ := gk_bi_some h
  refine gk_cSi (As := [.long a1.toInt64, .long 0, .long ((m0.1 0 39) - 1).toInt64]) (pc := 10) K d_M_isBody_10 ms_M_102 mc_M_within rfl (s_M_within (gk_FD K)  em1) (by decide) rfl (Nat.le_of_ble_eq_true rfl) ?_
  exact gk_zret (pc := 13) K d_M_isBody_13 rfl h
theorem s_M_isBody {l : Launch} {u : gk_U} (hD : gk_D tm u) {a1 : Int32} {m0 mem2 : gk_M} {r : Int32} (h : f_M_isBody a1 m0 = some (r, mem2)) : gk_C tm l u me_M_isBody 2 [.ref 0, .int a1] m0 (some (.int r)) mem2 :=
  gk_enter hD mc_M_isBody (Nat.le_of_ble_eq_true rfl) rfl (fun z _ _ K => s_M_isBody_0 K _ _  h)
theorem d_M_begins_0 : decode me_M_begins.2.1 0 = .ok (.aload_n 0, 1) := by decide +kernel
theorem d_M_begins_1 : decode me_M_begins.2.1 1 = .ok (.getfield 391, 3) := by decide +kernel
theorem d_M_begins_4 : decode me_M_begins.2.1 4 = .ok (.bipush 24, 2) := by decide +kernel
theorem d_M_begins_6 : decode me_M_begins.2.1 6 = .ok (.if_icmp .ge 13, 3) := by decide +kernel
theorem d_M_begins_9 : decode me_M_begins.2.1 9 = .ok (.aload_n 0, 1) := by decide +kernel
theorem d_M_begins_10 : decode me_M_begins.2.1 10 = .ok (.getfield 74, 3) := by decide +kernel
theorem d_M_begins_13 : decode me_M_begins.2.1 13 = .ok (.aload_n 0, 1) := by decide +kernel
theorem d_M_begins_14 : decode me_M_begins.2.1 14 = .ok (.getfield 391, 3) := by decide +kernel
theorem d_M_begins_17 : decode me_M_begins.2.1 17 = .ok (.iload_n 1, 1) := by decide +kernel
theorem d_M_begins_18 : decode me_M_begins.2.1 18 = .ok (.iastore, 1) := by decide +kernel
theorem d_M_begins_19 : decode me_M_begins.2.1 19 = .ok (.aload_n 0, 1) := by decide +kernel
theorem d_M_begins_20 : decode me_M_begins.2.1 20 = .ok (.dup, 1) := by decide +kernel
theorem d_M_begins_21 : decode me_M_begins.2.1 21 = .ok (.getfield 391, 3) := by decide +kernel
theorem d_M_begins_24 : decode me_M_begins.2.1 24 = .ok (.iconst 1, 1) := by decide +kernel
theorem d_M_begins_25 : decode me_M_begins.2.1 25 = .ok (.iadd, 1) := by decide +kernel
theorem d_M_begins_26 : decode me_M_begins.2.1 26 = .ok (.putfield 391, 3) := by decide +kernel
theorem d_M_begins_29 : decode me_M_begins.2.1 29 = .ok (.return_, 1) := by decide +kernel
noncomputable def f_M_begins_19   (m0 : gk_M) : Option (Unit × gk_M) :=
  gk_let (gk_mi m0 0 42 ((m0.1 0 42) + 1)) fun m1 =>
  some ((), m1)

theorem s_M_begins_19 {z : gk_Z} (K : gk_F tm z me_M_begins 1) {r : Unit} {mem2 : gk_M} : ∀  m0, f_M_begins_19  m0 = some (r, mem2) → gk_G tm z me_M_begins (gk_R tm z none mem2) m0 [(0, .ref 0)] [] 19 := by
  intro  m0  h
  unfold f_M_begins_19 at h
  refine gk_aload_n (pc := 19) K d_M_begins_19 rfl ?_
  refine gk_dup (pc := 20) K d_M_begins_20 rfl ?_
  refine gk_get (pc := 21) K d_M_begins_21 fl_M_391 tm_0 rfl rfl ?_
  refine gk_iconst (pc := 24) K d_M_begins_24 kc_1 ?_
  refine gk_iadd (pc := 25) K d_M_begins_25 ?_
  refine gk_puti (pc := 26) K d_M_begins_26 fp_M_391 tm_0 rfl h (fun m1 h => ?_)
  exact gk_vret (pc := 29) K d_M_begins_29 rfl h
noncomputable def f_M_begins  (a1 : Int32) (m0 : gk_M) : Option (Unit × gk_M) :=
  if 24 ≤ (m0.1 0 42) then
    f_M_begins_19  m0
  else
    gk_si m0 22 24 (m0.1 0 42) a1 fun m1 =>
    f_M_begins_19  m1

theorem s_M_begins_0 {z : gk_Z} (K : gk_F tm z me_M_begins 1) {r : Unit} {mem2 : gk_M} : ∀ a1 m0, f_M_begins a1 m0 = some (r, mem2) → gk_G tm z me_M_begins (gk_R tm z none mem2) m0 [(0, .ref 0), (1, .int a1)] [] 0 := by
  intro a1 m0  h
  unfold f_M_begins at h
  refine gk_aload_n (pc := 0) K d_M_begins_0 rfl ?_
  refine gk_get (pc := 1) K d_M_begins_1 fl_M_391 tm_0 rfl rfl ?_
  refine gk_bipush (pc := 4) K d_M_begins_4 kb_24 ?_
  refine gk_ic_ge (tgt := 19) (pc := 6) K d_M_begins_6 (by decide) h (fun h => ?_) (fun h => ?_)
  · exact gk_sub [0] rfl (s_M_begins_19 K  _  h)
  · refine gk_aload_n (pc := 9) K d_M_begins_9 rfl ?_
    refine gk_get (pc := 10) K d_M_begins_10 fl_M_74 tm_0 rfl rfl ?_
    refine gk_aload_n (pc := 13) K d_M_begins_13 rfl ?_
    refine gk_get (pc := 14) K d_M_begins_14 fl_M_391 tm_0 rfl rfl ?_
    refine gk_iload_n (pc := 17) K d_M_begins_17 rfl ?_
    refine gk_iast (pc := 18) K d_M_begins_18 tm_22 h (fun m1 h => ?_)
    exact gk_sub [0] rfl (s_M_begins_19 K  _  h)
theorem s_M_begins {l : Launch} {u : gk_U} (hD : gk_D tm u) {a1 : Int32} {m0 mem2 : gk_M} {r : Unit} (h : f_M_begins a1 m0 = some (r, mem2)) : gk_C tm l u me_M_begins 1 [.ref 0, .int a1] m0 none mem2 :=
  gk_enter hD mc_M_begins (Nat.le_of_ble_eq_true rfl) rfl (fun z _ _ K => s_M_begins_0 K _ _  h)
theorem d_M_hidesAs_0 : decode me_M_hidesAs.2.1 0 = .ok (.iload_n 1, 1) := by decide +kernel
theorem d_M_hidesAs_1 : decode me_M_hidesAs.2.1 1 = .ok (.iconst 1, 1) := by decide +kernel
theorem d_M_hidesAs_2 : decode me_M_hidesAs.2.1 2 = .ok (.if_icmp .eq 14, 3) := by decide +kernel
theorem d_M_hidesAs_5 : decode me_M_hidesAs.2.1 5 = .ok (.iload_n 1, 1) := by decide +kernel
theorem d_M_hidesAs_6 : decode me_M_hidesAs.2.1 6 = .ok (.iconst 4, 1) := by decide +kernel
theorem d_M_hidesAs_7 : decode me_M_hidesAs.2.1 7 = .ok (.if_icmp .eq 9, 3) := by decide +kernel
theorem d_M_hidesAs_10 : decode me_M_hidesAs.2.1 10 = .ok (.iload_n 1, 1) := by decide +kernel
theorem d_M_hidesAs_11 : decode me_M_hidesAs.2.1 11 = .ok (.bipush 7, 2) := by decide +kernel
theorem d_M_hidesAs_13 : decode me_M_hidesAs.2.1 13 = .ok (.if_icmp .ne 18, 3) := by decide +kernel
theorem d_M_hidesAs_16 : decode me_M_hidesAs.2.1 16 = .ok (.aload_n 0, 1) := by decide +kernel
theorem d_M_hidesAs_17 : decode me_M_hidesAs.2.1 17 = .ok (.bipush 20, 2) := by decide +kernel
theorem d_M_hidesAs_19 : decode me_M_hidesAs.2.1 19 = .ok (.invokevirtual 394, 3) := by decide +kernel
theorem d_M_hidesAs_22 : decode me_M_hidesAs.2.1 22 = .ok (.aload_n 0, 1) := by decide +kernel
theorem d_M_hidesAs_23 : decode me_M_hidesAs.2.1 23 = .ok (.iconst 0, 1) := by decide +kernel
theorem d_M_hidesAs_24 : decode me_M_hidesAs.2.1 24 = .ok (.iload_n 2, 1) := by decide +kernel
theorem d_M_hidesAs_25 : decode me_M_hidesAs.2.1 25 = .ok (.invokevirtual 397, 3) := by decide +kernel
theorem d_M_hidesAs_28 : decode me_M_hidesAs.2.1 28 = .ok (.iconst 3, 1) := by decide +kernel
theorem d_M_hidesAs_29 : decode me_M_hidesAs.2.1 29 = .ok (.iadd, 1) := by decide +kernel
theorem d_M_hidesAs_30 : decode me_M_hidesAs.2.1 30 = .ok (.ireturn, 1) := by decide +kernel
theorem d_M_hidesAs_31 : decode me_M_hidesAs.2.1 31 = .ok (.iload_n 1, 1) := by decide +kernel
theorem d_M_hidesAs_32 : decode me_M_hidesAs.2.1 32 = .ok (.bipush 6, 2) := by decide +kernel
theorem d_M_hidesAs_34 : decode me_M_hidesAs.2.1 34 = .ok (.if_icmp .ne 18, 3) := by decide +kernel
theorem d_M_hidesAs_37 : decode me_M_hidesAs.2.1 37 = .ok (.aload_n 0, 1) := by decide +kernel
theorem d_M_hidesAs_38 : decode me_M_hidesAs.2.1 38 = .ok (.bipush 70, 2) := by decide +kernel
theorem d_M_hidesAs_40 : decode me_M_hidesAs.2.1 40 = .ok (.invokevirtual 394, 3) := by decide +kernel
theorem d_M_hidesAs_43 : decode me_M_hidesAs.2.1 43 = .ok (.aload_n 0, 1) := by decide +kernel
theorem d_M_hidesAs_44 : decode me_M_hidesAs.2.1 44 = .ok (.iconst 0, 1) := by decide +kernel
theorem d_M_hidesAs_45 : decode me_M_hidesAs.2.1 45 = .ok (.iload_n 2, 1) := by decide +kernel
theorem d_M_hidesAs_46 : decode me_M_hidesAs.2.1 46 = .ok (.invokevirtual 397, 3) := by decide +kernel
theorem d_M_hidesAs_49 : decode me_M_hidesAs.2.1 49 = .ok (.iconst 2, 1) := by decide +kernel
theorem d_M_hidesAs_50 : decode me_M_hidesAs.2.1 50 = .ok (.imul, 1) := by decide +kernel
theorem d_M_hidesAs_51 : decode me_M_hidesAs.2.1 51 = .ok (.ireturn, 1) := by decide +kernel
theorem d_M_hidesAs_52 : decode me_M_hidesAs.2.1 52 = .ok (.aload_n 0, 1) := by decide +kernel
theorem d_M_hidesAs_53 : decode me_M_hidesAs.2.1 53 = .ok (.iconst 1, 1) := by decide +kernel
theorem d_M_hidesAs_54 : decode me_M_hidesAs.2.1 54 = .ok (.invokevirtual 394, 3) := by decide +kernel
theorem d_M_hidesAs_57 : decode me_M_hidesAs.2.1 57 = .ok (.iload_n 2, 1) := by decide +kernel
theorem d_M_hidesAs_58 : decode me_M_hidesAs.2.1 58 = .ok (.aload_n 0, 1) := by decide +kernel
theorem d_M_hidesAs_59 : decode me_M_hidesAs.2.1 59 = .ok (.getfield 400, 3) := by decide +kernel
theorem d_M_hidesAs_62 : decode me_M_hidesAs.2.1 62 = .ok (.iadd, 1) := by decide +kernel
theorem d_M_hidesAs_63 : decode me_M_hidesAs.2.1 63 = .ok (.ireturn, 1) := by decide +kernel
noncomputable def f_M_hidesAs_16 (q_M_hidesAs : Int32 → Int32 → gk_M → Option (Int32 × gk_M)) (a2 : Int32) (m0 : gk_M) : Option (Int32 × gk_M) :=
  gk_bv (f_M_begins 20 m0) fun m1 =>
  gk_bi (q_M_hidesAs 0 a2 m1) fun v3 m2 =>
  some ((v3 + 3), m2)

theorem s_M_hidesAs_16 {z : gk_Z} {dd : Nat} (K : gk_F tm z me_M_hidesAs (2 + (dd + 1))) {r : Int32} {mem2 : gk_M} (q_M_hidesAs : Int32 → Int32 → gk_M → Option (Int32 × gk_M)) (hq_M_hidesAs : ∀ b0 b1 mem r mem2, q_M_hidesAs b0 b1 mem = some (r, mem2) → gk_C tm (gk_zl z) (gk_zu z) me_M_hidesAs (2 + dd) [.ref 0, .int b0, .int b1] mem (some (.int r)) mem2) : ∀ a2 m0, f_M_hidesAs_16 q_M_hidesAs a2 m0 = some (r, mem2) → gk_G tm z me_M_hidesAs (gk_R tm z (some (.int r)) mem2) m0 [(0, .ref 0), (2, .int a2)] [] 16 := by
  intro a2 m0  h
  unfold f_M_hidesAs_16 at h
  refine gk_aload_n (pc := 16) K d_M_hidesAs_16 rfl ?_
  refine gk_bipush (pc := 17) K d_M_hidesAs_17 kb_20 ?_
  obtain ⟨m1, em1, h⟩ := gk_bv_some h
  refine gk_cVv (As := [.int 20]) (pc := 19) K d_M_hidesAs_19 mv_M_394 mc_M_begins rfl tm_0 cl_ok10.1 (s_M_begins (gk_FD K)  em1) (by omega) rfl (Nat.le_of_ble_eq_true rfl) ?_
  refine gk_aload_n (pc := 22) K d_M_hidesAs_22 rfl ?_
  refine gk_iconst (pc := 23) K d_M_hidesAs_23 kc_0 ?_
  refine gk_iload_n (pc := 24) K d_M_hidesAs_24 rfl ?_
  obtain ⟨v3, m2, em2, h⟩ := gk_bi_some h
  refine gk_cVi (As := [.int 0, .int a2]) (pc := 25) K d_M_hidesAs_25 mv_M_397 mc_M_hidesAs rfl tm_0 cl_ok10.1 (hq_M_hidesAs _ _ _ _ _ em2) (by omega) rfl (Nat.le_of_ble_eq_true rfl) ?_
  refine gk_iconst (pc := 28) K d_M_hidesAs_28 kc_3 ?_
  refine gk_iadd (pc := 29) K d_M_hidesAs_29 ?_
  exact gk_iret (pc := 30) K d_M_hidesAs_30 rfl h
noncomputable def f_M_hidesAs_0 (q_M_hidesAs : Int32 → Int32 → gk_M → Option (Int32 × gk_M)) (a1 : Int32) (a2 : Int32) (m0 : gk_M) : Option (Int32 × gk_M) :=
  if a1 = 1 then
    f_M_hidesAs_16 q_M_hidesAs a2 m0
  else
    if a1 = 4 then
      f_M_hidesAs_16 q_M_hidesAs a2 m0
    else
      if ¬ a1 = 7 then
        if ¬ a1 = 6 then
          gk_bv (f_M_begins 1 m0) fun m1 =>
          some ((a2 + (m1.1 0 44)), m1)
        else
          gk_bv (f_M_begins 70 m0) fun m2 =>
          gk_bi (q_M_hidesAs 0 a2 m2) fun v4 m3 =>
          some ((v4 * 2), m3)
      else
        f_M_hidesAs_16 q_M_hidesAs a2 m0

theorem s_M_hidesAs_0 {z : gk_Z} {dd : Nat} (K : gk_F tm z me_M_hidesAs (2 + (dd + 1))) {r : Int32} {mem2 : gk_M} (q_M_hidesAs : Int32 → Int32 → gk_M → Option (Int32 × gk_M)) (hq_M_hidesAs : ∀ b0 b1 mem r mem2, q_M_hidesAs b0 b1 mem = some (r, mem2) → gk_C tm (gk_zl z) (gk_zu z) me_M_hidesAs (2 + dd) [.ref 0, .int b0, .int b1] mem (some (.int r)) mem2) : ∀ a1 a2 m0, f_M_hidesAs_0 q_M_hidesAs a1 a2 m0 = some (r, mem2) → gk_G tm z me_M_hidesAs (gk_R tm z (some (.int r)) mem2) m0 [(0, .ref 0), (1, .int a1), (2, .int a2)] [] 0 := by
  intro a1 a2 m0  h
  unfold f_M_hidesAs_0 at h
  refine gk_iload_n (pc := 0) K d_M_hidesAs_0 rfl ?_
  refine gk_iconst (pc := 1) K d_M_hidesAs_1 kc_1 ?_
  refine gk_ic_eq (tgt := 16) (pc := 2) K d_M_hidesAs_2 (by decide) h (fun h => ?_) (fun h => ?_)
  · exact gk_sub [0, 2] rfl (s_M_hidesAs_16 K q_M_hidesAs hq_M_hidesAs _ _  h)
  · refine gk_iload_n (pc := 5) K d_M_hidesAs_5 rfl ?_
    refine gk_iconst (pc := 6) K d_M_hidesAs_6 kc_4 ?_
    refine gk_ic_eq (tgt := 16) (pc := 7) K d_M_hidesAs_7 (by decide) h (fun h => ?_) (fun h => ?_)
    · exact gk_sub [0, 2] rfl (s_M_hidesAs_16 K q_M_hidesAs hq_M_hidesAs _ _  h)
    · refine gk_iload_n (pc := 10) K d_M_hidesAs_10 rfl ?_
      refine gk_bipush (pc := 11) K d_M_hidesAs_11 kb_7 ?_
      refine gk_ic_ne (tgt := 31) (pc := 13) K d_M_hidesAs_13 (by decide) h (fun h => ?_) (fun h => ?_)
      · refine gk_iload_n (pc := 31) K d_M_hidesAs_31 rfl ?_
        refine gk_bipush (pc := 32) K d_M_hidesAs_32 kb_6 ?_
        refine gk_ic_ne (tgt := 52) (pc := 34) K d_M_hidesAs_34 (by decide) h (fun h => ?_) (fun h => ?_)
        · refine gk_aload_n (pc := 52) K d_M_hidesAs_52 rfl ?_
          refine gk_iconst (pc := 53) K d_M_hidesAs_53 kc_1 ?_
          obtain ⟨m1, em1, h⟩ := gk_bv_some h
          refine gk_cVv (As := [.int 1]) (pc := 54) K d_M_hidesAs_54 mv_M_394 mc_M_begins rfl tm_0 cl_ok10.1 (s_M_begins (gk_FD K)  em1) (by omega) rfl (Nat.le_of_ble_eq_true rfl) ?_
          refine gk_iload_n (pc := 57) K d_M_hidesAs_57 rfl ?_
          refine gk_aload_n (pc := 58) K d_M_hidesAs_58 rfl ?_
          refine gk_get (pc := 59) K d_M_hidesAs_59 fl_M_400 tm_0 rfl rfl ?_
          refine gk_iadd (pc := 62) K d_M_hidesAs_62 ?_
          exact gk_iret (pc := 63) K d_M_hidesAs_63 rfl h
        · refine gk_aload_n (pc := 37) K d_M_hidesAs_37 rfl ?_
          refine gk_bipush (pc := 38) K d_M_hidesAs_38 kb_70 ?_
          obtain ⟨m2, em2, h⟩ := gk_bv_some h
          refine gk_cVv (As := [.int 70]) (pc := 40) K d_M_hidesAs_40 mv_M_394 mc_M_begins rfl tm_0 cl_ok10.1 (s_M_begins (gk_FD K)  em2) (by omega) rfl (Nat.le_of_ble_eq_true rfl) ?_
          refine gk_aload_n (pc := 43) K d_M_hidesAs_43 rfl ?_
          refine gk_iconst (pc := 44) K d_M_hidesAs_44 kc_0 ?_
          refine gk_iload_n (pc := 45) K d_M_hidesAs_45 rfl ?_
          obtain ⟨v4, m3, em3, h⟩ := gk_bi_some h
          refine gk_cVi (As := [.int 0, .int a2]) (pc := 46) K d_M_hidesAs_46 mv_M_397 mc_M_hidesAs rfl tm_0 cl_ok10.1 (hq_M_hidesAs _ _ _ _ _ em3) (by omega) rfl (Nat.le_of_ble_eq_true rfl) ?_
          refine gk_iconst (pc := 49) K d_M_hidesAs_49 kc_2 ?_
          refine gk_imul (pc := 50) K d_M_hidesAs_50 ?_
          exact gk_iret (pc := 51) K d_M_hidesAs_51 rfl h
      · exact gk_sub [0, 2] rfl (s_M_hidesAs_16 K q_M_hidesAs hq_M_hidesAs _ _  h)
noncomputable def r_M_hidesAs_s (p : Nat → Int32 → Int32 → gk_M → Option (Int32 × gk_M)) : Nat → Int32 → Int32 → gk_M → Option (Int32 × gk_M)
  | 0, x0, x1, m0 => f_M_hidesAs_0 (fun b0 b1 m => p 0 b0 b1 m) x0 x1 m0
  | _, _, _, _ => none
noncomputable def r_M_hidesAs : Nat → Nat → Int32 → Int32 → gk_M → Option (Int32 × gk_M)
  | 0 => fun _ _ _ _ => none
  | d + 1 => r_M_hidesAs_s (r_M_hidesAs d)
theorem r_M_hidesAs_e0 (d : Nat) (x0 : Int32) (x1 : Int32) (m0 : gk_M) : r_M_hidesAs (d + 1) 0 x0 x1 m0 = f_M_hidesAs_0 (fun b0 b1 m => r_M_hidesAs d 0 b0 b1 m) x0 x1 m0 := rfl
theorem sr_M_hidesAs {l : Launch} {u : gk_U} (hD : gk_D tm u) : ∀ d, (∀ b0 b1 mem r mem2, r_M_hidesAs d 0 b0 b1 mem = some (r, mem2) → gk_C tm l u me_M_hidesAs (2 + d) [.ref 0, .int b0, .int b1] mem (some (.int r)) mem2) := by
  intro d
  induction d with
  | zero => exact (fun _ _ _ _ _ h => nomatch (show (none : Option _) = some _ from h))
  | succ d ih =>
    intro b0 b1 mem r mem2 h
    refine gk_enter hD mc_M_hidesAs (Nat.le_of_ble_eq_true rfl) rfl (fun z hl hu K => ?_)
    subst hl
    subst hu
    rw [r_M_hidesAs_e0] at h
    exact s_M_hidesAs_0 K (fun b0 b1 m => r_M_hidesAs d 0 b0 b1 m) (fun y0 y1 a b c h => ih y0 y1 a b c h) _ _ _ h
noncomputable def f_M_hidesAs (a1 : Int32) (a2 : Int32) (m0 : gk_M) : Option (Int32 × gk_M) := r_M_hidesAs 60 0 a1 a2 m0
theorem s_M_hidesAs {l : Launch} {u : gk_U} (hD : gk_D tm u) {a1 : Int32} {a2 : Int32} {m0 mem2 : gk_M} {r : Int32} (h : f_M_hidesAs a1 a2 m0 = some (r, mem2)) : gk_C tm l u me_M_hidesAs 62 [.ref 0, .int a1, .int a2] m0 (some (.int r)) mem2 := (sr_M_hidesAs hD 60) _ _ _ _ _ h
