theorem d_M_redo_0 : decode me_M_redo.2.1 0 = .ok (.aload_n 0, 1) := by decide +kernel
theorem d_M_redo_1 : decode me_M_redo.2.1 1 = .ok (.getfield 94, 3) := by decide +kernel
theorem d_M_redo_4 : decode me_M_redo.2.1 4 = .ok (.aload_n 0, 1) := by decide +kernel
theorem d_M_redo_5 : decode me_M_redo.2.1 5 = .ok (.getfield 97, 3) := by decide +kernel
theorem d_M_redo_8 : decode me_M_redo.2.1 8 = .ok (.if_icmp .ne 6, 3) := by decide +kernel
theorem d_M_redo_11 : decode me_M_redo.2.1 11 = .ok (.bipush (-5), 2) := by decide +kernel
theorem d_M_redo_13 : decode me_M_redo.2.1 13 = .ok (.ireturn, 1) := by decide +kernel
theorem d_M_redo_14 : decode me_M_redo.2.1 14 = .ok (.aload_n 0, 1) := by decide +kernel
theorem d_M_redo_15 : decode me_M_redo.2.1 15 = .ok (.getfield 9, 3) := by decide +kernel
theorem d_M_redo_18 : decode me_M_redo.2.1 18 = .ok (.aload_n 0, 1) := by decide +kernel
theorem d_M_redo_19 : decode me_M_redo.2.1 19 = .ok (.getfield 13, 3) := by decide +kernel
theorem d_M_redo_22 : decode me_M_redo.2.1 22 = .ok (.aload_n 0, 1) := by decide +kernel
theorem d_M_redo_23 : decode me_M_redo.2.1 23 = .ok (.getfield 94, 3) := by decide +kernel
theorem d_M_redo_26 : decode me_M_redo.2.1 26 = .ok (.iaload, 1) := by decide +kernel
theorem d_M_redo_27 : decode me_M_redo.2.1 27 = .ok (.aload_n 0, 1) := by decide +kernel
theorem d_M_redo_28 : decode me_M_redo.2.1 28 = .ok (.getfield 19, 3) := by decide +kernel
theorem d_M_redo_31 : decode me_M_redo.2.1 31 = .ok (.aload_n 0, 1) := by decide +kernel
theorem d_M_redo_32 : decode me_M_redo.2.1 32 = .ok (.getfield 94, 3) := by decide +kernel
theorem d_M_redo_35 : decode me_M_redo.2.1 35 = .ok (.iaload, 1) := by decide +kernel
theorem d_M_redo_36 : decode me_M_redo.2.1 36 = .ok (.iastore, 1) := by decide +kernel
theorem d_M_redo_37 : decode me_M_redo.2.1 37 = .ok (.aload_n 0, 1) := by decide +kernel
theorem d_M_redo_38 : decode me_M_redo.2.1 38 = .ok (.dup, 1) := by decide +kernel
theorem d_M_redo_39 : decode me_M_redo.2.1 39 = .ok (.getfield 94, 3) := by decide +kernel
theorem d_M_redo_42 : decode me_M_redo.2.1 42 = .ok (.iconst 1, 1) := by decide +kernel
theorem d_M_redo_43 : decode me_M_redo.2.1 43 = .ok (.iadd, 1) := by decide +kernel
theorem d_M_redo_44 : decode me_M_redo.2.1 44 = .ok (.putfield 94, 3) := by decide +kernel
theorem d_M_redo_47 : decode me_M_redo.2.1 47 = .ok (.aload_n 0, 1) := by decide +kernel
theorem d_M_redo_48 : decode me_M_redo.2.1 48 = .ok (.getfield 97, 3) := by decide +kernel
theorem d_M_redo_51 : decode me_M_redo.2.1 51 = .ok (.aload_n 0, 1) := by decide +kernel
theorem d_M_redo_52 : decode me_M_redo.2.1 52 = .ok (.getfield 94, 3) := by decide +kernel
theorem d_M_redo_55 : decode me_M_redo.2.1 55 = .ok (.isub, 1) := by decide +kernel
theorem d_M_redo_56 : decode me_M_redo.2.1 56 = .ok (.ireturn, 1) := by decide +kernel
noncomputable def f_M_redo   (m0 : gk_M) : Option (Int32 × gk_M) :=
  if ¬ (m0.1 0 5) = (m0.1 0 4) then
    gk_ai m0 2 40 (m0.1 0 5) fun v1 =>
    gk_ai m0 4 40 (m0.1 0 5) fun v2 =>
    gk_si m0 1 30 v1 v2 fun m3 =>
    gk_let (gk_mi m3 0 5 ((m3.1 0 5) + 1)) fun m4 =>
    some (((m4.1 0 4) - (m4.1 0 5)), m4)
  else
    some ((-5), m0)

theorem s_M_redo_0 {z : gk_Z} (K : gk_F tm z me_M_redo 1) {r : Int32} {mem2 : gk_M} : ∀  m0, f_M_redo  m0 = some (r, mem2) → gk_G tm z me_M_redo (gk_R tm z (some (.int r)) mem2) m0 [(0, .ref 0)] [] 0 := by
  intro  m0  h
  unfold f_M_redo at h
  refine gk_aload_n (pc := 0) K d_M_redo_0 rfl ?_
  refine gk_get (pc := 1) K d_M_redo_1 fl_M_94 tm_0 rfl rfl ?_
  refine gk_aload_n (pc := 4) K d_M_redo_4 rfl ?_
  refine gk_get (pc := 5) K d_M_redo_5 fl_M_97 tm_0 rfl rfl ?_
  refine gk_ic_ne (tgt := 14) (pc := 8) K d_M_redo_8 (by decide) h (fun h => ?_) (fun h => ?_)
  · refine gk_aload_n (pc := 14) K d_M_redo_14 rfl ?_
    refine gk_get (pc := 15) K d_M_redo_15 fl_M_9 tm_0 rfl rfl ?_
    refine gk_aload_n (pc := 18) K d_M_redo_18 rfl ?_
    refine gk_get (pc := 19) K d_M_redo_19 fl_M_13 tm_0 rfl rfl ?_
    refine gk_aload_n (pc := 22) K d_M_redo_22 rfl ?_
    refine gk_get (pc := 23) K d_M_redo_23 fl_M_94 tm_0 rfl rfl ?_
    refine gk_iald (pc := 26) K d_M_redo_26 tm_2 h (fun v1 h => ?_)
    refine gk_aload_n (pc := 27) K d_M_redo_27 rfl ?_
    refine gk_get (pc := 28) K d_M_redo_28 fl_M_19 tm_0 rfl rfl ?_
    refine gk_aload_n (pc := 31) K d_M_redo_31 rfl ?_
    refine gk_get (pc := 32) K d_M_redo_32 fl_M_94 tm_0 rfl rfl ?_
    refine gk_iald (pc := 35) K d_M_redo_35 tm_4 h (fun v2 h => ?_)
    refine gk_iast (pc := 36) K d_M_redo_36 tm_1 h (fun m3 h => ?_)
    refine gk_aload_n (pc := 37) K d_M_redo_37 rfl ?_
    refine gk_dup (pc := 38) K d_M_redo_38 rfl ?_
    refine gk_get (pc := 39) K d_M_redo_39 fl_M_94 tm_0 rfl rfl ?_
    refine gk_iconst (pc := 42) K d_M_redo_42 kc_1 ?_
    refine gk_iadd (pc := 43) K d_M_redo_43 ?_
    refine gk_puti (pc := 44) K d_M_redo_44 fp_M_94 tm_0 rfl h (fun m4 h => ?_)
    refine gk_aload_n (pc := 47) K d_M_redo_47 rfl ?_
    refine gk_get (pc := 48) K d_M_redo_48 fl_M_97 tm_0 rfl rfl ?_
    refine gk_aload_n (pc := 51) K d_M_redo_51 rfl ?_
    refine gk_get (pc := 52) K d_M_redo_52 fl_M_94 tm_0 rfl rfl ?_
    refine gk_isub (pc := 55) K d_M_redo_55 ?_
    exact gk_iret (pc := 56) K d_M_redo_56 rfl h
  · refine gk_bipush (pc := 11) K d_M_redo_11 kb_m5 ?_
    exact gk_iret (pc := 13) K d_M_redo_13 rfl h
theorem s_M_redo {l : Launch} {u : gk_U} (hD : gk_D tm u) {m0 mem2 : gk_M} {r : Int32} (h : f_M_redo  m0 = some (r, mem2)) : gk_C tm l u me_M_redo 1 [.ref 0] m0 (some (.int r)) mem2 :=
  gk_enter hD mc_M_redo (Nat.le_of_ble_eq_true rfl) rfl (fun z _ _ K => s_M_redo_0 K  _  h)
theorem d_M_within_0 : decode me_M_within.2.1 0 = .ok (.lload_n 0, 1) := by decide +kernel
theorem d_M_within_1 : decode me_M_within.2.1 1 = .ok (.lload_n 2, 1) := by decide +kernel
theorem d_M_within_2 : decode me_M_within.2.1 2 = .ok (.lcmp, 1) := by decide +kernel
theorem d_M_within_3 : decode me_M_within.2.1 3 = .ok (.ifCond .lt 14, 3) := by decide +kernel
theorem d_M_within_6 : decode me_M_within.2.1 6 = .ok (.lload_n 0, 1) := by decide +kernel
theorem d_M_within_7 : decode me_M_within.2.1 7 = .ok (.lload 4, 2) := by decide +kernel
theorem d_M_within_9 : decode me_M_within.2.1 9 = .ok (.lcmp, 1) := by decide +kernel
theorem d_M_within_10 : decode me_M_within.2.1 10 = .ok (.ifCond .gt 7, 3) := by decide +kernel
theorem d_M_within_13 : decode me_M_within.2.1 13 = .ok (.iconst 1, 1) := by decide +kernel
theorem d_M_within_14 : decode me_M_within.2.1 14 = .ok (.goto 4, 3) := by decide +kernel
theorem d_M_within_17 : decode me_M_within.2.1 17 = .ok (.iconst 0, 1) := by decide +kernel
theorem d_M_within_18 : decode me_M_within.2.1 18 = .ok (.ireturn, 1) := by decide +kernel
noncomputable def f_M_within  (a0 : Int64) (a2 : Int64) (a4 : Int64) (m0 : gk_M) : Option (Int32 × gk_M) :=
  if a0 < a2 then
    some (0, m0)
  else
    if a4 < a0 then
      some (0, m0)
    else
      some (1, m0)

theorem s_M_within_0 {z : gk_Z} (K : gk_F tm z me_M_within 1) {r : Int32} {mem2 : gk_M} : ∀ a0 a2 a4 m0, f_M_within a0 a2 a4 m0 = some (r, mem2) → gk_G tm z me_M_within (gk_R tm z (some (.int r)) mem2) m0 [(0, .long a0), (2, .long a2), (4, .long a4)] [] 0 := by
  intro a0 a2 a4 m0  h
  unfold f_M_within at h
  refine gk_lload_n (pc := 0) K d_M_within_0 rfl ?_
  refine gk_lload_n (pc := 1) K d_M_within_1 rfl ?_
  refine gk_lc_lt (tgt := 17) (pc := 2) K d_M_within_2 d_M_within_3 (by decide) h (fun h => ?_) (fun h => ?_)
  · refine gk_iconst (pc := 17) K d_M_within_17 kc_0 ?_
    exact gk_zretc (pc := 18) K d_M_within_18 rfl (Or.inl rfl) h
  · refine gk_lload_n (pc := 6) K d_M_within_6 rfl ?_
    refine gk_lload (pc := 7) K d_M_within_7 rfl ?_
    refine gk_lc_gt (tgt := 17) (pc := 9) K d_M_within_9 d_M_within_10 (by decide) h (fun h => ?_) (fun h => ?_)
    · refine gk_iconst (pc := 17) K d_M_within_17 kc_0 ?_
      exact gk_zretc (pc := 18) K d_M_within_18 rfl (Or.inl rfl) h
    · refine gk_iconst (pc := 13) K d_M_within_13 kc_1 ?_
      refine gk_goto (tgt := 18) (pc := 14) K d_M_within_14 (by decide) ?_
      exact gk_zretc (pc := 18) K d_M_within_18 rfl (Or.inr rfl) h
theorem s_M_within {l : Launch} {u : gk_U} (hD : gk_D tm u) {a0 : Int64} {a2 : Int64} {a4 : Int64} {m0 mem2 : gk_M} {r : Int32} (h : f_M_within a0 a2 a4 m0 = some (r, mem2)) : gk_C tm l u me_M_within 1 [.long a0, .long a2, .long a4] m0 (some (.int r)) mem2 :=
  gk_enter hD mc_M_within (Nat.le_of_ble_eq_true rfl) rfl (fun z _ _ K => s_M_within_0 K _ _ _ _  h)
theorem d_M_isFreeOf_0 : decode me_M_isFreeOf.2.1 0 = .ok (.iconst 0, 1) := by decide +kernel
theorem d_M_isFreeOf_1 : decode me_M_isFreeOf.2.1 1 = .ok (.istore_n 3, 1) := by decide +kernel
theorem d_M_isFreeOf_2 : decode me_M_isFreeOf.2.1 2 = .ok (.iload_n 3, 1) := by decide +kernel
theorem d_M_isFreeOf_3 : decode me_M_isFreeOf.2.1 3 = .ok (.iload_n 2, 1) := by decide +kernel
theorem d_M_isFreeOf_4 : decode me_M_isFreeOf.2.1 4 = .ok (.if_icmp .ge 21, 3) := by decide +kernel
theorem d_M_isFreeOf_7 : decode me_M_isFreeOf.2.1 7 = .ok (.aload_n 0, 1) := by decide +kernel
theorem d_M_isFreeOf_8 : decode me_M_isFreeOf.2.1 8 = .ok (.getfield 22, 3) := by decide +kernel
theorem d_M_isFreeOf_11 : decode me_M_isFreeOf.2.1 11 = .ok (.iload_n 3, 1) := by decide +kernel
theorem d_M_isFreeOf_12 : decode me_M_isFreeOf.2.1 12 = .ok (.iaload, 1) := by decide +kernel
theorem d_M_isFreeOf_13 : decode me_M_isFreeOf.2.1 13 = .ok (.iload_n 1, 1) := by decide +kernel
theorem d_M_isFreeOf_14 : decode me_M_isFreeOf.2.1 14 = .ok (.if_icmp .ne 5, 3) := by decide +kernel
theorem d_M_isFreeOf_17 : decode me_M_isFreeOf.2.1 17 = .ok (.iconst 0, 1) := by decide +kernel
theorem d_M_isFreeOf_18 : decode me_M_isFreeOf.2.1 18 = .ok (.ireturn, 1) := by decide +kernel
theorem d_M_isFreeOf_19 : decode me_M_isFreeOf.2.1 19 = .ok (.iinc 3 1, 3) := by decide +kernel
theorem d_M_isFreeOf_22 : decode me_M_isFreeOf.2.1 22 = .ok (.goto (-20), 3) := by decide +kernel
theorem d_M_isFreeOf_25 : decode me_M_isFreeOf.2.1 25 = .ok (.iconst 1, 1) := by decide +kernel
theorem d_M_isFreeOf_26 : decode me_M_isFreeOf.2.1 26 = .ok (.ireturn, 1) := by decide +kernel
noncomputable def f_M_isFreeOf_2  : Nat → Int32 → Int32 → Int32 → gk_M → Option (Int32 × gk_M)
  | 0, _, _, _, _ => none
  | n + 1, a1, a2, a3, m0 =>
    if a2 ≤ a3 then
      some (1, m0)
    else
      gk_ai m0 5 20 a3 fun v1 =>
      if ¬ v1 = a1 then
        f_M_isFreeOf_2 n a1 a2 (a3 + 1) m0
      else
        some (0, m0)

theorem s_M_isFreeOf_2 {z : gk_Z} (K : gk_F tm z me_M_isFreeOf 1) {r : Int32} {mem2 : gk_M} : ∀ n a1 a2 a3 m0, f_M_isFreeOf_2 n a1 a2 a3 m0 = some (r, mem2) → gk_G tm z me_M_isFreeOf (gk_R tm z (some (.int r)) mem2) m0 [(0, .ref 0), (1, .int a1), (2, .int a2), (3, .int a3)] [] 2 := by
  intro n
  induction n with
  | zero => intro a1 a2 a3 m0  h; exact nomatch (show (none : Option _) = some _ from h)
  | succ n ih =>
    intro a1 a2 a3 m0  h
    unfold f_M_isFreeOf_2 at h
    refine gk_iload_n (pc := 2) K d_M_isFreeOf_2 rfl ?_
    refine gk_iload_n (pc := 3) K d_M_isFreeOf_3 rfl ?_
    refine gk_ic_ge (tgt := 25) (pc := 4) K d_M_isFreeOf_4 (by decide) h (fun h => ?_) (fun h => ?_)
    · refine gk_iconst (pc := 25) K d_M_isFreeOf_25 kc_1 ?_
      exact gk_zretc (pc := 26) K d_M_isFreeOf_26 rfl (Or.inr rfl) h
    · refine gk_aload_n (pc := 7) K d_M_isFreeOf_7 rfl ?_
      refine gk_get (pc := 8) K d_M_isFreeOf_8 fl_M_22 tm_0 rfl rfl ?_
      refine gk_iload_n (pc := 11) K d_M_isFreeOf_11 rfl ?_
      refine gk_iald (pc := 12) K d_M_isFreeOf_12 tm_5 h (fun v1 h => ?_)
      refine gk_iload_n (pc := 13) K d_M_isFreeOf_13 rfl ?_
      refine gk_ic_ne (tgt := 19) (pc := 14) K d_M_isFreeOf_14 (by decide) h (fun h => ?_) (fun h => ?_)
      · refine gk_iinc2 (lv2 := [(3, .int (a3 + 1)), (0, .ref 0), (1, .int a1), (2, .int a2)]) (pc := 19) K d_M_isFreeOf_19 rfl kc_1 (by decide) rfl ?_
        refine gk_goto (tgt := 2) (pc := 22) K d_M_isFreeOf_22 (by decide) ?_
        exact gk_sub [1, 2, 3, 0] rfl (ih _ _ _ _  h)
      · refine gk_iconst (pc := 17) K d_M_isFreeOf_17 kc_0 ?_
        exact gk_zretc (pc := 18) K d_M_isFreeOf_18 rfl (Or.inl rfl) h
noncomputable def f_M_isFreeOf  (a1 : Int32) (a2 : Int32) (m0 : gk_M) : Option (Int32 × gk_M) :=
  f_M_isFreeOf_2 gk_fv a1 a2 0 m0

theorem s_M_isFreeOf_0 {z : gk_Z} (K : gk_F tm z me_M_isFreeOf 1) {r : Int32} {mem2 : gk_M} : ∀ a1 a2 m0, f_M_isFreeOf a1 a2 m0 = some (r, mem2) → gk_G tm z me_M_isFreeOf (gk_R tm z (some (.int r)) mem2) m0 [(0, .ref 0), (1, .int a1), (2, .int a2)] [] 0 := by
  intro a1 a2 m0  h
  unfold f_M_isFreeOf at h
  refine gk_iconst (pc := 0) K d_M_isFreeOf_0 kc_0 ?_
  refine gk_istore_n (lv2 := [(3, .int 0), (0, .ref 0), (1, .int a1), (2, .int a2)]) (pc := 1) K d_M_isFreeOf_1 (by decide) rfl ?_
  exact gk_sub [1, 2, 3, 0] rfl (s_M_isFreeOf_2 K _ _ _ _ _  h)
theorem s_M_isFreeOf {l : Launch} {u : gk_U} (hD : gk_D tm u) {a1 : Int32} {a2 : Int32} {m0 mem2 : gk_M} {r : Int32} (h : f_M_isFreeOf a1 a2 m0 = some (r, mem2)) : gk_C tm l u me_M_isFreeOf 1 [.ref 0, .int a1, .int a2] m0 (some (.int r)) mem2 :=
  gk_enter hD mc_M_isFreeOf (Nat.le_of_ble_eq_true rfl) rfl (fun z _ _ K => s_M_isFreeOf_0 K _ _ _  h)
theorem d_M_mayStand_0 : decode me_M_mayStand.2.1 0 = .ok (.lload_n 1, 1) := by decide +kernel
theorem d_M_mayStand_1 : decode me_M_mayStand.2.1 1 = .ok (.lconst 0, 1) := by decide +kernel
theorem d_M_mayStand_2 : decode me_M_mayStand.2.1 2 = .ok (.ldc2_w 100, 3) := by decide +kernel
theorem d_M_mayStand_5 : decode me_M_mayStand.2.1 5 = .ok (.invokestatic 102, 3) := by decide +kernel
theorem d_M_mayStand_8 : decode me_M_mayStand.2.1 8 = .ok (.ifCond .eq 43, 3) := by decide +kernel
theorem d_M_mayStand_11 : decode me_M_mayStand.2.1 11 = .ok (.lload_n 3, 1) := by decide +kernel
theorem d_M_mayStand_12 : decode me_M_mayStand.2.1 12 = .ok (.lconst 0, 1) := by decide +kernel
theorem d_M_mayStand_13 : decode me_M_mayStand.2.1 13 = .ok (.ldc2_w 112, 3) := by decide +kernel
theorem d_M_mayStand_16 : decode me_M_mayStand.2.1 16 = .ok (.invokestatic 102, 3) := by decide +kernel
theorem d_M_mayStand_19 : decode me_M_mayStand.2.1 19 = .ok (.ifCond .eq 32, 3) := by decide +kernel
theorem d_M_mayStand_22 : decode me_M_mayStand.2.1 22 = .ok (.lload 5, 2) := by decide +kernel
theorem d_M_mayStand_24 : decode me_M_mayStand.2.1 24 = .ok (.lconst 0, 1) := by decide +kernel
theorem d_M_mayStand_25 : decode me_M_mayStand.2.1 25 = .ok (.ldc2_w 114, 3) := by decide +kernel
theorem d_M_mayStand_28 : decode me_M_mayStand.2.1 28 = .ok (.invokestatic 102, 3) := by decide +kernel
theorem d_M_mayStand_31 : decode me_M_mayStand.2.1 31 = .ok (.ifCond .eq 20, 3) := by decide +kernel
theorem d_M_mayStand_34 : decode me_M_mayStand.2.1 34 = .ok (.aload_n 0, 1) := by decide +kernel
theorem d_M_mayStand_35 : decode me_M_mayStand.2.1 35 = .ok (.lload_n 1, 1) := by decide +kernel
theorem d_M_mayStand_36 : decode me_M_mayStand.2.1 36 = .ok (.l2i, 1) := by decide +kernel
theorem d_M_mayStand_37 : decode me_M_mayStand.2.1 37 = .ok (.aload_n 0, 1) := by decide +kernel
theorem d_M_mayStand_38 : decode me_M_mayStand.2.1 38 = .ok (.getfield 106, 3) := by decide +kernel
theorem d_M_mayStand_41 : decode me_M_mayStand.2.1 41 = .ok (.invokevirtual 116, 3) := by decide +kernel
theorem d_M_mayStand_44 : decode me_M_mayStand.2.1 44 = .ok (.ifCond .eq 7, 3) := by decide +kernel
theorem d_M_mayStand_47 : decode me_M_mayStand.2.1 47 = .ok (.iconst 1, 1) := by decide +kernel
theorem d_M_mayStand_48 : decode me_M_mayStand.2.1 48 = .ok (.goto 4, 3) := by decide +kernel
theorem d_M_mayStand_51 : decode me_M_mayStand.2.1 51 = .ok (.iconst 0, 1) := by decide +kernel
theorem d_M_mayStand_52 : decode me_M_mayStand.2.1 52 = .ok (.ireturn, 1) := by decide +kernel
noncomputable def f_M_mayStand  (a1 : Int64) (a3 : Int64) (a5 : Int64) (m0 : gk_M) : Option (Int32 × gk_M) :=
  gk_bi (f_M_within a1 0 899 m0) fun v2 m1 =>
  if v2 = 0 then
    some (0, m1)
  else
    gk_bi (f_M_within a3 0 9 m1) fun v4 m3 =>
    if v4 = 0 then
      some (0, m3)
    else
      gk_bi (f_M_within a5 0 99 m3) fun v6 m5 =>
      if v6 = 0 then
        some (0, m5)
      else
        gk_bi (f_M_isFreeOf a1.toInt32 (m5.1 0 6) m5) fun v8 m7 =>
        if v8 = 0 then
          some (0, m7)
        else
          some (1, m7)

theorem s_M_mayStand_0 {z : gk_Z} (K : gk_F tm z me_M_mayStand 2) {r : Int32} {mem2 : gk_M} : ∀ a1 a3 a5 m0, f_M_mayStand a1 a3 a5 m0 = some (r, mem2) → gk_G tm z me_M_mayStand (gk_R tm z (some (.int r)) mem2) m0 [(0, .ref 0), (1, .long a1), (3, .long a3), (5, .long a5)] [] 0 := by
  intro a1 a3 a5 m0  h
  unfold f_M_mayStand at h
  refine gk_lload_n (pc := 0) K d_M_mayStand_0 rfl ?_
  refine gk_lconst (pc := 1) K d_M_mayStand_1 kl_0 ?_
  refine gk_ldc2 (pc := 2) K d_M_mayStand_2 lc_M_100 ?_
  obtain ⟨v2, m1, em1, h⟩ := gk_bi_some h
  refine gk_cSi (As := [.long a1, .long 0, .long 899]) (pc := 5) K d_M_mayStand_5 ms_M_102 mc_M_within rfl (s_M_within (gk_FD K)  em1) (by decide) rfl (Nat.le_of_ble_eq_true rfl) ?_
  refine gk_if_eq (tgt := 51) (pc := 8) K d_M_mayStand_8 (by decide) h (fun h => ?_) (fun h => ?_)
  · refine gk_iconst (pc := 51) K d_M_mayStand_51 kc_0 ?_
    exact gk_zretc (pc := 52) K d_M_mayStand_52 rfl (Or.inl rfl) h
  · refine gk_lload_n (pc := 11) K d_M_mayStand_11 rfl ?_
    refine gk_lconst (pc := 12) K d_M_mayStand_12 kl_0 ?_
    refine gk_ldc2 (pc := 13) K d_M_mayStand_13 lc_M_112 ?_
    obtain ⟨v4, m3, em3, h⟩ := gk_bi_some h
    refine gk_cSi (As := [.long a3, .long 0, .long 9]) (pc := 16) K d_M_mayStand_16 ms_M_102 mc_M_within rfl (s_M_within (gk_FD K)  em3) (by decide) rfl (Nat.le_of_ble_eq_true rfl) ?_
    refine gk_if_eq (tgt := 51) (pc := 19) K d_M_mayStand_19 (by decide) h (fun h => ?_) (fun h => ?_)
    · refine gk_iconst (pc := 51) K d_M_mayStand_51 kc_0 ?_
      exact gk_zretc (pc := 52) K d_M_mayStand_52 rfl (Or.inl rfl) h
    · refine gk_lload (pc := 22) K d_M_mayStand_22 rfl ?_
      refine gk_lconst (pc := 24) K d_M_mayStand_24 kl_0 ?_
      refine gk_ldc2 (pc := 25) K d_M_mayStand_25 lc_M_114 ?_
      obtain ⟨v6, m5, em5, h⟩ := gk_bi_some h
      refine gk_cSi (As := [.long a5, .long 0, .long 99]) (pc := 28) K d_M_mayStand_28 ms_M_102 mc_M_within rfl (s_M_within (gk_FD K)  em5) (by decide) rfl (Nat.le_of_ble_eq_true rfl) ?_
      refine gk_if_eq (tgt := 51) (pc := 31) K d_M_mayStand_31 (by decide) h (fun h => ?_) (fun h => ?_)
      · refine gk_iconst (pc := 51) K d_M_mayStand_51 kc_0 ?_
        exact gk_zretc (pc := 52) K d_M_mayStand_52 rfl (Or.inl rfl) h
      · refine gk_aload_n (pc := 34) K d_M_mayStand_34 rfl ?_
        refine gk_lload_n (pc := 35) K d_M_mayStand_35 rfl ?_
        refine gk_l2i (pc := 36) K d_M_mayStand_36 ?_
        refine gk_aload_n (pc := 37) K d_M_mayStand_37 rfl ?_
        refine gk_get (pc := 38) K d_M_mayStand_38 fl_M_106 tm_0 rfl rfl ?_
        obtain ⟨v8, m7, em7, h⟩ := gk_bi_some h
        refine gk_cVi (As := [.int a1.toInt32, .int (m5.1 0 6)]) (pc := 41) K d_M_mayStand_41 mv_M_116 mc_M_isFreeOf rfl tm_0 cl_ok10.1 (s_M_isFreeOf (gk_FD K)  em7) (by decide) rfl (Nat.le_of_ble_eq_true rfl) ?_
        refine gk_if_eq (tgt := 51) (pc := 44) K d_M_mayStand_44 (by decide) h (fun h => ?_) (fun h => ?_)
        · refine gk_iconst (pc := 51) K d_M_mayStand_51 kc_0 ?_
          exact gk_zretc (pc := 52) K d_M_mayStand_52 rfl (Or.inl rfl) h
        · refine gk_iconst (pc := 47) K d_M_mayStand_47 kc_1 ?_
          refine gk_goto (tgt := 52) (pc := 48) K d_M_mayStand_48 (by decide) ?_
          exact gk_zretc (pc := 52) K d_M_mayStand_52 rfl (Or.inr rfl) h
theorem s_M_mayStand {l : Launch} {u : gk_U} (hD : gk_D tm u) {a1 : Int64} {a3 : Int64} {a5 : Int64} {m0 mem2 : gk_M} {r : Int32} (h : f_M_mayStand a1 a3 a5 m0 = some (r, mem2)) : gk_C tm l u me_M_mayStand 2 [.ref 0, .long a1, .long a3, .long a5] m0 (some (.int r)) mem2 :=
  gk_enter hD mc_M_mayStand (Nat.le_of_ble_eq_true rfl) rfl (fun z _ _ K => s_M_mayStand_0 K _ _ _ _  h)
theorem d_M_adds_0 : decode me_M_adds.2.1 0 = .ok (.aload_n 0, 1) := by decide +kernel
theorem d_M_adds_1 : decode me_M_adds.2.1 1 = .ok (.getfield 22, 3) := by decide +kernel
theorem d_M_adds_4 : decode me_M_adds.2.1 4 = .ok (.aload_n 0, 1) := by decide +kernel
theorem d_M_adds_5 : decode me_M_adds.2.1 5 = .ok (.getfield 106, 3) := by decide +kernel
theorem d_M_adds_8 : decode me_M_adds.2.1 8 = .ok (.iload_n 1, 1) := by decide +kernel
theorem d_M_adds_9 : decode me_M_adds.2.1 9 = .ok (.iastore, 1) := by decide +kernel
theorem d_M_adds_10 : decode me_M_adds.2.1 10 = .ok (.aload_n 0, 1) := by decide +kernel
theorem d_M_adds_11 : decode me_M_adds.2.1 11 = .ok (.getfield 25, 3) := by decide +kernel
theorem d_M_adds_14 : decode me_M_adds.2.1 14 = .ok (.aload_n 0, 1) := by decide +kernel
theorem d_M_adds_15 : decode me_M_adds.2.1 15 = .ok (.getfield 106, 3) := by decide +kernel
theorem d_M_adds_18 : decode me_M_adds.2.1 18 = .ok (.aload_n 0, 1) := by decide +kernel
theorem d_M_adds_19 : decode me_M_adds.2.1 19 = .ok (.getfield 106, 3) := by decide +kernel
theorem d_M_adds_22 : decode me_M_adds.2.1 22 = .ok (.iastore, 1) := by decide +kernel
theorem d_M_adds_23 : decode me_M_adds.2.1 23 = .ok (.aload_n 0, 1) := by decide +kernel
theorem d_M_adds_24 : decode me_M_adds.2.1 24 = .ok (.getfield 9, 3) := by decide +kernel
theorem d_M_adds_27 : decode me_M_adds.2.1 27 = .ok (.aload_n 0, 1) := by decide +kernel
theorem d_M_adds_28 : decode me_M_adds.2.1 28 = .ok (.getfield 106, 3) := by decide +kernel
theorem d_M_adds_31 : decode me_M_adds.2.1 31 = .ok (.iload_n 2, 1) := by decide +kernel
theorem d_M_adds_32 : decode me_M_adds.2.1 32 = .ok (.iastore, 1) := by decide +kernel
theorem d_M_adds_33 : decode me_M_adds.2.1 33 = .ok (.aload_n 0, 1) := by decide +kernel
theorem d_M_adds_34 : decode me_M_adds.2.1 34 = .ok (.getfield 9, 3) := by decide +kernel
theorem d_M_adds_37 : decode me_M_adds.2.1 37 = .ok (.bipush 10, 2) := by decide +kernel
theorem d_M_adds_39 : decode me_M_adds.2.1 39 = .ok (.aload_n 0, 1) := by decide +kernel
theorem d_M_adds_40 : decode me_M_adds.2.1 40 = .ok (.getfield 106, 3) := by decide +kernel
theorem d_M_adds_43 : decode me_M_adds.2.1 43 = .ok (.iadd, 1) := by decide +kernel
theorem d_M_adds_44 : decode me_M_adds.2.1 44 = .ok (.iload_n 3, 1) := by decide +kernel
theorem d_M_adds_45 : decode me_M_adds.2.1 45 = .ok (.iastore, 1) := by decide +kernel
theorem d_M_adds_46 : decode me_M_adds.2.1 46 = .ok (.aload_n 0, 1) := by decide +kernel
theorem d_M_adds_47 : decode me_M_adds.2.1 47 = .ok (.getfield 9, 3) := by decide +kernel
theorem d_M_adds_50 : decode me_M_adds.2.1 50 = .ok (.bipush 20, 2) := by decide +kernel
theorem d_M_adds_52 : decode me_M_adds.2.1 52 = .ok (.aload_n 0, 1) := by decide +kernel
theorem d_M_adds_53 : decode me_M_adds.2.1 53 = .ok (.getfield 106, 3) := by decide +kernel
theorem d_M_adds_56 : decode me_M_adds.2.1 56 = .ok (.iadd, 1) := by decide +kernel
theorem d_M_adds_57 : decode me_M_adds.2.1 57 = .ok (.iload 4, 2) := by decide +kernel
theorem d_M_adds_59 : decode me_M_adds.2.1 59 = .ok (.iastore, 1) := by decide +kernel
theorem d_M_adds_60 : decode me_M_adds.2.1 60 = .ok (.aload_n 0, 1) := by decide +kernel
theorem d_M_adds_61 : decode me_M_adds.2.1 61 = .ok (.dup, 1) := by decide +kernel
theorem d_M_adds_62 : decode me_M_adds.2.1 62 = .ok (.getfield 106, 3) := by decide +kernel
theorem d_M_adds_65 : decode me_M_adds.2.1 65 = .ok (.iconst 1, 1) := by decide +kernel
theorem d_M_adds_66 : decode me_M_adds.2.1 66 = .ok (.iadd, 1) := by decide +kernel
theorem d_M_adds_67 : decode me_M_adds.2.1 67 = .ok (.putfield 106, 3) := by decide +kernel
theorem d_M_adds_70 : decode me_M_adds.2.1 70 = .ok (.return_, 1) := by decide +kernel
noncomputable def f_M_adds  (a1 : Int32) (a2 : Int32) (a3 : Int32) (a4 : Int32) (m0 : gk_M) : Option (Unit × gk_M) :=
  gk_si m0 5 20 (m0.1 0 6) a1 fun m1 =>
  gk_si m1 6 20 (m1.1 0 6) (m1.1 0 6) fun m2 =>
  gk_si m2 1 30 (m2.1 0 6) a2 fun m3 =>
  gk_si m3 1 30 (10 + (m3.1 0 6)) a3 fun m4 =>
  gk_si m4 1 30 (20 + (m4.1 0 6)) a4 fun m5 =>
  gk_let (gk_mi m5 0 6 ((m5.1 0 6) + 1)) fun m6 =>
  some ((), m6)

theorem s_M_adds_0 {z : gk_Z} (K : gk_F tm z me_M_adds 1) {r : Unit} {mem2 : gk_M} : ∀ a1 a2 a3 a4 m0, f_M_adds a1 a2 a3 a4 m0 = some (r, mem2) → gk_G tm z me_M_adds (gk_R tm z none mem2) m0 [(0, .ref 0), (1, .int a1), (2, .int a2), (3, .int a3), (4, .int a4)] [] 0 := by
  intro a1 a2 a3 a4 m0  h
  unfold f_M_adds at h
  refine gk_aload_n (pc := 0) K d_M_adds_0 rfl ?_
  refine gk_get (pc := 1) K d_M_adds_1 fl_M_22 tm_0 rfl rfl ?_
  refine gk_aload_n (pc := 4) K d_M_adds_4 rfl ?_
  refine gk_get (pc := 5) K d_M_adds_5 fl_M_106 tm_0 rfl rfl ?_
  refine gk_iload_n (pc := 8) K d_M_adds_8 rfl ?_
  refine gk_iast (pc := 9) K d_M_adds_9 tm_5 h (fun m1 h => ?_)
  refine gk_aload_n (pc := 10) K d_M_adds_10 rfl ?_
  refine gk_get (pc := 11) K d_M_adds_11 fl_M_25 tm_0 rfl rfl ?_
  refine gk_aload_n (pc := 14) K d_M_adds_14 rfl ?_
  refine gk_get (pc := 15) K d_M_adds_15 fl_M_106 tm_0 rfl rfl ?_
  refine gk_aload_n (pc := 18) K d_M_adds_18 rfl ?_
  refine gk_get (pc := 19) K d_M_adds_19 fl_M_106 tm_0 rfl rfl ?_
  refine gk_iast (pc := 22) K d_M_adds_22 tm_6 h (fun m2 h => ?_)
  refine gk_aload_n (pc := 23) K d_M_adds_23 rfl ?_
  refine gk_get (pc := 24) K d_M_adds_24 fl_M_9 tm_0 rfl rfl ?_
  refine gk_aload_n (pc := 27) K d_M_adds_27 rfl ?_
  refine gk_get (pc := 28) K d_M_adds_28 fl_M_106 tm_0 rfl rfl ?_
  refine gk_iload_n (pc := 31) K d_M_adds_31 rfl ?_
  refine gk_iast (pc := 32) K d_M_adds_32 tm_1 h (fun m3 h => ?_)
  refine gk_aload_n (pc := 33) K d_M_adds_33 rfl ?_
  refine gk_get (pc := 34) K d_M_adds_34 fl_M_9 tm_0 rfl rfl ?_
  refine gk_bipush (pc := 37) K d_M_adds_37 kb_10 ?_
  refine gk_aload_n (pc := 39) K d_M_adds_39 rfl ?_
  refine gk_get (pc := 40) K d_M_adds_40 fl_M_106 tm_0 rfl rfl ?_
  refine gk_iadd (pc := 43) K d_M_adds_43 ?_
  refine gk_iload_n (pc := 44) K d_M_adds_44 rfl ?_
  refine gk_iast (pc := 45) K d_M_adds_45 tm_1 h (fun m4 h => ?_)
  refine gk_aload_n (pc := 46) K d_M_adds_46 rfl ?_
  refine gk_get (pc := 47) K d_M_adds_47 fl_M_9 tm_0 rfl rfl ?_
  refine gk_bipush (pc := 50) K d_M_adds_50 kb_20 ?_
  refine gk_aload_n (pc := 52) K d_M_adds_52 rfl ?_
  refine gk_get (pc := 53) K d_M_adds_53 fl_M_106 tm_0 rfl rfl ?_
  refine gk_iadd (pc := 56) K d_M_adds_56 ?_
  refine gk_iload (pc := 57) K d_M_adds_57 rfl ?_
  refine gk_iast (pc := 59) K d_M_adds_59 tm_1 h (fun m5 h => ?_)
  refine gk_aload_n (pc := 60) K d_M_adds_60 rfl ?_
  refine gk_dup (pc := 61) K d_M_adds_61 rfl ?_
  refine gk_get (pc := 62) K d_M_adds_62 fl_M_106 tm_0 rfl rfl ?_
  refine gk_iconst (pc := 65) K d_M_adds_65 kc_1 ?_
  refine gk_iadd (pc := 66) K d_M_adds_66 ?_
  refine gk_puti (pc := 67) K d_M_adds_67 fp_M_106 tm_0 rfl h (fun m6 h => ?_)
  exact gk_vret (pc := 70) K d_M_adds_70 rfl h
theorem s_M_adds {l : Launch} {u : gk_U} (hD : gk_D tm u) {a1 : Int32} {a2 : Int32} {a3 : Int32} {a4 : Int32} {m0 mem2 : gk_M} {r : Unit} (h : f_M_adds a1 a2 a3 a4 m0 = some (r, mem2)) : gk_C tm l u me_M_adds 1 [.ref 0, .int a1, .int a2, .int a3, .int a4] m0 none mem2 :=
  gk_enter hD mc_M_adds (Nat.le_of_ble_eq_true rfl) rfl (fun z _ _ K => s_M_adds_0 K _ _ _ _ _  h)
theorem d_M_tower_0 : decode me_M_tower.2.1 0 = .ok (.iload_n 2, 1) := by decide +kernel
theorem d_M_tower_1 : decode me_M_tower.2.1 1 = .ok (.ifCond .lt 34, 3) := by decide +kernel
theorem d_M_tower_4 : decode me_M_tower.2.1 4 = .ok (.aload_n 0, 1) := by decide +kernel
theorem d_M_tower_5 : decode me_M_tower.2.1 5 = .ok (.iload_n 1, 1) := by decide +kernel
theorem d_M_tower_6 : decode me_M_tower.2.1 6 = .ok (.i2l, 1) := by decide +kernel
theorem d_M_tower_7 : decode me_M_tower.2.1 7 = .ok (.iload_n 2, 1) := by decide +kernel
theorem d_M_tower_8 : decode me_M_tower.2.1 8 = .ok (.sipush 1000, 3) := by decide +kernel
theorem d_M_tower_11 : decode me_M_tower.2.1 11 = .ok (.idiv, 1) := by decide +kernel
theorem d_M_tower_12 : decode me_M_tower.2.1 12 = .ok (.i2l, 1) := by decide +kernel
theorem d_M_tower_13 : decode me_M_tower.2.1 13 = .ok (.iload_n 2, 1) := by decide +kernel
theorem d_M_tower_14 : decode me_M_tower.2.1 14 = .ok (.bipush 10, 2) := by decide +kernel
theorem d_M_tower_16 : decode me_M_tower.2.1 16 = .ok (.idiv, 1) := by decide +kernel
theorem d_M_tower_17 : decode me_M_tower.2.1 17 = .ok (.bipush 100, 2) := by decide +kernel
theorem d_M_tower_19 : decode me_M_tower.2.1 19 = .ok (.irem, 1) := by decide +kernel
theorem d_M_tower_20 : decode me_M_tower.2.1 20 = .ok (.i2l, 1) := by decide +kernel
theorem d_M_tower_21 : decode me_M_tower.2.1 21 = .ok (.invokevirtual 120, 3) := by decide +kernel
theorem d_M_tower_24 : decode me_M_tower.2.1 24 = .ok (.ifCond .eq 11, 3) := by decide +kernel
theorem d_M_tower_27 : decode me_M_tower.2.1 27 = .ok (.iload_n 2, 1) := by decide +kernel
theorem d_M_tower_28 : decode me_M_tower.2.1 28 = .ok (.bipush 10, 2) := by decide +kernel
theorem d_M_tower_30 : decode me_M_tower.2.1 30 = .ok (.irem, 1) := by decide +kernel
theorem d_M_tower_31 : decode me_M_tower.2.1 31 = .ok (.iconst 1, 1) := by decide +kernel
theorem d_M_tower_32 : decode me_M_tower.2.1 32 = .ok (.if_icmp .le 5, 3) := by decide +kernel
theorem d_M_tower_35 : decode me_M_tower.2.1 35 = .ok (.iconst (-1), 1) := by decide +kernel
theorem d_M_tower_36 : decode me_M_tower.2.1 36 = .ok (.ireturn, 1) := by decide +kernel
theorem d_M_tower_37 : decode me_M_tower.2.1 37 = .ok (.aload_n 0, 1) := by decide +kernel
theorem d_M_tower_38 : decode me_M_tower.2.1 38 = .ok (.getfield 106, 3) := by decide +kernel
theorem d_M_tower_41 : decode me_M_tower.2.1 41 = .ok (.bipush 10, 2) := by decide +kernel
theorem d_M_tower_43 : decode me_M_tower.2.1 43 = .ok (.if_icmp .ne 6, 3) := by decide +kernel
theorem d_M_tower_46 : decode me_M_tower.2.1 46 = .ok (.bipush (-3), 2) := by decide +kernel
theorem d_M_tower_48 : decode me_M_tower.2.1 48 = .ok (.ireturn, 1) := by decide +kernel
theorem d_M_tower_49 : decode me_M_tower.2.1 49 = .ok (.aload_n 0, 1) := by decide +kernel
theorem d_M_tower_50 : decode me_M_tower.2.1 50 = .ok (.iload_n 1, 1) := by decide +kernel
theorem d_M_tower_51 : decode me_M_tower.2.1 51 = .ok (.iload_n 2, 1) := by decide +kernel
theorem d_M_tower_52 : decode me_M_tower.2.1 52 = .ok (.sipush 1000, 3) := by decide +kernel
theorem d_M_tower_55 : decode me_M_tower.2.1 55 = .ok (.idiv, 1) := by decide +kernel
theorem d_M_tower_56 : decode me_M_tower.2.1 56 = .ok (.iload_n 2, 1) := by decide +kernel
theorem d_M_tower_57 : decode me_M_tower.2.1 57 = .ok (.bipush 10, 2) := by decide +kernel
theorem d_M_tower_59 : decode me_M_tower.2.1 59 = .ok (.idiv, 1) := by decide +kernel
theorem d_M_tower_60 : decode me_M_tower.2.1 60 = .ok (.bipush 100, 2) := by decide +kernel
theorem d_M_tower_62 : decode me_M_tower.2.1 62 = .ok (.irem, 1) := by decide +kernel
theorem d_M_tower_63 : decode me_M_tower.2.1 63 = .ok (.iload_n 2, 1) := by decide +kernel
theorem d_M_tower_64 : decode me_M_tower.2.1 64 = .ok (.bipush 10, 2) := by decide +kernel
theorem d_M_tower_66 : decode me_M_tower.2.1 66 = .ok (.irem, 1) := by decide +kernel
theorem d_M_tower_67 : decode me_M_tower.2.1 67 = .ok (.invokevirtual 123, 3) := by decide +kernel
theorem d_M_tower_70 : decode me_M_tower.2.1 70 = .ok (.aload_n 0, 1) := by decide +kernel
theorem d_M_tower_71 : decode me_M_tower.2.1 71 = .ok (.getfield 106, 3) := by decide +kernel
theorem d_M_tower_74 : decode me_M_tower.2.1 74 = .ok (.iconst 1, 1) := by decide +kernel
theorem d_M_tower_75 : decode me_M_tower.2.1 75 = .ok (.isub, 1) := by decide +kernel
theorem d_M_tower_76 : decode me_M_tower.2.1 76 = .ok (.ireturn, 1) := by decide +kernel
noncomputable def f_M_tower  (a1 : Int32) (a2 : Int32) (m0 : gk_M) : Option (Int32 × gk_M) :=
  if a2 < 0 then
    some ((-1), m0)
  else
    gk_bi (f_M_mayStand a1.toInt64 (a2 / 1000).toInt64 (gk_rem (a2 / 10) 100).toInt64 m0) fun v2 m1 =>
    if v2 = 0 then
      some ((-1), m1)
    else
      if (gk_rem a2 10) ≤ 1 then
        if ¬ (m1.1 0 6) = 10 then
          gk_bv (f_M_adds a1 (a2 / 1000) (gk_rem (a2 / 10) 100) (gk_rem a2 10) m1) fun m3 =>
          some (((m3.1 0 6) - 1), m3)
        else
          some ((-3), m1)
      else
        some ((-1), m1)

theorem s_M_tower_0 {z : gk_Z} (K : gk_F tm z me_M_tower 3) {r : Int32} {mem2 : gk_M} : ∀ a1 a2 m0, f_M_tower a1 a2 m0 = some (r, mem2) → gk_G tm z me_M_tower (gk_R tm z (some (.int r)) mem2) m0 [(0, .ref 0), (1, .int a1), (2, .int a2)] [] 0 := by
  intro a1 a2 m0  h
  unfold f_M_tower at h
  refine gk_iload_n (pc := 0) K d_M_tower_0 rfl ?_
  refine gk_if_lt (tgt := 35) (pc := 1) K d_M_tower_1 (by decide) h (fun h => ?_) (fun h => ?_)
  · refine gk_iconst (pc := 35) K d_M_tower_35 kc_m1 ?_
    exact gk_iret (pc := 36) K d_M_tower_36 rfl h
  · refine gk_aload_n (pc := 4) K d_M_tower_4 rfl ?_
    refine gk_iload_n (pc := 5) K d_M_tower_5 rfl ?_
    refine gk_i2l (pc := 6) K d_M_tower_6 ?_
    refine gk_iload_n (pc := 7) K d_M_tower_7 rfl ?_
    refine gk_sipush (pc := 8) K d_M_tower_8 ks_1000 ?_
    refine gk_idivc2 (pc := 11) K d_M_tower_11 (by decide) ?_
    refine gk_i2l (pc := 12) K d_M_tower_12 ?_
    refine gk_iload_n (pc := 13) K d_M_tower_13 rfl ?_
    refine gk_bipush (pc := 14) K d_M_tower_14 kb_10 ?_
    refine gk_idivc2 (pc := 16) K d_M_tower_16 (by decide) ?_
    refine gk_bipush (pc := 17) K d_M_tower_17 kb_100 ?_
    refine gk_iremc2 (pc := 19) K d_M_tower_19 (by decide) ?_
    refine gk_i2l (pc := 20) K d_M_tower_20 ?_
    obtain ⟨v2, m1, em1, h⟩ := gk_bi_some h
    refine gk_cVi (As := [.long a1.toInt64, .long (a2 / 1000).toInt64, .long (gk_rem (a2 / 10) 100).toInt64]) (pc := 21) K d_M_tower_21 mv_M_120 mc_M_mayStand rfl tm_0 cl_ok10.1 (s_M_mayStand (gk_FD K)  em1) (by decide) rfl (Nat.le_of_ble_eq_true rfl) ?_
    refine gk_if_eq (tgt := 35) (pc := 24) K d_M_tower_24 (by decide) h (fun h => ?_) (fun h => ?_)
    · refine gk_iconst (pc := 35) K d_M_tower_35 kc_m1 ?_
      exact gk_iret (pc := 36) K d_M_tower_36 rfl h
    · refine gk_iload_n (pc := 27) K d_M_tower_27 rfl ?_
      refine gk_bipush (pc := 28) K d_M_tower_28 kb_10 ?_
      refine gk_iremc2 (pc := 30) K d_M_tower_30 (by decide) ?_
      refine gk_iconst (pc := 31) K d_M_tower_31 kc_1 ?_
      refine gk_ic_le (tgt := 37) (pc := 32) K d_M_tower_32 (by decide) h (fun h => ?_) (fun h => ?_)
      · refine gk_aload_n (pc := 37) K d_M_tower_37 rfl ?_
        refine gk_get (pc := 38) K d_M_tower_38 fl_M_106 tm_0 rfl rfl ?_
        refine gk_bipush (pc := 41) K d_M_tower_41 kb_10 ?_
        refine gk_ic_ne (tgt := 49) (pc := 43) K d_M_tower_43 (by decide) h (fun h => ?_) (fun h => ?_)
        · refine gk_aload_n (pc := 49) K d_M_tower_49 rfl ?_
          refine gk_iload_n (pc := 50) K d_M_tower_50 rfl ?_
          refine gk_iload_n (pc := 51) K d_M_tower_51 rfl ?_
          refine gk_sipush (pc := 52) K d_M_tower_52 ks_1000 ?_
          refine gk_idivc2 (pc := 55) K d_M_tower_55 (by decide) ?_
          refine gk_iload_n (pc := 56) K d_M_tower_56 rfl ?_
          refine gk_bipush (pc := 57) K d_M_tower_57 kb_10 ?_
          refine gk_idivc2 (pc := 59) K d_M_tower_59 (by decide) ?_
          refine gk_bipush (pc := 60) K d_M_tower_60 kb_100 ?_
          refine gk_iremc2 (pc := 62) K d_M_tower_62 (by decide) ?_
          refine gk_iload_n (pc := 63) K d_M_tower_63 rfl ?_
          refine gk_bipush (pc := 64) K d_M_tower_64 kb_10 ?_
          refine gk_iremc2 (pc := 66) K d_M_tower_66 (by decide) ?_
          obtain ⟨m3, em3, h⟩ := gk_bv_some h
          refine gk_cVv (As := [.int a1, .int (a2 / 1000), .int (gk_rem (a2 / 10) 100), .int (gk_rem a2 10)]) (pc := 67) K d_M_tower_67 mv_M_123 mc_M_adds rfl tm_0 cl_ok10.1 (s_M_adds (gk_FD K)  em3) (by decide) rfl (Nat.le_of_ble_eq_true rfl) ?_
          refine gk_aload_n (pc := 70) K d_M_tower_70 rfl ?_
          refine gk_get (pc := 71) K d_M_tower_71 fl_M_106 tm_0 rfl rfl ?_
          refine gk_iconst (pc := 74) K d_M_tower_74 kc_1 ?_
          refine gk_isub (pc := 75) K d_M_tower_75 ?_
          exact gk_iret (pc := 76) K d_M_tower_76 rfl h
        · refine gk_bipush (pc := 46) K d_M_tower_46 kb_m3 ?_
          exact gk_iret (pc := 48) K d_M_tower_48 rfl h
      · refine gk_iconst (pc := 35) K d_M_tower_35 kc_m1 ?_
        exact gk_iret (pc := 36) K d_M_tower_36 rfl h
theorem s_M_tower {l : Launch} {u : gk_U} (hD : gk_D tm u) {a1 : Int32} {a2 : Int32} {m0 mem2 : gk_M} {r : Int32} (h : f_M_tower a1 a2 m0 = some (r, mem2)) : gk_C tm l u me_M_tower 3 [.ref 0, .int a1, .int a2] m0 (some (.int r)) mem2 :=
  gk_enter hD mc_M_tower (Nat.le_of_ble_eq_true rfl) rfl (fun z _ _ K => s_M_tower_0 K _ _ _  h)
theorem d_M_isShelf_0 : decode me_M_isShelf.2.1 0 = .ok (.iload_n 0, 1) := by decide +kernel
theorem d_M_isShelf_1 : decode me_M_isShelf.2.1 1 = .ok (.i2l, 1) := by decide +kernel
theorem d_M_isShelf_2 : decode me_M_isShelf.2.1 2 = .ok (.lconst 0, 1) := by decide +kernel
theorem d_M_isShelf_3 : decode me_M_isShelf.2.1 3 = .ok (.ldc2_w 418, 3) := by decide +kernel
theorem d_M_isShelf_6 : decode me_M_isShelf.2.1 6 = .ok (.invokestatic 102, 3) := by decide +kernel
theorem d_M_isShelf_9 : decode me_M_isShelf.2.1 9 = .ok (.ireturn, 1) := by decide +kernel
noncomputable def f_M_isShelf  (a0 : Int32) (m0 : gk_M) : Option (Int32 × gk_M) :=
  gk_bi (f_M_within a0.toInt64 0 5 m0) fun v2 m1 =>
  gk_zz v2 (some (v2, m1))

theorem s_M_isShelf_0 {z : gk_Z} (K : gk_F tm z me_M_isShelf 2) {r : Int32} {mem2 : gk_M} : ∀ a0 m0, f_M_isShelf a0 m0 = some (r, mem2) → gk_G tm z me_M_isShelf (gk_R tm z (some (.int r)) mem2) m0 [(0, .int a0)] [] 0 := by
  intro a0 m0  h
  unfold f_M_isShelf at h
  refine gk_iload_n (pc := 0) K d_M_isShelf_0 rfl ?_
  refine gk_i2l (pc := 1) K d_M_isShelf_1 ?_
  refine gk_lconst (pc := 2) K d_M_isShelf_2 kl_0 ?_
  refine gk_ldc2 (pc := 3) K d_M_isShelf_3 lc_M_418 ?_
  obtain ⟨v2, m1, em1, h⟩ := gk_bi_some h
  refine gk_cSi (As := [.long a0.toInt64, .long 0, .long 5]) (pc := 6) K d_M_isShelf_6 ms_M_102 mc_M_within rfl (s_M_within (gk_FD K)  em1) (by decide) rfl (Nat.le_of_ble_eq_true rfl) ?_
  exact gk_zret (pc := 9) K d_M_isShelf_9 rfl h
theorem s_M_isShelf {l : Launch} {u : gk_U} (hD : gk_D tm u) {a0 : Int32} {m0 mem2 : gk_M} {r : Int32} (h : f_M_isShelf a0 m0 = some (r, mem2)) : gk_C tm l u me_M_isShelf 2 [.int a0] m0 (some (.int r)) mem2 :=
  gk_enter hD mc_M_isShelf (Nat.le_of_ble_eq_true rfl) rfl (fun z _ _ K => s_M_isShelf_0 K _ _  h)
theorem d_M_towers_0 : decode me_M_towers.2.1 0 = .ok (.iload_n 1, 1) := by decide +kernel
theorem d_M_towers_1 : decode me_M_towers.2.1 1 = .ok (.invokestatic 127, 3) := by decide +kernel
theorem d_M_towers_4 : decode me_M_towers.2.1 4 = .ok (.ifCond .eq 15, 3) := by decide +kernel
theorem d_M_towers_7 : decode me_M_towers.2.1 7 = .ok (.iload_n 3, 1) := by decide +kernel
theorem d_M_towers_8 : decode me_M_towers.2.1 8 = .ok (.i2l, 1) := by decide +kernel
theorem d_M_towers_9 : decode me_M_towers.2.1 9 = .ok (.lconst 1, 1) := by decide +kernel
theorem d_M_towers_10 : decode me_M_towers.2.1 10 = .ok (.ldc2_w 131, 3) := by decide +kernel
theorem d_M_towers_13 : decode me_M_towers.2.1 13 = .ok (.invokestatic 102, 3) := by decide +kernel
theorem d_M_towers_16 : decode me_M_towers.2.1 16 = .ok (.ifCond .ne 5, 3) := by decide +kernel
theorem d_M_towers_19 : decode me_M_towers.2.1 19 = .ok (.iconst (-1), 1) := by decide +kernel
theorem d_M_towers_20 : decode me_M_towers.2.1 20 = .ok (.ireturn, 1) := by decide +kernel
theorem d_M_towers_21 : decode me_M_towers.2.1 21 = .ok (.aload_n 0, 1) := by decide +kernel
theorem d_M_towers_22 : decode me_M_towers.2.1 22 = .ok (.getfield 77, 3) := by decide +kernel
theorem d_M_towers_25 : decode me_M_towers.2.1 25 = .ok (.iload_n 1, 1) := by decide +kernel
theorem d_M_towers_26 : decode me_M_towers.2.1 26 = .ok (.iaload, 1) := by decide +kernel
theorem d_M_towers_27 : decode me_M_towers.2.1 27 = .ok (.ifCond .lt 17, 3) := by decide +kernel
theorem d_M_towers_30 : decode me_M_towers.2.1 30 = .ok (.aload_n 0, 1) := by decide +kernel
theorem d_M_towers_31 : decode me_M_towers.2.1 31 = .ok (.getfield 77, 3) := by decide +kernel
theorem d_M_towers_34 : decode me_M_towers.2.1 34 = .ok (.iload_n 1, 1) := by decide +kernel
theorem d_M_towers_35 : decode me_M_towers.2.1 35 = .ok (.iaload, 1) := by decide +kernel
theorem d_M_towers_36 : decode me_M_towers.2.1 36 = .ok (.bipush 51, 2) := by decide +kernel
theorem d_M_towers_38 : decode me_M_towers.2.1 38 = .ok (.if_icmp .eq 6, 3) := by decide +kernel
theorem d_M_towers_41 : decode me_M_towers.2.1 41 = .ok (.bipush (-12), 2) := by decide +kernel
theorem d_M_towers_43 : decode me_M_towers.2.1 43 = .ok (.ireturn, 1) := by decide +kernel
theorem d_M_towers_44 : decode me_M_towers.2.1 44 = .ok (.iconst 0, 1) := by decide +kernel
theorem d_M_towers_45 : decode me_M_towers.2.1 45 = .ok (.istore 4, 2) := by decide +kernel
theorem d_M_towers_47 : decode me_M_towers.2.1 47 = .ok (.aload_n 0, 1) := by decide +kernel
theorem d_M_towers_48 : decode me_M_towers.2.1 48 = .ok (.getfield 77, 3) := by decide +kernel
theorem d_M_towers_51 : decode me_M_towers.2.1 51 = .ok (.iload_n 1, 1) := by decide +kernel
theorem d_M_towers_52 : decode me_M_towers.2.1 52 = .ok (.iaload, 1) := by decide +kernel
theorem d_M_towers_53 : decode me_M_towers.2.1 53 = .ok (.bipush 51, 2) := by decide +kernel
theorem d_M_towers_55 : decode me_M_towers.2.1 55 = .ok (.if_icmp .ne 11, 3) := by decide +kernel
theorem d_M_towers_58 : decode me_M_towers.2.1 58 = .ok (.iload_n 2, 1) := by decide +kernel
theorem d_M_towers_59 : decode me_M_towers.2.1 59 = .ok (.ifCond .lt 7, 3) := by decide +kernel
theorem d_M_towers_62 : decode me_M_towers.2.1 62 = .ok (.iconst 1, 1) := by decide +kernel
theorem d_M_towers_63 : decode me_M_towers.2.1 63 = .ok (.goto 4, 3) := by decide +kernel
theorem d_M_towers_66 : decode me_M_towers.2.1 66 = .ok (.iconst 0, 1) := by decide +kernel
theorem d_M_towers_67 : decode me_M_towers.2.1 67 = .ok (.istore 5, 2) := by decide +kernel
theorem d_M_towers_69 : decode me_M_towers.2.1 69 = .ok (.iload 5, 2) := by decide +kernel
theorem d_M_towers_71 : decode me_M_towers.2.1 71 = .ok (.ifCond .eq 143, 3) := by decide +kernel
theorem d_M_towers_74 : decode me_M_towers.2.1 74 = .ok (.iload 4, 2) := by decide +kernel
theorem d_M_towers_76 : decode me_M_towers.2.1 76 = .ok (.iload_n 3, 1) := by decide +kernel
theorem d_M_towers_77 : decode me_M_towers.2.1 77 = .ok (.if_icmp .ge 137, 3) := by decide +kernel
theorem d_M_towers_80 : decode me_M_towers.2.1 80 = .ok (.iload_n 2, 1) := by decide +kernel
theorem d_M_towers_81 : decode me_M_towers.2.1 81 = .ok (.aload_n 0, 1) := by decide +kernel
theorem d_M_towers_82 : decode me_M_towers.2.1 82 = .ok (.getfield 80, 3) := by decide +kernel
theorem d_M_towers_85 : decode me_M_towers.2.1 85 = .ok (.iload_n 1, 1) := by decide +kernel
theorem d_M_towers_86 : decode me_M_towers.2.1 86 = .ok (.iaload, 1) := by decide +kernel
theorem d_M_towers_87 : decode me_M_towers.2.1 87 = .ok (.iconst 3, 1) := by decide +kernel
theorem d_M_towers_88 : decode me_M_towers.2.1 88 = .ok (.isub, 1) := by decide +kernel
theorem d_M_towers_89 : decode me_M_towers.2.1 89 = .ok (.iconst 3, 1) := by decide +kernel
theorem d_M_towers_90 : decode me_M_towers.2.1 90 = .ok (.iload 4, 2) := by decide +kernel
theorem d_M_towers_92 : decode me_M_towers.2.1 92 = .ok (.imul, 1) := by decide +kernel
theorem d_M_towers_93 : decode me_M_towers.2.1 93 = .ok (.isub, 1) := by decide +kernel
theorem d_M_towers_94 : decode me_M_towers.2.1 94 = .ok (.if_icmp .gt 16, 3) := by decide +kernel
theorem d_M_towers_97 : decode me_M_towers.2.1 97 = .ok (.aload_n 0, 1) := by decide +kernel
theorem d_M_towers_98 : decode me_M_towers.2.1 98 = .ok (.getfield 106, 3) := by decide +kernel
theorem d_M_towers_101 : decode me_M_towers.2.1 101 = .ok (.bipush 10, 2) := by decide +kernel
theorem d_M_towers_103 : decode me_M_towers.2.1 103 = .ok (.if_icmp .ge 7, 3) := by decide +kernel
theorem d_M_towers_106 : decode me_M_towers.2.1 106 = .ok (.iconst 1, 1) := by decide +kernel
theorem d_M_towers_107 : decode me_M_towers.2.1 107 = .ok (.goto 4, 3) := by decide +kernel
theorem d_M_towers_110 : decode me_M_towers.2.1 110 = .ok (.iconst 0, 1) := by decide +kernel
theorem d_M_towers_111 : decode me_M_towers.2.1 111 = .ok (.istore 5, 2) := by decide +kernel
theorem d_M_towers_113 : decode me_M_towers.2.1 113 = .ok (.bipush 60, 2) := by decide +kernel
theorem d_M_towers_115 : decode me_M_towers.2.1 115 = .ok (.iload_n 1, 1) := by decide +kernel
theorem d_M_towers_116 : decode me_M_towers.2.1 116 = .ok (.imul, 1) := by decide +kernel
theorem d_M_towers_117 : decode me_M_towers.2.1 117 = .ok (.iload_n 2, 1) := by decide +kernel
theorem d_M_towers_118 : decode me_M_towers.2.1 118 = .ok (.iadd, 1) := by decide +kernel
theorem d_M_towers_119 : decode me_M_towers.2.1 119 = .ok (.iconst 3, 1) := by decide +kernel
theorem d_M_towers_120 : decode me_M_towers.2.1 120 = .ok (.iload 4, 2) := by decide +kernel
theorem d_M_towers_122 : decode me_M_towers.2.1 122 = .ok (.imul, 1) := by decide +kernel
theorem d_M_towers_123 : decode me_M_towers.2.1 123 = .ok (.iadd, 1) := by decide +kernel
theorem d_M_towers_124 : decode me_M_towers.2.1 124 = .ok (.istore 6, 2) := by decide +kernel
theorem d_M_towers_126 : decode me_M_towers.2.1 126 = .ok (.iload 5, 2) := by decide +kernel
theorem d_M_towers_128 : decode me_M_towers.2.1 128 = .ok (.ifCond .eq 39, 3) := by decide +kernel
theorem d_M_towers_131 : decode me_M_towers.2.1 131 = .ok (.aload_n 0, 1) := by decide +kernel
theorem d_M_towers_132 : decode me_M_towers.2.1 132 = .ok (.aload_n 0, 1) := by decide +kernel
theorem d_M_towers_133 : decode me_M_towers.2.1 133 = .ok (.getfield 83, 3) := by decide +kernel
theorem d_M_towers_136 : decode me_M_towers.2.1 136 = .ok (.iload 6, 2) := by decide +kernel
theorem d_M_towers_138 : decode me_M_towers.2.1 138 = .ok (.laload, 1) := by decide +kernel
theorem d_M_towers_139 : decode me_M_towers.2.1 139 = .ok (.aload_n 0, 1) := by decide +kernel
theorem d_M_towers_140 : decode me_M_towers.2.1 140 = .ok (.getfield 83, 3) := by decide +kernel
theorem d_M_towers_143 : decode me_M_towers.2.1 143 = .ok (.iload 6, 2) := by decide +kernel
theorem d_M_towers_145 : decode me_M_towers.2.1 145 = .ok (.iconst 1, 1) := by decide +kernel
theorem d_M_towers_146 : decode me_M_towers.2.1 146 = .ok (.iadd, 1) := by decide +kernel
theorem d_M_towers_147 : decode me_M_towers.2.1 147 = .ok (.laload, 1) := by decide +kernel
theorem d_M_towers_148 : decode me_M_towers.2.1 148 = .ok (.aload_n 0, 1) := by decide +kernel
theorem d_M_towers_149 : decode me_M_towers.2.1 149 = .ok (.getfield 83, 3) := by decide +kernel
theorem d_M_towers_152 : decode me_M_towers.2.1 152 = .ok (.iload 6, 2) := by decide +kernel
theorem d_M_towers_154 : decode me_M_towers.2.1 154 = .ok (.iconst 2, 1) := by decide +kernel
theorem d_M_towers_155 : decode me_M_towers.2.1 155 = .ok (.iadd, 1) := by decide +kernel
theorem d_M_towers_156 : decode me_M_towers.2.1 156 = .ok (.laload, 1) := by decide +kernel
theorem d_M_towers_157 : decode me_M_towers.2.1 157 = .ok (.invokevirtual 120, 3) := by decide +kernel
theorem d_M_towers_160 : decode me_M_towers.2.1 160 = .ok (.ifCond .eq 7, 3) := by decide +kernel
theorem d_M_towers_163 : decode me_M_towers.2.1 163 = .ok (.iconst 1, 1) := by decide +kernel
theorem d_M_towers_164 : decode me_M_towers.2.1 164 = .ok (.goto 4, 3) := by decide +kernel
theorem d_M_towers_167 : decode me_M_towers.2.1 167 = .ok (.iconst 0, 1) := by decide +kernel
theorem d_M_towers_168 : decode me_M_towers.2.1 168 = .ok (.istore 5, 2) := by decide +kernel
theorem d_M_towers_170 : decode me_M_towers.2.1 170 = .ok (.iload 5, 2) := by decide +kernel
theorem d_M_towers_172 : decode me_M_towers.2.1 172 = .ok (.ifCond .eq 39, 3) := by decide +kernel
theorem d_M_towers_175 : decode me_M_towers.2.1 175 = .ok (.aload_n 0, 1) := by decide +kernel
theorem d_M_towers_176 : decode me_M_towers.2.1 176 = .ok (.aload_n 0, 1) := by decide +kernel
theorem d_M_towers_177 : decode me_M_towers.2.1 177 = .ok (.getfield 83, 3) := by decide +kernel
theorem d_M_towers_180 : decode me_M_towers.2.1 180 = .ok (.iload 6, 2) := by decide +kernel
theorem d_M_towers_182 : decode me_M_towers.2.1 182 = .ok (.laload, 1) := by decide +kernel
theorem d_M_towers_183 : decode me_M_towers.2.1 183 = .ok (.l2i, 1) := by decide +kernel
theorem d_M_towers_184 : decode me_M_towers.2.1 184 = .ok (.aload_n 0, 1) := by decide +kernel
theorem d_M_towers_185 : decode me_M_towers.2.1 185 = .ok (.getfield 83, 3) := by decide +kernel
theorem d_M_towers_188 : decode me_M_towers.2.1 188 = .ok (.iload 6, 2) := by decide +kernel
theorem d_M_towers_190 : decode me_M_towers.2.1 190 = .ok (.iconst 1, 1) := by decide +kernel
theorem d_M_towers_191 : decode me_M_towers.2.1 191 = .ok (.iadd, 1) := by decide +kernel
theorem d_M_towers_192 : decode me_M_towers.2.1 192 = .ok (.laload, 1) := by decide +kernel
theorem d_M_towers_193 : decode me_M_towers.2.1 193 = .ok (.l2i, 1) := by decide +kernel
theorem d_M_towers_194 : decode me_M_towers.2.1 194 = .ok (.aload_n 0, 1) := by decide +kernel
theorem d_M_towers_195 : decode me_M_towers.2.1 195 = .ok (.getfield 83, 3) := by decide +kernel
theorem d_M_towers_198 : decode me_M_towers.2.1 198 = .ok (.iload 6, 2) := by decide +kernel
theorem d_M_towers_200 : decode me_M_towers.2.1 200 = .ok (.iconst 2, 1) := by decide +kernel
theorem d_M_towers_201 : decode me_M_towers.2.1 201 = .ok (.iadd, 1) := by decide +kernel
theorem d_M_towers_202 : decode me_M_towers.2.1 202 = .ok (.laload, 1) := by decide +kernel
theorem d_M_towers_203 : decode me_M_towers.2.1 203 = .ok (.l2i, 1) := by decide +kernel
theorem d_M_towers_204 : decode me_M_towers.2.1 204 = .ok (.iconst 0, 1) := by decide +kernel
theorem d_M_towers_205 : decode me_M_towers.2.1 205 = .ok (.invokevirtual 123, 3) := by decide +kernel
theorem d_M_towers_208 : decode me_M_towers.2.1 208 = .ok (.iinc 4 1, 3) := by decide +kernel
theorem d_M_towers_211 : decode me_M_towers.2.1 211 = .ok (.goto (-142), 3) := by decide +kernel
theorem d_M_towers_214 : decode me_M_towers.2.1 214 = .ok (.iload 4, 2) := by decide +kernel
theorem d_M_towers_216 : decode me_M_towers.2.1 216 = .ok (.ireturn, 1) := by decide +kernel
noncomputable def f_M_towers_168 (k69 : Int32 → Int32 → Int32 → Int32 → Int32 → gk_M → Option (Int32 × gk_M)) (a1 : Int32) (a2 : Int32) (a3 : Int32) (a4 : Int32) (a6 : Int32) (s0 : Int32) (m0 : gk_M) : Option (Int32 × gk_M) :=
  if s0 = 0 then
    k69 a1 a2 a3 a4 s0 m0
  else
    gk_al m0 25 360 a6 fun v1 =>
    gk_al m0 25 360 (a6 + 1) fun v2 =>
    gk_al m0 25 360 (a6 + 2) fun v3 =>
    gk_bv (f_M_adds v1.toInt32 v2.toInt32 v3.toInt32 0 m0) fun m4 =>
    k69 a1 a2 a3 (a4 + 1) s0 m4

theorem s_M_towers_168 {z : gk_Z} (K : gk_F tm z me_M_towers 3) {r : Int32} {mem2 : gk_M} {k69 : Int32 → Int32 → Int32 → Int32 → Int32 → gk_M → Option (Int32 × gk_M)} (hk69 : ∀ a1 a2 a3 a4 a5 m0, k69 a1 a2 a3 a4 a5 m0 = some (r, mem2) → gk_G tm z me_M_towers (gk_R tm z (some (.int r)) mem2) m0 [(0, .ref 0), (1, .int a1), (2, .int a2), (3, .int a3), (4, .int a4), (5, .int a5)] [] 69) : ∀ a1 a2 a3 a4 a6 s0 m0, f_M_towers_168 k69 a1 a2 a3 a4 a6 s0 m0 = some (r, mem2) → gk_G tm z me_M_towers (gk_R tm z (some (.int r)) mem2) m0 [(0, .ref 0), (1, .int a1), (2, .int a2), (3, .int a3), (4, .int a4), (6, .int a6)] [.int s0] 168 := by
  intro a1 a2 a3 a4 a6 s0 m0  h
  unfold f_M_towers_168 at h
  refine gk_istore (lv2 := [(5, .int s0), (0, .ref 0), (1, .int a1), (2, .int a2), (3, .int a3), (4, .int a4), (6, .int a6)]) (pc := 168) K d_M_towers_168 (by decide) rfl ?_
  refine gk_iload (pc := 170) K d_M_towers_170 rfl ?_
  refine gk_if_eq (tgt := 211) (pc := 172) K d_M_towers_172 (by decide) h (fun h => ?_) (fun h => ?_)
  · refine gk_goto (tgt := 69) (pc := 211) K d_M_towers_211 (by decide) ?_
    exact gk_sub [1, 2, 3, 4, 5, 0] rfl (hk69 _ _ _ _ _ _  h)
  · refine gk_aload_n (pc := 175) K d_M_towers_175 rfl ?_
    refine gk_aload_n (pc := 176) K d_M_towers_176 rfl ?_
    refine gk_get (pc := 177) K d_M_towers_177 fl_M_83 tm_0 rfl rfl ?_
    refine gk_iload (pc := 180) K d_M_towers_180 rfl ?_
    refine gk_lald (pc := 182) K d_M_towers_182 tm_25 h (fun v1 h => ?_)
    refine gk_l2i (pc := 183) K d_M_towers_183 ?_
    refine gk_aload_n (pc := 184) K d_M_towers_184 rfl ?_
    refine gk_get (pc := 185) K d_M_towers_185 fl_M_83 tm_0 rfl rfl ?_
    refine gk_iload (pc := 188) K d_M_towers_188 rfl ?_
    refine gk_iconst (pc := 190) K d_M_towers_190 kc_1 ?_
    refine gk_iadd (pc := 191) K d_M_towers_191 ?_
    refine gk_lald (pc := 192) K d_M_towers_192 tm_25 h (fun v2 h => ?_)
    refine gk_l2i (pc := 193) K d_M_towers_193 ?_
    refine gk_aload_n (pc := 194) K d_M_towers_194 rfl ?_
    refine gk_get (pc := 195) K d_M_towers_195 fl_M_83 tm_0 rfl rfl ?_
    refine gk_iload (pc := 198) K d_M_towers_198 rfl ?_
    refine gk_iconst (pc := 200) K d_M_towers_200 kc_2 ?_
    refine gk_iadd (pc := 201) K d_M_towers_201 ?_
    refine gk_lald (pc := 202) K d_M_towers_202 tm_25 h (fun v3 h => ?_)
    refine gk_l2i (pc := 203) K d_M_towers_203 ?_
    refine gk_iconst (pc := 204) K d_M_towers_204 kc_0 ?_
    obtain ⟨m4, em4, h⟩ := gk_bv_some h
    refine gk_cVv (As := [.int v1.toInt32, .int v2.toInt32, .int v3.toInt32, .int 0]) (pc := 205) K d_M_towers_205 mv_M_123 mc_M_adds rfl tm_0 cl_ok10.1 (s_M_adds (gk_FD K)  em4) (by decide) rfl (Nat.le_of_ble_eq_true rfl) ?_
    refine gk_iinc2 (lv2 := [(4, .int (a4 + 1)), (5, .int s0), (0, .ref 0), (1, .int a1), (2, .int a2), (3, .int a3), (6, .int a6)]) (pc := 208) K d_M_towers_208 rfl kc_1 (by decide) rfl ?_
    refine gk_goto (tgt := 69) (pc := 211) K d_M_towers_211 (by decide) ?_
    exact gk_sub [2, 3, 4, 5, 0, 1] rfl (hk69 _ _ _ _ _ _  h)
noncomputable def f_M_towers_167 (k69 : Int32 → Int32 → Int32 → Int32 → Int32 → gk_M → Option (Int32 × gk_M)) (a1 : Int32) (a2 : Int32) (a3 : Int32) (a4 : Int32) (a6 : Int32) (m0 : gk_M) : Option (Int32 × gk_M) :=
  f_M_towers_168 k69 a1 a2 a3 a4 a6 0 m0

theorem s_M_towers_167 {z : gk_Z} (K : gk_F tm z me_M_towers 3) {r : Int32} {mem2 : gk_M} {k69 : Int32 → Int32 → Int32 → Int32 → Int32 → gk_M → Option (Int32 × gk_M)} (hk69 : ∀ a1 a2 a3 a4 a5 m0, k69 a1 a2 a3 a4 a5 m0 = some (r, mem2) → gk_G tm z me_M_towers (gk_R tm z (some (.int r)) mem2) m0 [(0, .ref 0), (1, .int a1), (2, .int a2), (3, .int a3), (4, .int a4), (5, .int a5)] [] 69) : ∀ a1 a2 a3 a4 a6 m0, f_M_towers_167 k69 a1 a2 a3 a4 a6 m0 = some (r, mem2) → gk_G tm z me_M_towers (gk_R tm z (some (.int r)) mem2) m0 [(0, .ref 0), (1, .int a1), (2, .int a2), (3, .int a3), (4, .int a4), (6, .int a6)] [] 167 := by
  intro a1 a2 a3 a4 a6 m0  h
  unfold f_M_towers_167 at h
  refine gk_iconst (pc := 167) K d_M_towers_167 kc_0 ?_
  exact gk_sub [0, 1, 2, 3, 4, 5] rfl (s_M_towers_168 K hk69 _ _ _ _ _ _ _  h)
noncomputable def f_M_towers_111 (k69 : Int32 → Int32 → Int32 → Int32 → Int32 → gk_M → Option (Int32 × gk_M)) (a1 : Int32) (a2 : Int32) (a3 : Int32) (a4 : Int32) (s0 : Int32) (m0 : gk_M) : Option (Int32 × gk_M) :=
  gk_let (((60 * a1) + a2) + (3 * a4)) fun v1 =>
  if s0 = 0 then
    f_M_towers_167 k69 a1 a2 a3 a4 v1 m0
  else
    gk_al m0 25 360 v1 fun v2 =>
    gk_al m0 25 360 (v1 + 1) fun v3 =>
    gk_al m0 25 360 (v1 + 2) fun v4 =>
    gk_bi (f_M_mayStand v2 v3 v4 m0) fun v6 m5 =>
    if v6 = 0 then
      f_M_towers_167 k69 a1 a2 a3 a4 v1 m5
    else
      f_M_towers_168 k69 a1 a2 a3 a4 v1 1 m5

theorem s_M_towers_111 {z : gk_Z} (K : gk_F tm z me_M_towers 3) {r : Int32} {mem2 : gk_M} {k69 : Int32 → Int32 → Int32 → Int32 → Int32 → gk_M → Option (Int32 × gk_M)} (hk69 : ∀ a1 a2 a3 a4 a5 m0, k69 a1 a2 a3 a4 a5 m0 = some (r, mem2) → gk_G tm z me_M_towers (gk_R tm z (some (.int r)) mem2) m0 [(0, .ref 0), (1, .int a1), (2, .int a2), (3, .int a3), (4, .int a4), (5, .int a5)] [] 69) : ∀ a1 a2 a3 a4 s0 m0, f_M_towers_111 k69 a1 a2 a3 a4 s0 m0 = some (r, mem2) → gk_G tm z me_M_towers (gk_R tm z (some (.int r)) mem2) m0 [(0, .ref 0), (1, .int a1), (2, .int a2), (3, .int a3), (4, .int a4)] [.int s0] 111 := by
  intro a1 a2 a3 a4 s0 m0  h
  unfold f_M_towers_111 at h
  refine gk_istore (lv2 := [(5, .int s0), (0, .ref 0), (1, .int a1), (2, .int a2), (3, .int a3), (4, .int a4)]) (pc := 111) K d_M_towers_111 (by decide) rfl ?_
  refine gk_bipush (pc := 113) K d_M_towers_113 kb_60 ?_
  refine gk_iload_n (pc := 115) K d_M_towers_115 rfl ?_
  refine gk_imul (pc := 116) K d_M_towers_116 ?_
  refine gk_iload_n (pc := 117) K d_M_towers_117 rfl ?_
  refine gk_iadd (pc := 118) K d_M_towers_118 ?_
  refine gk_iconst (pc := 119) K d_M_towers_119 kc_3 ?_
  refine gk_iload (pc := 120) K d_M_towers_120 rfl ?_
  refine gk_imul (pc := 122) K d_M_towers_122 ?_
  refine gk_iadd (pc := 123) K d_M_towers_123 ?_
  refine gk_topi h (fun v1 h => ?_)
  refine gk_istore (lv2 := [(6, .int v1), (5, .int s0), (0, .ref 0), (1, .int a1), (2, .int a2), (3, .int a3), (4, .int a4)]) (pc := 124) K d_M_towers_124 (by decide) rfl ?_
  refine gk_iload (pc := 126) K d_M_towers_126 rfl ?_
  refine gk_if_eq (tgt := 167) (pc := 128) K d_M_towers_128 (by decide) h (fun h => ?_) (fun h => ?_)
  · exact gk_sub [2, 3, 4, 5, 6, 0] rfl (s_M_towers_167 K hk69 _ _ _ _ _ _  h)
  · refine gk_aload_n (pc := 131) K d_M_towers_131 rfl ?_
    refine gk_aload_n (pc := 132) K d_M_towers_132 rfl ?_
    refine gk_get (pc := 133) K d_M_towers_133 fl_M_83 tm_0 rfl rfl ?_
    refine gk_iload (pc := 136) K d_M_towers_136 rfl ?_
    refine gk_lald (pc := 138) K d_M_towers_138 tm_25 h (fun v2 h => ?_)
    refine gk_aload_n (pc := 139) K d_M_towers_139 rfl ?_
    refine gk_get (pc := 140) K d_M_towers_140 fl_M_83 tm_0 rfl rfl ?_
    refine gk_iload (pc := 143) K d_M_towers_143 rfl ?_
    refine gk_iconst (pc := 145) K d_M_towers_145 kc_1 ?_
    refine gk_iadd (pc := 146) K d_M_towers_146 ?_
    refine gk_lald (pc := 147) K d_M_towers_147 tm_25 h (fun v3 h => ?_)
    refine gk_aload_n (pc := 148) K d_M_towers_148 rfl ?_
    refine gk_get (pc := 149) K d_M_towers_149 fl_M_83 tm_0 rfl rfl ?_
    refine gk_iload (pc := 152) K d_M_towers_152 rfl ?_
    refine gk_iconst (pc := 154) K d_M_towers_154 kc_2 ?_
    refine gk_iadd (pc := 155) K d_M_towers_155 ?_
    refine gk_lald (pc := 156) K d_M_towers_156 tm_25 h (fun v4 h => ?_)
    obtain ⟨v6, m5, em5, h⟩ := gk_bi_some h
    refine gk_cVi (As := [.long v2, .long v3, .long v4]) (pc := 157) K d_M_towers_157 mv_M_120 mc_M_mayStand rfl tm_0 cl_ok10.1 (s_M_mayStand (gk_FD K)  em5) (by decide) rfl (Nat.le_of_ble_eq_true rfl) ?_
    refine gk_if_eq (tgt := 167) (pc := 160) K d_M_towers_160 (by decide) h (fun h => ?_) (fun h => ?_)
    · exact gk_sub [2, 3, 4, 5, 6, 0] rfl (s_M_towers_167 K hk69 _ _ _ _ _ _  h)
    · refine gk_iconst (pc := 163) K d_M_towers_163 kc_1 ?_
      refine gk_goto (tgt := 168) (pc := 164) K d_M_towers_164 (by decide) ?_
      exact gk_sub [2, 3, 4, 5, 6, 0] rfl (s_M_towers_168 K hk69 _ _ _ _ _ _ _  h)
noncomputable def f_M_towers_110 (k69 : Int32 → Int32 → Int32 → Int32 → Int32 → gk_M → Option (Int32 × gk_M)) (a1 : Int32) (a2 : Int32) (a3 : Int32) (a4 : Int32) (m0 : gk_M) : Option (Int32 × gk_M) :=
  f_M_towers_111 k69 a1 a2 a3 a4 0 m0

theorem s_M_towers_110 {z : gk_Z} (K : gk_F tm z me_M_towers 3) {r : Int32} {mem2 : gk_M} {k69 : Int32 → Int32 → Int32 → Int32 → Int32 → gk_M → Option (Int32 × gk_M)} (hk69 : ∀ a1 a2 a3 a4 a5 m0, k69 a1 a2 a3 a4 a5 m0 = some (r, mem2) → gk_G tm z me_M_towers (gk_R tm z (some (.int r)) mem2) m0 [(0, .ref 0), (1, .int a1), (2, .int a2), (3, .int a3), (4, .int a4), (5, .int a5)] [] 69) : ∀ a1 a2 a3 a4 m0, f_M_towers_110 k69 a1 a2 a3 a4 m0 = some (r, mem2) → gk_G tm z me_M_towers (gk_R tm z (some (.int r)) mem2) m0 [(0, .ref 0), (1, .int a1), (2, .int a2), (3, .int a3), (4, .int a4)] [] 110 := by
  intro a1 a2 a3 a4 m0  h
  unfold f_M_towers_110 at h
  refine gk_iconst (pc := 110) K d_M_towers_110 kc_0 ?_
  exact gk_sub [0, 1, 2, 3, 4] rfl (s_M_towers_111 K hk69 _ _ _ _ _ _  h)
noncomputable def f_M_towers_69  : Nat → Int32 → Int32 → Int32 → Int32 → Int32 → gk_M → Option (Int32 × gk_M)
  | 0, _, _, _, _, _, _ => none
  | n + 1, a1, a2, a3, a4, a5, m0 =>
    if a5 = 0 then
      some (a4, m0)
    else
      if a3 ≤ a4 then
        some (a4, m0)
      else
        gk_ai m0 24 6 a1 fun v1 =>
        if ((v1 - 3) - (3 * a4)) < a2 then
          f_M_towers_110 (f_M_towers_69 n) a1 a2 a3 a4 m0
        else
          if 10 ≤ (m0.1 0 6) then
            f_M_towers_110 (f_M_towers_69 n) a1 a2 a3 a4 m0
          else
            f_M_towers_111 (f_M_towers_69 n) a1 a2 a3 a4 1 m0

theorem s_M_towers_69 {z : gk_Z} (K : gk_F tm z me_M_towers 3) {r : Int32} {mem2 : gk_M} : ∀ n a1 a2 a3 a4 a5 m0, f_M_towers_69 n a1 a2 a3 a4 a5 m0 = some (r, mem2) → gk_G tm z me_M_towers (gk_R tm z (some (.int r)) mem2) m0 [(0, .ref 0), (1, .int a1), (2, .int a2), (3, .int a3), (4, .int a4), (5, .int a5)] [] 69 := by
  intro n
  induction n with
  | zero => intro a1 a2 a3 a4 a5 m0  h; exact nomatch (show (none : Option _) = some _ from h)
  | succ n ih =>
    intro a1 a2 a3 a4 a5 m0  h
    unfold f_M_towers_69 at h
    refine gk_iload (pc := 69) K d_M_towers_69 rfl ?_
    refine gk_if_eq (tgt := 214) (pc := 71) K d_M_towers_71 (by decide) h (fun h => ?_) (fun h => ?_)
    · refine gk_iload (pc := 214) K d_M_towers_214 rfl ?_
      exact gk_iret (pc := 216) K d_M_towers_216 rfl h
    · refine gk_iload (pc := 74) K d_M_towers_74 rfl ?_
      refine gk_iload_n (pc := 76) K d_M_towers_76 rfl ?_
      refine gk_ic_ge (tgt := 214) (pc := 77) K d_M_towers_77 (by decide) h (fun h => ?_) (fun h => ?_)
      · refine gk_iload (pc := 214) K d_M_towers_214 rfl ?_
        exact gk_iret (pc := 216) K d_M_towers_216 rfl h
      · refine gk_iload_n (pc := 80) K d_M_towers_80 rfl ?_
        refine gk_aload_n (pc := 81) K d_M_towers_81 rfl ?_
        refine gk_get (pc := 82) K d_M_towers_82 fl_M_80 tm_0 rfl rfl ?_
        refine gk_iload_n (pc := 85) K d_M_towers_85 rfl ?_
        refine gk_iald (pc := 86) K d_M_towers_86 tm_24 h (fun v1 h => ?_)
        refine gk_iconst (pc := 87) K d_M_towers_87 kc_3 ?_
        refine gk_isub (pc := 88) K d_M_towers_88 ?_
        refine gk_iconst (pc := 89) K d_M_towers_89 kc_3 ?_
        refine gk_iload (pc := 90) K d_M_towers_90 rfl ?_
        refine gk_imul (pc := 92) K d_M_towers_92 ?_
        refine gk_isub (pc := 93) K d_M_towers_93 ?_
        refine gk_ic_gt (tgt := 110) (pc := 94) K d_M_towers_94 (by decide) h (fun h => ?_) (fun h => ?_)
        · exact gk_sub [0, 1, 2, 3, 4] rfl (s_M_towers_110 K (fun x0 x1 x2 x3 x4 m  h => ih x0 x1 x2 x3 x4 m  h) _ _ _ _ _  h)
        · refine gk_aload_n (pc := 97) K d_M_towers_97 rfl ?_
          refine gk_get (pc := 98) K d_M_towers_98 fl_M_106 tm_0 rfl rfl ?_
          refine gk_bipush (pc := 101) K d_M_towers_101 kb_10 ?_
          refine gk_ic_ge (tgt := 110) (pc := 103) K d_M_towers_103 (by decide) h (fun h => ?_) (fun h => ?_)
          · exact gk_sub [0, 1, 2, 3, 4] rfl (s_M_towers_110 K (fun x0 x1 x2 x3 x4 m  h => ih x0 x1 x2 x3 x4 m  h) _ _ _ _ _  h)
          · refine gk_iconst (pc := 106) K d_M_towers_106 kc_1 ?_
            refine gk_goto (tgt := 111) (pc := 107) K d_M_towers_107 (by decide) ?_
            exact gk_sub [0, 1, 2, 3, 4] rfl (s_M_towers_111 K (fun x0 x1 x2 x3 x4 m  h => ih x0 x1 x2 x3 x4 m  h) _ _ _ _ _ _  h)
noncomputable def f_M_towers_67  (a1 : Int32) (a2 : Int32) (a3 : Int32) (a4 : Int32) (s0 : Int32) (m0 : gk_M) : Option (Int32 × gk_M) :=
  f_M_towers_69 gk_fv a1 a2 a3 a4 s0 m0

theorem s_M_towers_67 {z : gk_Z} (K : gk_F tm z me_M_towers 3) {r : Int32} {mem2 : gk_M} : ∀ a1 a2 a3 a4 s0 m0, f_M_towers_67 a1 a2 a3 a4 s0 m0 = some (r, mem2) → gk_G tm z me_M_towers (gk_R tm z (some (.int r)) mem2) m0 [(0, .ref 0), (1, .int a1), (2, .int a2), (3, .int a3), (4, .int a4)] [.int s0] 67 := by
  intro a1 a2 a3 a4 s0 m0  h
  unfold f_M_towers_67 at h
  refine gk_istore (lv2 := [(5, .int s0), (0, .ref 0), (1, .int a1), (2, .int a2), (3, .int a3), (4, .int a4)]) (pc := 67) K d_M_towers_67 (by decide) rfl ?_
  exact gk_sub [1, 2, 3, 4, 5, 0] rfl (s_M_towers_69 K _ _ _ _ _ _ _  h)
noncomputable def f_M_towers_66  (a1 : Int32) (a2 : Int32) (a3 : Int32) (a4 : Int32) (m0 : gk_M) : Option (Int32 × gk_M) :=
  f_M_towers_67 a1 a2 a3 a4 0 m0

theorem s_M_towers_66 {z : gk_Z} (K : gk_F tm z me_M_towers 3) {r : Int32} {mem2 : gk_M} : ∀ a1 a2 a3 a4 m0, f_M_towers_66 a1 a2 a3 a4 m0 = some (r, mem2) → gk_G tm z me_M_towers (gk_R tm z (some (.int r)) mem2) m0 [(0, .ref 0), (1, .int a1), (2, .int a2), (3, .int a3), (4, .int a4)] [] 66 := by
  intro a1 a2 a3 a4 m0  h
  unfold f_M_towers_66 at h
  refine gk_iconst (pc := 66) K d_M_towers_66 kc_0 ?_
  exact gk_sub [0, 1, 2, 3, 4] rfl (s_M_towers_67 K _ _ _ _ _ _  h)
noncomputable def f_M_towers_44  (a1 : Int32) (a2 : Int32) (a3 : Int32) (m0 : gk_M) : Option (Int32 × gk_M) :=
  gk_ai m0 23 6 a1 fun v1 =>
  if ¬ v1 = 51 then
    f_M_towers_66 a1 a2 a3 0 m0
  else
    if a2 < 0 then
      f_M_towers_66 a1 a2 a3 0 m0
    else
      f_M_towers_67 a1 a2 a3 0 1 m0

theorem s_M_towers_44 {z : gk_Z} (K : gk_F tm z me_M_towers 3) {r : Int32} {mem2 : gk_M} : ∀ a1 a2 a3 m0, f_M_towers_44 a1 a2 a3 m0 = some (r, mem2) → gk_G tm z me_M_towers (gk_R tm z (some (.int r)) mem2) m0 [(0, .ref 0), (1, .int a1), (2, .int a2), (3, .int a3)] [] 44 := by
  intro a1 a2 a3 m0  h
  unfold f_M_towers_44 at h
  refine gk_iconst (pc := 44) K d_M_towers_44 kc_0 ?_
  refine gk_istore (lv2 := [(4, .int 0), (0, .ref 0), (1, .int a1), (2, .int a2), (3, .int a3)]) (pc := 45) K d_M_towers_45 (by decide) rfl ?_
  refine gk_aload_n (pc := 47) K d_M_towers_47 rfl ?_
  refine gk_get (pc := 48) K d_M_towers_48 fl_M_77 tm_0 rfl rfl ?_
  refine gk_iload_n (pc := 51) K d_M_towers_51 rfl ?_
  refine gk_iald (pc := 52) K d_M_towers_52 tm_23 h (fun v1 h => ?_)
  refine gk_bipush (pc := 53) K d_M_towers_53 kb_51 ?_
  refine gk_ic_ne (tgt := 66) (pc := 55) K d_M_towers_55 (by decide) h (fun h => ?_) (fun h => ?_)
  · exact gk_sub [1, 2, 3, 4, 0] rfl (s_M_towers_66 K _ _ _ _ _  h)
  · refine gk_iload_n (pc := 58) K d_M_towers_58 rfl ?_
    refine gk_if_lt (tgt := 66) (pc := 59) K d_M_towers_59 (by decide) h (fun h => ?_) (fun h => ?_)
    · exact gk_sub [1, 2, 3, 4, 0] rfl (s_M_towers_66 K _ _ _ _ _  h)
    · refine gk_iconst (pc := 62) K d_M_towers_62 kc_1 ?_
      refine gk_goto (tgt := 67) (pc := 63) K d_M_towers_63 (by decide) ?_
      exact gk_sub [1, 2, 3, 4, 0] rfl (s_M_towers_67 K _ _ _ _ _ _  h)
noncomputable def f_M_towers  (a1 : Int32) (a2 : Int32) (a3 : Int32) (m0 : gk_M) : Option (Int32 × gk_M) :=
  gk_bi (f_M_isShelf a1 m0) fun v2 m1 =>
  if v2 = 0 then
    some ((-1), m1)
  else
    gk_bi (f_M_within a3.toInt64 1 10 m1) fun v4 m3 =>
    if ¬ v4 = 0 then
      gk_ai m3 23 6 a1 fun v5 =>
      if v5 < 0 then
        f_M_towers_44 a1 a2 a3 m3
      else
        gk_ai m3 23 6 a1 fun v6 =>
        if v6 = 51 then
          f_M_towers_44 a1 a2 a3 m3
        else
          some ((-12), m3)
    else
      some ((-1), m3)

theorem s_M_towers_0 {z : gk_Z} (K : gk_F tm z me_M_towers 3) {r : Int32} {mem2 : gk_M} : ∀ a1 a2 a3 m0, f_M_towers a1 a2 a3 m0 = some (r, mem2) → gk_G tm z me_M_towers (gk_R tm z (some (.int r)) mem2) m0 [(0, .ref 0), (1, .int a1), (2, .int a2), (3, .int a3)] [] 0 := by
  intro a1 a2 a3 m0  h
  unfold f_M_towers at h
  refine gk_iload_n (pc := 0) K d_M_towers_0 rfl ?_
  obtain ⟨v2, m1, em1, h⟩ := gk_bi_some h
  refine gk_cSi (As := [.int a1]) (pc := 1) K d_M_towers_1 ms_M_127 mc_M_isShelf rfl (s_M_isShelf (gk_FD K)  em1) (by decide) rfl (Nat.le_of_ble_eq_true rfl) ?_
  refine gk_if_eq (tgt := 19) (pc := 4) K d_M_towers_4 (by decide) h (fun h => ?_) (fun h => ?_)
  · refine gk_iconst (pc := 19) K d_M_towers_19 kc_m1 ?_
    exact gk_iret (pc := 20) K d_M_towers_20 rfl h
  · refine gk_iload_n (pc := 7) K d_M_towers_7 rfl ?_
    refine gk_i2l (pc := 8) K d_M_towers_8 ?_
    refine gk_lconst (pc := 9) K d_M_towers_9 kl_1 ?_
    refine gk_ldc2 (pc := 10) K d_M_towers_10 lc_M_131 ?_
    obtain ⟨v4, m3, em3, h⟩ := gk_bi_some h
    refine gk_cSi (As := [.long a3.toInt64, .long 1, .long 10]) (pc := 13) K d_M_towers_13 ms_M_102 mc_M_within rfl (s_M_within (gk_FD K)  em3) (by decide) rfl (Nat.le_of_ble_eq_true rfl) ?_
    refine gk_if_ne (tgt := 21) (pc := 16) K d_M_towers_16 (by decide) h (fun h => ?_) (fun h => ?_)
    · refine gk_aload_n (pc := 21) K d_M_towers_21 rfl ?_
      refine gk_get (pc := 22) K d_M_towers_22 fl_M_77 tm_0 rfl rfl ?_
      refine gk_iload_n (pc := 25) K d_M_towers_25 rfl ?_
      refine gk_iald (pc := 26) K d_M_towers_26 tm_23 h (fun v5 h => ?_)
      refine gk_if_lt (tgt := 44) (pc := 27) K d_M_towers_27 (by decide) h (fun h => ?_) (fun h => ?_)
      · exact gk_sub [0, 1, 2, 3] rfl (s_M_towers_44 K _ _ _ _  h)
      · refine gk_aload_n (pc := 30) K d_M_towers_30 rfl ?_
        refine gk_get (pc := 31) K d_M_towers_31 fl_M_77 tm_0 rfl rfl ?_
        refine gk_iload_n (pc := 34) K d_M_towers_34 rfl ?_
        refine gk_iald (pc := 35) K d_M_towers_35 tm_23 h (fun v6 h => ?_)
        refine gk_bipush (pc := 36) K d_M_towers_36 kb_51 ?_
        refine gk_ic_eq (tgt := 44) (pc := 38) K d_M_towers_38 (by decide) h (fun h => ?_) (fun h => ?_)
        · exact gk_sub [0, 1, 2, 3] rfl (s_M_towers_44 K _ _ _ _  h)
        · refine gk_bipush (pc := 41) K d_M_towers_41 kb_m12 ?_
          exact gk_iret (pc := 43) K d_M_towers_43 rfl h
    · refine gk_iconst (pc := 19) K d_M_towers_19 kc_m1 ?_
      exact gk_iret (pc := 20) K d_M_towers_20 rfl h
theorem s_M_towers {l : Launch} {u : gk_U} (hD : gk_D tm u) {a1 : Int32} {a2 : Int32} {a3 : Int32} {m0 mem2 : gk_M} {r : Int32} (h : f_M_towers a1 a2 a3 m0 = some (r, mem2)) : gk_C tm l u me_M_towers 3 [.ref 0, .int a1, .int a2, .int a3] m0 (some (.int r)) mem2 :=
  gk_enter hD mc_M_towers (Nat.le_of_ble_eq_true rfl) rfl (fun z _ _ K => s_M_towers_0 K _ _ _ _  h)
theorem d_M_isPoint_0 : decode me_M_isPoint.2.1 0 = .ok (.iload_n 0, 1) := by decide +kernel
theorem d_M_isPoint_1 : decode me_M_isPoint.2.1 1 = .ok (.i2l, 1) := by decide +kernel
theorem d_M_isPoint_2 : decode me_M_isPoint.2.1 2 = .ok (.lconst 0, 1) := by decide +kernel
theorem d_M_isPoint_3 : decode me_M_isPoint.2.1 3 = .ok (.ldc2_w 100, 3) := by decide +kernel
theorem d_M_isPoint_6 : decode me_M_isPoint.2.1 6 = .ok (.invokestatic 102, 3) := by decide +kernel
theorem d_M_isPoint_9 : decode me_M_isPoint.2.1 9 = .ok (.ireturn, 1) := by decide +kernel
noncomputable def f_M_isPoint  (a0 : Int32) (m0 : gk_M) : Option (Int32 × gk_M) :=
  gk_bi (f_M_within a0.toInt64 0 899 m0) fun v2 m1 =>
  gk_zz v2 (some (v2, m1))

theorem s_M_isPoint_0 {z : gk_Z} (K : gk_F tm z me_M_isPoint 2) {r : Int32} {mem2 : gk_M} : ∀ a0 m0, f_M_isPoint a0 m0 = some (r, mem2) → gk_G tm z me_M_isPoint (gk_R tm z (some (.int r)) mem2) m0 [(0, .int a0)] [] 0 := by
  intro a0 m0  h
  unfold f_M_isPoint at h
  refine gk_iload_n (pc := 0) K d_M_isPoint_0 rfl ?_
  refine gk_i2l (pc := 1) K d_M_isPoint_1 ?_
  refine gk_lconst (pc := 2) K d_M_isPoint_2 kl_0 ?_
  refine gk_ldc2 (pc := 3) K d_M_isPoint_3 lc_M_100 ?_
  obtain ⟨v2, m1, em1, h⟩ := gk_bi_some h
  refine gk_cSi (As := [.long a0.toInt64, .long 0, .long 899]) (pc := 6) K d_M_isPoint_6 ms_M_102 mc_M_within rfl (s_M_within (gk_FD K)  em1) (by decide) rfl (Nat.le_of_ble_eq_true rfl) ?_
  exact gk_zret (pc := 9) K d_M_isPoint_9 rfl h
theorem s_M_isPoint {l : Launch} {u : gk_U} (hD : gk_D tm u) {a0 : Int32} {m0 mem2 : gk_M} {r : Int32} (h : f_M_isPoint a0 m0 = some (r, mem2)) : gk_C tm l u me_M_isPoint 2 [.int a0] m0 (some (.int r)) mem2 :=
  gk_enter hD mc_M_isPoint (Nat.le_of_ble_eq_true rfl) rfl (fun z _ _ K => s_M_isPoint_0 K _ _  h)
theorem d_M_road_0 : decode me_M_road.2.1 0 = .ok (.iload_n 1, 1) := by decide +kernel
theorem d_M_road_1 : decode me_M_road.2.1 1 = .ok (.invokestatic 133, 3) := by decide +kernel
theorem d_M_road_4 : decode me_M_road.2.1 4 = .ok (.ifCond .eq 15, 3) := by decide +kernel
theorem d_M_road_7 : decode me_M_road.2.1 7 = .ok (.iload_n 2, 1) := by decide +kernel
theorem d_M_road_8 : decode me_M_road.2.1 8 = .ok (.invokestatic 133, 3) := by decide +kernel
theorem d_M_road_11 : decode me_M_road.2.1 11 = .ok (.ifCond .eq 8, 3) := by decide +kernel
theorem d_M_road_14 : decode me_M_road.2.1 14 = .ok (.iload_n 1, 1) := by decide +kernel
theorem d_M_road_15 : decode me_M_road.2.1 15 = .ok (.iload_n 2, 1) := by decide +kernel
theorem d_M_road_16 : decode me_M_road.2.1 16 = .ok (.if_icmp .ne 5, 3) := by decide +kernel
theorem d_M_road_19 : decode me_M_road.2.1 19 = .ok (.iconst (-1), 1) := by decide +kernel
theorem d_M_road_20 : decode me_M_road.2.1 20 = .ok (.ireturn, 1) := by decide +kernel
theorem d_M_road_21 : decode me_M_road.2.1 21 = .ok (.aload_n 0, 1) := by decide +kernel
theorem d_M_road_22 : decode me_M_road.2.1 22 = .ok (.getfield 109, 3) := by decide +kernel
theorem d_M_road_25 : decode me_M_road.2.1 25 = .ok (.iconst 4, 1) := by decide +kernel
theorem d_M_road_26 : decode me_M_road.2.1 26 = .ok (.if_icmp .ne 6, 3) := by decide +kernel
theorem d_M_road_29 : decode me_M_road.2.1 29 = .ok (.bipush (-3), 2) := by decide +kernel
theorem d_M_road_31 : decode me_M_road.2.1 31 = .ok (.ireturn, 1) := by decide +kernel
theorem d_M_road_32 : decode me_M_road.2.1 32 = .ok (.aload_n 0, 1) := by decide +kernel
theorem d_M_road_33 : decode me_M_road.2.1 33 = .ok (.getfield 34, 3) := by decide +kernel
theorem d_M_road_36 : decode me_M_road.2.1 36 = .ok (.bipush 7, 2) := by decide +kernel
theorem d_M_road_38 : decode me_M_road.2.1 38 = .ok (.aload_n 0, 1) := by decide +kernel
theorem d_M_road_39 : decode me_M_road.2.1 39 = .ok (.getfield 109, 3) := by decide +kernel
theorem d_M_road_42 : decode me_M_road.2.1 42 = .ok (.imul, 1) := by decide +kernel
theorem d_M_road_43 : decode me_M_road.2.1 43 = .ok (.iload_n 1, 1) := by decide +kernel
theorem d_M_road_44 : decode me_M_road.2.1 44 = .ok (.iastore, 1) := by decide +kernel
theorem d_M_road_45 : decode me_M_road.2.1 45 = .ok (.aload_n 0, 1) := by decide +kernel
theorem d_M_road_46 : decode me_M_road.2.1 46 = .ok (.getfield 34, 3) := by decide +kernel
theorem d_M_road_49 : decode me_M_road.2.1 49 = .ok (.bipush 7, 2) := by decide +kernel
theorem d_M_road_51 : decode me_M_road.2.1 51 = .ok (.aload_n 0, 1) := by decide +kernel
theorem d_M_road_52 : decode me_M_road.2.1 52 = .ok (.getfield 109, 3) := by decide +kernel
theorem d_M_road_55 : decode me_M_road.2.1 55 = .ok (.imul, 1) := by decide +kernel
theorem d_M_road_56 : decode me_M_road.2.1 56 = .ok (.iconst 1, 1) := by decide +kernel
theorem d_M_road_57 : decode me_M_road.2.1 57 = .ok (.iadd, 1) := by decide +kernel
theorem d_M_road_58 : decode me_M_road.2.1 58 = .ok (.iload_n 2, 1) := by decide +kernel
theorem d_M_road_59 : decode me_M_road.2.1 59 = .ok (.iastore, 1) := by decide +kernel
theorem d_M_road_60 : decode me_M_road.2.1 60 = .ok (.aload_n 0, 1) := by decide +kernel
theorem d_M_road_61 : decode me_M_road.2.1 61 = .ok (.getfield 31, 3) := by decide +kernel
theorem d_M_road_64 : decode me_M_road.2.1 64 = .ok (.aload_n 0, 1) := by decide +kernel
theorem d_M_road_65 : decode me_M_road.2.1 65 = .ok (.getfield 109, 3) := by decide +kernel
theorem d_M_road_68 : decode me_M_road.2.1 68 = .ok (.iconst 2, 1) := by decide +kernel
theorem d_M_road_69 : decode me_M_road.2.1 69 = .ok (.iastore, 1) := by decide +kernel
theorem d_M_road_70 : decode me_M_road.2.1 70 = .ok (.aload_n 0, 1) := by decide +kernel
theorem d_M_road_71 : decode me_M_road.2.1 71 = .ok (.dup, 1) := by decide +kernel
theorem d_M_road_72 : decode me_M_road.2.1 72 = .ok (.getfield 109, 3) := by decide +kernel
theorem d_M_road_75 : decode me_M_road.2.1 75 = .ok (.iconst 1, 1) := by decide +kernel
theorem d_M_road_76 : decode me_M_road.2.1 76 = .ok (.iadd, 1) := by decide +kernel
theorem d_M_road_77 : decode me_M_road.2.1 77 = .ok (.putfield 109, 3) := by decide +kernel
theorem d_M_road_80 : decode me_M_road.2.1 80 = .ok (.aload_n 0, 1) := by decide +kernel
theorem d_M_road_81 : decode me_M_road.2.1 81 = .ok (.getfield 109, 3) := by decide +kernel
theorem d_M_road_84 : decode me_M_road.2.1 84 = .ok (.iconst 1, 1) := by decide +kernel
theorem d_M_road_85 : decode me_M_road.2.1 85 = .ok (.isub, 1) := by decide +kernel
theorem d_M_road_86 : decode me_M_road.2.1 86 = .ok (.ireturn, 1) := by decide +kernel
noncomputable def f_M_road  (a1 : Int32) (a2 : Int32) (m0 : gk_M) : Option (Int32 × gk_M) :=
  gk_bi (f_M_isPoint a1 m0) fun v2 m1 =>
  if v2 = 0 then
    some ((-1), m1)
  else
    gk_bi (f_M_isPoint a2 m1) fun v4 m3 =>
    if v4 = 0 then
      some ((-1), m3)
    else
      if ¬ a1 = a2 then
        if ¬ (m3.1 0 10) = 4 then
          gk_si m3 9 28 (7 * (m3.1 0 10)) a1 fun m5 =>
          gk_si m5 9 28 ((7 * (m5.1 0 10)) + 1) a2 fun m6 =>
          gk_si m6 8 4 (m6.1 0 10) 2 fun m7 =>
          gk_let (gk_mi m7 0 10 ((m7.1 0 10) + 1)) fun m8 =>
          some (((m8.1 0 10) - 1), m8)
        else
          some ((-3), m3)
      else
        some ((-1), m3)

theorem s_M_road_0 {z : gk_Z} (K : gk_F tm z me_M_road 3) {r : Int32} {mem2 : gk_M} : ∀ a1 a2 m0, f_M_road a1 a2 m0 = some (r, mem2) → gk_G tm z me_M_road (gk_R tm z (some (.int r)) mem2) m0 [(0, .ref 0), (1, .int a1), (2, .int a2)] [] 0 := by
  intro a1 a2 m0  h
  unfold f_M_road at h
  refine gk_iload_n (pc := 0) K d_M_road_0 rfl ?_
  obtain ⟨v2, m1, em1, h⟩ := gk_bi_some h
  refine gk_cSi (As := [.int a1]) (pc := 1) K d_M_road_1 ms_M_133 mc_M_isPoint rfl (s_M_isPoint (gk_FD K)  em1) (by decide) rfl (Nat.le_of_ble_eq_true rfl) ?_
  refine gk_if_eq (tgt := 19) (pc := 4) K d_M_road_4 (by decide) h (fun h => ?_) (fun h => ?_)
  · refine gk_iconst (pc := 19) K d_M_road_19 kc_m1 ?_
    exact gk_iret (pc := 20) K d_M_road_20 rfl h
  · refine gk_iload_n (pc := 7) K d_M_road_7 rfl ?_
    obtain ⟨v4, m3, em3, h⟩ := gk_bi_some h
    refine gk_cSi (As := [.int a2]) (pc := 8) K d_M_road_8 ms_M_133 mc_M_isPoint rfl (s_M_isPoint (gk_FD K)  em3) (by decide) rfl (Nat.le_of_ble_eq_true rfl) ?_
    refine gk_if_eq (tgt := 19) (pc := 11) K d_M_road_11 (by decide) h (fun h => ?_) (fun h => ?_)
    · refine gk_iconst (pc := 19) K d_M_road_19 kc_m1 ?_
      exact gk_iret (pc := 20) K d_M_road_20 rfl h
    · refine gk_iload_n (pc := 14) K d_M_road_14 rfl ?_
      refine gk_iload_n (pc := 15) K d_M_road_15 rfl ?_
      refine gk_ic_ne (tgt := 21) (pc := 16) K d_M_road_16 (by decide) h (fun h => ?_) (fun h => ?_)
      · refine gk_aload_n (pc := 21) K d_M_road_21 rfl ?_
        refine gk_get (pc := 22) K d_M_road_22 fl_M_109 tm_0 rfl rfl ?_
        refine gk_iconst (pc := 25) K d_M_road_25 kc_4 ?_
        refine gk_ic_ne (tgt := 32) (pc := 26) K d_M_road_26 (by decide) h (fun h => ?_) (fun h => ?_)
        · refine gk_aload_n (pc := 32) K d_M_road_32 rfl ?_
          refine gk_get (pc := 33) K d_M_road_33 fl_M_34 tm_0 rfl rfl ?_
          refine gk_bipush (pc := 36) K d_M_road_36 kb_7 ?_
          refine gk_aload_n (pc := 38) K d_M_road_38 rfl ?_
          refine gk_get (pc := 39) K d_M_road_39 fl_M_109 tm_0 rfl rfl ?_
          refine gk_imul (pc := 42) K d_M_road_42 ?_
          refine gk_iload_n (pc := 43) K d_M_road_43 rfl ?_
          refine gk_iast (pc := 44) K d_M_road_44 tm_9 h (fun m5 h => ?_)
          refine gk_aload_n (pc := 45) K d_M_road_45 rfl ?_
          refine gk_get (pc := 46) K d_M_road_46 fl_M_34 tm_0 rfl rfl ?_
          refine gk_bipush (pc := 49) K d_M_road_49 kb_7 ?_
          refine gk_aload_n (pc := 51) K d_M_road_51 rfl ?_
          refine gk_get (pc := 52) K d_M_road_52 fl_M_109 tm_0 rfl rfl ?_
          refine gk_imul (pc := 55) K d_M_road_55 ?_
          refine gk_iconst (pc := 56) K d_M_road_56 kc_1 ?_
          refine gk_iadd (pc := 57) K d_M_road_57 ?_
          refine gk_iload_n (pc := 58) K d_M_road_58 rfl ?_
          refine gk_iast (pc := 59) K d_M_road_59 tm_9 h (fun m6 h => ?_)
          refine gk_aload_n (pc := 60) K d_M_road_60 rfl ?_
          refine gk_get (pc := 61) K d_M_road_61 fl_M_31 tm_0 rfl rfl ?_
          refine gk_aload_n (pc := 64) K d_M_road_64 rfl ?_
          refine gk_get (pc := 65) K d_M_road_65 fl_M_109 tm_0 rfl rfl ?_
          refine gk_iconst (pc := 68) K d_M_road_68 kc_2 ?_
          refine gk_iast (pc := 69) K d_M_road_69 tm_8 h (fun m7 h => ?_)
          refine gk_aload_n (pc := 70) K d_M_road_70 rfl ?_
          refine gk_dup (pc := 71) K d_M_road_71 rfl ?_
          refine gk_get (pc := 72) K d_M_road_72 fl_M_109 tm_0 rfl rfl ?_
          refine gk_iconst (pc := 75) K d_M_road_75 kc_1 ?_
          refine gk_iadd (pc := 76) K d_M_road_76 ?_
          refine gk_puti (pc := 77) K d_M_road_77 fp_M_109 tm_0 rfl h (fun m8 h => ?_)
          refine gk_aload_n (pc := 80) K d_M_road_80 rfl ?_
          refine gk_get (pc := 81) K d_M_road_81 fl_M_109 tm_0 rfl rfl ?_
          refine gk_iconst (pc := 84) K d_M_road_84 kc_1 ?_
          refine gk_isub (pc := 85) K d_M_road_85 ?_
          exact gk_iret (pc := 86) K d_M_road_86 rfl h
        · refine gk_bipush (pc := 29) K d_M_road_29 kb_m3 ?_
          exact gk_iret (pc := 31) K d_M_road_31 rfl h
      · refine gk_iconst (pc := 19) K d_M_road_19 kc_m1 ?_
        exact gk_iret (pc := 20) K d_M_road_20 rfl h
theorem s_M_road {l : Launch} {u : gk_U} (hD : gk_D tm u) {a1 : Int32} {a2 : Int32} {m0 mem2 : gk_M} {r : Int32} (h : f_M_road a1 a2 m0 = some (r, mem2)) : gk_C tm l u me_M_road 3 [.ref 0, .int a1, .int a2] m0 (some (.int r)) mem2 :=
  gk_enter hD mc_M_road (Nat.le_of_ble_eq_true rfl) rfl (fun z _ _ K => s_M_road_0 K _ _ _  h)
theorem d_M_isRoad_0 : decode me_M_isRoad.2.1 0 = .ok (.iload_n 1, 1) := by decide +kernel
theorem d_M_isRoad_1 : decode me_M_isRoad.2.1 1 = .ok (.i2l, 1) := by decide +kernel
theorem d_M_isRoad_2 : decode me_M_isRoad.2.1 2 = .ok (.lconst 0, 1) := by decide +kernel
theorem d_M_isRoad_3 : decode me_M_isRoad.2.1 3 = .ok (.aload_n 0, 1) := by decide +kernel
theorem d_M_isRoad_4 : decode me_M_isRoad.2.1 4 = .ok (.getfield 109, 3) := by decide +kernel
theorem d_M_isRoad_7 : decode me_M_isRoad.2.1 7 = .ok (.iconst 1, 1) := by decide +kernel
theorem d_M_isRoad_8 : decode me_M_isRoad.2.1 8 = .ok (.isub, 1) := by decide +kernel
theorem d_M_isRoad_9 : decode me_M_isRoad.2.1 9 = .ok (.i2l, 1) := by decide +kernel
theorem d_M_isRoad_10 : decode me_M_isRoad.2.1 10 = .ok (.invokestatic 102, 3) := by decide +kernel
theorem d_M_isRoad_13 : decode me_M_isRoad.2.1 13 = .ok (.ireturn, 1) := by decide +kernel
noncomputable def f_M_isRoad  (a1 : Int32) (m0 : gk_M) : Option (Int32 × gk_M) :=
  gk_bi (f_M_within a1.toInt64 0 ((m0.1 0 10) - 1).toInt64 m0) fun v2 m1 =>
  gk_zz v2 (some (v2, m1))

theorem s_M_isRoad_0 {z : gk_Z} (K : gk_F tm z me_M_isRoad 2) {r : Int32} {mem2 : gk_M} : ∀ a1 m0, f_M_isRoad a1 m0 = some (r, mem2) → gk_G tm z me_M_isRoad (gk_R tm z (some (.int r)) mem2) m0 [(0, .ref 0), (1, .int a1)] [] 0 := by
  intro a1 m0  h
  unfold f_M_isRoad at h
  refine gk_iload_n (pc := 0) K d_M_isRoad_0 rfl ?_
  refine gk_i2l (pc := 1) K d_M_isRoad_1 ?_
  refine gk_lconst (pc := 2) K d_M_isRoad_2 kl_0 ?_
  refine gk_aload_n (pc := 3) K d_M_isRoad_3 rfl ?_
  refine gk_get (pc := 4) K d_M_isRoad_4 fl_M_109 tm_0 rfl rfl ?_
  refine gk_iconst (pc := 7) K d_M_isRoad_7 kc_1 ?_
  refine gk_isub (pc := 8) K d_M_isRoad_8 ?_
  refine gk_i2l (pc := 9) K d_M_isRoad_9 ?_
  obtain ⟨v2, m1, em1, h⟩ := gk_bi_some h
  refine gk_cSi (As := [.long a1.toInt64, .long 0, .long ((m0.1 0 10) - 1).toInt64]) (pc := 10) K d_M_isRoad_10 ms_M_102 mc_M_within rfl (s_M_within (gk_FD K)  em1) (by decide) rfl (Nat.le_of_ble_eq_true rfl) ?_
  exact gk_zret (pc := 13) K d_M_isRoad_13 rfl h
theorem s_M_isRoad {l : Launch} {u : gk_U} (hD : gk_D tm u) {a1 : Int32} {m0 mem2 : gk_M} {r : Int32} (h : f_M_isRoad a1 m0 = some (r, mem2)) : gk_C tm l u me_M_isRoad 2 [.ref 0, .int a1] m0 (some (.int r)) mem2 :=
  gk_enter hD mc_M_isRoad (Nat.le_of_ble_eq_true rfl) rfl (fun z _ _ K => s_M_isRoad_0 K _ _  h)
theorem d_M_corner_0 : decode me_M_corner.2.1 0 = .ok (.aload_n 0, 1) := by decide +kernel
theorem d_M_corner_1 : decode me_M_corner.2.1 1 = .ok (.iload_n 1, 1) := by decide +kernel
theorem d_M_corner_2 : decode me_M_corner.2.1 2 = .ok (.invokevirtual 136, 3) := by decide +kernel
theorem d_M_corner_5 : decode me_M_corner.2.1 5 = .ok (.ifCond .eq 32, 3) := by decide +kernel
theorem d_M_corner_8 : decode me_M_corner.2.1 8 = .ok (.iload_n 2, 1) := by decide +kernel
theorem d_M_corner_9 : decode me_M_corner.2.1 9 = .ok (.invokestatic 133, 3) := by decide +kernel
theorem d_M_corner_12 : decode me_M_corner.2.1 12 = .ok (.ifCond .eq 25, 3) := by decide +kernel
theorem d_M_corner_15 : decode me_M_corner.2.1 15 = .ok (.aload_n 0, 1) := by decide +kernel
theorem d_M_corner_16 : decode me_M_corner.2.1 16 = .ok (.getfield 34, 3) := by decide +kernel
theorem d_M_corner_19 : decode me_M_corner.2.1 19 = .ok (.bipush 7, 2) := by decide +kernel
theorem d_M_corner_21 : decode me_M_corner.2.1 21 = .ok (.iload_n 1, 1) := by decide +kernel
theorem d_M_corner_22 : decode me_M_corner.2.1 22 = .ok (.imul, 1) := by decide +kernel
theorem d_M_corner_23 : decode me_M_corner.2.1 23 = .ok (.aload_n 0, 1) := by decide +kernel
theorem d_M_corner_24 : decode me_M_corner.2.1 24 = .ok (.getfield 31, 3) := by decide +kernel
theorem d_M_corner_27 : decode me_M_corner.2.1 27 = .ok (.iload_n 1, 1) := by decide +kernel
theorem d_M_corner_28 : decode me_M_corner.2.1 28 = .ok (.iaload, 1) := by decide +kernel
theorem d_M_corner_29 : decode me_M_corner.2.1 29 = .ok (.iadd, 1) := by decide +kernel
theorem d_M_corner_30 : decode me_M_corner.2.1 30 = .ok (.iconst 1, 1) := by decide +kernel
theorem d_M_corner_31 : decode me_M_corner.2.1 31 = .ok (.isub, 1) := by decide +kernel
theorem d_M_corner_32 : decode me_M_corner.2.1 32 = .ok (.iaload, 1) := by decide +kernel
theorem d_M_corner_33 : decode me_M_corner.2.1 33 = .ok (.iload_n 2, 1) := by decide +kernel
theorem d_M_corner_34 : decode me_M_corner.2.1 34 = .ok (.if_icmp .ne 5, 3) := by decide +kernel
theorem d_M_corner_37 : decode me_M_corner.2.1 37 = .ok (.iconst (-1), 1) := by decide +kernel
theorem d_M_corner_38 : decode me_M_corner.2.1 38 = .ok (.ireturn, 1) := by decide +kernel
theorem d_M_corner_39 : decode me_M_corner.2.1 39 = .ok (.aload_n 0, 1) := by decide +kernel
theorem d_M_corner_40 : decode me_M_corner.2.1 40 = .ok (.getfield 31, 3) := by decide +kernel
theorem d_M_corner_43 : decode me_M_corner.2.1 43 = .ok (.iload_n 1, 1) := by decide +kernel
theorem d_M_corner_44 : decode me_M_corner.2.1 44 = .ok (.iaload, 1) := by decide +kernel
theorem d_M_corner_45 : decode me_M_corner.2.1 45 = .ok (.bipush 6, 2) := by decide +kernel
theorem d_M_corner_47 : decode me_M_corner.2.1 47 = .ok (.if_icmp .ne 6, 3) := by decide +kernel
theorem d_M_corner_50 : decode me_M_corner.2.1 50 = .ok (.bipush (-3), 2) := by decide +kernel
theorem d_M_corner_52 : decode me_M_corner.2.1 52 = .ok (.ireturn, 1) := by decide +kernel
theorem d_M_corner_53 : decode me_M_corner.2.1 53 = .ok (.aload_n 0, 1) := by decide +kernel
theorem d_M_corner_54 : decode me_M_corner.2.1 54 = .ok (.getfield 34, 3) := by decide +kernel
theorem d_M_corner_57 : decode me_M_corner.2.1 57 = .ok (.bipush 7, 2) := by decide +kernel
theorem d_M_corner_59 : decode me_M_corner.2.1 59 = .ok (.iload_n 1, 1) := by decide +kernel
theorem d_M_corner_60 : decode me_M_corner.2.1 60 = .ok (.imul, 1) := by decide +kernel
theorem d_M_corner_61 : decode me_M_corner.2.1 61 = .ok (.aload_n 0, 1) := by decide +kernel
theorem d_M_corner_62 : decode me_M_corner.2.1 62 = .ok (.getfield 31, 3) := by decide +kernel
theorem d_M_corner_65 : decode me_M_corner.2.1 65 = .ok (.iload_n 1, 1) := by decide +kernel
theorem d_M_corner_66 : decode me_M_corner.2.1 66 = .ok (.iaload, 1) := by decide +kernel
theorem d_M_corner_67 : decode me_M_corner.2.1 67 = .ok (.iadd, 1) := by decide +kernel
theorem d_M_corner_68 : decode me_M_corner.2.1 68 = .ok (.iload_n 2, 1) := by decide +kernel
theorem d_M_corner_69 : decode me_M_corner.2.1 69 = .ok (.iastore, 1) := by decide +kernel
theorem d_M_corner_70 : decode me_M_corner.2.1 70 = .ok (.aload_n 0, 1) := by decide +kernel
theorem d_M_corner_71 : decode me_M_corner.2.1 71 = .ok (.getfield 31, 3) := by decide +kernel
theorem d_M_corner_74 : decode me_M_corner.2.1 74 = .ok (.iload_n 1, 1) := by decide +kernel
theorem d_M_corner_75 : decode me_M_corner.2.1 75 = .ok (.dup2, 1) := by decide +kernel
theorem d_M_corner_76 : decode me_M_corner.2.1 76 = .ok (.iaload, 1) := by decide +kernel
theorem d_M_corner_77 : decode me_M_corner.2.1 77 = .ok (.iconst 1, 1) := by decide +kernel
theorem d_M_corner_78 : decode me_M_corner.2.1 78 = .ok (.iadd, 1) := by decide +kernel
theorem d_M_corner_79 : decode me_M_corner.2.1 79 = .ok (.iastore, 1) := by decide +kernel
theorem d_M_corner_80 : decode me_M_corner.2.1 80 = .ok (.aload_n 0, 1) := by decide +kernel
theorem d_M_corner_81 : decode me_M_corner.2.1 81 = .ok (.getfield 31, 3) := by decide +kernel
theorem d_M_corner_84 : decode me_M_corner.2.1 84 = .ok (.iload_n 1, 1) := by decide +kernel
theorem d_M_corner_85 : decode me_M_corner.2.1 85 = .ok (.iaload, 1) := by decide +kernel
theorem d_M_corner_86 : decode me_M_corner.2.1 86 = .ok (.ireturn, 1) := by decide +kernel
noncomputable def f_M_corner  (a1 : Int32) (a2 : Int32) (m0 : gk_M) : Option (Int32 × gk_M) :=
  gk_bi (f_M_isRoad a1 m0) fun v2 m1 =>
  if v2 = 0 then
    some ((-1), m1)
  else
    gk_bi (f_M_isPoint a2 m1) fun v4 m3 =>
    if v4 = 0 then
      some ((-1), m3)
    else
      gk_ai m3 8 4 a1 fun v5 =>
      gk_ai m3 9 28 (((7 * a1) + v5) - 1) fun v6 =>
      if ¬ v6 = a2 then
        gk_ai m3 8 4 a1 fun v7 =>
        if ¬ v7 = 6 then
          gk_ai m3 8 4 a1 fun v8 =>
          gk_si m3 9 28 ((7 * a1) + v8) a2 fun m9 =>
          gk_ai m9 8 4 a1 fun v10 =>
          gk_si m9 8 4 a1 (v10 + 1) fun m11 =>
          gk_ai m11 8 4 a1 fun v12 =>
          some (v12, m11)
        else
          some ((-3), m3)
      else
        some ((-1), m3)

theorem s_M_corner_0 {z : gk_Z} (K : gk_F tm z me_M_corner 3) {r : Int32} {mem2 : gk_M} : ∀ a1 a2 m0, f_M_corner a1 a2 m0 = some (r, mem2) → gk_G tm z me_M_corner (gk_R tm z (some (.int r)) mem2) m0 [(0, .ref 0), (1, .int a1), (2, .int a2)] [] 0 := by
  intro a1 a2 m0  h
  unfold f_M_corner at h
  refine gk_aload_n (pc := 0) K d_M_corner_0 rfl ?_
  refine gk_iload_n (pc := 1) K d_M_corner_1 rfl ?_
  obtain ⟨v2, m1, em1, h⟩ := gk_bi_some h
  refine gk_cVi (As := [.int a1]) (pc := 2) K d_M_corner_2 mv_M_136 mc_M_isRoad rfl tm_0 cl_ok10.1 (s_M_isRoad (gk_FD K)  em1) (by decide) rfl (Nat.le_of_ble_eq_true rfl) ?_
  refine gk_if_eq (tgt := 37) (pc := 5) K d_M_corner_5 (by decide) h (fun h => ?_) (fun h => ?_)
  · refine gk_iconst (pc := 37) K d_M_corner_37 kc_m1 ?_
    exact gk_iret (pc := 38) K d_M_corner_38 rfl h
  · refine gk_iload_n (pc := 8) K d_M_corner_8 rfl ?_
    obtain ⟨v4, m3, em3, h⟩ := gk_bi_some h
    refine gk_cSi (As := [.int a2]) (pc := 9) K d_M_corner_9 ms_M_133 mc_M_isPoint rfl (s_M_isPoint (gk_FD K)  em3) (by decide) rfl (Nat.le_of_ble_eq_true rfl) ?_
    refine gk_if_eq (tgt := 37) (pc := 12) K d_M_corner_12 (by decide) h (fun h => ?_) (fun h => ?_)
    · refine gk_iconst (pc := 37) K d_M_corner_37 kc_m1 ?_
      exact gk_iret (pc := 38) K d_M_corner_38 rfl h
    · refine gk_aload_n (pc := 15) K d_M_corner_15 rfl ?_
      refine gk_get (pc := 16) K d_M_corner_16 fl_M_34 tm_0 rfl rfl ?_
      refine gk_bipush (pc := 19) K d_M_corner_19 kb_7 ?_
      refine gk_iload_n (pc := 21) K d_M_corner_21 rfl ?_
      refine gk_imul (pc := 22) K d_M_corner_22 ?_
      refine gk_aload_n (pc := 23) K d_M_corner_23 rfl ?_
      refine gk_get (pc := 24) K d_M_corner_24 fl_M_31 tm_0 rfl rfl ?_
      refine gk_iload_n (pc := 27) K d_M_corner_27 rfl ?_
      refine gk_iald (pc := 28) K d_M_corner_28 tm_8 h (fun v5 h => ?_)
      refine gk_iadd (pc := 29) K d_M_corner_29 ?_
      refine gk_iconst (pc := 30) K d_M_corner_30 kc_1 ?_
      refine gk_isub (pc := 31) K d_M_corner_31 ?_
      refine gk_iald (pc := 32) K d_M_corner_32 tm_9 h (fun v6 h => ?_)
      refine gk_iload_n (pc := 33) K d_M_corner_33 rfl ?_
      refine gk_ic_ne (tgt := 39) (pc := 34) K d_M_corner_34 (by decide) h (fun h => ?_) (fun h => ?_)
      · refine gk_aload_n (pc := 39) K d_M_corner_39 rfl ?_
        refine gk_get (pc := 40) K d_M_corner_40 fl_M_31 tm_0 rfl rfl ?_
        refine gk_iload_n (pc := 43) K d_M_corner_43 rfl ?_
        refine gk_iald (pc := 44) K d_M_corner_44 tm_8 h (fun v7 h => ?_)
        refine gk_bipush (pc := 45) K d_M_corner_45 kb_6 ?_
        refine gk_ic_ne (tgt := 53) (pc := 47) K d_M_corner_47 (by decide) h (fun h => ?_) (fun h => ?_)
        · refine gk_aload_n (pc := 53) K d_M_corner_53 rfl ?_
          refine gk_get (pc := 54) K d_M_corner_54 fl_M_34 tm_0 rfl rfl ?_
          refine gk_bipush (pc := 57) K d_M_corner_57 kb_7 ?_
          refine gk_iload_n (pc := 59) K d_M_corner_59 rfl ?_
          refine gk_imul (pc := 60) K d_M_corner_60 ?_
          refine gk_aload_n (pc := 61) K d_M_corner_61 rfl ?_
          refine gk_get (pc := 62) K d_M_corner_62 fl_M_31 tm_0 rfl rfl ?_
          refine gk_iload_n (pc := 65) K d_M_corner_65 rfl ?_
          refine gk_iald (pc := 66) K d_M_corner_66 tm_8 h (fun v8 h => ?_)
          refine gk_iadd (pc := 67) K d_M_corner_67 ?_
          refine gk_iload_n (pc := 68) K d_M_corner_68 rfl ?_
          refine gk_iast (pc := 69) K d_M_corner_69 tm_9 h (fun m9 h => ?_)
          refine gk_aload_n (pc := 70) K d_M_corner_70 rfl ?_
          refine gk_get (pc := 71) K d_M_corner_71 fl_M_31 tm_0 rfl rfl ?_
          refine gk_iload_n (pc := 74) K d_M_corner_74 rfl ?_
          refine gk_dup2 (pc := 75) K d_M_corner_75 rfl rfl ?_
          refine gk_iald (pc := 76) K d_M_corner_76 tm_8 h (fun v10 h => ?_)
          refine gk_iconst (pc := 77) K d_M_corner_77 kc_1 ?_
          refine gk_iadd (pc := 78) K d_M_corner_78 ?_
          refine gk_iast (pc := 79) K d_M_corner_79 tm_8 h (fun m11 h => ?_)
          refine gk_aload_n (pc := 80) K d_M_corner_80 rfl ?_
          refine gk_get (pc := 81) K d_M_corner_81 fl_M_31 tm_0 rfl rfl ?_
          refine gk_iload_n (pc := 84) K d_M_corner_84 rfl ?_
          refine gk_iald (pc := 85) K d_M_corner_85 tm_8 h (fun v12 h => ?_)
          exact gk_iret (pc := 86) K d_M_corner_86 rfl h
        · refine gk_bipush (pc := 50) K d_M_corner_50 kb_m3 ?_
          exact gk_iret (pc := 52) K d_M_corner_52 rfl h
      · refine gk_iconst (pc := 37) K d_M_corner_37 kc_m1 ?_
        exact gk_iret (pc := 38) K d_M_corner_38 rfl h
theorem s_M_corner {l : Launch} {u : gk_U} (hD : gk_D tm u) {a1 : Int32} {a2 : Int32} {m0 mem2 : gk_M} {r : Int32} (h : f_M_corner a1 a2 m0 = some (r, mem2)) : gk_C tm l u me_M_corner 3 [.ref 0, .int a1, .int a2] m0 (some (.int r)) mem2 :=
  gk_enter hD mc_M_corner (Nat.le_of_ble_eq_true rfl) rfl (fun z _ _ K => s_M_corner_0 K _ _ _  h)
theorem d_M_forest_0 : decode me_M_forest.2.1 0 = .ok (.iload_n 1, 1) := by decide +kernel
theorem d_M_forest_1 : decode me_M_forest.2.1 1 = .ok (.invokestatic 133, 3) := by decide +kernel
theorem d_M_forest_4 : decode me_M_forest.2.1 4 = .ok (.ifCond .eq 15, 3) := by decide +kernel
theorem d_M_forest_7 : decode me_M_forest.2.1 7 = .ok (.iload_n 2, 1) := by decide +kernel
theorem d_M_forest_8 : decode me_M_forest.2.1 8 = .ok (.invokestatic 133, 3) := by decide +kernel
theorem d_M_forest_11 : decode me_M_forest.2.1 11 = .ok (.ifCond .eq 8, 3) := by decide +kernel
theorem d_M_forest_14 : decode me_M_forest.2.1 14 = .ok (.iload_n 1, 1) := by decide +kernel
theorem d_M_forest_15 : decode me_M_forest.2.1 15 = .ok (.iload_n 2, 1) := by decide +kernel
theorem d_M_forest_16 : decode me_M_forest.2.1 16 = .ok (.if_icmp .ne 5, 3) := by decide +kernel
theorem d_M_forest_19 : decode me_M_forest.2.1 19 = .ok (.iconst (-1), 1) := by decide +kernel
theorem d_M_forest_20 : decode me_M_forest.2.1 20 = .ok (.ireturn, 1) := by decide +kernel
theorem d_M_forest_21 : decode me_M_forest.2.1 21 = .ok (.aload_n 0, 1) := by decide +kernel
theorem d_M_forest_22 : decode me_M_forest.2.1 22 = .ok (.getfield 139, 3) := by decide +kernel
theorem d_M_forest_25 : decode me_M_forest.2.1 25 = .ok (.bipush 8, 2) := by decide +kernel
theorem d_M_forest_27 : decode me_M_forest.2.1 27 = .ok (.if_icmp .ne 6, 3) := by decide +kernel
theorem d_M_forest_30 : decode me_M_forest.2.1 30 = .ok (.bipush (-3), 2) := by decide +kernel
theorem d_M_forest_32 : decode me_M_forest.2.1 32 = .ok (.ireturn, 1) := by decide +kernel
theorem d_M_forest_33 : decode me_M_forest.2.1 33 = .ok (.aload_n 0, 1) := by decide +kernel
theorem d_M_forest_34 : decode me_M_forest.2.1 34 = .ok (.getfield 37, 3) := by decide +kernel
theorem d_M_forest_37 : decode me_M_forest.2.1 37 = .ok (.iconst 2, 1) := by decide +kernel
theorem d_M_forest_38 : decode me_M_forest.2.1 38 = .ok (.aload_n 0, 1) := by decide +kernel
theorem d_M_forest_39 : decode me_M_forest.2.1 39 = .ok (.getfield 139, 3) := by decide +kernel
theorem d_M_forest_42 : decode me_M_forest.2.1 42 = .ok (.imul, 1) := by decide +kernel
theorem d_M_forest_43 : decode me_M_forest.2.1 43 = .ok (.iload_n 1, 1) := by decide +kernel
theorem d_M_forest_44 : decode me_M_forest.2.1 44 = .ok (.iastore, 1) := by decide +kernel
theorem d_M_forest_45 : decode me_M_forest.2.1 45 = .ok (.aload_n 0, 1) := by decide +kernel
theorem d_M_forest_46 : decode me_M_forest.2.1 46 = .ok (.getfield 37, 3) := by decide +kernel
theorem d_M_forest_49 : decode me_M_forest.2.1 49 = .ok (.iconst 2, 1) := by decide +kernel
theorem d_M_forest_50 : decode me_M_forest.2.1 50 = .ok (.aload_n 0, 1) := by decide +kernel
theorem d_M_forest_51 : decode me_M_forest.2.1 51 = .ok (.getfield 139, 3) := by decide +kernel
theorem d_M_forest_54 : decode me_M_forest.2.1 54 = .ok (.imul, 1) := by decide +kernel
theorem d_M_forest_55 : decode me_M_forest.2.1 55 = .ok (.iconst 1, 1) := by decide +kernel
theorem d_M_forest_56 : decode me_M_forest.2.1 56 = .ok (.iadd, 1) := by decide +kernel
theorem d_M_forest_57 : decode me_M_forest.2.1 57 = .ok (.iload_n 2, 1) := by decide +kernel
theorem d_M_forest_58 : decode me_M_forest.2.1 58 = .ok (.iastore, 1) := by decide +kernel
theorem d_M_forest_59 : decode me_M_forest.2.1 59 = .ok (.aload_n 0, 1) := by decide +kernel
theorem d_M_forest_60 : decode me_M_forest.2.1 60 = .ok (.dup, 1) := by decide +kernel
theorem d_M_forest_61 : decode me_M_forest.2.1 61 = .ok (.getfield 139, 3) := by decide +kernel
theorem d_M_forest_64 : decode me_M_forest.2.1 64 = .ok (.iconst 1, 1) := by decide +kernel
theorem d_M_forest_65 : decode me_M_forest.2.1 65 = .ok (.iadd, 1) := by decide +kernel
theorem d_M_forest_66 : decode me_M_forest.2.1 66 = .ok (.putfield 139, 3) := by decide +kernel
theorem d_M_forest_69 : decode me_M_forest.2.1 69 = .ok (.aload_n 0, 1) := by decide +kernel
theorem d_M_forest_70 : decode me_M_forest.2.1 70 = .ok (.getfield 139, 3) := by decide +kernel
theorem d_M_forest_73 : decode me_M_forest.2.1 73 = .ok (.iconst 1, 1) := by decide +kernel
theorem d_M_forest_74 : decode me_M_forest.2.1 74 = .ok (.isub, 1) := by decide +kernel
theorem d_M_forest_75 : decode me_M_forest.2.1 75 = .ok (.ireturn, 1) := by decide +kernel
noncomputable def f_M_forest  (a1 : Int32) (a2 : Int32) (m0 : gk_M) : Option (Int32 × gk_M) :=
  gk_bi (f_M_isPoint a1 m0) fun v2 m1 =>
  if v2 = 0 then
    some ((-1), m1)
  else
    gk_bi (f_M_isPoint a2 m1) fun v4 m3 =>
    if v4 = 0 then
      some ((-1), m3)
    else
      if ¬ a1 = a2 then
        if ¬ (m3.1 0 13) = 8 then
          gk_si m3 10 16 (2 * (m3.1 0 13)) a1 fun m5 =>
          gk_si m5 10 16 ((2 * (m5.1 0 13)) + 1) a2 fun m6 =>
          gk_let (gk_mi m6 0 13 ((m6.1 0 13) + 1)) fun m7 =>
          some (((m7.1 0 13) - 1), m7)
        else
          some ((-3), m3)
      else
        some ((-1), m3)

theorem s_M_forest_0 {z : gk_Z} (K : gk_F tm z me_M_forest 3) {r : Int32} {mem2 : gk_M} : ∀ a1 a2 m0, f_M_forest a1 a2 m0 = some (r, mem2) → gk_G tm z me_M_forest (gk_R tm z (some (.int r)) mem2) m0 [(0, .ref 0), (1, .int a1), (2, .int a2)] [] 0 := by
  intro a1 a2 m0  h
  unfold f_M_forest at h
  refine gk_iload_n (pc := 0) K d_M_forest_0 rfl ?_
  obtain ⟨v2, m1, em1, h⟩ := gk_bi_some h
  refine gk_cSi (As := [.int a1]) (pc := 1) K d_M_forest_1 ms_M_133 mc_M_isPoint rfl (s_M_isPoint (gk_FD K)  em1) (by decide) rfl (Nat.le_of_ble_eq_true rfl) ?_
  refine gk_if_eq (tgt := 19) (pc := 4) K d_M_forest_4 (by decide) h (fun h => ?_) (fun h => ?_)
  · refine gk_iconst (pc := 19) K d_M_forest_19 kc_m1 ?_
    exact gk_iret (pc := 20) K d_M_forest_20 rfl h
  · refine gk_iload_n (pc := 7) K d_M_forest_7 rfl ?_
    obtain ⟨v4, m3, em3, h⟩ := gk_bi_some h
    refine gk_cSi (As := [.int a2]) (pc := 8) K d_M_forest_8 ms_M_133 mc_M_isPoint rfl (s_M_isPoint (gk_FD K)  em3) (by decide) rfl (Nat.le_of_ble_eq_true rfl) ?_
    refine gk_if_eq (tgt := 19) (pc := 11) K d_M_forest_11 (by decide) h (fun h => ?_) (fun h => ?_)
    · refine gk_iconst (pc := 19) K d_M_forest_19 kc_m1 ?_
      exact gk_iret (pc := 20) K d_M_forest_20 rfl h
    · refine gk_iload_n (pc := 14) K d_M_forest_14 rfl ?_
      refine gk_iload_n (pc := 15) K d_M_forest_15 rfl ?_
      refine gk_ic_ne (tgt := 21) (pc := 16) K d_M_forest_16 (by decide) h (fun h => ?_) (fun h => ?_)
      · refine gk_aload_n (pc := 21) K d_M_forest_21 rfl ?_
        refine gk_get (pc := 22) K d_M_forest_22 fl_M_139 tm_0 rfl rfl ?_
        refine gk_bipush (pc := 25) K d_M_forest_25 kb_8 ?_
        refine gk_ic_ne (tgt := 33) (pc := 27) K d_M_forest_27 (by decide) h (fun h => ?_) (fun h => ?_)
        · refine gk_aload_n (pc := 33) K d_M_forest_33 rfl ?_
          refine gk_get (pc := 34) K d_M_forest_34 fl_M_37 tm_0 rfl rfl ?_
          refine gk_iconst (pc := 37) K d_M_forest_37 kc_2 ?_
          refine gk_aload_n (pc := 38) K d_M_forest_38 rfl ?_
          refine gk_get (pc := 39) K d_M_forest_39 fl_M_139 tm_0 rfl rfl ?_
          refine gk_imul (pc := 42) K d_M_forest_42 ?_
          refine gk_iload_n (pc := 43) K d_M_forest_43 rfl ?_
          refine gk_iast (pc := 44) K d_M_forest_44 tm_10 h (fun m5 h => ?_)
          refine gk_aload_n (pc := 45) K d_M_forest_45 rfl ?_
          refine gk_get (pc := 46) K d_M_forest_46 fl_M_37 tm_0 rfl rfl ?_
          refine gk_iconst (pc := 49) K d_M_forest_49 kc_2 ?_
          refine gk_aload_n (pc := 50) K d_M_forest_50 rfl ?_
          refine gk_get (pc := 51) K d_M_forest_51 fl_M_139 tm_0 rfl rfl ?_
          refine gk_imul (pc := 54) K d_M_forest_54 ?_
          refine gk_iconst (pc := 55) K d_M_forest_55 kc_1 ?_
          refine gk_iadd (pc := 56) K d_M_forest_56 ?_
          refine gk_iload_n (pc := 57) K d_M_forest_57 rfl ?_
          refine gk_iast (pc := 58) K d_M_forest_58 tm_10 h (fun m6 h => ?_)
          refine gk_aload_n (pc := 59) K d_M_forest_59 rfl ?_
          refine gk_dup (pc := 60) K d_M_forest_60 rfl ?_
          refine gk_get (pc := 61) K d_M_forest_61 fl_M_139 tm_0 rfl rfl ?_
          refine gk_iconst (pc := 64) K d_M_forest_64 kc_1 ?_
          refine gk_iadd (pc := 65) K d_M_forest_65 ?_
          refine gk_puti (pc := 66) K d_M_forest_66 fp_M_139 tm_0 rfl h (fun m7 h => ?_)
          refine gk_aload_n (pc := 69) K d_M_forest_69 rfl ?_
          refine gk_get (pc := 70) K d_M_forest_70 fl_M_139 tm_0 rfl rfl ?_
          refine gk_iconst (pc := 73) K d_M_forest_73 kc_1 ?_
          refine gk_isub (pc := 74) K d_M_forest_74 ?_
          exact gk_iret (pc := 75) K d_M_forest_75 rfl h
        · refine gk_bipush (pc := 30) K d_M_forest_30 kb_m3 ?_
          exact gk_iret (pc := 32) K d_M_forest_32 rfl h
      · refine gk_iconst (pc := 19) K d_M_forest_19 kc_m1 ?_
        exact gk_iret (pc := 20) K d_M_forest_20 rfl h
theorem s_M_forest {l : Launch} {u : gk_U} (hD : gk_D tm u) {a1 : Int32} {a2 : Int32} {m0 mem2 : gk_M} {r : Int32} (h : f_M_forest a1 a2 m0 = some (r, mem2)) : gk_C tm l u me_M_forest 3 [.ref 0, .int a1, .int a2] m0 (some (.int r)) mem2 :=
  gk_enter hD mc_M_forest (Nat.le_of_ble_eq_true rfl) rfl (fun z _ _ K => s_M_forest_0 K _ _ _  h)
theorem d_M_isTower_0 : decode me_M_isTower.2.1 0 = .ok (.iload_n 1, 1) := by decide +kernel
theorem d_M_isTower_1 : decode me_M_isTower.2.1 1 = .ok (.i2l, 1) := by decide +kernel
theorem d_M_isTower_2 : decode me_M_isTower.2.1 2 = .ok (.lconst 0, 1) := by decide +kernel
theorem d_M_isTower_3 : decode me_M_isTower.2.1 3 = .ok (.aload_n 0, 1) := by decide +kernel
theorem d_M_isTower_4 : decode me_M_isTower.2.1 4 = .ok (.getfield 106, 3) := by decide +kernel
theorem d_M_isTower_7 : decode me_M_isTower.2.1 7 = .ok (.iconst 1, 1) := by decide +kernel
theorem d_M_isTower_8 : decode me_M_isTower.2.1 8 = .ok (.isub, 1) := by decide +kernel
theorem d_M_isTower_9 : decode me_M_isTower.2.1 9 = .ok (.i2l, 1) := by decide +kernel
theorem d_M_isTower_10 : decode me_M_isTower.2.1 10 = .ok (.invokestatic 102, 3) := by decide +kernel
theorem d_M_isTower_13 : decode me_M_isTower.2.1 13 = .ok (.ireturn, 1) := by decide +kernel
noncomputable def f_M_isTower  (a1 : Int32) (m0 : gk_M) : Option (Int32 × gk_M) :=
  gk_bi (f_M_within a1.toInt64 0 ((m0.1 0 6) - 1).toInt64 m0) fun v2 m1 =>
  gk_zz v2 (some (v2, m1))

theorem s_M_isTower_0 {z : gk_Z} (K : gk_F tm z me_M_isTower 2) {r : Int32} {mem2 : gk_M} : ∀ a1 m0, f_M_isTower a1 m0 = some (r, mem2) → gk_G tm z me_M_isTower (gk_R tm z (some (.int r)) mem2) m0 [(0, .ref 0), (1, .int a1)] [] 0 := by
  intro a1 m0  h
  unfold f_M_isTower at h
  refine gk_iload_n (pc := 0) K d_M_isTower_0 rfl ?_
  refine gk_i2l (pc := 1) K d_M_isTower_1 ?_
  refine gk_lconst (pc := 2) K d_M_isTower_2 kl_0 ?_
  refine gk_aload_n (pc := 3) K d_M_isTower_3 rfl ?_
  refine gk_get (pc := 4) K d_M_isTower_4 fl_M_106 tm_0 rfl rfl ?_
  refine gk_iconst (pc := 7) K d_M_isTower_7 kc_1 ?_
  refine gk_isub (pc := 8) K d_M_isTower_8 ?_
  refine gk_i2l (pc := 9) K d_M_isTower_9 ?_
  obtain ⟨v2, m1, em1, h⟩ := gk_bi_some h
  refine gk_cSi (As := [.long a1.toInt64, .long 0, .long ((m0.1 0 6) - 1).toInt64]) (pc := 10) K d_M_isTower_10 ms_M_102 mc_M_within rfl (s_M_within (gk_FD K)  em1) (by decide) rfl (Nat.le_of_ble_eq_true rfl) ?_
  exact gk_zret (pc := 13) K d_M_isTower_13 rfl h
theorem s_M_isTower {l : Launch} {u : gk_U} (hD : gk_D tm u) {a1 : Int32} {m0 mem2 : gk_M} {r : Int32} (h : f_M_isTower a1 m0 = some (r, mem2)) : gk_C tm l u me_M_isTower 2 [.ref 0, .int a1] m0 (some (.int r)) mem2 :=
  gk_enter hD mc_M_isTower (Nat.le_of_ble_eq_true rfl) rfl (fun z _ _ K => s_M_isTower_0 K _ _  h)
theorem d_M_becomes_0 : decode me_M_becomes.2.1 0 = .ok (.aload_n 0, 1) := by decide +kernel
theorem d_M_becomes_1 : decode me_M_becomes.2.1 1 = .ok (.getfield 9, 3) := by decide +kernel
theorem d_M_becomes_4 : decode me_M_becomes.2.1 4 = .ok (.iload_n 1, 1) := by decide +kernel
theorem d_M_becomes_5 : decode me_M_becomes.2.1 5 = .ok (.iaload, 1) := by decide +kernel
theorem d_M_becomes_6 : decode me_M_becomes.2.1 6 = .ok (.istore_n 3, 1) := by decide +kernel
theorem d_M_becomes_7 : decode me_M_becomes.2.1 7 = .ok (.iload_n 3, 1) := by decide +kernel
theorem d_M_becomes_8 : decode me_M_becomes.2.1 8 = .ok (.iload_n 2, 1) := by decide +kernel
theorem d_M_becomes_9 : decode me_M_becomes.2.1 9 = .ok (.if_icmp .ne 5, 3) := by decide +kernel
theorem d_M_becomes_12 : decode me_M_becomes.2.1 12 = .ok (.iload_n 3, 1) := by decide +kernel
theorem d_M_becomes_13 : decode me_M_becomes.2.1 13 = .ok (.ireturn, 1) := by decide +kernel
theorem d_M_becomes_14 : decode me_M_becomes.2.1 14 = .ok (.aload_n 0, 1) := by decide +kernel
theorem d_M_becomes_15 : decode me_M_becomes.2.1 15 = .ok (.getfield 94, 3) := by decide +kernel
theorem d_M_becomes_18 : decode me_M_becomes.2.1 18 = .ok (.bipush 40, 2) := by decide +kernel
theorem d_M_becomes_20 : decode me_M_becomes.2.1 20 = .ok (.if_icmp .ne 77, 3) := by decide +kernel
theorem d_M_becomes_23 : decode me_M_becomes.2.1 23 = .ok (.iconst 1, 1) := by decide +kernel
theorem d_M_becomes_24 : decode me_M_becomes.2.1 24 = .ok (.istore 4, 2) := by decide +kernel
theorem d_M_becomes_26 : decode me_M_becomes.2.1 26 = .ok (.iload 4, 2) := by decide +kernel
theorem d_M_becomes_28 : decode me_M_becomes.2.1 28 = .ok (.bipush 40, 2) := by decide +kernel
theorem d_M_becomes_30 : decode me_M_becomes.2.1 30 = .ok (.if_icmp .ge 57, 3) := by decide +kernel
theorem d_M_becomes_33 : decode me_M_becomes.2.1 33 = .ok (.aload_n 0, 1) := by decide +kernel
theorem d_M_becomes_34 : decode me_M_becomes.2.1 34 = .ok (.getfield 13, 3) := by decide +kernel
theorem d_M_becomes_37 : decode me_M_becomes.2.1 37 = .ok (.iload 4, 2) := by decide +kernel
theorem d_M_becomes_39 : decode me_M_becomes.2.1 39 = .ok (.iconst 1, 1) := by decide +kernel
theorem d_M_becomes_40 : decode me_M_becomes.2.1 40 = .ok (.isub, 1) := by decide +kernel
theorem d_M_becomes_41 : decode me_M_becomes.2.1 41 = .ok (.aload_n 0, 1) := by decide +kernel
theorem d_M_becomes_42 : decode me_M_becomes.2.1 42 = .ok (.getfield 13, 3) := by decide +kernel
theorem d_M_becomes_45 : decode me_M_becomes.2.1 45 = .ok (.iload 4, 2) := by decide +kernel
theorem d_M_becomes_47 : decode me_M_becomes.2.1 47 = .ok (.iaload, 1) := by decide +kernel
theorem d_M_becomes_48 : decode me_M_becomes.2.1 48 = .ok (.iastore, 1) := by decide +kernel
theorem d_M_becomes_49 : decode me_M_becomes.2.1 49 = .ok (.aload_n 0, 1) := by decide +kernel
theorem d_M_becomes_50 : decode me_M_becomes.2.1 50 = .ok (.getfield 16, 3) := by decide +kernel
theorem d_M_becomes_53 : decode me_M_becomes.2.1 53 = .ok (.iload 4, 2) := by decide +kernel
theorem d_M_becomes_55 : decode me_M_becomes.2.1 55 = .ok (.iconst 1, 1) := by decide +kernel
theorem d_M_becomes_56 : decode me_M_becomes.2.1 56 = .ok (.isub, 1) := by decide +kernel
theorem d_M_becomes_57 : decode me_M_becomes.2.1 57 = .ok (.aload_n 0, 1) := by decide +kernel
theorem d_M_becomes_58 : decode me_M_becomes.2.1 58 = .ok (.getfield 16, 3) := by decide +kernel
theorem d_M_becomes_61 : decode me_M_becomes.2.1 61 = .ok (.iload 4, 2) := by decide +kernel
theorem d_M_becomes_63 : decode me_M_becomes.2.1 63 = .ok (.iaload, 1) := by decide +kernel
theorem d_M_becomes_64 : decode me_M_becomes.2.1 64 = .ok (.iastore, 1) := by decide +kernel
theorem d_M_becomes_65 : decode me_M_becomes.2.1 65 = .ok (.aload_n 0, 1) := by decide +kernel
theorem d_M_becomes_66 : decode me_M_becomes.2.1 66 = .ok (.getfield 19, 3) := by decide +kernel
theorem d_M_becomes_69 : decode me_M_becomes.2.1 69 = .ok (.iload 4, 2) := by decide +kernel
theorem d_M_becomes_71 : decode me_M_becomes.2.1 71 = .ok (.iconst 1, 1) := by decide +kernel
theorem d_M_becomes_72 : decode me_M_becomes.2.1 72 = .ok (.isub, 1) := by decide +kernel
theorem d_M_becomes_73 : decode me_M_becomes.2.1 73 = .ok (.aload_n 0, 1) := by decide +kernel
theorem d_M_becomes_74 : decode me_M_becomes.2.1 74 = .ok (.getfield 19, 3) := by decide +kernel
theorem d_M_becomes_77 : decode me_M_becomes.2.1 77 = .ok (.iload 4, 2) := by decide +kernel
theorem d_M_becomes_79 : decode me_M_becomes.2.1 79 = .ok (.iaload, 1) := by decide +kernel
theorem d_M_becomes_80 : decode me_M_becomes.2.1 80 = .ok (.iastore, 1) := by decide +kernel
theorem d_M_becomes_81 : decode me_M_becomes.2.1 81 = .ok (.iinc 4 1, 3) := by decide +kernel
theorem d_M_becomes_84 : decode me_M_becomes.2.1 84 = .ok (.goto (-58), 3) := by decide +kernel
theorem d_M_becomes_87 : decode me_M_becomes.2.1 87 = .ok (.aload_n 0, 1) := by decide +kernel
theorem d_M_becomes_88 : decode me_M_becomes.2.1 88 = .ok (.dup, 1) := by decide +kernel
theorem d_M_becomes_89 : decode me_M_becomes.2.1 89 = .ok (.getfield 94, 3) := by decide +kernel
theorem d_M_becomes_92 : decode me_M_becomes.2.1 92 = .ok (.iconst 1, 1) := by decide +kernel
theorem d_M_becomes_93 : decode me_M_becomes.2.1 93 = .ok (.isub, 1) := by decide +kernel
theorem d_M_becomes_94 : decode me_M_becomes.2.1 94 = .ok (.putfield 94, 3) := by decide +kernel
theorem d_M_becomes_97 : decode me_M_becomes.2.1 97 = .ok (.aload_n 0, 1) := by decide +kernel
theorem d_M_becomes_98 : decode me_M_becomes.2.1 98 = .ok (.getfield 13, 3) := by decide +kernel
theorem d_M_becomes_101 : decode me_M_becomes.2.1 101 = .ok (.aload_n 0, 1) := by decide +kernel
theorem d_M_becomes_102 : decode me_M_becomes.2.1 102 = .ok (.getfield 94, 3) := by decide +kernel
theorem d_M_becomes_105 : decode me_M_becomes.2.1 105 = .ok (.iload_n 1, 1) := by decide +kernel
theorem d_M_becomes_106 : decode me_M_becomes.2.1 106 = .ok (.iastore, 1) := by decide +kernel
theorem d_M_becomes_107 : decode me_M_becomes.2.1 107 = .ok (.aload_n 0, 1) := by decide +kernel
theorem d_M_becomes_108 : decode me_M_becomes.2.1 108 = .ok (.getfield 16, 3) := by decide +kernel
theorem d_M_becomes_111 : decode me_M_becomes.2.1 111 = .ok (.aload_n 0, 1) := by decide +kernel
theorem d_M_becomes_112 : decode me_M_becomes.2.1 112 = .ok (.getfield 94, 3) := by decide +kernel
theorem d_M_becomes_115 : decode me_M_becomes.2.1 115 = .ok (.iload_n 3, 1) := by decide +kernel
theorem d_M_becomes_116 : decode me_M_becomes.2.1 116 = .ok (.iastore, 1) := by decide +kernel
theorem d_M_becomes_117 : decode me_M_becomes.2.1 117 = .ok (.aload_n 0, 1) := by decide +kernel
theorem d_M_becomes_118 : decode me_M_becomes.2.1 118 = .ok (.getfield 19, 3) := by decide +kernel
theorem d_M_becomes_121 : decode me_M_becomes.2.1 121 = .ok (.aload_n 0, 1) := by decide +kernel
theorem d_M_becomes_122 : decode me_M_becomes.2.1 122 = .ok (.getfield 94, 3) := by decide +kernel
theorem d_M_becomes_125 : decode me_M_becomes.2.1 125 = .ok (.iload_n 2, 1) := by decide +kernel
theorem d_M_becomes_126 : decode me_M_becomes.2.1 126 = .ok (.iastore, 1) := by decide +kernel
theorem d_M_becomes_127 : decode me_M_becomes.2.1 127 = .ok (.aload_n 0, 1) := by decide +kernel
theorem d_M_becomes_128 : decode me_M_becomes.2.1 128 = .ok (.dup, 1) := by decide +kernel
theorem d_M_becomes_129 : decode me_M_becomes.2.1 129 = .ok (.getfield 94, 3) := by decide +kernel
theorem d_M_becomes_132 : decode me_M_becomes.2.1 132 = .ok (.iconst 1, 1) := by decide +kernel
theorem d_M_becomes_133 : decode me_M_becomes.2.1 133 = .ok (.iadd, 1) := by decide +kernel
theorem d_M_becomes_134 : decode me_M_becomes.2.1 134 = .ok (.putfield 94, 3) := by decide +kernel
theorem d_M_becomes_137 : decode me_M_becomes.2.1 137 = .ok (.aload_n 0, 1) := by decide +kernel
theorem d_M_becomes_138 : decode me_M_becomes.2.1 138 = .ok (.aload_n 0, 1) := by decide +kernel
theorem d_M_becomes_139 : decode me_M_becomes.2.1 139 = .ok (.getfield 94, 3) := by decide +kernel
theorem d_M_becomes_142 : decode me_M_becomes.2.1 142 = .ok (.putfield 97, 3) := by decide +kernel
theorem d_M_becomes_145 : decode me_M_becomes.2.1 145 = .ok (.aload_n 0, 1) := by decide +kernel
theorem d_M_becomes_146 : decode me_M_becomes.2.1 146 = .ok (.getfield 9, 3) := by decide +kernel
theorem d_M_becomes_149 : decode me_M_becomes.2.1 149 = .ok (.iload_n 1, 1) := by decide +kernel
theorem d_M_becomes_150 : decode me_M_becomes.2.1 150 = .ok (.iload_n 2, 1) := by decide +kernel
theorem d_M_becomes_151 : decode me_M_becomes.2.1 151 = .ok (.iastore, 1) := by decide +kernel
theorem d_M_becomes_152 : decode me_M_becomes.2.1 152 = .ok (.iload_n 3, 1) := by decide +kernel
theorem d_M_becomes_153 : decode me_M_becomes.2.1 153 = .ok (.ireturn, 1) := by decide +kernel
noncomputable def f_M_becomes_97  (a1 : Int32) (a2 : Int32) (a3 : Int32) (m0 : gk_M) : Option (Int32 × gk_M) :=
  gk_si m0 2 40 (m0.1 0 5) a1 fun m1 =>
  gk_si m1 3 40 (m1.1 0 5) a3 fun m2 =>
  gk_si m2 4 40 (m2.1 0 5) a2 fun m3 =>
  gk_let (gk_mi m3 0 5 ((m3.1 0 5) + 1)) fun m4 =>
  gk_let (gk_mi m4 0 4 (m4.1 0 5)) fun m5 =>
  gk_si m5 1 30 a1 a2 fun m6 =>
  some (a3, m6)

theorem s_M_becomes_97 {z : gk_Z} (K : gk_F tm z me_M_becomes 1) {r : Int32} {mem2 : gk_M} : ∀ a1 a2 a3 m0, f_M_becomes_97 a1 a2 a3 m0 = some (r, mem2) → gk_G tm z me_M_becomes (gk_R tm z (some (.int r)) mem2) m0 [(0, .ref 0), (1, .int a1), (2, .int a2), (3, .int a3)] [] 97 := by
  intro a1 a2 a3 m0  h
  unfold f_M_becomes_97 at h
  refine gk_aload_n (pc := 97) K d_M_becomes_97 rfl ?_
  refine gk_get (pc := 98) K d_M_becomes_98 fl_M_13 tm_0 rfl rfl ?_
  refine gk_aload_n (pc := 101) K d_M_becomes_101 rfl ?_
  refine gk_get (pc := 102) K d_M_becomes_102 fl_M_94 tm_0 rfl rfl ?_
  refine gk_iload_n (pc := 105) K d_M_becomes_105 rfl ?_
  refine gk_iast (pc := 106) K d_M_becomes_106 tm_2 h (fun m1 h => ?_)
  refine gk_aload_n (pc := 107) K d_M_becomes_107 rfl ?_
  refine gk_get (pc := 108) K d_M_becomes_108 fl_M_16 tm_0 rfl rfl ?_
  refine gk_aload_n (pc := 111) K d_M_becomes_111 rfl ?_
  refine gk_get (pc := 112) K d_M_becomes_112 fl_M_94 tm_0 rfl rfl ?_
  refine gk_iload_n (pc := 115) K d_M_becomes_115 rfl ?_
  refine gk_iast (pc := 116) K d_M_becomes_116 tm_3 h (fun m2 h => ?_)
  refine gk_aload_n (pc := 117) K d_M_becomes_117 rfl ?_
  refine gk_get (pc := 118) K d_M_becomes_118 fl_M_19 tm_0 rfl rfl ?_
  refine gk_aload_n (pc := 121) K d_M_becomes_121 rfl ?_
  refine gk_get (pc := 122) K d_M_becomes_122 fl_M_94 tm_0 rfl rfl ?_
  refine gk_iload_n (pc := 125) K d_M_becomes_125 rfl ?_
  refine gk_iast (pc := 126) K d_M_becomes_126 tm_4 h (fun m3 h => ?_)
  refine gk_aload_n (pc := 127) K d_M_becomes_127 rfl ?_
  refine gk_dup (pc := 128) K d_M_becomes_128 rfl ?_
  refine gk_get (pc := 129) K d_M_becomes_129 fl_M_94 tm_0 rfl rfl ?_
  refine gk_iconst (pc := 132) K d_M_becomes_132 kc_1 ?_
  refine gk_iadd (pc := 133) K d_M_becomes_133 ?_
  refine gk_puti (pc := 134) K d_M_becomes_134 fp_M_94 tm_0 rfl h (fun m4 h => ?_)
  refine gk_aload_n (pc := 137) K d_M_becomes_137 rfl ?_
  refine gk_aload_n (pc := 138) K d_M_becomes_138 rfl ?_
  refine gk_get (pc := 139) K d_M_becomes_139 fl_M_94 tm_0 rfl rfl ?_
  refine gk_puti (pc := 142) K d_M_becomes_142 fp_M_97 tm_0 rfl h (fun m5 h => ?_)
  refine gk_aload_n (pc := 145) K d_M_becomes_145 rfl ?_
  refine gk_get (pc := 146) K d_M_becomes_146 fl_M_9 tm_0 rfl rfl ?_
  refine gk_iload_n (pc := 149) K d_M_becomes_149 rfl ?_
  refine gk_iload_n (pc := 150) K d_M_becomes_150 rfl ?_
  refine gk_iast (pc := 151) K d_M_becomes_151 tm_1 h (fun m6 h => ?_)
  refine gk_iload_n (pc := 152) K d_M_becomes_152 rfl ?_
  exact gk_iret (pc := 153) K d_M_becomes_153 rfl h
noncomputable def f_M_becomes_26  : Nat → Int32 → Int32 → Int32 → Int32 → gk_M → Option (Int32 × gk_M)
  | 0, _, _, _, _, _ => none
  | n + 1, a1, a2, a3, a4, m0 =>
    if 40 ≤ a4 then
      gk_let (gk_mi m0 0 5 ((m0.1 0 5) - 1)) fun m1 =>
      f_M_becomes_97 a1 a2 a3 m1
    else
      gk_ai m0 2 40 a4 fun v2 =>
      gk_si m0 2 40 (a4 - 1) v2 fun m3 =>
      gk_ai m3 3 40 a4 fun v4 =>
      gk_si m3 3 40 (a4 - 1) v4 fun m5 =>
      gk_ai m5 4 40 a4 fun v6 =>
      gk_si m5 4 40 (a4 - 1) v6 fun m7 =>
      f_M_becomes_26 n a1 a2 a3 (a4 + 1) m7

theorem s_M_becomes_26 {z : gk_Z} (K : gk_F tm z me_M_becomes 1) {r : Int32} {mem2 : gk_M} : ∀ n a1 a2 a3 a4 m0, f_M_becomes_26 n a1 a2 a3 a4 m0 = some (r, mem2) → gk_G tm z me_M_becomes (gk_R tm z (some (.int r)) mem2) m0 [(0, .ref 0), (1, .int a1), (2, .int a2), (3, .int a3), (4, .int a4)] [] 26 := by
  intro n
  induction n with
  | zero => intro a1 a2 a3 a4 m0  h; exact nomatch (show (none : Option _) = some _ from h)
  | succ n ih =>
    intro a1 a2 a3 a4 m0  h
    unfold f_M_becomes_26 at h
    refine gk_iload (pc := 26) K d_M_becomes_26 rfl ?_
    refine gk_bipush (pc := 28) K d_M_becomes_28 kb_40 ?_
    refine gk_ic_ge (tgt := 87) (pc := 30) K d_M_becomes_30 (by decide) h (fun h => ?_) (fun h => ?_)
    · refine gk_aload_n (pc := 87) K d_M_becomes_87 rfl ?_
      refine gk_dup (pc := 88) K d_M_becomes_88 rfl ?_
      refine gk_get (pc := 89) K d_M_becomes_89 fl_M_94 tm_0 rfl rfl ?_
      refine gk_iconst (pc := 92) K d_M_becomes_92 kc_1 ?_
      refine gk_isub (pc := 93) K d_M_becomes_93 ?_
      refine gk_puti (pc := 94) K d_M_becomes_94 fp_M_94 tm_0 rfl h (fun m1 h => ?_)
      exact gk_sub [0, 1, 2, 3] rfl (s_M_becomes_97 K _ _ _ _  h)
    · refine gk_aload_n (pc := 33) K d_M_becomes_33 rfl ?_
      refine gk_get (pc := 34) K d_M_becomes_34 fl_M_13 tm_0 rfl rfl ?_
      refine gk_iload (pc := 37) K d_M_becomes_37 rfl ?_
      refine gk_iconst (pc := 39) K d_M_becomes_39 kc_1 ?_
      refine gk_isub (pc := 40) K d_M_becomes_40 ?_
      refine gk_aload_n (pc := 41) K d_M_becomes_41 rfl ?_
      refine gk_get (pc := 42) K d_M_becomes_42 fl_M_13 tm_0 rfl rfl ?_
      refine gk_iload (pc := 45) K d_M_becomes_45 rfl ?_
      refine gk_iald (pc := 47) K d_M_becomes_47 tm_2 h (fun v2 h => ?_)
      refine gk_iast (pc := 48) K d_M_becomes_48 tm_2 h (fun m3 h => ?_)
      refine gk_aload_n (pc := 49) K d_M_becomes_49 rfl ?_
      refine gk_get (pc := 50) K d_M_becomes_50 fl_M_16 tm_0 rfl rfl ?_
      refine gk_iload (pc := 53) K d_M_becomes_53 rfl ?_
      refine gk_iconst (pc := 55) K d_M_becomes_55 kc_1 ?_
      refine gk_isub (pc := 56) K d_M_becomes_56 ?_
      refine gk_aload_n (pc := 57) K d_M_becomes_57 rfl ?_
      refine gk_get (pc := 58) K d_M_becomes_58 fl_M_16 tm_0 rfl rfl ?_
      refine gk_iload (pc := 61) K d_M_becomes_61 rfl ?_
      refine gk_iald (pc := 63) K d_M_becomes_63 tm_3 h (fun v4 h => ?_)
      refine gk_iast (pc := 64) K d_M_becomes_64 tm_3 h (fun m5 h => ?_)
      refine gk_aload_n (pc := 65) K d_M_becomes_65 rfl ?_
      refine gk_get (pc := 66) K d_M_becomes_66 fl_M_19 tm_0 rfl rfl ?_
      refine gk_iload (pc := 69) K d_M_becomes_69 rfl ?_
      refine gk_iconst (pc := 71) K d_M_becomes_71 kc_1 ?_
      refine gk_isub (pc := 72) K d_M_becomes_72 ?_
      refine gk_aload_n (pc := 73) K d_M_becomes_73 rfl ?_
      refine gk_get (pc := 74) K d_M_becomes_74 fl_M_19 tm_0 rfl rfl ?_
      refine gk_iload (pc := 77) K d_M_becomes_77 rfl ?_
      refine gk_iald (pc := 79) K d_M_becomes_79 tm_4 h (fun v6 h => ?_)
      refine gk_iast (pc := 80) K d_M_becomes_80 tm_4 h (fun m7 h => ?_)
      refine gk_iinc2 (lv2 := [(4, .int (a4 + 1)), (0, .ref 0), (1, .int a1), (2, .int a2), (3, .int a3)]) (pc := 81) K d_M_becomes_81 rfl kc_1 (by decide) rfl ?_
      refine gk_goto (tgt := 26) (pc := 84) K d_M_becomes_84 (by decide) ?_
      exact gk_sub [1, 2, 3, 4, 0] rfl (ih _ _ _ _ _  h)
noncomputable def f_M_becomes  (a1 : Int32) (a2 : Int32) (m0 : gk_M) : Option (Int32 × gk_M) :=
  gk_ai m0 1 30 a1 fun v1 =>
  if ¬ v1 = a2 then
    if ¬ (m0.1 0 5) = 40 then
      f_M_becomes_97 a1 a2 v1 m0
    else
      f_M_becomes_26 gk_fv a1 a2 v1 1 m0
  else
    some (v1, m0)

theorem s_M_becomes_0 {z : gk_Z} (K : gk_F tm z me_M_becomes 1) {r : Int32} {mem2 : gk_M} : ∀ a1 a2 m0, f_M_becomes a1 a2 m0 = some (r, mem2) → gk_G tm z me_M_becomes (gk_R tm z (some (.int r)) mem2) m0 [(0, .ref 0), (1, .int a1), (2, .int a2)] [] 0 := by
  intro a1 a2 m0  h
  unfold f_M_becomes at h
  refine gk_aload_n (pc := 0) K d_M_becomes_0 rfl ?_
  refine gk_get (pc := 1) K d_M_becomes_1 fl_M_9 tm_0 rfl rfl ?_
  refine gk_iload_n (pc := 4) K d_M_becomes_4 rfl ?_
  refine gk_iald (pc := 5) K d_M_becomes_5 tm_1 h (fun v1 h => ?_)
  refine gk_istore_n (lv2 := [(3, .int v1), (0, .ref 0), (1, .int a1), (2, .int a2)]) (pc := 6) K d_M_becomes_6 (by decide) rfl ?_
  refine gk_iload_n (pc := 7) K d_M_becomes_7 rfl ?_
  refine gk_iload_n (pc := 8) K d_M_becomes_8 rfl ?_
  refine gk_ic_ne (tgt := 14) (pc := 9) K d_M_becomes_9 (by decide) h (fun h => ?_) (fun h => ?_)
  · refine gk_aload_n (pc := 14) K d_M_becomes_14 rfl ?_
    refine gk_get (pc := 15) K d_M_becomes_15 fl_M_94 tm_0 rfl rfl ?_
    refine gk_bipush (pc := 18) K d_M_becomes_18 kb_40 ?_
    refine gk_ic_ne (tgt := 97) (pc := 20) K d_M_becomes_20 (by decide) h (fun h => ?_) (fun h => ?_)
    · exact gk_sub [1, 2, 3, 0] rfl (s_M_becomes_97 K _ _ _ _  h)
    · refine gk_iconst (pc := 23) K d_M_becomes_23 kc_1 ?_
      refine gk_istore (lv2 := [(4, .int 1), (3, .int v1), (0, .ref 0), (1, .int a1), (2, .int a2)]) (pc := 24) K d_M_becomes_24 (by decide) rfl ?_
      exact gk_sub [2, 3, 4, 1, 0] rfl (s_M_becomes_26 K _ _ _ _ _ _  h)
  · refine gk_iload_n (pc := 12) K d_M_becomes_12 rfl ?_
    exact gk_iret (pc := 13) K d_M_becomes_13 rfl h
theorem s_M_becomes {l : Launch} {u : gk_U} (hD : gk_D tm u) {a1 : Int32} {a2 : Int32} {m0 mem2 : gk_M} {r : Int32} (h : f_M_becomes a1 a2 m0 = some (r, mem2)) : gk_C tm l u me_M_becomes 1 [.ref 0, .int a1, .int a2] m0 (some (.int r)) mem2 :=
  gk_enter hD mc_M_becomes (Nat.le_of_ble_eq_true rfl) rfl (fun z _ _ K => s_M_becomes_0 K _ _ _  h)
theorem d_M_mend_0 : decode me_M_mend.2.1 0 = .ok (.aload_n 0, 1) := by decide +kernel
theorem d_M_mend_1 : decode me_M_mend.2.1 1 = .ok (.iload_n 1, 1) := by decide +kernel
theorem d_M_mend_2 : decode me_M_mend.2.1 2 = .ok (.invokevirtual 142, 3) := by decide +kernel
theorem d_M_mend_5 : decode me_M_mend.2.1 5 = .ok (.ifCond .eq 46, 3) := by decide +kernel
theorem d_M_mend_8 : decode me_M_mend.2.1 8 = .ok (.iload_n 2, 1) := by decide +kernel
theorem d_M_mend_9 : decode me_M_mend.2.1 9 = .ok (.i2l, 1) := by decide +kernel
theorem d_M_mend_10 : decode me_M_mend.2.1 10 = .ok (.lconst 0, 1) := by decide +kernel
theorem d_M_mend_11 : decode me_M_mend.2.1 11 = .ok (.ldc2_w 145, 3) := by decide +kernel
theorem d_M_mend_14 : decode me_M_mend.2.1 14 = .ok (.invokestatic 102, 3) := by decide +kernel
theorem d_M_mend_17 : decode me_M_mend.2.1 17 = .ok (.ifCond .eq 34, 3) := by decide +kernel
theorem d_M_mend_20 : decode me_M_mend.2.1 20 = .ok (.iload_n 3, 1) := by decide +kernel
theorem d_M_mend_21 : decode me_M_mend.2.1 21 = .ok (.i2l, 1) := by decide +kernel
theorem d_M_mend_22 : decode me_M_mend.2.1 22 = .ok (.lconst 0, 1) := by decide +kernel
theorem d_M_mend_23 : decode me_M_mend.2.1 23 = .ok (.iload_n 2, 1) := by decide +kernel
theorem d_M_mend_24 : decode me_M_mend.2.1 24 = .ok (.ifCond .ne 9, 3) := by decide +kernel
theorem d_M_mend_27 : decode me_M_mend.2.1 27 = .ok (.ldc2_w 112, 3) := by decide +kernel
theorem d_M_mend_30 : decode me_M_mend.2.1 30 = .ok (.goto 15, 3) := by decide +kernel
theorem d_M_mend_33 : decode me_M_mend.2.1 33 = .ok (.iload_n 2, 1) := by decide +kernel
theorem d_M_mend_34 : decode me_M_mend.2.1 34 = .ok (.iconst 1, 1) := by decide +kernel
theorem d_M_mend_35 : decode me_M_mend.2.1 35 = .ok (.if_icmp .ne 9, 3) := by decide +kernel
theorem d_M_mend_38 : decode me_M_mend.2.1 38 = .ok (.ldc2_w 114, 3) := by decide +kernel
theorem d_M_mend_41 : decode me_M_mend.2.1 41 = .ok (.goto 4, 3) := by decide +kernel
theorem d_M_mend_44 : decode me_M_mend.2.1 44 = .ok (.lconst 1, 1) := by decide +kernel
theorem d_M_mend_45 : decode me_M_mend.2.1 45 = .ok (.invokestatic 102, 3) := by decide +kernel
theorem d_M_mend_48 : decode me_M_mend.2.1 48 = .ok (.ifCond .ne 5, 3) := by decide +kernel
theorem d_M_mend_51 : decode me_M_mend.2.1 51 = .ok (.iconst (-1), 1) := by decide +kernel
theorem d_M_mend_52 : decode me_M_mend.2.1 52 = .ok (.ireturn, 1) := by decide +kernel
theorem d_M_mend_53 : decode me_M_mend.2.1 53 = .ok (.aload_n 0, 1) := by decide +kernel
theorem d_M_mend_54 : decode me_M_mend.2.1 54 = .ok (.bipush 10, 2) := by decide +kernel
theorem d_M_mend_56 : decode me_M_mend.2.1 56 = .ok (.iload_n 2, 1) := by decide +kernel
theorem d_M_mend_57 : decode me_M_mend.2.1 57 = .ok (.imul, 1) := by decide +kernel
theorem d_M_mend_58 : decode me_M_mend.2.1 58 = .ok (.iload_n 1, 1) := by decide +kernel
theorem d_M_mend_59 : decode me_M_mend.2.1 59 = .ok (.iadd, 1) := by decide +kernel
theorem d_M_mend_60 : decode me_M_mend.2.1 60 = .ok (.iload_n 3, 1) := by decide +kernel
theorem d_M_mend_61 : decode me_M_mend.2.1 61 = .ok (.invokevirtual 147, 3) := by decide +kernel
theorem d_M_mend_64 : decode me_M_mend.2.1 64 = .ok (.ireturn, 1) := by decide +kernel
noncomputable def f_M_mend_45  (a1 : Int32) (a2 : Int32) (a3 : Int32) (s0 : Int64) (s1 : Int64) (s2 : Int64) (m0 : gk_M) : Option (Int32 × gk_M) :=
  gk_bi (f_M_within s0 s1 s2 m0) fun v2 m1 =>
  if ¬ v2 = 0 then
    gk_bi (f_M_becomes ((10 * a2) + a1) a3 m1) fun v4 m3 =>
    some (v4, m3)
  else
    some ((-1), m1)

theorem s_M_mend_45 {z : gk_Z} (K : gk_F tm z me_M_mend 3) {r : Int32} {mem2 : gk_M} : ∀ a1 a2 a3 s0 s1 s2 m0, f_M_mend_45 a1 a2 a3 s0 s1 s2 m0 = some (r, mem2) → gk_G tm z me_M_mend (gk_R tm z (some (.int r)) mem2) m0 [(0, .ref 0), (1, .int a1), (2, .int a2), (3, .int a3)] [.long s2, .long s1, .long s0] 45 := by
  intro a1 a2 a3 s0 s1 s2 m0  h
  unfold f_M_mend_45 at h
  obtain ⟨v2, m1, em1, h⟩ := gk_bi_some h
  refine gk_cSi (As := [.long s0, .long s1, .long s2]) (pc := 45) K d_M_mend_45 ms_M_102 mc_M_within rfl (s_M_within (gk_FD K)  em1) (by decide) rfl (Nat.le_of_ble_eq_true rfl) ?_
  refine gk_if_ne (tgt := 53) (pc := 48) K d_M_mend_48 (by decide) h (fun h => ?_) (fun h => ?_)
  · refine gk_aload_n (pc := 53) K d_M_mend_53 rfl ?_
    refine gk_bipush (pc := 54) K d_M_mend_54 kb_10 ?_
    refine gk_iload_n (pc := 56) K d_M_mend_56 rfl ?_
    refine gk_imul (pc := 57) K d_M_mend_57 ?_
    refine gk_iload_n (pc := 58) K d_M_mend_58 rfl ?_
    refine gk_iadd (pc := 59) K d_M_mend_59 ?_
    refine gk_iload_n (pc := 60) K d_M_mend_60 rfl ?_
    obtain ⟨v4, m3, em3, h⟩ := gk_bi_some h
    refine gk_cVi (As := [.int ((10 * a2) + a1), .int a3]) (pc := 61) K d_M_mend_61 mv_M_147 mc_M_becomes rfl tm_0 cl_ok10.1 (s_M_becomes (gk_FD K)  em3) (by decide) rfl (Nat.le_of_ble_eq_true rfl) ?_
    exact gk_iret (pc := 64) K d_M_mend_64 rfl h
  · refine gk_iconst (pc := 51) K d_M_mend_51 kc_m1 ?_
    exact gk_iret (pc := 52) K d_M_mend_52 rfl h
noncomputable def f_M_mend  (a1 : Int32) (a2 : Int32) (a3 : Int32) (m0 : gk_M) : Option (Int32 × gk_M) :=
  gk_bi (f_M_isTower a1 m0) fun v2 m1 =>
  if v2 = 0 then
    some ((-1), m1)
  else
    gk_bi (f_M_within a2.toInt64 0 2 m1) fun v4 m3 =>
    if v4 = 0 then
      some ((-1), m3)
    else
      if ¬ a2 = 0 then
        if ¬ a2 = 1 then
          f_M_mend_45 a1 a2 a3 a3.toInt64 0 1 m3
        else
          f_M_mend_45 a1 a2 a3 a3.toInt64 0 99 m3
      else
        f_M_mend_45 a1 a2 a3 a3.toInt64 0 9 m3

theorem s_M_mend_0 {z : gk_Z} (K : gk_F tm z me_M_mend 3) {r : Int32} {mem2 : gk_M} : ∀ a1 a2 a3 m0, f_M_mend a1 a2 a3 m0 = some (r, mem2) → gk_G tm z me_M_mend (gk_R tm z (some (.int r)) mem2) m0 [(0, .ref 0), (1, .int a1), (2, .int a2), (3, .int a3)] [] 0 := by
  intro a1 a2 a3 m0  h
  unfold f_M_mend at h
  refine gk_aload_n (pc := 0) K d_M_mend_0 rfl ?_
  refine gk_iload_n (pc := 1) K d_M_mend_1 rfl ?_
  obtain ⟨v2, m1, em1, h⟩ := gk_bi_some h
  refine gk_cVi (As := [.int a1]) (pc := 2) K d_M_mend_2 mv_M_142 mc_M_isTower rfl tm_0 cl_ok10.1 (s_M_isTower (gk_FD K)  em1) (by decide) rfl (Nat.le_of_ble_eq_true rfl) ?_
  refine gk_if_eq (tgt := 51) (pc := 5) K d_M_mend_5 (by decide) h (fun h => ?_) (fun h => ?_)
  · refine gk_iconst (pc := 51) K d_M_mend_51 kc_m1 ?_
    exact gk_iret (pc := 52) K d_M_mend_52 rfl h
  · refine gk_iload_n (pc := 8) K d_M_mend_8 rfl ?_
    refine gk_i2l (pc := 9) K d_M_mend_9 ?_
    refine gk_lconst (pc := 10) K d_M_mend_10 kl_0 ?_
    refine gk_ldc2 (pc := 11) K d_M_mend_11 lc_M_145 ?_
    obtain ⟨v4, m3, em3, h⟩ := gk_bi_some h
    refine gk_cSi (As := [.long a2.toInt64, .long 0, .long 2]) (pc := 14) K d_M_mend_14 ms_M_102 mc_M_within rfl (s_M_within (gk_FD K)  em3) (by decide) rfl (Nat.le_of_ble_eq_true rfl) ?_
    refine gk_if_eq (tgt := 51) (pc := 17) K d_M_mend_17 (by decide) h (fun h => ?_) (fun h => ?_)
    · refine gk_iconst (pc := 51) K d_M_mend_51 kc_m1 ?_
      exact gk_iret (pc := 52) K d_M_mend_52 rfl h
    · refine gk_iload_n (pc := 20) K d_M_mend_20 rfl ?_
      refine gk_i2l (pc := 21) K d_M_mend_21 ?_
      refine gk_lconst (pc := 22) K d_M_mend_22 kl_0 ?_
      refine gk_iload_n (pc := 23) K d_M_mend_23 rfl ?_
      refine gk_if_ne (tgt := 33) (pc := 24) K d_M_mend_24 (by decide) h (fun h => ?_) (fun h => ?_)
      · refine gk_iload_n (pc := 33) K d_M_mend_33 rfl ?_
        refine gk_iconst (pc := 34) K d_M_mend_34 kc_1 ?_
        refine gk_ic_ne (tgt := 44) (pc := 35) K d_M_mend_35 (by decide) h (fun h => ?_) (fun h => ?_)
        · refine gk_lconst (pc := 44) K d_M_mend_44 kl_1 ?_
          exact gk_sub [0, 1, 2, 3] rfl (s_M_mend_45 K _ _ _ _ _ _ _  h)
        · refine gk_ldc2 (pc := 38) K d_M_mend_38 lc_M_114 ?_
          refine gk_goto (tgt := 45) (pc := 41) K d_M_mend_41 (by decide) ?_
          exact gk_sub [0, 1, 2, 3] rfl (s_M_mend_45 K _ _ _ _ _ _ _  h)
      · refine gk_ldc2 (pc := 27) K d_M_mend_27 lc_M_112 ?_
        refine gk_goto (tgt := 45) (pc := 30) K d_M_mend_30 (by decide) ?_
        exact gk_sub [0, 1, 2, 3] rfl (s_M_mend_45 K _ _ _ _ _ _ _  h)
theorem s_M_mend {l : Launch} {u : gk_U} (hD : gk_D tm u) {a1 : Int32} {a2 : Int32} {a3 : Int32} {m0 mem2 : gk_M} {r : Int32} (h : f_M_mend a1 a2 a3 m0 = some (r, mem2)) : gk_C tm l u me_M_mend 3 [.ref 0, .int a1, .int a2, .int a3] m0 (some (.int r)) mem2 :=
  gk_enter hD mc_M_mend (Nat.le_of_ble_eq_true rfl) rfl (fun z _ _ K => s_M_mend_0 K _ _ _ _  h)
theorem d_M_of_0 : decode me_M_of.2.1 0 = .ok (.iload_n 2, 1) := by decide +kernel
theorem d_M_of_1 : decode me_M_of.2.1 1 = .ok (.i2l, 1) := by decide +kernel
theorem d_M_of_2 : decode me_M_of.2.1 2 = .ok (.lconst 0, 1) := by decide +kernel
theorem d_M_of_3 : decode me_M_of.2.1 3 = .ok (.ldc2_w 151, 3) := by decide +kernel
theorem d_M_of_6 : decode me_M_of.2.1 6 = .ok (.invokestatic 102, 3) := by decide +kernel
theorem d_M_of_9 : decode me_M_of.2.1 9 = .ok (.ifCond .eq 42, 3) := by decide +kernel
theorem d_M_of_12 : decode me_M_of.2.1 12 = .ok (.aload_n 0, 1) := by decide +kernel
theorem d_M_of_13 : decode me_M_of.2.1 13 = .ok (.iload_n 1, 1) := by decide +kernel
theorem d_M_of_14 : decode me_M_of.2.1 14 = .ok (.invokevirtual 142, 3) := by decide +kernel
theorem d_M_of_17 : decode me_M_of.2.1 17 = .ok (.ifCond .ne 7, 3) := by decide +kernel
theorem d_M_of_20 : decode me_M_of.2.1 20 = .ok (.iconst (-1), 1) := by decide +kernel
theorem d_M_of_21 : decode me_M_of.2.1 21 = .ok (.goto 29, 3) := by decide +kernel
theorem d_M_of_24 : decode me_M_of.2.1 24 = .ok (.iload_n 2, 1) := by decide +kernel
theorem d_M_of_25 : decode me_M_of.2.1 25 = .ok (.ifCond .ne 12, 3) := by decide +kernel
theorem d_M_of_28 : decode me_M_of.2.1 28 = .ok (.aload_n 0, 1) := by decide +kernel
theorem d_M_of_29 : decode me_M_of.2.1 29 = .ok (.getfield 22, 3) := by decide +kernel
theorem d_M_of_32 : decode me_M_of.2.1 32 = .ok (.iload_n 1, 1) := by decide +kernel
theorem d_M_of_33 : decode me_M_of.2.1 33 = .ok (.iaload, 1) := by decide +kernel
theorem d_M_of_34 : decode me_M_of.2.1 34 = .ok (.goto 16, 3) := by decide +kernel
theorem d_M_of_37 : decode me_M_of.2.1 37 = .ok (.aload_n 0, 1) := by decide +kernel
theorem d_M_of_38 : decode me_M_of.2.1 38 = .ok (.getfield 9, 3) := by decide +kernel
theorem d_M_of_41 : decode me_M_of.2.1 41 = .ok (.bipush 10, 2) := by decide +kernel
theorem d_M_of_43 : decode me_M_of.2.1 43 = .ok (.iload_n 2, 1) := by decide +kernel
theorem d_M_of_44 : decode me_M_of.2.1 44 = .ok (.iconst 1, 1) := by decide +kernel
theorem d_M_of_45 : decode me_M_of.2.1 45 = .ok (.isub, 1) := by decide +kernel
theorem d_M_of_46 : decode me_M_of.2.1 46 = .ok (.imul, 1) := by decide +kernel
theorem d_M_of_47 : decode me_M_of.2.1 47 = .ok (.iload_n 1, 1) := by decide +kernel
theorem d_M_of_48 : decode me_M_of.2.1 48 = .ok (.iadd, 1) := by decide +kernel
theorem d_M_of_49 : decode me_M_of.2.1 49 = .ok (.iaload, 1) := by decide +kernel
theorem d_M_of_50 : decode me_M_of.2.1 50 = .ok (.ireturn, 1) := by decide +kernel
theorem d_M_of_51 : decode me_M_of.2.1 51 = .ok (.aload_n 0, 1) := by decide +kernel
theorem d_M_of_52 : decode me_M_of.2.1 52 = .ok (.iload_n 1, 1) := by decide +kernel
theorem d_M_of_53 : decode me_M_of.2.1 53 = .ok (.invokevirtual 136, 3) := by decide +kernel
theorem d_M_of_56 : decode me_M_of.2.1 56 = .ok (.ifCond .ne 5, 3) := by decide +kernel
theorem d_M_of_59 : decode me_M_of.2.1 59 = .ok (.iconst (-1), 1) := by decide +kernel
theorem d_M_of_60 : decode me_M_of.2.1 60 = .ok (.ireturn, 1) := by decide +kernel
theorem d_M_of_61 : decode me_M_of.2.1 61 = .ok (.iload_n 2, 1) := by decide +kernel
theorem d_M_of_62 : decode me_M_of.2.1 62 = .ok (.bipush 10, 2) := by decide +kernel
theorem d_M_of_64 : decode me_M_of.2.1 64 = .ok (.if_icmp .ne 12, 3) := by decide +kernel
theorem d_M_of_67 : decode me_M_of.2.1 67 = .ok (.aload_n 0, 1) := by decide +kernel
theorem d_M_of_68 : decode me_M_of.2.1 68 = .ok (.getfield 31, 3) := by decide +kernel
theorem d_M_of_71 : decode me_M_of.2.1 71 = .ok (.iload_n 1, 1) := by decide +kernel
theorem d_M_of_72 : decode me_M_of.2.1 72 = .ok (.iaload, 1) := by decide +kernel
theorem d_M_of_73 : decode me_M_of.2.1 73 = .ok (.goto 42, 3) := by decide +kernel
theorem d_M_of_76 : decode me_M_of.2.1 76 = .ok (.iload_n 2, 1) := by decide +kernel
theorem d_M_of_77 : decode me_M_of.2.1 77 = .ok (.i2l, 1) := by decide +kernel
theorem d_M_of_78 : decode me_M_of.2.1 78 = .ok (.ldc2_w 153, 3) := by decide +kernel
theorem d_M_of_81 : decode me_M_of.2.1 81 = .ok (.bipush 19, 2) := by decide +kernel
theorem d_M_of_83 : decode me_M_of.2.1 83 = .ok (.aload_n 0, 1) := by decide +kernel
theorem d_M_of_84 : decode me_M_of.2.1 84 = .ok (.getfield 31, 3) := by decide +kernel
theorem d_M_of_87 : decode me_M_of.2.1 87 = .ok (.iload_n 1, 1) := by decide +kernel
theorem d_M_of_88 : decode me_M_of.2.1 88 = .ok (.iaload, 1) := by decide +kernel
theorem d_M_of_89 : decode me_M_of.2.1 89 = .ok (.iadd, 1) := by decide +kernel
theorem d_M_of_90 : decode me_M_of.2.1 90 = .ok (.i2l, 1) := by decide +kernel
theorem d_M_of_91 : decode me_M_of.2.1 91 = .ok (.invokestatic 102, 3) := by decide +kernel
theorem d_M_of_94 : decode me_M_of.2.1 94 = .ok (.ifCond .eq 20, 3) := by decide +kernel
theorem d_M_of_97 : decode me_M_of.2.1 97 = .ok (.aload_n 0, 1) := by decide +kernel
theorem d_M_of_98 : decode me_M_of.2.1 98 = .ok (.getfield 34, 3) := by decide +kernel
theorem d_M_of_101 : decode me_M_of.2.1 101 = .ok (.bipush 7, 2) := by decide +kernel
theorem d_M_of_103 : decode me_M_of.2.1 103 = .ok (.iload_n 1, 1) := by decide +kernel
theorem d_M_of_104 : decode me_M_of.2.1 104 = .ok (.imul, 1) := by decide +kernel
theorem d_M_of_105 : decode me_M_of.2.1 105 = .ok (.iload_n 2, 1) := by decide +kernel
theorem d_M_of_106 : decode me_M_of.2.1 106 = .ok (.iadd, 1) := by decide +kernel
theorem d_M_of_107 : decode me_M_of.2.1 107 = .ok (.bipush 20, 2) := by decide +kernel
theorem d_M_of_109 : decode me_M_of.2.1 109 = .ok (.isub, 1) := by decide +kernel
theorem d_M_of_110 : decode me_M_of.2.1 110 = .ok (.iaload, 1) := by decide +kernel
theorem d_M_of_111 : decode me_M_of.2.1 111 = .ok (.goto 4, 3) := by decide +kernel
theorem d_M_of_114 : decode me_M_of.2.1 114 = .ok (.iconst (-1), 1) := by decide +kernel
theorem d_M_of_115 : decode me_M_of.2.1 115 = .ok (.ireturn, 1) := by decide +kernel
noncomputable def f_M_of  (a1 : Int32) (a2 : Int32) (m0 : gk_M) : Option (Int32 × gk_M) :=
  gk_bi (f_M_within a2.toInt64 0 3 m0) fun v2 m1 =>
  if v2 = 0 then
    gk_bi (f_M_isRoad a1 m1) fun v4 m3 =>
    if ¬ v4 = 0 then
      if ¬ a2 = 10 then
        gk_ai m3 8 4 a1 fun v5 =>
        gk_bi (f_M_within a2.toInt64 20 (19 + v5).toInt64 m3) fun v7 m6 =>
        if v7 = 0 then
          some ((-1), m6)
        else
          gk_ai m6 9 28 (((7 * a1) + a2) - 20) fun v8 =>
          some (v8, m6)
      else
        gk_ai m3 8 4 a1 fun v9 =>
        some (v9, m3)
    else
      some ((-1), m3)
  else
    gk_bi (f_M_isTower a1 m1) fun v11 m10 =>
    if ¬ v11 = 0 then
      if ¬ a2 = 0 then
        gk_ai m10 1 30 ((10 * (a2 - 1)) + a1) fun v12 =>
        some (v12, m10)
      else
        gk_ai m10 5 20 a1 fun v13 =>
        some (v13, m10)
    else
      some ((-1), m10)

theorem s_M_of_0 {z : gk_Z} (K : gk_F tm z me_M_of 3) {r : Int32} {mem2 : gk_M} : ∀ a1 a2 m0, f_M_of a1 a2 m0 = some (r, mem2) → gk_G tm z me_M_of (gk_R tm z (some (.int r)) mem2) m0 [(0, .ref 0), (1, .int a1), (2, .int a2)] [] 0 := by
  intro a1 a2 m0  h
  unfold f_M_of at h
  refine gk_iload_n (pc := 0) K d_M_of_0 rfl ?_
  refine gk_i2l (pc := 1) K d_M_of_1 ?_
  refine gk_lconst (pc := 2) K d_M_of_2 kl_0 ?_
  refine gk_ldc2 (pc := 3) K d_M_of_3 lc_M_151 ?_
  obtain ⟨v2, m1, em1, h⟩ := gk_bi_some h
  refine gk_cSi (As := [.long a2.toInt64, .long 0, .long 3]) (pc := 6) K d_M_of_6 ms_M_102 mc_M_within rfl (s_M_within (gk_FD K)  em1) (by decide) rfl (Nat.le_of_ble_eq_true rfl) ?_
  refine gk_if_eq (tgt := 51) (pc := 9) K d_M_of_9 (by decide) h (fun h => ?_) (fun h => ?_)
  · refine gk_aload_n (pc := 51) K d_M_of_51 rfl ?_
    refine gk_iload_n (pc := 52) K d_M_of_52 rfl ?_
    obtain ⟨v4, m3, em3, h⟩ := gk_bi_some h
    refine gk_cVi (As := [.int a1]) (pc := 53) K d_M_of_53 mv_M_136 mc_M_isRoad rfl tm_0 cl_ok10.1 (s_M_isRoad (gk_FD K)  em3) (by decide) rfl (Nat.le_of_ble_eq_true rfl) ?_
    refine gk_if_ne (tgt := 61) (pc := 56) K d_M_of_56 (by decide) h (fun h => ?_) (fun h => ?_)
    · refine gk_iload_n (pc := 61) K d_M_of_61 rfl ?_
      refine gk_bipush (pc := 62) K d_M_of_62 kb_10 ?_
      refine gk_ic_ne (tgt := 76) (pc := 64) K d_M_of_64 (by decide) h (fun h => ?_) (fun h => ?_)
      · refine gk_iload_n (pc := 76) K d_M_of_76 rfl ?_
        refine gk_i2l (pc := 77) K d_M_of_77 ?_
        refine gk_ldc2 (pc := 78) K d_M_of_78 lc_M_153 ?_
        refine gk_bipush (pc := 81) K d_M_of_81 kb_19 ?_
        refine gk_aload_n (pc := 83) K d_M_of_83 rfl ?_
        refine gk_get (pc := 84) K d_M_of_84 fl_M_31 tm_0 rfl rfl ?_
        refine gk_iload_n (pc := 87) K d_M_of_87 rfl ?_
        refine gk_iald (pc := 88) K d_M_of_88 tm_8 h (fun v5 h => ?_)
        refine gk_iadd (pc := 89) K d_M_of_89 ?_
        refine gk_i2l (pc := 90) K d_M_of_90 ?_
        obtain ⟨v7, m6, em6, h⟩ := gk_bi_some h
        refine gk_cSi (As := [.long a2.toInt64, .long 20, .long (19 + v5).toInt64]) (pc := 91) K d_M_of_91 ms_M_102 mc_M_within rfl (s_M_within (gk_FD K)  em6) (by decide) rfl (Nat.le_of_ble_eq_true rfl) ?_
        refine gk_if_eq (tgt := 114) (pc := 94) K d_M_of_94 (by decide) h (fun h => ?_) (fun h => ?_)
        · refine gk_iconst (pc := 114) K d_M_of_114 kc_m1 ?_
          exact gk_iret (pc := 115) K d_M_of_115 rfl h
        · refine gk_aload_n (pc := 97) K d_M_of_97 rfl ?_
          refine gk_get (pc := 98) K d_M_of_98 fl_M_34 tm_0 rfl rfl ?_
          refine gk_bipush (pc := 101) K d_M_of_101 kb_7 ?_
          refine gk_iload_n (pc := 103) K d_M_of_103 rfl ?_
          refine gk_imul (pc := 104) K d_M_of_104 ?_
          refine gk_iload_n (pc := 105) K d_M_of_105 rfl ?_
          refine gk_iadd (pc := 106) K d_M_of_106 ?_
          refine gk_bipush (pc := 107) K d_M_of_107 kb_20 ?_
          refine gk_isub (pc := 109) K d_M_of_109 ?_
          refine gk_iald (pc := 110) K d_M_of_110 tm_9 h (fun v8 h => ?_)
          refine gk_goto (tgt := 115) (pc := 111) K d_M_of_111 (by decide) ?_
          exact gk_iret (pc := 115) K d_M_of_115 rfl h
      · refine gk_aload_n (pc := 67) K d_M_of_67 rfl ?_
        refine gk_get (pc := 68) K d_M_of_68 fl_M_31 tm_0 rfl rfl ?_
        refine gk_iload_n (pc := 71) K d_M_of_71 rfl ?_
        refine gk_iald (pc := 72) K d_M_of_72 tm_8 h (fun v9 h => ?_)
        refine gk_goto (tgt := 115) (pc := 73) K d_M_of_73 (by decide) ?_
        exact gk_iret (pc := 115) K d_M_of_115 rfl h
    · refine gk_iconst (pc := 59) K d_M_of_59 kc_m1 ?_
      exact gk_iret (pc := 60) K d_M_of_60 rfl h
  · refine gk_aload_n (pc := 12) K d_M_of_12 rfl ?_
    refine gk_iload_n (pc := 13) K d_M_of_13 rfl ?_
    obtain ⟨v11, m10, em10, h⟩ := gk_bi_some h
    refine gk_cVi (As := [.int a1]) (pc := 14) K d_M_of_14 mv_M_142 mc_M_isTower rfl tm_0 cl_ok10.1 (s_M_isTower (gk_FD K)  em10) (by decide) rfl (Nat.le_of_ble_eq_true rfl) ?_
    refine gk_if_ne (tgt := 24) (pc := 17) K d_M_of_17 (by decide) h (fun h => ?_) (fun h => ?_)
    · refine gk_iload_n (pc := 24) K d_M_of_24 rfl ?_
      refine gk_if_ne (tgt := 37) (pc := 25) K d_M_of_25 (by decide) h (fun h => ?_) (fun h => ?_)
      · refine gk_aload_n (pc := 37) K d_M_of_37 rfl ?_
        refine gk_get (pc := 38) K d_M_of_38 fl_M_9 tm_0 rfl rfl ?_
        refine gk_bipush (pc := 41) K d_M_of_41 kb_10 ?_
        refine gk_iload_n (pc := 43) K d_M_of_43 rfl ?_
        refine gk_iconst (pc := 44) K d_M_of_44 kc_1 ?_
        refine gk_isub (pc := 45) K d_M_of_45 ?_
        refine gk_imul (pc := 46) K d_M_of_46 ?_
        refine gk_iload_n (pc := 47) K d_M_of_47 rfl ?_
        refine gk_iadd (pc := 48) K d_M_of_48 ?_
        refine gk_iald (pc := 49) K d_M_of_49 tm_1 h (fun v12 h => ?_)
        exact gk_iret (pc := 50) K d_M_of_50 rfl h
      · refine gk_aload_n (pc := 28) K d_M_of_28 rfl ?_
        refine gk_get (pc := 29) K d_M_of_29 fl_M_22 tm_0 rfl rfl ?_
        refine gk_iload_n (pc := 32) K d_M_of_32 rfl ?_
        refine gk_iald (pc := 33) K d_M_of_33 tm_5 h (fun v13 h => ?_)
        refine gk_goto (tgt := 50) (pc := 34) K d_M_of_34 (by decide) ?_
        exact gk_iret (pc := 50) K d_M_of_50 rfl h
    · refine gk_iconst (pc := 20) K d_M_of_20 kc_m1 ?_
      refine gk_goto (tgt := 50) (pc := 21) K d_M_of_21 (by decide) ?_
      exact gk_iret (pc := 50) K d_M_of_50 rfl h
theorem s_M_of {l : Launch} {u : gk_U} (hD : gk_D tm u) {a1 : Int32} {a2 : Int32} {m0 mem2 : gk_M} {r : Int32} (h : f_M_of a1 a2 m0 = some (r, mem2)) : gk_C tm l u me_M_of 3 [.ref 0, .int a1, .int a2] m0 (some (.int r)) mem2 :=
  gk_enter hD mc_M_of (Nat.le_of_ble_eq_true rfl) rfl (fun z _ _ K => s_M_of_0 K _ _ _  h)
