theorem d_X_newly_0 : decode me_X_newly.2.1 0 = .ok (.iload_n 1, 1) := by decide +kernel
theorem d_X_newly_1 : decode me_X_newly.2.1 1 = .ok (.invokestatic 99, 3) := by decide +kernel
theorem d_X_newly_4 : decode me_X_newly.2.1 4 = .ok (.ifCond .eq 10, 3) := by decide +kernel
theorem d_X_newly_7 : decode me_X_newly.2.1 7 = .ok (.iload_n 2, 1) := by decide +kernel
theorem d_X_newly_8 : decode me_X_newly.2.1 8 = .ok (.invokestatic 99, 3) := by decide +kernel
theorem d_X_newly_11 : decode me_X_newly.2.1 11 = .ok (.ifCond .ne 5, 3) := by decide +kernel
theorem d_X_newly_14 : decode me_X_newly.2.1 14 = .ok (.iconst (-1), 1) := by decide +kernel
theorem d_X_newly_15 : decode me_X_newly.2.1 15 = .ok (.ireturn, 1) := by decide +kernel
theorem d_X_newly_16 : decode me_X_newly.2.1 16 = .ok (.aload_n 0, 1) := by decide +kernel
theorem d_X_newly_17 : decode me_X_newly.2.1 17 = .ok (.getfield 37, 3) := by decide +kernel
theorem d_X_newly_20 : decode me_X_newly.2.1 20 = .ok (.iload_n 1, 1) := by decide +kernel
theorem d_X_newly_21 : decode me_X_newly.2.1 21 = .ok (.iload_n 2, 1) := by decide +kernel
theorem d_X_newly_22 : decode me_X_newly.2.1 22 = .ok (.invokevirtual 249, 3) := by decide +kernel
theorem d_X_newly_25 : decode me_X_newly.2.1 25 = .ok (.ireturn, 1) := by decide +kernel
noncomputable def f_X_newly  (a1 : Int32) (a2 : Int32) (m0 : gk_M) : Option (Int32 × gk_M) :=
  gk_bi (f_X_isPoint a1 m0) fun v2 m1 =>
  if v2 = 0 then
    some ((-1), m1)
  else
    gk_bi (f_X_isPoint a2 m1) fun v4 m3 =>
    if ¬ v4 = 0 then
      gk_bi (f_Planner_stepsBetween a1 a2 m3) fun v6 m5 =>
      some (v6, m5)
    else
      some ((-1), m3)

theorem s_X_newly_0 {z : gk_Z} (K : gk_F tx z me_X_newly 8) {r : Int32} {mem2 : gk_M} : ∀ a1 a2 m0, f_X_newly a1 a2 m0 = some (r, mem2) → gk_G tx z me_X_newly (gk_R tx z (some (.int r)) mem2) m0 [(0, .ref 0), (1, .int a1), (2, .int a2)] [] 0 := by
  intro a1 a2 m0  h
  unfold f_X_newly at h
  refine gk_iload_n (pc := 0) K d_X_newly_0 rfl ?_
  obtain ⟨v2, m1, em1, h⟩ := gk_bi_some h
  refine gk_cSi (As := [.int a1]) (pc := 1) K d_X_newly_1 ms_X_99 mc_X_isPoint rfl (s_X_isPoint (gk_FD K)  em1) (by decide) rfl (Nat.le_of_ble_eq_true rfl) ?_
  refine gk_if_eq (tgt := 14) (pc := 4) K d_X_newly_4 (by decide) h (fun h => ?_) (fun h => ?_)
  · refine gk_iconst (pc := 14) K d_X_newly_14 kc_m1 ?_
    exact gk_iret (pc := 15) K d_X_newly_15 rfl h
  · refine gk_iload_n (pc := 7) K d_X_newly_7 rfl ?_
    obtain ⟨v4, m3, em3, h⟩ := gk_bi_some h
    refine gk_cSi (As := [.int a2]) (pc := 8) K d_X_newly_8 ms_X_99 mc_X_isPoint rfl (s_X_isPoint (gk_FD K)  em3) (by decide) rfl (Nat.le_of_ble_eq_true rfl) ?_
    refine gk_if_ne (tgt := 16) (pc := 11) K d_X_newly_11 (by decide) h (fun h => ?_) (fun h => ?_)
    · refine gk_aload_n (pc := 16) K d_X_newly_16 rfl ?_
      refine gk_get (pc := 17) K d_X_newly_17 fl_X_37 tx_0 rfl rfl ?_
      refine gk_iload_n (pc := 20) K d_X_newly_20 rfl ?_
      refine gk_iload_n (pc := 21) K d_X_newly_21 rfl ?_
      obtain ⟨v6, m5, em5, h⟩ := gk_bi_some h
      refine gk_cVi (As := [.int a1, .int a2]) (pc := 22) K d_X_newly_22 mv_X_249 mc_Planner_stepsBetween rfl tx_21 cl_ok3.1 (s_Planner_stepsBetween (gk_FD K)  em5) (by decide) rfl (Nat.le_of_ble_eq_true rfl) ?_
      exact gk_iret (pc := 25) K d_X_newly_25 rfl h
    · refine gk_iconst (pc := 14) K d_X_newly_14 kc_m1 ?_
      exact gk_iret (pc := 15) K d_X_newly_15 rfl h
theorem s_X_newly {l : Launch} {u : gk_U} (hD : gk_D tx u) {a1 : Int32} {a2 : Int32} {m0 mem2 : gk_M} {r : Int32} (h : f_X_newly a1 a2 m0 = some (r, mem2)) : gk_C tx l u me_X_newly 8 [.ref 0, .int a1, .int a2] m0 (some (.int r)) mem2 :=
  gk_enter hD mc_X_newly (Nat.le_of_ble_eq_true rfl) rfl (fun z _ _ K => s_X_newly_0 K _ _ _  h)
theorem d_Game_pointOf_0 : decode me_Game_pointOf.2.1 0 = .ok (.aload_n 0, 1) := by decide +kernel
theorem d_Game_pointOf_1 : decode me_Game_pointOf.2.1 1 = .ok (.getfield 19, 3) := by decide +kernel
theorem d_Game_pointOf_4 : decode me_Game_pointOf.2.1 4 = .ok (.bipush 30, 2) := by decide +kernel
theorem d_Game_pointOf_6 : decode me_Game_pointOf.2.1 6 = .ok (.iload_n 1, 1) := by decide +kernel
theorem d_Game_pointOf_7 : decode me_Game_pointOf.2.1 7 = .ok (.aload_n 0, 1) := by decide +kernel
theorem d_Game_pointOf_8 : decode me_Game_pointOf.2.1 8 = .ok (.getfield 23, 3) := by decide +kernel
theorem d_Game_pointOf_11 : decode me_Game_pointOf.2.1 11 = .ok (.idiv, 1) := by decide +kernel
theorem d_Game_pointOf_12 : decode me_Game_pointOf.2.1 12 = .ok (.imul, 1) := by decide +kernel
theorem d_Game_pointOf_13 : decode me_Game_pointOf.2.1 13 = .ok (.iadd, 1) := by decide +kernel
theorem d_Game_pointOf_14 : decode me_Game_pointOf.2.1 14 = .ok (.iload_n 1, 1) := by decide +kernel
theorem d_Game_pointOf_15 : decode me_Game_pointOf.2.1 15 = .ok (.aload_n 0, 1) := by decide +kernel
theorem d_Game_pointOf_16 : decode me_Game_pointOf.2.1 16 = .ok (.getfield 23, 3) := by decide +kernel
theorem d_Game_pointOf_19 : decode me_Game_pointOf.2.1 19 = .ok (.irem, 1) := by decide +kernel
theorem d_Game_pointOf_20 : decode me_Game_pointOf.2.1 20 = .ok (.iadd, 1) := by decide +kernel
theorem d_Game_pointOf_21 : decode me_Game_pointOf.2.1 21 = .ok (.ireturn, 1) := by decide +kernel
noncomputable def f_Game_pointOf  (a1 : Int32) (m0 : gk_M) : Option (Int32 × gk_M) :=
  gk_di a1 (m0.1 25 4) fun v1 =>
  gk_re a1 (m0.1 25 4) fun v2 =>
  some ((((m0.1 25 3) + (30 * v1)) + v2), m0)

theorem s_Game_pointOf_0 {z : gk_Z} (K : gk_F tx z me_Game_pointOf 1) {r : Int32} {mem2 : gk_M} : ∀ a1 m0, f_Game_pointOf a1 m0 = some (r, mem2) → gk_G tx z me_Game_pointOf (gk_R tx z (some (.int r)) mem2) m0 [(0, .ref 25), (1, .int a1)] [] 0 := by
  intro a1 m0  h
  unfold f_Game_pointOf at h
  refine gk_aload_n (pc := 0) K d_Game_pointOf_0 rfl ?_
  refine gk_get (pc := 1) K d_Game_pointOf_1 fl_Game_19 tx_25 rfl rfl ?_
  refine gk_bipush (pc := 4) K d_Game_pointOf_4 kb_30 ?_
  refine gk_iload_n (pc := 6) K d_Game_pointOf_6 rfl ?_
  refine gk_aload_n (pc := 7) K d_Game_pointOf_7 rfl ?_
  refine gk_get (pc := 8) K d_Game_pointOf_8 fl_Game_23 tx_25 rfl rfl ?_
  refine gk_idiv (pc := 11) K d_Game_pointOf_11 h (fun v1 h => ?_)
  refine gk_imul (pc := 12) K d_Game_pointOf_12 ?_
  refine gk_iadd (pc := 13) K d_Game_pointOf_13 ?_
  refine gk_iload_n (pc := 14) K d_Game_pointOf_14 rfl ?_
  refine gk_aload_n (pc := 15) K d_Game_pointOf_15 rfl ?_
  refine gk_get (pc := 16) K d_Game_pointOf_16 fl_Game_23 tx_25 rfl rfl ?_
  refine gk_irem (pc := 19) K d_Game_pointOf_19 h (fun v2 h => ?_)
  refine gk_iadd (pc := 20) K d_Game_pointOf_20 ?_
  exact gk_iret (pc := 21) K d_Game_pointOf_21 rfl h
theorem s_Game_pointOf {l : Launch} {u : gk_U} (hD : gk_D tx u) {a1 : Int32} {m0 mem2 : gk_M} {r : Int32} (h : f_Game_pointOf a1 m0 = some (r, mem2)) : gk_C tx l u me_Game_pointOf 1 [.ref 25, .int a1] m0 (some (.int r)) mem2 :=
  gk_enter hD mc_Game_pointOf (Nat.le_of_ble_eq_true rfl) rfl (fun z _ _ K => s_Game_pointOf_0 K _ _  h)
theorem d_Game_layOut_0 : decode me_Game_layOut.2.1 0 = .ok (.aload_n 0, 1) := by decide +kernel
theorem d_Game_layOut_1 : decode me_Game_layOut.2.1 1 = .ok (.iload_n 1, 1) := by decide +kernel
theorem d_Game_layOut_2 : decode me_Game_layOut.2.1 2 = .ok (.putfield 19, 3) := by decide +kernel
theorem d_Game_layOut_5 : decode me_Game_layOut.2.1 5 = .ok (.aload_n 0, 1) := by decide +kernel
theorem d_Game_layOut_6 : decode me_Game_layOut.2.1 6 = .ok (.iconst 1, 1) := by decide +kernel
theorem d_Game_layOut_7 : decode me_Game_layOut.2.1 7 = .ok (.iload_n 2, 1) := by decide +kernel
theorem d_Game_layOut_8 : decode me_Game_layOut.2.1 8 = .ok (.iconst 3, 1) := by decide +kernel
theorem d_Game_layOut_9 : decode me_Game_layOut.2.1 9 = .ok (.invokestatic 33, 3) := by decide +kernel
theorem d_Game_layOut_12 : decode me_Game_layOut.2.1 12 = .ok (.invokestatic 39, 3) := by decide +kernel
theorem d_Game_layOut_15 : decode me_Game_layOut.2.1 15 = .ok (.putfield 23, 3) := by decide +kernel
theorem d_Game_layOut_18 : decode me_Game_layOut.2.1 18 = .ok (.aload_n 0, 1) := by decide +kernel
theorem d_Game_layOut_19 : decode me_Game_layOut.2.1 19 = .ok (.getfield 29, 3) := by decide +kernel
theorem d_Game_layOut_22 : decode me_Game_layOut.2.1 22 = .ok (.bipush 10, 2) := by decide +kernel
theorem d_Game_layOut_24 : decode me_Game_layOut.2.1 24 = .ok (.iload_n 3, 1) := by decide +kernel
theorem d_Game_layOut_25 : decode me_Game_layOut.2.1 25 = .ok (.invokevirtual 42, 3) := by decide +kernel
theorem d_Game_layOut_28 : decode me_Game_layOut.2.1 28 = .ok (.aload_n 0, 1) := by decide +kernel
theorem d_Game_layOut_29 : decode me_Game_layOut.2.1 29 = .ok (.getfield 29, 3) := by decide +kernel
theorem d_Game_layOut_32 : decode me_Game_layOut.2.1 32 = .ok (.bipush 11, 2) := by decide +kernel
theorem d_Game_layOut_34 : decode me_Game_layOut.2.1 34 = .ok (.iload_n 3, 1) := by decide +kernel
theorem d_Game_layOut_35 : decode me_Game_layOut.2.1 35 = .ok (.invokevirtual 42, 3) := by decide +kernel
theorem d_Game_layOut_38 : decode me_Game_layOut.2.1 38 = .ok (.aload_n 0, 1) := by decide +kernel
theorem d_Game_layOut_39 : decode me_Game_layOut.2.1 39 = .ok (.iconst 0, 1) := by decide +kernel
theorem d_Game_layOut_40 : decode me_Game_layOut.2.1 40 = .ok (.putfield 26, 3) := by decide +kernel
theorem d_Game_layOut_43 : decode me_Game_layOut.2.1 43 = .ok (.iconst 0, 1) := by decide +kernel
theorem d_Game_layOut_44 : decode me_Game_layOut.2.1 44 = .ok (.istore 4, 2) := by decide +kernel
theorem d_Game_layOut_46 : decode me_Game_layOut.2.1 46 = .ok (.iload 4, 2) := by decide +kernel
theorem d_Game_layOut_48 : decode me_Game_layOut.2.1 48 = .ok (.aload_n 0, 1) := by decide +kernel
theorem d_Game_layOut_49 : decode me_Game_layOut.2.1 49 = .ok (.getfield 23, 3) := by decide +kernel
theorem d_Game_layOut_52 : decode me_Game_layOut.2.1 52 = .ok (.aload_n 0, 1) := by decide +kernel
theorem d_Game_layOut_53 : decode me_Game_layOut.2.1 53 = .ok (.getfield 23, 3) := by decide +kernel
theorem d_Game_layOut_56 : decode me_Game_layOut.2.1 56 = .ok (.imul, 1) := by decide +kernel
theorem d_Game_layOut_57 : decode me_Game_layOut.2.1 57 = .ok (.if_icmp .ge 40, 3) := by decide +kernel
theorem d_Game_layOut_60 : decode me_Game_layOut.2.1 60 = .ok (.aload_n 0, 1) := by decide +kernel
theorem d_Game_layOut_61 : decode me_Game_layOut.2.1 61 = .ok (.getfield 29, 3) := by decide +kernel
theorem d_Game_layOut_64 : decode me_Game_layOut.2.1 64 = .ok (.bipush 10, 2) := by decide +kernel
theorem d_Game_layOut_66 : decode me_Game_layOut.2.1 66 = .ok (.aload_n 0, 1) := by decide +kernel
theorem d_Game_layOut_67 : decode me_Game_layOut.2.1 67 = .ok (.iload 4, 2) := by decide +kernel
theorem d_Game_layOut_69 : decode me_Game_layOut.2.1 69 = .ok (.invokevirtual 48, 3) := by decide +kernel
theorem d_Game_layOut_72 : decode me_Game_layOut.2.1 72 = .ok (.invokevirtual 52, 3) := by decide +kernel
theorem d_Game_layOut_75 : decode me_Game_layOut.2.1 75 = .ok (.ifCond .eq 16, 3) := by decide +kernel
theorem d_Game_layOut_78 : decode me_Game_layOut.2.1 78 = .ok (.aload_n 0, 1) := by decide +kernel
theorem d_Game_layOut_79 : decode me_Game_layOut.2.1 79 = .ok (.dup, 1) := by decide +kernel
theorem d_Game_layOut_80 : decode me_Game_layOut.2.1 80 = .ok (.getfield 26, 3) := by decide +kernel
theorem d_Game_layOut_83 : decode me_Game_layOut.2.1 83 = .ok (.iconst 1, 1) := by decide +kernel
theorem d_Game_layOut_84 : decode me_Game_layOut.2.1 84 = .ok (.iload 4, 2) := by decide +kernel
theorem d_Game_layOut_86 : decode me_Game_layOut.2.1 86 = .ok (.ishl, 1) := by decide +kernel
theorem d_Game_layOut_87 : decode me_Game_layOut.2.1 87 = .ok (.ior, 1) := by decide +kernel
theorem d_Game_layOut_88 : decode me_Game_layOut.2.1 88 = .ok (.putfield 26, 3) := by decide +kernel
theorem d_Game_layOut_91 : decode me_Game_layOut.2.1 91 = .ok (.iinc 4 1, 3) := by decide +kernel
theorem d_Game_layOut_94 : decode me_Game_layOut.2.1 94 = .ok (.goto (-48), 3) := by decide +kernel
theorem d_Game_layOut_97 : decode me_Game_layOut.2.1 97 = .ok (.return_, 1) := by decide +kernel
noncomputable def f_Game_layOut_46  : Nat → Int32 → gk_M → Option (Unit × gk_M)
  | 0, _, _ => none
  | n + 1, a4, m0 =>
    if ((m0.1 25 4) * (m0.1 25 4)) ≤ a4 then
      some ((), m0)
    else
      gk_bi (f_Game_pointOf a4 m0) fun v2 m1 =>
      gk_bi (f_Plain_isFreeFor 10 v2 m1) fun v4 m3 =>
      if v4 = 0 then
        f_Game_layOut_46 n (a4 + 1) m3
      else
        gk_let (gk_mi m3 25 5 ((m3.1 25 5) ||| (1 <<< (a4 &&& 31)))) fun m5 =>
        f_Game_layOut_46 n (a4 + 1) m5

theorem s_Game_layOut_46 {z : gk_Z} (K : gk_F tx z me_Game_layOut 7) {r : Unit} {mem2 : gk_M} : ∀ n a4 m0, f_Game_layOut_46 n a4 m0 = some (r, mem2) → gk_G tx z me_Game_layOut (gk_R tx z none mem2) m0 [(0, .ref 25), (4, .int a4)] [] 46 := by
  intro n
  induction n with
  | zero => intro a4 m0  h; exact nomatch (show (none : Option _) = some _ from h)
  | succ n ih =>
    intro a4 m0  h
    unfold f_Game_layOut_46 at h
    refine gk_iload (pc := 46) K d_Game_layOut_46 rfl ?_
    refine gk_aload_n (pc := 48) K d_Game_layOut_48 rfl ?_
    refine gk_get (pc := 49) K d_Game_layOut_49 fl_Game_23 tx_25 rfl rfl ?_
    refine gk_aload_n (pc := 52) K d_Game_layOut_52 rfl ?_
    refine gk_get (pc := 53) K d_Game_layOut_53 fl_Game_23 tx_25 rfl rfl ?_
    refine gk_imul (pc := 56) K d_Game_layOut_56 ?_
    refine gk_ic_ge (tgt := 97) (pc := 57) K d_Game_layOut_57 (by decide) h (fun h => ?_) (fun h => ?_)
    · exact gk_vret (pc := 97) K d_Game_layOut_97 rfl h
    · refine gk_aload_n (pc := 60) K d_Game_layOut_60 rfl ?_
      refine gk_get (pc := 61) K d_Game_layOut_61 fl_Game_29 tx_25 rfl rfl ?_
      refine gk_bipush (pc := 64) K d_Game_layOut_64 kb_10 ?_
      refine gk_aload_n (pc := 66) K d_Game_layOut_66 rfl ?_
      refine gk_iload (pc := 67) K d_Game_layOut_67 rfl ?_
      obtain ⟨v2, m1, em1, h⟩ := gk_bi_some h
      refine gk_cVi (As := [.int a4]) (pc := 69) K d_Game_layOut_69 mv_Game_48 mc_Game_pointOf rfl tx_25 cl_ok4.1 (s_Game_pointOf (gk_FD K)  em1) (by decide) rfl (Nat.le_of_ble_eq_true rfl) ?_
      obtain ⟨v4, m3, em3, h⟩ := gk_bi_some h
      refine gk_cVi (As := [.int 10, .int v2]) (pc := 72) K d_Game_layOut_72 mv_Game_52 mc_Plain_isFreeFor rfl tx_7 cl_ok2.1 (s_Plain_isFreeFor (gk_FD K)  em3) (by decide) rfl (Nat.le_of_ble_eq_true rfl) ?_
      refine gk_if_eq (tgt := 91) (pc := 75) K d_Game_layOut_75 (by decide) h (fun h => ?_) (fun h => ?_)
      · refine gk_iinc2 (lv2 := [(4, .int (a4 + 1)), (0, .ref 25)]) (pc := 91) K d_Game_layOut_91 rfl kc_1 (by decide) rfl ?_
        refine gk_goto (tgt := 46) (pc := 94) K d_Game_layOut_94 (by decide) ?_
        exact gk_sub [1, 0] rfl (ih _ _  h)
      · refine gk_aload_n (pc := 78) K d_Game_layOut_78 rfl ?_
        refine gk_dup (pc := 79) K d_Game_layOut_79 rfl ?_
        refine gk_get (pc := 80) K d_Game_layOut_80 fl_Game_26 tx_25 rfl rfl ?_
        refine gk_iconst (pc := 83) K d_Game_layOut_83 kc_1 ?_
        refine gk_iload (pc := 84) K d_Game_layOut_84 rfl ?_
        refine gk_ishl (pc := 86) K d_Game_layOut_86 ?_
        refine gk_ior (pc := 87) K d_Game_layOut_87 ?_
        refine gk_puti (pc := 88) K d_Game_layOut_88 fp_Game_26 tx_25 rfl h (fun m5 h => ?_)
        refine gk_iinc2 (lv2 := [(4, .int (a4 + 1)), (0, .ref 25)]) (pc := 91) K d_Game_layOut_91 rfl kc_1 (by decide) rfl ?_
        refine gk_goto (tgt := 46) (pc := 94) K d_Game_layOut_94 (by decide) ?_
        exact gk_sub [1, 0] rfl (ih _ _  h)
noncomputable def f_Game_layOut  (a1 : Int32) (a2 : Int32) (a3 : Int32) (m0 : gk_M) : Option (Unit × gk_M) :=
  gk_let (gk_mi m0 25 3 a1) fun m1 =>
  gk_let (gk_mi m1 25 4 (gk_max 1 (gk_min a2 3))) fun m2 =>
  gk_bv (f_Plain_think 10 a3 m2) fun m3 =>
  gk_bv (f_Plain_think 11 a3 m3) fun m4 =>
  gk_let (gk_mi m4 25 5 0) fun m5 =>
  f_Game_layOut_46 gk_fv 0 m5

theorem s_Game_layOut_0 {z : gk_Z} (K : gk_F tx z me_Game_layOut 7) {r : Unit} {mem2 : gk_M} : ∀ a1 a2 a3 m0, f_Game_layOut a1 a2 a3 m0 = some (r, mem2) → gk_G tx z me_Game_layOut (gk_R tx z none mem2) m0 [(0, .ref 25), (1, .int a1), (2, .int a2), (3, .int a3)] [] 0 := by
  intro a1 a2 a3 m0  h
  unfold f_Game_layOut at h
  refine gk_aload_n (pc := 0) K d_Game_layOut_0 rfl ?_
  refine gk_iload_n (pc := 1) K d_Game_layOut_1 rfl ?_
  refine gk_puti (pc := 2) K d_Game_layOut_2 fp_Game_19 tx_25 rfl h (fun m1 h => ?_)
  refine gk_aload_n (pc := 5) K d_Game_layOut_5 rfl ?_
  refine gk_iconst (pc := 6) K d_Game_layOut_6 kc_1 ?_
  refine gk_iload_n (pc := 7) K d_Game_layOut_7 rfl ?_
  refine gk_iconst (pc := 8) K d_Game_layOut_8 kc_3 ?_
  refine gk_mmin (pc := 9) K d_Game_layOut_9 ms_Game_33 (by decide) (Nat.le_of_ble_eq_true rfl) ?_
  refine gk_mmax (pc := 12) K d_Game_layOut_12 ms_Game_39 (by decide) (Nat.le_of_ble_eq_true rfl) ?_
  refine gk_puti (pc := 15) K d_Game_layOut_15 fp_Game_23 tx_25 rfl h (fun m2 h => ?_)
  refine gk_aload_n (pc := 18) K d_Game_layOut_18 rfl ?_
  refine gk_get (pc := 19) K d_Game_layOut_19 fl_Game_29 tx_25 rfl rfl ?_
  refine gk_bipush (pc := 22) K d_Game_layOut_22 kb_10 ?_
  refine gk_iload_n (pc := 24) K d_Game_layOut_24 rfl ?_
  obtain ⟨m3, em3, h⟩ := gk_bv_some h
  refine gk_cVv (As := [.int 10, .int a3]) (pc := 25) K d_Game_layOut_25 mv_Game_42 mc_Plain_think rfl tx_7 cl_ok2.1 (s_Plain_think (gk_FD K)  em3) (by decide) rfl (Nat.le_of_ble_eq_true rfl) ?_
  refine gk_aload_n (pc := 28) K d_Game_layOut_28 rfl ?_
  refine gk_get (pc := 29) K d_Game_layOut_29 fl_Game_29 tx_25 rfl rfl ?_
  refine gk_bipush (pc := 32) K d_Game_layOut_32 kb_11 ?_
  refine gk_iload_n (pc := 34) K d_Game_layOut_34 rfl ?_
  obtain ⟨m4, em4, h⟩ := gk_bv_some h
  refine gk_cVv (As := [.int 11, .int a3]) (pc := 35) K d_Game_layOut_35 mv_Game_42 mc_Plain_think rfl tx_7 cl_ok2.1 (s_Plain_think (gk_FD K)  em4) (by decide) rfl (Nat.le_of_ble_eq_true rfl) ?_
  refine gk_aload_n (pc := 38) K d_Game_layOut_38 rfl ?_
  refine gk_iconst (pc := 39) K d_Game_layOut_39 kc_0 ?_
  refine gk_puti (pc := 40) K d_Game_layOut_40 fp_Game_26 tx_25 rfl h (fun m5 h => ?_)
  refine gk_iconst (pc := 43) K d_Game_layOut_43 kc_0 ?_
  refine gk_istore (lv2 := [(4, .int 0), (0, .ref 25), (1, .int a1), (2, .int a2), (3, .int a3)]) (pc := 44) K d_Game_layOut_44 (by decide) rfl ?_
  exact gk_sub [1, 0] rfl (s_Game_layOut_46 K _ _ _  h)
theorem s_Game_layOut {l : Launch} {u : gk_U} (hD : gk_D tx u) {a1 : Int32} {a2 : Int32} {a3 : Int32} {m0 mem2 : gk_M} {r : Unit} (h : f_Game_layOut a1 a2 a3 m0 = some (r, mem2)) : gk_C tx l u me_Game_layOut 7 [.ref 25, .int a1, .int a2, .int a3] m0 none mem2 :=
  gk_enter hD mc_Game_layOut (Nat.le_of_ble_eq_true rfl) rfl (fun z _ _ K => s_Game_layOut_0 K _ _ _ _  h)
theorem d_Game_findClashes_0 : decode me_Game_findClashes.2.1 0 = .ok (.iconst 0, 1) := by decide +kernel
theorem d_Game_findClashes_1 : decode me_Game_findClashes.2.1 1 = .ok (.istore_n 1, 1) := by decide +kernel
theorem d_Game_findClashes_2 : decode me_Game_findClashes.2.1 2 = .ok (.iload_n 1, 1) := by decide +kernel
theorem d_Game_findClashes_3 : decode me_Game_findClashes.2.1 3 = .ok (.aload_n 0, 1) := by decide +kernel
theorem d_Game_findClashes_4 : decode me_Game_findClashes.2.1 4 = .ok (.getfield 23, 3) := by decide +kernel
theorem d_Game_findClashes_7 : decode me_Game_findClashes.2.1 7 = .ok (.aload_n 0, 1) := by decide +kernel
theorem d_Game_findClashes_8 : decode me_Game_findClashes.2.1 8 = .ok (.getfield 23, 3) := by decide +kernel
theorem d_Game_findClashes_11 : decode me_Game_findClashes.2.1 11 = .ok (.imul, 1) := by decide +kernel
theorem d_Game_findClashes_12 : decode me_Game_findClashes.2.1 12 = .ok (.if_icmp .ge 97, 3) := by decide +kernel
theorem d_Game_findClashes_15 : decode me_Game_findClashes.2.1 15 = .ok (.aload_n 0, 1) := by decide +kernel
theorem d_Game_findClashes_16 : decode me_Game_findClashes.2.1 16 = .ok (.getfield 11, 3) := by decide +kernel
theorem d_Game_findClashes_19 : decode me_Game_findClashes.2.1 19 = .ok (.iload_n 1, 1) := by decide +kernel
theorem d_Game_findClashes_20 : decode me_Game_findClashes.2.1 20 = .ok (.iconst 1, 1) := by decide +kernel
theorem d_Game_findClashes_21 : decode me_Game_findClashes.2.1 21 = .ok (.iload_n 1, 1) := by decide +kernel
theorem d_Game_findClashes_22 : decode me_Game_findClashes.2.1 22 = .ok (.ishl, 1) := by decide +kernel
theorem d_Game_findClashes_23 : decode me_Game_findClashes.2.1 23 = .ok (.iastore, 1) := by decide +kernel
theorem d_Game_findClashes_24 : decode me_Game_findClashes.2.1 24 = .ok (.aload_n 0, 1) := by decide +kernel
theorem d_Game_findClashes_25 : decode me_Game_findClashes.2.1 25 = .ok (.getfield 29, 3) := by decide +kernel
theorem d_Game_findClashes_28 : decode me_Game_findClashes.2.1 28 = .ok (.bipush 10, 2) := by decide +kernel
theorem d_Game_findClashes_30 : decode me_Game_findClashes.2.1 30 = .ok (.aload_n 0, 1) := by decide +kernel
theorem d_Game_findClashes_31 : decode me_Game_findClashes.2.1 31 = .ok (.iload_n 1, 1) := by decide +kernel
theorem d_Game_findClashes_32 : decode me_Game_findClashes.2.1 32 = .ok (.invokevirtual 48, 3) := by decide +kernel
theorem d_Game_findClashes_35 : decode me_Game_findClashes.2.1 35 = .ok (.invokevirtual 56, 3) := by decide +kernel
theorem d_Game_findClashes_38 : decode me_Game_findClashes.2.1 38 = .ok (.iconst 0, 1) := by decide +kernel
theorem d_Game_findClashes_39 : decode me_Game_findClashes.2.1 39 = .ok (.istore_n 2, 1) := by decide +kernel
theorem d_Game_findClashes_40 : decode me_Game_findClashes.2.1 40 = .ok (.iload_n 2, 1) := by decide +kernel
theorem d_Game_findClashes_41 : decode me_Game_findClashes.2.1 41 = .ok (.iload_n 1, 1) := by decide +kernel
theorem d_Game_findClashes_42 : decode me_Game_findClashes.2.1 42 = .ok (.if_icmp .ge 61, 3) := by decide +kernel
theorem d_Game_findClashes_45 : decode me_Game_findClashes.2.1 45 = .ok (.aload_n 0, 1) := by decide +kernel
theorem d_Game_findClashes_46 : decode me_Game_findClashes.2.1 46 = .ok (.getfield 29, 3) := by decide +kernel
theorem d_Game_findClashes_49 : decode me_Game_findClashes.2.1 49 = .ok (.bipush 11, 2) := by decide +kernel
theorem d_Game_findClashes_51 : decode me_Game_findClashes.2.1 51 = .ok (.aload_n 0, 1) := by decide +kernel
theorem d_Game_findClashes_52 : decode me_Game_findClashes.2.1 52 = .ok (.iload_n 2, 1) := by decide +kernel
theorem d_Game_findClashes_53 : decode me_Game_findClashes.2.1 53 = .ok (.invokevirtual 48, 3) := by decide +kernel
theorem d_Game_findClashes_56 : decode me_Game_findClashes.2.1 56 = .ok (.invokevirtual 56, 3) := by decide +kernel
theorem d_Game_findClashes_59 : decode me_Game_findClashes.2.1 59 = .ok (.aload_n 0, 1) := by decide +kernel
theorem d_Game_findClashes_60 : decode me_Game_findClashes.2.1 60 = .ok (.getfield 29, 3) := by decide +kernel
theorem d_Game_findClashes_63 : decode me_Game_findClashes.2.1 63 = .ok (.bipush 10, 2) := by decide +kernel
theorem d_Game_findClashes_65 : decode me_Game_findClashes.2.1 65 = .ok (.bipush 11, 2) := by decide +kernel
theorem d_Game_findClashes_67 : decode me_Game_findClashes.2.1 67 = .ok (.invokevirtual 59, 3) := by decide +kernel
theorem d_Game_findClashes_70 : decode me_Game_findClashes.2.1 70 = .ok (.ifCond .le 27, 3) := by decide +kernel
theorem d_Game_findClashes_73 : decode me_Game_findClashes.2.1 73 = .ok (.aload_n 0, 1) := by decide +kernel
theorem d_Game_findClashes_74 : decode me_Game_findClashes.2.1 74 = .ok (.getfield 11, 3) := by decide +kernel
theorem d_Game_findClashes_77 : decode me_Game_findClashes.2.1 77 = .ok (.iload_n 1, 1) := by decide +kernel
theorem d_Game_findClashes_78 : decode me_Game_findClashes.2.1 78 = .ok (.dup2, 1) := by decide +kernel
theorem d_Game_findClashes_79 : decode me_Game_findClashes.2.1 79 = .ok (.iaload, 1) := by decide +kernel
theorem d_Game_findClashes_80 : decode me_Game_findClashes.2.1 80 = .ok (.iconst 1, 1) := by decide +kernel
theorem d_Game_findClashes_81 : decode me_Game_findClashes.2.1 81 = .ok (.iload_n 2, 1) := by decide +kernel
theorem d_Game_findClashes_82 : decode me_Game_findClashes.2.1 82 = .ok (.ishl, 1) := by decide +kernel
theorem d_Game_findClashes_83 : decode me_Game_findClashes.2.1 83 = .ok (.ior, 1) := by decide +kernel
theorem d_Game_findClashes_84 : decode me_Game_findClashes.2.1 84 = .ok (.iastore, 1) := by decide +kernel
theorem d_Game_findClashes_85 : decode me_Game_findClashes.2.1 85 = .ok (.aload_n 0, 1) := by decide +kernel
theorem d_Game_findClashes_86 : decode me_Game_findClashes.2.1 86 = .ok (.getfield 11, 3) := by decide +kernel
theorem d_Game_findClashes_89 : decode me_Game_findClashes.2.1 89 = .ok (.iload_n 2, 1) := by decide +kernel
theorem d_Game_findClashes_90 : decode me_Game_findClashes.2.1 90 = .ok (.dup2, 1) := by decide +kernel
theorem d_Game_findClashes_91 : decode me_Game_findClashes.2.1 91 = .ok (.iaload, 1) := by decide +kernel
theorem d_Game_findClashes_92 : decode me_Game_findClashes.2.1 92 = .ok (.iconst 1, 1) := by decide +kernel
theorem d_Game_findClashes_93 : decode me_Game_findClashes.2.1 93 = .ok (.iload_n 1, 1) := by decide +kernel
theorem d_Game_findClashes_94 : decode me_Game_findClashes.2.1 94 = .ok (.ishl, 1) := by decide +kernel
theorem d_Game_findClashes_95 : decode me_Game_findClashes.2.1 95 = .ok (.ior, 1) := by decide +kernel
theorem d_Game_findClashes_96 : decode me_Game_findClashes.2.1 96 = .ok (.iastore, 1) := by decide +kernel
theorem d_Game_findClashes_97 : decode me_Game_findClashes.2.1 97 = .ok (.iinc 2 1, 3) := by decide +kernel
theorem d_Game_findClashes_100 : decode me_Game_findClashes.2.1 100 = .ok (.goto (-60), 3) := by decide +kernel
theorem d_Game_findClashes_103 : decode me_Game_findClashes.2.1 103 = .ok (.iinc 1 1, 3) := by decide +kernel
theorem d_Game_findClashes_106 : decode me_Game_findClashes.2.1 106 = .ok (.goto (-104), 3) := by decide +kernel
theorem d_Game_findClashes_109 : decode me_Game_findClashes.2.1 109 = .ok (.return_, 1) := by decide +kernel
noncomputable def f_Game_findClashes_40 (k2 : Int32 → gk_M → Option (Unit × gk_M)) : Nat → Int32 → Int32 → gk_M → Option (Unit × gk_M)
  | 0, _, _, _ => none
  | n + 1, a1, a2, m0 =>
    if a1 ≤ a2 then
      k2 (a1 + 1) m0
    else
      gk_bi (f_Game_pointOf a2 m0) fun v2 m1 =>
      gk_bv (f_Plain_place 11 v2 m1) fun m3 =>
      gk_bi (f_Plain_guiltsOfPair 10 11 m3) fun v5 m4 =>
      if v5 ≤ 0 then
        f_Game_findClashes_40 k2 n a1 (a2 + 1) m4
      else
        gk_ai m4 26 9 a1 fun v6 =>
        gk_si m4 26 9 a1 (v6 ||| (1 <<< (a2 &&& 31))) fun m7 =>
        gk_ai m7 26 9 a2 fun v8 =>
        gk_si m7 26 9 a2 (v8 ||| (1 <<< (a1 &&& 31))) fun m9 =>
        f_Game_findClashes_40 k2 n a1 (a2 + 1) m9

theorem s_Game_findClashes_40 {z : gk_Z} (K : gk_F tx z me_Game_findClashes 7) {r : Unit} {mem2 : gk_M} {k2 : Int32 → gk_M → Option (Unit × gk_M)} (hk2 : ∀ a1 m0, k2 a1 m0 = some (r, mem2) → gk_G tx z me_Game_findClashes (gk_R tx z none mem2) m0 [(0, .ref 25), (1, .int a1)] [] 2) : ∀ n a1 a2 m0, f_Game_findClashes_40 k2 n a1 a2 m0 = some (r, mem2) → gk_G tx z me_Game_findClashes (gk_R tx z none mem2) m0 [(0, .ref 25), (1, .int a1), (2, .int a2)] [] 40 := by
  intro n
  induction n with
  | zero => intro a1 a2 m0  h; exact nomatch (show (none : Option _) = some _ from h)
  | succ n ih =>
    intro a1 a2 m0  h
    unfold f_Game_findClashes_40 at h
    refine gk_iload_n (pc := 40) K d_Game_findClashes_40 rfl ?_
    refine gk_iload_n (pc := 41) K d_Game_findClashes_41 rfl ?_
    refine gk_ic_ge (tgt := 103) (pc := 42) K d_Game_findClashes_42 (by decide) h (fun h => ?_) (fun h => ?_)
    · refine gk_iinc2 (lv2 := [(1, .int (a1 + 1)), (0, .ref 25), (2, .int a2)]) (pc := 103) K d_Game_findClashes_103 rfl kc_1 (by decide) rfl ?_
      refine gk_goto (tgt := 2) (pc := 106) K d_Game_findClashes_106 (by decide) ?_
      exact gk_sub [1, 0] rfl (hk2 _ _  h)
    · refine gk_aload_n (pc := 45) K d_Game_findClashes_45 rfl ?_
      refine gk_get (pc := 46) K d_Game_findClashes_46 fl_Game_29 tx_25 rfl rfl ?_
      refine gk_bipush (pc := 49) K d_Game_findClashes_49 kb_11 ?_
      refine gk_aload_n (pc := 51) K d_Game_findClashes_51 rfl ?_
      refine gk_iload_n (pc := 52) K d_Game_findClashes_52 rfl ?_
      obtain ⟨v2, m1, em1, h⟩ := gk_bi_some h
      refine gk_cVi (As := [.int a2]) (pc := 53) K d_Game_findClashes_53 mv_Game_48 mc_Game_pointOf rfl tx_25 cl_ok4.1 (s_Game_pointOf (gk_FD K)  em1) (by decide) rfl (Nat.le_of_ble_eq_true rfl) ?_
      obtain ⟨m3, em3, h⟩ := gk_bv_some h
      refine gk_cVv (As := [.int 11, .int v2]) (pc := 56) K d_Game_findClashes_56 mv_Game_56 mc_Plain_place rfl tx_7 cl_ok2.1 (s_Plain_place (gk_FD K)  em3) (by decide) rfl (Nat.le_of_ble_eq_true rfl) ?_
      refine gk_aload_n (pc := 59) K d_Game_findClashes_59 rfl ?_
      refine gk_get (pc := 60) K d_Game_findClashes_60 fl_Game_29 tx_25 rfl rfl ?_
      refine gk_bipush (pc := 63) K d_Game_findClashes_63 kb_10 ?_
      refine gk_bipush (pc := 65) K d_Game_findClashes_65 kb_11 ?_
      obtain ⟨v5, m4, em4, h⟩ := gk_bi_some h
      refine gk_cVi (As := [.int 10, .int 11]) (pc := 67) K d_Game_findClashes_67 mv_Game_59 mc_Plain_guiltsOfPair rfl tx_7 cl_ok2.1 (s_Plain_guiltsOfPair (gk_FD K)  em4) (by decide) rfl (Nat.le_of_ble_eq_true rfl) ?_
      refine gk_if_le (tgt := 97) (pc := 70) K d_Game_findClashes_70 (by decide) h (fun h => ?_) (fun h => ?_)
      · refine gk_iinc2 (lv2 := [(2, .int (a2 + 1)), (0, .ref 25), (1, .int a1)]) (pc := 97) K d_Game_findClashes_97 rfl kc_1 (by decide) rfl ?_
        refine gk_goto (tgt := 40) (pc := 100) K d_Game_findClashes_100 (by decide) ?_
        exact gk_sub [1, 2, 0] rfl (ih _ _ _  h)
      · refine gk_aload_n (pc := 73) K d_Game_findClashes_73 rfl ?_
        refine gk_get (pc := 74) K d_Game_findClashes_74 fl_Game_11 tx_25 rfl rfl ?_
        refine gk_iload_n (pc := 77) K d_Game_findClashes_77 rfl ?_
        refine gk_dup2 (pc := 78) K d_Game_findClashes_78 rfl rfl ?_
        refine gk_iald (pc := 79) K d_Game_findClashes_79 tx_26 h (fun v6 h => ?_)
        refine gk_iconst (pc := 80) K d_Game_findClashes_80 kc_1 ?_
        refine gk_iload_n (pc := 81) K d_Game_findClashes_81 rfl ?_
        refine gk_ishl (pc := 82) K d_Game_findClashes_82 ?_
        refine gk_ior (pc := 83) K d_Game_findClashes_83 ?_
        refine gk_iast (pc := 84) K d_Game_findClashes_84 tx_26 h (fun m7 h => ?_)
        refine gk_aload_n (pc := 85) K d_Game_findClashes_85 rfl ?_
        refine gk_get (pc := 86) K d_Game_findClashes_86 fl_Game_11 tx_25 rfl rfl ?_
        refine gk_iload_n (pc := 89) K d_Game_findClashes_89 rfl ?_
        refine gk_dup2 (pc := 90) K d_Game_findClashes_90 rfl rfl ?_
        refine gk_iald (pc := 91) K d_Game_findClashes_91 tx_26 h (fun v8 h => ?_)
        refine gk_iconst (pc := 92) K d_Game_findClashes_92 kc_1 ?_
        refine gk_iload_n (pc := 93) K d_Game_findClashes_93 rfl ?_
        refine gk_ishl (pc := 94) K d_Game_findClashes_94 ?_
        refine gk_ior (pc := 95) K d_Game_findClashes_95 ?_
        refine gk_iast (pc := 96) K d_Game_findClashes_96 tx_26 h (fun m9 h => ?_)
        refine gk_iinc2 (lv2 := [(2, .int (a2 + 1)), (0, .ref 25), (1, .int a1)]) (pc := 97) K d_Game_findClashes_97 rfl kc_1 (by decide) rfl ?_
        refine gk_goto (tgt := 40) (pc := 100) K d_Game_findClashes_100 (by decide) ?_
        exact gk_sub [1, 2, 0] rfl (ih _ _ _  h)
noncomputable def f_Game_findClashes_2  : Nat → Int32 → gk_M → Option (Unit × gk_M)
  | 0, _, _ => none
  | n + 1, a1, m0 =>
    if ((m0.1 25 4) * (m0.1 25 4)) ≤ a1 then
      some ((), m0)
    else
      gk_si m0 26 9 a1 (1 <<< (a1 &&& 31)) fun m1 =>
      gk_bi (f_Game_pointOf a1 m1) fun v3 m2 =>
      gk_bv (f_Plain_place 10 v3 m2) fun m4 =>
      f_Game_findClashes_40 (f_Game_findClashes_2 n) gk_fv a1 0 m4

theorem s_Game_findClashes_2 {z : gk_Z} (K : gk_F tx z me_Game_findClashes 7) {r : Unit} {mem2 : gk_M} : ∀ n a1 m0, f_Game_findClashes_2 n a1 m0 = some (r, mem2) → gk_G tx z me_Game_findClashes (gk_R tx z none mem2) m0 [(0, .ref 25), (1, .int a1)] [] 2 := by
  intro n
  induction n with
  | zero => intro a1 m0  h; exact nomatch (show (none : Option _) = some _ from h)
  | succ n ih =>
    intro a1 m0  h
    unfold f_Game_findClashes_2 at h
    refine gk_iload_n (pc := 2) K d_Game_findClashes_2 rfl ?_
    refine gk_aload_n (pc := 3) K d_Game_findClashes_3 rfl ?_
    refine gk_get (pc := 4) K d_Game_findClashes_4 fl_Game_23 tx_25 rfl rfl ?_
    refine gk_aload_n (pc := 7) K d_Game_findClashes_7 rfl ?_
    refine gk_get (pc := 8) K d_Game_findClashes_8 fl_Game_23 tx_25 rfl rfl ?_
    refine gk_imul (pc := 11) K d_Game_findClashes_11 ?_
    refine gk_ic_ge (tgt := 109) (pc := 12) K d_Game_findClashes_12 (by decide) h (fun h => ?_) (fun h => ?_)
    · exact gk_vret (pc := 109) K d_Game_findClashes_109 rfl h
    · refine gk_aload_n (pc := 15) K d_Game_findClashes_15 rfl ?_
      refine gk_get (pc := 16) K d_Game_findClashes_16 fl_Game_11 tx_25 rfl rfl ?_
      refine gk_iload_n (pc := 19) K d_Game_findClashes_19 rfl ?_
      refine gk_iconst (pc := 20) K d_Game_findClashes_20 kc_1 ?_
      refine gk_iload_n (pc := 21) K d_Game_findClashes_21 rfl ?_
      refine gk_ishl (pc := 22) K d_Game_findClashes_22 ?_
      refine gk_iast (pc := 23) K d_Game_findClashes_23 tx_26 h (fun m1 h => ?_)
      refine gk_aload_n (pc := 24) K d_Game_findClashes_24 rfl ?_
      refine gk_get (pc := 25) K d_Game_findClashes_25 fl_Game_29 tx_25 rfl rfl ?_
      refine gk_bipush (pc := 28) K d_Game_findClashes_28 kb_10 ?_
      refine gk_aload_n (pc := 30) K d_Game_findClashes_30 rfl ?_
      refine gk_iload_n (pc := 31) K d_Game_findClashes_31 rfl ?_
      obtain ⟨v3, m2, em2, h⟩ := gk_bi_some h
      refine gk_cVi (As := [.int a1]) (pc := 32) K d_Game_findClashes_32 mv_Game_48 mc_Game_pointOf rfl tx_25 cl_ok4.1 (s_Game_pointOf (gk_FD K)  em2) (by decide) rfl (Nat.le_of_ble_eq_true rfl) ?_
      obtain ⟨m4, em4, h⟩ := gk_bv_some h
      refine gk_cVv (As := [.int 10, .int v3]) (pc := 35) K d_Game_findClashes_35 mv_Game_56 mc_Plain_place rfl tx_7 cl_ok2.1 (s_Plain_place (gk_FD K)  em4) (by decide) rfl (Nat.le_of_ble_eq_true rfl) ?_
      refine gk_iconst (pc := 38) K d_Game_findClashes_38 kc_0 ?_
      refine gk_istore_n (lv2 := [(2, .int 0), (0, .ref 25), (1, .int a1)]) (pc := 39) K d_Game_findClashes_39 (by decide) rfl ?_
      exact gk_sub [1, 2, 0] rfl (s_Game_findClashes_40 K (fun x0 m  h => ih x0 m  h) _ _ _ _  h)
noncomputable def f_Game_findClashes   (m0 : gk_M) : Option (Unit × gk_M) :=
  f_Game_findClashes_2 gk_fv 0 m0

theorem s_Game_findClashes_0 {z : gk_Z} (K : gk_F tx z me_Game_findClashes 7) {r : Unit} {mem2 : gk_M} : ∀  m0, f_Game_findClashes  m0 = some (r, mem2) → gk_G tx z me_Game_findClashes (gk_R tx z none mem2) m0 [(0, .ref 25)] [] 0 := by
  intro  m0  h
  unfold f_Game_findClashes at h
  refine gk_iconst (pc := 0) K d_Game_findClashes_0 kc_0 ?_
  refine gk_istore_n (lv2 := [(1, .int 0), (0, .ref 25)]) (pc := 1) K d_Game_findClashes_1 (by decide) rfl ?_
  exact gk_sub [1, 0] rfl (s_Game_findClashes_2 K _ _ _  h)
theorem s_Game_findClashes {l : Launch} {u : gk_U} (hD : gk_D tx u) {m0 mem2 : gk_M} {r : Unit} (h : f_Game_findClashes  m0 = some (r, mem2)) : gk_C tx l u me_Game_findClashes 7 [.ref 25] m0 none mem2 :=
  gk_enter hD mc_Game_findClashes (Nat.le_of_ble_eq_true rfl) rfl (fun z _ _ K => s_Game_findClashes_0 K  _  h)
theorem d_Game_winningCell_0 : decode me_Game_winningCell.2.1 0 = .ok (.aload_n 0, 1) := by decide +kernel
theorem d_Game_winningCell_1 : decode me_Game_winningCell.2.1 1 = .ok (.getfield 29, 3) := by decide +kernel
theorem d_Game_winningCell_4 : decode me_Game_winningCell.2.1 4 = .ok (.getfield 65, 3) := by decide +kernel
theorem d_Game_winningCell_7 : decode me_Game_winningCell.2.1 7 = .ok (.iload_n 1, 1) := by decide +kernel
theorem d_Game_winningCell_8 : decode me_Game_winningCell.2.1 8 = .ok (.invokestatic 68, 3) := by decide +kernel
theorem d_Game_winningCell_11 : decode me_Game_winningCell.2.1 11 = .ok (.iadd, 1) := by decide +kernel
theorem d_Game_winningCell_12 : decode me_Game_winningCell.2.1 12 = .ok (.bipush 10, 2) := by decide +kernel
theorem d_Game_winningCell_14 : decode me_Game_winningCell.2.1 14 = .ok (.if_icmp .lt 6, 3) := by decide +kernel
theorem d_Game_winningCell_17 : decode me_Game_winningCell.2.1 17 = .ok (.bipush (-2), 2) := by decide +kernel
theorem d_Game_winningCell_19 : decode me_Game_winningCell.2.1 19 = .ok (.ireturn, 1) := by decide +kernel
theorem d_Game_winningCell_20 : decode me_Game_winningCell.2.1 20 = .ok (.iconst 0, 1) := by decide +kernel
theorem d_Game_winningCell_21 : decode me_Game_winningCell.2.1 21 = .ok (.istore_n 2, 1) := by decide +kernel
theorem d_Game_winningCell_22 : decode me_Game_winningCell.2.1 22 = .ok (.iload_n 2, 1) := by decide +kernel
theorem d_Game_winningCell_23 : decode me_Game_winningCell.2.1 23 = .ok (.aload_n 0, 1) := by decide +kernel
theorem d_Game_winningCell_24 : decode me_Game_winningCell.2.1 24 = .ok (.getfield 23, 3) := by decide +kernel
theorem d_Game_winningCell_27 : decode me_Game_winningCell.2.1 27 = .ok (.aload_n 0, 1) := by decide +kernel
theorem d_Game_winningCell_28 : decode me_Game_winningCell.2.1 28 = .ok (.getfield 23, 3) := by decide +kernel
theorem d_Game_winningCell_31 : decode me_Game_winningCell.2.1 31 = .ok (.imul, 1) := by decide +kernel
theorem d_Game_winningCell_32 : decode me_Game_winningCell.2.1 32 = .ok (.if_icmp .ge 56, 3) := by decide +kernel
theorem d_Game_winningCell_35 : decode me_Game_winningCell.2.1 35 = .ok (.aload_n 0, 1) := by decide +kernel
theorem d_Game_winningCell_36 : decode me_Game_winningCell.2.1 36 = .ok (.getfield 26, 3) := by decide +kernel
theorem d_Game_winningCell_39 : decode me_Game_winningCell.2.1 39 = .ok (.iload_n 2, 1) := by decide +kernel
theorem d_Game_winningCell_40 : decode me_Game_winningCell.2.1 40 = .ok (.ishr, 1) := by decide +kernel
theorem d_Game_winningCell_41 : decode me_Game_winningCell.2.1 41 = .ok (.iconst 1, 1) := by decide +kernel
theorem d_Game_winningCell_42 : decode me_Game_winningCell.2.1 42 = .ok (.iand, 1) := by decide +kernel
theorem d_Game_winningCell_43 : decode me_Game_winningCell.2.1 43 = .ok (.ifCond .eq 18, 3) := by decide +kernel
theorem d_Game_winningCell_46 : decode me_Game_winningCell.2.1 46 = .ok (.aload_n 0, 1) := by decide +kernel
theorem d_Game_winningCell_47 : decode me_Game_winningCell.2.1 47 = .ok (.getfield 11, 3) := by decide +kernel
theorem d_Game_winningCell_50 : decode me_Game_winningCell.2.1 50 = .ok (.iload_n 2, 1) := by decide +kernel
theorem d_Game_winningCell_51 : decode me_Game_winningCell.2.1 51 = .ok (.iaload, 1) := by decide +kernel
theorem d_Game_winningCell_52 : decode me_Game_winningCell.2.1 52 = .ok (.iload_n 1, 1) := by decide +kernel
theorem d_Game_winningCell_53 : decode me_Game_winningCell.2.1 53 = .ok (.iand, 1) := by decide +kernel
theorem d_Game_winningCell_54 : decode me_Game_winningCell.2.1 54 = .ok (.ifCond .ne 7, 3) := by decide +kernel
theorem d_Game_winningCell_57 : decode me_Game_winningCell.2.1 57 = .ok (.iconst 1, 1) := by decide +kernel
theorem d_Game_winningCell_58 : decode me_Game_winningCell.2.1 58 = .ok (.goto 4, 3) := by decide +kernel
theorem d_Game_winningCell_61 : decode me_Game_winningCell.2.1 61 = .ok (.iconst 0, 1) := by decide +kernel
theorem d_Game_winningCell_62 : decode me_Game_winningCell.2.1 62 = .ok (.istore_n 3, 1) := by decide +kernel
theorem d_Game_winningCell_63 : decode me_Game_winningCell.2.1 63 = .ok (.iload_n 3, 1) := by decide +kernel
theorem d_Game_winningCell_64 : decode me_Game_winningCell.2.1 64 = .ok (.ifCond .eq 18, 3) := by decide +kernel
theorem d_Game_winningCell_67 : decode me_Game_winningCell.2.1 67 = .ok (.aload_n 0, 1) := by decide +kernel
theorem d_Game_winningCell_68 : decode me_Game_winningCell.2.1 68 = .ok (.getfield 15, 3) := by decide +kernel
theorem d_Game_winningCell_71 : decode me_Game_winningCell.2.1 71 = .ok (.iload_n 1, 1) := by decide +kernel
theorem d_Game_winningCell_72 : decode me_Game_winningCell.2.1 72 = .ok (.iconst 1, 1) := by decide +kernel
theorem d_Game_winningCell_73 : decode me_Game_winningCell.2.1 73 = .ok (.iload_n 2, 1) := by decide +kernel
theorem d_Game_winningCell_74 : decode me_Game_winningCell.2.1 74 = .ok (.ishl, 1) := by decide +kernel
theorem d_Game_winningCell_75 : decode me_Game_winningCell.2.1 75 = .ok (.ior, 1) := by decide +kernel
theorem d_Game_winningCell_76 : decode me_Game_winningCell.2.1 76 = .ok (.baload, 1) := by decide +kernel
theorem d_Game_winningCell_77 : decode me_Game_winningCell.2.1 77 = .ok (.ifCond .ne 5, 3) := by decide +kernel
theorem d_Game_winningCell_80 : decode me_Game_winningCell.2.1 80 = .ok (.iload_n 2, 1) := by decide +kernel
theorem d_Game_winningCell_81 : decode me_Game_winningCell.2.1 81 = .ok (.ireturn, 1) := by decide +kernel
theorem d_Game_winningCell_82 : decode me_Game_winningCell.2.1 82 = .ok (.iinc 2 1, 3) := by decide +kernel
theorem d_Game_winningCell_85 : decode me_Game_winningCell.2.1 85 = .ok (.goto (-63), 3) := by decide +kernel
theorem d_Game_winningCell_88 : decode me_Game_winningCell.2.1 88 = .ok (.bipush (-2), 2) := by decide +kernel
theorem d_Game_winningCell_90 : decode me_Game_winningCell.2.1 90 = .ok (.ireturn, 1) := by decide +kernel
noncomputable def f_Game_winningCell_62 (k22 : Int32 → Int32 → gk_M → Option (Int32 × gk_M)) (a1 : Int32) (a2 : Int32) (s0 : Int32) (m0 : gk_M) : Option (Int32 × gk_M) :=
  if s0 = 0 then
    k22 a1 (a2 + 1) m0
  else
    gk_ai m0 27 512 (a1 ||| (1 <<< (a2 &&& 31))) fun v1 =>
    if ¬ v1 = 0 then
      k22 a1 (a2 + 1) m0
    else
      some (a2, m0)

theorem s_Game_winningCell_62 {z : gk_Z} (K : gk_F tx z me_Game_winningCell 2) {r : Int32} {mem2 : gk_M} {k22 : Int32 → Int32 → gk_M → Option (Int32 × gk_M)} (hk22 : ∀ a1 a2 m0, k22 a1 a2 m0 = some (r, mem2) → gk_G tx z me_Game_winningCell (gk_R tx z (some (.int r)) mem2) m0 [(0, .ref 25), (1, .int a1), (2, .int a2)] [] 22) : ∀ a1 a2 s0 m0, f_Game_winningCell_62 k22 a1 a2 s0 m0 = some (r, mem2) → gk_G tx z me_Game_winningCell (gk_R tx z (some (.int r)) mem2) m0 [(0, .ref 25), (1, .int a1), (2, .int a2)] [.int s0] 62 := by
  intro a1 a2 s0 m0  h
  unfold f_Game_winningCell_62 at h
  refine gk_istore_n (lv2 := [(3, .int s0), (0, .ref 25), (1, .int a1), (2, .int a2)]) (pc := 62) K d_Game_winningCell_62 (by decide) rfl ?_
  refine gk_iload_n (pc := 63) K d_Game_winningCell_63 rfl ?_
  refine gk_if_eq (tgt := 82) (pc := 64) K d_Game_winningCell_64 (by decide) h (fun h => ?_) (fun h => ?_)
  · refine gk_iinc2 (lv2 := [(2, .int (a2 + 1)), (3, .int s0), (0, .ref 25), (1, .int a1)]) (pc := 82) K d_Game_winningCell_82 rfl kc_1 (by decide) rfl ?_
    refine gk_goto (tgt := 22) (pc := 85) K d_Game_winningCell_85 (by decide) ?_
    exact gk_sub [2, 3, 0] rfl (hk22 _ _ _  h)
  · refine gk_aload_n (pc := 67) K d_Game_winningCell_67 rfl ?_
    refine gk_get (pc := 68) K d_Game_winningCell_68 fl_Game_15 tx_25 rfl rfl ?_
    refine gk_iload_n (pc := 71) K d_Game_winningCell_71 rfl ?_
    refine gk_iconst (pc := 72) K d_Game_winningCell_72 kc_1 ?_
    refine gk_iload_n (pc := 73) K d_Game_winningCell_73 rfl ?_
    refine gk_ishl (pc := 74) K d_Game_winningCell_74 ?_
    refine gk_ior (pc := 75) K d_Game_winningCell_75 ?_
    refine gk_zald (pc := 76) K d_Game_winningCell_76 tx_27 h (fun v1 h => ?_)
    refine gk_if_ne (tgt := 82) (pc := 77) K d_Game_winningCell_77 (by decide) h (fun h => ?_) (fun h => ?_)
    · refine gk_iinc2 (lv2 := [(2, .int (a2 + 1)), (3, .int s0), (0, .ref 25), (1, .int a1)]) (pc := 82) K d_Game_winningCell_82 rfl kc_1 (by decide) rfl ?_
      refine gk_goto (tgt := 22) (pc := 85) K d_Game_winningCell_85 (by decide) ?_
      exact gk_sub [2, 3, 0] rfl (hk22 _ _ _  h)
    · refine gk_iload_n (pc := 80) K d_Game_winningCell_80 rfl ?_
      exact gk_iret (pc := 81) K d_Game_winningCell_81 rfl h
noncomputable def f_Game_winningCell_61 (k22 : Int32 → Int32 → gk_M → Option (Int32 × gk_M)) (a1 : Int32) (a2 : Int32) (m0 : gk_M) : Option (Int32 × gk_M) :=
  f_Game_winningCell_62 k22 a1 a2 0 m0

theorem s_Game_winningCell_61 {z : gk_Z} (K : gk_F tx z me_Game_winningCell 2) {r : Int32} {mem2 : gk_M} {k22 : Int32 → Int32 → gk_M → Option (Int32 × gk_M)} (hk22 : ∀ a1 a2 m0, k22 a1 a2 m0 = some (r, mem2) → gk_G tx z me_Game_winningCell (gk_R tx z (some (.int r)) mem2) m0 [(0, .ref 25), (1, .int a1), (2, .int a2)] [] 22) : ∀ a1 a2 m0, f_Game_winningCell_61 k22 a1 a2 m0 = some (r, mem2) → gk_G tx z me_Game_winningCell (gk_R tx z (some (.int r)) mem2) m0 [(0, .ref 25), (1, .int a1), (2, .int a2)] [] 61 := by
  intro a1 a2 m0  h
  unfold f_Game_winningCell_61 at h
  refine gk_iconst (pc := 61) K d_Game_winningCell_61 kc_0 ?_
  exact gk_sub [0, 1, 2] rfl (s_Game_winningCell_62 K hk22 _ _ _ _  h)
noncomputable def f_Game_winningCell_22  : Nat → Int32 → Int32 → gk_M → Option (Int32 × gk_M)
  | 0, _, _, _ => none
  | n + 1, a1, a2, m0 =>
    if ((m0.1 25 4) * (m0.1 25 4)) ≤ a2 then
      some ((-2), m0)
    else
      if (((m0.1 25 5) >>> (a2 &&& 31)) &&& 1) = 0 then
        f_Game_winningCell_61 (f_Game_winningCell_22 n) a1 a2 m0
      else
        gk_ai m0 26 9 a2 fun v1 =>
        if ¬ (v1 &&& a1) = 0 then
          f_Game_winningCell_61 (f_Game_winningCell_22 n) a1 a2 m0
        else
          f_Game_winningCell_62 (f_Game_winningCell_22 n) a1 a2 1 m0

theorem s_Game_winningCell_22 {z : gk_Z} (K : gk_F tx z me_Game_winningCell 2) {r : Int32} {mem2 : gk_M} : ∀ n a1 a2 m0, f_Game_winningCell_22 n a1 a2 m0 = some (r, mem2) → gk_G tx z me_Game_winningCell (gk_R tx z (some (.int r)) mem2) m0 [(0, .ref 25), (1, .int a1), (2, .int a2)] [] 22 := by
  intro n
  induction n with
  | zero => intro a1 a2 m0  h; exact nomatch (show (none : Option _) = some _ from h)
  | succ n ih =>
    intro a1 a2 m0  h
    unfold f_Game_winningCell_22 at h
    refine gk_iload_n (pc := 22) K d_Game_winningCell_22 rfl ?_
    refine gk_aload_n (pc := 23) K d_Game_winningCell_23 rfl ?_
    refine gk_get (pc := 24) K d_Game_winningCell_24 fl_Game_23 tx_25 rfl rfl ?_
    refine gk_aload_n (pc := 27) K d_Game_winningCell_27 rfl ?_
    refine gk_get (pc := 28) K d_Game_winningCell_28 fl_Game_23 tx_25 rfl rfl ?_
    refine gk_imul (pc := 31) K d_Game_winningCell_31 ?_
    refine gk_ic_ge (tgt := 88) (pc := 32) K d_Game_winningCell_32 (by decide) h (fun h => ?_) (fun h => ?_)
    · refine gk_bipush (pc := 88) K d_Game_winningCell_88 kb_m2 ?_
      exact gk_iret (pc := 90) K d_Game_winningCell_90 rfl h
    · refine gk_aload_n (pc := 35) K d_Game_winningCell_35 rfl ?_
      refine gk_get (pc := 36) K d_Game_winningCell_36 fl_Game_26 tx_25 rfl rfl ?_
      refine gk_iload_n (pc := 39) K d_Game_winningCell_39 rfl ?_
      refine gk_ishr (pc := 40) K d_Game_winningCell_40 ?_
      refine gk_iconst (pc := 41) K d_Game_winningCell_41 kc_1 ?_
      refine gk_iand (pc := 42) K d_Game_winningCell_42 ?_
      refine gk_if_eq (tgt := 61) (pc := 43) K d_Game_winningCell_43 (by decide) h (fun h => ?_) (fun h => ?_)
      · exact gk_sub [0, 1, 2] rfl (s_Game_winningCell_61 K (fun x0 x1 m  h => ih x0 x1 m  h) _ _ _  h)
      · refine gk_aload_n (pc := 46) K d_Game_winningCell_46 rfl ?_
        refine gk_get (pc := 47) K d_Game_winningCell_47 fl_Game_11 tx_25 rfl rfl ?_
        refine gk_iload_n (pc := 50) K d_Game_winningCell_50 rfl ?_
        refine gk_iald (pc := 51) K d_Game_winningCell_51 tx_26 h (fun v1 h => ?_)
        refine gk_iload_n (pc := 52) K d_Game_winningCell_52 rfl ?_
        refine gk_iand (pc := 53) K d_Game_winningCell_53 ?_
        refine gk_if_ne (tgt := 61) (pc := 54) K d_Game_winningCell_54 (by decide) h (fun h => ?_) (fun h => ?_)
        · exact gk_sub [0, 1, 2] rfl (s_Game_winningCell_61 K (fun x0 x1 m  h => ih x0 x1 m  h) _ _ _  h)
        · refine gk_iconst (pc := 57) K d_Game_winningCell_57 kc_1 ?_
          refine gk_goto (tgt := 62) (pc := 58) K d_Game_winningCell_58 (by decide) ?_
          exact gk_sub [0, 1, 2] rfl (s_Game_winningCell_62 K (fun x0 x1 m  h => ih x0 x1 m  h) _ _ _ _  h)
noncomputable def f_Game_winningCell  (a1 : Int32) (m0 : gk_M) : Option (Int32 × gk_M) :=
  gk_bi (f_Integer_bitCount a1 m0) fun v2 m1 =>
  if ((m0.1 7 5) + v2) < 10 then
    f_Game_winningCell_22 gk_fv a1 0 m1
  else
    some ((-2), m1)

theorem s_Game_winningCell_0 {z : gk_Z} (K : gk_F tx z me_Game_winningCell 2) {r : Int32} {mem2 : gk_M} : ∀ a1 m0, f_Game_winningCell a1 m0 = some (r, mem2) → gk_G tx z me_Game_winningCell (gk_R tx z (some (.int r)) mem2) m0 [(0, .ref 25), (1, .int a1)] [] 0 := by
  intro a1 m0  h
  unfold f_Game_winningCell at h
  refine gk_aload_n (pc := 0) K d_Game_winningCell_0 rfl ?_
  refine gk_get (pc := 1) K d_Game_winningCell_1 fl_Game_29 tx_25 rfl rfl ?_
  refine gk_get (pc := 4) K d_Game_winningCell_4 fl_Game_65 tx_7 rfl rfl ?_
  refine gk_iload_n (pc := 7) K d_Game_winningCell_7 rfl ?_
  obtain ⟨v2, m1, em1, h⟩ := gk_bi_some h
  refine gk_cSi (As := [.int a1]) (pc := 8) K d_Game_winningCell_8 ms_Game_68 mc_Integer_bitCount rfl (s_Integer_bitCount (gk_FD K)  em1) (by decide) rfl (Nat.le_of_ble_eq_true rfl) ?_
  refine gk_iadd (pc := 11) K d_Game_winningCell_11 ?_
  refine gk_bipush (pc := 12) K d_Game_winningCell_12 kb_10 ?_
  refine gk_ic_lt (tgt := 20) (pc := 14) K d_Game_winningCell_14 (by decide) h (fun h => ?_) (fun h => ?_)
  · refine gk_iconst (pc := 20) K d_Game_winningCell_20 kc_0 ?_
    refine gk_istore_n (lv2 := [(2, .int 0), (0, .ref 25), (1, .int a1)]) (pc := 21) K d_Game_winningCell_21 (by decide) rfl ?_
    exact gk_sub [1, 2, 0] rfl (s_Game_winningCell_22 K _ _ _ _  h)
  · refine gk_bipush (pc := 17) K d_Game_winningCell_17 kb_m2 ?_
    exact gk_iret (pc := 19) K d_Game_winningCell_19 rfl h
theorem s_Game_winningCell {l : Launch} {u : gk_U} (hD : gk_D tx u) {a1 : Int32} {m0 mem2 : gk_M} {r : Int32} (h : f_Game_winningCell a1 m0 = some (r, mem2)) : gk_C tx l u me_Game_winningCell 2 [.ref 25, .int a1] m0 (some (.int r)) mem2 :=
  gk_enter hD mc_Game_winningCell (Nat.le_of_ble_eq_true rfl) rfl (fun z _ _ K => s_Game_winningCell_0 K _ _  h)
theorem d_Game_firstWinner_0 : decode me_Game_firstWinner.2.1 0 = .ok (.aload_n 0, 1) := by decide +kernel
theorem d_Game_firstWinner_1 : decode me_Game_firstWinner.2.1 1 = .ok (.getfield 23, 3) := by decide +kernel
theorem d_Game_firstWinner_4 : decode me_Game_firstWinner.2.1 4 = .ok (.aload_n 0, 1) := by decide +kernel
theorem d_Game_firstWinner_5 : decode me_Game_firstWinner.2.1 5 = .ok (.getfield 23, 3) := by decide +kernel
theorem d_Game_firstWinner_8 : decode me_Game_firstWinner.2.1 8 = .ok (.imul, 1) := by decide +kernel
theorem d_Game_firstWinner_9 : decode me_Game_firstWinner.2.1 9 = .ok (.istore_n 1, 1) := by decide +kernel
theorem d_Game_firstWinner_10 : decode me_Game_firstWinner.2.1 10 = .ok (.iconst 1, 1) := by decide +kernel
theorem d_Game_firstWinner_11 : decode me_Game_firstWinner.2.1 11 = .ok (.iload_n 1, 1) := by decide +kernel
theorem d_Game_firstWinner_12 : decode me_Game_firstWinner.2.1 12 = .ok (.ishl, 1) := by decide +kernel
theorem d_Game_firstWinner_13 : decode me_Game_firstWinner.2.1 13 = .ok (.iconst 1, 1) := by decide +kernel
theorem d_Game_firstWinner_14 : decode me_Game_firstWinner.2.1 14 = .ok (.isub, 1) := by decide +kernel
theorem d_Game_firstWinner_15 : decode me_Game_firstWinner.2.1 15 = .ok (.istore_n 2, 1) := by decide +kernel
theorem d_Game_firstWinner_16 : decode me_Game_firstWinner.2.1 16 = .ok (.iload_n 2, 1) := by decide +kernel
theorem d_Game_firstWinner_17 : decode me_Game_firstWinner.2.1 17 = .ok (.ifCond .le 28, 3) := by decide +kernel
theorem d_Game_firstWinner_20 : decode me_Game_firstWinner.2.1 20 = .ok (.aload_n 0, 1) := by decide +kernel
theorem d_Game_firstWinner_21 : decode me_Game_firstWinner.2.1 21 = .ok (.getfield 15, 3) := by decide +kernel
theorem d_Game_firstWinner_24 : decode me_Game_firstWinner.2.1 24 = .ok (.iload_n 2, 1) := by decide +kernel
theorem d_Game_firstWinner_25 : decode me_Game_firstWinner.2.1 25 = .ok (.aload_n 0, 1) := by decide +kernel
theorem d_Game_firstWinner_26 : decode me_Game_firstWinner.2.1 26 = .ok (.iload_n 2, 1) := by decide +kernel
theorem d_Game_firstWinner_27 : decode me_Game_firstWinner.2.1 27 = .ok (.invokevirtual 62, 3) := by decide +kernel
theorem d_Game_firstWinner_30 : decode me_Game_firstWinner.2.1 30 = .ok (.ifCond .lt 7, 3) := by decide +kernel
theorem d_Game_firstWinner_33 : decode me_Game_firstWinner.2.1 33 = .ok (.iconst 1, 1) := by decide +kernel
theorem d_Game_firstWinner_34 : decode me_Game_firstWinner.2.1 34 = .ok (.goto 4, 3) := by decide +kernel
theorem d_Game_firstWinner_37 : decode me_Game_firstWinner.2.1 37 = .ok (.iconst 0, 1) := by decide +kernel
theorem d_Game_firstWinner_38 : decode me_Game_firstWinner.2.1 38 = .ok (.bastore, 1) := by decide +kernel
theorem d_Game_firstWinner_39 : decode me_Game_firstWinner.2.1 39 = .ok (.iinc 2 (-1), 3) := by decide +kernel
theorem d_Game_firstWinner_42 : decode me_Game_firstWinner.2.1 42 = .ok (.goto (-26), 3) := by decide +kernel
theorem d_Game_firstWinner_45 : decode me_Game_firstWinner.2.1 45 = .ok (.aload_n 0, 1) := by decide +kernel
theorem d_Game_firstWinner_46 : decode me_Game_firstWinner.2.1 46 = .ok (.iconst 0, 1) := by decide +kernel
theorem d_Game_firstWinner_47 : decode me_Game_firstWinner.2.1 47 = .ok (.invokevirtual 62, 3) := by decide +kernel
theorem d_Game_firstWinner_50 : decode me_Game_firstWinner.2.1 50 = .ok (.istore_n 2, 1) := by decide +kernel
theorem d_Game_firstWinner_51 : decode me_Game_firstWinner.2.1 51 = .ok (.iload_n 2, 1) := by decide +kernel
theorem d_Game_firstWinner_52 : decode me_Game_firstWinner.2.1 52 = .ok (.ifCond .ge 8, 3) := by decide +kernel
theorem d_Game_firstWinner_55 : decode me_Game_firstWinner.2.1 55 = .ok (.bipush (-2), 2) := by decide +kernel
theorem d_Game_firstWinner_57 : decode me_Game_firstWinner.2.1 57 = .ok (.goto 8, 3) := by decide +kernel
theorem d_Game_firstWinner_60 : decode me_Game_firstWinner.2.1 60 = .ok (.aload_n 0, 1) := by decide +kernel
theorem d_Game_firstWinner_61 : decode me_Game_firstWinner.2.1 61 = .ok (.iload_n 2, 1) := by decide +kernel
theorem d_Game_firstWinner_62 : decode me_Game_firstWinner.2.1 62 = .ok (.invokevirtual 48, 3) := by decide +kernel
theorem d_Game_firstWinner_65 : decode me_Game_firstWinner.2.1 65 = .ok (.ireturn, 1) := by decide +kernel
noncomputable def f_Game_firstWinner_38 (k16 : Int32 → gk_M → Option (Int32 × gk_M)) (a2 : Int32) (s1 : Int32) (s2 : Int32) (m0 : gk_M) : Option (Int32 × gk_M) :=
  gk_zz s2 <| gk_si m0 27 512 s1 s2 fun m1 =>
  k16 (a2 + (-1)) m1

theorem s_Game_firstWinner_38 {z : gk_Z} (K : gk_F tx z me_Game_firstWinner 3) {r : Int32} {mem2 : gk_M} {k16 : Int32 → gk_M → Option (Int32 × gk_M)} (hk16 : ∀ a2 m0, k16 a2 m0 = some (r, mem2) → gk_G tx z me_Game_firstWinner (gk_R tx z (some (.int r)) mem2) m0 [(0, .ref 25), (2, .int a2)] [] 16) : ∀ a2 s1 s2 m0, f_Game_firstWinner_38 k16 a2 s1 s2 m0 = some (r, mem2) → gk_G tx z me_Game_firstWinner (gk_R tx z (some (.int r)) mem2) m0 [(0, .ref 25), (2, .int a2)] [.int s2, .int s1, .ref 27] 38 := by
  intro a2 s1 s2 m0  h
  unfold f_Game_firstWinner_38 at h
  refine gk_zast (pc := 38) K d_Game_firstWinner_38 tx_27 h (fun m1 h => ?_)
  refine gk_iinc2 (lv2 := [(2, .int (a2 + (-1))), (0, .ref 25)]) (pc := 39) K d_Game_firstWinner_39 rfl kc_m1 (by decide) rfl ?_
  refine gk_goto (tgt := 16) (pc := 42) K d_Game_firstWinner_42 (by decide) ?_
  exact gk_sub [1, 0] rfl (hk16 _ _  h)
noncomputable def f_Game_firstWinner_16  : Nat → Int32 → gk_M → Option (Int32 × gk_M)
  | 0, _, _ => none
  | n + 1, a2, m0 =>
    if a2 ≤ 0 then
      gk_bi (f_Game_winningCell 0 m0) fun v2 m1 =>
      if 0 ≤ v2 then
        gk_bi (f_Game_pointOf v2 m1) fun v4 m3 =>
        some (v4, m3)
      else
        some ((-2), m1)
    else
      gk_bi (f_Game_winningCell a2 m0) fun v6 m5 =>
      if v6 < 0 then
        f_Game_firstWinner_38 (f_Game_firstWinner_16 n) a2 a2 0 m5
      else
        f_Game_firstWinner_38 (f_Game_firstWinner_16 n) a2 a2 1 m5

theorem s_Game_firstWinner_16 {z : gk_Z} (K : gk_F tx z me_Game_firstWinner 3) {r : Int32} {mem2 : gk_M} : ∀ n a2 m0, f_Game_firstWinner_16 n a2 m0 = some (r, mem2) → gk_G tx z me_Game_firstWinner (gk_R tx z (some (.int r)) mem2) m0 [(0, .ref 25), (2, .int a2)] [] 16 := by
  intro n
  induction n with
  | zero => intro a2 m0  h; exact nomatch (show (none : Option _) = some _ from h)
  | succ n ih =>
    intro a2 m0  h
    unfold f_Game_firstWinner_16 at h
    refine gk_iload_n (pc := 16) K d_Game_firstWinner_16 rfl ?_
    refine gk_if_le (tgt := 45) (pc := 17) K d_Game_firstWinner_17 (by decide) h (fun h => ?_) (fun h => ?_)
    · refine gk_aload_n (pc := 45) K d_Game_firstWinner_45 rfl ?_
      refine gk_iconst (pc := 46) K d_Game_firstWinner_46 kc_0 ?_
      obtain ⟨v2, m1, em1, h⟩ := gk_bi_some h
      refine gk_cVi (As := [.int 0]) (pc := 47) K d_Game_firstWinner_47 mv_Game_62 mc_Game_winningCell rfl tx_25 cl_ok4.1 (s_Game_winningCell (gk_FD K)  em1) (by decide) rfl (Nat.le_of_ble_eq_true rfl) ?_
      refine gk_istore_n (lv2 := [(2, .int v2), (0, .ref 25)]) (pc := 50) K d_Game_firstWinner_50 (by decide) rfl ?_
      refine gk_iload_n (pc := 51) K d_Game_firstWinner_51 rfl ?_
      refine gk_if_ge (tgt := 60) (pc := 52) K d_Game_firstWinner_52 (by decide) h (fun h => ?_) (fun h => ?_)
      · refine gk_aload_n (pc := 60) K d_Game_firstWinner_60 rfl ?_
        refine gk_iload_n (pc := 61) K d_Game_firstWinner_61 rfl ?_
        obtain ⟨v4, m3, em3, h⟩ := gk_bi_some h
        refine gk_cVi (As := [.int v2]) (pc := 62) K d_Game_firstWinner_62 mv_Game_48 mc_Game_pointOf rfl tx_25 cl_ok4.1 (s_Game_pointOf (gk_FD K)  em3) (by decide) rfl (Nat.le_of_ble_eq_true rfl) ?_
        exact gk_iret (pc := 65) K d_Game_firstWinner_65 rfl h
      · refine gk_bipush (pc := 55) K d_Game_firstWinner_55 kb_m2 ?_
        refine gk_goto (tgt := 65) (pc := 57) K d_Game_firstWinner_57 (by decide) ?_
        exact gk_iret (pc := 65) K d_Game_firstWinner_65 rfl h
    · refine gk_aload_n (pc := 20) K d_Game_firstWinner_20 rfl ?_
      refine gk_get (pc := 21) K d_Game_firstWinner_21 fl_Game_15 tx_25 rfl rfl ?_
      refine gk_iload_n (pc := 24) K d_Game_firstWinner_24 rfl ?_
      refine gk_aload_n (pc := 25) K d_Game_firstWinner_25 rfl ?_
      refine gk_iload_n (pc := 26) K d_Game_firstWinner_26 rfl ?_
      obtain ⟨v6, m5, em5, h⟩ := gk_bi_some h
      refine gk_cVi (As := [.int a2]) (pc := 27) K d_Game_firstWinner_27 mv_Game_62 mc_Game_winningCell rfl tx_25 cl_ok4.1 (s_Game_winningCell (gk_FD K)  em5) (by decide) rfl (Nat.le_of_ble_eq_true rfl) ?_
      refine gk_if_lt (tgt := 37) (pc := 30) K d_Game_firstWinner_30 (by decide) h (fun h => ?_) (fun h => ?_)
      · refine gk_iconst (pc := 37) K d_Game_firstWinner_37 kc_0 ?_
        exact gk_sub [0, 1] rfl (s_Game_firstWinner_38 K (fun x0 m  h => ih x0 m  h) _ _ _ _  h)
      · refine gk_iconst (pc := 33) K d_Game_firstWinner_33 kc_1 ?_
        refine gk_goto (tgt := 38) (pc := 34) K d_Game_firstWinner_34 (by decide) ?_
        exact gk_sub [0, 1] rfl (s_Game_firstWinner_38 K (fun x0 m  h => ih x0 m  h) _ _ _ _  h)
noncomputable def f_Game_firstWinner   (m0 : gk_M) : Option (Int32 × gk_M) :=
  gk_let ((m0.1 25 4) * (m0.1 25 4)) fun v1 =>
  gk_let ((1 <<< (v1 &&& 31)) - 1) fun v2 =>
  f_Game_firstWinner_16 gk_fv v2 m0

theorem s_Game_firstWinner_0 {z : gk_Z} (K : gk_F tx z me_Game_firstWinner 3) {r : Int32} {mem2 : gk_M} : ∀  m0, f_Game_firstWinner  m0 = some (r, mem2) → gk_G tx z me_Game_firstWinner (gk_R tx z (some (.int r)) mem2) m0 [(0, .ref 25)] [] 0 := by
  intro  m0  h
  unfold f_Game_firstWinner at h
  refine gk_aload_n (pc := 0) K d_Game_firstWinner_0 rfl ?_
  refine gk_get (pc := 1) K d_Game_firstWinner_1 fl_Game_23 tx_25 rfl rfl ?_
  refine gk_aload_n (pc := 4) K d_Game_firstWinner_4 rfl ?_
  refine gk_get (pc := 5) K d_Game_firstWinner_5 fl_Game_23 tx_25 rfl rfl ?_
  refine gk_imul (pc := 8) K d_Game_firstWinner_8 ?_
  refine gk_topi h (fun v1 h => ?_)
  refine gk_istore_n (lv2 := [(1, .int v1), (0, .ref 25)]) (pc := 9) K d_Game_firstWinner_9 (by decide) rfl ?_
  refine gk_iconst (pc := 10) K d_Game_firstWinner_10 kc_1 ?_
  refine gk_iload_n (pc := 11) K d_Game_firstWinner_11 rfl ?_
  refine gk_ishl (pc := 12) K d_Game_firstWinner_12 ?_
  refine gk_iconst (pc := 13) K d_Game_firstWinner_13 kc_1 ?_
  refine gk_isub (pc := 14) K d_Game_firstWinner_14 ?_
  refine gk_topi h (fun v2 h => ?_)
  refine gk_istore_n (lv2 := [(2, .int v2), (1, .int v1), (0, .ref 25)]) (pc := 15) K d_Game_firstWinner_15 (by decide) rfl ?_
  exact gk_sub [2, 0] rfl (s_Game_firstWinner_16 K _ _ _  h)
theorem s_Game_firstWinner {l : Launch} {u : gk_U} (hD : gk_D tx u) {m0 mem2 : gk_M} {r : Int32} (h : f_Game_firstWinner  m0 = some (r, mem2)) : gk_C tx l u me_Game_firstWinner 3 [.ref 25] m0 (some (.int r)) mem2 :=
  gk_enter hD mc_Game_firstWinner (Nat.le_of_ble_eq_true rfl) rfl (fun z _ _ K => s_Game_firstWinner_0 K  _  h)
theorem d_X_game_0 : decode me_X_game.2.1 0 = .ok (.iload_n 1, 1) := by decide +kernel
theorem d_X_game_1 : decode me_X_game.2.1 1 = .ok (.invokestatic 99, 3) := by decide +kernel
theorem d_X_game_4 : decode me_X_game.2.1 4 = .ok (.ifCond .eq 23, 3) := by decide +kernel
theorem d_X_game_7 : decode me_X_game.2.1 7 = .ok (.iload_n 2, 1) := by decide +kernel
theorem d_X_game_8 : decode me_X_game.2.1 8 = .ok (.bipush 20, 2) := by decide +kernel
theorem d_X_game_10 : decode me_X_game.2.1 10 = .ok (.if_icmp .lt 17, 3) := by decide +kernel
theorem d_X_game_13 : decode me_X_game.2.1 13 = .ok (.iload_n 2, 1) := by decide +kernel
theorem d_X_game_14 : decode me_X_game.2.1 14 = .ok (.bipush 39, 2) := by decide +kernel
theorem d_X_game_16 : decode me_X_game.2.1 16 = .ok (.if_icmp .gt 11, 3) := by decide +kernel
theorem d_X_game_19 : decode me_X_game.2.1 19 = .ok (.iload_n 3, 1) := by decide +kernel
theorem d_X_game_20 : decode me_X_game.2.1 20 = .ok (.iconst 1, 1) := by decide +kernel
theorem d_X_game_21 : decode me_X_game.2.1 21 = .ok (.invokestatic 180, 3) := by decide +kernel
theorem d_X_game_24 : decode me_X_game.2.1 24 = .ok (.ifCond .ne 5, 3) := by decide +kernel
theorem d_X_game_27 : decode me_X_game.2.1 27 = .ok (.iconst (-1), 1) := by decide +kernel
theorem d_X_game_28 : decode me_X_game.2.1 28 = .ok (.ireturn, 1) := by decide +kernel
theorem d_X_game_29 : decode me_X_game.2.1 29 = .ok (.iload_n 2, 1) := by decide +kernel
theorem d_X_game_30 : decode me_X_game.2.1 30 = .ok (.bipush 10, 2) := by decide +kernel
theorem d_X_game_32 : decode me_X_game.2.1 32 = .ok (.idiv, 1) := by decide +kernel
theorem d_X_game_33 : decode me_X_game.2.1 33 = .ok (.istore 4, 2) := by decide +kernel
theorem d_X_game_35 : decode me_X_game.2.1 35 = .ok (.iload_n 1, 1) := by decide +kernel
theorem d_X_game_36 : decode me_X_game.2.1 36 = .ok (.bipush 30, 2) := by decide +kernel
theorem d_X_game_38 : decode me_X_game.2.1 38 = .ok (.irem, 1) := by decide +kernel
theorem d_X_game_39 : decode me_X_game.2.1 39 = .ok (.iload 4, 2) := by decide +kernel
theorem d_X_game_41 : decode me_X_game.2.1 41 = .ok (.iadd, 1) := by decide +kernel
theorem d_X_game_42 : decode me_X_game.2.1 42 = .ok (.bipush 30, 2) := by decide +kernel
theorem d_X_game_44 : decode me_X_game.2.1 44 = .ok (.if_icmp .gt 15, 3) := by decide +kernel
theorem d_X_game_47 : decode me_X_game.2.1 47 = .ok (.iload_n 1, 1) := by decide +kernel
theorem d_X_game_48 : decode me_X_game.2.1 48 = .ok (.bipush 30, 2) := by decide +kernel
theorem d_X_game_50 : decode me_X_game.2.1 50 = .ok (.idiv, 1) := by decide +kernel
theorem d_X_game_51 : decode me_X_game.2.1 51 = .ok (.iload 4, 2) := by decide +kernel
theorem d_X_game_53 : decode me_X_game.2.1 53 = .ok (.iadd, 1) := by decide +kernel
theorem d_X_game_54 : decode me_X_game.2.1 54 = .ok (.bipush 30, 2) := by decide +kernel
theorem d_X_game_56 : decode me_X_game.2.1 56 = .ok (.if_icmp .le 5, 3) := by decide +kernel
theorem d_X_game_59 : decode me_X_game.2.1 59 = .ok (.iconst (-1), 1) := by decide +kernel
theorem d_X_game_60 : decode me_X_game.2.1 60 = .ok (.ireturn, 1) := by decide +kernel
theorem d_X_game_61 : decode me_X_game.2.1 61 = .ok (.aload_n 0, 1) := by decide +kernel
theorem d_X_game_62 : decode me_X_game.2.1 62 = .ok (.getfield 44, 3) := by decide +kernel
theorem d_X_game_65 : decode me_X_game.2.1 65 = .ok (.iload_n 1, 1) := by decide +kernel
theorem d_X_game_66 : decode me_X_game.2.1 66 = .ok (.iload 4, 2) := by decide +kernel
theorem d_X_game_68 : decode me_X_game.2.1 68 = .ok (.iload_n 2, 1) := by decide +kernel
theorem d_X_game_69 : decode me_X_game.2.1 69 = .ok (.bipush 10, 2) := by decide +kernel
theorem d_X_game_71 : decode me_X_game.2.1 71 = .ok (.irem, 1) := by decide +kernel
theorem d_X_game_72 : decode me_X_game.2.1 72 = .ok (.invokevirtual 252, 3) := by decide +kernel
theorem d_X_game_75 : decode me_X_game.2.1 75 = .ok (.aload_n 0, 1) := by decide +kernel
theorem d_X_game_76 : decode me_X_game.2.1 76 = .ok (.getfield 44, 3) := by decide +kernel
theorem d_X_game_79 : decode me_X_game.2.1 79 = .ok (.invokevirtual 255, 3) := by decide +kernel
theorem d_X_game_82 : decode me_X_game.2.1 82 = .ok (.aload_n 0, 1) := by decide +kernel
theorem d_X_game_83 : decode me_X_game.2.1 83 = .ok (.getfield 44, 3) := by decide +kernel
theorem d_X_game_86 : decode me_X_game.2.1 86 = .ok (.invokevirtual 258, 3) := by decide +kernel
theorem d_X_game_89 : decode me_X_game.2.1 89 = .ok (.istore 5, 2) := by decide +kernel
theorem d_X_game_91 : decode me_X_game.2.1 91 = .ok (.iload_n 3, 1) := by decide +kernel
theorem d_X_game_92 : decode me_X_game.2.1 92 = .ok (.ifCond .ne 14, 3) := by decide +kernel
theorem d_X_game_95 : decode me_X_game.2.1 95 = .ok (.iload 5, 2) := by decide +kernel
theorem d_X_game_97 : decode me_X_game.2.1 97 = .ok (.ifCond .lt 7, 3) := by decide +kernel
theorem d_X_game_100 : decode me_X_game.2.1 100 = .ok (.iconst 1, 1) := by decide +kernel
theorem d_X_game_101 : decode me_X_game.2.1 101 = .ok (.goto 4, 3) := by decide +kernel
theorem d_X_game_104 : decode me_X_game.2.1 104 = .ok (.iconst 0, 1) := by decide +kernel
theorem d_X_game_105 : decode me_X_game.2.1 105 = .ok (.ireturn, 1) := by decide +kernel
theorem d_X_game_106 : decode me_X_game.2.1 106 = .ok (.iload 5, 2) := by decide +kernel
theorem d_X_game_108 : decode me_X_game.2.1 108 = .ok (.ifCond .lt 8, 3) := by decide +kernel
theorem d_X_game_111 : decode me_X_game.2.1 111 = .ok (.iload 5, 2) := by decide +kernel
theorem d_X_game_113 : decode me_X_game.2.1 113 = .ok (.goto 5, 3) := by decide +kernel
theorem d_X_game_116 : decode me_X_game.2.1 116 = .ok (.bipush (-2), 2) := by decide +kernel
theorem d_X_game_118 : decode me_X_game.2.1 118 = .ok (.ireturn, 1) := by decide +kernel
noncomputable def f_X_game  (a1 : Int32) (a2 : Int32) (a3 : Int32) (m0 : gk_M) : Option (Int32 × gk_M) :=
  gk_bi (f_X_isPoint a1 m0) fun v2 m1 =>
  if v2 = 0 then
    some ((-1), m1)
  else
    if a2 < 20 then
      some ((-1), m1)
    else
      if 39 < a2 then
        some ((-1), m1)
      else
        gk_bi (f_X_isChoice a3 1 m1) fun v4 m3 =>
        if ¬ v4 = 0 then
          gk_let (a2 / 10) fun v5 =>
          if 30 < ((gk_rem a1 30) + v5) then
            some ((-1), m3)
          else
            if ((a1 / 30) + v5) ≤ 30 then
              gk_bv (f_Game_layOut a1 v5 (gk_rem a2 10) m3) fun m6 =>
              gk_bv (f_Game_findClashes  m6) fun m7 =>
              gk_bi (f_Game_firstWinner  m7) fun v9 m8 =>
              if ¬ a3 = 0 then
                if v9 < 0 then
                  some ((-2), m8)
                else
                  some (v9, m8)
              else
                if v9 < 0 then
                  some (0, m8)
                else
                  some (1, m8)
            else
              some ((-1), m3)
        else
          some ((-1), m3)

theorem s_X_game_0 {z : gk_Z} (K : gk_F tx z me_X_game 8) {r : Int32} {mem2 : gk_M} : ∀ a1 a2 a3 m0, f_X_game a1 a2 a3 m0 = some (r, mem2) → gk_G tx z me_X_game (gk_R tx z (some (.int r)) mem2) m0 [(0, .ref 0), (1, .int a1), (2, .int a2), (3, .int a3)] [] 0 := by
  intro a1 a2 a3 m0  h
  unfold f_X_game at h
  refine gk_iload_n (pc := 0) K d_X_game_0 rfl ?_
  obtain ⟨v2, m1, em1, h⟩ := gk_bi_some h
  refine gk_cSi (As := [.int a1]) (pc := 1) K d_X_game_1 ms_X_99 mc_X_isPoint rfl (s_X_isPoint (gk_FD K)  em1) (by decide) rfl (Nat.le_of_ble_eq_true rfl) ?_
  refine gk_if_eq (tgt := 27) (pc := 4) K d_X_game_4 (by decide) h (fun h => ?_) (fun h => ?_)
  · refine gk_iconst (pc := 27) K d_X_game_27 kc_m1 ?_
    exact gk_iret (pc := 28) K d_X_game_28 rfl h
  · refine gk_iload_n (pc := 7) K d_X_game_7 rfl ?_
    refine gk_bipush (pc := 8) K d_X_game_8 kb_20 ?_
    refine gk_ic_lt (tgt := 27) (pc := 10) K d_X_game_10 (by decide) h (fun h => ?_) (fun h => ?_)
    · refine gk_iconst (pc := 27) K d_X_game_27 kc_m1 ?_
      exact gk_iret (pc := 28) K d_X_game_28 rfl h
    · refine gk_iload_n (pc := 13) K d_X_game_13 rfl ?_
      refine gk_bipush (pc := 14) K d_X_game_14 kb_39 ?_
      refine gk_ic_gt (tgt := 27) (pc := 16) K d_X_game_16 (by decide) h (fun h => ?_) (fun h => ?_)
      · refine gk_iconst (pc := 27) K d_X_game_27 kc_m1 ?_
        exact gk_iret (pc := 28) K d_X_game_28 rfl h
      · refine gk_iload_n (pc := 19) K d_X_game_19 rfl ?_
        refine gk_iconst (pc := 20) K d_X_game_20 kc_1 ?_
        obtain ⟨v4, m3, em3, h⟩ := gk_bi_some h
        refine gk_cSi (As := [.int a3, .int 1]) (pc := 21) K d_X_game_21 ms_X_180 mc_X_isChoice rfl (s_X_isChoice (gk_FD K)  em3) (by decide) rfl (Nat.le_of_ble_eq_true rfl) ?_
        refine gk_if_ne (tgt := 29) (pc := 24) K d_X_game_24 (by decide) h (fun h => ?_) (fun h => ?_)
        · refine gk_iload_n (pc := 29) K d_X_game_29 rfl ?_
          refine gk_bipush (pc := 30) K d_X_game_30 kb_10 ?_
          refine gk_idivc2 (pc := 32) K d_X_game_32 (by decide) ?_
          refine gk_topi h (fun v5 h => ?_)
          refine gk_istore (lv2 := [(4, .int v5), (0, .ref 0), (1, .int a1), (2, .int a2), (3, .int a3)]) (pc := 33) K d_X_game_33 (by decide) rfl ?_
          refine gk_iload_n (pc := 35) K d_X_game_35 rfl ?_
          refine gk_bipush (pc := 36) K d_X_game_36 kb_30 ?_
          refine gk_iremc2 (pc := 38) K d_X_game_38 (by decide) ?_
          refine gk_iload (pc := 39) K d_X_game_39 rfl ?_
          refine gk_iadd (pc := 41) K d_X_game_41 ?_
          refine gk_bipush (pc := 42) K d_X_game_42 kb_30 ?_
          refine gk_ic_gt (tgt := 59) (pc := 44) K d_X_game_44 (by decide) h (fun h => ?_) (fun h => ?_)
          · refine gk_iconst (pc := 59) K d_X_game_59 kc_m1 ?_
            exact gk_iret (pc := 60) K d_X_game_60 rfl h
          · refine gk_iload_n (pc := 47) K d_X_game_47 rfl ?_
            refine gk_bipush (pc := 48) K d_X_game_48 kb_30 ?_
            refine gk_idivc2 (pc := 50) K d_X_game_50 (by decide) ?_
            refine gk_iload (pc := 51) K d_X_game_51 rfl ?_
            refine gk_iadd (pc := 53) K d_X_game_53 ?_
            refine gk_bipush (pc := 54) K d_X_game_54 kb_30 ?_
            refine gk_ic_le (tgt := 61) (pc := 56) K d_X_game_56 (by decide) h (fun h => ?_) (fun h => ?_)
            · refine gk_aload_n (pc := 61) K d_X_game_61 rfl ?_
              refine gk_get (pc := 62) K d_X_game_62 fl_X_44 tx_0 rfl rfl ?_
              refine gk_iload_n (pc := 65) K d_X_game_65 rfl ?_
              refine gk_iload (pc := 66) K d_X_game_66 rfl ?_
              refine gk_iload_n (pc := 68) K d_X_game_68 rfl ?_
              refine gk_bipush (pc := 69) K d_X_game_69 kb_10 ?_
              refine gk_iremc2 (pc := 71) K d_X_game_71 (by decide) ?_
              obtain ⟨m6, em6, h⟩ := gk_bv_some h
              refine gk_cVv (As := [.int a1, .int v5, .int (gk_rem a2 10)]) (pc := 72) K d_X_game_72 mv_X_252 mc_Game_layOut rfl tx_25 cl_ok4.1 (s_Game_layOut (gk_FD K)  em6) (by decide) rfl (Nat.le_of_ble_eq_true rfl) ?_
              refine gk_aload_n (pc := 75) K d_X_game_75 rfl ?_
              refine gk_get (pc := 76) K d_X_game_76 fl_X_44 tx_0 rfl rfl ?_
              obtain ⟨m7, em7, h⟩ := gk_bv_some h
              refine gk_cVv (As := []) (pc := 79) K d_X_game_79 mv_X_255 mc_Game_findClashes rfl tx_25 cl_ok4.1 (s_Game_findClashes (gk_FD K)  em7) (by decide) rfl (Nat.le_of_ble_eq_true rfl) ?_
              refine gk_aload_n (pc := 82) K d_X_game_82 rfl ?_
              refine gk_get (pc := 83) K d_X_game_83 fl_X_44 tx_0 rfl rfl ?_
              obtain ⟨v9, m8, em8, h⟩ := gk_bi_some h
              refine gk_cVi (As := []) (pc := 86) K d_X_game_86 mv_X_258 mc_Game_firstWinner rfl tx_25 cl_ok4.1 (s_Game_firstWinner (gk_FD K)  em8) (by decide) rfl (Nat.le_of_ble_eq_true rfl) ?_
              refine gk_istore (lv2 := [(5, .int v9), (4, .int v5), (0, .ref 0), (1, .int a1), (2, .int a2), (3, .int a3)]) (pc := 89) K d_X_game_89 (by decide) rfl ?_
              refine gk_iload_n (pc := 91) K d_X_game_91 rfl ?_
              refine gk_if_ne (tgt := 106) (pc := 92) K d_X_game_92 (by decide) h (fun h => ?_) (fun h => ?_)
              · refine gk_iload (pc := 106) K d_X_game_106 rfl ?_
                refine gk_if_lt (tgt := 116) (pc := 108) K d_X_game_108 (by decide) h (fun h => ?_) (fun h => ?_)
                · refine gk_bipush (pc := 116) K d_X_game_116 kb_m2 ?_
                  exact gk_iret (pc := 118) K d_X_game_118 rfl h
                · refine gk_iload (pc := 111) K d_X_game_111 rfl ?_
                  refine gk_goto (tgt := 118) (pc := 113) K d_X_game_113 (by decide) ?_
                  exact gk_iret (pc := 118) K d_X_game_118 rfl h
              · refine gk_iload (pc := 95) K d_X_game_95 rfl ?_
                refine gk_if_lt (tgt := 104) (pc := 97) K d_X_game_97 (by decide) h (fun h => ?_) (fun h => ?_)
                · refine gk_iconst (pc := 104) K d_X_game_104 kc_0 ?_
                  exact gk_iret (pc := 105) K d_X_game_105 rfl h
                · refine gk_iconst (pc := 100) K d_X_game_100 kc_1 ?_
                  refine gk_goto (tgt := 105) (pc := 101) K d_X_game_101 (by decide) ?_
                  exact gk_iret (pc := 105) K d_X_game_105 rfl h
            · refine gk_iconst (pc := 59) K d_X_game_59 kc_m1 ?_
              exact gk_iret (pc := 60) K d_X_game_60 rfl h
        · refine gk_iconst (pc := 27) K d_X_game_27 kc_m1 ?_
          exact gk_iret (pc := 28) K d_X_game_28 rfl h
theorem s_X_game {l : Launch} {u : gk_U} (hD : gk_D tx u) {a1 : Int32} {a2 : Int32} {a3 : Int32} {m0 mem2 : gk_M} {r : Int32} (h : f_X_game a1 a2 a3 m0 = some (r, mem2)) : gk_C tx l u me_X_game 8 [.ref 0, .int a1, .int a2, .int a3] m0 (some (.int r)) mem2 :=
  gk_enter hD mc_X_game (Nat.le_of_ble_eq_true rfl) rfl (fun z _ _ K => s_X_game_0 K _ _ _ _  h)
theorem d_Walker_tell_0 : decode me_Walker_tell.2.1 0 = .ok (.aload_n 0, 1) := by decide +kernel
theorem d_Walker_tell_1 : decode me_Walker_tell.2.1 1 = .ok (.getfield 9, 3) := by decide +kernel
theorem d_Walker_tell_4 : decode me_Walker_tell.2.1 4 = .ok (.bipush 10, 2) := by decide +kernel
theorem d_Walker_tell_6 : decode me_Walker_tell.2.1 6 = .ok (.if_icmp .lt 6, 3) := by decide +kernel
theorem d_Walker_tell_9 : decode me_Walker_tell.2.1 9 = .ok (.bipush (-3), 2) := by decide +kernel
theorem d_Walker_tell_11 : decode me_Walker_tell.2.1 11 = .ok (.ireturn, 1) := by decide +kernel
theorem d_Walker_tell_12 : decode me_Walker_tell.2.1 12 = .ok (.aload_n 0, 1) := by decide +kernel
theorem d_Walker_tell_13 : decode me_Walker_tell.2.1 13 = .ok (.getfield 15, 3) := by decide +kernel
theorem d_Walker_tell_16 : decode me_Walker_tell.2.1 16 = .ok (.aload_n 0, 1) := by decide +kernel
theorem d_Walker_tell_17 : decode me_Walker_tell.2.1 17 = .ok (.getfield 9, 3) := by decide +kernel
theorem d_Walker_tell_20 : decode me_Walker_tell.2.1 20 = .ok (.iload_n 1, 1) := by decide +kernel
theorem d_Walker_tell_21 : decode me_Walker_tell.2.1 21 = .ok (.iastore, 1) := by decide +kernel
theorem d_Walker_tell_22 : decode me_Walker_tell.2.1 22 = .ok (.aload_n 0, 1) := by decide +kernel
theorem d_Walker_tell_23 : decode me_Walker_tell.2.1 23 = .ok (.getfield 19, 3) := by decide +kernel
theorem d_Walker_tell_26 : decode me_Walker_tell.2.1 26 = .ok (.aload_n 0, 1) := by decide +kernel
theorem d_Walker_tell_27 : decode me_Walker_tell.2.1 27 = .ok (.getfield 9, 3) := by decide +kernel
theorem d_Walker_tell_30 : decode me_Walker_tell.2.1 30 = .ok (.iload_n 2, 1) := by decide +kernel
theorem d_Walker_tell_31 : decode me_Walker_tell.2.1 31 = .ok (.iastore, 1) := by decide +kernel
theorem d_Walker_tell_32 : decode me_Walker_tell.2.1 32 = .ok (.aload_n 0, 1) := by decide +kernel
theorem d_Walker_tell_33 : decode me_Walker_tell.2.1 33 = .ok (.dup, 1) := by decide +kernel
theorem d_Walker_tell_34 : decode me_Walker_tell.2.1 34 = .ok (.getfield 9, 3) := by decide +kernel
theorem d_Walker_tell_37 : decode me_Walker_tell.2.1 37 = .ok (.iconst 1, 1) := by decide +kernel
theorem d_Walker_tell_38 : decode me_Walker_tell.2.1 38 = .ok (.iadd, 1) := by decide +kernel
theorem d_Walker_tell_39 : decode me_Walker_tell.2.1 39 = .ok (.putfield 9, 3) := by decide +kernel
theorem d_Walker_tell_42 : decode me_Walker_tell.2.1 42 = .ok (.aload_n 0, 1) := by decide +kernel
theorem d_Walker_tell_43 : decode me_Walker_tell.2.1 43 = .ok (.getfield 9, 3) := by decide +kernel
theorem d_Walker_tell_46 : decode me_Walker_tell.2.1 46 = .ok (.iconst 1, 1) := by decide +kernel
theorem d_Walker_tell_47 : decode me_Walker_tell.2.1 47 = .ok (.isub, 1) := by decide +kernel
theorem d_Walker_tell_48 : decode me_Walker_tell.2.1 48 = .ok (.ireturn, 1) := by decide +kernel
noncomputable def f_Walker_tell  (a1 : Int32) (a2 : Int32) (m0 : gk_M) : Option (Int32 × gk_M) :=
  if (m0.1 28 0) < 10 then
    gk_si m0 29 10 (m0.1 28 0) a1 fun m1 =>
    gk_si m1 30 10 (m1.1 28 0) a2 fun m2 =>
    gk_let (gk_mi m2 28 0 ((m2.1 28 0) + 1)) fun m3 =>
    some (((m3.1 28 0) - 1), m3)
  else
    some ((-3), m0)

theorem s_Walker_tell_0 {z : gk_Z} (K : gk_F tx z me_Walker_tell 1) {r : Int32} {mem2 : gk_M} : ∀ a1 a2 m0, f_Walker_tell a1 a2 m0 = some (r, mem2) → gk_G tx z me_Walker_tell (gk_R tx z (some (.int r)) mem2) m0 [(0, .ref 28), (1, .int a1), (2, .int a2)] [] 0 := by
  intro a1 a2 m0  h
  unfold f_Walker_tell at h
  refine gk_aload_n (pc := 0) K d_Walker_tell_0 rfl ?_
  refine gk_get (pc := 1) K d_Walker_tell_1 fl_Walker_9 tx_28 rfl rfl ?_
  refine gk_bipush (pc := 4) K d_Walker_tell_4 kb_10 ?_
  refine gk_ic_lt (tgt := 12) (pc := 6) K d_Walker_tell_6 (by decide) h (fun h => ?_) (fun h => ?_)
  · refine gk_aload_n (pc := 12) K d_Walker_tell_12 rfl ?_
    refine gk_get (pc := 13) K d_Walker_tell_13 fl_Walker_15 tx_28 rfl rfl ?_
    refine gk_aload_n (pc := 16) K d_Walker_tell_16 rfl ?_
    refine gk_get (pc := 17) K d_Walker_tell_17 fl_Walker_9 tx_28 rfl rfl ?_
    refine gk_iload_n (pc := 20) K d_Walker_tell_20 rfl ?_
    refine gk_iast (pc := 21) K d_Walker_tell_21 tx_29 h (fun m1 h => ?_)
    refine gk_aload_n (pc := 22) K d_Walker_tell_22 rfl ?_
    refine gk_get (pc := 23) K d_Walker_tell_23 fl_Walker_19 tx_28 rfl rfl ?_
    refine gk_aload_n (pc := 26) K d_Walker_tell_26 rfl ?_
    refine gk_get (pc := 27) K d_Walker_tell_27 fl_Walker_9 tx_28 rfl rfl ?_
    refine gk_iload_n (pc := 30) K d_Walker_tell_30 rfl ?_
    refine gk_iast (pc := 31) K d_Walker_tell_31 tx_30 h (fun m2 h => ?_)
    refine gk_aload_n (pc := 32) K d_Walker_tell_32 rfl ?_
    refine gk_dup (pc := 33) K d_Walker_tell_33 rfl ?_
    refine gk_get (pc := 34) K d_Walker_tell_34 fl_Walker_9 tx_28 rfl rfl ?_
    refine gk_iconst (pc := 37) K d_Walker_tell_37 kc_1 ?_
    refine gk_iadd (pc := 38) K d_Walker_tell_38 ?_
    refine gk_puti (pc := 39) K d_Walker_tell_39 fp_Walker_9 tx_28 rfl h (fun m3 h => ?_)
    refine gk_aload_n (pc := 42) K d_Walker_tell_42 rfl ?_
    refine gk_get (pc := 43) K d_Walker_tell_43 fl_Walker_9 tx_28 rfl rfl ?_
    refine gk_iconst (pc := 46) K d_Walker_tell_46 kc_1 ?_
    refine gk_isub (pc := 47) K d_Walker_tell_47 ?_
    exact gk_iret (pc := 48) K d_Walker_tell_48 rfl h
  · refine gk_bipush (pc := 9) K d_Walker_tell_9 kb_m3 ?_
    exact gk_iret (pc := 11) K d_Walker_tell_11 rfl h
theorem s_Walker_tell {l : Launch} {u : gk_U} (hD : gk_D tx u) {a1 : Int32} {a2 : Int32} {m0 mem2 : gk_M} {r : Int32} (h : f_Walker_tell a1 a2 m0 = some (r, mem2)) : gk_C tx l u me_Walker_tell 1 [.ref 28, .int a1, .int a2] m0 (some (.int r)) mem2 :=
  gk_enter hD mc_Walker_tell (Nat.le_of_ble_eq_true rfl) rfl (fun z _ _ K => s_Walker_tell_0 K _ _ _  h)
theorem d_X_sight_0 : decode me_X_sight.2.1 0 = .ok (.iload_n 1, 1) := by decide +kernel
theorem d_X_sight_1 : decode me_X_sight.2.1 1 = .ok (.invokestatic 99, 3) := by decide +kernel
theorem d_X_sight_4 : decode me_X_sight.2.1 4 = .ok (.ifCond .eq 14, 3) := by decide +kernel
theorem d_X_sight_7 : decode me_X_sight.2.1 7 = .ok (.iload_n 2, 1) := by decide +kernel
theorem d_X_sight_8 : decode me_X_sight.2.1 8 = .ok (.ifCond .lt 10, 3) := by decide +kernel
theorem d_X_sight_11 : decode me_X_sight.2.1 11 = .ok (.iload_n 2, 1) := by decide +kernel
theorem d_X_sight_12 : decode me_X_sight.2.1 12 = .ok (.sipush 1023, 3) := by decide +kernel
theorem d_X_sight_15 : decode me_X_sight.2.1 15 = .ok (.if_icmp .le 5, 3) := by decide +kernel
theorem d_X_sight_18 : decode me_X_sight.2.1 18 = .ok (.iconst (-1), 1) := by decide +kernel
theorem d_X_sight_19 : decode me_X_sight.2.1 19 = .ok (.ireturn, 1) := by decide +kernel
theorem d_X_sight_20 : decode me_X_sight.2.1 20 = .ok (.aload_n 0, 1) := by decide +kernel
theorem d_X_sight_21 : decode me_X_sight.2.1 21 = .ok (.getfield 51, 3) := by decide +kernel
theorem d_X_sight_24 : decode me_X_sight.2.1 24 = .ok (.iload_n 1, 1) := by decide +kernel
theorem d_X_sight_25 : decode me_X_sight.2.1 25 = .ok (.iload_n 2, 1) := by decide +kernel
theorem d_X_sight_26 : decode me_X_sight.2.1 26 = .ok (.invokevirtual 261, 3) := by decide +kernel
theorem d_X_sight_29 : decode me_X_sight.2.1 29 = .ok (.ireturn, 1) := by decide +kernel
noncomputable def f_X_sight  (a1 : Int32) (a2 : Int32) (m0 : gk_M) : Option (Int32 × gk_M) :=
  gk_bi (f_X_isPoint a1 m0) fun v2 m1 =>
  if v2 = 0 then
    some ((-1), m1)
  else
    if a2 < 0 then
      some ((-1), m1)
    else
      if a2 ≤ 1023 then
        gk_bi (f_Walker_tell a1 a2 m1) fun v4 m3 =>
        some (v4, m3)
      else
        some ((-1), m1)

theorem s_X_sight_0 {z : gk_Z} (K : gk_F tx z me_X_sight 2) {r : Int32} {mem2 : gk_M} : ∀ a1 a2 m0, f_X_sight a1 a2 m0 = some (r, mem2) → gk_G tx z me_X_sight (gk_R tx z (some (.int r)) mem2) m0 [(0, .ref 0), (1, .int a1), (2, .int a2)] [] 0 := by
  intro a1 a2 m0  h
  unfold f_X_sight at h
  refine gk_iload_n (pc := 0) K d_X_sight_0 rfl ?_
  obtain ⟨v2, m1, em1, h⟩ := gk_bi_some h
  refine gk_cSi (As := [.int a1]) (pc := 1) K d_X_sight_1 ms_X_99 mc_X_isPoint rfl (s_X_isPoint (gk_FD K)  em1) (by decide) rfl (Nat.le_of_ble_eq_true rfl) ?_
  refine gk_if_eq (tgt := 18) (pc := 4) K d_X_sight_4 (by decide) h (fun h => ?_) (fun h => ?_)
  · refine gk_iconst (pc := 18) K d_X_sight_18 kc_m1 ?_
    exact gk_iret (pc := 19) K d_X_sight_19 rfl h
  · refine gk_iload_n (pc := 7) K d_X_sight_7 rfl ?_
    refine gk_if_lt (tgt := 18) (pc := 8) K d_X_sight_8 (by decide) h (fun h => ?_) (fun h => ?_)
    · refine gk_iconst (pc := 18) K d_X_sight_18 kc_m1 ?_
      exact gk_iret (pc := 19) K d_X_sight_19 rfl h
    · refine gk_iload_n (pc := 11) K d_X_sight_11 rfl ?_
      refine gk_sipush (pc := 12) K d_X_sight_12 ks_1023 ?_
      refine gk_ic_le (tgt := 20) (pc := 15) K d_X_sight_15 (by decide) h (fun h => ?_) (fun h => ?_)
      · refine gk_aload_n (pc := 20) K d_X_sight_20 rfl ?_
        refine gk_get (pc := 21) K d_X_sight_21 fl_X_51 tx_0 rfl rfl ?_
        refine gk_iload_n (pc := 24) K d_X_sight_24 rfl ?_
        refine gk_iload_n (pc := 25) K d_X_sight_25 rfl ?_
        obtain ⟨v4, m3, em3, h⟩ := gk_bi_some h
        refine gk_cVi (As := [.int a1, .int a2]) (pc := 26) K d_X_sight_26 mv_X_261 mc_Walker_tell rfl tx_28 cl_ok5.1 (s_Walker_tell (gk_FD K)  em3) (by decide) rfl (Nat.le_of_ble_eq_true rfl) ?_
        exact gk_iret (pc := 29) K d_X_sight_29 rfl h
      · refine gk_iconst (pc := 18) K d_X_sight_18 kc_m1 ?_
        exact gk_iret (pc := 19) K d_X_sight_19 rfl h
theorem s_X_sight {l : Launch} {u : gk_U} (hD : gk_D tx u) {a1 : Int32} {a2 : Int32} {m0 mem2 : gk_M} {r : Int32} (h : f_X_sight a1 a2 m0 = some (r, mem2)) : gk_C tx l u me_X_sight 2 [.ref 0, .int a1, .int a2] m0 (some (.int r)) mem2 :=
  gk_enter hD mc_X_sight (Nat.le_of_ble_eq_true rfl) rfl (fun z _ _ K => s_X_sight_0 K _ _ _  h)
theorem d_Walker_agrees_0 : decode me_Walker_agrees.2.1 0 = .ok (.iconst 1, 1) := by decide +kernel
theorem d_Walker_agrees_1 : decode me_Walker_agrees.2.1 1 = .ok (.iload_n 1, 1) := by decide +kernel
theorem d_Walker_agrees_2 : decode me_Walker_agrees.2.1 2 = .ok (.ishl, 1) := by decide +kernel
theorem d_Walker_agrees_3 : decode me_Walker_agrees.2.1 3 = .ok (.iconst (-1), 1) := by decide +kernel
theorem d_Walker_agrees_4 : decode me_Walker_agrees.2.1 4 = .ok (.ixor, 1) := by decide +kernel
theorem d_Walker_agrees_5 : decode me_Walker_agrees.2.1 5 = .ok (.istore_n 2, 1) := by decide +kernel
theorem d_Walker_agrees_6 : decode me_Walker_agrees.2.1 6 = .ok (.iconst 0, 1) := by decide +kernel
theorem d_Walker_agrees_7 : decode me_Walker_agrees.2.1 7 = .ok (.istore_n 3, 1) := by decide +kernel
theorem d_Walker_agrees_8 : decode me_Walker_agrees.2.1 8 = .ok (.iload_n 3, 1) := by decide +kernel
theorem d_Walker_agrees_9 : decode me_Walker_agrees.2.1 9 = .ok (.aload_n 0, 1) := by decide +kernel
theorem d_Walker_agrees_10 : decode me_Walker_agrees.2.1 10 = .ok (.getfield 9, 3) := by decide +kernel
theorem d_Walker_agrees_13 : decode me_Walker_agrees.2.1 13 = .ok (.if_icmp .ge 41, 3) := by decide +kernel
theorem d_Walker_agrees_16 : decode me_Walker_agrees.2.1 16 = .ok (.aload_n 0, 1) := by decide +kernel
theorem d_Walker_agrees_17 : decode me_Walker_agrees.2.1 17 = .ok (.getfield 25, 3) := by decide +kernel
theorem d_Walker_agrees_20 : decode me_Walker_agrees.2.1 20 = .ok (.aload_n 0, 1) := by decide +kernel
theorem d_Walker_agrees_21 : decode me_Walker_agrees.2.1 21 = .ok (.getfield 15, 3) := by decide +kernel
theorem d_Walker_agrees_24 : decode me_Walker_agrees.2.1 24 = .ok (.iload_n 3, 1) := by decide +kernel
theorem d_Walker_agrees_25 : decode me_Walker_agrees.2.1 25 = .ok (.iaload, 1) := by decide +kernel
theorem d_Walker_agrees_26 : decode me_Walker_agrees.2.1 26 = .ok (.iload_n 2, 1) := by decide +kernel
theorem d_Walker_agrees_27 : decode me_Walker_agrees.2.1 27 = .ok (.aload_n 0, 1) := by decide +kernel
theorem d_Walker_agrees_28 : decode me_Walker_agrees.2.1 28 = .ok (.getfield 22, 3) := by decide +kernel
theorem d_Walker_agrees_31 : decode me_Walker_agrees.2.1 31 = .ok (.iload_n 3, 1) := by decide +kernel
theorem d_Walker_agrees_32 : decode me_Walker_agrees.2.1 32 = .ok (.iaload, 1) := by decide +kernel
theorem d_Walker_agrees_33 : decode me_Walker_agrees.2.1 33 = .ok (.iload_n 1, 1) := by decide +kernel
theorem d_Walker_agrees_34 : decode me_Walker_agrees.2.1 34 = .ok (.invokevirtual 50, 3) := by decide +kernel
theorem d_Walker_agrees_37 : decode me_Walker_agrees.2.1 37 = .ok (.aload_n 0, 1) := by decide +kernel
theorem d_Walker_agrees_38 : decode me_Walker_agrees.2.1 38 = .ok (.getfield 19, 3) := by decide +kernel
theorem d_Walker_agrees_41 : decode me_Walker_agrees.2.1 41 = .ok (.iload_n 3, 1) := by decide +kernel
theorem d_Walker_agrees_42 : decode me_Walker_agrees.2.1 42 = .ok (.iaload, 1) := by decide +kernel
theorem d_Walker_agrees_43 : decode me_Walker_agrees.2.1 43 = .ok (.if_icmp .eq 5, 3) := by decide +kernel
theorem d_Walker_agrees_46 : decode me_Walker_agrees.2.1 46 = .ok (.iconst 0, 1) := by decide +kernel
theorem d_Walker_agrees_47 : decode me_Walker_agrees.2.1 47 = .ok (.ireturn, 1) := by decide +kernel
theorem d_Walker_agrees_48 : decode me_Walker_agrees.2.1 48 = .ok (.iinc 3 1, 3) := by decide +kernel
theorem d_Walker_agrees_51 : decode me_Walker_agrees.2.1 51 = .ok (.goto (-43), 3) := by decide +kernel
theorem d_Walker_agrees_54 : decode me_Walker_agrees.2.1 54 = .ok (.iconst 1, 1) := by decide +kernel
theorem d_Walker_agrees_55 : decode me_Walker_agrees.2.1 55 = .ok (.ireturn, 1) := by decide +kernel
noncomputable def f_Walker_agrees_8  : Nat → Int32 → Int32 → Int32 → gk_M → Option (Int32 × gk_M)
  | 0, _, _, _, _ => none
  | n + 1, a1, a2, a3, m0 =>
    if (m0.1 28 0) ≤ a3 then
      some (1, m0)
    else
      gk_ai m0 29 10 a3 fun v1 =>
      gk_ai m0 31 10 a3 fun v2 =>
      gk_bi (f_Plain_joinSeen v1 a2 v2 a1 m0) fun v4 m3 =>
      gk_ai m3 30 10 a3 fun v5 =>
      if v4 = v5 then
        f_Walker_agrees_8 n a1 a2 (a3 + 1) m3
      else
        some (0, m3)

theorem s_Walker_agrees_8 {z : gk_Z} (K : gk_F tx z me_Walker_agrees 5) {r : Int32} {mem2 : gk_M} : ∀ n a1 a2 a3 m0, f_Walker_agrees_8 n a1 a2 a3 m0 = some (r, mem2) → gk_G tx z me_Walker_agrees (gk_R tx z (some (.int r)) mem2) m0 [(0, .ref 28), (1, .int a1), (2, .int a2), (3, .int a3)] [] 8 := by
  intro n
  induction n with
  | zero => intro a1 a2 a3 m0  h; exact nomatch (show (none : Option _) = some _ from h)
  | succ n ih =>
    intro a1 a2 a3 m0  h
    unfold f_Walker_agrees_8 at h
    refine gk_iload_n (pc := 8) K d_Walker_agrees_8 rfl ?_
    refine gk_aload_n (pc := 9) K d_Walker_agrees_9 rfl ?_
    refine gk_get (pc := 10) K d_Walker_agrees_10 fl_Walker_9 tx_28 rfl rfl ?_
    refine gk_ic_ge (tgt := 54) (pc := 13) K d_Walker_agrees_13 (by decide) h (fun h => ?_) (fun h => ?_)
    · refine gk_iconst (pc := 54) K d_Walker_agrees_54 kc_1 ?_
      exact gk_zretc (pc := 55) K d_Walker_agrees_55 rfl (Or.inr rfl) h
    · refine gk_aload_n (pc := 16) K d_Walker_agrees_16 rfl ?_
      refine gk_get (pc := 17) K d_Walker_agrees_17 fl_Walker_25 tx_28 rfl rfl ?_
      refine gk_aload_n (pc := 20) K d_Walker_agrees_20 rfl ?_
      refine gk_get (pc := 21) K d_Walker_agrees_21 fl_Walker_15 tx_28 rfl rfl ?_
      refine gk_iload_n (pc := 24) K d_Walker_agrees_24 rfl ?_
      refine gk_iald (pc := 25) K d_Walker_agrees_25 tx_29 h (fun v1 h => ?_)
      refine gk_iload_n (pc := 26) K d_Walker_agrees_26 rfl ?_
      refine gk_aload_n (pc := 27) K d_Walker_agrees_27 rfl ?_
      refine gk_get (pc := 28) K d_Walker_agrees_28 fl_Walker_22 tx_28 rfl rfl ?_
      refine gk_iload_n (pc := 31) K d_Walker_agrees_31 rfl ?_
      refine gk_iald (pc := 32) K d_Walker_agrees_32 tx_31 h (fun v2 h => ?_)
      refine gk_iload_n (pc := 33) K d_Walker_agrees_33 rfl ?_
      obtain ⟨v4, m3, em3, h⟩ := gk_bi_some h
      refine gk_cVi (As := [.int v1, .int a2, .int v2, .int a1]) (pc := 34) K d_Walker_agrees_34 mv_Walker_50 mc_Plain_joinSeen rfl tx_7 cl_ok2.1 (s_Plain_joinSeen (gk_FD K)  em3) (by decide) rfl (Nat.le_of_ble_eq_true rfl) ?_
      refine gk_aload_n (pc := 37) K d_Walker_agrees_37 rfl ?_
      refine gk_get (pc := 38) K d_Walker_agrees_38 fl_Walker_19 tx_28 rfl rfl ?_
      refine gk_iload_n (pc := 41) K d_Walker_agrees_41 rfl ?_
      refine gk_iald (pc := 42) K d_Walker_agrees_42 tx_30 h (fun v5 h => ?_)
      refine gk_ic_eq (tgt := 48) (pc := 43) K d_Walker_agrees_43 (by decide) h (fun h => ?_) (fun h => ?_)
      · refine gk_iinc2 (lv2 := [(3, .int (a3 + 1)), (0, .ref 28), (1, .int a1), (2, .int a2)]) (pc := 48) K d_Walker_agrees_48 rfl kc_1 (by decide) rfl ?_
        refine gk_goto (tgt := 8) (pc := 51) K d_Walker_agrees_51 (by decide) ?_
        exact gk_sub [1, 2, 3, 0] rfl (ih _ _ _ _  h)
      · refine gk_iconst (pc := 46) K d_Walker_agrees_46 kc_0 ?_
        exact gk_zretc (pc := 47) K d_Walker_agrees_47 rfl (Or.inl rfl) h
noncomputable def f_Walker_agrees  (a1 : Int32) (m0 : gk_M) : Option (Int32 × gk_M) :=
  gk_let ((1 <<< (a1 &&& 31)) ^^^ (-1)) fun v1 =>
  f_Walker_agrees_8 gk_fv a1 v1 0 m0

theorem s_Walker_agrees_0 {z : gk_Z} (K : gk_F tx z me_Walker_agrees 5) {r : Int32} {mem2 : gk_M} : ∀ a1 m0, f_Walker_agrees a1 m0 = some (r, mem2) → gk_G tx z me_Walker_agrees (gk_R tx z (some (.int r)) mem2) m0 [(0, .ref 28), (1, .int a1)] [] 0 := by
  intro a1 m0  h
  unfold f_Walker_agrees at h
  refine gk_iconst (pc := 0) K d_Walker_agrees_0 kc_1 ?_
  refine gk_iload_n (pc := 1) K d_Walker_agrees_1 rfl ?_
  refine gk_ishl (pc := 2) K d_Walker_agrees_2 ?_
  refine gk_iconst (pc := 3) K d_Walker_agrees_3 kc_m1 ?_
  refine gk_ixor (pc := 4) K d_Walker_agrees_4 ?_
  refine gk_topi h (fun v1 h => ?_)
  refine gk_istore_n (lv2 := [(2, .int v1), (0, .ref 28), (1, .int a1)]) (pc := 5) K d_Walker_agrees_5 (by decide) rfl ?_
  refine gk_iconst (pc := 6) K d_Walker_agrees_6 kc_0 ?_
  refine gk_istore_n (lv2 := [(3, .int 0), (2, .int v1), (0, .ref 28), (1, .int a1)]) (pc := 7) K d_Walker_agrees_7 (by decide) rfl ?_
  exact gk_sub [2, 3, 1, 0] rfl (s_Walker_agrees_8 K _ _ _ _ _  h)
theorem s_Walker_agrees {l : Launch} {u : gk_U} (hD : gk_D tx u) {a1 : Int32} {m0 mem2 : gk_M} {r : Int32} (h : f_Walker_agrees a1 m0 = some (r, mem2)) : gk_C tx l u me_Walker_agrees 5 [.ref 28, .int a1] m0 (some (.int r)) mem2 :=
  gk_enter hD mc_Walker_agrees (Nat.le_of_ble_eq_true rfl) rfl (fun z _ _ K => s_Walker_agrees_0 K _ _  h)
theorem d_Walker_placesFor_0 : decode me_Walker_placesFor.2.1 0 = .ok (.iconst 0, 1) := by decide +kernel
theorem d_Walker_placesFor_1 : decode me_Walker_placesFor.2.1 1 = .ok (.istore_n 3, 1) := by decide +kernel
theorem d_Walker_placesFor_2 : decode me_Walker_placesFor.2.1 2 = .ok (.iload_n 3, 1) := by decide +kernel
theorem d_Walker_placesFor_3 : decode me_Walker_placesFor.2.1 3 = .ok (.aload_n 0, 1) := by decide +kernel
theorem d_Walker_placesFor_4 : decode me_Walker_placesFor.2.1 4 = .ok (.getfield 9, 3) := by decide +kernel
theorem d_Walker_placesFor_7 : decode me_Walker_placesFor.2.1 7 = .ok (.if_icmp .ge 29, 3) := by decide +kernel
theorem d_Walker_placesFor_10 : decode me_Walker_placesFor.2.1 10 = .ok (.aload_n 0, 1) := by decide +kernel
theorem d_Walker_placesFor_11 : decode me_Walker_placesFor.2.1 11 = .ok (.getfield 22, 3) := by decide +kernel
theorem d_Walker_placesFor_14 : decode me_Walker_placesFor.2.1 14 = .ok (.iload_n 3, 1) := by decide +kernel
theorem d_Walker_placesFor_15 : decode me_Walker_placesFor.2.1 15 = .ok (.aload_n 0, 1) := by decide +kernel
theorem d_Walker_placesFor_16 : decode me_Walker_placesFor.2.1 16 = .ok (.getfield 25, 3) := by decide +kernel
theorem d_Walker_placesFor_19 : decode me_Walker_placesFor.2.1 19 = .ok (.aload_n 0, 1) := by decide +kernel
theorem d_Walker_placesFor_20 : decode me_Walker_placesFor.2.1 20 = .ok (.getfield 15, 3) := by decide +kernel
theorem d_Walker_placesFor_23 : decode me_Walker_placesFor.2.1 23 = .ok (.iload_n 3, 1) := by decide +kernel
theorem d_Walker_placesFor_24 : decode me_Walker_placesFor.2.1 24 = .ok (.iaload, 1) := by decide +kernel
theorem d_Walker_placesFor_25 : decode me_Walker_placesFor.2.1 25 = .ok (.iload_n 1, 1) := by decide +kernel
theorem d_Walker_placesFor_26 : decode me_Walker_placesFor.2.1 26 = .ok (.invokevirtual 29, 3) := by decide +kernel
theorem d_Walker_placesFor_29 : decode me_Walker_placesFor.2.1 29 = .ok (.iastore, 1) := by decide +kernel
theorem d_Walker_placesFor_30 : decode me_Walker_placesFor.2.1 30 = .ok (.iinc 3 1, 3) := by decide +kernel
theorem d_Walker_placesFor_33 : decode me_Walker_placesFor.2.1 33 = .ok (.goto (-31), 3) := by decide +kernel
theorem d_Walker_placesFor_36 : decode me_Walker_placesFor.2.1 36 = .ok (.aload_n 0, 1) := by decide +kernel
theorem d_Walker_placesFor_37 : decode me_Walker_placesFor.2.1 37 = .ok (.getfield 25, 3) := by decide +kernel
theorem d_Walker_placesFor_40 : decode me_Walker_placesFor.2.1 40 = .ok (.iload_n 1, 1) := by decide +kernel
theorem d_Walker_placesFor_41 : decode me_Walker_placesFor.2.1 41 = .ok (.invokevirtual 35, 3) := by decide +kernel
theorem d_Walker_placesFor_44 : decode me_Walker_placesFor.2.1 44 = .ok (.istore_n 3, 1) := by decide +kernel
theorem d_Walker_placesFor_45 : decode me_Walker_placesFor.2.1 45 = .ok (.iconst 0, 1) := by decide +kernel
theorem d_Walker_placesFor_46 : decode me_Walker_placesFor.2.1 46 = .ok (.istore 4, 2) := by decide +kernel
theorem d_Walker_placesFor_48 : decode me_Walker_placesFor.2.1 48 = .ok (.bipush (-2), 2) := by decide +kernel
theorem d_Walker_placesFor_50 : decode me_Walker_placesFor.2.1 50 = .ok (.istore 5, 2) := by decide +kernel
theorem d_Walker_placesFor_52 : decode me_Walker_placesFor.2.1 52 = .ok (.iconst 0, 1) := by decide +kernel
theorem d_Walker_placesFor_53 : decode me_Walker_placesFor.2.1 53 = .ok (.istore 6, 2) := by decide +kernel
theorem d_Walker_placesFor_55 : decode me_Walker_placesFor.2.1 55 = .ok (.iload 6, 2) := by decide +kernel
theorem d_Walker_placesFor_57 : decode me_Walker_placesFor.2.1 57 = .ok (.sipush 900, 3) := by decide +kernel
theorem d_Walker_placesFor_60 : decode me_Walker_placesFor.2.1 60 = .ok (.if_icmp .ge 74, 3) := by decide +kernel
theorem d_Walker_placesFor_63 : decode me_Walker_placesFor.2.1 63 = .ok (.aload_n 0, 1) := by decide +kernel
theorem d_Walker_placesFor_64 : decode me_Walker_placesFor.2.1 64 = .ok (.getfield 25, 3) := by decide +kernel
theorem d_Walker_placesFor_67 : decode me_Walker_placesFor.2.1 67 = .ok (.iload_n 1, 1) := by decide +kernel
theorem d_Walker_placesFor_68 : decode me_Walker_placesFor.2.1 68 = .ok (.iload_n 3, 1) := by decide +kernel
theorem d_Walker_placesFor_69 : decode me_Walker_placesFor.2.1 69 = .ok (.invokevirtual 39, 3) := by decide +kernel
theorem d_Walker_placesFor_72 : decode me_Walker_placesFor.2.1 72 = .ok (.iload 6, 2) := by decide +kernel
theorem d_Walker_placesFor_74 : decode me_Walker_placesFor.2.1 74 = .ok (.iload_n 3, 1) := by decide +kernel
theorem d_Walker_placesFor_75 : decode me_Walker_placesFor.2.1 75 = .ok (.if_icmp .eq 18, 3) := by decide +kernel
theorem d_Walker_placesFor_78 : decode me_Walker_placesFor.2.1 78 = .ok (.aload_n 0, 1) := by decide +kernel
theorem d_Walker_placesFor_79 : decode me_Walker_placesFor.2.1 79 = .ok (.getfield 25, 3) := by decide +kernel
theorem d_Walker_placesFor_82 : decode me_Walker_placesFor.2.1 82 = .ok (.iload 6, 2) := by decide +kernel
theorem d_Walker_placesFor_84 : decode me_Walker_placesFor.2.1 84 = .ok (.invokevirtual 43, 3) := by decide +kernel
theorem d_Walker_placesFor_87 : decode me_Walker_placesFor.2.1 87 = .ok (.ifCond .eq 6, 3) := by decide +kernel
theorem d_Walker_placesFor_90 : decode me_Walker_placesFor.2.1 90 = .ok (.goto 38, 3) := by decide +kernel
theorem d_Walker_placesFor_93 : decode me_Walker_placesFor.2.1 93 = .ok (.aload_n 0, 1) := by decide +kernel
theorem d_Walker_placesFor_94 : decode me_Walker_placesFor.2.1 94 = .ok (.getfield 25, 3) := by decide +kernel
theorem d_Walker_placesFor_97 : decode me_Walker_placesFor.2.1 97 = .ok (.iload_n 1, 1) := by decide +kernel
theorem d_Walker_placesFor_98 : decode me_Walker_placesFor.2.1 98 = .ok (.iload 6, 2) := by decide +kernel
theorem d_Walker_placesFor_100 : decode me_Walker_placesFor.2.1 100 = .ok (.invokevirtual 39, 3) := by decide +kernel
theorem d_Walker_placesFor_103 : decode me_Walker_placesFor.2.1 103 = .ok (.aload_n 0, 1) := by decide +kernel
theorem d_Walker_placesFor_104 : decode me_Walker_placesFor.2.1 104 = .ok (.iload_n 1, 1) := by decide +kernel
theorem d_Walker_placesFor_105 : decode me_Walker_placesFor.2.1 105 = .ok (.invokevirtual 47, 3) := by decide +kernel
theorem d_Walker_placesFor_108 : decode me_Walker_placesFor.2.1 108 = .ok (.ifCond .eq 20, 3) := by decide +kernel
theorem d_Walker_placesFor_111 : decode me_Walker_placesFor.2.1 111 = .ok (.iload 4, 2) := by decide +kernel
theorem d_Walker_placesFor_113 : decode me_Walker_placesFor.2.1 113 = .ok (.ifCond .ne 8, 3) := by decide +kernel
theorem d_Walker_placesFor_116 : decode me_Walker_placesFor.2.1 116 = .ok (.iload 6, 2) := by decide +kernel
theorem d_Walker_placesFor_118 : decode me_Walker_placesFor.2.1 118 = .ok (.goto 5, 3) := by decide +kernel
theorem d_Walker_placesFor_121 : decode me_Walker_placesFor.2.1 121 = .ok (.iload 5, 2) := by decide +kernel
theorem d_Walker_placesFor_123 : decode me_Walker_placesFor.2.1 123 = .ok (.istore 5, 2) := by decide +kernel
theorem d_Walker_placesFor_125 : decode me_Walker_placesFor.2.1 125 = .ok (.iinc 4 1, 3) := by decide +kernel
theorem d_Walker_placesFor_128 : decode me_Walker_placesFor.2.1 128 = .ok (.iinc 6 1, 3) := by decide +kernel
theorem d_Walker_placesFor_131 : decode me_Walker_placesFor.2.1 131 = .ok (.goto (-76), 3) := by decide +kernel
theorem d_Walker_placesFor_134 : decode me_Walker_placesFor.2.1 134 = .ok (.aload_n 0, 1) := by decide +kernel
theorem d_Walker_placesFor_135 : decode me_Walker_placesFor.2.1 135 = .ok (.getfield 25, 3) := by decide +kernel
theorem d_Walker_placesFor_138 : decode me_Walker_placesFor.2.1 138 = .ok (.iload_n 1, 1) := by decide +kernel
theorem d_Walker_placesFor_139 : decode me_Walker_placesFor.2.1 139 = .ok (.iload_n 3, 1) := by decide +kernel
theorem d_Walker_placesFor_140 : decode me_Walker_placesFor.2.1 140 = .ok (.invokevirtual 39, 3) := by decide +kernel
theorem d_Walker_placesFor_143 : decode me_Walker_placesFor.2.1 143 = .ok (.iload_n 2, 1) := by decide +kernel
theorem d_Walker_placesFor_144 : decode me_Walker_placesFor.2.1 144 = .ok (.ifCond .eq 8, 3) := by decide +kernel
theorem d_Walker_placesFor_147 : decode me_Walker_placesFor.2.1 147 = .ok (.iload 5, 2) := by decide +kernel
theorem d_Walker_placesFor_149 : decode me_Walker_placesFor.2.1 149 = .ok (.goto 5, 3) := by decide +kernel
theorem d_Walker_placesFor_152 : decode me_Walker_placesFor.2.1 152 = .ok (.iload 4, 2) := by decide +kernel
theorem d_Walker_placesFor_154 : decode me_Walker_placesFor.2.1 154 = .ok (.ireturn, 1) := by decide +kernel
noncomputable def f_Walker_placesFor_123 (k55 : Int32 → Int32 → Int32 → Int32 → Int32 → Int32 → gk_M → Option (Int32 × gk_M)) (a1 : Int32) (a2 : Int32) (a3 : Int32) (a4 : Int32) (a6 : Int32) (s0 : Int32) (m0 : gk_M) : Option (Int32 × gk_M) :=
  k55 a1 a2 a3 (a4 + 1) s0 (a6 + 1) m0

theorem s_Walker_placesFor_123 {z : gk_Z} (K : gk_F tx z me_Walker_placesFor 6) {r : Int32} {mem2 : gk_M} {k55 : Int32 → Int32 → Int32 → Int32 → Int32 → Int32 → gk_M → Option (Int32 × gk_M)} (hk55 : ∀ a1 a2 a3 a4 a5 a6 m0, k55 a1 a2 a3 a4 a5 a6 m0 = some (r, mem2) → gk_G tx z me_Walker_placesFor (gk_R tx z (some (.int r)) mem2) m0 [(0, .ref 28), (1, .int a1), (2, .int a2), (3, .int a3), (4, .int a4), (5, .int a5), (6, .int a6)] [] 55) : ∀ a1 a2 a3 a4 a6 s0 m0, f_Walker_placesFor_123 k55 a1 a2 a3 a4 a6 s0 m0 = some (r, mem2) → gk_G tx z me_Walker_placesFor (gk_R tx z (some (.int r)) mem2) m0 [(0, .ref 28), (1, .int a1), (2, .int a2), (3, .int a3), (4, .int a4), (6, .int a6)] [.int s0] 123 := by
  intro a1 a2 a3 a4 a6 s0 m0  h
  unfold f_Walker_placesFor_123 at h
  refine gk_istore (lv2 := [(5, .int s0), (0, .ref 28), (1, .int a1), (2, .int a2), (3, .int a3), (4, .int a4), (6, .int a6)]) (pc := 123) K d_Walker_placesFor_123 (by decide) rfl ?_
  refine gk_iinc2 (lv2 := [(4, .int (a4 + 1)), (5, .int s0), (0, .ref 28), (1, .int a1), (2, .int a2), (3, .int a3), (6, .int a6)]) (pc := 125) K d_Walker_placesFor_125 rfl kc_1 (by decide) rfl ?_
  refine gk_iinc2 (lv2 := [(6, .int (a6 + 1)), (4, .int (a4 + 1)), (5, .int s0), (0, .ref 28), (1, .int a1), (2, .int a2), (3, .int a3)]) (pc := 128) K d_Walker_placesFor_128 rfl kc_1 (by decide) rfl ?_
  refine gk_goto (tgt := 55) (pc := 131) K d_Walker_placesFor_131 (by decide) ?_
  exact gk_sub [3, 4, 5, 6, 1, 2, 0] rfl (hk55 _ _ _ _ _ _ _  h)
noncomputable def f_Walker_placesFor_93 (k55 : Int32 → Int32 → Int32 → Int32 → Int32 → Int32 → gk_M → Option (Int32 × gk_M)) (a1 : Int32) (a2 : Int32) (a3 : Int32) (a4 : Int32) (a5 : Int32) (a6 : Int32) (m0 : gk_M) : Option (Int32 × gk_M) :=
  gk_bv (f_Plain_place a1 a6 m0) fun m1 =>
  gk_bi (f_Walker_agrees a1 m1) fun v3 m2 =>
  if v3 = 0 then
    k55 a1 a2 a3 a4 a5 (a6 + 1) m2
  else
    if ¬ a4 = 0 then
      f_Walker_placesFor_123 k55 a1 a2 a3 a4 a6 a5 m2
    else
      f_Walker_placesFor_123 k55 a1 a2 a3 a4 a6 a6 m2

theorem s_Walker_placesFor_93 {z : gk_Z} (K : gk_F tx z me_Walker_placesFor 6) {r : Int32} {mem2 : gk_M} {k55 : Int32 → Int32 → Int32 → Int32 → Int32 → Int32 → gk_M → Option (Int32 × gk_M)} (hk55 : ∀ a1 a2 a3 a4 a5 a6 m0, k55 a1 a2 a3 a4 a5 a6 m0 = some (r, mem2) → gk_G tx z me_Walker_placesFor (gk_R tx z (some (.int r)) mem2) m0 [(0, .ref 28), (1, .int a1), (2, .int a2), (3, .int a3), (4, .int a4), (5, .int a5), (6, .int a6)] [] 55) : ∀ a1 a2 a3 a4 a5 a6 m0, f_Walker_placesFor_93 k55 a1 a2 a3 a4 a5 a6 m0 = some (r, mem2) → gk_G tx z me_Walker_placesFor (gk_R tx z (some (.int r)) mem2) m0 [(0, .ref 28), (1, .int a1), (2, .int a2), (3, .int a3), (4, .int a4), (5, .int a5), (6, .int a6)] [] 93 := by
  intro a1 a2 a3 a4 a5 a6 m0  h
  unfold f_Walker_placesFor_93 at h
  refine gk_aload_n (pc := 93) K d_Walker_placesFor_93 rfl ?_
  refine gk_get (pc := 94) K d_Walker_placesFor_94 fl_Walker_25 tx_28 rfl rfl ?_
  refine gk_iload_n (pc := 97) K d_Walker_placesFor_97 rfl ?_
  refine gk_iload (pc := 98) K d_Walker_placesFor_98 rfl ?_
  obtain ⟨m1, em1, h⟩ := gk_bv_some h
  refine gk_cVv (As := [.int a1, .int a6]) (pc := 100) K d_Walker_placesFor_100 mv_Walker_39 mc_Plain_place rfl tx_7 cl_ok2.1 (s_Plain_place (gk_FD K)  em1) (by decide) rfl (Nat.le_of_ble_eq_true rfl) ?_
  refine gk_aload_n (pc := 103) K d_Walker_placesFor_103 rfl ?_
  refine gk_iload_n (pc := 104) K d_Walker_placesFor_104 rfl ?_
  obtain ⟨v3, m2, em2, h⟩ := gk_bi_some h
  refine gk_cVi (As := [.int a1]) (pc := 105) K d_Walker_placesFor_105 mv_Walker_47 mc_Walker_agrees rfl tx_28 cl_ok5.1 (s_Walker_agrees (gk_FD K)  em2) (by decide) rfl (Nat.le_of_ble_eq_true rfl) ?_
  refine gk_if_eq (tgt := 128) (pc := 108) K d_Walker_placesFor_108 (by decide) h (fun h => ?_) (fun h => ?_)
  · refine gk_iinc2 (lv2 := [(6, .int (a6 + 1)), (0, .ref 28), (1, .int a1), (2, .int a2), (3, .int a3), (4, .int a4), (5, .int a5)]) (pc := 128) K d_Walker_placesFor_128 rfl kc_1 (by decide) rfl ?_
    refine gk_goto (tgt := 55) (pc := 131) K d_Walker_placesFor_131 (by decide) ?_
    exact gk_sub [1, 2, 3, 4, 5, 6, 0] rfl (hk55 _ _ _ _ _ _ _  h)
  · refine gk_iload (pc := 111) K d_Walker_placesFor_111 rfl ?_
    refine gk_if_ne (tgt := 121) (pc := 113) K d_Walker_placesFor_113 (by decide) h (fun h => ?_) (fun h => ?_)
    · refine gk_iload (pc := 121) K d_Walker_placesFor_121 rfl ?_
      exact gk_sub [0, 1, 2, 3, 4, 6] rfl (s_Walker_placesFor_123 K hk55 _ _ _ _ _ _ _  h)
    · refine gk_iload (pc := 116) K d_Walker_placesFor_116 rfl ?_
      refine gk_goto (tgt := 123) (pc := 118) K d_Walker_placesFor_118 (by decide) ?_
      exact gk_sub [0, 1, 2, 3, 4, 6] rfl (s_Walker_placesFor_123 K hk55 _ _ _ _ _ _ _  h)
noncomputable def f_Walker_placesFor_55  : Nat → Int32 → Int32 → Int32 → Int32 → Int32 → Int32 → gk_M → Option (Int32 × gk_M)
  | 0, _, _, _, _, _, _, _ => none
  | n + 1, a1, a2, a3, a4, a5, a6, m0 =>
    if 900 ≤ a6 then
      gk_bv (f_Plain_place a1 a3 m0) fun m1 =>
      if a2 = 0 then
        some (a4, m1)
      else
        some (a5, m1)
    else
      gk_bv (f_Plain_place a1 a3 m0) fun m2 =>
      if a6 = a3 then
        f_Walker_placesFor_93 (f_Walker_placesFor_55 n) a1 a2 a3 a4 a5 a6 m2
      else
        gk_bi (f_Plain_hasTower a6 m2) fun v4 m3 =>
        if v4 = 0 then
          f_Walker_placesFor_93 (f_Walker_placesFor_55 n) a1 a2 a3 a4 a5 a6 m3
        else
          f_Walker_placesFor_55 n a1 a2 a3 a4 a5 (a6 + 1) m3

theorem s_Walker_placesFor_55 {z : gk_Z} (K : gk_F tx z me_Walker_placesFor 6) {r : Int32} {mem2 : gk_M} : ∀ n a1 a2 a3 a4 a5 a6 m0, f_Walker_placesFor_55 n a1 a2 a3 a4 a5 a6 m0 = some (r, mem2) → gk_G tx z me_Walker_placesFor (gk_R tx z (some (.int r)) mem2) m0 [(0, .ref 28), (1, .int a1), (2, .int a2), (3, .int a3), (4, .int a4), (5, .int a5), (6, .int a6)] [] 55 := by
  intro n
  induction n with
  | zero => intro a1 a2 a3 a4 a5 a6 m0  h; exact nomatch (show (none : Option _) = some _ from h)
  | succ n ih =>
    intro a1 a2 a3 a4 a5 a6 m0  h
    unfold f_Walker_placesFor_55 at h
    refine gk_iload (pc := 55) K d_Walker_placesFor_55 rfl ?_
    refine gk_sipush (pc := 57) K d_Walker_placesFor_57 ks_900 ?_
    refine gk_ic_ge (tgt := 134) (pc := 60) K d_Walker_placesFor_60 (by decide) h (fun h => ?_) (fun h => ?_)
    · refine gk_aload_n (pc := 134) K d_Walker_placesFor_134 rfl ?_
      refine gk_get (pc := 135) K d_Walker_placesFor_135 fl_Walker_25 tx_28 rfl rfl ?_
      refine gk_iload_n (pc := 138) K d_Walker_placesFor_138 rfl ?_
      refine gk_iload_n (pc := 139) K d_Walker_placesFor_139 rfl ?_
      obtain ⟨m1, em1, h⟩ := gk_bv_some h
      refine gk_cVv (As := [.int a1, .int a3]) (pc := 140) K d_Walker_placesFor_140 mv_Walker_39 mc_Plain_place rfl tx_7 cl_ok2.1 (s_Plain_place (gk_FD K)  em1) (by decide) rfl (Nat.le_of_ble_eq_true rfl) ?_
      refine gk_iload_n (pc := 143) K d_Walker_placesFor_143 rfl ?_
      refine gk_if_eq (tgt := 152) (pc := 144) K d_Walker_placesFor_144 (by decide) h (fun h => ?_) (fun h => ?_)
      · refine gk_iload (pc := 152) K d_Walker_placesFor_152 rfl ?_
        exact gk_iret (pc := 154) K d_Walker_placesFor_154 rfl h
      · refine gk_iload (pc := 147) K d_Walker_placesFor_147 rfl ?_
        refine gk_goto (tgt := 154) (pc := 149) K d_Walker_placesFor_149 (by decide) ?_
        exact gk_iret (pc := 154) K d_Walker_placesFor_154 rfl h
    · refine gk_aload_n (pc := 63) K d_Walker_placesFor_63 rfl ?_
      refine gk_get (pc := 64) K d_Walker_placesFor_64 fl_Walker_25 tx_28 rfl rfl ?_
      refine gk_iload_n (pc := 67) K d_Walker_placesFor_67 rfl ?_
      refine gk_iload_n (pc := 68) K d_Walker_placesFor_68 rfl ?_
      obtain ⟨m2, em2, h⟩ := gk_bv_some h
      refine gk_cVv (As := [.int a1, .int a3]) (pc := 69) K d_Walker_placesFor_69 mv_Walker_39 mc_Plain_place rfl tx_7 cl_ok2.1 (s_Plain_place (gk_FD K)  em2) (by decide) rfl (Nat.le_of_ble_eq_true rfl) ?_
      refine gk_iload (pc := 72) K d_Walker_placesFor_72 rfl ?_
      refine gk_iload_n (pc := 74) K d_Walker_placesFor_74 rfl ?_
      refine gk_ic_eq (tgt := 93) (pc := 75) K d_Walker_placesFor_75 (by decide) h (fun h => ?_) (fun h => ?_)
      · exact gk_sub [0, 1, 2, 3, 4, 5, 6] rfl (s_Walker_placesFor_93 K (fun x0 x1 x2 x3 x4 x5 m  h => ih x0 x1 x2 x3 x4 x5 m  h) _ _ _ _ _ _ _  h)
      · refine gk_aload_n (pc := 78) K d_Walker_placesFor_78 rfl ?_
        refine gk_get (pc := 79) K d_Walker_placesFor_79 fl_Walker_25 tx_28 rfl rfl ?_
        refine gk_iload (pc := 82) K d_Walker_placesFor_82 rfl ?_
        obtain ⟨v4, m3, em3, h⟩ := gk_bi_some h
        refine gk_cVi (As := [.int a6]) (pc := 84) K d_Walker_placesFor_84 mv_Walker_43 mc_Plain_hasTower rfl tx_7 cl_ok2.1 (s_Plain_hasTower (gk_FD K)  em3) (by decide) rfl (Nat.le_of_ble_eq_true rfl) ?_
        refine gk_if_eq (tgt := 93) (pc := 87) K d_Walker_placesFor_87 (by decide) h (fun h => ?_) (fun h => ?_)
        · exact gk_sub [0, 1, 2, 3, 4, 5, 6] rfl (s_Walker_placesFor_93 K (fun x0 x1 x2 x3 x4 x5 m  h => ih x0 x1 x2 x3 x4 x5 m  h) _ _ _ _ _ _ _  h)
        · refine gk_goto (tgt := 128) (pc := 90) K d_Walker_placesFor_90 (by decide) ?_
          refine gk_iinc2 (lv2 := [(6, .int (a6 + 1)), (0, .ref 28), (1, .int a1), (2, .int a2), (3, .int a3), (4, .int a4), (5, .int a5)]) (pc := 128) K d_Walker_placesFor_128 rfl kc_1 (by decide) rfl ?_
          refine gk_goto (tgt := 55) (pc := 131) K d_Walker_placesFor_131 (by decide) ?_
          exact gk_sub [1, 2, 3, 4, 5, 6, 0] rfl (ih _ _ _ _ _ _ _  h)
noncomputable def f_Walker_placesFor_2  : Nat → Int32 → Int32 → Int32 → gk_M → Option (Int32 × gk_M)
  | 0, _, _, _, _ => none
  | n + 1, a1, a2, a3, m0 =>
    if (m0.1 28 0) ≤ a3 then
      gk_bi (f_Plain_pointOf a1 m0) fun v2 m1 =>
      f_Walker_placesFor_55 gk_fv a1 a2 v2 0 (-2) 0 m1
    else
      gk_ai m0 29 10 a3 fun v3 =>
      gk_bi (f_Plain_seenFrom v3 a1 m0) fun v5 m4 =>
      gk_si m4 31 10 a3 v5 fun m6 =>
      f_Walker_placesFor_2 n a1 a2 (a3 + 1) m6

theorem s_Walker_placesFor_2 {z : gk_Z} (K : gk_F tx z me_Walker_placesFor 6) {r : Int32} {mem2 : gk_M} : ∀ n a1 a2 a3 m0, f_Walker_placesFor_2 n a1 a2 a3 m0 = some (r, mem2) → gk_G tx z me_Walker_placesFor (gk_R tx z (some (.int r)) mem2) m0 [(0, .ref 28), (1, .int a1), (2, .int a2), (3, .int a3)] [] 2 := by
  intro n
  induction n with
  | zero => intro a1 a2 a3 m0  h; exact nomatch (show (none : Option _) = some _ from h)
  | succ n ih =>
    intro a1 a2 a3 m0  h
    unfold f_Walker_placesFor_2 at h
    refine gk_iload_n (pc := 2) K d_Walker_placesFor_2 rfl ?_
    refine gk_aload_n (pc := 3) K d_Walker_placesFor_3 rfl ?_
    refine gk_get (pc := 4) K d_Walker_placesFor_4 fl_Walker_9 tx_28 rfl rfl ?_
    refine gk_ic_ge (tgt := 36) (pc := 7) K d_Walker_placesFor_7 (by decide) h (fun h => ?_) (fun h => ?_)
    · refine gk_aload_n (pc := 36) K d_Walker_placesFor_36 rfl ?_
      refine gk_get (pc := 37) K d_Walker_placesFor_37 fl_Walker_25 tx_28 rfl rfl ?_
      refine gk_iload_n (pc := 40) K d_Walker_placesFor_40 rfl ?_
      obtain ⟨v2, m1, em1, h⟩ := gk_bi_some h
      refine gk_cVi (As := [.int a1]) (pc := 41) K d_Walker_placesFor_41 mv_Walker_35 mc_Plain_pointOf rfl tx_7 cl_ok2.1 (s_Plain_pointOf (gk_FD K)  em1) (by decide) rfl (Nat.le_of_ble_eq_true rfl) ?_
      refine gk_istore_n (lv2 := [(3, .int v2), (0, .ref 28), (1, .int a1), (2, .int a2)]) (pc := 44) K d_Walker_placesFor_44 (by decide) rfl ?_
      refine gk_iconst (pc := 45) K d_Walker_placesFor_45 kc_0 ?_
      refine gk_istore (lv2 := [(4, .int 0), (3, .int v2), (0, .ref 28), (1, .int a1), (2, .int a2)]) (pc := 46) K d_Walker_placesFor_46 (by decide) rfl ?_
      refine gk_bipush (pc := 48) K d_Walker_placesFor_48 kb_m2 ?_
      refine gk_istore (lv2 := [(5, .int (-2)), (4, .int 0), (3, .int v2), (0, .ref 28), (1, .int a1), (2, .int a2)]) (pc := 50) K d_Walker_placesFor_50 (by decide) rfl ?_
      refine gk_iconst (pc := 52) K d_Walker_placesFor_52 kc_0 ?_
      refine gk_istore (lv2 := [(6, .int 0), (5, .int (-2)), (4, .int 0), (3, .int v2), (0, .ref 28), (1, .int a1), (2, .int a2)]) (pc := 53) K d_Walker_placesFor_53 (by decide) rfl ?_
      exact gk_sub [4, 5, 6, 3, 2, 1, 0] rfl (s_Walker_placesFor_55 K _ _ _ _ _ _ _ _  h)
    · refine gk_aload_n (pc := 10) K d_Walker_placesFor_10 rfl ?_
      refine gk_get (pc := 11) K d_Walker_placesFor_11 fl_Walker_22 tx_28 rfl rfl ?_
      refine gk_iload_n (pc := 14) K d_Walker_placesFor_14 rfl ?_
      refine gk_aload_n (pc := 15) K d_Walker_placesFor_15 rfl ?_
      refine gk_get (pc := 16) K d_Walker_placesFor_16 fl_Walker_25 tx_28 rfl rfl ?_
      refine gk_aload_n (pc := 19) K d_Walker_placesFor_19 rfl ?_
      refine gk_get (pc := 20) K d_Walker_placesFor_20 fl_Walker_15 tx_28 rfl rfl ?_
      refine gk_iload_n (pc := 23) K d_Walker_placesFor_23 rfl ?_
      refine gk_iald (pc := 24) K d_Walker_placesFor_24 tx_29 h (fun v3 h => ?_)
      refine gk_iload_n (pc := 25) K d_Walker_placesFor_25 rfl ?_
      obtain ⟨v5, m4, em4, h⟩ := gk_bi_some h
      refine gk_cVi (As := [.int v3, .int a1]) (pc := 26) K d_Walker_placesFor_26 mv_Walker_29 mc_Plain_seenFrom rfl tx_7 cl_ok2.1 (s_Plain_seenFrom (gk_FD K)  em4) (by decide) rfl (Nat.le_of_ble_eq_true rfl) ?_
      refine gk_iast (pc := 29) K d_Walker_placesFor_29 tx_31 h (fun m6 h => ?_)
      refine gk_iinc2 (lv2 := [(3, .int (a3 + 1)), (0, .ref 28), (1, .int a1), (2, .int a2)]) (pc := 30) K d_Walker_placesFor_30 rfl kc_1 (by decide) rfl ?_
      refine gk_goto (tgt := 2) (pc := 33) K d_Walker_placesFor_33 (by decide) ?_
      exact gk_sub [1, 2, 3, 0] rfl (ih _ _ _ _  h)
noncomputable def f_Walker_placesFor  (a1 : Int32) (a2 : Int32) (m0 : gk_M) : Option (Int32 × gk_M) :=
  f_Walker_placesFor_2 gk_fv a1 a2 0 m0

theorem s_Walker_placesFor_0 {z : gk_Z} (K : gk_F tx z me_Walker_placesFor 6) {r : Int32} {mem2 : gk_M} : ∀ a1 a2 m0, f_Walker_placesFor a1 a2 m0 = some (r, mem2) → gk_G tx z me_Walker_placesFor (gk_R tx z (some (.int r)) mem2) m0 [(0, .ref 28), (1, .int a1), (2, .int a2)] [] 0 := by
  intro a1 a2 m0  h
  unfold f_Walker_placesFor at h
  refine gk_iconst (pc := 0) K d_Walker_placesFor_0 kc_0 ?_
  refine gk_istore_n (lv2 := [(3, .int 0), (0, .ref 28), (1, .int a1), (2, .int a2)]) (pc := 1) K d_Walker_placesFor_1 (by decide) rfl ?_
  exact gk_sub [1, 2, 3, 0] rfl (s_Walker_placesFor_2 K _ _ _ _ _  h)
theorem s_Walker_placesFor {l : Launch} {u : gk_U} (hD : gk_D tx u) {a1 : Int32} {a2 : Int32} {m0 mem2 : gk_M} {r : Int32} (h : f_Walker_placesFor a1 a2 m0 = some (r, mem2)) : gk_C tx l u me_Walker_placesFor 6 [.ref 28, .int a1, .int a2] m0 (some (.int r)) mem2 :=
  gk_enter hD mc_Walker_placesFor (Nat.le_of_ble_eq_true rfl) rfl (fun z _ _ K => s_Walker_placesFor_0 K _ _ _  h)
theorem d_X_fits_0 : decode me_X_fits.2.1 0 = .ok (.aload_n 0, 1) := by decide +kernel
theorem d_X_fits_1 : decode me_X_fits.2.1 1 = .ok (.getfield 28, 3) := by decide +kernel
theorem d_X_fits_4 : decode me_X_fits.2.1 4 = .ok (.iload_n 1, 1) := by decide +kernel
theorem d_X_fits_5 : decode me_X_fits.2.1 5 = .ok (.invokevirtual 147, 3) := by decide +kernel
theorem d_X_fits_8 : decode me_X_fits.2.1 8 = .ok (.ifCond .eq 11, 3) := by decide +kernel
theorem d_X_fits_11 : decode me_X_fits.2.1 11 = .ok (.iload_n 2, 1) := by decide +kernel
theorem d_X_fits_12 : decode me_X_fits.2.1 12 = .ok (.iconst 1, 1) := by decide +kernel
theorem d_X_fits_13 : decode me_X_fits.2.1 13 = .ok (.invokestatic 180, 3) := by decide +kernel
theorem d_X_fits_16 : decode me_X_fits.2.1 16 = .ok (.ifCond .ne 5, 3) := by decide +kernel
theorem d_X_fits_19 : decode me_X_fits.2.1 19 = .ok (.iconst (-1), 1) := by decide +kernel
theorem d_X_fits_20 : decode me_X_fits.2.1 20 = .ok (.ireturn, 1) := by decide +kernel
theorem d_X_fits_21 : decode me_X_fits.2.1 21 = .ok (.aload_n 0, 1) := by decide +kernel
theorem d_X_fits_22 : decode me_X_fits.2.1 22 = .ok (.getfield 51, 3) := by decide +kernel
theorem d_X_fits_25 : decode me_X_fits.2.1 25 = .ok (.iload_n 1, 1) := by decide +kernel
theorem d_X_fits_26 : decode me_X_fits.2.1 26 = .ok (.iload_n 2, 1) := by decide +kernel
theorem d_X_fits_27 : decode me_X_fits.2.1 27 = .ok (.iconst 1, 1) := by decide +kernel
theorem d_X_fits_28 : decode me_X_fits.2.1 28 = .ok (.if_icmp .ne 7, 3) := by decide +kernel
theorem d_X_fits_31 : decode me_X_fits.2.1 31 = .ok (.iconst 1, 1) := by decide +kernel
theorem d_X_fits_32 : decode me_X_fits.2.1 32 = .ok (.goto 4, 3) := by decide +kernel
theorem d_X_fits_35 : decode me_X_fits.2.1 35 = .ok (.iconst 0, 1) := by decide +kernel
theorem d_X_fits_36 : decode me_X_fits.2.1 36 = .ok (.invokevirtual 264, 3) := by decide +kernel
theorem d_X_fits_39 : decode me_X_fits.2.1 39 = .ok (.ireturn, 1) := by decide +kernel
noncomputable def f_X_fits_36  (s1 : Int32) (s2 : Int32) (m0 : gk_M) : Option (Int32 × gk_M) :=
  gk_bi (f_Walker_placesFor s1 s2 m0) fun v2 m1 =>
  some (v2, m1)

theorem s_X_fits_36 {z : gk_Z} (K : gk_F tx z me_X_fits 7) {r : Int32} {mem2 : gk_M} : ∀ s1 s2 m0, f_X_fits_36 s1 s2 m0 = some (r, mem2) → gk_G tx z me_X_fits (gk_R tx z (some (.int r)) mem2) m0 [] [.int s2, .int s1, .ref 28] 36 := by
  intro s1 s2 m0  h
  unfold f_X_fits_36 at h
  obtain ⟨v2, m1, em1, h⟩ := gk_bi_some h
  refine gk_cVi (As := [.int s1, .int s2]) (pc := 36) K d_X_fits_36 mv_X_264 mc_Walker_placesFor rfl tx_28 cl_ok5.1 (s_Walker_placesFor (gk_FD K)  em1) (by decide) rfl (Nat.le_of_ble_eq_true rfl) ?_
  exact gk_iret (pc := 39) K d_X_fits_39 rfl h
noncomputable def f_X_fits  (a1 : Int32) (a2 : Int32) (m0 : gk_M) : Option (Int32 × gk_M) :=
  gk_bi (f_Plain_isTower a1 m0) fun v2 m1 =>
  if v2 = 0 then
    some ((-1), m1)
  else
    gk_bi (f_X_isChoice a2 1 m1) fun v4 m3 =>
    if ¬ v4 = 0 then
      if ¬ a2 = 1 then
        f_X_fits_36 a1 0 m3
      else
        f_X_fits_36 a1 1 m3
    else
      some ((-1), m3)

theorem s_X_fits_0 {z : gk_Z} (K : gk_F tx z me_X_fits 7) {r : Int32} {mem2 : gk_M} : ∀ a1 a2 m0, f_X_fits a1 a2 m0 = some (r, mem2) → gk_G tx z me_X_fits (gk_R tx z (some (.int r)) mem2) m0 [(0, .ref 0), (1, .int a1), (2, .int a2)] [] 0 := by
  intro a1 a2 m0  h
  unfold f_X_fits at h
  refine gk_aload_n (pc := 0) K d_X_fits_0 rfl ?_
  refine gk_get (pc := 1) K d_X_fits_1 fl_X_28 tx_0 rfl rfl ?_
  refine gk_iload_n (pc := 4) K d_X_fits_4 rfl ?_
  obtain ⟨v2, m1, em1, h⟩ := gk_bi_some h
  refine gk_cVi (As := [.int a1]) (pc := 5) K d_X_fits_5 mv_X_147 mc_Plain_isTower rfl tx_7 cl_ok2.1 (s_Plain_isTower (gk_FD K)  em1) (by decide) rfl (Nat.le_of_ble_eq_true rfl) ?_
  refine gk_if_eq (tgt := 19) (pc := 8) K d_X_fits_8 (by decide) h (fun h => ?_) (fun h => ?_)
  · refine gk_iconst (pc := 19) K d_X_fits_19 kc_m1 ?_
    exact gk_iret (pc := 20) K d_X_fits_20 rfl h
  · refine gk_iload_n (pc := 11) K d_X_fits_11 rfl ?_
    refine gk_iconst (pc := 12) K d_X_fits_12 kc_1 ?_
    obtain ⟨v4, m3, em3, h⟩ := gk_bi_some h
    refine gk_cSi (As := [.int a2, .int 1]) (pc := 13) K d_X_fits_13 ms_X_180 mc_X_isChoice rfl (s_X_isChoice (gk_FD K)  em3) (by decide) rfl (Nat.le_of_ble_eq_true rfl) ?_
    refine gk_if_ne (tgt := 21) (pc := 16) K d_X_fits_16 (by decide) h (fun h => ?_) (fun h => ?_)
    · refine gk_aload_n (pc := 21) K d_X_fits_21 rfl ?_
      refine gk_get (pc := 22) K d_X_fits_22 fl_X_51 tx_0 rfl rfl ?_
      refine gk_iload_n (pc := 25) K d_X_fits_25 rfl ?_
      refine gk_iload_n (pc := 26) K d_X_fits_26 rfl ?_
      refine gk_iconst (pc := 27) K d_X_fits_27 kc_1 ?_
      refine gk_ic_ne (tgt := 35) (pc := 28) K d_X_fits_28 (by decide) h (fun h => ?_) (fun h => ?_)
      · refine gk_iconst (pc := 35) K d_X_fits_35 kc_0 ?_
        exact gk_sub [] rfl (s_X_fits_36 K _ _ _  h)
      · refine gk_iconst (pc := 31) K d_X_fits_31 kc_1 ?_
        refine gk_goto (tgt := 36) (pc := 32) K d_X_fits_32 (by decide) ?_
        exact gk_sub [] rfl (s_X_fits_36 K _ _ _  h)
    · refine gk_iconst (pc := 19) K d_X_fits_19 kc_m1 ?_
      exact gk_iret (pc := 20) K d_X_fits_20 rfl h
theorem s_X_fits {l : Launch} {u : gk_U} (hD : gk_D tx u) {a1 : Int32} {a2 : Int32} {m0 mem2 : gk_M} {r : Int32} (h : f_X_fits a1 a2 m0 = some (r, mem2)) : gk_C tx l u me_X_fits 7 [.ref 0, .int a1, .int a2] m0 (some (.int r)) mem2 :=
  gk_enter hD mc_X_fits (Nat.le_of_ble_eq_true rfl) rfl (fun z _ _ K => s_X_fits_0 K _ _ _  h)
theorem d_History_back_0 : decode me_History_back.2.1 0 = .ok (.aload_n 0, 1) := by decide +kernel
theorem d_History_back_1 : decode me_History_back.2.1 1 = .ok (.getfield 9, 3) := by decide +kernel
theorem d_History_back_4 : decode me_History_back.2.1 4 = .ok (.ifCond .gt 6, 3) := by decide +kernel
theorem d_History_back_7 : decode me_History_back.2.1 7 = .ok (.bipush (-5), 2) := by decide +kernel
theorem d_History_back_9 : decode me_History_back.2.1 9 = .ok (.ireturn, 1) := by decide +kernel
theorem d_History_back_10 : decode me_History_back.2.1 10 = .ok (.aload_n 0, 1) := by decide +kernel
theorem d_History_back_11 : decode me_History_back.2.1 11 = .ok (.dup, 1) := by decide +kernel
theorem d_History_back_12 : decode me_History_back.2.1 12 = .ok (.getfield 9, 3) := by decide +kernel
theorem d_History_back_15 : decode me_History_back.2.1 15 = .ok (.iconst 1, 1) := by decide +kernel
theorem d_History_back_16 : decode me_History_back.2.1 16 = .ok (.isub, 1) := by decide +kernel
theorem d_History_back_17 : decode me_History_back.2.1 17 = .ok (.putfield 9, 3) := by decide +kernel
theorem d_History_back_20 : decode me_History_back.2.1 20 = .ok (.aload_n 0, 1) := by decide +kernel
theorem d_History_back_21 : decode me_History_back.2.1 21 = .ok (.dup, 1) := by decide +kernel
theorem d_History_back_22 : decode me_History_back.2.1 22 = .ok (.getfield 15, 3) := by decide +kernel
theorem d_History_back_25 : decode me_History_back.2.1 25 = .ok (.iconst 1, 1) := by decide +kernel
theorem d_History_back_26 : decode me_History_back.2.1 26 = .ok (.iadd, 1) := by decide +kernel
theorem d_History_back_27 : decode me_History_back.2.1 27 = .ok (.putfield 15, 3) := by decide +kernel
theorem d_History_back_30 : decode me_History_back.2.1 30 = .ok (.aload_n 0, 1) := by decide +kernel
theorem d_History_back_31 : decode me_History_back.2.1 31 = .ok (.getfield 31, 3) := by decide +kernel
theorem d_History_back_34 : decode me_History_back.2.1 34 = .ok (.aload_n 0, 1) := by decide +kernel
theorem d_History_back_35 : decode me_History_back.2.1 35 = .ok (.getfield 18, 3) := by decide +kernel
theorem d_History_back_38 : decode me_History_back.2.1 38 = .ok (.aload_n 0, 1) := by decide +kernel
theorem d_History_back_39 : decode me_History_back.2.1 39 = .ok (.getfield 9, 3) := by decide +kernel
theorem d_History_back_42 : decode me_History_back.2.1 42 = .ok (.iaload, 1) := by decide +kernel
theorem d_History_back_43 : decode me_History_back.2.1 43 = .ok (.aload_n 0, 1) := by decide +kernel
theorem d_History_back_44 : decode me_History_back.2.1 44 = .ok (.getfield 22, 3) := by decide +kernel
theorem d_History_back_47 : decode me_History_back.2.1 47 = .ok (.aload_n 0, 1) := by decide +kernel
theorem d_History_back_48 : decode me_History_back.2.1 48 = .ok (.getfield 9, 3) := by decide +kernel
theorem d_History_back_51 : decode me_History_back.2.1 51 = .ok (.iaload, 1) := by decide +kernel
theorem d_History_back_52 : decode me_History_back.2.1 52 = .ok (.aload_n 0, 1) := by decide +kernel
theorem d_History_back_53 : decode me_History_back.2.1 53 = .ok (.getfield 25, 3) := by decide +kernel
theorem d_History_back_56 : decode me_History_back.2.1 56 = .ok (.aload_n 0, 1) := by decide +kernel
theorem d_History_back_57 : decode me_History_back.2.1 57 = .ok (.getfield 9, 3) := by decide +kernel
theorem d_History_back_60 : decode me_History_back.2.1 60 = .ok (.iaload, 1) := by decide +kernel
theorem d_History_back_61 : decode me_History_back.2.1 61 = .ok (.invokevirtual 44, 3) := by decide +kernel
theorem d_History_back_64 : decode me_History_back.2.1 64 = .ok (.aload_n 0, 1) := by decide +kernel
theorem d_History_back_65 : decode me_History_back.2.1 65 = .ok (.getfield 9, 3) := by decide +kernel
theorem d_History_back_68 : decode me_History_back.2.1 68 = .ok (.ireturn, 1) := by decide +kernel
noncomputable def f_History_back   (m0 : gk_M) : Option (Int32 × gk_M) :=
  if 0 < (m0.1 32 0) then
    gk_let (gk_mi m0 32 0 ((m0.1 32 0) - 1)) fun m1 =>
    gk_let (gk_mi m1 32 1 ((m1.1 32 1) + 1)) fun m2 =>
    gk_ai m2 33 40 (m2.1 32 0) fun v3 =>
    gk_ai m2 34 40 (m2.1 32 0) fun v4 =>
    gk_ai m2 35 40 (m2.1 32 0) fun v5 =>
    gk_bv (f_Plain_setTrait v3 v4 v5 m2) fun m6 =>
    some ((m6.1 32 0), m6)
  else
    some ((-5), m0)

theorem s_History_back_0 {z : gk_Z} (K : gk_F tx z me_History_back 4) {r : Int32} {mem2 : gk_M} : ∀  m0, f_History_back  m0 = some (r, mem2) → gk_G tx z me_History_back (gk_R tx z (some (.int r)) mem2) m0 [(0, .ref 32)] [] 0 := by
  intro  m0  h
  unfold f_History_back at h
  refine gk_aload_n (pc := 0) K d_History_back_0 rfl ?_
  refine gk_get (pc := 1) K d_History_back_1 fl_History_9 tx_32 rfl rfl ?_
  refine gk_if_gt (tgt := 10) (pc := 4) K d_History_back_4 (by decide) h (fun h => ?_) (fun h => ?_)
  · refine gk_aload_n (pc := 10) K d_History_back_10 rfl ?_
    refine gk_dup (pc := 11) K d_History_back_11 rfl ?_
    refine gk_get (pc := 12) K d_History_back_12 fl_History_9 tx_32 rfl rfl ?_
    refine gk_iconst (pc := 15) K d_History_back_15 kc_1 ?_
    refine gk_isub (pc := 16) K d_History_back_16 ?_
    refine gk_puti (pc := 17) K d_History_back_17 fp_History_9 tx_32 rfl h (fun m1 h => ?_)
    refine gk_aload_n (pc := 20) K d_History_back_20 rfl ?_
    refine gk_dup (pc := 21) K d_History_back_21 rfl ?_
    refine gk_get (pc := 22) K d_History_back_22 fl_History_15 tx_32 rfl rfl ?_
    refine gk_iconst (pc := 25) K d_History_back_25 kc_1 ?_
    refine gk_iadd (pc := 26) K d_History_back_26 ?_
    refine gk_puti (pc := 27) K d_History_back_27 fp_History_15 tx_32 rfl h (fun m2 h => ?_)
    refine gk_aload_n (pc := 30) K d_History_back_30 rfl ?_
    refine gk_get (pc := 31) K d_History_back_31 fl_History_31 tx_32 rfl rfl ?_
    refine gk_aload_n (pc := 34) K d_History_back_34 rfl ?_
    refine gk_get (pc := 35) K d_History_back_35 fl_History_18 tx_32 rfl rfl ?_
    refine gk_aload_n (pc := 38) K d_History_back_38 rfl ?_
    refine gk_get (pc := 39) K d_History_back_39 fl_History_9 tx_32 rfl rfl ?_
    refine gk_iald (pc := 42) K d_History_back_42 tx_33 h (fun v3 h => ?_)
    refine gk_aload_n (pc := 43) K d_History_back_43 rfl ?_
    refine gk_get (pc := 44) K d_History_back_44 fl_History_22 tx_32 rfl rfl ?_
    refine gk_aload_n (pc := 47) K d_History_back_47 rfl ?_
    refine gk_get (pc := 48) K d_History_back_48 fl_History_9 tx_32 rfl rfl ?_
    refine gk_iald (pc := 51) K d_History_back_51 tx_34 h (fun v4 h => ?_)
    refine gk_aload_n (pc := 52) K d_History_back_52 rfl ?_
    refine gk_get (pc := 53) K d_History_back_53 fl_History_25 tx_32 rfl rfl ?_
    refine gk_aload_n (pc := 56) K d_History_back_56 rfl ?_
    refine gk_get (pc := 57) K d_History_back_57 fl_History_9 tx_32 rfl rfl ?_
    refine gk_iald (pc := 60) K d_History_back_60 tx_35 h (fun v5 h => ?_)
    obtain ⟨m6, em6, h⟩ := gk_bv_some h
    refine gk_cVv (As := [.int v3, .int v4, .int v5]) (pc := 61) K d_History_back_61 mv_History_44 mc_Plain_setTrait rfl tx_7 cl_ok2.1 (s_Plain_setTrait (gk_FD K)  em6) (by decide) rfl (Nat.le_of_ble_eq_true rfl) ?_
    refine gk_aload_n (pc := 64) K d_History_back_64 rfl ?_
    refine gk_get (pc := 65) K d_History_back_65 fl_History_9 tx_32 rfl rfl ?_
    exact gk_iret (pc := 68) K d_History_back_68 rfl h
  · refine gk_bipush (pc := 7) K d_History_back_7 kb_m5 ?_
    exact gk_iret (pc := 9) K d_History_back_9 rfl h
theorem s_History_back {l : Launch} {u : gk_U} (hD : gk_D tx u) {m0 mem2 : gk_M} {r : Int32} (h : f_History_back  m0 = some (r, mem2)) : gk_C tx l u me_History_back 4 [.ref 32] m0 (some (.int r)) mem2 :=
  gk_enter hD mc_History_back (Nat.le_of_ble_eq_true rfl) rfl (fun z _ _ K => s_History_back_0 K  _  h)
theorem d_X_undo_0 : decode me_X_undo.2.1 0 = .ok (.aload_n 0, 1) := by decide +kernel
theorem d_X_undo_1 : decode me_X_undo.2.1 1 = .ok (.getfield 58, 3) := by decide +kernel
theorem d_X_undo_4 : decode me_X_undo.2.1 4 = .ok (.invokevirtual 267, 3) := by decide +kernel
theorem d_X_undo_7 : decode me_X_undo.2.1 7 = .ok (.ireturn, 1) := by decide +kernel
noncomputable def f_X_undo   (m0 : gk_M) : Option (Int32 × gk_M) :=
  gk_bi (f_History_back  m0) fun v2 m1 =>
  some (v2, m1)

theorem s_X_undo_0 {z : gk_Z} (K : gk_F tx z me_X_undo 5) {r : Int32} {mem2 : gk_M} : ∀  m0, f_X_undo  m0 = some (r, mem2) → gk_G tx z me_X_undo (gk_R tx z (some (.int r)) mem2) m0 [(0, .ref 0)] [] 0 := by
  intro  m0  h
  unfold f_X_undo at h
  refine gk_aload_n (pc := 0) K d_X_undo_0 rfl ?_
  refine gk_get (pc := 1) K d_X_undo_1 fl_X_58 tx_0 rfl rfl ?_
  obtain ⟨v2, m1, em1, h⟩ := gk_bi_some h
  refine gk_cVi (As := []) (pc := 4) K d_X_undo_4 mv_X_267 mc_History_back rfl tx_32 cl_ok6.1 (s_History_back (gk_FD K)  em1) (by decide) rfl (Nat.le_of_ble_eq_true rfl) ?_
  exact gk_iret (pc := 7) K d_X_undo_7 rfl h
theorem s_X_undo {l : Launch} {u : gk_U} (hD : gk_D tx u) {m0 mem2 : gk_M} {r : Int32} (h : f_X_undo  m0 = some (r, mem2)) : gk_C tx l u me_X_undo 5 [.ref 0] m0 (some (.int r)) mem2 :=
  gk_enter hD mc_X_undo (Nat.le_of_ble_eq_true rfl) rfl (fun z _ _ K => s_X_undo_0 K  _  h)
theorem d_History_forth_0 : decode me_History_forth.2.1 0 = .ok (.aload_n 0, 1) := by decide +kernel
theorem d_History_forth_1 : decode me_History_forth.2.1 1 = .ok (.getfield 15, 3) := by decide +kernel
theorem d_History_forth_4 : decode me_History_forth.2.1 4 = .ok (.ifCond .le 12, 3) := by decide +kernel
theorem d_History_forth_7 : decode me_History_forth.2.1 7 = .ok (.aload_n 0, 1) := by decide +kernel
theorem d_History_forth_8 : decode me_History_forth.2.1 8 = .ok (.getfield 9, 3) := by decide +kernel
theorem d_History_forth_11 : decode me_History_forth.2.1 11 = .ok (.bipush 40, 2) := by decide +kernel
theorem d_History_forth_13 : decode me_History_forth.2.1 13 = .ok (.if_icmp .lt 6, 3) := by decide +kernel
theorem d_History_forth_16 : decode me_History_forth.2.1 16 = .ok (.bipush (-5), 2) := by decide +kernel
theorem d_History_forth_18 : decode me_History_forth.2.1 18 = .ok (.ireturn, 1) := by decide +kernel
theorem d_History_forth_19 : decode me_History_forth.2.1 19 = .ok (.aload_n 0, 1) := by decide +kernel
theorem d_History_forth_20 : decode me_History_forth.2.1 20 = .ok (.getfield 31, 3) := by decide +kernel
theorem d_History_forth_23 : decode me_History_forth.2.1 23 = .ok (.aload_n 0, 1) := by decide +kernel
theorem d_History_forth_24 : decode me_History_forth.2.1 24 = .ok (.getfield 18, 3) := by decide +kernel
theorem d_History_forth_27 : decode me_History_forth.2.1 27 = .ok (.aload_n 0, 1) := by decide +kernel
theorem d_History_forth_28 : decode me_History_forth.2.1 28 = .ok (.getfield 9, 3) := by decide +kernel
theorem d_History_forth_31 : decode me_History_forth.2.1 31 = .ok (.iaload, 1) := by decide +kernel
theorem d_History_forth_32 : decode me_History_forth.2.1 32 = .ok (.aload_n 0, 1) := by decide +kernel
theorem d_History_forth_33 : decode me_History_forth.2.1 33 = .ok (.getfield 22, 3) := by decide +kernel
theorem d_History_forth_36 : decode me_History_forth.2.1 36 = .ok (.aload_n 0, 1) := by decide +kernel
theorem d_History_forth_37 : decode me_History_forth.2.1 37 = .ok (.getfield 9, 3) := by decide +kernel
theorem d_History_forth_40 : decode me_History_forth.2.1 40 = .ok (.iaload, 1) := by decide +kernel
theorem d_History_forth_41 : decode me_History_forth.2.1 41 = .ok (.aload_n 0, 1) := by decide +kernel
theorem d_History_forth_42 : decode me_History_forth.2.1 42 = .ok (.getfield 28, 3) := by decide +kernel
theorem d_History_forth_45 : decode me_History_forth.2.1 45 = .ok (.aload_n 0, 1) := by decide +kernel
theorem d_History_forth_46 : decode me_History_forth.2.1 46 = .ok (.getfield 9, 3) := by decide +kernel
theorem d_History_forth_49 : decode me_History_forth.2.1 49 = .ok (.iaload, 1) := by decide +kernel
theorem d_History_forth_50 : decode me_History_forth.2.1 50 = .ok (.invokevirtual 44, 3) := by decide +kernel
theorem d_History_forth_53 : decode me_History_forth.2.1 53 = .ok (.aload_n 0, 1) := by decide +kernel
theorem d_History_forth_54 : decode me_History_forth.2.1 54 = .ok (.dup, 1) := by decide +kernel
theorem d_History_forth_55 : decode me_History_forth.2.1 55 = .ok (.getfield 9, 3) := by decide +kernel
theorem d_History_forth_58 : decode me_History_forth.2.1 58 = .ok (.iconst 1, 1) := by decide +kernel
theorem d_History_forth_59 : decode me_History_forth.2.1 59 = .ok (.iadd, 1) := by decide +kernel
theorem d_History_forth_60 : decode me_History_forth.2.1 60 = .ok (.putfield 9, 3) := by decide +kernel
theorem d_History_forth_63 : decode me_History_forth.2.1 63 = .ok (.aload_n 0, 1) := by decide +kernel
theorem d_History_forth_64 : decode me_History_forth.2.1 64 = .ok (.dup, 1) := by decide +kernel
theorem d_History_forth_65 : decode me_History_forth.2.1 65 = .ok (.getfield 15, 3) := by decide +kernel
theorem d_History_forth_68 : decode me_History_forth.2.1 68 = .ok (.iconst 1, 1) := by decide +kernel
theorem d_History_forth_69 : decode me_History_forth.2.1 69 = .ok (.isub, 1) := by decide +kernel
theorem d_History_forth_70 : decode me_History_forth.2.1 70 = .ok (.putfield 15, 3) := by decide +kernel
theorem d_History_forth_73 : decode me_History_forth.2.1 73 = .ok (.aload_n 0, 1) := by decide +kernel
theorem d_History_forth_74 : decode me_History_forth.2.1 74 = .ok (.getfield 15, 3) := by decide +kernel
theorem d_History_forth_77 : decode me_History_forth.2.1 77 = .ok (.ireturn, 1) := by decide +kernel
noncomputable def f_History_forth   (m0 : gk_M) : Option (Int32 × gk_M) :=
  if (m0.1 32 1) ≤ 0 then
    some ((-5), m0)
  else
    if (m0.1 32 0) < 40 then
      gk_ai m0 33 40 (m0.1 32 0) fun v1 =>
      gk_ai m0 34 40 (m0.1 32 0) fun v2 =>
      gk_ai m0 36 40 (m0.1 32 0) fun v3 =>
      gk_bv (f_Plain_setTrait v1 v2 v3 m0) fun m4 =>
      gk_let (gk_mi m4 32 0 ((m4.1 32 0) + 1)) fun m5 =>
      gk_let (gk_mi m5 32 1 ((m5.1 32 1) - 1)) fun m6 =>
      some ((m6.1 32 1), m6)
    else
      some ((-5), m0)

theorem s_History_forth_0 {z : gk_Z} (K : gk_F tx z me_History_forth 4) {r : Int32} {mem2 : gk_M} : ∀  m0, f_History_forth  m0 = some (r, mem2) → gk_G tx z me_History_forth (gk_R tx z (some (.int r)) mem2) m0 [(0, .ref 32)] [] 0 := by
  intro  m0  h
  unfold f_History_forth at h
  refine gk_aload_n (pc := 0) K d_History_forth_0 rfl ?_
  refine gk_get (pc := 1) K d_History_forth_1 fl_History_15 tx_32 rfl rfl ?_
  refine gk_if_le (tgt := 16) (pc := 4) K d_History_forth_4 (by decide) h (fun h => ?_) (fun h => ?_)
  · refine gk_bipush (pc := 16) K d_History_forth_16 kb_m5 ?_
    exact gk_iret (pc := 18) K d_History_forth_18 rfl h
  · refine gk_aload_n (pc := 7) K d_History_forth_7 rfl ?_
    refine gk_get (pc := 8) K d_History_forth_8 fl_History_9 tx_32 rfl rfl ?_
    refine gk_bipush (pc := 11) K d_History_forth_11 kb_40 ?_
    refine gk_ic_lt (tgt := 19) (pc := 13) K d_History_forth_13 (by decide) h (fun h => ?_) (fun h => ?_)
    · refine gk_aload_n (pc := 19) K d_History_forth_19 rfl ?_
      refine gk_get (pc := 20) K d_History_forth_20 fl_History_31 tx_32 rfl rfl ?_
      refine gk_aload_n (pc := 23) K d_History_forth_23 rfl ?_
      refine gk_get (pc := 24) K d_History_forth_24 fl_History_18 tx_32 rfl rfl ?_
      refine gk_aload_n (pc := 27) K d_History_forth_27 rfl ?_
      refine gk_get (pc := 28) K d_History_forth_28 fl_History_9 tx_32 rfl rfl ?_
      refine gk_iald (pc := 31) K d_History_forth_31 tx_33 h (fun v1 h => ?_)
      refine gk_aload_n (pc := 32) K d_History_forth_32 rfl ?_
      refine gk_get (pc := 33) K d_History_forth_33 fl_History_22 tx_32 rfl rfl ?_
      refine gk_aload_n (pc := 36) K d_History_forth_36 rfl ?_
      refine gk_get (pc := 37) K d_History_forth_37 fl_History_9 tx_32 rfl rfl ?_
      refine gk_iald (pc := 40) K d_History_forth_40 tx_34 h (fun v2 h => ?_)
      refine gk_aload_n (pc := 41) K d_History_forth_41 rfl ?_
      refine gk_get (pc := 42) K d_History_forth_42 fl_History_28 tx_32 rfl rfl ?_
      refine gk_aload_n (pc := 45) K d_History_forth_45 rfl ?_
      refine gk_get (pc := 46) K d_History_forth_46 fl_History_9 tx_32 rfl rfl ?_
      refine gk_iald (pc := 49) K d_History_forth_49 tx_36 h (fun v3 h => ?_)
      obtain ⟨m4, em4, h⟩ := gk_bv_some h
      refine gk_cVv (As := [.int v1, .int v2, .int v3]) (pc := 50) K d_History_forth_50 mv_History_44 mc_Plain_setTrait rfl tx_7 cl_ok2.1 (s_Plain_setTrait (gk_FD K)  em4) (by decide) rfl (Nat.le_of_ble_eq_true rfl) ?_
      refine gk_aload_n (pc := 53) K d_History_forth_53 rfl ?_
      refine gk_dup (pc := 54) K d_History_forth_54 rfl ?_
      refine gk_get (pc := 55) K d_History_forth_55 fl_History_9 tx_32 rfl rfl ?_
      refine gk_iconst (pc := 58) K d_History_forth_58 kc_1 ?_
      refine gk_iadd (pc := 59) K d_History_forth_59 ?_
      refine gk_puti (pc := 60) K d_History_forth_60 fp_History_9 tx_32 rfl h (fun m5 h => ?_)
      refine gk_aload_n (pc := 63) K d_History_forth_63 rfl ?_
      refine gk_dup (pc := 64) K d_History_forth_64 rfl ?_
      refine gk_get (pc := 65) K d_History_forth_65 fl_History_15 tx_32 rfl rfl ?_
      refine gk_iconst (pc := 68) K d_History_forth_68 kc_1 ?_
      refine gk_isub (pc := 69) K d_History_forth_69 ?_
      refine gk_puti (pc := 70) K d_History_forth_70 fp_History_15 tx_32 rfl h (fun m6 h => ?_)
      refine gk_aload_n (pc := 73) K d_History_forth_73 rfl ?_
      refine gk_get (pc := 74) K d_History_forth_74 fl_History_15 tx_32 rfl rfl ?_
      exact gk_iret (pc := 77) K d_History_forth_77 rfl h
    · refine gk_bipush (pc := 16) K d_History_forth_16 kb_m5 ?_
      exact gk_iret (pc := 18) K d_History_forth_18 rfl h
theorem s_History_forth {l : Launch} {u : gk_U} (hD : gk_D tx u) {m0 mem2 : gk_M} {r : Int32} (h : f_History_forth  m0 = some (r, mem2)) : gk_C tx l u me_History_forth 4 [.ref 32] m0 (some (.int r)) mem2 :=
  gk_enter hD mc_History_forth (Nat.le_of_ble_eq_true rfl) rfl (fun z _ _ K => s_History_forth_0 K  _  h)
theorem d_X_redo_0 : decode me_X_redo.2.1 0 = .ok (.aload_n 0, 1) := by decide +kernel
theorem d_X_redo_1 : decode me_X_redo.2.1 1 = .ok (.getfield 58, 3) := by decide +kernel
theorem d_X_redo_4 : decode me_X_redo.2.1 4 = .ok (.invokevirtual 270, 3) := by decide +kernel
theorem d_X_redo_7 : decode me_X_redo.2.1 7 = .ok (.ireturn, 1) := by decide +kernel
noncomputable def f_X_redo   (m0 : gk_M) : Option (Int32 × gk_M) :=
  gk_bi (f_History_forth  m0) fun v2 m1 =>
  some (v2, m1)

theorem s_X_redo_0 {z : gk_Z} (K : gk_F tx z me_X_redo 5) {r : Int32} {mem2 : gk_M} : ∀  m0, f_X_redo  m0 = some (r, mem2) → gk_G tx z me_X_redo (gk_R tx z (some (.int r)) mem2) m0 [(0, .ref 0)] [] 0 := by
  intro  m0  h
  unfold f_X_redo at h
  refine gk_aload_n (pc := 0) K d_X_redo_0 rfl ?_
  refine gk_get (pc := 1) K d_X_redo_1 fl_X_58 tx_0 rfl rfl ?_
  obtain ⟨v2, m1, em1, h⟩ := gk_bi_some h
  refine gk_cVi (As := []) (pc := 4) K d_X_redo_4 mv_X_270 mc_History_forth rfl tx_32 cl_ok6.1 (s_History_forth (gk_FD K)  em1) (by decide) rfl (Nat.le_of_ble_eq_true rfl) ?_
  exact gk_iret (pc := 7) K d_X_redo_7 rfl h
theorem s_X_redo {l : Launch} {u : gk_U} (hD : gk_D tx u) {m0 mem2 : gk_M} {r : Int32} (h : f_X_redo  m0 = some (r, mem2)) : gk_C tx l u me_X_redo 5 [.ref 0] m0 (some (.int r)) mem2 :=
  gk_enter hD mc_X_redo (Nat.le_of_ble_eq_true rfl) rfl (fun z _ _ K => s_X_redo_0 K  _  h)
theorem d_Ways_isKind_0 : decode me_Ways_isKind.2.1 0 = .ok (.iload_n 0, 1) := by decide +kernel
theorem d_Ways_isKind_1 : decode me_Ways_isKind.2.1 1 = .ok (.ifCond .lt 13, 3) := by decide +kernel
theorem d_Ways_isKind_4 : decode me_Ways_isKind.2.1 4 = .ok (.iload_n 0, 1) := by decide +kernel
theorem d_Ways_isKind_5 : decode me_Ways_isKind.2.1 5 = .ok (.bipush 8, 2) := by decide +kernel
theorem d_Ways_isKind_7 : decode me_Ways_isKind.2.1 7 = .ok (.if_icmp .ge 7, 3) := by decide +kernel
theorem d_Ways_isKind_10 : decode me_Ways_isKind.2.1 10 = .ok (.iconst 1, 1) := by decide +kernel
theorem d_Ways_isKind_11 : decode me_Ways_isKind.2.1 11 = .ok (.goto 4, 3) := by decide +kernel
theorem d_Ways_isKind_14 : decode me_Ways_isKind.2.1 14 = .ok (.iconst 0, 1) := by decide +kernel
theorem d_Ways_isKind_15 : decode me_Ways_isKind.2.1 15 = .ok (.ireturn, 1) := by decide +kernel
noncomputable def f_Ways_isKind  (a0 : Int32) (m0 : gk_M) : Option (Int32 × gk_M) :=
  if a0 < 0 then
    some (0, m0)
  else
    if 8 ≤ a0 then
      some (0, m0)
    else
      some (1, m0)

theorem s_Ways_isKind_0 {z : gk_Z} (K : gk_F tx z me_Ways_isKind 1) {r : Int32} {mem2 : gk_M} : ∀ a0 m0, f_Ways_isKind a0 m0 = some (r, mem2) → gk_G tx z me_Ways_isKind (gk_R tx z (some (.int r)) mem2) m0 [(0, .int a0)] [] 0 := by
  intro a0 m0  h
  unfold f_Ways_isKind at h
  refine gk_iload_n (pc := 0) K d_Ways_isKind_0 rfl ?_
  refine gk_if_lt (tgt := 14) (pc := 1) K d_Ways_isKind_1 (by decide) h (fun h => ?_) (fun h => ?_)
  · refine gk_iconst (pc := 14) K d_Ways_isKind_14 kc_0 ?_
    exact gk_zretc (pc := 15) K d_Ways_isKind_15 rfl (Or.inl rfl) h
  · refine gk_iload_n (pc := 4) K d_Ways_isKind_4 rfl ?_
    refine gk_bipush (pc := 5) K d_Ways_isKind_5 kb_8 ?_
    refine gk_ic_ge (tgt := 14) (pc := 7) K d_Ways_isKind_7 (by decide) h (fun h => ?_) (fun h => ?_)
    · refine gk_iconst (pc := 14) K d_Ways_isKind_14 kc_0 ?_
      exact gk_zretc (pc := 15) K d_Ways_isKind_15 rfl (Or.inl rfl) h
    · refine gk_iconst (pc := 10) K d_Ways_isKind_10 kc_1 ?_
      refine gk_goto (tgt := 15) (pc := 11) K d_Ways_isKind_11 (by decide) ?_
      exact gk_zretc (pc := 15) K d_Ways_isKind_15 rfl (Or.inr rfl) h
theorem s_Ways_isKind {l : Launch} {u : gk_U} (hD : gk_D tx u) {a0 : Int32} {m0 mem2 : gk_M} {r : Int32} (h : f_Ways_isKind a0 m0 = some (r, mem2)) : gk_C tx l u me_Ways_isKind 1 [.int a0] m0 (some (.int r)) mem2 :=
  gk_enter hD mc_Ways_isKind (Nat.le_of_ble_eq_true rfl) rfl (fun z _ _ K => s_Ways_isKind_0 K _ _  h)
theorem d_Ways_add_0 : decode me_Ways_add.2.1 0 = .ok (.aload_n 0, 1) := by decide +kernel
theorem d_Ways_add_1 : decode me_Ways_add.2.1 1 = .ok (.getfield 9, 3) := by decide +kernel
theorem d_Ways_add_4 : decode me_Ways_add.2.1 4 = .ok (.bipush 50, 2) := by decide +kernel
theorem d_Ways_add_6 : decode me_Ways_add.2.1 6 = .ok (.if_icmp .lt 6, 3) := by decide +kernel
theorem d_Ways_add_9 : decode me_Ways_add.2.1 9 = .ok (.bipush (-3), 2) := by decide +kernel
theorem d_Ways_add_11 : decode me_Ways_add.2.1 11 = .ok (.ireturn, 1) := by decide +kernel
theorem d_Ways_add_12 : decode me_Ways_add.2.1 12 = .ok (.aload_n 0, 1) := by decide +kernel
theorem d_Ways_add_13 : decode me_Ways_add.2.1 13 = .ok (.getfield 18, 3) := by decide +kernel
theorem d_Ways_add_16 : decode me_Ways_add.2.1 16 = .ok (.aload_n 0, 1) := by decide +kernel
theorem d_Ways_add_17 : decode me_Ways_add.2.1 17 = .ok (.getfield 9, 3) := by decide +kernel
theorem d_Ways_add_20 : decode me_Ways_add.2.1 20 = .ok (.iload_n 1, 1) := by decide +kernel
theorem d_Ways_add_21 : decode me_Ways_add.2.1 21 = .ok (.iastore, 1) := by decide +kernel
theorem d_Ways_add_22 : decode me_Ways_add.2.1 22 = .ok (.aload_n 0, 1) := by decide +kernel
theorem d_Ways_add_23 : decode me_Ways_add.2.1 23 = .ok (.dup, 1) := by decide +kernel
theorem d_Ways_add_24 : decode me_Ways_add.2.1 24 = .ok (.getfield 9, 3) := by decide +kernel
theorem d_Ways_add_27 : decode me_Ways_add.2.1 27 = .ok (.iconst 1, 1) := by decide +kernel
theorem d_Ways_add_28 : decode me_Ways_add.2.1 28 = .ok (.iadd, 1) := by decide +kernel
theorem d_Ways_add_29 : decode me_Ways_add.2.1 29 = .ok (.putfield 9, 3) := by decide +kernel
theorem d_Ways_add_32 : decode me_Ways_add.2.1 32 = .ok (.aload_n 0, 1) := by decide +kernel
theorem d_Ways_add_33 : decode me_Ways_add.2.1 33 = .ok (.getfield 9, 3) := by decide +kernel
theorem d_Ways_add_36 : decode me_Ways_add.2.1 36 = .ok (.iconst 1, 1) := by decide +kernel
theorem d_Ways_add_37 : decode me_Ways_add.2.1 37 = .ok (.isub, 1) := by decide +kernel
theorem d_Ways_add_38 : decode me_Ways_add.2.1 38 = .ok (.ireturn, 1) := by decide +kernel
noncomputable def f_Ways_add  (a1 : Int32) (m0 : gk_M) : Option (Int32 × gk_M) :=
  if (m0.1 37 0) < 50 then
    gk_si m0 38 50 (m0.1 37 0) a1 fun m1 =>
    gk_let (gk_mi m1 37 0 ((m1.1 37 0) + 1)) fun m2 =>
    some (((m2.1 37 0) - 1), m2)
  else
    some ((-3), m0)

theorem s_Ways_add_0 {z : gk_Z} (K : gk_F tx z me_Ways_add 1) {r : Int32} {mem2 : gk_M} : ∀ a1 m0, f_Ways_add a1 m0 = some (r, mem2) → gk_G tx z me_Ways_add (gk_R tx z (some (.int r)) mem2) m0 [(0, .ref 37), (1, .int a1)] [] 0 := by
  intro a1 m0  h
  unfold f_Ways_add at h
  refine gk_aload_n (pc := 0) K d_Ways_add_0 rfl ?_
  refine gk_get (pc := 1) K d_Ways_add_1 fl_Ways_9 tx_37 rfl rfl ?_
  refine gk_bipush (pc := 4) K d_Ways_add_4 kb_50 ?_
  refine gk_ic_lt (tgt := 12) (pc := 6) K d_Ways_add_6 (by decide) h (fun h => ?_) (fun h => ?_)
  · refine gk_aload_n (pc := 12) K d_Ways_add_12 rfl ?_
    refine gk_get (pc := 13) K d_Ways_add_13 fl_Ways_18 tx_37 rfl rfl ?_
    refine gk_aload_n (pc := 16) K d_Ways_add_16 rfl ?_
    refine gk_get (pc := 17) K d_Ways_add_17 fl_Ways_9 tx_37 rfl rfl ?_
    refine gk_iload_n (pc := 20) K d_Ways_add_20 rfl ?_
    refine gk_iast (pc := 21) K d_Ways_add_21 tx_38 h (fun m1 h => ?_)
    refine gk_aload_n (pc := 22) K d_Ways_add_22 rfl ?_
    refine gk_dup (pc := 23) K d_Ways_add_23 rfl ?_
    refine gk_get (pc := 24) K d_Ways_add_24 fl_Ways_9 tx_37 rfl rfl ?_
    refine gk_iconst (pc := 27) K d_Ways_add_27 kc_1 ?_
    refine gk_iadd (pc := 28) K d_Ways_add_28 ?_
    refine gk_puti (pc := 29) K d_Ways_add_29 fp_Ways_9 tx_37 rfl h (fun m2 h => ?_)
    refine gk_aload_n (pc := 32) K d_Ways_add_32 rfl ?_
    refine gk_get (pc := 33) K d_Ways_add_33 fl_Ways_9 tx_37 rfl rfl ?_
    refine gk_iconst (pc := 36) K d_Ways_add_36 kc_1 ?_
    refine gk_isub (pc := 37) K d_Ways_add_37 ?_
    exact gk_iret (pc := 38) K d_Ways_add_38 rfl h
  · refine gk_bipush (pc := 9) K d_Ways_add_9 kb_m3 ?_
    exact gk_iret (pc := 11) K d_Ways_add_11 rfl h
theorem s_Ways_add {l : Launch} {u : gk_U} (hD : gk_D tx u) {a1 : Int32} {m0 mem2 : gk_M} {r : Int32} (h : f_Ways_add a1 m0 = some (r, mem2)) : gk_C tx l u me_Ways_add 1 [.ref 37, .int a1] m0 (some (.int r)) mem2 :=
  gk_enter hD mc_Ways_add (Nat.le_of_ble_eq_true rfl) rfl (fun z _ _ K => s_Ways_add_0 K _ _  h)
theorem d_X_body_0 : decode me_X_body.2.1 0 = .ok (.iload_n 1, 1) := by decide +kernel
theorem d_X_body_1 : decode me_X_body.2.1 1 = .ok (.invokestatic 273, 3) := by decide +kernel
theorem d_X_body_4 : decode me_X_body.2.1 4 = .ok (.ifCond .eq 14, 3) := by decide +kernel
theorem d_X_body_7 : decode me_X_body.2.1 7 = .ok (.aload_n 0, 1) := by decide +kernel
theorem d_X_body_8 : decode me_X_body.2.1 8 = .ok (.getfield 65, 3) := by decide +kernel
theorem d_X_body_11 : decode me_X_body.2.1 11 = .ok (.iload_n 1, 1) := by decide +kernel
theorem d_X_body_12 : decode me_X_body.2.1 12 = .ok (.invokevirtual 276, 3) := by decide +kernel
theorem d_X_body_15 : decode me_X_body.2.1 15 = .ok (.goto 4, 3) := by decide +kernel
theorem d_X_body_18 : decode me_X_body.2.1 18 = .ok (.iconst (-1), 1) := by decide +kernel
theorem d_X_body_19 : decode me_X_body.2.1 19 = .ok (.ireturn, 1) := by decide +kernel
noncomputable def f_X_body  (a1 : Int32) (m0 : gk_M) : Option (Int32 × gk_M) :=
  gk_bi (f_Ways_isKind a1 m0) fun v2 m1 =>
  if v2 = 0 then
    some ((-1), m1)
  else
    gk_bi (f_Ways_add a1 m1) fun v4 m3 =>
    some (v4, m3)

theorem s_X_body_0 {z : gk_Z} (K : gk_F tx z me_X_body 2) {r : Int32} {mem2 : gk_M} : ∀ a1 m0, f_X_body a1 m0 = some (r, mem2) → gk_G tx z me_X_body (gk_R tx z (some (.int r)) mem2) m0 [(0, .ref 0), (1, .int a1)] [] 0 := by
  intro a1 m0  h
  unfold f_X_body at h
  refine gk_iload_n (pc := 0) K d_X_body_0 rfl ?_
  obtain ⟨v2, m1, em1, h⟩ := gk_bi_some h
  refine gk_cSi (As := [.int a1]) (pc := 1) K d_X_body_1 ms_X_273 mc_Ways_isKind rfl (s_Ways_isKind (gk_FD K)  em1) (by decide) rfl (Nat.le_of_ble_eq_true rfl) ?_
  refine gk_if_eq (tgt := 18) (pc := 4) K d_X_body_4 (by decide) h (fun h => ?_) (fun h => ?_)
  · refine gk_iconst (pc := 18) K d_X_body_18 kc_m1 ?_
    exact gk_iret (pc := 19) K d_X_body_19 rfl h
  · refine gk_aload_n (pc := 7) K d_X_body_7 rfl ?_
    refine gk_get (pc := 8) K d_X_body_8 fl_X_65 tx_0 rfl rfl ?_
    refine gk_iload_n (pc := 11) K d_X_body_11 rfl ?_
    obtain ⟨v4, m3, em3, h⟩ := gk_bi_some h
    refine gk_cVi (As := [.int a1]) (pc := 12) K d_X_body_12 mv_X_276 mc_Ways_add rfl tx_37 cl_ok7.1 (s_Ways_add (gk_FD K)  em3) (by decide) rfl (Nat.le_of_ble_eq_true rfl) ?_
    refine gk_goto (tgt := 19) (pc := 15) K d_X_body_15 (by decide) ?_
    exact gk_iret (pc := 19) K d_X_body_19 rfl h
theorem s_X_body {l : Launch} {u : gk_U} (hD : gk_D tx u) {a1 : Int32} {m0 mem2 : gk_M} {r : Int32} (h : f_X_body a1 m0 = some (r, mem2)) : gk_C tx l u me_X_body 2 [.ref 0, .int a1] m0 (some (.int r)) mem2 :=
  gk_enter hD mc_X_body (Nat.le_of_ble_eq_true rfl) rfl (fun z _ _ K => s_X_body_0 K _ _  h)
theorem d_Ways_isBody_0 : decode me_Ways_isBody.2.1 0 = .ok (.iload_n 1, 1) := by decide +kernel
theorem d_Ways_isBody_1 : decode me_Ways_isBody.2.1 1 = .ok (.ifCond .lt 15, 3) := by decide +kernel
theorem d_Ways_isBody_4 : decode me_Ways_isBody.2.1 4 = .ok (.iload_n 1, 1) := by decide +kernel
theorem d_Ways_isBody_5 : decode me_Ways_isBody.2.1 5 = .ok (.aload_n 0, 1) := by decide +kernel
theorem d_Ways_isBody_6 : decode me_Ways_isBody.2.1 6 = .ok (.getfield 9, 3) := by decide +kernel
theorem d_Ways_isBody_9 : decode me_Ways_isBody.2.1 9 = .ok (.if_icmp .ge 7, 3) := by decide +kernel
theorem d_Ways_isBody_12 : decode me_Ways_isBody.2.1 12 = .ok (.iconst 1, 1) := by decide +kernel
theorem d_Ways_isBody_13 : decode me_Ways_isBody.2.1 13 = .ok (.goto 4, 3) := by decide +kernel
theorem d_Ways_isBody_16 : decode me_Ways_isBody.2.1 16 = .ok (.iconst 0, 1) := by decide +kernel
theorem d_Ways_isBody_17 : decode me_Ways_isBody.2.1 17 = .ok (.ireturn, 1) := by decide +kernel
noncomputable def f_Ways_isBody  (a1 : Int32) (m0 : gk_M) : Option (Int32 × gk_M) :=
  if a1 < 0 then
    some (0, m0)
  else
    if (m0.1 37 0) ≤ a1 then
      some (0, m0)
    else
      some (1, m0)

theorem s_Ways_isBody_0 {z : gk_Z} (K : gk_F tx z me_Ways_isBody 1) {r : Int32} {mem2 : gk_M} : ∀ a1 m0, f_Ways_isBody a1 m0 = some (r, mem2) → gk_G tx z me_Ways_isBody (gk_R tx z (some (.int r)) mem2) m0 [(0, .ref 37), (1, .int a1)] [] 0 := by
  intro a1 m0  h
  unfold f_Ways_isBody at h
  refine gk_iload_n (pc := 0) K d_Ways_isBody_0 rfl ?_
  refine gk_if_lt (tgt := 16) (pc := 1) K d_Ways_isBody_1 (by decide) h (fun h => ?_) (fun h => ?_)
  · refine gk_iconst (pc := 16) K d_Ways_isBody_16 kc_0 ?_
    exact gk_zretc (pc := 17) K d_Ways_isBody_17 rfl (Or.inl rfl) h
  · refine gk_iload_n (pc := 4) K d_Ways_isBody_4 rfl ?_
    refine gk_aload_n (pc := 5) K d_Ways_isBody_5 rfl ?_
    refine gk_get (pc := 6) K d_Ways_isBody_6 fl_Ways_9 tx_37 rfl rfl ?_
    refine gk_ic_ge (tgt := 16) (pc := 9) K d_Ways_isBody_9 (by decide) h (fun h => ?_) (fun h => ?_)
    · refine gk_iconst (pc := 16) K d_Ways_isBody_16 kc_0 ?_
      exact gk_zretc (pc := 17) K d_Ways_isBody_17 rfl (Or.inl rfl) h
    · refine gk_iconst (pc := 12) K d_Ways_isBody_12 kc_1 ?_
      refine gk_goto (tgt := 17) (pc := 13) K d_Ways_isBody_13 (by decide) ?_
      exact gk_zretc (pc := 17) K d_Ways_isBody_17 rfl (Or.inr rfl) h
theorem s_Ways_isBody {l : Launch} {u : gk_U} (hD : gk_D tx u) {a1 : Int32} {m0 mem2 : gk_M} {r : Int32} (h : f_Ways_isBody a1 m0 = some (r, mem2)) : gk_C tx l u me_Ways_isBody 1 [.ref 37, .int a1] m0 (some (.int r)) mem2 :=
  gk_enter hD mc_Ways_isBody (Nat.le_of_ble_eq_true rfl) rfl (fun z _ _ K => s_Ways_isBody_0 K _ _  h)
theorem d_Ways_run_0 : decode me_Ways_run.2.1 0 = .ok (.iload_n 1, 1) := by decide +kernel
theorem d_Ways_run_1 : decode me_Ways_run.2.1 1 = .ok (.lookupswitch 246 #[(1, 107), (2, 114), (10, 130), (11, 140), (20, 147), (30, 158), (40, 168), (41, 179), (50, 190), (60, 207), (70, 218), (80, 229)], 107) := by decide +kernel
theorem d_Ways_run_108 : decode me_Ways_run.2.1 108 = .ok (.iload_n 2, 1) := by decide +kernel
theorem d_Ways_run_109 : decode me_Ways_run.2.1 109 = .ok (.aload_n 0, 1) := by decide +kernel
theorem d_Ways_run_110 : decode me_Ways_run.2.1 110 = .ok (.getfield 25, 3) := by decide +kernel
theorem d_Ways_run_113 : decode me_Ways_run.2.1 113 = .ok (.iadd, 1) := by decide +kernel
theorem d_Ways_run_114 : decode me_Ways_run.2.1 114 = .ok (.ireturn, 1) := by decide +kernel
theorem d_Ways_run_115 : decode me_Ways_run.2.1 115 = .ok (.aload_n 0, 1) := by decide +kernel
theorem d_Ways_run_116 : decode me_Ways_run.2.1 116 = .ok (.iconst 1, 1) := by decide +kernel
theorem d_Ways_run_117 : decode me_Ways_run.2.1 117 = .ok (.iload_n 2, 1) := by decide +kernel
theorem d_Ways_run_118 : decode me_Ways_run.2.1 118 = .ok (.iload_n 3, 1) := by decide +kernel
theorem d_Ways_run_119 : decode me_Ways_run.2.1 119 = .ok (.invokevirtual 41, 3) := by decide +kernel
theorem d_Ways_run_122 : decode me_Ways_run.2.1 122 = .ok (.aload_n 0, 1) := by decide +kernel
theorem d_Ways_run_123 : decode me_Ways_run.2.1 123 = .ok (.iconst 2, 1) := by decide +kernel
theorem d_Ways_run_124 : decode me_Ways_run.2.1 124 = .ok (.iconst 1, 1) := by decide +kernel
theorem d_Ways_run_125 : decode me_Ways_run.2.1 125 = .ok (.iload_n 3, 1) := by decide +kernel
theorem d_Ways_run_126 : decode me_Ways_run.2.1 126 = .ok (.invokevirtual 41, 3) := by decide +kernel
theorem d_Ways_run_129 : decode me_Ways_run.2.1 129 = .ok (.isub, 1) := by decide +kernel
theorem d_Ways_run_130 : decode me_Ways_run.2.1 130 = .ok (.ireturn, 1) := by decide +kernel
theorem d_Ways_run_131 : decode me_Ways_run.2.1 131 = .ok (.aload_n 0, 1) := by decide +kernel
theorem d_Ways_run_132 : decode me_Ways_run.2.1 132 = .ok (.iconst 0, 1) := by decide +kernel
theorem d_Ways_run_133 : decode me_Ways_run.2.1 133 = .ok (.iload_n 2, 1) := by decide +kernel
theorem d_Ways_run_134 : decode me_Ways_run.2.1 134 = .ok (.iload_n 3, 1) := by decide +kernel
theorem d_Ways_run_135 : decode me_Ways_run.2.1 135 = .ok (.invokevirtual 41, 3) := by decide +kernel
theorem d_Ways_run_138 : decode me_Ways_run.2.1 138 = .ok (.iconst 2, 1) := by decide +kernel
theorem d_Ways_run_139 : decode me_Ways_run.2.1 139 = .ok (.imul, 1) := by decide +kernel
theorem d_Ways_run_140 : decode me_Ways_run.2.1 140 = .ok (.ireturn, 1) := by decide +kernel
theorem d_Ways_run_141 : decode me_Ways_run.2.1 141 = .ok (.iload_n 2, 1) := by decide +kernel
theorem d_Ways_run_142 : decode me_Ways_run.2.1 142 = .ok (.aload_n 0, 1) := by decide +kernel
theorem d_Ways_run_143 : decode me_Ways_run.2.1 143 = .ok (.getfield 25, 3) := by decide +kernel
theorem d_Ways_run_146 : decode me_Ways_run.2.1 146 = .ok (.ixor, 1) := by decide +kernel
theorem d_Ways_run_147 : decode me_Ways_run.2.1 147 = .ok (.ireturn, 1) := by decide +kernel
theorem d_Ways_run_148 : decode me_Ways_run.2.1 148 = .ok (.aload_n 0, 1) := by decide +kernel
theorem d_Ways_run_149 : decode me_Ways_run.2.1 149 = .ok (.iconst 0, 1) := by decide +kernel
theorem d_Ways_run_150 : decode me_Ways_run.2.1 150 = .ok (.iconst 0, 1) := by decide +kernel
theorem d_Ways_run_151 : decode me_Ways_run.2.1 151 = .ok (.iload_n 2, 1) := by decide +kernel
theorem d_Ways_run_152 : decode me_Ways_run.2.1 152 = .ok (.iload_n 3, 1) := by decide +kernel
theorem d_Ways_run_153 : decode me_Ways_run.2.1 153 = .ok (.invokevirtual 45, 3) := by decide +kernel
theorem d_Ways_run_156 : decode me_Ways_run.2.1 156 = .ok (.iconst 3, 1) := by decide +kernel
theorem d_Ways_run_157 : decode me_Ways_run.2.1 157 = .ok (.iadd, 1) := by decide +kernel
theorem d_Ways_run_158 : decode me_Ways_run.2.1 158 = .ok (.ireturn, 1) := by decide +kernel
theorem d_Ways_run_159 : decode me_Ways_run.2.1 159 = .ok (.aload_n 0, 1) := by decide +kernel
theorem d_Ways_run_160 : decode me_Ways_run.2.1 160 = .ok (.iconst 0, 1) := by decide +kernel
theorem d_Ways_run_161 : decode me_Ways_run.2.1 161 = .ok (.iconst 1, 1) := by decide +kernel
theorem d_Ways_run_162 : decode me_Ways_run.2.1 162 = .ok (.iload_n 2, 1) := by decide +kernel
theorem d_Ways_run_163 : decode me_Ways_run.2.1 163 = .ok (.iload_n 3, 1) := by decide +kernel
theorem d_Ways_run_164 : decode me_Ways_run.2.1 164 = .ok (.invokevirtual 45, 3) := by decide +kernel
theorem d_Ways_run_167 : decode me_Ways_run.2.1 167 = .ok (.ineg, 1) := by decide +kernel
theorem d_Ways_run_168 : decode me_Ways_run.2.1 168 = .ok (.ireturn, 1) := by decide +kernel
theorem d_Ways_run_169 : decode me_Ways_run.2.1 169 = .ok (.aload_n 0, 1) := by decide +kernel
theorem d_Ways_run_170 : decode me_Ways_run.2.1 170 = .ok (.iconst 2, 1) := by decide +kernel
theorem d_Ways_run_171 : decode me_Ways_run.2.1 171 = .ok (.iconst 2, 1) := by decide +kernel
theorem d_Ways_run_172 : decode me_Ways_run.2.1 172 = .ok (.iload_n 2, 1) := by decide +kernel
theorem d_Ways_run_173 : decode me_Ways_run.2.1 173 = .ok (.iload_n 3, 1) := by decide +kernel
theorem d_Ways_run_174 : decode me_Ways_run.2.1 174 = .ok (.invokevirtual 45, 3) := by decide +kernel
theorem d_Ways_run_177 : decode me_Ways_run.2.1 177 = .ok (.iconst 3, 1) := by decide +kernel
theorem d_Ways_run_178 : decode me_Ways_run.2.1 178 = .ok (.imul, 1) := by decide +kernel
theorem d_Ways_run_179 : decode me_Ways_run.2.1 179 = .ok (.ireturn, 1) := by decide +kernel
theorem d_Ways_run_180 : decode me_Ways_run.2.1 180 = .ok (.aload_n 0, 1) := by decide +kernel
theorem d_Ways_run_181 : decode me_Ways_run.2.1 181 = .ok (.iconst 2, 1) := by decide +kernel
theorem d_Ways_run_182 : decode me_Ways_run.2.1 182 = .ok (.iconst 1, 1) := by decide +kernel
theorem d_Ways_run_183 : decode me_Ways_run.2.1 183 = .ok (.iload_n 2, 1) := by decide +kernel
theorem d_Ways_run_184 : decode me_Ways_run.2.1 184 = .ok (.iconst 1, 1) := by decide +kernel
theorem d_Ways_run_185 : decode me_Ways_run.2.1 185 = .ok (.iadd, 1) := by decide +kernel
theorem d_Ways_run_186 : decode me_Ways_run.2.1 186 = .ok (.iload_n 3, 1) := by decide +kernel
theorem d_Ways_run_187 : decode me_Ways_run.2.1 187 = .ok (.invokevirtual 45, 3) := by decide +kernel
theorem d_Ways_run_190 : decode me_Ways_run.2.1 190 = .ok (.ireturn, 1) := by decide +kernel
theorem d_Ways_run_191 : decode me_Ways_run.2.1 191 = .ok (.aload_n 0, 1) := by decide +kernel
theorem d_Ways_run_192 : decode me_Ways_run.2.1 192 = .ok (.iconst 1, 1) := by decide +kernel
theorem d_Ways_run_193 : decode me_Ways_run.2.1 193 = .ok (.iconst 2, 1) := by decide +kernel
theorem d_Ways_run_194 : decode me_Ways_run.2.1 194 = .ok (.iload_n 2, 1) := by decide +kernel
theorem d_Ways_run_195 : decode me_Ways_run.2.1 195 = .ok (.iload_n 3, 1) := by decide +kernel
theorem d_Ways_run_196 : decode me_Ways_run.2.1 196 = .ok (.invokevirtual 45, 3) := by decide +kernel
theorem d_Ways_run_199 : decode me_Ways_run.2.1 199 = .ok (.aload_n 0, 1) := by decide +kernel
theorem d_Ways_run_200 : decode me_Ways_run.2.1 200 = .ok (.iconst 0, 1) := by decide +kernel
theorem d_Ways_run_201 : decode me_Ways_run.2.1 201 = .ok (.iconst 2, 1) := by decide +kernel
theorem d_Ways_run_202 : decode me_Ways_run.2.1 202 = .ok (.iload_n 3, 1) := by decide +kernel
theorem d_Ways_run_203 : decode me_Ways_run.2.1 203 = .ok (.invokevirtual 41, 3) := by decide +kernel
theorem d_Ways_run_206 : decode me_Ways_run.2.1 206 = .ok (.isub, 1) := by decide +kernel
theorem d_Ways_run_207 : decode me_Ways_run.2.1 207 = .ok (.ireturn, 1) := by decide +kernel
theorem d_Ways_run_208 : decode me_Ways_run.2.1 208 = .ok (.aload_n 0, 1) := by decide +kernel
theorem d_Ways_run_209 : decode me_Ways_run.2.1 209 = .ok (.iconst 3, 1) := by decide +kernel
theorem d_Ways_run_210 : decode me_Ways_run.2.1 210 = .ok (.iconst 3, 1) := by decide +kernel
theorem d_Ways_run_211 : decode me_Ways_run.2.1 211 = .ok (.iload_n 2, 1) := by decide +kernel
theorem d_Ways_run_212 : decode me_Ways_run.2.1 212 = .ok (.iload_n 3, 1) := by decide +kernel
theorem d_Ways_run_213 : decode me_Ways_run.2.1 213 = .ok (.invokevirtual 45, 3) := by decide +kernel
theorem d_Ways_run_216 : decode me_Ways_run.2.1 216 = .ok (.iconst 5, 1) := by decide +kernel
theorem d_Ways_run_217 : decode me_Ways_run.2.1 217 = .ok (.ixor, 1) := by decide +kernel
theorem d_Ways_run_218 : decode me_Ways_run.2.1 218 = .ok (.ireturn, 1) := by decide +kernel
theorem d_Ways_run_219 : decode me_Ways_run.2.1 219 = .ok (.aload_n 0, 1) := by decide +kernel
theorem d_Ways_run_220 : decode me_Ways_run.2.1 220 = .ok (.iconst 0, 1) := by decide +kernel
theorem d_Ways_run_221 : decode me_Ways_run.2.1 221 = .ok (.iconst 0, 1) := by decide +kernel
theorem d_Ways_run_222 : decode me_Ways_run.2.1 222 = .ok (.iload_n 2, 1) := by decide +kernel
theorem d_Ways_run_223 : decode me_Ways_run.2.1 223 = .ok (.iload_n 3, 1) := by decide +kernel
theorem d_Ways_run_224 : decode me_Ways_run.2.1 224 = .ok (.invokevirtual 45, 3) := by decide +kernel
theorem d_Ways_run_227 : decode me_Ways_run.2.1 227 = .ok (.iconst 2, 1) := by decide +kernel
theorem d_Ways_run_228 : decode me_Ways_run.2.1 228 = .ok (.imul, 1) := by decide +kernel
theorem d_Ways_run_229 : decode me_Ways_run.2.1 229 = .ok (.ireturn, 1) := by decide +kernel
theorem d_Ways_run_230 : decode me_Ways_run.2.1 230 = .ok (.aload_n 0, 1) := by decide +kernel
theorem d_Ways_run_231 : decode me_Ways_run.2.1 231 = .ok (.iconst 4, 1) := by decide +kernel
theorem d_Ways_run_232 : decode me_Ways_run.2.1 232 = .ok (.iconst 1, 1) := by decide +kernel
theorem d_Ways_run_233 : decode me_Ways_run.2.1 233 = .ok (.iload_n 2, 1) := by decide +kernel
theorem d_Ways_run_234 : decode me_Ways_run.2.1 234 = .ok (.iload_n 3, 1) := by decide +kernel
theorem d_Ways_run_235 : decode me_Ways_run.2.1 235 = .ok (.invokevirtual 45, 3) := by decide +kernel
theorem d_Ways_run_238 : decode me_Ways_run.2.1 238 = .ok (.aload_n 0, 1) := by decide +kernel
theorem d_Ways_run_239 : decode me_Ways_run.2.1 239 = .ok (.iconst 2, 1) := by decide +kernel
theorem d_Ways_run_240 : decode me_Ways_run.2.1 240 = .ok (.iconst 2, 1) := by decide +kernel
theorem d_Ways_run_241 : decode me_Ways_run.2.1 241 = .ok (.iload_n 3, 1) := by decide +kernel
theorem d_Ways_run_242 : decode me_Ways_run.2.1 242 = .ok (.invokevirtual 41, 3) := by decide +kernel
theorem d_Ways_run_245 : decode me_Ways_run.2.1 245 = .ok (.iadd, 1) := by decide +kernel
theorem d_Ways_run_246 : decode me_Ways_run.2.1 246 = .ok (.ireturn, 1) := by decide +kernel
theorem d_Ways_run_247 : decode me_Ways_run.2.1 247 = .ok (.aload_n 0, 1) := by decide +kernel
theorem d_Ways_run_248 : decode me_Ways_run.2.1 248 = .ok (.iconst 4, 1) := by decide +kernel
theorem d_Ways_run_249 : decode me_Ways_run.2.1 249 = .ok (.iconst 3, 1) := by decide +kernel
theorem d_Ways_run_250 : decode me_Ways_run.2.1 250 = .ok (.iload_n 2, 1) := by decide +kernel
theorem d_Ways_run_251 : decode me_Ways_run.2.1 251 = .ok (.iload_n 3, 1) := by decide +kernel
theorem d_Ways_run_252 : decode me_Ways_run.2.1 252 = .ok (.invokevirtual 45, 3) := by decide +kernel
theorem d_Ways_run_255 : decode me_Ways_run.2.1 255 = .ok (.iconst 1, 1) := by decide +kernel
theorem d_Ways_run_256 : decode me_Ways_run.2.1 256 = .ok (.isub, 1) := by decide +kernel
theorem d_Ways_run_257 : decode me_Ways_run.2.1 257 = .ok (.ireturn, 1) := by decide +kernel
noncomputable def f_Ways_run_0 (q_Ways_run : Int32 → Int32 → Int32 → gk_M → Option (Int32 × gk_M)) (q_Ways_from : Int32 → Int32 → Int32 → Int32 → gk_M → Option (Int32 × gk_M)) (q_Ways_own : Int32 → Int32 → Int32 → gk_M → Option (Int32 × gk_M)) (a1 : Int32) (a2 : Int32) (a3 : Int32) (m0 : gk_M) : Option (Int32 × gk_M) :=
  if a1 = 1 then
    some ((a2 + (m0.1 37 4)), m0)
  else
    if a1 = 2 then
      gk_bi (q_Ways_own 1 a2 a3 m0) fun v4 m3 =>
      gk_bi (q_Ways_own 2 1 a3 m3) fun v6 m5 =>
      some ((v4 - v6), m5)
    else
      if a1 = 10 then
        gk_bi (q_Ways_own 0 a2 a3 m0) fun v9 m8 =>
        some ((v9 * 2), m8)
      else
        if a1 = 11 then
          some ((a2 ^^^ (m0.1 37 4)), m0)
        else
          if a1 = 20 then
            gk_bi (q_Ways_from 0 0 a2 a3 m0) fun v13 m12 =>
            some ((v13 + 3), m12)
          else
            if a1 = 30 then
              gk_bi (q_Ways_from 0 1 a2 a3 m0) fun v16 m15 =>
              some ((-v16), m15)
            else
              if a1 = 40 then
                gk_bi (q_Ways_from 2 2 a2 a3 m0) fun v19 m18 =>
                some ((v19 * 3), m18)
              else
                if a1 = 41 then
                  gk_bi (q_Ways_from 2 1 (a2 + 1) a3 m0) fun v22 m21 =>
                  some (v22, m21)
                else
                  if a1 = 50 then
                    gk_bi (q_Ways_from 1 2 a2 a3 m0) fun v25 m24 =>
                    gk_bi (q_Ways_own 0 2 a3 m24) fun v27 m26 =>
                    some ((v25 - v27), m26)
                  else
                    if a1 = 60 then
                      gk_bi (q_Ways_from 3 3 a2 a3 m0) fun v30 m29 =>
                      some ((v30 ^^^ 5), m29)
                    else
                      if a1 = 70 then
                        gk_bi (q_Ways_from 0 0 a2 a3 m0) fun v33 m32 =>
                        some ((v33 * 2), m32)
                      else
                        if a1 = 80 then
                          gk_bi (q_Ways_from 4 1 a2 a3 m0) fun v36 m35 =>
                          gk_bi (q_Ways_own 2 2 a3 m35) fun v38 m37 =>
                          some ((v36 + v38), m37)
                        else
                          gk_bi (q_Ways_from 4 3 a2 a3 m0) fun v40 m39 =>
                          some ((v40 - 1), m39)

theorem s_Ways_run_0 {z : gk_Z} {dd : Nat} (K : gk_F tx z me_Ways_run (1 + (dd + 1))) {r : Int32} {mem2 : gk_M} (q_Ways_run : Int32 → Int32 → Int32 → gk_M → Option (Int32 × gk_M)) (q_Ways_from : Int32 → Int32 → Int32 → Int32 → gk_M → Option (Int32 × gk_M)) (q_Ways_own : Int32 → Int32 → Int32 → gk_M → Option (Int32 × gk_M)) (hq_Ways_run : ∀ b0 b1 b2 mem r mem2, q_Ways_run b0 b1 b2 mem = some (r, mem2) → gk_C tx (gk_zl z) (gk_zu z) me_Ways_run (1 + dd) [.ref 37, .int b0, .int b1, .int b2] mem (some (.int r)) mem2) (hq_Ways_from : ∀ b0 b1 b2 b3 mem r mem2, q_Ways_from b0 b1 b2 b3 mem = some (r, mem2) → gk_C tx (gk_zl z) (gk_zu z) me_Ways_from (1 + dd) [.ref 37, .int b0, .int b1, .int b2, .int b3] mem (some (.int r)) mem2) (hq_Ways_own : ∀ b0 b1 b2 mem r mem2, q_Ways_own b0 b1 b2 mem = some (r, mem2) → gk_C tx (gk_zl z) (gk_zu z) me_Ways_own (1 + dd) [.ref 37, .int b0, .int b1, .int b2] mem (some (.int r)) mem2) : ∀ a1 a2 a3 m0, f_Ways_run_0 q_Ways_run q_Ways_from q_Ways_own a1 a2 a3 m0 = some (r, mem2) → gk_G tx z me_Ways_run (gk_R tx z (some (.int r)) mem2) m0 [(0, .ref 37), (1, .int a1), (2, .int a2), (3, .int a3)] [] 0 := by
  intro a1 a2 a3 m0  h
  unfold f_Ways_run_0 at h
  refine gk_iload_n (pc := 0) K d_Ways_run_0 rfl ?_
  refine gk_ite (c := a1 = 1) h (fun c1 h => ?_) (fun c1 h => ?_)
  · refine gk_lk (off := 107) (tgt := 108) (pc := 1) K d_Ways_run_1 rfl (by subst c1; rfl) (by decide) ?_
    refine gk_iload_n (pc := 108) K d_Ways_run_108 rfl ?_
    refine gk_aload_n (pc := 109) K d_Ways_run_109 rfl ?_
    refine gk_get (pc := 110) K d_Ways_run_110 fl_Ways_25 tx_37 rfl rfl ?_
    refine gk_iadd (pc := 113) K d_Ways_run_113 ?_
    exact gk_iret (pc := 114) K d_Ways_run_114 rfl h
  · skip
    refine gk_ite (c := a1 = 2) h (fun c2 h => ?_) (fun c2 h => ?_)
    · refine gk_lk (off := 114) (tgt := 115) (pc := 1) K d_Ways_run_1 rfl (by subst c2; rfl) (by decide) ?_
      refine gk_aload_n (pc := 115) K d_Ways_run_115 rfl ?_
      refine gk_iconst (pc := 116) K d_Ways_run_116 kc_1 ?_
      refine gk_iload_n (pc := 117) K d_Ways_run_117 rfl ?_
      refine gk_iload_n (pc := 118) K d_Ways_run_118 rfl ?_
      obtain ⟨v4, m3, em3, h⟩ := gk_bi_some h
      refine gk_cVi (As := [.int 1, .int a2, .int a3]) (pc := 119) K d_Ways_run_119 mv_Ways_41 mc_Ways_own rfl tx_37 cl_ok7.1 (hq_Ways_own _ _ _ _ _ _ em3) (by omega) rfl (Nat.le_of_ble_eq_true rfl) ?_
      refine gk_aload_n (pc := 122) K d_Ways_run_122 rfl ?_
      refine gk_iconst (pc := 123) K d_Ways_run_123 kc_2 ?_
      refine gk_iconst (pc := 124) K d_Ways_run_124 kc_1 ?_
      refine gk_iload_n (pc := 125) K d_Ways_run_125 rfl ?_
      obtain ⟨v6, m5, em5, h⟩ := gk_bi_some h
      refine gk_cVi (As := [.int 2, .int 1, .int a3]) (pc := 126) K d_Ways_run_126 mv_Ways_41 mc_Ways_own rfl tx_37 cl_ok7.1 (hq_Ways_own _ _ _ _ _ _ em5) (by omega) rfl (Nat.le_of_ble_eq_true rfl) ?_
      refine gk_isub (pc := 129) K d_Ways_run_129 ?_
      exact gk_iret (pc := 130) K d_Ways_run_130 rfl h
    · skip
      refine gk_ite (c := a1 = 10) h (fun c7 h => ?_) (fun c7 h => ?_)
      · refine gk_lk (off := 130) (tgt := 131) (pc := 1) K d_Ways_run_1 rfl (by subst c7; rfl) (by decide) ?_
        refine gk_aload_n (pc := 131) K d_Ways_run_131 rfl ?_
        refine gk_iconst (pc := 132) K d_Ways_run_132 kc_0 ?_
        refine gk_iload_n (pc := 133) K d_Ways_run_133 rfl ?_
        refine gk_iload_n (pc := 134) K d_Ways_run_134 rfl ?_
        obtain ⟨v9, m8, em8, h⟩ := gk_bi_some h
        refine gk_cVi (As := [.int 0, .int a2, .int a3]) (pc := 135) K d_Ways_run_135 mv_Ways_41 mc_Ways_own rfl tx_37 cl_ok7.1 (hq_Ways_own _ _ _ _ _ _ em8) (by omega) rfl (Nat.le_of_ble_eq_true rfl) ?_
        refine gk_iconst (pc := 138) K d_Ways_run_138 kc_2 ?_
        refine gk_imul (pc := 139) K d_Ways_run_139 ?_
        exact gk_iret (pc := 140) K d_Ways_run_140 rfl h
      · skip
        refine gk_ite (c := a1 = 11) h (fun c10 h => ?_) (fun c10 h => ?_)
        · refine gk_lk (off := 140) (tgt := 141) (pc := 1) K d_Ways_run_1 rfl (by subst c10; rfl) (by decide) ?_
          refine gk_iload_n (pc := 141) K d_Ways_run_141 rfl ?_
          refine gk_aload_n (pc := 142) K d_Ways_run_142 rfl ?_
          refine gk_get (pc := 143) K d_Ways_run_143 fl_Ways_25 tx_37 rfl rfl ?_
          refine gk_ixor (pc := 146) K d_Ways_run_146 ?_
          exact gk_iret (pc := 147) K d_Ways_run_147 rfl h
        · skip
          refine gk_ite (c := a1 = 20) h (fun c11 h => ?_) (fun c11 h => ?_)
          · refine gk_lk (off := 147) (tgt := 148) (pc := 1) K d_Ways_run_1 rfl (by subst c11; rfl) (by decide) ?_
            refine gk_aload_n (pc := 148) K d_Ways_run_148 rfl ?_
            refine gk_iconst (pc := 149) K d_Ways_run_149 kc_0 ?_
            refine gk_iconst (pc := 150) K d_Ways_run_150 kc_0 ?_
            refine gk_iload_n (pc := 151) K d_Ways_run_151 rfl ?_
            refine gk_iload_n (pc := 152) K d_Ways_run_152 rfl ?_
            obtain ⟨v13, m12, em12, h⟩ := gk_bi_some h
            refine gk_cVi (As := [.int 0, .int 0, .int a2, .int a3]) (pc := 153) K d_Ways_run_153 mv_Ways_45 mc_Ways_from rfl tx_37 cl_ok7.1 (hq_Ways_from _ _ _ _ _ _ _ em12) (by omega) rfl (Nat.le_of_ble_eq_true rfl) ?_
            refine gk_iconst (pc := 156) K d_Ways_run_156 kc_3 ?_
            refine gk_iadd (pc := 157) K d_Ways_run_157 ?_
            exact gk_iret (pc := 158) K d_Ways_run_158 rfl h
          · skip
            refine gk_ite (c := a1 = 30) h (fun c14 h => ?_) (fun c14 h => ?_)
            · refine gk_lk (off := 158) (tgt := 159) (pc := 1) K d_Ways_run_1 rfl (by subst c14; rfl) (by decide) ?_
              refine gk_aload_n (pc := 159) K d_Ways_run_159 rfl ?_
              refine gk_iconst (pc := 160) K d_Ways_run_160 kc_0 ?_
              refine gk_iconst (pc := 161) K d_Ways_run_161 kc_1 ?_
              refine gk_iload_n (pc := 162) K d_Ways_run_162 rfl ?_
              refine gk_iload_n (pc := 163) K d_Ways_run_163 rfl ?_
              obtain ⟨v16, m15, em15, h⟩ := gk_bi_some h
              refine gk_cVi (As := [.int 0, .int 1, .int a2, .int a3]) (pc := 164) K d_Ways_run_164 mv_Ways_45 mc_Ways_from rfl tx_37 cl_ok7.1 (hq_Ways_from _ _ _ _ _ _ _ em15) (by omega) rfl (Nat.le_of_ble_eq_true rfl) ?_
              refine gk_ineg (pc := 167) K d_Ways_run_167 ?_
              exact gk_iret (pc := 168) K d_Ways_run_168 rfl h
            · skip
              refine gk_ite (c := a1 = 40) h (fun c17 h => ?_) (fun c17 h => ?_)
              · refine gk_lk (off := 168) (tgt := 169) (pc := 1) K d_Ways_run_1 rfl (by subst c17; rfl) (by decide) ?_
                refine gk_aload_n (pc := 169) K d_Ways_run_169 rfl ?_
                refine gk_iconst (pc := 170) K d_Ways_run_170 kc_2 ?_
                refine gk_iconst (pc := 171) K d_Ways_run_171 kc_2 ?_
                refine gk_iload_n (pc := 172) K d_Ways_run_172 rfl ?_
                refine gk_iload_n (pc := 173) K d_Ways_run_173 rfl ?_
                obtain ⟨v19, m18, em18, h⟩ := gk_bi_some h
                refine gk_cVi (As := [.int 2, .int 2, .int a2, .int a3]) (pc := 174) K d_Ways_run_174 mv_Ways_45 mc_Ways_from rfl tx_37 cl_ok7.1 (hq_Ways_from _ _ _ _ _ _ _ em18) (by omega) rfl (Nat.le_of_ble_eq_true rfl) ?_
                refine gk_iconst (pc := 177) K d_Ways_run_177 kc_3 ?_
                refine gk_imul (pc := 178) K d_Ways_run_178 ?_
                exact gk_iret (pc := 179) K d_Ways_run_179 rfl h
              · skip
                refine gk_ite (c := a1 = 41) h (fun c20 h => ?_) (fun c20 h => ?_)
                · refine gk_lk (off := 179) (tgt := 180) (pc := 1) K d_Ways_run_1 rfl (by subst c20; rfl) (by decide) ?_
                  refine gk_aload_n (pc := 180) K d_Ways_run_180 rfl ?_
                  refine gk_iconst (pc := 181) K d_Ways_run_181 kc_2 ?_
                  refine gk_iconst (pc := 182) K d_Ways_run_182 kc_1 ?_
                  refine gk_iload_n (pc := 183) K d_Ways_run_183 rfl ?_
                  refine gk_iconst (pc := 184) K d_Ways_run_184 kc_1 ?_
                  refine gk_iadd (pc := 185) K d_Ways_run_185 ?_
                  refine gk_iload_n (pc := 186) K d_Ways_run_186 rfl ?_
                  obtain ⟨v22, m21, em21, h⟩ := gk_bi_some h
                  refine gk_cVi (As := [.int 2, .int 1, .int (a2 + 1), .int a3]) (pc := 187) K d_Ways_run_187 mv_Ways_45 mc_Ways_from rfl tx_37 cl_ok7.1 (hq_Ways_from _ _ _ _ _ _ _ em21) (by omega) rfl (Nat.le_of_ble_eq_true rfl) ?_
                  exact gk_iret (pc := 190) K d_Ways_run_190 rfl h
                · skip
                  refine gk_ite (c := a1 = 50) h (fun c23 h => ?_) (fun c23 h => ?_)
                  · refine gk_lk (off := 190) (tgt := 191) (pc := 1) K d_Ways_run_1 rfl (by subst c23; rfl) (by decide) ?_
                    refine gk_aload_n (pc := 191) K d_Ways_run_191 rfl ?_
                    refine gk_iconst (pc := 192) K d_Ways_run_192 kc_1 ?_
                    refine gk_iconst (pc := 193) K d_Ways_run_193 kc_2 ?_
                    refine gk_iload_n (pc := 194) K d_Ways_run_194 rfl ?_
                    refine gk_iload_n (pc := 195) K d_Ways_run_195 rfl ?_
                    obtain ⟨v25, m24, em24, h⟩ := gk_bi_some h
                    refine gk_cVi (As := [.int 1, .int 2, .int a2, .int a3]) (pc := 196) K d_Ways_run_196 mv_Ways_45 mc_Ways_from rfl tx_37 cl_ok7.1 (hq_Ways_from _ _ _ _ _ _ _ em24) (by omega) rfl (Nat.le_of_ble_eq_true rfl) ?_
                    refine gk_aload_n (pc := 199) K d_Ways_run_199 rfl ?_
                    refine gk_iconst (pc := 200) K d_Ways_run_200 kc_0 ?_
                    refine gk_iconst (pc := 201) K d_Ways_run_201 kc_2 ?_
                    refine gk_iload_n (pc := 202) K d_Ways_run_202 rfl ?_
                    obtain ⟨v27, m26, em26, h⟩ := gk_bi_some h
                    refine gk_cVi (As := [.int 0, .int 2, .int a3]) (pc := 203) K d_Ways_run_203 mv_Ways_41 mc_Ways_own rfl tx_37 cl_ok7.1 (hq_Ways_own _ _ _ _ _ _ em26) (by omega) rfl (Nat.le_of_ble_eq_true rfl) ?_
                    refine gk_isub (pc := 206) K d_Ways_run_206 ?_
                    exact gk_iret (pc := 207) K d_Ways_run_207 rfl h
                  · skip
                    refine gk_ite (c := a1 = 60) h (fun c28 h => ?_) (fun c28 h => ?_)
                    · refine gk_lk (off := 207) (tgt := 208) (pc := 1) K d_Ways_run_1 rfl (by subst c28; rfl) (by decide) ?_
                      refine gk_aload_n (pc := 208) K d_Ways_run_208 rfl ?_
                      refine gk_iconst (pc := 209) K d_Ways_run_209 kc_3 ?_
                      refine gk_iconst (pc := 210) K d_Ways_run_210 kc_3 ?_
                      refine gk_iload_n (pc := 211) K d_Ways_run_211 rfl ?_
                      refine gk_iload_n (pc := 212) K d_Ways_run_212 rfl ?_
                      obtain ⟨v30, m29, em29, h⟩ := gk_bi_some h
                      refine gk_cVi (As := [.int 3, .int 3, .int a2, .int a3]) (pc := 213) K d_Ways_run_213 mv_Ways_45 mc_Ways_from rfl tx_37 cl_ok7.1 (hq_Ways_from _ _ _ _ _ _ _ em29) (by omega) rfl (Nat.le_of_ble_eq_true rfl) ?_
                      refine gk_iconst (pc := 216) K d_Ways_run_216 kc_5 ?_
                      refine gk_ixor (pc := 217) K d_Ways_run_217 ?_
                      exact gk_iret (pc := 218) K d_Ways_run_218 rfl h
                    · skip
                      refine gk_ite (c := a1 = 70) h (fun c31 h => ?_) (fun c31 h => ?_)
                      · refine gk_lk (off := 218) (tgt := 219) (pc := 1) K d_Ways_run_1 rfl (by subst c31; rfl) (by decide) ?_
                        refine gk_aload_n (pc := 219) K d_Ways_run_219 rfl ?_
                        refine gk_iconst (pc := 220) K d_Ways_run_220 kc_0 ?_
                        refine gk_iconst (pc := 221) K d_Ways_run_221 kc_0 ?_
                        refine gk_iload_n (pc := 222) K d_Ways_run_222 rfl ?_
                        refine gk_iload_n (pc := 223) K d_Ways_run_223 rfl ?_
                        obtain ⟨v33, m32, em32, h⟩ := gk_bi_some h
                        refine gk_cVi (As := [.int 0, .int 0, .int a2, .int a3]) (pc := 224) K d_Ways_run_224 mv_Ways_45 mc_Ways_from rfl tx_37 cl_ok7.1 (hq_Ways_from _ _ _ _ _ _ _ em32) (by omega) rfl (Nat.le_of_ble_eq_true rfl) ?_
                        refine gk_iconst (pc := 227) K d_Ways_run_227 kc_2 ?_
                        refine gk_imul (pc := 228) K d_Ways_run_228 ?_
                        exact gk_iret (pc := 229) K d_Ways_run_229 rfl h
                      · skip
                        refine gk_ite (c := a1 = 80) h (fun c34 h => ?_) (fun c34 h => ?_)
                        · refine gk_lk (off := 229) (tgt := 230) (pc := 1) K d_Ways_run_1 rfl (by subst c34; rfl) (by decide) ?_
                          refine gk_aload_n (pc := 230) K d_Ways_run_230 rfl ?_
                          refine gk_iconst (pc := 231) K d_Ways_run_231 kc_4 ?_
                          refine gk_iconst (pc := 232) K d_Ways_run_232 kc_1 ?_
                          refine gk_iload_n (pc := 233) K d_Ways_run_233 rfl ?_
                          refine gk_iload_n (pc := 234) K d_Ways_run_234 rfl ?_
                          obtain ⟨v36, m35, em35, h⟩ := gk_bi_some h
                          refine gk_cVi (As := [.int 4, .int 1, .int a2, .int a3]) (pc := 235) K d_Ways_run_235 mv_Ways_45 mc_Ways_from rfl tx_37 cl_ok7.1 (hq_Ways_from _ _ _ _ _ _ _ em35) (by omega) rfl (Nat.le_of_ble_eq_true rfl) ?_
                          refine gk_aload_n (pc := 238) K d_Ways_run_238 rfl ?_
                          refine gk_iconst (pc := 239) K d_Ways_run_239 kc_2 ?_
                          refine gk_iconst (pc := 240) K d_Ways_run_240 kc_2 ?_
                          refine gk_iload_n (pc := 241) K d_Ways_run_241 rfl ?_
                          obtain ⟨v38, m37, em37, h⟩ := gk_bi_some h
                          refine gk_cVi (As := [.int 2, .int 2, .int a3]) (pc := 242) K d_Ways_run_242 mv_Ways_41 mc_Ways_own rfl tx_37 cl_ok7.1 (hq_Ways_own _ _ _ _ _ _ em37) (by omega) rfl (Nat.le_of_ble_eq_true rfl) ?_
                          refine gk_iadd (pc := 245) K d_Ways_run_245 ?_
                          exact gk_iret (pc := 246) K d_Ways_run_246 rfl h
                        · skip
                          refine gk_lk (off := 246) (tgt := 247) (pc := 1) K d_Ways_run_1 rfl ((lv_osw c1 (by decide)).trans ((lv_osw c2 (by decide)).trans ((lv_osw c7 (by decide)).trans ((lv_osw c10 (by decide)).trans ((lv_osw c11 (by decide)).trans ((lv_osw c14 (by decide)).trans ((lv_osw c17 (by decide)).trans ((lv_osw c20 (by decide)).trans ((lv_osw c23 (by decide)).trans ((lv_osw c28 (by decide)).trans ((lv_osw c31 (by decide)).trans ((lv_osw c34 (by decide)).trans (rfl))))))))))))) (by decide) ?_
                          refine gk_aload_n (pc := 247) K d_Ways_run_247 rfl ?_
                          refine gk_iconst (pc := 248) K d_Ways_run_248 kc_4 ?_
                          refine gk_iconst (pc := 249) K d_Ways_run_249 kc_3 ?_
                          refine gk_iload_n (pc := 250) K d_Ways_run_250 rfl ?_
                          refine gk_iload_n (pc := 251) K d_Ways_run_251 rfl ?_
                          obtain ⟨v40, m39, em39, h⟩ := gk_bi_some h
                          refine gk_cVi (As := [.int 4, .int 3, .int a2, .int a3]) (pc := 252) K d_Ways_run_252 mv_Ways_45 mc_Ways_from rfl tx_37 cl_ok7.1 (hq_Ways_from _ _ _ _ _ _ _ em39) (by omega) rfl (Nat.le_of_ble_eq_true rfl) ?_
                          refine gk_iconst (pc := 255) K d_Ways_run_255 kc_1 ?_
                          refine gk_isub (pc := 256) K d_Ways_run_256 ?_
                          exact gk_iret (pc := 257) K d_Ways_run_257 rfl h
theorem d_Ways_from_0 : decode me_Ways_from.2.1 0 = .ok (.iload_n 1, 1) := by decide +kernel
theorem d_Ways_from_1 : decode me_Ways_from.2.1 1 = .ok (.istore 5, 2) := by decide +kernel
theorem d_Ways_from_3 : decode me_Ways_from.2.1 3 = .ok (.iconst 0, 1) := by decide +kernel
theorem d_Ways_from_4 : decode me_Ways_from.2.1 4 = .ok (.istore 6, 2) := by decide +kernel
theorem d_Ways_from_6 : decode me_Ways_from.2.1 6 = .ok (.iload 6, 2) := by decide +kernel
theorem d_Ways_from_8 : decode me_Ways_from.2.1 8 = .ok (.bipush 8, 2) := by decide +kernel
theorem d_Ways_from_10 : decode me_Ways_from.2.1 10 = .ok (.if_icmp .ge 35, 3) := by decide +kernel
theorem d_Ways_from_13 : decode me_Ways_from.2.1 13 = .ok (.iload 5, 2) := by decide +kernel
theorem d_Ways_from_15 : decode me_Ways_from.2.1 15 = .ok (.ifCond .le 30, 3) := by decide +kernel
theorem d_Ways_from_18 : decode me_Ways_from.2.1 18 = .ok (.getstatic 49, 3) := by decide +kernel
theorem d_Ways_from_21 : decode me_Ways_from.2.1 21 = .ok (.iload 5, 2) := by decide +kernel
theorem d_Ways_from_23 : decode me_Ways_from.2.1 23 = .ok (.iconst 4, 1) := by decide +kernel
theorem d_Ways_from_24 : decode me_Ways_from.2.1 24 = .ok (.imul, 1) := by decide +kernel
theorem d_Ways_from_25 : decode me_Ways_from.2.1 25 = .ok (.iload_n 2, 1) := by decide +kernel
theorem d_Ways_from_26 : decode me_Ways_from.2.1 26 = .ok (.iadd, 1) := by decide +kernel
theorem d_Ways_from_27 : decode me_Ways_from.2.1 27 = .ok (.iaload, 1) := by decide +kernel
theorem d_Ways_from_28 : decode me_Ways_from.2.1 28 = .ok (.ifCond .ne 17, 3) := by decide +kernel
theorem d_Ways_from_31 : decode me_Ways_from.2.1 31 = .ok (.getstatic 28, 3) := by decide +kernel
theorem d_Ways_from_34 : decode me_Ways_from.2.1 34 = .ok (.iload 5, 2) := by decide +kernel
theorem d_Ways_from_36 : decode me_Ways_from.2.1 36 = .ok (.iaload, 1) := by decide +kernel
theorem d_Ways_from_37 : decode me_Ways_from.2.1 37 = .ok (.istore 5, 2) := by decide +kernel
theorem d_Ways_from_39 : decode me_Ways_from.2.1 39 = .ok (.iinc 6 1, 3) := by decide +kernel
theorem d_Ways_from_42 : decode me_Ways_from.2.1 42 = .ok (.goto (-36), 3) := by decide +kernel
theorem d_Ways_from_45 : decode me_Ways_from.2.1 45 = .ok (.iload 5, 2) := by decide +kernel
theorem d_Ways_from_47 : decode me_Ways_from.2.1 47 = .ok (.ifCond .lt 10, 3) := by decide +kernel
theorem d_Ways_from_50 : decode me_Ways_from.2.1 50 = .ok (.iload 4, 2) := by decide +kernel
theorem d_Ways_from_52 : decode me_Ways_from.2.1 52 = .ok (.bipush 40, 2) := by decide +kernel
theorem d_Ways_from_54 : decode me_Ways_from.2.1 54 = .ok (.if_icmp .lt 5, 3) := by decide +kernel
theorem d_Ways_from_57 : decode me_Ways_from.2.1 57 = .ok (.iconst 0, 1) := by decide +kernel
theorem d_Ways_from_58 : decode me_Ways_from.2.1 58 = .ok (.ireturn, 1) := by decide +kernel
theorem d_Ways_from_59 : decode me_Ways_from.2.1 59 = .ok (.getstatic 49, 3) := by decide +kernel
theorem d_Ways_from_62 : decode me_Ways_from.2.1 62 = .ok (.iload 5, 2) := by decide +kernel
theorem d_Ways_from_64 : decode me_Ways_from.2.1 64 = .ok (.iconst 4, 1) := by decide +kernel
theorem d_Ways_from_65 : decode me_Ways_from.2.1 65 = .ok (.imul, 1) := by decide +kernel
theorem d_Ways_from_66 : decode me_Ways_from.2.1 66 = .ok (.iload_n 2, 1) := by decide +kernel
theorem d_Ways_from_67 : decode me_Ways_from.2.1 67 = .ok (.iadd, 1) := by decide +kernel
theorem d_Ways_from_68 : decode me_Ways_from.2.1 68 = .ok (.iaload, 1) := by decide +kernel
theorem d_Ways_from_69 : decode me_Ways_from.2.1 69 = .ok (.istore 6, 2) := by decide +kernel
theorem d_Ways_from_71 : decode me_Ways_from.2.1 71 = .ok (.aload_n 0, 1) := by decide +kernel
theorem d_Ways_from_72 : decode me_Ways_from.2.1 72 = .ok (.getfield 15, 3) := by decide +kernel
theorem d_Ways_from_75 : decode me_Ways_from.2.1 75 = .ok (.bipush 24, 2) := by decide +kernel
theorem d_Ways_from_77 : decode me_Ways_from.2.1 77 = .ok (.if_icmp .ge 14, 3) := by decide +kernel
theorem d_Ways_from_80 : decode me_Ways_from.2.1 80 = .ok (.aload_n 0, 1) := by decide +kernel
theorem d_Ways_from_81 : decode me_Ways_from.2.1 81 = .ok (.getfield 22, 3) := by decide +kernel
theorem d_Ways_from_84 : decode me_Ways_from.2.1 84 = .ok (.aload_n 0, 1) := by decide +kernel
theorem d_Ways_from_85 : decode me_Ways_from.2.1 85 = .ok (.getfield 15, 3) := by decide +kernel
theorem d_Ways_from_88 : decode me_Ways_from.2.1 88 = .ok (.iload 6, 2) := by decide +kernel
theorem d_Ways_from_90 : decode me_Ways_from.2.1 90 = .ok (.iastore, 1) := by decide +kernel
theorem d_Ways_from_91 : decode me_Ways_from.2.1 91 = .ok (.aload_n 0, 1) := by decide +kernel
theorem d_Ways_from_92 : decode me_Ways_from.2.1 92 = .ok (.dup, 1) := by decide +kernel
theorem d_Ways_from_93 : decode me_Ways_from.2.1 93 = .ok (.getfield 15, 3) := by decide +kernel
theorem d_Ways_from_96 : decode me_Ways_from.2.1 96 = .ok (.iconst 1, 1) := by decide +kernel
theorem d_Ways_from_97 : decode me_Ways_from.2.1 97 = .ok (.iadd, 1) := by decide +kernel
theorem d_Ways_from_98 : decode me_Ways_from.2.1 98 = .ok (.putfield 15, 3) := by decide +kernel
theorem d_Ways_from_101 : decode me_Ways_from.2.1 101 = .ok (.aload_n 0, 1) := by decide +kernel
theorem d_Ways_from_102 : decode me_Ways_from.2.1 102 = .ok (.iload 6, 2) := by decide +kernel
theorem d_Ways_from_104 : decode me_Ways_from.2.1 104 = .ok (.iload_n 3, 1) := by decide +kernel
theorem d_Ways_from_105 : decode me_Ways_from.2.1 105 = .ok (.iload 4, 2) := by decide +kernel
theorem d_Ways_from_107 : decode me_Ways_from.2.1 107 = .ok (.iconst 1, 1) := by decide +kernel
theorem d_Ways_from_108 : decode me_Ways_from.2.1 108 = .ok (.iadd, 1) := by decide +kernel
theorem d_Ways_from_109 : decode me_Ways_from.2.1 109 = .ok (.invokevirtual 52, 3) := by decide +kernel
theorem d_Ways_from_112 : decode me_Ways_from.2.1 112 = .ok (.ireturn, 1) := by decide +kernel
noncomputable def f_Ways_from_91 (q_Ways_run : Int32 → Int32 → Int32 → gk_M → Option (Int32 × gk_M)) (q_Ways_from : Int32 → Int32 → Int32 → Int32 → gk_M → Option (Int32 × gk_M)) (q_Ways_own : Int32 → Int32 → Int32 → gk_M → Option (Int32 × gk_M)) (a3 : Int32) (a4 : Int32) (a6 : Int32) (m0 : gk_M) : Option (Int32 × gk_M) :=
  gk_let (gk_mi m0 37 1 ((m0.1 37 1) + 1)) fun m1 =>
  gk_bi (q_Ways_run a6 a3 (a4 + 1) m1) fun v3 m2 =>
  some (v3, m2)

theorem s_Ways_from_91 {z : gk_Z} {dd : Nat} (K : gk_F tx z me_Ways_from (1 + (dd + 1))) {r : Int32} {mem2 : gk_M} (q_Ways_run : Int32 → Int32 → Int32 → gk_M → Option (Int32 × gk_M)) (q_Ways_from : Int32 → Int32 → Int32 → Int32 → gk_M → Option (Int32 × gk_M)) (q_Ways_own : Int32 → Int32 → Int32 → gk_M → Option (Int32 × gk_M)) (hq_Ways_run : ∀ b0 b1 b2 mem r mem2, q_Ways_run b0 b1 b2 mem = some (r, mem2) → gk_C tx (gk_zl z) (gk_zu z) me_Ways_run (1 + dd) [.ref 37, .int b0, .int b1, .int b2] mem (some (.int r)) mem2) (hq_Ways_from : ∀ b0 b1 b2 b3 mem r mem2, q_Ways_from b0 b1 b2 b3 mem = some (r, mem2) → gk_C tx (gk_zl z) (gk_zu z) me_Ways_from (1 + dd) [.ref 37, .int b0, .int b1, .int b2, .int b3] mem (some (.int r)) mem2) (hq_Ways_own : ∀ b0 b1 b2 mem r mem2, q_Ways_own b0 b1 b2 mem = some (r, mem2) → gk_C tx (gk_zl z) (gk_zu z) me_Ways_own (1 + dd) [.ref 37, .int b0, .int b1, .int b2] mem (some (.int r)) mem2) : ∀ a3 a4 a6 m0, f_Ways_from_91 q_Ways_run q_Ways_from q_Ways_own a3 a4 a6 m0 = some (r, mem2) → gk_G tx z me_Ways_from (gk_R tx z (some (.int r)) mem2) m0 [(0, .ref 37), (3, .int a3), (4, .int a4), (6, .int a6)] [] 91 := by
  intro a3 a4 a6 m0  h
  unfold f_Ways_from_91 at h
  refine gk_aload_n (pc := 91) K d_Ways_from_91 rfl ?_
  refine gk_dup (pc := 92) K d_Ways_from_92 rfl ?_
  refine gk_get (pc := 93) K d_Ways_from_93 fl_Ways_15 tx_37 rfl rfl ?_
  refine gk_iconst (pc := 96) K d_Ways_from_96 kc_1 ?_
  refine gk_iadd (pc := 97) K d_Ways_from_97 ?_
  refine gk_puti (pc := 98) K d_Ways_from_98 fp_Ways_15 tx_37 rfl h (fun m1 h => ?_)
  refine gk_aload_n (pc := 101) K d_Ways_from_101 rfl ?_
  refine gk_iload (pc := 102) K d_Ways_from_102 rfl ?_
  refine gk_iload_n (pc := 104) K d_Ways_from_104 rfl ?_
  refine gk_iload (pc := 105) K d_Ways_from_105 rfl ?_
  refine gk_iconst (pc := 107) K d_Ways_from_107 kc_1 ?_
  refine gk_iadd (pc := 108) K d_Ways_from_108 ?_
  obtain ⟨v3, m2, em2, h⟩ := gk_bi_some h
  refine gk_cVi (As := [.int a6, .int a3, .int (a4 + 1)]) (pc := 109) K d_Ways_from_109 mv_Ways_52 mc_Ways_run rfl tx_37 cl_ok7.1 (hq_Ways_run _ _ _ _ _ _ em2) (by omega) rfl (Nat.le_of_ble_eq_true rfl) ?_
  exact gk_iret (pc := 112) K d_Ways_from_112 rfl h
noncomputable def f_Ways_from_45 (q_Ways_run : Int32 → Int32 → Int32 → gk_M → Option (Int32 × gk_M)) (q_Ways_from : Int32 → Int32 → Int32 → Int32 → gk_M → Option (Int32 × gk_M)) (q_Ways_own : Int32 → Int32 → Int32 → gk_M → Option (Int32 × gk_M)) (a2 : Int32) (a3 : Int32) (a4 : Int32) (a5 : Int32) (m0 : gk_M) : Option (Int32 × gk_M) :=
  if a5 < 0 then
    some (0, m0)
  else
    if a4 < 40 then
      gk_at tb_1 ((a5 * 4) + a2) fun v1 =>
      if 24 ≤ (m0.1 37 1) then
        f_Ways_from_91 q_Ways_run q_Ways_from q_Ways_own a3 a4 v1 m0
      else
        gk_si m0 39 24 (m0.1 37 1) v1 fun m2 =>
        f_Ways_from_91 q_Ways_run q_Ways_from q_Ways_own a3 a4 v1 m2
    else
      some (0, m0)

theorem s_Ways_from_45 {z : gk_Z} {dd : Nat} (K : gk_F tx z me_Ways_from (1 + (dd + 1))) {r : Int32} {mem2 : gk_M} (q_Ways_run : Int32 → Int32 → Int32 → gk_M → Option (Int32 × gk_M)) (q_Ways_from : Int32 → Int32 → Int32 → Int32 → gk_M → Option (Int32 × gk_M)) (q_Ways_own : Int32 → Int32 → Int32 → gk_M → Option (Int32 × gk_M)) (hq_Ways_run : ∀ b0 b1 b2 mem r mem2, q_Ways_run b0 b1 b2 mem = some (r, mem2) → gk_C tx (gk_zl z) (gk_zu z) me_Ways_run (1 + dd) [.ref 37, .int b0, .int b1, .int b2] mem (some (.int r)) mem2) (hq_Ways_from : ∀ b0 b1 b2 b3 mem r mem2, q_Ways_from b0 b1 b2 b3 mem = some (r, mem2) → gk_C tx (gk_zl z) (gk_zu z) me_Ways_from (1 + dd) [.ref 37, .int b0, .int b1, .int b2, .int b3] mem (some (.int r)) mem2) (hq_Ways_own : ∀ b0 b1 b2 mem r mem2, q_Ways_own b0 b1 b2 mem = some (r, mem2) → gk_C tx (gk_zl z) (gk_zu z) me_Ways_own (1 + dd) [.ref 37, .int b0, .int b1, .int b2] mem (some (.int r)) mem2) : ∀ a2 a3 a4 a5 m0, f_Ways_from_45 q_Ways_run q_Ways_from q_Ways_own a2 a3 a4 a5 m0 = some (r, mem2) → gk_G tx z me_Ways_from (gk_R tx z (some (.int r)) mem2) m0 [(0, .ref 37), (2, .int a2), (3, .int a3), (4, .int a4), (5, .int a5)] [] 45 := by
  intro a2 a3 a4 a5 m0  h
  unfold f_Ways_from_45 at h
  refine gk_iload (pc := 45) K d_Ways_from_45 rfl ?_
  refine gk_if_lt (tgt := 57) (pc := 47) K d_Ways_from_47 (by decide) h (fun h => ?_) (fun h => ?_)
  · refine gk_iconst (pc := 57) K d_Ways_from_57 kc_0 ?_
    exact gk_iret (pc := 58) K d_Ways_from_58 rfl h
  · refine gk_iload (pc := 50) K d_Ways_from_50 rfl ?_
    refine gk_bipush (pc := 52) K d_Ways_from_52 kb_40 ?_
    refine gk_ic_lt (tgt := 59) (pc := 54) K d_Ways_from_54 (by decide) h (fun h => ?_) (fun h => ?_)
    · refine gk_gets (i := 1) (pc := 59) K d_Ways_from_59 tt_1 fs_Ways_49 ?_
      refine gk_iload (pc := 62) K d_Ways_from_62 rfl ?_
      refine gk_iconst (pc := 64) K d_Ways_from_64 kc_4 ?_
      refine gk_imul (pc := 65) K d_Ways_from_65 ?_
      refine gk_iload_n (pc := 66) K d_Ways_from_66 rfl ?_
      refine gk_iadd (pc := 67) K d_Ways_from_67 ?_
      refine gk_tald (n := 1) (pc := 68) K d_Ways_from_68 tt_1 h (fun v1 h => ?_)
      refine gk_istore (lv2 := [(6, .int v1), (0, .ref 37), (2, .int a2), (3, .int a3), (4, .int a4), (5, .int a5)]) (pc := 69) K d_Ways_from_69 (by decide) rfl ?_
      refine gk_aload_n (pc := 71) K d_Ways_from_71 rfl ?_
      refine gk_get (pc := 72) K d_Ways_from_72 fl_Ways_15 tx_37 rfl rfl ?_
      refine gk_bipush (pc := 75) K d_Ways_from_75 kb_24 ?_
      refine gk_ic_ge (tgt := 91) (pc := 77) K d_Ways_from_77 (by decide) h (fun h => ?_) (fun h => ?_)
      · exact gk_sub [1, 3, 4, 0] rfl (s_Ways_from_91 K q_Ways_run q_Ways_from q_Ways_own hq_Ways_run hq_Ways_from hq_Ways_own _ _ _ _  h)
      · refine gk_aload_n (pc := 80) K d_Ways_from_80 rfl ?_
        refine gk_get (pc := 81) K d_Ways_from_81 fl_Ways_22 tx_37 rfl rfl ?_
        refine gk_aload_n (pc := 84) K d_Ways_from_84 rfl ?_
        refine gk_get (pc := 85) K d_Ways_from_85 fl_Ways_15 tx_37 rfl rfl ?_
        refine gk_iload (pc := 88) K d_Ways_from_88 rfl ?_
        refine gk_iast (pc := 90) K d_Ways_from_90 tx_39 h (fun m2 h => ?_)
        exact gk_sub [1, 3, 4, 0] rfl (s_Ways_from_91 K q_Ways_run q_Ways_from q_Ways_own hq_Ways_run hq_Ways_from hq_Ways_own _ _ _ _  h)
    · refine gk_iconst (pc := 57) K d_Ways_from_57 kc_0 ?_
      exact gk_iret (pc := 58) K d_Ways_from_58 rfl h
noncomputable def f_Ways_from_6 (q_Ways_run : Int32 → Int32 → Int32 → gk_M → Option (Int32 × gk_M)) (q_Ways_from : Int32 → Int32 → Int32 → Int32 → gk_M → Option (Int32 × gk_M)) (q_Ways_own : Int32 → Int32 → Int32 → gk_M → Option (Int32 × gk_M)) : Nat → Int32 → Int32 → Int32 → Int32 → Int32 → gk_M → Option (Int32 × gk_M)
  | 0, _, _, _, _, _, _ => none
  | n + 1, a2, a3, a4, a5, a6, m0 =>
    if 8 ≤ a6 then
      f_Ways_from_45 q_Ways_run q_Ways_from q_Ways_own a2 a3 a4 a5 m0
    else
      if a5 ≤ 0 then
        f_Ways_from_45 q_Ways_run q_Ways_from q_Ways_own a2 a3 a4 a5 m0
      else
        gk_at tb_1 ((a5 * 4) + a2) fun v1 =>
        if ¬ v1 = 0 then
          f_Ways_from_45 q_Ways_run q_Ways_from q_Ways_own a2 a3 a4 a5 m0
        else
          gk_at tb_0 a5 fun v2 =>
          f_Ways_from_6 q_Ways_run q_Ways_from q_Ways_own n a2 a3 a4 v2 (a6 + 1) m0

theorem s_Ways_from_6 {z : gk_Z} {dd : Nat} (K : gk_F tx z me_Ways_from (1 + (dd + 1))) {r : Int32} {mem2 : gk_M} (q_Ways_run : Int32 → Int32 → Int32 → gk_M → Option (Int32 × gk_M)) (q_Ways_from : Int32 → Int32 → Int32 → Int32 → gk_M → Option (Int32 × gk_M)) (q_Ways_own : Int32 → Int32 → Int32 → gk_M → Option (Int32 × gk_M)) (hq_Ways_run : ∀ b0 b1 b2 mem r mem2, q_Ways_run b0 b1 b2 mem = some (r, mem2) → gk_C tx (gk_zl z) (gk_zu z) me_Ways_run (1 + dd) [.ref 37, .int b0, .int b1, .int b2] mem (some (.int r)) mem2) (hq_Ways_from : ∀ b0 b1 b2 b3 mem r mem2, q_Ways_from b0 b1 b2 b3 mem = some (r, mem2) → gk_C tx (gk_zl z) (gk_zu z) me_Ways_from (1 + dd) [.ref 37, .int b0, .int b1, .int b2, .int b3] mem (some (.int r)) mem2) (hq_Ways_own : ∀ b0 b1 b2 mem r mem2, q_Ways_own b0 b1 b2 mem = some (r, mem2) → gk_C tx (gk_zl z) (gk_zu z) me_Ways_own (1 + dd) [.ref 37, .int b0, .int b1, .int b2] mem (some (.int r)) mem2) : ∀ n a2 a3 a4 a5 a6 m0, f_Ways_from_6 q_Ways_run q_Ways_from q_Ways_own n a2 a3 a4 a5 a6 m0 = some (r, mem2) → gk_G tx z me_Ways_from (gk_R tx z (some (.int r)) mem2) m0 [(0, .ref 37), (2, .int a2), (3, .int a3), (4, .int a4), (5, .int a5), (6, .int a6)] [] 6 := by
  intro n
  induction n with
  | zero => intro a2 a3 a4 a5 a6 m0  h; exact nomatch (show (none : Option _) = some _ from h)
  | succ n ih =>
    intro a2 a3 a4 a5 a6 m0  h
    unfold f_Ways_from_6 at h
    refine gk_iload (pc := 6) K d_Ways_from_6 rfl ?_
    refine gk_bipush (pc := 8) K d_Ways_from_8 kb_8 ?_
    refine gk_ic_ge (tgt := 45) (pc := 10) K d_Ways_from_10 (by decide) h (fun h => ?_) (fun h => ?_)
    · exact gk_sub [0, 1, 2, 3, 4] rfl (s_Ways_from_45 K q_Ways_run q_Ways_from q_Ways_own hq_Ways_run hq_Ways_from hq_Ways_own _ _ _ _ _  h)
    · refine gk_iload (pc := 13) K d_Ways_from_13 rfl ?_
      refine gk_if_le (tgt := 45) (pc := 15) K d_Ways_from_15 (by decide) h (fun h => ?_) (fun h => ?_)
      · exact gk_sub [0, 1, 2, 3, 4] rfl (s_Ways_from_45 K q_Ways_run q_Ways_from q_Ways_own hq_Ways_run hq_Ways_from hq_Ways_own _ _ _ _ _  h)
      · refine gk_gets (i := 1) (pc := 18) K d_Ways_from_18 tt_1 fs_Ways_49 ?_
        refine gk_iload (pc := 21) K d_Ways_from_21 rfl ?_
        refine gk_iconst (pc := 23) K d_Ways_from_23 kc_4 ?_
        refine gk_imul (pc := 24) K d_Ways_from_24 ?_
        refine gk_iload_n (pc := 25) K d_Ways_from_25 rfl ?_
        refine gk_iadd (pc := 26) K d_Ways_from_26 ?_
        refine gk_tald (n := 1) (pc := 27) K d_Ways_from_27 tt_1 h (fun v1 h => ?_)
        refine gk_if_ne (tgt := 45) (pc := 28) K d_Ways_from_28 (by decide) h (fun h => ?_) (fun h => ?_)
        · exact gk_sub [0, 1, 2, 3, 4] rfl (s_Ways_from_45 K q_Ways_run q_Ways_from q_Ways_own hq_Ways_run hq_Ways_from hq_Ways_own _ _ _ _ _  h)
        · refine gk_gets (i := 0) (pc := 31) K d_Ways_from_31 tt_0 fs_Ways_28 ?_
          refine gk_iload (pc := 34) K d_Ways_from_34 rfl ?_
          refine gk_tald (n := 0) (pc := 36) K d_Ways_from_36 tt_0 h (fun v2 h => ?_)
          refine gk_istore (lv2 := [(5, .int v2), (0, .ref 37), (2, .int a2), (3, .int a3), (4, .int a4), (6, .int a6)]) (pc := 37) K d_Ways_from_37 (by decide) rfl ?_
          refine gk_iinc2 (lv2 := [(6, .int (a6 + 1)), (5, .int v2), (0, .ref 37), (2, .int a2), (3, .int a3), (4, .int a4)]) (pc := 39) K d_Ways_from_39 rfl kc_1 (by decide) rfl ?_
          refine gk_goto (tgt := 6) (pc := 42) K d_Ways_from_42 (by decide) ?_
          exact gk_sub [2, 3, 4, 5, 1, 0] rfl (ih _ _ _ _ _ _  h)
noncomputable def f_Ways_from_0 (q_Ways_run : Int32 → Int32 → Int32 → gk_M → Option (Int32 × gk_M)) (q_Ways_from : Int32 → Int32 → Int32 → Int32 → gk_M → Option (Int32 × gk_M)) (q_Ways_own : Int32 → Int32 → Int32 → gk_M → Option (Int32 × gk_M)) (a1 : Int32) (a2 : Int32) (a3 : Int32) (a4 : Int32) (m0 : gk_M) : Option (Int32 × gk_M) :=
  f_Ways_from_6 q_Ways_run q_Ways_from q_Ways_own gk_fv a2 a3 a4 a1 0 m0

theorem s_Ways_from_0 {z : gk_Z} {dd : Nat} (K : gk_F tx z me_Ways_from (1 + (dd + 1))) {r : Int32} {mem2 : gk_M} (q_Ways_run : Int32 → Int32 → Int32 → gk_M → Option (Int32 × gk_M)) (q_Ways_from : Int32 → Int32 → Int32 → Int32 → gk_M → Option (Int32 × gk_M)) (q_Ways_own : Int32 → Int32 → Int32 → gk_M → Option (Int32 × gk_M)) (hq_Ways_run : ∀ b0 b1 b2 mem r mem2, q_Ways_run b0 b1 b2 mem = some (r, mem2) → gk_C tx (gk_zl z) (gk_zu z) me_Ways_run (1 + dd) [.ref 37, .int b0, .int b1, .int b2] mem (some (.int r)) mem2) (hq_Ways_from : ∀ b0 b1 b2 b3 mem r mem2, q_Ways_from b0 b1 b2 b3 mem = some (r, mem2) → gk_C tx (gk_zl z) (gk_zu z) me_Ways_from (1 + dd) [.ref 37, .int b0, .int b1, .int b2, .int b3] mem (some (.int r)) mem2) (hq_Ways_own : ∀ b0 b1 b2 mem r mem2, q_Ways_own b0 b1 b2 mem = some (r, mem2) → gk_C tx (gk_zl z) (gk_zu z) me_Ways_own (1 + dd) [.ref 37, .int b0, .int b1, .int b2] mem (some (.int r)) mem2) : ∀ a1 a2 a3 a4 m0, f_Ways_from_0 q_Ways_run q_Ways_from q_Ways_own a1 a2 a3 a4 m0 = some (r, mem2) → gk_G tx z me_Ways_from (gk_R tx z (some (.int r)) mem2) m0 [(0, .ref 37), (1, .int a1), (2, .int a2), (3, .int a3), (4, .int a4)] [] 0 := by
  intro a1 a2 a3 a4 m0  h
  unfold f_Ways_from_0 at h
  refine gk_iload_n (pc := 0) K d_Ways_from_0 rfl ?_
  refine gk_istore (lv2 := [(5, .int a1), (0, .ref 37), (1, .int a1), (2, .int a2), (3, .int a3), (4, .int a4)]) (pc := 1) K d_Ways_from_1 (by decide) rfl ?_
  refine gk_iconst (pc := 3) K d_Ways_from_3 kc_0 ?_
  refine gk_istore (lv2 := [(6, .int 0), (5, .int a1), (0, .ref 37), (1, .int a1), (2, .int a2), (3, .int a3), (4, .int a4)]) (pc := 4) K d_Ways_from_4 (by decide) rfl ?_
  exact gk_sub [2, 4, 5, 6, 1, 0] rfl (s_Ways_from_6 K q_Ways_run q_Ways_from q_Ways_own hq_Ways_run hq_Ways_from hq_Ways_own _ _ _ _ _ _ _  h)
theorem d_Ways_own_0 : decode me_Ways_own.2.1 0 = .ok (.aload_n 0, 1) := by decide +kernel
theorem d_Ways_own_1 : decode me_Ways_own.2.1 1 = .ok (.aload_n 0, 1) := by decide +kernel
theorem d_Ways_own_2 : decode me_Ways_own.2.1 2 = .ok (.getfield 18, 3) := by decide +kernel
theorem d_Ways_own_5 : decode me_Ways_own.2.1 5 = .ok (.aload_n 0, 1) := by decide +kernel
theorem d_Ways_own_6 : decode me_Ways_own.2.1 6 = .ok (.getfield 25, 3) := by decide +kernel
theorem d_Ways_own_9 : decode me_Ways_own.2.1 9 = .ok (.iaload, 1) := by decide +kernel
theorem d_Ways_own_10 : decode me_Ways_own.2.1 10 = .ok (.iload_n 1, 1) := by decide +kernel
theorem d_Ways_own_11 : decode me_Ways_own.2.1 11 = .ok (.iload_n 2, 1) := by decide +kernel
theorem d_Ways_own_12 : decode me_Ways_own.2.1 12 = .ok (.iload_n 3, 1) := by decide +kernel
theorem d_Ways_own_13 : decode me_Ways_own.2.1 13 = .ok (.invokevirtual 45, 3) := by decide +kernel
theorem d_Ways_own_16 : decode me_Ways_own.2.1 16 = .ok (.ireturn, 1) := by decide +kernel
noncomputable def f_Ways_own_0 (q_Ways_run : Int32 → Int32 → Int32 → gk_M → Option (Int32 × gk_M)) (q_Ways_from : Int32 → Int32 → Int32 → Int32 → gk_M → Option (Int32 × gk_M)) (q_Ways_own : Int32 → Int32 → Int32 → gk_M → Option (Int32 × gk_M)) (a1 : Int32) (a2 : Int32) (a3 : Int32) (m0 : gk_M) : Option (Int32 × gk_M) :=
  gk_ai m0 38 50 (m0.1 37 4) fun v1 =>
  gk_bi (q_Ways_from v1 a1 a2 a3 m0) fun v3 m2 =>
  some (v3, m2)

theorem s_Ways_own_0 {z : gk_Z} {dd : Nat} (K : gk_F tx z me_Ways_own (1 + (dd + 1))) {r : Int32} {mem2 : gk_M} (q_Ways_run : Int32 → Int32 → Int32 → gk_M → Option (Int32 × gk_M)) (q_Ways_from : Int32 → Int32 → Int32 → Int32 → gk_M → Option (Int32 × gk_M)) (q_Ways_own : Int32 → Int32 → Int32 → gk_M → Option (Int32 × gk_M)) (hq_Ways_run : ∀ b0 b1 b2 mem r mem2, q_Ways_run b0 b1 b2 mem = some (r, mem2) → gk_C tx (gk_zl z) (gk_zu z) me_Ways_run (1 + dd) [.ref 37, .int b0, .int b1, .int b2] mem (some (.int r)) mem2) (hq_Ways_from : ∀ b0 b1 b2 b3 mem r mem2, q_Ways_from b0 b1 b2 b3 mem = some (r, mem2) → gk_C tx (gk_zl z) (gk_zu z) me_Ways_from (1 + dd) [.ref 37, .int b0, .int b1, .int b2, .int b3] mem (some (.int r)) mem2) (hq_Ways_own : ∀ b0 b1 b2 mem r mem2, q_Ways_own b0 b1 b2 mem = some (r, mem2) → gk_C tx (gk_zl z) (gk_zu z) me_Ways_own (1 + dd) [.ref 37, .int b0, .int b1, .int b2] mem (some (.int r)) mem2) : ∀ a1 a2 a3 m0, f_Ways_own_0 q_Ways_run q_Ways_from q_Ways_own a1 a2 a3 m0 = some (r, mem2) → gk_G tx z me_Ways_own (gk_R tx z (some (.int r)) mem2) m0 [(0, .ref 37), (1, .int a1), (2, .int a2), (3, .int a3)] [] 0 := by
  intro a1 a2 a3 m0  h
  unfold f_Ways_own_0 at h
  refine gk_aload_n (pc := 0) K d_Ways_own_0 rfl ?_
  refine gk_aload_n (pc := 1) K d_Ways_own_1 rfl ?_
  refine gk_get (pc := 2) K d_Ways_own_2 fl_Ways_18 tx_37 rfl rfl ?_
  refine gk_aload_n (pc := 5) K d_Ways_own_5 rfl ?_
  refine gk_get (pc := 6) K d_Ways_own_6 fl_Ways_25 tx_37 rfl rfl ?_
  refine gk_iald (pc := 9) K d_Ways_own_9 tx_38 h (fun v1 h => ?_)
  refine gk_iload_n (pc := 10) K d_Ways_own_10 rfl ?_
  refine gk_iload_n (pc := 11) K d_Ways_own_11 rfl ?_
  refine gk_iload_n (pc := 12) K d_Ways_own_12 rfl ?_
  obtain ⟨v3, m2, em2, h⟩ := gk_bi_some h
  refine gk_cVi (As := [.int v1, .int a1, .int a2, .int a3]) (pc := 13) K d_Ways_own_13 mv_Ways_45 mc_Ways_from rfl tx_37 cl_ok7.1 (hq_Ways_from _ _ _ _ _ _ _ em2) (by omega) rfl (Nat.le_of_ble_eq_true rfl) ?_
  exact gk_iret (pc := 16) K d_Ways_own_16 rfl h
noncomputable def r_Ways_run_s (p : Nat → Int32 → Int32 → Int32 → Int32 → gk_M → Option (Int32 × gk_M)) : Nat → Int32 → Int32 → Int32 → Int32 → gk_M → Option (Int32 × gk_M)
  | 0, x0, x1, x2, x3, m0 => f_Ways_run_0 (fun b0 b1 b2 m => p 0 b0 b1 b2 0 m) (fun b0 b1 b2 b3 m => p 1 b0 b1 b2 b3 m) (fun b0 b1 b2 m => p 2 b0 b1 b2 0 m) x0 x1 x2 m0
  | 1, x0, x1, x2, x3, m0 => f_Ways_from_0 (fun b0 b1 b2 m => p 0 b0 b1 b2 0 m) (fun b0 b1 b2 b3 m => p 1 b0 b1 b2 b3 m) (fun b0 b1 b2 m => p 2 b0 b1 b2 0 m) x0 x1 x2 x3 m0
  | 2, x0, x1, x2, x3, m0 => f_Ways_own_0 (fun b0 b1 b2 m => p 0 b0 b1 b2 0 m) (fun b0 b1 b2 b3 m => p 1 b0 b1 b2 b3 m) (fun b0 b1 b2 m => p 2 b0 b1 b2 0 m) x0 x1 x2 m0
  | _, _, _, _, _, _ => none
noncomputable def r_Ways_run : Nat → Nat → Int32 → Int32 → Int32 → Int32 → gk_M → Option (Int32 × gk_M)
  | 0 => fun _ _ _ _ _ _ => none
  | d + 1 => r_Ways_run_s (r_Ways_run d)
theorem r_Ways_run_e0 (d : Nat) (x0 : Int32) (x1 : Int32) (x2 : Int32) (m0 : gk_M) : r_Ways_run (d + 1) 0 x0 x1 x2 0 m0 = f_Ways_run_0 (fun b0 b1 b2 m => r_Ways_run d 0 b0 b1 b2 0 m) (fun b0 b1 b2 b3 m => r_Ways_run d 1 b0 b1 b2 b3 m) (fun b0 b1 b2 m => r_Ways_run d 2 b0 b1 b2 0 m) x0 x1 x2 m0 := rfl
theorem r_Ways_run_e1 (d : Nat) (x0 : Int32) (x1 : Int32) (x2 : Int32) (x3 : Int32) (m0 : gk_M) : r_Ways_run (d + 1) 1 x0 x1 x2 x3 m0 = f_Ways_from_0 (fun b0 b1 b2 m => r_Ways_run d 0 b0 b1 b2 0 m) (fun b0 b1 b2 b3 m => r_Ways_run d 1 b0 b1 b2 b3 m) (fun b0 b1 b2 m => r_Ways_run d 2 b0 b1 b2 0 m) x0 x1 x2 x3 m0 := rfl
theorem r_Ways_run_e2 (d : Nat) (x0 : Int32) (x1 : Int32) (x2 : Int32) (m0 : gk_M) : r_Ways_run (d + 1) 2 x0 x1 x2 0 m0 = f_Ways_own_0 (fun b0 b1 b2 m => r_Ways_run d 0 b0 b1 b2 0 m) (fun b0 b1 b2 b3 m => r_Ways_run d 1 b0 b1 b2 b3 m) (fun b0 b1 b2 m => r_Ways_run d 2 b0 b1 b2 0 m) x0 x1 x2 m0 := rfl
theorem sr_Ways_run {l : Launch} {u : gk_U} (hD : gk_D tx u) : ∀ d, (∀ b0 b1 b2 mem r mem2, r_Ways_run d 0 b0 b1 b2 0 mem = some (r, mem2) → gk_C tx l u me_Ways_run (1 + d) [.ref 37, .int b0, .int b1, .int b2] mem (some (.int r)) mem2) ∧ (∀ b0 b1 b2 b3 mem r mem2, r_Ways_run d 1 b0 b1 b2 b3 mem = some (r, mem2) → gk_C tx l u me_Ways_from (1 + d) [.ref 37, .int b0, .int b1, .int b2, .int b3] mem (some (.int r)) mem2) ∧ (∀ b0 b1 b2 mem r mem2, r_Ways_run d 2 b0 b1 b2 0 mem = some (r, mem2) → gk_C tx l u me_Ways_own (1 + d) [.ref 37, .int b0, .int b1, .int b2] mem (some (.int r)) mem2) := by
  intro d
  induction d with
  | zero => exact ⟨(fun _ _ _ _ _ _ h => nomatch (show (none : Option _) = some _ from h)), (fun _ _ _ _ _ _ _ h => nomatch (show (none : Option _) = some _ from h)), (fun _ _ _ _ _ _ h => nomatch (show (none : Option _) = some _ from h))⟩
  | succ d ih =>
    refine ⟨?_, ?_, ?_⟩
    · intro b0 b1 b2 mem r mem2 h
      refine gk_enter hD mc_Ways_run (Nat.le_of_ble_eq_true rfl) rfl (fun z hl hu K => ?_)
      subst hl
      subst hu
      rw [r_Ways_run_e0] at h
      exact s_Ways_run_0 K (fun b0 b1 b2 m => r_Ways_run d 0 b0 b1 b2 0 m) (fun b0 b1 b2 b3 m => r_Ways_run d 1 b0 b1 b2 b3 m) (fun b0 b1 b2 m => r_Ways_run d 2 b0 b1 b2 0 m) (fun y0 y1 y2 a b c h => ih.1 y0 y1 y2 a b c h) (fun y0 y1 y2 y3 a b c h => ih.2.1 y0 y1 y2 y3 a b c h) (fun y0 y1 y2 a b c h => ih.2.2 y0 y1 y2 a b c h) _ _ _ _ h
    · intro b0 b1 b2 b3 mem r mem2 h
      refine gk_enter hD mc_Ways_from (Nat.le_of_ble_eq_true rfl) rfl (fun z hl hu K => ?_)
      subst hl
      subst hu
      rw [r_Ways_run_e1] at h
      exact s_Ways_from_0 K (fun b0 b1 b2 m => r_Ways_run d 0 b0 b1 b2 0 m) (fun b0 b1 b2 b3 m => r_Ways_run d 1 b0 b1 b2 b3 m) (fun b0 b1 b2 m => r_Ways_run d 2 b0 b1 b2 0 m) (fun y0 y1 y2 a b c h => ih.1 y0 y1 y2 a b c h) (fun y0 y1 y2 y3 a b c h => ih.2.1 y0 y1 y2 y3 a b c h) (fun y0 y1 y2 a b c h => ih.2.2 y0 y1 y2 a b c h) _ _ _ _ _ h
    · intro b0 b1 b2 mem r mem2 h
      refine gk_enter hD mc_Ways_own (Nat.le_of_ble_eq_true rfl) rfl (fun z hl hu K => ?_)
      subst hl
      subst hu
      rw [r_Ways_run_e2] at h
      exact s_Ways_own_0 K (fun b0 b1 b2 m => r_Ways_run d 0 b0 b1 b2 0 m) (fun b0 b1 b2 b3 m => r_Ways_run d 1 b0 b1 b2 b3 m) (fun b0 b1 b2 m => r_Ways_run d 2 b0 b1 b2 0 m) (fun y0 y1 y2 a b c h => ih.1 y0 y1 y2 a b c h) (fun y0 y1 y2 y3 a b c h => ih.2.1 y0 y1 y2 y3 a b c h) (fun y0 y1 y2 a b c h => ih.2.2 y0 y1 y2 a b c h) _ _ _ _ h
noncomputable def f_Ways_run (a1 : Int32) (a2 : Int32) (a3 : Int32) (m0 : gk_M) : Option (Int32 × gk_M) := r_Ways_run 60 0 a1 a2 a3 0 m0
theorem s_Ways_run {l : Launch} {u : gk_U} (hD : gk_D tx u) {a1 : Int32} {a2 : Int32} {a3 : Int32} {m0 mem2 : gk_M} {r : Int32} (h : f_Ways_run a1 a2 a3 m0 = some (r, mem2)) : gk_C tx l u me_Ways_run 61 [.ref 37, .int a1, .int a2, .int a3] m0 (some (.int r)) mem2 := (sr_Ways_run hD 60).1 _ _ _ _ _ _ h
noncomputable def f_Ways_from (a1 : Int32) (a2 : Int32) (a3 : Int32) (a4 : Int32) (m0 : gk_M) : Option (Int32 × gk_M) := r_Ways_run 60 1 a1 a2 a3 a4 m0
theorem s_Ways_from {l : Launch} {u : gk_U} (hD : gk_D tx u) {a1 : Int32} {a2 : Int32} {a3 : Int32} {a4 : Int32} {m0 mem2 : gk_M} {r : Int32} (h : f_Ways_from a1 a2 a3 a4 m0 = some (r, mem2)) : gk_C tx l u me_Ways_from 61 [.ref 37, .int a1, .int a2, .int a3, .int a4] m0 (some (.int r)) mem2 := (sr_Ways_run hD 60).2.1 _ _ _ _ _ _ _ h
noncomputable def f_Ways_own (a1 : Int32) (a2 : Int32) (a3 : Int32) (m0 : gk_M) : Option (Int32 × gk_M) := r_Ways_run 60 2 a1 a2 a3 0 m0
theorem s_Ways_own {l : Launch} {u : gk_U} (hD : gk_D tx u) {a1 : Int32} {a2 : Int32} {a3 : Int32} {m0 mem2 : gk_M} {r : Int32} (h : f_Ways_own a1 a2 a3 m0 = some (r, mem2)) : gk_C tx l u me_Ways_own 61 [.ref 37, .int a1, .int a2, .int a3] m0 (some (.int r)) mem2 := (sr_Ways_run hD 60).2.2 _ _ _ _ _ _ h
