theorem d_M_seenFrom_0 : decode me_M_seenFrom.2.1 0 = .ok (.iconst 0, 1) := by decide +kernel
theorem d_M_seenFrom_1 : decode me_M_seenFrom.2.1 1 = .ok (.istore_n 2, 1) := by decide +kernel
theorem d_M_seenFrom_2 : decode me_M_seenFrom.2.1 2 = .ok (.iconst 0, 1) := by decide +kernel
theorem d_M_seenFrom_3 : decode me_M_seenFrom.2.1 3 = .ok (.istore_n 3, 1) := by decide +kernel
theorem d_M_seenFrom_4 : decode me_M_seenFrom.2.1 4 = .ok (.iload_n 3, 1) := by decide +kernel
theorem d_M_seenFrom_5 : decode me_M_seenFrom.2.1 5 = .ok (.aload_n 0, 1) := by decide +kernel
theorem d_M_seenFrom_6 : decode me_M_seenFrom.2.1 6 = .ok (.getfield 106, 3) := by decide +kernel
theorem d_M_seenFrom_9 : decode me_M_seenFrom.2.1 9 = .ok (.if_icmp .ge 73, 3) := by decide +kernel
theorem d_M_seenFrom_12 : decode me_M_seenFrom.2.1 12 = .ok (.aload_n 0, 1) := by decide +kernel
theorem d_M_seenFrom_13 : decode me_M_seenFrom.2.1 13 = .ok (.getfield 22, 3) := by decide +kernel
theorem d_M_seenFrom_16 : decode me_M_seenFrom.2.1 16 = .ok (.iload_n 3, 1) := by decide +kernel
theorem d_M_seenFrom_17 : decode me_M_seenFrom.2.1 17 = .ok (.iaload, 1) := by decide +kernel
theorem d_M_seenFrom_18 : decode me_M_seenFrom.2.1 18 = .ok (.iload_n 1, 1) := by decide +kernel
theorem d_M_seenFrom_19 : decode me_M_seenFrom.2.1 19 = .ok (.if_icmp .eq 39, 3) := by decide +kernel
theorem d_M_seenFrom_22 : decode me_M_seenFrom.2.1 22 = .ok (.aload_n 0, 1) := by decide +kernel
theorem d_M_seenFrom_23 : decode me_M_seenFrom.2.1 23 = .ok (.iload_n 1, 1) := by decide +kernel
theorem d_M_seenFrom_24 : decode me_M_seenFrom.2.1 24 = .ok (.bipush 30, 2) := by decide +kernel
theorem d_M_seenFrom_26 : decode me_M_seenFrom.2.1 26 = .ok (.irem, 1) := by decide +kernel
theorem d_M_seenFrom_27 : decode me_M_seenFrom.2.1 27 = .ok (.i2l, 1) := by decide +kernel
theorem d_M_seenFrom_28 : decode me_M_seenFrom.2.1 28 = .ok (.iload_n 1, 1) := by decide +kernel
theorem d_M_seenFrom_29 : decode me_M_seenFrom.2.1 29 = .ok (.bipush 30, 2) := by decide +kernel
theorem d_M_seenFrom_31 : decode me_M_seenFrom.2.1 31 = .ok (.idiv, 1) := by decide +kernel
theorem d_M_seenFrom_32 : decode me_M_seenFrom.2.1 32 = .ok (.i2l, 1) := by decide +kernel
theorem d_M_seenFrom_33 : decode me_M_seenFrom.2.1 33 = .ok (.lconst 1, 1) := by decide +kernel
theorem d_M_seenFrom_34 : decode me_M_seenFrom.2.1 34 = .ok (.iload_n 3, 1) := by decide +kernel
theorem d_M_seenFrom_35 : decode me_M_seenFrom.2.1 35 = .ok (.invokevirtual 239, 3) := by decide +kernel
theorem d_M_seenFrom_38 : decode me_M_seenFrom.2.1 38 = .ok (.ifCond .ne 20, 3) := by decide +kernel
theorem d_M_seenFrom_41 : decode me_M_seenFrom.2.1 41 = .ok (.aload_n 0, 1) := by decide +kernel
theorem d_M_seenFrom_42 : decode me_M_seenFrom.2.1 42 = .ok (.iload_n 1, 1) := by decide +kernel
theorem d_M_seenFrom_43 : decode me_M_seenFrom.2.1 43 = .ok (.iload_n 3, 1) := by decide +kernel
theorem d_M_seenFrom_44 : decode me_M_seenFrom.2.1 44 = .ok (.aload_n 0, 1) := by decide +kernel
theorem d_M_seenFrom_45 : decode me_M_seenFrom.2.1 45 = .ok (.getfield 106, 3) := by decide +kernel
theorem d_M_seenFrom_48 : decode me_M_seenFrom.2.1 48 = .ok (.invokevirtual 306, 3) := by decide +kernel
theorem d_M_seenFrom_51 : decode me_M_seenFrom.2.1 51 = .ok (.ifCond .ne 7, 3) := by decide +kernel
theorem d_M_seenFrom_54 : decode me_M_seenFrom.2.1 54 = .ok (.iconst 1, 1) := by decide +kernel
theorem d_M_seenFrom_55 : decode me_M_seenFrom.2.1 55 = .ok (.goto 4, 3) := by decide +kernel
theorem d_M_seenFrom_58 : decode me_M_seenFrom.2.1 58 = .ok (.iconst 0, 1) := by decide +kernel
theorem d_M_seenFrom_59 : decode me_M_seenFrom.2.1 59 = .ok (.istore 4, 2) := by decide +kernel
theorem d_M_seenFrom_61 : decode me_M_seenFrom.2.1 61 = .ok (.iload_n 2, 1) := by decide +kernel
theorem d_M_seenFrom_62 : decode me_M_seenFrom.2.1 62 = .ok (.iload 4, 2) := by decide +kernel
theorem d_M_seenFrom_64 : decode me_M_seenFrom.2.1 64 = .ok (.ifCond .eq 9, 3) := by decide +kernel
theorem d_M_seenFrom_67 : decode me_M_seenFrom.2.1 67 = .ok (.iconst 1, 1) := by decide +kernel
theorem d_M_seenFrom_68 : decode me_M_seenFrom.2.1 68 = .ok (.iload_n 3, 1) := by decide +kernel
theorem d_M_seenFrom_69 : decode me_M_seenFrom.2.1 69 = .ok (.ishl, 1) := by decide +kernel
theorem d_M_seenFrom_70 : decode me_M_seenFrom.2.1 70 = .ok (.goto 4, 3) := by decide +kernel
theorem d_M_seenFrom_73 : decode me_M_seenFrom.2.1 73 = .ok (.iconst 0, 1) := by decide +kernel
theorem d_M_seenFrom_74 : decode me_M_seenFrom.2.1 74 = .ok (.ior, 1) := by decide +kernel
theorem d_M_seenFrom_75 : decode me_M_seenFrom.2.1 75 = .ok (.istore_n 2, 1) := by decide +kernel
theorem d_M_seenFrom_76 : decode me_M_seenFrom.2.1 76 = .ok (.iinc 3 1, 3) := by decide +kernel
theorem d_M_seenFrom_79 : decode me_M_seenFrom.2.1 79 = .ok (.goto (-75), 3) := by decide +kernel
theorem d_M_seenFrom_82 : decode me_M_seenFrom.2.1 82 = .ok (.iload_n 2, 1) := by decide +kernel
theorem d_M_seenFrom_83 : decode me_M_seenFrom.2.1 83 = .ok (.ireturn, 1) := by decide +kernel
noncomputable def f_M_seenFrom_74 (k4 : Int32 → Int32 → Int32 → gk_M → Option (Int32 × gk_M)) (a1 : Int32) (a3 : Int32) (s0 : Int32) (s1 : Int32) (m0 : gk_M) : Option (Int32 × gk_M) :=
  gk_let (s0 ||| s1) fun v1 =>
  k4 a1 v1 (a3 + 1) m0

theorem s_M_seenFrom_74 {z : gk_Z} (K : gk_F tm z me_M_seenFrom 5) {r : Int32} {mem2 : gk_M} {k4 : Int32 → Int32 → Int32 → gk_M → Option (Int32 × gk_M)} (hk4 : ∀ a1 a2 a3 m0, k4 a1 a2 a3 m0 = some (r, mem2) → gk_G tm z me_M_seenFrom (gk_R tm z (some (.int r)) mem2) m0 [(0, .ref 0), (1, .int a1), (2, .int a2), (3, .int a3)] [] 4) : ∀ a1 a3 s0 s1 m0, f_M_seenFrom_74 k4 a1 a3 s0 s1 m0 = some (r, mem2) → gk_G tm z me_M_seenFrom (gk_R tm z (some (.int r)) mem2) m0 [(0, .ref 0), (1, .int a1), (3, .int a3)] [.int s1, .int s0] 74 := by
  intro a1 a3 s0 s1 m0  h
  unfold f_M_seenFrom_74 at h
  refine gk_ior (pc := 74) K d_M_seenFrom_74 ?_
  refine gk_topi h (fun v1 h => ?_)
  refine gk_istore_n (lv2 := [(2, .int v1), (0, .ref 0), (1, .int a1), (3, .int a3)]) (pc := 75) K d_M_seenFrom_75 (by decide) rfl ?_
  refine gk_iinc2 (lv2 := [(3, .int (a3 + 1)), (2, .int v1), (0, .ref 0), (1, .int a1)]) (pc := 76) K d_M_seenFrom_76 rfl kc_1 (by decide) rfl ?_
  refine gk_goto (tgt := 4) (pc := 79) K d_M_seenFrom_79 (by decide) ?_
  exact gk_sub [2, 3, 1, 0] rfl (hk4 _ _ _ _  h)
noncomputable def f_M_seenFrom_59 (k4 : Int32 → Int32 → Int32 → gk_M → Option (Int32 × gk_M)) (a1 : Int32) (a2 : Int32) (a3 : Int32) (s0 : Int32) (m0 : gk_M) : Option (Int32 × gk_M) :=
  if s0 = 0 then
    f_M_seenFrom_74 k4 a1 a3 a2 0 m0
  else
    f_M_seenFrom_74 k4 a1 a3 a2 (1 <<< (a3 &&& 31)) m0

theorem s_M_seenFrom_59 {z : gk_Z} (K : gk_F tm z me_M_seenFrom 5) {r : Int32} {mem2 : gk_M} {k4 : Int32 → Int32 → Int32 → gk_M → Option (Int32 × gk_M)} (hk4 : ∀ a1 a2 a3 m0, k4 a1 a2 a3 m0 = some (r, mem2) → gk_G tm z me_M_seenFrom (gk_R tm z (some (.int r)) mem2) m0 [(0, .ref 0), (1, .int a1), (2, .int a2), (3, .int a3)] [] 4) : ∀ a1 a2 a3 s0 m0, f_M_seenFrom_59 k4 a1 a2 a3 s0 m0 = some (r, mem2) → gk_G tm z me_M_seenFrom (gk_R tm z (some (.int r)) mem2) m0 [(0, .ref 0), (1, .int a1), (2, .int a2), (3, .int a3)] [.int s0] 59 := by
  intro a1 a2 a3 s0 m0  h
  unfold f_M_seenFrom_59 at h
  refine gk_istore (lv2 := [(4, .int s0), (0, .ref 0), (1, .int a1), (2, .int a2), (3, .int a3)]) (pc := 59) K d_M_seenFrom_59 (by decide) rfl ?_
  refine gk_iload_n (pc := 61) K d_M_seenFrom_61 rfl ?_
  refine gk_iload (pc := 62) K d_M_seenFrom_62 rfl ?_
  refine gk_if_eq (tgt := 73) (pc := 64) K d_M_seenFrom_64 (by decide) h (fun h => ?_) (fun h => ?_)
  · refine gk_iconst (pc := 73) K d_M_seenFrom_73 kc_0 ?_
    exact gk_sub [1, 2, 4] rfl (s_M_seenFrom_74 K hk4 _ _ _ _ _  h)
  · refine gk_iconst (pc := 67) K d_M_seenFrom_67 kc_1 ?_
    refine gk_iload_n (pc := 68) K d_M_seenFrom_68 rfl ?_
    refine gk_ishl (pc := 69) K d_M_seenFrom_69 ?_
    refine gk_goto (tgt := 74) (pc := 70) K d_M_seenFrom_70 (by decide) ?_
    exact gk_sub [1, 2, 4] rfl (s_M_seenFrom_74 K hk4 _ _ _ _ _  h)
noncomputable def f_M_seenFrom_58 (k4 : Int32 → Int32 → Int32 → gk_M → Option (Int32 × gk_M)) (a1 : Int32) (a2 : Int32) (a3 : Int32) (m0 : gk_M) : Option (Int32 × gk_M) :=
  f_M_seenFrom_59 k4 a1 a2 a3 0 m0

theorem s_M_seenFrom_58 {z : gk_Z} (K : gk_F tm z me_M_seenFrom 5) {r : Int32} {mem2 : gk_M} {k4 : Int32 → Int32 → Int32 → gk_M → Option (Int32 × gk_M)} (hk4 : ∀ a1 a2 a3 m0, k4 a1 a2 a3 m0 = some (r, mem2) → gk_G tm z me_M_seenFrom (gk_R tm z (some (.int r)) mem2) m0 [(0, .ref 0), (1, .int a1), (2, .int a2), (3, .int a3)] [] 4) : ∀ a1 a2 a3 m0, f_M_seenFrom_58 k4 a1 a2 a3 m0 = some (r, mem2) → gk_G tm z me_M_seenFrom (gk_R tm z (some (.int r)) mem2) m0 [(0, .ref 0), (1, .int a1), (2, .int a2), (3, .int a3)] [] 58 := by
  intro a1 a2 a3 m0  h
  unfold f_M_seenFrom_58 at h
  refine gk_iconst (pc := 58) K d_M_seenFrom_58 kc_0 ?_
  exact gk_sub [0, 1, 2, 3] rfl (s_M_seenFrom_59 K hk4 _ _ _ _ _  h)
noncomputable def f_M_seenFrom_4  : Nat → Int32 → Int32 → Int32 → gk_M → Option (Int32 × gk_M)
  | 0, _, _, _, _ => none
  | n + 1, a1, a2, a3, m0 =>
    if (m0.1 0 6) ≤ a3 then
      some (a2, m0)
    else
      gk_ai m0 5 20 a3 fun v1 =>
      if v1 = a1 then
        f_M_seenFrom_58 (f_M_seenFrom_4 n) a1 a2 a3 m0
      else
        gk_bi (f_M_isStopped (gk_rem a1 30).toInt64 (a1 / 30).toInt64 1 a3 m0) fun v3 m2 =>
        if ¬ v3 = 0 then
          f_M_seenFrom_58 (f_M_seenFrom_4 n) a1 a2 a3 m2
        else
          gk_bi (f_M_isHidden a1 a3 (m2.1 0 6) m2) fun v5 m4 =>
          if ¬ v5 = 0 then
            f_M_seenFrom_58 (f_M_seenFrom_4 n) a1 a2 a3 m4
          else
            f_M_seenFrom_59 (f_M_seenFrom_4 n) a1 a2 a3 1 m4

theorem s_M_seenFrom_4 {z : gk_Z} (K : gk_F tm z me_M_seenFrom 5) {r : Int32} {mem2 : gk_M} : ∀ n a1 a2 a3 m0, f_M_seenFrom_4 n a1 a2 a3 m0 = some (r, mem2) → gk_G tm z me_M_seenFrom (gk_R tm z (some (.int r)) mem2) m0 [(0, .ref 0), (1, .int a1), (2, .int a2), (3, .int a3)] [] 4 := by
  intro n
  induction n with
  | zero => intro a1 a2 a3 m0  h; exact nomatch (show (none : Option _) = some _ from h)
  | succ n ih =>
    intro a1 a2 a3 m0  h
    unfold f_M_seenFrom_4 at h
    refine gk_iload_n (pc := 4) K d_M_seenFrom_4 rfl ?_
    refine gk_aload_n (pc := 5) K d_M_seenFrom_5 rfl ?_
    refine gk_get (pc := 6) K d_M_seenFrom_6 fl_M_106 tm_0 rfl rfl ?_
    refine gk_ic_ge (tgt := 82) (pc := 9) K d_M_seenFrom_9 (by decide) h (fun h => ?_) (fun h => ?_)
    · refine gk_iload_n (pc := 82) K d_M_seenFrom_82 rfl ?_
      exact gk_iret (pc := 83) K d_M_seenFrom_83 rfl h
    · refine gk_aload_n (pc := 12) K d_M_seenFrom_12 rfl ?_
      refine gk_get (pc := 13) K d_M_seenFrom_13 fl_M_22 tm_0 rfl rfl ?_
      refine gk_iload_n (pc := 16) K d_M_seenFrom_16 rfl ?_
      refine gk_iald (pc := 17) K d_M_seenFrom_17 tm_5 h (fun v1 h => ?_)
      refine gk_iload_n (pc := 18) K d_M_seenFrom_18 rfl ?_
      refine gk_ic_eq (tgt := 58) (pc := 19) K d_M_seenFrom_19 (by decide) h (fun h => ?_) (fun h => ?_)
      · exact gk_sub [0, 1, 2, 3] rfl (s_M_seenFrom_58 K (fun x0 x1 x2 m  h => ih x0 x1 x2 m  h) _ _ _ _  h)
      · refine gk_aload_n (pc := 22) K d_M_seenFrom_22 rfl ?_
        refine gk_iload_n (pc := 23) K d_M_seenFrom_23 rfl ?_
        refine gk_bipush (pc := 24) K d_M_seenFrom_24 kb_30 ?_
        refine gk_iremc2 (pc := 26) K d_M_seenFrom_26 (by decide) ?_
        refine gk_i2l (pc := 27) K d_M_seenFrom_27 ?_
        refine gk_iload_n (pc := 28) K d_M_seenFrom_28 rfl ?_
        refine gk_bipush (pc := 29) K d_M_seenFrom_29 kb_30 ?_
        refine gk_idivc2 (pc := 31) K d_M_seenFrom_31 (by decide) ?_
        refine gk_i2l (pc := 32) K d_M_seenFrom_32 ?_
        refine gk_lconst (pc := 33) K d_M_seenFrom_33 kl_1 ?_
        refine gk_iload_n (pc := 34) K d_M_seenFrom_34 rfl ?_
        obtain ⟨v3, m2, em2, h⟩ := gk_bi_some h
        refine gk_cVi (As := [.long (gk_rem a1 30).toInt64, .long (a1 / 30).toInt64, .long 1, .int a3]) (pc := 35) K d_M_seenFrom_35 mv_M_239 mc_M_isStopped rfl tm_0 cl_ok10.1 (s_M_isStopped (gk_FD K)  em2) (by decide) rfl (Nat.le_of_ble_eq_true rfl) ?_
        refine gk_if_ne (tgt := 58) (pc := 38) K d_M_seenFrom_38 (by decide) h (fun h => ?_) (fun h => ?_)
        · exact gk_sub [0, 1, 2, 3] rfl (s_M_seenFrom_58 K (fun x0 x1 x2 m  h => ih x0 x1 x2 m  h) _ _ _ _  h)
        · refine gk_aload_n (pc := 41) K d_M_seenFrom_41 rfl ?_
          refine gk_iload_n (pc := 42) K d_M_seenFrom_42 rfl ?_
          refine gk_iload_n (pc := 43) K d_M_seenFrom_43 rfl ?_
          refine gk_aload_n (pc := 44) K d_M_seenFrom_44 rfl ?_
          refine gk_get (pc := 45) K d_M_seenFrom_45 fl_M_106 tm_0 rfl rfl ?_
          obtain ⟨v5, m4, em4, h⟩ := gk_bi_some h
          refine gk_cVi (As := [.int a1, .int a3, .int (m2.1 0 6)]) (pc := 48) K d_M_seenFrom_48 mv_M_306 mc_M_isHidden rfl tm_0 cl_ok10.1 (s_M_isHidden (gk_FD K)  em4) (by decide) rfl (Nat.le_of_ble_eq_true rfl) ?_
          refine gk_if_ne (tgt := 58) (pc := 51) K d_M_seenFrom_51 (by decide) h (fun h => ?_) (fun h => ?_)
          · exact gk_sub [0, 1, 2, 3] rfl (s_M_seenFrom_58 K (fun x0 x1 x2 m  h => ih x0 x1 x2 m  h) _ _ _ _  h)
          · refine gk_iconst (pc := 54) K d_M_seenFrom_54 kc_1 ?_
            refine gk_goto (tgt := 59) (pc := 55) K d_M_seenFrom_55 (by decide) ?_
            exact gk_sub [0, 1, 2, 3] rfl (s_M_seenFrom_59 K (fun x0 x1 x2 m  h => ih x0 x1 x2 m  h) _ _ _ _ _  h)
noncomputable def f_M_seenFrom  (a1 : Int32) (m0 : gk_M) : Option (Int32 × gk_M) :=
  f_M_seenFrom_4 gk_fv a1 0 0 m0

theorem s_M_seenFrom_0 {z : gk_Z} (K : gk_F tm z me_M_seenFrom 5) {r : Int32} {mem2 : gk_M} : ∀ a1 m0, f_M_seenFrom a1 m0 = some (r, mem2) → gk_G tm z me_M_seenFrom (gk_R tm z (some (.int r)) mem2) m0 [(0, .ref 0), (1, .int a1)] [] 0 := by
  intro a1 m0  h
  unfold f_M_seenFrom at h
  refine gk_iconst (pc := 0) K d_M_seenFrom_0 kc_0 ?_
  refine gk_istore_n (lv2 := [(2, .int 0), (0, .ref 0), (1, .int a1)]) (pc := 1) K d_M_seenFrom_1 (by decide) rfl ?_
  refine gk_iconst (pc := 2) K d_M_seenFrom_2 kc_0 ?_
  refine gk_istore_n (lv2 := [(3, .int 0), (2, .int 0), (0, .ref 0), (1, .int a1)]) (pc := 3) K d_M_seenFrom_3 (by decide) rfl ?_
  exact gk_sub [2, 3, 1, 0] rfl (s_M_seenFrom_4 K _ _ _ _ _  h)
theorem s_M_seenFrom {l : Launch} {u : gk_U} (hD : gk_D tm u) {a1 : Int32} {m0 mem2 : gk_M} {r : Int32} (h : f_M_seenFrom a1 m0 = some (r, mem2)) : gk_C tm l u me_M_seenFrom 5 [.ref 0, .int a1] m0 (some (.int r)) mem2 :=
  gk_enter hD mc_M_seenFrom (Nat.le_of_ble_eq_true rfl) rfl (fun z _ _ K => s_M_seenFrom_0 K _ _  h)
theorem d_M_seen_0 : decode me_M_seen.2.1 0 = .ok (.iload_n 1, 1) := by decide +kernel
theorem d_M_seen_1 : decode me_M_seen.2.1 1 = .ok (.invokestatic 133, 3) := by decide +kernel
theorem d_M_seen_4 : decode me_M_seen.2.1 4 = .ok (.ifCond .eq 11, 3) := by decide +kernel
theorem d_M_seen_7 : decode me_M_seen.2.1 7 = .ok (.aload_n 0, 1) := by decide +kernel
theorem d_M_seen_8 : decode me_M_seen.2.1 8 = .ok (.iload_n 1, 1) := by decide +kernel
theorem d_M_seen_9 : decode me_M_seen.2.1 9 = .ok (.invokevirtual 309, 3) := by decide +kernel
theorem d_M_seen_12 : decode me_M_seen.2.1 12 = .ok (.goto 4, 3) := by decide +kernel
theorem d_M_seen_15 : decode me_M_seen.2.1 15 = .ok (.iconst (-1), 1) := by decide +kernel
theorem d_M_seen_16 : decode me_M_seen.2.1 16 = .ok (.ireturn, 1) := by decide +kernel
noncomputable def f_M_seen  (a1 : Int32) (m0 : gk_M) : Option (Int32 × gk_M) :=
  gk_bi (f_M_isPoint a1 m0) fun v2 m1 =>
  if v2 = 0 then
    some ((-1), m1)
  else
    gk_bi (f_M_seenFrom a1 m1) fun v4 m3 =>
    some (v4, m3)

theorem s_M_seen_0 {z : gk_Z} (K : gk_F tm z me_M_seen 6) {r : Int32} {mem2 : gk_M} : ∀ a1 m0, f_M_seen a1 m0 = some (r, mem2) → gk_G tm z me_M_seen (gk_R tm z (some (.int r)) mem2) m0 [(0, .ref 0), (1, .int a1)] [] 0 := by
  intro a1 m0  h
  unfold f_M_seen at h
  refine gk_iload_n (pc := 0) K d_M_seen_0 rfl ?_
  obtain ⟨v2, m1, em1, h⟩ := gk_bi_some h
  refine gk_cSi (As := [.int a1]) (pc := 1) K d_M_seen_1 ms_M_133 mc_M_isPoint rfl (s_M_isPoint (gk_FD K)  em1) (by decide) rfl (Nat.le_of_ble_eq_true rfl) ?_
  refine gk_if_eq (tgt := 15) (pc := 4) K d_M_seen_4 (by decide) h (fun h => ?_) (fun h => ?_)
  · refine gk_iconst (pc := 15) K d_M_seen_15 kc_m1 ?_
    exact gk_iret (pc := 16) K d_M_seen_16 rfl h
  · refine gk_aload_n (pc := 7) K d_M_seen_7 rfl ?_
    refine gk_iload_n (pc := 8) K d_M_seen_8 rfl ?_
    obtain ⟨v4, m3, em3, h⟩ := gk_bi_some h
    refine gk_cVi (As := [.int a1]) (pc := 9) K d_M_seen_9 mv_M_309 mc_M_seenFrom rfl tm_0 cl_ok10.1 (s_M_seenFrom (gk_FD K)  em3) (by decide) rfl (Nat.le_of_ble_eq_true rfl) ?_
    refine gk_goto (tgt := 16) (pc := 12) K d_M_seen_12 (by decide) ?_
    exact gk_iret (pc := 16) K d_M_seen_16 rfl h
theorem s_M_seen {l : Launch} {u : gk_U} (hD : gk_D tm u) {a1 : Int32} {m0 mem2 : gk_M} {r : Int32} (h : f_M_seen a1 m0 = some (r, mem2)) : gk_C tm l u me_M_seen 6 [.ref 0, .int a1] m0 (some (.int r)) mem2 :=
  gk_enter hD mc_M_seen (Nat.le_of_ble_eq_true rfl) rfl (fun z _ _ K => s_M_seen_0 K _ _  h)
theorem d_M_isCorner_0 : decode me_M_isCorner.2.1 0 = .ok (.iconst 0, 1) := by decide +kernel
theorem d_M_isCorner_1 : decode me_M_isCorner.2.1 1 = .ok (.istore_n 2, 1) := by decide +kernel
theorem d_M_isCorner_2 : decode me_M_isCorner.2.1 2 = .ok (.iload_n 2, 1) := by decide +kernel
theorem d_M_isCorner_3 : decode me_M_isCorner.2.1 3 = .ok (.aload_n 0, 1) := by decide +kernel
theorem d_M_isCorner_4 : decode me_M_isCorner.2.1 4 = .ok (.getfield 109, 3) := by decide +kernel
theorem d_M_isCorner_7 : decode me_M_isCorner.2.1 7 = .ok (.if_icmp .ge 39, 3) := by decide +kernel
theorem d_M_isCorner_10 : decode me_M_isCorner.2.1 10 = .ok (.iconst 0, 1) := by decide +kernel
theorem d_M_isCorner_11 : decode me_M_isCorner.2.1 11 = .ok (.istore_n 3, 1) := by decide +kernel
theorem d_M_isCorner_12 : decode me_M_isCorner.2.1 12 = .ok (.iload_n 3, 1) := by decide +kernel
theorem d_M_isCorner_13 : decode me_M_isCorner.2.1 13 = .ok (.aload_n 0, 1) := by decide +kernel
theorem d_M_isCorner_14 : decode me_M_isCorner.2.1 14 = .ok (.getfield 31, 3) := by decide +kernel
theorem d_M_isCorner_17 : decode me_M_isCorner.2.1 17 = .ok (.iload_n 2, 1) := by decide +kernel
theorem d_M_isCorner_18 : decode me_M_isCorner.2.1 18 = .ok (.iaload, 1) := by decide +kernel
theorem d_M_isCorner_19 : decode me_M_isCorner.2.1 19 = .ok (.if_icmp .ge 21, 3) := by decide +kernel
theorem d_M_isCorner_22 : decode me_M_isCorner.2.1 22 = .ok (.aload_n 0, 1) := by decide +kernel
theorem d_M_isCorner_23 : decode me_M_isCorner.2.1 23 = .ok (.iload_n 2, 1) := by decide +kernel
theorem d_M_isCorner_24 : decode me_M_isCorner.2.1 24 = .ok (.iload_n 3, 1) := by decide +kernel
theorem d_M_isCorner_25 : decode me_M_isCorner.2.1 25 = .ok (.invokevirtual 275, 3) := by decide +kernel
theorem d_M_isCorner_28 : decode me_M_isCorner.2.1 28 = .ok (.iload_n 1, 1) := by decide +kernel
theorem d_M_isCorner_29 : decode me_M_isCorner.2.1 29 = .ok (.if_icmp .ne 5, 3) := by decide +kernel
theorem d_M_isCorner_32 : decode me_M_isCorner.2.1 32 = .ok (.iconst 1, 1) := by decide +kernel
theorem d_M_isCorner_33 : decode me_M_isCorner.2.1 33 = .ok (.ireturn, 1) := by decide +kernel
theorem d_M_isCorner_34 : decode me_M_isCorner.2.1 34 = .ok (.iinc 3 1, 3) := by decide +kernel
theorem d_M_isCorner_37 : decode me_M_isCorner.2.1 37 = .ok (.goto (-25), 3) := by decide +kernel
theorem d_M_isCorner_40 : decode me_M_isCorner.2.1 40 = .ok (.iinc 2 1, 3) := by decide +kernel
theorem d_M_isCorner_43 : decode me_M_isCorner.2.1 43 = .ok (.goto (-41), 3) := by decide +kernel
theorem d_M_isCorner_46 : decode me_M_isCorner.2.1 46 = .ok (.iconst 0, 1) := by decide +kernel
theorem d_M_isCorner_47 : decode me_M_isCorner.2.1 47 = .ok (.ireturn, 1) := by decide +kernel
noncomputable def f_M_isCorner_12 (k2 : Int32 → Int32 → gk_M → Option (Int32 × gk_M)) : Nat → Int32 → Int32 → Int32 → gk_M → Option (Int32 × gk_M)
  | 0, _, _, _, _ => none
  | n + 1, a1, a2, a3, m0 =>
    gk_ai m0 8 4 a2 fun v1 =>
    if v1 ≤ a3 then
      k2 a1 (a2 + 1) m0
    else
      gk_bi (f_M_cornerOf a2 a3 m0) fun v3 m2 =>
      if ¬ v3 = a1 then
        f_M_isCorner_12 k2 n a1 a2 (a3 + 1) m2
      else
        some (1, m2)

theorem s_M_isCorner_12 {z : gk_Z} (K : gk_F tm z me_M_isCorner 2) {r : Int32} {mem2 : gk_M} {k2 : Int32 → Int32 → gk_M → Option (Int32 × gk_M)} (hk2 : ∀ a1 a2 m0, k2 a1 a2 m0 = some (r, mem2) → gk_G tm z me_M_isCorner (gk_R tm z (some (.int r)) mem2) m0 [(0, .ref 0), (1, .int a1), (2, .int a2)] [] 2) : ∀ n a1 a2 a3 m0, f_M_isCorner_12 k2 n a1 a2 a3 m0 = some (r, mem2) → gk_G tm z me_M_isCorner (gk_R tm z (some (.int r)) mem2) m0 [(0, .ref 0), (1, .int a1), (2, .int a2), (3, .int a3)] [] 12 := by
  intro n
  induction n with
  | zero => intro a1 a2 a3 m0  h; exact nomatch (show (none : Option _) = some _ from h)
  | succ n ih =>
    intro a1 a2 a3 m0  h
    unfold f_M_isCorner_12 at h
    refine gk_iload_n (pc := 12) K d_M_isCorner_12 rfl ?_
    refine gk_aload_n (pc := 13) K d_M_isCorner_13 rfl ?_
    refine gk_get (pc := 14) K d_M_isCorner_14 fl_M_31 tm_0 rfl rfl ?_
    refine gk_iload_n (pc := 17) K d_M_isCorner_17 rfl ?_
    refine gk_iald (pc := 18) K d_M_isCorner_18 tm_8 h (fun v1 h => ?_)
    refine gk_ic_ge (tgt := 40) (pc := 19) K d_M_isCorner_19 (by decide) h (fun h => ?_) (fun h => ?_)
    · refine gk_iinc2 (lv2 := [(2, .int (a2 + 1)), (0, .ref 0), (1, .int a1), (3, .int a3)]) (pc := 40) K d_M_isCorner_40 rfl kc_1 (by decide) rfl ?_
      refine gk_goto (tgt := 2) (pc := 43) K d_M_isCorner_43 (by decide) ?_
      exact gk_sub [1, 2, 0] rfl (hk2 _ _ _  h)
    · refine gk_aload_n (pc := 22) K d_M_isCorner_22 rfl ?_
      refine gk_iload_n (pc := 23) K d_M_isCorner_23 rfl ?_
      refine gk_iload_n (pc := 24) K d_M_isCorner_24 rfl ?_
      obtain ⟨v3, m2, em2, h⟩ := gk_bi_some h
      refine gk_cVi (As := [.int a2, .int a3]) (pc := 25) K d_M_isCorner_25 mv_M_275 mc_M_cornerOf rfl tm_0 cl_ok10.1 (s_M_cornerOf (gk_FD K)  em2) (by decide) rfl (Nat.le_of_ble_eq_true rfl) ?_
      refine gk_iload_n (pc := 28) K d_M_isCorner_28 rfl ?_
      refine gk_ic_ne (tgt := 34) (pc := 29) K d_M_isCorner_29 (by decide) h (fun h => ?_) (fun h => ?_)
      · refine gk_iinc2 (lv2 := [(3, .int (a3 + 1)), (0, .ref 0), (1, .int a1), (2, .int a2)]) (pc := 34) K d_M_isCorner_34 rfl kc_1 (by decide) rfl ?_
        refine gk_goto (tgt := 12) (pc := 37) K d_M_isCorner_37 (by decide) ?_
        exact gk_sub [1, 2, 3, 0] rfl (ih _ _ _ _  h)
      · refine gk_iconst (pc := 32) K d_M_isCorner_32 kc_1 ?_
        exact gk_zretc (pc := 33) K d_M_isCorner_33 rfl (Or.inr rfl) h
noncomputable def f_M_isCorner_2  : Nat → Int32 → Int32 → gk_M → Option (Int32 × gk_M)
  | 0, _, _, _ => none
  | n + 1, a1, a2, m0 =>
    if (m0.1 0 10) ≤ a2 then
      some (0, m0)
    else
      f_M_isCorner_12 (f_M_isCorner_2 n) gk_fv a1 a2 0 m0

theorem s_M_isCorner_2 {z : gk_Z} (K : gk_F tm z me_M_isCorner 2) {r : Int32} {mem2 : gk_M} : ∀ n a1 a2 m0, f_M_isCorner_2 n a1 a2 m0 = some (r, mem2) → gk_G tm z me_M_isCorner (gk_R tm z (some (.int r)) mem2) m0 [(0, .ref 0), (1, .int a1), (2, .int a2)] [] 2 := by
  intro n
  induction n with
  | zero => intro a1 a2 m0  h; exact nomatch (show (none : Option _) = some _ from h)
  | succ n ih =>
    intro a1 a2 m0  h
    unfold f_M_isCorner_2 at h
    refine gk_iload_n (pc := 2) K d_M_isCorner_2 rfl ?_
    refine gk_aload_n (pc := 3) K d_M_isCorner_3 rfl ?_
    refine gk_get (pc := 4) K d_M_isCorner_4 fl_M_109 tm_0 rfl rfl ?_
    refine gk_ic_ge (tgt := 46) (pc := 7) K d_M_isCorner_7 (by decide) h (fun h => ?_) (fun h => ?_)
    · refine gk_iconst (pc := 46) K d_M_isCorner_46 kc_0 ?_
      exact gk_zretc (pc := 47) K d_M_isCorner_47 rfl (Or.inl rfl) h
    · refine gk_iconst (pc := 10) K d_M_isCorner_10 kc_0 ?_
      refine gk_istore_n (lv2 := [(3, .int 0), (0, .ref 0), (1, .int a1), (2, .int a2)]) (pc := 11) K d_M_isCorner_11 (by decide) rfl ?_
      exact gk_sub [1, 2, 3, 0] rfl (s_M_isCorner_12 K (fun x0 x1 m  h => ih x0 x1 m  h) _ _ _ _ _  h)
noncomputable def f_M_isCorner  (a1 : Int32) (m0 : gk_M) : Option (Int32 × gk_M) :=
  f_M_isCorner_2 gk_fv a1 0 m0

theorem s_M_isCorner_0 {z : gk_Z} (K : gk_F tm z me_M_isCorner 2) {r : Int32} {mem2 : gk_M} : ∀ a1 m0, f_M_isCorner a1 m0 = some (r, mem2) → gk_G tm z me_M_isCorner (gk_R tm z (some (.int r)) mem2) m0 [(0, .ref 0), (1, .int a1)] [] 0 := by
  intro a1 m0  h
  unfold f_M_isCorner at h
  refine gk_iconst (pc := 0) K d_M_isCorner_0 kc_0 ?_
  refine gk_istore_n (lv2 := [(2, .int 0), (0, .ref 0), (1, .int a1)]) (pc := 1) K d_M_isCorner_1 (by decide) rfl ?_
  exact gk_sub [1, 2, 0] rfl (s_M_isCorner_2 K _ _ _ _  h)
theorem s_M_isCorner {l : Launch} {u : gk_U} (hD : gk_D tm u) {a1 : Int32} {m0 mem2 : gk_M} {r : Int32} (h : f_M_isCorner a1 m0 = some (r, mem2)) : gk_C tm l u me_M_isCorner 2 [.ref 0, .int a1] m0 (some (.int r)) mem2 :=
  gk_enter hD mc_M_isCorner (Nat.le_of_ble_eq_true rfl) rfl (fun z _ _ K => s_M_isCorner_0 K _ _  h)
theorem d_M_isFree_0 : decode me_M_isFree.2.1 0 = .ok (.aload_n 0, 1) := by decide +kernel
theorem d_M_isFree_1 : decode me_M_isFree.2.1 1 = .ok (.iload_n 1, 1) := by decide +kernel
theorem d_M_isFree_2 : decode me_M_isFree.2.1 2 = .ok (.iload_n 2, 1) := by decide +kernel
theorem d_M_isFree_3 : decode me_M_isFree.2.1 3 = .ok (.invokevirtual 116, 3) := by decide +kernel
theorem d_M_isFree_6 : decode me_M_isFree.2.1 6 = .ok (.ifCond .eq 11, 3) := by decide +kernel
theorem d_M_isFree_9 : decode me_M_isFree.2.1 9 = .ok (.aload_n 0, 1) := by decide +kernel
theorem d_M_isFree_10 : decode me_M_isFree.2.1 10 = .ok (.iload_n 1, 1) := by decide +kernel
theorem d_M_isFree_11 : decode me_M_isFree.2.1 11 = .ok (.invokevirtual 312, 3) := by decide +kernel
theorem d_M_isFree_14 : decode me_M_isFree.2.1 14 = .ok (.ifCond .eq 5, 3) := by decide +kernel
theorem d_M_isFree_17 : decode me_M_isFree.2.1 17 = .ok (.iconst 0, 1) := by decide +kernel
theorem d_M_isFree_18 : decode me_M_isFree.2.1 18 = .ok (.ireturn, 1) := by decide +kernel
theorem d_M_isFree_19 : decode me_M_isFree.2.1 19 = .ok (.aload_n 0, 1) := by decide +kernel
theorem d_M_isFree_20 : decode me_M_isFree.2.1 20 = .ok (.getfield 22, 3) := by decide +kernel
theorem d_M_isFree_23 : decode me_M_isFree.2.1 23 = .ok (.iload_n 2, 1) := by decide +kernel
theorem d_M_isFree_24 : decode me_M_isFree.2.1 24 = .ok (.iload_n 1, 1) := by decide +kernel
theorem d_M_isFree_25 : decode me_M_isFree.2.1 25 = .ok (.iastore, 1) := by decide +kernel
theorem d_M_isFree_26 : decode me_M_isFree.2.1 26 = .ok (.aload_n 0, 1) := by decide +kernel
theorem d_M_isFree_27 : decode me_M_isFree.2.1 27 = .ok (.getfield 25, 3) := by decide +kernel
theorem d_M_isFree_30 : decode me_M_isFree.2.1 30 = .ok (.iload_n 2, 1) := by decide +kernel
theorem d_M_isFree_31 : decode me_M_isFree.2.1 31 = .ok (.iload 4, 2) := by decide +kernel
theorem d_M_isFree_33 : decode me_M_isFree.2.1 33 = .ok (.iastore, 1) := by decide +kernel
theorem d_M_isFree_34 : decode me_M_isFree.2.1 34 = .ok (.aload_n 0, 1) := by decide +kernel
theorem d_M_isFree_35 : decode me_M_isFree.2.1 35 = .ok (.getfield 28, 3) := by decide +kernel
theorem d_M_isFree_38 : decode me_M_isFree.2.1 38 = .ok (.iload_n 2, 1) := by decide +kernel
theorem d_M_isFree_39 : decode me_M_isFree.2.1 39 = .ok (.iload_n 3, 1) := by decide +kernel
theorem d_M_isFree_40 : decode me_M_isFree.2.1 40 = .ok (.iastore, 1) := by decide +kernel
theorem d_M_isFree_41 : decode me_M_isFree.2.1 41 = .ok (.iconst 0, 1) := by decide +kernel
theorem d_M_isFree_42 : decode me_M_isFree.2.1 42 = .ok (.istore 5, 2) := by decide +kernel
theorem d_M_isFree_44 : decode me_M_isFree.2.1 44 = .ok (.iload 5, 2) := by decide +kernel
theorem d_M_isFree_46 : decode me_M_isFree.2.1 46 = .ok (.aload_n 0, 1) := by decide +kernel
theorem d_M_isFree_47 : decode me_M_isFree.2.1 47 = .ok (.getfield 109, 3) := by decide +kernel
theorem d_M_isFree_50 : decode me_M_isFree.2.1 50 = .ok (.if_icmp .ge 63, 3) := by decide +kernel
theorem d_M_isFree_53 : decode me_M_isFree.2.1 53 = .ok (.iconst 0, 1) := by decide +kernel
theorem d_M_isFree_54 : decode me_M_isFree.2.1 54 = .ok (.istore 6, 2) := by decide +kernel
theorem d_M_isFree_56 : decode me_M_isFree.2.1 56 = .ok (.iload 6, 2) := by decide +kernel
theorem d_M_isFree_58 : decode me_M_isFree.2.1 58 = .ok (.iconst 1, 1) := by decide +kernel
theorem d_M_isFree_59 : decode me_M_isFree.2.1 59 = .ok (.iadd, 1) := by decide +kernel
theorem d_M_isFree_60 : decode me_M_isFree.2.1 60 = .ok (.aload_n 0, 1) := by decide +kernel
theorem d_M_isFree_61 : decode me_M_isFree.2.1 61 = .ok (.getfield 31, 3) := by decide +kernel
theorem d_M_isFree_64 : decode me_M_isFree.2.1 64 = .ok (.iload 5, 2) := by decide +kernel
theorem d_M_isFree_66 : decode me_M_isFree.2.1 66 = .ok (.iaload, 1) := by decide +kernel
theorem d_M_isFree_67 : decode me_M_isFree.2.1 67 = .ok (.if_icmp .ge 40, 3) := by decide +kernel
theorem d_M_isFree_70 : decode me_M_isFree.2.1 70 = .ok (.iconst 0, 1) := by decide +kernel
theorem d_M_isFree_71 : decode me_M_isFree.2.1 71 = .ok (.istore 7, 2) := by decide +kernel
theorem d_M_isFree_73 : decode me_M_isFree.2.1 73 = .ok (.iload 7, 2) := by decide +kernel
theorem d_M_isFree_75 : decode me_M_isFree.2.1 75 = .ok (.iload_n 2, 1) := by decide +kernel
theorem d_M_isFree_76 : decode me_M_isFree.2.1 76 = .ok (.if_icmp .ge 25, 3) := by decide +kernel
theorem d_M_isFree_79 : decode me_M_isFree.2.1 79 = .ok (.aload_n 0, 1) := by decide +kernel
theorem d_M_isFree_80 : decode me_M_isFree.2.1 80 = .ok (.iload 5, 2) := by decide +kernel
theorem d_M_isFree_82 : decode me_M_isFree.2.1 82 = .ok (.iload 6, 2) := by decide +kernel
theorem d_M_isFree_84 : decode me_M_isFree.2.1 84 = .ok (.iload 7, 2) := by decide +kernel
theorem d_M_isFree_86 : decode me_M_isFree.2.1 86 = .ok (.iload_n 2, 1) := by decide +kernel
theorem d_M_isFree_87 : decode me_M_isFree.2.1 87 = .ok (.invokevirtual 284, 3) := by decide +kernel
theorem d_M_isFree_90 : decode me_M_isFree.2.1 90 = .ok (.ifCond .eq 5, 3) := by decide +kernel
theorem d_M_isFree_93 : decode me_M_isFree.2.1 93 = .ok (.iconst 0, 1) := by decide +kernel
theorem d_M_isFree_94 : decode me_M_isFree.2.1 94 = .ok (.ireturn, 1) := by decide +kernel
theorem d_M_isFree_95 : decode me_M_isFree.2.1 95 = .ok (.iinc 7 1, 3) := by decide +kernel
theorem d_M_isFree_98 : decode me_M_isFree.2.1 98 = .ok (.goto (-25), 3) := by decide +kernel
theorem d_M_isFree_101 : decode me_M_isFree.2.1 101 = .ok (.iinc 6 1, 3) := by decide +kernel
theorem d_M_isFree_104 : decode me_M_isFree.2.1 104 = .ok (.goto (-48), 3) := by decide +kernel
theorem d_M_isFree_107 : decode me_M_isFree.2.1 107 = .ok (.iinc 5 1, 3) := by decide +kernel
theorem d_M_isFree_110 : decode me_M_isFree.2.1 110 = .ok (.goto (-66), 3) := by decide +kernel
theorem d_M_isFree_113 : decode me_M_isFree.2.1 113 = .ok (.iconst 1, 1) := by decide +kernel
theorem d_M_isFree_114 : decode me_M_isFree.2.1 114 = .ok (.ireturn, 1) := by decide +kernel
noncomputable def f_M_isFree_73 (k44 : Int32 → Int32 → gk_M → Option (Int32 × gk_M)) (k56 : Int32 → Int32 → Int32 → gk_M → Option (Int32 × gk_M)) : Nat → Int32 → Int32 → Int32 → Int32 → gk_M → Option (Int32 × gk_M)
  | 0, _, _, _, _, _ => none
  | n + 1, a2, a5, a6, a7, m0 =>
    if a2 ≤ a7 then
      k56 a2 a5 (a6 + 1) m0
    else
      gk_bi (f_M_isGuiltyOn a5 a6 a7 a2 m0) fun v2 m1 =>
      if v2 = 0 then
        f_M_isFree_73 k44 k56 n a2 a5 a6 (a7 + 1) m1
      else
        some (0, m1)

theorem s_M_isFree_73 {z : gk_Z} (K : gk_F tm z me_M_isFree 71) {r : Int32} {mem2 : gk_M} {k44 : Int32 → Int32 → gk_M → Option (Int32 × gk_M)} (hk44 : ∀ a2 a5 m0, k44 a2 a5 m0 = some (r, mem2) → gk_G tm z me_M_isFree (gk_R tm z (some (.int r)) mem2) m0 [(0, .ref 0), (2, .int a2), (5, .int a5)] [] 44) {k56 : Int32 → Int32 → Int32 → gk_M → Option (Int32 × gk_M)} (hk56 : ∀ a2 a5 a6 m0, k56 a2 a5 a6 m0 = some (r, mem2) → gk_G tm z me_M_isFree (gk_R tm z (some (.int r)) mem2) m0 [(0, .ref 0), (2, .int a2), (5, .int a5), (6, .int a6)] [] 56) : ∀ n a2 a5 a6 a7 m0, f_M_isFree_73 k44 k56 n a2 a5 a6 a7 m0 = some (r, mem2) → gk_G tm z me_M_isFree (gk_R tm z (some (.int r)) mem2) m0 [(0, .ref 0), (2, .int a2), (5, .int a5), (6, .int a6), (7, .int a7)] [] 73 := by
  intro n
  induction n with
  | zero => intro a2 a5 a6 a7 m0  h; exact nomatch (show (none : Option _) = some _ from h)
  | succ n ih =>
    intro a2 a5 a6 a7 m0  h
    unfold f_M_isFree_73 at h
    refine gk_iload (pc := 73) K d_M_isFree_73 rfl ?_
    refine gk_iload_n (pc := 75) K d_M_isFree_75 rfl ?_
    refine gk_ic_ge (tgt := 101) (pc := 76) K d_M_isFree_76 (by decide) h (fun h => ?_) (fun h => ?_)
    · refine gk_iinc2 (lv2 := [(6, .int (a6 + 1)), (0, .ref 0), (2, .int a2), (5, .int a5), (7, .int a7)]) (pc := 101) K d_M_isFree_101 rfl kc_1 (by decide) rfl ?_
      refine gk_goto (tgt := 56) (pc := 104) K d_M_isFree_104 (by decide) ?_
      exact gk_sub [1, 2, 3, 0] rfl (hk56 _ _ _ _  h)
    · refine gk_aload_n (pc := 79) K d_M_isFree_79 rfl ?_
      refine gk_iload (pc := 80) K d_M_isFree_80 rfl ?_
      refine gk_iload (pc := 82) K d_M_isFree_82 rfl ?_
      refine gk_iload (pc := 84) K d_M_isFree_84 rfl ?_
      refine gk_iload_n (pc := 86) K d_M_isFree_86 rfl ?_
      obtain ⟨v2, m1, em1, h⟩ := gk_bi_some h
      refine gk_cVi (As := [.int a5, .int a6, .int a7, .int a2]) (pc := 87) K d_M_isFree_87 mv_M_284 mc_M_isGuiltyOn rfl tm_0 cl_ok10.1 (s_M_isGuiltyOn (gk_FD K)  em1) (by decide) rfl (Nat.le_of_ble_eq_true rfl) ?_
      refine gk_if_eq (tgt := 95) (pc := 90) K d_M_isFree_90 (by decide) h (fun h => ?_) (fun h => ?_)
      · refine gk_iinc2 (lv2 := [(7, .int (a7 + 1)), (0, .ref 0), (2, .int a2), (5, .int a5), (6, .int a6)]) (pc := 95) K d_M_isFree_95 rfl kc_1 (by decide) rfl ?_
        refine gk_goto (tgt := 73) (pc := 98) K d_M_isFree_98 (by decide) ?_
        exact gk_sub [1, 2, 3, 4, 0] rfl (ih _ _ _ _ _  h)
      · refine gk_iconst (pc := 93) K d_M_isFree_93 kc_0 ?_
        exact gk_zretc (pc := 94) K d_M_isFree_94 rfl (Or.inl rfl) h
noncomputable def f_M_isFree_56 (k44 : Int32 → Int32 → gk_M → Option (Int32 × gk_M)) : Nat → Int32 → Int32 → Int32 → gk_M → Option (Int32 × gk_M)
  | 0, _, _, _, _ => none
  | n + 1, a2, a5, a6, m0 =>
    gk_ai m0 8 4 a5 fun v1 =>
    if v1 ≤ (a6 + 1) then
      k44 a2 (a5 + 1) m0
    else
      f_M_isFree_73 k44 (f_M_isFree_56 k44 n) gk_fv a2 a5 a6 0 m0

theorem s_M_isFree_56 {z : gk_Z} (K : gk_F tm z me_M_isFree 71) {r : Int32} {mem2 : gk_M} {k44 : Int32 → Int32 → gk_M → Option (Int32 × gk_M)} (hk44 : ∀ a2 a5 m0, k44 a2 a5 m0 = some (r, mem2) → gk_G tm z me_M_isFree (gk_R tm z (some (.int r)) mem2) m0 [(0, .ref 0), (2, .int a2), (5, .int a5)] [] 44) : ∀ n a2 a5 a6 m0, f_M_isFree_56 k44 n a2 a5 a6 m0 = some (r, mem2) → gk_G tm z me_M_isFree (gk_R tm z (some (.int r)) mem2) m0 [(0, .ref 0), (2, .int a2), (5, .int a5), (6, .int a6)] [] 56 := by
  intro n
  induction n with
  | zero => intro a2 a5 a6 m0  h; exact nomatch (show (none : Option _) = some _ from h)
  | succ n ih =>
    intro a2 a5 a6 m0  h
    unfold f_M_isFree_56 at h
    refine gk_iload (pc := 56) K d_M_isFree_56 rfl ?_
    refine gk_iconst (pc := 58) K d_M_isFree_58 kc_1 ?_
    refine gk_iadd (pc := 59) K d_M_isFree_59 ?_
    refine gk_aload_n (pc := 60) K d_M_isFree_60 rfl ?_
    refine gk_get (pc := 61) K d_M_isFree_61 fl_M_31 tm_0 rfl rfl ?_
    refine gk_iload (pc := 64) K d_M_isFree_64 rfl ?_
    refine gk_iald (pc := 66) K d_M_isFree_66 tm_8 h (fun v1 h => ?_)
    refine gk_ic_ge (tgt := 107) (pc := 67) K d_M_isFree_67 (by decide) h (fun h => ?_) (fun h => ?_)
    · refine gk_iinc2 (lv2 := [(5, .int (a5 + 1)), (0, .ref 0), (2, .int a2), (6, .int a6)]) (pc := 107) K d_M_isFree_107 rfl kc_1 (by decide) rfl ?_
      refine gk_goto (tgt := 44) (pc := 110) K d_M_isFree_110 (by decide) ?_
      exact gk_sub [1, 2, 0] rfl (hk44 _ _ _  h)
    · refine gk_iconst (pc := 70) K d_M_isFree_70 kc_0 ?_
      refine gk_istore (lv2 := [(7, .int 0), (0, .ref 0), (2, .int a2), (5, .int a5), (6, .int a6)]) (pc := 71) K d_M_isFree_71 (by decide) rfl ?_
      exact gk_sub [1, 2, 3, 4, 0] rfl (s_M_isFree_73 K hk44 (fun x0 x1 x2 m  h => ih x0 x1 x2 m  h) _ _ _ _ _ _  h)
noncomputable def f_M_isFree_44  : Nat → Int32 → Int32 → gk_M → Option (Int32 × gk_M)
  | 0, _, _, _ => none
  | n + 1, a2, a5, m0 =>
    if (m0.1 0 10) ≤ a5 then
      some (1, m0)
    else
      f_M_isFree_56 (f_M_isFree_44 n) gk_fv a2 a5 0 m0

theorem s_M_isFree_44 {z : gk_Z} (K : gk_F tm z me_M_isFree 71) {r : Int32} {mem2 : gk_M} : ∀ n a2 a5 m0, f_M_isFree_44 n a2 a5 m0 = some (r, mem2) → gk_G tm z me_M_isFree (gk_R tm z (some (.int r)) mem2) m0 [(0, .ref 0), (2, .int a2), (5, .int a5)] [] 44 := by
  intro n
  induction n with
  | zero => intro a2 a5 m0  h; exact nomatch (show (none : Option _) = some _ from h)
  | succ n ih =>
    intro a2 a5 m0  h
    unfold f_M_isFree_44 at h
    refine gk_iload (pc := 44) K d_M_isFree_44 rfl ?_
    refine gk_aload_n (pc := 46) K d_M_isFree_46 rfl ?_
    refine gk_get (pc := 47) K d_M_isFree_47 fl_M_109 tm_0 rfl rfl ?_
    refine gk_ic_ge (tgt := 113) (pc := 50) K d_M_isFree_50 (by decide) h (fun h => ?_) (fun h => ?_)
    · refine gk_iconst (pc := 113) K d_M_isFree_113 kc_1 ?_
      exact gk_zretc (pc := 114) K d_M_isFree_114 rfl (Or.inr rfl) h
    · refine gk_iconst (pc := 53) K d_M_isFree_53 kc_0 ?_
      refine gk_istore (lv2 := [(6, .int 0), (0, .ref 0), (2, .int a2), (5, .int a5)]) (pc := 54) K d_M_isFree_54 (by decide) rfl ?_
      exact gk_sub [1, 2, 3, 0] rfl (s_M_isFree_56 K (fun x0 x1 m  h => ih x0 x1 m  h) _ _ _ _ _  h)
noncomputable def f_M_isFree  (a1 : Int32) (a2 : Int32) (a3 : Int32) (a4 : Int32) (m0 : gk_M) : Option (Int32 × gk_M) :=
  gk_bi (f_M_isFreeOf a1 a2 m0) fun v2 m1 =>
  if v2 = 0 then
    some (0, m1)
  else
    gk_bi (f_M_isCorner a1 m1) fun v4 m3 =>
    if v4 = 0 then
      gk_si m3 5 20 a2 a1 fun m5 =>
      gk_si m5 6 20 a2 a4 fun m6 =>
      gk_si m6 7 20 a2 a3 fun m7 =>
      f_M_isFree_44 gk_fv a2 0 m7
    else
      some (0, m3)

theorem s_M_isFree_0 {z : gk_Z} (K : gk_F tm z me_M_isFree 71) {r : Int32} {mem2 : gk_M} : ∀ a1 a2 a3 a4 m0, f_M_isFree a1 a2 a3 a4 m0 = some (r, mem2) → gk_G tm z me_M_isFree (gk_R tm z (some (.int r)) mem2) m0 [(0, .ref 0), (1, .int a1), (2, .int a2), (3, .int a3), (4, .int a4)] [] 0 := by
  intro a1 a2 a3 a4 m0  h
  unfold f_M_isFree at h
  refine gk_aload_n (pc := 0) K d_M_isFree_0 rfl ?_
  refine gk_iload_n (pc := 1) K d_M_isFree_1 rfl ?_
  refine gk_iload_n (pc := 2) K d_M_isFree_2 rfl ?_
  obtain ⟨v2, m1, em1, h⟩ := gk_bi_some h
  refine gk_cVi (As := [.int a1, .int a2]) (pc := 3) K d_M_isFree_3 mv_M_116 mc_M_isFreeOf rfl tm_0 cl_ok10.1 (s_M_isFreeOf (gk_FD K)  em1) (by decide) rfl (Nat.le_of_ble_eq_true rfl) ?_
  refine gk_if_eq (tgt := 17) (pc := 6) K d_M_isFree_6 (by decide) h (fun h => ?_) (fun h => ?_)
  · refine gk_iconst (pc := 17) K d_M_isFree_17 kc_0 ?_
    exact gk_zretc (pc := 18) K d_M_isFree_18 rfl (Or.inl rfl) h
  · refine gk_aload_n (pc := 9) K d_M_isFree_9 rfl ?_
    refine gk_iload_n (pc := 10) K d_M_isFree_10 rfl ?_
    obtain ⟨v4, m3, em3, h⟩ := gk_bi_some h
    refine gk_cVi (As := [.int a1]) (pc := 11) K d_M_isFree_11 mv_M_312 mc_M_isCorner rfl tm_0 cl_ok10.1 (s_M_isCorner (gk_FD K)  em3) (by decide) rfl (Nat.le_of_ble_eq_true rfl) ?_
    refine gk_if_eq (tgt := 19) (pc := 14) K d_M_isFree_14 (by decide) h (fun h => ?_) (fun h => ?_)
    · refine gk_aload_n (pc := 19) K d_M_isFree_19 rfl ?_
      refine gk_get (pc := 20) K d_M_isFree_20 fl_M_22 tm_0 rfl rfl ?_
      refine gk_iload_n (pc := 23) K d_M_isFree_23 rfl ?_
      refine gk_iload_n (pc := 24) K d_M_isFree_24 rfl ?_
      refine gk_iast (pc := 25) K d_M_isFree_25 tm_5 h (fun m5 h => ?_)
      refine gk_aload_n (pc := 26) K d_M_isFree_26 rfl ?_
      refine gk_get (pc := 27) K d_M_isFree_27 fl_M_25 tm_0 rfl rfl ?_
      refine gk_iload_n (pc := 30) K d_M_isFree_30 rfl ?_
      refine gk_iload (pc := 31) K d_M_isFree_31 rfl ?_
      refine gk_iast (pc := 33) K d_M_isFree_33 tm_6 h (fun m6 h => ?_)
      refine gk_aload_n (pc := 34) K d_M_isFree_34 rfl ?_
      refine gk_get (pc := 35) K d_M_isFree_35 fl_M_28 tm_0 rfl rfl ?_
      refine gk_iload_n (pc := 38) K d_M_isFree_38 rfl ?_
      refine gk_iload_n (pc := 39) K d_M_isFree_39 rfl ?_
      refine gk_iast (pc := 40) K d_M_isFree_40 tm_7 h (fun m7 h => ?_)
      refine gk_iconst (pc := 41) K d_M_isFree_41 kc_0 ?_
      refine gk_istore (lv2 := [(5, .int 0), (0, .ref 0), (1, .int a1), (2, .int a2), (3, .int a3), (4, .int a4)]) (pc := 42) K d_M_isFree_42 (by decide) rfl ?_
      exact gk_sub [1, 3, 0] rfl (s_M_isFree_44 K _ _ _ _  h)
    · refine gk_iconst (pc := 17) K d_M_isFree_17 kc_0 ?_
      exact gk_zretc (pc := 18) K d_M_isFree_18 rfl (Or.inl rfl) h
theorem s_M_isFree {l : Launch} {u : gk_U} (hD : gk_D tm u) {a1 : Int32} {a2 : Int32} {a3 : Int32} {a4 : Int32} {m0 mem2 : gk_M} {r : Int32} (h : f_M_isFree a1 a2 a3 a4 m0 = some (r, mem2)) : gk_C tm l u me_M_isFree 71 [.ref 0, .int a1, .int a2, .int a3, .int a4] m0 (some (.int r)) mem2 :=
  gk_enter hD mc_M_isFree (Nat.le_of_ble_eq_true rfl) rfl (fun z _ _ K => s_M_isFree_0 K _ _ _ _ _  h)
theorem d_M_free_0 : decode me_M_free.2.1 0 = .ok (.iload_n 1, 1) := by decide +kernel
theorem d_M_free_1 : decode me_M_free.2.1 1 = .ok (.i2l, 1) := by decide +kernel
theorem d_M_free_2 : decode me_M_free.2.1 2 = .ok (.lconst 0, 1) := by decide +kernel
theorem d_M_free_3 : decode me_M_free.2.1 3 = .ok (.ldc2_w 315, 3) := by decide +kernel
theorem d_M_free_6 : decode me_M_free.2.1 6 = .ok (.invokestatic 102, 3) := by decide +kernel
theorem d_M_free_9 : decode me_M_free.2.1 9 = .ok (.ifCond .eq 25, 3) := by decide +kernel
theorem d_M_free_12 : decode me_M_free.2.1 12 = .ok (.iload_n 2, 1) := by decide +kernel
theorem d_M_free_13 : decode me_M_free.2.1 13 = .ok (.i2l, 1) := by decide +kernel
theorem d_M_free_14 : decode me_M_free.2.1 14 = .ok (.lconst 0, 1) := by decide +kernel
theorem d_M_free_15 : decode me_M_free.2.1 15 = .ok (.ldc2_w 112, 3) := by decide +kernel
theorem d_M_free_18 : decode me_M_free.2.1 18 = .ok (.invokestatic 102, 3) := by decide +kernel
theorem d_M_free_21 : decode me_M_free.2.1 21 = .ok (.ifCond .eq 13, 3) := by decide +kernel
theorem d_M_free_24 : decode me_M_free.2.1 24 = .ok (.iload_n 3, 1) := by decide +kernel
theorem d_M_free_25 : decode me_M_free.2.1 25 = .ok (.i2l, 1) := by decide +kernel
theorem d_M_free_26 : decode me_M_free.2.1 26 = .ok (.lconst 0, 1) := by decide +kernel
theorem d_M_free_27 : decode me_M_free.2.1 27 = .ok (.lconst 1, 1) := by decide +kernel
theorem d_M_free_28 : decode me_M_free.2.1 28 = .ok (.invokestatic 102, 3) := by decide +kernel
theorem d_M_free_31 : decode me_M_free.2.1 31 = .ok (.ifCond .ne 5, 3) := by decide +kernel
theorem d_M_free_34 : decode me_M_free.2.1 34 = .ok (.iconst (-1), 1) := by decide +kernel
theorem d_M_free_35 : decode me_M_free.2.1 35 = .ok (.ireturn, 1) := by decide +kernel
theorem d_M_free_36 : decode me_M_free.2.1 36 = .ok (.aload_n 0, 1) := by decide +kernel
theorem d_M_free_37 : decode me_M_free.2.1 37 = .ok (.getfield 106, 3) := by decide +kernel
theorem d_M_free_40 : decode me_M_free.2.1 40 = .ok (.bipush 10, 2) := by decide +kernel
theorem d_M_free_42 : decode me_M_free.2.1 42 = .ok (.if_icmp .ne 6, 3) := by decide +kernel
theorem d_M_free_45 : decode me_M_free.2.1 45 = .ok (.bipush (-5), 2) := by decide +kernel
theorem d_M_free_47 : decode me_M_free.2.1 47 = .ok (.ireturn, 1) := by decide +kernel
theorem d_M_free_48 : decode me_M_free.2.1 48 = .ok (.iconst 0, 1) := by decide +kernel
theorem d_M_free_49 : decode me_M_free.2.1 49 = .ok (.istore 4, 2) := by decide +kernel
theorem d_M_free_51 : decode me_M_free.2.1 51 = .ok (.bipush (-2), 2) := by decide +kernel
theorem d_M_free_53 : decode me_M_free.2.1 53 = .ok (.istore 5, 2) := by decide +kernel
theorem d_M_free_55 : decode me_M_free.2.1 55 = .ok (.bipush 29, 2) := by decide +kernel
theorem d_M_free_57 : decode me_M_free.2.1 57 = .ok (.istore 6, 2) := by decide +kernel
theorem d_M_free_59 : decode me_M_free.2.1 59 = .ok (.iload 6, 2) := by decide +kernel
theorem d_M_free_61 : decode me_M_free.2.1 61 = .ok (.ifCond .lt 39, 3) := by decide +kernel
theorem d_M_free_64 : decode me_M_free.2.1 64 = .ok (.aload_n 0, 1) := by decide +kernel
theorem d_M_free_65 : decode me_M_free.2.1 65 = .ok (.bipush 30, 2) := by decide +kernel
theorem d_M_free_67 : decode me_M_free.2.1 67 = .ok (.iload_n 1, 1) := by decide +kernel
theorem d_M_free_68 : decode me_M_free.2.1 68 = .ok (.imul, 1) := by decide +kernel
theorem d_M_free_69 : decode me_M_free.2.1 69 = .ok (.iload 6, 2) := by decide +kernel
theorem d_M_free_71 : decode me_M_free.2.1 71 = .ok (.iadd, 1) := by decide +kernel
theorem d_M_free_72 : decode me_M_free.2.1 72 = .ok (.aload_n 0, 1) := by decide +kernel
theorem d_M_free_73 : decode me_M_free.2.1 73 = .ok (.getfield 106, 3) := by decide +kernel
theorem d_M_free_76 : decode me_M_free.2.1 76 = .ok (.iload_n 2, 1) := by decide +kernel
theorem d_M_free_77 : decode me_M_free.2.1 77 = .ok (.aload_n 0, 1) := by decide +kernel
theorem d_M_free_78 : decode me_M_free.2.1 78 = .ok (.getfield 106, 3) := by decide +kernel
theorem d_M_free_81 : decode me_M_free.2.1 81 = .ok (.invokevirtual 317, 3) := by decide +kernel
theorem d_M_free_84 : decode me_M_free.2.1 84 = .ok (.ifCond .eq 10, 3) := by decide +kernel
theorem d_M_free_87 : decode me_M_free.2.1 87 = .ok (.iinc 4 1, 3) := by decide +kernel
theorem d_M_free_90 : decode me_M_free.2.1 90 = .ok (.iload 6, 2) := by decide +kernel
theorem d_M_free_92 : decode me_M_free.2.1 92 = .ok (.istore 5, 2) := by decide +kernel
theorem d_M_free_94 : decode me_M_free.2.1 94 = .ok (.iinc 6 (-1), 3) := by decide +kernel
theorem d_M_free_97 : decode me_M_free.2.1 97 = .ok (.goto (-38), 3) := by decide +kernel
theorem d_M_free_100 : decode me_M_free.2.1 100 = .ok (.iload_n 3, 1) := by decide +kernel
theorem d_M_free_101 : decode me_M_free.2.1 101 = .ok (.ifCond .ne 8, 3) := by decide +kernel
theorem d_M_free_104 : decode me_M_free.2.1 104 = .ok (.iload 4, 2) := by decide +kernel
theorem d_M_free_106 : decode me_M_free.2.1 106 = .ok (.goto 5, 3) := by decide +kernel
theorem d_M_free_109 : decode me_M_free.2.1 109 = .ok (.iload 5, 2) := by decide +kernel
theorem d_M_free_111 : decode me_M_free.2.1 111 = .ok (.ireturn, 1) := by decide +kernel
noncomputable def f_M_free_59  : Nat → Int32 → Int32 → Int32 → Int32 → Int32 → Int32 → gk_M → Option (Int32 × gk_M)
  | 0, _, _, _, _, _, _, _ => none
  | n + 1, a1, a2, a3, a4, a5, a6, m0 =>
    if a6 < 0 then
      if ¬ a3 = 0 then
        some (a5, m0)
      else
        some (a4, m0)
    else
      gk_bi (f_M_isFree ((30 * a1) + a6) (m0.1 0 6) a2 (m0.1 0 6) m0) fun v2 m1 =>
      if v2 = 0 then
        f_M_free_59 n a1 a2 a3 a4 a5 (a6 + (-1)) m1
      else
        f_M_free_59 n a1 a2 a3 (a4 + 1) a6 (a6 + (-1)) m1

theorem s_M_free_59 {z : gk_Z} (K : gk_F tm z me_M_free 72) {r : Int32} {mem2 : gk_M} : ∀ n a1 a2 a3 a4 a5 a6 m0, f_M_free_59 n a1 a2 a3 a4 a5 a6 m0 = some (r, mem2) → gk_G tm z me_M_free (gk_R tm z (some (.int r)) mem2) m0 [(0, .ref 0), (1, .int a1), (2, .int a2), (3, .int a3), (4, .int a4), (5, .int a5), (6, .int a6)] [] 59 := by
  intro n
  induction n with
  | zero => intro a1 a2 a3 a4 a5 a6 m0  h; exact nomatch (show (none : Option _) = some _ from h)
  | succ n ih =>
    intro a1 a2 a3 a4 a5 a6 m0  h
    unfold f_M_free_59 at h
    refine gk_iload (pc := 59) K d_M_free_59 rfl ?_
    refine gk_if_lt (tgt := 100) (pc := 61) K d_M_free_61 (by decide) h (fun h => ?_) (fun h => ?_)
    · refine gk_iload_n (pc := 100) K d_M_free_100 rfl ?_
      refine gk_if_ne (tgt := 109) (pc := 101) K d_M_free_101 (by decide) h (fun h => ?_) (fun h => ?_)
      · refine gk_iload (pc := 109) K d_M_free_109 rfl ?_
        exact gk_iret (pc := 111) K d_M_free_111 rfl h
      · refine gk_iload (pc := 104) K d_M_free_104 rfl ?_
        refine gk_goto (tgt := 111) (pc := 106) K d_M_free_106 (by decide) ?_
        exact gk_iret (pc := 111) K d_M_free_111 rfl h
    · refine gk_aload_n (pc := 64) K d_M_free_64 rfl ?_
      refine gk_bipush (pc := 65) K d_M_free_65 kb_30 ?_
      refine gk_iload_n (pc := 67) K d_M_free_67 rfl ?_
      refine gk_imul (pc := 68) K d_M_free_68 ?_
      refine gk_iload (pc := 69) K d_M_free_69 rfl ?_
      refine gk_iadd (pc := 71) K d_M_free_71 ?_
      refine gk_aload_n (pc := 72) K d_M_free_72 rfl ?_
      refine gk_get (pc := 73) K d_M_free_73 fl_M_106 tm_0 rfl rfl ?_
      refine gk_iload_n (pc := 76) K d_M_free_76 rfl ?_
      refine gk_aload_n (pc := 77) K d_M_free_77 rfl ?_
      refine gk_get (pc := 78) K d_M_free_78 fl_M_106 tm_0 rfl rfl ?_
      obtain ⟨v2, m1, em1, h⟩ := gk_bi_some h
      refine gk_cVi (As := [.int ((30 * a1) + a6), .int (m0.1 0 6), .int a2, .int (m0.1 0 6)]) (pc := 81) K d_M_free_81 mv_M_317 mc_M_isFree rfl tm_0 cl_ok10.1 (s_M_isFree (gk_FD K)  em1) (by decide) rfl (Nat.le_of_ble_eq_true rfl) ?_
      refine gk_if_eq (tgt := 94) (pc := 84) K d_M_free_84 (by decide) h (fun h => ?_) (fun h => ?_)
      · refine gk_iinc2 (lv2 := [(6, .int (a6 + (-1))), (0, .ref 0), (1, .int a1), (2, .int a2), (3, .int a3), (4, .int a4), (5, .int a5)]) (pc := 94) K d_M_free_94 rfl kc_m1 (by decide) rfl ?_
        refine gk_goto (tgt := 59) (pc := 97) K d_M_free_97 (by decide) ?_
        exact gk_sub [1, 2, 3, 4, 5, 6, 0] rfl (ih _ _ _ _ _ _ _  h)
      · refine gk_iinc2 (lv2 := [(4, .int (a4 + 1)), (0, .ref 0), (1, .int a1), (2, .int a2), (3, .int a3), (5, .int a5), (6, .int a6)]) (pc := 87) K d_M_free_87 rfl kc_1 (by decide) rfl ?_
        refine gk_iload (pc := 90) K d_M_free_90 rfl ?_
        refine gk_istore (lv2 := [(5, .int a6), (4, .int (a4 + 1)), (0, .ref 0), (1, .int a1), (2, .int a2), (3, .int a3), (6, .int a6)]) (pc := 92) K d_M_free_92 (by decide) rfl ?_
        refine gk_iinc2 (lv2 := [(6, .int (a6 + (-1))), (5, .int a6), (4, .int (a4 + 1)), (0, .ref 0), (1, .int a1), (2, .int a2), (3, .int a3)]) (pc := 94) K d_M_free_94 rfl kc_m1 (by decide) rfl ?_
        refine gk_goto (tgt := 59) (pc := 97) K d_M_free_97 (by decide) ?_
        exact gk_sub [3, 4, 5, 6, 2, 1, 0] rfl (ih _ _ _ _ _ _ _  h)
noncomputable def f_M_free  (a1 : Int32) (a2 : Int32) (a3 : Int32) (m0 : gk_M) : Option (Int32 × gk_M) :=
  gk_bi (f_M_within a1.toInt64 0 29 m0) fun v2 m1 =>
  if v2 = 0 then
    some ((-1), m1)
  else
    gk_bi (f_M_within a2.toInt64 0 9 m1) fun v4 m3 =>
    if v4 = 0 then
      some ((-1), m3)
    else
      gk_bi (f_M_within a3.toInt64 0 1 m3) fun v6 m5 =>
      if ¬ v6 = 0 then
        if ¬ (m5.1 0 6) = 10 then
          f_M_free_59 gk_fv a1 a2 a3 0 (-2) 29 m5
        else
          some ((-5), m5)
      else
        some ((-1), m5)

theorem s_M_free_0 {z : gk_Z} (K : gk_F tm z me_M_free 72) {r : Int32} {mem2 : gk_M} : ∀ a1 a2 a3 m0, f_M_free a1 a2 a3 m0 = some (r, mem2) → gk_G tm z me_M_free (gk_R tm z (some (.int r)) mem2) m0 [(0, .ref 0), (1, .int a1), (2, .int a2), (3, .int a3)] [] 0 := by
  intro a1 a2 a3 m0  h
  unfold f_M_free at h
  refine gk_iload_n (pc := 0) K d_M_free_0 rfl ?_
  refine gk_i2l (pc := 1) K d_M_free_1 ?_
  refine gk_lconst (pc := 2) K d_M_free_2 kl_0 ?_
  refine gk_ldc2 (pc := 3) K d_M_free_3 lc_M_315 ?_
  obtain ⟨v2, m1, em1, h⟩ := gk_bi_some h
  refine gk_cSi (As := [.long a1.toInt64, .long 0, .long 29]) (pc := 6) K d_M_free_6 ms_M_102 mc_M_within rfl (s_M_within (gk_FD K)  em1) (by decide) rfl (Nat.le_of_ble_eq_true rfl) ?_
  refine gk_if_eq (tgt := 34) (pc := 9) K d_M_free_9 (by decide) h (fun h => ?_) (fun h => ?_)
  · refine gk_iconst (pc := 34) K d_M_free_34 kc_m1 ?_
    exact gk_iret (pc := 35) K d_M_free_35 rfl h
  · refine gk_iload_n (pc := 12) K d_M_free_12 rfl ?_
    refine gk_i2l (pc := 13) K d_M_free_13 ?_
    refine gk_lconst (pc := 14) K d_M_free_14 kl_0 ?_
    refine gk_ldc2 (pc := 15) K d_M_free_15 lc_M_112 ?_
    obtain ⟨v4, m3, em3, h⟩ := gk_bi_some h
    refine gk_cSi (As := [.long a2.toInt64, .long 0, .long 9]) (pc := 18) K d_M_free_18 ms_M_102 mc_M_within rfl (s_M_within (gk_FD K)  em3) (by decide) rfl (Nat.le_of_ble_eq_true rfl) ?_
    refine gk_if_eq (tgt := 34) (pc := 21) K d_M_free_21 (by decide) h (fun h => ?_) (fun h => ?_)
    · refine gk_iconst (pc := 34) K d_M_free_34 kc_m1 ?_
      exact gk_iret (pc := 35) K d_M_free_35 rfl h
    · refine gk_iload_n (pc := 24) K d_M_free_24 rfl ?_
      refine gk_i2l (pc := 25) K d_M_free_25 ?_
      refine gk_lconst (pc := 26) K d_M_free_26 kl_0 ?_
      refine gk_lconst (pc := 27) K d_M_free_27 kl_1 ?_
      obtain ⟨v6, m5, em5, h⟩ := gk_bi_some h
      refine gk_cSi (As := [.long a3.toInt64, .long 0, .long 1]) (pc := 28) K d_M_free_28 ms_M_102 mc_M_within rfl (s_M_within (gk_FD K)  em5) (by decide) rfl (Nat.le_of_ble_eq_true rfl) ?_
      refine gk_if_ne (tgt := 36) (pc := 31) K d_M_free_31 (by decide) h (fun h => ?_) (fun h => ?_)
      · refine gk_aload_n (pc := 36) K d_M_free_36 rfl ?_
        refine gk_get (pc := 37) K d_M_free_37 fl_M_106 tm_0 rfl rfl ?_
        refine gk_bipush (pc := 40) K d_M_free_40 kb_10 ?_
        refine gk_ic_ne (tgt := 48) (pc := 42) K d_M_free_42 (by decide) h (fun h => ?_) (fun h => ?_)
        · refine gk_iconst (pc := 48) K d_M_free_48 kc_0 ?_
          refine gk_istore (lv2 := [(4, .int 0), (0, .ref 0), (1, .int a1), (2, .int a2), (3, .int a3)]) (pc := 49) K d_M_free_49 (by decide) rfl ?_
          refine gk_bipush (pc := 51) K d_M_free_51 kb_m2 ?_
          refine gk_istore (lv2 := [(5, .int (-2)), (4, .int 0), (0, .ref 0), (1, .int a1), (2, .int a2), (3, .int a3)]) (pc := 53) K d_M_free_53 (by decide) rfl ?_
          refine gk_bipush (pc := 55) K d_M_free_55 kb_29 ?_
          refine gk_istore (lv2 := [(6, .int 29), (5, .int (-2)), (4, .int 0), (0, .ref 0), (1, .int a1), (2, .int a2), (3, .int a3)]) (pc := 57) K d_M_free_57 (by decide) rfl ?_
          exact gk_sub [3, 4, 5, 6, 2, 1, 0] rfl (s_M_free_59 K _ _ _ _ _ _ _ _  h)
        · refine gk_bipush (pc := 45) K d_M_free_45 kb_m5 ?_
          exact gk_iret (pc := 47) K d_M_free_47 rfl h
      · refine gk_iconst (pc := 34) K d_M_free_34 kc_m1 ?_
        exact gk_iret (pc := 35) K d_M_free_35 rfl h
theorem s_M_free {l : Launch} {u : gk_U} (hD : gk_D tm u) {a1 : Int32} {a2 : Int32} {a3 : Int32} {m0 mem2 : gk_M} {r : Int32} (h : f_M_free a1 a2 a3 m0 = some (r, mem2)) : gk_C tm l u me_M_free 72 [.ref 0, .int a1, .int a2, .int a3] m0 (some (.int r)) mem2 :=
  gk_enter hD mc_M_free (Nat.le_of_ble_eq_true rfl) rfl (fun z _ _ K => s_M_free_0 K _ _ _ _  h)
theorem d_M_firstFree_0 : decode me_M_firstFree.2.1 0 = .ok (.iconst 0, 1) := by decide +kernel
theorem d_M_firstFree_1 : decode me_M_firstFree.2.1 1 = .ok (.istore_n 3, 1) := by decide +kernel
theorem d_M_firstFree_2 : decode me_M_firstFree.2.1 2 = .ok (.iload_n 3, 1) := by decide +kernel
theorem d_M_firstFree_3 : decode me_M_firstFree.2.1 3 = .ok (.sipush 900, 3) := by decide +kernel
theorem d_M_firstFree_6 : decode me_M_firstFree.2.1 6 = .ok (.if_icmp .ge 22, 3) := by decide +kernel
theorem d_M_firstFree_9 : decode me_M_firstFree.2.1 9 = .ok (.aload_n 0, 1) := by decide +kernel
theorem d_M_firstFree_10 : decode me_M_firstFree.2.1 10 = .ok (.iload_n 3, 1) := by decide +kernel
theorem d_M_firstFree_11 : decode me_M_firstFree.2.1 11 = .ok (.iload_n 1, 1) := by decide +kernel
theorem d_M_firstFree_12 : decode me_M_firstFree.2.1 12 = .ok (.iload_n 2, 1) := by decide +kernel
theorem d_M_firstFree_13 : decode me_M_firstFree.2.1 13 = .ok (.iload_n 1, 1) := by decide +kernel
theorem d_M_firstFree_14 : decode me_M_firstFree.2.1 14 = .ok (.invokevirtual 317, 3) := by decide +kernel
theorem d_M_firstFree_17 : decode me_M_firstFree.2.1 17 = .ok (.ifCond .eq 5, 3) := by decide +kernel
theorem d_M_firstFree_20 : decode me_M_firstFree.2.1 20 = .ok (.iload_n 3, 1) := by decide +kernel
theorem d_M_firstFree_21 : decode me_M_firstFree.2.1 21 = .ok (.ireturn, 1) := by decide +kernel
theorem d_M_firstFree_22 : decode me_M_firstFree.2.1 22 = .ok (.iinc 3 1, 3) := by decide +kernel
theorem d_M_firstFree_25 : decode me_M_firstFree.2.1 25 = .ok (.goto (-23), 3) := by decide +kernel
theorem d_M_firstFree_28 : decode me_M_firstFree.2.1 28 = .ok (.bipush (-2), 2) := by decide +kernel
theorem d_M_firstFree_30 : decode me_M_firstFree.2.1 30 = .ok (.ireturn, 1) := by decide +kernel
noncomputable def f_M_firstFree_2  : Nat → Int32 → Int32 → Int32 → gk_M → Option (Int32 × gk_M)
  | 0, _, _, _, _ => none
  | n + 1, a1, a2, a3, m0 =>
    if 900 ≤ a3 then
      some ((-2), m0)
    else
      gk_bi (f_M_isFree a3 a1 a2 a1 m0) fun v2 m1 =>
      if v2 = 0 then
        f_M_firstFree_2 n a1 a2 (a3 + 1) m1
      else
        some (a3, m1)

theorem s_M_firstFree_2 {z : gk_Z} (K : gk_F tm z me_M_firstFree 72) {r : Int32} {mem2 : gk_M} : ∀ n a1 a2 a3 m0, f_M_firstFree_2 n a1 a2 a3 m0 = some (r, mem2) → gk_G tm z me_M_firstFree (gk_R tm z (some (.int r)) mem2) m0 [(0, .ref 0), (1, .int a1), (2, .int a2), (3, .int a3)] [] 2 := by
  intro n
  induction n with
  | zero => intro a1 a2 a3 m0  h; exact nomatch (show (none : Option _) = some _ from h)
  | succ n ih =>
    intro a1 a2 a3 m0  h
    unfold f_M_firstFree_2 at h
    refine gk_iload_n (pc := 2) K d_M_firstFree_2 rfl ?_
    refine gk_sipush (pc := 3) K d_M_firstFree_3 ks_900 ?_
    refine gk_ic_ge (tgt := 28) (pc := 6) K d_M_firstFree_6 (by decide) h (fun h => ?_) (fun h => ?_)
    · refine gk_bipush (pc := 28) K d_M_firstFree_28 kb_m2 ?_
      exact gk_iret (pc := 30) K d_M_firstFree_30 rfl h
    · refine gk_aload_n (pc := 9) K d_M_firstFree_9 rfl ?_
      refine gk_iload_n (pc := 10) K d_M_firstFree_10 rfl ?_
      refine gk_iload_n (pc := 11) K d_M_firstFree_11 rfl ?_
      refine gk_iload_n (pc := 12) K d_M_firstFree_12 rfl ?_
      refine gk_iload_n (pc := 13) K d_M_firstFree_13 rfl ?_
      obtain ⟨v2, m1, em1, h⟩ := gk_bi_some h
      refine gk_cVi (As := [.int a3, .int a1, .int a2, .int a1]) (pc := 14) K d_M_firstFree_14 mv_M_317 mc_M_isFree rfl tm_0 cl_ok10.1 (s_M_isFree (gk_FD K)  em1) (by decide) rfl (Nat.le_of_ble_eq_true rfl) ?_
      refine gk_if_eq (tgt := 22) (pc := 17) K d_M_firstFree_17 (by decide) h (fun h => ?_) (fun h => ?_)
      · refine gk_iinc2 (lv2 := [(3, .int (a3 + 1)), (0, .ref 0), (1, .int a1), (2, .int a2)]) (pc := 22) K d_M_firstFree_22 rfl kc_1 (by decide) rfl ?_
        refine gk_goto (tgt := 2) (pc := 25) K d_M_firstFree_25 (by decide) ?_
        exact gk_sub [1, 2, 3, 0] rfl (ih _ _ _ _  h)
      · refine gk_iload_n (pc := 20) K d_M_firstFree_20 rfl ?_
        exact gk_iret (pc := 21) K d_M_firstFree_21 rfl h
noncomputable def f_M_firstFree  (a1 : Int32) (a2 : Int32) (m0 : gk_M) : Option (Int32 × gk_M) :=
  f_M_firstFree_2 gk_fv a1 a2 0 m0

theorem s_M_firstFree_0 {z : gk_Z} (K : gk_F tm z me_M_firstFree 72) {r : Int32} {mem2 : gk_M} : ∀ a1 a2 m0, f_M_firstFree a1 a2 m0 = some (r, mem2) → gk_G tm z me_M_firstFree (gk_R tm z (some (.int r)) mem2) m0 [(0, .ref 0), (1, .int a1), (2, .int a2)] [] 0 := by
  intro a1 a2 m0  h
  unfold f_M_firstFree at h
  refine gk_iconst (pc := 0) K d_M_firstFree_0 kc_0 ?_
  refine gk_istore_n (lv2 := [(3, .int 0), (0, .ref 0), (1, .int a1), (2, .int a2)]) (pc := 1) K d_M_firstFree_1 (by decide) rfl ?_
  exact gk_sub [1, 2, 3, 0] rfl (s_M_firstFree_2 K _ _ _ _ _  h)
theorem s_M_firstFree {l : Launch} {u : gk_U} (hD : gk_D tm u) {a1 : Int32} {a2 : Int32} {m0 mem2 : gk_M} {r : Int32} (h : f_M_firstFree a1 a2 m0 = some (r, mem2)) : gk_C tm l u me_M_firstFree 72 [.ref 0, .int a1, .int a2] m0 (some (.int r)) mem2 :=
  gk_enter hD mc_M_firstFree (Nat.le_of_ble_eq_true rfl) rfl (fun z _ _ K => s_M_firstFree_0 K _ _ _  h)
theorem d_M_years_0 : decode me_M_years.2.1 0 = .ok (.iload_n 1, 1) := by decide +kernel
theorem d_M_years_1 : decode me_M_years.2.1 1 = .ok (.i2l, 1) := by decide +kernel
theorem d_M_years_2 : decode me_M_years.2.1 2 = .ok (.lconst 0, 1) := by decide +kernel
theorem d_M_years_3 : decode me_M_years.2.1 3 = .ok (.ldc2_w 112, 3) := by decide +kernel
theorem d_M_years_6 : decode me_M_years.2.1 6 = .ok (.invokestatic 102, 3) := by decide +kernel
theorem d_M_years_9 : decode me_M_years.2.1 9 = .ok (.ifCond .eq 13, 3) := by decide +kernel
theorem d_M_years_12 : decode me_M_years.2.1 12 = .ok (.iload_n 2, 1) := by decide +kernel
theorem d_M_years_13 : decode me_M_years.2.1 13 = .ok (.i2l, 1) := by decide +kernel
theorem d_M_years_14 : decode me_M_years.2.1 14 = .ok (.lconst 0, 1) := by decide +kernel
theorem d_M_years_15 : decode me_M_years.2.1 15 = .ok (.lconst 1, 1) := by decide +kernel
theorem d_M_years_16 : decode me_M_years.2.1 16 = .ok (.invokestatic 102, 3) := by decide +kernel
theorem d_M_years_19 : decode me_M_years.2.1 19 = .ok (.ifCond .ne 5, 3) := by decide +kernel
theorem d_M_years_22 : decode me_M_years.2.1 22 = .ok (.iconst (-1), 1) := by decide +kernel
theorem d_M_years_23 : decode me_M_years.2.1 23 = .ok (.ireturn, 1) := by decide +kernel
theorem d_M_years_24 : decode me_M_years.2.1 24 = .ok (.aload_n 0, 1) := by decide +kernel
theorem d_M_years_25 : decode me_M_years.2.1 25 = .ok (.getfield 106, 3) := by decide +kernel
theorem d_M_years_28 : decode me_M_years.2.1 28 = .ok (.istore_n 3, 1) := by decide +kernel
theorem d_M_years_29 : decode me_M_years.2.1 29 = .ok (.bipush (-2), 2) := by decide +kernel
theorem d_M_years_31 : decode me_M_years.2.1 31 = .ok (.istore 4, 2) := by decide +kernel
theorem d_M_years_33 : decode me_M_years.2.1 33 = .ok (.iconst 1, 1) := by decide +kernel
theorem d_M_years_34 : decode me_M_years.2.1 34 = .ok (.istore 5, 2) := by decide +kernel
theorem d_M_years_36 : decode me_M_years.2.1 36 = .ok (.iload 5, 2) := by decide +kernel
theorem d_M_years_38 : decode me_M_years.2.1 38 = .ok (.ifCond .eq 52, 3) := by decide +kernel
theorem d_M_years_41 : decode me_M_years.2.1 41 = .ok (.iload_n 3, 1) := by decide +kernel
theorem d_M_years_42 : decode me_M_years.2.1 42 = .ok (.bipush 10, 2) := by decide +kernel
theorem d_M_years_44 : decode me_M_years.2.1 44 = .ok (.if_icmp .ge 46, 3) := by decide +kernel
theorem d_M_years_47 : decode me_M_years.2.1 47 = .ok (.aload_n 0, 1) := by decide +kernel
theorem d_M_years_48 : decode me_M_years.2.1 48 = .ok (.iload_n 3, 1) := by decide +kernel
theorem d_M_years_49 : decode me_M_years.2.1 49 = .ok (.iload_n 1, 1) := by decide +kernel
theorem d_M_years_50 : decode me_M_years.2.1 50 = .ok (.invokevirtual 320, 3) := by decide +kernel
theorem d_M_years_53 : decode me_M_years.2.1 53 = .ok (.istore 6, 2) := by decide +kernel
theorem d_M_years_55 : decode me_M_years.2.1 55 = .ok (.iload 6, 2) := by decide +kernel
theorem d_M_years_57 : decode me_M_years.2.1 57 = .ok (.ifCond .lt 7, 3) := by decide +kernel
theorem d_M_years_60 : decode me_M_years.2.1 60 = .ok (.iconst 1, 1) := by decide +kernel
theorem d_M_years_61 : decode me_M_years.2.1 61 = .ok (.goto 4, 3) := by decide +kernel
theorem d_M_years_64 : decode me_M_years.2.1 64 = .ok (.iconst 0, 1) := by decide +kernel
theorem d_M_years_65 : decode me_M_years.2.1 65 = .ok (.istore 5, 2) := by decide +kernel
theorem d_M_years_67 : decode me_M_years.2.1 67 = .ok (.iload 5, 2) := by decide +kernel
theorem d_M_years_69 : decode me_M_years.2.1 69 = .ok (.ifCond .eq 18, 3) := by decide +kernel
theorem d_M_years_72 : decode me_M_years.2.1 72 = .ok (.aload_n 0, 1) := by decide +kernel
theorem d_M_years_73 : decode me_M_years.2.1 73 = .ok (.getfield 22, 3) := by decide +kernel
theorem d_M_years_76 : decode me_M_years.2.1 76 = .ok (.iload_n 3, 1) := by decide +kernel
theorem d_M_years_77 : decode me_M_years.2.1 77 = .ok (.iload 6, 2) := by decide +kernel
theorem d_M_years_79 : decode me_M_years.2.1 79 = .ok (.iastore, 1) := by decide +kernel
theorem d_M_years_80 : decode me_M_years.2.1 80 = .ok (.iload 6, 2) := by decide +kernel
theorem d_M_years_82 : decode me_M_years.2.1 82 = .ok (.istore 4, 2) := by decide +kernel
theorem d_M_years_84 : decode me_M_years.2.1 84 = .ok (.iinc 3 1, 3) := by decide +kernel
theorem d_M_years_87 : decode me_M_years.2.1 87 = .ok (.goto (-51), 3) := by decide +kernel
theorem d_M_years_90 : decode me_M_years.2.1 90 = .ok (.iload_n 2, 1) := by decide +kernel
theorem d_M_years_91 : decode me_M_years.2.1 91 = .ok (.ifCond .ne 12, 3) := by decide +kernel
theorem d_M_years_94 : decode me_M_years.2.1 94 = .ok (.iload_n 3, 1) := by decide +kernel
theorem d_M_years_95 : decode me_M_years.2.1 95 = .ok (.aload_n 0, 1) := by decide +kernel
theorem d_M_years_96 : decode me_M_years.2.1 96 = .ok (.getfield 106, 3) := by decide +kernel
theorem d_M_years_99 : decode me_M_years.2.1 99 = .ok (.isub, 1) := by decide +kernel
theorem d_M_years_100 : decode me_M_years.2.1 100 = .ok (.goto 5, 3) := by decide +kernel
theorem d_M_years_103 : decode me_M_years.2.1 103 = .ok (.iload 4, 2) := by decide +kernel
theorem d_M_years_105 : decode me_M_years.2.1 105 = .ok (.ireturn, 1) := by decide +kernel
noncomputable def f_M_years_90  (a2 : Int32) (a3 : Int32) (a4 : Int32) (m0 : gk_M) : Option (Int32 × gk_M) :=
  if ¬ a2 = 0 then
    some (a4, m0)
  else
    some ((a3 - (m0.1 0 6)), m0)

theorem s_M_years_90 {z : gk_Z} (K : gk_F tm z me_M_years 73) {r : Int32} {mem2 : gk_M} : ∀ a2 a3 a4 m0, f_M_years_90 a2 a3 a4 m0 = some (r, mem2) → gk_G tm z me_M_years (gk_R tm z (some (.int r)) mem2) m0 [(0, .ref 0), (2, .int a2), (3, .int a3), (4, .int a4)] [] 90 := by
  intro a2 a3 a4 m0  h
  unfold f_M_years_90 at h
  refine gk_iload_n (pc := 90) K d_M_years_90 rfl ?_
  refine gk_if_ne (tgt := 103) (pc := 91) K d_M_years_91 (by decide) h (fun h => ?_) (fun h => ?_)
  · refine gk_iload (pc := 103) K d_M_years_103 rfl ?_
    exact gk_iret (pc := 105) K d_M_years_105 rfl h
  · refine gk_iload_n (pc := 94) K d_M_years_94 rfl ?_
    refine gk_aload_n (pc := 95) K d_M_years_95 rfl ?_
    refine gk_get (pc := 96) K d_M_years_96 fl_M_106 tm_0 rfl rfl ?_
    refine gk_isub (pc := 99) K d_M_years_99 ?_
    refine gk_goto (tgt := 105) (pc := 100) K d_M_years_100 (by decide) ?_
    exact gk_iret (pc := 105) K d_M_years_105 rfl h
noncomputable def f_M_years_65 (k36 : Int32 → Int32 → Int32 → Int32 → Int32 → gk_M → Option (Int32 × gk_M)) (a1 : Int32) (a2 : Int32) (a3 : Int32) (a4 : Int32) (a6 : Int32) (s0 : Int32) (m0 : gk_M) : Option (Int32 × gk_M) :=
  if s0 = 0 then
    k36 a1 a2 a3 a4 s0 m0
  else
    gk_si m0 5 20 a3 a6 fun m1 =>
    k36 a1 a2 (a3 + 1) a6 s0 m1

theorem s_M_years_65 {z : gk_Z} (K : gk_F tm z me_M_years 73) {r : Int32} {mem2 : gk_M} {k36 : Int32 → Int32 → Int32 → Int32 → Int32 → gk_M → Option (Int32 × gk_M)} (hk36 : ∀ a1 a2 a3 a4 a5 m0, k36 a1 a2 a3 a4 a5 m0 = some (r, mem2) → gk_G tm z me_M_years (gk_R tm z (some (.int r)) mem2) m0 [(0, .ref 0), (1, .int a1), (2, .int a2), (3, .int a3), (4, .int a4), (5, .int a5)] [] 36) : ∀ a1 a2 a3 a4 a6 s0 m0, f_M_years_65 k36 a1 a2 a3 a4 a6 s0 m0 = some (r, mem2) → gk_G tm z me_M_years (gk_R tm z (some (.int r)) mem2) m0 [(0, .ref 0), (1, .int a1), (2, .int a2), (3, .int a3), (4, .int a4), (6, .int a6)] [.int s0] 65 := by
  intro a1 a2 a3 a4 a6 s0 m0  h
  unfold f_M_years_65 at h
  refine gk_istore (lv2 := [(5, .int s0), (0, .ref 0), (1, .int a1), (2, .int a2), (3, .int a3), (4, .int a4), (6, .int a6)]) (pc := 65) K d_M_years_65 (by decide) rfl ?_
  refine gk_iload (pc := 67) K d_M_years_67 rfl ?_
  refine gk_if_eq (tgt := 87) (pc := 69) K d_M_years_69 (by decide) h (fun h => ?_) (fun h => ?_)
  · refine gk_goto (tgt := 36) (pc := 87) K d_M_years_87 (by decide) ?_
    exact gk_sub [1, 2, 3, 4, 5, 0] rfl (hk36 _ _ _ _ _ _  h)
  · refine gk_aload_n (pc := 72) K d_M_years_72 rfl ?_
    refine gk_get (pc := 73) K d_M_years_73 fl_M_22 tm_0 rfl rfl ?_
    refine gk_iload_n (pc := 76) K d_M_years_76 rfl ?_
    refine gk_iload (pc := 77) K d_M_years_77 rfl ?_
    refine gk_iast (pc := 79) K d_M_years_79 tm_5 h (fun m1 h => ?_)
    refine gk_iload (pc := 80) K d_M_years_80 rfl ?_
    refine gk_istore (lv2 := [(4, .int a6), (5, .int s0), (0, .ref 0), (1, .int a1), (2, .int a2), (3, .int a3), (6, .int a6)]) (pc := 82) K d_M_years_82 (by decide) rfl ?_
    refine gk_iinc2 (lv2 := [(3, .int (a3 + 1)), (4, .int a6), (5, .int s0), (0, .ref 0), (1, .int a1), (2, .int a2), (6, .int a6)]) (pc := 84) K d_M_years_84 rfl kc_1 (by decide) rfl ?_
    refine gk_goto (tgt := 36) (pc := 87) K d_M_years_87 (by decide) ?_
    exact gk_sub [3, 4, 5, 0, 1, 2] rfl (hk36 _ _ _ _ _ _  h)
noncomputable def f_M_years_36  : Nat → Int32 → Int32 → Int32 → Int32 → Int32 → gk_M → Option (Int32 × gk_M)
  | 0, _, _, _, _, _, _ => none
  | n + 1, a1, a2, a3, a4, a5, m0 =>
    if a5 = 0 then
      f_M_years_90 a2 a3 a4 m0
    else
      if 10 ≤ a3 then
        f_M_years_90 a2 a3 a4 m0
      else
        gk_bi (f_M_firstFree a3 a1 m0) fun v2 m1 =>
        if v2 < 0 then
          f_M_years_65 (f_M_years_36 n) a1 a2 a3 a4 v2 0 m1
        else
          f_M_years_65 (f_M_years_36 n) a1 a2 a3 a4 v2 1 m1

theorem s_M_years_36 {z : gk_Z} (K : gk_F tm z me_M_years 73) {r : Int32} {mem2 : gk_M} : ∀ n a1 a2 a3 a4 a5 m0, f_M_years_36 n a1 a2 a3 a4 a5 m0 = some (r, mem2) → gk_G tm z me_M_years (gk_R tm z (some (.int r)) mem2) m0 [(0, .ref 0), (1, .int a1), (2, .int a2), (3, .int a3), (4, .int a4), (5, .int a5)] [] 36 := by
  intro n
  induction n with
  | zero => intro a1 a2 a3 a4 a5 m0  h; exact nomatch (show (none : Option _) = some _ from h)
  | succ n ih =>
    intro a1 a2 a3 a4 a5 m0  h
    unfold f_M_years_36 at h
    refine gk_iload (pc := 36) K d_M_years_36 rfl ?_
    refine gk_if_eq (tgt := 90) (pc := 38) K d_M_years_38 (by decide) h (fun h => ?_) (fun h => ?_)
    · exact gk_sub [0, 2, 3, 4] rfl (s_M_years_90 K _ _ _ _  h)
    · refine gk_iload_n (pc := 41) K d_M_years_41 rfl ?_
      refine gk_bipush (pc := 42) K d_M_years_42 kb_10 ?_
      refine gk_ic_ge (tgt := 90) (pc := 44) K d_M_years_44 (by decide) h (fun h => ?_) (fun h => ?_)
      · exact gk_sub [0, 2, 3, 4] rfl (s_M_years_90 K _ _ _ _  h)
      · refine gk_aload_n (pc := 47) K d_M_years_47 rfl ?_
        refine gk_iload_n (pc := 48) K d_M_years_48 rfl ?_
        refine gk_iload_n (pc := 49) K d_M_years_49 rfl ?_
        obtain ⟨v2, m1, em1, h⟩ := gk_bi_some h
        refine gk_cVi (As := [.int a3, .int a1]) (pc := 50) K d_M_years_50 mv_M_320 mc_M_firstFree rfl tm_0 cl_ok10.1 (s_M_firstFree (gk_FD K)  em1) (by decide) rfl (Nat.le_of_ble_eq_true rfl) ?_
        refine gk_istore (lv2 := [(6, .int v2), (0, .ref 0), (1, .int a1), (2, .int a2), (3, .int a3), (4, .int a4), (5, .int a5)]) (pc := 53) K d_M_years_53 (by decide) rfl ?_
        refine gk_iload (pc := 55) K d_M_years_55 rfl ?_
        refine gk_if_lt (tgt := 64) (pc := 57) K d_M_years_57 (by decide) h (fun h => ?_) (fun h => ?_)
        · refine gk_iconst (pc := 64) K d_M_years_64 kc_0 ?_
          exact gk_sub [1, 2, 3, 4, 5, 0] rfl (s_M_years_65 K (fun x0 x1 x2 x3 x4 m  h => ih x0 x1 x2 x3 x4 m  h) _ _ _ _ _ _ _  h)
        · refine gk_iconst (pc := 60) K d_M_years_60 kc_1 ?_
          refine gk_goto (tgt := 65) (pc := 61) K d_M_years_61 (by decide) ?_
          exact gk_sub [1, 2, 3, 4, 5, 0] rfl (s_M_years_65 K (fun x0 x1 x2 x3 x4 m  h => ih x0 x1 x2 x3 x4 m  h) _ _ _ _ _ _ _  h)
noncomputable def f_M_years  (a1 : Int32) (a2 : Int32) (m0 : gk_M) : Option (Int32 × gk_M) :=
  gk_bi (f_M_within a1.toInt64 0 9 m0) fun v2 m1 =>
  if v2 = 0 then
    some ((-1), m1)
  else
    gk_bi (f_M_within a2.toInt64 0 1 m1) fun v4 m3 =>
    if ¬ v4 = 0 then
      gk_let (m3.1 0 6) fun v5 =>
      f_M_years_36 gk_fv a1 a2 v5 (-2) 1 m3
    else
      some ((-1), m3)

theorem s_M_years_0 {z : gk_Z} (K : gk_F tm z me_M_years 73) {r : Int32} {mem2 : gk_M} : ∀ a1 a2 m0, f_M_years a1 a2 m0 = some (r, mem2) → gk_G tm z me_M_years (gk_R tm z (some (.int r)) mem2) m0 [(0, .ref 0), (1, .int a1), (2, .int a2)] [] 0 := by
  intro a1 a2 m0  h
  unfold f_M_years at h
  refine gk_iload_n (pc := 0) K d_M_years_0 rfl ?_
  refine gk_i2l (pc := 1) K d_M_years_1 ?_
  refine gk_lconst (pc := 2) K d_M_years_2 kl_0 ?_
  refine gk_ldc2 (pc := 3) K d_M_years_3 lc_M_112 ?_
  obtain ⟨v2, m1, em1, h⟩ := gk_bi_some h
  refine gk_cSi (As := [.long a1.toInt64, .long 0, .long 9]) (pc := 6) K d_M_years_6 ms_M_102 mc_M_within rfl (s_M_within (gk_FD K)  em1) (by decide) rfl (Nat.le_of_ble_eq_true rfl) ?_
  refine gk_if_eq (tgt := 22) (pc := 9) K d_M_years_9 (by decide) h (fun h => ?_) (fun h => ?_)
  · refine gk_iconst (pc := 22) K d_M_years_22 kc_m1 ?_
    exact gk_iret (pc := 23) K d_M_years_23 rfl h
  · refine gk_iload_n (pc := 12) K d_M_years_12 rfl ?_
    refine gk_i2l (pc := 13) K d_M_years_13 ?_
    refine gk_lconst (pc := 14) K d_M_years_14 kl_0 ?_
    refine gk_lconst (pc := 15) K d_M_years_15 kl_1 ?_
    obtain ⟨v4, m3, em3, h⟩ := gk_bi_some h
    refine gk_cSi (As := [.long a2.toInt64, .long 0, .long 1]) (pc := 16) K d_M_years_16 ms_M_102 mc_M_within rfl (s_M_within (gk_FD K)  em3) (by decide) rfl (Nat.le_of_ble_eq_true rfl) ?_
    refine gk_if_ne (tgt := 24) (pc := 19) K d_M_years_19 (by decide) h (fun h => ?_) (fun h => ?_)
    · refine gk_aload_n (pc := 24) K d_M_years_24 rfl ?_
      refine gk_get (pc := 25) K d_M_years_25 fl_M_106 tm_0 rfl rfl ?_
      refine gk_topi h (fun v5 h => ?_)
      refine gk_istore_n (lv2 := [(3, .int v5), (0, .ref 0), (1, .int a1), (2, .int a2)]) (pc := 28) K d_M_years_28 (by decide) rfl ?_
      refine gk_bipush (pc := 29) K d_M_years_29 kb_m2 ?_
      refine gk_istore (lv2 := [(4, .int (-2)), (3, .int v5), (0, .ref 0), (1, .int a1), (2, .int a2)]) (pc := 31) K d_M_years_31 (by decide) rfl ?_
      refine gk_iconst (pc := 33) K d_M_years_33 kc_1 ?_
      refine gk_istore (lv2 := [(5, .int 1), (4, .int (-2)), (3, .int v5), (0, .ref 0), (1, .int a1), (2, .int a2)]) (pc := 34) K d_M_years_34 (by decide) rfl ?_
      exact gk_sub [3, 4, 5, 2, 1, 0] rfl (s_M_years_36 K _ _ _ _ _ _ _  h)
    · refine gk_iconst (pc := 22) K d_M_years_22 kc_m1 ?_
      exact gk_iret (pc := 23) K d_M_years_23 rfl h
theorem s_M_years {l : Launch} {u : gk_U} (hD : gk_D tm u) {a1 : Int32} {a2 : Int32} {m0 mem2 : gk_M} {r : Int32} (h : f_M_years a1 a2 m0 = some (r, mem2)) : gk_C tm l u me_M_years 73 [.ref 0, .int a1, .int a2] m0 (some (.int r)) mem2 :=
  gk_enter hD mc_M_years (Nat.le_of_ble_eq_true rfl) rfl (fun z _ _ K => s_M_years_0 K _ _ _  h)
theorem d_M_areAgainst_0 : decode me_M_areAgainst.2.1 0 = .ok (.iconst 0, 1) := by decide +kernel
theorem d_M_areAgainst_1 : decode me_M_areAgainst.2.1 1 = .ok (.istore_n 3, 1) := by decide +kernel
theorem d_M_areAgainst_2 : decode me_M_areAgainst.2.1 2 = .ok (.iload_n 3, 1) := by decide +kernel
theorem d_M_areAgainst_3 : decode me_M_areAgainst.2.1 3 = .ok (.aload_n 0, 1) := by decide +kernel
theorem d_M_areAgainst_4 : decode me_M_areAgainst.2.1 4 = .ok (.getfield 109, 3) := by decide +kernel
theorem d_M_areAgainst_7 : decode me_M_areAgainst.2.1 7 = .ok (.if_icmp .ge 45, 3) := by decide +kernel
theorem d_M_areAgainst_10 : decode me_M_areAgainst.2.1 10 = .ok (.iconst 0, 1) := by decide +kernel
theorem d_M_areAgainst_11 : decode me_M_areAgainst.2.1 11 = .ok (.istore 4, 2) := by decide +kernel
theorem d_M_areAgainst_13 : decode me_M_areAgainst.2.1 13 = .ok (.iload 4, 2) := by decide +kernel
theorem d_M_areAgainst_15 : decode me_M_areAgainst.2.1 15 = .ok (.iconst 1, 1) := by decide +kernel
theorem d_M_areAgainst_16 : decode me_M_areAgainst.2.1 16 = .ok (.iadd, 1) := by decide +kernel
theorem d_M_areAgainst_17 : decode me_M_areAgainst.2.1 17 = .ok (.aload_n 0, 1) := by decide +kernel
theorem d_M_areAgainst_18 : decode me_M_areAgainst.2.1 18 = .ok (.getfield 31, 3) := by decide +kernel
theorem d_M_areAgainst_21 : decode me_M_areAgainst.2.1 21 = .ok (.iload_n 3, 1) := by decide +kernel
theorem d_M_areAgainst_22 : decode me_M_areAgainst.2.1 22 = .ok (.iaload, 1) := by decide +kernel
theorem d_M_areAgainst_23 : decode me_M_areAgainst.2.1 23 = .ok (.if_icmp .ge 23, 3) := by decide +kernel
theorem d_M_areAgainst_26 : decode me_M_areAgainst.2.1 26 = .ok (.aload_n 0, 1) := by decide +kernel
theorem d_M_areAgainst_27 : decode me_M_areAgainst.2.1 27 = .ok (.iload_n 3, 1) := by decide +kernel
theorem d_M_areAgainst_28 : decode me_M_areAgainst.2.1 28 = .ok (.iload 4, 2) := by decide +kernel
theorem d_M_areAgainst_30 : decode me_M_areAgainst.2.1 30 = .ok (.iload_n 1, 1) := by decide +kernel
theorem d_M_areAgainst_31 : decode me_M_areAgainst.2.1 31 = .ok (.iload_n 2, 1) := by decide +kernel
theorem d_M_areAgainst_32 : decode me_M_areAgainst.2.1 32 = .ok (.invokevirtual 284, 3) := by decide +kernel
theorem d_M_areAgainst_35 : decode me_M_areAgainst.2.1 35 = .ok (.ifCond .eq 5, 3) := by decide +kernel
theorem d_M_areAgainst_38 : decode me_M_areAgainst.2.1 38 = .ok (.iconst 1, 1) := by decide +kernel
theorem d_M_areAgainst_39 : decode me_M_areAgainst.2.1 39 = .ok (.ireturn, 1) := by decide +kernel
theorem d_M_areAgainst_40 : decode me_M_areAgainst.2.1 40 = .ok (.iinc 4 1, 3) := by decide +kernel
theorem d_M_areAgainst_43 : decode me_M_areAgainst.2.1 43 = .ok (.goto (-30), 3) := by decide +kernel
theorem d_M_areAgainst_46 : decode me_M_areAgainst.2.1 46 = .ok (.iinc 3 1, 3) := by decide +kernel
theorem d_M_areAgainst_49 : decode me_M_areAgainst.2.1 49 = .ok (.goto (-47), 3) := by decide +kernel
theorem d_M_areAgainst_52 : decode me_M_areAgainst.2.1 52 = .ok (.iconst 0, 1) := by decide +kernel
theorem d_M_areAgainst_53 : decode me_M_areAgainst.2.1 53 = .ok (.ireturn, 1) := by decide +kernel
noncomputable def f_M_areAgainst_13 (k2 : Int32 → Int32 → Int32 → gk_M → Option (Int32 × gk_M)) : Nat → Int32 → Int32 → Int32 → Int32 → gk_M → Option (Int32 × gk_M)
  | 0, _, _, _, _, _ => none
  | n + 1, a1, a2, a3, a4, m0 =>
    gk_ai m0 8 4 a3 fun v1 =>
    if v1 ≤ (a4 + 1) then
      k2 a1 a2 (a3 + 1) m0
    else
      gk_bi (f_M_isGuiltyOn a3 a4 a1 a2 m0) fun v3 m2 =>
      if v3 = 0 then
        f_M_areAgainst_13 k2 n a1 a2 a3 (a4 + 1) m2
      else
        some (1, m2)

theorem s_M_areAgainst_13 {z : gk_Z} (K : gk_F tm z me_M_areAgainst 71) {r : Int32} {mem2 : gk_M} {k2 : Int32 → Int32 → Int32 → gk_M → Option (Int32 × gk_M)} (hk2 : ∀ a1 a2 a3 m0, k2 a1 a2 a3 m0 = some (r, mem2) → gk_G tm z me_M_areAgainst (gk_R tm z (some (.int r)) mem2) m0 [(0, .ref 0), (1, .int a1), (2, .int a2), (3, .int a3)] [] 2) : ∀ n a1 a2 a3 a4 m0, f_M_areAgainst_13 k2 n a1 a2 a3 a4 m0 = some (r, mem2) → gk_G tm z me_M_areAgainst (gk_R tm z (some (.int r)) mem2) m0 [(0, .ref 0), (1, .int a1), (2, .int a2), (3, .int a3), (4, .int a4)] [] 13 := by
  intro n
  induction n with
  | zero => intro a1 a2 a3 a4 m0  h; exact nomatch (show (none : Option _) = some _ from h)
  | succ n ih =>
    intro a1 a2 a3 a4 m0  h
    unfold f_M_areAgainst_13 at h
    refine gk_iload (pc := 13) K d_M_areAgainst_13 rfl ?_
    refine gk_iconst (pc := 15) K d_M_areAgainst_15 kc_1 ?_
    refine gk_iadd (pc := 16) K d_M_areAgainst_16 ?_
    refine gk_aload_n (pc := 17) K d_M_areAgainst_17 rfl ?_
    refine gk_get (pc := 18) K d_M_areAgainst_18 fl_M_31 tm_0 rfl rfl ?_
    refine gk_iload_n (pc := 21) K d_M_areAgainst_21 rfl ?_
    refine gk_iald (pc := 22) K d_M_areAgainst_22 tm_8 h (fun v1 h => ?_)
    refine gk_ic_ge (tgt := 46) (pc := 23) K d_M_areAgainst_23 (by decide) h (fun h => ?_) (fun h => ?_)
    · refine gk_iinc2 (lv2 := [(3, .int (a3 + 1)), (0, .ref 0), (1, .int a1), (2, .int a2), (4, .int a4)]) (pc := 46) K d_M_areAgainst_46 rfl kc_1 (by decide) rfl ?_
      refine gk_goto (tgt := 2) (pc := 49) K d_M_areAgainst_49 (by decide) ?_
      exact gk_sub [1, 2, 3, 0] rfl (hk2 _ _ _ _  h)
    · refine gk_aload_n (pc := 26) K d_M_areAgainst_26 rfl ?_
      refine gk_iload_n (pc := 27) K d_M_areAgainst_27 rfl ?_
      refine gk_iload (pc := 28) K d_M_areAgainst_28 rfl ?_
      refine gk_iload_n (pc := 30) K d_M_areAgainst_30 rfl ?_
      refine gk_iload_n (pc := 31) K d_M_areAgainst_31 rfl ?_
      obtain ⟨v3, m2, em2, h⟩ := gk_bi_some h
      refine gk_cVi (As := [.int a3, .int a4, .int a1, .int a2]) (pc := 32) K d_M_areAgainst_32 mv_M_284 mc_M_isGuiltyOn rfl tm_0 cl_ok10.1 (s_M_isGuiltyOn (gk_FD K)  em2) (by decide) rfl (Nat.le_of_ble_eq_true rfl) ?_
      refine gk_if_eq (tgt := 40) (pc := 35) K d_M_areAgainst_35 (by decide) h (fun h => ?_) (fun h => ?_)
      · refine gk_iinc2 (lv2 := [(4, .int (a4 + 1)), (0, .ref 0), (1, .int a1), (2, .int a2), (3, .int a3)]) (pc := 40) K d_M_areAgainst_40 rfl kc_1 (by decide) rfl ?_
        refine gk_goto (tgt := 13) (pc := 43) K d_M_areAgainst_43 (by decide) ?_
        exact gk_sub [1, 2, 3, 4, 0] rfl (ih _ _ _ _ _  h)
      · refine gk_iconst (pc := 38) K d_M_areAgainst_38 kc_1 ?_
        exact gk_zretc (pc := 39) K d_M_areAgainst_39 rfl (Or.inr rfl) h
noncomputable def f_M_areAgainst_2  : Nat → Int32 → Int32 → Int32 → gk_M → Option (Int32 × gk_M)
  | 0, _, _, _, _ => none
  | n + 1, a1, a2, a3, m0 =>
    if (m0.1 0 10) ≤ a3 then
      some (0, m0)
    else
      f_M_areAgainst_13 (f_M_areAgainst_2 n) gk_fv a1 a2 a3 0 m0

theorem s_M_areAgainst_2 {z : gk_Z} (K : gk_F tm z me_M_areAgainst 71) {r : Int32} {mem2 : gk_M} : ∀ n a1 a2 a3 m0, f_M_areAgainst_2 n a1 a2 a3 m0 = some (r, mem2) → gk_G tm z me_M_areAgainst (gk_R tm z (some (.int r)) mem2) m0 [(0, .ref 0), (1, .int a1), (2, .int a2), (3, .int a3)] [] 2 := by
  intro n
  induction n with
  | zero => intro a1 a2 a3 m0  h; exact nomatch (show (none : Option _) = some _ from h)
  | succ n ih =>
    intro a1 a2 a3 m0  h
    unfold f_M_areAgainst_2 at h
    refine gk_iload_n (pc := 2) K d_M_areAgainst_2 rfl ?_
    refine gk_aload_n (pc := 3) K d_M_areAgainst_3 rfl ?_
    refine gk_get (pc := 4) K d_M_areAgainst_4 fl_M_109 tm_0 rfl rfl ?_
    refine gk_ic_ge (tgt := 52) (pc := 7) K d_M_areAgainst_7 (by decide) h (fun h => ?_) (fun h => ?_)
    · refine gk_iconst (pc := 52) K d_M_areAgainst_52 kc_0 ?_
      exact gk_zretc (pc := 53) K d_M_areAgainst_53 rfl (Or.inl rfl) h
    · refine gk_iconst (pc := 10) K d_M_areAgainst_10 kc_0 ?_
      refine gk_istore (lv2 := [(4, .int 0), (0, .ref 0), (1, .int a1), (2, .int a2), (3, .int a3)]) (pc := 11) K d_M_areAgainst_11 (by decide) rfl ?_
      exact gk_sub [1, 2, 3, 4, 0] rfl (s_M_areAgainst_13 K (fun x0 x1 x2 m  h => ih x0 x1 x2 m  h) _ _ _ _ _ _  h)
noncomputable def f_M_areAgainst  (a1 : Int32) (a2 : Int32) (m0 : gk_M) : Option (Int32 × gk_M) :=
  f_M_areAgainst_2 gk_fv a1 a2 0 m0

theorem s_M_areAgainst_0 {z : gk_Z} (K : gk_F tm z me_M_areAgainst 71) {r : Int32} {mem2 : gk_M} : ∀ a1 a2 m0, f_M_areAgainst a1 a2 m0 = some (r, mem2) → gk_G tm z me_M_areAgainst (gk_R tm z (some (.int r)) mem2) m0 [(0, .ref 0), (1, .int a1), (2, .int a2)] [] 0 := by
  intro a1 a2 m0  h
  unfold f_M_areAgainst at h
  refine gk_iconst (pc := 0) K d_M_areAgainst_0 kc_0 ?_
  refine gk_istore_n (lv2 := [(3, .int 0), (0, .ref 0), (1, .int a1), (2, .int a2)]) (pc := 1) K d_M_areAgainst_1 (by decide) rfl ?_
  exact gk_sub [1, 2, 3, 0] rfl (s_M_areAgainst_2 K _ _ _ _ _  h)
theorem s_M_areAgainst {l : Launch} {u : gk_U} (hD : gk_D tm u) {a1 : Int32} {a2 : Int32} {m0 mem2 : gk_M} {r : Int32} (h : f_M_areAgainst a1 a2 m0 = some (r, mem2)) : gk_C tm l u me_M_areAgainst 71 [.ref 0, .int a1, .int a2] m0 (some (.int r)) mem2 :=
  gk_enter hD mc_M_areAgainst (Nat.le_of_ble_eq_true rfl) rfl (fun z _ _ K => s_M_areAgainst_0 K _ _ _  h)
theorem d_M_findAgainst_0 : decode me_M_findAgainst.2.1 0 = .ok (.iconst 0, 1) := by decide +kernel
theorem d_M_findAgainst_1 : decode me_M_findAgainst.2.1 1 = .ok (.istore_n 1, 1) := by decide +kernel
theorem d_M_findAgainst_2 : decode me_M_findAgainst.2.1 2 = .ok (.iload_n 1, 1) := by decide +kernel
theorem d_M_findAgainst_3 : decode me_M_findAgainst.2.1 3 = .ok (.aload_n 0, 1) := by decide +kernel
theorem d_M_findAgainst_4 : decode me_M_findAgainst.2.1 4 = .ok (.getfield 106, 3) := by decide +kernel
theorem d_M_findAgainst_7 : decode me_M_findAgainst.2.1 7 = .ok (.if_icmp .ge 62, 3) := by decide +kernel
theorem d_M_findAgainst_10 : decode me_M_findAgainst.2.1 10 = .ok (.aload_n 0, 1) := by decide +kernel
theorem d_M_findAgainst_11 : decode me_M_findAgainst.2.1 11 = .ok (.getfield 49, 3) := by decide +kernel
theorem d_M_findAgainst_14 : decode me_M_findAgainst.2.1 14 = .ok (.iload_n 1, 1) := by decide +kernel
theorem d_M_findAgainst_15 : decode me_M_findAgainst.2.1 15 = .ok (.iconst 0, 1) := by decide +kernel
theorem d_M_findAgainst_16 : decode me_M_findAgainst.2.1 16 = .ok (.iastore, 1) := by decide +kernel
theorem d_M_findAgainst_17 : decode me_M_findAgainst.2.1 17 = .ok (.iconst 0, 1) := by decide +kernel
theorem d_M_findAgainst_18 : decode me_M_findAgainst.2.1 18 = .ok (.istore_n 2, 1) := by decide +kernel
theorem d_M_findAgainst_19 : decode me_M_findAgainst.2.1 19 = .ok (.iload_n 2, 1) := by decide +kernel
theorem d_M_findAgainst_20 : decode me_M_findAgainst.2.1 20 = .ok (.aload_n 0, 1) := by decide +kernel
theorem d_M_findAgainst_21 : decode me_M_findAgainst.2.1 21 = .ok (.getfield 106, 3) := by decide +kernel
theorem d_M_findAgainst_24 : decode me_M_findAgainst.2.1 24 = .ok (.if_icmp .ge 39, 3) := by decide +kernel
theorem d_M_findAgainst_27 : decode me_M_findAgainst.2.1 27 = .ok (.aload_n 0, 1) := by decide +kernel
theorem d_M_findAgainst_28 : decode me_M_findAgainst.2.1 28 = .ok (.getfield 49, 3) := by decide +kernel
theorem d_M_findAgainst_31 : decode me_M_findAgainst.2.1 31 = .ok (.iload_n 1, 1) := by decide +kernel
theorem d_M_findAgainst_32 : decode me_M_findAgainst.2.1 32 = .ok (.dup2, 1) := by decide +kernel
theorem d_M_findAgainst_33 : decode me_M_findAgainst.2.1 33 = .ok (.iaload, 1) := by decide +kernel
theorem d_M_findAgainst_34 : decode me_M_findAgainst.2.1 34 = .ok (.iload_n 2, 1) := by decide +kernel
theorem d_M_findAgainst_35 : decode me_M_findAgainst.2.1 35 = .ok (.iload_n 1, 1) := by decide +kernel
theorem d_M_findAgainst_36 : decode me_M_findAgainst.2.1 36 = .ok (.if_icmp .eq 18, 3) := by decide +kernel
theorem d_M_findAgainst_39 : decode me_M_findAgainst.2.1 39 = .ok (.aload_n 0, 1) := by decide +kernel
theorem d_M_findAgainst_40 : decode me_M_findAgainst.2.1 40 = .ok (.iload_n 1, 1) := by decide +kernel
theorem d_M_findAgainst_41 : decode me_M_findAgainst.2.1 41 = .ok (.iload_n 2, 1) := by decide +kernel
theorem d_M_findAgainst_42 : decode me_M_findAgainst.2.1 42 = .ok (.invokevirtual 323, 3) := by decide +kernel
theorem d_M_findAgainst_45 : decode me_M_findAgainst.2.1 45 = .ok (.ifCond .eq 9, 3) := by decide +kernel
theorem d_M_findAgainst_48 : decode me_M_findAgainst.2.1 48 = .ok (.iconst 1, 1) := by decide +kernel
theorem d_M_findAgainst_49 : decode me_M_findAgainst.2.1 49 = .ok (.iload_n 2, 1) := by decide +kernel
theorem d_M_findAgainst_50 : decode me_M_findAgainst.2.1 50 = .ok (.ishl, 1) := by decide +kernel
theorem d_M_findAgainst_51 : decode me_M_findAgainst.2.1 51 = .ok (.goto 4, 3) := by decide +kernel
theorem d_M_findAgainst_54 : decode me_M_findAgainst.2.1 54 = .ok (.iconst 0, 1) := by decide +kernel
theorem d_M_findAgainst_55 : decode me_M_findAgainst.2.1 55 = .ok (.ior, 1) := by decide +kernel
theorem d_M_findAgainst_56 : decode me_M_findAgainst.2.1 56 = .ok (.iastore, 1) := by decide +kernel
theorem d_M_findAgainst_57 : decode me_M_findAgainst.2.1 57 = .ok (.iinc 2 1, 3) := by decide +kernel
theorem d_M_findAgainst_60 : decode me_M_findAgainst.2.1 60 = .ok (.goto (-41), 3) := by decide +kernel
theorem d_M_findAgainst_63 : decode me_M_findAgainst.2.1 63 = .ok (.iinc 1 1, 3) := by decide +kernel
theorem d_M_findAgainst_66 : decode me_M_findAgainst.2.1 66 = .ok (.goto (-64), 3) := by decide +kernel
theorem d_M_findAgainst_69 : decode me_M_findAgainst.2.1 69 = .ok (.return_, 1) := by decide +kernel
noncomputable def f_M_findAgainst_55 (k2 : Int32 → gk_M → Option (Unit × gk_M)) (k19 : Int32 → Int32 → gk_M → Option (Unit × gk_M)) (a1 : Int32) (a2 : Int32) (s1 : Int32) (s2 : Int32) (s3 : Int32) (m0 : gk_M) : Option (Unit × gk_M) :=
  gk_si m0 14 10 s1 (s2 ||| s3) fun m1 =>
  k19 a1 (a2 + 1) m1

theorem s_M_findAgainst_55 {z : gk_Z} (K : gk_F tm z me_M_findAgainst 72) {r : Unit} {mem2 : gk_M} {k2 : Int32 → gk_M → Option (Unit × gk_M)} (hk2 : ∀ a1 m0, k2 a1 m0 = some (r, mem2) → gk_G tm z me_M_findAgainst (gk_R tm z none mem2) m0 [(0, .ref 0), (1, .int a1)] [] 2) {k19 : Int32 → Int32 → gk_M → Option (Unit × gk_M)} (hk19 : ∀ a1 a2 m0, k19 a1 a2 m0 = some (r, mem2) → gk_G tm z me_M_findAgainst (gk_R tm z none mem2) m0 [(0, .ref 0), (1, .int a1), (2, .int a2)] [] 19) : ∀ a1 a2 s1 s2 s3 m0, f_M_findAgainst_55 k2 k19 a1 a2 s1 s2 s3 m0 = some (r, mem2) → gk_G tm z me_M_findAgainst (gk_R tm z none mem2) m0 [(0, .ref 0), (1, .int a1), (2, .int a2)] [.int s3, .int s2, .int s1, .ref 14] 55 := by
  intro a1 a2 s1 s2 s3 m0  h
  unfold f_M_findAgainst_55 at h
  refine gk_ior (pc := 55) K d_M_findAgainst_55 ?_
  refine gk_iast (pc := 56) K d_M_findAgainst_56 tm_14 h (fun m1 h => ?_)
  refine gk_iinc2 (lv2 := [(2, .int (a2 + 1)), (0, .ref 0), (1, .int a1)]) (pc := 57) K d_M_findAgainst_57 rfl kc_1 (by decide) rfl ?_
  refine gk_goto (tgt := 19) (pc := 60) K d_M_findAgainst_60 (by decide) ?_
  exact gk_sub [1, 2, 0] rfl (hk19 _ _ _  h)
noncomputable def f_M_findAgainst_54 (k2 : Int32 → gk_M → Option (Unit × gk_M)) (k19 : Int32 → Int32 → gk_M → Option (Unit × gk_M)) (a1 : Int32) (a2 : Int32) (s1 : Int32) (s2 : Int32) (m0 : gk_M) : Option (Unit × gk_M) :=
  f_M_findAgainst_55 k2 k19 a1 a2 s1 s2 0 m0

theorem s_M_findAgainst_54 {z : gk_Z} (K : gk_F tm z me_M_findAgainst 72) {r : Unit} {mem2 : gk_M} {k2 : Int32 → gk_M → Option (Unit × gk_M)} (hk2 : ∀ a1 m0, k2 a1 m0 = some (r, mem2) → gk_G tm z me_M_findAgainst (gk_R tm z none mem2) m0 [(0, .ref 0), (1, .int a1)] [] 2) {k19 : Int32 → Int32 → gk_M → Option (Unit × gk_M)} (hk19 : ∀ a1 a2 m0, k19 a1 a2 m0 = some (r, mem2) → gk_G tm z me_M_findAgainst (gk_R tm z none mem2) m0 [(0, .ref 0), (1, .int a1), (2, .int a2)] [] 19) : ∀ a1 a2 s1 s2 m0, f_M_findAgainst_54 k2 k19 a1 a2 s1 s2 m0 = some (r, mem2) → gk_G tm z me_M_findAgainst (gk_R tm z none mem2) m0 [(0, .ref 0), (1, .int a1), (2, .int a2)] [.int s2, .int s1, .ref 14] 54 := by
  intro a1 a2 s1 s2 m0  h
  unfold f_M_findAgainst_54 at h
  refine gk_iconst (pc := 54) K d_M_findAgainst_54 kc_0 ?_
  exact gk_sub [0, 1, 2] rfl (s_M_findAgainst_55 K hk2 hk19 _ _ _ _ _ _  h)
noncomputable def f_M_findAgainst_19 (k2 : Int32 → gk_M → Option (Unit × gk_M)) : Nat → Int32 → Int32 → gk_M → Option (Unit × gk_M)
  | 0, _, _, _ => none
  | n + 1, a1, a2, m0 =>
    if (m0.1 0 6) ≤ a2 then
      k2 (a1 + 1) m0
    else
      gk_ai m0 14 10 a1 fun v1 =>
      if a2 = a1 then
        f_M_findAgainst_54 k2 (f_M_findAgainst_19 k2 n) a1 a2 a1 v1 m0
      else
        gk_bi (f_M_areAgainst a1 a2 m0) fun v3 m2 =>
        if v3 = 0 then
          f_M_findAgainst_54 k2 (f_M_findAgainst_19 k2 n) a1 a2 a1 v1 m2
        else
          f_M_findAgainst_55 k2 (f_M_findAgainst_19 k2 n) a1 a2 a1 v1 (1 <<< (a2 &&& 31)) m2

theorem s_M_findAgainst_19 {z : gk_Z} (K : gk_F tm z me_M_findAgainst 72) {r : Unit} {mem2 : gk_M} {k2 : Int32 → gk_M → Option (Unit × gk_M)} (hk2 : ∀ a1 m0, k2 a1 m0 = some (r, mem2) → gk_G tm z me_M_findAgainst (gk_R tm z none mem2) m0 [(0, .ref 0), (1, .int a1)] [] 2) : ∀ n a1 a2 m0, f_M_findAgainst_19 k2 n a1 a2 m0 = some (r, mem2) → gk_G tm z me_M_findAgainst (gk_R tm z none mem2) m0 [(0, .ref 0), (1, .int a1), (2, .int a2)] [] 19 := by
  intro n
  induction n with
  | zero => intro a1 a2 m0  h; exact nomatch (show (none : Option _) = some _ from h)
  | succ n ih =>
    intro a1 a2 m0  h
    unfold f_M_findAgainst_19 at h
    refine gk_iload_n (pc := 19) K d_M_findAgainst_19 rfl ?_
    refine gk_aload_n (pc := 20) K d_M_findAgainst_20 rfl ?_
    refine gk_get (pc := 21) K d_M_findAgainst_21 fl_M_106 tm_0 rfl rfl ?_
    refine gk_ic_ge (tgt := 63) (pc := 24) K d_M_findAgainst_24 (by decide) h (fun h => ?_) (fun h => ?_)
    · refine gk_iinc2 (lv2 := [(1, .int (a1 + 1)), (0, .ref 0), (2, .int a2)]) (pc := 63) K d_M_findAgainst_63 rfl kc_1 (by decide) rfl ?_
      refine gk_goto (tgt := 2) (pc := 66) K d_M_findAgainst_66 (by decide) ?_
      exact gk_sub [1, 0] rfl (hk2 _ _  h)
    · refine gk_aload_n (pc := 27) K d_M_findAgainst_27 rfl ?_
      refine gk_get (pc := 28) K d_M_findAgainst_28 fl_M_49 tm_0 rfl rfl ?_
      refine gk_iload_n (pc := 31) K d_M_findAgainst_31 rfl ?_
      refine gk_dup2 (pc := 32) K d_M_findAgainst_32 rfl rfl ?_
      refine gk_iald (pc := 33) K d_M_findAgainst_33 tm_14 h (fun v1 h => ?_)
      refine gk_iload_n (pc := 34) K d_M_findAgainst_34 rfl ?_
      refine gk_iload_n (pc := 35) K d_M_findAgainst_35 rfl ?_
      refine gk_ic_eq (tgt := 54) (pc := 36) K d_M_findAgainst_36 (by decide) h (fun h => ?_) (fun h => ?_)
      · exact gk_sub [0, 1, 2] rfl (s_M_findAgainst_54 K hk2 (fun x0 x1 m  h => ih x0 x1 m  h) _ _ _ _ _  h)
      · refine gk_aload_n (pc := 39) K d_M_findAgainst_39 rfl ?_
        refine gk_iload_n (pc := 40) K d_M_findAgainst_40 rfl ?_
        refine gk_iload_n (pc := 41) K d_M_findAgainst_41 rfl ?_
        obtain ⟨v3, m2, em2, h⟩ := gk_bi_some h
        refine gk_cVi (As := [.int a1, .int a2]) (pc := 42) K d_M_findAgainst_42 mv_M_323 mc_M_areAgainst rfl tm_0 cl_ok10.1 (s_M_areAgainst (gk_FD K)  em2) (by decide) rfl (Nat.le_of_ble_eq_true rfl) ?_
        refine gk_if_eq (tgt := 54) (pc := 45) K d_M_findAgainst_45 (by decide) h (fun h => ?_) (fun h => ?_)
        · exact gk_sub [0, 1, 2] rfl (s_M_findAgainst_54 K hk2 (fun x0 x1 m  h => ih x0 x1 m  h) _ _ _ _ _  h)
        · refine gk_iconst (pc := 48) K d_M_findAgainst_48 kc_1 ?_
          refine gk_iload_n (pc := 49) K d_M_findAgainst_49 rfl ?_
          refine gk_ishl (pc := 50) K d_M_findAgainst_50 ?_
          refine gk_goto (tgt := 55) (pc := 51) K d_M_findAgainst_51 (by decide) ?_
          exact gk_sub [0, 1, 2] rfl (s_M_findAgainst_55 K hk2 (fun x0 x1 m  h => ih x0 x1 m  h) _ _ _ _ _ _  h)
noncomputable def f_M_findAgainst_2  : Nat → Int32 → gk_M → Option (Unit × gk_M)
  | 0, _, _ => none
  | n + 1, a1, m0 =>
    if (m0.1 0 6) ≤ a1 then
      some ((), m0)
    else
      gk_si m0 14 10 a1 0 fun m1 =>
      f_M_findAgainst_19 (f_M_findAgainst_2 n) gk_fv a1 0 m1

theorem s_M_findAgainst_2 {z : gk_Z} (K : gk_F tm z me_M_findAgainst 72) {r : Unit} {mem2 : gk_M} : ∀ n a1 m0, f_M_findAgainst_2 n a1 m0 = some (r, mem2) → gk_G tm z me_M_findAgainst (gk_R tm z none mem2) m0 [(0, .ref 0), (1, .int a1)] [] 2 := by
  intro n
  induction n with
  | zero => intro a1 m0  h; exact nomatch (show (none : Option _) = some _ from h)
  | succ n ih =>
    intro a1 m0  h
    unfold f_M_findAgainst_2 at h
    refine gk_iload_n (pc := 2) K d_M_findAgainst_2 rfl ?_
    refine gk_aload_n (pc := 3) K d_M_findAgainst_3 rfl ?_
    refine gk_get (pc := 4) K d_M_findAgainst_4 fl_M_106 tm_0 rfl rfl ?_
    refine gk_ic_ge (tgt := 69) (pc := 7) K d_M_findAgainst_7 (by decide) h (fun h => ?_) (fun h => ?_)
    · exact gk_vret (pc := 69) K d_M_findAgainst_69 rfl h
    · refine gk_aload_n (pc := 10) K d_M_findAgainst_10 rfl ?_
      refine gk_get (pc := 11) K d_M_findAgainst_11 fl_M_49 tm_0 rfl rfl ?_
      refine gk_iload_n (pc := 14) K d_M_findAgainst_14 rfl ?_
      refine gk_iconst (pc := 15) K d_M_findAgainst_15 kc_0 ?_
      refine gk_iast (pc := 16) K d_M_findAgainst_16 tm_14 h (fun m1 h => ?_)
      refine gk_iconst (pc := 17) K d_M_findAgainst_17 kc_0 ?_
      refine gk_istore_n (lv2 := [(2, .int 0), (0, .ref 0), (1, .int a1)]) (pc := 18) K d_M_findAgainst_18 (by decide) rfl ?_
      exact gk_sub [1, 2, 0] rfl (s_M_findAgainst_19 K (fun x0 m  h => ih x0 m  h) _ _ _ _  h)
noncomputable def f_M_findAgainst   (m0 : gk_M) : Option (Unit × gk_M) :=
  f_M_findAgainst_2 gk_fv 0 m0

theorem s_M_findAgainst_0 {z : gk_Z} (K : gk_F tm z me_M_findAgainst 72) {r : Unit} {mem2 : gk_M} : ∀  m0, f_M_findAgainst  m0 = some (r, mem2) → gk_G tm z me_M_findAgainst (gk_R tm z none mem2) m0 [(0, .ref 0)] [] 0 := by
  intro  m0  h
  unfold f_M_findAgainst at h
  refine gk_iconst (pc := 0) K d_M_findAgainst_0 kc_0 ?_
  refine gk_istore_n (lv2 := [(1, .int 0), (0, .ref 0)]) (pc := 1) K d_M_findAgainst_1 (by decide) rfl ?_
  exact gk_sub [1, 0] rfl (s_M_findAgainst_2 K _ _ _  h)
theorem s_M_findAgainst {l : Launch} {u : gk_U} (hD : gk_D tm u) {m0 mem2 : gk_M} {r : Unit} (h : f_M_findAgainst  m0 = some (r, mem2)) : gk_C tm l u me_M_findAgainst 72 [.ref 0] m0 none mem2 :=
  gk_enter hD mc_M_findAgainst (Nat.le_of_ble_eq_true rfl) rfl (fun z _ _ K => s_M_findAgainst_0 K  _  h)
theorem d_M_isLawfulWithout_0 : decode me_M_isLawfulWithout.2.1 0 = .ok (.iconst 0, 1) := by decide +kernel
theorem d_M_isLawfulWithout_1 : decode me_M_isLawfulWithout.2.1 1 = .ok (.istore_n 2, 1) := by decide +kernel
theorem d_M_isLawfulWithout_2 : decode me_M_isLawfulWithout.2.1 2 = .ok (.iload_n 2, 1) := by decide +kernel
theorem d_M_isLawfulWithout_3 : decode me_M_isLawfulWithout.2.1 3 = .ok (.aload_n 0, 1) := by decide +kernel
theorem d_M_isLawfulWithout_4 : decode me_M_isLawfulWithout.2.1 4 = .ok (.getfield 106, 3) := by decide +kernel
theorem d_M_isLawfulWithout_7 : decode me_M_isLawfulWithout.2.1 7 = .ok (.if_icmp .ge 32, 3) := by decide +kernel
theorem d_M_isLawfulWithout_10 : decode me_M_isLawfulWithout.2.1 10 = .ok (.iload_n 1, 1) := by decide +kernel
theorem d_M_isLawfulWithout_11 : decode me_M_isLawfulWithout.2.1 11 = .ok (.iload_n 2, 1) := by decide +kernel
theorem d_M_isLawfulWithout_12 : decode me_M_isLawfulWithout.2.1 12 = .ok (.ishr, 1) := by decide +kernel
theorem d_M_isLawfulWithout_13 : decode me_M_isLawfulWithout.2.1 13 = .ok (.iconst 1, 1) := by decide +kernel
theorem d_M_isLawfulWithout_14 : decode me_M_isLawfulWithout.2.1 14 = .ok (.iand, 1) := by decide +kernel
theorem d_M_isLawfulWithout_15 : decode me_M_isLawfulWithout.2.1 15 = .ok (.ifCond .ne 18, 3) := by decide +kernel
theorem d_M_isLawfulWithout_18 : decode me_M_isLawfulWithout.2.1 18 = .ok (.aload_n 0, 1) := by decide +kernel
theorem d_M_isLawfulWithout_19 : decode me_M_isLawfulWithout.2.1 19 = .ok (.getfield 49, 3) := by decide +kernel
theorem d_M_isLawfulWithout_22 : decode me_M_isLawfulWithout.2.1 22 = .ok (.iload_n 2, 1) := by decide +kernel
theorem d_M_isLawfulWithout_23 : decode me_M_isLawfulWithout.2.1 23 = .ok (.iaload, 1) := by decide +kernel
theorem d_M_isLawfulWithout_24 : decode me_M_isLawfulWithout.2.1 24 = .ok (.iload_n 1, 1) := by decide +kernel
theorem d_M_isLawfulWithout_25 : decode me_M_isLawfulWithout.2.1 25 = .ok (.iconst (-1), 1) := by decide +kernel
theorem d_M_isLawfulWithout_26 : decode me_M_isLawfulWithout.2.1 26 = .ok (.ixor, 1) := by decide +kernel
theorem d_M_isLawfulWithout_27 : decode me_M_isLawfulWithout.2.1 27 = .ok (.iand, 1) := by decide +kernel
theorem d_M_isLawfulWithout_28 : decode me_M_isLawfulWithout.2.1 28 = .ok (.ifCond .eq 5, 3) := by decide +kernel
theorem d_M_isLawfulWithout_31 : decode me_M_isLawfulWithout.2.1 31 = .ok (.iconst 0, 1) := by decide +kernel
theorem d_M_isLawfulWithout_32 : decode me_M_isLawfulWithout.2.1 32 = .ok (.ireturn, 1) := by decide +kernel
theorem d_M_isLawfulWithout_33 : decode me_M_isLawfulWithout.2.1 33 = .ok (.iinc 2 1, 3) := by decide +kernel
theorem d_M_isLawfulWithout_36 : decode me_M_isLawfulWithout.2.1 36 = .ok (.goto (-34), 3) := by decide +kernel
theorem d_M_isLawfulWithout_39 : decode me_M_isLawfulWithout.2.1 39 = .ok (.iconst 1, 1) := by decide +kernel
theorem d_M_isLawfulWithout_40 : decode me_M_isLawfulWithout.2.1 40 = .ok (.ireturn, 1) := by decide +kernel
noncomputable def f_M_isLawfulWithout_2  : Nat → Int32 → Int32 → gk_M → Option (Int32 × gk_M)
  | 0, _, _, _ => none
  | n + 1, a1, a2, m0 =>
    if (m0.1 0 6) ≤ a2 then
      some (1, m0)
    else
      if ¬ ((a1 >>> (a2 &&& 31)) &&& 1) = 0 then
        f_M_isLawfulWithout_2 n a1 (a2 + 1) m0
      else
        gk_ai m0 14 10 a2 fun v1 =>
        if (v1 &&& (a1 ^^^ (-1))) = 0 then
          f_M_isLawfulWithout_2 n a1 (a2 + 1) m0
        else
          some (0, m0)

theorem s_M_isLawfulWithout_2 {z : gk_Z} (K : gk_F tm z me_M_isLawfulWithout 1) {r : Int32} {mem2 : gk_M} : ∀ n a1 a2 m0, f_M_isLawfulWithout_2 n a1 a2 m0 = some (r, mem2) → gk_G tm z me_M_isLawfulWithout (gk_R tm z (some (.int r)) mem2) m0 [(0, .ref 0), (1, .int a1), (2, .int a2)] [] 2 := by
  intro n
  induction n with
  | zero => intro a1 a2 m0  h; exact nomatch (show (none : Option _) = some _ from h)
  | succ n ih =>
    intro a1 a2 m0  h
    unfold f_M_isLawfulWithout_2 at h
    refine gk_iload_n (pc := 2) K d_M_isLawfulWithout_2 rfl ?_
    refine gk_aload_n (pc := 3) K d_M_isLawfulWithout_3 rfl ?_
    refine gk_get (pc := 4) K d_M_isLawfulWithout_4 fl_M_106 tm_0 rfl rfl ?_
    refine gk_ic_ge (tgt := 39) (pc := 7) K d_M_isLawfulWithout_7 (by decide) h (fun h => ?_) (fun h => ?_)
    · refine gk_iconst (pc := 39) K d_M_isLawfulWithout_39 kc_1 ?_
      exact gk_zretc (pc := 40) K d_M_isLawfulWithout_40 rfl (Or.inr rfl) h
    · refine gk_iload_n (pc := 10) K d_M_isLawfulWithout_10 rfl ?_
      refine gk_iload_n (pc := 11) K d_M_isLawfulWithout_11 rfl ?_
      refine gk_ishr (pc := 12) K d_M_isLawfulWithout_12 ?_
      refine gk_iconst (pc := 13) K d_M_isLawfulWithout_13 kc_1 ?_
      refine gk_iand (pc := 14) K d_M_isLawfulWithout_14 ?_
      refine gk_if_ne (tgt := 33) (pc := 15) K d_M_isLawfulWithout_15 (by decide) h (fun h => ?_) (fun h => ?_)
      · refine gk_iinc2 (lv2 := [(2, .int (a2 + 1)), (0, .ref 0), (1, .int a1)]) (pc := 33) K d_M_isLawfulWithout_33 rfl kc_1 (by decide) rfl ?_
        refine gk_goto (tgt := 2) (pc := 36) K d_M_isLawfulWithout_36 (by decide) ?_
        exact gk_sub [1, 2, 0] rfl (ih _ _ _  h)
      · refine gk_aload_n (pc := 18) K d_M_isLawfulWithout_18 rfl ?_
        refine gk_get (pc := 19) K d_M_isLawfulWithout_19 fl_M_49 tm_0 rfl rfl ?_
        refine gk_iload_n (pc := 22) K d_M_isLawfulWithout_22 rfl ?_
        refine gk_iald (pc := 23) K d_M_isLawfulWithout_23 tm_14 h (fun v1 h => ?_)
        refine gk_iload_n (pc := 24) K d_M_isLawfulWithout_24 rfl ?_
        refine gk_iconst (pc := 25) K d_M_isLawfulWithout_25 kc_m1 ?_
        refine gk_ixor (pc := 26) K d_M_isLawfulWithout_26 ?_
        refine gk_iand (pc := 27) K d_M_isLawfulWithout_27 ?_
        refine gk_if_eq (tgt := 33) (pc := 28) K d_M_isLawfulWithout_28 (by decide) h (fun h => ?_) (fun h => ?_)
        · refine gk_iinc2 (lv2 := [(2, .int (a2 + 1)), (0, .ref 0), (1, .int a1)]) (pc := 33) K d_M_isLawfulWithout_33 rfl kc_1 (by decide) rfl ?_
          refine gk_goto (tgt := 2) (pc := 36) K d_M_isLawfulWithout_36 (by decide) ?_
          exact gk_sub [1, 2, 0] rfl (ih _ _ _  h)
        · refine gk_iconst (pc := 31) K d_M_isLawfulWithout_31 kc_0 ?_
          exact gk_zretc (pc := 32) K d_M_isLawfulWithout_32 rfl (Or.inl rfl) h
noncomputable def f_M_isLawfulWithout  (a1 : Int32) (m0 : gk_M) : Option (Int32 × gk_M) :=
  f_M_isLawfulWithout_2 gk_fv a1 0 m0

theorem s_M_isLawfulWithout_0 {z : gk_Z} (K : gk_F tm z me_M_isLawfulWithout 1) {r : Int32} {mem2 : gk_M} : ∀ a1 m0, f_M_isLawfulWithout a1 m0 = some (r, mem2) → gk_G tm z me_M_isLawfulWithout (gk_R tm z (some (.int r)) mem2) m0 [(0, .ref 0), (1, .int a1)] [] 0 := by
  intro a1 m0  h
  unfold f_M_isLawfulWithout at h
  refine gk_iconst (pc := 0) K d_M_isLawfulWithout_0 kc_0 ?_
  refine gk_istore_n (lv2 := [(2, .int 0), (0, .ref 0), (1, .int a1)]) (pc := 1) K d_M_isLawfulWithout_1 (by decide) rfl ?_
  exact gk_sub [1, 2, 0] rfl (s_M_isLawfulWithout_2 K _ _ _ _  h)
theorem s_M_isLawfulWithout {l : Launch} {u : gk_U} (hD : gk_D tm u) {a1 : Int32} {m0 mem2 : gk_M} {r : Int32} (h : f_M_isLawfulWithout a1 m0 = some (r, mem2)) : gk_C tm l u me_M_isLawfulWithout 1 [.ref 0, .int a1] m0 (some (.int r)) mem2 :=
  gk_enter hD mc_M_isLawfulWithout (Nat.le_of_ble_eq_true rfl) rfl (fun z _ _ K => s_M_isLawfulWithout_0 K _ _  h)
theorem d_M_priceOf_0 : decode me_M_priceOf.2.1 0 = .ok (.iconst 0, 1) := by decide +kernel
theorem d_M_priceOf_1 : decode me_M_priceOf.2.1 1 = .ok (.istore_n 3, 1) := by decide +kernel
theorem d_M_priceOf_2 : decode me_M_priceOf.2.1 2 = .ok (.iconst 0, 1) := by decide +kernel
theorem d_M_priceOf_3 : decode me_M_priceOf.2.1 3 = .ok (.istore 4, 2) := by decide +kernel
theorem d_M_priceOf_5 : decode me_M_priceOf.2.1 5 = .ok (.iload 4, 2) := by decide +kernel
theorem d_M_priceOf_7 : decode me_M_priceOf.2.1 7 = .ok (.aload_n 0, 1) := by decide +kernel
theorem d_M_priceOf_8 : decode me_M_priceOf.2.1 8 = .ok (.getfield 106, 3) := by decide +kernel
theorem d_M_priceOf_11 : decode me_M_priceOf.2.1 11 = .ok (.if_icmp .ge 43, 3) := by decide +kernel
theorem d_M_priceOf_14 : decode me_M_priceOf.2.1 14 = .ok (.iload_n 3, 1) := by decide +kernel
theorem d_M_priceOf_15 : decode me_M_priceOf.2.1 15 = .ok (.iload_n 1, 1) := by decide +kernel
theorem d_M_priceOf_16 : decode me_M_priceOf.2.1 16 = .ok (.iload 4, 2) := by decide +kernel
theorem d_M_priceOf_18 : decode me_M_priceOf.2.1 18 = .ok (.ishr, 1) := by decide +kernel
theorem d_M_priceOf_19 : decode me_M_priceOf.2.1 19 = .ok (.iconst 1, 1) := by decide +kernel
theorem d_M_priceOf_20 : decode me_M_priceOf.2.1 20 = .ok (.iand, 1) := by decide +kernel
theorem d_M_priceOf_21 : decode me_M_priceOf.2.1 21 = .ok (.ifCond .ne 7, 3) := by decide +kernel
theorem d_M_priceOf_24 : decode me_M_priceOf.2.1 24 = .ok (.iconst 0, 1) := by decide +kernel
theorem d_M_priceOf_25 : decode me_M_priceOf.2.1 25 = .ok (.goto 21, 3) := by decide +kernel
theorem d_M_priceOf_28 : decode me_M_priceOf.2.1 28 = .ok (.iload_n 2, 1) := by decide +kernel
theorem d_M_priceOf_29 : decode me_M_priceOf.2.1 29 = .ok (.ifCond .eq 7, 3) := by decide +kernel
theorem d_M_priceOf_32 : decode me_M_priceOf.2.1 32 = .ok (.iconst 1, 1) := by decide +kernel
theorem d_M_priceOf_33 : decode me_M_priceOf.2.1 33 = .ok (.goto 13, 3) := by decide +kernel
theorem d_M_priceOf_36 : decode me_M_priceOf.2.1 36 = .ok (.aload_n 0, 1) := by decide +kernel
theorem d_M_priceOf_37 : decode me_M_priceOf.2.1 37 = .ok (.getfield 9, 3) := by decide +kernel
theorem d_M_priceOf_40 : decode me_M_priceOf.2.1 40 = .ok (.bipush 10, 2) := by decide +kernel
theorem d_M_priceOf_42 : decode me_M_priceOf.2.1 42 = .ok (.iload 4, 2) := by decide +kernel
theorem d_M_priceOf_44 : decode me_M_priceOf.2.1 44 = .ok (.iadd, 1) := by decide +kernel
theorem d_M_priceOf_45 : decode me_M_priceOf.2.1 45 = .ok (.iaload, 1) := by decide +kernel
theorem d_M_priceOf_46 : decode me_M_priceOf.2.1 46 = .ok (.iadd, 1) := by decide +kernel
theorem d_M_priceOf_47 : decode me_M_priceOf.2.1 47 = .ok (.istore_n 3, 1) := by decide +kernel
theorem d_M_priceOf_48 : decode me_M_priceOf.2.1 48 = .ok (.iinc 4 1, 3) := by decide +kernel
theorem d_M_priceOf_51 : decode me_M_priceOf.2.1 51 = .ok (.goto (-46), 3) := by decide +kernel
theorem d_M_priceOf_54 : decode me_M_priceOf.2.1 54 = .ok (.iload_n 3, 1) := by decide +kernel
theorem d_M_priceOf_55 : decode me_M_priceOf.2.1 55 = .ok (.ireturn, 1) := by decide +kernel
noncomputable def f_M_priceOf_46 (k5 : Int32 → Int32 → Int32 → Int32 → gk_M → Option (Int32 × gk_M)) (a1 : Int32) (a2 : Int32) (a4 : Int32) (s0 : Int32) (s1 : Int32) (m0 : gk_M) : Option (Int32 × gk_M) :=
  gk_let (s0 + s1) fun v1 =>
  k5 a1 a2 v1 (a4 + 1) m0

theorem s_M_priceOf_46 {z : gk_Z} (K : gk_F tm z me_M_priceOf 1) {r : Int32} {mem2 : gk_M} {k5 : Int32 → Int32 → Int32 → Int32 → gk_M → Option (Int32 × gk_M)} (hk5 : ∀ a1 a2 a3 a4 m0, k5 a1 a2 a3 a4 m0 = some (r, mem2) → gk_G tm z me_M_priceOf (gk_R tm z (some (.int r)) mem2) m0 [(0, .ref 0), (1, .int a1), (2, .int a2), (3, .int a3), (4, .int a4)] [] 5) : ∀ a1 a2 a4 s0 s1 m0, f_M_priceOf_46 k5 a1 a2 a4 s0 s1 m0 = some (r, mem2) → gk_G tm z me_M_priceOf (gk_R tm z (some (.int r)) mem2) m0 [(0, .ref 0), (1, .int a1), (2, .int a2), (4, .int a4)] [.int s1, .int s0] 46 := by
  intro a1 a2 a4 s0 s1 m0  h
  unfold f_M_priceOf_46 at h
  refine gk_iadd (pc := 46) K d_M_priceOf_46 ?_
  refine gk_topi h (fun v1 h => ?_)
  refine gk_istore_n (lv2 := [(3, .int v1), (0, .ref 0), (1, .int a1), (2, .int a2), (4, .int a4)]) (pc := 47) K d_M_priceOf_47 (by decide) rfl ?_
  refine gk_iinc2 (lv2 := [(4, .int (a4 + 1)), (3, .int v1), (0, .ref 0), (1, .int a1), (2, .int a2)]) (pc := 48) K d_M_priceOf_48 rfl kc_1 (by decide) rfl ?_
  refine gk_goto (tgt := 5) (pc := 51) K d_M_priceOf_51 (by decide) ?_
  exact gk_sub [2, 3, 4, 1, 0] rfl (hk5 _ _ _ _ _  h)
noncomputable def f_M_priceOf_5  : Nat → Int32 → Int32 → Int32 → Int32 → gk_M → Option (Int32 × gk_M)
  | 0, _, _, _, _, _ => none
  | n + 1, a1, a2, a3, a4, m0 =>
    if (m0.1 0 6) ≤ a4 then
      some (a3, m0)
    else
      if ¬ ((a1 >>> (a4 &&& 31)) &&& 1) = 0 then
        if a2 = 0 then
          gk_ai m0 1 30 (10 + a4) fun v1 =>
          f_M_priceOf_46 (f_M_priceOf_5 n) a1 a2 a4 a3 v1 m0
        else
          f_M_priceOf_46 (f_M_priceOf_5 n) a1 a2 a4 a3 1 m0
      else
        f_M_priceOf_46 (f_M_priceOf_5 n) a1 a2 a4 a3 0 m0

theorem s_M_priceOf_5 {z : gk_Z} (K : gk_F tm z me_M_priceOf 1) {r : Int32} {mem2 : gk_M} : ∀ n a1 a2 a3 a4 m0, f_M_priceOf_5 n a1 a2 a3 a4 m0 = some (r, mem2) → gk_G tm z me_M_priceOf (gk_R tm z (some (.int r)) mem2) m0 [(0, .ref 0), (1, .int a1), (2, .int a2), (3, .int a3), (4, .int a4)] [] 5 := by
  intro n
  induction n with
  | zero => intro a1 a2 a3 a4 m0  h; exact nomatch (show (none : Option _) = some _ from h)
  | succ n ih =>
    intro a1 a2 a3 a4 m0  h
    unfold f_M_priceOf_5 at h
    refine gk_iload (pc := 5) K d_M_priceOf_5 rfl ?_
    refine gk_aload_n (pc := 7) K d_M_priceOf_7 rfl ?_
    refine gk_get (pc := 8) K d_M_priceOf_8 fl_M_106 tm_0 rfl rfl ?_
    refine gk_ic_ge (tgt := 54) (pc := 11) K d_M_priceOf_11 (by decide) h (fun h => ?_) (fun h => ?_)
    · refine gk_iload_n (pc := 54) K d_M_priceOf_54 rfl ?_
      exact gk_iret (pc := 55) K d_M_priceOf_55 rfl h
    · refine gk_iload_n (pc := 14) K d_M_priceOf_14 rfl ?_
      refine gk_iload_n (pc := 15) K d_M_priceOf_15 rfl ?_
      refine gk_iload (pc := 16) K d_M_priceOf_16 rfl ?_
      refine gk_ishr (pc := 18) K d_M_priceOf_18 ?_
      refine gk_iconst (pc := 19) K d_M_priceOf_19 kc_1 ?_
      refine gk_iand (pc := 20) K d_M_priceOf_20 ?_
      refine gk_if_ne (tgt := 28) (pc := 21) K d_M_priceOf_21 (by decide) h (fun h => ?_) (fun h => ?_)
      · refine gk_iload_n (pc := 28) K d_M_priceOf_28 rfl ?_
        refine gk_if_eq (tgt := 36) (pc := 29) K d_M_priceOf_29 (by decide) h (fun h => ?_) (fun h => ?_)
        · refine gk_aload_n (pc := 36) K d_M_priceOf_36 rfl ?_
          refine gk_get (pc := 37) K d_M_priceOf_37 fl_M_9 tm_0 rfl rfl ?_
          refine gk_bipush (pc := 40) K d_M_priceOf_40 kb_10 ?_
          refine gk_iload (pc := 42) K d_M_priceOf_42 rfl ?_
          refine gk_iadd (pc := 44) K d_M_priceOf_44 ?_
          refine gk_iald (pc := 45) K d_M_priceOf_45 tm_1 h (fun v1 h => ?_)
          exact gk_sub [0, 1, 2, 4] rfl (s_M_priceOf_46 K (fun x0 x1 x2 x3 m  h => ih x0 x1 x2 x3 m  h) _ _ _ _ _ _  h)
        · refine gk_iconst (pc := 32) K d_M_priceOf_32 kc_1 ?_
          refine gk_goto (tgt := 46) (pc := 33) K d_M_priceOf_33 (by decide) ?_
          exact gk_sub [0, 1, 2, 4] rfl (s_M_priceOf_46 K (fun x0 x1 x2 x3 m  h => ih x0 x1 x2 x3 m  h) _ _ _ _ _ _  h)
      · refine gk_iconst (pc := 24) K d_M_priceOf_24 kc_0 ?_
        refine gk_goto (tgt := 46) (pc := 25) K d_M_priceOf_25 (by decide) ?_
        exact gk_sub [0, 1, 2, 4] rfl (s_M_priceOf_46 K (fun x0 x1 x2 x3 m  h => ih x0 x1 x2 x3 m  h) _ _ _ _ _ _  h)
noncomputable def f_M_priceOf  (a1 : Int32) (a2 : Int32) (m0 : gk_M) : Option (Int32 × gk_M) :=
  f_M_priceOf_5 gk_fv a1 a2 0 0 m0

theorem s_M_priceOf_0 {z : gk_Z} (K : gk_F tm z me_M_priceOf 1) {r : Int32} {mem2 : gk_M} : ∀ a1 a2 m0, f_M_priceOf a1 a2 m0 = some (r, mem2) → gk_G tm z me_M_priceOf (gk_R tm z (some (.int r)) mem2) m0 [(0, .ref 0), (1, .int a1), (2, .int a2)] [] 0 := by
  intro a1 a2 m0  h
  unfold f_M_priceOf at h
  refine gk_iconst (pc := 0) K d_M_priceOf_0 kc_0 ?_
  refine gk_istore_n (lv2 := [(3, .int 0), (0, .ref 0), (1, .int a1), (2, .int a2)]) (pc := 1) K d_M_priceOf_1 (by decide) rfl ?_
  refine gk_iconst (pc := 2) K d_M_priceOf_2 kc_0 ?_
  refine gk_istore (lv2 := [(4, .int 0), (3, .int 0), (0, .ref 0), (1, .int a1), (2, .int a2)]) (pc := 3) K d_M_priceOf_3 (by decide) rfl ?_
  exact gk_sub [2, 3, 4, 1, 0] rfl (s_M_priceOf_5 K _ _ _ _ _ _  h)
theorem s_M_priceOf {l : Launch} {u : gk_U} (hD : gk_D tm u) {a1 : Int32} {a2 : Int32} {m0 mem2 : gk_M} {r : Int32} (h : f_M_priceOf a1 a2 m0 = some (r, mem2)) : gk_C tm l u me_M_priceOf 1 [.ref 0, .int a1, .int a2] m0 (some (.int r)) mem2 :=
  gk_enter hD mc_M_priceOf (Nat.le_of_ble_eq_true rfl) rfl (fun z _ _ K => s_M_priceOf_0 K _ _ _  h)
theorem d_M_leastSet_0 : decode me_M_leastSet.2.1 0 = .ok (.aload_n 0, 1) := by decide +kernel
theorem d_M_leastSet_1 : decode me_M_leastSet.2.1 1 = .ok (.invokevirtual 326, 3) := by decide +kernel
theorem d_M_leastSet_4 : decode me_M_leastSet.2.1 4 = .ok (.iconst (-1), 1) := by decide +kernel
theorem d_M_leastSet_5 : decode me_M_leastSet.2.1 5 = .ok (.istore_n 2, 1) := by decide +kernel
theorem d_M_leastSet_6 : decode me_M_leastSet.2.1 6 = .ok (.iconst 0, 1) := by decide +kernel
theorem d_M_leastSet_7 : decode me_M_leastSet.2.1 7 = .ok (.istore_n 3, 1) := by decide +kernel
theorem d_M_leastSet_8 : decode me_M_leastSet.2.1 8 = .ok (.iload_n 3, 1) := by decide +kernel
theorem d_M_leastSet_9 : decode me_M_leastSet.2.1 9 = .ok (.iconst 1, 1) := by decide +kernel
theorem d_M_leastSet_10 : decode me_M_leastSet.2.1 10 = .ok (.aload_n 0, 1) := by decide +kernel
theorem d_M_leastSet_11 : decode me_M_leastSet.2.1 11 = .ok (.getfield 106, 3) := by decide +kernel
theorem d_M_leastSet_14 : decode me_M_leastSet.2.1 14 = .ok (.ishl, 1) := by decide +kernel
theorem d_M_leastSet_15 : decode me_M_leastSet.2.1 15 = .ok (.if_icmp .ge 38, 3) := by decide +kernel
theorem d_M_leastSet_18 : decode me_M_leastSet.2.1 18 = .ok (.aload_n 0, 1) := by decide +kernel
theorem d_M_leastSet_19 : decode me_M_leastSet.2.1 19 = .ok (.iload_n 3, 1) := by decide +kernel
theorem d_M_leastSet_20 : decode me_M_leastSet.2.1 20 = .ok (.invokevirtual 329, 3) := by decide +kernel
theorem d_M_leastSet_23 : decode me_M_leastSet.2.1 23 = .ok (.ifCond .eq 24, 3) := by decide +kernel
theorem d_M_leastSet_26 : decode me_M_leastSet.2.1 26 = .ok (.iload_n 2, 1) := by decide +kernel
theorem d_M_leastSet_27 : decode me_M_leastSet.2.1 27 = .ok (.ifCond .lt 18, 3) := by decide +kernel
theorem d_M_leastSet_30 : decode me_M_leastSet.2.1 30 = .ok (.aload_n 0, 1) := by decide +kernel
theorem d_M_leastSet_31 : decode me_M_leastSet.2.1 31 = .ok (.iload_n 3, 1) := by decide +kernel
theorem d_M_leastSet_32 : decode me_M_leastSet.2.1 32 = .ok (.iload_n 1, 1) := by decide +kernel
theorem d_M_leastSet_33 : decode me_M_leastSet.2.1 33 = .ok (.invokevirtual 332, 3) := by decide +kernel
theorem d_M_leastSet_36 : decode me_M_leastSet.2.1 36 = .ok (.aload_n 0, 1) := by decide +kernel
theorem d_M_leastSet_37 : decode me_M_leastSet.2.1 37 = .ok (.iload_n 2, 1) := by decide +kernel
theorem d_M_leastSet_38 : decode me_M_leastSet.2.1 38 = .ok (.iload_n 1, 1) := by decide +kernel
theorem d_M_leastSet_39 : decode me_M_leastSet.2.1 39 = .ok (.invokevirtual 332, 3) := by decide +kernel
theorem d_M_leastSet_42 : decode me_M_leastSet.2.1 42 = .ok (.if_icmp .ge 5, 3) := by decide +kernel
theorem d_M_leastSet_45 : decode me_M_leastSet.2.1 45 = .ok (.iload_n 3, 1) := by decide +kernel
theorem d_M_leastSet_46 : decode me_M_leastSet.2.1 46 = .ok (.istore_n 2, 1) := by decide +kernel
theorem d_M_leastSet_47 : decode me_M_leastSet.2.1 47 = .ok (.iinc 3 1, 3) := by decide +kernel
theorem d_M_leastSet_50 : decode me_M_leastSet.2.1 50 = .ok (.goto (-42), 3) := by decide +kernel
theorem d_M_leastSet_53 : decode me_M_leastSet.2.1 53 = .ok (.iload_n 2, 1) := by decide +kernel
theorem d_M_leastSet_54 : decode me_M_leastSet.2.1 54 = .ok (.ireturn, 1) := by decide +kernel
noncomputable def f_M_leastSet_45 (k8 : Int32 → Int32 → Int32 → gk_M → Option (Int32 × gk_M)) (a1 : Int32) (a3 : Int32) (m0 : gk_M) : Option (Int32 × gk_M) :=
  k8 a1 a3 (a3 + 1) m0

theorem s_M_leastSet_45 {z : gk_Z} (K : gk_F tm z me_M_leastSet 73) {r : Int32} {mem2 : gk_M} {k8 : Int32 → Int32 → Int32 → gk_M → Option (Int32 × gk_M)} (hk8 : ∀ a1 a2 a3 m0, k8 a1 a2 a3 m0 = some (r, mem2) → gk_G tm z me_M_leastSet (gk_R tm z (some (.int r)) mem2) m0 [(0, .ref 0), (1, .int a1), (2, .int a2), (3, .int a3)] [] 8) : ∀ a1 a3 m0, f_M_leastSet_45 k8 a1 a3 m0 = some (r, mem2) → gk_G tm z me_M_leastSet (gk_R tm z (some (.int r)) mem2) m0 [(0, .ref 0), (1, .int a1), (3, .int a3)] [] 45 := by
  intro a1 a3 m0  h
  unfold f_M_leastSet_45 at h
  refine gk_iload_n (pc := 45) K d_M_leastSet_45 rfl ?_
  refine gk_istore_n (lv2 := [(2, .int a3), (0, .ref 0), (1, .int a1), (3, .int a3)]) (pc := 46) K d_M_leastSet_46 (by decide) rfl ?_
  refine gk_iinc2 (lv2 := [(3, .int (a3 + 1)), (2, .int a3), (0, .ref 0), (1, .int a1)]) (pc := 47) K d_M_leastSet_47 rfl kc_1 (by decide) rfl ?_
  refine gk_goto (tgt := 8) (pc := 50) K d_M_leastSet_50 (by decide) ?_
  exact gk_sub [2, 3, 1, 0] rfl (hk8 _ _ _ _  h)
noncomputable def f_M_leastSet_8  : Nat → Int32 → Int32 → Int32 → gk_M → Option (Int32 × gk_M)
  | 0, _, _, _, _ => none
  | n + 1, a1, a2, a3, m0 =>
    if (1 <<< ((m0.1 0 6) &&& 31)) ≤ a3 then
      some (a2, m0)
    else
      gk_bi (f_M_isLawfulWithout a3 m0) fun v2 m1 =>
      if v2 = 0 then
        f_M_leastSet_8 n a1 a2 (a3 + 1) m1
      else
        if a2 < 0 then
          f_M_leastSet_45 (f_M_leastSet_8 n) a1 a3 m1
        else
          gk_bi (f_M_priceOf a3 a1 m1) fun v4 m3 =>
          gk_bi (f_M_priceOf a2 a1 m3) fun v6 m5 =>
          if v6 ≤ v4 then
            f_M_leastSet_8 n a1 a2 (a3 + 1) m5
          else
            f_M_leastSet_45 (f_M_leastSet_8 n) a1 a3 m5

theorem s_M_leastSet_8 {z : gk_Z} (K : gk_F tm z me_M_leastSet 73) {r : Int32} {mem2 : gk_M} : ∀ n a1 a2 a3 m0, f_M_leastSet_8 n a1 a2 a3 m0 = some (r, mem2) → gk_G tm z me_M_leastSet (gk_R tm z (some (.int r)) mem2) m0 [(0, .ref 0), (1, .int a1), (2, .int a2), (3, .int a3)] [] 8 := by
  intro n
  induction n with
  | zero => intro a1 a2 a3 m0  h; exact nomatch (show (none : Option _) = some _ from h)
  | succ n ih =>
    intro a1 a2 a3 m0  h
    unfold f_M_leastSet_8 at h
    refine gk_iload_n (pc := 8) K d_M_leastSet_8 rfl ?_
    refine gk_iconst (pc := 9) K d_M_leastSet_9 kc_1 ?_
    refine gk_aload_n (pc := 10) K d_M_leastSet_10 rfl ?_
    refine gk_get (pc := 11) K d_M_leastSet_11 fl_M_106 tm_0 rfl rfl ?_
    refine gk_ishl (pc := 14) K d_M_leastSet_14 ?_
    refine gk_ic_ge (tgt := 53) (pc := 15) K d_M_leastSet_15 (by decide) h (fun h => ?_) (fun h => ?_)
    · refine gk_iload_n (pc := 53) K d_M_leastSet_53 rfl ?_
      exact gk_iret (pc := 54) K d_M_leastSet_54 rfl h
    · refine gk_aload_n (pc := 18) K d_M_leastSet_18 rfl ?_
      refine gk_iload_n (pc := 19) K d_M_leastSet_19 rfl ?_
      obtain ⟨v2, m1, em1, h⟩ := gk_bi_some h
      refine gk_cVi (As := [.int a3]) (pc := 20) K d_M_leastSet_20 mv_M_329 mc_M_isLawfulWithout rfl tm_0 cl_ok10.1 (s_M_isLawfulWithout (gk_FD K)  em1) (by decide) rfl (Nat.le_of_ble_eq_true rfl) ?_
      refine gk_if_eq (tgt := 47) (pc := 23) K d_M_leastSet_23 (by decide) h (fun h => ?_) (fun h => ?_)
      · refine gk_iinc2 (lv2 := [(3, .int (a3 + 1)), (0, .ref 0), (1, .int a1), (2, .int a2)]) (pc := 47) K d_M_leastSet_47 rfl kc_1 (by decide) rfl ?_
        refine gk_goto (tgt := 8) (pc := 50) K d_M_leastSet_50 (by decide) ?_
        exact gk_sub [1, 2, 3, 0] rfl (ih _ _ _ _  h)
      · refine gk_iload_n (pc := 26) K d_M_leastSet_26 rfl ?_
        refine gk_if_lt (tgt := 45) (pc := 27) K d_M_leastSet_27 (by decide) h (fun h => ?_) (fun h => ?_)
        · exact gk_sub [0, 1, 3] rfl (s_M_leastSet_45 K (fun x0 x1 x2 m  h => ih x0 x1 x2 m  h) _ _ _  h)
        · refine gk_aload_n (pc := 30) K d_M_leastSet_30 rfl ?_
          refine gk_iload_n (pc := 31) K d_M_leastSet_31 rfl ?_
          refine gk_iload_n (pc := 32) K d_M_leastSet_32 rfl ?_
          obtain ⟨v4, m3, em3, h⟩ := gk_bi_some h
          refine gk_cVi (As := [.int a3, .int a1]) (pc := 33) K d_M_leastSet_33 mv_M_332 mc_M_priceOf rfl tm_0 cl_ok10.1 (s_M_priceOf (gk_FD K)  em3) (by decide) rfl (Nat.le_of_ble_eq_true rfl) ?_
          refine gk_aload_n (pc := 36) K d_M_leastSet_36 rfl ?_
          refine gk_iload_n (pc := 37) K d_M_leastSet_37 rfl ?_
          refine gk_iload_n (pc := 38) K d_M_leastSet_38 rfl ?_
          obtain ⟨v6, m5, em5, h⟩ := gk_bi_some h
          refine gk_cVi (As := [.int a2, .int a1]) (pc := 39) K d_M_leastSet_39 mv_M_332 mc_M_priceOf rfl tm_0 cl_ok10.1 (s_M_priceOf (gk_FD K)  em5) (by decide) rfl (Nat.le_of_ble_eq_true rfl) ?_
          refine gk_ic_ge (tgt := 47) (pc := 42) K d_M_leastSet_42 (by decide) h (fun h => ?_) (fun h => ?_)
          · refine gk_iinc2 (lv2 := [(3, .int (a3 + 1)), (0, .ref 0), (1, .int a1), (2, .int a2)]) (pc := 47) K d_M_leastSet_47 rfl kc_1 (by decide) rfl ?_
            refine gk_goto (tgt := 8) (pc := 50) K d_M_leastSet_50 (by decide) ?_
            exact gk_sub [1, 2, 3, 0] rfl (ih _ _ _ _  h)
          · exact gk_sub [0, 1, 3] rfl (s_M_leastSet_45 K (fun x0 x1 x2 m  h => ih x0 x1 x2 m  h) _ _ _  h)
noncomputable def f_M_leastSet  (a1 : Int32) (m0 : gk_M) : Option (Int32 × gk_M) :=
  gk_bv (f_M_findAgainst  m0) fun m1 =>
  f_M_leastSet_8 gk_fv a1 (-1) 0 m1

theorem s_M_leastSet_0 {z : gk_Z} (K : gk_F tm z me_M_leastSet 73) {r : Int32} {mem2 : gk_M} : ∀ a1 m0, f_M_leastSet a1 m0 = some (r, mem2) → gk_G tm z me_M_leastSet (gk_R tm z (some (.int r)) mem2) m0 [(0, .ref 0), (1, .int a1)] [] 0 := by
  intro a1 m0  h
  unfold f_M_leastSet at h
  refine gk_aload_n (pc := 0) K d_M_leastSet_0 rfl ?_
  obtain ⟨m1, em1, h⟩ := gk_bv_some h
  refine gk_cVv (As := []) (pc := 1) K d_M_leastSet_1 mv_M_326 mc_M_findAgainst rfl tm_0 cl_ok10.1 (s_M_findAgainst (gk_FD K)  em1) (by decide) rfl (Nat.le_of_ble_eq_true rfl) ?_
  refine gk_iconst (pc := 4) K d_M_leastSet_4 kc_m1 ?_
  refine gk_istore_n (lv2 := [(2, .int (-1)), (0, .ref 0), (1, .int a1)]) (pc := 5) K d_M_leastSet_5 (by decide) rfl ?_
  refine gk_iconst (pc := 6) K d_M_leastSet_6 kc_0 ?_
  refine gk_istore_n (lv2 := [(3, .int 0), (2, .int (-1)), (0, .ref 0), (1, .int a1)]) (pc := 7) K d_M_leastSet_7 (by decide) rfl ?_
  exact gk_sub [2, 3, 1, 0] rfl (s_M_leastSet_8 K _ _ _ _ _  h)
theorem s_M_leastSet {l : Launch} {u : gk_U} (hD : gk_D tm u) {a1 : Int32} {m0 mem2 : gk_M} {r : Int32} (h : f_M_leastSet a1 m0 = some (r, mem2)) : gk_C tm l u me_M_leastSet 73 [.ref 0, .int a1] m0 (some (.int r)) mem2 :=
  gk_enter hD mc_M_leastSet (Nat.le_of_ble_eq_true rfl) rfl (fun z _ _ K => s_M_leastSet_0 K _ _  h)
theorem d_M_fewest_0 : decode me_M_fewest.2.1 0 = .ok (.aload_n 0, 1) := by decide +kernel
theorem d_M_fewest_1 : decode me_M_fewest.2.1 1 = .ok (.iconst 1, 1) := by decide +kernel
theorem d_M_fewest_2 : decode me_M_fewest.2.1 2 = .ok (.invokevirtual 336, 3) := by decide +kernel
theorem d_M_fewest_5 : decode me_M_fewest.2.1 5 = .ok (.ireturn, 1) := by decide +kernel
noncomputable def f_M_fewest   (m0 : gk_M) : Option (Int32 × gk_M) :=
  gk_bi (f_M_leastSet 1 m0) fun v2 m1 =>
  some (v2, m1)

theorem s_M_fewest_0 {z : gk_Z} (K : gk_F tm z me_M_fewest 74) {r : Int32} {mem2 : gk_M} : ∀  m0, f_M_fewest  m0 = some (r, mem2) → gk_G tm z me_M_fewest (gk_R tm z (some (.int r)) mem2) m0 [(0, .ref 0)] [] 0 := by
  intro  m0  h
  unfold f_M_fewest at h
  refine gk_aload_n (pc := 0) K d_M_fewest_0 rfl ?_
  refine gk_iconst (pc := 1) K d_M_fewest_1 kc_1 ?_
  obtain ⟨v2, m1, em1, h⟩ := gk_bi_some h
  refine gk_cVi (As := [.int 1]) (pc := 2) K d_M_fewest_2 mv_M_336 mc_M_leastSet rfl tm_0 cl_ok10.1 (s_M_leastSet (gk_FD K)  em1) (by decide) rfl (Nat.le_of_ble_eq_true rfl) ?_
  exact gk_iret (pc := 5) K d_M_fewest_5 rfl h
theorem s_M_fewest {l : Launch} {u : gk_U} (hD : gk_D tm u) {m0 mem2 : gk_M} {r : Int32} (h : f_M_fewest  m0 = some (r, mem2)) : gk_C tm l u me_M_fewest 74 [.ref 0] m0 (some (.int r)) mem2 :=
  gk_enter hD mc_M_fewest (Nat.le_of_ble_eq_true rfl) rfl (fun z _ _ K => s_M_fewest_0 K  _  h)
theorem d_M_cheapest_0 : decode me_M_cheapest.2.1 0 = .ok (.iload_n 1, 1) := by decide +kernel
theorem d_M_cheapest_1 : decode me_M_cheapest.2.1 1 = .ok (.i2l, 1) := by decide +kernel
theorem d_M_cheapest_2 : decode me_M_cheapest.2.1 2 = .ok (.lconst 0, 1) := by decide +kernel
theorem d_M_cheapest_3 : decode me_M_cheapest.2.1 3 = .ok (.lconst 1, 1) := by decide +kernel
theorem d_M_cheapest_4 : decode me_M_cheapest.2.1 4 = .ok (.invokestatic 102, 3) := by decide +kernel
theorem d_M_cheapest_7 : decode me_M_cheapest.2.1 7 = .ok (.ifCond .ne 5, 3) := by decide +kernel
theorem d_M_cheapest_10 : decode me_M_cheapest.2.1 10 = .ok (.iconst (-1), 1) := by decide +kernel
theorem d_M_cheapest_11 : decode me_M_cheapest.2.1 11 = .ok (.ireturn, 1) := by decide +kernel
theorem d_M_cheapest_12 : decode me_M_cheapest.2.1 12 = .ok (.aload_n 0, 1) := by decide +kernel
theorem d_M_cheapest_13 : decode me_M_cheapest.2.1 13 = .ok (.iconst 0, 1) := by decide +kernel
theorem d_M_cheapest_14 : decode me_M_cheapest.2.1 14 = .ok (.invokevirtual 336, 3) := by decide +kernel
theorem d_M_cheapest_17 : decode me_M_cheapest.2.1 17 = .ok (.istore_n 2, 1) := by decide +kernel
theorem d_M_cheapest_18 : decode me_M_cheapest.2.1 18 = .ok (.iload_n 1, 1) := by decide +kernel
theorem d_M_cheapest_19 : decode me_M_cheapest.2.1 19 = .ok (.ifCond .ne 7, 3) := by decide +kernel
theorem d_M_cheapest_22 : decode me_M_cheapest.2.1 22 = .ok (.iload_n 2, 1) := by decide +kernel
theorem d_M_cheapest_23 : decode me_M_cheapest.2.1 23 = .ok (.goto 9, 3) := by decide +kernel
theorem d_M_cheapest_26 : decode me_M_cheapest.2.1 26 = .ok (.aload_n 0, 1) := by decide +kernel
theorem d_M_cheapest_27 : decode me_M_cheapest.2.1 27 = .ok (.iload_n 2, 1) := by decide +kernel
theorem d_M_cheapest_28 : decode me_M_cheapest.2.1 28 = .ok (.iconst 0, 1) := by decide +kernel
theorem d_M_cheapest_29 : decode me_M_cheapest.2.1 29 = .ok (.invokevirtual 332, 3) := by decide +kernel
theorem d_M_cheapest_32 : decode me_M_cheapest.2.1 32 = .ok (.ireturn, 1) := by decide +kernel
noncomputable def f_M_cheapest  (a1 : Int32) (m0 : gk_M) : Option (Int32 × gk_M) :=
  gk_bi (f_M_within a1.toInt64 0 1 m0) fun v2 m1 =>
  if ¬ v2 = 0 then
    gk_bi (f_M_leastSet 0 m1) fun v4 m3 =>
    if ¬ a1 = 0 then
      gk_bi (f_M_priceOf v4 0 m3) fun v6 m5 =>
      some (v6, m5)
    else
      some (v4, m3)
  else
    some ((-1), m1)

theorem s_M_cheapest_0 {z : gk_Z} (K : gk_F tm z me_M_cheapest 74) {r : Int32} {mem2 : gk_M} : ∀ a1 m0, f_M_cheapest a1 m0 = some (r, mem2) → gk_G tm z me_M_cheapest (gk_R tm z (some (.int r)) mem2) m0 [(0, .ref 0), (1, .int a1)] [] 0 := by
  intro a1 m0  h
  unfold f_M_cheapest at h
  refine gk_iload_n (pc := 0) K d_M_cheapest_0 rfl ?_
  refine gk_i2l (pc := 1) K d_M_cheapest_1 ?_
  refine gk_lconst (pc := 2) K d_M_cheapest_2 kl_0 ?_
  refine gk_lconst (pc := 3) K d_M_cheapest_3 kl_1 ?_
  obtain ⟨v2, m1, em1, h⟩ := gk_bi_some h
  refine gk_cSi (As := [.long a1.toInt64, .long 0, .long 1]) (pc := 4) K d_M_cheapest_4 ms_M_102 mc_M_within rfl (s_M_within (gk_FD K)  em1) (by decide) rfl (Nat.le_of_ble_eq_true rfl) ?_
  refine gk_if_ne (tgt := 12) (pc := 7) K d_M_cheapest_7 (by decide) h (fun h => ?_) (fun h => ?_)
  · refine gk_aload_n (pc := 12) K d_M_cheapest_12 rfl ?_
    refine gk_iconst (pc := 13) K d_M_cheapest_13 kc_0 ?_
    obtain ⟨v4, m3, em3, h⟩ := gk_bi_some h
    refine gk_cVi (As := [.int 0]) (pc := 14) K d_M_cheapest_14 mv_M_336 mc_M_leastSet rfl tm_0 cl_ok10.1 (s_M_leastSet (gk_FD K)  em3) (by decide) rfl (Nat.le_of_ble_eq_true rfl) ?_
    refine gk_istore_n (lv2 := [(2, .int v4), (0, .ref 0), (1, .int a1)]) (pc := 17) K d_M_cheapest_17 (by decide) rfl ?_
    refine gk_iload_n (pc := 18) K d_M_cheapest_18 rfl ?_
    refine gk_if_ne (tgt := 26) (pc := 19) K d_M_cheapest_19 (by decide) h (fun h => ?_) (fun h => ?_)
    · refine gk_aload_n (pc := 26) K d_M_cheapest_26 rfl ?_
      refine gk_iload_n (pc := 27) K d_M_cheapest_27 rfl ?_
      refine gk_iconst (pc := 28) K d_M_cheapest_28 kc_0 ?_
      obtain ⟨v6, m5, em5, h⟩ := gk_bi_some h
      refine gk_cVi (As := [.int v4, .int 0]) (pc := 29) K d_M_cheapest_29 mv_M_332 mc_M_priceOf rfl tm_0 cl_ok10.1 (s_M_priceOf (gk_FD K)  em5) (by decide) rfl (Nat.le_of_ble_eq_true rfl) ?_
      exact gk_iret (pc := 32) K d_M_cheapest_32 rfl h
    · refine gk_iload_n (pc := 22) K d_M_cheapest_22 rfl ?_
      refine gk_goto (tgt := 32) (pc := 23) K d_M_cheapest_23 (by decide) ?_
      exact gk_iret (pc := 32) K d_M_cheapest_32 rfl h
  · refine gk_iconst (pc := 10) K d_M_cheapest_10 kc_m1 ?_
    exact gk_iret (pc := 11) K d_M_cheapest_11 rfl h
theorem s_M_cheapest {l : Launch} {u : gk_U} (hD : gk_D tm u) {a1 : Int32} {m0 mem2 : gk_M} {r : Int32} (h : f_M_cheapest a1 m0 = some (r, mem2)) : gk_C tm l u me_M_cheapest 74 [.ref 0, .int a1] m0 (some (.int r)) mem2 :=
  gk_enter hD mc_M_cheapest (Nat.le_of_ble_eq_true rfl) rfl (fun z _ _ K => s_M_cheapest_0 K _ _  h)
theorem d_M_moved_0 : decode me_M_moved.2.1 0 = .ok (.aload_n 0, 1) := by decide +kernel
theorem d_M_moved_1 : decode me_M_moved.2.1 1 = .ok (.iload_n 1, 1) := by decide +kernel
theorem d_M_moved_2 : decode me_M_moved.2.1 2 = .ok (.invokevirtual 142, 3) := by decide +kernel
theorem d_M_moved_5 : decode me_M_moved.2.1 5 = .ok (.ifCond .eq 25, 3) := by decide +kernel
theorem d_M_moved_8 : decode me_M_moved.2.1 8 = .ok (.iload_n 2, 1) := by decide +kernel
theorem d_M_moved_9 : decode me_M_moved.2.1 9 = .ok (.ifCond .lt 21, 3) := by decide +kernel
theorem d_M_moved_12 : decode me_M_moved.2.1 12 = .ok (.iload_n 2, 1) := by decide +kernel
theorem d_M_moved_13 : decode me_M_moved.2.1 13 = .ok (.bipush 100, 2) := by decide +kernel
theorem d_M_moved_15 : decode me_M_moved.2.1 15 = .ok (.idiv, 1) := by decide +kernel
theorem d_M_moved_16 : decode me_M_moved.2.1 16 = .ok (.bipush 18, 2) := by decide +kernel
theorem d_M_moved_18 : decode me_M_moved.2.1 18 = .ok (.if_icmp .gt 12, 3) := by decide +kernel
theorem d_M_moved_21 : decode me_M_moved.2.1 21 = .ok (.iload_n 2, 1) := by decide +kernel
theorem d_M_moved_22 : decode me_M_moved.2.1 22 = .ok (.bipush 100, 2) := by decide +kernel
theorem d_M_moved_24 : decode me_M_moved.2.1 24 = .ok (.irem, 1) := by decide +kernel
theorem d_M_moved_25 : decode me_M_moved.2.1 25 = .ok (.bipush 18, 2) := by decide +kernel
theorem d_M_moved_27 : decode me_M_moved.2.1 27 = .ok (.if_icmp .le 5, 3) := by decide +kernel
theorem d_M_moved_30 : decode me_M_moved.2.1 30 = .ok (.iconst (-1), 1) := by decide +kernel
theorem d_M_moved_31 : decode me_M_moved.2.1 31 = .ok (.ireturn, 1) := by decide +kernel
theorem d_M_moved_32 : decode me_M_moved.2.1 32 = .ok (.aload_n 0, 1) := by decide +kernel
theorem d_M_moved_33 : decode me_M_moved.2.1 33 = .ok (.getfield 22, 3) := by decide +kernel
theorem d_M_moved_36 : decode me_M_moved.2.1 36 = .ok (.iload_n 1, 1) := by decide +kernel
theorem d_M_moved_37 : decode me_M_moved.2.1 37 = .ok (.iaload, 1) := by decide +kernel
theorem d_M_moved_38 : decode me_M_moved.2.1 38 = .ok (.bipush 30, 2) := by decide +kernel
theorem d_M_moved_40 : decode me_M_moved.2.1 40 = .ok (.irem, 1) := by decide +kernel
theorem d_M_moved_41 : decode me_M_moved.2.1 41 = .ok (.iload_n 2, 1) := by decide +kernel
theorem d_M_moved_42 : decode me_M_moved.2.1 42 = .ok (.bipush 100, 2) := by decide +kernel
theorem d_M_moved_44 : decode me_M_moved.2.1 44 = .ok (.idiv, 1) := by decide +kernel
theorem d_M_moved_45 : decode me_M_moved.2.1 45 = .ok (.iadd, 1) := by decide +kernel
theorem d_M_moved_46 : decode me_M_moved.2.1 46 = .ok (.bipush 9, 2) := by decide +kernel
theorem d_M_moved_48 : decode me_M_moved.2.1 48 = .ok (.isub, 1) := by decide +kernel
theorem d_M_moved_49 : decode me_M_moved.2.1 49 = .ok (.istore_n 3, 1) := by decide +kernel
theorem d_M_moved_50 : decode me_M_moved.2.1 50 = .ok (.aload_n 0, 1) := by decide +kernel
theorem d_M_moved_51 : decode me_M_moved.2.1 51 = .ok (.getfield 22, 3) := by decide +kernel
theorem d_M_moved_54 : decode me_M_moved.2.1 54 = .ok (.iload_n 1, 1) := by decide +kernel
theorem d_M_moved_55 : decode me_M_moved.2.1 55 = .ok (.iaload, 1) := by decide +kernel
theorem d_M_moved_56 : decode me_M_moved.2.1 56 = .ok (.bipush 30, 2) := by decide +kernel
theorem d_M_moved_58 : decode me_M_moved.2.1 58 = .ok (.idiv, 1) := by decide +kernel
theorem d_M_moved_59 : decode me_M_moved.2.1 59 = .ok (.iload_n 2, 1) := by decide +kernel
theorem d_M_moved_60 : decode me_M_moved.2.1 60 = .ok (.bipush 100, 2) := by decide +kernel
theorem d_M_moved_62 : decode me_M_moved.2.1 62 = .ok (.irem, 1) := by decide +kernel
theorem d_M_moved_63 : decode me_M_moved.2.1 63 = .ok (.iadd, 1) := by decide +kernel
theorem d_M_moved_64 : decode me_M_moved.2.1 64 = .ok (.bipush 9, 2) := by decide +kernel
theorem d_M_moved_66 : decode me_M_moved.2.1 66 = .ok (.isub, 1) := by decide +kernel
theorem d_M_moved_67 : decode me_M_moved.2.1 67 = .ok (.istore 4, 2) := by decide +kernel
theorem d_M_moved_69 : decode me_M_moved.2.1 69 = .ok (.aload_n 0, 1) := by decide +kernel
theorem d_M_moved_70 : decode me_M_moved.2.1 70 = .ok (.getfield 22, 3) := by decide +kernel
theorem d_M_moved_73 : decode me_M_moved.2.1 73 = .ok (.iload_n 1, 1) := by decide +kernel
theorem d_M_moved_74 : decode me_M_moved.2.1 74 = .ok (.iaload, 1) := by decide +kernel
theorem d_M_moved_75 : decode me_M_moved.2.1 75 = .ok (.istore 5, 2) := by decide +kernel
theorem d_M_moved_77 : decode me_M_moved.2.1 77 = .ok (.iload_n 3, 1) := by decide +kernel
theorem d_M_moved_78 : decode me_M_moved.2.1 78 = .ok (.i2l, 1) := by decide +kernel
theorem d_M_moved_79 : decode me_M_moved.2.1 79 = .ok (.lconst 0, 1) := by decide +kernel
theorem d_M_moved_80 : decode me_M_moved.2.1 80 = .ok (.ldc2_w 315, 3) := by decide +kernel
theorem d_M_moved_83 : decode me_M_moved.2.1 83 = .ok (.invokestatic 102, 3) := by decide +kernel
theorem d_M_moved_86 : decode me_M_moved.2.1 86 = .ok (.ifCond .eq 16, 3) := by decide +kernel
theorem d_M_moved_89 : decode me_M_moved.2.1 89 = .ok (.iload 4, 2) := by decide +kernel
theorem d_M_moved_91 : decode me_M_moved.2.1 91 = .ok (.i2l, 1) := by decide +kernel
theorem d_M_moved_92 : decode me_M_moved.2.1 92 = .ok (.lconst 0, 1) := by decide +kernel
theorem d_M_moved_93 : decode me_M_moved.2.1 93 = .ok (.ldc2_w 315, 3) := by decide +kernel
theorem d_M_moved_96 : decode me_M_moved.2.1 96 = .ok (.invokestatic 102, 3) := by decide +kernel
theorem d_M_moved_99 : decode me_M_moved.2.1 99 = .ok (.ifCond .ne 6, 3) := by decide +kernel
theorem d_M_moved_102 : decode me_M_moved.2.1 102 = .ok (.bipush (-2), 2) := by decide +kernel
theorem d_M_moved_104 : decode me_M_moved.2.1 104 = .ok (.ireturn, 1) := by decide +kernel
theorem d_M_moved_105 : decode me_M_moved.2.1 105 = .ok (.bipush 30, 2) := by decide +kernel
theorem d_M_moved_107 : decode me_M_moved.2.1 107 = .ok (.iload 4, 2) := by decide +kernel
theorem d_M_moved_109 : decode me_M_moved.2.1 109 = .ok (.imul, 1) := by decide +kernel
theorem d_M_moved_110 : decode me_M_moved.2.1 110 = .ok (.iload_n 3, 1) := by decide +kernel
theorem d_M_moved_111 : decode me_M_moved.2.1 111 = .ok (.iadd, 1) := by decide +kernel
theorem d_M_moved_112 : decode me_M_moved.2.1 112 = .ok (.istore 6, 2) := by decide +kernel
theorem d_M_moved_114 : decode me_M_moved.2.1 114 = .ok (.iload 6, 2) := by decide +kernel
theorem d_M_moved_116 : decode me_M_moved.2.1 116 = .ok (.iload 5, 2) := by decide +kernel
theorem d_M_moved_118 : decode me_M_moved.2.1 118 = .ok (.if_icmp .eq 19, 3) := by decide +kernel
theorem d_M_moved_121 : decode me_M_moved.2.1 121 = .ok (.aload_n 0, 1) := by decide +kernel
theorem d_M_moved_122 : decode me_M_moved.2.1 122 = .ok (.iload 6, 2) := by decide +kernel
theorem d_M_moved_124 : decode me_M_moved.2.1 124 = .ok (.aload_n 0, 1) := by decide +kernel
theorem d_M_moved_125 : decode me_M_moved.2.1 125 = .ok (.getfield 106, 3) := by decide +kernel
theorem d_M_moved_128 : decode me_M_moved.2.1 128 = .ok (.invokevirtual 116, 3) := by decide +kernel
theorem d_M_moved_131 : decode me_M_moved.2.1 131 = .ok (.ifCond .ne 6, 3) := by decide +kernel
theorem d_M_moved_134 : decode me_M_moved.2.1 134 = .ok (.bipush (-2), 2) := by decide +kernel
theorem d_M_moved_136 : decode me_M_moved.2.1 136 = .ok (.ireturn, 1) := by decide +kernel
theorem d_M_moved_137 : decode me_M_moved.2.1 137 = .ok (.aload_n 0, 1) := by decide +kernel
theorem d_M_moved_138 : decode me_M_moved.2.1 138 = .ok (.getfield 22, 3) := by decide +kernel
theorem d_M_moved_141 : decode me_M_moved.2.1 141 = .ok (.iload_n 1, 1) := by decide +kernel
theorem d_M_moved_142 : decode me_M_moved.2.1 142 = .ok (.iload 6, 2) := by decide +kernel
theorem d_M_moved_144 : decode me_M_moved.2.1 144 = .ok (.iastore, 1) := by decide +kernel
theorem d_M_moved_145 : decode me_M_moved.2.1 145 = .ok (.aload_n 0, 1) := by decide +kernel
theorem d_M_moved_146 : decode me_M_moved.2.1 146 = .ok (.invokevirtual 297, 3) := by decide +kernel
theorem d_M_moved_149 : decode me_M_moved.2.1 149 = .ok (.istore 7, 2) := by decide +kernel
theorem d_M_moved_151 : decode me_M_moved.2.1 151 = .ok (.aload_n 0, 1) := by decide +kernel
theorem d_M_moved_152 : decode me_M_moved.2.1 152 = .ok (.getfield 22, 3) := by decide +kernel
theorem d_M_moved_155 : decode me_M_moved.2.1 155 = .ok (.iload_n 1, 1) := by decide +kernel
theorem d_M_moved_156 : decode me_M_moved.2.1 156 = .ok (.iload 5, 2) := by decide +kernel
theorem d_M_moved_158 : decode me_M_moved.2.1 158 = .ok (.iastore, 1) := by decide +kernel
theorem d_M_moved_159 : decode me_M_moved.2.1 159 = .ok (.iload 7, 2) := by decide +kernel
theorem d_M_moved_161 : decode me_M_moved.2.1 161 = .ok (.ireturn, 1) := by decide +kernel
noncomputable def f_M_moved_137  (a1 : Int32) (a5 : Int32) (a6 : Int32) (m0 : gk_M) : Option (Int32 × gk_M) :=
  gk_si m0 5 20 a1 a6 fun m1 =>
  gk_bi (f_M_allGuilts  m1) fun v3 m2 =>
  gk_si m2 5 20 a1 a5 fun m4 =>
  some (v3, m4)

theorem s_M_moved_137 {z : gk_Z} (K : gk_F tm z me_M_moved 74) {r : Int32} {mem2 : gk_M} : ∀ a1 a5 a6 m0, f_M_moved_137 a1 a5 a6 m0 = some (r, mem2) → gk_G tm z me_M_moved (gk_R tm z (some (.int r)) mem2) m0 [(0, .ref 0), (1, .int a1), (5, .int a5), (6, .int a6)] [] 137 := by
  intro a1 a5 a6 m0  h
  unfold f_M_moved_137 at h
  refine gk_aload_n (pc := 137) K d_M_moved_137 rfl ?_
  refine gk_get (pc := 138) K d_M_moved_138 fl_M_22 tm_0 rfl rfl ?_
  refine gk_iload_n (pc := 141) K d_M_moved_141 rfl ?_
  refine gk_iload (pc := 142) K d_M_moved_142 rfl ?_
  refine gk_iast (pc := 144) K d_M_moved_144 tm_5 h (fun m1 h => ?_)
  refine gk_aload_n (pc := 145) K d_M_moved_145 rfl ?_
  obtain ⟨v3, m2, em2, h⟩ := gk_bi_some h
  refine gk_cVi (As := []) (pc := 146) K d_M_moved_146 mv_M_297 mc_M_allGuilts rfl tm_0 cl_ok10.1 (s_M_allGuilts (gk_FD K)  em2) (by decide) rfl (Nat.le_of_ble_eq_true rfl) ?_
  refine gk_istore (lv2 := [(7, .int v3), (0, .ref 0), (1, .int a1), (5, .int a5), (6, .int a6)]) (pc := 149) K d_M_moved_149 (by decide) rfl ?_
  refine gk_aload_n (pc := 151) K d_M_moved_151 rfl ?_
  refine gk_get (pc := 152) K d_M_moved_152 fl_M_22 tm_0 rfl rfl ?_
  refine gk_iload_n (pc := 155) K d_M_moved_155 rfl ?_
  refine gk_iload (pc := 156) K d_M_moved_156 rfl ?_
  refine gk_iast (pc := 158) K d_M_moved_158 tm_5 h (fun m4 h => ?_)
  refine gk_iload (pc := 159) K d_M_moved_159 rfl ?_
  exact gk_iret (pc := 161) K d_M_moved_161 rfl h
noncomputable def f_M_moved  (a1 : Int32) (a2 : Int32) (m0 : gk_M) : Option (Int32 × gk_M) :=
  gk_bi (f_M_isTower a1 m0) fun v2 m1 =>
  if v2 = 0 then
    some ((-1), m1)
  else
    if a2 < 0 then
      some ((-1), m1)
    else
      if 18 < (a2 / 100) then
        some ((-1), m1)
      else
        if (gk_rem a2 100) ≤ 18 then
          gk_ai m1 5 20 a1 fun v3 =>
          gk_let (((gk_rem v3 30) + (a2 / 100)) - 9) fun v4 =>
          gk_ai m1 5 20 a1 fun v5 =>
          gk_let (((v5 / 30) + (gk_rem a2 100)) - 9) fun v6 =>
          gk_ai m1 5 20 a1 fun v7 =>
          gk_bi (f_M_within v4.toInt64 0 29 m1) fun v9 m8 =>
          if v9 = 0 then
            some ((-2), m8)
          else
            gk_bi (f_M_within v6.toInt64 0 29 m8) fun v11 m10 =>
            if ¬ v11 = 0 then
              gk_let ((30 * v6) + v4) fun v12 =>
              if v12 = v7 then
                f_M_moved_137 a1 v7 v12 m10
              else
                gk_bi (f_M_isFreeOf v12 (m10.1 0 6) m10) fun v14 m13 =>
                if ¬ v14 = 0 then
                  f_M_moved_137 a1 v7 v12 m13
                else
                  some ((-2), m13)
            else
              some ((-2), m10)
        else
          some ((-1), m1)

theorem s_M_moved_0 {z : gk_Z} (K : gk_F tm z me_M_moved 74) {r : Int32} {mem2 : gk_M} : ∀ a1 a2 m0, f_M_moved a1 a2 m0 = some (r, mem2) → gk_G tm z me_M_moved (gk_R tm z (some (.int r)) mem2) m0 [(0, .ref 0), (1, .int a1), (2, .int a2)] [] 0 := by
  intro a1 a2 m0  h
  unfold f_M_moved at h
  refine gk_aload_n (pc := 0) K d_M_moved_0 rfl ?_
  refine gk_iload_n (pc := 1) K d_M_moved_1 rfl ?_
  obtain ⟨v2, m1, em1, h⟩ := gk_bi_some h
  refine gk_cVi (As := [.int a1]) (pc := 2) K d_M_moved_2 mv_M_142 mc_M_isTower rfl tm_0 cl_ok10.1 (s_M_isTower (gk_FD K)  em1) (by decide) rfl (Nat.le_of_ble_eq_true rfl) ?_
  refine gk_if_eq (tgt := 30) (pc := 5) K d_M_moved_5 (by decide) h (fun h => ?_) (fun h => ?_)
  · refine gk_iconst (pc := 30) K d_M_moved_30 kc_m1 ?_
    exact gk_iret (pc := 31) K d_M_moved_31 rfl h
  · refine gk_iload_n (pc := 8) K d_M_moved_8 rfl ?_
    refine gk_if_lt (tgt := 30) (pc := 9) K d_M_moved_9 (by decide) h (fun h => ?_) (fun h => ?_)
    · refine gk_iconst (pc := 30) K d_M_moved_30 kc_m1 ?_
      exact gk_iret (pc := 31) K d_M_moved_31 rfl h
    · refine gk_iload_n (pc := 12) K d_M_moved_12 rfl ?_
      refine gk_bipush (pc := 13) K d_M_moved_13 kb_100 ?_
      refine gk_idivc2 (pc := 15) K d_M_moved_15 (by decide) ?_
      refine gk_bipush (pc := 16) K d_M_moved_16 kb_18 ?_
      refine gk_ic_gt (tgt := 30) (pc := 18) K d_M_moved_18 (by decide) h (fun h => ?_) (fun h => ?_)
      · refine gk_iconst (pc := 30) K d_M_moved_30 kc_m1 ?_
        exact gk_iret (pc := 31) K d_M_moved_31 rfl h
      · refine gk_iload_n (pc := 21) K d_M_moved_21 rfl ?_
        refine gk_bipush (pc := 22) K d_M_moved_22 kb_100 ?_
        refine gk_iremc2 (pc := 24) K d_M_moved_24 (by decide) ?_
        refine gk_bipush (pc := 25) K d_M_moved_25 kb_18 ?_
        refine gk_ic_le (tgt := 32) (pc := 27) K d_M_moved_27 (by decide) h (fun h => ?_) (fun h => ?_)
        · refine gk_aload_n (pc := 32) K d_M_moved_32 rfl ?_
          refine gk_get (pc := 33) K d_M_moved_33 fl_M_22 tm_0 rfl rfl ?_
          refine gk_iload_n (pc := 36) K d_M_moved_36 rfl ?_
          refine gk_iald (pc := 37) K d_M_moved_37 tm_5 h (fun v3 h => ?_)
          refine gk_bipush (pc := 38) K d_M_moved_38 kb_30 ?_
          refine gk_iremc2 (pc := 40) K d_M_moved_40 (by decide) ?_
          refine gk_iload_n (pc := 41) K d_M_moved_41 rfl ?_
          refine gk_bipush (pc := 42) K d_M_moved_42 kb_100 ?_
          refine gk_idivc2 (pc := 44) K d_M_moved_44 (by decide) ?_
          refine gk_iadd (pc := 45) K d_M_moved_45 ?_
          refine gk_bipush (pc := 46) K d_M_moved_46 kb_9 ?_
          refine gk_isub (pc := 48) K d_M_moved_48 ?_
          refine gk_topi h (fun v4 h => ?_)
          refine gk_istore_n (lv2 := [(3, .int v4), (0, .ref 0), (1, .int a1), (2, .int a2)]) (pc := 49) K d_M_moved_49 (by decide) rfl ?_
          refine gk_aload_n (pc := 50) K d_M_moved_50 rfl ?_
          refine gk_get (pc := 51) K d_M_moved_51 fl_M_22 tm_0 rfl rfl ?_
          refine gk_iload_n (pc := 54) K d_M_moved_54 rfl ?_
          refine gk_iald (pc := 55) K d_M_moved_55 tm_5 h (fun v5 h => ?_)
          refine gk_bipush (pc := 56) K d_M_moved_56 kb_30 ?_
          refine gk_idivc2 (pc := 58) K d_M_moved_58 (by decide) ?_
          refine gk_iload_n (pc := 59) K d_M_moved_59 rfl ?_
          refine gk_bipush (pc := 60) K d_M_moved_60 kb_100 ?_
          refine gk_iremc2 (pc := 62) K d_M_moved_62 (by decide) ?_
          refine gk_iadd (pc := 63) K d_M_moved_63 ?_
          refine gk_bipush (pc := 64) K d_M_moved_64 kb_9 ?_
          refine gk_isub (pc := 66) K d_M_moved_66 ?_
          refine gk_topi h (fun v6 h => ?_)
          refine gk_istore (lv2 := [(4, .int v6), (3, .int v4), (0, .ref 0), (1, .int a1), (2, .int a2)]) (pc := 67) K d_M_moved_67 (by decide) rfl ?_
          refine gk_aload_n (pc := 69) K d_M_moved_69 rfl ?_
          refine gk_get (pc := 70) K d_M_moved_70 fl_M_22 tm_0 rfl rfl ?_
          refine gk_iload_n (pc := 73) K d_M_moved_73 rfl ?_
          refine gk_iald (pc := 74) K d_M_moved_74 tm_5 h (fun v7 h => ?_)
          refine gk_istore (lv2 := [(5, .int v7), (4, .int v6), (3, .int v4), (0, .ref 0), (1, .int a1), (2, .int a2)]) (pc := 75) K d_M_moved_75 (by decide) rfl ?_
          refine gk_iload_n (pc := 77) K d_M_moved_77 rfl ?_
          refine gk_i2l (pc := 78) K d_M_moved_78 ?_
          refine gk_lconst (pc := 79) K d_M_moved_79 kl_0 ?_
          refine gk_ldc2 (pc := 80) K d_M_moved_80 lc_M_315 ?_
          obtain ⟨v9, m8, em8, h⟩ := gk_bi_some h
          refine gk_cSi (As := [.long v4.toInt64, .long 0, .long 29]) (pc := 83) K d_M_moved_83 ms_M_102 mc_M_within rfl (s_M_within (gk_FD K)  em8) (by decide) rfl (Nat.le_of_ble_eq_true rfl) ?_
          refine gk_if_eq (tgt := 102) (pc := 86) K d_M_moved_86 (by decide) h (fun h => ?_) (fun h => ?_)
          · refine gk_bipush (pc := 102) K d_M_moved_102 kb_m2 ?_
            exact gk_iret (pc := 104) K d_M_moved_104 rfl h
          · refine gk_iload (pc := 89) K d_M_moved_89 rfl ?_
            refine gk_i2l (pc := 91) K d_M_moved_91 ?_
            refine gk_lconst (pc := 92) K d_M_moved_92 kl_0 ?_
            refine gk_ldc2 (pc := 93) K d_M_moved_93 lc_M_315 ?_
            obtain ⟨v11, m10, em10, h⟩ := gk_bi_some h
            refine gk_cSi (As := [.long v6.toInt64, .long 0, .long 29]) (pc := 96) K d_M_moved_96 ms_M_102 mc_M_within rfl (s_M_within (gk_FD K)  em10) (by decide) rfl (Nat.le_of_ble_eq_true rfl) ?_
            refine gk_if_ne (tgt := 105) (pc := 99) K d_M_moved_99 (by decide) h (fun h => ?_) (fun h => ?_)
            · refine gk_bipush (pc := 105) K d_M_moved_105 kb_30 ?_
              refine gk_iload (pc := 107) K d_M_moved_107 rfl ?_
              refine gk_imul (pc := 109) K d_M_moved_109 ?_
              refine gk_iload_n (pc := 110) K d_M_moved_110 rfl ?_
              refine gk_iadd (pc := 111) K d_M_moved_111 ?_
              refine gk_topi h (fun v12 h => ?_)
              refine gk_istore (lv2 := [(6, .int v12), (5, .int v7), (4, .int v6), (3, .int v4), (0, .ref 0), (1, .int a1), (2, .int a2)]) (pc := 112) K d_M_moved_112 (by decide) rfl ?_
              refine gk_iload (pc := 114) K d_M_moved_114 rfl ?_
              refine gk_iload (pc := 116) K d_M_moved_116 rfl ?_
              refine gk_ic_eq (tgt := 137) (pc := 118) K d_M_moved_118 (by decide) h (fun h => ?_) (fun h => ?_)
              · exact gk_sub [4, 5, 1, 0] rfl (s_M_moved_137 K _ _ _ _  h)
              · refine gk_aload_n (pc := 121) K d_M_moved_121 rfl ?_
                refine gk_iload (pc := 122) K d_M_moved_122 rfl ?_
                refine gk_aload_n (pc := 124) K d_M_moved_124 rfl ?_
                refine gk_get (pc := 125) K d_M_moved_125 fl_M_106 tm_0 rfl rfl ?_
                obtain ⟨v14, m13, em13, h⟩ := gk_bi_some h
                refine gk_cVi (As := [.int v12, .int (m10.1 0 6)]) (pc := 128) K d_M_moved_128 mv_M_116 mc_M_isFreeOf rfl tm_0 cl_ok10.1 (s_M_isFreeOf (gk_FD K)  em13) (by decide) rfl (Nat.le_of_ble_eq_true rfl) ?_
                refine gk_if_ne (tgt := 137) (pc := 131) K d_M_moved_131 (by decide) h (fun h => ?_) (fun h => ?_)
                · exact gk_sub [4, 5, 1, 0] rfl (s_M_moved_137 K _ _ _ _  h)
                · refine gk_bipush (pc := 134) K d_M_moved_134 kb_m2 ?_
                  exact gk_iret (pc := 136) K d_M_moved_136 rfl h
            · refine gk_bipush (pc := 102) K d_M_moved_102 kb_m2 ?_
              exact gk_iret (pc := 104) K d_M_moved_104 rfl h
        · refine gk_iconst (pc := 30) K d_M_moved_30 kc_m1 ?_
          exact gk_iret (pc := 31) K d_M_moved_31 rfl h
theorem s_M_moved {l : Launch} {u : gk_U} (hD : gk_D tm u) {a1 : Int32} {a2 : Int32} {m0 mem2 : gk_M} {r : Int32} (h : f_M_moved a1 a2 m0 = some (r, mem2)) : gk_C tm l u me_M_moved 74 [.ref 0, .int a1, .int a2] m0 (some (.int r)) mem2 :=
  gk_enter hD mc_M_moved (Nat.le_of_ble_eq_true rfl) rfl (fun z _ _ K => s_M_moved_0 K _ _ _  h)
theorem d_M_guiltsBetween_0 : decode me_M_guiltsBetween.2.1 0 = .ok (.iconst 0, 1) := by decide +kernel
theorem d_M_guiltsBetween_1 : decode me_M_guiltsBetween.2.1 1 = .ok (.istore 4, 2) := by decide +kernel
theorem d_M_guiltsBetween_3 : decode me_M_guiltsBetween.2.1 3 = .ok (.iconst 0, 1) := by decide +kernel
theorem d_M_guiltsBetween_4 : decode me_M_guiltsBetween.2.1 4 = .ok (.istore 5, 2) := by decide +kernel
theorem d_M_guiltsBetween_6 : decode me_M_guiltsBetween.2.1 6 = .ok (.iload 5, 2) := by decide +kernel
theorem d_M_guiltsBetween_8 : decode me_M_guiltsBetween.2.1 8 = .ok (.aload_n 0, 1) := by decide +kernel
theorem d_M_guiltsBetween_9 : decode me_M_guiltsBetween.2.1 9 = .ok (.getfield 106, 3) := by decide +kernel
theorem d_M_guiltsBetween_12 : decode me_M_guiltsBetween.2.1 12 = .ok (.if_icmp .ge 54, 3) := by decide +kernel
theorem d_M_guiltsBetween_15 : decode me_M_guiltsBetween.2.1 15 = .ok (.iload 5, 2) := by decide +kernel
theorem d_M_guiltsBetween_17 : decode me_M_guiltsBetween.2.1 17 = .ok (.iconst 1, 1) := by decide +kernel
theorem d_M_guiltsBetween_18 : decode me_M_guiltsBetween.2.1 18 = .ok (.iadd, 1) := by decide +kernel
theorem d_M_guiltsBetween_19 : decode me_M_guiltsBetween.2.1 19 = .ok (.istore 6, 2) := by decide +kernel
theorem d_M_guiltsBetween_21 : decode me_M_guiltsBetween.2.1 21 = .ok (.iload 6, 2) := by decide +kernel
theorem d_M_guiltsBetween_23 : decode me_M_guiltsBetween.2.1 23 = .ok (.aload_n 0, 1) := by decide +kernel
theorem d_M_guiltsBetween_24 : decode me_M_guiltsBetween.2.1 24 = .ok (.getfield 106, 3) := by decide +kernel
theorem d_M_guiltsBetween_27 : decode me_M_guiltsBetween.2.1 27 = .ok (.if_icmp .ge 33, 3) := by decide +kernel
theorem d_M_guiltsBetween_30 : decode me_M_guiltsBetween.2.1 30 = .ok (.iload 4, 2) := by decide +kernel
theorem d_M_guiltsBetween_32 : decode me_M_guiltsBetween.2.1 32 = .ok (.aload_n 0, 1) := by decide +kernel
theorem d_M_guiltsBetween_33 : decode me_M_guiltsBetween.2.1 33 = .ok (.iload_n 1, 1) := by decide +kernel
theorem d_M_guiltsBetween_34 : decode me_M_guiltsBetween.2.1 34 = .ok (.iload_n 2, 1) := by decide +kernel
theorem d_M_guiltsBetween_35 : decode me_M_guiltsBetween.2.1 35 = .ok (.iload 5, 2) := by decide +kernel
theorem d_M_guiltsBetween_37 : decode me_M_guiltsBetween.2.1 37 = .ok (.iload 6, 2) := by decide +kernel
theorem d_M_guiltsBetween_39 : decode me_M_guiltsBetween.2.1 39 = .ok (.iload_n 3, 1) := by decide +kernel
theorem d_M_guiltsBetween_40 : decode me_M_guiltsBetween.2.1 40 = .ok (.invokevirtual 278, 3) := by decide +kernel
theorem d_M_guiltsBetween_43 : decode me_M_guiltsBetween.2.1 43 = .ok (.ifCond .eq 7, 3) := by decide +kernel
theorem d_M_guiltsBetween_46 : decode me_M_guiltsBetween.2.1 46 = .ok (.iconst 1, 1) := by decide +kernel
theorem d_M_guiltsBetween_47 : decode me_M_guiltsBetween.2.1 47 = .ok (.goto 4, 3) := by decide +kernel
theorem d_M_guiltsBetween_50 : decode me_M_guiltsBetween.2.1 50 = .ok (.iconst 0, 1) := by decide +kernel
theorem d_M_guiltsBetween_51 : decode me_M_guiltsBetween.2.1 51 = .ok (.iadd, 1) := by decide +kernel
theorem d_M_guiltsBetween_52 : decode me_M_guiltsBetween.2.1 52 = .ok (.istore 4, 2) := by decide +kernel
theorem d_M_guiltsBetween_54 : decode me_M_guiltsBetween.2.1 54 = .ok (.iinc 6 1, 3) := by decide +kernel
theorem d_M_guiltsBetween_57 : decode me_M_guiltsBetween.2.1 57 = .ok (.goto (-36), 3) := by decide +kernel
theorem d_M_guiltsBetween_60 : decode me_M_guiltsBetween.2.1 60 = .ok (.iinc 5 1, 3) := by decide +kernel
theorem d_M_guiltsBetween_63 : decode me_M_guiltsBetween.2.1 63 = .ok (.goto (-57), 3) := by decide +kernel
theorem d_M_guiltsBetween_66 : decode me_M_guiltsBetween.2.1 66 = .ok (.iload 4, 2) := by decide +kernel
theorem d_M_guiltsBetween_68 : decode me_M_guiltsBetween.2.1 68 = .ok (.ireturn, 1) := by decide +kernel
noncomputable def f_M_guiltsBetween_51 (k6 : Int32 → Int32 → Int32 → Int32 → Int32 → gk_M → Option (Int32 × gk_M)) (k21 : Int32 → Int32 → Int32 → Int32 → Int32 → Int32 → gk_M → Option (Int32 × gk_M)) (a1 : Int32) (a2 : Int32) (a3 : Int32) (a5 : Int32) (a6 : Int32) (s0 : Int32) (s1 : Int32) (m0 : gk_M) : Option (Int32 × gk_M) :=
  gk_let (s0 + s1) fun v1 =>
  k21 a1 a2 a3 v1 a5 (a6 + 1) m0

theorem s_M_guiltsBetween_51 {z : gk_Z} (K : gk_F tm z me_M_guiltsBetween 70) {r : Int32} {mem2 : gk_M} {k6 : Int32 → Int32 → Int32 → Int32 → Int32 → gk_M → Option (Int32 × gk_M)} (hk6 : ∀ a1 a2 a3 a4 a5 m0, k6 a1 a2 a3 a4 a5 m0 = some (r, mem2) → gk_G tm z me_M_guiltsBetween (gk_R tm z (some (.int r)) mem2) m0 [(0, .ref 0), (1, .int a1), (2, .int a2), (3, .int a3), (4, .int a4), (5, .int a5)] [] 6) {k21 : Int32 → Int32 → Int32 → Int32 → Int32 → Int32 → gk_M → Option (Int32 × gk_M)} (hk21 : ∀ a1 a2 a3 a4 a5 a6 m0, k21 a1 a2 a3 a4 a5 a6 m0 = some (r, mem2) → gk_G tm z me_M_guiltsBetween (gk_R tm z (some (.int r)) mem2) m0 [(0, .ref 0), (1, .int a1), (2, .int a2), (3, .int a3), (4, .int a4), (5, .int a5), (6, .int a6)] [] 21) : ∀ a1 a2 a3 a5 a6 s0 s1 m0, f_M_guiltsBetween_51 k6 k21 a1 a2 a3 a5 a6 s0 s1 m0 = some (r, mem2) → gk_G tm z me_M_guiltsBetween (gk_R tm z (some (.int r)) mem2) m0 [(0, .ref 0), (1, .int a1), (2, .int a2), (3, .int a3), (5, .int a5), (6, .int a6)] [.int s1, .int s0] 51 := by
  intro a1 a2 a3 a5 a6 s0 s1 m0  h
  unfold f_M_guiltsBetween_51 at h
  refine gk_iadd (pc := 51) K d_M_guiltsBetween_51 ?_
  refine gk_topi h (fun v1 h => ?_)
  refine gk_istore (lv2 := [(4, .int v1), (0, .ref 0), (1, .int a1), (2, .int a2), (3, .int a3), (5, .int a5), (6, .int a6)]) (pc := 52) K d_M_guiltsBetween_52 (by decide) rfl ?_
  refine gk_iinc2 (lv2 := [(6, .int (a6 + 1)), (4, .int v1), (0, .ref 0), (1, .int a1), (2, .int a2), (3, .int a3), (5, .int a5)]) (pc := 54) K d_M_guiltsBetween_54 rfl kc_1 (by decide) rfl ?_
  refine gk_goto (tgt := 21) (pc := 57) K d_M_guiltsBetween_57 (by decide) ?_
  exact gk_sub [2, 3, 4, 5, 1, 6, 0] rfl (hk21 _ _ _ _ _ _ _  h)
noncomputable def f_M_guiltsBetween_21 (k6 : Int32 → Int32 → Int32 → Int32 → Int32 → gk_M → Option (Int32 × gk_M)) : Nat → Int32 → Int32 → Int32 → Int32 → Int32 → Int32 → gk_M → Option (Int32 × gk_M)
  | 0, _, _, _, _, _, _, _ => none
  | n + 1, a1, a2, a3, a4, a5, a6, m0 =>
    if (m0.1 0 6) ≤ a6 then
      k6 a1 a2 a3 a4 (a5 + 1) m0
    else
      gk_bi (f_M_isGuilty a1 a2 a5 a6 a3 m0) fun v2 m1 =>
      if v2 = 0 then
        f_M_guiltsBetween_51 k6 (f_M_guiltsBetween_21 k6 n) a1 a2 a3 a5 a6 a4 0 m1
      else
        f_M_guiltsBetween_51 k6 (f_M_guiltsBetween_21 k6 n) a1 a2 a3 a5 a6 a4 1 m1

theorem s_M_guiltsBetween_21 {z : gk_Z} (K : gk_F tm z me_M_guiltsBetween 70) {r : Int32} {mem2 : gk_M} {k6 : Int32 → Int32 → Int32 → Int32 → Int32 → gk_M → Option (Int32 × gk_M)} (hk6 : ∀ a1 a2 a3 a4 a5 m0, k6 a1 a2 a3 a4 a5 m0 = some (r, mem2) → gk_G tm z me_M_guiltsBetween (gk_R tm z (some (.int r)) mem2) m0 [(0, .ref 0), (1, .int a1), (2, .int a2), (3, .int a3), (4, .int a4), (5, .int a5)] [] 6) : ∀ n a1 a2 a3 a4 a5 a6 m0, f_M_guiltsBetween_21 k6 n a1 a2 a3 a4 a5 a6 m0 = some (r, mem2) → gk_G tm z me_M_guiltsBetween (gk_R tm z (some (.int r)) mem2) m0 [(0, .ref 0), (1, .int a1), (2, .int a2), (3, .int a3), (4, .int a4), (5, .int a5), (6, .int a6)] [] 21 := by
  intro n
  induction n with
  | zero => intro a1 a2 a3 a4 a5 a6 m0  h; exact nomatch (show (none : Option _) = some _ from h)
  | succ n ih =>
    intro a1 a2 a3 a4 a5 a6 m0  h
    unfold f_M_guiltsBetween_21 at h
    refine gk_iload (pc := 21) K d_M_guiltsBetween_21 rfl ?_
    refine gk_aload_n (pc := 23) K d_M_guiltsBetween_23 rfl ?_
    refine gk_get (pc := 24) K d_M_guiltsBetween_24 fl_M_106 tm_0 rfl rfl ?_
    refine gk_ic_ge (tgt := 60) (pc := 27) K d_M_guiltsBetween_27 (by decide) h (fun h => ?_) (fun h => ?_)
    · refine gk_iinc2 (lv2 := [(5, .int (a5 + 1)), (0, .ref 0), (1, .int a1), (2, .int a2), (3, .int a3), (4, .int a4), (6, .int a6)]) (pc := 60) K d_M_guiltsBetween_60 rfl kc_1 (by decide) rfl ?_
      refine gk_goto (tgt := 6) (pc := 63) K d_M_guiltsBetween_63 (by decide) ?_
      exact gk_sub [1, 2, 3, 4, 5, 0] rfl (hk6 _ _ _ _ _ _  h)
    · refine gk_iload (pc := 30) K d_M_guiltsBetween_30 rfl ?_
      refine gk_aload_n (pc := 32) K d_M_guiltsBetween_32 rfl ?_
      refine gk_iload_n (pc := 33) K d_M_guiltsBetween_33 rfl ?_
      refine gk_iload_n (pc := 34) K d_M_guiltsBetween_34 rfl ?_
      refine gk_iload (pc := 35) K d_M_guiltsBetween_35 rfl ?_
      refine gk_iload (pc := 37) K d_M_guiltsBetween_37 rfl ?_
      refine gk_iload_n (pc := 39) K d_M_guiltsBetween_39 rfl ?_
      obtain ⟨v2, m1, em1, h⟩ := gk_bi_some h
      refine gk_cVi (As := [.int a1, .int a2, .int a5, .int a6, .int a3]) (pc := 40) K d_M_guiltsBetween_40 mv_M_278 mc_M_isGuilty rfl tm_0 cl_ok10.1 (s_M_isGuilty (gk_FD K)  em1) (by decide) rfl (Nat.le_of_ble_eq_true rfl) ?_
      refine gk_if_eq (tgt := 50) (pc := 43) K d_M_guiltsBetween_43 (by decide) h (fun h => ?_) (fun h => ?_)
      · refine gk_iconst (pc := 50) K d_M_guiltsBetween_50 kc_0 ?_
        exact gk_sub [0, 1, 2, 3, 5, 6] rfl (s_M_guiltsBetween_51 K hk6 (fun x0 x1 x2 x3 x4 x5 m  h => ih x0 x1 x2 x3 x4 x5 m  h) _ _ _ _ _ _ _ _  h)
      · refine gk_iconst (pc := 46) K d_M_guiltsBetween_46 kc_1 ?_
        refine gk_goto (tgt := 51) (pc := 47) K d_M_guiltsBetween_47 (by decide) ?_
        exact gk_sub [0, 1, 2, 3, 5, 6] rfl (s_M_guiltsBetween_51 K hk6 (fun x0 x1 x2 x3 x4 x5 m  h => ih x0 x1 x2 x3 x4 x5 m  h) _ _ _ _ _ _ _ _  h)
noncomputable def f_M_guiltsBetween_6  : Nat → Int32 → Int32 → Int32 → Int32 → Int32 → gk_M → Option (Int32 × gk_M)
  | 0, _, _, _, _, _, _ => none
  | n + 1, a1, a2, a3, a4, a5, m0 =>
    if (m0.1 0 6) ≤ a5 then
      some (a4, m0)
    else
      gk_let (a5 + 1) fun v1 =>
      f_M_guiltsBetween_21 (f_M_guiltsBetween_6 n) gk_fv a1 a2 a3 a4 a5 v1 m0

theorem s_M_guiltsBetween_6 {z : gk_Z} (K : gk_F tm z me_M_guiltsBetween 70) {r : Int32} {mem2 : gk_M} : ∀ n a1 a2 a3 a4 a5 m0, f_M_guiltsBetween_6 n a1 a2 a3 a4 a5 m0 = some (r, mem2) → gk_G tm z me_M_guiltsBetween (gk_R tm z (some (.int r)) mem2) m0 [(0, .ref 0), (1, .int a1), (2, .int a2), (3, .int a3), (4, .int a4), (5, .int a5)] [] 6 := by
  intro n
  induction n with
  | zero => intro a1 a2 a3 a4 a5 m0  h; exact nomatch (show (none : Option _) = some _ from h)
  | succ n ih =>
    intro a1 a2 a3 a4 a5 m0  h
    unfold f_M_guiltsBetween_6 at h
    refine gk_iload (pc := 6) K d_M_guiltsBetween_6 rfl ?_
    refine gk_aload_n (pc := 8) K d_M_guiltsBetween_8 rfl ?_
    refine gk_get (pc := 9) K d_M_guiltsBetween_9 fl_M_106 tm_0 rfl rfl ?_
    refine gk_ic_ge (tgt := 66) (pc := 12) K d_M_guiltsBetween_12 (by decide) h (fun h => ?_) (fun h => ?_)
    · refine gk_iload (pc := 66) K d_M_guiltsBetween_66 rfl ?_
      exact gk_iret (pc := 68) K d_M_guiltsBetween_68 rfl h
    · refine gk_iload (pc := 15) K d_M_guiltsBetween_15 rfl ?_
      refine gk_iconst (pc := 17) K d_M_guiltsBetween_17 kc_1 ?_
      refine gk_iadd (pc := 18) K d_M_guiltsBetween_18 ?_
      refine gk_topi h (fun v1 h => ?_)
      refine gk_istore (lv2 := [(6, .int v1), (0, .ref 0), (1, .int a1), (2, .int a2), (3, .int a3), (4, .int a4), (5, .int a5)]) (pc := 19) K d_M_guiltsBetween_19 (by decide) rfl ?_
      exact gk_sub [1, 2, 3, 4, 5, 6, 0] rfl (s_M_guiltsBetween_21 K (fun x0 x1 x2 x3 x4 m  h => ih x0 x1 x2 x3 x4 m  h) _ _ _ _ _ _ _ _  h)
noncomputable def f_M_guiltsBetween  (a1 : Int32) (a2 : Int32) (a3 : Int32) (m0 : gk_M) : Option (Int32 × gk_M) :=
  f_M_guiltsBetween_6 gk_fv a1 a2 a3 0 0 m0

theorem s_M_guiltsBetween_0 {z : gk_Z} (K : gk_F tm z me_M_guiltsBetween 70) {r : Int32} {mem2 : gk_M} : ∀ a1 a2 a3 m0, f_M_guiltsBetween a1 a2 a3 m0 = some (r, mem2) → gk_G tm z me_M_guiltsBetween (gk_R tm z (some (.int r)) mem2) m0 [(0, .ref 0), (1, .int a1), (2, .int a2), (3, .int a3)] [] 0 := by
  intro a1 a2 a3 m0  h
  unfold f_M_guiltsBetween at h
  refine gk_iconst (pc := 0) K d_M_guiltsBetween_0 kc_0 ?_
  refine gk_istore (lv2 := [(4, .int 0), (0, .ref 0), (1, .int a1), (2, .int a2), (3, .int a3)]) (pc := 1) K d_M_guiltsBetween_1 (by decide) rfl ?_
  refine gk_iconst (pc := 3) K d_M_guiltsBetween_3 kc_0 ?_
  refine gk_istore (lv2 := [(5, .int 0), (4, .int 0), (0, .ref 0), (1, .int a1), (2, .int a2), (3, .int a3)]) (pc := 4) K d_M_guiltsBetween_4 (by decide) rfl ?_
  exact gk_sub [2, 3, 4, 5, 1, 0] rfl (s_M_guiltsBetween_6 K _ _ _ _ _ _ _  h)
theorem s_M_guiltsBetween {l : Launch} {u : gk_U} (hD : gk_D tm u) {a1 : Int32} {a2 : Int32} {a3 : Int32} {m0 mem2 : gk_M} {r : Int32} (h : f_M_guiltsBetween a1 a2 a3 m0 = some (r, mem2)) : gk_C tm l u me_M_guiltsBetween 70 [.ref 0, .int a1, .int a2, .int a3] m0 (some (.int r)) mem2 :=
  gk_enter hD mc_M_guiltsBetween (Nat.le_of_ble_eq_true rfl) rfl (fun z _ _ K => s_M_guiltsBetween_0 K _ _ _ _  h)
theorem d_M_bent_0 : decode me_M_bent.2.1 0 = .ok (.aload_n 0, 1) := by decide +kernel
theorem d_M_bent_1 : decode me_M_bent.2.1 1 = .ok (.iload_n 1, 1) := by decide +kernel
theorem d_M_bent_2 : decode me_M_bent.2.1 2 = .ok (.invokevirtual 281, 3) := by decide +kernel
theorem d_M_bent_5 : decode me_M_bent.2.1 5 = .ok (.ifCond .eq 13, 3) := by decide +kernel
theorem d_M_bent_8 : decode me_M_bent.2.1 8 = .ok (.iload_n 2, 1) := by decide +kernel
theorem d_M_bent_9 : decode me_M_bent.2.1 9 = .ok (.i2l, 1) := by decide +kernel
theorem d_M_bent_10 : decode me_M_bent.2.1 10 = .ok (.lconst 0, 1) := by decide +kernel
theorem d_M_bent_11 : decode me_M_bent.2.1 11 = .ok (.lconst 1, 1) := by decide +kernel
theorem d_M_bent_12 : decode me_M_bent.2.1 12 = .ok (.invokestatic 102, 3) := by decide +kernel
theorem d_M_bent_15 : decode me_M_bent.2.1 15 = .ok (.ifCond .ne 5, 3) := by decide +kernel
theorem d_M_bent_18 : decode me_M_bent.2.1 18 = .ok (.iconst (-1), 1) := by decide +kernel
theorem d_M_bent_19 : decode me_M_bent.2.1 19 = .ok (.ireturn, 1) := by decide +kernel
theorem d_M_bent_20 : decode me_M_bent.2.1 20 = .ok (.iload_n 1, 1) := by decide +kernel
theorem d_M_bent_21 : decode me_M_bent.2.1 21 = .ok (.bipush 10, 2) := by decide +kernel
theorem d_M_bent_23 : decode me_M_bent.2.1 23 = .ok (.idiv, 1) := by decide +kernel
theorem d_M_bent_24 : decode me_M_bent.2.1 24 = .ok (.istore_n 3, 1) := by decide +kernel
theorem d_M_bent_25 : decode me_M_bent.2.1 25 = .ok (.aload_n 0, 1) := by decide +kernel
theorem d_M_bent_26 : decode me_M_bent.2.1 26 = .ok (.getfield 31, 3) := by decide +kernel
theorem d_M_bent_29 : decode me_M_bent.2.1 29 = .ok (.iload_n 3, 1) := by decide +kernel
theorem d_M_bent_30 : decode me_M_bent.2.1 30 = .ok (.iaload, 1) := by decide +kernel
theorem d_M_bent_31 : decode me_M_bent.2.1 31 = .ok (.bipush 6, 2) := by decide +kernel
theorem d_M_bent_33 : decode me_M_bent.2.1 33 = .ok (.if_icmp .ne 6, 3) := by decide +kernel
theorem d_M_bent_36 : decode me_M_bent.2.1 36 = .ok (.bipush (-5), 2) := by decide +kernel
theorem d_M_bent_38 : decode me_M_bent.2.1 38 = .ok (.ireturn, 1) := by decide +kernel
theorem d_M_bent_39 : decode me_M_bent.2.1 39 = .ok (.aload_n 0, 1) := by decide +kernel
theorem d_M_bent_40 : decode me_M_bent.2.1 40 = .ok (.iload_n 3, 1) := by decide +kernel
theorem d_M_bent_41 : decode me_M_bent.2.1 41 = .ok (.iload_n 1, 1) := by decide +kernel
theorem d_M_bent_42 : decode me_M_bent.2.1 42 = .ok (.bipush 10, 2) := by decide +kernel
theorem d_M_bent_44 : decode me_M_bent.2.1 44 = .ok (.irem, 1) := by decide +kernel
theorem d_M_bent_45 : decode me_M_bent.2.1 45 = .ok (.invokevirtual 275, 3) := by decide +kernel
theorem d_M_bent_48 : decode me_M_bent.2.1 48 = .ok (.istore 4, 2) := by decide +kernel
theorem d_M_bent_50 : decode me_M_bent.2.1 50 = .ok (.aload_n 0, 1) := by decide +kernel
theorem d_M_bent_51 : decode me_M_bent.2.1 51 = .ok (.iload_n 3, 1) := by decide +kernel
theorem d_M_bent_52 : decode me_M_bent.2.1 52 = .ok (.iload_n 1, 1) := by decide +kernel
theorem d_M_bent_53 : decode me_M_bent.2.1 53 = .ok (.bipush 10, 2) := by decide +kernel
theorem d_M_bent_55 : decode me_M_bent.2.1 55 = .ok (.irem, 1) := by decide +kernel
theorem d_M_bent_56 : decode me_M_bent.2.1 56 = .ok (.iconst 1, 1) := by decide +kernel
theorem d_M_bent_57 : decode me_M_bent.2.1 57 = .ok (.iadd, 1) := by decide +kernel
theorem d_M_bent_58 : decode me_M_bent.2.1 58 = .ok (.invokevirtual 275, 3) := by decide +kernel
theorem d_M_bent_61 : decode me_M_bent.2.1 61 = .ok (.istore 5, 2) := by decide +kernel
theorem d_M_bent_63 : decode me_M_bent.2.1 63 = .ok (.aload_n 0, 1) := by decide +kernel
theorem d_M_bent_64 : decode me_M_bent.2.1 64 = .ok (.invokevirtual 297, 3) := by decide +kernel
theorem d_M_bent_67 : decode me_M_bent.2.1 67 = .ok (.aload_n 0, 1) := by decide +kernel
theorem d_M_bent_68 : decode me_M_bent.2.1 68 = .ok (.iload 4, 2) := by decide +kernel
theorem d_M_bent_70 : decode me_M_bent.2.1 70 = .ok (.iload 5, 2) := by decide +kernel
theorem d_M_bent_72 : decode me_M_bent.2.1 72 = .ok (.iload_n 3, 1) := by decide +kernel
theorem d_M_bent_73 : decode me_M_bent.2.1 73 = .ok (.invokevirtual 340, 3) := by decide +kernel
theorem d_M_bent_76 : decode me_M_bent.2.1 76 = .ok (.isub, 1) := by decide +kernel
theorem d_M_bent_77 : decode me_M_bent.2.1 77 = .ok (.istore 6, 2) := by decide +kernel
theorem d_M_bent_79 : decode me_M_bent.2.1 79 = .ok (.iconst (-1), 1) := by decide +kernel
theorem d_M_bent_80 : decode me_M_bent.2.1 80 = .ok (.istore 7, 2) := by decide +kernel
theorem d_M_bent_82 : decode me_M_bent.2.1 82 = .ok (.iconst 0, 1) := by decide +kernel
theorem d_M_bent_83 : decode me_M_bent.2.1 83 = .ok (.istore 8, 2) := by decide +kernel
theorem d_M_bent_85 : decode me_M_bent.2.1 85 = .ok (.iconst 0, 1) := by decide +kernel
theorem d_M_bent_86 : decode me_M_bent.2.1 86 = .ok (.istore 9, 2) := by decide +kernel
theorem d_M_bent_88 : decode me_M_bent.2.1 88 = .ok (.iload 9, 2) := by decide +kernel
theorem d_M_bent_90 : decode me_M_bent.2.1 90 = .ok (.sipush 900, 3) := by decide +kernel
theorem d_M_bent_93 : decode me_M_bent.2.1 93 = .ok (.if_icmp .ge 83, 3) := by decide +kernel
theorem d_M_bent_96 : decode me_M_bent.2.1 96 = .ok (.iload 9, 2) := by decide +kernel
theorem d_M_bent_98 : decode me_M_bent.2.1 98 = .ok (.iload 4, 2) := by decide +kernel
theorem d_M_bent_100 : decode me_M_bent.2.1 100 = .ok (.if_icmp .eq 70, 3) := by decide +kernel
theorem d_M_bent_103 : decode me_M_bent.2.1 103 = .ok (.iload 9, 2) := by decide +kernel
theorem d_M_bent_105 : decode me_M_bent.2.1 105 = .ok (.iload 5, 2) := by decide +kernel
theorem d_M_bent_107 : decode me_M_bent.2.1 107 = .ok (.if_icmp .eq 63, 3) := by decide +kernel
theorem d_M_bent_110 : decode me_M_bent.2.1 110 = .ok (.aload_n 0, 1) := by decide +kernel
theorem d_M_bent_111 : decode me_M_bent.2.1 111 = .ok (.iload 9, 2) := by decide +kernel
theorem d_M_bent_113 : decode me_M_bent.2.1 113 = .ok (.aload_n 0, 1) := by decide +kernel
theorem d_M_bent_114 : decode me_M_bent.2.1 114 = .ok (.getfield 106, 3) := by decide +kernel
theorem d_M_bent_117 : decode me_M_bent.2.1 117 = .ok (.invokevirtual 116, 3) := by decide +kernel
theorem d_M_bent_120 : decode me_M_bent.2.1 120 = .ok (.ifCond .ne 6, 3) := by decide +kernel
theorem d_M_bent_123 : decode me_M_bent.2.1 123 = .ok (.goto 47, 3) := by decide +kernel
theorem d_M_bent_126 : decode me_M_bent.2.1 126 = .ok (.iload 6, 2) := by decide +kernel
theorem d_M_bent_128 : decode me_M_bent.2.1 128 = .ok (.aload_n 0, 1) := by decide +kernel
theorem d_M_bent_129 : decode me_M_bent.2.1 129 = .ok (.iload 4, 2) := by decide +kernel
theorem d_M_bent_131 : decode me_M_bent.2.1 131 = .ok (.iload 9, 2) := by decide +kernel
theorem d_M_bent_133 : decode me_M_bent.2.1 133 = .ok (.iload_n 3, 1) := by decide +kernel
theorem d_M_bent_134 : decode me_M_bent.2.1 134 = .ok (.invokevirtual 340, 3) := by decide +kernel
theorem d_M_bent_137 : decode me_M_bent.2.1 137 = .ok (.iadd, 1) := by decide +kernel
theorem d_M_bent_138 : decode me_M_bent.2.1 138 = .ok (.aload_n 0, 1) := by decide +kernel
theorem d_M_bent_139 : decode me_M_bent.2.1 139 = .ok (.iload 9, 2) := by decide +kernel
theorem d_M_bent_141 : decode me_M_bent.2.1 141 = .ok (.iload 5, 2) := by decide +kernel
theorem d_M_bent_143 : decode me_M_bent.2.1 143 = .ok (.iload_n 3, 1) := by decide +kernel
theorem d_M_bent_144 : decode me_M_bent.2.1 144 = .ok (.invokevirtual 340, 3) := by decide +kernel
theorem d_M_bent_147 : decode me_M_bent.2.1 147 = .ok (.iadd, 1) := by decide +kernel
theorem d_M_bent_148 : decode me_M_bent.2.1 148 = .ok (.istore 10, 2) := by decide +kernel
theorem d_M_bent_150 : decode me_M_bent.2.1 150 = .ok (.iload 7, 2) := by decide +kernel
theorem d_M_bent_152 : decode me_M_bent.2.1 152 = .ok (.ifCond .lt 10, 3) := by decide +kernel
theorem d_M_bent_155 : decode me_M_bent.2.1 155 = .ok (.iload 10, 2) := by decide +kernel
theorem d_M_bent_157 : decode me_M_bent.2.1 157 = .ok (.iload 8, 2) := by decide +kernel
theorem d_M_bent_159 : decode me_M_bent.2.1 159 = .ok (.if_icmp .ge 11, 3) := by decide +kernel
theorem d_M_bent_162 : decode me_M_bent.2.1 162 = .ok (.iload 9, 2) := by decide +kernel
theorem d_M_bent_164 : decode me_M_bent.2.1 164 = .ok (.istore 7, 2) := by decide +kernel
theorem d_M_bent_166 : decode me_M_bent.2.1 166 = .ok (.iload 10, 2) := by decide +kernel
theorem d_M_bent_168 : decode me_M_bent.2.1 168 = .ok (.istore 8, 2) := by decide +kernel
theorem d_M_bent_170 : decode me_M_bent.2.1 170 = .ok (.iinc 9 1, 3) := by decide +kernel
theorem d_M_bent_173 : decode me_M_bent.2.1 173 = .ok (.goto (-85), 3) := by decide +kernel
theorem d_M_bent_176 : decode me_M_bent.2.1 176 = .ok (.iload_n 2, 1) := by decide +kernel
theorem d_M_bent_177 : decode me_M_bent.2.1 177 = .ok (.ifCond .ne 8, 3) := by decide +kernel
theorem d_M_bent_180 : decode me_M_bent.2.1 180 = .ok (.iload 7, 2) := by decide +kernel
theorem d_M_bent_182 : decode me_M_bent.2.1 182 = .ok (.goto 5, 3) := by decide +kernel
theorem d_M_bent_185 : decode me_M_bent.2.1 185 = .ok (.iload 8, 2) := by decide +kernel
theorem d_M_bent_187 : decode me_M_bent.2.1 187 = .ok (.ireturn, 1) := by decide +kernel
noncomputable def f_M_bent_162 (k88 : Int32 → Int32 → Int32 → Int32 → Int32 → Int32 → Int32 → Int32 → gk_M → Option (Int32 × gk_M)) (a2 : Int32) (a3 : Int32) (a4 : Int32) (a5 : Int32) (a6 : Int32) (a9 : Int32) (a10 : Int32) (m0 : gk_M) : Option (Int32 × gk_M) :=
  k88 a2 a3 a4 a5 a6 a9 a10 (a9 + 1) m0

theorem s_M_bent_162 {z : gk_Z} (K : gk_F tm z me_M_bent 74) {r : Int32} {mem2 : gk_M} {k88 : Int32 → Int32 → Int32 → Int32 → Int32 → Int32 → Int32 → Int32 → gk_M → Option (Int32 × gk_M)} (hk88 : ∀ a2 a3 a4 a5 a6 a7 a8 a9 m0, k88 a2 a3 a4 a5 a6 a7 a8 a9 m0 = some (r, mem2) → gk_G tm z me_M_bent (gk_R tm z (some (.int r)) mem2) m0 [(0, .ref 0), (2, .int a2), (3, .int a3), (4, .int a4), (5, .int a5), (6, .int a6), (7, .int a7), (8, .int a8), (9, .int a9)] [] 88) : ∀ a2 a3 a4 a5 a6 a9 a10 m0, f_M_bent_162 k88 a2 a3 a4 a5 a6 a9 a10 m0 = some (r, mem2) → gk_G tm z me_M_bent (gk_R tm z (some (.int r)) mem2) m0 [(0, .ref 0), (2, .int a2), (3, .int a3), (4, .int a4), (5, .int a5), (6, .int a6), (9, .int a9), (10, .int a10)] [] 162 := by
  intro a2 a3 a4 a5 a6 a9 a10 m0  h
  unfold f_M_bent_162 at h
  refine gk_iload (pc := 162) K d_M_bent_162 rfl ?_
  refine gk_istore (lv2 := [(7, .int a9), (0, .ref 0), (2, .int a2), (3, .int a3), (4, .int a4), (5, .int a5), (6, .int a6), (9, .int a9), (10, .int a10)]) (pc := 164) K d_M_bent_164 (by decide) rfl ?_
  refine gk_iload (pc := 166) K d_M_bent_166 rfl ?_
  refine gk_istore (lv2 := [(8, .int a10), (7, .int a9), (0, .ref 0), (2, .int a2), (3, .int a3), (4, .int a4), (5, .int a5), (6, .int a6), (9, .int a9), (10, .int a10)]) (pc := 168) K d_M_bent_168 (by decide) rfl ?_
  refine gk_iinc2 (lv2 := [(9, .int (a9 + 1)), (8, .int a10), (7, .int a9), (0, .ref 0), (2, .int a2), (3, .int a3), (4, .int a4), (5, .int a5), (6, .int a6), (10, .int a10)]) (pc := 170) K d_M_bent_170 rfl kc_1 (by decide) rfl ?_
  refine gk_goto (tgt := 88) (pc := 173) K d_M_bent_173 (by decide) ?_
  exact gk_sub [3, 4, 5, 6, 7, 8, 2, 1, 0] rfl (hk88 _ _ _ _ _ _ _ _ _  h)
noncomputable def f_M_bent_88  : Nat → Int32 → Int32 → Int32 → Int32 → Int32 → Int32 → Int32 → Int32 → gk_M → Option (Int32 × gk_M)
  | 0, _, _, _, _, _, _, _, _, _ => none
  | n + 1, a2, a3, a4, a5, a6, a7, a8, a9, m0 =>
    if 900 ≤ a9 then
      if ¬ a2 = 0 then
        some (a8, m0)
      else
        some (a7, m0)
    else
      if a9 = a4 then
        f_M_bent_88 n a2 a3 a4 a5 a6 a7 a8 (a9 + 1) m0
      else
        if a9 = a5 then
          f_M_bent_88 n a2 a3 a4 a5 a6 a7 a8 (a9 + 1) m0
        else
          gk_bi (f_M_isFreeOf a9 (m0.1 0 6) m0) fun v2 m1 =>
          if ¬ v2 = 0 then
            gk_bi (f_M_guiltsBetween a4 a9 a3 m1) fun v4 m3 =>
            gk_bi (f_M_guiltsBetween a9 a5 a3 m3) fun v6 m5 =>
            gk_let ((a6 + v4) + v6) fun v7 =>
            if a7 < 0 then
              f_M_bent_162 (f_M_bent_88 n) a2 a3 a4 a5 a6 a9 v7 m5
            else
              if a8 ≤ v7 then
                f_M_bent_88 n a2 a3 a4 a5 a6 a7 a8 (a9 + 1) m5
              else
                f_M_bent_162 (f_M_bent_88 n) a2 a3 a4 a5 a6 a9 v7 m5
          else
            f_M_bent_88 n a2 a3 a4 a5 a6 a7 a8 (a9 + 1) m1

theorem s_M_bent_88 {z : gk_Z} (K : gk_F tm z me_M_bent 74) {r : Int32} {mem2 : gk_M} : ∀ n a2 a3 a4 a5 a6 a7 a8 a9 m0, f_M_bent_88 n a2 a3 a4 a5 a6 a7 a8 a9 m0 = some (r, mem2) → gk_G tm z me_M_bent (gk_R tm z (some (.int r)) mem2) m0 [(0, .ref 0), (2, .int a2), (3, .int a3), (4, .int a4), (5, .int a5), (6, .int a6), (7, .int a7), (8, .int a8), (9, .int a9)] [] 88 := by
  intro n
  induction n with
  | zero => intro a2 a3 a4 a5 a6 a7 a8 a9 m0  h; exact nomatch (show (none : Option _) = some _ from h)
  | succ n ih =>
    intro a2 a3 a4 a5 a6 a7 a8 a9 m0  h
    unfold f_M_bent_88 at h
    refine gk_iload (pc := 88) K d_M_bent_88 rfl ?_
    refine gk_sipush (pc := 90) K d_M_bent_90 ks_900 ?_
    refine gk_ic_ge (tgt := 176) (pc := 93) K d_M_bent_93 (by decide) h (fun h => ?_) (fun h => ?_)
    · refine gk_iload_n (pc := 176) K d_M_bent_176 rfl ?_
      refine gk_if_ne (tgt := 185) (pc := 177) K d_M_bent_177 (by decide) h (fun h => ?_) (fun h => ?_)
      · refine gk_iload (pc := 185) K d_M_bent_185 rfl ?_
        exact gk_iret (pc := 187) K d_M_bent_187 rfl h
      · refine gk_iload (pc := 180) K d_M_bent_180 rfl ?_
        refine gk_goto (tgt := 187) (pc := 182) K d_M_bent_182 (by decide) ?_
        exact gk_iret (pc := 187) K d_M_bent_187 rfl h
    · refine gk_iload (pc := 96) K d_M_bent_96 rfl ?_
      refine gk_iload (pc := 98) K d_M_bent_98 rfl ?_
      refine gk_ic_eq (tgt := 170) (pc := 100) K d_M_bent_100 (by decide) h (fun h => ?_) (fun h => ?_)
      · refine gk_iinc2 (lv2 := [(9, .int (a9 + 1)), (0, .ref 0), (2, .int a2), (3, .int a3), (4, .int a4), (5, .int a5), (6, .int a6), (7, .int a7), (8, .int a8)]) (pc := 170) K d_M_bent_170 rfl kc_1 (by decide) rfl ?_
        refine gk_goto (tgt := 88) (pc := 173) K d_M_bent_173 (by decide) ?_
        exact gk_sub [1, 2, 3, 4, 5, 6, 7, 8, 0] rfl (ih _ _ _ _ _ _ _ _ _  h)
      · refine gk_iload (pc := 103) K d_M_bent_103 rfl ?_
        refine gk_iload (pc := 105) K d_M_bent_105 rfl ?_
        refine gk_ic_eq (tgt := 170) (pc := 107) K d_M_bent_107 (by decide) h (fun h => ?_) (fun h => ?_)
        · refine gk_iinc2 (lv2 := [(9, .int (a9 + 1)), (0, .ref 0), (2, .int a2), (3, .int a3), (4, .int a4), (5, .int a5), (6, .int a6), (7, .int a7), (8, .int a8)]) (pc := 170) K d_M_bent_170 rfl kc_1 (by decide) rfl ?_
          refine gk_goto (tgt := 88) (pc := 173) K d_M_bent_173 (by decide) ?_
          exact gk_sub [1, 2, 3, 4, 5, 6, 7, 8, 0] rfl (ih _ _ _ _ _ _ _ _ _  h)
        · refine gk_aload_n (pc := 110) K d_M_bent_110 rfl ?_
          refine gk_iload (pc := 111) K d_M_bent_111 rfl ?_
          refine gk_aload_n (pc := 113) K d_M_bent_113 rfl ?_
          refine gk_get (pc := 114) K d_M_bent_114 fl_M_106 tm_0 rfl rfl ?_
          obtain ⟨v2, m1, em1, h⟩ := gk_bi_some h
          refine gk_cVi (As := [.int a9, .int (m0.1 0 6)]) (pc := 117) K d_M_bent_117 mv_M_116 mc_M_isFreeOf rfl tm_0 cl_ok10.1 (s_M_isFreeOf (gk_FD K)  em1) (by decide) rfl (Nat.le_of_ble_eq_true rfl) ?_
          refine gk_if_ne (tgt := 126) (pc := 120) K d_M_bent_120 (by decide) h (fun h => ?_) (fun h => ?_)
          · refine gk_iload (pc := 126) K d_M_bent_126 rfl ?_
            refine gk_aload_n (pc := 128) K d_M_bent_128 rfl ?_
            refine gk_iload (pc := 129) K d_M_bent_129 rfl ?_
            refine gk_iload (pc := 131) K d_M_bent_131 rfl ?_
            refine gk_iload_n (pc := 133) K d_M_bent_133 rfl ?_
            obtain ⟨v4, m3, em3, h⟩ := gk_bi_some h
            refine gk_cVi (As := [.int a4, .int a9, .int a3]) (pc := 134) K d_M_bent_134 mv_M_340 mc_M_guiltsBetween rfl tm_0 cl_ok10.1 (s_M_guiltsBetween (gk_FD K)  em3) (by decide) rfl (Nat.le_of_ble_eq_true rfl) ?_
            refine gk_iadd (pc := 137) K d_M_bent_137 ?_
            refine gk_aload_n (pc := 138) K d_M_bent_138 rfl ?_
            refine gk_iload (pc := 139) K d_M_bent_139 rfl ?_
            refine gk_iload (pc := 141) K d_M_bent_141 rfl ?_
            refine gk_iload_n (pc := 143) K d_M_bent_143 rfl ?_
            obtain ⟨v6, m5, em5, h⟩ := gk_bi_some h
            refine gk_cVi (As := [.int a9, .int a5, .int a3]) (pc := 144) K d_M_bent_144 mv_M_340 mc_M_guiltsBetween rfl tm_0 cl_ok10.1 (s_M_guiltsBetween (gk_FD K)  em5) (by decide) rfl (Nat.le_of_ble_eq_true rfl) ?_
            refine gk_iadd (pc := 147) K d_M_bent_147 ?_
            refine gk_topi h (fun v7 h => ?_)
            refine gk_istore (lv2 := [(10, .int v7), (0, .ref 0), (2, .int a2), (3, .int a3), (4, .int a4), (5, .int a5), (6, .int a6), (7, .int a7), (8, .int a8), (9, .int a9)]) (pc := 148) K d_M_bent_148 (by decide) rfl ?_
            refine gk_iload (pc := 150) K d_M_bent_150 rfl ?_
            refine gk_if_lt (tgt := 162) (pc := 152) K d_M_bent_152 (by decide) h (fun h => ?_) (fun h => ?_)
            · exact gk_sub [1, 2, 3, 4, 5, 6, 9, 0] rfl (s_M_bent_162 K (fun x0 x1 x2 x3 x4 x5 x6 x7 m  h => ih x0 x1 x2 x3 x4 x5 x6 x7 m  h) _ _ _ _ _ _ _ _  h)
            · refine gk_iload (pc := 155) K d_M_bent_155 rfl ?_
              refine gk_iload (pc := 157) K d_M_bent_157 rfl ?_
              refine gk_ic_ge (tgt := 170) (pc := 159) K d_M_bent_159 (by decide) h (fun h => ?_) (fun h => ?_)
              · refine gk_iinc2 (lv2 := [(9, .int (a9 + 1)), (10, .int v7), (0, .ref 0), (2, .int a2), (3, .int a3), (4, .int a4), (5, .int a5), (6, .int a6), (7, .int a7), (8, .int a8)]) (pc := 170) K d_M_bent_170 rfl kc_1 (by decide) rfl ?_
                refine gk_goto (tgt := 88) (pc := 173) K d_M_bent_173 (by decide) ?_
                exact gk_sub [2, 3, 4, 5, 6, 7, 8, 9, 0] rfl (ih _ _ _ _ _ _ _ _ _  h)
              · exact gk_sub [1, 2, 3, 4, 5, 6, 9, 0] rfl (s_M_bent_162 K (fun x0 x1 x2 x3 x4 x5 x6 x7 m  h => ih x0 x1 x2 x3 x4 x5 x6 x7 m  h) _ _ _ _ _ _ _ _  h)
          · refine gk_goto (tgt := 170) (pc := 123) K d_M_bent_123 (by decide) ?_
            refine gk_iinc2 (lv2 := [(9, .int (a9 + 1)), (0, .ref 0), (2, .int a2), (3, .int a3), (4, .int a4), (5, .int a5), (6, .int a6), (7, .int a7), (8, .int a8)]) (pc := 170) K d_M_bent_170 rfl kc_1 (by decide) rfl ?_
            refine gk_goto (tgt := 88) (pc := 173) K d_M_bent_173 (by decide) ?_
            exact gk_sub [1, 2, 3, 4, 5, 6, 7, 8, 0] rfl (ih _ _ _ _ _ _ _ _ _  h)
noncomputable def f_M_bent  (a1 : Int32) (a2 : Int32) (m0 : gk_M) : Option (Int32 × gk_M) :=
  gk_bi (f_M_isStretch a1 m0) fun v2 m1 =>
  if v2 = 0 then
    some ((-1), m1)
  else
    gk_bi (f_M_within a2.toInt64 0 1 m1) fun v4 m3 =>
    if ¬ v4 = 0 then
      gk_let (a1 / 10) fun v5 =>
      gk_ai m3 8 4 v5 fun v6 =>
      if ¬ v6 = 6 then
        gk_bi (f_M_cornerOf v5 (gk_rem a1 10) m3) fun v8 m7 =>
        gk_bi (f_M_cornerOf v5 ((gk_rem a1 10) + 1) m7) fun v10 m9 =>
        gk_bi (f_M_allGuilts  m9) fun v12 m11 =>
        gk_bi (f_M_guiltsBetween v8 v10 v5 m11) fun v14 m13 =>
        gk_let (v12 - v14) fun v15 =>
        f_M_bent_88 gk_fv a2 v5 v8 v10 v15 (-1) 0 0 m13
      else
        some ((-5), m3)
    else
      some ((-1), m3)

theorem s_M_bent_0 {z : gk_Z} (K : gk_F tm z me_M_bent 74) {r : Int32} {mem2 : gk_M} : ∀ a1 a2 m0, f_M_bent a1 a2 m0 = some (r, mem2) → gk_G tm z me_M_bent (gk_R tm z (some (.int r)) mem2) m0 [(0, .ref 0), (1, .int a1), (2, .int a2)] [] 0 := by
  intro a1 a2 m0  h
  unfold f_M_bent at h
  refine gk_aload_n (pc := 0) K d_M_bent_0 rfl ?_
  refine gk_iload_n (pc := 1) K d_M_bent_1 rfl ?_
  obtain ⟨v2, m1, em1, h⟩ := gk_bi_some h
  refine gk_cVi (As := [.int a1]) (pc := 2) K d_M_bent_2 mv_M_281 mc_M_isStretch rfl tm_0 cl_ok10.1 (s_M_isStretch (gk_FD K)  em1) (by decide) rfl (Nat.le_of_ble_eq_true rfl) ?_
  refine gk_if_eq (tgt := 18) (pc := 5) K d_M_bent_5 (by decide) h (fun h => ?_) (fun h => ?_)
  · refine gk_iconst (pc := 18) K d_M_bent_18 kc_m1 ?_
    exact gk_iret (pc := 19) K d_M_bent_19 rfl h
  · refine gk_iload_n (pc := 8) K d_M_bent_8 rfl ?_
    refine gk_i2l (pc := 9) K d_M_bent_9 ?_
    refine gk_lconst (pc := 10) K d_M_bent_10 kl_0 ?_
    refine gk_lconst (pc := 11) K d_M_bent_11 kl_1 ?_
    obtain ⟨v4, m3, em3, h⟩ := gk_bi_some h
    refine gk_cSi (As := [.long a2.toInt64, .long 0, .long 1]) (pc := 12) K d_M_bent_12 ms_M_102 mc_M_within rfl (s_M_within (gk_FD K)  em3) (by decide) rfl (Nat.le_of_ble_eq_true rfl) ?_
    refine gk_if_ne (tgt := 20) (pc := 15) K d_M_bent_15 (by decide) h (fun h => ?_) (fun h => ?_)
    · refine gk_iload_n (pc := 20) K d_M_bent_20 rfl ?_
      refine gk_bipush (pc := 21) K d_M_bent_21 kb_10 ?_
      refine gk_idivc2 (pc := 23) K d_M_bent_23 (by decide) ?_
      refine gk_topi h (fun v5 h => ?_)
      refine gk_istore_n (lv2 := [(3, .int v5), (0, .ref 0), (1, .int a1), (2, .int a2)]) (pc := 24) K d_M_bent_24 (by decide) rfl ?_
      refine gk_aload_n (pc := 25) K d_M_bent_25 rfl ?_
      refine gk_get (pc := 26) K d_M_bent_26 fl_M_31 tm_0 rfl rfl ?_
      refine gk_iload_n (pc := 29) K d_M_bent_29 rfl ?_
      refine gk_iald (pc := 30) K d_M_bent_30 tm_8 h (fun v6 h => ?_)
      refine gk_bipush (pc := 31) K d_M_bent_31 kb_6 ?_
      refine gk_ic_ne (tgt := 39) (pc := 33) K d_M_bent_33 (by decide) h (fun h => ?_) (fun h => ?_)
      · refine gk_aload_n (pc := 39) K d_M_bent_39 rfl ?_
        refine gk_iload_n (pc := 40) K d_M_bent_40 rfl ?_
        refine gk_iload_n (pc := 41) K d_M_bent_41 rfl ?_
        refine gk_bipush (pc := 42) K d_M_bent_42 kb_10 ?_
        refine gk_iremc2 (pc := 44) K d_M_bent_44 (by decide) ?_
        obtain ⟨v8, m7, em7, h⟩ := gk_bi_some h
        refine gk_cVi (As := [.int v5, .int (gk_rem a1 10)]) (pc := 45) K d_M_bent_45 mv_M_275 mc_M_cornerOf rfl tm_0 cl_ok10.1 (s_M_cornerOf (gk_FD K)  em7) (by decide) rfl (Nat.le_of_ble_eq_true rfl) ?_
        refine gk_istore (lv2 := [(4, .int v8), (3, .int v5), (0, .ref 0), (1, .int a1), (2, .int a2)]) (pc := 48) K d_M_bent_48 (by decide) rfl ?_
        refine gk_aload_n (pc := 50) K d_M_bent_50 rfl ?_
        refine gk_iload_n (pc := 51) K d_M_bent_51 rfl ?_
        refine gk_iload_n (pc := 52) K d_M_bent_52 rfl ?_
        refine gk_bipush (pc := 53) K d_M_bent_53 kb_10 ?_
        refine gk_iremc2 (pc := 55) K d_M_bent_55 (by decide) ?_
        refine gk_iconst (pc := 56) K d_M_bent_56 kc_1 ?_
        refine gk_iadd (pc := 57) K d_M_bent_57 ?_
        obtain ⟨v10, m9, em9, h⟩ := gk_bi_some h
        refine gk_cVi (As := [.int v5, .int ((gk_rem a1 10) + 1)]) (pc := 58) K d_M_bent_58 mv_M_275 mc_M_cornerOf rfl tm_0 cl_ok10.1 (s_M_cornerOf (gk_FD K)  em9) (by decide) rfl (Nat.le_of_ble_eq_true rfl) ?_
        refine gk_istore (lv2 := [(5, .int v10), (4, .int v8), (3, .int v5), (0, .ref 0), (1, .int a1), (2, .int a2)]) (pc := 61) K d_M_bent_61 (by decide) rfl ?_
        refine gk_aload_n (pc := 63) K d_M_bent_63 rfl ?_
        obtain ⟨v12, m11, em11, h⟩ := gk_bi_some h
        refine gk_cVi (As := []) (pc := 64) K d_M_bent_64 mv_M_297 mc_M_allGuilts rfl tm_0 cl_ok10.1 (s_M_allGuilts (gk_FD K)  em11) (by decide) rfl (Nat.le_of_ble_eq_true rfl) ?_
        refine gk_aload_n (pc := 67) K d_M_bent_67 rfl ?_
        refine gk_iload (pc := 68) K d_M_bent_68 rfl ?_
        refine gk_iload (pc := 70) K d_M_bent_70 rfl ?_
        refine gk_iload_n (pc := 72) K d_M_bent_72 rfl ?_
        obtain ⟨v14, m13, em13, h⟩ := gk_bi_some h
        refine gk_cVi (As := [.int v8, .int v10, .int v5]) (pc := 73) K d_M_bent_73 mv_M_340 mc_M_guiltsBetween rfl tm_0 cl_ok10.1 (s_M_guiltsBetween (gk_FD K)  em13) (by decide) rfl (Nat.le_of_ble_eq_true rfl) ?_
        refine gk_isub (pc := 76) K d_M_bent_76 ?_
        refine gk_topi h (fun v15 h => ?_)
        refine gk_istore (lv2 := [(6, .int v15), (5, .int v10), (4, .int v8), (3, .int v5), (0, .ref 0), (1, .int a1), (2, .int a2)]) (pc := 77) K d_M_bent_77 (by decide) rfl ?_
        refine gk_iconst (pc := 79) K d_M_bent_79 kc_m1 ?_
        refine gk_istore (lv2 := [(7, .int (-1)), (6, .int v15), (5, .int v10), (4, .int v8), (3, .int v5), (0, .ref 0), (1, .int a1), (2, .int a2)]) (pc := 80) K d_M_bent_80 (by decide) rfl ?_
        refine gk_iconst (pc := 82) K d_M_bent_82 kc_0 ?_
        refine gk_istore (lv2 := [(8, .int 0), (7, .int (-1)), (6, .int v15), (5, .int v10), (4, .int v8), (3, .int v5), (0, .ref 0), (1, .int a1), (2, .int a2)]) (pc := 83) K d_M_bent_83 (by decide) rfl ?_
        refine gk_iconst (pc := 85) K d_M_bent_85 kc_0 ?_
        refine gk_istore (lv2 := [(9, .int 0), (8, .int 0), (7, .int (-1)), (6, .int v15), (5, .int v10), (4, .int v8), (3, .int v5), (0, .ref 0), (1, .int a1), (2, .int a2)]) (pc := 86) K d_M_bent_86 (by decide) rfl ?_
        exact gk_sub [7, 9, 6, 5, 4, 3, 2, 1, 0] rfl (s_M_bent_88 K _ _ _ _ _ _ _ _ _ _  h)
      · refine gk_bipush (pc := 36) K d_M_bent_36 kb_m5 ?_
        exact gk_iret (pc := 38) K d_M_bent_38 rfl h
    · refine gk_iconst (pc := 18) K d_M_bent_18 kc_m1 ?_
      exact gk_iret (pc := 19) K d_M_bent_19 rfl h
theorem s_M_bent {l : Launch} {u : gk_U} (hD : gk_D tm u) {a1 : Int32} {a2 : Int32} {m0 mem2 : gk_M} {r : Int32} (h : f_M_bent a1 a2 m0 = some (r, mem2)) : gk_C tm l u me_M_bent 74 [.ref 0, .int a1, .int a2] m0 (some (.int r)) mem2 :=
  gk_enter hD mc_M_bent (Nat.le_of_ble_eq_true rfl) rfl (fun z _ _ K => s_M_bent_0 K _ _ _  h)
