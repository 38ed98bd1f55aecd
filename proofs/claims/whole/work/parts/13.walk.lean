theorem d_Plain_guiltsBetween_0 : decode me_Plain_guiltsBetween.2.1 0 = .ok (.iconst 0, 1) := by decide +kernel
theorem d_Plain_guiltsBetween_1 : decode me_Plain_guiltsBetween.2.1 1 = .ok (.istore 5, 2) := by decide +kernel
theorem d_Plain_guiltsBetween_3 : decode me_Plain_guiltsBetween.2.1 3 = .ok (.iconst 0, 1) := by decide +kernel
theorem d_Plain_guiltsBetween_4 : decode me_Plain_guiltsBetween.2.1 4 = .ok (.istore 6, 2) := by decide +kernel
theorem d_Plain_guiltsBetween_6 : decode me_Plain_guiltsBetween.2.1 6 = .ok (.iload 6, 2) := by decide +kernel
theorem d_Plain_guiltsBetween_8 : decode me_Plain_guiltsBetween.2.1 8 = .ok (.aload_n 0, 1) := by decide +kernel
theorem d_Plain_guiltsBetween_9 : decode me_Plain_guiltsBetween.2.1 9 = .ok (.getfield 27, 3) := by decide +kernel
theorem d_Plain_guiltsBetween_12 : decode me_Plain_guiltsBetween.2.1 12 = .ok (.if_icmp .ge 55, 3) := by decide +kernel
theorem d_Plain_guiltsBetween_15 : decode me_Plain_guiltsBetween.2.1 15 = .ok (.iload 6, 2) := by decide +kernel
theorem d_Plain_guiltsBetween_17 : decode me_Plain_guiltsBetween.2.1 17 = .ok (.iconst 1, 1) := by decide +kernel
theorem d_Plain_guiltsBetween_18 : decode me_Plain_guiltsBetween.2.1 18 = .ok (.iadd, 1) := by decide +kernel
theorem d_Plain_guiltsBetween_19 : decode me_Plain_guiltsBetween.2.1 19 = .ok (.istore 7, 2) := by decide +kernel
theorem d_Plain_guiltsBetween_21 : decode me_Plain_guiltsBetween.2.1 21 = .ok (.iload 7, 2) := by decide +kernel
theorem d_Plain_guiltsBetween_23 : decode me_Plain_guiltsBetween.2.1 23 = .ok (.aload_n 0, 1) := by decide +kernel
theorem d_Plain_guiltsBetween_24 : decode me_Plain_guiltsBetween.2.1 24 = .ok (.getfield 27, 3) := by decide +kernel
theorem d_Plain_guiltsBetween_27 : decode me_Plain_guiltsBetween.2.1 27 = .ok (.if_icmp .ge 34, 3) := by decide +kernel
theorem d_Plain_guiltsBetween_30 : decode me_Plain_guiltsBetween.2.1 30 = .ok (.iload 5, 2) := by decide +kernel
theorem d_Plain_guiltsBetween_32 : decode me_Plain_guiltsBetween.2.1 32 = .ok (.iload 4, 2) := by decide +kernel
theorem d_Plain_guiltsBetween_34 : decode me_Plain_guiltsBetween.2.1 34 = .ok (.if_icmp .ge 27, 3) := by decide +kernel
theorem d_Plain_guiltsBetween_37 : decode me_Plain_guiltsBetween.2.1 37 = .ok (.aload_n 0, 1) := by decide +kernel
theorem d_Plain_guiltsBetween_38 : decode me_Plain_guiltsBetween.2.1 38 = .ok (.iload_n 1, 1) := by decide +kernel
theorem d_Plain_guiltsBetween_39 : decode me_Plain_guiltsBetween.2.1 39 = .ok (.iload_n 2, 1) := by decide +kernel
theorem d_Plain_guiltsBetween_40 : decode me_Plain_guiltsBetween.2.1 40 = .ok (.iload_n 3, 1) := by decide +kernel
theorem d_Plain_guiltsBetween_41 : decode me_Plain_guiltsBetween.2.1 41 = .ok (.iload 6, 2) := by decide +kernel
theorem d_Plain_guiltsBetween_43 : decode me_Plain_guiltsBetween.2.1 43 = .ok (.iload 7, 2) := by decide +kernel
theorem d_Plain_guiltsBetween_45 : decode me_Plain_guiltsBetween.2.1 45 = .ok (.invokevirtual 146, 3) := by decide +kernel
theorem d_Plain_guiltsBetween_48 : decode me_Plain_guiltsBetween.2.1 48 = .ok (.iconst (-1), 1) := by decide +kernel
theorem d_Plain_guiltsBetween_49 : decode me_Plain_guiltsBetween.2.1 49 = .ok (.if_icmp .eq 6, 3) := by decide +kernel
theorem d_Plain_guiltsBetween_52 : decode me_Plain_guiltsBetween.2.1 52 = .ok (.iinc 5 1, 3) := by decide +kernel
theorem d_Plain_guiltsBetween_55 : decode me_Plain_guiltsBetween.2.1 55 = .ok (.iinc 7 1, 3) := by decide +kernel
theorem d_Plain_guiltsBetween_58 : decode me_Plain_guiltsBetween.2.1 58 = .ok (.goto (-37), 3) := by decide +kernel
theorem d_Plain_guiltsBetween_61 : decode me_Plain_guiltsBetween.2.1 61 = .ok (.iinc 6 1, 3) := by decide +kernel
theorem d_Plain_guiltsBetween_64 : decode me_Plain_guiltsBetween.2.1 64 = .ok (.goto (-58), 3) := by decide +kernel
theorem d_Plain_guiltsBetween_67 : decode me_Plain_guiltsBetween.2.1 67 = .ok (.iload 5, 2) := by decide +kernel
theorem d_Plain_guiltsBetween_69 : decode me_Plain_guiltsBetween.2.1 69 = .ok (.ireturn, 1) := by decide +kernel
noncomputable def f_Plain_guiltsBetween_21 (k6 : Int32 → Int32 → Int32 → Int32 → Int32 → Int32 → gk_M → Option (Int32 × gk_M)) : Nat → Int32 → Int32 → Int32 → Int32 → Int32 → Int32 → Int32 → gk_M → Option (Int32 × gk_M)
  | 0, _, _, _, _, _, _, _, _ => none
  | n + 1, a1, a2, a3, a4, a5, a6, a7, m0 =>
    if (m0.1 7 5) ≤ a7 then
      k6 a1 a2 a3 a4 a5 (a6 + 1) m0
    else
      if a4 ≤ a5 then
        k6 a1 a2 a3 a4 a5 (a6 + 1) m0
      else
        gk_bi (f_Plain_guiltBetween a1 a2 a3 a6 a7 m0) fun v2 m1 =>
        if v2 = (-1) then
          f_Plain_guiltsBetween_21 k6 n a1 a2 a3 a4 a5 a6 (a7 + 1) m1
        else
          f_Plain_guiltsBetween_21 k6 n a1 a2 a3 a4 (a5 + 1) a6 (a7 + 1) m1

theorem s_Plain_guiltsBetween_21 {z : gk_Z} (K : gk_F tx z me_Plain_guiltsBetween 6) {r : Int32} {mem2 : gk_M} {k6 : Int32 → Int32 → Int32 → Int32 → Int32 → Int32 → gk_M → Option (Int32 × gk_M)} (hk6 : ∀ a1 a2 a3 a4 a5 a6 m0, k6 a1 a2 a3 a4 a5 a6 m0 = some (r, mem2) → gk_G tx z me_Plain_guiltsBetween (gk_R tx z (some (.int r)) mem2) m0 [(0, .ref 7), (1, .int a1), (2, .int a2), (3, .int a3), (4, .int a4), (5, .int a5), (6, .int a6)] [] 6) : ∀ n a1 a2 a3 a4 a5 a6 a7 m0, f_Plain_guiltsBetween_21 k6 n a1 a2 a3 a4 a5 a6 a7 m0 = some (r, mem2) → gk_G tx z me_Plain_guiltsBetween (gk_R tx z (some (.int r)) mem2) m0 [(0, .ref 7), (1, .int a1), (2, .int a2), (3, .int a3), (4, .int a4), (5, .int a5), (6, .int a6), (7, .int a7)] [] 21 := by
  intro n
  induction n with
  | zero => intro a1 a2 a3 a4 a5 a6 a7 m0  h; exact nomatch (show (none : Option _) = some _ from h)
  | succ n ih =>
    intro a1 a2 a3 a4 a5 a6 a7 m0  h
    unfold f_Plain_guiltsBetween_21 at h
    refine gk_iload (pc := 21) K d_Plain_guiltsBetween_21 rfl ?_
    refine gk_aload_n (pc := 23) K d_Plain_guiltsBetween_23 rfl ?_
    refine gk_get (pc := 24) K d_Plain_guiltsBetween_24 fl_Plain_27 tx_7 rfl rfl ?_
    refine gk_ic_ge (tgt := 61) (pc := 27) K d_Plain_guiltsBetween_27 (by decide) h (fun h => ?_) (fun h => ?_)
    · refine gk_iinc2 (lv2 := [(6, .int (a6 + 1)), (0, .ref 7), (1, .int a1), (2, .int a2), (3, .int a3), (4, .int a4), (5, .int a5), (7, .int a7)]) (pc := 61) K d_Plain_guiltsBetween_61 rfl kc_1 (by decide) rfl ?_
      refine gk_goto (tgt := 6) (pc := 64) K d_Plain_guiltsBetween_64 (by decide) ?_
      exact gk_sub [1, 2, 3, 4, 5, 6, 0] rfl (hk6 _ _ _ _ _ _ _  h)
    · refine gk_iload (pc := 30) K d_Plain_guiltsBetween_30 rfl ?_
      refine gk_iload (pc := 32) K d_Plain_guiltsBetween_32 rfl ?_
      refine gk_ic_ge (tgt := 61) (pc := 34) K d_Plain_guiltsBetween_34 (by decide) h (fun h => ?_) (fun h => ?_)
      · refine gk_iinc2 (lv2 := [(6, .int (a6 + 1)), (0, .ref 7), (1, .int a1), (2, .int a2), (3, .int a3), (4, .int a4), (5, .int a5), (7, .int a7)]) (pc := 61) K d_Plain_guiltsBetween_61 rfl kc_1 (by decide) rfl ?_
        refine gk_goto (tgt := 6) (pc := 64) K d_Plain_guiltsBetween_64 (by decide) ?_
        exact gk_sub [1, 2, 3, 4, 5, 6, 0] rfl (hk6 _ _ _ _ _ _ _  h)
      · refine gk_aload_n (pc := 37) K d_Plain_guiltsBetween_37 rfl ?_
        refine gk_iload_n (pc := 38) K d_Plain_guiltsBetween_38 rfl ?_
        refine gk_iload_n (pc := 39) K d_Plain_guiltsBetween_39 rfl ?_
        refine gk_iload_n (pc := 40) K d_Plain_guiltsBetween_40 rfl ?_
        refine gk_iload (pc := 41) K d_Plain_guiltsBetween_41 rfl ?_
        refine gk_iload (pc := 43) K d_Plain_guiltsBetween_43 rfl ?_
        obtain ⟨v2, m1, em1, h⟩ := gk_bi_some h
        refine gk_cVi (As := [.int a1, .int a2, .int a3, .int a6, .int a7]) (pc := 45) K d_Plain_guiltsBetween_45 mv_Plain_146 mc_Plain_guiltBetween rfl tx_7 cl_ok2.1 (s_Plain_guiltBetween (gk_FD K)  em1) (by decide) rfl (Nat.le_of_ble_eq_true rfl) ?_
        refine gk_iconst (pc := 48) K d_Plain_guiltsBetween_48 kc_m1 ?_
        refine gk_ic_eq (tgt := 55) (pc := 49) K d_Plain_guiltsBetween_49 (by decide) h (fun h => ?_) (fun h => ?_)
        · refine gk_iinc2 (lv2 := [(7, .int (a7 + 1)), (0, .ref 7), (1, .int a1), (2, .int a2), (3, .int a3), (4, .int a4), (5, .int a5), (6, .int a6)]) (pc := 55) K d_Plain_guiltsBetween_55 rfl kc_1 (by decide) rfl ?_
          refine gk_goto (tgt := 21) (pc := 58) K d_Plain_guiltsBetween_58 (by decide) ?_
          exact gk_sub [1, 2, 3, 4, 5, 6, 7, 0] rfl (ih _ _ _ _ _ _ _ _  h)
        · refine gk_iinc2 (lv2 := [(5, .int (a5 + 1)), (0, .ref 7), (1, .int a1), (2, .int a2), (3, .int a3), (4, .int a4), (6, .int a6), (7, .int a7)]) (pc := 52) K d_Plain_guiltsBetween_52 rfl kc_1 (by decide) rfl ?_
          refine gk_iinc2 (lv2 := [(7, .int (a7 + 1)), (5, .int (a5 + 1)), (0, .ref 7), (1, .int a1), (2, .int a2), (3, .int a3), (4, .int a4), (6, .int a6)]) (pc := 55) K d_Plain_guiltsBetween_55 rfl kc_1 (by decide) rfl ?_
          refine gk_goto (tgt := 21) (pc := 58) K d_Plain_guiltsBetween_58 (by decide) ?_
          exact gk_sub [2, 3, 4, 5, 6, 1, 7, 0] rfl (ih _ _ _ _ _ _ _ _  h)
noncomputable def f_Plain_guiltsBetween_6  : Nat → Int32 → Int32 → Int32 → Int32 → Int32 → Int32 → gk_M → Option (Int32 × gk_M)
  | 0, _, _, _, _, _, _, _ => none
  | n + 1, a1, a2, a3, a4, a5, a6, m0 =>
    if (m0.1 7 5) ≤ a6 then
      some (a5, m0)
    else
      gk_let (a6 + 1) fun v1 =>
      f_Plain_guiltsBetween_21 (f_Plain_guiltsBetween_6 n) gk_fv a1 a2 a3 a4 a5 a6 v1 m0

theorem s_Plain_guiltsBetween_6 {z : gk_Z} (K : gk_F tx z me_Plain_guiltsBetween 6) {r : Int32} {mem2 : gk_M} : ∀ n a1 a2 a3 a4 a5 a6 m0, f_Plain_guiltsBetween_6 n a1 a2 a3 a4 a5 a6 m0 = some (r, mem2) → gk_G tx z me_Plain_guiltsBetween (gk_R tx z (some (.int r)) mem2) m0 [(0, .ref 7), (1, .int a1), (2, .int a2), (3, .int a3), (4, .int a4), (5, .int a5), (6, .int a6)] [] 6 := by
  intro n
  induction n with
  | zero => intro a1 a2 a3 a4 a5 a6 m0  h; exact nomatch (show (none : Option _) = some _ from h)
  | succ n ih =>
    intro a1 a2 a3 a4 a5 a6 m0  h
    unfold f_Plain_guiltsBetween_6 at h
    refine gk_iload (pc := 6) K d_Plain_guiltsBetween_6 rfl ?_
    refine gk_aload_n (pc := 8) K d_Plain_guiltsBetween_8 rfl ?_
    refine gk_get (pc := 9) K d_Plain_guiltsBetween_9 fl_Plain_27 tx_7 rfl rfl ?_
    refine gk_ic_ge (tgt := 67) (pc := 12) K d_Plain_guiltsBetween_12 (by decide) h (fun h => ?_) (fun h => ?_)
    · refine gk_iload (pc := 67) K d_Plain_guiltsBetween_67 rfl ?_
      exact gk_iret (pc := 69) K d_Plain_guiltsBetween_69 rfl h
    · refine gk_iload (pc := 15) K d_Plain_guiltsBetween_15 rfl ?_
      refine gk_iconst (pc := 17) K d_Plain_guiltsBetween_17 kc_1 ?_
      refine gk_iadd (pc := 18) K d_Plain_guiltsBetween_18 ?_
      refine gk_topi h (fun v1 h => ?_)
      refine gk_istore (lv2 := [(7, .int v1), (0, .ref 7), (1, .int a1), (2, .int a2), (3, .int a3), (4, .int a4), (5, .int a5), (6, .int a6)]) (pc := 19) K d_Plain_guiltsBetween_19 (by decide) rfl ?_
      exact gk_sub [1, 2, 3, 4, 5, 6, 7, 0] rfl (s_Plain_guiltsBetween_21 K (fun x0 x1 x2 x3 x4 x5 m  h => ih x0 x1 x2 x3 x4 x5 m  h) _ _ _ _ _ _ _ _ _  h)
noncomputable def f_Plain_guiltsBetween  (a1 : Int32) (a2 : Int32) (a3 : Int32) (a4 : Int32) (m0 : gk_M) : Option (Int32 × gk_M) :=
  f_Plain_guiltsBetween_6 gk_fv a1 a2 a3 a4 0 0 m0

theorem s_Plain_guiltsBetween_0 {z : gk_Z} (K : gk_F tx z me_Plain_guiltsBetween 6) {r : Int32} {mem2 : gk_M} : ∀ a1 a2 a3 a4 m0, f_Plain_guiltsBetween a1 a2 a3 a4 m0 = some (r, mem2) → gk_G tx z me_Plain_guiltsBetween (gk_R tx z (some (.int r)) mem2) m0 [(0, .ref 7), (1, .int a1), (2, .int a2), (3, .int a3), (4, .int a4)] [] 0 := by
  intro a1 a2 a3 a4 m0  h
  unfold f_Plain_guiltsBetween at h
  refine gk_iconst (pc := 0) K d_Plain_guiltsBetween_0 kc_0 ?_
  refine gk_istore (lv2 := [(5, .int 0), (0, .ref 7), (1, .int a1), (2, .int a2), (3, .int a3), (4, .int a4)]) (pc := 1) K d_Plain_guiltsBetween_1 (by decide) rfl ?_
  refine gk_iconst (pc := 3) K d_Plain_guiltsBetween_3 kc_0 ?_
  refine gk_istore (lv2 := [(6, .int 0), (5, .int 0), (0, .ref 7), (1, .int a1), (2, .int a2), (3, .int a3), (4, .int a4)]) (pc := 4) K d_Plain_guiltsBetween_4 (by decide) rfl ?_
  exact gk_sub [2, 3, 4, 5, 6, 1, 0] rfl (s_Plain_guiltsBetween_6 K _ _ _ _ _ _ _ _  h)
theorem s_Plain_guiltsBetween {l : Launch} {u : gk_U} (hD : gk_D tx u) {a1 : Int32} {a2 : Int32} {a3 : Int32} {a4 : Int32} {m0 mem2 : gk_M} {r : Int32} (h : f_Plain_guiltsBetween a1 a2 a3 a4 m0 = some (r, mem2)) : gk_C tx l u me_Plain_guiltsBetween 6 [.ref 7, .int a1, .int a2, .int a3, .int a4] m0 (some (.int r)) mem2 :=
  gk_enter hD mc_Plain_guiltsBetween (Nat.le_of_ble_eq_true rfl) rfl (fun z _ _ K => s_Plain_guiltsBetween_0 K _ _ _ _ _  h)
theorem d_Plain_allGuilts_0 : decode me_Plain_allGuilts.2.1 0 = .ok (.iconst 0, 1) := by decide +kernel
theorem d_Plain_allGuilts_1 : decode me_Plain_allGuilts.2.1 1 = .ok (.istore_n 1, 1) := by decide +kernel
theorem d_Plain_allGuilts_2 : decode me_Plain_allGuilts.2.1 2 = .ok (.iconst 0, 1) := by decide +kernel
theorem d_Plain_allGuilts_3 : decode me_Plain_allGuilts.2.1 3 = .ok (.istore_n 2, 1) := by decide +kernel
theorem d_Plain_allGuilts_4 : decode me_Plain_allGuilts.2.1 4 = .ok (.iload_n 2, 1) := by decide +kernel
theorem d_Plain_allGuilts_5 : decode me_Plain_allGuilts.2.1 5 = .ok (.aload_n 0, 1) := by decide +kernel
theorem d_Plain_allGuilts_6 : decode me_Plain_allGuilts.2.1 6 = .ok (.getfield 34, 3) := by decide +kernel
theorem d_Plain_allGuilts_9 : decode me_Plain_allGuilts.2.1 9 = .ok (.if_icmp .ge 53, 3) := by decide +kernel
theorem d_Plain_allGuilts_12 : decode me_Plain_allGuilts.2.1 12 = .ok (.iconst 0, 1) := by decide +kernel
theorem d_Plain_allGuilts_13 : decode me_Plain_allGuilts.2.1 13 = .ok (.istore_n 3, 1) := by decide +kernel
theorem d_Plain_allGuilts_14 : decode me_Plain_allGuilts.2.1 14 = .ok (.iload_n 3, 1) := by decide +kernel
theorem d_Plain_allGuilts_15 : decode me_Plain_allGuilts.2.1 15 = .ok (.iconst 1, 1) := by decide +kernel
theorem d_Plain_allGuilts_16 : decode me_Plain_allGuilts.2.1 16 = .ok (.iadd, 1) := by decide +kernel
theorem d_Plain_allGuilts_17 : decode me_Plain_allGuilts.2.1 17 = .ok (.aload_n 0, 1) := by decide +kernel
theorem d_Plain_allGuilts_18 : decode me_Plain_allGuilts.2.1 18 = .ok (.getfield 31, 3) := by decide +kernel
theorem d_Plain_allGuilts_21 : decode me_Plain_allGuilts.2.1 21 = .ok (.iload_n 2, 1) := by decide +kernel
theorem d_Plain_allGuilts_22 : decode me_Plain_allGuilts.2.1 22 = .ok (.iaload, 1) := by decide +kernel
theorem d_Plain_allGuilts_23 : decode me_Plain_allGuilts.2.1 23 = .ok (.if_icmp .ge 33, 3) := by decide +kernel
theorem d_Plain_allGuilts_26 : decode me_Plain_allGuilts.2.1 26 = .ok (.iload_n 1, 1) := by decide +kernel
theorem d_Plain_allGuilts_27 : decode me_Plain_allGuilts.2.1 27 = .ok (.aload_n 0, 1) := by decide +kernel
theorem d_Plain_allGuilts_28 : decode me_Plain_allGuilts.2.1 28 = .ok (.aload_n 0, 1) := by decide +kernel
theorem d_Plain_allGuilts_29 : decode me_Plain_allGuilts.2.1 29 = .ok (.iload_n 2, 1) := by decide +kernel
theorem d_Plain_allGuilts_30 : decode me_Plain_allGuilts.2.1 30 = .ok (.iload_n 3, 1) := by decide +kernel
theorem d_Plain_allGuilts_31 : decode me_Plain_allGuilts.2.1 31 = .ok (.invokevirtual 100, 3) := by decide +kernel
theorem d_Plain_allGuilts_34 : decode me_Plain_allGuilts.2.1 34 = .ok (.aload_n 0, 1) := by decide +kernel
theorem d_Plain_allGuilts_35 : decode me_Plain_allGuilts.2.1 35 = .ok (.iload_n 2, 1) := by decide +kernel
theorem d_Plain_allGuilts_36 : decode me_Plain_allGuilts.2.1 36 = .ok (.iload_n 3, 1) := by decide +kernel
theorem d_Plain_allGuilts_37 : decode me_Plain_allGuilts.2.1 37 = .ok (.iconst 1, 1) := by decide +kernel
theorem d_Plain_allGuilts_38 : decode me_Plain_allGuilts.2.1 38 = .ok (.iadd, 1) := by decide +kernel
theorem d_Plain_allGuilts_39 : decode me_Plain_allGuilts.2.1 39 = .ok (.invokevirtual 100, 3) := by decide +kernel
theorem d_Plain_allGuilts_42 : decode me_Plain_allGuilts.2.1 42 = .ok (.iload_n 2, 1) := by decide +kernel
theorem d_Plain_allGuilts_43 : decode me_Plain_allGuilts.2.1 43 = .ok (.ldc 150, 2) := by decide +kernel
theorem d_Plain_allGuilts_45 : decode me_Plain_allGuilts.2.1 45 = .ok (.invokevirtual 151, 3) := by decide +kernel
theorem d_Plain_allGuilts_48 : decode me_Plain_allGuilts.2.1 48 = .ok (.iadd, 1) := by decide +kernel
theorem d_Plain_allGuilts_49 : decode me_Plain_allGuilts.2.1 49 = .ok (.istore_n 1, 1) := by decide +kernel
theorem d_Plain_allGuilts_50 : decode me_Plain_allGuilts.2.1 50 = .ok (.iinc 3 1, 3) := by decide +kernel
theorem d_Plain_allGuilts_53 : decode me_Plain_allGuilts.2.1 53 = .ok (.goto (-39), 3) := by decide +kernel
theorem d_Plain_allGuilts_56 : decode me_Plain_allGuilts.2.1 56 = .ok (.iinc 2 1, 3) := by decide +kernel
theorem d_Plain_allGuilts_59 : decode me_Plain_allGuilts.2.1 59 = .ok (.goto (-55), 3) := by decide +kernel
theorem d_Plain_allGuilts_62 : decode me_Plain_allGuilts.2.1 62 = .ok (.iload_n 1, 1) := by decide +kernel
theorem d_Plain_allGuilts_63 : decode me_Plain_allGuilts.2.1 63 = .ok (.ireturn, 1) := by decide +kernel
noncomputable def f_Plain_allGuilts_14 (k4 : Int32 → Int32 → gk_M → Option (Int32 × gk_M)) : Nat → Int32 → Int32 → Int32 → gk_M → Option (Int32 × gk_M)
  | 0, _, _, _, _ => none
  | n + 1, a1, a2, a3, m0 =>
    gk_ai m0 13 4 a2 fun v1 =>
    if v1 ≤ (a3 + 1) then
      k4 a1 (a2 + 1) m0
    else
      gk_bi (f_Plain_cornerAt a2 a3 m0) fun v3 m2 =>
      gk_bi (f_Plain_cornerAt a2 (a3 + 1) m2) fun v5 m4 =>
      gk_bi (f_Plain_guiltsBetween v3 v5 a2 1000000 m4) fun v7 m6 =>
      gk_let (a1 + v7) fun v8 =>
      f_Plain_allGuilts_14 k4 n v8 a2 (a3 + 1) m6

theorem s_Plain_allGuilts_14 {z : gk_Z} (K : gk_F tx z me_Plain_allGuilts 7) {r : Int32} {mem2 : gk_M} {k4 : Int32 → Int32 → gk_M → Option (Int32 × gk_M)} (hk4 : ∀ a1 a2 m0, k4 a1 a2 m0 = some (r, mem2) → gk_G tx z me_Plain_allGuilts (gk_R tx z (some (.int r)) mem2) m0 [(0, .ref 7), (1, .int a1), (2, .int a2)] [] 4) : ∀ n a1 a2 a3 m0, f_Plain_allGuilts_14 k4 n a1 a2 a3 m0 = some (r, mem2) → gk_G tx z me_Plain_allGuilts (gk_R tx z (some (.int r)) mem2) m0 [(0, .ref 7), (1, .int a1), (2, .int a2), (3, .int a3)] [] 14 := by
  intro n
  induction n with
  | zero => intro a1 a2 a3 m0  h; exact nomatch (show (none : Option _) = some _ from h)
  | succ n ih =>
    intro a1 a2 a3 m0  h
    unfold f_Plain_allGuilts_14 at h
    refine gk_iload_n (pc := 14) K d_Plain_allGuilts_14 rfl ?_
    refine gk_iconst (pc := 15) K d_Plain_allGuilts_15 kc_1 ?_
    refine gk_iadd (pc := 16) K d_Plain_allGuilts_16 ?_
    refine gk_aload_n (pc := 17) K d_Plain_allGuilts_17 rfl ?_
    refine gk_get (pc := 18) K d_Plain_allGuilts_18 fl_Plain_31 tx_7 rfl rfl ?_
    refine gk_iload_n (pc := 21) K d_Plain_allGuilts_21 rfl ?_
    refine gk_iald (pc := 22) K d_Plain_allGuilts_22 tx_13 h (fun v1 h => ?_)
    refine gk_ic_ge (tgt := 56) (pc := 23) K d_Plain_allGuilts_23 (by decide) h (fun h => ?_) (fun h => ?_)
    · refine gk_iinc2 (lv2 := [(2, .int (a2 + 1)), (0, .ref 7), (1, .int a1), (3, .int a3)]) (pc := 56) K d_Plain_allGuilts_56 rfl kc_1 (by decide) rfl ?_
      refine gk_goto (tgt := 4) (pc := 59) K d_Plain_allGuilts_59 (by decide) ?_
      exact gk_sub [1, 2, 0] rfl (hk4 _ _ _  h)
    · refine gk_iload_n (pc := 26) K d_Plain_allGuilts_26 rfl ?_
      refine gk_aload_n (pc := 27) K d_Plain_allGuilts_27 rfl ?_
      refine gk_aload_n (pc := 28) K d_Plain_allGuilts_28 rfl ?_
      refine gk_iload_n (pc := 29) K d_Plain_allGuilts_29 rfl ?_
      refine gk_iload_n (pc := 30) K d_Plain_allGuilts_30 rfl ?_
      obtain ⟨v3, m2, em2, h⟩ := gk_bi_some h
      refine gk_cVi (As := [.int a2, .int a3]) (pc := 31) K d_Plain_allGuilts_31 mv_Plain_100 mc_Plain_cornerAt rfl tx_7 cl_ok2.1 (s_Plain_cornerAt (gk_FD K)  em2) (by decide) rfl (Nat.le_of_ble_eq_true rfl) ?_
      refine gk_aload_n (pc := 34) K d_Plain_allGuilts_34 rfl ?_
      refine gk_iload_n (pc := 35) K d_Plain_allGuilts_35 rfl ?_
      refine gk_iload_n (pc := 36) K d_Plain_allGuilts_36 rfl ?_
      refine gk_iconst (pc := 37) K d_Plain_allGuilts_37 kc_1 ?_
      refine gk_iadd (pc := 38) K d_Plain_allGuilts_38 ?_
      obtain ⟨v5, m4, em4, h⟩ := gk_bi_some h
      refine gk_cVi (As := [.int a2, .int (a3 + 1)]) (pc := 39) K d_Plain_allGuilts_39 mv_Plain_100 mc_Plain_cornerAt rfl tx_7 cl_ok2.1 (s_Plain_cornerAt (gk_FD K)  em4) (by decide) rfl (Nat.le_of_ble_eq_true rfl) ?_
      refine gk_iload_n (pc := 42) K d_Plain_allGuilts_42 rfl ?_
      refine gk_ldc (pc := 43) K d_Plain_allGuilts_43 lc_Plain_150 ?_
      obtain ⟨v7, m6, em6, h⟩ := gk_bi_some h
      refine gk_cVi (As := [.int v3, .int v5, .int a2, .int 1000000]) (pc := 45) K d_Plain_allGuilts_45 mv_Plain_151 mc_Plain_guiltsBetween rfl tx_7 cl_ok2.1 (s_Plain_guiltsBetween (gk_FD K)  em6) (by decide) rfl (Nat.le_of_ble_eq_true rfl) ?_
      refine gk_iadd (pc := 48) K d_Plain_allGuilts_48 ?_
      refine gk_topi h (fun v8 h => ?_)
      refine gk_istore_n (lv2 := [(1, .int v8), (0, .ref 7), (2, .int a2), (3, .int a3)]) (pc := 49) K d_Plain_allGuilts_49 (by decide) rfl ?_
      refine gk_iinc2 (lv2 := [(3, .int (a3 + 1)), (1, .int v8), (0, .ref 7), (2, .int a2)]) (pc := 50) K d_Plain_allGuilts_50 rfl kc_1 (by decide) rfl ?_
      refine gk_goto (tgt := 14) (pc := 53) K d_Plain_allGuilts_53 (by decide) ?_
      exact gk_sub [2, 1, 3, 0] rfl (ih _ _ _ _  h)
noncomputable def f_Plain_allGuilts_4  : Nat → Int32 → Int32 → gk_M → Option (Int32 × gk_M)
  | 0, _, _, _ => none
  | n + 1, a1, a2, m0 =>
    if (m0.1 7 7) ≤ a2 then
      some (a1, m0)
    else
      f_Plain_allGuilts_14 (f_Plain_allGuilts_4 n) gk_fv a1 a2 0 m0

theorem s_Plain_allGuilts_4 {z : gk_Z} (K : gk_F tx z me_Plain_allGuilts 7) {r : Int32} {mem2 : gk_M} : ∀ n a1 a2 m0, f_Plain_allGuilts_4 n a1 a2 m0 = some (r, mem2) → gk_G tx z me_Plain_allGuilts (gk_R tx z (some (.int r)) mem2) m0 [(0, .ref 7), (1, .int a1), (2, .int a2)] [] 4 := by
  intro n
  induction n with
  | zero => intro a1 a2 m0  h; exact nomatch (show (none : Option _) = some _ from h)
  | succ n ih =>
    intro a1 a2 m0  h
    unfold f_Plain_allGuilts_4 at h
    refine gk_iload_n (pc := 4) K d_Plain_allGuilts_4 rfl ?_
    refine gk_aload_n (pc := 5) K d_Plain_allGuilts_5 rfl ?_
    refine gk_get (pc := 6) K d_Plain_allGuilts_6 fl_Plain_34 tx_7 rfl rfl ?_
    refine gk_ic_ge (tgt := 62) (pc := 9) K d_Plain_allGuilts_9 (by decide) h (fun h => ?_) (fun h => ?_)
    · refine gk_iload_n (pc := 62) K d_Plain_allGuilts_62 rfl ?_
      exact gk_iret (pc := 63) K d_Plain_allGuilts_63 rfl h
    · refine gk_iconst (pc := 12) K d_Plain_allGuilts_12 kc_0 ?_
      refine gk_istore_n (lv2 := [(3, .int 0), (0, .ref 7), (1, .int a1), (2, .int a2)]) (pc := 13) K d_Plain_allGuilts_13 (by decide) rfl ?_
      exact gk_sub [1, 2, 3, 0] rfl (s_Plain_allGuilts_14 K (fun x0 x1 m  h => ih x0 x1 m  h) _ _ _ _ _  h)
noncomputable def f_Plain_allGuilts   (m0 : gk_M) : Option (Int32 × gk_M) :=
  f_Plain_allGuilts_4 gk_fv 0 0 m0

theorem s_Plain_allGuilts_0 {z : gk_Z} (K : gk_F tx z me_Plain_allGuilts 7) {r : Int32} {mem2 : gk_M} : ∀  m0, f_Plain_allGuilts  m0 = some (r, mem2) → gk_G tx z me_Plain_allGuilts (gk_R tx z (some (.int r)) mem2) m0 [(0, .ref 7)] [] 0 := by
  intro  m0  h
  unfold f_Plain_allGuilts at h
  refine gk_iconst (pc := 0) K d_Plain_allGuilts_0 kc_0 ?_
  refine gk_istore_n (lv2 := [(1, .int 0), (0, .ref 7)]) (pc := 1) K d_Plain_allGuilts_1 (by decide) rfl ?_
  refine gk_iconst (pc := 2) K d_Plain_allGuilts_2 kc_0 ?_
  refine gk_istore_n (lv2 := [(2, .int 0), (1, .int 0), (0, .ref 7)]) (pc := 3) K d_Plain_allGuilts_3 (by decide) rfl ?_
  exact gk_sub [2, 1, 0] rfl (s_Plain_allGuilts_4 K _ _ _ _  h)
theorem s_Plain_allGuilts {l : Launch} {u : gk_U} (hD : gk_D tx u) {m0 mem2 : gk_M} {r : Int32} (h : f_Plain_allGuilts  m0 = some (r, mem2)) : gk_C tx l u me_Plain_allGuilts 7 [.ref 7] m0 (some (.int r)) mem2 :=
  gk_enter hD mc_Plain_allGuilts (Nat.le_of_ble_eq_true rfl) rfl (fun z _ _ K => s_Plain_allGuilts_0 K  _  h)
theorem d_Plain_roadGuilts_0 : decode me_Plain_roadGuilts.2.1 0 = .ok (.iconst 0, 1) := by decide +kernel
theorem d_Plain_roadGuilts_1 : decode me_Plain_roadGuilts.2.1 1 = .ok (.istore_n 2, 1) := by decide +kernel
theorem d_Plain_roadGuilts_2 : decode me_Plain_roadGuilts.2.1 2 = .ok (.iconst 0, 1) := by decide +kernel
theorem d_Plain_roadGuilts_3 : decode me_Plain_roadGuilts.2.1 3 = .ok (.istore_n 3, 1) := by decide +kernel
theorem d_Plain_roadGuilts_4 : decode me_Plain_roadGuilts.2.1 4 = .ok (.iload_n 3, 1) := by decide +kernel
theorem d_Plain_roadGuilts_5 : decode me_Plain_roadGuilts.2.1 5 = .ok (.iconst 1, 1) := by decide +kernel
theorem d_Plain_roadGuilts_6 : decode me_Plain_roadGuilts.2.1 6 = .ok (.iadd, 1) := by decide +kernel
theorem d_Plain_roadGuilts_7 : decode me_Plain_roadGuilts.2.1 7 = .ok (.aload_n 0, 1) := by decide +kernel
theorem d_Plain_roadGuilts_8 : decode me_Plain_roadGuilts.2.1 8 = .ok (.getfield 31, 3) := by decide +kernel
theorem d_Plain_roadGuilts_11 : decode me_Plain_roadGuilts.2.1 11 = .ok (.iload_n 1, 1) := by decide +kernel
theorem d_Plain_roadGuilts_12 : decode me_Plain_roadGuilts.2.1 12 = .ok (.iaload, 1) := by decide +kernel
theorem d_Plain_roadGuilts_13 : decode me_Plain_roadGuilts.2.1 13 = .ok (.if_icmp .ge 33, 3) := by decide +kernel
theorem d_Plain_roadGuilts_16 : decode me_Plain_roadGuilts.2.1 16 = .ok (.iload_n 2, 1) := by decide +kernel
theorem d_Plain_roadGuilts_17 : decode me_Plain_roadGuilts.2.1 17 = .ok (.aload_n 0, 1) := by decide +kernel
theorem d_Plain_roadGuilts_18 : decode me_Plain_roadGuilts.2.1 18 = .ok (.aload_n 0, 1) := by decide +kernel
theorem d_Plain_roadGuilts_19 : decode me_Plain_roadGuilts.2.1 19 = .ok (.iload_n 1, 1) := by decide +kernel
theorem d_Plain_roadGuilts_20 : decode me_Plain_roadGuilts.2.1 20 = .ok (.iload_n 3, 1) := by decide +kernel
theorem d_Plain_roadGuilts_21 : decode me_Plain_roadGuilts.2.1 21 = .ok (.invokevirtual 100, 3) := by decide +kernel
theorem d_Plain_roadGuilts_24 : decode me_Plain_roadGuilts.2.1 24 = .ok (.aload_n 0, 1) := by decide +kernel
theorem d_Plain_roadGuilts_25 : decode me_Plain_roadGuilts.2.1 25 = .ok (.iload_n 1, 1) := by decide +kernel
theorem d_Plain_roadGuilts_26 : decode me_Plain_roadGuilts.2.1 26 = .ok (.iload_n 3, 1) := by decide +kernel
theorem d_Plain_roadGuilts_27 : decode me_Plain_roadGuilts.2.1 27 = .ok (.iconst 1, 1) := by decide +kernel
theorem d_Plain_roadGuilts_28 : decode me_Plain_roadGuilts.2.1 28 = .ok (.iadd, 1) := by decide +kernel
theorem d_Plain_roadGuilts_29 : decode me_Plain_roadGuilts.2.1 29 = .ok (.invokevirtual 100, 3) := by decide +kernel
theorem d_Plain_roadGuilts_32 : decode me_Plain_roadGuilts.2.1 32 = .ok (.iload_n 1, 1) := by decide +kernel
theorem d_Plain_roadGuilts_33 : decode me_Plain_roadGuilts.2.1 33 = .ok (.ldc 150, 2) := by decide +kernel
theorem d_Plain_roadGuilts_35 : decode me_Plain_roadGuilts.2.1 35 = .ok (.invokevirtual 151, 3) := by decide +kernel
theorem d_Plain_roadGuilts_38 : decode me_Plain_roadGuilts.2.1 38 = .ok (.iadd, 1) := by decide +kernel
theorem d_Plain_roadGuilts_39 : decode me_Plain_roadGuilts.2.1 39 = .ok (.istore_n 2, 1) := by decide +kernel
theorem d_Plain_roadGuilts_40 : decode me_Plain_roadGuilts.2.1 40 = .ok (.iinc 3 1, 3) := by decide +kernel
theorem d_Plain_roadGuilts_43 : decode me_Plain_roadGuilts.2.1 43 = .ok (.goto (-39), 3) := by decide +kernel
theorem d_Plain_roadGuilts_46 : decode me_Plain_roadGuilts.2.1 46 = .ok (.iload_n 2, 1) := by decide +kernel
theorem d_Plain_roadGuilts_47 : decode me_Plain_roadGuilts.2.1 47 = .ok (.ireturn, 1) := by decide +kernel
noncomputable def f_Plain_roadGuilts_4  : Nat → Int32 → Int32 → Int32 → gk_M → Option (Int32 × gk_M)
  | 0, _, _, _, _ => none
  | n + 1, a1, a2, a3, m0 =>
    gk_ai m0 13 4 a1 fun v1 =>
    if v1 ≤ (a3 + 1) then
      some (a2, m0)
    else
      gk_bi (f_Plain_cornerAt a1 a3 m0) fun v3 m2 =>
      gk_bi (f_Plain_cornerAt a1 (a3 + 1) m2) fun v5 m4 =>
      gk_bi (f_Plain_guiltsBetween v3 v5 a1 1000000 m4) fun v7 m6 =>
      gk_let (a2 + v7) fun v8 =>
      f_Plain_roadGuilts_4 n a1 v8 (a3 + 1) m6

theorem s_Plain_roadGuilts_4 {z : gk_Z} (K : gk_F tx z me_Plain_roadGuilts 7) {r : Int32} {mem2 : gk_M} : ∀ n a1 a2 a3 m0, f_Plain_roadGuilts_4 n a1 a2 a3 m0 = some (r, mem2) → gk_G tx z me_Plain_roadGuilts (gk_R tx z (some (.int r)) mem2) m0 [(0, .ref 7), (1, .int a1), (2, .int a2), (3, .int a3)] [] 4 := by
  intro n
  induction n with
  | zero => intro a1 a2 a3 m0  h; exact nomatch (show (none : Option _) = some _ from h)
  | succ n ih =>
    intro a1 a2 a3 m0  h
    unfold f_Plain_roadGuilts_4 at h
    refine gk_iload_n (pc := 4) K d_Plain_roadGuilts_4 rfl ?_
    refine gk_iconst (pc := 5) K d_Plain_roadGuilts_5 kc_1 ?_
    refine gk_iadd (pc := 6) K d_Plain_roadGuilts_6 ?_
    refine gk_aload_n (pc := 7) K d_Plain_roadGuilts_7 rfl ?_
    refine gk_get (pc := 8) K d_Plain_roadGuilts_8 fl_Plain_31 tx_7 rfl rfl ?_
    refine gk_iload_n (pc := 11) K d_Plain_roadGuilts_11 rfl ?_
    refine gk_iald (pc := 12) K d_Plain_roadGuilts_12 tx_13 h (fun v1 h => ?_)
    refine gk_ic_ge (tgt := 46) (pc := 13) K d_Plain_roadGuilts_13 (by decide) h (fun h => ?_) (fun h => ?_)
    · refine gk_iload_n (pc := 46) K d_Plain_roadGuilts_46 rfl ?_
      exact gk_iret (pc := 47) K d_Plain_roadGuilts_47 rfl h
    · refine gk_iload_n (pc := 16) K d_Plain_roadGuilts_16 rfl ?_
      refine gk_aload_n (pc := 17) K d_Plain_roadGuilts_17 rfl ?_
      refine gk_aload_n (pc := 18) K d_Plain_roadGuilts_18 rfl ?_
      refine gk_iload_n (pc := 19) K d_Plain_roadGuilts_19 rfl ?_
      refine gk_iload_n (pc := 20) K d_Plain_roadGuilts_20 rfl ?_
      obtain ⟨v3, m2, em2, h⟩ := gk_bi_some h
      refine gk_cVi (As := [.int a1, .int a3]) (pc := 21) K d_Plain_roadGuilts_21 mv_Plain_100 mc_Plain_cornerAt rfl tx_7 cl_ok2.1 (s_Plain_cornerAt (gk_FD K)  em2) (by decide) rfl (Nat.le_of_ble_eq_true rfl) ?_
      refine gk_aload_n (pc := 24) K d_Plain_roadGuilts_24 rfl ?_
      refine gk_iload_n (pc := 25) K d_Plain_roadGuilts_25 rfl ?_
      refine gk_iload_n (pc := 26) K d_Plain_roadGuilts_26 rfl ?_
      refine gk_iconst (pc := 27) K d_Plain_roadGuilts_27 kc_1 ?_
      refine gk_iadd (pc := 28) K d_Plain_roadGuilts_28 ?_
      obtain ⟨v5, m4, em4, h⟩ := gk_bi_some h
      refine gk_cVi (As := [.int a1, .int (a3 + 1)]) (pc := 29) K d_Plain_roadGuilts_29 mv_Plain_100 mc_Plain_cornerAt rfl tx_7 cl_ok2.1 (s_Plain_cornerAt (gk_FD K)  em4) (by decide) rfl (Nat.le_of_ble_eq_true rfl) ?_
      refine gk_iload_n (pc := 32) K d_Plain_roadGuilts_32 rfl ?_
      refine gk_ldc (pc := 33) K d_Plain_roadGuilts_33 lc_Plain_150 ?_
      obtain ⟨v7, m6, em6, h⟩ := gk_bi_some h
      refine gk_cVi (As := [.int v3, .int v5, .int a1, .int 1000000]) (pc := 35) K d_Plain_roadGuilts_35 mv_Plain_151 mc_Plain_guiltsBetween rfl tx_7 cl_ok2.1 (s_Plain_guiltsBetween (gk_FD K)  em6) (by decide) rfl (Nat.le_of_ble_eq_true rfl) ?_
      refine gk_iadd (pc := 38) K d_Plain_roadGuilts_38 ?_
      refine gk_topi h (fun v8 h => ?_)
      refine gk_istore_n (lv2 := [(2, .int v8), (0, .ref 7), (1, .int a1), (3, .int a3)]) (pc := 39) K d_Plain_roadGuilts_39 (by decide) rfl ?_
      refine gk_iinc2 (lv2 := [(3, .int (a3 + 1)), (2, .int v8), (0, .ref 7), (1, .int a1)]) (pc := 40) K d_Plain_roadGuilts_40 rfl kc_1 (by decide) rfl ?_
      refine gk_goto (tgt := 4) (pc := 43) K d_Plain_roadGuilts_43 (by decide) ?_
      exact gk_sub [2, 3, 1, 0] rfl (ih _ _ _ _  h)
noncomputable def f_Plain_roadGuilts  (a1 : Int32) (m0 : gk_M) : Option (Int32 × gk_M) :=
  f_Plain_roadGuilts_4 gk_fv a1 0 0 m0

theorem s_Plain_roadGuilts_0 {z : gk_Z} (K : gk_F tx z me_Plain_roadGuilts 7) {r : Int32} {mem2 : gk_M} : ∀ a1 m0, f_Plain_roadGuilts a1 m0 = some (r, mem2) → gk_G tx z me_Plain_roadGuilts (gk_R tx z (some (.int r)) mem2) m0 [(0, .ref 7), (1, .int a1)] [] 0 := by
  intro a1 m0  h
  unfold f_Plain_roadGuilts at h
  refine gk_iconst (pc := 0) K d_Plain_roadGuilts_0 kc_0 ?_
  refine gk_istore_n (lv2 := [(2, .int 0), (0, .ref 7), (1, .int a1)]) (pc := 1) K d_Plain_roadGuilts_1 (by decide) rfl ?_
  refine gk_iconst (pc := 2) K d_Plain_roadGuilts_2 kc_0 ?_
  refine gk_istore_n (lv2 := [(3, .int 0), (2, .int 0), (0, .ref 7), (1, .int a1)]) (pc := 3) K d_Plain_roadGuilts_3 (by decide) rfl ?_
  exact gk_sub [2, 3, 1, 0] rfl (s_Plain_roadGuilts_4 K _ _ _ _ _  h)
theorem s_Plain_roadGuilts {l : Launch} {u : gk_U} (hD : gk_D tx u) {a1 : Int32} {m0 mem2 : gk_M} {r : Int32} (h : f_Plain_roadGuilts a1 m0 = some (r, mem2)) : gk_C tx l u me_Plain_roadGuilts 7 [.ref 7, .int a1] m0 (some (.int r)) mem2 :=
  gk_enter hD mc_Plain_roadGuilts (Nat.le_of_ble_eq_true rfl) rfl (fun z _ _ K => s_Plain_roadGuilts_0 K _ _  h)
theorem d_X_guilts_0 : decode me_X_guilts.2.1 0 = .ok (.iload_n 1, 1) := by decide +kernel
theorem d_X_guilts_1 : decode me_X_guilts.2.1 1 = .ok (.iconst (-1), 1) := by decide +kernel
theorem d_X_guilts_2 : decode me_X_guilts.2.1 2 = .ok (.if_icmp .ne 11, 3) := by decide +kernel
theorem d_X_guilts_5 : decode me_X_guilts.2.1 5 = .ok (.aload_n 0, 1) := by decide +kernel
theorem d_X_guilts_6 : decode me_X_guilts.2.1 6 = .ok (.getfield 28, 3) := by decide +kernel
theorem d_X_guilts_9 : decode me_X_guilts.2.1 9 = .ok (.invokevirtual 190, 3) := by decide +kernel
theorem d_X_guilts_12 : decode me_X_guilts.2.1 12 = .ok (.ireturn, 1) := by decide +kernel
theorem d_X_guilts_13 : decode me_X_guilts.2.1 13 = .ok (.aload_n 0, 1) := by decide +kernel
theorem d_X_guilts_14 : decode me_X_guilts.2.1 14 = .ok (.getfield 28, 3) := by decide +kernel
theorem d_X_guilts_17 : decode me_X_guilts.2.1 17 = .ok (.iload_n 1, 1) := by decide +kernel
theorem d_X_guilts_18 : decode me_X_guilts.2.1 18 = .ok (.invokevirtual 106, 3) := by decide +kernel
theorem d_X_guilts_21 : decode me_X_guilts.2.1 21 = .ok (.ifCond .eq 14, 3) := by decide +kernel
theorem d_X_guilts_24 : decode me_X_guilts.2.1 24 = .ok (.aload_n 0, 1) := by decide +kernel
theorem d_X_guilts_25 : decode me_X_guilts.2.1 25 = .ok (.getfield 28, 3) := by decide +kernel
theorem d_X_guilts_28 : decode me_X_guilts.2.1 28 = .ok (.iload_n 1, 1) := by decide +kernel
theorem d_X_guilts_29 : decode me_X_guilts.2.1 29 = .ok (.invokevirtual 193, 3) := by decide +kernel
theorem d_X_guilts_32 : decode me_X_guilts.2.1 32 = .ok (.goto 4, 3) := by decide +kernel
theorem d_X_guilts_35 : decode me_X_guilts.2.1 35 = .ok (.iconst (-1), 1) := by decide +kernel
theorem d_X_guilts_36 : decode me_X_guilts.2.1 36 = .ok (.ireturn, 1) := by decide +kernel
noncomputable def f_X_guilts  (a1 : Int32) (m0 : gk_M) : Option (Int32 × gk_M) :=
  if ¬ a1 = (-1) then
    gk_bi (f_Plain_isRoad a1 m0) fun v2 m1 =>
    if v2 = 0 then
      some ((-1), m1)
    else
      gk_bi (f_Plain_roadGuilts a1 m1) fun v4 m3 =>
      some (v4, m3)
  else
    gk_bi (f_Plain_allGuilts  m0) fun v6 m5 =>
    some (v6, m5)

theorem s_X_guilts_0 {z : gk_Z} (K : gk_F tx z me_X_guilts 8) {r : Int32} {mem2 : gk_M} : ∀ a1 m0, f_X_guilts a1 m0 = some (r, mem2) → gk_G tx z me_X_guilts (gk_R tx z (some (.int r)) mem2) m0 [(0, .ref 0), (1, .int a1)] [] 0 := by
  intro a1 m0  h
  unfold f_X_guilts at h
  refine gk_iload_n (pc := 0) K d_X_guilts_0 rfl ?_
  refine gk_iconst (pc := 1) K d_X_guilts_1 kc_m1 ?_
  refine gk_ic_ne (tgt := 13) (pc := 2) K d_X_guilts_2 (by decide) h (fun h => ?_) (fun h => ?_)
  · refine gk_aload_n (pc := 13) K d_X_guilts_13 rfl ?_
    refine gk_get (pc := 14) K d_X_guilts_14 fl_X_28 tx_0 rfl rfl ?_
    refine gk_iload_n (pc := 17) K d_X_guilts_17 rfl ?_
    obtain ⟨v2, m1, em1, h⟩ := gk_bi_some h
    refine gk_cVi (As := [.int a1]) (pc := 18) K d_X_guilts_18 mv_X_106 mc_Plain_isRoad rfl tx_7 cl_ok2.1 (s_Plain_isRoad (gk_FD K)  em1) (by decide) rfl (Nat.le_of_ble_eq_true rfl) ?_
    refine gk_if_eq (tgt := 35) (pc := 21) K d_X_guilts_21 (by decide) h (fun h => ?_) (fun h => ?_)
    · refine gk_iconst (pc := 35) K d_X_guilts_35 kc_m1 ?_
      exact gk_iret (pc := 36) K d_X_guilts_36 rfl h
    · refine gk_aload_n (pc := 24) K d_X_guilts_24 rfl ?_
      refine gk_get (pc := 25) K d_X_guilts_25 fl_X_28 tx_0 rfl rfl ?_
      refine gk_iload_n (pc := 28) K d_X_guilts_28 rfl ?_
      obtain ⟨v4, m3, em3, h⟩ := gk_bi_some h
      refine gk_cVi (As := [.int a1]) (pc := 29) K d_X_guilts_29 mv_X_193 mc_Plain_roadGuilts rfl tx_7 cl_ok2.1 (s_Plain_roadGuilts (gk_FD K)  em3) (by decide) rfl (Nat.le_of_ble_eq_true rfl) ?_
      refine gk_goto (tgt := 36) (pc := 32) K d_X_guilts_32 (by decide) ?_
      exact gk_iret (pc := 36) K d_X_guilts_36 rfl h
  · refine gk_aload_n (pc := 5) K d_X_guilts_5 rfl ?_
    refine gk_get (pc := 6) K d_X_guilts_6 fl_X_28 tx_0 rfl rfl ?_
    obtain ⟨v6, m5, em5, h⟩ := gk_bi_some h
    refine gk_cVi (As := []) (pc := 9) K d_X_guilts_9 mv_X_190 mc_Plain_allGuilts rfl tx_7 cl_ok2.1 (s_Plain_allGuilts (gk_FD K)  em5) (by decide) rfl (Nat.le_of_ble_eq_true rfl) ?_
    exact gk_iret (pc := 12) K d_X_guilts_12 rfl h
theorem s_X_guilts {l : Launch} {u : gk_U} (hD : gk_D tx u) {a1 : Int32} {m0 mem2 : gk_M} {r : Int32} (h : f_X_guilts a1 m0 = some (r, mem2)) : gk_C tx l u me_X_guilts 8 [.ref 0, .int a1] m0 (some (.int r)) mem2 :=
  gk_enter hD mc_X_guilts (Nat.le_of_ble_eq_true rfl) rfl (fun z _ _ K => s_X_guilts_0 K _ _  h)
theorem d_Plain_firstGuiltyPair_0 : decode me_Plain_firstGuiltyPair.2.1 0 = .ok (.iconst 0, 1) := by decide +kernel
theorem d_Plain_firstGuiltyPair_1 : decode me_Plain_firstGuiltyPair.2.1 1 = .ok (.istore_n 3, 1) := by decide +kernel
theorem d_Plain_firstGuiltyPair_2 : decode me_Plain_firstGuiltyPair.2.1 2 = .ok (.iload_n 3, 1) := by decide +kernel
theorem d_Plain_firstGuiltyPair_3 : decode me_Plain_firstGuiltyPair.2.1 3 = .ok (.aload_n 0, 1) := by decide +kernel
theorem d_Plain_firstGuiltyPair_4 : decode me_Plain_firstGuiltyPair.2.1 4 = .ok (.getfield 27, 3) := by decide +kernel
theorem d_Plain_firstGuiltyPair_7 : decode me_Plain_firstGuiltyPair.2.1 7 = .ok (.if_icmp .ge 63, 3) := by decide +kernel
theorem d_Plain_firstGuiltyPair_10 : decode me_Plain_firstGuiltyPair.2.1 10 = .ok (.iload_n 3, 1) := by decide +kernel
theorem d_Plain_firstGuiltyPair_11 : decode me_Plain_firstGuiltyPair.2.1 11 = .ok (.iconst 1, 1) := by decide +kernel
theorem d_Plain_firstGuiltyPair_12 : decode me_Plain_firstGuiltyPair.2.1 12 = .ok (.iadd, 1) := by decide +kernel
theorem d_Plain_firstGuiltyPair_13 : decode me_Plain_firstGuiltyPair.2.1 13 = .ok (.istore 4, 2) := by decide +kernel
theorem d_Plain_firstGuiltyPair_15 : decode me_Plain_firstGuiltyPair.2.1 15 = .ok (.iload 4, 2) := by decide +kernel
theorem d_Plain_firstGuiltyPair_17 : decode me_Plain_firstGuiltyPair.2.1 17 = .ok (.aload_n 0, 1) := by decide +kernel
theorem d_Plain_firstGuiltyPair_18 : decode me_Plain_firstGuiltyPair.2.1 18 = .ok (.getfield 27, 3) := by decide +kernel
theorem d_Plain_firstGuiltyPair_21 : decode me_Plain_firstGuiltyPair.2.1 21 = .ok (.if_icmp .ge 43, 3) := by decide +kernel
theorem d_Plain_firstGuiltyPair_24 : decode me_Plain_firstGuiltyPair.2.1 24 = .ok (.aload_n 0, 1) := by decide +kernel
theorem d_Plain_firstGuiltyPair_25 : decode me_Plain_firstGuiltyPair.2.1 25 = .ok (.aload_n 0, 1) := by decide +kernel
theorem d_Plain_firstGuiltyPair_26 : decode me_Plain_firstGuiltyPair.2.1 26 = .ok (.iload_n 1, 1) := by decide +kernel
theorem d_Plain_firstGuiltyPair_27 : decode me_Plain_firstGuiltyPair.2.1 27 = .ok (.iload_n 2, 1) := by decide +kernel
theorem d_Plain_firstGuiltyPair_28 : decode me_Plain_firstGuiltyPair.2.1 28 = .ok (.invokevirtual 100, 3) := by decide +kernel
theorem d_Plain_firstGuiltyPair_31 : decode me_Plain_firstGuiltyPair.2.1 31 = .ok (.aload_n 0, 1) := by decide +kernel
theorem d_Plain_firstGuiltyPair_32 : decode me_Plain_firstGuiltyPair.2.1 32 = .ok (.iload_n 1, 1) := by decide +kernel
theorem d_Plain_firstGuiltyPair_33 : decode me_Plain_firstGuiltyPair.2.1 33 = .ok (.iload_n 2, 1) := by decide +kernel
theorem d_Plain_firstGuiltyPair_34 : decode me_Plain_firstGuiltyPair.2.1 34 = .ok (.iconst 1, 1) := by decide +kernel
theorem d_Plain_firstGuiltyPair_35 : decode me_Plain_firstGuiltyPair.2.1 35 = .ok (.iadd, 1) := by decide +kernel
theorem d_Plain_firstGuiltyPair_36 : decode me_Plain_firstGuiltyPair.2.1 36 = .ok (.invokevirtual 100, 3) := by decide +kernel
theorem d_Plain_firstGuiltyPair_39 : decode me_Plain_firstGuiltyPair.2.1 39 = .ok (.iload_n 1, 1) := by decide +kernel
theorem d_Plain_firstGuiltyPair_40 : decode me_Plain_firstGuiltyPair.2.1 40 = .ok (.iload_n 3, 1) := by decide +kernel
theorem d_Plain_firstGuiltyPair_41 : decode me_Plain_firstGuiltyPair.2.1 41 = .ok (.iload 4, 2) := by decide +kernel
theorem d_Plain_firstGuiltyPair_43 : decode me_Plain_firstGuiltyPair.2.1 43 = .ok (.invokevirtual 146, 3) := by decide +kernel
theorem d_Plain_firstGuiltyPair_46 : decode me_Plain_firstGuiltyPair.2.1 46 = .ok (.iconst (-1), 1) := by decide +kernel
theorem d_Plain_firstGuiltyPair_47 : decode me_Plain_firstGuiltyPair.2.1 47 = .ok (.if_icmp .eq 11, 3) := by decide +kernel
theorem d_Plain_firstGuiltyPair_50 : decode me_Plain_firstGuiltyPair.2.1 50 = .ok (.bipush 10, 2) := by decide +kernel
theorem d_Plain_firstGuiltyPair_52 : decode me_Plain_firstGuiltyPair.2.1 52 = .ok (.iload_n 3, 1) := by decide +kernel
theorem d_Plain_firstGuiltyPair_53 : decode me_Plain_firstGuiltyPair.2.1 53 = .ok (.imul, 1) := by decide +kernel
theorem d_Plain_firstGuiltyPair_54 : decode me_Plain_firstGuiltyPair.2.1 54 = .ok (.iload 4, 2) := by decide +kernel
theorem d_Plain_firstGuiltyPair_56 : decode me_Plain_firstGuiltyPair.2.1 56 = .ok (.iadd, 1) := by decide +kernel
theorem d_Plain_firstGuiltyPair_57 : decode me_Plain_firstGuiltyPair.2.1 57 = .ok (.ireturn, 1) := by decide +kernel
theorem d_Plain_firstGuiltyPair_58 : decode me_Plain_firstGuiltyPair.2.1 58 = .ok (.iinc 4 1, 3) := by decide +kernel
theorem d_Plain_firstGuiltyPair_61 : decode me_Plain_firstGuiltyPair.2.1 61 = .ok (.goto (-46), 3) := by decide +kernel
theorem d_Plain_firstGuiltyPair_64 : decode me_Plain_firstGuiltyPair.2.1 64 = .ok (.iinc 3 1, 3) := by decide +kernel
theorem d_Plain_firstGuiltyPair_67 : decode me_Plain_firstGuiltyPair.2.1 67 = .ok (.goto (-65), 3) := by decide +kernel
theorem d_Plain_firstGuiltyPair_70 : decode me_Plain_firstGuiltyPair.2.1 70 = .ok (.iconst (-1), 1) := by decide +kernel
theorem d_Plain_firstGuiltyPair_71 : decode me_Plain_firstGuiltyPair.2.1 71 = .ok (.ireturn, 1) := by decide +kernel
noncomputable def f_Plain_firstGuiltyPair_15 (k2 : Int32 → Int32 → Int32 → gk_M → Option (Int32 × gk_M)) : Nat → Int32 → Int32 → Int32 → Int32 → gk_M → Option (Int32 × gk_M)
  | 0, _, _, _, _, _ => none
  | n + 1, a1, a2, a3, a4, m0 =>
    if (m0.1 7 5) ≤ a4 then
      k2 a1 a2 (a3 + 1) m0
    else
      gk_bi (f_Plain_cornerAt a1 a2 m0) fun v2 m1 =>
      gk_bi (f_Plain_cornerAt a1 (a2 + 1) m1) fun v4 m3 =>
      gk_bi (f_Plain_guiltBetween v2 v4 a1 a3 a4 m3) fun v6 m5 =>
      if v6 = (-1) then
        f_Plain_firstGuiltyPair_15 k2 n a1 a2 a3 (a4 + 1) m5
      else
        some (((10 * a3) + a4), m5)

theorem s_Plain_firstGuiltyPair_15 {z : gk_Z} (K : gk_F tx z me_Plain_firstGuiltyPair 6) {r : Int32} {mem2 : gk_M} {k2 : Int32 → Int32 → Int32 → gk_M → Option (Int32 × gk_M)} (hk2 : ∀ a1 a2 a3 m0, k2 a1 a2 a3 m0 = some (r, mem2) → gk_G tx z me_Plain_firstGuiltyPair (gk_R tx z (some (.int r)) mem2) m0 [(0, .ref 7), (1, .int a1), (2, .int a2), (3, .int a3)] [] 2) : ∀ n a1 a2 a3 a4 m0, f_Plain_firstGuiltyPair_15 k2 n a1 a2 a3 a4 m0 = some (r, mem2) → gk_G tx z me_Plain_firstGuiltyPair (gk_R tx z (some (.int r)) mem2) m0 [(0, .ref 7), (1, .int a1), (2, .int a2), (3, .int a3), (4, .int a4)] [] 15 := by
  intro n
  induction n with
  | zero => intro a1 a2 a3 a4 m0  h; exact nomatch (show (none : Option _) = some _ from h)
  | succ n ih =>
    intro a1 a2 a3 a4 m0  h
    unfold f_Plain_firstGuiltyPair_15 at h
    refine gk_iload (pc := 15) K d_Plain_firstGuiltyPair_15 rfl ?_
    refine gk_aload_n (pc := 17) K d_Plain_firstGuiltyPair_17 rfl ?_
    refine gk_get (pc := 18) K d_Plain_firstGuiltyPair_18 fl_Plain_27 tx_7 rfl rfl ?_
    refine gk_ic_ge (tgt := 64) (pc := 21) K d_Plain_firstGuiltyPair_21 (by decide) h (fun h => ?_) (fun h => ?_)
    · refine gk_iinc2 (lv2 := [(3, .int (a3 + 1)), (0, .ref 7), (1, .int a1), (2, .int a2), (4, .int a4)]) (pc := 64) K d_Plain_firstGuiltyPair_64 rfl kc_1 (by decide) rfl ?_
      refine gk_goto (tgt := 2) (pc := 67) K d_Plain_firstGuiltyPair_67 (by decide) ?_
      exact gk_sub [1, 2, 3, 0] rfl (hk2 _ _ _ _  h)
    · refine gk_aload_n (pc := 24) K d_Plain_firstGuiltyPair_24 rfl ?_
      refine gk_aload_n (pc := 25) K d_Plain_firstGuiltyPair_25 rfl ?_
      refine gk_iload_n (pc := 26) K d_Plain_firstGuiltyPair_26 rfl ?_
      refine gk_iload_n (pc := 27) K d_Plain_firstGuiltyPair_27 rfl ?_
      obtain ⟨v2, m1, em1, h⟩ := gk_bi_some h
      refine gk_cVi (As := [.int a1, .int a2]) (pc := 28) K d_Plain_firstGuiltyPair_28 mv_Plain_100 mc_Plain_cornerAt rfl tx_7 cl_ok2.1 (s_Plain_cornerAt (gk_FD K)  em1) (by decide) rfl (Nat.le_of_ble_eq_true rfl) ?_
      refine gk_aload_n (pc := 31) K d_Plain_firstGuiltyPair_31 rfl ?_
      refine gk_iload_n (pc := 32) K d_Plain_firstGuiltyPair_32 rfl ?_
      refine gk_iload_n (pc := 33) K d_Plain_firstGuiltyPair_33 rfl ?_
      refine gk_iconst (pc := 34) K d_Plain_firstGuiltyPair_34 kc_1 ?_
      refine gk_iadd (pc := 35) K d_Plain_firstGuiltyPair_35 ?_
      obtain ⟨v4, m3, em3, h⟩ := gk_bi_some h
      refine gk_cVi (As := [.int a1, .int (a2 + 1)]) (pc := 36) K d_Plain_firstGuiltyPair_36 mv_Plain_100 mc_Plain_cornerAt rfl tx_7 cl_ok2.1 (s_Plain_cornerAt (gk_FD K)  em3) (by decide) rfl (Nat.le_of_ble_eq_true rfl) ?_
      refine gk_iload_n (pc := 39) K d_Plain_firstGuiltyPair_39 rfl ?_
      refine gk_iload_n (pc := 40) K d_Plain_firstGuiltyPair_40 rfl ?_
      refine gk_iload (pc := 41) K d_Plain_firstGuiltyPair_41 rfl ?_
      obtain ⟨v6, m5, em5, h⟩ := gk_bi_some h
      refine gk_cVi (As := [.int v2, .int v4, .int a1, .int a3, .int a4]) (pc := 43) K d_Plain_firstGuiltyPair_43 mv_Plain_146 mc_Plain_guiltBetween rfl tx_7 cl_ok2.1 (s_Plain_guiltBetween (gk_FD K)  em5) (by decide) rfl (Nat.le_of_ble_eq_true rfl) ?_
      refine gk_iconst (pc := 46) K d_Plain_firstGuiltyPair_46 kc_m1 ?_
      refine gk_ic_eq (tgt := 58) (pc := 47) K d_Plain_firstGuiltyPair_47 (by decide) h (fun h => ?_) (fun h => ?_)
      · refine gk_iinc2 (lv2 := [(4, .int (a4 + 1)), (0, .ref 7), (1, .int a1), (2, .int a2), (3, .int a3)]) (pc := 58) K d_Plain_firstGuiltyPair_58 rfl kc_1 (by decide) rfl ?_
        refine gk_goto (tgt := 15) (pc := 61) K d_Plain_firstGuiltyPair_61 (by decide) ?_
        exact gk_sub [1, 2, 3, 4, 0] rfl (ih _ _ _ _ _  h)
      · refine gk_bipush (pc := 50) K d_Plain_firstGuiltyPair_50 kb_10 ?_
        refine gk_iload_n (pc := 52) K d_Plain_firstGuiltyPair_52 rfl ?_
        refine gk_imul (pc := 53) K d_Plain_firstGuiltyPair_53 ?_
        refine gk_iload (pc := 54) K d_Plain_firstGuiltyPair_54 rfl ?_
        refine gk_iadd (pc := 56) K d_Plain_firstGuiltyPair_56 ?_
        exact gk_iret (pc := 57) K d_Plain_firstGuiltyPair_57 rfl h
noncomputable def f_Plain_firstGuiltyPair_2  : Nat → Int32 → Int32 → Int32 → gk_M → Option (Int32 × gk_M)
  | 0, _, _, _, _ => none
  | n + 1, a1, a2, a3, m0 =>
    if (m0.1 7 5) ≤ a3 then
      some ((-1), m0)
    else
      gk_let (a3 + 1) fun v1 =>
      f_Plain_firstGuiltyPair_15 (f_Plain_firstGuiltyPair_2 n) gk_fv a1 a2 a3 v1 m0

theorem s_Plain_firstGuiltyPair_2 {z : gk_Z} (K : gk_F tx z me_Plain_firstGuiltyPair 6) {r : Int32} {mem2 : gk_M} : ∀ n a1 a2 a3 m0, f_Plain_firstGuiltyPair_2 n a1 a2 a3 m0 = some (r, mem2) → gk_G tx z me_Plain_firstGuiltyPair (gk_R tx z (some (.int r)) mem2) m0 [(0, .ref 7), (1, .int a1), (2, .int a2), (3, .int a3)] [] 2 := by
  intro n
  induction n with
  | zero => intro a1 a2 a3 m0  h; exact nomatch (show (none : Option _) = some _ from h)
  | succ n ih =>
    intro a1 a2 a3 m0  h
    unfold f_Plain_firstGuiltyPair_2 at h
    refine gk_iload_n (pc := 2) K d_Plain_firstGuiltyPair_2 rfl ?_
    refine gk_aload_n (pc := 3) K d_Plain_firstGuiltyPair_3 rfl ?_
    refine gk_get (pc := 4) K d_Plain_firstGuiltyPair_4 fl_Plain_27 tx_7 rfl rfl ?_
    refine gk_ic_ge (tgt := 70) (pc := 7) K d_Plain_firstGuiltyPair_7 (by decide) h (fun h => ?_) (fun h => ?_)
    · refine gk_iconst (pc := 70) K d_Plain_firstGuiltyPair_70 kc_m1 ?_
      exact gk_iret (pc := 71) K d_Plain_firstGuiltyPair_71 rfl h
    · refine gk_iload_n (pc := 10) K d_Plain_firstGuiltyPair_10 rfl ?_
      refine gk_iconst (pc := 11) K d_Plain_firstGuiltyPair_11 kc_1 ?_
      refine gk_iadd (pc := 12) K d_Plain_firstGuiltyPair_12 ?_
      refine gk_topi h (fun v1 h => ?_)
      refine gk_istore (lv2 := [(4, .int v1), (0, .ref 7), (1, .int a1), (2, .int a2), (3, .int a3)]) (pc := 13) K d_Plain_firstGuiltyPair_13 (by decide) rfl ?_
      exact gk_sub [1, 2, 3, 4, 0] rfl (s_Plain_firstGuiltyPair_15 K (fun x0 x1 x2 m  h => ih x0 x1 x2 m  h) _ _ _ _ _ _  h)
noncomputable def f_Plain_firstGuiltyPair  (a1 : Int32) (a2 : Int32) (m0 : gk_M) : Option (Int32 × gk_M) :=
  f_Plain_firstGuiltyPair_2 gk_fv a1 a2 0 m0

theorem s_Plain_firstGuiltyPair_0 {z : gk_Z} (K : gk_F tx z me_Plain_firstGuiltyPair 6) {r : Int32} {mem2 : gk_M} : ∀ a1 a2 m0, f_Plain_firstGuiltyPair a1 a2 m0 = some (r, mem2) → gk_G tx z me_Plain_firstGuiltyPair (gk_R tx z (some (.int r)) mem2) m0 [(0, .ref 7), (1, .int a1), (2, .int a2)] [] 0 := by
  intro a1 a2 m0  h
  unfold f_Plain_firstGuiltyPair at h
  refine gk_iconst (pc := 0) K d_Plain_firstGuiltyPair_0 kc_0 ?_
  refine gk_istore_n (lv2 := [(3, .int 0), (0, .ref 7), (1, .int a1), (2, .int a2)]) (pc := 1) K d_Plain_firstGuiltyPair_1 (by decide) rfl ?_
  exact gk_sub [1, 2, 3, 0] rfl (s_Plain_firstGuiltyPair_2 K _ _ _ _ _  h)
theorem s_Plain_firstGuiltyPair {l : Launch} {u : gk_U} (hD : gk_D tx u) {a1 : Int32} {a2 : Int32} {m0 mem2 : gk_M} {r : Int32} (h : f_Plain_firstGuiltyPair a1 a2 m0 = some (r, mem2)) : gk_C tx l u me_Plain_firstGuiltyPair 6 [.ref 7, .int a1, .int a2] m0 (some (.int r)) mem2 :=
  gk_enter hD mc_Plain_firstGuiltyPair (Nat.le_of_ble_eq_true rfl) rfl (fun z _ _ K => s_Plain_firstGuiltyPair_0 K _ _ _  h)
theorem d_X_partOf_0 : decode me_X_partOf.2.1 0 = .ok (.iload_n 0, 1) := by decide +kernel
theorem d_X_partOf_1 : decode me_X_partOf.2.1 1 = .ok (.tableswitch 36 0 2 #[27, 29, 31], 27) := by decide +kernel
theorem d_X_partOf_28 : decode me_X_partOf.2.1 28 = .ok (.iload_n 1, 1) := by decide +kernel
theorem d_X_partOf_29 : decode me_X_partOf.2.1 29 = .ok (.ireturn, 1) := by decide +kernel
theorem d_X_partOf_30 : decode me_X_partOf.2.1 30 = .ok (.iload_n 2, 1) := by decide +kernel
theorem d_X_partOf_31 : decode me_X_partOf.2.1 31 = .ok (.ireturn, 1) := by decide +kernel
theorem d_X_partOf_32 : decode me_X_partOf.2.1 32 = .ok (.iload_n 3, 1) := by decide +kernel
theorem d_X_partOf_33 : decode me_X_partOf.2.1 33 = .ok (.bipush 10, 2) := by decide +kernel
theorem d_X_partOf_35 : decode me_X_partOf.2.1 35 = .ok (.idiv, 1) := by decide +kernel
theorem d_X_partOf_36 : decode me_X_partOf.2.1 36 = .ok (.ireturn, 1) := by decide +kernel
theorem d_X_partOf_37 : decode me_X_partOf.2.1 37 = .ok (.iload_n 3, 1) := by decide +kernel
theorem d_X_partOf_38 : decode me_X_partOf.2.1 38 = .ok (.bipush 10, 2) := by decide +kernel
theorem d_X_partOf_40 : decode me_X_partOf.2.1 40 = .ok (.irem, 1) := by decide +kernel
theorem d_X_partOf_41 : decode me_X_partOf.2.1 41 = .ok (.ireturn, 1) := by decide +kernel
noncomputable def f_X_partOf  (a0 : Int32) (a1 : Int32) (a2 : Int32) (a3 : Int32) (m0 : gk_M) : Option (Int32 × gk_M) :=
  if a0 = 0 then
    some (a1, m0)
  else
    if a0 = 1 then
      some (a2, m0)
    else
      if a0 = 2 then
        some ((a3 / 10), m0)
      else
        some ((gk_rem a3 10), m0)

theorem s_X_partOf_0 {z : gk_Z} (K : gk_F tx z me_X_partOf 1) {r : Int32} {mem2 : gk_M} : ∀ a0 a1 a2 a3 m0, f_X_partOf a0 a1 a2 a3 m0 = some (r, mem2) → gk_G tx z me_X_partOf (gk_R tx z (some (.int r)) mem2) m0 [(0, .int a0), (1, .int a1), (2, .int a2), (3, .int a3)] [] 0 := by
  intro a0 a1 a2 a3 m0  h
  unfold f_X_partOf at h
  refine gk_iload_n (pc := 0) K d_X_partOf_0 rfl ?_
  refine gk_ite (c := a0 = 0) h (fun c1 h => ?_) (fun c1 h => ?_)
  · refine gk_tIn (tgt := 28) (pc := 1) K d_X_partOf_1 c1 (by decide) (by decide) rfl (by decide) ?_
    refine gk_iload_n (pc := 28) K d_X_partOf_28 rfl ?_
    exact gk_iret (pc := 29) K d_X_partOf_29 rfl h
  · skip
    refine gk_ite (c := a0 = 1) h (fun c2 h => ?_) (fun c2 h => ?_)
    · refine gk_tIn (tgt := 30) (pc := 1) K d_X_partOf_1 c2 (by decide) (by decide) rfl (by decide) ?_
      refine gk_iload_n (pc := 30) K d_X_partOf_30 rfl ?_
      exact gk_iret (pc := 31) K d_X_partOf_31 rfl h
    · skip
      refine gk_ite (c := a0 = 2) h (fun c3 h => ?_) (fun c3 h => ?_)
      · refine gk_tIn (tgt := 32) (pc := 1) K d_X_partOf_1 c3 (by decide) (by decide) rfl (by decide) ?_
        refine gk_iload_n (pc := 32) K d_X_partOf_32 rfl ?_
        refine gk_bipush (pc := 33) K d_X_partOf_33 kb_10 ?_
        refine gk_idivc2 (pc := 35) K d_X_partOf_35 (by decide) ?_
        exact gk_iret (pc := 36) K d_X_partOf_36 rfl h
      · skip
        have gc1 := gk_neq c1 (a := 0) (by decide)
        have gc2 := gk_neq c2 (a := 1) (by decide)
        have gc3 := gk_neq c3 (a := 2) (by decide)
        refine gk_tOut (tgt := 37) (pc := 1) K d_X_partOf_1 (by omega) (by decide) ?_
        refine gk_iload_n (pc := 37) K d_X_partOf_37 rfl ?_
        refine gk_bipush (pc := 38) K d_X_partOf_38 kb_10 ?_
        refine gk_iremc2 (pc := 40) K d_X_partOf_40 (by decide) ?_
        exact gk_iret (pc := 41) K d_X_partOf_41 rfl h
theorem s_X_partOf {l : Launch} {u : gk_U} (hD : gk_D tx u) {a0 : Int32} {a1 : Int32} {a2 : Int32} {a3 : Int32} {m0 mem2 : gk_M} {r : Int32} (h : f_X_partOf a0 a1 a2 a3 m0 = some (r, mem2)) : gk_C tx l u me_X_partOf 1 [.int a0, .int a1, .int a2, .int a3] m0 (some (.int r)) mem2 :=
  gk_enter hD mc_X_partOf (Nat.le_of_ble_eq_true rfl) rfl (fun z _ _ K => s_X_partOf_0 K _ _ _ _ _  h)
theorem d_X_which_0 : decode me_X_which.2.1 0 = .ok (.iload_n 1, 1) := by decide +kernel
theorem d_X_which_1 : decode me_X_which.2.1 1 = .ok (.iconst 3, 1) := by decide +kernel
theorem d_X_which_2 : decode me_X_which.2.1 2 = .ok (.invokestatic 180, 3) := by decide +kernel
theorem d_X_which_5 : decode me_X_which.2.1 5 = .ok (.ifCond .ne 5, 3) := by decide +kernel
theorem d_X_which_8 : decode me_X_which.2.1 8 = .ok (.iconst (-1), 1) := by decide +kernel
theorem d_X_which_9 : decode me_X_which.2.1 9 = .ok (.ireturn, 1) := by decide +kernel
theorem d_X_which_10 : decode me_X_which.2.1 10 = .ok (.iconst 0, 1) := by decide +kernel
theorem d_X_which_11 : decode me_X_which.2.1 11 = .ok (.istore_n 2, 1) := by decide +kernel
theorem d_X_which_12 : decode me_X_which.2.1 12 = .ok (.iload_n 2, 1) := by decide +kernel
theorem d_X_which_13 : decode me_X_which.2.1 13 = .ok (.aload_n 0, 1) := by decide +kernel
theorem d_X_which_14 : decode me_X_which.2.1 14 = .ok (.getfield 28, 3) := by decide +kernel
theorem d_X_which_17 : decode me_X_which.2.1 17 = .ok (.getfield 196, 3) := by decide +kernel
theorem d_X_which_20 : decode me_X_which.2.1 20 = .ok (.if_icmp .ge 57, 3) := by decide +kernel
theorem d_X_which_23 : decode me_X_which.2.1 23 = .ok (.iconst 0, 1) := by decide +kernel
theorem d_X_which_24 : decode me_X_which.2.1 24 = .ok (.istore_n 3, 1) := by decide +kernel
theorem d_X_which_25 : decode me_X_which.2.1 25 = .ok (.iload_n 3, 1) := by decide +kernel
theorem d_X_which_26 : decode me_X_which.2.1 26 = .ok (.iconst 1, 1) := by decide +kernel
theorem d_X_which_27 : decode me_X_which.2.1 27 = .ok (.iadd, 1) := by decide +kernel
theorem d_X_which_28 : decode me_X_which.2.1 28 = .ok (.aload_n 0, 1) := by decide +kernel
theorem d_X_which_29 : decode me_X_which.2.1 29 = .ok (.getfield 28, 3) := by decide +kernel
theorem d_X_which_32 : decode me_X_which.2.1 32 = .ok (.getfield 109, 3) := by decide +kernel
theorem d_X_which_35 : decode me_X_which.2.1 35 = .ok (.iload_n 2, 1) := by decide +kernel
theorem d_X_which_36 : decode me_X_which.2.1 36 = .ok (.iaload, 1) := by decide +kernel
theorem d_X_which_37 : decode me_X_which.2.1 37 = .ok (.if_icmp .ge 34, 3) := by decide +kernel
theorem d_X_which_40 : decode me_X_which.2.1 40 = .ok (.aload_n 0, 1) := by decide +kernel
theorem d_X_which_41 : decode me_X_which.2.1 41 = .ok (.getfield 28, 3) := by decide +kernel
theorem d_X_which_44 : decode me_X_which.2.1 44 = .ok (.iload_n 2, 1) := by decide +kernel
theorem d_X_which_45 : decode me_X_which.2.1 45 = .ok (.iload_n 3, 1) := by decide +kernel
theorem d_X_which_46 : decode me_X_which.2.1 46 = .ok (.invokevirtual 199, 3) := by decide +kernel
theorem d_X_which_49 : decode me_X_which.2.1 49 = .ok (.istore 4, 2) := by decide +kernel
theorem d_X_which_51 : decode me_X_which.2.1 51 = .ok (.iload 4, 2) := by decide +kernel
theorem d_X_which_53 : decode me_X_which.2.1 53 = .ok (.ifCond .lt 12, 3) := by decide +kernel
theorem d_X_which_56 : decode me_X_which.2.1 56 = .ok (.iload_n 1, 1) := by decide +kernel
theorem d_X_which_57 : decode me_X_which.2.1 57 = .ok (.iload_n 2, 1) := by decide +kernel
theorem d_X_which_58 : decode me_X_which.2.1 58 = .ok (.iload_n 3, 1) := by decide +kernel
theorem d_X_which_59 : decode me_X_which.2.1 59 = .ok (.iload 4, 2) := by decide +kernel
theorem d_X_which_61 : decode me_X_which.2.1 61 = .ok (.invokestatic 202, 3) := by decide +kernel
theorem d_X_which_64 : decode me_X_which.2.1 64 = .ok (.ireturn, 1) := by decide +kernel
theorem d_X_which_65 : decode me_X_which.2.1 65 = .ok (.iinc 3 1, 3) := by decide +kernel
theorem d_X_which_68 : decode me_X_which.2.1 68 = .ok (.goto (-43), 3) := by decide +kernel
theorem d_X_which_71 : decode me_X_which.2.1 71 = .ok (.iinc 2 1, 3) := by decide +kernel
theorem d_X_which_74 : decode me_X_which.2.1 74 = .ok (.goto (-62), 3) := by decide +kernel
theorem d_X_which_77 : decode me_X_which.2.1 77 = .ok (.bipush (-2), 2) := by decide +kernel
theorem d_X_which_79 : decode me_X_which.2.1 79 = .ok (.ireturn, 1) := by decide +kernel
noncomputable def f_X_which_25 (k12 : Int32 → Int32 → gk_M → Option (Int32 × gk_M)) : Nat → Int32 → Int32 → Int32 → gk_M → Option (Int32 × gk_M)
  | 0, _, _, _, _ => none
  | n + 1, a1, a2, a3, m0 =>
    gk_ai m0 13 4 a2 fun v1 =>
    if v1 ≤ (a3 + 1) then
      k12 a1 (a2 + 1) m0
    else
      gk_bi (f_Plain_firstGuiltyPair a2 a3 m0) fun v3 m2 =>
      if v3 < 0 then
        f_X_which_25 k12 n a1 a2 (a3 + 1) m2
      else
        gk_bi (f_X_partOf a1 a2 a3 v3 m2) fun v5 m4 =>
        some (v5, m4)

theorem s_X_which_25 {z : gk_Z} (K : gk_F tx z me_X_which 7) {r : Int32} {mem2 : gk_M} {k12 : Int32 → Int32 → gk_M → Option (Int32 × gk_M)} (hk12 : ∀ a1 a2 m0, k12 a1 a2 m0 = some (r, mem2) → gk_G tx z me_X_which (gk_R tx z (some (.int r)) mem2) m0 [(0, .ref 0), (1, .int a1), (2, .int a2)] [] 12) : ∀ n a1 a2 a3 m0, f_X_which_25 k12 n a1 a2 a3 m0 = some (r, mem2) → gk_G tx z me_X_which (gk_R tx z (some (.int r)) mem2) m0 [(0, .ref 0), (1, .int a1), (2, .int a2), (3, .int a3)] [] 25 := by
  intro n
  induction n with
  | zero => intro a1 a2 a3 m0  h; exact nomatch (show (none : Option _) = some _ from h)
  | succ n ih =>
    intro a1 a2 a3 m0  h
    unfold f_X_which_25 at h
    refine gk_iload_n (pc := 25) K d_X_which_25 rfl ?_
    refine gk_iconst (pc := 26) K d_X_which_26 kc_1 ?_
    refine gk_iadd (pc := 27) K d_X_which_27 ?_
    refine gk_aload_n (pc := 28) K d_X_which_28 rfl ?_
    refine gk_get (pc := 29) K d_X_which_29 fl_X_28 tx_0 rfl rfl ?_
    refine gk_get (pc := 32) K d_X_which_32 fl_X_109 tx_7 rfl rfl ?_
    refine gk_iload_n (pc := 35) K d_X_which_35 rfl ?_
    refine gk_iald (pc := 36) K d_X_which_36 tx_13 h (fun v1 h => ?_)
    refine gk_ic_ge (tgt := 71) (pc := 37) K d_X_which_37 (by decide) h (fun h => ?_) (fun h => ?_)
    · refine gk_iinc2 (lv2 := [(2, .int (a2 + 1)), (0, .ref 0), (1, .int a1), (3, .int a3)]) (pc := 71) K d_X_which_71 rfl kc_1 (by decide) rfl ?_
      refine gk_goto (tgt := 12) (pc := 74) K d_X_which_74 (by decide) ?_
      exact gk_sub [1, 2, 0] rfl (hk12 _ _ _  h)
    · refine gk_aload_n (pc := 40) K d_X_which_40 rfl ?_
      refine gk_get (pc := 41) K d_X_which_41 fl_X_28 tx_0 rfl rfl ?_
      refine gk_iload_n (pc := 44) K d_X_which_44 rfl ?_
      refine gk_iload_n (pc := 45) K d_X_which_45 rfl ?_
      obtain ⟨v3, m2, em2, h⟩ := gk_bi_some h
      refine gk_cVi (As := [.int a2, .int a3]) (pc := 46) K d_X_which_46 mv_X_199 mc_Plain_firstGuiltyPair rfl tx_7 cl_ok2.1 (s_Plain_firstGuiltyPair (gk_FD K)  em2) (by decide) rfl (Nat.le_of_ble_eq_true rfl) ?_
      refine gk_istore (lv2 := [(4, .int v3), (0, .ref 0), (1, .int a1), (2, .int a2), (3, .int a3)]) (pc := 49) K d_X_which_49 (by decide) rfl ?_
      refine gk_iload (pc := 51) K d_X_which_51 rfl ?_
      refine gk_if_lt (tgt := 65) (pc := 53) K d_X_which_53 (by decide) h (fun h => ?_) (fun h => ?_)
      · refine gk_iinc2 (lv2 := [(3, .int (a3 + 1)), (4, .int v3), (0, .ref 0), (1, .int a1), (2, .int a2)]) (pc := 65) K d_X_which_65 rfl kc_1 (by decide) rfl ?_
        refine gk_goto (tgt := 25) (pc := 68) K d_X_which_68 (by decide) ?_
        exact gk_sub [2, 3, 4, 0] rfl (ih _ _ _ _  h)
      · refine gk_iload_n (pc := 56) K d_X_which_56 rfl ?_
        refine gk_iload_n (pc := 57) K d_X_which_57 rfl ?_
        refine gk_iload_n (pc := 58) K d_X_which_58 rfl ?_
        refine gk_iload (pc := 59) K d_X_which_59 rfl ?_
        obtain ⟨v5, m4, em4, h⟩ := gk_bi_some h
        refine gk_cSi (As := [.int a1, .int a2, .int a3, .int v3]) (pc := 61) K d_X_which_61 ms_X_202 mc_X_partOf rfl (s_X_partOf (gk_FD K)  em4) (by decide) rfl (Nat.le_of_ble_eq_true rfl) ?_
        exact gk_iret (pc := 64) K d_X_which_64 rfl h
noncomputable def f_X_which_12  : Nat → Int32 → Int32 → gk_M → Option (Int32 × gk_M)
  | 0, _, _, _ => none
  | n + 1, a1, a2, m0 =>
    if (m0.1 7 7) ≤ a2 then
      some ((-2), m0)
    else
      f_X_which_25 (f_X_which_12 n) gk_fv a1 a2 0 m0

theorem s_X_which_12 {z : gk_Z} (K : gk_F tx z me_X_which 7) {r : Int32} {mem2 : gk_M} : ∀ n a1 a2 m0, f_X_which_12 n a1 a2 m0 = some (r, mem2) → gk_G tx z me_X_which (gk_R tx z (some (.int r)) mem2) m0 [(0, .ref 0), (1, .int a1), (2, .int a2)] [] 12 := by
  intro n
  induction n with
  | zero => intro a1 a2 m0  h; exact nomatch (show (none : Option _) = some _ from h)
  | succ n ih =>
    intro a1 a2 m0  h
    unfold f_X_which_12 at h
    refine gk_iload_n (pc := 12) K d_X_which_12 rfl ?_
    refine gk_aload_n (pc := 13) K d_X_which_13 rfl ?_
    refine gk_get (pc := 14) K d_X_which_14 fl_X_28 tx_0 rfl rfl ?_
    refine gk_get (pc := 17) K d_X_which_17 fl_X_196 tx_7 rfl rfl ?_
    refine gk_ic_ge (tgt := 77) (pc := 20) K d_X_which_20 (by decide) h (fun h => ?_) (fun h => ?_)
    · refine gk_bipush (pc := 77) K d_X_which_77 kb_m2 ?_
      exact gk_iret (pc := 79) K d_X_which_79 rfl h
    · refine gk_iconst (pc := 23) K d_X_which_23 kc_0 ?_
      refine gk_istore_n (lv2 := [(3, .int 0), (0, .ref 0), (1, .int a1), (2, .int a2)]) (pc := 24) K d_X_which_24 (by decide) rfl ?_
      exact gk_sub [1, 2, 3, 0] rfl (s_X_which_25 K (fun x0 x1 m  h => ih x0 x1 m  h) _ _ _ _ _  h)
noncomputable def f_X_which  (a1 : Int32) (m0 : gk_M) : Option (Int32 × gk_M) :=
  gk_bi (f_X_isChoice a1 3 m0) fun v2 m1 =>
  if ¬ v2 = 0 then
    f_X_which_12 gk_fv a1 0 m1
  else
    some ((-1), m1)

theorem s_X_which_0 {z : gk_Z} (K : gk_F tx z me_X_which 7) {r : Int32} {mem2 : gk_M} : ∀ a1 m0, f_X_which a1 m0 = some (r, mem2) → gk_G tx z me_X_which (gk_R tx z (some (.int r)) mem2) m0 [(0, .ref 0), (1, .int a1)] [] 0 := by
  intro a1 m0  h
  unfold f_X_which at h
  refine gk_iload_n (pc := 0) K d_X_which_0 rfl ?_
  refine gk_iconst (pc := 1) K d_X_which_1 kc_3 ?_
  obtain ⟨v2, m1, em1, h⟩ := gk_bi_some h
  refine gk_cSi (As := [.int a1, .int 3]) (pc := 2) K d_X_which_2 ms_X_180 mc_X_isChoice rfl (s_X_isChoice (gk_FD K)  em1) (by decide) rfl (Nat.le_of_ble_eq_true rfl) ?_
  refine gk_if_ne (tgt := 10) (pc := 5) K d_X_which_5 (by decide) h (fun h => ?_) (fun h => ?_)
  · refine gk_iconst (pc := 10) K d_X_which_10 kc_0 ?_
    refine gk_istore_n (lv2 := [(2, .int 0), (0, .ref 0), (1, .int a1)]) (pc := 11) K d_X_which_11 (by decide) rfl ?_
    exact gk_sub [1, 2, 0] rfl (s_X_which_12 K _ _ _ _  h)
  · refine gk_iconst (pc := 8) K d_X_which_8 kc_m1 ?_
    exact gk_iret (pc := 9) K d_X_which_9 rfl h
theorem s_X_which {l : Launch} {u : gk_U} (hD : gk_D tx u) {a1 : Int32} {m0 mem2 : gk_M} {r : Int32} (h : f_X_which a1 m0 = some (r, mem2)) : gk_C tx l u me_X_which 7 [.ref 0, .int a1] m0 (some (.int r)) mem2 :=
  gk_enter hD mc_X_which (Nat.le_of_ble_eq_true rfl) rfl (fun z _ _ K => s_X_which_0 K _ _  h)
theorem d_Plain_guiltsOfPair_0 : decode me_Plain_guiltsOfPair.2.1 0 = .ok (.iconst 0, 1) := by decide +kernel
theorem d_Plain_guiltsOfPair_1 : decode me_Plain_guiltsOfPair.2.1 1 = .ok (.istore_n 3, 1) := by decide +kernel
theorem d_Plain_guiltsOfPair_2 : decode me_Plain_guiltsOfPair.2.1 2 = .ok (.iconst 0, 1) := by decide +kernel
theorem d_Plain_guiltsOfPair_3 : decode me_Plain_guiltsOfPair.2.1 3 = .ok (.istore 4, 2) := by decide +kernel
theorem d_Plain_guiltsOfPair_5 : decode me_Plain_guiltsOfPair.2.1 5 = .ok (.iload 4, 2) := by decide +kernel
theorem d_Plain_guiltsOfPair_7 : decode me_Plain_guiltsOfPair.2.1 7 = .ok (.aload_n 0, 1) := by decide +kernel
theorem d_Plain_guiltsOfPair_8 : decode me_Plain_guiltsOfPair.2.1 8 = .ok (.getfield 34, 3) := by decide +kernel
theorem d_Plain_guiltsOfPair_11 : decode me_Plain_guiltsOfPair.2.1 11 = .ok (.if_icmp .ge 65, 3) := by decide +kernel
theorem d_Plain_guiltsOfPair_14 : decode me_Plain_guiltsOfPair.2.1 14 = .ok (.iconst 0, 1) := by decide +kernel
theorem d_Plain_guiltsOfPair_15 : decode me_Plain_guiltsOfPair.2.1 15 = .ok (.istore 5, 2) := by decide +kernel
theorem d_Plain_guiltsOfPair_17 : decode me_Plain_guiltsOfPair.2.1 17 = .ok (.iload 5, 2) := by decide +kernel
theorem d_Plain_guiltsOfPair_19 : decode me_Plain_guiltsOfPair.2.1 19 = .ok (.iconst 1, 1) := by decide +kernel
theorem d_Plain_guiltsOfPair_20 : decode me_Plain_guiltsOfPair.2.1 20 = .ok (.iadd, 1) := by decide +kernel
theorem d_Plain_guiltsOfPair_21 : decode me_Plain_guiltsOfPair.2.1 21 = .ok (.aload_n 0, 1) := by decide +kernel
theorem d_Plain_guiltsOfPair_22 : decode me_Plain_guiltsOfPair.2.1 22 = .ok (.getfield 31, 3) := by decide +kernel
theorem d_Plain_guiltsOfPair_25 : decode me_Plain_guiltsOfPair.2.1 25 = .ok (.iload 4, 2) := by decide +kernel
theorem d_Plain_guiltsOfPair_27 : decode me_Plain_guiltsOfPair.2.1 27 = .ok (.iaload, 1) := by decide +kernel
theorem d_Plain_guiltsOfPair_28 : decode me_Plain_guiltsOfPair.2.1 28 = .ok (.if_icmp .ge 42, 3) := by decide +kernel
theorem d_Plain_guiltsOfPair_31 : decode me_Plain_guiltsOfPair.2.1 31 = .ok (.aload_n 0, 1) := by decide +kernel
theorem d_Plain_guiltsOfPair_32 : decode me_Plain_guiltsOfPair.2.1 32 = .ok (.aload_n 0, 1) := by decide +kernel
theorem d_Plain_guiltsOfPair_33 : decode me_Plain_guiltsOfPair.2.1 33 = .ok (.iload 4, 2) := by decide +kernel
theorem d_Plain_guiltsOfPair_35 : decode me_Plain_guiltsOfPair.2.1 35 = .ok (.iload 5, 2) := by decide +kernel
theorem d_Plain_guiltsOfPair_37 : decode me_Plain_guiltsOfPair.2.1 37 = .ok (.invokevirtual 100, 3) := by decide +kernel
theorem d_Plain_guiltsOfPair_40 : decode me_Plain_guiltsOfPair.2.1 40 = .ok (.aload_n 0, 1) := by decide +kernel
theorem d_Plain_guiltsOfPair_41 : decode me_Plain_guiltsOfPair.2.1 41 = .ok (.iload 4, 2) := by decide +kernel
theorem d_Plain_guiltsOfPair_43 : decode me_Plain_guiltsOfPair.2.1 43 = .ok (.iload 5, 2) := by decide +kernel
theorem d_Plain_guiltsOfPair_45 : decode me_Plain_guiltsOfPair.2.1 45 = .ok (.iconst 1, 1) := by decide +kernel
theorem d_Plain_guiltsOfPair_46 : decode me_Plain_guiltsOfPair.2.1 46 = .ok (.iadd, 1) := by decide +kernel
theorem d_Plain_guiltsOfPair_47 : decode me_Plain_guiltsOfPair.2.1 47 = .ok (.invokevirtual 100, 3) := by decide +kernel
theorem d_Plain_guiltsOfPair_50 : decode me_Plain_guiltsOfPair.2.1 50 = .ok (.iload 4, 2) := by decide +kernel
theorem d_Plain_guiltsOfPair_52 : decode me_Plain_guiltsOfPair.2.1 52 = .ok (.iload_n 1, 1) := by decide +kernel
theorem d_Plain_guiltsOfPair_53 : decode me_Plain_guiltsOfPair.2.1 53 = .ok (.iload_n 2, 1) := by decide +kernel
theorem d_Plain_guiltsOfPair_54 : decode me_Plain_guiltsOfPair.2.1 54 = .ok (.invokevirtual 146, 3) := by decide +kernel
theorem d_Plain_guiltsOfPair_57 : decode me_Plain_guiltsOfPair.2.1 57 = .ok (.iconst (-1), 1) := by decide +kernel
theorem d_Plain_guiltsOfPair_58 : decode me_Plain_guiltsOfPair.2.1 58 = .ok (.if_icmp .eq 6, 3) := by decide +kernel
theorem d_Plain_guiltsOfPair_61 : decode me_Plain_guiltsOfPair.2.1 61 = .ok (.iinc 3 1, 3) := by decide +kernel
theorem d_Plain_guiltsOfPair_64 : decode me_Plain_guiltsOfPair.2.1 64 = .ok (.iinc 5 1, 3) := by decide +kernel
theorem d_Plain_guiltsOfPair_67 : decode me_Plain_guiltsOfPair.2.1 67 = .ok (.goto (-50), 3) := by decide +kernel
theorem d_Plain_guiltsOfPair_70 : decode me_Plain_guiltsOfPair.2.1 70 = .ok (.iinc 4 1, 3) := by decide +kernel
theorem d_Plain_guiltsOfPair_73 : decode me_Plain_guiltsOfPair.2.1 73 = .ok (.goto (-68), 3) := by decide +kernel
theorem d_Plain_guiltsOfPair_76 : decode me_Plain_guiltsOfPair.2.1 76 = .ok (.iload_n 3, 1) := by decide +kernel
theorem d_Plain_guiltsOfPair_77 : decode me_Plain_guiltsOfPair.2.1 77 = .ok (.ireturn, 1) := by decide +kernel
noncomputable def f_Plain_guiltsOfPair_17 (k5 : Int32 → Int32 → Int32 → Int32 → gk_M → Option (Int32 × gk_M)) : Nat → Int32 → Int32 → Int32 → Int32 → Int32 → gk_M → Option (Int32 × gk_M)
  | 0, _, _, _, _, _, _ => none
  | n + 1, a1, a2, a3, a4, a5, m0 =>
    gk_ai m0 13 4 a4 fun v1 =>
    if v1 ≤ (a5 + 1) then
      k5 a1 a2 a3 (a4 + 1) m0
    else
      gk_bi (f_Plain_cornerAt a4 a5 m0) fun v3 m2 =>
      gk_bi (f_Plain_cornerAt a4 (a5 + 1) m2) fun v5 m4 =>
      gk_bi (f_Plain_guiltBetween v3 v5 a4 a1 a2 m4) fun v7 m6 =>
      if v7 = (-1) then
        f_Plain_guiltsOfPair_17 k5 n a1 a2 a3 a4 (a5 + 1) m6
      else
        f_Plain_guiltsOfPair_17 k5 n a1 a2 (a3 + 1) a4 (a5 + 1) m6

theorem s_Plain_guiltsOfPair_17 {z : gk_Z} (K : gk_F tx z me_Plain_guiltsOfPair 6) {r : Int32} {mem2 : gk_M} {k5 : Int32 → Int32 → Int32 → Int32 → gk_M → Option (Int32 × gk_M)} (hk5 : ∀ a1 a2 a3 a4 m0, k5 a1 a2 a3 a4 m0 = some (r, mem2) → gk_G tx z me_Plain_guiltsOfPair (gk_R tx z (some (.int r)) mem2) m0 [(0, .ref 7), (1, .int a1), (2, .int a2), (3, .int a3), (4, .int a4)] [] 5) : ∀ n a1 a2 a3 a4 a5 m0, f_Plain_guiltsOfPair_17 k5 n a1 a2 a3 a4 a5 m0 = some (r, mem2) → gk_G tx z me_Plain_guiltsOfPair (gk_R tx z (some (.int r)) mem2) m0 [(0, .ref 7), (1, .int a1), (2, .int a2), (3, .int a3), (4, .int a4), (5, .int a5)] [] 17 := by
  intro n
  induction n with
  | zero => intro a1 a2 a3 a4 a5 m0  h; exact nomatch (show (none : Option _) = some _ from h)
  | succ n ih =>
    intro a1 a2 a3 a4 a5 m0  h
    unfold f_Plain_guiltsOfPair_17 at h
    refine gk_iload (pc := 17) K d_Plain_guiltsOfPair_17 rfl ?_
    refine gk_iconst (pc := 19) K d_Plain_guiltsOfPair_19 kc_1 ?_
    refine gk_iadd (pc := 20) K d_Plain_guiltsOfPair_20 ?_
    refine gk_aload_n (pc := 21) K d_Plain_guiltsOfPair_21 rfl ?_
    refine gk_get (pc := 22) K d_Plain_guiltsOfPair_22 fl_Plain_31 tx_7 rfl rfl ?_
    refine gk_iload (pc := 25) K d_Plain_guiltsOfPair_25 rfl ?_
    refine gk_iald (pc := 27) K d_Plain_guiltsOfPair_27 tx_13 h (fun v1 h => ?_)
    refine gk_ic_ge (tgt := 70) (pc := 28) K d_Plain_guiltsOfPair_28 (by decide) h (fun h => ?_) (fun h => ?_)
    · refine gk_iinc2 (lv2 := [(4, .int (a4 + 1)), (0, .ref 7), (1, .int a1), (2, .int a2), (3, .int a3), (5, .int a5)]) (pc := 70) K d_Plain_guiltsOfPair_70 rfl kc_1 (by decide) rfl ?_
      refine gk_goto (tgt := 5) (pc := 73) K d_Plain_guiltsOfPair_73 (by decide) ?_
      exact gk_sub [1, 2, 3, 4, 0] rfl (hk5 _ _ _ _ _  h)
    · refine gk_aload_n (pc := 31) K d_Plain_guiltsOfPair_31 rfl ?_
      refine gk_aload_n (pc := 32) K d_Plain_guiltsOfPair_32 rfl ?_
      refine gk_iload (pc := 33) K d_Plain_guiltsOfPair_33 rfl ?_
      refine gk_iload (pc := 35) K d_Plain_guiltsOfPair_35 rfl ?_
      obtain ⟨v3, m2, em2, h⟩ := gk_bi_some h
      refine gk_cVi (As := [.int a4, .int a5]) (pc := 37) K d_Plain_guiltsOfPair_37 mv_Plain_100 mc_Plain_cornerAt rfl tx_7 cl_ok2.1 (s_Plain_cornerAt (gk_FD K)  em2) (by decide) rfl (Nat.le_of_ble_eq_true rfl) ?_
      refine gk_aload_n (pc := 40) K d_Plain_guiltsOfPair_40 rfl ?_
      refine gk_iload (pc := 41) K d_Plain_guiltsOfPair_41 rfl ?_
      refine gk_iload (pc := 43) K d_Plain_guiltsOfPair_43 rfl ?_
      refine gk_iconst (pc := 45) K d_Plain_guiltsOfPair_45 kc_1 ?_
      refine gk_iadd (pc := 46) K d_Plain_guiltsOfPair_46 ?_
      obtain ⟨v5, m4, em4, h⟩ := gk_bi_some h
      refine gk_cVi (As := [.int a4, .int (a5 + 1)]) (pc := 47) K d_Plain_guiltsOfPair_47 mv_Plain_100 mc_Plain_cornerAt rfl tx_7 cl_ok2.1 (s_Plain_cornerAt (gk_FD K)  em4) (by decide) rfl (Nat.le_of_ble_eq_true rfl) ?_
      refine gk_iload (pc := 50) K d_Plain_guiltsOfPair_50 rfl ?_
      refine gk_iload_n (pc := 52) K d_Plain_guiltsOfPair_52 rfl ?_
      refine gk_iload_n (pc := 53) K d_Plain_guiltsOfPair_53 rfl ?_
      obtain ⟨v7, m6, em6, h⟩ := gk_bi_some h
      refine gk_cVi (As := [.int v3, .int v5, .int a4, .int a1, .int a2]) (pc := 54) K d_Plain_guiltsOfPair_54 mv_Plain_146 mc_Plain_guiltBetween rfl tx_7 cl_ok2.1 (s_Plain_guiltBetween (gk_FD K)  em6) (by decide) rfl (Nat.le_of_ble_eq_true rfl) ?_
      refine gk_iconst (pc := 57) K d_Plain_guiltsOfPair_57 kc_m1 ?_
      refine gk_ic_eq (tgt := 64) (pc := 58) K d_Plain_guiltsOfPair_58 (by decide) h (fun h => ?_) (fun h => ?_)
      · refine gk_iinc2 (lv2 := [(5, .int (a5 + 1)), (0, .ref 7), (1, .int a1), (2, .int a2), (3, .int a3), (4, .int a4)]) (pc := 64) K d_Plain_guiltsOfPair_64 rfl kc_1 (by decide) rfl ?_
        refine gk_goto (tgt := 17) (pc := 67) K d_Plain_guiltsOfPair_67 (by decide) ?_
        exact gk_sub [1, 2, 3, 4, 5, 0] rfl (ih _ _ _ _ _ _  h)
      · refine gk_iinc2 (lv2 := [(3, .int (a3 + 1)), (0, .ref 7), (1, .int a1), (2, .int a2), (4, .int a4), (5, .int a5)]) (pc := 61) K d_Plain_guiltsOfPair_61 rfl kc_1 (by decide) rfl ?_
        refine gk_iinc2 (lv2 := [(5, .int (a5 + 1)), (3, .int (a3 + 1)), (0, .ref 7), (1, .int a1), (2, .int a2), (4, .int a4)]) (pc := 64) K d_Plain_guiltsOfPair_64 rfl kc_1 (by decide) rfl ?_
        refine gk_goto (tgt := 17) (pc := 67) K d_Plain_guiltsOfPair_67 (by decide) ?_
        exact gk_sub [2, 3, 4, 1, 5, 0] rfl (ih _ _ _ _ _ _  h)
noncomputable def f_Plain_guiltsOfPair_5  : Nat → Int32 → Int32 → Int32 → Int32 → gk_M → Option (Int32 × gk_M)
  | 0, _, _, _, _, _ => none
  | n + 1, a1, a2, a3, a4, m0 =>
    if (m0.1 7 7) ≤ a4 then
      some (a3, m0)
    else
      f_Plain_guiltsOfPair_17 (f_Plain_guiltsOfPair_5 n) gk_fv a1 a2 a3 a4 0 m0

theorem s_Plain_guiltsOfPair_5 {z : gk_Z} (K : gk_F tx z me_Plain_guiltsOfPair 6) {r : Int32} {mem2 : gk_M} : ∀ n a1 a2 a3 a4 m0, f_Plain_guiltsOfPair_5 n a1 a2 a3 a4 m0 = some (r, mem2) → gk_G tx z me_Plain_guiltsOfPair (gk_R tx z (some (.int r)) mem2) m0 [(0, .ref 7), (1, .int a1), (2, .int a2), (3, .int a3), (4, .int a4)] [] 5 := by
  intro n
  induction n with
  | zero => intro a1 a2 a3 a4 m0  h; exact nomatch (show (none : Option _) = some _ from h)
  | succ n ih =>
    intro a1 a2 a3 a4 m0  h
    unfold f_Plain_guiltsOfPair_5 at h
    refine gk_iload (pc := 5) K d_Plain_guiltsOfPair_5 rfl ?_
    refine gk_aload_n (pc := 7) K d_Plain_guiltsOfPair_7 rfl ?_
    refine gk_get (pc := 8) K d_Plain_guiltsOfPair_8 fl_Plain_34 tx_7 rfl rfl ?_
    refine gk_ic_ge (tgt := 76) (pc := 11) K d_Plain_guiltsOfPair_11 (by decide) h (fun h => ?_) (fun h => ?_)
    · refine gk_iload_n (pc := 76) K d_Plain_guiltsOfPair_76 rfl ?_
      exact gk_iret (pc := 77) K d_Plain_guiltsOfPair_77 rfl h
    · refine gk_iconst (pc := 14) K d_Plain_guiltsOfPair_14 kc_0 ?_
      refine gk_istore (lv2 := [(5, .int 0), (0, .ref 7), (1, .int a1), (2, .int a2), (3, .int a3), (4, .int a4)]) (pc := 15) K d_Plain_guiltsOfPair_15 (by decide) rfl ?_
      exact gk_sub [1, 2, 3, 4, 5, 0] rfl (s_Plain_guiltsOfPair_17 K (fun x0 x1 x2 x3 m  h => ih x0 x1 x2 x3 m  h) _ _ _ _ _ _ _  h)
noncomputable def f_Plain_guiltsOfPair  (a1 : Int32) (a2 : Int32) (m0 : gk_M) : Option (Int32 × gk_M) :=
  f_Plain_guiltsOfPair_5 gk_fv a1 a2 0 0 m0

theorem s_Plain_guiltsOfPair_0 {z : gk_Z} (K : gk_F tx z me_Plain_guiltsOfPair 6) {r : Int32} {mem2 : gk_M} : ∀ a1 a2 m0, f_Plain_guiltsOfPair a1 a2 m0 = some (r, mem2) → gk_G tx z me_Plain_guiltsOfPair (gk_R tx z (some (.int r)) mem2) m0 [(0, .ref 7), (1, .int a1), (2, .int a2)] [] 0 := by
  intro a1 a2 m0  h
  unfold f_Plain_guiltsOfPair at h
  refine gk_iconst (pc := 0) K d_Plain_guiltsOfPair_0 kc_0 ?_
  refine gk_istore_n (lv2 := [(3, .int 0), (0, .ref 7), (1, .int a1), (2, .int a2)]) (pc := 1) K d_Plain_guiltsOfPair_1 (by decide) rfl ?_
  refine gk_iconst (pc := 2) K d_Plain_guiltsOfPair_2 kc_0 ?_
  refine gk_istore (lv2 := [(4, .int 0), (3, .int 0), (0, .ref 7), (1, .int a1), (2, .int a2)]) (pc := 3) K d_Plain_guiltsOfPair_3 (by decide) rfl ?_
  exact gk_sub [2, 3, 4, 1, 0] rfl (s_Plain_guiltsOfPair_5 K _ _ _ _ _ _  h)
theorem s_Plain_guiltsOfPair {l : Launch} {u : gk_U} (hD : gk_D tx u) {a1 : Int32} {a2 : Int32} {m0 mem2 : gk_M} {r : Int32} (h : f_Plain_guiltsOfPair a1 a2 m0 = some (r, mem2)) : gk_C tx l u me_Plain_guiltsOfPair 6 [.ref 7, .int a1, .int a2] m0 (some (.int r)) mem2 :=
  gk_enter hD mc_Plain_guiltsOfPair (Nat.le_of_ble_eq_true rfl) rfl (fun z _ _ K => s_Plain_guiltsOfPair_0 K _ _ _  h)
theorem d_Plain_guiltsWith_0 : decode me_Plain_guiltsWith.2.1 0 = .ok (.iconst 0, 1) := by decide +kernel
theorem d_Plain_guiltsWith_1 : decode me_Plain_guiltsWith.2.1 1 = .ok (.istore_n 2, 1) := by decide +kernel
theorem d_Plain_guiltsWith_2 : decode me_Plain_guiltsWith.2.1 2 = .ok (.iconst 0, 1) := by decide +kernel
theorem d_Plain_guiltsWith_3 : decode me_Plain_guiltsWith.2.1 3 = .ok (.istore_n 3, 1) := by decide +kernel
theorem d_Plain_guiltsWith_4 : decode me_Plain_guiltsWith.2.1 4 = .ok (.iload_n 3, 1) := by decide +kernel
theorem d_Plain_guiltsWith_5 : decode me_Plain_guiltsWith.2.1 5 = .ok (.aload_n 0, 1) := by decide +kernel
theorem d_Plain_guiltsWith_6 : decode me_Plain_guiltsWith.2.1 6 = .ok (.getfield 27, 3) := by decide +kernel
theorem d_Plain_guiltsWith_9 : decode me_Plain_guiltsWith.2.1 9 = .ok (.if_icmp .ge 23, 3) := by decide +kernel
theorem d_Plain_guiltsWith_12 : decode me_Plain_guiltsWith.2.1 12 = .ok (.iload_n 3, 1) := by decide +kernel
theorem d_Plain_guiltsWith_13 : decode me_Plain_guiltsWith.2.1 13 = .ok (.iload_n 1, 1) := by decide +kernel
theorem d_Plain_guiltsWith_14 : decode me_Plain_guiltsWith.2.1 14 = .ok (.if_icmp .eq 12, 3) := by decide +kernel
theorem d_Plain_guiltsWith_17 : decode me_Plain_guiltsWith.2.1 17 = .ok (.iload_n 2, 1) := by decide +kernel
theorem d_Plain_guiltsWith_18 : decode me_Plain_guiltsWith.2.1 18 = .ok (.aload_n 0, 1) := by decide +kernel
theorem d_Plain_guiltsWith_19 : decode me_Plain_guiltsWith.2.1 19 = .ok (.iload_n 3, 1) := by decide +kernel
theorem d_Plain_guiltsWith_20 : decode me_Plain_guiltsWith.2.1 20 = .ok (.iload_n 1, 1) := by decide +kernel
theorem d_Plain_guiltsWith_21 : decode me_Plain_guiltsWith.2.1 21 = .ok (.invokevirtual 154, 3) := by decide +kernel
theorem d_Plain_guiltsWith_24 : decode me_Plain_guiltsWith.2.1 24 = .ok (.iadd, 1) := by decide +kernel
theorem d_Plain_guiltsWith_25 : decode me_Plain_guiltsWith.2.1 25 = .ok (.istore_n 2, 1) := by decide +kernel
theorem d_Plain_guiltsWith_26 : decode me_Plain_guiltsWith.2.1 26 = .ok (.iinc 3 1, 3) := by decide +kernel
theorem d_Plain_guiltsWith_29 : decode me_Plain_guiltsWith.2.1 29 = .ok (.goto (-25), 3) := by decide +kernel
theorem d_Plain_guiltsWith_32 : decode me_Plain_guiltsWith.2.1 32 = .ok (.iload_n 2, 1) := by decide +kernel
theorem d_Plain_guiltsWith_33 : decode me_Plain_guiltsWith.2.1 33 = .ok (.ireturn, 1) := by decide +kernel
noncomputable def f_Plain_guiltsWith_4  : Nat → Int32 → Int32 → Int32 → gk_M → Option (Int32 × gk_M)
  | 0, _, _, _, _ => none
  | n + 1, a1, a2, a3, m0 =>
    if (m0.1 7 5) ≤ a3 then
      some (a2, m0)
    else
      if a3 = a1 then
        f_Plain_guiltsWith_4 n a1 a2 (a3 + 1) m0
      else
        gk_bi (f_Plain_guiltsOfPair a3 a1 m0) fun v2 m1 =>
        gk_let (a2 + v2) fun v3 =>
        f_Plain_guiltsWith_4 n a1 v3 (a3 + 1) m1

theorem s_Plain_guiltsWith_4 {z : gk_Z} (K : gk_F tx z me_Plain_guiltsWith 7) {r : Int32} {mem2 : gk_M} : ∀ n a1 a2 a3 m0, f_Plain_guiltsWith_4 n a1 a2 a3 m0 = some (r, mem2) → gk_G tx z me_Plain_guiltsWith (gk_R tx z (some (.int r)) mem2) m0 [(0, .ref 7), (1, .int a1), (2, .int a2), (3, .int a3)] [] 4 := by
  intro n
  induction n with
  | zero => intro a1 a2 a3 m0  h; exact nomatch (show (none : Option _) = some _ from h)
  | succ n ih =>
    intro a1 a2 a3 m0  h
    unfold f_Plain_guiltsWith_4 at h
    refine gk_iload_n (pc := 4) K d_Plain_guiltsWith_4 rfl ?_
    refine gk_aload_n (pc := 5) K d_Plain_guiltsWith_5 rfl ?_
    refine gk_get (pc := 6) K d_Plain_guiltsWith_6 fl_Plain_27 tx_7 rfl rfl ?_
    refine gk_ic_ge (tgt := 32) (pc := 9) K d_Plain_guiltsWith_9 (by decide) h (fun h => ?_) (fun h => ?_)
    · refine gk_iload_n (pc := 32) K d_Plain_guiltsWith_32 rfl ?_
      exact gk_iret (pc := 33) K d_Plain_guiltsWith_33 rfl h
    · refine gk_iload_n (pc := 12) K d_Plain_guiltsWith_12 rfl ?_
      refine gk_iload_n (pc := 13) K d_Plain_guiltsWith_13 rfl ?_
      refine gk_ic_eq (tgt := 26) (pc := 14) K d_Plain_guiltsWith_14 (by decide) h (fun h => ?_) (fun h => ?_)
      · refine gk_iinc2 (lv2 := [(3, .int (a3 + 1)), (0, .ref 7), (1, .int a1), (2, .int a2)]) (pc := 26) K d_Plain_guiltsWith_26 rfl kc_1 (by decide) rfl ?_
        refine gk_goto (tgt := 4) (pc := 29) K d_Plain_guiltsWith_29 (by decide) ?_
        exact gk_sub [1, 2, 3, 0] rfl (ih _ _ _ _  h)
      · refine gk_iload_n (pc := 17) K d_Plain_guiltsWith_17 rfl ?_
        refine gk_aload_n (pc := 18) K d_Plain_guiltsWith_18 rfl ?_
        refine gk_iload_n (pc := 19) K d_Plain_guiltsWith_19 rfl ?_
        refine gk_iload_n (pc := 20) K d_Plain_guiltsWith_20 rfl ?_
        obtain ⟨v2, m1, em1, h⟩ := gk_bi_some h
        refine gk_cVi (As := [.int a3, .int a1]) (pc := 21) K d_Plain_guiltsWith_21 mv_Plain_154 mc_Plain_guiltsOfPair rfl tx_7 cl_ok2.1 (s_Plain_guiltsOfPair (gk_FD K)  em1) (by decide) rfl (Nat.le_of_ble_eq_true rfl) ?_
        refine gk_iadd (pc := 24) K d_Plain_guiltsWith_24 ?_
        refine gk_topi h (fun v3 h => ?_)
        refine gk_istore_n (lv2 := [(2, .int v3), (0, .ref 7), (1, .int a1), (3, .int a3)]) (pc := 25) K d_Plain_guiltsWith_25 (by decide) rfl ?_
        refine gk_iinc2 (lv2 := [(3, .int (a3 + 1)), (2, .int v3), (0, .ref 7), (1, .int a1)]) (pc := 26) K d_Plain_guiltsWith_26 rfl kc_1 (by decide) rfl ?_
        refine gk_goto (tgt := 4) (pc := 29) K d_Plain_guiltsWith_29 (by decide) ?_
        exact gk_sub [2, 3, 1, 0] rfl (ih _ _ _ _  h)
noncomputable def f_Plain_guiltsWith  (a1 : Int32) (m0 : gk_M) : Option (Int32 × gk_M) :=
  f_Plain_guiltsWith_4 gk_fv a1 0 0 m0

theorem s_Plain_guiltsWith_0 {z : gk_Z} (K : gk_F tx z me_Plain_guiltsWith 7) {r : Int32} {mem2 : gk_M} : ∀ a1 m0, f_Plain_guiltsWith a1 m0 = some (r, mem2) → gk_G tx z me_Plain_guiltsWith (gk_R tx z (some (.int r)) mem2) m0 [(0, .ref 7), (1, .int a1)] [] 0 := by
  intro a1 m0  h
  unfold f_Plain_guiltsWith at h
  refine gk_iconst (pc := 0) K d_Plain_guiltsWith_0 kc_0 ?_
  refine gk_istore_n (lv2 := [(2, .int 0), (0, .ref 7), (1, .int a1)]) (pc := 1) K d_Plain_guiltsWith_1 (by decide) rfl ?_
  refine gk_iconst (pc := 2) K d_Plain_guiltsWith_2 kc_0 ?_
  refine gk_istore_n (lv2 := [(3, .int 0), (2, .int 0), (0, .ref 7), (1, .int a1)]) (pc := 3) K d_Plain_guiltsWith_3 (by decide) rfl ?_
  exact gk_sub [2, 3, 1, 0] rfl (s_Plain_guiltsWith_4 K _ _ _ _ _  h)
theorem s_Plain_guiltsWith {l : Launch} {u : gk_U} (hD : gk_D tx u) {a1 : Int32} {m0 mem2 : gk_M} {r : Int32} (h : f_Plain_guiltsWith a1 m0 = some (r, mem2)) : gk_C tx l u me_Plain_guiltsWith 7 [.ref 7, .int a1] m0 (some (.int r)) mem2 :=
  gk_enter hD mc_Plain_guiltsWith (Nat.le_of_ble_eq_true rfl) rfl (fun z _ _ K => s_Plain_guiltsWith_0 K _ _  h)
theorem d_X_led_0 : decode me_X_led.2.1 0 = .ok (.aload_n 0, 1) := by decide +kernel
theorem d_X_led_1 : decode me_X_led.2.1 1 = .ok (.getfield 28, 3) := by decide +kernel
theorem d_X_led_4 : decode me_X_led.2.1 4 = .ok (.iload_n 1, 1) := by decide +kernel
theorem d_X_led_5 : decode me_X_led.2.1 5 = .ok (.invokevirtual 147, 3) := by decide +kernel
theorem d_X_led_8 : decode me_X_led.2.1 8 = .ok (.ifCond .eq 14, 3) := by decide +kernel
theorem d_X_led_11 : decode me_X_led.2.1 11 = .ok (.aload_n 0, 1) := by decide +kernel
theorem d_X_led_12 : decode me_X_led.2.1 12 = .ok (.getfield 28, 3) := by decide +kernel
theorem d_X_led_15 : decode me_X_led.2.1 15 = .ok (.iload_n 1, 1) := by decide +kernel
theorem d_X_led_16 : decode me_X_led.2.1 16 = .ok (.invokevirtual 205, 3) := by decide +kernel
theorem d_X_led_19 : decode me_X_led.2.1 19 = .ok (.goto 4, 3) := by decide +kernel
theorem d_X_led_22 : decode me_X_led.2.1 22 = .ok (.iconst (-1), 1) := by decide +kernel
theorem d_X_led_23 : decode me_X_led.2.1 23 = .ok (.ireturn, 1) := by decide +kernel
noncomputable def f_X_led  (a1 : Int32) (m0 : gk_M) : Option (Int32 × gk_M) :=
  gk_bi (f_Plain_isTower a1 m0) fun v2 m1 =>
  if v2 = 0 then
    some ((-1), m1)
  else
    gk_bi (f_Plain_guiltsWith a1 m1) fun v4 m3 =>
    some (v4, m3)

theorem s_X_led_0 {z : gk_Z} (K : gk_F tx z me_X_led 8) {r : Int32} {mem2 : gk_M} : ∀ a1 m0, f_X_led a1 m0 = some (r, mem2) → gk_G tx z me_X_led (gk_R tx z (some (.int r)) mem2) m0 [(0, .ref 0), (1, .int a1)] [] 0 := by
  intro a1 m0  h
  unfold f_X_led at h
  refine gk_aload_n (pc := 0) K d_X_led_0 rfl ?_
  refine gk_get (pc := 1) K d_X_led_1 fl_X_28 tx_0 rfl rfl ?_
  refine gk_iload_n (pc := 4) K d_X_led_4 rfl ?_
  obtain ⟨v2, m1, em1, h⟩ := gk_bi_some h
  refine gk_cVi (As := [.int a1]) (pc := 5) K d_X_led_5 mv_X_147 mc_Plain_isTower rfl tx_7 cl_ok2.1 (s_Plain_isTower (gk_FD K)  em1) (by decide) rfl (Nat.le_of_ble_eq_true rfl) ?_
  refine gk_if_eq (tgt := 22) (pc := 8) K d_X_led_8 (by decide) h (fun h => ?_) (fun h => ?_)
  · refine gk_iconst (pc := 22) K d_X_led_22 kc_m1 ?_
    exact gk_iret (pc := 23) K d_X_led_23 rfl h
  · refine gk_aload_n (pc := 11) K d_X_led_11 rfl ?_
    refine gk_get (pc := 12) K d_X_led_12 fl_X_28 tx_0 rfl rfl ?_
    refine gk_iload_n (pc := 15) K d_X_led_15 rfl ?_
    obtain ⟨v4, m3, em3, h⟩ := gk_bi_some h
    refine gk_cVi (As := [.int a1]) (pc := 16) K d_X_led_16 mv_X_205 mc_Plain_guiltsWith rfl tx_7 cl_ok2.1 (s_Plain_guiltsWith (gk_FD K)  em3) (by decide) rfl (Nat.le_of_ble_eq_true rfl) ?_
    refine gk_goto (tgt := 23) (pc := 19) K d_X_led_19 (by decide) ?_
    exact gk_iret (pc := 23) K d_X_led_23 rfl h
theorem s_X_led {l : Launch} {u : gk_U} (hD : gk_D tx u) {a1 : Int32} {m0 mem2 : gk_M} {r : Int32} (h : f_X_led a1 m0 = some (r, mem2)) : gk_C tx l u me_X_led 8 [.ref 0, .int a1] m0 (some (.int r)) mem2 :=
  gk_enter hD mc_X_led (Nat.le_of_ble_eq_true rfl) rfl (fun z _ _ K => s_X_led_0 K _ _  h)
theorem d_Plain_joinSeen_0 : decode me_Plain_joinSeen.2.1 0 = .ok (.iload_n 1, 1) := by decide +kernel
theorem d_Plain_joinSeen_1 : decode me_Plain_joinSeen.2.1 1 = .ok (.bipush 30, 2) := by decide +kernel
theorem d_Plain_joinSeen_3 : decode me_Plain_joinSeen.2.1 3 = .ok (.irem, 1) := by decide +kernel
theorem d_Plain_joinSeen_4 : decode me_Plain_joinSeen.2.1 4 = .ok (.istore 5, 2) := by decide +kernel
theorem d_Plain_joinSeen_6 : decode me_Plain_joinSeen.2.1 6 = .ok (.iload_n 1, 1) := by decide +kernel
theorem d_Plain_joinSeen_7 : decode me_Plain_joinSeen.2.1 7 = .ok (.bipush 30, 2) := by decide +kernel
theorem d_Plain_joinSeen_9 : decode me_Plain_joinSeen.2.1 9 = .ok (.idiv, 1) := by decide +kernel
theorem d_Plain_joinSeen_10 : decode me_Plain_joinSeen.2.1 10 = .ok (.istore 6, 2) := by decide +kernel
theorem d_Plain_joinSeen_12 : decode me_Plain_joinSeen.2.1 12 = .ok (.aload_n 0, 1) := by decide +kernel
theorem d_Plain_joinSeen_13 : decode me_Plain_joinSeen.2.1 13 = .ok (.getfield 11, 3) := by decide +kernel
theorem d_Plain_joinSeen_16 : decode me_Plain_joinSeen.2.1 16 = .ok (.iload 4, 2) := by decide +kernel
theorem d_Plain_joinSeen_18 : decode me_Plain_joinSeen.2.1 18 = .ok (.iaload, 1) := by decide +kernel
theorem d_Plain_joinSeen_19 : decode me_Plain_joinSeen.2.1 19 = .ok (.iload 5, 2) := by decide +kernel
theorem d_Plain_joinSeen_21 : decode me_Plain_joinSeen.2.1 21 = .ok (.isub, 1) := by decide +kernel
theorem d_Plain_joinSeen_22 : decode me_Plain_joinSeen.2.1 22 = .ok (.istore 7, 2) := by decide +kernel
theorem d_Plain_joinSeen_24 : decode me_Plain_joinSeen.2.1 24 = .ok (.aload_n 0, 1) := by decide +kernel
theorem d_Plain_joinSeen_25 : decode me_Plain_joinSeen.2.1 25 = .ok (.getfield 15, 3) := by decide +kernel
theorem d_Plain_joinSeen_28 : decode me_Plain_joinSeen.2.1 28 = .ok (.iload 4, 2) := by decide +kernel
theorem d_Plain_joinSeen_30 : decode me_Plain_joinSeen.2.1 30 = .ok (.iaload, 1) := by decide +kernel
theorem d_Plain_joinSeen_31 : decode me_Plain_joinSeen.2.1 31 = .ok (.iload 6, 2) := by decide +kernel
theorem d_Plain_joinSeen_33 : decode me_Plain_joinSeen.2.1 33 = .ok (.isub, 1) := by decide +kernel
theorem d_Plain_joinSeen_34 : decode me_Plain_joinSeen.2.1 34 = .ok (.istore 8, 2) := by decide +kernel
theorem d_Plain_joinSeen_36 : decode me_Plain_joinSeen.2.1 36 = .ok (.iload 7, 2) := by decide +kernel
theorem d_Plain_joinSeen_38 : decode me_Plain_joinSeen.2.1 38 = .ok (.ifCond .ne 10, 3) := by decide +kernel
theorem d_Plain_joinSeen_41 : decode me_Plain_joinSeen.2.1 41 = .ok (.iload 8, 2) := by decide +kernel
theorem d_Plain_joinSeen_43 : decode me_Plain_joinSeen.2.1 43 = .ok (.ifCond .ne 5, 3) := by decide +kernel
theorem d_Plain_joinSeen_46 : decode me_Plain_joinSeen.2.1 46 = .ok (.iload_n 3, 1) := by decide +kernel
theorem d_Plain_joinSeen_47 : decode me_Plain_joinSeen.2.1 47 = .ok (.ireturn, 1) := by decide +kernel
theorem d_Plain_joinSeen_48 : decode me_Plain_joinSeen.2.1 48 = .ok (.iload_n 3, 1) := by decide +kernel
theorem d_Plain_joinSeen_49 : decode me_Plain_joinSeen.2.1 49 = .ok (.istore 9, 2) := by decide +kernel
theorem d_Plain_joinSeen_51 : decode me_Plain_joinSeen.2.1 51 = .ok (.aload_n 0, 1) := by decide +kernel
theorem d_Plain_joinSeen_52 : decode me_Plain_joinSeen.2.1 52 = .ok (.iload 5, 2) := by decide +kernel
theorem d_Plain_joinSeen_54 : decode me_Plain_joinSeen.2.1 54 = .ok (.iload 6, 2) := by decide +kernel
theorem d_Plain_joinSeen_56 : decode me_Plain_joinSeen.2.1 56 = .ok (.iconst 1, 1) := by decide +kernel
theorem d_Plain_joinSeen_57 : decode me_Plain_joinSeen.2.1 57 = .ok (.iload 4, 2) := by decide +kernel
theorem d_Plain_joinSeen_59 : decode me_Plain_joinSeen.2.1 59 = .ok (.iload 7, 2) := by decide +kernel
theorem d_Plain_joinSeen_61 : decode me_Plain_joinSeen.2.1 61 = .ok (.iload 8, 2) := by decide +kernel
theorem d_Plain_joinSeen_63 : decode me_Plain_joinSeen.2.1 63 = .ok (.invokevirtual 131, 3) := by decide +kernel
theorem d_Plain_joinSeen_66 : decode me_Plain_joinSeen.2.1 66 = .ok (.ifCond .ne 7, 3) := by decide +kernel
theorem d_Plain_joinSeen_69 : decode me_Plain_joinSeen.2.1 69 = .ok (.iconst 1, 1) := by decide +kernel
theorem d_Plain_joinSeen_70 : decode me_Plain_joinSeen.2.1 70 = .ok (.goto 4, 3) := by decide +kernel
theorem d_Plain_joinSeen_73 : decode me_Plain_joinSeen.2.1 73 = .ok (.iconst 0, 1) := by decide +kernel
theorem d_Plain_joinSeen_74 : decode me_Plain_joinSeen.2.1 74 = .ok (.istore 10, 2) := by decide +kernel
theorem d_Plain_joinSeen_76 : decode me_Plain_joinSeen.2.1 76 = .ok (.iconst 0, 1) := by decide +kernel
theorem d_Plain_joinSeen_77 : decode me_Plain_joinSeen.2.1 77 = .ok (.istore 11, 2) := by decide +kernel
theorem d_Plain_joinSeen_79 : decode me_Plain_joinSeen.2.1 79 = .ok (.iload 11, 2) := by decide +kernel
theorem d_Plain_joinSeen_81 : decode me_Plain_joinSeen.2.1 81 = .ok (.aload_n 0, 1) := by decide +kernel
theorem d_Plain_joinSeen_82 : decode me_Plain_joinSeen.2.1 82 = .ok (.getfield 27, 3) := by decide +kernel
theorem d_Plain_joinSeen_85 : decode me_Plain_joinSeen.2.1 85 = .ok (.if_icmp .ge 169, 3) := by decide +kernel
theorem d_Plain_joinSeen_88 : decode me_Plain_joinSeen.2.1 88 = .ok (.aload_n 0, 1) := by decide +kernel
theorem d_Plain_joinSeen_89 : decode me_Plain_joinSeen.2.1 89 = .ok (.getfield 11, 3) := by decide +kernel
theorem d_Plain_joinSeen_92 : decode me_Plain_joinSeen.2.1 92 = .ok (.iload 11, 2) := by decide +kernel
theorem d_Plain_joinSeen_94 : decode me_Plain_joinSeen.2.1 94 = .ok (.iaload, 1) := by decide +kernel
theorem d_Plain_joinSeen_95 : decode me_Plain_joinSeen.2.1 95 = .ok (.iload 5, 2) := by decide +kernel
theorem d_Plain_joinSeen_97 : decode me_Plain_joinSeen.2.1 97 = .ok (.isub, 1) := by decide +kernel
theorem d_Plain_joinSeen_98 : decode me_Plain_joinSeen.2.1 98 = .ok (.istore 12, 2) := by decide +kernel
theorem d_Plain_joinSeen_100 : decode me_Plain_joinSeen.2.1 100 = .ok (.aload_n 0, 1) := by decide +kernel
theorem d_Plain_joinSeen_101 : decode me_Plain_joinSeen.2.1 101 = .ok (.getfield 15, 3) := by decide +kernel
theorem d_Plain_joinSeen_104 : decode me_Plain_joinSeen.2.1 104 = .ok (.iload 11, 2) := by decide +kernel
theorem d_Plain_joinSeen_106 : decode me_Plain_joinSeen.2.1 106 = .ok (.iaload, 1) := by decide +kernel
theorem d_Plain_joinSeen_107 : decode me_Plain_joinSeen.2.1 107 = .ok (.iload 6, 2) := by decide +kernel
theorem d_Plain_joinSeen_109 : decode me_Plain_joinSeen.2.1 109 = .ok (.isub, 1) := by decide +kernel
theorem d_Plain_joinSeen_110 : decode me_Plain_joinSeen.2.1 110 = .ok (.istore 13, 2) := by decide +kernel
theorem d_Plain_joinSeen_112 : decode me_Plain_joinSeen.2.1 112 = .ok (.iload 7, 2) := by decide +kernel
theorem d_Plain_joinSeen_114 : decode me_Plain_joinSeen.2.1 114 = .ok (.iload 13, 2) := by decide +kernel
theorem d_Plain_joinSeen_116 : decode me_Plain_joinSeen.2.1 116 = .ok (.imul, 1) := by decide +kernel
theorem d_Plain_joinSeen_117 : decode me_Plain_joinSeen.2.1 117 = .ok (.iload 8, 2) := by decide +kernel
theorem d_Plain_joinSeen_119 : decode me_Plain_joinSeen.2.1 119 = .ok (.iload 12, 2) := by decide +kernel
theorem d_Plain_joinSeen_121 : decode me_Plain_joinSeen.2.1 121 = .ok (.imul, 1) := by decide +kernel
theorem d_Plain_joinSeen_122 : decode me_Plain_joinSeen.2.1 122 = .ok (.if_icmp .ne 21, 3) := by decide +kernel
theorem d_Plain_joinSeen_125 : decode me_Plain_joinSeen.2.1 125 = .ok (.iload 7, 2) := by decide +kernel
theorem d_Plain_joinSeen_127 : decode me_Plain_joinSeen.2.1 127 = .ok (.iload 12, 2) := by decide +kernel
theorem d_Plain_joinSeen_129 : decode me_Plain_joinSeen.2.1 129 = .ok (.imul, 1) := by decide +kernel
theorem d_Plain_joinSeen_130 : decode me_Plain_joinSeen.2.1 130 = .ok (.iload 8, 2) := by decide +kernel
theorem d_Plain_joinSeen_132 : decode me_Plain_joinSeen.2.1 132 = .ok (.iload 13, 2) := by decide +kernel
theorem d_Plain_joinSeen_134 : decode me_Plain_joinSeen.2.1 134 = .ok (.imul, 1) := by decide +kernel
theorem d_Plain_joinSeen_135 : decode me_Plain_joinSeen.2.1 135 = .ok (.iadd, 1) := by decide +kernel
theorem d_Plain_joinSeen_136 : decode me_Plain_joinSeen.2.1 136 = .ok (.ifCond .le 7, 3) := by decide +kernel
theorem d_Plain_joinSeen_139 : decode me_Plain_joinSeen.2.1 139 = .ok (.iconst 1, 1) := by decide +kernel
theorem d_Plain_joinSeen_140 : decode me_Plain_joinSeen.2.1 140 = .ok (.goto 4, 3) := by decide +kernel
theorem d_Plain_joinSeen_143 : decode me_Plain_joinSeen.2.1 143 = .ok (.iconst 0, 1) := by decide +kernel
theorem d_Plain_joinSeen_144 : decode me_Plain_joinSeen.2.1 144 = .ok (.istore 14, 2) := by decide +kernel
theorem d_Plain_joinSeen_146 : decode me_Plain_joinSeen.2.1 146 = .ok (.iload_n 2, 1) := by decide +kernel
theorem d_Plain_joinSeen_147 : decode me_Plain_joinSeen.2.1 147 = .ok (.iload 11, 2) := by decide +kernel
theorem d_Plain_joinSeen_149 : decode me_Plain_joinSeen.2.1 149 = .ok (.ishr, 1) := by decide +kernel
theorem d_Plain_joinSeen_150 : decode me_Plain_joinSeen.2.1 150 = .ok (.iconst 1, 1) := by decide +kernel
theorem d_Plain_joinSeen_151 : decode me_Plain_joinSeen.2.1 151 = .ok (.iand, 1) := by decide +kernel
theorem d_Plain_joinSeen_152 : decode me_Plain_joinSeen.2.1 152 = .ok (.ifCond .eq 96, 3) := by decide +kernel
theorem d_Plain_joinSeen_155 : decode me_Plain_joinSeen.2.1 155 = .ok (.iload 14, 2) := by decide +kernel
theorem d_Plain_joinSeen_157 : decode me_Plain_joinSeen.2.1 157 = .ok (.ifCond .ne 6, 3) := by decide +kernel
theorem d_Plain_joinSeen_160 : decode me_Plain_joinSeen.2.1 160 = .ok (.goto 88, 3) := by decide +kernel
theorem d_Plain_joinSeen_163 : decode me_Plain_joinSeen.2.1 163 = .ok (.iload 12, 2) := by decide +kernel
theorem d_Plain_joinSeen_165 : decode me_Plain_joinSeen.2.1 165 = .ok (.invokestatic 124, 3) := by decide +kernel
theorem d_Plain_joinSeen_168 : decode me_Plain_joinSeen.2.1 168 = .ok (.iload 13, 2) := by decide +kernel
theorem d_Plain_joinSeen_170 : decode me_Plain_joinSeen.2.1 170 = .ok (.invokestatic 124, 3) := by decide +kernel
theorem d_Plain_joinSeen_173 : decode me_Plain_joinSeen.2.1 173 = .ok (.iadd, 1) := by decide +kernel
theorem d_Plain_joinSeen_174 : decode me_Plain_joinSeen.2.1 174 = .ok (.iload 7, 2) := by decide +kernel
theorem d_Plain_joinSeen_176 : decode me_Plain_joinSeen.2.1 176 = .ok (.invokestatic 124, 3) := by decide +kernel
theorem d_Plain_joinSeen_179 : decode me_Plain_joinSeen.2.1 179 = .ok (.iload 8, 2) := by decide +kernel
theorem d_Plain_joinSeen_181 : decode me_Plain_joinSeen.2.1 181 = .ok (.invokestatic 124, 3) := by decide +kernel
theorem d_Plain_joinSeen_184 : decode me_Plain_joinSeen.2.1 184 = .ok (.iadd, 1) := by decide +kernel
theorem d_Plain_joinSeen_185 : decode me_Plain_joinSeen.2.1 185 = .ok (.if_icmp .ge 35, 3) := by decide +kernel
theorem d_Plain_joinSeen_188 : decode me_Plain_joinSeen.2.1 188 = .ok (.iload 10, 2) := by decide +kernel
theorem d_Plain_joinSeen_190 : decode me_Plain_joinSeen.2.1 190 = .ok (.ifCond .eq 24, 3) := by decide +kernel
theorem d_Plain_joinSeen_193 : decode me_Plain_joinSeen.2.1 193 = .ok (.aload_n 0, 1) := by decide +kernel
theorem d_Plain_joinSeen_194 : decode me_Plain_joinSeen.2.1 194 = .ok (.getfield 18, 3) := by decide +kernel
theorem d_Plain_joinSeen_197 : decode me_Plain_joinSeen.2.1 197 = .ok (.iload 11, 2) := by decide +kernel
theorem d_Plain_joinSeen_199 : decode me_Plain_joinSeen.2.1 199 = .ok (.iaload, 1) := by decide +kernel
theorem d_Plain_joinSeen_200 : decode me_Plain_joinSeen.2.1 200 = .ok (.aload_n 0, 1) := by decide +kernel
theorem d_Plain_joinSeen_201 : decode me_Plain_joinSeen.2.1 201 = .ok (.getfield 18, 3) := by decide +kernel
theorem d_Plain_joinSeen_204 : decode me_Plain_joinSeen.2.1 204 = .ok (.iload 4, 2) := by decide +kernel
theorem d_Plain_joinSeen_206 : decode me_Plain_joinSeen.2.1 206 = .ok (.iaload, 1) := by decide +kernel
theorem d_Plain_joinSeen_207 : decode me_Plain_joinSeen.2.1 207 = .ok (.if_icmp .ge 7, 3) := by decide +kernel
theorem d_Plain_joinSeen_210 : decode me_Plain_joinSeen.2.1 210 = .ok (.iconst 1, 1) := by decide +kernel
theorem d_Plain_joinSeen_211 : decode me_Plain_joinSeen.2.1 211 = .ok (.goto 4, 3) := by decide +kernel
theorem d_Plain_joinSeen_214 : decode me_Plain_joinSeen.2.1 214 = .ok (.iconst 0, 1) := by decide +kernel
theorem d_Plain_joinSeen_215 : decode me_Plain_joinSeen.2.1 215 = .ok (.istore 10, 2) := by decide +kernel
theorem d_Plain_joinSeen_217 : decode me_Plain_joinSeen.2.1 217 = .ok (.goto 31, 3) := by decide +kernel
theorem d_Plain_joinSeen_220 : decode me_Plain_joinSeen.2.1 220 = .ok (.aload_n 0, 1) := by decide +kernel
theorem d_Plain_joinSeen_221 : decode me_Plain_joinSeen.2.1 221 = .ok (.getfield 18, 3) := by decide +kernel
theorem d_Plain_joinSeen_224 : decode me_Plain_joinSeen.2.1 224 = .ok (.iload 4, 2) := by decide +kernel
theorem d_Plain_joinSeen_226 : decode me_Plain_joinSeen.2.1 226 = .ok (.iaload, 1) := by decide +kernel
theorem d_Plain_joinSeen_227 : decode me_Plain_joinSeen.2.1 227 = .ok (.aload_n 0, 1) := by decide +kernel
theorem d_Plain_joinSeen_228 : decode me_Plain_joinSeen.2.1 228 = .ok (.getfield 18, 3) := by decide +kernel
theorem d_Plain_joinSeen_231 : decode me_Plain_joinSeen.2.1 231 = .ok (.iload 11, 2) := by decide +kernel
theorem d_Plain_joinSeen_233 : decode me_Plain_joinSeen.2.1 233 = .ok (.iaload, 1) := by decide +kernel
theorem d_Plain_joinSeen_234 : decode me_Plain_joinSeen.2.1 234 = .ok (.if_icmp .lt 14, 3) := by decide +kernel
theorem d_Plain_joinSeen_237 : decode me_Plain_joinSeen.2.1 237 = .ok (.iload 9, 2) := by decide +kernel
theorem d_Plain_joinSeen_239 : decode me_Plain_joinSeen.2.1 239 = .ok (.iconst 1, 1) := by decide +kernel
theorem d_Plain_joinSeen_240 : decode me_Plain_joinSeen.2.1 240 = .ok (.iload 11, 2) := by decide +kernel
theorem d_Plain_joinSeen_242 : decode me_Plain_joinSeen.2.1 242 = .ok (.ishl, 1) := by decide +kernel
theorem d_Plain_joinSeen_243 : decode me_Plain_joinSeen.2.1 243 = .ok (.iconst (-1), 1) := by decide +kernel
theorem d_Plain_joinSeen_244 : decode me_Plain_joinSeen.2.1 244 = .ok (.ixor, 1) := by decide +kernel
theorem d_Plain_joinSeen_245 : decode me_Plain_joinSeen.2.1 245 = .ok (.iand, 1) := by decide +kernel
theorem d_Plain_joinSeen_246 : decode me_Plain_joinSeen.2.1 246 = .ok (.istore 9, 2) := by decide +kernel
theorem d_Plain_joinSeen_248 : decode me_Plain_joinSeen.2.1 248 = .ok (.iinc 11 1, 3) := by decide +kernel
theorem d_Plain_joinSeen_251 : decode me_Plain_joinSeen.2.1 251 = .ok (.goto (-172), 3) := by decide +kernel
theorem d_Plain_joinSeen_254 : decode me_Plain_joinSeen.2.1 254 = .ok (.iload 10, 2) := by decide +kernel
theorem d_Plain_joinSeen_256 : decode me_Plain_joinSeen.2.1 256 = .ok (.ifCond .eq 13, 3) := by decide +kernel
theorem d_Plain_joinSeen_259 : decode me_Plain_joinSeen.2.1 259 = .ok (.iload 9, 2) := by decide +kernel
theorem d_Plain_joinSeen_261 : decode me_Plain_joinSeen.2.1 261 = .ok (.iconst 1, 1) := by decide +kernel
theorem d_Plain_joinSeen_262 : decode me_Plain_joinSeen.2.1 262 = .ok (.iload 4, 2) := by decide +kernel
theorem d_Plain_joinSeen_264 : decode me_Plain_joinSeen.2.1 264 = .ok (.ishl, 1) := by decide +kernel
theorem d_Plain_joinSeen_265 : decode me_Plain_joinSeen.2.1 265 = .ok (.ior, 1) := by decide +kernel
theorem d_Plain_joinSeen_266 : decode me_Plain_joinSeen.2.1 266 = .ok (.goto 5, 3) := by decide +kernel
theorem d_Plain_joinSeen_269 : decode me_Plain_joinSeen.2.1 269 = .ok (.iload 9, 2) := by decide +kernel
theorem d_Plain_joinSeen_271 : decode me_Plain_joinSeen.2.1 271 = .ok (.ireturn, 1) := by decide +kernel
noncomputable def f_Plain_joinSeen_215 (k79 : Int32 → Int32 → Int32 → Int32 → Int32 → Int32 → Int32 → Int32 → Int32 → gk_M → Option (Int32 × gk_M)) (a2 : Int32) (a4 : Int32) (a5 : Int32) (a6 : Int32) (a7 : Int32) (a8 : Int32) (a9 : Int32) (a11 : Int32) (s0 : Int32) (m0 : gk_M) : Option (Int32 × gk_M) :=
  k79 a2 a4 a5 a6 a7 a8 a9 s0 (a11 + 1) m0

theorem s_Plain_joinSeen_215 {z : gk_Z} (K : gk_F tx z me_Plain_joinSeen 4) {r : Int32} {mem2 : gk_M} {k79 : Int32 → Int32 → Int32 → Int32 → Int32 → Int32 → Int32 → Int32 → Int32 → gk_M → Option (Int32 × gk_M)} (hk79 : ∀ a2 a4 a5 a6 a7 a8 a9 a10 a11 m0, k79 a2 a4 a5 a6 a7 a8 a9 a10 a11 m0 = some (r, mem2) → gk_G tx z me_Plain_joinSeen (gk_R tx z (some (.int r)) mem2) m0 [(0, .ref 7), (2, .int a2), (4, .int a4), (5, .int a5), (6, .int a6), (7, .int a7), (8, .int a8), (9, .int a9), (10, .int a10), (11, .int a11)] [] 79) : ∀ a2 a4 a5 a6 a7 a8 a9 a11 s0 m0, f_Plain_joinSeen_215 k79 a2 a4 a5 a6 a7 a8 a9 a11 s0 m0 = some (r, mem2) → gk_G tx z me_Plain_joinSeen (gk_R tx z (some (.int r)) mem2) m0 [(0, .ref 7), (2, .int a2), (4, .int a4), (5, .int a5), (6, .int a6), (7, .int a7), (8, .int a8), (9, .int a9), (11, .int a11)] [.int s0] 215 := by
  intro a2 a4 a5 a6 a7 a8 a9 a11 s0 m0  h
  unfold f_Plain_joinSeen_215 at h
  refine gk_istore (lv2 := [(10, .int s0), (0, .ref 7), (2, .int a2), (4, .int a4), (5, .int a5), (6, .int a6), (7, .int a7), (8, .int a8), (9, .int a9), (11, .int a11)]) (pc := 215) K d_Plain_joinSeen_215 (by decide) rfl ?_
  refine gk_goto (tgt := 248) (pc := 217) K d_Plain_joinSeen_217 (by decide) ?_
  refine gk_iinc2 (lv2 := [(11, .int (a11 + 1)), (10, .int s0), (0, .ref 7), (2, .int a2), (4, .int a4), (5, .int a5), (6, .int a6), (7, .int a7), (8, .int a8), (9, .int a9)]) (pc := 248) K d_Plain_joinSeen_248 rfl kc_1 (by decide) rfl ?_
  refine gk_goto (tgt := 79) (pc := 251) K d_Plain_joinSeen_251 (by decide) ?_
  exact gk_sub [2, 3, 4, 5, 6, 7, 8, 9, 1, 0] rfl (hk79 _ _ _ _ _ _ _ _ _ _  h)
noncomputable def f_Plain_joinSeen_214 (k79 : Int32 → Int32 → Int32 → Int32 → Int32 → Int32 → Int32 → Int32 → Int32 → gk_M → Option (Int32 × gk_M)) (a2 : Int32) (a4 : Int32) (a5 : Int32) (a6 : Int32) (a7 : Int32) (a8 : Int32) (a9 : Int32) (a11 : Int32) (m0 : gk_M) : Option (Int32 × gk_M) :=
  f_Plain_joinSeen_215 k79 a2 a4 a5 a6 a7 a8 a9 a11 0 m0

theorem s_Plain_joinSeen_214 {z : gk_Z} (K : gk_F tx z me_Plain_joinSeen 4) {r : Int32} {mem2 : gk_M} {k79 : Int32 → Int32 → Int32 → Int32 → Int32 → Int32 → Int32 → Int32 → Int32 → gk_M → Option (Int32 × gk_M)} (hk79 : ∀ a2 a4 a5 a6 a7 a8 a9 a10 a11 m0, k79 a2 a4 a5 a6 a7 a8 a9 a10 a11 m0 = some (r, mem2) → gk_G tx z me_Plain_joinSeen (gk_R tx z (some (.int r)) mem2) m0 [(0, .ref 7), (2, .int a2), (4, .int a4), (5, .int a5), (6, .int a6), (7, .int a7), (8, .int a8), (9, .int a9), (10, .int a10), (11, .int a11)] [] 79) : ∀ a2 a4 a5 a6 a7 a8 a9 a11 m0, f_Plain_joinSeen_214 k79 a2 a4 a5 a6 a7 a8 a9 a11 m0 = some (r, mem2) → gk_G tx z me_Plain_joinSeen (gk_R tx z (some (.int r)) mem2) m0 [(0, .ref 7), (2, .int a2), (4, .int a4), (5, .int a5), (6, .int a6), (7, .int a7), (8, .int a8), (9, .int a9), (11, .int a11)] [] 214 := by
  intro a2 a4 a5 a6 a7 a8 a9 a11 m0  h
  unfold f_Plain_joinSeen_214 at h
  refine gk_iconst (pc := 214) K d_Plain_joinSeen_214 kc_0 ?_
  exact gk_sub [0, 1, 2, 3, 4, 5, 6, 7, 8] rfl (s_Plain_joinSeen_215 K hk79 _ _ _ _ _ _ _ _ _ _  h)
noncomputable def f_Plain_joinSeen_144 (k79 : Int32 → Int32 → Int32 → Int32 → Int32 → Int32 → Int32 → Int32 → Int32 → gk_M → Option (Int32 × gk_M)) (a2 : Int32) (a4 : Int32) (a5 : Int32) (a6 : Int32) (a7 : Int32) (a8 : Int32) (a9 : Int32) (a10 : Int32) (a11 : Int32) (a12 : Int32) (a13 : Int32) (s0 : Int32) (m0 : gk_M) : Option (Int32 × gk_M) :=
  if ((a2 >>> (a11 &&& 31)) &&& 1) = 0 then
    k79 a2 a4 a5 a6 a7 a8 a9 a10 (a11 + 1) m0
  else
    if ¬ s0 = 0 then
      if ((gk_abs a7) + (gk_abs a8)) ≤ ((gk_abs a12) + (gk_abs a13)) then
        gk_ai m0 10 12 a4 fun v1 =>
        gk_ai m0 10 12 a11 fun v2 =>
        if v1 < v2 then
          k79 a2 a4 a5 a6 a7 a8 a9 a10 (a11 + 1) m0
        else
          gk_let (a9 &&& ((1 <<< (a11 &&& 31)) ^^^ (-1))) fun v3 =>
          k79 a2 a4 a5 a6 a7 a8 v3 a10 (a11 + 1) m0
      else
        if a10 = 0 then
          f_Plain_joinSeen_214 k79 a2 a4 a5 a6 a7 a8 a9 a11 m0
        else
          gk_ai m0 10 12 a11 fun v4 =>
          gk_ai m0 10 12 a4 fun v5 =>
          if v5 ≤ v4 then
            f_Plain_joinSeen_214 k79 a2 a4 a5 a6 a7 a8 a9 a11 m0
          else
            f_Plain_joinSeen_215 k79 a2 a4 a5 a6 a7 a8 a9 a11 1 m0
    else
      k79 a2 a4 a5 a6 a7 a8 a9 a10 (a11 + 1) m0

theorem s_Plain_joinSeen_144 {z : gk_Z} (K : gk_F tx z me_Plain_joinSeen 4) {r : Int32} {mem2 : gk_M} {k79 : Int32 → Int32 → Int32 → Int32 → Int32 → Int32 → Int32 → Int32 → Int32 → gk_M → Option (Int32 × gk_M)} (hk79 : ∀ a2 a4 a5 a6 a7 a8 a9 a10 a11 m0, k79 a2 a4 a5 a6 a7 a8 a9 a10 a11 m0 = some (r, mem2) → gk_G tx z me_Plain_joinSeen (gk_R tx z (some (.int r)) mem2) m0 [(0, .ref 7), (2, .int a2), (4, .int a4), (5, .int a5), (6, .int a6), (7, .int a7), (8, .int a8), (9, .int a9), (10, .int a10), (11, .int a11)] [] 79) : ∀ a2 a4 a5 a6 a7 a8 a9 a10 a11 a12 a13 s0 m0, f_Plain_joinSeen_144 k79 a2 a4 a5 a6 a7 a8 a9 a10 a11 a12 a13 s0 m0 = some (r, mem2) → gk_G tx z me_Plain_joinSeen (gk_R tx z (some (.int r)) mem2) m0 [(0, .ref 7), (2, .int a2), (4, .int a4), (5, .int a5), (6, .int a6), (7, .int a7), (8, .int a8), (9, .int a9), (10, .int a10), (11, .int a11), (12, .int a12), (13, .int a13)] [.int s0] 144 := by
  intro a2 a4 a5 a6 a7 a8 a9 a10 a11 a12 a13 s0 m0  h
  unfold f_Plain_joinSeen_144 at h
  refine gk_istore (lv2 := [(14, .int s0), (0, .ref 7), (2, .int a2), (4, .int a4), (5, .int a5), (6, .int a6), (7, .int a7), (8, .int a8), (9, .int a9), (10, .int a10), (11, .int a11), (12, .int a12), (13, .int a13)]) (pc := 144) K d_Plain_joinSeen_144 (by decide) rfl ?_
  refine gk_iload_n (pc := 146) K d_Plain_joinSeen_146 rfl ?_
  refine gk_iload (pc := 147) K d_Plain_joinSeen_147 rfl ?_
  refine gk_ishr (pc := 149) K d_Plain_joinSeen_149 ?_
  refine gk_iconst (pc := 150) K d_Plain_joinSeen_150 kc_1 ?_
  refine gk_iand (pc := 151) K d_Plain_joinSeen_151 ?_
  refine gk_if_eq (tgt := 248) (pc := 152) K d_Plain_joinSeen_152 (by decide) h (fun h => ?_) (fun h => ?_)
  · refine gk_iinc2 (lv2 := [(11, .int (a11 + 1)), (14, .int s0), (0, .ref 7), (2, .int a2), (4, .int a4), (5, .int a5), (6, .int a6), (7, .int a7), (8, .int a8), (9, .int a9), (10, .int a10), (12, .int a12), (13, .int a13)]) (pc := 248) K d_Plain_joinSeen_248 rfl kc_1 (by decide) rfl ?_
    refine gk_goto (tgt := 79) (pc := 251) K d_Plain_joinSeen_251 (by decide) ?_
    exact gk_sub [2, 3, 4, 5, 6, 7, 8, 9, 10, 0] rfl (hk79 _ _ _ _ _ _ _ _ _ _  h)
  · refine gk_iload (pc := 155) K d_Plain_joinSeen_155 rfl ?_
    refine gk_if_ne (tgt := 163) (pc := 157) K d_Plain_joinSeen_157 (by decide) h (fun h => ?_) (fun h => ?_)
    · refine gk_iload (pc := 163) K d_Plain_joinSeen_163 rfl ?_
      refine gk_mabs (pc := 165) K d_Plain_joinSeen_165 ms_Plain_124 (by decide) (Nat.le_of_ble_eq_true rfl) ?_
      refine gk_iload (pc := 168) K d_Plain_joinSeen_168 rfl ?_
      refine gk_mabs (pc := 170) K d_Plain_joinSeen_170 ms_Plain_124 (by decide) (Nat.le_of_ble_eq_true rfl) ?_
      refine gk_iadd (pc := 173) K d_Plain_joinSeen_173 ?_
      refine gk_iload (pc := 174) K d_Plain_joinSeen_174 rfl ?_
      refine gk_mabs (pc := 176) K d_Plain_joinSeen_176 ms_Plain_124 (by decide) (Nat.le_of_ble_eq_true rfl) ?_
      refine gk_iload (pc := 179) K d_Plain_joinSeen_179 rfl ?_
      refine gk_mabs (pc := 181) K d_Plain_joinSeen_181 ms_Plain_124 (by decide) (Nat.le_of_ble_eq_true rfl) ?_
      refine gk_iadd (pc := 184) K d_Plain_joinSeen_184 ?_
      refine gk_ic_ge (tgt := 220) (pc := 185) K d_Plain_joinSeen_185 (by decide) h (fun h => ?_) (fun h => ?_)
      · refine gk_aload_n (pc := 220) K d_Plain_joinSeen_220 rfl ?_
        refine gk_get (pc := 221) K d_Plain_joinSeen_221 fl_Plain_18 tx_7 rfl rfl ?_
        refine gk_iload (pc := 224) K d_Plain_joinSeen_224 rfl ?_
        refine gk_iald (pc := 226) K d_Plain_joinSeen_226 tx_10 h (fun v1 h => ?_)
        refine gk_aload_n (pc := 227) K d_Plain_joinSeen_227 rfl ?_
        refine gk_get (pc := 228) K d_Plain_joinSeen_228 fl_Plain_18 tx_7 rfl rfl ?_
        refine gk_iload (pc := 231) K d_Plain_joinSeen_231 rfl ?_
        refine gk_iald (pc := 233) K d_Plain_joinSeen_233 tx_10 h (fun v2 h => ?_)
        refine gk_ic_lt (tgt := 248) (pc := 234) K d_Plain_joinSeen_234 (by decide) h (fun h => ?_) (fun h => ?_)
        · refine gk_iinc2 (lv2 := [(11, .int (a11 + 1)), (14, .int s0), (0, .ref 7), (2, .int a2), (4, .int a4), (5, .int a5), (6, .int a6), (7, .int a7), (8, .int a8), (9, .int a9), (10, .int a10), (12, .int a12), (13, .int a13)]) (pc := 248) K d_Plain_joinSeen_248 rfl kc_1 (by decide) rfl ?_
          refine gk_goto (tgt := 79) (pc := 251) K d_Plain_joinSeen_251 (by decide) ?_
          exact gk_sub [2, 3, 4, 5, 6, 7, 8, 9, 10, 0] rfl (hk79 _ _ _ _ _ _ _ _ _ _  h)
        · refine gk_iload (pc := 237) K d_Plain_joinSeen_237 rfl ?_
          refine gk_iconst (pc := 239) K d_Plain_joinSeen_239 kc_1 ?_
          refine gk_iload (pc := 240) K d_Plain_joinSeen_240 rfl ?_
          refine gk_ishl (pc := 242) K d_Plain_joinSeen_242 ?_
          refine gk_iconst (pc := 243) K d_Plain_joinSeen_243 kc_m1 ?_
          refine gk_ixor (pc := 244) K d_Plain_joinSeen_244 ?_
          refine gk_iand (pc := 245) K d_Plain_joinSeen_245 ?_
          refine gk_topi h (fun v3 h => ?_)
          refine gk_istore (lv2 := [(9, .int v3), (14, .int s0), (0, .ref 7), (2, .int a2), (4, .int a4), (5, .int a5), (6, .int a6), (7, .int a7), (8, .int a8), (10, .int a10), (11, .int a11), (12, .int a12), (13, .int a13)]) (pc := 246) K d_Plain_joinSeen_246 (by decide) rfl ?_
          refine gk_iinc2 (lv2 := [(11, .int (a11 + 1)), (9, .int v3), (14, .int s0), (0, .ref 7), (2, .int a2), (4, .int a4), (5, .int a5), (6, .int a6), (7, .int a7), (8, .int a8), (10, .int a10), (12, .int a12), (13, .int a13)]) (pc := 248) K d_Plain_joinSeen_248 rfl kc_1 (by decide) rfl ?_
          refine gk_goto (tgt := 79) (pc := 251) K d_Plain_joinSeen_251 (by decide) ?_
          exact gk_sub [3, 4, 5, 6, 7, 8, 9, 1, 10, 0] rfl (hk79 _ _ _ _ _ _ _ _ _ _  h)
      · refine gk_iload (pc := 188) K d_Plain_joinSeen_188 rfl ?_
        refine gk_if_eq (tgt := 214) (pc := 190) K d_Plain_joinSeen_190 (by decide) h (fun h => ?_) (fun h => ?_)
        · exact gk_sub [1, 2, 3, 4, 5, 6, 7, 8, 10] rfl (s_Plain_joinSeen_214 K hk79 _ _ _ _ _ _ _ _ _  h)
        · refine gk_aload_n (pc := 193) K d_Plain_joinSeen_193 rfl ?_
          refine gk_get (pc := 194) K d_Plain_joinSeen_194 fl_Plain_18 tx_7 rfl rfl ?_
          refine gk_iload (pc := 197) K d_Plain_joinSeen_197 rfl ?_
          refine gk_iald (pc := 199) K d_Plain_joinSeen_199 tx_10 h (fun v4 h => ?_)
          refine gk_aload_n (pc := 200) K d_Plain_joinSeen_200 rfl ?_
          refine gk_get (pc := 201) K d_Plain_joinSeen_201 fl_Plain_18 tx_7 rfl rfl ?_
          refine gk_iload (pc := 204) K d_Plain_joinSeen_204 rfl ?_
          refine gk_iald (pc := 206) K d_Plain_joinSeen_206 tx_10 h (fun v5 h => ?_)
          refine gk_ic_ge (tgt := 214) (pc := 207) K d_Plain_joinSeen_207 (by decide) h (fun h => ?_) (fun h => ?_)
          · exact gk_sub [1, 2, 3, 4, 5, 6, 7, 8, 10] rfl (s_Plain_joinSeen_214 K hk79 _ _ _ _ _ _ _ _ _  h)
          · refine gk_iconst (pc := 210) K d_Plain_joinSeen_210 kc_1 ?_
            refine gk_goto (tgt := 215) (pc := 211) K d_Plain_joinSeen_211 (by decide) ?_
            exact gk_sub [1, 2, 3, 4, 5, 6, 7, 8, 10] rfl (s_Plain_joinSeen_215 K hk79 _ _ _ _ _ _ _ _ _ _  h)
    · refine gk_goto (tgt := 248) (pc := 160) K d_Plain_joinSeen_160 (by decide) ?_
      refine gk_iinc2 (lv2 := [(11, .int (a11 + 1)), (14, .int s0), (0, .ref 7), (2, .int a2), (4, .int a4), (5, .int a5), (6, .int a6), (7, .int a7), (8, .int a8), (9, .int a9), (10, .int a10), (12, .int a12), (13, .int a13)]) (pc := 248) K d_Plain_joinSeen_248 rfl kc_1 (by decide) rfl ?_
      refine gk_goto (tgt := 79) (pc := 251) K d_Plain_joinSeen_251 (by decide) ?_
      exact gk_sub [2, 3, 4, 5, 6, 7, 8, 9, 10, 0] rfl (hk79 _ _ _ _ _ _ _ _ _ _  h)
noncomputable def f_Plain_joinSeen_143 (k79 : Int32 → Int32 → Int32 → Int32 → Int32 → Int32 → Int32 → Int32 → Int32 → gk_M → Option (Int32 × gk_M)) (a2 : Int32) (a4 : Int32) (a5 : Int32) (a6 : Int32) (a7 : Int32) (a8 : Int32) (a9 : Int32) (a10 : Int32) (a11 : Int32) (a12 : Int32) (a13 : Int32) (m0 : gk_M) : Option (Int32 × gk_M) :=
  f_Plain_joinSeen_144 k79 a2 a4 a5 a6 a7 a8 a9 a10 a11 a12 a13 0 m0

theorem s_Plain_joinSeen_143 {z : gk_Z} (K : gk_F tx z me_Plain_joinSeen 4) {r : Int32} {mem2 : gk_M} {k79 : Int32 → Int32 → Int32 → Int32 → Int32 → Int32 → Int32 → Int32 → Int32 → gk_M → Option (Int32 × gk_M)} (hk79 : ∀ a2 a4 a5 a6 a7 a8 a9 a10 a11 m0, k79 a2 a4 a5 a6 a7 a8 a9 a10 a11 m0 = some (r, mem2) → gk_G tx z me_Plain_joinSeen (gk_R tx z (some (.int r)) mem2) m0 [(0, .ref 7), (2, .int a2), (4, .int a4), (5, .int a5), (6, .int a6), (7, .int a7), (8, .int a8), (9, .int a9), (10, .int a10), (11, .int a11)] [] 79) : ∀ a2 a4 a5 a6 a7 a8 a9 a10 a11 a12 a13 m0, f_Plain_joinSeen_143 k79 a2 a4 a5 a6 a7 a8 a9 a10 a11 a12 a13 m0 = some (r, mem2) → gk_G tx z me_Plain_joinSeen (gk_R tx z (some (.int r)) mem2) m0 [(0, .ref 7), (2, .int a2), (4, .int a4), (5, .int a5), (6, .int a6), (7, .int a7), (8, .int a8), (9, .int a9), (10, .int a10), (11, .int a11), (12, .int a12), (13, .int a13)] [] 143 := by
  intro a2 a4 a5 a6 a7 a8 a9 a10 a11 a12 a13 m0  h
  unfold f_Plain_joinSeen_143 at h
  refine gk_iconst (pc := 143) K d_Plain_joinSeen_143 kc_0 ?_
  exact gk_sub [0, 1, 2, 3, 4, 5, 6, 7, 8, 9, 10, 11] rfl (s_Plain_joinSeen_144 K hk79 _ _ _ _ _ _ _ _ _ _ _ _ _  h)
noncomputable def f_Plain_joinSeen_79  : Nat → Int32 → Int32 → Int32 → Int32 → Int32 → Int32 → Int32 → Int32 → Int32 → gk_M → Option (Int32 × gk_M)
  | 0, _, _, _, _, _, _, _, _, _, _ => none
  | n + 1, a2, a4, a5, a6, a7, a8, a9, a10, a11, m0 =>
    if (m0.1 7 5) ≤ a11 then
      if a10 = 0 then
        some (a9, m0)
      else
        some ((a9 ||| (1 <<< (a4 &&& 31))), m0)
    else
      gk_ai m0 8 12 a11 fun v1 =>
      gk_let (v1 - a5) fun v2 =>
      gk_ai m0 9 12 a11 fun v3 =>
      gk_let (v3 - a6) fun v4 =>
      if ¬ (a7 * v4) = (a8 * v2) then
        f_Plain_joinSeen_143 (f_Plain_joinSeen_79 n) a2 a4 a5 a6 a7 a8 a9 a10 a11 v2 v4 m0
      else
        if ((a7 * v2) + (a8 * v4)) ≤ 0 then
          f_Plain_joinSeen_143 (f_Plain_joinSeen_79 n) a2 a4 a5 a6 a7 a8 a9 a10 a11 v2 v4 m0
        else
          f_Plain_joinSeen_144 (f_Plain_joinSeen_79 n) a2 a4 a5 a6 a7 a8 a9 a10 a11 v2 v4 1 m0

theorem s_Plain_joinSeen_79 {z : gk_Z} (K : gk_F tx z me_Plain_joinSeen 4) {r : Int32} {mem2 : gk_M} : ∀ n a2 a4 a5 a6 a7 a8 a9 a10 a11 m0, f_Plain_joinSeen_79 n a2 a4 a5 a6 a7 a8 a9 a10 a11 m0 = some (r, mem2) → gk_G tx z me_Plain_joinSeen (gk_R tx z (some (.int r)) mem2) m0 [(0, .ref 7), (2, .int a2), (4, .int a4), (5, .int a5), (6, .int a6), (7, .int a7), (8, .int a8), (9, .int a9), (10, .int a10), (11, .int a11)] [] 79 := by
  intro n
  induction n with
  | zero => intro a2 a4 a5 a6 a7 a8 a9 a10 a11 m0  h; exact nomatch (show (none : Option _) = some _ from h)
  | succ n ih =>
    intro a2 a4 a5 a6 a7 a8 a9 a10 a11 m0  h
    unfold f_Plain_joinSeen_79 at h
    refine gk_iload (pc := 79) K d_Plain_joinSeen_79 rfl ?_
    refine gk_aload_n (pc := 81) K d_Plain_joinSeen_81 rfl ?_
    refine gk_get (pc := 82) K d_Plain_joinSeen_82 fl_Plain_27 tx_7 rfl rfl ?_
    refine gk_ic_ge (tgt := 254) (pc := 85) K d_Plain_joinSeen_85 (by decide) h (fun h => ?_) (fun h => ?_)
    · refine gk_iload (pc := 254) K d_Plain_joinSeen_254 rfl ?_
      refine gk_if_eq (tgt := 269) (pc := 256) K d_Plain_joinSeen_256 (by decide) h (fun h => ?_) (fun h => ?_)
      · refine gk_iload (pc := 269) K d_Plain_joinSeen_269 rfl ?_
        exact gk_iret (pc := 271) K d_Plain_joinSeen_271 rfl h
      · refine gk_iload (pc := 259) K d_Plain_joinSeen_259 rfl ?_
        refine gk_iconst (pc := 261) K d_Plain_joinSeen_261 kc_1 ?_
        refine gk_iload (pc := 262) K d_Plain_joinSeen_262 rfl ?_
        refine gk_ishl (pc := 264) K d_Plain_joinSeen_264 ?_
        refine gk_ior (pc := 265) K d_Plain_joinSeen_265 ?_
        refine gk_goto (tgt := 271) (pc := 266) K d_Plain_joinSeen_266 (by decide) ?_
        exact gk_iret (pc := 271) K d_Plain_joinSeen_271 rfl h
    · refine gk_aload_n (pc := 88) K d_Plain_joinSeen_88 rfl ?_
      refine gk_get (pc := 89) K d_Plain_joinSeen_89 fl_Plain_11 tx_7 rfl rfl ?_
      refine gk_iload (pc := 92) K d_Plain_joinSeen_92 rfl ?_
      refine gk_iald (pc := 94) K d_Plain_joinSeen_94 tx_8 h (fun v1 h => ?_)
      refine gk_iload (pc := 95) K d_Plain_joinSeen_95 rfl ?_
      refine gk_isub (pc := 97) K d_Plain_joinSeen_97 ?_
      refine gk_topi h (fun v2 h => ?_)
      refine gk_istore (lv2 := [(12, .int v2), (0, .ref 7), (2, .int a2), (4, .int a4), (5, .int a5), (6, .int a6), (7, .int a7), (8, .int a8), (9, .int a9), (10, .int a10), (11, .int a11)]) (pc := 98) K d_Plain_joinSeen_98 (by decide) rfl ?_
      refine gk_aload_n (pc := 100) K d_Plain_joinSeen_100 rfl ?_
      refine gk_get (pc := 101) K d_Plain_joinSeen_101 fl_Plain_15 tx_7 rfl rfl ?_
      refine gk_iload (pc := 104) K d_Plain_joinSeen_104 rfl ?_
      refine gk_iald (pc := 106) K d_Plain_joinSeen_106 tx_9 h (fun v3 h => ?_)
      refine gk_iload (pc := 107) K d_Plain_joinSeen_107 rfl ?_
      refine gk_isub (pc := 109) K d_Plain_joinSeen_109 ?_
      refine gk_topi h (fun v4 h => ?_)
      refine gk_istore (lv2 := [(13, .int v4), (12, .int v2), (0, .ref 7), (2, .int a2), (4, .int a4), (5, .int a5), (6, .int a6), (7, .int a7), (8, .int a8), (9, .int a9), (10, .int a10), (11, .int a11)]) (pc := 110) K d_Plain_joinSeen_110 (by decide) rfl ?_
      refine gk_iload (pc := 112) K d_Plain_joinSeen_112 rfl ?_
      refine gk_iload (pc := 114) K d_Plain_joinSeen_114 rfl ?_
      refine gk_imul (pc := 116) K d_Plain_joinSeen_116 ?_
      refine gk_iload (pc := 117) K d_Plain_joinSeen_117 rfl ?_
      refine gk_iload (pc := 119) K d_Plain_joinSeen_119 rfl ?_
      refine gk_imul (pc := 121) K d_Plain_joinSeen_121 ?_
      refine gk_ic_ne (tgt := 143) (pc := 122) K d_Plain_joinSeen_122 (by decide) h (fun h => ?_) (fun h => ?_)
      · exact gk_sub [2, 3, 4, 5, 6, 7, 8, 9, 10, 11, 1, 0] rfl (s_Plain_joinSeen_143 K (fun x0 x1 x2 x3 x4 x5 x6 x7 x8 m  h => ih x0 x1 x2 x3 x4 x5 x6 x7 x8 m  h) _ _ _ _ _ _ _ _ _ _ _ _  h)
      · refine gk_iload (pc := 125) K d_Plain_joinSeen_125 rfl ?_
        refine gk_iload (pc := 127) K d_Plain_joinSeen_127 rfl ?_
        refine gk_imul (pc := 129) K d_Plain_joinSeen_129 ?_
        refine gk_iload (pc := 130) K d_Plain_joinSeen_130 rfl ?_
        refine gk_iload (pc := 132) K d_Plain_joinSeen_132 rfl ?_
        refine gk_imul (pc := 134) K d_Plain_joinSeen_134 ?_
        refine gk_iadd (pc := 135) K d_Plain_joinSeen_135 ?_
        refine gk_if_le (tgt := 143) (pc := 136) K d_Plain_joinSeen_136 (by decide) h (fun h => ?_) (fun h => ?_)
        · exact gk_sub [2, 3, 4, 5, 6, 7, 8, 9, 10, 11, 1, 0] rfl (s_Plain_joinSeen_143 K (fun x0 x1 x2 x3 x4 x5 x6 x7 x8 m  h => ih x0 x1 x2 x3 x4 x5 x6 x7 x8 m  h) _ _ _ _ _ _ _ _ _ _ _ _  h)
        · refine gk_iconst (pc := 139) K d_Plain_joinSeen_139 kc_1 ?_
          refine gk_goto (tgt := 144) (pc := 140) K d_Plain_joinSeen_140 (by decide) ?_
          exact gk_sub [2, 3, 4, 5, 6, 7, 8, 9, 10, 11, 1, 0] rfl (s_Plain_joinSeen_144 K (fun x0 x1 x2 x3 x4 x5 x6 x7 x8 m  h => ih x0 x1 x2 x3 x4 x5 x6 x7 x8 m  h) _ _ _ _ _ _ _ _ _ _ _ _ _  h)
noncomputable def f_Plain_joinSeen_74  (a2 : Int32) (a4 : Int32) (a5 : Int32) (a6 : Int32) (a7 : Int32) (a8 : Int32) (a9 : Int32) (s0 : Int32) (m0 : gk_M) : Option (Int32 × gk_M) :=
  f_Plain_joinSeen_79 gk_fv a2 a4 a5 a6 a7 a8 a9 s0 0 m0

theorem s_Plain_joinSeen_74 {z : gk_Z} (K : gk_F tx z me_Plain_joinSeen 4) {r : Int32} {mem2 : gk_M} : ∀ a2 a4 a5 a6 a7 a8 a9 s0 m0, f_Plain_joinSeen_74 a2 a4 a5 a6 a7 a8 a9 s0 m0 = some (r, mem2) → gk_G tx z me_Plain_joinSeen (gk_R tx z (some (.int r)) mem2) m0 [(0, .ref 7), (2, .int a2), (4, .int a4), (5, .int a5), (6, .int a6), (7, .int a7), (8, .int a8), (9, .int a9)] [.int s0] 74 := by
  intro a2 a4 a5 a6 a7 a8 a9 s0 m0  h
  unfold f_Plain_joinSeen_74 at h
  refine gk_istore (lv2 := [(10, .int s0), (0, .ref 7), (2, .int a2), (4, .int a4), (5, .int a5), (6, .int a6), (7, .int a7), (8, .int a8), (9, .int a9)]) (pc := 74) K d_Plain_joinSeen_74 (by decide) rfl ?_
  refine gk_iconst (pc := 76) K d_Plain_joinSeen_76 kc_0 ?_
  refine gk_istore (lv2 := [(11, .int 0), (10, .int s0), (0, .ref 7), (2, .int a2), (4, .int a4), (5, .int a5), (6, .int a6), (7, .int a7), (8, .int a8), (9, .int a9)]) (pc := 77) K d_Plain_joinSeen_77 (by decide) rfl ?_
  exact gk_sub [2, 3, 4, 5, 6, 7, 8, 9, 1, 0] rfl (s_Plain_joinSeen_79 K _ _ _ _ _ _ _ _ _ _ _  h)
noncomputable def f_Plain_joinSeen_48  (a2 : Int32) (a3 : Int32) (a4 : Int32) (a5 : Int32) (a6 : Int32) (a7 : Int32) (a8 : Int32) (m0 : gk_M) : Option (Int32 × gk_M) :=
  gk_bi (f_Plain_isStopped a5 a6 1 a4 a7 a8 m0) fun v2 m1 =>
  if ¬ v2 = 0 then
    f_Plain_joinSeen_74 a2 a4 a5 a6 a7 a8 a3 0 m1
  else
    f_Plain_joinSeen_74 a2 a4 a5 a6 a7 a8 a3 1 m1

theorem s_Plain_joinSeen_48 {z : gk_Z} (K : gk_F tx z me_Plain_joinSeen 4) {r : Int32} {mem2 : gk_M} : ∀ a2 a3 a4 a5 a6 a7 a8 m0, f_Plain_joinSeen_48 a2 a3 a4 a5 a6 a7 a8 m0 = some (r, mem2) → gk_G tx z me_Plain_joinSeen (gk_R tx z (some (.int r)) mem2) m0 [(0, .ref 7), (2, .int a2), (3, .int a3), (4, .int a4), (5, .int a5), (6, .int a6), (7, .int a7), (8, .int a8)] [] 48 := by
  intro a2 a3 a4 a5 a6 a7 a8 m0  h
  unfold f_Plain_joinSeen_48 at h
  refine gk_iload_n (pc := 48) K d_Plain_joinSeen_48 rfl ?_
  refine gk_istore (lv2 := [(9, .int a3), (0, .ref 7), (2, .int a2), (3, .int a3), (4, .int a4), (5, .int a5), (6, .int a6), (7, .int a7), (8, .int a8)]) (pc := 49) K d_Plain_joinSeen_49 (by decide) rfl ?_
  refine gk_aload_n (pc := 51) K d_Plain_joinSeen_51 rfl ?_
  refine gk_iload (pc := 52) K d_Plain_joinSeen_52 rfl ?_
  refine gk_iload (pc := 54) K d_Plain_joinSeen_54 rfl ?_
  refine gk_iconst (pc := 56) K d_Plain_joinSeen_56 kc_1 ?_
  refine gk_iload (pc := 57) K d_Plain_joinSeen_57 rfl ?_
  refine gk_iload (pc := 59) K d_Plain_joinSeen_59 rfl ?_
  refine gk_iload (pc := 61) K d_Plain_joinSeen_61 rfl ?_
  obtain ⟨v2, m1, em1, h⟩ := gk_bi_some h
  refine gk_cVi (As := [.int a5, .int a6, .int 1, .int a4, .int a7, .int a8]) (pc := 63) K d_Plain_joinSeen_63 mv_Plain_131 mc_Plain_isStopped rfl tx_7 cl_ok2.1 (s_Plain_isStopped (gk_FD K)  em1) (by decide) rfl (Nat.le_of_ble_eq_true rfl) ?_
  refine gk_if_ne (tgt := 73) (pc := 66) K d_Plain_joinSeen_66 (by decide) h (fun h => ?_) (fun h => ?_)
  · refine gk_iconst (pc := 73) K d_Plain_joinSeen_73 kc_0 ?_
    exact gk_sub [1, 2, 4, 5, 6, 7, 8, 0] rfl (s_Plain_joinSeen_74 K _ _ _ _ _ _ _ _ _  h)
  · refine gk_iconst (pc := 69) K d_Plain_joinSeen_69 kc_1 ?_
    refine gk_goto (tgt := 74) (pc := 70) K d_Plain_joinSeen_70 (by decide) ?_
    exact gk_sub [1, 2, 4, 5, 6, 7, 8, 0] rfl (s_Plain_joinSeen_74 K _ _ _ _ _ _ _ _ _  h)
noncomputable def f_Plain_joinSeen  (a1 : Int32) (a2 : Int32) (a3 : Int32) (a4 : Int32) (m0 : gk_M) : Option (Int32 × gk_M) :=
  gk_let (gk_rem a1 30) fun v1 =>
  gk_let (a1 / 30) fun v2 =>
  gk_ai m0 8 12 a4 fun v3 =>
  gk_let (v3 - v1) fun v4 =>
  gk_ai m0 9 12 a4 fun v5 =>
  gk_let (v5 - v2) fun v6 =>
  if ¬ v4 = 0 then
    f_Plain_joinSeen_48 a2 a3 a4 v1 v2 v4 v6 m0
  else
    if ¬ v6 = 0 then
      f_Plain_joinSeen_48 a2 a3 a4 v1 v2 v4 v6 m0
    else
      some (a3, m0)

theorem s_Plain_joinSeen_0 {z : gk_Z} (K : gk_F tx z me_Plain_joinSeen 4) {r : Int32} {mem2 : gk_M} : ∀ a1 a2 a3 a4 m0, f_Plain_joinSeen a1 a2 a3 a4 m0 = some (r, mem2) → gk_G tx z me_Plain_joinSeen (gk_R tx z (some (.int r)) mem2) m0 [(0, .ref 7), (1, .int a1), (2, .int a2), (3, .int a3), (4, .int a4)] [] 0 := by
  intro a1 a2 a3 a4 m0  h
  unfold f_Plain_joinSeen at h
  refine gk_iload_n (pc := 0) K d_Plain_joinSeen_0 rfl ?_
  refine gk_bipush (pc := 1) K d_Plain_joinSeen_1 kb_30 ?_
  refine gk_iremc2 (pc := 3) K d_Plain_joinSeen_3 (by decide) ?_
  refine gk_topi h (fun v1 h => ?_)
  refine gk_istore (lv2 := [(5, .int v1), (0, .ref 7), (1, .int a1), (2, .int a2), (3, .int a3), (4, .int a4)]) (pc := 4) K d_Plain_joinSeen_4 (by decide) rfl ?_
  refine gk_iload_n (pc := 6) K d_Plain_joinSeen_6 rfl ?_
  refine gk_bipush (pc := 7) K d_Plain_joinSeen_7 kb_30 ?_
  refine gk_idivc2 (pc := 9) K d_Plain_joinSeen_9 (by decide) ?_
  refine gk_topi h (fun v2 h => ?_)
  refine gk_istore (lv2 := [(6, .int v2), (5, .int v1), (0, .ref 7), (1, .int a1), (2, .int a2), (3, .int a3), (4, .int a4)]) (pc := 10) K d_Plain_joinSeen_10 (by decide) rfl ?_
  refine gk_aload_n (pc := 12) K d_Plain_joinSeen_12 rfl ?_
  refine gk_get (pc := 13) K d_Plain_joinSeen_13 fl_Plain_11 tx_7 rfl rfl ?_
  refine gk_iload (pc := 16) K d_Plain_joinSeen_16 rfl ?_
  refine gk_iald (pc := 18) K d_Plain_joinSeen_18 tx_8 h (fun v3 h => ?_)
  refine gk_iload (pc := 19) K d_Plain_joinSeen_19 rfl ?_
  refine gk_isub (pc := 21) K d_Plain_joinSeen_21 ?_
  refine gk_topi h (fun v4 h => ?_)
  refine gk_istore (lv2 := [(7, .int v4), (6, .int v2), (5, .int v1), (0, .ref 7), (1, .int a1), (2, .int a2), (3, .int a3), (4, .int a4)]) (pc := 22) K d_Plain_joinSeen_22 (by decide) rfl ?_
  refine gk_aload_n (pc := 24) K d_Plain_joinSeen_24 rfl ?_
  refine gk_get (pc := 25) K d_Plain_joinSeen_25 fl_Plain_15 tx_7 rfl rfl ?_
  refine gk_iload (pc := 28) K d_Plain_joinSeen_28 rfl ?_
  refine gk_iald (pc := 30) K d_Plain_joinSeen_30 tx_9 h (fun v5 h => ?_)
  refine gk_iload (pc := 31) K d_Plain_joinSeen_31 rfl ?_
  refine gk_isub (pc := 33) K d_Plain_joinSeen_33 ?_
  refine gk_topi h (fun v6 h => ?_)
  refine gk_istore (lv2 := [(8, .int v6), (7, .int v4), (6, .int v2), (5, .int v1), (0, .ref 7), (1, .int a1), (2, .int a2), (3, .int a3), (4, .int a4)]) (pc := 34) K d_Plain_joinSeen_34 (by decide) rfl ?_
  refine gk_iload (pc := 36) K d_Plain_joinSeen_36 rfl ?_
  refine gk_if_ne (tgt := 48) (pc := 38) K d_Plain_joinSeen_38 (by decide) h (fun h => ?_) (fun h => ?_)
  · exact gk_sub [4, 6, 7, 8, 3, 2, 1, 0] rfl (s_Plain_joinSeen_48 K _ _ _ _ _ _ _ _  h)
  · refine gk_iload (pc := 41) K d_Plain_joinSeen_41 rfl ?_
    refine gk_if_ne (tgt := 48) (pc := 43) K d_Plain_joinSeen_43 (by decide) h (fun h => ?_) (fun h => ?_)
    · exact gk_sub [4, 6, 7, 8, 3, 2, 1, 0] rfl (s_Plain_joinSeen_48 K _ _ _ _ _ _ _ _  h)
    · refine gk_iload_n (pc := 46) K d_Plain_joinSeen_46 rfl ?_
      exact gk_iret (pc := 47) K d_Plain_joinSeen_47 rfl h
theorem s_Plain_joinSeen {l : Launch} {u : gk_U} (hD : gk_D tx u) {a1 : Int32} {a2 : Int32} {a3 : Int32} {a4 : Int32} {m0 mem2 : gk_M} {r : Int32} (h : f_Plain_joinSeen a1 a2 a3 a4 m0 = some (r, mem2)) : gk_C tx l u me_Plain_joinSeen 4 [.ref 7, .int a1, .int a2, .int a3, .int a4] m0 (some (.int r)) mem2 :=
  gk_enter hD mc_Plain_joinSeen (Nat.le_of_ble_eq_true rfl) rfl (fun z _ _ K => s_Plain_joinSeen_0 K _ _ _ _ _  h)
theorem d_Plain_seenFrom_0 : decode me_Plain_seenFrom.2.1 0 = .ok (.iconst 0, 1) := by decide +kernel
theorem d_Plain_seenFrom_1 : decode me_Plain_seenFrom.2.1 1 = .ok (.istore_n 3, 1) := by decide +kernel
theorem d_Plain_seenFrom_2 : decode me_Plain_seenFrom.2.1 2 = .ok (.iconst 0, 1) := by decide +kernel
theorem d_Plain_seenFrom_3 : decode me_Plain_seenFrom.2.1 3 = .ok (.istore 4, 2) := by decide +kernel
theorem d_Plain_seenFrom_5 : decode me_Plain_seenFrom.2.1 5 = .ok (.iconst 0, 1) := by decide +kernel
theorem d_Plain_seenFrom_6 : decode me_Plain_seenFrom.2.1 6 = .ok (.istore 5, 2) := by decide +kernel
theorem d_Plain_seenFrom_8 : decode me_Plain_seenFrom.2.1 8 = .ok (.iload 5, 2) := by decide +kernel
theorem d_Plain_seenFrom_10 : decode me_Plain_seenFrom.2.1 10 = .ok (.aload_n 0, 1) := by decide +kernel
theorem d_Plain_seenFrom_11 : decode me_Plain_seenFrom.2.1 11 = .ok (.getfield 27, 3) := by decide +kernel
theorem d_Plain_seenFrom_14 : decode me_Plain_seenFrom.2.1 14 = .ok (.if_icmp .ge 35, 3) := by decide +kernel
theorem d_Plain_seenFrom_17 : decode me_Plain_seenFrom.2.1 17 = .ok (.iload 5, 2) := by decide +kernel
theorem d_Plain_seenFrom_19 : decode me_Plain_seenFrom.2.1 19 = .ok (.iload_n 2, 1) := by decide +kernel
theorem d_Plain_seenFrom_20 : decode me_Plain_seenFrom.2.1 20 = .ok (.if_icmp .eq 23, 3) := by decide +kernel
theorem d_Plain_seenFrom_23 : decode me_Plain_seenFrom.2.1 23 = .ok (.aload_n 0, 1) := by decide +kernel
theorem d_Plain_seenFrom_24 : decode me_Plain_seenFrom.2.1 24 = .ok (.iload_n 1, 1) := by decide +kernel
theorem d_Plain_seenFrom_25 : decode me_Plain_seenFrom.2.1 25 = .ok (.iload 4, 2) := by decide +kernel
theorem d_Plain_seenFrom_27 : decode me_Plain_seenFrom.2.1 27 = .ok (.iload_n 3, 1) := by decide +kernel
theorem d_Plain_seenFrom_28 : decode me_Plain_seenFrom.2.1 28 = .ok (.iload 5, 2) := by decide +kernel
theorem d_Plain_seenFrom_30 : decode me_Plain_seenFrom.2.1 30 = .ok (.invokevirtual 160, 3) := by decide +kernel
theorem d_Plain_seenFrom_33 : decode me_Plain_seenFrom.2.1 33 = .ok (.istore_n 3, 1) := by decide +kernel
theorem d_Plain_seenFrom_34 : decode me_Plain_seenFrom.2.1 34 = .ok (.iload 4, 2) := by decide +kernel
theorem d_Plain_seenFrom_36 : decode me_Plain_seenFrom.2.1 36 = .ok (.iconst 1, 1) := by decide +kernel
theorem d_Plain_seenFrom_37 : decode me_Plain_seenFrom.2.1 37 = .ok (.iload 5, 2) := by decide +kernel
theorem d_Plain_seenFrom_39 : decode me_Plain_seenFrom.2.1 39 = .ok (.ishl, 1) := by decide +kernel
theorem d_Plain_seenFrom_40 : decode me_Plain_seenFrom.2.1 40 = .ok (.ior, 1) := by decide +kernel
theorem d_Plain_seenFrom_41 : decode me_Plain_seenFrom.2.1 41 = .ok (.istore 4, 2) := by decide +kernel
theorem d_Plain_seenFrom_43 : decode me_Plain_seenFrom.2.1 43 = .ok (.iinc 5 1, 3) := by decide +kernel
theorem d_Plain_seenFrom_46 : decode me_Plain_seenFrom.2.1 46 = .ok (.goto (-38), 3) := by decide +kernel
theorem d_Plain_seenFrom_49 : decode me_Plain_seenFrom.2.1 49 = .ok (.iload_n 3, 1) := by decide +kernel
theorem d_Plain_seenFrom_50 : decode me_Plain_seenFrom.2.1 50 = .ok (.ireturn, 1) := by decide +kernel
noncomputable def f_Plain_seenFrom_8  : Nat → Int32 → Int32 → Int32 → Int32 → Int32 → gk_M → Option (Int32 × gk_M)
  | 0, _, _, _, _, _, _ => none
  | n + 1, a1, a2, a3, a4, a5, m0 =>
    if (m0.1 7 5) ≤ a5 then
      some (a3, m0)
    else
      if a5 = a2 then
        f_Plain_seenFrom_8 n a1 a2 a3 a4 (a5 + 1) m0
      else
        gk_bi (f_Plain_joinSeen a1 a4 a3 a5 m0) fun v2 m1 =>
        gk_let (a4 ||| (1 <<< (a5 &&& 31))) fun v3 =>
        f_Plain_seenFrom_8 n a1 a2 v2 v3 (a5 + 1) m1

theorem s_Plain_seenFrom_8 {z : gk_Z} (K : gk_F tx z me_Plain_seenFrom 5) {r : Int32} {mem2 : gk_M} : ∀ n a1 a2 a3 a4 a5 m0, f_Plain_seenFrom_8 n a1 a2 a3 a4 a5 m0 = some (r, mem2) → gk_G tx z me_Plain_seenFrom (gk_R tx z (some (.int r)) mem2) m0 [(0, .ref 7), (1, .int a1), (2, .int a2), (3, .int a3), (4, .int a4), (5, .int a5)] [] 8 := by
  intro n
  induction n with
  | zero => intro a1 a2 a3 a4 a5 m0  h; exact nomatch (show (none : Option _) = some _ from h)
  | succ n ih =>
    intro a1 a2 a3 a4 a5 m0  h
    unfold f_Plain_seenFrom_8 at h
    refine gk_iload (pc := 8) K d_Plain_seenFrom_8 rfl ?_
    refine gk_aload_n (pc := 10) K d_Plain_seenFrom_10 rfl ?_
    refine gk_get (pc := 11) K d_Plain_seenFrom_11 fl_Plain_27 tx_7 rfl rfl ?_
    refine gk_ic_ge (tgt := 49) (pc := 14) K d_Plain_seenFrom_14 (by decide) h (fun h => ?_) (fun h => ?_)
    · refine gk_iload_n (pc := 49) K d_Plain_seenFrom_49 rfl ?_
      exact gk_iret (pc := 50) K d_Plain_seenFrom_50 rfl h
    · refine gk_iload (pc := 17) K d_Plain_seenFrom_17 rfl ?_
      refine gk_iload_n (pc := 19) K d_Plain_seenFrom_19 rfl ?_
      refine gk_ic_eq (tgt := 43) (pc := 20) K d_Plain_seenFrom_20 (by decide) h (fun h => ?_) (fun h => ?_)
      · refine gk_iinc2 (lv2 := [(5, .int (a5 + 1)), (0, .ref 7), (1, .int a1), (2, .int a2), (3, .int a3), (4, .int a4)]) (pc := 43) K d_Plain_seenFrom_43 rfl kc_1 (by decide) rfl ?_
        refine gk_goto (tgt := 8) (pc := 46) K d_Plain_seenFrom_46 (by decide) ?_
        exact gk_sub [1, 2, 3, 4, 5, 0] rfl (ih _ _ _ _ _ _  h)
      · refine gk_aload_n (pc := 23) K d_Plain_seenFrom_23 rfl ?_
        refine gk_iload_n (pc := 24) K d_Plain_seenFrom_24 rfl ?_
        refine gk_iload (pc := 25) K d_Plain_seenFrom_25 rfl ?_
        refine gk_iload_n (pc := 27) K d_Plain_seenFrom_27 rfl ?_
        refine gk_iload (pc := 28) K d_Plain_seenFrom_28 rfl ?_
        obtain ⟨v2, m1, em1, h⟩ := gk_bi_some h
        refine gk_cVi (As := [.int a1, .int a4, .int a3, .int a5]) (pc := 30) K d_Plain_seenFrom_30 mv_Plain_160 mc_Plain_joinSeen rfl tx_7 cl_ok2.1 (s_Plain_joinSeen (gk_FD K)  em1) (by decide) rfl (Nat.le_of_ble_eq_true rfl) ?_
        refine gk_istore_n (lv2 := [(3, .int v2), (0, .ref 7), (1, .int a1), (2, .int a2), (4, .int a4), (5, .int a5)]) (pc := 33) K d_Plain_seenFrom_33 (by decide) rfl ?_
        refine gk_iload (pc := 34) K d_Plain_seenFrom_34 rfl ?_
        refine gk_iconst (pc := 36) K d_Plain_seenFrom_36 kc_1 ?_
        refine gk_iload (pc := 37) K d_Plain_seenFrom_37 rfl ?_
        refine gk_ishl (pc := 39) K d_Plain_seenFrom_39 ?_
        refine gk_ior (pc := 40) K d_Plain_seenFrom_40 ?_
        refine gk_topi h (fun v3 h => ?_)
        refine gk_istore (lv2 := [(4, .int v3), (3, .int v2), (0, .ref 7), (1, .int a1), (2, .int a2), (5, .int a5)]) (pc := 41) K d_Plain_seenFrom_41 (by decide) rfl ?_
        refine gk_iinc2 (lv2 := [(5, .int (a5 + 1)), (4, .int v3), (3, .int v2), (0, .ref 7), (1, .int a1), (2, .int a2)]) (pc := 43) K d_Plain_seenFrom_43 rfl kc_1 (by decide) rfl ?_
        refine gk_goto (tgt := 8) (pc := 46) K d_Plain_seenFrom_46 (by decide) ?_
        exact gk_sub [3, 4, 5, 2, 1, 0] rfl (ih _ _ _ _ _ _  h)
noncomputable def f_Plain_seenFrom  (a1 : Int32) (a2 : Int32) (m0 : gk_M) : Option (Int32 × gk_M) :=
  f_Plain_seenFrom_8 gk_fv a1 a2 0 0 0 m0

theorem s_Plain_seenFrom_0 {z : gk_Z} (K : gk_F tx z me_Plain_seenFrom 5) {r : Int32} {mem2 : gk_M} : ∀ a1 a2 m0, f_Plain_seenFrom a1 a2 m0 = some (r, mem2) → gk_G tx z me_Plain_seenFrom (gk_R tx z (some (.int r)) mem2) m0 [(0, .ref 7), (1, .int a1), (2, .int a2)] [] 0 := by
  intro a1 a2 m0  h
  unfold f_Plain_seenFrom at h
  refine gk_iconst (pc := 0) K d_Plain_seenFrom_0 kc_0 ?_
  refine gk_istore_n (lv2 := [(3, .int 0), (0, .ref 7), (1, .int a1), (2, .int a2)]) (pc := 1) K d_Plain_seenFrom_1 (by decide) rfl ?_
  refine gk_iconst (pc := 2) K d_Plain_seenFrom_2 kc_0 ?_
  refine gk_istore (lv2 := [(4, .int 0), (3, .int 0), (0, .ref 7), (1, .int a1), (2, .int a2)]) (pc := 3) K d_Plain_seenFrom_3 (by decide) rfl ?_
  refine gk_iconst (pc := 5) K d_Plain_seenFrom_5 kc_0 ?_
  refine gk_istore (lv2 := [(5, .int 0), (4, .int 0), (3, .int 0), (0, .ref 7), (1, .int a1), (2, .int a2)]) (pc := 6) K d_Plain_seenFrom_6 (by decide) rfl ?_
  exact gk_sub [3, 4, 5, 2, 1, 0] rfl (s_Plain_seenFrom_8 K _ _ _ _ _ _ _  h)
theorem s_Plain_seenFrom {l : Launch} {u : gk_U} (hD : gk_D tx u) {a1 : Int32} {a2 : Int32} {m0 mem2 : gk_M} {r : Int32} (h : f_Plain_seenFrom a1 a2 m0 = some (r, mem2)) : gk_C tx l u me_Plain_seenFrom 5 [.ref 7, .int a1, .int a2] m0 (some (.int r)) mem2 :=
  gk_enter hD mc_Plain_seenFrom (Nat.le_of_ble_eq_true rfl) rfl (fun z _ _ K => s_Plain_seenFrom_0 K _ _ _  h)
theorem d_X_seen_0 : decode me_X_seen.2.1 0 = .ok (.iload_n 1, 1) := by decide +kernel
theorem d_X_seen_1 : decode me_X_seen.2.1 1 = .ok (.invokestatic 99, 3) := by decide +kernel
theorem d_X_seen_4 : decode me_X_seen.2.1 4 = .ok (.ifCond .eq 15, 3) := by decide +kernel
theorem d_X_seen_7 : decode me_X_seen.2.1 7 = .ok (.aload_n 0, 1) := by decide +kernel
theorem d_X_seen_8 : decode me_X_seen.2.1 8 = .ok (.getfield 28, 3) := by decide +kernel
theorem d_X_seen_11 : decode me_X_seen.2.1 11 = .ok (.iload_n 1, 1) := by decide +kernel
theorem d_X_seen_12 : decode me_X_seen.2.1 12 = .ok (.iconst (-1), 1) := by decide +kernel
theorem d_X_seen_13 : decode me_X_seen.2.1 13 = .ok (.invokevirtual 208, 3) := by decide +kernel
theorem d_X_seen_16 : decode me_X_seen.2.1 16 = .ok (.goto 4, 3) := by decide +kernel
theorem d_X_seen_19 : decode me_X_seen.2.1 19 = .ok (.iconst (-1), 1) := by decide +kernel
theorem d_X_seen_20 : decode me_X_seen.2.1 20 = .ok (.ireturn, 1) := by decide +kernel
noncomputable def f_X_seen  (a1 : Int32) (m0 : gk_M) : Option (Int32 × gk_M) :=
  gk_bi (f_X_isPoint a1 m0) fun v2 m1 =>
  if v2 = 0 then
    some ((-1), m1)
  else
    gk_bi (f_Plain_seenFrom a1 (-1) m1) fun v4 m3 =>
    some (v4, m3)

theorem s_X_seen_0 {z : gk_Z} (K : gk_F tx z me_X_seen 6) {r : Int32} {mem2 : gk_M} : ∀ a1 m0, f_X_seen a1 m0 = some (r, mem2) → gk_G tx z me_X_seen (gk_R tx z (some (.int r)) mem2) m0 [(0, .ref 0), (1, .int a1)] [] 0 := by
  intro a1 m0  h
  unfold f_X_seen at h
  refine gk_iload_n (pc := 0) K d_X_seen_0 rfl ?_
  obtain ⟨v2, m1, em1, h⟩ := gk_bi_some h
  refine gk_cSi (As := [.int a1]) (pc := 1) K d_X_seen_1 ms_X_99 mc_X_isPoint rfl (s_X_isPoint (gk_FD K)  em1) (by decide) rfl (Nat.le_of_ble_eq_true rfl) ?_
  refine gk_if_eq (tgt := 19) (pc := 4) K d_X_seen_4 (by decide) h (fun h => ?_) (fun h => ?_)
  · refine gk_iconst (pc := 19) K d_X_seen_19 kc_m1 ?_
    exact gk_iret (pc := 20) K d_X_seen_20 rfl h
  · refine gk_aload_n (pc := 7) K d_X_seen_7 rfl ?_
    refine gk_get (pc := 8) K d_X_seen_8 fl_X_28 tx_0 rfl rfl ?_
    refine gk_iload_n (pc := 11) K d_X_seen_11 rfl ?_
    refine gk_iconst (pc := 12) K d_X_seen_12 kc_m1 ?_
    obtain ⟨v4, m3, em3, h⟩ := gk_bi_some h
    refine gk_cVi (As := [.int a1, .int (-1)]) (pc := 13) K d_X_seen_13 mv_X_208 mc_Plain_seenFrom rfl tx_7 cl_ok2.1 (s_Plain_seenFrom (gk_FD K)  em3) (by decide) rfl (Nat.le_of_ble_eq_true rfl) ?_
    refine gk_goto (tgt := 20) (pc := 16) K d_X_seen_16 (by decide) ?_
    exact gk_iret (pc := 20) K d_X_seen_20 rfl h
theorem s_X_seen {l : Launch} {u : gk_U} (hD : gk_D tx u) {a1 : Int32} {m0 mem2 : gk_M} {r : Int32} (h : f_X_seen a1 m0 = some (r, mem2)) : gk_C tx l u me_X_seen 6 [.ref 0, .int a1] m0 (some (.int r)) mem2 :=
  gk_enter hD mc_X_seen (Nat.le_of_ble_eq_true rfl) rfl (fun z _ _ K => s_X_seen_0 K _ _  h)
theorem d_Plain_hasCorner_0 : decode me_Plain_hasCorner.2.1 0 = .ok (.iconst 0, 1) := by decide +kernel
theorem d_Plain_hasCorner_1 : decode me_Plain_hasCorner.2.1 1 = .ok (.istore_n 2, 1) := by decide +kernel
theorem d_Plain_hasCorner_2 : decode me_Plain_hasCorner.2.1 2 = .ok (.iload_n 2, 1) := by decide +kernel
theorem d_Plain_hasCorner_3 : decode me_Plain_hasCorner.2.1 3 = .ok (.aload_n 0, 1) := by decide +kernel
theorem d_Plain_hasCorner_4 : decode me_Plain_hasCorner.2.1 4 = .ok (.getfield 34, 3) := by decide +kernel
theorem d_Plain_hasCorner_7 : decode me_Plain_hasCorner.2.1 7 = .ok (.if_icmp .ge 39, 3) := by decide +kernel
theorem d_Plain_hasCorner_10 : decode me_Plain_hasCorner.2.1 10 = .ok (.iconst 0, 1) := by decide +kernel
theorem d_Plain_hasCorner_11 : decode me_Plain_hasCorner.2.1 11 = .ok (.istore_n 3, 1) := by decide +kernel
theorem d_Plain_hasCorner_12 : decode me_Plain_hasCorner.2.1 12 = .ok (.iload_n 3, 1) := by decide +kernel
theorem d_Plain_hasCorner_13 : decode me_Plain_hasCorner.2.1 13 = .ok (.aload_n 0, 1) := by decide +kernel
theorem d_Plain_hasCorner_14 : decode me_Plain_hasCorner.2.1 14 = .ok (.getfield 31, 3) := by decide +kernel
theorem d_Plain_hasCorner_17 : decode me_Plain_hasCorner.2.1 17 = .ok (.iload_n 2, 1) := by decide +kernel
theorem d_Plain_hasCorner_18 : decode me_Plain_hasCorner.2.1 18 = .ok (.iaload, 1) := by decide +kernel
theorem d_Plain_hasCorner_19 : decode me_Plain_hasCorner.2.1 19 = .ok (.if_icmp .ge 21, 3) := by decide +kernel
theorem d_Plain_hasCorner_22 : decode me_Plain_hasCorner.2.1 22 = .ok (.aload_n 0, 1) := by decide +kernel
theorem d_Plain_hasCorner_23 : decode me_Plain_hasCorner.2.1 23 = .ok (.iload_n 2, 1) := by decide +kernel
theorem d_Plain_hasCorner_24 : decode me_Plain_hasCorner.2.1 24 = .ok (.iload_n 3, 1) := by decide +kernel
theorem d_Plain_hasCorner_25 : decode me_Plain_hasCorner.2.1 25 = .ok (.invokevirtual 100, 3) := by decide +kernel
theorem d_Plain_hasCorner_28 : decode me_Plain_hasCorner.2.1 28 = .ok (.iload_n 1, 1) := by decide +kernel
theorem d_Plain_hasCorner_29 : decode me_Plain_hasCorner.2.1 29 = .ok (.if_icmp .ne 5, 3) := by decide +kernel
theorem d_Plain_hasCorner_32 : decode me_Plain_hasCorner.2.1 32 = .ok (.iconst 1, 1) := by decide +kernel
theorem d_Plain_hasCorner_33 : decode me_Plain_hasCorner.2.1 33 = .ok (.ireturn, 1) := by decide +kernel
theorem d_Plain_hasCorner_34 : decode me_Plain_hasCorner.2.1 34 = .ok (.iinc 3 1, 3) := by decide +kernel
theorem d_Plain_hasCorner_37 : decode me_Plain_hasCorner.2.1 37 = .ok (.goto (-25), 3) := by decide +kernel
theorem d_Plain_hasCorner_40 : decode me_Plain_hasCorner.2.1 40 = .ok (.iinc 2 1, 3) := by decide +kernel
theorem d_Plain_hasCorner_43 : decode me_Plain_hasCorner.2.1 43 = .ok (.goto (-41), 3) := by decide +kernel
theorem d_Plain_hasCorner_46 : decode me_Plain_hasCorner.2.1 46 = .ok (.iconst 0, 1) := by decide +kernel
theorem d_Plain_hasCorner_47 : decode me_Plain_hasCorner.2.1 47 = .ok (.ireturn, 1) := by decide +kernel
noncomputable def f_Plain_hasCorner_12 (k2 : Int32 → Int32 → gk_M → Option (Int32 × gk_M)) : Nat → Int32 → Int32 → Int32 → gk_M → Option (Int32 × gk_M)
  | 0, _, _, _, _ => none
  | n + 1, a1, a2, a3, m0 =>
    gk_ai m0 13 4 a2 fun v1 =>
    if v1 ≤ a3 then
      k2 a1 (a2 + 1) m0
    else
      gk_bi (f_Plain_cornerAt a2 a3 m0) fun v3 m2 =>
      if ¬ v3 = a1 then
        f_Plain_hasCorner_12 k2 n a1 a2 (a3 + 1) m2
      else
        some (1, m2)

theorem s_Plain_hasCorner_12 {z : gk_Z} (K : gk_F tx z me_Plain_hasCorner 2) {r : Int32} {mem2 : gk_M} {k2 : Int32 → Int32 → gk_M → Option (Int32 × gk_M)} (hk2 : ∀ a1 a2 m0, k2 a1 a2 m0 = some (r, mem2) → gk_G tx z me_Plain_hasCorner (gk_R tx z (some (.int r)) mem2) m0 [(0, .ref 7), (1, .int a1), (2, .int a2)] [] 2) : ∀ n a1 a2 a3 m0, f_Plain_hasCorner_12 k2 n a1 a2 a3 m0 = some (r, mem2) → gk_G tx z me_Plain_hasCorner (gk_R tx z (some (.int r)) mem2) m0 [(0, .ref 7), (1, .int a1), (2, .int a2), (3, .int a3)] [] 12 := by
  intro n
  induction n with
  | zero => intro a1 a2 a3 m0  h; exact nomatch (show (none : Option _) = some _ from h)
  | succ n ih =>
    intro a1 a2 a3 m0  h
    unfold f_Plain_hasCorner_12 at h
    refine gk_iload_n (pc := 12) K d_Plain_hasCorner_12 rfl ?_
    refine gk_aload_n (pc := 13) K d_Plain_hasCorner_13 rfl ?_
    refine gk_get (pc := 14) K d_Plain_hasCorner_14 fl_Plain_31 tx_7 rfl rfl ?_
    refine gk_iload_n (pc := 17) K d_Plain_hasCorner_17 rfl ?_
    refine gk_iald (pc := 18) K d_Plain_hasCorner_18 tx_13 h (fun v1 h => ?_)
    refine gk_ic_ge (tgt := 40) (pc := 19) K d_Plain_hasCorner_19 (by decide) h (fun h => ?_) (fun h => ?_)
    · refine gk_iinc2 (lv2 := [(2, .int (a2 + 1)), (0, .ref 7), (1, .int a1), (3, .int a3)]) (pc := 40) K d_Plain_hasCorner_40 rfl kc_1 (by decide) rfl ?_
      refine gk_goto (tgt := 2) (pc := 43) K d_Plain_hasCorner_43 (by decide) ?_
      exact gk_sub [1, 2, 0] rfl (hk2 _ _ _  h)
    · refine gk_aload_n (pc := 22) K d_Plain_hasCorner_22 rfl ?_
      refine gk_iload_n (pc := 23) K d_Plain_hasCorner_23 rfl ?_
      refine gk_iload_n (pc := 24) K d_Plain_hasCorner_24 rfl ?_
      obtain ⟨v3, m2, em2, h⟩ := gk_bi_some h
      refine gk_cVi (As := [.int a2, .int a3]) (pc := 25) K d_Plain_hasCorner_25 mv_Plain_100 mc_Plain_cornerAt rfl tx_7 cl_ok2.1 (s_Plain_cornerAt (gk_FD K)  em2) (by decide) rfl (Nat.le_of_ble_eq_true rfl) ?_
      refine gk_iload_n (pc := 28) K d_Plain_hasCorner_28 rfl ?_
      refine gk_ic_ne (tgt := 34) (pc := 29) K d_Plain_hasCorner_29 (by decide) h (fun h => ?_) (fun h => ?_)
      · refine gk_iinc2 (lv2 := [(3, .int (a3 + 1)), (0, .ref 7), (1, .int a1), (2, .int a2)]) (pc := 34) K d_Plain_hasCorner_34 rfl kc_1 (by decide) rfl ?_
        refine gk_goto (tgt := 12) (pc := 37) K d_Plain_hasCorner_37 (by decide) ?_
        exact gk_sub [1, 2, 3, 0] rfl (ih _ _ _ _  h)
      · refine gk_iconst (pc := 32) K d_Plain_hasCorner_32 kc_1 ?_
        exact gk_zretc (pc := 33) K d_Plain_hasCorner_33 rfl (Or.inr rfl) h
noncomputable def f_Plain_hasCorner_2  : Nat → Int32 → Int32 → gk_M → Option (Int32 × gk_M)
  | 0, _, _, _ => none
  | n + 1, a1, a2, m0 =>
    if (m0.1 7 7) ≤ a2 then
      some (0, m0)
    else
      f_Plain_hasCorner_12 (f_Plain_hasCorner_2 n) gk_fv a1 a2 0 m0

theorem s_Plain_hasCorner_2 {z : gk_Z} (K : gk_F tx z me_Plain_hasCorner 2) {r : Int32} {mem2 : gk_M} : ∀ n a1 a2 m0, f_Plain_hasCorner_2 n a1 a2 m0 = some (r, mem2) → gk_G tx z me_Plain_hasCorner (gk_R tx z (some (.int r)) mem2) m0 [(0, .ref 7), (1, .int a1), (2, .int a2)] [] 2 := by
  intro n
  induction n with
  | zero => intro a1 a2 m0  h; exact nomatch (show (none : Option _) = some _ from h)
  | succ n ih =>
    intro a1 a2 m0  h
    unfold f_Plain_hasCorner_2 at h
    refine gk_iload_n (pc := 2) K d_Plain_hasCorner_2 rfl ?_
    refine gk_aload_n (pc := 3) K d_Plain_hasCorner_3 rfl ?_
    refine gk_get (pc := 4) K d_Plain_hasCorner_4 fl_Plain_34 tx_7 rfl rfl ?_
    refine gk_ic_ge (tgt := 46) (pc := 7) K d_Plain_hasCorner_7 (by decide) h (fun h => ?_) (fun h => ?_)
    · refine gk_iconst (pc := 46) K d_Plain_hasCorner_46 kc_0 ?_
      exact gk_zretc (pc := 47) K d_Plain_hasCorner_47 rfl (Or.inl rfl) h
    · refine gk_iconst (pc := 10) K d_Plain_hasCorner_10 kc_0 ?_
      refine gk_istore_n (lv2 := [(3, .int 0), (0, .ref 7), (1, .int a1), (2, .int a2)]) (pc := 11) K d_Plain_hasCorner_11 (by decide) rfl ?_
      exact gk_sub [1, 2, 3, 0] rfl (s_Plain_hasCorner_12 K (fun x0 x1 m  h => ih x0 x1 m  h) _ _ _ _ _  h)
noncomputable def f_Plain_hasCorner  (a1 : Int32) (m0 : gk_M) : Option (Int32 × gk_M) :=
  f_Plain_hasCorner_2 gk_fv a1 0 m0

theorem s_Plain_hasCorner_0 {z : gk_Z} (K : gk_F tx z me_Plain_hasCorner 2) {r : Int32} {mem2 : gk_M} : ∀ a1 m0, f_Plain_hasCorner a1 m0 = some (r, mem2) → gk_G tx z me_Plain_hasCorner (gk_R tx z (some (.int r)) mem2) m0 [(0, .ref 7), (1, .int a1)] [] 0 := by
  intro a1 m0  h
  unfold f_Plain_hasCorner at h
  refine gk_iconst (pc := 0) K d_Plain_hasCorner_0 kc_0 ?_
  refine gk_istore_n (lv2 := [(2, .int 0), (0, .ref 7), (1, .int a1)]) (pc := 1) K d_Plain_hasCorner_1 (by decide) rfl ?_
  exact gk_sub [1, 2, 0] rfl (s_Plain_hasCorner_2 K _ _ _ _  h)
theorem s_Plain_hasCorner {l : Launch} {u : gk_U} (hD : gk_D tx u) {a1 : Int32} {m0 mem2 : gk_M} {r : Int32} (h : f_Plain_hasCorner a1 m0 = some (r, mem2)) : gk_C tx l u me_Plain_hasCorner 2 [.ref 7, .int a1] m0 (some (.int r)) mem2 :=
  gk_enter hD mc_Plain_hasCorner (Nat.le_of_ble_eq_true rfl) rfl (fun z _ _ K => s_Plain_hasCorner_0 K _ _  h)
theorem d_Plain_isFreeFor_0 : decode me_Plain_isFreeFor.2.1 0 = .ok (.aload_n 0, 1) := by decide +kernel
theorem d_Plain_isFreeFor_1 : decode me_Plain_isFreeFor.2.1 1 = .ok (.iload_n 2, 1) := by decide +kernel
theorem d_Plain_isFreeFor_2 : decode me_Plain_isFreeFor.2.1 2 = .ok (.invokevirtual 78, 3) := by decide +kernel
theorem d_Plain_isFreeFor_5 : decode me_Plain_isFreeFor.2.1 5 = .ok (.ifCond .ne 11, 3) := by decide +kernel
theorem d_Plain_isFreeFor_8 : decode me_Plain_isFreeFor.2.1 8 = .ok (.aload_n 0, 1) := by decide +kernel
theorem d_Plain_isFreeFor_9 : decode me_Plain_isFreeFor.2.1 9 = .ok (.iload_n 2, 1) := by decide +kernel
theorem d_Plain_isFreeFor_10 : decode me_Plain_isFreeFor.2.1 10 = .ok (.invokevirtual 157, 3) := by decide +kernel
theorem d_Plain_isFreeFor_13 : decode me_Plain_isFreeFor.2.1 13 = .ok (.ifCond .eq 5, 3) := by decide +kernel
theorem d_Plain_isFreeFor_16 : decode me_Plain_isFreeFor.2.1 16 = .ok (.iconst 0, 1) := by decide +kernel
theorem d_Plain_isFreeFor_17 : decode me_Plain_isFreeFor.2.1 17 = .ok (.ireturn, 1) := by decide +kernel
theorem d_Plain_isFreeFor_18 : decode me_Plain_isFreeFor.2.1 18 = .ok (.aload_n 0, 1) := by decide +kernel
theorem d_Plain_isFreeFor_19 : decode me_Plain_isFreeFor.2.1 19 = .ok (.iload_n 1, 1) := by decide +kernel
theorem d_Plain_isFreeFor_20 : decode me_Plain_isFreeFor.2.1 20 = .ok (.iload_n 2, 1) := by decide +kernel
theorem d_Plain_isFreeFor_21 : decode me_Plain_isFreeFor.2.1 21 = .ok (.invokevirtual 81, 3) := by decide +kernel
theorem d_Plain_isFreeFor_24 : decode me_Plain_isFreeFor.2.1 24 = .ok (.iconst 0, 1) := by decide +kernel
theorem d_Plain_isFreeFor_25 : decode me_Plain_isFreeFor.2.1 25 = .ok (.istore_n 3, 1) := by decide +kernel
theorem d_Plain_isFreeFor_26 : decode me_Plain_isFreeFor.2.1 26 = .ok (.iload_n 3, 1) := by decide +kernel
theorem d_Plain_isFreeFor_27 : decode me_Plain_isFreeFor.2.1 27 = .ok (.aload_n 0, 1) := by decide +kernel
theorem d_Plain_isFreeFor_28 : decode me_Plain_isFreeFor.2.1 28 = .ok (.getfield 34, 3) := by decide +kernel
theorem d_Plain_isFreeFor_31 : decode me_Plain_isFreeFor.2.1 31 = .ok (.if_icmp .ge 79, 3) := by decide +kernel
theorem d_Plain_isFreeFor_34 : decode me_Plain_isFreeFor.2.1 34 = .ok (.iconst 0, 1) := by decide +kernel
theorem d_Plain_isFreeFor_35 : decode me_Plain_isFreeFor.2.1 35 = .ok (.istore 4, 2) := by decide +kernel
theorem d_Plain_isFreeFor_37 : decode me_Plain_isFreeFor.2.1 37 = .ok (.iload 4, 2) := by decide +kernel
theorem d_Plain_isFreeFor_39 : decode me_Plain_isFreeFor.2.1 39 = .ok (.iconst 1, 1) := by decide +kernel
theorem d_Plain_isFreeFor_40 : decode me_Plain_isFreeFor.2.1 40 = .ok (.iadd, 1) := by decide +kernel
theorem d_Plain_isFreeFor_41 : decode me_Plain_isFreeFor.2.1 41 = .ok (.aload_n 0, 1) := by decide +kernel
theorem d_Plain_isFreeFor_42 : decode me_Plain_isFreeFor.2.1 42 = .ok (.getfield 31, 3) := by decide +kernel
theorem d_Plain_isFreeFor_45 : decode me_Plain_isFreeFor.2.1 45 = .ok (.iload_n 3, 1) := by decide +kernel
theorem d_Plain_isFreeFor_46 : decode me_Plain_isFreeFor.2.1 46 = .ok (.iaload, 1) := by decide +kernel
theorem d_Plain_isFreeFor_47 : decode me_Plain_isFreeFor.2.1 47 = .ok (.if_icmp .ge 57, 3) := by decide +kernel
theorem d_Plain_isFreeFor_50 : decode me_Plain_isFreeFor.2.1 50 = .ok (.iconst 0, 1) := by decide +kernel
theorem d_Plain_isFreeFor_51 : decode me_Plain_isFreeFor.2.1 51 = .ok (.istore 5, 2) := by decide +kernel
theorem d_Plain_isFreeFor_53 : decode me_Plain_isFreeFor.2.1 53 = .ok (.iload 5, 2) := by decide +kernel
theorem d_Plain_isFreeFor_55 : decode me_Plain_isFreeFor.2.1 55 = .ok (.aload_n 0, 1) := by decide +kernel
theorem d_Plain_isFreeFor_56 : decode me_Plain_isFreeFor.2.1 56 = .ok (.getfield 27, 3) := by decide +kernel
theorem d_Plain_isFreeFor_59 : decode me_Plain_isFreeFor.2.1 59 = .ok (.if_icmp .ge 39, 3) := by decide +kernel
theorem d_Plain_isFreeFor_62 : decode me_Plain_isFreeFor.2.1 62 = .ok (.aload_n 0, 1) := by decide +kernel
theorem d_Plain_isFreeFor_63 : decode me_Plain_isFreeFor.2.1 63 = .ok (.aload_n 0, 1) := by decide +kernel
theorem d_Plain_isFreeFor_64 : decode me_Plain_isFreeFor.2.1 64 = .ok (.iload_n 3, 1) := by decide +kernel
theorem d_Plain_isFreeFor_65 : decode me_Plain_isFreeFor.2.1 65 = .ok (.iload 4, 2) := by decide +kernel
theorem d_Plain_isFreeFor_67 : decode me_Plain_isFreeFor.2.1 67 = .ok (.invokevirtual 100, 3) := by decide +kernel
theorem d_Plain_isFreeFor_70 : decode me_Plain_isFreeFor.2.1 70 = .ok (.aload_n 0, 1) := by decide +kernel
theorem d_Plain_isFreeFor_71 : decode me_Plain_isFreeFor.2.1 71 = .ok (.iload_n 3, 1) := by decide +kernel
theorem d_Plain_isFreeFor_72 : decode me_Plain_isFreeFor.2.1 72 = .ok (.iload 4, 2) := by decide +kernel
theorem d_Plain_isFreeFor_74 : decode me_Plain_isFreeFor.2.1 74 = .ok (.iconst 1, 1) := by decide +kernel
theorem d_Plain_isFreeFor_75 : decode me_Plain_isFreeFor.2.1 75 = .ok (.iadd, 1) := by decide +kernel
theorem d_Plain_isFreeFor_76 : decode me_Plain_isFreeFor.2.1 76 = .ok (.invokevirtual 100, 3) := by decide +kernel
theorem d_Plain_isFreeFor_79 : decode me_Plain_isFreeFor.2.1 79 = .ok (.iload_n 3, 1) := by decide +kernel
theorem d_Plain_isFreeFor_80 : decode me_Plain_isFreeFor.2.1 80 = .ok (.iload 5, 2) := by decide +kernel
theorem d_Plain_isFreeFor_82 : decode me_Plain_isFreeFor.2.1 82 = .ok (.iload_n 1, 1) := by decide +kernel
theorem d_Plain_isFreeFor_83 : decode me_Plain_isFreeFor.2.1 83 = .ok (.invokevirtual 146, 3) := by decide +kernel
theorem d_Plain_isFreeFor_86 : decode me_Plain_isFreeFor.2.1 86 = .ok (.iconst (-1), 1) := by decide +kernel
theorem d_Plain_isFreeFor_87 : decode me_Plain_isFreeFor.2.1 87 = .ok (.if_icmp .eq 5, 3) := by decide +kernel
theorem d_Plain_isFreeFor_90 : decode me_Plain_isFreeFor.2.1 90 = .ok (.iconst 0, 1) := by decide +kernel
theorem d_Plain_isFreeFor_91 : decode me_Plain_isFreeFor.2.1 91 = .ok (.ireturn, 1) := by decide +kernel
theorem d_Plain_isFreeFor_92 : decode me_Plain_isFreeFor.2.1 92 = .ok (.iinc 5 1, 3) := by decide +kernel
theorem d_Plain_isFreeFor_95 : decode me_Plain_isFreeFor.2.1 95 = .ok (.goto (-42), 3) := by decide +kernel
theorem d_Plain_isFreeFor_98 : decode me_Plain_isFreeFor.2.1 98 = .ok (.iinc 4 1, 3) := by decide +kernel
theorem d_Plain_isFreeFor_101 : decode me_Plain_isFreeFor.2.1 101 = .ok (.goto (-64), 3) := by decide +kernel
theorem d_Plain_isFreeFor_104 : decode me_Plain_isFreeFor.2.1 104 = .ok (.iinc 3 1, 3) := by decide +kernel
theorem d_Plain_isFreeFor_107 : decode me_Plain_isFreeFor.2.1 107 = .ok (.goto (-81), 3) := by decide +kernel
theorem d_Plain_isFreeFor_110 : decode me_Plain_isFreeFor.2.1 110 = .ok (.iconst 1, 1) := by decide +kernel
theorem d_Plain_isFreeFor_111 : decode me_Plain_isFreeFor.2.1 111 = .ok (.ireturn, 1) := by decide +kernel
noncomputable def f_Plain_isFreeFor_53 (k26 : Int32 → Int32 → gk_M → Option (Int32 × gk_M)) (k37 : Int32 → Int32 → Int32 → gk_M → Option (Int32 × gk_M)) : Nat → Int32 → Int32 → Int32 → Int32 → gk_M → Option (Int32 × gk_M)
  | 0, _, _, _, _, _ => none
  | n + 1, a1, a3, a4, a5, m0 =>
    if (m0.1 7 5) ≤ a5 then
      k37 a1 a3 (a4 + 1) m0
    else
      gk_bi (f_Plain_cornerAt a3 a4 m0) fun v2 m1 =>
      gk_bi (f_Plain_cornerAt a3 (a4 + 1) m1) fun v4 m3 =>
      gk_bi (f_Plain_guiltBetween v2 v4 a3 a5 a1 m3) fun v6 m5 =>
      if v6 = (-1) then
        f_Plain_isFreeFor_53 k26 k37 n a1 a3 a4 (a5 + 1) m5
      else
        some (0, m5)

theorem s_Plain_isFreeFor_53 {z : gk_Z} (K : gk_F tx z me_Plain_isFreeFor 6) {r : Int32} {mem2 : gk_M} {k26 : Int32 → Int32 → gk_M → Option (Int32 × gk_M)} (hk26 : ∀ a1 a3 m0, k26 a1 a3 m0 = some (r, mem2) → gk_G tx z me_Plain_isFreeFor (gk_R tx z (some (.int r)) mem2) m0 [(0, .ref 7), (1, .int a1), (3, .int a3)] [] 26) {k37 : Int32 → Int32 → Int32 → gk_M → Option (Int32 × gk_M)} (hk37 : ∀ a1 a3 a4 m0, k37 a1 a3 a4 m0 = some (r, mem2) → gk_G tx z me_Plain_isFreeFor (gk_R tx z (some (.int r)) mem2) m0 [(0, .ref 7), (1, .int a1), (3, .int a3), (4, .int a4)] [] 37) : ∀ n a1 a3 a4 a5 m0, f_Plain_isFreeFor_53 k26 k37 n a1 a3 a4 a5 m0 = some (r, mem2) → gk_G tx z me_Plain_isFreeFor (gk_R tx z (some (.int r)) mem2) m0 [(0, .ref 7), (1, .int a1), (3, .int a3), (4, .int a4), (5, .int a5)] [] 53 := by
  intro n
  induction n with
  | zero => intro a1 a3 a4 a5 m0  h; exact nomatch (show (none : Option _) = some _ from h)
  | succ n ih =>
    intro a1 a3 a4 a5 m0  h
    unfold f_Plain_isFreeFor_53 at h
    refine gk_iload (pc := 53) K d_Plain_isFreeFor_53 rfl ?_
    refine gk_aload_n (pc := 55) K d_Plain_isFreeFor_55 rfl ?_
    refine gk_get (pc := 56) K d_Plain_isFreeFor_56 fl_Plain_27 tx_7 rfl rfl ?_
    refine gk_ic_ge (tgt := 98) (pc := 59) K d_Plain_isFreeFor_59 (by decide) h (fun h => ?_) (fun h => ?_)
    · refine gk_iinc2 (lv2 := [(4, .int (a4 + 1)), (0, .ref 7), (1, .int a1), (3, .int a3), (5, .int a5)]) (pc := 98) K d_Plain_isFreeFor_98 rfl kc_1 (by decide) rfl ?_
      refine gk_goto (tgt := 37) (pc := 101) K d_Plain_isFreeFor_101 (by decide) ?_
      exact gk_sub [1, 2, 3, 0] rfl (hk37 _ _ _ _  h)
    · refine gk_aload_n (pc := 62) K d_Plain_isFreeFor_62 rfl ?_
      refine gk_aload_n (pc := 63) K d_Plain_isFreeFor_63 rfl ?_
      refine gk_iload_n (pc := 64) K d_Plain_isFreeFor_64 rfl ?_
      refine gk_iload (pc := 65) K d_Plain_isFreeFor_65 rfl ?_
      obtain ⟨v2, m1, em1, h⟩ := gk_bi_some h
      refine gk_cVi (As := [.int a3, .int a4]) (pc := 67) K d_Plain_isFreeFor_67 mv_Plain_100 mc_Plain_cornerAt rfl tx_7 cl_ok2.1 (s_Plain_cornerAt (gk_FD K)  em1) (by decide) rfl (Nat.le_of_ble_eq_true rfl) ?_
      refine gk_aload_n (pc := 70) K d_Plain_isFreeFor_70 rfl ?_
      refine gk_iload_n (pc := 71) K d_Plain_isFreeFor_71 rfl ?_
      refine gk_iload (pc := 72) K d_Plain_isFreeFor_72 rfl ?_
      refine gk_iconst (pc := 74) K d_Plain_isFreeFor_74 kc_1 ?_
      refine gk_iadd (pc := 75) K d_Plain_isFreeFor_75 ?_
      obtain ⟨v4, m3, em3, h⟩ := gk_bi_some h
      refine gk_cVi (As := [.int a3, .int (a4 + 1)]) (pc := 76) K d_Plain_isFreeFor_76 mv_Plain_100 mc_Plain_cornerAt rfl tx_7 cl_ok2.1 (s_Plain_cornerAt (gk_FD K)  em3) (by decide) rfl (Nat.le_of_ble_eq_true rfl) ?_
      refine gk_iload_n (pc := 79) K d_Plain_isFreeFor_79 rfl ?_
      refine gk_iload (pc := 80) K d_Plain_isFreeFor_80 rfl ?_
      refine gk_iload_n (pc := 82) K d_Plain_isFreeFor_82 rfl ?_
      obtain ⟨v6, m5, em5, h⟩ := gk_bi_some h
      refine gk_cVi (As := [.int v2, .int v4, .int a3, .int a5, .int a1]) (pc := 83) K d_Plain_isFreeFor_83 mv_Plain_146 mc_Plain_guiltBetween rfl tx_7 cl_ok2.1 (s_Plain_guiltBetween (gk_FD K)  em5) (by decide) rfl (Nat.le_of_ble_eq_true rfl) ?_
      refine gk_iconst (pc := 86) K d_Plain_isFreeFor_86 kc_m1 ?_
      refine gk_ic_eq (tgt := 92) (pc := 87) K d_Plain_isFreeFor_87 (by decide) h (fun h => ?_) (fun h => ?_)
      · refine gk_iinc2 (lv2 := [(5, .int (a5 + 1)), (0, .ref 7), (1, .int a1), (3, .int a3), (4, .int a4)]) (pc := 92) K d_Plain_isFreeFor_92 rfl kc_1 (by decide) rfl ?_
        refine gk_goto (tgt := 53) (pc := 95) K d_Plain_isFreeFor_95 (by decide) ?_
        exact gk_sub [1, 2, 3, 4, 0] rfl (ih _ _ _ _ _  h)
      · refine gk_iconst (pc := 90) K d_Plain_isFreeFor_90 kc_0 ?_
        exact gk_zretc (pc := 91) K d_Plain_isFreeFor_91 rfl (Or.inl rfl) h
noncomputable def f_Plain_isFreeFor_37 (k26 : Int32 → Int32 → gk_M → Option (Int32 × gk_M)) : Nat → Int32 → Int32 → Int32 → gk_M → Option (Int32 × gk_M)
  | 0, _, _, _, _ => none
  | n + 1, a1, a3, a4, m0 =>
    gk_ai m0 13 4 a3 fun v1 =>
    if v1 ≤ (a4 + 1) then
      k26 a1 (a3 + 1) m0
    else
      f_Plain_isFreeFor_53 k26 (f_Plain_isFreeFor_37 k26 n) gk_fv a1 a3 a4 0 m0

theorem s_Plain_isFreeFor_37 {z : gk_Z} (K : gk_F tx z me_Plain_isFreeFor 6) {r : Int32} {mem2 : gk_M} {k26 : Int32 → Int32 → gk_M → Option (Int32 × gk_M)} (hk26 : ∀ a1 a3 m0, k26 a1 a3 m0 = some (r, mem2) → gk_G tx z me_Plain_isFreeFor (gk_R tx z (some (.int r)) mem2) m0 [(0, .ref 7), (1, .int a1), (3, .int a3)] [] 26) : ∀ n a1 a3 a4 m0, f_Plain_isFreeFor_37 k26 n a1 a3 a4 m0 = some (r, mem2) → gk_G tx z me_Plain_isFreeFor (gk_R tx z (some (.int r)) mem2) m0 [(0, .ref 7), (1, .int a1), (3, .int a3), (4, .int a4)] [] 37 := by
  intro n
  induction n with
  | zero => intro a1 a3 a4 m0  h; exact nomatch (show (none : Option _) = some _ from h)
  | succ n ih =>
    intro a1 a3 a4 m0  h
    unfold f_Plain_isFreeFor_37 at h
    refine gk_iload (pc := 37) K d_Plain_isFreeFor_37 rfl ?_
    refine gk_iconst (pc := 39) K d_Plain_isFreeFor_39 kc_1 ?_
    refine gk_iadd (pc := 40) K d_Plain_isFreeFor_40 ?_
    refine gk_aload_n (pc := 41) K d_Plain_isFreeFor_41 rfl ?_
    refine gk_get (pc := 42) K d_Plain_isFreeFor_42 fl_Plain_31 tx_7 rfl rfl ?_
    refine gk_iload_n (pc := 45) K d_Plain_isFreeFor_45 rfl ?_
    refine gk_iald (pc := 46) K d_Plain_isFreeFor_46 tx_13 h (fun v1 h => ?_)
    refine gk_ic_ge (tgt := 104) (pc := 47) K d_Plain_isFreeFor_47 (by decide) h (fun h => ?_) (fun h => ?_)
    · refine gk_iinc2 (lv2 := [(3, .int (a3 + 1)), (0, .ref 7), (1, .int a1), (4, .int a4)]) (pc := 104) K d_Plain_isFreeFor_104 rfl kc_1 (by decide) rfl ?_
      refine gk_goto (tgt := 26) (pc := 107) K d_Plain_isFreeFor_107 (by decide) ?_
      exact gk_sub [1, 2, 0] rfl (hk26 _ _ _  h)
    · refine gk_iconst (pc := 50) K d_Plain_isFreeFor_50 kc_0 ?_
      refine gk_istore (lv2 := [(5, .int 0), (0, .ref 7), (1, .int a1), (3, .int a3), (4, .int a4)]) (pc := 51) K d_Plain_isFreeFor_51 (by decide) rfl ?_
      exact gk_sub [1, 2, 3, 4, 0] rfl (s_Plain_isFreeFor_53 K hk26 (fun x0 x1 x2 m  h => ih x0 x1 x2 m  h) _ _ _ _ _ _  h)
noncomputable def f_Plain_isFreeFor_26  : Nat → Int32 → Int32 → gk_M → Option (Int32 × gk_M)
  | 0, _, _, _ => none
  | n + 1, a1, a3, m0 =>
    if (m0.1 7 7) ≤ a3 then
      some (1, m0)
    else
      f_Plain_isFreeFor_37 (f_Plain_isFreeFor_26 n) gk_fv a1 a3 0 m0

theorem s_Plain_isFreeFor_26 {z : gk_Z} (K : gk_F tx z me_Plain_isFreeFor 6) {r : Int32} {mem2 : gk_M} : ∀ n a1 a3 m0, f_Plain_isFreeFor_26 n a1 a3 m0 = some (r, mem2) → gk_G tx z me_Plain_isFreeFor (gk_R tx z (some (.int r)) mem2) m0 [(0, .ref 7), (1, .int a1), (3, .int a3)] [] 26 := by
  intro n
  induction n with
  | zero => intro a1 a3 m0  h; exact nomatch (show (none : Option _) = some _ from h)
  | succ n ih =>
    intro a1 a3 m0  h
    unfold f_Plain_isFreeFor_26 at h
    refine gk_iload_n (pc := 26) K d_Plain_isFreeFor_26 rfl ?_
    refine gk_aload_n (pc := 27) K d_Plain_isFreeFor_27 rfl ?_
    refine gk_get (pc := 28) K d_Plain_isFreeFor_28 fl_Plain_34 tx_7 rfl rfl ?_
    refine gk_ic_ge (tgt := 110) (pc := 31) K d_Plain_isFreeFor_31 (by decide) h (fun h => ?_) (fun h => ?_)
    · refine gk_iconst (pc := 110) K d_Plain_isFreeFor_110 kc_1 ?_
      exact gk_zretc (pc := 111) K d_Plain_isFreeFor_111 rfl (Or.inr rfl) h
    · refine gk_iconst (pc := 34) K d_Plain_isFreeFor_34 kc_0 ?_
      refine gk_istore (lv2 := [(4, .int 0), (0, .ref 7), (1, .int a1), (3, .int a3)]) (pc := 35) K d_Plain_isFreeFor_35 (by decide) rfl ?_
      exact gk_sub [1, 2, 3, 0] rfl (s_Plain_isFreeFor_37 K (fun x0 x1 m  h => ih x0 x1 m  h) _ _ _ _ _  h)
noncomputable def f_Plain_isFreeFor  (a1 : Int32) (a2 : Int32) (m0 : gk_M) : Option (Int32 × gk_M) :=
  gk_bi (f_Plain_hasTower a2 m0) fun v2 m1 =>
  if ¬ v2 = 0 then
    some (0, m1)
  else
    gk_bi (f_Plain_hasCorner a2 m1) fun v4 m3 =>
    if v4 = 0 then
      gk_bv (f_Plain_place a1 a2 m3) fun m5 =>
      f_Plain_isFreeFor_26 gk_fv a1 0 m5
    else
      some (0, m3)

theorem s_Plain_isFreeFor_0 {z : gk_Z} (K : gk_F tx z me_Plain_isFreeFor 6) {r : Int32} {mem2 : gk_M} : ∀ a1 a2 m0, f_Plain_isFreeFor a1 a2 m0 = some (r, mem2) → gk_G tx z me_Plain_isFreeFor (gk_R tx z (some (.int r)) mem2) m0 [(0, .ref 7), (1, .int a1), (2, .int a2)] [] 0 := by
  intro a1 a2 m0  h
  unfold f_Plain_isFreeFor at h
  refine gk_aload_n (pc := 0) K d_Plain_isFreeFor_0 rfl ?_
  refine gk_iload_n (pc := 1) K d_Plain_isFreeFor_1 rfl ?_
  obtain ⟨v2, m1, em1, h⟩ := gk_bi_some h
  refine gk_cVi (As := [.int a2]) (pc := 2) K d_Plain_isFreeFor_2 mv_Plain_78 mc_Plain_hasTower rfl tx_7 cl_ok2.1 (s_Plain_hasTower (gk_FD K)  em1) (by decide) rfl (Nat.le_of_ble_eq_true rfl) ?_
  refine gk_if_ne (tgt := 16) (pc := 5) K d_Plain_isFreeFor_5 (by decide) h (fun h => ?_) (fun h => ?_)
  · refine gk_iconst (pc := 16) K d_Plain_isFreeFor_16 kc_0 ?_
    exact gk_zretc (pc := 17) K d_Plain_isFreeFor_17 rfl (Or.inl rfl) h
  · refine gk_aload_n (pc := 8) K d_Plain_isFreeFor_8 rfl ?_
    refine gk_iload_n (pc := 9) K d_Plain_isFreeFor_9 rfl ?_
    obtain ⟨v4, m3, em3, h⟩ := gk_bi_some h
    refine gk_cVi (As := [.int a2]) (pc := 10) K d_Plain_isFreeFor_10 mv_Plain_157 mc_Plain_hasCorner rfl tx_7 cl_ok2.1 (s_Plain_hasCorner (gk_FD K)  em3) (by decide) rfl (Nat.le_of_ble_eq_true rfl) ?_
    refine gk_if_eq (tgt := 18) (pc := 13) K d_Plain_isFreeFor_13 (by decide) h (fun h => ?_) (fun h => ?_)
    · refine gk_aload_n (pc := 18) K d_Plain_isFreeFor_18 rfl ?_
      refine gk_iload_n (pc := 19) K d_Plain_isFreeFor_19 rfl ?_
      refine gk_iload_n (pc := 20) K d_Plain_isFreeFor_20 rfl ?_
      obtain ⟨m5, em5, h⟩ := gk_bv_some h
      refine gk_cVv (As := [.int a1, .int a2]) (pc := 21) K d_Plain_isFreeFor_21 mv_Plain_81 mc_Plain_place rfl tx_7 cl_ok2.1 (s_Plain_place (gk_FD K)  em5) (by decide) rfl (Nat.le_of_ble_eq_true rfl) ?_
      refine gk_iconst (pc := 24) K d_Plain_isFreeFor_24 kc_0 ?_
      refine gk_istore_n (lv2 := [(3, .int 0), (0, .ref 7), (1, .int a1), (2, .int a2)]) (pc := 25) K d_Plain_isFreeFor_25 (by decide) rfl ?_
      exact gk_sub [1, 2, 0] rfl (s_Plain_isFreeFor_26 K _ _ _ _  h)
    · refine gk_iconst (pc := 16) K d_Plain_isFreeFor_16 kc_0 ?_
      exact gk_zretc (pc := 17) K d_Plain_isFreeFor_17 rfl (Or.inl rfl) h
theorem s_Plain_isFreeFor {l : Launch} {u : gk_U} (hD : gk_D tx u) {a1 : Int32} {a2 : Int32} {m0 mem2 : gk_M} {r : Int32} (h : f_Plain_isFreeFor a1 a2 m0 = some (r, mem2)) : gk_C tx l u me_Plain_isFreeFor 6 [.ref 7, .int a1, .int a2] m0 (some (.int r)) mem2 :=
  gk_enter hD mc_Plain_isFreeFor (Nat.le_of_ble_eq_true rfl) rfl (fun z _ _ K => s_Plain_isFreeFor_0 K _ _ _  h)
theorem d_Planner_freeInRow_0 : decode me_Planner_freeInRow.2.1 0 = .ok (.aload_n 0, 1) := by decide +kernel
theorem d_Planner_freeInRow_1 : decode me_Planner_freeInRow.2.1 1 = .ok (.getfield 25, 3) := by decide +kernel
theorem d_Planner_freeInRow_4 : decode me_Planner_freeInRow.2.1 4 = .ok (.getfield 29, 3) := by decide +kernel
theorem d_Planner_freeInRow_7 : decode me_Planner_freeInRow.2.1 7 = .ok (.istore 4, 2) := by decide +kernel
theorem d_Planner_freeInRow_9 : decode me_Planner_freeInRow.2.1 9 = .ok (.aload_n 0, 1) := by decide +kernel
theorem d_Planner_freeInRow_10 : decode me_Planner_freeInRow.2.1 10 = .ok (.getfield 25, 3) := by decide +kernel
theorem d_Planner_freeInRow_13 : decode me_Planner_freeInRow.2.1 13 = .ok (.iload 4, 2) := by decide +kernel
theorem d_Planner_freeInRow_15 : decode me_Planner_freeInRow.2.1 15 = .ok (.iload_n 2, 1) := by decide +kernel
theorem d_Planner_freeInRow_16 : decode me_Planner_freeInRow.2.1 16 = .ok (.invokevirtual 34, 3) := by decide +kernel
theorem d_Planner_freeInRow_19 : decode me_Planner_freeInRow.2.1 19 = .ok (.iconst 0, 1) := by decide +kernel
theorem d_Planner_freeInRow_20 : decode me_Planner_freeInRow.2.1 20 = .ok (.istore 5, 2) := by decide +kernel
theorem d_Planner_freeInRow_22 : decode me_Planner_freeInRow.2.1 22 = .ok (.iconst 0, 1) := by decide +kernel
theorem d_Planner_freeInRow_23 : decode me_Planner_freeInRow.2.1 23 = .ok (.istore 6, 2) := by decide +kernel
theorem d_Planner_freeInRow_25 : decode me_Planner_freeInRow.2.1 25 = .ok (.iload 6, 2) := by decide +kernel
theorem d_Planner_freeInRow_27 : decode me_Planner_freeInRow.2.1 27 = .ok (.bipush 30, 2) := by decide +kernel
theorem d_Planner_freeInRow_29 : decode me_Planner_freeInRow.2.1 29 = .ok (.if_icmp .ge 38, 3) := by decide +kernel
theorem d_Planner_freeInRow_32 : decode me_Planner_freeInRow.2.1 32 = .ok (.aload_n 0, 1) := by decide +kernel
theorem d_Planner_freeInRow_33 : decode me_Planner_freeInRow.2.1 33 = .ok (.getfield 25, 3) := by decide +kernel
theorem d_Planner_freeInRow_36 : decode me_Planner_freeInRow.2.1 36 = .ok (.iload 4, 2) := by decide +kernel
theorem d_Planner_freeInRow_38 : decode me_Planner_freeInRow.2.1 38 = .ok (.bipush 30, 2) := by decide +kernel
theorem d_Planner_freeInRow_40 : decode me_Planner_freeInRow.2.1 40 = .ok (.iload_n 1, 1) := by decide +kernel
theorem d_Planner_freeInRow_41 : decode me_Planner_freeInRow.2.1 41 = .ok (.imul, 1) := by decide +kernel
theorem d_Planner_freeInRow_42 : decode me_Planner_freeInRow.2.1 42 = .ok (.iload 6, 2) := by decide +kernel
theorem d_Planner_freeInRow_44 : decode me_Planner_freeInRow.2.1 44 = .ok (.iadd, 1) := by decide +kernel
theorem d_Planner_freeInRow_45 : decode me_Planner_freeInRow.2.1 45 = .ok (.invokevirtual 38, 3) := by decide +kernel
theorem d_Planner_freeInRow_48 : decode me_Planner_freeInRow.2.1 48 = .ok (.ifCond .eq 13, 3) := by decide +kernel
theorem d_Planner_freeInRow_51 : decode me_Planner_freeInRow.2.1 51 = .ok (.iload_n 3, 1) := by decide +kernel
theorem d_Planner_freeInRow_52 : decode me_Planner_freeInRow.2.1 52 = .ok (.ifCond .eq 6, 3) := by decide +kernel
theorem d_Planner_freeInRow_55 : decode me_Planner_freeInRow.2.1 55 = .ok (.iload 6, 2) := by decide +kernel
theorem d_Planner_freeInRow_57 : decode me_Planner_freeInRow.2.1 57 = .ok (.ireturn, 1) := by decide +kernel
theorem d_Planner_freeInRow_58 : decode me_Planner_freeInRow.2.1 58 = .ok (.iinc 5 1, 3) := by decide +kernel
theorem d_Planner_freeInRow_61 : decode me_Planner_freeInRow.2.1 61 = .ok (.iinc 6 1, 3) := by decide +kernel
theorem d_Planner_freeInRow_64 : decode me_Planner_freeInRow.2.1 64 = .ok (.goto (-39), 3) := by decide +kernel
theorem d_Planner_freeInRow_67 : decode me_Planner_freeInRow.2.1 67 = .ok (.iload_n 3, 1) := by decide +kernel
theorem d_Planner_freeInRow_68 : decode me_Planner_freeInRow.2.1 68 = .ok (.ifCond .eq 8, 3) := by decide +kernel
theorem d_Planner_freeInRow_71 : decode me_Planner_freeInRow.2.1 71 = .ok (.bipush (-2), 2) := by decide +kernel
theorem d_Planner_freeInRow_73 : decode me_Planner_freeInRow.2.1 73 = .ok (.goto 5, 3) := by decide +kernel
theorem d_Planner_freeInRow_76 : decode me_Planner_freeInRow.2.1 76 = .ok (.iload 5, 2) := by decide +kernel
theorem d_Planner_freeInRow_78 : decode me_Planner_freeInRow.2.1 78 = .ok (.ireturn, 1) := by decide +kernel
noncomputable def f_Planner_freeInRow_25  : Nat → Int32 → Int32 → Int32 → Int32 → Int32 → gk_M → Option (Int32 × gk_M)
  | 0, _, _, _, _, _, _ => none
  | n + 1, a1, a3, a4, a5, a6, m0 =>
    if 30 ≤ a6 then
      if a3 = 0 then
        some (a5, m0)
      else
        some ((-2), m0)
    else
      gk_bi (f_Plain_isFreeFor a4 ((30 * a1) + a6) m0) fun v2 m1 =>
      if v2 = 0 then
        f_Planner_freeInRow_25 n a1 a3 a4 a5 (a6 + 1) m1
      else
        if a3 = 0 then
          f_Planner_freeInRow_25 n a1 a3 a4 (a5 + 1) (a6 + 1) m1
        else
          some (a6, m1)

theorem s_Planner_freeInRow_25 {z : gk_Z} (K : gk_F tx z me_Planner_freeInRow 7) {r : Int32} {mem2 : gk_M} : ∀ n a1 a3 a4 a5 a6 m0, f_Planner_freeInRow_25 n a1 a3 a4 a5 a6 m0 = some (r, mem2) → gk_G tx z me_Planner_freeInRow (gk_R tx z (some (.int r)) mem2) m0 [(0, .ref 21), (1, .int a1), (3, .int a3), (4, .int a4), (5, .int a5), (6, .int a6)] [] 25 := by
  intro n
  induction n with
  | zero => intro a1 a3 a4 a5 a6 m0  h; exact nomatch (show (none : Option _) = some _ from h)
  | succ n ih =>
    intro a1 a3 a4 a5 a6 m0  h
    unfold f_Planner_freeInRow_25 at h
    refine gk_iload (pc := 25) K d_Planner_freeInRow_25 rfl ?_
    refine gk_bipush (pc := 27) K d_Planner_freeInRow_27 kb_30 ?_
    refine gk_ic_ge (tgt := 67) (pc := 29) K d_Planner_freeInRow_29 (by decide) h (fun h => ?_) (fun h => ?_)
    · refine gk_iload_n (pc := 67) K d_Planner_freeInRow_67 rfl ?_
      refine gk_if_eq (tgt := 76) (pc := 68) K d_Planner_freeInRow_68 (by decide) h (fun h => ?_) (fun h => ?_)
      · refine gk_iload (pc := 76) K d_Planner_freeInRow_76 rfl ?_
        exact gk_iret (pc := 78) K d_Planner_freeInRow_78 rfl h
      · refine gk_bipush (pc := 71) K d_Planner_freeInRow_71 kb_m2 ?_
        refine gk_goto (tgt := 78) (pc := 73) K d_Planner_freeInRow_73 (by decide) ?_
        exact gk_iret (pc := 78) K d_Planner_freeInRow_78 rfl h
    · refine gk_aload_n (pc := 32) K d_Planner_freeInRow_32 rfl ?_
      refine gk_get (pc := 33) K d_Planner_freeInRow_33 fl_Planner_25 tx_21 rfl rfl ?_
      refine gk_iload (pc := 36) K d_Planner_freeInRow_36 rfl ?_
      refine gk_bipush (pc := 38) K d_Planner_freeInRow_38 kb_30 ?_
      refine gk_iload_n (pc := 40) K d_Planner_freeInRow_40 rfl ?_
      refine gk_imul (pc := 41) K d_Planner_freeInRow_41 ?_
      refine gk_iload (pc := 42) K d_Planner_freeInRow_42 rfl ?_
      refine gk_iadd (pc := 44) K d_Planner_freeInRow_44 ?_
      obtain ⟨v2, m1, em1, h⟩ := gk_bi_some h
      refine gk_cVi (As := [.int a4, .int ((30 * a1) + a6)]) (pc := 45) K d_Planner_freeInRow_45 mv_Planner_38 mc_Plain_isFreeFor rfl tx_7 cl_ok2.1 (s_Plain_isFreeFor (gk_FD K)  em1) (by decide) rfl (Nat.le_of_ble_eq_true rfl) ?_
      refine gk_if_eq (tgt := 61) (pc := 48) K d_Planner_freeInRow_48 (by decide) h (fun h => ?_) (fun h => ?_)
      · refine gk_iinc2 (lv2 := [(6, .int (a6 + 1)), (0, .ref 21), (1, .int a1), (3, .int a3), (4, .int a4), (5, .int a5)]) (pc := 61) K d_Planner_freeInRow_61 rfl kc_1 (by decide) rfl ?_
        refine gk_goto (tgt := 25) (pc := 64) K d_Planner_freeInRow_64 (by decide) ?_
        exact gk_sub [1, 2, 3, 4, 5, 0] rfl (ih _ _ _ _ _ _  h)
      · refine gk_iload_n (pc := 51) K d_Planner_freeInRow_51 rfl ?_
        refine gk_if_eq (tgt := 58) (pc := 52) K d_Planner_freeInRow_52 (by decide) h (fun h => ?_) (fun h => ?_)
        · refine gk_iinc2 (lv2 := [(5, .int (a5 + 1)), (0, .ref 21), (1, .int a1), (3, .int a3), (4, .int a4), (6, .int a6)]) (pc := 58) K d_Planner_freeInRow_58 rfl kc_1 (by decide) rfl ?_
          refine gk_iinc2 (lv2 := [(6, .int (a6 + 1)), (5, .int (a5 + 1)), (0, .ref 21), (1, .int a1), (3, .int a3), (4, .int a4)]) (pc := 61) K d_Planner_freeInRow_61 rfl kc_1 (by decide) rfl ?_
          refine gk_goto (tgt := 25) (pc := 64) K d_Planner_freeInRow_64 (by decide) ?_
          exact gk_sub [2, 3, 4, 5, 1, 0] rfl (ih _ _ _ _ _ _  h)
        · refine gk_iload (pc := 55) K d_Planner_freeInRow_55 rfl ?_
          exact gk_iret (pc := 57) K d_Planner_freeInRow_57 rfl h
noncomputable def f_Planner_freeInRow  (a1 : Int32) (a2 : Int32) (a3 : Int32) (m0 : gk_M) : Option (Int32 × gk_M) :=
  gk_let (m0.1 7 5) fun v1 =>
  gk_bv (f_Plain_think v1 a2 m0) fun m2 =>
  f_Planner_freeInRow_25 gk_fv a1 a3 v1 0 0 m2

theorem s_Planner_freeInRow_0 {z : gk_Z} (K : gk_F tx z me_Planner_freeInRow 7) {r : Int32} {mem2 : gk_M} : ∀ a1 a2 a3 m0, f_Planner_freeInRow a1 a2 a3 m0 = some (r, mem2) → gk_G tx z me_Planner_freeInRow (gk_R tx z (some (.int r)) mem2) m0 [(0, .ref 21), (1, .int a1), (2, .int a2), (3, .int a3)] [] 0 := by
  intro a1 a2 a3 m0  h
  unfold f_Planner_freeInRow at h
  refine gk_aload_n (pc := 0) K d_Planner_freeInRow_0 rfl ?_
  refine gk_get (pc := 1) K d_Planner_freeInRow_1 fl_Planner_25 tx_21 rfl rfl ?_
  refine gk_get (pc := 4) K d_Planner_freeInRow_4 fl_Planner_29 tx_7 rfl rfl ?_
  refine gk_topi h (fun v1 h => ?_)
  refine gk_istore (lv2 := [(4, .int v1), (0, .ref 21), (1, .int a1), (2, .int a2), (3, .int a3)]) (pc := 7) K d_Planner_freeInRow_7 (by decide) rfl ?_
  refine gk_aload_n (pc := 9) K d_Planner_freeInRow_9 rfl ?_
  refine gk_get (pc := 10) K d_Planner_freeInRow_10 fl_Planner_25 tx_21 rfl rfl ?_
  refine gk_iload (pc := 13) K d_Planner_freeInRow_13 rfl ?_
  refine gk_iload_n (pc := 15) K d_Planner_freeInRow_15 rfl ?_
  obtain ⟨m2, em2, h⟩ := gk_bv_some h
  refine gk_cVv (As := [.int v1, .int a2]) (pc := 16) K d_Planner_freeInRow_16 mv_Planner_34 mc_Plain_think rfl tx_7 cl_ok2.1 (s_Plain_think (gk_FD K)  em2) (by decide) rfl (Nat.le_of_ble_eq_true rfl) ?_
  refine gk_iconst (pc := 19) K d_Planner_freeInRow_19 kc_0 ?_
  refine gk_istore (lv2 := [(5, .int 0), (4, .int v1), (0, .ref 21), (1, .int a1), (2, .int a2), (3, .int a3)]) (pc := 20) K d_Planner_freeInRow_20 (by decide) rfl ?_
  refine gk_iconst (pc := 22) K d_Planner_freeInRow_22 kc_0 ?_
  refine gk_istore (lv2 := [(6, .int 0), (5, .int 0), (4, .int v1), (0, .ref 21), (1, .int a1), (2, .int a2), (3, .int a3)]) (pc := 23) K d_Planner_freeInRow_23 (by decide) rfl ?_
  exact gk_sub [3, 4, 6, 2, 1, 0] rfl (s_Planner_freeInRow_25 K _ _ _ _ _ _ _  h)
theorem s_Planner_freeInRow {l : Launch} {u : gk_U} (hD : gk_D tx u) {a1 : Int32} {a2 : Int32} {a3 : Int32} {m0 mem2 : gk_M} {r : Int32} (h : f_Planner_freeInRow a1 a2 a3 m0 = some (r, mem2)) : gk_C tx l u me_Planner_freeInRow 7 [.ref 21, .int a1, .int a2, .int a3] m0 (some (.int r)) mem2 :=
  gk_enter hD mc_Planner_freeInRow (Nat.le_of_ble_eq_true rfl) rfl (fun z _ _ K => s_Planner_freeInRow_0 K _ _ _ _  h)
theorem d_X_free_0 : decode me_X_free.2.1 0 = .ok (.iload_n 1, 1) := by decide +kernel
theorem d_X_free_1 : decode me_X_free.2.1 1 = .ok (.ifCond .lt 24, 3) := by decide +kernel
theorem d_X_free_4 : decode me_X_free.2.1 4 = .ok (.iload_n 1, 1) := by decide +kernel
theorem d_X_free_5 : decode me_X_free.2.1 5 = .ok (.bipush 30, 2) := by decide +kernel
theorem d_X_free_7 : decode me_X_free.2.1 7 = .ok (.if_icmp .ge 18, 3) := by decide +kernel
theorem d_X_free_10 : decode me_X_free.2.1 10 = .ok (.iload_n 2, 1) := by decide +kernel
theorem d_X_free_11 : decode me_X_free.2.1 11 = .ok (.invokestatic 211, 3) := by decide +kernel
theorem d_X_free_14 : decode me_X_free.2.1 14 = .ok (.ifCond .eq 11, 3) := by decide +kernel
theorem d_X_free_17 : decode me_X_free.2.1 17 = .ok (.iload_n 3, 1) := by decide +kernel
theorem d_X_free_18 : decode me_X_free.2.1 18 = .ok (.iconst 1, 1) := by decide +kernel
theorem d_X_free_19 : decode me_X_free.2.1 19 = .ok (.invokestatic 180, 3) := by decide +kernel
theorem d_X_free_22 : decode me_X_free.2.1 22 = .ok (.ifCond .ne 5, 3) := by decide +kernel
theorem d_X_free_25 : decode me_X_free.2.1 25 = .ok (.iconst (-1), 1) := by decide +kernel
theorem d_X_free_26 : decode me_X_free.2.1 26 = .ok (.ireturn, 1) := by decide +kernel
theorem d_X_free_27 : decode me_X_free.2.1 27 = .ok (.aload_n 0, 1) := by decide +kernel
theorem d_X_free_28 : decode me_X_free.2.1 28 = .ok (.getfield 28, 3) := by decide +kernel
theorem d_X_free_31 : decode me_X_free.2.1 31 = .ok (.getfield 214, 3) := by decide +kernel
theorem d_X_free_34 : decode me_X_free.2.1 34 = .ok (.bipush 10, 2) := by decide +kernel
theorem d_X_free_36 : decode me_X_free.2.1 36 = .ok (.if_icmp .lt 6, 3) := by decide +kernel
theorem d_X_free_39 : decode me_X_free.2.1 39 = .ok (.bipush (-5), 2) := by decide +kernel
theorem d_X_free_41 : decode me_X_free.2.1 41 = .ok (.ireturn, 1) := by decide +kernel
theorem d_X_free_42 : decode me_X_free.2.1 42 = .ok (.aload_n 0, 1) := by decide +kernel
theorem d_X_free_43 : decode me_X_free.2.1 43 = .ok (.getfield 37, 3) := by decide +kernel
theorem d_X_free_46 : decode me_X_free.2.1 46 = .ok (.iload_n 1, 1) := by decide +kernel
theorem d_X_free_47 : decode me_X_free.2.1 47 = .ok (.iload_n 2, 1) := by decide +kernel
theorem d_X_free_48 : decode me_X_free.2.1 48 = .ok (.iload_n 3, 1) := by decide +kernel
theorem d_X_free_49 : decode me_X_free.2.1 49 = .ok (.iconst 1, 1) := by decide +kernel
theorem d_X_free_50 : decode me_X_free.2.1 50 = .ok (.if_icmp .ne 7, 3) := by decide +kernel
theorem d_X_free_53 : decode me_X_free.2.1 53 = .ok (.iconst 1, 1) := by decide +kernel
theorem d_X_free_54 : decode me_X_free.2.1 54 = .ok (.goto 4, 3) := by decide +kernel
theorem d_X_free_57 : decode me_X_free.2.1 57 = .ok (.iconst 0, 1) := by decide +kernel
theorem d_X_free_58 : decode me_X_free.2.1 58 = .ok (.invokevirtual 217, 3) := by decide +kernel
theorem d_X_free_61 : decode me_X_free.2.1 61 = .ok (.ireturn, 1) := by decide +kernel
noncomputable def f_X_free_58  (s1 : Int32) (s2 : Int32) (s3 : Int32) (m0 : gk_M) : Option (Int32 × gk_M) :=
  gk_bi (f_Planner_freeInRow s1 s2 s3 m0) fun v2 m1 =>
  some (v2, m1)

theorem s_X_free_58 {z : gk_Z} (K : gk_F tx z me_X_free 8) {r : Int32} {mem2 : gk_M} : ∀ s1 s2 s3 m0, f_X_free_58 s1 s2 s3 m0 = some (r, mem2) → gk_G tx z me_X_free (gk_R tx z (some (.int r)) mem2) m0 [] [.int s3, .int s2, .int s1, .ref 21] 58 := by
  intro s1 s2 s3 m0  h
  unfold f_X_free_58 at h
  obtain ⟨v2, m1, em1, h⟩ := gk_bi_some h
  refine gk_cVi (As := [.int s1, .int s2, .int s3]) (pc := 58) K d_X_free_58 mv_X_217 mc_Planner_freeInRow rfl tx_21 cl_ok3.1 (s_Planner_freeInRow (gk_FD K)  em1) (by decide) rfl (Nat.le_of_ble_eq_true rfl) ?_
  exact gk_iret (pc := 61) K d_X_free_61 rfl h
noncomputable def f_X_free  (a1 : Int32) (a2 : Int32) (a3 : Int32) (m0 : gk_M) : Option (Int32 × gk_M) :=
  if a1 < 0 then
    some ((-1), m0)
  else
    if 30 ≤ a1 then
      some ((-1), m0)
    else
      gk_bi (f_X_isHeight a2 m0) fun v2 m1 =>
      if v2 = 0 then
        some ((-1), m1)
      else
        gk_bi (f_X_isChoice a3 1 m1) fun v4 m3 =>
        if ¬ v4 = 0 then
          if (m3.1 7 5) < 10 then
            if ¬ a3 = 1 then
              f_X_free_58 a1 a2 0 m3
            else
              f_X_free_58 a1 a2 1 m3
          else
            some ((-5), m3)
        else
          some ((-1), m3)

theorem s_X_free_0 {z : gk_Z} (K : gk_F tx z me_X_free 8) {r : Int32} {mem2 : gk_M} : ∀ a1 a2 a3 m0, f_X_free a1 a2 a3 m0 = some (r, mem2) → gk_G tx z me_X_free (gk_R tx z (some (.int r)) mem2) m0 [(0, .ref 0), (1, .int a1), (2, .int a2), (3, .int a3)] [] 0 := by
  intro a1 a2 a3 m0  h
  unfold f_X_free at h
  refine gk_iload_n (pc := 0) K d_X_free_0 rfl ?_
  refine gk_if_lt (tgt := 25) (pc := 1) K d_X_free_1 (by decide) h (fun h => ?_) (fun h => ?_)
  · refine gk_iconst (pc := 25) K d_X_free_25 kc_m1 ?_
    exact gk_iret (pc := 26) K d_X_free_26 rfl h
  · refine gk_iload_n (pc := 4) K d_X_free_4 rfl ?_
    refine gk_bipush (pc := 5) K d_X_free_5 kb_30 ?_
    refine gk_ic_ge (tgt := 25) (pc := 7) K d_X_free_7 (by decide) h (fun h => ?_) (fun h => ?_)
    · refine gk_iconst (pc := 25) K d_X_free_25 kc_m1 ?_
      exact gk_iret (pc := 26) K d_X_free_26 rfl h
    · refine gk_iload_n (pc := 10) K d_X_free_10 rfl ?_
      obtain ⟨v2, m1, em1, h⟩ := gk_bi_some h
      refine gk_cSi (As := [.int a2]) (pc := 11) K d_X_free_11 ms_X_211 mc_X_isHeight rfl (s_X_isHeight (gk_FD K)  em1) (by decide) rfl (Nat.le_of_ble_eq_true rfl) ?_
      refine gk_if_eq (tgt := 25) (pc := 14) K d_X_free_14 (by decide) h (fun h => ?_) (fun h => ?_)
      · refine gk_iconst (pc := 25) K d_X_free_25 kc_m1 ?_
        exact gk_iret (pc := 26) K d_X_free_26 rfl h
      · refine gk_iload_n (pc := 17) K d_X_free_17 rfl ?_
        refine gk_iconst (pc := 18) K d_X_free_18 kc_1 ?_
        obtain ⟨v4, m3, em3, h⟩ := gk_bi_some h
        refine gk_cSi (As := [.int a3, .int 1]) (pc := 19) K d_X_free_19 ms_X_180 mc_X_isChoice rfl (s_X_isChoice (gk_FD K)  em3) (by decide) rfl (Nat.le_of_ble_eq_true rfl) ?_
        refine gk_if_ne (tgt := 27) (pc := 22) K d_X_free_22 (by decide) h (fun h => ?_) (fun h => ?_)
        · refine gk_aload_n (pc := 27) K d_X_free_27 rfl ?_
          refine gk_get (pc := 28) K d_X_free_28 fl_X_28 tx_0 rfl rfl ?_
          refine gk_get (pc := 31) K d_X_free_31 fl_X_214 tx_7 rfl rfl ?_
          refine gk_bipush (pc := 34) K d_X_free_34 kb_10 ?_
          refine gk_ic_lt (tgt := 42) (pc := 36) K d_X_free_36 (by decide) h (fun h => ?_) (fun h => ?_)
          · refine gk_aload_n (pc := 42) K d_X_free_42 rfl ?_
            refine gk_get (pc := 43) K d_X_free_43 fl_X_37 tx_0 rfl rfl ?_
            refine gk_iload_n (pc := 46) K d_X_free_46 rfl ?_
            refine gk_iload_n (pc := 47) K d_X_free_47 rfl ?_
            refine gk_iload_n (pc := 48) K d_X_free_48 rfl ?_
            refine gk_iconst (pc := 49) K d_X_free_49 kc_1 ?_
            refine gk_ic_ne (tgt := 57) (pc := 50) K d_X_free_50 (by decide) h (fun h => ?_) (fun h => ?_)
            · refine gk_iconst (pc := 57) K d_X_free_57 kc_0 ?_
              exact gk_sub [] rfl (s_X_free_58 K _ _ _ _  h)
            · refine gk_iconst (pc := 53) K d_X_free_53 kc_1 ?_
              refine gk_goto (tgt := 58) (pc := 54) K d_X_free_54 (by decide) ?_
              exact gk_sub [] rfl (s_X_free_58 K _ _ _ _  h)
          · refine gk_bipush (pc := 39) K d_X_free_39 kb_m5 ?_
            exact gk_iret (pc := 41) K d_X_free_41 rfl h
        · refine gk_iconst (pc := 25) K d_X_free_25 kc_m1 ?_
          exact gk_iret (pc := 26) K d_X_free_26 rfl h
theorem s_X_free {l : Launch} {u : gk_U} (hD : gk_D tx u) {a1 : Int32} {a2 : Int32} {a3 : Int32} {m0 mem2 : gk_M} {r : Int32} (h : f_X_free a1 a2 a3 m0 = some (r, mem2)) : gk_C tx l u me_X_free 8 [.ref 0, .int a1, .int a2, .int a3] m0 (some (.int r)) mem2 :=
  gk_enter hD mc_X_free (Nat.le_of_ble_eq_true rfl) rfl (fun z _ _ K => s_X_free_0 K _ _ _ _  h)
