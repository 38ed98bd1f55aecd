theorem d_M_feed_0 : decode me_M_feed.2.1 0 = .ok (.iload_n 1, 1) := by decide +kernel
theorem d_M_feed_1 : decode me_M_feed.2.1 1 = .ok (.i2l, 1) := by decide +kernel
theorem d_M_feed_2 : decode me_M_feed.2.1 2 = .ok (.lconst 0, 1) := by decide +kernel
theorem d_M_feed_3 : decode me_M_feed.2.1 3 = .ok (.ldc2_w 155, 3) := by decide +kernel
theorem d_M_feed_6 : decode me_M_feed.2.1 6 = .ok (.invokestatic 102, 3) := by decide +kernel
theorem d_M_feed_9 : decode me_M_feed.2.1 9 = .ok (.ifCond .ne 5, 3) := by decide +kernel
theorem d_M_feed_12 : decode me_M_feed.2.1 12 = .ok (.iconst (-1), 1) := by decide +kernel
theorem d_M_feed_13 : decode me_M_feed.2.1 13 = .ok (.ireturn, 1) := by decide +kernel
theorem d_M_feed_14 : decode me_M_feed.2.1 14 = .ok (.aload_n 0, 1) := by decide +kernel
theorem d_M_feed_15 : decode me_M_feed.2.1 15 = .ok (.getfield 157, 3) := by decide +kernel
theorem d_M_feed_18 : decode me_M_feed.2.1 18 = .ok (.bipush 120, 2) := by decide +kernel
theorem d_M_feed_20 : decode me_M_feed.2.1 20 = .ok (.if_icmp .ne 6, 3) := by decide +kernel
theorem d_M_feed_23 : decode me_M_feed.2.1 23 = .ok (.bipush (-3), 2) := by decide +kernel
theorem d_M_feed_25 : decode me_M_feed.2.1 25 = .ok (.ireturn, 1) := by decide +kernel
theorem d_M_feed_26 : decode me_M_feed.2.1 26 = .ok (.aload_n 0, 1) := by decide +kernel
theorem d_M_feed_27 : decode me_M_feed.2.1 27 = .ok (.getfield 40, 3) := by decide +kernel
theorem d_M_feed_30 : decode me_M_feed.2.1 30 = .ok (.aload_n 0, 1) := by decide +kernel
theorem d_M_feed_31 : decode me_M_feed.2.1 31 = .ok (.getfield 157, 3) := by decide +kernel
theorem d_M_feed_34 : decode me_M_feed.2.1 34 = .ok (.iload_n 1, 1) := by decide +kernel
theorem d_M_feed_35 : decode me_M_feed.2.1 35 = .ok (.iastore, 1) := by decide +kernel
theorem d_M_feed_36 : decode me_M_feed.2.1 36 = .ok (.aload_n 0, 1) := by decide +kernel
theorem d_M_feed_37 : decode me_M_feed.2.1 37 = .ok (.dup, 1) := by decide +kernel
theorem d_M_feed_38 : decode me_M_feed.2.1 38 = .ok (.getfield 157, 3) := by decide +kernel
theorem d_M_feed_41 : decode me_M_feed.2.1 41 = .ok (.iconst 1, 1) := by decide +kernel
theorem d_M_feed_42 : decode me_M_feed.2.1 42 = .ok (.iadd, 1) := by decide +kernel
theorem d_M_feed_43 : decode me_M_feed.2.1 43 = .ok (.putfield 157, 3) := by decide +kernel
theorem d_M_feed_46 : decode me_M_feed.2.1 46 = .ok (.aload_n 0, 1) := by decide +kernel
theorem d_M_feed_47 : decode me_M_feed.2.1 47 = .ok (.getfield 157, 3) := by decide +kernel
theorem d_M_feed_50 : decode me_M_feed.2.1 50 = .ok (.ireturn, 1) := by decide +kernel
noncomputable def f_M_feed  (a1 : Int32) (m0 : gk_M) : Option (Int32 × gk_M) :=
  gk_bi (f_M_within a1.toInt64 0 255 m0) fun v2 m1 =>
  if ¬ v2 = 0 then
    if ¬ (m1.1 0 16) = 120 then
      gk_si m1 11 120 (m1.1 0 16) a1 fun m3 =>
      gk_let (gk_mi m3 0 16 ((m3.1 0 16) + 1)) fun m4 =>
      some ((m4.1 0 16), m4)
    else
      some ((-3), m1)
  else
    some ((-1), m1)

theorem s_M_feed_0 {z : gk_Z} (K : gk_F tm z me_M_feed 2) {r : Int32} {mem2 : gk_M} : ∀ a1 m0, f_M_feed a1 m0 = some (r, mem2) → gk_G tm z me_M_feed (gk_R tm z (some (.int r)) mem2) m0 [(0, .ref 0), (1, .int a1)] [] 0 := by
  intro a1 m0  h
  unfold f_M_feed at h
  refine gk_iload_n (pc := 0) K d_M_feed_0 rfl ?_
  refine gk_i2l (pc := 1) K d_M_feed_1 ?_
  refine gk_lconst (pc := 2) K d_M_feed_2 kl_0 ?_
  refine gk_ldc2 (pc := 3) K d_M_feed_3 lc_M_155 ?_
  obtain ⟨v2, m1, em1, h⟩ := gk_bi_some h
  refine gk_cSi (As := [.long a1.toInt64, .long 0, .long 255]) (pc := 6) K d_M_feed_6 ms_M_102 mc_M_within rfl (s_M_within (gk_FD K)  em1) (by decide) rfl (Nat.le_of_ble_eq_true rfl) ?_
  refine gk_if_ne (tgt := 14) (pc := 9) K d_M_feed_9 (by decide) h (fun h => ?_) (fun h => ?_)
  · refine gk_aload_n (pc := 14) K d_M_feed_14 rfl ?_
    refine gk_get (pc := 15) K d_M_feed_15 fl_M_157 tm_0 rfl rfl ?_
    refine gk_bipush (pc := 18) K d_M_feed_18 kb_120 ?_
    refine gk_ic_ne (tgt := 26) (pc := 20) K d_M_feed_20 (by decide) h (fun h => ?_) (fun h => ?_)
    · refine gk_aload_n (pc := 26) K d_M_feed_26 rfl ?_
      refine gk_get (pc := 27) K d_M_feed_27 fl_M_40 tm_0 rfl rfl ?_
      refine gk_aload_n (pc := 30) K d_M_feed_30 rfl ?_
      refine gk_get (pc := 31) K d_M_feed_31 fl_M_157 tm_0 rfl rfl ?_
      refine gk_iload_n (pc := 34) K d_M_feed_34 rfl ?_
      refine gk_iast (pc := 35) K d_M_feed_35 tm_11 h (fun m3 h => ?_)
      refine gk_aload_n (pc := 36) K d_M_feed_36 rfl ?_
      refine gk_dup (pc := 37) K d_M_feed_37 rfl ?_
      refine gk_get (pc := 38) K d_M_feed_38 fl_M_157 tm_0 rfl rfl ?_
      refine gk_iconst (pc := 41) K d_M_feed_41 kc_1 ?_
      refine gk_iadd (pc := 42) K d_M_feed_42 ?_
      refine gk_puti (pc := 43) K d_M_feed_43 fp_M_157 tm_0 rfl h (fun m4 h => ?_)
      refine gk_aload_n (pc := 46) K d_M_feed_46 rfl ?_
      refine gk_get (pc := 47) K d_M_feed_47 fl_M_157 tm_0 rfl rfl ?_
      exact gk_iret (pc := 50) K d_M_feed_50 rfl h
    · refine gk_bipush (pc := 23) K d_M_feed_23 kb_m3 ?_
      exact gk_iret (pc := 25) K d_M_feed_25 rfl h
  · refine gk_iconst (pc := 12) K d_M_feed_12 kc_m1 ?_
    exact gk_iret (pc := 13) K d_M_feed_13 rfl h
theorem s_M_feed {l : Launch} {u : gk_U} (hD : gk_D tm u) {a1 : Int32} {m0 mem2 : gk_M} {r : Int32} (h : f_M_feed a1 m0 = some (r, mem2)) : gk_C tm l u me_M_feed 2 [.ref 0, .int a1] m0 (some (.int r)) mem2 :=
  gk_enter hD mc_M_feed (Nat.le_of_ble_eq_true rfl) rfl (fun z _ _ K => s_M_feed_0 K _ _  h)
theorem d_M_byteAt_0 : decode me_M_byteAt.2.1 0 = .ok (.aload_n 0, 1) := by decide +kernel
theorem d_M_byteAt_1 : decode me_M_byteAt.2.1 1 = .ok (.getfield 160, 3) := by decide +kernel
theorem d_M_byteAt_4 : decode me_M_byteAt.2.1 4 = .ok (.aload_n 0, 1) := by decide +kernel
theorem d_M_byteAt_5 : decode me_M_byteAt.2.1 5 = .ok (.getfield 163, 3) := by decide +kernel
theorem d_M_byteAt_8 : decode me_M_byteAt.2.1 8 = .ok (.if_icmp .ge 39, 3) := by decide +kernel
theorem d_M_byteAt_11 : decode me_M_byteAt.2.1 11 = .ok (.aload_n 0, 1) := by decide +kernel
theorem d_M_byteAt_12 : decode me_M_byteAt.2.1 12 = .ok (.getfield 166, 3) := by decide +kernel
theorem d_M_byteAt_15 : decode me_M_byteAt.2.1 15 = .ok (.ifCond .ge 15, 3) := by decide +kernel
theorem d_M_byteAt_18 : decode me_M_byteAt.2.1 18 = .ok (.aload_n 0, 1) := by decide +kernel
theorem d_M_byteAt_19 : decode me_M_byteAt.2.1 19 = .ok (.getfield 40, 3) := by decide +kernel
theorem d_M_byteAt_22 : decode me_M_byteAt.2.1 22 = .ok (.aload_n 0, 1) := by decide +kernel
theorem d_M_byteAt_23 : decode me_M_byteAt.2.1 23 = .ok (.getfield 160, 3) := by decide +kernel
theorem d_M_byteAt_26 : decode me_M_byteAt.2.1 26 = .ok (.iaload, 1) := by decide +kernel
theorem d_M_byteAt_27 : decode me_M_byteAt.2.1 27 = .ok (.goto 21, 3) := by decide +kernel
theorem d_M_byteAt_30 : decode me_M_byteAt.2.1 30 = .ok (.aload_n 0, 1) := by decide +kernel
theorem d_M_byteAt_31 : decode me_M_byteAt.2.1 31 = .ok (.getfield 43, 3) := by decide +kernel
theorem d_M_byteAt_34 : decode me_M_byteAt.2.1 34 = .ok (.aload_n 0, 1) := by decide +kernel
theorem d_M_byteAt_35 : decode me_M_byteAt.2.1 35 = .ok (.getfield 166, 3) := by decide +kernel
theorem d_M_byteAt_38 : decode me_M_byteAt.2.1 38 = .ok (.aload_n 0, 1) := by decide +kernel
theorem d_M_byteAt_39 : decode me_M_byteAt.2.1 39 = .ok (.getfield 160, 3) := by decide +kernel
theorem d_M_byteAt_42 : decode me_M_byteAt.2.1 42 = .ok (.iadd, 1) := by decide +kernel
theorem d_M_byteAt_43 : decode me_M_byteAt.2.1 43 = .ok (.iaload, 1) := by decide +kernel
theorem d_M_byteAt_44 : decode me_M_byteAt.2.1 44 = .ok (.goto 4, 3) := by decide +kernel
theorem d_M_byteAt_47 : decode me_M_byteAt.2.1 47 = .ok (.iconst 0, 1) := by decide +kernel
theorem d_M_byteAt_48 : decode me_M_byteAt.2.1 48 = .ok (.ireturn, 1) := by decide +kernel
noncomputable def f_M_byteAt   (m0 : gk_M) : Option (Int32 × gk_M) :=
  if (m0.1 0 21) ≤ (m0.1 0 20) then
    some (0, m0)
  else
    if 0 ≤ (m0.1 0 19) then
      gk_ai m0 12 120 ((m0.1 0 19) + (m0.1 0 20)) fun v1 =>
      some (v1, m0)
    else
      gk_ai m0 11 120 (m0.1 0 20) fun v2 =>
      some (v2, m0)

theorem s_M_byteAt_0 {z : gk_Z} (K : gk_F tm z me_M_byteAt 1) {r : Int32} {mem2 : gk_M} : ∀  m0, f_M_byteAt  m0 = some (r, mem2) → gk_G tm z me_M_byteAt (gk_R tm z (some (.int r)) mem2) m0 [(0, .ref 0)] [] 0 := by
  intro  m0  h
  unfold f_M_byteAt at h
  refine gk_aload_n (pc := 0) K d_M_byteAt_0 rfl ?_
  refine gk_get (pc := 1) K d_M_byteAt_1 fl_M_160 tm_0 rfl rfl ?_
  refine gk_aload_n (pc := 4) K d_M_byteAt_4 rfl ?_
  refine gk_get (pc := 5) K d_M_byteAt_5 fl_M_163 tm_0 rfl rfl ?_
  refine gk_ic_ge (tgt := 47) (pc := 8) K d_M_byteAt_8 (by decide) h (fun h => ?_) (fun h => ?_)
  · refine gk_iconst (pc := 47) K d_M_byteAt_47 kc_0 ?_
    exact gk_iret (pc := 48) K d_M_byteAt_48 rfl h
  · refine gk_aload_n (pc := 11) K d_M_byteAt_11 rfl ?_
    refine gk_get (pc := 12) K d_M_byteAt_12 fl_M_166 tm_0 rfl rfl ?_
    refine gk_if_ge (tgt := 30) (pc := 15) K d_M_byteAt_15 (by decide) h (fun h => ?_) (fun h => ?_)
    · refine gk_aload_n (pc := 30) K d_M_byteAt_30 rfl ?_
      refine gk_get (pc := 31) K d_M_byteAt_31 fl_M_43 tm_0 rfl rfl ?_
      refine gk_aload_n (pc := 34) K d_M_byteAt_34 rfl ?_
      refine gk_get (pc := 35) K d_M_byteAt_35 fl_M_166 tm_0 rfl rfl ?_
      refine gk_aload_n (pc := 38) K d_M_byteAt_38 rfl ?_
      refine gk_get (pc := 39) K d_M_byteAt_39 fl_M_160 tm_0 rfl rfl ?_
      refine gk_iadd (pc := 42) K d_M_byteAt_42 ?_
      refine gk_iald (pc := 43) K d_M_byteAt_43 tm_12 h (fun v1 h => ?_)
      refine gk_goto (tgt := 48) (pc := 44) K d_M_byteAt_44 (by decide) ?_
      exact gk_iret (pc := 48) K d_M_byteAt_48 rfl h
    · refine gk_aload_n (pc := 18) K d_M_byteAt_18 rfl ?_
      refine gk_get (pc := 19) K d_M_byteAt_19 fl_M_40 tm_0 rfl rfl ?_
      refine gk_aload_n (pc := 22) K d_M_byteAt_22 rfl ?_
      refine gk_get (pc := 23) K d_M_byteAt_23 fl_M_160 tm_0 rfl rfl ?_
      refine gk_iald (pc := 26) K d_M_byteAt_26 tm_11 h (fun v2 h => ?_)
      refine gk_goto (tgt := 48) (pc := 27) K d_M_byteAt_27 (by decide) ?_
      exact gk_iret (pc := 48) K d_M_byteAt_48 rfl h
theorem s_M_byteAt {l : Launch} {u : gk_U} (hD : gk_D tm u) {m0 mem2 : gk_M} {r : Int32} (h : f_M_byteAt  m0 = some (r, mem2)) : gk_C tm l u me_M_byteAt 1 [.ref 0] m0 (some (.int r)) mem2 :=
  gk_enter hD mc_M_byteAt (Nat.le_of_ble_eq_true rfl) rfl (fun z _ _ K => s_M_byteAt_0 K  _  h)
theorem d_M_wrong_0 : decode me_M_wrong.2.1 0 = .ok (.aload_n 0, 1) := by decide +kernel
theorem d_M_wrong_1 : decode me_M_wrong.2.1 1 = .ok (.aload_n 0, 1) := by decide +kernel
theorem d_M_wrong_2 : decode me_M_wrong.2.1 2 = .ok (.getfield 169, 3) := by decide +kernel
theorem d_M_wrong_5 : decode me_M_wrong.2.1 5 = .ok (.ifCond .ge 10, 3) := by decide +kernel
theorem d_M_wrong_8 : decode me_M_wrong.2.1 8 = .ok (.aload_n 0, 1) := by decide +kernel
theorem d_M_wrong_9 : decode me_M_wrong.2.1 9 = .ok (.getfield 160, 3) := by decide +kernel
theorem d_M_wrong_12 : decode me_M_wrong.2.1 12 = .ok (.goto 7, 3) := by decide +kernel
theorem d_M_wrong_15 : decode me_M_wrong.2.1 15 = .ok (.aload_n 0, 1) := by decide +kernel
theorem d_M_wrong_16 : decode me_M_wrong.2.1 16 = .ok (.getfield 169, 3) := by decide +kernel
theorem d_M_wrong_19 : decode me_M_wrong.2.1 19 = .ok (.putfield 169, 3) := by decide +kernel
theorem d_M_wrong_22 : decode me_M_wrong.2.1 22 = .ok (.iconst 0, 1) := by decide +kernel
theorem d_M_wrong_23 : decode me_M_wrong.2.1 23 = .ok (.ireturn, 1) := by decide +kernel
noncomputable def f_M_wrong_19  (s1 : Int32) (m0 : gk_M) : Option (Int32 × gk_M) :=
  gk_let (gk_mi m0 0 22 s1) fun m1 =>
  some (0, m1)

theorem s_M_wrong_19 {z : gk_Z} (K : gk_F tm z me_M_wrong 1) {r : Int32} {mem2 : gk_M} : ∀ s1 m0, f_M_wrong_19 s1 m0 = some (r, mem2) → gk_G tm z me_M_wrong (gk_R tm z (some (.int r)) mem2) m0 [] [.int s1, .ref 0] 19 := by
  intro s1 m0  h
  unfold f_M_wrong_19 at h
  refine gk_puti (pc := 19) K d_M_wrong_19 fp_M_169 tm_0 rfl h (fun m1 h => ?_)
  refine gk_iconst (pc := 22) K d_M_wrong_22 kc_0 ?_
  exact gk_iret (pc := 23) K d_M_wrong_23 rfl h
noncomputable def f_M_wrong   (m0 : gk_M) : Option (Int32 × gk_M) :=
  if 0 ≤ (m0.1 0 22) then
    f_M_wrong_19 (m0.1 0 22) m0
  else
    f_M_wrong_19 (m0.1 0 20) m0

theorem s_M_wrong_0 {z : gk_Z} (K : gk_F tm z me_M_wrong 1) {r : Int32} {mem2 : gk_M} : ∀  m0, f_M_wrong  m0 = some (r, mem2) → gk_G tm z me_M_wrong (gk_R tm z (some (.int r)) mem2) m0 [(0, .ref 0)] [] 0 := by
  intro  m0  h
  unfold f_M_wrong at h
  refine gk_aload_n (pc := 0) K d_M_wrong_0 rfl ?_
  refine gk_aload_n (pc := 1) K d_M_wrong_1 rfl ?_
  refine gk_get (pc := 2) K d_M_wrong_2 fl_M_169 tm_0 rfl rfl ?_
  refine gk_if_ge (tgt := 15) (pc := 5) K d_M_wrong_5 (by decide) h (fun h => ?_) (fun h => ?_)
  · refine gk_aload_n (pc := 15) K d_M_wrong_15 rfl ?_
    refine gk_get (pc := 16) K d_M_wrong_16 fl_M_169 tm_0 rfl rfl ?_
    exact gk_sub [] rfl (s_M_wrong_19 K _ _  h)
  · refine gk_aload_n (pc := 8) K d_M_wrong_8 rfl ?_
    refine gk_get (pc := 9) K d_M_wrong_9 fl_M_160 tm_0 rfl rfl ?_
    refine gk_goto (tgt := 19) (pc := 12) K d_M_wrong_12 (by decide) ?_
    exact gk_sub [] rfl (s_M_wrong_19 K _ _  h)
theorem s_M_wrong {l : Launch} {u : gk_U} (hD : gk_D tm u) {m0 mem2 : gk_M} {r : Int32} (h : f_M_wrong  m0 = some (r, mem2)) : gk_C tm l u me_M_wrong 1 [.ref 0] m0 (some (.int r)) mem2 :=
  gk_enter hD mc_M_wrong (Nat.le_of_ble_eq_true rfl) rfl (fun z _ _ K => s_M_wrong_0 K  _  h)
theorem d_M_takes_0 : decode me_M_takes.2.1 0 = .ok (.aload_n 0, 1) := by decide +kernel
theorem d_M_takes_1 : decode me_M_takes.2.1 1 = .ok (.getfield 169, 3) := by decide +kernel
theorem d_M_takes_4 : decode me_M_takes.2.1 4 = .ok (.ifCond .ge 11, 3) := by decide +kernel
theorem d_M_takes_7 : decode me_M_takes.2.1 7 = .ok (.aload_n 0, 1) := by decide +kernel
theorem d_M_takes_8 : decode me_M_takes.2.1 8 = .ok (.invokevirtual 172, 3) := by decide +kernel
theorem d_M_takes_11 : decode me_M_takes.2.1 11 = .ok (.iload_n 1, 1) := by decide +kernel
theorem d_M_takes_12 : decode me_M_takes.2.1 12 = .ok (.if_icmp .eq 5, 3) := by decide +kernel
theorem d_M_takes_15 : decode me_M_takes.2.1 15 = .ok (.iconst 0, 1) := by decide +kernel
theorem d_M_takes_16 : decode me_M_takes.2.1 16 = .ok (.ireturn, 1) := by decide +kernel
theorem d_M_takes_17 : decode me_M_takes.2.1 17 = .ok (.aload_n 0, 1) := by decide +kernel
theorem d_M_takes_18 : decode me_M_takes.2.1 18 = .ok (.dup, 1) := by decide +kernel
theorem d_M_takes_19 : decode me_M_takes.2.1 19 = .ok (.getfield 160, 3) := by decide +kernel
theorem d_M_takes_22 : decode me_M_takes.2.1 22 = .ok (.iconst 1, 1) := by decide +kernel
theorem d_M_takes_23 : decode me_M_takes.2.1 23 = .ok (.iadd, 1) := by decide +kernel
theorem d_M_takes_24 : decode me_M_takes.2.1 24 = .ok (.putfield 160, 3) := by decide +kernel
theorem d_M_takes_27 : decode me_M_takes.2.1 27 = .ok (.iconst 1, 1) := by decide +kernel
theorem d_M_takes_28 : decode me_M_takes.2.1 28 = .ok (.ireturn, 1) := by decide +kernel
noncomputable def f_M_takes  (a1 : Int32) (m0 : gk_M) : Option (Int32 × gk_M) :=
  if 0 ≤ (m0.1 0 22) then
    some (0, m0)
  else
    gk_bi (f_M_byteAt  m0) fun v2 m1 =>
    if v2 = a1 then
      gk_let (gk_mi m1 0 20 ((m1.1 0 20) + 1)) fun m3 =>
      some (1, m3)
    else
      some (0, m1)

theorem s_M_takes_0 {z : gk_Z} (K : gk_F tm z me_M_takes 2) {r : Int32} {mem2 : gk_M} : ∀ a1 m0, f_M_takes a1 m0 = some (r, mem2) → gk_G tm z me_M_takes (gk_R tm z (some (.int r)) mem2) m0 [(0, .ref 0), (1, .int a1)] [] 0 := by
  intro a1 m0  h
  unfold f_M_takes at h
  refine gk_aload_n (pc := 0) K d_M_takes_0 rfl ?_
  refine gk_get (pc := 1) K d_M_takes_1 fl_M_169 tm_0 rfl rfl ?_
  refine gk_if_ge (tgt := 15) (pc := 4) K d_M_takes_4 (by decide) h (fun h => ?_) (fun h => ?_)
  · refine gk_iconst (pc := 15) K d_M_takes_15 kc_0 ?_
    exact gk_zretc (pc := 16) K d_M_takes_16 rfl (Or.inl rfl) h
  · refine gk_aload_n (pc := 7) K d_M_takes_7 rfl ?_
    obtain ⟨v2, m1, em1, h⟩ := gk_bi_some h
    refine gk_cVi (As := []) (pc := 8) K d_M_takes_8 mv_M_172 mc_M_byteAt rfl tm_0 cl_ok10.1 (s_M_byteAt (gk_FD K)  em1) (by decide) rfl (Nat.le_of_ble_eq_true rfl) ?_
    refine gk_iload_n (pc := 11) K d_M_takes_11 rfl ?_
    refine gk_ic_eq (tgt := 17) (pc := 12) K d_M_takes_12 (by decide) h (fun h => ?_) (fun h => ?_)
    · refine gk_aload_n (pc := 17) K d_M_takes_17 rfl ?_
      refine gk_dup (pc := 18) K d_M_takes_18 rfl ?_
      refine gk_get (pc := 19) K d_M_takes_19 fl_M_160 tm_0 rfl rfl ?_
      refine gk_iconst (pc := 22) K d_M_takes_22 kc_1 ?_
      refine gk_iadd (pc := 23) K d_M_takes_23 ?_
      refine gk_puti (pc := 24) K d_M_takes_24 fp_M_160 tm_0 rfl h (fun m3 h => ?_)
      refine gk_iconst (pc := 27) K d_M_takes_27 kc_1 ?_
      exact gk_zretc (pc := 28) K d_M_takes_28 rfl (Or.inr rfl) h
    · refine gk_iconst (pc := 15) K d_M_takes_15 kc_0 ?_
      exact gk_zretc (pc := 16) K d_M_takes_16 rfl (Or.inl rfl) h
theorem s_M_takes {l : Launch} {u : gk_U} (hD : gk_D tm u) {a1 : Int32} {m0 mem2 : gk_M} {r : Int32} (h : f_M_takes a1 m0 = some (r, mem2)) : gk_C tm l u me_M_takes 2 [.ref 0, .int a1] m0 (some (.int r)) mem2 :=
  gk_enter hD mc_M_takes (Nat.le_of_ble_eq_true rfl) rfl (fun z _ _ K => s_M_takes_0 K _ _  h)
theorem d_M_nameOf_0 : decode me_M_nameOf.2.1 0 = .ok (.iload_n 0, 1) := by decide +kernel
theorem d_M_nameOf_1 : decode me_M_nameOf.2.1 1 = .ok (.tableswitch 87 97 111 #[75, 77, 87, 87, 87, 87, 87, 87, 87, 87, 81, 87, 85, 83, 79], 75) := by decide +kernel
theorem d_M_nameOf_76 : decode me_M_nameOf.2.1 76 = .ok (.iconst 0, 1) := by decide +kernel
theorem d_M_nameOf_77 : decode me_M_nameOf.2.1 77 = .ok (.ireturn, 1) := by decide +kernel
theorem d_M_nameOf_78 : decode me_M_nameOf.2.1 78 = .ok (.iconst 1, 1) := by decide +kernel
theorem d_M_nameOf_79 : decode me_M_nameOf.2.1 79 = .ok (.ireturn, 1) := by decide +kernel
theorem d_M_nameOf_80 : decode me_M_nameOf.2.1 80 = .ok (.iconst 2, 1) := by decide +kernel
theorem d_M_nameOf_81 : decode me_M_nameOf.2.1 81 = .ok (.ireturn, 1) := by decide +kernel
theorem d_M_nameOf_82 : decode me_M_nameOf.2.1 82 = .ok (.iconst 3, 1) := by decide +kernel
theorem d_M_nameOf_83 : decode me_M_nameOf.2.1 83 = .ok (.ireturn, 1) := by decide +kernel
theorem d_M_nameOf_84 : decode me_M_nameOf.2.1 84 = .ok (.iconst 4, 1) := by decide +kernel
theorem d_M_nameOf_85 : decode me_M_nameOf.2.1 85 = .ok (.ireturn, 1) := by decide +kernel
theorem d_M_nameOf_86 : decode me_M_nameOf.2.1 86 = .ok (.iconst 5, 1) := by decide +kernel
theorem d_M_nameOf_87 : decode me_M_nameOf.2.1 87 = .ok (.ireturn, 1) := by decide +kernel
theorem d_M_nameOf_88 : decode me_M_nameOf.2.1 88 = .ok (.iconst (-1), 1) := by decide +kernel
theorem d_M_nameOf_89 : decode me_M_nameOf.2.1 89 = .ok (.ireturn, 1) := by decide +kernel
noncomputable def f_M_nameOf  (a0 : Int32) (m0 : gk_M) : Option (Int32 × gk_M) :=
  if a0 = 97 then
    some (0, m0)
  else
    if a0 = 98 then
      some (1, m0)
    else
      if a0 = 99 then
        some ((-1), m0)
      else
        if a0 = 100 then
          some ((-1), m0)
        else
          if a0 = 101 then
            some ((-1), m0)
          else
            if a0 = 102 then
              some ((-1), m0)
            else
              if a0 = 103 then
                some ((-1), m0)
              else
                if a0 = 104 then
                  some ((-1), m0)
                else
                  if a0 = 105 then
                    some ((-1), m0)
                  else
                    if a0 = 106 then
                      some ((-1), m0)
                    else
                      if a0 = 107 then
                        some (3, m0)
                      else
                        if a0 = 108 then
                          some ((-1), m0)
                        else
                          if a0 = 109 then
                            some (5, m0)
                          else
                            if a0 = 110 then
                              some (4, m0)
                            else
                              if a0 = 111 then
                                some (2, m0)
                              else
                                some ((-1), m0)

theorem s_M_nameOf_0 {z : gk_Z} (K : gk_F tm z me_M_nameOf 1) {r : Int32} {mem2 : gk_M} : ∀ a0 m0, f_M_nameOf a0 m0 = some (r, mem2) → gk_G tm z me_M_nameOf (gk_R tm z (some (.int r)) mem2) m0 [(0, .int a0)] [] 0 := by
  intro a0 m0  h
  unfold f_M_nameOf at h
  refine gk_iload_n (pc := 0) K d_M_nameOf_0 rfl ?_
  refine gk_ite (c := a0 = 97) h (fun c1 h => ?_) (fun c1 h => ?_)
  · refine gk_tIn (tgt := 76) (pc := 1) K d_M_nameOf_1 c1 (by decide) (by decide) rfl (by decide) ?_
    refine gk_iconst (pc := 76) K d_M_nameOf_76 kc_0 ?_
    exact gk_iret (pc := 77) K d_M_nameOf_77 rfl h
  · skip
    refine gk_ite (c := a0 = 98) h (fun c2 h => ?_) (fun c2 h => ?_)
    · refine gk_tIn (tgt := 78) (pc := 1) K d_M_nameOf_1 c2 (by decide) (by decide) rfl (by decide) ?_
      refine gk_iconst (pc := 78) K d_M_nameOf_78 kc_1 ?_
      exact gk_iret (pc := 79) K d_M_nameOf_79 rfl h
    · skip
      refine gk_ite (c := a0 = 99) h (fun c3 h => ?_) (fun c3 h => ?_)
      · refine gk_tIn (tgt := 88) (pc := 1) K d_M_nameOf_1 c3 (by decide) (by decide) rfl (by decide) ?_
        refine gk_iconst (pc := 88) K d_M_nameOf_88 kc_m1 ?_
        exact gk_iret (pc := 89) K d_M_nameOf_89 rfl h
      · skip
        refine gk_ite (c := a0 = 100) h (fun c4 h => ?_) (fun c4 h => ?_)
        · refine gk_tIn (tgt := 88) (pc := 1) K d_M_nameOf_1 c4 (by decide) (by decide) rfl (by decide) ?_
          refine gk_iconst (pc := 88) K d_M_nameOf_88 kc_m1 ?_
          exact gk_iret (pc := 89) K d_M_nameOf_89 rfl h
        · skip
          refine gk_ite (c := a0 = 101) h (fun c5 h => ?_) (fun c5 h => ?_)
          · refine gk_tIn (tgt := 88) (pc := 1) K d_M_nameOf_1 c5 (by decide) (by decide) rfl (by decide) ?_
            refine gk_iconst (pc := 88) K d_M_nameOf_88 kc_m1 ?_
            exact gk_iret (pc := 89) K d_M_nameOf_89 rfl h
          · skip
            refine gk_ite (c := a0 = 102) h (fun c6 h => ?_) (fun c6 h => ?_)
            · refine gk_tIn (tgt := 88) (pc := 1) K d_M_nameOf_1 c6 (by decide) (by decide) rfl (by decide) ?_
              refine gk_iconst (pc := 88) K d_M_nameOf_88 kc_m1 ?_
              exact gk_iret (pc := 89) K d_M_nameOf_89 rfl h
            · skip
              refine gk_ite (c := a0 = 103) h (fun c7 h => ?_) (fun c7 h => ?_)
              · refine gk_tIn (tgt := 88) (pc := 1) K d_M_nameOf_1 c7 (by decide) (by decide) rfl (by decide) ?_
                refine gk_iconst (pc := 88) K d_M_nameOf_88 kc_m1 ?_
                exact gk_iret (pc := 89) K d_M_nameOf_89 rfl h
              · skip
                refine gk_ite (c := a0 = 104) h (fun c8 h => ?_) (fun c8 h => ?_)
                · refine gk_tIn (tgt := 88) (pc := 1) K d_M_nameOf_1 c8 (by decide) (by decide) rfl (by decide) ?_
                  refine gk_iconst (pc := 88) K d_M_nameOf_88 kc_m1 ?_
                  exact gk_iret (pc := 89) K d_M_nameOf_89 rfl h
                · skip
                  refine gk_ite (c := a0 = 105) h (fun c9 h => ?_) (fun c9 h => ?_)
                  · refine gk_tIn (tgt := 88) (pc := 1) K d_M_nameOf_1 c9 (by decide) (by decide) rfl (by decide) ?_
                    refine gk_iconst (pc := 88) K d_M_nameOf_88 kc_m1 ?_
                    exact gk_iret (pc := 89) K d_M_nameOf_89 rfl h
                  · skip
                    refine gk_ite (c := a0 = 106) h (fun c10 h => ?_) (fun c10 h => ?_)
                    · refine gk_tIn (tgt := 88) (pc := 1) K d_M_nameOf_1 c10 (by decide) (by decide) rfl (by decide) ?_
                      refine gk_iconst (pc := 88) K d_M_nameOf_88 kc_m1 ?_
                      exact gk_iret (pc := 89) K d_M_nameOf_89 rfl h
                    · skip
                      refine gk_ite (c := a0 = 107) h (fun c11 h => ?_) (fun c11 h => ?_)
                      · refine gk_tIn (tgt := 82) (pc := 1) K d_M_nameOf_1 c11 (by decide) (by decide) rfl (by decide) ?_
                        refine gk_iconst (pc := 82) K d_M_nameOf_82 kc_3 ?_
                        exact gk_iret (pc := 83) K d_M_nameOf_83 rfl h
                      · skip
                        refine gk_ite (c := a0 = 108) h (fun c12 h => ?_) (fun c12 h => ?_)
                        · refine gk_tIn (tgt := 88) (pc := 1) K d_M_nameOf_1 c12 (by decide) (by decide) rfl (by decide) ?_
                          refine gk_iconst (pc := 88) K d_M_nameOf_88 kc_m1 ?_
                          exact gk_iret (pc := 89) K d_M_nameOf_89 rfl h
                        · skip
                          refine gk_ite (c := a0 = 109) h (fun c13 h => ?_) (fun c13 h => ?_)
                          · refine gk_tIn (tgt := 86) (pc := 1) K d_M_nameOf_1 c13 (by decide) (by decide) rfl (by decide) ?_
                            refine gk_iconst (pc := 86) K d_M_nameOf_86 kc_5 ?_
                            exact gk_iret (pc := 87) K d_M_nameOf_87 rfl h
                          · skip
                            refine gk_ite (c := a0 = 110) h (fun c14 h => ?_) (fun c14 h => ?_)
                            · refine gk_tIn (tgt := 84) (pc := 1) K d_M_nameOf_1 c14 (by decide) (by decide) rfl (by decide) ?_
                              refine gk_iconst (pc := 84) K d_M_nameOf_84 kc_4 ?_
                              exact gk_iret (pc := 85) K d_M_nameOf_85 rfl h
                            · skip
                              refine gk_ite (c := a0 = 111) h (fun c15 h => ?_) (fun c15 h => ?_)
                              · refine gk_tIn (tgt := 80) (pc := 1) K d_M_nameOf_1 c15 (by decide) (by decide) rfl (by decide) ?_
                                refine gk_iconst (pc := 80) K d_M_nameOf_80 kc_2 ?_
                                exact gk_iret (pc := 81) K d_M_nameOf_81 rfl h
                              · skip
                                have gc1 := gk_neq c1 (a := 97) (by decide)
                                have gc2 := gk_neq c2 (a := 98) (by decide)
                                have gc3 := gk_neq c3 (a := 99) (by decide)
                                have gc4 := gk_neq c4 (a := 100) (by decide)
                                have gc5 := gk_neq c5 (a := 101) (by decide)
                                have gc6 := gk_neq c6 (a := 102) (by decide)
                                have gc7 := gk_neq c7 (a := 103) (by decide)
                                have gc8 := gk_neq c8 (a := 104) (by decide)
                                have gc9 := gk_neq c9 (a := 105) (by decide)
                                have gc10 := gk_neq c10 (a := 106) (by decide)
                                have gc11 := gk_neq c11 (a := 107) (by decide)
                                have gc12 := gk_neq c12 (a := 108) (by decide)
                                have gc13 := gk_neq c13 (a := 109) (by decide)
                                have gc14 := gk_neq c14 (a := 110) (by decide)
                                have gc15 := gk_neq c15 (a := 111) (by decide)
                                refine gk_tOut (tgt := 88) (pc := 1) K d_M_nameOf_1 (by omega) (by decide) ?_
                                refine gk_iconst (pc := 88) K d_M_nameOf_88 kc_m1 ?_
                                exact gk_iret (pc := 89) K d_M_nameOf_89 rfl h
theorem s_M_nameOf {l : Launch} {u : gk_U} (hD : gk_D tm u) {a0 : Int32} {m0 mem2 : gk_M} {r : Int32} (h : f_M_nameOf a0 m0 = some (r, mem2)) : gk_C tm l u me_M_nameOf 1 [.int a0] m0 (some (.int r)) mem2 :=
  gk_enter hD mc_M_nameOf (Nat.le_of_ble_eq_true rfl) rfl (fun z _ _ K => s_M_nameOf_0 K _ _  h)
theorem d_M_one_0 : decode me_M_one.2.1 0 = .ok (.aload_n 0, 1) := by decide +kernel
theorem d_M_one_1 : decode me_M_one.2.1 1 = .ok (.getfield 169, 3) := by decide +kernel
theorem d_M_one_4 : decode me_M_one.2.1 4 = .ok (.ifCond .lt 5, 3) := by decide +kernel
theorem d_M_one_7 : decode me_M_one.2.1 7 = .ok (.iconst 0, 1) := by decide +kernel
theorem d_M_one_8 : decode me_M_one.2.1 8 = .ok (.ireturn, 1) := by decide +kernel
theorem d_M_one_9 : decode me_M_one.2.1 9 = .ok (.aload_n 0, 1) := by decide +kernel
theorem d_M_one_10 : decode me_M_one.2.1 10 = .ok (.invokevirtual 172, 3) := by decide +kernel
theorem d_M_one_13 : decode me_M_one.2.1 13 = .ok (.istore_n 1, 1) := by decide +kernel
theorem d_M_one_14 : decode me_M_one.2.1 14 = .ok (.iload_n 1, 1) := by decide +kernel
theorem d_M_one_15 : decode me_M_one.2.1 15 = .ok (.bipush 33, 2) := by decide +kernel
theorem d_M_one_17 : decode me_M_one.2.1 17 = .ok (.if_icmp .eq 15, 3) := by decide +kernel
theorem d_M_one_20 : decode me_M_one.2.1 20 = .ok (.iload_n 1, 1) := by decide +kernel
theorem d_M_one_21 : decode me_M_one.2.1 21 = .ok (.bipush 45, 2) := by decide +kernel
theorem d_M_one_23 : decode me_M_one.2.1 23 = .ok (.if_icmp .eq 9, 3) := by decide +kernel
theorem d_M_one_26 : decode me_M_one.2.1 26 = .ok (.iload_n 1, 1) := by decide +kernel
theorem d_M_one_27 : decode me_M_one.2.1 27 = .ok (.bipush 40, 2) := by decide +kernel
theorem d_M_one_29 : decode me_M_one.2.1 29 = .ok (.if_icmp .ne 116, 3) := by decide +kernel
theorem d_M_one_32 : decode me_M_one.2.1 32 = .ok (.aload_n 0, 1) := by decide +kernel
theorem d_M_one_33 : decode me_M_one.2.1 33 = .ok (.getfield 194, 3) := by decide +kernel
theorem d_M_one_36 : decode me_M_one.2.1 36 = .ok (.bipush 6, 2) := by decide +kernel
theorem d_M_one_38 : decode me_M_one.2.1 38 = .ok (.if_icmp .ne 8, 3) := by decide +kernel
theorem d_M_one_41 : decode me_M_one.2.1 41 = .ok (.aload_n 0, 1) := by decide +kernel
theorem d_M_one_42 : decode me_M_one.2.1 42 = .ok (.invokevirtual 197, 3) := by decide +kernel
theorem d_M_one_45 : decode me_M_one.2.1 45 = .ok (.ireturn, 1) := by decide +kernel
theorem d_M_one_46 : decode me_M_one.2.1 46 = .ok (.aload_n 0, 1) := by decide +kernel
theorem d_M_one_47 : decode me_M_one.2.1 47 = .ok (.dup, 1) := by decide +kernel
theorem d_M_one_48 : decode me_M_one.2.1 48 = .ok (.getfield 194, 3) := by decide +kernel
theorem d_M_one_51 : decode me_M_one.2.1 51 = .ok (.iconst 1, 1) := by decide +kernel
theorem d_M_one_52 : decode me_M_one.2.1 52 = .ok (.iadd, 1) := by decide +kernel
theorem d_M_one_53 : decode me_M_one.2.1 53 = .ok (.putfield 194, 3) := by decide +kernel
theorem d_M_one_56 : decode me_M_one.2.1 56 = .ok (.aload_n 0, 1) := by decide +kernel
theorem d_M_one_57 : decode me_M_one.2.1 57 = .ok (.dup, 1) := by decide +kernel
theorem d_M_one_58 : decode me_M_one.2.1 58 = .ok (.getfield 160, 3) := by decide +kernel
theorem d_M_one_61 : decode me_M_one.2.1 61 = .ok (.iconst 1, 1) := by decide +kernel
theorem d_M_one_62 : decode me_M_one.2.1 62 = .ok (.iadd, 1) := by decide +kernel
theorem d_M_one_63 : decode me_M_one.2.1 63 = .ok (.putfield 160, 3) := by decide +kernel
theorem d_M_one_66 : decode me_M_one.2.1 66 = .ok (.iload_n 1, 1) := by decide +kernel
theorem d_M_one_67 : decode me_M_one.2.1 67 = .ok (.bipush 40, 2) := by decide +kernel
theorem d_M_one_69 : decode me_M_one.2.1 69 = .ok (.if_icmp .ne 10, 3) := by decide +kernel
theorem d_M_one_72 : decode me_M_one.2.1 72 = .ok (.aload_n 0, 1) := by decide +kernel
theorem d_M_one_73 : decode me_M_one.2.1 73 = .ok (.invokevirtual 200, 3) := by decide +kernel
theorem d_M_one_76 : decode me_M_one.2.1 76 = .ok (.goto 7, 3) := by decide +kernel
theorem d_M_one_79 : decode me_M_one.2.1 79 = .ok (.aload_n 0, 1) := by decide +kernel
theorem d_M_one_80 : decode me_M_one.2.1 80 = .ok (.invokevirtual 191, 3) := by decide +kernel
theorem d_M_one_83 : decode me_M_one.2.1 83 = .ok (.istore_n 2, 1) := by decide +kernel
theorem d_M_one_84 : decode me_M_one.2.1 84 = .ok (.iload_n 1, 1) := by decide +kernel
theorem d_M_one_85 : decode me_M_one.2.1 85 = .ok (.bipush 40, 2) := by decide +kernel
theorem d_M_one_87 : decode me_M_one.2.1 87 = .ok (.if_icmp .ne 17, 3) := by decide +kernel
theorem d_M_one_90 : decode me_M_one.2.1 90 = .ok (.aload_n 0, 1) := by decide +kernel
theorem d_M_one_91 : decode me_M_one.2.1 91 = .ok (.bipush 41, 2) := by decide +kernel
theorem d_M_one_93 : decode me_M_one.2.1 93 = .ok (.invokevirtual 179, 3) := by decide +kernel
theorem d_M_one_96 : decode me_M_one.2.1 96 = .ok (.ifCond .ne 8, 3) := by decide +kernel
theorem d_M_one_99 : decode me_M_one.2.1 99 = .ok (.aload_n 0, 1) := by decide +kernel
theorem d_M_one_100 : decode me_M_one.2.1 100 = .ok (.invokevirtual 197, 3) := by decide +kernel
theorem d_M_one_103 : decode me_M_one.2.1 103 = .ok (.ireturn, 1) := by decide +kernel
theorem d_M_one_104 : decode me_M_one.2.1 104 = .ok (.aload_n 0, 1) := by decide +kernel
theorem d_M_one_105 : decode me_M_one.2.1 105 = .ok (.dup, 1) := by decide +kernel
theorem d_M_one_106 : decode me_M_one.2.1 106 = .ok (.getfield 194, 3) := by decide +kernel
theorem d_M_one_109 : decode me_M_one.2.1 109 = .ok (.iconst 1, 1) := by decide +kernel
theorem d_M_one_110 : decode me_M_one.2.1 110 = .ok (.isub, 1) := by decide +kernel
theorem d_M_one_111 : decode me_M_one.2.1 111 = .ok (.putfield 194, 3) := by decide +kernel
theorem d_M_one_114 : decode me_M_one.2.1 114 = .ok (.iload_n 1, 1) := by decide +kernel
theorem d_M_one_115 : decode me_M_one.2.1 115 = .ok (.bipush 40, 2) := by decide +kernel
theorem d_M_one_117 : decode me_M_one.2.1 117 = .ok (.if_icmp .ne 7, 3) := by decide +kernel
theorem d_M_one_120 : decode me_M_one.2.1 120 = .ok (.iload_n 2, 1) := by decide +kernel
theorem d_M_one_121 : decode me_M_one.2.1 121 = .ok (.goto 23, 3) := by decide +kernel
theorem d_M_one_124 : decode me_M_one.2.1 124 = .ok (.iload_n 1, 1) := by decide +kernel
theorem d_M_one_125 : decode me_M_one.2.1 125 = .ok (.bipush 45, 2) := by decide +kernel
theorem d_M_one_127 : decode me_M_one.2.1 127 = .ok (.if_icmp .ne 8, 3) := by decide +kernel
theorem d_M_one_130 : decode me_M_one.2.1 130 = .ok (.iload_n 2, 1) := by decide +kernel
theorem d_M_one_131 : decode me_M_one.2.1 131 = .ok (.ineg, 1) := by decide +kernel
theorem d_M_one_132 : decode me_M_one.2.1 132 = .ok (.goto 12, 3) := by decide +kernel
theorem d_M_one_135 : decode me_M_one.2.1 135 = .ok (.iload_n 2, 1) := by decide +kernel
theorem d_M_one_136 : decode me_M_one.2.1 136 = .ok (.ifCond .ne 7, 3) := by decide +kernel
theorem d_M_one_139 : decode me_M_one.2.1 139 = .ok (.iconst 1, 1) := by decide +kernel
theorem d_M_one_140 : decode me_M_one.2.1 140 = .ok (.goto 4, 3) := by decide +kernel
theorem d_M_one_143 : decode me_M_one.2.1 143 = .ok (.iconst 0, 1) := by decide +kernel
theorem d_M_one_144 : decode me_M_one.2.1 144 = .ok (.ireturn, 1) := by decide +kernel
theorem d_M_one_145 : decode me_M_one.2.1 145 = .ok (.iload_n 1, 1) := by decide +kernel
theorem d_M_one_146 : decode me_M_one.2.1 146 = .ok (.invokestatic 203, 3) := by decide +kernel
theorem d_M_one_149 : decode me_M_one.2.1 149 = .ok (.istore_n 2, 1) := by decide +kernel
theorem d_M_one_150 : decode me_M_one.2.1 150 = .ok (.iload_n 2, 1) := by decide +kernel
theorem d_M_one_151 : decode me_M_one.2.1 151 = .ok (.ifCond .lt 20, 3) := by decide +kernel
theorem d_M_one_154 : decode me_M_one.2.1 154 = .ok (.aload_n 0, 1) := by decide +kernel
theorem d_M_one_155 : decode me_M_one.2.1 155 = .ok (.dup, 1) := by decide +kernel
theorem d_M_one_156 : decode me_M_one.2.1 156 = .ok (.getfield 160, 3) := by decide +kernel
theorem d_M_one_159 : decode me_M_one.2.1 159 = .ok (.iconst 1, 1) := by decide +kernel
theorem d_M_one_160 : decode me_M_one.2.1 160 = .ok (.iadd, 1) := by decide +kernel
theorem d_M_one_161 : decode me_M_one.2.1 161 = .ok (.putfield 160, 3) := by decide +kernel
theorem d_M_one_164 : decode me_M_one.2.1 164 = .ok (.aload_n 0, 1) := by decide +kernel
theorem d_M_one_165 : decode me_M_one.2.1 165 = .ok (.getfield 46, 3) := by decide +kernel
theorem d_M_one_168 : decode me_M_one.2.1 168 = .ok (.iload_n 2, 1) := by decide +kernel
theorem d_M_one_169 : decode me_M_one.2.1 169 = .ok (.iaload, 1) := by decide +kernel
theorem d_M_one_170 : decode me_M_one.2.1 170 = .ok (.ireturn, 1) := by decide +kernel
theorem d_M_one_171 : decode me_M_one.2.1 171 = .ok (.iconst 0, 1) := by decide +kernel
theorem d_M_one_172 : decode me_M_one.2.1 172 = .ok (.istore_n 3, 1) := by decide +kernel
theorem d_M_one_173 : decode me_M_one.2.1 173 = .ok (.iconst 0, 1) := by decide +kernel
theorem d_M_one_174 : decode me_M_one.2.1 174 = .ok (.istore 4, 2) := by decide +kernel
theorem d_M_one_176 : decode me_M_one.2.1 176 = .ok (.iload 4, 2) := by decide +kernel
theorem d_M_one_178 : decode me_M_one.2.1 178 = .ok (.iconst 4, 1) := by decide +kernel
theorem d_M_one_179 : decode me_M_one.2.1 179 = .ok (.if_icmp .ge 50, 3) := by decide +kernel
theorem d_M_one_182 : decode me_M_one.2.1 182 = .ok (.aload_n 0, 1) := by decide +kernel
theorem d_M_one_183 : decode me_M_one.2.1 183 = .ok (.invokevirtual 172, 3) := by decide +kernel
theorem d_M_one_186 : decode me_M_one.2.1 186 = .ok (.bipush 48, 2) := by decide +kernel
theorem d_M_one_188 : decode me_M_one.2.1 188 = .ok (.if_icmp .lt 41, 3) := by decide +kernel
theorem d_M_one_191 : decode me_M_one.2.1 191 = .ok (.aload_n 0, 1) := by decide +kernel
theorem d_M_one_192 : decode me_M_one.2.1 192 = .ok (.invokevirtual 172, 3) := by decide +kernel
theorem d_M_one_195 : decode me_M_one.2.1 195 = .ok (.bipush 57, 2) := by decide +kernel
theorem d_M_one_197 : decode me_M_one.2.1 197 = .ok (.if_icmp .gt 32, 3) := by decide +kernel
theorem d_M_one_200 : decode me_M_one.2.1 200 = .ok (.bipush 10, 2) := by decide +kernel
theorem d_M_one_202 : decode me_M_one.2.1 202 = .ok (.iload_n 3, 1) := by decide +kernel
theorem d_M_one_203 : decode me_M_one.2.1 203 = .ok (.imul, 1) := by decide +kernel
theorem d_M_one_204 : decode me_M_one.2.1 204 = .ok (.aload_n 0, 1) := by decide +kernel
theorem d_M_one_205 : decode me_M_one.2.1 205 = .ok (.invokevirtual 172, 3) := by decide +kernel
theorem d_M_one_208 : decode me_M_one.2.1 208 = .ok (.iadd, 1) := by decide +kernel
theorem d_M_one_209 : decode me_M_one.2.1 209 = .ok (.bipush 48, 2) := by decide +kernel
theorem d_M_one_211 : decode me_M_one.2.1 211 = .ok (.isub, 1) := by decide +kernel
theorem d_M_one_212 : decode me_M_one.2.1 212 = .ok (.istore_n 3, 1) := by decide +kernel
theorem d_M_one_213 : decode me_M_one.2.1 213 = .ok (.iinc 4 1, 3) := by decide +kernel
theorem d_M_one_216 : decode me_M_one.2.1 216 = .ok (.aload_n 0, 1) := by decide +kernel
theorem d_M_one_217 : decode me_M_one.2.1 217 = .ok (.dup, 1) := by decide +kernel
theorem d_M_one_218 : decode me_M_one.2.1 218 = .ok (.getfield 160, 3) := by decide +kernel
theorem d_M_one_221 : decode me_M_one.2.1 221 = .ok (.iconst 1, 1) := by decide +kernel
theorem d_M_one_222 : decode me_M_one.2.1 222 = .ok (.iadd, 1) := by decide +kernel
theorem d_M_one_223 : decode me_M_one.2.1 223 = .ok (.putfield 160, 3) := by decide +kernel
theorem d_M_one_226 : decode me_M_one.2.1 226 = .ok (.goto (-50), 3) := by decide +kernel
theorem d_M_one_229 : decode me_M_one.2.1 229 = .ok (.iload 4, 2) := by decide +kernel
theorem d_M_one_231 : decode me_M_one.2.1 231 = .ok (.ifCond .ne 10, 3) := by decide +kernel
theorem d_M_one_234 : decode me_M_one.2.1 234 = .ok (.aload_n 0, 1) := by decide +kernel
theorem d_M_one_235 : decode me_M_one.2.1 235 = .ok (.invokevirtual 197, 3) := by decide +kernel
theorem d_M_one_238 : decode me_M_one.2.1 238 = .ok (.goto 4, 3) := by decide +kernel
theorem d_M_one_241 : decode me_M_one.2.1 241 = .ok (.iload_n 3, 1) := by decide +kernel
theorem d_M_one_242 : decode me_M_one.2.1 242 = .ok (.ireturn, 1) := by decide +kernel
noncomputable def f_M_one_229 (q_M_one : gk_M → Option (Int32 × gk_M)) (q_M_product : gk_M → Option (Int32 × gk_M)) (q_M_sums : gk_M → Option (Int32 × gk_M)) (q_M_compared : gk_M → Option (Int32 × gk_M)) (q_M_both : gk_M → Option (Int32 × gk_M)) (q_M_either : gk_M → Option (Int32 × gk_M)) (a3 : Int32) (a4 : Int32) (m0 : gk_M) : Option (Int32 × gk_M) :=
  if ¬ a4 = 0 then
    some (a3, m0)
  else
    gk_bi (f_M_wrong  m0) fun v2 m1 =>
    some (v2, m1)

theorem s_M_one_229 {z : gk_Z} {dd : Nat} (K : gk_F tm z me_M_one (3 + (dd + 1))) {r : Int32} {mem2 : gk_M} (q_M_one : gk_M → Option (Int32 × gk_M)) (q_M_product : gk_M → Option (Int32 × gk_M)) (q_M_sums : gk_M → Option (Int32 × gk_M)) (q_M_compared : gk_M → Option (Int32 × gk_M)) (q_M_both : gk_M → Option (Int32 × gk_M)) (q_M_either : gk_M → Option (Int32 × gk_M)) (hq_M_one : ∀  mem r mem2, q_M_one  mem = some (r, mem2) → gk_C tm (gk_zl z) (gk_zu z) me_M_one (3 + dd) [.ref 0] mem (some (.int r)) mem2) (hq_M_product : ∀  mem r mem2, q_M_product  mem = some (r, mem2) → gk_C tm (gk_zl z) (gk_zu z) me_M_product (3 + dd) [.ref 0] mem (some (.int r)) mem2) (hq_M_sums : ∀  mem r mem2, q_M_sums  mem = some (r, mem2) → gk_C tm (gk_zl z) (gk_zu z) me_M_sums (3 + dd) [.ref 0] mem (some (.int r)) mem2) (hq_M_compared : ∀  mem r mem2, q_M_compared  mem = some (r, mem2) → gk_C tm (gk_zl z) (gk_zu z) me_M_compared (3 + dd) [.ref 0] mem (some (.int r)) mem2) (hq_M_both : ∀  mem r mem2, q_M_both  mem = some (r, mem2) → gk_C tm (gk_zl z) (gk_zu z) me_M_both (3 + dd) [.ref 0] mem (some (.int r)) mem2) (hq_M_either : ∀  mem r mem2, q_M_either  mem = some (r, mem2) → gk_C tm (gk_zl z) (gk_zu z) me_M_either (3 + dd) [.ref 0] mem (some (.int r)) mem2) : ∀ a3 a4 m0, f_M_one_229 q_M_one q_M_product q_M_sums q_M_compared q_M_both q_M_either a3 a4 m0 = some (r, mem2) → gk_G tm z me_M_one (gk_R tm z (some (.int r)) mem2) m0 [(0, .ref 0), (3, .int a3), (4, .int a4)] [] 229 := by
  intro a3 a4 m0  h
  unfold f_M_one_229 at h
  refine gk_iload (pc := 229) K d_M_one_229 rfl ?_
  refine gk_if_ne (tgt := 241) (pc := 231) K d_M_one_231 (by decide) h (fun h => ?_) (fun h => ?_)
  · refine gk_iload_n (pc := 241) K d_M_one_241 rfl ?_
    exact gk_iret (pc := 242) K d_M_one_242 rfl h
  · refine gk_aload_n (pc := 234) K d_M_one_234 rfl ?_
    obtain ⟨v2, m1, em1, h⟩ := gk_bi_some h
    refine gk_cVi (As := []) (pc := 235) K d_M_one_235 mv_M_197 mc_M_wrong rfl tm_0 cl_ok10.1 (s_M_wrong (gk_FD K)  em1) (by omega) rfl (Nat.le_of_ble_eq_true rfl) ?_
    refine gk_goto (tgt := 242) (pc := 238) K d_M_one_238 (by decide) ?_
    exact gk_iret (pc := 242) K d_M_one_242 rfl h
noncomputable def f_M_one_176 (q_M_one : gk_M → Option (Int32 × gk_M)) (q_M_product : gk_M → Option (Int32 × gk_M)) (q_M_sums : gk_M → Option (Int32 × gk_M)) (q_M_compared : gk_M → Option (Int32 × gk_M)) (q_M_both : gk_M → Option (Int32 × gk_M)) (q_M_either : gk_M → Option (Int32 × gk_M)) : Nat → Int32 → Int32 → gk_M → Option (Int32 × gk_M)
  | 0, _, _, _ => none
  | n + 1, a3, a4, m0 =>
    if 4 ≤ a4 then
      f_M_one_229 q_M_one q_M_product q_M_sums q_M_compared q_M_both q_M_either a3 a4 m0
    else
      gk_bi (f_M_byteAt  m0) fun v2 m1 =>
      if v2 < 48 then
        f_M_one_229 q_M_one q_M_product q_M_sums q_M_compared q_M_both q_M_either a3 a4 m1
      else
        gk_bi (f_M_byteAt  m1) fun v4 m3 =>
        if 57 < v4 then
          f_M_one_229 q_M_one q_M_product q_M_sums q_M_compared q_M_both q_M_either a3 a4 m3
        else
          gk_bi (f_M_byteAt  m3) fun v6 m5 =>
          gk_let (((10 * a3) + v6) - 48) fun v7 =>
          gk_let (gk_mi m5 0 20 ((m5.1 0 20) + 1)) fun m8 =>
          f_M_one_176 q_M_one q_M_product q_M_sums q_M_compared q_M_both q_M_either n v7 (a4 + 1) m8

theorem s_M_one_176 {z : gk_Z} {dd : Nat} (K : gk_F tm z me_M_one (3 + (dd + 1))) {r : Int32} {mem2 : gk_M} (q_M_one : gk_M → Option (Int32 × gk_M)) (q_M_product : gk_M → Option (Int32 × gk_M)) (q_M_sums : gk_M → Option (Int32 × gk_M)) (q_M_compared : gk_M → Option (Int32 × gk_M)) (q_M_both : gk_M → Option (Int32 × gk_M)) (q_M_either : gk_M → Option (Int32 × gk_M)) (hq_M_one : ∀  mem r mem2, q_M_one  mem = some (r, mem2) → gk_C tm (gk_zl z) (gk_zu z) me_M_one (3 + dd) [.ref 0] mem (some (.int r)) mem2) (hq_M_product : ∀  mem r mem2, q_M_product  mem = some (r, mem2) → gk_C tm (gk_zl z) (gk_zu z) me_M_product (3 + dd) [.ref 0] mem (some (.int r)) mem2) (hq_M_sums : ∀  mem r mem2, q_M_sums  mem = some (r, mem2) → gk_C tm (gk_zl z) (gk_zu z) me_M_sums (3 + dd) [.ref 0] mem (some (.int r)) mem2) (hq_M_compared : ∀  mem r mem2, q_M_compared  mem = some (r, mem2) → gk_C tm (gk_zl z) (gk_zu z) me_M_compared (3 + dd) [.ref 0] mem (some (.int r)) mem2) (hq_M_both : ∀  mem r mem2, q_M_both  mem = some (r, mem2) → gk_C tm (gk_zl z) (gk_zu z) me_M_both (3 + dd) [.ref 0] mem (some (.int r)) mem2) (hq_M_either : ∀  mem r mem2, q_M_either  mem = some (r, mem2) → gk_C tm (gk_zl z) (gk_zu z) me_M_either (3 + dd) [.ref 0] mem (some (.int r)) mem2) : ∀ n a3 a4 m0, f_M_one_176 q_M_one q_M_product q_M_sums q_M_compared q_M_both q_M_either n a3 a4 m0 = some (r, mem2) → gk_G tm z me_M_one (gk_R tm z (some (.int r)) mem2) m0 [(0, .ref 0), (3, .int a3), (4, .int a4)] [] 176 := by
  intro n
  induction n with
  | zero => intro a3 a4 m0  h; exact nomatch (show (none : Option _) = some _ from h)
  | succ n ih =>
    intro a3 a4 m0  h
    unfold f_M_one_176 at h
    refine gk_iload (pc := 176) K d_M_one_176 rfl ?_
    refine gk_iconst (pc := 178) K d_M_one_178 kc_4 ?_
    refine gk_ic_ge (tgt := 229) (pc := 179) K d_M_one_179 (by decide) h (fun h => ?_) (fun h => ?_)
    · exact gk_sub [0, 1, 2] rfl (s_M_one_229 K q_M_one q_M_product q_M_sums q_M_compared q_M_both q_M_either hq_M_one hq_M_product hq_M_sums hq_M_compared hq_M_both hq_M_either _ _ _  h)
    · refine gk_aload_n (pc := 182) K d_M_one_182 rfl ?_
      obtain ⟨v2, m1, em1, h⟩ := gk_bi_some h
      refine gk_cVi (As := []) (pc := 183) K d_M_one_183 mv_M_172 mc_M_byteAt rfl tm_0 cl_ok10.1 (s_M_byteAt (gk_FD K)  em1) (by omega) rfl (Nat.le_of_ble_eq_true rfl) ?_
      refine gk_bipush (pc := 186) K d_M_one_186 kb_48 ?_
      refine gk_ic_lt (tgt := 229) (pc := 188) K d_M_one_188 (by decide) h (fun h => ?_) (fun h => ?_)
      · exact gk_sub [0, 1, 2] rfl (s_M_one_229 K q_M_one q_M_product q_M_sums q_M_compared q_M_both q_M_either hq_M_one hq_M_product hq_M_sums hq_M_compared hq_M_both hq_M_either _ _ _  h)
      · refine gk_aload_n (pc := 191) K d_M_one_191 rfl ?_
        obtain ⟨v4, m3, em3, h⟩ := gk_bi_some h
        refine gk_cVi (As := []) (pc := 192) K d_M_one_192 mv_M_172 mc_M_byteAt rfl tm_0 cl_ok10.1 (s_M_byteAt (gk_FD K)  em3) (by omega) rfl (Nat.le_of_ble_eq_true rfl) ?_
        refine gk_bipush (pc := 195) K d_M_one_195 kb_57 ?_
        refine gk_ic_gt (tgt := 229) (pc := 197) K d_M_one_197 (by decide) h (fun h => ?_) (fun h => ?_)
        · exact gk_sub [0, 1, 2] rfl (s_M_one_229 K q_M_one q_M_product q_M_sums q_M_compared q_M_both q_M_either hq_M_one hq_M_product hq_M_sums hq_M_compared hq_M_both hq_M_either _ _ _  h)
        · refine gk_bipush (pc := 200) K d_M_one_200 kb_10 ?_
          refine gk_iload_n (pc := 202) K d_M_one_202 rfl ?_
          refine gk_imul (pc := 203) K d_M_one_203 ?_
          refine gk_aload_n (pc := 204) K d_M_one_204 rfl ?_
          obtain ⟨v6, m5, em5, h⟩ := gk_bi_some h
          refine gk_cVi (As := []) (pc := 205) K d_M_one_205 mv_M_172 mc_M_byteAt rfl tm_0 cl_ok10.1 (s_M_byteAt (gk_FD K)  em5) (by omega) rfl (Nat.le_of_ble_eq_true rfl) ?_
          refine gk_iadd (pc := 208) K d_M_one_208 ?_
          refine gk_bipush (pc := 209) K d_M_one_209 kb_48 ?_
          refine gk_isub (pc := 211) K d_M_one_211 ?_
          refine gk_topi h (fun v7 h => ?_)
          refine gk_istore_n (lv2 := [(3, .int v7), (0, .ref 0), (4, .int a4)]) (pc := 212) K d_M_one_212 (by decide) rfl ?_
          refine gk_iinc2 (lv2 := [(4, .int (a4 + 1)), (3, .int v7), (0, .ref 0)]) (pc := 213) K d_M_one_213 rfl kc_1 (by decide) rfl ?_
          refine gk_aload_n (pc := 216) K d_M_one_216 rfl ?_
          refine gk_dup (pc := 217) K d_M_one_217 rfl ?_
          refine gk_get (pc := 218) K d_M_one_218 fl_M_160 tm_0 rfl rfl ?_
          refine gk_iconst (pc := 221) K d_M_one_221 kc_1 ?_
          refine gk_iadd (pc := 222) K d_M_one_222 ?_
          refine gk_puti (pc := 223) K d_M_one_223 fp_M_160 tm_0 rfl h (fun m8 h => ?_)
          refine gk_goto (tgt := 176) (pc := 226) K d_M_one_226 (by decide) ?_
          exact gk_sub [2, 1, 0] rfl (ih _ _ _  h)
noncomputable def f_M_one_104 (q_M_one : gk_M → Option (Int32 × gk_M)) (q_M_product : gk_M → Option (Int32 × gk_M)) (q_M_sums : gk_M → Option (Int32 × gk_M)) (q_M_compared : gk_M → Option (Int32 × gk_M)) (q_M_both : gk_M → Option (Int32 × gk_M)) (q_M_either : gk_M → Option (Int32 × gk_M)) (a1 : Int32) (a2 : Int32) (m0 : gk_M) : Option (Int32 × gk_M) :=
  gk_let (gk_mi m0 0 23 ((m0.1 0 23) - 1)) fun m1 =>
  if ¬ a1 = 40 then
    if ¬ a1 = 45 then
      if ¬ a2 = 0 then
        some (0, m1)
      else
        some (1, m1)
    else
      some ((-a2), m1)
  else
    some (a2, m1)

theorem s_M_one_104 {z : gk_Z} {dd : Nat} (K : gk_F tm z me_M_one (3 + (dd + 1))) {r : Int32} {mem2 : gk_M} (q_M_one : gk_M → Option (Int32 × gk_M)) (q_M_product : gk_M → Option (Int32 × gk_M)) (q_M_sums : gk_M → Option (Int32 × gk_M)) (q_M_compared : gk_M → Option (Int32 × gk_M)) (q_M_both : gk_M → Option (Int32 × gk_M)) (q_M_either : gk_M → Option (Int32 × gk_M)) (hq_M_one : ∀  mem r mem2, q_M_one  mem = some (r, mem2) → gk_C tm (gk_zl z) (gk_zu z) me_M_one (3 + dd) [.ref 0] mem (some (.int r)) mem2) (hq_M_product : ∀  mem r mem2, q_M_product  mem = some (r, mem2) → gk_C tm (gk_zl z) (gk_zu z) me_M_product (3 + dd) [.ref 0] mem (some (.int r)) mem2) (hq_M_sums : ∀  mem r mem2, q_M_sums  mem = some (r, mem2) → gk_C tm (gk_zl z) (gk_zu z) me_M_sums (3 + dd) [.ref 0] mem (some (.int r)) mem2) (hq_M_compared : ∀  mem r mem2, q_M_compared  mem = some (r, mem2) → gk_C tm (gk_zl z) (gk_zu z) me_M_compared (3 + dd) [.ref 0] mem (some (.int r)) mem2) (hq_M_both : ∀  mem r mem2, q_M_both  mem = some (r, mem2) → gk_C tm (gk_zl z) (gk_zu z) me_M_both (3 + dd) [.ref 0] mem (some (.int r)) mem2) (hq_M_either : ∀  mem r mem2, q_M_either  mem = some (r, mem2) → gk_C tm (gk_zl z) (gk_zu z) me_M_either (3 + dd) [.ref 0] mem (some (.int r)) mem2) : ∀ a1 a2 m0, f_M_one_104 q_M_one q_M_product q_M_sums q_M_compared q_M_both q_M_either a1 a2 m0 = some (r, mem2) → gk_G tm z me_M_one (gk_R tm z (some (.int r)) mem2) m0 [(0, .ref 0), (1, .int a1), (2, .int a2)] [] 104 := by
  intro a1 a2 m0  h
  unfold f_M_one_104 at h
  refine gk_aload_n (pc := 104) K d_M_one_104 rfl ?_
  refine gk_dup (pc := 105) K d_M_one_105 rfl ?_
  refine gk_get (pc := 106) K d_M_one_106 fl_M_194 tm_0 rfl rfl ?_
  refine gk_iconst (pc := 109) K d_M_one_109 kc_1 ?_
  refine gk_isub (pc := 110) K d_M_one_110 ?_
  refine gk_puti (pc := 111) K d_M_one_111 fp_M_194 tm_0 rfl h (fun m1 h => ?_)
  refine gk_iload_n (pc := 114) K d_M_one_114 rfl ?_
  refine gk_bipush (pc := 115) K d_M_one_115 kb_40 ?_
  refine gk_ic_ne (tgt := 124) (pc := 117) K d_M_one_117 (by decide) h (fun h => ?_) (fun h => ?_)
  · refine gk_iload_n (pc := 124) K d_M_one_124 rfl ?_
    refine gk_bipush (pc := 125) K d_M_one_125 kb_45 ?_
    refine gk_ic_ne (tgt := 135) (pc := 127) K d_M_one_127 (by decide) h (fun h => ?_) (fun h => ?_)
    · refine gk_iload_n (pc := 135) K d_M_one_135 rfl ?_
      refine gk_if_ne (tgt := 143) (pc := 136) K d_M_one_136 (by decide) h (fun h => ?_) (fun h => ?_)
      · refine gk_iconst (pc := 143) K d_M_one_143 kc_0 ?_
        exact gk_iret (pc := 144) K d_M_one_144 rfl h
      · refine gk_iconst (pc := 139) K d_M_one_139 kc_1 ?_
        refine gk_goto (tgt := 144) (pc := 140) K d_M_one_140 (by decide) ?_
        exact gk_iret (pc := 144) K d_M_one_144 rfl h
    · refine gk_iload_n (pc := 130) K d_M_one_130 rfl ?_
      refine gk_ineg (pc := 131) K d_M_one_131 ?_
      refine gk_goto (tgt := 144) (pc := 132) K d_M_one_132 (by decide) ?_
      exact gk_iret (pc := 144) K d_M_one_144 rfl h
  · refine gk_iload_n (pc := 120) K d_M_one_120 rfl ?_
    refine gk_goto (tgt := 144) (pc := 121) K d_M_one_121 (by decide) ?_
    exact gk_iret (pc := 144) K d_M_one_144 rfl h
noncomputable def f_M_one_83 (q_M_one : gk_M → Option (Int32 × gk_M)) (q_M_product : gk_M → Option (Int32 × gk_M)) (q_M_sums : gk_M → Option (Int32 × gk_M)) (q_M_compared : gk_M → Option (Int32 × gk_M)) (q_M_both : gk_M → Option (Int32 × gk_M)) (q_M_either : gk_M → Option (Int32 × gk_M)) (a1 : Int32) (s0 : Int32) (m0 : gk_M) : Option (Int32 × gk_M) :=
  if ¬ a1 = 40 then
    f_M_one_104 q_M_one q_M_product q_M_sums q_M_compared q_M_both q_M_either a1 s0 m0
  else
    gk_bi (f_M_takes 41 m0) fun v2 m1 =>
    if ¬ v2 = 0 then
      f_M_one_104 q_M_one q_M_product q_M_sums q_M_compared q_M_both q_M_either a1 s0 m1
    else
      gk_bi (f_M_wrong  m1) fun v4 m3 =>
      some (v4, m3)

theorem s_M_one_83 {z : gk_Z} {dd : Nat} (K : gk_F tm z me_M_one (3 + (dd + 1))) {r : Int32} {mem2 : gk_M} (q_M_one : gk_M → Option (Int32 × gk_M)) (q_M_product : gk_M → Option (Int32 × gk_M)) (q_M_sums : gk_M → Option (Int32 × gk_M)) (q_M_compared : gk_M → Option (Int32 × gk_M)) (q_M_both : gk_M → Option (Int32 × gk_M)) (q_M_either : gk_M → Option (Int32 × gk_M)) (hq_M_one : ∀  mem r mem2, q_M_one  mem = some (r, mem2) → gk_C tm (gk_zl z) (gk_zu z) me_M_one (3 + dd) [.ref 0] mem (some (.int r)) mem2) (hq_M_product : ∀  mem r mem2, q_M_product  mem = some (r, mem2) → gk_C tm (gk_zl z) (gk_zu z) me_M_product (3 + dd) [.ref 0] mem (some (.int r)) mem2) (hq_M_sums : ∀  mem r mem2, q_M_sums  mem = some (r, mem2) → gk_C tm (gk_zl z) (gk_zu z) me_M_sums (3 + dd) [.ref 0] mem (some (.int r)) mem2) (hq_M_compared : ∀  mem r mem2, q_M_compared  mem = some (r, mem2) → gk_C tm (gk_zl z) (gk_zu z) me_M_compared (3 + dd) [.ref 0] mem (some (.int r)) mem2) (hq_M_both : ∀  mem r mem2, q_M_both  mem = some (r, mem2) → gk_C tm (gk_zl z) (gk_zu z) me_M_both (3 + dd) [.ref 0] mem (some (.int r)) mem2) (hq_M_either : ∀  mem r mem2, q_M_either  mem = some (r, mem2) → gk_C tm (gk_zl z) (gk_zu z) me_M_either (3 + dd) [.ref 0] mem (some (.int r)) mem2) : ∀ a1 s0 m0, f_M_one_83 q_M_one q_M_product q_M_sums q_M_compared q_M_both q_M_either a1 s0 m0 = some (r, mem2) → gk_G tm z me_M_one (gk_R tm z (some (.int r)) mem2) m0 [(0, .ref 0), (1, .int a1)] [.int s0] 83 := by
  intro a1 s0 m0  h
  unfold f_M_one_83 at h
  refine gk_istore_n (lv2 := [(2, .int s0), (0, .ref 0), (1, .int a1)]) (pc := 83) K d_M_one_83 (by decide) rfl ?_
  refine gk_iload_n (pc := 84) K d_M_one_84 rfl ?_
  refine gk_bipush (pc := 85) K d_M_one_85 kb_40 ?_
  refine gk_ic_ne (tgt := 104) (pc := 87) K d_M_one_87 (by decide) h (fun h => ?_) (fun h => ?_)
  · exact gk_sub [1, 2, 0] rfl (s_M_one_104 K q_M_one q_M_product q_M_sums q_M_compared q_M_both q_M_either hq_M_one hq_M_product hq_M_sums hq_M_compared hq_M_both hq_M_either _ _ _  h)
  · refine gk_aload_n (pc := 90) K d_M_one_90 rfl ?_
    refine gk_bipush (pc := 91) K d_M_one_91 kb_41 ?_
    obtain ⟨v2, m1, em1, h⟩ := gk_bi_some h
    refine gk_cVi (As := [.int 41]) (pc := 93) K d_M_one_93 mv_M_179 mc_M_takes rfl tm_0 cl_ok10.1 (s_M_takes (gk_FD K)  em1) (by omega) rfl (Nat.le_of_ble_eq_true rfl) ?_
    refine gk_if_ne (tgt := 104) (pc := 96) K d_M_one_96 (by decide) h (fun h => ?_) (fun h => ?_)
    · exact gk_sub [1, 2, 0] rfl (s_M_one_104 K q_M_one q_M_product q_M_sums q_M_compared q_M_both q_M_either hq_M_one hq_M_product hq_M_sums hq_M_compared hq_M_both hq_M_either _ _ _  h)
    · refine gk_aload_n (pc := 99) K d_M_one_99 rfl ?_
      obtain ⟨v4, m3, em3, h⟩ := gk_bi_some h
      refine gk_cVi (As := []) (pc := 100) K d_M_one_100 mv_M_197 mc_M_wrong rfl tm_0 cl_ok10.1 (s_M_wrong (gk_FD K)  em3) (by omega) rfl (Nat.le_of_ble_eq_true rfl) ?_
      exact gk_iret (pc := 103) K d_M_one_103 rfl h
noncomputable def f_M_one_32 (q_M_one : gk_M → Option (Int32 × gk_M)) (q_M_product : gk_M → Option (Int32 × gk_M)) (q_M_sums : gk_M → Option (Int32 × gk_M)) (q_M_compared : gk_M → Option (Int32 × gk_M)) (q_M_both : gk_M → Option (Int32 × gk_M)) (q_M_either : gk_M → Option (Int32 × gk_M)) (a1 : Int32) (m0 : gk_M) : Option (Int32 × gk_M) :=
  if ¬ (m0.1 0 23) = 6 then
    gk_let (gk_mi m0 0 23 ((m0.1 0 23) + 1)) fun m1 =>
    gk_let (gk_mi m1 0 20 ((m1.1 0 20) + 1)) fun m2 =>
    if ¬ a1 = 40 then
      gk_bi (q_M_one  m2) fun v4 m3 =>
      f_M_one_83 q_M_one q_M_product q_M_sums q_M_compared q_M_both q_M_either a1 v4 m3
    else
      gk_bi (q_M_either  m2) fun v6 m5 =>
      f_M_one_83 q_M_one q_M_product q_M_sums q_M_compared q_M_both q_M_either a1 v6 m5
  else
    gk_bi (f_M_wrong  m0) fun v8 m7 =>
    some (v8, m7)

theorem s_M_one_32 {z : gk_Z} {dd : Nat} (K : gk_F tm z me_M_one (3 + (dd + 1))) {r : Int32} {mem2 : gk_M} (q_M_one : gk_M → Option (Int32 × gk_M)) (q_M_product : gk_M → Option (Int32 × gk_M)) (q_M_sums : gk_M → Option (Int32 × gk_M)) (q_M_compared : gk_M → Option (Int32 × gk_M)) (q_M_both : gk_M → Option (Int32 × gk_M)) (q_M_either : gk_M → Option (Int32 × gk_M)) (hq_M_one : ∀  mem r mem2, q_M_one  mem = some (r, mem2) → gk_C tm (gk_zl z) (gk_zu z) me_M_one (3 + dd) [.ref 0] mem (some (.int r)) mem2) (hq_M_product : ∀  mem r mem2, q_M_product  mem = some (r, mem2) → gk_C tm (gk_zl z) (gk_zu z) me_M_product (3 + dd) [.ref 0] mem (some (.int r)) mem2) (hq_M_sums : ∀  mem r mem2, q_M_sums  mem = some (r, mem2) → gk_C tm (gk_zl z) (gk_zu z) me_M_sums (3 + dd) [.ref 0] mem (some (.int r)) mem2) (hq_M_compared : ∀  mem r mem2, q_M_compared  mem = some (r, mem2) → gk_C tm (gk_zl z) (gk_zu z) me_M_compared (3 + dd) [.ref 0] mem (some (.int r)) mem2) (hq_M_both : ∀  mem r mem2, q_M_both  mem = some (r, mem2) → gk_C tm (gk_zl z) (gk_zu z) me_M_both (3 + dd) [.ref 0] mem (some (.int r)) mem2) (hq_M_either : ∀  mem r mem2, q_M_either  mem = some (r, mem2) → gk_C tm (gk_zl z) (gk_zu z) me_M_either (3 + dd) [.ref 0] mem (some (.int r)) mem2) : ∀ a1 m0, f_M_one_32 q_M_one q_M_product q_M_sums q_M_compared q_M_both q_M_either a1 m0 = some (r, mem2) → gk_G tm z me_M_one (gk_R tm z (some (.int r)) mem2) m0 [(0, .ref 0), (1, .int a1)] [] 32 := by
  intro a1 m0  h
  unfold f_M_one_32 at h
  refine gk_aload_n (pc := 32) K d_M_one_32 rfl ?_
  refine gk_get (pc := 33) K d_M_one_33 fl_M_194 tm_0 rfl rfl ?_
  refine gk_bipush (pc := 36) K d_M_one_36 kb_6 ?_
  refine gk_ic_ne (tgt := 46) (pc := 38) K d_M_one_38 (by decide) h (fun h => ?_) (fun h => ?_)
  · refine gk_aload_n (pc := 46) K d_M_one_46 rfl ?_
    refine gk_dup (pc := 47) K d_M_one_47 rfl ?_
    refine gk_get (pc := 48) K d_M_one_48 fl_M_194 tm_0 rfl rfl ?_
    refine gk_iconst (pc := 51) K d_M_one_51 kc_1 ?_
    refine gk_iadd (pc := 52) K d_M_one_52 ?_
    refine gk_puti (pc := 53) K d_M_one_53 fp_M_194 tm_0 rfl h (fun m1 h => ?_)
    refine gk_aload_n (pc := 56) K d_M_one_56 rfl ?_
    refine gk_dup (pc := 57) K d_M_one_57 rfl ?_
    refine gk_get (pc := 58) K d_M_one_58 fl_M_160 tm_0 rfl rfl ?_
    refine gk_iconst (pc := 61) K d_M_one_61 kc_1 ?_
    refine gk_iadd (pc := 62) K d_M_one_62 ?_
    refine gk_puti (pc := 63) K d_M_one_63 fp_M_160 tm_0 rfl h (fun m2 h => ?_)
    refine gk_iload_n (pc := 66) K d_M_one_66 rfl ?_
    refine gk_bipush (pc := 67) K d_M_one_67 kb_40 ?_
    refine gk_ic_ne (tgt := 79) (pc := 69) K d_M_one_69 (by decide) h (fun h => ?_) (fun h => ?_)
    · refine gk_aload_n (pc := 79) K d_M_one_79 rfl ?_
      obtain ⟨v4, m3, em3, h⟩ := gk_bi_some h
      refine gk_cVi (As := []) (pc := 80) K d_M_one_80 mv_M_191 mc_M_one rfl tm_0 cl_ok10.1 (hq_M_one  _ _ _ em3) (by omega) rfl (Nat.le_of_ble_eq_true rfl) ?_
      exact gk_sub [0, 1] rfl (s_M_one_83 K q_M_one q_M_product q_M_sums q_M_compared q_M_both q_M_either hq_M_one hq_M_product hq_M_sums hq_M_compared hq_M_both hq_M_either _ _ _  h)
    · refine gk_aload_n (pc := 72) K d_M_one_72 rfl ?_
      obtain ⟨v6, m5, em5, h⟩ := gk_bi_some h
      refine gk_cVi (As := []) (pc := 73) K d_M_one_73 mv_M_200 mc_M_either rfl tm_0 cl_ok10.1 (hq_M_either  _ _ _ em5) (by omega) rfl (Nat.le_of_ble_eq_true rfl) ?_
      refine gk_goto (tgt := 83) (pc := 76) K d_M_one_76 (by decide) ?_
      exact gk_sub [0, 1] rfl (s_M_one_83 K q_M_one q_M_product q_M_sums q_M_compared q_M_both q_M_either hq_M_one hq_M_product hq_M_sums hq_M_compared hq_M_both hq_M_either _ _ _  h)
  · refine gk_aload_n (pc := 41) K d_M_one_41 rfl ?_
    obtain ⟨v8, m7, em7, h⟩ := gk_bi_some h
    refine gk_cVi (As := []) (pc := 42) K d_M_one_42 mv_M_197 mc_M_wrong rfl tm_0 cl_ok10.1 (s_M_wrong (gk_FD K)  em7) (by omega) rfl (Nat.le_of_ble_eq_true rfl) ?_
    exact gk_iret (pc := 45) K d_M_one_45 rfl h
noncomputable def f_M_one_0 (q_M_one : gk_M → Option (Int32 × gk_M)) (q_M_product : gk_M → Option (Int32 × gk_M)) (q_M_sums : gk_M → Option (Int32 × gk_M)) (q_M_compared : gk_M → Option (Int32 × gk_M)) (q_M_both : gk_M → Option (Int32 × gk_M)) (q_M_either : gk_M → Option (Int32 × gk_M))  (m0 : gk_M) : Option (Int32 × gk_M) :=
  if (m0.1 0 22) < 0 then
    gk_bi (f_M_byteAt  m0) fun v2 m1 =>
    if v2 = 33 then
      f_M_one_32 q_M_one q_M_product q_M_sums q_M_compared q_M_both q_M_either v2 m1
    else
      if v2 = 45 then
        f_M_one_32 q_M_one q_M_product q_M_sums q_M_compared q_M_both q_M_either v2 m1
      else
        if ¬ v2 = 40 then
          gk_bi (f_M_nameOf v2 m1) fun v4 m3 =>
          if v4 < 0 then
            f_M_one_176 q_M_one q_M_product q_M_sums q_M_compared q_M_both q_M_either gk_fv 0 0 m3
          else
            gk_let (gk_mi m3 0 20 ((m3.1 0 20) + 1)) fun m5 =>
            gk_ai m5 13 6 v4 fun v6 =>
            some (v6, m5)
        else
          f_M_one_32 q_M_one q_M_product q_M_sums q_M_compared q_M_both q_M_either v2 m1
  else
    some (0, m0)

theorem s_M_one_0 {z : gk_Z} {dd : Nat} (K : gk_F tm z me_M_one (3 + (dd + 1))) {r : Int32} {mem2 : gk_M} (q_M_one : gk_M → Option (Int32 × gk_M)) (q_M_product : gk_M → Option (Int32 × gk_M)) (q_M_sums : gk_M → Option (Int32 × gk_M)) (q_M_compared : gk_M → Option (Int32 × gk_M)) (q_M_both : gk_M → Option (Int32 × gk_M)) (q_M_either : gk_M → Option (Int32 × gk_M)) (hq_M_one : ∀  mem r mem2, q_M_one  mem = some (r, mem2) → gk_C tm (gk_zl z) (gk_zu z) me_M_one (3 + dd) [.ref 0] mem (some (.int r)) mem2) (hq_M_product : ∀  mem r mem2, q_M_product  mem = some (r, mem2) → gk_C tm (gk_zl z) (gk_zu z) me_M_product (3 + dd) [.ref 0] mem (some (.int r)) mem2) (hq_M_sums : ∀  mem r mem2, q_M_sums  mem = some (r, mem2) → gk_C tm (gk_zl z) (gk_zu z) me_M_sums (3 + dd) [.ref 0] mem (some (.int r)) mem2) (hq_M_compared : ∀  mem r mem2, q_M_compared  mem = some (r, mem2) → gk_C tm (gk_zl z) (gk_zu z) me_M_compared (3 + dd) [.ref 0] mem (some (.int r)) mem2) (hq_M_both : ∀  mem r mem2, q_M_both  mem = some (r, mem2) → gk_C tm (gk_zl z) (gk_zu z) me_M_both (3 + dd) [.ref 0] mem (some (.int r)) mem2) (hq_M_either : ∀  mem r mem2, q_M_either  mem = some (r, mem2) → gk_C tm (gk_zl z) (gk_zu z) me_M_either (3 + dd) [.ref 0] mem (some (.int r)) mem2) : ∀  m0, f_M_one_0 q_M_one q_M_product q_M_sums q_M_compared q_M_both q_M_either  m0 = some (r, mem2) → gk_G tm z me_M_one (gk_R tm z (some (.int r)) mem2) m0 [(0, .ref 0)] [] 0 := by
  intro  m0  h
  unfold f_M_one_0 at h
  refine gk_aload_n (pc := 0) K d_M_one_0 rfl ?_
  refine gk_get (pc := 1) K d_M_one_1 fl_M_169 tm_0 rfl rfl ?_
  refine gk_if_lt (tgt := 9) (pc := 4) K d_M_one_4 (by decide) h (fun h => ?_) (fun h => ?_)
  · refine gk_aload_n (pc := 9) K d_M_one_9 rfl ?_
    obtain ⟨v2, m1, em1, h⟩ := gk_bi_some h
    refine gk_cVi (As := []) (pc := 10) K d_M_one_10 mv_M_172 mc_M_byteAt rfl tm_0 cl_ok10.1 (s_M_byteAt (gk_FD K)  em1) (by omega) rfl (Nat.le_of_ble_eq_true rfl) ?_
    refine gk_istore_n (lv2 := [(1, .int v2), (0, .ref 0)]) (pc := 13) K d_M_one_13 (by decide) rfl ?_
    refine gk_iload_n (pc := 14) K d_M_one_14 rfl ?_
    refine gk_bipush (pc := 15) K d_M_one_15 kb_33 ?_
    refine gk_ic_eq (tgt := 32) (pc := 17) K d_M_one_17 (by decide) h (fun h => ?_) (fun h => ?_)
    · exact gk_sub [1, 0] rfl (s_M_one_32 K q_M_one q_M_product q_M_sums q_M_compared q_M_both q_M_either hq_M_one hq_M_product hq_M_sums hq_M_compared hq_M_both hq_M_either _ _  h)
    · refine gk_iload_n (pc := 20) K d_M_one_20 rfl ?_
      refine gk_bipush (pc := 21) K d_M_one_21 kb_45 ?_
      refine gk_ic_eq (tgt := 32) (pc := 23) K d_M_one_23 (by decide) h (fun h => ?_) (fun h => ?_)
      · exact gk_sub [1, 0] rfl (s_M_one_32 K q_M_one q_M_product q_M_sums q_M_compared q_M_both q_M_either hq_M_one hq_M_product hq_M_sums hq_M_compared hq_M_both hq_M_either _ _  h)
      · refine gk_iload_n (pc := 26) K d_M_one_26 rfl ?_
        refine gk_bipush (pc := 27) K d_M_one_27 kb_40 ?_
        refine gk_ic_ne (tgt := 145) (pc := 29) K d_M_one_29 (by decide) h (fun h => ?_) (fun h => ?_)
        · refine gk_iload_n (pc := 145) K d_M_one_145 rfl ?_
          obtain ⟨v4, m3, em3, h⟩ := gk_bi_some h
          refine gk_cSi (As := [.int v2]) (pc := 146) K d_M_one_146 ms_M_203 mc_M_nameOf rfl (s_M_nameOf (gk_FD K)  em3) (by omega) rfl (Nat.le_of_ble_eq_true rfl) ?_
          refine gk_istore_n (lv2 := [(2, .int v4), (1, .int v2), (0, .ref 0)]) (pc := 149) K d_M_one_149 (by decide) rfl ?_
          refine gk_iload_n (pc := 150) K d_M_one_150 rfl ?_
          refine gk_if_lt (tgt := 171) (pc := 151) K d_M_one_151 (by decide) h (fun h => ?_) (fun h => ?_)
          · refine gk_iconst (pc := 171) K d_M_one_171 kc_0 ?_
            refine gk_istore_n (lv2 := [(3, .int 0), (2, .int v4), (1, .int v2), (0, .ref 0)]) (pc := 172) K d_M_one_172 (by decide) rfl ?_
            refine gk_iconst (pc := 173) K d_M_one_173 kc_0 ?_
            refine gk_istore (lv2 := [(4, .int 0), (3, .int 0), (2, .int v4), (1, .int v2), (0, .ref 0)]) (pc := 174) K d_M_one_174 (by decide) rfl ?_
            exact gk_sub [4, 1, 0] rfl (s_M_one_176 K q_M_one q_M_product q_M_sums q_M_compared q_M_both q_M_either hq_M_one hq_M_product hq_M_sums hq_M_compared hq_M_both hq_M_either _ _ _ _  h)
          · refine gk_aload_n (pc := 154) K d_M_one_154 rfl ?_
            refine gk_dup (pc := 155) K d_M_one_155 rfl ?_
            refine gk_get (pc := 156) K d_M_one_156 fl_M_160 tm_0 rfl rfl ?_
            refine gk_iconst (pc := 159) K d_M_one_159 kc_1 ?_
            refine gk_iadd (pc := 160) K d_M_one_160 ?_
            refine gk_puti (pc := 161) K d_M_one_161 fp_M_160 tm_0 rfl h (fun m5 h => ?_)
            refine gk_aload_n (pc := 164) K d_M_one_164 rfl ?_
            refine gk_get (pc := 165) K d_M_one_165 fl_M_46 tm_0 rfl rfl ?_
            refine gk_iload_n (pc := 168) K d_M_one_168 rfl ?_
            refine gk_iald (pc := 169) K d_M_one_169 tm_13 h (fun v6 h => ?_)
            exact gk_iret (pc := 170) K d_M_one_170 rfl h
        · exact gk_sub [1, 0] rfl (s_M_one_32 K q_M_one q_M_product q_M_sums q_M_compared q_M_both q_M_either hq_M_one hq_M_product hq_M_sums hq_M_compared hq_M_both hq_M_either _ _  h)
  · refine gk_iconst (pc := 7) K d_M_one_7 kc_0 ?_
    exact gk_iret (pc := 8) K d_M_one_8 rfl h
theorem d_M_product_0 : decode me_M_product.2.1 0 = .ok (.aload_n 0, 1) := by decide +kernel
theorem d_M_product_1 : decode me_M_product.2.1 1 = .ok (.invokevirtual 191, 3) := by decide +kernel
theorem d_M_product_4 : decode me_M_product.2.1 4 = .ok (.istore_n 1, 1) := by decide +kernel
theorem d_M_product_5 : decode me_M_product.2.1 5 = .ok (.aload_n 0, 1) := by decide +kernel
theorem d_M_product_6 : decode me_M_product.2.1 6 = .ok (.invokevirtual 172, 3) := by decide +kernel
theorem d_M_product_9 : decode me_M_product.2.1 9 = .ok (.istore_n 2, 1) := by decide +kernel
theorem d_M_product_10 : decode me_M_product.2.1 10 = .ok (.aload_n 0, 1) := by decide +kernel
theorem d_M_product_11 : decode me_M_product.2.1 11 = .ok (.getfield 169, 3) := by decide +kernel
theorem d_M_product_14 : decode me_M_product.2.1 14 = .ok (.ifCond .ge 80, 3) := by decide +kernel
theorem d_M_product_17 : decode me_M_product.2.1 17 = .ok (.iload_n 2, 1) := by decide +kernel
theorem d_M_product_18 : decode me_M_product.2.1 18 = .ok (.bipush 42, 2) := by decide +kernel
theorem d_M_product_20 : decode me_M_product.2.1 20 = .ok (.if_icmp .eq 15, 3) := by decide +kernel
theorem d_M_product_23 : decode me_M_product.2.1 23 = .ok (.iload_n 2, 1) := by decide +kernel
theorem d_M_product_24 : decode me_M_product.2.1 24 = .ok (.bipush 47, 2) := by decide +kernel
theorem d_M_product_26 : decode me_M_product.2.1 26 = .ok (.if_icmp .eq 9, 3) := by decide +kernel
theorem d_M_product_29 : decode me_M_product.2.1 29 = .ok (.iload_n 2, 1) := by decide +kernel
theorem d_M_product_30 : decode me_M_product.2.1 30 = .ok (.bipush 37, 2) := by decide +kernel
theorem d_M_product_32 : decode me_M_product.2.1 32 = .ok (.if_icmp .ne 62, 3) := by decide +kernel
theorem d_M_product_35 : decode me_M_product.2.1 35 = .ok (.aload_n 0, 1) := by decide +kernel
theorem d_M_product_36 : decode me_M_product.2.1 36 = .ok (.dup, 1) := by decide +kernel
theorem d_M_product_37 : decode me_M_product.2.1 37 = .ok (.getfield 160, 3) := by decide +kernel
theorem d_M_product_40 : decode me_M_product.2.1 40 = .ok (.iconst 1, 1) := by decide +kernel
theorem d_M_product_41 : decode me_M_product.2.1 41 = .ok (.iadd, 1) := by decide +kernel
theorem d_M_product_42 : decode me_M_product.2.1 42 = .ok (.putfield 160, 3) := by decide +kernel
theorem d_M_product_45 : decode me_M_product.2.1 45 = .ok (.aload_n 0, 1) := by decide +kernel
theorem d_M_product_46 : decode me_M_product.2.1 46 = .ok (.invokevirtual 191, 3) := by decide +kernel
theorem d_M_product_49 : decode me_M_product.2.1 49 = .ok (.istore_n 3, 1) := by decide +kernel
theorem d_M_product_50 : decode me_M_product.2.1 50 = .ok (.iload_n 2, 1) := by decide +kernel
theorem d_M_product_51 : decode me_M_product.2.1 51 = .ok (.bipush 42, 2) := by decide +kernel
theorem d_M_product_53 : decode me_M_product.2.1 53 = .ok (.if_icmp .ne 9, 3) := by decide +kernel
theorem d_M_product_56 : decode me_M_product.2.1 56 = .ok (.iload_n 1, 1) := by decide +kernel
theorem d_M_product_57 : decode me_M_product.2.1 57 = .ok (.iload_n 3, 1) := by decide +kernel
theorem d_M_product_58 : decode me_M_product.2.1 58 = .ok (.imul, 1) := by decide +kernel
theorem d_M_product_59 : decode me_M_product.2.1 59 = .ok (.goto 26, 3) := by decide +kernel
theorem d_M_product_62 : decode me_M_product.2.1 62 = .ok (.iload_n 3, 1) := by decide +kernel
theorem d_M_product_63 : decode me_M_product.2.1 63 = .ok (.ifCond .ne 7, 3) := by decide +kernel
theorem d_M_product_66 : decode me_M_product.2.1 66 = .ok (.iconst 0, 1) := by decide +kernel
theorem d_M_product_67 : decode me_M_product.2.1 67 = .ok (.goto 18, 3) := by decide +kernel
theorem d_M_product_70 : decode me_M_product.2.1 70 = .ok (.iload_n 2, 1) := by decide +kernel
theorem d_M_product_71 : decode me_M_product.2.1 71 = .ok (.bipush 47, 2) := by decide +kernel
theorem d_M_product_73 : decode me_M_product.2.1 73 = .ok (.if_icmp .ne 9, 3) := by decide +kernel
theorem d_M_product_76 : decode me_M_product.2.1 76 = .ok (.iload_n 1, 1) := by decide +kernel
theorem d_M_product_77 : decode me_M_product.2.1 77 = .ok (.iload_n 3, 1) := by decide +kernel
theorem d_M_product_78 : decode me_M_product.2.1 78 = .ok (.idiv, 1) := by decide +kernel
theorem d_M_product_79 : decode me_M_product.2.1 79 = .ok (.goto 6, 3) := by decide +kernel
theorem d_M_product_82 : decode me_M_product.2.1 82 = .ok (.iload_n 1, 1) := by decide +kernel
theorem d_M_product_83 : decode me_M_product.2.1 83 = .ok (.iload_n 3, 1) := by decide +kernel
theorem d_M_product_84 : decode me_M_product.2.1 84 = .ok (.irem, 1) := by decide +kernel
theorem d_M_product_85 : decode me_M_product.2.1 85 = .ok (.istore_n 1, 1) := by decide +kernel
theorem d_M_product_86 : decode me_M_product.2.1 86 = .ok (.aload_n 0, 1) := by decide +kernel
theorem d_M_product_87 : decode me_M_product.2.1 87 = .ok (.invokevirtual 172, 3) := by decide +kernel
theorem d_M_product_90 : decode me_M_product.2.1 90 = .ok (.istore_n 2, 1) := by decide +kernel
theorem d_M_product_91 : decode me_M_product.2.1 91 = .ok (.goto (-81), 3) := by decide +kernel
theorem d_M_product_94 : decode me_M_product.2.1 94 = .ok (.iload_n 1, 1) := by decide +kernel
theorem d_M_product_95 : decode me_M_product.2.1 95 = .ok (.ireturn, 1) := by decide +kernel
noncomputable def f_M_product_85 (q_M_one : gk_M → Option (Int32 × gk_M)) (q_M_product : gk_M → Option (Int32 × gk_M)) (q_M_sums : gk_M → Option (Int32 × gk_M)) (q_M_compared : gk_M → Option (Int32 × gk_M)) (q_M_both : gk_M → Option (Int32 × gk_M)) (q_M_either : gk_M → Option (Int32 × gk_M)) (k10 : Int32 → Int32 → gk_M → Option (Int32 × gk_M)) (s0 : Int32) (m0 : gk_M) : Option (Int32 × gk_M) :=
  gk_bi (f_M_byteAt  m0) fun v2 m1 =>
  k10 s0 v2 m1

theorem s_M_product_85 {z : gk_Z} {dd : Nat} (K : gk_F tm z me_M_product (3 + (dd + 1))) {r : Int32} {mem2 : gk_M} (q_M_one : gk_M → Option (Int32 × gk_M)) (q_M_product : gk_M → Option (Int32 × gk_M)) (q_M_sums : gk_M → Option (Int32 × gk_M)) (q_M_compared : gk_M → Option (Int32 × gk_M)) (q_M_both : gk_M → Option (Int32 × gk_M)) (q_M_either : gk_M → Option (Int32 × gk_M)) (hq_M_one : ∀  mem r mem2, q_M_one  mem = some (r, mem2) → gk_C tm (gk_zl z) (gk_zu z) me_M_one (3 + dd) [.ref 0] mem (some (.int r)) mem2) (hq_M_product : ∀  mem r mem2, q_M_product  mem = some (r, mem2) → gk_C tm (gk_zl z) (gk_zu z) me_M_product (3 + dd) [.ref 0] mem (some (.int r)) mem2) (hq_M_sums : ∀  mem r mem2, q_M_sums  mem = some (r, mem2) → gk_C tm (gk_zl z) (gk_zu z) me_M_sums (3 + dd) [.ref 0] mem (some (.int r)) mem2) (hq_M_compared : ∀  mem r mem2, q_M_compared  mem = some (r, mem2) → gk_C tm (gk_zl z) (gk_zu z) me_M_compared (3 + dd) [.ref 0] mem (some (.int r)) mem2) (hq_M_both : ∀  mem r mem2, q_M_both  mem = some (r, mem2) → gk_C tm (gk_zl z) (gk_zu z) me_M_both (3 + dd) [.ref 0] mem (some (.int r)) mem2) (hq_M_either : ∀  mem r mem2, q_M_either  mem = some (r, mem2) → gk_C tm (gk_zl z) (gk_zu z) me_M_either (3 + dd) [.ref 0] mem (some (.int r)) mem2) {k10 : Int32 → Int32 → gk_M → Option (Int32 × gk_M)} (hk10 : ∀ a1 a2 m0, k10 a1 a2 m0 = some (r, mem2) → gk_G tm z me_M_product (gk_R tm z (some (.int r)) mem2) m0 [(0, .ref 0), (1, .int a1), (2, .int a2)] [] 10) : ∀ s0 m0, f_M_product_85 q_M_one q_M_product q_M_sums q_M_compared q_M_both q_M_either k10 s0 m0 = some (r, mem2) → gk_G tm z me_M_product (gk_R tm z (some (.int r)) mem2) m0 [(0, .ref 0)] [.int s0] 85 := by
  intro s0 m0  h
  unfold f_M_product_85 at h
  refine gk_istore_n (lv2 := [(1, .int s0), (0, .ref 0)]) (pc := 85) K d_M_product_85 (by decide) rfl ?_
  refine gk_aload_n (pc := 86) K d_M_product_86 rfl ?_
  obtain ⟨v2, m1, em1, h⟩ := gk_bi_some h
  refine gk_cVi (As := []) (pc := 87) K d_M_product_87 mv_M_172 mc_M_byteAt rfl tm_0 cl_ok10.1 (s_M_byteAt (gk_FD K)  em1) (by omega) rfl (Nat.le_of_ble_eq_true rfl) ?_
  refine gk_istore_n (lv2 := [(2, .int v2), (1, .int s0), (0, .ref 0)]) (pc := 90) K d_M_product_90 (by decide) rfl ?_
  refine gk_goto (tgt := 10) (pc := 91) K d_M_product_91 (by decide) ?_
  exact gk_sub [2, 1, 0] rfl (hk10 _ _ _  h)
noncomputable def f_M_product_35 (q_M_one : gk_M → Option (Int32 × gk_M)) (q_M_product : gk_M → Option (Int32 × gk_M)) (q_M_sums : gk_M → Option (Int32 × gk_M)) (q_M_compared : gk_M → Option (Int32 × gk_M)) (q_M_both : gk_M → Option (Int32 × gk_M)) (q_M_either : gk_M → Option (Int32 × gk_M)) (k10 : Int32 → Int32 → gk_M → Option (Int32 × gk_M)) (a1 : Int32) (a2 : Int32) (m0 : gk_M) : Option (Int32 × gk_M) :=
  gk_let (gk_mi m0 0 20 ((m0.1 0 20) + 1)) fun m1 =>
  gk_bi (q_M_one  m1) fun v3 m2 =>
  if ¬ a2 = 42 then
    if ¬ v3 = 0 then
      if ¬ a2 = 47 then
        gk_re a1 v3 fun v4 =>
        f_M_product_85 q_M_one q_M_product q_M_sums q_M_compared q_M_both q_M_either k10 v4 m2
      else
        gk_di a1 v3 fun v5 =>
        f_M_product_85 q_M_one q_M_product q_M_sums q_M_compared q_M_both q_M_either k10 v5 m2
    else
      f_M_product_85 q_M_one q_M_product q_M_sums q_M_compared q_M_both q_M_either k10 0 m2
  else
    f_M_product_85 q_M_one q_M_product q_M_sums q_M_compared q_M_both q_M_either k10 (a1 * v3) m2

theorem s_M_product_35 {z : gk_Z} {dd : Nat} (K : gk_F tm z me_M_product (3 + (dd + 1))) {r : Int32} {mem2 : gk_M} (q_M_one : gk_M → Option (Int32 × gk_M)) (q_M_product : gk_M → Option (Int32 × gk_M)) (q_M_sums : gk_M → Option (Int32 × gk_M)) (q_M_compared : gk_M → Option (Int32 × gk_M)) (q_M_both : gk_M → Option (Int32 × gk_M)) (q_M_either : gk_M → Option (Int32 × gk_M)) (hq_M_one : ∀  mem r mem2, q_M_one  mem = some (r, mem2) → gk_C tm (gk_zl z) (gk_zu z) me_M_one (3 + dd) [.ref 0] mem (some (.int r)) mem2) (hq_M_product : ∀  mem r mem2, q_M_product  mem = some (r, mem2) → gk_C tm (gk_zl z) (gk_zu z) me_M_product (3 + dd) [.ref 0] mem (some (.int r)) mem2) (hq_M_sums : ∀  mem r mem2, q_M_sums  mem = some (r, mem2) → gk_C tm (gk_zl z) (gk_zu z) me_M_sums (3 + dd) [.ref 0] mem (some (.int r)) mem2) (hq_M_compared : ∀  mem r mem2, q_M_compared  mem = some (r, mem2) → gk_C tm (gk_zl z) (gk_zu z) me_M_compared (3 + dd) [.ref 0] mem (some (.int r)) mem2) (hq_M_both : ∀  mem r mem2, q_M_both  mem = some (r, mem2) → gk_C tm (gk_zl z) (gk_zu z) me_M_both (3 + dd) [.ref 0] mem (some (.int r)) mem2) (hq_M_either : ∀  mem r mem2, q_M_either  mem = some (r, mem2) → gk_C tm (gk_zl z) (gk_zu z) me_M_either (3 + dd) [.ref 0] mem (some (.int r)) mem2) {k10 : Int32 → Int32 → gk_M → Option (Int32 × gk_M)} (hk10 : ∀ a1 a2 m0, k10 a1 a2 m0 = some (r, mem2) → gk_G tm z me_M_product (gk_R tm z (some (.int r)) mem2) m0 [(0, .ref 0), (1, .int a1), (2, .int a2)] [] 10) : ∀ a1 a2 m0, f_M_product_35 q_M_one q_M_product q_M_sums q_M_compared q_M_both q_M_either k10 a1 a2 m0 = some (r, mem2) → gk_G tm z me_M_product (gk_R tm z (some (.int r)) mem2) m0 [(0, .ref 0), (1, .int a1), (2, .int a2)] [] 35 := by
  intro a1 a2 m0  h
  unfold f_M_product_35 at h
  refine gk_aload_n (pc := 35) K d_M_product_35 rfl ?_
  refine gk_dup (pc := 36) K d_M_product_36 rfl ?_
  refine gk_get (pc := 37) K d_M_product_37 fl_M_160 tm_0 rfl rfl ?_
  refine gk_iconst (pc := 40) K d_M_product_40 kc_1 ?_
  refine gk_iadd (pc := 41) K d_M_product_41 ?_
  refine gk_puti (pc := 42) K d_M_product_42 fp_M_160 tm_0 rfl h (fun m1 h => ?_)
  refine gk_aload_n (pc := 45) K d_M_product_45 rfl ?_
  obtain ⟨v3, m2, em2, h⟩ := gk_bi_some h
  refine gk_cVi (As := []) (pc := 46) K d_M_product_46 mv_M_191 mc_M_one rfl tm_0 cl_ok10.1 (hq_M_one  _ _ _ em2) (by omega) rfl (Nat.le_of_ble_eq_true rfl) ?_
  refine gk_istore_n (lv2 := [(3, .int v3), (0, .ref 0), (1, .int a1), (2, .int a2)]) (pc := 49) K d_M_product_49 (by decide) rfl ?_
  refine gk_iload_n (pc := 50) K d_M_product_50 rfl ?_
  refine gk_bipush (pc := 51) K d_M_product_51 kb_42 ?_
  refine gk_ic_ne (tgt := 62) (pc := 53) K d_M_product_53 (by decide) h (fun h => ?_) (fun h => ?_)
  · refine gk_iload_n (pc := 62) K d_M_product_62 rfl ?_
    refine gk_if_ne (tgt := 70) (pc := 63) K d_M_product_63 (by decide) h (fun h => ?_) (fun h => ?_)
    · refine gk_iload_n (pc := 70) K d_M_product_70 rfl ?_
      refine gk_bipush (pc := 71) K d_M_product_71 kb_47 ?_
      refine gk_ic_ne (tgt := 82) (pc := 73) K d_M_product_73 (by decide) h (fun h => ?_) (fun h => ?_)
      · refine gk_iload_n (pc := 82) K d_M_product_82 rfl ?_
        refine gk_iload_n (pc := 83) K d_M_product_83 rfl ?_
        refine gk_irem (pc := 84) K d_M_product_84 h (fun v4 h => ?_)
        exact gk_sub [1] rfl (s_M_product_85 K q_M_one q_M_product q_M_sums q_M_compared q_M_both q_M_either hq_M_one hq_M_product hq_M_sums hq_M_compared hq_M_both hq_M_either hk10 _ _  h)
      · refine gk_iload_n (pc := 76) K d_M_product_76 rfl ?_
        refine gk_iload_n (pc := 77) K d_M_product_77 rfl ?_
        refine gk_idiv (pc := 78) K d_M_product_78 h (fun v5 h => ?_)
        refine gk_goto (tgt := 85) (pc := 79) K d_M_product_79 (by decide) ?_
        exact gk_sub [1] rfl (s_M_product_85 K q_M_one q_M_product q_M_sums q_M_compared q_M_both q_M_either hq_M_one hq_M_product hq_M_sums hq_M_compared hq_M_both hq_M_either hk10 _ _  h)
    · refine gk_iconst (pc := 66) K d_M_product_66 kc_0 ?_
      refine gk_goto (tgt := 85) (pc := 67) K d_M_product_67 (by decide) ?_
      exact gk_sub [1] rfl (s_M_product_85 K q_M_one q_M_product q_M_sums q_M_compared q_M_both q_M_either hq_M_one hq_M_product hq_M_sums hq_M_compared hq_M_both hq_M_either hk10 _ _  h)
  · refine gk_iload_n (pc := 56) K d_M_product_56 rfl ?_
    refine gk_iload_n (pc := 57) K d_M_product_57 rfl ?_
    refine gk_imul (pc := 58) K d_M_product_58 ?_
    refine gk_goto (tgt := 85) (pc := 59) K d_M_product_59 (by decide) ?_
    exact gk_sub [1] rfl (s_M_product_85 K q_M_one q_M_product q_M_sums q_M_compared q_M_both q_M_either hq_M_one hq_M_product hq_M_sums hq_M_compared hq_M_both hq_M_either hk10 _ _  h)
noncomputable def f_M_product_10 (q_M_one : gk_M → Option (Int32 × gk_M)) (q_M_product : gk_M → Option (Int32 × gk_M)) (q_M_sums : gk_M → Option (Int32 × gk_M)) (q_M_compared : gk_M → Option (Int32 × gk_M)) (q_M_both : gk_M → Option (Int32 × gk_M)) (q_M_either : gk_M → Option (Int32 × gk_M)) : Nat → Int32 → Int32 → gk_M → Option (Int32 × gk_M)
  | 0, _, _, _ => none
  | n + 1, a1, a2, m0 =>
    if 0 ≤ (m0.1 0 22) then
      some (a1, m0)
    else
      if a2 = 42 then
        f_M_product_35 q_M_one q_M_product q_M_sums q_M_compared q_M_both q_M_either (f_M_product_10 q_M_one q_M_product q_M_sums q_M_compared q_M_both q_M_either n) a1 a2 m0
      else
        if a2 = 47 then
          f_M_product_35 q_M_one q_M_product q_M_sums q_M_compared q_M_both q_M_either (f_M_product_10 q_M_one q_M_product q_M_sums q_M_compared q_M_both q_M_either n) a1 a2 m0
        else
          if ¬ a2 = 37 then
            some (a1, m0)
          else
            f_M_product_35 q_M_one q_M_product q_M_sums q_M_compared q_M_both q_M_either (f_M_product_10 q_M_one q_M_product q_M_sums q_M_compared q_M_both q_M_either n) a1 a2 m0

theorem s_M_product_10 {z : gk_Z} {dd : Nat} (K : gk_F tm z me_M_product (3 + (dd + 1))) {r : Int32} {mem2 : gk_M} (q_M_one : gk_M → Option (Int32 × gk_M)) (q_M_product : gk_M → Option (Int32 × gk_M)) (q_M_sums : gk_M → Option (Int32 × gk_M)) (q_M_compared : gk_M → Option (Int32 × gk_M)) (q_M_both : gk_M → Option (Int32 × gk_M)) (q_M_either : gk_M → Option (Int32 × gk_M)) (hq_M_one : ∀  mem r mem2, q_M_one  mem = some (r, mem2) → gk_C tm (gk_zl z) (gk_zu z) me_M_one (3 + dd) [.ref 0] mem (some (.int r)) mem2) (hq_M_product : ∀  mem r mem2, q_M_product  mem = some (r, mem2) → gk_C tm (gk_zl z) (gk_zu z) me_M_product (3 + dd) [.ref 0] mem (some (.int r)) mem2) (hq_M_sums : ∀  mem r mem2, q_M_sums  mem = some (r, mem2) → gk_C tm (gk_zl z) (gk_zu z) me_M_sums (3 + dd) [.ref 0] mem (some (.int r)) mem2) (hq_M_compared : ∀  mem r mem2, q_M_compared  mem = some (r, mem2) → gk_C tm (gk_zl z) (gk_zu z) me_M_compared (3 + dd) [.ref 0] mem (some (.int r)) mem2) (hq_M_both : ∀  mem r mem2, q_M_both  mem = some (r, mem2) → gk_C tm (gk_zl z) (gk_zu z) me_M_both (3 + dd) [.ref 0] mem (some (.int r)) mem2) (hq_M_either : ∀  mem r mem2, q_M_either  mem = some (r, mem2) → gk_C tm (gk_zl z) (gk_zu z) me_M_either (3 + dd) [.ref 0] mem (some (.int r)) mem2) : ∀ n a1 a2 m0, f_M_product_10 q_M_one q_M_product q_M_sums q_M_compared q_M_both q_M_either n a1 a2 m0 = some (r, mem2) → gk_G tm z me_M_product (gk_R tm z (some (.int r)) mem2) m0 [(0, .ref 0), (1, .int a1), (2, .int a2)] [] 10 := by
  intro n
  induction n with
  | zero => intro a1 a2 m0  h; exact nomatch (show (none : Option _) = some _ from h)
  | succ n ih =>
    intro a1 a2 m0  h
    unfold f_M_product_10 at h
    refine gk_aload_n (pc := 10) K d_M_product_10 rfl ?_
    refine gk_get (pc := 11) K d_M_product_11 fl_M_169 tm_0 rfl rfl ?_
    refine gk_if_ge (tgt := 94) (pc := 14) K d_M_product_14 (by decide) h (fun h => ?_) (fun h => ?_)
    · refine gk_iload_n (pc := 94) K d_M_product_94 rfl ?_
      exact gk_iret (pc := 95) K d_M_product_95 rfl h
    · refine gk_iload_n (pc := 17) K d_M_product_17 rfl ?_
      refine gk_bipush (pc := 18) K d_M_product_18 kb_42 ?_
      refine gk_ic_eq (tgt := 35) (pc := 20) K d_M_product_20 (by decide) h (fun h => ?_) (fun h => ?_)
      · exact gk_sub [0, 1, 2] rfl (s_M_product_35 K q_M_one q_M_product q_M_sums q_M_compared q_M_both q_M_either hq_M_one hq_M_product hq_M_sums hq_M_compared hq_M_both hq_M_either (fun x0 x1 m  h => ih x0 x1 m  h) _ _ _  h)
      · refine gk_iload_n (pc := 23) K d_M_product_23 rfl ?_
        refine gk_bipush (pc := 24) K d_M_product_24 kb_47 ?_
        refine gk_ic_eq (tgt := 35) (pc := 26) K d_M_product_26 (by decide) h (fun h => ?_) (fun h => ?_)
        · exact gk_sub [0, 1, 2] rfl (s_M_product_35 K q_M_one q_M_product q_M_sums q_M_compared q_M_both q_M_either hq_M_one hq_M_product hq_M_sums hq_M_compared hq_M_both hq_M_either (fun x0 x1 m  h => ih x0 x1 m  h) _ _ _  h)
        · refine gk_iload_n (pc := 29) K d_M_product_29 rfl ?_
          refine gk_bipush (pc := 30) K d_M_product_30 kb_37 ?_
          refine gk_ic_ne (tgt := 94) (pc := 32) K d_M_product_32 (by decide) h (fun h => ?_) (fun h => ?_)
          · refine gk_iload_n (pc := 94) K d_M_product_94 rfl ?_
            exact gk_iret (pc := 95) K d_M_product_95 rfl h
          · exact gk_sub [0, 1, 2] rfl (s_M_product_35 K q_M_one q_M_product q_M_sums q_M_compared q_M_both q_M_either hq_M_one hq_M_product hq_M_sums hq_M_compared hq_M_both hq_M_either (fun x0 x1 m  h => ih x0 x1 m  h) _ _ _  h)
noncomputable def f_M_product_0 (q_M_one : gk_M → Option (Int32 × gk_M)) (q_M_product : gk_M → Option (Int32 × gk_M)) (q_M_sums : gk_M → Option (Int32 × gk_M)) (q_M_compared : gk_M → Option (Int32 × gk_M)) (q_M_both : gk_M → Option (Int32 × gk_M)) (q_M_either : gk_M → Option (Int32 × gk_M))  (m0 : gk_M) : Option (Int32 × gk_M) :=
  gk_bi (q_M_one  m0) fun v2 m1 =>
  gk_bi (f_M_byteAt  m1) fun v4 m3 =>
  f_M_product_10 q_M_one q_M_product q_M_sums q_M_compared q_M_both q_M_either gk_fv v2 v4 m3

theorem s_M_product_0 {z : gk_Z} {dd : Nat} (K : gk_F tm z me_M_product (3 + (dd + 1))) {r : Int32} {mem2 : gk_M} (q_M_one : gk_M → Option (Int32 × gk_M)) (q_M_product : gk_M → Option (Int32 × gk_M)) (q_M_sums : gk_M → Option (Int32 × gk_M)) (q_M_compared : gk_M → Option (Int32 × gk_M)) (q_M_both : gk_M → Option (Int32 × gk_M)) (q_M_either : gk_M → Option (Int32 × gk_M)) (hq_M_one : ∀  mem r mem2, q_M_one  mem = some (r, mem2) → gk_C tm (gk_zl z) (gk_zu z) me_M_one (3 + dd) [.ref 0] mem (some (.int r)) mem2) (hq_M_product : ∀  mem r mem2, q_M_product  mem = some (r, mem2) → gk_C tm (gk_zl z) (gk_zu z) me_M_product (3 + dd) [.ref 0] mem (some (.int r)) mem2) (hq_M_sums : ∀  mem r mem2, q_M_sums  mem = some (r, mem2) → gk_C tm (gk_zl z) (gk_zu z) me_M_sums (3 + dd) [.ref 0] mem (some (.int r)) mem2) (hq_M_compared : ∀  mem r mem2, q_M_compared  mem = some (r, mem2) → gk_C tm (gk_zl z) (gk_zu z) me_M_compared (3 + dd) [.ref 0] mem (some (.int r)) mem2) (hq_M_both : ∀  mem r mem2, q_M_both  mem = some (r, mem2) → gk_C tm (gk_zl z) (gk_zu z) me_M_both (3 + dd) [.ref 0] mem (some (.int r)) mem2) (hq_M_either : ∀  mem r mem2, q_M_either  mem = some (r, mem2) → gk_C tm (gk_zl z) (gk_zu z) me_M_either (3 + dd) [.ref 0] mem (some (.int r)) mem2) : ∀  m0, f_M_product_0 q_M_one q_M_product q_M_sums q_M_compared q_M_both q_M_either  m0 = some (r, mem2) → gk_G tm z me_M_product (gk_R tm z (some (.int r)) mem2) m0 [(0, .ref 0)] [] 0 := by
  intro  m0  h
  unfold f_M_product_0 at h
  refine gk_aload_n (pc := 0) K d_M_product_0 rfl ?_
  obtain ⟨v2, m1, em1, h⟩ := gk_bi_some h
  refine gk_cVi (As := []) (pc := 1) K d_M_product_1 mv_M_191 mc_M_one rfl tm_0 cl_ok10.1 (hq_M_one  _ _ _ em1) (by omega) rfl (Nat.le_of_ble_eq_true rfl) ?_
  refine gk_istore_n (lv2 := [(1, .int v2), (0, .ref 0)]) (pc := 4) K d_M_product_4 (by decide) rfl ?_
  refine gk_aload_n (pc := 5) K d_M_product_5 rfl ?_
  obtain ⟨v4, m3, em3, h⟩ := gk_bi_some h
  refine gk_cVi (As := []) (pc := 6) K d_M_product_6 mv_M_172 mc_M_byteAt rfl tm_0 cl_ok10.1 (s_M_byteAt (gk_FD K)  em3) (by omega) rfl (Nat.le_of_ble_eq_true rfl) ?_
  refine gk_istore_n (lv2 := [(2, .int v4), (1, .int v2), (0, .ref 0)]) (pc := 9) K d_M_product_9 (by decide) rfl ?_
  exact gk_sub [2, 1, 0] rfl (s_M_product_10 K q_M_one q_M_product q_M_sums q_M_compared q_M_both q_M_either hq_M_one hq_M_product hq_M_sums hq_M_compared hq_M_both hq_M_either _ _ _ _  h)
theorem d_M_sums_0 : decode me_M_sums.2.1 0 = .ok (.aload_n 0, 1) := by decide +kernel
theorem d_M_sums_1 : decode me_M_sums.2.1 1 = .ok (.invokevirtual 188, 3) := by decide +kernel
theorem d_M_sums_4 : decode me_M_sums.2.1 4 = .ok (.istore_n 1, 1) := by decide +kernel
theorem d_M_sums_5 : decode me_M_sums.2.1 5 = .ok (.aload_n 0, 1) := by decide +kernel
theorem d_M_sums_6 : decode me_M_sums.2.1 6 = .ok (.getfield 169, 3) := by decide +kernel
theorem d_M_sums_9 : decode me_M_sums.2.1 9 = .ok (.ifCond .ge 68, 3) := by decide +kernel
theorem d_M_sums_12 : decode me_M_sums.2.1 12 = .ok (.aload_n 0, 1) := by decide +kernel
theorem d_M_sums_13 : decode me_M_sums.2.1 13 = .ok (.invokevirtual 172, 3) := by decide +kernel
theorem d_M_sums_16 : decode me_M_sums.2.1 16 = .ok (.bipush 43, 2) := by decide +kernel
theorem d_M_sums_18 : decode me_M_sums.2.1 18 = .ok (.if_icmp .eq 12, 3) := by decide +kernel
theorem d_M_sums_21 : decode me_M_sums.2.1 21 = .ok (.aload_n 0, 1) := by decide +kernel
theorem d_M_sums_22 : decode me_M_sums.2.1 22 = .ok (.invokevirtual 172, 3) := by decide +kernel
theorem d_M_sums_25 : decode me_M_sums.2.1 25 = .ok (.bipush 45, 2) := by decide +kernel
theorem d_M_sums_27 : decode me_M_sums.2.1 27 = .ok (.if_icmp .ne 50, 3) := by decide +kernel
theorem d_M_sums_30 : decode me_M_sums.2.1 30 = .ok (.aload_n 0, 1) := by decide +kernel
theorem d_M_sums_31 : decode me_M_sums.2.1 31 = .ok (.invokevirtual 172, 3) := by decide +kernel
theorem d_M_sums_34 : decode me_M_sums.2.1 34 = .ok (.bipush 43, 2) := by decide +kernel
theorem d_M_sums_36 : decode me_M_sums.2.1 36 = .ok (.if_icmp .ne 7, 3) := by decide +kernel
theorem d_M_sums_39 : decode me_M_sums.2.1 39 = .ok (.iconst 1, 1) := by decide +kernel
theorem d_M_sums_40 : decode me_M_sums.2.1 40 = .ok (.goto 4, 3) := by decide +kernel
theorem d_M_sums_43 : decode me_M_sums.2.1 43 = .ok (.iconst 0, 1) := by decide +kernel
theorem d_M_sums_44 : decode me_M_sums.2.1 44 = .ok (.istore_n 2, 1) := by decide +kernel
theorem d_M_sums_45 : decode me_M_sums.2.1 45 = .ok (.aload_n 0, 1) := by decide +kernel
theorem d_M_sums_46 : decode me_M_sums.2.1 46 = .ok (.dup, 1) := by decide +kernel
theorem d_M_sums_47 : decode me_M_sums.2.1 47 = .ok (.getfield 160, 3) := by decide +kernel
theorem d_M_sums_50 : decode me_M_sums.2.1 50 = .ok (.iconst 1, 1) := by decide +kernel
theorem d_M_sums_51 : decode me_M_sums.2.1 51 = .ok (.iadd, 1) := by decide +kernel
theorem d_M_sums_52 : decode me_M_sums.2.1 52 = .ok (.putfield 160, 3) := by decide +kernel
theorem d_M_sums_55 : decode me_M_sums.2.1 55 = .ok (.aload_n 0, 1) := by decide +kernel
theorem d_M_sums_56 : decode me_M_sums.2.1 56 = .ok (.invokevirtual 188, 3) := by decide +kernel
theorem d_M_sums_59 : decode me_M_sums.2.1 59 = .ok (.istore_n 3, 1) := by decide +kernel
theorem d_M_sums_60 : decode me_M_sums.2.1 60 = .ok (.iload_n 2, 1) := by decide +kernel
theorem d_M_sums_61 : decode me_M_sums.2.1 61 = .ok (.ifCond .eq 9, 3) := by decide +kernel
theorem d_M_sums_64 : decode me_M_sums.2.1 64 = .ok (.iload_n 1, 1) := by decide +kernel
theorem d_M_sums_65 : decode me_M_sums.2.1 65 = .ok (.iload_n 3, 1) := by decide +kernel
theorem d_M_sums_66 : decode me_M_sums.2.1 66 = .ok (.iadd, 1) := by decide +kernel
theorem d_M_sums_67 : decode me_M_sums.2.1 67 = .ok (.goto 6, 3) := by decide +kernel
theorem d_M_sums_70 : decode me_M_sums.2.1 70 = .ok (.iload_n 1, 1) := by decide +kernel
theorem d_M_sums_71 : decode me_M_sums.2.1 71 = .ok (.iload_n 3, 1) := by decide +kernel
theorem d_M_sums_72 : decode me_M_sums.2.1 72 = .ok (.isub, 1) := by decide +kernel
theorem d_M_sums_73 : decode me_M_sums.2.1 73 = .ok (.istore_n 1, 1) := by decide +kernel
theorem d_M_sums_74 : decode me_M_sums.2.1 74 = .ok (.goto (-69), 3) := by decide +kernel
theorem d_M_sums_77 : decode me_M_sums.2.1 77 = .ok (.iload_n 1, 1) := by decide +kernel
theorem d_M_sums_78 : decode me_M_sums.2.1 78 = .ok (.ireturn, 1) := by decide +kernel
noncomputable def f_M_sums_73 (q_M_one : gk_M → Option (Int32 × gk_M)) (q_M_product : gk_M → Option (Int32 × gk_M)) (q_M_sums : gk_M → Option (Int32 × gk_M)) (q_M_compared : gk_M → Option (Int32 × gk_M)) (q_M_both : gk_M → Option (Int32 × gk_M)) (q_M_either : gk_M → Option (Int32 × gk_M)) (k5 : Int32 → gk_M → Option (Int32 × gk_M)) (s0 : Int32) (m0 : gk_M) : Option (Int32 × gk_M) :=
  k5 s0 m0

theorem s_M_sums_73 {z : gk_Z} {dd : Nat} (K : gk_F tm z me_M_sums (3 + (dd + 1))) {r : Int32} {mem2 : gk_M} (q_M_one : gk_M → Option (Int32 × gk_M)) (q_M_product : gk_M → Option (Int32 × gk_M)) (q_M_sums : gk_M → Option (Int32 × gk_M)) (q_M_compared : gk_M → Option (Int32 × gk_M)) (q_M_both : gk_M → Option (Int32 × gk_M)) (q_M_either : gk_M → Option (Int32 × gk_M)) (hq_M_one : ∀  mem r mem2, q_M_one  mem = some (r, mem2) → gk_C tm (gk_zl z) (gk_zu z) me_M_one (3 + dd) [.ref 0] mem (some (.int r)) mem2) (hq_M_product : ∀  mem r mem2, q_M_product  mem = some (r, mem2) → gk_C tm (gk_zl z) (gk_zu z) me_M_product (3 + dd) [.ref 0] mem (some (.int r)) mem2) (hq_M_sums : ∀  mem r mem2, q_M_sums  mem = some (r, mem2) → gk_C tm (gk_zl z) (gk_zu z) me_M_sums (3 + dd) [.ref 0] mem (some (.int r)) mem2) (hq_M_compared : ∀  mem r mem2, q_M_compared  mem = some (r, mem2) → gk_C tm (gk_zl z) (gk_zu z) me_M_compared (3 + dd) [.ref 0] mem (some (.int r)) mem2) (hq_M_both : ∀  mem r mem2, q_M_both  mem = some (r, mem2) → gk_C tm (gk_zl z) (gk_zu z) me_M_both (3 + dd) [.ref 0] mem (some (.int r)) mem2) (hq_M_either : ∀  mem r mem2, q_M_either  mem = some (r, mem2) → gk_C tm (gk_zl z) (gk_zu z) me_M_either (3 + dd) [.ref 0] mem (some (.int r)) mem2) {k5 : Int32 → gk_M → Option (Int32 × gk_M)} (hk5 : ∀ a1 m0, k5 a1 m0 = some (r, mem2) → gk_G tm z me_M_sums (gk_R tm z (some (.int r)) mem2) m0 [(0, .ref 0), (1, .int a1)] [] 5) : ∀ s0 m0, f_M_sums_73 q_M_one q_M_product q_M_sums q_M_compared q_M_both q_M_either k5 s0 m0 = some (r, mem2) → gk_G tm z me_M_sums (gk_R tm z (some (.int r)) mem2) m0 [(0, .ref 0)] [.int s0] 73 := by
  intro s0 m0  h
  unfold f_M_sums_73 at h
  refine gk_istore_n (lv2 := [(1, .int s0), (0, .ref 0)]) (pc := 73) K d_M_sums_73 (by decide) rfl ?_
  refine gk_goto (tgt := 5) (pc := 74) K d_M_sums_74 (by decide) ?_
  exact gk_sub [1, 0] rfl (hk5 _ _  h)
noncomputable def f_M_sums_44 (q_M_one : gk_M → Option (Int32 × gk_M)) (q_M_product : gk_M → Option (Int32 × gk_M)) (q_M_sums : gk_M → Option (Int32 × gk_M)) (q_M_compared : gk_M → Option (Int32 × gk_M)) (q_M_both : gk_M → Option (Int32 × gk_M)) (q_M_either : gk_M → Option (Int32 × gk_M)) (k5 : Int32 → gk_M → Option (Int32 × gk_M)) (a1 : Int32) (s0 : Int32) (m0 : gk_M) : Option (Int32 × gk_M) :=
  gk_let (gk_mi m0 0 20 ((m0.1 0 20) + 1)) fun m1 =>
  gk_bi (q_M_product  m1) fun v3 m2 =>
  if s0 = 0 then
    f_M_sums_73 q_M_one q_M_product q_M_sums q_M_compared q_M_both q_M_either k5 (a1 - v3) m2
  else
    f_M_sums_73 q_M_one q_M_product q_M_sums q_M_compared q_M_both q_M_either k5 (a1 + v3) m2

theorem s_M_sums_44 {z : gk_Z} {dd : Nat} (K : gk_F tm z me_M_sums (3 + (dd + 1))) {r : Int32} {mem2 : gk_M} (q_M_one : gk_M → Option (Int32 × gk_M)) (q_M_product : gk_M → Option (Int32 × gk_M)) (q_M_sums : gk_M → Option (Int32 × gk_M)) (q_M_compared : gk_M → Option (Int32 × gk_M)) (q_M_both : gk_M → Option (Int32 × gk_M)) (q_M_either : gk_M → Option (Int32 × gk_M)) (hq_M_one : ∀  mem r mem2, q_M_one  mem = some (r, mem2) → gk_C tm (gk_zl z) (gk_zu z) me_M_one (3 + dd) [.ref 0] mem (some (.int r)) mem2) (hq_M_product : ∀  mem r mem2, q_M_product  mem = some (r, mem2) → gk_C tm (gk_zl z) (gk_zu z) me_M_product (3 + dd) [.ref 0] mem (some (.int r)) mem2) (hq_M_sums : ∀  mem r mem2, q_M_sums  mem = some (r, mem2) → gk_C tm (gk_zl z) (gk_zu z) me_M_sums (3 + dd) [.ref 0] mem (some (.int r)) mem2) (hq_M_compared : ∀  mem r mem2, q_M_compared  mem = some (r, mem2) → gk_C tm (gk_zl z) (gk_zu z) me_M_compared (3 + dd) [.ref 0] mem (some (.int r)) mem2) (hq_M_both : ∀  mem r mem2, q_M_both  mem = some (r, mem2) → gk_C tm (gk_zl z) (gk_zu z) me_M_both (3 + dd) [.ref 0] mem (some (.int r)) mem2) (hq_M_either : ∀  mem r mem2, q_M_either  mem = some (r, mem2) → gk_C tm (gk_zl z) (gk_zu z) me_M_either (3 + dd) [.ref 0] mem (some (.int r)) mem2) {k5 : Int32 → gk_M → Option (Int32 × gk_M)} (hk5 : ∀ a1 m0, k5 a1 m0 = some (r, mem2) → gk_G tm z me_M_sums (gk_R tm z (some (.int r)) mem2) m0 [(0, .ref 0), (1, .int a1)] [] 5) : ∀ a1 s0 m0, f_M_sums_44 q_M_one q_M_product q_M_sums q_M_compared q_M_both q_M_either k5 a1 s0 m0 = some (r, mem2) → gk_G tm z me_M_sums (gk_R tm z (some (.int r)) mem2) m0 [(0, .ref 0), (1, .int a1)] [.int s0] 44 := by
  intro a1 s0 m0  h
  unfold f_M_sums_44 at h
  refine gk_istore_n (lv2 := [(2, .int s0), (0, .ref 0), (1, .int a1)]) (pc := 44) K d_M_sums_44 (by decide) rfl ?_
  refine gk_aload_n (pc := 45) K d_M_sums_45 rfl ?_
  refine gk_dup (pc := 46) K d_M_sums_46 rfl ?_
  refine gk_get (pc := 47) K d_M_sums_47 fl_M_160 tm_0 rfl rfl ?_
  refine gk_iconst (pc := 50) K d_M_sums_50 kc_1 ?_
  refine gk_iadd (pc := 51) K d_M_sums_51 ?_
  refine gk_puti (pc := 52) K d_M_sums_52 fp_M_160 tm_0 rfl h (fun m1 h => ?_)
  refine gk_aload_n (pc := 55) K d_M_sums_55 rfl ?_
  obtain ⟨v3, m2, em2, h⟩ := gk_bi_some h
  refine gk_cVi (As := []) (pc := 56) K d_M_sums_56 mv_M_188 mc_M_product rfl tm_0 cl_ok10.1 (hq_M_product  _ _ _ em2) (by omega) rfl (Nat.le_of_ble_eq_true rfl) ?_
  refine gk_istore_n (lv2 := [(3, .int v3), (2, .int s0), (0, .ref 0), (1, .int a1)]) (pc := 59) K d_M_sums_59 (by decide) rfl ?_
  refine gk_iload_n (pc := 60) K d_M_sums_60 rfl ?_
  refine gk_if_eq (tgt := 70) (pc := 61) K d_M_sums_61 (by decide) h (fun h => ?_) (fun h => ?_)
  · refine gk_iload_n (pc := 70) K d_M_sums_70 rfl ?_
    refine gk_iload_n (pc := 71) K d_M_sums_71 rfl ?_
    refine gk_isub (pc := 72) K d_M_sums_72 ?_
    exact gk_sub [2] rfl (s_M_sums_73 K q_M_one q_M_product q_M_sums q_M_compared q_M_both q_M_either hq_M_one hq_M_product hq_M_sums hq_M_compared hq_M_both hq_M_either hk5 _ _  h)
  · refine gk_iload_n (pc := 64) K d_M_sums_64 rfl ?_
    refine gk_iload_n (pc := 65) K d_M_sums_65 rfl ?_
    refine gk_iadd (pc := 66) K d_M_sums_66 ?_
    refine gk_goto (tgt := 73) (pc := 67) K d_M_sums_67 (by decide) ?_
    exact gk_sub [2] rfl (s_M_sums_73 K q_M_one q_M_product q_M_sums q_M_compared q_M_both q_M_either hq_M_one hq_M_product hq_M_sums hq_M_compared hq_M_both hq_M_either hk5 _ _  h)
noncomputable def f_M_sums_30 (q_M_one : gk_M → Option (Int32 × gk_M)) (q_M_product : gk_M → Option (Int32 × gk_M)) (q_M_sums : gk_M → Option (Int32 × gk_M)) (q_M_compared : gk_M → Option (Int32 × gk_M)) (q_M_both : gk_M → Option (Int32 × gk_M)) (q_M_either : gk_M → Option (Int32 × gk_M)) (k5 : Int32 → gk_M → Option (Int32 × gk_M)) (a1 : Int32) (m0 : gk_M) : Option (Int32 × gk_M) :=
  gk_bi (f_M_byteAt  m0) fun v2 m1 =>
  if ¬ v2 = 43 then
    f_M_sums_44 q_M_one q_M_product q_M_sums q_M_compared q_M_both q_M_either k5 a1 0 m1
  else
    f_M_sums_44 q_M_one q_M_product q_M_sums q_M_compared q_M_both q_M_either k5 a1 1 m1

theorem s_M_sums_30 {z : gk_Z} {dd : Nat} (K : gk_F tm z me_M_sums (3 + (dd + 1))) {r : Int32} {mem2 : gk_M} (q_M_one : gk_M → Option (Int32 × gk_M)) (q_M_product : gk_M → Option (Int32 × gk_M)) (q_M_sums : gk_M → Option (Int32 × gk_M)) (q_M_compared : gk_M → Option (Int32 × gk_M)) (q_M_both : gk_M → Option (Int32 × gk_M)) (q_M_either : gk_M → Option (Int32 × gk_M)) (hq_M_one : ∀  mem r mem2, q_M_one  mem = some (r, mem2) → gk_C tm (gk_zl z) (gk_zu z) me_M_one (3 + dd) [.ref 0] mem (some (.int r)) mem2) (hq_M_product : ∀  mem r mem2, q_M_product  mem = some (r, mem2) → gk_C tm (gk_zl z) (gk_zu z) me_M_product (3 + dd) [.ref 0] mem (some (.int r)) mem2) (hq_M_sums : ∀  mem r mem2, q_M_sums  mem = some (r, mem2) → gk_C tm (gk_zl z) (gk_zu z) me_M_sums (3 + dd) [.ref 0] mem (some (.int r)) mem2) (hq_M_compared : ∀  mem r mem2, q_M_compared  mem = some (r, mem2) → gk_C tm (gk_zl z) (gk_zu z) me_M_compared (3 + dd) [.ref 0] mem (some (.int r)) mem2) (hq_M_both : ∀  mem r mem2, q_M_both  mem = some (r, mem2) → gk_C tm (gk_zl z) (gk_zu z) me_M_both (3 + dd) [.ref 0] mem (some (.int r)) mem2) (hq_M_either : ∀  mem r mem2, q_M_either  mem = some (r, mem2) → gk_C tm (gk_zl z) (gk_zu z) me_M_either (3 + dd) [.ref 0] mem (some (.int r)) mem2) {k5 : Int32 → gk_M → Option (Int32 × gk_M)} (hk5 : ∀ a1 m0, k5 a1 m0 = some (r, mem2) → gk_G tm z me_M_sums (gk_R tm z (some (.int r)) mem2) m0 [(0, .ref 0), (1, .int a1)] [] 5) : ∀ a1 m0, f_M_sums_30 q_M_one q_M_product q_M_sums q_M_compared q_M_both q_M_either k5 a1 m0 = some (r, mem2) → gk_G tm z me_M_sums (gk_R tm z (some (.int r)) mem2) m0 [(0, .ref 0), (1, .int a1)] [] 30 := by
  intro a1 m0  h
  unfold f_M_sums_30 at h
  refine gk_aload_n (pc := 30) K d_M_sums_30 rfl ?_
  obtain ⟨v2, m1, em1, h⟩ := gk_bi_some h
  refine gk_cVi (As := []) (pc := 31) K d_M_sums_31 mv_M_172 mc_M_byteAt rfl tm_0 cl_ok10.1 (s_M_byteAt (gk_FD K)  em1) (by omega) rfl (Nat.le_of_ble_eq_true rfl) ?_
  refine gk_bipush (pc := 34) K d_M_sums_34 kb_43 ?_
  refine gk_ic_ne (tgt := 43) (pc := 36) K d_M_sums_36 (by decide) h (fun h => ?_) (fun h => ?_)
  · refine gk_iconst (pc := 43) K d_M_sums_43 kc_0 ?_
    exact gk_sub [0, 1] rfl (s_M_sums_44 K q_M_one q_M_product q_M_sums q_M_compared q_M_both q_M_either hq_M_one hq_M_product hq_M_sums hq_M_compared hq_M_both hq_M_either hk5 _ _ _  h)
  · refine gk_iconst (pc := 39) K d_M_sums_39 kc_1 ?_
    refine gk_goto (tgt := 44) (pc := 40) K d_M_sums_40 (by decide) ?_
    exact gk_sub [0, 1] rfl (s_M_sums_44 K q_M_one q_M_product q_M_sums q_M_compared q_M_both q_M_either hq_M_one hq_M_product hq_M_sums hq_M_compared hq_M_both hq_M_either hk5 _ _ _  h)
noncomputable def f_M_sums_5 (q_M_one : gk_M → Option (Int32 × gk_M)) (q_M_product : gk_M → Option (Int32 × gk_M)) (q_M_sums : gk_M → Option (Int32 × gk_M)) (q_M_compared : gk_M → Option (Int32 × gk_M)) (q_M_both : gk_M → Option (Int32 × gk_M)) (q_M_either : gk_M → Option (Int32 × gk_M)) : Nat → Int32 → gk_M → Option (Int32 × gk_M)
  | 0, _, _ => none
  | n + 1, a1, m0 =>
    if 0 ≤ (m0.1 0 22) then
      some (a1, m0)
    else
      gk_bi (f_M_byteAt  m0) fun v2 m1 =>
      if v2 = 43 then
        f_M_sums_30 q_M_one q_M_product q_M_sums q_M_compared q_M_both q_M_either (f_M_sums_5 q_M_one q_M_product q_M_sums q_M_compared q_M_both q_M_either n) a1 m1
      else
        gk_bi (f_M_byteAt  m1) fun v4 m3 =>
        if ¬ v4 = 45 then
          some (a1, m3)
        else
          f_M_sums_30 q_M_one q_M_product q_M_sums q_M_compared q_M_both q_M_either (f_M_sums_5 q_M_one q_M_product q_M_sums q_M_compared q_M_both q_M_either n) a1 m3

theorem s_M_sums_5 {z : gk_Z} {dd : Nat} (K : gk_F tm z me_M_sums (3 + (dd + 1))) {r : Int32} {mem2 : gk_M} (q_M_one : gk_M → Option (Int32 × gk_M)) (q_M_product : gk_M → Option (Int32 × gk_M)) (q_M_sums : gk_M → Option (Int32 × gk_M)) (q_M_compared : gk_M → Option (Int32 × gk_M)) (q_M_both : gk_M → Option (Int32 × gk_M)) (q_M_either : gk_M → Option (Int32 × gk_M)) (hq_M_one : ∀  mem r mem2, q_M_one  mem = some (r, mem2) → gk_C tm (gk_zl z) (gk_zu z) me_M_one (3 + dd) [.ref 0] mem (some (.int r)) mem2) (hq_M_product : ∀  mem r mem2, q_M_product  mem = some (r, mem2) → gk_C tm (gk_zl z) (gk_zu z) me_M_product (3 + dd) [.ref 0] mem (some (.int r)) mem2) (hq_M_sums : ∀  mem r mem2, q_M_sums  mem = some (r, mem2) → gk_C tm (gk_zl z) (gk_zu z) me_M_sums (3 + dd) [.ref 0] mem (some (.int r)) mem2) (hq_M_compared : ∀  mem r mem2, q_M_compared  mem = some (r, mem2) → gk_C tm (gk_zl z) (gk_zu z) me_M_compared (3 + dd) [.ref 0] mem (some (.int r)) mem2) (hq_M_both : ∀  mem r mem2, q_M_both  mem = some (r, mem2) → gk_C tm (gk_zl z) (gk_zu z) me_M_both (3 + dd) [.ref 0] mem (some (.int r)) mem2) (hq_M_either : ∀  mem r mem2, q_M_either  mem = some (r, mem2) → gk_C tm (gk_zl z) (gk_zu z) me_M_either (3 + dd) [.ref 0] mem (some (.int r)) mem2) : ∀ n a1 m0, f_M_sums_5 q_M_one q_M_product q_M_sums q_M_compared q_M_both q_M_either n a1 m0 = some (r, mem2) → gk_G tm z me_M_sums (gk_R tm z (some (.int r)) mem2) m0 [(0, .ref 0), (1, .int a1)] [] 5 := by
  intro n
  induction n with
  | zero => intro a1 m0  h; exact nomatch (show (none : Option _) = some _ from h)
  | succ n ih =>
    intro a1 m0  h
    unfold f_M_sums_5 at h
    refine gk_aload_n (pc := 5) K d_M_sums_5 rfl ?_
    refine gk_get (pc := 6) K d_M_sums_6 fl_M_169 tm_0 rfl rfl ?_
    refine gk_if_ge (tgt := 77) (pc := 9) K d_M_sums_9 (by decide) h (fun h => ?_) (fun h => ?_)
    · refine gk_iload_n (pc := 77) K d_M_sums_77 rfl ?_
      exact gk_iret (pc := 78) K d_M_sums_78 rfl h
    · refine gk_aload_n (pc := 12) K d_M_sums_12 rfl ?_
      obtain ⟨v2, m1, em1, h⟩ := gk_bi_some h
      refine gk_cVi (As := []) (pc := 13) K d_M_sums_13 mv_M_172 mc_M_byteAt rfl tm_0 cl_ok10.1 (s_M_byteAt (gk_FD K)  em1) (by omega) rfl (Nat.le_of_ble_eq_true rfl) ?_
      refine gk_bipush (pc := 16) K d_M_sums_16 kb_43 ?_
      refine gk_ic_eq (tgt := 30) (pc := 18) K d_M_sums_18 (by decide) h (fun h => ?_) (fun h => ?_)
      · exact gk_sub [0, 1] rfl (s_M_sums_30 K q_M_one q_M_product q_M_sums q_M_compared q_M_both q_M_either hq_M_one hq_M_product hq_M_sums hq_M_compared hq_M_both hq_M_either (fun x0 m  h => ih x0 m  h) _ _  h)
      · refine gk_aload_n (pc := 21) K d_M_sums_21 rfl ?_
        obtain ⟨v4, m3, em3, h⟩ := gk_bi_some h
        refine gk_cVi (As := []) (pc := 22) K d_M_sums_22 mv_M_172 mc_M_byteAt rfl tm_0 cl_ok10.1 (s_M_byteAt (gk_FD K)  em3) (by omega) rfl (Nat.le_of_ble_eq_true rfl) ?_
        refine gk_bipush (pc := 25) K d_M_sums_25 kb_45 ?_
        refine gk_ic_ne (tgt := 77) (pc := 27) K d_M_sums_27 (by decide) h (fun h => ?_) (fun h => ?_)
        · refine gk_iload_n (pc := 77) K d_M_sums_77 rfl ?_
          exact gk_iret (pc := 78) K d_M_sums_78 rfl h
        · exact gk_sub [0, 1] rfl (s_M_sums_30 K q_M_one q_M_product q_M_sums q_M_compared q_M_both q_M_either hq_M_one hq_M_product hq_M_sums hq_M_compared hq_M_both hq_M_either (fun x0 m  h => ih x0 m  h) _ _  h)
noncomputable def f_M_sums_0 (q_M_one : gk_M → Option (Int32 × gk_M)) (q_M_product : gk_M → Option (Int32 × gk_M)) (q_M_sums : gk_M → Option (Int32 × gk_M)) (q_M_compared : gk_M → Option (Int32 × gk_M)) (q_M_both : gk_M → Option (Int32 × gk_M)) (q_M_either : gk_M → Option (Int32 × gk_M))  (m0 : gk_M) : Option (Int32 × gk_M) :=
  gk_bi (q_M_product  m0) fun v2 m1 =>
  f_M_sums_5 q_M_one q_M_product q_M_sums q_M_compared q_M_both q_M_either gk_fv v2 m1

theorem s_M_sums_0 {z : gk_Z} {dd : Nat} (K : gk_F tm z me_M_sums (3 + (dd + 1))) {r : Int32} {mem2 : gk_M} (q_M_one : gk_M → Option (Int32 × gk_M)) (q_M_product : gk_M → Option (Int32 × gk_M)) (q_M_sums : gk_M → Option (Int32 × gk_M)) (q_M_compared : gk_M → Option (Int32 × gk_M)) (q_M_both : gk_M → Option (Int32 × gk_M)) (q_M_either : gk_M → Option (Int32 × gk_M)) (hq_M_one : ∀  mem r mem2, q_M_one  mem = some (r, mem2) → gk_C tm (gk_zl z) (gk_zu z) me_M_one (3 + dd) [.ref 0] mem (some (.int r)) mem2) (hq_M_product : ∀  mem r mem2, q_M_product  mem = some (r, mem2) → gk_C tm (gk_zl z) (gk_zu z) me_M_product (3 + dd) [.ref 0] mem (some (.int r)) mem2) (hq_M_sums : ∀  mem r mem2, q_M_sums  mem = some (r, mem2) → gk_C tm (gk_zl z) (gk_zu z) me_M_sums (3 + dd) [.ref 0] mem (some (.int r)) mem2) (hq_M_compared : ∀  mem r mem2, q_M_compared  mem = some (r, mem2) → gk_C tm (gk_zl z) (gk_zu z) me_M_compared (3 + dd) [.ref 0] mem (some (.int r)) mem2) (hq_M_both : ∀  mem r mem2, q_M_both  mem = some (r, mem2) → gk_C tm (gk_zl z) (gk_zu z) me_M_both (3 + dd) [.ref 0] mem (some (.int r)) mem2) (hq_M_either : ∀  mem r mem2, q_M_either  mem = some (r, mem2) → gk_C tm (gk_zl z) (gk_zu z) me_M_either (3 + dd) [.ref 0] mem (some (.int r)) mem2) : ∀  m0, f_M_sums_0 q_M_one q_M_product q_M_sums q_M_compared q_M_both q_M_either  m0 = some (r, mem2) → gk_G tm z me_M_sums (gk_R tm z (some (.int r)) mem2) m0 [(0, .ref 0)] [] 0 := by
  intro  m0  h
  unfold f_M_sums_0 at h
  refine gk_aload_n (pc := 0) K d_M_sums_0 rfl ?_
  obtain ⟨v2, m1, em1, h⟩ := gk_bi_some h
  refine gk_cVi (As := []) (pc := 1) K d_M_sums_1 mv_M_188 mc_M_product rfl tm_0 cl_ok10.1 (hq_M_product  _ _ _ em1) (by omega) rfl (Nat.le_of_ble_eq_true rfl) ?_
  refine gk_istore_n (lv2 := [(1, .int v2), (0, .ref 0)]) (pc := 4) K d_M_sums_4 (by decide) rfl ?_
  exact gk_sub [1, 0] rfl (s_M_sums_5 K q_M_one q_M_product q_M_sums q_M_compared q_M_both q_M_either hq_M_one hq_M_product hq_M_sums hq_M_compared hq_M_both hq_M_either _ _ _  h)
theorem d_M_compared_0 : decode me_M_compared.2.1 0 = .ok (.aload_n 0, 1) := by decide +kernel
theorem d_M_compared_1 : decode me_M_compared.2.1 1 = .ok (.invokevirtual 185, 3) := by decide +kernel
theorem d_M_compared_4 : decode me_M_compared.2.1 4 = .ok (.istore_n 1, 1) := by decide +kernel
theorem d_M_compared_5 : decode me_M_compared.2.1 5 = .ok (.aload_n 0, 1) := by decide +kernel
theorem d_M_compared_6 : decode me_M_compared.2.1 6 = .ok (.invokevirtual 172, 3) := by decide +kernel
theorem d_M_compared_9 : decode me_M_compared.2.1 9 = .ok (.istore_n 2, 1) := by decide +kernel
theorem d_M_compared_10 : decode me_M_compared.2.1 10 = .ok (.aload_n 0, 1) := by decide +kernel
theorem d_M_compared_11 : decode me_M_compared.2.1 11 = .ok (.getfield 169, 3) := by decide +kernel
theorem d_M_compared_14 : decode me_M_compared.2.1 14 = .ok (.ifCond .ge 21, 3) := by decide +kernel
theorem d_M_compared_17 : decode me_M_compared.2.1 17 = .ok (.iload_n 2, 1) := by decide +kernel
theorem d_M_compared_18 : decode me_M_compared.2.1 18 = .ok (.bipush 60, 2) := by decide +kernel
theorem d_M_compared_20 : decode me_M_compared.2.1 20 = .ok (.if_icmp .eq 17, 3) := by decide +kernel
theorem d_M_compared_23 : decode me_M_compared.2.1 23 = .ok (.iload_n 2, 1) := by decide +kernel
theorem d_M_compared_24 : decode me_M_compared.2.1 24 = .ok (.bipush 61, 2) := by decide +kernel
theorem d_M_compared_26 : decode me_M_compared.2.1 26 = .ok (.if_icmp .eq 11, 3) := by decide +kernel
theorem d_M_compared_29 : decode me_M_compared.2.1 29 = .ok (.iload_n 2, 1) := by decide +kernel
theorem d_M_compared_30 : decode me_M_compared.2.1 30 = .ok (.bipush 62, 2) := by decide +kernel
theorem d_M_compared_32 : decode me_M_compared.2.1 32 = .ok (.if_icmp .eq 5, 3) := by decide +kernel
theorem d_M_compared_35 : decode me_M_compared.2.1 35 = .ok (.iload_n 1, 1) := by decide +kernel
theorem d_M_compared_36 : decode me_M_compared.2.1 36 = .ok (.ireturn, 1) := by decide +kernel
theorem d_M_compared_37 : decode me_M_compared.2.1 37 = .ok (.aload_n 0, 1) := by decide +kernel
theorem d_M_compared_38 : decode me_M_compared.2.1 38 = .ok (.dup, 1) := by decide +kernel
theorem d_M_compared_39 : decode me_M_compared.2.1 39 = .ok (.getfield 160, 3) := by decide +kernel
theorem d_M_compared_42 : decode me_M_compared.2.1 42 = .ok (.iconst 1, 1) := by decide +kernel
theorem d_M_compared_43 : decode me_M_compared.2.1 43 = .ok (.iadd, 1) := by decide +kernel
theorem d_M_compared_44 : decode me_M_compared.2.1 44 = .ok (.putfield 160, 3) := by decide +kernel
theorem d_M_compared_47 : decode me_M_compared.2.1 47 = .ok (.aload_n 0, 1) := by decide +kernel
theorem d_M_compared_48 : decode me_M_compared.2.1 48 = .ok (.invokevirtual 185, 3) := by decide +kernel
theorem d_M_compared_51 : decode me_M_compared.2.1 51 = .ok (.istore_n 3, 1) := by decide +kernel
theorem d_M_compared_52 : decode me_M_compared.2.1 52 = .ok (.iload_n 2, 1) := by decide +kernel
theorem d_M_compared_53 : decode me_M_compared.2.1 53 = .ok (.bipush 60, 2) := by decide +kernel
theorem d_M_compared_55 : decode me_M_compared.2.1 55 = .ok (.if_icmp .ne 11, 3) := by decide +kernel
theorem d_M_compared_58 : decode me_M_compared.2.1 58 = .ok (.iload_n 1, 1) := by decide +kernel
theorem d_M_compared_59 : decode me_M_compared.2.1 59 = .ok (.iload_n 3, 1) := by decide +kernel
theorem d_M_compared_60 : decode me_M_compared.2.1 60 = .ok (.if_icmp .ge 29, 3) := by decide +kernel
theorem d_M_compared_63 : decode me_M_compared.2.1 63 = .ok (.goto 22, 3) := by decide +kernel
theorem d_M_compared_66 : decode me_M_compared.2.1 66 = .ok (.iload_n 2, 1) := by decide +kernel
theorem d_M_compared_67 : decode me_M_compared.2.1 67 = .ok (.bipush 61, 2) := by decide +kernel
theorem d_M_compared_69 : decode me_M_compared.2.1 69 = .ok (.if_icmp .ne 11, 3) := by decide +kernel
theorem d_M_compared_72 : decode me_M_compared.2.1 72 = .ok (.iload_n 1, 1) := by decide +kernel
theorem d_M_compared_73 : decode me_M_compared.2.1 73 = .ok (.iload_n 3, 1) := by decide +kernel
theorem d_M_compared_74 : decode me_M_compared.2.1 74 = .ok (.if_icmp .ne 15, 3) := by decide +kernel
theorem d_M_compared_77 : decode me_M_compared.2.1 77 = .ok (.goto 8, 3) := by decide +kernel
theorem d_M_compared_80 : decode me_M_compared.2.1 80 = .ok (.iload_n 1, 1) := by decide +kernel
theorem d_M_compared_81 : decode me_M_compared.2.1 81 = .ok (.iload_n 3, 1) := by decide +kernel
theorem d_M_compared_82 : decode me_M_compared.2.1 82 = .ok (.if_icmp .le 7, 3) := by decide +kernel
theorem d_M_compared_85 : decode me_M_compared.2.1 85 = .ok (.iconst 1, 1) := by decide +kernel
theorem d_M_compared_86 : decode me_M_compared.2.1 86 = .ok (.goto 4, 3) := by decide +kernel
theorem d_M_compared_89 : decode me_M_compared.2.1 89 = .ok (.iconst 0, 1) := by decide +kernel
theorem d_M_compared_90 : decode me_M_compared.2.1 90 = .ok (.ireturn, 1) := by decide +kernel
noncomputable def f_M_compared_37 (q_M_one : gk_M → Option (Int32 × gk_M)) (q_M_product : gk_M → Option (Int32 × gk_M)) (q_M_sums : gk_M → Option (Int32 × gk_M)) (q_M_compared : gk_M → Option (Int32 × gk_M)) (q_M_both : gk_M → Option (Int32 × gk_M)) (q_M_either : gk_M → Option (Int32 × gk_M)) (a1 : Int32) (a2 : Int32) (m0 : gk_M) : Option (Int32 × gk_M) :=
  gk_let (gk_mi m0 0 20 ((m0.1 0 20) + 1)) fun m1 =>
  gk_bi (q_M_sums  m1) fun v3 m2 =>
  if ¬ a2 = 60 then
    if ¬ a2 = 61 then
      if a1 ≤ v3 then
        some (0, m2)
      else
        some (1, m2)
    else
      if ¬ a1 = v3 then
        some (0, m2)
      else
        some (1, m2)
  else
    if v3 ≤ a1 then
      some (0, m2)
    else
      some (1, m2)

theorem s_M_compared_37 {z : gk_Z} {dd : Nat} (K : gk_F tm z me_M_compared (3 + (dd + 1))) {r : Int32} {mem2 : gk_M} (q_M_one : gk_M → Option (Int32 × gk_M)) (q_M_product : gk_M → Option (Int32 × gk_M)) (q_M_sums : gk_M → Option (Int32 × gk_M)) (q_M_compared : gk_M → Option (Int32 × gk_M)) (q_M_both : gk_M → Option (Int32 × gk_M)) (q_M_either : gk_M → Option (Int32 × gk_M)) (hq_M_one : ∀  mem r mem2, q_M_one  mem = some (r, mem2) → gk_C tm (gk_zl z) (gk_zu z) me_M_one (3 + dd) [.ref 0] mem (some (.int r)) mem2) (hq_M_product : ∀  mem r mem2, q_M_product  mem = some (r, mem2) → gk_C tm (gk_zl z) (gk_zu z) me_M_product (3 + dd) [.ref 0] mem (some (.int r)) mem2) (hq_M_sums : ∀  mem r mem2, q_M_sums  mem = some (r, mem2) → gk_C tm (gk_zl z) (gk_zu z) me_M_sums (3 + dd) [.ref 0] mem (some (.int r)) mem2) (hq_M_compared : ∀  mem r mem2, q_M_compared  mem = some (r, mem2) → gk_C tm (gk_zl z) (gk_zu z) me_M_compared (3 + dd) [.ref 0] mem (some (.int r)) mem2) (hq_M_both : ∀  mem r mem2, q_M_both  mem = some (r, mem2) → gk_C tm (gk_zl z) (gk_zu z) me_M_both (3 + dd) [.ref 0] mem (some (.int r)) mem2) (hq_M_either : ∀  mem r mem2, q_M_either  mem = some (r, mem2) → gk_C tm (gk_zl z) (gk_zu z) me_M_either (3 + dd) [.ref 0] mem (some (.int r)) mem2) : ∀ a1 a2 m0, f_M_compared_37 q_M_one q_M_product q_M_sums q_M_compared q_M_both q_M_either a1 a2 m0 = some (r, mem2) → gk_G tm z me_M_compared (gk_R tm z (some (.int r)) mem2) m0 [(0, .ref 0), (1, .int a1), (2, .int a2)] [] 37 := by
  intro a1 a2 m0  h
  unfold f_M_compared_37 at h
  refine gk_aload_n (pc := 37) K d_M_compared_37 rfl ?_
  refine gk_dup (pc := 38) K d_M_compared_38 rfl ?_
  refine gk_get (pc := 39) K d_M_compared_39 fl_M_160 tm_0 rfl rfl ?_
  refine gk_iconst (pc := 42) K d_M_compared_42 kc_1 ?_
  refine gk_iadd (pc := 43) K d_M_compared_43 ?_
  refine gk_puti (pc := 44) K d_M_compared_44 fp_M_160 tm_0 rfl h (fun m1 h => ?_)
  refine gk_aload_n (pc := 47) K d_M_compared_47 rfl ?_
  obtain ⟨v3, m2, em2, h⟩ := gk_bi_some h
  refine gk_cVi (As := []) (pc := 48) K d_M_compared_48 mv_M_185 mc_M_sums rfl tm_0 cl_ok10.1 (hq_M_sums  _ _ _ em2) (by omega) rfl (Nat.le_of_ble_eq_true rfl) ?_
  refine gk_istore_n (lv2 := [(3, .int v3), (0, .ref 0), (1, .int a1), (2, .int a2)]) (pc := 51) K d_M_compared_51 (by decide) rfl ?_
  refine gk_iload_n (pc := 52) K d_M_compared_52 rfl ?_
  refine gk_bipush (pc := 53) K d_M_compared_53 kb_60 ?_
  refine gk_ic_ne (tgt := 66) (pc := 55) K d_M_compared_55 (by decide) h (fun h => ?_) (fun h => ?_)
  · refine gk_iload_n (pc := 66) K d_M_compared_66 rfl ?_
    refine gk_bipush (pc := 67) K d_M_compared_67 kb_61 ?_
    refine gk_ic_ne (tgt := 80) (pc := 69) K d_M_compared_69 (by decide) h (fun h => ?_) (fun h => ?_)
    · refine gk_iload_n (pc := 80) K d_M_compared_80 rfl ?_
      refine gk_iload_n (pc := 81) K d_M_compared_81 rfl ?_
      refine gk_ic_le (tgt := 89) (pc := 82) K d_M_compared_82 (by decide) h (fun h => ?_) (fun h => ?_)
      · refine gk_iconst (pc := 89) K d_M_compared_89 kc_0 ?_
        exact gk_iret (pc := 90) K d_M_compared_90 rfl h
      · refine gk_iconst (pc := 85) K d_M_compared_85 kc_1 ?_
        refine gk_goto (tgt := 90) (pc := 86) K d_M_compared_86 (by decide) ?_
        exact gk_iret (pc := 90) K d_M_compared_90 rfl h
    · refine gk_iload_n (pc := 72) K d_M_compared_72 rfl ?_
      refine gk_iload_n (pc := 73) K d_M_compared_73 rfl ?_
      refine gk_ic_ne (tgt := 89) (pc := 74) K d_M_compared_74 (by decide) h (fun h => ?_) (fun h => ?_)
      · refine gk_iconst (pc := 89) K d_M_compared_89 kc_0 ?_
        exact gk_iret (pc := 90) K d_M_compared_90 rfl h
      · refine gk_goto (tgt := 85) (pc := 77) K d_M_compared_77 (by decide) ?_
        refine gk_iconst (pc := 85) K d_M_compared_85 kc_1 ?_
        refine gk_goto (tgt := 90) (pc := 86) K d_M_compared_86 (by decide) ?_
        exact gk_iret (pc := 90) K d_M_compared_90 rfl h
  · refine gk_iload_n (pc := 58) K d_M_compared_58 rfl ?_
    refine gk_iload_n (pc := 59) K d_M_compared_59 rfl ?_
    refine gk_ic_ge (tgt := 89) (pc := 60) K d_M_compared_60 (by decide) h (fun h => ?_) (fun h => ?_)
    · refine gk_iconst (pc := 89) K d_M_compared_89 kc_0 ?_
      exact gk_iret (pc := 90) K d_M_compared_90 rfl h
    · refine gk_goto (tgt := 85) (pc := 63) K d_M_compared_63 (by decide) ?_
      refine gk_iconst (pc := 85) K d_M_compared_85 kc_1 ?_
      refine gk_goto (tgt := 90) (pc := 86) K d_M_compared_86 (by decide) ?_
      exact gk_iret (pc := 90) K d_M_compared_90 rfl h
noncomputable def f_M_compared_0 (q_M_one : gk_M → Option (Int32 × gk_M)) (q_M_product : gk_M → Option (Int32 × gk_M)) (q_M_sums : gk_M → Option (Int32 × gk_M)) (q_M_compared : gk_M → Option (Int32 × gk_M)) (q_M_both : gk_M → Option (Int32 × gk_M)) (q_M_either : gk_M → Option (Int32 × gk_M))  (m0 : gk_M) : Option (Int32 × gk_M) :=
  gk_bi (q_M_sums  m0) fun v2 m1 =>
  gk_bi (f_M_byteAt  m1) fun v4 m3 =>
  if 0 ≤ (m3.1 0 22) then
    some (v2, m3)
  else
    if v4 = 60 then
      f_M_compared_37 q_M_one q_M_product q_M_sums q_M_compared q_M_both q_M_either v2 v4 m3
    else
      if v4 = 61 then
        f_M_compared_37 q_M_one q_M_product q_M_sums q_M_compared q_M_both q_M_either v2 v4 m3
      else
        if v4 = 62 then
          f_M_compared_37 q_M_one q_M_product q_M_sums q_M_compared q_M_both q_M_either v2 v4 m3
        else
          some (v2, m3)

theorem s_M_compared_0 {z : gk_Z} {dd : Nat} (K : gk_F tm z me_M_compared (3 + (dd + 1))) {r : Int32} {mem2 : gk_M} (q_M_one : gk_M → Option (Int32 × gk_M)) (q_M_product : gk_M → Option (Int32 × gk_M)) (q_M_sums : gk_M → Option (Int32 × gk_M)) (q_M_compared : gk_M → Option (Int32 × gk_M)) (q_M_both : gk_M → Option (Int32 × gk_M)) (q_M_either : gk_M → Option (Int32 × gk_M)) (hq_M_one : ∀  mem r mem2, q_M_one  mem = some (r, mem2) → gk_C tm (gk_zl z) (gk_zu z) me_M_one (3 + dd) [.ref 0] mem (some (.int r)) mem2) (hq_M_product : ∀  mem r mem2, q_M_product  mem = some (r, mem2) → gk_C tm (gk_zl z) (gk_zu z) me_M_product (3 + dd) [.ref 0] mem (some (.int r)) mem2) (hq_M_sums : ∀  mem r mem2, q_M_sums  mem = some (r, mem2) → gk_C tm (gk_zl z) (gk_zu z) me_M_sums (3 + dd) [.ref 0] mem (some (.int r)) mem2) (hq_M_compared : ∀  mem r mem2, q_M_compared  mem = some (r, mem2) → gk_C tm (gk_zl z) (gk_zu z) me_M_compared (3 + dd) [.ref 0] mem (some (.int r)) mem2) (hq_M_both : ∀  mem r mem2, q_M_both  mem = some (r, mem2) → gk_C tm (gk_zl z) (gk_zu z) me_M_both (3 + dd) [.ref 0] mem (some (.int r)) mem2) (hq_M_either : ∀  mem r mem2, q_M_either  mem = some (r, mem2) → gk_C tm (gk_zl z) (gk_zu z) me_M_either (3 + dd) [.ref 0] mem (some (.int r)) mem2) : ∀  m0, f_M_compared_0 q_M_one q_M_product q_M_sums q_M_compared q_M_both q_M_either  m0 = some (r, mem2) → gk_G tm z me_M_compared (gk_R tm z (some (.int r)) mem2) m0 [(0, .ref 0)] [] 0 := by
  intro  m0  h
  unfold f_M_compared_0 at h
  refine gk_aload_n (pc := 0) K d_M_compared_0 rfl ?_
  obtain ⟨v2, m1, em1, h⟩ := gk_bi_some h
  refine gk_cVi (As := []) (pc := 1) K d_M_compared_1 mv_M_185 mc_M_sums rfl tm_0 cl_ok10.1 (hq_M_sums  _ _ _ em1) (by omega) rfl (Nat.le_of_ble_eq_true rfl) ?_
  refine gk_istore_n (lv2 := [(1, .int v2), (0, .ref 0)]) (pc := 4) K d_M_compared_4 (by decide) rfl ?_
  refine gk_aload_n (pc := 5) K d_M_compared_5 rfl ?_
  obtain ⟨v4, m3, em3, h⟩ := gk_bi_some h
  refine gk_cVi (As := []) (pc := 6) K d_M_compared_6 mv_M_172 mc_M_byteAt rfl tm_0 cl_ok10.1 (s_M_byteAt (gk_FD K)  em3) (by omega) rfl (Nat.le_of_ble_eq_true rfl) ?_
  refine gk_istore_n (lv2 := [(2, .int v4), (1, .int v2), (0, .ref 0)]) (pc := 9) K d_M_compared_9 (by decide) rfl ?_
  refine gk_aload_n (pc := 10) K d_M_compared_10 rfl ?_
  refine gk_get (pc := 11) K d_M_compared_11 fl_M_169 tm_0 rfl rfl ?_
  refine gk_if_ge (tgt := 35) (pc := 14) K d_M_compared_14 (by decide) h (fun h => ?_) (fun h => ?_)
  · refine gk_iload_n (pc := 35) K d_M_compared_35 rfl ?_
    exact gk_iret (pc := 36) K d_M_compared_36 rfl h
  · refine gk_iload_n (pc := 17) K d_M_compared_17 rfl ?_
    refine gk_bipush (pc := 18) K d_M_compared_18 kb_60 ?_
    refine gk_ic_eq (tgt := 37) (pc := 20) K d_M_compared_20 (by decide) h (fun h => ?_) (fun h => ?_)
    · exact gk_sub [2, 1, 0] rfl (s_M_compared_37 K q_M_one q_M_product q_M_sums q_M_compared q_M_both q_M_either hq_M_one hq_M_product hq_M_sums hq_M_compared hq_M_both hq_M_either _ _ _  h)
    · refine gk_iload_n (pc := 23) K d_M_compared_23 rfl ?_
      refine gk_bipush (pc := 24) K d_M_compared_24 kb_61 ?_
      refine gk_ic_eq (tgt := 37) (pc := 26) K d_M_compared_26 (by decide) h (fun h => ?_) (fun h => ?_)
      · exact gk_sub [2, 1, 0] rfl (s_M_compared_37 K q_M_one q_M_product q_M_sums q_M_compared q_M_both q_M_either hq_M_one hq_M_product hq_M_sums hq_M_compared hq_M_both hq_M_either _ _ _  h)
      · refine gk_iload_n (pc := 29) K d_M_compared_29 rfl ?_
        refine gk_bipush (pc := 30) K d_M_compared_30 kb_62 ?_
        refine gk_ic_eq (tgt := 37) (pc := 32) K d_M_compared_32 (by decide) h (fun h => ?_) (fun h => ?_)
        · exact gk_sub [2, 1, 0] rfl (s_M_compared_37 K q_M_one q_M_product q_M_sums q_M_compared q_M_both q_M_either hq_M_one hq_M_product hq_M_sums hq_M_compared hq_M_both hq_M_either _ _ _  h)
        · refine gk_iload_n (pc := 35) K d_M_compared_35 rfl ?_
          exact gk_iret (pc := 36) K d_M_compared_36 rfl h
theorem d_M_both_0 : decode me_M_both.2.1 0 = .ok (.aload_n 0, 1) := by decide +kernel
theorem d_M_both_1 : decode me_M_both.2.1 1 = .ok (.invokevirtual 182, 3) := by decide +kernel
theorem d_M_both_4 : decode me_M_both.2.1 4 = .ok (.istore_n 1, 1) := by decide +kernel
theorem d_M_both_5 : decode me_M_both.2.1 5 = .ok (.aload_n 0, 1) := by decide +kernel
theorem d_M_both_6 : decode me_M_both.2.1 6 = .ok (.bipush 38, 2) := by decide +kernel
theorem d_M_both_8 : decode me_M_both.2.1 8 = .ok (.invokevirtual 179, 3) := by decide +kernel
theorem d_M_both_11 : decode me_M_both.2.1 11 = .ok (.ifCond .eq 25, 3) := by decide +kernel
theorem d_M_both_14 : decode me_M_both.2.1 14 = .ok (.aload_n 0, 1) := by decide +kernel
theorem d_M_both_15 : decode me_M_both.2.1 15 = .ok (.invokevirtual 182, 3) := by decide +kernel
theorem d_M_both_18 : decode me_M_both.2.1 18 = .ok (.istore_n 2, 1) := by decide +kernel
theorem d_M_both_19 : decode me_M_both.2.1 19 = .ok (.iload_n 1, 1) := by decide +kernel
theorem d_M_both_20 : decode me_M_both.2.1 20 = .ok (.ifCond .eq 11, 3) := by decide +kernel
theorem d_M_both_23 : decode me_M_both.2.1 23 = .ok (.iload_n 2, 1) := by decide +kernel
theorem d_M_both_24 : decode me_M_both.2.1 24 = .ok (.ifCond .eq 7, 3) := by decide +kernel
theorem d_M_both_27 : decode me_M_both.2.1 27 = .ok (.iconst 1, 1) := by decide +kernel
theorem d_M_both_28 : decode me_M_both.2.1 28 = .ok (.goto 4, 3) := by decide +kernel
theorem d_M_both_31 : decode me_M_both.2.1 31 = .ok (.iconst 0, 1) := by decide +kernel
theorem d_M_both_32 : decode me_M_both.2.1 32 = .ok (.istore_n 1, 1) := by decide +kernel
theorem d_M_both_33 : decode me_M_both.2.1 33 = .ok (.goto (-28), 3) := by decide +kernel
theorem d_M_both_36 : decode me_M_both.2.1 36 = .ok (.iload_n 1, 1) := by decide +kernel
theorem d_M_both_37 : decode me_M_both.2.1 37 = .ok (.ireturn, 1) := by decide +kernel
noncomputable def f_M_both_32 (q_M_one : gk_M → Option (Int32 × gk_M)) (q_M_product : gk_M → Option (Int32 × gk_M)) (q_M_sums : gk_M → Option (Int32 × gk_M)) (q_M_compared : gk_M → Option (Int32 × gk_M)) (q_M_both : gk_M → Option (Int32 × gk_M)) (q_M_either : gk_M → Option (Int32 × gk_M)) (k5 : Int32 → gk_M → Option (Int32 × gk_M)) (s0 : Int32) (m0 : gk_M) : Option (Int32 × gk_M) :=
  k5 s0 m0

theorem s_M_both_32 {z : gk_Z} {dd : Nat} (K : gk_F tm z me_M_both (3 + (dd + 1))) {r : Int32} {mem2 : gk_M} (q_M_one : gk_M → Option (Int32 × gk_M)) (q_M_product : gk_M → Option (Int32 × gk_M)) (q_M_sums : gk_M → Option (Int32 × gk_M)) (q_M_compared : gk_M → Option (Int32 × gk_M)) (q_M_both : gk_M → Option (Int32 × gk_M)) (q_M_either : gk_M → Option (Int32 × gk_M)) (hq_M_one : ∀  mem r mem2, q_M_one  mem = some (r, mem2) → gk_C tm (gk_zl z) (gk_zu z) me_M_one (3 + dd) [.ref 0] mem (some (.int r)) mem2) (hq_M_product : ∀  mem r mem2, q_M_product  mem = some (r, mem2) → gk_C tm (gk_zl z) (gk_zu z) me_M_product (3 + dd) [.ref 0] mem (some (.int r)) mem2) (hq_M_sums : ∀  mem r mem2, q_M_sums  mem = some (r, mem2) → gk_C tm (gk_zl z) (gk_zu z) me_M_sums (3 + dd) [.ref 0] mem (some (.int r)) mem2) (hq_M_compared : ∀  mem r mem2, q_M_compared  mem = some (r, mem2) → gk_C tm (gk_zl z) (gk_zu z) me_M_compared (3 + dd) [.ref 0] mem (some (.int r)) mem2) (hq_M_both : ∀  mem r mem2, q_M_both  mem = some (r, mem2) → gk_C tm (gk_zl z) (gk_zu z) me_M_both (3 + dd) [.ref 0] mem (some (.int r)) mem2) (hq_M_either : ∀  mem r mem2, q_M_either  mem = some (r, mem2) → gk_C tm (gk_zl z) (gk_zu z) me_M_either (3 + dd) [.ref 0] mem (some (.int r)) mem2) {k5 : Int32 → gk_M → Option (Int32 × gk_M)} (hk5 : ∀ a1 m0, k5 a1 m0 = some (r, mem2) → gk_G tm z me_M_both (gk_R tm z (some (.int r)) mem2) m0 [(0, .ref 0), (1, .int a1)] [] 5) : ∀ s0 m0, f_M_both_32 q_M_one q_M_product q_M_sums q_M_compared q_M_both q_M_either k5 s0 m0 = some (r, mem2) → gk_G tm z me_M_both (gk_R tm z (some (.int r)) mem2) m0 [(0, .ref 0)] [.int s0] 32 := by
  intro s0 m0  h
  unfold f_M_both_32 at h
  refine gk_istore_n (lv2 := [(1, .int s0), (0, .ref 0)]) (pc := 32) K d_M_both_32 (by decide) rfl ?_
  refine gk_goto (tgt := 5) (pc := 33) K d_M_both_33 (by decide) ?_
  exact gk_sub [1, 0] rfl (hk5 _ _  h)
noncomputable def f_M_both_31 (q_M_one : gk_M → Option (Int32 × gk_M)) (q_M_product : gk_M → Option (Int32 × gk_M)) (q_M_sums : gk_M → Option (Int32 × gk_M)) (q_M_compared : gk_M → Option (Int32 × gk_M)) (q_M_both : gk_M → Option (Int32 × gk_M)) (q_M_either : gk_M → Option (Int32 × gk_M)) (k5 : Int32 → gk_M → Option (Int32 × gk_M))  (m0 : gk_M) : Option (Int32 × gk_M) :=
  f_M_both_32 q_M_one q_M_product q_M_sums q_M_compared q_M_both q_M_either k5 0 m0

theorem s_M_both_31 {z : gk_Z} {dd : Nat} (K : gk_F tm z me_M_both (3 + (dd + 1))) {r : Int32} {mem2 : gk_M} (q_M_one : gk_M → Option (Int32 × gk_M)) (q_M_product : gk_M → Option (Int32 × gk_M)) (q_M_sums : gk_M → Option (Int32 × gk_M)) (q_M_compared : gk_M → Option (Int32 × gk_M)) (q_M_both : gk_M → Option (Int32 × gk_M)) (q_M_either : gk_M → Option (Int32 × gk_M)) (hq_M_one : ∀  mem r mem2, q_M_one  mem = some (r, mem2) → gk_C tm (gk_zl z) (gk_zu z) me_M_one (3 + dd) [.ref 0] mem (some (.int r)) mem2) (hq_M_product : ∀  mem r mem2, q_M_product  mem = some (r, mem2) → gk_C tm (gk_zl z) (gk_zu z) me_M_product (3 + dd) [.ref 0] mem (some (.int r)) mem2) (hq_M_sums : ∀  mem r mem2, q_M_sums  mem = some (r, mem2) → gk_C tm (gk_zl z) (gk_zu z) me_M_sums (3 + dd) [.ref 0] mem (some (.int r)) mem2) (hq_M_compared : ∀  mem r mem2, q_M_compared  mem = some (r, mem2) → gk_C tm (gk_zl z) (gk_zu z) me_M_compared (3 + dd) [.ref 0] mem (some (.int r)) mem2) (hq_M_both : ∀  mem r mem2, q_M_both  mem = some (r, mem2) → gk_C tm (gk_zl z) (gk_zu z) me_M_both (3 + dd) [.ref 0] mem (some (.int r)) mem2) (hq_M_either : ∀  mem r mem2, q_M_either  mem = some (r, mem2) → gk_C tm (gk_zl z) (gk_zu z) me_M_either (3 + dd) [.ref 0] mem (some (.int r)) mem2) {k5 : Int32 → gk_M → Option (Int32 × gk_M)} (hk5 : ∀ a1 m0, k5 a1 m0 = some (r, mem2) → gk_G tm z me_M_both (gk_R tm z (some (.int r)) mem2) m0 [(0, .ref 0), (1, .int a1)] [] 5) : ∀  m0, f_M_both_31 q_M_one q_M_product q_M_sums q_M_compared q_M_both q_M_either k5  m0 = some (r, mem2) → gk_G tm z me_M_both (gk_R tm z (some (.int r)) mem2) m0 [(0, .ref 0)] [] 31 := by
  intro  m0  h
  unfold f_M_both_31 at h
  refine gk_iconst (pc := 31) K d_M_both_31 kc_0 ?_
  exact gk_sub [0] rfl (s_M_both_32 K q_M_one q_M_product q_M_sums q_M_compared q_M_both q_M_either hq_M_one hq_M_product hq_M_sums hq_M_compared hq_M_both hq_M_either hk5 _ _  h)
noncomputable def f_M_both_5 (q_M_one : gk_M → Option (Int32 × gk_M)) (q_M_product : gk_M → Option (Int32 × gk_M)) (q_M_sums : gk_M → Option (Int32 × gk_M)) (q_M_compared : gk_M → Option (Int32 × gk_M)) (q_M_both : gk_M → Option (Int32 × gk_M)) (q_M_either : gk_M → Option (Int32 × gk_M)) : Nat → Int32 → gk_M → Option (Int32 × gk_M)
  | 0, _, _ => none
  | n + 1, a1, m0 =>
    gk_bi (f_M_takes 38 m0) fun v2 m1 =>
    if v2 = 0 then
      some (a1, m1)
    else
      gk_bi (q_M_compared  m1) fun v4 m3 =>
      if a1 = 0 then
        f_M_both_31 q_M_one q_M_product q_M_sums q_M_compared q_M_both q_M_either (f_M_both_5 q_M_one q_M_product q_M_sums q_M_compared q_M_both q_M_either n)  m3
      else
        if v4 = 0 then
          f_M_both_31 q_M_one q_M_product q_M_sums q_M_compared q_M_both q_M_either (f_M_both_5 q_M_one q_M_product q_M_sums q_M_compared q_M_both q_M_either n)  m3
        else
          f_M_both_32 q_M_one q_M_product q_M_sums q_M_compared q_M_both q_M_either (f_M_both_5 q_M_one q_M_product q_M_sums q_M_compared q_M_both q_M_either n) 1 m3

theorem s_M_both_5 {z : gk_Z} {dd : Nat} (K : gk_F tm z me_M_both (3 + (dd + 1))) {r : Int32} {mem2 : gk_M} (q_M_one : gk_M → Option (Int32 × gk_M)) (q_M_product : gk_M → Option (Int32 × gk_M)) (q_M_sums : gk_M → Option (Int32 × gk_M)) (q_M_compared : gk_M → Option (Int32 × gk_M)) (q_M_both : gk_M → Option (Int32 × gk_M)) (q_M_either : gk_M → Option (Int32 × gk_M)) (hq_M_one : ∀  mem r mem2, q_M_one  mem = some (r, mem2) → gk_C tm (gk_zl z) (gk_zu z) me_M_one (3 + dd) [.ref 0] mem (some (.int r)) mem2) (hq_M_product : ∀  mem r mem2, q_M_product  mem = some (r, mem2) → gk_C tm (gk_zl z) (gk_zu z) me_M_product (3 + dd) [.ref 0] mem (some (.int r)) mem2) (hq_M_sums : ∀  mem r mem2, q_M_sums  mem = some (r, mem2) → gk_C tm (gk_zl z) (gk_zu z) me_M_sums (3 + dd) [.ref 0] mem (some (.int r)) mem2) (hq_M_compared : ∀  mem r mem2, q_M_compared  mem = some (r, mem2) → gk_C tm (gk_zl z) (gk_zu z) me_M_compared (3 + dd) [.ref 0] mem (some (.int r)) mem2) (hq_M_both : ∀  mem r mem2, q_M_both  mem = some (r, mem2) → gk_C tm (gk_zl z) (gk_zu z) me_M_both (3 + dd) [.ref 0] mem (some (.int r)) mem2) (hq_M_either : ∀  mem r mem2, q_M_either  mem = some (r, mem2) → gk_C tm (gk_zl z) (gk_zu z) me_M_either (3 + dd) [.ref 0] mem (some (.int r)) mem2) : ∀ n a1 m0, f_M_both_5 q_M_one q_M_product q_M_sums q_M_compared q_M_both q_M_either n a1 m0 = some (r, mem2) → gk_G tm z me_M_both (gk_R tm z (some (.int r)) mem2) m0 [(0, .ref 0), (1, .int a1)] [] 5 := by
  intro n
  induction n with
  | zero => intro a1 m0  h; exact nomatch (show (none : Option _) = some _ from h)
  | succ n ih =>
    intro a1 m0  h
    unfold f_M_both_5 at h
    refine gk_aload_n (pc := 5) K d_M_both_5 rfl ?_
    refine gk_bipush (pc := 6) K d_M_both_6 kb_38 ?_
    obtain ⟨v2, m1, em1, h⟩ := gk_bi_some h
    refine gk_cVi (As := [.int 38]) (pc := 8) K d_M_both_8 mv_M_179 mc_M_takes rfl tm_0 cl_ok10.1 (s_M_takes (gk_FD K)  em1) (by omega) rfl (Nat.le_of_ble_eq_true rfl) ?_
    refine gk_if_eq (tgt := 36) (pc := 11) K d_M_both_11 (by decide) h (fun h => ?_) (fun h => ?_)
    · refine gk_iload_n (pc := 36) K d_M_both_36 rfl ?_
      exact gk_iret (pc := 37) K d_M_both_37 rfl h
    · refine gk_aload_n (pc := 14) K d_M_both_14 rfl ?_
      obtain ⟨v4, m3, em3, h⟩ := gk_bi_some h
      refine gk_cVi (As := []) (pc := 15) K d_M_both_15 mv_M_182 mc_M_compared rfl tm_0 cl_ok10.1 (hq_M_compared  _ _ _ em3) (by omega) rfl (Nat.le_of_ble_eq_true rfl) ?_
      refine gk_istore_n (lv2 := [(2, .int v4), (0, .ref 0), (1, .int a1)]) (pc := 18) K d_M_both_18 (by decide) rfl ?_
      refine gk_iload_n (pc := 19) K d_M_both_19 rfl ?_
      refine gk_if_eq (tgt := 31) (pc := 20) K d_M_both_20 (by decide) h (fun h => ?_) (fun h => ?_)
      · exact gk_sub [1] rfl (s_M_both_31 K q_M_one q_M_product q_M_sums q_M_compared q_M_both q_M_either hq_M_one hq_M_product hq_M_sums hq_M_compared hq_M_both hq_M_either (fun x0 m  h => ih x0 m  h)  _  h)
      · refine gk_iload_n (pc := 23) K d_M_both_23 rfl ?_
        refine gk_if_eq (tgt := 31) (pc := 24) K d_M_both_24 (by decide) h (fun h => ?_) (fun h => ?_)
        · exact gk_sub [1] rfl (s_M_both_31 K q_M_one q_M_product q_M_sums q_M_compared q_M_both q_M_either hq_M_one hq_M_product hq_M_sums hq_M_compared hq_M_both hq_M_either (fun x0 m  h => ih x0 m  h)  _  h)
        · refine gk_iconst (pc := 27) K d_M_both_27 kc_1 ?_
          refine gk_goto (tgt := 32) (pc := 28) K d_M_both_28 (by decide) ?_
          exact gk_sub [1] rfl (s_M_both_32 K q_M_one q_M_product q_M_sums q_M_compared q_M_both q_M_either hq_M_one hq_M_product hq_M_sums hq_M_compared hq_M_both hq_M_either (fun x0 m  h => ih x0 m  h) _ _  h)
noncomputable def f_M_both_0 (q_M_one : gk_M → Option (Int32 × gk_M)) (q_M_product : gk_M → Option (Int32 × gk_M)) (q_M_sums : gk_M → Option (Int32 × gk_M)) (q_M_compared : gk_M → Option (Int32 × gk_M)) (q_M_both : gk_M → Option (Int32 × gk_M)) (q_M_either : gk_M → Option (Int32 × gk_M))  (m0 : gk_M) : Option (Int32 × gk_M) :=
  gk_bi (q_M_compared  m0) fun v2 m1 =>
  f_M_both_5 q_M_one q_M_product q_M_sums q_M_compared q_M_both q_M_either gk_fv v2 m1

theorem s_M_both_0 {z : gk_Z} {dd : Nat} (K : gk_F tm z me_M_both (3 + (dd + 1))) {r : Int32} {mem2 : gk_M} (q_M_one : gk_M → Option (Int32 × gk_M)) (q_M_product : gk_M → Option (Int32 × gk_M)) (q_M_sums : gk_M → Option (Int32 × gk_M)) (q_M_compared : gk_M → Option (Int32 × gk_M)) (q_M_both : gk_M → Option (Int32 × gk_M)) (q_M_either : gk_M → Option (Int32 × gk_M)) (hq_M_one : ∀  mem r mem2, q_M_one  mem = some (r, mem2) → gk_C tm (gk_zl z) (gk_zu z) me_M_one (3 + dd) [.ref 0] mem (some (.int r)) mem2) (hq_M_product : ∀  mem r mem2, q_M_product  mem = some (r, mem2) → gk_C tm (gk_zl z) (gk_zu z) me_M_product (3 + dd) [.ref 0] mem (some (.int r)) mem2) (hq_M_sums : ∀  mem r mem2, q_M_sums  mem = some (r, mem2) → gk_C tm (gk_zl z) (gk_zu z) me_M_sums (3 + dd) [.ref 0] mem (some (.int r)) mem2) (hq_M_compared : ∀  mem r mem2, q_M_compared  mem = some (r, mem2) → gk_C tm (gk_zl z) (gk_zu z) me_M_compared (3 + dd) [.ref 0] mem (some (.int r)) mem2) (hq_M_both : ∀  mem r mem2, q_M_both  mem = some (r, mem2) → gk_C tm (gk_zl z) (gk_zu z) me_M_both (3 + dd) [.ref 0] mem (some (.int r)) mem2) (hq_M_either : ∀  mem r mem2, q_M_either  mem = some (r, mem2) → gk_C tm (gk_zl z) (gk_zu z) me_M_either (3 + dd) [.ref 0] mem (some (.int r)) mem2) : ∀  m0, f_M_both_0 q_M_one q_M_product q_M_sums q_M_compared q_M_both q_M_either  m0 = some (r, mem2) → gk_G tm z me_M_both (gk_R tm z (some (.int r)) mem2) m0 [(0, .ref 0)] [] 0 := by
  intro  m0  h
  unfold f_M_both_0 at h
  refine gk_aload_n (pc := 0) K d_M_both_0 rfl ?_
  obtain ⟨v2, m1, em1, h⟩ := gk_bi_some h
  refine gk_cVi (As := []) (pc := 1) K d_M_both_1 mv_M_182 mc_M_compared rfl tm_0 cl_ok10.1 (hq_M_compared  _ _ _ em1) (by omega) rfl (Nat.le_of_ble_eq_true rfl) ?_
  refine gk_istore_n (lv2 := [(1, .int v2), (0, .ref 0)]) (pc := 4) K d_M_both_4 (by decide) rfl ?_
  exact gk_sub [1, 0] rfl (s_M_both_5 K q_M_one q_M_product q_M_sums q_M_compared q_M_both q_M_either hq_M_one hq_M_product hq_M_sums hq_M_compared hq_M_both hq_M_either _ _ _  h)
theorem d_M_either_0 : decode me_M_either.2.1 0 = .ok (.aload_n 0, 1) := by decide +kernel
theorem d_M_either_1 : decode me_M_either.2.1 1 = .ok (.invokevirtual 176, 3) := by decide +kernel
theorem d_M_either_4 : decode me_M_either.2.1 4 = .ok (.istore_n 1, 1) := by decide +kernel
theorem d_M_either_5 : decode me_M_either.2.1 5 = .ok (.aload_n 0, 1) := by decide +kernel
theorem d_M_either_6 : decode me_M_either.2.1 6 = .ok (.bipush 124, 2) := by decide +kernel
theorem d_M_either_8 : decode me_M_either.2.1 8 = .ok (.invokevirtual 179, 3) := by decide +kernel
theorem d_M_either_11 : decode me_M_either.2.1 11 = .ok (.ifCond .eq 25, 3) := by decide +kernel
theorem d_M_either_14 : decode me_M_either.2.1 14 = .ok (.aload_n 0, 1) := by decide +kernel
theorem d_M_either_15 : decode me_M_either.2.1 15 = .ok (.invokevirtual 176, 3) := by decide +kernel
theorem d_M_either_18 : decode me_M_either.2.1 18 = .ok (.istore_n 2, 1) := by decide +kernel
theorem d_M_either_19 : decode me_M_either.2.1 19 = .ok (.iload_n 1, 1) := by decide +kernel
theorem d_M_either_20 : decode me_M_either.2.1 20 = .ok (.ifCond .ne 7, 3) := by decide +kernel
theorem d_M_either_23 : decode me_M_either.2.1 23 = .ok (.iload_n 2, 1) := by decide +kernel
theorem d_M_either_24 : decode me_M_either.2.1 24 = .ok (.ifCond .eq 7, 3) := by decide +kernel
theorem d_M_either_27 : decode me_M_either.2.1 27 = .ok (.iconst 1, 1) := by decide +kernel
theorem d_M_either_28 : decode me_M_either.2.1 28 = .ok (.goto 4, 3) := by decide +kernel
theorem d_M_either_31 : decode me_M_either.2.1 31 = .ok (.iconst 0, 1) := by decide +kernel
theorem d_M_either_32 : decode me_M_either.2.1 32 = .ok (.istore_n 1, 1) := by decide +kernel
theorem d_M_either_33 : decode me_M_either.2.1 33 = .ok (.goto (-28), 3) := by decide +kernel
theorem d_M_either_36 : decode me_M_either.2.1 36 = .ok (.iload_n 1, 1) := by decide +kernel
theorem d_M_either_37 : decode me_M_either.2.1 37 = .ok (.ireturn, 1) := by decide +kernel
noncomputable def f_M_either_32 (q_M_one : gk_M → Option (Int32 × gk_M)) (q_M_product : gk_M → Option (Int32 × gk_M)) (q_M_sums : gk_M → Option (Int32 × gk_M)) (q_M_compared : gk_M → Option (Int32 × gk_M)) (q_M_both : gk_M → Option (Int32 × gk_M)) (q_M_either : gk_M → Option (Int32 × gk_M)) (k5 : Int32 → gk_M → Option (Int32 × gk_M)) (s0 : Int32) (m0 : gk_M) : Option (Int32 × gk_M) :=
  k5 s0 m0

theorem s_M_either_32 {z : gk_Z} {dd : Nat} (K : gk_F tm z me_M_either (3 + (dd + 1))) {r : Int32} {mem2 : gk_M} (q_M_one : gk_M → Option (Int32 × gk_M)) (q_M_product : gk_M → Option (Int32 × gk_M)) (q_M_sums : gk_M → Option (Int32 × gk_M)) (q_M_compared : gk_M → Option (Int32 × gk_M)) (q_M_both : gk_M → Option (Int32 × gk_M)) (q_M_either : gk_M → Option (Int32 × gk_M)) (hq_M_one : ∀  mem r mem2, q_M_one  mem = some (r, mem2) → gk_C tm (gk_zl z) (gk_zu z) me_M_one (3 + dd) [.ref 0] mem (some (.int r)) mem2) (hq_M_product : ∀  mem r mem2, q_M_product  mem = some (r, mem2) → gk_C tm (gk_zl z) (gk_zu z) me_M_product (3 + dd) [.ref 0] mem (some (.int r)) mem2) (hq_M_sums : ∀  mem r mem2, q_M_sums  mem = some (r, mem2) → gk_C tm (gk_zl z) (gk_zu z) me_M_sums (3 + dd) [.ref 0] mem (some (.int r)) mem2) (hq_M_compared : ∀  mem r mem2, q_M_compared  mem = some (r, mem2) → gk_C tm (gk_zl z) (gk_zu z) me_M_compared (3 + dd) [.ref 0] mem (some (.int r)) mem2) (hq_M_both : ∀  mem r mem2, q_M_both  mem = some (r, mem2) → gk_C tm (gk_zl z) (gk_zu z) me_M_both (3 + dd) [.ref 0] mem (some (.int r)) mem2) (hq_M_either : ∀  mem r mem2, q_M_either  mem = some (r, mem2) → gk_C tm (gk_zl z) (gk_zu z) me_M_either (3 + dd) [.ref 0] mem (some (.int r)) mem2) {k5 : Int32 → gk_M → Option (Int32 × gk_M)} (hk5 : ∀ a1 m0, k5 a1 m0 = some (r, mem2) → gk_G tm z me_M_either (gk_R tm z (some (.int r)) mem2) m0 [(0, .ref 0), (1, .int a1)] [] 5) : ∀ s0 m0, f_M_either_32 q_M_one q_M_product q_M_sums q_M_compared q_M_both q_M_either k5 s0 m0 = some (r, mem2) → gk_G tm z me_M_either (gk_R tm z (some (.int r)) mem2) m0 [(0, .ref 0)] [.int s0] 32 := by
  intro s0 m0  h
  unfold f_M_either_32 at h
  refine gk_istore_n (lv2 := [(1, .int s0), (0, .ref 0)]) (pc := 32) K d_M_either_32 (by decide) rfl ?_
  refine gk_goto (tgt := 5) (pc := 33) K d_M_either_33 (by decide) ?_
  exact gk_sub [1, 0] rfl (hk5 _ _  h)
noncomputable def f_M_either_27 (q_M_one : gk_M → Option (Int32 × gk_M)) (q_M_product : gk_M → Option (Int32 × gk_M)) (q_M_sums : gk_M → Option (Int32 × gk_M)) (q_M_compared : gk_M → Option (Int32 × gk_M)) (q_M_both : gk_M → Option (Int32 × gk_M)) (q_M_either : gk_M → Option (Int32 × gk_M)) (k5 : Int32 → gk_M → Option (Int32 × gk_M))  (m0 : gk_M) : Option (Int32 × gk_M) :=
  f_M_either_32 q_M_one q_M_product q_M_sums q_M_compared q_M_both q_M_either k5 1 m0

theorem s_M_either_27 {z : gk_Z} {dd : Nat} (K : gk_F tm z me_M_either (3 + (dd + 1))) {r : Int32} {mem2 : gk_M} (q_M_one : gk_M → Option (Int32 × gk_M)) (q_M_product : gk_M → Option (Int32 × gk_M)) (q_M_sums : gk_M → Option (Int32 × gk_M)) (q_M_compared : gk_M → Option (Int32 × gk_M)) (q_M_both : gk_M → Option (Int32 × gk_M)) (q_M_either : gk_M → Option (Int32 × gk_M)) (hq_M_one : ∀  mem r mem2, q_M_one  mem = some (r, mem2) → gk_C tm (gk_zl z) (gk_zu z) me_M_one (3 + dd) [.ref 0] mem (some (.int r)) mem2) (hq_M_product : ∀  mem r mem2, q_M_product  mem = some (r, mem2) → gk_C tm (gk_zl z) (gk_zu z) me_M_product (3 + dd) [.ref 0] mem (some (.int r)) mem2) (hq_M_sums : ∀  mem r mem2, q_M_sums  mem = some (r, mem2) → gk_C tm (gk_zl z) (gk_zu z) me_M_sums (3 + dd) [.ref 0] mem (some (.int r)) mem2) (hq_M_compared : ∀  mem r mem2, q_M_compared  mem = some (r, mem2) → gk_C tm (gk_zl z) (gk_zu z) me_M_compared (3 + dd) [.ref 0] mem (some (.int r)) mem2) (hq_M_both : ∀  mem r mem2, q_M_both  mem = some (r, mem2) → gk_C tm (gk_zl z) (gk_zu z) me_M_both (3 + dd) [.ref 0] mem (some (.int r)) mem2) (hq_M_either : ∀  mem r mem2, q_M_either  mem = some (r, mem2) → gk_C tm (gk_zl z) (gk_zu z) me_M_either (3 + dd) [.ref 0] mem (some (.int r)) mem2) {k5 : Int32 → gk_M → Option (Int32 × gk_M)} (hk5 : ∀ a1 m0, k5 a1 m0 = some (r, mem2) → gk_G tm z me_M_either (gk_R tm z (some (.int r)) mem2) m0 [(0, .ref 0), (1, .int a1)] [] 5) : ∀  m0, f_M_either_27 q_M_one q_M_product q_M_sums q_M_compared q_M_both q_M_either k5  m0 = some (r, mem2) → gk_G tm z me_M_either (gk_R tm z (some (.int r)) mem2) m0 [(0, .ref 0)] [] 27 := by
  intro  m0  h
  unfold f_M_either_27 at h
  refine gk_iconst (pc := 27) K d_M_either_27 kc_1 ?_
  refine gk_goto (tgt := 32) (pc := 28) K d_M_either_28 (by decide) ?_
  exact gk_sub [0] rfl (s_M_either_32 K q_M_one q_M_product q_M_sums q_M_compared q_M_both q_M_either hq_M_one hq_M_product hq_M_sums hq_M_compared hq_M_both hq_M_either hk5 _ _  h)
noncomputable def f_M_either_5 (q_M_one : gk_M → Option (Int32 × gk_M)) (q_M_product : gk_M → Option (Int32 × gk_M)) (q_M_sums : gk_M → Option (Int32 × gk_M)) (q_M_compared : gk_M → Option (Int32 × gk_M)) (q_M_both : gk_M → Option (Int32 × gk_M)) (q_M_either : gk_M → Option (Int32 × gk_M)) : Nat → Int32 → gk_M → Option (Int32 × gk_M)
  | 0, _, _ => none
  | n + 1, a1, m0 =>
    gk_bi (f_M_takes 124 m0) fun v2 m1 =>
    if v2 = 0 then
      some (a1, m1)
    else
      gk_bi (q_M_both  m1) fun v4 m3 =>
      if ¬ a1 = 0 then
        f_M_either_27 q_M_one q_M_product q_M_sums q_M_compared q_M_both q_M_either (f_M_either_5 q_M_one q_M_product q_M_sums q_M_compared q_M_both q_M_either n)  m3
      else
        if v4 = 0 then
          f_M_either_32 q_M_one q_M_product q_M_sums q_M_compared q_M_both q_M_either (f_M_either_5 q_M_one q_M_product q_M_sums q_M_compared q_M_both q_M_either n) 0 m3
        else
          f_M_either_27 q_M_one q_M_product q_M_sums q_M_compared q_M_both q_M_either (f_M_either_5 q_M_one q_M_product q_M_sums q_M_compared q_M_both q_M_either n)  m3

theorem s_M_either_5 {z : gk_Z} {dd : Nat} (K : gk_F tm z me_M_either (3 + (dd + 1))) {r : Int32} {mem2 : gk_M} (q_M_one : gk_M → Option (Int32 × gk_M)) (q_M_product : gk_M → Option (Int32 × gk_M)) (q_M_sums : gk_M → Option (Int32 × gk_M)) (q_M_compared : gk_M → Option (Int32 × gk_M)) (q_M_both : gk_M → Option (Int32 × gk_M)) (q_M_either : gk_M → Option (Int32 × gk_M)) (hq_M_one : ∀  mem r mem2, q_M_one  mem = some (r, mem2) → gk_C tm (gk_zl z) (gk_zu z) me_M_one (3 + dd) [.ref 0] mem (some (.int r)) mem2) (hq_M_product : ∀  mem r mem2, q_M_product  mem = some (r, mem2) → gk_C tm (gk_zl z) (gk_zu z) me_M_product (3 + dd) [.ref 0] mem (some (.int r)) mem2) (hq_M_sums : ∀  mem r mem2, q_M_sums  mem = some (r, mem2) → gk_C tm (gk_zl z) (gk_zu z) me_M_sums (3 + dd) [.ref 0] mem (some (.int r)) mem2) (hq_M_compared : ∀  mem r mem2, q_M_compared  mem = some (r, mem2) → gk_C tm (gk_zl z) (gk_zu z) me_M_compared (3 + dd) [.ref 0] mem (some (.int r)) mem2) (hq_M_both : ∀  mem r mem2, q_M_both  mem = some (r, mem2) → gk_C tm (gk_zl z) (gk_zu z) me_M_both (3 + dd) [.ref 0] mem (some (.int r)) mem2) (hq_M_either : ∀  mem r mem2, q_M_either  mem = some (r, mem2) → gk_C tm (gk_zl z) (gk_zu z) me_M_either (3 + dd) [.ref 0] mem (some (.int r)) mem2) : ∀ n a1 m0, f_M_either_5 q_M_one q_M_product q_M_sums q_M_compared q_M_both q_M_either n a1 m0 = some (r, mem2) → gk_G tm z me_M_either (gk_R tm z (some (.int r)) mem2) m0 [(0, .ref 0), (1, .int a1)] [] 5 := by
  intro n
  induction n with
  | zero => intro a1 m0  h; exact nomatch (show (none : Option _) = some _ from h)
  | succ n ih =>
    intro a1 m0  h
    unfold f_M_either_5 at h
    refine gk_aload_n (pc := 5) K d_M_either_5 rfl ?_
    refine gk_bipush (pc := 6) K d_M_either_6 kb_124 ?_
    obtain ⟨v2, m1, em1, h⟩ := gk_bi_some h
    refine gk_cVi (As := [.int 124]) (pc := 8) K d_M_either_8 mv_M_179 mc_M_takes rfl tm_0 cl_ok10.1 (s_M_takes (gk_FD K)  em1) (by omega) rfl (Nat.le_of_ble_eq_true rfl) ?_
    refine gk_if_eq (tgt := 36) (pc := 11) K d_M_either_11 (by decide) h (fun h => ?_) (fun h => ?_)
    · refine gk_iload_n (pc := 36) K d_M_either_36 rfl ?_
      exact gk_iret (pc := 37) K d_M_either_37 rfl h
    · refine gk_aload_n (pc := 14) K d_M_either_14 rfl ?_
      obtain ⟨v4, m3, em3, h⟩ := gk_bi_some h
      refine gk_cVi (As := []) (pc := 15) K d_M_either_15 mv_M_176 mc_M_both rfl tm_0 cl_ok10.1 (hq_M_both  _ _ _ em3) (by omega) rfl (Nat.le_of_ble_eq_true rfl) ?_
      refine gk_istore_n (lv2 := [(2, .int v4), (0, .ref 0), (1, .int a1)]) (pc := 18) K d_M_either_18 (by decide) rfl ?_
      refine gk_iload_n (pc := 19) K d_M_either_19 rfl ?_
      refine gk_if_ne (tgt := 27) (pc := 20) K d_M_either_20 (by decide) h (fun h => ?_) (fun h => ?_)
      · exact gk_sub [1] rfl (s_M_either_27 K q_M_one q_M_product q_M_sums q_M_compared q_M_both q_M_either hq_M_one hq_M_product hq_M_sums hq_M_compared hq_M_both hq_M_either (fun x0 m  h => ih x0 m  h)  _  h)
      · refine gk_iload_n (pc := 23) K d_M_either_23 rfl ?_
        refine gk_if_eq (tgt := 31) (pc := 24) K d_M_either_24 (by decide) h (fun h => ?_) (fun h => ?_)
        · refine gk_iconst (pc := 31) K d_M_either_31 kc_0 ?_
          exact gk_sub [1] rfl (s_M_either_32 K q_M_one q_M_product q_M_sums q_M_compared q_M_both q_M_either hq_M_one hq_M_product hq_M_sums hq_M_compared hq_M_both hq_M_either (fun x0 m  h => ih x0 m  h) _ _  h)
        · exact gk_sub [1] rfl (s_M_either_27 K q_M_one q_M_product q_M_sums q_M_compared q_M_both q_M_either hq_M_one hq_M_product hq_M_sums hq_M_compared hq_M_both hq_M_either (fun x0 m  h => ih x0 m  h)  _  h)
noncomputable def f_M_either_0 (q_M_one : gk_M → Option (Int32 × gk_M)) (q_M_product : gk_M → Option (Int32 × gk_M)) (q_M_sums : gk_M → Option (Int32 × gk_M)) (q_M_compared : gk_M → Option (Int32 × gk_M)) (q_M_both : gk_M → Option (Int32 × gk_M)) (q_M_either : gk_M → Option (Int32 × gk_M))  (m0 : gk_M) : Option (Int32 × gk_M) :=
  gk_bi (q_M_both  m0) fun v2 m1 =>
  f_M_either_5 q_M_one q_M_product q_M_sums q_M_compared q_M_both q_M_either gk_fv v2 m1

theorem s_M_either_0 {z : gk_Z} {dd : Nat} (K : gk_F tm z me_M_either (3 + (dd + 1))) {r : Int32} {mem2 : gk_M} (q_M_one : gk_M → Option (Int32 × gk_M)) (q_M_product : gk_M → Option (Int32 × gk_M)) (q_M_sums : gk_M → Option (Int32 × gk_M)) (q_M_compared : gk_M → Option (Int32 × gk_M)) (q_M_both : gk_M → Option (Int32 × gk_M)) (q_M_either : gk_M → Option (Int32 × gk_M)) (hq_M_one : ∀  mem r mem2, q_M_one  mem = some (r, mem2) → gk_C tm (gk_zl z) (gk_zu z) me_M_one (3 + dd) [.ref 0] mem (some (.int r)) mem2) (hq_M_product : ∀  mem r mem2, q_M_product  mem = some (r, mem2) → gk_C tm (gk_zl z) (gk_zu z) me_M_product (3 + dd) [.ref 0] mem (some (.int r)) mem2) (hq_M_sums : ∀  mem r mem2, q_M_sums  mem = some (r, mem2) → gk_C tm (gk_zl z) (gk_zu z) me_M_sums (3 + dd) [.ref 0] mem (some (.int r)) mem2) (hq_M_compared : ∀  mem r mem2, q_M_compared  mem = some (r, mem2) → gk_C tm (gk_zl z) (gk_zu z) me_M_compared (3 + dd) [.ref 0] mem (some (.int r)) mem2) (hq_M_both : ∀  mem r mem2, q_M_both  mem = some (r, mem2) → gk_C tm (gk_zl z) (gk_zu z) me_M_both (3 + dd) [.ref 0] mem (some (.int r)) mem2) (hq_M_either : ∀  mem r mem2, q_M_either  mem = some (r, mem2) → gk_C tm (gk_zl z) (gk_zu z) me_M_either (3 + dd) [.ref 0] mem (some (.int r)) mem2) : ∀  m0, f_M_either_0 q_M_one q_M_product q_M_sums q_M_compared q_M_both q_M_either  m0 = some (r, mem2) → gk_G tm z me_M_either (gk_R tm z (some (.int r)) mem2) m0 [(0, .ref 0)] [] 0 := by
  intro  m0  h
  unfold f_M_either_0 at h
  refine gk_aload_n (pc := 0) K d_M_either_0 rfl ?_
  obtain ⟨v2, m1, em1, h⟩ := gk_bi_some h
  refine gk_cVi (As := []) (pc := 1) K d_M_either_1 mv_M_176 mc_M_both rfl tm_0 cl_ok10.1 (hq_M_both  _ _ _ em1) (by omega) rfl (Nat.le_of_ble_eq_true rfl) ?_
  refine gk_istore_n (lv2 := [(1, .int v2), (0, .ref 0)]) (pc := 4) K d_M_either_4 (by decide) rfl ?_
  exact gk_sub [1, 0] rfl (s_M_either_5 K q_M_one q_M_product q_M_sums q_M_compared q_M_both q_M_either hq_M_one hq_M_product hq_M_sums hq_M_compared hq_M_both hq_M_either _ _ _  h)
noncomputable def r_M_one_s (p : Nat → gk_M → Option (Int32 × gk_M)) : Nat → gk_M → Option (Int32 × gk_M)
  | 0, m0 => f_M_one_0 (fun  m => p 0  m) (fun  m => p 1  m) (fun  m => p 2  m) (fun  m => p 3  m) (fun  m => p 4  m) (fun  m => p 5  m)  m0
  | 1, m0 => f_M_product_0 (fun  m => p 0  m) (fun  m => p 1  m) (fun  m => p 2  m) (fun  m => p 3  m) (fun  m => p 4  m) (fun  m => p 5  m)  m0
  | 2, m0 => f_M_sums_0 (fun  m => p 0  m) (fun  m => p 1  m) (fun  m => p 2  m) (fun  m => p 3  m) (fun  m => p 4  m) (fun  m => p 5  m)  m0
  | 3, m0 => f_M_compared_0 (fun  m => p 0  m) (fun  m => p 1  m) (fun  m => p 2  m) (fun  m => p 3  m) (fun  m => p 4  m) (fun  m => p 5  m)  m0
  | 4, m0 => f_M_both_0 (fun  m => p 0  m) (fun  m => p 1  m) (fun  m => p 2  m) (fun  m => p 3  m) (fun  m => p 4  m) (fun  m => p 5  m)  m0
  | 5, m0 => f_M_either_0 (fun  m => p 0  m) (fun  m => p 1  m) (fun  m => p 2  m) (fun  m => p 3  m) (fun  m => p 4  m) (fun  m => p 5  m)  m0
  | _, _ => none
noncomputable def r_M_one : Nat → Nat → gk_M → Option (Int32 × gk_M)
  | 0 => fun _ _ => none
  | d + 1 => r_M_one_s (r_M_one d)
theorem r_M_one_e0 (d : Nat)  (m0 : gk_M) : r_M_one (d + 1) 0  m0 = f_M_one_0 (fun  m => r_M_one d 0  m) (fun  m => r_M_one d 1  m) (fun  m => r_M_one d 2  m) (fun  m => r_M_one d 3  m) (fun  m => r_M_one d 4  m) (fun  m => r_M_one d 5  m)  m0 := rfl
theorem r_M_one_e1 (d : Nat)  (m0 : gk_M) : r_M_one (d + 1) 1  m0 = f_M_product_0 (fun  m => r_M_one d 0  m) (fun  m => r_M_one d 1  m) (fun  m => r_M_one d 2  m) (fun  m => r_M_one d 3  m) (fun  m => r_M_one d 4  m) (fun  m => r_M_one d 5  m)  m0 := rfl
theorem r_M_one_e2 (d : Nat)  (m0 : gk_M) : r_M_one (d + 1) 2  m0 = f_M_sums_0 (fun  m => r_M_one d 0  m) (fun  m => r_M_one d 1  m) (fun  m => r_M_one d 2  m) (fun  m => r_M_one d 3  m) (fun  m => r_M_one d 4  m) (fun  m => r_M_one d 5  m)  m0 := rfl
theorem r_M_one_e3 (d : Nat)  (m0 : gk_M) : r_M_one (d + 1) 3  m0 = f_M_compared_0 (fun  m => r_M_one d 0  m) (fun  m => r_M_one d 1  m) (fun  m => r_M_one d 2  m) (fun  m => r_M_one d 3  m) (fun  m => r_M_one d 4  m) (fun  m => r_M_one d 5  m)  m0 := rfl
theorem r_M_one_e4 (d : Nat)  (m0 : gk_M) : r_M_one (d + 1) 4  m0 = f_M_both_0 (fun  m => r_M_one d 0  m) (fun  m => r_M_one d 1  m) (fun  m => r_M_one d 2  m) (fun  m => r_M_one d 3  m) (fun  m => r_M_one d 4  m) (fun  m => r_M_one d 5  m)  m0 := rfl
theorem r_M_one_e5 (d : Nat)  (m0 : gk_M) : r_M_one (d + 1) 5  m0 = f_M_either_0 (fun  m => r_M_one d 0  m) (fun  m => r_M_one d 1  m) (fun  m => r_M_one d 2  m) (fun  m => r_M_one d 3  m) (fun  m => r_M_one d 4  m) (fun  m => r_M_one d 5  m)  m0 := rfl
theorem sr_M_one {l : Launch} {u : gk_U} (hD : gk_D tm u) : ∀ d, (∀  mem r mem2, r_M_one d 0  mem = some (r, mem2) → gk_C tm l u me_M_one (3 + d) [.ref 0] mem (some (.int r)) mem2) ∧ (∀  mem r mem2, r_M_one d 1  mem = some (r, mem2) → gk_C tm l u me_M_product (3 + d) [.ref 0] mem (some (.int r)) mem2) ∧ (∀  mem r mem2, r_M_one d 2  mem = some (r, mem2) → gk_C tm l u me_M_sums (3 + d) [.ref 0] mem (some (.int r)) mem2) ∧ (∀  mem r mem2, r_M_one d 3  mem = some (r, mem2) → gk_C tm l u me_M_compared (3 + d) [.ref 0] mem (some (.int r)) mem2) ∧ (∀  mem r mem2, r_M_one d 4  mem = some (r, mem2) → gk_C tm l u me_M_both (3 + d) [.ref 0] mem (some (.int r)) mem2) ∧ (∀  mem r mem2, r_M_one d 5  mem = some (r, mem2) → gk_C tm l u me_M_either (3 + d) [.ref 0] mem (some (.int r)) mem2) := by
  intro d
  induction d with
  | zero => exact ⟨(fun  _ _ _ h => nomatch (show (none : Option _) = some _ from h)), (fun  _ _ _ h => nomatch (show (none : Option _) = some _ from h)), (fun  _ _ _ h => nomatch (show (none : Option _) = some _ from h)), (fun  _ _ _ h => nomatch (show (none : Option _) = some _ from h)), (fun  _ _ _ h => nomatch (show (none : Option _) = some _ from h)), (fun  _ _ _ h => nomatch (show (none : Option _) = some _ from h))⟩
  | succ d ih =>
    refine ⟨?_, ?_, ?_, ?_, ?_, ?_⟩
    · intro  mem r mem2 h
      refine gk_enter hD mc_M_one (Nat.le_of_ble_eq_true rfl) rfl (fun z hl hu K => ?_)
      subst hl
      subst hu
      rw [r_M_one_e0] at h
      exact s_M_one_0 K (fun  m => r_M_one d 0  m) (fun  m => r_M_one d 1  m) (fun  m => r_M_one d 2  m) (fun  m => r_M_one d 3  m) (fun  m => r_M_one d 4  m) (fun  m => r_M_one d 5  m) (fun  a b c h => ih.1  a b c h) (fun  a b c h => ih.2.1  a b c h) (fun  a b c h => ih.2.2.1  a b c h) (fun  a b c h => ih.2.2.2.1  a b c h) (fun  a b c h => ih.2.2.2.2.1  a b c h) (fun  a b c h => ih.2.2.2.2.2  a b c h)  _ h
    · intro  mem r mem2 h
      refine gk_enter hD mc_M_product (Nat.le_of_ble_eq_true rfl) rfl (fun z hl hu K => ?_)
      subst hl
      subst hu
      rw [r_M_one_e1] at h
      exact s_M_product_0 K (fun  m => r_M_one d 0  m) (fun  m => r_M_one d 1  m) (fun  m => r_M_one d 2  m) (fun  m => r_M_one d 3  m) (fun  m => r_M_one d 4  m) (fun  m => r_M_one d 5  m) (fun  a b c h => ih.1  a b c h) (fun  a b c h => ih.2.1  a b c h) (fun  a b c h => ih.2.2.1  a b c h) (fun  a b c h => ih.2.2.2.1  a b c h) (fun  a b c h => ih.2.2.2.2.1  a b c h) (fun  a b c h => ih.2.2.2.2.2  a b c h)  _ h
    · intro  mem r mem2 h
      refine gk_enter hD mc_M_sums (Nat.le_of_ble_eq_true rfl) rfl (fun z hl hu K => ?_)
      subst hl
      subst hu
      rw [r_M_one_e2] at h
      exact s_M_sums_0 K (fun  m => r_M_one d 0  m) (fun  m => r_M_one d 1  m) (fun  m => r_M_one d 2  m) (fun  m => r_M_one d 3  m) (fun  m => r_M_one d 4  m) (fun  m => r_M_one d 5  m) (fun  a b c h => ih.1  a b c h) (fun  a b c h => ih.2.1  a b c h) (fun  a b c h => ih.2.2.1  a b c h) (fun  a b c h => ih.2.2.2.1  a b c h) (fun  a b c h => ih.2.2.2.2.1  a b c h) (fun  a b c h => ih.2.2.2.2.2  a b c h)  _ h
    · intro  mem r mem2 h
      refine gk_enter hD mc_M_compared (Nat.le_of_ble_eq_true rfl) rfl (fun z hl hu K => ?_)
      subst hl
      subst hu
      rw [r_M_one_e3] at h
      exact s_M_compared_0 K (fun  m => r_M_one d 0  m) (fun  m => r_M_one d 1  m) (fun  m => r_M_one d 2  m) (fun  m => r_M_one d 3  m) (fun  m => r_M_one d 4  m) (fun  m => r_M_one d 5  m) (fun  a b c h => ih.1  a b c h) (fun  a b c h => ih.2.1  a b c h) (fun  a b c h => ih.2.2.1  a b c h) (fun  a b c h => ih.2.2.2.1  a b c h) (fun  a b c h => ih.2.2.2.2.1  a b c h) (fun  a b c h => ih.2.2.2.2.2  a b c h)  _ h
    · intro  mem r mem2 h
      refine gk_enter hD mc_M_both (Nat.le_of_ble_eq_true rfl) rfl (fun z hl hu K => ?_)
      subst hl
      subst hu
      rw [r_M_one_e4] at h
      exact s_M_both_0 K (fun  m => r_M_one d 0  m) (fun  m => r_M_one d 1  m) (fun  m => r_M_one d 2  m) (fun  m => r_M_one d 3  m) (fun  m => r_M_one d 4  m) (fun  m => r_M_one d 5  m) (fun  a b c h => ih.1  a b c h) (fun  a b c h => ih.2.1  a b c h) (fun  a b c h => ih.2.2.1  a b c h) (fun  a b c h => ih.2.2.2.1  a b c h) (fun  a b c h => ih.2.2.2.2.1  a b c h) (fun  a b c h => ih.2.2.2.2.2  a b c h)  _ h
    · intro  mem r mem2 h
      refine gk_enter hD mc_M_either (Nat.le_of_ble_eq_true rfl) rfl (fun z hl hu K => ?_)
      subst hl
      subst hu
      rw [r_M_one_e5] at h
      exact s_M_either_0 K (fun  m => r_M_one d 0  m) (fun  m => r_M_one d 1  m) (fun  m => r_M_one d 2  m) (fun  m => r_M_one d 3  m) (fun  m => r_M_one d 4  m) (fun  m => r_M_one d 5  m) (fun  a b c h => ih.1  a b c h) (fun  a b c h => ih.2.1  a b c h) (fun  a b c h => ih.2.2.1  a b c h) (fun  a b c h => ih.2.2.2.1  a b c h) (fun  a b c h => ih.2.2.2.2.1  a b c h) (fun  a b c h => ih.2.2.2.2.2  a b c h)  _ h
noncomputable def f_M_one  (m0 : gk_M) : Option (Int32 × gk_M) := r_M_one 60 0  m0
theorem s_M_one {l : Launch} {u : gk_U} (hD : gk_D tm u)  {m0 mem2 : gk_M} {r : Int32} (h : f_M_one  m0 = some (r, mem2)) : gk_C tm l u me_M_one 63 [.ref 0] m0 (some (.int r)) mem2 := (sr_M_one hD 60).1  _ _ _ h
noncomputable def f_M_product  (m0 : gk_M) : Option (Int32 × gk_M) := r_M_one 60 1  m0
theorem s_M_product {l : Launch} {u : gk_U} (hD : gk_D tm u)  {m0 mem2 : gk_M} {r : Int32} (h : f_M_product  m0 = some (r, mem2)) : gk_C tm l u me_M_product 63 [.ref 0] m0 (some (.int r)) mem2 := (sr_M_one hD 60).2.1  _ _ _ h
noncomputable def f_M_sums  (m0 : gk_M) : Option (Int32 × gk_M) := r_M_one 60 2  m0
theorem s_M_sums {l : Launch} {u : gk_U} (hD : gk_D tm u)  {m0 mem2 : gk_M} {r : Int32} (h : f_M_sums  m0 = some (r, mem2)) : gk_C tm l u me_M_sums 63 [.ref 0] m0 (some (.int r)) mem2 := (sr_M_one hD 60).2.2.1  _ _ _ h
noncomputable def f_M_compared  (m0 : gk_M) : Option (Int32 × gk_M) := r_M_one 60 3  m0
theorem s_M_compared {l : Launch} {u : gk_U} (hD : gk_D tm u)  {m0 mem2 : gk_M} {r : Int32} (h : f_M_compared  m0 = some (r, mem2)) : gk_C tm l u me_M_compared 63 [.ref 0] m0 (some (.int r)) mem2 := (sr_M_one hD 60).2.2.2.1  _ _ _ h
noncomputable def f_M_both  (m0 : gk_M) : Option (Int32 × gk_M) := r_M_one 60 4  m0
theorem s_M_both {l : Launch} {u : gk_U} (hD : gk_D tm u)  {m0 mem2 : gk_M} {r : Int32} (h : f_M_both  m0 = some (r, mem2)) : gk_C tm l u me_M_both 63 [.ref 0] m0 (some (.int r)) mem2 := (sr_M_one hD 60).2.2.2.2.1  _ _ _ h
noncomputable def f_M_either  (m0 : gk_M) : Option (Int32 × gk_M) := r_M_one 60 5  m0
theorem s_M_either {l : Launch} {u : gk_U} (hD : gk_D tm u)  {m0 mem2 : gk_M} {r : Int32} (h : f_M_either  m0 = some (r, mem2)) : gk_C tm l u me_M_either 63 [.ref 0] m0 (some (.int r)) mem2 := (sr_M_one hD 60).2.2.2.2.2  _ _ _ h
theorem d_M_workOut_0 : decode me_M_workOut.2.1 0 = .ok (.aload_n 0, 1) := by decide +kernel
theorem d_M_workOut_1 : decode me_M_workOut.2.1 1 = .ok (.iload_n 1, 1) := by decide +kernel
theorem d_M_workOut_2 : decode me_M_workOut.2.1 2 = .ok (.putfield 166, 3) := by decide +kernel
theorem d_M_workOut_5 : decode me_M_workOut.2.1 5 = .ok (.aload_n 0, 1) := by decide +kernel
theorem d_M_workOut_6 : decode me_M_workOut.2.1 6 = .ok (.iconst 0, 1) := by decide +kernel
theorem d_M_workOut_7 : decode me_M_workOut.2.1 7 = .ok (.putfield 160, 3) := by decide +kernel
theorem d_M_workOut_10 : decode me_M_workOut.2.1 10 = .ok (.aload_n 0, 1) := by decide +kernel
theorem d_M_workOut_11 : decode me_M_workOut.2.1 11 = .ok (.iload_n 2, 1) := by decide +kernel
theorem d_M_workOut_12 : decode me_M_workOut.2.1 12 = .ok (.putfield 163, 3) := by decide +kernel
theorem d_M_workOut_15 : decode me_M_workOut.2.1 15 = .ok (.aload_n 0, 1) := by decide +kernel
theorem d_M_workOut_16 : decode me_M_workOut.2.1 16 = .ok (.iconst (-1), 1) := by decide +kernel
theorem d_M_workOut_17 : decode me_M_workOut.2.1 17 = .ok (.putfield 169, 3) := by decide +kernel
theorem d_M_workOut_20 : decode me_M_workOut.2.1 20 = .ok (.aload_n 0, 1) := by decide +kernel
theorem d_M_workOut_21 : decode me_M_workOut.2.1 21 = .ok (.iconst 0, 1) := by decide +kernel
theorem d_M_workOut_22 : decode me_M_workOut.2.1 22 = .ok (.putfield 194, 3) := by decide +kernel
theorem d_M_workOut_25 : decode me_M_workOut.2.1 25 = .ok (.iconst 0, 1) := by decide +kernel
theorem d_M_workOut_26 : decode me_M_workOut.2.1 26 = .ok (.istore_n 3, 1) := by decide +kernel
theorem d_M_workOut_27 : decode me_M_workOut.2.1 27 = .ok (.iconst 0, 1) := by decide +kernel
theorem d_M_workOut_28 : decode me_M_workOut.2.1 28 = .ok (.istore 4, 2) := by decide +kernel
theorem d_M_workOut_30 : decode me_M_workOut.2.1 30 = .ok (.iconst 1, 1) := by decide +kernel
theorem d_M_workOut_31 : decode me_M_workOut.2.1 31 = .ok (.istore 5, 2) := by decide +kernel
theorem d_M_workOut_33 : decode me_M_workOut.2.1 33 = .ok (.iload 5, 2) := by decide +kernel
theorem d_M_workOut_35 : decode me_M_workOut.2.1 35 = .ok (.ifCond .eq 72, 3) := by decide +kernel
theorem d_M_workOut_38 : decode me_M_workOut.2.1 38 = .ok (.aload_n 0, 1) := by decide +kernel
theorem d_M_workOut_39 : decode me_M_workOut.2.1 39 = .ok (.invokevirtual 200, 3) := by decide +kernel
theorem d_M_workOut_42 : decode me_M_workOut.2.1 42 = .ok (.istore 6, 2) := by decide +kernel
theorem d_M_workOut_44 : decode me_M_workOut.2.1 44 = .ok (.iconst 1, 1) := by decide +kernel
theorem d_M_workOut_45 : decode me_M_workOut.2.1 45 = .ok (.istore 7, 2) := by decide +kernel
theorem d_M_workOut_47 : decode me_M_workOut.2.1 47 = .ok (.aload_n 0, 1) := by decide +kernel
theorem d_M_workOut_48 : decode me_M_workOut.2.1 48 = .ok (.bipush 63, 2) := by decide +kernel
theorem d_M_workOut_50 : decode me_M_workOut.2.1 50 = .ok (.invokevirtual 179, 3) := by decide +kernel
theorem d_M_workOut_53 : decode me_M_workOut.2.1 53 = .ok (.ifCond .eq 21, 3) := by decide +kernel
theorem d_M_workOut_56 : decode me_M_workOut.2.1 56 = .ok (.iload 6, 2) := by decide +kernel
theorem d_M_workOut_58 : decode me_M_workOut.2.1 58 = .ok (.ifCond .eq 7, 3) := by decide +kernel
theorem d_M_workOut_61 : decode me_M_workOut.2.1 61 = .ok (.iconst 1, 1) := by decide +kernel
theorem d_M_workOut_62 : decode me_M_workOut.2.1 62 = .ok (.goto 4, 3) := by decide +kernel
theorem d_M_workOut_65 : decode me_M_workOut.2.1 65 = .ok (.iconst 0, 1) := by decide +kernel
theorem d_M_workOut_66 : decode me_M_workOut.2.1 66 = .ok (.istore 7, 2) := by decide +kernel
theorem d_M_workOut_68 : decode me_M_workOut.2.1 68 = .ok (.aload_n 0, 1) := by decide +kernel
theorem d_M_workOut_69 : decode me_M_workOut.2.1 69 = .ok (.invokevirtual 200, 3) := by decide +kernel
theorem d_M_workOut_72 : decode me_M_workOut.2.1 72 = .ok (.istore 6, 2) := by decide +kernel
theorem d_M_workOut_74 : decode me_M_workOut.2.1 74 = .ok (.aload_n 0, 1) := by decide +kernel
theorem d_M_workOut_75 : decode me_M_workOut.2.1 75 = .ok (.getfield 169, 3) := by decide +kernel
theorem d_M_workOut_78 : decode me_M_workOut.2.1 78 = .ok (.ifCond .ge 18, 3) := by decide +kernel
theorem d_M_workOut_81 : decode me_M_workOut.2.1 81 = .ok (.iload 7, 2) := by decide +kernel
theorem d_M_workOut_83 : decode me_M_workOut.2.1 83 = .ok (.ifCond .eq 13, 3) := by decide +kernel
theorem d_M_workOut_86 : decode me_M_workOut.2.1 86 = .ok (.iload_n 3, 1) := by decide +kernel
theorem d_M_workOut_87 : decode me_M_workOut.2.1 87 = .ok (.ifCond .ne 9, 3) := by decide +kernel
theorem d_M_workOut_90 : decode me_M_workOut.2.1 90 = .ok (.iconst 1, 1) := by decide +kernel
theorem d_M_workOut_91 : decode me_M_workOut.2.1 91 = .ok (.istore_n 3, 1) := by decide +kernel
theorem d_M_workOut_92 : decode me_M_workOut.2.1 92 = .ok (.iload 6, 2) := by decide +kernel
theorem d_M_workOut_94 : decode me_M_workOut.2.1 94 = .ok (.istore 4, 2) := by decide +kernel
theorem d_M_workOut_96 : decode me_M_workOut.2.1 96 = .ok (.aload_n 0, 1) := by decide +kernel
theorem d_M_workOut_97 : decode me_M_workOut.2.1 97 = .ok (.bipush 59, 2) := by decide +kernel
theorem d_M_workOut_99 : decode me_M_workOut.2.1 99 = .ok (.invokevirtual 179, 3) := by decide +kernel
theorem d_M_workOut_102 : decode me_M_workOut.2.1 102 = .ok (.istore 5, 2) := by decide +kernel
theorem d_M_workOut_104 : decode me_M_workOut.2.1 104 = .ok (.goto (-71), 3) := by decide +kernel
theorem d_M_workOut_107 : decode me_M_workOut.2.1 107 = .ok (.aload_n 0, 1) := by decide +kernel
theorem d_M_workOut_108 : decode me_M_workOut.2.1 108 = .ok (.getfield 169, 3) := by decide +kernel
theorem d_M_workOut_111 : decode me_M_workOut.2.1 111 = .ok (.ifCond .ge 19, 3) := by decide +kernel
theorem d_M_workOut_114 : decode me_M_workOut.2.1 114 = .ok (.aload_n 0, 1) := by decide +kernel
theorem d_M_workOut_115 : decode me_M_workOut.2.1 115 = .ok (.getfield 160, 3) := by decide +kernel
theorem d_M_workOut_118 : decode me_M_workOut.2.1 118 = .ok (.aload_n 0, 1) := by decide +kernel
theorem d_M_workOut_119 : decode me_M_workOut.2.1 119 = .ok (.getfield 163, 3) := by decide +kernel
theorem d_M_workOut_122 : decode me_M_workOut.2.1 122 = .ok (.if_icmp .ge 8, 3) := by decide +kernel
theorem d_M_workOut_125 : decode me_M_workOut.2.1 125 = .ok (.aload_n 0, 1) := by decide +kernel
theorem d_M_workOut_126 : decode me_M_workOut.2.1 126 = .ok (.invokevirtual 197, 3) := by decide +kernel
theorem d_M_workOut_129 : decode me_M_workOut.2.1 129 = .ok (.ireturn, 1) := by decide +kernel
theorem d_M_workOut_130 : decode me_M_workOut.2.1 130 = .ok (.iload 4, 2) := by decide +kernel
theorem d_M_workOut_132 : decode me_M_workOut.2.1 132 = .ok (.ireturn, 1) := by decide +kernel
noncomputable def f_M_workOut_96 (k33 : Int32 → Int32 → Int32 → gk_M → Option (Int32 × gk_M)) (a3 : Int32) (a4 : Int32) (m0 : gk_M) : Option (Int32 × gk_M) :=
  gk_bi (f_M_takes 59 m0) fun v2 m1 =>
  k33 a3 a4 v2 m1

theorem s_M_workOut_96 {z : gk_Z} (K : gk_F tm z me_M_workOut 64) {r : Int32} {mem2 : gk_M} {k33 : Int32 → Int32 → Int32 → gk_M → Option (Int32 × gk_M)} (hk33 : ∀ a3 a4 a5 m0, k33 a3 a4 a5 m0 = some (r, mem2) → gk_G tm z me_M_workOut (gk_R tm z (some (.int r)) mem2) m0 [(0, .ref 0), (3, .int a3), (4, .int a4), (5, .int a5)] [] 33) : ∀ a3 a4 m0, f_M_workOut_96 k33 a3 a4 m0 = some (r, mem2) → gk_G tm z me_M_workOut (gk_R tm z (some (.int r)) mem2) m0 [(0, .ref 0), (3, .int a3), (4, .int a4)] [] 96 := by
  intro a3 a4 m0  h
  unfold f_M_workOut_96 at h
  refine gk_aload_n (pc := 96) K d_M_workOut_96 rfl ?_
  refine gk_bipush (pc := 97) K d_M_workOut_97 kb_59 ?_
  obtain ⟨v2, m1, em1, h⟩ := gk_bi_some h
  refine gk_cVi (As := [.int 59]) (pc := 99) K d_M_workOut_99 mv_M_179 mc_M_takes rfl tm_0 cl_ok10.1 (s_M_takes (gk_FD K)  em1) (by decide) rfl (Nat.le_of_ble_eq_true rfl) ?_
  refine gk_istore (lv2 := [(5, .int v2), (0, .ref 0), (3, .int a3), (4, .int a4)]) (pc := 102) K d_M_workOut_102 (by decide) rfl ?_
  refine gk_goto (tgt := 33) (pc := 104) K d_M_workOut_104 (by decide) ?_
  exact gk_sub [1, 2, 3, 0] rfl (hk33 _ _ _ _  h)
noncomputable def f_M_workOut_74 (k33 : Int32 → Int32 → Int32 → gk_M → Option (Int32 × gk_M)) (a3 : Int32) (a4 : Int32) (a6 : Int32) (a7 : Int32) (m0 : gk_M) : Option (Int32 × gk_M) :=
  if 0 ≤ (m0.1 0 22) then
    f_M_workOut_96 k33 a3 a4 m0
  else
    if a7 = 0 then
      f_M_workOut_96 k33 a3 a4 m0
    else
      if ¬ a3 = 0 then
        f_M_workOut_96 k33 a3 a4 m0
      else
        f_M_workOut_96 k33 1 a6 m0

theorem s_M_workOut_74 {z : gk_Z} (K : gk_F tm z me_M_workOut 64) {r : Int32} {mem2 : gk_M} {k33 : Int32 → Int32 → Int32 → gk_M → Option (Int32 × gk_M)} (hk33 : ∀ a3 a4 a5 m0, k33 a3 a4 a5 m0 = some (r, mem2) → gk_G tm z me_M_workOut (gk_R tm z (some (.int r)) mem2) m0 [(0, .ref 0), (3, .int a3), (4, .int a4), (5, .int a5)] [] 33) : ∀ a3 a4 a6 a7 m0, f_M_workOut_74 k33 a3 a4 a6 a7 m0 = some (r, mem2) → gk_G tm z me_M_workOut (gk_R tm z (some (.int r)) mem2) m0 [(0, .ref 0), (3, .int a3), (4, .int a4), (6, .int a6), (7, .int a7)] [] 74 := by
  intro a3 a4 a6 a7 m0  h
  unfold f_M_workOut_74 at h
  refine gk_aload_n (pc := 74) K d_M_workOut_74 rfl ?_
  refine gk_get (pc := 75) K d_M_workOut_75 fl_M_169 tm_0 rfl rfl ?_
  refine gk_if_ge (tgt := 96) (pc := 78) K d_M_workOut_78 (by decide) h (fun h => ?_) (fun h => ?_)
  · exact gk_sub [0, 1, 2] rfl (s_M_workOut_96 K hk33 _ _ _  h)
  · refine gk_iload (pc := 81) K d_M_workOut_81 rfl ?_
    refine gk_if_eq (tgt := 96) (pc := 83) K d_M_workOut_83 (by decide) h (fun h => ?_) (fun h => ?_)
    · exact gk_sub [0, 1, 2] rfl (s_M_workOut_96 K hk33 _ _ _  h)
    · refine gk_iload_n (pc := 86) K d_M_workOut_86 rfl ?_
      refine gk_if_ne (tgt := 96) (pc := 87) K d_M_workOut_87 (by decide) h (fun h => ?_) (fun h => ?_)
      · exact gk_sub [0, 1, 2] rfl (s_M_workOut_96 K hk33 _ _ _  h)
      · refine gk_iconst (pc := 90) K d_M_workOut_90 kc_1 ?_
        refine gk_istore_n (lv2 := [(3, .int 1), (0, .ref 0), (4, .int a4), (6, .int a6), (7, .int a7)]) (pc := 91) K d_M_workOut_91 (by decide) rfl ?_
        refine gk_iload (pc := 92) K d_M_workOut_92 rfl ?_
        refine gk_istore (lv2 := [(4, .int a6), (3, .int 1), (0, .ref 0), (6, .int a6), (7, .int a7)]) (pc := 94) K d_M_workOut_94 (by decide) rfl ?_
        exact gk_sub [2, 1, 0] rfl (s_M_workOut_96 K hk33 _ _ _  h)
noncomputable def f_M_workOut_66 (k33 : Int32 → Int32 → Int32 → gk_M → Option (Int32 × gk_M)) (a3 : Int32) (a4 : Int32) (s0 : Int32) (m0 : gk_M) : Option (Int32 × gk_M) :=
  gk_bi (f_M_either  m0) fun v2 m1 =>
  f_M_workOut_74 k33 a3 a4 v2 s0 m1

theorem s_M_workOut_66 {z : gk_Z} (K : gk_F tm z me_M_workOut 64) {r : Int32} {mem2 : gk_M} {k33 : Int32 → Int32 → Int32 → gk_M → Option (Int32 × gk_M)} (hk33 : ∀ a3 a4 a5 m0, k33 a3 a4 a5 m0 = some (r, mem2) → gk_G tm z me_M_workOut (gk_R tm z (some (.int r)) mem2) m0 [(0, .ref 0), (3, .int a3), (4, .int a4), (5, .int a5)] [] 33) : ∀ a3 a4 s0 m0, f_M_workOut_66 k33 a3 a4 s0 m0 = some (r, mem2) → gk_G tm z me_M_workOut (gk_R tm z (some (.int r)) mem2) m0 [(0, .ref 0), (3, .int a3), (4, .int a4)] [.int s0] 66 := by
  intro a3 a4 s0 m0  h
  unfold f_M_workOut_66 at h
  refine gk_istore (lv2 := [(7, .int s0), (0, .ref 0), (3, .int a3), (4, .int a4)]) (pc := 66) K d_M_workOut_66 (by decide) rfl ?_
  refine gk_aload_n (pc := 68) K d_M_workOut_68 rfl ?_
  obtain ⟨v2, m1, em1, h⟩ := gk_bi_some h
  refine gk_cVi (As := []) (pc := 69) K d_M_workOut_69 mv_M_200 mc_M_either rfl tm_0 cl_ok10.1 (s_M_either (gk_FD K)  em1) (by decide) rfl (Nat.le_of_ble_eq_true rfl) ?_
  refine gk_istore (lv2 := [(6, .int v2), (7, .int s0), (0, .ref 0), (3, .int a3), (4, .int a4)]) (pc := 72) K d_M_workOut_72 (by decide) rfl ?_
  exact gk_sub [2, 3, 4, 0, 1] rfl (s_M_workOut_74 K hk33 _ _ _ _ _  h)
noncomputable def f_M_workOut_33  : Nat → Int32 → Int32 → Int32 → gk_M → Option (Int32 × gk_M)
  | 0, _, _, _, _ => none
  | n + 1, a3, a4, a5, m0 =>
    if a5 = 0 then
      if 0 ≤ (m0.1 0 22) then
        some (a4, m0)
      else
        if (m0.1 0 21) ≤ (m0.1 0 20) then
          some (a4, m0)
        else
          gk_bi (f_M_wrong  m0) fun v2 m1 =>
          some (v2, m1)
    else
      gk_bi (f_M_either  m0) fun v4 m3 =>
      gk_bi (f_M_takes 63 m3) fun v6 m5 =>
      if v6 = 0 then
        f_M_workOut_74 (f_M_workOut_33 n) a3 a4 v4 1 m5
      else
        if v4 = 0 then
          f_M_workOut_66 (f_M_workOut_33 n) a3 a4 0 m5
        else
          f_M_workOut_66 (f_M_workOut_33 n) a3 a4 1 m5

theorem s_M_workOut_33 {z : gk_Z} (K : gk_F tm z me_M_workOut 64) {r : Int32} {mem2 : gk_M} : ∀ n a3 a4 a5 m0, f_M_workOut_33 n a3 a4 a5 m0 = some (r, mem2) → gk_G tm z me_M_workOut (gk_R tm z (some (.int r)) mem2) m0 [(0, .ref 0), (3, .int a3), (4, .int a4), (5, .int a5)] [] 33 := by
  intro n
  induction n with
  | zero => intro a3 a4 a5 m0  h; exact nomatch (show (none : Option _) = some _ from h)
  | succ n ih =>
    intro a3 a4 a5 m0  h
    unfold f_M_workOut_33 at h
    refine gk_iload (pc := 33) K d_M_workOut_33 rfl ?_
    refine gk_if_eq (tgt := 107) (pc := 35) K d_M_workOut_35 (by decide) h (fun h => ?_) (fun h => ?_)
    · refine gk_aload_n (pc := 107) K d_M_workOut_107 rfl ?_
      refine gk_get (pc := 108) K d_M_workOut_108 fl_M_169 tm_0 rfl rfl ?_
      refine gk_if_ge (tgt := 130) (pc := 111) K d_M_workOut_111 (by decide) h (fun h => ?_) (fun h => ?_)
      · refine gk_iload (pc := 130) K d_M_workOut_130 rfl ?_
        exact gk_iret (pc := 132) K d_M_workOut_132 rfl h
      · refine gk_aload_n (pc := 114) K d_M_workOut_114 rfl ?_
        refine gk_get (pc := 115) K d_M_workOut_115 fl_M_160 tm_0 rfl rfl ?_
        refine gk_aload_n (pc := 118) K d_M_workOut_118 rfl ?_
        refine gk_get (pc := 119) K d_M_workOut_119 fl_M_163 tm_0 rfl rfl ?_
        refine gk_ic_ge (tgt := 130) (pc := 122) K d_M_workOut_122 (by decide) h (fun h => ?_) (fun h => ?_)
        · refine gk_iload (pc := 130) K d_M_workOut_130 rfl ?_
          exact gk_iret (pc := 132) K d_M_workOut_132 rfl h
        · refine gk_aload_n (pc := 125) K d_M_workOut_125 rfl ?_
          obtain ⟨v2, m1, em1, h⟩ := gk_bi_some h
          refine gk_cVi (As := []) (pc := 126) K d_M_workOut_126 mv_M_197 mc_M_wrong rfl tm_0 cl_ok10.1 (s_M_wrong (gk_FD K)  em1) (by decide) rfl (Nat.le_of_ble_eq_true rfl) ?_
          exact gk_iret (pc := 129) K d_M_workOut_129 rfl h
    · refine gk_aload_n (pc := 38) K d_M_workOut_38 rfl ?_
      obtain ⟨v4, m3, em3, h⟩ := gk_bi_some h
      refine gk_cVi (As := []) (pc := 39) K d_M_workOut_39 mv_M_200 mc_M_either rfl tm_0 cl_ok10.1 (s_M_either (gk_FD K)  em3) (by decide) rfl (Nat.le_of_ble_eq_true rfl) ?_
      refine gk_istore (lv2 := [(6, .int v4), (0, .ref 0), (3, .int a3), (4, .int a4), (5, .int a5)]) (pc := 42) K d_M_workOut_42 (by decide) rfl ?_
      refine gk_iconst (pc := 44) K d_M_workOut_44 kc_1 ?_
      refine gk_istore (lv2 := [(7, .int 1), (6, .int v4), (0, .ref 0), (3, .int a3), (4, .int a4), (5, .int a5)]) (pc := 45) K d_M_workOut_45 (by decide) rfl ?_
      refine gk_aload_n (pc := 47) K d_M_workOut_47 rfl ?_
      refine gk_bipush (pc := 48) K d_M_workOut_48 kb_63 ?_
      obtain ⟨v6, m5, em5, h⟩ := gk_bi_some h
      refine gk_cVi (As := [.int 63]) (pc := 50) K d_M_workOut_50 mv_M_179 mc_M_takes rfl tm_0 cl_ok10.1 (s_M_takes (gk_FD K)  em5) (by decide) rfl (Nat.le_of_ble_eq_true rfl) ?_
      refine gk_if_eq (tgt := 74) (pc := 53) K d_M_workOut_53 (by decide) h (fun h => ?_) (fun h => ?_)
      · exact gk_sub [2, 3, 4, 1, 0] rfl (s_M_workOut_74 K (fun x0 x1 x2 m  h => ih x0 x1 x2 m  h) _ _ _ _ _  h)
      · refine gk_iload (pc := 56) K d_M_workOut_56 rfl ?_
        refine gk_if_eq (tgt := 65) (pc := 58) K d_M_workOut_58 (by decide) h (fun h => ?_) (fun h => ?_)
        · refine gk_iconst (pc := 65) K d_M_workOut_65 kc_0 ?_
          exact gk_sub [2, 3, 4] rfl (s_M_workOut_66 K (fun x0 x1 x2 m  h => ih x0 x1 x2 m  h) _ _ _ _  h)
        · refine gk_iconst (pc := 61) K d_M_workOut_61 kc_1 ?_
          refine gk_goto (tgt := 66) (pc := 62) K d_M_workOut_62 (by decide) ?_
          exact gk_sub [2, 3, 4] rfl (s_M_workOut_66 K (fun x0 x1 x2 m  h => ih x0 x1 x2 m  h) _ _ _ _  h)
noncomputable def f_M_workOut  (a1 : Int32) (a2 : Int32) (m0 : gk_M) : Option (Int32 × gk_M) :=
  gk_let (gk_mi m0 0 19 a1) fun m1 =>
  gk_let (gk_mi m1 0 20 0) fun m2 =>
  gk_let (gk_mi m2 0 21 a2) fun m3 =>
  gk_let (gk_mi m3 0 22 (-1)) fun m4 =>
  gk_let (gk_mi m4 0 23 0) fun m5 =>
  f_M_workOut_33 gk_fv 0 0 1 m5

theorem s_M_workOut_0 {z : gk_Z} (K : gk_F tm z me_M_workOut 64) {r : Int32} {mem2 : gk_M} : ∀ a1 a2 m0, f_M_workOut a1 a2 m0 = some (r, mem2) → gk_G tm z me_M_workOut (gk_R tm z (some (.int r)) mem2) m0 [(0, .ref 0), (1, .int a1), (2, .int a2)] [] 0 := by
  intro a1 a2 m0  h
  unfold f_M_workOut at h
  refine gk_aload_n (pc := 0) K d_M_workOut_0 rfl ?_
  refine gk_iload_n (pc := 1) K d_M_workOut_1 rfl ?_
  refine gk_puti (pc := 2) K d_M_workOut_2 fp_M_166 tm_0 rfl h (fun m1 h => ?_)
  refine gk_aload_n (pc := 5) K d_M_workOut_5 rfl ?_
  refine gk_iconst (pc := 6) K d_M_workOut_6 kc_0 ?_
  refine gk_puti (pc := 7) K d_M_workOut_7 fp_M_160 tm_0 rfl h (fun m2 h => ?_)
  refine gk_aload_n (pc := 10) K d_M_workOut_10 rfl ?_
  refine gk_iload_n (pc := 11) K d_M_workOut_11 rfl ?_
  refine gk_puti (pc := 12) K d_M_workOut_12 fp_M_163 tm_0 rfl h (fun m3 h => ?_)
  refine gk_aload_n (pc := 15) K d_M_workOut_15 rfl ?_
  refine gk_iconst (pc := 16) K d_M_workOut_16 kc_m1 ?_
  refine gk_puti (pc := 17) K d_M_workOut_17 fp_M_169 tm_0 rfl h (fun m4 h => ?_)
  refine gk_aload_n (pc := 20) K d_M_workOut_20 rfl ?_
  refine gk_iconst (pc := 21) K d_M_workOut_21 kc_0 ?_
  refine gk_puti (pc := 22) K d_M_workOut_22 fp_M_194 tm_0 rfl h (fun m5 h => ?_)
  refine gk_iconst (pc := 25) K d_M_workOut_25 kc_0 ?_
  refine gk_istore_n (lv2 := [(3, .int 0), (0, .ref 0), (1, .int a1), (2, .int a2)]) (pc := 26) K d_M_workOut_26 (by decide) rfl ?_
  refine gk_iconst (pc := 27) K d_M_workOut_27 kc_0 ?_
  refine gk_istore (lv2 := [(4, .int 0), (3, .int 0), (0, .ref 0), (1, .int a1), (2, .int a2)]) (pc := 28) K d_M_workOut_28 (by decide) rfl ?_
  refine gk_iconst (pc := 30) K d_M_workOut_30 kc_1 ?_
  refine gk_istore (lv2 := [(5, .int 1), (4, .int 0), (3, .int 0), (0, .ref 0), (1, .int a1), (2, .int a2)]) (pc := 31) K d_M_workOut_31 (by decide) rfl ?_
  exact gk_sub [3, 2, 1, 0] rfl (s_M_workOut_33 K _ _ _ _ _  h)
theorem s_M_workOut {l : Launch} {u : gk_U} (hD : gk_D tm u) {a1 : Int32} {a2 : Int32} {m0 mem2 : gk_M} {r : Int32} (h : f_M_workOut a1 a2 m0 = some (r, mem2)) : gk_C tm l u me_M_workOut 64 [.ref 0, .int a1, .int a2] m0 (some (.int r)) mem2 :=
  gk_enter hD mc_M_workOut (Nat.le_of_ble_eq_true rfl) rfl (fun z _ _ K => s_M_workOut_0 K _ _ _  h)
theorem d_M_law_0 : decode me_M_law.2.1 0 = .ok (.aload_n 0, 1) := by decide +kernel
theorem d_M_law_1 : decode me_M_law.2.1 1 = .ok (.iconst (-1), 1) := by decide +kernel
theorem d_M_law_2 : decode me_M_law.2.1 2 = .ok (.aload_n 0, 1) := by decide +kernel
theorem d_M_law_3 : decode me_M_law.2.1 3 = .ok (.getfield 157, 3) := by decide +kernel
theorem d_M_law_6 : decode me_M_law.2.1 6 = .ok (.invokevirtual 207, 3) := by decide +kernel
theorem d_M_law_9 : decode me_M_law.2.1 9 = .ok (.istore_n 1, 1) := by decide +kernel
theorem d_M_law_10 : decode me_M_law.2.1 10 = .ok (.aload_n 0, 1) := by decide +kernel
theorem d_M_law_11 : decode me_M_law.2.1 11 = .ok (.getfield 157, 3) := by decide +kernel
theorem d_M_law_14 : decode me_M_law.2.1 14 = .ok (.istore_n 2, 1) := by decide +kernel
theorem d_M_law_15 : decode me_M_law.2.1 15 = .ok (.aload_n 0, 1) := by decide +kernel
theorem d_M_law_16 : decode me_M_law.2.1 16 = .ok (.iconst 0, 1) := by decide +kernel
theorem d_M_law_17 : decode me_M_law.2.1 17 = .ok (.putfield 157, 3) := by decide +kernel
theorem d_M_law_20 : decode me_M_law.2.1 20 = .ok (.aload_n 0, 1) := by decide +kernel
theorem d_M_law_21 : decode me_M_law.2.1 21 = .ok (.getfield 169, 3) := by decide +kernel
theorem d_M_law_24 : decode me_M_law.2.1 24 = .ok (.ifCond .lt 11, 3) := by decide +kernel
theorem d_M_law_27 : decode me_M_law.2.1 27 = .ok (.bipush (-100), 2) := by decide +kernel
theorem d_M_law_29 : decode me_M_law.2.1 29 = .ok (.aload_n 0, 1) := by decide +kernel
theorem d_M_law_30 : decode me_M_law.2.1 30 = .ok (.getfield 169, 3) := by decide +kernel
theorem d_M_law_33 : decode me_M_law.2.1 33 = .ok (.isub, 1) := by decide +kernel
theorem d_M_law_34 : decode me_M_law.2.1 34 = .ok (.ireturn, 1) := by decide +kernel
theorem d_M_law_35 : decode me_M_law.2.1 35 = .ok (.iconst 0, 1) := by decide +kernel
theorem d_M_law_36 : decode me_M_law.2.1 36 = .ok (.istore_n 3, 1) := by decide +kernel
theorem d_M_law_37 : decode me_M_law.2.1 37 = .ok (.iload_n 3, 1) := by decide +kernel
theorem d_M_law_38 : decode me_M_law.2.1 38 = .ok (.iload_n 2, 1) := by decide +kernel
theorem d_M_law_39 : decode me_M_law.2.1 39 = .ok (.if_icmp .ge 21, 3) := by decide +kernel
theorem d_M_law_42 : decode me_M_law.2.1 42 = .ok (.aload_n 0, 1) := by decide +kernel
theorem d_M_law_43 : decode me_M_law.2.1 43 = .ok (.getfield 43, 3) := by decide +kernel
theorem d_M_law_46 : decode me_M_law.2.1 46 = .ok (.iload_n 3, 1) := by decide +kernel
theorem d_M_law_47 : decode me_M_law.2.1 47 = .ok (.aload_n 0, 1) := by decide +kernel
theorem d_M_law_48 : decode me_M_law.2.1 48 = .ok (.getfield 40, 3) := by decide +kernel
theorem d_M_law_51 : decode me_M_law.2.1 51 = .ok (.iload_n 3, 1) := by decide +kernel
theorem d_M_law_52 : decode me_M_law.2.1 52 = .ok (.iaload, 1) := by decide +kernel
theorem d_M_law_53 : decode me_M_law.2.1 53 = .ok (.iastore, 1) := by decide +kernel
theorem d_M_law_54 : decode me_M_law.2.1 54 = .ok (.iinc 3 1, 3) := by decide +kernel
theorem d_M_law_57 : decode me_M_law.2.1 57 = .ok (.goto (-20), 3) := by decide +kernel
theorem d_M_law_60 : decode me_M_law.2.1 60 = .ok (.aload_n 0, 1) := by decide +kernel
theorem d_M_law_61 : decode me_M_law.2.1 61 = .ok (.iload_n 2, 1) := by decide +kernel
theorem d_M_law_62 : decode me_M_law.2.1 62 = .ok (.putfield 90, 3) := by decide +kernel
theorem d_M_law_65 : decode me_M_law.2.1 65 = .ok (.iconst 1, 1) := by decide +kernel
theorem d_M_law_66 : decode me_M_law.2.1 66 = .ok (.ireturn, 1) := by decide +kernel
noncomputable def f_M_law_37  : Nat → Int32 → Int32 → gk_M → Option (Int32 × gk_M)
  | 0, _, _, _ => none
  | n + 1, a2, a3, m0 =>
    if a2 ≤ a3 then
      gk_let (gk_mi m0 0 18 a2) fun m1 =>
      some (1, m1)
    else
      gk_ai m0 11 120 a3 fun v2 =>
      gk_si m0 12 120 a3 v2 fun m3 =>
      f_M_law_37 n a2 (a3 + 1) m3

theorem s_M_law_37 {z : gk_Z} (K : gk_F tm z me_M_law 65) {r : Int32} {mem2 : gk_M} : ∀ n a2 a3 m0, f_M_law_37 n a2 a3 m0 = some (r, mem2) → gk_G tm z me_M_law (gk_R tm z (some (.int r)) mem2) m0 [(0, .ref 0), (2, .int a2), (3, .int a3)] [] 37 := by
  intro n
  induction n with
  | zero => intro a2 a3 m0  h; exact nomatch (show (none : Option _) = some _ from h)
  | succ n ih =>
    intro a2 a3 m0  h
    unfold f_M_law_37 at h
    refine gk_iload_n (pc := 37) K d_M_law_37 rfl ?_
    refine gk_iload_n (pc := 38) K d_M_law_38 rfl ?_
    refine gk_ic_ge (tgt := 60) (pc := 39) K d_M_law_39 (by decide) h (fun h => ?_) (fun h => ?_)
    · refine gk_aload_n (pc := 60) K d_M_law_60 rfl ?_
      refine gk_iload_n (pc := 61) K d_M_law_61 rfl ?_
      refine gk_puti (pc := 62) K d_M_law_62 fp_M_90 tm_0 rfl h (fun m1 h => ?_)
      refine gk_iconst (pc := 65) K d_M_law_65 kc_1 ?_
      exact gk_iret (pc := 66) K d_M_law_66 rfl h
    · refine gk_aload_n (pc := 42) K d_M_law_42 rfl ?_
      refine gk_get (pc := 43) K d_M_law_43 fl_M_43 tm_0 rfl rfl ?_
      refine gk_iload_n (pc := 46) K d_M_law_46 rfl ?_
      refine gk_aload_n (pc := 47) K d_M_law_47 rfl ?_
      refine gk_get (pc := 48) K d_M_law_48 fl_M_40 tm_0 rfl rfl ?_
      refine gk_iload_n (pc := 51) K d_M_law_51 rfl ?_
      refine gk_iald (pc := 52) K d_M_law_52 tm_11 h (fun v2 h => ?_)
      refine gk_iast (pc := 53) K d_M_law_53 tm_12 h (fun m3 h => ?_)
      refine gk_iinc2 (lv2 := [(3, .int (a3 + 1)), (0, .ref 0), (2, .int a2)]) (pc := 54) K d_M_law_54 rfl kc_1 (by decide) rfl ?_
      refine gk_goto (tgt := 37) (pc := 57) K d_M_law_57 (by decide) ?_
      exact gk_sub [1, 2, 0] rfl (ih _ _ _  h)
noncomputable def f_M_law   (m0 : gk_M) : Option (Int32 × gk_M) :=
  gk_bi (f_M_workOut (-1) (m0.1 0 16) m0) fun v2 m1 =>
  gk_let (m1.1 0 16) fun v3 =>
  gk_let (gk_mi m1 0 16 0) fun m4 =>
  if (m4.1 0 22) < 0 then
    f_M_law_37 gk_fv v3 0 m4
  else
    some (((-100) - (m4.1 0 22)), m4)

theorem s_M_law_0 {z : gk_Z} (K : gk_F tm z me_M_law 65) {r : Int32} {mem2 : gk_M} : ∀  m0, f_M_law  m0 = some (r, mem2) → gk_G tm z me_M_law (gk_R tm z (some (.int r)) mem2) m0 [(0, .ref 0)] [] 0 := by
  intro  m0  h
  unfold f_M_law at h
  refine gk_aload_n (pc := 0) K d_M_law_0 rfl ?_
  refine gk_iconst (pc := 1) K d_M_law_1 kc_m1 ?_
  refine gk_aload_n (pc := 2) K d_M_law_2 rfl ?_
  refine gk_get (pc := 3) K d_M_law_3 fl_M_157 tm_0 rfl rfl ?_
  obtain ⟨v2, m1, em1, h⟩ := gk_bi_some h
  refine gk_cVi (As := [.int (-1), .int (m0.1 0 16)]) (pc := 6) K d_M_law_6 mv_M_207 mc_M_workOut rfl tm_0 cl_ok10.1 (s_M_workOut (gk_FD K)  em1) (by decide) rfl (Nat.le_of_ble_eq_true rfl) ?_
  refine gk_istore_n (lv2 := [(1, .int v2), (0, .ref 0)]) (pc := 9) K d_M_law_9 (by decide) rfl ?_
  refine gk_aload_n (pc := 10) K d_M_law_10 rfl ?_
  refine gk_get (pc := 11) K d_M_law_11 fl_M_157 tm_0 rfl rfl ?_
  refine gk_topi h (fun v3 h => ?_)
  refine gk_istore_n (lv2 := [(2, .int v3), (1, .int v2), (0, .ref 0)]) (pc := 14) K d_M_law_14 (by decide) rfl ?_
  refine gk_aload_n (pc := 15) K d_M_law_15 rfl ?_
  refine gk_iconst (pc := 16) K d_M_law_16 kc_0 ?_
  refine gk_puti (pc := 17) K d_M_law_17 fp_M_157 tm_0 rfl h (fun m4 h => ?_)
  refine gk_aload_n (pc := 20) K d_M_law_20 rfl ?_
  refine gk_get (pc := 21) K d_M_law_21 fl_M_169 tm_0 rfl rfl ?_
  refine gk_if_lt (tgt := 35) (pc := 24) K d_M_law_24 (by decide) h (fun h => ?_) (fun h => ?_)
  · refine gk_iconst (pc := 35) K d_M_law_35 kc_0 ?_
    refine gk_istore_n (lv2 := [(3, .int 0), (2, .int v3), (1, .int v2), (0, .ref 0)]) (pc := 36) K d_M_law_36 (by decide) rfl ?_
    exact gk_sub [3, 1, 0] rfl (s_M_law_37 K _ _ _ _  h)
  · refine gk_bipush (pc := 27) K d_M_law_27 kb_m100 ?_
    refine gk_aload_n (pc := 29) K d_M_law_29 rfl ?_
    refine gk_get (pc := 30) K d_M_law_30 fl_M_169 tm_0 rfl rfl ?_
    refine gk_isub (pc := 33) K d_M_law_33 ?_
    exact gk_iret (pc := 34) K d_M_law_34 rfl h
theorem s_M_law {l : Launch} {u : gk_U} (hD : gk_D tm u) {m0 mem2 : gk_M} {r : Int32} (h : f_M_law  m0 = some (r, mem2)) : gk_C tm l u me_M_law 65 [.ref 0] m0 (some (.int r)) mem2 :=
  gk_enter hD mc_M_law (Nat.le_of_ble_eq_true rfl) rfl (fun z _ _ K => s_M_law_0 K  _  h)
theorem d_M_areTwo_0 : decode me_M_areTwo.2.1 0 = .ok (.iload_n 1, 1) := by decide +kernel
theorem d_M_areTwo_1 : decode me_M_areTwo.2.1 1 = .ok (.ifCond .lt 40, 3) := by decide +kernel
theorem d_M_areTwo_4 : decode me_M_areTwo.2.1 4 = .ok (.aload_n 0, 1) := by decide +kernel
theorem d_M_areTwo_5 : decode me_M_areTwo.2.1 5 = .ok (.iload_n 1, 1) := by decide +kernel
theorem d_M_areTwo_6 : decode me_M_areTwo.2.1 6 = .ok (.bipush 10, 2) := by decide +kernel
theorem d_M_areTwo_8 : decode me_M_areTwo.2.1 8 = .ok (.idiv, 1) := by decide +kernel
theorem d_M_areTwo_9 : decode me_M_areTwo.2.1 9 = .ok (.invokevirtual 142, 3) := by decide +kernel
theorem d_M_areTwo_12 : decode me_M_areTwo.2.1 12 = .ok (.ifCond .eq 29, 3) := by decide +kernel
theorem d_M_areTwo_15 : decode me_M_areTwo.2.1 15 = .ok (.aload_n 0, 1) := by decide +kernel
theorem d_M_areTwo_16 : decode me_M_areTwo.2.1 16 = .ok (.iload_n 1, 1) := by decide +kernel
theorem d_M_areTwo_17 : decode me_M_areTwo.2.1 17 = .ok (.bipush 10, 2) := by decide +kernel
theorem d_M_areTwo_19 : decode me_M_areTwo.2.1 19 = .ok (.irem, 1) := by decide +kernel
theorem d_M_areTwo_20 : decode me_M_areTwo.2.1 20 = .ok (.invokevirtual 142, 3) := by decide +kernel
theorem d_M_areTwo_23 : decode me_M_areTwo.2.1 23 = .ok (.ifCond .eq 18, 3) := by decide +kernel
theorem d_M_areTwo_26 : decode me_M_areTwo.2.1 26 = .ok (.iload_n 1, 1) := by decide +kernel
theorem d_M_areTwo_27 : decode me_M_areTwo.2.1 27 = .ok (.bipush 10, 2) := by decide +kernel
theorem d_M_areTwo_29 : decode me_M_areTwo.2.1 29 = .ok (.idiv, 1) := by decide +kernel
theorem d_M_areTwo_30 : decode me_M_areTwo.2.1 30 = .ok (.iload_n 1, 1) := by decide +kernel
theorem d_M_areTwo_31 : decode me_M_areTwo.2.1 31 = .ok (.bipush 10, 2) := by decide +kernel
theorem d_M_areTwo_33 : decode me_M_areTwo.2.1 33 = .ok (.irem, 1) := by decide +kernel
theorem d_M_areTwo_34 : decode me_M_areTwo.2.1 34 = .ok (.if_icmp .eq 7, 3) := by decide +kernel
theorem d_M_areTwo_37 : decode me_M_areTwo.2.1 37 = .ok (.iconst 1, 1) := by decide +kernel
theorem d_M_areTwo_38 : decode me_M_areTwo.2.1 38 = .ok (.goto 4, 3) := by decide +kernel
theorem d_M_areTwo_41 : decode me_M_areTwo.2.1 41 = .ok (.iconst 0, 1) := by decide +kernel
theorem d_M_areTwo_42 : decode me_M_areTwo.2.1 42 = .ok (.ireturn, 1) := by decide +kernel
noncomputable def f_M_areTwo  (a1 : Int32) (m0 : gk_M) : Option (Int32 × gk_M) :=
  if a1 < 0 then
    some (0, m0)
  else
    gk_bi (f_M_isTower (a1 / 10) m0) fun v2 m1 =>
    if v2 = 0 then
      some (0, m1)
    else
      gk_bi (f_M_isTower (gk_rem a1 10) m1) fun v4 m3 =>
      if v4 = 0 then
        some (0, m3)
      else
        if (a1 / 10) = (gk_rem a1 10) then
          some (0, m3)
        else
          some (1, m3)

theorem s_M_areTwo_0 {z : gk_Z} (K : gk_F tm z me_M_areTwo 3) {r : Int32} {mem2 : gk_M} : ∀ a1 m0, f_M_areTwo a1 m0 = some (r, mem2) → gk_G tm z me_M_areTwo (gk_R tm z (some (.int r)) mem2) m0 [(0, .ref 0), (1, .int a1)] [] 0 := by
  intro a1 m0  h
  unfold f_M_areTwo at h
  refine gk_iload_n (pc := 0) K d_M_areTwo_0 rfl ?_
  refine gk_if_lt (tgt := 41) (pc := 1) K d_M_areTwo_1 (by decide) h (fun h => ?_) (fun h => ?_)
  · refine gk_iconst (pc := 41) K d_M_areTwo_41 kc_0 ?_
    exact gk_zretc (pc := 42) K d_M_areTwo_42 rfl (Or.inl rfl) h
  · refine gk_aload_n (pc := 4) K d_M_areTwo_4 rfl ?_
    refine gk_iload_n (pc := 5) K d_M_areTwo_5 rfl ?_
    refine gk_bipush (pc := 6) K d_M_areTwo_6 kb_10 ?_
    refine gk_idivc2 (pc := 8) K d_M_areTwo_8 (by decide) ?_
    obtain ⟨v2, m1, em1, h⟩ := gk_bi_some h
    refine gk_cVi (As := [.int (a1 / 10)]) (pc := 9) K d_M_areTwo_9 mv_M_142 mc_M_isTower rfl tm_0 cl_ok10.1 (s_M_isTower (gk_FD K)  em1) (by decide) rfl (Nat.le_of_ble_eq_true rfl) ?_
    refine gk_if_eq (tgt := 41) (pc := 12) K d_M_areTwo_12 (by decide) h (fun h => ?_) (fun h => ?_)
    · refine gk_iconst (pc := 41) K d_M_areTwo_41 kc_0 ?_
      exact gk_zretc (pc := 42) K d_M_areTwo_42 rfl (Or.inl rfl) h
    · refine gk_aload_n (pc := 15) K d_M_areTwo_15 rfl ?_
      refine gk_iload_n (pc := 16) K d_M_areTwo_16 rfl ?_
      refine gk_bipush (pc := 17) K d_M_areTwo_17 kb_10 ?_
      refine gk_iremc2 (pc := 19) K d_M_areTwo_19 (by decide) ?_
      obtain ⟨v4, m3, em3, h⟩ := gk_bi_some h
      refine gk_cVi (As := [.int (gk_rem a1 10)]) (pc := 20) K d_M_areTwo_20 mv_M_142 mc_M_isTower rfl tm_0 cl_ok10.1 (s_M_isTower (gk_FD K)  em3) (by decide) rfl (Nat.le_of_ble_eq_true rfl) ?_
      refine gk_if_eq (tgt := 41) (pc := 23) K d_M_areTwo_23 (by decide) h (fun h => ?_) (fun h => ?_)
      · refine gk_iconst (pc := 41) K d_M_areTwo_41 kc_0 ?_
        exact gk_zretc (pc := 42) K d_M_areTwo_42 rfl (Or.inl rfl) h
      · refine gk_iload_n (pc := 26) K d_M_areTwo_26 rfl ?_
        refine gk_bipush (pc := 27) K d_M_areTwo_27 kb_10 ?_
        refine gk_idivc2 (pc := 29) K d_M_areTwo_29 (by decide) ?_
        refine gk_iload_n (pc := 30) K d_M_areTwo_30 rfl ?_
        refine gk_bipush (pc := 31) K d_M_areTwo_31 kb_10 ?_
        refine gk_iremc2 (pc := 33) K d_M_areTwo_33 (by decide) ?_
        refine gk_ic_eq (tgt := 41) (pc := 34) K d_M_areTwo_34 (by decide) h (fun h => ?_) (fun h => ?_)
        · refine gk_iconst (pc := 41) K d_M_areTwo_41 kc_0 ?_
          exact gk_zretc (pc := 42) K d_M_areTwo_42 rfl (Or.inl rfl) h
        · refine gk_iconst (pc := 37) K d_M_areTwo_37 kc_1 ?_
          refine gk_goto (tgt := 42) (pc := 38) K d_M_areTwo_38 (by decide) ?_
          exact gk_zretc (pc := 42) K d_M_areTwo_42 rfl (Or.inr rfl) h
theorem s_M_areTwo {l : Launch} {u : gk_U} (hD : gk_D tm u) {a1 : Int32} {m0 mem2 : gk_M} {r : Int32} (h : f_M_areTwo a1 m0 = some (r, mem2)) : gk_C tm l u me_M_areTwo 3 [.ref 0, .int a1] m0 (some (.int r)) mem2 :=
  gk_enter hD mc_M_areTwo (Nat.le_of_ble_eq_true rfl) rfl (fun z _ _ K => s_M_areTwo_0 K _ _  h)
theorem d_M_isBehind_0 : decode me_M_isBehind.2.1 0 = .ok (.aload_n 0, 1) := by decide +kernel
theorem d_M_isBehind_1 : decode me_M_isBehind.2.1 1 = .ok (.getfield 22, 3) := by decide +kernel
theorem d_M_isBehind_4 : decode me_M_isBehind.2.1 4 = .ok (.iload 7, 2) := by decide +kernel
theorem d_M_isBehind_6 : decode me_M_isBehind.2.1 6 = .ok (.iaload, 1) := by decide +kernel
theorem d_M_isBehind_7 : decode me_M_isBehind.2.1 7 = .ok (.bipush 30, 2) := by decide +kernel
theorem d_M_isBehind_9 : decode me_M_isBehind.2.1 9 = .ok (.irem, 1) := by decide +kernel
theorem d_M_isBehind_10 : decode me_M_isBehind.2.1 10 = .ok (.i2l, 1) := by decide +kernel
theorem d_M_isBehind_11 : decode me_M_isBehind.2.1 11 = .ok (.lload 5, 2) := by decide +kernel
theorem d_M_isBehind_13 : decode me_M_isBehind.2.1 13 = .ok (.lmul, 1) := by decide +kernel
theorem d_M_isBehind_14 : decode me_M_isBehind.2.1 14 = .ok (.lload_n 1, 1) := by decide +kernel
theorem d_M_isBehind_15 : decode me_M_isBehind.2.1 15 = .ok (.lsub, 1) := by decide +kernel
theorem d_M_isBehind_16 : decode me_M_isBehind.2.1 16 = .ok (.lstore 9, 2) := by decide +kernel
theorem d_M_isBehind_18 : decode me_M_isBehind.2.1 18 = .ok (.aload_n 0, 1) := by decide +kernel
theorem d_M_isBehind_19 : decode me_M_isBehind.2.1 19 = .ok (.getfield 22, 3) := by decide +kernel
theorem d_M_isBehind_22 : decode me_M_isBehind.2.1 22 = .ok (.iload 7, 2) := by decide +kernel
theorem d_M_isBehind_24 : decode me_M_isBehind.2.1 24 = .ok (.iaload, 1) := by decide +kernel
theorem d_M_isBehind_25 : decode me_M_isBehind.2.1 25 = .ok (.bipush 30, 2) := by decide +kernel
theorem d_M_isBehind_27 : decode me_M_isBehind.2.1 27 = .ok (.idiv, 1) := by decide +kernel
theorem d_M_isBehind_28 : decode me_M_isBehind.2.1 28 = .ok (.i2l, 1) := by decide +kernel
theorem d_M_isBehind_29 : decode me_M_isBehind.2.1 29 = .ok (.lload 5, 2) := by decide +kernel
theorem d_M_isBehind_31 : decode me_M_isBehind.2.1 31 = .ok (.lmul, 1) := by decide +kernel
theorem d_M_isBehind_32 : decode me_M_isBehind.2.1 32 = .ok (.lload_n 3, 1) := by decide +kernel
theorem d_M_isBehind_33 : decode me_M_isBehind.2.1 33 = .ok (.lsub, 1) := by decide +kernel
theorem d_M_isBehind_34 : decode me_M_isBehind.2.1 34 = .ok (.lstore 11, 2) := by decide +kernel
theorem d_M_isBehind_36 : decode me_M_isBehind.2.1 36 = .ok (.aload_n 0, 1) := by decide +kernel
theorem d_M_isBehind_37 : decode me_M_isBehind.2.1 37 = .ok (.getfield 22, 3) := by decide +kernel
theorem d_M_isBehind_40 : decode me_M_isBehind.2.1 40 = .ok (.iload 8, 2) := by decide +kernel
theorem d_M_isBehind_42 : decode me_M_isBehind.2.1 42 = .ok (.iaload, 1) := by decide +kernel
theorem d_M_isBehind_43 : decode me_M_isBehind.2.1 43 = .ok (.bipush 30, 2) := by decide +kernel
theorem d_M_isBehind_45 : decode me_M_isBehind.2.1 45 = .ok (.irem, 1) := by decide +kernel
theorem d_M_isBehind_46 : decode me_M_isBehind.2.1 46 = .ok (.i2l, 1) := by decide +kernel
theorem d_M_isBehind_47 : decode me_M_isBehind.2.1 47 = .ok (.lload 5, 2) := by decide +kernel
theorem d_M_isBehind_49 : decode me_M_isBehind.2.1 49 = .ok (.lmul, 1) := by decide +kernel
theorem d_M_isBehind_50 : decode me_M_isBehind.2.1 50 = .ok (.lload_n 1, 1) := by decide +kernel
theorem d_M_isBehind_51 : decode me_M_isBehind.2.1 51 = .ok (.lsub, 1) := by decide +kernel
theorem d_M_isBehind_52 : decode me_M_isBehind.2.1 52 = .ok (.lstore 13, 2) := by decide +kernel
theorem d_M_isBehind_54 : decode me_M_isBehind.2.1 54 = .ok (.aload_n 0, 1) := by decide +kernel
theorem d_M_isBehind_55 : decode me_M_isBehind.2.1 55 = .ok (.getfield 22, 3) := by decide +kernel
theorem d_M_isBehind_58 : decode me_M_isBehind.2.1 58 = .ok (.iload 8, 2) := by decide +kernel
theorem d_M_isBehind_60 : decode me_M_isBehind.2.1 60 = .ok (.iaload, 1) := by decide +kernel
theorem d_M_isBehind_61 : decode me_M_isBehind.2.1 61 = .ok (.bipush 30, 2) := by decide +kernel
theorem d_M_isBehind_63 : decode me_M_isBehind.2.1 63 = .ok (.idiv, 1) := by decide +kernel
theorem d_M_isBehind_64 : decode me_M_isBehind.2.1 64 = .ok (.i2l, 1) := by decide +kernel
theorem d_M_isBehind_65 : decode me_M_isBehind.2.1 65 = .ok (.lload 5, 2) := by decide +kernel
theorem d_M_isBehind_67 : decode me_M_isBehind.2.1 67 = .ok (.lmul, 1) := by decide +kernel
theorem d_M_isBehind_68 : decode me_M_isBehind.2.1 68 = .ok (.lload_n 3, 1) := by decide +kernel
theorem d_M_isBehind_69 : decode me_M_isBehind.2.1 69 = .ok (.lsub, 1) := by decide +kernel
theorem d_M_isBehind_70 : decode me_M_isBehind.2.1 70 = .ok (.lstore 15, 2) := by decide +kernel
theorem d_M_isBehind_72 : decode me_M_isBehind.2.1 72 = .ok (.lload 9, 2) := by decide +kernel
theorem d_M_isBehind_74 : decode me_M_isBehind.2.1 74 = .ok (.lload 15, 2) := by decide +kernel
theorem d_M_isBehind_76 : decode me_M_isBehind.2.1 76 = .ok (.lmul, 1) := by decide +kernel
theorem d_M_isBehind_77 : decode me_M_isBehind.2.1 77 = .ok (.lload 11, 2) := by decide +kernel
theorem d_M_isBehind_79 : decode me_M_isBehind.2.1 79 = .ok (.lload 13, 2) := by decide +kernel
theorem d_M_isBehind_81 : decode me_M_isBehind.2.1 81 = .ok (.lmul, 1) := by decide +kernel
theorem d_M_isBehind_82 : decode me_M_isBehind.2.1 82 = .ok (.lsub, 1) := by decide +kernel
theorem d_M_isBehind_83 : decode me_M_isBehind.2.1 83 = .ok (.lconst 0, 1) := by decide +kernel
theorem d_M_isBehind_84 : decode me_M_isBehind.2.1 84 = .ok (.lcmp, 1) := by decide +kernel
theorem d_M_isBehind_85 : decode me_M_isBehind.2.1 85 = .ok (.ifCond .ne 23, 3) := by decide +kernel
theorem d_M_isBehind_88 : decode me_M_isBehind.2.1 88 = .ok (.lload 9, 2) := by decide +kernel
theorem d_M_isBehind_90 : decode me_M_isBehind.2.1 90 = .ok (.lload 13, 2) := by decide +kernel
theorem d_M_isBehind_92 : decode me_M_isBehind.2.1 92 = .ok (.lmul, 1) := by decide +kernel
theorem d_M_isBehind_93 : decode me_M_isBehind.2.1 93 = .ok (.lload 11, 2) := by decide +kernel
theorem d_M_isBehind_95 : decode me_M_isBehind.2.1 95 = .ok (.lload 15, 2) := by decide +kernel
theorem d_M_isBehind_97 : decode me_M_isBehind.2.1 97 = .ok (.lmul, 1) := by decide +kernel
theorem d_M_isBehind_98 : decode me_M_isBehind.2.1 98 = .ok (.ladd, 1) := by decide +kernel
theorem d_M_isBehind_99 : decode me_M_isBehind.2.1 99 = .ok (.lconst 0, 1) := by decide +kernel
theorem d_M_isBehind_100 : decode me_M_isBehind.2.1 100 = .ok (.lcmp, 1) := by decide +kernel
theorem d_M_isBehind_101 : decode me_M_isBehind.2.1 101 = .ok (.ifCond .le 7, 3) := by decide +kernel
theorem d_M_isBehind_104 : decode me_M_isBehind.2.1 104 = .ok (.iconst 1, 1) := by decide +kernel
theorem d_M_isBehind_105 : decode me_M_isBehind.2.1 105 = .ok (.goto 4, 3) := by decide +kernel
theorem d_M_isBehind_108 : decode me_M_isBehind.2.1 108 = .ok (.iconst 0, 1) := by decide +kernel
theorem d_M_isBehind_109 : decode me_M_isBehind.2.1 109 = .ok (.ireturn, 1) := by decide +kernel
noncomputable def f_M_isBehind  (a1 : Int64) (a3 : Int64) (a5 : Int64) (a7 : Int32) (a8 : Int32) (m0 : gk_M) : Option (Int32 × gk_M) :=
  gk_ai m0 5 20 a7 fun v1 =>
  gk_let (((gk_rem v1 30).toInt64 * a5) - a1) fun v2 =>
  gk_ai m0 5 20 a7 fun v3 =>
  gk_let (((v3 / 30).toInt64 * a5) - a3) fun v4 =>
  gk_ai m0 5 20 a8 fun v5 =>
  gk_let (((gk_rem v5 30).toInt64 * a5) - a1) fun v6 =>
  gk_ai m0 5 20 a8 fun v7 =>
  gk_let (((v7 / 30).toInt64 * a5) - a3) fun v8 =>
  if ¬ ((v2 * v8) - (v4 * v6)) = 0 then
    some (0, m0)
  else
    if ((v2 * v6) + (v4 * v8)) ≤ 0 then
      some (0, m0)
    else
      some (1, m0)

theorem s_M_isBehind_0 {z : gk_Z} (K : gk_F tm z me_M_isBehind 1) {r : Int32} {mem2 : gk_M} : ∀ a1 a3 a5 a7 a8 m0, f_M_isBehind a1 a3 a5 a7 a8 m0 = some (r, mem2) → gk_G tm z me_M_isBehind (gk_R tm z (some (.int r)) mem2) m0 [(0, .ref 0), (1, .long a1), (3, .long a3), (5, .long a5), (7, .int a7), (8, .int a8)] [] 0 := by
  intro a1 a3 a5 a7 a8 m0  h
  unfold f_M_isBehind at h
  refine gk_aload_n (pc := 0) K d_M_isBehind_0 rfl ?_
  refine gk_get (pc := 1) K d_M_isBehind_1 fl_M_22 tm_0 rfl rfl ?_
  refine gk_iload (pc := 4) K d_M_isBehind_4 rfl ?_
  refine gk_iald (pc := 6) K d_M_isBehind_6 tm_5 h (fun v1 h => ?_)
  refine gk_bipush (pc := 7) K d_M_isBehind_7 kb_30 ?_
  refine gk_iremc2 (pc := 9) K d_M_isBehind_9 (by decide) ?_
  refine gk_i2l (pc := 10) K d_M_isBehind_10 ?_
  refine gk_lload (pc := 11) K d_M_isBehind_11 rfl ?_
  refine gk_lmul (pc := 13) K d_M_isBehind_13 ?_
  refine gk_lload_n (pc := 14) K d_M_isBehind_14 rfl ?_
  refine gk_lsub (pc := 15) K d_M_isBehind_15 ?_
  refine gk_topl h (fun v2 h => ?_)
  refine gk_lstore (lv2 := [(9, .long v2), (0, .ref 0), (1, .long a1), (3, .long a3), (5, .long a5), (7, .int a7), (8, .int a8)]) (pc := 16) K d_M_isBehind_16 (by decide) rfl ?_
  refine gk_aload_n (pc := 18) K d_M_isBehind_18 rfl ?_
  refine gk_get (pc := 19) K d_M_isBehind_19 fl_M_22 tm_0 rfl rfl ?_
  refine gk_iload (pc := 22) K d_M_isBehind_22 rfl ?_
  refine gk_iald (pc := 24) K d_M_isBehind_24 tm_5 h (fun v3 h => ?_)
  refine gk_bipush (pc := 25) K d_M_isBehind_25 kb_30 ?_
  refine gk_idivc2 (pc := 27) K d_M_isBehind_27 (by decide) ?_
  refine gk_i2l (pc := 28) K d_M_isBehind_28 ?_
  refine gk_lload (pc := 29) K d_M_isBehind_29 rfl ?_
  refine gk_lmul (pc := 31) K d_M_isBehind_31 ?_
  refine gk_lload_n (pc := 32) K d_M_isBehind_32 rfl ?_
  refine gk_lsub (pc := 33) K d_M_isBehind_33 ?_
  refine gk_topl h (fun v4 h => ?_)
  refine gk_lstore (lv2 := [(11, .long v4), (9, .long v2), (0, .ref 0), (1, .long a1), (3, .long a3), (5, .long a5), (7, .int a7), (8, .int a8)]) (pc := 34) K d_M_isBehind_34 (by decide) rfl ?_
  refine gk_aload_n (pc := 36) K d_M_isBehind_36 rfl ?_
  refine gk_get (pc := 37) K d_M_isBehind_37 fl_M_22 tm_0 rfl rfl ?_
  refine gk_iload (pc := 40) K d_M_isBehind_40 rfl ?_
  refine gk_iald (pc := 42) K d_M_isBehind_42 tm_5 h (fun v5 h => ?_)
  refine gk_bipush (pc := 43) K d_M_isBehind_43 kb_30 ?_
  refine gk_iremc2 (pc := 45) K d_M_isBehind_45 (by decide) ?_
  refine gk_i2l (pc := 46) K d_M_isBehind_46 ?_
  refine gk_lload (pc := 47) K d_M_isBehind_47 rfl ?_
  refine gk_lmul (pc := 49) K d_M_isBehind_49 ?_
  refine gk_lload_n (pc := 50) K d_M_isBehind_50 rfl ?_
  refine gk_lsub (pc := 51) K d_M_isBehind_51 ?_
  refine gk_topl h (fun v6 h => ?_)
  refine gk_lstore (lv2 := [(13, .long v6), (11, .long v4), (9, .long v2), (0, .ref 0), (1, .long a1), (3, .long a3), (5, .long a5), (7, .int a7), (8, .int a8)]) (pc := 52) K d_M_isBehind_52 (by decide) rfl ?_
  refine gk_aload_n (pc := 54) K d_M_isBehind_54 rfl ?_
  refine gk_get (pc := 55) K d_M_isBehind_55 fl_M_22 tm_0 rfl rfl ?_
  refine gk_iload (pc := 58) K d_M_isBehind_58 rfl ?_
  refine gk_iald (pc := 60) K d_M_isBehind_60 tm_5 h (fun v7 h => ?_)
  refine gk_bipush (pc := 61) K d_M_isBehind_61 kb_30 ?_
  refine gk_idivc2 (pc := 63) K d_M_isBehind_63 (by decide) ?_
  refine gk_i2l (pc := 64) K d_M_isBehind_64 ?_
  refine gk_lload (pc := 65) K d_M_isBehind_65 rfl ?_
  refine gk_lmul (pc := 67) K d_M_isBehind_67 ?_
  refine gk_lload_n (pc := 68) K d_M_isBehind_68 rfl ?_
  refine gk_lsub (pc := 69) K d_M_isBehind_69 ?_
  refine gk_topl h (fun v8 h => ?_)
  refine gk_lstore (lv2 := [(15, .long v8), (13, .long v6), (11, .long v4), (9, .long v2), (0, .ref 0), (1, .long a1), (3, .long a3), (5, .long a5), (7, .int a7), (8, .int a8)]) (pc := 70) K d_M_isBehind_70 (by decide) rfl ?_
  refine gk_lload (pc := 72) K d_M_isBehind_72 rfl ?_
  refine gk_lload (pc := 74) K d_M_isBehind_74 rfl ?_
  refine gk_lmul (pc := 76) K d_M_isBehind_76 ?_
  refine gk_lload (pc := 77) K d_M_isBehind_77 rfl ?_
  refine gk_lload (pc := 79) K d_M_isBehind_79 rfl ?_
  refine gk_lmul (pc := 81) K d_M_isBehind_81 ?_
  refine gk_lsub (pc := 82) K d_M_isBehind_82 ?_
  refine gk_lconst (pc := 83) K d_M_isBehind_83 kl_0 ?_
  refine gk_lc_ne (tgt := 108) (pc := 84) K d_M_isBehind_84 d_M_isBehind_85 (by decide) h (fun h => ?_) (fun h => ?_)
  · refine gk_iconst (pc := 108) K d_M_isBehind_108 kc_0 ?_
    exact gk_zretc (pc := 109) K d_M_isBehind_109 rfl (Or.inl rfl) h
  · refine gk_lload (pc := 88) K d_M_isBehind_88 rfl ?_
    refine gk_lload (pc := 90) K d_M_isBehind_90 rfl ?_
    refine gk_lmul (pc := 92) K d_M_isBehind_92 ?_
    refine gk_lload (pc := 93) K d_M_isBehind_93 rfl ?_
    refine gk_lload (pc := 95) K d_M_isBehind_95 rfl ?_
    refine gk_lmul (pc := 97) K d_M_isBehind_97 ?_
    refine gk_ladd (pc := 98) K d_M_isBehind_98 ?_
    refine gk_lconst (pc := 99) K d_M_isBehind_99 kl_0 ?_
    refine gk_lc_le (tgt := 108) (pc := 100) K d_M_isBehind_100 d_M_isBehind_101 (by decide) h (fun h => ?_) (fun h => ?_)
    · refine gk_iconst (pc := 108) K d_M_isBehind_108 kc_0 ?_
      exact gk_zretc (pc := 109) K d_M_isBehind_109 rfl (Or.inl rfl) h
    · refine gk_iconst (pc := 104) K d_M_isBehind_104 kc_1 ?_
      refine gk_goto (tgt := 109) (pc := 105) K d_M_isBehind_105 (by decide) ?_
      exact gk_zretc (pc := 109) K d_M_isBehind_109 rfl (Or.inr rfl) h
theorem s_M_isBehind {l : Launch} {u : gk_U} (hD : gk_D tm u) {a1 : Int64} {a3 : Int64} {a5 : Int64} {a7 : Int32} {a8 : Int32} {m0 mem2 : gk_M} {r : Int32} (h : f_M_isBehind a1 a3 a5 a7 a8 m0 = some (r, mem2)) : gk_C tm l u me_M_isBehind 1 [.ref 0, .long a1, .long a3, .long a5, .int a7, .int a8] m0 (some (.int r)) mem2 :=
  gk_enter hD mc_M_isBehind (Nat.le_of_ble_eq_true rfl) rfl (fun z _ _ K => s_M_isBehind_0 K _ _ _ _ _ _  h)
theorem d_M_side_0 : decode me_M_side.2.1 0 = .ok (.lload 4, 2) := by decide +kernel
theorem d_M_side_2 : decode me_M_side.2.1 2 = .ok (.lload_n 0, 1) := by decide +kernel
theorem d_M_side_3 : decode me_M_side.2.1 3 = .ok (.lsub, 1) := by decide +kernel
theorem d_M_side_4 : decode me_M_side.2.1 4 = .ok (.lload 10, 2) := by decide +kernel
theorem d_M_side_6 : decode me_M_side.2.1 6 = .ok (.lload_n 2, 1) := by decide +kernel
theorem d_M_side_7 : decode me_M_side.2.1 7 = .ok (.lsub, 1) := by decide +kernel
theorem d_M_side_8 : decode me_M_side.2.1 8 = .ok (.lmul, 1) := by decide +kernel
theorem d_M_side_9 : decode me_M_side.2.1 9 = .ok (.lload 6, 2) := by decide +kernel
theorem d_M_side_11 : decode me_M_side.2.1 11 = .ok (.lload_n 2, 1) := by decide +kernel
theorem d_M_side_12 : decode me_M_side.2.1 12 = .ok (.lsub, 1) := by decide +kernel
theorem d_M_side_13 : decode me_M_side.2.1 13 = .ok (.lload 8, 2) := by decide +kernel
theorem d_M_side_15 : decode me_M_side.2.1 15 = .ok (.lload_n 0, 1) := by decide +kernel
theorem d_M_side_16 : decode me_M_side.2.1 16 = .ok (.lsub, 1) := by decide +kernel
theorem d_M_side_17 : decode me_M_side.2.1 17 = .ok (.lmul, 1) := by decide +kernel
theorem d_M_side_18 : decode me_M_side.2.1 18 = .ok (.lsub, 1) := by decide +kernel
theorem d_M_side_19 : decode me_M_side.2.1 19 = .ok (.lreturn, 1) := by decide +kernel
noncomputable def f_M_side  (a0 : Int64) (a2 : Int64) (a4 : Int64) (a6 : Int64) (a8 : Int64) (a10 : Int64) (m0 : gk_M) : Option (Int64 × gk_M) :=
  some ((((a4 - a0) * (a10 - a2)) - ((a6 - a2) * (a8 - a0))), m0)

theorem s_M_side_0 {z : gk_Z} (K : gk_F tm z me_M_side 1) {r : Int64} {mem2 : gk_M} : ∀ a0 a2 a4 a6 a8 a10 m0, f_M_side a0 a2 a4 a6 a8 a10 m0 = some (r, mem2) → gk_G tm z me_M_side (gk_R tm z (some (.long r)) mem2) m0 [(0, .long a0), (2, .long a2), (4, .long a4), (6, .long a6), (8, .long a8), (10, .long a10)] [] 0 := by
  intro a0 a2 a4 a6 a8 a10 m0  h
  unfold f_M_side at h
  refine gk_lload (pc := 0) K d_M_side_0 rfl ?_
  refine gk_lload_n (pc := 2) K d_M_side_2 rfl ?_
  refine gk_lsub (pc := 3) K d_M_side_3 ?_
  refine gk_lload (pc := 4) K d_M_side_4 rfl ?_
  refine gk_lload_n (pc := 6) K d_M_side_6 rfl ?_
  refine gk_lsub (pc := 7) K d_M_side_7 ?_
  refine gk_lmul (pc := 8) K d_M_side_8 ?_
  refine gk_lload (pc := 9) K d_M_side_9 rfl ?_
  refine gk_lload_n (pc := 11) K d_M_side_11 rfl ?_
  refine gk_lsub (pc := 12) K d_M_side_12 ?_
  refine gk_lload (pc := 13) K d_M_side_13 rfl ?_
  refine gk_lload_n (pc := 15) K d_M_side_15 rfl ?_
  refine gk_lsub (pc := 16) K d_M_side_16 ?_
  refine gk_lmul (pc := 17) K d_M_side_17 ?_
  refine gk_lsub (pc := 18) K d_M_side_18 ?_
  exact gk_lret (pc := 19) K d_M_side_19 rfl h
theorem s_M_side {l : Launch} {u : gk_U} (hD : gk_D tm u) {a0 : Int64} {a2 : Int64} {a4 : Int64} {a6 : Int64} {a8 : Int64} {a10 : Int64} {m0 mem2 : gk_M} {r : Int64} (h : f_M_side a0 a2 a4 a6 a8 a10 m0 = some (r, mem2)) : gk_C tm l u me_M_side 1 [.long a0, .long a2, .long a4, .long a6, .long a8, .long a10] m0 (some (.long r)) mem2 :=
  gk_enter hD mc_M_side (Nat.le_of_ble_eq_true rfl) rfl (fun z _ _ K => s_M_side_0 K _ _ _ _ _ _ _  h)
theorem d_M_isBetween_0 : decode me_M_isBetween.2.1 0 = .ok (.lload_n 0, 1) := by decide +kernel
theorem d_M_isBetween_1 : decode me_M_isBetween.2.1 1 = .ok (.lload 4, 2) := by decide +kernel
theorem d_M_isBetween_3 : decode me_M_isBetween.2.1 3 = .ok (.lcmp, 1) := by decide +kernel
theorem d_M_isBetween_4 : decode me_M_isBetween.2.1 4 = .ok (.ifCond .ge 24, 3) := by decide +kernel
theorem d_M_isBetween_7 : decode me_M_isBetween.2.1 7 = .ok (.lload_n 0, 1) := by decide +kernel
theorem d_M_isBetween_8 : decode me_M_isBetween.2.1 8 = .ok (.lload_n 2, 1) := by decide +kernel
theorem d_M_isBetween_9 : decode me_M_isBetween.2.1 9 = .ok (.lcmp, 1) := by decide +kernel
theorem d_M_isBetween_10 : decode me_M_isBetween.2.1 10 = .ok (.ifCond .gt 14, 3) := by decide +kernel
theorem d_M_isBetween_13 : decode me_M_isBetween.2.1 13 = .ok (.lload_n 2, 1) := by decide +kernel
theorem d_M_isBetween_14 : decode me_M_isBetween.2.1 14 = .ok (.lload 4, 2) := by decide +kernel
theorem d_M_isBetween_16 : decode me_M_isBetween.2.1 16 = .ok (.lcmp, 1) := by decide +kernel
theorem d_M_isBetween_17 : decode me_M_isBetween.2.1 17 = .ok (.ifCond .gt 7, 3) := by decide +kernel
theorem d_M_isBetween_20 : decode me_M_isBetween.2.1 20 = .ok (.iconst 1, 1) := by decide +kernel
theorem d_M_isBetween_21 : decode me_M_isBetween.2.1 21 = .ok (.goto 25, 3) := by decide +kernel
theorem d_M_isBetween_24 : decode me_M_isBetween.2.1 24 = .ok (.iconst 0, 1) := by decide +kernel
theorem d_M_isBetween_25 : decode me_M_isBetween.2.1 25 = .ok (.goto 21, 3) := by decide +kernel
theorem d_M_isBetween_28 : decode me_M_isBetween.2.1 28 = .ok (.lload 4, 2) := by decide +kernel
theorem d_M_isBetween_30 : decode me_M_isBetween.2.1 30 = .ok (.lload_n 2, 1) := by decide +kernel
theorem d_M_isBetween_31 : decode me_M_isBetween.2.1 31 = .ok (.lcmp, 1) := by decide +kernel
theorem d_M_isBetween_32 : decode me_M_isBetween.2.1 32 = .ok (.ifCond .gt 13, 3) := by decide +kernel
theorem d_M_isBetween_35 : decode me_M_isBetween.2.1 35 = .ok (.lload_n 2, 1) := by decide +kernel
theorem d_M_isBetween_36 : decode me_M_isBetween.2.1 36 = .ok (.lload_n 0, 1) := by decide +kernel
theorem d_M_isBetween_37 : decode me_M_isBetween.2.1 37 = .ok (.lcmp, 1) := by decide +kernel
theorem d_M_isBetween_38 : decode me_M_isBetween.2.1 38 = .ok (.ifCond .gt 7, 3) := by decide +kernel
theorem d_M_isBetween_41 : decode me_M_isBetween.2.1 41 = .ok (.iconst 1, 1) := by decide +kernel
theorem d_M_isBetween_42 : decode me_M_isBetween.2.1 42 = .ok (.goto 4, 3) := by decide +kernel
theorem d_M_isBetween_45 : decode me_M_isBetween.2.1 45 = .ok (.iconst 0, 1) := by decide +kernel
theorem d_M_isBetween_46 : decode me_M_isBetween.2.1 46 = .ok (.ireturn, 1) := by decide +kernel
noncomputable def f_M_isBetween  (a0 : Int64) (a2 : Int64) (a4 : Int64) (m0 : gk_M) : Option (Int32 × gk_M) :=
  if a4 ≤ a0 then
    if a2 < a4 then
      some (0, m0)
    else
      if a0 < a2 then
        some (0, m0)
      else
        some (1, m0)
  else
    if a2 < a0 then
      some (0, m0)
    else
      if a4 < a2 then
        some (0, m0)
      else
        some (1, m0)

theorem s_M_isBetween_0 {z : gk_Z} (K : gk_F tm z me_M_isBetween 1) {r : Int32} {mem2 : gk_M} : ∀ a0 a2 a4 m0, f_M_isBetween a0 a2 a4 m0 = some (r, mem2) → gk_G tm z me_M_isBetween (gk_R tm z (some (.int r)) mem2) m0 [(0, .long a0), (2, .long a2), (4, .long a4)] [] 0 := by
  intro a0 a2 a4 m0  h
  unfold f_M_isBetween at h
  refine gk_lload_n (pc := 0) K d_M_isBetween_0 rfl ?_
  refine gk_lload (pc := 1) K d_M_isBetween_1 rfl ?_
  refine gk_lc_ge (tgt := 28) (pc := 3) K d_M_isBetween_3 d_M_isBetween_4 (by decide) h (fun h => ?_) (fun h => ?_)
  · refine gk_lload (pc := 28) K d_M_isBetween_28 rfl ?_
    refine gk_lload_n (pc := 30) K d_M_isBetween_30 rfl ?_
    refine gk_lc_gt (tgt := 45) (pc := 31) K d_M_isBetween_31 d_M_isBetween_32 (by decide) h (fun h => ?_) (fun h => ?_)
    · refine gk_iconst (pc := 45) K d_M_isBetween_45 kc_0 ?_
      exact gk_zretc (pc := 46) K d_M_isBetween_46 rfl (Or.inl rfl) h
    · refine gk_lload_n (pc := 35) K d_M_isBetween_35 rfl ?_
      refine gk_lload_n (pc := 36) K d_M_isBetween_36 rfl ?_
      refine gk_lc_gt (tgt := 45) (pc := 37) K d_M_isBetween_37 d_M_isBetween_38 (by decide) h (fun h => ?_) (fun h => ?_)
      · refine gk_iconst (pc := 45) K d_M_isBetween_45 kc_0 ?_
        exact gk_zretc (pc := 46) K d_M_isBetween_46 rfl (Or.inl rfl) h
      · refine gk_iconst (pc := 41) K d_M_isBetween_41 kc_1 ?_
        refine gk_goto (tgt := 46) (pc := 42) K d_M_isBetween_42 (by decide) ?_
        exact gk_zretc (pc := 46) K d_M_isBetween_46 rfl (Or.inr rfl) h
  · refine gk_lload_n (pc := 7) K d_M_isBetween_7 rfl ?_
    refine gk_lload_n (pc := 8) K d_M_isBetween_8 rfl ?_
    refine gk_lc_gt (tgt := 24) (pc := 9) K d_M_isBetween_9 d_M_isBetween_10 (by decide) h (fun h => ?_) (fun h => ?_)
    · refine gk_iconst (pc := 24) K d_M_isBetween_24 kc_0 ?_
      refine gk_goto (tgt := 46) (pc := 25) K d_M_isBetween_25 (by decide) ?_
      exact gk_zretc (pc := 46) K d_M_isBetween_46 rfl (Or.inl rfl) h
    · refine gk_lload_n (pc := 13) K d_M_isBetween_13 rfl ?_
      refine gk_lload (pc := 14) K d_M_isBetween_14 rfl ?_
      refine gk_lc_gt (tgt := 24) (pc := 16) K d_M_isBetween_16 d_M_isBetween_17 (by decide) h (fun h => ?_) (fun h => ?_)
      · refine gk_iconst (pc := 24) K d_M_isBetween_24 kc_0 ?_
        refine gk_goto (tgt := 46) (pc := 25) K d_M_isBetween_25 (by decide) ?_
        exact gk_zretc (pc := 46) K d_M_isBetween_46 rfl (Or.inl rfl) h
      · refine gk_iconst (pc := 20) K d_M_isBetween_20 kc_1 ?_
        refine gk_goto (tgt := 46) (pc := 21) K d_M_isBetween_21 (by decide) ?_
        exact gk_zretc (pc := 46) K d_M_isBetween_46 rfl (Or.inr rfl) h
theorem s_M_isBetween {l : Launch} {u : gk_U} (hD : gk_D tm u) {a0 : Int64} {a2 : Int64} {a4 : Int64} {m0 mem2 : gk_M} {r : Int32} (h : f_M_isBetween a0 a2 a4 m0 = some (r, mem2)) : gk_C tm l u me_M_isBetween 1 [.long a0, .long a2, .long a4] m0 (some (.int r)) mem2 :=
  gk_enter hD mc_M_isBetween (Nat.le_of_ble_eq_true rfl) rfl (fun z _ _ K => s_M_isBetween_0 K _ _ _ _  h)
