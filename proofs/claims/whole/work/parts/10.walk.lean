theorem d_X_isPoint_0 : decode me_X_isPoint.2.1 0 = .ok (.iload_n 0, 1) := by decide +kernel
theorem d_X_isPoint_1 : decode me_X_isPoint.2.1 1 = .ok (.ifCond .lt 14, 3) := by decide +kernel
theorem d_X_isPoint_4 : decode me_X_isPoint.2.1 4 = .ok (.iload_n 0, 1) := by decide +kernel
theorem d_X_isPoint_5 : decode me_X_isPoint.2.1 5 = .ok (.sipush 900, 3) := by decide +kernel
theorem d_X_isPoint_8 : decode me_X_isPoint.2.1 8 = .ok (.if_icmp .ge 7, 3) := by decide +kernel
theorem d_X_isPoint_11 : decode me_X_isPoint.2.1 11 = .ok (.iconst 1, 1) := by decide +kernel
theorem d_X_isPoint_12 : decode me_X_isPoint.2.1 12 = .ok (.goto 4, 3) := by decide +kernel
theorem d_X_isPoint_15 : decode me_X_isPoint.2.1 15 = .ok (.iconst 0, 1) := by decide +kernel
theorem d_X_isPoint_16 : decode me_X_isPoint.2.1 16 = .ok (.ireturn, 1) := by decide +kernel
noncomputable def f_X_isPoint  (a0 : Int32) (m0 : gk_M) : Option (Int32 × gk_M) :=
  if a0 < 0 then
    some (0, m0)
  else
    if 900 ≤ a0 then
      some (0, m0)
    else
      some (1, m0)

theorem s_X_isPoint_0 {z : gk_Z} (K : gk_F tx z me_X_isPoint 1) {r : Int32} {mem2 : gk_M} : ∀ a0 m0, f_X_isPoint a0 m0 = some (r, mem2) → gk_G tx z me_X_isPoint (gk_R tx z (some (.int r)) mem2) m0 [(0, .int a0)] [] 0 := by
  intro a0 m0  h
  unfold f_X_isPoint at h
  refine gk_iload_n (pc := 0) K d_X_isPoint_0 rfl ?_
  refine gk_if_lt (tgt := 15) (pc := 1) K d_X_isPoint_1 (by decide) h (fun h => ?_) (fun h => ?_)
  · refine gk_iconst (pc := 15) K d_X_isPoint_15 kc_0 ?_
    exact gk_zretc (pc := 16) K d_X_isPoint_16 rfl (Or.inl rfl) h
  · refine gk_iload_n (pc := 4) K d_X_isPoint_4 rfl ?_
    refine gk_sipush (pc := 5) K d_X_isPoint_5 ks_900 ?_
    refine gk_ic_ge (tgt := 15) (pc := 8) K d_X_isPoint_8 (by decide) h (fun h => ?_) (fun h => ?_)
    · refine gk_iconst (pc := 15) K d_X_isPoint_15 kc_0 ?_
      exact gk_zretc (pc := 16) K d_X_isPoint_16 rfl (Or.inl rfl) h
    · refine gk_iconst (pc := 11) K d_X_isPoint_11 kc_1 ?_
      refine gk_goto (tgt := 16) (pc := 12) K d_X_isPoint_12 (by decide) ?_
      exact gk_zretc (pc := 16) K d_X_isPoint_16 rfl (Or.inr rfl) h
theorem s_X_isPoint {l : Launch} {u : gk_U} (hD : gk_D tx u) {a0 : Int32} {m0 mem2 : gk_M} {r : Int32} (h : f_X_isPoint a0 m0 = some (r, mem2)) : gk_C tx l u me_X_isPoint 1 [.int a0] m0 (some (.int r)) mem2 :=
  gk_enter hD mc_X_isPoint (Nat.le_of_ble_eq_true rfl) rfl (fun z _ _ K => s_X_isPoint_0 K _ _  h)
theorem d_X_isHeight_0 : decode me_X_isHeight.2.1 0 = .ok (.iload_n 0, 1) := by decide +kernel
theorem d_X_isHeight_1 : decode me_X_isHeight.2.1 1 = .ok (.ifCond .lt 13, 3) := by decide +kernel
theorem d_X_isHeight_4 : decode me_X_isHeight.2.1 4 = .ok (.iload_n 0, 1) := by decide +kernel
theorem d_X_isHeight_5 : decode me_X_isHeight.2.1 5 = .ok (.bipush 9, 2) := by decide +kernel
theorem d_X_isHeight_7 : decode me_X_isHeight.2.1 7 = .ok (.if_icmp .gt 7, 3) := by decide +kernel
theorem d_X_isHeight_10 : decode me_X_isHeight.2.1 10 = .ok (.iconst 1, 1) := by decide +kernel
theorem d_X_isHeight_11 : decode me_X_isHeight.2.1 11 = .ok (.goto 4, 3) := by decide +kernel
theorem d_X_isHeight_14 : decode me_X_isHeight.2.1 14 = .ok (.iconst 0, 1) := by decide +kernel
theorem d_X_isHeight_15 : decode me_X_isHeight.2.1 15 = .ok (.ireturn, 1) := by decide +kernel
noncomputable def f_X_isHeight  (a0 : Int32) (m0 : gk_M) : Option (Int32 × gk_M) :=
  if a0 < 0 then
    some (0, m0)
  else
    if 9 < a0 then
      some (0, m0)
    else
      some (1, m0)

theorem s_X_isHeight_0 {z : gk_Z} (K : gk_F tx z me_X_isHeight 1) {r : Int32} {mem2 : gk_M} : ∀ a0 m0, f_X_isHeight a0 m0 = some (r, mem2) → gk_G tx z me_X_isHeight (gk_R tx z (some (.int r)) mem2) m0 [(0, .int a0)] [] 0 := by
  intro a0 m0  h
  unfold f_X_isHeight at h
  refine gk_iload_n (pc := 0) K d_X_isHeight_0 rfl ?_
  refine gk_if_lt (tgt := 14) (pc := 1) K d_X_isHeight_1 (by decide) h (fun h => ?_) (fun h => ?_)
  · refine gk_iconst (pc := 14) K d_X_isHeight_14 kc_0 ?_
    exact gk_zretc (pc := 15) K d_X_isHeight_15 rfl (Or.inl rfl) h
  · refine gk_iload_n (pc := 4) K d_X_isHeight_4 rfl ?_
    refine gk_bipush (pc := 5) K d_X_isHeight_5 kb_9 ?_
    refine gk_ic_gt (tgt := 14) (pc := 7) K d_X_isHeight_7 (by decide) h (fun h => ?_) (fun h => ?_)
    · refine gk_iconst (pc := 14) K d_X_isHeight_14 kc_0 ?_
      exact gk_zretc (pc := 15) K d_X_isHeight_15 rfl (Or.inl rfl) h
    · refine gk_iconst (pc := 10) K d_X_isHeight_10 kc_1 ?_
      refine gk_goto (tgt := 15) (pc := 11) K d_X_isHeight_11 (by decide) ?_
      exact gk_zretc (pc := 15) K d_X_isHeight_15 rfl (Or.inr rfl) h
theorem s_X_isHeight {l : Launch} {u : gk_U} (hD : gk_D tx u) {a0 : Int32} {m0 mem2 : gk_M} {r : Int32} (h : f_X_isHeight a0 m0 = some (r, mem2)) : gk_C tx l u me_X_isHeight 1 [.int a0] m0 (some (.int r)) mem2 :=
  gk_enter hD mc_X_isHeight (Nat.le_of_ble_eq_true rfl) rfl (fun z _ _ K => s_X_isHeight_0 K _ _  h)
theorem d_Plain_most_0 : decode me_Plain_most.2.1 0 = .ok (.iload_n 1, 1) := by decide +kernel
theorem d_Plain_most_1 : decode me_Plain_most.2.1 1 = .ok (.ifCond .ne 8, 3) := by decide +kernel
theorem d_Plain_most_4 : decode me_Plain_most.2.1 4 = .ok (.bipush 9, 2) := by decide +kernel
theorem d_Plain_most_6 : decode me_Plain_most.2.1 6 = .ok (.goto 14, 3) := by decide +kernel
theorem d_Plain_most_9 : decode me_Plain_most.2.1 9 = .ok (.iload_n 1, 1) := by decide +kernel
theorem d_Plain_most_10 : decode me_Plain_most.2.1 10 = .ok (.iconst 1, 1) := by decide +kernel
theorem d_Plain_most_11 : decode me_Plain_most.2.1 11 = .ok (.if_icmp .ne 8, 3) := by decide +kernel
theorem d_Plain_most_14 : decode me_Plain_most.2.1 14 = .ok (.bipush 99, 2) := by decide +kernel
theorem d_Plain_most_16 : decode me_Plain_most.2.1 16 = .ok (.goto 4, 3) := by decide +kernel
theorem d_Plain_most_19 : decode me_Plain_most.2.1 19 = .ok (.iconst 1, 1) := by decide +kernel
theorem d_Plain_most_20 : decode me_Plain_most.2.1 20 = .ok (.ireturn, 1) := by decide +kernel
noncomputable def f_Plain_most  (a1 : Int32) (m0 : gk_M) : Option (Int32 × gk_M) :=
  if ¬ a1 = 0 then
    if ¬ a1 = 1 then
      some (1, m0)
    else
      some (99, m0)
  else
    some (9, m0)

theorem s_Plain_most_0 {z : gk_Z} (K : gk_F tx z me_Plain_most 1) {r : Int32} {mem2 : gk_M} : ∀ a1 m0, f_Plain_most a1 m0 = some (r, mem2) → gk_G tx z me_Plain_most (gk_R tx z (some (.int r)) mem2) m0 [(0, .ref 7), (1, .int a1)] [] 0 := by
  intro a1 m0  h
  unfold f_Plain_most at h
  refine gk_iload_n (pc := 0) K d_Plain_most_0 rfl ?_
  refine gk_if_ne (tgt := 9) (pc := 1) K d_Plain_most_1 (by decide) h (fun h => ?_) (fun h => ?_)
  · refine gk_iload_n (pc := 9) K d_Plain_most_9 rfl ?_
    refine gk_iconst (pc := 10) K d_Plain_most_10 kc_1 ?_
    refine gk_ic_ne (tgt := 19) (pc := 11) K d_Plain_most_11 (by decide) h (fun h => ?_) (fun h => ?_)
    · refine gk_iconst (pc := 19) K d_Plain_most_19 kc_1 ?_
      exact gk_iret (pc := 20) K d_Plain_most_20 rfl h
    · refine gk_bipush (pc := 14) K d_Plain_most_14 kb_99 ?_
      refine gk_goto (tgt := 20) (pc := 16) K d_Plain_most_16 (by decide) ?_
      exact gk_iret (pc := 20) K d_Plain_most_20 rfl h
  · refine gk_bipush (pc := 4) K d_Plain_most_4 kb_9 ?_
    refine gk_goto (tgt := 20) (pc := 6) K d_Plain_most_6 (by decide) ?_
    exact gk_iret (pc := 20) K d_Plain_most_20 rfl h
theorem s_Plain_most {l : Launch} {u : gk_U} (hD : gk_D tx u) {a1 : Int32} {m0 mem2 : gk_M} {r : Int32} (h : f_Plain_most a1 m0 = some (r, mem2)) : gk_C tx l u me_Plain_most 1 [.ref 7, .int a1] m0 (some (.int r)) mem2 :=
  gk_enter hD mc_Plain_most (Nat.le_of_ble_eq_true rfl) rfl (fun z _ _ K => s_Plain_most_0 K _ _  h)
theorem d_Plain_pointOf_0 : decode me_Plain_pointOf.2.1 0 = .ok (.bipush 30, 2) := by decide +kernel
theorem d_Plain_pointOf_2 : decode me_Plain_pointOf.2.1 2 = .ok (.aload_n 0, 1) := by decide +kernel
theorem d_Plain_pointOf_3 : decode me_Plain_pointOf.2.1 3 = .ok (.getfield 15, 3) := by decide +kernel
theorem d_Plain_pointOf_6 : decode me_Plain_pointOf.2.1 6 = .ok (.iload_n 1, 1) := by decide +kernel
theorem d_Plain_pointOf_7 : decode me_Plain_pointOf.2.1 7 = .ok (.iaload, 1) := by decide +kernel
theorem d_Plain_pointOf_8 : decode me_Plain_pointOf.2.1 8 = .ok (.imul, 1) := by decide +kernel
theorem d_Plain_pointOf_9 : decode me_Plain_pointOf.2.1 9 = .ok (.aload_n 0, 1) := by decide +kernel
theorem d_Plain_pointOf_10 : decode me_Plain_pointOf.2.1 10 = .ok (.getfield 11, 3) := by decide +kernel
theorem d_Plain_pointOf_13 : decode me_Plain_pointOf.2.1 13 = .ok (.iload_n 1, 1) := by decide +kernel
theorem d_Plain_pointOf_14 : decode me_Plain_pointOf.2.1 14 = .ok (.iaload, 1) := by decide +kernel
theorem d_Plain_pointOf_15 : decode me_Plain_pointOf.2.1 15 = .ok (.iadd, 1) := by decide +kernel
theorem d_Plain_pointOf_16 : decode me_Plain_pointOf.2.1 16 = .ok (.ireturn, 1) := by decide +kernel
noncomputable def f_Plain_pointOf  (a1 : Int32) (m0 : gk_M) : Option (Int32 × gk_M) :=
  gk_ai m0 9 12 a1 fun v1 =>
  gk_ai m0 8 12 a1 fun v2 =>
  some (((30 * v1) + v2), m0)

theorem s_Plain_pointOf_0 {z : gk_Z} (K : gk_F tx z me_Plain_pointOf 1) {r : Int32} {mem2 : gk_M} : ∀ a1 m0, f_Plain_pointOf a1 m0 = some (r, mem2) → gk_G tx z me_Plain_pointOf (gk_R tx z (some (.int r)) mem2) m0 [(0, .ref 7), (1, .int a1)] [] 0 := by
  intro a1 m0  h
  unfold f_Plain_pointOf at h
  refine gk_bipush (pc := 0) K d_Plain_pointOf_0 kb_30 ?_
  refine gk_aload_n (pc := 2) K d_Plain_pointOf_2 rfl ?_
  refine gk_get (pc := 3) K d_Plain_pointOf_3 fl_Plain_15 tx_7 rfl rfl ?_
  refine gk_iload_n (pc := 6) K d_Plain_pointOf_6 rfl ?_
  refine gk_iald (pc := 7) K d_Plain_pointOf_7 tx_9 h (fun v1 h => ?_)
  refine gk_imul (pc := 8) K d_Plain_pointOf_8 ?_
  refine gk_aload_n (pc := 9) K d_Plain_pointOf_9 rfl ?_
  refine gk_get (pc := 10) K d_Plain_pointOf_10 fl_Plain_11 tx_7 rfl rfl ?_
  refine gk_iload_n (pc := 13) K d_Plain_pointOf_13 rfl ?_
  refine gk_iald (pc := 14) K d_Plain_pointOf_14 tx_8 h (fun v2 h => ?_)
  refine gk_iadd (pc := 15) K d_Plain_pointOf_15 ?_
  exact gk_iret (pc := 16) K d_Plain_pointOf_16 rfl h
theorem s_Plain_pointOf {l : Launch} {u : gk_U} (hD : gk_D tx u) {a1 : Int32} {m0 mem2 : gk_M} {r : Int32} (h : f_Plain_pointOf a1 m0 = some (r, mem2)) : gk_C tx l u me_Plain_pointOf 1 [.ref 7, .int a1] m0 (some (.int r)) mem2 :=
  gk_enter hD mc_Plain_pointOf (Nat.le_of_ble_eq_true rfl) rfl (fun z _ _ K => s_Plain_pointOf_0 K _ _  h)
theorem d_Plain_hasTower_0 : decode me_Plain_hasTower.2.1 0 = .ok (.iconst 0, 1) := by decide +kernel
theorem d_Plain_hasTower_1 : decode me_Plain_hasTower.2.1 1 = .ok (.istore_n 2, 1) := by decide +kernel
theorem d_Plain_hasTower_2 : decode me_Plain_hasTower.2.1 2 = .ok (.iload_n 2, 1) := by decide +kernel
theorem d_Plain_hasTower_3 : decode me_Plain_hasTower.2.1 3 = .ok (.aload_n 0, 1) := by decide +kernel
theorem d_Plain_hasTower_4 : decode me_Plain_hasTower.2.1 4 = .ok (.getfield 27, 3) := by decide +kernel
theorem d_Plain_hasTower_7 : decode me_Plain_hasTower.2.1 7 = .ok (.if_icmp .ge 20, 3) := by decide +kernel
theorem d_Plain_hasTower_10 : decode me_Plain_hasTower.2.1 10 = .ok (.aload_n 0, 1) := by decide +kernel
theorem d_Plain_hasTower_11 : decode me_Plain_hasTower.2.1 11 = .ok (.iload_n 2, 1) := by decide +kernel
theorem d_Plain_hasTower_12 : decode me_Plain_hasTower.2.1 12 = .ok (.invokevirtual 97, 3) := by decide +kernel
theorem d_Plain_hasTower_15 : decode me_Plain_hasTower.2.1 15 = .ok (.iload_n 1, 1) := by decide +kernel
theorem d_Plain_hasTower_16 : decode me_Plain_hasTower.2.1 16 = .ok (.if_icmp .ne 5, 3) := by decide +kernel
theorem d_Plain_hasTower_19 : decode me_Plain_hasTower.2.1 19 = .ok (.iconst 1, 1) := by decide +kernel
theorem d_Plain_hasTower_20 : decode me_Plain_hasTower.2.1 20 = .ok (.ireturn, 1) := by decide +kernel
theorem d_Plain_hasTower_21 : decode me_Plain_hasTower.2.1 21 = .ok (.iinc 2 1, 3) := by decide +kernel
theorem d_Plain_hasTower_24 : decode me_Plain_hasTower.2.1 24 = .ok (.goto (-22), 3) := by decide +kernel
theorem d_Plain_hasTower_27 : decode me_Plain_hasTower.2.1 27 = .ok (.iconst 0, 1) := by decide +kernel
theorem d_Plain_hasTower_28 : decode me_Plain_hasTower.2.1 28 = .ok (.ireturn, 1) := by decide +kernel
noncomputable def f_Plain_hasTower_2  : Nat → Int32 → Int32 → gk_M → Option (Int32 × gk_M)
  | 0, _, _, _ => none
  | n + 1, a1, a2, m0 =>
    if (m0.1 7 5) ≤ a2 then
      some (0, m0)
    else
      gk_bi (f_Plain_pointOf a2 m0) fun v2 m1 =>
      if ¬ v2 = a1 then
        f_Plain_hasTower_2 n a1 (a2 + 1) m1
      else
        some (1, m1)

theorem s_Plain_hasTower_2 {z : gk_Z} (K : gk_F tx z me_Plain_hasTower 2) {r : Int32} {mem2 : gk_M} : ∀ n a1 a2 m0, f_Plain_hasTower_2 n a1 a2 m0 = some (r, mem2) → gk_G tx z me_Plain_hasTower (gk_R tx z (some (.int r)) mem2) m0 [(0, .ref 7), (1, .int a1), (2, .int a2)] [] 2 := by
  intro n
  induction n with
  | zero => intro a1 a2 m0  h; exact nomatch (show (none : Option _) = some _ from h)
  | succ n ih =>
    intro a1 a2 m0  h
    unfold f_Plain_hasTower_2 at h
    refine gk_iload_n (pc := 2) K d_Plain_hasTower_2 rfl ?_
    refine gk_aload_n (pc := 3) K d_Plain_hasTower_3 rfl ?_
    refine gk_get (pc := 4) K d_Plain_hasTower_4 fl_Plain_27 tx_7 rfl rfl ?_
    refine gk_ic_ge (tgt := 27) (pc := 7) K d_Plain_hasTower_7 (by decide) h (fun h => ?_) (fun h => ?_)
    · refine gk_iconst (pc := 27) K d_Plain_hasTower_27 kc_0 ?_
      exact gk_zretc (pc := 28) K d_Plain_hasTower_28 rfl (Or.inl rfl) h
    · refine gk_aload_n (pc := 10) K d_Plain_hasTower_10 rfl ?_
      refine gk_iload_n (pc := 11) K d_Plain_hasTower_11 rfl ?_
      obtain ⟨v2, m1, em1, h⟩ := gk_bi_some h
      refine gk_cVi (As := [.int a2]) (pc := 12) K d_Plain_hasTower_12 mv_Plain_97 mc_Plain_pointOf rfl tx_7 cl_ok2.1 (s_Plain_pointOf (gk_FD K)  em1) (by decide) rfl (Nat.le_of_ble_eq_true rfl) ?_
      refine gk_iload_n (pc := 15) K d_Plain_hasTower_15 rfl ?_
      refine gk_ic_ne (tgt := 21) (pc := 16) K d_Plain_hasTower_16 (by decide) h (fun h => ?_) (fun h => ?_)
      · refine gk_iinc2 (lv2 := [(2, .int (a2 + 1)), (0, .ref 7), (1, .int a1)]) (pc := 21) K d_Plain_hasTower_21 rfl kc_1 (by decide) rfl ?_
        refine gk_goto (tgt := 2) (pc := 24) K d_Plain_hasTower_24 (by decide) ?_
        exact gk_sub [1, 2, 0] rfl (ih _ _ _  h)
      · refine gk_iconst (pc := 19) K d_Plain_hasTower_19 kc_1 ?_
        exact gk_zretc (pc := 20) K d_Plain_hasTower_20 rfl (Or.inr rfl) h
noncomputable def f_Plain_hasTower  (a1 : Int32) (m0 : gk_M) : Option (Int32 × gk_M) :=
  f_Plain_hasTower_2 gk_fv a1 0 m0

theorem s_Plain_hasTower_0 {z : gk_Z} (K : gk_F tx z me_Plain_hasTower 2) {r : Int32} {mem2 : gk_M} : ∀ a1 m0, f_Plain_hasTower a1 m0 = some (r, mem2) → gk_G tx z me_Plain_hasTower (gk_R tx z (some (.int r)) mem2) m0 [(0, .ref 7), (1, .int a1)] [] 0 := by
  intro a1 m0  h
  unfold f_Plain_hasTower at h
  refine gk_iconst (pc := 0) K d_Plain_hasTower_0 kc_0 ?_
  refine gk_istore_n (lv2 := [(2, .int 0), (0, .ref 7), (1, .int a1)]) (pc := 1) K d_Plain_hasTower_1 (by decide) rfl ?_
  exact gk_sub [1, 2, 0] rfl (s_Plain_hasTower_2 K _ _ _ _  h)
theorem s_Plain_hasTower {l : Launch} {u : gk_U} (hD : gk_D tx u) {a1 : Int32} {m0 mem2 : gk_M} {r : Int32} (h : f_Plain_hasTower a1 m0 = some (r, mem2)) : gk_C tx l u me_Plain_hasTower 2 [.ref 7, .int a1] m0 (some (.int r)) mem2 :=
  gk_enter hD mc_Plain_hasTower (Nat.le_of_ble_eq_true rfl) rfl (fun z _ _ K => s_Plain_hasTower_0 K _ _  h)
theorem d_Plain_place_0 : decode me_Plain_place.2.1 0 = .ok (.aload_n 0, 1) := by decide +kernel
theorem d_Plain_place_1 : decode me_Plain_place.2.1 1 = .ok (.getfield 11, 3) := by decide +kernel
theorem d_Plain_place_4 : decode me_Plain_place.2.1 4 = .ok (.iload_n 1, 1) := by decide +kernel
theorem d_Plain_place_5 : decode me_Plain_place.2.1 5 = .ok (.iload_n 2, 1) := by decide +kernel
theorem d_Plain_place_6 : decode me_Plain_place.2.1 6 = .ok (.bipush 30, 2) := by decide +kernel
theorem d_Plain_place_8 : decode me_Plain_place.2.1 8 = .ok (.irem, 1) := by decide +kernel
theorem d_Plain_place_9 : decode me_Plain_place.2.1 9 = .ok (.iastore, 1) := by decide +kernel
theorem d_Plain_place_10 : decode me_Plain_place.2.1 10 = .ok (.aload_n 0, 1) := by decide +kernel
theorem d_Plain_place_11 : decode me_Plain_place.2.1 11 = .ok (.getfield 15, 3) := by decide +kernel
theorem d_Plain_place_14 : decode me_Plain_place.2.1 14 = .ok (.iload_n 1, 1) := by decide +kernel
theorem d_Plain_place_15 : decode me_Plain_place.2.1 15 = .ok (.iload_n 2, 1) := by decide +kernel
theorem d_Plain_place_16 : decode me_Plain_place.2.1 16 = .ok (.bipush 30, 2) := by decide +kernel
theorem d_Plain_place_18 : decode me_Plain_place.2.1 18 = .ok (.idiv, 1) := by decide +kernel
theorem d_Plain_place_19 : decode me_Plain_place.2.1 19 = .ok (.iastore, 1) := by decide +kernel
theorem d_Plain_place_20 : decode me_Plain_place.2.1 20 = .ok (.return_, 1) := by decide +kernel
noncomputable def f_Plain_place  (a1 : Int32) (a2 : Int32) (m0 : gk_M) : Option (Unit × gk_M) :=
  gk_si m0 8 12 a1 (gk_rem a2 30) fun m1 =>
  gk_si m1 9 12 a1 (a2 / 30) fun m2 =>
  some ((), m2)

theorem s_Plain_place_0 {z : gk_Z} (K : gk_F tx z me_Plain_place 1) {r : Unit} {mem2 : gk_M} : ∀ a1 a2 m0, f_Plain_place a1 a2 m0 = some (r, mem2) → gk_G tx z me_Plain_place (gk_R tx z none mem2) m0 [(0, .ref 7), (1, .int a1), (2, .int a2)] [] 0 := by
  intro a1 a2 m0  h
  unfold f_Plain_place at h
  refine gk_aload_n (pc := 0) K d_Plain_place_0 rfl ?_
  refine gk_get (pc := 1) K d_Plain_place_1 fl_Plain_11 tx_7 rfl rfl ?_
  refine gk_iload_n (pc := 4) K d_Plain_place_4 rfl ?_
  refine gk_iload_n (pc := 5) K d_Plain_place_5 rfl ?_
  refine gk_bipush (pc := 6) K d_Plain_place_6 kb_30 ?_
  refine gk_iremc2 (pc := 8) K d_Plain_place_8 (by decide) ?_
  refine gk_iast (pc := 9) K d_Plain_place_9 tx_8 h (fun m1 h => ?_)
  refine gk_aload_n (pc := 10) K d_Plain_place_10 rfl ?_
  refine gk_get (pc := 11) K d_Plain_place_11 fl_Plain_15 tx_7 rfl rfl ?_
  refine gk_iload_n (pc := 14) K d_Plain_place_14 rfl ?_
  refine gk_iload_n (pc := 15) K d_Plain_place_15 rfl ?_
  refine gk_bipush (pc := 16) K d_Plain_place_16 kb_30 ?_
  refine gk_idivc2 (pc := 18) K d_Plain_place_18 (by decide) ?_
  refine gk_iast (pc := 19) K d_Plain_place_19 tx_9 h (fun m2 h => ?_)
  exact gk_vret (pc := 20) K d_Plain_place_20 rfl h
theorem s_Plain_place {l : Launch} {u : gk_U} (hD : gk_D tx u) {a1 : Int32} {a2 : Int32} {m0 mem2 : gk_M} {r : Unit} (h : f_Plain_place a1 a2 m0 = some (r, mem2)) : gk_C tx l u me_Plain_place 1 [.ref 7, .int a1, .int a2] m0 none mem2 :=
  gk_enter hD mc_Plain_place (Nat.le_of_ble_eq_true rfl) rfl (fun z _ _ K => s_Plain_place_0 K _ _ _  h)
theorem d_Arrays_fillI_0 : decode me_Arrays_fillI.2.1 0 = .ok (.iconst 0, 1) := by decide +kernel
theorem d_Arrays_fillI_1 : decode me_Arrays_fillI.2.1 1 = .ok (.istore_n 2, 1) := by decide +kernel
theorem d_Arrays_fillI_2 : decode me_Arrays_fillI.2.1 2 = .ok (.aload_n 0, 1) := by decide +kernel
theorem d_Arrays_fillI_3 : decode me_Arrays_fillI.2.1 3 = .ok (.arraylength, 1) := by decide +kernel
theorem d_Arrays_fillI_4 : decode me_Arrays_fillI.2.1 4 = .ok (.istore_n 3, 1) := by decide +kernel
theorem d_Arrays_fillI_5 : decode me_Arrays_fillI.2.1 5 = .ok (.iload_n 2, 1) := by decide +kernel
theorem d_Arrays_fillI_6 : decode me_Arrays_fillI.2.1 6 = .ok (.iload_n 3, 1) := by decide +kernel
theorem d_Arrays_fillI_7 : decode me_Arrays_fillI.2.1 7 = .ok (.if_icmp .ge 13, 3) := by decide +kernel
theorem d_Arrays_fillI_10 : decode me_Arrays_fillI.2.1 10 = .ok (.aload_n 0, 1) := by decide +kernel
theorem d_Arrays_fillI_11 : decode me_Arrays_fillI.2.1 11 = .ok (.iload_n 2, 1) := by decide +kernel
theorem d_Arrays_fillI_12 : decode me_Arrays_fillI.2.1 12 = .ok (.iload_n 1, 1) := by decide +kernel
theorem d_Arrays_fillI_13 : decode me_Arrays_fillI.2.1 13 = .ok (.iastore, 1) := by decide +kernel
theorem d_Arrays_fillI_14 : decode me_Arrays_fillI.2.1 14 = .ok (.iinc 2 1, 3) := by decide +kernel
theorem d_Arrays_fillI_17 : decode me_Arrays_fillI.2.1 17 = .ok (.goto (-12), 3) := by decide +kernel
theorem d_Arrays_fillI_20 : decode me_Arrays_fillI.2.1 20 = .ok (.return_, 1) := by decide +kernel
noncomputable def f_Arrays_fillI_5 (k0 Lk0 : Nat) : Nat → Int32 → Int32 → Int32 → gk_M → Option (Unit × gk_M)
  | 0, _, _, _, _ => none
  | n + 1, a1, a2, a3, m0 =>
    if a3 ≤ a2 then
      some ((), m0)
    else
      gk_si m0 k0 Lk0 a2 a1 fun m1 =>
      f_Arrays_fillI_5 k0 Lk0 n a1 (a2 + 1) a3 m1

theorem s_Arrays_fillI_5 {z : gk_Z} (K : gk_F tx z me_Arrays_fillI 1) {r : Unit} {mem2 : gk_M} {k0 Lk0 bk0 : Nat} (hk0 : tx.1[k0]? = some (.inl (0, Lk0, bk0))) : ∀ n a1 a2 a3 m0, f_Arrays_fillI_5 k0 Lk0 n a1 a2 a3 m0 = some (r, mem2) → gk_G tx z me_Arrays_fillI (gk_R tx z none mem2) m0 [(0, .ref k0), (1, .int a1), (2, .int a2), (3, .int a3)] [] 5 := by
  intro n
  induction n with
  | zero => intro a1 a2 a3 m0  h; exact nomatch (show (none : Option _) = some _ from h)
  | succ n ih =>
    intro a1 a2 a3 m0  h
    unfold f_Arrays_fillI_5 at h
    refine gk_iload_n (pc := 5) K d_Arrays_fillI_5 rfl ?_
    refine gk_iload_n (pc := 6) K d_Arrays_fillI_6 rfl ?_
    refine gk_ic_ge (tgt := 20) (pc := 7) K d_Arrays_fillI_7 (by decide) h (fun h => ?_) (fun h => ?_)
    · exact gk_vret (pc := 20) K d_Arrays_fillI_20 rfl h
    · refine gk_aload_n (pc := 10) K d_Arrays_fillI_10 rfl ?_
      refine gk_iload_n (pc := 11) K d_Arrays_fillI_11 rfl ?_
      refine gk_iload_n (pc := 12) K d_Arrays_fillI_12 rfl ?_
      refine gk_iast (pc := 13) K d_Arrays_fillI_13 hk0 h (fun m1 h => ?_)
      refine gk_iinc2 (lv2 := [(2, .int (a2 + 1)), (0, .ref k0), (1, .int a1), (3, .int a3)]) (pc := 14) K d_Arrays_fillI_14 rfl kc_1 (by decide) rfl ?_
      refine gk_goto (tgt := 5) (pc := 17) K d_Arrays_fillI_17 (by decide) ?_
      exact gk_sub [1, 2, 0, 3] rfl (ih _ _ _ _  h)
noncomputable def f_Arrays_fillI (k0 Lk0 : Nat) (a1 : Int32) (m0 : gk_M) : Option (Unit × gk_M) :=
  gk_let (Int32.ofNat Lk0) fun v1 =>
  f_Arrays_fillI_5 k0 Lk0 gk_fv a1 0 v1 m0

theorem s_Arrays_fillI_0 {z : gk_Z} (K : gk_F tx z me_Arrays_fillI 1) {r : Unit} {mem2 : gk_M} {k0 Lk0 bk0 : Nat} (hk0 : tx.1[k0]? = some (.inl (0, Lk0, bk0))) : ∀ a1 m0, f_Arrays_fillI k0 Lk0 a1 m0 = some (r, mem2) → gk_G tx z me_Arrays_fillI (gk_R tx z none mem2) m0 [(0, .ref k0), (1, .int a1)] [] 0 := by
  intro a1 m0  h
  unfold f_Arrays_fillI at h
  refine gk_iconst (pc := 0) K d_Arrays_fillI_0 kc_0 ?_
  refine gk_istore_n (lv2 := [(2, .int 0), (0, .ref k0), (1, .int a1)]) (pc := 1) K d_Arrays_fillI_1 (by decide) rfl ?_
  refine gk_aload_n (pc := 2) K d_Arrays_fillI_2 rfl ?_
  refine gk_alen (pc := 3) K d_Arrays_fillI_3 hk0 rfl ?_
  refine gk_topi h (fun v1 h => ?_)
  refine gk_istore_n (lv2 := [(3, .int v1), (2, .int 0), (0, .ref k0), (1, .int a1)]) (pc := 4) K d_Arrays_fillI_4 (by decide) rfl ?_
  exact gk_sub [2, 3, 1, 0] rfl (s_Arrays_fillI_5 K hk0 _ _ _ _ _  h)
theorem s_Arrays_fillI {l : Launch} {u : gk_U} (hD : gk_D tx u) {k0 Lk0 bk0 : Nat} (hk0 : tx.1[k0]? = some (.inl (0, Lk0, bk0))) {a1 : Int32} {m0 mem2 : gk_M} {r : Unit} (h : f_Arrays_fillI k0 Lk0 a1 m0 = some (r, mem2)) : gk_C tx l u me_Arrays_fillI 1 [.ref k0, .int a1] m0 none mem2 :=
  gk_enter hD mc_Arrays_fillI (Nat.le_of_ble_eq_true rfl) rfl (fun z _ _ K => s_Arrays_fillI_0 K hk0 _ _  h)
theorem d_Plain_forgetVerdicts_0 : decode me_Plain_forgetVerdicts.2.1 0 = .ok (.aload_n 0, 1) := by decide +kernel
theorem d_Plain_forgetVerdicts_1 : decode me_Plain_forgetVerdicts.2.1 1 = .ok (.getfield 60, 3) := by decide +kernel
theorem d_Plain_forgetVerdicts_4 : decode me_Plain_forgetVerdicts.2.1 4 = .ok (.iconst 0, 1) := by decide +kernel
theorem d_Plain_forgetVerdicts_5 : decode me_Plain_forgetVerdicts.2.1 5 = .ok (.invokestatic 91, 3) := by decide +kernel
theorem d_Plain_forgetVerdicts_8 : decode me_Plain_forgetVerdicts.2.1 8 = .ok (.return_, 1) := by decide +kernel
noncomputable def f_Plain_forgetVerdicts   (m0 : gk_M) : Option (Unit × gk_M) :=
  gk_bv (f_Arrays_fillI 20 720 0 m0) fun m1 =>
  some ((), m1)

theorem s_Plain_forgetVerdicts_0 {z : gk_Z} (K : gk_F tx z me_Plain_forgetVerdicts 2) {r : Unit} {mem2 : gk_M} : ∀  m0, f_Plain_forgetVerdicts  m0 = some (r, mem2) → gk_G tx z me_Plain_forgetVerdicts (gk_R tx z none mem2) m0 [(0, .ref 7)] [] 0 := by
  intro  m0  h
  unfold f_Plain_forgetVerdicts at h
  refine gk_aload_n (pc := 0) K d_Plain_forgetVerdicts_0 rfl ?_
  refine gk_get (pc := 1) K d_Plain_forgetVerdicts_1 fl_Plain_60 tx_7 rfl rfl ?_
  refine gk_iconst (pc := 4) K d_Plain_forgetVerdicts_4 kc_0 ?_
  obtain ⟨m1, em1, h⟩ := gk_bv_some h
  refine gk_cSv (As := [.ref 20, .int 0]) (pc := 5) K d_Plain_forgetVerdicts_5 ms_Plain_91 mc_Arrays_fillI rfl (s_Arrays_fillI (gk_FD K) tx_20 em1) (by decide) rfl (Nat.le_of_ble_eq_true rfl) ?_
  exact gk_vret (pc := 8) K d_Plain_forgetVerdicts_8 rfl h
theorem s_Plain_forgetVerdicts {l : Launch} {u : gk_U} (hD : gk_D tx u) {m0 mem2 : gk_M} {r : Unit} (h : f_Plain_forgetVerdicts  m0 = some (r, mem2)) : gk_C tx l u me_Plain_forgetVerdicts 2 [.ref 7] m0 none mem2 :=
  gk_enter hD mc_Plain_forgetVerdicts (Nat.le_of_ble_eq_true rfl) rfl (fun z _ _ K => s_Plain_forgetVerdicts_0 K  _  h)
theorem d_Plain_think_0 : decode me_Plain_think.2.1 0 = .ok (.aload_n 0, 1) := by decide +kernel
theorem d_Plain_think_1 : decode me_Plain_think.2.1 1 = .ok (.getfield 18, 3) := by decide +kernel
theorem d_Plain_think_4 : decode me_Plain_think.2.1 4 = .ok (.iload_n 1, 1) := by decide +kernel
theorem d_Plain_think_5 : decode me_Plain_think.2.1 5 = .ok (.iload_n 2, 1) := by decide +kernel
theorem d_Plain_think_6 : decode me_Plain_think.2.1 6 = .ok (.iastore, 1) := by decide +kernel
theorem d_Plain_think_7 : decode me_Plain_think.2.1 7 = .ok (.aload_n 0, 1) := by decide +kernel
theorem d_Plain_think_8 : decode me_Plain_think.2.1 8 = .ok (.getfield 21, 3) := by decide +kernel
theorem d_Plain_think_11 : decode me_Plain_think.2.1 11 = .ok (.iload_n 1, 1) := by decide +kernel
theorem d_Plain_think_12 : decode me_Plain_think.2.1 12 = .ok (.iconst 0, 1) := by decide +kernel
theorem d_Plain_think_13 : decode me_Plain_think.2.1 13 = .ok (.iastore, 1) := by decide +kernel
theorem d_Plain_think_14 : decode me_Plain_think.2.1 14 = .ok (.aload_n 0, 1) := by decide +kernel
theorem d_Plain_think_15 : decode me_Plain_think.2.1 15 = .ok (.getfield 24, 3) := by decide +kernel
theorem d_Plain_think_18 : decode me_Plain_think.2.1 18 = .ok (.iload_n 1, 1) := by decide +kernel
theorem d_Plain_think_19 : decode me_Plain_think.2.1 19 = .ok (.iconst 0, 1) := by decide +kernel
theorem d_Plain_think_20 : decode me_Plain_think.2.1 20 = .ok (.iastore, 1) := by decide +kernel
theorem d_Plain_think_21 : decode me_Plain_think.2.1 21 = .ok (.aload_n 0, 1) := by decide +kernel
theorem d_Plain_think_22 : decode me_Plain_think.2.1 22 = .ok (.invokevirtual 88, 3) := by decide +kernel
theorem d_Plain_think_25 : decode me_Plain_think.2.1 25 = .ok (.return_, 1) := by decide +kernel
noncomputable def f_Plain_think  (a1 : Int32) (a2 : Int32) (m0 : gk_M) : Option (Unit × gk_M) :=
  gk_si m0 10 12 a1 a2 fun m1 =>
  gk_si m1 11 12 a1 0 fun m2 =>
  gk_si m2 12 12 a1 0 fun m3 =>
  gk_bv (f_Plain_forgetVerdicts  m3) fun m4 =>
  some ((), m4)

theorem s_Plain_think_0 {z : gk_Z} (K : gk_F tx z me_Plain_think 3) {r : Unit} {mem2 : gk_M} : ∀ a1 a2 m0, f_Plain_think a1 a2 m0 = some (r, mem2) → gk_G tx z me_Plain_think (gk_R tx z none mem2) m0 [(0, .ref 7), (1, .int a1), (2, .int a2)] [] 0 := by
  intro a1 a2 m0  h
  unfold f_Plain_think at h
  refine gk_aload_n (pc := 0) K d_Plain_think_0 rfl ?_
  refine gk_get (pc := 1) K d_Plain_think_1 fl_Plain_18 tx_7 rfl rfl ?_
  refine gk_iload_n (pc := 4) K d_Plain_think_4 rfl ?_
  refine gk_iload_n (pc := 5) K d_Plain_think_5 rfl ?_
  refine gk_iast (pc := 6) K d_Plain_think_6 tx_10 h (fun m1 h => ?_)
  refine gk_aload_n (pc := 7) K d_Plain_think_7 rfl ?_
  refine gk_get (pc := 8) K d_Plain_think_8 fl_Plain_21 tx_7 rfl rfl ?_
  refine gk_iload_n (pc := 11) K d_Plain_think_11 rfl ?_
  refine gk_iconst (pc := 12) K d_Plain_think_12 kc_0 ?_
  refine gk_iast (pc := 13) K d_Plain_think_13 tx_11 h (fun m2 h => ?_)
  refine gk_aload_n (pc := 14) K d_Plain_think_14 rfl ?_
  refine gk_get (pc := 15) K d_Plain_think_15 fl_Plain_24 tx_7 rfl rfl ?_
  refine gk_iload_n (pc := 18) K d_Plain_think_18 rfl ?_
  refine gk_iconst (pc := 19) K d_Plain_think_19 kc_0 ?_
  refine gk_iast (pc := 20) K d_Plain_think_20 tx_12 h (fun m3 h => ?_)
  refine gk_aload_n (pc := 21) K d_Plain_think_21 rfl ?_
  obtain ⟨m4, em4, h⟩ := gk_bv_some h
  refine gk_cVv (As := []) (pc := 22) K d_Plain_think_22 mv_Plain_88 mc_Plain_forgetVerdicts rfl tx_7 cl_ok2.1 (s_Plain_forgetVerdicts (gk_FD K)  em4) (by decide) rfl (Nat.le_of_ble_eq_true rfl) ?_
  exact gk_vret (pc := 25) K d_Plain_think_25 rfl h
theorem s_Plain_think {l : Launch} {u : gk_U} (hD : gk_D tx u) {a1 : Int32} {a2 : Int32} {m0 mem2 : gk_M} {r : Unit} (h : f_Plain_think a1 a2 m0 = some (r, mem2)) : gk_C tx l u me_Plain_think 3 [.ref 7, .int a1, .int a2] m0 none mem2 :=
  gk_enter hD mc_Plain_think (Nat.le_of_ble_eq_true rfl) rfl (fun z _ _ K => s_Plain_think_0 K _ _ _  h)
theorem d_Plain_build_0 : decode me_Plain_build.2.1 0 = .ok (.iload_n 1, 1) := by decide +kernel
theorem d_Plain_build_1 : decode me_Plain_build.2.1 1 = .ok (.invokestatic 67, 3) := by decide +kernel
theorem d_Plain_build_4 : decode me_Plain_build.2.1 4 = .ok (.ifCond .eq 34, 3) := by decide +kernel
theorem d_Plain_build_7 : decode me_Plain_build.2.1 7 = .ok (.iload_n 2, 1) := by decide +kernel
theorem d_Plain_build_8 : decode me_Plain_build.2.1 8 = .ok (.invokestatic 71, 3) := by decide +kernel
theorem d_Plain_build_11 : decode me_Plain_build.2.1 11 = .ok (.ifCond .eq 27, 3) := by decide +kernel
theorem d_Plain_build_14 : decode me_Plain_build.2.1 14 = .ok (.iload_n 3, 1) := by decide +kernel
theorem d_Plain_build_15 : decode me_Plain_build.2.1 15 = .ok (.ifCond .lt 23, 3) := by decide +kernel
theorem d_Plain_build_18 : decode me_Plain_build.2.1 18 = .ok (.iload_n 3, 1) := by decide +kernel
theorem d_Plain_build_19 : decode me_Plain_build.2.1 19 = .ok (.aload_n 0, 1) := by decide +kernel
theorem d_Plain_build_20 : decode me_Plain_build.2.1 20 = .ok (.iconst 1, 1) := by decide +kernel
theorem d_Plain_build_21 : decode me_Plain_build.2.1 21 = .ok (.invokevirtual 74, 3) := by decide +kernel
theorem d_Plain_build_24 : decode me_Plain_build.2.1 24 = .ok (.if_icmp .gt 14, 3) := by decide +kernel
theorem d_Plain_build_27 : decode me_Plain_build.2.1 27 = .ok (.iload 4, 2) := by decide +kernel
theorem d_Plain_build_29 : decode me_Plain_build.2.1 29 = .ok (.ifCond .lt 9, 3) := by decide +kernel
theorem d_Plain_build_32 : decode me_Plain_build.2.1 32 = .ok (.iload 4, 2) := by decide +kernel
theorem d_Plain_build_34 : decode me_Plain_build.2.1 34 = .ok (.iconst 1, 1) := by decide +kernel
theorem d_Plain_build_35 : decode me_Plain_build.2.1 35 = .ok (.if_icmp .le 5, 3) := by decide +kernel
theorem d_Plain_build_38 : decode me_Plain_build.2.1 38 = .ok (.iconst (-1), 1) := by decide +kernel
theorem d_Plain_build_39 : decode me_Plain_build.2.1 39 = .ok (.ireturn, 1) := by decide +kernel
theorem d_Plain_build_40 : decode me_Plain_build.2.1 40 = .ok (.aload_n 0, 1) := by decide +kernel
theorem d_Plain_build_41 : decode me_Plain_build.2.1 41 = .ok (.iload_n 1, 1) := by decide +kernel
theorem d_Plain_build_42 : decode me_Plain_build.2.1 42 = .ok (.invokevirtual 78, 3) := by decide +kernel
theorem d_Plain_build_45 : decode me_Plain_build.2.1 45 = .ok (.ifCond .eq 5, 3) := by decide +kernel
theorem d_Plain_build_48 : decode me_Plain_build.2.1 48 = .ok (.iconst (-1), 1) := by decide +kernel
theorem d_Plain_build_49 : decode me_Plain_build.2.1 49 = .ok (.ireturn, 1) := by decide +kernel
theorem d_Plain_build_50 : decode me_Plain_build.2.1 50 = .ok (.aload_n 0, 1) := by decide +kernel
theorem d_Plain_build_51 : decode me_Plain_build.2.1 51 = .ok (.getfield 27, 3) := by decide +kernel
theorem d_Plain_build_54 : decode me_Plain_build.2.1 54 = .ok (.bipush 10, 2) := by decide +kernel
theorem d_Plain_build_56 : decode me_Plain_build.2.1 56 = .ok (.if_icmp .lt 6, 3) := by decide +kernel
theorem d_Plain_build_59 : decode me_Plain_build.2.1 59 = .ok (.bipush (-3), 2) := by decide +kernel
theorem d_Plain_build_61 : decode me_Plain_build.2.1 61 = .ok (.ireturn, 1) := by decide +kernel
theorem d_Plain_build_62 : decode me_Plain_build.2.1 62 = .ok (.aload_n 0, 1) := by decide +kernel
theorem d_Plain_build_63 : decode me_Plain_build.2.1 63 = .ok (.aload_n 0, 1) := by decide +kernel
theorem d_Plain_build_64 : decode me_Plain_build.2.1 64 = .ok (.getfield 27, 3) := by decide +kernel
theorem d_Plain_build_67 : decode me_Plain_build.2.1 67 = .ok (.iload_n 1, 1) := by decide +kernel
theorem d_Plain_build_68 : decode me_Plain_build.2.1 68 = .ok (.invokevirtual 81, 3) := by decide +kernel
theorem d_Plain_build_71 : decode me_Plain_build.2.1 71 = .ok (.aload_n 0, 1) := by decide +kernel
theorem d_Plain_build_72 : decode me_Plain_build.2.1 72 = .ok (.aload_n 0, 1) := by decide +kernel
theorem d_Plain_build_73 : decode me_Plain_build.2.1 73 = .ok (.getfield 27, 3) := by decide +kernel
theorem d_Plain_build_76 : decode me_Plain_build.2.1 76 = .ok (.iload_n 2, 1) := by decide +kernel
theorem d_Plain_build_77 : decode me_Plain_build.2.1 77 = .ok (.invokevirtual 85, 3) := by decide +kernel
theorem d_Plain_build_80 : decode me_Plain_build.2.1 80 = .ok (.aload_n 0, 1) := by decide +kernel
theorem d_Plain_build_81 : decode me_Plain_build.2.1 81 = .ok (.getfield 21, 3) := by decide +kernel
theorem d_Plain_build_84 : decode me_Plain_build.2.1 84 = .ok (.aload_n 0, 1) := by decide +kernel
theorem d_Plain_build_85 : decode me_Plain_build.2.1 85 = .ok (.getfield 27, 3) := by decide +kernel
theorem d_Plain_build_88 : decode me_Plain_build.2.1 88 = .ok (.iload_n 3, 1) := by decide +kernel
theorem d_Plain_build_89 : decode me_Plain_build.2.1 89 = .ok (.iastore, 1) := by decide +kernel
theorem d_Plain_build_90 : decode me_Plain_build.2.1 90 = .ok (.aload_n 0, 1) := by decide +kernel
theorem d_Plain_build_91 : decode me_Plain_build.2.1 91 = .ok (.getfield 24, 3) := by decide +kernel
theorem d_Plain_build_94 : decode me_Plain_build.2.1 94 = .ok (.aload_n 0, 1) := by decide +kernel
theorem d_Plain_build_95 : decode me_Plain_build.2.1 95 = .ok (.getfield 27, 3) := by decide +kernel
theorem d_Plain_build_98 : decode me_Plain_build.2.1 98 = .ok (.iload 4, 2) := by decide +kernel
theorem d_Plain_build_100 : decode me_Plain_build.2.1 100 = .ok (.iastore, 1) := by decide +kernel
theorem d_Plain_build_101 : decode me_Plain_build.2.1 101 = .ok (.aload_n 0, 1) := by decide +kernel
theorem d_Plain_build_102 : decode me_Plain_build.2.1 102 = .ok (.dup, 1) := by decide +kernel
theorem d_Plain_build_103 : decode me_Plain_build.2.1 103 = .ok (.getfield 27, 3) := by decide +kernel
theorem d_Plain_build_106 : decode me_Plain_build.2.1 106 = .ok (.iconst 1, 1) := by decide +kernel
theorem d_Plain_build_107 : decode me_Plain_build.2.1 107 = .ok (.iadd, 1) := by decide +kernel
theorem d_Plain_build_108 : decode me_Plain_build.2.1 108 = .ok (.putfield 27, 3) := by decide +kernel
theorem d_Plain_build_111 : decode me_Plain_build.2.1 111 = .ok (.aload_n 0, 1) := by decide +kernel
theorem d_Plain_build_112 : decode me_Plain_build.2.1 112 = .ok (.getfield 27, 3) := by decide +kernel
theorem d_Plain_build_115 : decode me_Plain_build.2.1 115 = .ok (.iconst 1, 1) := by decide +kernel
theorem d_Plain_build_116 : decode me_Plain_build.2.1 116 = .ok (.isub, 1) := by decide +kernel
theorem d_Plain_build_117 : decode me_Plain_build.2.1 117 = .ok (.ireturn, 1) := by decide +kernel
noncomputable def f_Plain_build  (a1 : Int32) (a2 : Int32) (a3 : Int32) (a4 : Int32) (m0 : gk_M) : Option (Int32 × gk_M) :=
  gk_bi (f_X_isPoint a1 m0) fun v2 m1 =>
  if v2 = 0 then
    some ((-1), m1)
  else
    gk_bi (f_X_isHeight a2 m1) fun v4 m3 =>
    if v4 = 0 then
      some ((-1), m3)
    else
      if a3 < 0 then
        some ((-1), m3)
      else
        gk_bi (f_Plain_most 1 m3) fun v6 m5 =>
        if v6 < a3 then
          some ((-1), m5)
        else
          if a4 < 0 then
            some ((-1), m5)
          else
            if a4 ≤ 1 then
              gk_bi (f_Plain_hasTower a1 m5) fun v8 m7 =>
              if v8 = 0 then
                if (m7.1 7 5) < 10 then
                  gk_bv (f_Plain_place (m7.1 7 5) a1 m7) fun m9 =>
                  gk_bv (f_Plain_think (m9.1 7 5) a2 m9) fun m10 =>
                  gk_si m10 11 12 (m10.1 7 5) a3 fun m11 =>
                  gk_si m11 12 12 (m11.1 7 5) a4 fun m12 =>
                  gk_let (gk_mi m12 7 5 ((m12.1 7 5) + 1)) fun m13 =>
                  some (((m13.1 7 5) - 1), m13)
                else
                  some ((-3), m7)
              else
                some ((-1), m7)
            else
              some ((-1), m5)

theorem s_Plain_build_0 {z : gk_Z} (K : gk_F tx z me_Plain_build 4) {r : Int32} {mem2 : gk_M} : ∀ a1 a2 a3 a4 m0, f_Plain_build a1 a2 a3 a4 m0 = some (r, mem2) → gk_G tx z me_Plain_build (gk_R tx z (some (.int r)) mem2) m0 [(0, .ref 7), (1, .int a1), (2, .int a2), (3, .int a3), (4, .int a4)] [] 0 := by
  intro a1 a2 a3 a4 m0  h
  unfold f_Plain_build at h
  refine gk_iload_n (pc := 0) K d_Plain_build_0 rfl ?_
  obtain ⟨v2, m1, em1, h⟩ := gk_bi_some h
  refine gk_cNi (As := [.int a1]) (pc := 1) K d_Plain_build_1 mn_Plain_67 mc_X_isPoint rfl (s_X_isPoint (gk_FD K)  em1) (by decide) rfl (Nat.le_of_ble_eq_true rfl) ?_
  refine gk_if_eq (tgt := 38) (pc := 4) K d_Plain_build_4 (by decide) h (fun h => ?_) (fun h => ?_)
  · refine gk_iconst (pc := 38) K d_Plain_build_38 kc_m1 ?_
    exact gk_iret (pc := 39) K d_Plain_build_39 rfl h
  · refine gk_iload_n (pc := 7) K d_Plain_build_7 rfl ?_
    obtain ⟨v4, m3, em3, h⟩ := gk_bi_some h
    refine gk_cNi (As := [.int a2]) (pc := 8) K d_Plain_build_8 mn_Plain_71 mc_X_isHeight rfl (s_X_isHeight (gk_FD K)  em3) (by decide) rfl (Nat.le_of_ble_eq_true rfl) ?_
    refine gk_if_eq (tgt := 38) (pc := 11) K d_Plain_build_11 (by decide) h (fun h => ?_) (fun h => ?_)
    · refine gk_iconst (pc := 38) K d_Plain_build_38 kc_m1 ?_
      exact gk_iret (pc := 39) K d_Plain_build_39 rfl h
    · refine gk_iload_n (pc := 14) K d_Plain_build_14 rfl ?_
      refine gk_if_lt (tgt := 38) (pc := 15) K d_Plain_build_15 (by decide) h (fun h => ?_) (fun h => ?_)
      · refine gk_iconst (pc := 38) K d_Plain_build_38 kc_m1 ?_
        exact gk_iret (pc := 39) K d_Plain_build_39 rfl h
      · refine gk_iload_n (pc := 18) K d_Plain_build_18 rfl ?_
        refine gk_aload_n (pc := 19) K d_Plain_build_19 rfl ?_
        refine gk_iconst (pc := 20) K d_Plain_build_20 kc_1 ?_
        obtain ⟨v6, m5, em5, h⟩ := gk_bi_some h
        refine gk_cVi (As := [.int 1]) (pc := 21) K d_Plain_build_21 mv_Plain_74 mc_Plain_most rfl tx_7 cl_ok2.1 (s_Plain_most (gk_FD K)  em5) (by decide) rfl (Nat.le_of_ble_eq_true rfl) ?_
        refine gk_ic_gt (tgt := 38) (pc := 24) K d_Plain_build_24 (by decide) h (fun h => ?_) (fun h => ?_)
        · refine gk_iconst (pc := 38) K d_Plain_build_38 kc_m1 ?_
          exact gk_iret (pc := 39) K d_Plain_build_39 rfl h
        · refine gk_iload (pc := 27) K d_Plain_build_27 rfl ?_
          refine gk_if_lt (tgt := 38) (pc := 29) K d_Plain_build_29 (by decide) h (fun h => ?_) (fun h => ?_)
          · refine gk_iconst (pc := 38) K d_Plain_build_38 kc_m1 ?_
            exact gk_iret (pc := 39) K d_Plain_build_39 rfl h
          · refine gk_iload (pc := 32) K d_Plain_build_32 rfl ?_
            refine gk_iconst (pc := 34) K d_Plain_build_34 kc_1 ?_
            refine gk_ic_le (tgt := 40) (pc := 35) K d_Plain_build_35 (by decide) h (fun h => ?_) (fun h => ?_)
            · refine gk_aload_n (pc := 40) K d_Plain_build_40 rfl ?_
              refine gk_iload_n (pc := 41) K d_Plain_build_41 rfl ?_
              obtain ⟨v8, m7, em7, h⟩ := gk_bi_some h
              refine gk_cVi (As := [.int a1]) (pc := 42) K d_Plain_build_42 mv_Plain_78 mc_Plain_hasTower rfl tx_7 cl_ok2.1 (s_Plain_hasTower (gk_FD K)  em7) (by decide) rfl (Nat.le_of_ble_eq_true rfl) ?_
              refine gk_if_eq (tgt := 50) (pc := 45) K d_Plain_build_45 (by decide) h (fun h => ?_) (fun h => ?_)
              · refine gk_aload_n (pc := 50) K d_Plain_build_50 rfl ?_
                refine gk_get (pc := 51) K d_Plain_build_51 fl_Plain_27 tx_7 rfl rfl ?_
                refine gk_bipush (pc := 54) K d_Plain_build_54 kb_10 ?_
                refine gk_ic_lt (tgt := 62) (pc := 56) K d_Plain_build_56 (by decide) h (fun h => ?_) (fun h => ?_)
                · refine gk_aload_n (pc := 62) K d_Plain_build_62 rfl ?_
                  refine gk_aload_n (pc := 63) K d_Plain_build_63 rfl ?_
                  refine gk_get (pc := 64) K d_Plain_build_64 fl_Plain_27 tx_7 rfl rfl ?_
                  refine gk_iload_n (pc := 67) K d_Plain_build_67 rfl ?_
                  obtain ⟨m9, em9, h⟩ := gk_bv_some h
                  refine gk_cVv (As := [.int (m7.1 7 5), .int a1]) (pc := 68) K d_Plain_build_68 mv_Plain_81 mc_Plain_place rfl tx_7 cl_ok2.1 (s_Plain_place (gk_FD K)  em9) (by decide) rfl (Nat.le_of_ble_eq_true rfl) ?_
                  refine gk_aload_n (pc := 71) K d_Plain_build_71 rfl ?_
                  refine gk_aload_n (pc := 72) K d_Plain_build_72 rfl ?_
                  refine gk_get (pc := 73) K d_Plain_build_73 fl_Plain_27 tx_7 rfl rfl ?_
                  refine gk_iload_n (pc := 76) K d_Plain_build_76 rfl ?_
                  obtain ⟨m10, em10, h⟩ := gk_bv_some h
                  refine gk_cVv (As := [.int (m9.1 7 5), .int a2]) (pc := 77) K d_Plain_build_77 mv_Plain_85 mc_Plain_think rfl tx_7 cl_ok2.1 (s_Plain_think (gk_FD K)  em10) (by decide) rfl (Nat.le_of_ble_eq_true rfl) ?_
                  refine gk_aload_n (pc := 80) K d_Plain_build_80 rfl ?_
                  refine gk_get (pc := 81) K d_Plain_build_81 fl_Plain_21 tx_7 rfl rfl ?_
                  refine gk_aload_n (pc := 84) K d_Plain_build_84 rfl ?_
                  refine gk_get (pc := 85) K d_Plain_build_85 fl_Plain_27 tx_7 rfl rfl ?_
                  refine gk_iload_n (pc := 88) K d_Plain_build_88 rfl ?_
                  refine gk_iast (pc := 89) K d_Plain_build_89 tx_11 h (fun m11 h => ?_)
                  refine gk_aload_n (pc := 90) K d_Plain_build_90 rfl ?_
                  refine gk_get (pc := 91) K d_Plain_build_91 fl_Plain_24 tx_7 rfl rfl ?_
                  refine gk_aload_n (pc := 94) K d_Plain_build_94 rfl ?_
                  refine gk_get (pc := 95) K d_Plain_build_95 fl_Plain_27 tx_7 rfl rfl ?_
                  refine gk_iload (pc := 98) K d_Plain_build_98 rfl ?_
                  refine gk_iast (pc := 100) K d_Plain_build_100 tx_12 h (fun m12 h => ?_)
                  refine gk_aload_n (pc := 101) K d_Plain_build_101 rfl ?_
                  refine gk_dup (pc := 102) K d_Plain_build_102 rfl ?_
                  refine gk_get (pc := 103) K d_Plain_build_103 fl_Plain_27 tx_7 rfl rfl ?_
                  refine gk_iconst (pc := 106) K d_Plain_build_106 kc_1 ?_
                  refine gk_iadd (pc := 107) K d_Plain_build_107 ?_
                  refine gk_puti (pc := 108) K d_Plain_build_108 fp_Plain_27 tx_7 rfl h (fun m13 h => ?_)
                  refine gk_aload_n (pc := 111) K d_Plain_build_111 rfl ?_
                  refine gk_get (pc := 112) K d_Plain_build_112 fl_Plain_27 tx_7 rfl rfl ?_
                  refine gk_iconst (pc := 115) K d_Plain_build_115 kc_1 ?_
                  refine gk_isub (pc := 116) K d_Plain_build_116 ?_
                  exact gk_iret (pc := 117) K d_Plain_build_117 rfl h
                · refine gk_bipush (pc := 59) K d_Plain_build_59 kb_m3 ?_
                  exact gk_iret (pc := 61) K d_Plain_build_61 rfl h
              · refine gk_iconst (pc := 48) K d_Plain_build_48 kc_m1 ?_
                exact gk_iret (pc := 49) K d_Plain_build_49 rfl h
            · refine gk_iconst (pc := 38) K d_Plain_build_38 kc_m1 ?_
              exact gk_iret (pc := 39) K d_Plain_build_39 rfl h
theorem s_Plain_build {l : Launch} {u : gk_U} (hD : gk_D tx u) {a1 : Int32} {a2 : Int32} {a3 : Int32} {a4 : Int32} {m0 mem2 : gk_M} {r : Int32} (h : f_Plain_build a1 a2 a3 a4 m0 = some (r, mem2)) : gk_C tx l u me_Plain_build 4 [.ref 7, .int a1, .int a2, .int a3, .int a4] m0 (some (.int r)) mem2 :=
  gk_enter hD mc_Plain_build (Nat.le_of_ble_eq_true rfl) rfl (fun z _ _ K => s_Plain_build_0 K _ _ _ _ _  h)
theorem d_X_tower_0 : decode me_X_tower.2.1 0 = .ok (.iload_n 2, 1) := by decide +kernel
theorem d_X_tower_1 : decode me_X_tower.2.1 1 = .ok (.ifCond .ge 5, 3) := by decide +kernel
theorem d_X_tower_4 : decode me_X_tower.2.1 4 = .ok (.iconst (-1), 1) := by decide +kernel
theorem d_X_tower_5 : decode me_X_tower.2.1 5 = .ok (.ireturn, 1) := by decide +kernel
theorem d_X_tower_6 : decode me_X_tower.2.1 6 = .ok (.aload_n 0, 1) := by decide +kernel
theorem d_X_tower_7 : decode me_X_tower.2.1 7 = .ok (.getfield 28, 3) := by decide +kernel
theorem d_X_tower_10 : decode me_X_tower.2.1 10 = .ok (.iload_n 1, 1) := by decide +kernel
theorem d_X_tower_11 : decode me_X_tower.2.1 11 = .ok (.iload_n 2, 1) := by decide +kernel
theorem d_X_tower_12 : decode me_X_tower.2.1 12 = .ok (.sipush 1000, 3) := by decide +kernel
theorem d_X_tower_15 : decode me_X_tower.2.1 15 = .ok (.idiv, 1) := by decide +kernel
theorem d_X_tower_16 : decode me_X_tower.2.1 16 = .ok (.iload_n 2, 1) := by decide +kernel
theorem d_X_tower_17 : decode me_X_tower.2.1 17 = .ok (.bipush 10, 2) := by decide +kernel
theorem d_X_tower_19 : decode me_X_tower.2.1 19 = .ok (.idiv, 1) := by decide +kernel
theorem d_X_tower_20 : decode me_X_tower.2.1 20 = .ok (.bipush 100, 2) := by decide +kernel
theorem d_X_tower_22 : decode me_X_tower.2.1 22 = .ok (.irem, 1) := by decide +kernel
theorem d_X_tower_23 : decode me_X_tower.2.1 23 = .ok (.iload_n 2, 1) := by decide +kernel
theorem d_X_tower_24 : decode me_X_tower.2.1 24 = .ok (.bipush 10, 2) := by decide +kernel
theorem d_X_tower_26 : decode me_X_tower.2.1 26 = .ok (.irem, 1) := by decide +kernel
theorem d_X_tower_27 : decode me_X_tower.2.1 27 = .ok (.invokevirtual 76, 3) := by decide +kernel
theorem d_X_tower_30 : decode me_X_tower.2.1 30 = .ok (.ireturn, 1) := by decide +kernel
noncomputable def f_X_tower  (a1 : Int32) (a2 : Int32) (m0 : gk_M) : Option (Int32 × gk_M) :=
  if 0 ≤ a2 then
    gk_bi (f_Plain_build a1 (a2 / 1000) (gk_rem (a2 / 10) 100) (gk_rem a2 10) m0) fun v2 m1 =>
    some (v2, m1)
  else
    some ((-1), m0)

theorem s_X_tower_0 {z : gk_Z} (K : gk_F tx z me_X_tower 5) {r : Int32} {mem2 : gk_M} : ∀ a1 a2 m0, f_X_tower a1 a2 m0 = some (r, mem2) → gk_G tx z me_X_tower (gk_R tx z (some (.int r)) mem2) m0 [(0, .ref 0), (1, .int a1), (2, .int a2)] [] 0 := by
  intro a1 a2 m0  h
  unfold f_X_tower at h
  refine gk_iload_n (pc := 0) K d_X_tower_0 rfl ?_
  refine gk_if_ge (tgt := 6) (pc := 1) K d_X_tower_1 (by decide) h (fun h => ?_) (fun h => ?_)
  · refine gk_aload_n (pc := 6) K d_X_tower_6 rfl ?_
    refine gk_get (pc := 7) K d_X_tower_7 fl_X_28 tx_0 rfl rfl ?_
    refine gk_iload_n (pc := 10) K d_X_tower_10 rfl ?_
    refine gk_iload_n (pc := 11) K d_X_tower_11 rfl ?_
    refine gk_sipush (pc := 12) K d_X_tower_12 ks_1000 ?_
    refine gk_idivc2 (pc := 15) K d_X_tower_15 (by decide) ?_
    refine gk_iload_n (pc := 16) K d_X_tower_16 rfl ?_
    refine gk_bipush (pc := 17) K d_X_tower_17 kb_10 ?_
    refine gk_idivc2 (pc := 19) K d_X_tower_19 (by decide) ?_
    refine gk_bipush (pc := 20) K d_X_tower_20 kb_100 ?_
    refine gk_iremc2 (pc := 22) K d_X_tower_22 (by decide) ?_
    refine gk_iload_n (pc := 23) K d_X_tower_23 rfl ?_
    refine gk_bipush (pc := 24) K d_X_tower_24 kb_10 ?_
    refine gk_iremc2 (pc := 26) K d_X_tower_26 (by decide) ?_
    obtain ⟨v2, m1, em1, h⟩ := gk_bi_some h
    refine gk_cVi (As := [.int a1, .int (a2 / 1000), .int (gk_rem (a2 / 10) 100), .int (gk_rem a2 10)]) (pc := 27) K d_X_tower_27 mv_X_76 mc_Plain_build rfl tx_7 cl_ok2.1 (s_Plain_build (gk_FD K)  em1) (by decide) rfl (Nat.le_of_ble_eq_true rfl) ?_
    exact gk_iret (pc := 30) K d_X_tower_30 rfl h
  · refine gk_iconst (pc := 4) K d_X_tower_4 kc_m1 ?_
    exact gk_iret (pc := 5) K d_X_tower_5 rfl h
theorem s_X_tower {l : Launch} {u : gk_U} (hD : gk_D tx u) {a1 : Int32} {a2 : Int32} {m0 mem2 : gk_M} {r : Int32} (h : f_X_tower a1 a2 m0 = some (r, mem2)) : gk_C tx l u me_X_tower 5 [.ref 0, .int a1, .int a2] m0 (some (.int r)) mem2 :=
  gk_enter hD mc_X_tower (Nat.le_of_ble_eq_true rfl) rfl (fun z _ _ K => s_X_tower_0 K _ _ _  h)
theorem d_X_isShelf_0 : decode me_X_isShelf.2.1 0 = .ok (.iload_n 0, 1) := by decide +kernel
theorem d_X_isShelf_1 : decode me_X_isShelf.2.1 1 = .ok (.ifCond .lt 13, 3) := by decide +kernel
theorem d_X_isShelf_4 : decode me_X_isShelf.2.1 4 = .ok (.iload_n 0, 1) := by decide +kernel
theorem d_X_isShelf_5 : decode me_X_isShelf.2.1 5 = .ok (.bipush 6, 2) := by decide +kernel
theorem d_X_isShelf_7 : decode me_X_isShelf.2.1 7 = .ok (.if_icmp .ge 7, 3) := by decide +kernel
theorem d_X_isShelf_10 : decode me_X_isShelf.2.1 10 = .ok (.iconst 1, 1) := by decide +kernel
theorem d_X_isShelf_11 : decode me_X_isShelf.2.1 11 = .ok (.goto 4, 3) := by decide +kernel
theorem d_X_isShelf_14 : decode me_X_isShelf.2.1 14 = .ok (.iconst 0, 1) := by decide +kernel
theorem d_X_isShelf_15 : decode me_X_isShelf.2.1 15 = .ok (.ireturn, 1) := by decide +kernel
noncomputable def f_X_isShelf  (a0 : Int32) (m0 : gk_M) : Option (Int32 × gk_M) :=
  if a0 < 0 then
    some (0, m0)
  else
    if 6 ≤ a0 then
      some (0, m0)
    else
      some (1, m0)

theorem s_X_isShelf_0 {z : gk_Z} (K : gk_F tx z me_X_isShelf 1) {r : Int32} {mem2 : gk_M} : ∀ a0 m0, f_X_isShelf a0 m0 = some (r, mem2) → gk_G tx z me_X_isShelf (gk_R tx z (some (.int r)) mem2) m0 [(0, .int a0)] [] 0 := by
  intro a0 m0  h
  unfold f_X_isShelf at h
  refine gk_iload_n (pc := 0) K d_X_isShelf_0 rfl ?_
  refine gk_if_lt (tgt := 14) (pc := 1) K d_X_isShelf_1 (by decide) h (fun h => ?_) (fun h => ?_)
  · refine gk_iconst (pc := 14) K d_X_isShelf_14 kc_0 ?_
    exact gk_zretc (pc := 15) K d_X_isShelf_15 rfl (Or.inl rfl) h
  · refine gk_iload_n (pc := 4) K d_X_isShelf_4 rfl ?_
    refine gk_bipush (pc := 5) K d_X_isShelf_5 kb_6 ?_
    refine gk_ic_ge (tgt := 14) (pc := 7) K d_X_isShelf_7 (by decide) h (fun h => ?_) (fun h => ?_)
    · refine gk_iconst (pc := 14) K d_X_isShelf_14 kc_0 ?_
      exact gk_zretc (pc := 15) K d_X_isShelf_15 rfl (Or.inl rfl) h
    · refine gk_iconst (pc := 10) K d_X_isShelf_10 kc_1 ?_
      refine gk_goto (tgt := 15) (pc := 11) K d_X_isShelf_11 (by decide) ?_
      exact gk_zretc (pc := 15) K d_X_isShelf_15 rfl (Or.inr rfl) h
theorem s_X_isShelf {l : Launch} {u : gk_U} (hD : gk_D tx u) {a0 : Int32} {m0 mem2 : gk_M} {r : Int32} (h : f_X_isShelf a0 m0 = some (r, mem2)) : gk_C tx l u me_X_isShelf 1 [.int a0] m0 (some (.int r)) mem2 :=
  gk_enter hD mc_X_isShelf (Nat.le_of_ble_eq_true rfl) rfl (fun z _ _ K => s_X_isShelf_0 K _ _  h)
theorem d_Shelf_isEmpty_0 : decode me_Shelf_isEmpty.2.1 0 = .ok (.aload_n 0, 1) := by decide +kernel
theorem d_Shelf_isEmpty_1 : decode me_Shelf_isEmpty.2.1 1 = .ok (.getfield 13, 3) := by decide +kernel
theorem d_Shelf_isEmpty_4 : decode me_Shelf_isEmpty.2.1 4 = .ok (.iconst (-1), 1) := by decide +kernel
theorem d_Shelf_isEmpty_5 : decode me_Shelf_isEmpty.2.1 5 = .ok (.if_icmp .ne 15, 3) := by decide +kernel
theorem d_Shelf_isEmpty_8 : decode me_Shelf_isEmpty.2.1 8 = .ok (.aload_n 0, 1) := by decide +kernel
theorem d_Shelf_isEmpty_9 : decode me_Shelf_isEmpty.2.1 9 = .ok (.getfield 17, 3) := by decide +kernel
theorem d_Shelf_isEmpty_12 : decode me_Shelf_isEmpty.2.1 12 = .ok (.iconst (-1), 1) := by decide +kernel
theorem d_Shelf_isEmpty_13 : decode me_Shelf_isEmpty.2.1 13 = .ok (.if_icmp .ne 7, 3) := by decide +kernel
theorem d_Shelf_isEmpty_16 : decode me_Shelf_isEmpty.2.1 16 = .ok (.iconst 1, 1) := by decide +kernel
theorem d_Shelf_isEmpty_17 : decode me_Shelf_isEmpty.2.1 17 = .ok (.goto 4, 3) := by decide +kernel
theorem d_Shelf_isEmpty_20 : decode me_Shelf_isEmpty.2.1 20 = .ok (.iconst 0, 1) := by decide +kernel
theorem d_Shelf_isEmpty_21 : decode me_Shelf_isEmpty.2.1 21 = .ok (.ireturn, 1) := by decide +kernel
noncomputable def f_Shelf_isEmpty  (i0 : Nat) (m0 : gk_M) : Option (Int32 × gk_M) :=
  if ¬ (m0.1 (41 + i0) 1) = (-1) then
    some (0, m0)
  else
    if ¬ (m0.1 (41 + i0) 2) = (-1) then
      some (0, m0)
    else
      some (1, m0)

theorem s_Shelf_isEmpty_0 {z : gk_Z} (K : gk_F tx z me_Shelf_isEmpty 1) {r : Int32} {mem2 : gk_M} : ∀ i0 m0, i0 < 6 → f_Shelf_isEmpty i0 m0 = some (r, mem2) → gk_G tx z me_Shelf_isEmpty (gk_R tx z (some (.int r)) mem2) m0 [(0, .ref (41 + i0))] [] 0 := by
  intro i0 m0 hi0 h
  unfold f_Shelf_isEmpty at h
  refine gk_aload_n (pc := 0) K d_Shelf_isEmpty_0 rfl ?_
  refine gk_get (pc := 1) K d_Shelf_isEmpty_1 fl_Shelf_13 (tx_sh hi0) rfl rfl ?_
  refine gk_iconst (pc := 4) K d_Shelf_isEmpty_4 kc_m1 ?_
  refine gk_ic_ne (tgt := 20) (pc := 5) K d_Shelf_isEmpty_5 (by decide) h (fun h => ?_) (fun h => ?_)
  · refine gk_iconst (pc := 20) K d_Shelf_isEmpty_20 kc_0 ?_
    exact gk_zretc (pc := 21) K d_Shelf_isEmpty_21 rfl (Or.inl rfl) h
  · refine gk_aload_n (pc := 8) K d_Shelf_isEmpty_8 rfl ?_
    refine gk_get (pc := 9) K d_Shelf_isEmpty_9 fl_Shelf_17 (tx_sh hi0) rfl rfl ?_
    refine gk_iconst (pc := 12) K d_Shelf_isEmpty_12 kc_m1 ?_
    refine gk_ic_ne (tgt := 20) (pc := 13) K d_Shelf_isEmpty_13 (by decide) h (fun h => ?_) (fun h => ?_)
    · refine gk_iconst (pc := 20) K d_Shelf_isEmpty_20 kc_0 ?_
      exact gk_zretc (pc := 21) K d_Shelf_isEmpty_21 rfl (Or.inl rfl) h
    · refine gk_iconst (pc := 16) K d_Shelf_isEmpty_16 kc_1 ?_
      refine gk_goto (tgt := 21) (pc := 17) K d_Shelf_isEmpty_17 (by decide) ?_
      exact gk_zretc (pc := 21) K d_Shelf_isEmpty_21 rfl (Or.inr rfl) h
theorem s_Shelf_isEmpty {l : Launch} {u : gk_U} (hD : gk_D tx u) {i0 : Nat} (hi0 : i0 < 6) {m0 mem2 : gk_M} {r : Int32} (h : f_Shelf_isEmpty i0 m0 = some (r, mem2)) : gk_C tx l u me_Shelf_isEmpty 1 [.ref (41 + i0)] m0 (some (.int r)) mem2 :=
  gk_enter hD mc_Shelf_isEmpty (Nat.le_of_ble_eq_true rfl) rfl (fun z _ _ K => s_Shelf_isEmpty_0 K _ _ hi0 h)
theorem d_Shelf_isRow_0 : decode me_Shelf_isRow.2.1 0 = .ok (.aload_n 0, 1) := by decide +kernel
theorem d_Shelf_isRow_1 : decode me_Shelf_isRow.2.1 1 = .ok (.getfield 17, 3) := by decide +kernel
theorem d_Shelf_isRow_4 : decode me_Shelf_isRow.2.1 4 = .ok (.iconst (-1), 1) := by decide +kernel
theorem d_Shelf_isRow_5 : decode me_Shelf_isRow.2.1 5 = .ok (.if_icmp .eq 7, 3) := by decide +kernel
theorem d_Shelf_isRow_8 : decode me_Shelf_isRow.2.1 8 = .ok (.iconst 1, 1) := by decide +kernel
theorem d_Shelf_isRow_9 : decode me_Shelf_isRow.2.1 9 = .ok (.goto 4, 3) := by decide +kernel
theorem d_Shelf_isRow_12 : decode me_Shelf_isRow.2.1 12 = .ok (.iconst 0, 1) := by decide +kernel
theorem d_Shelf_isRow_13 : decode me_Shelf_isRow.2.1 13 = .ok (.ireturn, 1) := by decide +kernel
noncomputable def f_Shelf_isRow  (i0 : Nat) (m0 : gk_M) : Option (Int32 × gk_M) :=
  if (m0.1 (41 + i0) 2) = (-1) then
    some (0, m0)
  else
    some (1, m0)

theorem s_Shelf_isRow_0 {z : gk_Z} (K : gk_F tx z me_Shelf_isRow 1) {r : Int32} {mem2 : gk_M} : ∀ i0 m0, i0 < 6 → f_Shelf_isRow i0 m0 = some (r, mem2) → gk_G tx z me_Shelf_isRow (gk_R tx z (some (.int r)) mem2) m0 [(0, .ref (41 + i0))] [] 0 := by
  intro i0 m0 hi0 h
  unfold f_Shelf_isRow at h
  refine gk_aload_n (pc := 0) K d_Shelf_isRow_0 rfl ?_
  refine gk_get (pc := 1) K d_Shelf_isRow_1 fl_Shelf_17 (tx_sh hi0) rfl rfl ?_
  refine gk_iconst (pc := 4) K d_Shelf_isRow_4 kc_m1 ?_
  refine gk_ic_eq (tgt := 12) (pc := 5) K d_Shelf_isRow_5 (by decide) h (fun h => ?_) (fun h => ?_)
  · refine gk_iconst (pc := 12) K d_Shelf_isRow_12 kc_0 ?_
    exact gk_zretc (pc := 13) K d_Shelf_isRow_13 rfl (Or.inl rfl) h
  · refine gk_iconst (pc := 8) K d_Shelf_isRow_8 kc_1 ?_
    refine gk_goto (tgt := 13) (pc := 9) K d_Shelf_isRow_9 (by decide) ?_
    exact gk_zretc (pc := 13) K d_Shelf_isRow_13 rfl (Or.inr rfl) h
theorem s_Shelf_isRow {l : Launch} {u : gk_U} (hD : gk_D tx u) {i0 : Nat} (hi0 : i0 < 6) {m0 mem2 : gk_M} {r : Int32} (h : f_Shelf_isRow i0 m0 = some (r, mem2)) : gk_C tx l u me_Shelf_isRow 1 [.ref (41 + i0)] m0 (some (.int r)) mem2 :=
  gk_enter hD mc_Shelf_isRow (Nat.le_of_ble_eq_true rfl) rfl (fun z _ _ K => s_Shelf_isRow_0 K _ _ hi0 h)
theorem d_Shelf_isRowOf_0 : decode me_Shelf_isRowOf.2.1 0 = .ok (.aload_n 0, 1) := by decide +kernel
theorem d_Shelf_isRowOf_1 : decode me_Shelf_isRowOf.2.1 1 = .ok (.invokevirtual 23, 3) := by decide +kernel
theorem d_Shelf_isRowOf_4 : decode me_Shelf_isRowOf.2.1 4 = .ok (.ifCond .eq 15, 3) := by decide +kernel
theorem d_Shelf_isRowOf_7 : decode me_Shelf_isRowOf.2.1 7 = .ok (.aload_n 0, 1) := by decide +kernel
theorem d_Shelf_isRowOf_8 : decode me_Shelf_isRowOf.2.1 8 = .ok (.getfield 17, 3) := by decide +kernel
theorem d_Shelf_isRowOf_11 : decode me_Shelf_isRowOf.2.1 11 = .ok (.iload_n 1, 1) := by decide +kernel
theorem d_Shelf_isRowOf_12 : decode me_Shelf_isRowOf.2.1 12 = .ok (.if_icmp .ne 7, 3) := by decide +kernel
theorem d_Shelf_isRowOf_15 : decode me_Shelf_isRowOf.2.1 15 = .ok (.iconst 1, 1) := by decide +kernel
theorem d_Shelf_isRowOf_16 : decode me_Shelf_isRowOf.2.1 16 = .ok (.goto 4, 3) := by decide +kernel
theorem d_Shelf_isRowOf_19 : decode me_Shelf_isRowOf.2.1 19 = .ok (.iconst 0, 1) := by decide +kernel
theorem d_Shelf_isRowOf_20 : decode me_Shelf_isRowOf.2.1 20 = .ok (.ireturn, 1) := by decide +kernel
noncomputable def f_Shelf_isRowOf  (i0 : Nat) (a1 : Int32) (m0 : gk_M) : Option (Int32 × gk_M) :=
  gk_bi (f_Shelf_isRow i0 m0) fun v2 m1 =>
  if v2 = 0 then
    some (0, m1)
  else
    if ¬ (m1.1 (41 + i0) 2) = a1 then
      some (0, m1)
    else
      some (1, m1)

theorem s_Shelf_isRowOf_0 {z : gk_Z} (K : gk_F tx z me_Shelf_isRowOf 2) {r : Int32} {mem2 : gk_M} : ∀ i0 a1 m0, i0 < 6 → f_Shelf_isRowOf i0 a1 m0 = some (r, mem2) → gk_G tx z me_Shelf_isRowOf (gk_R tx z (some (.int r)) mem2) m0 [(0, .ref (41 + i0)), (1, .int a1)] [] 0 := by
  intro i0 a1 m0 hi0 h
  unfold f_Shelf_isRowOf at h
  refine gk_aload_n (pc := 0) K d_Shelf_isRowOf_0 rfl ?_
  obtain ⟨v2, m1, em1, h⟩ := gk_bi_some h
  refine gk_cVi (As := []) (pc := 1) K d_Shelf_isRowOf_1 mv_Shelf_23 mc_Shelf_isRow rfl (tx_sh hi0) cl_ok8.1 (s_Shelf_isRow (gk_FD K) hi0 em1) (by decide) rfl (Nat.le_of_ble_eq_true rfl) ?_
  refine gk_if_eq (tgt := 19) (pc := 4) K d_Shelf_isRowOf_4 (by decide) h (fun h => ?_) (fun h => ?_)
  · refine gk_iconst (pc := 19) K d_Shelf_isRowOf_19 kc_0 ?_
    exact gk_zretc (pc := 20) K d_Shelf_isRowOf_20 rfl (Or.inl rfl) h
  · refine gk_aload_n (pc := 7) K d_Shelf_isRowOf_7 rfl ?_
    refine gk_get (pc := 8) K d_Shelf_isRowOf_8 fl_Shelf_17 (tx_sh hi0) rfl rfl ?_
    refine gk_iload_n (pc := 11) K d_Shelf_isRowOf_11 rfl ?_
    refine gk_ic_ne (tgt := 19) (pc := 12) K d_Shelf_isRowOf_12 (by decide) h (fun h => ?_) (fun h => ?_)
    · refine gk_iconst (pc := 19) K d_Shelf_isRowOf_19 kc_0 ?_
      exact gk_zretc (pc := 20) K d_Shelf_isRowOf_20 rfl (Or.inl rfl) h
    · refine gk_iconst (pc := 15) K d_Shelf_isRowOf_15 kc_1 ?_
      refine gk_goto (tgt := 20) (pc := 16) K d_Shelf_isRowOf_16 (by decide) ?_
      exact gk_zretc (pc := 20) K d_Shelf_isRowOf_20 rfl (Or.inr rfl) h
theorem s_Shelf_isRowOf {l : Launch} {u : gk_U} (hD : gk_D tx u) {i0 : Nat} (hi0 : i0 < 6) {a1 : Int32} {m0 mem2 : gk_M} {r : Int32} (h : f_Shelf_isRowOf i0 a1 m0 = some (r, mem2)) : gk_C tx l u me_Shelf_isRowOf 2 [.ref (41 + i0), .int a1] m0 (some (.int r)) mem2 :=
  gk_enter hD mc_Shelf_isRowOf (Nat.le_of_ble_eq_true rfl) rfl (fun z _ _ K => s_Shelf_isRowOf_0 K _ _ _ hi0 h)
theorem d_Shelf_spans_0 : decode me_Shelf_spans.2.1 0 = .ok (.iload_n 1, 1) := by decide +kernel
theorem d_Shelf_spans_1 : decode me_Shelf_spans.2.1 1 = .ok (.ifCond .lt 29, 3) := by decide +kernel
theorem d_Shelf_spans_4 : decode me_Shelf_spans.2.1 4 = .ok (.iload_n 2, 1) := by decide +kernel
theorem d_Shelf_spans_5 : decode me_Shelf_spans.2.1 5 = .ok (.ifCond .lt 25, 3) := by decide +kernel
theorem d_Shelf_spans_8 : decode me_Shelf_spans.2.1 8 = .ok (.iload_n 1, 1) := by decide +kernel
theorem d_Shelf_spans_9 : decode me_Shelf_spans.2.1 9 = .ok (.aload_n 0, 1) := by decide +kernel
theorem d_Shelf_spans_10 : decode me_Shelf_spans.2.1 10 = .ok (.getfield 20, 3) := by decide +kernel
theorem d_Shelf_spans_13 : decode me_Shelf_spans.2.1 13 = .ok (.if_icmp .gt 17, 3) := by decide +kernel
theorem d_Shelf_spans_16 : decode me_Shelf_spans.2.1 16 = .ok (.iload_n 2, 1) := by decide +kernel
theorem d_Shelf_spans_17 : decode me_Shelf_spans.2.1 17 = .ok (.aload_n 0, 1) := by decide +kernel
theorem d_Shelf_spans_18 : decode me_Shelf_spans.2.1 18 = .ok (.getfield 20, 3) := by decide +kernel
theorem d_Shelf_spans_21 : decode me_Shelf_spans.2.1 21 = .ok (.iload_n 1, 1) := by decide +kernel
theorem d_Shelf_spans_22 : decode me_Shelf_spans.2.1 22 = .ok (.isub, 1) := by decide +kernel
theorem d_Shelf_spans_23 : decode me_Shelf_spans.2.1 23 = .ok (.if_icmp .gt 7, 3) := by decide +kernel
theorem d_Shelf_spans_26 : decode me_Shelf_spans.2.1 26 = .ok (.iconst 1, 1) := by decide +kernel
theorem d_Shelf_spans_27 : decode me_Shelf_spans.2.1 27 = .ok (.goto 4, 3) := by decide +kernel
theorem d_Shelf_spans_30 : decode me_Shelf_spans.2.1 30 = .ok (.iconst 0, 1) := by decide +kernel
theorem d_Shelf_spans_31 : decode me_Shelf_spans.2.1 31 = .ok (.ireturn, 1) := by decide +kernel
noncomputable def f_Shelf_spans  (i0 : Nat) (a1 : Int32) (a2 : Int32) (m0 : gk_M) : Option (Int32 × gk_M) :=
  if a1 < 0 then
    some (0, m0)
  else
    if a2 < 0 then
      some (0, m0)
    else
      if (m0.1 (41 + i0) 3) < a1 then
        some (0, m0)
      else
        if ((m0.1 (41 + i0) 3) - a1) < a2 then
          some (0, m0)
        else
          some (1, m0)

theorem s_Shelf_spans_0 {z : gk_Z} (K : gk_F tx z me_Shelf_spans 1) {r : Int32} {mem2 : gk_M} : ∀ i0 a1 a2 m0, i0 < 6 → f_Shelf_spans i0 a1 a2 m0 = some (r, mem2) → gk_G tx z me_Shelf_spans (gk_R tx z (some (.int r)) mem2) m0 [(0, .ref (41 + i0)), (1, .int a1), (2, .int a2)] [] 0 := by
  intro i0 a1 a2 m0 hi0 h
  unfold f_Shelf_spans at h
  refine gk_iload_n (pc := 0) K d_Shelf_spans_0 rfl ?_
  refine gk_if_lt (tgt := 30) (pc := 1) K d_Shelf_spans_1 (by decide) h (fun h => ?_) (fun h => ?_)
  · refine gk_iconst (pc := 30) K d_Shelf_spans_30 kc_0 ?_
    exact gk_zretc (pc := 31) K d_Shelf_spans_31 rfl (Or.inl rfl) h
  · refine gk_iload_n (pc := 4) K d_Shelf_spans_4 rfl ?_
    refine gk_if_lt (tgt := 30) (pc := 5) K d_Shelf_spans_5 (by decide) h (fun h => ?_) (fun h => ?_)
    · refine gk_iconst (pc := 30) K d_Shelf_spans_30 kc_0 ?_
      exact gk_zretc (pc := 31) K d_Shelf_spans_31 rfl (Or.inl rfl) h
    · refine gk_iload_n (pc := 8) K d_Shelf_spans_8 rfl ?_
      refine gk_aload_n (pc := 9) K d_Shelf_spans_9 rfl ?_
      refine gk_get (pc := 10) K d_Shelf_spans_10 fl_Shelf_20 (tx_sh hi0) rfl rfl ?_
      refine gk_ic_gt (tgt := 30) (pc := 13) K d_Shelf_spans_13 (by decide) h (fun h => ?_) (fun h => ?_)
      · refine gk_iconst (pc := 30) K d_Shelf_spans_30 kc_0 ?_
        exact gk_zretc (pc := 31) K d_Shelf_spans_31 rfl (Or.inl rfl) h
      · refine gk_iload_n (pc := 16) K d_Shelf_spans_16 rfl ?_
        refine gk_aload_n (pc := 17) K d_Shelf_spans_17 rfl ?_
        refine gk_get (pc := 18) K d_Shelf_spans_18 fl_Shelf_20 (tx_sh hi0) rfl rfl ?_
        refine gk_iload_n (pc := 21) K d_Shelf_spans_21 rfl ?_
        refine gk_isub (pc := 22) K d_Shelf_spans_22 ?_
        refine gk_ic_gt (tgt := 30) (pc := 23) K d_Shelf_spans_23 (by decide) h (fun h => ?_) (fun h => ?_)
        · refine gk_iconst (pc := 30) K d_Shelf_spans_30 kc_0 ?_
          exact gk_zretc (pc := 31) K d_Shelf_spans_31 rfl (Or.inl rfl) h
        · refine gk_iconst (pc := 26) K d_Shelf_spans_26 kc_1 ?_
          refine gk_goto (tgt := 31) (pc := 27) K d_Shelf_spans_27 (by decide) ?_
          exact gk_zretc (pc := 31) K d_Shelf_spans_31 rfl (Or.inr rfl) h
theorem s_Shelf_spans {l : Launch} {u : gk_U} (hD : gk_D tx u) {i0 : Nat} (hi0 : i0 < 6) {a1 : Int32} {a2 : Int32} {m0 mem2 : gk_M} {r : Int32} (h : f_Shelf_spans i0 a1 a2 m0 = some (r, mem2)) : gk_C tx l u me_Shelf_spans 1 [.ref (41 + i0), .int a1, .int a2] m0 (some (.int r)) mem2 :=
  gk_enter hD mc_Shelf_spans (Nat.le_of_ble_eq_true rfl) rfl (fun z _ _ K => s_Shelf_spans_0 K _ _ _ _ hi0 h)
theorem d_X_towers_0 : decode me_X_towers.2.1 0 = .ok (.iload_n 1, 1) := by decide +kernel
theorem d_X_towers_1 : decode me_X_towers.2.1 1 = .ok (.invokestatic 80, 3) := by decide +kernel
theorem d_X_towers_4 : decode me_X_towers.2.1 4 = .ok (.ifCond .eq 14, 3) := by decide +kernel
theorem d_X_towers_7 : decode me_X_towers.2.1 7 = .ok (.iload_n 3, 1) := by decide +kernel
theorem d_X_towers_8 : decode me_X_towers.2.1 8 = .ok (.iconst 1, 1) := by decide +kernel
theorem d_X_towers_9 : decode me_X_towers.2.1 9 = .ok (.if_icmp .lt 9, 3) := by decide +kernel
theorem d_X_towers_12 : decode me_X_towers.2.1 12 = .ok (.iload_n 3, 1) := by decide +kernel
theorem d_X_towers_13 : decode me_X_towers.2.1 13 = .ok (.bipush 10, 2) := by decide +kernel
theorem d_X_towers_15 : decode me_X_towers.2.1 15 = .ok (.if_icmp .le 5, 3) := by decide +kernel
theorem d_X_towers_18 : decode me_X_towers.2.1 18 = .ok (.iconst (-1), 1) := by decide +kernel
theorem d_X_towers_19 : decode me_X_towers.2.1 19 = .ok (.ireturn, 1) := by decide +kernel
theorem d_X_towers_20 : decode me_X_towers.2.1 20 = .ok (.aload_n 0, 1) := by decide +kernel
theorem d_X_towers_21 : decode me_X_towers.2.1 21 = .ok (.getfield 71, 3) := by decide +kernel
theorem d_X_towers_24 : decode me_X_towers.2.1 24 = .ok (.iload_n 1, 1) := by decide +kernel
theorem d_X_towers_25 : decode me_X_towers.2.1 25 = .ok (.aaload, 1) := by decide +kernel
theorem d_X_towers_26 : decode me_X_towers.2.1 26 = .ok (.astore 4, 2) := by decide +kernel
theorem d_X_towers_28 : decode me_X_towers.2.1 28 = .ok (.aload 4, 2) := by decide +kernel
theorem d_X_towers_30 : decode me_X_towers.2.1 30 = .ok (.invokevirtual 84, 3) := by decide +kernel
theorem d_X_towers_33 : decode me_X_towers.2.1 33 = .ok (.ifCond .eq 5, 3) := by decide +kernel
theorem d_X_towers_36 : decode me_X_towers.2.1 36 = .ok (.iconst 0, 1) := by decide +kernel
theorem d_X_towers_37 : decode me_X_towers.2.1 37 = .ok (.ireturn, 1) := by decide +kernel
theorem d_X_towers_38 : decode me_X_towers.2.1 38 = .ok (.aload 4, 2) := by decide +kernel
theorem d_X_towers_40 : decode me_X_towers.2.1 40 = .ok (.iconst 1, 1) := by decide +kernel
theorem d_X_towers_41 : decode me_X_towers.2.1 41 = .ok (.invokevirtual 88, 3) := by decide +kernel
theorem d_X_towers_44 : decode me_X_towers.2.1 44 = .ok (.ifCond .ne 6, 3) := by decide +kernel
theorem d_X_towers_47 : decode me_X_towers.2.1 47 = .ok (.bipush (-12), 2) := by decide +kernel
theorem d_X_towers_49 : decode me_X_towers.2.1 49 = .ok (.ireturn, 1) := by decide +kernel
theorem d_X_towers_50 : decode me_X_towers.2.1 50 = .ok (.iconst 0, 1) := by decide +kernel
theorem d_X_towers_51 : decode me_X_towers.2.1 51 = .ok (.istore 5, 2) := by decide +kernel
theorem d_X_towers_53 : decode me_X_towers.2.1 53 = .ok (.iload_n 2, 1) := by decide +kernel
theorem d_X_towers_54 : decode me_X_towers.2.1 54 = .ok (.istore 6, 2) := by decide +kernel
theorem d_X_towers_56 : decode me_X_towers.2.1 56 = .ok (.iload 5, 2) := by decide +kernel
theorem d_X_towers_58 : decode me_X_towers.2.1 58 = .ok (.iload_n 3, 1) := by decide +kernel
theorem d_X_towers_59 : decode me_X_towers.2.1 59 = .ok (.if_icmp .ge 72, 3) := by decide +kernel
theorem d_X_towers_62 : decode me_X_towers.2.1 62 = .ok (.aload 4, 2) := by decide +kernel
theorem d_X_towers_64 : decode me_X_towers.2.1 64 = .ok (.iload 6, 2) := by decide +kernel
theorem d_X_towers_66 : decode me_X_towers.2.1 66 = .ok (.iconst 3, 1) := by decide +kernel
theorem d_X_towers_67 : decode me_X_towers.2.1 67 = .ok (.invokevirtual 91, 3) := by decide +kernel
theorem d_X_towers_70 : decode me_X_towers.2.1 70 = .ok (.ifCond .eq 61, 3) := by decide +kernel
theorem d_X_towers_73 : decode me_X_towers.2.1 73 = .ok (.aload_n 0, 1) := by decide +kernel
theorem d_X_towers_74 : decode me_X_towers.2.1 74 = .ok (.getfield 28, 3) := by decide +kernel
theorem d_X_towers_77 : decode me_X_towers.2.1 77 = .ok (.aload 4, 2) := by decide +kernel
theorem d_X_towers_79 : decode me_X_towers.2.1 79 = .ok (.getfield 95, 3) := by decide +kernel
theorem d_X_towers_82 : decode me_X_towers.2.1 82 = .ok (.iload 6, 2) := by decide +kernel
theorem d_X_towers_84 : decode me_X_towers.2.1 84 = .ok (.laload, 1) := by decide +kernel
theorem d_X_towers_85 : decode me_X_towers.2.1 85 = .ok (.l2i, 1) := by decide +kernel
theorem d_X_towers_86 : decode me_X_towers.2.1 86 = .ok (.aload 4, 2) := by decide +kernel
theorem d_X_towers_88 : decode me_X_towers.2.1 88 = .ok (.getfield 95, 3) := by decide +kernel
theorem d_X_towers_91 : decode me_X_towers.2.1 91 = .ok (.iload 6, 2) := by decide +kernel
theorem d_X_towers_93 : decode me_X_towers.2.1 93 = .ok (.iconst 1, 1) := by decide +kernel
theorem d_X_towers_94 : decode me_X_towers.2.1 94 = .ok (.iadd, 1) := by decide +kernel
theorem d_X_towers_95 : decode me_X_towers.2.1 95 = .ok (.laload, 1) := by decide +kernel
theorem d_X_towers_96 : decode me_X_towers.2.1 96 = .ok (.l2i, 1) := by decide +kernel
theorem d_X_towers_97 : decode me_X_towers.2.1 97 = .ok (.aload 4, 2) := by decide +kernel
theorem d_X_towers_99 : decode me_X_towers.2.1 99 = .ok (.getfield 95, 3) := by decide +kernel
theorem d_X_towers_102 : decode me_X_towers.2.1 102 = .ok (.iload 6, 2) := by decide +kernel
theorem d_X_towers_104 : decode me_X_towers.2.1 104 = .ok (.iconst 2, 1) := by decide +kernel
theorem d_X_towers_105 : decode me_X_towers.2.1 105 = .ok (.iadd, 1) := by decide +kernel
theorem d_X_towers_106 : decode me_X_towers.2.1 106 = .ok (.laload, 1) := by decide +kernel
theorem d_X_towers_107 : decode me_X_towers.2.1 107 = .ok (.l2i, 1) := by decide +kernel
theorem d_X_towers_108 : decode me_X_towers.2.1 108 = .ok (.iconst 0, 1) := by decide +kernel
theorem d_X_towers_109 : decode me_X_towers.2.1 109 = .ok (.invokevirtual 76, 3) := by decide +kernel
theorem d_X_towers_112 : decode me_X_towers.2.1 112 = .ok (.istore 7, 2) := by decide +kernel
theorem d_X_towers_114 : decode me_X_towers.2.1 114 = .ok (.iload 7, 2) := by decide +kernel
theorem d_X_towers_116 : decode me_X_towers.2.1 116 = .ok (.ifCond .ge 6, 3) := by decide +kernel
theorem d_X_towers_119 : decode me_X_towers.2.1 119 = .ok (.iload 5, 2) := by decide +kernel
theorem d_X_towers_121 : decode me_X_towers.2.1 121 = .ok (.ireturn, 1) := by decide +kernel
theorem d_X_towers_122 : decode me_X_towers.2.1 122 = .ok (.iinc 5 1, 3) := by decide +kernel
theorem d_X_towers_125 : decode me_X_towers.2.1 125 = .ok (.iinc 6 3, 3) := by decide +kernel
theorem d_X_towers_128 : decode me_X_towers.2.1 128 = .ok (.goto (-72), 3) := by decide +kernel
theorem d_X_towers_131 : decode me_X_towers.2.1 131 = .ok (.iload 5, 2) := by decide +kernel
theorem d_X_towers_133 : decode me_X_towers.2.1 133 = .ok (.ireturn, 1) := by decide +kernel
noncomputable def f_X_towers_56  : Nat → Int32 → Nat → Int32 → Int32 → gk_M → Option (Int32 × gk_M)
  | 0, _, _, _, _, _ => none
  | n + 1, a3, i4, a5, a6, m0 =>
    if a3 ≤ a5 then
      some (a5, m0)
    else
      gk_bi (f_Shelf_spans i4 a6 3 m0) fun v2 m1 =>
      if v2 = 0 then
        some (a5, m1)
      else
        gk_al m1 (47 + i4) 60 a6 fun v3 =>
        gk_al m1 (47 + i4) 60 (a6 + 1) fun v4 =>
        gk_al m1 (47 + i4) 60 (a6 + 2) fun v5 =>
        gk_bi (f_Plain_build v3.toInt32 v4.toInt32 v5.toInt32 0 m1) fun v7 m6 =>
        if 0 ≤ v7 then
          f_X_towers_56 n a3 i4 (a5 + 1) (a6 + 3) m6
        else
          some (a5, m6)

theorem s_X_towers_56 {z : gk_Z} (K : gk_F tx z me_X_towers 5) {r : Int32} {mem2 : gk_M} : ∀ n a3 i4 a5 a6 m0, i4 < 6 → f_X_towers_56 n a3 i4 a5 a6 m0 = some (r, mem2) → gk_G tx z me_X_towers (gk_R tx z (some (.int r)) mem2) m0 [(0, .ref 0), (3, .int a3), (4, .ref (41 + i4)), (5, .int a5), (6, .int a6)] [] 56 := by
  intro n
  induction n with
  | zero => intro a3 i4 a5 a6 m0 hi4 h; exact nomatch (show (none : Option _) = some _ from h)
  | succ n ih =>
    intro a3 i4 a5 a6 m0 hi4 h
    unfold f_X_towers_56 at h
    refine gk_iload (pc := 56) K d_X_towers_56 rfl ?_
    refine gk_iload_n (pc := 58) K d_X_towers_58 rfl ?_
    refine gk_ic_ge (tgt := 131) (pc := 59) K d_X_towers_59 (by decide) h (fun h => ?_) (fun h => ?_)
    · refine gk_iload (pc := 131) K d_X_towers_131 rfl ?_
      exact gk_iret (pc := 133) K d_X_towers_133 rfl h
    · refine gk_aload (pc := 62) K d_X_towers_62 rfl ?_
      refine gk_iload (pc := 64) K d_X_towers_64 rfl ?_
      refine gk_iconst (pc := 66) K d_X_towers_66 kc_3 ?_
      obtain ⟨v2, m1, em1, h⟩ := gk_bi_some h
      refine gk_cVi (As := [.int a6, .int 3]) (pc := 67) K d_X_towers_67 mv_X_91 mc_Shelf_spans rfl (tx_sh hi4) cl_ok8.1 (s_Shelf_spans (gk_FD K) hi4 em1) (by decide) rfl (Nat.le_of_ble_eq_true rfl) ?_
      refine gk_if_eq (tgt := 131) (pc := 70) K d_X_towers_70 (by decide) h (fun h => ?_) (fun h => ?_)
      · refine gk_iload (pc := 131) K d_X_towers_131 rfl ?_
        exact gk_iret (pc := 133) K d_X_towers_133 rfl h
      · refine gk_aload_n (pc := 73) K d_X_towers_73 rfl ?_
        refine gk_get (pc := 74) K d_X_towers_74 fl_X_28 tx_0 rfl rfl ?_
        refine gk_aload (pc := 77) K d_X_towers_77 rfl ?_
        refine gk_get (pc := 79) K d_X_towers_79 fl_X_95 (tx_sh hi4) rfl rfl ?_
        refine gk_iload (pc := 82) K d_X_towers_82 rfl ?_
        refine gk_lald (pc := 84) K d_X_towers_84 (tx_sa hi4) h (fun v3 h => ?_)
        refine gk_l2i (pc := 85) K d_X_towers_85 ?_
        refine gk_aload (pc := 86) K d_X_towers_86 rfl ?_
        refine gk_get (pc := 88) K d_X_towers_88 fl_X_95 (tx_sh hi4) rfl rfl ?_
        refine gk_iload (pc := 91) K d_X_towers_91 rfl ?_
        refine gk_iconst (pc := 93) K d_X_towers_93 kc_1 ?_
        refine gk_iadd (pc := 94) K d_X_towers_94 ?_
        refine gk_lald (pc := 95) K d_X_towers_95 (tx_sa hi4) h (fun v4 h => ?_)
        refine gk_l2i (pc := 96) K d_X_towers_96 ?_
        refine gk_aload (pc := 97) K d_X_towers_97 rfl ?_
        refine gk_get (pc := 99) K d_X_towers_99 fl_X_95 (tx_sh hi4) rfl rfl ?_
        refine gk_iload (pc := 102) K d_X_towers_102 rfl ?_
        refine gk_iconst (pc := 104) K d_X_towers_104 kc_2 ?_
        refine gk_iadd (pc := 105) K d_X_towers_105 ?_
        refine gk_lald (pc := 106) K d_X_towers_106 (tx_sa hi4) h (fun v5 h => ?_)
        refine gk_l2i (pc := 107) K d_X_towers_107 ?_
        refine gk_iconst (pc := 108) K d_X_towers_108 kc_0 ?_
        obtain ⟨v7, m6, em6, h⟩ := gk_bi_some h
        refine gk_cVi (As := [.int v3.toInt32, .int v4.toInt32, .int v5.toInt32, .int 0]) (pc := 109) K d_X_towers_109 mv_X_76 mc_Plain_build rfl tx_7 cl_ok2.1 (s_Plain_build (gk_FD K)  em6) (by decide) rfl (Nat.le_of_ble_eq_true rfl) ?_
        refine gk_istore (lv2 := [(7, .int v7), (0, .ref 0), (3, .int a3), (4, .ref (41 + i4)), (5, .int a5), (6, .int a6)]) (pc := 112) K d_X_towers_112 (by decide) rfl ?_
        refine gk_iload (pc := 114) K d_X_towers_114 rfl ?_
        refine gk_if_ge (tgt := 122) (pc := 116) K d_X_towers_116 (by decide) h (fun h => ?_) (fun h => ?_)
        · refine gk_iinc2 (lv2 := [(5, .int (a5 + 1)), (7, .int v7), (0, .ref 0), (3, .int a3), (4, .ref (41 + i4)), (6, .int a6)]) (pc := 122) K d_X_towers_122 rfl kc_1 (by decide) rfl ?_
          refine gk_iinc2 (lv2 := [(6, .int (a6 + 3)), (5, .int (a5 + 1)), (7, .int v7), (0, .ref 0), (3, .int a3), (4, .ref (41 + i4))]) (pc := 125) K d_X_towers_125 rfl kc_3 (by decide) rfl ?_
          refine gk_goto (tgt := 56) (pc := 128) K d_X_towers_128 (by decide) ?_
          exact gk_sub [3, 4, 5, 1, 0] rfl (ih _ _ _ _ _ hi4 h)
        · refine gk_iload (pc := 119) K d_X_towers_119 rfl ?_
          exact gk_iret (pc := 121) K d_X_towers_121 rfl h
noncomputable def f_X_towers  (a1 : Int32) (a2 : Int32) (a3 : Int32) (m0 : gk_M) : Option (Int32 × gk_M) :=
  gk_bi (f_X_isShelf a1 m0) fun v2 m1 =>
  if v2 = 0 then
    some ((-1), m1)
  else
    if a3 < 1 then
      some ((-1), m1)
    else
      if a3 ≤ 10 then
        gk_ar 6 a1 fun i3 =>
        gk_bi (f_Shelf_isEmpty i3 m1) fun v5 m4 =>
        if v5 = 0 then
          gk_bi (f_Shelf_isRowOf i3 1 m4) fun v7 m6 =>
          if ¬ v7 = 0 then
            f_X_towers_56 gk_fv a3 i3 0 a2 m6
          else
            some ((-12), m6)
        else
          some (0, m4)
      else
        some ((-1), m1)

theorem s_X_towers_0 {z : gk_Z} (K : gk_F tx z me_X_towers 5) {r : Int32} {mem2 : gk_M} : ∀ a1 a2 a3 m0, f_X_towers a1 a2 a3 m0 = some (r, mem2) → gk_G tx z me_X_towers (gk_R tx z (some (.int r)) mem2) m0 [(0, .ref 0), (1, .int a1), (2, .int a2), (3, .int a3)] [] 0 := by
  intro a1 a2 a3 m0  h
  unfold f_X_towers at h
  refine gk_iload_n (pc := 0) K d_X_towers_0 rfl ?_
  obtain ⟨v2, m1, em1, h⟩ := gk_bi_some h
  refine gk_cSi (As := [.int a1]) (pc := 1) K d_X_towers_1 ms_X_80 mc_X_isShelf rfl (s_X_isShelf (gk_FD K)  em1) (by decide) rfl (Nat.le_of_ble_eq_true rfl) ?_
  refine gk_if_eq (tgt := 18) (pc := 4) K d_X_towers_4 (by decide) h (fun h => ?_) (fun h => ?_)
  · refine gk_iconst (pc := 18) K d_X_towers_18 kc_m1 ?_
    exact gk_iret (pc := 19) K d_X_towers_19 rfl h
  · refine gk_iload_n (pc := 7) K d_X_towers_7 rfl ?_
    refine gk_iconst (pc := 8) K d_X_towers_8 kc_1 ?_
    refine gk_ic_lt (tgt := 18) (pc := 9) K d_X_towers_9 (by decide) h (fun h => ?_) (fun h => ?_)
    · refine gk_iconst (pc := 18) K d_X_towers_18 kc_m1 ?_
      exact gk_iret (pc := 19) K d_X_towers_19 rfl h
    · refine gk_iload_n (pc := 12) K d_X_towers_12 rfl ?_
      refine gk_bipush (pc := 13) K d_X_towers_13 kb_10 ?_
      refine gk_ic_le (tgt := 20) (pc := 15) K d_X_towers_15 (by decide) h (fun h => ?_) (fun h => ?_)
      · refine gk_aload_n (pc := 20) K d_X_towers_20 rfl ?_
        refine gk_get (pc := 21) K d_X_towers_21 fl_X_71 tx_0 rfl rfl ?_
        refine gk_iload_n (pc := 24) K d_X_towers_24 rfl ?_
        refine gk_aald (pc := 25) K d_X_towers_25 tx_40 h (fun i3 hi3 h => ?_)
        refine gk_astore (lv2 := [(4, .ref (41 + i3)), (0, .ref 0), (1, .int a1), (2, .int a2), (3, .int a3)]) (pc := 26) K d_X_towers_26 (by decide) rfl ?_
        refine gk_aload (pc := 28) K d_X_towers_28 rfl ?_
        obtain ⟨v5, m4, em4, h⟩ := gk_bi_some h
        refine gk_cVi (As := []) (pc := 30) K d_X_towers_30 mv_X_84 mc_Shelf_isEmpty rfl (tx_sh hi3) cl_ok8.1 (s_Shelf_isEmpty (gk_FD K) hi3 em4) (by decide) rfl (Nat.le_of_ble_eq_true rfl) ?_
        refine gk_if_eq (tgt := 38) (pc := 33) K d_X_towers_33 (by decide) h (fun h => ?_) (fun h => ?_)
        · refine gk_aload (pc := 38) K d_X_towers_38 rfl ?_
          refine gk_iconst (pc := 40) K d_X_towers_40 kc_1 ?_
          obtain ⟨v7, m6, em6, h⟩ := gk_bi_some h
          refine gk_cVi (As := [.int 1]) (pc := 41) K d_X_towers_41 mv_X_88 mc_Shelf_isRowOf rfl (tx_sh hi3) cl_ok8.1 (s_Shelf_isRowOf (gk_FD K) hi3 em6) (by decide) rfl (Nat.le_of_ble_eq_true rfl) ?_
          refine gk_if_ne (tgt := 50) (pc := 44) K d_X_towers_44 (by decide) h (fun h => ?_) (fun h => ?_)
          · refine gk_iconst (pc := 50) K d_X_towers_50 kc_0 ?_
            refine gk_istore (lv2 := [(5, .int 0), (4, .ref (41 + i3)), (0, .ref 0), (1, .int a1), (2, .int a2), (3, .int a3)]) (pc := 51) K d_X_towers_51 (by decide) rfl ?_
            refine gk_iload_n (pc := 53) K d_X_towers_53 rfl ?_
            refine gk_istore (lv2 := [(6, .int a2), (5, .int 0), (4, .ref (41 + i3)), (0, .ref 0), (1, .int a1), (2, .int a2), (3, .int a3)]) (pc := 54) K d_X_towers_54 (by decide) rfl ?_
            exact gk_sub [3, 6, 2, 1, 0] rfl (s_X_towers_56 K _ _ _ _ _ _ hi3 h)
          · refine gk_bipush (pc := 47) K d_X_towers_47 kb_m12 ?_
            exact gk_iret (pc := 49) K d_X_towers_49 rfl h
        · refine gk_iconst (pc := 36) K d_X_towers_36 kc_0 ?_
          exact gk_iret (pc := 37) K d_X_towers_37 rfl h
      · refine gk_iconst (pc := 18) K d_X_towers_18 kc_m1 ?_
        exact gk_iret (pc := 19) K d_X_towers_19 rfl h
theorem s_X_towers {l : Launch} {u : gk_U} (hD : gk_D tx u) {a1 : Int32} {a2 : Int32} {a3 : Int32} {m0 mem2 : gk_M} {r : Int32} (h : f_X_towers a1 a2 a3 m0 = some (r, mem2)) : gk_C tx l u me_X_towers 5 [.ref 0, .int a1, .int a2, .int a3] m0 (some (.int r)) mem2 :=
  gk_enter hD mc_X_towers (Nat.le_of_ble_eq_true rfl) rfl (fun z _ _ K => s_X_towers_0 K _ _ _ _  h)
theorem d_Plain_addRoad_0 : decode me_Plain_addRoad.2.1 0 = .ok (.aload_n 0, 1) := by decide +kernel
theorem d_Plain_addRoad_1 : decode me_Plain_addRoad.2.1 1 = .ok (.getfield 34, 3) := by decide +kernel
theorem d_Plain_addRoad_4 : decode me_Plain_addRoad.2.1 4 = .ok (.iconst 4, 1) := by decide +kernel
theorem d_Plain_addRoad_5 : decode me_Plain_addRoad.2.1 5 = .ok (.if_icmp .lt 6, 3) := by decide +kernel
theorem d_Plain_addRoad_8 : decode me_Plain_addRoad.2.1 8 = .ok (.bipush (-3), 2) := by decide +kernel
theorem d_Plain_addRoad_10 : decode me_Plain_addRoad.2.1 10 = .ok (.ireturn, 1) := by decide +kernel
theorem d_Plain_addRoad_11 : decode me_Plain_addRoad.2.1 11 = .ok (.aload_n 0, 1) := by decide +kernel
theorem d_Plain_addRoad_12 : decode me_Plain_addRoad.2.1 12 = .ok (.getfield 40, 3) := by decide +kernel
theorem d_Plain_addRoad_15 : decode me_Plain_addRoad.2.1 15 = .ok (.aload_n 0, 1) := by decide +kernel
theorem d_Plain_addRoad_16 : decode me_Plain_addRoad.2.1 16 = .ok (.getfield 34, 3) := by decide +kernel
theorem d_Plain_addRoad_19 : decode me_Plain_addRoad.2.1 19 = .ok (.bipush 6, 2) := by decide +kernel
theorem d_Plain_addRoad_21 : decode me_Plain_addRoad.2.1 21 = .ok (.imul, 1) := by decide +kernel
theorem d_Plain_addRoad_22 : decode me_Plain_addRoad.2.1 22 = .ok (.iload_n 1, 1) := by decide +kernel
theorem d_Plain_addRoad_23 : decode me_Plain_addRoad.2.1 23 = .ok (.iastore, 1) := by decide +kernel
theorem d_Plain_addRoad_24 : decode me_Plain_addRoad.2.1 24 = .ok (.aload_n 0, 1) := by decide +kernel
theorem d_Plain_addRoad_25 : decode me_Plain_addRoad.2.1 25 = .ok (.getfield 40, 3) := by decide +kernel
theorem d_Plain_addRoad_28 : decode me_Plain_addRoad.2.1 28 = .ok (.aload_n 0, 1) := by decide +kernel
theorem d_Plain_addRoad_29 : decode me_Plain_addRoad.2.1 29 = .ok (.getfield 34, 3) := by decide +kernel
theorem d_Plain_addRoad_32 : decode me_Plain_addRoad.2.1 32 = .ok (.bipush 6, 2) := by decide +kernel
theorem d_Plain_addRoad_34 : decode me_Plain_addRoad.2.1 34 = .ok (.imul, 1) := by decide +kernel
theorem d_Plain_addRoad_35 : decode me_Plain_addRoad.2.1 35 = .ok (.iconst 1, 1) := by decide +kernel
theorem d_Plain_addRoad_36 : decode me_Plain_addRoad.2.1 36 = .ok (.iadd, 1) := by decide +kernel
theorem d_Plain_addRoad_37 : decode me_Plain_addRoad.2.1 37 = .ok (.iload_n 2, 1) := by decide +kernel
theorem d_Plain_addRoad_38 : decode me_Plain_addRoad.2.1 38 = .ok (.iastore, 1) := by decide +kernel
theorem d_Plain_addRoad_39 : decode me_Plain_addRoad.2.1 39 = .ok (.aload_n 0, 1) := by decide +kernel
theorem d_Plain_addRoad_40 : decode me_Plain_addRoad.2.1 40 = .ok (.getfield 31, 3) := by decide +kernel
theorem d_Plain_addRoad_43 : decode me_Plain_addRoad.2.1 43 = .ok (.aload_n 0, 1) := by decide +kernel
theorem d_Plain_addRoad_44 : decode me_Plain_addRoad.2.1 44 = .ok (.getfield 34, 3) := by decide +kernel
theorem d_Plain_addRoad_47 : decode me_Plain_addRoad.2.1 47 = .ok (.iconst 2, 1) := by decide +kernel
theorem d_Plain_addRoad_48 : decode me_Plain_addRoad.2.1 48 = .ok (.iastore, 1) := by decide +kernel
theorem d_Plain_addRoad_49 : decode me_Plain_addRoad.2.1 49 = .ok (.aload_n 0, 1) := by decide +kernel
theorem d_Plain_addRoad_50 : decode me_Plain_addRoad.2.1 50 = .ok (.dup, 1) := by decide +kernel
theorem d_Plain_addRoad_51 : decode me_Plain_addRoad.2.1 51 = .ok (.getfield 34, 3) := by decide +kernel
theorem d_Plain_addRoad_54 : decode me_Plain_addRoad.2.1 54 = .ok (.iconst 1, 1) := by decide +kernel
theorem d_Plain_addRoad_55 : decode me_Plain_addRoad.2.1 55 = .ok (.iadd, 1) := by decide +kernel
theorem d_Plain_addRoad_56 : decode me_Plain_addRoad.2.1 56 = .ok (.putfield 34, 3) := by decide +kernel
theorem d_Plain_addRoad_59 : decode me_Plain_addRoad.2.1 59 = .ok (.aload_n 0, 1) := by decide +kernel
theorem d_Plain_addRoad_60 : decode me_Plain_addRoad.2.1 60 = .ok (.getfield 34, 3) := by decide +kernel
theorem d_Plain_addRoad_63 : decode me_Plain_addRoad.2.1 63 = .ok (.iconst 1, 1) := by decide +kernel
theorem d_Plain_addRoad_64 : decode me_Plain_addRoad.2.1 64 = .ok (.isub, 1) := by decide +kernel
theorem d_Plain_addRoad_65 : decode me_Plain_addRoad.2.1 65 = .ok (.ireturn, 1) := by decide +kernel
noncomputable def f_Plain_addRoad  (a1 : Int32) (a2 : Int32) (m0 : gk_M) : Option (Int32 × gk_M) :=
  if (m0.1 7 7) < 4 then
    gk_si m0 14 24 ((m0.1 7 7) * 6) a1 fun m1 =>
    gk_si m1 14 24 (((m1.1 7 7) * 6) + 1) a2 fun m2 =>
    gk_si m2 13 4 (m2.1 7 7) 2 fun m3 =>
    gk_let (gk_mi m3 7 7 ((m3.1 7 7) + 1)) fun m4 =>
    some (((m4.1 7 7) - 1), m4)
  else
    some ((-3), m0)

theorem s_Plain_addRoad_0 {z : gk_Z} (K : gk_F tx z me_Plain_addRoad 1) {r : Int32} {mem2 : gk_M} : ∀ a1 a2 m0, f_Plain_addRoad a1 a2 m0 = some (r, mem2) → gk_G tx z me_Plain_addRoad (gk_R tx z (some (.int r)) mem2) m0 [(0, .ref 7), (1, .int a1), (2, .int a2)] [] 0 := by
  intro a1 a2 m0  h
  unfold f_Plain_addRoad at h
  refine gk_aload_n (pc := 0) K d_Plain_addRoad_0 rfl ?_
  refine gk_get (pc := 1) K d_Plain_addRoad_1 fl_Plain_34 tx_7 rfl rfl ?_
  refine gk_iconst (pc := 4) K d_Plain_addRoad_4 kc_4 ?_
  refine gk_ic_lt (tgt := 11) (pc := 5) K d_Plain_addRoad_5 (by decide) h (fun h => ?_) (fun h => ?_)
  · refine gk_aload_n (pc := 11) K d_Plain_addRoad_11 rfl ?_
    refine gk_get (pc := 12) K d_Plain_addRoad_12 fl_Plain_40 tx_7 rfl rfl ?_
    refine gk_aload_n (pc := 15) K d_Plain_addRoad_15 rfl ?_
    refine gk_get (pc := 16) K d_Plain_addRoad_16 fl_Plain_34 tx_7 rfl rfl ?_
    refine gk_bipush (pc := 19) K d_Plain_addRoad_19 kb_6 ?_
    refine gk_imul (pc := 21) K d_Plain_addRoad_21 ?_
    refine gk_iload_n (pc := 22) K d_Plain_addRoad_22 rfl ?_
    refine gk_iast (pc := 23) K d_Plain_addRoad_23 tx_14 h (fun m1 h => ?_)
    refine gk_aload_n (pc := 24) K d_Plain_addRoad_24 rfl ?_
    refine gk_get (pc := 25) K d_Plain_addRoad_25 fl_Plain_40 tx_7 rfl rfl ?_
    refine gk_aload_n (pc := 28) K d_Plain_addRoad_28 rfl ?_
    refine gk_get (pc := 29) K d_Plain_addRoad_29 fl_Plain_34 tx_7 rfl rfl ?_
    refine gk_bipush (pc := 32) K d_Plain_addRoad_32 kb_6 ?_
    refine gk_imul (pc := 34) K d_Plain_addRoad_34 ?_
    refine gk_iconst (pc := 35) K d_Plain_addRoad_35 kc_1 ?_
    refine gk_iadd (pc := 36) K d_Plain_addRoad_36 ?_
    refine gk_iload_n (pc := 37) K d_Plain_addRoad_37 rfl ?_
    refine gk_iast (pc := 38) K d_Plain_addRoad_38 tx_14 h (fun m2 h => ?_)
    refine gk_aload_n (pc := 39) K d_Plain_addRoad_39 rfl ?_
    refine gk_get (pc := 40) K d_Plain_addRoad_40 fl_Plain_31 tx_7 rfl rfl ?_
    refine gk_aload_n (pc := 43) K d_Plain_addRoad_43 rfl ?_
    refine gk_get (pc := 44) K d_Plain_addRoad_44 fl_Plain_34 tx_7 rfl rfl ?_
    refine gk_iconst (pc := 47) K d_Plain_addRoad_47 kc_2 ?_
    refine gk_iast (pc := 48) K d_Plain_addRoad_48 tx_13 h (fun m3 h => ?_)
    refine gk_aload_n (pc := 49) K d_Plain_addRoad_49 rfl ?_
    refine gk_dup (pc := 50) K d_Plain_addRoad_50 rfl ?_
    refine gk_get (pc := 51) K d_Plain_addRoad_51 fl_Plain_34 tx_7 rfl rfl ?_
    refine gk_iconst (pc := 54) K d_Plain_addRoad_54 kc_1 ?_
    refine gk_iadd (pc := 55) K d_Plain_addRoad_55 ?_
    refine gk_puti (pc := 56) K d_Plain_addRoad_56 fp_Plain_34 tx_7 rfl h (fun m4 h => ?_)
    refine gk_aload_n (pc := 59) K d_Plain_addRoad_59 rfl ?_
    refine gk_get (pc := 60) K d_Plain_addRoad_60 fl_Plain_34 tx_7 rfl rfl ?_
    refine gk_iconst (pc := 63) K d_Plain_addRoad_63 kc_1 ?_
    refine gk_isub (pc := 64) K d_Plain_addRoad_64 ?_
    exact gk_iret (pc := 65) K d_Plain_addRoad_65 rfl h
  · refine gk_bipush (pc := 8) K d_Plain_addRoad_8 kb_m3 ?_
    exact gk_iret (pc := 10) K d_Plain_addRoad_10 rfl h
theorem s_Plain_addRoad {l : Launch} {u : gk_U} (hD : gk_D tx u) {a1 : Int32} {a2 : Int32} {m0 mem2 : gk_M} {r : Int32} (h : f_Plain_addRoad a1 a2 m0 = some (r, mem2)) : gk_C tx l u me_Plain_addRoad 1 [.ref 7, .int a1, .int a2] m0 (some (.int r)) mem2 :=
  gk_enter hD mc_Plain_addRoad (Nat.le_of_ble_eq_true rfl) rfl (fun z _ _ K => s_Plain_addRoad_0 K _ _ _  h)
theorem d_X_road_0 : decode me_X_road.2.1 0 = .ok (.iload_n 1, 1) := by decide +kernel
theorem d_X_road_1 : decode me_X_road.2.1 1 = .ok (.invokestatic 99, 3) := by decide +kernel
theorem d_X_road_4 : decode me_X_road.2.1 4 = .ok (.ifCond .eq 15, 3) := by decide +kernel
theorem d_X_road_7 : decode me_X_road.2.1 7 = .ok (.iload_n 2, 1) := by decide +kernel
theorem d_X_road_8 : decode me_X_road.2.1 8 = .ok (.invokestatic 99, 3) := by decide +kernel
theorem d_X_road_11 : decode me_X_road.2.1 11 = .ok (.ifCond .eq 8, 3) := by decide +kernel
theorem d_X_road_14 : decode me_X_road.2.1 14 = .ok (.iload_n 1, 1) := by decide +kernel
theorem d_X_road_15 : decode me_X_road.2.1 15 = .ok (.iload_n 2, 1) := by decide +kernel
theorem d_X_road_16 : decode me_X_road.2.1 16 = .ok (.if_icmp .ne 5, 3) := by decide +kernel
theorem d_X_road_19 : decode me_X_road.2.1 19 = .ok (.iconst (-1), 1) := by decide +kernel
theorem d_X_road_20 : decode me_X_road.2.1 20 = .ok (.ireturn, 1) := by decide +kernel
theorem d_X_road_21 : decode me_X_road.2.1 21 = .ok (.aload_n 0, 1) := by decide +kernel
theorem d_X_road_22 : decode me_X_road.2.1 22 = .ok (.getfield 28, 3) := by decide +kernel
theorem d_X_road_25 : decode me_X_road.2.1 25 = .ok (.iload_n 1, 1) := by decide +kernel
theorem d_X_road_26 : decode me_X_road.2.1 26 = .ok (.iload_n 2, 1) := by decide +kernel
theorem d_X_road_27 : decode me_X_road.2.1 27 = .ok (.invokevirtual 102, 3) := by decide +kernel
theorem d_X_road_30 : decode me_X_road.2.1 30 = .ok (.ireturn, 1) := by decide +kernel
noncomputable def f_X_road  (a1 : Int32) (a2 : Int32) (m0 : gk_M) : Option (Int32 × gk_M) :=
  gk_bi (f_X_isPoint a1 m0) fun v2 m1 =>
  if v2 = 0 then
    some ((-1), m1)
  else
    gk_bi (f_X_isPoint a2 m1) fun v4 m3 =>
    if v4 = 0 then
      some ((-1), m3)
    else
      if ¬ a1 = a2 then
        gk_bi (f_Plain_addRoad a1 a2 m3) fun v6 m5 =>
        some (v6, m5)
      else
        some ((-1), m3)

theorem s_X_road_0 {z : gk_Z} (K : gk_F tx z me_X_road 2) {r : Int32} {mem2 : gk_M} : ∀ a1 a2 m0, f_X_road a1 a2 m0 = some (r, mem2) → gk_G tx z me_X_road (gk_R tx z (some (.int r)) mem2) m0 [(0, .ref 0), (1, .int a1), (2, .int a2)] [] 0 := by
  intro a1 a2 m0  h
  unfold f_X_road at h
  refine gk_iload_n (pc := 0) K d_X_road_0 rfl ?_
  obtain ⟨v2, m1, em1, h⟩ := gk_bi_some h
  refine gk_cSi (As := [.int a1]) (pc := 1) K d_X_road_1 ms_X_99 mc_X_isPoint rfl (s_X_isPoint (gk_FD K)  em1) (by decide) rfl (Nat.le_of_ble_eq_true rfl) ?_
  refine gk_if_eq (tgt := 19) (pc := 4) K d_X_road_4 (by decide) h (fun h => ?_) (fun h => ?_)
  · refine gk_iconst (pc := 19) K d_X_road_19 kc_m1 ?_
    exact gk_iret (pc := 20) K d_X_road_20 rfl h
  · refine gk_iload_n (pc := 7) K d_X_road_7 rfl ?_
    obtain ⟨v4, m3, em3, h⟩ := gk_bi_some h
    refine gk_cSi (As := [.int a2]) (pc := 8) K d_X_road_8 ms_X_99 mc_X_isPoint rfl (s_X_isPoint (gk_FD K)  em3) (by decide) rfl (Nat.le_of_ble_eq_true rfl) ?_
    refine gk_if_eq (tgt := 19) (pc := 11) K d_X_road_11 (by decide) h (fun h => ?_) (fun h => ?_)
    · refine gk_iconst (pc := 19) K d_X_road_19 kc_m1 ?_
      exact gk_iret (pc := 20) K d_X_road_20 rfl h
    · refine gk_iload_n (pc := 14) K d_X_road_14 rfl ?_
      refine gk_iload_n (pc := 15) K d_X_road_15 rfl ?_
      refine gk_ic_ne (tgt := 21) (pc := 16) K d_X_road_16 (by decide) h (fun h => ?_) (fun h => ?_)
      · refine gk_aload_n (pc := 21) K d_X_road_21 rfl ?_
        refine gk_get (pc := 22) K d_X_road_22 fl_X_28 tx_0 rfl rfl ?_
        refine gk_iload_n (pc := 25) K d_X_road_25 rfl ?_
        refine gk_iload_n (pc := 26) K d_X_road_26 rfl ?_
        obtain ⟨v6, m5, em5, h⟩ := gk_bi_some h
        refine gk_cVi (As := [.int a1, .int a2]) (pc := 27) K d_X_road_27 mv_X_102 mc_Plain_addRoad rfl tx_7 cl_ok2.1 (s_Plain_addRoad (gk_FD K)  em5) (by decide) rfl (Nat.le_of_ble_eq_true rfl) ?_
        exact gk_iret (pc := 30) K d_X_road_30 rfl h
      · refine gk_iconst (pc := 19) K d_X_road_19 kc_m1 ?_
        exact gk_iret (pc := 20) K d_X_road_20 rfl h
theorem s_X_road {l : Launch} {u : gk_U} (hD : gk_D tx u) {a1 : Int32} {a2 : Int32} {m0 mem2 : gk_M} {r : Int32} (h : f_X_road a1 a2 m0 = some (r, mem2)) : gk_C tx l u me_X_road 2 [.ref 0, .int a1, .int a2] m0 (some (.int r)) mem2 :=
  gk_enter hD mc_X_road (Nat.le_of_ble_eq_true rfl) rfl (fun z _ _ K => s_X_road_0 K _ _ _  h)
theorem d_Plain_isRoad_0 : decode me_Plain_isRoad.2.1 0 = .ok (.iload_n 1, 1) := by decide +kernel
theorem d_Plain_isRoad_1 : decode me_Plain_isRoad.2.1 1 = .ok (.ifCond .lt 15, 3) := by decide +kernel
theorem d_Plain_isRoad_4 : decode me_Plain_isRoad.2.1 4 = .ok (.iload_n 1, 1) := by decide +kernel
theorem d_Plain_isRoad_5 : decode me_Plain_isRoad.2.1 5 = .ok (.aload_n 0, 1) := by decide +kernel
theorem d_Plain_isRoad_6 : decode me_Plain_isRoad.2.1 6 = .ok (.getfield 34, 3) := by decide +kernel
theorem d_Plain_isRoad_9 : decode me_Plain_isRoad.2.1 9 = .ok (.if_icmp .ge 7, 3) := by decide +kernel
theorem d_Plain_isRoad_12 : decode me_Plain_isRoad.2.1 12 = .ok (.iconst 1, 1) := by decide +kernel
theorem d_Plain_isRoad_13 : decode me_Plain_isRoad.2.1 13 = .ok (.goto 4, 3) := by decide +kernel
theorem d_Plain_isRoad_16 : decode me_Plain_isRoad.2.1 16 = .ok (.iconst 0, 1) := by decide +kernel
theorem d_Plain_isRoad_17 : decode me_Plain_isRoad.2.1 17 = .ok (.ireturn, 1) := by decide +kernel
noncomputable def f_Plain_isRoad  (a1 : Int32) (m0 : gk_M) : Option (Int32 × gk_M) :=
  if a1 < 0 then
    some (0, m0)
  else
    if (m0.1 7 7) ≤ a1 then
      some (0, m0)
    else
      some (1, m0)

theorem s_Plain_isRoad_0 {z : gk_Z} (K : gk_F tx z me_Plain_isRoad 1) {r : Int32} {mem2 : gk_M} : ∀ a1 m0, f_Plain_isRoad a1 m0 = some (r, mem2) → gk_G tx z me_Plain_isRoad (gk_R tx z (some (.int r)) mem2) m0 [(0, .ref 7), (1, .int a1)] [] 0 := by
  intro a1 m0  h
  unfold f_Plain_isRoad at h
  refine gk_iload_n (pc := 0) K d_Plain_isRoad_0 rfl ?_
  refine gk_if_lt (tgt := 16) (pc := 1) K d_Plain_isRoad_1 (by decide) h (fun h => ?_) (fun h => ?_)
  · refine gk_iconst (pc := 16) K d_Plain_isRoad_16 kc_0 ?_
    exact gk_zretc (pc := 17) K d_Plain_isRoad_17 rfl (Or.inl rfl) h
  · refine gk_iload_n (pc := 4) K d_Plain_isRoad_4 rfl ?_
    refine gk_aload_n (pc := 5) K d_Plain_isRoad_5 rfl ?_
    refine gk_get (pc := 6) K d_Plain_isRoad_6 fl_Plain_34 tx_7 rfl rfl ?_
    refine gk_ic_ge (tgt := 16) (pc := 9) K d_Plain_isRoad_9 (by decide) h (fun h => ?_) (fun h => ?_)
    · refine gk_iconst (pc := 16) K d_Plain_isRoad_16 kc_0 ?_
      exact gk_zretc (pc := 17) K d_Plain_isRoad_17 rfl (Or.inl rfl) h
    · refine gk_iconst (pc := 12) K d_Plain_isRoad_12 kc_1 ?_
      refine gk_goto (tgt := 17) (pc := 13) K d_Plain_isRoad_13 (by decide) ?_
      exact gk_zretc (pc := 17) K d_Plain_isRoad_17 rfl (Or.inr rfl) h
theorem s_Plain_isRoad {l : Launch} {u : gk_U} (hD : gk_D tx u) {a1 : Int32} {m0 mem2 : gk_M} {r : Int32} (h : f_Plain_isRoad a1 m0 = some (r, mem2)) : gk_C tx l u me_Plain_isRoad 1 [.ref 7, .int a1] m0 (some (.int r)) mem2 :=
  gk_enter hD mc_Plain_isRoad (Nat.le_of_ble_eq_true rfl) rfl (fun z _ _ K => s_Plain_isRoad_0 K _ _  h)
theorem d_Plain_cornerAt_0 : decode me_Plain_cornerAt.2.1 0 = .ok (.aload_n 0, 1) := by decide +kernel
theorem d_Plain_cornerAt_1 : decode me_Plain_cornerAt.2.1 1 = .ok (.getfield 40, 3) := by decide +kernel
theorem d_Plain_cornerAt_4 : decode me_Plain_cornerAt.2.1 4 = .ok (.iload_n 1, 1) := by decide +kernel
theorem d_Plain_cornerAt_5 : decode me_Plain_cornerAt.2.1 5 = .ok (.bipush 6, 2) := by decide +kernel
theorem d_Plain_cornerAt_7 : decode me_Plain_cornerAt.2.1 7 = .ok (.imul, 1) := by decide +kernel
theorem d_Plain_cornerAt_8 : decode me_Plain_cornerAt.2.1 8 = .ok (.iload_n 2, 1) := by decide +kernel
theorem d_Plain_cornerAt_9 : decode me_Plain_cornerAt.2.1 9 = .ok (.iadd, 1) := by decide +kernel
theorem d_Plain_cornerAt_10 : decode me_Plain_cornerAt.2.1 10 = .ok (.iaload, 1) := by decide +kernel
theorem d_Plain_cornerAt_11 : decode me_Plain_cornerAt.2.1 11 = .ok (.ireturn, 1) := by decide +kernel
noncomputable def f_Plain_cornerAt  (a1 : Int32) (a2 : Int32) (m0 : gk_M) : Option (Int32 × gk_M) :=
  gk_ai m0 14 24 ((a1 * 6) + a2) fun v1 =>
  some (v1, m0)

theorem s_Plain_cornerAt_0 {z : gk_Z} (K : gk_F tx z me_Plain_cornerAt 1) {r : Int32} {mem2 : gk_M} : ∀ a1 a2 m0, f_Plain_cornerAt a1 a2 m0 = some (r, mem2) → gk_G tx z me_Plain_cornerAt (gk_R tx z (some (.int r)) mem2) m0 [(0, .ref 7), (1, .int a1), (2, .int a2)] [] 0 := by
  intro a1 a2 m0  h
  unfold f_Plain_cornerAt at h
  refine gk_aload_n (pc := 0) K d_Plain_cornerAt_0 rfl ?_
  refine gk_get (pc := 1) K d_Plain_cornerAt_1 fl_Plain_40 tx_7 rfl rfl ?_
  refine gk_iload_n (pc := 4) K d_Plain_cornerAt_4 rfl ?_
  refine gk_bipush (pc := 5) K d_Plain_cornerAt_5 kb_6 ?_
  refine gk_imul (pc := 7) K d_Plain_cornerAt_7 ?_
  refine gk_iload_n (pc := 8) K d_Plain_cornerAt_8 rfl ?_
  refine gk_iadd (pc := 9) K d_Plain_cornerAt_9 ?_
  refine gk_iald (pc := 10) K d_Plain_cornerAt_10 tx_14 h (fun v1 h => ?_)
  exact gk_iret (pc := 11) K d_Plain_cornerAt_11 rfl h
theorem s_Plain_cornerAt {l : Launch} {u : gk_U} (hD : gk_D tx u) {a1 : Int32} {a2 : Int32} {m0 mem2 : gk_M} {r : Int32} (h : f_Plain_cornerAt a1 a2 m0 = some (r, mem2)) : gk_C tx l u me_Plain_cornerAt 1 [.ref 7, .int a1, .int a2] m0 (some (.int r)) mem2 :=
  gk_enter hD mc_Plain_cornerAt (Nat.le_of_ble_eq_true rfl) rfl (fun z _ _ K => s_Plain_cornerAt_0 K _ _ _  h)
theorem d_Plain_addCorner_0 : decode me_Plain_addCorner.2.1 0 = .ok (.aload_n 0, 1) := by decide +kernel
theorem d_Plain_addCorner_1 : decode me_Plain_addCorner.2.1 1 = .ok (.getfield 31, 3) := by decide +kernel
theorem d_Plain_addCorner_4 : decode me_Plain_addCorner.2.1 4 = .ok (.iload_n 1, 1) := by decide +kernel
theorem d_Plain_addCorner_5 : decode me_Plain_addCorner.2.1 5 = .ok (.iaload, 1) := by decide +kernel
theorem d_Plain_addCorner_6 : decode me_Plain_addCorner.2.1 6 = .ok (.bipush 6, 2) := by decide +kernel
theorem d_Plain_addCorner_8 : decode me_Plain_addCorner.2.1 8 = .ok (.if_icmp .lt 6, 3) := by decide +kernel
theorem d_Plain_addCorner_11 : decode me_Plain_addCorner.2.1 11 = .ok (.bipush (-3), 2) := by decide +kernel
theorem d_Plain_addCorner_13 : decode me_Plain_addCorner.2.1 13 = .ok (.ireturn, 1) := by decide +kernel
theorem d_Plain_addCorner_14 : decode me_Plain_addCorner.2.1 14 = .ok (.aload_n 0, 1) := by decide +kernel
theorem d_Plain_addCorner_15 : decode me_Plain_addCorner.2.1 15 = .ok (.getfield 40, 3) := by decide +kernel
theorem d_Plain_addCorner_18 : decode me_Plain_addCorner.2.1 18 = .ok (.iload_n 1, 1) := by decide +kernel
theorem d_Plain_addCorner_19 : decode me_Plain_addCorner.2.1 19 = .ok (.bipush 6, 2) := by decide +kernel
theorem d_Plain_addCorner_21 : decode me_Plain_addCorner.2.1 21 = .ok (.imul, 1) := by decide +kernel
theorem d_Plain_addCorner_22 : decode me_Plain_addCorner.2.1 22 = .ok (.aload_n 0, 1) := by decide +kernel
theorem d_Plain_addCorner_23 : decode me_Plain_addCorner.2.1 23 = .ok (.getfield 31, 3) := by decide +kernel
theorem d_Plain_addCorner_26 : decode me_Plain_addCorner.2.1 26 = .ok (.iload_n 1, 1) := by decide +kernel
theorem d_Plain_addCorner_27 : decode me_Plain_addCorner.2.1 27 = .ok (.iaload, 1) := by decide +kernel
theorem d_Plain_addCorner_28 : decode me_Plain_addCorner.2.1 28 = .ok (.iadd, 1) := by decide +kernel
theorem d_Plain_addCorner_29 : decode me_Plain_addCorner.2.1 29 = .ok (.iload_n 2, 1) := by decide +kernel
theorem d_Plain_addCorner_30 : decode me_Plain_addCorner.2.1 30 = .ok (.iastore, 1) := by decide +kernel
theorem d_Plain_addCorner_31 : decode me_Plain_addCorner.2.1 31 = .ok (.aload_n 0, 1) := by decide +kernel
theorem d_Plain_addCorner_32 : decode me_Plain_addCorner.2.1 32 = .ok (.getfield 31, 3) := by decide +kernel
theorem d_Plain_addCorner_35 : decode me_Plain_addCorner.2.1 35 = .ok (.iload_n 1, 1) := by decide +kernel
theorem d_Plain_addCorner_36 : decode me_Plain_addCorner.2.1 36 = .ok (.dup2, 1) := by decide +kernel
theorem d_Plain_addCorner_37 : decode me_Plain_addCorner.2.1 37 = .ok (.iaload, 1) := by decide +kernel
theorem d_Plain_addCorner_38 : decode me_Plain_addCorner.2.1 38 = .ok (.iconst 1, 1) := by decide +kernel
theorem d_Plain_addCorner_39 : decode me_Plain_addCorner.2.1 39 = .ok (.iadd, 1) := by decide +kernel
theorem d_Plain_addCorner_40 : decode me_Plain_addCorner.2.1 40 = .ok (.iastore, 1) := by decide +kernel
theorem d_Plain_addCorner_41 : decode me_Plain_addCorner.2.1 41 = .ok (.aload_n 0, 1) := by decide +kernel
theorem d_Plain_addCorner_42 : decode me_Plain_addCorner.2.1 42 = .ok (.getfield 31, 3) := by decide +kernel
theorem d_Plain_addCorner_45 : decode me_Plain_addCorner.2.1 45 = .ok (.iload_n 1, 1) := by decide +kernel
theorem d_Plain_addCorner_46 : decode me_Plain_addCorner.2.1 46 = .ok (.iaload, 1) := by decide +kernel
theorem d_Plain_addCorner_47 : decode me_Plain_addCorner.2.1 47 = .ok (.ireturn, 1) := by decide +kernel
noncomputable def f_Plain_addCorner  (a1 : Int32) (a2 : Int32) (m0 : gk_M) : Option (Int32 × gk_M) :=
  gk_ai m0 13 4 a1 fun v1 =>
  if v1 < 6 then
    gk_ai m0 13 4 a1 fun v2 =>
    gk_si m0 14 24 ((a1 * 6) + v2) a2 fun m3 =>
    gk_ai m3 13 4 a1 fun v4 =>
    gk_si m3 13 4 a1 (v4 + 1) fun m5 =>
    gk_ai m5 13 4 a1 fun v6 =>
    some (v6, m5)
  else
    some ((-3), m0)

theorem s_Plain_addCorner_0 {z : gk_Z} (K : gk_F tx z me_Plain_addCorner 1) {r : Int32} {mem2 : gk_M} : ∀ a1 a2 m0, f_Plain_addCorner a1 a2 m0 = some (r, mem2) → gk_G tx z me_Plain_addCorner (gk_R tx z (some (.int r)) mem2) m0 [(0, .ref 7), (1, .int a1), (2, .int a2)] [] 0 := by
  intro a1 a2 m0  h
  unfold f_Plain_addCorner at h
  refine gk_aload_n (pc := 0) K d_Plain_addCorner_0 rfl ?_
  refine gk_get (pc := 1) K d_Plain_addCorner_1 fl_Plain_31 tx_7 rfl rfl ?_
  refine gk_iload_n (pc := 4) K d_Plain_addCorner_4 rfl ?_
  refine gk_iald (pc := 5) K d_Plain_addCorner_5 tx_13 h (fun v1 h => ?_)
  refine gk_bipush (pc := 6) K d_Plain_addCorner_6 kb_6 ?_
  refine gk_ic_lt (tgt := 14) (pc := 8) K d_Plain_addCorner_8 (by decide) h (fun h => ?_) (fun h => ?_)
  · refine gk_aload_n (pc := 14) K d_Plain_addCorner_14 rfl ?_
    refine gk_get (pc := 15) K d_Plain_addCorner_15 fl_Plain_40 tx_7 rfl rfl ?_
    refine gk_iload_n (pc := 18) K d_Plain_addCorner_18 rfl ?_
    refine gk_bipush (pc := 19) K d_Plain_addCorner_19 kb_6 ?_
    refine gk_imul (pc := 21) K d_Plain_addCorner_21 ?_
    refine gk_aload_n (pc := 22) K d_Plain_addCorner_22 rfl ?_
    refine gk_get (pc := 23) K d_Plain_addCorner_23 fl_Plain_31 tx_7 rfl rfl ?_
    refine gk_iload_n (pc := 26) K d_Plain_addCorner_26 rfl ?_
    refine gk_iald (pc := 27) K d_Plain_addCorner_27 tx_13 h (fun v2 h => ?_)
    refine gk_iadd (pc := 28) K d_Plain_addCorner_28 ?_
    refine gk_iload_n (pc := 29) K d_Plain_addCorner_29 rfl ?_
    refine gk_iast (pc := 30) K d_Plain_addCorner_30 tx_14 h (fun m3 h => ?_)
    refine gk_aload_n (pc := 31) K d_Plain_addCorner_31 rfl ?_
    refine gk_get (pc := 32) K d_Plain_addCorner_32 fl_Plain_31 tx_7 rfl rfl ?_
    refine gk_iload_n (pc := 35) K d_Plain_addCorner_35 rfl ?_
    refine gk_dup2 (pc := 36) K d_Plain_addCorner_36 rfl rfl ?_
    refine gk_iald (pc := 37) K d_Plain_addCorner_37 tx_13 h (fun v4 h => ?_)
    refine gk_iconst (pc := 38) K d_Plain_addCorner_38 kc_1 ?_
    refine gk_iadd (pc := 39) K d_Plain_addCorner_39 ?_
    refine gk_iast (pc := 40) K d_Plain_addCorner_40 tx_13 h (fun m5 h => ?_)
    refine gk_aload_n (pc := 41) K d_Plain_addCorner_41 rfl ?_
    refine gk_get (pc := 42) K d_Plain_addCorner_42 fl_Plain_31 tx_7 rfl rfl ?_
    refine gk_iload_n (pc := 45) K d_Plain_addCorner_45 rfl ?_
    refine gk_iald (pc := 46) K d_Plain_addCorner_46 tx_13 h (fun v6 h => ?_)
    exact gk_iret (pc := 47) K d_Plain_addCorner_47 rfl h
  · refine gk_bipush (pc := 11) K d_Plain_addCorner_11 kb_m3 ?_
    exact gk_iret (pc := 13) K d_Plain_addCorner_13 rfl h
theorem s_Plain_addCorner {l : Launch} {u : gk_U} (hD : gk_D tx u) {a1 : Int32} {a2 : Int32} {m0 mem2 : gk_M} {r : Int32} (h : f_Plain_addCorner a1 a2 m0 = some (r, mem2)) : gk_C tx l u me_Plain_addCorner 1 [.ref 7, .int a1, .int a2] m0 (some (.int r)) mem2 :=
  gk_enter hD mc_Plain_addCorner (Nat.le_of_ble_eq_true rfl) rfl (fun z _ _ K => s_Plain_addCorner_0 K _ _ _  h)
theorem d_X_corner_0 : decode me_X_corner.2.1 0 = .ok (.aload_n 0, 1) := by decide +kernel
theorem d_X_corner_1 : decode me_X_corner.2.1 1 = .ok (.getfield 28, 3) := by decide +kernel
theorem d_X_corner_4 : decode me_X_corner.2.1 4 = .ok (.iload_n 1, 1) := by decide +kernel
theorem d_X_corner_5 : decode me_X_corner.2.1 5 = .ok (.invokevirtual 106, 3) := by decide +kernel
theorem d_X_corner_8 : decode me_X_corner.2.1 8 = .ok (.ifCond .eq 33, 3) := by decide +kernel
theorem d_X_corner_11 : decode me_X_corner.2.1 11 = .ok (.iload_n 2, 1) := by decide +kernel
theorem d_X_corner_12 : decode me_X_corner.2.1 12 = .ok (.invokestatic 99, 3) := by decide +kernel
theorem d_X_corner_15 : decode me_X_corner.2.1 15 = .ok (.ifCond .eq 26, 3) := by decide +kernel
theorem d_X_corner_18 : decode me_X_corner.2.1 18 = .ok (.iload_n 2, 1) := by decide +kernel
theorem d_X_corner_19 : decode me_X_corner.2.1 19 = .ok (.aload_n 0, 1) := by decide +kernel
theorem d_X_corner_20 : decode me_X_corner.2.1 20 = .ok (.getfield 28, 3) := by decide +kernel
theorem d_X_corner_23 : decode me_X_corner.2.1 23 = .ok (.iload_n 1, 1) := by decide +kernel
theorem d_X_corner_24 : decode me_X_corner.2.1 24 = .ok (.aload_n 0, 1) := by decide +kernel
theorem d_X_corner_25 : decode me_X_corner.2.1 25 = .ok (.getfield 28, 3) := by decide +kernel
theorem d_X_corner_28 : decode me_X_corner.2.1 28 = .ok (.getfield 109, 3) := by decide +kernel
theorem d_X_corner_31 : decode me_X_corner.2.1 31 = .ok (.iload_n 1, 1) := by decide +kernel
theorem d_X_corner_32 : decode me_X_corner.2.1 32 = .ok (.iaload, 1) := by decide +kernel
theorem d_X_corner_33 : decode me_X_corner.2.1 33 = .ok (.iconst 1, 1) := by decide +kernel
theorem d_X_corner_34 : decode me_X_corner.2.1 34 = .ok (.isub, 1) := by decide +kernel
theorem d_X_corner_35 : decode me_X_corner.2.1 35 = .ok (.invokevirtual 113, 3) := by decide +kernel
theorem d_X_corner_38 : decode me_X_corner.2.1 38 = .ok (.if_icmp .ne 5, 3) := by decide +kernel
theorem d_X_corner_41 : decode me_X_corner.2.1 41 = .ok (.iconst (-1), 1) := by decide +kernel
theorem d_X_corner_42 : decode me_X_corner.2.1 42 = .ok (.ireturn, 1) := by decide +kernel
theorem d_X_corner_43 : decode me_X_corner.2.1 43 = .ok (.aload_n 0, 1) := by decide +kernel
theorem d_X_corner_44 : decode me_X_corner.2.1 44 = .ok (.getfield 28, 3) := by decide +kernel
theorem d_X_corner_47 : decode me_X_corner.2.1 47 = .ok (.iload_n 1, 1) := by decide +kernel
theorem d_X_corner_48 : decode me_X_corner.2.1 48 = .ok (.iload_n 2, 1) := by decide +kernel
theorem d_X_corner_49 : decode me_X_corner.2.1 49 = .ok (.invokevirtual 116, 3) := by decide +kernel
theorem d_X_corner_52 : decode me_X_corner.2.1 52 = .ok (.ireturn, 1) := by decide +kernel
noncomputable def f_X_corner  (a1 : Int32) (a2 : Int32) (m0 : gk_M) : Option (Int32 × gk_M) :=
  gk_bi (f_Plain_isRoad a1 m0) fun v2 m1 =>
  if v2 = 0 then
    some ((-1), m1)
  else
    gk_bi (f_X_isPoint a2 m1) fun v4 m3 =>
    if v4 = 0 then
      some ((-1), m3)
    else
      gk_ai m3 13 4 a1 fun v5 =>
      gk_bi (f_Plain_cornerAt a1 (v5 - 1) m3) fun v7 m6 =>
      if ¬ a2 = v7 then
        gk_bi (f_Plain_addCorner a1 a2 m6) fun v9 m8 =>
        some (v9, m8)
      else
        some ((-1), m6)

theorem s_X_corner_0 {z : gk_Z} (K : gk_F tx z me_X_corner 2) {r : Int32} {mem2 : gk_M} : ∀ a1 a2 m0, f_X_corner a1 a2 m0 = some (r, mem2) → gk_G tx z me_X_corner (gk_R tx z (some (.int r)) mem2) m0 [(0, .ref 0), (1, .int a1), (2, .int a2)] [] 0 := by
  intro a1 a2 m0  h
  unfold f_X_corner at h
  refine gk_aload_n (pc := 0) K d_X_corner_0 rfl ?_
  refine gk_get (pc := 1) K d_X_corner_1 fl_X_28 tx_0 rfl rfl ?_
  refine gk_iload_n (pc := 4) K d_X_corner_4 rfl ?_
  obtain ⟨v2, m1, em1, h⟩ := gk_bi_some h
  refine gk_cVi (As := [.int a1]) (pc := 5) K d_X_corner_5 mv_X_106 mc_Plain_isRoad rfl tx_7 cl_ok2.1 (s_Plain_isRoad (gk_FD K)  em1) (by decide) rfl (Nat.le_of_ble_eq_true rfl) ?_
  refine gk_if_eq (tgt := 41) (pc := 8) K d_X_corner_8 (by decide) h (fun h => ?_) (fun h => ?_)
  · refine gk_iconst (pc := 41) K d_X_corner_41 kc_m1 ?_
    exact gk_iret (pc := 42) K d_X_corner_42 rfl h
  · refine gk_iload_n (pc := 11) K d_X_corner_11 rfl ?_
    obtain ⟨v4, m3, em3, h⟩ := gk_bi_some h
    refine gk_cSi (As := [.int a2]) (pc := 12) K d_X_corner_12 ms_X_99 mc_X_isPoint rfl (s_X_isPoint (gk_FD K)  em3) (by decide) rfl (Nat.le_of_ble_eq_true rfl) ?_
    refine gk_if_eq (tgt := 41) (pc := 15) K d_X_corner_15 (by decide) h (fun h => ?_) (fun h => ?_)
    · refine gk_iconst (pc := 41) K d_X_corner_41 kc_m1 ?_
      exact gk_iret (pc := 42) K d_X_corner_42 rfl h
    · refine gk_iload_n (pc := 18) K d_X_corner_18 rfl ?_
      refine gk_aload_n (pc := 19) K d_X_corner_19 rfl ?_
      refine gk_get (pc := 20) K d_X_corner_20 fl_X_28 tx_0 rfl rfl ?_
      refine gk_iload_n (pc := 23) K d_X_corner_23 rfl ?_
      refine gk_aload_n (pc := 24) K d_X_corner_24 rfl ?_
      refine gk_get (pc := 25) K d_X_corner_25 fl_X_28 tx_0 rfl rfl ?_
      refine gk_get (pc := 28) K d_X_corner_28 fl_X_109 tx_7 rfl rfl ?_
      refine gk_iload_n (pc := 31) K d_X_corner_31 rfl ?_
      refine gk_iald (pc := 32) K d_X_corner_32 tx_13 h (fun v5 h => ?_)
      refine gk_iconst (pc := 33) K d_X_corner_33 kc_1 ?_
      refine gk_isub (pc := 34) K d_X_corner_34 ?_
      obtain ⟨v7, m6, em6, h⟩ := gk_bi_some h
      refine gk_cVi (As := [.int a1, .int (v5 - 1)]) (pc := 35) K d_X_corner_35 mv_X_113 mc_Plain_cornerAt rfl tx_7 cl_ok2.1 (s_Plain_cornerAt (gk_FD K)  em6) (by decide) rfl (Nat.le_of_ble_eq_true rfl) ?_
      refine gk_ic_ne (tgt := 43) (pc := 38) K d_X_corner_38 (by decide) h (fun h => ?_) (fun h => ?_)
      · refine gk_aload_n (pc := 43) K d_X_corner_43 rfl ?_
        refine gk_get (pc := 44) K d_X_corner_44 fl_X_28 tx_0 rfl rfl ?_
        refine gk_iload_n (pc := 47) K d_X_corner_47 rfl ?_
        refine gk_iload_n (pc := 48) K d_X_corner_48 rfl ?_
        obtain ⟨v9, m8, em8, h⟩ := gk_bi_some h
        refine gk_cVi (As := [.int a1, .int a2]) (pc := 49) K d_X_corner_49 mv_X_116 mc_Plain_addCorner rfl tx_7 cl_ok2.1 (s_Plain_addCorner (gk_FD K)  em8) (by decide) rfl (Nat.le_of_ble_eq_true rfl) ?_
        exact gk_iret (pc := 52) K d_X_corner_52 rfl h
      · refine gk_iconst (pc := 41) K d_X_corner_41 kc_m1 ?_
        exact gk_iret (pc := 42) K d_X_corner_42 rfl h
theorem s_X_corner {l : Launch} {u : gk_U} (hD : gk_D tx u) {a1 : Int32} {a2 : Int32} {m0 mem2 : gk_M} {r : Int32} (h : f_X_corner a1 a2 m0 = some (r, mem2)) : gk_C tx l u me_X_corner 2 [.ref 0, .int a1, .int a2] m0 (some (.int r)) mem2 :=
  gk_enter hD mc_X_corner (Nat.le_of_ble_eq_true rfl) rfl (fun z _ _ K => s_X_corner_0 K _ _ _  h)
theorem d_Plain_addForest_0 : decode me_Plain_addForest.2.1 0 = .ok (.aload_n 0, 1) := by decide +kernel
theorem d_Plain_addForest_1 : decode me_Plain_addForest.2.1 1 = .ok (.getfield 37, 3) := by decide +kernel
theorem d_Plain_addForest_4 : decode me_Plain_addForest.2.1 4 = .ok (.bipush 8, 2) := by decide +kernel
theorem d_Plain_addForest_6 : decode me_Plain_addForest.2.1 6 = .ok (.if_icmp .lt 6, 3) := by decide +kernel
theorem d_Plain_addForest_9 : decode me_Plain_addForest.2.1 9 = .ok (.bipush (-3), 2) := by decide +kernel
theorem d_Plain_addForest_11 : decode me_Plain_addForest.2.1 11 = .ok (.ireturn, 1) := by decide +kernel
theorem d_Plain_addForest_12 : decode me_Plain_addForest.2.1 12 = .ok (.aload_n 0, 1) := by decide +kernel
theorem d_Plain_addForest_13 : decode me_Plain_addForest.2.1 13 = .ok (.getfield 43, 3) := by decide +kernel
theorem d_Plain_addForest_16 : decode me_Plain_addForest.2.1 16 = .ok (.aload_n 0, 1) := by decide +kernel
theorem d_Plain_addForest_17 : decode me_Plain_addForest.2.1 17 = .ok (.getfield 37, 3) := by decide +kernel
theorem d_Plain_addForest_20 : decode me_Plain_addForest.2.1 20 = .ok (.iload_n 1, 1) := by decide +kernel
theorem d_Plain_addForest_21 : decode me_Plain_addForest.2.1 21 = .ok (.bipush 30, 2) := by decide +kernel
theorem d_Plain_addForest_23 : decode me_Plain_addForest.2.1 23 = .ok (.irem, 1) := by decide +kernel
theorem d_Plain_addForest_24 : decode me_Plain_addForest.2.1 24 = .ok (.iastore, 1) := by decide +kernel
theorem d_Plain_addForest_25 : decode me_Plain_addForest.2.1 25 = .ok (.aload_n 0, 1) := by decide +kernel
theorem d_Plain_addForest_26 : decode me_Plain_addForest.2.1 26 = .ok (.getfield 46, 3) := by decide +kernel
theorem d_Plain_addForest_29 : decode me_Plain_addForest.2.1 29 = .ok (.aload_n 0, 1) := by decide +kernel
theorem d_Plain_addForest_30 : decode me_Plain_addForest.2.1 30 = .ok (.getfield 37, 3) := by decide +kernel
theorem d_Plain_addForest_33 : decode me_Plain_addForest.2.1 33 = .ok (.iload_n 1, 1) := by decide +kernel
theorem d_Plain_addForest_34 : decode me_Plain_addForest.2.1 34 = .ok (.bipush 30, 2) := by decide +kernel
theorem d_Plain_addForest_36 : decode me_Plain_addForest.2.1 36 = .ok (.idiv, 1) := by decide +kernel
theorem d_Plain_addForest_37 : decode me_Plain_addForest.2.1 37 = .ok (.iastore, 1) := by decide +kernel
theorem d_Plain_addForest_38 : decode me_Plain_addForest.2.1 38 = .ok (.aload_n 0, 1) := by decide +kernel
theorem d_Plain_addForest_39 : decode me_Plain_addForest.2.1 39 = .ok (.getfield 49, 3) := by decide +kernel
theorem d_Plain_addForest_42 : decode me_Plain_addForest.2.1 42 = .ok (.aload_n 0, 1) := by decide +kernel
theorem d_Plain_addForest_43 : decode me_Plain_addForest.2.1 43 = .ok (.getfield 37, 3) := by decide +kernel
theorem d_Plain_addForest_46 : decode me_Plain_addForest.2.1 46 = .ok (.iload_n 2, 1) := by decide +kernel
theorem d_Plain_addForest_47 : decode me_Plain_addForest.2.1 47 = .ok (.bipush 30, 2) := by decide +kernel
theorem d_Plain_addForest_49 : decode me_Plain_addForest.2.1 49 = .ok (.irem, 1) := by decide +kernel
theorem d_Plain_addForest_50 : decode me_Plain_addForest.2.1 50 = .ok (.iastore, 1) := by decide +kernel
theorem d_Plain_addForest_51 : decode me_Plain_addForest.2.1 51 = .ok (.aload_n 0, 1) := by decide +kernel
theorem d_Plain_addForest_52 : decode me_Plain_addForest.2.1 52 = .ok (.getfield 52, 3) := by decide +kernel
theorem d_Plain_addForest_55 : decode me_Plain_addForest.2.1 55 = .ok (.aload_n 0, 1) := by decide +kernel
theorem d_Plain_addForest_56 : decode me_Plain_addForest.2.1 56 = .ok (.getfield 37, 3) := by decide +kernel
theorem d_Plain_addForest_59 : decode me_Plain_addForest.2.1 59 = .ok (.iload_n 2, 1) := by decide +kernel
theorem d_Plain_addForest_60 : decode me_Plain_addForest.2.1 60 = .ok (.bipush 30, 2) := by decide +kernel
theorem d_Plain_addForest_62 : decode me_Plain_addForest.2.1 62 = .ok (.idiv, 1) := by decide +kernel
theorem d_Plain_addForest_63 : decode me_Plain_addForest.2.1 63 = .ok (.iastore, 1) := by decide +kernel
theorem d_Plain_addForest_64 : decode me_Plain_addForest.2.1 64 = .ok (.aload_n 0, 1) := by decide +kernel
theorem d_Plain_addForest_65 : decode me_Plain_addForest.2.1 65 = .ok (.dup, 1) := by decide +kernel
theorem d_Plain_addForest_66 : decode me_Plain_addForest.2.1 66 = .ok (.getfield 37, 3) := by decide +kernel
theorem d_Plain_addForest_69 : decode me_Plain_addForest.2.1 69 = .ok (.iconst 1, 1) := by decide +kernel
theorem d_Plain_addForest_70 : decode me_Plain_addForest.2.1 70 = .ok (.iadd, 1) := by decide +kernel
theorem d_Plain_addForest_71 : decode me_Plain_addForest.2.1 71 = .ok (.putfield 37, 3) := by decide +kernel
theorem d_Plain_addForest_74 : decode me_Plain_addForest.2.1 74 = .ok (.aload_n 0, 1) := by decide +kernel
theorem d_Plain_addForest_75 : decode me_Plain_addForest.2.1 75 = .ok (.getfield 37, 3) := by decide +kernel
theorem d_Plain_addForest_78 : decode me_Plain_addForest.2.1 78 = .ok (.iconst 1, 1) := by decide +kernel
theorem d_Plain_addForest_79 : decode me_Plain_addForest.2.1 79 = .ok (.isub, 1) := by decide +kernel
theorem d_Plain_addForest_80 : decode me_Plain_addForest.2.1 80 = .ok (.ireturn, 1) := by decide +kernel
noncomputable def f_Plain_addForest  (a1 : Int32) (a2 : Int32) (m0 : gk_M) : Option (Int32 × gk_M) :=
  if (m0.1 7 8) < 8 then
    gk_si m0 15 8 (m0.1 7 8) (gk_rem a1 30) fun m1 =>
    gk_si m1 16 8 (m1.1 7 8) (a1 / 30) fun m2 =>
    gk_si m2 17 8 (m2.1 7 8) (gk_rem a2 30) fun m3 =>
    gk_si m3 18 8 (m3.1 7 8) (a2 / 30) fun m4 =>
    gk_let (gk_mi m4 7 8 ((m4.1 7 8) + 1)) fun m5 =>
    some (((m5.1 7 8) - 1), m5)
  else
    some ((-3), m0)

theorem s_Plain_addForest_0 {z : gk_Z} (K : gk_F tx z me_Plain_addForest 1) {r : Int32} {mem2 : gk_M} : ∀ a1 a2 m0, f_Plain_addForest a1 a2 m0 = some (r, mem2) → gk_G tx z me_Plain_addForest (gk_R tx z (some (.int r)) mem2) m0 [(0, .ref 7), (1, .int a1), (2, .int a2)] [] 0 := by
  intro a1 a2 m0  h
  unfold f_Plain_addForest at h
  refine gk_aload_n (pc := 0) K d_Plain_addForest_0 rfl ?_
  refine gk_get (pc := 1) K d_Plain_addForest_1 fl_Plain_37 tx_7 rfl rfl ?_
  refine gk_bipush (pc := 4) K d_Plain_addForest_4 kb_8 ?_
  refine gk_ic_lt (tgt := 12) (pc := 6) K d_Plain_addForest_6 (by decide) h (fun h => ?_) (fun h => ?_)
  · refine gk_aload_n (pc := 12) K d_Plain_addForest_12 rfl ?_
    refine gk_get (pc := 13) K d_Plain_addForest_13 fl_Plain_43 tx_7 rfl rfl ?_
    refine gk_aload_n (pc := 16) K d_Plain_addForest_16 rfl ?_
    refine gk_get (pc := 17) K d_Plain_addForest_17 fl_Plain_37 tx_7 rfl rfl ?_
    refine gk_iload_n (pc := 20) K d_Plain_addForest_20 rfl ?_
    refine gk_bipush (pc := 21) K d_Plain_addForest_21 kb_30 ?_
    refine gk_iremc2 (pc := 23) K d_Plain_addForest_23 (by decide) ?_
    refine gk_iast (pc := 24) K d_Plain_addForest_24 tx_15 h (fun m1 h => ?_)
    refine gk_aload_n (pc := 25) K d_Plain_addForest_25 rfl ?_
    refine gk_get (pc := 26) K d_Plain_addForest_26 fl_Plain_46 tx_7 rfl rfl ?_
    refine gk_aload_n (pc := 29) K d_Plain_addForest_29 rfl ?_
    refine gk_get (pc := 30) K d_Plain_addForest_30 fl_Plain_37 tx_7 rfl rfl ?_
    refine gk_iload_n (pc := 33) K d_Plain_addForest_33 rfl ?_
    refine gk_bipush (pc := 34) K d_Plain_addForest_34 kb_30 ?_
    refine gk_idivc2 (pc := 36) K d_Plain_addForest_36 (by decide) ?_
    refine gk_iast (pc := 37) K d_Plain_addForest_37 tx_16 h (fun m2 h => ?_)
    refine gk_aload_n (pc := 38) K d_Plain_addForest_38 rfl ?_
    refine gk_get (pc := 39) K d_Plain_addForest_39 fl_Plain_49 tx_7 rfl rfl ?_
    refine gk_aload_n (pc := 42) K d_Plain_addForest_42 rfl ?_
    refine gk_get (pc := 43) K d_Plain_addForest_43 fl_Plain_37 tx_7 rfl rfl ?_
    refine gk_iload_n (pc := 46) K d_Plain_addForest_46 rfl ?_
    refine gk_bipush (pc := 47) K d_Plain_addForest_47 kb_30 ?_
    refine gk_iremc2 (pc := 49) K d_Plain_addForest_49 (by decide) ?_
    refine gk_iast (pc := 50) K d_Plain_addForest_50 tx_17 h (fun m3 h => ?_)
    refine gk_aload_n (pc := 51) K d_Plain_addForest_51 rfl ?_
    refine gk_get (pc := 52) K d_Plain_addForest_52 fl_Plain_52 tx_7 rfl rfl ?_
    refine gk_aload_n (pc := 55) K d_Plain_addForest_55 rfl ?_
    refine gk_get (pc := 56) K d_Plain_addForest_56 fl_Plain_37 tx_7 rfl rfl ?_
    refine gk_iload_n (pc := 59) K d_Plain_addForest_59 rfl ?_
    refine gk_bipush (pc := 60) K d_Plain_addForest_60 kb_30 ?_
    refine gk_idivc2 (pc := 62) K d_Plain_addForest_62 (by decide) ?_
    refine gk_iast (pc := 63) K d_Plain_addForest_63 tx_18 h (fun m4 h => ?_)
    refine gk_aload_n (pc := 64) K d_Plain_addForest_64 rfl ?_
    refine gk_dup (pc := 65) K d_Plain_addForest_65 rfl ?_
    refine gk_get (pc := 66) K d_Plain_addForest_66 fl_Plain_37 tx_7 rfl rfl ?_
    refine gk_iconst (pc := 69) K d_Plain_addForest_69 kc_1 ?_
    refine gk_iadd (pc := 70) K d_Plain_addForest_70 ?_
    refine gk_puti (pc := 71) K d_Plain_addForest_71 fp_Plain_37 tx_7 rfl h (fun m5 h => ?_)
    refine gk_aload_n (pc := 74) K d_Plain_addForest_74 rfl ?_
    refine gk_get (pc := 75) K d_Plain_addForest_75 fl_Plain_37 tx_7 rfl rfl ?_
    refine gk_iconst (pc := 78) K d_Plain_addForest_78 kc_1 ?_
    refine gk_isub (pc := 79) K d_Plain_addForest_79 ?_
    exact gk_iret (pc := 80) K d_Plain_addForest_80 rfl h
  · refine gk_bipush (pc := 9) K d_Plain_addForest_9 kb_m3 ?_
    exact gk_iret (pc := 11) K d_Plain_addForest_11 rfl h
theorem s_Plain_addForest {l : Launch} {u : gk_U} (hD : gk_D tx u) {a1 : Int32} {a2 : Int32} {m0 mem2 : gk_M} {r : Int32} (h : f_Plain_addForest a1 a2 m0 = some (r, mem2)) : gk_C tx l u me_Plain_addForest 1 [.ref 7, .int a1, .int a2] m0 (some (.int r)) mem2 :=
  gk_enter hD mc_Plain_addForest (Nat.le_of_ble_eq_true rfl) rfl (fun z _ _ K => s_Plain_addForest_0 K _ _ _  h)
theorem d_X_forest_0 : decode me_X_forest.2.1 0 = .ok (.iload_n 1, 1) := by decide +kernel
theorem d_X_forest_1 : decode me_X_forest.2.1 1 = .ok (.invokestatic 99, 3) := by decide +kernel
theorem d_X_forest_4 : decode me_X_forest.2.1 4 = .ok (.ifCond .eq 15, 3) := by decide +kernel
theorem d_X_forest_7 : decode me_X_forest.2.1 7 = .ok (.iload_n 2, 1) := by decide +kernel
theorem d_X_forest_8 : decode me_X_forest.2.1 8 = .ok (.invokestatic 99, 3) := by decide +kernel
theorem d_X_forest_11 : decode me_X_forest.2.1 11 = .ok (.ifCond .eq 8, 3) := by decide +kernel
theorem d_X_forest_14 : decode me_X_forest.2.1 14 = .ok (.iload_n 1, 1) := by decide +kernel
theorem d_X_forest_15 : decode me_X_forest.2.1 15 = .ok (.iload_n 2, 1) := by decide +kernel
theorem d_X_forest_16 : decode me_X_forest.2.1 16 = .ok (.if_icmp .ne 5, 3) := by decide +kernel
theorem d_X_forest_19 : decode me_X_forest.2.1 19 = .ok (.iconst (-1), 1) := by decide +kernel
theorem d_X_forest_20 : decode me_X_forest.2.1 20 = .ok (.ireturn, 1) := by decide +kernel
theorem d_X_forest_21 : decode me_X_forest.2.1 21 = .ok (.aload_n 0, 1) := by decide +kernel
theorem d_X_forest_22 : decode me_X_forest.2.1 22 = .ok (.getfield 28, 3) := by decide +kernel
theorem d_X_forest_25 : decode me_X_forest.2.1 25 = .ok (.iload_n 1, 1) := by decide +kernel
theorem d_X_forest_26 : decode me_X_forest.2.1 26 = .ok (.iload_n 2, 1) := by decide +kernel
theorem d_X_forest_27 : decode me_X_forest.2.1 27 = .ok (.invokevirtual 119, 3) := by decide +kernel
theorem d_X_forest_30 : decode me_X_forest.2.1 30 = .ok (.ireturn, 1) := by decide +kernel
noncomputable def f_X_forest  (a1 : Int32) (a2 : Int32) (m0 : gk_M) : Option (Int32 × gk_M) :=
  gk_bi (f_X_isPoint a1 m0) fun v2 m1 =>
  if v2 = 0 then
    some ((-1), m1)
  else
    gk_bi (f_X_isPoint a2 m1) fun v4 m3 =>
    if v4 = 0 then
      some ((-1), m3)
    else
      if ¬ a1 = a2 then
        gk_bi (f_Plain_addForest a1 a2 m3) fun v6 m5 =>
        some (v6, m5)
      else
        some ((-1), m3)

theorem s_X_forest_0 {z : gk_Z} (K : gk_F tx z me_X_forest 2) {r : Int32} {mem2 : gk_M} : ∀ a1 a2 m0, f_X_forest a1 a2 m0 = some (r, mem2) → gk_G tx z me_X_forest (gk_R tx z (some (.int r)) mem2) m0 [(0, .ref 0), (1, .int a1), (2, .int a2)] [] 0 := by
  intro a1 a2 m0  h
  unfold f_X_forest at h
  refine gk_iload_n (pc := 0) K d_X_forest_0 rfl ?_
  obtain ⟨v2, m1, em1, h⟩ := gk_bi_some h
  refine gk_cSi (As := [.int a1]) (pc := 1) K d_X_forest_1 ms_X_99 mc_X_isPoint rfl (s_X_isPoint (gk_FD K)  em1) (by decide) rfl (Nat.le_of_ble_eq_true rfl) ?_
  refine gk_if_eq (tgt := 19) (pc := 4) K d_X_forest_4 (by decide) h (fun h => ?_) (fun h => ?_)
  · refine gk_iconst (pc := 19) K d_X_forest_19 kc_m1 ?_
    exact gk_iret (pc := 20) K d_X_forest_20 rfl h
  · refine gk_iload_n (pc := 7) K d_X_forest_7 rfl ?_
    obtain ⟨v4, m3, em3, h⟩ := gk_bi_some h
    refine gk_cSi (As := [.int a2]) (pc := 8) K d_X_forest_8 ms_X_99 mc_X_isPoint rfl (s_X_isPoint (gk_FD K)  em3) (by decide) rfl (Nat.le_of_ble_eq_true rfl) ?_
    refine gk_if_eq (tgt := 19) (pc := 11) K d_X_forest_11 (by decide) h (fun h => ?_) (fun h => ?_)
    · refine gk_iconst (pc := 19) K d_X_forest_19 kc_m1 ?_
      exact gk_iret (pc := 20) K d_X_forest_20 rfl h
    · refine gk_iload_n (pc := 14) K d_X_forest_14 rfl ?_
      refine gk_iload_n (pc := 15) K d_X_forest_15 rfl ?_
      refine gk_ic_ne (tgt := 21) (pc := 16) K d_X_forest_16 (by decide) h (fun h => ?_) (fun h => ?_)
      · refine gk_aload_n (pc := 21) K d_X_forest_21 rfl ?_
        refine gk_get (pc := 22) K d_X_forest_22 fl_X_28 tx_0 rfl rfl ?_
        refine gk_iload_n (pc := 25) K d_X_forest_25 rfl ?_
        refine gk_iload_n (pc := 26) K d_X_forest_26 rfl ?_
        obtain ⟨v6, m5, em5, h⟩ := gk_bi_some h
        refine gk_cVi (As := [.int a1, .int a2]) (pc := 27) K d_X_forest_27 mv_X_119 mc_Plain_addForest rfl tx_7 cl_ok2.1 (s_Plain_addForest (gk_FD K)  em5) (by decide) rfl (Nat.le_of_ble_eq_true rfl) ?_
        exact gk_iret (pc := 30) K d_X_forest_30 rfl h
      · refine gk_iconst (pc := 19) K d_X_forest_19 kc_m1 ?_
        exact gk_iret (pc := 20) K d_X_forest_20 rfl h
theorem s_X_forest {l : Launch} {u : gk_U} (hD : gk_D tx u) {a1 : Int32} {a2 : Int32} {m0 mem2 : gk_M} {r : Int32} (h : f_X_forest a1 a2 m0 = some (r, mem2)) : gk_C tx l u me_X_forest 2 [.ref 0, .int a1, .int a2] m0 (some (.int r)) mem2 :=
  gk_enter hD mc_X_forest (Nat.le_of_ble_eq_true rfl) rfl (fun z _ _ K => s_X_forest_0 K _ _ _  h)
theorem d_Reader_take_0 : decode me_Reader_take.2.1 0 = .ok (.aload_n 0, 1) := by decide +kernel
theorem d_Reader_take_1 : decode me_Reader_take.2.1 1 = .ok (.getfield 21, 3) := by decide +kernel
theorem d_Reader_take_4 : decode me_Reader_take.2.1 4 = .ok (.bipush 120, 2) := by decide +kernel
theorem d_Reader_take_6 : decode me_Reader_take.2.1 6 = .ok (.if_icmp .lt 6, 3) := by decide +kernel
theorem d_Reader_take_9 : decode me_Reader_take.2.1 9 = .ok (.bipush (-3), 2) := by decide +kernel
theorem d_Reader_take_11 : decode me_Reader_take.2.1 11 = .ok (.ireturn, 1) := by decide +kernel
theorem d_Reader_take_12 : decode me_Reader_take.2.1 12 = .ok (.aload_n 0, 1) := by decide +kernel
theorem d_Reader_take_13 : decode me_Reader_take.2.1 13 = .ok (.getfield 24, 3) := by decide +kernel
theorem d_Reader_take_16 : decode me_Reader_take.2.1 16 = .ok (.aload_n 0, 1) := by decide +kernel
theorem d_Reader_take_17 : decode me_Reader_take.2.1 17 = .ok (.getfield 21, 3) := by decide +kernel
theorem d_Reader_take_20 : decode me_Reader_take.2.1 20 = .ok (.iload_n 1, 1) := by decide +kernel
theorem d_Reader_take_21 : decode me_Reader_take.2.1 21 = .ok (.iastore, 1) := by decide +kernel
theorem d_Reader_take_22 : decode me_Reader_take.2.1 22 = .ok (.aload_n 0, 1) := by decide +kernel
theorem d_Reader_take_23 : decode me_Reader_take.2.1 23 = .ok (.dup, 1) := by decide +kernel
theorem d_Reader_take_24 : decode me_Reader_take.2.1 24 = .ok (.getfield 21, 3) := by decide +kernel
theorem d_Reader_take_27 : decode me_Reader_take.2.1 27 = .ok (.iconst 1, 1) := by decide +kernel
theorem d_Reader_take_28 : decode me_Reader_take.2.1 28 = .ok (.iadd, 1) := by decide +kernel
theorem d_Reader_take_29 : decode me_Reader_take.2.1 29 = .ok (.putfield 21, 3) := by decide +kernel
theorem d_Reader_take_32 : decode me_Reader_take.2.1 32 = .ok (.aload_n 0, 1) := by decide +kernel
theorem d_Reader_take_33 : decode me_Reader_take.2.1 33 = .ok (.getfield 21, 3) := by decide +kernel
theorem d_Reader_take_36 : decode me_Reader_take.2.1 36 = .ok (.ireturn, 1) := by decide +kernel
noncomputable def f_Reader_take  (a1 : Int32) (m0 : gk_M) : Option (Int32 × gk_M) :=
  if (m0.1 4 2) < 120 then
    gk_si m0 6 120 (m0.1 4 2) a1 fun m1 =>
    gk_let (gk_mi m1 4 2 ((m1.1 4 2) + 1)) fun m2 =>
    some ((m2.1 4 2), m2)
  else
    some ((-3), m0)

theorem s_Reader_take_0 {z : gk_Z} (K : gk_F tx z me_Reader_take 1) {r : Int32} {mem2 : gk_M} : ∀ a1 m0, f_Reader_take a1 m0 = some (r, mem2) → gk_G tx z me_Reader_take (gk_R tx z (some (.int r)) mem2) m0 [(0, .ref 4), (1, .int a1)] [] 0 := by
  intro a1 m0  h
  unfold f_Reader_take at h
  refine gk_aload_n (pc := 0) K d_Reader_take_0 rfl ?_
  refine gk_get (pc := 1) K d_Reader_take_1 fl_Reader_21 tx_4 rfl rfl ?_
  refine gk_bipush (pc := 4) K d_Reader_take_4 kb_120 ?_
  refine gk_ic_lt (tgt := 12) (pc := 6) K d_Reader_take_6 (by decide) h (fun h => ?_) (fun h => ?_)
  · refine gk_aload_n (pc := 12) K d_Reader_take_12 rfl ?_
    refine gk_get (pc := 13) K d_Reader_take_13 fl_Reader_24 tx_4 rfl rfl ?_
    refine gk_aload_n (pc := 16) K d_Reader_take_16 rfl ?_
    refine gk_get (pc := 17) K d_Reader_take_17 fl_Reader_21 tx_4 rfl rfl ?_
    refine gk_iload_n (pc := 20) K d_Reader_take_20 rfl ?_
    refine gk_iast (pc := 21) K d_Reader_take_21 tx_6 h (fun m1 h => ?_)
    refine gk_aload_n (pc := 22) K d_Reader_take_22 rfl ?_
    refine gk_dup (pc := 23) K d_Reader_take_23 rfl ?_
    refine gk_get (pc := 24) K d_Reader_take_24 fl_Reader_21 tx_4 rfl rfl ?_
    refine gk_iconst (pc := 27) K d_Reader_take_27 kc_1 ?_
    refine gk_iadd (pc := 28) K d_Reader_take_28 ?_
    refine gk_puti (pc := 29) K d_Reader_take_29 fp_Reader_21 tx_4 rfl h (fun m2 h => ?_)
    refine gk_aload_n (pc := 32) K d_Reader_take_32 rfl ?_
    refine gk_get (pc := 33) K d_Reader_take_33 fl_Reader_21 tx_4 rfl rfl ?_
    exact gk_iret (pc := 36) K d_Reader_take_36 rfl h
  · refine gk_bipush (pc := 9) K d_Reader_take_9 kb_m3 ?_
    exact gk_iret (pc := 11) K d_Reader_take_11 rfl h
theorem s_Reader_take {l : Launch} {u : gk_U} (hD : gk_D tx u) {a1 : Int32} {m0 mem2 : gk_M} {r : Int32} (h : f_Reader_take a1 m0 = some (r, mem2)) : gk_C tx l u me_Reader_take 1 [.ref 4, .int a1] m0 (some (.int r)) mem2 :=
  gk_enter hD mc_Reader_take (Nat.le_of_ble_eq_true rfl) rfl (fun z _ _ K => s_Reader_take_0 K _ _  h)
theorem d_X_feed_0 : decode me_X_feed.2.1 0 = .ok (.iload_n 1, 1) := by decide +kernel
theorem d_X_feed_1 : decode me_X_feed.2.1 1 = .ok (.ifCond .lt 10, 3) := by decide +kernel
theorem d_X_feed_4 : decode me_X_feed.2.1 4 = .ok (.iload_n 1, 1) := by decide +kernel
theorem d_X_feed_5 : decode me_X_feed.2.1 5 = .ok (.sipush 255, 3) := by decide +kernel
theorem d_X_feed_8 : decode me_X_feed.2.1 8 = .ok (.if_icmp .le 5, 3) := by decide +kernel
theorem d_X_feed_11 : decode me_X_feed.2.1 11 = .ok (.iconst (-1), 1) := by decide +kernel
theorem d_X_feed_12 : decode me_X_feed.2.1 12 = .ok (.ireturn, 1) := by decide +kernel
theorem d_X_feed_13 : decode me_X_feed.2.1 13 = .ok (.aload_n 0, 1) := by decide +kernel
theorem d_X_feed_14 : decode me_X_feed.2.1 14 = .ok (.getfield 19, 3) := by decide +kernel
theorem d_X_feed_17 : decode me_X_feed.2.1 17 = .ok (.iload_n 1, 1) := by decide +kernel
theorem d_X_feed_18 : decode me_X_feed.2.1 18 = .ok (.invokevirtual 122, 3) := by decide +kernel
theorem d_X_feed_21 : decode me_X_feed.2.1 21 = .ok (.ireturn, 1) := by decide +kernel
noncomputable def f_X_feed  (a1 : Int32) (m0 : gk_M) : Option (Int32 × gk_M) :=
  if a1 < 0 then
    some ((-1), m0)
  else
    if a1 ≤ 255 then
      gk_bi (f_Reader_take a1 m0) fun v2 m1 =>
      some (v2, m1)
    else
      some ((-1), m0)

theorem s_X_feed_0 {z : gk_Z} (K : gk_F tx z me_X_feed 2) {r : Int32} {mem2 : gk_M} : ∀ a1 m0, f_X_feed a1 m0 = some (r, mem2) → gk_G tx z me_X_feed (gk_R tx z (some (.int r)) mem2) m0 [(0, .ref 0), (1, .int a1)] [] 0 := by
  intro a1 m0  h
  unfold f_X_feed at h
  refine gk_iload_n (pc := 0) K d_X_feed_0 rfl ?_
  refine gk_if_lt (tgt := 11) (pc := 1) K d_X_feed_1 (by decide) h (fun h => ?_) (fun h => ?_)
  · refine gk_iconst (pc := 11) K d_X_feed_11 kc_m1 ?_
    exact gk_iret (pc := 12) K d_X_feed_12 rfl h
  · refine gk_iload_n (pc := 4) K d_X_feed_4 rfl ?_
    refine gk_sipush (pc := 5) K d_X_feed_5 ks_255 ?_
    refine gk_ic_le (tgt := 13) (pc := 8) K d_X_feed_8 (by decide) h (fun h => ?_) (fun h => ?_)
    · refine gk_aload_n (pc := 13) K d_X_feed_13 rfl ?_
      refine gk_get (pc := 14) K d_X_feed_14 fl_X_19 tx_0 rfl rfl ?_
      refine gk_iload_n (pc := 17) K d_X_feed_17 rfl ?_
      obtain ⟨v2, m1, em1, h⟩ := gk_bi_some h
      refine gk_cVi (As := [.int a1]) (pc := 18) K d_X_feed_18 mv_X_122 mc_Reader_take rfl tx_4 cl_ok1.1 (s_Reader_take (gk_FD K)  em1) (by decide) rfl (Nat.le_of_ble_eq_true rfl) ?_
      exact gk_iret (pc := 21) K d_X_feed_21 rfl h
    · refine gk_iconst (pc := 11) K d_X_feed_11 kc_m1 ?_
      exact gk_iret (pc := 12) K d_X_feed_12 rfl h
theorem s_X_feed {l : Launch} {u : gk_U} (hD : gk_D tx u) {a1 : Int32} {m0 mem2 : gk_M} {r : Int32} (h : f_X_feed a1 m0 = some (r, mem2)) : gk_C tx l u me_X_feed 2 [.ref 0, .int a1] m0 (some (.int r)) mem2 :=
  gk_enter hD mc_X_feed (Nat.le_of_ble_eq_true rfl) rfl (fun z _ _ K => s_X_feed_0 K _ _  h)
theorem d_Reader_next_0 : decode me_Reader_next.2.1 0 = .ok (.aload_n 0, 1) := by decide +kernel
theorem d_Reader_next_1 : decode me_Reader_next.2.1 1 = .ok (.getfield 27, 3) := by decide +kernel
theorem d_Reader_next_4 : decode me_Reader_next.2.1 4 = .ok (.aload_n 0, 1) := by decide +kernel
theorem d_Reader_next_5 : decode me_Reader_next.2.1 5 = .ok (.getfield 21, 3) := by decide +kernel
theorem d_Reader_next_8 : decode me_Reader_next.2.1 8 = .ok (.if_icmp .ge 15, 3) := by decide +kernel
theorem d_Reader_next_11 : decode me_Reader_next.2.1 11 = .ok (.aload_n 0, 1) := by decide +kernel
theorem d_Reader_next_12 : decode me_Reader_next.2.1 12 = .ok (.getfield 24, 3) := by decide +kernel
theorem d_Reader_next_15 : decode me_Reader_next.2.1 15 = .ok (.aload_n 0, 1) := by decide +kernel
theorem d_Reader_next_16 : decode me_Reader_next.2.1 16 = .ok (.getfield 27, 3) := by decide +kernel
theorem d_Reader_next_19 : decode me_Reader_next.2.1 19 = .ok (.iaload, 1) := by decide +kernel
theorem d_Reader_next_20 : decode me_Reader_next.2.1 20 = .ok (.goto 4, 3) := by decide +kernel
theorem d_Reader_next_23 : decode me_Reader_next.2.1 23 = .ok (.iconst (-1), 1) := by decide +kernel
theorem d_Reader_next_24 : decode me_Reader_next.2.1 24 = .ok (.ireturn, 1) := by decide +kernel
noncomputable def f_Reader_next   (m0 : gk_M) : Option (Int32 × gk_M) :=
  if (m0.1 4 2) ≤ (m0.1 4 4) then
    some ((-1), m0)
  else
    gk_ai m0 6 120 (m0.1 4 4) fun v1 =>
    some (v1, m0)

theorem s_Reader_next_0 {z : gk_Z} (K : gk_F tx z me_Reader_next 1) {r : Int32} {mem2 : gk_M} : ∀  m0, f_Reader_next  m0 = some (r, mem2) → gk_G tx z me_Reader_next (gk_R tx z (some (.int r)) mem2) m0 [(0, .ref 4)] [] 0 := by
  intro  m0  h
  unfold f_Reader_next at h
  refine gk_aload_n (pc := 0) K d_Reader_next_0 rfl ?_
  refine gk_get (pc := 1) K d_Reader_next_1 fl_Reader_27 tx_4 rfl rfl ?_
  refine gk_aload_n (pc := 4) K d_Reader_next_4 rfl ?_
  refine gk_get (pc := 5) K d_Reader_next_5 fl_Reader_21 tx_4 rfl rfl ?_
  refine gk_ic_ge (tgt := 23) (pc := 8) K d_Reader_next_8 (by decide) h (fun h => ?_) (fun h => ?_)
  · refine gk_iconst (pc := 23) K d_Reader_next_23 kc_m1 ?_
    exact gk_iret (pc := 24) K d_Reader_next_24 rfl h
  · refine gk_aload_n (pc := 11) K d_Reader_next_11 rfl ?_
    refine gk_get (pc := 12) K d_Reader_next_12 fl_Reader_24 tx_4 rfl rfl ?_
    refine gk_aload_n (pc := 15) K d_Reader_next_15 rfl ?_
    refine gk_get (pc := 16) K d_Reader_next_16 fl_Reader_27 tx_4 rfl rfl ?_
    refine gk_iald (pc := 19) K d_Reader_next_19 tx_6 h (fun v1 h => ?_)
    refine gk_goto (tgt := 24) (pc := 20) K d_Reader_next_20 (by decide) ?_
    exact gk_iret (pc := 24) K d_Reader_next_24 rfl h
theorem s_Reader_next {l : Launch} {u : gk_U} (hD : gk_D tx u) {m0 mem2 : gk_M} {r : Int32} (h : f_Reader_next  m0 = some (r, mem2)) : gk_C tx l u me_Reader_next 1 [.ref 4] m0 (some (.int r)) mem2 :=
  gk_enter hD mc_Reader_next (Nat.le_of_ble_eq_true rfl) rfl (fun z _ _ K => s_Reader_next_0 K  _  h)
theorem d_Reader_draw_0 : decode me_Reader_draw.2.1 0 = .ok (.aload_n 0, 1) := by decide +kernel
theorem d_Reader_draw_1 : decode me_Reader_draw.2.1 1 = .ok (.getfield 17, 3) := by decide +kernel
theorem d_Reader_draw_4 : decode me_Reader_draw.2.1 4 = .ok (.sipush 256, 3) := by decide +kernel
theorem d_Reader_draw_7 : decode me_Reader_draw.2.1 7 = .ok (.if_icmp .ge 23, 3) := by decide +kernel
theorem d_Reader_draw_10 : decode me_Reader_draw.2.1 10 = .ok (.aload_n 0, 1) := by decide +kernel
theorem d_Reader_draw_11 : decode me_Reader_draw.2.1 11 = .ok (.getfield 11, 3) := by decide +kernel
theorem d_Reader_draw_14 : decode me_Reader_draw.2.1 14 = .ok (.aload_n 0, 1) := by decide +kernel
theorem d_Reader_draw_15 : decode me_Reader_draw.2.1 15 = .ok (.getfield 17, 3) := by decide +kernel
theorem d_Reader_draw_18 : decode me_Reader_draw.2.1 18 = .ok (.iload_n 1, 1) := by decide +kernel
theorem d_Reader_draw_19 : decode me_Reader_draw.2.1 19 = .ok (.iastore, 1) := by decide +kernel
theorem d_Reader_draw_20 : decode me_Reader_draw.2.1 20 = .ok (.aload_n 0, 1) := by decide +kernel
theorem d_Reader_draw_21 : decode me_Reader_draw.2.1 21 = .ok (.dup, 1) := by decide +kernel
theorem d_Reader_draw_22 : decode me_Reader_draw.2.1 22 = .ok (.getfield 17, 3) := by decide +kernel
theorem d_Reader_draw_25 : decode me_Reader_draw.2.1 25 = .ok (.iconst 1, 1) := by decide +kernel
theorem d_Reader_draw_26 : decode me_Reader_draw.2.1 26 = .ok (.iadd, 1) := by decide +kernel
theorem d_Reader_draw_27 : decode me_Reader_draw.2.1 27 = .ok (.putfield 17, 3) := by decide +kernel
theorem d_Reader_draw_30 : decode me_Reader_draw.2.1 30 = .ok (.return_, 1) := by decide +kernel
noncomputable def f_Reader_draw  (a1 : Int32) (m0 : gk_M) : Option (Unit × gk_M) :=
  if 256 ≤ (m0.1 4 1) then
    some ((), m0)
  else
    gk_si m0 5 256 (m0.1 4 1) a1 fun m1 =>
    gk_let (gk_mi m1 4 1 ((m1.1 4 1) + 1)) fun m2 =>
    some ((), m2)

theorem s_Reader_draw_0 {z : gk_Z} (K : gk_F tx z me_Reader_draw 1) {r : Unit} {mem2 : gk_M} : ∀ a1 m0, f_Reader_draw a1 m0 = some (r, mem2) → gk_G tx z me_Reader_draw (gk_R tx z none mem2) m0 [(0, .ref 4), (1, .int a1)] [] 0 := by
  intro a1 m0  h
  unfold f_Reader_draw at h
  refine gk_aload_n (pc := 0) K d_Reader_draw_0 rfl ?_
  refine gk_get (pc := 1) K d_Reader_draw_1 fl_Reader_17 tx_4 rfl rfl ?_
  refine gk_sipush (pc := 4) K d_Reader_draw_4 ks_256 ?_
  refine gk_ic_ge (tgt := 30) (pc := 7) K d_Reader_draw_7 (by decide) h (fun h => ?_) (fun h => ?_)
  · exact gk_vret (pc := 30) K d_Reader_draw_30 rfl h
  · refine gk_aload_n (pc := 10) K d_Reader_draw_10 rfl ?_
    refine gk_get (pc := 11) K d_Reader_draw_11 fl_Reader_11 tx_4 rfl rfl ?_
    refine gk_aload_n (pc := 14) K d_Reader_draw_14 rfl ?_
    refine gk_get (pc := 15) K d_Reader_draw_15 fl_Reader_17 tx_4 rfl rfl ?_
    refine gk_iload_n (pc := 18) K d_Reader_draw_18 rfl ?_
    refine gk_iast (pc := 19) K d_Reader_draw_19 tx_5 h (fun m1 h => ?_)
    refine gk_aload_n (pc := 20) K d_Reader_draw_20 rfl ?_
    refine gk_dup (pc := 21) K d_Reader_draw_21 rfl ?_
    refine gk_get (pc := 22) K d_Reader_draw_22 fl_Reader_17 tx_4 rfl rfl ?_
    refine gk_iconst (pc := 25) K d_Reader_draw_25 kc_1 ?_
    refine gk_iadd (pc := 26) K d_Reader_draw_26 ?_
    refine gk_puti (pc := 27) K d_Reader_draw_27 fp_Reader_17 tx_4 rfl h (fun m2 h => ?_)
    exact gk_vret (pc := 30) K d_Reader_draw_30 rfl h
theorem s_Reader_draw {l : Launch} {u : gk_U} (hD : gk_D tx u) {a1 : Int32} {m0 mem2 : gk_M} {r : Unit} (h : f_Reader_draw a1 m0 = some (r, mem2)) : gk_C tx l u me_Reader_draw 1 [.ref 4, .int a1] m0 none mem2 :=
  gk_enter hD mc_Reader_draw (Nat.le_of_ble_eq_true rfl) rfl (fun z _ _ K => s_Reader_draw_0 K _ _  h)
theorem d_Reader_readNumber_0 : decode me_Reader_readNumber.2.1 0 = .ok (.iconst 0, 1) := by decide +kernel
theorem d_Reader_readNumber_1 : decode me_Reader_readNumber.2.1 1 = .ok (.istore_n 1, 1) := by decide +kernel
theorem d_Reader_readNumber_2 : decode me_Reader_readNumber.2.1 2 = .ok (.iconst 0, 1) := by decide +kernel
theorem d_Reader_readNumber_3 : decode me_Reader_readNumber.2.1 3 = .ok (.istore_n 2, 1) := by decide +kernel
theorem d_Reader_readNumber_4 : decode me_Reader_readNumber.2.1 4 = .ok (.iload_n 2, 1) := by decide +kernel
theorem d_Reader_readNumber_5 : decode me_Reader_readNumber.2.1 5 = .ok (.iconst 4, 1) := by decide +kernel
theorem d_Reader_readNumber_6 : decode me_Reader_readNumber.2.1 6 = .ok (.if_icmp .ge 50, 3) := by decide +kernel
theorem d_Reader_readNumber_9 : decode me_Reader_readNumber.2.1 9 = .ok (.aload_n 0, 1) := by decide +kernel
theorem d_Reader_readNumber_10 : decode me_Reader_readNumber.2.1 10 = .ok (.invokevirtual 36, 3) := by decide +kernel
theorem d_Reader_readNumber_13 : decode me_Reader_readNumber.2.1 13 = .ok (.bipush 48, 2) := by decide +kernel
theorem d_Reader_readNumber_15 : decode me_Reader_readNumber.2.1 15 = .ok (.if_icmp .lt 41, 3) := by decide +kernel
theorem d_Reader_readNumber_18 : decode me_Reader_readNumber.2.1 18 = .ok (.aload_n 0, 1) := by decide +kernel
theorem d_Reader_readNumber_19 : decode me_Reader_readNumber.2.1 19 = .ok (.invokevirtual 36, 3) := by decide +kernel
theorem d_Reader_readNumber_22 : decode me_Reader_readNumber.2.1 22 = .ok (.bipush 57, 2) := by decide +kernel
theorem d_Reader_readNumber_24 : decode me_Reader_readNumber.2.1 24 = .ok (.if_icmp .gt 32, 3) := by decide +kernel
theorem d_Reader_readNumber_27 : decode me_Reader_readNumber.2.1 27 = .ok (.iload_n 1, 1) := by decide +kernel
theorem d_Reader_readNumber_28 : decode me_Reader_readNumber.2.1 28 = .ok (.bipush 10, 2) := by decide +kernel
theorem d_Reader_readNumber_30 : decode me_Reader_readNumber.2.1 30 = .ok (.imul, 1) := by decide +kernel
theorem d_Reader_readNumber_31 : decode me_Reader_readNumber.2.1 31 = .ok (.aload_n 0, 1) := by decide +kernel
theorem d_Reader_readNumber_32 : decode me_Reader_readNumber.2.1 32 = .ok (.invokevirtual 36, 3) := by decide +kernel
theorem d_Reader_readNumber_35 : decode me_Reader_readNumber.2.1 35 = .ok (.iadd, 1) := by decide +kernel
theorem d_Reader_readNumber_36 : decode me_Reader_readNumber.2.1 36 = .ok (.bipush 48, 2) := by decide +kernel
theorem d_Reader_readNumber_38 : decode me_Reader_readNumber.2.1 38 = .ok (.isub, 1) := by decide +kernel
theorem d_Reader_readNumber_39 : decode me_Reader_readNumber.2.1 39 = .ok (.istore_n 1, 1) := by decide +kernel
theorem d_Reader_readNumber_40 : decode me_Reader_readNumber.2.1 40 = .ok (.aload_n 0, 1) := by decide +kernel
theorem d_Reader_readNumber_41 : decode me_Reader_readNumber.2.1 41 = .ok (.dup, 1) := by decide +kernel
theorem d_Reader_readNumber_42 : decode me_Reader_readNumber.2.1 42 = .ok (.getfield 27, 3) := by decide +kernel
theorem d_Reader_readNumber_45 : decode me_Reader_readNumber.2.1 45 = .ok (.iconst 1, 1) := by decide +kernel
theorem d_Reader_readNumber_46 : decode me_Reader_readNumber.2.1 46 = .ok (.iadd, 1) := by decide +kernel
theorem d_Reader_readNumber_47 : decode me_Reader_readNumber.2.1 47 = .ok (.putfield 27, 3) := by decide +kernel
theorem d_Reader_readNumber_50 : decode me_Reader_readNumber.2.1 50 = .ok (.iinc 2 1, 3) := by decide +kernel
theorem d_Reader_readNumber_53 : decode me_Reader_readNumber.2.1 53 = .ok (.goto (-49), 3) := by decide +kernel
theorem d_Reader_readNumber_56 : decode me_Reader_readNumber.2.1 56 = .ok (.aload_n 0, 1) := by decide +kernel
theorem d_Reader_readNumber_57 : decode me_Reader_readNumber.2.1 57 = .ok (.iload_n 1, 1) := by decide +kernel
theorem d_Reader_readNumber_58 : decode me_Reader_readNumber.2.1 58 = .ok (.invokevirtual 44, 3) := by decide +kernel
theorem d_Reader_readNumber_61 : decode me_Reader_readNumber.2.1 61 = .ok (.return_, 1) := by decide +kernel
noncomputable def f_Reader_readNumber_56  (a1 : Int32) (m0 : gk_M) : Option (Unit × gk_M) :=
  gk_bv (f_Reader_draw a1 m0) fun m1 =>
  some ((), m1)

theorem s_Reader_readNumber_56 {z : gk_Z} (K : gk_F tx z me_Reader_readNumber 2) {r : Unit} {mem2 : gk_M} : ∀ a1 m0, f_Reader_readNumber_56 a1 m0 = some (r, mem2) → gk_G tx z me_Reader_readNumber (gk_R tx z none mem2) m0 [(0, .ref 4), (1, .int a1)] [] 56 := by
  intro a1 m0  h
  unfold f_Reader_readNumber_56 at h
  refine gk_aload_n (pc := 56) K d_Reader_readNumber_56 rfl ?_
  refine gk_iload_n (pc := 57) K d_Reader_readNumber_57 rfl ?_
  obtain ⟨m1, em1, h⟩ := gk_bv_some h
  refine gk_cVv (As := [.int a1]) (pc := 58) K d_Reader_readNumber_58 mv_Reader_44 mc_Reader_draw rfl tx_4 cl_ok1.1 (s_Reader_draw (gk_FD K)  em1) (by decide) rfl (Nat.le_of_ble_eq_true rfl) ?_
  exact gk_vret (pc := 61) K d_Reader_readNumber_61 rfl h
noncomputable def f_Reader_readNumber_4  : Nat → Int32 → Int32 → gk_M → Option (Unit × gk_M)
  | 0, _, _, _ => none
  | n + 1, a1, a2, m0 =>
    if 4 ≤ a2 then
      f_Reader_readNumber_56 a1 m0
    else
      gk_bi (f_Reader_next  m0) fun v2 m1 =>
      if v2 < 48 then
        f_Reader_readNumber_56 a1 m1
      else
        gk_bi (f_Reader_next  m1) fun v4 m3 =>
        if 57 < v4 then
          f_Reader_readNumber_56 a1 m3
        else
          gk_bi (f_Reader_next  m3) fun v6 m5 =>
          gk_let (((a1 * 10) + v6) - 48) fun v7 =>
          gk_let (gk_mi m5 4 4 ((m5.1 4 4) + 1)) fun m8 =>
          f_Reader_readNumber_4 n v7 (a2 + 1) m8

theorem s_Reader_readNumber_4 {z : gk_Z} (K : gk_F tx z me_Reader_readNumber 2) {r : Unit} {mem2 : gk_M} : ∀ n a1 a2 m0, f_Reader_readNumber_4 n a1 a2 m0 = some (r, mem2) → gk_G tx z me_Reader_readNumber (gk_R tx z none mem2) m0 [(0, .ref 4), (1, .int a1), (2, .int a2)] [] 4 := by
  intro n
  induction n with
  | zero => intro a1 a2 m0  h; exact nomatch (show (none : Option _) = some _ from h)
  | succ n ih =>
    intro a1 a2 m0  h
    unfold f_Reader_readNumber_4 at h
    refine gk_iload_n (pc := 4) K d_Reader_readNumber_4 rfl ?_
    refine gk_iconst (pc := 5) K d_Reader_readNumber_5 kc_4 ?_
    refine gk_ic_ge (tgt := 56) (pc := 6) K d_Reader_readNumber_6 (by decide) h (fun h => ?_) (fun h => ?_)
    · exact gk_sub [0, 1] rfl (s_Reader_readNumber_56 K _ _  h)
    · refine gk_aload_n (pc := 9) K d_Reader_readNumber_9 rfl ?_
      obtain ⟨v2, m1, em1, h⟩ := gk_bi_some h
      refine gk_cVi (As := []) (pc := 10) K d_Reader_readNumber_10 mv_Reader_36 mc_Reader_next rfl tx_4 cl_ok1.1 (s_Reader_next (gk_FD K)  em1) (by decide) rfl (Nat.le_of_ble_eq_true rfl) ?_
      refine gk_bipush (pc := 13) K d_Reader_readNumber_13 kb_48 ?_
      refine gk_ic_lt (tgt := 56) (pc := 15) K d_Reader_readNumber_15 (by decide) h (fun h => ?_) (fun h => ?_)
      · exact gk_sub [0, 1] rfl (s_Reader_readNumber_56 K _ _  h)
      · refine gk_aload_n (pc := 18) K d_Reader_readNumber_18 rfl ?_
        obtain ⟨v4, m3, em3, h⟩ := gk_bi_some h
        refine gk_cVi (As := []) (pc := 19) K d_Reader_readNumber_19 mv_Reader_36 mc_Reader_next rfl tx_4 cl_ok1.1 (s_Reader_next (gk_FD K)  em3) (by decide) rfl (Nat.le_of_ble_eq_true rfl) ?_
        refine gk_bipush (pc := 22) K d_Reader_readNumber_22 kb_57 ?_
        refine gk_ic_gt (tgt := 56) (pc := 24) K d_Reader_readNumber_24 (by decide) h (fun h => ?_) (fun h => ?_)
        · exact gk_sub [0, 1] rfl (s_Reader_readNumber_56 K _ _  h)
        · refine gk_iload_n (pc := 27) K d_Reader_readNumber_27 rfl ?_
          refine gk_bipush (pc := 28) K d_Reader_readNumber_28 kb_10 ?_
          refine gk_imul (pc := 30) K d_Reader_readNumber_30 ?_
          refine gk_aload_n (pc := 31) K d_Reader_readNumber_31 rfl ?_
          obtain ⟨v6, m5, em5, h⟩ := gk_bi_some h
          refine gk_cVi (As := []) (pc := 32) K d_Reader_readNumber_32 mv_Reader_36 mc_Reader_next rfl tx_4 cl_ok1.1 (s_Reader_next (gk_FD K)  em5) (by decide) rfl (Nat.le_of_ble_eq_true rfl) ?_
          refine gk_iadd (pc := 35) K d_Reader_readNumber_35 ?_
          refine gk_bipush (pc := 36) K d_Reader_readNumber_36 kb_48 ?_
          refine gk_isub (pc := 38) K d_Reader_readNumber_38 ?_
          refine gk_topi h (fun v7 h => ?_)
          refine gk_istore_n (lv2 := [(1, .int v7), (0, .ref 4), (2, .int a2)]) (pc := 39) K d_Reader_readNumber_39 (by decide) rfl ?_
          refine gk_aload_n (pc := 40) K d_Reader_readNumber_40 rfl ?_
          refine gk_dup (pc := 41) K d_Reader_readNumber_41 rfl ?_
          refine gk_get (pc := 42) K d_Reader_readNumber_42 fl_Reader_27 tx_4 rfl rfl ?_
          refine gk_iconst (pc := 45) K d_Reader_readNumber_45 kc_1 ?_
          refine gk_iadd (pc := 46) K d_Reader_readNumber_46 ?_
          refine gk_puti (pc := 47) K d_Reader_readNumber_47 fp_Reader_27 tx_4 rfl h (fun m8 h => ?_)
          refine gk_iinc2 (lv2 := [(2, .int (a2 + 1)), (1, .int v7), (0, .ref 4)]) (pc := 50) K d_Reader_readNumber_50 rfl kc_1 (by decide) rfl ?_
          refine gk_goto (tgt := 4) (pc := 53) K d_Reader_readNumber_53 (by decide) ?_
          exact gk_sub [2, 1, 0] rfl (ih _ _ _  h)
noncomputable def f_Reader_readNumber   (m0 : gk_M) : Option (Unit × gk_M) :=
  f_Reader_readNumber_4 gk_fv 0 0 m0

theorem s_Reader_readNumber_0 {z : gk_Z} (K : gk_F tx z me_Reader_readNumber 2) {r : Unit} {mem2 : gk_M} : ∀  m0, f_Reader_readNumber  m0 = some (r, mem2) → gk_G tx z me_Reader_readNumber (gk_R tx z none mem2) m0 [(0, .ref 4)] [] 0 := by
  intro  m0  h
  unfold f_Reader_readNumber at h
  refine gk_iconst (pc := 0) K d_Reader_readNumber_0 kc_0 ?_
  refine gk_istore_n (lv2 := [(1, .int 0), (0, .ref 4)]) (pc := 1) K d_Reader_readNumber_1 (by decide) rfl ?_
  refine gk_iconst (pc := 2) K d_Reader_readNumber_2 kc_0 ?_
  refine gk_istore_n (lv2 := [(2, .int 0), (1, .int 0), (0, .ref 4)]) (pc := 3) K d_Reader_readNumber_3 (by decide) rfl ?_
  exact gk_sub [2, 1, 0] rfl (s_Reader_readNumber_4 K _ _ _ _  h)
theorem s_Reader_readNumber {l : Launch} {u : gk_U} (hD : gk_D tx u) {m0 mem2 : gk_M} {r : Unit} (h : f_Reader_readNumber  m0 = some (r, mem2)) : gk_C tx l u me_Reader_readNumber 2 [.ref 4] m0 none mem2 :=
  gk_enter hD mc_Reader_readNumber (Nat.le_of_ble_eq_true rfl) rfl (fun z _ _ K => s_Reader_readNumber_0 K  _  h)
theorem d_Reader_nameOf_0 : decode me_Reader_nameOf.2.1 0 = .ok (.iload_n 0, 1) := by decide +kernel
theorem d_Reader_nameOf_1 : decode me_Reader_nameOf.2.1 1 = .ok (.tableswitch 92 97 111 #[75, 77, 92, 92, 92, 92, 92, 92, 92, 92, 83, 92, 89, 86, 80], 75) := by decide +kernel
theorem d_Reader_nameOf_76 : decode me_Reader_nameOf.2.1 76 = .ok (.iconst (-1), 1) := by decide +kernel
theorem d_Reader_nameOf_77 : decode me_Reader_nameOf.2.1 77 = .ok (.ireturn, 1) := by decide +kernel
theorem d_Reader_nameOf_78 : decode me_Reader_nameOf.2.1 78 = .ok (.bipush (-2), 2) := by decide +kernel
theorem d_Reader_nameOf_80 : decode me_Reader_nameOf.2.1 80 = .ok (.ireturn, 1) := by decide +kernel
theorem d_Reader_nameOf_81 : decode me_Reader_nameOf.2.1 81 = .ok (.bipush (-3), 2) := by decide +kernel
theorem d_Reader_nameOf_83 : decode me_Reader_nameOf.2.1 83 = .ok (.ireturn, 1) := by decide +kernel
theorem d_Reader_nameOf_84 : decode me_Reader_nameOf.2.1 84 = .ok (.bipush (-4), 2) := by decide +kernel
theorem d_Reader_nameOf_86 : decode me_Reader_nameOf.2.1 86 = .ok (.ireturn, 1) := by decide +kernel
theorem d_Reader_nameOf_87 : decode me_Reader_nameOf.2.1 87 = .ok (.bipush (-5), 2) := by decide +kernel
theorem d_Reader_nameOf_89 : decode me_Reader_nameOf.2.1 89 = .ok (.ireturn, 1) := by decide +kernel
theorem d_Reader_nameOf_90 : decode me_Reader_nameOf.2.1 90 = .ok (.bipush (-6), 2) := by decide +kernel
theorem d_Reader_nameOf_92 : decode me_Reader_nameOf.2.1 92 = .ok (.ireturn, 1) := by decide +kernel
theorem d_Reader_nameOf_93 : decode me_Reader_nameOf.2.1 93 = .ok (.iconst 0, 1) := by decide +kernel
theorem d_Reader_nameOf_94 : decode me_Reader_nameOf.2.1 94 = .ok (.ireturn, 1) := by decide +kernel
noncomputable def f_Reader_nameOf  (a0 : Int32) (m0 : gk_M) : Option (Int32 × gk_M) :=
  if a0 = 97 then
    some ((-1), m0)
  else
    if a0 = 98 then
      some ((-2), m0)
    else
      if a0 = 99 then
        some (0, m0)
      else
        if a0 = 100 then
          some (0, m0)
        else
          if a0 = 101 then
            some (0, m0)
          else
            if a0 = 102 then
              some (0, m0)
            else
              if a0 = 103 then
                some (0, m0)
              else
                if a0 = 104 then
                  some (0, m0)
                else
                  if a0 = 105 then
                    some (0, m0)
                  else
                    if a0 = 106 then
                      some (0, m0)
                    else
                      if a0 = 107 then
                        some ((-4), m0)
                      else
                        if a0 = 108 then
                          some (0, m0)
                        else
                          if a0 = 109 then
                            some ((-6), m0)
                          else
                            if a0 = 110 then
                              some ((-5), m0)
                            else
                              if a0 = 111 then
                                some ((-3), m0)
                              else
                                some (0, m0)

theorem s_Reader_nameOf_0 {z : gk_Z} (K : gk_F tx z me_Reader_nameOf 1) {r : Int32} {mem2 : gk_M} : ∀ a0 m0, f_Reader_nameOf a0 m0 = some (r, mem2) → gk_G tx z me_Reader_nameOf (gk_R tx z (some (.int r)) mem2) m0 [(0, .int a0)] [] 0 := by
  intro a0 m0  h
  unfold f_Reader_nameOf at h
  refine gk_iload_n (pc := 0) K d_Reader_nameOf_0 rfl ?_
  refine gk_ite (c := a0 = 97) h (fun c1 h => ?_) (fun c1 h => ?_)
  · refine gk_tIn (tgt := 76) (pc := 1) K d_Reader_nameOf_1 c1 (by decide) (by decide) rfl (by decide) ?_
    refine gk_iconst (pc := 76) K d_Reader_nameOf_76 kc_m1 ?_
    exact gk_iret (pc := 77) K d_Reader_nameOf_77 rfl h
  · skip
    refine gk_ite (c := a0 = 98) h (fun c2 h => ?_) (fun c2 h => ?_)
    · refine gk_tIn (tgt := 78) (pc := 1) K d_Reader_nameOf_1 c2 (by decide) (by decide) rfl (by decide) ?_
      refine gk_bipush (pc := 78) K d_Reader_nameOf_78 kb_m2 ?_
      exact gk_iret (pc := 80) K d_Reader_nameOf_80 rfl h
    · skip
      refine gk_ite (c := a0 = 99) h (fun c3 h => ?_) (fun c3 h => ?_)
      · refine gk_tIn (tgt := 93) (pc := 1) K d_Reader_nameOf_1 c3 (by decide) (by decide) rfl (by decide) ?_
        refine gk_iconst (pc := 93) K d_Reader_nameOf_93 kc_0 ?_
        exact gk_iret (pc := 94) K d_Reader_nameOf_94 rfl h
      · skip
        refine gk_ite (c := a0 = 100) h (fun c4 h => ?_) (fun c4 h => ?_)
        · refine gk_tIn (tgt := 93) (pc := 1) K d_Reader_nameOf_1 c4 (by decide) (by decide) rfl (by decide) ?_
          refine gk_iconst (pc := 93) K d_Reader_nameOf_93 kc_0 ?_
          exact gk_iret (pc := 94) K d_Reader_nameOf_94 rfl h
        · skip
          refine gk_ite (c := a0 = 101) h (fun c5 h => ?_) (fun c5 h => ?_)
          · refine gk_tIn (tgt := 93) (pc := 1) K d_Reader_nameOf_1 c5 (by decide) (by decide) rfl (by decide) ?_
            refine gk_iconst (pc := 93) K d_Reader_nameOf_93 kc_0 ?_
            exact gk_iret (pc := 94) K d_Reader_nameOf_94 rfl h
          · skip
            refine gk_ite (c := a0 = 102) h (fun c6 h => ?_) (fun c6 h => ?_)
            · refine gk_tIn (tgt := 93) (pc := 1) K d_Reader_nameOf_1 c6 (by decide) (by decide) rfl (by decide) ?_
              refine gk_iconst (pc := 93) K d_Reader_nameOf_93 kc_0 ?_
              exact gk_iret (pc := 94) K d_Reader_nameOf_94 rfl h
            · skip
              refine gk_ite (c := a0 = 103) h (fun c7 h => ?_) (fun c7 h => ?_)
              · refine gk_tIn (tgt := 93) (pc := 1) K d_Reader_nameOf_1 c7 (by decide) (by decide) rfl (by decide) ?_
                refine gk_iconst (pc := 93) K d_Reader_nameOf_93 kc_0 ?_
                exact gk_iret (pc := 94) K d_Reader_nameOf_94 rfl h
              · skip
                refine gk_ite (c := a0 = 104) h (fun c8 h => ?_) (fun c8 h => ?_)
                · refine gk_tIn (tgt := 93) (pc := 1) K d_Reader_nameOf_1 c8 (by decide) (by decide) rfl (by decide) ?_
                  refine gk_iconst (pc := 93) K d_Reader_nameOf_93 kc_0 ?_
                  exact gk_iret (pc := 94) K d_Reader_nameOf_94 rfl h
                · skip
                  refine gk_ite (c := a0 = 105) h (fun c9 h => ?_) (fun c9 h => ?_)
                  · refine gk_tIn (tgt := 93) (pc := 1) K d_Reader_nameOf_1 c9 (by decide) (by decide) rfl (by decide) ?_
                    refine gk_iconst (pc := 93) K d_Reader_nameOf_93 kc_0 ?_
                    exact gk_iret (pc := 94) K d_Reader_nameOf_94 rfl h
                  · skip
                    refine gk_ite (c := a0 = 106) h (fun c10 h => ?_) (fun c10 h => ?_)
                    · refine gk_tIn (tgt := 93) (pc := 1) K d_Reader_nameOf_1 c10 (by decide) (by decide) rfl (by decide) ?_
                      refine gk_iconst (pc := 93) K d_Reader_nameOf_93 kc_0 ?_
                      exact gk_iret (pc := 94) K d_Reader_nameOf_94 rfl h
                    · skip
                      refine gk_ite (c := a0 = 107) h (fun c11 h => ?_) (fun c11 h => ?_)
                      · refine gk_tIn (tgt := 84) (pc := 1) K d_Reader_nameOf_1 c11 (by decide) (by decide) rfl (by decide) ?_
                        refine gk_bipush (pc := 84) K d_Reader_nameOf_84 kb_m4 ?_
                        exact gk_iret (pc := 86) K d_Reader_nameOf_86 rfl h
                      · skip
                        refine gk_ite (c := a0 = 108) h (fun c12 h => ?_) (fun c12 h => ?_)
                        · refine gk_tIn (tgt := 93) (pc := 1) K d_Reader_nameOf_1 c12 (by decide) (by decide) rfl (by decide) ?_
                          refine gk_iconst (pc := 93) K d_Reader_nameOf_93 kc_0 ?_
                          exact gk_iret (pc := 94) K d_Reader_nameOf_94 rfl h
                        · skip
                          refine gk_ite (c := a0 = 109) h (fun c13 h => ?_) (fun c13 h => ?_)
                          · refine gk_tIn (tgt := 90) (pc := 1) K d_Reader_nameOf_1 c13 (by decide) (by decide) rfl (by decide) ?_
                            refine gk_bipush (pc := 90) K d_Reader_nameOf_90 kb_m6 ?_
                            exact gk_iret (pc := 92) K d_Reader_nameOf_92 rfl h
                          · skip
                            refine gk_ite (c := a0 = 110) h (fun c14 h => ?_) (fun c14 h => ?_)
                            · refine gk_tIn (tgt := 87) (pc := 1) K d_Reader_nameOf_1 c14 (by decide) (by decide) rfl (by decide) ?_
                              refine gk_bipush (pc := 87) K d_Reader_nameOf_87 kb_m5 ?_
                              exact gk_iret (pc := 89) K d_Reader_nameOf_89 rfl h
                            · skip
                              refine gk_ite (c := a0 = 111) h (fun c15 h => ?_) (fun c15 h => ?_)
                              · refine gk_tIn (tgt := 81) (pc := 1) K d_Reader_nameOf_1 c15 (by decide) (by decide) rfl (by decide) ?_
                                refine gk_bipush (pc := 81) K d_Reader_nameOf_81 kb_m3 ?_
                                exact gk_iret (pc := 83) K d_Reader_nameOf_83 rfl h
                              · skip
                                have gc1 := gk_neq c1 (a := 97) (by decide)
                                have gc2 := gk_neq c2 (a := 98) (by decide)
                                have gc3 := gk_neq c3 (a := 99) (by decide)
                                have gc4 := gk_neq c4 (a := 100) (by decide)
                                have gc5 := gk_neq c5 (a := 101) (by decide)
                                have gc6 := gk_neq c6 (a := 102) (by decide)
                                have gc7 := gk_neq c7 (a := 103) (by decide)
                                have gc8 := gk_neq c8 (a := 104) (by decide)
                                have gc9 := gk_neq c9 (a := 105) (by decide)
                                have gc10 := gk_neq c10 (a := 106) (by decide)
                                have gc11 := gk_neq c11 (a := 107) (by decide)
                                have gc12 := gk_neq c12 (a := 108) (by decide)
                                have gc13 := gk_neq c13 (a := 109) (by decide)
                                have gc14 := gk_neq c14 (a := 110) (by decide)
                                have gc15 := gk_neq c15 (a := 111) (by decide)
                                refine gk_tOut (tgt := 93) (pc := 1) K d_Reader_nameOf_1 (by omega) (by decide) ?_
                                refine gk_iconst (pc := 93) K d_Reader_nameOf_93 kc_0 ?_
                                exact gk_iret (pc := 94) K d_Reader_nameOf_94 rfl h
theorem s_Reader_nameOf {l : Launch} {u : gk_U} (hD : gk_D tx u) {a0 : Int32} {m0 mem2 : gk_M} {r : Int32} (h : f_Reader_nameOf a0 m0 = some (r, mem2)) : gk_C tx l u me_Reader_nameOf 1 [.int a0] m0 (some (.int r)) mem2 :=
  gk_enter hD mc_Reader_nameOf (Nat.le_of_ble_eq_true rfl) rfl (fun z _ _ K => s_Reader_nameOf_0 K _ _  h)
theorem d_Reader_close_0 : decode me_Reader_close.2.1 0 = .ok (.aload_n 0, 1) := by decide +kernel
theorem d_Reader_close_1 : decode me_Reader_close.2.1 1 = .ok (.getfield 30, 3) := by decide +kernel
theorem d_Reader_close_4 : decode me_Reader_close.2.1 4 = .ok (.ifCond .lt 4, 3) := by decide +kernel
theorem d_Reader_close_7 : decode me_Reader_close.2.1 7 = .ok (.return_, 1) := by decide +kernel
theorem d_Reader_close_8 : decode me_Reader_close.2.1 8 = .ok (.aload_n 0, 1) := by decide +kernel
theorem d_Reader_close_9 : decode me_Reader_close.2.1 9 = .ok (.invokevirtual 36, 3) := by decide +kernel
theorem d_Reader_close_12 : decode me_Reader_close.2.1 12 = .ok (.bipush 41, 2) := by decide +kernel
theorem d_Reader_close_14 : decode me_Reader_close.2.1 14 = .ok (.if_icmp .ne 16, 3) := by decide +kernel
theorem d_Reader_close_17 : decode me_Reader_close.2.1 17 = .ok (.aload_n 0, 1) := by decide +kernel
theorem d_Reader_close_18 : decode me_Reader_close.2.1 18 = .ok (.dup, 1) := by decide +kernel
theorem d_Reader_close_19 : decode me_Reader_close.2.1 19 = .ok (.getfield 27, 3) := by decide +kernel
theorem d_Reader_close_22 : decode me_Reader_close.2.1 22 = .ok (.iconst 1, 1) := by decide +kernel
theorem d_Reader_close_23 : decode me_Reader_close.2.1 23 = .ok (.iadd, 1) := by decide +kernel
theorem d_Reader_close_24 : decode me_Reader_close.2.1 24 = .ok (.putfield 27, 3) := by decide +kernel
theorem d_Reader_close_27 : decode me_Reader_close.2.1 27 = .ok (.goto 11, 3) := by decide +kernel
theorem d_Reader_close_30 : decode me_Reader_close.2.1 30 = .ok (.aload_n 0, 1) := by decide +kernel
theorem d_Reader_close_31 : decode me_Reader_close.2.1 31 = .ok (.aload_n 0, 1) := by decide +kernel
theorem d_Reader_close_32 : decode me_Reader_close.2.1 32 = .ok (.getfield 27, 3) := by decide +kernel
theorem d_Reader_close_35 : decode me_Reader_close.2.1 35 = .ok (.putfield 30, 3) := by decide +kernel
theorem d_Reader_close_38 : decode me_Reader_close.2.1 38 = .ok (.return_, 1) := by decide +kernel
noncomputable def f_Reader_close   (m0 : gk_M) : Option (Unit × gk_M) :=
  if (m0.1 4 5) < 0 then
    gk_bi (f_Reader_next  m0) fun v2 m1 =>
    if ¬ v2 = 41 then
      gk_let (gk_mi m1 4 5 (m1.1 4 4)) fun m3 =>
      some ((), m3)
    else
      gk_let (gk_mi m1 4 4 ((m1.1 4 4) + 1)) fun m4 =>
      some ((), m4)
  else
    some ((), m0)

theorem s_Reader_close_0 {z : gk_Z} (K : gk_F tx z me_Reader_close 2) {r : Unit} {mem2 : gk_M} : ∀  m0, f_Reader_close  m0 = some (r, mem2) → gk_G tx z me_Reader_close (gk_R tx z none mem2) m0 [(0, .ref 4)] [] 0 := by
  intro  m0  h
  unfold f_Reader_close at h
  refine gk_aload_n (pc := 0) K d_Reader_close_0 rfl ?_
  refine gk_get (pc := 1) K d_Reader_close_1 fl_Reader_30 tx_4 rfl rfl ?_
  refine gk_if_lt (tgt := 8) (pc := 4) K d_Reader_close_4 (by decide) h (fun h => ?_) (fun h => ?_)
  · refine gk_aload_n (pc := 8) K d_Reader_close_8 rfl ?_
    obtain ⟨v2, m1, em1, h⟩ := gk_bi_some h
    refine gk_cVi (As := []) (pc := 9) K d_Reader_close_9 mv_Reader_36 mc_Reader_next rfl tx_4 cl_ok1.1 (s_Reader_next (gk_FD K)  em1) (by decide) rfl (Nat.le_of_ble_eq_true rfl) ?_
    refine gk_bipush (pc := 12) K d_Reader_close_12 kb_41 ?_
    refine gk_ic_ne (tgt := 30) (pc := 14) K d_Reader_close_14 (by decide) h (fun h => ?_) (fun h => ?_)
    · refine gk_aload_n (pc := 30) K d_Reader_close_30 rfl ?_
      refine gk_aload_n (pc := 31) K d_Reader_close_31 rfl ?_
      refine gk_get (pc := 32) K d_Reader_close_32 fl_Reader_27 tx_4 rfl rfl ?_
      refine gk_puti (pc := 35) K d_Reader_close_35 fp_Reader_30 tx_4 rfl h (fun m3 h => ?_)
      exact gk_vret (pc := 38) K d_Reader_close_38 rfl h
    · refine gk_aload_n (pc := 17) K d_Reader_close_17 rfl ?_
      refine gk_dup (pc := 18) K d_Reader_close_18 rfl ?_
      refine gk_get (pc := 19) K d_Reader_close_19 fl_Reader_27 tx_4 rfl rfl ?_
      refine gk_iconst (pc := 22) K d_Reader_close_22 kc_1 ?_
      refine gk_iadd (pc := 23) K d_Reader_close_23 ?_
      refine gk_puti (pc := 24) K d_Reader_close_24 fp_Reader_27 tx_4 rfl h (fun m4 h => ?_)
      refine gk_goto (tgt := 38) (pc := 27) K d_Reader_close_27 (by decide) ?_
      exact gk_vret (pc := 38) K d_Reader_close_38 rfl h
  · exact gk_vret (pc := 7) K d_Reader_close_7 rfl h
theorem s_Reader_close {l : Launch} {u : gk_U} (hD : gk_D tx u) {m0 mem2 : gk_M} {r : Unit} (h : f_Reader_close  m0 = some (r, mem2)) : gk_C tx l u me_Reader_close 2 [.ref 4] m0 none mem2 :=
  gk_enter hD mc_Reader_close (Nat.le_of_ble_eq_true rfl) rfl (fun z _ _ K => s_Reader_close_0 K  _  h)
