theorem d_M_linesAs_0 : decode me_M_linesAs.2.1 0 = .ok (.iload_n 1, 1) := by decide +kernel
theorem d_M_linesAs_1 : decode me_M_linesAs.2.1 1 = .ok (.iconst 3, 1) := by decide +kernel
theorem d_M_linesAs_2 : decode me_M_linesAs.2.1 2 = .ok (.if_icmp .eq 8, 3) := by decide +kernel
theorem d_M_linesAs_5 : decode me_M_linesAs.2.1 5 = .ok (.iload_n 1, 1) := by decide +kernel
theorem d_M_linesAs_6 : decode me_M_linesAs.2.1 6 = .ok (.iconst 5, 1) := by decide +kernel
theorem d_M_linesAs_7 : decode me_M_linesAs.2.1 7 = .ok (.if_icmp .ne 18, 3) := by decide +kernel
theorem d_M_linesAs_10 : decode me_M_linesAs.2.1 10 = .ok (.aload_n 0, 1) := by decide +kernel
theorem d_M_linesAs_11 : decode me_M_linesAs.2.1 11 = .ok (.bipush 40, 2) := by decide +kernel
theorem d_M_linesAs_13 : decode me_M_linesAs.2.1 13 = .ok (.invokevirtual 394, 3) := by decide +kernel
theorem d_M_linesAs_16 : decode me_M_linesAs.2.1 16 = .ok (.aload_n 0, 1) := by decide +kernel
theorem d_M_linesAs_17 : decode me_M_linesAs.2.1 17 = .ok (.iconst 2, 1) := by decide +kernel
theorem d_M_linesAs_18 : decode me_M_linesAs.2.1 18 = .ok (.iload_n 2, 1) := by decide +kernel
theorem d_M_linesAs_19 : decode me_M_linesAs.2.1 19 = .ok (.invokevirtual 409, 3) := by decide +kernel
theorem d_M_linesAs_22 : decode me_M_linesAs.2.1 22 = .ok (.iconst 3, 1) := by decide +kernel
theorem d_M_linesAs_23 : decode me_M_linesAs.2.1 23 = .ok (.imul, 1) := by decide +kernel
theorem d_M_linesAs_24 : decode me_M_linesAs.2.1 24 = .ok (.ireturn, 1) := by decide +kernel
theorem d_M_linesAs_25 : decode me_M_linesAs.2.1 25 = .ok (.iload_n 1, 1) := by decide +kernel
theorem d_M_linesAs_26 : decode me_M_linesAs.2.1 26 = .ok (.iconst 4, 1) := by decide +kernel
theorem d_M_linesAs_27 : decode me_M_linesAs.2.1 27 = .ok (.if_icmp .eq 9, 3) := by decide +kernel
theorem d_M_linesAs_30 : decode me_M_linesAs.2.1 30 = .ok (.iload_n 1, 1) := by decide +kernel
theorem d_M_linesAs_31 : decode me_M_linesAs.2.1 31 = .ok (.bipush 7, 2) := by decide +kernel
theorem d_M_linesAs_33 : decode me_M_linesAs.2.1 33 = .ok (.if_icmp .ne 28, 3) := by decide +kernel
theorem d_M_linesAs_36 : decode me_M_linesAs.2.1 36 = .ok (.aload_n 0, 1) := by decide +kernel
theorem d_M_linesAs_37 : decode me_M_linesAs.2.1 37 = .ok (.bipush 50, 2) := by decide +kernel
theorem d_M_linesAs_39 : decode me_M_linesAs.2.1 39 = .ok (.invokevirtual 394, 3) := by decide +kernel
theorem d_M_linesAs_42 : decode me_M_linesAs.2.1 42 = .ok (.aload_n 0, 1) := by decide +kernel
theorem d_M_linesAs_43 : decode me_M_linesAs.2.1 43 = .ok (.iconst 1, 1) := by decide +kernel
theorem d_M_linesAs_44 : decode me_M_linesAs.2.1 44 = .ok (.iload_n 2, 1) := by decide +kernel
theorem d_M_linesAs_45 : decode me_M_linesAs.2.1 45 = .ok (.invokevirtual 409, 3) := by decide +kernel
theorem d_M_linesAs_48 : decode me_M_linesAs.2.1 48 = .ok (.istore_n 3, 1) := by decide +kernel
theorem d_M_linesAs_49 : decode me_M_linesAs.2.1 49 = .ok (.iload_n 3, 1) := by decide +kernel
theorem d_M_linesAs_50 : decode me_M_linesAs.2.1 50 = .ok (.aload_n 0, 1) := by decide +kernel
theorem d_M_linesAs_51 : decode me_M_linesAs.2.1 51 = .ok (.aload_n 0, 1) := by decide +kernel
theorem d_M_linesAs_52 : decode me_M_linesAs.2.1 52 = .ok (.getfield 406, 3) := by decide +kernel
theorem d_M_linesAs_55 : decode me_M_linesAs.2.1 55 = .ok (.iconst 2, 1) := by decide +kernel
theorem d_M_linesAs_56 : decode me_M_linesAs.2.1 56 = .ok (.invokevirtual 397, 3) := by decide +kernel
theorem d_M_linesAs_59 : decode me_M_linesAs.2.1 59 = .ok (.isub, 1) := by decide +kernel
theorem d_M_linesAs_60 : decode me_M_linesAs.2.1 60 = .ok (.ireturn, 1) := by decide +kernel
theorem d_M_linesAs_61 : decode me_M_linesAs.2.1 61 = .ok (.aload_n 0, 1) := by decide +kernel
theorem d_M_linesAs_62 : decode me_M_linesAs.2.1 62 = .ok (.bipush 11, 2) := by decide +kernel
theorem d_M_linesAs_64 : decode me_M_linesAs.2.1 64 = .ok (.invokevirtual 394, 3) := by decide +kernel
theorem d_M_linesAs_67 : decode me_M_linesAs.2.1 67 = .ok (.iload_n 2, 1) := by decide +kernel
theorem d_M_linesAs_68 : decode me_M_linesAs.2.1 68 = .ok (.aload_n 0, 1) := by decide +kernel
theorem d_M_linesAs_69 : decode me_M_linesAs.2.1 69 = .ok (.getfield 400, 3) := by decide +kernel
theorem d_M_linesAs_72 : decode me_M_linesAs.2.1 72 = .ok (.ixor, 1) := by decide +kernel
theorem d_M_linesAs_73 : decode me_M_linesAs.2.1 73 = .ok (.ireturn, 1) := by decide +kernel
noncomputable def f_M_linesAs_36 (q_M_linesAs : Int32 → Int32 → gk_M → Option (Int32 × gk_M)) (a2 : Int32) (m0 : gk_M) : Option (Int32 × gk_M) :=
  gk_bv (f_M_begins 50 m0) fun m1 =>
  gk_bi (q_M_linesAs 1 a2 m1) fun v3 m2 =>
  gk_bi (f_M_hidesAs (m2.1 0 43) 2 m2) fun v5 m4 =>
  some ((v3 - v5), m4)

theorem s_M_linesAs_36 {z : gk_Z} {dd : Nat} (K : gk_F tm z me_M_linesAs (63 + (dd + 1))) {r : Int32} {mem2 : gk_M} (q_M_linesAs : Int32 → Int32 → gk_M → Option (Int32 × gk_M)) (hq_M_linesAs : ∀ b0 b1 mem r mem2, q_M_linesAs b0 b1 mem = some (r, mem2) → gk_C tm (gk_zl z) (gk_zu z) me_M_linesAs (63 + dd) [.ref 0, .int b0, .int b1] mem (some (.int r)) mem2) : ∀ a2 m0, f_M_linesAs_36 q_M_linesAs a2 m0 = some (r, mem2) → gk_G tm z me_M_linesAs (gk_R tm z (some (.int r)) mem2) m0 [(0, .ref 0), (2, .int a2)] [] 36 := by
  intro a2 m0  h
  unfold f_M_linesAs_36 at h
  refine gk_aload_n (pc := 36) K d_M_linesAs_36 rfl ?_
  refine gk_bipush (pc := 37) K d_M_linesAs_37 kb_50 ?_
  obtain ⟨m1, em1, h⟩ := gk_bv_some h
  refine gk_cVv (As := [.int 50]) (pc := 39) K d_M_linesAs_39 mv_M_394 mc_M_begins rfl tm_0 cl_ok10.1 (s_M_begins (gk_FD K)  em1) (by omega) rfl (Nat.le_of_ble_eq_true rfl) ?_
  refine gk_aload_n (pc := 42) K d_M_linesAs_42 rfl ?_
  refine gk_iconst (pc := 43) K d_M_linesAs_43 kc_1 ?_
  refine gk_iload_n (pc := 44) K d_M_linesAs_44 rfl ?_
  obtain ⟨v3, m2, em2, h⟩ := gk_bi_some h
  refine gk_cVi (As := [.int 1, .int a2]) (pc := 45) K d_M_linesAs_45 mv_M_409 mc_M_linesAs rfl tm_0 cl_ok10.1 (hq_M_linesAs _ _ _ _ _ em2) (by omega) rfl (Nat.le_of_ble_eq_true rfl) ?_
  refine gk_istore_n (lv2 := [(3, .int v3), (0, .ref 0), (2, .int a2)]) (pc := 48) K d_M_linesAs_48 (by decide) rfl ?_
  refine gk_iload_n (pc := 49) K d_M_linesAs_49 rfl ?_
  refine gk_aload_n (pc := 50) K d_M_linesAs_50 rfl ?_
  refine gk_aload_n (pc := 51) K d_M_linesAs_51 rfl ?_
  refine gk_get (pc := 52) K d_M_linesAs_52 fl_M_406 tm_0 rfl rfl ?_
  refine gk_iconst (pc := 55) K d_M_linesAs_55 kc_2 ?_
  obtain ⟨v5, m4, em4, h⟩ := gk_bi_some h
  refine gk_cVi (As := [.int (m2.1 0 43), .int 2]) (pc := 56) K d_M_linesAs_56 mv_M_397 mc_M_hidesAs rfl tm_0 cl_ok10.1 (s_M_hidesAs (gk_FD K)  em4) (by omega) rfl (Nat.le_of_ble_eq_true rfl) ?_
  refine gk_isub (pc := 59) K d_M_linesAs_59 ?_
  exact gk_iret (pc := 60) K d_M_linesAs_60 rfl h
noncomputable def f_M_linesAs_10 (q_M_linesAs : Int32 → Int32 → gk_M → Option (Int32 × gk_M)) (a2 : Int32) (m0 : gk_M) : Option (Int32 × gk_M) :=
  gk_bv (f_M_begins 40 m0) fun m1 =>
  gk_bi (q_M_linesAs 2 a2 m1) fun v3 m2 =>
  some ((v3 * 3), m2)

theorem s_M_linesAs_10 {z : gk_Z} {dd : Nat} (K : gk_F tm z me_M_linesAs (63 + (dd + 1))) {r : Int32} {mem2 : gk_M} (q_M_linesAs : Int32 → Int32 → gk_M → Option (Int32 × gk_M)) (hq_M_linesAs : ∀ b0 b1 mem r mem2, q_M_linesAs b0 b1 mem = some (r, mem2) → gk_C tm (gk_zl z) (gk_zu z) me_M_linesAs (63 + dd) [.ref 0, .int b0, .int b1] mem (some (.int r)) mem2) : ∀ a2 m0, f_M_linesAs_10 q_M_linesAs a2 m0 = some (r, mem2) → gk_G tm z me_M_linesAs (gk_R tm z (some (.int r)) mem2) m0 [(0, .ref 0), (2, .int a2)] [] 10 := by
  intro a2 m0  h
  unfold f_M_linesAs_10 at h
  refine gk_aload_n (pc := 10) K d_M_linesAs_10 rfl ?_
  refine gk_bipush (pc := 11) K d_M_linesAs_11 kb_40 ?_
  obtain ⟨m1, em1, h⟩ := gk_bv_some h
  refine gk_cVv (As := [.int 40]) (pc := 13) K d_M_linesAs_13 mv_M_394 mc_M_begins rfl tm_0 cl_ok10.1 (s_M_begins (gk_FD K)  em1) (by omega) rfl (Nat.le_of_ble_eq_true rfl) ?_
  refine gk_aload_n (pc := 16) K d_M_linesAs_16 rfl ?_
  refine gk_iconst (pc := 17) K d_M_linesAs_17 kc_2 ?_
  refine gk_iload_n (pc := 18) K d_M_linesAs_18 rfl ?_
  obtain ⟨v3, m2, em2, h⟩ := gk_bi_some h
  refine gk_cVi (As := [.int 2, .int a2]) (pc := 19) K d_M_linesAs_19 mv_M_409 mc_M_linesAs rfl tm_0 cl_ok10.1 (hq_M_linesAs _ _ _ _ _ em2) (by omega) rfl (Nat.le_of_ble_eq_true rfl) ?_
  refine gk_iconst (pc := 22) K d_M_linesAs_22 kc_3 ?_
  refine gk_imul (pc := 23) K d_M_linesAs_23 ?_
  exact gk_iret (pc := 24) K d_M_linesAs_24 rfl h
noncomputable def f_M_linesAs_0 (q_M_linesAs : Int32 → Int32 → gk_M → Option (Int32 × gk_M)) (a1 : Int32) (a2 : Int32) (m0 : gk_M) : Option (Int32 × gk_M) :=
  if a1 = 3 then
    f_M_linesAs_10 q_M_linesAs a2 m0
  else
    if ¬ a1 = 5 then
      if a1 = 4 then
        f_M_linesAs_36 q_M_linesAs a2 m0
      else
        if ¬ a1 = 7 then
          gk_bv (f_M_begins 11 m0) fun m1 =>
          some ((a2 ^^^ (m1.1 0 44)), m1)
        else
          f_M_linesAs_36 q_M_linesAs a2 m0
    else
      f_M_linesAs_10 q_M_linesAs a2 m0

theorem s_M_linesAs_0 {z : gk_Z} {dd : Nat} (K : gk_F tm z me_M_linesAs (63 + (dd + 1))) {r : Int32} {mem2 : gk_M} (q_M_linesAs : Int32 → Int32 → gk_M → Option (Int32 × gk_M)) (hq_M_linesAs : ∀ b0 b1 mem r mem2, q_M_linesAs b0 b1 mem = some (r, mem2) → gk_C tm (gk_zl z) (gk_zu z) me_M_linesAs (63 + dd) [.ref 0, .int b0, .int b1] mem (some (.int r)) mem2) : ∀ a1 a2 m0, f_M_linesAs_0 q_M_linesAs a1 a2 m0 = some (r, mem2) → gk_G tm z me_M_linesAs (gk_R tm z (some (.int r)) mem2) m0 [(0, .ref 0), (1, .int a1), (2, .int a2)] [] 0 := by
  intro a1 a2 m0  h
  unfold f_M_linesAs_0 at h
  refine gk_iload_n (pc := 0) K d_M_linesAs_0 rfl ?_
  refine gk_iconst (pc := 1) K d_M_linesAs_1 kc_3 ?_
  refine gk_ic_eq (tgt := 10) (pc := 2) K d_M_linesAs_2 (by decide) h (fun h => ?_) (fun h => ?_)
  · exact gk_sub [0, 2] rfl (s_M_linesAs_10 K q_M_linesAs hq_M_linesAs _ _  h)
  · refine gk_iload_n (pc := 5) K d_M_linesAs_5 rfl ?_
    refine gk_iconst (pc := 6) K d_M_linesAs_6 kc_5 ?_
    refine gk_ic_ne (tgt := 25) (pc := 7) K d_M_linesAs_7 (by decide) h (fun h => ?_) (fun h => ?_)
    · refine gk_iload_n (pc := 25) K d_M_linesAs_25 rfl ?_
      refine gk_iconst (pc := 26) K d_M_linesAs_26 kc_4 ?_
      refine gk_ic_eq (tgt := 36) (pc := 27) K d_M_linesAs_27 (by decide) h (fun h => ?_) (fun h => ?_)
      · exact gk_sub [0, 2] rfl (s_M_linesAs_36 K q_M_linesAs hq_M_linesAs _ _  h)
      · refine gk_iload_n (pc := 30) K d_M_linesAs_30 rfl ?_
        refine gk_bipush (pc := 31) K d_M_linesAs_31 kb_7 ?_
        refine gk_ic_ne (tgt := 61) (pc := 33) K d_M_linesAs_33 (by decide) h (fun h => ?_) (fun h => ?_)
        · refine gk_aload_n (pc := 61) K d_M_linesAs_61 rfl ?_
          refine gk_bipush (pc := 62) K d_M_linesAs_62 kb_11 ?_
          obtain ⟨m1, em1, h⟩ := gk_bv_some h
          refine gk_cVv (As := [.int 11]) (pc := 64) K d_M_linesAs_64 mv_M_394 mc_M_begins rfl tm_0 cl_ok10.1 (s_M_begins (gk_FD K)  em1) (by omega) rfl (Nat.le_of_ble_eq_true rfl) ?_
          refine gk_iload_n (pc := 67) K d_M_linesAs_67 rfl ?_
          refine gk_aload_n (pc := 68) K d_M_linesAs_68 rfl ?_
          refine gk_get (pc := 69) K d_M_linesAs_69 fl_M_400 tm_0 rfl rfl ?_
          refine gk_ixor (pc := 72) K d_M_linesAs_72 ?_
          exact gk_iret (pc := 73) K d_M_linesAs_73 rfl h
        · exact gk_sub [0, 2] rfl (s_M_linesAs_36 K q_M_linesAs hq_M_linesAs _ _  h)
    · exact gk_sub [0, 2] rfl (s_M_linesAs_10 K q_M_linesAs hq_M_linesAs _ _  h)
noncomputable def r_M_linesAs_s (p : Nat → Int32 → Int32 → gk_M → Option (Int32 × gk_M)) : Nat → Int32 → Int32 → gk_M → Option (Int32 × gk_M)
  | 0, x0, x1, m0 => f_M_linesAs_0 (fun b0 b1 m => p 0 b0 b1 m) x0 x1 m0
  | _, _, _, _ => none
noncomputable def r_M_linesAs : Nat → Nat → Int32 → Int32 → gk_M → Option (Int32 × gk_M)
  | 0 => fun _ _ _ _ => none
  | d + 1 => r_M_linesAs_s (r_M_linesAs d)
theorem r_M_linesAs_e0 (d : Nat) (x0 : Int32) (x1 : Int32) (m0 : gk_M) : r_M_linesAs (d + 1) 0 x0 x1 m0 = f_M_linesAs_0 (fun b0 b1 m => r_M_linesAs d 0 b0 b1 m) x0 x1 m0 := rfl
theorem sr_M_linesAs {l : Launch} {u : gk_U} (hD : gk_D tm u) : ∀ d, (∀ b0 b1 mem r mem2, r_M_linesAs d 0 b0 b1 mem = some (r, mem2) → gk_C tm l u me_M_linesAs (63 + d) [.ref 0, .int b0, .int b1] mem (some (.int r)) mem2) := by
  intro d
  induction d with
  | zero => exact (fun _ _ _ _ _ h => nomatch (show (none : Option _) = some _ from h))
  | succ d ih =>
    intro b0 b1 mem r mem2 h
    refine gk_enter hD mc_M_linesAs (Nat.le_of_ble_eq_true rfl) rfl (fun z hl hu K => ?_)
    subst hl
    subst hu
    rw [r_M_linesAs_e0] at h
    exact s_M_linesAs_0 K (fun b0 b1 m => r_M_linesAs d 0 b0 b1 m) (fun y0 y1 a b c h => ih y0 y1 a b c h) _ _ _ h
noncomputable def f_M_linesAs (a1 : Int32) (a2 : Int32) (m0 : gk_M) : Option (Int32 × gk_M) := r_M_linesAs 60 0 a1 a2 m0
theorem s_M_linesAs {l : Launch} {u : gk_U} (hD : gk_D tm u) {a1 : Int32} {a2 : Int32} {m0 mem2 : gk_M} {r : Int32} (h : f_M_linesAs a1 a2 m0 = some (r, mem2)) : gk_C tm l u me_M_linesAs 123 [.ref 0, .int a1, .int a2] m0 (some (.int r)) mem2 := (sr_M_linesAs hD 60) _ _ _ _ _ h
theorem d_M_standsAs_0 : decode me_M_standsAs.2.1 0 = .ok (.iload_n 1, 1) := by decide +kernel
theorem d_M_standsAs_1 : decode me_M_standsAs.2.1 1 = .ok (.iconst 3, 1) := by decide +kernel
theorem d_M_standsAs_2 : decode me_M_standsAs.2.1 2 = .ok (.if_icmp .eq 8, 3) := by decide +kernel
theorem d_M_standsAs_5 : decode me_M_standsAs.2.1 5 = .ok (.iload_n 1, 1) := by decide +kernel
theorem d_M_standsAs_6 : decode me_M_standsAs.2.1 6 = .ok (.iconst 5, 1) := by decide +kernel
theorem d_M_standsAs_7 : decode me_M_standsAs.2.1 7 = .ok (.if_icmp .ne 18, 3) := by decide +kernel
theorem d_M_standsAs_10 : decode me_M_standsAs.2.1 10 = .ok (.aload_n 0, 1) := by decide +kernel
theorem d_M_standsAs_11 : decode me_M_standsAs.2.1 11 = .ok (.bipush 41, 2) := by decide +kernel
theorem d_M_standsAs_13 : decode me_M_standsAs.2.1 13 = .ok (.invokevirtual 394, 3) := by decide +kernel
theorem d_M_standsAs_16 : decode me_M_standsAs.2.1 16 = .ok (.aload_n 0, 1) := by decide +kernel
theorem d_M_standsAs_17 : decode me_M_standsAs.2.1 17 = .ok (.iconst 2, 1) := by decide +kernel
theorem d_M_standsAs_18 : decode me_M_standsAs.2.1 18 = .ok (.iload_n 2, 1) := by decide +kernel
theorem d_M_standsAs_19 : decode me_M_standsAs.2.1 19 = .ok (.iconst 1, 1) := by decide +kernel
theorem d_M_standsAs_20 : decode me_M_standsAs.2.1 20 = .ok (.iadd, 1) := by decide +kernel
theorem d_M_standsAs_21 : decode me_M_standsAs.2.1 21 = .ok (.invokevirtual 403, 3) := by decide +kernel
theorem d_M_standsAs_24 : decode me_M_standsAs.2.1 24 = .ok (.ireturn, 1) := by decide +kernel
theorem d_M_standsAs_25 : decode me_M_standsAs.2.1 25 = .ok (.iload_n 1, 1) := by decide +kernel
theorem d_M_standsAs_26 : decode me_M_standsAs.2.1 26 = .ok (.iconst 2, 1) := by decide +kernel
theorem d_M_standsAs_27 : decode me_M_standsAs.2.1 27 = .ok (.if_icmp .ne 17, 3) := by decide +kernel
theorem d_M_standsAs_30 : decode me_M_standsAs.2.1 30 = .ok (.aload_n 0, 1) := by decide +kernel
theorem d_M_standsAs_31 : decode me_M_standsAs.2.1 31 = .ok (.bipush 30, 2) := by decide +kernel
theorem d_M_standsAs_33 : decode me_M_standsAs.2.1 33 = .ok (.invokevirtual 394, 3) := by decide +kernel
theorem d_M_standsAs_36 : decode me_M_standsAs.2.1 36 = .ok (.aload_n 0, 1) := by decide +kernel
theorem d_M_standsAs_37 : decode me_M_standsAs.2.1 37 = .ok (.iconst 0, 1) := by decide +kernel
theorem d_M_standsAs_38 : decode me_M_standsAs.2.1 38 = .ok (.iload_n 2, 1) := by decide +kernel
theorem d_M_standsAs_39 : decode me_M_standsAs.2.1 39 = .ok (.invokevirtual 403, 3) := by decide +kernel
theorem d_M_standsAs_42 : decode me_M_standsAs.2.1 42 = .ok (.ineg, 1) := by decide +kernel
theorem d_M_standsAs_43 : decode me_M_standsAs.2.1 43 = .ok (.ireturn, 1) := by decide +kernel
theorem d_M_standsAs_44 : decode me_M_standsAs.2.1 44 = .ok (.iload_n 1, 1) := by decide +kernel
theorem d_M_standsAs_45 : decode me_M_standsAs.2.1 45 = .ok (.bipush 7, 2) := by decide +kernel
theorem d_M_standsAs_47 : decode me_M_standsAs.2.1 47 = .ok (.if_icmp .ne 28, 3) := by decide +kernel
theorem d_M_standsAs_50 : decode me_M_standsAs.2.1 50 = .ok (.aload_n 0, 1) := by decide +kernel
theorem d_M_standsAs_51 : decode me_M_standsAs.2.1 51 = .ok (.bipush 80, 2) := by decide +kernel
theorem d_M_standsAs_53 : decode me_M_standsAs.2.1 53 = .ok (.invokevirtual 394, 3) := by decide +kernel
theorem d_M_standsAs_56 : decode me_M_standsAs.2.1 56 = .ok (.aload_n 0, 1) := by decide +kernel
theorem d_M_standsAs_57 : decode me_M_standsAs.2.1 57 = .ok (.iconst 4, 1) := by decide +kernel
theorem d_M_standsAs_58 : decode me_M_standsAs.2.1 58 = .ok (.iload_n 2, 1) := by decide +kernel
theorem d_M_standsAs_59 : decode me_M_standsAs.2.1 59 = .ok (.invokevirtual 403, 3) := by decide +kernel
theorem d_M_standsAs_62 : decode me_M_standsAs.2.1 62 = .ok (.istore_n 3, 1) := by decide +kernel
theorem d_M_standsAs_63 : decode me_M_standsAs.2.1 63 = .ok (.iload_n 3, 1) := by decide +kernel
theorem d_M_standsAs_64 : decode me_M_standsAs.2.1 64 = .ok (.aload_n 0, 1) := by decide +kernel
theorem d_M_standsAs_65 : decode me_M_standsAs.2.1 65 = .ok (.aload_n 0, 1) := by decide +kernel
theorem d_M_standsAs_66 : decode me_M_standsAs.2.1 66 = .ok (.getfield 406, 3) := by decide +kernel
theorem d_M_standsAs_69 : decode me_M_standsAs.2.1 69 = .ok (.iconst 2, 1) := by decide +kernel
theorem d_M_standsAs_70 : decode me_M_standsAs.2.1 70 = .ok (.invokevirtual 409, 3) := by decide +kernel
theorem d_M_standsAs_73 : decode me_M_standsAs.2.1 73 = .ok (.iadd, 1) := by decide +kernel
theorem d_M_standsAs_74 : decode me_M_standsAs.2.1 74 = .ok (.ireturn, 1) := by decide +kernel
theorem d_M_standsAs_75 : decode me_M_standsAs.2.1 75 = .ok (.aload_n 0, 1) := by decide +kernel
theorem d_M_standsAs_76 : decode me_M_standsAs.2.1 76 = .ok (.bipush 10, 2) := by decide +kernel
theorem d_M_standsAs_78 : decode me_M_standsAs.2.1 78 = .ok (.invokevirtual 394, 3) := by decide +kernel
theorem d_M_standsAs_81 : decode me_M_standsAs.2.1 81 = .ok (.aload_n 0, 1) := by decide +kernel
theorem d_M_standsAs_82 : decode me_M_standsAs.2.1 82 = .ok (.aload_n 0, 1) := by decide +kernel
theorem d_M_standsAs_83 : decode me_M_standsAs.2.1 83 = .ok (.getfield 406, 3) := by decide +kernel
theorem d_M_standsAs_86 : decode me_M_standsAs.2.1 86 = .ok (.iload_n 2, 1) := by decide +kernel
theorem d_M_standsAs_87 : decode me_M_standsAs.2.1 87 = .ok (.invokevirtual 397, 3) := by decide +kernel
theorem d_M_standsAs_90 : decode me_M_standsAs.2.1 90 = .ok (.iconst 2, 1) := by decide +kernel
theorem d_M_standsAs_91 : decode me_M_standsAs.2.1 91 = .ok (.imul, 1) := by decide +kernel
theorem d_M_standsAs_92 : decode me_M_standsAs.2.1 92 = .ok (.ireturn, 1) := by decide +kernel
noncomputable def f_M_standsAs_10 (q_M_standsAs : Int32 → Int32 → gk_M → Option (Int32 × gk_M)) (a2 : Int32) (m0 : gk_M) : Option (Int32 × gk_M) :=
  gk_bv (f_M_begins 41 m0) fun m1 =>
  gk_bi (q_M_standsAs 2 (a2 + 1) m1) fun v3 m2 =>
  some (v3, m2)

theorem s_M_standsAs_10 {z : gk_Z} {dd : Nat} (K : gk_F tm z me_M_standsAs (124 + (dd + 1))) {r : Int32} {mem2 : gk_M} (q_M_standsAs : Int32 → Int32 → gk_M → Option (Int32 × gk_M)) (hq_M_standsAs : ∀ b0 b1 mem r mem2, q_M_standsAs b0 b1 mem = some (r, mem2) → gk_C tm (gk_zl z) (gk_zu z) me_M_standsAs (124 + dd) [.ref 0, .int b0, .int b1] mem (some (.int r)) mem2) : ∀ a2 m0, f_M_standsAs_10 q_M_standsAs a2 m0 = some (r, mem2) → gk_G tm z me_M_standsAs (gk_R tm z (some (.int r)) mem2) m0 [(0, .ref 0), (2, .int a2)] [] 10 := by
  intro a2 m0  h
  unfold f_M_standsAs_10 at h
  refine gk_aload_n (pc := 10) K d_M_standsAs_10 rfl ?_
  refine gk_bipush (pc := 11) K d_M_standsAs_11 kb_41 ?_
  obtain ⟨m1, em1, h⟩ := gk_bv_some h
  refine gk_cVv (As := [.int 41]) (pc := 13) K d_M_standsAs_13 mv_M_394 mc_M_begins rfl tm_0 cl_ok10.1 (s_M_begins (gk_FD K)  em1) (by omega) rfl (Nat.le_of_ble_eq_true rfl) ?_
  refine gk_aload_n (pc := 16) K d_M_standsAs_16 rfl ?_
  refine gk_iconst (pc := 17) K d_M_standsAs_17 kc_2 ?_
  refine gk_iload_n (pc := 18) K d_M_standsAs_18 rfl ?_
  refine gk_iconst (pc := 19) K d_M_standsAs_19 kc_1 ?_
  refine gk_iadd (pc := 20) K d_M_standsAs_20 ?_
  obtain ⟨v3, m2, em2, h⟩ := gk_bi_some h
  refine gk_cVi (As := [.int 2, .int (a2 + 1)]) (pc := 21) K d_M_standsAs_21 mv_M_403 mc_M_standsAs rfl tm_0 cl_ok10.1 (hq_M_standsAs _ _ _ _ _ em2) (by omega) rfl (Nat.le_of_ble_eq_true rfl) ?_
  exact gk_iret (pc := 24) K d_M_standsAs_24 rfl h
noncomputable def f_M_standsAs_0 (q_M_standsAs : Int32 → Int32 → gk_M → Option (Int32 × gk_M)) (a1 : Int32) (a2 : Int32) (m0 : gk_M) : Option (Int32 × gk_M) :=
  if a1 = 3 then
    f_M_standsAs_10 q_M_standsAs a2 m0
  else
    if ¬ a1 = 5 then
      if ¬ a1 = 2 then
        if ¬ a1 = 7 then
          gk_bv (f_M_begins 10 m0) fun m1 =>
          gk_bi (f_M_hidesAs (m1.1 0 43) a2 m1) fun v3 m2 =>
          some ((v3 * 2), m2)
        else
          gk_bv (f_M_begins 80 m0) fun m4 =>
          gk_bi (q_M_standsAs 4 a2 m4) fun v6 m5 =>
          gk_bi (f_M_linesAs (m5.1 0 43) 2 m5) fun v8 m7 =>
          some ((v6 + v8), m7)
      else
        gk_bv (f_M_begins 30 m0) fun m9 =>
        gk_bi (q_M_standsAs 0 a2 m9) fun v11 m10 =>
        some ((-v11), m10)
    else
      f_M_standsAs_10 q_M_standsAs a2 m0

theorem s_M_standsAs_0 {z : gk_Z} {dd : Nat} (K : gk_F tm z me_M_standsAs (124 + (dd + 1))) {r : Int32} {mem2 : gk_M} (q_M_standsAs : Int32 → Int32 → gk_M → Option (Int32 × gk_M)) (hq_M_standsAs : ∀ b0 b1 mem r mem2, q_M_standsAs b0 b1 mem = some (r, mem2) → gk_C tm (gk_zl z) (gk_zu z) me_M_standsAs (124 + dd) [.ref 0, .int b0, .int b1] mem (some (.int r)) mem2) : ∀ a1 a2 m0, f_M_standsAs_0 q_M_standsAs a1 a2 m0 = some (r, mem2) → gk_G tm z me_M_standsAs (gk_R tm z (some (.int r)) mem2) m0 [(0, .ref 0), (1, .int a1), (2, .int a2)] [] 0 := by
  intro a1 a2 m0  h
  unfold f_M_standsAs_0 at h
  refine gk_iload_n (pc := 0) K d_M_standsAs_0 rfl ?_
  refine gk_iconst (pc := 1) K d_M_standsAs_1 kc_3 ?_
  refine gk_ic_eq (tgt := 10) (pc := 2) K d_M_standsAs_2 (by decide) h (fun h => ?_) (fun h => ?_)
  · exact gk_sub [0, 2] rfl (s_M_standsAs_10 K q_M_standsAs hq_M_standsAs _ _  h)
  · refine gk_iload_n (pc := 5) K d_M_standsAs_5 rfl ?_
    refine gk_iconst (pc := 6) K d_M_standsAs_6 kc_5 ?_
    refine gk_ic_ne (tgt := 25) (pc := 7) K d_M_standsAs_7 (by decide) h (fun h => ?_) (fun h => ?_)
    · refine gk_iload_n (pc := 25) K d_M_standsAs_25 rfl ?_
      refine gk_iconst (pc := 26) K d_M_standsAs_26 kc_2 ?_
      refine gk_ic_ne (tgt := 44) (pc := 27) K d_M_standsAs_27 (by decide) h (fun h => ?_) (fun h => ?_)
      · refine gk_iload_n (pc := 44) K d_M_standsAs_44 rfl ?_
        refine gk_bipush (pc := 45) K d_M_standsAs_45 kb_7 ?_
        refine gk_ic_ne (tgt := 75) (pc := 47) K d_M_standsAs_47 (by decide) h (fun h => ?_) (fun h => ?_)
        · refine gk_aload_n (pc := 75) K d_M_standsAs_75 rfl ?_
          refine gk_bipush (pc := 76) K d_M_standsAs_76 kb_10 ?_
          obtain ⟨m1, em1, h⟩ := gk_bv_some h
          refine gk_cVv (As := [.int 10]) (pc := 78) K d_M_standsAs_78 mv_M_394 mc_M_begins rfl tm_0 cl_ok10.1 (s_M_begins (gk_FD K)  em1) (by omega) rfl (Nat.le_of_ble_eq_true rfl) ?_
          refine gk_aload_n (pc := 81) K d_M_standsAs_81 rfl ?_
          refine gk_aload_n (pc := 82) K d_M_standsAs_82 rfl ?_
          refine gk_get (pc := 83) K d_M_standsAs_83 fl_M_406 tm_0 rfl rfl ?_
          refine gk_iload_n (pc := 86) K d_M_standsAs_86 rfl ?_
          obtain ⟨v3, m2, em2, h⟩ := gk_bi_some h
          refine gk_cVi (As := [.int (m1.1 0 43), .int a2]) (pc := 87) K d_M_standsAs_87 mv_M_397 mc_M_hidesAs rfl tm_0 cl_ok10.1 (s_M_hidesAs (gk_FD K)  em2) (by omega) rfl (Nat.le_of_ble_eq_true rfl) ?_
          refine gk_iconst (pc := 90) K d_M_standsAs_90 kc_2 ?_
          refine gk_imul (pc := 91) K d_M_standsAs_91 ?_
          exact gk_iret (pc := 92) K d_M_standsAs_92 rfl h
        · refine gk_aload_n (pc := 50) K d_M_standsAs_50 rfl ?_
          refine gk_bipush (pc := 51) K d_M_standsAs_51 kb_80 ?_
          obtain ⟨m4, em4, h⟩ := gk_bv_some h
          refine gk_cVv (As := [.int 80]) (pc := 53) K d_M_standsAs_53 mv_M_394 mc_M_begins rfl tm_0 cl_ok10.1 (s_M_begins (gk_FD K)  em4) (by omega) rfl (Nat.le_of_ble_eq_true rfl) ?_
          refine gk_aload_n (pc := 56) K d_M_standsAs_56 rfl ?_
          refine gk_iconst (pc := 57) K d_M_standsAs_57 kc_4 ?_
          refine gk_iload_n (pc := 58) K d_M_standsAs_58 rfl ?_
          obtain ⟨v6, m5, em5, h⟩ := gk_bi_some h
          refine gk_cVi (As := [.int 4, .int a2]) (pc := 59) K d_M_standsAs_59 mv_M_403 mc_M_standsAs rfl tm_0 cl_ok10.1 (hq_M_standsAs _ _ _ _ _ em5) (by omega) rfl (Nat.le_of_ble_eq_true rfl) ?_
          refine gk_istore_n (lv2 := [(3, .int v6), (0, .ref 0), (1, .int a1), (2, .int a2)]) (pc := 62) K d_M_standsAs_62 (by decide) rfl ?_
          refine gk_iload_n (pc := 63) K d_M_standsAs_63 rfl ?_
          refine gk_aload_n (pc := 64) K d_M_standsAs_64 rfl ?_
          refine gk_aload_n (pc := 65) K d_M_standsAs_65 rfl ?_
          refine gk_get (pc := 66) K d_M_standsAs_66 fl_M_406 tm_0 rfl rfl ?_
          refine gk_iconst (pc := 69) K d_M_standsAs_69 kc_2 ?_
          obtain ⟨v8, m7, em7, h⟩ := gk_bi_some h
          refine gk_cVi (As := [.int (m5.1 0 43), .int 2]) (pc := 70) K d_M_standsAs_70 mv_M_409 mc_M_linesAs rfl tm_0 cl_ok10.1 (s_M_linesAs (gk_FD K)  em7) (by omega) rfl (Nat.le_of_ble_eq_true rfl) ?_
          refine gk_iadd (pc := 73) K d_M_standsAs_73 ?_
          exact gk_iret (pc := 74) K d_M_standsAs_74 rfl h
      · refine gk_aload_n (pc := 30) K d_M_standsAs_30 rfl ?_
        refine gk_bipush (pc := 31) K d_M_standsAs_31 kb_30 ?_
        obtain ⟨m9, em9, h⟩ := gk_bv_some h
        refine gk_cVv (As := [.int 30]) (pc := 33) K d_M_standsAs_33 mv_M_394 mc_M_begins rfl tm_0 cl_ok10.1 (s_M_begins (gk_FD K)  em9) (by omega) rfl (Nat.le_of_ble_eq_true rfl) ?_
        refine gk_aload_n (pc := 36) K d_M_standsAs_36 rfl ?_
        refine gk_iconst (pc := 37) K d_M_standsAs_37 kc_0 ?_
        refine gk_iload_n (pc := 38) K d_M_standsAs_38 rfl ?_
        obtain ⟨v11, m10, em10, h⟩ := gk_bi_some h
        refine gk_cVi (As := [.int 0, .int a2]) (pc := 39) K d_M_standsAs_39 mv_M_403 mc_M_standsAs rfl tm_0 cl_ok10.1 (hq_M_standsAs _ _ _ _ _ em10) (by omega) rfl (Nat.le_of_ble_eq_true rfl) ?_
        refine gk_ineg (pc := 42) K d_M_standsAs_42 ?_
        exact gk_iret (pc := 43) K d_M_standsAs_43 rfl h
    · exact gk_sub [0, 2] rfl (s_M_standsAs_10 K q_M_standsAs hq_M_standsAs _ _  h)
noncomputable def r_M_standsAs_s (p : Nat → Int32 → Int32 → gk_M → Option (Int32 × gk_M)) : Nat → Int32 → Int32 → gk_M → Option (Int32 × gk_M)
  | 0, x0, x1, m0 => f_M_standsAs_0 (fun b0 b1 m => p 0 b0 b1 m) x0 x1 m0
  | _, _, _, _ => none
noncomputable def r_M_standsAs : Nat → Nat → Int32 → Int32 → gk_M → Option (Int32 × gk_M)
  | 0 => fun _ _ _ _ => none
  | d + 1 => r_M_standsAs_s (r_M_standsAs d)
theorem r_M_standsAs_e0 (d : Nat) (x0 : Int32) (x1 : Int32) (m0 : gk_M) : r_M_standsAs (d + 1) 0 x0 x1 m0 = f_M_standsAs_0 (fun b0 b1 m => r_M_standsAs d 0 b0 b1 m) x0 x1 m0 := rfl
theorem sr_M_standsAs {l : Launch} {u : gk_U} (hD : gk_D tm u) : ∀ d, (∀ b0 b1 mem r mem2, r_M_standsAs d 0 b0 b1 mem = some (r, mem2) → gk_C tm l u me_M_standsAs (124 + d) [.ref 0, .int b0, .int b1] mem (some (.int r)) mem2) := by
  intro d
  induction d with
  | zero => exact (fun _ _ _ _ _ h => nomatch (show (none : Option _) = some _ from h))
  | succ d ih =>
    intro b0 b1 mem r mem2 h
    refine gk_enter hD mc_M_standsAs (Nat.le_of_ble_eq_true rfl) rfl (fun z hl hu K => ?_)
    subst hl
    subst hu
    rw [r_M_standsAs_e0] at h
    exact s_M_standsAs_0 K (fun b0 b1 m => r_M_standsAs d 0 b0 b1 m) (fun y0 y1 a b c h => ih y0 y1 a b c h) _ _ _ h
noncomputable def f_M_standsAs (a1 : Int32) (a2 : Int32) (m0 : gk_M) : Option (Int32 × gk_M) := r_M_standsAs 60 0 a1 a2 m0
theorem s_M_standsAs {l : Launch} {u : gk_U} (hD : gk_D tm u) {a1 : Int32} {a2 : Int32} {m0 mem2 : gk_M} {r : Int32} (h : f_M_standsAs a1 a2 m0 = some (r, mem2)) : gk_C tm l u me_M_standsAs 184 [.ref 0, .int a1, .int a2] m0 (some (.int r)) mem2 := (sr_M_standsAs hD 60) _ _ _ _ _ h
theorem d_M_tellsAs_0 : decode me_M_tellsAs.2.1 0 = .ok (.iload_n 1, 1) := by decide +kernel
theorem d_M_tellsAs_1 : decode me_M_tellsAs.2.1 1 = .ok (.iconst 5, 1) := by decide +kernel
theorem d_M_tellsAs_2 : decode me_M_tellsAs.2.1 2 = .ok (.if_icmp .ne 18, 3) := by decide +kernel
theorem d_M_tellsAs_5 : decode me_M_tellsAs.2.1 5 = .ok (.aload_n 0, 1) := by decide +kernel
theorem d_M_tellsAs_6 : decode me_M_tellsAs.2.1 6 = .ok (.bipush 60, 2) := by decide +kernel
theorem d_M_tellsAs_8 : decode me_M_tellsAs.2.1 8 = .ok (.invokevirtual 394, 3) := by decide +kernel
theorem d_M_tellsAs_11 : decode me_M_tellsAs.2.1 11 = .ok (.aload_n 0, 1) := by decide +kernel
theorem d_M_tellsAs_12 : decode me_M_tellsAs.2.1 12 = .ok (.iconst 3, 1) := by decide +kernel
theorem d_M_tellsAs_13 : decode me_M_tellsAs.2.1 13 = .ok (.iload_n 2, 1) := by decide +kernel
theorem d_M_tellsAs_14 : decode me_M_tellsAs.2.1 14 = .ok (.invokevirtual 412, 3) := by decide +kernel
theorem d_M_tellsAs_17 : decode me_M_tellsAs.2.1 17 = .ok (.iconst 5, 1) := by decide +kernel
theorem d_M_tellsAs_18 : decode me_M_tellsAs.2.1 18 = .ok (.ixor, 1) := by decide +kernel
theorem d_M_tellsAs_19 : decode me_M_tellsAs.2.1 19 = .ok (.ireturn, 1) := by decide +kernel
theorem d_M_tellsAs_20 : decode me_M_tellsAs.2.1 20 = .ok (.iload_n 1, 1) := by decide +kernel
theorem d_M_tellsAs_21 : decode me_M_tellsAs.2.1 21 = .ok (.bipush 7, 2) := by decide +kernel
theorem d_M_tellsAs_23 : decode me_M_tellsAs.2.1 23 = .ok (.if_icmp .ne 18, 3) := by decide +kernel
theorem d_M_tellsAs_26 : decode me_M_tellsAs.2.1 26 = .ok (.aload_n 0, 1) := by decide +kernel
theorem d_M_tellsAs_27 : decode me_M_tellsAs.2.1 27 = .ok (.bipush 81, 2) := by decide +kernel
theorem d_M_tellsAs_29 : decode me_M_tellsAs.2.1 29 = .ok (.invokevirtual 394, 3) := by decide +kernel
theorem d_M_tellsAs_32 : decode me_M_tellsAs.2.1 32 = .ok (.aload_n 0, 1) := by decide +kernel
theorem d_M_tellsAs_33 : decode me_M_tellsAs.2.1 33 = .ok (.iconst 4, 1) := by decide +kernel
theorem d_M_tellsAs_34 : decode me_M_tellsAs.2.1 34 = .ok (.iload_n 2, 1) := by decide +kernel
theorem d_M_tellsAs_35 : decode me_M_tellsAs.2.1 35 = .ok (.invokevirtual 412, 3) := by decide +kernel
theorem d_M_tellsAs_38 : decode me_M_tellsAs.2.1 38 = .ok (.iconst 1, 1) := by decide +kernel
theorem d_M_tellsAs_39 : decode me_M_tellsAs.2.1 39 = .ok (.isub, 1) := by decide +kernel
theorem d_M_tellsAs_40 : decode me_M_tellsAs.2.1 40 = .ok (.ireturn, 1) := by decide +kernel
theorem d_M_tellsAs_41 : decode me_M_tellsAs.2.1 41 = .ok (.aload_n 0, 1) := by decide +kernel
theorem d_M_tellsAs_42 : decode me_M_tellsAs.2.1 42 = .ok (.iconst 2, 1) := by decide +kernel
theorem d_M_tellsAs_43 : decode me_M_tellsAs.2.1 43 = .ok (.invokevirtual 394, 3) := by decide +kernel
theorem d_M_tellsAs_46 : decode me_M_tellsAs.2.1 46 = .ok (.aload_n 0, 1) := by decide +kernel
theorem d_M_tellsAs_47 : decode me_M_tellsAs.2.1 47 = .ok (.aload_n 0, 1) := by decide +kernel
theorem d_M_tellsAs_48 : decode me_M_tellsAs.2.1 48 = .ok (.getfield 406, 3) := by decide +kernel
theorem d_M_tellsAs_51 : decode me_M_tellsAs.2.1 51 = .ok (.iload_n 2, 1) := by decide +kernel
theorem d_M_tellsAs_52 : decode me_M_tellsAs.2.1 52 = .ok (.invokevirtual 403, 3) := by decide +kernel
theorem d_M_tellsAs_55 : decode me_M_tellsAs.2.1 55 = .ok (.istore_n 3, 1) := by decide +kernel
theorem d_M_tellsAs_56 : decode me_M_tellsAs.2.1 56 = .ok (.iload_n 3, 1) := by decide +kernel
theorem d_M_tellsAs_57 : decode me_M_tellsAs.2.1 57 = .ok (.aload_n 0, 1) := by decide +kernel
theorem d_M_tellsAs_58 : decode me_M_tellsAs.2.1 58 = .ok (.aload_n 0, 1) := by decide +kernel
theorem d_M_tellsAs_59 : decode me_M_tellsAs.2.1 59 = .ok (.getfield 406, 3) := by decide +kernel
theorem d_M_tellsAs_62 : decode me_M_tellsAs.2.1 62 = .ok (.iconst 1, 1) := by decide +kernel
theorem d_M_tellsAs_63 : decode me_M_tellsAs.2.1 63 = .ok (.invokevirtual 409, 3) := by decide +kernel
theorem d_M_tellsAs_66 : decode me_M_tellsAs.2.1 66 = .ok (.isub, 1) := by decide +kernel
theorem d_M_tellsAs_67 : decode me_M_tellsAs.2.1 67 = .ok (.ireturn, 1) := by decide +kernel
noncomputable def f_M_tellsAs_0 (q_M_tellsAs : Int32 → Int32 → gk_M → Option (Int32 × gk_M)) (a1 : Int32) (a2 : Int32) (m0 : gk_M) : Option (Int32 × gk_M) :=
  if ¬ a1 = 5 then
    if ¬ a1 = 7 then
      gk_bv (f_M_begins 2 m0) fun m1 =>
      gk_bi (f_M_standsAs (m1.1 0 43) a2 m1) fun v3 m2 =>
      gk_bi (f_M_linesAs (m2.1 0 43) 1 m2) fun v5 m4 =>
      some ((v3 - v5), m4)
    else
      gk_bv (f_M_begins 81 m0) fun m6 =>
      gk_bi (q_M_tellsAs 4 a2 m6) fun v8 m7 =>
      some ((v8 - 1), m7)
  else
    gk_bv (f_M_begins 60 m0) fun m9 =>
    gk_bi (q_M_tellsAs 3 a2 m9) fun v11 m10 =>
    some ((v11 ^^^ 5), m10)

theorem s_M_tellsAs_0 {z : gk_Z} {dd : Nat} (K : gk_F tm z me_M_tellsAs (185 + (dd + 1))) {r : Int32} {mem2 : gk_M} (q_M_tellsAs : Int32 → Int32 → gk_M → Option (Int32 × gk_M)) (hq_M_tellsAs : ∀ b0 b1 mem r mem2, q_M_tellsAs b0 b1 mem = some (r, mem2) → gk_C tm (gk_zl z) (gk_zu z) me_M_tellsAs (185 + dd) [.ref 0, .int b0, .int b1] mem (some (.int r)) mem2) : ∀ a1 a2 m0, f_M_tellsAs_0 q_M_tellsAs a1 a2 m0 = some (r, mem2) → gk_G tm z me_M_tellsAs (gk_R tm z (some (.int r)) mem2) m0 [(0, .ref 0), (1, .int a1), (2, .int a2)] [] 0 := by
  intro a1 a2 m0  h
  unfold f_M_tellsAs_0 at h
  refine gk_iload_n (pc := 0) K d_M_tellsAs_0 rfl ?_
  refine gk_iconst (pc := 1) K d_M_tellsAs_1 kc_5 ?_
  refine gk_ic_ne (tgt := 20) (pc := 2) K d_M_tellsAs_2 (by decide) h (fun h => ?_) (fun h => ?_)
  · refine gk_iload_n (pc := 20) K d_M_tellsAs_20 rfl ?_
    refine gk_bipush (pc := 21) K d_M_tellsAs_21 kb_7 ?_
    refine gk_ic_ne (tgt := 41) (pc := 23) K d_M_tellsAs_23 (by decide) h (fun h => ?_) (fun h => ?_)
    · refine gk_aload_n (pc := 41) K d_M_tellsAs_41 rfl ?_
      refine gk_iconst (pc := 42) K d_M_tellsAs_42 kc_2 ?_
      obtain ⟨m1, em1, h⟩ := gk_bv_some h
      refine gk_cVv (As := [.int 2]) (pc := 43) K d_M_tellsAs_43 mv_M_394 mc_M_begins rfl tm_0 cl_ok10.1 (s_M_begins (gk_FD K)  em1) (by omega) rfl (Nat.le_of_ble_eq_true rfl) ?_
      refine gk_aload_n (pc := 46) K d_M_tellsAs_46 rfl ?_
      refine gk_aload_n (pc := 47) K d_M_tellsAs_47 rfl ?_
      refine gk_get (pc := 48) K d_M_tellsAs_48 fl_M_406 tm_0 rfl rfl ?_
      refine gk_iload_n (pc := 51) K d_M_tellsAs_51 rfl ?_
      obtain ⟨v3, m2, em2, h⟩ := gk_bi_some h
      refine gk_cVi (As := [.int (m1.1 0 43), .int a2]) (pc := 52) K d_M_tellsAs_52 mv_M_403 mc_M_standsAs rfl tm_0 cl_ok10.1 (s_M_standsAs (gk_FD K)  em2) (by omega) rfl (Nat.le_of_ble_eq_true rfl) ?_
      refine gk_istore_n (lv2 := [(3, .int v3), (0, .ref 0), (1, .int a1), (2, .int a2)]) (pc := 55) K d_M_tellsAs_55 (by decide) rfl ?_
      refine gk_iload_n (pc := 56) K d_M_tellsAs_56 rfl ?_
      refine gk_aload_n (pc := 57) K d_M_tellsAs_57 rfl ?_
      refine gk_aload_n (pc := 58) K d_M_tellsAs_58 rfl ?_
      refine gk_get (pc := 59) K d_M_tellsAs_59 fl_M_406 tm_0 rfl rfl ?_
      refine gk_iconst (pc := 62) K d_M_tellsAs_62 kc_1 ?_
      obtain ⟨v5, m4, em4, h⟩ := gk_bi_some h
      refine gk_cVi (As := [.int (m2.1 0 43), .int 1]) (pc := 63) K d_M_tellsAs_63 mv_M_409 mc_M_linesAs rfl tm_0 cl_ok10.1 (s_M_linesAs (gk_FD K)  em4) (by omega) rfl (Nat.le_of_ble_eq_true rfl) ?_
      refine gk_isub (pc := 66) K d_M_tellsAs_66 ?_
      exact gk_iret (pc := 67) K d_M_tellsAs_67 rfl h
    · refine gk_aload_n (pc := 26) K d_M_tellsAs_26 rfl ?_
      refine gk_bipush (pc := 27) K d_M_tellsAs_27 kb_81 ?_
      obtain ⟨m6, em6, h⟩ := gk_bv_some h
      refine gk_cVv (As := [.int 81]) (pc := 29) K d_M_tellsAs_29 mv_M_394 mc_M_begins rfl tm_0 cl_ok10.1 (s_M_begins (gk_FD K)  em6) (by omega) rfl (Nat.le_of_ble_eq_true rfl) ?_
      refine gk_aload_n (pc := 32) K d_M_tellsAs_32 rfl ?_
      refine gk_iconst (pc := 33) K d_M_tellsAs_33 kc_4 ?_
      refine gk_iload_n (pc := 34) K d_M_tellsAs_34 rfl ?_
      obtain ⟨v8, m7, em7, h⟩ := gk_bi_some h
      refine gk_cVi (As := [.int 4, .int a2]) (pc := 35) K d_M_tellsAs_35 mv_M_412 mc_M_tellsAs rfl tm_0 cl_ok10.1 (hq_M_tellsAs _ _ _ _ _ em7) (by omega) rfl (Nat.le_of_ble_eq_true rfl) ?_
      refine gk_iconst (pc := 38) K d_M_tellsAs_38 kc_1 ?_
      refine gk_isub (pc := 39) K d_M_tellsAs_39 ?_
      exact gk_iret (pc := 40) K d_M_tellsAs_40 rfl h
  · refine gk_aload_n (pc := 5) K d_M_tellsAs_5 rfl ?_
    refine gk_bipush (pc := 6) K d_M_tellsAs_6 kb_60 ?_
    obtain ⟨m9, em9, h⟩ := gk_bv_some h
    refine gk_cVv (As := [.int 60]) (pc := 8) K d_M_tellsAs_8 mv_M_394 mc_M_begins rfl tm_0 cl_ok10.1 (s_M_begins (gk_FD K)  em9) (by omega) rfl (Nat.le_of_ble_eq_true rfl) ?_
    refine gk_aload_n (pc := 11) K d_M_tellsAs_11 rfl ?_
    refine gk_iconst (pc := 12) K d_M_tellsAs_12 kc_3 ?_
    refine gk_iload_n (pc := 13) K d_M_tellsAs_13 rfl ?_
    obtain ⟨v11, m10, em10, h⟩ := gk_bi_some h
    refine gk_cVi (As := [.int 3, .int a2]) (pc := 14) K d_M_tellsAs_14 mv_M_412 mc_M_tellsAs rfl tm_0 cl_ok10.1 (hq_M_tellsAs _ _ _ _ _ em10) (by omega) rfl (Nat.le_of_ble_eq_true rfl) ?_
    refine gk_iconst (pc := 17) K d_M_tellsAs_17 kc_5 ?_
    refine gk_ixor (pc := 18) K d_M_tellsAs_18 ?_
    exact gk_iret (pc := 19) K d_M_tellsAs_19 rfl h
noncomputable def r_M_tellsAs_s (p : Nat → Int32 → Int32 → gk_M → Option (Int32 × gk_M)) : Nat → Int32 → Int32 → gk_M → Option (Int32 × gk_M)
  | 0, x0, x1, m0 => f_M_tellsAs_0 (fun b0 b1 m => p 0 b0 b1 m) x0 x1 m0
  | _, _, _, _ => none
noncomputable def r_M_tellsAs : Nat → Nat → Int32 → Int32 → gk_M → Option (Int32 × gk_M)
  | 0 => fun _ _ _ _ => none
  | d + 1 => r_M_tellsAs_s (r_M_tellsAs d)
theorem r_M_tellsAs_e0 (d : Nat) (x0 : Int32) (x1 : Int32) (m0 : gk_M) : r_M_tellsAs (d + 1) 0 x0 x1 m0 = f_M_tellsAs_0 (fun b0 b1 m => r_M_tellsAs d 0 b0 b1 m) x0 x1 m0 := rfl
theorem sr_M_tellsAs {l : Launch} {u : gk_U} (hD : gk_D tm u) : ∀ d, (∀ b0 b1 mem r mem2, r_M_tellsAs d 0 b0 b1 mem = some (r, mem2) → gk_C tm l u me_M_tellsAs (185 + d) [.ref 0, .int b0, .int b1] mem (some (.int r)) mem2) := by
  intro d
  induction d with
  | zero => exact (fun _ _ _ _ _ h => nomatch (show (none : Option _) = some _ from h))
  | succ d ih =>
    intro b0 b1 mem r mem2 h
    refine gk_enter hD mc_M_tellsAs (Nat.le_of_ble_eq_true rfl) rfl (fun z hl hu K => ?_)
    subst hl
    subst hu
    rw [r_M_tellsAs_e0] at h
    exact s_M_tellsAs_0 K (fun b0 b1 m => r_M_tellsAs d 0 b0 b1 m) (fun y0 y1 a b c h => ih y0 y1 a b c h) _ _ _ h
noncomputable def f_M_tellsAs (a1 : Int32) (a2 : Int32) (m0 : gk_M) : Option (Int32 × gk_M) := r_M_tellsAs 60 0 a1 a2 m0
theorem s_M_tellsAs {l : Launch} {u : gk_U} (hD : gk_D tm u) {a1 : Int32} {a2 : Int32} {m0 mem2 : gk_M} {r : Int32} (h : f_M_tellsAs a1 a2 m0 = some (r, mem2)) : gk_C tm l u me_M_tellsAs 245 [.ref 0, .int a1, .int a2] m0 (some (.int r)) mem2 := (sr_M_tellsAs hD 60) _ _ _ _ _ h
theorem d_M_act_0 : decode me_M_act.2.1 0 = .ok (.aload_n 0, 1) := by decide +kernel
theorem d_M_act_1 : decode me_M_act.2.1 1 = .ok (.iconst 0, 1) := by decide +kernel
theorem d_M_act_2 : decode me_M_act.2.1 2 = .ok (.putfield 391, 3) := by decide +kernel
theorem d_M_act_5 : decode me_M_act.2.1 5 = .ok (.aload_n 0, 1) := by decide +kernel
theorem d_M_act_6 : decode me_M_act.2.1 6 = .ok (.iload_n 1, 1) := by decide +kernel
theorem d_M_act_7 : decode me_M_act.2.1 7 = .ok (.invokevirtual 415, 3) := by decide +kernel
theorem d_M_act_10 : decode me_M_act.2.1 10 = .ok (.ifCond .ne 5, 3) := by decide +kernel
theorem d_M_act_13 : decode me_M_act.2.1 13 = .ok (.iconst 0, 1) := by decide +kernel
theorem d_M_act_14 : decode me_M_act.2.1 14 = .ok (.ireturn, 1) := by decide +kernel
theorem d_M_act_15 : decode me_M_act.2.1 15 = .ok (.aload_n 0, 1) := by decide +kernel
theorem d_M_act_16 : decode me_M_act.2.1 16 = .ok (.aload_n 0, 1) := by decide +kernel
theorem d_M_act_17 : decode me_M_act.2.1 17 = .ok (.getfield 71, 3) := by decide +kernel
theorem d_M_act_20 : decode me_M_act.2.1 20 = .ok (.iload_n 1, 1) := by decide +kernel
theorem d_M_act_21 : decode me_M_act.2.1 21 = .ok (.iaload, 1) := by decide +kernel
theorem d_M_act_22 : decode me_M_act.2.1 22 = .ok (.putfield 406, 3) := by decide +kernel
theorem d_M_act_25 : decode me_M_act.2.1 25 = .ok (.aload_n 0, 1) := by decide +kernel
theorem d_M_act_26 : decode me_M_act.2.1 26 = .ok (.iload_n 1, 1) := by decide +kernel
theorem d_M_act_27 : decode me_M_act.2.1 27 = .ok (.putfield 400, 3) := by decide +kernel
theorem d_M_act_30 : decode me_M_act.2.1 30 = .ok (.iload_n 2, 1) := by decide +kernel
theorem d_M_act_31 : decode me_M_act.2.1 31 = .ok (.tableswitch 69 0 3 #[29, 39, 49, 59], 29) := by decide +kernel
theorem d_M_act_60 : decode me_M_act.2.1 60 = .ok (.aload_n 0, 1) := by decide +kernel
theorem d_M_act_61 : decode me_M_act.2.1 61 = .ok (.aload_n 0, 1) := by decide +kernel
theorem d_M_act_62 : decode me_M_act.2.1 62 = .ok (.getfield 406, 3) := by decide +kernel
theorem d_M_act_65 : decode me_M_act.2.1 65 = .ok (.iload_n 3, 1) := by decide +kernel
theorem d_M_act_66 : decode me_M_act.2.1 66 = .ok (.invokevirtual 397, 3) := by decide +kernel
theorem d_M_act_69 : decode me_M_act.2.1 69 = .ok (.ireturn, 1) := by decide +kernel
theorem d_M_act_70 : decode me_M_act.2.1 70 = .ok (.aload_n 0, 1) := by decide +kernel
theorem d_M_act_71 : decode me_M_act.2.1 71 = .ok (.aload_n 0, 1) := by decide +kernel
theorem d_M_act_72 : decode me_M_act.2.1 72 = .ok (.getfield 406, 3) := by decide +kernel
theorem d_M_act_75 : decode me_M_act.2.1 75 = .ok (.iload_n 3, 1) := by decide +kernel
theorem d_M_act_76 : decode me_M_act.2.1 76 = .ok (.invokevirtual 403, 3) := by decide +kernel
theorem d_M_act_79 : decode me_M_act.2.1 79 = .ok (.ireturn, 1) := by decide +kernel
theorem d_M_act_80 : decode me_M_act.2.1 80 = .ok (.aload_n 0, 1) := by decide +kernel
theorem d_M_act_81 : decode me_M_act.2.1 81 = .ok (.aload_n 0, 1) := by decide +kernel
theorem d_M_act_82 : decode me_M_act.2.1 82 = .ok (.getfield 406, 3) := by decide +kernel
theorem d_M_act_85 : decode me_M_act.2.1 85 = .ok (.iload_n 3, 1) := by decide +kernel
theorem d_M_act_86 : decode me_M_act.2.1 86 = .ok (.invokevirtual 409, 3) := by decide +kernel
theorem d_M_act_89 : decode me_M_act.2.1 89 = .ok (.ireturn, 1) := by decide +kernel
theorem d_M_act_90 : decode me_M_act.2.1 90 = .ok (.aload_n 0, 1) := by decide +kernel
theorem d_M_act_91 : decode me_M_act.2.1 91 = .ok (.aload_n 0, 1) := by decide +kernel
theorem d_M_act_92 : decode me_M_act.2.1 92 = .ok (.getfield 406, 3) := by decide +kernel
theorem d_M_act_95 : decode me_M_act.2.1 95 = .ok (.iload_n 3, 1) := by decide +kernel
theorem d_M_act_96 : decode me_M_act.2.1 96 = .ok (.invokevirtual 412, 3) := by decide +kernel
theorem d_M_act_99 : decode me_M_act.2.1 99 = .ok (.ireturn, 1) := by decide +kernel
theorem d_M_act_100 : decode me_M_act.2.1 100 = .ok (.iconst 0, 1) := by decide +kernel
theorem d_M_act_101 : decode me_M_act.2.1 101 = .ok (.ireturn, 1) := by decide +kernel
noncomputable def f_M_act  (a1 : Int32) (a2 : Int32) (a3 : Int32) (m0 : gk_M) : Option (Int32 × gk_M) :=
  gk_let (gk_mi m0 0 42 0) fun m1 =>
  gk_bi (f_M_isBody a1 m1) fun v3 m2 =>
  if ¬ v3 = 0 then
    gk_ai m2 21 50 a1 fun v4 =>
    gk_let (gk_mi m2 0 43 v4) fun m5 =>
    gk_let (gk_mi m5 0 44 a1) fun m6 =>
    if a2 = 0 then
      gk_bi (f_M_hidesAs (m6.1 0 43) a3 m6) fun v9 m8 =>
      some (v9, m8)
    else
      if a2 = 1 then
        gk_bi (f_M_standsAs (m6.1 0 43) a3 m6) fun v12 m11 =>
        some (v12, m11)
      else
        if a2 = 2 then
          gk_bi (f_M_linesAs (m6.1 0 43) a3 m6) fun v15 m14 =>
          some (v15, m14)
        else
          if a2 = 3 then
            gk_bi (f_M_tellsAs (m6.1 0 43) a3 m6) fun v18 m17 =>
            some (v18, m17)
          else
            some (0, m6)
  else
    some (0, m2)

theorem s_M_act_0 {z : gk_Z} (K : gk_F tm z me_M_act 246) {r : Int32} {mem2 : gk_M} : ∀ a1 a2 a3 m0, f_M_act a1 a2 a3 m0 = some (r, mem2) → gk_G tm z me_M_act (gk_R tm z (some (.int r)) mem2) m0 [(0, .ref 0), (1, .int a1), (2, .int a2), (3, .int a3)] [] 0 := by
  intro a1 a2 a3 m0  h
  unfold f_M_act at h
  refine gk_aload_n (pc := 0) K d_M_act_0 rfl ?_
  refine gk_iconst (pc := 1) K d_M_act_1 kc_0 ?_
  refine gk_puti (pc := 2) K d_M_act_2 fp_M_391 tm_0 rfl h (fun m1 h => ?_)
  refine gk_aload_n (pc := 5) K d_M_act_5 rfl ?_
  refine gk_iload_n (pc := 6) K d_M_act_6 rfl ?_
  obtain ⟨v3, m2, em2, h⟩ := gk_bi_some h
  refine gk_cVi (As := [.int a1]) (pc := 7) K d_M_act_7 mv_M_415 mc_M_isBody rfl tm_0 cl_ok10.1 (s_M_isBody (gk_FD K)  em2) (by decide) rfl (Nat.le_of_ble_eq_true rfl) ?_
  refine gk_if_ne (tgt := 15) (pc := 10) K d_M_act_10 (by decide) h (fun h => ?_) (fun h => ?_)
  · refine gk_aload_n (pc := 15) K d_M_act_15 rfl ?_
    refine gk_aload_n (pc := 16) K d_M_act_16 rfl ?_
    refine gk_get (pc := 17) K d_M_act_17 fl_M_71 tm_0 rfl rfl ?_
    refine gk_iload_n (pc := 20) K d_M_act_20 rfl ?_
    refine gk_iald (pc := 21) K d_M_act_21 tm_21 h (fun v4 h => ?_)
    refine gk_puti (pc := 22) K d_M_act_22 fp_M_406 tm_0 rfl h (fun m5 h => ?_)
    refine gk_aload_n (pc := 25) K d_M_act_25 rfl ?_
    refine gk_iload_n (pc := 26) K d_M_act_26 rfl ?_
    refine gk_puti (pc := 27) K d_M_act_27 fp_M_400 tm_0 rfl h (fun m6 h => ?_)
    refine gk_iload_n (pc := 30) K d_M_act_30 rfl ?_
    refine gk_ite (c := a2 = 0) h (fun c7 h => ?_) (fun c7 h => ?_)
    · refine gk_tIn (tgt := 60) (pc := 31) K d_M_act_31 c7 (by decide) (by decide) rfl (by decide) ?_
      refine gk_aload_n (pc := 60) K d_M_act_60 rfl ?_
      refine gk_aload_n (pc := 61) K d_M_act_61 rfl ?_
      refine gk_get (pc := 62) K d_M_act_62 fl_M_406 tm_0 rfl rfl ?_
      refine gk_iload_n (pc := 65) K d_M_act_65 rfl ?_
      obtain ⟨v9, m8, em8, h⟩ := gk_bi_some h
      refine gk_cVi (As := [.int (m6.1 0 43), .int a3]) (pc := 66) K d_M_act_66 mv_M_397 mc_M_hidesAs rfl tm_0 cl_ok10.1 (s_M_hidesAs (gk_FD K)  em8) (by decide) rfl (Nat.le_of_ble_eq_true rfl) ?_
      exact gk_iret (pc := 69) K d_M_act_69 rfl h
    · skip
      refine gk_ite (c := a2 = 1) h (fun c10 h => ?_) (fun c10 h => ?_)
      · refine gk_tIn (tgt := 70) (pc := 31) K d_M_act_31 c10 (by decide) (by decide) rfl (by decide) ?_
        refine gk_aload_n (pc := 70) K d_M_act_70 rfl ?_
        refine gk_aload_n (pc := 71) K d_M_act_71 rfl ?_
        refine gk_get (pc := 72) K d_M_act_72 fl_M_406 tm_0 rfl rfl ?_
        refine gk_iload_n (pc := 75) K d_M_act_75 rfl ?_
        obtain ⟨v12, m11, em11, h⟩ := gk_bi_some h
        refine gk_cVi (As := [.int (m6.1 0 43), .int a3]) (pc := 76) K d_M_act_76 mv_M_403 mc_M_standsAs rfl tm_0 cl_ok10.1 (s_M_standsAs (gk_FD K)  em11) (by decide) rfl (Nat.le_of_ble_eq_true rfl) ?_
        exact gk_iret (pc := 79) K d_M_act_79 rfl h
      · skip
        refine gk_ite (c := a2 = 2) h (fun c13 h => ?_) (fun c13 h => ?_)
        · refine gk_tIn (tgt := 80) (pc := 31) K d_M_act_31 c13 (by decide) (by decide) rfl (by decide) ?_
          refine gk_aload_n (pc := 80) K d_M_act_80 rfl ?_
          refine gk_aload_n (pc := 81) K d_M_act_81 rfl ?_
          refine gk_get (pc := 82) K d_M_act_82 fl_M_406 tm_0 rfl rfl ?_
          refine gk_iload_n (pc := 85) K d_M_act_85 rfl ?_
          obtain ⟨v15, m14, em14, h⟩ := gk_bi_some h
          refine gk_cVi (As := [.int (m6.1 0 43), .int a3]) (pc := 86) K d_M_act_86 mv_M_409 mc_M_linesAs rfl tm_0 cl_ok10.1 (s_M_linesAs (gk_FD K)  em14) (by decide) rfl (Nat.le_of_ble_eq_true rfl) ?_
          exact gk_iret (pc := 89) K d_M_act_89 rfl h
        · skip
          refine gk_ite (c := a2 = 3) h (fun c16 h => ?_) (fun c16 h => ?_)
          · refine gk_tIn (tgt := 90) (pc := 31) K d_M_act_31 c16 (by decide) (by decide) rfl (by decide) ?_
            refine gk_aload_n (pc := 90) K d_M_act_90 rfl ?_
            refine gk_aload_n (pc := 91) K d_M_act_91 rfl ?_
            refine gk_get (pc := 92) K d_M_act_92 fl_M_406 tm_0 rfl rfl ?_
            refine gk_iload_n (pc := 95) K d_M_act_95 rfl ?_
            obtain ⟨v18, m17, em17, h⟩ := gk_bi_some h
            refine gk_cVi (As := [.int (m6.1 0 43), .int a3]) (pc := 96) K d_M_act_96 mv_M_412 mc_M_tellsAs rfl tm_0 cl_ok10.1 (s_M_tellsAs (gk_FD K)  em17) (by decide) rfl (Nat.le_of_ble_eq_true rfl) ?_
            exact gk_iret (pc := 99) K d_M_act_99 rfl h
          · skip
            have gc7 := gk_neq c7 (a := 0) (by decide)
            have gc10 := gk_neq c10 (a := 1) (by decide)
            have gc13 := gk_neq c13 (a := 2) (by decide)
            have gc16 := gk_neq c16 (a := 3) (by decide)
            refine gk_tOut (tgt := 100) (pc := 31) K d_M_act_31 (by omega) (by decide) ?_
            refine gk_iconst (pc := 100) K d_M_act_100 kc_0 ?_
            exact gk_iret (pc := 101) K d_M_act_101 rfl h
  · refine gk_iconst (pc := 13) K d_M_act_13 kc_0 ?_
    exact gk_iret (pc := 14) K d_M_act_14 rfl h
theorem s_M_act {l : Launch} {u : gk_U} (hD : gk_D tm u) {a1 : Int32} {a2 : Int32} {a3 : Int32} {m0 mem2 : gk_M} {r : Int32} (h : f_M_act a1 a2 a3 m0 = some (r, mem2)) : gk_C tm l u me_M_act 246 [.ref 0, .int a1, .int a2, .int a3] m0 (some (.int r)) mem2 :=
  gk_enter hD mc_M_act (Nat.le_of_ble_eq_true rfl) rfl (fun z _ _ K => s_M_act_0 K _ _ _ _  h)
theorem d_M_trace_0 : decode me_M_trace.2.1 0 = .ok (.iload_n 1, 1) := by decide +kernel
theorem d_M_trace_1 : decode me_M_trace.2.1 1 = .ok (.ifCond .lt 26, 3) := by decide +kernel
theorem d_M_trace_4 : decode me_M_trace.2.1 4 = .ok (.iload_n 1, 1) := by decide +kernel
theorem d_M_trace_5 : decode me_M_trace.2.1 5 = .ok (.aload_n 0, 1) := by decide +kernel
theorem d_M_trace_6 : decode me_M_trace.2.1 6 = .ok (.getfield 391, 3) := by decide +kernel
theorem d_M_trace_9 : decode me_M_trace.2.1 9 = .ok (.if_icmp .ge 18, 3) := by decide +kernel
theorem d_M_trace_12 : decode me_M_trace.2.1 12 = .ok (.iload_n 1, 1) := by decide +kernel
theorem d_M_trace_13 : decode me_M_trace.2.1 13 = .ok (.bipush 24, 2) := by decide +kernel
theorem d_M_trace_15 : decode me_M_trace.2.1 15 = .ok (.if_icmp .ge 12, 3) := by decide +kernel
theorem d_M_trace_18 : decode me_M_trace.2.1 18 = .ok (.aload_n 0, 1) := by decide +kernel
theorem d_M_trace_19 : decode me_M_trace.2.1 19 = .ok (.getfield 74, 3) := by decide +kernel
theorem d_M_trace_22 : decode me_M_trace.2.1 22 = .ok (.iload_n 1, 1) := by decide +kernel
theorem d_M_trace_23 : decode me_M_trace.2.1 23 = .ok (.iaload, 1) := by decide +kernel
theorem d_M_trace_24 : decode me_M_trace.2.1 24 = .ok (.goto 4, 3) := by decide +kernel
theorem d_M_trace_27 : decode me_M_trace.2.1 27 = .ok (.iconst (-1), 1) := by decide +kernel
theorem d_M_trace_28 : decode me_M_trace.2.1 28 = .ok (.ireturn, 1) := by decide +kernel
noncomputable def f_M_trace  (a1 : Int32) (m0 : gk_M) : Option (Int32 × gk_M) :=
  if a1 < 0 then
    some ((-1), m0)
  else
    if (m0.1 0 42) ≤ a1 then
      some ((-1), m0)
    else
      if 24 ≤ a1 then
        some ((-1), m0)
      else
        gk_ai m0 22 24 a1 fun v1 =>
        some (v1, m0)

theorem s_M_trace_0 {z : gk_Z} (K : gk_F tm z me_M_trace 1) {r : Int32} {mem2 : gk_M} : ∀ a1 m0, f_M_trace a1 m0 = some (r, mem2) → gk_G tm z me_M_trace (gk_R tm z (some (.int r)) mem2) m0 [(0, .ref 0), (1, .int a1)] [] 0 := by
  intro a1 m0  h
  unfold f_M_trace at h
  refine gk_iload_n (pc := 0) K d_M_trace_0 rfl ?_
  refine gk_if_lt (tgt := 27) (pc := 1) K d_M_trace_1 (by decide) h (fun h => ?_) (fun h => ?_)
  · refine gk_iconst (pc := 27) K d_M_trace_27 kc_m1 ?_
    exact gk_iret (pc := 28) K d_M_trace_28 rfl h
  · refine gk_iload_n (pc := 4) K d_M_trace_4 rfl ?_
    refine gk_aload_n (pc := 5) K d_M_trace_5 rfl ?_
    refine gk_get (pc := 6) K d_M_trace_6 fl_M_391 tm_0 rfl rfl ?_
    refine gk_ic_ge (tgt := 27) (pc := 9) K d_M_trace_9 (by decide) h (fun h => ?_) (fun h => ?_)
    · refine gk_iconst (pc := 27) K d_M_trace_27 kc_m1 ?_
      exact gk_iret (pc := 28) K d_M_trace_28 rfl h
    · refine gk_iload_n (pc := 12) K d_M_trace_12 rfl ?_
      refine gk_bipush (pc := 13) K d_M_trace_13 kb_24 ?_
      refine gk_ic_ge (tgt := 27) (pc := 15) K d_M_trace_15 (by decide) h (fun h => ?_) (fun h => ?_)
      · refine gk_iconst (pc := 27) K d_M_trace_27 kc_m1 ?_
        exact gk_iret (pc := 28) K d_M_trace_28 rfl h
      · refine gk_aload_n (pc := 18) K d_M_trace_18 rfl ?_
        refine gk_get (pc := 19) K d_M_trace_19 fl_M_74 tm_0 rfl rfl ?_
        refine gk_iload_n (pc := 22) K d_M_trace_22 rfl ?_
        refine gk_iald (pc := 23) K d_M_trace_23 tm_22 h (fun v1 h => ?_)
        refine gk_goto (tgt := 28) (pc := 24) K d_M_trace_24 (by decide) ?_
        exact gk_iret (pc := 28) K d_M_trace_28 rfl h
theorem s_M_trace {l : Launch} {u : gk_U} (hD : gk_D tm u) {a1 : Int32} {m0 mem2 : gk_M} {r : Int32} (h : f_M_trace a1 m0 = some (r, mem2)) : gk_C tm l u me_M_trace 1 [.ref 0, .int a1] m0 (some (.int r)) mem2 :=
  gk_enter hD mc_M_trace (Nat.le_of_ble_eq_true rfl) rfl (fun z _ _ K => s_M_trace_0 K _ _  h)
theorem d_M_keep_0 : decode me_M_keep.2.1 0 = .ok (.iload_n 1, 1) := by decide +kernel
theorem d_M_keep_1 : decode me_M_keep.2.1 1 = .ok (.invokestatic 127, 3) := by decide +kernel
theorem d_M_keep_4 : decode me_M_keep.2.1 4 = .ok (.ifCond .eq 16, 3) := by decide +kernel
theorem d_M_keep_7 : decode me_M_keep.2.1 7 = .ok (.iload_n 2, 1) := by decide +kernel
theorem d_M_keep_8 : decode me_M_keep.2.1 8 = .ok (.iconst (-1), 1) := by decide +kernel
theorem d_M_keep_9 : decode me_M_keep.2.1 9 = .ok (.if_icmp .eq 13, 3) := by decide +kernel
theorem d_M_keep_12 : decode me_M_keep.2.1 12 = .ok (.aload_n 0, 1) := by decide +kernel
theorem d_M_keep_13 : decode me_M_keep.2.1 13 = .ok (.iload_n 2, 1) := by decide +kernel
theorem d_M_keep_14 : decode me_M_keep.2.1 14 = .ok (.invokevirtual 415, 3) := by decide +kernel
theorem d_M_keep_17 : decode me_M_keep.2.1 17 = .ok (.ifCond .ne 5, 3) := by decide +kernel
theorem d_M_keep_20 : decode me_M_keep.2.1 20 = .ok (.iconst (-1), 1) := by decide +kernel
theorem d_M_keep_21 : decode me_M_keep.2.1 21 = .ok (.ireturn, 1) := by decide +kernel
theorem d_M_keep_22 : decode me_M_keep.2.1 22 = .ok (.aload_n 0, 1) := by decide +kernel
theorem d_M_keep_23 : decode me_M_keep.2.1 23 = .ok (.getfield 77, 3) := by decide +kernel
theorem d_M_keep_26 : decode me_M_keep.2.1 26 = .ok (.iload_n 1, 1) := by decide +kernel
theorem d_M_keep_27 : decode me_M_keep.2.1 27 = .ok (.iload_n 2, 1) := by decide +kernel
theorem d_M_keep_28 : decode me_M_keep.2.1 28 = .ok (.iastore, 1) := by decide +kernel
theorem d_M_keep_29 : decode me_M_keep.2.1 29 = .ok (.aload_n 0, 1) := by decide +kernel
theorem d_M_keep_30 : decode me_M_keep.2.1 30 = .ok (.getfield 80, 3) := by decide +kernel
theorem d_M_keep_33 : decode me_M_keep.2.1 33 = .ok (.iload_n 1, 1) := by decide +kernel
theorem d_M_keep_34 : decode me_M_keep.2.1 34 = .ok (.iconst 0, 1) := by decide +kernel
theorem d_M_keep_35 : decode me_M_keep.2.1 35 = .ok (.iastore, 1) := by decide +kernel
theorem d_M_keep_36 : decode me_M_keep.2.1 36 = .ok (.iconst 1, 1) := by decide +kernel
theorem d_M_keep_37 : decode me_M_keep.2.1 37 = .ok (.ireturn, 1) := by decide +kernel
noncomputable def f_M_keep_22  (a1 : Int32) (a2 : Int32) (m0 : gk_M) : Option (Int32 × gk_M) :=
  gk_si m0 23 6 a1 a2 fun m1 =>
  gk_si m1 24 6 a1 0 fun m2 =>
  some (1, m2)

theorem s_M_keep_22 {z : gk_Z} (K : gk_F tm z me_M_keep 3) {r : Int32} {mem2 : gk_M} : ∀ a1 a2 m0, f_M_keep_22 a1 a2 m0 = some (r, mem2) → gk_G tm z me_M_keep (gk_R tm z (some (.int r)) mem2) m0 [(0, .ref 0), (1, .int a1), (2, .int a2)] [] 22 := by
  intro a1 a2 m0  h
  unfold f_M_keep_22 at h
  refine gk_aload_n (pc := 22) K d_M_keep_22 rfl ?_
  refine gk_get (pc := 23) K d_M_keep_23 fl_M_77 tm_0 rfl rfl ?_
  refine gk_iload_n (pc := 26) K d_M_keep_26 rfl ?_
  refine gk_iload_n (pc := 27) K d_M_keep_27 rfl ?_
  refine gk_iast (pc := 28) K d_M_keep_28 tm_23 h (fun m1 h => ?_)
  refine gk_aload_n (pc := 29) K d_M_keep_29 rfl ?_
  refine gk_get (pc := 30) K d_M_keep_30 fl_M_80 tm_0 rfl rfl ?_
  refine gk_iload_n (pc := 33) K d_M_keep_33 rfl ?_
  refine gk_iconst (pc := 34) K d_M_keep_34 kc_0 ?_
  refine gk_iast (pc := 35) K d_M_keep_35 tm_24 h (fun m2 h => ?_)
  refine gk_iconst (pc := 36) K d_M_keep_36 kc_1 ?_
  exact gk_iret (pc := 37) K d_M_keep_37 rfl h
noncomputable def f_M_keep  (a1 : Int32) (a2 : Int32) (m0 : gk_M) : Option (Int32 × gk_M) :=
  gk_bi (f_M_isShelf a1 m0) fun v2 m1 =>
  if v2 = 0 then
    some ((-1), m1)
  else
    if a2 = (-1) then
      f_M_keep_22 a1 a2 m1
    else
      gk_bi (f_M_isBody a2 m1) fun v4 m3 =>
      if ¬ v4 = 0 then
        f_M_keep_22 a1 a2 m3
      else
        some ((-1), m3)

theorem s_M_keep_0 {z : gk_Z} (K : gk_F tm z me_M_keep 3) {r : Int32} {mem2 : gk_M} : ∀ a1 a2 m0, f_M_keep a1 a2 m0 = some (r, mem2) → gk_G tm z me_M_keep (gk_R tm z (some (.int r)) mem2) m0 [(0, .ref 0), (1, .int a1), (2, .int a2)] [] 0 := by
  intro a1 a2 m0  h
  unfold f_M_keep at h
  refine gk_iload_n (pc := 0) K d_M_keep_0 rfl ?_
  obtain ⟨v2, m1, em1, h⟩ := gk_bi_some h
  refine gk_cSi (As := [.int a1]) (pc := 1) K d_M_keep_1 ms_M_127 mc_M_isShelf rfl (s_M_isShelf (gk_FD K)  em1) (by decide) rfl (Nat.le_of_ble_eq_true rfl) ?_
  refine gk_if_eq (tgt := 20) (pc := 4) K d_M_keep_4 (by decide) h (fun h => ?_) (fun h => ?_)
  · refine gk_iconst (pc := 20) K d_M_keep_20 kc_m1 ?_
    exact gk_iret (pc := 21) K d_M_keep_21 rfl h
  · refine gk_iload_n (pc := 7) K d_M_keep_7 rfl ?_
    refine gk_iconst (pc := 8) K d_M_keep_8 kc_m1 ?_
    refine gk_ic_eq (tgt := 22) (pc := 9) K d_M_keep_9 (by decide) h (fun h => ?_) (fun h => ?_)
    · exact gk_sub [0, 1, 2] rfl (s_M_keep_22 K _ _ _  h)
    · refine gk_aload_n (pc := 12) K d_M_keep_12 rfl ?_
      refine gk_iload_n (pc := 13) K d_M_keep_13 rfl ?_
      obtain ⟨v4, m3, em3, h⟩ := gk_bi_some h
      refine gk_cVi (As := [.int a2]) (pc := 14) K d_M_keep_14 mv_M_415 mc_M_isBody rfl tm_0 cl_ok10.1 (s_M_isBody (gk_FD K)  em3) (by decide) rfl (Nat.le_of_ble_eq_true rfl) ?_
      refine gk_if_ne (tgt := 22) (pc := 17) K d_M_keep_17 (by decide) h (fun h => ?_) (fun h => ?_)
      · exact gk_sub [0, 1, 2] rfl (s_M_keep_22 K _ _ _  h)
      · refine gk_iconst (pc := 20) K d_M_keep_20 kc_m1 ?_
        exact gk_iret (pc := 21) K d_M_keep_21 rfl h
theorem s_M_keep {l : Launch} {u : gk_U} (hD : gk_D tm u) {a1 : Int32} {a2 : Int32} {m0 mem2 : gk_M} {r : Int32} (h : f_M_keep a1 a2 m0 = some (r, mem2)) : gk_C tm l u me_M_keep 3 [.ref 0, .int a1, .int a2] m0 (some (.int r)) mem2 :=
  gk_enter hD mc_M_keep (Nat.le_of_ble_eq_true rfl) rfl (fun z _ _ K => s_M_keep_0 K _ _ _  h)
theorem d_M_row_0 : decode me_M_row.2.1 0 = .ok (.iload_n 1, 1) := by decide +kernel
theorem d_M_row_1 : decode me_M_row.2.1 1 = .ok (.invokestatic 127, 3) := by decide +kernel
theorem d_M_row_4 : decode me_M_row.2.1 4 = .ok (.ifCond .eq 21, 3) := by decide +kernel
theorem d_M_row_7 : decode me_M_row.2.1 7 = .ok (.iload_n 2, 1) := by decide +kernel
theorem d_M_row_8 : decode me_M_row.2.1 8 = .ok (.i2l, 1) := by decide +kernel
theorem d_M_row_9 : decode me_M_row.2.1 9 = .ok (.lconst 0, 1) := by decide +kernel
theorem d_M_row_10 : decode me_M_row.2.1 10 = .ok (.ldc2_w 258, 3) := by decide +kernel
theorem d_M_row_13 : decode me_M_row.2.1 13 = .ok (.invokestatic 102, 3) := by decide +kernel
theorem d_M_row_16 : decode me_M_row.2.1 16 = .ok (.ifCond .eq 9, 3) := by decide +kernel
theorem d_M_row_19 : decode me_M_row.2.1 19 = .ok (.iload_n 3, 1) := by decide +kernel
theorem d_M_row_20 : decode me_M_row.2.1 20 = .ok (.bipush 60, 2) := by decide +kernel
theorem d_M_row_22 : decode me_M_row.2.1 22 = .ok (.if_icmp .le 5, 3) := by decide +kernel
theorem d_M_row_25 : decode me_M_row.2.1 25 = .ok (.iconst (-1), 1) := by decide +kernel
theorem d_M_row_26 : decode me_M_row.2.1 26 = .ok (.ireturn, 1) := by decide +kernel
theorem d_M_row_27 : decode me_M_row.2.1 27 = .ok (.iload_n 3, 1) := by decide +kernel
theorem d_M_row_28 : decode me_M_row.2.1 28 = .ok (.ifCond .ge 6, 3) := by decide +kernel
theorem d_M_row_31 : decode me_M_row.2.1 31 = .ok (.bipush (-14), 2) := by decide +kernel
theorem d_M_row_33 : decode me_M_row.2.1 33 = .ok (.ireturn, 1) := by decide +kernel
theorem d_M_row_34 : decode me_M_row.2.1 34 = .ok (.aload_n 0, 1) := by decide +kernel
theorem d_M_row_35 : decode me_M_row.2.1 35 = .ok (.getfield 77, 3) := by decide +kernel
theorem d_M_row_38 : decode me_M_row.2.1 38 = .ok (.iload_n 1, 1) := by decide +kernel
theorem d_M_row_39 : decode me_M_row.2.1 39 = .ok (.bipush 50, 2) := by decide +kernel
theorem d_M_row_41 : decode me_M_row.2.1 41 = .ok (.iload_n 2, 1) := by decide +kernel
theorem d_M_row_42 : decode me_M_row.2.1 42 = .ok (.iadd, 1) := by decide +kernel
theorem d_M_row_43 : decode me_M_row.2.1 43 = .ok (.iastore, 1) := by decide +kernel
theorem d_M_row_44 : decode me_M_row.2.1 44 = .ok (.aload_n 0, 1) := by decide +kernel
theorem d_M_row_45 : decode me_M_row.2.1 45 = .ok (.getfield 80, 3) := by decide +kernel
theorem d_M_row_48 : decode me_M_row.2.1 48 = .ok (.iload_n 1, 1) := by decide +kernel
theorem d_M_row_49 : decode me_M_row.2.1 49 = .ok (.iload_n 3, 1) := by decide +kernel
theorem d_M_row_50 : decode me_M_row.2.1 50 = .ok (.iastore, 1) := by decide +kernel
theorem d_M_row_51 : decode me_M_row.2.1 51 = .ok (.bipush 60, 2) := by decide +kernel
theorem d_M_row_53 : decode me_M_row.2.1 53 = .ok (.iload_n 1, 1) := by decide +kernel
theorem d_M_row_54 : decode me_M_row.2.1 54 = .ok (.imul, 1) := by decide +kernel
theorem d_M_row_55 : decode me_M_row.2.1 55 = .ok (.istore 4, 2) := by decide +kernel
theorem d_M_row_57 : decode me_M_row.2.1 57 = .ok (.iload 4, 2) := by decide +kernel
theorem d_M_row_59 : decode me_M_row.2.1 59 = .ok (.bipush 60, 2) := by decide +kernel
theorem d_M_row_61 : decode me_M_row.2.1 61 = .ok (.iload_n 1, 1) := by decide +kernel
theorem d_M_row_62 : decode me_M_row.2.1 62 = .ok (.imul, 1) := by decide +kernel
theorem d_M_row_63 : decode me_M_row.2.1 63 = .ok (.bipush 60, 2) := by decide +kernel
theorem d_M_row_65 : decode me_M_row.2.1 65 = .ok (.iadd, 1) := by decide +kernel
theorem d_M_row_66 : decode me_M_row.2.1 66 = .ok (.if_icmp .ge 17, 3) := by decide +kernel
theorem d_M_row_69 : decode me_M_row.2.1 69 = .ok (.aload_n 0, 1) := by decide +kernel
theorem d_M_row_70 : decode me_M_row.2.1 70 = .ok (.getfield 83, 3) := by decide +kernel
theorem d_M_row_73 : decode me_M_row.2.1 73 = .ok (.iload 4, 2) := by decide +kernel
theorem d_M_row_75 : decode me_M_row.2.1 75 = .ok (.lconst 0, 1) := by decide +kernel
theorem d_M_row_76 : decode me_M_row.2.1 76 = .ok (.lastore, 1) := by decide +kernel
theorem d_M_row_77 : decode me_M_row.2.1 77 = .ok (.iinc 4 1, 3) := by decide +kernel
theorem d_M_row_80 : decode me_M_row.2.1 80 = .ok (.goto (-23), 3) := by decide +kernel
theorem d_M_row_83 : decode me_M_row.2.1 83 = .ok (.iconst 1, 1) := by decide +kernel
theorem d_M_row_84 : decode me_M_row.2.1 84 = .ok (.ireturn, 1) := by decide +kernel
noncomputable def f_M_row_57  : Nat → Int32 → Int32 → gk_M → Option (Int32 × gk_M)
  | 0, _, _, _ => none
  | n + 1, a1, a4, m0 =>
    if ((60 * a1) + 60) ≤ a4 then
      some (1, m0)
    else
      gk_sl m0 25 360 a4 0 fun m1 =>
      f_M_row_57 n a1 (a4 + 1) m1

theorem s_M_row_57 {z : gk_Z} (K : gk_F tm z me_M_row 3) {r : Int32} {mem2 : gk_M} : ∀ n a1 a4 m0, f_M_row_57 n a1 a4 m0 = some (r, mem2) → gk_G tm z me_M_row (gk_R tm z (some (.int r)) mem2) m0 [(0, .ref 0), (1, .int a1), (4, .int a4)] [] 57 := by
  intro n
  induction n with
  | zero => intro a1 a4 m0  h; exact nomatch (show (none : Option _) = some _ from h)
  | succ n ih =>
    intro a1 a4 m0  h
    unfold f_M_row_57 at h
    refine gk_iload (pc := 57) K d_M_row_57 rfl ?_
    refine gk_bipush (pc := 59) K d_M_row_59 kb_60 ?_
    refine gk_iload_n (pc := 61) K d_M_row_61 rfl ?_
    refine gk_imul (pc := 62) K d_M_row_62 ?_
    refine gk_bipush (pc := 63) K d_M_row_63 kb_60 ?_
    refine gk_iadd (pc := 65) K d_M_row_65 ?_
    refine gk_ic_ge (tgt := 83) (pc := 66) K d_M_row_66 (by decide) h (fun h => ?_) (fun h => ?_)
    · refine gk_iconst (pc := 83) K d_M_row_83 kc_1 ?_
      exact gk_iret (pc := 84) K d_M_row_84 rfl h
    · refine gk_aload_n (pc := 69) K d_M_row_69 rfl ?_
      refine gk_get (pc := 70) K d_M_row_70 fl_M_83 tm_0 rfl rfl ?_
      refine gk_iload (pc := 73) K d_M_row_73 rfl ?_
      refine gk_lconst (pc := 75) K d_M_row_75 kl_0 ?_
      refine gk_last (pc := 76) K d_M_row_76 tm_25 h (fun m1 h => ?_)
      refine gk_iinc2 (lv2 := [(4, .int (a4 + 1)), (0, .ref 0), (1, .int a1)]) (pc := 77) K d_M_row_77 rfl kc_1 (by decide) rfl ?_
      refine gk_goto (tgt := 57) (pc := 80) K d_M_row_80 (by decide) ?_
      exact gk_sub [1, 2, 0] rfl (ih _ _ _  h)
noncomputable def f_M_row  (a1 : Int32) (a2 : Int32) (a3 : Int32) (m0 : gk_M) : Option (Int32 × gk_M) :=
  gk_bi (f_M_isShelf a1 m0) fun v2 m1 =>
  if v2 = 0 then
    some ((-1), m1)
  else
    gk_bi (f_M_within a2.toInt64 0 4 m1) fun v4 m3 =>
    if v4 = 0 then
      some ((-1), m3)
    else
      if a3 ≤ 60 then
        if 0 ≤ a3 then
          gk_si m3 23 6 a1 (50 + a2) fun m5 =>
          gk_si m5 24 6 a1 a3 fun m6 =>
          gk_let (60 * a1) fun v7 =>
          f_M_row_57 gk_fv a1 v7 m6
        else
          some ((-14), m3)
      else
        some ((-1), m3)

theorem s_M_row_0 {z : gk_Z} (K : gk_F tm z me_M_row 3) {r : Int32} {mem2 : gk_M} : ∀ a1 a2 a3 m0, f_M_row a1 a2 a3 m0 = some (r, mem2) → gk_G tm z me_M_row (gk_R tm z (some (.int r)) mem2) m0 [(0, .ref 0), (1, .int a1), (2, .int a2), (3, .int a3)] [] 0 := by
  intro a1 a2 a3 m0  h
  unfold f_M_row at h
  refine gk_iload_n (pc := 0) K d_M_row_0 rfl ?_
  obtain ⟨v2, m1, em1, h⟩ := gk_bi_some h
  refine gk_cSi (As := [.int a1]) (pc := 1) K d_M_row_1 ms_M_127 mc_M_isShelf rfl (s_M_isShelf (gk_FD K)  em1) (by decide) rfl (Nat.le_of_ble_eq_true rfl) ?_
  refine gk_if_eq (tgt := 25) (pc := 4) K d_M_row_4 (by decide) h (fun h => ?_) (fun h => ?_)
  · refine gk_iconst (pc := 25) K d_M_row_25 kc_m1 ?_
    exact gk_iret (pc := 26) K d_M_row_26 rfl h
  · refine gk_iload_n (pc := 7) K d_M_row_7 rfl ?_
    refine gk_i2l (pc := 8) K d_M_row_8 ?_
    refine gk_lconst (pc := 9) K d_M_row_9 kl_0 ?_
    refine gk_ldc2 (pc := 10) K d_M_row_10 lc_M_258 ?_
    obtain ⟨v4, m3, em3, h⟩ := gk_bi_some h
    refine gk_cSi (As := [.long a2.toInt64, .long 0, .long 4]) (pc := 13) K d_M_row_13 ms_M_102 mc_M_within rfl (s_M_within (gk_FD K)  em3) (by decide) rfl (Nat.le_of_ble_eq_true rfl) ?_
    refine gk_if_eq (tgt := 25) (pc := 16) K d_M_row_16 (by decide) h (fun h => ?_) (fun h => ?_)
    · refine gk_iconst (pc := 25) K d_M_row_25 kc_m1 ?_
      exact gk_iret (pc := 26) K d_M_row_26 rfl h
    · refine gk_iload_n (pc := 19) K d_M_row_19 rfl ?_
      refine gk_bipush (pc := 20) K d_M_row_20 kb_60 ?_
      refine gk_ic_le (tgt := 27) (pc := 22) K d_M_row_22 (by decide) h (fun h => ?_) (fun h => ?_)
      · refine gk_iload_n (pc := 27) K d_M_row_27 rfl ?_
        refine gk_if_ge (tgt := 34) (pc := 28) K d_M_row_28 (by decide) h (fun h => ?_) (fun h => ?_)
        · refine gk_aload_n (pc := 34) K d_M_row_34 rfl ?_
          refine gk_get (pc := 35) K d_M_row_35 fl_M_77 tm_0 rfl rfl ?_
          refine gk_iload_n (pc := 38) K d_M_row_38 rfl ?_
          refine gk_bipush (pc := 39) K d_M_row_39 kb_50 ?_
          refine gk_iload_n (pc := 41) K d_M_row_41 rfl ?_
          refine gk_iadd (pc := 42) K d_M_row_42 ?_
          refine gk_iast (pc := 43) K d_M_row_43 tm_23 h (fun m5 h => ?_)
          refine gk_aload_n (pc := 44) K d_M_row_44 rfl ?_
          refine gk_get (pc := 45) K d_M_row_45 fl_M_80 tm_0 rfl rfl ?_
          refine gk_iload_n (pc := 48) K d_M_row_48 rfl ?_
          refine gk_iload_n (pc := 49) K d_M_row_49 rfl ?_
          refine gk_iast (pc := 50) K d_M_row_50 tm_24 h (fun m6 h => ?_)
          refine gk_bipush (pc := 51) K d_M_row_51 kb_60 ?_
          refine gk_iload_n (pc := 53) K d_M_row_53 rfl ?_
          refine gk_imul (pc := 54) K d_M_row_54 ?_
          refine gk_topi h (fun v7 h => ?_)
          refine gk_istore (lv2 := [(4, .int v7), (0, .ref 0), (1, .int a1), (2, .int a2), (3, .int a3)]) (pc := 55) K d_M_row_55 (by decide) rfl ?_
          exact gk_sub [1, 2, 0] rfl (s_M_row_57 K _ _ _ _  h)
        · refine gk_bipush (pc := 31) K d_M_row_31 kb_m14 ?_
          exact gk_iret (pc := 33) K d_M_row_33 rfl h
      · refine gk_iconst (pc := 25) K d_M_row_25 kc_m1 ?_
        exact gk_iret (pc := 26) K d_M_row_26 rfl h
theorem s_M_row {l : Launch} {u : gk_U} (hD : gk_D tm u) {a1 : Int32} {a2 : Int32} {a3 : Int32} {m0 mem2 : gk_M} {r : Int32} (h : f_M_row a1 a2 a3 m0 = some (r, mem2)) : gk_C tm l u me_M_row 3 [.ref 0, .int a1, .int a2, .int a3] m0 (some (.int r)) mem2 :=
  gk_enter hD mc_M_row (Nat.le_of_ble_eq_true rfl) rfl (fun z _ _ K => s_M_row_0 K _ _ _ _  h)
theorem d_M_refusal_0 : decode me_M_refusal.2.1 0 = .ok (.iload_n 1, 1) := by decide +kernel
theorem d_M_refusal_1 : decode me_M_refusal.2.1 1 = .ok (.invokestatic 127, 3) := by decide +kernel
theorem d_M_refusal_4 : decode me_M_refusal.2.1 4 = .ok (.ifCond .ne 5, 3) := by decide +kernel
theorem d_M_refusal_7 : decode me_M_refusal.2.1 7 = .ok (.iconst (-1), 1) := by decide +kernel
theorem d_M_refusal_8 : decode me_M_refusal.2.1 8 = .ok (.ireturn, 1) := by decide +kernel
theorem d_M_refusal_9 : decode me_M_refusal.2.1 9 = .ok (.aload_n 0, 1) := by decide +kernel
theorem d_M_refusal_10 : decode me_M_refusal.2.1 10 = .ok (.getfield 77, 3) := by decide +kernel
theorem d_M_refusal_13 : decode me_M_refusal.2.1 13 = .ok (.iload_n 1, 1) := by decide +kernel
theorem d_M_refusal_14 : decode me_M_refusal.2.1 14 = .ok (.iaload, 1) := by decide +kernel
theorem d_M_refusal_15 : decode me_M_refusal.2.1 15 = .ok (.ifCond .ge 6, 3) := by decide +kernel
theorem d_M_refusal_18 : decode me_M_refusal.2.1 18 = .ok (.bipush (-11), 2) := by decide +kernel
theorem d_M_refusal_20 : decode me_M_refusal.2.1 20 = .ok (.ireturn, 1) := by decide +kernel
theorem d_M_refusal_21 : decode me_M_refusal.2.1 21 = .ok (.aload_n 0, 1) := by decide +kernel
theorem d_M_refusal_22 : decode me_M_refusal.2.1 22 = .ok (.getfield 77, 3) := by decide +kernel
theorem d_M_refusal_25 : decode me_M_refusal.2.1 25 = .ok (.iload_n 1, 1) := by decide +kernel
theorem d_M_refusal_26 : decode me_M_refusal.2.1 26 = .ok (.iaload, 1) := by decide +kernel
theorem d_M_refusal_27 : decode me_M_refusal.2.1 27 = .ok (.bipush 50, 2) := by decide +kernel
theorem d_M_refusal_29 : decode me_M_refusal.2.1 29 = .ok (.if_icmp .ge 6, 3) := by decide +kernel
theorem d_M_refusal_32 : decode me_M_refusal.2.1 32 = .ok (.bipush (-12), 2) := by decide +kernel
theorem d_M_refusal_34 : decode me_M_refusal.2.1 34 = .ok (.ireturn, 1) := by decide +kernel
theorem d_M_refusal_35 : decode me_M_refusal.2.1 35 = .ok (.iload_n 2, 1) := by decide +kernel
theorem d_M_refusal_36 : decode me_M_refusal.2.1 36 = .ok (.ifCond .lt 17, 3) := by decide +kernel
theorem d_M_refusal_39 : decode me_M_refusal.2.1 39 = .ok (.iload_n 2, 1) := by decide +kernel
theorem d_M_refusal_40 : decode me_M_refusal.2.1 40 = .ok (.aload_n 0, 1) := by decide +kernel
theorem d_M_refusal_41 : decode me_M_refusal.2.1 41 = .ok (.getfield 80, 3) := by decide +kernel
theorem d_M_refusal_44 : decode me_M_refusal.2.1 44 = .ok (.iload_n 1, 1) := by decide +kernel
theorem d_M_refusal_45 : decode me_M_refusal.2.1 45 = .ok (.iaload, 1) := by decide +kernel
theorem d_M_refusal_46 : decode me_M_refusal.2.1 46 = .ok (.if_icmp .ge 7, 3) := by decide +kernel
theorem d_M_refusal_49 : decode me_M_refusal.2.1 49 = .ok (.iconst 0, 1) := by decide +kernel
theorem d_M_refusal_50 : decode me_M_refusal.2.1 50 = .ok (.goto 5, 3) := by decide +kernel
theorem d_M_refusal_53 : decode me_M_refusal.2.1 53 = .ok (.bipush (-13), 2) := by decide +kernel
theorem d_M_refusal_55 : decode me_M_refusal.2.1 55 = .ok (.ireturn, 1) := by decide +kernel
noncomputable def f_M_refusal  (a1 : Int32) (a2 : Int32) (m0 : gk_M) : Option (Int32 × gk_M) :=
  gk_bi (f_M_isShelf a1 m0) fun v2 m1 =>
  if ¬ v2 = 0 then
    gk_ai m1 23 6 a1 fun v3 =>
    if 0 ≤ v3 then
      gk_ai m1 23 6 a1 fun v4 =>
      if 50 ≤ v4 then
        if a2 < 0 then
          some ((-13), m1)
        else
          gk_ai m1 24 6 a1 fun v5 =>
          if v5 ≤ a2 then
            some ((-13), m1)
          else
            some (0, m1)
      else
        some ((-12), m1)
    else
      some ((-11), m1)
  else
    some ((-1), m1)

theorem s_M_refusal_0 {z : gk_Z} (K : gk_F tm z me_M_refusal 3) {r : Int32} {mem2 : gk_M} : ∀ a1 a2 m0, f_M_refusal a1 a2 m0 = some (r, mem2) → gk_G tm z me_M_refusal (gk_R tm z (some (.int r)) mem2) m0 [(0, .ref 0), (1, .int a1), (2, .int a2)] [] 0 := by
  intro a1 a2 m0  h
  unfold f_M_refusal at h
  refine gk_iload_n (pc := 0) K d_M_refusal_0 rfl ?_
  obtain ⟨v2, m1, em1, h⟩ := gk_bi_some h
  refine gk_cSi (As := [.int a1]) (pc := 1) K d_M_refusal_1 ms_M_127 mc_M_isShelf rfl (s_M_isShelf (gk_FD K)  em1) (by decide) rfl (Nat.le_of_ble_eq_true rfl) ?_
  refine gk_if_ne (tgt := 9) (pc := 4) K d_M_refusal_4 (by decide) h (fun h => ?_) (fun h => ?_)
  · refine gk_aload_n (pc := 9) K d_M_refusal_9 rfl ?_
    refine gk_get (pc := 10) K d_M_refusal_10 fl_M_77 tm_0 rfl rfl ?_
    refine gk_iload_n (pc := 13) K d_M_refusal_13 rfl ?_
    refine gk_iald (pc := 14) K d_M_refusal_14 tm_23 h (fun v3 h => ?_)
    refine gk_if_ge (tgt := 21) (pc := 15) K d_M_refusal_15 (by decide) h (fun h => ?_) (fun h => ?_)
    · refine gk_aload_n (pc := 21) K d_M_refusal_21 rfl ?_
      refine gk_get (pc := 22) K d_M_refusal_22 fl_M_77 tm_0 rfl rfl ?_
      refine gk_iload_n (pc := 25) K d_M_refusal_25 rfl ?_
      refine gk_iald (pc := 26) K d_M_refusal_26 tm_23 h (fun v4 h => ?_)
      refine gk_bipush (pc := 27) K d_M_refusal_27 kb_50 ?_
      refine gk_ic_ge (tgt := 35) (pc := 29) K d_M_refusal_29 (by decide) h (fun h => ?_) (fun h => ?_)
      · refine gk_iload_n (pc := 35) K d_M_refusal_35 rfl ?_
        refine gk_if_lt (tgt := 53) (pc := 36) K d_M_refusal_36 (by decide) h (fun h => ?_) (fun h => ?_)
        · refine gk_bipush (pc := 53) K d_M_refusal_53 kb_m13 ?_
          exact gk_iret (pc := 55) K d_M_refusal_55 rfl h
        · refine gk_iload_n (pc := 39) K d_M_refusal_39 rfl ?_
          refine gk_aload_n (pc := 40) K d_M_refusal_40 rfl ?_
          refine gk_get (pc := 41) K d_M_refusal_41 fl_M_80 tm_0 rfl rfl ?_
          refine gk_iload_n (pc := 44) K d_M_refusal_44 rfl ?_
          refine gk_iald (pc := 45) K d_M_refusal_45 tm_24 h (fun v5 h => ?_)
          refine gk_ic_ge (tgt := 53) (pc := 46) K d_M_refusal_46 (by decide) h (fun h => ?_) (fun h => ?_)
          · refine gk_bipush (pc := 53) K d_M_refusal_53 kb_m13 ?_
            exact gk_iret (pc := 55) K d_M_refusal_55 rfl h
          · refine gk_iconst (pc := 49) K d_M_refusal_49 kc_0 ?_
            refine gk_goto (tgt := 55) (pc := 50) K d_M_refusal_50 (by decide) ?_
            exact gk_iret (pc := 55) K d_M_refusal_55 rfl h
      · refine gk_bipush (pc := 32) K d_M_refusal_32 kb_m12 ?_
        exact gk_iret (pc := 34) K d_M_refusal_34 rfl h
    · refine gk_bipush (pc := 18) K d_M_refusal_18 kb_m11 ?_
      exact gk_iret (pc := 20) K d_M_refusal_20 rfl h
  · refine gk_iconst (pc := 7) K d_M_refusal_7 kc_m1 ?_
    exact gk_iret (pc := 8) K d_M_refusal_8 rfl h
theorem s_M_refusal {l : Launch} {u : gk_U} (hD : gk_D tm u) {a1 : Int32} {a2 : Int32} {m0 mem2 : gk_M} {r : Int32} (h : f_M_refusal a1 a2 m0 = some (r, mem2)) : gk_C tm l u me_M_refusal 3 [.ref 0, .int a1, .int a2] m0 (some (.int r)) mem2 :=
  gk_enter hD mc_M_refusal (Nat.le_of_ble_eq_true rfl) rfl (fun z _ _ K => s_M_refusal_0 K _ _ _  h)
theorem d_M_asSort_0 : decode me_M_asSort.2.1 0 = .ok (.iload_n 0, 1) := by decide +kernel
theorem d_M_asSort_1 : decode me_M_asSort.2.1 1 = .ok (.ifCond .ne 10, 3) := by decide +kernel
theorem d_M_asSort_4 : decode me_M_asSort.2.1 4 = .ok (.lload_n 1, 1) := by decide +kernel
theorem d_M_asSort_5 : decode me_M_asSort.2.1 5 = .ok (.l2i, 1) := by decide +kernel
theorem d_M_asSort_6 : decode me_M_asSort.2.1 6 = .ok (.i2b, 1) := by decide +kernel
theorem d_M_asSort_7 : decode me_M_asSort.2.1 7 = .ok (.i2l, 1) := by decide +kernel
theorem d_M_asSort_8 : decode me_M_asSort.2.1 8 = .ok (.goto 46, 3) := by decide +kernel
theorem d_M_asSort_11 : decode me_M_asSort.2.1 11 = .ok (.iload_n 0, 1) := by decide +kernel
theorem d_M_asSort_12 : decode me_M_asSort.2.1 12 = .ok (.iconst 1, 1) := by decide +kernel
theorem d_M_asSort_13 : decode me_M_asSort.2.1 13 = .ok (.if_icmp .ne 10, 3) := by decide +kernel
theorem d_M_asSort_16 : decode me_M_asSort.2.1 16 = .ok (.lload_n 1, 1) := by decide +kernel
theorem d_M_asSort_17 : decode me_M_asSort.2.1 17 = .ok (.l2i, 1) := by decide +kernel
theorem d_M_asSort_18 : decode me_M_asSort.2.1 18 = .ok (.i2s, 1) := by decide +kernel
theorem d_M_asSort_19 : decode me_M_asSort.2.1 19 = .ok (.i2l, 1) := by decide +kernel
theorem d_M_asSort_20 : decode me_M_asSort.2.1 20 = .ok (.goto 34, 3) := by decide +kernel
theorem d_M_asSort_23 : decode me_M_asSort.2.1 23 = .ok (.iload_n 0, 1) := by decide +kernel
theorem d_M_asSort_24 : decode me_M_asSort.2.1 24 = .ok (.iconst 2, 1) := by decide +kernel
theorem d_M_asSort_25 : decode me_M_asSort.2.1 25 = .ok (.if_icmp .ne 9, 3) := by decide +kernel
theorem d_M_asSort_28 : decode me_M_asSort.2.1 28 = .ok (.lload_n 1, 1) := by decide +kernel
theorem d_M_asSort_29 : decode me_M_asSort.2.1 29 = .ok (.l2i, 1) := by decide +kernel
theorem d_M_asSort_30 : decode me_M_asSort.2.1 30 = .ok (.i2l, 1) := by decide +kernel
theorem d_M_asSort_31 : decode me_M_asSort.2.1 31 = .ok (.goto 23, 3) := by decide +kernel
theorem d_M_asSort_34 : decode me_M_asSort.2.1 34 = .ok (.iload_n 0, 1) := by decide +kernel
theorem d_M_asSort_35 : decode me_M_asSort.2.1 35 = .ok (.iconst 4, 1) := by decide +kernel
theorem d_M_asSort_36 : decode me_M_asSort.2.1 36 = .ok (.if_icmp .ne 17, 3) := by decide +kernel
theorem d_M_asSort_39 : decode me_M_asSort.2.1 39 = .ok (.lload_n 1, 1) := by decide +kernel
theorem d_M_asSort_40 : decode me_M_asSort.2.1 40 = .ok (.lconst 0, 1) := by decide +kernel
theorem d_M_asSort_41 : decode me_M_asSort.2.1 41 = .ok (.lcmp, 1) := by decide +kernel
theorem d_M_asSort_42 : decode me_M_asSort.2.1 42 = .ok (.ifCond .eq 7, 3) := by decide +kernel
theorem d_M_asSort_45 : decode me_M_asSort.2.1 45 = .ok (.lconst 1, 1) := by decide +kernel
theorem d_M_asSort_46 : decode me_M_asSort.2.1 46 = .ok (.goto 8, 3) := by decide +kernel
theorem d_M_asSort_49 : decode me_M_asSort.2.1 49 = .ok (.lconst 0, 1) := by decide +kernel
theorem d_M_asSort_50 : decode me_M_asSort.2.1 50 = .ok (.goto 4, 3) := by decide +kernel
theorem d_M_asSort_53 : decode me_M_asSort.2.1 53 = .ok (.lload_n 1, 1) := by decide +kernel
theorem d_M_asSort_54 : decode me_M_asSort.2.1 54 = .ok (.lreturn, 1) := by decide +kernel
noncomputable def f_M_asSort  (a0 : Int32) (a1 : Int64) (m0 : gk_M) : Option (Int64 × gk_M) :=
  if ¬ a0 = 0 then
    if ¬ a0 = 1 then
      if ¬ a0 = 2 then
        if ¬ a0 = 4 then
          some (a1, m0)
        else
          if a1 = 0 then
            some (0, m0)
          else
            some (1, m0)
      else
        some (a1.toInt32.toInt64, m0)
    else
      some (a1.toInt32.toInt16.toInt32.toInt64, m0)
  else
    some (a1.toInt32.toInt8.toInt32.toInt64, m0)

theorem s_M_asSort_0 {z : gk_Z} (K : gk_F tm z me_M_asSort 1) {r : Int64} {mem2 : gk_M} : ∀ a0 a1 m0, f_M_asSort a0 a1 m0 = some (r, mem2) → gk_G tm z me_M_asSort (gk_R tm z (some (.long r)) mem2) m0 [(0, .int a0), (1, .long a1)] [] 0 := by
  intro a0 a1 m0  h
  unfold f_M_asSort at h
  refine gk_iload_n (pc := 0) K d_M_asSort_0 rfl ?_
  refine gk_if_ne (tgt := 11) (pc := 1) K d_M_asSort_1 (by decide) h (fun h => ?_) (fun h => ?_)
  · refine gk_iload_n (pc := 11) K d_M_asSort_11 rfl ?_
    refine gk_iconst (pc := 12) K d_M_asSort_12 kc_1 ?_
    refine gk_ic_ne (tgt := 23) (pc := 13) K d_M_asSort_13 (by decide) h (fun h => ?_) (fun h => ?_)
    · refine gk_iload_n (pc := 23) K d_M_asSort_23 rfl ?_
      refine gk_iconst (pc := 24) K d_M_asSort_24 kc_2 ?_
      refine gk_ic_ne (tgt := 34) (pc := 25) K d_M_asSort_25 (by decide) h (fun h => ?_) (fun h => ?_)
      · refine gk_iload_n (pc := 34) K d_M_asSort_34 rfl ?_
        refine gk_iconst (pc := 35) K d_M_asSort_35 kc_4 ?_
        refine gk_ic_ne (tgt := 53) (pc := 36) K d_M_asSort_36 (by decide) h (fun h => ?_) (fun h => ?_)
        · refine gk_lload_n (pc := 53) K d_M_asSort_53 rfl ?_
          exact gk_lret (pc := 54) K d_M_asSort_54 rfl h
        · refine gk_lload_n (pc := 39) K d_M_asSort_39 rfl ?_
          refine gk_lconst (pc := 40) K d_M_asSort_40 kl_0 ?_
          refine gk_lc_eq (tgt := 49) (pc := 41) K d_M_asSort_41 d_M_asSort_42 (by decide) h (fun h => ?_) (fun h => ?_)
          · refine gk_lconst (pc := 49) K d_M_asSort_49 kl_0 ?_
            refine gk_goto (tgt := 54) (pc := 50) K d_M_asSort_50 (by decide) ?_
            exact gk_lret (pc := 54) K d_M_asSort_54 rfl h
          · refine gk_lconst (pc := 45) K d_M_asSort_45 kl_1 ?_
            refine gk_goto (tgt := 54) (pc := 46) K d_M_asSort_46 (by decide) ?_
            exact gk_lret (pc := 54) K d_M_asSort_54 rfl h
      · refine gk_lload_n (pc := 28) K d_M_asSort_28 rfl ?_
        refine gk_l2i (pc := 29) K d_M_asSort_29 ?_
        refine gk_i2l (pc := 30) K d_M_asSort_30 ?_
        refine gk_goto (tgt := 54) (pc := 31) K d_M_asSort_31 (by decide) ?_
        exact gk_lret (pc := 54) K d_M_asSort_54 rfl h
    · refine gk_lload_n (pc := 16) K d_M_asSort_16 rfl ?_
      refine gk_l2i (pc := 17) K d_M_asSort_17 ?_
      refine gk_i2s (pc := 18) K d_M_asSort_18 ?_
      refine gk_i2l (pc := 19) K d_M_asSort_19 ?_
      refine gk_goto (tgt := 54) (pc := 20) K d_M_asSort_20 (by decide) ?_
      exact gk_lret (pc := 54) K d_M_asSort_54 rfl h
  · refine gk_lload_n (pc := 4) K d_M_asSort_4 rfl ?_
    refine gk_l2i (pc := 5) K d_M_asSort_5 ?_
    refine gk_i2b (pc := 6) K d_M_asSort_6 ?_
    refine gk_i2l (pc := 7) K d_M_asSort_7 ?_
    refine gk_goto (tgt := 54) (pc := 8) K d_M_asSort_8 (by decide) ?_
    exact gk_lret (pc := 54) K d_M_asSort_54 rfl h
theorem s_M_asSort {l : Launch} {u : gk_U} (hD : gk_D tm u) {a0 : Int32} {a1 : Int64} {m0 mem2 : gk_M} {r : Int64} (h : f_M_asSort a0 a1 m0 = some (r, mem2)) : gk_C tm l u me_M_asSort 1 [.int a0, .long a1] m0 (some (.long r)) mem2 :=
  gk_enter hD mc_M_asSort (Nat.le_of_ble_eq_true rfl) rfl (fun z _ _ K => s_M_asSort_0 K _ _ _  h)
theorem d_M_put_0 : decode me_M_put.2.1 0 = .ok (.aload_n 0, 1) := by decide +kernel
theorem d_M_put_1 : decode me_M_put.2.1 1 = .ok (.iload_n 1, 1) := by decide +kernel
theorem d_M_put_2 : decode me_M_put.2.1 2 = .ok (.iload_n 2, 1) := by decide +kernel
theorem d_M_put_3 : decode me_M_put.2.1 3 = .ok (.invokevirtual 420, 3) := by decide +kernel
theorem d_M_put_6 : decode me_M_put.2.1 6 = .ok (.istore 5, 2) := by decide +kernel
theorem d_M_put_8 : decode me_M_put.2.1 8 = .ok (.iload 5, 2) := by decide +kernel
theorem d_M_put_10 : decode me_M_put.2.1 10 = .ok (.ifCond .ne 27, 3) := by decide +kernel
theorem d_M_put_13 : decode me_M_put.2.1 13 = .ok (.aload_n 0, 1) := by decide +kernel
theorem d_M_put_14 : decode me_M_put.2.1 14 = .ok (.getfield 83, 3) := by decide +kernel
theorem d_M_put_17 : decode me_M_put.2.1 17 = .ok (.bipush 60, 2) := by decide +kernel
theorem d_M_put_19 : decode me_M_put.2.1 19 = .ok (.iload_n 1, 1) := by decide +kernel
theorem d_M_put_20 : decode me_M_put.2.1 20 = .ok (.imul, 1) := by decide +kernel
theorem d_M_put_21 : decode me_M_put.2.1 21 = .ok (.iload_n 2, 1) := by decide +kernel
theorem d_M_put_22 : decode me_M_put.2.1 22 = .ok (.iadd, 1) := by decide +kernel
theorem d_M_put_23 : decode me_M_put.2.1 23 = .ok (.aload_n 0, 1) := by decide +kernel
theorem d_M_put_24 : decode me_M_put.2.1 24 = .ok (.getfield 77, 3) := by decide +kernel
theorem d_M_put_27 : decode me_M_put.2.1 27 = .ok (.iload_n 1, 1) := by decide +kernel
theorem d_M_put_28 : decode me_M_put.2.1 28 = .ok (.iaload, 1) := by decide +kernel
theorem d_M_put_29 : decode me_M_put.2.1 29 = .ok (.bipush 50, 2) := by decide +kernel
theorem d_M_put_31 : decode me_M_put.2.1 31 = .ok (.isub, 1) := by decide +kernel
theorem d_M_put_32 : decode me_M_put.2.1 32 = .ok (.lload_n 3, 1) := by decide +kernel
theorem d_M_put_33 : decode me_M_put.2.1 33 = .ok (.invokestatic 423, 3) := by decide +kernel
theorem d_M_put_36 : decode me_M_put.2.1 36 = .ok (.lastore, 1) := by decide +kernel
theorem d_M_put_37 : decode me_M_put.2.1 37 = .ok (.iload 5, 2) := by decide +kernel
theorem d_M_put_39 : decode me_M_put.2.1 39 = .ok (.ifCond .ne 7, 3) := by decide +kernel
theorem d_M_put_42 : decode me_M_put.2.1 42 = .ok (.iconst 1, 1) := by decide +kernel
theorem d_M_put_43 : decode me_M_put.2.1 43 = .ok (.goto 5, 3) := by decide +kernel
theorem d_M_put_46 : decode me_M_put.2.1 46 = .ok (.iload 5, 2) := by decide +kernel
theorem d_M_put_48 : decode me_M_put.2.1 48 = .ok (.ireturn, 1) := by decide +kernel
noncomputable def f_M_put_37  (a5 : Int32) (m0 : gk_M) : Option (Int32 × gk_M) :=
  if ¬ a5 = 0 then
    some (a5, m0)
  else
    some (1, m0)

theorem s_M_put_37 {z : gk_Z} (K : gk_F tm z me_M_put 4) {r : Int32} {mem2 : gk_M} : ∀ a5 m0, f_M_put_37 a5 m0 = some (r, mem2) → gk_G tm z me_M_put (gk_R tm z (some (.int r)) mem2) m0 [(5, .int a5)] [] 37 := by
  intro a5 m0  h
  unfold f_M_put_37 at h
  refine gk_iload (pc := 37) K d_M_put_37 rfl ?_
  refine gk_if_ne (tgt := 46) (pc := 39) K d_M_put_39 (by decide) h (fun h => ?_) (fun h => ?_)
  · refine gk_iload (pc := 46) K d_M_put_46 rfl ?_
    exact gk_iret (pc := 48) K d_M_put_48 rfl h
  · refine gk_iconst (pc := 42) K d_M_put_42 kc_1 ?_
    refine gk_goto (tgt := 48) (pc := 43) K d_M_put_43 (by decide) ?_
    exact gk_iret (pc := 48) K d_M_put_48 rfl h
noncomputable def f_M_put  (a1 : Int32) (a2 : Int32) (a3 : Int64) (m0 : gk_M) : Option (Int32 × gk_M) :=
  gk_bi (f_M_refusal a1 a2 m0) fun v2 m1 =>
  if ¬ v2 = 0 then
    f_M_put_37 v2 m1
  else
    gk_ai m1 23 6 a1 fun v3 =>
    gk_bl (f_M_asSort (v3 - 50) a3 m1) fun v5 m4 =>
    gk_sl m4 25 360 ((60 * a1) + a2) v5 fun m6 =>
    f_M_put_37 v2 m6

theorem s_M_put_0 {z : gk_Z} (K : gk_F tm z me_M_put 4) {r : Int32} {mem2 : gk_M} : ∀ a1 a2 a3 m0, f_M_put a1 a2 a3 m0 = some (r, mem2) → gk_G tm z me_M_put (gk_R tm z (some (.int r)) mem2) m0 [(0, .ref 0), (1, .int a1), (2, .int a2), (3, .long a3)] [] 0 := by
  intro a1 a2 a3 m0  h
  unfold f_M_put at h
  refine gk_aload_n (pc := 0) K d_M_put_0 rfl ?_
  refine gk_iload_n (pc := 1) K d_M_put_1 rfl ?_
  refine gk_iload_n (pc := 2) K d_M_put_2 rfl ?_
  obtain ⟨v2, m1, em1, h⟩ := gk_bi_some h
  refine gk_cVi (As := [.int a1, .int a2]) (pc := 3) K d_M_put_3 mv_M_420 mc_M_refusal rfl tm_0 cl_ok10.1 (s_M_refusal (gk_FD K)  em1) (by decide) rfl (Nat.le_of_ble_eq_true rfl) ?_
  refine gk_istore (lv2 := [(5, .int v2), (0, .ref 0), (1, .int a1), (2, .int a2), (3, .long a3)]) (pc := 6) K d_M_put_6 (by decide) rfl ?_
  refine gk_iload (pc := 8) K d_M_put_8 rfl ?_
  refine gk_if_ne (tgt := 37) (pc := 10) K d_M_put_10 (by decide) h (fun h => ?_) (fun h => ?_)
  · exact gk_sub [0] rfl (s_M_put_37 K _ _  h)
  · refine gk_aload_n (pc := 13) K d_M_put_13 rfl ?_
    refine gk_get (pc := 14) K d_M_put_14 fl_M_83 tm_0 rfl rfl ?_
    refine gk_bipush (pc := 17) K d_M_put_17 kb_60 ?_
    refine gk_iload_n (pc := 19) K d_M_put_19 rfl ?_
    refine gk_imul (pc := 20) K d_M_put_20 ?_
    refine gk_iload_n (pc := 21) K d_M_put_21 rfl ?_
    refine gk_iadd (pc := 22) K d_M_put_22 ?_
    refine gk_aload_n (pc := 23) K d_M_put_23 rfl ?_
    refine gk_get (pc := 24) K d_M_put_24 fl_M_77 tm_0 rfl rfl ?_
    refine gk_iload_n (pc := 27) K d_M_put_27 rfl ?_
    refine gk_iald (pc := 28) K d_M_put_28 tm_23 h (fun v3 h => ?_)
    refine gk_bipush (pc := 29) K d_M_put_29 kb_50 ?_
    refine gk_isub (pc := 31) K d_M_put_31 ?_
    refine gk_lload_n (pc := 32) K d_M_put_32 rfl ?_
    obtain ⟨v5, m4, em4, h⟩ := gk_bl_some h
    refine gk_cSl (As := [.int (v3 - 50), .long a3]) (pc := 33) K d_M_put_33 ms_M_423 mc_M_asSort rfl (s_M_asSort (gk_FD K)  em4) (by decide) rfl (Nat.le_of_ble_eq_true rfl) ?_
    refine gk_last (pc := 36) K d_M_put_36 tm_25 h (fun m6 h => ?_)
    exact gk_sub [0] rfl (s_M_put_37 K _ _  h)
theorem s_M_put {l : Launch} {u : gk_U} (hD : gk_D tm u) {a1 : Int32} {a2 : Int32} {a3 : Int64} {m0 mem2 : gk_M} {r : Int32} (h : f_M_put a1 a2 a3 m0 = some (r, mem2)) : gk_C tm l u me_M_put 4 [.ref 0, .int a1, .int a2, .long a3] m0 (some (.int r)) mem2 :=
  gk_enter hD mc_M_put (Nat.le_of_ble_eq_true rfl) rfl (fun z _ _ K => s_M_put_0 K _ _ _ _  h)
theorem d_M_element_0 : decode me_M_element.2.1 0 = .ok (.aload_n 0, 1) := by decide +kernel
theorem d_M_element_1 : decode me_M_element.2.1 1 = .ok (.iload_n 1, 1) := by decide +kernel
theorem d_M_element_2 : decode me_M_element.2.1 2 = .ok (.iload_n 2, 1) := by decide +kernel
theorem d_M_element_3 : decode me_M_element.2.1 3 = .ok (.invokevirtual 420, 3) := by decide +kernel
theorem d_M_element_6 : decode me_M_element.2.1 6 = .ok (.ifCond .eq 9, 3) := by decide +kernel
theorem d_M_element_9 : decode me_M_element.2.1 9 = .ok (.ldc2_w 429, 3) := by decide +kernel
theorem d_M_element_12 : decode me_M_element.2.1 12 = .ok (.goto 14, 3) := by decide +kernel
theorem d_M_element_15 : decode me_M_element.2.1 15 = .ok (.aload_n 0, 1) := by decide +kernel
theorem d_M_element_16 : decode me_M_element.2.1 16 = .ok (.getfield 83, 3) := by decide +kernel
theorem d_M_element_19 : decode me_M_element.2.1 19 = .ok (.bipush 60, 2) := by decide +kernel
theorem d_M_element_21 : decode me_M_element.2.1 21 = .ok (.iload_n 1, 1) := by decide +kernel
theorem d_M_element_22 : decode me_M_element.2.1 22 = .ok (.imul, 1) := by decide +kernel
theorem d_M_element_23 : decode me_M_element.2.1 23 = .ok (.iload_n 2, 1) := by decide +kernel
theorem d_M_element_24 : decode me_M_element.2.1 24 = .ok (.iadd, 1) := by decide +kernel
theorem d_M_element_25 : decode me_M_element.2.1 25 = .ok (.laload, 1) := by decide +kernel
theorem d_M_element_26 : decode me_M_element.2.1 26 = .ok (.lreturn, 1) := by decide +kernel
noncomputable def f_M_element  (a1 : Int32) (a2 : Int32) (m0 : gk_M) : Option (Int64 × gk_M) :=
  gk_bi (f_M_refusal a1 a2 m0) fun v2 m1 =>
  if v2 = 0 then
    gk_al m1 25 360 ((60 * a1) + a2) fun v3 =>
    some (v3, m1)
  else
    some ((-9223372036854775808), m1)

theorem s_M_element_0 {z : gk_Z} (K : gk_F tm z me_M_element 4) {r : Int64} {mem2 : gk_M} : ∀ a1 a2 m0, f_M_element a1 a2 m0 = some (r, mem2) → gk_G tm z me_M_element (gk_R tm z (some (.long r)) mem2) m0 [(0, .ref 0), (1, .int a1), (2, .int a2)] [] 0 := by
  intro a1 a2 m0  h
  unfold f_M_element at h
  refine gk_aload_n (pc := 0) K d_M_element_0 rfl ?_
  refine gk_iload_n (pc := 1) K d_M_element_1 rfl ?_
  refine gk_iload_n (pc := 2) K d_M_element_2 rfl ?_
  obtain ⟨v2, m1, em1, h⟩ := gk_bi_some h
  refine gk_cVi (As := [.int a1, .int a2]) (pc := 3) K d_M_element_3 mv_M_420 mc_M_refusal rfl tm_0 cl_ok10.1 (s_M_refusal (gk_FD K)  em1) (by decide) rfl (Nat.le_of_ble_eq_true rfl) ?_
  refine gk_if_eq (tgt := 15) (pc := 6) K d_M_element_6 (by decide) h (fun h => ?_) (fun h => ?_)
  · refine gk_aload_n (pc := 15) K d_M_element_15 rfl ?_
    refine gk_get (pc := 16) K d_M_element_16 fl_M_83 tm_0 rfl rfl ?_
    refine gk_bipush (pc := 19) K d_M_element_19 kb_60 ?_
    refine gk_iload_n (pc := 21) K d_M_element_21 rfl ?_
    refine gk_imul (pc := 22) K d_M_element_22 ?_
    refine gk_iload_n (pc := 23) K d_M_element_23 rfl ?_
    refine gk_iadd (pc := 24) K d_M_element_24 ?_
    refine gk_lald (pc := 25) K d_M_element_25 tm_25 h (fun v3 h => ?_)
    exact gk_lret (pc := 26) K d_M_element_26 rfl h
  · refine gk_ldc2 (pc := 9) K d_M_element_9 lc_M_429 ?_
    refine gk_goto (tgt := 26) (pc := 12) K d_M_element_12 (by decide) ?_
    exact gk_lret (pc := 26) K d_M_element_26 rfl h
theorem s_M_element {l : Launch} {u : gk_U} (hD : gk_D tm u) {a1 : Int32} {a2 : Int32} {m0 mem2 : gk_M} {r : Int64} (h : f_M_element a1 a2 m0 = some (r, mem2)) : gk_C tm l u me_M_element 4 [.ref 0, .int a1, .int a2] m0 (some (.long r)) mem2 :=
  gk_enter hD mc_M_element (Nat.le_of_ble_eq_true rfl) rfl (fun z _ _ K => s_M_element_0 K _ _ _  h)
theorem d_M_shift_0 : decode me_M_shift.2.1 0 = .ok (.iload_n 1, 1) := by decide +kernel
theorem d_M_shift_1 : decode me_M_shift.2.1 1 = .ok (.invokestatic 127, 3) := by decide +kernel
theorem d_M_shift_4 : decode me_M_shift.2.1 4 = .ok (.ifCond .eq 10, 3) := by decide +kernel
theorem d_M_shift_7 : decode me_M_shift.2.1 7 = .ok (.iload_n 3, 1) := by decide +kernel
theorem d_M_shift_8 : decode me_M_shift.2.1 8 = .ok (.invokestatic 127, 3) := by decide +kernel
theorem d_M_shift_11 : decode me_M_shift.2.1 11 = .ok (.ifCond .ne 5, 3) := by decide +kernel
theorem d_M_shift_14 : decode me_M_shift.2.1 14 = .ok (.iconst (-1), 1) := by decide +kernel
theorem d_M_shift_15 : decode me_M_shift.2.1 15 = .ok (.ireturn, 1) := by decide +kernel
theorem d_M_shift_16 : decode me_M_shift.2.1 16 = .ok (.aload_n 0, 1) := by decide +kernel
theorem d_M_shift_17 : decode me_M_shift.2.1 17 = .ok (.getfield 77, 3) := by decide +kernel
theorem d_M_shift_20 : decode me_M_shift.2.1 20 = .ok (.iload_n 1, 1) := by decide +kernel
theorem d_M_shift_21 : decode me_M_shift.2.1 21 = .ok (.iaload, 1) := by decide +kernel
theorem d_M_shift_22 : decode me_M_shift.2.1 22 = .ok (.ifCond .lt 12, 3) := by decide +kernel
theorem d_M_shift_25 : decode me_M_shift.2.1 25 = .ok (.aload_n 0, 1) := by decide +kernel
theorem d_M_shift_26 : decode me_M_shift.2.1 26 = .ok (.getfield 77, 3) := by decide +kernel
theorem d_M_shift_29 : decode me_M_shift.2.1 29 = .ok (.iload_n 3, 1) := by decide +kernel
theorem d_M_shift_30 : decode me_M_shift.2.1 30 = .ok (.iaload, 1) := by decide +kernel
theorem d_M_shift_31 : decode me_M_shift.2.1 31 = .ok (.ifCond .ge 6, 3) := by decide +kernel
theorem d_M_shift_34 : decode me_M_shift.2.1 34 = .ok (.bipush (-11), 2) := by decide +kernel
theorem d_M_shift_36 : decode me_M_shift.2.1 36 = .ok (.ireturn, 1) := by decide +kernel
theorem d_M_shift_37 : decode me_M_shift.2.1 37 = .ok (.aload_n 0, 1) := by decide +kernel
theorem d_M_shift_38 : decode me_M_shift.2.1 38 = .ok (.getfield 77, 3) := by decide +kernel
theorem d_M_shift_41 : decode me_M_shift.2.1 41 = .ok (.iload_n 1, 1) := by decide +kernel
theorem d_M_shift_42 : decode me_M_shift.2.1 42 = .ok (.iaload, 1) := by decide +kernel
theorem d_M_shift_43 : decode me_M_shift.2.1 43 = .ok (.bipush 50, 2) := by decide +kernel
theorem d_M_shift_45 : decode me_M_shift.2.1 45 = .ok (.if_icmp .lt 18, 3) := by decide +kernel
theorem d_M_shift_48 : decode me_M_shift.2.1 48 = .ok (.aload_n 0, 1) := by decide +kernel
theorem d_M_shift_49 : decode me_M_shift.2.1 49 = .ok (.getfield 77, 3) := by decide +kernel
theorem d_M_shift_52 : decode me_M_shift.2.1 52 = .ok (.iload_n 1, 1) := by decide +kernel
theorem d_M_shift_53 : decode me_M_shift.2.1 53 = .ok (.iaload, 1) := by decide +kernel
theorem d_M_shift_54 : decode me_M_shift.2.1 54 = .ok (.aload_n 0, 1) := by decide +kernel
theorem d_M_shift_55 : decode me_M_shift.2.1 55 = .ok (.getfield 77, 3) := by decide +kernel
theorem d_M_shift_58 : decode me_M_shift.2.1 58 = .ok (.iload_n 3, 1) := by decide +kernel
theorem d_M_shift_59 : decode me_M_shift.2.1 59 = .ok (.iaload, 1) := by decide +kernel
theorem d_M_shift_60 : decode me_M_shift.2.1 60 = .ok (.if_icmp .eq 6, 3) := by decide +kernel
theorem d_M_shift_63 : decode me_M_shift.2.1 63 = .ok (.bipush (-12), 2) := by decide +kernel
theorem d_M_shift_65 : decode me_M_shift.2.1 65 = .ok (.ireturn, 1) := by decide +kernel
theorem d_M_shift_66 : decode me_M_shift.2.1 66 = .ok (.iload 5, 2) := by decide +kernel
theorem d_M_shift_68 : decode me_M_shift.2.1 68 = .ok (.ifCond .lt 39, 3) := by decide +kernel
theorem d_M_shift_71 : decode me_M_shift.2.1 71 = .ok (.iload_n 2, 1) := by decide +kernel
theorem d_M_shift_72 : decode me_M_shift.2.1 72 = .ok (.ifCond .lt 35, 3) := by decide +kernel
theorem d_M_shift_75 : decode me_M_shift.2.1 75 = .ok (.iload 4, 2) := by decide +kernel
theorem d_M_shift_77 : decode me_M_shift.2.1 77 = .ok (.ifCond .lt 30, 3) := by decide +kernel
theorem d_M_shift_80 : decode me_M_shift.2.1 80 = .ok (.iload_n 2, 1) := by decide +kernel
theorem d_M_shift_81 : decode me_M_shift.2.1 81 = .ok (.aload_n 0, 1) := by decide +kernel
theorem d_M_shift_82 : decode me_M_shift.2.1 82 = .ok (.getfield 80, 3) := by decide +kernel
theorem d_M_shift_85 : decode me_M_shift.2.1 85 = .ok (.iload_n 1, 1) := by decide +kernel
theorem d_M_shift_86 : decode me_M_shift.2.1 86 = .ok (.iaload, 1) := by decide +kernel
theorem d_M_shift_87 : decode me_M_shift.2.1 87 = .ok (.iload 5, 2) := by decide +kernel
theorem d_M_shift_89 : decode me_M_shift.2.1 89 = .ok (.isub, 1) := by decide +kernel
theorem d_M_shift_90 : decode me_M_shift.2.1 90 = .ok (.if_icmp .gt 17, 3) := by decide +kernel
theorem d_M_shift_93 : decode me_M_shift.2.1 93 = .ok (.iload 4, 2) := by decide +kernel
theorem d_M_shift_95 : decode me_M_shift.2.1 95 = .ok (.aload_n 0, 1) := by decide +kernel
theorem d_M_shift_96 : decode me_M_shift.2.1 96 = .ok (.getfield 80, 3) := by decide +kernel
theorem d_M_shift_99 : decode me_M_shift.2.1 99 = .ok (.iload_n 3, 1) := by decide +kernel
theorem d_M_shift_100 : decode me_M_shift.2.1 100 = .ok (.iaload, 1) := by decide +kernel
theorem d_M_shift_101 : decode me_M_shift.2.1 101 = .ok (.iload 5, 2) := by decide +kernel
theorem d_M_shift_103 : decode me_M_shift.2.1 103 = .ok (.isub, 1) := by decide +kernel
theorem d_M_shift_104 : decode me_M_shift.2.1 104 = .ok (.if_icmp .le 6, 3) := by decide +kernel
theorem d_M_shift_107 : decode me_M_shift.2.1 107 = .ok (.bipush (-13), 2) := by decide +kernel
theorem d_M_shift_109 : decode me_M_shift.2.1 109 = .ok (.ireturn, 1) := by decide +kernel
theorem d_M_shift_110 : decode me_M_shift.2.1 110 = .ok (.iconst 0, 1) := by decide +kernel
theorem d_M_shift_111 : decode me_M_shift.2.1 111 = .ok (.istore 6, 2) := by decide +kernel
theorem d_M_shift_113 : decode me_M_shift.2.1 113 = .ok (.iload 6, 2) := by decide +kernel
theorem d_M_shift_115 : decode me_M_shift.2.1 115 = .ok (.iload 5, 2) := by decide +kernel
theorem d_M_shift_117 : decode me_M_shift.2.1 117 = .ok (.if_icmp .ge 30, 3) := by decide +kernel
theorem d_M_shift_120 : decode me_M_shift.2.1 120 = .ok (.aload_n 0, 1) := by decide +kernel
theorem d_M_shift_121 : decode me_M_shift.2.1 121 = .ok (.getfield 87, 3) := by decide +kernel
theorem d_M_shift_124 : decode me_M_shift.2.1 124 = .ok (.iload 6, 2) := by decide +kernel
theorem d_M_shift_126 : decode me_M_shift.2.1 126 = .ok (.aload_n 0, 1) := by decide +kernel
theorem d_M_shift_127 : decode me_M_shift.2.1 127 = .ok (.getfield 83, 3) := by decide +kernel
theorem d_M_shift_130 : decode me_M_shift.2.1 130 = .ok (.bipush 60, 2) := by decide +kernel
theorem d_M_shift_132 : decode me_M_shift.2.1 132 = .ok (.iload_n 1, 1) := by decide +kernel
theorem d_M_shift_133 : decode me_M_shift.2.1 133 = .ok (.imul, 1) := by decide +kernel
theorem d_M_shift_134 : decode me_M_shift.2.1 134 = .ok (.iload_n 2, 1) := by decide +kernel
theorem d_M_shift_135 : decode me_M_shift.2.1 135 = .ok (.iadd, 1) := by decide +kernel
theorem d_M_shift_136 : decode me_M_shift.2.1 136 = .ok (.iload 6, 2) := by decide +kernel
theorem d_M_shift_138 : decode me_M_shift.2.1 138 = .ok (.iadd, 1) := by decide +kernel
theorem d_M_shift_139 : decode me_M_shift.2.1 139 = .ok (.laload, 1) := by decide +kernel
theorem d_M_shift_140 : decode me_M_shift.2.1 140 = .ok (.lastore, 1) := by decide +kernel
theorem d_M_shift_141 : decode me_M_shift.2.1 141 = .ok (.iinc 6 1, 3) := by decide +kernel
theorem d_M_shift_144 : decode me_M_shift.2.1 144 = .ok (.goto (-31), 3) := by decide +kernel
theorem d_M_shift_147 : decode me_M_shift.2.1 147 = .ok (.iconst 0, 1) := by decide +kernel
theorem d_M_shift_148 : decode me_M_shift.2.1 148 = .ok (.istore 6, 2) := by decide +kernel
theorem d_M_shift_150 : decode me_M_shift.2.1 150 = .ok (.iload 6, 2) := by decide +kernel
theorem d_M_shift_152 : decode me_M_shift.2.1 152 = .ok (.iload 5, 2) := by decide +kernel
theorem d_M_shift_154 : decode me_M_shift.2.1 154 = .ok (.if_icmp .ge 31, 3) := by decide +kernel
theorem d_M_shift_157 : decode me_M_shift.2.1 157 = .ok (.aload_n 0, 1) := by decide +kernel
theorem d_M_shift_158 : decode me_M_shift.2.1 158 = .ok (.getfield 83, 3) := by decide +kernel
theorem d_M_shift_161 : decode me_M_shift.2.1 161 = .ok (.bipush 60, 2) := by decide +kernel
theorem d_M_shift_163 : decode me_M_shift.2.1 163 = .ok (.iload_n 3, 1) := by decide +kernel
theorem d_M_shift_164 : decode me_M_shift.2.1 164 = .ok (.imul, 1) := by decide +kernel
theorem d_M_shift_165 : decode me_M_shift.2.1 165 = .ok (.iload 4, 2) := by decide +kernel
theorem d_M_shift_167 : decode me_M_shift.2.1 167 = .ok (.iadd, 1) := by decide +kernel
theorem d_M_shift_168 : decode me_M_shift.2.1 168 = .ok (.iload 6, 2) := by decide +kernel
theorem d_M_shift_170 : decode me_M_shift.2.1 170 = .ok (.iadd, 1) := by decide +kernel
theorem d_M_shift_171 : decode me_M_shift.2.1 171 = .ok (.aload_n 0, 1) := by decide +kernel
theorem d_M_shift_172 : decode me_M_shift.2.1 172 = .ok (.getfield 87, 3) := by decide +kernel
theorem d_M_shift_175 : decode me_M_shift.2.1 175 = .ok (.iload 6, 2) := by decide +kernel
theorem d_M_shift_177 : decode me_M_shift.2.1 177 = .ok (.laload, 1) := by decide +kernel
theorem d_M_shift_178 : decode me_M_shift.2.1 178 = .ok (.lastore, 1) := by decide +kernel
theorem d_M_shift_179 : decode me_M_shift.2.1 179 = .ok (.iinc 6 1, 3) := by decide +kernel
theorem d_M_shift_182 : decode me_M_shift.2.1 182 = .ok (.goto (-32), 3) := by decide +kernel
theorem d_M_shift_185 : decode me_M_shift.2.1 185 = .ok (.iload 5, 2) := by decide +kernel
theorem d_M_shift_187 : decode me_M_shift.2.1 187 = .ok (.ireturn, 1) := by decide +kernel
noncomputable def f_M_shift_150  : Nat → Int32 → Int32 → Int32 → Int32 → gk_M → Option (Int32 × gk_M)
  | 0, _, _, _, _, _ => none
  | n + 1, a3, a4, a5, a6, m0 =>
    if a5 ≤ a6 then
      some (a5, m0)
    else
      gk_al m0 26 60 a6 fun v1 =>
      gk_sl m0 25 360 (((60 * a3) + a4) + a6) v1 fun m2 =>
      f_M_shift_150 n a3 a4 a5 (a6 + 1) m2

theorem s_M_shift_150 {z : gk_Z} (K : gk_F tm z me_M_shift 3) {r : Int32} {mem2 : gk_M} : ∀ n a3 a4 a5 a6 m0, f_M_shift_150 n a3 a4 a5 a6 m0 = some (r, mem2) → gk_G tm z me_M_shift (gk_R tm z (some (.int r)) mem2) m0 [(0, .ref 0), (3, .int a3), (4, .int a4), (5, .int a5), (6, .int a6)] [] 150 := by
  intro n
  induction n with
  | zero => intro a3 a4 a5 a6 m0  h; exact nomatch (show (none : Option _) = some _ from h)
  | succ n ih =>
    intro a3 a4 a5 a6 m0  h
    unfold f_M_shift_150 at h
    refine gk_iload (pc := 150) K d_M_shift_150 rfl ?_
    refine gk_iload (pc := 152) K d_M_shift_152 rfl ?_
    refine gk_ic_ge (tgt := 185) (pc := 154) K d_M_shift_154 (by decide) h (fun h => ?_) (fun h => ?_)
    · refine gk_iload (pc := 185) K d_M_shift_185 rfl ?_
      exact gk_iret (pc := 187) K d_M_shift_187 rfl h
    · refine gk_aload_n (pc := 157) K d_M_shift_157 rfl ?_
      refine gk_get (pc := 158) K d_M_shift_158 fl_M_83 tm_0 rfl rfl ?_
      refine gk_bipush (pc := 161) K d_M_shift_161 kb_60 ?_
      refine gk_iload_n (pc := 163) K d_M_shift_163 rfl ?_
      refine gk_imul (pc := 164) K d_M_shift_164 ?_
      refine gk_iload (pc := 165) K d_M_shift_165 rfl ?_
      refine gk_iadd (pc := 167) K d_M_shift_167 ?_
      refine gk_iload (pc := 168) K d_M_shift_168 rfl ?_
      refine gk_iadd (pc := 170) K d_M_shift_170 ?_
      refine gk_aload_n (pc := 171) K d_M_shift_171 rfl ?_
      refine gk_get (pc := 172) K d_M_shift_172 fl_M_87 tm_0 rfl rfl ?_
      refine gk_iload (pc := 175) K d_M_shift_175 rfl ?_
      refine gk_lald (pc := 177) K d_M_shift_177 tm_26 h (fun v1 h => ?_)
      refine gk_last (pc := 178) K d_M_shift_178 tm_25 h (fun m2 h => ?_)
      refine gk_iinc2 (lv2 := [(6, .int (a6 + 1)), (0, .ref 0), (3, .int a3), (4, .int a4), (5, .int a5)]) (pc := 179) K d_M_shift_179 rfl kc_1 (by decide) rfl ?_
      refine gk_goto (tgt := 150) (pc := 182) K d_M_shift_182 (by decide) ?_
      exact gk_sub [1, 2, 3, 4, 0] rfl (ih _ _ _ _ _  h)
noncomputable def f_M_shift_113  : Nat → Int32 → Int32 → Int32 → Int32 → Int32 → Int32 → gk_M → Option (Int32 × gk_M)
  | 0, _, _, _, _, _, _, _ => none
  | n + 1, a1, a2, a3, a4, a5, a6, m0 =>
    if a5 ≤ a6 then
      f_M_shift_150 gk_fv a3 a4 a5 0 m0
    else
      gk_al m0 25 360 (((60 * a1) + a2) + a6) fun v1 =>
      gk_sl m0 26 60 a6 v1 fun m2 =>
      f_M_shift_113 n a1 a2 a3 a4 a5 (a6 + 1) m2

theorem s_M_shift_113 {z : gk_Z} (K : gk_F tm z me_M_shift 3) {r : Int32} {mem2 : gk_M} : ∀ n a1 a2 a3 a4 a5 a6 m0, f_M_shift_113 n a1 a2 a3 a4 a5 a6 m0 = some (r, mem2) → gk_G tm z me_M_shift (gk_R tm z (some (.int r)) mem2) m0 [(0, .ref 0), (1, .int a1), (2, .int a2), (3, .int a3), (4, .int a4), (5, .int a5), (6, .int a6)] [] 113 := by
  intro n
  induction n with
  | zero => intro a1 a2 a3 a4 a5 a6 m0  h; exact nomatch (show (none : Option _) = some _ from h)
  | succ n ih =>
    intro a1 a2 a3 a4 a5 a6 m0  h
    unfold f_M_shift_113 at h
    refine gk_iload (pc := 113) K d_M_shift_113 rfl ?_
    refine gk_iload (pc := 115) K d_M_shift_115 rfl ?_
    refine gk_ic_ge (tgt := 147) (pc := 117) K d_M_shift_117 (by decide) h (fun h => ?_) (fun h => ?_)
    · refine gk_iconst (pc := 147) K d_M_shift_147 kc_0 ?_
      refine gk_istore (lv2 := [(6, .int 0), (0, .ref 0), (1, .int a1), (2, .int a2), (3, .int a3), (4, .int a4), (5, .int a5)]) (pc := 148) K d_M_shift_148 (by decide) rfl ?_
      exact gk_sub [1, 4, 5, 6, 0] rfl (s_M_shift_150 K _ _ _ _ _ _  h)
    · refine gk_aload_n (pc := 120) K d_M_shift_120 rfl ?_
      refine gk_get (pc := 121) K d_M_shift_121 fl_M_87 tm_0 rfl rfl ?_
      refine gk_iload (pc := 124) K d_M_shift_124 rfl ?_
      refine gk_aload_n (pc := 126) K d_M_shift_126 rfl ?_
      refine gk_get (pc := 127) K d_M_shift_127 fl_M_83 tm_0 rfl rfl ?_
      refine gk_bipush (pc := 130) K d_M_shift_130 kb_60 ?_
      refine gk_iload_n (pc := 132) K d_M_shift_132 rfl ?_
      refine gk_imul (pc := 133) K d_M_shift_133 ?_
      refine gk_iload_n (pc := 134) K d_M_shift_134 rfl ?_
      refine gk_iadd (pc := 135) K d_M_shift_135 ?_
      refine gk_iload (pc := 136) K d_M_shift_136 rfl ?_
      refine gk_iadd (pc := 138) K d_M_shift_138 ?_
      refine gk_lald (pc := 139) K d_M_shift_139 tm_25 h (fun v1 h => ?_)
      refine gk_last (pc := 140) K d_M_shift_140 tm_26 h (fun m2 h => ?_)
      refine gk_iinc2 (lv2 := [(6, .int (a6 + 1)), (0, .ref 0), (1, .int a1), (2, .int a2), (3, .int a3), (4, .int a4), (5, .int a5)]) (pc := 141) K d_M_shift_141 rfl kc_1 (by decide) rfl ?_
      refine gk_goto (tgt := 113) (pc := 144) K d_M_shift_144 (by decide) ?_
      exact gk_sub [1, 2, 3, 4, 5, 6, 0] rfl (ih _ _ _ _ _ _ _  h)
noncomputable def f_M_shift  (a1 : Int32) (a2 : Int32) (a3 : Int32) (a4 : Int32) (a5 : Int32) (m0 : gk_M) : Option (Int32 × gk_M) :=
  gk_bi (f_M_isShelf a1 m0) fun v2 m1 =>
  if v2 = 0 then
    some ((-1), m1)
  else
    gk_bi (f_M_isShelf a3 m1) fun v4 m3 =>
    if ¬ v4 = 0 then
      gk_ai m3 23 6 a1 fun v5 =>
      if v5 < 0 then
        some ((-11), m3)
      else
        gk_ai m3 23 6 a3 fun v6 =>
        if 0 ≤ v6 then
          gk_ai m3 23 6 a1 fun v7 =>
          if v7 < 50 then
            some ((-12), m3)
          else
            gk_ai m3 23 6 a1 fun v8 =>
            gk_ai m3 23 6 a3 fun v9 =>
            if v8 = v9 then
              if a5 < 0 then
                some ((-13), m3)
              else
                if a2 < 0 then
                  some ((-13), m3)
                else
                  if a4 < 0 then
                    some ((-13), m3)
                  else
                    gk_ai m3 24 6 a1 fun v10 =>
                    if (v10 - a5) < a2 then
                      some ((-13), m3)
                    else
                      gk_ai m3 24 6 a3 fun v11 =>
                      if a4 ≤ (v11 - a5) then
                        f_M_shift_113 gk_fv a1 a2 a3 a4 a5 0 m3
                      else
                        some ((-13), m3)
            else
              some ((-12), m3)
        else
          some ((-11), m3)
    else
      some ((-1), m3)

theorem s_M_shift_0 {z : gk_Z} (K : gk_F tm z me_M_shift 3) {r : Int32} {mem2 : gk_M} : ∀ a1 a2 a3 a4 a5 m0, f_M_shift a1 a2 a3 a4 a5 m0 = some (r, mem2) → gk_G tm z me_M_shift (gk_R tm z (some (.int r)) mem2) m0 [(0, .ref 0), (1, .int a1), (2, .int a2), (3, .int a3), (4, .int a4), (5, .int a5)] [] 0 := by
  intro a1 a2 a3 a4 a5 m0  h
  unfold f_M_shift at h
  refine gk_iload_n (pc := 0) K d_M_shift_0 rfl ?_
  obtain ⟨v2, m1, em1, h⟩ := gk_bi_some h
  refine gk_cSi (As := [.int a1]) (pc := 1) K d_M_shift_1 ms_M_127 mc_M_isShelf rfl (s_M_isShelf (gk_FD K)  em1) (by decide) rfl (Nat.le_of_ble_eq_true rfl) ?_
  refine gk_if_eq (tgt := 14) (pc := 4) K d_M_shift_4 (by decide) h (fun h => ?_) (fun h => ?_)
  · refine gk_iconst (pc := 14) K d_M_shift_14 kc_m1 ?_
    exact gk_iret (pc := 15) K d_M_shift_15 rfl h
  · refine gk_iload_n (pc := 7) K d_M_shift_7 rfl ?_
    obtain ⟨v4, m3, em3, h⟩ := gk_bi_some h
    refine gk_cSi (As := [.int a3]) (pc := 8) K d_M_shift_8 ms_M_127 mc_M_isShelf rfl (s_M_isShelf (gk_FD K)  em3) (by decide) rfl (Nat.le_of_ble_eq_true rfl) ?_
    refine gk_if_ne (tgt := 16) (pc := 11) K d_M_shift_11 (by decide) h (fun h => ?_) (fun h => ?_)
    · refine gk_aload_n (pc := 16) K d_M_shift_16 rfl ?_
      refine gk_get (pc := 17) K d_M_shift_17 fl_M_77 tm_0 rfl rfl ?_
      refine gk_iload_n (pc := 20) K d_M_shift_20 rfl ?_
      refine gk_iald (pc := 21) K d_M_shift_21 tm_23 h (fun v5 h => ?_)
      refine gk_if_lt (tgt := 34) (pc := 22) K d_M_shift_22 (by decide) h (fun h => ?_) (fun h => ?_)
      · refine gk_bipush (pc := 34) K d_M_shift_34 kb_m11 ?_
        exact gk_iret (pc := 36) K d_M_shift_36 rfl h
      · refine gk_aload_n (pc := 25) K d_M_shift_25 rfl ?_
        refine gk_get (pc := 26) K d_M_shift_26 fl_M_77 tm_0 rfl rfl ?_
        refine gk_iload_n (pc := 29) K d_M_shift_29 rfl ?_
        refine gk_iald (pc := 30) K d_M_shift_30 tm_23 h (fun v6 h => ?_)
        refine gk_if_ge (tgt := 37) (pc := 31) K d_M_shift_31 (by decide) h (fun h => ?_) (fun h => ?_)
        · refine gk_aload_n (pc := 37) K d_M_shift_37 rfl ?_
          refine gk_get (pc := 38) K d_M_shift_38 fl_M_77 tm_0 rfl rfl ?_
          refine gk_iload_n (pc := 41) K d_M_shift_41 rfl ?_
          refine gk_iald (pc := 42) K d_M_shift_42 tm_23 h (fun v7 h => ?_)
          refine gk_bipush (pc := 43) K d_M_shift_43 kb_50 ?_
          refine gk_ic_lt (tgt := 63) (pc := 45) K d_M_shift_45 (by decide) h (fun h => ?_) (fun h => ?_)
          · refine gk_bipush (pc := 63) K d_M_shift_63 kb_m12 ?_
            exact gk_iret (pc := 65) K d_M_shift_65 rfl h
          · refine gk_aload_n (pc := 48) K d_M_shift_48 rfl ?_
            refine gk_get (pc := 49) K d_M_shift_49 fl_M_77 tm_0 rfl rfl ?_
            refine gk_iload_n (pc := 52) K d_M_shift_52 rfl ?_
            refine gk_iald (pc := 53) K d_M_shift_53 tm_23 h (fun v8 h => ?_)
            refine gk_aload_n (pc := 54) K d_M_shift_54 rfl ?_
            refine gk_get (pc := 55) K d_M_shift_55 fl_M_77 tm_0 rfl rfl ?_
            refine gk_iload_n (pc := 58) K d_M_shift_58 rfl ?_
            refine gk_iald (pc := 59) K d_M_shift_59 tm_23 h (fun v9 h => ?_)
            refine gk_ic_eq (tgt := 66) (pc := 60) K d_M_shift_60 (by decide) h (fun h => ?_) (fun h => ?_)
            · refine gk_iload (pc := 66) K d_M_shift_66 rfl ?_
              refine gk_if_lt (tgt := 107) (pc := 68) K d_M_shift_68 (by decide) h (fun h => ?_) (fun h => ?_)
              · refine gk_bipush (pc := 107) K d_M_shift_107 kb_m13 ?_
                exact gk_iret (pc := 109) K d_M_shift_109 rfl h
              · refine gk_iload_n (pc := 71) K d_M_shift_71 rfl ?_
                refine gk_if_lt (tgt := 107) (pc := 72) K d_M_shift_72 (by decide) h (fun h => ?_) (fun h => ?_)
                · refine gk_bipush (pc := 107) K d_M_shift_107 kb_m13 ?_
                  exact gk_iret (pc := 109) K d_M_shift_109 rfl h
                · refine gk_iload (pc := 75) K d_M_shift_75 rfl ?_
                  refine gk_if_lt (tgt := 107) (pc := 77) K d_M_shift_77 (by decide) h (fun h => ?_) (fun h => ?_)
                  · refine gk_bipush (pc := 107) K d_M_shift_107 kb_m13 ?_
                    exact gk_iret (pc := 109) K d_M_shift_109 rfl h
                  · refine gk_iload_n (pc := 80) K d_M_shift_80 rfl ?_
                    refine gk_aload_n (pc := 81) K d_M_shift_81 rfl ?_
                    refine gk_get (pc := 82) K d_M_shift_82 fl_M_80 tm_0 rfl rfl ?_
                    refine gk_iload_n (pc := 85) K d_M_shift_85 rfl ?_
                    refine gk_iald (pc := 86) K d_M_shift_86 tm_24 h (fun v10 h => ?_)
                    refine gk_iload (pc := 87) K d_M_shift_87 rfl ?_
                    refine gk_isub (pc := 89) K d_M_shift_89 ?_
                    refine gk_ic_gt (tgt := 107) (pc := 90) K d_M_shift_90 (by decide) h (fun h => ?_) (fun h => ?_)
                    · refine gk_bipush (pc := 107) K d_M_shift_107 kb_m13 ?_
                      exact gk_iret (pc := 109) K d_M_shift_109 rfl h
                    · refine gk_iload (pc := 93) K d_M_shift_93 rfl ?_
                      refine gk_aload_n (pc := 95) K d_M_shift_95 rfl ?_
                      refine gk_get (pc := 96) K d_M_shift_96 fl_M_80 tm_0 rfl rfl ?_
                      refine gk_iload_n (pc := 99) K d_M_shift_99 rfl ?_
                      refine gk_iald (pc := 100) K d_M_shift_100 tm_24 h (fun v11 h => ?_)
                      refine gk_iload (pc := 101) K d_M_shift_101 rfl ?_
                      refine gk_isub (pc := 103) K d_M_shift_103 ?_
                      refine gk_ic_le (tgt := 110) (pc := 104) K d_M_shift_104 (by decide) h (fun h => ?_) (fun h => ?_)
                      · refine gk_iconst (pc := 110) K d_M_shift_110 kc_0 ?_
                        refine gk_istore (lv2 := [(6, .int 0), (0, .ref 0), (1, .int a1), (2, .int a2), (3, .int a3), (4, .int a4), (5, .int a5)]) (pc := 111) K d_M_shift_111 (by decide) rfl ?_
                        exact gk_sub [1, 2, 3, 4, 5, 6, 0] rfl (s_M_shift_113 K _ _ _ _ _ _ _ _  h)
                      · refine gk_bipush (pc := 107) K d_M_shift_107 kb_m13 ?_
                        exact gk_iret (pc := 109) K d_M_shift_109 rfl h
            · refine gk_bipush (pc := 63) K d_M_shift_63 kb_m12 ?_
              exact gk_iret (pc := 65) K d_M_shift_65 rfl h
        · refine gk_bipush (pc := 34) K d_M_shift_34 kb_m11 ?_
          exact gk_iret (pc := 36) K d_M_shift_36 rfl h
    · refine gk_iconst (pc := 14) K d_M_shift_14 kc_m1 ?_
      exact gk_iret (pc := 15) K d_M_shift_15 rfl h
theorem s_M_shift {l : Launch} {u : gk_U} (hD : gk_D tm u) {a1 : Int32} {a2 : Int32} {a3 : Int32} {a4 : Int32} {a5 : Int32} {m0 mem2 : gk_M} {r : Int32} (h : f_M_shift a1 a2 a3 a4 a5 m0 = some (r, mem2)) : gk_C tm l u me_M_shift 3 [.ref 0, .int a1, .int a2, .int a3, .int a4, .int a5] m0 (some (.int r)) mem2 :=
  gk_enter hD mc_M_shift (Nat.le_of_ble_eq_true rfl) rfl (fun z _ _ K => s_M_shift_0 K _ _ _ _ _ _  h)
theorem d_M_kindOf_0 : decode me_M_kindOf.2.1 0 = .ok (.aload_n 0, 1) := by decide +kernel
theorem d_M_kindOf_1 : decode me_M_kindOf.2.1 1 = .ok (.getfield 71, 3) := by decide +kernel
theorem d_M_kindOf_4 : decode me_M_kindOf.2.1 4 = .ok (.iload_n 1, 1) := by decide +kernel
theorem d_M_kindOf_5 : decode me_M_kindOf.2.1 5 = .ok (.iaload, 1) := by decide +kernel
theorem d_M_kindOf_6 : decode me_M_kindOf.2.1 6 = .ok (.ireturn, 1) := by decide +kernel
noncomputable def f_M_kindOf  (a1 : Int32) (m0 : gk_M) : Option (Int32 × gk_M) :=
  gk_ai m0 21 50 a1 fun v1 =>
  some (v1, m0)

theorem s_M_kindOf_0 {z : gk_Z} (K : gk_F tm z me_M_kindOf 1) {r : Int32} {mem2 : gk_M} : ∀ a1 m0, f_M_kindOf a1 m0 = some (r, mem2) → gk_G tm z me_M_kindOf (gk_R tm z (some (.int r)) mem2) m0 [(0, .ref 0), (1, .int a1)] [] 0 := by
  intro a1 m0  h
  unfold f_M_kindOf at h
  refine gk_aload_n (pc := 0) K d_M_kindOf_0 rfl ?_
  refine gk_get (pc := 1) K d_M_kindOf_1 fl_M_71 tm_0 rfl rfl ?_
  refine gk_iload_n (pc := 4) K d_M_kindOf_4 rfl ?_
  refine gk_iald (pc := 5) K d_M_kindOf_5 tm_21 h (fun v1 h => ?_)
  exact gk_iret (pc := 6) K d_M_kindOf_6 rfl h
theorem s_M_kindOf {l : Launch} {u : gk_U} (hD : gk_D tm u) {a1 : Int32} {m0 mem2 : gk_M} {r : Int32} (h : f_M_kindOf a1 m0 = some (r, mem2)) : gk_C tm l u me_M_kindOf 1 [.ref 0, .int a1] m0 (some (.int r)) mem2 :=
  gk_enter hD mc_M_kindOf (Nat.le_of_ble_eq_true rfl) rfl (fun z _ _ K => s_M_kindOf_0 K _ _  h)
theorem d_M_above_0 : decode me_M_above.2.1 0 = .ok (.iload_n 0, 1) := by decide +kernel
theorem d_M_above_1 : decode me_M_above.2.1 1 = .ok (.iconst 3, 1) := by decide +kernel
theorem d_M_above_2 : decode me_M_above.2.1 2 = .ok (.if_icmp .ne 7, 3) := by decide +kernel
theorem d_M_above_5 : decode me_M_above.2.1 5 = .ok (.iconst 2, 1) := by decide +kernel
theorem d_M_above_6 : decode me_M_above.2.1 6 = .ok (.goto 32, 3) := by decide +kernel
theorem d_M_above_9 : decode me_M_above.2.1 9 = .ok (.iload_n 0, 1) := by decide +kernel
theorem d_M_above_10 : decode me_M_above.2.1 10 = .ok (.iconst 4, 1) := by decide +kernel
theorem d_M_above_11 : decode me_M_above.2.1 11 = .ok (.if_icmp .ne 7, 3) := by decide +kernel
theorem d_M_above_14 : decode me_M_above.2.1 14 = .ok (.iconst 1, 1) := by decide +kernel
theorem d_M_above_15 : decode me_M_above.2.1 15 = .ok (.goto 23, 3) := by decide +kernel
theorem d_M_above_18 : decode me_M_above.2.1 18 = .ok (.iload_n 0, 1) := by decide +kernel
theorem d_M_above_19 : decode me_M_above.2.1 19 = .ok (.iconst 5, 1) := by decide +kernel
theorem d_M_above_20 : decode me_M_above.2.1 20 = .ok (.if_icmp .ne 7, 3) := by decide +kernel
theorem d_M_above_23 : decode me_M_above.2.1 23 = .ok (.iconst 3, 1) := by decide +kernel
theorem d_M_above_24 : decode me_M_above.2.1 24 = .ok (.goto 14, 3) := by decide +kernel
theorem d_M_above_27 : decode me_M_above.2.1 27 = .ok (.iload_n 0, 1) := by decide +kernel
theorem d_M_above_28 : decode me_M_above.2.1 28 = .ok (.bipush 7, 2) := by decide +kernel
theorem d_M_above_30 : decode me_M_above.2.1 30 = .ok (.if_icmp .ne 7, 3) := by decide +kernel
theorem d_M_above_33 : decode me_M_above.2.1 33 = .ok (.iconst 4, 1) := by decide +kernel
theorem d_M_above_34 : decode me_M_above.2.1 34 = .ok (.goto 4, 3) := by decide +kernel
theorem d_M_above_37 : decode me_M_above.2.1 37 = .ok (.iconst 0, 1) := by decide +kernel
theorem d_M_above_38 : decode me_M_above.2.1 38 = .ok (.ireturn, 1) := by decide +kernel
noncomputable def f_M_above  (a0 : Int32) (m0 : gk_M) : Option (Int32 × gk_M) :=
  if ¬ a0 = 3 then
    if ¬ a0 = 4 then
      if ¬ a0 = 5 then
        if ¬ a0 = 7 then
          some (0, m0)
        else
          some (4, m0)
      else
        some (3, m0)
    else
      some (1, m0)
  else
    some (2, m0)

theorem s_M_above_0 {z : gk_Z} (K : gk_F tm z me_M_above 1) {r : Int32} {mem2 : gk_M} : ∀ a0 m0, f_M_above a0 m0 = some (r, mem2) → gk_G tm z me_M_above (gk_R tm z (some (.int r)) mem2) m0 [(0, .int a0)] [] 0 := by
  intro a0 m0  h
  unfold f_M_above at h
  refine gk_iload_n (pc := 0) K d_M_above_0 rfl ?_
  refine gk_iconst (pc := 1) K d_M_above_1 kc_3 ?_
  refine gk_ic_ne (tgt := 9) (pc := 2) K d_M_above_2 (by decide) h (fun h => ?_) (fun h => ?_)
  · refine gk_iload_n (pc := 9) K d_M_above_9 rfl ?_
    refine gk_iconst (pc := 10) K d_M_above_10 kc_4 ?_
    refine gk_ic_ne (tgt := 18) (pc := 11) K d_M_above_11 (by decide) h (fun h => ?_) (fun h => ?_)
    · refine gk_iload_n (pc := 18) K d_M_above_18 rfl ?_
      refine gk_iconst (pc := 19) K d_M_above_19 kc_5 ?_
      refine gk_ic_ne (tgt := 27) (pc := 20) K d_M_above_20 (by decide) h (fun h => ?_) (fun h => ?_)
      · refine gk_iload_n (pc := 27) K d_M_above_27 rfl ?_
        refine gk_bipush (pc := 28) K d_M_above_28 kb_7 ?_
        refine gk_ic_ne (tgt := 37) (pc := 30) K d_M_above_30 (by decide) h (fun h => ?_) (fun h => ?_)
        · refine gk_iconst (pc := 37) K d_M_above_37 kc_0 ?_
          exact gk_iret (pc := 38) K d_M_above_38 rfl h
        · refine gk_iconst (pc := 33) K d_M_above_33 kc_4 ?_
          refine gk_goto (tgt := 38) (pc := 34) K d_M_above_34 (by decide) ?_
          exact gk_iret (pc := 38) K d_M_above_38 rfl h
      · refine gk_iconst (pc := 23) K d_M_above_23 kc_3 ?_
        refine gk_goto (tgt := 38) (pc := 24) K d_M_above_24 (by decide) ?_
        exact gk_iret (pc := 38) K d_M_above_38 rfl h
    · refine gk_iconst (pc := 14) K d_M_above_14 kc_1 ?_
      refine gk_goto (tgt := 38) (pc := 15) K d_M_above_15 (by decide) ?_
      exact gk_iret (pc := 38) K d_M_above_38 rfl h
  · refine gk_iconst (pc := 5) K d_M_above_5 kc_2 ?_
    refine gk_goto (tgt := 38) (pc := 6) K d_M_above_6 (by decide) ?_
    exact gk_iret (pc := 38) K d_M_above_38 rfl h
theorem s_M_above {l : Launch} {u : gk_U} (hD : gk_D tm u) {a0 : Int32} {m0 mem2 : gk_M} {r : Int32} (h : f_M_above a0 m0 = some (r, mem2)) : gk_C tm l u me_M_above 1 [.int a0] m0 (some (.int r)) mem2 :=
  gk_enter hD mc_M_above (Nat.le_of_ble_eq_true rfl) rfl (fun z _ _ K => s_M_above_0 K _ _  h)
theorem d_M_taken_0 : decode me_M_taken.2.1 0 = .ok (.iload_n 1, 1) := by decide +kernel
theorem d_M_taken_1 : decode me_M_taken.2.1 1 = .ok (.invokestatic 127, 3) := by decide +kernel
theorem d_M_taken_4 : decode me_M_taken.2.1 4 = .ok (.ifCond .eq 15, 3) := by decide +kernel
theorem d_M_taken_7 : decode me_M_taken.2.1 7 = .ok (.iload_n 2, 1) := by decide +kernel
theorem d_M_taken_8 : decode me_M_taken.2.1 8 = .ok (.i2l, 1) := by decide +kernel
theorem d_M_taken_9 : decode me_M_taken.2.1 9 = .ok (.lconst 0, 1) := by decide +kernel
theorem d_M_taken_10 : decode me_M_taken.2.1 10 = .ok (.ldc2_w 389, 3) := by decide +kernel
theorem d_M_taken_13 : decode me_M_taken.2.1 13 = .ok (.invokestatic 102, 3) := by decide +kernel
theorem d_M_taken_16 : decode me_M_taken.2.1 16 = .ok (.ifCond .ne 5, 3) := by decide +kernel
theorem d_M_taken_19 : decode me_M_taken.2.1 19 = .ok (.iconst (-1), 1) := by decide +kernel
theorem d_M_taken_20 : decode me_M_taken.2.1 20 = .ok (.ireturn, 1) := by decide +kernel
theorem d_M_taken_21 : decode me_M_taken.2.1 21 = .ok (.aload_n 0, 1) := by decide +kernel
theorem d_M_taken_22 : decode me_M_taken.2.1 22 = .ok (.getfield 77, 3) := by decide +kernel
theorem d_M_taken_25 : decode me_M_taken.2.1 25 = .ok (.iload_n 1, 1) := by decide +kernel
theorem d_M_taken_26 : decode me_M_taken.2.1 26 = .ok (.iaload, 1) := by decide +kernel
theorem d_M_taken_27 : decode me_M_taken.2.1 27 = .ok (.ifCond .ge 6, 3) := by decide +kernel
theorem d_M_taken_30 : decode me_M_taken.2.1 30 = .ok (.bipush (-11), 2) := by decide +kernel
theorem d_M_taken_32 : decode me_M_taken.2.1 32 = .ok (.ireturn, 1) := by decide +kernel
theorem d_M_taken_33 : decode me_M_taken.2.1 33 = .ok (.aload_n 0, 1) := by decide +kernel
theorem d_M_taken_34 : decode me_M_taken.2.1 34 = .ok (.getfield 77, 3) := by decide +kernel
theorem d_M_taken_37 : decode me_M_taken.2.1 37 = .ok (.iload_n 1, 1) := by decide +kernel
theorem d_M_taken_38 : decode me_M_taken.2.1 38 = .ok (.iaload, 1) := by decide +kernel
theorem d_M_taken_39 : decode me_M_taken.2.1 39 = .ok (.bipush 50, 2) := by decide +kernel
theorem d_M_taken_41 : decode me_M_taken.2.1 41 = .ok (.if_icmp .lt 6, 3) := by decide +kernel
theorem d_M_taken_44 : decode me_M_taken.2.1 44 = .ok (.bipush (-12), 2) := by decide +kernel
theorem d_M_taken_46 : decode me_M_taken.2.1 46 = .ok (.ireturn, 1) := by decide +kernel
theorem d_M_taken_47 : decode me_M_taken.2.1 47 = .ok (.aload_n 0, 1) := by decide +kernel
theorem d_M_taken_48 : decode me_M_taken.2.1 48 = .ok (.aload_n 0, 1) := by decide +kernel
theorem d_M_taken_49 : decode me_M_taken.2.1 49 = .ok (.getfield 77, 3) := by decide +kernel
theorem d_M_taken_52 : decode me_M_taken.2.1 52 = .ok (.iload_n 1, 1) := by decide +kernel
theorem d_M_taken_53 : decode me_M_taken.2.1 53 = .ok (.iaload, 1) := by decide +kernel
theorem d_M_taken_54 : decode me_M_taken.2.1 54 = .ok (.invokevirtual 431, 3) := by decide +kernel
theorem d_M_taken_57 : decode me_M_taken.2.1 57 = .ok (.istore_n 3, 1) := by decide +kernel
theorem d_M_taken_58 : decode me_M_taken.2.1 58 = .ok (.iload_n 3, 1) := by decide +kernel
theorem d_M_taken_59 : decode me_M_taken.2.1 59 = .ok (.iload_n 2, 1) := by decide +kernel
theorem d_M_taken_60 : decode me_M_taken.2.1 60 = .ok (.if_icmp .eq 15, 3) := by decide +kernel
theorem d_M_taken_63 : decode me_M_taken.2.1 63 = .ok (.iload_n 3, 1) := by decide +kernel
theorem d_M_taken_64 : decode me_M_taken.2.1 64 = .ok (.ifCond .le 11, 3) := by decide +kernel
theorem d_M_taken_67 : decode me_M_taken.2.1 67 = .ok (.iload_n 3, 1) := by decide +kernel
theorem d_M_taken_68 : decode me_M_taken.2.1 68 = .ok (.invokestatic 434, 3) := by decide +kernel
theorem d_M_taken_71 : decode me_M_taken.2.1 71 = .ok (.istore_n 3, 1) := by decide +kernel
theorem d_M_taken_72 : decode me_M_taken.2.1 72 = .ok (.goto (-14), 3) := by decide +kernel
theorem d_M_taken_75 : decode me_M_taken.2.1 75 = .ok (.iload_n 3, 1) := by decide +kernel
theorem d_M_taken_76 : decode me_M_taken.2.1 76 = .ok (.iload_n 2, 1) := by decide +kernel
theorem d_M_taken_77 : decode me_M_taken.2.1 77 = .ok (.if_icmp .ne 16, 3) := by decide +kernel
theorem d_M_taken_80 : decode me_M_taken.2.1 80 = .ok (.aload_n 0, 1) := by decide +kernel
theorem d_M_taken_81 : decode me_M_taken.2.1 81 = .ok (.aload_n 0, 1) := by decide +kernel
theorem d_M_taken_82 : decode me_M_taken.2.1 82 = .ok (.getfield 77, 3) := by decide +kernel
theorem d_M_taken_85 : decode me_M_taken.2.1 85 = .ok (.iload_n 1, 1) := by decide +kernel
theorem d_M_taken_86 : decode me_M_taken.2.1 86 = .ok (.iaload, 1) := by decide +kernel
theorem d_M_taken_87 : decode me_M_taken.2.1 87 = .ok (.invokevirtual 431, 3) := by decide +kernel
theorem d_M_taken_90 : decode me_M_taken.2.1 90 = .ok (.goto 5, 3) := by decide +kernel
theorem d_M_taken_93 : decode me_M_taken.2.1 93 = .ok (.bipush (-12), 2) := by decide +kernel
theorem d_M_taken_95 : decode me_M_taken.2.1 95 = .ok (.ireturn, 1) := by decide +kernel
noncomputable def f_M_taken_75  (a1 : Int32) (a2 : Int32) (a3 : Int32) (m0 : gk_M) : Option (Int32 × gk_M) :=
  if ¬ a3 = a2 then
    some ((-12), m0)
  else
    gk_ai m0 23 6 a1 fun v1 =>
    gk_bi (f_M_kindOf v1 m0) fun v3 m2 =>
    some (v3, m2)

theorem s_M_taken_75 {z : gk_Z} (K : gk_F tm z me_M_taken 3) {r : Int32} {mem2 : gk_M} : ∀ a1 a2 a3 m0, f_M_taken_75 a1 a2 a3 m0 = some (r, mem2) → gk_G tm z me_M_taken (gk_R tm z (some (.int r)) mem2) m0 [(0, .ref 0), (1, .int a1), (2, .int a2), (3, .int a3)] [] 75 := by
  intro a1 a2 a3 m0  h
  unfold f_M_taken_75 at h
  refine gk_iload_n (pc := 75) K d_M_taken_75 rfl ?_
  refine gk_iload_n (pc := 76) K d_M_taken_76 rfl ?_
  refine gk_ic_ne (tgt := 93) (pc := 77) K d_M_taken_77 (by decide) h (fun h => ?_) (fun h => ?_)
  · refine gk_bipush (pc := 93) K d_M_taken_93 kb_m12 ?_
    exact gk_iret (pc := 95) K d_M_taken_95 rfl h
  · refine gk_aload_n (pc := 80) K d_M_taken_80 rfl ?_
    refine gk_aload_n (pc := 81) K d_M_taken_81 rfl ?_
    refine gk_get (pc := 82) K d_M_taken_82 fl_M_77 tm_0 rfl rfl ?_
    refine gk_iload_n (pc := 85) K d_M_taken_85 rfl ?_
    refine gk_iald (pc := 86) K d_M_taken_86 tm_23 h (fun v1 h => ?_)
    obtain ⟨v3, m2, em2, h⟩ := gk_bi_some h
    refine gk_cVi (As := [.int v1]) (pc := 87) K d_M_taken_87 mv_M_431 mc_M_kindOf rfl tm_0 cl_ok10.1 (s_M_kindOf (gk_FD K)  em2) (by decide) rfl (Nat.le_of_ble_eq_true rfl) ?_
    refine gk_goto (tgt := 95) (pc := 90) K d_M_taken_90 (by decide) ?_
    exact gk_iret (pc := 95) K d_M_taken_95 rfl h
noncomputable def f_M_taken_58  : Nat → Int32 → Int32 → Int32 → gk_M → Option (Int32 × gk_M)
  | 0, _, _, _, _ => none
  | n + 1, a1, a2, a3, m0 =>
    if a3 = a2 then
      f_M_taken_75 a1 a2 a3 m0
    else
      if a3 ≤ 0 then
        f_M_taken_75 a1 a2 a3 m0
      else
        gk_bi (f_M_above a3 m0) fun v2 m1 =>
        f_M_taken_58 n a1 a2 v2 m1

theorem s_M_taken_58 {z : gk_Z} (K : gk_F tm z me_M_taken 3) {r : Int32} {mem2 : gk_M} : ∀ n a1 a2 a3 m0, f_M_taken_58 n a1 a2 a3 m0 = some (r, mem2) → gk_G tm z me_M_taken (gk_R tm z (some (.int r)) mem2) m0 [(0, .ref 0), (1, .int a1), (2, .int a2), (3, .int a3)] [] 58 := by
  intro n
  induction n with
  | zero => intro a1 a2 a3 m0  h; exact nomatch (show (none : Option _) = some _ from h)
  | succ n ih =>
    intro a1 a2 a3 m0  h
    unfold f_M_taken_58 at h
    refine gk_iload_n (pc := 58) K d_M_taken_58 rfl ?_
    refine gk_iload_n (pc := 59) K d_M_taken_59 rfl ?_
    refine gk_ic_eq (tgt := 75) (pc := 60) K d_M_taken_60 (by decide) h (fun h => ?_) (fun h => ?_)
    · exact gk_sub [0, 1, 2, 3] rfl (s_M_taken_75 K _ _ _ _  h)
    · refine gk_iload_n (pc := 63) K d_M_taken_63 rfl ?_
      refine gk_if_le (tgt := 75) (pc := 64) K d_M_taken_64 (by decide) h (fun h => ?_) (fun h => ?_)
      · exact gk_sub [0, 1, 2, 3] rfl (s_M_taken_75 K _ _ _ _  h)
      · refine gk_iload_n (pc := 67) K d_M_taken_67 rfl ?_
        obtain ⟨v2, m1, em1, h⟩ := gk_bi_some h
        refine gk_cSi (As := [.int a3]) (pc := 68) K d_M_taken_68 ms_M_434 mc_M_above rfl (s_M_above (gk_FD K)  em1) (by decide) rfl (Nat.le_of_ble_eq_true rfl) ?_
        refine gk_istore_n (lv2 := [(3, .int v2), (0, .ref 0), (1, .int a1), (2, .int a2)]) (pc := 71) K d_M_taken_71 (by decide) rfl ?_
        refine gk_goto (tgt := 58) (pc := 72) K d_M_taken_72 (by decide) ?_
        exact gk_sub [1, 2, 3, 0] rfl (ih _ _ _ _  h)
noncomputable def f_M_taken  (a1 : Int32) (a2 : Int32) (m0 : gk_M) : Option (Int32 × gk_M) :=
  gk_bi (f_M_isShelf a1 m0) fun v2 m1 =>
  if v2 = 0 then
    some ((-1), m1)
  else
    gk_bi (f_M_within a2.toInt64 0 7 m1) fun v4 m3 =>
    if ¬ v4 = 0 then
      gk_ai m3 23 6 a1 fun v5 =>
      if 0 ≤ v5 then
        gk_ai m3 23 6 a1 fun v6 =>
        if v6 < 50 then
          gk_ai m3 23 6 a1 fun v7 =>
          gk_bi (f_M_kindOf v7 m3) fun v9 m8 =>
          f_M_taken_58 gk_fv a1 a2 v9 m8
        else
          some ((-12), m3)
      else
        some ((-11), m3)
    else
      some ((-1), m3)

theorem s_M_taken_0 {z : gk_Z} (K : gk_F tm z me_M_taken 3) {r : Int32} {mem2 : gk_M} : ∀ a1 a2 m0, f_M_taken a1 a2 m0 = some (r, mem2) → gk_G tm z me_M_taken (gk_R tm z (some (.int r)) mem2) m0 [(0, .ref 0), (1, .int a1), (2, .int a2)] [] 0 := by
  intro a1 a2 m0  h
  unfold f_M_taken at h
  refine gk_iload_n (pc := 0) K d_M_taken_0 rfl ?_
  obtain ⟨v2, m1, em1, h⟩ := gk_bi_some h
  refine gk_cSi (As := [.int a1]) (pc := 1) K d_M_taken_1 ms_M_127 mc_M_isShelf rfl (s_M_isShelf (gk_FD K)  em1) (by decide) rfl (Nat.le_of_ble_eq_true rfl) ?_
  refine gk_if_eq (tgt := 19) (pc := 4) K d_M_taken_4 (by decide) h (fun h => ?_) (fun h => ?_)
  · refine gk_iconst (pc := 19) K d_M_taken_19 kc_m1 ?_
    exact gk_iret (pc := 20) K d_M_taken_20 rfl h
  · refine gk_iload_n (pc := 7) K d_M_taken_7 rfl ?_
    refine gk_i2l (pc := 8) K d_M_taken_8 ?_
    refine gk_lconst (pc := 9) K d_M_taken_9 kl_0 ?_
    refine gk_ldc2 (pc := 10) K d_M_taken_10 lc_M_389 ?_
    obtain ⟨v4, m3, em3, h⟩ := gk_bi_some h
    refine gk_cSi (As := [.long a2.toInt64, .long 0, .long 7]) (pc := 13) K d_M_taken_13 ms_M_102 mc_M_within rfl (s_M_within (gk_FD K)  em3) (by decide) rfl (Nat.le_of_ble_eq_true rfl) ?_
    refine gk_if_ne (tgt := 21) (pc := 16) K d_M_taken_16 (by decide) h (fun h => ?_) (fun h => ?_)
    · refine gk_aload_n (pc := 21) K d_M_taken_21 rfl ?_
      refine gk_get (pc := 22) K d_M_taken_22 fl_M_77 tm_0 rfl rfl ?_
      refine gk_iload_n (pc := 25) K d_M_taken_25 rfl ?_
      refine gk_iald (pc := 26) K d_M_taken_26 tm_23 h (fun v5 h => ?_)
      refine gk_if_ge (tgt := 33) (pc := 27) K d_M_taken_27 (by decide) h (fun h => ?_) (fun h => ?_)
      · refine gk_aload_n (pc := 33) K d_M_taken_33 rfl ?_
        refine gk_get (pc := 34) K d_M_taken_34 fl_M_77 tm_0 rfl rfl ?_
        refine gk_iload_n (pc := 37) K d_M_taken_37 rfl ?_
        refine gk_iald (pc := 38) K d_M_taken_38 tm_23 h (fun v6 h => ?_)
        refine gk_bipush (pc := 39) K d_M_taken_39 kb_50 ?_
        refine gk_ic_lt (tgt := 47) (pc := 41) K d_M_taken_41 (by decide) h (fun h => ?_) (fun h => ?_)
        · refine gk_aload_n (pc := 47) K d_M_taken_47 rfl ?_
          refine gk_aload_n (pc := 48) K d_M_taken_48 rfl ?_
          refine gk_get (pc := 49) K d_M_taken_49 fl_M_77 tm_0 rfl rfl ?_
          refine gk_iload_n (pc := 52) K d_M_taken_52 rfl ?_
          refine gk_iald (pc := 53) K d_M_taken_53 tm_23 h (fun v7 h => ?_)
          obtain ⟨v9, m8, em8, h⟩ := gk_bi_some h
          refine gk_cVi (As := [.int v7]) (pc := 54) K d_M_taken_54 mv_M_431 mc_M_kindOf rfl tm_0 cl_ok10.1 (s_M_kindOf (gk_FD K)  em8) (by decide) rfl (Nat.le_of_ble_eq_true rfl) ?_
          refine gk_istore_n (lv2 := [(3, .int v9), (0, .ref 0), (1, .int a1), (2, .int a2)]) (pc := 57) K d_M_taken_57 (by decide) rfl ?_
          exact gk_sub [1, 2, 3, 0] rfl (s_M_taken_58 K _ _ _ _ _  h)
        · refine gk_bipush (pc := 44) K d_M_taken_44 kb_m12 ?_
          exact gk_iret (pc := 46) K d_M_taken_46 rfl h
      · refine gk_bipush (pc := 30) K d_M_taken_30 kb_m11 ?_
        exact gk_iret (pc := 32) K d_M_taken_32 rfl h
    · refine gk_iconst (pc := 19) K d_M_taken_19 kc_m1 ?_
      exact gk_iret (pc := 20) K d_M_taken_20 rfl h
theorem s_M_taken {l : Launch} {u : gk_U} (hD : gk_D tm u) {a1 : Int32} {a2 : Int32} {m0 mem2 : gk_M} {r : Int32} (h : f_M_taken a1 a2 m0 = some (r, mem2)) : gk_C tm l u me_M_taken 3 [.ref 0, .int a1, .int a2] m0 (some (.int r)) mem2 :=
  gk_enter hD mc_M_taken (Nat.le_of_ble_eq_true rfl) rfl (fun z _ _ K => s_M_taken_0 K _ _ _  h)
theorem d_M_count_0 : decode me_M_count.2.1 0 = .ok (.iload_n 1, 1) := by decide +kernel
theorem d_M_count_1 : decode me_M_count.2.1 1 = .ok (.tableswitch 87 0 7 #[47, 52, 57, 62, 67, 72, 77, 82], 47) := by decide +kernel
theorem d_M_count_48 : decode me_M_count.2.1 48 = .ok (.aload_n 0, 1) := by decide +kernel
theorem d_M_count_49 : decode me_M_count.2.1 49 = .ok (.getfield 106, 3) := by decide +kernel
theorem d_M_count_52 : decode me_M_count.2.1 52 = .ok (.ireturn, 1) := by decide +kernel
theorem d_M_count_53 : decode me_M_count.2.1 53 = .ok (.aload_n 0, 1) := by decide +kernel
theorem d_M_count_54 : decode me_M_count.2.1 54 = .ok (.getfield 109, 3) := by decide +kernel
theorem d_M_count_57 : decode me_M_count.2.1 57 = .ok (.ireturn, 1) := by decide +kernel
theorem d_M_count_58 : decode me_M_count.2.1 58 = .ok (.aload_n 0, 1) := by decide +kernel
theorem d_M_count_59 : decode me_M_count.2.1 59 = .ok (.getfield 139, 3) := by decide +kernel
theorem d_M_count_62 : decode me_M_count.2.1 62 = .ok (.ireturn, 1) := by decide +kernel
theorem d_M_count_63 : decode me_M_count.2.1 63 = .ok (.aload_n 0, 1) := by decide +kernel
theorem d_M_count_64 : decode me_M_count.2.1 64 = .ok (.getfield 379, 3) := by decide +kernel
theorem d_M_count_67 : decode me_M_count.2.1 67 = .ok (.ireturn, 1) := by decide +kernel
theorem d_M_count_68 : decode me_M_count.2.1 68 = .ok (.aload_n 0, 1) := by decide +kernel
theorem d_M_count_69 : decode me_M_count.2.1 69 = .ok (.getfield 157, 3) := by decide +kernel
theorem d_M_count_72 : decode me_M_count.2.1 72 = .ok (.ireturn, 1) := by decide +kernel
theorem d_M_count_73 : decode me_M_count.2.1 73 = .ok (.aload_n 0, 1) := by decide +kernel
theorem d_M_count_74 : decode me_M_count.2.1 74 = .ok (.getfield 94, 3) := by decide +kernel
theorem d_M_count_77 : decode me_M_count.2.1 77 = .ok (.ireturn, 1) := by decide +kernel
theorem d_M_count_78 : decode me_M_count.2.1 78 = .ok (.aload_n 0, 1) := by decide +kernel
theorem d_M_count_79 : decode me_M_count.2.1 79 = .ok (.getfield 386, 3) := by decide +kernel
theorem d_M_count_82 : decode me_M_count.2.1 82 = .ok (.ireturn, 1) := by decide +kernel
theorem d_M_count_83 : decode me_M_count.2.1 83 = .ok (.aload_n 0, 1) := by decide +kernel
theorem d_M_count_84 : decode me_M_count.2.1 84 = .ok (.getfield 391, 3) := by decide +kernel
theorem d_M_count_87 : decode me_M_count.2.1 87 = .ok (.ireturn, 1) := by decide +kernel
theorem d_M_count_88 : decode me_M_count.2.1 88 = .ok (.iconst (-1), 1) := by decide +kernel
theorem d_M_count_89 : decode me_M_count.2.1 89 = .ok (.ireturn, 1) := by decide +kernel
noncomputable def f_M_count  (a1 : Int32) (m0 : gk_M) : Option (Int32 × gk_M) :=
  if a1 = 0 then
    some ((m0.1 0 6), m0)
  else
    if a1 = 1 then
      some ((m0.1 0 10), m0)
    else
      if a1 = 2 then
        some ((m0.1 0 13), m0)
      else
        if a1 = 3 then
          some ((m0.1 0 36), m0)
        else
          if a1 = 4 then
            some ((m0.1 0 16), m0)
          else
            if a1 = 5 then
              some ((m0.1 0 5), m0)
            else
              if a1 = 6 then
                some ((m0.1 0 39), m0)
              else
                if a1 = 7 then
                  some ((m0.1 0 42), m0)
                else
                  some ((-1), m0)

theorem s_M_count_0 {z : gk_Z} (K : gk_F tm z me_M_count 1) {r : Int32} {mem2 : gk_M} : ∀ a1 m0, f_M_count a1 m0 = some (r, mem2) → gk_G tm z me_M_count (gk_R tm z (some (.int r)) mem2) m0 [(0, .ref 0), (1, .int a1)] [] 0 := by
  intro a1 m0  h
  unfold f_M_count at h
  refine gk_iload_n (pc := 0) K d_M_count_0 rfl ?_
  refine gk_ite (c := a1 = 0) h (fun c1 h => ?_) (fun c1 h => ?_)
  · refine gk_tIn (tgt := 48) (pc := 1) K d_M_count_1 c1 (by decide) (by decide) rfl (by decide) ?_
    refine gk_aload_n (pc := 48) K d_M_count_48 rfl ?_
    refine gk_get (pc := 49) K d_M_count_49 fl_M_106 tm_0 rfl rfl ?_
    exact gk_iret (pc := 52) K d_M_count_52 rfl h
  · skip
    refine gk_ite (c := a1 = 1) h (fun c2 h => ?_) (fun c2 h => ?_)
    · refine gk_tIn (tgt := 53) (pc := 1) K d_M_count_1 c2 (by decide) (by decide) rfl (by decide) ?_
      refine gk_aload_n (pc := 53) K d_M_count_53 rfl ?_
      refine gk_get (pc := 54) K d_M_count_54 fl_M_109 tm_0 rfl rfl ?_
      exact gk_iret (pc := 57) K d_M_count_57 rfl h
    · skip
      refine gk_ite (c := a1 = 2) h (fun c3 h => ?_) (fun c3 h => ?_)
      · refine gk_tIn (tgt := 58) (pc := 1) K d_M_count_1 c3 (by decide) (by decide) rfl (by decide) ?_
        refine gk_aload_n (pc := 58) K d_M_count_58 rfl ?_
        refine gk_get (pc := 59) K d_M_count_59 fl_M_139 tm_0 rfl rfl ?_
        exact gk_iret (pc := 62) K d_M_count_62 rfl h
      · skip
        refine gk_ite (c := a1 = 3) h (fun c4 h => ?_) (fun c4 h => ?_)
        · refine gk_tIn (tgt := 63) (pc := 1) K d_M_count_1 c4 (by decide) (by decide) rfl (by decide) ?_
          refine gk_aload_n (pc := 63) K d_M_count_63 rfl ?_
          refine gk_get (pc := 64) K d_M_count_64 fl_M_379 tm_0 rfl rfl ?_
          exact gk_iret (pc := 67) K d_M_count_67 rfl h
        · skip
          refine gk_ite (c := a1 = 4) h (fun c5 h => ?_) (fun c5 h => ?_)
          · refine gk_tIn (tgt := 68) (pc := 1) K d_M_count_1 c5 (by decide) (by decide) rfl (by decide) ?_
            refine gk_aload_n (pc := 68) K d_M_count_68 rfl ?_
            refine gk_get (pc := 69) K d_M_count_69 fl_M_157 tm_0 rfl rfl ?_
            exact gk_iret (pc := 72) K d_M_count_72 rfl h
          · skip
            refine gk_ite (c := a1 = 5) h (fun c6 h => ?_) (fun c6 h => ?_)
            · refine gk_tIn (tgt := 73) (pc := 1) K d_M_count_1 c6 (by decide) (by decide) rfl (by decide) ?_
              refine gk_aload_n (pc := 73) K d_M_count_73 rfl ?_
              refine gk_get (pc := 74) K d_M_count_74 fl_M_94 tm_0 rfl rfl ?_
              exact gk_iret (pc := 77) K d_M_count_77 rfl h
            · skip
              refine gk_ite (c := a1 = 6) h (fun c7 h => ?_) (fun c7 h => ?_)
              · refine gk_tIn (tgt := 78) (pc := 1) K d_M_count_1 c7 (by decide) (by decide) rfl (by decide) ?_
                refine gk_aload_n (pc := 78) K d_M_count_78 rfl ?_
                refine gk_get (pc := 79) K d_M_count_79 fl_M_386 tm_0 rfl rfl ?_
                exact gk_iret (pc := 82) K d_M_count_82 rfl h
              · skip
                refine gk_ite (c := a1 = 7) h (fun c8 h => ?_) (fun c8 h => ?_)
                · refine gk_tIn (tgt := 83) (pc := 1) K d_M_count_1 c8 (by decide) (by decide) rfl (by decide) ?_
                  refine gk_aload_n (pc := 83) K d_M_count_83 rfl ?_
                  refine gk_get (pc := 84) K d_M_count_84 fl_M_391 tm_0 rfl rfl ?_
                  exact gk_iret (pc := 87) K d_M_count_87 rfl h
                · skip
                  have gc1 := gk_neq c1 (a := 0) (by decide)
                  have gc2 := gk_neq c2 (a := 1) (by decide)
                  have gc3 := gk_neq c3 (a := 2) (by decide)
                  have gc4 := gk_neq c4 (a := 3) (by decide)
                  have gc5 := gk_neq c5 (a := 4) (by decide)
                  have gc6 := gk_neq c6 (a := 5) (by decide)
                  have gc7 := gk_neq c7 (a := 6) (by decide)
                  have gc8 := gk_neq c8 (a := 7) (by decide)
                  refine gk_tOut (tgt := 88) (pc := 1) K d_M_count_1 (by omega) (by decide) ?_
                  refine gk_iconst (pc := 88) K d_M_count_88 kc_m1 ?_
                  exact gk_iret (pc := 89) K d_M_count_89 rfl h
theorem s_M_count {l : Launch} {u : gk_U} (hD : gk_D tm u) {a1 : Int32} {m0 mem2 : gk_M} {r : Int32} (h : f_M_count a1 m0 = some (r, mem2)) : gk_C tm l u me_M_count 1 [.ref 0, .int a1] m0 (some (.int r)) mem2 :=
  gk_enter hD mc_M_count (Nat.le_of_ble_eq_true rfl) rfl (fun z _ _ K => s_M_count_0 K _ _  h)
