theorem d_Planner_settle_0 : decode me_Planner_settle.2.1 0 = .ok (.aload_n 0, 1) := by decide +kernel
theorem d_Planner_settle_1 : decode me_Planner_settle.2.1 1 = .ok (.getfield 25, 3) := by decide +kernel
theorem d_Planner_settle_4 : decode me_Planner_settle.2.1 4 = .ok (.getfield 29, 3) := by decide +kernel
theorem d_Planner_settle_7 : decode me_Planner_settle.2.1 7 = .ok (.istore_n 3, 1) := by decide +kernel
theorem d_Planner_settle_8 : decode me_Planner_settle.2.1 8 = .ok (.bipush (-2), 2) := by decide +kernel
theorem d_Planner_settle_10 : decode me_Planner_settle.2.1 10 = .ok (.istore 4, 2) := by decide +kernel
theorem d_Planner_settle_12 : decode me_Planner_settle.2.1 12 = .ok (.iconst 1, 1) := by decide +kernel
theorem d_Planner_settle_13 : decode me_Planner_settle.2.1 13 = .ok (.istore 5, 2) := by decide +kernel
theorem d_Planner_settle_15 : decode me_Planner_settle.2.1 15 = .ok (.iload_n 3, 1) := by decide +kernel
theorem d_Planner_settle_16 : decode me_Planner_settle.2.1 16 = .ok (.istore 6, 2) := by decide +kernel
theorem d_Planner_settle_18 : decode me_Planner_settle.2.1 18 = .ok (.iload 6, 2) := by decide +kernel
theorem d_Planner_settle_20 : decode me_Planner_settle.2.1 20 = .ok (.bipush 10, 2) := by decide +kernel
theorem d_Planner_settle_22 : decode me_Planner_settle.2.1 22 = .ok (.if_icmp .ge 92, 3) := by decide +kernel
theorem d_Planner_settle_25 : decode me_Planner_settle.2.1 25 = .ok (.iload 5, 2) := by decide +kernel
theorem d_Planner_settle_27 : decode me_Planner_settle.2.1 27 = .ok (.ifCond .eq 87, 3) := by decide +kernel
theorem d_Planner_settle_30 : decode me_Planner_settle.2.1 30 = .ok (.aload_n 0, 1) := by decide +kernel
theorem d_Planner_settle_31 : decode me_Planner_settle.2.1 31 = .ok (.getfield 25, 3) := by decide +kernel
theorem d_Planner_settle_34 : decode me_Planner_settle.2.1 34 = .ok (.iload 6, 2) := by decide +kernel
theorem d_Planner_settle_36 : decode me_Planner_settle.2.1 36 = .ok (.iload_n 1, 1) := by decide +kernel
theorem d_Planner_settle_37 : decode me_Planner_settle.2.1 37 = .ok (.invokevirtual 34, 3) := by decide +kernel
theorem d_Planner_settle_40 : decode me_Planner_settle.2.1 40 = .ok (.iconst 0, 1) := by decide +kernel
theorem d_Planner_settle_41 : decode me_Planner_settle.2.1 41 = .ok (.istore 7, 2) := by decide +kernel
theorem d_Planner_settle_43 : decode me_Planner_settle.2.1 43 = .ok (.iload 7, 2) := by decide +kernel
theorem d_Planner_settle_45 : decode me_Planner_settle.2.1 45 = .ok (.sipush 900, 3) := by decide +kernel
theorem d_Planner_settle_48 : decode me_Planner_settle.2.1 48 = .ok (.if_icmp .ge 23, 3) := by decide +kernel
theorem d_Planner_settle_51 : decode me_Planner_settle.2.1 51 = .ok (.aload_n 0, 1) := by decide +kernel
theorem d_Planner_settle_52 : decode me_Planner_settle.2.1 52 = .ok (.getfield 25, 3) := by decide +kernel
theorem d_Planner_settle_55 : decode me_Planner_settle.2.1 55 = .ok (.iload 6, 2) := by decide +kernel
theorem d_Planner_settle_57 : decode me_Planner_settle.2.1 57 = .ok (.iload 7, 2) := by decide +kernel
theorem d_Planner_settle_59 : decode me_Planner_settle.2.1 59 = .ok (.invokevirtual 38, 3) := by decide +kernel
theorem d_Planner_settle_62 : decode me_Planner_settle.2.1 62 = .ok (.ifCond .ne 9, 3) := by decide +kernel
theorem d_Planner_settle_65 : decode me_Planner_settle.2.1 65 = .ok (.iinc 7 1, 3) := by decide +kernel
theorem d_Planner_settle_68 : decode me_Planner_settle.2.1 68 = .ok (.goto (-25), 3) := by decide +kernel
theorem d_Planner_settle_71 : decode me_Planner_settle.2.1 71 = .ok (.iload 7, 2) := by decide +kernel
theorem d_Planner_settle_73 : decode me_Planner_settle.2.1 73 = .ok (.sipush 900, 3) := by decide +kernel
theorem d_Planner_settle_76 : decode me_Planner_settle.2.1 76 = .ok (.if_icmp .ge 7, 3) := by decide +kernel
theorem d_Planner_settle_79 : decode me_Planner_settle.2.1 79 = .ok (.iconst 1, 1) := by decide +kernel
theorem d_Planner_settle_80 : decode me_Planner_settle.2.1 80 = .ok (.goto 4, 3) := by decide +kernel
theorem d_Planner_settle_83 : decode me_Planner_settle.2.1 83 = .ok (.iconst 0, 1) := by decide +kernel
theorem d_Planner_settle_84 : decode me_Planner_settle.2.1 84 = .ok (.istore 5, 2) := by decide +kernel
theorem d_Planner_settle_86 : decode me_Planner_settle.2.1 86 = .ok (.iload 5, 2) := by decide +kernel
theorem d_Planner_settle_88 : decode me_Planner_settle.2.1 88 = .ok (.ifCond .eq 20, 3) := by decide +kernel
theorem d_Planner_settle_91 : decode me_Planner_settle.2.1 91 = .ok (.iload 7, 2) := by decide +kernel
theorem d_Planner_settle_93 : decode me_Planner_settle.2.1 93 = .ok (.istore 4, 2) := by decide +kernel
theorem d_Planner_settle_95 : decode me_Planner_settle.2.1 95 = .ok (.aload_n 0, 1) := by decide +kernel
theorem d_Planner_settle_96 : decode me_Planner_settle.2.1 96 = .ok (.getfield 25, 3) := by decide +kernel
theorem d_Planner_settle_99 : decode me_Planner_settle.2.1 99 = .ok (.dup, 1) := by decide +kernel
theorem d_Planner_settle_100 : decode me_Planner_settle.2.1 100 = .ok (.getfield 29, 3) := by decide +kernel
theorem d_Planner_settle_103 : decode me_Planner_settle.2.1 103 = .ok (.iconst 1, 1) := by decide +kernel
theorem d_Planner_settle_104 : decode me_Planner_settle.2.1 104 = .ok (.iadd, 1) := by decide +kernel
theorem d_Planner_settle_105 : decode me_Planner_settle.2.1 105 = .ok (.putfield 29, 3) := by decide +kernel
theorem d_Planner_settle_108 : decode me_Planner_settle.2.1 108 = .ok (.iinc 6 1, 3) := by decide +kernel
theorem d_Planner_settle_111 : decode me_Planner_settle.2.1 111 = .ok (.goto (-93), 3) := by decide +kernel
theorem d_Planner_settle_114 : decode me_Planner_settle.2.1 114 = .ok (.aload_n 0, 1) := by decide +kernel
theorem d_Planner_settle_115 : decode me_Planner_settle.2.1 115 = .ok (.getfield 25, 3) := by decide +kernel
theorem d_Planner_settle_118 : decode me_Planner_settle.2.1 118 = .ok (.getfield 29, 3) := by decide +kernel
theorem d_Planner_settle_121 : decode me_Planner_settle.2.1 121 = .ok (.iload_n 3, 1) := by decide +kernel
theorem d_Planner_settle_122 : decode me_Planner_settle.2.1 122 = .ok (.isub, 1) := by decide +kernel
theorem d_Planner_settle_123 : decode me_Planner_settle.2.1 123 = .ok (.istore 6, 2) := by decide +kernel
theorem d_Planner_settle_125 : decode me_Planner_settle.2.1 125 = .ok (.aload_n 0, 1) := by decide +kernel
theorem d_Planner_settle_126 : decode me_Planner_settle.2.1 126 = .ok (.getfield 25, 3) := by decide +kernel
theorem d_Planner_settle_129 : decode me_Planner_settle.2.1 129 = .ok (.iload_n 3, 1) := by decide +kernel
theorem d_Planner_settle_130 : decode me_Planner_settle.2.1 130 = .ok (.putfield 29, 3) := by decide +kernel
theorem d_Planner_settle_133 : decode me_Planner_settle.2.1 133 = .ok (.iload_n 2, 1) := by decide +kernel
theorem d_Planner_settle_134 : decode me_Planner_settle.2.1 134 = .ok (.ifCond .eq 8, 3) := by decide +kernel
theorem d_Planner_settle_137 : decode me_Planner_settle.2.1 137 = .ok (.iload 4, 2) := by decide +kernel
theorem d_Planner_settle_139 : decode me_Planner_settle.2.1 139 = .ok (.goto 5, 3) := by decide +kernel
theorem d_Planner_settle_142 : decode me_Planner_settle.2.1 142 = .ok (.iload 6, 2) := by decide +kernel
theorem d_Planner_settle_144 : decode me_Planner_settle.2.1 144 = .ok (.ireturn, 1) := by decide +kernel
noncomputable def f_Planner_settle_114  (a2 : Int32) (a3 : Int32) (a4 : Int32) (m0 : gk_M) : Option (Int32 × gk_M) :=
  gk_let ((m0.1 7 5) - a3) fun v1 =>
  gk_let (gk_mi m0 7 5 a3) fun m2 =>
  if a2 = 0 then
    some (v1, m2)
  else
    some (a4, m2)

theorem s_Planner_settle_114 {z : gk_Z} (K : gk_F tx z me_Planner_settle 7) {r : Int32} {mem2 : gk_M} : ∀ a2 a3 a4 m0, f_Planner_settle_114 a2 a3 a4 m0 = some (r, mem2) → gk_G tx z me_Planner_settle (gk_R tx z (some (.int r)) mem2) m0 [(0, .ref 21), (2, .int a2), (3, .int a3), (4, .int a4)] [] 114 := by
  intro a2 a3 a4 m0  h
  unfold f_Planner_settle_114 at h
  refine gk_aload_n (pc := 114) K d_Planner_settle_114 rfl ?_
  refine gk_get (pc := 115) K d_Planner_settle_115 fl_Planner_25 tx_21 rfl rfl ?_
  refine gk_get (pc := 118) K d_Planner_settle_118 fl_Planner_29 tx_7 rfl rfl ?_
  refine gk_iload_n (pc := 121) K d_Planner_settle_121 rfl ?_
  refine gk_isub (pc := 122) K d_Planner_settle_122 ?_
  refine gk_topi h (fun v1 h => ?_)
  refine gk_istore (lv2 := [(6, .int v1), (0, .ref 21), (2, .int a2), (3, .int a3), (4, .int a4)]) (pc := 123) K d_Planner_settle_123 (by decide) rfl ?_
  refine gk_aload_n (pc := 125) K d_Planner_settle_125 rfl ?_
  refine gk_get (pc := 126) K d_Planner_settle_126 fl_Planner_25 tx_21 rfl rfl ?_
  refine gk_iload_n (pc := 129) K d_Planner_settle_129 rfl ?_
  refine gk_puti (pc := 130) K d_Planner_settle_130 fp_Planner_29 tx_7 rfl h (fun m2 h => ?_)
  refine gk_iload_n (pc := 133) K d_Planner_settle_133 rfl ?_
  refine gk_if_eq (tgt := 142) (pc := 134) K d_Planner_settle_134 (by decide) h (fun h => ?_) (fun h => ?_)
  · refine gk_iload (pc := 142) K d_Planner_settle_142 rfl ?_
    exact gk_iret (pc := 144) K d_Planner_settle_144 rfl h
  · refine gk_iload (pc := 137) K d_Planner_settle_137 rfl ?_
    refine gk_goto (tgt := 144) (pc := 139) K d_Planner_settle_139 (by decide) ?_
    exact gk_iret (pc := 144) K d_Planner_settle_144 rfl h
noncomputable def f_Planner_settle_84 (k18 : Int32 → Int32 → Int32 → Int32 → Int32 → Int32 → gk_M → Option (Int32 × gk_M)) (a1 : Int32) (a2 : Int32) (a3 : Int32) (a4 : Int32) (a6 : Int32) (a7 : Int32) (s0 : Int32) (m0 : gk_M) : Option (Int32 × gk_M) :=
  if s0 = 0 then
    k18 a1 a2 a3 a4 s0 (a6 + 1) m0
  else
    gk_let (gk_mi m0 7 5 ((m0.1 7 5) + 1)) fun m1 =>
    k18 a1 a2 a3 a7 s0 (a6 + 1) m1

theorem s_Planner_settle_84 {z : gk_Z} (K : gk_F tx z me_Planner_settle 7) {r : Int32} {mem2 : gk_M} {k18 : Int32 → Int32 → Int32 → Int32 → Int32 → Int32 → gk_M → Option (Int32 × gk_M)} (hk18 : ∀ a1 a2 a3 a4 a5 a6 m0, k18 a1 a2 a3 a4 a5 a6 m0 = some (r, mem2) → gk_G tx z me_Planner_settle (gk_R tx z (some (.int r)) mem2) m0 [(0, .ref 21), (1, .int a1), (2, .int a2), (3, .int a3), (4, .int a4), (5, .int a5), (6, .int a6)] [] 18) : ∀ a1 a2 a3 a4 a6 a7 s0 m0, f_Planner_settle_84 k18 a1 a2 a3 a4 a6 a7 s0 m0 = some (r, mem2) → gk_G tx z me_Planner_settle (gk_R tx z (some (.int r)) mem2) m0 [(0, .ref 21), (1, .int a1), (2, .int a2), (3, .int a3), (4, .int a4), (6, .int a6), (7, .int a7)] [.int s0] 84 := by
  intro a1 a2 a3 a4 a6 a7 s0 m0  h
  unfold f_Planner_settle_84 at h
  refine gk_istore (lv2 := [(5, .int s0), (0, .ref 21), (1, .int a1), (2, .int a2), (3, .int a3), (4, .int a4), (6, .int a6), (7, .int a7)]) (pc := 84) K d_Planner_settle_84 (by decide) rfl ?_
  refine gk_iload (pc := 86) K d_Planner_settle_86 rfl ?_
  refine gk_if_eq (tgt := 108) (pc := 88) K d_Planner_settle_88 (by decide) h (fun h => ?_) (fun h => ?_)
  · refine gk_iinc2 (lv2 := [(6, .int (a6 + 1)), (5, .int s0), (0, .ref 21), (1, .int a1), (2, .int a2), (3, .int a3), (4, .int a4), (7, .int a7)]) (pc := 108) K d_Planner_settle_108 rfl kc_1 (by decide) rfl ?_
    refine gk_goto (tgt := 18) (pc := 111) K d_Planner_settle_111 (by decide) ?_
    exact gk_sub [2, 3, 4, 5, 6, 1, 0] rfl (hk18 _ _ _ _ _ _ _  h)
  · refine gk_iload (pc := 91) K d_Planner_settle_91 rfl ?_
    refine gk_istore (lv2 := [(4, .int a7), (5, .int s0), (0, .ref 21), (1, .int a1), (2, .int a2), (3, .int a3), (6, .int a6), (7, .int a7)]) (pc := 93) K d_Planner_settle_93 (by decide) rfl ?_
    refine gk_aload_n (pc := 95) K d_Planner_settle_95 rfl ?_
    refine gk_get (pc := 96) K d_Planner_settle_96 fl_Planner_25 tx_21 rfl rfl ?_
    refine gk_dup (pc := 99) K d_Planner_settle_99 rfl ?_
    refine gk_get (pc := 100) K d_Planner_settle_100 fl_Planner_29 tx_7 rfl rfl ?_
    refine gk_iconst (pc := 103) K d_Planner_settle_103 kc_1 ?_
    refine gk_iadd (pc := 104) K d_Planner_settle_104 ?_
    refine gk_puti (pc := 105) K d_Planner_settle_105 fp_Planner_29 tx_7 rfl h (fun m1 h => ?_)
    refine gk_iinc2 (lv2 := [(6, .int (a6 + 1)), (4, .int a7), (5, .int s0), (0, .ref 21), (1, .int a1), (2, .int a2), (3, .int a3), (7, .int a7)]) (pc := 108) K d_Planner_settle_108 rfl kc_1 (by decide) rfl ?_
    refine gk_goto (tgt := 18) (pc := 111) K d_Planner_settle_111 (by decide) ?_
    exact gk_sub [3, 4, 5, 6, 1, 2, 0] rfl (hk18 _ _ _ _ _ _ _  h)
noncomputable def f_Planner_settle_71 (k18 : Int32 → Int32 → Int32 → Int32 → Int32 → Int32 → gk_M → Option (Int32 × gk_M)) (a1 : Int32) (a2 : Int32) (a3 : Int32) (a4 : Int32) (a6 : Int32) (a7 : Int32) (m0 : gk_M) : Option (Int32 × gk_M) :=
  if 900 ≤ a7 then
    f_Planner_settle_84 k18 a1 a2 a3 a4 a6 a7 0 m0
  else
    f_Planner_settle_84 k18 a1 a2 a3 a4 a6 a7 1 m0

theorem s_Planner_settle_71 {z : gk_Z} (K : gk_F tx z me_Planner_settle 7) {r : Int32} {mem2 : gk_M} {k18 : Int32 → Int32 → Int32 → Int32 → Int32 → Int32 → gk_M → Option (Int32 × gk_M)} (hk18 : ∀ a1 a2 a3 a4 a5 a6 m0, k18 a1 a2 a3 a4 a5 a6 m0 = some (r, mem2) → gk_G tx z me_Planner_settle (gk_R tx z (some (.int r)) mem2) m0 [(0, .ref 21), (1, .int a1), (2, .int a2), (3, .int a3), (4, .int a4), (5, .int a5), (6, .int a6)] [] 18) : ∀ a1 a2 a3 a4 a6 a7 m0, f_Planner_settle_71 k18 a1 a2 a3 a4 a6 a7 m0 = some (r, mem2) → gk_G tx z me_Planner_settle (gk_R tx z (some (.int r)) mem2) m0 [(0, .ref 21), (1, .int a1), (2, .int a2), (3, .int a3), (4, .int a4), (6, .int a6), (7, .int a7)] [] 71 := by
  intro a1 a2 a3 a4 a6 a7 m0  h
  unfold f_Planner_settle_71 at h
  refine gk_iload (pc := 71) K d_Planner_settle_71 rfl ?_
  refine gk_sipush (pc := 73) K d_Planner_settle_73 ks_900 ?_
  refine gk_ic_ge (tgt := 83) (pc := 76) K d_Planner_settle_76 (by decide) h (fun h => ?_) (fun h => ?_)
  · refine gk_iconst (pc := 83) K d_Planner_settle_83 kc_0 ?_
    exact gk_sub [0, 1, 2, 3, 4, 5, 6] rfl (s_Planner_settle_84 K hk18 _ _ _ _ _ _ _ _  h)
  · refine gk_iconst (pc := 79) K d_Planner_settle_79 kc_1 ?_
    refine gk_goto (tgt := 84) (pc := 80) K d_Planner_settle_80 (by decide) ?_
    exact gk_sub [0, 1, 2, 3, 4, 5, 6] rfl (s_Planner_settle_84 K hk18 _ _ _ _ _ _ _ _  h)
noncomputable def f_Planner_settle_43 (k18 : Int32 → Int32 → Int32 → Int32 → Int32 → Int32 → gk_M → Option (Int32 × gk_M)) : Nat → Int32 → Int32 → Int32 → Int32 → Int32 → Int32 → gk_M → Option (Int32 × gk_M)
  | 0, _, _, _, _, _, _, _ => none
  | n + 1, a1, a2, a3, a4, a6, a7, m0 =>
    if 900 ≤ a7 then
      f_Planner_settle_71 k18 a1 a2 a3 a4 a6 a7 m0
    else
      gk_bi (f_Plain_isFreeFor a6 a7 m0) fun v2 m1 =>
      if ¬ v2 = 0 then
        f_Planner_settle_71 k18 a1 a2 a3 a4 a6 a7 m1
      else
        f_Planner_settle_43 k18 n a1 a2 a3 a4 a6 (a7 + 1) m1

theorem s_Planner_settle_43 {z : gk_Z} (K : gk_F tx z me_Planner_settle 7) {r : Int32} {mem2 : gk_M} {k18 : Int32 → Int32 → Int32 → Int32 → Int32 → Int32 → gk_M → Option (Int32 × gk_M)} (hk18 : ∀ a1 a2 a3 a4 a5 a6 m0, k18 a1 a2 a3 a4 a5 a6 m0 = some (r, mem2) → gk_G tx z me_Planner_settle (gk_R tx z (some (.int r)) mem2) m0 [(0, .ref 21), (1, .int a1), (2, .int a2), (3, .int a3), (4, .int a4), (5, .int a5), (6, .int a6)] [] 18) : ∀ n a1 a2 a3 a4 a6 a7 m0, f_Planner_settle_43 k18 n a1 a2 a3 a4 a6 a7 m0 = some (r, mem2) → gk_G tx z me_Planner_settle (gk_R tx z (some (.int r)) mem2) m0 [(0, .ref 21), (1, .int a1), (2, .int a2), (3, .int a3), (4, .int a4), (6, .int a6), (7, .int a7)] [] 43 := by
  intro n
  induction n with
  | zero => intro a1 a2 a3 a4 a6 a7 m0  h; exact nomatch (show (none : Option _) = some _ from h)
  | succ n ih =>
    intro a1 a2 a3 a4 a6 a7 m0  h
    unfold f_Planner_settle_43 at h
    refine gk_iload (pc := 43) K d_Planner_settle_43 rfl ?_
    refine gk_sipush (pc := 45) K d_Planner_settle_45 ks_900 ?_
    refine gk_ic_ge (tgt := 71) (pc := 48) K d_Planner_settle_48 (by decide) h (fun h => ?_) (fun h => ?_)
    · exact gk_sub [0, 1, 2, 3, 4, 5, 6] rfl (s_Planner_settle_71 K hk18 _ _ _ _ _ _ _  h)
    · refine gk_aload_n (pc := 51) K d_Planner_settle_51 rfl ?_
      refine gk_get (pc := 52) K d_Planner_settle_52 fl_Planner_25 tx_21 rfl rfl ?_
      refine gk_iload (pc := 55) K d_Planner_settle_55 rfl ?_
      refine gk_iload (pc := 57) K d_Planner_settle_57 rfl ?_
      obtain ⟨v2, m1, em1, h⟩ := gk_bi_some h
      refine gk_cVi (As := [.int a6, .int a7]) (pc := 59) K d_Planner_settle_59 mv_Planner_38 mc_Plain_isFreeFor rfl tx_7 cl_ok2.1 (s_Plain_isFreeFor (gk_FD K)  em1) (by decide) rfl (Nat.le_of_ble_eq_true rfl) ?_
      refine gk_if_ne (tgt := 71) (pc := 62) K d_Planner_settle_62 (by decide) h (fun h => ?_) (fun h => ?_)
      · exact gk_sub [0, 1, 2, 3, 4, 5, 6] rfl (s_Planner_settle_71 K hk18 _ _ _ _ _ _ _  h)
      · refine gk_iinc2 (lv2 := [(7, .int (a7 + 1)), (0, .ref 21), (1, .int a1), (2, .int a2), (3, .int a3), (4, .int a4), (6, .int a6)]) (pc := 65) K d_Planner_settle_65 rfl kc_1 (by decide) rfl ?_
        refine gk_goto (tgt := 43) (pc := 68) K d_Planner_settle_68 (by decide) ?_
        exact gk_sub [1, 2, 3, 4, 5, 6, 0] rfl (ih _ _ _ _ _ _ _  h)
noncomputable def f_Planner_settle_18  : Nat → Int32 → Int32 → Int32 → Int32 → Int32 → Int32 → gk_M → Option (Int32 × gk_M)
  | 0, _, _, _, _, _, _, _ => none
  | n + 1, a1, a2, a3, a4, a5, a6, m0 =>
    if 10 ≤ a6 then
      f_Planner_settle_114 a2 a3 a4 m0
    else
      if a5 = 0 then
        f_Planner_settle_114 a2 a3 a4 m0
      else
        gk_bv (f_Plain_think a6 a1 m0) fun m1 =>
        f_Planner_settle_43 (f_Planner_settle_18 n) gk_fv a1 a2 a3 a4 a6 0 m1

theorem s_Planner_settle_18 {z : gk_Z} (K : gk_F tx z me_Planner_settle 7) {r : Int32} {mem2 : gk_M} : ∀ n a1 a2 a3 a4 a5 a6 m0, f_Planner_settle_18 n a1 a2 a3 a4 a5 a6 m0 = some (r, mem2) → gk_G tx z me_Planner_settle (gk_R tx z (some (.int r)) mem2) m0 [(0, .ref 21), (1, .int a1), (2, .int a2), (3, .int a3), (4, .int a4), (5, .int a5), (6, .int a6)] [] 18 := by
  intro n
  induction n with
  | zero => intro a1 a2 a3 a4 a5 a6 m0  h; exact nomatch (show (none : Option _) = some _ from h)
  | succ n ih =>
    intro a1 a2 a3 a4 a5 a6 m0  h
    unfold f_Planner_settle_18 at h
    refine gk_iload (pc := 18) K d_Planner_settle_18 rfl ?_
    refine gk_bipush (pc := 20) K d_Planner_settle_20 kb_10 ?_
    refine gk_ic_ge (tgt := 114) (pc := 22) K d_Planner_settle_22 (by decide) h (fun h => ?_) (fun h => ?_)
    · exact gk_sub [0, 2, 3, 4] rfl (s_Planner_settle_114 K _ _ _ _  h)
    · refine gk_iload (pc := 25) K d_Planner_settle_25 rfl ?_
      refine gk_if_eq (tgt := 114) (pc := 27) K d_Planner_settle_27 (by decide) h (fun h => ?_) (fun h => ?_)
      · exact gk_sub [0, 2, 3, 4] rfl (s_Planner_settle_114 K _ _ _ _  h)
      · refine gk_aload_n (pc := 30) K d_Planner_settle_30 rfl ?_
        refine gk_get (pc := 31) K d_Planner_settle_31 fl_Planner_25 tx_21 rfl rfl ?_
        refine gk_iload (pc := 34) K d_Planner_settle_34 rfl ?_
        refine gk_iload_n (pc := 36) K d_Planner_settle_36 rfl ?_
        obtain ⟨m1, em1, h⟩ := gk_bv_some h
        refine gk_cVv (As := [.int a6, .int a1]) (pc := 37) K d_Planner_settle_37 mv_Planner_34 mc_Plain_think rfl tx_7 cl_ok2.1 (s_Plain_think (gk_FD K)  em1) (by decide) rfl (Nat.le_of_ble_eq_true rfl) ?_
        refine gk_iconst (pc := 40) K d_Planner_settle_40 kc_0 ?_
        refine gk_istore (lv2 := [(7, .int 0), (0, .ref 21), (1, .int a1), (2, .int a2), (3, .int a3), (4, .int a4), (5, .int a5), (6, .int a6)]) (pc := 41) K d_Planner_settle_41 (by decide) rfl ?_
        exact gk_sub [1, 2, 3, 4, 5, 7, 0] rfl (s_Planner_settle_43 K (fun x0 x1 x2 x3 x4 x5 m  h => ih x0 x1 x2 x3 x4 x5 m  h) _ _ _ _ _ _ _ _  h)
noncomputable def f_Planner_settle  (a1 : Int32) (a2 : Int32) (m0 : gk_M) : Option (Int32 × gk_M) :=
  gk_let (m0.1 7 5) fun v1 =>
  f_Planner_settle_18 gk_fv a1 a2 v1 (-2) 1 v1 m0

theorem s_Planner_settle_0 {z : gk_Z} (K : gk_F tx z me_Planner_settle 7) {r : Int32} {mem2 : gk_M} : ∀ a1 a2 m0, f_Planner_settle a1 a2 m0 = some (r, mem2) → gk_G tx z me_Planner_settle (gk_R tx z (some (.int r)) mem2) m0 [(0, .ref 21), (1, .int a1), (2, .int a2)] [] 0 := by
  intro a1 a2 m0  h
  unfold f_Planner_settle at h
  refine gk_aload_n (pc := 0) K d_Planner_settle_0 rfl ?_
  refine gk_get (pc := 1) K d_Planner_settle_1 fl_Planner_25 tx_21 rfl rfl ?_
  refine gk_get (pc := 4) K d_Planner_settle_4 fl_Planner_29 tx_7 rfl rfl ?_
  refine gk_topi h (fun v1 h => ?_)
  refine gk_istore_n (lv2 := [(3, .int v1), (0, .ref 21), (1, .int a1), (2, .int a2)]) (pc := 7) K d_Planner_settle_7 (by decide) rfl ?_
  refine gk_bipush (pc := 8) K d_Planner_settle_8 kb_m2 ?_
  refine gk_istore (lv2 := [(4, .int (-2)), (3, .int v1), (0, .ref 21), (1, .int a1), (2, .int a2)]) (pc := 10) K d_Planner_settle_10 (by decide) rfl ?_
  refine gk_iconst (pc := 12) K d_Planner_settle_12 kc_1 ?_
  refine gk_istore (lv2 := [(5, .int 1), (4, .int (-2)), (3, .int v1), (0, .ref 21), (1, .int a1), (2, .int a2)]) (pc := 13) K d_Planner_settle_13 (by decide) rfl ?_
  refine gk_iload_n (pc := 15) K d_Planner_settle_15 rfl ?_
  refine gk_istore (lv2 := [(6, .int v1), (5, .int 1), (4, .int (-2)), (3, .int v1), (0, .ref 21), (1, .int a1), (2, .int a2)]) (pc := 16) K d_Planner_settle_16 (by decide) rfl ?_
  exact gk_sub [4, 5, 6, 3, 2, 1, 0] rfl (s_Planner_settle_18 K _ _ _ _ _ _ _ _  h)
theorem s_Planner_settle {l : Launch} {u : gk_U} (hD : gk_D tx u) {a1 : Int32} {a2 : Int32} {m0 mem2 : gk_M} {r : Int32} (h : f_Planner_settle a1 a2 m0 = some (r, mem2)) : gk_C tx l u me_Planner_settle 7 [.ref 21, .int a1, .int a2] m0 (some (.int r)) mem2 :=
  gk_enter hD mc_Planner_settle (Nat.le_of_ble_eq_true rfl) rfl (fun z _ _ K => s_Planner_settle_0 K _ _ _  h)
theorem d_X_years_0 : decode me_X_years.2.1 0 = .ok (.iload_n 1, 1) := by decide +kernel
theorem d_X_years_1 : decode me_X_years.2.1 1 = .ok (.invokestatic 211, 3) := by decide +kernel
theorem d_X_years_4 : decode me_X_years.2.1 4 = .ok (.ifCond .eq 11, 3) := by decide +kernel
theorem d_X_years_7 : decode me_X_years.2.1 7 = .ok (.iload_n 2, 1) := by decide +kernel
theorem d_X_years_8 : decode me_X_years.2.1 8 = .ok (.iconst 1, 1) := by decide +kernel
theorem d_X_years_9 : decode me_X_years.2.1 9 = .ok (.invokestatic 180, 3) := by decide +kernel
theorem d_X_years_12 : decode me_X_years.2.1 12 = .ok (.ifCond .ne 5, 3) := by decide +kernel
theorem d_X_years_15 : decode me_X_years.2.1 15 = .ok (.iconst (-1), 1) := by decide +kernel
theorem d_X_years_16 : decode me_X_years.2.1 16 = .ok (.ireturn, 1) := by decide +kernel
theorem d_X_years_17 : decode me_X_years.2.1 17 = .ok (.aload_n 0, 1) := by decide +kernel
theorem d_X_years_18 : decode me_X_years.2.1 18 = .ok (.getfield 37, 3) := by decide +kernel
theorem d_X_years_21 : decode me_X_years.2.1 21 = .ok (.iload_n 1, 1) := by decide +kernel
theorem d_X_years_22 : decode me_X_years.2.1 22 = .ok (.iload_n 2, 1) := by decide +kernel
theorem d_X_years_23 : decode me_X_years.2.1 23 = .ok (.iconst 1, 1) := by decide +kernel
theorem d_X_years_24 : decode me_X_years.2.1 24 = .ok (.if_icmp .ne 7, 3) := by decide +kernel
theorem d_X_years_27 : decode me_X_years.2.1 27 = .ok (.iconst 1, 1) := by decide +kernel
theorem d_X_years_28 : decode me_X_years.2.1 28 = .ok (.goto 4, 3) := by decide +kernel
theorem d_X_years_31 : decode me_X_years.2.1 31 = .ok (.iconst 0, 1) := by decide +kernel
theorem d_X_years_32 : decode me_X_years.2.1 32 = .ok (.invokevirtual 221, 3) := by decide +kernel
theorem d_X_years_35 : decode me_X_years.2.1 35 = .ok (.ireturn, 1) := by decide +kernel
noncomputable def f_X_years_32  (s1 : Int32) (s2 : Int32) (m0 : gk_M) : Option (Int32 × gk_M) :=
  gk_bi (f_Planner_settle s1 s2 m0) fun v2 m1 =>
  some (v2, m1)

theorem s_X_years_32 {z : gk_Z} (K : gk_F tx z me_X_years 8) {r : Int32} {mem2 : gk_M} : ∀ s1 s2 m0, f_X_years_32 s1 s2 m0 = some (r, mem2) → gk_G tx z me_X_years (gk_R tx z (some (.int r)) mem2) m0 [] [.int s2, .int s1, .ref 21] 32 := by
  intro s1 s2 m0  h
  unfold f_X_years_32 at h
  obtain ⟨v2, m1, em1, h⟩ := gk_bi_some h
  refine gk_cVi (As := [.int s1, .int s2]) (pc := 32) K d_X_years_32 mv_X_221 mc_Planner_settle rfl tx_21 cl_ok3.1 (s_Planner_settle (gk_FD K)  em1) (by decide) rfl (Nat.le_of_ble_eq_true rfl) ?_
  exact gk_iret (pc := 35) K d_X_years_35 rfl h
noncomputable def f_X_years  (a1 : Int32) (a2 : Int32) (m0 : gk_M) : Option (Int32 × gk_M) :=
  gk_bi (f_X_isHeight a1 m0) fun v2 m1 =>
  if v2 = 0 then
    some ((-1), m1)
  else
    gk_bi (f_X_isChoice a2 1 m1) fun v4 m3 =>
    if ¬ v4 = 0 then
      if ¬ a2 = 1 then
        f_X_years_32 a1 0 m3
      else
        f_X_years_32 a1 1 m3
    else
      some ((-1), m3)

theorem s_X_years_0 {z : gk_Z} (K : gk_F tx z me_X_years 8) {r : Int32} {mem2 : gk_M} : ∀ a1 a2 m0, f_X_years a1 a2 m0 = some (r, mem2) → gk_G tx z me_X_years (gk_R tx z (some (.int r)) mem2) m0 [(0, .ref 0), (1, .int a1), (2, .int a2)] [] 0 := by
  intro a1 a2 m0  h
  unfold f_X_years at h
  refine gk_iload_n (pc := 0) K d_X_years_0 rfl ?_
  obtain ⟨v2, m1, em1, h⟩ := gk_bi_some h
  refine gk_cSi (As := [.int a1]) (pc := 1) K d_X_years_1 ms_X_211 mc_X_isHeight rfl (s_X_isHeight (gk_FD K)  em1) (by decide) rfl (Nat.le_of_ble_eq_true rfl) ?_
  refine gk_if_eq (tgt := 15) (pc := 4) K d_X_years_4 (by decide) h (fun h => ?_) (fun h => ?_)
  · refine gk_iconst (pc := 15) K d_X_years_15 kc_m1 ?_
    exact gk_iret (pc := 16) K d_X_years_16 rfl h
  · refine gk_iload_n (pc := 7) K d_X_years_7 rfl ?_
    refine gk_iconst (pc := 8) K d_X_years_8 kc_1 ?_
    obtain ⟨v4, m3, em3, h⟩ := gk_bi_some h
    refine gk_cSi (As := [.int a2, .int 1]) (pc := 9) K d_X_years_9 ms_X_180 mc_X_isChoice rfl (s_X_isChoice (gk_FD K)  em3) (by decide) rfl (Nat.le_of_ble_eq_true rfl) ?_
    refine gk_if_ne (tgt := 17) (pc := 12) K d_X_years_12 (by decide) h (fun h => ?_) (fun h => ?_)
    · refine gk_aload_n (pc := 17) K d_X_years_17 rfl ?_
      refine gk_get (pc := 18) K d_X_years_18 fl_X_37 tx_0 rfl rfl ?_
      refine gk_iload_n (pc := 21) K d_X_years_21 rfl ?_
      refine gk_iload_n (pc := 22) K d_X_years_22 rfl ?_
      refine gk_iconst (pc := 23) K d_X_years_23 kc_1 ?_
      refine gk_ic_ne (tgt := 31) (pc := 24) K d_X_years_24 (by decide) h (fun h => ?_) (fun h => ?_)
      · refine gk_iconst (pc := 31) K d_X_years_31 kc_0 ?_
        exact gk_sub [] rfl (s_X_years_32 K _ _ _  h)
      · refine gk_iconst (pc := 27) K d_X_years_27 kc_1 ?_
        refine gk_goto (tgt := 32) (pc := 28) K d_X_years_28 (by decide) ?_
        exact gk_sub [] rfl (s_X_years_32 K _ _ _  h)
    · refine gk_iconst (pc := 15) K d_X_years_15 kc_m1 ?_
      exact gk_iret (pc := 16) K d_X_years_16 rfl h
theorem s_X_years {l : Launch} {u : gk_U} (hD : gk_D tx u) {a1 : Int32} {a2 : Int32} {m0 mem2 : gk_M} {r : Int32} (h : f_X_years a1 a2 m0 = some (r, mem2)) : gk_C tx l u me_X_years 8 [.ref 0, .int a1, .int a2] m0 (some (.int r)) mem2 :=
  gk_enter hD mc_X_years (Nat.le_of_ble_eq_true rfl) rfl (fun z _ _ K => s_X_years_0 K _ _ _  h)
theorem d_Planner_findQuarrels_0 : decode me_Planner_findQuarrels.2.1 0 = .ok (.aload_n 0, 1) := by decide +kernel
theorem d_Planner_findQuarrels_1 : decode me_Planner_findQuarrels.2.1 1 = .ok (.getfield 9, 3) := by decide +kernel
theorem d_Planner_findQuarrels_4 : decode me_Planner_findQuarrels.2.1 4 = .ok (.iconst 0, 1) := by decide +kernel
theorem d_Planner_findQuarrels_5 : decode me_Planner_findQuarrels.2.1 5 = .ok (.invokestatic 56, 3) := by decide +kernel
theorem d_Planner_findQuarrels_8 : decode me_Planner_findQuarrels.2.1 8 = .ok (.iconst 0, 1) := by decide +kernel
theorem d_Planner_findQuarrels_9 : decode me_Planner_findQuarrels.2.1 9 = .ok (.istore_n 1, 1) := by decide +kernel
theorem d_Planner_findQuarrels_10 : decode me_Planner_findQuarrels.2.1 10 = .ok (.iload_n 1, 1) := by decide +kernel
theorem d_Planner_findQuarrels_11 : decode me_Planner_findQuarrels.2.1 11 = .ok (.aload_n 0, 1) := by decide +kernel
theorem d_Planner_findQuarrels_12 : decode me_Planner_findQuarrels.2.1 12 = .ok (.getfield 25, 3) := by decide +kernel
theorem d_Planner_findQuarrels_15 : decode me_Planner_findQuarrels.2.1 15 = .ok (.getfield 29, 3) := by decide +kernel
theorem d_Planner_findQuarrels_18 : decode me_Planner_findQuarrels.2.1 18 = .ok (.if_icmp .ge 54, 3) := by decide +kernel
theorem d_Planner_findQuarrels_21 : decode me_Planner_findQuarrels.2.1 21 = .ok (.iload_n 1, 1) := by decide +kernel
theorem d_Planner_findQuarrels_22 : decode me_Planner_findQuarrels.2.1 22 = .ok (.iconst 1, 1) := by decide +kernel
theorem d_Planner_findQuarrels_23 : decode me_Planner_findQuarrels.2.1 23 = .ok (.iadd, 1) := by decide +kernel
theorem d_Planner_findQuarrels_24 : decode me_Planner_findQuarrels.2.1 24 = .ok (.istore_n 2, 1) := by decide +kernel
theorem d_Planner_findQuarrels_25 : decode me_Planner_findQuarrels.2.1 25 = .ok (.iload_n 2, 1) := by decide +kernel
theorem d_Planner_findQuarrels_26 : decode me_Planner_findQuarrels.2.1 26 = .ok (.aload_n 0, 1) := by decide +kernel
theorem d_Planner_findQuarrels_27 : decode me_Planner_findQuarrels.2.1 27 = .ok (.getfield 25, 3) := by decide +kernel
theorem d_Planner_findQuarrels_30 : decode me_Planner_findQuarrels.2.1 30 = .ok (.getfield 29, 3) := by decide +kernel
theorem d_Planner_findQuarrels_33 : decode me_Planner_findQuarrels.2.1 33 = .ok (.if_icmp .ge 33, 3) := by decide +kernel
theorem d_Planner_findQuarrels_36 : decode me_Planner_findQuarrels.2.1 36 = .ok (.aload_n 0, 1) := by decide +kernel
theorem d_Planner_findQuarrels_37 : decode me_Planner_findQuarrels.2.1 37 = .ok (.getfield 25, 3) := by decide +kernel
theorem d_Planner_findQuarrels_40 : decode me_Planner_findQuarrels.2.1 40 = .ok (.iload_n 1, 1) := by decide +kernel
theorem d_Planner_findQuarrels_41 : decode me_Planner_findQuarrels.2.1 41 = .ok (.iload_n 2, 1) := by decide +kernel
theorem d_Planner_findQuarrels_42 : decode me_Planner_findQuarrels.2.1 42 = .ok (.invokevirtual 62, 3) := by decide +kernel
theorem d_Planner_findQuarrels_45 : decode me_Planner_findQuarrels.2.1 45 = .ok (.ifCond .le 15, 3) := by decide +kernel
theorem d_Planner_findQuarrels_48 : decode me_Planner_findQuarrels.2.1 48 = .ok (.aload_n 0, 1) := by decide +kernel
theorem d_Planner_findQuarrels_49 : decode me_Planner_findQuarrels.2.1 49 = .ok (.getfield 9, 3) := by decide +kernel
theorem d_Planner_findQuarrels_52 : decode me_Planner_findQuarrels.2.1 52 = .ok (.iload_n 1, 1) := by decide +kernel
theorem d_Planner_findQuarrels_53 : decode me_Planner_findQuarrels.2.1 53 = .ok (.dup2, 1) := by decide +kernel
theorem d_Planner_findQuarrels_54 : decode me_Planner_findQuarrels.2.1 54 = .ok (.iaload, 1) := by decide +kernel
theorem d_Planner_findQuarrels_55 : decode me_Planner_findQuarrels.2.1 55 = .ok (.iconst 1, 1) := by decide +kernel
theorem d_Planner_findQuarrels_56 : decode me_Planner_findQuarrels.2.1 56 = .ok (.iload_n 2, 1) := by decide +kernel
theorem d_Planner_findQuarrels_57 : decode me_Planner_findQuarrels.2.1 57 = .ok (.ishl, 1) := by decide +kernel
theorem d_Planner_findQuarrels_58 : decode me_Planner_findQuarrels.2.1 58 = .ok (.ior, 1) := by decide +kernel
theorem d_Planner_findQuarrels_59 : decode me_Planner_findQuarrels.2.1 59 = .ok (.iastore, 1) := by decide +kernel
theorem d_Planner_findQuarrels_60 : decode me_Planner_findQuarrels.2.1 60 = .ok (.iinc 2 1, 3) := by decide +kernel
theorem d_Planner_findQuarrels_63 : decode me_Planner_findQuarrels.2.1 63 = .ok (.goto (-38), 3) := by decide +kernel
theorem d_Planner_findQuarrels_66 : decode me_Planner_findQuarrels.2.1 66 = .ok (.iinc 1 1, 3) := by decide +kernel
theorem d_Planner_findQuarrels_69 : decode me_Planner_findQuarrels.2.1 69 = .ok (.goto (-59), 3) := by decide +kernel
theorem d_Planner_findQuarrels_72 : decode me_Planner_findQuarrels.2.1 72 = .ok (.return_, 1) := by decide +kernel
noncomputable def f_Planner_findQuarrels_25 (k10 : Int32 → gk_M → Option (Unit × gk_M)) : Nat → Int32 → Int32 → gk_M → Option (Unit × gk_M)
  | 0, _, _, _ => none
  | n + 1, a1, a2, m0 =>
    if (m0.1 7 5) ≤ a2 then
      k10 (a1 + 1) m0
    else
      gk_bi (f_Plain_guiltsOfPair a1 a2 m0) fun v2 m1 =>
      if v2 ≤ 0 then
        f_Planner_findQuarrels_25 k10 n a1 (a2 + 1) m1
      else
        gk_ai m1 22 10 a1 fun v3 =>
        gk_si m1 22 10 a1 (v3 ||| (1 <<< (a2 &&& 31))) fun m4 =>
        f_Planner_findQuarrels_25 k10 n a1 (a2 + 1) m4

theorem s_Planner_findQuarrels_25 {z : gk_Z} (K : gk_F tx z me_Planner_findQuarrels 7) {r : Unit} {mem2 : gk_M} {k10 : Int32 → gk_M → Option (Unit × gk_M)} (hk10 : ∀ a1 m0, k10 a1 m0 = some (r, mem2) → gk_G tx z me_Planner_findQuarrels (gk_R tx z none mem2) m0 [(0, .ref 21), (1, .int a1)] [] 10) : ∀ n a1 a2 m0, f_Planner_findQuarrels_25 k10 n a1 a2 m0 = some (r, mem2) → gk_G tx z me_Planner_findQuarrels (gk_R tx z none mem2) m0 [(0, .ref 21), (1, .int a1), (2, .int a2)] [] 25 := by
  intro n
  induction n with
  | zero => intro a1 a2 m0  h; exact nomatch (show (none : Option _) = some _ from h)
  | succ n ih =>
    intro a1 a2 m0  h
    unfold f_Planner_findQuarrels_25 at h
    refine gk_iload_n (pc := 25) K d_Planner_findQuarrels_25 rfl ?_
    refine gk_aload_n (pc := 26) K d_Planner_findQuarrels_26 rfl ?_
    refine gk_get (pc := 27) K d_Planner_findQuarrels_27 fl_Planner_25 tx_21 rfl rfl ?_
    refine gk_get (pc := 30) K d_Planner_findQuarrels_30 fl_Planner_29 tx_7 rfl rfl ?_
    refine gk_ic_ge (tgt := 66) (pc := 33) K d_Planner_findQuarrels_33 (by decide) h (fun h => ?_) (fun h => ?_)
    · refine gk_iinc2 (lv2 := [(1, .int (a1 + 1)), (0, .ref 21), (2, .int a2)]) (pc := 66) K d_Planner_findQuarrels_66 rfl kc_1 (by decide) rfl ?_
      refine gk_goto (tgt := 10) (pc := 69) K d_Planner_findQuarrels_69 (by decide) ?_
      exact gk_sub [1, 0] rfl (hk10 _ _  h)
    · refine gk_aload_n (pc := 36) K d_Planner_findQuarrels_36 rfl ?_
      refine gk_get (pc := 37) K d_Planner_findQuarrels_37 fl_Planner_25 tx_21 rfl rfl ?_
      refine gk_iload_n (pc := 40) K d_Planner_findQuarrels_40 rfl ?_
      refine gk_iload_n (pc := 41) K d_Planner_findQuarrels_41 rfl ?_
      obtain ⟨v2, m1, em1, h⟩ := gk_bi_some h
      refine gk_cVi (As := [.int a1, .int a2]) (pc := 42) K d_Planner_findQuarrels_42 mv_Planner_62 mc_Plain_guiltsOfPair rfl tx_7 cl_ok2.1 (s_Plain_guiltsOfPair (gk_FD K)  em1) (by decide) rfl (Nat.le_of_ble_eq_true rfl) ?_
      refine gk_if_le (tgt := 60) (pc := 45) K d_Planner_findQuarrels_45 (by decide) h (fun h => ?_) (fun h => ?_)
      · refine gk_iinc2 (lv2 := [(2, .int (a2 + 1)), (0, .ref 21), (1, .int a1)]) (pc := 60) K d_Planner_findQuarrels_60 rfl kc_1 (by decide) rfl ?_
        refine gk_goto (tgt := 25) (pc := 63) K d_Planner_findQuarrels_63 (by decide) ?_
        exact gk_sub [1, 2, 0] rfl (ih _ _ _  h)
      · refine gk_aload_n (pc := 48) K d_Planner_findQuarrels_48 rfl ?_
        refine gk_get (pc := 49) K d_Planner_findQuarrels_49 fl_Planner_9 tx_21 rfl rfl ?_
        refine gk_iload_n (pc := 52) K d_Planner_findQuarrels_52 rfl ?_
        refine gk_dup2 (pc := 53) K d_Planner_findQuarrels_53 rfl rfl ?_
        refine gk_iald (pc := 54) K d_Planner_findQuarrels_54 tx_22 h (fun v3 h => ?_)
        refine gk_iconst (pc := 55) K d_Planner_findQuarrels_55 kc_1 ?_
        refine gk_iload_n (pc := 56) K d_Planner_findQuarrels_56 rfl ?_
        refine gk_ishl (pc := 57) K d_Planner_findQuarrels_57 ?_
        refine gk_ior (pc := 58) K d_Planner_findQuarrels_58 ?_
        refine gk_iast (pc := 59) K d_Planner_findQuarrels_59 tx_22 h (fun m4 h => ?_)
        refine gk_iinc2 (lv2 := [(2, .int (a2 + 1)), (0, .ref 21), (1, .int a1)]) (pc := 60) K d_Planner_findQuarrels_60 rfl kc_1 (by decide) rfl ?_
        refine gk_goto (tgt := 25) (pc := 63) K d_Planner_findQuarrels_63 (by decide) ?_
        exact gk_sub [1, 2, 0] rfl (ih _ _ _  h)
noncomputable def f_Planner_findQuarrels_10  : Nat → Int32 → gk_M → Option (Unit × gk_M)
  | 0, _, _ => none
  | n + 1, a1, m0 =>
    if (m0.1 7 5) ≤ a1 then
      some ((), m0)
    else
      gk_let (a1 + 1) fun v1 =>
      f_Planner_findQuarrels_25 (f_Planner_findQuarrels_10 n) gk_fv a1 v1 m0

theorem s_Planner_findQuarrels_10 {z : gk_Z} (K : gk_F tx z me_Planner_findQuarrels 7) {r : Unit} {mem2 : gk_M} : ∀ n a1 m0, f_Planner_findQuarrels_10 n a1 m0 = some (r, mem2) → gk_G tx z me_Planner_findQuarrels (gk_R tx z none mem2) m0 [(0, .ref 21), (1, .int a1)] [] 10 := by
  intro n
  induction n with
  | zero => intro a1 m0  h; exact nomatch (show (none : Option _) = some _ from h)
  | succ n ih =>
    intro a1 m0  h
    unfold f_Planner_findQuarrels_10 at h
    refine gk_iload_n (pc := 10) K d_Planner_findQuarrels_10 rfl ?_
    refine gk_aload_n (pc := 11) K d_Planner_findQuarrels_11 rfl ?_
    refine gk_get (pc := 12) K d_Planner_findQuarrels_12 fl_Planner_25 tx_21 rfl rfl ?_
    refine gk_get (pc := 15) K d_Planner_findQuarrels_15 fl_Planner_29 tx_7 rfl rfl ?_
    refine gk_ic_ge (tgt := 72) (pc := 18) K d_Planner_findQuarrels_18 (by decide) h (fun h => ?_) (fun h => ?_)
    · exact gk_vret (pc := 72) K d_Planner_findQuarrels_72 rfl h
    · refine gk_iload_n (pc := 21) K d_Planner_findQuarrels_21 rfl ?_
      refine gk_iconst (pc := 22) K d_Planner_findQuarrels_22 kc_1 ?_
      refine gk_iadd (pc := 23) K d_Planner_findQuarrels_23 ?_
      refine gk_topi h (fun v1 h => ?_)
      refine gk_istore_n (lv2 := [(2, .int v1), (0, .ref 21), (1, .int a1)]) (pc := 24) K d_Planner_findQuarrels_24 (by decide) rfl ?_
      exact gk_sub [1, 2, 0] rfl (s_Planner_findQuarrels_25 K (fun x0 m  h => ih x0 m  h) _ _ _ _  h)
noncomputable def f_Planner_findQuarrels   (m0 : gk_M) : Option (Unit × gk_M) :=
  gk_bv (f_Arrays_fillI 22 10 0 m0) fun m1 =>
  f_Planner_findQuarrels_10 gk_fv 0 m1

theorem s_Planner_findQuarrels_0 {z : gk_Z} (K : gk_F tx z me_Planner_findQuarrels 7) {r : Unit} {mem2 : gk_M} : ∀  m0, f_Planner_findQuarrels  m0 = some (r, mem2) → gk_G tx z me_Planner_findQuarrels (gk_R tx z none mem2) m0 [(0, .ref 21)] [] 0 := by
  intro  m0  h
  unfold f_Planner_findQuarrels at h
  refine gk_aload_n (pc := 0) K d_Planner_findQuarrels_0 rfl ?_
  refine gk_get (pc := 1) K d_Planner_findQuarrels_1 fl_Planner_9 tx_21 rfl rfl ?_
  refine gk_iconst (pc := 4) K d_Planner_findQuarrels_4 kc_0 ?_
  obtain ⟨m1, em1, h⟩ := gk_bv_some h
  refine gk_cSv (As := [.ref 22, .int 0]) (pc := 5) K d_Planner_findQuarrels_5 ms_Planner_56 mc_Arrays_fillI rfl (s_Arrays_fillI (gk_FD K) tx_22 em1) (by decide) rfl (Nat.le_of_ble_eq_true rfl) ?_
  refine gk_iconst (pc := 8) K d_Planner_findQuarrels_8 kc_0 ?_
  refine gk_istore_n (lv2 := [(1, .int 0), (0, .ref 21)]) (pc := 9) K d_Planner_findQuarrels_9 (by decide) rfl ?_
  exact gk_sub [1, 0] rfl (s_Planner_findQuarrels_10 K _ _ _  h)
theorem s_Planner_findQuarrels {l : Launch} {u : gk_U} (hD : gk_D tx u) {m0 mem2 : gk_M} {r : Unit} (h : f_Planner_findQuarrels  m0 = some (r, mem2)) : gk_C tx l u me_Planner_findQuarrels 7 [.ref 21] m0 none mem2 :=
  gk_enter hD mc_Planner_findQuarrels (Nat.le_of_ble_eq_true rfl) rfl (fun z _ _ K => s_Planner_findQuarrels_0 K  _  h)
theorem d_Planner_priceOf_0 : decode me_Planner_priceOf.2.1 0 = .ok (.iconst 0, 1) := by decide +kernel
theorem d_Planner_priceOf_1 : decode me_Planner_priceOf.2.1 1 = .ok (.istore_n 2, 1) := by decide +kernel
theorem d_Planner_priceOf_2 : decode me_Planner_priceOf.2.1 2 = .ok (.iconst 0, 1) := by decide +kernel
theorem d_Planner_priceOf_3 : decode me_Planner_priceOf.2.1 3 = .ok (.istore_n 3, 1) := by decide +kernel
theorem d_Planner_priceOf_4 : decode me_Planner_priceOf.2.1 4 = .ok (.iload_n 3, 1) := by decide +kernel
theorem d_Planner_priceOf_5 : decode me_Planner_priceOf.2.1 5 = .ok (.aload_n 0, 1) := by decide +kernel
theorem d_Planner_priceOf_6 : decode me_Planner_priceOf.2.1 6 = .ok (.getfield 25, 3) := by decide +kernel
theorem d_Planner_priceOf_9 : decode me_Planner_priceOf.2.1 9 = .ok (.getfield 29, 3) := by decide +kernel
theorem d_Planner_priceOf_12 : decode me_Planner_priceOf.2.1 12 = .ok (.if_icmp .ge 29, 3) := by decide +kernel
theorem d_Planner_priceOf_15 : decode me_Planner_priceOf.2.1 15 = .ok (.iload_n 1, 1) := by decide +kernel
theorem d_Planner_priceOf_16 : decode me_Planner_priceOf.2.1 16 = .ok (.iload_n 3, 1) := by decide +kernel
theorem d_Planner_priceOf_17 : decode me_Planner_priceOf.2.1 17 = .ok (.ishr, 1) := by decide +kernel
theorem d_Planner_priceOf_18 : decode me_Planner_priceOf.2.1 18 = .ok (.iconst 1, 1) := by decide +kernel
theorem d_Planner_priceOf_19 : decode me_Planner_priceOf.2.1 19 = .ok (.iand, 1) := by decide +kernel
theorem d_Planner_priceOf_20 : decode me_Planner_priceOf.2.1 20 = .ok (.ifCond .eq 15, 3) := by decide +kernel
theorem d_Planner_priceOf_23 : decode me_Planner_priceOf.2.1 23 = .ok (.iload_n 2, 1) := by decide +kernel
theorem d_Planner_priceOf_24 : decode me_Planner_priceOf.2.1 24 = .ok (.aload_n 0, 1) := by decide +kernel
theorem d_Planner_priceOf_25 : decode me_Planner_priceOf.2.1 25 = .ok (.getfield 25, 3) := by decide +kernel
theorem d_Planner_priceOf_28 : decode me_Planner_priceOf.2.1 28 = .ok (.getfield 66, 3) := by decide +kernel
theorem d_Planner_priceOf_31 : decode me_Planner_priceOf.2.1 31 = .ok (.iload_n 3, 1) := by decide +kernel
theorem d_Planner_priceOf_32 : decode me_Planner_priceOf.2.1 32 = .ok (.iaload, 1) := by decide +kernel
theorem d_Planner_priceOf_33 : decode me_Planner_priceOf.2.1 33 = .ok (.iadd, 1) := by decide +kernel
theorem d_Planner_priceOf_34 : decode me_Planner_priceOf.2.1 34 = .ok (.istore_n 2, 1) := by decide +kernel
theorem d_Planner_priceOf_35 : decode me_Planner_priceOf.2.1 35 = .ok (.iinc 3 1, 3) := by decide +kernel
theorem d_Planner_priceOf_38 : decode me_Planner_priceOf.2.1 38 = .ok (.goto (-34), 3) := by decide +kernel
theorem d_Planner_priceOf_41 : decode me_Planner_priceOf.2.1 41 = .ok (.iload_n 2, 1) := by decide +kernel
theorem d_Planner_priceOf_42 : decode me_Planner_priceOf.2.1 42 = .ok (.ireturn, 1) := by decide +kernel
noncomputable def f_Planner_priceOf_4  : Nat → Int32 → Int32 → Int32 → gk_M → Option (Int32 × gk_M)
  | 0, _, _, _, _ => none
  | n + 1, a1, a2, a3, m0 =>
    if (m0.1 7 5) ≤ a3 then
      some (a2, m0)
    else
      if ((a1 >>> (a3 &&& 31)) &&& 1) = 0 then
        f_Planner_priceOf_4 n a1 a2 (a3 + 1) m0
      else
        gk_ai m0 11 12 a3 fun v1 =>
        gk_let (a2 + v1) fun v2 =>
        f_Planner_priceOf_4 n a1 v2 (a3 + 1) m0

theorem s_Planner_priceOf_4 {z : gk_Z} (K : gk_F tx z me_Planner_priceOf 1) {r : Int32} {mem2 : gk_M} : ∀ n a1 a2 a3 m0, f_Planner_priceOf_4 n a1 a2 a3 m0 = some (r, mem2) → gk_G tx z me_Planner_priceOf (gk_R tx z (some (.int r)) mem2) m0 [(0, .ref 21), (1, .int a1), (2, .int a2), (3, .int a3)] [] 4 := by
  intro n
  induction n with
  | zero => intro a1 a2 a3 m0  h; exact nomatch (show (none : Option _) = some _ from h)
  | succ n ih =>
    intro a1 a2 a3 m0  h
    unfold f_Planner_priceOf_4 at h
    refine gk_iload_n (pc := 4) K d_Planner_priceOf_4 rfl ?_
    refine gk_aload_n (pc := 5) K d_Planner_priceOf_5 rfl ?_
    refine gk_get (pc := 6) K d_Planner_priceOf_6 fl_Planner_25 tx_21 rfl rfl ?_
    refine gk_get (pc := 9) K d_Planner_priceOf_9 fl_Planner_29 tx_7 rfl rfl ?_
    refine gk_ic_ge (tgt := 41) (pc := 12) K d_Planner_priceOf_12 (by decide) h (fun h => ?_) (fun h => ?_)
    · refine gk_iload_n (pc := 41) K d_Planner_priceOf_41 rfl ?_
      exact gk_iret (pc := 42) K d_Planner_priceOf_42 rfl h
    · refine gk_iload_n (pc := 15) K d_Planner_priceOf_15 rfl ?_
      refine gk_iload_n (pc := 16) K d_Planner_priceOf_16 rfl ?_
      refine gk_ishr (pc := 17) K d_Planner_priceOf_17 ?_
      refine gk_iconst (pc := 18) K d_Planner_priceOf_18 kc_1 ?_
      refine gk_iand (pc := 19) K d_Planner_priceOf_19 ?_
      refine gk_if_eq (tgt := 35) (pc := 20) K d_Planner_priceOf_20 (by decide) h (fun h => ?_) (fun h => ?_)
      · refine gk_iinc2 (lv2 := [(3, .int (a3 + 1)), (0, .ref 21), (1, .int a1), (2, .int a2)]) (pc := 35) K d_Planner_priceOf_35 rfl kc_1 (by decide) rfl ?_
        refine gk_goto (tgt := 4) (pc := 38) K d_Planner_priceOf_38 (by decide) ?_
        exact gk_sub [1, 2, 3, 0] rfl (ih _ _ _ _  h)
      · refine gk_iload_n (pc := 23) K d_Planner_priceOf_23 rfl ?_
        refine gk_aload_n (pc := 24) K d_Planner_priceOf_24 rfl ?_
        refine gk_get (pc := 25) K d_Planner_priceOf_25 fl_Planner_25 tx_21 rfl rfl ?_
        refine gk_get (pc := 28) K d_Planner_priceOf_28 fl_Planner_66 tx_7 rfl rfl ?_
        refine gk_iload_n (pc := 31) K d_Planner_priceOf_31 rfl ?_
        refine gk_iald (pc := 32) K d_Planner_priceOf_32 tx_11 h (fun v1 h => ?_)
        refine gk_iadd (pc := 33) K d_Planner_priceOf_33 ?_
        refine gk_topi h (fun v2 h => ?_)
        refine gk_istore_n (lv2 := [(2, .int v2), (0, .ref 21), (1, .int a1), (3, .int a3)]) (pc := 34) K d_Planner_priceOf_34 (by decide) rfl ?_
        refine gk_iinc2 (lv2 := [(3, .int (a3 + 1)), (2, .int v2), (0, .ref 21), (1, .int a1)]) (pc := 35) K d_Planner_priceOf_35 rfl kc_1 (by decide) rfl ?_
        refine gk_goto (tgt := 4) (pc := 38) K d_Planner_priceOf_38 (by decide) ?_
        exact gk_sub [2, 3, 1, 0] rfl (ih _ _ _ _  h)
noncomputable def f_Planner_priceOf  (a1 : Int32) (m0 : gk_M) : Option (Int32 × gk_M) :=
  f_Planner_priceOf_4 gk_fv a1 0 0 m0

theorem s_Planner_priceOf_0 {z : gk_Z} (K : gk_F tx z me_Planner_priceOf 1) {r : Int32} {mem2 : gk_M} : ∀ a1 m0, f_Planner_priceOf a1 m0 = some (r, mem2) → gk_G tx z me_Planner_priceOf (gk_R tx z (some (.int r)) mem2) m0 [(0, .ref 21), (1, .int a1)] [] 0 := by
  intro a1 m0  h
  unfold f_Planner_priceOf at h
  refine gk_iconst (pc := 0) K d_Planner_priceOf_0 kc_0 ?_
  refine gk_istore_n (lv2 := [(2, .int 0), (0, .ref 21), (1, .int a1)]) (pc := 1) K d_Planner_priceOf_1 (by decide) rfl ?_
  refine gk_iconst (pc := 2) K d_Planner_priceOf_2 kc_0 ?_
  refine gk_istore_n (lv2 := [(3, .int 0), (2, .int 0), (0, .ref 21), (1, .int a1)]) (pc := 3) K d_Planner_priceOf_3 (by decide) rfl ?_
  exact gk_sub [2, 3, 1, 0] rfl (s_Planner_priceOf_4 K _ _ _ _ _  h)
theorem s_Planner_priceOf {l : Launch} {u : gk_U} (hD : gk_D tx u) {a1 : Int32} {m0 mem2 : gk_M} {r : Int32} (h : f_Planner_priceOf a1 m0 = some (r, mem2)) : gk_C tx l u me_Planner_priceOf 1 [.ref 21, .int a1] m0 (some (.int r)) mem2 :=
  gk_enter hD mc_Planner_priceOf (Nat.le_of_ble_eq_true rfl) rfl (fun z _ _ K => s_Planner_priceOf_0 K _ _  h)
theorem d_Integer_bitCount_0 : decode me_Integer_bitCount.2.1 0 = .ok (.iload_n 0, 1) := by decide +kernel
theorem d_Integer_bitCount_1 : decode me_Integer_bitCount.2.1 1 = .ok (.iload_n 0, 1) := by decide +kernel
theorem d_Integer_bitCount_2 : decode me_Integer_bitCount.2.1 2 = .ok (.iconst 1, 1) := by decide +kernel
theorem d_Integer_bitCount_3 : decode me_Integer_bitCount.2.1 3 = .ok (.iushr, 1) := by decide +kernel
theorem d_Integer_bitCount_4 : decode me_Integer_bitCount.2.1 4 = .ok (.ldc_w 265, 3) := by decide +kernel
theorem d_Integer_bitCount_7 : decode me_Integer_bitCount.2.1 7 = .ok (.iand, 1) := by decide +kernel
theorem d_Integer_bitCount_8 : decode me_Integer_bitCount.2.1 8 = .ok (.isub, 1) := by decide +kernel
theorem d_Integer_bitCount_9 : decode me_Integer_bitCount.2.1 9 = .ok (.istore_n 0, 1) := by decide +kernel
theorem d_Integer_bitCount_10 : decode me_Integer_bitCount.2.1 10 = .ok (.iload_n 0, 1) := by decide +kernel
theorem d_Integer_bitCount_11 : decode me_Integer_bitCount.2.1 11 = .ok (.ldc_w 266, 3) := by decide +kernel
theorem d_Integer_bitCount_14 : decode me_Integer_bitCount.2.1 14 = .ok (.iand, 1) := by decide +kernel
theorem d_Integer_bitCount_15 : decode me_Integer_bitCount.2.1 15 = .ok (.iload_n 0, 1) := by decide +kernel
theorem d_Integer_bitCount_16 : decode me_Integer_bitCount.2.1 16 = .ok (.iconst 2, 1) := by decide +kernel
theorem d_Integer_bitCount_17 : decode me_Integer_bitCount.2.1 17 = .ok (.iushr, 1) := by decide +kernel
theorem d_Integer_bitCount_18 : decode me_Integer_bitCount.2.1 18 = .ok (.ldc_w 266, 3) := by decide +kernel
theorem d_Integer_bitCount_21 : decode me_Integer_bitCount.2.1 21 = .ok (.iand, 1) := by decide +kernel
theorem d_Integer_bitCount_22 : decode me_Integer_bitCount.2.1 22 = .ok (.iadd, 1) := by decide +kernel
theorem d_Integer_bitCount_23 : decode me_Integer_bitCount.2.1 23 = .ok (.istore_n 0, 1) := by decide +kernel
theorem d_Integer_bitCount_24 : decode me_Integer_bitCount.2.1 24 = .ok (.iload_n 0, 1) := by decide +kernel
theorem d_Integer_bitCount_25 : decode me_Integer_bitCount.2.1 25 = .ok (.iload_n 0, 1) := by decide +kernel
theorem d_Integer_bitCount_26 : decode me_Integer_bitCount.2.1 26 = .ok (.iconst 4, 1) := by decide +kernel
theorem d_Integer_bitCount_27 : decode me_Integer_bitCount.2.1 27 = .ok (.iushr, 1) := by decide +kernel
theorem d_Integer_bitCount_28 : decode me_Integer_bitCount.2.1 28 = .ok (.iadd, 1) := by decide +kernel
theorem d_Integer_bitCount_29 : decode me_Integer_bitCount.2.1 29 = .ok (.ldc_w 267, 3) := by decide +kernel
theorem d_Integer_bitCount_32 : decode me_Integer_bitCount.2.1 32 = .ok (.iand, 1) := by decide +kernel
theorem d_Integer_bitCount_33 : decode me_Integer_bitCount.2.1 33 = .ok (.istore_n 0, 1) := by decide +kernel
theorem d_Integer_bitCount_34 : decode me_Integer_bitCount.2.1 34 = .ok (.iload_n 0, 1) := by decide +kernel
theorem d_Integer_bitCount_35 : decode me_Integer_bitCount.2.1 35 = .ok (.iload_n 0, 1) := by decide +kernel
theorem d_Integer_bitCount_36 : decode me_Integer_bitCount.2.1 36 = .ok (.bipush 8, 2) := by decide +kernel
theorem d_Integer_bitCount_38 : decode me_Integer_bitCount.2.1 38 = .ok (.iushr, 1) := by decide +kernel
theorem d_Integer_bitCount_39 : decode me_Integer_bitCount.2.1 39 = .ok (.iadd, 1) := by decide +kernel
theorem d_Integer_bitCount_40 : decode me_Integer_bitCount.2.1 40 = .ok (.istore_n 0, 1) := by decide +kernel
theorem d_Integer_bitCount_41 : decode me_Integer_bitCount.2.1 41 = .ok (.iload_n 0, 1) := by decide +kernel
theorem d_Integer_bitCount_42 : decode me_Integer_bitCount.2.1 42 = .ok (.iload_n 0, 1) := by decide +kernel
theorem d_Integer_bitCount_43 : decode me_Integer_bitCount.2.1 43 = .ok (.bipush 16, 2) := by decide +kernel
theorem d_Integer_bitCount_45 : decode me_Integer_bitCount.2.1 45 = .ok (.iushr, 1) := by decide +kernel
theorem d_Integer_bitCount_46 : decode me_Integer_bitCount.2.1 46 = .ok (.iadd, 1) := by decide +kernel
theorem d_Integer_bitCount_47 : decode me_Integer_bitCount.2.1 47 = .ok (.istore_n 0, 1) := by decide +kernel
theorem d_Integer_bitCount_48 : decode me_Integer_bitCount.2.1 48 = .ok (.iload_n 0, 1) := by decide +kernel
theorem d_Integer_bitCount_49 : decode me_Integer_bitCount.2.1 49 = .ok (.bipush 63, 2) := by decide +kernel
theorem d_Integer_bitCount_51 : decode me_Integer_bitCount.2.1 51 = .ok (.iand, 1) := by decide +kernel
theorem d_Integer_bitCount_52 : decode me_Integer_bitCount.2.1 52 = .ok (.ireturn, 1) := by decide +kernel
noncomputable def f_Integer_bitCount  (a0 : Int32) (m0 : gk_M) : Option (Int32 × gk_M) :=
  gk_let (a0 - ((gk_ush a0 1) &&& 1431655765)) fun v1 =>
  gk_let ((v1 &&& 858993459) + ((gk_ush v1 2) &&& 858993459)) fun v2 =>
  gk_let ((v2 + (gk_ush v2 4)) &&& 252645135) fun v3 =>
  gk_let (v3 + (gk_ush v3 8)) fun v4 =>
  gk_let (v4 + (gk_ush v4 16)) fun v5 =>
  some ((v5 &&& 63), m0)

theorem s_Integer_bitCount_0 {z : gk_Z} (K : gk_F tx z me_Integer_bitCount 1) {r : Int32} {mem2 : gk_M} : ∀ a0 m0, f_Integer_bitCount a0 m0 = some (r, mem2) → gk_G tx z me_Integer_bitCount (gk_R tx z (some (.int r)) mem2) m0 [(0, .int a0)] [] 0 := by
  intro a0 m0  h
  unfold f_Integer_bitCount at h
  refine gk_iload_n (pc := 0) K d_Integer_bitCount_0 rfl ?_
  refine gk_iload_n (pc := 1) K d_Integer_bitCount_1 rfl ?_
  refine gk_iconst (pc := 2) K d_Integer_bitCount_2 kc_1 ?_
  refine gk_iushr (pc := 3) K d_Integer_bitCount_3 rfl ?_
  refine gk_ldcw (pc := 4) K d_Integer_bitCount_4 lc_Integer_265 ?_
  refine gk_iand (pc := 7) K d_Integer_bitCount_7 ?_
  refine gk_isub (pc := 8) K d_Integer_bitCount_8 ?_
  refine gk_topi h (fun v1 h => ?_)
  refine gk_istore_n (lv2 := [(0, .int v1)]) (pc := 9) K d_Integer_bitCount_9 (by decide) rfl ?_
  refine gk_iload_n (pc := 10) K d_Integer_bitCount_10 rfl ?_
  refine gk_ldcw (pc := 11) K d_Integer_bitCount_11 lc_Integer_266 ?_
  refine gk_iand (pc := 14) K d_Integer_bitCount_14 ?_
  refine gk_iload_n (pc := 15) K d_Integer_bitCount_15 rfl ?_
  refine gk_iconst (pc := 16) K d_Integer_bitCount_16 kc_2 ?_
  refine gk_iushr (pc := 17) K d_Integer_bitCount_17 rfl ?_
  refine gk_ldcw (pc := 18) K d_Integer_bitCount_18 lc_Integer_266 ?_
  refine gk_iand (pc := 21) K d_Integer_bitCount_21 ?_
  refine gk_iadd (pc := 22) K d_Integer_bitCount_22 ?_
  refine gk_topi h (fun v2 h => ?_)
  refine gk_istore_n (lv2 := [(0, .int v2)]) (pc := 23) K d_Integer_bitCount_23 (by decide) rfl ?_
  refine gk_iload_n (pc := 24) K d_Integer_bitCount_24 rfl ?_
  refine gk_iload_n (pc := 25) K d_Integer_bitCount_25 rfl ?_
  refine gk_iconst (pc := 26) K d_Integer_bitCount_26 kc_4 ?_
  refine gk_iushr (pc := 27) K d_Integer_bitCount_27 rfl ?_
  refine gk_iadd (pc := 28) K d_Integer_bitCount_28 ?_
  refine gk_ldcw (pc := 29) K d_Integer_bitCount_29 lc_Integer_267 ?_
  refine gk_iand (pc := 32) K d_Integer_bitCount_32 ?_
  refine gk_topi h (fun v3 h => ?_)
  refine gk_istore_n (lv2 := [(0, .int v3)]) (pc := 33) K d_Integer_bitCount_33 (by decide) rfl ?_
  refine gk_iload_n (pc := 34) K d_Integer_bitCount_34 rfl ?_
  refine gk_iload_n (pc := 35) K d_Integer_bitCount_35 rfl ?_
  refine gk_bipush (pc := 36) K d_Integer_bitCount_36 kb_8 ?_
  refine gk_iushr (pc := 38) K d_Integer_bitCount_38 rfl ?_
  refine gk_iadd (pc := 39) K d_Integer_bitCount_39 ?_
  refine gk_topi h (fun v4 h => ?_)
  refine gk_istore_n (lv2 := [(0, .int v4)]) (pc := 40) K d_Integer_bitCount_40 (by decide) rfl ?_
  refine gk_iload_n (pc := 41) K d_Integer_bitCount_41 rfl ?_
  refine gk_iload_n (pc := 42) K d_Integer_bitCount_42 rfl ?_
  refine gk_bipush (pc := 43) K d_Integer_bitCount_43 kb_16 ?_
  refine gk_iushr (pc := 45) K d_Integer_bitCount_45 rfl ?_
  refine gk_iadd (pc := 46) K d_Integer_bitCount_46 ?_
  refine gk_topi h (fun v5 h => ?_)
  refine gk_istore_n (lv2 := [(0, .int v5)]) (pc := 47) K d_Integer_bitCount_47 (by decide) rfl ?_
  refine gk_iload_n (pc := 48) K d_Integer_bitCount_48 rfl ?_
  refine gk_bipush (pc := 49) K d_Integer_bitCount_49 kb_63 ?_
  refine gk_iand (pc := 51) K d_Integer_bitCount_51 ?_
  exact gk_iret (pc := 52) K d_Integer_bitCount_52 rfl h
theorem s_Integer_bitCount {l : Launch} {u : gk_U} (hD : gk_D tx u) {a0 : Int32} {m0 mem2 : gk_M} {r : Int32} (h : f_Integer_bitCount a0 m0 = some (r, mem2)) : gk_C tx l u me_Integer_bitCount 1 [.int a0] m0 (some (.int r)) mem2 :=
  gk_enter hD mc_Integer_bitCount (Nat.le_of_ble_eq_true rfl) rfl (fun z _ _ K => s_Integer_bitCount_0 K _ _  h)
theorem d_Planner_leavesPeace_0 : decode me_Planner_leavesPeace.2.1 0 = .ok (.iconst 0, 1) := by decide +kernel
theorem d_Planner_leavesPeace_1 : decode me_Planner_leavesPeace.2.1 1 = .ok (.istore_n 2, 1) := by decide +kernel
theorem d_Planner_leavesPeace_2 : decode me_Planner_leavesPeace.2.1 2 = .ok (.iload_n 2, 1) := by decide +kernel
theorem d_Planner_leavesPeace_3 : decode me_Planner_leavesPeace.2.1 3 = .ok (.aload_n 0, 1) := by decide +kernel
theorem d_Planner_leavesPeace_4 : decode me_Planner_leavesPeace.2.1 4 = .ok (.getfield 25, 3) := by decide +kernel
theorem d_Planner_leavesPeace_7 : decode me_Planner_leavesPeace.2.1 7 = .ok (.getfield 29, 3) := by decide +kernel
theorem d_Planner_leavesPeace_10 : decode me_Planner_leavesPeace.2.1 10 = .ok (.if_icmp .ge 32, 3) := by decide +kernel
theorem d_Planner_leavesPeace_13 : decode me_Planner_leavesPeace.2.1 13 = .ok (.iload_n 1, 1) := by decide +kernel
theorem d_Planner_leavesPeace_14 : decode me_Planner_leavesPeace.2.1 14 = .ok (.iload_n 2, 1) := by decide +kernel
theorem d_Planner_leavesPeace_15 : decode me_Planner_leavesPeace.2.1 15 = .ok (.ishr, 1) := by decide +kernel
theorem d_Planner_leavesPeace_16 : decode me_Planner_leavesPeace.2.1 16 = .ok (.iconst 1, 1) := by decide +kernel
theorem d_Planner_leavesPeace_17 : decode me_Planner_leavesPeace.2.1 17 = .ok (.iand, 1) := by decide +kernel
theorem d_Planner_leavesPeace_18 : decode me_Planner_leavesPeace.2.1 18 = .ok (.ifCond .ne 18, 3) := by decide +kernel
theorem d_Planner_leavesPeace_21 : decode me_Planner_leavesPeace.2.1 21 = .ok (.aload_n 0, 1) := by decide +kernel
theorem d_Planner_leavesPeace_22 : decode me_Planner_leavesPeace.2.1 22 = .ok (.getfield 9, 3) := by decide +kernel
theorem d_Planner_leavesPeace_25 : decode me_Planner_leavesPeace.2.1 25 = .ok (.iload_n 2, 1) := by decide +kernel
theorem d_Planner_leavesPeace_26 : decode me_Planner_leavesPeace.2.1 26 = .ok (.iaload, 1) := by decide +kernel
theorem d_Planner_leavesPeace_27 : decode me_Planner_leavesPeace.2.1 27 = .ok (.iload_n 1, 1) := by decide +kernel
theorem d_Planner_leavesPeace_28 : decode me_Planner_leavesPeace.2.1 28 = .ok (.iconst (-1), 1) := by decide +kernel
theorem d_Planner_leavesPeace_29 : decode me_Planner_leavesPeace.2.1 29 = .ok (.ixor, 1) := by decide +kernel
theorem d_Planner_leavesPeace_30 : decode me_Planner_leavesPeace.2.1 30 = .ok (.iand, 1) := by decide +kernel
theorem d_Planner_leavesPeace_31 : decode me_Planner_leavesPeace.2.1 31 = .ok (.ifCond .eq 5, 3) := by decide +kernel
theorem d_Planner_leavesPeace_34 : decode me_Planner_leavesPeace.2.1 34 = .ok (.iconst 0, 1) := by decide +kernel
theorem d_Planner_leavesPeace_35 : decode me_Planner_leavesPeace.2.1 35 = .ok (.ireturn, 1) := by decide +kernel
theorem d_Planner_leavesPeace_36 : decode me_Planner_leavesPeace.2.1 36 = .ok (.iinc 2 1, 3) := by decide +kernel
theorem d_Planner_leavesPeace_39 : decode me_Planner_leavesPeace.2.1 39 = .ok (.goto (-37), 3) := by decide +kernel
theorem d_Planner_leavesPeace_42 : decode me_Planner_leavesPeace.2.1 42 = .ok (.iconst 1, 1) := by decide +kernel
theorem d_Planner_leavesPeace_43 : decode me_Planner_leavesPeace.2.1 43 = .ok (.ireturn, 1) := by decide +kernel
noncomputable def f_Planner_leavesPeace_2  : Nat → Int32 → Int32 → gk_M → Option (Int32 × gk_M)
  | 0, _, _, _ => none
  | n + 1, a1, a2, m0 =>
    if (m0.1 7 5) ≤ a2 then
      some (1, m0)
    else
      if ¬ ((a1 >>> (a2 &&& 31)) &&& 1) = 0 then
        f_Planner_leavesPeace_2 n a1 (a2 + 1) m0
      else
        gk_ai m0 22 10 a2 fun v1 =>
        if (v1 &&& (a1 ^^^ (-1))) = 0 then
          f_Planner_leavesPeace_2 n a1 (a2 + 1) m0
        else
          some (0, m0)

theorem s_Planner_leavesPeace_2 {z : gk_Z} (K : gk_F tx z me_Planner_leavesPeace 1) {r : Int32} {mem2 : gk_M} : ∀ n a1 a2 m0, f_Planner_leavesPeace_2 n a1 a2 m0 = some (r, mem2) → gk_G tx z me_Planner_leavesPeace (gk_R tx z (some (.int r)) mem2) m0 [(0, .ref 21), (1, .int a1), (2, .int a2)] [] 2 := by
  intro n
  induction n with
  | zero => intro a1 a2 m0  h; exact nomatch (show (none : Option _) = some _ from h)
  | succ n ih =>
    intro a1 a2 m0  h
    unfold f_Planner_leavesPeace_2 at h
    refine gk_iload_n (pc := 2) K d_Planner_leavesPeace_2 rfl ?_
    refine gk_aload_n (pc := 3) K d_Planner_leavesPeace_3 rfl ?_
    refine gk_get (pc := 4) K d_Planner_leavesPeace_4 fl_Planner_25 tx_21 rfl rfl ?_
    refine gk_get (pc := 7) K d_Planner_leavesPeace_7 fl_Planner_29 tx_7 rfl rfl ?_
    refine gk_ic_ge (tgt := 42) (pc := 10) K d_Planner_leavesPeace_10 (by decide) h (fun h => ?_) (fun h => ?_)
    · refine gk_iconst (pc := 42) K d_Planner_leavesPeace_42 kc_1 ?_
      exact gk_zretc (pc := 43) K d_Planner_leavesPeace_43 rfl (Or.inr rfl) h
    · refine gk_iload_n (pc := 13) K d_Planner_leavesPeace_13 rfl ?_
      refine gk_iload_n (pc := 14) K d_Planner_leavesPeace_14 rfl ?_
      refine gk_ishr (pc := 15) K d_Planner_leavesPeace_15 ?_
      refine gk_iconst (pc := 16) K d_Planner_leavesPeace_16 kc_1 ?_
      refine gk_iand (pc := 17) K d_Planner_leavesPeace_17 ?_
      refine gk_if_ne (tgt := 36) (pc := 18) K d_Planner_leavesPeace_18 (by decide) h (fun h => ?_) (fun h => ?_)
      · refine gk_iinc2 (lv2 := [(2, .int (a2 + 1)), (0, .ref 21), (1, .int a1)]) (pc := 36) K d_Planner_leavesPeace_36 rfl kc_1 (by decide) rfl ?_
        refine gk_goto (tgt := 2) (pc := 39) K d_Planner_leavesPeace_39 (by decide) ?_
        exact gk_sub [1, 2, 0] rfl (ih _ _ _  h)
      · refine gk_aload_n (pc := 21) K d_Planner_leavesPeace_21 rfl ?_
        refine gk_get (pc := 22) K d_Planner_leavesPeace_22 fl_Planner_9 tx_21 rfl rfl ?_
        refine gk_iload_n (pc := 25) K d_Planner_leavesPeace_25 rfl ?_
        refine gk_iald (pc := 26) K d_Planner_leavesPeace_26 tx_22 h (fun v1 h => ?_)
        refine gk_iload_n (pc := 27) K d_Planner_leavesPeace_27 rfl ?_
        refine gk_iconst (pc := 28) K d_Planner_leavesPeace_28 kc_m1 ?_
        refine gk_ixor (pc := 29) K d_Planner_leavesPeace_29 ?_
        refine gk_iand (pc := 30) K d_Planner_leavesPeace_30 ?_
        refine gk_if_eq (tgt := 36) (pc := 31) K d_Planner_leavesPeace_31 (by decide) h (fun h => ?_) (fun h => ?_)
        · refine gk_iinc2 (lv2 := [(2, .int (a2 + 1)), (0, .ref 21), (1, .int a1)]) (pc := 36) K d_Planner_leavesPeace_36 rfl kc_1 (by decide) rfl ?_
          refine gk_goto (tgt := 2) (pc := 39) K d_Planner_leavesPeace_39 (by decide) ?_
          exact gk_sub [1, 2, 0] rfl (ih _ _ _  h)
        · refine gk_iconst (pc := 34) K d_Planner_leavesPeace_34 kc_0 ?_
          exact gk_zretc (pc := 35) K d_Planner_leavesPeace_35 rfl (Or.inl rfl) h
noncomputable def f_Planner_leavesPeace  (a1 : Int32) (m0 : gk_M) : Option (Int32 × gk_M) :=
  f_Planner_leavesPeace_2 gk_fv a1 0 m0

theorem s_Planner_leavesPeace_0 {z : gk_Z} (K : gk_F tx z me_Planner_leavesPeace 1) {r : Int32} {mem2 : gk_M} : ∀ a1 m0, f_Planner_leavesPeace a1 m0 = some (r, mem2) → gk_G tx z me_Planner_leavesPeace (gk_R tx z (some (.int r)) mem2) m0 [(0, .ref 21), (1, .int a1)] [] 0 := by
  intro a1 m0  h
  unfold f_Planner_leavesPeace at h
  refine gk_iconst (pc := 0) K d_Planner_leavesPeace_0 kc_0 ?_
  refine gk_istore_n (lv2 := [(2, .int 0), (0, .ref 21), (1, .int a1)]) (pc := 1) K d_Planner_leavesPeace_1 (by decide) rfl ?_
  exact gk_sub [1, 2, 0] rfl (s_Planner_leavesPeace_2 K _ _ _ _  h)
theorem s_Planner_leavesPeace {l : Launch} {u : gk_U} (hD : gk_D tx u) {a1 : Int32} {m0 mem2 : gk_M} {r : Int32} (h : f_Planner_leavesPeace a1 m0 = some (r, mem2)) : gk_C tx l u me_Planner_leavesPeace 1 [.ref 21, .int a1] m0 (some (.int r)) mem2 :=
  gk_enter hD mc_Planner_leavesPeace (Nat.le_of_ble_eq_true rfl) rfl (fun z _ _ K => s_Planner_leavesPeace_0 K _ _  h)
theorem d_Planner_leastToGo_0 : decode me_Planner_leastToGo.2.1 0 = .ok (.iconst 0, 1) := by decide +kernel
theorem d_Planner_leastToGo_1 : decode me_Planner_leastToGo.2.1 1 = .ok (.istore_n 2, 1) := by decide +kernel
theorem d_Planner_leastToGo_2 : decode me_Planner_leastToGo.2.1 2 = .ok (.ldc 42, 2) := by decide +kernel
theorem d_Planner_leastToGo_4 : decode me_Planner_leastToGo.2.1 4 = .ok (.istore_n 3, 1) := by decide +kernel
theorem d_Planner_leastToGo_5 : decode me_Planner_leastToGo.2.1 5 = .ok (.iconst 0, 1) := by decide +kernel
theorem d_Planner_leastToGo_6 : decode me_Planner_leastToGo.2.1 6 = .ok (.istore 4, 2) := by decide +kernel
theorem d_Planner_leastToGo_8 : decode me_Planner_leastToGo.2.1 8 = .ok (.iload 4, 2) := by decide +kernel
theorem d_Planner_leastToGo_10 : decode me_Planner_leastToGo.2.1 10 = .ok (.iconst 1, 1) := by decide +kernel
theorem d_Planner_leastToGo_11 : decode me_Planner_leastToGo.2.1 11 = .ok (.aload_n 0, 1) := by decide +kernel
theorem d_Planner_leastToGo_12 : decode me_Planner_leastToGo.2.1 12 = .ok (.getfield 25, 3) := by decide +kernel
theorem d_Planner_leastToGo_15 : decode me_Planner_leastToGo.2.1 15 = .ok (.getfield 29, 3) := by decide +kernel
theorem d_Planner_leastToGo_18 : decode me_Planner_leastToGo.2.1 18 = .ok (.ishl, 1) := by decide +kernel
theorem d_Planner_leastToGo_19 : decode me_Planner_leastToGo.2.1 19 = .ok (.if_icmp .ge 50, 3) := by decide +kernel
theorem d_Planner_leastToGo_22 : decode me_Planner_leastToGo.2.1 22 = .ok (.iload_n 1, 1) := by decide +kernel
theorem d_Planner_leastToGo_23 : decode me_Planner_leastToGo.2.1 23 = .ok (.ifCond .eq 12, 3) := by decide +kernel
theorem d_Planner_leastToGo_26 : decode me_Planner_leastToGo.2.1 26 = .ok (.aload_n 0, 1) := by decide +kernel
theorem d_Planner_leastToGo_27 : decode me_Planner_leastToGo.2.1 27 = .ok (.iload 4, 2) := by decide +kernel
theorem d_Planner_leastToGo_29 : decode me_Planner_leastToGo.2.1 29 = .ok (.invokevirtual 43, 3) := by decide +kernel
theorem d_Planner_leastToGo_32 : decode me_Planner_leastToGo.2.1 32 = .ok (.goto 8, 3) := by decide +kernel
theorem d_Planner_leastToGo_35 : decode me_Planner_leastToGo.2.1 35 = .ok (.iload 4, 2) := by decide +kernel
theorem d_Planner_leastToGo_37 : decode me_Planner_leastToGo.2.1 37 = .ok (.invokestatic 47, 3) := by decide +kernel
theorem d_Planner_leastToGo_40 : decode me_Planner_leastToGo.2.1 40 = .ok (.istore 5, 2) := by decide +kernel
theorem d_Planner_leastToGo_42 : decode me_Planner_leastToGo.2.1 42 = .ok (.iload 5, 2) := by decide +kernel
theorem d_Planner_leastToGo_44 : decode me_Planner_leastToGo.2.1 44 = .ok (.iload_n 3, 1) := by decide +kernel
theorem d_Planner_leastToGo_45 : decode me_Planner_leastToGo.2.1 45 = .ok (.if_icmp .ge 18, 3) := by decide +kernel
theorem d_Planner_leastToGo_48 : decode me_Planner_leastToGo.2.1 48 = .ok (.aload_n 0, 1) := by decide +kernel
theorem d_Planner_leastToGo_49 : decode me_Planner_leastToGo.2.1 49 = .ok (.iload 4, 2) := by decide +kernel
theorem d_Planner_leastToGo_51 : decode me_Planner_leastToGo.2.1 51 = .ok (.invokevirtual 52, 3) := by decide +kernel
theorem d_Planner_leastToGo_54 : decode me_Planner_leastToGo.2.1 54 = .ok (.ifCond .eq 9, 3) := by decide +kernel
theorem d_Planner_leastToGo_57 : decode me_Planner_leastToGo.2.1 57 = .ok (.iload 4, 2) := by decide +kernel
theorem d_Planner_leastToGo_59 : decode me_Planner_leastToGo.2.1 59 = .ok (.istore_n 2, 1) := by decide +kernel
theorem d_Planner_leastToGo_60 : decode me_Planner_leastToGo.2.1 60 = .ok (.iload 5, 2) := by decide +kernel
theorem d_Planner_leastToGo_62 : decode me_Planner_leastToGo.2.1 62 = .ok (.istore_n 3, 1) := by decide +kernel
theorem d_Planner_leastToGo_63 : decode me_Planner_leastToGo.2.1 63 = .ok (.iinc 4 1, 3) := by decide +kernel
theorem d_Planner_leastToGo_66 : decode me_Planner_leastToGo.2.1 66 = .ok (.goto (-58), 3) := by decide +kernel
theorem d_Planner_leastToGo_69 : decode me_Planner_leastToGo.2.1 69 = .ok (.iload_n 2, 1) := by decide +kernel
theorem d_Planner_leastToGo_70 : decode me_Planner_leastToGo.2.1 70 = .ok (.ireturn, 1) := by decide +kernel
noncomputable def f_Planner_leastToGo_40 (k8 : Int32 → Int32 → Int32 → Int32 → gk_M → Option (Int32 × gk_M)) (a1 : Int32) (a2 : Int32) (a3 : Int32) (a4 : Int32) (s0 : Int32) (m0 : gk_M) : Option (Int32 × gk_M) :=
  if a3 ≤ s0 then
    k8 a1 a2 a3 (a4 + 1) m0
  else
    gk_bi (f_Planner_leavesPeace a4 m0) fun v2 m1 =>
    if v2 = 0 then
      k8 a1 a2 a3 (a4 + 1) m1
    else
      k8 a1 a4 s0 (a4 + 1) m1

theorem s_Planner_leastToGo_40 {z : gk_Z} (K : gk_F tx z me_Planner_leastToGo 2) {r : Int32} {mem2 : gk_M} {k8 : Int32 → Int32 → Int32 → Int32 → gk_M → Option (Int32 × gk_M)} (hk8 : ∀ a1 a2 a3 a4 m0, k8 a1 a2 a3 a4 m0 = some (r, mem2) → gk_G tx z me_Planner_leastToGo (gk_R tx z (some (.int r)) mem2) m0 [(0, .ref 21), (1, .int a1), (2, .int a2), (3, .int a3), (4, .int a4)] [] 8) : ∀ a1 a2 a3 a4 s0 m0, f_Planner_leastToGo_40 k8 a1 a2 a3 a4 s0 m0 = some (r, mem2) → gk_G tx z me_Planner_leastToGo (gk_R tx z (some (.int r)) mem2) m0 [(0, .ref 21), (1, .int a1), (2, .int a2), (3, .int a3), (4, .int a4)] [.int s0] 40 := by
  intro a1 a2 a3 a4 s0 m0  h
  unfold f_Planner_leastToGo_40 at h
  refine gk_istore (lv2 := [(5, .int s0), (0, .ref 21), (1, .int a1), (2, .int a2), (3, .int a3), (4, .int a4)]) (pc := 40) K d_Planner_leastToGo_40 (by decide) rfl ?_
  refine gk_iload (pc := 42) K d_Planner_leastToGo_42 rfl ?_
  refine gk_iload_n (pc := 44) K d_Planner_leastToGo_44 rfl ?_
  refine gk_ic_ge (tgt := 63) (pc := 45) K d_Planner_leastToGo_45 (by decide) h (fun h => ?_) (fun h => ?_)
  · refine gk_iinc2 (lv2 := [(4, .int (a4 + 1)), (5, .int s0), (0, .ref 21), (1, .int a1), (2, .int a2), (3, .int a3)]) (pc := 63) K d_Planner_leastToGo_63 rfl kc_1 (by decide) rfl ?_
    refine gk_goto (tgt := 8) (pc := 66) K d_Planner_leastToGo_66 (by decide) ?_
    exact gk_sub [2, 3, 4, 5, 0] rfl (hk8 _ _ _ _ _  h)
  · refine gk_aload_n (pc := 48) K d_Planner_leastToGo_48 rfl ?_
    refine gk_iload (pc := 49) K d_Planner_leastToGo_49 rfl ?_
    obtain ⟨v2, m1, em1, h⟩ := gk_bi_some h
    refine gk_cVi (As := [.int a4]) (pc := 51) K d_Planner_leastToGo_51 mv_Planner_52 mc_Planner_leavesPeace rfl tx_21 cl_ok3.1 (s_Planner_leavesPeace (gk_FD K)  em1) (by decide) rfl (Nat.le_of_ble_eq_true rfl) ?_
    refine gk_if_eq (tgt := 63) (pc := 54) K d_Planner_leastToGo_54 (by decide) h (fun h => ?_) (fun h => ?_)
    · refine gk_iinc2 (lv2 := [(4, .int (a4 + 1)), (5, .int s0), (0, .ref 21), (1, .int a1), (2, .int a2), (3, .int a3)]) (pc := 63) K d_Planner_leastToGo_63 rfl kc_1 (by decide) rfl ?_
      refine gk_goto (tgt := 8) (pc := 66) K d_Planner_leastToGo_66 (by decide) ?_
      exact gk_sub [2, 3, 4, 5, 0] rfl (hk8 _ _ _ _ _  h)
    · refine gk_iload (pc := 57) K d_Planner_leastToGo_57 rfl ?_
      refine gk_istore_n (lv2 := [(2, .int a4), (5, .int s0), (0, .ref 21), (1, .int a1), (3, .int a3), (4, .int a4)]) (pc := 59) K d_Planner_leastToGo_59 (by decide) rfl ?_
      refine gk_iload (pc := 60) K d_Planner_leastToGo_60 rfl ?_
      refine gk_istore_n (lv2 := [(3, .int s0), (2, .int a4), (5, .int s0), (0, .ref 21), (1, .int a1), (4, .int a4)]) (pc := 62) K d_Planner_leastToGo_62 (by decide) rfl ?_
      refine gk_iinc2 (lv2 := [(4, .int (a4 + 1)), (3, .int s0), (2, .int a4), (5, .int s0), (0, .ref 21), (1, .int a1)]) (pc := 63) K d_Planner_leastToGo_63 rfl kc_1 (by decide) rfl ?_
      refine gk_goto (tgt := 8) (pc := 66) K d_Planner_leastToGo_66 (by decide) ?_
      exact gk_sub [4, 5, 2, 1, 0] rfl (hk8 _ _ _ _ _  h)
noncomputable def f_Planner_leastToGo_8  : Nat → Int32 → Int32 → Int32 → Int32 → gk_M → Option (Int32 × gk_M)
  | 0, _, _, _, _, _ => none
  | n + 1, a1, a2, a3, a4, m0 =>
    if (1 <<< ((m0.1 7 5) &&& 31)) ≤ a4 then
      some (a2, m0)
    else
      if a1 = 0 then
        gk_bi (f_Integer_bitCount a4 m0) fun v2 m1 =>
        f_Planner_leastToGo_40 (f_Planner_leastToGo_8 n) a1 a2 a3 a4 v2 m1
      else
        gk_bi (f_Planner_priceOf a4 m0) fun v4 m3 =>
        f_Planner_leastToGo_40 (f_Planner_leastToGo_8 n) a1 a2 a3 a4 v4 m3

theorem s_Planner_leastToGo_8 {z : gk_Z} (K : gk_F tx z me_Planner_leastToGo 2) {r : Int32} {mem2 : gk_M} : ∀ n a1 a2 a3 a4 m0, f_Planner_leastToGo_8 n a1 a2 a3 a4 m0 = some (r, mem2) → gk_G tx z me_Planner_leastToGo (gk_R tx z (some (.int r)) mem2) m0 [(0, .ref 21), (1, .int a1), (2, .int a2), (3, .int a3), (4, .int a4)] [] 8 := by
  intro n
  induction n with
  | zero => intro a1 a2 a3 a4 m0  h; exact nomatch (show (none : Option _) = some _ from h)
  | succ n ih =>
    intro a1 a2 a3 a4 m0  h
    unfold f_Planner_leastToGo_8 at h
    refine gk_iload (pc := 8) K d_Planner_leastToGo_8 rfl ?_
    refine gk_iconst (pc := 10) K d_Planner_leastToGo_10 kc_1 ?_
    refine gk_aload_n (pc := 11) K d_Planner_leastToGo_11 rfl ?_
    refine gk_get (pc := 12) K d_Planner_leastToGo_12 fl_Planner_25 tx_21 rfl rfl ?_
    refine gk_get (pc := 15) K d_Planner_leastToGo_15 fl_Planner_29 tx_7 rfl rfl ?_
    refine gk_ishl (pc := 18) K d_Planner_leastToGo_18 ?_
    refine gk_ic_ge (tgt := 69) (pc := 19) K d_Planner_leastToGo_19 (by decide) h (fun h => ?_) (fun h => ?_)
    · refine gk_iload_n (pc := 69) K d_Planner_leastToGo_69 rfl ?_
      exact gk_iret (pc := 70) K d_Planner_leastToGo_70 rfl h
    · refine gk_iload_n (pc := 22) K d_Planner_leastToGo_22 rfl ?_
      refine gk_if_eq (tgt := 35) (pc := 23) K d_Planner_leastToGo_23 (by decide) h (fun h => ?_) (fun h => ?_)
      · refine gk_iload (pc := 35) K d_Planner_leastToGo_35 rfl ?_
        obtain ⟨v2, m1, em1, h⟩ := gk_bi_some h
        refine gk_cSi (As := [.int a4]) (pc := 37) K d_Planner_leastToGo_37 ms_Planner_47 mc_Integer_bitCount rfl (s_Integer_bitCount (gk_FD K)  em1) (by decide) rfl (Nat.le_of_ble_eq_true rfl) ?_
        exact gk_sub [0, 1, 2, 3, 4] rfl (s_Planner_leastToGo_40 K (fun x0 x1 x2 x3 m  h => ih x0 x1 x2 x3 m  h) _ _ _ _ _ _  h)
      · refine gk_aload_n (pc := 26) K d_Planner_leastToGo_26 rfl ?_
        refine gk_iload (pc := 27) K d_Planner_leastToGo_27 rfl ?_
        obtain ⟨v4, m3, em3, h⟩ := gk_bi_some h
        refine gk_cVi (As := [.int a4]) (pc := 29) K d_Planner_leastToGo_29 mv_Planner_43 mc_Planner_priceOf rfl tx_21 cl_ok3.1 (s_Planner_priceOf (gk_FD K)  em3) (by decide) rfl (Nat.le_of_ble_eq_true rfl) ?_
        refine gk_goto (tgt := 40) (pc := 32) K d_Planner_leastToGo_32 (by decide) ?_
        exact gk_sub [0, 1, 2, 3, 4] rfl (s_Planner_leastToGo_40 K (fun x0 x1 x2 x3 m  h => ih x0 x1 x2 x3 m  h) _ _ _ _ _ _  h)
noncomputable def f_Planner_leastToGo  (a1 : Int32) (m0 : gk_M) : Option (Int32 × gk_M) :=
  f_Planner_leastToGo_8 gk_fv a1 0 1000000 0 m0

theorem s_Planner_leastToGo_0 {z : gk_Z} (K : gk_F tx z me_Planner_leastToGo 2) {r : Int32} {mem2 : gk_M} : ∀ a1 m0, f_Planner_leastToGo a1 m0 = some (r, mem2) → gk_G tx z me_Planner_leastToGo (gk_R tx z (some (.int r)) mem2) m0 [(0, .ref 21), (1, .int a1)] [] 0 := by
  intro a1 m0  h
  unfold f_Planner_leastToGo at h
  refine gk_iconst (pc := 0) K d_Planner_leastToGo_0 kc_0 ?_
  refine gk_istore_n (lv2 := [(2, .int 0), (0, .ref 21), (1, .int a1)]) (pc := 1) K d_Planner_leastToGo_1 (by decide) rfl ?_
  refine gk_ldc (pc := 2) K d_Planner_leastToGo_2 lc_Planner_42 ?_
  refine gk_istore_n (lv2 := [(3, .int 1000000), (2, .int 0), (0, .ref 21), (1, .int a1)]) (pc := 4) K d_Planner_leastToGo_4 (by decide) rfl ?_
  refine gk_iconst (pc := 5) K d_Planner_leastToGo_5 kc_0 ?_
  refine gk_istore (lv2 := [(4, .int 0), (3, .int 1000000), (2, .int 0), (0, .ref 21), (1, .int a1)]) (pc := 6) K d_Planner_leastToGo_6 (by decide) rfl ?_
  exact gk_sub [3, 4, 2, 1, 0] rfl (s_Planner_leastToGo_8 K _ _ _ _ _ _  h)
theorem s_Planner_leastToGo {l : Launch} {u : gk_U} (hD : gk_D tx u) {a1 : Int32} {m0 mem2 : gk_M} {r : Int32} (h : f_Planner_leastToGo a1 m0 = some (r, mem2)) : gk_C tx l u me_Planner_leastToGo 2 [.ref 21, .int a1] m0 (some (.int r)) mem2 :=
  gk_enter hD mc_Planner_leastToGo (Nat.le_of_ble_eq_true rfl) rfl (fun z _ _ K => s_Planner_leastToGo_0 K _ _  h)
theorem d_X_fewest_0 : decode me_X_fewest.2.1 0 = .ok (.aload_n 0, 1) := by decide +kernel
theorem d_X_fewest_1 : decode me_X_fewest.2.1 1 = .ok (.getfield 37, 3) := by decide +kernel
theorem d_X_fewest_4 : decode me_X_fewest.2.1 4 = .ok (.invokevirtual 225, 3) := by decide +kernel
theorem d_X_fewest_7 : decode me_X_fewest.2.1 7 = .ok (.aload_n 0, 1) := by decide +kernel
theorem d_X_fewest_8 : decode me_X_fewest.2.1 8 = .ok (.getfield 37, 3) := by decide +kernel
theorem d_X_fewest_11 : decode me_X_fewest.2.1 11 = .ok (.iconst 0, 1) := by decide +kernel
theorem d_X_fewest_12 : decode me_X_fewest.2.1 12 = .ok (.invokevirtual 228, 3) := by decide +kernel
theorem d_X_fewest_15 : decode me_X_fewest.2.1 15 = .ok (.ireturn, 1) := by decide +kernel
noncomputable def f_X_fewest   (m0 : gk_M) : Option (Int32 × gk_M) :=
  gk_bv (f_Planner_findQuarrels  m0) fun m1 =>
  gk_bi (f_Planner_leastToGo 0 m1) fun v3 m2 =>
  some (v3, m2)

theorem s_X_fewest_0 {z : gk_Z} (K : gk_F tx z me_X_fewest 8) {r : Int32} {mem2 : gk_M} : ∀  m0, f_X_fewest  m0 = some (r, mem2) → gk_G tx z me_X_fewest (gk_R tx z (some (.int r)) mem2) m0 [(0, .ref 0)] [] 0 := by
  intro  m0  h
  unfold f_X_fewest at h
  refine gk_aload_n (pc := 0) K d_X_fewest_0 rfl ?_
  refine gk_get (pc := 1) K d_X_fewest_1 fl_X_37 tx_0 rfl rfl ?_
  obtain ⟨m1, em1, h⟩ := gk_bv_some h
  refine gk_cVv (As := []) (pc := 4) K d_X_fewest_4 mv_X_225 mc_Planner_findQuarrels rfl tx_21 cl_ok3.1 (s_Planner_findQuarrels (gk_FD K)  em1) (by decide) rfl (Nat.le_of_ble_eq_true rfl) ?_
  refine gk_aload_n (pc := 7) K d_X_fewest_7 rfl ?_
  refine gk_get (pc := 8) K d_X_fewest_8 fl_X_37 tx_0 rfl rfl ?_
  refine gk_iconst (pc := 11) K d_X_fewest_11 kc_0 ?_
  obtain ⟨v3, m2, em2, h⟩ := gk_bi_some h
  refine gk_cVi (As := [.int 0]) (pc := 12) K d_X_fewest_12 mv_X_228 mc_Planner_leastToGo rfl tx_21 cl_ok3.1 (s_Planner_leastToGo (gk_FD K)  em2) (by decide) rfl (Nat.le_of_ble_eq_true rfl) ?_
  exact gk_iret (pc := 15) K d_X_fewest_15 rfl h
theorem s_X_fewest {l : Launch} {u : gk_U} (hD : gk_D tx u) {m0 mem2 : gk_M} {r : Int32} (h : f_X_fewest  m0 = some (r, mem2)) : gk_C tx l u me_X_fewest 8 [.ref 0] m0 (some (.int r)) mem2 :=
  gk_enter hD mc_X_fewest (Nat.le_of_ble_eq_true rfl) rfl (fun z _ _ K => s_X_fewest_0 K  _  h)
theorem d_X_cheapest_0 : decode me_X_cheapest.2.1 0 = .ok (.iload_n 1, 1) := by decide +kernel
theorem d_X_cheapest_1 : decode me_X_cheapest.2.1 1 = .ok (.iconst 1, 1) := by decide +kernel
theorem d_X_cheapest_2 : decode me_X_cheapest.2.1 2 = .ok (.invokestatic 180, 3) := by decide +kernel
theorem d_X_cheapest_5 : decode me_X_cheapest.2.1 5 = .ok (.ifCond .ne 5, 3) := by decide +kernel
theorem d_X_cheapest_8 : decode me_X_cheapest.2.1 8 = .ok (.iconst (-1), 1) := by decide +kernel
theorem d_X_cheapest_9 : decode me_X_cheapest.2.1 9 = .ok (.ireturn, 1) := by decide +kernel
theorem d_X_cheapest_10 : decode me_X_cheapest.2.1 10 = .ok (.aload_n 0, 1) := by decide +kernel
theorem d_X_cheapest_11 : decode me_X_cheapest.2.1 11 = .ok (.getfield 37, 3) := by decide +kernel
theorem d_X_cheapest_14 : decode me_X_cheapest.2.1 14 = .ok (.invokevirtual 225, 3) := by decide +kernel
theorem d_X_cheapest_17 : decode me_X_cheapest.2.1 17 = .ok (.aload_n 0, 1) := by decide +kernel
theorem d_X_cheapest_18 : decode me_X_cheapest.2.1 18 = .ok (.getfield 37, 3) := by decide +kernel
theorem d_X_cheapest_21 : decode me_X_cheapest.2.1 21 = .ok (.iconst 1, 1) := by decide +kernel
theorem d_X_cheapest_22 : decode me_X_cheapest.2.1 22 = .ok (.invokevirtual 228, 3) := by decide +kernel
theorem d_X_cheapest_25 : decode me_X_cheapest.2.1 25 = .ok (.istore_n 2, 1) := by decide +kernel
theorem d_X_cheapest_26 : decode me_X_cheapest.2.1 26 = .ok (.iload_n 1, 1) := by decide +kernel
theorem d_X_cheapest_27 : decode me_X_cheapest.2.1 27 = .ok (.ifCond .ne 7, 3) := by decide +kernel
theorem d_X_cheapest_30 : decode me_X_cheapest.2.1 30 = .ok (.iload_n 2, 1) := by decide +kernel
theorem d_X_cheapest_31 : decode me_X_cheapest.2.1 31 = .ok (.goto 11, 3) := by decide +kernel
theorem d_X_cheapest_34 : decode me_X_cheapest.2.1 34 = .ok (.aload_n 0, 1) := by decide +kernel
theorem d_X_cheapest_35 : decode me_X_cheapest.2.1 35 = .ok (.getfield 37, 3) := by decide +kernel
theorem d_X_cheapest_38 : decode me_X_cheapest.2.1 38 = .ok (.iload_n 2, 1) := by decide +kernel
theorem d_X_cheapest_39 : decode me_X_cheapest.2.1 39 = .ok (.invokevirtual 232, 3) := by decide +kernel
theorem d_X_cheapest_42 : decode me_X_cheapest.2.1 42 = .ok (.ireturn, 1) := by decide +kernel
noncomputable def f_X_cheapest  (a1 : Int32) (m0 : gk_M) : Option (Int32 × gk_M) :=
  gk_bi (f_X_isChoice a1 1 m0) fun v2 m1 =>
  if ¬ v2 = 0 then
    gk_bv (f_Planner_findQuarrels  m1) fun m3 =>
    gk_bi (f_Planner_leastToGo 1 m3) fun v5 m4 =>
    if ¬ a1 = 0 then
      gk_bi (f_Planner_priceOf v5 m4) fun v7 m6 =>
      some (v7, m6)
    else
      some (v5, m4)
  else
    some ((-1), m1)

theorem s_X_cheapest_0 {z : gk_Z} (K : gk_F tx z me_X_cheapest 8) {r : Int32} {mem2 : gk_M} : ∀ a1 m0, f_X_cheapest a1 m0 = some (r, mem2) → gk_G tx z me_X_cheapest (gk_R tx z (some (.int r)) mem2) m0 [(0, .ref 0), (1, .int a1)] [] 0 := by
  intro a1 m0  h
  unfold f_X_cheapest at h
  refine gk_iload_n (pc := 0) K d_X_cheapest_0 rfl ?_
  refine gk_iconst (pc := 1) K d_X_cheapest_1 kc_1 ?_
  obtain ⟨v2, m1, em1, h⟩ := gk_bi_some h
  refine gk_cSi (As := [.int a1, .int 1]) (pc := 2) K d_X_cheapest_2 ms_X_180 mc_X_isChoice rfl (s_X_isChoice (gk_FD K)  em1) (by decide) rfl (Nat.le_of_ble_eq_true rfl) ?_
  refine gk_if_ne (tgt := 10) (pc := 5) K d_X_cheapest_5 (by decide) h (fun h => ?_) (fun h => ?_)
  · refine gk_aload_n (pc := 10) K d_X_cheapest_10 rfl ?_
    refine gk_get (pc := 11) K d_X_cheapest_11 fl_X_37 tx_0 rfl rfl ?_
    obtain ⟨m3, em3, h⟩ := gk_bv_some h
    refine gk_cVv (As := []) (pc := 14) K d_X_cheapest_14 mv_X_225 mc_Planner_findQuarrels rfl tx_21 cl_ok3.1 (s_Planner_findQuarrels (gk_FD K)  em3) (by decide) rfl (Nat.le_of_ble_eq_true rfl) ?_
    refine gk_aload_n (pc := 17) K d_X_cheapest_17 rfl ?_
    refine gk_get (pc := 18) K d_X_cheapest_18 fl_X_37 tx_0 rfl rfl ?_
    refine gk_iconst (pc := 21) K d_X_cheapest_21 kc_1 ?_
    obtain ⟨v5, m4, em4, h⟩ := gk_bi_some h
    refine gk_cVi (As := [.int 1]) (pc := 22) K d_X_cheapest_22 mv_X_228 mc_Planner_leastToGo rfl tx_21 cl_ok3.1 (s_Planner_leastToGo (gk_FD K)  em4) (by decide) rfl (Nat.le_of_ble_eq_true rfl) ?_
    refine gk_istore_n (lv2 := [(2, .int v5), (0, .ref 0), (1, .int a1)]) (pc := 25) K d_X_cheapest_25 (by decide) rfl ?_
    refine gk_iload_n (pc := 26) K d_X_cheapest_26 rfl ?_
    refine gk_if_ne (tgt := 34) (pc := 27) K d_X_cheapest_27 (by decide) h (fun h => ?_) (fun h => ?_)
    · refine gk_aload_n (pc := 34) K d_X_cheapest_34 rfl ?_
      refine gk_get (pc := 35) K d_X_cheapest_35 fl_X_37 tx_0 rfl rfl ?_
      refine gk_iload_n (pc := 38) K d_X_cheapest_38 rfl ?_
      obtain ⟨v7, m6, em6, h⟩ := gk_bi_some h
      refine gk_cVi (As := [.int v5]) (pc := 39) K d_X_cheapest_39 mv_X_232 mc_Planner_priceOf rfl tx_21 cl_ok3.1 (s_Planner_priceOf (gk_FD K)  em6) (by decide) rfl (Nat.le_of_ble_eq_true rfl) ?_
      exact gk_iret (pc := 42) K d_X_cheapest_42 rfl h
    · refine gk_iload_n (pc := 30) K d_X_cheapest_30 rfl ?_
      refine gk_goto (tgt := 42) (pc := 31) K d_X_cheapest_31 (by decide) ?_
      exact gk_iret (pc := 42) K d_X_cheapest_42 rfl h
  · refine gk_iconst (pc := 8) K d_X_cheapest_8 kc_m1 ?_
    exact gk_iret (pc := 9) K d_X_cheapest_9 rfl h
theorem s_X_cheapest {l : Launch} {u : gk_U} (hD : gk_D tx u) {a1 : Int32} {m0 mem2 : gk_M} {r : Int32} (h : f_X_cheapest a1 m0 = some (r, mem2)) : gk_C tx l u me_X_cheapest 8 [.ref 0, .int a1] m0 (some (.int r)) mem2 :=
  gk_enter hD mc_X_cheapest (Nat.le_of_ble_eq_true rfl) rfl (fun z _ _ K => s_X_cheapest_0 K _ _  h)
theorem d_Planner_target_0 : decode me_Planner_target.2.1 0 = .ok (.aload_n 0, 1) := by decide +kernel
theorem d_Planner_target_1 : decode me_Planner_target.2.1 1 = .ok (.getfield 25, 3) := by decide +kernel
theorem d_Planner_target_4 : decode me_Planner_target.2.1 4 = .ok (.getfield 69, 3) := by decide +kernel
theorem d_Planner_target_7 : decode me_Planner_target.2.1 7 = .ok (.iload_n 1, 1) := by decide +kernel
theorem d_Planner_target_8 : decode me_Planner_target.2.1 8 = .ok (.iaload, 1) := by decide +kernel
theorem d_Planner_target_9 : decode me_Planner_target.2.1 9 = .ok (.iload_n 2, 1) := by decide +kernel
theorem d_Planner_target_10 : decode me_Planner_target.2.1 10 = .ok (.iadd, 1) := by decide +kernel
theorem d_Planner_target_11 : decode me_Planner_target.2.1 11 = .ok (.istore 4, 2) := by decide +kernel
theorem d_Planner_target_13 : decode me_Planner_target.2.1 13 = .ok (.aload_n 0, 1) := by decide +kernel
theorem d_Planner_target_14 : decode me_Planner_target.2.1 14 = .ok (.getfield 25, 3) := by decide +kernel
theorem d_Planner_target_17 : decode me_Planner_target.2.1 17 = .ok (.getfield 72, 3) := by decide +kernel
theorem d_Planner_target_20 : decode me_Planner_target.2.1 20 = .ok (.iload_n 1, 1) := by decide +kernel
theorem d_Planner_target_21 : decode me_Planner_target.2.1 21 = .ok (.iaload, 1) := by decide +kernel
theorem d_Planner_target_22 : decode me_Planner_target.2.1 22 = .ok (.iload_n 3, 1) := by decide +kernel
theorem d_Planner_target_23 : decode me_Planner_target.2.1 23 = .ok (.iadd, 1) := by decide +kernel
theorem d_Planner_target_24 : decode me_Planner_target.2.1 24 = .ok (.istore 5, 2) := by decide +kernel
theorem d_Planner_target_26 : decode me_Planner_target.2.1 26 = .ok (.iload 4, 2) := by decide +kernel
theorem d_Planner_target_28 : decode me_Planner_target.2.1 28 = .ok (.ifCond .lt 22, 3) := by decide +kernel
theorem d_Planner_target_31 : decode me_Planner_target.2.1 31 = .ok (.iload 4, 2) := by decide +kernel
theorem d_Planner_target_33 : decode me_Planner_target.2.1 33 = .ok (.bipush 30, 2) := by decide +kernel
theorem d_Planner_target_35 : decode me_Planner_target.2.1 35 = .ok (.if_icmp .ge 15, 3) := by decide +kernel
theorem d_Planner_target_38 : decode me_Planner_target.2.1 38 = .ok (.iload 5, 2) := by decide +kernel
theorem d_Planner_target_40 : decode me_Planner_target.2.1 40 = .ok (.ifCond .lt 10, 3) := by decide +kernel
theorem d_Planner_target_43 : decode me_Planner_target.2.1 43 = .ok (.iload 5, 2) := by decide +kernel
theorem d_Planner_target_45 : decode me_Planner_target.2.1 45 = .ok (.bipush 30, 2) := by decide +kernel
theorem d_Planner_target_47 : decode me_Planner_target.2.1 47 = .ok (.if_icmp .lt 6, 3) := by decide +kernel
theorem d_Planner_target_50 : decode me_Planner_target.2.1 50 = .ok (.bipush (-2), 2) := by decide +kernel
theorem d_Planner_target_52 : decode me_Planner_target.2.1 52 = .ok (.ireturn, 1) := by decide +kernel
theorem d_Planner_target_53 : decode me_Planner_target.2.1 53 = .ok (.bipush 30, 2) := by decide +kernel
theorem d_Planner_target_55 : decode me_Planner_target.2.1 55 = .ok (.iload 5, 2) := by decide +kernel
theorem d_Planner_target_57 : decode me_Planner_target.2.1 57 = .ok (.imul, 1) := by decide +kernel
theorem d_Planner_target_58 : decode me_Planner_target.2.1 58 = .ok (.iload 4, 2) := by decide +kernel
theorem d_Planner_target_60 : decode me_Planner_target.2.1 60 = .ok (.iadd, 1) := by decide +kernel
theorem d_Planner_target_61 : decode me_Planner_target.2.1 61 = .ok (.istore 6, 2) := by decide +kernel
theorem d_Planner_target_63 : decode me_Planner_target.2.1 63 = .ok (.iload 6, 2) := by decide +kernel
theorem d_Planner_target_65 : decode me_Planner_target.2.1 65 = .ok (.aload_n 0, 1) := by decide +kernel
theorem d_Planner_target_66 : decode me_Planner_target.2.1 66 = .ok (.getfield 25, 3) := by decide +kernel
theorem d_Planner_target_69 : decode me_Planner_target.2.1 69 = .ok (.iload_n 1, 1) := by decide +kernel
theorem d_Planner_target_70 : decode me_Planner_target.2.1 70 = .ok (.invokevirtual 75, 3) := by decide +kernel
theorem d_Planner_target_73 : decode me_Planner_target.2.1 73 = .ok (.if_icmp .eq 20, 3) := by decide +kernel
theorem d_Planner_target_76 : decode me_Planner_target.2.1 76 = .ok (.aload_n 0, 1) := by decide +kernel
theorem d_Planner_target_77 : decode me_Planner_target.2.1 77 = .ok (.getfield 25, 3) := by decide +kernel
theorem d_Planner_target_80 : decode me_Planner_target.2.1 80 = .ok (.iload 6, 2) := by decide +kernel
theorem d_Planner_target_82 : decode me_Planner_target.2.1 82 = .ok (.invokevirtual 78, 3) := by decide +kernel
theorem d_Planner_target_85 : decode me_Planner_target.2.1 85 = .ok (.ifCond .eq 8, 3) := by decide +kernel
theorem d_Planner_target_88 : decode me_Planner_target.2.1 88 = .ok (.bipush (-2), 2) := by decide +kernel
theorem d_Planner_target_90 : decode me_Planner_target.2.1 90 = .ok (.goto 5, 3) := by decide +kernel
theorem d_Planner_target_93 : decode me_Planner_target.2.1 93 = .ok (.iload 6, 2) := by decide +kernel
theorem d_Planner_target_95 : decode me_Planner_target.2.1 95 = .ok (.ireturn, 1) := by decide +kernel
noncomputable def f_Planner_target  (a1 : Int32) (a2 : Int32) (a3 : Int32) (m0 : gk_M) : Option (Int32 × gk_M) :=
  gk_ai m0 8 12 a1 fun v1 =>
  gk_let (v1 + a2) fun v2 =>
  gk_ai m0 9 12 a1 fun v3 =>
  gk_let (v3 + a3) fun v4 =>
  if v2 < 0 then
    some ((-2), m0)
  else
    if 30 ≤ v2 then
      some ((-2), m0)
    else
      if v4 < 0 then
        some ((-2), m0)
      else
        if v4 < 30 then
          gk_let ((30 * v4) + v2) fun v5 =>
          gk_bi (f_Plain_pointOf a1 m0) fun v7 m6 =>
          if v5 = v7 then
            some (v5, m6)
          else
            gk_bi (f_Plain_hasTower v5 m6) fun v9 m8 =>
            if v9 = 0 then
              some (v5, m8)
            else
              some ((-2), m8)
        else
          some ((-2), m0)

theorem s_Planner_target_0 {z : gk_Z} (K : gk_F tx z me_Planner_target 3) {r : Int32} {mem2 : gk_M} : ∀ a1 a2 a3 m0, f_Planner_target a1 a2 a3 m0 = some (r, mem2) → gk_G tx z me_Planner_target (gk_R tx z (some (.int r)) mem2) m0 [(0, .ref 21), (1, .int a1), (2, .int a2), (3, .int a3)] [] 0 := by
  intro a1 a2 a3 m0  h
  unfold f_Planner_target at h
  refine gk_aload_n (pc := 0) K d_Planner_target_0 rfl ?_
  refine gk_get (pc := 1) K d_Planner_target_1 fl_Planner_25 tx_21 rfl rfl ?_
  refine gk_get (pc := 4) K d_Planner_target_4 fl_Planner_69 tx_7 rfl rfl ?_
  refine gk_iload_n (pc := 7) K d_Planner_target_7 rfl ?_
  refine gk_iald (pc := 8) K d_Planner_target_8 tx_8 h (fun v1 h => ?_)
  refine gk_iload_n (pc := 9) K d_Planner_target_9 rfl ?_
  refine gk_iadd (pc := 10) K d_Planner_target_10 ?_
  refine gk_topi h (fun v2 h => ?_)
  refine gk_istore (lv2 := [(4, .int v2), (0, .ref 21), (1, .int a1), (2, .int a2), (3, .int a3)]) (pc := 11) K d_Planner_target_11 (by decide) rfl ?_
  refine gk_aload_n (pc := 13) K d_Planner_target_13 rfl ?_
  refine gk_get (pc := 14) K d_Planner_target_14 fl_Planner_25 tx_21 rfl rfl ?_
  refine gk_get (pc := 17) K d_Planner_target_17 fl_Planner_72 tx_7 rfl rfl ?_
  refine gk_iload_n (pc := 20) K d_Planner_target_20 rfl ?_
  refine gk_iald (pc := 21) K d_Planner_target_21 tx_9 h (fun v3 h => ?_)
  refine gk_iload_n (pc := 22) K d_Planner_target_22 rfl ?_
  refine gk_iadd (pc := 23) K d_Planner_target_23 ?_
  refine gk_topi h (fun v4 h => ?_)
  refine gk_istore (lv2 := [(5, .int v4), (4, .int v2), (0, .ref 21), (1, .int a1), (2, .int a2), (3, .int a3)]) (pc := 24) K d_Planner_target_24 (by decide) rfl ?_
  refine gk_iload (pc := 26) K d_Planner_target_26 rfl ?_
  refine gk_if_lt (tgt := 50) (pc := 28) K d_Planner_target_28 (by decide) h (fun h => ?_) (fun h => ?_)
  · refine gk_bipush (pc := 50) K d_Planner_target_50 kb_m2 ?_
    exact gk_iret (pc := 52) K d_Planner_target_52 rfl h
  · refine gk_iload (pc := 31) K d_Planner_target_31 rfl ?_
    refine gk_bipush (pc := 33) K d_Planner_target_33 kb_30 ?_
    refine gk_ic_ge (tgt := 50) (pc := 35) K d_Planner_target_35 (by decide) h (fun h => ?_) (fun h => ?_)
    · refine gk_bipush (pc := 50) K d_Planner_target_50 kb_m2 ?_
      exact gk_iret (pc := 52) K d_Planner_target_52 rfl h
    · refine gk_iload (pc := 38) K d_Planner_target_38 rfl ?_
      refine gk_if_lt (tgt := 50) (pc := 40) K d_Planner_target_40 (by decide) h (fun h => ?_) (fun h => ?_)
      · refine gk_bipush (pc := 50) K d_Planner_target_50 kb_m2 ?_
        exact gk_iret (pc := 52) K d_Planner_target_52 rfl h
      · refine gk_iload (pc := 43) K d_Planner_target_43 rfl ?_
        refine gk_bipush (pc := 45) K d_Planner_target_45 kb_30 ?_
        refine gk_ic_lt (tgt := 53) (pc := 47) K d_Planner_target_47 (by decide) h (fun h => ?_) (fun h => ?_)
        · refine gk_bipush (pc := 53) K d_Planner_target_53 kb_30 ?_
          refine gk_iload (pc := 55) K d_Planner_target_55 rfl ?_
          refine gk_imul (pc := 57) K d_Planner_target_57 ?_
          refine gk_iload (pc := 58) K d_Planner_target_58 rfl ?_
          refine gk_iadd (pc := 60) K d_Planner_target_60 ?_
          refine gk_topi h (fun v5 h => ?_)
          refine gk_istore (lv2 := [(6, .int v5), (5, .int v4), (4, .int v2), (0, .ref 21), (1, .int a1), (2, .int a2), (3, .int a3)]) (pc := 61) K d_Planner_target_61 (by decide) rfl ?_
          refine gk_iload (pc := 63) K d_Planner_target_63 rfl ?_
          refine gk_aload_n (pc := 65) K d_Planner_target_65 rfl ?_
          refine gk_get (pc := 66) K d_Planner_target_66 fl_Planner_25 tx_21 rfl rfl ?_
          refine gk_iload_n (pc := 69) K d_Planner_target_69 rfl ?_
          obtain ⟨v7, m6, em6, h⟩ := gk_bi_some h
          refine gk_cVi (As := [.int a1]) (pc := 70) K d_Planner_target_70 mv_Planner_75 mc_Plain_pointOf rfl tx_7 cl_ok2.1 (s_Plain_pointOf (gk_FD K)  em6) (by decide) rfl (Nat.le_of_ble_eq_true rfl) ?_
          refine gk_ic_eq (tgt := 93) (pc := 73) K d_Planner_target_73 (by decide) h (fun h => ?_) (fun h => ?_)
          · refine gk_iload (pc := 93) K d_Planner_target_93 rfl ?_
            exact gk_iret (pc := 95) K d_Planner_target_95 rfl h
          · refine gk_aload_n (pc := 76) K d_Planner_target_76 rfl ?_
            refine gk_get (pc := 77) K d_Planner_target_77 fl_Planner_25 tx_21 rfl rfl ?_
            refine gk_iload (pc := 80) K d_Planner_target_80 rfl ?_
            obtain ⟨v9, m8, em8, h⟩ := gk_bi_some h
            refine gk_cVi (As := [.int v5]) (pc := 82) K d_Planner_target_82 mv_Planner_78 mc_Plain_hasTower rfl tx_7 cl_ok2.1 (s_Plain_hasTower (gk_FD K)  em8) (by decide) rfl (Nat.le_of_ble_eq_true rfl) ?_
            refine gk_if_eq (tgt := 93) (pc := 85) K d_Planner_target_85 (by decide) h (fun h => ?_) (fun h => ?_)
            · refine gk_iload (pc := 93) K d_Planner_target_93 rfl ?_
              exact gk_iret (pc := 95) K d_Planner_target_95 rfl h
            · refine gk_bipush (pc := 88) K d_Planner_target_88 kb_m2 ?_
              refine gk_goto (tgt := 95) (pc := 90) K d_Planner_target_90 (by decide) ?_
              exact gk_iret (pc := 95) K d_Planner_target_95 rfl h
        · refine gk_bipush (pc := 50) K d_Planner_target_50 kb_m2 ?_
          exact gk_iret (pc := 52) K d_Planner_target_52 rfl h
theorem s_Planner_target {l : Launch} {u : gk_U} (hD : gk_D tx u) {a1 : Int32} {a2 : Int32} {a3 : Int32} {m0 mem2 : gk_M} {r : Int32} (h : f_Planner_target a1 a2 a3 m0 = some (r, mem2)) : gk_C tx l u me_Planner_target 3 [.ref 21, .int a1, .int a2, .int a3] m0 (some (.int r)) mem2 :=
  gk_enter hD mc_Planner_target (Nat.le_of_ble_eq_true rfl) rfl (fun z _ _ K => s_Planner_target_0 K _ _ _ _  h)
theorem d_X_moved_0 : decode me_X_moved.2.1 0 = .ok (.aload_n 0, 1) := by decide +kernel
theorem d_X_moved_1 : decode me_X_moved.2.1 1 = .ok (.getfield 28, 3) := by decide +kernel
theorem d_X_moved_4 : decode me_X_moved.2.1 4 = .ok (.iload_n 1, 1) := by decide +kernel
theorem d_X_moved_5 : decode me_X_moved.2.1 5 = .ok (.invokevirtual 147, 3) := by decide +kernel
theorem d_X_moved_8 : decode me_X_moved.2.1 8 = .ok (.ifCond .eq 25, 3) := by decide +kernel
theorem d_X_moved_11 : decode me_X_moved.2.1 11 = .ok (.iload_n 2, 1) := by decide +kernel
theorem d_X_moved_12 : decode me_X_moved.2.1 12 = .ok (.ifCond .lt 21, 3) := by decide +kernel
theorem d_X_moved_15 : decode me_X_moved.2.1 15 = .ok (.iload_n 2, 1) := by decide +kernel
theorem d_X_moved_16 : decode me_X_moved.2.1 16 = .ok (.bipush 100, 2) := by decide +kernel
theorem d_X_moved_18 : decode me_X_moved.2.1 18 = .ok (.idiv, 1) := by decide +kernel
theorem d_X_moved_19 : decode me_X_moved.2.1 19 = .ok (.bipush 18, 2) := by decide +kernel
theorem d_X_moved_21 : decode me_X_moved.2.1 21 = .ok (.if_icmp .gt 12, 3) := by decide +kernel
theorem d_X_moved_24 : decode me_X_moved.2.1 24 = .ok (.iload_n 2, 1) := by decide +kernel
theorem d_X_moved_25 : decode me_X_moved.2.1 25 = .ok (.bipush 100, 2) := by decide +kernel
theorem d_X_moved_27 : decode me_X_moved.2.1 27 = .ok (.irem, 1) := by decide +kernel
theorem d_X_moved_28 : decode me_X_moved.2.1 28 = .ok (.bipush 18, 2) := by decide +kernel
theorem d_X_moved_30 : decode me_X_moved.2.1 30 = .ok (.if_icmp .le 5, 3) := by decide +kernel
theorem d_X_moved_33 : decode me_X_moved.2.1 33 = .ok (.iconst (-1), 1) := by decide +kernel
theorem d_X_moved_34 : decode me_X_moved.2.1 34 = .ok (.ireturn, 1) := by decide +kernel
theorem d_X_moved_35 : decode me_X_moved.2.1 35 = .ok (.aload_n 0, 1) := by decide +kernel
theorem d_X_moved_36 : decode me_X_moved.2.1 36 = .ok (.getfield 28, 3) := by decide +kernel
theorem d_X_moved_39 : decode me_X_moved.2.1 39 = .ok (.iload_n 1, 1) := by decide +kernel
theorem d_X_moved_40 : decode me_X_moved.2.1 40 = .ok (.invokevirtual 167, 3) := by decide +kernel
theorem d_X_moved_43 : decode me_X_moved.2.1 43 = .ok (.istore_n 3, 1) := by decide +kernel
theorem d_X_moved_44 : decode me_X_moved.2.1 44 = .ok (.aload_n 0, 1) := by decide +kernel
theorem d_X_moved_45 : decode me_X_moved.2.1 45 = .ok (.getfield 37, 3) := by decide +kernel
theorem d_X_moved_48 : decode me_X_moved.2.1 48 = .ok (.iload_n 1, 1) := by decide +kernel
theorem d_X_moved_49 : decode me_X_moved.2.1 49 = .ok (.iload_n 2, 1) := by decide +kernel
theorem d_X_moved_50 : decode me_X_moved.2.1 50 = .ok (.bipush 100, 2) := by decide +kernel
theorem d_X_moved_52 : decode me_X_moved.2.1 52 = .ok (.idiv, 1) := by decide +kernel
theorem d_X_moved_53 : decode me_X_moved.2.1 53 = .ok (.bipush 9, 2) := by decide +kernel
theorem d_X_moved_55 : decode me_X_moved.2.1 55 = .ok (.isub, 1) := by decide +kernel
theorem d_X_moved_56 : decode me_X_moved.2.1 56 = .ok (.iload_n 2, 1) := by decide +kernel
theorem d_X_moved_57 : decode me_X_moved.2.1 57 = .ok (.bipush 100, 2) := by decide +kernel
theorem d_X_moved_59 : decode me_X_moved.2.1 59 = .ok (.irem, 1) := by decide +kernel
theorem d_X_moved_60 : decode me_X_moved.2.1 60 = .ok (.bipush 9, 2) := by decide +kernel
theorem d_X_moved_62 : decode me_X_moved.2.1 62 = .ok (.isub, 1) := by decide +kernel
theorem d_X_moved_63 : decode me_X_moved.2.1 63 = .ok (.invokevirtual 235, 3) := by decide +kernel
theorem d_X_moved_66 : decode me_X_moved.2.1 66 = .ok (.istore 4, 2) := by decide +kernel
theorem d_X_moved_68 : decode me_X_moved.2.1 68 = .ok (.iload 4, 2) := by decide +kernel
theorem d_X_moved_70 : decode me_X_moved.2.1 70 = .ok (.ifCond .ge 6, 3) := by decide +kernel
theorem d_X_moved_73 : decode me_X_moved.2.1 73 = .ok (.bipush (-2), 2) := by decide +kernel
theorem d_X_moved_75 : decode me_X_moved.2.1 75 = .ok (.ireturn, 1) := by decide +kernel
theorem d_X_moved_76 : decode me_X_moved.2.1 76 = .ok (.aload_n 0, 1) := by decide +kernel
theorem d_X_moved_77 : decode me_X_moved.2.1 77 = .ok (.getfield 28, 3) := by decide +kernel
theorem d_X_moved_80 : decode me_X_moved.2.1 80 = .ok (.iload_n 1, 1) := by decide +kernel
theorem d_X_moved_81 : decode me_X_moved.2.1 81 = .ok (.iload 4, 2) := by decide +kernel
theorem d_X_moved_83 : decode me_X_moved.2.1 83 = .ok (.invokevirtual 239, 3) := by decide +kernel
theorem d_X_moved_86 : decode me_X_moved.2.1 86 = .ok (.aload_n 0, 1) := by decide +kernel
theorem d_X_moved_87 : decode me_X_moved.2.1 87 = .ok (.getfield 28, 3) := by decide +kernel
theorem d_X_moved_90 : decode me_X_moved.2.1 90 = .ok (.invokevirtual 190, 3) := by decide +kernel
theorem d_X_moved_93 : decode me_X_moved.2.1 93 = .ok (.istore 5, 2) := by decide +kernel
theorem d_X_moved_95 : decode me_X_moved.2.1 95 = .ok (.aload_n 0, 1) := by decide +kernel
theorem d_X_moved_96 : decode me_X_moved.2.1 96 = .ok (.getfield 28, 3) := by decide +kernel
theorem d_X_moved_99 : decode me_X_moved.2.1 99 = .ok (.iload_n 1, 1) := by decide +kernel
theorem d_X_moved_100 : decode me_X_moved.2.1 100 = .ok (.iload_n 3, 1) := by decide +kernel
theorem d_X_moved_101 : decode me_X_moved.2.1 101 = .ok (.invokevirtual 239, 3) := by decide +kernel
theorem d_X_moved_104 : decode me_X_moved.2.1 104 = .ok (.iload 5, 2) := by decide +kernel
theorem d_X_moved_106 : decode me_X_moved.2.1 106 = .ok (.ireturn, 1) := by decide +kernel
noncomputable def f_X_moved  (a1 : Int32) (a2 : Int32) (m0 : gk_M) : Option (Int32 × gk_M) :=
  gk_bi (f_Plain_isTower a1 m0) fun v2 m1 =>
  if v2 = 0 then
    some ((-1), m1)
  else
    if a2 < 0 then
      some ((-1), m1)
    else
      if 18 < (a2 / 100) then
        some ((-1), m1)
      else
        if (gk_rem a2 100) ≤ 18 then
          gk_bi (f_Plain_pointOf a1 m1) fun v4 m3 =>
          gk_bi (f_Planner_target a1 ((a2 / 100) - 9) ((gk_rem a2 100) - 9) m3) fun v6 m5 =>
          if 0 ≤ v6 then
            gk_bv (f_Plain_place a1 v6 m5) fun m7 =>
            gk_bi (f_Plain_allGuilts  m7) fun v9 m8 =>
            gk_bv (f_Plain_place a1 v4 m8) fun m10 =>
            some (v9, m10)
          else
            some ((-2), m5)
        else
          some ((-1), m1)

theorem s_X_moved_0 {z : gk_Z} (K : gk_F tx z me_X_moved 8) {r : Int32} {mem2 : gk_M} : ∀ a1 a2 m0, f_X_moved a1 a2 m0 = some (r, mem2) → gk_G tx z me_X_moved (gk_R tx z (some (.int r)) mem2) m0 [(0, .ref 0), (1, .int a1), (2, .int a2)] [] 0 := by
  intro a1 a2 m0  h
  unfold f_X_moved at h
  refine gk_aload_n (pc := 0) K d_X_moved_0 rfl ?_
  refine gk_get (pc := 1) K d_X_moved_1 fl_X_28 tx_0 rfl rfl ?_
  refine gk_iload_n (pc := 4) K d_X_moved_4 rfl ?_
  obtain ⟨v2, m1, em1, h⟩ := gk_bi_some h
  refine gk_cVi (As := [.int a1]) (pc := 5) K d_X_moved_5 mv_X_147 mc_Plain_isTower rfl tx_7 cl_ok2.1 (s_Plain_isTower (gk_FD K)  em1) (by decide) rfl (Nat.le_of_ble_eq_true rfl) ?_
  refine gk_if_eq (tgt := 33) (pc := 8) K d_X_moved_8 (by decide) h (fun h => ?_) (fun h => ?_)
  · refine gk_iconst (pc := 33) K d_X_moved_33 kc_m1 ?_
    exact gk_iret (pc := 34) K d_X_moved_34 rfl h
  · refine gk_iload_n (pc := 11) K d_X_moved_11 rfl ?_
    refine gk_if_lt (tgt := 33) (pc := 12) K d_X_moved_12 (by decide) h (fun h => ?_) (fun h => ?_)
    · refine gk_iconst (pc := 33) K d_X_moved_33 kc_m1 ?_
      exact gk_iret (pc := 34) K d_X_moved_34 rfl h
    · refine gk_iload_n (pc := 15) K d_X_moved_15 rfl ?_
      refine gk_bipush (pc := 16) K d_X_moved_16 kb_100 ?_
      refine gk_idivc2 (pc := 18) K d_X_moved_18 (by decide) ?_
      refine gk_bipush (pc := 19) K d_X_moved_19 kb_18 ?_
      refine gk_ic_gt (tgt := 33) (pc := 21) K d_X_moved_21 (by decide) h (fun h => ?_) (fun h => ?_)
      · refine gk_iconst (pc := 33) K d_X_moved_33 kc_m1 ?_
        exact gk_iret (pc := 34) K d_X_moved_34 rfl h
      · refine gk_iload_n (pc := 24) K d_X_moved_24 rfl ?_
        refine gk_bipush (pc := 25) K d_X_moved_25 kb_100 ?_
        refine gk_iremc2 (pc := 27) K d_X_moved_27 (by decide) ?_
        refine gk_bipush (pc := 28) K d_X_moved_28 kb_18 ?_
        refine gk_ic_le (tgt := 35) (pc := 30) K d_X_moved_30 (by decide) h (fun h => ?_) (fun h => ?_)
        · refine gk_aload_n (pc := 35) K d_X_moved_35 rfl ?_
          refine gk_get (pc := 36) K d_X_moved_36 fl_X_28 tx_0 rfl rfl ?_
          refine gk_iload_n (pc := 39) K d_X_moved_39 rfl ?_
          obtain ⟨v4, m3, em3, h⟩ := gk_bi_some h
          refine gk_cVi (As := [.int a1]) (pc := 40) K d_X_moved_40 mv_X_167 mc_Plain_pointOf rfl tx_7 cl_ok2.1 (s_Plain_pointOf (gk_FD K)  em3) (by decide) rfl (Nat.le_of_ble_eq_true rfl) ?_
          refine gk_istore_n (lv2 := [(3, .int v4), (0, .ref 0), (1, .int a1), (2, .int a2)]) (pc := 43) K d_X_moved_43 (by decide) rfl ?_
          refine gk_aload_n (pc := 44) K d_X_moved_44 rfl ?_
          refine gk_get (pc := 45) K d_X_moved_45 fl_X_37 tx_0 rfl rfl ?_
          refine gk_iload_n (pc := 48) K d_X_moved_48 rfl ?_
          refine gk_iload_n (pc := 49) K d_X_moved_49 rfl ?_
          refine gk_bipush (pc := 50) K d_X_moved_50 kb_100 ?_
          refine gk_idivc2 (pc := 52) K d_X_moved_52 (by decide) ?_
          refine gk_bipush (pc := 53) K d_X_moved_53 kb_9 ?_
          refine gk_isub (pc := 55) K d_X_moved_55 ?_
          refine gk_iload_n (pc := 56) K d_X_moved_56 rfl ?_
          refine gk_bipush (pc := 57) K d_X_moved_57 kb_100 ?_
          refine gk_iremc2 (pc := 59) K d_X_moved_59 (by decide) ?_
          refine gk_bipush (pc := 60) K d_X_moved_60 kb_9 ?_
          refine gk_isub (pc := 62) K d_X_moved_62 ?_
          obtain ⟨v6, m5, em5, h⟩ := gk_bi_some h
          refine gk_cVi (As := [.int a1, .int ((a2 / 100) - 9), .int ((gk_rem a2 100) - 9)]) (pc := 63) K d_X_moved_63 mv_X_235 mc_Planner_target rfl tx_21 cl_ok3.1 (s_Planner_target (gk_FD K)  em5) (by decide) rfl (Nat.le_of_ble_eq_true rfl) ?_
          refine gk_istore (lv2 := [(4, .int v6), (3, .int v4), (0, .ref 0), (1, .int a1), (2, .int a2)]) (pc := 66) K d_X_moved_66 (by decide) rfl ?_
          refine gk_iload (pc := 68) K d_X_moved_68 rfl ?_
          refine gk_if_ge (tgt := 76) (pc := 70) K d_X_moved_70 (by decide) h (fun h => ?_) (fun h => ?_)
          · refine gk_aload_n (pc := 76) K d_X_moved_76 rfl ?_
            refine gk_get (pc := 77) K d_X_moved_77 fl_X_28 tx_0 rfl rfl ?_
            refine gk_iload_n (pc := 80) K d_X_moved_80 rfl ?_
            refine gk_iload (pc := 81) K d_X_moved_81 rfl ?_
            obtain ⟨m7, em7, h⟩ := gk_bv_some h
            refine gk_cVv (As := [.int a1, .int v6]) (pc := 83) K d_X_moved_83 mv_X_239 mc_Plain_place rfl tx_7 cl_ok2.1 (s_Plain_place (gk_FD K)  em7) (by decide) rfl (Nat.le_of_ble_eq_true rfl) ?_
            refine gk_aload_n (pc := 86) K d_X_moved_86 rfl ?_
            refine gk_get (pc := 87) K d_X_moved_87 fl_X_28 tx_0 rfl rfl ?_
            obtain ⟨v9, m8, em8, h⟩ := gk_bi_some h
            refine gk_cVi (As := []) (pc := 90) K d_X_moved_90 mv_X_190 mc_Plain_allGuilts rfl tx_7 cl_ok2.1 (s_Plain_allGuilts (gk_FD K)  em8) (by decide) rfl (Nat.le_of_ble_eq_true rfl) ?_
            refine gk_istore (lv2 := [(5, .int v9), (4, .int v6), (3, .int v4), (0, .ref 0), (1, .int a1), (2, .int a2)]) (pc := 93) K d_X_moved_93 (by decide) rfl ?_
            refine gk_aload_n (pc := 95) K d_X_moved_95 rfl ?_
            refine gk_get (pc := 96) K d_X_moved_96 fl_X_28 tx_0 rfl rfl ?_
            refine gk_iload_n (pc := 99) K d_X_moved_99 rfl ?_
            refine gk_iload_n (pc := 100) K d_X_moved_100 rfl ?_
            obtain ⟨m10, em10, h⟩ := gk_bv_some h
            refine gk_cVv (As := [.int a1, .int v4]) (pc := 101) K d_X_moved_101 mv_X_239 mc_Plain_place rfl tx_7 cl_ok2.1 (s_Plain_place (gk_FD K)  em10) (by decide) rfl (Nat.le_of_ble_eq_true rfl) ?_
            refine gk_iload (pc := 104) K d_X_moved_104 rfl ?_
            exact gk_iret (pc := 106) K d_X_moved_106 rfl h
          · refine gk_bipush (pc := 73) K d_X_moved_73 kb_m2 ?_
            exact gk_iret (pc := 75) K d_X_moved_75 rfl h
        · refine gk_iconst (pc := 33) K d_X_moved_33 kc_m1 ?_
          exact gk_iret (pc := 34) K d_X_moved_34 rfl h
theorem s_X_moved {l : Launch} {u : gk_U} (hD : gk_D tx u) {a1 : Int32} {a2 : Int32} {m0 mem2 : gk_M} {r : Int32} (h : f_X_moved a1 a2 m0 = some (r, mem2)) : gk_C tx l u me_X_moved 8 [.ref 0, .int a1, .int a2] m0 (some (.int r)) mem2 :=
  gk_enter hD mc_X_moved (Nat.le_of_ble_eq_true rfl) rfl (fun z _ _ K => s_X_moved_0 K _ _ _  h)
theorem d_Planner_bestBend_0 : decode me_Planner_bestBend.2.1 0 = .ok (.aload_n 0, 1) := by decide +kernel
theorem d_Planner_bestBend_1 : decode me_Planner_bestBend.2.1 1 = .ok (.getfield 25, 3) := by decide +kernel
theorem d_Planner_bestBend_4 : decode me_Planner_bestBend.2.1 4 = .ok (.iload_n 1, 1) := by decide +kernel
theorem d_Planner_bestBend_5 : decode me_Planner_bestBend.2.1 5 = .ok (.iload_n 2, 1) := by decide +kernel
theorem d_Planner_bestBend_6 : decode me_Planner_bestBend.2.1 6 = .ok (.invokevirtual 81, 3) := by decide +kernel
theorem d_Planner_bestBend_9 : decode me_Planner_bestBend.2.1 9 = .ok (.istore_n 3, 1) := by decide +kernel
theorem d_Planner_bestBend_10 : decode me_Planner_bestBend.2.1 10 = .ok (.aload_n 0, 1) := by decide +kernel
theorem d_Planner_bestBend_11 : decode me_Planner_bestBend.2.1 11 = .ok (.getfield 25, 3) := by decide +kernel
theorem d_Planner_bestBend_14 : decode me_Planner_bestBend.2.1 14 = .ok (.iload_n 1, 1) := by decide +kernel
theorem d_Planner_bestBend_15 : decode me_Planner_bestBend.2.1 15 = .ok (.iload_n 2, 1) := by decide +kernel
theorem d_Planner_bestBend_16 : decode me_Planner_bestBend.2.1 16 = .ok (.iconst 1, 1) := by decide +kernel
theorem d_Planner_bestBend_17 : decode me_Planner_bestBend.2.1 17 = .ok (.iadd, 1) := by decide +kernel
theorem d_Planner_bestBend_18 : decode me_Planner_bestBend.2.1 18 = .ok (.invokevirtual 81, 3) := by decide +kernel
theorem d_Planner_bestBend_21 : decode me_Planner_bestBend.2.1 21 = .ok (.istore 4, 2) := by decide +kernel
theorem d_Planner_bestBend_23 : decode me_Planner_bestBend.2.1 23 = .ok (.bipush (-2), 2) := by decide +kernel
theorem d_Planner_bestBend_25 : decode me_Planner_bestBend.2.1 25 = .ok (.istore 5, 2) := by decide +kernel
theorem d_Planner_bestBend_27 : decode me_Planner_bestBend.2.1 27 = .ok (.ldc 42, 2) := by decide +kernel
theorem d_Planner_bestBend_29 : decode me_Planner_bestBend.2.1 29 = .ok (.istore 6, 2) := by decide +kernel
theorem d_Planner_bestBend_31 : decode me_Planner_bestBend.2.1 31 = .ok (.iconst 0, 1) := by decide +kernel
theorem d_Planner_bestBend_32 : decode me_Planner_bestBend.2.1 32 = .ok (.istore 7, 2) := by decide +kernel
theorem d_Planner_bestBend_34 : decode me_Planner_bestBend.2.1 34 = .ok (.iload 7, 2) := by decide +kernel
theorem d_Planner_bestBend_36 : decode me_Planner_bestBend.2.1 36 = .ok (.sipush 900, 3) := by decide +kernel
theorem d_Planner_bestBend_39 : decode me_Planner_bestBend.2.1 39 = .ok (.if_icmp .ge 94, 3) := by decide +kernel
theorem d_Planner_bestBend_42 : decode me_Planner_bestBend.2.1 42 = .ok (.iload 6, 2) := by decide +kernel
theorem d_Planner_bestBend_44 : decode me_Planner_bestBend.2.1 44 = .ok (.ifCond .le 89, 3) := by decide +kernel
theorem d_Planner_bestBend_47 : decode me_Planner_bestBend.2.1 47 = .ok (.iload 7, 2) := by decide +kernel
theorem d_Planner_bestBend_49 : decode me_Planner_bestBend.2.1 49 = .ok (.iload_n 3, 1) := by decide +kernel
theorem d_Planner_bestBend_50 : decode me_Planner_bestBend.2.1 50 = .ok (.if_icmp .eq 77, 3) := by decide +kernel
theorem d_Planner_bestBend_53 : decode me_Planner_bestBend.2.1 53 = .ok (.iload 7, 2) := by decide +kernel
theorem d_Planner_bestBend_55 : decode me_Planner_bestBend.2.1 55 = .ok (.iload 4, 2) := by decide +kernel
theorem d_Planner_bestBend_57 : decode me_Planner_bestBend.2.1 57 = .ok (.if_icmp .eq 70, 3) := by decide +kernel
theorem d_Planner_bestBend_60 : decode me_Planner_bestBend.2.1 60 = .ok (.aload_n 0, 1) := by decide +kernel
theorem d_Planner_bestBend_61 : decode me_Planner_bestBend.2.1 61 = .ok (.getfield 25, 3) := by decide +kernel
theorem d_Planner_bestBend_64 : decode me_Planner_bestBend.2.1 64 = .ok (.iload 7, 2) := by decide +kernel
theorem d_Planner_bestBend_66 : decode me_Planner_bestBend.2.1 66 = .ok (.invokevirtual 78, 3) := by decide +kernel
theorem d_Planner_bestBend_69 : decode me_Planner_bestBend.2.1 69 = .ok (.ifCond .eq 6, 3) := by decide +kernel
theorem d_Planner_bestBend_72 : decode me_Planner_bestBend.2.1 72 = .ok (.goto 55, 3) := by decide +kernel
theorem d_Planner_bestBend_75 : decode me_Planner_bestBend.2.1 75 = .ok (.aload_n 0, 1) := by decide +kernel
theorem d_Planner_bestBend_76 : decode me_Planner_bestBend.2.1 76 = .ok (.getfield 25, 3) := by decide +kernel
theorem d_Planner_bestBend_79 : decode me_Planner_bestBend.2.1 79 = .ok (.iload_n 3, 1) := by decide +kernel
theorem d_Planner_bestBend_80 : decode me_Planner_bestBend.2.1 80 = .ok (.iload 7, 2) := by decide +kernel
theorem d_Planner_bestBend_82 : decode me_Planner_bestBend.2.1 82 = .ok (.iload_n 1, 1) := by decide +kernel
theorem d_Planner_bestBend_83 : decode me_Planner_bestBend.2.1 83 = .ok (.iload 6, 2) := by decide +kernel
theorem d_Planner_bestBend_85 : decode me_Planner_bestBend.2.1 85 = .ok (.invokevirtual 84, 3) := by decide +kernel
theorem d_Planner_bestBend_88 : decode me_Planner_bestBend.2.1 88 = .ok (.istore 8, 2) := by decide +kernel
theorem d_Planner_bestBend_90 : decode me_Planner_bestBend.2.1 90 = .ok (.iload 8, 2) := by decide +kernel
theorem d_Planner_bestBend_92 : decode me_Planner_bestBend.2.1 92 = .ok (.aload_n 0, 1) := by decide +kernel
theorem d_Planner_bestBend_93 : decode me_Planner_bestBend.2.1 93 = .ok (.getfield 25, 3) := by decide +kernel
theorem d_Planner_bestBend_96 : decode me_Planner_bestBend.2.1 96 = .ok (.iload 7, 2) := by decide +kernel
theorem d_Planner_bestBend_98 : decode me_Planner_bestBend.2.1 98 = .ok (.iload 4, 2) := by decide +kernel
theorem d_Planner_bestBend_100 : decode me_Planner_bestBend.2.1 100 = .ok (.iload_n 1, 1) := by decide +kernel
theorem d_Planner_bestBend_101 : decode me_Planner_bestBend.2.1 101 = .ok (.iload 6, 2) := by decide +kernel
theorem d_Planner_bestBend_103 : decode me_Planner_bestBend.2.1 103 = .ok (.iload 8, 2) := by decide +kernel
theorem d_Planner_bestBend_105 : decode me_Planner_bestBend.2.1 105 = .ok (.isub, 1) := by decide +kernel
theorem d_Planner_bestBend_106 : decode me_Planner_bestBend.2.1 106 = .ok (.invokevirtual 84, 3) := by decide +kernel
theorem d_Planner_bestBend_109 : decode me_Planner_bestBend.2.1 109 = .ok (.iadd, 1) := by decide +kernel
theorem d_Planner_bestBend_110 : decode me_Planner_bestBend.2.1 110 = .ok (.istore 8, 2) := by decide +kernel
theorem d_Planner_bestBend_112 : decode me_Planner_bestBend.2.1 112 = .ok (.iload 8, 2) := by decide +kernel
theorem d_Planner_bestBend_114 : decode me_Planner_bestBend.2.1 114 = .ok (.iload 6, 2) := by decide +kernel
theorem d_Planner_bestBend_116 : decode me_Planner_bestBend.2.1 116 = .ok (.if_icmp .ge 11, 3) := by decide +kernel
theorem d_Planner_bestBend_119 : decode me_Planner_bestBend.2.1 119 = .ok (.iload 7, 2) := by decide +kernel
theorem d_Planner_bestBend_121 : decode me_Planner_bestBend.2.1 121 = .ok (.istore 5, 2) := by decide +kernel
theorem d_Planner_bestBend_123 : decode me_Planner_bestBend.2.1 123 = .ok (.iload 8, 2) := by decide +kernel
theorem d_Planner_bestBend_125 : decode me_Planner_bestBend.2.1 125 = .ok (.istore 6, 2) := by decide +kernel
theorem d_Planner_bestBend_127 : decode me_Planner_bestBend.2.1 127 = .ok (.iinc 7 1, 3) := by decide +kernel
theorem d_Planner_bestBend_130 : decode me_Planner_bestBend.2.1 130 = .ok (.goto (-96), 3) := by decide +kernel
theorem d_Planner_bestBend_133 : decode me_Planner_bestBend.2.1 133 = .ok (.aload_n 0, 1) := by decide +kernel
theorem d_Planner_bestBend_134 : decode me_Planner_bestBend.2.1 134 = .ok (.aload_n 0, 1) := by decide +kernel
theorem d_Planner_bestBend_135 : decode me_Planner_bestBend.2.1 135 = .ok (.getfield 25, 3) := by decide +kernel
theorem d_Planner_bestBend_138 : decode me_Planner_bestBend.2.1 138 = .ok (.iload_n 3, 1) := by decide +kernel
theorem d_Planner_bestBend_139 : decode me_Planner_bestBend.2.1 139 = .ok (.iload 4, 2) := by decide +kernel
theorem d_Planner_bestBend_141 : decode me_Planner_bestBend.2.1 141 = .ok (.iload_n 1, 1) := by decide +kernel
theorem d_Planner_bestBend_142 : decode me_Planner_bestBend.2.1 142 = .ok (.ldc 42, 2) := by decide +kernel
theorem d_Planner_bestBend_144 : decode me_Planner_bestBend.2.1 144 = .ok (.invokevirtual 84, 3) := by decide +kernel
theorem d_Planner_bestBend_147 : decode me_Planner_bestBend.2.1 147 = .ok (.iload 6, 2) := by decide +kernel
theorem d_Planner_bestBend_149 : decode me_Planner_bestBend.2.1 149 = .ok (.isub, 1) := by decide +kernel
theorem d_Planner_bestBend_150 : decode me_Planner_bestBend.2.1 150 = .ok (.putfield 21, 3) := by decide +kernel
theorem d_Planner_bestBend_153 : decode me_Planner_bestBend.2.1 153 = .ok (.iload 5, 2) := by decide +kernel
theorem d_Planner_bestBend_155 : decode me_Planner_bestBend.2.1 155 = .ok (.ireturn, 1) := by decide +kernel
noncomputable def f_Planner_bestBend_133  (a1 : Int32) (a3 : Int32) (a4 : Int32) (a5 : Int32) (a6 : Int32) (m0 : gk_M) : Option (Int32 × gk_M) :=
  gk_bi (f_Plain_guiltsBetween a3 a4 a1 1000000 m0) fun v2 m1 =>
  gk_let (gk_mi m1 21 4 (v2 - a6)) fun m3 =>
  some (a5, m3)

theorem s_Planner_bestBend_133 {z : gk_Z} (K : gk_F tx z me_Planner_bestBend 7) {r : Int32} {mem2 : gk_M} : ∀ a1 a3 a4 a5 a6 m0, f_Planner_bestBend_133 a1 a3 a4 a5 a6 m0 = some (r, mem2) → gk_G tx z me_Planner_bestBend (gk_R tx z (some (.int r)) mem2) m0 [(0, .ref 21), (1, .int a1), (3, .int a3), (4, .int a4), (5, .int a5), (6, .int a6)] [] 133 := by
  intro a1 a3 a4 a5 a6 m0  h
  unfold f_Planner_bestBend_133 at h
  refine gk_aload_n (pc := 133) K d_Planner_bestBend_133 rfl ?_
  refine gk_aload_n (pc := 134) K d_Planner_bestBend_134 rfl ?_
  refine gk_get (pc := 135) K d_Planner_bestBend_135 fl_Planner_25 tx_21 rfl rfl ?_
  refine gk_iload_n (pc := 138) K d_Planner_bestBend_138 rfl ?_
  refine gk_iload (pc := 139) K d_Planner_bestBend_139 rfl ?_
  refine gk_iload_n (pc := 141) K d_Planner_bestBend_141 rfl ?_
  refine gk_ldc (pc := 142) K d_Planner_bestBend_142 lc_Planner_42 ?_
  obtain ⟨v2, m1, em1, h⟩ := gk_bi_some h
  refine gk_cVi (As := [.int a3, .int a4, .int a1, .int 1000000]) (pc := 144) K d_Planner_bestBend_144 mv_Planner_84 mc_Plain_guiltsBetween rfl tx_7 cl_ok2.1 (s_Plain_guiltsBetween (gk_FD K)  em1) (by decide) rfl (Nat.le_of_ble_eq_true rfl) ?_
  refine gk_iload (pc := 147) K d_Planner_bestBend_147 rfl ?_
  refine gk_isub (pc := 149) K d_Planner_bestBend_149 ?_
  refine gk_puti (pc := 150) K d_Planner_bestBend_150 fp_Planner_21 tx_21 rfl h (fun m3 h => ?_)
  refine gk_iload (pc := 153) K d_Planner_bestBend_153 rfl ?_
  exact gk_iret (pc := 155) K d_Planner_bestBend_155 rfl h
noncomputable def f_Planner_bestBend_34  : Nat → Int32 → Int32 → Int32 → Int32 → Int32 → Int32 → gk_M → Option (Int32 × gk_M)
  | 0, _, _, _, _, _, _, _ => none
  | n + 1, a1, a3, a4, a5, a6, a7, m0 =>
    if 900 ≤ a7 then
      f_Planner_bestBend_133 a1 a3 a4 a5 a6 m0
    else
      if a6 ≤ 0 then
        f_Planner_bestBend_133 a1 a3 a4 a5 a6 m0
      else
        if a7 = a3 then
          f_Planner_bestBend_34 n a1 a3 a4 a5 a6 (a7 + 1) m0
        else
          if a7 = a4 then
            f_Planner_bestBend_34 n a1 a3 a4 a5 a6 (a7 + 1) m0
          else
            gk_bi (f_Plain_hasTower a7 m0) fun v2 m1 =>
            if v2 = 0 then
              gk_bi (f_Plain_guiltsBetween a3 a7 a1 a6 m1) fun v4 m3 =>
              gk_bi (f_Plain_guiltsBetween a7 a4 a1 (a6 - v4) m3) fun v6 m5 =>
              gk_let (v4 + v6) fun v7 =>
              if a6 ≤ v7 then
                f_Planner_bestBend_34 n a1 a3 a4 a5 a6 (a7 + 1) m5
              else
                f_Planner_bestBend_34 n a1 a3 a4 a7 v7 (a7 + 1) m5
            else
              f_Planner_bestBend_34 n a1 a3 a4 a5 a6 (a7 + 1) m1

theorem s_Planner_bestBend_34 {z : gk_Z} (K : gk_F tx z me_Planner_bestBend 7) {r : Int32} {mem2 : gk_M} : ∀ n a1 a3 a4 a5 a6 a7 m0, f_Planner_bestBend_34 n a1 a3 a4 a5 a6 a7 m0 = some (r, mem2) → gk_G tx z me_Planner_bestBend (gk_R tx z (some (.int r)) mem2) m0 [(0, .ref 21), (1, .int a1), (3, .int a3), (4, .int a4), (5, .int a5), (6, .int a6), (7, .int a7)] [] 34 := by
  intro n
  induction n with
  | zero => intro a1 a3 a4 a5 a6 a7 m0  h; exact nomatch (show (none : Option _) = some _ from h)
  | succ n ih =>
    intro a1 a3 a4 a5 a6 a7 m0  h
    unfold f_Planner_bestBend_34 at h
    refine gk_iload (pc := 34) K d_Planner_bestBend_34 rfl ?_
    refine gk_sipush (pc := 36) K d_Planner_bestBend_36 ks_900 ?_
    refine gk_ic_ge (tgt := 133) (pc := 39) K d_Planner_bestBend_39 (by decide) h (fun h => ?_) (fun h => ?_)
    · exact gk_sub [0, 1, 2, 3, 4, 5] rfl (s_Planner_bestBend_133 K _ _ _ _ _ _  h)
    · refine gk_iload (pc := 42) K d_Planner_bestBend_42 rfl ?_
      refine gk_if_le (tgt := 133) (pc := 44) K d_Planner_bestBend_44 (by decide) h (fun h => ?_) (fun h => ?_)
      · exact gk_sub [0, 1, 2, 3, 4, 5] rfl (s_Planner_bestBend_133 K _ _ _ _ _ _  h)
      · refine gk_iload (pc := 47) K d_Planner_bestBend_47 rfl ?_
        refine gk_iload_n (pc := 49) K d_Planner_bestBend_49 rfl ?_
        refine gk_ic_eq (tgt := 127) (pc := 50) K d_Planner_bestBend_50 (by decide) h (fun h => ?_) (fun h => ?_)
        · refine gk_iinc2 (lv2 := [(7, .int (a7 + 1)), (0, .ref 21), (1, .int a1), (3, .int a3), (4, .int a4), (5, .int a5), (6, .int a6)]) (pc := 127) K d_Planner_bestBend_127 rfl kc_1 (by decide) rfl ?_
          refine gk_goto (tgt := 34) (pc := 130) K d_Planner_bestBend_130 (by decide) ?_
          exact gk_sub [1, 2, 3, 4, 5, 6, 0] rfl (ih _ _ _ _ _ _ _  h)
        · refine gk_iload (pc := 53) K d_Planner_bestBend_53 rfl ?_
          refine gk_iload (pc := 55) K d_Planner_bestBend_55 rfl ?_
          refine gk_ic_eq (tgt := 127) (pc := 57) K d_Planner_bestBend_57 (by decide) h (fun h => ?_) (fun h => ?_)
          · refine gk_iinc2 (lv2 := [(7, .int (a7 + 1)), (0, .ref 21), (1, .int a1), (3, .int a3), (4, .int a4), (5, .int a5), (6, .int a6)]) (pc := 127) K d_Planner_bestBend_127 rfl kc_1 (by decide) rfl ?_
            refine gk_goto (tgt := 34) (pc := 130) K d_Planner_bestBend_130 (by decide) ?_
            exact gk_sub [1, 2, 3, 4, 5, 6, 0] rfl (ih _ _ _ _ _ _ _  h)
          · refine gk_aload_n (pc := 60) K d_Planner_bestBend_60 rfl ?_
            refine gk_get (pc := 61) K d_Planner_bestBend_61 fl_Planner_25 tx_21 rfl rfl ?_
            refine gk_iload (pc := 64) K d_Planner_bestBend_64 rfl ?_
            obtain ⟨v2, m1, em1, h⟩ := gk_bi_some h
            refine gk_cVi (As := [.int a7]) (pc := 66) K d_Planner_bestBend_66 mv_Planner_78 mc_Plain_hasTower rfl tx_7 cl_ok2.1 (s_Plain_hasTower (gk_FD K)  em1) (by decide) rfl (Nat.le_of_ble_eq_true rfl) ?_
            refine gk_if_eq (tgt := 75) (pc := 69) K d_Planner_bestBend_69 (by decide) h (fun h => ?_) (fun h => ?_)
            · refine gk_aload_n (pc := 75) K d_Planner_bestBend_75 rfl ?_
              refine gk_get (pc := 76) K d_Planner_bestBend_76 fl_Planner_25 tx_21 rfl rfl ?_
              refine gk_iload_n (pc := 79) K d_Planner_bestBend_79 rfl ?_
              refine gk_iload (pc := 80) K d_Planner_bestBend_80 rfl ?_
              refine gk_iload_n (pc := 82) K d_Planner_bestBend_82 rfl ?_
              refine gk_iload (pc := 83) K d_Planner_bestBend_83 rfl ?_
              obtain ⟨v4, m3, em3, h⟩ := gk_bi_some h
              refine gk_cVi (As := [.int a3, .int a7, .int a1, .int a6]) (pc := 85) K d_Planner_bestBend_85 mv_Planner_84 mc_Plain_guiltsBetween rfl tx_7 cl_ok2.1 (s_Plain_guiltsBetween (gk_FD K)  em3) (by decide) rfl (Nat.le_of_ble_eq_true rfl) ?_
              refine gk_istore (lv2 := [(8, .int v4), (0, .ref 21), (1, .int a1), (3, .int a3), (4, .int a4), (5, .int a5), (6, .int a6), (7, .int a7)]) (pc := 88) K d_Planner_bestBend_88 (by decide) rfl ?_
              refine gk_iload (pc := 90) K d_Planner_bestBend_90 rfl ?_
              refine gk_aload_n (pc := 92) K d_Planner_bestBend_92 rfl ?_
              refine gk_get (pc := 93) K d_Planner_bestBend_93 fl_Planner_25 tx_21 rfl rfl ?_
              refine gk_iload (pc := 96) K d_Planner_bestBend_96 rfl ?_
              refine gk_iload (pc := 98) K d_Planner_bestBend_98 rfl ?_
              refine gk_iload_n (pc := 100) K d_Planner_bestBend_100 rfl ?_
              refine gk_iload (pc := 101) K d_Planner_bestBend_101 rfl ?_
              refine gk_iload (pc := 103) K d_Planner_bestBend_103 rfl ?_
              refine gk_isub (pc := 105) K d_Planner_bestBend_105 ?_
              obtain ⟨v6, m5, em5, h⟩ := gk_bi_some h
              refine gk_cVi (As := [.int a7, .int a4, .int a1, .int (a6 - v4)]) (pc := 106) K d_Planner_bestBend_106 mv_Planner_84 mc_Plain_guiltsBetween rfl tx_7 cl_ok2.1 (s_Plain_guiltsBetween (gk_FD K)  em5) (by decide) rfl (Nat.le_of_ble_eq_true rfl) ?_
              refine gk_iadd (pc := 109) K d_Planner_bestBend_109 ?_
              refine gk_topi h (fun v7 h => ?_)
              refine gk_istore (lv2 := [(8, .int v7), (0, .ref 21), (1, .int a1), (3, .int a3), (4, .int a4), (5, .int a5), (6, .int a6), (7, .int a7)]) (pc := 110) K d_Planner_bestBend_110 (by decide) rfl ?_
              refine gk_iload (pc := 112) K d_Planner_bestBend_112 rfl ?_
              refine gk_iload (pc := 114) K d_Planner_bestBend_114 rfl ?_
              refine gk_ic_ge (tgt := 127) (pc := 116) K d_Planner_bestBend_116 (by decide) h (fun h => ?_) (fun h => ?_)
              · refine gk_iinc2 (lv2 := [(7, .int (a7 + 1)), (8, .int v7), (0, .ref 21), (1, .int a1), (3, .int a3), (4, .int a4), (5, .int a5), (6, .int a6)]) (pc := 127) K d_Planner_bestBend_127 rfl kc_1 (by decide) rfl ?_
                refine gk_goto (tgt := 34) (pc := 130) K d_Planner_bestBend_130 (by decide) ?_
                exact gk_sub [2, 3, 4, 5, 6, 7, 0] rfl (ih _ _ _ _ _ _ _  h)
              · refine gk_iload (pc := 119) K d_Planner_bestBend_119 rfl ?_
                refine gk_istore (lv2 := [(5, .int a7), (8, .int v7), (0, .ref 21), (1, .int a1), (3, .int a3), (4, .int a4), (6, .int a6), (7, .int a7)]) (pc := 121) K d_Planner_bestBend_121 (by decide) rfl ?_
                refine gk_iload (pc := 123) K d_Planner_bestBend_123 rfl ?_
                refine gk_istore (lv2 := [(6, .int v7), (5, .int a7), (8, .int v7), (0, .ref 21), (1, .int a1), (3, .int a3), (4, .int a4), (7, .int a7)]) (pc := 125) K d_Planner_bestBend_125 (by decide) rfl ?_
                refine gk_iinc2 (lv2 := [(7, .int (a7 + 1)), (6, .int v7), (5, .int a7), (8, .int v7), (0, .ref 21), (1, .int a1), (3, .int a3), (4, .int a4)]) (pc := 127) K d_Planner_bestBend_127 rfl kc_1 (by decide) rfl ?_
                refine gk_goto (tgt := 34) (pc := 130) K d_Planner_bestBend_130 (by decide) ?_
                exact gk_sub [4, 5, 6, 7, 2, 1, 0] rfl (ih _ _ _ _ _ _ _  h)
            · refine gk_goto (tgt := 127) (pc := 72) K d_Planner_bestBend_72 (by decide) ?_
              refine gk_iinc2 (lv2 := [(7, .int (a7 + 1)), (0, .ref 21), (1, .int a1), (3, .int a3), (4, .int a4), (5, .int a5), (6, .int a6)]) (pc := 127) K d_Planner_bestBend_127 rfl kc_1 (by decide) rfl ?_
              refine gk_goto (tgt := 34) (pc := 130) K d_Planner_bestBend_130 (by decide) ?_
              exact gk_sub [1, 2, 3, 4, 5, 6, 0] rfl (ih _ _ _ _ _ _ _  h)
noncomputable def f_Planner_bestBend  (a1 : Int32) (a2 : Int32) (m0 : gk_M) : Option (Int32 × gk_M) :=
  gk_bi (f_Plain_cornerAt a1 a2 m0) fun v2 m1 =>
  gk_bi (f_Plain_cornerAt a1 (a2 + 1) m1) fun v4 m3 =>
  f_Planner_bestBend_34 gk_fv a1 v2 v4 (-2) 1000000 0 m3

theorem s_Planner_bestBend_0 {z : gk_Z} (K : gk_F tx z me_Planner_bestBend 7) {r : Int32} {mem2 : gk_M} : ∀ a1 a2 m0, f_Planner_bestBend a1 a2 m0 = some (r, mem2) → gk_G tx z me_Planner_bestBend (gk_R tx z (some (.int r)) mem2) m0 [(0, .ref 21), (1, .int a1), (2, .int a2)] [] 0 := by
  intro a1 a2 m0  h
  unfold f_Planner_bestBend at h
  refine gk_aload_n (pc := 0) K d_Planner_bestBend_0 rfl ?_
  refine gk_get (pc := 1) K d_Planner_bestBend_1 fl_Planner_25 tx_21 rfl rfl ?_
  refine gk_iload_n (pc := 4) K d_Planner_bestBend_4 rfl ?_
  refine gk_iload_n (pc := 5) K d_Planner_bestBend_5 rfl ?_
  obtain ⟨v2, m1, em1, h⟩ := gk_bi_some h
  refine gk_cVi (As := [.int a1, .int a2]) (pc := 6) K d_Planner_bestBend_6 mv_Planner_81 mc_Plain_cornerAt rfl tx_7 cl_ok2.1 (s_Plain_cornerAt (gk_FD K)  em1) (by decide) rfl (Nat.le_of_ble_eq_true rfl) ?_
  refine gk_istore_n (lv2 := [(3, .int v2), (0, .ref 21), (1, .int a1), (2, .int a2)]) (pc := 9) K d_Planner_bestBend_9 (by decide) rfl ?_
  refine gk_aload_n (pc := 10) K d_Planner_bestBend_10 rfl ?_
  refine gk_get (pc := 11) K d_Planner_bestBend_11 fl_Planner_25 tx_21 rfl rfl ?_
  refine gk_iload_n (pc := 14) K d_Planner_bestBend_14 rfl ?_
  refine gk_iload_n (pc := 15) K d_Planner_bestBend_15 rfl ?_
  refine gk_iconst (pc := 16) K d_Planner_bestBend_16 kc_1 ?_
  refine gk_iadd (pc := 17) K d_Planner_bestBend_17 ?_
  obtain ⟨v4, m3, em3, h⟩ := gk_bi_some h
  refine gk_cVi (As := [.int a1, .int (a2 + 1)]) (pc := 18) K d_Planner_bestBend_18 mv_Planner_81 mc_Plain_cornerAt rfl tx_7 cl_ok2.1 (s_Plain_cornerAt (gk_FD K)  em3) (by decide) rfl (Nat.le_of_ble_eq_true rfl) ?_
  refine gk_istore (lv2 := [(4, .int v4), (3, .int v2), (0, .ref 21), (1, .int a1), (2, .int a2)]) (pc := 21) K d_Planner_bestBend_21 (by decide) rfl ?_
  refine gk_bipush (pc := 23) K d_Planner_bestBend_23 kb_m2 ?_
  refine gk_istore (lv2 := [(5, .int (-2)), (4, .int v4), (3, .int v2), (0, .ref 21), (1, .int a1), (2, .int a2)]) (pc := 25) K d_Planner_bestBend_25 (by decide) rfl ?_
  refine gk_ldc (pc := 27) K d_Planner_bestBend_27 lc_Planner_42 ?_
  refine gk_istore (lv2 := [(6, .int 1000000), (5, .int (-2)), (4, .int v4), (3, .int v2), (0, .ref 21), (1, .int a1), (2, .int a2)]) (pc := 29) K d_Planner_bestBend_29 (by decide) rfl ?_
  refine gk_iconst (pc := 31) K d_Planner_bestBend_31 kc_0 ?_
  refine gk_istore (lv2 := [(7, .int 0), (6, .int 1000000), (5, .int (-2)), (4, .int v4), (3, .int v2), (0, .ref 21), (1, .int a1), (2, .int a2)]) (pc := 32) K d_Planner_bestBend_32 (by decide) rfl ?_
  exact gk_sub [5, 6, 4, 3, 2, 1, 0] rfl (s_Planner_bestBend_34 K _ _ _ _ _ _ _ _  h)
theorem s_Planner_bestBend {l : Launch} {u : gk_U} (hD : gk_D tx u) {a1 : Int32} {a2 : Int32} {m0 mem2 : gk_M} {r : Int32} (h : f_Planner_bestBend a1 a2 m0 = some (r, mem2)) : gk_C tx l u me_Planner_bestBend 7 [.ref 21, .int a1, .int a2] m0 (some (.int r)) mem2 :=
  gk_enter hD mc_Planner_bestBend (Nat.le_of_ble_eq_true rfl) rfl (fun z _ _ K => s_Planner_bestBend_0 K _ _ _  h)
theorem d_X_bent_0 : decode me_X_bent.2.1 0 = .ok (.aload_n 0, 1) := by decide +kernel
theorem d_X_bent_1 : decode me_X_bent.2.1 1 = .ok (.iload_n 1, 1) := by decide +kernel
theorem d_X_bent_2 : decode me_X_bent.2.1 2 = .ok (.invokevirtual 177, 3) := by decide +kernel
theorem d_X_bent_5 : decode me_X_bent.2.1 5 = .ok (.ifCond .eq 11, 3) := by decide +kernel
theorem d_X_bent_8 : decode me_X_bent.2.1 8 = .ok (.iload_n 2, 1) := by decide +kernel
theorem d_X_bent_9 : decode me_X_bent.2.1 9 = .ok (.iconst 1, 1) := by decide +kernel
theorem d_X_bent_10 : decode me_X_bent.2.1 10 = .ok (.invokestatic 180, 3) := by decide +kernel
theorem d_X_bent_13 : decode me_X_bent.2.1 13 = .ok (.ifCond .ne 5, 3) := by decide +kernel
theorem d_X_bent_16 : decode me_X_bent.2.1 16 = .ok (.iconst (-1), 1) := by decide +kernel
theorem d_X_bent_17 : decode me_X_bent.2.1 17 = .ok (.ireturn, 1) := by decide +kernel
theorem d_X_bent_18 : decode me_X_bent.2.1 18 = .ok (.aload_n 0, 1) := by decide +kernel
theorem d_X_bent_19 : decode me_X_bent.2.1 19 = .ok (.getfield 28, 3) := by decide +kernel
theorem d_X_bent_22 : decode me_X_bent.2.1 22 = .ok (.getfield 109, 3) := by decide +kernel
theorem d_X_bent_25 : decode me_X_bent.2.1 25 = .ok (.iload_n 1, 1) := by decide +kernel
theorem d_X_bent_26 : decode me_X_bent.2.1 26 = .ok (.bipush 10, 2) := by decide +kernel
theorem d_X_bent_28 : decode me_X_bent.2.1 28 = .ok (.idiv, 1) := by decide +kernel
theorem d_X_bent_29 : decode me_X_bent.2.1 29 = .ok (.iaload, 1) := by decide +kernel
theorem d_X_bent_30 : decode me_X_bent.2.1 30 = .ok (.bipush 6, 2) := by decide +kernel
theorem d_X_bent_32 : decode me_X_bent.2.1 32 = .ok (.if_icmp .lt 6, 3) := by decide +kernel
theorem d_X_bent_35 : decode me_X_bent.2.1 35 = .ok (.bipush (-5), 2) := by decide +kernel
theorem d_X_bent_37 : decode me_X_bent.2.1 37 = .ok (.ireturn, 1) := by decide +kernel
theorem d_X_bent_38 : decode me_X_bent.2.1 38 = .ok (.aload_n 0, 1) := by decide +kernel
theorem d_X_bent_39 : decode me_X_bent.2.1 39 = .ok (.getfield 37, 3) := by decide +kernel
theorem d_X_bent_42 : decode me_X_bent.2.1 42 = .ok (.iload_n 1, 1) := by decide +kernel
theorem d_X_bent_43 : decode me_X_bent.2.1 43 = .ok (.bipush 10, 2) := by decide +kernel
theorem d_X_bent_45 : decode me_X_bent.2.1 45 = .ok (.idiv, 1) := by decide +kernel
theorem d_X_bent_46 : decode me_X_bent.2.1 46 = .ok (.iload_n 1, 1) := by decide +kernel
theorem d_X_bent_47 : decode me_X_bent.2.1 47 = .ok (.bipush 10, 2) := by decide +kernel
theorem d_X_bent_49 : decode me_X_bent.2.1 49 = .ok (.irem, 1) := by decide +kernel
theorem d_X_bent_50 : decode me_X_bent.2.1 50 = .ok (.invokevirtual 243, 3) := by decide +kernel
theorem d_X_bent_53 : decode me_X_bent.2.1 53 = .ok (.istore_n 3, 1) := by decide +kernel
theorem d_X_bent_54 : decode me_X_bent.2.1 54 = .ok (.iload_n 2, 1) := by decide +kernel
theorem d_X_bent_55 : decode me_X_bent.2.1 55 = .ok (.ifCond .ne 7, 3) := by decide +kernel
theorem d_X_bent_58 : decode me_X_bent.2.1 58 = .ok (.iload_n 3, 1) := by decide +kernel
theorem d_X_bent_59 : decode me_X_bent.2.1 59 = .ok (.goto 18, 3) := by decide +kernel
theorem d_X_bent_62 : decode me_X_bent.2.1 62 = .ok (.aload_n 0, 1) := by decide +kernel
theorem d_X_bent_63 : decode me_X_bent.2.1 63 = .ok (.getfield 28, 3) := by decide +kernel
theorem d_X_bent_66 : decode me_X_bent.2.1 66 = .ok (.invokevirtual 190, 3) := by decide +kernel
theorem d_X_bent_69 : decode me_X_bent.2.1 69 = .ok (.aload_n 0, 1) := by decide +kernel
theorem d_X_bent_70 : decode me_X_bent.2.1 70 = .ok (.getfield 37, 3) := by decide +kernel
theorem d_X_bent_73 : decode me_X_bent.2.1 73 = .ok (.getfield 246, 3) := by decide +kernel
theorem d_X_bent_76 : decode me_X_bent.2.1 76 = .ok (.isub, 1) := by decide +kernel
theorem d_X_bent_77 : decode me_X_bent.2.1 77 = .ok (.ireturn, 1) := by decide +kernel
noncomputable def f_X_bent  (a1 : Int32) (a2 : Int32) (m0 : gk_M) : Option (Int32 × gk_M) :=
  gk_bi (f_X_isStretch a1 m0) fun v2 m1 =>
  if v2 = 0 then
    some ((-1), m1)
  else
    gk_bi (f_X_isChoice a2 1 m1) fun v4 m3 =>
    if ¬ v4 = 0 then
      gk_ai m3 13 4 (a1 / 10) fun v5 =>
      if v5 < 6 then
        gk_bi (f_Planner_bestBend (a1 / 10) (gk_rem a1 10) m3) fun v7 m6 =>
        if ¬ a2 = 0 then
          gk_bi (f_Plain_allGuilts  m6) fun v9 m8 =>
          some ((v9 - (m8.1 21 4)), m8)
        else
          some (v7, m6)
      else
        some ((-5), m3)
    else
      some ((-1), m3)

theorem s_X_bent_0 {z : gk_Z} (K : gk_F tx z me_X_bent 8) {r : Int32} {mem2 : gk_M} : ∀ a1 a2 m0, f_X_bent a1 a2 m0 = some (r, mem2) → gk_G tx z me_X_bent (gk_R tx z (some (.int r)) mem2) m0 [(0, .ref 0), (1, .int a1), (2, .int a2)] [] 0 := by
  intro a1 a2 m0  h
  unfold f_X_bent at h
  refine gk_aload_n (pc := 0) K d_X_bent_0 rfl ?_
  refine gk_iload_n (pc := 1) K d_X_bent_1 rfl ?_
  obtain ⟨v2, m1, em1, h⟩ := gk_bi_some h
  refine gk_cVi (As := [.int a1]) (pc := 2) K d_X_bent_2 mv_X_177 mc_X_isStretch rfl tx_0 cl_ok9.1 (s_X_isStretch (gk_FD K)  em1) (by decide) rfl (Nat.le_of_ble_eq_true rfl) ?_
  refine gk_if_eq (tgt := 16) (pc := 5) K d_X_bent_5 (by decide) h (fun h => ?_) (fun h => ?_)
  · refine gk_iconst (pc := 16) K d_X_bent_16 kc_m1 ?_
    exact gk_iret (pc := 17) K d_X_bent_17 rfl h
  · refine gk_iload_n (pc := 8) K d_X_bent_8 rfl ?_
    refine gk_iconst (pc := 9) K d_X_bent_9 kc_1 ?_
    obtain ⟨v4, m3, em3, h⟩ := gk_bi_some h
    refine gk_cSi (As := [.int a2, .int 1]) (pc := 10) K d_X_bent_10 ms_X_180 mc_X_isChoice rfl (s_X_isChoice (gk_FD K)  em3) (by decide) rfl (Nat.le_of_ble_eq_true rfl) ?_
    refine gk_if_ne (tgt := 18) (pc := 13) K d_X_bent_13 (by decide) h (fun h => ?_) (fun h => ?_)
    · refine gk_aload_n (pc := 18) K d_X_bent_18 rfl ?_
      refine gk_get (pc := 19) K d_X_bent_19 fl_X_28 tx_0 rfl rfl ?_
      refine gk_get (pc := 22) K d_X_bent_22 fl_X_109 tx_7 rfl rfl ?_
      refine gk_iload_n (pc := 25) K d_X_bent_25 rfl ?_
      refine gk_bipush (pc := 26) K d_X_bent_26 kb_10 ?_
      refine gk_idivc2 (pc := 28) K d_X_bent_28 (by decide) ?_
      refine gk_iald (pc := 29) K d_X_bent_29 tx_13 h (fun v5 h => ?_)
      refine gk_bipush (pc := 30) K d_X_bent_30 kb_6 ?_
      refine gk_ic_lt (tgt := 38) (pc := 32) K d_X_bent_32 (by decide) h (fun h => ?_) (fun h => ?_)
      · refine gk_aload_n (pc := 38) K d_X_bent_38 rfl ?_
        refine gk_get (pc := 39) K d_X_bent_39 fl_X_37 tx_0 rfl rfl ?_
        refine gk_iload_n (pc := 42) K d_X_bent_42 rfl ?_
        refine gk_bipush (pc := 43) K d_X_bent_43 kb_10 ?_
        refine gk_idivc2 (pc := 45) K d_X_bent_45 (by decide) ?_
        refine gk_iload_n (pc := 46) K d_X_bent_46 rfl ?_
        refine gk_bipush (pc := 47) K d_X_bent_47 kb_10 ?_
        refine gk_iremc2 (pc := 49) K d_X_bent_49 (by decide) ?_
        obtain ⟨v7, m6, em6, h⟩ := gk_bi_some h
        refine gk_cVi (As := [.int (a1 / 10), .int (gk_rem a1 10)]) (pc := 50) K d_X_bent_50 mv_X_243 mc_Planner_bestBend rfl tx_21 cl_ok3.1 (s_Planner_bestBend (gk_FD K)  em6) (by decide) rfl (Nat.le_of_ble_eq_true rfl) ?_
        refine gk_istore_n (lv2 := [(3, .int v7), (0, .ref 0), (1, .int a1), (2, .int a2)]) (pc := 53) K d_X_bent_53 (by decide) rfl ?_
        refine gk_iload_n (pc := 54) K d_X_bent_54 rfl ?_
        refine gk_if_ne (tgt := 62) (pc := 55) K d_X_bent_55 (by decide) h (fun h => ?_) (fun h => ?_)
        · refine gk_aload_n (pc := 62) K d_X_bent_62 rfl ?_
          refine gk_get (pc := 63) K d_X_bent_63 fl_X_28 tx_0 rfl rfl ?_
          obtain ⟨v9, m8, em8, h⟩ := gk_bi_some h
          refine gk_cVi (As := []) (pc := 66) K d_X_bent_66 mv_X_190 mc_Plain_allGuilts rfl tx_7 cl_ok2.1 (s_Plain_allGuilts (gk_FD K)  em8) (by decide) rfl (Nat.le_of_ble_eq_true rfl) ?_
          refine gk_aload_n (pc := 69) K d_X_bent_69 rfl ?_
          refine gk_get (pc := 70) K d_X_bent_70 fl_X_37 tx_0 rfl rfl ?_
          refine gk_get (pc := 73) K d_X_bent_73 fl_X_246 tx_21 rfl rfl ?_
          refine gk_isub (pc := 76) K d_X_bent_76 ?_
          exact gk_iret (pc := 77) K d_X_bent_77 rfl h
        · refine gk_iload_n (pc := 58) K d_X_bent_58 rfl ?_
          refine gk_goto (tgt := 77) (pc := 59) K d_X_bent_59 (by decide) ?_
          exact gk_iret (pc := 77) K d_X_bent_77 rfl h
      · refine gk_bipush (pc := 35) K d_X_bent_35 kb_m5 ?_
        exact gk_iret (pc := 37) K d_X_bent_37 rfl h
    · refine gk_iconst (pc := 16) K d_X_bent_16 kc_m1 ?_
      exact gk_iret (pc := 17) K d_X_bent_17 rfl h
theorem s_X_bent {l : Launch} {u : gk_U} (hD : gk_D tx u) {a1 : Int32} {a2 : Int32} {m0 mem2 : gk_M} {r : Int32} (h : f_X_bent a1 a2 m0 = some (r, mem2)) : gk_C tx l u me_X_bent 8 [.ref 0, .int a1, .int a2] m0 (some (.int r)) mem2 :=
  gk_enter hD mc_X_bent (Nat.le_of_ble_eq_true rfl) rfl (fun z _ _ K => s_X_bent_0 K _ _ _  h)
theorem d_Planner_isClear_0 : decode me_Planner_isClear.2.1 0 = .ok (.aload_n 0, 1) := by decide +kernel
theorem d_Planner_isClear_1 : decode me_Planner_isClear.2.1 1 = .ok (.getfield 25, 3) := by decide +kernel
theorem d_Planner_isClear_4 : decode me_Planner_isClear.2.1 4 = .ok (.iload_n 1, 1) := by decide +kernel
theorem d_Planner_isClear_5 : decode me_Planner_isClear.2.1 5 = .ok (.invokevirtual 78, 3) := by decide +kernel
theorem d_Planner_isClear_8 : decode me_Planner_isClear.2.1 8 = .ok (.ifCond .eq 5, 3) := by decide +kernel
theorem d_Planner_isClear_11 : decode me_Planner_isClear.2.1 11 = .ok (.iconst 0, 1) := by decide +kernel
theorem d_Planner_isClear_12 : decode me_Planner_isClear.2.1 12 = .ok (.ireturn, 1) := by decide +kernel
theorem d_Planner_isClear_13 : decode me_Planner_isClear.2.1 13 = .ok (.iconst 0, 1) := by decide +kernel
theorem d_Planner_isClear_14 : decode me_Planner_isClear.2.1 14 = .ok (.istore_n 2, 1) := by decide +kernel
theorem d_Planner_isClear_15 : decode me_Planner_isClear.2.1 15 = .ok (.iload_n 2, 1) := by decide +kernel
theorem d_Planner_isClear_16 : decode me_Planner_isClear.2.1 16 = .ok (.aload_n 0, 1) := by decide +kernel
theorem d_Planner_isClear_17 : decode me_Planner_isClear.2.1 17 = .ok (.getfield 25, 3) := by decide +kernel
theorem d_Planner_isClear_20 : decode me_Planner_isClear.2.1 20 = .ok (.getfield 29, 3) := by decide +kernel
theorem d_Planner_isClear_23 : decode me_Planner_isClear.2.1 23 = .ok (.if_icmp .ge 46, 3) := by decide +kernel
theorem d_Planner_isClear_26 : decode me_Planner_isClear.2.1 26 = .ok (.iload_n 2, 1) := by decide +kernel
theorem d_Planner_isClear_27 : decode me_Planner_isClear.2.1 27 = .ok (.iconst 1, 1) := by decide +kernel
theorem d_Planner_isClear_28 : decode me_Planner_isClear.2.1 28 = .ok (.iadd, 1) := by decide +kernel
theorem d_Planner_isClear_29 : decode me_Planner_isClear.2.1 29 = .ok (.istore_n 3, 1) := by decide +kernel
theorem d_Planner_isClear_30 : decode me_Planner_isClear.2.1 30 = .ok (.iload_n 3, 1) := by decide +kernel
theorem d_Planner_isClear_31 : decode me_Planner_isClear.2.1 31 = .ok (.aload_n 0, 1) := by decide +kernel
theorem d_Planner_isClear_32 : decode me_Planner_isClear.2.1 32 = .ok (.getfield 25, 3) := by decide +kernel
theorem d_Planner_isClear_35 : decode me_Planner_isClear.2.1 35 = .ok (.getfield 29, 3) := by decide +kernel
theorem d_Planner_isClear_38 : decode me_Planner_isClear.2.1 38 = .ok (.if_icmp .ge 25, 3) := by decide +kernel
theorem d_Planner_isClear_41 : decode me_Planner_isClear.2.1 41 = .ok (.aload_n 0, 1) := by decide +kernel
theorem d_Planner_isClear_42 : decode me_Planner_isClear.2.1 42 = .ok (.getfield 25, 3) := by decide +kernel
theorem d_Planner_isClear_45 : decode me_Planner_isClear.2.1 45 = .ok (.iload_n 1, 1) := by decide +kernel
theorem d_Planner_isClear_46 : decode me_Planner_isClear.2.1 46 = .ok (.iconst 4, 1) := by decide +kernel
theorem d_Planner_isClear_47 : decode me_Planner_isClear.2.1 47 = .ok (.iload_n 2, 1) := by decide +kernel
theorem d_Planner_isClear_48 : decode me_Planner_isClear.2.1 48 = .ok (.iload_n 3, 1) := by decide +kernel
theorem d_Planner_isClear_49 : decode me_Planner_isClear.2.1 49 = .ok (.invokevirtual 94, 3) := by decide +kernel
theorem d_Planner_isClear_52 : decode me_Planner_isClear.2.1 52 = .ok (.ifCond .eq 5, 3) := by decide +kernel
theorem d_Planner_isClear_55 : decode me_Planner_isClear.2.1 55 = .ok (.iconst 0, 1) := by decide +kernel
theorem d_Planner_isClear_56 : decode me_Planner_isClear.2.1 56 = .ok (.ireturn, 1) := by decide +kernel
theorem d_Planner_isClear_57 : decode me_Planner_isClear.2.1 57 = .ok (.iinc 3 1, 3) := by decide +kernel
theorem d_Planner_isClear_60 : decode me_Planner_isClear.2.1 60 = .ok (.goto (-30), 3) := by decide +kernel
theorem d_Planner_isClear_63 : decode me_Planner_isClear.2.1 63 = .ok (.iinc 2 1, 3) := by decide +kernel
theorem d_Planner_isClear_66 : decode me_Planner_isClear.2.1 66 = .ok (.goto (-51), 3) := by decide +kernel
theorem d_Planner_isClear_69 : decode me_Planner_isClear.2.1 69 = .ok (.iconst 1, 1) := by decide +kernel
theorem d_Planner_isClear_70 : decode me_Planner_isClear.2.1 70 = .ok (.ireturn, 1) := by decide +kernel
noncomputable def f_Planner_isClear_30 (k15 : Int32 → Int32 → gk_M → Option (Int32 × gk_M)) : Nat → Int32 → Int32 → Int32 → gk_M → Option (Int32 × gk_M)
  | 0, _, _, _, _ => none
  | n + 1, a1, a2, a3, m0 =>
    if (m0.1 7 5) ≤ a3 then
      k15 a1 (a2 + 1) m0
    else
      gk_bi (f_Plain_areInLine a1 4 a2 a3 m0) fun v2 m1 =>
      if v2 = 0 then
        f_Planner_isClear_30 k15 n a1 a2 (a3 + 1) m1
      else
        some (0, m1)

theorem s_Planner_isClear_30 {z : gk_Z} (K : gk_F tx z me_Planner_isClear 6) {r : Int32} {mem2 : gk_M} {k15 : Int32 → Int32 → gk_M → Option (Int32 × gk_M)} (hk15 : ∀ a1 a2 m0, k15 a1 a2 m0 = some (r, mem2) → gk_G tx z me_Planner_isClear (gk_R tx z (some (.int r)) mem2) m0 [(0, .ref 21), (1, .int a1), (2, .int a2)] [] 15) : ∀ n a1 a2 a3 m0, f_Planner_isClear_30 k15 n a1 a2 a3 m0 = some (r, mem2) → gk_G tx z me_Planner_isClear (gk_R tx z (some (.int r)) mem2) m0 [(0, .ref 21), (1, .int a1), (2, .int a2), (3, .int a3)] [] 30 := by
  intro n
  induction n with
  | zero => intro a1 a2 a3 m0  h; exact nomatch (show (none : Option _) = some _ from h)
  | succ n ih =>
    intro a1 a2 a3 m0  h
    unfold f_Planner_isClear_30 at h
    refine gk_iload_n (pc := 30) K d_Planner_isClear_30 rfl ?_
    refine gk_aload_n (pc := 31) K d_Planner_isClear_31 rfl ?_
    refine gk_get (pc := 32) K d_Planner_isClear_32 fl_Planner_25 tx_21 rfl rfl ?_
    refine gk_get (pc := 35) K d_Planner_isClear_35 fl_Planner_29 tx_7 rfl rfl ?_
    refine gk_ic_ge (tgt := 63) (pc := 38) K d_Planner_isClear_38 (by decide) h (fun h => ?_) (fun h => ?_)
    · refine gk_iinc2 (lv2 := [(2, .int (a2 + 1)), (0, .ref 21), (1, .int a1), (3, .int a3)]) (pc := 63) K d_Planner_isClear_63 rfl kc_1 (by decide) rfl ?_
      refine gk_goto (tgt := 15) (pc := 66) K d_Planner_isClear_66 (by decide) ?_
      exact gk_sub [1, 2, 0] rfl (hk15 _ _ _  h)
    · refine gk_aload_n (pc := 41) K d_Planner_isClear_41 rfl ?_
      refine gk_get (pc := 42) K d_Planner_isClear_42 fl_Planner_25 tx_21 rfl rfl ?_
      refine gk_iload_n (pc := 45) K d_Planner_isClear_45 rfl ?_
      refine gk_iconst (pc := 46) K d_Planner_isClear_46 kc_4 ?_
      refine gk_iload_n (pc := 47) K d_Planner_isClear_47 rfl ?_
      refine gk_iload_n (pc := 48) K d_Planner_isClear_48 rfl ?_
      obtain ⟨v2, m1, em1, h⟩ := gk_bi_some h
      refine gk_cVi (As := [.int a1, .int 4, .int a2, .int a3]) (pc := 49) K d_Planner_isClear_49 mv_Planner_94 mc_Plain_areInLine rfl tx_7 cl_ok2.1 (s_Plain_areInLine (gk_FD K)  em1) (by decide) rfl (Nat.le_of_ble_eq_true rfl) ?_
      refine gk_if_eq (tgt := 57) (pc := 52) K d_Planner_isClear_52 (by decide) h (fun h => ?_) (fun h => ?_)
      · refine gk_iinc2 (lv2 := [(3, .int (a3 + 1)), (0, .ref 21), (1, .int a1), (2, .int a2)]) (pc := 57) K d_Planner_isClear_57 rfl kc_1 (by decide) rfl ?_
        refine gk_goto (tgt := 30) (pc := 60) K d_Planner_isClear_60 (by decide) ?_
        exact gk_sub [1, 2, 3, 0] rfl (ih _ _ _ _  h)
      · refine gk_iconst (pc := 55) K d_Planner_isClear_55 kc_0 ?_
        exact gk_zretc (pc := 56) K d_Planner_isClear_56 rfl (Or.inl rfl) h
noncomputable def f_Planner_isClear_15  : Nat → Int32 → Int32 → gk_M → Option (Int32 × gk_M)
  | 0, _, _, _ => none
  | n + 1, a1, a2, m0 =>
    if (m0.1 7 5) ≤ a2 then
      some (1, m0)
    else
      gk_let (a2 + 1) fun v1 =>
      f_Planner_isClear_30 (f_Planner_isClear_15 n) gk_fv a1 a2 v1 m0

theorem s_Planner_isClear_15 {z : gk_Z} (K : gk_F tx z me_Planner_isClear 6) {r : Int32} {mem2 : gk_M} : ∀ n a1 a2 m0, f_Planner_isClear_15 n a1 a2 m0 = some (r, mem2) → gk_G tx z me_Planner_isClear (gk_R tx z (some (.int r)) mem2) m0 [(0, .ref 21), (1, .int a1), (2, .int a2)] [] 15 := by
  intro n
  induction n with
  | zero => intro a1 a2 m0  h; exact nomatch (show (none : Option _) = some _ from h)
  | succ n ih =>
    intro a1 a2 m0  h
    unfold f_Planner_isClear_15 at h
    refine gk_iload_n (pc := 15) K d_Planner_isClear_15 rfl ?_
    refine gk_aload_n (pc := 16) K d_Planner_isClear_16 rfl ?_
    refine gk_get (pc := 17) K d_Planner_isClear_17 fl_Planner_25 tx_21 rfl rfl ?_
    refine gk_get (pc := 20) K d_Planner_isClear_20 fl_Planner_29 tx_7 rfl rfl ?_
    refine gk_ic_ge (tgt := 69) (pc := 23) K d_Planner_isClear_23 (by decide) h (fun h => ?_) (fun h => ?_)
    · refine gk_iconst (pc := 69) K d_Planner_isClear_69 kc_1 ?_
      exact gk_zretc (pc := 70) K d_Planner_isClear_70 rfl (Or.inr rfl) h
    · refine gk_iload_n (pc := 26) K d_Planner_isClear_26 rfl ?_
      refine gk_iconst (pc := 27) K d_Planner_isClear_27 kc_1 ?_
      refine gk_iadd (pc := 28) K d_Planner_isClear_28 ?_
      refine gk_topi h (fun v1 h => ?_)
      refine gk_istore_n (lv2 := [(3, .int v1), (0, .ref 21), (1, .int a1), (2, .int a2)]) (pc := 29) K d_Planner_isClear_29 (by decide) rfl ?_
      exact gk_sub [1, 2, 3, 0] rfl (s_Planner_isClear_30 K (fun x0 x1 m  h => ih x0 x1 m  h) _ _ _ _ _  h)
noncomputable def f_Planner_isClear  (a1 : Int32) (m0 : gk_M) : Option (Int32 × gk_M) :=
  gk_bi (f_Plain_hasTower a1 m0) fun v2 m1 =>
  if v2 = 0 then
    f_Planner_isClear_15 gk_fv a1 0 m1
  else
    some (0, m1)

theorem s_Planner_isClear_0 {z : gk_Z} (K : gk_F tx z me_Planner_isClear 6) {r : Int32} {mem2 : gk_M} : ∀ a1 m0, f_Planner_isClear a1 m0 = some (r, mem2) → gk_G tx z me_Planner_isClear (gk_R tx z (some (.int r)) mem2) m0 [(0, .ref 21), (1, .int a1)] [] 0 := by
  intro a1 m0  h
  unfold f_Planner_isClear at h
  refine gk_aload_n (pc := 0) K d_Planner_isClear_0 rfl ?_
  refine gk_get (pc := 1) K d_Planner_isClear_1 fl_Planner_25 tx_21 rfl rfl ?_
  refine gk_iload_n (pc := 4) K d_Planner_isClear_4 rfl ?_
  obtain ⟨v2, m1, em1, h⟩ := gk_bi_some h
  refine gk_cVi (As := [.int a1]) (pc := 5) K d_Planner_isClear_5 mv_Planner_78 mc_Plain_hasTower rfl tx_7 cl_ok2.1 (s_Plain_hasTower (gk_FD K)  em1) (by decide) rfl (Nat.le_of_ble_eq_true rfl) ?_
  refine gk_if_eq (tgt := 13) (pc := 8) K d_Planner_isClear_8 (by decide) h (fun h => ?_) (fun h => ?_)
  · refine gk_iconst (pc := 13) K d_Planner_isClear_13 kc_0 ?_
    refine gk_istore_n (lv2 := [(2, .int 0), (0, .ref 21), (1, .int a1)]) (pc := 14) K d_Planner_isClear_14 (by decide) rfl ?_
    exact gk_sub [1, 2, 0] rfl (s_Planner_isClear_15 K _ _ _ _  h)
  · refine gk_iconst (pc := 11) K d_Planner_isClear_11 kc_0 ?_
    exact gk_zretc (pc := 12) K d_Planner_isClear_12 rfl (Or.inl rfl) h
theorem s_Planner_isClear {l : Launch} {u : gk_U} (hD : gk_D tx u) {a1 : Int32} {m0 mem2 : gk_M} {r : Int32} (h : f_Planner_isClear a1 m0 = some (r, mem2)) : gk_C tx l u me_Planner_isClear 6 [.ref 21, .int a1] m0 (some (.int r)) mem2 :=
  gk_enter hD mc_Planner_isClear (Nat.le_of_ble_eq_true rfl) rfl (fun z _ _ K => s_Planner_isClear_0 K _ _  h)
theorem d_Planner_neighbour_0 : decode me_Planner_neighbour.2.1 0 = .ok (.iload_n 1, 1) := by decide +kernel
theorem d_Planner_neighbour_1 : decode me_Planner_neighbour.2.1 1 = .ok (.tableswitch 77 0 2 #[27, 43, 61], 27) := by decide +kernel
theorem d_Planner_neighbour_28 : decode me_Planner_neighbour.2.1 28 = .ok (.iload_n 0, 1) := by decide +kernel
theorem d_Planner_neighbour_29 : decode me_Planner_neighbour.2.1 29 = .ok (.bipush 30, 2) := by decide +kernel
theorem d_Planner_neighbour_31 : decode me_Planner_neighbour.2.1 31 = .ok (.irem, 1) := by decide +kernel
theorem d_Planner_neighbour_32 : decode me_Planner_neighbour.2.1 32 = .ok (.ifCond .le 9, 3) := by decide +kernel
theorem d_Planner_neighbour_35 : decode me_Planner_neighbour.2.1 35 = .ok (.iload_n 0, 1) := by decide +kernel
theorem d_Planner_neighbour_36 : decode me_Planner_neighbour.2.1 36 = .ok (.iconst 1, 1) := by decide +kernel
theorem d_Planner_neighbour_37 : decode me_Planner_neighbour.2.1 37 = .ok (.isub, 1) := by decide +kernel
theorem d_Planner_neighbour_38 : decode me_Planner_neighbour.2.1 38 = .ok (.goto 5, 3) := by decide +kernel
theorem d_Planner_neighbour_41 : decode me_Planner_neighbour.2.1 41 = .ok (.bipush (-2), 2) := by decide +kernel
theorem d_Planner_neighbour_43 : decode me_Planner_neighbour.2.1 43 = .ok (.ireturn, 1) := by decide +kernel
theorem d_Planner_neighbour_44 : decode me_Planner_neighbour.2.1 44 = .ok (.iload_n 0, 1) := by decide +kernel
theorem d_Planner_neighbour_45 : decode me_Planner_neighbour.2.1 45 = .ok (.bipush 30, 2) := by decide +kernel
theorem d_Planner_neighbour_47 : decode me_Planner_neighbour.2.1 47 = .ok (.irem, 1) := by decide +kernel
theorem d_Planner_neighbour_48 : decode me_Planner_neighbour.2.1 48 = .ok (.bipush 29, 2) := by decide +kernel
theorem d_Planner_neighbour_50 : decode me_Planner_neighbour.2.1 50 = .ok (.if_icmp .ge 9, 3) := by decide +kernel
theorem d_Planner_neighbour_53 : decode me_Planner_neighbour.2.1 53 = .ok (.iload_n 0, 1) := by decide +kernel
theorem d_Planner_neighbour_54 : decode me_Planner_neighbour.2.1 54 = .ok (.iconst 1, 1) := by decide +kernel
theorem d_Planner_neighbour_55 : decode me_Planner_neighbour.2.1 55 = .ok (.iadd, 1) := by decide +kernel
theorem d_Planner_neighbour_56 : decode me_Planner_neighbour.2.1 56 = .ok (.goto 5, 3) := by decide +kernel
theorem d_Planner_neighbour_59 : decode me_Planner_neighbour.2.1 59 = .ok (.bipush (-2), 2) := by decide +kernel
theorem d_Planner_neighbour_61 : decode me_Planner_neighbour.2.1 61 = .ok (.ireturn, 1) := by decide +kernel
theorem d_Planner_neighbour_62 : decode me_Planner_neighbour.2.1 62 = .ok (.iload_n 0, 1) := by decide +kernel
theorem d_Planner_neighbour_63 : decode me_Planner_neighbour.2.1 63 = .ok (.bipush 30, 2) := by decide +kernel
theorem d_Planner_neighbour_65 : decode me_Planner_neighbour.2.1 65 = .ok (.if_icmp .lt 10, 3) := by decide +kernel
theorem d_Planner_neighbour_68 : decode me_Planner_neighbour.2.1 68 = .ok (.iload_n 0, 1) := by decide +kernel
theorem d_Planner_neighbour_69 : decode me_Planner_neighbour.2.1 69 = .ok (.bipush 30, 2) := by decide +kernel
theorem d_Planner_neighbour_71 : decode me_Planner_neighbour.2.1 71 = .ok (.isub, 1) := by decide +kernel
theorem d_Planner_neighbour_72 : decode me_Planner_neighbour.2.1 72 = .ok (.goto 5, 3) := by decide +kernel
theorem d_Planner_neighbour_75 : decode me_Planner_neighbour.2.1 75 = .ok (.bipush (-2), 2) := by decide +kernel
theorem d_Planner_neighbour_77 : decode me_Planner_neighbour.2.1 77 = .ok (.ireturn, 1) := by decide +kernel
theorem d_Planner_neighbour_78 : decode me_Planner_neighbour.2.1 78 = .ok (.iload_n 0, 1) := by decide +kernel
theorem d_Planner_neighbour_79 : decode me_Planner_neighbour.2.1 79 = .ok (.sipush 870, 3) := by decide +kernel
theorem d_Planner_neighbour_82 : decode me_Planner_neighbour.2.1 82 = .ok (.if_icmp .ge 10, 3) := by decide +kernel
theorem d_Planner_neighbour_85 : decode me_Planner_neighbour.2.1 85 = .ok (.iload_n 0, 1) := by decide +kernel
theorem d_Planner_neighbour_86 : decode me_Planner_neighbour.2.1 86 = .ok (.bipush 30, 2) := by decide +kernel
theorem d_Planner_neighbour_88 : decode me_Planner_neighbour.2.1 88 = .ok (.iadd, 1) := by decide +kernel
theorem d_Planner_neighbour_89 : decode me_Planner_neighbour.2.1 89 = .ok (.goto 5, 3) := by decide +kernel
theorem d_Planner_neighbour_92 : decode me_Planner_neighbour.2.1 92 = .ok (.bipush (-2), 2) := by decide +kernel
theorem d_Planner_neighbour_94 : decode me_Planner_neighbour.2.1 94 = .ok (.ireturn, 1) := by decide +kernel
noncomputable def f_Planner_neighbour  (a0 : Int32) (a1 : Int32) (m0 : gk_M) : Option (Int32 × gk_M) :=
  if a1 = 0 then
    if (gk_rem a0 30) ≤ 0 then
      some ((-2), m0)
    else
      some ((a0 - 1), m0)
  else
    if a1 = 1 then
      if 29 ≤ (gk_rem a0 30) then
        some ((-2), m0)
      else
        some ((a0 + 1), m0)
    else
      if a1 = 2 then
        if a0 < 30 then
          some ((-2), m0)
        else
          some ((a0 - 30), m0)
      else
        if 870 ≤ a0 then
          some ((-2), m0)
        else
          some ((a0 + 30), m0)

theorem s_Planner_neighbour_0 {z : gk_Z} (K : gk_F tx z me_Planner_neighbour 1) {r : Int32} {mem2 : gk_M} : ∀ a0 a1 m0, f_Planner_neighbour a0 a1 m0 = some (r, mem2) → gk_G tx z me_Planner_neighbour (gk_R tx z (some (.int r)) mem2) m0 [(0, .int a0), (1, .int a1)] [] 0 := by
  intro a0 a1 m0  h
  unfold f_Planner_neighbour at h
  refine gk_iload_n (pc := 0) K d_Planner_neighbour_0 rfl ?_
  refine gk_ite (c := a1 = 0) h (fun c1 h => ?_) (fun c1 h => ?_)
  · refine gk_tIn (tgt := 28) (pc := 1) K d_Planner_neighbour_1 c1 (by decide) (by decide) rfl (by decide) ?_
    refine gk_iload_n (pc := 28) K d_Planner_neighbour_28 rfl ?_
    refine gk_bipush (pc := 29) K d_Planner_neighbour_29 kb_30 ?_
    refine gk_iremc2 (pc := 31) K d_Planner_neighbour_31 (by decide) ?_
    refine gk_if_le (tgt := 41) (pc := 32) K d_Planner_neighbour_32 (by decide) h (fun h => ?_) (fun h => ?_)
    · refine gk_bipush (pc := 41) K d_Planner_neighbour_41 kb_m2 ?_
      exact gk_iret (pc := 43) K d_Planner_neighbour_43 rfl h
    · refine gk_iload_n (pc := 35) K d_Planner_neighbour_35 rfl ?_
      refine gk_iconst (pc := 36) K d_Planner_neighbour_36 kc_1 ?_
      refine gk_isub (pc := 37) K d_Planner_neighbour_37 ?_
      refine gk_goto (tgt := 43) (pc := 38) K d_Planner_neighbour_38 (by decide) ?_
      exact gk_iret (pc := 43) K d_Planner_neighbour_43 rfl h
  · skip
    refine gk_ite (c := a1 = 1) h (fun c2 h => ?_) (fun c2 h => ?_)
    · refine gk_tIn (tgt := 44) (pc := 1) K d_Planner_neighbour_1 c2 (by decide) (by decide) rfl (by decide) ?_
      refine gk_iload_n (pc := 44) K d_Planner_neighbour_44 rfl ?_
      refine gk_bipush (pc := 45) K d_Planner_neighbour_45 kb_30 ?_
      refine gk_iremc2 (pc := 47) K d_Planner_neighbour_47 (by decide) ?_
      refine gk_bipush (pc := 48) K d_Planner_neighbour_48 kb_29 ?_
      refine gk_ic_ge (tgt := 59) (pc := 50) K d_Planner_neighbour_50 (by decide) h (fun h => ?_) (fun h => ?_)
      · refine gk_bipush (pc := 59) K d_Planner_neighbour_59 kb_m2 ?_
        exact gk_iret (pc := 61) K d_Planner_neighbour_61 rfl h
      · refine gk_iload_n (pc := 53) K d_Planner_neighbour_53 rfl ?_
        refine gk_iconst (pc := 54) K d_Planner_neighbour_54 kc_1 ?_
        refine gk_iadd (pc := 55) K d_Planner_neighbour_55 ?_
        refine gk_goto (tgt := 61) (pc := 56) K d_Planner_neighbour_56 (by decide) ?_
        exact gk_iret (pc := 61) K d_Planner_neighbour_61 rfl h
    · skip
      refine gk_ite (c := a1 = 2) h (fun c3 h => ?_) (fun c3 h => ?_)
      · refine gk_tIn (tgt := 62) (pc := 1) K d_Planner_neighbour_1 c3 (by decide) (by decide) rfl (by decide) ?_
        refine gk_iload_n (pc := 62) K d_Planner_neighbour_62 rfl ?_
        refine gk_bipush (pc := 63) K d_Planner_neighbour_63 kb_30 ?_
        refine gk_ic_lt (tgt := 75) (pc := 65) K d_Planner_neighbour_65 (by decide) h (fun h => ?_) (fun h => ?_)
        · refine gk_bipush (pc := 75) K d_Planner_neighbour_75 kb_m2 ?_
          exact gk_iret (pc := 77) K d_Planner_neighbour_77 rfl h
        · refine gk_iload_n (pc := 68) K d_Planner_neighbour_68 rfl ?_
          refine gk_bipush (pc := 69) K d_Planner_neighbour_69 kb_30 ?_
          refine gk_isub (pc := 71) K d_Planner_neighbour_71 ?_
          refine gk_goto (tgt := 77) (pc := 72) K d_Planner_neighbour_72 (by decide) ?_
          exact gk_iret (pc := 77) K d_Planner_neighbour_77 rfl h
      · skip
        have gc1 := gk_neq c1 (a := 0) (by decide)
        have gc2 := gk_neq c2 (a := 1) (by decide)
        have gc3 := gk_neq c3 (a := 2) (by decide)
        refine gk_tOut (tgt := 78) (pc := 1) K d_Planner_neighbour_1 (by omega) (by decide) ?_
        refine gk_iload_n (pc := 78) K d_Planner_neighbour_78 rfl ?_
        refine gk_sipush (pc := 79) K d_Planner_neighbour_79 ks_870 ?_
        refine gk_ic_ge (tgt := 92) (pc := 82) K d_Planner_neighbour_82 (by decide) h (fun h => ?_) (fun h => ?_)
        · refine gk_bipush (pc := 92) K d_Planner_neighbour_92 kb_m2 ?_
          exact gk_iret (pc := 94) K d_Planner_neighbour_94 rfl h
        · refine gk_iload_n (pc := 85) K d_Planner_neighbour_85 rfl ?_
          refine gk_bipush (pc := 86) K d_Planner_neighbour_86 kb_30 ?_
          refine gk_iadd (pc := 88) K d_Planner_neighbour_88 ?_
          refine gk_goto (tgt := 94) (pc := 89) K d_Planner_neighbour_89 (by decide) ?_
          exact gk_iret (pc := 94) K d_Planner_neighbour_94 rfl h
theorem s_Planner_neighbour {l : Launch} {u : gk_U} (hD : gk_D tx u) {a0 : Int32} {a1 : Int32} {m0 mem2 : gk_M} {r : Int32} (h : f_Planner_neighbour a0 a1 m0 = some (r, mem2)) : gk_C tx l u me_Planner_neighbour 1 [.int a0, .int a1] m0 (some (.int r)) mem2 :=
  gk_enter hD mc_Planner_neighbour (Nat.le_of_ble_eq_true rfl) rfl (fun z _ _ K => s_Planner_neighbour_0 K _ _ _  h)
theorem d_Planner_stepsBetween_0 : decode me_Planner_stepsBetween.2.1 0 = .ok (.aload_n 0, 1) := by decide +kernel
theorem d_Planner_stepsBetween_1 : decode me_Planner_stepsBetween.2.1 1 = .ok (.iload_n 1, 1) := by decide +kernel
theorem d_Planner_stepsBetween_2 : decode me_Planner_stepsBetween.2.1 2 = .ok (.invokevirtual 88, 3) := by decide +kernel
theorem d_Planner_stepsBetween_5 : decode me_Planner_stepsBetween.2.1 5 = .ok (.ifCond .eq 11, 3) := by decide +kernel
theorem d_Planner_stepsBetween_8 : decode me_Planner_stepsBetween.2.1 8 = .ok (.aload_n 0, 1) := by decide +kernel
theorem d_Planner_stepsBetween_9 : decode me_Planner_stepsBetween.2.1 9 = .ok (.iload_n 2, 1) := by decide +kernel
theorem d_Planner_stepsBetween_10 : decode me_Planner_stepsBetween.2.1 10 = .ok (.invokevirtual 88, 3) := by decide +kernel
theorem d_Planner_stepsBetween_13 : decode me_Planner_stepsBetween.2.1 13 = .ok (.ifCond .ne 6, 3) := by decide +kernel
theorem d_Planner_stepsBetween_16 : decode me_Planner_stepsBetween.2.1 16 = .ok (.bipush (-2), 2) := by decide +kernel
theorem d_Planner_stepsBetween_18 : decode me_Planner_stepsBetween.2.1 18 = .ok (.ireturn, 1) := by decide +kernel
theorem d_Planner_stepsBetween_19 : decode me_Planner_stepsBetween.2.1 19 = .ok (.aload_n 0, 1) := by decide +kernel
theorem d_Planner_stepsBetween_20 : decode me_Planner_stepsBetween.2.1 20 = .ok (.getfield 15, 3) := by decide +kernel
theorem d_Planner_stepsBetween_23 : decode me_Planner_stepsBetween.2.1 23 = .ok (.iconst (-1), 1) := by decide +kernel
theorem d_Planner_stepsBetween_24 : decode me_Planner_stepsBetween.2.1 24 = .ok (.invokestatic 56, 3) := by decide +kernel
theorem d_Planner_stepsBetween_27 : decode me_Planner_stepsBetween.2.1 27 = .ok (.aload_n 0, 1) := by decide +kernel
theorem d_Planner_stepsBetween_28 : decode me_Planner_stepsBetween.2.1 28 = .ok (.getfield 15, 3) := by decide +kernel
theorem d_Planner_stepsBetween_31 : decode me_Planner_stepsBetween.2.1 31 = .ok (.iload_n 1, 1) := by decide +kernel
theorem d_Planner_stepsBetween_32 : decode me_Planner_stepsBetween.2.1 32 = .ok (.iconst 0, 1) := by decide +kernel
theorem d_Planner_stepsBetween_33 : decode me_Planner_stepsBetween.2.1 33 = .ok (.iastore, 1) := by decide +kernel
theorem d_Planner_stepsBetween_34 : decode me_Planner_stepsBetween.2.1 34 = .ok (.aload_n 0, 1) := by decide +kernel
theorem d_Planner_stepsBetween_35 : decode me_Planner_stepsBetween.2.1 35 = .ok (.getfield 18, 3) := by decide +kernel
theorem d_Planner_stepsBetween_38 : decode me_Planner_stepsBetween.2.1 38 = .ok (.iconst 0, 1) := by decide +kernel
theorem d_Planner_stepsBetween_39 : decode me_Planner_stepsBetween.2.1 39 = .ok (.iload_n 1, 1) := by decide +kernel
theorem d_Planner_stepsBetween_40 : decode me_Planner_stepsBetween.2.1 40 = .ok (.iastore, 1) := by decide +kernel
theorem d_Planner_stepsBetween_41 : decode me_Planner_stepsBetween.2.1 41 = .ok (.iconst 1, 1) := by decide +kernel
theorem d_Planner_stepsBetween_42 : decode me_Planner_stepsBetween.2.1 42 = .ok (.istore_n 3, 1) := by decide +kernel
theorem d_Planner_stepsBetween_43 : decode me_Planner_stepsBetween.2.1 43 = .ok (.iconst 0, 1) := by decide +kernel
theorem d_Planner_stepsBetween_44 : decode me_Planner_stepsBetween.2.1 44 = .ok (.istore 4, 2) := by decide +kernel
theorem d_Planner_stepsBetween_46 : decode me_Planner_stepsBetween.2.1 46 = .ok (.iload 4, 2) := by decide +kernel
theorem d_Planner_stepsBetween_48 : decode me_Planner_stepsBetween.2.1 48 = .ok (.iload_n 3, 1) := by decide +kernel
theorem d_Planner_stepsBetween_49 : decode me_Planner_stepsBetween.2.1 49 = .ok (.if_icmp .ge 112, 3) := by decide +kernel
theorem d_Planner_stepsBetween_52 : decode me_Planner_stepsBetween.2.1 52 = .ok (.aload_n 0, 1) := by decide +kernel
theorem d_Planner_stepsBetween_53 : decode me_Planner_stepsBetween.2.1 53 = .ok (.getfield 15, 3) := by decide +kernel
theorem d_Planner_stepsBetween_56 : decode me_Planner_stepsBetween.2.1 56 = .ok (.iload_n 2, 1) := by decide +kernel
theorem d_Planner_stepsBetween_57 : decode me_Planner_stepsBetween.2.1 57 = .ok (.iaload, 1) := by decide +kernel
theorem d_Planner_stepsBetween_58 : decode me_Planner_stepsBetween.2.1 58 = .ok (.iconst (-1), 1) := by decide +kernel
theorem d_Planner_stepsBetween_59 : decode me_Planner_stepsBetween.2.1 59 = .ok (.if_icmp .ne 102, 3) := by decide +kernel
theorem d_Planner_stepsBetween_62 : decode me_Planner_stepsBetween.2.1 62 = .ok (.iconst 0, 1) := by decide +kernel
theorem d_Planner_stepsBetween_63 : decode me_Planner_stepsBetween.2.1 63 = .ok (.istore 5, 2) := by decide +kernel
theorem d_Planner_stepsBetween_65 : decode me_Planner_stepsBetween.2.1 65 = .ok (.iload 5, 2) := by decide +kernel
theorem d_Planner_stepsBetween_67 : decode me_Planner_stepsBetween.2.1 67 = .ok (.iconst 4, 1) := by decide +kernel
theorem d_Planner_stepsBetween_68 : decode me_Planner_stepsBetween.2.1 68 = .ok (.if_icmp .ge 87, 3) := by decide +kernel
theorem d_Planner_stepsBetween_71 : decode me_Planner_stepsBetween.2.1 71 = .ok (.aload_n 0, 1) := by decide +kernel
theorem d_Planner_stepsBetween_72 : decode me_Planner_stepsBetween.2.1 72 = .ok (.getfield 18, 3) := by decide +kernel
theorem d_Planner_stepsBetween_75 : decode me_Planner_stepsBetween.2.1 75 = .ok (.iload 4, 2) := by decide +kernel
theorem d_Planner_stepsBetween_77 : decode me_Planner_stepsBetween.2.1 77 = .ok (.iaload, 1) := by decide +kernel
theorem d_Planner_stepsBetween_78 : decode me_Planner_stepsBetween.2.1 78 = .ok (.iload 5, 2) := by decide +kernel
theorem d_Planner_stepsBetween_80 : decode me_Planner_stepsBetween.2.1 80 = .ok (.invokestatic 91, 3) := by decide +kernel
theorem d_Planner_stepsBetween_83 : decode me_Planner_stepsBetween.2.1 83 = .ok (.istore 6, 2) := by decide +kernel
theorem d_Planner_stepsBetween_85 : decode me_Planner_stepsBetween.2.1 85 = .ok (.iload 6, 2) := by decide +kernel
theorem d_Planner_stepsBetween_87 : decode me_Planner_stepsBetween.2.1 87 = .ok (.ifCond .lt 62, 3) := by decide +kernel
theorem d_Planner_stepsBetween_90 : decode me_Planner_stepsBetween.2.1 90 = .ok (.iload_n 3, 1) := by decide +kernel
theorem d_Planner_stepsBetween_91 : decode me_Planner_stepsBetween.2.1 91 = .ok (.sipush 900, 3) := by decide +kernel
theorem d_Planner_stepsBetween_94 : decode me_Planner_stepsBetween.2.1 94 = .ok (.if_icmp .ge 55, 3) := by decide +kernel
theorem d_Planner_stepsBetween_97 : decode me_Planner_stepsBetween.2.1 97 = .ok (.aload_n 0, 1) := by decide +kernel
theorem d_Planner_stepsBetween_98 : decode me_Planner_stepsBetween.2.1 98 = .ok (.getfield 15, 3) := by decide +kernel
theorem d_Planner_stepsBetween_101 : decode me_Planner_stepsBetween.2.1 101 = .ok (.iload 6, 2) := by decide +kernel
theorem d_Planner_stepsBetween_103 : decode me_Planner_stepsBetween.2.1 103 = .ok (.iaload, 1) := by decide +kernel
theorem d_Planner_stepsBetween_104 : decode me_Planner_stepsBetween.2.1 104 = .ok (.iconst (-1), 1) := by decide +kernel
theorem d_Planner_stepsBetween_105 : decode me_Planner_stepsBetween.2.1 105 = .ok (.if_icmp .ne 44, 3) := by decide +kernel
theorem d_Planner_stepsBetween_108 : decode me_Planner_stepsBetween.2.1 108 = .ok (.aload_n 0, 1) := by decide +kernel
theorem d_Planner_stepsBetween_109 : decode me_Planner_stepsBetween.2.1 109 = .ok (.iload 6, 2) := by decide +kernel
theorem d_Planner_stepsBetween_111 : decode me_Planner_stepsBetween.2.1 111 = .ok (.invokevirtual 88, 3) := by decide +kernel
theorem d_Planner_stepsBetween_114 : decode me_Planner_stepsBetween.2.1 114 = .ok (.ifCond .eq 35, 3) := by decide +kernel
theorem d_Planner_stepsBetween_117 : decode me_Planner_stepsBetween.2.1 117 = .ok (.aload_n 0, 1) := by decide +kernel
theorem d_Planner_stepsBetween_118 : decode me_Planner_stepsBetween.2.1 118 = .ok (.getfield 15, 3) := by decide +kernel
theorem d_Planner_stepsBetween_121 : decode me_Planner_stepsBetween.2.1 121 = .ok (.iload 6, 2) := by decide +kernel
theorem d_Planner_stepsBetween_123 : decode me_Planner_stepsBetween.2.1 123 = .ok (.aload_n 0, 1) := by decide +kernel
theorem d_Planner_stepsBetween_124 : decode me_Planner_stepsBetween.2.1 124 = .ok (.getfield 15, 3) := by decide +kernel
theorem d_Planner_stepsBetween_127 : decode me_Planner_stepsBetween.2.1 127 = .ok (.aload_n 0, 1) := by decide +kernel
theorem d_Planner_stepsBetween_128 : decode me_Planner_stepsBetween.2.1 128 = .ok (.getfield 18, 3) := by decide +kernel
theorem d_Planner_stepsBetween_131 : decode me_Planner_stepsBetween.2.1 131 = .ok (.iload 4, 2) := by decide +kernel
theorem d_Planner_stepsBetween_133 : decode me_Planner_stepsBetween.2.1 133 = .ok (.iaload, 1) := by decide +kernel
theorem d_Planner_stepsBetween_134 : decode me_Planner_stepsBetween.2.1 134 = .ok (.iaload, 1) := by decide +kernel
theorem d_Planner_stepsBetween_135 : decode me_Planner_stepsBetween.2.1 135 = .ok (.iconst 1, 1) := by decide +kernel
theorem d_Planner_stepsBetween_136 : decode me_Planner_stepsBetween.2.1 136 = .ok (.iadd, 1) := by decide +kernel
theorem d_Planner_stepsBetween_137 : decode me_Planner_stepsBetween.2.1 137 = .ok (.iastore, 1) := by decide +kernel
theorem d_Planner_stepsBetween_138 : decode me_Planner_stepsBetween.2.1 138 = .ok (.aload_n 0, 1) := by decide +kernel
theorem d_Planner_stepsBetween_139 : decode me_Planner_stepsBetween.2.1 139 = .ok (.getfield 18, 3) := by decide +kernel
theorem d_Planner_stepsBetween_142 : decode me_Planner_stepsBetween.2.1 142 = .ok (.iload_n 3, 1) := by decide +kernel
theorem d_Planner_stepsBetween_143 : decode me_Planner_stepsBetween.2.1 143 = .ok (.iload 6, 2) := by decide +kernel
theorem d_Planner_stepsBetween_145 : decode me_Planner_stepsBetween.2.1 145 = .ok (.iastore, 1) := by decide +kernel
theorem d_Planner_stepsBetween_146 : decode me_Planner_stepsBetween.2.1 146 = .ok (.iinc 3 1, 3) := by decide +kernel
theorem d_Planner_stepsBetween_149 : decode me_Planner_stepsBetween.2.1 149 = .ok (.iinc 5 1, 3) := by decide +kernel
theorem d_Planner_stepsBetween_152 : decode me_Planner_stepsBetween.2.1 152 = .ok (.goto (-87), 3) := by decide +kernel
theorem d_Planner_stepsBetween_155 : decode me_Planner_stepsBetween.2.1 155 = .ok (.iinc 4 1, 3) := by decide +kernel
theorem d_Planner_stepsBetween_158 : decode me_Planner_stepsBetween.2.1 158 = .ok (.goto (-112), 3) := by decide +kernel
theorem d_Planner_stepsBetween_161 : decode me_Planner_stepsBetween.2.1 161 = .ok (.aload_n 0, 1) := by decide +kernel
theorem d_Planner_stepsBetween_162 : decode me_Planner_stepsBetween.2.1 162 = .ok (.getfield 15, 3) := by decide +kernel
theorem d_Planner_stepsBetween_165 : decode me_Planner_stepsBetween.2.1 165 = .ok (.iload_n 2, 1) := by decide +kernel
theorem d_Planner_stepsBetween_166 : decode me_Planner_stepsBetween.2.1 166 = .ok (.iaload, 1) := by decide +kernel
theorem d_Planner_stepsBetween_167 : decode me_Planner_stepsBetween.2.1 167 = .ok (.iconst (-1), 1) := by decide +kernel
theorem d_Planner_stepsBetween_168 : decode me_Planner_stepsBetween.2.1 168 = .ok (.if_icmp .ne 8, 3) := by decide +kernel
theorem d_Planner_stepsBetween_171 : decode me_Planner_stepsBetween.2.1 171 = .ok (.bipush (-2), 2) := by decide +kernel
theorem d_Planner_stepsBetween_173 : decode me_Planner_stepsBetween.2.1 173 = .ok (.goto 9, 3) := by decide +kernel
theorem d_Planner_stepsBetween_176 : decode me_Planner_stepsBetween.2.1 176 = .ok (.aload_n 0, 1) := by decide +kernel
theorem d_Planner_stepsBetween_177 : decode me_Planner_stepsBetween.2.1 177 = .ok (.getfield 15, 3) := by decide +kernel
theorem d_Planner_stepsBetween_180 : decode me_Planner_stepsBetween.2.1 180 = .ok (.iload_n 2, 1) := by decide +kernel
theorem d_Planner_stepsBetween_181 : decode me_Planner_stepsBetween.2.1 181 = .ok (.iaload, 1) := by decide +kernel
theorem d_Planner_stepsBetween_182 : decode me_Planner_stepsBetween.2.1 182 = .ok (.ireturn, 1) := by decide +kernel
noncomputable def f_Planner_stepsBetween_161  (a2 : Int32) (m0 : gk_M) : Option (Int32 × gk_M) :=
  gk_ai m0 23 900 a2 fun v1 =>
  if ¬ v1 = (-1) then
    gk_ai m0 23 900 a2 fun v2 =>
    some (v2, m0)
  else
    some ((-2), m0)

theorem s_Planner_stepsBetween_161 {z : gk_Z} (K : gk_F tx z me_Planner_stepsBetween 7) {r : Int32} {mem2 : gk_M} : ∀ a2 m0, f_Planner_stepsBetween_161 a2 m0 = some (r, mem2) → gk_G tx z me_Planner_stepsBetween (gk_R tx z (some (.int r)) mem2) m0 [(0, .ref 21), (2, .int a2)] [] 161 := by
  intro a2 m0  h
  unfold f_Planner_stepsBetween_161 at h
  refine gk_aload_n (pc := 161) K d_Planner_stepsBetween_161 rfl ?_
  refine gk_get (pc := 162) K d_Planner_stepsBetween_162 fl_Planner_15 tx_21 rfl rfl ?_
  refine gk_iload_n (pc := 165) K d_Planner_stepsBetween_165 rfl ?_
  refine gk_iald (pc := 166) K d_Planner_stepsBetween_166 tx_23 h (fun v1 h => ?_)
  refine gk_iconst (pc := 167) K d_Planner_stepsBetween_167 kc_m1 ?_
  refine gk_ic_ne (tgt := 176) (pc := 168) K d_Planner_stepsBetween_168 (by decide) h (fun h => ?_) (fun h => ?_)
  · refine gk_aload_n (pc := 176) K d_Planner_stepsBetween_176 rfl ?_
    refine gk_get (pc := 177) K d_Planner_stepsBetween_177 fl_Planner_15 tx_21 rfl rfl ?_
    refine gk_iload_n (pc := 180) K d_Planner_stepsBetween_180 rfl ?_
    refine gk_iald (pc := 181) K d_Planner_stepsBetween_181 tx_23 h (fun v2 h => ?_)
    exact gk_iret (pc := 182) K d_Planner_stepsBetween_182 rfl h
  · refine gk_bipush (pc := 171) K d_Planner_stepsBetween_171 kb_m2 ?_
    refine gk_goto (tgt := 182) (pc := 173) K d_Planner_stepsBetween_173 (by decide) ?_
    exact gk_iret (pc := 182) K d_Planner_stepsBetween_182 rfl h
noncomputable def f_Planner_stepsBetween_65 (k46 : Int32 → Int32 → Int32 → gk_M → Option (Int32 × gk_M)) : Nat → Int32 → Int32 → Int32 → Int32 → gk_M → Option (Int32 × gk_M)
  | 0, _, _, _, _, _ => none
  | n + 1, a2, a3, a4, a5, m0 =>
    if 4 ≤ a5 then
      k46 a2 a3 (a4 + 1) m0
    else
      gk_ai m0 24 900 a4 fun v1 =>
      gk_bi (f_Planner_neighbour v1 a5 m0) fun v3 m2 =>
      if v3 < 0 then
        f_Planner_stepsBetween_65 k46 n a2 a3 a4 (a5 + 1) m2
      else
        if 900 ≤ a3 then
          f_Planner_stepsBetween_65 k46 n a2 a3 a4 (a5 + 1) m2
        else
          gk_ai m2 23 900 v3 fun v4 =>
          if ¬ v4 = (-1) then
            f_Planner_stepsBetween_65 k46 n a2 a3 a4 (a5 + 1) m2
          else
            gk_bi (f_Planner_isClear v3 m2) fun v6 m5 =>
            if v6 = 0 then
              f_Planner_stepsBetween_65 k46 n a2 a3 a4 (a5 + 1) m5
            else
              gk_ai m5 24 900 a4 fun v7 =>
              gk_ai m5 23 900 v7 fun v8 =>
              gk_si m5 23 900 v3 (v8 + 1) fun m9 =>
              gk_si m9 24 900 a3 v3 fun m10 =>
              f_Planner_stepsBetween_65 k46 n a2 (a3 + 1) a4 (a5 + 1) m10

theorem s_Planner_stepsBetween_65 {z : gk_Z} (K : gk_F tx z me_Planner_stepsBetween 7) {r : Int32} {mem2 : gk_M} {k46 : Int32 → Int32 → Int32 → gk_M → Option (Int32 × gk_M)} (hk46 : ∀ a2 a3 a4 m0, k46 a2 a3 a4 m0 = some (r, mem2) → gk_G tx z me_Planner_stepsBetween (gk_R tx z (some (.int r)) mem2) m0 [(0, .ref 21), (2, .int a2), (3, .int a3), (4, .int a4)] [] 46) : ∀ n a2 a3 a4 a5 m0, f_Planner_stepsBetween_65 k46 n a2 a3 a4 a5 m0 = some (r, mem2) → gk_G tx z me_Planner_stepsBetween (gk_R tx z (some (.int r)) mem2) m0 [(0, .ref 21), (2, .int a2), (3, .int a3), (4, .int a4), (5, .int a5)] [] 65 := by
  intro n
  induction n with
  | zero => intro a2 a3 a4 a5 m0  h; exact nomatch (show (none : Option _) = some _ from h)
  | succ n ih =>
    intro a2 a3 a4 a5 m0  h
    unfold f_Planner_stepsBetween_65 at h
    refine gk_iload (pc := 65) K d_Planner_stepsBetween_65 rfl ?_
    refine gk_iconst (pc := 67) K d_Planner_stepsBetween_67 kc_4 ?_
    refine gk_ic_ge (tgt := 155) (pc := 68) K d_Planner_stepsBetween_68 (by decide) h (fun h => ?_) (fun h => ?_)
    · refine gk_iinc2 (lv2 := [(4, .int (a4 + 1)), (0, .ref 21), (2, .int a2), (3, .int a3), (5, .int a5)]) (pc := 155) K d_Planner_stepsBetween_155 rfl kc_1 (by decide) rfl ?_
      refine gk_goto (tgt := 46) (pc := 158) K d_Planner_stepsBetween_158 (by decide) ?_
      exact gk_sub [1, 2, 3, 0] rfl (hk46 _ _ _ _  h)
    · refine gk_aload_n (pc := 71) K d_Planner_stepsBetween_71 rfl ?_
      refine gk_get (pc := 72) K d_Planner_stepsBetween_72 fl_Planner_18 tx_21 rfl rfl ?_
      refine gk_iload (pc := 75) K d_Planner_stepsBetween_75 rfl ?_
      refine gk_iald (pc := 77) K d_Planner_stepsBetween_77 tx_24 h (fun v1 h => ?_)
      refine gk_iload (pc := 78) K d_Planner_stepsBetween_78 rfl ?_
      obtain ⟨v3, m2, em2, h⟩ := gk_bi_some h
      refine gk_cSi (As := [.int v1, .int a5]) (pc := 80) K d_Planner_stepsBetween_80 ms_Planner_91 mc_Planner_neighbour rfl (s_Planner_neighbour (gk_FD K)  em2) (by decide) rfl (Nat.le_of_ble_eq_true rfl) ?_
      refine gk_istore (lv2 := [(6, .int v3), (0, .ref 21), (2, .int a2), (3, .int a3), (4, .int a4), (5, .int a5)]) (pc := 83) K d_Planner_stepsBetween_83 (by decide) rfl ?_
      refine gk_iload (pc := 85) K d_Planner_stepsBetween_85 rfl ?_
      refine gk_if_lt (tgt := 149) (pc := 87) K d_Planner_stepsBetween_87 (by decide) h (fun h => ?_) (fun h => ?_)
      · refine gk_iinc2 (lv2 := [(5, .int (a5 + 1)), (6, .int v3), (0, .ref 21), (2, .int a2), (3, .int a3), (4, .int a4)]) (pc := 149) K d_Planner_stepsBetween_149 rfl kc_1 (by decide) rfl ?_
        refine gk_goto (tgt := 65) (pc := 152) K d_Planner_stepsBetween_152 (by decide) ?_
        exact gk_sub [2, 3, 4, 5, 0] rfl (ih _ _ _ _ _  h)
      · refine gk_iload_n (pc := 90) K d_Planner_stepsBetween_90 rfl ?_
        refine gk_sipush (pc := 91) K d_Planner_stepsBetween_91 ks_900 ?_
        refine gk_ic_ge (tgt := 149) (pc := 94) K d_Planner_stepsBetween_94 (by decide) h (fun h => ?_) (fun h => ?_)
        · refine gk_iinc2 (lv2 := [(5, .int (a5 + 1)), (6, .int v3), (0, .ref 21), (2, .int a2), (3, .int a3), (4, .int a4)]) (pc := 149) K d_Planner_stepsBetween_149 rfl kc_1 (by decide) rfl ?_
          refine gk_goto (tgt := 65) (pc := 152) K d_Planner_stepsBetween_152 (by decide) ?_
          exact gk_sub [2, 3, 4, 5, 0] rfl (ih _ _ _ _ _  h)
        · refine gk_aload_n (pc := 97) K d_Planner_stepsBetween_97 rfl ?_
          refine gk_get (pc := 98) K d_Planner_stepsBetween_98 fl_Planner_15 tx_21 rfl rfl ?_
          refine gk_iload (pc := 101) K d_Planner_stepsBetween_101 rfl ?_
          refine gk_iald (pc := 103) K d_Planner_stepsBetween_103 tx_23 h (fun v4 h => ?_)
          refine gk_iconst (pc := 104) K d_Planner_stepsBetween_104 kc_m1 ?_
          refine gk_ic_ne (tgt := 149) (pc := 105) K d_Planner_stepsBetween_105 (by decide) h (fun h => ?_) (fun h => ?_)
          · refine gk_iinc2 (lv2 := [(5, .int (a5 + 1)), (6, .int v3), (0, .ref 21), (2, .int a2), (3, .int a3), (4, .int a4)]) (pc := 149) K d_Planner_stepsBetween_149 rfl kc_1 (by decide) rfl ?_
            refine gk_goto (tgt := 65) (pc := 152) K d_Planner_stepsBetween_152 (by decide) ?_
            exact gk_sub [2, 3, 4, 5, 0] rfl (ih _ _ _ _ _  h)
          · refine gk_aload_n (pc := 108) K d_Planner_stepsBetween_108 rfl ?_
            refine gk_iload (pc := 109) K d_Planner_stepsBetween_109 rfl ?_
            obtain ⟨v6, m5, em5, h⟩ := gk_bi_some h
            refine gk_cVi (As := [.int v3]) (pc := 111) K d_Planner_stepsBetween_111 mv_Planner_88 mc_Planner_isClear rfl tx_21 cl_ok3.1 (s_Planner_isClear (gk_FD K)  em5) (by decide) rfl (Nat.le_of_ble_eq_true rfl) ?_
            refine gk_if_eq (tgt := 149) (pc := 114) K d_Planner_stepsBetween_114 (by decide) h (fun h => ?_) (fun h => ?_)
            · refine gk_iinc2 (lv2 := [(5, .int (a5 + 1)), (6, .int v3), (0, .ref 21), (2, .int a2), (3, .int a3), (4, .int a4)]) (pc := 149) K d_Planner_stepsBetween_149 rfl kc_1 (by decide) rfl ?_
              refine gk_goto (tgt := 65) (pc := 152) K d_Planner_stepsBetween_152 (by decide) ?_
              exact gk_sub [2, 3, 4, 5, 0] rfl (ih _ _ _ _ _  h)
            · refine gk_aload_n (pc := 117) K d_Planner_stepsBetween_117 rfl ?_
              refine gk_get (pc := 118) K d_Planner_stepsBetween_118 fl_Planner_15 tx_21 rfl rfl ?_
              refine gk_iload (pc := 121) K d_Planner_stepsBetween_121 rfl ?_
              refine gk_aload_n (pc := 123) K d_Planner_stepsBetween_123 rfl ?_
              refine gk_get (pc := 124) K d_Planner_stepsBetween_124 fl_Planner_15 tx_21 rfl rfl ?_
              refine gk_aload_n (pc := 127) K d_Planner_stepsBetween_127 rfl ?_
              refine gk_get (pc := 128) K d_Planner_stepsBetween_128 fl_Planner_18 tx_21 rfl rfl ?_
              refine gk_iload (pc := 131) K d_Planner_stepsBetween_131 rfl ?_
              refine gk_iald (pc := 133) K d_Planner_stepsBetween_133 tx_24 h (fun v7 h => ?_)
              refine gk_iald (pc := 134) K d_Planner_stepsBetween_134 tx_23 h (fun v8 h => ?_)
              refine gk_iconst (pc := 135) K d_Planner_stepsBetween_135 kc_1 ?_
              refine gk_iadd (pc := 136) K d_Planner_stepsBetween_136 ?_
              refine gk_iast (pc := 137) K d_Planner_stepsBetween_137 tx_23 h (fun m9 h => ?_)
              refine gk_aload_n (pc := 138) K d_Planner_stepsBetween_138 rfl ?_
              refine gk_get (pc := 139) K d_Planner_stepsBetween_139 fl_Planner_18 tx_21 rfl rfl ?_
              refine gk_iload_n (pc := 142) K d_Planner_stepsBetween_142 rfl ?_
              refine gk_iload (pc := 143) K d_Planner_stepsBetween_143 rfl ?_
              refine gk_iast (pc := 145) K d_Planner_stepsBetween_145 tx_24 h (fun m10 h => ?_)
              refine gk_iinc2 (lv2 := [(3, .int (a3 + 1)), (6, .int v3), (0, .ref 21), (2, .int a2), (4, .int a4), (5, .int a5)]) (pc := 146) K d_Planner_stepsBetween_146 rfl kc_1 (by decide) rfl ?_
              refine gk_iinc2 (lv2 := [(5, .int (a5 + 1)), (3, .int (a3 + 1)), (6, .int v3), (0, .ref 21), (2, .int a2), (4, .int a4)]) (pc := 149) K d_Planner_stepsBetween_149 rfl kc_1 (by decide) rfl ?_
              refine gk_goto (tgt := 65) (pc := 152) K d_Planner_stepsBetween_152 (by decide) ?_
              exact gk_sub [3, 4, 1, 5, 0] rfl (ih _ _ _ _ _  h)
noncomputable def f_Planner_stepsBetween_46  : Nat → Int32 → Int32 → Int32 → gk_M → Option (Int32 × gk_M)
  | 0, _, _, _, _ => none
  | n + 1, a2, a3, a4, m0 =>
    if a3 ≤ a4 then
      f_Planner_stepsBetween_161 a2 m0
    else
      gk_ai m0 23 900 a2 fun v1 =>
      if ¬ v1 = (-1) then
        f_Planner_stepsBetween_161 a2 m0
      else
        f_Planner_stepsBetween_65 (f_Planner_stepsBetween_46 n) gk_fv a2 a3 a4 0 m0

theorem s_Planner_stepsBetween_46 {z : gk_Z} (K : gk_F tx z me_Planner_stepsBetween 7) {r : Int32} {mem2 : gk_M} : ∀ n a2 a3 a4 m0, f_Planner_stepsBetween_46 n a2 a3 a4 m0 = some (r, mem2) → gk_G tx z me_Planner_stepsBetween (gk_R tx z (some (.int r)) mem2) m0 [(0, .ref 21), (2, .int a2), (3, .int a3), (4, .int a4)] [] 46 := by
  intro n
  induction n with
  | zero => intro a2 a3 a4 m0  h; exact nomatch (show (none : Option _) = some _ from h)
  | succ n ih =>
    intro a2 a3 a4 m0  h
    unfold f_Planner_stepsBetween_46 at h
    refine gk_iload (pc := 46) K d_Planner_stepsBetween_46 rfl ?_
    refine gk_iload_n (pc := 48) K d_Planner_stepsBetween_48 rfl ?_
    refine gk_ic_ge (tgt := 161) (pc := 49) K d_Planner_stepsBetween_49 (by decide) h (fun h => ?_) (fun h => ?_)
    · exact gk_sub [0, 1] rfl (s_Planner_stepsBetween_161 K _ _  h)
    · refine gk_aload_n (pc := 52) K d_Planner_stepsBetween_52 rfl ?_
      refine gk_get (pc := 53) K d_Planner_stepsBetween_53 fl_Planner_15 tx_21 rfl rfl ?_
      refine gk_iload_n (pc := 56) K d_Planner_stepsBetween_56 rfl ?_
      refine gk_iald (pc := 57) K d_Planner_stepsBetween_57 tx_23 h (fun v1 h => ?_)
      refine gk_iconst (pc := 58) K d_Planner_stepsBetween_58 kc_m1 ?_
      refine gk_ic_ne (tgt := 161) (pc := 59) K d_Planner_stepsBetween_59 (by decide) h (fun h => ?_) (fun h => ?_)
      · exact gk_sub [0, 1] rfl (s_Planner_stepsBetween_161 K _ _  h)
      · refine gk_iconst (pc := 62) K d_Planner_stepsBetween_62 kc_0 ?_
        refine gk_istore (lv2 := [(5, .int 0), (0, .ref 21), (2, .int a2), (3, .int a3), (4, .int a4)]) (pc := 63) K d_Planner_stepsBetween_63 (by decide) rfl ?_
        exact gk_sub [1, 2, 3, 4, 0] rfl (s_Planner_stepsBetween_65 K (fun x0 x1 x2 m  h => ih x0 x1 x2 m  h) _ _ _ _ _ _  h)
noncomputable def f_Planner_stepsBetween  (a1 : Int32) (a2 : Int32) (m0 : gk_M) : Option (Int32 × gk_M) :=
  gk_bi (f_Planner_isClear a1 m0) fun v2 m1 =>
  if v2 = 0 then
    some ((-2), m1)
  else
    gk_bi (f_Planner_isClear a2 m1) fun v4 m3 =>
    if ¬ v4 = 0 then
      gk_bv (f_Arrays_fillI 23 900 (-1) m3) fun m5 =>
      gk_si m5 23 900 a1 0 fun m6 =>
      gk_si m6 24 900 0 a1 fun m7 =>
      f_Planner_stepsBetween_46 gk_fv a2 1 0 m7
    else
      some ((-2), m3)

theorem s_Planner_stepsBetween_0 {z : gk_Z} (K : gk_F tx z me_Planner_stepsBetween 7) {r : Int32} {mem2 : gk_M} : ∀ a1 a2 m0, f_Planner_stepsBetween a1 a2 m0 = some (r, mem2) → gk_G tx z me_Planner_stepsBetween (gk_R tx z (some (.int r)) mem2) m0 [(0, .ref 21), (1, .int a1), (2, .int a2)] [] 0 := by
  intro a1 a2 m0  h
  unfold f_Planner_stepsBetween at h
  refine gk_aload_n (pc := 0) K d_Planner_stepsBetween_0 rfl ?_
  refine gk_iload_n (pc := 1) K d_Planner_stepsBetween_1 rfl ?_
  obtain ⟨v2, m1, em1, h⟩ := gk_bi_some h
  refine gk_cVi (As := [.int a1]) (pc := 2) K d_Planner_stepsBetween_2 mv_Planner_88 mc_Planner_isClear rfl tx_21 cl_ok3.1 (s_Planner_isClear (gk_FD K)  em1) (by decide) rfl (Nat.le_of_ble_eq_true rfl) ?_
  refine gk_if_eq (tgt := 16) (pc := 5) K d_Planner_stepsBetween_5 (by decide) h (fun h => ?_) (fun h => ?_)
  · refine gk_bipush (pc := 16) K d_Planner_stepsBetween_16 kb_m2 ?_
    exact gk_iret (pc := 18) K d_Planner_stepsBetween_18 rfl h
  · refine gk_aload_n (pc := 8) K d_Planner_stepsBetween_8 rfl ?_
    refine gk_iload_n (pc := 9) K d_Planner_stepsBetween_9 rfl ?_
    obtain ⟨v4, m3, em3, h⟩ := gk_bi_some h
    refine gk_cVi (As := [.int a2]) (pc := 10) K d_Planner_stepsBetween_10 mv_Planner_88 mc_Planner_isClear rfl tx_21 cl_ok3.1 (s_Planner_isClear (gk_FD K)  em3) (by decide) rfl (Nat.le_of_ble_eq_true rfl) ?_
    refine gk_if_ne (tgt := 19) (pc := 13) K d_Planner_stepsBetween_13 (by decide) h (fun h => ?_) (fun h => ?_)
    · refine gk_aload_n (pc := 19) K d_Planner_stepsBetween_19 rfl ?_
      refine gk_get (pc := 20) K d_Planner_stepsBetween_20 fl_Planner_15 tx_21 rfl rfl ?_
      refine gk_iconst (pc := 23) K d_Planner_stepsBetween_23 kc_m1 ?_
      obtain ⟨m5, em5, h⟩ := gk_bv_some h
      refine gk_cSv (As := [.ref 23, .int (-1)]) (pc := 24) K d_Planner_stepsBetween_24 ms_Planner_56 mc_Arrays_fillI rfl (s_Arrays_fillI (gk_FD K) tx_23 em5) (by decide) rfl (Nat.le_of_ble_eq_true rfl) ?_
      refine gk_aload_n (pc := 27) K d_Planner_stepsBetween_27 rfl ?_
      refine gk_get (pc := 28) K d_Planner_stepsBetween_28 fl_Planner_15 tx_21 rfl rfl ?_
      refine gk_iload_n (pc := 31) K d_Planner_stepsBetween_31 rfl ?_
      refine gk_iconst (pc := 32) K d_Planner_stepsBetween_32 kc_0 ?_
      refine gk_iast (pc := 33) K d_Planner_stepsBetween_33 tx_23 h (fun m6 h => ?_)
      refine gk_aload_n (pc := 34) K d_Planner_stepsBetween_34 rfl ?_
      refine gk_get (pc := 35) K d_Planner_stepsBetween_35 fl_Planner_18 tx_21 rfl rfl ?_
      refine gk_iconst (pc := 38) K d_Planner_stepsBetween_38 kc_0 ?_
      refine gk_iload_n (pc := 39) K d_Planner_stepsBetween_39 rfl ?_
      refine gk_iast (pc := 40) K d_Planner_stepsBetween_40 tx_24 h (fun m7 h => ?_)
      refine gk_iconst (pc := 41) K d_Planner_stepsBetween_41 kc_1 ?_
      refine gk_istore_n (lv2 := [(3, .int 1), (0, .ref 21), (1, .int a1), (2, .int a2)]) (pc := 42) K d_Planner_stepsBetween_42 (by decide) rfl ?_
      refine gk_iconst (pc := 43) K d_Planner_stepsBetween_43 kc_0 ?_
      refine gk_istore (lv2 := [(4, .int 0), (3, .int 1), (0, .ref 21), (1, .int a1), (2, .int a2)]) (pc := 44) K d_Planner_stepsBetween_44 (by decide) rfl ?_
      exact gk_sub [2, 4, 1, 0] rfl (s_Planner_stepsBetween_46 K _ _ _ _ _  h)
    · refine gk_bipush (pc := 16) K d_Planner_stepsBetween_16 kb_m2 ?_
      exact gk_iret (pc := 18) K d_Planner_stepsBetween_18 rfl h
theorem s_Planner_stepsBetween {l : Launch} {u : gk_U} (hD : gk_D tx u) {a1 : Int32} {a2 : Int32} {m0 mem2 : gk_M} {r : Int32} (h : f_Planner_stepsBetween a1 a2 m0 = some (r, mem2)) : gk_C tx l u me_Planner_stepsBetween 7 [.ref 21, .int a1, .int a2] m0 (some (.int r)) mem2 :=
  gk_enter hD mc_Planner_stepsBetween (Nat.le_of_ble_eq_true rfl) rfl (fun z _ _ K => s_Planner_stepsBetween_0 K _ _ _  h)
