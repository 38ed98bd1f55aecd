theorem d_Reader_levelOf_0 : decode me_Reader_levelOf.2.1 0 = .ok (.iload_n 0, 1) := by decide +kernel
theorem d_Reader_levelOf_1 : decode me_Reader_levelOf.2.1 1 = .ok (.lookupswitch 101 #[(37, 99), (38, 93), (42, 99), (43, 97), (45, 97), (47, 99), (60, 95), (61, 95), (62, 95), (124, 91)], 91) := by decide +kernel
theorem d_Reader_levelOf_92 : decode me_Reader_levelOf.2.1 92 = .ok (.iconst 0, 1) := by decide +kernel
theorem d_Reader_levelOf_93 : decode me_Reader_levelOf.2.1 93 = .ok (.ireturn, 1) := by decide +kernel
theorem d_Reader_levelOf_94 : decode me_Reader_levelOf.2.1 94 = .ok (.iconst 1, 1) := by decide +kernel
theorem d_Reader_levelOf_95 : decode me_Reader_levelOf.2.1 95 = .ok (.ireturn, 1) := by decide +kernel
theorem d_Reader_levelOf_96 : decode me_Reader_levelOf.2.1 96 = .ok (.iconst 2, 1) := by decide +kernel
theorem d_Reader_levelOf_97 : decode me_Reader_levelOf.2.1 97 = .ok (.ireturn, 1) := by decide +kernel
theorem d_Reader_levelOf_98 : decode me_Reader_levelOf.2.1 98 = .ok (.iconst 3, 1) := by decide +kernel
theorem d_Reader_levelOf_99 : decode me_Reader_levelOf.2.1 99 = .ok (.ireturn, 1) := by decide +kernel
theorem d_Reader_levelOf_100 : decode me_Reader_levelOf.2.1 100 = .ok (.iconst 4, 1) := by decide +kernel
theorem d_Reader_levelOf_101 : decode me_Reader_levelOf.2.1 101 = .ok (.ireturn, 1) := by decide +kernel
theorem d_Reader_levelOf_102 : decode me_Reader_levelOf.2.1 102 = .ok (.iconst (-1), 1) := by decide +kernel
theorem d_Reader_levelOf_103 : decode me_Reader_levelOf.2.1 103 = .ok (.ireturn, 1) := by decide +kernel
noncomputable def f_Reader_levelOf  (a0 : Int32) (m0 : gk_M) : Option (Int32 × gk_M) :=
  if a0 = 37 then
    some (4, m0)
  else
    if a0 = 38 then
      some (1, m0)
    else
      if a0 = 42 then
        some (4, m0)
      else
        if a0 = 43 then
          some (3, m0)
        else
          if a0 = 45 then
            some (3, m0)
          else
            if a0 = 47 then
              some (4, m0)
            else
              if a0 = 60 then
                some (2, m0)
              else
                if a0 = 61 then
                  some (2, m0)
                else
                  if a0 = 62 then
                    some (2, m0)
                  else
                    if a0 = 124 then
                      some (0, m0)
                    else
                      some ((-1), m0)

theorem s_Reader_levelOf_0 {z : gk_Z} (K : gk_F tx z me_Reader_levelOf 1) {r : Int32} {mem2 : gk_M} : ∀ a0 m0, f_Reader_levelOf a0 m0 = some (r, mem2) → gk_G tx z me_Reader_levelOf (gk_R tx z (some (.int r)) mem2) m0 [(0, .int a0)] [] 0 := by
  intro a0 m0  h
  unfold f_Reader_levelOf at h
  refine gk_iload_n (pc := 0) K d_Reader_levelOf_0 rfl ?_
  refine gk_ite (c := a0 = 37) h (fun c1 h => ?_) (fun c1 h => ?_)
  · refine gk_lk (off := 99) (tgt := 100) (pc := 1) K d_Reader_levelOf_1 rfl (by subst c1; rfl) (by decide) ?_
    refine gk_iconst (pc := 100) K d_Reader_levelOf_100 kc_4 ?_
    exact gk_iret (pc := 101) K d_Reader_levelOf_101 rfl h
  · skip
    refine gk_ite (c := a0 = 38) h (fun c2 h => ?_) (fun c2 h => ?_)
    · refine gk_lk (off := 93) (tgt := 94) (pc := 1) K d_Reader_levelOf_1 rfl (by subst c2; rfl) (by decide) ?_
      refine gk_iconst (pc := 94) K d_Reader_levelOf_94 kc_1 ?_
      exact gk_iret (pc := 95) K d_Reader_levelOf_95 rfl h
    · skip
      refine gk_ite (c := a0 = 42) h (fun c3 h => ?_) (fun c3 h => ?_)
      · refine gk_lk (off := 99) (tgt := 100) (pc := 1) K d_Reader_levelOf_1 rfl (by subst c3; rfl) (by decide) ?_
        refine gk_iconst (pc := 100) K d_Reader_levelOf_100 kc_4 ?_
        exact gk_iret (pc := 101) K d_Reader_levelOf_101 rfl h
      · skip
        refine gk_ite (c := a0 = 43) h (fun c4 h => ?_) (fun c4 h => ?_)
        · refine gk_lk (off := 97) (tgt := 98) (pc := 1) K d_Reader_levelOf_1 rfl (by subst c4; rfl) (by decide) ?_
          refine gk_iconst (pc := 98) K d_Reader_levelOf_98 kc_3 ?_
          exact gk_iret (pc := 99) K d_Reader_levelOf_99 rfl h
        · skip
          refine gk_ite (c := a0 = 45) h (fun c5 h => ?_) (fun c5 h => ?_)
          · refine gk_lk (off := 97) (tgt := 98) (pc := 1) K d_Reader_levelOf_1 rfl (by subst c5; rfl) (by decide) ?_
            refine gk_iconst (pc := 98) K d_Reader_levelOf_98 kc_3 ?_
            exact gk_iret (pc := 99) K d_Reader_levelOf_99 rfl h
          · skip
            refine gk_ite (c := a0 = 47) h (fun c6 h => ?_) (fun c6 h => ?_)
            · refine gk_lk (off := 99) (tgt := 100) (pc := 1) K d_Reader_levelOf_1 rfl (by subst c6; rfl) (by decide) ?_
              refine gk_iconst (pc := 100) K d_Reader_levelOf_100 kc_4 ?_
              exact gk_iret (pc := 101) K d_Reader_levelOf_101 rfl h
            · skip
              refine gk_ite (c := a0 = 60) h (fun c7 h => ?_) (fun c7 h => ?_)
              · refine gk_lk (off := 95) (tgt := 96) (pc := 1) K d_Reader_levelOf_1 rfl (by subst c7; rfl) (by decide) ?_
                refine gk_iconst (pc := 96) K d_Reader_levelOf_96 kc_2 ?_
                exact gk_iret (pc := 97) K d_Reader_levelOf_97 rfl h
              · skip
                refine gk_ite (c := a0 = 61) h (fun c8 h => ?_) (fun c8 h => ?_)
                · refine gk_lk (off := 95) (tgt := 96) (pc := 1) K d_Reader_levelOf_1 rfl (by subst c8; rfl) (by decide) ?_
                  refine gk_iconst (pc := 96) K d_Reader_levelOf_96 kc_2 ?_
                  exact gk_iret (pc := 97) K d_Reader_levelOf_97 rfl h
                · skip
                  refine gk_ite (c := a0 = 62) h (fun c9 h => ?_) (fun c9 h => ?_)
                  · refine gk_lk (off := 95) (tgt := 96) (pc := 1) K d_Reader_levelOf_1 rfl (by subst c9; rfl) (by decide) ?_
                    refine gk_iconst (pc := 96) K d_Reader_levelOf_96 kc_2 ?_
                    exact gk_iret (pc := 97) K d_Reader_levelOf_97 rfl h
                  · skip
                    refine gk_ite (c := a0 = 124) h (fun c10 h => ?_) (fun c10 h => ?_)
                    · refine gk_lk (off := 91) (tgt := 92) (pc := 1) K d_Reader_levelOf_1 rfl (by subst c10; rfl) (by decide) ?_
                      refine gk_iconst (pc := 92) K d_Reader_levelOf_92 kc_0 ?_
                      exact gk_iret (pc := 93) K d_Reader_levelOf_93 rfl h
                    · skip
                      refine gk_lk (off := 101) (tgt := 102) (pc := 1) K d_Reader_levelOf_1 rfl ((lv_osw c1 (by decide)).trans ((lv_osw c2 (by decide)).trans ((lv_osw c3 (by decide)).trans ((lv_osw c4 (by decide)).trans ((lv_osw c5 (by decide)).trans ((lv_osw c6 (by decide)).trans ((lv_osw c7 (by decide)).trans ((lv_osw c8 (by decide)).trans ((lv_osw c9 (by decide)).trans ((lv_osw c10 (by decide)).trans (rfl))))))))))) (by decide) ?_
                      refine gk_iconst (pc := 102) K d_Reader_levelOf_102 kc_m1 ?_
                      exact gk_iret (pc := 103) K d_Reader_levelOf_103 rfl h
theorem s_Reader_levelOf {l : Launch} {u : gk_U} (hD : gk_D tx u) {a0 : Int32} {m0 mem2 : gk_M} {r : Int32} (h : f_Reader_levelOf a0 m0 = some (r, mem2)) : gk_C tx l u me_Reader_levelOf 1 [.int a0] m0 (some (.int r)) mem2 :=
  gk_enter hD mc_Reader_levelOf (Nat.le_of_ble_eq_true rfl) rfl (fun z _ _ K => s_Reader_levelOf_0 K _ _  h)
theorem d_Reader_readOperand_0 : decode me_Reader_readOperand.2.1 0 = .ok (.aload_n 0, 1) := by decide +kernel
theorem d_Reader_readOperand_1 : decode me_Reader_readOperand.2.1 1 = .ok (.invokevirtual 36, 3) := by decide +kernel
theorem d_Reader_readOperand_4 : decode me_Reader_readOperand.2.1 4 = .ok (.istore_n 2, 1) := by decide +kernel
theorem d_Reader_readOperand_5 : decode me_Reader_readOperand.2.1 5 = .ok (.iload_n 2, 1) := by decide +kernel
theorem d_Reader_readOperand_6 : decode me_Reader_readOperand.2.1 6 = .ok (.bipush 48, 2) := by decide +kernel
theorem d_Reader_readOperand_8 : decode me_Reader_readOperand.2.1 8 = .ok (.if_icmp .lt 16, 3) := by decide +kernel
theorem d_Reader_readOperand_11 : decode me_Reader_readOperand.2.1 11 = .ok (.iload_n 2, 1) := by decide +kernel
theorem d_Reader_readOperand_12 : decode me_Reader_readOperand.2.1 12 = .ok (.bipush 57, 2) := by decide +kernel
theorem d_Reader_readOperand_14 : decode me_Reader_readOperand.2.1 14 = .ok (.if_icmp .gt 10, 3) := by decide +kernel
theorem d_Reader_readOperand_17 : decode me_Reader_readOperand.2.1 17 = .ok (.aload_n 0, 1) := by decide +kernel
theorem d_Reader_readOperand_18 : decode me_Reader_readOperand.2.1 18 = .ok (.invokevirtual 55, 3) := by decide +kernel
theorem d_Reader_readOperand_21 : decode me_Reader_readOperand.2.1 21 = .ok (.goto 139, 3) := by decide +kernel
theorem d_Reader_readOperand_24 : decode me_Reader_readOperand.2.1 24 = .ok (.iload_n 2, 1) := by decide +kernel
theorem d_Reader_readOperand_25 : decode me_Reader_readOperand.2.1 25 = .ok (.invokestatic 58, 3) := by decide +kernel
theorem d_Reader_readOperand_28 : decode me_Reader_readOperand.2.1 28 = .ok (.ifCond .eq 24, 3) := by decide +kernel
theorem d_Reader_readOperand_31 : decode me_Reader_readOperand.2.1 31 = .ok (.aload_n 0, 1) := by decide +kernel
theorem d_Reader_readOperand_32 : decode me_Reader_readOperand.2.1 32 = .ok (.dup, 1) := by decide +kernel
theorem d_Reader_readOperand_33 : decode me_Reader_readOperand.2.1 33 = .ok (.getfield 27, 3) := by decide +kernel
theorem d_Reader_readOperand_36 : decode me_Reader_readOperand.2.1 36 = .ok (.iconst 1, 1) := by decide +kernel
theorem d_Reader_readOperand_37 : decode me_Reader_readOperand.2.1 37 = .ok (.iadd, 1) := by decide +kernel
theorem d_Reader_readOperand_38 : decode me_Reader_readOperand.2.1 38 = .ok (.putfield 27, 3) := by decide +kernel
theorem d_Reader_readOperand_41 : decode me_Reader_readOperand.2.1 41 = .ok (.aload_n 0, 1) := by decide +kernel
theorem d_Reader_readOperand_42 : decode me_Reader_readOperand.2.1 42 = .ok (.iload_n 2, 1) := by decide +kernel
theorem d_Reader_readOperand_43 : decode me_Reader_readOperand.2.1 43 = .ok (.invokestatic 58, 3) := by decide +kernel
theorem d_Reader_readOperand_46 : decode me_Reader_readOperand.2.1 46 = .ok (.invokevirtual 44, 3) := by decide +kernel
theorem d_Reader_readOperand_49 : decode me_Reader_readOperand.2.1 49 = .ok (.goto 111, 3) := by decide +kernel
theorem d_Reader_readOperand_52 : decode me_Reader_readOperand.2.1 52 = .ok (.iload_n 1, 1) := by decide +kernel
theorem d_Reader_readOperand_53 : decode me_Reader_readOperand.2.1 53 = .ok (.bipush 6, 2) := by decide +kernel
theorem d_Reader_readOperand_55 : decode me_Reader_readOperand.2.1 55 = .ok (.if_icmp .lt 14, 3) := by decide +kernel
theorem d_Reader_readOperand_58 : decode me_Reader_readOperand.2.1 58 = .ok (.aload_n 0, 1) := by decide +kernel
theorem d_Reader_readOperand_59 : decode me_Reader_readOperand.2.1 59 = .ok (.aload_n 0, 1) := by decide +kernel
theorem d_Reader_readOperand_60 : decode me_Reader_readOperand.2.1 60 = .ok (.getfield 27, 3) := by decide +kernel
theorem d_Reader_readOperand_63 : decode me_Reader_readOperand.2.1 63 = .ok (.putfield 30, 3) := by decide +kernel
theorem d_Reader_readOperand_66 : decode me_Reader_readOperand.2.1 66 = .ok (.goto 94, 3) := by decide +kernel
theorem d_Reader_readOperand_69 : decode me_Reader_readOperand.2.1 69 = .ok (.iload_n 2, 1) := by decide +kernel
theorem d_Reader_readOperand_70 : decode me_Reader_readOperand.2.1 70 = .ok (.bipush 33, 2) := by decide +kernel
theorem d_Reader_readOperand_72 : decode me_Reader_readOperand.2.1 72 = .ok (.if_icmp .eq 9, 3) := by decide +kernel
theorem d_Reader_readOperand_75 : decode me_Reader_readOperand.2.1 75 = .ok (.iload_n 2, 1) := by decide +kernel
theorem d_Reader_readOperand_76 : decode me_Reader_readOperand.2.1 76 = .ok (.bipush 45, 2) := by decide +kernel
theorem d_Reader_readOperand_78 : decode me_Reader_readOperand.2.1 78 = .ok (.if_icmp .ne 43, 3) := by decide +kernel
theorem d_Reader_readOperand_81 : decode me_Reader_readOperand.2.1 81 = .ok (.aload_n 0, 1) := by decide +kernel
theorem d_Reader_readOperand_82 : decode me_Reader_readOperand.2.1 82 = .ok (.dup, 1) := by decide +kernel
theorem d_Reader_readOperand_83 : decode me_Reader_readOperand.2.1 83 = .ok (.getfield 27, 3) := by decide +kernel
theorem d_Reader_readOperand_86 : decode me_Reader_readOperand.2.1 86 = .ok (.iconst 1, 1) := by decide +kernel
theorem d_Reader_readOperand_87 : decode me_Reader_readOperand.2.1 87 = .ok (.iadd, 1) := by decide +kernel
theorem d_Reader_readOperand_88 : decode me_Reader_readOperand.2.1 88 = .ok (.putfield 27, 3) := by decide +kernel
theorem d_Reader_readOperand_91 : decode me_Reader_readOperand.2.1 91 = .ok (.aload_n 0, 1) := by decide +kernel
theorem d_Reader_readOperand_92 : decode me_Reader_readOperand.2.1 92 = .ok (.iload_n 1, 1) := by decide +kernel
theorem d_Reader_readOperand_93 : decode me_Reader_readOperand.2.1 93 = .ok (.iconst 1, 1) := by decide +kernel
theorem d_Reader_readOperand_94 : decode me_Reader_readOperand.2.1 94 = .ok (.iadd, 1) := by decide +kernel
theorem d_Reader_readOperand_95 : decode me_Reader_readOperand.2.1 95 = .ok (.invokevirtual 48, 3) := by decide +kernel
theorem d_Reader_readOperand_98 : decode me_Reader_readOperand.2.1 98 = .ok (.aload_n 0, 1) := by decide +kernel
theorem d_Reader_readOperand_99 : decode me_Reader_readOperand.2.1 99 = .ok (.iload_n 2, 1) := by decide +kernel
theorem d_Reader_readOperand_100 : decode me_Reader_readOperand.2.1 100 = .ok (.bipush 45, 2) := by decide +kernel
theorem d_Reader_readOperand_102 : decode me_Reader_readOperand.2.1 102 = .ok (.if_icmp .ne 9, 3) := by decide +kernel
theorem d_Reader_readOperand_105 : decode me_Reader_readOperand.2.1 105 = .ok (.sipush (-400), 3) := by decide +kernel
theorem d_Reader_readOperand_108 : decode me_Reader_readOperand.2.1 108 = .ok (.goto 7, 3) := by decide +kernel
theorem d_Reader_readOperand_111 : decode me_Reader_readOperand.2.1 111 = .ok (.bipush (-100), 2) := by decide +kernel
theorem d_Reader_readOperand_113 : decode me_Reader_readOperand.2.1 113 = .ok (.iload_n 2, 1) := by decide +kernel
theorem d_Reader_readOperand_114 : decode me_Reader_readOperand.2.1 114 = .ok (.isub, 1) := by decide +kernel
theorem d_Reader_readOperand_115 : decode me_Reader_readOperand.2.1 115 = .ok (.invokevirtual 44, 3) := by decide +kernel
theorem d_Reader_readOperand_118 : decode me_Reader_readOperand.2.1 118 = .ok (.goto 42, 3) := by decide +kernel
theorem d_Reader_readOperand_121 : decode me_Reader_readOperand.2.1 121 = .ok (.iload_n 2, 1) := by decide +kernel
theorem d_Reader_readOperand_122 : decode me_Reader_readOperand.2.1 122 = .ok (.bipush 40, 2) := by decide +kernel
theorem d_Reader_readOperand_124 : decode me_Reader_readOperand.2.1 124 = .ok (.if_icmp .ne 28, 3) := by decide +kernel
theorem d_Reader_readOperand_127 : decode me_Reader_readOperand.2.1 127 = .ok (.aload_n 0, 1) := by decide +kernel
theorem d_Reader_readOperand_128 : decode me_Reader_readOperand.2.1 128 = .ok (.dup, 1) := by decide +kernel
theorem d_Reader_readOperand_129 : decode me_Reader_readOperand.2.1 129 = .ok (.getfield 27, 3) := by decide +kernel
theorem d_Reader_readOperand_132 : decode me_Reader_readOperand.2.1 132 = .ok (.iconst 1, 1) := by decide +kernel
theorem d_Reader_readOperand_133 : decode me_Reader_readOperand.2.1 133 = .ok (.iadd, 1) := by decide +kernel
theorem d_Reader_readOperand_134 : decode me_Reader_readOperand.2.1 134 = .ok (.putfield 27, 3) := by decide +kernel
theorem d_Reader_readOperand_137 : decode me_Reader_readOperand.2.1 137 = .ok (.aload_n 0, 1) := by decide +kernel
theorem d_Reader_readOperand_138 : decode me_Reader_readOperand.2.1 138 = .ok (.iconst 0, 1) := by decide +kernel
theorem d_Reader_readOperand_139 : decode me_Reader_readOperand.2.1 139 = .ok (.iload_n 1, 1) := by decide +kernel
theorem d_Reader_readOperand_140 : decode me_Reader_readOperand.2.1 140 = .ok (.iconst 1, 1) := by decide +kernel
theorem d_Reader_readOperand_141 : decode me_Reader_readOperand.2.1 141 = .ok (.iadd, 1) := by decide +kernel
theorem d_Reader_readOperand_142 : decode me_Reader_readOperand.2.1 142 = .ok (.invokevirtual 40, 3) := by decide +kernel
theorem d_Reader_readOperand_145 : decode me_Reader_readOperand.2.1 145 = .ok (.aload_n 0, 1) := by decide +kernel
theorem d_Reader_readOperand_146 : decode me_Reader_readOperand.2.1 146 = .ok (.invokevirtual 61, 3) := by decide +kernel
theorem d_Reader_readOperand_149 : decode me_Reader_readOperand.2.1 149 = .ok (.goto 11, 3) := by decide +kernel
theorem d_Reader_readOperand_152 : decode me_Reader_readOperand.2.1 152 = .ok (.aload_n 0, 1) := by decide +kernel
theorem d_Reader_readOperand_153 : decode me_Reader_readOperand.2.1 153 = .ok (.aload_n 0, 1) := by decide +kernel
theorem d_Reader_readOperand_154 : decode me_Reader_readOperand.2.1 154 = .ok (.getfield 27, 3) := by decide +kernel
theorem d_Reader_readOperand_157 : decode me_Reader_readOperand.2.1 157 = .ok (.putfield 30, 3) := by decide +kernel
theorem d_Reader_readOperand_160 : decode me_Reader_readOperand.2.1 160 = .ok (.return_, 1) := by decide +kernel
noncomputable def f_Reader_readOperand_115 (q_Reader_readOperand : Int32 → gk_M → Option (Unit × gk_M)) (q_Reader_readLevel : Int32 → Int32 → gk_M → Option (Unit × gk_M)) (s1 : Int32) (m0 : gk_M) : Option (Unit × gk_M) :=
  gk_bv (f_Reader_draw s1 m0) fun m1 =>
  some ((), m1)

theorem s_Reader_readOperand_115 {z : gk_Z} {dd : Nat} (K : gk_F tx z me_Reader_readOperand (3 + (dd + 1))) {r : Unit} {mem2 : gk_M} (q_Reader_readOperand : Int32 → gk_M → Option (Unit × gk_M)) (q_Reader_readLevel : Int32 → Int32 → gk_M → Option (Unit × gk_M)) (hq_Reader_readOperand : ∀ b0 mem r mem2, q_Reader_readOperand b0 mem = some (r, mem2) → gk_C tx (gk_zl z) (gk_zu z) me_Reader_readOperand (3 + dd) [.ref 4, .int b0] mem none mem2) (hq_Reader_readLevel : ∀ b0 b1 mem r mem2, q_Reader_readLevel b0 b1 mem = some (r, mem2) → gk_C tx (gk_zl z) (gk_zu z) me_Reader_readLevel (3 + dd) [.ref 4, .int b0, .int b1] mem none mem2) : ∀ s1 m0, f_Reader_readOperand_115 q_Reader_readOperand q_Reader_readLevel s1 m0 = some (r, mem2) → gk_G tx z me_Reader_readOperand (gk_R tx z none mem2) m0 [] [.int s1, .ref 4] 115 := by
  intro s1 m0  h
  unfold f_Reader_readOperand_115 at h
  obtain ⟨m1, em1, h⟩ := gk_bv_some h
  refine gk_cVv (As := [.int s1]) (pc := 115) K d_Reader_readOperand_115 mv_Reader_44 mc_Reader_draw rfl tx_4 cl_ok1.1 (s_Reader_draw (gk_FD K)  em1) (by omega) rfl (Nat.le_of_ble_eq_true rfl) ?_
  refine gk_goto (tgt := 160) (pc := 118) K d_Reader_readOperand_118 (by decide) ?_
  exact gk_vret (pc := 160) K d_Reader_readOperand_160 rfl h
noncomputable def f_Reader_readOperand_81 (q_Reader_readOperand : Int32 → gk_M → Option (Unit × gk_M)) (q_Reader_readLevel : Int32 → Int32 → gk_M → Option (Unit × gk_M)) (a1 : Int32) (a2 : Int32) (m0 : gk_M) : Option (Unit × gk_M) :=
  gk_let (gk_mi m0 4 4 ((m0.1 4 4) + 1)) fun m1 =>
  gk_bv (q_Reader_readOperand (a1 + 1) m1) fun m2 =>
  if ¬ a2 = 45 then
    f_Reader_readOperand_115 q_Reader_readOperand q_Reader_readLevel ((-100) - a2) m2
  else
    f_Reader_readOperand_115 q_Reader_readOperand q_Reader_readLevel (-400) m2

theorem s_Reader_readOperand_81 {z : gk_Z} {dd : Nat} (K : gk_F tx z me_Reader_readOperand (3 + (dd + 1))) {r : Unit} {mem2 : gk_M} (q_Reader_readOperand : Int32 → gk_M → Option (Unit × gk_M)) (q_Reader_readLevel : Int32 → Int32 → gk_M → Option (Unit × gk_M)) (hq_Reader_readOperand : ∀ b0 mem r mem2, q_Reader_readOperand b0 mem = some (r, mem2) → gk_C tx (gk_zl z) (gk_zu z) me_Reader_readOperand (3 + dd) [.ref 4, .int b0] mem none mem2) (hq_Reader_readLevel : ∀ b0 b1 mem r mem2, q_Reader_readLevel b0 b1 mem = some (r, mem2) → gk_C tx (gk_zl z) (gk_zu z) me_Reader_readLevel (3 + dd) [.ref 4, .int b0, .int b1] mem none mem2) : ∀ a1 a2 m0, f_Reader_readOperand_81 q_Reader_readOperand q_Reader_readLevel a1 a2 m0 = some (r, mem2) → gk_G tx z me_Reader_readOperand (gk_R tx z none mem2) m0 [(0, .ref 4), (1, .int a1), (2, .int a2)] [] 81 := by
  intro a1 a2 m0  h
  unfold f_Reader_readOperand_81 at h
  refine gk_aload_n (pc := 81) K d_Reader_readOperand_81 rfl ?_
  refine gk_dup (pc := 82) K d_Reader_readOperand_82 rfl ?_
  refine gk_get (pc := 83) K d_Reader_readOperand_83 fl_Reader_27 tx_4 rfl rfl ?_
  refine gk_iconst (pc := 86) K d_Reader_readOperand_86 kc_1 ?_
  refine gk_iadd (pc := 87) K d_Reader_readOperand_87 ?_
  refine gk_puti (pc := 88) K d_Reader_readOperand_88 fp_Reader_27 tx_4 rfl h (fun m1 h => ?_)
  refine gk_aload_n (pc := 91) K d_Reader_readOperand_91 rfl ?_
  refine gk_iload_n (pc := 92) K d_Reader_readOperand_92 rfl ?_
  refine gk_iconst (pc := 93) K d_Reader_readOperand_93 kc_1 ?_
  refine gk_iadd (pc := 94) K d_Reader_readOperand_94 ?_
  obtain ⟨m2, em2, h⟩ := gk_bv_some h
  refine gk_cVv (As := [.int (a1 + 1)]) (pc := 95) K d_Reader_readOperand_95 mv_Reader_48 mc_Reader_readOperand rfl tx_4 cl_ok1.1 (hq_Reader_readOperand _ _ _ _ em2) (by omega) rfl (Nat.le_of_ble_eq_true rfl) ?_
  refine gk_aload_n (pc := 98) K d_Reader_readOperand_98 rfl ?_
  refine gk_iload_n (pc := 99) K d_Reader_readOperand_99 rfl ?_
  refine gk_bipush (pc := 100) K d_Reader_readOperand_100 kb_45 ?_
  refine gk_ic_ne (tgt := 111) (pc := 102) K d_Reader_readOperand_102 (by decide) h (fun h => ?_) (fun h => ?_)
  · refine gk_bipush (pc := 111) K d_Reader_readOperand_111 kb_m100 ?_
    refine gk_iload_n (pc := 113) K d_Reader_readOperand_113 rfl ?_
    refine gk_isub (pc := 114) K d_Reader_readOperand_114 ?_
    exact gk_sub [] rfl (s_Reader_readOperand_115 K q_Reader_readOperand q_Reader_readLevel hq_Reader_readOperand hq_Reader_readLevel _ _  h)
  · refine gk_sipush (pc := 105) K d_Reader_readOperand_105 ks_m400 ?_
    refine gk_goto (tgt := 115) (pc := 108) K d_Reader_readOperand_108 (by decide) ?_
    exact gk_sub [] rfl (s_Reader_readOperand_115 K q_Reader_readOperand q_Reader_readLevel hq_Reader_readOperand hq_Reader_readLevel _ _  h)
noncomputable def f_Reader_readOperand_24 (q_Reader_readOperand : Int32 → gk_M → Option (Unit × gk_M)) (q_Reader_readLevel : Int32 → Int32 → gk_M → Option (Unit × gk_M)) (a1 : Int32) (a2 : Int32) (m0 : gk_M) : Option (Unit × gk_M) :=
  gk_bi (f_Reader_nameOf a2 m0) fun v2 m1 =>
  if v2 = 0 then
    if a1 < 6 then
      if a2 = 33 then
        f_Reader_readOperand_81 q_Reader_readOperand q_Reader_readLevel a1 a2 m1
      else
        if ¬ a2 = 45 then
          if ¬ a2 = 40 then
            gk_let (gk_mi m1 4 5 (m1.1 4 4)) fun m3 =>
            some ((), m3)
          else
            gk_let (gk_mi m1 4 4 ((m1.1 4 4) + 1)) fun m4 =>
            gk_bv (q_Reader_readLevel 0 (a1 + 1) m4) fun m5 =>
            gk_bv (f_Reader_close  m5) fun m6 =>
            some ((), m6)
        else
          f_Reader_readOperand_81 q_Reader_readOperand q_Reader_readLevel a1 a2 m1
    else
      gk_let (gk_mi m1 4 5 (m1.1 4 4)) fun m7 =>
      some ((), m7)
  else
    gk_let (gk_mi m1 4 4 ((m1.1 4 4) + 1)) fun m8 =>
    gk_bi (f_Reader_nameOf a2 m8) fun v10 m9 =>
    gk_bv (f_Reader_draw v10 m9) fun m11 =>
    some ((), m11)

theorem s_Reader_readOperand_24 {z : gk_Z} {dd : Nat} (K : gk_F tx z me_Reader_readOperand (3 + (dd + 1))) {r : Unit} {mem2 : gk_M} (q_Reader_readOperand : Int32 → gk_M → Option (Unit × gk_M)) (q_Reader_readLevel : Int32 → Int32 → gk_M → Option (Unit × gk_M)) (hq_Reader_readOperand : ∀ b0 mem r mem2, q_Reader_readOperand b0 mem = some (r, mem2) → gk_C tx (gk_zl z) (gk_zu z) me_Reader_readOperand (3 + dd) [.ref 4, .int b0] mem none mem2) (hq_Reader_readLevel : ∀ b0 b1 mem r mem2, q_Reader_readLevel b0 b1 mem = some (r, mem2) → gk_C tx (gk_zl z) (gk_zu z) me_Reader_readLevel (3 + dd) [.ref 4, .int b0, .int b1] mem none mem2) : ∀ a1 a2 m0, f_Reader_readOperand_24 q_Reader_readOperand q_Reader_readLevel a1 a2 m0 = some (r, mem2) → gk_G tx z me_Reader_readOperand (gk_R tx z none mem2) m0 [(0, .ref 4), (1, .int a1), (2, .int a2)] [] 24 := by
  intro a1 a2 m0  h
  unfold f_Reader_readOperand_24 at h
  refine gk_iload_n (pc := 24) K d_Reader_readOperand_24 rfl ?_
  obtain ⟨v2, m1, em1, h⟩ := gk_bi_some h
  refine gk_cSi (As := [.int a2]) (pc := 25) K d_Reader_readOperand_25 ms_Reader_58 mc_Reader_nameOf rfl (s_Reader_nameOf (gk_FD K)  em1) (by omega) rfl (Nat.le_of_ble_eq_true rfl) ?_
  refine gk_if_eq (tgt := 52) (pc := 28) K d_Reader_readOperand_28 (by decide) h (fun h => ?_) (fun h => ?_)
  · refine gk_iload_n (pc := 52) K d_Reader_readOperand_52 rfl ?_
    refine gk_bipush (pc := 53) K d_Reader_readOperand_53 kb_6 ?_
    refine gk_ic_lt (tgt := 69) (pc := 55) K d_Reader_readOperand_55 (by decide) h (fun h => ?_) (fun h => ?_)
    · refine gk_iload_n (pc := 69) K d_Reader_readOperand_69 rfl ?_
      refine gk_bipush (pc := 70) K d_Reader_readOperand_70 kb_33 ?_
      refine gk_ic_eq (tgt := 81) (pc := 72) K d_Reader_readOperand_72 (by decide) h (fun h => ?_) (fun h => ?_)
      · exact gk_sub [0, 1, 2] rfl (s_Reader_readOperand_81 K q_Reader_readOperand q_Reader_readLevel hq_Reader_readOperand hq_Reader_readLevel _ _ _  h)
      · refine gk_iload_n (pc := 75) K d_Reader_readOperand_75 rfl ?_
        refine gk_bipush (pc := 76) K d_Reader_readOperand_76 kb_45 ?_
        refine gk_ic_ne (tgt := 121) (pc := 78) K d_Reader_readOperand_78 (by decide) h (fun h => ?_) (fun h => ?_)
        · refine gk_iload_n (pc := 121) K d_Reader_readOperand_121 rfl ?_
          refine gk_bipush (pc := 122) K d_Reader_readOperand_122 kb_40 ?_
          refine gk_ic_ne (tgt := 152) (pc := 124) K d_Reader_readOperand_124 (by decide) h (fun h => ?_) (fun h => ?_)
          · refine gk_aload_n (pc := 152) K d_Reader_readOperand_152 rfl ?_
            refine gk_aload_n (pc := 153) K d_Reader_readOperand_153 rfl ?_
            refine gk_get (pc := 154) K d_Reader_readOperand_154 fl_Reader_27 tx_4 rfl rfl ?_
            refine gk_puti (pc := 157) K d_Reader_readOperand_157 fp_Reader_30 tx_4 rfl h (fun m3 h => ?_)
            exact gk_vret (pc := 160) K d_Reader_readOperand_160 rfl h
          · refine gk_aload_n (pc := 127) K d_Reader_readOperand_127 rfl ?_
            refine gk_dup (pc := 128) K d_Reader_readOperand_128 rfl ?_
            refine gk_get (pc := 129) K d_Reader_readOperand_129 fl_Reader_27 tx_4 rfl rfl ?_
            refine gk_iconst (pc := 132) K d_Reader_readOperand_132 kc_1 ?_
            refine gk_iadd (pc := 133) K d_Reader_readOperand_133 ?_
            refine gk_puti (pc := 134) K d_Reader_readOperand_134 fp_Reader_27 tx_4 rfl h (fun m4 h => ?_)
            refine gk_aload_n (pc := 137) K d_Reader_readOperand_137 rfl ?_
            refine gk_iconst (pc := 138) K d_Reader_readOperand_138 kc_0 ?_
            refine gk_iload_n (pc := 139) K d_Reader_readOperand_139 rfl ?_
            refine gk_iconst (pc := 140) K d_Reader_readOperand_140 kc_1 ?_
            refine gk_iadd (pc := 141) K d_Reader_readOperand_141 ?_
            obtain ⟨m5, em5, h⟩ := gk_bv_some h
            refine gk_cVv (As := [.int 0, .int (a1 + 1)]) (pc := 142) K d_Reader_readOperand_142 mv_Reader_40 mc_Reader_readLevel rfl tx_4 cl_ok1.1 (hq_Reader_readLevel _ _ _ _ _ em5) (by omega) rfl (Nat.le_of_ble_eq_true rfl) ?_
            refine gk_aload_n (pc := 145) K d_Reader_readOperand_145 rfl ?_
            obtain ⟨m6, em6, h⟩ := gk_bv_some h
            refine gk_cVv (As := []) (pc := 146) K d_Reader_readOperand_146 mv_Reader_61 mc_Reader_close rfl tx_4 cl_ok1.1 (s_Reader_close (gk_FD K)  em6) (by omega) rfl (Nat.le_of_ble_eq_true rfl) ?_
            refine gk_goto (tgt := 160) (pc := 149) K d_Reader_readOperand_149 (by decide) ?_
            exact gk_vret (pc := 160) K d_Reader_readOperand_160 rfl h
        · exact gk_sub [0, 1, 2] rfl (s_Reader_readOperand_81 K q_Reader_readOperand q_Reader_readLevel hq_Reader_readOperand hq_Reader_readLevel _ _ _  h)
    · refine gk_aload_n (pc := 58) K d_Reader_readOperand_58 rfl ?_
      refine gk_aload_n (pc := 59) K d_Reader_readOperand_59 rfl ?_
      refine gk_get (pc := 60) K d_Reader_readOperand_60 fl_Reader_27 tx_4 rfl rfl ?_
      refine gk_puti (pc := 63) K d_Reader_readOperand_63 fp_Reader_30 tx_4 rfl h (fun m7 h => ?_)
      refine gk_goto (tgt := 160) (pc := 66) K d_Reader_readOperand_66 (by decide) ?_
      exact gk_vret (pc := 160) K d_Reader_readOperand_160 rfl h
  · refine gk_aload_n (pc := 31) K d_Reader_readOperand_31 rfl ?_
    refine gk_dup (pc := 32) K d_Reader_readOperand_32 rfl ?_
    refine gk_get (pc := 33) K d_Reader_readOperand_33 fl_Reader_27 tx_4 rfl rfl ?_
    refine gk_iconst (pc := 36) K d_Reader_readOperand_36 kc_1 ?_
    refine gk_iadd (pc := 37) K d_Reader_readOperand_37 ?_
    refine gk_puti (pc := 38) K d_Reader_readOperand_38 fp_Reader_27 tx_4 rfl h (fun m8 h => ?_)
    refine gk_aload_n (pc := 41) K d_Reader_readOperand_41 rfl ?_
    refine gk_iload_n (pc := 42) K d_Reader_readOperand_42 rfl ?_
    obtain ⟨v10, m9, em9, h⟩ := gk_bi_some h
    refine gk_cSi (As := [.int a2]) (pc := 43) K d_Reader_readOperand_43 ms_Reader_58 mc_Reader_nameOf rfl (s_Reader_nameOf (gk_FD K)  em9) (by omega) rfl (Nat.le_of_ble_eq_true rfl) ?_
    obtain ⟨m11, em11, h⟩ := gk_bv_some h
    refine gk_cVv (As := [.int v10]) (pc := 46) K d_Reader_readOperand_46 mv_Reader_44 mc_Reader_draw rfl tx_4 cl_ok1.1 (s_Reader_draw (gk_FD K)  em11) (by omega) rfl (Nat.le_of_ble_eq_true rfl) ?_
    refine gk_goto (tgt := 160) (pc := 49) K d_Reader_readOperand_49 (by decide) ?_
    exact gk_vret (pc := 160) K d_Reader_readOperand_160 rfl h
noncomputable def f_Reader_readOperand_0 (q_Reader_readOperand : Int32 → gk_M → Option (Unit × gk_M)) (q_Reader_readLevel : Int32 → Int32 → gk_M → Option (Unit × gk_M)) (a1 : Int32) (m0 : gk_M) : Option (Unit × gk_M) :=
  gk_bi (f_Reader_next  m0) fun v2 m1 =>
  if v2 < 48 then
    f_Reader_readOperand_24 q_Reader_readOperand q_Reader_readLevel a1 v2 m1
  else
    if 57 < v2 then
      f_Reader_readOperand_24 q_Reader_readOperand q_Reader_readLevel a1 v2 m1
    else
      gk_bv (f_Reader_readNumber  m1) fun m3 =>
      some ((), m3)

theorem s_Reader_readOperand_0 {z : gk_Z} {dd : Nat} (K : gk_F tx z me_Reader_readOperand (3 + (dd + 1))) {r : Unit} {mem2 : gk_M} (q_Reader_readOperand : Int32 → gk_M → Option (Unit × gk_M)) (q_Reader_readLevel : Int32 → Int32 → gk_M → Option (Unit × gk_M)) (hq_Reader_readOperand : ∀ b0 mem r mem2, q_Reader_readOperand b0 mem = some (r, mem2) → gk_C tx (gk_zl z) (gk_zu z) me_Reader_readOperand (3 + dd) [.ref 4, .int b0] mem none mem2) (hq_Reader_readLevel : ∀ b0 b1 mem r mem2, q_Reader_readLevel b0 b1 mem = some (r, mem2) → gk_C tx (gk_zl z) (gk_zu z) me_Reader_readLevel (3 + dd) [.ref 4, .int b0, .int b1] mem none mem2) : ∀ a1 m0, f_Reader_readOperand_0 q_Reader_readOperand q_Reader_readLevel a1 m0 = some (r, mem2) → gk_G tx z me_Reader_readOperand (gk_R tx z none mem2) m0 [(0, .ref 4), (1, .int a1)] [] 0 := by
  intro a1 m0  h
  unfold f_Reader_readOperand_0 at h
  refine gk_aload_n (pc := 0) K d_Reader_readOperand_0 rfl ?_
  obtain ⟨v2, m1, em1, h⟩ := gk_bi_some h
  refine gk_cVi (As := []) (pc := 1) K d_Reader_readOperand_1 mv_Reader_36 mc_Reader_next rfl tx_4 cl_ok1.1 (s_Reader_next (gk_FD K)  em1) (by omega) rfl (Nat.le_of_ble_eq_true rfl) ?_
  refine gk_istore_n (lv2 := [(2, .int v2), (0, .ref 4), (1, .int a1)]) (pc := 4) K d_Reader_readOperand_4 (by decide) rfl ?_
  refine gk_iload_n (pc := 5) K d_Reader_readOperand_5 rfl ?_
  refine gk_bipush (pc := 6) K d_Reader_readOperand_6 kb_48 ?_
  refine gk_ic_lt (tgt := 24) (pc := 8) K d_Reader_readOperand_8 (by decide) h (fun h => ?_) (fun h => ?_)
  · exact gk_sub [1, 2, 0] rfl (s_Reader_readOperand_24 K q_Reader_readOperand q_Reader_readLevel hq_Reader_readOperand hq_Reader_readLevel _ _ _  h)
  · refine gk_iload_n (pc := 11) K d_Reader_readOperand_11 rfl ?_
    refine gk_bipush (pc := 12) K d_Reader_readOperand_12 kb_57 ?_
    refine gk_ic_gt (tgt := 24) (pc := 14) K d_Reader_readOperand_14 (by decide) h (fun h => ?_) (fun h => ?_)
    · exact gk_sub [1, 2, 0] rfl (s_Reader_readOperand_24 K q_Reader_readOperand q_Reader_readLevel hq_Reader_readOperand hq_Reader_readLevel _ _ _  h)
    · refine gk_aload_n (pc := 17) K d_Reader_readOperand_17 rfl ?_
      obtain ⟨m3, em3, h⟩ := gk_bv_some h
      refine gk_cVv (As := []) (pc := 18) K d_Reader_readOperand_18 mv_Reader_55 mc_Reader_readNumber rfl tx_4 cl_ok1.1 (s_Reader_readNumber (gk_FD K)  em3) (by omega) rfl (Nat.le_of_ble_eq_true rfl) ?_
      refine gk_goto (tgt := 160) (pc := 21) K d_Reader_readOperand_21 (by decide) ?_
      exact gk_vret (pc := 160) K d_Reader_readOperand_160 rfl h
theorem d_Reader_readLevel_0 : decode me_Reader_readLevel.2.1 0 = .ok (.iload_n 1, 1) := by decide +kernel
theorem d_Reader_readLevel_1 : decode me_Reader_readLevel.2.1 1 = .ok (.iconst 5, 1) := by decide +kernel
theorem d_Reader_readLevel_2 : decode me_Reader_readLevel.2.1 2 = .ok (.if_icmp .lt 9, 3) := by decide +kernel
theorem d_Reader_readLevel_5 : decode me_Reader_readLevel.2.1 5 = .ok (.aload_n 0, 1) := by decide +kernel
theorem d_Reader_readLevel_6 : decode me_Reader_readLevel.2.1 6 = .ok (.iload_n 2, 1) := by decide +kernel
theorem d_Reader_readLevel_7 : decode me_Reader_readLevel.2.1 7 = .ok (.invokevirtual 48, 3) := by decide +kernel
theorem d_Reader_readLevel_10 : decode me_Reader_readLevel.2.1 10 = .ok (.return_, 1) := by decide +kernel
theorem d_Reader_readLevel_11 : decode me_Reader_readLevel.2.1 11 = .ok (.aload_n 0, 1) := by decide +kernel
theorem d_Reader_readLevel_12 : decode me_Reader_readLevel.2.1 12 = .ok (.iload_n 1, 1) := by decide +kernel
theorem d_Reader_readLevel_13 : decode me_Reader_readLevel.2.1 13 = .ok (.iconst 1, 1) := by decide +kernel
theorem d_Reader_readLevel_14 : decode me_Reader_readLevel.2.1 14 = .ok (.iadd, 1) := by decide +kernel
theorem d_Reader_readLevel_15 : decode me_Reader_readLevel.2.1 15 = .ok (.iload_n 2, 1) := by decide +kernel
theorem d_Reader_readLevel_16 : decode me_Reader_readLevel.2.1 16 = .ok (.invokevirtual 40, 3) := by decide +kernel
theorem d_Reader_readLevel_19 : decode me_Reader_readLevel.2.1 19 = .ok (.iconst 0, 1) := by decide +kernel
theorem d_Reader_readLevel_20 : decode me_Reader_readLevel.2.1 20 = .ok (.istore_n 3, 1) := by decide +kernel
theorem d_Reader_readLevel_21 : decode me_Reader_readLevel.2.1 21 = .ok (.iload_n 3, 1) := by decide +kernel
theorem d_Reader_readLevel_22 : decode me_Reader_readLevel.2.1 22 = .ok (.bipush 120, 2) := by decide +kernel
theorem d_Reader_readLevel_24 : decode me_Reader_readLevel.2.1 24 = .ok (.if_icmp .ge 66, 3) := by decide +kernel
theorem d_Reader_readLevel_27 : decode me_Reader_readLevel.2.1 27 = .ok (.aload_n 0, 1) := by decide +kernel
theorem d_Reader_readLevel_28 : decode me_Reader_readLevel.2.1 28 = .ok (.getfield 30, 3) := by decide +kernel
theorem d_Reader_readLevel_31 : decode me_Reader_readLevel.2.1 31 = .ok (.ifCond .ge 59, 3) := by decide +kernel
theorem d_Reader_readLevel_34 : decode me_Reader_readLevel.2.1 34 = .ok (.aload_n 0, 1) := by decide +kernel
theorem d_Reader_readLevel_35 : decode me_Reader_readLevel.2.1 35 = .ok (.invokevirtual 36, 3) := by decide +kernel
theorem d_Reader_readLevel_38 : decode me_Reader_readLevel.2.1 38 = .ok (.invokestatic 51, 3) := by decide +kernel
theorem d_Reader_readLevel_41 : decode me_Reader_readLevel.2.1 41 = .ok (.iload_n 1, 1) := by decide +kernel
theorem d_Reader_readLevel_42 : decode me_Reader_readLevel.2.1 42 = .ok (.if_icmp .ne 48, 3) := by decide +kernel
theorem d_Reader_readLevel_45 : decode me_Reader_readLevel.2.1 45 = .ok (.aload_n 0, 1) := by decide +kernel
theorem d_Reader_readLevel_46 : decode me_Reader_readLevel.2.1 46 = .ok (.invokevirtual 36, 3) := by decide +kernel
theorem d_Reader_readLevel_49 : decode me_Reader_readLevel.2.1 49 = .ok (.istore 4, 2) := by decide +kernel
theorem d_Reader_readLevel_51 : decode me_Reader_readLevel.2.1 51 = .ok (.aload_n 0, 1) := by decide +kernel
theorem d_Reader_readLevel_52 : decode me_Reader_readLevel.2.1 52 = .ok (.dup, 1) := by decide +kernel
theorem d_Reader_readLevel_53 : decode me_Reader_readLevel.2.1 53 = .ok (.getfield 27, 3) := by decide +kernel
theorem d_Reader_readLevel_56 : decode me_Reader_readLevel.2.1 56 = .ok (.iconst 1, 1) := by decide +kernel
theorem d_Reader_readLevel_57 : decode me_Reader_readLevel.2.1 57 = .ok (.iadd, 1) := by decide +kernel
theorem d_Reader_readLevel_58 : decode me_Reader_readLevel.2.1 58 = .ok (.putfield 27, 3) := by decide +kernel
theorem d_Reader_readLevel_61 : decode me_Reader_readLevel.2.1 61 = .ok (.aload_n 0, 1) := by decide +kernel
theorem d_Reader_readLevel_62 : decode me_Reader_readLevel.2.1 62 = .ok (.iload_n 1, 1) := by decide +kernel
theorem d_Reader_readLevel_63 : decode me_Reader_readLevel.2.1 63 = .ok (.iconst 1, 1) := by decide +kernel
theorem d_Reader_readLevel_64 : decode me_Reader_readLevel.2.1 64 = .ok (.iadd, 1) := by decide +kernel
theorem d_Reader_readLevel_65 : decode me_Reader_readLevel.2.1 65 = .ok (.iload_n 2, 1) := by decide +kernel
theorem d_Reader_readLevel_66 : decode me_Reader_readLevel.2.1 66 = .ok (.invokevirtual 40, 3) := by decide +kernel
theorem d_Reader_readLevel_69 : decode me_Reader_readLevel.2.1 69 = .ok (.aload_n 0, 1) := by decide +kernel
theorem d_Reader_readLevel_70 : decode me_Reader_readLevel.2.1 70 = .ok (.bipush (-100), 2) := by decide +kernel
theorem d_Reader_readLevel_72 : decode me_Reader_readLevel.2.1 72 = .ok (.iload 4, 2) := by decide +kernel
theorem d_Reader_readLevel_74 : decode me_Reader_readLevel.2.1 74 = .ok (.isub, 1) := by decide +kernel
theorem d_Reader_readLevel_75 : decode me_Reader_readLevel.2.1 75 = .ok (.invokevirtual 44, 3) := by decide +kernel
theorem d_Reader_readLevel_78 : decode me_Reader_readLevel.2.1 78 = .ok (.iload_n 1, 1) := by decide +kernel
theorem d_Reader_readLevel_79 : decode me_Reader_readLevel.2.1 79 = .ok (.iconst 2, 1) := by decide +kernel
theorem d_Reader_readLevel_80 : decode me_Reader_readLevel.2.1 80 = .ok (.if_icmp .ne 4, 3) := by decide +kernel
theorem d_Reader_readLevel_83 : decode me_Reader_readLevel.2.1 83 = .ok (.return_, 1) := by decide +kernel
theorem d_Reader_readLevel_84 : decode me_Reader_readLevel.2.1 84 = .ok (.iinc 3 1, 3) := by decide +kernel
theorem d_Reader_readLevel_87 : decode me_Reader_readLevel.2.1 87 = .ok (.goto (-66), 3) := by decide +kernel
theorem d_Reader_readLevel_90 : decode me_Reader_readLevel.2.1 90 = .ok (.return_, 1) := by decide +kernel
noncomputable def f_Reader_readLevel_21 (q_Reader_readOperand : Int32 → gk_M → Option (Unit × gk_M)) (q_Reader_readLevel : Int32 → Int32 → gk_M → Option (Unit × gk_M)) : Nat → Int32 → Int32 → Int32 → gk_M → Option (Unit × gk_M)
  | 0, _, _, _, _ => none
  | n + 1, a1, a2, a3, m0 =>
    if 120 ≤ a3 then
      some ((), m0)
    else
      if 0 ≤ (m0.1 4 5) then
        some ((), m0)
      else
        gk_bi (f_Reader_next  m0) fun v2 m1 =>
        gk_bi (f_Reader_levelOf v2 m1) fun v4 m3 =>
        if ¬ v4 = a1 then
          some ((), m3)
        else
          gk_bi (f_Reader_next  m3) fun v6 m5 =>
          gk_let (gk_mi m5 4 4 ((m5.1 4 4) + 1)) fun m7 =>
          gk_bv (q_Reader_readLevel (a1 + 1) a2 m7) fun m8 =>
          gk_bv (f_Reader_draw ((-100) - v6) m8) fun m9 =>
          if ¬ a1 = 2 then
            f_Reader_readLevel_21 q_Reader_readOperand q_Reader_readLevel n a1 a2 (a3 + 1) m9
          else
            some ((), m9)

theorem s_Reader_readLevel_21 {z : gk_Z} {dd : Nat} (K : gk_F tx z me_Reader_readLevel (3 + (dd + 1))) {r : Unit} {mem2 : gk_M} (q_Reader_readOperand : Int32 → gk_M → Option (Unit × gk_M)) (q_Reader_readLevel : Int32 → Int32 → gk_M → Option (Unit × gk_M)) (hq_Reader_readOperand : ∀ b0 mem r mem2, q_Reader_readOperand b0 mem = some (r, mem2) → gk_C tx (gk_zl z) (gk_zu z) me_Reader_readOperand (3 + dd) [.ref 4, .int b0] mem none mem2) (hq_Reader_readLevel : ∀ b0 b1 mem r mem2, q_Reader_readLevel b0 b1 mem = some (r, mem2) → gk_C tx (gk_zl z) (gk_zu z) me_Reader_readLevel (3 + dd) [.ref 4, .int b0, .int b1] mem none mem2) : ∀ n a1 a2 a3 m0, f_Reader_readLevel_21 q_Reader_readOperand q_Reader_readLevel n a1 a2 a3 m0 = some (r, mem2) → gk_G tx z me_Reader_readLevel (gk_R tx z none mem2) m0 [(0, .ref 4), (1, .int a1), (2, .int a2), (3, .int a3)] [] 21 := by
  intro n
  induction n with
  | zero => intro a1 a2 a3 m0  h; exact nomatch (show (none : Option _) = some _ from h)
  | succ n ih =>
    intro a1 a2 a3 m0  h
    unfold f_Reader_readLevel_21 at h
    refine gk_iload_n (pc := 21) K d_Reader_readLevel_21 rfl ?_
    refine gk_bipush (pc := 22) K d_Reader_readLevel_22 kb_120 ?_
    refine gk_ic_ge (tgt := 90) (pc := 24) K d_Reader_readLevel_24 (by decide) h (fun h => ?_) (fun h => ?_)
    · exact gk_vret (pc := 90) K d_Reader_readLevel_90 rfl h
    · refine gk_aload_n (pc := 27) K d_Reader_readLevel_27 rfl ?_
      refine gk_get (pc := 28) K d_Reader_readLevel_28 fl_Reader_30 tx_4 rfl rfl ?_
      refine gk_if_ge (tgt := 90) (pc := 31) K d_Reader_readLevel_31 (by decide) h (fun h => ?_) (fun h => ?_)
      · exact gk_vret (pc := 90) K d_Reader_readLevel_90 rfl h
      · refine gk_aload_n (pc := 34) K d_Reader_readLevel_34 rfl ?_
        obtain ⟨v2, m1, em1, h⟩ := gk_bi_some h
        refine gk_cVi (As := []) (pc := 35) K d_Reader_readLevel_35 mv_Reader_36 mc_Reader_next rfl tx_4 cl_ok1.1 (s_Reader_next (gk_FD K)  em1) (by omega) rfl (Nat.le_of_ble_eq_true rfl) ?_
        obtain ⟨v4, m3, em3, h⟩ := gk_bi_some h
        refine gk_cSi (As := [.int v2]) (pc := 38) K d_Reader_readLevel_38 ms_Reader_51 mc_Reader_levelOf rfl (s_Reader_levelOf (gk_FD K)  em3) (by omega) rfl (Nat.le_of_ble_eq_true rfl) ?_
        refine gk_iload_n (pc := 41) K d_Reader_readLevel_41 rfl ?_
        refine gk_ic_ne (tgt := 90) (pc := 42) K d_Reader_readLevel_42 (by decide) h (fun h => ?_) (fun h => ?_)
        · exact gk_vret (pc := 90) K d_Reader_readLevel_90 rfl h
        · refine gk_aload_n (pc := 45) K d_Reader_readLevel_45 rfl ?_
          obtain ⟨v6, m5, em5, h⟩ := gk_bi_some h
          refine gk_cVi (As := []) (pc := 46) K d_Reader_readLevel_46 mv_Reader_36 mc_Reader_next rfl tx_4 cl_ok1.1 (s_Reader_next (gk_FD K)  em5) (by omega) rfl (Nat.le_of_ble_eq_true rfl) ?_
          refine gk_istore (lv2 := [(4, .int v6), (0, .ref 4), (1, .int a1), (2, .int a2), (3, .int a3)]) (pc := 49) K d_Reader_readLevel_49 (by decide) rfl ?_
          refine gk_aload_n (pc := 51) K d_Reader_readLevel_51 rfl ?_
          refine gk_dup (pc := 52) K d_Reader_readLevel_52 rfl ?_
          refine gk_get (pc := 53) K d_Reader_readLevel_53 fl_Reader_27 tx_4 rfl rfl ?_
          refine gk_iconst (pc := 56) K d_Reader_readLevel_56 kc_1 ?_
          refine gk_iadd (pc := 57) K d_Reader_readLevel_57 ?_
          refine gk_puti (pc := 58) K d_Reader_readLevel_58 fp_Reader_27 tx_4 rfl h (fun m7 h => ?_)
          refine gk_aload_n (pc := 61) K d_Reader_readLevel_61 rfl ?_
          refine gk_iload_n (pc := 62) K d_Reader_readLevel_62 rfl ?_
          refine gk_iconst (pc := 63) K d_Reader_readLevel_63 kc_1 ?_
          refine gk_iadd (pc := 64) K d_Reader_readLevel_64 ?_
          refine gk_iload_n (pc := 65) K d_Reader_readLevel_65 rfl ?_
          obtain ⟨m8, em8, h⟩ := gk_bv_some h
          refine gk_cVv (As := [.int (a1 + 1), .int a2]) (pc := 66) K d_Reader_readLevel_66 mv_Reader_40 mc_Reader_readLevel rfl tx_4 cl_ok1.1 (hq_Reader_readLevel _ _ _ _ _ em8) (by omega) rfl (Nat.le_of_ble_eq_true rfl) ?_
          refine gk_aload_n (pc := 69) K d_Reader_readLevel_69 rfl ?_
          refine gk_bipush (pc := 70) K d_Reader_readLevel_70 kb_m100 ?_
          refine gk_iload (pc := 72) K d_Reader_readLevel_72 rfl ?_
          refine gk_isub (pc := 74) K d_Reader_readLevel_74 ?_
          obtain ⟨m9, em9, h⟩ := gk_bv_some h
          refine gk_cVv (As := [.int ((-100) - v6)]) (pc := 75) K d_Reader_readLevel_75 mv_Reader_44 mc_Reader_draw rfl tx_4 cl_ok1.1 (s_Reader_draw (gk_FD K)  em9) (by omega) rfl (Nat.le_of_ble_eq_true rfl) ?_
          refine gk_iload_n (pc := 78) K d_Reader_readLevel_78 rfl ?_
          refine gk_iconst (pc := 79) K d_Reader_readLevel_79 kc_2 ?_
          refine gk_ic_ne (tgt := 84) (pc := 80) K d_Reader_readLevel_80 (by decide) h (fun h => ?_) (fun h => ?_)
          · refine gk_iinc2 (lv2 := [(3, .int (a3 + 1)), (4, .int v6), (0, .ref 4), (1, .int a1), (2, .int a2)]) (pc := 84) K d_Reader_readLevel_84 rfl kc_1 (by decide) rfl ?_
            refine gk_goto (tgt := 21) (pc := 87) K d_Reader_readLevel_87 (by decide) ?_
            exact gk_sub [2, 3, 4, 0] rfl (ih _ _ _ _  h)
          · exact gk_vret (pc := 83) K d_Reader_readLevel_83 rfl h
noncomputable def f_Reader_readLevel_0 (q_Reader_readOperand : Int32 → gk_M → Option (Unit × gk_M)) (q_Reader_readLevel : Int32 → Int32 → gk_M → Option (Unit × gk_M)) (a1 : Int32) (a2 : Int32) (m0 : gk_M) : Option (Unit × gk_M) :=
  if a1 < 5 then
    gk_bv (q_Reader_readLevel (a1 + 1) a2 m0) fun m1 =>
    f_Reader_readLevel_21 q_Reader_readOperand q_Reader_readLevel gk_fv a1 a2 0 m1
  else
    gk_bv (q_Reader_readOperand a2 m0) fun m2 =>
    some ((), m2)

theorem s_Reader_readLevel_0 {z : gk_Z} {dd : Nat} (K : gk_F tx z me_Reader_readLevel (3 + (dd + 1))) {r : Unit} {mem2 : gk_M} (q_Reader_readOperand : Int32 → gk_M → Option (Unit × gk_M)) (q_Reader_readLevel : Int32 → Int32 → gk_M → Option (Unit × gk_M)) (hq_Reader_readOperand : ∀ b0 mem r mem2, q_Reader_readOperand b0 mem = some (r, mem2) → gk_C tx (gk_zl z) (gk_zu z) me_Reader_readOperand (3 + dd) [.ref 4, .int b0] mem none mem2) (hq_Reader_readLevel : ∀ b0 b1 mem r mem2, q_Reader_readLevel b0 b1 mem = some (r, mem2) → gk_C tx (gk_zl z) (gk_zu z) me_Reader_readLevel (3 + dd) [.ref 4, .int b0, .int b1] mem none mem2) : ∀ a1 a2 m0, f_Reader_readLevel_0 q_Reader_readOperand q_Reader_readLevel a1 a2 m0 = some (r, mem2) → gk_G tx z me_Reader_readLevel (gk_R tx z none mem2) m0 [(0, .ref 4), (1, .int a1), (2, .int a2)] [] 0 := by
  intro a1 a2 m0  h
  unfold f_Reader_readLevel_0 at h
  refine gk_iload_n (pc := 0) K d_Reader_readLevel_0 rfl ?_
  refine gk_iconst (pc := 1) K d_Reader_readLevel_1 kc_5 ?_
  refine gk_ic_lt (tgt := 11) (pc := 2) K d_Reader_readLevel_2 (by decide) h (fun h => ?_) (fun h => ?_)
  · refine gk_aload_n (pc := 11) K d_Reader_readLevel_11 rfl ?_
    refine gk_iload_n (pc := 12) K d_Reader_readLevel_12 rfl ?_
    refine gk_iconst (pc := 13) K d_Reader_readLevel_13 kc_1 ?_
    refine gk_iadd (pc := 14) K d_Reader_readLevel_14 ?_
    refine gk_iload_n (pc := 15) K d_Reader_readLevel_15 rfl ?_
    obtain ⟨m1, em1, h⟩ := gk_bv_some h
    refine gk_cVv (As := [.int (a1 + 1), .int a2]) (pc := 16) K d_Reader_readLevel_16 mv_Reader_40 mc_Reader_readLevel rfl tx_4 cl_ok1.1 (hq_Reader_readLevel _ _ _ _ _ em1) (by omega) rfl (Nat.le_of_ble_eq_true rfl) ?_
    refine gk_iconst (pc := 19) K d_Reader_readLevel_19 kc_0 ?_
    refine gk_istore_n (lv2 := [(3, .int 0), (0, .ref 4), (1, .int a1), (2, .int a2)]) (pc := 20) K d_Reader_readLevel_20 (by decide) rfl ?_
    exact gk_sub [1, 2, 3, 0] rfl (s_Reader_readLevel_21 K q_Reader_readOperand q_Reader_readLevel hq_Reader_readOperand hq_Reader_readLevel _ _ _ _ _  h)
  · refine gk_aload_n (pc := 5) K d_Reader_readLevel_5 rfl ?_
    refine gk_iload_n (pc := 6) K d_Reader_readLevel_6 rfl ?_
    obtain ⟨m2, em2, h⟩ := gk_bv_some h
    refine gk_cVv (As := [.int a2]) (pc := 7) K d_Reader_readLevel_7 mv_Reader_48 mc_Reader_readOperand rfl tx_4 cl_ok1.1 (hq_Reader_readOperand _ _ _ _ em2) (by omega) rfl (Nat.le_of_ble_eq_true rfl) ?_
    exact gk_vret (pc := 10) K d_Reader_readLevel_10 rfl h
noncomputable def r_Reader_readOperand_s (p : Nat → Int32 → Int32 → gk_M → Option (Unit × gk_M)) : Nat → Int32 → Int32 → gk_M → Option (Unit × gk_M)
  | 0, x0, x1, m0 => f_Reader_readOperand_0 (fun b0 m => p 0 b0 0 m) (fun b0 b1 m => p 1 b0 b1 m) x0 m0
  | 1, x0, x1, m0 => f_Reader_readLevel_0 (fun b0 m => p 0 b0 0 m) (fun b0 b1 m => p 1 b0 b1 m) x0 x1 m0
  | _, _, _, _ => none
noncomputable def r_Reader_readOperand : Nat → Nat → Int32 → Int32 → gk_M → Option (Unit × gk_M)
  | 0 => fun _ _ _ _ => none
  | d + 1 => r_Reader_readOperand_s (r_Reader_readOperand d)
theorem r_Reader_readOperand_e0 (d : Nat) (x0 : Int32) (m0 : gk_M) : r_Reader_readOperand (d + 1) 0 x0 0 m0 = f_Reader_readOperand_0 (fun b0 m => r_Reader_readOperand d 0 b0 0 m) (fun b0 b1 m => r_Reader_readOperand d 1 b0 b1 m) x0 m0 := rfl
theorem r_Reader_readOperand_e1 (d : Nat) (x0 : Int32) (x1 : Int32) (m0 : gk_M) : r_Reader_readOperand (d + 1) 1 x0 x1 m0 = f_Reader_readLevel_0 (fun b0 m => r_Reader_readOperand d 0 b0 0 m) (fun b0 b1 m => r_Reader_readOperand d 1 b0 b1 m) x0 x1 m0 := rfl
theorem sr_Reader_readOperand {l : Launch} {u : gk_U} (hD : gk_D tx u) : ∀ d, (∀ b0 mem r mem2, r_Reader_readOperand d 0 b0 0 mem = some (r, mem2) → gk_C tx l u me_Reader_readOperand (3 + d) [.ref 4, .int b0] mem none mem2) ∧ (∀ b0 b1 mem r mem2, r_Reader_readOperand d 1 b0 b1 mem = some (r, mem2) → gk_C tx l u me_Reader_readLevel (3 + d) [.ref 4, .int b0, .int b1] mem none mem2) := by
  intro d
  induction d with
  | zero => exact ⟨(fun _ _ _ _ h => nomatch (show (none : Option _) = some _ from h)), (fun _ _ _ _ _ h => nomatch (show (none : Option _) = some _ from h))⟩
  | succ d ih =>
    refine ⟨?_, ?_⟩
    · intro b0 mem r mem2 h
      refine gk_enter hD mc_Reader_readOperand (Nat.le_of_ble_eq_true rfl) rfl (fun z hl hu K => ?_)
      subst hl
      subst hu
      rw [r_Reader_readOperand_e0] at h
      exact s_Reader_readOperand_0 K (fun b0 m => r_Reader_readOperand d 0 b0 0 m) (fun b0 b1 m => r_Reader_readOperand d 1 b0 b1 m) (fun y0 a b c h => ih.1 y0 a b c h) (fun y0 y1 a b c h => ih.2 y0 y1 a b c h) _ _ h
    · intro b0 b1 mem r mem2 h
      refine gk_enter hD mc_Reader_readLevel (Nat.le_of_ble_eq_true rfl) rfl (fun z hl hu K => ?_)
      subst hl
      subst hu
      rw [r_Reader_readOperand_e1] at h
      exact s_Reader_readLevel_0 K (fun b0 m => r_Reader_readOperand d 0 b0 0 m) (fun b0 b1 m => r_Reader_readOperand d 1 b0 b1 m) (fun y0 a b c h => ih.1 y0 a b c h) (fun y0 y1 a b c h => ih.2 y0 y1 a b c h) _ _ _ h
noncomputable def f_Reader_readOperand (a1 : Int32) (m0 : gk_M) : Option (Unit × gk_M) := r_Reader_readOperand 60 0 a1 0 m0
theorem s_Reader_readOperand {l : Launch} {u : gk_U} (hD : gk_D tx u) {a1 : Int32} {m0 mem2 : gk_M} {r : Unit} (h : f_Reader_readOperand a1 m0 = some (r, mem2)) : gk_C tx l u me_Reader_readOperand 63 [.ref 4, .int a1] m0 none mem2 := (sr_Reader_readOperand hD 60).1 _ _ _ _ h
noncomputable def f_Reader_readLevel (a1 : Int32) (a2 : Int32) (m0 : gk_M) : Option (Unit × gk_M) := r_Reader_readOperand 60 1 a1 a2 m0
theorem s_Reader_readLevel {l : Launch} {u : gk_U} (hD : gk_D tx u) {a1 : Int32} {a2 : Int32} {m0 mem2 : gk_M} {r : Unit} (h : f_Reader_readLevel a1 a2 m0 = some (r, mem2)) : gk_C tx l u me_Reader_readLevel 63 [.ref 4, .int a1, .int a2] m0 none mem2 := (sr_Reader_readOperand hD 60).2 _ _ _ _ _ h
theorem d_Reader_readLine_0 : decode me_Reader_readLine.2.1 0 = .ok (.aload_n 0, 1) := by decide +kernel
theorem d_Reader_readLine_1 : decode me_Reader_readLine.2.1 1 = .ok (.iconst 0, 1) := by decide +kernel
theorem d_Reader_readLine_2 : decode me_Reader_readLine.2.1 2 = .ok (.iconst 0, 1) := by decide +kernel
theorem d_Reader_readLine_3 : decode me_Reader_readLine.2.1 3 = .ok (.invokevirtual 40, 3) := by decide +kernel
theorem d_Reader_readLine_6 : decode me_Reader_readLine.2.1 6 = .ok (.aload_n 0, 1) := by decide +kernel
theorem d_Reader_readLine_7 : decode me_Reader_readLine.2.1 7 = .ok (.getfield 30, 3) := by decide +kernel
theorem d_Reader_readLine_10 : decode me_Reader_readLine.2.1 10 = .ok (.ifCond .ge 35, 3) := by decide +kernel
theorem d_Reader_readLine_13 : decode me_Reader_readLine.2.1 13 = .ok (.aload_n 0, 1) := by decide +kernel
theorem d_Reader_readLine_14 : decode me_Reader_readLine.2.1 14 = .ok (.invokevirtual 36, 3) := by decide +kernel
theorem d_Reader_readLine_17 : decode me_Reader_readLine.2.1 17 = .ok (.bipush 63, 2) := by decide +kernel
theorem d_Reader_readLine_19 : decode me_Reader_readLine.2.1 19 = .ok (.if_icmp .ne 26, 3) := by decide +kernel
theorem d_Reader_readLine_22 : decode me_Reader_readLine.2.1 22 = .ok (.aload_n 0, 1) := by decide +kernel
theorem d_Reader_readLine_23 : decode me_Reader_readLine.2.1 23 = .ok (.dup, 1) := by decide +kernel
theorem d_Reader_readLine_24 : decode me_Reader_readLine.2.1 24 = .ok (.getfield 27, 3) := by decide +kernel
theorem d_Reader_readLine_27 : decode me_Reader_readLine.2.1 27 = .ok (.iconst 1, 1) := by decide +kernel
theorem d_Reader_readLine_28 : decode me_Reader_readLine.2.1 28 = .ok (.iadd, 1) := by decide +kernel
theorem d_Reader_readLine_29 : decode me_Reader_readLine.2.1 29 = .ok (.putfield 27, 3) := by decide +kernel
theorem d_Reader_readLine_32 : decode me_Reader_readLine.2.1 32 = .ok (.aload_n 0, 1) := by decide +kernel
theorem d_Reader_readLine_33 : decode me_Reader_readLine.2.1 33 = .ok (.sipush (-163), 3) := by decide +kernel
theorem d_Reader_readLine_36 : decode me_Reader_readLine.2.1 36 = .ok (.invokevirtual 44, 3) := by decide +kernel
theorem d_Reader_readLine_39 : decode me_Reader_readLine.2.1 39 = .ok (.aload_n 0, 1) := by decide +kernel
theorem d_Reader_readLine_40 : decode me_Reader_readLine.2.1 40 = .ok (.iconst 0, 1) := by decide +kernel
theorem d_Reader_readLine_41 : decode me_Reader_readLine.2.1 41 = .ok (.iconst 0, 1) := by decide +kernel
theorem d_Reader_readLine_42 : decode me_Reader_readLine.2.1 42 = .ok (.invokevirtual 40, 3) := by decide +kernel
theorem d_Reader_readLine_45 : decode me_Reader_readLine.2.1 45 = .ok (.aload_n 0, 1) := by decide +kernel
theorem d_Reader_readLine_46 : decode me_Reader_readLine.2.1 46 = .ok (.sipush (-159), 3) := by decide +kernel
theorem d_Reader_readLine_49 : decode me_Reader_readLine.2.1 49 = .ok (.invokevirtual 44, 3) := by decide +kernel
theorem d_Reader_readLine_52 : decode me_Reader_readLine.2.1 52 = .ok (.return_, 1) := by decide +kernel
noncomputable def f_Reader_readLine_45   (m0 : gk_M) : Option (Unit × gk_M) :=
  gk_bv (f_Reader_draw (-159) m0) fun m1 =>
  some ((), m1)

theorem s_Reader_readLine_45 {z : gk_Z} (K : gk_F tx z me_Reader_readLine 64) {r : Unit} {mem2 : gk_M} : ∀  m0, f_Reader_readLine_45  m0 = some (r, mem2) → gk_G tx z me_Reader_readLine (gk_R tx z none mem2) m0 [(0, .ref 4)] [] 45 := by
  intro  m0  h
  unfold f_Reader_readLine_45 at h
  refine gk_aload_n (pc := 45) K d_Reader_readLine_45 rfl ?_
  refine gk_sipush (pc := 46) K d_Reader_readLine_46 ks_m159 ?_
  obtain ⟨m1, em1, h⟩ := gk_bv_some h
  refine gk_cVv (As := [.int (-159)]) (pc := 49) K d_Reader_readLine_49 mv_Reader_44 mc_Reader_draw rfl tx_4 cl_ok1.1 (s_Reader_draw (gk_FD K)  em1) (by decide) rfl (Nat.le_of_ble_eq_true rfl) ?_
  exact gk_vret (pc := 52) K d_Reader_readLine_52 rfl h
noncomputable def f_Reader_readLine   (m0 : gk_M) : Option (Unit × gk_M) :=
  gk_bv (f_Reader_readLevel 0 0 m0) fun m1 =>
  if 0 ≤ (m1.1 4 5) then
    f_Reader_readLine_45  m1
  else
    gk_bi (f_Reader_next  m1) fun v3 m2 =>
    if ¬ v3 = 63 then
      f_Reader_readLine_45  m2
    else
      gk_let (gk_mi m2 4 4 ((m2.1 4 4) + 1)) fun m4 =>
      gk_bv (f_Reader_draw (-163) m4) fun m5 =>
      gk_bv (f_Reader_readLevel 0 0 m5) fun m6 =>
      f_Reader_readLine_45  m6

theorem s_Reader_readLine_0 {z : gk_Z} (K : gk_F tx z me_Reader_readLine 64) {r : Unit} {mem2 : gk_M} : ∀  m0, f_Reader_readLine  m0 = some (r, mem2) → gk_G tx z me_Reader_readLine (gk_R tx z none mem2) m0 [(0, .ref 4)] [] 0 := by
  intro  m0  h
  unfold f_Reader_readLine at h
  refine gk_aload_n (pc := 0) K d_Reader_readLine_0 rfl ?_
  refine gk_iconst (pc := 1) K d_Reader_readLine_1 kc_0 ?_
  refine gk_iconst (pc := 2) K d_Reader_readLine_2 kc_0 ?_
  obtain ⟨m1, em1, h⟩ := gk_bv_some h
  refine gk_cVv (As := [.int 0, .int 0]) (pc := 3) K d_Reader_readLine_3 mv_Reader_40 mc_Reader_readLevel rfl tx_4 cl_ok1.1 (s_Reader_readLevel (gk_FD K)  em1) (by decide) rfl (Nat.le_of_ble_eq_true rfl) ?_
  refine gk_aload_n (pc := 6) K d_Reader_readLine_6 rfl ?_
  refine gk_get (pc := 7) K d_Reader_readLine_7 fl_Reader_30 tx_4 rfl rfl ?_
  refine gk_if_ge (tgt := 45) (pc := 10) K d_Reader_readLine_10 (by decide) h (fun h => ?_) (fun h => ?_)
  · exact gk_sub [0] rfl (s_Reader_readLine_45 K  _  h)
  · refine gk_aload_n (pc := 13) K d_Reader_readLine_13 rfl ?_
    obtain ⟨v3, m2, em2, h⟩ := gk_bi_some h
    refine gk_cVi (As := []) (pc := 14) K d_Reader_readLine_14 mv_Reader_36 mc_Reader_next rfl tx_4 cl_ok1.1 (s_Reader_next (gk_FD K)  em2) (by decide) rfl (Nat.le_of_ble_eq_true rfl) ?_
    refine gk_bipush (pc := 17) K d_Reader_readLine_17 kb_63 ?_
    refine gk_ic_ne (tgt := 45) (pc := 19) K d_Reader_readLine_19 (by decide) h (fun h => ?_) (fun h => ?_)
    · exact gk_sub [0] rfl (s_Reader_readLine_45 K  _  h)
    · refine gk_aload_n (pc := 22) K d_Reader_readLine_22 rfl ?_
      refine gk_dup (pc := 23) K d_Reader_readLine_23 rfl ?_
      refine gk_get (pc := 24) K d_Reader_readLine_24 fl_Reader_27 tx_4 rfl rfl ?_
      refine gk_iconst (pc := 27) K d_Reader_readLine_27 kc_1 ?_
      refine gk_iadd (pc := 28) K d_Reader_readLine_28 ?_
      refine gk_puti (pc := 29) K d_Reader_readLine_29 fp_Reader_27 tx_4 rfl h (fun m4 h => ?_)
      refine gk_aload_n (pc := 32) K d_Reader_readLine_32 rfl ?_
      refine gk_sipush (pc := 33) K d_Reader_readLine_33 ks_m163 ?_
      obtain ⟨m5, em5, h⟩ := gk_bv_some h
      refine gk_cVv (As := [.int (-163)]) (pc := 36) K d_Reader_readLine_36 mv_Reader_44 mc_Reader_draw rfl tx_4 cl_ok1.1 (s_Reader_draw (gk_FD K)  em5) (by decide) rfl (Nat.le_of_ble_eq_true rfl) ?_
      refine gk_aload_n (pc := 39) K d_Reader_readLine_39 rfl ?_
      refine gk_iconst (pc := 40) K d_Reader_readLine_40 kc_0 ?_
      refine gk_iconst (pc := 41) K d_Reader_readLine_41 kc_0 ?_
      obtain ⟨m6, em6, h⟩ := gk_bv_some h
      refine gk_cVv (As := [.int 0, .int 0]) (pc := 42) K d_Reader_readLine_42 mv_Reader_40 mc_Reader_readLevel rfl tx_4 cl_ok1.1 (s_Reader_readLevel (gk_FD K)  em6) (by decide) rfl (Nat.le_of_ble_eq_true rfl) ?_
      exact gk_sub [0] rfl (s_Reader_readLine_45 K  _  h)
theorem s_Reader_readLine {l : Launch} {u : gk_U} (hD : gk_D tx u) {m0 mem2 : gk_M} {r : Unit} (h : f_Reader_readLine  m0 = some (r, mem2)) : gk_C tx l u me_Reader_readLine 64 [.ref 4] m0 none mem2 :=
  gk_enter hD mc_Reader_readLine (Nat.le_of_ble_eq_true rfl) rfl (fun z _ _ K => s_Reader_readLine_0 K  _  h)
theorem d_Reader_read_0 : decode me_Reader_read.2.1 0 = .ok (.aload_n 0, 1) := by decide +kernel
theorem d_Reader_read_1 : decode me_Reader_read.2.1 1 = .ok (.iconst 0, 1) := by decide +kernel
theorem d_Reader_read_2 : decode me_Reader_read.2.1 2 = .ok (.putfield 27, 3) := by decide +kernel
theorem d_Reader_read_5 : decode me_Reader_read.2.1 5 = .ok (.aload_n 0, 1) := by decide +kernel
theorem d_Reader_read_6 : decode me_Reader_read.2.1 6 = .ok (.iconst (-1), 1) := by decide +kernel
theorem d_Reader_read_7 : decode me_Reader_read.2.1 7 = .ok (.putfield 30, 3) := by decide +kernel
theorem d_Reader_read_10 : decode me_Reader_read.2.1 10 = .ok (.aload_n 0, 1) := by decide +kernel
theorem d_Reader_read_11 : decode me_Reader_read.2.1 11 = .ok (.iconst 0, 1) := by decide +kernel
theorem d_Reader_read_12 : decode me_Reader_read.2.1 12 = .ok (.putfield 17, 3) := by decide +kernel
theorem d_Reader_read_15 : decode me_Reader_read.2.1 15 = .ok (.iconst 0, 1) := by decide +kernel
theorem d_Reader_read_16 : decode me_Reader_read.2.1 16 = .ok (.istore_n 1, 1) := by decide +kernel
theorem d_Reader_read_17 : decode me_Reader_read.2.1 17 = .ok (.iload_n 1, 1) := by decide +kernel
theorem d_Reader_read_18 : decode me_Reader_read.2.1 18 = .ok (.bipush 120, 2) := by decide +kernel
theorem d_Reader_read_20 : decode me_Reader_read.2.1 20 = .ok (.if_icmp .gt 60, 3) := by decide +kernel
theorem d_Reader_read_23 : decode me_Reader_read.2.1 23 = .ok (.aload_n 0, 1) := by decide +kernel
theorem d_Reader_read_24 : decode me_Reader_read.2.1 24 = .ok (.invokevirtual 33, 3) := by decide +kernel
theorem d_Reader_read_27 : decode me_Reader_read.2.1 27 = .ok (.aload_n 0, 1) := by decide +kernel
theorem d_Reader_read_28 : decode me_Reader_read.2.1 28 = .ok (.getfield 30, 3) := by decide +kernel
theorem d_Reader_read_31 : decode me_Reader_read.2.1 31 = .ok (.ifCond .ge 14, 3) := by decide +kernel
theorem d_Reader_read_34 : decode me_Reader_read.2.1 34 = .ok (.aload_n 0, 1) := by decide +kernel
theorem d_Reader_read_35 : decode me_Reader_read.2.1 35 = .ok (.getfield 27, 3) := by decide +kernel
theorem d_Reader_read_38 : decode me_Reader_read.2.1 38 = .ok (.aload_n 0, 1) := by decide +kernel
theorem d_Reader_read_39 : decode me_Reader_read.2.1 39 = .ok (.getfield 21, 3) := by decide +kernel
theorem d_Reader_read_42 : decode me_Reader_read.2.1 42 = .ok (.if_icmp .lt 8, 3) := by decide +kernel
theorem d_Reader_read_45 : decode me_Reader_read.2.1 45 = .ok (.aload_n 0, 1) := by decide +kernel
theorem d_Reader_read_46 : decode me_Reader_read.2.1 46 = .ok (.getfield 30, 3) := by decide +kernel
theorem d_Reader_read_49 : decode me_Reader_read.2.1 49 = .ok (.ireturn, 1) := by decide +kernel
theorem d_Reader_read_50 : decode me_Reader_read.2.1 50 = .ok (.aload_n 0, 1) := by decide +kernel
theorem d_Reader_read_51 : decode me_Reader_read.2.1 51 = .ok (.invokevirtual 36, 3) := by decide +kernel
theorem d_Reader_read_54 : decode me_Reader_read.2.1 54 = .ok (.bipush 59, 2) := by decide +kernel
theorem d_Reader_read_56 : decode me_Reader_read.2.1 56 = .ok (.if_icmp .eq 8, 3) := by decide +kernel
theorem d_Reader_read_59 : decode me_Reader_read.2.1 59 = .ok (.aload_n 0, 1) := by decide +kernel
theorem d_Reader_read_60 : decode me_Reader_read.2.1 60 = .ok (.getfield 27, 3) := by decide +kernel
theorem d_Reader_read_63 : decode me_Reader_read.2.1 63 = .ok (.ireturn, 1) := by decide +kernel
theorem d_Reader_read_64 : decode me_Reader_read.2.1 64 = .ok (.aload_n 0, 1) := by decide +kernel
theorem d_Reader_read_65 : decode me_Reader_read.2.1 65 = .ok (.dup, 1) := by decide +kernel
theorem d_Reader_read_66 : decode me_Reader_read.2.1 66 = .ok (.getfield 27, 3) := by decide +kernel
theorem d_Reader_read_69 : decode me_Reader_read.2.1 69 = .ok (.iconst 1, 1) := by decide +kernel
theorem d_Reader_read_70 : decode me_Reader_read.2.1 70 = .ok (.iadd, 1) := by decide +kernel
theorem d_Reader_read_71 : decode me_Reader_read.2.1 71 = .ok (.putfield 27, 3) := by decide +kernel
theorem d_Reader_read_74 : decode me_Reader_read.2.1 74 = .ok (.iinc 1 1, 3) := by decide +kernel
theorem d_Reader_read_77 : decode me_Reader_read.2.1 77 = .ok (.goto (-60), 3) := by decide +kernel
theorem d_Reader_read_80 : decode me_Reader_read.2.1 80 = .ok (.aload_n 0, 1) := by decide +kernel
theorem d_Reader_read_81 : decode me_Reader_read.2.1 81 = .ok (.getfield 27, 3) := by decide +kernel
theorem d_Reader_read_84 : decode me_Reader_read.2.1 84 = .ok (.ireturn, 1) := by decide +kernel
noncomputable def f_Reader_read_45   (m0 : gk_M) : Option (Int32 × gk_M) :=
  some ((m0.1 4 5), m0)

theorem s_Reader_read_45 {z : gk_Z} (K : gk_F tx z me_Reader_read 65) {r : Int32} {mem2 : gk_M} : ∀  m0, f_Reader_read_45  m0 = some (r, mem2) → gk_G tx z me_Reader_read (gk_R tx z (some (.int r)) mem2) m0 [(0, .ref 4)] [] 45 := by
  intro  m0  h
  unfold f_Reader_read_45 at h
  refine gk_aload_n (pc := 45) K d_Reader_read_45 rfl ?_
  refine gk_get (pc := 46) K d_Reader_read_46 fl_Reader_30 tx_4 rfl rfl ?_
  exact gk_iret (pc := 49) K d_Reader_read_49 rfl h
noncomputable def f_Reader_read_17  : Nat → Int32 → gk_M → Option (Int32 × gk_M)
  | 0, _, _ => none
  | n + 1, a1, m0 =>
    if 120 < a1 then
      some ((m0.1 4 4), m0)
    else
      gk_bv (f_Reader_readLine  m0) fun m1 =>
      if 0 ≤ (m1.1 4 5) then
        f_Reader_read_45  m1
      else
        if (m1.1 4 4) < (m1.1 4 2) then
          gk_bi (f_Reader_next  m1) fun v3 m2 =>
          if v3 = 59 then
            gk_let (gk_mi m2 4 4 ((m2.1 4 4) + 1)) fun m4 =>
            f_Reader_read_17 n (a1 + 1) m4
          else
            some ((m2.1 4 4), m2)
        else
          f_Reader_read_45  m1

theorem s_Reader_read_17 {z : gk_Z} (K : gk_F tx z me_Reader_read 65) {r : Int32} {mem2 : gk_M} : ∀ n a1 m0, f_Reader_read_17 n a1 m0 = some (r, mem2) → gk_G tx z me_Reader_read (gk_R tx z (some (.int r)) mem2) m0 [(0, .ref 4), (1, .int a1)] [] 17 := by
  intro n
  induction n with
  | zero => intro a1 m0  h; exact nomatch (show (none : Option _) = some _ from h)
  | succ n ih =>
    intro a1 m0  h
    unfold f_Reader_read_17 at h
    refine gk_iload_n (pc := 17) K d_Reader_read_17 rfl ?_
    refine gk_bipush (pc := 18) K d_Reader_read_18 kb_120 ?_
    refine gk_ic_gt (tgt := 80) (pc := 20) K d_Reader_read_20 (by decide) h (fun h => ?_) (fun h => ?_)
    · refine gk_aload_n (pc := 80) K d_Reader_read_80 rfl ?_
      refine gk_get (pc := 81) K d_Reader_read_81 fl_Reader_27 tx_4 rfl rfl ?_
      exact gk_iret (pc := 84) K d_Reader_read_84 rfl h
    · refine gk_aload_n (pc := 23) K d_Reader_read_23 rfl ?_
      obtain ⟨m1, em1, h⟩ := gk_bv_some h
      refine gk_cVv (As := []) (pc := 24) K d_Reader_read_24 mv_Reader_33 mc_Reader_readLine rfl tx_4 cl_ok1.1 (s_Reader_readLine (gk_FD K)  em1) (by decide) rfl (Nat.le_of_ble_eq_true rfl) ?_
      refine gk_aload_n (pc := 27) K d_Reader_read_27 rfl ?_
      refine gk_get (pc := 28) K d_Reader_read_28 fl_Reader_30 tx_4 rfl rfl ?_
      refine gk_if_ge (tgt := 45) (pc := 31) K d_Reader_read_31 (by decide) h (fun h => ?_) (fun h => ?_)
      · exact gk_sub [0] rfl (s_Reader_read_45 K  _  h)
      · refine gk_aload_n (pc := 34) K d_Reader_read_34 rfl ?_
        refine gk_get (pc := 35) K d_Reader_read_35 fl_Reader_27 tx_4 rfl rfl ?_
        refine gk_aload_n (pc := 38) K d_Reader_read_38 rfl ?_
        refine gk_get (pc := 39) K d_Reader_read_39 fl_Reader_21 tx_4 rfl rfl ?_
        refine gk_ic_lt (tgt := 50) (pc := 42) K d_Reader_read_42 (by decide) h (fun h => ?_) (fun h => ?_)
        · refine gk_aload_n (pc := 50) K d_Reader_read_50 rfl ?_
          obtain ⟨v3, m2, em2, h⟩ := gk_bi_some h
          refine gk_cVi (As := []) (pc := 51) K d_Reader_read_51 mv_Reader_36 mc_Reader_next rfl tx_4 cl_ok1.1 (s_Reader_next (gk_FD K)  em2) (by decide) rfl (Nat.le_of_ble_eq_true rfl) ?_
          refine gk_bipush (pc := 54) K d_Reader_read_54 kb_59 ?_
          refine gk_ic_eq (tgt := 64) (pc := 56) K d_Reader_read_56 (by decide) h (fun h => ?_) (fun h => ?_)
          · refine gk_aload_n (pc := 64) K d_Reader_read_64 rfl ?_
            refine gk_dup (pc := 65) K d_Reader_read_65 rfl ?_
            refine gk_get (pc := 66) K d_Reader_read_66 fl_Reader_27 tx_4 rfl rfl ?_
            refine gk_iconst (pc := 69) K d_Reader_read_69 kc_1 ?_
            refine gk_iadd (pc := 70) K d_Reader_read_70 ?_
            refine gk_puti (pc := 71) K d_Reader_read_71 fp_Reader_27 tx_4 rfl h (fun m4 h => ?_)
            refine gk_iinc2 (lv2 := [(1, .int (a1 + 1)), (0, .ref 4)]) (pc := 74) K d_Reader_read_74 rfl kc_1 (by decide) rfl ?_
            refine gk_goto (tgt := 17) (pc := 77) K d_Reader_read_77 (by decide) ?_
            exact gk_sub [1, 0] rfl (ih _ _  h)
          · refine gk_aload_n (pc := 59) K d_Reader_read_59 rfl ?_
            refine gk_get (pc := 60) K d_Reader_read_60 fl_Reader_27 tx_4 rfl rfl ?_
            exact gk_iret (pc := 63) K d_Reader_read_63 rfl h
        · exact gk_sub [0] rfl (s_Reader_read_45 K  _  h)
noncomputable def f_Reader_read   (m0 : gk_M) : Option (Int32 × gk_M) :=
  gk_let (gk_mi m0 4 4 0) fun m1 =>
  gk_let (gk_mi m1 4 5 (-1)) fun m2 =>
  gk_let (gk_mi m2 4 1 0) fun m3 =>
  f_Reader_read_17 gk_fv 0 m3

theorem s_Reader_read_0 {z : gk_Z} (K : gk_F tx z me_Reader_read 65) {r : Int32} {mem2 : gk_M} : ∀  m0, f_Reader_read  m0 = some (r, mem2) → gk_G tx z me_Reader_read (gk_R tx z (some (.int r)) mem2) m0 [(0, .ref 4)] [] 0 := by
  intro  m0  h
  unfold f_Reader_read at h
  refine gk_aload_n (pc := 0) K d_Reader_read_0 rfl ?_
  refine gk_iconst (pc := 1) K d_Reader_read_1 kc_0 ?_
  refine gk_puti (pc := 2) K d_Reader_read_2 fp_Reader_27 tx_4 rfl h (fun m1 h => ?_)
  refine gk_aload_n (pc := 5) K d_Reader_read_5 rfl ?_
  refine gk_iconst (pc := 6) K d_Reader_read_6 kc_m1 ?_
  refine gk_puti (pc := 7) K d_Reader_read_7 fp_Reader_30 tx_4 rfl h (fun m2 h => ?_)
  refine gk_aload_n (pc := 10) K d_Reader_read_10 rfl ?_
  refine gk_iconst (pc := 11) K d_Reader_read_11 kc_0 ?_
  refine gk_puti (pc := 12) K d_Reader_read_12 fp_Reader_17 tx_4 rfl h (fun m3 h => ?_)
  refine gk_iconst (pc := 15) K d_Reader_read_15 kc_0 ?_
  refine gk_istore_n (lv2 := [(1, .int 0), (0, .ref 4)]) (pc := 16) K d_Reader_read_16 (by decide) rfl ?_
  exact gk_sub [1, 0] rfl (s_Reader_read_17 K _ _ _  h)
theorem s_Reader_read {l : Launch} {u : gk_U} (hD : gk_D tx u) {m0 mem2 : gk_M} {r : Int32} (h : f_Reader_read  m0 = some (r, mem2)) : gk_C tx l u me_Reader_read 65 [.ref 4] m0 (some (.int r)) mem2 :=
  gk_enter hD mc_Reader_read (Nat.le_of_ble_eq_true rfl) rfl (fun z _ _ K => s_Reader_read_0 K  _  h)
theorem d_Law_become_0 : decode me_Law_become.2.1 0 = .ok (.aload_n 0, 1) := by decide +kernel
theorem d_Law_become_1 : decode me_Law_become.2.1 1 = .ok (.iload_n 2, 1) := by decide +kernel
theorem d_Law_become_2 : decode me_Law_become.2.1 2 = .ok (.sipush 256, 3) := by decide +kernel
theorem d_Law_become_5 : decode me_Law_become.2.1 5 = .ok (.invokestatic 20, 3) := by decide +kernel
theorem d_Law_become_8 : decode me_Law_become.2.1 8 = .ok (.putfield 16, 3) := by decide +kernel
theorem d_Law_become_11 : decode me_Law_become.2.1 11 = .ok (.aload_n 1, 1) := by decide +kernel
theorem d_Law_become_12 : decode me_Law_become.2.1 12 = .ok (.iconst 0, 1) := by decide +kernel
theorem d_Law_become_13 : decode me_Law_become.2.1 13 = .ok (.aload_n 0, 1) := by decide +kernel
theorem d_Law_become_14 : decode me_Law_become.2.1 14 = .ok (.getfield 9, 3) := by decide +kernel
theorem d_Law_become_17 : decode me_Law_become.2.1 17 = .ok (.iconst 0, 1) := by decide +kernel
theorem d_Law_become_18 : decode me_Law_become.2.1 18 = .ok (.aload_n 0, 1) := by decide +kernel
theorem d_Law_become_19 : decode me_Law_become.2.1 19 = .ok (.getfield 16, 3) := by decide +kernel
theorem d_Law_become_22 : decode me_Law_become.2.1 22 = .ok (.invokestatic 26, 3) := by decide +kernel
theorem d_Law_become_25 : decode me_Law_become.2.1 25 = .ok (.return_, 1) := by decide +kernel
noncomputable def f_Law_become  (a2 : Int32) (m0 : gk_M) : Option (Unit × gk_M) :=
  gk_let (gk_mi m0 1 2 (gk_min a2 256)) fun m1 =>
  gk_ci m1 5 256 0 2 256 0 (m1.1 1 2) fun m2 =>
  some ((), m2)

theorem s_Law_become_0 {z : gk_Z} (K : gk_F tx z me_Law_become 2) {r : Unit} {mem2 : gk_M} : ∀ a2 m0, f_Law_become a2 m0 = some (r, mem2) → gk_G tx z me_Law_become (gk_R tx z none mem2) m0 [(0, .ref 1), (1, .ref 5), (2, .int a2)] [] 0 := by
  intro a2 m0  h
  unfold f_Law_become at h
  refine gk_aload_n (pc := 0) K d_Law_become_0 rfl ?_
  refine gk_iload_n (pc := 1) K d_Law_become_1 rfl ?_
  refine gk_sipush (pc := 2) K d_Law_become_2 ks_256 ?_
  refine gk_mmin (pc := 5) K d_Law_become_5 ms_Law_20 (by decide) (Nat.le_of_ble_eq_true rfl) ?_
  refine gk_puti (pc := 8) K d_Law_become_8 fp_Law_16 tx_1 rfl h (fun m1 h => ?_)
  refine gk_aload_n (pc := 11) K d_Law_become_11 rfl ?_
  refine gk_iconst (pc := 12) K d_Law_become_12 kc_0 ?_
  refine gk_aload_n (pc := 13) K d_Law_become_13 rfl ?_
  refine gk_get (pc := 14) K d_Law_become_14 fl_Law_9 tx_1 rfl rfl ?_
  refine gk_iconst (pc := 17) K d_Law_become_17 kc_0 ?_
  refine gk_aload_n (pc := 18) K d_Law_become_18 rfl ?_
  refine gk_get (pc := 19) K d_Law_become_19 fl_Law_16 tx_1 rfl rfl ?_
  refine gk_cpyi (pc := 22) K d_Law_become_22 ac_Law_26 tx_5 tx_2 h (by decide) (Nat.le_of_ble_eq_true rfl) (fun m2 h => ?_)
  exact gk_vret (pc := 25) K d_Law_become_25 rfl h
theorem s_Law_become {l : Launch} {u : gk_U} (hD : gk_D tx u) {a2 : Int32} {m0 mem2 : gk_M} {r : Unit} (h : f_Law_become a2 m0 = some (r, mem2)) : gk_C tx l u me_Law_become 2 [.ref 1, .ref 5, .int a2] m0 none mem2 :=
  gk_enter hD mc_Law_become (Nat.le_of_ble_eq_true rfl) rfl (fun z _ _ K => s_Law_become_0 K _ _  h)
theorem d_Reader_empty_0 : decode me_Reader_empty.2.1 0 = .ok (.aload_n 0, 1) := by decide +kernel
theorem d_Reader_empty_1 : decode me_Reader_empty.2.1 1 = .ok (.iconst 0, 1) := by decide +kernel
theorem d_Reader_empty_2 : decode me_Reader_empty.2.1 2 = .ok (.putfield 21, 3) := by decide +kernel
theorem d_Reader_empty_5 : decode me_Reader_empty.2.1 5 = .ok (.return_, 1) := by decide +kernel
noncomputable def f_Reader_empty   (m0 : gk_M) : Option (Unit × gk_M) :=
  gk_let (gk_mi m0 4 2 0) fun m1 =>
  some ((), m1)

theorem s_Reader_empty_0 {z : gk_Z} (K : gk_F tx z me_Reader_empty 1) {r : Unit} {mem2 : gk_M} : ∀  m0, f_Reader_empty  m0 = some (r, mem2) → gk_G tx z me_Reader_empty (gk_R tx z none mem2) m0 [(0, .ref 4)] [] 0 := by
  intro  m0  h
  unfold f_Reader_empty at h
  refine gk_aload_n (pc := 0) K d_Reader_empty_0 rfl ?_
  refine gk_iconst (pc := 1) K d_Reader_empty_1 kc_0 ?_
  refine gk_puti (pc := 2) K d_Reader_empty_2 fp_Reader_21 tx_4 rfl h (fun m1 h => ?_)
  exact gk_vret (pc := 5) K d_Reader_empty_5 rfl h
theorem s_Reader_empty {l : Launch} {u : gk_U} (hD : gk_D tx u) {m0 mem2 : gk_M} {r : Unit} (h : f_Reader_empty  m0 = some (r, mem2)) : gk_C tx l u me_Reader_empty 1 [.ref 4] m0 none mem2 :=
  gk_enter hD mc_Reader_empty (Nat.le_of_ble_eq_true rfl) rfl (fun z _ _ K => s_Reader_empty_0 K  _  h)
theorem d_X_law_0 : decode me_X_law.2.1 0 = .ok (.aload_n 0, 1) := by decide +kernel
theorem d_X_law_1 : decode me_X_law.2.1 1 = .ok (.getfield 19, 3) := by decide +kernel
theorem d_X_law_4 : decode me_X_law.2.1 4 = .ok (.invokevirtual 126, 3) := by decide +kernel
theorem d_X_law_7 : decode me_X_law.2.1 7 = .ok (.istore_n 1, 1) := by decide +kernel
theorem d_X_law_8 : decode me_X_law.2.1 8 = .ok (.iload_n 1, 1) := by decide +kernel
theorem d_X_law_9 : decode me_X_law.2.1 9 = .ok (.ifCond .ge 31, 3) := by decide +kernel
theorem d_X_law_12 : decode me_X_law.2.1 12 = .ok (.aload_n 0, 1) := by decide +kernel
theorem d_X_law_13 : decode me_X_law.2.1 13 = .ok (.getfield 10, 3) := by decide +kernel
theorem d_X_law_16 : decode me_X_law.2.1 16 = .ok (.aload_n 0, 1) := by decide +kernel
theorem d_X_law_17 : decode me_X_law.2.1 17 = .ok (.getfield 19, 3) := by decide +kernel
theorem d_X_law_20 : decode me_X_law.2.1 20 = .ok (.getfield 130, 3) := by decide +kernel
theorem d_X_law_23 : decode me_X_law.2.1 23 = .ok (.aload_n 0, 1) := by decide +kernel
theorem d_X_law_24 : decode me_X_law.2.1 24 = .ok (.getfield 19, 3) := by decide +kernel
theorem d_X_law_27 : decode me_X_law.2.1 27 = .ok (.getfield 133, 3) := by decide +kernel
theorem d_X_law_30 : decode me_X_law.2.1 30 = .ok (.invokevirtual 137, 3) := by decide +kernel
theorem d_X_law_33 : decode me_X_law.2.1 33 = .ok (.aload_n 0, 1) := by decide +kernel
theorem d_X_law_34 : decode me_X_law.2.1 34 = .ok (.getfield 28, 3) := by decide +kernel
theorem d_X_law_37 : decode me_X_law.2.1 37 = .ok (.invokevirtual 141, 3) := by decide +kernel
theorem d_X_law_40 : decode me_X_law.2.1 40 = .ok (.aload_n 0, 1) := by decide +kernel
theorem d_X_law_41 : decode me_X_law.2.1 41 = .ok (.getfield 19, 3) := by decide +kernel
theorem d_X_law_44 : decode me_X_law.2.1 44 = .ok (.invokevirtual 144, 3) := by decide +kernel
theorem d_X_law_47 : decode me_X_law.2.1 47 = .ok (.iload_n 1, 1) := by decide +kernel
theorem d_X_law_48 : decode me_X_law.2.1 48 = .ok (.ifCond .ge 7, 3) := by decide +kernel
theorem d_X_law_51 : decode me_X_law.2.1 51 = .ok (.iconst 1, 1) := by decide +kernel
theorem d_X_law_52 : decode me_X_law.2.1 52 = .ok (.goto 7, 3) := by decide +kernel
theorem d_X_law_55 : decode me_X_law.2.1 55 = .ok (.bipush (-100), 2) := by decide +kernel
theorem d_X_law_57 : decode me_X_law.2.1 57 = .ok (.iload_n 1, 1) := by decide +kernel
theorem d_X_law_58 : decode me_X_law.2.1 58 = .ok (.isub, 1) := by decide +kernel
theorem d_X_law_59 : decode me_X_law.2.1 59 = .ok (.ireturn, 1) := by decide +kernel
noncomputable def f_X_law_40  (a1 : Int32) (m0 : gk_M) : Option (Int32 × gk_M) :=
  gk_bv (f_Reader_empty  m0) fun m1 =>
  if 0 ≤ a1 then
    some (((-100) - a1), m1)
  else
    some (1, m1)

theorem s_X_law_40 {z : gk_Z} (K : gk_F tx z me_X_law 66) {r : Int32} {mem2 : gk_M} : ∀ a1 m0, f_X_law_40 a1 m0 = some (r, mem2) → gk_G tx z me_X_law (gk_R tx z (some (.int r)) mem2) m0 [(0, .ref 0), (1, .int a1)] [] 40 := by
  intro a1 m0  h
  unfold f_X_law_40 at h
  refine gk_aload_n (pc := 40) K d_X_law_40 rfl ?_
  refine gk_get (pc := 41) K d_X_law_41 fl_X_19 tx_0 rfl rfl ?_
  obtain ⟨m1, em1, h⟩ := gk_bv_some h
  refine gk_cVv (As := []) (pc := 44) K d_X_law_44 mv_X_144 mc_Reader_empty rfl tx_4 cl_ok1.1 (s_Reader_empty (gk_FD K)  em1) (by decide) rfl (Nat.le_of_ble_eq_true rfl) ?_
  refine gk_iload_n (pc := 47) K d_X_law_47 rfl ?_
  refine gk_if_ge (tgt := 55) (pc := 48) K d_X_law_48 (by decide) h (fun h => ?_) (fun h => ?_)
  · refine gk_bipush (pc := 55) K d_X_law_55 kb_m100 ?_
    refine gk_iload_n (pc := 57) K d_X_law_57 rfl ?_
    refine gk_isub (pc := 58) K d_X_law_58 ?_
    exact gk_iret (pc := 59) K d_X_law_59 rfl h
  · refine gk_iconst (pc := 51) K d_X_law_51 kc_1 ?_
    refine gk_goto (tgt := 59) (pc := 52) K d_X_law_52 (by decide) ?_
    exact gk_iret (pc := 59) K d_X_law_59 rfl h
noncomputable def f_X_law   (m0 : gk_M) : Option (Int32 × gk_M) :=
  gk_bi (f_Reader_read  m0) fun v2 m1 =>
  if 0 ≤ v2 then
    f_X_law_40 v2 m1
  else
    gk_bv (f_Law_become (m1.1 4 1) m1) fun m3 =>
    gk_bv (f_Plain_forgetVerdicts  m3) fun m4 =>
    f_X_law_40 v2 m4

theorem s_X_law_0 {z : gk_Z} (K : gk_F tx z me_X_law 66) {r : Int32} {mem2 : gk_M} : ∀  m0, f_X_law  m0 = some (r, mem2) → gk_G tx z me_X_law (gk_R tx z (some (.int r)) mem2) m0 [(0, .ref 0)] [] 0 := by
  intro  m0  h
  unfold f_X_law at h
  refine gk_aload_n (pc := 0) K d_X_law_0 rfl ?_
  refine gk_get (pc := 1) K d_X_law_1 fl_X_19 tx_0 rfl rfl ?_
  obtain ⟨v2, m1, em1, h⟩ := gk_bi_some h
  refine gk_cVi (As := []) (pc := 4) K d_X_law_4 mv_X_126 mc_Reader_read rfl tx_4 cl_ok1.1 (s_Reader_read (gk_FD K)  em1) (by decide) rfl (Nat.le_of_ble_eq_true rfl) ?_
  refine gk_istore_n (lv2 := [(1, .int v2), (0, .ref 0)]) (pc := 7) K d_X_law_7 (by decide) rfl ?_
  refine gk_iload_n (pc := 8) K d_X_law_8 rfl ?_
  refine gk_if_ge (tgt := 40) (pc := 9) K d_X_law_9 (by decide) h (fun h => ?_) (fun h => ?_)
  · exact gk_sub [1, 0] rfl (s_X_law_40 K _ _  h)
  · refine gk_aload_n (pc := 12) K d_X_law_12 rfl ?_
    refine gk_get (pc := 13) K d_X_law_13 fl_X_10 tx_0 rfl rfl ?_
    refine gk_aload_n (pc := 16) K d_X_law_16 rfl ?_
    refine gk_get (pc := 17) K d_X_law_17 fl_X_19 tx_0 rfl rfl ?_
    refine gk_get (pc := 20) K d_X_law_20 fl_X_130 tx_4 rfl rfl ?_
    refine gk_aload_n (pc := 23) K d_X_law_23 rfl ?_
    refine gk_get (pc := 24) K d_X_law_24 fl_X_19 tx_0 rfl rfl ?_
    refine gk_get (pc := 27) K d_X_law_27 fl_X_133 tx_4 rfl rfl ?_
    obtain ⟨m3, em3, h⟩ := gk_bv_some h
    refine gk_cVv (As := [.ref 5, .int (m1.1 4 1)]) (pc := 30) K d_X_law_30 mv_X_137 mc_Law_become rfl tx_1 cl_ok0.1 (s_Law_become (gk_FD K)  em3) (by decide) rfl (Nat.le_of_ble_eq_true rfl) ?_
    refine gk_aload_n (pc := 33) K d_X_law_33 rfl ?_
    refine gk_get (pc := 34) K d_X_law_34 fl_X_28 tx_0 rfl rfl ?_
    obtain ⟨m4, em4, h⟩ := gk_bv_some h
    refine gk_cVv (As := []) (pc := 37) K d_X_law_37 mv_X_141 mc_Plain_forgetVerdicts rfl tx_7 cl_ok2.1 (s_Plain_forgetVerdicts (gk_FD K)  em4) (by decide) rfl (Nat.le_of_ble_eq_true rfl) ?_
    exact gk_sub [1, 0] rfl (s_X_law_40 K _ _  h)
theorem s_X_law {l : Launch} {u : gk_U} (hD : gk_D tx u) {m0 mem2 : gk_M} {r : Int32} (h : f_X_law  m0 = some (r, mem2)) : gk_C tx l u me_X_law 66 [.ref 0] m0 (some (.int r)) mem2 :=
  gk_enter hD mc_X_law (Nat.le_of_ble_eq_true rfl) rfl (fun z _ _ K => s_X_law_0 K  _  h)
theorem d_Plain_isTower_0 : decode me_Plain_isTower.2.1 0 = .ok (.iload_n 1, 1) := by decide +kernel
theorem d_Plain_isTower_1 : decode me_Plain_isTower.2.1 1 = .ok (.ifCond .lt 15, 3) := by decide +kernel
theorem d_Plain_isTower_4 : decode me_Plain_isTower.2.1 4 = .ok (.iload_n 1, 1) := by decide +kernel
theorem d_Plain_isTower_5 : decode me_Plain_isTower.2.1 5 = .ok (.aload_n 0, 1) := by decide +kernel
theorem d_Plain_isTower_6 : decode me_Plain_isTower.2.1 6 = .ok (.getfield 27, 3) := by decide +kernel
theorem d_Plain_isTower_9 : decode me_Plain_isTower.2.1 9 = .ok (.if_icmp .ge 7, 3) := by decide +kernel
theorem d_Plain_isTower_12 : decode me_Plain_isTower.2.1 12 = .ok (.iconst 1, 1) := by decide +kernel
theorem d_Plain_isTower_13 : decode me_Plain_isTower.2.1 13 = .ok (.goto 4, 3) := by decide +kernel
theorem d_Plain_isTower_16 : decode me_Plain_isTower.2.1 16 = .ok (.iconst 0, 1) := by decide +kernel
theorem d_Plain_isTower_17 : decode me_Plain_isTower.2.1 17 = .ok (.ireturn, 1) := by decide +kernel
noncomputable def f_Plain_isTower  (a1 : Int32) (m0 : gk_M) : Option (Int32 × gk_M) :=
  if a1 < 0 then
    some (0, m0)
  else
    if (m0.1 7 5) ≤ a1 then
      some (0, m0)
    else
      some (1, m0)

theorem s_Plain_isTower_0 {z : gk_Z} (K : gk_F tx z me_Plain_isTower 1) {r : Int32} {mem2 : gk_M} : ∀ a1 m0, f_Plain_isTower a1 m0 = some (r, mem2) → gk_G tx z me_Plain_isTower (gk_R tx z (some (.int r)) mem2) m0 [(0, .ref 7), (1, .int a1)] [] 0 := by
  intro a1 m0  h
  unfold f_Plain_isTower at h
  refine gk_iload_n (pc := 0) K d_Plain_isTower_0 rfl ?_
  refine gk_if_lt (tgt := 16) (pc := 1) K d_Plain_isTower_1 (by decide) h (fun h => ?_) (fun h => ?_)
  · refine gk_iconst (pc := 16) K d_Plain_isTower_16 kc_0 ?_
    exact gk_zretc (pc := 17) K d_Plain_isTower_17 rfl (Or.inl rfl) h
  · refine gk_iload_n (pc := 4) K d_Plain_isTower_4 rfl ?_
    refine gk_aload_n (pc := 5) K d_Plain_isTower_5 rfl ?_
    refine gk_get (pc := 6) K d_Plain_isTower_6 fl_Plain_27 tx_7 rfl rfl ?_
    refine gk_ic_ge (tgt := 16) (pc := 9) K d_Plain_isTower_9 (by decide) h (fun h => ?_) (fun h => ?_)
    · refine gk_iconst (pc := 16) K d_Plain_isTower_16 kc_0 ?_
      exact gk_zretc (pc := 17) K d_Plain_isTower_17 rfl (Or.inl rfl) h
    · refine gk_iconst (pc := 12) K d_Plain_isTower_12 kc_1 ?_
      refine gk_goto (tgt := 17) (pc := 13) K d_Plain_isTower_13 (by decide) ?_
      exact gk_zretc (pc := 17) K d_Plain_isTower_17 rfl (Or.inr rfl) h
theorem s_Plain_isTower {l : Launch} {u : gk_U} (hD : gk_D tx u) {a1 : Int32} {m0 mem2 : gk_M} {r : Int32} (h : f_Plain_isTower a1 m0 = some (r, mem2)) : gk_C tx l u me_Plain_isTower 1 [.ref 7, .int a1] m0 (some (.int r)) mem2 :=
  gk_enter hD mc_Plain_isTower (Nat.le_of_ble_eq_true rfl) rfl (fun z _ _ K => s_Plain_isTower_0 K _ _  h)
theorem d_Plain_trait_0 : decode me_Plain_trait.2.1 0 = .ok (.iload_n 2, 1) := by decide +kernel
theorem d_Plain_trait_1 : decode me_Plain_trait.2.1 1 = .ok (.ifCond .ne 12, 3) := by decide +kernel
theorem d_Plain_trait_4 : decode me_Plain_trait.2.1 4 = .ok (.aload_n 0, 1) := by decide +kernel
theorem d_Plain_trait_5 : decode me_Plain_trait.2.1 5 = .ok (.getfield 18, 3) := by decide +kernel
theorem d_Plain_trait_8 : decode me_Plain_trait.2.1 8 = .ok (.iload_n 1, 1) := by decide +kernel
theorem d_Plain_trait_9 : decode me_Plain_trait.2.1 9 = .ok (.iaload, 1) := by decide +kernel
theorem d_Plain_trait_10 : decode me_Plain_trait.2.1 10 = .ok (.goto 23, 3) := by decide +kernel
theorem d_Plain_trait_13 : decode me_Plain_trait.2.1 13 = .ok (.iload_n 2, 1) := by decide +kernel
theorem d_Plain_trait_14 : decode me_Plain_trait.2.1 14 = .ok (.iconst 1, 1) := by decide +kernel
theorem d_Plain_trait_15 : decode me_Plain_trait.2.1 15 = .ok (.if_icmp .ne 12, 3) := by decide +kernel
theorem d_Plain_trait_18 : decode me_Plain_trait.2.1 18 = .ok (.aload_n 0, 1) := by decide +kernel
theorem d_Plain_trait_19 : decode me_Plain_trait.2.1 19 = .ok (.getfield 21, 3) := by decide +kernel
theorem d_Plain_trait_22 : decode me_Plain_trait.2.1 22 = .ok (.iload_n 1, 1) := by decide +kernel
theorem d_Plain_trait_23 : decode me_Plain_trait.2.1 23 = .ok (.iaload, 1) := by decide +kernel
theorem d_Plain_trait_24 : decode me_Plain_trait.2.1 24 = .ok (.goto 9, 3) := by decide +kernel
theorem d_Plain_trait_27 : decode me_Plain_trait.2.1 27 = .ok (.aload_n 0, 1) := by decide +kernel
theorem d_Plain_trait_28 : decode me_Plain_trait.2.1 28 = .ok (.getfield 24, 3) := by decide +kernel
theorem d_Plain_trait_31 : decode me_Plain_trait.2.1 31 = .ok (.iload_n 1, 1) := by decide +kernel
theorem d_Plain_trait_32 : decode me_Plain_trait.2.1 32 = .ok (.iaload, 1) := by decide +kernel
theorem d_Plain_trait_33 : decode me_Plain_trait.2.1 33 = .ok (.ireturn, 1) := by decide +kernel
noncomputable def f_Plain_trait  (a1 : Int32) (a2 : Int32) (m0 : gk_M) : Option (Int32 × gk_M) :=
  if ¬ a2 = 0 then
    if ¬ a2 = 1 then
      gk_ai m0 12 12 a1 fun v1 =>
      some (v1, m0)
    else
      gk_ai m0 11 12 a1 fun v2 =>
      some (v2, m0)
  else
    gk_ai m0 10 12 a1 fun v3 =>
    some (v3, m0)

theorem s_Plain_trait_0 {z : gk_Z} (K : gk_F tx z me_Plain_trait 1) {r : Int32} {mem2 : gk_M} : ∀ a1 a2 m0, f_Plain_trait a1 a2 m0 = some (r, mem2) → gk_G tx z me_Plain_trait (gk_R tx z (some (.int r)) mem2) m0 [(0, .ref 7), (1, .int a1), (2, .int a2)] [] 0 := by
  intro a1 a2 m0  h
  unfold f_Plain_trait at h
  refine gk_iload_n (pc := 0) K d_Plain_trait_0 rfl ?_
  refine gk_if_ne (tgt := 13) (pc := 1) K d_Plain_trait_1 (by decide) h (fun h => ?_) (fun h => ?_)
  · refine gk_iload_n (pc := 13) K d_Plain_trait_13 rfl ?_
    refine gk_iconst (pc := 14) K d_Plain_trait_14 kc_1 ?_
    refine gk_ic_ne (tgt := 27) (pc := 15) K d_Plain_trait_15 (by decide) h (fun h => ?_) (fun h => ?_)
    · refine gk_aload_n (pc := 27) K d_Plain_trait_27 rfl ?_
      refine gk_get (pc := 28) K d_Plain_trait_28 fl_Plain_24 tx_7 rfl rfl ?_
      refine gk_iload_n (pc := 31) K d_Plain_trait_31 rfl ?_
      refine gk_iald (pc := 32) K d_Plain_trait_32 tx_12 h (fun v1 h => ?_)
      exact gk_iret (pc := 33) K d_Plain_trait_33 rfl h
    · refine gk_aload_n (pc := 18) K d_Plain_trait_18 rfl ?_
      refine gk_get (pc := 19) K d_Plain_trait_19 fl_Plain_21 tx_7 rfl rfl ?_
      refine gk_iload_n (pc := 22) K d_Plain_trait_22 rfl ?_
      refine gk_iald (pc := 23) K d_Plain_trait_23 tx_11 h (fun v2 h => ?_)
      refine gk_goto (tgt := 33) (pc := 24) K d_Plain_trait_24 (by decide) ?_
      exact gk_iret (pc := 33) K d_Plain_trait_33 rfl h
  · refine gk_aload_n (pc := 4) K d_Plain_trait_4 rfl ?_
    refine gk_get (pc := 5) K d_Plain_trait_5 fl_Plain_18 tx_7 rfl rfl ?_
    refine gk_iload_n (pc := 8) K d_Plain_trait_8 rfl ?_
    refine gk_iald (pc := 9) K d_Plain_trait_9 tx_10 h (fun v3 h => ?_)
    refine gk_goto (tgt := 33) (pc := 10) K d_Plain_trait_10 (by decide) ?_
    exact gk_iret (pc := 33) K d_Plain_trait_33 rfl h
theorem s_Plain_trait {l : Launch} {u : gk_U} (hD : gk_D tx u) {a1 : Int32} {a2 : Int32} {m0 mem2 : gk_M} {r : Int32} (h : f_Plain_trait a1 a2 m0 = some (r, mem2)) : gk_C tx l u me_Plain_trait 1 [.ref 7, .int a1, .int a2] m0 (some (.int r)) mem2 :=
  gk_enter hD mc_Plain_trait (Nat.le_of_ble_eq_true rfl) rfl (fun z _ _ K => s_Plain_trait_0 K _ _ _  h)
theorem d_History_dropOldest_0 : decode me_History_dropOldest.2.1 0 = .ok (.aload_n 0, 1) := by decide +kernel
theorem d_History_dropOldest_1 : decode me_History_dropOldest.2.1 1 = .ok (.bipush 39, 2) := by decide +kernel
theorem d_History_dropOldest_3 : decode me_History_dropOldest.2.1 3 = .ok (.putfield 9, 3) := by decide +kernel
theorem d_History_dropOldest_6 : decode me_History_dropOldest.2.1 6 = .ok (.aload_n 0, 1) := by decide +kernel
theorem d_History_dropOldest_7 : decode me_History_dropOldest.2.1 7 = .ok (.getfield 18, 3) := by decide +kernel
theorem d_History_dropOldest_10 : decode me_History_dropOldest.2.1 10 = .ok (.iconst 1, 1) := by decide +kernel
theorem d_History_dropOldest_11 : decode me_History_dropOldest.2.1 11 = .ok (.aload_n 0, 1) := by decide +kernel
theorem d_History_dropOldest_12 : decode me_History_dropOldest.2.1 12 = .ok (.getfield 18, 3) := by decide +kernel
theorem d_History_dropOldest_15 : decode me_History_dropOldest.2.1 15 = .ok (.iconst 0, 1) := by decide +kernel
theorem d_History_dropOldest_16 : decode me_History_dropOldest.2.1 16 = .ok (.aload_n 0, 1) := by decide +kernel
theorem d_History_dropOldest_17 : decode me_History_dropOldest.2.1 17 = .ok (.getfield 9, 3) := by decide +kernel
theorem d_History_dropOldest_20 : decode me_History_dropOldest.2.1 20 = .ok (.invokestatic 38, 3) := by decide +kernel
theorem d_History_dropOldest_23 : decode me_History_dropOldest.2.1 23 = .ok (.aload_n 0, 1) := by decide +kernel
theorem d_History_dropOldest_24 : decode me_History_dropOldest.2.1 24 = .ok (.getfield 22, 3) := by decide +kernel
theorem d_History_dropOldest_27 : decode me_History_dropOldest.2.1 27 = .ok (.iconst 1, 1) := by decide +kernel
theorem d_History_dropOldest_28 : decode me_History_dropOldest.2.1 28 = .ok (.aload_n 0, 1) := by decide +kernel
theorem d_History_dropOldest_29 : decode me_History_dropOldest.2.1 29 = .ok (.getfield 22, 3) := by decide +kernel
theorem d_History_dropOldest_32 : decode me_History_dropOldest.2.1 32 = .ok (.iconst 0, 1) := by decide +kernel
theorem d_History_dropOldest_33 : decode me_History_dropOldest.2.1 33 = .ok (.aload_n 0, 1) := by decide +kernel
theorem d_History_dropOldest_34 : decode me_History_dropOldest.2.1 34 = .ok (.getfield 9, 3) := by decide +kernel
theorem d_History_dropOldest_37 : decode me_History_dropOldest.2.1 37 = .ok (.invokestatic 38, 3) := by decide +kernel
theorem d_History_dropOldest_40 : decode me_History_dropOldest.2.1 40 = .ok (.aload_n 0, 1) := by decide +kernel
theorem d_History_dropOldest_41 : decode me_History_dropOldest.2.1 41 = .ok (.getfield 25, 3) := by decide +kernel
theorem d_History_dropOldest_44 : decode me_History_dropOldest.2.1 44 = .ok (.iconst 1, 1) := by decide +kernel
theorem d_History_dropOldest_45 : decode me_History_dropOldest.2.1 45 = .ok (.aload_n 0, 1) := by decide +kernel
theorem d_History_dropOldest_46 : decode me_History_dropOldest.2.1 46 = .ok (.getfield 25, 3) := by decide +kernel
theorem d_History_dropOldest_49 : decode me_History_dropOldest.2.1 49 = .ok (.iconst 0, 1) := by decide +kernel
theorem d_History_dropOldest_50 : decode me_History_dropOldest.2.1 50 = .ok (.aload_n 0, 1) := by decide +kernel
theorem d_History_dropOldest_51 : decode me_History_dropOldest.2.1 51 = .ok (.getfield 9, 3) := by decide +kernel
theorem d_History_dropOldest_54 : decode me_History_dropOldest.2.1 54 = .ok (.invokestatic 38, 3) := by decide +kernel
theorem d_History_dropOldest_57 : decode me_History_dropOldest.2.1 57 = .ok (.aload_n 0, 1) := by decide +kernel
theorem d_History_dropOldest_58 : decode me_History_dropOldest.2.1 58 = .ok (.getfield 28, 3) := by decide +kernel
theorem d_History_dropOldest_61 : decode me_History_dropOldest.2.1 61 = .ok (.iconst 1, 1) := by decide +kernel
theorem d_History_dropOldest_62 : decode me_History_dropOldest.2.1 62 = .ok (.aload_n 0, 1) := by decide +kernel
theorem d_History_dropOldest_63 : decode me_History_dropOldest.2.1 63 = .ok (.getfield 28, 3) := by decide +kernel
theorem d_History_dropOldest_66 : decode me_History_dropOldest.2.1 66 = .ok (.iconst 0, 1) := by decide +kernel
theorem d_History_dropOldest_67 : decode me_History_dropOldest.2.1 67 = .ok (.aload_n 0, 1) := by decide +kernel
theorem d_History_dropOldest_68 : decode me_History_dropOldest.2.1 68 = .ok (.getfield 9, 3) := by decide +kernel
theorem d_History_dropOldest_71 : decode me_History_dropOldest.2.1 71 = .ok (.invokestatic 38, 3) := by decide +kernel
theorem d_History_dropOldest_74 : decode me_History_dropOldest.2.1 74 = .ok (.return_, 1) := by decide +kernel
noncomputable def f_History_dropOldest   (m0 : gk_M) : Option (Unit × gk_M) :=
  gk_let (gk_mi m0 32 0 39) fun m1 =>
  gk_ci m1 33 40 1 33 40 0 (m1.1 32 0) fun m2 =>
  gk_ci m2 34 40 1 34 40 0 (m2.1 32 0) fun m3 =>
  gk_ci m3 35 40 1 35 40 0 (m3.1 32 0) fun m4 =>
  gk_ci m4 36 40 1 36 40 0 (m4.1 32 0) fun m5 =>
  some ((), m5)

theorem s_History_dropOldest_0 {z : gk_Z} (K : gk_F tx z me_History_dropOldest 2) {r : Unit} {mem2 : gk_M} : ∀  m0, f_History_dropOldest  m0 = some (r, mem2) → gk_G tx z me_History_dropOldest (gk_R tx z none mem2) m0 [(0, .ref 32)] [] 0 := by
  intro  m0  h
  unfold f_History_dropOldest at h
  refine gk_aload_n (pc := 0) K d_History_dropOldest_0 rfl ?_
  refine gk_bipush (pc := 1) K d_History_dropOldest_1 kb_39 ?_
  refine gk_puti (pc := 3) K d_History_dropOldest_3 fp_History_9 tx_32 rfl h (fun m1 h => ?_)
  refine gk_aload_n (pc := 6) K d_History_dropOldest_6 rfl ?_
  refine gk_get (pc := 7) K d_History_dropOldest_7 fl_History_18 tx_32 rfl rfl ?_
  refine gk_iconst (pc := 10) K d_History_dropOldest_10 kc_1 ?_
  refine gk_aload_n (pc := 11) K d_History_dropOldest_11 rfl ?_
  refine gk_get (pc := 12) K d_History_dropOldest_12 fl_History_18 tx_32 rfl rfl ?_
  refine gk_iconst (pc := 15) K d_History_dropOldest_15 kc_0 ?_
  refine gk_aload_n (pc := 16) K d_History_dropOldest_16 rfl ?_
  refine gk_get (pc := 17) K d_History_dropOldest_17 fl_History_9 tx_32 rfl rfl ?_
  refine gk_cpyi (pc := 20) K d_History_dropOldest_20 ac_History_38 tx_33 tx_33 h (by decide) (Nat.le_of_ble_eq_true rfl) (fun m2 h => ?_)
  refine gk_aload_n (pc := 23) K d_History_dropOldest_23 rfl ?_
  refine gk_get (pc := 24) K d_History_dropOldest_24 fl_History_22 tx_32 rfl rfl ?_
  refine gk_iconst (pc := 27) K d_History_dropOldest_27 kc_1 ?_
  refine gk_aload_n (pc := 28) K d_History_dropOldest_28 rfl ?_
  refine gk_get (pc := 29) K d_History_dropOldest_29 fl_History_22 tx_32 rfl rfl ?_
  refine gk_iconst (pc := 32) K d_History_dropOldest_32 kc_0 ?_
  refine gk_aload_n (pc := 33) K d_History_dropOldest_33 rfl ?_
  refine gk_get (pc := 34) K d_History_dropOldest_34 fl_History_9 tx_32 rfl rfl ?_
  refine gk_cpyi (pc := 37) K d_History_dropOldest_37 ac_History_38 tx_34 tx_34 h (by decide) (Nat.le_of_ble_eq_true rfl) (fun m3 h => ?_)
  refine gk_aload_n (pc := 40) K d_History_dropOldest_40 rfl ?_
  refine gk_get (pc := 41) K d_History_dropOldest_41 fl_History_25 tx_32 rfl rfl ?_
  refine gk_iconst (pc := 44) K d_History_dropOldest_44 kc_1 ?_
  refine gk_aload_n (pc := 45) K d_History_dropOldest_45 rfl ?_
  refine gk_get (pc := 46) K d_History_dropOldest_46 fl_History_25 tx_32 rfl rfl ?_
  refine gk_iconst (pc := 49) K d_History_dropOldest_49 kc_0 ?_
  refine gk_aload_n (pc := 50) K d_History_dropOldest_50 rfl ?_
  refine gk_get (pc := 51) K d_History_dropOldest_51 fl_History_9 tx_32 rfl rfl ?_
  refine gk_cpyi (pc := 54) K d_History_dropOldest_54 ac_History_38 tx_35 tx_35 h (by decide) (Nat.le_of_ble_eq_true rfl) (fun m4 h => ?_)
  refine gk_aload_n (pc := 57) K d_History_dropOldest_57 rfl ?_
  refine gk_get (pc := 58) K d_History_dropOldest_58 fl_History_28 tx_32 rfl rfl ?_
  refine gk_iconst (pc := 61) K d_History_dropOldest_61 kc_1 ?_
  refine gk_aload_n (pc := 62) K d_History_dropOldest_62 rfl ?_
  refine gk_get (pc := 63) K d_History_dropOldest_63 fl_History_28 tx_32 rfl rfl ?_
  refine gk_iconst (pc := 66) K d_History_dropOldest_66 kc_0 ?_
  refine gk_aload_n (pc := 67) K d_History_dropOldest_67 rfl ?_
  refine gk_get (pc := 68) K d_History_dropOldest_68 fl_History_9 tx_32 rfl rfl ?_
  refine gk_cpyi (pc := 71) K d_History_dropOldest_71 ac_History_38 tx_36 tx_36 h (by decide) (Nat.le_of_ble_eq_true rfl) (fun m5 h => ?_)
  exact gk_vret (pc := 74) K d_History_dropOldest_74 rfl h
theorem s_History_dropOldest {l : Launch} {u : gk_U} (hD : gk_D tx u) {m0 mem2 : gk_M} {r : Unit} (h : f_History_dropOldest  m0 = some (r, mem2)) : gk_C tx l u me_History_dropOldest 2 [.ref 32] m0 none mem2 :=
  gk_enter hD mc_History_dropOldest (Nat.le_of_ble_eq_true rfl) rfl (fun z _ _ K => s_History_dropOldest_0 K  _  h)
theorem d_History_note_0 : decode me_History_note.2.1 0 = .ok (.aload_n 0, 1) := by decide +kernel
theorem d_History_note_1 : decode me_History_note.2.1 1 = .ok (.getfield 9, 3) := by decide +kernel
theorem d_History_note_4 : decode me_History_note.2.1 4 = .ok (.bipush 40, 2) := by decide +kernel
theorem d_History_note_6 : decode me_History_note.2.1 6 = .ok (.if_icmp .lt 7, 3) := by decide +kernel
theorem d_History_note_9 : decode me_History_note.2.1 9 = .ok (.aload_n 0, 1) := by decide +kernel
theorem d_History_note_10 : decode me_History_note.2.1 10 = .ok (.invokevirtual 35, 3) := by decide +kernel
theorem d_History_note_13 : decode me_History_note.2.1 13 = .ok (.aload_n 0, 1) := by decide +kernel
theorem d_History_note_14 : decode me_History_note.2.1 14 = .ok (.getfield 18, 3) := by decide +kernel
theorem d_History_note_17 : decode me_History_note.2.1 17 = .ok (.aload_n 0, 1) := by decide +kernel
theorem d_History_note_18 : decode me_History_note.2.1 18 = .ok (.getfield 9, 3) := by decide +kernel
theorem d_History_note_21 : decode me_History_note.2.1 21 = .ok (.iload_n 1, 1) := by decide +kernel
theorem d_History_note_22 : decode me_History_note.2.1 22 = .ok (.iastore, 1) := by decide +kernel
theorem d_History_note_23 : decode me_History_note.2.1 23 = .ok (.aload_n 0, 1) := by decide +kernel
theorem d_History_note_24 : decode me_History_note.2.1 24 = .ok (.getfield 22, 3) := by decide +kernel
theorem d_History_note_27 : decode me_History_note.2.1 27 = .ok (.aload_n 0, 1) := by decide +kernel
theorem d_History_note_28 : decode me_History_note.2.1 28 = .ok (.getfield 9, 3) := by decide +kernel
theorem d_History_note_31 : decode me_History_note.2.1 31 = .ok (.iload_n 2, 1) := by decide +kernel
theorem d_History_note_32 : decode me_History_note.2.1 32 = .ok (.iastore, 1) := by decide +kernel
theorem d_History_note_33 : decode me_History_note.2.1 33 = .ok (.aload_n 0, 1) := by decide +kernel
theorem d_History_note_34 : decode me_History_note.2.1 34 = .ok (.getfield 25, 3) := by decide +kernel
theorem d_History_note_37 : decode me_History_note.2.1 37 = .ok (.aload_n 0, 1) := by decide +kernel
theorem d_History_note_38 : decode me_History_note.2.1 38 = .ok (.getfield 9, 3) := by decide +kernel
theorem d_History_note_41 : decode me_History_note.2.1 41 = .ok (.iload_n 3, 1) := by decide +kernel
theorem d_History_note_42 : decode me_History_note.2.1 42 = .ok (.iastore, 1) := by decide +kernel
theorem d_History_note_43 : decode me_History_note.2.1 43 = .ok (.aload_n 0, 1) := by decide +kernel
theorem d_History_note_44 : decode me_History_note.2.1 44 = .ok (.getfield 28, 3) := by decide +kernel
theorem d_History_note_47 : decode me_History_note.2.1 47 = .ok (.aload_n 0, 1) := by decide +kernel
theorem d_History_note_48 : decode me_History_note.2.1 48 = .ok (.getfield 9, 3) := by decide +kernel
theorem d_History_note_51 : decode me_History_note.2.1 51 = .ok (.iload 4, 2) := by decide +kernel
theorem d_History_note_53 : decode me_History_note.2.1 53 = .ok (.iastore, 1) := by decide +kernel
theorem d_History_note_54 : decode me_History_note.2.1 54 = .ok (.aload_n 0, 1) := by decide +kernel
theorem d_History_note_55 : decode me_History_note.2.1 55 = .ok (.dup, 1) := by decide +kernel
theorem d_History_note_56 : decode me_History_note.2.1 56 = .ok (.getfield 9, 3) := by decide +kernel
theorem d_History_note_59 : decode me_History_note.2.1 59 = .ok (.iconst 1, 1) := by decide +kernel
theorem d_History_note_60 : decode me_History_note.2.1 60 = .ok (.iadd, 1) := by decide +kernel
theorem d_History_note_61 : decode me_History_note.2.1 61 = .ok (.putfield 9, 3) := by decide +kernel
theorem d_History_note_64 : decode me_History_note.2.1 64 = .ok (.aload_n 0, 1) := by decide +kernel
theorem d_History_note_65 : decode me_History_note.2.1 65 = .ok (.iconst 0, 1) := by decide +kernel
theorem d_History_note_66 : decode me_History_note.2.1 66 = .ok (.putfield 15, 3) := by decide +kernel
theorem d_History_note_69 : decode me_History_note.2.1 69 = .ok (.return_, 1) := by decide +kernel
noncomputable def f_History_note_13  (a1 : Int32) (a2 : Int32) (a3 : Int32) (a4 : Int32) (m0 : gk_M) : Option (Unit × gk_M) :=
  gk_si m0 33 40 (m0.1 32 0) a1 fun m1 =>
  gk_si m1 34 40 (m1.1 32 0) a2 fun m2 =>
  gk_si m2 35 40 (m2.1 32 0) a3 fun m3 =>
  gk_si m3 36 40 (m3.1 32 0) a4 fun m4 =>
  gk_let (gk_mi m4 32 0 ((m4.1 32 0) + 1)) fun m5 =>
  gk_let (gk_mi m5 32 1 0) fun m6 =>
  some ((), m6)

theorem s_History_note_13 {z : gk_Z} (K : gk_F tx z me_History_note 3) {r : Unit} {mem2 : gk_M} : ∀ a1 a2 a3 a4 m0, f_History_note_13 a1 a2 a3 a4 m0 = some (r, mem2) → gk_G tx z me_History_note (gk_R tx z none mem2) m0 [(0, .ref 32), (1, .int a1), (2, .int a2), (3, .int a3), (4, .int a4)] [] 13 := by
  intro a1 a2 a3 a4 m0  h
  unfold f_History_note_13 at h
  refine gk_aload_n (pc := 13) K d_History_note_13 rfl ?_
  refine gk_get (pc := 14) K d_History_note_14 fl_History_18 tx_32 rfl rfl ?_
  refine gk_aload_n (pc := 17) K d_History_note_17 rfl ?_
  refine gk_get (pc := 18) K d_History_note_18 fl_History_9 tx_32 rfl rfl ?_
  refine gk_iload_n (pc := 21) K d_History_note_21 rfl ?_
  refine gk_iast (pc := 22) K d_History_note_22 tx_33 h (fun m1 h => ?_)
  refine gk_aload_n (pc := 23) K d_History_note_23 rfl ?_
  refine gk_get (pc := 24) K d_History_note_24 fl_History_22 tx_32 rfl rfl ?_
  refine gk_aload_n (pc := 27) K d_History_note_27 rfl ?_
  refine gk_get (pc := 28) K d_History_note_28 fl_History_9 tx_32 rfl rfl ?_
  refine gk_iload_n (pc := 31) K d_History_note_31 rfl ?_
  refine gk_iast (pc := 32) K d_History_note_32 tx_34 h (fun m2 h => ?_)
  refine gk_aload_n (pc := 33) K d_History_note_33 rfl ?_
  refine gk_get (pc := 34) K d_History_note_34 fl_History_25 tx_32 rfl rfl ?_
  refine gk_aload_n (pc := 37) K d_History_note_37 rfl ?_
  refine gk_get (pc := 38) K d_History_note_38 fl_History_9 tx_32 rfl rfl ?_
  refine gk_iload_n (pc := 41) K d_History_note_41 rfl ?_
  refine gk_iast (pc := 42) K d_History_note_42 tx_35 h (fun m3 h => ?_)
  refine gk_aload_n (pc := 43) K d_History_note_43 rfl ?_
  refine gk_get (pc := 44) K d_History_note_44 fl_History_28 tx_32 rfl rfl ?_
  refine gk_aload_n (pc := 47) K d_History_note_47 rfl ?_
  refine gk_get (pc := 48) K d_History_note_48 fl_History_9 tx_32 rfl rfl ?_
  refine gk_iload (pc := 51) K d_History_note_51 rfl ?_
  refine gk_iast (pc := 53) K d_History_note_53 tx_36 h (fun m4 h => ?_)
  refine gk_aload_n (pc := 54) K d_History_note_54 rfl ?_
  refine gk_dup (pc := 55) K d_History_note_55 rfl ?_
  refine gk_get (pc := 56) K d_History_note_56 fl_History_9 tx_32 rfl rfl ?_
  refine gk_iconst (pc := 59) K d_History_note_59 kc_1 ?_
  refine gk_iadd (pc := 60) K d_History_note_60 ?_
  refine gk_puti (pc := 61) K d_History_note_61 fp_History_9 tx_32 rfl h (fun m5 h => ?_)
  refine gk_aload_n (pc := 64) K d_History_note_64 rfl ?_
  refine gk_iconst (pc := 65) K d_History_note_65 kc_0 ?_
  refine gk_puti (pc := 66) K d_History_note_66 fp_History_15 tx_32 rfl h (fun m6 h => ?_)
  exact gk_vret (pc := 69) K d_History_note_69 rfl h
noncomputable def f_History_note  (a1 : Int32) (a2 : Int32) (a3 : Int32) (a4 : Int32) (m0 : gk_M) : Option (Unit × gk_M) :=
  if (m0.1 32 0) < 40 then
    f_History_note_13 a1 a2 a3 a4 m0
  else
    gk_bv (f_History_dropOldest  m0) fun m1 =>
    f_History_note_13 a1 a2 a3 a4 m1

theorem s_History_note_0 {z : gk_Z} (K : gk_F tx z me_History_note 3) {r : Unit} {mem2 : gk_M} : ∀ a1 a2 a3 a4 m0, f_History_note a1 a2 a3 a4 m0 = some (r, mem2) → gk_G tx z me_History_note (gk_R tx z none mem2) m0 [(0, .ref 32), (1, .int a1), (2, .int a2), (3, .int a3), (4, .int a4)] [] 0 := by
  intro a1 a2 a3 a4 m0  h
  unfold f_History_note at h
  refine gk_aload_n (pc := 0) K d_History_note_0 rfl ?_
  refine gk_get (pc := 1) K d_History_note_1 fl_History_9 tx_32 rfl rfl ?_
  refine gk_bipush (pc := 4) K d_History_note_4 kb_40 ?_
  refine gk_ic_lt (tgt := 13) (pc := 6) K d_History_note_6 (by decide) h (fun h => ?_) (fun h => ?_)
  · exact gk_sub [0, 1, 2, 3, 4] rfl (s_History_note_13 K _ _ _ _ _  h)
  · refine gk_aload_n (pc := 9) K d_History_note_9 rfl ?_
    obtain ⟨m1, em1, h⟩ := gk_bv_some h
    refine gk_cVv (As := []) (pc := 10) K d_History_note_10 mv_History_35 mc_History_dropOldest rfl tx_32 cl_ok6.1 (s_History_dropOldest (gk_FD K)  em1) (by decide) rfl (Nat.le_of_ble_eq_true rfl) ?_
    exact gk_sub [0, 1, 2, 3, 4] rfl (s_History_note_13 K _ _ _ _ _  h)
theorem s_History_note {l : Launch} {u : gk_U} (hD : gk_D tx u) {a1 : Int32} {a2 : Int32} {a3 : Int32} {a4 : Int32} {m0 mem2 : gk_M} {r : Unit} (h : f_History_note a1 a2 a3 a4 m0 = some (r, mem2)) : gk_C tx l u me_History_note 3 [.ref 32, .int a1, .int a2, .int a3, .int a4] m0 none mem2 :=
  gk_enter hD mc_History_note (Nat.le_of_ble_eq_true rfl) rfl (fun z _ _ K => s_History_note_0 K _ _ _ _ _  h)
theorem d_Plain_setTrait_0 : decode me_Plain_setTrait.2.1 0 = .ok (.iload_n 2, 1) := by decide +kernel
theorem d_Plain_setTrait_1 : decode me_Plain_setTrait.2.1 1 = .ok (.ifCond .ne 13, 3) := by decide +kernel
theorem d_Plain_setTrait_4 : decode me_Plain_setTrait.2.1 4 = .ok (.aload_n 0, 1) := by decide +kernel
theorem d_Plain_setTrait_5 : decode me_Plain_setTrait.2.1 5 = .ok (.getfield 18, 3) := by decide +kernel
theorem d_Plain_setTrait_8 : decode me_Plain_setTrait.2.1 8 = .ok (.iload_n 1, 1) := by decide +kernel
theorem d_Plain_setTrait_9 : decode me_Plain_setTrait.2.1 9 = .ok (.iload_n 3, 1) := by decide +kernel
theorem d_Plain_setTrait_10 : decode me_Plain_setTrait.2.1 10 = .ok (.iastore, 1) := by decide +kernel
theorem d_Plain_setTrait_11 : decode me_Plain_setTrait.2.1 11 = .ok (.goto 25, 3) := by decide +kernel
theorem d_Plain_setTrait_14 : decode me_Plain_setTrait.2.1 14 = .ok (.iload_n 2, 1) := by decide +kernel
theorem d_Plain_setTrait_15 : decode me_Plain_setTrait.2.1 15 = .ok (.iconst 1, 1) := by decide +kernel
theorem d_Plain_setTrait_16 : decode me_Plain_setTrait.2.1 16 = .ok (.if_icmp .ne 13, 3) := by decide +kernel
theorem d_Plain_setTrait_19 : decode me_Plain_setTrait.2.1 19 = .ok (.aload_n 0, 1) := by decide +kernel
theorem d_Plain_setTrait_20 : decode me_Plain_setTrait.2.1 20 = .ok (.getfield 21, 3) := by decide +kernel
theorem d_Plain_setTrait_23 : decode me_Plain_setTrait.2.1 23 = .ok (.iload_n 1, 1) := by decide +kernel
theorem d_Plain_setTrait_24 : decode me_Plain_setTrait.2.1 24 = .ok (.iload_n 3, 1) := by decide +kernel
theorem d_Plain_setTrait_25 : decode me_Plain_setTrait.2.1 25 = .ok (.iastore, 1) := by decide +kernel
theorem d_Plain_setTrait_26 : decode me_Plain_setTrait.2.1 26 = .ok (.goto 10, 3) := by decide +kernel
theorem d_Plain_setTrait_29 : decode me_Plain_setTrait.2.1 29 = .ok (.aload_n 0, 1) := by decide +kernel
theorem d_Plain_setTrait_30 : decode me_Plain_setTrait.2.1 30 = .ok (.getfield 24, 3) := by decide +kernel
theorem d_Plain_setTrait_33 : decode me_Plain_setTrait.2.1 33 = .ok (.iload_n 1, 1) := by decide +kernel
theorem d_Plain_setTrait_34 : decode me_Plain_setTrait.2.1 34 = .ok (.iload_n 3, 1) := by decide +kernel
theorem d_Plain_setTrait_35 : decode me_Plain_setTrait.2.1 35 = .ok (.iastore, 1) := by decide +kernel
theorem d_Plain_setTrait_36 : decode me_Plain_setTrait.2.1 36 = .ok (.aload_n 0, 1) := by decide +kernel
theorem d_Plain_setTrait_37 : decode me_Plain_setTrait.2.1 37 = .ok (.invokevirtual 88, 3) := by decide +kernel
theorem d_Plain_setTrait_40 : decode me_Plain_setTrait.2.1 40 = .ok (.return_, 1) := by decide +kernel
noncomputable def f_Plain_setTrait_36   (m0 : gk_M) : Option (Unit × gk_M) :=
  gk_bv (f_Plain_forgetVerdicts  m0) fun m1 =>
  some ((), m1)

theorem s_Plain_setTrait_36 {z : gk_Z} (K : gk_F tx z me_Plain_setTrait 3) {r : Unit} {mem2 : gk_M} : ∀  m0, f_Plain_setTrait_36  m0 = some (r, mem2) → gk_G tx z me_Plain_setTrait (gk_R tx z none mem2) m0 [(0, .ref 7)] [] 36 := by
  intro  m0  h
  unfold f_Plain_setTrait_36 at h
  refine gk_aload_n (pc := 36) K d_Plain_setTrait_36 rfl ?_
  obtain ⟨m1, em1, h⟩ := gk_bv_some h
  refine gk_cVv (As := []) (pc := 37) K d_Plain_setTrait_37 mv_Plain_88 mc_Plain_forgetVerdicts rfl tx_7 cl_ok2.1 (s_Plain_forgetVerdicts (gk_FD K)  em1) (by decide) rfl (Nat.le_of_ble_eq_true rfl) ?_
  exact gk_vret (pc := 40) K d_Plain_setTrait_40 rfl h
noncomputable def f_Plain_setTrait  (a1 : Int32) (a2 : Int32) (a3 : Int32) (m0 : gk_M) : Option (Unit × gk_M) :=
  if ¬ a2 = 0 then
    if ¬ a2 = 1 then
      gk_si m0 12 12 a1 a3 fun m1 =>
      f_Plain_setTrait_36  m1
    else
      gk_si m0 11 12 a1 a3 fun m2 =>
      f_Plain_setTrait_36  m2
  else
    gk_si m0 10 12 a1 a3 fun m3 =>
    f_Plain_setTrait_36  m3

theorem s_Plain_setTrait_0 {z : gk_Z} (K : gk_F tx z me_Plain_setTrait 3) {r : Unit} {mem2 : gk_M} : ∀ a1 a2 a3 m0, f_Plain_setTrait a1 a2 a3 m0 = some (r, mem2) → gk_G tx z me_Plain_setTrait (gk_R tx z none mem2) m0 [(0, .ref 7), (1, .int a1), (2, .int a2), (3, .int a3)] [] 0 := by
  intro a1 a2 a3 m0  h
  unfold f_Plain_setTrait at h
  refine gk_iload_n (pc := 0) K d_Plain_setTrait_0 rfl ?_
  refine gk_if_ne (tgt := 14) (pc := 1) K d_Plain_setTrait_1 (by decide) h (fun h => ?_) (fun h => ?_)
  · refine gk_iload_n (pc := 14) K d_Plain_setTrait_14 rfl ?_
    refine gk_iconst (pc := 15) K d_Plain_setTrait_15 kc_1 ?_
    refine gk_ic_ne (tgt := 29) (pc := 16) K d_Plain_setTrait_16 (by decide) h (fun h => ?_) (fun h => ?_)
    · refine gk_aload_n (pc := 29) K d_Plain_setTrait_29 rfl ?_
      refine gk_get (pc := 30) K d_Plain_setTrait_30 fl_Plain_24 tx_7 rfl rfl ?_
      refine gk_iload_n (pc := 33) K d_Plain_setTrait_33 rfl ?_
      refine gk_iload_n (pc := 34) K d_Plain_setTrait_34 rfl ?_
      refine gk_iast (pc := 35) K d_Plain_setTrait_35 tx_12 h (fun m1 h => ?_)
      exact gk_sub [0] rfl (s_Plain_setTrait_36 K  _  h)
    · refine gk_aload_n (pc := 19) K d_Plain_setTrait_19 rfl ?_
      refine gk_get (pc := 20) K d_Plain_setTrait_20 fl_Plain_21 tx_7 rfl rfl ?_
      refine gk_iload_n (pc := 23) K d_Plain_setTrait_23 rfl ?_
      refine gk_iload_n (pc := 24) K d_Plain_setTrait_24 rfl ?_
      refine gk_iast (pc := 25) K d_Plain_setTrait_25 tx_11 h (fun m2 h => ?_)
      refine gk_goto (tgt := 36) (pc := 26) K d_Plain_setTrait_26 (by decide) ?_
      exact gk_sub [0] rfl (s_Plain_setTrait_36 K  _  h)
  · refine gk_aload_n (pc := 4) K d_Plain_setTrait_4 rfl ?_
    refine gk_get (pc := 5) K d_Plain_setTrait_5 fl_Plain_18 tx_7 rfl rfl ?_
    refine gk_iload_n (pc := 8) K d_Plain_setTrait_8 rfl ?_
    refine gk_iload_n (pc := 9) K d_Plain_setTrait_9 rfl ?_
    refine gk_iast (pc := 10) K d_Plain_setTrait_10 tx_10 h (fun m3 h => ?_)
    refine gk_goto (tgt := 36) (pc := 11) K d_Plain_setTrait_11 (by decide) ?_
    exact gk_sub [0] rfl (s_Plain_setTrait_36 K  _  h)
theorem s_Plain_setTrait {l : Launch} {u : gk_U} (hD : gk_D tx u) {a1 : Int32} {a2 : Int32} {a3 : Int32} {m0 mem2 : gk_M} {r : Unit} (h : f_Plain_setTrait a1 a2 a3 m0 = some (r, mem2)) : gk_C tx l u me_Plain_setTrait 3 [.ref 7, .int a1, .int a2, .int a3] m0 none mem2 :=
  gk_enter hD mc_Plain_setTrait (Nat.le_of_ble_eq_true rfl) rfl (fun z _ _ K => s_Plain_setTrait_0 K _ _ _ _  h)
theorem d_X_mend_0 : decode me_X_mend.2.1 0 = .ok (.aload_n 0, 1) := by decide +kernel
theorem d_X_mend_1 : decode me_X_mend.2.1 1 = .ok (.getfield 28, 3) := by decide +kernel
theorem d_X_mend_4 : decode me_X_mend.2.1 4 = .ok (.iload_n 1, 1) := by decide +kernel
theorem d_X_mend_5 : decode me_X_mend.2.1 5 = .ok (.invokevirtual 147, 3) := by decide +kernel
theorem d_X_mend_8 : decode me_X_mend.2.1 8 = .ok (.ifCond .eq 28, 3) := by decide +kernel
theorem d_X_mend_11 : decode me_X_mend.2.1 11 = .ok (.iload_n 2, 1) := by decide +kernel
theorem d_X_mend_12 : decode me_X_mend.2.1 12 = .ok (.ifCond .lt 24, 3) := by decide +kernel
theorem d_X_mend_15 : decode me_X_mend.2.1 15 = .ok (.iload_n 2, 1) := by decide +kernel
theorem d_X_mend_16 : decode me_X_mend.2.1 16 = .ok (.iconst 2, 1) := by decide +kernel
theorem d_X_mend_17 : decode me_X_mend.2.1 17 = .ok (.if_icmp .gt 19, 3) := by decide +kernel
theorem d_X_mend_20 : decode me_X_mend.2.1 20 = .ok (.iload_n 3, 1) := by decide +kernel
theorem d_X_mend_21 : decode me_X_mend.2.1 21 = .ok (.ifCond .lt 15, 3) := by decide +kernel
theorem d_X_mend_24 : decode me_X_mend.2.1 24 = .ok (.iload_n 3, 1) := by decide +kernel
theorem d_X_mend_25 : decode me_X_mend.2.1 25 = .ok (.aload_n 0, 1) := by decide +kernel
theorem d_X_mend_26 : decode me_X_mend.2.1 26 = .ok (.getfield 28, 3) := by decide +kernel
theorem d_X_mend_29 : decode me_X_mend.2.1 29 = .ok (.iload_n 2, 1) := by decide +kernel
theorem d_X_mend_30 : decode me_X_mend.2.1 30 = .ok (.invokevirtual 150, 3) := by decide +kernel
theorem d_X_mend_33 : decode me_X_mend.2.1 33 = .ok (.if_icmp .le 5, 3) := by decide +kernel
theorem d_X_mend_36 : decode me_X_mend.2.1 36 = .ok (.iconst (-1), 1) := by decide +kernel
theorem d_X_mend_37 : decode me_X_mend.2.1 37 = .ok (.ireturn, 1) := by decide +kernel
theorem d_X_mend_38 : decode me_X_mend.2.1 38 = .ok (.aload_n 0, 1) := by decide +kernel
theorem d_X_mend_39 : decode me_X_mend.2.1 39 = .ok (.getfield 28, 3) := by decide +kernel
theorem d_X_mend_42 : decode me_X_mend.2.1 42 = .ok (.iload_n 1, 1) := by decide +kernel
theorem d_X_mend_43 : decode me_X_mend.2.1 43 = .ok (.iload_n 2, 1) := by decide +kernel
theorem d_X_mend_44 : decode me_X_mend.2.1 44 = .ok (.invokevirtual 153, 3) := by decide +kernel
theorem d_X_mend_47 : decode me_X_mend.2.1 47 = .ok (.istore 4, 2) := by decide +kernel
theorem d_X_mend_49 : decode me_X_mend.2.1 49 = .ok (.iload 4, 2) := by decide +kernel
theorem d_X_mend_51 : decode me_X_mend.2.1 51 = .ok (.iload_n 3, 1) := by decide +kernel
theorem d_X_mend_52 : decode me_X_mend.2.1 52 = .ok (.if_icmp .eq 25, 3) := by decide +kernel
theorem d_X_mend_55 : decode me_X_mend.2.1 55 = .ok (.aload_n 0, 1) := by decide +kernel
theorem d_X_mend_56 : decode me_X_mend.2.1 56 = .ok (.getfield 58, 3) := by decide +kernel
theorem d_X_mend_59 : decode me_X_mend.2.1 59 = .ok (.iload_n 1, 1) := by decide +kernel
theorem d_X_mend_60 : decode me_X_mend.2.1 60 = .ok (.iload_n 2, 1) := by decide +kernel
theorem d_X_mend_61 : decode me_X_mend.2.1 61 = .ok (.iload 4, 2) := by decide +kernel
theorem d_X_mend_63 : decode me_X_mend.2.1 63 = .ok (.iload_n 3, 1) := by decide +kernel
theorem d_X_mend_64 : decode me_X_mend.2.1 64 = .ok (.invokevirtual 156, 3) := by decide +kernel
theorem d_X_mend_67 : decode me_X_mend.2.1 67 = .ok (.aload_n 0, 1) := by decide +kernel
theorem d_X_mend_68 : decode me_X_mend.2.1 68 = .ok (.getfield 28, 3) := by decide +kernel
theorem d_X_mend_71 : decode me_X_mend.2.1 71 = .ok (.iload_n 1, 1) := by decide +kernel
theorem d_X_mend_72 : decode me_X_mend.2.1 72 = .ok (.iload_n 2, 1) := by decide +kernel
theorem d_X_mend_73 : decode me_X_mend.2.1 73 = .ok (.iload_n 3, 1) := by decide +kernel
theorem d_X_mend_74 : decode me_X_mend.2.1 74 = .ok (.invokevirtual 160, 3) := by decide +kernel
theorem d_X_mend_77 : decode me_X_mend.2.1 77 = .ok (.iload 4, 2) := by decide +kernel
theorem d_X_mend_79 : decode me_X_mend.2.1 79 = .ok (.ireturn, 1) := by decide +kernel
noncomputable def f_X_mend  (a1 : Int32) (a2 : Int32) (a3 : Int32) (m0 : gk_M) : Option (Int32 × gk_M) :=
  gk_bi (f_Plain_isTower a1 m0) fun v2 m1 =>
  if v2 = 0 then
    some ((-1), m1)
  else
    if a2 < 0 then
      some ((-1), m1)
    else
      if 2 < a2 then
        some ((-1), m1)
      else
        if a3 < 0 then
          some ((-1), m1)
        else
          gk_bi (f_Plain_most a2 m1) fun v4 m3 =>
          if a3 ≤ v4 then
            gk_bi (f_Plain_trait a1 a2 m3) fun v6 m5 =>
            if v6 = a3 then
              some (v6, m5)
            else
              gk_bv (f_History_note a1 a2 v6 a3 m5) fun m7 =>
              gk_bv (f_Plain_setTrait a1 a2 a3 m7) fun m8 =>
              some (v6, m8)
          else
            some ((-1), m3)

theorem s_X_mend_0 {z : gk_Z} (K : gk_F tx z me_X_mend 4) {r : Int32} {mem2 : gk_M} : ∀ a1 a2 a3 m0, f_X_mend a1 a2 a3 m0 = some (r, mem2) → gk_G tx z me_X_mend (gk_R tx z (some (.int r)) mem2) m0 [(0, .ref 0), (1, .int a1), (2, .int a2), (3, .int a3)] [] 0 := by
  intro a1 a2 a3 m0  h
  unfold f_X_mend at h
  refine gk_aload_n (pc := 0) K d_X_mend_0 rfl ?_
  refine gk_get (pc := 1) K d_X_mend_1 fl_X_28 tx_0 rfl rfl ?_
  refine gk_iload_n (pc := 4) K d_X_mend_4 rfl ?_
  obtain ⟨v2, m1, em1, h⟩ := gk_bi_some h
  refine gk_cVi (As := [.int a1]) (pc := 5) K d_X_mend_5 mv_X_147 mc_Plain_isTower rfl tx_7 cl_ok2.1 (s_Plain_isTower (gk_FD K)  em1) (by decide) rfl (Nat.le_of_ble_eq_true rfl) ?_
  refine gk_if_eq (tgt := 36) (pc := 8) K d_X_mend_8 (by decide) h (fun h => ?_) (fun h => ?_)
  · refine gk_iconst (pc := 36) K d_X_mend_36 kc_m1 ?_
    exact gk_iret (pc := 37) K d_X_mend_37 rfl h
  · refine gk_iload_n (pc := 11) K d_X_mend_11 rfl ?_
    refine gk_if_lt (tgt := 36) (pc := 12) K d_X_mend_12 (by decide) h (fun h => ?_) (fun h => ?_)
    · refine gk_iconst (pc := 36) K d_X_mend_36 kc_m1 ?_
      exact gk_iret (pc := 37) K d_X_mend_37 rfl h
    · refine gk_iload_n (pc := 15) K d_X_mend_15 rfl ?_
      refine gk_iconst (pc := 16) K d_X_mend_16 kc_2 ?_
      refine gk_ic_gt (tgt := 36) (pc := 17) K d_X_mend_17 (by decide) h (fun h => ?_) (fun h => ?_)
      · refine gk_iconst (pc := 36) K d_X_mend_36 kc_m1 ?_
        exact gk_iret (pc := 37) K d_X_mend_37 rfl h
      · refine gk_iload_n (pc := 20) K d_X_mend_20 rfl ?_
        refine gk_if_lt (tgt := 36) (pc := 21) K d_X_mend_21 (by decide) h (fun h => ?_) (fun h => ?_)
        · refine gk_iconst (pc := 36) K d_X_mend_36 kc_m1 ?_
          exact gk_iret (pc := 37) K d_X_mend_37 rfl h
        · refine gk_iload_n (pc := 24) K d_X_mend_24 rfl ?_
          refine gk_aload_n (pc := 25) K d_X_mend_25 rfl ?_
          refine gk_get (pc := 26) K d_X_mend_26 fl_X_28 tx_0 rfl rfl ?_
          refine gk_iload_n (pc := 29) K d_X_mend_29 rfl ?_
          obtain ⟨v4, m3, em3, h⟩ := gk_bi_some h
          refine gk_cVi (As := [.int a2]) (pc := 30) K d_X_mend_30 mv_X_150 mc_Plain_most rfl tx_7 cl_ok2.1 (s_Plain_most (gk_FD K)  em3) (by decide) rfl (Nat.le_of_ble_eq_true rfl) ?_
          refine gk_ic_le (tgt := 38) (pc := 33) K d_X_mend_33 (by decide) h (fun h => ?_) (fun h => ?_)
          · refine gk_aload_n (pc := 38) K d_X_mend_38 rfl ?_
            refine gk_get (pc := 39) K d_X_mend_39 fl_X_28 tx_0 rfl rfl ?_
            refine gk_iload_n (pc := 42) K d_X_mend_42 rfl ?_
            refine gk_iload_n (pc := 43) K d_X_mend_43 rfl ?_
            obtain ⟨v6, m5, em5, h⟩ := gk_bi_some h
            refine gk_cVi (As := [.int a1, .int a2]) (pc := 44) K d_X_mend_44 mv_X_153 mc_Plain_trait rfl tx_7 cl_ok2.1 (s_Plain_trait (gk_FD K)  em5) (by decide) rfl (Nat.le_of_ble_eq_true rfl) ?_
            refine gk_istore (lv2 := [(4, .int v6), (0, .ref 0), (1, .int a1), (2, .int a2), (3, .int a3)]) (pc := 47) K d_X_mend_47 (by decide) rfl ?_
            refine gk_iload (pc := 49) K d_X_mend_49 rfl ?_
            refine gk_iload_n (pc := 51) K d_X_mend_51 rfl ?_
            refine gk_ic_eq (tgt := 77) (pc := 52) K d_X_mend_52 (by decide) h (fun h => ?_) (fun h => ?_)
            · refine gk_iload (pc := 77) K d_X_mend_77 rfl ?_
              exact gk_iret (pc := 79) K d_X_mend_79 rfl h
            · refine gk_aload_n (pc := 55) K d_X_mend_55 rfl ?_
              refine gk_get (pc := 56) K d_X_mend_56 fl_X_58 tx_0 rfl rfl ?_
              refine gk_iload_n (pc := 59) K d_X_mend_59 rfl ?_
              refine gk_iload_n (pc := 60) K d_X_mend_60 rfl ?_
              refine gk_iload (pc := 61) K d_X_mend_61 rfl ?_
              refine gk_iload_n (pc := 63) K d_X_mend_63 rfl ?_
              obtain ⟨m7, em7, h⟩ := gk_bv_some h
              refine gk_cVv (As := [.int a1, .int a2, .int v6, .int a3]) (pc := 64) K d_X_mend_64 mv_X_156 mc_History_note rfl tx_32 cl_ok6.1 (s_History_note (gk_FD K)  em7) (by decide) rfl (Nat.le_of_ble_eq_true rfl) ?_
              refine gk_aload_n (pc := 67) K d_X_mend_67 rfl ?_
              refine gk_get (pc := 68) K d_X_mend_68 fl_X_28 tx_0 rfl rfl ?_
              refine gk_iload_n (pc := 71) K d_X_mend_71 rfl ?_
              refine gk_iload_n (pc := 72) K d_X_mend_72 rfl ?_
              refine gk_iload_n (pc := 73) K d_X_mend_73 rfl ?_
              obtain ⟨m8, em8, h⟩ := gk_bv_some h
              refine gk_cVv (As := [.int a1, .int a2, .int a3]) (pc := 74) K d_X_mend_74 mv_X_160 mc_Plain_setTrait rfl tx_7 cl_ok2.1 (s_Plain_setTrait (gk_FD K)  em8) (by decide) rfl (Nat.le_of_ble_eq_true rfl) ?_
              refine gk_iload (pc := 77) K d_X_mend_77 rfl ?_
              exact gk_iret (pc := 79) K d_X_mend_79 rfl h
          · refine gk_iconst (pc := 36) K d_X_mend_36 kc_m1 ?_
            exact gk_iret (pc := 37) K d_X_mend_37 rfl h
theorem s_X_mend {l : Launch} {u : gk_U} (hD : gk_D tx u) {a1 : Int32} {a2 : Int32} {a3 : Int32} {m0 mem2 : gk_M} {r : Int32} (h : f_X_mend a1 a2 a3 m0 = some (r, mem2)) : gk_C tx l u me_X_mend 4 [.ref 0, .int a1, .int a2, .int a3] m0 (some (.int r)) mem2 :=
  gk_enter hD mc_X_mend (Nat.le_of_ble_eq_true rfl) rfl (fun z _ _ K => s_X_mend_0 K _ _ _ _  h)
theorem d_X_towerTells_0 : decode me_X_towerTells.2.1 0 = .ok (.iload_n 2, 1) := by decide +kernel
theorem d_X_towerTells_1 : decode me_X_towerTells.2.1 1 = .ok (.ifCond .ne 14, 3) := by decide +kernel
theorem d_X_towerTells_4 : decode me_X_towerTells.2.1 4 = .ok (.aload_n 0, 1) := by decide +kernel
theorem d_X_towerTells_5 : decode me_X_towerTells.2.1 5 = .ok (.getfield 28, 3) := by decide +kernel
theorem d_X_towerTells_8 : decode me_X_towerTells.2.1 8 = .ok (.iload_n 1, 1) := by decide +kernel
theorem d_X_towerTells_9 : decode me_X_towerTells.2.1 9 = .ok (.invokevirtual 167, 3) := by decide +kernel
theorem d_X_towerTells_12 : decode me_X_towerTells.2.1 12 = .ok (.goto 14, 3) := by decide +kernel
theorem d_X_towerTells_15 : decode me_X_towerTells.2.1 15 = .ok (.aload_n 0, 1) := by decide +kernel
theorem d_X_towerTells_16 : decode me_X_towerTells.2.1 16 = .ok (.getfield 28, 3) := by decide +kernel
theorem d_X_towerTells_19 : decode me_X_towerTells.2.1 19 = .ok (.iload_n 1, 1) := by decide +kernel
theorem d_X_towerTells_20 : decode me_X_towerTells.2.1 20 = .ok (.iload_n 2, 1) := by decide +kernel
theorem d_X_towerTells_21 : decode me_X_towerTells.2.1 21 = .ok (.iconst 1, 1) := by decide +kernel
theorem d_X_towerTells_22 : decode me_X_towerTells.2.1 22 = .ok (.isub, 1) := by decide +kernel
theorem d_X_towerTells_23 : decode me_X_towerTells.2.1 23 = .ok (.invokevirtual 153, 3) := by decide +kernel
theorem d_X_towerTells_26 : decode me_X_towerTells.2.1 26 = .ok (.ireturn, 1) := by decide +kernel
noncomputable def f_X_towerTells  (a1 : Int32) (a2 : Int32) (m0 : gk_M) : Option (Int32 × gk_M) :=
  if ¬ a2 = 0 then
    gk_bi (f_Plain_trait a1 (a2 - 1) m0) fun v2 m1 =>
    some (v2, m1)
  else
    gk_bi (f_Plain_pointOf a1 m0) fun v4 m3 =>
    some (v4, m3)

theorem s_X_towerTells_0 {z : gk_Z} (K : gk_F tx z me_X_towerTells 2) {r : Int32} {mem2 : gk_M} : ∀ a1 a2 m0, f_X_towerTells a1 a2 m0 = some (r, mem2) → gk_G tx z me_X_towerTells (gk_R tx z (some (.int r)) mem2) m0 [(0, .ref 0), (1, .int a1), (2, .int a2)] [] 0 := by
  intro a1 a2 m0  h
  unfold f_X_towerTells at h
  refine gk_iload_n (pc := 0) K d_X_towerTells_0 rfl ?_
  refine gk_if_ne (tgt := 15) (pc := 1) K d_X_towerTells_1 (by decide) h (fun h => ?_) (fun h => ?_)
  · refine gk_aload_n (pc := 15) K d_X_towerTells_15 rfl ?_
    refine gk_get (pc := 16) K d_X_towerTells_16 fl_X_28 tx_0 rfl rfl ?_
    refine gk_iload_n (pc := 19) K d_X_towerTells_19 rfl ?_
    refine gk_iload_n (pc := 20) K d_X_towerTells_20 rfl ?_
    refine gk_iconst (pc := 21) K d_X_towerTells_21 kc_1 ?_
    refine gk_isub (pc := 22) K d_X_towerTells_22 ?_
    obtain ⟨v2, m1, em1, h⟩ := gk_bi_some h
    refine gk_cVi (As := [.int a1, .int (a2 - 1)]) (pc := 23) K d_X_towerTells_23 mv_X_153 mc_Plain_trait rfl tx_7 cl_ok2.1 (s_Plain_trait (gk_FD K)  em1) (by decide) rfl (Nat.le_of_ble_eq_true rfl) ?_
    exact gk_iret (pc := 26) K d_X_towerTells_26 rfl h
  · refine gk_aload_n (pc := 4) K d_X_towerTells_4 rfl ?_
    refine gk_get (pc := 5) K d_X_towerTells_5 fl_X_28 tx_0 rfl rfl ?_
    refine gk_iload_n (pc := 8) K d_X_towerTells_8 rfl ?_
    obtain ⟨v4, m3, em3, h⟩ := gk_bi_some h
    refine gk_cVi (As := [.int a1]) (pc := 9) K d_X_towerTells_9 mv_X_167 mc_Plain_pointOf rfl tx_7 cl_ok2.1 (s_Plain_pointOf (gk_FD K)  em3) (by decide) rfl (Nat.le_of_ble_eq_true rfl) ?_
    refine gk_goto (tgt := 26) (pc := 12) K d_X_towerTells_12 (by decide) ?_
    exact gk_iret (pc := 26) K d_X_towerTells_26 rfl h
theorem s_X_towerTells {l : Launch} {u : gk_U} (hD : gk_D tx u) {a1 : Int32} {a2 : Int32} {m0 mem2 : gk_M} {r : Int32} (h : f_X_towerTells a1 a2 m0 = some (r, mem2)) : gk_C tx l u me_X_towerTells 2 [.ref 0, .int a1, .int a2] m0 (some (.int r)) mem2 :=
  gk_enter hD mc_X_towerTells (Nat.le_of_ble_eq_true rfl) rfl (fun z _ _ K => s_X_towerTells_0 K _ _ _  h)
theorem d_X_of_0 : decode me_X_of.2.1 0 = .ok (.iload_n 2, 1) := by decide +kernel
theorem d_X_of_1 : decode me_X_of.2.1 1 = .ok (.ifCond .lt 30, 3) := by decide +kernel
theorem d_X_of_4 : decode me_X_of.2.1 4 = .ok (.iload_n 2, 1) := by decide +kernel
theorem d_X_of_5 : decode me_X_of.2.1 5 = .ok (.iconst 3, 1) := by decide +kernel
theorem d_X_of_6 : decode me_X_of.2.1 6 = .ok (.if_icmp .gt 25, 3) := by decide +kernel
theorem d_X_of_9 : decode me_X_of.2.1 9 = .ok (.aload_n 0, 1) := by decide +kernel
theorem d_X_of_10 : decode me_X_of.2.1 10 = .ok (.getfield 28, 3) := by decide +kernel
theorem d_X_of_13 : decode me_X_of.2.1 13 = .ok (.iload_n 1, 1) := by decide +kernel
theorem d_X_of_14 : decode me_X_of.2.1 14 = .ok (.invokevirtual 147, 3) := by decide +kernel
theorem d_X_of_17 : decode me_X_of.2.1 17 = .ok (.ifCond .eq 12, 3) := by decide +kernel
theorem d_X_of_20 : decode me_X_of.2.1 20 = .ok (.aload_n 0, 1) := by decide +kernel
theorem d_X_of_21 : decode me_X_of.2.1 21 = .ok (.iload_n 1, 1) := by decide +kernel
theorem d_X_of_22 : decode me_X_of.2.1 22 = .ok (.iload_n 2, 1) := by decide +kernel
theorem d_X_of_23 : decode me_X_of.2.1 23 = .ok (.invokevirtual 164, 3) := by decide +kernel
theorem d_X_of_26 : decode me_X_of.2.1 26 = .ok (.goto 4, 3) := by decide +kernel
theorem d_X_of_29 : decode me_X_of.2.1 29 = .ok (.iconst (-1), 1) := by decide +kernel
theorem d_X_of_30 : decode me_X_of.2.1 30 = .ok (.ireturn, 1) := by decide +kernel
theorem d_X_of_31 : decode me_X_of.2.1 31 = .ok (.aload_n 0, 1) := by decide +kernel
theorem d_X_of_32 : decode me_X_of.2.1 32 = .ok (.getfield 28, 3) := by decide +kernel
theorem d_X_of_35 : decode me_X_of.2.1 35 = .ok (.iload_n 1, 1) := by decide +kernel
theorem d_X_of_36 : decode me_X_of.2.1 36 = .ok (.invokevirtual 106, 3) := by decide +kernel
theorem d_X_of_39 : decode me_X_of.2.1 39 = .ok (.ifCond .ne 5, 3) := by decide +kernel
theorem d_X_of_42 : decode me_X_of.2.1 42 = .ok (.iconst (-1), 1) := by decide +kernel
theorem d_X_of_43 : decode me_X_of.2.1 43 = .ok (.ireturn, 1) := by decide +kernel
theorem d_X_of_44 : decode me_X_of.2.1 44 = .ok (.iload_n 2, 1) := by decide +kernel
theorem d_X_of_45 : decode me_X_of.2.1 45 = .ok (.bipush 10, 2) := by decide +kernel
theorem d_X_of_47 : decode me_X_of.2.1 47 = .ok (.if_icmp .ne 13, 3) := by decide +kernel
theorem d_X_of_50 : decode me_X_of.2.1 50 = .ok (.aload_n 0, 1) := by decide +kernel
theorem d_X_of_51 : decode me_X_of.2.1 51 = .ok (.getfield 28, 3) := by decide +kernel
theorem d_X_of_54 : decode me_X_of.2.1 54 = .ok (.getfield 109, 3) := by decide +kernel
theorem d_X_of_57 : decode me_X_of.2.1 57 = .ok (.iload_n 1, 1) := by decide +kernel
theorem d_X_of_58 : decode me_X_of.2.1 58 = .ok (.iaload, 1) := by decide +kernel
theorem d_X_of_59 : decode me_X_of.2.1 59 = .ok (.ireturn, 1) := by decide +kernel
theorem d_X_of_60 : decode me_X_of.2.1 60 = .ok (.iload_n 2, 1) := by decide +kernel
theorem d_X_of_61 : decode me_X_of.2.1 61 = .ok (.bipush 20, 2) := by decide +kernel
theorem d_X_of_63 : decode me_X_of.2.1 63 = .ok (.if_icmp .lt 19, 3) := by decide +kernel
theorem d_X_of_66 : decode me_X_of.2.1 66 = .ok (.iload_n 2, 1) := by decide +kernel
theorem d_X_of_67 : decode me_X_of.2.1 67 = .ok (.bipush 20, 2) := by decide +kernel
theorem d_X_of_69 : decode me_X_of.2.1 69 = .ok (.aload_n 0, 1) := by decide +kernel
theorem d_X_of_70 : decode me_X_of.2.1 70 = .ok (.getfield 28, 3) := by decide +kernel
theorem d_X_of_73 : decode me_X_of.2.1 73 = .ok (.getfield 109, 3) := by decide +kernel
theorem d_X_of_76 : decode me_X_of.2.1 76 = .ok (.iload_n 1, 1) := by decide +kernel
theorem d_X_of_77 : decode me_X_of.2.1 77 = .ok (.iaload, 1) := by decide +kernel
theorem d_X_of_78 : decode me_X_of.2.1 78 = .ok (.iadd, 1) := by decide +kernel
theorem d_X_of_79 : decode me_X_of.2.1 79 = .ok (.if_icmp .lt 5, 3) := by decide +kernel
theorem d_X_of_82 : decode me_X_of.2.1 82 = .ok (.iconst (-1), 1) := by decide +kernel
theorem d_X_of_83 : decode me_X_of.2.1 83 = .ok (.ireturn, 1) := by decide +kernel
theorem d_X_of_84 : decode me_X_of.2.1 84 = .ok (.aload_n 0, 1) := by decide +kernel
theorem d_X_of_85 : decode me_X_of.2.1 85 = .ok (.getfield 28, 3) := by decide +kernel
theorem d_X_of_88 : decode me_X_of.2.1 88 = .ok (.iload_n 1, 1) := by decide +kernel
theorem d_X_of_89 : decode me_X_of.2.1 89 = .ok (.iload_n 2, 1) := by decide +kernel
theorem d_X_of_90 : decode me_X_of.2.1 90 = .ok (.bipush 20, 2) := by decide +kernel
theorem d_X_of_92 : decode me_X_of.2.1 92 = .ok (.isub, 1) := by decide +kernel
theorem d_X_of_93 : decode me_X_of.2.1 93 = .ok (.invokevirtual 113, 3) := by decide +kernel
theorem d_X_of_96 : decode me_X_of.2.1 96 = .ok (.ireturn, 1) := by decide +kernel
noncomputable def f_X_of_31  (a1 : Int32) (a2 : Int32) (m0 : gk_M) : Option (Int32 × gk_M) :=
  gk_bi (f_Plain_isRoad a1 m0) fun v2 m1 =>
  if ¬ v2 = 0 then
    if ¬ a2 = 10 then
      if a2 < 20 then
        some ((-1), m1)
      else
        gk_ai m1 13 4 a1 fun v3 =>
        if a2 < (20 + v3) then
          gk_bi (f_Plain_cornerAt a1 (a2 - 20) m1) fun v5 m4 =>
          some (v5, m4)
        else
          some ((-1), m1)
    else
      gk_ai m1 13 4 a1 fun v6 =>
      some (v6, m1)
  else
    some ((-1), m1)

theorem s_X_of_31 {z : gk_Z} (K : gk_F tx z me_X_of 3) {r : Int32} {mem2 : gk_M} : ∀ a1 a2 m0, f_X_of_31 a1 a2 m0 = some (r, mem2) → gk_G tx z me_X_of (gk_R tx z (some (.int r)) mem2) m0 [(0, .ref 0), (1, .int a1), (2, .int a2)] [] 31 := by
  intro a1 a2 m0  h
  unfold f_X_of_31 at h
  refine gk_aload_n (pc := 31) K d_X_of_31 rfl ?_
  refine gk_get (pc := 32) K d_X_of_32 fl_X_28 tx_0 rfl rfl ?_
  refine gk_iload_n (pc := 35) K d_X_of_35 rfl ?_
  obtain ⟨v2, m1, em1, h⟩ := gk_bi_some h
  refine gk_cVi (As := [.int a1]) (pc := 36) K d_X_of_36 mv_X_106 mc_Plain_isRoad rfl tx_7 cl_ok2.1 (s_Plain_isRoad (gk_FD K)  em1) (by decide) rfl (Nat.le_of_ble_eq_true rfl) ?_
  refine gk_if_ne (tgt := 44) (pc := 39) K d_X_of_39 (by decide) h (fun h => ?_) (fun h => ?_)
  · refine gk_iload_n (pc := 44) K d_X_of_44 rfl ?_
    refine gk_bipush (pc := 45) K d_X_of_45 kb_10 ?_
    refine gk_ic_ne (tgt := 60) (pc := 47) K d_X_of_47 (by decide) h (fun h => ?_) (fun h => ?_)
    · refine gk_iload_n (pc := 60) K d_X_of_60 rfl ?_
      refine gk_bipush (pc := 61) K d_X_of_61 kb_20 ?_
      refine gk_ic_lt (tgt := 82) (pc := 63) K d_X_of_63 (by decide) h (fun h => ?_) (fun h => ?_)
      · refine gk_iconst (pc := 82) K d_X_of_82 kc_m1 ?_
        exact gk_iret (pc := 83) K d_X_of_83 rfl h
      · refine gk_iload_n (pc := 66) K d_X_of_66 rfl ?_
        refine gk_bipush (pc := 67) K d_X_of_67 kb_20 ?_
        refine gk_aload_n (pc := 69) K d_X_of_69 rfl ?_
        refine gk_get (pc := 70) K d_X_of_70 fl_X_28 tx_0 rfl rfl ?_
        refine gk_get (pc := 73) K d_X_of_73 fl_X_109 tx_7 rfl rfl ?_
        refine gk_iload_n (pc := 76) K d_X_of_76 rfl ?_
        refine gk_iald (pc := 77) K d_X_of_77 tx_13 h (fun v3 h => ?_)
        refine gk_iadd (pc := 78) K d_X_of_78 ?_
        refine gk_ic_lt (tgt := 84) (pc := 79) K d_X_of_79 (by decide) h (fun h => ?_) (fun h => ?_)
        · refine gk_aload_n (pc := 84) K d_X_of_84 rfl ?_
          refine gk_get (pc := 85) K d_X_of_85 fl_X_28 tx_0 rfl rfl ?_
          refine gk_iload_n (pc := 88) K d_X_of_88 rfl ?_
          refine gk_iload_n (pc := 89) K d_X_of_89 rfl ?_
          refine gk_bipush (pc := 90) K d_X_of_90 kb_20 ?_
          refine gk_isub (pc := 92) K d_X_of_92 ?_
          obtain ⟨v5, m4, em4, h⟩ := gk_bi_some h
          refine gk_cVi (As := [.int a1, .int (a2 - 20)]) (pc := 93) K d_X_of_93 mv_X_113 mc_Plain_cornerAt rfl tx_7 cl_ok2.1 (s_Plain_cornerAt (gk_FD K)  em4) (by decide) rfl (Nat.le_of_ble_eq_true rfl) ?_
          exact gk_iret (pc := 96) K d_X_of_96 rfl h
        · refine gk_iconst (pc := 82) K d_X_of_82 kc_m1 ?_
          exact gk_iret (pc := 83) K d_X_of_83 rfl h
    · refine gk_aload_n (pc := 50) K d_X_of_50 rfl ?_
      refine gk_get (pc := 51) K d_X_of_51 fl_X_28 tx_0 rfl rfl ?_
      refine gk_get (pc := 54) K d_X_of_54 fl_X_109 tx_7 rfl rfl ?_
      refine gk_iload_n (pc := 57) K d_X_of_57 rfl ?_
      refine gk_iald (pc := 58) K d_X_of_58 tx_13 h (fun v6 h => ?_)
      exact gk_iret (pc := 59) K d_X_of_59 rfl h
  · refine gk_iconst (pc := 42) K d_X_of_42 kc_m1 ?_
    exact gk_iret (pc := 43) K d_X_of_43 rfl h
noncomputable def f_X_of  (a1 : Int32) (a2 : Int32) (m0 : gk_M) : Option (Int32 × gk_M) :=
  if a2 < 0 then
    f_X_of_31 a1 a2 m0
  else
    if 3 < a2 then
      f_X_of_31 a1 a2 m0
    else
      gk_bi (f_Plain_isTower a1 m0) fun v2 m1 =>
      if v2 = 0 then
        some ((-1), m1)
      else
        gk_bi (f_X_towerTells a1 a2 m1) fun v4 m3 =>
        some (v4, m3)

theorem s_X_of_0 {z : gk_Z} (K : gk_F tx z me_X_of 3) {r : Int32} {mem2 : gk_M} : ∀ a1 a2 m0, f_X_of a1 a2 m0 = some (r, mem2) → gk_G tx z me_X_of (gk_R tx z (some (.int r)) mem2) m0 [(0, .ref 0), (1, .int a1), (2, .int a2)] [] 0 := by
  intro a1 a2 m0  h
  unfold f_X_of at h
  refine gk_iload_n (pc := 0) K d_X_of_0 rfl ?_
  refine gk_if_lt (tgt := 31) (pc := 1) K d_X_of_1 (by decide) h (fun h => ?_) (fun h => ?_)
  · exact gk_sub [0, 1, 2] rfl (s_X_of_31 K _ _ _  h)
  · refine gk_iload_n (pc := 4) K d_X_of_4 rfl ?_
    refine gk_iconst (pc := 5) K d_X_of_5 kc_3 ?_
    refine gk_ic_gt (tgt := 31) (pc := 6) K d_X_of_6 (by decide) h (fun h => ?_) (fun h => ?_)
    · exact gk_sub [0, 1, 2] rfl (s_X_of_31 K _ _ _  h)
    · refine gk_aload_n (pc := 9) K d_X_of_9 rfl ?_
      refine gk_get (pc := 10) K d_X_of_10 fl_X_28 tx_0 rfl rfl ?_
      refine gk_iload_n (pc := 13) K d_X_of_13 rfl ?_
      obtain ⟨v2, m1, em1, h⟩ := gk_bi_some h
      refine gk_cVi (As := [.int a1]) (pc := 14) K d_X_of_14 mv_X_147 mc_Plain_isTower rfl tx_7 cl_ok2.1 (s_Plain_isTower (gk_FD K)  em1) (by decide) rfl (Nat.le_of_ble_eq_true rfl) ?_
      refine gk_if_eq (tgt := 29) (pc := 17) K d_X_of_17 (by decide) h (fun h => ?_) (fun h => ?_)
      · refine gk_iconst (pc := 29) K d_X_of_29 kc_m1 ?_
        exact gk_iret (pc := 30) K d_X_of_30 rfl h
      · refine gk_aload_n (pc := 20) K d_X_of_20 rfl ?_
        refine gk_iload_n (pc := 21) K d_X_of_21 rfl ?_
        refine gk_iload_n (pc := 22) K d_X_of_22 rfl ?_
        obtain ⟨v4, m3, em3, h⟩ := gk_bi_some h
        refine gk_cVi (As := [.int a1, .int a2]) (pc := 23) K d_X_of_23 mv_X_164 mc_X_towerTells rfl tx_0 cl_ok9.1 (s_X_towerTells (gk_FD K)  em3) (by decide) rfl (Nat.le_of_ble_eq_true rfl) ?_
        refine gk_goto (tgt := 30) (pc := 26) K d_X_of_26 (by decide) ?_
        exact gk_iret (pc := 30) K d_X_of_30 rfl h
theorem s_X_of {l : Launch} {u : gk_U} (hD : gk_D tx u) {a1 : Int32} {a2 : Int32} {m0 mem2 : gk_M} {r : Int32} (h : f_X_of a1 a2 m0 = some (r, mem2)) : gk_C tx l u me_X_of 3 [.ref 0, .int a1, .int a2] m0 (some (.int r)) mem2 :=
  gk_enter hD mc_X_of (Nat.le_of_ble_eq_true rfl) rfl (fun z _ _ K => s_X_of_0 K _ _ _  h)
theorem d_X_isPair_0 : decode me_X_isPair.2.1 0 = .ok (.iload_n 1, 1) := by decide +kernel
theorem d_X_isPair_1 : decode me_X_isPair.2.1 1 = .ok (.ifCond .lt 46, 3) := by decide +kernel
theorem d_X_isPair_4 : decode me_X_isPair.2.1 4 = .ok (.iload_n 1, 1) := by decide +kernel
theorem d_X_isPair_5 : decode me_X_isPair.2.1 5 = .ok (.bipush 10, 2) := by decide +kernel
theorem d_X_isPair_7 : decode me_X_isPair.2.1 7 = .ok (.idiv, 1) := by decide +kernel
theorem d_X_isPair_8 : decode me_X_isPair.2.1 8 = .ok (.iload_n 1, 1) := by decide +kernel
theorem d_X_isPair_9 : decode me_X_isPair.2.1 9 = .ok (.bipush 10, 2) := by decide +kernel
theorem d_X_isPair_11 : decode me_X_isPair.2.1 11 = .ok (.irem, 1) := by decide +kernel
theorem d_X_isPair_12 : decode me_X_isPair.2.1 12 = .ok (.if_icmp .eq 35, 3) := by decide +kernel
theorem d_X_isPair_15 : decode me_X_isPair.2.1 15 = .ok (.aload_n 0, 1) := by decide +kernel
theorem d_X_isPair_16 : decode me_X_isPair.2.1 16 = .ok (.getfield 28, 3) := by decide +kernel
theorem d_X_isPair_19 : decode me_X_isPair.2.1 19 = .ok (.iload_n 1, 1) := by decide +kernel
theorem d_X_isPair_20 : decode me_X_isPair.2.1 20 = .ok (.bipush 10, 2) := by decide +kernel
theorem d_X_isPair_22 : decode me_X_isPair.2.1 22 = .ok (.idiv, 1) := by decide +kernel
theorem d_X_isPair_23 : decode me_X_isPair.2.1 23 = .ok (.invokevirtual 147, 3) := by decide +kernel
theorem d_X_isPair_26 : decode me_X_isPair.2.1 26 = .ok (.ifCond .eq 21, 3) := by decide +kernel
theorem d_X_isPair_29 : decode me_X_isPair.2.1 29 = .ok (.aload_n 0, 1) := by decide +kernel
theorem d_X_isPair_30 : decode me_X_isPair.2.1 30 = .ok (.getfield 28, 3) := by decide +kernel
theorem d_X_isPair_33 : decode me_X_isPair.2.1 33 = .ok (.iload_n 1, 1) := by decide +kernel
theorem d_X_isPair_34 : decode me_X_isPair.2.1 34 = .ok (.bipush 10, 2) := by decide +kernel
theorem d_X_isPair_36 : decode me_X_isPair.2.1 36 = .ok (.irem, 1) := by decide +kernel
theorem d_X_isPair_37 : decode me_X_isPair.2.1 37 = .ok (.invokevirtual 147, 3) := by decide +kernel
theorem d_X_isPair_40 : decode me_X_isPair.2.1 40 = .ok (.ifCond .eq 7, 3) := by decide +kernel
theorem d_X_isPair_43 : decode me_X_isPair.2.1 43 = .ok (.iconst 1, 1) := by decide +kernel
theorem d_X_isPair_44 : decode me_X_isPair.2.1 44 = .ok (.goto 4, 3) := by decide +kernel
theorem d_X_isPair_47 : decode me_X_isPair.2.1 47 = .ok (.iconst 0, 1) := by decide +kernel
theorem d_X_isPair_48 : decode me_X_isPair.2.1 48 = .ok (.ireturn, 1) := by decide +kernel
noncomputable def f_X_isPair  (a1 : Int32) (m0 : gk_M) : Option (Int32 × gk_M) :=
  if a1 < 0 then
    some (0, m0)
  else
    if (a1 / 10) = (gk_rem a1 10) then
      some (0, m0)
    else
      gk_bi (f_Plain_isTower (a1 / 10) m0) fun v2 m1 =>
      if v2 = 0 then
        some (0, m1)
      else
        gk_bi (f_Plain_isTower (gk_rem a1 10) m1) fun v4 m3 =>
        if v4 = 0 then
          some (0, m3)
        else
          some (1, m3)

theorem s_X_isPair_0 {z : gk_Z} (K : gk_F tx z me_X_isPair 2) {r : Int32} {mem2 : gk_M} : ∀ a1 m0, f_X_isPair a1 m0 = some (r, mem2) → gk_G tx z me_X_isPair (gk_R tx z (some (.int r)) mem2) m0 [(0, .ref 0), (1, .int a1)] [] 0 := by
  intro a1 m0  h
  unfold f_X_isPair at h
  refine gk_iload_n (pc := 0) K d_X_isPair_0 rfl ?_
  refine gk_if_lt (tgt := 47) (pc := 1) K d_X_isPair_1 (by decide) h (fun h => ?_) (fun h => ?_)
  · refine gk_iconst (pc := 47) K d_X_isPair_47 kc_0 ?_
    exact gk_zretc (pc := 48) K d_X_isPair_48 rfl (Or.inl rfl) h
  · refine gk_iload_n (pc := 4) K d_X_isPair_4 rfl ?_
    refine gk_bipush (pc := 5) K d_X_isPair_5 kb_10 ?_
    refine gk_idivc2 (pc := 7) K d_X_isPair_7 (by decide) ?_
    refine gk_iload_n (pc := 8) K d_X_isPair_8 rfl ?_
    refine gk_bipush (pc := 9) K d_X_isPair_9 kb_10 ?_
    refine gk_iremc2 (pc := 11) K d_X_isPair_11 (by decide) ?_
    refine gk_ic_eq (tgt := 47) (pc := 12) K d_X_isPair_12 (by decide) h (fun h => ?_) (fun h => ?_)
    · refine gk_iconst (pc := 47) K d_X_isPair_47 kc_0 ?_
      exact gk_zretc (pc := 48) K d_X_isPair_48 rfl (Or.inl rfl) h
    · refine gk_aload_n (pc := 15) K d_X_isPair_15 rfl ?_
      refine gk_get (pc := 16) K d_X_isPair_16 fl_X_28 tx_0 rfl rfl ?_
      refine gk_iload_n (pc := 19) K d_X_isPair_19 rfl ?_
      refine gk_bipush (pc := 20) K d_X_isPair_20 kb_10 ?_
      refine gk_idivc2 (pc := 22) K d_X_isPair_22 (by decide) ?_
      obtain ⟨v2, m1, em1, h⟩ := gk_bi_some h
      refine gk_cVi (As := [.int (a1 / 10)]) (pc := 23) K d_X_isPair_23 mv_X_147 mc_Plain_isTower rfl tx_7 cl_ok2.1 (s_Plain_isTower (gk_FD K)  em1) (by decide) rfl (Nat.le_of_ble_eq_true rfl) ?_
      refine gk_if_eq (tgt := 47) (pc := 26) K d_X_isPair_26 (by decide) h (fun h => ?_) (fun h => ?_)
      · refine gk_iconst (pc := 47) K d_X_isPair_47 kc_0 ?_
        exact gk_zretc (pc := 48) K d_X_isPair_48 rfl (Or.inl rfl) h
      · refine gk_aload_n (pc := 29) K d_X_isPair_29 rfl ?_
        refine gk_get (pc := 30) K d_X_isPair_30 fl_X_28 tx_0 rfl rfl ?_
        refine gk_iload_n (pc := 33) K d_X_isPair_33 rfl ?_
        refine gk_bipush (pc := 34) K d_X_isPair_34 kb_10 ?_
        refine gk_iremc2 (pc := 36) K d_X_isPair_36 (by decide) ?_
        obtain ⟨v4, m3, em3, h⟩ := gk_bi_some h
        refine gk_cVi (As := [.int (gk_rem a1 10)]) (pc := 37) K d_X_isPair_37 mv_X_147 mc_Plain_isTower rfl tx_7 cl_ok2.1 (s_Plain_isTower (gk_FD K)  em3) (by decide) rfl (Nat.le_of_ble_eq_true rfl) ?_
        refine gk_if_eq (tgt := 47) (pc := 40) K d_X_isPair_40 (by decide) h (fun h => ?_) (fun h => ?_)
        · refine gk_iconst (pc := 47) K d_X_isPair_47 kc_0 ?_
          exact gk_zretc (pc := 48) K d_X_isPair_48 rfl (Or.inl rfl) h
        · refine gk_iconst (pc := 43) K d_X_isPair_43 kc_1 ?_
          refine gk_goto (tgt := 48) (pc := 44) K d_X_isPair_44 (by decide) ?_
          exact gk_zretc (pc := 48) K d_X_isPair_48 rfl (Or.inr rfl) h
theorem s_X_isPair {l : Launch} {u : gk_U} (hD : gk_D tx u) {a1 : Int32} {m0 mem2 : gk_M} {r : Int32} (h : f_X_isPair a1 m0 = some (r, mem2)) : gk_C tx l u me_X_isPair 2 [.ref 0, .int a1] m0 (some (.int r)) mem2 :=
  gk_enter hD mc_X_isPair (Nat.le_of_ble_eq_true rfl) rfl (fun z _ _ K => s_X_isPair_0 K _ _  h)
theorem d_Plain_side_0 : decode me_Plain_side.2.1 0 = .ok (.aload_n 0, 1) := by decide +kernel
theorem d_Plain_side_1 : decode me_Plain_side.2.1 1 = .ok (.getfield 11, 3) := by decide +kernel
theorem d_Plain_side_4 : decode me_Plain_side.2.1 4 = .ok (.iload 4, 2) := by decide +kernel
theorem d_Plain_side_6 : decode me_Plain_side.2.1 6 = .ok (.iaload, 1) := by decide +kernel
theorem d_Plain_side_7 : decode me_Plain_side.2.1 7 = .ok (.aload_n 0, 1) := by decide +kernel
theorem d_Plain_side_8 : decode me_Plain_side.2.1 8 = .ok (.getfield 11, 3) := by decide +kernel
theorem d_Plain_side_11 : decode me_Plain_side.2.1 11 = .ok (.iload_n 3, 1) := by decide +kernel
theorem d_Plain_side_12 : decode me_Plain_side.2.1 12 = .ok (.iaload, 1) := by decide +kernel
theorem d_Plain_side_13 : decode me_Plain_side.2.1 13 = .ok (.isub, 1) := by decide +kernel
theorem d_Plain_side_14 : decode me_Plain_side.2.1 14 = .ok (.iload_n 2, 1) := by decide +kernel
theorem d_Plain_side_15 : decode me_Plain_side.2.1 15 = .ok (.aload_n 0, 1) := by decide +kernel
theorem d_Plain_side_16 : decode me_Plain_side.2.1 16 = .ok (.getfield 15, 3) := by decide +kernel
theorem d_Plain_side_19 : decode me_Plain_side.2.1 19 = .ok (.iload_n 3, 1) := by decide +kernel
theorem d_Plain_side_20 : decode me_Plain_side.2.1 20 = .ok (.iaload, 1) := by decide +kernel
theorem d_Plain_side_21 : decode me_Plain_side.2.1 21 = .ok (.isub, 1) := by decide +kernel
theorem d_Plain_side_22 : decode me_Plain_side.2.1 22 = .ok (.imul, 1) := by decide +kernel
theorem d_Plain_side_23 : decode me_Plain_side.2.1 23 = .ok (.aload_n 0, 1) := by decide +kernel
theorem d_Plain_side_24 : decode me_Plain_side.2.1 24 = .ok (.getfield 15, 3) := by decide +kernel
theorem d_Plain_side_27 : decode me_Plain_side.2.1 27 = .ok (.iload 4, 2) := by decide +kernel
theorem d_Plain_side_29 : decode me_Plain_side.2.1 29 = .ok (.iaload, 1) := by decide +kernel
theorem d_Plain_side_30 : decode me_Plain_side.2.1 30 = .ok (.aload_n 0, 1) := by decide +kernel
theorem d_Plain_side_31 : decode me_Plain_side.2.1 31 = .ok (.getfield 15, 3) := by decide +kernel
theorem d_Plain_side_34 : decode me_Plain_side.2.1 34 = .ok (.iload_n 3, 1) := by decide +kernel
theorem d_Plain_side_35 : decode me_Plain_side.2.1 35 = .ok (.iaload, 1) := by decide +kernel
theorem d_Plain_side_36 : decode me_Plain_side.2.1 36 = .ok (.isub, 1) := by decide +kernel
theorem d_Plain_side_37 : decode me_Plain_side.2.1 37 = .ok (.iload_n 1, 1) := by decide +kernel
theorem d_Plain_side_38 : decode me_Plain_side.2.1 38 = .ok (.aload_n 0, 1) := by decide +kernel
theorem d_Plain_side_39 : decode me_Plain_side.2.1 39 = .ok (.getfield 11, 3) := by decide +kernel
theorem d_Plain_side_42 : decode me_Plain_side.2.1 42 = .ok (.iload_n 3, 1) := by decide +kernel
theorem d_Plain_side_43 : decode me_Plain_side.2.1 43 = .ok (.iaload, 1) := by decide +kernel
theorem d_Plain_side_44 : decode me_Plain_side.2.1 44 = .ok (.isub, 1) := by decide +kernel
theorem d_Plain_side_45 : decode me_Plain_side.2.1 45 = .ok (.imul, 1) := by decide +kernel
theorem d_Plain_side_46 : decode me_Plain_side.2.1 46 = .ok (.isub, 1) := by decide +kernel
theorem d_Plain_side_47 : decode me_Plain_side.2.1 47 = .ok (.ireturn, 1) := by decide +kernel
noncomputable def f_Plain_side  (a1 : Int32) (a2 : Int32) (a3 : Int32) (a4 : Int32) (m0 : gk_M) : Option (Int32 × gk_M) :=
  gk_ai m0 8 12 a4 fun v1 =>
  gk_ai m0 8 12 a3 fun v2 =>
  gk_ai m0 9 12 a3 fun v3 =>
  gk_ai m0 9 12 a4 fun v4 =>
  gk_ai m0 9 12 a3 fun v5 =>
  gk_ai m0 8 12 a3 fun v6 =>
  some ((((v1 - v2) * (a2 - v3)) - ((v4 - v5) * (a1 - v6))), m0)

theorem s_Plain_side_0 {z : gk_Z} (K : gk_F tx z me_Plain_side 1) {r : Int32} {mem2 : gk_M} : ∀ a1 a2 a3 a4 m0, f_Plain_side a1 a2 a3 a4 m0 = some (r, mem2) → gk_G tx z me_Plain_side (gk_R tx z (some (.int r)) mem2) m0 [(0, .ref 7), (1, .int a1), (2, .int a2), (3, .int a3), (4, .int a4)] [] 0 := by
  intro a1 a2 a3 a4 m0  h
  unfold f_Plain_side at h
  refine gk_aload_n (pc := 0) K d_Plain_side_0 rfl ?_
  refine gk_get (pc := 1) K d_Plain_side_1 fl_Plain_11 tx_7 rfl rfl ?_
  refine gk_iload (pc := 4) K d_Plain_side_4 rfl ?_
  refine gk_iald (pc := 6) K d_Plain_side_6 tx_8 h (fun v1 h => ?_)
  refine gk_aload_n (pc := 7) K d_Plain_side_7 rfl ?_
  refine gk_get (pc := 8) K d_Plain_side_8 fl_Plain_11 tx_7 rfl rfl ?_
  refine gk_iload_n (pc := 11) K d_Plain_side_11 rfl ?_
  refine gk_iald (pc := 12) K d_Plain_side_12 tx_8 h (fun v2 h => ?_)
  refine gk_isub (pc := 13) K d_Plain_side_13 ?_
  refine gk_iload_n (pc := 14) K d_Plain_side_14 rfl ?_
  refine gk_aload_n (pc := 15) K d_Plain_side_15 rfl ?_
  refine gk_get (pc := 16) K d_Plain_side_16 fl_Plain_15 tx_7 rfl rfl ?_
  refine gk_iload_n (pc := 19) K d_Plain_side_19 rfl ?_
  refine gk_iald (pc := 20) K d_Plain_side_20 tx_9 h (fun v3 h => ?_)
  refine gk_isub (pc := 21) K d_Plain_side_21 ?_
  refine gk_imul (pc := 22) K d_Plain_side_22 ?_
  refine gk_aload_n (pc := 23) K d_Plain_side_23 rfl ?_
  refine gk_get (pc := 24) K d_Plain_side_24 fl_Plain_15 tx_7 rfl rfl ?_
  refine gk_iload (pc := 27) K d_Plain_side_27 rfl ?_
  refine gk_iald (pc := 29) K d_Plain_side_29 tx_9 h (fun v4 h => ?_)
  refine gk_aload_n (pc := 30) K d_Plain_side_30 rfl ?_
  refine gk_get (pc := 31) K d_Plain_side_31 fl_Plain_15 tx_7 rfl rfl ?_
  refine gk_iload_n (pc := 34) K d_Plain_side_34 rfl ?_
  refine gk_iald (pc := 35) K d_Plain_side_35 tx_9 h (fun v5 h => ?_)
  refine gk_isub (pc := 36) K d_Plain_side_36 ?_
  refine gk_iload_n (pc := 37) K d_Plain_side_37 rfl ?_
  refine gk_aload_n (pc := 38) K d_Plain_side_38 rfl ?_
  refine gk_get (pc := 39) K d_Plain_side_39 fl_Plain_11 tx_7 rfl rfl ?_
  refine gk_iload_n (pc := 42) K d_Plain_side_42 rfl ?_
  refine gk_iald (pc := 43) K d_Plain_side_43 tx_8 h (fun v6 h => ?_)
  refine gk_isub (pc := 44) K d_Plain_side_44 ?_
  refine gk_imul (pc := 45) K d_Plain_side_45 ?_
  refine gk_isub (pc := 46) K d_Plain_side_46 ?_
  exact gk_iret (pc := 47) K d_Plain_side_47 rfl h
theorem s_Plain_side {l : Launch} {u : gk_U} (hD : gk_D tx u) {a1 : Int32} {a2 : Int32} {a3 : Int32} {a4 : Int32} {m0 mem2 : gk_M} {r : Int32} (h : f_Plain_side a1 a2 a3 a4 m0 = some (r, mem2)) : gk_C tx l u me_Plain_side 1 [.ref 7, .int a1, .int a2, .int a3, .int a4] m0 (some (.int r)) mem2 :=
  gk_enter hD mc_Plain_side (Nat.le_of_ble_eq_true rfl) rfl (fun z _ _ K => s_Plain_side_0 K _ _ _ _ _  h)
theorem d_Law_worked_0 : decode me_Law_worked.2.1 0 = .ok (.iload_n 0, 1) := by decide +kernel
theorem d_Law_worked_1 : decode me_Law_worked.2.1 1 = .ok (.lookupswitch 168 #[(38, 97), (42, 152), (43, 144), (45, 148), (47, 156), (60, 111), (61, 122), (62, 133), (124, 83)], 83) := by decide +kernel
theorem d_Law_worked_84 : decode me_Law_worked.2.1 84 = .ok (.iload_n 1, 1) := by decide +kernel
theorem d_Law_worked_85 : decode me_Law_worked.2.1 85 = .ok (.ifCond .ne 7, 3) := by decide +kernel
theorem d_Law_worked_88 : decode me_Law_worked.2.1 88 = .ok (.iload_n 2, 1) := by decide +kernel
theorem d_Law_worked_89 : decode me_Law_worked.2.1 89 = .ok (.ifCond .eq 7, 3) := by decide +kernel
theorem d_Law_worked_92 : decode me_Law_worked.2.1 92 = .ok (.iconst 1, 1) := by decide +kernel
theorem d_Law_worked_93 : decode me_Law_worked.2.1 93 = .ok (.goto 4, 3) := by decide +kernel
theorem d_Law_worked_96 : decode me_Law_worked.2.1 96 = .ok (.iconst 0, 1) := by decide +kernel
theorem d_Law_worked_97 : decode me_Law_worked.2.1 97 = .ok (.ireturn, 1) := by decide +kernel
theorem d_Law_worked_98 : decode me_Law_worked.2.1 98 = .ok (.iload_n 1, 1) := by decide +kernel
theorem d_Law_worked_99 : decode me_Law_worked.2.1 99 = .ok (.ifCond .eq 11, 3) := by decide +kernel
theorem d_Law_worked_102 : decode me_Law_worked.2.1 102 = .ok (.iload_n 2, 1) := by decide +kernel
theorem d_Law_worked_103 : decode me_Law_worked.2.1 103 = .ok (.ifCond .eq 7, 3) := by decide +kernel
theorem d_Law_worked_106 : decode me_Law_worked.2.1 106 = .ok (.iconst 1, 1) := by decide +kernel
theorem d_Law_worked_107 : decode me_Law_worked.2.1 107 = .ok (.goto 4, 3) := by decide +kernel
theorem d_Law_worked_110 : decode me_Law_worked.2.1 110 = .ok (.iconst 0, 1) := by decide +kernel
theorem d_Law_worked_111 : decode me_Law_worked.2.1 111 = .ok (.ireturn, 1) := by decide +kernel
theorem d_Law_worked_112 : decode me_Law_worked.2.1 112 = .ok (.iload_n 1, 1) := by decide +kernel
theorem d_Law_worked_113 : decode me_Law_worked.2.1 113 = .ok (.iload_n 2, 1) := by decide +kernel
theorem d_Law_worked_114 : decode me_Law_worked.2.1 114 = .ok (.if_icmp .ge 7, 3) := by decide +kernel
theorem d_Law_worked_117 : decode me_Law_worked.2.1 117 = .ok (.iconst 1, 1) := by decide +kernel
theorem d_Law_worked_118 : decode me_Law_worked.2.1 118 = .ok (.goto 4, 3) := by decide +kernel
theorem d_Law_worked_121 : decode me_Law_worked.2.1 121 = .ok (.iconst 0, 1) := by decide +kernel
theorem d_Law_worked_122 : decode me_Law_worked.2.1 122 = .ok (.ireturn, 1) := by decide +kernel
theorem d_Law_worked_123 : decode me_Law_worked.2.1 123 = .ok (.iload_n 1, 1) := by decide +kernel
theorem d_Law_worked_124 : decode me_Law_worked.2.1 124 = .ok (.iload_n 2, 1) := by decide +kernel
theorem d_Law_worked_125 : decode me_Law_worked.2.1 125 = .ok (.if_icmp .ne 7, 3) := by decide +kernel
theorem d_Law_worked_128 : decode me_Law_worked.2.1 128 = .ok (.iconst 1, 1) := by decide +kernel
theorem d_Law_worked_129 : decode me_Law_worked.2.1 129 = .ok (.goto 4, 3) := by decide +kernel
theorem d_Law_worked_132 : decode me_Law_worked.2.1 132 = .ok (.iconst 0, 1) := by decide +kernel
theorem d_Law_worked_133 : decode me_Law_worked.2.1 133 = .ok (.ireturn, 1) := by decide +kernel
theorem d_Law_worked_134 : decode me_Law_worked.2.1 134 = .ok (.iload_n 1, 1) := by decide +kernel
theorem d_Law_worked_135 : decode me_Law_worked.2.1 135 = .ok (.iload_n 2, 1) := by decide +kernel
theorem d_Law_worked_136 : decode me_Law_worked.2.1 136 = .ok (.if_icmp .le 7, 3) := by decide +kernel
theorem d_Law_worked_139 : decode me_Law_worked.2.1 139 = .ok (.iconst 1, 1) := by decide +kernel
theorem d_Law_worked_140 : decode me_Law_worked.2.1 140 = .ok (.goto 4, 3) := by decide +kernel
theorem d_Law_worked_143 : decode me_Law_worked.2.1 143 = .ok (.iconst 0, 1) := by decide +kernel
theorem d_Law_worked_144 : decode me_Law_worked.2.1 144 = .ok (.ireturn, 1) := by decide +kernel
theorem d_Law_worked_145 : decode me_Law_worked.2.1 145 = .ok (.iload_n 1, 1) := by decide +kernel
theorem d_Law_worked_146 : decode me_Law_worked.2.1 146 = .ok (.iload_n 2, 1) := by decide +kernel
theorem d_Law_worked_147 : decode me_Law_worked.2.1 147 = .ok (.iadd, 1) := by decide +kernel
theorem d_Law_worked_148 : decode me_Law_worked.2.1 148 = .ok (.ireturn, 1) := by decide +kernel
theorem d_Law_worked_149 : decode me_Law_worked.2.1 149 = .ok (.iload_n 1, 1) := by decide +kernel
theorem d_Law_worked_150 : decode me_Law_worked.2.1 150 = .ok (.iload_n 2, 1) := by decide +kernel
theorem d_Law_worked_151 : decode me_Law_worked.2.1 151 = .ok (.isub, 1) := by decide +kernel
theorem d_Law_worked_152 : decode me_Law_worked.2.1 152 = .ok (.ireturn, 1) := by decide +kernel
theorem d_Law_worked_153 : decode me_Law_worked.2.1 153 = .ok (.iload_n 1, 1) := by decide +kernel
theorem d_Law_worked_154 : decode me_Law_worked.2.1 154 = .ok (.iload_n 2, 1) := by decide +kernel
theorem d_Law_worked_155 : decode me_Law_worked.2.1 155 = .ok (.imul, 1) := by decide +kernel
theorem d_Law_worked_156 : decode me_Law_worked.2.1 156 = .ok (.ireturn, 1) := by decide +kernel
theorem d_Law_worked_157 : decode me_Law_worked.2.1 157 = .ok (.iload_n 2, 1) := by decide +kernel
theorem d_Law_worked_158 : decode me_Law_worked.2.1 158 = .ok (.ifCond .ne 7, 3) := by decide +kernel
theorem d_Law_worked_161 : decode me_Law_worked.2.1 161 = .ok (.iconst 0, 1) := by decide +kernel
theorem d_Law_worked_162 : decode me_Law_worked.2.1 162 = .ok (.goto 6, 3) := by decide +kernel
theorem d_Law_worked_165 : decode me_Law_worked.2.1 165 = .ok (.iload_n 1, 1) := by decide +kernel
theorem d_Law_worked_166 : decode me_Law_worked.2.1 166 = .ok (.iload_n 2, 1) := by decide +kernel
theorem d_Law_worked_167 : decode me_Law_worked.2.1 167 = .ok (.idiv, 1) := by decide +kernel
theorem d_Law_worked_168 : decode me_Law_worked.2.1 168 = .ok (.ireturn, 1) := by decide +kernel
theorem d_Law_worked_169 : decode me_Law_worked.2.1 169 = .ok (.iload_n 2, 1) := by decide +kernel
theorem d_Law_worked_170 : decode me_Law_worked.2.1 170 = .ok (.ifCond .ne 7, 3) := by decide +kernel
theorem d_Law_worked_173 : decode me_Law_worked.2.1 173 = .ok (.iconst 0, 1) := by decide +kernel
theorem d_Law_worked_174 : decode me_Law_worked.2.1 174 = .ok (.goto 6, 3) := by decide +kernel
theorem d_Law_worked_177 : decode me_Law_worked.2.1 177 = .ok (.iload_n 1, 1) := by decide +kernel
theorem d_Law_worked_178 : decode me_Law_worked.2.1 178 = .ok (.iload_n 2, 1) := by decide +kernel
theorem d_Law_worked_179 : decode me_Law_worked.2.1 179 = .ok (.irem, 1) := by decide +kernel
theorem d_Law_worked_180 : decode me_Law_worked.2.1 180 = .ok (.ireturn, 1) := by decide +kernel
noncomputable def f_Law_worked  (a0 : Int32) (a1 : Int32) (a2 : Int32) (m0 : gk_M) : Option (Int32 × gk_M) :=
  if a0 = 38 then
    if a1 = 0 then
      some (0, m0)
    else
      if a2 = 0 then
        some (0, m0)
      else
        some (1, m0)
  else
    if a0 = 42 then
      some ((a1 * a2), m0)
    else
      if a0 = 43 then
        some ((a1 + a2), m0)
      else
        if a0 = 45 then
          some ((a1 - a2), m0)
        else
          if a0 = 47 then
            if ¬ a2 = 0 then
              gk_di a1 a2 fun v6 =>
              some (v6, m0)
            else
              some (0, m0)
          else
            if a0 = 60 then
              if a2 ≤ a1 then
                some (0, m0)
              else
                some (1, m0)
            else
              if a0 = 61 then
                if ¬ a1 = a2 then
                  some (0, m0)
                else
                  some (1, m0)
              else
                if a0 = 62 then
                  if a1 ≤ a2 then
                    some (0, m0)
                  else
                    some (1, m0)
                else
                  if a0 = 124 then
                    if ¬ a1 = 0 then
                      some (1, m0)
                    else
                      if a2 = 0 then
                        some (0, m0)
                      else
                        some (1, m0)
                  else
                    if ¬ a2 = 0 then
                      gk_re a1 a2 fun v11 =>
                      some (v11, m0)
                    else
                      some (0, m0)

theorem s_Law_worked_0 {z : gk_Z} (K : gk_F tx z me_Law_worked 1) {r : Int32} {mem2 : gk_M} : ∀ a0 a1 a2 m0, f_Law_worked a0 a1 a2 m0 = some (r, mem2) → gk_G tx z me_Law_worked (gk_R tx z (some (.int r)) mem2) m0 [(0, .int a0), (1, .int a1), (2, .int a2)] [] 0 := by
  intro a0 a1 a2 m0  h
  unfold f_Law_worked at h
  refine gk_iload_n (pc := 0) K d_Law_worked_0 rfl ?_
  refine gk_ite (c := a0 = 38) h (fun c1 h => ?_) (fun c1 h => ?_)
  · refine gk_lk (off := 97) (tgt := 98) (pc := 1) K d_Law_worked_1 rfl (by subst c1; rfl) (by decide) ?_
    refine gk_iload_n (pc := 98) K d_Law_worked_98 rfl ?_
    refine gk_if_eq (tgt := 110) (pc := 99) K d_Law_worked_99 (by decide) h (fun h => ?_) (fun h => ?_)
    · refine gk_iconst (pc := 110) K d_Law_worked_110 kc_0 ?_
      exact gk_iret (pc := 111) K d_Law_worked_111 rfl h
    · refine gk_iload_n (pc := 102) K d_Law_worked_102 rfl ?_
      refine gk_if_eq (tgt := 110) (pc := 103) K d_Law_worked_103 (by decide) h (fun h => ?_) (fun h => ?_)
      · refine gk_iconst (pc := 110) K d_Law_worked_110 kc_0 ?_
        exact gk_iret (pc := 111) K d_Law_worked_111 rfl h
      · refine gk_iconst (pc := 106) K d_Law_worked_106 kc_1 ?_
        refine gk_goto (tgt := 111) (pc := 107) K d_Law_worked_107 (by decide) ?_
        exact gk_iret (pc := 111) K d_Law_worked_111 rfl h
  · skip
    refine gk_ite (c := a0 = 42) h (fun c2 h => ?_) (fun c2 h => ?_)
    · refine gk_lk (off := 152) (tgt := 153) (pc := 1) K d_Law_worked_1 rfl (by subst c2; rfl) (by decide) ?_
      refine gk_iload_n (pc := 153) K d_Law_worked_153 rfl ?_
      refine gk_iload_n (pc := 154) K d_Law_worked_154 rfl ?_
      refine gk_imul (pc := 155) K d_Law_worked_155 ?_
      exact gk_iret (pc := 156) K d_Law_worked_156 rfl h
    · skip
      refine gk_ite (c := a0 = 43) h (fun c3 h => ?_) (fun c3 h => ?_)
      · refine gk_lk (off := 144) (tgt := 145) (pc := 1) K d_Law_worked_1 rfl (by subst c3; rfl) (by decide) ?_
        refine gk_iload_n (pc := 145) K d_Law_worked_145 rfl ?_
        refine gk_iload_n (pc := 146) K d_Law_worked_146 rfl ?_
        refine gk_iadd (pc := 147) K d_Law_worked_147 ?_
        exact gk_iret (pc := 148) K d_Law_worked_148 rfl h
      · skip
        refine gk_ite (c := a0 = 45) h (fun c4 h => ?_) (fun c4 h => ?_)
        · refine gk_lk (off := 148) (tgt := 149) (pc := 1) K d_Law_worked_1 rfl (by subst c4; rfl) (by decide) ?_
          refine gk_iload_n (pc := 149) K d_Law_worked_149 rfl ?_
          refine gk_iload_n (pc := 150) K d_Law_worked_150 rfl ?_
          refine gk_isub (pc := 151) K d_Law_worked_151 ?_
          exact gk_iret (pc := 152) K d_Law_worked_152 rfl h
        · skip
          refine gk_ite (c := a0 = 47) h (fun c5 h => ?_) (fun c5 h => ?_)
          · refine gk_lk (off := 156) (tgt := 157) (pc := 1) K d_Law_worked_1 rfl (by subst c5; rfl) (by decide) ?_
            refine gk_iload_n (pc := 157) K d_Law_worked_157 rfl ?_
            refine gk_if_ne (tgt := 165) (pc := 158) K d_Law_worked_158 (by decide) h (fun h => ?_) (fun h => ?_)
            · refine gk_iload_n (pc := 165) K d_Law_worked_165 rfl ?_
              refine gk_iload_n (pc := 166) K d_Law_worked_166 rfl ?_
              refine gk_idiv (pc := 167) K d_Law_worked_167 h (fun v6 h => ?_)
              exact gk_iret (pc := 168) K d_Law_worked_168 rfl h
            · refine gk_iconst (pc := 161) K d_Law_worked_161 kc_0 ?_
              refine gk_goto (tgt := 168) (pc := 162) K d_Law_worked_162 (by decide) ?_
              exact gk_iret (pc := 168) K d_Law_worked_168 rfl h
          · skip
            refine gk_ite (c := a0 = 60) h (fun c7 h => ?_) (fun c7 h => ?_)
            · refine gk_lk (off := 111) (tgt := 112) (pc := 1) K d_Law_worked_1 rfl (by subst c7; rfl) (by decide) ?_
              refine gk_iload_n (pc := 112) K d_Law_worked_112 rfl ?_
              refine gk_iload_n (pc := 113) K d_Law_worked_113 rfl ?_
              refine gk_ic_ge (tgt := 121) (pc := 114) K d_Law_worked_114 (by decide) h (fun h => ?_) (fun h => ?_)
              · refine gk_iconst (pc := 121) K d_Law_worked_121 kc_0 ?_
                exact gk_iret (pc := 122) K d_Law_worked_122 rfl h
              · refine gk_iconst (pc := 117) K d_Law_worked_117 kc_1 ?_
                refine gk_goto (tgt := 122) (pc := 118) K d_Law_worked_118 (by decide) ?_
                exact gk_iret (pc := 122) K d_Law_worked_122 rfl h
            · skip
              refine gk_ite (c := a0 = 61) h (fun c8 h => ?_) (fun c8 h => ?_)
              · refine gk_lk (off := 122) (tgt := 123) (pc := 1) K d_Law_worked_1 rfl (by subst c8; rfl) (by decide) ?_
                refine gk_iload_n (pc := 123) K d_Law_worked_123 rfl ?_
                refine gk_iload_n (pc := 124) K d_Law_worked_124 rfl ?_
                refine gk_ic_ne (tgt := 132) (pc := 125) K d_Law_worked_125 (by decide) h (fun h => ?_) (fun h => ?_)
                · refine gk_iconst (pc := 132) K d_Law_worked_132 kc_0 ?_
                  exact gk_iret (pc := 133) K d_Law_worked_133 rfl h
                · refine gk_iconst (pc := 128) K d_Law_worked_128 kc_1 ?_
                  refine gk_goto (tgt := 133) (pc := 129) K d_Law_worked_129 (by decide) ?_
                  exact gk_iret (pc := 133) K d_Law_worked_133 rfl h
              · skip
                refine gk_ite (c := a0 = 62) h (fun c9 h => ?_) (fun c9 h => ?_)
                · refine gk_lk (off := 133) (tgt := 134) (pc := 1) K d_Law_worked_1 rfl (by subst c9; rfl) (by decide) ?_
                  refine gk_iload_n (pc := 134) K d_Law_worked_134 rfl ?_
                  refine gk_iload_n (pc := 135) K d_Law_worked_135 rfl ?_
                  refine gk_ic_le (tgt := 143) (pc := 136) K d_Law_worked_136 (by decide) h (fun h => ?_) (fun h => ?_)
                  · refine gk_iconst (pc := 143) K d_Law_worked_143 kc_0 ?_
                    exact gk_iret (pc := 144) K d_Law_worked_144 rfl h
                  · refine gk_iconst (pc := 139) K d_Law_worked_139 kc_1 ?_
                    refine gk_goto (tgt := 144) (pc := 140) K d_Law_worked_140 (by decide) ?_
                    exact gk_iret (pc := 144) K d_Law_worked_144 rfl h
                · skip
                  refine gk_ite (c := a0 = 124) h (fun c10 h => ?_) (fun c10 h => ?_)
                  · refine gk_lk (off := 83) (tgt := 84) (pc := 1) K d_Law_worked_1 rfl (by subst c10; rfl) (by decide) ?_
                    refine gk_iload_n (pc := 84) K d_Law_worked_84 rfl ?_
                    refine gk_if_ne (tgt := 92) (pc := 85) K d_Law_worked_85 (by decide) h (fun h => ?_) (fun h => ?_)
                    · refine gk_iconst (pc := 92) K d_Law_worked_92 kc_1 ?_
                      refine gk_goto (tgt := 97) (pc := 93) K d_Law_worked_93 (by decide) ?_
                      exact gk_iret (pc := 97) K d_Law_worked_97 rfl h
                    · refine gk_iload_n (pc := 88) K d_Law_worked_88 rfl ?_
                      refine gk_if_eq (tgt := 96) (pc := 89) K d_Law_worked_89 (by decide) h (fun h => ?_) (fun h => ?_)
                      · refine gk_iconst (pc := 96) K d_Law_worked_96 kc_0 ?_
                        exact gk_iret (pc := 97) K d_Law_worked_97 rfl h
                      · refine gk_iconst (pc := 92) K d_Law_worked_92 kc_1 ?_
                        refine gk_goto (tgt := 97) (pc := 93) K d_Law_worked_93 (by decide) ?_
                        exact gk_iret (pc := 97) K d_Law_worked_97 rfl h
                  · skip
                    refine gk_lk (off := 168) (tgt := 169) (pc := 1) K d_Law_worked_1 rfl ((lv_osw c1 (by decide)).trans ((lv_osw c2 (by decide)).trans ((lv_osw c3 (by decide)).trans ((lv_osw c4 (by decide)).trans ((lv_osw c5 (by decide)).trans ((lv_osw c7 (by decide)).trans ((lv_osw c8 (by decide)).trans ((lv_osw c9 (by decide)).trans ((lv_osw c10 (by decide)).trans (rfl)))))))))) (by decide) ?_
                    refine gk_iload_n (pc := 169) K d_Law_worked_169 rfl ?_
                    refine gk_if_ne (tgt := 177) (pc := 170) K d_Law_worked_170 (by decide) h (fun h => ?_) (fun h => ?_)
                    · refine gk_iload_n (pc := 177) K d_Law_worked_177 rfl ?_
                      refine gk_iload_n (pc := 178) K d_Law_worked_178 rfl ?_
                      refine gk_irem (pc := 179) K d_Law_worked_179 h (fun v11 h => ?_)
                      exact gk_iret (pc := 180) K d_Law_worked_180 rfl h
                    · refine gk_iconst (pc := 173) K d_Law_worked_173 kc_0 ?_
                      refine gk_goto (tgt := 180) (pc := 174) K d_Law_worked_174 (by decide) ?_
                      exact gk_iret (pc := 180) K d_Law_worked_180 rfl h
theorem s_Law_worked {l : Launch} {u : gk_U} (hD : gk_D tx u) {a0 : Int32} {a1 : Int32} {a2 : Int32} {m0 mem2 : gk_M} {r : Int32} (h : f_Law_worked a0 a1 a2 m0 = some (r, mem2)) : gk_C tx l u me_Law_worked 1 [.int a0, .int a1, .int a2] m0 (some (.int r)) mem2 :=
  gk_enter hD mc_Law_worked (Nat.le_of_ble_eq_true rfl) rfl (fun z _ _ K => s_Law_worked_0 K _ _ _ _  h)
theorem d_Law_verdict_0 : decode me_Law_verdict.2.1 0 = .ok (.aload_n 0, 1) := by decide +kernel
theorem d_Law_verdict_1 : decode me_Law_verdict.2.1 1 = .ok (.getfield 16, 3) := by decide +kernel
theorem d_Law_verdict_4 : decode me_Law_verdict.2.1 4 = .ok (.ifCond .ne 20, 3) := by decide +kernel
theorem d_Law_verdict_7 : decode me_Law_verdict.2.1 7 = .ok (.aload_n 1, 1) := by decide +kernel
theorem d_Law_verdict_8 : decode me_Law_verdict.2.1 8 = .ok (.iconst 1, 1) := by decide +kernel
theorem d_Law_verdict_9 : decode me_Law_verdict.2.1 9 = .ok (.iaload, 1) := by decide +kernel
theorem d_Law_verdict_10 : decode me_Law_verdict.2.1 10 = .ok (.aload_n 1, 1) := by decide +kernel
theorem d_Law_verdict_11 : decode me_Law_verdict.2.1 11 = .ok (.iconst 0, 1) := by decide +kernel
theorem d_Law_verdict_12 : decode me_Law_verdict.2.1 12 = .ok (.iaload, 1) := by decide +kernel
theorem d_Law_verdict_13 : decode me_Law_verdict.2.1 13 = .ok (.iconst 3, 1) := by decide +kernel
theorem d_Law_verdict_14 : decode me_Law_verdict.2.1 14 = .ok (.iadd, 1) := by decide +kernel
theorem d_Law_verdict_15 : decode me_Law_verdict.2.1 15 = .ok (.if_icmp .gt 7, 3) := by decide +kernel
theorem d_Law_verdict_18 : decode me_Law_verdict.2.1 18 = .ok (.iconst 1, 1) := by decide +kernel
theorem d_Law_verdict_19 : decode me_Law_verdict.2.1 19 = .ok (.goto 4, 3) := by decide +kernel
theorem d_Law_verdict_22 : decode me_Law_verdict.2.1 22 = .ok (.iconst 0, 1) := by decide +kernel
theorem d_Law_verdict_23 : decode me_Law_verdict.2.1 23 = .ok (.ireturn, 1) := by decide +kernel
theorem d_Law_verdict_24 : decode me_Law_verdict.2.1 24 = .ok (.iconst 0, 1) := by decide +kernel
theorem d_Law_verdict_25 : decode me_Law_verdict.2.1 25 = .ok (.istore_n 2, 1) := by decide +kernel
theorem d_Law_verdict_26 : decode me_Law_verdict.2.1 26 = .ok (.iconst 0, 1) := by decide +kernel
theorem d_Law_verdict_27 : decode me_Law_verdict.2.1 27 = .ok (.istore_n 3, 1) := by decide +kernel
theorem d_Law_verdict_28 : decode me_Law_verdict.2.1 28 = .ok (.iconst 0, 1) := by decide +kernel
theorem d_Law_verdict_29 : decode me_Law_verdict.2.1 29 = .ok (.istore 4, 2) := by decide +kernel
theorem d_Law_verdict_31 : decode me_Law_verdict.2.1 31 = .ok (.iload 4, 2) := by decide +kernel
theorem d_Law_verdict_33 : decode me_Law_verdict.2.1 33 = .ok (.aload_n 0, 1) := by decide +kernel
theorem d_Law_verdict_34 : decode me_Law_verdict.2.1 34 = .ok (.getfield 16, 3) := by decide +kernel
theorem d_Law_verdict_37 : decode me_Law_verdict.2.1 37 = .ok (.if_icmp .ge 235, 3) := by decide +kernel
theorem d_Law_verdict_40 : decode me_Law_verdict.2.1 40 = .ok (.aload_n 0, 1) := by decide +kernel
theorem d_Law_verdict_41 : decode me_Law_verdict.2.1 41 = .ok (.getfield 9, 3) := by decide +kernel
theorem d_Law_verdict_44 : decode me_Law_verdict.2.1 44 = .ok (.iload 4, 2) := by decide +kernel
theorem d_Law_verdict_46 : decode me_Law_verdict.2.1 46 = .ok (.iaload, 1) := by decide +kernel
theorem d_Law_verdict_47 : decode me_Law_verdict.2.1 47 = .ok (.istore 5, 2) := by decide +kernel
theorem d_Law_verdict_49 : decode me_Law_verdict.2.1 49 = .ok (.iload_n 3, 1) := by decide +kernel
theorem d_Law_verdict_50 : decode me_Law_verdict.2.1 50 = .ok (.ifCond .eq 20, 3) := by decide +kernel
theorem d_Law_verdict_53 : decode me_Law_verdict.2.1 53 = .ok (.iload 5, 2) := by decide +kernel
theorem d_Law_verdict_55 : decode me_Law_verdict.2.1 55 = .ok (.sipush (-159), 3) := by decide +kernel
theorem d_Law_verdict_58 : decode me_Law_verdict.2.1 58 = .ok (.if_icmp .eq 7, 3) := by decide +kernel
theorem d_Law_verdict_61 : decode me_Law_verdict.2.1 61 = .ok (.iconst 1, 1) := by decide +kernel
theorem d_Law_verdict_62 : decode me_Law_verdict.2.1 62 = .ok (.goto 4, 3) := by decide +kernel
theorem d_Law_verdict_65 : decode me_Law_verdict.2.1 65 = .ok (.iconst 0, 1) := by decide +kernel
theorem d_Law_verdict_66 : decode me_Law_verdict.2.1 66 = .ok (.istore_n 3, 1) := by decide +kernel
theorem d_Law_verdict_67 : decode me_Law_verdict.2.1 67 = .ok (.goto 199, 3) := by decide +kernel
theorem d_Law_verdict_70 : decode me_Law_verdict.2.1 70 = .ok (.iload 5, 2) := by decide +kernel
theorem d_Law_verdict_72 : decode me_Law_verdict.2.1 72 = .ok (.bipush (-6), 2) := by decide +kernel
theorem d_Law_verdict_74 : decode me_Law_verdict.2.1 74 = .ok (.if_icmp .lt 38, 3) := by decide +kernel
theorem d_Law_verdict_77 : decode me_Law_verdict.2.1 77 = .ok (.iload_n 2, 1) := by decide +kernel
theorem d_Law_verdict_78 : decode me_Law_verdict.2.1 78 = .ok (.sipush 256, 3) := by decide +kernel
theorem d_Law_verdict_81 : decode me_Law_verdict.2.1 81 = .ok (.if_icmp .ge 31, 3) := by decide +kernel
theorem d_Law_verdict_84 : decode me_Law_verdict.2.1 84 = .ok (.aload_n 0, 1) := by decide +kernel
theorem d_Law_verdict_85 : decode me_Law_verdict.2.1 85 = .ok (.getfield 13, 3) := by decide +kernel
theorem d_Law_verdict_88 : decode me_Law_verdict.2.1 88 = .ok (.iload_n 2, 1) := by decide +kernel
theorem d_Law_verdict_89 : decode me_Law_verdict.2.1 89 = .ok (.iload 5, 2) := by decide +kernel
theorem d_Law_verdict_91 : decode me_Law_verdict.2.1 91 = .ok (.ifCond .lt 8, 3) := by decide +kernel
theorem d_Law_verdict_94 : decode me_Law_verdict.2.1 94 = .ok (.iload 5, 2) := by decide +kernel
theorem d_Law_verdict_96 : decode me_Law_verdict.2.1 96 = .ok (.goto 9, 3) := by decide +kernel
theorem d_Law_verdict_99 : decode me_Law_verdict.2.1 99 = .ok (.aload_n 1, 1) := by decide +kernel
theorem d_Law_verdict_100 : decode me_Law_verdict.2.1 100 = .ok (.iconst (-1), 1) := by decide +kernel
theorem d_Law_verdict_101 : decode me_Law_verdict.2.1 101 = .ok (.iload 5, 2) := by decide +kernel
theorem d_Law_verdict_103 : decode me_Law_verdict.2.1 103 = .ok (.isub, 1) := by decide +kernel
theorem d_Law_verdict_104 : decode me_Law_verdict.2.1 104 = .ok (.iaload, 1) := by decide +kernel
theorem d_Law_verdict_105 : decode me_Law_verdict.2.1 105 = .ok (.iastore, 1) := by decide +kernel
theorem d_Law_verdict_106 : decode me_Law_verdict.2.1 106 = .ok (.iinc 2 1, 3) := by decide +kernel
theorem d_Law_verdict_109 : decode me_Law_verdict.2.1 109 = .ok (.goto 157, 3) := by decide +kernel
theorem d_Law_verdict_112 : decode me_Law_verdict.2.1 112 = .ok (.iload 5, 2) := by decide +kernel
theorem d_Law_verdict_114 : decode me_Law_verdict.2.1 114 = .ok (.sipush (-159), 3) := by decide +kernel
theorem d_Law_verdict_117 : decode me_Law_verdict.2.1 117 = .ok (.if_icmp .ne 10, 3) := by decide +kernel
theorem d_Law_verdict_120 : decode me_Law_verdict.2.1 120 = .ok (.aload_n 0, 1) := by decide +kernel
theorem d_Law_verdict_121 : decode me_Law_verdict.2.1 121 = .ok (.getfield 13, 3) := by decide +kernel
theorem d_Law_verdict_124 : decode me_Law_verdict.2.1 124 = .ok (.iconst 0, 1) := by decide +kernel
theorem d_Law_verdict_125 : decode me_Law_verdict.2.1 125 = .ok (.iaload, 1) := by decide +kernel
theorem d_Law_verdict_126 : decode me_Law_verdict.2.1 126 = .ok (.ireturn, 1) := by decide +kernel
theorem d_Law_verdict_127 : decode me_Law_verdict.2.1 127 = .ok (.iload 5, 2) := by decide +kernel
theorem d_Law_verdict_129 : decode me_Law_verdict.2.1 129 = .ok (.sipush (-163), 3) := by decide +kernel
theorem d_Law_verdict_132 : decode me_Law_verdict.2.1 132 = .ok (.if_icmp .ne 23, 3) := by decide +kernel
theorem d_Law_verdict_135 : decode me_Law_verdict.2.1 135 = .ok (.iconst 0, 1) := by decide +kernel
theorem d_Law_verdict_136 : decode me_Law_verdict.2.1 136 = .ok (.istore_n 2, 1) := by decide +kernel
theorem d_Law_verdict_137 : decode me_Law_verdict.2.1 137 = .ok (.aload_n 0, 1) := by decide +kernel
theorem d_Law_verdict_138 : decode me_Law_verdict.2.1 138 = .ok (.getfield 13, 3) := by decide +kernel
theorem d_Law_verdict_141 : decode me_Law_verdict.2.1 141 = .ok (.iconst 0, 1) := by decide +kernel
theorem d_Law_verdict_142 : decode me_Law_verdict.2.1 142 = .ok (.iaload, 1) := by decide +kernel
theorem d_Law_verdict_143 : decode me_Law_verdict.2.1 143 = .ok (.ifCond .ne 7, 3) := by decide +kernel
theorem d_Law_verdict_146 : decode me_Law_verdict.2.1 146 = .ok (.iconst 1, 1) := by decide +kernel
theorem d_Law_verdict_147 : decode me_Law_verdict.2.1 147 = .ok (.goto 4, 3) := by decide +kernel
theorem d_Law_verdict_150 : decode me_Law_verdict.2.1 150 = .ok (.iconst 0, 1) := by decide +kernel
theorem d_Law_verdict_151 : decode me_Law_verdict.2.1 151 = .ok (.istore_n 3, 1) := by decide +kernel
theorem d_Law_verdict_152 : decode me_Law_verdict.2.1 152 = .ok (.goto 114, 3) := by decide +kernel
theorem d_Law_verdict_155 : decode me_Law_verdict.2.1 155 = .ok (.iload 5, 2) := by decide +kernel
theorem d_Law_verdict_157 : decode me_Law_verdict.2.1 157 = .ok (.sipush (-400), 3) := by decide +kernel
theorem d_Law_verdict_160 : decode me_Law_verdict.2.1 160 = .ok (.if_icmp .ne 28, 3) := by decide +kernel
theorem d_Law_verdict_163 : decode me_Law_verdict.2.1 163 = .ok (.iload_n 2, 1) := by decide +kernel
theorem d_Law_verdict_164 : decode me_Law_verdict.2.1 164 = .ok (.iconst 1, 1) := by decide +kernel
theorem d_Law_verdict_165 : decode me_Law_verdict.2.1 165 = .ok (.if_icmp .lt 23, 3) := by decide +kernel
theorem d_Law_verdict_168 : decode me_Law_verdict.2.1 168 = .ok (.aload_n 0, 1) := by decide +kernel
theorem d_Law_verdict_169 : decode me_Law_verdict.2.1 169 = .ok (.getfield 13, 3) := by decide +kernel
theorem d_Law_verdict_172 : decode me_Law_verdict.2.1 172 = .ok (.iload_n 2, 1) := by decide +kernel
theorem d_Law_verdict_173 : decode me_Law_verdict.2.1 173 = .ok (.iconst 1, 1) := by decide +kernel
theorem d_Law_verdict_174 : decode me_Law_verdict.2.1 174 = .ok (.isub, 1) := by decide +kernel
theorem d_Law_verdict_175 : decode me_Law_verdict.2.1 175 = .ok (.aload_n 0, 1) := by decide +kernel
theorem d_Law_verdict_176 : decode me_Law_verdict.2.1 176 = .ok (.getfield 13, 3) := by decide +kernel
theorem d_Law_verdict_179 : decode me_Law_verdict.2.1 179 = .ok (.iload_n 2, 1) := by decide +kernel
theorem d_Law_verdict_180 : decode me_Law_verdict.2.1 180 = .ok (.iconst 1, 1) := by decide +kernel
theorem d_Law_verdict_181 : decode me_Law_verdict.2.1 181 = .ok (.isub, 1) := by decide +kernel
theorem d_Law_verdict_182 : decode me_Law_verdict.2.1 182 = .ok (.iaload, 1) := by decide +kernel
theorem d_Law_verdict_183 : decode me_Law_verdict.2.1 183 = .ok (.ineg, 1) := by decide +kernel
theorem d_Law_verdict_184 : decode me_Law_verdict.2.1 184 = .ok (.iastore, 1) := by decide +kernel
theorem d_Law_verdict_185 : decode me_Law_verdict.2.1 185 = .ok (.goto 81, 3) := by decide +kernel
theorem d_Law_verdict_188 : decode me_Law_verdict.2.1 188 = .ok (.iload 5, 2) := by decide +kernel
theorem d_Law_verdict_190 : decode me_Law_verdict.2.1 190 = .ok (.sipush (-133), 3) := by decide +kernel
theorem d_Law_verdict_193 : decode me_Law_verdict.2.1 193 = .ok (.if_icmp .ne 35, 3) := by decide +kernel
theorem d_Law_verdict_196 : decode me_Law_verdict.2.1 196 = .ok (.iload_n 2, 1) := by decide +kernel
theorem d_Law_verdict_197 : decode me_Law_verdict.2.1 197 = .ok (.iconst 1, 1) := by decide +kernel
theorem d_Law_verdict_198 : decode me_Law_verdict.2.1 198 = .ok (.if_icmp .lt 30, 3) := by decide +kernel
theorem d_Law_verdict_201 : decode me_Law_verdict.2.1 201 = .ok (.aload_n 0, 1) := by decide +kernel
theorem d_Law_verdict_202 : decode me_Law_verdict.2.1 202 = .ok (.getfield 13, 3) := by decide +kernel
theorem d_Law_verdict_205 : decode me_Law_verdict.2.1 205 = .ok (.iload_n 2, 1) := by decide +kernel
theorem d_Law_verdict_206 : decode me_Law_verdict.2.1 206 = .ok (.iconst 1, 1) := by decide +kernel
theorem d_Law_verdict_207 : decode me_Law_verdict.2.1 207 = .ok (.isub, 1) := by decide +kernel
theorem d_Law_verdict_208 : decode me_Law_verdict.2.1 208 = .ok (.aload_n 0, 1) := by decide +kernel
theorem d_Law_verdict_209 : decode me_Law_verdict.2.1 209 = .ok (.getfield 13, 3) := by decide +kernel
theorem d_Law_verdict_212 : decode me_Law_verdict.2.1 212 = .ok (.iload_n 2, 1) := by decide +kernel
theorem d_Law_verdict_213 : decode me_Law_verdict.2.1 213 = .ok (.iconst 1, 1) := by decide +kernel
theorem d_Law_verdict_214 : decode me_Law_verdict.2.1 214 = .ok (.isub, 1) := by decide +kernel
theorem d_Law_verdict_215 : decode me_Law_verdict.2.1 215 = .ok (.iaload, 1) := by decide +kernel
theorem d_Law_verdict_216 : decode me_Law_verdict.2.1 216 = .ok (.ifCond .ne 7, 3) := by decide +kernel
theorem d_Law_verdict_219 : decode me_Law_verdict.2.1 219 = .ok (.iconst 1, 1) := by decide +kernel
theorem d_Law_verdict_220 : decode me_Law_verdict.2.1 220 = .ok (.goto 4, 3) := by decide +kernel
theorem d_Law_verdict_223 : decode me_Law_verdict.2.1 223 = .ok (.iconst 0, 1) := by decide +kernel
theorem d_Law_verdict_224 : decode me_Law_verdict.2.1 224 = .ok (.iastore, 1) := by decide +kernel
theorem d_Law_verdict_225 : decode me_Law_verdict.2.1 225 = .ok (.goto 41, 3) := by decide +kernel
theorem d_Law_verdict_228 : decode me_Law_verdict.2.1 228 = .ok (.iload_n 2, 1) := by decide +kernel
theorem d_Law_verdict_229 : decode me_Law_verdict.2.1 229 = .ok (.iconst 2, 1) := by decide +kernel
theorem d_Law_verdict_230 : decode me_Law_verdict.2.1 230 = .ok (.if_icmp .lt 36, 3) := by decide +kernel
theorem d_Law_verdict_233 : decode me_Law_verdict.2.1 233 = .ok (.iinc 2 (-1), 3) := by decide +kernel
theorem d_Law_verdict_236 : decode me_Law_verdict.2.1 236 = .ok (.aload_n 0, 1) := by decide +kernel
theorem d_Law_verdict_237 : decode me_Law_verdict.2.1 237 = .ok (.getfield 13, 3) := by decide +kernel
theorem d_Law_verdict_240 : decode me_Law_verdict.2.1 240 = .ok (.iload_n 2, 1) := by decide +kernel
theorem d_Law_verdict_241 : decode me_Law_verdict.2.1 241 = .ok (.iconst 1, 1) := by decide +kernel
theorem d_Law_verdict_242 : decode me_Law_verdict.2.1 242 = .ok (.isub, 1) := by decide +kernel
theorem d_Law_verdict_243 : decode me_Law_verdict.2.1 243 = .ok (.bipush (-100), 2) := by decide +kernel
theorem d_Law_verdict_245 : decode me_Law_verdict.2.1 245 = .ok (.iload 5, 2) := by decide +kernel
theorem d_Law_verdict_247 : decode me_Law_verdict.2.1 247 = .ok (.isub, 1) := by decide +kernel
theorem d_Law_verdict_248 : decode me_Law_verdict.2.1 248 = .ok (.aload_n 0, 1) := by decide +kernel
theorem d_Law_verdict_249 : decode me_Law_verdict.2.1 249 = .ok (.getfield 13, 3) := by decide +kernel
theorem d_Law_verdict_252 : decode me_Law_verdict.2.1 252 = .ok (.iload_n 2, 1) := by decide +kernel
theorem d_Law_verdict_253 : decode me_Law_verdict.2.1 253 = .ok (.iconst 1, 1) := by decide +kernel
theorem d_Law_verdict_254 : decode me_Law_verdict.2.1 254 = .ok (.isub, 1) := by decide +kernel
theorem d_Law_verdict_255 : decode me_Law_verdict.2.1 255 = .ok (.iaload, 1) := by decide +kernel
theorem d_Law_verdict_256 : decode me_Law_verdict.2.1 256 = .ok (.aload_n 0, 1) := by decide +kernel
theorem d_Law_verdict_257 : decode me_Law_verdict.2.1 257 = .ok (.getfield 13, 3) := by decide +kernel
theorem d_Law_verdict_260 : decode me_Law_verdict.2.1 260 = .ok (.iload_n 2, 1) := by decide +kernel
theorem d_Law_verdict_261 : decode me_Law_verdict.2.1 261 = .ok (.iaload, 1) := by decide +kernel
theorem d_Law_verdict_262 : decode me_Law_verdict.2.1 262 = .ok (.invokestatic 32, 3) := by decide +kernel
theorem d_Law_verdict_265 : decode me_Law_verdict.2.1 265 = .ok (.iastore, 1) := by decide +kernel
theorem d_Law_verdict_266 : decode me_Law_verdict.2.1 266 = .ok (.iinc 4 1, 3) := by decide +kernel
theorem d_Law_verdict_269 : decode me_Law_verdict.2.1 269 = .ok (.goto (-238), 3) := by decide +kernel
theorem d_Law_verdict_272 : decode me_Law_verdict.2.1 272 = .ok (.iconst 0, 1) := by decide +kernel
theorem d_Law_verdict_273 : decode me_Law_verdict.2.1 273 = .ok (.ireturn, 1) := by decide +kernel
noncomputable def f_Law_verdict_228 (k31 : Int32 → Int32 → Int32 → gk_M → Option (Int32 × gk_M)) (a2 : Int32) (a3 : Int32) (a4 : Int32) (a5 : Int32) (m0 : gk_M) : Option (Int32 × gk_M) :=
  if a2 < 2 then
    k31 a2 a3 (a4 + 1) m0
  else
    gk_ai m0 3 256 ((a2 + (-1)) - 1) fun v1 =>
    gk_ai m0 3 256 (a2 + (-1)) fun v2 =>
    gk_bi (f_Law_worked ((-100) - a5) v1 v2 m0) fun v4 m3 =>
    gk_si m3 3 256 ((a2 + (-1)) - 1) v4 fun m5 =>
    k31 (a2 + (-1)) a3 (a4 + 1) m5

theorem s_Law_verdict_228 {z : gk_Z} (K : gk_F tx z me_Law_verdict 2) {r : Int32} {mem2 : gk_M} {k31 : Int32 → Int32 → Int32 → gk_M → Option (Int32 × gk_M)} (hk31 : ∀ a2 a3 a4 m0, k31 a2 a3 a4 m0 = some (r, mem2) → gk_G tx z me_Law_verdict (gk_R tx z (some (.int r)) mem2) m0 [(0, .ref 1), (1, .ref 19), (2, .int a2), (3, .int a3), (4, .int a4)] [] 31) : ∀ a2 a3 a4 a5 m0, f_Law_verdict_228 k31 a2 a3 a4 a5 m0 = some (r, mem2) → gk_G tx z me_Law_verdict (gk_R tx z (some (.int r)) mem2) m0 [(0, .ref 1), (1, .ref 19), (2, .int a2), (3, .int a3), (4, .int a4), (5, .int a5)] [] 228 := by
  intro a2 a3 a4 a5 m0  h
  unfold f_Law_verdict_228 at h
  refine gk_iload_n (pc := 228) K d_Law_verdict_228 rfl ?_
  refine gk_iconst (pc := 229) K d_Law_verdict_229 kc_2 ?_
  refine gk_ic_lt (tgt := 266) (pc := 230) K d_Law_verdict_230 (by decide) h (fun h => ?_) (fun h => ?_)
  · refine gk_iinc2 (lv2 := [(4, .int (a4 + 1)), (0, .ref 1), (1, .ref 19), (2, .int a2), (3, .int a3), (5, .int a5)]) (pc := 266) K d_Law_verdict_266 rfl kc_1 (by decide) rfl ?_
    refine gk_goto (tgt := 31) (pc := 269) K d_Law_verdict_269 (by decide) ?_
    exact gk_sub [1, 2, 3, 4, 0] rfl (hk31 _ _ _ _  h)
  · refine gk_iinc2 (lv2 := [(2, .int (a2 + (-1))), (0, .ref 1), (1, .ref 19), (3, .int a3), (4, .int a4), (5, .int a5)]) (pc := 233) K d_Law_verdict_233 rfl kc_m1 (by decide) rfl ?_
    refine gk_aload_n (pc := 236) K d_Law_verdict_236 rfl ?_
    refine gk_get (pc := 237) K d_Law_verdict_237 fl_Law_13 tx_1 rfl rfl ?_
    refine gk_iload_n (pc := 240) K d_Law_verdict_240 rfl ?_
    refine gk_iconst (pc := 241) K d_Law_verdict_241 kc_1 ?_
    refine gk_isub (pc := 242) K d_Law_verdict_242 ?_
    refine gk_bipush (pc := 243) K d_Law_verdict_243 kb_m100 ?_
    refine gk_iload (pc := 245) K d_Law_verdict_245 rfl ?_
    refine gk_isub (pc := 247) K d_Law_verdict_247 ?_
    refine gk_aload_n (pc := 248) K d_Law_verdict_248 rfl ?_
    refine gk_get (pc := 249) K d_Law_verdict_249 fl_Law_13 tx_1 rfl rfl ?_
    refine gk_iload_n (pc := 252) K d_Law_verdict_252 rfl ?_
    refine gk_iconst (pc := 253) K d_Law_verdict_253 kc_1 ?_
    refine gk_isub (pc := 254) K d_Law_verdict_254 ?_
    refine gk_iald (pc := 255) K d_Law_verdict_255 tx_3 h (fun v1 h => ?_)
    refine gk_aload_n (pc := 256) K d_Law_verdict_256 rfl ?_
    refine gk_get (pc := 257) K d_Law_verdict_257 fl_Law_13 tx_1 rfl rfl ?_
    refine gk_iload_n (pc := 260) K d_Law_verdict_260 rfl ?_
    refine gk_iald (pc := 261) K d_Law_verdict_261 tx_3 h (fun v2 h => ?_)
    obtain ⟨v4, m3, em3, h⟩ := gk_bi_some h
    refine gk_cSi (As := [.int ((-100) - a5), .int v1, .int v2]) (pc := 262) K d_Law_verdict_262 ms_Law_32 mc_Law_worked rfl (s_Law_worked (gk_FD K)  em3) (by decide) rfl (Nat.le_of_ble_eq_true rfl) ?_
    refine gk_iast (pc := 265) K d_Law_verdict_265 tx_3 h (fun m5 h => ?_)
    refine gk_iinc2 (lv2 := [(4, .int (a4 + 1)), (2, .int (a2 + (-1))), (0, .ref 1), (1, .ref 19), (3, .int a3), (5, .int a5)]) (pc := 266) K d_Law_verdict_266 rfl kc_1 (by decide) rfl ?_
    refine gk_goto (tgt := 31) (pc := 269) K d_Law_verdict_269 (by decide) ?_
    exact gk_sub [2, 3, 1, 4, 0] rfl (hk31 _ _ _ _  h)
noncomputable def f_Law_verdict_224 (k31 : Int32 → Int32 → Int32 → gk_M → Option (Int32 × gk_M)) (a2 : Int32) (a3 : Int32) (a4 : Int32) (s1 : Int32) (s2 : Int32) (m0 : gk_M) : Option (Int32 × gk_M) :=
  gk_si m0 3 256 s1 s2 fun m1 =>
  k31 a2 a3 (a4 + 1) m1

theorem s_Law_verdict_224 {z : gk_Z} (K : gk_F tx z me_Law_verdict 2) {r : Int32} {mem2 : gk_M} {k31 : Int32 → Int32 → Int32 → gk_M → Option (Int32 × gk_M)} (hk31 : ∀ a2 a3 a4 m0, k31 a2 a3 a4 m0 = some (r, mem2) → gk_G tx z me_Law_verdict (gk_R tx z (some (.int r)) mem2) m0 [(0, .ref 1), (1, .ref 19), (2, .int a2), (3, .int a3), (4, .int a4)] [] 31) : ∀ a2 a3 a4 s1 s2 m0, f_Law_verdict_224 k31 a2 a3 a4 s1 s2 m0 = some (r, mem2) → gk_G tx z me_Law_verdict (gk_R tx z (some (.int r)) mem2) m0 [(0, .ref 1), (1, .ref 19), (2, .int a2), (3, .int a3), (4, .int a4)] [.int s2, .int s1, .ref 3] 224 := by
  intro a2 a3 a4 s1 s2 m0  h
  unfold f_Law_verdict_224 at h
  refine gk_iast (pc := 224) K d_Law_verdict_224 tx_3 h (fun m1 h => ?_)
  refine gk_goto (tgt := 266) (pc := 225) K d_Law_verdict_225 (by decide) ?_
  refine gk_iinc2 (lv2 := [(4, .int (a4 + 1)), (0, .ref 1), (1, .ref 19), (2, .int a2), (3, .int a3)]) (pc := 266) K d_Law_verdict_266 rfl kc_1 (by decide) rfl ?_
  refine gk_goto (tgt := 31) (pc := 269) K d_Law_verdict_269 (by decide) ?_
  exact gk_sub [1, 2, 3, 4, 0] rfl (hk31 _ _ _ _  h)
noncomputable def f_Law_verdict_188 (k31 : Int32 → Int32 → Int32 → gk_M → Option (Int32 × gk_M)) (a2 : Int32) (a3 : Int32) (a4 : Int32) (a5 : Int32) (m0 : gk_M) : Option (Int32 × gk_M) :=
  if ¬ a5 = (-133) then
    f_Law_verdict_228 k31 a2 a3 a4 a5 m0
  else
    if a2 < 1 then
      f_Law_verdict_228 k31 a2 a3 a4 a5 m0
    else
      gk_ai m0 3 256 (a2 - 1) fun v1 =>
      if ¬ v1 = 0 then
        f_Law_verdict_224 k31 a2 a3 a4 (a2 - 1) 0 m0
      else
        f_Law_verdict_224 k31 a2 a3 a4 (a2 - 1) 1 m0

theorem s_Law_verdict_188 {z : gk_Z} (K : gk_F tx z me_Law_verdict 2) {r : Int32} {mem2 : gk_M} {k31 : Int32 → Int32 → Int32 → gk_M → Option (Int32 × gk_M)} (hk31 : ∀ a2 a3 a4 m0, k31 a2 a3 a4 m0 = some (r, mem2) → gk_G tx z me_Law_verdict (gk_R tx z (some (.int r)) mem2) m0 [(0, .ref 1), (1, .ref 19), (2, .int a2), (3, .int a3), (4, .int a4)] [] 31) : ∀ a2 a3 a4 a5 m0, f_Law_verdict_188 k31 a2 a3 a4 a5 m0 = some (r, mem2) → gk_G tx z me_Law_verdict (gk_R tx z (some (.int r)) mem2) m0 [(0, .ref 1), (1, .ref 19), (2, .int a2), (3, .int a3), (4, .int a4), (5, .int a5)] [] 188 := by
  intro a2 a3 a4 a5 m0  h
  unfold f_Law_verdict_188 at h
  refine gk_iload (pc := 188) K d_Law_verdict_188 rfl ?_
  refine gk_sipush (pc := 190) K d_Law_verdict_190 ks_m133 ?_
  refine gk_ic_ne (tgt := 228) (pc := 193) K d_Law_verdict_193 (by decide) h (fun h => ?_) (fun h => ?_)
  · exact gk_sub [0, 1, 2, 3, 4, 5] rfl (s_Law_verdict_228 K hk31 _ _ _ _ _  h)
  · refine gk_iload_n (pc := 196) K d_Law_verdict_196 rfl ?_
    refine gk_iconst (pc := 197) K d_Law_verdict_197 kc_1 ?_
    refine gk_ic_lt (tgt := 228) (pc := 198) K d_Law_verdict_198 (by decide) h (fun h => ?_) (fun h => ?_)
    · exact gk_sub [0, 1, 2, 3, 4, 5] rfl (s_Law_verdict_228 K hk31 _ _ _ _ _  h)
    · refine gk_aload_n (pc := 201) K d_Law_verdict_201 rfl ?_
      refine gk_get (pc := 202) K d_Law_verdict_202 fl_Law_13 tx_1 rfl rfl ?_
      refine gk_iload_n (pc := 205) K d_Law_verdict_205 rfl ?_
      refine gk_iconst (pc := 206) K d_Law_verdict_206 kc_1 ?_
      refine gk_isub (pc := 207) K d_Law_verdict_207 ?_
      refine gk_aload_n (pc := 208) K d_Law_verdict_208 rfl ?_
      refine gk_get (pc := 209) K d_Law_verdict_209 fl_Law_13 tx_1 rfl rfl ?_
      refine gk_iload_n (pc := 212) K d_Law_verdict_212 rfl ?_
      refine gk_iconst (pc := 213) K d_Law_verdict_213 kc_1 ?_
      refine gk_isub (pc := 214) K d_Law_verdict_214 ?_
      refine gk_iald (pc := 215) K d_Law_verdict_215 tx_3 h (fun v1 h => ?_)
      refine gk_if_ne (tgt := 223) (pc := 216) K d_Law_verdict_216 (by decide) h (fun h => ?_) (fun h => ?_)
      · refine gk_iconst (pc := 223) K d_Law_verdict_223 kc_0 ?_
        exact gk_sub [0, 1, 2, 3, 4] rfl (s_Law_verdict_224 K hk31 _ _ _ _ _ _  h)
      · refine gk_iconst (pc := 219) K d_Law_verdict_219 kc_1 ?_
        refine gk_goto (tgt := 224) (pc := 220) K d_Law_verdict_220 (by decide) ?_
        exact gk_sub [0, 1, 2, 3, 4] rfl (s_Law_verdict_224 K hk31 _ _ _ _ _ _  h)
noncomputable def f_Law_verdict_151 (k31 : Int32 → Int32 → Int32 → gk_M → Option (Int32 × gk_M)) (a2 : Int32) (a4 : Int32) (s0 : Int32) (m0 : gk_M) : Option (Int32 × gk_M) :=
  k31 a2 s0 (a4 + 1) m0

theorem s_Law_verdict_151 {z : gk_Z} (K : gk_F tx z me_Law_verdict 2) {r : Int32} {mem2 : gk_M} {k31 : Int32 → Int32 → Int32 → gk_M → Option (Int32 × gk_M)} (hk31 : ∀ a2 a3 a4 m0, k31 a2 a3 a4 m0 = some (r, mem2) → gk_G tx z me_Law_verdict (gk_R tx z (some (.int r)) mem2) m0 [(0, .ref 1), (1, .ref 19), (2, .int a2), (3, .int a3), (4, .int a4)] [] 31) : ∀ a2 a4 s0 m0, f_Law_verdict_151 k31 a2 a4 s0 m0 = some (r, mem2) → gk_G tx z me_Law_verdict (gk_R tx z (some (.int r)) mem2) m0 [(0, .ref 1), (1, .ref 19), (2, .int a2), (4, .int a4)] [.int s0] 151 := by
  intro a2 a4 s0 m0  h
  unfold f_Law_verdict_151 at h
  refine gk_istore_n (lv2 := [(3, .int s0), (0, .ref 1), (1, .ref 19), (2, .int a2), (4, .int a4)]) (pc := 151) K d_Law_verdict_151 (by decide) rfl ?_
  refine gk_goto (tgt := 266) (pc := 152) K d_Law_verdict_152 (by decide) ?_
  refine gk_iinc2 (lv2 := [(4, .int (a4 + 1)), (3, .int s0), (0, .ref 1), (1, .ref 19), (2, .int a2)]) (pc := 266) K d_Law_verdict_266 rfl kc_1 (by decide) rfl ?_
  refine gk_goto (tgt := 31) (pc := 269) K d_Law_verdict_269 (by decide) ?_
  exact gk_sub [2, 3, 4, 1, 0] rfl (hk31 _ _ _ _  h)
noncomputable def f_Law_verdict_112 (k31 : Int32 → Int32 → Int32 → gk_M → Option (Int32 × gk_M)) (a2 : Int32) (a3 : Int32) (a4 : Int32) (a5 : Int32) (m0 : gk_M) : Option (Int32 × gk_M) :=
  if ¬ a5 = (-159) then
    if ¬ a5 = (-163) then
      if ¬ a5 = (-400) then
        f_Law_verdict_188 k31 a2 a3 a4 a5 m0
      else
        if a2 < 1 then
          f_Law_verdict_188 k31 a2 a3 a4 a5 m0
        else
          gk_ai m0 3 256 (a2 - 1) fun v1 =>
          gk_si m0 3 256 (a2 - 1) (-v1) fun m2 =>
          k31 a2 a3 (a4 + 1) m2
    else
      gk_ai m0 3 256 0 fun v3 =>
      if ¬ v3 = 0 then
        f_Law_verdict_151 k31 0 a4 0 m0
      else
        f_Law_verdict_151 k31 0 a4 1 m0
  else
    gk_ai m0 3 256 0 fun v4 =>
    some (v4, m0)

theorem s_Law_verdict_112 {z : gk_Z} (K : gk_F tx z me_Law_verdict 2) {r : Int32} {mem2 : gk_M} {k31 : Int32 → Int32 → Int32 → gk_M → Option (Int32 × gk_M)} (hk31 : ∀ a2 a3 a4 m0, k31 a2 a3 a4 m0 = some (r, mem2) → gk_G tx z me_Law_verdict (gk_R tx z (some (.int r)) mem2) m0 [(0, .ref 1), (1, .ref 19), (2, .int a2), (3, .int a3), (4, .int a4)] [] 31) : ∀ a2 a3 a4 a5 m0, f_Law_verdict_112 k31 a2 a3 a4 a5 m0 = some (r, mem2) → gk_G tx z me_Law_verdict (gk_R tx z (some (.int r)) mem2) m0 [(0, .ref 1), (1, .ref 19), (2, .int a2), (3, .int a3), (4, .int a4), (5, .int a5)] [] 112 := by
  intro a2 a3 a4 a5 m0  h
  unfold f_Law_verdict_112 at h
  refine gk_iload (pc := 112) K d_Law_verdict_112 rfl ?_
  refine gk_sipush (pc := 114) K d_Law_verdict_114 ks_m159 ?_
  refine gk_ic_ne (tgt := 127) (pc := 117) K d_Law_verdict_117 (by decide) h (fun h => ?_) (fun h => ?_)
  · refine gk_iload (pc := 127) K d_Law_verdict_127 rfl ?_
    refine gk_sipush (pc := 129) K d_Law_verdict_129 ks_m163 ?_
    refine gk_ic_ne (tgt := 155) (pc := 132) K d_Law_verdict_132 (by decide) h (fun h => ?_) (fun h => ?_)
    · refine gk_iload (pc := 155) K d_Law_verdict_155 rfl ?_
      refine gk_sipush (pc := 157) K d_Law_verdict_157 ks_m400 ?_
      refine gk_ic_ne (tgt := 188) (pc := 160) K d_Law_verdict_160 (by decide) h (fun h => ?_) (fun h => ?_)
      · exact gk_sub [0, 1, 2, 3, 4, 5] rfl (s_Law_verdict_188 K hk31 _ _ _ _ _  h)
      · refine gk_iload_n (pc := 163) K d_Law_verdict_163 rfl ?_
        refine gk_iconst (pc := 164) K d_Law_verdict_164 kc_1 ?_
        refine gk_ic_lt (tgt := 188) (pc := 165) K d_Law_verdict_165 (by decide) h (fun h => ?_) (fun h => ?_)
        · exact gk_sub [0, 1, 2, 3, 4, 5] rfl (s_Law_verdict_188 K hk31 _ _ _ _ _  h)
        · refine gk_aload_n (pc := 168) K d_Law_verdict_168 rfl ?_
          refine gk_get (pc := 169) K d_Law_verdict_169 fl_Law_13 tx_1 rfl rfl ?_
          refine gk_iload_n (pc := 172) K d_Law_verdict_172 rfl ?_
          refine gk_iconst (pc := 173) K d_Law_verdict_173 kc_1 ?_
          refine gk_isub (pc := 174) K d_Law_verdict_174 ?_
          refine gk_aload_n (pc := 175) K d_Law_verdict_175 rfl ?_
          refine gk_get (pc := 176) K d_Law_verdict_176 fl_Law_13 tx_1 rfl rfl ?_
          refine gk_iload_n (pc := 179) K d_Law_verdict_179 rfl ?_
          refine gk_iconst (pc := 180) K d_Law_verdict_180 kc_1 ?_
          refine gk_isub (pc := 181) K d_Law_verdict_181 ?_
          refine gk_iald (pc := 182) K d_Law_verdict_182 tx_3 h (fun v1 h => ?_)
          refine gk_ineg (pc := 183) K d_Law_verdict_183 ?_
          refine gk_iast (pc := 184) K d_Law_verdict_184 tx_3 h (fun m2 h => ?_)
          refine gk_goto (tgt := 266) (pc := 185) K d_Law_verdict_185 (by decide) ?_
          refine gk_iinc2 (lv2 := [(4, .int (a4 + 1)), (0, .ref 1), (1, .ref 19), (2, .int a2), (3, .int a3), (5, .int a5)]) (pc := 266) K d_Law_verdict_266 rfl kc_1 (by decide) rfl ?_
          refine gk_goto (tgt := 31) (pc := 269) K d_Law_verdict_269 (by decide) ?_
          exact gk_sub [1, 2, 3, 4, 0] rfl (hk31 _ _ _ _  h)
    · refine gk_iconst (pc := 135) K d_Law_verdict_135 kc_0 ?_
      refine gk_istore_n (lv2 := [(2, .int 0), (0, .ref 1), (1, .ref 19), (3, .int a3), (4, .int a4), (5, .int a5)]) (pc := 136) K d_Law_verdict_136 (by decide) rfl ?_
      refine gk_aload_n (pc := 137) K d_Law_verdict_137 rfl ?_
      refine gk_get (pc := 138) K d_Law_verdict_138 fl_Law_13 tx_1 rfl rfl ?_
      refine gk_iconst (pc := 141) K d_Law_verdict_141 kc_0 ?_
      refine gk_iald (pc := 142) K d_Law_verdict_142 tx_3 h (fun v3 h => ?_)
      refine gk_if_ne (tgt := 150) (pc := 143) K d_Law_verdict_143 (by decide) h (fun h => ?_) (fun h => ?_)
      · refine gk_iconst (pc := 150) K d_Law_verdict_150 kc_0 ?_
        exact gk_sub [1, 2, 0, 4] rfl (s_Law_verdict_151 K hk31 _ _ _ _  h)
      · refine gk_iconst (pc := 146) K d_Law_verdict_146 kc_1 ?_
        refine gk_goto (tgt := 151) (pc := 147) K d_Law_verdict_147 (by decide) ?_
        exact gk_sub [1, 2, 0, 4] rfl (s_Law_verdict_151 K hk31 _ _ _ _  h)
  · refine gk_aload_n (pc := 120) K d_Law_verdict_120 rfl ?_
    refine gk_get (pc := 121) K d_Law_verdict_121 fl_Law_13 tx_1 rfl rfl ?_
    refine gk_iconst (pc := 124) K d_Law_verdict_124 kc_0 ?_
    refine gk_iald (pc := 125) K d_Law_verdict_125 tx_3 h (fun v4 h => ?_)
    exact gk_iret (pc := 126) K d_Law_verdict_126 rfl h
noncomputable def f_Law_verdict_105 (k31 : Int32 → Int32 → Int32 → gk_M → Option (Int32 × gk_M)) (a2 : Int32) (a3 : Int32) (a4 : Int32) (s1 : Int32) (s2 : Int32) (m0 : gk_M) : Option (Int32 × gk_M) :=
  gk_si m0 3 256 s1 s2 fun m1 =>
  k31 (a2 + 1) a3 (a4 + 1) m1

theorem s_Law_verdict_105 {z : gk_Z} (K : gk_F tx z me_Law_verdict 2) {r : Int32} {mem2 : gk_M} {k31 : Int32 → Int32 → Int32 → gk_M → Option (Int32 × gk_M)} (hk31 : ∀ a2 a3 a4 m0, k31 a2 a3 a4 m0 = some (r, mem2) → gk_G tx z me_Law_verdict (gk_R tx z (some (.int r)) mem2) m0 [(0, .ref 1), (1, .ref 19), (2, .int a2), (3, .int a3), (4, .int a4)] [] 31) : ∀ a2 a3 a4 s1 s2 m0, f_Law_verdict_105 k31 a2 a3 a4 s1 s2 m0 = some (r, mem2) → gk_G tx z me_Law_verdict (gk_R tx z (some (.int r)) mem2) m0 [(0, .ref 1), (1, .ref 19), (2, .int a2), (3, .int a3), (4, .int a4)] [.int s2, .int s1, .ref 3] 105 := by
  intro a2 a3 a4 s1 s2 m0  h
  unfold f_Law_verdict_105 at h
  refine gk_iast (pc := 105) K d_Law_verdict_105 tx_3 h (fun m1 h => ?_)
  refine gk_iinc2 (lv2 := [(2, .int (a2 + 1)), (0, .ref 1), (1, .ref 19), (3, .int a3), (4, .int a4)]) (pc := 106) K d_Law_verdict_106 rfl kc_1 (by decide) rfl ?_
  refine gk_goto (tgt := 266) (pc := 109) K d_Law_verdict_109 (by decide) ?_
  refine gk_iinc2 (lv2 := [(4, .int (a4 + 1)), (2, .int (a2 + 1)), (0, .ref 1), (1, .ref 19), (3, .int a3)]) (pc := 266) K d_Law_verdict_266 rfl kc_1 (by decide) rfl ?_
  refine gk_goto (tgt := 31) (pc := 269) K d_Law_verdict_269 (by decide) ?_
  exact gk_sub [2, 3, 1, 4, 0] rfl (hk31 _ _ _ _  h)
noncomputable def f_Law_verdict_66 (k31 : Int32 → Int32 → Int32 → gk_M → Option (Int32 × gk_M)) (a2 : Int32) (a4 : Int32) (s0 : Int32) (m0 : gk_M) : Option (Int32 × gk_M) :=
  k31 a2 s0 (a4 + 1) m0

theorem s_Law_verdict_66 {z : gk_Z} (K : gk_F tx z me_Law_verdict 2) {r : Int32} {mem2 : gk_M} {k31 : Int32 → Int32 → Int32 → gk_M → Option (Int32 × gk_M)} (hk31 : ∀ a2 a3 a4 m0, k31 a2 a3 a4 m0 = some (r, mem2) → gk_G tx z me_Law_verdict (gk_R tx z (some (.int r)) mem2) m0 [(0, .ref 1), (1, .ref 19), (2, .int a2), (3, .int a3), (4, .int a4)] [] 31) : ∀ a2 a4 s0 m0, f_Law_verdict_66 k31 a2 a4 s0 m0 = some (r, mem2) → gk_G tx z me_Law_verdict (gk_R tx z (some (.int r)) mem2) m0 [(0, .ref 1), (1, .ref 19), (2, .int a2), (4, .int a4)] [.int s0] 66 := by
  intro a2 a4 s0 m0  h
  unfold f_Law_verdict_66 at h
  refine gk_istore_n (lv2 := [(3, .int s0), (0, .ref 1), (1, .ref 19), (2, .int a2), (4, .int a4)]) (pc := 66) K d_Law_verdict_66 (by decide) rfl ?_
  refine gk_goto (tgt := 266) (pc := 67) K d_Law_verdict_67 (by decide) ?_
  refine gk_iinc2 (lv2 := [(4, .int (a4 + 1)), (3, .int s0), (0, .ref 1), (1, .ref 19), (2, .int a2)]) (pc := 266) K d_Law_verdict_266 rfl kc_1 (by decide) rfl ?_
  refine gk_goto (tgt := 31) (pc := 269) K d_Law_verdict_269 (by decide) ?_
  exact gk_sub [2, 3, 4, 1, 0] rfl (hk31 _ _ _ _  h)
noncomputable def f_Law_verdict_31  : Nat → Int32 → Int32 → Int32 → gk_M → Option (Int32 × gk_M)
  | 0, _, _, _, _ => none
  | n + 1, a2, a3, a4, m0 =>
    if (m0.1 1 2) ≤ a4 then
      some (0, m0)
    else
      gk_ai m0 2 256 a4 fun v1 =>
      if a3 = 0 then
        if v1 < (-6) then
          f_Law_verdict_112 (f_Law_verdict_31 n) a2 a3 a4 v1 m0
        else
          if 256 ≤ a2 then
            f_Law_verdict_112 (f_Law_verdict_31 n) a2 a3 a4 v1 m0
          else
            if v1 < 0 then
              gk_ai m0 19 6 ((-1) - v1) fun v2 =>
              f_Law_verdict_105 (f_Law_verdict_31 n) a2 a3 a4 a2 v2 m0
            else
              f_Law_verdict_105 (f_Law_verdict_31 n) a2 a3 a4 a2 v1 m0
      else
        if v1 = (-159) then
          f_Law_verdict_66 (f_Law_verdict_31 n) a2 a4 0 m0
        else
          f_Law_verdict_66 (f_Law_verdict_31 n) a2 a4 1 m0

theorem s_Law_verdict_31 {z : gk_Z} (K : gk_F tx z me_Law_verdict 2) {r : Int32} {mem2 : gk_M} : ∀ n a2 a3 a4 m0, f_Law_verdict_31 n a2 a3 a4 m0 = some (r, mem2) → gk_G tx z me_Law_verdict (gk_R tx z (some (.int r)) mem2) m0 [(0, .ref 1), (1, .ref 19), (2, .int a2), (3, .int a3), (4, .int a4)] [] 31 := by
  intro n
  induction n with
  | zero => intro a2 a3 a4 m0  h; exact nomatch (show (none : Option _) = some _ from h)
  | succ n ih =>
    intro a2 a3 a4 m0  h
    unfold f_Law_verdict_31 at h
    refine gk_iload (pc := 31) K d_Law_verdict_31 rfl ?_
    refine gk_aload_n (pc := 33) K d_Law_verdict_33 rfl ?_
    refine gk_get (pc := 34) K d_Law_verdict_34 fl_Law_16 tx_1 rfl rfl ?_
    refine gk_ic_ge (tgt := 272) (pc := 37) K d_Law_verdict_37 (by decide) h (fun h => ?_) (fun h => ?_)
    · refine gk_iconst (pc := 272) K d_Law_verdict_272 kc_0 ?_
      exact gk_iret (pc := 273) K d_Law_verdict_273 rfl h
    · refine gk_aload_n (pc := 40) K d_Law_verdict_40 rfl ?_
      refine gk_get (pc := 41) K d_Law_verdict_41 fl_Law_9 tx_1 rfl rfl ?_
      refine gk_iload (pc := 44) K d_Law_verdict_44 rfl ?_
      refine gk_iald (pc := 46) K d_Law_verdict_46 tx_2 h (fun v1 h => ?_)
      refine gk_istore (lv2 := [(5, .int v1), (0, .ref 1), (1, .ref 19), (2, .int a2), (3, .int a3), (4, .int a4)]) (pc := 47) K d_Law_verdict_47 (by decide) rfl ?_
      refine gk_iload_n (pc := 49) K d_Law_verdict_49 rfl ?_
      refine gk_if_eq (tgt := 70) (pc := 50) K d_Law_verdict_50 (by decide) h (fun h => ?_) (fun h => ?_)
      · refine gk_iload (pc := 70) K d_Law_verdict_70 rfl ?_
        refine gk_bipush (pc := 72) K d_Law_verdict_72 kb_m6 ?_
        refine gk_ic_lt (tgt := 112) (pc := 74) K d_Law_verdict_74 (by decide) h (fun h => ?_) (fun h => ?_)
        · exact gk_sub [1, 2, 3, 4, 5, 0] rfl (s_Law_verdict_112 K (fun x0 x1 x2 m  h => ih x0 x1 x2 m  h) _ _ _ _ _  h)
        · refine gk_iload_n (pc := 77) K d_Law_verdict_77 rfl ?_
          refine gk_sipush (pc := 78) K d_Law_verdict_78 ks_256 ?_
          refine gk_ic_ge (tgt := 112) (pc := 81) K d_Law_verdict_81 (by decide) h (fun h => ?_) (fun h => ?_)
          · exact gk_sub [1, 2, 3, 4, 5, 0] rfl (s_Law_verdict_112 K (fun x0 x1 x2 m  h => ih x0 x1 x2 m  h) _ _ _ _ _  h)
          · refine gk_aload_n (pc := 84) K d_Law_verdict_84 rfl ?_
            refine gk_get (pc := 85) K d_Law_verdict_85 fl_Law_13 tx_1 rfl rfl ?_
            refine gk_iload_n (pc := 88) K d_Law_verdict_88 rfl ?_
            refine gk_iload (pc := 89) K d_Law_verdict_89 rfl ?_
            refine gk_if_lt (tgt := 99) (pc := 91) K d_Law_verdict_91 (by decide) h (fun h => ?_) (fun h => ?_)
            · refine gk_aload_n (pc := 99) K d_Law_verdict_99 rfl ?_
              refine gk_iconst (pc := 100) K d_Law_verdict_100 kc_m1 ?_
              refine gk_iload (pc := 101) K d_Law_verdict_101 rfl ?_
              refine gk_isub (pc := 103) K d_Law_verdict_103 ?_
              refine gk_iald (pc := 104) K d_Law_verdict_104 tx_19 h (fun v2 h => ?_)
              exact gk_sub [1, 2, 3, 4, 5] rfl (s_Law_verdict_105 K (fun x0 x1 x2 m  h => ih x0 x1 x2 m  h) _ _ _ _ _ _  h)
            · refine gk_iload (pc := 94) K d_Law_verdict_94 rfl ?_
              refine gk_goto (tgt := 105) (pc := 96) K d_Law_verdict_96 (by decide) ?_
              exact gk_sub [1, 2, 3, 4, 5] rfl (s_Law_verdict_105 K (fun x0 x1 x2 m  h => ih x0 x1 x2 m  h) _ _ _ _ _ _  h)
      · refine gk_iload (pc := 53) K d_Law_verdict_53 rfl ?_
        refine gk_sipush (pc := 55) K d_Law_verdict_55 ks_m159 ?_
        refine gk_ic_eq (tgt := 65) (pc := 58) K d_Law_verdict_58 (by decide) h (fun h => ?_) (fun h => ?_)
        · refine gk_iconst (pc := 65) K d_Law_verdict_65 kc_0 ?_
          exact gk_sub [1, 2, 3, 5] rfl (s_Law_verdict_66 K (fun x0 x1 x2 m  h => ih x0 x1 x2 m  h) _ _ _ _  h)
        · refine gk_iconst (pc := 61) K d_Law_verdict_61 kc_1 ?_
          refine gk_goto (tgt := 66) (pc := 62) K d_Law_verdict_62 (by decide) ?_
          exact gk_sub [1, 2, 3, 5] rfl (s_Law_verdict_66 K (fun x0 x1 x2 m  h => ih x0 x1 x2 m  h) _ _ _ _  h)
noncomputable def f_Law_verdict   (m0 : gk_M) : Option (Int32 × gk_M) :=
  if ¬ (m0.1 1 2) = 0 then
    f_Law_verdict_31 gk_fv 0 0 0 m0
  else
    gk_ai m0 19 6 1 fun v1 =>
    gk_ai m0 19 6 0 fun v2 =>
    if (v2 + 3) < v1 then
      some (0, m0)
    else
      some (1, m0)

theorem s_Law_verdict_0 {z : gk_Z} (K : gk_F tx z me_Law_verdict 2) {r : Int32} {mem2 : gk_M} : ∀  m0, f_Law_verdict  m0 = some (r, mem2) → gk_G tx z me_Law_verdict (gk_R tx z (some (.int r)) mem2) m0 [(0, .ref 1), (1, .ref 19)] [] 0 := by
  intro  m0  h
  unfold f_Law_verdict at h
  refine gk_aload_n (pc := 0) K d_Law_verdict_0 rfl ?_
  refine gk_get (pc := 1) K d_Law_verdict_1 fl_Law_16 tx_1 rfl rfl ?_
  refine gk_if_ne (tgt := 24) (pc := 4) K d_Law_verdict_4 (by decide) h (fun h => ?_) (fun h => ?_)
  · refine gk_iconst (pc := 24) K d_Law_verdict_24 kc_0 ?_
    refine gk_istore_n (lv2 := [(2, .int 0), (0, .ref 1), (1, .ref 19)]) (pc := 25) K d_Law_verdict_25 (by decide) rfl ?_
    refine gk_iconst (pc := 26) K d_Law_verdict_26 kc_0 ?_
    refine gk_istore_n (lv2 := [(3, .int 0), (2, .int 0), (0, .ref 1), (1, .ref 19)]) (pc := 27) K d_Law_verdict_27 (by decide) rfl ?_
    refine gk_iconst (pc := 28) K d_Law_verdict_28 kc_0 ?_
    refine gk_istore (lv2 := [(4, .int 0), (3, .int 0), (2, .int 0), (0, .ref 1), (1, .ref 19)]) (pc := 29) K d_Law_verdict_29 (by decide) rfl ?_
    exact gk_sub [3, 4, 2, 1, 0] rfl (s_Law_verdict_31 K _ _ _ _ _  h)
  · refine gk_aload_n (pc := 7) K d_Law_verdict_7 rfl ?_
    refine gk_iconst (pc := 8) K d_Law_verdict_8 kc_1 ?_
    refine gk_iald (pc := 9) K d_Law_verdict_9 tx_19 h (fun v1 h => ?_)
    refine gk_aload_n (pc := 10) K d_Law_verdict_10 rfl ?_
    refine gk_iconst (pc := 11) K d_Law_verdict_11 kc_0 ?_
    refine gk_iald (pc := 12) K d_Law_verdict_12 tx_19 h (fun v2 h => ?_)
    refine gk_iconst (pc := 13) K d_Law_verdict_13 kc_3 ?_
    refine gk_iadd (pc := 14) K d_Law_verdict_14 ?_
    refine gk_ic_gt (tgt := 22) (pc := 15) K d_Law_verdict_15 (by decide) h (fun h => ?_) (fun h => ?_)
    · refine gk_iconst (pc := 22) K d_Law_verdict_22 kc_0 ?_
      exact gk_iret (pc := 23) K d_Law_verdict_23 rfl h
    · refine gk_iconst (pc := 18) K d_Law_verdict_18 kc_1 ?_
      refine gk_goto (tgt := 23) (pc := 19) K d_Law_verdict_19 (by decide) ?_
      exact gk_iret (pc := 23) K d_Law_verdict_23 rfl h
theorem s_Law_verdict {l : Launch} {u : gk_U} (hD : gk_D tx u) {m0 mem2 : gk_M} {r : Int32} (h : f_Law_verdict  m0 = some (r, mem2)) : gk_C tx l u me_Law_verdict 2 [.ref 1, .ref 19] m0 (some (.int r)) mem2 :=
  gk_enter hD mc_Law_verdict (Nat.le_of_ble_eq_true rfl) rfl (fun z _ _ K => s_Law_verdict_0 K  _  h)
