/-! SIM: bent -/
theorem c_bent {mx mm : gk_M} (h : rl_ mx mm) (a b : Int32) : sm_al2 mx mm (f_X_bent a b mx) (f_M_bent a b mm) := by
  obtain ⟨n, TX, TM, R, S, F, nb, hX, hM, hT, hP, hK, hS, hH, hB, hR, hD⟩ := id h
  have hn := hX.2.1
  have xR := hX.2.2.2.1
  have mR := hM.2.2.2.1
  have h4 := xR.2.1
  unfold f_X_bent f_M_bent
  rcases x_isStretch xR a with ⟨e, e'⟩ | ⟨r, i, hr, hi, rfl, e, e1, e2⟩
  · rcases m_isStretch mR a with ⟨g, g'⟩ | ⟨r, i, hr, hi, ea, g⟩
    · rw [e, g, sm_bi, sm_bi, if_pos rfl, if_pos rfl]; exact sm_al_id h
    · exact absurd ea (e' r i hr hi)
  rcases m_isStretch mR (sm_n (10 * r + i)) with ⟨g, g'⟩ | ⟨r', i', hr', hi', ea, g⟩
  · exact absurd rfl (g' r i hr hi)
  obtain ⟨xa, xb, xc, xd⟩ := xR.2.2 r hr
  obtain ⟨ma, mb, mc, md⟩ := mR.2.2 r hr
  rw [e, g, sm_bi, sm_bi, if_neg (show ¬ (1 : Int32) = 0 by decide), if_neg (show ¬ (1 : Int32) = 0 by decide), show (1 : Int32) = sm_n 1 from rfl, x_isChoice b (by omega), sm_bi, m_within (h := 2) (hi := 1) (by omega) rfl, sm_bi]
  rcases sm_u_cases b 2 (by omega) with ⟨e0, e3⟩ | ⟨w, hw, rfl, e3⟩
  · rw [if_neg (fun z => z e0), if_neg (fun z => z e0)]; exact sm_al_id h
  rw [if_pos (show ¬ sm_u (sm_n w) (1 + 1) = 0 by rw [e3]; decide), if_pos (show ¬ sm_u (sm_n w) 2 = 0 by rw [e3]; decide), e1, e2, sm_let, sm_ai (by omega) (by omega), xa, sm_ai (by omega) (by omega), ma]
  by_cases c6 : R.2.1 r = 6
  · rw [c6, if_neg (by decide), if_neg (by decide)]; exact sm_al_id h
  rw [if_pos (show sm_n (R.2.1 r) < 6 by simp (disch := omega) only [sm_lit, sm_nlt, sm_nle, sm_neq, sm_n_add, sm_n_mul, sm_n_div, sm_n_rem, sm_bi, sm_bl, sm_bv, sm_let, sm_zz0, sm_zz1, sm_ai, sm_si, sm_al, sm_sl, sm_ar, sm_mi1, sm_mi0, sm_ml1, sm_ml0, sm_mil, sm_mli]; omega), if_pos (show ¬ sm_n (R.2.1 r) = 6 by simp (disch := omega) only [sm_lit, sm_nlt, sm_nle, sm_neq, sm_n_add, sm_n_mul, sm_n_div, sm_n_rem, sm_bi, sm_bl, sm_bv, sm_let, sm_zz0, sm_zz1, sm_ai, sm_si, sm_al, sm_sl, sm_ar, sm_mi1, sm_mi0, sm_ml1, sm_ml0, sm_mil, sm_mli]; exact c6)]
  unfold f_Planner_bestBend
  rw [x_cornerAt xR hr (by omega), sm_bi, m_cornerOf mR hr (by omega), sm_bi, sm_n_add, m_cornerOf mR hr hi, sm_bi, show sm_n i + 1 = sm_n (i + 1) from sm_n_add i 1, x_cornerAt xR hr hi, sm_bi]
  have pa := (xd i (by omega)).2
  have pb := (xd (i + 1) hi).2
  obtain ⟨A, hA⟩ : ∃ A, A = R.2.2 r i := ⟨_, rfl⟩
  obtain ⟨B, hB'⟩ : ∃ B, B = R.2.2 r (i + 1) := ⟨_, rfl⟩
  rw [← hA, ← hB']
  rw [← hA] at pa
  rw [← hB'] at pb
  have hd := rl_dis hT
  obtain ⟨m1, q1, g1⟩ := x_bb hd (k := r) (by omega) pa pb 900 0 gk_fv none mx (by omega) (by rw [gk_fv_eq]; omega) (fun q hq => by cases hq) (sm_q0 hX)
  rw [show sm_b1 none = (-2 : Int32) from rfl, show sm_n (sm_b2o none) = (1000000 : Int32) from rfl, show sm_n 0 = (0 : Int32) from rfl] at g1
  rw [g1]
  obtain ⟨o, ho⟩ : ∃ o, o = sm_bb (sm_bok n TX A B) (sm_W n TX S F r A B) 900 0 none := ⟨_, rfl⟩
  rw [← ho]
  unfold f_Planner_bestBend_133
  obtain ⟨m2, g2, q2⟩ := x_guiltsBetween hd (show r < 5 by omega) pa pb (show 1000000 < 2147483648 by omega) q1
  have t1 := sm_totl hn TX S F r A B
  rw [show (1000000 : Int32) = sm_n 1000000 from rfl, g2, Nat.min_eq_left (by omega), sm_bi, sm_let, sm_bi]
  have hex : o ≠ none := by
    rw [ho]
    refine sm_bb_some _ _ _ _ _ (Or.inr ?_)
    obtain ⟨p, p1, p2⟩ := sm_pig 12 (A :: B :: (List.range n).map (fun t => (TX t).1)) (by simp; omega)
    refine ⟨p, by omega, by omega, ?_⟩
    unfold sm_bok
    simp only [List.mem_cons, List.mem_map, List.mem_range, not_or, not_exists, not_and] at p2
    have nh : ¬ sm_has n TX p = true := by
      rw [sm_has_iff]
      rintro ⟨t, ht, z⟩
      exact p2.2.2 t ht z
    simp [p2.1, p2.2.1, nh]
  have hlt : ∀ q, o = some q → q.1 < 900 := fun q hq => sm_bb_lt _ _ 900 0 none q (by omega) (fun r hr => by cases hr) (by rw [← ho]; exact hq)
  -- the class's memory, its number of guilts fewer set
  have q3 : sm_X n TX R S F (gk_mi m2 21 4 (sm_n (sm_tot n TX S F r A B) - sm_n (sm_b2o o))) := sm_X_fr (by intro k j h; unfold sm_fX at h; simp (disch := omega) only [sm_mi0, sm_mil, sm_mli]) q2.1
  obtain ⟨m4, g4, q4⟩ := m_allGuilts (sm_p0 hM)
  obtain ⟨m5, g5, q5⟩ := m_guiltsBetween (show r < 5 by omega) pa pb q4
  rw [g4, sm_bi, g5, sm_bi, sm_let]
  have eall := sm_all_cg hT.1 R S F
  have etot := sm_tot_cg hT.1 S F r A B
  have ball : sm_all n TX R S F ≤ 2000 := by
    have := sm_sum_le (f := fun r => sm_rgl n TX R S F r) (b := 500) (l := R.1) (i := 0) (fun j _ hj => sm_rgll hn TX S F (xR.2.2 j (by omega)).2.2.1)
    unfold sm_all
    omega
  obtain ⟨oth, hoth⟩ : ∃ v : Int, v = (sm_all n TX R S F : Int) - (sm_tot n TX S F r A B : Int) := ⟨_, rfl⟩
  rw [← eall, ← etot, show sm_n (sm_all n TX R S F) - sm_n (sm_tot n TX S F r A B) = sm_i oth by rw [sm_ni, sm_ni, sm_i_sub, hoth]]
  obtain ⟨m6, g6, q6⟩ := m_bb (w := w) (oth := oth) (by omega) (show r < 5 by omega) pa pb hw 900 0 gk_fv none m5 (by omega) (by rw [gk_fv_eq]; omega) (fun q hq => by cases hq) q5
  have ebb : sm_bb (sm_bok n TM A B) (sm_W n TM S F r A B) 900 0 none = o := by
    rw [ho]
    have e1 : sm_bok n TM A B = sm_bok n TX A B := by
      funext p
      unfold sm_bok
      rw [sm_has_cg hT]
    have e2 : sm_W n TM S F r A B = sm_W n TX S F r A B := by
      funext p
      unfold sm_W
      rw [sm_tot_cg hT.1, sm_tot_cg hT.1]
    rw [e1, e2]
  rw [ebb] at g6
  rw [show sm_m1 none = -sm_n 1 from rfl, show sm_m2 oth none = (0 : Int32) from rfl, show sm_n 0 = (0 : Int32) from rfl] at g6
  rw [g6]
  have fin : ∀ {m7 : gk_M}, sm_q n TX R S F (gk_mi m2 21 4 (sm_n (sm_tot n TX S F r A B) - sm_n (sm_b2o o))) m7 → rl_ m7 m6 := by
    intro m7 q7
    refine rl_q2 q7.1 ?_ ?_ ?_ ?_ ?_ q6.1 ?_ ?_ ?_ ?_ ?_ hT hP hK hS hH hB hR hD
    · intro j
      rw [q7.2.1 4 j (by decide) (by decide) (by decide), sm_mi0 (by omega)]
      exact q2.2.1 4 j (by decide) (by decide) (by decide)
    · intro j
      rw [q7.2.1 6 j (by decide) (by decide) (by decide), sm_mi0 (by omega)]
      exact q2.2.1 6 j (by decide) (by decide) (by decide)
    · intro j _
      rw [q7.2.1 11 j (by decide) (by decide) (by decide), sm_mi0 (by omega)]
      exact q2.2.1 11 j (by decide) (by decide) (by decide)
    · intro k j hk _
      rw [q7.2.1 k j (by omega) (by omega) (by omega), sm_mi0 (by omega)]
      exact q2.2.1 k j (by omega) (by omega) (by omega)
    · rw [q7.2.2]; exact q2.2.2
    · intro j hj
      refine q6.2.1 0 j (by decide) ?_
      simp only [List.mem_cons, List.not_mem_nil, or_false] at hj
      omega
    · intro k j h1 h2; exact q6.2.1 k j (by omega) (by omega)
    · intro j; exact q6.2.1 11 j (by decide) (by omega)
    · intro k j hk; exact q6.2.1 k j (by omega) (by omega)
    · intro j; exact q6.2.2 25 j (by omega)
  cases o with
  | none => exact absurd rfl hex
  | some q =>
    by_cases hw0 : w = 0
    · subst hw0
      rw [if_neg (show ¬ ¬ sm_n 0 = 0 from fun z => z rfl), if_pos rfl]
      refine ⟨sm_n q.1, gk_mi m2 21 4 (sm_n (sm_tot n TX S F r A B) - sm_n q.2), m6, ?_, ?_, ?_⟩
      · rfl
      · rfl
      · exact fin (sm_q0 q3)
    · rw [if_pos (show ¬ sm_n w = 0 by rw [show (0 : Int32) = sm_n 0 from rfl, sm_neq (by omega) (by omega)]; exact hw0), if_neg hw0]
      obtain ⟨m7, g7, q7⟩ := x_allGuilts hd (sm_q0 q3)
      rw [g7, sm_bi, q7.2.1 21 4 (by decide) (by decide) (by decide), sm_mi1]
      have ev : sm_n (sm_all n TX R S F) - (sm_n (sm_tot n TX S F r A B) - sm_n q.2) = sm_i (oth + (q.2 : Int)) := by
        rw [sm_ni, sm_ni, sm_ni, sm_i_sub, sm_i_sub, hoth]
        exact congrArg sm_i (by omega)
      rw [show sm_n (sm_b2o (some q)) = sm_n q.2 from rfl, ev]
      exact ⟨_, _, _, rfl, rfl, fin q7⟩
