/-! SIM: forests, what is told of towers and roads, shelves -/
theorem c_forest {mx mm : gk_M} (h : rl_ mx mm) (a b : Int32) : sm_al2 mx mm (f_X_forest a b mx) (f_M_forest a b mm) := by
  obtain ⟨n, TX, TM, R, ⟨nf, fa, fb⟩, F, nb, ⟨x1, x2, x3, x7, ⟨x4, x5, x6⟩, x8, x9⟩, ⟨y1, y2, y3, y7, ⟨y4, y5, y6⟩, y8⟩, hT, hP, hK, hS, hH, hB, hR, hD⟩ := id h
  simp only at x4 x5 x6 y4 y5 y6
  unfold f_X_forest f_M_forest f_Plain_addForest
  simp only [x_isPoint, m_isPoint, sm_bi]
  rcases sm_u_cases a 900 (by omega) with ⟨e0, e1⟩ | ⟨p, hp, rfl, e1⟩
  · simp only [e0, sm_10, sm_00, sm_11, not_true_eq_false, not_false_eq_true, if_true, if_false]; exact sm_al_id h
  rcases sm_u_cases b 900 (by omega) with ⟨e0, e2⟩ | ⟨q, hq, rfl, e2⟩
  · simp only [e1, e0, sm_10, sm_00, sm_11, not_true_eq_false, not_false_eq_true, if_true, if_false]; exact sm_al_id h
  simp only [e1, e2, x4, y4, sm_10, sm_00, sm_11, not_true_eq_false, not_false_eq_true, if_true, if_false]
  split
  · by_cases hk : nf = 8
    · subst hk
      simp (disch := omega) only [sm_lit, sm_nlt, sm_nle, sm_neq, sm_n_add, sm_n_mul, sm_n_div, sm_n_rem, sm_bi, sm_bl, sm_bv, sm_let, sm_zz0, sm_zz1, sm_ai, sm_si, sm_al, sm_sl, sm_ar, sm_mi1, sm_mi0, sm_ml1, sm_ml0, sm_mil, sm_mli, sm_10, sm_00, sm_11, not_true_eq_false, not_false_eq_true, if_true, if_false, if_pos, if_neg]
      exact sm_al_id h
    · simp (disch := omega) only [sm_lit, sm_nlt, sm_nle, sm_neq, sm_n_add, sm_n_mul, sm_n_div, sm_n_rem, sm_bi, sm_bl, sm_bv, sm_let, sm_zz0, sm_zz1, sm_ai, sm_si, sm_al, sm_sl, sm_ar, sm_mi1, sm_mi0, sm_ml1, sm_ml0, sm_mil, sm_mli, sm_10, sm_00, sm_11, not_true_eq_false, not_false_eq_true, if_true, if_false, if_pos, if_neg]
      simp only [x4, y4]
      simp (disch := omega) only [sm_lit, sm_nlt, sm_nle, sm_neq, sm_n_add, sm_n_mul, sm_n_div, sm_n_rem, sm_bi, sm_bl, sm_bv, sm_let, sm_zz0, sm_zz1, sm_ai, sm_si, sm_al, sm_sl, sm_ar, sm_mi1, sm_mi0, sm_ml1, sm_ml0, sm_mil, sm_mli, sm_10, sm_00, sm_11, not_true_eq_false, not_false_eq_true, if_true, if_false, if_pos, if_neg]
      simp only [x4, y4]
      simp (disch := omega) only [sm_lit, sm_nlt, sm_nle, sm_neq, sm_n_add, sm_n_mul, sm_n_div, sm_n_rem, sm_bi, sm_bl, sm_bv, sm_let, sm_zz0, sm_zz1, sm_ai, sm_si, sm_al, sm_sl, sm_ar, sm_mi1, sm_mi0, sm_ml1, sm_ml0, sm_mil, sm_mli, sm_10, sm_00, sm_11, not_true_eq_false, not_false_eq_true, if_true, if_false, if_pos, if_neg]
      simp only [x4, y4]
      simp (disch := omega) only [sm_lit, sm_nlt, sm_nle, sm_neq, sm_n_add, sm_n_mul, sm_n_div, sm_n_rem, sm_bi, sm_bl, sm_bv, sm_let, sm_zz0, sm_zz1, sm_ai, sm_si, sm_al, sm_sl, sm_ar, sm_mi1, sm_mi0, sm_ml1, sm_ml0, sm_mil, sm_mli, sm_10, sm_00, sm_11, not_true_eq_false, not_false_eq_true, if_true, if_false, if_pos, if_neg]
      simp only [x4, y4]
      simp (disch := omega) only [sm_lit, sm_nlt, sm_nle, sm_neq, sm_n_add, sm_n_mul, sm_n_div, sm_n_rem, sm_bi, sm_bl, sm_bv, sm_let, sm_zz0, sm_zz1, sm_ai, sm_si, sm_al, sm_sl, sm_ar, sm_mi1, sm_mi0, sm_ml1, sm_ml0, sm_mil, sm_mli, sm_10, sm_00, sm_11, not_true_eq_false, not_false_eq_true, if_true, if_false, if_pos, if_neg]
      simp (disch := omega) only [sm_n_sub, Nat.add_sub_cancel]
      refine ⟨_, _, _, rfl, rfl, n, TX, TM, R, (nf + 1, sm_up fa nf p, sm_up fb nf q), F, nb, ⟨by simp (disch := omega) only [sm_mi1, sm_mi0, sm_ml1, sm_ml0, sm_mil, sm_mli]; exact x1, x2, sm_xT_fr (by intro k j h; simp (disch := omega) only [sm_mi0, sm_mil, sm_mli]) x3, sm_xR_fr (by intro k j h; simp (disch := omega) only [sm_mi0, sm_mil, sm_mli]) x7, ⟨by simp (disch := omega) only [sm_mi1, sm_mi0, sm_ml1, sm_ml0, sm_mil, sm_mli], ?_, ?_⟩, sm_xF_fr (by intro k j h; simp (disch := omega) only [sm_mi0, sm_mil, sm_mli]) x8, sm_xC_fr (by intro k j h; simp (disch := omega) only [sm_mi0, sm_mil, sm_mli]) x9⟩, ⟨by simp (disch := omega) only [sm_mi1, sm_mi0, sm_ml1, sm_ml0, sm_mil, sm_mli]; exact y1, y2, sm_mT_fr (by intro k j h; simp (disch := omega) only [sm_mi0, sm_mil, sm_mli]) y3, sm_mR_fr (by intro k j h; simp (disch := omega) only [sm_mi0, sm_mil, sm_mli]) y7, ⟨by simp (disch := omega) only [sm_mi1, sm_mi0, sm_ml1, sm_ml0, sm_mil, sm_mli], ?_, ?_⟩, sm_mF_fr (by intro k j h; simp (disch := omega) only [sm_mi0, sm_mil, sm_mli]) y8⟩, hT, rl_pr_fr (by intro k j h; simp (disch := omega) only [sm_mi0, sm_mil, sm_mli]) (by intro k j h; simp (disch := omega) only [sm_mi0, sm_mil, sm_mli]) hP, rl_tape_fr (by intro k j h; simp (disch := omega) only [sm_mi0, sm_mil, sm_mli]) (by intro k j h; simp (disch := omega) only [sm_mi0, sm_mil, sm_mli]) hK, rl_sight_fr (by intro k j h; simp (disch := omega) only [sm_mi0, sm_mil, sm_mli]) (by intro k j h; simp (disch := omega) only [sm_mi0, sm_mil, sm_mli]) hS, rl_hist_fr (by intro k j h; simp (disch := omega) only [sm_mi0, sm_mil, sm_mli]) (by intro k j h; simp (disch := omega) only [sm_mi0, sm_mil, sm_mli]) (Nat.le_refl n) hH, rl_body_fr (by intro k j h; simp (disch := omega) only [sm_mi0, sm_mil, sm_mli]) (by intro k j h; simp (disch := omega) only [sm_mi0, sm_mil, sm_mli]) hB, rl_tr_fr (by intro k j h; simp (disch := omega) only [sm_mi0, sm_mil, sm_mli]) (by intro k j h; simp (disch := omega) only [sm_mi0, sm_mil, sm_mli]) hR, rl_sh_fr (Nat.le_refl nb) (by intro k j h; simp (disch := omega) only [sm_mi0, sm_mil, sm_mli]) (by intro k j h; simp (disch := omega) only [sm_mi0, sm_mil, sm_mli]) (by intros; rfl) (by intros; rfl) hD⟩
      · show nf + 1 ≤ 8; omega
      · intro r hr
        simp only at hr ⊢
        by_cases e : r = nf
        · subst e
          simp only [sm_up1]
          refine ⟨hp, hq, by simp (disch := omega) only [sm_mi1, sm_mi0, sm_ml1, sm_ml0, sm_mil, sm_mli], by simp (disch := omega) only [sm_mi1, sm_mi0, sm_ml1, sm_ml0, sm_mil, sm_mli], by simp (disch := omega) only [sm_mi1, sm_mi0, sm_ml1, sm_ml0, sm_mil, sm_mli], by simp (disch := omega) only [sm_mi1, sm_mi0, sm_ml1, sm_ml0, sm_mil, sm_mli]⟩
        · simp only [sm_up0 e]
          simp (disch := omega) only [sm_mi1, sm_mi0, sm_ml1, sm_ml0, sm_mil, sm_mli]
          exact x6 r (by omega)
      · show nf + 1 ≤ 8; omega
      · intro r hr
        simp only at hr ⊢
        by_cases e : r = nf
        · subst e
          simp only [sm_up1]
          refine ⟨hp, hq, by simp (disch := omega) only [sm_mi1, sm_mi0, sm_ml1, sm_ml0, sm_mil, sm_mli], by simp (disch := omega) only [sm_mi1, sm_mi0, sm_ml1, sm_ml0, sm_mil, sm_mli]⟩
        · simp only [sm_up0 e]
          simp (disch := omega) only [sm_mi1, sm_mi0, sm_ml1, sm_ml0, sm_mil, sm_mli]
          exact y6 r (by omega)
  · exact sm_al_id h
theorem m_within2 {a b c : Int32} {lo : Int64} (e : lo = b.toInt64) (m : gk_M) : f_M_within a.toInt64 lo c.toInt64 m = some (if a < b then 0 else if c < a then 0 else 1, m) := by
  subst e
  have e1 : (a.toInt64 < b.toInt64) ↔ a < b := by rw [sm_ltl, sm_lt, Int32.toInt_toInt64, Int32.toInt_toInt64]
  have e2 : (c.toInt64 < a.toInt64) ↔ c < a := by rw [sm_ltl, sm_lt, Int32.toInt_toInt64, Int32.toInt_toInt64]
  unfold f_M_within
  simp only [e1, e2]
  split
  · rfl
  · split <;> rfl
theorem x_pointOf {m : gk_M} {t : Nat} {w : sm_tw} (ht : t < 12) (h : sm_xw m t w) : f_Plain_pointOf (sm_n t) m = some (sm_n w.1, m) := by
  obtain ⟨a, b, c, d⟩ := h
  unfold f_Plain_pointOf
  simp (disch := omega) only [sm_ai, b, c, sm_lit, sm_n_mul, sm_n_add]
  rw [Nat.div_add_mod]
theorem c_of {mx mm : gk_M} (h : rl_ mx mm) (a b : Int32) : sm_al2 mx mm (f_X_of a b mx) (f_M_of a b mm) := by
  obtain ⟨n, TX, TM, ⟨nr, c, rp⟩, S, F, nb, ⟨x1, x2, x3, ⟨x4, x5, x6⟩, x7, x8, x9⟩, ⟨y1, y2, y3, ⟨y4, y5, y6⟩, y7, y8⟩, hT, hP, hK, hS, hH, hB, hR, hD⟩ := id h
  simp only at x4 x5 x6 y4 y5 y6
  unfold f_X_of f_M_of f_X_of_31 f_X_towerTells f_Plain_trait f_Plain_cornerAt
  simp only [sm_in' b (c := 3) 3 (by omega) rfl, m_within (h := 4) (hi := 3) (by omega) rfl, x_isRoad _ x4, m_isRoad _ (show nr < 2147483648 by omega) y4, x_isTower _ x1, m_isTower _ (show n < 2147483648 by omega) y1, sm_bi]
  rcases sm_u_cases b 4 (by omega) with ⟨e0, e1⟩ | ⟨w, hw, rfl, e1⟩
  · simp only [e0, sm_10, sm_00, sm_11, not_true_eq_false, not_false_eq_true, if_true, if_false]
    rcases sm_u_cases a nr (by omega) with ⟨e2, e3⟩ | ⟨r, hr, rfl, e3⟩
    · simp only [e2, sm_10, sm_00, sm_11, not_true_eq_false, not_false_eq_true, if_true, if_false]; exact sm_al_id h
    obtain ⟨u1, u2, u3, u4⟩ := x6 r hr
    obtain ⟨v1, v2, v3, v4⟩ := y6 r hr
    simp only [e3, sm_10, sm_00, sm_11, not_true_eq_false, not_false_eq_true, if_true, if_false]
    by_cases h10 : b = 10
    · subst h10
      simp (disch := omega) only [sm_10, sm_00, sm_11, not_true_eq_false, not_false_eq_true, if_true, if_false, sm_ai, u1, v1]
      exact sm_al_id h
    · simp (disch := omega) only [h10, sm_10, sm_00, sm_11, not_true_eq_false, not_false_eq_true, if_true, if_false, sm_ai, u1, v1]
      rw [m_within2 (b := 20) (lo := 20) rfl, sm_bi]
      by_cases h20 : b < 20
      · simp only [if_pos h20, sm_10, sm_00, sm_11, not_true_eq_false, not_false_eq_true, if_true, if_false]; exact sm_al_id h
      · simp only [if_neg h20]
        have h20' : ¬ b < 0 := by
          intro hh; apply h20; rw [sm_lt] at hh ⊢; exact Int.lt_trans hh (by decide)
        obtain ⟨i, hi, rfl⟩ := sm_get h20'
        simp (disch := omega) only [sm_lit, sm_nlt] at h20
        by_cases hc : i < 20 + c r
        · simp (disch := omega) only [sm_lit, sm_nlt, sm_nle, sm_neq, sm_n_add, sm_n_mul, sm_n_div, sm_n_rem, sm_bi, sm_bl, sm_bv, sm_let, sm_zz0, sm_zz1, sm_ai, sm_si, sm_al, sm_sl, sm_ar, sm_mi1, sm_mi0, sm_ml1, sm_ml0, sm_mil, sm_mli, sm_10, sm_00, sm_11, not_true_eq_false, not_false_eq_true, if_true, if_false, if_pos, if_neg]
          simp (disch := omega) only [sm_n_sub]
          simp (disch := omega) only [sm_lit, sm_nlt, sm_nle, sm_neq, sm_n_add, sm_n_mul, sm_n_div, sm_n_rem, sm_bi, sm_bl, sm_bv, sm_let, sm_zz0, sm_zz1, sm_ai, sm_si, sm_al, sm_sl, sm_ar, sm_mi1, sm_mi0, sm_ml1, sm_ml0, sm_mil, sm_mli, sm_10, sm_00, sm_11, not_true_eq_false, not_false_eq_true, if_true, if_false, if_pos, if_neg]
          rw [(u4 (i - 20) (by omega)).1, show 7 * r + i - 20 = 7 * r + (i - 20) by omega, (v4 (i - 20) (by omega)).1]
          exact sm_al_id h
        · simp (disch := omega) only [sm_lit, sm_nlt, sm_nle, sm_neq, sm_n_add, sm_n_mul, sm_n_div, sm_n_rem, sm_bi, sm_bl, sm_bv, sm_let, sm_zz0, sm_zz1, sm_ai, sm_si, sm_al, sm_sl, sm_ar, sm_mi1, sm_mi0, sm_ml1, sm_ml0, sm_mil, sm_mli, sm_10, sm_00, sm_11, not_true_eq_false, not_false_eq_true, if_true, if_false, if_pos, if_neg]
          exact sm_al_id h
  · simp only [e1, sm_10, sm_00, sm_11, not_true_eq_false, not_false_eq_true, if_true, if_false]
    rcases sm_u_cases a n (by omega) with ⟨e2, e3⟩ | ⟨t, ht, rfl, e3⟩
    · simp only [e2, sm_10, sm_00, sm_11, not_true_eq_false, not_false_eq_true, if_true, if_false]; exact sm_al_id h
    have X := x3 t (by omega)
    have Y := y3 t (by omega)
    obtain ⟨p, p1, p2, p3⟩ := hP t ht
    have E := hT.1 t ht
    simp only [e3, sm_10, sm_00, sm_11, not_true_eq_false, not_false_eq_true, if_true, if_false, x_pointOf (by omega) X]
    rcases (by omega : w = 0 ∨ w = 1 ∨ w = 2 ∨ w = 3) with rfl | rfl | rfl | rfl
    · simp (disch := omega) only [sm_lit, sm_nlt, sm_nle, sm_neq, sm_n_add, sm_n_mul, sm_n_div, sm_n_rem, sm_bi, sm_bl, sm_bv, sm_let, sm_zz0, sm_zz1, sm_ai, sm_si, sm_al, sm_sl, sm_ar, sm_mi1, sm_mi0, sm_ml1, sm_ml0, sm_mil, sm_mli, sm_10, sm_00, sm_11, not_true_eq_false, not_false_eq_true, if_true, if_false, if_pos, if_neg]
      rw [Y.2.1, E]
      exact sm_al_id h
    · simp (disch := omega) only [sm_lit, sm_nlt, sm_nle, sm_neq, sm_n_add, sm_n_mul, sm_n_div, sm_n_rem, sm_bi, sm_bl, sm_bv, sm_let, sm_zz0, sm_zz1, sm_ai, sm_si, sm_al, sm_sl, sm_ar, sm_mi1, sm_mi0, sm_ml1, sm_ml0, sm_mil, sm_mli, sm_10, sm_00, sm_11, not_true_eq_false, not_false_eq_true, if_true, if_false, if_pos, if_neg]
      simp (disch := omega) only [sm_n_sub]
      simp (disch := omega) only [sm_lit, sm_nlt, sm_nle, sm_neq, sm_n_add, sm_n_mul, sm_n_div, sm_n_rem, sm_bi, sm_bl, sm_bv, sm_let, sm_zz0, sm_zz1, sm_ai, sm_si, sm_al, sm_sl, sm_ar, sm_mi1, sm_mi0, sm_ml1, sm_ml0, sm_mil, sm_mli, sm_10, sm_00, sm_11, not_true_eq_false, not_false_eq_true, if_true, if_false, if_pos, if_neg]
      have y := Y.2.2.1
      rw [if_pos ht] at y
      rw [X.2.2.2.1, show 10 * (1 - 1) + t = t by omega, y, E]
      exact sm_al_id h
    · simp (disch := omega) only [sm_lit, sm_nlt, sm_nle, sm_neq, sm_n_add, sm_n_mul, sm_n_div, sm_n_rem, sm_bi, sm_bl, sm_bv, sm_let, sm_zz0, sm_zz1, sm_ai, sm_si, sm_al, sm_sl, sm_ar, sm_mi1, sm_mi0, sm_ml1, sm_ml0, sm_mil, sm_mli, sm_10, sm_00, sm_11, not_true_eq_false, not_false_eq_true, if_true, if_false, if_pos, if_neg]
      simp (disch := omega) only [sm_n_sub]
      simp (disch := omega) only [sm_lit, sm_nlt, sm_nle, sm_neq, sm_n_add, sm_n_mul, sm_n_div, sm_n_rem, sm_bi, sm_bl, sm_bv, sm_let, sm_zz0, sm_zz1, sm_ai, sm_si, sm_al, sm_sl, sm_ar, sm_mi1, sm_mi0, sm_ml1, sm_ml0, sm_mil, sm_mli, sm_10, sm_00, sm_11, not_true_eq_false, not_false_eq_true, if_true, if_false, if_pos, if_neg]
      rw [p2, show 10 * (2 - 1) + t = 10 + t by omega, p3]
      exact sm_al_id h
    · simp (disch := omega) only [sm_lit, sm_nlt, sm_nle, sm_neq, sm_n_add, sm_n_mul, sm_n_div, sm_n_rem, sm_bi, sm_bl, sm_bv, sm_let, sm_zz0, sm_zz1, sm_ai, sm_si, sm_al, sm_sl, sm_ar, sm_mi1, sm_mi0, sm_ml1, sm_ml0, sm_mil, sm_mli, sm_10, sm_00, sm_11, not_true_eq_false, not_false_eq_true, if_true, if_false, if_pos, if_neg]
      simp (disch := omega) only [sm_n_sub]
      simp (disch := omega) only [sm_lit, sm_nlt, sm_nle, sm_neq, sm_n_add, sm_n_mul, sm_n_div, sm_n_rem, sm_bi, sm_bl, sm_bv, sm_let, sm_zz0, sm_zz1, sm_ai, sm_si, sm_al, sm_sl, sm_ar, sm_mi1, sm_mi0, sm_ml1, sm_ml0, sm_mil, sm_mli, sm_10, sm_00, sm_11, not_true_eq_false, not_false_eq_true, if_true, if_false, if_pos, if_neg]
      have y := Y.2.2.2.1
      rw [if_pos ht] at y
      rw [X.2.2.2.2.1, show 10 * (3 - 1) + t = 20 + t by omega, y, E]
      exact sm_al_id h
theorem sm_nm1 {n : Nat} (hn : n < 2147483648) : (sm_n n = -1) = False := by
  refine eq_false ?_
  rw [show (-1 : Int32) = sm_i (-1) from rfl, sm_ni, sm_ieq (by omega) (by omega) (by omega) (by omega)]
  omega
theorem sm_m11 : ((-1 : Int32) = -1) = True := eq_true rfl
theorem sm_m1lt : ((-1 : Int32) < 0) = True := eq_true (by decide)
theorem sm_0m1 : ((0 : Int32) ≤ -1) = False := eq_false (by decide)
/-- a row of n cells spans one more from i on -/
theorem x_spans1 {m : gk_M} {d n : Nat} (i : Int32) (hn : n < 1000) (h : m.1 (41 + d) 3 = sm_n n) : f_Shelf_spans d i 1 m = some (sm_u i n, m) := by
  unfold f_Shelf_spans sm_u
  by_cases h0 : i < 0
  · simp only [if_pos h0]
  obtain ⟨j, hj, rfl⟩ := sm_get h0
  simp only [if_neg h0, h]
  by_cases h1 : n < j
  · simp (disch := omega) only [sm_lit, sm_nlt, sm_nle, sm_neq, sm_n_add, sm_n_mul, sm_n_div, sm_n_rem, sm_bi, sm_bl, sm_bv, sm_let, sm_zz0, sm_zz1, sm_ai, sm_si, sm_al, sm_sl, sm_ar, sm_mi1, sm_mi0, sm_ml1, sm_ml0, sm_mil, sm_mli, sm_10, sm_00, sm_11, not_true_eq_false, not_false_eq_true, if_true, if_false, if_pos, if_neg]
  · simp (disch := omega) only [sm_n_sub]
    by_cases h2 : n ≤ j
    · simp (disch := omega) only [sm_lit, sm_nlt, sm_nle, sm_neq, sm_n_add, sm_n_mul, sm_n_div, sm_n_rem, sm_bi, sm_bl, sm_bv, sm_let, sm_zz0, sm_zz1, sm_ai, sm_si, sm_al, sm_sl, sm_ar, sm_mi1, sm_mi0, sm_ml1, sm_ml0, sm_mil, sm_mli, sm_10, sm_00, sm_11, not_true_eq_false, not_false_eq_true, if_true, if_false, if_pos, if_neg]
    · simp (disch := omega) only [sm_lit, sm_nlt, sm_nle, sm_neq, sm_n_add, sm_n_mul, sm_n_div, sm_n_rem, sm_bi, sm_bl, sm_bv, sm_let, sm_zz0, sm_zz1, sm_ai, sm_si, sm_al, sm_sl, sm_ar, sm_mi1, sm_mi0, sm_ml1, sm_ml0, sm_mil, sm_mli, sm_10, sm_00, sm_11, not_true_eq_false, not_false_eq_true, if_true, if_false, if_pos, if_neg]
theorem sm_refuse {nb : Nat} {mx mm : gk_M} (hb : nb ≤ 50) (hD : rl_sh nb mx mm) (a i : Int32) :
    (∃ v, ¬ v = 0 ∧ f_X_cellRefusal a i mx = some (v, mx) ∧ f_M_refusal a i mm = some (v, mm)) ∨
    (∃ d j s n, d < 6 ∧ j < n ∧ s < 5 ∧ n ≤ 60 ∧ a = sm_n d ∧ i = sm_n j ∧ f_X_cellRefusal a i mx = some (0, mx) ∧ f_M_refusal a i mm = some (0, mm) ∧
      mx.1 (41 + d) 1 = -1 ∧ mx.1 (41 + d) 2 = sm_n s ∧ mx.1 (41 + d) 3 = sm_n n ∧ mm.1 23 d = sm_n (50 + s) ∧ mm.1 24 d = sm_n n ∧ ∀ i, i < n → mx.2 (47 + d) i = mm.2 25 (60 * d + i) ∧ (s = 1 → ∃ z : Int, -32768 ≤ z ∧ z ≤ 32767 ∧ mx.2 (47 + d) i = sm_l z)) := by
  unfold f_X_cellRefusal f_M_refusal f_Shelf_isEmpty f_Shelf_isRow
  simp only [x_isShelf, m_isShelf, sm_bi]
  rcases sm_u_cases a 6 (by omega) with ⟨e0, e1⟩ | ⟨d, hd, rfl, e1⟩
  · simp only [e0, sm_10, sm_00, sm_11, not_true_eq_false, not_false_eq_true, if_true, if_false]
    exact Or.inl ⟨-1, by decide, rfl, rfl⟩
  simp (disch := omega) only [e1, sm_10, sm_00, sm_11, not_true_eq_false, not_false_eq_true, if_true, if_false, sm_ar, sm_ai]
  rcases hD d hd with ⟨h1, h2, h3⟩ | ⟨b, h0, h1, h2, h3⟩ | ⟨s, n, h0, h1, h2, h3, h4, h5, h6, h7⟩
  · refine Or.inl ⟨-11, by decide, ?_, ?_⟩
    · simp only [h1, h2, sm_m11, sm_10, sm_00, sm_11, not_true_eq_false, not_false_eq_true, if_true, if_false, sm_bi]
    · simp only [h3, sm_0m1, sm_10, sm_00, sm_11, not_true_eq_false, not_false_eq_true, if_true, if_false]
  · refine Or.inl ⟨-12, by decide, ?_, ?_⟩
    · simp (disch := omega) only [h1, h2, sm_m11, sm_nm1, sm_10, sm_00, sm_11, not_true_eq_false, not_false_eq_true, if_true, if_false, sm_bi]
    · simp only [h3]; simp (disch := omega) only [sm_lit, sm_nlt, sm_nle, sm_neq, sm_n_add, sm_n_mul, sm_n_div, sm_n_rem, sm_bi, sm_bl, sm_bv, sm_let, sm_zz0, sm_zz1, sm_ai, sm_si, sm_al, sm_sl, sm_ar, sm_mi1, sm_mi0, sm_ml1, sm_ml0, sm_mil, sm_mli, sm_10, sm_00, sm_11, not_true_eq_false, not_false_eq_true, if_true, if_false, if_pos, if_neg]
  · by_cases hi : ∃ j, j < n ∧ i = sm_n j
    · obtain ⟨j, hj, rfl⟩ := hi
      refine Or.inr ⟨d, j, s, n, hd, hj, h0, h1, rfl, rfl, ?_, ?_, h2, h3, h4, h5, h6, h7⟩
      · simp (disch := omega) only [h2, h3, sm_m11, sm_nm1, sm_10, sm_00, sm_11, not_true_eq_false, not_false_eq_true, if_true, if_false, sm_bi, x_spans1 (n := n) _ _ h4, sm_u1]
      · simp only [h5, h6, if_neg (sm_nn (show j < 2147483648 by omega))]; simp (disch := omega) only [sm_lit, sm_nlt, sm_nle, sm_neq, sm_n_add, sm_n_mul, sm_n_div, sm_n_rem, sm_bi, sm_bl, sm_bv, sm_let, sm_zz0, sm_zz1, sm_ai, sm_si, sm_al, sm_sl, sm_ar, sm_mi1, sm_mi0, sm_ml1, sm_ml0, sm_mil, sm_mli, sm_10, sm_00, sm_11, not_true_eq_false, not_false_eq_true, if_true, if_false, if_pos, if_neg]
    · refine Or.inl ⟨-13, by decide, ?_, ?_⟩
      · rcases sm_u_cases i n (by omega) with ⟨e, e'⟩ | ⟨j, hj, e, e'⟩
        · simp (disch := omega) only [h2, h3, sm_m11, sm_nm1, sm_10, sm_00, sm_11, not_true_eq_false, not_false_eq_true, if_true, if_false, sm_bi, x_spans1 (n := n) _ _ h4, e]
        · exact absurd ⟨j, hj, e⟩ hi
      · simp only [h5, h6]
        rcases sm_u_cases i n (by omega) with ⟨e, e'⟩ | ⟨j, hj, e, e'⟩
        · rcases sm_u_no (by omega) e' with h8 | ⟨h8, j, h9, h10, rfl⟩
          · simp only [if_pos h8]; simp (disch := omega) only [sm_lit, sm_nlt, sm_nle, sm_neq, sm_n_add, sm_n_mul, sm_n_div, sm_n_rem, sm_bi, sm_bl, sm_bv, sm_let, sm_zz0, sm_zz1, sm_ai, sm_si, sm_al, sm_sl, sm_ar, sm_mi1, sm_mi0, sm_ml1, sm_ml0, sm_mil, sm_mli, sm_10, sm_00, sm_11, not_true_eq_false, not_false_eq_true, if_true, if_false, if_pos, if_neg]
          · simp only [if_neg h8]; simp (disch := omega) only [sm_lit, sm_nlt, sm_nle, sm_neq, sm_n_add, sm_n_mul, sm_n_div, sm_n_rem, sm_bi, sm_bl, sm_bv, sm_let, sm_zz0, sm_zz1, sm_ai, sm_si, sm_al, sm_sl, sm_ar, sm_mi1, sm_mi0, sm_ml1, sm_ml0, sm_mil, sm_mli, sm_10, sm_00, sm_11, not_true_eq_false, not_false_eq_true, if_true, if_false, if_pos, if_neg]
        · exact absurd ⟨j, hj, e⟩ hi
theorem c_element {mx mm : gk_M} (h : rl_ mx mm) (a b : Int32) : sm_al2 mx mm (f_X_element a b mx) (f_M_element a b mm) := by
  obtain ⟨n, TX, TM, R, S, F, nb, hX, hM, hT, hP, hK, hS, hH, hB, hR, hD⟩ := id h
  unfold f_X_element f_M_element
  rcases sm_refuse hB.1 hD a b with ⟨v, h0, h1, h2⟩ | ⟨d, j, s, k, h1, h2, h3, h4, rfl, rfl, h5, h6, h7, h8, h9, h10, h11, h12⟩
  · simp only [h1, h2, sm_bi, if_neg h0]
    exact sm_al_id h
  · simp only [h5, h6, sm_bi, sm_10, sm_00, sm_11, not_true_eq_false, not_false_eq_true, if_true, if_false]
    simp (disch := omega) only [sm_lit, sm_nlt, sm_nle, sm_neq, sm_n_add, sm_n_mul, sm_n_div, sm_n_rem, sm_bi, sm_bl, sm_bv, sm_let, sm_zz0, sm_zz1, sm_ai, sm_si, sm_al, sm_sl, sm_ar, sm_mi1, sm_mi0, sm_ml1, sm_ml0, sm_mil, sm_mli, sm_10, sm_00, sm_11, not_true_eq_false, not_false_eq_true, if_true, if_false, if_pos, if_neg]
    rw [(h12 j h2).1]
    exact sm_al_id h
theorem c_keep {mx mm : gk_M} (h : rl_ mx mm) (a b : Int32) : sm_al2 mx mm (f_X_keep a b mx) (f_M_keep a b mm) := by
  obtain ⟨n, TX, TM, R, S, F, nb, hX, hM, hT, hP, hK, hS, hH, hB, hR, hD⟩ := id h
  have hb50 := hB.1
  unfold f_X_keep f_M_keep f_X_keep_25 f_M_keep_22 f_Shelf_holdBody
  simp only [x_isShelf, m_isShelf, x_isBody _ hB.2.1, m_isBody _ (show nb < 2147483648 by omega) hB.2.2.1, sm_bi]
  rcases sm_u_cases a 6 (by omega) with ⟨e0, e1⟩ | ⟨d, hd, rfl, e1⟩
  · simp only [e0, sm_10, sm_00, sm_11, not_true_eq_false, not_false_eq_true, if_true, if_false]; exact sm_al_id h
  simp only [e1, sm_10, sm_00, sm_11, not_true_eq_false, not_false_eq_true, if_true, if_false]
  by_cases h1 : b = -1
  · subst h1
    simp only [if_pos trivial]
    simp (disch := omega) only [sm_ar, sm_si, sm_let, sm_bv, sm_m11, sm_10, sm_00, sm_11, not_true_eq_false, not_false_eq_true, if_true, if_false]
    refine ⟨_, _, _, rfl, rfl, n, TX, TM, R, S, F, nb, sm_X_fr (by intro k j h; unfold sm_fX at h; simp (disch := omega) only [sm_mi0, sm_mil, sm_mli]) hX, sm_M_fr (by intro k j h; unfold sm_fM at h; simp (disch := omega) only [sm_mi0, sm_mil, sm_mli]) hM, hT, rl_pr_fr (by intro k j h; simp (disch := omega) only [sm_mi0, sm_mil, sm_mli]) (by intro k j h; simp (disch := omega) only [sm_mi0, sm_mil, sm_mli]) hP, rl_tape_fr (by intro k j h; simp (disch := omega) only [sm_mi0, sm_mil, sm_mli]) (by intro k j h; simp (disch := omega) only [sm_mi0, sm_mil, sm_mli]) hK, rl_sight_fr (by intro k j h; simp (disch := omega) only [sm_mi0, sm_mil, sm_mli]) (by intro k j h; simp (disch := omega) only [sm_mi0, sm_mil, sm_mli]) hS, rl_hist_fr (by intro k j h; simp (disch := omega) only [sm_mi0, sm_mil, sm_mli]) (by intro k j h; simp (disch := omega) only [sm_mi0, sm_mil, sm_mli]) (Nat.le_refl n) hH, rl_body_fr (by intro k j h; simp (disch := omega) only [sm_mi0, sm_mil, sm_mli]) (by intro k j h; simp (disch := omega) only [sm_mi0, sm_mil, sm_mli]) hB, rl_tr_fr (by intro k j h; simp (disch := omega) only [sm_mi0, sm_mil, sm_mli]) (by intro k j h; simp (disch := omega) only [sm_mi0, sm_mil, sm_mli]) hR, fun e he => ?_⟩
    by_cases ed : e = d
    · subst ed
      exact Or.inl ⟨by simp (disch := omega) only [sm_mi1, sm_mi0, sm_ml1, sm_ml0, sm_mil, sm_mli], by simp (disch := omega) only [sm_mi1, sm_mi0, sm_ml1, sm_ml0, sm_mil, sm_mli], by simp (disch := omega) only [sm_mi1, sm_mi0, sm_ml1, sm_ml0, sm_mil, sm_mli]⟩
    · exact rl_s1_fr (Nat.le_refl nb) (by intro j; simp (disch := omega) only [sm_mi1, sm_mi0, sm_ml1, sm_ml0, sm_mil, sm_mli]) (by intro k hk; simp (disch := omega) only [sm_mi1, sm_mi0, sm_ml1, sm_ml0, sm_mil, sm_mli]) (by intros; rfl) (by intros; rfl) (hD e he)
  · simp only [if_neg h1]
    rcases sm_u_cases b nb (by omega) with ⟨e0, e2⟩ | ⟨p, hp, rfl, e2⟩
    · simp only [e0, sm_10, sm_00, sm_11, not_true_eq_false, not_false_eq_true, if_true, if_false]; exact sm_al_id h
    simp only [e2, sm_10, sm_00, sm_11, not_true_eq_false, not_false_eq_true, if_true, if_false]
    simp (disch := omega) only [sm_ar, sm_si, sm_let, sm_bv, sm_m11, sm_10, sm_00, sm_11, not_true_eq_false, not_false_eq_true, if_true, if_false]
    refine ⟨_, _, _, rfl, rfl, n, TX, TM, R, S, F, nb, sm_X_fr (by intro k j h; unfold sm_fX at h; simp (disch := omega) only [sm_mi0, sm_mil, sm_mli]) hX, sm_M_fr (by intro k j h; unfold sm_fM at h; simp (disch := omega) only [sm_mi0, sm_mil, sm_mli]) hM, hT, rl_pr_fr (by intro k j h; simp (disch := omega) only [sm_mi0, sm_mil, sm_mli]) (by intro k j h; simp (disch := omega) only [sm_mi0, sm_mil, sm_mli]) hP, rl_tape_fr (by intro k j h; simp (disch := omega) only [sm_mi0, sm_mil, sm_mli]) (by intro k j h; simp (disch := omega) only [sm_mi0, sm_mil, sm_mli]) hK, rl_sight_fr (by intro k j h; simp (disch := omega) only [sm_mi0, sm_mil, sm_mli]) (by intro k j h; simp (disch := omega) only [sm_mi0, sm_mil, sm_mli]) hS, rl_hist_fr (by intro k j h; simp (disch := omega) only [sm_mi0, sm_mil, sm_mli]) (by intro k j h; simp (disch := omega) only [sm_mi0, sm_mil, sm_mli]) (Nat.le_refl n) hH, rl_body_fr (by intro k j h; simp (disch := omega) only [sm_mi0, sm_mil, sm_mli]) (by intro k j h; simp (disch := omega) only [sm_mi0, sm_mil, sm_mli]) hB, rl_tr_fr (by intro k j h; simp (disch := omega) only [sm_mi0, sm_mil, sm_mli]) (by intro k j h; simp (disch := omega) only [sm_mi0, sm_mil, sm_mli]) hR, fun e he => ?_⟩
    by_cases ed : e = d
    · subst ed
      exact Or.inr (Or.inl ⟨p, hp, by simp (disch := omega) only [sm_mi1, sm_mi0, sm_ml1, sm_ml0, sm_mil, sm_mli], by simp (disch := omega) only [sm_mi1, sm_mi0, sm_ml1, sm_ml0, sm_mil, sm_mli], by simp (disch := omega) only [sm_mi1, sm_mi0, sm_ml1, sm_ml0, sm_mil, sm_mli]⟩)
    · exact rl_s1_fr (Nat.le_refl nb) (by intro j; simp (disch := omega) only [sm_mi1, sm_mi0, sm_ml1, sm_ml0, sm_mil, sm_mli]) (by intro k hk; simp (disch := omega) only [sm_mi1, sm_mi0, sm_ml1, sm_ml0, sm_mil, sm_mli]) (by intros; rfl) (by intros; rfl) (hD e he)
/-! rows of like numbers -/
def sm_fill (m : gk_M) (k : Nat) (v : Int32) (a b : Nat) : gk_M := (fun x y => if x = k ∧ a ≤ y ∧ y < b then v else m.1 x y, m.2)
def sm_filL (m : gk_M) (k : Nat) (v : Int64) (a b : Nat) : gk_M := (m.1, fun x y => if x = k ∧ a ≤ y ∧ y < b then v else m.2 x y)
theorem sm_fill_s (m : gk_M) (k : Nat) (v : Int32) {a b : Nat} (h : a < b) : sm_fill (gk_mi m k a v) k v (a + 1) b = sm_fill m k v a b := by
  refine Prod.ext (funext fun x => funext fun y => ?_) rfl
  simp only [sm_fill, gk_mi]
  by_cases h1 : x = k ∧ a + 1 ≤ y ∧ y < b
  · rw [if_pos h1, if_pos (by omega)]
  · rw [if_neg h1]
    by_cases h2 : x = k ∧ y = a
    · rw [if_pos h2, if_pos (by omega)]
    · rw [if_neg h2, if_neg (by omega)]
theorem sm_filL_s (m : gk_M) (k : Nat) (v : Int64) {a b : Nat} (h : a < b) : sm_filL (gk_ml m k a v) k v (a + 1) b = sm_filL m k v a b := by
  refine Prod.ext rfl (funext fun x => funext fun y => ?_)
  simp only [sm_filL, gk_ml]
  by_cases h1 : x = k ∧ a + 1 ≤ y ∧ y < b
  · rw [if_pos h1, if_pos (by omega)]
  · rw [if_neg h1]
    by_cases h2 : x = k ∧ y = a
    · rw [if_pos h2, if_pos (by omega)]
    · rw [if_neg h2, if_neg (by omega)]
theorem sm_fill_0 (m : gk_M) (k : Nat) (v : Int32) (a : Nat) : sm_fill m k v a a = m := by
  refine Prod.ext (funext fun x => funext fun y => ?_) rfl
  simp only [sm_fill]
  rw [if_neg (by omega)]
theorem sm_filL_0 (m : gk_M) (k : Nat) (v : Int64) (a : Nat) : sm_filL m k v a a = m := by
  refine Prod.ext rfl (funext fun x => funext fun y => ?_)
  simp only [sm_filL]
  rw [if_neg (by omega)]
theorem sm_fill1 {m : gk_M} {k : Nat} {v : Int32} {a b x y : Nat} (h : x = k ∧ a ≤ y ∧ y < b) : (sm_fill m k v a b).1 x y = v := if_pos h
theorem sm_fill0 {m : gk_M} {k : Nat} {v : Int32} {a b x y : Nat} (h : ¬ (x = k ∧ a ≤ y ∧ y < b)) : (sm_fill m k v a b).1 x y = m.1 x y := if_neg h
theorem sm_fillk {m : gk_M} {k : Nat} {v : Int32} {a b x : Nat} (h : ¬ x = k) : (sm_fill m k v a b).1 x = m.1 x := funext fun y => if_neg (fun e => h e.1)
theorem sm_filL1 {m : gk_M} {k : Nat} {v : Int64} {a b x y : Nat} (h : x = k ∧ a ≤ y ∧ y < b) : (sm_filL m k v a b).2 x y = v := if_pos h
theorem sm_filL0 {m : gk_M} {k : Nat} {v : Int64} {a b x y : Nat} (h : ¬ (x = k ∧ a ≤ y ∧ y < b)) : (sm_filL m k v a b).2 x y = m.2 x y := if_neg h
theorem sm_fillI (k L : Nat) (hL : L < 100000) (v : Int32) : ∀ l i fu m, i + l = L → l < fu → f_Arrays_fillI_5 k L fu v (sm_n i) (sm_n L) m = some ((), sm_fill m k v i L)
  | 0, i, fu + 1, m, hi, _ => by
    unfold f_Arrays_fillI_5
    rw [if_pos (by rw [sm_nle (by omega) (by omega)]; omega), show i = L by omega, sm_fill_0]
  | l + 1, i, fu + 1, m, hi, hf => by
    unfold f_Arrays_fillI_5
    rw [if_neg (by rw [sm_nle (by omega) (by omega)]; omega), sm_si (by omega) (by omega), show sm_n i + 1 = sm_n (i + 1) from sm_n_add i 1, sm_fillI k L hL v l (i + 1) fu _ (by omega) (by omega), sm_fill_s _ _ _ (by omega)]
theorem sm_fillJ (k L : Nat) (hL : L < 100000) (v : Int64) : ∀ l i fu m, i + l = L → l < fu → f_Arrays_fillJ_6 k L fu v (sm_n i) (sm_n L) m = some ((), sm_filL m k v i L)
  | 0, i, fu + 1, m, hi, _ => by
    unfold f_Arrays_fillJ_6
    rw [if_pos (by rw [sm_nle (by omega) (by omega)]; omega), show i = L by omega, sm_filL_0]
  | l + 1, i, fu + 1, m, hi, hf => by
    unfold f_Arrays_fillJ_6
    rw [if_neg (by rw [sm_nle (by omega) (by omega)]; omega), sm_sl (by omega) (by omega), show sm_n i + 1 = sm_n (i + 1) from sm_n_add i 1, sm_fillJ k L hL v l (i + 1) fu _ (by omega) (by omega), sm_filL_s _ _ _ (by omega)]
theorem x_fillI (k L : Nat) (hL : L < 100000) (v : Int32) (m : gk_M) : f_Arrays_fillI k L v m = some ((), sm_fill m k v 0 L) :=
  sm_fillI k L hL v L 0 gk_fv m (by omega) (by rw [gk_fv_eq]; omega)
theorem x_fillJ (k L : Nat) (hL : L < 100000) (v : Int64) (m : gk_M) : f_Arrays_fillJ k L v m = some ((), sm_filL m k v 0 L) :=
  sm_fillJ k L hL v L 0 gk_fv m (by omega) (by rw [gk_fv_eq]; omega)
theorem m_row_57 (d : Nat) (hd : d < 6) : ∀ l i fu m, i + l = 60 * d + 60 → l < fu → f_M_row_57 fu (sm_n d) (sm_n i) m = some (1, sm_filL m 25 0 i (60 * d + 60))
  | 0, i, fu + 1, m, hi, _ => by
    unfold f_M_row_57
    rw [if_pos (by simp (disch := omega) only [sm_lit, sm_nlt, sm_nle, sm_neq, sm_n_add, sm_n_mul, sm_n_div, sm_n_rem, sm_bi, sm_bl, sm_bv, sm_let, sm_zz0, sm_zz1, sm_ai, sm_si, sm_al, sm_sl, sm_ar, sm_mi1, sm_mi0, sm_ml1, sm_ml0, sm_mil, sm_mli]; omega), show i = 60 * d + 60 by omega, sm_filL_0]
  | l + 1, i, fu + 1, m, hi, hf => by
    unfold f_M_row_57
    rw [if_neg (by simp (disch := omega) only [sm_lit, sm_nlt, sm_nle, sm_neq, sm_n_add, sm_n_mul, sm_n_div, sm_n_rem, sm_bi, sm_bl, sm_bv, sm_let, sm_zz0, sm_zz1, sm_ai, sm_si, sm_al, sm_sl, sm_ar, sm_mi1, sm_mi0, sm_ml1, sm_ml0, sm_mil, sm_mli]; omega), sm_sl (by omega) (by omega), show sm_n i + 1 = sm_n (i + 1) from sm_n_add i 1, m_row_57 d hd l (i + 1) fu _ (by omega) (by omega), sm_filL_s _ _ _ (by omega)]
theorem c_row {mx mm : gk_M} (h : rl_ mx mm) (a b c : Int32) : sm_al2 mx mm (f_X_row a b c mx) (f_M_row a b c mm) := by
  obtain ⟨n, TX, TM, R, S, F, nb, hX, hM, hT, hP, hK, hS, hH, hB, hR, hD⟩ := id h
  have hb50 := hB.1
  unfold f_X_row f_M_row f_Shelf_holdRow
  simp only [x_isShelf, m_isShelf, sm_in' b (c := 4) 4 (by omega) rfl, m_within (h := 5) (hi := 4) (by omega) rfl, sm_bi]
  rcases sm_u_cases a 6 (by omega) with ⟨e0, e1⟩ | ⟨d, hd, rfl, e1⟩
  · simp only [e0, sm_10, sm_00, sm_11, not_true_eq_false, not_false_eq_true, if_true, if_false]; exact sm_al_id h
  rcases sm_u_cases b 5 (by omega) with ⟨e0, e2⟩ | ⟨s, hs, rfl, e2⟩
  · simp only [e1, e0, sm_10, sm_00, sm_11, not_true_eq_false, not_false_eq_true, if_true, if_false]; exact sm_al_id h
  simp only [e1, e2, sm_10, sm_00, sm_11, not_true_eq_false, not_false_eq_true, if_true, if_false]
  by_cases h60 : c ≤ 60
  · simp only [if_pos h60]
    by_cases h0 : 0 ≤ c
    · simp only [if_pos h0]
      obtain ⟨k, hk, rfl⟩ := sm_get (x := c) (by rw [sm_le] at h0; rw [sm_lt]; omega)
      simp (disch := omega) only [sm_lit, sm_nle] at h60
      simp only [x_fillJ _ _ (show 60 < 100000 by omega)]
      simp (disch := omega) only [sm_ar, sm_si, sm_let, sm_bv, sm_lit, sm_n_mul, sm_n_add]
      rw [m_row_57 d hd 60 (60 * d) gk_fv _ (by omega) (by rw [gk_fv_eq]; omega)]
      refine ⟨_, _, _, rfl, rfl, n, TX, TM, R, S, F, nb, sm_X_fr ?_ hX, sm_M_fr ?_ hM, hT, rl_pr_fr ?_ ?_ hP, rl_tape_fr ?_ ?_ hK, rl_sight_fr ?_ ?_ hS, rl_hist_fr ?_ ?_ (Nat.le_refl n) hH, rl_body_fr ?_ ?_ hB, rl_tr_fr ?_ ?_ hR, fun e he => ?_⟩
      rotate_right
      · by_cases ed : e = d
        · subst ed
          refine Or.inr (Or.inr ⟨s, k, hs, h60, ?_, ?_, ?_, ?_, ?_, fun i hi => ⟨?_, fun _ => ⟨0, by omega, by omega, ?_⟩⟩⟩)
          · show (gk_mi _ _ _ _).1 _ _ = _; simp (disch := omega) only [sm_mi1, sm_mi0, sm_ml1, sm_ml0, sm_mil, sm_mli]; rfl
          · show (gk_mi _ _ _ _).1 _ _ = _; simp (disch := omega) only [sm_mi1, sm_mi0, sm_ml1, sm_ml0, sm_mil, sm_mli]
          · show (gk_mi _ _ _ _).1 _ _ = _; simp (disch := omega) only [sm_mi1, sm_mi0, sm_ml1, sm_ml0, sm_mil, sm_mli]
          · show (gk_mi _ _ _ _).1 _ _ = _; simp (disch := omega) only [sm_mi1, sm_mi0, sm_ml1, sm_ml0, sm_mil, sm_mli]
          · show (gk_mi _ _ _ _).1 _ _ = _; simp (disch := omega) only [sm_mi1, sm_mi0, sm_ml1, sm_ml0, sm_mil, sm_mli]
          · rw [sm_filL1 (by omega), sm_filL1 (by omega)]
          · rw [sm_filL1 (by omega)]; rfl
        · refine rl_s1_fr (Nat.le_refl nb) ?_ ?_ ?_ ?_ (hD e he)
          · intro j; show (gk_mi _ _ _ _).1 _ _ = _; simp (disch := omega) only [sm_mi1, sm_mi0, sm_ml1, sm_ml0, sm_mil, sm_mli]
          · intro j hj; show (gk_mi _ _ _ _).1 _ _ = _; simp (disch := omega) only [sm_mi1, sm_mi0, sm_ml1, sm_ml0, sm_mil, sm_mli]
          · intro j; rw [sm_filL0 (by omega)]; rfl
          · intro j hj; rw [sm_filL0 (by omega)]; rfl
      all_goals (intro k j h; (try unfold sm_fX at h); (try unfold sm_fM at h); show (gk_mi _ _ _ _).1 _ _ = _; simp (disch := omega) only [sm_mi1, sm_mi0, sm_ml1, sm_ml0, sm_mil, sm_mli])
    · simp only [if_neg h0]; exact sm_al_id h
  · simp only [if_neg h60]; exact sm_al_id h
