/-! SIM: small tests of both sides -/
theorem sm_u01 (a : Int32) (h : Nat) : sm_u a h = 0 ∨ sm_u a h = 1 := by
  unfold sm_u
  by_cases h0 : a < 0
  · exact Or.inl (if_pos h0)
  · rw [if_neg h0]
    by_cases h1 : sm_n h ≤ a
    · exact Or.inl (if_pos h1)
    · exact Or.inr (if_neg h1)
theorem sm_zzu {β : Type} (a : Int32) (h : Nat) (c : Option β) : gk_zz (sm_u a h) c = c := if_pos (sm_u01 a h)
theorem sm_lt_le (a : Int32) {h : Nat} (hh : h < 2147483647) : sm_n h < a ↔ sm_n (h + 1) ≤ a := by
  rw [sm_lt, sm_le, sm_n_int (by omega), sm_n_int (by omega)]; omega
/-- as the class writes it: a < 0, then h ≤ a -/
theorem sm_ux (a : Int32) (h : Nat) (m : gk_M) : (if a < 0 then some ((0 : Int32), m) else if sm_n h ≤ a then some (0, m) else some (1, m)) = some (sm_u a h, m) := by
  unfold sm_u
  split
  · rfl
  · split <;> rfl
theorem x_isPoint (a : Int32) (m : gk_M) : f_X_isPoint a m = some (sm_u a 900, m) := sm_ux a 900 m
theorem x_isShelf (a : Int32) (m : gk_M) : f_X_isShelf a m = some (sm_u a 6, m) := sm_ux a 6 m
theorem x_isKind (a : Int32) (m : gk_M) : f_Ways_isKind a m = some (sm_u a 8, m) := sm_ux a 8 m
theorem x_isHeight (a : Int32) (m : gk_M) : f_X_isHeight a m = some (sm_u a 10, m) := by
  have := sm_ux a 10 m
  simp only [← sm_lt_le a (h := 9) (by omega)] at this
  exact this
theorem x_isChoice (a : Int32) {l : Nat} (hl : l < 2147483647) (m : gk_M) : f_X_isChoice a (sm_n l) m = some (sm_u a (l + 1), m) := by
  have := sm_ux a (l + 1) m
  simp only [← sm_lt_le a hl] at this
  exact this
theorem x_isTower {m : gk_M} {n : Nat} (a : Int32) (h : m.1 7 5 = sm_n n) : f_Plain_isTower a m = some (sm_u a n, m) := by
  unfold f_Plain_isTower
  rw [h]
  exact sm_ux a n m
theorem x_isRoad {m : gk_M} {n : Nat} (a : Int32) (h : m.1 7 7 = sm_n n) : f_Plain_isRoad a m = some (sm_u a n, m) := by
  unfold f_Plain_isRoad
  rw [h]
  exact sm_ux a n m
theorem x_isBody {m : gk_M} {n : Nat} (a : Int32) (h : m.1 37 0 = sm_n n) : f_Ways_isBody a m = some (sm_u a n, m) := by
  unfold f_Ways_isBody
  rw [h]
  exact sm_ux a n m
theorem m_within {a : Int32} {h : Nat} (hh : h < 2147483648) {hi : Int64} (e : hi = sm_l ((h : Int) - 1)) (m : gk_M) : f_M_within a.toInt64 0 hi m = some (sm_u a h, m) := by
  subst e
  have e1 : (a.toInt64 < 0) ↔ a < 0 := by rw [sm_ltl, sm_lt, Int32.toInt_toInt64]; rfl
  have e2 : (sm_l ((h : Int) - 1) < a.toInt64) ↔ sm_n h ≤ a := by
    rw [sm_ltl, sm_le, Int32.toInt_toInt64, sm_l_int (by omega) (by omega), sm_n_int hh]; omega
  unfold f_M_within sm_u
  simp only [e1, e2]
  split
  · rfl
  · split <;> rfl
theorem sm_pred {n : Nat} (hn : n < 2147483648) : (sm_n n - 1).toInt64 = sm_l ((n : Int) - 1) := by
  rw [sm_ni, show (1 : Int32) = sm_i 1 from rfl, sm_i_sub, sm_wide (by omega) (by omega)]
theorem m_isPoint (a : Int32) (m : gk_M) : f_M_isPoint a m = some (sm_u a 900, m) := by
  unfold f_M_isPoint
  rw [m_within (h := 900) (hi := 899) (by omega) rfl, sm_bi, sm_zzu]
theorem m_isShelf (a : Int32) (m : gk_M) : f_M_isShelf a m = some (sm_u a 6, m) := by
  unfold f_M_isShelf
  rw [m_within (h := 6) (hi := 5) (by omega) rfl, sm_bi, sm_zzu]
theorem m_isTower {m : gk_M} {n : Nat} (a : Int32) (hn : n < 2147483648) (h : m.1 0 6 = sm_n n) : f_M_isTower a m = some (sm_u a n, m) := by
  unfold f_M_isTower
  rw [h, m_within hn (sm_pred hn), sm_bi, sm_zzu]
theorem m_isRoad {m : gk_M} {n : Nat} (a : Int32) (hn : n < 2147483648) (h : m.1 0 10 = sm_n n) : f_M_isRoad a m = some (sm_u a n, m) := by
  unfold f_M_isRoad
  rw [h, m_within hn (sm_pred hn), sm_bi, sm_zzu]
theorem m_isBody {m : gk_M} {n : Nat} (a : Int32) (hn : n < 2147483648) (h : m.1 0 39 = sm_n n) : f_M_isBody a m = some (sm_u a n, m) := by
  unfold f_M_isBody
  rw [h, m_within hn (sm_pred hn), sm_bi, sm_zzu]
theorem sm_u_no {a : Int32} {h : Nat} (hh : h < 2147483648) (e : ∀ n, n < h → a ≠ sm_n n) : a < 0 ∨ (¬ a < 0 ∧ ∃ n, h ≤ n ∧ n < 2147483648 ∧ a = sm_n n) := by
  by_cases h0 : a < 0
  · exact Or.inl h0
  · obtain ⟨n, hn, rfl⟩ := sm_get h0
    refine Or.inr ⟨h0, n, ?_, hn, rfl⟩
    by_cases h1 : h ≤ n
    · exact h1
    · exact absurd rfl (e n (by omega))
theorem sm_10 : ((1 : Int32) = 0) = False := eq_false (by decide)
theorem sm_00 : ((0 : Int32) = 0) = True := eq_true rfl
theorem sm_11 : ((1 : Int32) = 1) = True := eq_true rfl
theorem sm_in {β : Type} (a : Int32) {c : Int32} (l : Nat) (hl : l < 2147483647) (hc : c = sm_n l) (p q : β) : (if a < 0 then p else if a ≤ c then q else p) = if sm_u a (l + 1) = 0 then p else q := by
  subst hc
  rcases sm_u_cases a (l + 1) (by omega) with ⟨e0, e1⟩ | ⟨b, hb, rfl, e1⟩
  · rw [if_pos e0]
    rcases sm_u_no (by omega) e1 with h0 | ⟨h0, c, h1, h2, rfl⟩
    · rw [if_pos h0]
    · rw [if_neg h0, if_neg]
      rw [sm_nle h2 (by omega)]; omega
  · rw [if_neg (sm_nn (by omega)), if_pos, if_neg (by rw [e1]; decide)]
    rw [sm_nle (by omega) (by omega)]; omega
/-- a call that both answer alike -/
def sm_al2 {α : Type} (mx mm : gk_M) (fx fm : Option (α × gk_M)) : Prop := ∃ v mx' mm', fx = some (v, mx') ∧ fm = some (v, mm') ∧ rl_ mx' mm'
theorem sm_al_id {α : Type} {mx mm : gk_M} {v : α} (h : rl_ mx mm) : sm_al2 mx mm (some (v, mx)) (some (v, mm)) := ⟨v, mx, mm, rfl, rfl, h⟩
theorem c_count {mx mm : gk_M} (h : rl_ mx mm) (a : Int32) : sm_al2 mx mm (f_X_count a mx) (f_M_count a mm) := by
  obtain ⟨n, TX, TM, R, S, F, nb, hX, hM, hT, hP, ⟨k, k1, k2, k3, k4⟩, ⟨s, s1, s2, s3, s4⟩, ⟨d, e, d1, d2, d3, d4, d5, d6, d7⟩, hB, ⟨r, r1, r2, r3, r4⟩, hD⟩ := id h
  unfold f_X_count f_M_count
  rw [hX.1, hM.1, hX.2.2.2.1.1, hM.2.2.2.1.1, hX.2.2.2.2.1.1, hM.2.2.2.2.1.1, k2, k3, s2, s3, d3, d5, hB.2.1, hB.2.2.1, r2, r3]
  repeat' (first | exact sm_al_id h | split)
theorem c_feed {mx mm : gk_M} (h : rl_ mx mm) (a : Int32) : sm_al2 mx mm (f_X_feed a mx) (f_M_feed a mm) := by
  obtain ⟨n, TX, TM, R, S, F, nb, hX, hM, hT, hP, ⟨k, k1, k2, k3, k4⟩, hS, hH, hB, hR, hD⟩ := id h
  unfold f_X_feed f_M_feed f_Reader_take
  rw [sm_in a (c := 255) 255 (by omega) rfl]
  simp only [m_within (h := 256) (hi := 255) (by omega) rfl, sm_bi]
  rcases sm_u_cases a 256 (by omega) with ⟨e0, e1⟩ | ⟨b, hb, rfl, e1⟩
  · simp only [e0, sm_10, sm_00, sm_11, not_true_eq_false, not_false_eq_true, if_true, if_false]; exact sm_al_id h
  · simp only [e1, k2, k3]
    by_cases hk : k = 120
    · subst hk
      simp (disch := omega) only [sm_lit, sm_nlt, sm_nle, sm_neq, sm_n_add, sm_n_mul, sm_bi, sm_bl, sm_bv, sm_let, sm_zz0, sm_zz1, sm_ai, sm_si, sm_al, sm_sl, sm_ar, sm_mi1, sm_mi0, sm_ml1, sm_ml0, sm_mil, sm_mli, sm_10, sm_00, sm_11, not_true_eq_false, not_false_eq_true, if_true, if_false, if_pos, if_neg]
      exact sm_al_id h
    · simp (disch := omega) only [sm_lit, sm_nlt, sm_nle, sm_neq, sm_n_add, sm_n_mul, sm_bi, sm_bl, sm_bv, sm_let, sm_zz0, sm_zz1, sm_ai, sm_si, sm_al, sm_sl, sm_ar, sm_mi1, sm_mi0, sm_ml1, sm_ml0, sm_mil, sm_mli, sm_10, sm_00, sm_11, not_true_eq_false, not_false_eq_true, if_true, if_false, if_pos, if_neg]
      simp only [k2, k3]
      simp (disch := omega) only [sm_lit, sm_nlt, sm_nle, sm_neq, sm_n_add, sm_n_mul, sm_bi, sm_bl, sm_bv, sm_let, sm_zz0, sm_zz1, sm_ai, sm_si, sm_al, sm_sl, sm_ar, sm_mi1, sm_mi0, sm_ml1, sm_ml0, sm_mil, sm_mli, sm_10, sm_00, sm_11, not_true_eq_false, not_false_eq_true, if_true, if_false, if_pos, if_neg]
      refine ⟨_, _, _, rfl, rfl, n, TX, TM, R, S, F, nb, sm_X_fr (by intro k j h; unfold sm_fX at h; simp (disch := omega) only [sm_mi0, sm_mil, sm_mli]) hX, sm_M_fr (by intro k j h; unfold sm_fM at h; simp (disch := omega) only [sm_mi0, sm_mil, sm_mli]) hM, hT, rl_pr_fr (by intro k j h; simp (disch := omega) only [sm_mi0, sm_mil, sm_mli]) (by intro k j h; simp (disch := omega) only [sm_mi0, sm_mil, sm_mli]) hP, ?_, rl_sight_fr (by intro k j h; simp (disch := omega) only [sm_mi0, sm_mil, sm_mli]) (by intro k j h; simp (disch := omega) only [sm_mi0, sm_mil, sm_mli]) hS, rl_hist_fr (by intro k j h; simp (disch := omega) only [sm_mi0, sm_mil, sm_mli]) (by intro k j h; simp (disch := omega) only [sm_mi0, sm_mil, sm_mli]) (Nat.le_refl n) hH, rl_body_fr (by intro k j h; simp (disch := omega) only [sm_mi0, sm_mil, sm_mli]) (by intro k j h; simp (disch := omega) only [sm_mi0, sm_mil, sm_mli]) hB, rl_tr_fr (by intro k j h; simp (disch := omega) only [sm_mi0, sm_mil, sm_mli]) (by intro k j h; simp (disch := omega) only [sm_mi0, sm_mil, sm_mli]) hR, rl_sh_fr (Nat.le_refl nb) (by intro k j h; simp (disch := omega) only [sm_mi0, sm_mil, sm_mli]) (by intro k j h; simp (disch := omega) only [sm_mi0, sm_mil, sm_mli]) (by intros; rfl) (by intros; rfl) hD⟩
      refine ⟨k + 1, by omega, by rw [sm_mi1], by rw [sm_mi1], fun i hi => ?_⟩
      by_cases hik : i = k
      · subst hik
        simp (disch := omega) only [sm_mi1, sm_mi0, sm_ml1, sm_ml0, sm_mil, sm_mli]
        exact ⟨b, hb, rfl, rfl⟩
      · simp (disch := omega) only [sm_mi1, sm_mi0, sm_ml1, sm_ml0, sm_mil, sm_mli]
        exact k4 i (by omega)
