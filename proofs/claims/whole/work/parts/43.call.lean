/-! SIM: calls that change little -/
section PC
variable {n : Nat} {T : Nat → sm_tw} {R : sm_rd} {S : sm_fs} {F : sm_lf} {m m' : gk_M}
theorem sm_xT_fr (h : ∀ k j, k = 8 ∨ k = 9 ∨ k = 10 ∨ k = 12 → m'.1 k j = m.1 k j) (H : ∀ t, t < 12 → sm_xw m t (T t)) : ∀ t, t < 12 → sm_xw m' t (T t) := by
  intro t ht
  obtain ⟨a, b, c, d, e, f⟩ := H t ht
  exact ⟨a, by rw [h 8 t (by simp)]; exact b, by rw [h 9 t (by simp)]; exact c, by rw [h 10 t (by simp)]; exact d, by rw [h 12 t (by simp)]; exact e, f⟩
theorem sm_xR_fr (h : ∀ k j, (k = 7 ∧ j = 7) ∨ k = 13 ∨ k = 14 → m'.1 k j = m.1 k j) (H : sm_xR R m) : sm_xR R m' := by
  obtain ⟨r1, r2, r3⟩ := H
  refine ⟨by rw [h 7 7 (by simp)]; exact r1, r2, fun r hr => ?_⟩
  obtain ⟨a, b, c, d⟩ := r3 r hr
  exact ⟨by rw [h 13 r (by simp)]; exact a, b, c, fun i hi => ⟨by rw [h 14 _ (by simp)]; exact (d i hi).1, (d i hi).2⟩⟩
theorem sm_xS_fr (h : ∀ k j, (k = 7 ∧ j = 8) ∨ k = 15 ∨ k = 16 ∨ k = 17 ∨ k = 18 → m'.1 k j = m.1 k j) (H : sm_xS S m) : sm_xS S m' := by
  obtain ⟨s1, s2, s3⟩ := H
  refine ⟨by rw [h 7 8 (by simp)]; exact s1, s2, fun f hf => ?_⟩
  rw [h 15 f (by simp), h 16 f (by simp), h 17 f (by simp), h 18 f (by simp)]
  exact s3 f hf
theorem sm_xF_fr (h : ∀ k j, k = 1 ∨ k = 2 → m'.1 k j = m.1 k j) (H : sm_xF F m) : sm_xF F m' :=
  fun m1 e1 e2 => H m1 (e1.trans (funext fun j => h 1 j (by simp))) (e2.trans (funext fun j => h 2 j (by simp)))
theorem sm_xC_fr (h : ∀ k j, k = 20 → m'.1 k j = m.1 k j) (H : sm_xC F T m) : sm_xC F T m' := by
  intro k s t hk hs ht
  rw [h 20 _ rfl]
  exact H k s t hk hs ht
theorem sm_xC_0 (h : ∀ j, j < 720 → m.1 20 j = 0) : sm_xC F T m := by
  intro k s t hk hs ht
  exact Or.inl (h _ (by omega))
theorem sm_mT_fr (h : ∀ k j, k = 1 ∨ k = 5 ∨ k = 6 ∨ k = 7 → m'.1 k j = m.1 k j) (H : ∀ t, t < 20 → sm_mw n m t (T t)) : ∀ t, t < 20 → sm_mw n m' t (T t) := by
  intro t ht
  obtain ⟨a, b, c, d, e, f⟩ := H t ht
  exact ⟨a, by rw [h 5 t (by simp)]; exact b, by rw [h 1 t (by simp), h 7 t (by simp)]; exact c, by rw [h 1 _ (by simp)]; exact d, by rw [h 6 t (by simp)]; exact e, f⟩
theorem sm_mR_fr (h : ∀ k j, (k = 0 ∧ j = 10) ∨ k = 8 ∨ k = 9 → m'.1 k j = m.1 k j) (H : sm_mR R m) : sm_mR R m' := by
  obtain ⟨r1, r2, r3⟩ := H
  refine ⟨by rw [h 0 10 (by simp)]; exact r1, r2, fun r hr => ?_⟩
  obtain ⟨a, b, c, d⟩ := r3 r hr
  exact ⟨by rw [h 8 r (by simp)]; exact a, b, c, fun i hi => ⟨by rw [h 9 _ (by simp)]; exact (d i hi).1, (d i hi).2⟩⟩
theorem sm_mS_fr (h : ∀ k j, (k = 0 ∧ j = 13) ∨ k = 10 → m'.1 k j = m.1 k j) (H : sm_mS S m) : sm_mS S m' := by
  obtain ⟨s1, s2, s3⟩ := H
  refine ⟨by rw [h 0 13 (by simp)]; exact s1, s2, fun f hf => ?_⟩
  rw [h 10 _ (by simp), h 10 _ (by simp)]
  exact s3 f hf
theorem sm_mF_fr (h : ∀ k j, (k = 0 ∧ j = 18) ∨ k = 12 → m'.1 k j = m.1 k j) (H : sm_mF F m) : sm_mF F m' := by
  rcases H with ⟨a, b⟩ | ⟨L, a, b, c⟩
  · exact Or.inl ⟨by rw [h 0 18 (by simp)]; exact a, b⟩
  · exact Or.inr ⟨L, a, by rw [h 0 18 (by simp)]; exact b, fun m1 e1 => c m1 (e1.trans (funext fun j => h 12 j (by simp)))⟩
end PC
/-- as the class writes it: a < 0, then c < a -/
theorem sm_in' {β : Type} (a : Int32) {c : Int32} (l : Nat) (hl : l < 2147483647) (hc : c = sm_n l) (p q : β) : (if a < 0 then p else if c < a then p else q) = if sm_u a (l + 1) = 0 then p else q := by
  subst hc
  rw [← sm_in a l hl rfl]
  by_cases h : a < 0
  · rw [if_pos h, if_pos h]
  · rw [if_neg h, if_neg h]
    by_cases h1 : sm_n l < a
    · rw [if_pos h1, if_neg]; rw [sm_lt] at h1; rw [sm_le]; omega
    · rw [if_neg h1, if_pos]; rw [sm_lt] at h1; rw [sm_le]; omega
theorem c_sight {mx mm : gk_M} (h : rl_ mx mm) (a b : Int32) : sm_al2 mx mm (f_X_sight a b mx) (f_M_sight a b mm) := by
  obtain ⟨n, TX, TM, R, S, F, nb, hX, hM, hT, hP, hK, ⟨k, k1, k2, k3, k4⟩, hH, hB, hR, hD⟩ := id h
  unfold f_X_sight f_M_sight f_Walker_tell
  simp only [sm_in b (c := 1023) 1023 (by omega) rfl, x_isPoint, m_isPoint, m_within (h := 1024) (hi := 1023) (by omega) rfl, sm_bi]
  rcases sm_u_cases a 900 (by omega) with ⟨e0, e1⟩ | ⟨p, hp, rfl, e1⟩
  · simp only [e0, sm_10, sm_00, sm_11, not_true_eq_false, not_false_eq_true, if_true, if_false]; exact sm_al_id h
  rcases sm_u_cases b 1024 (by omega) with ⟨e0, e2⟩ | ⟨q, hq, rfl, e2⟩
  · simp only [e1, e0, sm_10, sm_00, sm_11, not_true_eq_false, not_false_eq_true, if_true, if_false]; exact sm_al_id h
  simp only [e1, e2, k2, k3]
  by_cases hk : k = 10
  · subst hk
    simp (disch := omega) only [sm_lit, sm_nlt, sm_nle, sm_neq, sm_n_add, sm_n_mul, sm_bi, sm_bl, sm_bv, sm_let, sm_zz0, sm_zz1, sm_ai, sm_si, sm_al, sm_sl, sm_ar, sm_mi1, sm_mi0, sm_ml1, sm_ml0, sm_mil, sm_mli, sm_10, sm_00, sm_11, not_true_eq_false, not_false_eq_true, if_true, if_false, if_pos, if_neg]
    exact sm_al_id h
  · simp (disch := omega) only [sm_lit, sm_nlt, sm_nle, sm_neq, sm_n_add, sm_n_mul, sm_bi, sm_bl, sm_bv, sm_let, sm_zz0, sm_zz1, sm_ai, sm_si, sm_al, sm_sl, sm_ar, sm_mi1, sm_mi0, sm_ml1, sm_ml0, sm_mil, sm_mli, sm_10, sm_00, sm_11, not_true_eq_false, not_false_eq_true, if_true, if_false, if_pos, if_neg]
    simp only [k2, k3]
    simp (disch := omega) only [sm_lit, sm_nlt, sm_nle, sm_neq, sm_n_add, sm_n_mul, sm_bi, sm_bl, sm_bv, sm_let, sm_zz0, sm_zz1, sm_ai, sm_si, sm_al, sm_sl, sm_ar, sm_mi1, sm_mi0, sm_ml1, sm_ml0, sm_mil, sm_mli, sm_10, sm_00, sm_11, not_true_eq_false, not_false_eq_true, if_true, if_false, if_pos, if_neg]
    simp only [k2, k3]
    simp (disch := omega) only [sm_lit, sm_nlt, sm_nle, sm_neq, sm_n_add, sm_n_mul, sm_bi, sm_bl, sm_bv, sm_let, sm_zz0, sm_zz1, sm_ai, sm_si, sm_al, sm_sl, sm_ar, sm_mi1, sm_mi0, sm_ml1, sm_ml0, sm_mil, sm_mli, sm_10, sm_00, sm_11, not_true_eq_false, not_false_eq_true, if_true, if_false, if_pos, if_neg]
    simp (disch := omega) only [sm_n_sub, Nat.add_sub_cancel]
    refine ⟨_, _, _, rfl, rfl, n, TX, TM, R, S, F, nb, sm_X_fr (by intro k j h; unfold sm_fX at h; simp (disch := omega) only [sm_mi0, sm_mil, sm_mli]) hX, sm_M_fr (by intro k j h; unfold sm_fM at h; simp (disch := omega) only [sm_mi0, sm_mil, sm_mli]) hM, hT, rl_pr_fr (by intro k j h; simp (disch := omega) only [sm_mi0, sm_mil, sm_mli]) (by intro k j h; simp (disch := omega) only [sm_mi0, sm_mil, sm_mli]) hP, rl_tape_fr (by intro k j h; simp (disch := omega) only [sm_mi0, sm_mil, sm_mli]) (by intro k j h; simp (disch := omega) only [sm_mi0, sm_mil, sm_mli]) hK, ?_, rl_hist_fr (by intro k j h; simp (disch := omega) only [sm_mi0, sm_mil, sm_mli]) (by intro k j h; simp (disch := omega) only [sm_mi0, sm_mil, sm_mli]) (Nat.le_refl n) hH, rl_body_fr (by intro k j h; simp (disch := omega) only [sm_mi0, sm_mil, sm_mli]) (by intro k j h; simp (disch := omega) only [sm_mi0, sm_mil, sm_mli]) hB, rl_tr_fr (by intro k j h; simp (disch := omega) only [sm_mi0, sm_mil, sm_mli]) (by intro k j h; simp (disch := omega) only [sm_mi0, sm_mil, sm_mli]) hR, rl_sh_fr (Nat.le_refl nb) (by intro k j h; simp (disch := omega) only [sm_mi0, sm_mil, sm_mli]) (by intro k j h; simp (disch := omega) only [sm_mi0, sm_mil, sm_mli]) (by intros; rfl) (by intros; rfl) hD⟩
    refine ⟨k + 1, by omega, by simp (disch := omega) only [sm_mi1, sm_mi0, sm_ml1, sm_ml0, sm_mil, sm_mli], by simp (disch := omega) only [sm_mi1, sm_mi0, sm_ml1, sm_ml0, sm_mil, sm_mli], fun i hi => ?_⟩
    by_cases hik : i = k
    · subst hik
      simp (disch := omega) only [sm_mi1, sm_mi0, sm_ml1, sm_ml0, sm_mil, sm_mli]
      exact ⟨trivial, p, hp, rfl, rfl⟩
    · simp (disch := omega) only [sm_mi1, sm_mi0, sm_ml1, sm_ml0, sm_mil, sm_mli]
      exact k4 i (by omega)
theorem c_body {mx mm : gk_M} (h : rl_ mx mm) (a : Int32) : sm_al2 mx mm (f_X_body a mx) (f_M_body a mm) := by
  obtain ⟨n, TX, TM, R, S, F, nb, hX, hM, hT, hP, hK, hS, hH, ⟨b1, b2, b3, b4⟩, hR, hD⟩ := id h
  unfold f_X_body f_M_body f_Ways_add
  simp only [x_isKind, m_within (h := 8) (hi := 7) (by omega) rfl, sm_bi]
  rcases sm_u_cases a 8 (by omega) with ⟨e0, e1⟩ | ⟨p, hp, rfl, e1⟩
  · simp only [e0, sm_10, sm_00, sm_11, not_true_eq_false, not_false_eq_true, if_true, if_false]; exact sm_al_id h
  simp only [e1, b2, b3]
  by_cases hk : nb = 50
  · subst hk
    simp (disch := omega) only [sm_lit, sm_nlt, sm_nle, sm_neq, sm_n_add, sm_n_mul, sm_bi, sm_bl, sm_bv, sm_let, sm_zz0, sm_zz1, sm_ai, sm_si, sm_al, sm_sl, sm_ar, sm_mi1, sm_mi0, sm_ml1, sm_ml0, sm_mil, sm_mli, sm_10, sm_00, sm_11, not_true_eq_false, not_false_eq_true, if_true, if_false, if_pos, if_neg]
    exact sm_al_id h
  · simp (disch := omega) only [sm_lit, sm_nlt, sm_nle, sm_neq, sm_n_add, sm_n_mul, sm_bi, sm_bl, sm_bv, sm_let, sm_zz0, sm_zz1, sm_ai, sm_si, sm_al, sm_sl, sm_ar, sm_mi1, sm_mi0, sm_ml1, sm_ml0, sm_mil, sm_mli, sm_10, sm_00, sm_11, not_true_eq_false, not_false_eq_true, if_true, if_false, if_pos, if_neg]
    simp only [b2, b3]
    simp (disch := omega) only [sm_lit, sm_nlt, sm_nle, sm_neq, sm_n_add, sm_n_mul, sm_bi, sm_bl, sm_bv, sm_let, sm_zz0, sm_zz1, sm_ai, sm_si, sm_al, sm_sl, sm_ar, sm_mi1, sm_mi0, sm_ml1, sm_ml0, sm_mil, sm_mli, sm_10, sm_00, sm_11, not_true_eq_false, not_false_eq_true, if_true, if_false, if_pos, if_neg]
    simp (disch := omega) only [sm_n_sub, Nat.add_sub_cancel]
    refine ⟨_, _, _, rfl, rfl, n, TX, TM, R, S, F, nb + 1, sm_X_fr (by intro k j h; unfold sm_fX at h; simp (disch := omega) only [sm_mi0, sm_mil, sm_mli]) hX, sm_M_fr (by intro k j h; unfold sm_fM at h; simp (disch := omega) only [sm_mi0, sm_mil, sm_mli]) hM, hT, rl_pr_fr (by intro k j h; simp (disch := omega) only [sm_mi0, sm_mil, sm_mli]) (by intro k j h; simp (disch := omega) only [sm_mi0, sm_mil, sm_mli]) hP, rl_tape_fr (by intro k j h; simp (disch := omega) only [sm_mi0, sm_mil, sm_mli]) (by intro k j h; simp (disch := omega) only [sm_mi0, sm_mil, sm_mli]) hK, rl_sight_fr (by intro k j h; simp (disch := omega) only [sm_mi0, sm_mil, sm_mli]) (by intro k j h; simp (disch := omega) only [sm_mi0, sm_mil, sm_mli]) hS, rl_hist_fr (by intro k j h; simp (disch := omega) only [sm_mi0, sm_mil, sm_mli]) (by intro k j h; simp (disch := omega) only [sm_mi0, sm_mil, sm_mli]) (Nat.le_refl n) hH, ?_, rl_tr_fr (by intro k j h; simp (disch := omega) only [sm_mi0, sm_mil, sm_mli]) (by intro k j h; simp (disch := omega) only [sm_mi0, sm_mil, sm_mli]) hR, rl_sh_fr (Nat.le_succ nb) (by intro k j h; simp (disch := omega) only [sm_mi0, sm_mil, sm_mli]) (by intro k j h; simp (disch := omega) only [sm_mi0, sm_mil, sm_mli]) (by intros; rfl) (by intros; rfl) hD⟩
    refine ⟨by omega, by simp (disch := omega) only [sm_mi1, sm_mi0, sm_ml1, sm_ml0, sm_mil, sm_mli], by simp (disch := omega) only [sm_mi1, sm_mi0, sm_ml1, sm_ml0, sm_mil, sm_mli], fun i hi => ?_⟩
    by_cases hik : i = nb
    · subst hik
      simp (disch := omega) only [sm_mi1, sm_mi0, sm_ml1, sm_ml0, sm_mil, sm_mli]
      exact ⟨p, hp, rfl, rfl⟩
    · simp (disch := omega) only [sm_mi1, sm_mi0, sm_ml1, sm_ml0, sm_mil, sm_mli]
      exact b4 i (by omega)
theorem c_trace {mx mm : gk_M} (h : rl_ mx mm) (a : Int32) : sm_al2 mx mm (f_X_trace a mx) (f_M_trace a mm) := by
  obtain ⟨n, TX, TM, R, S, F, nb, hX, hM, hT, hP, hK, hS, hH, hB, ⟨r, r1, r2, r3, r4⟩, hD⟩ := id h
  unfold f_X_trace f_M_trace f_Ways_traced gk_min
  by_cases h0 : a < 0
  · simp only [if_pos h0, sm_bi]; exact sm_al_id h
  obtain ⟨i, hi, rfl⟩ := sm_get h0
  simp only [if_neg h0, r2, r3]
  by_cases hr : 24 < r
  · simp (disch := omega) only [sm_lit, sm_nlt, sm_nle, sm_neq, sm_n_add, sm_n_mul, sm_bi, sm_bl, sm_bv, sm_let, sm_zz0, sm_zz1, sm_ai, sm_si, sm_al, sm_sl, sm_ar, sm_mi1, sm_mi0, sm_ml1, sm_ml0, sm_mil, sm_mli, sm_10, sm_00, sm_11, not_true_eq_false, not_false_eq_true, if_true, if_false, if_pos, if_neg]
    by_cases h1 : 24 ≤ i
    · simp (disch := omega) only [sm_lit, sm_nlt, sm_nle, sm_neq, sm_n_add, sm_n_mul, sm_bi, sm_bl, sm_bv, sm_let, sm_zz0, sm_zz1, sm_ai, sm_si, sm_al, sm_sl, sm_ar, sm_mi1, sm_mi0, sm_ml1, sm_ml0, sm_mil, sm_mli, sm_10, sm_00, sm_11, not_true_eq_false, not_false_eq_true, if_true, if_false, if_pos, if_neg]
      split
      · exact sm_al_id h
      · exact sm_al_id h
    · simp (disch := omega) only [sm_lit, sm_nlt, sm_nle, sm_neq, sm_n_add, sm_n_mul, sm_bi, sm_bl, sm_bv, sm_let, sm_zz0, sm_zz1, sm_ai, sm_si, sm_al, sm_sl, sm_ar, sm_mi1, sm_mi0, sm_ml1, sm_ml0, sm_mil, sm_mli, sm_10, sm_00, sm_11, not_true_eq_false, not_false_eq_true, if_true, if_false, if_pos, if_neg]
      rw [r4 i (by omega) (by omega)]
      exact sm_al_id h
  · simp (disch := omega) only [sm_lit, sm_nlt, sm_nle, sm_neq, sm_n_add, sm_n_mul, sm_bi, sm_bl, sm_bv, sm_let, sm_zz0, sm_zz1, sm_ai, sm_si, sm_al, sm_sl, sm_ar, sm_mi1, sm_mi0, sm_ml1, sm_ml0, sm_mil, sm_mli, sm_10, sm_00, sm_11, not_true_eq_false, not_false_eq_true, if_true, if_false, if_pos, if_neg]
    by_cases h1 : r ≤ i
    · simp (disch := omega) only [sm_lit, sm_nlt, sm_nle, sm_neq, sm_n_add, sm_n_mul, sm_bi, sm_bl, sm_bv, sm_let, sm_zz0, sm_zz1, sm_ai, sm_si, sm_al, sm_sl, sm_ar, sm_mi1, sm_mi0, sm_ml1, sm_ml0, sm_mil, sm_mli, sm_10, sm_00, sm_11, not_true_eq_false, not_false_eq_true, if_true, if_false, if_pos, if_neg]
      exact sm_al_id h
    · simp (disch := omega) only [sm_lit, sm_nlt, sm_nle, sm_neq, sm_n_add, sm_n_mul, sm_bi, sm_bl, sm_bv, sm_let, sm_zz0, sm_zz1, sm_ai, sm_si, sm_al, sm_sl, sm_ar, sm_mi1, sm_mi0, sm_ml1, sm_ml0, sm_mil, sm_mli, sm_10, sm_00, sm_11, not_true_eq_false, not_false_eq_true, if_true, if_false, if_pos, if_neg]
      rw [r4 i (by omega) (by omega)]
      exact sm_al_id h
def sm_up {α : Type} (f : Nat → α) (i : Nat) (v : α) : Nat → α := fun j => if j = i then v else f j
theorem sm_up1 {α : Type} (f : Nat → α) (i : Nat) (v : α) : sm_up f i v i = v := if_pos rfl
theorem sm_up0 {α : Type} {f : Nat → α} {i : Nat} {v : α} {j : Nat} (h : ¬ j = i) : sm_up f i v j = f j := if_neg h
theorem c_road {mx mm : gk_M} (h : rl_ mx mm) (a b : Int32) : sm_al2 mx mm (f_X_road a b mx) (f_M_road a b mm) := by
  obtain ⟨n, TX, TM, ⟨nr, c, rp⟩, S, F, nb, ⟨x1, x2, x3, ⟨x4, x5, x6⟩, x7, x8, x9⟩, ⟨y1, y2, y3, ⟨y4, y5, y6⟩, y7, y8⟩, hT, hP, hK, hS, hH, hB, hR, hD⟩ := id h
  simp only at x4 x5 x6 y4 y5 y6
  unfold f_X_road f_M_road f_Plain_addRoad
  simp only [x_isPoint, m_isPoint, sm_bi]
  rcases sm_u_cases a 900 (by omega) with ⟨e0, e1⟩ | ⟨p, hp, rfl, e1⟩
  · simp only [e0, sm_10, sm_00, sm_11, not_true_eq_false, not_false_eq_true, if_true, if_false]; exact sm_al_id h
  rcases sm_u_cases b 900 (by omega) with ⟨e0, e2⟩ | ⟨q, hq, rfl, e2⟩
  · simp only [e1, e0, sm_10, sm_00, sm_11, not_true_eq_false, not_false_eq_true, if_true, if_false]; exact sm_al_id h
  simp only [e1, e2, x4, y4, sm_10, sm_00, sm_11, not_true_eq_false, not_false_eq_true, if_true, if_false]
  split
  · by_cases hk : nr = 4
    · subst hk
      simp (disch := omega) only [sm_lit, sm_nlt, sm_nle, sm_neq, sm_n_add, sm_n_mul, sm_bi, sm_bl, sm_bv, sm_let, sm_zz0, sm_zz1, sm_ai, sm_si, sm_al, sm_sl, sm_ar, sm_mi1, sm_mi0, sm_ml1, sm_ml0, sm_mil, sm_mli, sm_10, sm_00, sm_11, not_true_eq_false, not_false_eq_true, if_true, if_false, if_pos, if_neg]
      exact sm_al_id h
    · simp (disch := omega) only [sm_lit, sm_nlt, sm_nle, sm_neq, sm_n_add, sm_n_mul, sm_bi, sm_bl, sm_bv, sm_let, sm_zz0, sm_zz1, sm_ai, sm_si, sm_al, sm_sl, sm_ar, sm_mi1, sm_mi0, sm_ml1, sm_ml0, sm_mil, sm_mli, sm_10, sm_00, sm_11, not_true_eq_false, not_false_eq_true, if_true, if_false, if_pos, if_neg]
      simp only [x4, y4]
      simp (disch := omega) only [sm_lit, sm_nlt, sm_nle, sm_neq, sm_n_add, sm_n_mul, sm_bi, sm_bl, sm_bv, sm_let, sm_zz0, sm_zz1, sm_ai, sm_si, sm_al, sm_sl, sm_ar, sm_mi1, sm_mi0, sm_ml1, sm_ml0, sm_mil, sm_mli, sm_10, sm_00, sm_11, not_true_eq_false, not_false_eq_true, if_true, if_false, if_pos, if_neg]
      simp only [x4, y4]
      simp (disch := omega) only [sm_lit, sm_nlt, sm_nle, sm_neq, sm_n_add, sm_n_mul, sm_bi, sm_bl, sm_bv, sm_let, sm_zz0, sm_zz1, sm_ai, sm_si, sm_al, sm_sl, sm_ar, sm_mi1, sm_mi0, sm_ml1, sm_ml0, sm_mil, sm_mli, sm_10, sm_00, sm_11, not_true_eq_false, not_false_eq_true, if_true, if_false, if_pos, if_neg]
      simp only [x4, y4]
      simp (disch := omega) only [sm_lit, sm_nlt, sm_nle, sm_neq, sm_n_add, sm_n_mul, sm_bi, sm_bl, sm_bv, sm_let, sm_zz0, sm_zz1, sm_ai, sm_si, sm_al, sm_sl, sm_ar, sm_mi1, sm_mi0, sm_ml1, sm_ml0, sm_mil, sm_mli, sm_10, sm_00, sm_11, not_true_eq_false, not_false_eq_true, if_true, if_false, if_pos, if_neg]
      simp (disch := omega) only [sm_n_sub, Nat.add_sub_cancel]
      refine ⟨_, _, _, rfl, rfl, n, TX, TM, (nr + 1, sm_up c nr 2, sm_up rp nr (fun i => if i = 0 then p else q)), S, F, nb, ⟨by simp (disch := omega) only [sm_mi1, sm_mi0, sm_ml1, sm_ml0, sm_mil, sm_mli]; exact x1, x2, sm_xT_fr (by intro k j h; simp (disch := omega) only [sm_mi0, sm_mil, sm_mli]) x3, ⟨by simp (disch := omega) only [sm_mi1, sm_mi0, sm_ml1, sm_ml0, sm_mil, sm_mli], ?_, ?_⟩, sm_xS_fr (by intro k j h; simp (disch := omega) only [sm_mi0, sm_mil, sm_mli]) x7, sm_xF_fr (by intro k j h; simp (disch := omega) only [sm_mi0, sm_mil, sm_mli]) x8, sm_xC_fr (by intro k j h; simp (disch := omega) only [sm_mi0, sm_mil, sm_mli]) x9⟩, ⟨by simp (disch := omega) only [sm_mi1, sm_mi0, sm_ml1, sm_ml0, sm_mil, sm_mli]; exact y1, y2, sm_mT_fr (by intro k j h; simp (disch := omega) only [sm_mi0, sm_mil, sm_mli]) y3, ⟨by simp (disch := omega) only [sm_mi1, sm_mi0, sm_ml1, sm_ml0, sm_mil, sm_mli], ?_, ?_⟩, sm_mS_fr (by intro k j h; simp (disch := omega) only [sm_mi0, sm_mil, sm_mli]) y7, sm_mF_fr (by intro k j h; simp (disch := omega) only [sm_mi0, sm_mil, sm_mli]) y8⟩, hT, rl_pr_fr (by intro k j h; simp (disch := omega) only [sm_mi0, sm_mil, sm_mli]) (by intro k j h; simp (disch := omega) only [sm_mi0, sm_mil, sm_mli]) hP, rl_tape_fr (by intro k j h; simp (disch := omega) only [sm_mi0, sm_mil, sm_mli]) (by intro k j h; simp (disch := omega) only [sm_mi0, sm_mil, sm_mli]) hK, rl_sight_fr (by intro k j h; simp (disch := omega) only [sm_mi0, sm_mil, sm_mli]) (by intro k j h; simp (disch := omega) only [sm_mi0, sm_mil, sm_mli]) hS, rl_hist_fr (by intro k j h; simp (disch := omega) only [sm_mi0, sm_mil, sm_mli]) (by intro k j h; simp (disch := omega) only [sm_mi0, sm_mil, sm_mli]) (Nat.le_refl n) hH, rl_body_fr (by intro k j h; simp (disch := omega) only [sm_mi0, sm_mil, sm_mli]) (by intro k j h; simp (disch := omega) only [sm_mi0, sm_mil, sm_mli]) hB, rl_tr_fr (by intro k j h; simp (disch := omega) only [sm_mi0, sm_mil, sm_mli]) (by intro k j h; simp (disch := omega) only [sm_mi0, sm_mil, sm_mli]) hR, rl_sh_fr (Nat.le_refl nb) (by intro k j h; simp (disch := omega) only [sm_mi0, sm_mil, sm_mli]) (by intro k j h; simp (disch := omega) only [sm_mi0, sm_mil, sm_mli]) (by intros; rfl) (by intros; rfl) hD⟩
      · show nr + 1 ≤ 4; omega
      · intro r hr
        simp only at hr ⊢
        by_cases e : r = nr
        · subst e
          simp only [sm_up1]
          refine ⟨by simp (disch := omega) only [sm_mi1, sm_mi0, sm_ml1, sm_ml0, sm_mil, sm_mli], by omega, by omega, fun i hi => ?_⟩
          rcases (by omega : i = 0 ∨ i = 1) with rfl | rfl
          · simp (disch := omega) only [Nat.add_zero, sm_mi1, sm_mi0]; exact ⟨rfl, hp⟩
          · simp (disch := omega) only [sm_mi1, sm_mi0, sm_ml1, sm_ml0, sm_mil, sm_mli]; exact ⟨rfl, hq⟩
        · simp only [sm_up0 e]
          obtain ⟨u1, u2, u3, u4⟩ := x6 r (by omega)
          refine ⟨by simp (disch := omega) only [sm_mi1, sm_mi0, sm_ml1, sm_ml0, sm_mil, sm_mli]; exact u1, u2, u3, fun i hi => ?_⟩
          simp (disch := omega) only [sm_mi1, sm_mi0, sm_ml1, sm_ml0, sm_mil, sm_mli]
          exact u4 i hi
      · show nr + 1 ≤ 4; omega
      · intro r hr
        simp only at hr ⊢
        by_cases e : r = nr
        · subst e
          simp only [sm_up1]
          refine ⟨by simp (disch := omega) only [sm_mi1, sm_mi0, sm_ml1, sm_ml0, sm_mil, sm_mli], by omega, by omega, fun i hi => ?_⟩
          rcases (by omega : i = 0 ∨ i = 1) with rfl | rfl
          · simp (disch := omega) only [Nat.add_zero, sm_mi1, sm_mi0]; exact ⟨rfl, hp⟩
          · simp (disch := omega) only [sm_mi1, sm_mi0, sm_ml1, sm_ml0, sm_mil, sm_mli]; exact ⟨rfl, hq⟩
        · simp only [sm_up0 e]
          obtain ⟨u1, u2, u3, u4⟩ := y6 r (by omega)
          refine ⟨by simp (disch := omega) only [sm_mi1, sm_mi0, sm_ml1, sm_ml0, sm_mil, sm_mli]; exact u1, u2, u3, fun i hi => ?_⟩
          simp (disch := omega) only [sm_mi1, sm_mi0, sm_ml1, sm_ml0, sm_mil, sm_mli]
          exact u4 i hi
  · exact sm_al_id h
theorem c_corner {mx mm : gk_M} (h : rl_ mx mm) (a b : Int32) : sm_al2 mx mm (f_X_corner a b mx) (f_M_corner a b mm) := by
  obtain ⟨n, TX, TM, ⟨nr, c, rp⟩, S, F, nb, ⟨x1, x2, x3, ⟨x4, x5, x6⟩, x7, x8, x9⟩, ⟨y1, y2, y3, ⟨y4, y5, y6⟩, y7, y8⟩, hT, hP, hK, hS, hH, hB, hR, hD⟩ := id h
  simp only at x4 x5 x6 y4 y5 y6
  unfold f_X_corner f_M_corner f_Plain_addCorner f_Plain_cornerAt
  simp only [x_isPoint, m_isPoint, x_isRoad _ x4, m_isRoad _ (show nr < 2147483648 by omega) y4, sm_bi]
  rcases sm_u_cases a nr (by omega) with ⟨e0, e1⟩ | ⟨r, hr, rfl, e1⟩
  · simp only [e0, sm_10, sm_00, sm_11, not_true_eq_false, not_false_eq_true, if_true, if_false]; exact sm_al_id h
  rcases sm_u_cases b 900 (by omega) with ⟨e0, e2⟩ | ⟨q, hq, rfl, e2⟩
  · simp only [e1, e0, sm_10, sm_00, sm_11, not_true_eq_false, not_false_eq_true, if_true, if_false]; exact sm_al_id h
  obtain ⟨u1, u2, u3, u4⟩ := x6 r hr
  obtain ⟨v1, v2, v3, v4⟩ := y6 r hr
  simp only [e1, e2, sm_10, sm_00, sm_11, not_true_eq_false, not_false_eq_true, if_true, if_false]
  simp (disch := omega) only [sm_lit, sm_nlt, sm_nle, sm_neq, sm_n_add, sm_n_mul, sm_bi, sm_bl, sm_bv, sm_let, sm_zz0, sm_zz1, sm_ai, sm_si, sm_al, sm_sl, sm_ar, sm_mi1, sm_mi0, sm_ml1, sm_ml0, sm_mil, sm_mli, sm_10, sm_00, sm_11, not_true_eq_false, not_false_eq_true, if_true, if_false, if_pos, if_neg]
  simp only [u1, v1]
  simp (disch := omega) only [sm_lit, sm_n_sub, sm_n_mul, sm_n_add, sm_ai]
  have w1 := (u4 (c r - 1) (by omega)).1
  have w2 := (v4 (c r - 1) (by omega)).1
  have w0 := (u4 (c r - 1) (by omega)).2
  rw [show 7 * r + c r - 1 = 7 * r + (c r - 1) by omega, w1, w2]
  by_cases hb : rp r (c r - 1) = q
  · simp (disch := omega) only [sm_lit, sm_nlt, sm_nle, sm_neq, sm_n_add, sm_n_mul, sm_bi, sm_bl, sm_bv, sm_let, sm_zz0, sm_zz1, sm_ai, sm_si, sm_al, sm_sl, sm_ar, sm_mi1, sm_mi0, sm_ml1, sm_ml0, sm_mil, sm_mli, sm_10, sm_00, sm_11, not_true_eq_false, not_false_eq_true, if_true, if_false, if_pos, if_neg]
    exact sm_al_id h
  · simp (disch := omega) only [sm_lit, sm_nlt, sm_nle, sm_neq, sm_n_add, sm_n_mul, sm_bi, sm_bl, sm_bv, sm_let, sm_zz0, sm_zz1, sm_ai, sm_si, sm_al, sm_sl, sm_ar, sm_mi1, sm_mi0, sm_ml1, sm_ml0, sm_mil, sm_mli, sm_10, sm_00, sm_11, not_true_eq_false, not_false_eq_true, if_true, if_false, if_pos, if_neg]
    simp only [u1, v1]
    by_cases hk : c r = 6
    · simp only [hk]
      simp (disch := omega) only [sm_lit, sm_nlt, sm_nle, sm_neq, sm_n_add, sm_n_mul, sm_bi, sm_bl, sm_bv, sm_let, sm_zz0, sm_zz1, sm_ai, sm_si, sm_al, sm_sl, sm_ar, sm_mi1, sm_mi0, sm_ml1, sm_ml0, sm_mil, sm_mli, sm_10, sm_00, sm_11, not_true_eq_false, not_false_eq_true, if_true, if_false, if_pos, if_neg]
      exact sm_al_id h
    · simp (disch := omega) only [sm_lit, sm_nlt, sm_nle, sm_neq, sm_n_add, sm_n_mul, sm_bi, sm_bl, sm_bv, sm_let, sm_zz0, sm_zz1, sm_ai, sm_si, sm_al, sm_sl, sm_ar, sm_mi1, sm_mi0, sm_ml1, sm_ml0, sm_mil, sm_mli, sm_10, sm_00, sm_11, not_true_eq_false, not_false_eq_true, if_true, if_false, if_pos, if_neg]
      simp only [u1, v1]
      simp (disch := omega) only [sm_lit, sm_nlt, sm_nle, sm_neq, sm_n_add, sm_n_mul, sm_bi, sm_bl, sm_bv, sm_let, sm_zz0, sm_zz1, sm_ai, sm_si, sm_al, sm_sl, sm_ar, sm_mi1, sm_mi0, sm_ml1, sm_ml0, sm_mil, sm_mli, sm_10, sm_00, sm_11, not_true_eq_false, not_false_eq_true, if_true, if_false, if_pos, if_neg]
      refine ⟨_, _, _, rfl, rfl, n, TX, TM, (nr, sm_up c r (c r + 1), sm_up rp r (sm_up (rp r) (c r) q)), S, F, nb, ⟨by simp (disch := omega) only [sm_mi1, sm_mi0, sm_ml1, sm_ml0, sm_mil, sm_mli]; exact x1, x2, sm_xT_fr (by intro k j h; simp (disch := omega) only [sm_mi0, sm_mil, sm_mli]) x3, ⟨by simp (disch := omega) only [sm_mi1, sm_mi0, sm_ml1, sm_ml0, sm_mil, sm_mli]; exact x4, x5, ?_⟩, sm_xS_fr (by intro k j h; simp (disch := omega) only [sm_mi0, sm_mil, sm_mli]) x7, sm_xF_fr (by intro k j h; simp (disch := omega) only [sm_mi0, sm_mil, sm_mli]) x8, sm_xC_fr (by intro k j h; simp (disch := omega) only [sm_mi0, sm_mil, sm_mli]) x9⟩, ⟨by simp (disch := omega) only [sm_mi1, sm_mi0, sm_ml1, sm_ml0, sm_mil, sm_mli]; exact y1, y2, sm_mT_fr (by intro k j h; simp (disch := omega) only [sm_mi0, sm_mil, sm_mli]) y3, ⟨by simp (disch := omega) only [sm_mi1, sm_mi0, sm_ml1, sm_ml0, sm_mil, sm_mli]; exact y4, y5, ?_⟩, sm_mS_fr (by intro k j h; simp (disch := omega) only [sm_mi0, sm_mil, sm_mli]) y7, sm_mF_fr (by intro k j h; simp (disch := omega) only [sm_mi0, sm_mil, sm_mli]) y8⟩, hT, rl_pr_fr (by intro k j h; simp (disch := omega) only [sm_mi0, sm_mil, sm_mli]) (by intro k j h; simp (disch := omega) only [sm_mi0, sm_mil, sm_mli]) hP, rl_tape_fr (by intro k j h; simp (disch := omega) only [sm_mi0, sm_mil, sm_mli]) (by intro k j h; simp (disch := omega) only [sm_mi0, sm_mil, sm_mli]) hK, rl_sight_fr (by intro k j h; simp (disch := omega) only [sm_mi0, sm_mil, sm_mli]) (by intro k j h; simp (disch := omega) only [sm_mi0, sm_mil, sm_mli]) hS, rl_hist_fr (by intro k j h; simp (disch := omega) only [sm_mi0, sm_mil, sm_mli]) (by intro k j h; simp (disch := omega) only [sm_mi0, sm_mil, sm_mli]) (Nat.le_refl n) hH, rl_body_fr (by intro k j h; simp (disch := omega) only [sm_mi0, sm_mil, sm_mli]) (by intro k j h; simp (disch := omega) only [sm_mi0, sm_mil, sm_mli]) hB, rl_tr_fr (by intro k j h; simp (disch := omega) only [sm_mi0, sm_mil, sm_mli]) (by intro k j h; simp (disch := omega) only [sm_mi0, sm_mil, sm_mli]) hR, rl_sh_fr (Nat.le_refl nb) (by intro k j h; simp (disch := omega) only [sm_mi0, sm_mil, sm_mli]) (by intro k j h; simp (disch := omega) only [sm_mi0, sm_mil, sm_mli]) (by intros; rfl) (by intros; rfl) hD⟩
      · intro s hs
        simp only at hs ⊢
        by_cases e : s = r
        · subst e
          simp only [sm_up1]
          refine ⟨by simp (disch := omega) only [sm_mi1, sm_mi0, sm_ml1, sm_ml0, sm_mil, sm_mli], by omega, by omega, fun i hi => ?_⟩
          by_cases ei : i = c s
          · subst ei
            simp only [sm_up1]
            simp (disch := omega) only [sm_mi1, sm_mi0, sm_ml1, sm_ml0, sm_mil, sm_mli]; exact ⟨trivial, hq⟩
          · simp only [sm_up0 ei]
            simp (disch := omega) only [sm_mi1, sm_mi0, sm_ml1, sm_ml0, sm_mil, sm_mli]; exact u4 i (by omega)
        · simp only [sm_up0 e]
          obtain ⟨u1, u2, u3, u4⟩ := x6 s (by omega)
          refine ⟨by simp (disch := omega) only [sm_mi1, sm_mi0, sm_ml1, sm_ml0, sm_mil, sm_mli]; exact u1, u2, u3, fun i hi => ?_⟩
          simp (disch := omega) only [sm_mi1, sm_mi0, sm_ml1, sm_ml0, sm_mil, sm_mli]
          exact u4 i hi
      · intro s hs
        simp only at hs ⊢
        by_cases e : s = r
        · subst e
          simp only [sm_up1]
          refine ⟨by simp (disch := omega) only [sm_mi1, sm_mi0, sm_ml1, sm_ml0, sm_mil, sm_mli], by omega, by omega, fun i hi => ?_⟩
          by_cases ei : i = c s
          · subst ei
            simp only [sm_up1]
            simp (disch := omega) only [sm_mi1, sm_mi0, sm_ml1, sm_ml0, sm_mil, sm_mli]; exact ⟨trivial, hq⟩
          · simp only [sm_up0 ei]
            simp (disch := omega) only [sm_mi1, sm_mi0, sm_ml1, sm_ml0, sm_mil, sm_mli]; exact v4 i (by omega)
        · simp only [sm_up0 e]
          obtain ⟨u1, u2, u3, u4⟩ := y6 s (by omega)
          refine ⟨by simp (disch := omega) only [sm_mi1, sm_mi0, sm_ml1, sm_ml0, sm_mil, sm_mli]; exact u1, u2, u3, fun i hi => ?_⟩
          simp (disch := omega) only [sm_mi1, sm_mi0, sm_ml1, sm_ml0, sm_mil, sm_mli]
          exact u4 i hi
