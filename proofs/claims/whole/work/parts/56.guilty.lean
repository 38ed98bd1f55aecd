/-! SIM: guilty; the calls line, guilty -/
section MG
variable {n : Nat} {T : Nat → sm_tw} {R : sm_rd} {S : sm_fs} {F : sm_lf} {m0 m : gk_M}
theorem sm_pml (h : sm_p n T R S F m0 m) {j : Nat} (hj : j = 25 ∨ j = 26) (v : Int64) : sm_p n T R S F m0 (gk_ml m 0 j v) := by
  obtain ⟨h1, h2, h3⟩ := h
  refine ⟨h1, h2, ?_⟩
  intro k i hk
  rw [sm_ml0 (by omega)]
  exact h3 k i hk
theorem m_isGuilty (hp : sm_p n T R S F m0 m) {k t u a b : Nat} (hk : k < 5) (ht : t < 20) (hu : u < 20) (ha : a < 900) (hb : b < 900) : sm_ok (f_M_isGuilty (sm_n a) (sm_n b) (sm_n t) (sm_n u) (sm_n k) m) (sm_b2 (sm_gl S F (T t) (T u) k a b)) (fun m' => sm_p n T R S F m0 m' ∧ (sm_gl S F (T t) (T u) k a b = true → m'.2 0 25 = sm_l (sm_ga S F (T t) (T u) k a b) ∧ m'.2 0 26 = sm_l (sm_gb (T t) (T u) a b))) := by
  have X := hp.1.2.2.1 t ht
  have Y := hp.1.2.2.1 u hu
  have b1 := sm_sdb X.1 Y.1 ha
  have b2 := sm_sdb X.1 Y.1 hb
  have k5 := sm_cxb a
  have k6 := sm_cyb ha
  have k7 := sm_cxb b
  have k8 := sm_cyb hb
  have X1 := X.1
  have Y1 := Y.1
  unfold f_M_isGuilty
  rw [sm_ai ht (by omega), sm_let, sm_ai ht (by omega), sm_let, sm_ai hu (by omega), sm_let, sm_ai hu (by omega), sm_let, X.2.1, Y.2.1, show (30 : Int32) = sm_n 30 from rfl, sm_n_rem (by omega) (by omega), sm_n_div (by omega) (by omega), sm_n_rem (by omega) (by omega), sm_n_div (by omega) (by omega), sm_n_rem (by omega) (by omega), sm_n_div (by omega) (by omega), sm_n_rem (by omega) (by omega), sm_n_div (by omega) (by omega), sm_lx, sm_ly X.1, sm_lx, sm_ly Y.1, sm_lx, sm_ly ha, sm_lx, sm_ly hb, m_side, sm_bl, m_side, sm_bl]
  rw [show g_side (sm_cx (T t).1) (sm_cy (T t).1) (sm_cx (T u).1) (sm_cy (T u).1) (sm_cx a) (sm_cy a) = sm_sd (T t) (T u) a from rfl, show g_side (sm_cx (T t).1) (sm_cy (T t).1) (sm_cx (T u).1) (sm_cy (T u).1) (sm_cx b) (sm_cy b) = sm_sd (T t) (T u) b from rfl]
  obtain ⟨a1, a2, a3, a4, a5⟩ := sm_l0 (a := sm_sd (T t) (T u) a) (by omega) (by omega)
  obtain ⟨c1, c2, c3, c4, c5⟩ := sm_l0 (a := sm_sd (T t) (T u) b) (by omega) (by omega)
  by_cases h0 : sm_sd (T t) (T u) a = 0 ∧ sm_sd (T t) (T u) b = 0
  · have hga : sm_ga S F (T t) (T u) k a b = if sm_at_ S F (T t) (T u) k a = true then 0 else 1 := by unfold sm_ga; rw [if_pos h0]
    have hgb : sm_gb (T t) (T u) a b = 1 := by unfold sm_gb; rw [if_pos h0]
    have hgl : sm_gl S F (T t) (T u) k a b = (sm_at_ S F (T t) (T u) k a || sm_at_ S F (T t) (T u) k b) := by unfold sm_gl; rw [if_pos h0]
    rw [if_neg (show ¬ ¬ sm_l (sm_sd (T t) (T u) a) = 0 from fun z => z (a5.mpr h0.1)), if_neg (show ¬ ¬ sm_l (sm_sd (T t) (T u) b) = 0 from fun z => z (c5.mpr h0.2)), hga, hgb, hgl]
    unfold f_M_isAlong
    rw [sm_let, sm_let]
    have P2 := sm_pml (sm_pml hp (j := 25) (Or.inl rfl) 0) (j := 26) (Or.inr rfl) 1
    obtain ⟨m1, e1, P3, l3⟩ := m_inLineAt P2 hk ht hu ha
    rw [e1, sm_bi]
    have l25 : m1.2 0 25 = 0 := by rw [l3, sm_ml0 (by omega), sm_ml1]
    have l26 : m1.2 0 26 = 1 := by rw [l3, sm_ml1]
    cases sm_at_ S F (T t) (T u) k a with
    | true =>
      rw [if_neg (show ¬ sm_b2 true = 0 by decide), sm_bi, Bool.true_or, if_pos rfl]
      exact sm_okr ⟨P3, fun _ => ⟨l25, l26⟩⟩
    | false =>
      rw [if_pos (show sm_b2 false = 0 from rfl), sm_let, Bool.false_or, if_neg Bool.false_ne_true]
      have P4 := sm_pml P3 (j := 25) (Or.inl rfl) 1
      obtain ⟨m2, e2, P5, l5⟩ := m_inLineAt P4 hk ht hu hb
      rw [e2, sm_bi, sm_zzb, sm_bi, sm_zzb]
      exact sm_okr ⟨P5, fun _ => ⟨by rw [l5, sm_ml1]; rfl, by rw [l5, sm_ml0 (by omega), l26]; rfl⟩⟩
  · have hga : sm_ga S F (T t) (T u) k a b = g_abs (sm_sd (T t) (T u) a) := by unfold sm_ga; rw [if_neg h0]
    have hgb : sm_gb (T t) (T u) a b = sm_pq (T t) (T u) a b := by unfold sm_gb; rw [if_neg h0]
    have hgl : sm_gl S F (T t) (T u) k a b = if g_two (sm_sd (T t) (T u) a) (sm_sd (T t) (T u) b) = true then false else sm_inl S F (T t) (T u) k (sm_px (T t) (T u) a b) (sm_py (T t) (T u) a b) (sm_pq (T t) (T u) a b) := by unfold sm_gl; rw [if_neg h0]
    rw [hga, hgb, hgl]
    obtain ⟨rg, q4⟩ := sm_prg X.1 Y.1 ha hb h0
    have e152 : f_M_isGuilty_152 (sm_n a) (sm_n b) (sm_n t) (sm_n u) (sm_n k) (sm_l (sm_sd (T t) (T u) a)) (sm_l (sm_sd (T t) (T u) b)) m = gk_bi (f_M_inLine (sm_l (sm_px (T t) (T u) a b)) (sm_l (sm_py (T t) (T u) a b)) (sm_l (sm_pq (T t) (T u) a b)) (sm_n t) (sm_n u) (sm_n k) (gk_ml (gk_ml m 0 25 (sm_l (g_abs (sm_sd (T t) (T u) a)))) 0 26 (sm_l (sm_pq (T t) (T u) a b)))) fun v5 m4 => gk_zz v5 (some (v5, m4)) := by
      unfold f_M_isGuilty_152 f_M_isGuilty_167 f_M_isGuilty_186
      simp only [sm_l_neg]
      have w1 : (if 0 ≤ sm_sd (T t) (T u) a then sm_sd (T t) (T u) a else - sm_sd (T t) (T u) a) = g_abs (sm_sd (T t) (T u) a) := by unfold g_abs; split <;> omega
      have w2 : (if 0 ≤ sm_sd (T t) (T u) b then sm_sd (T t) (T u) b else - sm_sd (T t) (T u) b) = g_abs (sm_sd (T t) (T u) b) := by unfold g_abs; split <;> omega
      have t1 : (gk_rem (sm_n b) 30 - gk_rem (sm_n a) 30).toInt64 = sm_l (sm_cx b - sm_cx a) := by
        rw [show (30 : Int32) = sm_n 30 from rfl, sm_n_rem (by omega) (by omega), sm_n_rem (by omega) (by omega), sm_cxn, sm_cxn, sm_i_sub, sm_wide (by omega) (by omega)]
      have t2 : (sm_n b / 30 - sm_n a / 30).toInt64 = sm_l (sm_cy b - sm_cy a) := by
        rw [show (30 : Int32) = sm_n 30 from rfl, sm_n_div (by omega) (by omega), sm_n_div (by omega) (by omega), sm_cyn, sm_cyn, sm_i_sub, sm_wide (by omega) (by omega)]
      have t3 : (gk_rem (sm_n a) 30).toInt64 = sm_l (sm_cx a) := by
        rw [show (30 : Int32) = sm_n 30 from rfl, sm_n_rem (by omega) (by omega), sm_lx]
      have t4 : (sm_n a / 30).toInt64 = sm_l (sm_cy a) := by
        rw [show (30 : Int32) = sm_n 30 from rfl, sm_n_div (by omega) (by omega), sm_ly ha]
      rw [t1, t2, t3, t4]
      have fin : ∀ s0 s1 : Int, s0 = g_abs (sm_sd (T t) (T u) a) → s1 = g_abs (sm_sd (T t) (T u) b) → (gk_let (sm_l s0 + sm_l s1) fun v1 => gk_let (gk_ml m 0 25 (sm_l s0)) fun m2 => gk_let (gk_ml m2 0 26 v1) fun m3 => gk_bi (f_M_inLine (sm_l (sm_cx a) * v1 + sm_l s0 * sm_l (sm_cx b - sm_cx a)) (sm_l (sm_cy a) * v1 + sm_l s0 * sm_l (sm_cy b - sm_cy a)) v1 (sm_n t) (sm_n u) (sm_n k) m3) fun v5 m4 => gk_zz v5 (some (v5, m4))) = gk_bi (f_M_inLine (sm_l (sm_px (T t) (T u) a b)) (sm_l (sm_py (T t) (T u) a b)) (sm_l (sm_pq (T t) (T u) a b)) (sm_n t) (sm_n u) (sm_n k) (gk_ml (gk_ml m 0 25 (sm_l (g_abs (sm_sd (T t) (T u) a)))) 0 26 (sm_l (sm_pq (T t) (T u) a b)))) fun v5 m4 => gk_zz v5 (some (v5, m4)) := by
        intro s0 s1 h1 h2
        rw [h1, h2]
        simp only [sm_let, sm_l_add, sm_l_mul]
        unfold sm_px sm_py
        rw [Int.mul_comm (sm_cx b - sm_cx a), Int.mul_comm (sm_cy b - sm_cy a)]
        rfl
      by_cases g1 : 0 ≤ sm_sd (T t) (T u) a
      · rw [if_pos g1] at w1
        rw [if_pos (a4.mpr g1)]
        by_cases g2 : 0 ≤ sm_sd (T t) (T u) b
        · rw [if_pos g2] at w2
          rw [if_pos (c4.mpr g2)]
          exact fin _ _ w1 w2
        · rw [if_neg g2] at w2
          rw [if_neg (fun z => g2 (c4.mp z))]
          exact fin _ _ w1 w2
      · rw [if_neg g1] at w1
        rw [if_neg (fun z => g1 (a4.mp z))]
        by_cases g2 : 0 ≤ sm_sd (T t) (T u) b
        · rw [if_pos g2] at w2
          rw [if_pos (c4.mpr g2)]
          exact fin _ _ w1 w2
        · rw [if_neg g2] at w2
          rw [if_neg (fun z => g2 (c4.mp z))]
          exact fin _ _ w1 w2
    have e122 : f_M_isGuilty_122 (sm_n a) (sm_n b) (sm_n t) (sm_n u) (sm_n k) (sm_l (sm_sd (T t) (T u) a)) (sm_l (sm_sd (T t) (T u) b)) m = if g_two (sm_sd (T t) (T u) a) (sm_sd (T t) (T u) b) = true then some (0, m) else f_M_isGuilty_152 (sm_n a) (sm_n b) (sm_n t) (sm_n u) (sm_n k) (sm_l (sm_sd (T t) (T u) a)) (sm_l (sm_sd (T t) (T u) b)) m := by
      unfold f_M_isGuilty_122 f_M_isGuilty_136 g_two
      by_cases g1 : sm_sd (T t) (T u) a ≤ 0
      · rw [if_pos (a3.mpr g1)]
        by_cases g2 : 0 ≤ sm_sd (T t) (T u) a
        · rw [if_pos (a4.mpr g2), if_neg (by rw [decide_eq_true_iff]; omega)]
        · rw [if_neg (fun z => g2 (a4.mp z))]
          by_cases g3 : 0 ≤ sm_sd (T t) (T u) b
          · rw [if_pos (c4.mpr g3), if_neg (by rw [decide_eq_true_iff]; omega)]
          · rw [if_neg (fun z => g3 (c4.mp z)), if_pos (by rw [decide_eq_true_iff]; omega)]
      · rw [if_neg (fun z => g1 (a3.mp z))]
        by_cases g2 : 0 < sm_sd (T t) (T u) b
        · rw [if_pos (c2.mpr g2), if_pos (by rw [decide_eq_true_iff]; omega)]
        · rw [if_neg (fun z => g2 (c2.mp z)), if_pos (a4.mpr (by omega)), if_neg (by rw [decide_eq_true_iff]; omega)]
    have fin : sm_ok (f_M_isGuilty_122 (sm_n a) (sm_n b) (sm_n t) (sm_n u) (sm_n k) (sm_l (sm_sd (T t) (T u) a)) (sm_l (sm_sd (T t) (T u) b)) m) (sm_b2 (if g_two (sm_sd (T t) (T u) a) (sm_sd (T t) (T u) b) = true then false else sm_inl S F (T t) (T u) k (sm_px (T t) (T u) a b) (sm_py (T t) (T u) a b) (sm_pq (T t) (T u) a b))) (fun m' => sm_p n T R S F m0 m' ∧ ((if g_two (sm_sd (T t) (T u) a) (sm_sd (T t) (T u) b) = true then false else sm_inl S F (T t) (T u) k (sm_px (T t) (T u) a b) (sm_py (T t) (T u) a b) (sm_pq (T t) (T u) a b)) = true → m'.2 0 25 = sm_l (g_abs (sm_sd (T t) (T u) a)) ∧ m'.2 0 26 = sm_l (sm_pq (T t) (T u) a b))) := by
      rw [e122]
      by_cases htw : g_two (sm_sd (T t) (T u) a) (sm_sd (T t) (T u) b) = true
      · rw [if_pos htw, if_pos htw]
        exact sm_okr ⟨hp, fun z => absurd z Bool.false_ne_true⟩
      · rw [if_neg htw, if_neg htw, e152]
        have P2 := sm_pml (sm_pml hp (j := 25) (Or.inl rfl) (sm_l (g_abs (sm_sd (T t) (T u) a)))) (j := 26) (Or.inr rfl) (sm_l (sm_pq (T t) (T u) a b))
        refine sm_okb (m_inLine P2 hk ht hu rg) (fun m1 h1 => ?_)
        rw [sm_zzb]
        exact sm_okr ⟨h1.1, fun _ => ⟨by rw [h1.2, sm_ml0 (by omega), sm_ml1], by rw [h1.2, sm_ml1]⟩⟩
    by_cases ha0 : sm_sd (T t) (T u) a = 0
    · rw [if_neg (show ¬ ¬ sm_l (sm_sd (T t) (T u) a) = 0 from fun z => z (a5.mpr ha0)), if_pos (show ¬ sm_l (sm_sd (T t) (T u) b) = 0 from fun z => h0 ⟨ha0, c5.mp z⟩)]
      exact fin
    · rw [if_pos (show ¬ sm_l (sm_sd (T t) (T u) a) = 0 from fun z => ha0 (a5.mp z))]
      exact fin
end MG
/-- behind a question both are as they were -/
theorem rl_q {mx mm mx' mm' : gk_M} {n nb : Nat} {TX TM : Nat → sm_tw} {R : sm_rd} {S : sm_fs} {F : sm_lf} (hx : sm_q n TX R S F mx mx') (hm : sm_p n TM R S F mm mm') (hT : rl_T n TX TM) (hP : rl_pr n mx mm) (hK : rl_tape mx mm) (hS : rl_sight mx mm) (hH : rl_hist n mx mm) (hB : rl_body nb mx mm) (hR : rl_tr mx mm) (hD : rl_sh nb mx mm) : rl_ mx' mm' := by
  obtain ⟨h1, h2, h3⟩ := hx
  obtain ⟨g1, g2, g3⟩ := hm
  refine ⟨n, TX, TM, R, S, F, nb, h1, g1, hT, rl_pr_fr ?_ ?_ hP, rl_tape_fr ?_ ?_ hK, rl_sight_fr ?_ ?_ hS, rl_hist_fr ?_ ?_ (Nat.le_refl n) hH, rl_body_fr ?_ ?_ hB, rl_tr_fr ?_ ?_ hR, rl_sh_fr (Nat.le_refl nb) ?_ ?_ (by intros; rw [h3]) (by intro j; exact g3 25 j (by omega)) hD⟩
  all_goals first
    | (intro k j h; exact h2 k j (by omega) (by omega) (by omega))
    | (intro k j h; exact g2 k j (by omega) (by omega))
theorem x_isPair {m : gk_M} {n : Nat} (hn : n ≤ 10) (h5 : m.1 7 5 = sm_n n) (a : Int32) : (f_X_isPair a m = some (0, m) ∧ ∀ s t, s < n → t < n → s ≠ t → a ≠ sm_n (10 * s + t)) ∨ ∃ s t, s < n ∧ t < n ∧ s ≠ t ∧ a = sm_n (10 * s + t) ∧ f_X_isPair a m = some (1, m) ∧ a / 10 = sm_n s ∧ gk_rem a 10 = sm_n t := by
  unfold f_X_isPair
  by_cases h0 : a < 0
  · rw [if_pos h0]
    refine Or.inl ⟨rfl, ?_⟩
    rintro s t hs ht _ rfl
    exact sm_nn (by omega) h0
  obtain ⟨c, hc, rfl⟩ := sm_get h0
  rw [if_neg h0, show (10 : Int32) = sm_n 10 from rfl, sm_n_div hc (by omega), sm_n_rem hc (by omega)]
  by_cases h1 : c / 10 = c % 10
  · rw [if_pos (by rw [h1])]
    refine Or.inl ⟨rfl, ?_⟩
    intro s t hs ht hne e
    rw [sm_neq hc (by omega)] at e
    omega
  · rw [if_neg (by rw [sm_neq (by omega) (by omega)]; exact h1), x_isTower _ h5, sm_bi]
    rcases sm_u_cases (sm_n (c / 10)) n (by omega) with ⟨e0, e1⟩ | ⟨s, hs, es, e1⟩
    · rw [if_pos e0]
      refine Or.inl ⟨rfl, ?_⟩
      intro s t hs ht hne e
      rw [sm_neq hc (by omega)] at e
      refine e1 s hs ?_
      congr 1; omega
    · rw [if_neg (show ¬ sm_u (sm_n (c / 10)) n = 0 by rw [e1]; decide), x_isTower _ h5, sm_bi]
      rw [sm_neq (by omega) (by omega)] at es
      rcases sm_u_cases (sm_n (c % 10)) n (by omega) with ⟨e0, e2⟩ | ⟨t, ht, et, e2⟩
      · rw [if_pos e0]
        refine Or.inl ⟨rfl, ?_⟩
        intro s t hs ht hne e
        rw [sm_neq hc (by omega)] at e
        refine e2 t ht ?_
        congr 1; omega
      · rw [if_neg (show ¬ sm_u (sm_n (c % 10)) n = 0 by rw [e2]; decide)]
        rw [sm_neq (by omega) (by omega)] at et
        exact Or.inr ⟨s, t, hs, ht, by omega, by congr 1; omega, rfl, by rw [es], by rw [et]⟩
theorem m_areTwo {m : gk_M} {n : Nat} (hn : n ≤ 10) (h6 : m.1 0 6 = sm_n n) (a : Int32) : (f_M_areTwo a m = some (0, m) ∧ ∀ s t, s < n → t < n → s ≠ t → a ≠ sm_n (10 * s + t)) ∨ ∃ s t, s < n ∧ t < n ∧ s ≠ t ∧ a = sm_n (10 * s + t) ∧ f_M_areTwo a m = some (1, m) := by
  unfold f_M_areTwo
  by_cases h0 : a < 0
  · rw [if_pos h0]
    refine Or.inl ⟨rfl, ?_⟩
    rintro s t hs ht _ rfl
    exact sm_nn (by omega) h0
  obtain ⟨c, hc, rfl⟩ := sm_get h0
  rw [if_neg h0, show (10 : Int32) = sm_n 10 from rfl, sm_n_div hc (by omega), sm_n_rem hc (by omega), m_isTower _ (by omega) h6, sm_bi, m_isTower _ (by omega) h6, sm_bi]
  rcases sm_u_cases (sm_n (c / 10)) n (by omega) with ⟨e0, e1⟩ | ⟨s, hs, es, e1⟩
  · rw [if_pos e0]
    refine Or.inl ⟨rfl, ?_⟩
    intro s t hs ht hne e
    rw [sm_neq hc (by omega)] at e
    refine e1 s hs ?_
    congr 1; omega
  · rw [if_neg (show ¬ sm_u (sm_n (c / 10)) n = 0 by rw [e1]; decide)]
    rw [sm_neq (by omega) (by omega)] at es
    rcases sm_u_cases (sm_n (c % 10)) n (by omega) with ⟨e0, e2⟩ | ⟨t, ht, et, e2⟩
    · rw [if_pos e0]
      refine Or.inl ⟨rfl, ?_⟩
      intro s t hs ht hne e
      rw [sm_neq hc (by omega)] at e
      refine e2 t ht ?_
      congr 1; omega
    · rw [if_neg (show ¬ sm_u (sm_n (c % 10)) n = 0 by rw [e2]; decide)]
      rw [sm_neq (by omega) (by omega)] at et
      by_cases h1 : c / 10 = c % 10
      · rw [if_pos (by rw [h1])]
        refine Or.inl ⟨rfl, ?_⟩
        intro s t hs ht hne e
        rw [sm_neq hc (by omega)] at e
        omega
      · rw [if_neg (by rw [sm_neq (by omega) (by omega)]; exact h1)]
        exact Or.inr ⟨s, t, hs, ht, by omega, by congr 1; omega, rfl⟩
theorem sm_at_cg {S : sm_fs} {F : sm_lf} {A B A' B' : sm_tw} (h1 : A = A') (h2 : B = B') (k p : Nat) : sm_at_ S F A B k p = sm_at_ S F A' B' k p := by rw [h1, h2]
theorem rl_ne {n : Nat} {TX TM : Nat → sm_tw} (hT : rl_T n TX TM) {s t : Nat} (hs : s < n) (ht : t < n) (h : s ≠ t) : (TX s).1 ≠ (TX t).1 := by
  rcases Nat.lt_or_gt_of_ne h with z | z
  · exact hT.2 s t z ht
  · exact (hT.2 t s z hs).symm
theorem c_line {mx mm : gk_M} (h : rl_ mx mm) (a b c : Int32) : sm_al2 mx mm (f_X_line a b c mx) (f_M_line a b c mm) := by
  obtain ⟨n, TX, TM, R, S, F, nb, hX, hM, hT, hP, hK, hS, hH, hB, hR, hD⟩ := id h
  have hn := hX.2.1
  unfold f_X_line f_M_line
  rcases x_isPair hn hX.1 a with ⟨e, e'⟩ | ⟨s, t, hs, ht, hne, rfl, e, e1, e2⟩
  · rcases m_areTwo hn hM.1 a with ⟨g, g'⟩ | ⟨s, t, hs, ht, hne, ea, g⟩
    · rw [e, g, sm_bi, sm_bi, if_pos rfl, if_pos rfl]; exact sm_al_id h
    · exact absurd ea (e' s t hs ht hne)
  rcases m_areTwo hn hM.1 (sm_n (10 * s + t)) with ⟨g, g'⟩ | ⟨s', t', hs', ht', hne', ea, g⟩
  · exact absurd rfl (g' s t hs ht hne)
  rw [e, g, sm_bi, sm_bi, if_neg (show ¬ (1 : Int32) = 0 by decide), if_neg (show ¬ (1 : Int32) = 0 by decide), x_isPoint, sm_bi, m_isPoint, sm_bi]
  rcases sm_u_cases b 900 (by omega) with ⟨e0, e3⟩ | ⟨p, hp, rfl, e3⟩
  · rw [if_pos e0, if_pos e0]; exact sm_al_id h
  rw [if_neg (show ¬ sm_u (sm_n p) 900 = 0 by rw [e3]; decide), if_neg (show ¬ sm_u (sm_n p) 900 = 0 by rw [e3]; decide), sm_in c (c := 4) 4 (by omega) rfl, m_within (h := 5) (hi := 4) (by omega) rfl, sm_bi, e1, e2]
  rcases sm_u_cases c 5 (by omega) with ⟨e0, e4⟩ | ⟨k, hk, rfl, e4⟩
  · rw [if_pos e0, if_neg (fun z => z e0)]; exact sm_al_id h
  rw [if_neg (show ¬ sm_u (sm_n k) 5 = 0 by rw [e4]; decide), if_pos (show ¬ sm_u (sm_n k) 5 = 0 by rw [e4]; decide)]
  obtain ⟨mx', x1, x2⟩ := x_areInLine (sm_q0 hX) hk (show s < 12 by omega) (show t < 12 by omega) hp (rl_ne hT hs ht hne)
  obtain ⟨mm', y1, y2, y3⟩ := m_inLineAt (sm_p0 hM) hk (show s < 20 by omega) (show t < 20 by omega) hp
  rw [x1, y1, sm_bi, sm_bi, sm_at_cg (hT.1 s hs) (hT.1 t ht)]
  have H := rl_q x2 y2 hT hP hK hS hH hB hR hD
  cases sm_at_ S F (TM s) (TM t) k p with
  | true => exact ⟨_, _, _, rfl, rfl, H⟩
  | false => exact ⟨_, _, _, rfl, rfl, H⟩
