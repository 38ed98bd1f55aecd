/-! SIM: years -/
section YRS
variable {n : Nat} {T : Nat → sm_tw} {R : sm_rd} {S : sm_fs} {F : sm_lf} {m0 m : gk_M}
theorem x_ff {c w : Nat} {h last : Int32} (hc10 : c < 10) (k18 : Int32 → Int32 → Int32 → Int32 → Int32 → Int32 → gk_M → Option (Int32 × gk_M)) (f : Nat → Bool) (hf : ∀ p, f p = sm_free c T R S F c p) : ∀ l p fu m, p + l = 900 → l < fu → sm_qf c T R S F c m0 m → ∃ m', sm_qf c T R S F c m0 m' ∧ (∀ q, sm_f1 l p (sm_fi f) = some q → q < 900 ∧ sm_X c (sm_tp T c q) R S F m') ∧ f_Planner_settle_43 k18 fu h (sm_n w) (sm_n n) last (sm_n c) (sm_n p) m = match sm_f1 l p (sm_fi f) with
    | some q => k18 h (sm_n w) (sm_n n) (sm_n q) 1 (sm_n (c + 1)) (gk_mi m' 7 5 (sm_n (c + 1)))
    | none => k18 h (sm_n w) (sm_n n) last 0 (sm_n (c + 1)) m'
  | 0, p, fu + 1, m, h1, h3, hq => by
    refine ⟨m, hq, ?_, ?_⟩
    · intro q z; exact absurd z (fun y => by cases y)
    · unfold f_Planner_settle_43 f_Planner_settle_71 f_Planner_settle_84
      rw [if_pos (by simp (disch := omega) only [sm_lit, sm_nlt, sm_nle, sm_neq, sm_n_add, sm_n_mul, sm_n_div, sm_n_rem, sm_bi, sm_bl, sm_bv, sm_let, sm_zz0, sm_zz1, sm_ai, sm_si, sm_al, sm_sl, sm_ar, sm_mi1, sm_mi0, sm_ml1, sm_ml0, sm_mil, sm_mli]; omega), if_pos (by simp (disch := omega) only [sm_lit, sm_nlt, sm_nle, sm_neq, sm_n_add, sm_n_mul, sm_n_div, sm_n_rem, sm_bi, sm_bl, sm_bv, sm_let, sm_zz0, sm_zz1, sm_ai, sm_si, sm_al, sm_sl, sm_ar, sm_mi1, sm_mi0, sm_ml1, sm_ml0, sm_mil, sm_mli]; omega), if_pos rfl, show sm_n c + 1 = sm_n (c + 1) from sm_n_add c 1]
      rfl
  | l + 1, p, fu + 1, m, h1, h3, hq => by
    obtain ⟨m1, e1, q1, X1⟩ := x_isFreeFor (p := p) hq (by omega) (Nat.le_refl c) (by omega)
    unfold f_Planner_settle_43
    rw [if_neg (by simp (disch := omega) only [sm_lit, sm_nlt, sm_nle, sm_neq, sm_n_add, sm_n_mul, sm_n_div, sm_n_rem, sm_bi, sm_bl, sm_bv, sm_let, sm_zz0, sm_zz1, sm_ai, sm_si, sm_al, sm_sl, sm_ar, sm_mi1, sm_mi0, sm_ml1, sm_ml0, sm_mil, sm_mli]; omega), e1, sm_bi, ← hf p, show sm_n p + 1 = sm_n (p + 1) from sm_n_add p 1]
    rw [← hf p] at X1
    cases hc : f p with
    | false =>
      rw [if_neg (show ¬ ¬ sm_b2 false = 0 from fun z => z rfl), sm_f1n (sm_fi0 hc)]
      exact x_ff hc10 k18 f hf l (p + 1) fu m1 (by omega) (by omega) q1
    | true =>
      obtain ⟨_, _, X0, _⟩ := id q1
      have X2 := X1 hc
      rw [if_pos (show ¬ sm_b2 true = 0 by decide), sm_f1s (sm_fi1 hc)]
      refine ⟨m1, q1, ?_, ?_⟩
      · intro q z; cases z; exact ⟨by omega, X2⟩
      · unfold f_Planner_settle_71 f_Planner_settle_84
        rw [if_neg (by simp (disch := omega) only [sm_lit, sm_nlt, sm_nle, sm_neq, sm_n_add, sm_n_mul, sm_n_div, sm_n_rem, sm_bi, sm_bl, sm_bv, sm_let, sm_zz0, sm_zz1, sm_ai, sm_si, sm_al, sm_sl, sm_ar, sm_mi1, sm_mi0, sm_ml1, sm_ml0, sm_mil, sm_mli]; omega), if_neg (show ¬ (1 : Int32) = 0 by decide), sm_let, X2.1, show sm_n c + 1 = sm_n (c + 1) from sm_n_add c 1]
theorem m_ff {c : Nat} {h : Int32} (hc10 : c < 10) (hnc : n ≤ c) (f : Nat → Bool) (hf : ∀ p, f p = sm_mfree T R S F c h c p) : ∀ l p fu m, p + l = 900 → l < fu → sm_mf n T R S F c m0 m → sm_ok (f_M_firstFree_2 fu (sm_n c) h (sm_n p) m) (sm_on (-2) (sm_f1 l p (sm_fi f))) (fun m' => sm_mf n T R S F c m0 m' ∧ ∀ q, sm_f1 l p (sm_fi f) = some q → sm_M n (sm_up T c (q, h, 0, c)) R S F m')
  | 0, p, fu + 1, m, h1, h3, hq => by
    unfold f_M_firstFree_2
    rw [if_pos (by simp (disch := omega) only [sm_lit, sm_nlt, sm_nle, sm_neq, sm_n_add, sm_n_mul, sm_n_div, sm_n_rem, sm_bi, sm_bl, sm_bv, sm_let, sm_zz0, sm_zz1, sm_ai, sm_si, sm_al, sm_sl, sm_ar, sm_mi1, sm_mi0, sm_ml1, sm_ml0, sm_mil, sm_mli]; omega)]
    exact sm_okr ⟨hq, fun q z => absurd z (fun y => by cases y)⟩
  | l + 1, p, fu + 1, m, h1, h3, hq => by
    obtain ⟨m1, e1, q1, X1⟩ := m_isFree (h := h) (w := c) (p := p) hq (by omega) hnc (by omega) (by omega)
    unfold f_M_firstFree_2
    rw [if_neg (by simp (disch := omega) only [sm_lit, sm_nlt, sm_nle, sm_neq, sm_n_add, sm_n_mul, sm_n_div, sm_n_rem, sm_bi, sm_bl, sm_bv, sm_let, sm_zz0, sm_zz1, sm_ai, sm_si, sm_al, sm_sl, sm_ar, sm_mi1, sm_mi0, sm_ml1, sm_ml0, sm_mil, sm_mli]; omega), e1, sm_bi, ← hf p, show sm_n p + 1 = sm_n (p + 1) from sm_n_add p 1]
    rw [← hf p] at X1
    cases hc : f p with
    | false =>
      rw [if_pos (show sm_b2 false = 0 from rfl), sm_f1n (sm_fi0 hc)]
      exact m_ff hc10 hnc f hf l (p + 1) fu m1 (by omega) (by omega) q1
    | true =>
      rw [if_neg (show ¬ sm_b2 true = 0 by decide), sm_f1s (sm_fi1 hc)]
      exact sm_okr ⟨q1, fun q z => by cases z; exact X1 hc⟩
theorem sm_X_n {c : Nat} (hX : sm_X c T R S F m) (hn : n ≤ 10) : sm_X n T R S F (gk_mi m 7 5 (sm_n n)) := by
  obtain ⟨x1, x2, x3, x4, x5, x6, x7⟩ := hX
  refine ⟨by simp (disch := omega) only [sm_mi1, sm_mi0, sm_ml1, sm_ml0, sm_mil, sm_mli], hn, ?_, sm_xR_fr (by intro k j h; simp (disch := omega) only [sm_mi0, sm_mil, sm_mli]) x4, sm_xS_fr (by intro k j h; simp (disch := omega) only [sm_mi0, sm_mil, sm_mli]) x5, sm_xF_fr (by intro k j h; simp (disch := omega) only [sm_mi0, sm_mil, sm_mli]) x6, ?_⟩
  · intro t ht
    obtain ⟨a, b, c, d, e, f⟩ := x3 t ht
    exact ⟨a, by simp (disch := omega) only [sm_mi1, sm_mi0, sm_ml1, sm_ml0, sm_mil, sm_mli]; exact b, by simp (disch := omega) only [sm_mi1, sm_mi0, sm_ml1, sm_ml0, sm_mil, sm_mli]; exact c, by simp (disch := omega) only [sm_mi1, sm_mi0, sm_ml1, sm_ml0, sm_mil, sm_mli]; exact d, by simp (disch := omega) only [sm_mi1, sm_mi0, sm_ml1, sm_ml0, sm_mil, sm_mli]; exact e, f⟩
  · intro k s u hk hs hu
    rw [sm_mi0 (by omega)]
    exact x7 k s u hk hs hu
end YRS
def yr_f (n : Nat) (mx mm mx1 mm1 : gk_M) : Prop := (∀ k j, k ≠ 3 → k ≠ 19 → k ≠ 20 → k ≠ 8 → k ≠ 9 → k ≠ 10 → k ≠ 12 → ¬ (k = 11 ∧ n ≤ j) → ¬ (k = 7 ∧ j = 5) → mx1.1 k j = mx.1 k j) ∧ mx1.2 = mx.2 ∧ (∀ k j, k ≠ 13 → ¬ (k = 0 ∧ 19 ≤ j ∧ j ≤ 23) → k ≠ 5 → k ≠ 6 → k ≠ 7 → mm1.1 k j = mm.1 k j) ∧ ∀ k j, ¬ (k = 0 ∧ (j = 25 ∨ j = 26)) → mm1.2 k j = mm.2 k j
def yr_ (n c : Nat) (TX TM : Nat → sm_tw) (R : sm_rd) (S : sm_fs) (F : sm_lf) (mx mm mx1 mm1 : gk_M) : Prop := ∃ T U, sm_X c T R S F mx1 ∧ sm_M n U R S F mm1 ∧ n ≤ c ∧ (∀ t, t < c → T t = U t) ∧ (∀ t, t < n → T t = TX t) ∧ (∀ t, t < n → U t = TM t) ∧ yr_f n mx mm mx1 mm1
section YRS
variable {n : Nat} {TX TM : Nat → sm_tw} {R : sm_rd} {S : sm_fs} {F : sm_lf} {mx mm : gk_M}
theorem yr_end {c w : Nat} {last : Int32} (hw : w < 2) {mx1 mm1 : gk_M} (H : yr_ n c TX TM R S F mx mm mx1 mm1) : ∃ v mx2 mm2, f_Planner_settle_114 (sm_n w) (sm_n n) last mx1 = some (v, mx2) ∧ f_M_years_90 (sm_n w) (sm_n c) last mm1 = some (v, mm2) ∧ yr_ n n TX TM R S F mx mm mx2 mm2 := by
  obtain ⟨T, U, X, M, hnc, a1, a2, a3, f1, f2, f3, f4⟩ := H
  have hY : yr_ n n TX TM R S F mx mm (gk_mi mx1 7 5 (sm_n n)) mm1 := by
    refine ⟨T, U, sm_X_n X M.2.1, M, Nat.le_refl n, fun t ht => a1 t (by omega), a2, a3, ?_, f2, f3, f4⟩
    intro k j k3 k19 k20 k8 k9 k10 k12 k11 k7
    rw [sm_mi0 k7]
    exact f1 k j k3 k19 k20 k8 k9 k10 k12 k11 k7
  unfold f_Planner_settle_114 f_M_years_90
  rw [X.1, M.1, sm_let, sm_let]
  by_cases hw0 : w = 0
  · rw [if_pos (show sm_n w = 0 by rw [hw0]; rfl), if_neg (show ¬ ¬ sm_n w = 0 from fun z => z (by rw [hw0]; rfl))]
    exact ⟨_, _, _, rfl, rfl, hY⟩
  · rw [if_neg (sm_w0 hw hw0), if_pos (sm_w0 hw hw0)]
    exact ⟨_, _, _, rfl, rfl, hY⟩
theorem yr_all {w : Nat} {h : Int32} (hw : w < 2) : ∀ l c fu fv last mx1 mm1, c + l = 10 → l + 1 < fu → l + 1 < fv → yr_ n c TX TM R S F mx mm mx1 mm1 → ∃ v mx2 mm2, f_Planner_settle_18 fu h (sm_n w) (sm_n n) last 1 (sm_n c) mx1 = some (v, mx2) ∧ f_M_years_36 fv h (sm_n w) (sm_n c) last 1 mm1 = some (v, mm2) ∧ yr_ n n TX TM R S F mx mm mx2 mm2
  | 0, c, fu + 1, fv + 1, last, mx1, mm1, h1, h3, h4, H => by
    unfold f_Planner_settle_18 f_M_years_36
    rw [if_pos (by simp (disch := omega) only [sm_lit, sm_nlt, sm_nle, sm_neq, sm_n_add, sm_n_mul, sm_n_div, sm_n_rem, sm_bi, sm_bl, sm_bv, sm_let, sm_zz0, sm_zz1, sm_ai, sm_si, sm_al, sm_sl, sm_ar, sm_mi1, sm_mi0, sm_ml1, sm_ml0, sm_mil, sm_mli]; omega), if_neg (show ¬ (1 : Int32) = 0 by decide), if_pos (by simp (disch := omega) only [sm_lit, sm_nlt, sm_nle, sm_neq, sm_n_add, sm_n_mul, sm_n_div, sm_n_rem, sm_bi, sm_bl, sm_bv, sm_let, sm_zz0, sm_zz1, sm_ai, sm_si, sm_al, sm_sl, sm_ar, sm_mi1, sm_mi0, sm_ml1, sm_ml0, sm_mil, sm_mli]; omega)]
    exact yr_end hw H
  | l + 1, c, fu + 2, fv + 2, last, mx1, mm1, h1, h3, h4, H => by
    obtain ⟨T, U, X, M, hnc, a1, a2, a3, f1, f2, f3, f4⟩ := id H
    have X0 := sm_X_th X (s := c) (by omega) h
    obtain ⟨f, hf⟩ : ∃ f : Nat → Bool, f = fun p => sm_free c (sm_thT T c h) R S F c p := ⟨_, rfl⟩
    have hfm : ∀ p, f p = sm_mfree U R S F c h c p := by
      intro p
      rw [hf]
      show sm_free c (sm_thT T c h) R S F c p = _
      unfold sm_free sm_mfree
      have e1 : sm_has c (sm_thT T c h) p = sm_has c U p := by
        unfold sm_has
        exact sm_any_cg (fun j _ hj => by unfold sm_thT; rw [sm_up0 (show ¬ j = c by omega), a1 j (by omega)])
      rw [e1, sm_ng_cg (k := c) (s := c) (T := sm_tp (sm_thT T c h) c p) (T' := sm_up U c (p, h, 0, c))]
      · intro t ht
        rw [sm_tp_lt (show t ≠ c by omega), sm_up0 (show ¬ t = c by omega)]
        unfold sm_thT
        rw [sm_up0 (show ¬ t = c by omega)]
        exact a1 t ht
      · rw [sm_tp_at, sm_up1]
        unfold sm_thT
        rw [sm_up1, Nat.min_eq_left (by omega)]
    obtain ⟨m1, q1, X1, e1⟩ := x_ff (n := n) (w := w) (h := h) (last := last) (show c < 10 by omega) (f_Planner_settle_18 (fu + 1)) f (fun p => by rw [hf]) 900 0 gk_fv (sm_xth mx1 c h) (by omega) (by rw [gk_fv_eq]; omega) (sm_qf0 X0 (by omega))
    obtain ⟨m2, g2, q2, M2⟩ := m_ff (h := h) (show c < 10 by omega) hnc f hfm 900 0 gk_fv mm1 (by omega) (by rw [gk_fv_eq]; omega) (sm_mf0 c M)
    obtain ⟨p1, hp1, X4, x1, x2⟩ := q1
    obtain ⟨V2, M4, y1, y2⟩ := q2
    have fx : ∀ k j, k ≠ 3 → k ≠ 19 → k ≠ 20 → k ≠ 8 → k ≠ 9 → k ≠ 10 → k ≠ 12 → ¬ (k = 11 ∧ n ≤ j) → ¬ (k = 7 ∧ j = 5) → m1.1 k j = mx.1 k j := by
      intro k j k3 k19 k20 k8 k9 k10 k12 k11 k7
      rw [x1 k j k3 k19 k20 (fun z => k8 z.1) (fun z => k9 z.1)]
      unfold sm_xth
      rw [sm_fill0 (fun z => k20 z.1), sm_mi0 (fun z => k12 z.1), sm_mi0 (fun z => k11 ⟨z.1, by omega⟩), sm_mi0 (fun z => k10 z.1)]
      exact f1 k j k3 k19 k20 k8 k9 k10 k12 k11 k7
    have lx : m1.2 = mx.2 := by rw [x2]; exact f2
    have fm : ∀ k j, k ≠ 13 → ¬ (k = 0 ∧ 19 ≤ j ∧ j ≤ 23) → k ≠ 5 → k ≠ 6 → k ≠ 7 → m2.1 k j = mm.1 k j := by
      intro k j k13 k0 k5 k6 k7
      rw [y1 k j k13 k0 (fun z => k5 z.1) (fun z => k6 z.1) (fun z => k7 z.1)]
      exact f3 k j k13 k0 k5 k6 k7
    have lm : ∀ k j, ¬ (k = 0 ∧ (j = 25 ∨ j = 26)) → m2.2 k j = mm.2 k j := fun k j hk => (y2 k j hk).trans (f4 k j hk)
    rw [show sm_n 0 = (0 : Int32) from rfl] at e1 g2
    unfold f_Planner_settle_18
    rw [if_neg (by simp (disch := omega) only [sm_lit, sm_nlt, sm_nle, sm_neq, sm_n_add, sm_n_mul, sm_n_div, sm_n_rem, sm_bi, sm_bl, sm_bv, sm_let, sm_zz0, sm_zz1, sm_ai, sm_si, sm_al, sm_sl, sm_ar, sm_mi1, sm_mi0, sm_ml1, sm_ml0, sm_mil, sm_mli]; omega), if_neg (show ¬ (1 : Int32) = 0 by decide), x_think (by omega), sm_bv, show f_Planner_settle_43 (f_Planner_settle_18 (fu + 1)) gk_fv h (sm_n w) (sm_n n) last (sm_n c) 0 (sm_fill (gk_mi (gk_mi (gk_mi mx1 10 c h) 11 c 0) 12 c 0) 20 0 0 720) = _ from e1]
    unfold f_M_years_36
    rw [if_neg (show ¬ (1 : Int32) = 0 by decide), if_neg (by simp (disch := omega) only [sm_lit, sm_nlt, sm_nle, sm_neq, sm_n_add, sm_n_mul, sm_n_div, sm_n_rem, sm_bi, sm_bl, sm_bv, sm_let, sm_zz0, sm_zz1, sm_ai, sm_si, sm_al, sm_sl, sm_ar, sm_mi1, sm_mi0, sm_ml1, sm_ml0, sm_mil, sm_mli]; omega)]
    unfold f_M_firstFree
    rw [g2, sm_bi]
    cases ho : sm_f1 900 0 (sm_fi f) with
    | none =>
      rw [if_pos (show sm_on (-2) none < 0 by decide)]
      unfold f_M_years_65
      rw [if_pos rfl]
      have e9 : f_Planner_settle_18 (fu + 1) h (sm_n w) (sm_n n) last 0 (sm_n (c + 1)) m1 = f_Planner_settle_114 (sm_n w) (sm_n n) last m1 := by
        unfold f_Planner_settle_18
        rw [if_pos (show (0 : Int32) = 0 from rfl)]
        split <;> rfl
      have g9 : f_M_years_36 (fv + 1) h (sm_n w) (sm_n c) last 0 m2 = f_M_years_90 (sm_n w) (sm_n c) last m2 := by
        unfold f_M_years_36
        rw [if_pos (show (0 : Int32) = 0 from rfl)]
      show ∃ v mx2 mm2, f_Planner_settle_18 (fu + 1) h (sm_n w) (sm_n n) last 0 (sm_n (c + 1)) m1 = some (v, mx2) ∧ _
      rw [e9, g9]
      refine yr_end hw ⟨sm_tp (sm_thT T c h) c p1, sm_up U c V2, X4, M4, hnc, ?_, ?_, ?_, fx, lx, fm, lm⟩
      · intro t ht
        rw [sm_tp_lt (show t ≠ c by omega), sm_up0 (show ¬ t = c by omega)]
        unfold sm_thT
        rw [sm_up0 (show ¬ t = c by omega)]
        exact a1 t ht
      · intro t ht
        rw [sm_tp_lt (show t ≠ c by omega)]
        unfold sm_thT
        rw [sm_up0 (show ¬ t = c by omega)]
        exact a2 t ht
      · intro t ht
        rw [sm_up0 (show ¬ t = c by omega)]
        exact a3 t ht
    | some q =>
      obtain ⟨hq9, X5⟩ := X1 q ho
      have M5 := M2 q ho
      rw [show sm_on (-2) (some q) = sm_n q from rfl, if_neg (sm_nn (by omega))]
      unfold f_M_years_65
      rw [if_neg (show ¬ (1 : Int32) = 0 by decide), sm_si (by omega) (by omega), show sm_n c + 1 = sm_n (c + 1) from sm_n_add c 1]
      have M6 := sm_M_pl (t := c) M5 hq9
      have eU : sm_tp (sm_up U c (q, h, 0, c)) c q = sm_up U c (q, h, 0, c) := by
        have := sm_tp_id (sm_up U c (q, h, 0, c)) c
        rw [sm_up1] at this
        exact this
      rw [eU] at M6
      refine yr_all hw l (c + 1) (fu + 1) (fv + 1) (sm_n q) (gk_mi m1 7 5 (sm_n (c + 1))) (gk_mi m2 5 c (sm_n q)) (by omega) (by omega) (by omega) ⟨sm_tp (sm_thT T c h) c q, sm_up U c (q, h, 0, c), sm_X_n X5 (by omega), M6, by omega, ?_, ?_, ?_, ?_, lx, ?_, lm⟩
      · intro t ht
        by_cases e : t = c
        · subst e
          rw [sm_tp_at, sm_up1]
          unfold sm_thT
          rw [sm_up1, Nat.min_eq_left (by omega)]
        · rw [sm_tp_lt e, sm_up0 e]
          unfold sm_thT
          rw [sm_up0 e]
          exact a1 t (by omega)
      · intro t ht
        rw [sm_tp_lt (show t ≠ c by omega)]
        unfold sm_thT
        rw [sm_up0 (show ¬ t = c by omega)]
        exact a2 t ht
      · intro t ht
        rw [sm_up0 (show ¬ t = c by omega)]
        exact a3 t ht
      · intro k j k3 k19 k20 k8 k9 k10 k12 k11 k7
        rw [sm_mi0 k7]
        exact fx k j k3 k19 k20 k8 k9 k10 k12 k11 k7
      · intro k j k13 k0 k5 k6 k7
        rw [sm_mi0 (fun z => k5 z.1)]
        exact fm k j k13 k0 k5 k6 k7
end YRS
theorem c_years {mx mm : gk_M} (h : rl_ mx mm) (a b : Int32) : sm_al2 mx mm (f_X_years a b mx) (f_M_years a b mm) := by
  obtain ⟨n, TX, TM, R, S, F, nb, hX, hM, hT, hP, hK, hS, hH, hB, hR, hD⟩ := id h
  have hn := hX.2.1
  unfold f_X_years f_M_years
  rw [x_isHeight, sm_bi, m_within (h := 10) (hi := 9) (by omega) rfl, sm_bi]
  by_cases hb : sm_u a 10 = 0
  · rw [if_pos hb, if_pos hb]; exact sm_al_id h
  rw [if_neg hb, if_neg hb]
  rw [show (1 : Int32) = sm_n 1 from rfl, x_isChoice b (by omega), sm_bi]
  rw [m_within (h := 2) (hi := 1) (by omega) rfl, sm_bi]
  rcases sm_u_cases b 2 (by omega) with ⟨e0, e4⟩ | ⟨w, hw, rfl, e4⟩
  · rw [if_neg (fun z => z e0), if_neg (fun z => z e0)]; exact sm_al_id h
  rw [if_pos (show ¬ sm_u (sm_n w) (1 + 1) = 0 by rw [e4]; decide), if_pos (show ¬ sm_u (sm_n w) 2 = 0 by rw [e4]; decide), hM.1, sm_let]
  have ex : (if ¬ sm_n w = sm_n 1 then f_X_years_32 a 0 mx else f_X_years_32 a (sm_n 1) mx) = f_X_years_32 a (sm_n w) mx := by
    rcases (show w = 0 ∨ w = 1 by omega) with rfl | rfl
    · rw [if_pos (by decide)]; rfl
    · rw [if_neg (by decide)]
  rw [ex]
  unfold f_X_years_32 f_Planner_settle
  rw [hX.1, sm_let]
  obtain ⟨v, mx2, mm2, e1, g1, T, U, X, M, _, b1, b2, b3, f1, f2, f3, f4⟩ := yr_all (n := n) (TX := TX) (TM := TM) (R := R) (S := S) (F := F) (mx := mx) (mm := mm) (h := a) hw (10 - n) n gk_fv gk_fv (-2) mx mm (by omega) (by rw [gk_fv_eq]; omega) (by rw [gk_fv_eq]; omega) ⟨TX, TM, hX, hM, Nat.le_refl n, hT.1, fun _ _ => rfl, fun _ _ => rfl, fun _ _ _ _ _ _ _ _ _ _ _ => rfl, rfl, fun _ _ _ _ _ _ _ => rfl, fun _ _ _ => rfl⟩
  rw [e1, sm_bi, show f_M_years_36 gk_fv a (sm_n w) (sm_n n) (-2) (sm_n 1) mm = _ from g1]
  refine ⟨v, mx2, mm2, rfl, rfl, ?_⟩
  refine rl_q2 X ?_ ?_ ?_ ?_ f2 M ?_ ?_ ?_ ?_ ?_ (rl_T_cg hT b2 b3) hP hK hS hH hB hR hD
  · intro j; exact f1 4 j (by decide) (by decide) (by decide) (by decide) (by decide) (by decide) (by decide) (by omega) (by omega)
  · intro j; exact f1 6 j (by decide) (by decide) (by decide) (by decide) (by decide) (by decide) (by decide) (by omega) (by omega)
  · intro j hj; exact f1 11 j (by decide) (by decide) (by decide) (by decide) (by decide) (by decide) (by decide) (by omega) (by omega)
  · intro k j hk _; exact f1 k j (by omega) (by omega) (by omega) (by omega) (by omega) (by omega) (by omega) (by omega) (by omega)
  · intro j hj
    refine f3 0 j (by decide) ?_ (by decide) (by decide) (by decide)
    simp only [List.mem_cons, List.not_mem_nil, or_false] at hj
    omega
  · intro k j h1 h2; exact f3 k j (by omega) (by omega) (by omega) (by omega) (by omega)
  · intro j; exact f3 11 j (by decide) (by omega) (by decide) (by decide) (by decide)
  · intro k j hk; exact f3 k j (by omega) (by omega) (by omega) (by omega) (by omega)
  · intro j; exact f4 25 j (by omega)
