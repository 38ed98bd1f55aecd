/-! SIM: free -/
theorem sm_f1s {l i v : Nat} {f : Nat → Option Nat} (h : f i = some v) : sm_f1 (l + 1) i f = some v := by
  unfold sm_f1; rw [h]
theorem sm_f1n {l i : Nat} {f : Nat → Option Nat} (h : f i = none) : sm_f1 (l + 1) i f = sm_f1 l (i + 1) f :=
  Eq.trans (show sm_f1 (l + 1) i f = (match f i with | some v => some v | none => sm_f1 l (i + 1) f) from rfl) (by rw [h])
def sm_fi (f : Nat → Bool) (j : Nat) : Option Nat := if f j = true then some j else none
theorem sm_fi1 {f : Nat → Bool} {j : Nat} (h : f j = true) : sm_fi f j = some j := by unfold sm_fi; exact if_pos h
theorem sm_fi0 {f : Nat → Bool} {j : Nat} (h : f j = false) : sm_fi f j = none := by unfold sm_fi; rw [h]; exact if_neg Bool.false_ne_true
def sm_fc (f : Nat → Bool) (j : Nat) : Nat := sm_c1 (f j)
theorem sm_fc1 {l i : Nat} {f : Nat → Bool} (h : f i = true) : sm_sum (l + 1) i (sm_fc f) = 1 + sm_sum l (i + 1) (sm_fc f) := by
  show sm_c1 (f i) + _ = _
  rw [h]; rfl
theorem sm_fc0 {l i : Nat} {f : Nat → Bool} (h : f i = false) : sm_sum (l + 1) i (sm_fc f) = sm_sum l (i + 1) (sm_fc f) := by
  show sm_c1 (f i) + _ = _
  rw [h]; exact Nat.zero_add _
theorem sm_ng_cg {k s : Nat} {T T' : Nat → sm_tw} (h : ∀ t, t < k → T t = T' t) (hs : T s = T' s) (R : sm_rd) (S : sm_fs) (F : sm_lf) : sm_ng k T R S F s = sm_ng k T' R S F s := by
  unfold sm_ng
  refine sm_any_cg (fun r _ _ => sm_any_cg (fun i _ _ => sm_any_cg (fun t _ ht => ?_)))
  unfold sm_gs
  rw [h t (by omega), hs]
theorem sm_w0 {w : Nat} (hw : w < 2) (h : ¬ w = 0) : ¬ sm_n w = 0 := by
  have : w = 1 := by omega
  subst this
  decide
section FREE
variable {n : Nat} {T : Nat → sm_tw} {R : sm_rd} {S : sm_fs} {F : sm_lf} {m0 m : gk_M}
theorem x_row {s y w : Nat} (hs : s < 12) (hns : n ≤ s) (hy : y < 30) (hw : w < 2) (f : Nat → Bool) (hf : ∀ i, f i = sm_free n T R S F s (30 * y + i)) : ∀ l i fu acc m, i + l = 30 → l < fu → sm_qf n T R S F s m0 m → sm_ok (f_Planner_freeInRow_25 fu (sm_n y) (sm_n w) (sm_n s) (sm_n acc) (sm_n i) m) (if w = 0 then sm_n (acc + sm_sum l i (sm_fc f)) else sm_on (-2) (sm_f1 l i (sm_fi f))) (sm_qf n T R S F s m0)
  | 0, i, fu + 1, acc, m, h1, h3, hq => by
    unfold f_Planner_freeInRow_25
    rw [if_pos (by simp (disch := omega) only [sm_lit, sm_nlt, sm_nle, sm_neq, sm_n_add, sm_n_mul, sm_n_div, sm_n_rem, sm_bi, sm_bl, sm_bv, sm_let, sm_zz0, sm_zz1, sm_ai, sm_si, sm_al, sm_sl, sm_ar, sm_mi1, sm_mi0, sm_ml1, sm_ml0, sm_mil, sm_mli]; omega)]
    by_cases hw0 : w = 0
    · rw [if_pos (show sm_n w = 0 by rw [hw0]; rfl), if_pos hw0]
      exact sm_okr hq
    · rw [if_neg (sm_w0 hw hw0), if_neg hw0]
      exact sm_okr hq
  | l + 1, i, fu + 1, acc, m, h1, h3, hq => by
    unfold f_Planner_freeInRow_25
    obtain ⟨m1, e1, q1, _⟩ := x_isFreeFor (p := 30 * y + i) hq hs hns (by omega)
    rw [if_neg (by simp (disch := omega) only [sm_lit, sm_nlt, sm_nle, sm_neq, sm_n_add, sm_n_mul, sm_n_div, sm_n_rem, sm_bi, sm_bl, sm_bv, sm_let, sm_zz0, sm_zz1, sm_ai, sm_si, sm_al, sm_sl, sm_ar, sm_mi1, sm_mi0, sm_ml1, sm_ml0, sm_mil, sm_mli]; omega), show 30 * sm_n y + sm_n i = sm_n (30 * y + i) by rw [show (30 : Int32) = sm_n 30 from rfl, sm_n_mul, sm_n_add], show sm_n i + 1 = sm_n (i + 1) from sm_n_add i 1, e1, sm_bi, ← hf i]
    cases hc : f i with
    | false =>
      rw [if_pos (show sm_b2 false = 0 from rfl), sm_fc0 hc, sm_f1n (sm_fi0 hc)]
      exact x_row hs hns hy hw f hf l (i + 1) fu acc m1 (by omega) (by omega) q1
    | true =>
      rw [if_neg (show ¬ sm_b2 true = 0 by decide)]
      by_cases hw0 : w = 0
      · have ih := x_row hs hns hy hw f hf l (i + 1) fu (acc + 1) m1 (by omega) (by omega) q1
        rw [if_pos hw0] at ih
        rw [if_pos (show sm_n w = 0 by rw [hw0]; rfl), if_pos hw0, sm_fc1 hc, show sm_n acc + 1 = sm_n (acc + 1) from sm_n_add acc 1, ← Nat.add_assoc]
        exact ih
      · rw [if_neg (sm_w0 hw hw0), if_neg hw0, sm_f1s (sm_fi1 hc)]
        exact sm_okr q1
theorem m_row {y w : Nat} {h : Int32} (hn : n < 10) (hy : y < 30) (hw : w < 2) (f : Nat → Bool) (hf : ∀ i, f i = sm_mfree T R S F n h n (30 * y + i)) : ∀ l fu m, l ≤ 30 → l < fu → sm_mf n T R S F n m0 m → sm_ok (f_M_free_59 fu (sm_n y) h (sm_n w) (sm_n (sm_sum (30 - l) l (sm_fc f))) (sm_on (-2) (sm_f1 (30 - l) l (sm_fi f))) (sm_i ((l : Int) - 1)) m) (if w = 0 then sm_n (sm_sum 30 0 (sm_fc f)) else sm_on (-2) (sm_f1 30 0 (sm_fi f))) (sm_mf n T R S F n m0)
  | 0, fu + 1, m, h1, h3, hq => by
    unfold f_M_free_59
    rw [if_pos (show sm_i (((0 : Nat) : Int) - 1) < 0 by decide)]
    by_cases hw0 : w = 0
    · rw [if_neg (show ¬ ¬ sm_n w = 0 from fun z => z (by rw [hw0]; rfl)), if_pos hw0]
      exact sm_okr hq
    · rw [if_pos (sm_w0 hw hw0), if_neg hw0]
      exact sm_okr hq
  | l + 1, fu + 1, m, h1, h3, hq => by
    obtain ⟨V, hM, _⟩ := id hq
    have ei : sm_i (((l + 1 : Nat) : Int) - 1) = sm_n l := by rw [sm_ni]; congr 1; omega
    have ed : sm_n l + (-1) = sm_i ((l : Int) - 1) := by
      rw [show (-1 : Int32) = sm_i (-1) from rfl, sm_ni, sm_i_add]; congr 1
    obtain ⟨m1, e1, q1, _⟩ := m_isFree (h := h) (w := n) (p := 30 * y + l) hq (by omega) (Nat.le_refl n) (by omega) (by omega)
    unfold f_M_free_59
    rw [ei, if_neg (sm_nn (by omega)), show 30 * sm_n y + sm_n l = sm_n (30 * y + l) by rw [show (30 : Int32) = sm_n 30 from rfl, sm_n_mul, sm_n_add], ed, hM.1, e1, sm_bi, ← hf l]
    have ih := fun a b => m_row (h := h) hn hy hw f hf l fu m1 a b q1
    have ih := ih (by omega) (by omega)
    have e30 : 30 - l = (30 - (l + 1)) + 1 := by omega
    cases hc : f l with
    | false =>
      rw [e30, sm_fc0 hc, sm_f1n (sm_fi0 hc)] at ih
      rw [if_pos (show sm_b2 false = 0 from rfl)]
      exact ih
    | true =>
      rw [e30, sm_fc1 hc, sm_f1s (sm_fi1 hc), Nat.add_comm 1] at ih
      rw [if_neg (show ¬ sm_b2 true = 0 by decide), show ∀ a, sm_n a + 1 = sm_n (a + 1) from fun a => sm_n_add a 1]
      exact ih
/-- a tower thought of -/
def sm_xth (m : gk_M) (s : Nat) (h : Int32) : gk_M := sm_fill (gk_mi (gk_mi (gk_mi m 10 s h) 11 s 0) 12 s 0) 20 0 0 720
def sm_thT (T : Nat → sm_tw) (s : Nat) (h : Int32) : Nat → sm_tw := sm_up T s ((T s).1, h, 0, min s 10)
theorem sm_X_th (hX : sm_X n T R S F m) {s : Nat} (hs : s < 12) (h : Int32) : sm_X n (sm_thT T s h) R S F (sm_xth m s h) := by
  obtain ⟨x1, x2, x3, x4, x5, x6, x7⟩ := hX
  have fr : ∀ k j, ¬ k = 10 → ¬ k = 11 → ¬ k = 12 → ¬ k = 20 → (sm_xth m s h).1 k j = m.1 k j := by
    intro k j k10 k11 k12 k20
    unfold sm_xth
    rw [sm_fill0 (fun z => k20 z.1), sm_mi0 (fun z => k12 z.1), sm_mi0 (fun z => k11 z.1), sm_mi0 (fun z => k10 z.1)]
  refine ⟨by rw [fr 7 5 (by decide) (by decide) (by decide) (by decide)]; exact x1, x2, ?_, sm_xR_fr (by intro k j hk; exact fr k j (by omega) (by omega) (by omega) (by omega)) x4, sm_xS_fr (by intro k j hk; exact fr k j (by omega) (by omega) (by omega) (by omega)) x5, sm_xF_fr (by intro k j hk; exact fr k j (by omega) (by omega) (by omega) (by omega)) x6, ?_⟩
  · intro t ht
    obtain ⟨a, b, c, d, e, f⟩ := x3 t ht
    have b' : (sm_xth m s h).1 8 t = sm_n ((T t).1 % 30) := by rw [fr 8 t (by decide) (by decide) (by decide) (by decide)]; exact b
    have c' : (sm_xth m s h).1 9 t = sm_n ((T t).1 / 30) := by rw [fr 9 t (by decide) (by decide) (by decide) (by decide)]; exact c
    unfold sm_thT
    by_cases est : t = s
    · subst est
      rw [sm_up1]
      refine ⟨a, b', c', ?_, ?_, rfl⟩
      · unfold sm_xth; rw [sm_fill0 (by omega), sm_mi0 (by omega), sm_mi0 (by omega), sm_mi1]
      · unfold sm_xth; rw [sm_fill0 (by omega), sm_mi1]
    · rw [sm_up0 est]
      refine ⟨a, b', c', ?_, ?_, f⟩
      · unfold sm_xth; rw [sm_fill0 (by omega), sm_mi0 (by omega), sm_mi0 (by omega), sm_mi0 (by omega)]; exact d
      · unfold sm_xth; rw [sm_fill0 (by omega), sm_mi0 (by omega), sm_mi0 (by omega), sm_mi0 (by omega)]; exact e
  · intro k a b hk ha hb
    left
    unfold sm_xth
    exact sm_fill1 ⟨rfl, by omega, by omega⟩
end FREE
theorem rl_T_cg {n : Nat} {TX TM TX' TM' : Nat → sm_tw} (h : rl_T n TX TM) (hx : ∀ t, t < n → TX' t = TX t) (hm : ∀ t, t < n → TM' t = TM t) : rl_T n TX' TM' :=
  ⟨fun t ht => by rw [hx t ht, hm t ht]; exact h.1 t ht, fun s t hst ht => by rw [hx s (by omega), hx t ht]; exact h.2 s t hst ht⟩
theorem c_free {mx mm : gk_M} (h : rl_ mx mm) (a b c : Int32) : sm_al2 mx mm (f_X_free a b c mx) (f_M_free a b c mm) := by
  obtain ⟨n, TX, TM, R, S, F, nb, hX, hM, hT, hP, hK, hS, hH, hB, hR, hD⟩ := id h
  have hn := hX.2.1
  unfold f_X_free f_M_free
  rw [m_within (h := 30) (hi := 29) (by omega) rfl, sm_bi]
  rcases sm_u_cases a 30 (by omega) with ⟨e0, e3⟩ | ⟨y, hy, rfl, e3⟩
  · rw [if_pos e0]
    by_cases h0 : a < 0
    · rw [if_pos h0]; exact sm_al_id h
    · obtain ⟨k, hk, rfl⟩ := sm_get h0
      have : ¬ k < 30 := fun z => e3 k z rfl
      rw [if_neg h0, if_pos (by simp (disch := omega) only [sm_lit, sm_nlt, sm_nle, sm_neq, sm_n_add, sm_n_mul, sm_n_div, sm_n_rem, sm_bi, sm_bl, sm_bv, sm_let, sm_zz0, sm_zz1, sm_ai, sm_si, sm_al, sm_sl, sm_ar, sm_mi1, sm_mi0, sm_ml1, sm_ml0, sm_mil, sm_mli]; omega)]; exact sm_al_id h
  rw [if_neg (sm_nn (by omega)), if_neg (by simp (disch := omega) only [sm_lit, sm_nlt, sm_nle, sm_neq, sm_n_add, sm_n_mul, sm_n_div, sm_n_rem, sm_bi, sm_bl, sm_bv, sm_let, sm_zz0, sm_zz1, sm_ai, sm_si, sm_al, sm_sl, sm_ar, sm_mi1, sm_mi0, sm_ml1, sm_ml0, sm_mil, sm_mli]; omega), if_neg (show ¬ sm_u (sm_n y) 30 = 0 by rw [e3]; decide), x_isHeight, sm_bi, m_within (h := 10) (hi := 9) (by omega) rfl, sm_bi]
  by_cases hb : sm_u b 10 = 0
  · rw [if_pos hb, if_pos hb]; exact sm_al_id h
  rw [if_neg hb, if_neg hb, show (1 : Int32) = sm_n 1 from rfl, x_isChoice c (by omega), sm_bi, m_within (h := 2) (hi := 1) (by omega) rfl, sm_bi]
  rcases sm_u_cases c 2 (by omega) with ⟨e0, e4⟩ | ⟨w, hw, rfl, e4⟩
  · rw [if_neg (fun z => z e0), if_neg (fun z => z e0)]; exact sm_al_id h
  rw [if_pos (show ¬ sm_u (sm_n w) (1 + 1) = 0 by rw [e4]; decide), if_pos (show ¬ sm_u (sm_n w) 2 = 0 by rw [e4]; decide), hX.1, hM.1]
  by_cases hn10 : n = 10
  · rw [hn10, if_neg (by decide), if_neg (by decide)]; exact sm_al_id h
  have ex : (if ¬ sm_n w = sm_n 1 then f_X_free_58 (sm_n y) b 0 mx else f_X_free_58 (sm_n y) b (sm_n 1) mx) = f_X_free_58 (sm_n y) b (sm_n w) mx := by
    rcases (show w = 0 ∨ w = 1 by omega) with rfl | rfl
    · rw [if_pos (by decide)]; rfl
    · rw [if_neg (by decide)]
  rw [if_pos (show sm_n n < 10 by simp (disch := omega) only [sm_lit, sm_nlt, sm_nle, sm_neq, sm_n_add, sm_n_mul, sm_n_div, sm_n_rem, sm_bi, sm_bl, sm_bv, sm_let, sm_zz0, sm_zz1, sm_ai, sm_si, sm_al, sm_sl, sm_ar, sm_mi1, sm_mi0, sm_ml1, sm_ml0, sm_mil, sm_mli]; omega), ex, if_pos (show ¬ sm_n n = 10 by simp (disch := omega) only [sm_lit, sm_nlt, sm_nle, sm_neq, sm_n_add, sm_n_mul, sm_n_div, sm_n_rem, sm_bi, sm_bl, sm_bv, sm_let, sm_zz0, sm_zz1, sm_ai, sm_si, sm_al, sm_sl, sm_ar, sm_mi1, sm_mi0, sm_ml1, sm_ml0, sm_mil, sm_mli]; omega)]
  unfold f_X_free_58 f_Planner_freeInRow
  rw [hX.1, sm_let, x_think (by omega), sm_bv]
  have hX0 := sm_X_th hX (s := n) (by omega) b
  obtain ⟨f, hf⟩ : ∃ f : Nat → Bool, f = fun i => sm_free n (sm_thT TX n b) R S F n (30 * y + i) := ⟨_, rfl⟩
  have hfm : ∀ i, f i = sm_mfree TM R S F n b n (30 * y + i) := by
    intro i
    rw [hf]
    show sm_free n (sm_thT TX n b) R S F n (30 * y + i) = _
    unfold sm_free sm_mfree
    have e1 : sm_has n (sm_thT TX n b) (30 * y + i) = sm_has n TM (30 * y + i) := by
      rw [← sm_has_cg hT]
      unfold sm_has
      exact sm_any_cg (fun j _ hj => by unfold sm_thT; rw [sm_up0 (show ¬ j = n by omega)])
    rw [e1, sm_ng_cg (k := n) (s := n) (T := sm_tp (sm_thT TX n b) n (30 * y + i)) (T' := sm_up TM n (30 * y + i, b, 0, n))]
    · intro t ht
      rw [sm_tp_lt (show t ≠ n by omega), sm_up0 (show ¬ t = n by omega)]
      unfold sm_thT
      rw [sm_up0 (show ¬ t = n by omega)]
      exact hT.1 t ht
    · rw [sm_tp_at, sm_up1]
      unfold sm_thT
      rw [sm_up1, Nat.min_eq_left (by omega)]
  obtain ⟨m1, e1, p1, hp1, X1, x1, x2⟩ := x_row (s := n) (by omega) (Nat.le_refl n) hy hw f (fun i => by rw [hf]) 30 0 gk_fv 0 (sm_xth mx n b) (by omega) (by rw [gk_fv_eq]; omega) (sm_qf0 hX0 (by omega))
  obtain ⟨m2, g2, V2, M2, y1, y2⟩ := m_row (h := b) (by omega) hy hw f hfm 30 gk_fv mm (by omega) (by rw [gk_fv_eq]; omega) (sm_mf0 n hM)
  rw [Nat.zero_add, show sm_n 0 = (0 : Int32) from rfl] at e1
  rw [show sm_n (sm_sum (30 - 30) 30 (sm_fc f)) = (0 : Int32) from rfl, show sm_on (-2) (sm_f1 (30 - 30) 30 (sm_fi f)) = (-2 : Int32) from rfl, show sm_i (((30 : Nat) : Int) - 1) = (29 : Int32) from rfl] at g2
  rw [show f_Planner_freeInRow_25 gk_fv (sm_n y) (sm_n w) (sm_n n) 0 0 (sm_fill (gk_mi (gk_mi (gk_mi mx 10 n b) 11 n 0) 12 n 0) 20 0 0 720) = _ from e1, sm_bi, g2]
  refine ⟨_, m1, m2, rfl, rfl, ?_⟩
  have fx : ∀ k j, ¬ k = 3 → ¬ k = 19 → ¬ k = 20 → ¬ k = 8 → ¬ k = 9 → ¬ k = 10 → ¬ (k = 11 ∧ j = n) → ¬ k = 12 → m1.1 k j = mx.1 k j := by
    intro k j k3 k19 k20 k8 k9 k10 k11 k12
    rw [x1 k j k3 k19 k20 (fun z => k8 z.1) (fun z => k9 z.1)]
    unfold sm_xth
    rw [sm_fill0 (fun z => k20 z.1), sm_mi0 (fun z => k12 z.1), sm_mi0 k11, sm_mi0 (fun z => k10 z.1)]
  refine rl_q2 X1 ?_ ?_ ?_ ?_ ?_ M2 ?_ ?_ ?_ ?_ ?_ (rl_T_cg hT ?_ ?_) hP hK hS hH hB hR hD
  · intro j; exact fx 4 j (by decide) (by decide) (by decide) (by decide) (by decide) (by decide) (by omega) (by decide)
  · intro j; exact fx 6 j (by decide) (by decide) (by decide) (by decide) (by decide) (by decide) (by omega) (by decide)
  · intro j hj; exact fx 11 j (by decide) (by decide) (by decide) (by decide) (by decide) (by decide) (by omega) (by decide)
  · intro k j hk _; exact fx k j (by omega) (by omega) (by omega) (by omega) (by omega) (by omega) (by omega) (by omega)
  · rw [x2]; rfl
  · intro j hj
    refine y1 0 j (by decide) ?_ (by omega) (by omega) (by omega)
    simp only [List.mem_cons, List.not_mem_nil, or_false] at hj
    omega
  · intro k j h1 h2; exact y1 k j (by omega) (by omega) (by omega) (by omega) (by omega)
  · intro j; exact y1 11 j (by decide) (by omega) (by omega) (by omega) (by omega)
  · intro k j hk; exact y1 k j (by omega) (by omega) (by omega) (by omega) (by omega)
  · intro j; exact y2 25 j (by omega)
  · intro t ht
    rw [sm_tp_lt (show t ≠ n by omega)]
    unfold sm_thT
    exact sm_up0 (by omega)
  · intro t ht
    exact sm_up0 (by omega)
